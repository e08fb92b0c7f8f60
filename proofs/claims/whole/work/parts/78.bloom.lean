-- the first day of bloom, by a row of warmths
def fstD (W : Nat → Nat) (need : Nat) : Nat := ((List.range 50).find? (fun d => decide (need ≤ fb_sum W (d + 1)))).getD 50
theorem tabFirst_eq (need : Nat) : tabFirst need = fstD (fun k => 5 + k) need := rfl
theorem fstD_spec (W : Nat → Nat) (need : Nat) : fstD W need ≤ 50 ∧ (∀ d, d < fstD W need → fb_sum W (d + 1) < need) ∧ (fstD W need < 50 → need ≤ fb_sum W (fstD W need + 1)) := by
  unfold fstD
  cases h : (List.range 50).find? (fun d => decide (need ≤ fb_sum W (d + 1))) with
  | none =>
    rw [List.find?_eq_none] at h
    refine ⟨Nat.le_refl _, fun d hd => ?_, fun q => absurd q (by simp)⟩
    have := h d (List.mem_range.mpr hd)
    simp at this
    exact this
  | some F =>
    rw [List.find?_range_eq_some] at h
    obtain ⟨h1, h2, h3⟩ := h
    simp only [Option.getD_some]
    refine ⟨by have := List.mem_range.mp h2; omega, fun d hd => ?_, fun _ => by simpa using h1⟩
    have := h3 d hd
    simp at this
    exact this
theorem fstD_uniq {W : Nat → Nat} {need F : Nat} (h1 : F ≤ 50) (h2 : ∀ d, d < F → fb_sum W (d + 1) < need) (h3 : F < 50 → need ≤ fb_sum W (F + 1)) : F = fstD W need := by
  obtain ⟨g1, g2, g3⟩ := fstD_spec W need
  rcases Nat.lt_trichotomy F (fstD W need) with q | q | q
  · have := g2 F q; have := h3 (by omega); omega
  · exact q
  · have := h2 _ q; have := g3 (by omega); omega
theorem fstD_cong {W W' : Nat → Nat} (h : ∀ d, d < 50 → W' d = W d) (need : Nat) : fstD W' need = fstD W need := by
  obtain ⟨g1, g2, g3⟩ := fstD_spec W' need
  have e : ∀ d, d ≤ 50 → fb_sum W' d = fb_sum W d := fun d hd => fb_sum_cong (fun k hk => h k (by omega))
  exact fstD_uniq g1 (fun d hd => by rw [← e _ (by omega)]; exact g2 d hd) (fun q => by rw [← e _ (by omega)]; exact g3 q)
theorem fbW_le {W : Nat → Nat} (hW : ∀ d, d < 50 → W d ≤ 60) {d : Nat} (hd : d ≤ 50) : fb_sum W d ≤ 3000 := by
  have := fb_bound (f := W) (b := 60) (n := d) (fun k hk => hW k (by omega))
  omega
/-- the class's season of the warmths W: nothing else has changed -/
def Sea (cnt : Nat) (W : Nat → Nat) (S S' : St) : Prop := (∀ i, i < 97 ∨ 100 < i → S'.1 i = S.1 i) ∧ S'.2 = S.2 ∧ (∀ d, d < 50 → S'.1 97 d = nI (W d)) ∧ (∀ d, d ≤ 50 → S'.1 98 d = nI (fb_sum W d)) ∧ ∀ s, s < cnt → S'.1 99 s = nI (fstD W (ix (S.1 109 (5 * s)))) ∧ S'.1 100 s = nI (fstD W (ix (S.1 109 (5 * s))) + ix (S.1 109 (5 * s + 1)) - 1)
/-- the sorts' numbers as the season reads them -/
def SrtN (cnt : Nat) (S : St) : Prop := cnt ≤ 6 ∧ S.1 1 1 = nI cnt ∧ ∀ s, s < cnt → S.1 (8 + 2 * s) 0 = S.1 109 (5 * s) ∧ S.1 (8 + 2 * s) 1 = S.1 109 (5 * s + 1) ∧ (∃ x : Nat, x ≤ 2000 ∧ S.1 109 (5 * s) = nI x) ∧ ∃ x : Nat, 1 ≤ x ∧ x ≤ 9 ∧ S.1 109 (5 * s + 1) = nI x
theorem BookRel.srtN {cnt yr dn : Nat} {S : St} {CL AL : Nat → Int64} (h : BookRel cnt yr dn (fun i => S.1 (1 + i)) CL (S.1 109) AL) : SrtN cnt S := by
  refine ⟨h.1.1, h.1.2.2.1, fun s hs => ?_⟩
  obtain ⟨tk, hS⟩ := h.2.1
  have h6 := h.1.1
  have h0 := (hS s (by omega)).1 hs
  have e8 : 1 + (7 + 2 * s) = 8 + 2 * s := by omega
  simp only [e8] at h0
  exact ⟨h0.1 0 (by decide), h0.1 1 (by decide), h0.2.1, h0.2.2.1⟩
theorem SrtN.cong {cnt : Nat} {S U : St} (h : SrtN cnt S) (e : ∀ i, (1 ≤ i ∧ i ≤ 19) ∨ i = 109 → U.1 i = S.1 i) : SrtN cnt U := by
  obtain ⟨h1, h2, h3⟩ := h
  refine ⟨h1, by rw [e 1 (by omega)]; exact h2, fun s hs => ?_⟩
  rw [e (8 + 2 * s) (by omega), e 109 (by omega)]
  exact h3 s hs
theorem findBlooms_run {cnt : Nat} {W : Nat → Nat} {S : St} (h : SrtN cnt S) (hW : ∀ d, d < 50 → W d ≤ 60) (h97 : ∀ d, d < 50 → S.1 97 d = nI (W d)) : ∃ S', f_X3_findBlooms S = some S' ∧ Sea cnt W S S' := by
  obtain ⟨c6, c1, c2⟩ := h
  -- the sums
  have L1 : ∀ K : St → Option St, ∃ T, ((∀ i, i ≠ 98 → T.1 i = S.1 i) ∧ T.2 = S.2 ∧ ∀ d, d ≤ 50 → T.1 98 d = nI (fb_sum W d)) ∧ f_X3_findBlooms_L9 6000 K 0 (wr S 98 0 0) = K T := by
    intro K
    have := loop_up (N := 50) (fun n i T => f_X3_findBlooms_L9 n K i T) K (fun j T => (∀ i, i ≠ 98 → T.1 i = S.1 i) ∧ T.2 = S.2 ∧ ∀ d, d ≤ j → T.1 98 d = nI (fb_sum W d)) (fun n j T hj hP => by
      obtain ⟨p1, p2, p3⟩ := hP
      have h1 : (nI j < (50 : Int32)) = True := ltT hj (by decide)
      have h2 : inb (nI j) 51 = true := inb_nI (by omega) (by decide)
      have h2' : inb (nI j) 50 = true := inb_nI hj (by decide)
      have h2'' : inb (nI (j + 1)) 51 = true := inb_nI (by omega) (by decide)
      have h3 : ix (nI j) = j := ix_nI (by omega)
      have h3' : ix (nI (j + 1)) = j + 1 := ix_nI (by omega)
      have h4 : rd T 98 j = nI (fb_sum W j) := p3 j (Nat.le_refl _)
      have h5 : rd T 97 j = nI (W j) := by show T.1 97 j = _; rw [p1 97 (by decide)]; exact h97 j hj
      refine ⟨wr T 98 (j + 1) (nI (fb_sum W (j + 1))), ⟨fun i hi => by rw [wr1_ne hi]; exact p1 i hi, p2, fun d hd => ?_⟩, by simp only [f_X3_findBlooms_L9, h1, h2, h2', nI_1, h2'', h3, h3', h4, h5, nI_add, if_true]; rfl⟩
      rw [wr1_eq]
      by_cases e : d = j + 1
      · rw [if_pos e, e]
      · rw [if_neg e]; exact p3 d (by omega)) (fun n T hP => by
      have h1 : (nI 50 < (50 : Int32)) = False := ltF (N := 50) (by decide) (by decide)
      simp only [f_X3_findBlooms_L9, h1, if_false]) (fuel := 6000) (T := wr S 98 0 0) (by decide) ⟨fun i hi => by rw [wr1_ne hi], rfl, fun d hd => by rw [wr1_eq, if_pos (by omega), show d = 0 from by omega]; rfl⟩
    rw [nI_0] at this
    exact this
  -- one sort's first day
  have L2 : ∀ (s : Nat) (T : St) (K : Int32 → Int32 → St → Option St), s < cnt → (∀ i, (1 ≤ i ∧ i ≤ 19) → T.1 i = S.1 i) → (∀ d, d ≤ 50 → T.1 98 d = nI (fb_sum W d)) → f_X3_findBlooms_L54 6000 K (nI s) 0 T = K (nI s) (nI (fstD W (ix (S.1 109 (5 * s))))) T := by
    intro s T K hs o1 o2
    obtain ⟨s0, s1, ⟨x, hx, ex⟩, -⟩ := c2 s hs
    have hin : inb (nI s) 6 = true := inb_nI (by omega) (by decide)
    have hix : ix (nI s) = s := ix_nI (by omega)
    have e0 : rd T (8 + 2 * s) 0 = nI x := by show T.1 _ 0 = _; rw [o1 _ (by omega), s0, ex]
    rw [ex, ix_nI (by omega)]
    have := loop_q (N := 50) (fun n i (u : Unit) => f_X3_findBlooms_L54 n K (nI s) i T) (fun j _ => ∀ d, d < j → fb_sum W (d + 1) < x) (fun r => r = K (nI s) (nI (fstD W x)) T) (fun n j u hj hP => by
      have h1 : (nI j < (50 : Int32)) = True := ltT hj (by decide)
      have h2 : inb (nI (j + 1)) 51 = true := inb_nI (by omega) (by decide)
      have h3 : ix (nI (j + 1)) = j + 1 := ix_nI (by omega)
      have h4 : rd T 98 (j + 1) = nI (fb_sum W (j + 1)) := o2 (j + 1) (by omega)
      have hb := fbW_le hW (d := j + 1) (by omega)
      by_cases l : fb_sum W (j + 1) < x
      · left
        have l' : (nI (fb_sum W (j + 1)) < nI x) = True := ltT l (by omega)
        refine ⟨(), fun d hd => ?_, by simp only [f_X3_findBlooms_L54, h1, nI_1, h2, h3, hin, hix, h4, e0, l', if_true]⟩
        by_cases e : d = j
        · rw [e]; exact l
        · exact hP d (by omega)
      · right
        have l' : (nI (fb_sum W (j + 1)) < nI x) = False := ltF (by omega) (by omega)
        have : j = fstD W x := fstD_uniq (by omega) hP (fun _ => by omega)
        rw [← this]
        simp only [f_X3_findBlooms_L54, h1, nI_1, h2, h3, hin, hix, h4, e0, l', if_true, if_false]) (fun n u hP => by
      have h1 : (nI 50 < (50 : Int32)) = False := ltF (N := 50) (by decide) (by decide)
      have : 50 = fstD W x := fstD_uniq (by omega) hP (fun q => absurd q (by omega))
      simp only [f_X3_findBlooms_L54, h1, if_false]
      rw [← this]) 50 0 6000 () (by omega) (by omega) (fun d hd => absurd hd (by omega))
    rw [nI_0] at this
    exact this
  obtain ⟨T1, ⟨a1, a2, a3⟩, e1⟩ := L1 (fun T42 => (f_X3_findBlooms_L44 6000 (fun T118 => (some T118)) (0 : Int32) T42))
  have L3 := loop_up (N := cnt) (fun n i T => f_X3_findBlooms_L44 n (fun T118 => (some T118)) i T) (fun T => some T) (fun j T => (∀ i, i ≠ 99 → i ≠ 100 → T.1 i = T1.1 i) ∧ T.2 = T1.2 ∧ ∀ s, s < j → T.1 99 s = nI (fstD W (ix (S.1 109 (5 * s)))) ∧ T.1 100 s = nI (fstD W (ix (S.1 109 (5 * s))) + ix (S.1 109 (5 * s + 1)) - 1)) (fun n j T hj hP => by
    obtain ⟨p1, p2, p3⟩ := hP
    obtain ⟨s0, s1, -, ⟨y, hy1, hy9, ey⟩⟩ := c2 j hj
    have h1 : (nI j < nI cnt) = True := ltT hj (by omega)
    have hc : rd T 1 1 = nI cnt := by show T.1 1 1 = _; rw [p1 1 (by decide) (by decide), a1 1 (by decide)]; exact c1
    have hin : inb (nI j) 6 = true := inb_nI (by omega) (by decide)
    have hix : ix (nI j) = j := ix_nI (by omega)
    have oT : ∀ i, i ≠ 98 → i ≠ 99 → i ≠ 100 → T.1 i = S.1 i := fun i x y z => by rw [p1 i y z, a1 i x]
    generalize hF : fstD W (ix (S.1 109 (5 * j))) = F
    have e54 := fun K => L2 j T K hj (fun i hi => oT i (by omega) (by omega) (by omega)) (fun d hd => by rw [p1 98 (by decide) (by decide)]; exact a3 d hd)
    rw [hF] at e54
    have e8 : rd (wr T 99 j (nI F)) (8 + 2 * j) 1 = nI y := by
      show (wr T 99 j (nI F)).1 (8 + 2 * j) 1 = _
      rw [wr1_ne (by omega), oT _ (by omega) (by omega) (by omega), s1, ey]
    have esub : nI F + nI y - 1 = nI (F + y - 1) := by rw [nI_add]; exact pk_sub (b := 1) (by omega)
    refine ⟨wr (wr T 99 j (nI F)) 100 j (nI (F + y - 1)), ⟨fun i x z => by rw [wr1_ne z, wr1_ne x]; exact p1 i x z, p2, fun s hs => ?_⟩, ?_⟩
    · rw [wr1_ne (by decide : (99 : Nat) ≠ 100), wr1_eq, wr1_eq, wr1_ne (by decide : (100 : Nat) ≠ 99)]
      by_cases e : s = j
      · subst e
        rw [if_pos rfl, if_pos rfl, hF, ey, ix_nI (n := y) (by omega)]
        exact ⟨rfl, rfl⟩
      · rw [if_neg e, if_neg e]; exact p3 s (by omega)
    · simp only [f_X3_findBlooms_L44, hc, h1, if_true]
      rw [e54]
      simp only [hin, hix, if_true, nI_1, e8, esub]) (fun n T hP => by
    have h1 : (nI cnt < nI cnt) = False := ltF (Nat.le_refl _) (by omega)
    have hc : rd T 1 1 = nI cnt := by show T.1 1 1 = _; rw [hP.1 1 (by decide) (by decide), a1 1 (by decide)]; exact c1
    simp only [f_X3_findBlooms_L44, hc, h1, if_false]) (fuel := 6000) (T := T1) (by omega) ⟨fun _ _ _ => rfl, rfl, fun s hs => absurd hs (by omega)⟩
  rw [nI_0] at L3
  obtain ⟨T2, ⟨b1, b2, b3⟩, e2⟩ := L3
  refine ⟨T2, ?_, ?_⟩
  · unfold f_X3_findBlooms
    rw [ix_0, e1]
    exact e2
  · refine ⟨fun i hi => by rw [b1 i (by omega) (by omega), a1 i (by omega)], b2.trans a2, fun d hd => ?_, fun d hd => ?_, b3⟩
    · rw [b1 97 (by decide) (by decide), a1 97 (by decide)]; exact h97 d hd
    · rw [b1 98 (by decide) (by decide)]; exact a3 d hd
theorem Sea.of {cnt : Nat} {W : Nat → Nat} {S T S' : St} (hT : ∀ i, i ≠ 97 → T.1 i = S.1 i) (hT2 : T.2 = S.2) (h : Sea cnt W T S') : Sea cnt W S S' := by
  obtain ⟨h1, h2, h3, h4, h5⟩ := h
  rw [hT 109 (by decide)] at h5
  exact ⟨fun i hi => by rw [h1 i hi, hT i (by omega)], h2.trans hT2, h3, h4, h5⟩
theorem readYear_run {cnt dn : Nat} {S : St} (h : ClsW dn S) (hs : SrtN cnt S) : ∃ S', f_X3_readYear (clsSh S) S = some S' ∧ Sea cnt (warmF S) S S' := by
  have fin : ∀ T, Fill S 97 0 (fun d => nI (warmF S d)) 50 T → ∃ S', (f_X3_findBlooms T).bind (fun v29 => (some v29)) = some S' ∧ Sea cnt (warmF S) S S' := by
    intro T hF
    obtain ⟨S', e, q⟩ := findBlooms_run (W := warmF S) (hs.cong (U := T) (fun i hi => hF.1 i (by omega))) (fun d hd => warmF_le h.1 hd) (fun d hd => by have := hF.at (k := d) hd; rw [Nat.zero_add] at this; exact this)
    exact ⟨S', by rw [e]; rfl, Sea.of hF.1 hF.2.1 q⟩
  have step : ∀ j T, j < 50 → Fill S 97 0 (fun d => nI (warmF S d)) j T → f_X3_warmthNow (clsSh S) (nI j) T = some (nI (warmF S j)) := by
    intro j T hj hF
    have hc := h.cong (U := T) (fun i hi => hF.1 i (by omega))
    have := now_run hc hj
    rw [clsSh_cong (S := S) (by rw [hF.1 109 (by decide)]), warmF_cong (S := S) (fun i hi => hF.1 i (by omega))] at this
    exact this
  cases hq : clsSh S with
  | none =>
    rw [hq] at step
    obtain ⟨T, hF, e⟩ := loop_up (N := 50) (fun n i T => f_X3_readYear_n_L2 n (fun T27 => ((f_X3_findBlooms T27).bind fun v29 => (some v29))) i T) (fun T27 => ((f_X3_findBlooms T27).bind fun v29 => (some v29))) (fun j T => Fill S 97 0 (fun d => nI (warmF S d)) j T) (fun n j T hj hP => by
      refine ⟨_, hP.step, ?_⟩
      have h1 : (nI j < (50 : Int32)) = True := ltT hj (by decide)
      have h2 : inb (nI j) 50 = true := inb_nI hj (by decide)
      have h3 : ix (nI j) = j := ix_nI (by omega)
      have h4 : f_X3_warmthNow_n (nI j) T = some (nI (warmF S j)) := step j T hj hP
      simp only [f_X3_readYear_n_L2, h1, h2, h3, h4, nI_1, if_true, Option.bind_some, Nat.zero_add]) (fun n T hP => by
      have h1 : (nI 50 < (50 : Int32)) = False := ltF (N := 50) (by decide) (by decide)
      simp only [f_X3_readYear_n_L2, h1, if_false]) (fuel := 6000) (by decide) (Fill.zero S 97 0 _)
    obtain ⟨S', e', q⟩ := fin T hF
    rw [nI_0] at e
    exact ⟨S', e.trans e', q⟩
  | some u =>
    rw [hq] at step
    obtain ⟨T, hF, e⟩ := loop_up (N := 50) (fun n i T => f_X3_readYear_s_L2 n (fun T27 => ((f_X3_findBlooms T27).bind fun v29 => (some v29))) u i T) (fun T27 => ((f_X3_findBlooms T27).bind fun v29 => (some v29))) (fun j T => Fill S 97 0 (fun d => nI (warmF S d)) j T) (fun n j T hj hP => by
      refine ⟨_, hP.step, ?_⟩
      have h1 : (nI j < (50 : Int32)) = True := ltT hj (by decide)
      have h2 : inb (nI j) 50 = true := inb_nI hj (by decide)
      have h3 : ix (nI j) = j := ix_nI (by omega)
      have h4 : f_X3_warmthNow_s u (nI j) T = some (nI (warmF S j)) := step j T hj hP
      simp only [f_X3_readYear_s_L2, h1, h2, h3, h4, nI_1, if_true, Option.bind_some, Nat.zero_add]) (fun n T hP => by
      have h1 : (nI 50 < (50 : Int32)) = False := ltF (N := 50) (by decide) (by decide)
      simp only [f_X3_readYear_s_L2, h1, if_false]) (fuel := 6000) (by decide) (Fill.zero S 97 0 _)
    obtain ⟨S', e', q⟩ := fin T hF
    rw [nI_0] at e
    exact ⟨S', e.trans e', q⟩
theorem readTable_run {cnt : Nat} {S : St} (hs : SrtN cnt S) : ∃ S', f_X3_readTable S = some S' ∧ Sea cnt (fun k => 5 + k) S S' := by
  obtain ⟨T, hF, e⟩ := loop_up (N := 50) (fun n i T => f_X3_readTable_L2 n (fun T24 => ((f_X3_findBlooms T24).bind fun v26 => (some v26))) i T) (fun T24 => ((f_X3_findBlooms T24).bind fun v26 => (some v26))) (fun j T => Fill S 97 0 (fun d => nI (5 + d)) j T) (fun n j T hj hP => by
    refine ⟨_, hP.step, ?_⟩
    have h1 : (nI j < (50 : Int32)) = True := ltT hj (by decide)
    have h2 : inb (nI j) 50 = true := inb_nI hj (by decide)
    have h3 : ix (nI j) = j := ix_nI (by omega)
    have h4 : (5 : Int32) + nI j = nI (5 + j) := by rw [show (5 : Int32) = nI 5 from rfl, nI_add]
    simp only [f_X3_readTable_L2, f_X3_tableWarmth, h1, h2, h3, h4, nI_1, if_true, Nat.zero_add]) (fun n T hP => by
    have h1 : (nI 50 < (50 : Int32)) = False := ltF (N := 50) (by decide) (by decide)
    simp only [f_X3_readTable_L2, h1, if_false]) (fuel := 6000) (by decide) (Fill.zero S 97 0 _)
  obtain ⟨S', e', q⟩ := findBlooms_run (W := fun k => 5 + k) (hs.cong (U := T) (fun i hi => hF.1 i (by omega))) (fun d hd => by show 5 + d ≤ 60; omega) (fun d hd => by have := hF.at (k := d) hd; rw [Nat.zero_add] at this; exact this)
  rw [nI_0] at e
  exact ⟨S', by unfold f_X3_readTable; rw [e, e']; rfl, Sea.of hF.1 hF.2.1 q⟩
/-- the reference's first day -/
theorem firstDay_gen {s x : Nat} {S : St} (tb : Bool) (W : Nat → Nat) (hs : s < 6) (hx : x ≤ 2000) (ex : S.1 109 (5 * s) = nI x) (hW : ∀ d, d < 50 → W d ≤ 60) (hv : (tb = true ∧ ∀ d, W d = 5 + d) ∨ (tb = false ∧ ∀ d, d < 50 → f_X7_warm (nI d) S = some (nI (W d)))) : f_X7_firstDay (nI s) tb S = some (if fstD W x < 50 then nI (fstD W x) else 100) := by
  have e0 : f_X7_sortOf (nI s) 0 S = some (nI x) := by
    have := sortOf_nat (s := s) (k := 0) hs (by decide) S
    rw [show rd S 109 (5 * s + 0) = nI x from ex] at this
    exact this
  have := loop_q (N := 50) (fun n i (v : Int32) => f_X7_firstDay_L5 n (some (100 : Int32)) (nI s) tb v i S) (fun j v => v = nI (fb_sum W j) ∧ ∀ d, d < j → fb_sum W (d + 1) < x) (fun r => r = some (if fstD W x < 50 then nI (fstD W x) else 100)) (fun n j v hj hP => by
    obtain ⟨p1, p2⟩ := hP
    have h1 : (nI j < (50 : Int32)) = True := ltT hj (by decide)
    have hb := fbW_le hW (d := j + 1) (by omega)
    have body : f_X7_firstDay_L5 (n + 1) (some (100 : Int32)) (nI s) tb v (nI j) S = if nI (fb_sum W (j + 1)) < nI x then f_X7_firstDay_L5 n (some (100 : Int32)) (nI s) tb (nI (fb_sum W (j + 1))) (nI (j + 1)) S else some (nI j) := by
      rcases hv with ⟨rfl, q⟩ | ⟨rfl, q⟩
      · have e5 : nI (fb_sum W j) + ((5 : Int32) + nI j) = nI (fb_sum W (j + 1)) := by
          rw [show (5 : Int32) = nI 5 from rfl, nI_add, nI_add, fb_sum, q j]
        simp only [f_X7_firstDay_L5, h1, e0, Option.bind_some, if_true, p1, e5, nI_1]
      · have e5 : nI (fb_sum W j) + nI (W j) = nI (fb_sum W (j + 1)) := by rw [nI_add, fb_sum]
        simp only [f_X7_firstDay_L5, h1, e0, q j hj, Option.bind_some, if_true, Bool.false_eq_true, if_false, p1, e5, nI_1]
    by_cases l : fb_sum W (j + 1) < x
    · left
      refine ⟨nI (fb_sum W (j + 1)), ⟨rfl, fun d hd => ?_⟩, by rw [body, if_pos (nI_lt l (by omega))]⟩
      by_cases e : d = j
      · rw [e]; exact l
      · exact p2 d (by omega)
    · right
      have : j = fstD W x := fstD_uniq (by omega) p2 (fun _ => by omega)
      rw [body, if_neg (nI_nlt (by omega) (by omega)), ← this, if_pos hj]) (fun n v hP => by
    have h1 : (nI 50 < (50 : Int32)) = False := ltF (N := 50) (by decide) (by decide)
    have : 50 = fstD W x := fstD_uniq (by omega) hP.2 (fun q => absurd q (by omega))
    simp only [f_X7_firstDay_L5, h1, if_false]
    rw [← this, if_neg (by omega)]) 50 0 6000 0 (by omega) (by omega) ⟨rfl, fun d hd => absurd hd (by omega)⟩
  rw [nI_0] at this
  exact this
theorem firstDay_year {s x dn : Nat} {S : St} (h : RefW dn S) (hs : s < 6) (hx : x ≤ 2000) (ex : S.1 109 (5 * s) = nI x) : f_X7_firstDay (nI s) false S = some (if fstD (warmF S) x < 50 then nI (fstD (warmF S) x) else 100) :=
  firstDay_gen false (warmF S) hs hx ex (fun d hd => warmF_le h hd) (Or.inr ⟨rfl, fun d hd => warm_run h hd⟩)
theorem firstDay_table {s x : Nat} {S : St} (hs : s < 6) (hx : x ≤ 2000) (ex : S.1 109 (5 * s) = nI x) : f_X7_firstDay (nI s) true S = some (if fstD (fun k => 5 + k) x < 50 then nI (fstD (fun k => 5 + k) x) else 100) :=
  firstDay_gen true (fun k => 5 + k) hs hx ex (fun d hd => by show 5 + d ≤ 60; omega) (Or.inl ⟨rfl, fun d => rfl⟩)
/-- the season's cells are related to nothing -/
theorem Rel.season {B cnt : Nat} {W : Nat → Nat} {S S' : St} (hR : Rel B S) (h : Sea cnt W S S') : Rel B S' := by
  obtain ⟨h1, h2, -⟩ := h
  obtain ⟨cnt, yr, dn, g1, g2, ⟨g3, g4⟩, g5, g6, g7⟩ := hR
  refine ⟨cnt, yr, dn, g1, ?_, ⟨by rw [h1 0 (by omega), h1 108 (by omega)]; exact g3, ?_⟩, fun s hs => ?_, ?_, by rw [h1 0 (by omega), h1 108 (by omega)]; exact g7.1, by rw [h1 106 (by omega)]; exact g7.2⟩
  · rw [h2, h1 109 (by omega)]; exact g2.cong (fun i hi => h1 _ (by omega))
  · rw [h1 108 (by omega)]
    rcases g4 with g4 | ⟨g4, c', y', d', w1, w2⟩
    · exact Or.inl g4
    · exact Or.inr ⟨g4, c', y', d', w1, by rw [h2, h1 110 (by omega)]; exact w2.cong (fun i hi => h1 _ (by omega))⟩
  · rw [h1 (88 + 2 * s) (by omega), h1 (89 + 2 * s) (by omega), h1 113 (by omega), h1 114 (by omega), h1 115 (by omega)]
    exact g5 s hs
  · rw [h1 101 (by omega), h1 104 (by omega), h1 109 (by omega), h1 116 (by omega), h1 108 (by omega)]
    exact g6
theorem sum7_run {d dn : Nat} {S : St} (h : RefW dn S) (hd : d < 50) : f_X7_sum_L17 6000 (fun e36_2 T36 => (some (e36_2, T36))) (nI d) 0 0 S = some (nI (fb_sum (warmF S) (d + 1)), S) := by
  have := loop_up (N := d + 1) (fun n i (v : Int32) => f_X7_sum_L17 n (fun e36_2 T36 => (some (e36_2, T36))) (nI d) v i S) (fun v => some (v, S)) (fun j v => v = nI (fb_sum (warmF S) j)) (fun n j v hj hP => by
    refine ⟨_, rfl, ?_⟩
    have h1 : (nI d < nI j) = False := ltF (by omega) (by omega)
    simp only [f_X7_sum_L17, h1, if_false, warm_run h (show j < 50 by omega), Option.bind_some, hP, nI_add, nI_1, fb_sum]) (fun n v hP => by
    have h1 : (nI d < nI (d + 1)) = True := ltT (by omega) (by omega)
    simp only [f_X7_sum_L17, h1, if_true]) (fuel := 6000) (T := 0) (by omega) rfl
  rw [nI_0] at this
  obtain ⟨v, hv, e⟩ := this
  subst hv
  exact e
theorem sm_sum (x : Int32) : Sm Rel (f_X6_sum x) (f_X7_sum x) := by
  intro B S hB hR
  obtain ⟨cnt, yr, dn, g1, g2, g34, g5, g6, g7⟩ := id hR
  have hc := g2.clsW g5
  by_cases h1 : f_X6_isDay x = true
  · obtain ⟨d, -, hd, rfl⟩ := within_nat (a := 0) (b := 49) (by decide) (by decide) h1
    obtain ⟨S', e, hq⟩ := readYear_run hc g2.srtN
    have hin : inb (nI (d + 1)) 51 = true := inb_nI (by omega) (by decide)
    have hix : ix (nI (d + 1)) = d + 1 := ix_nI (by omega)
    have e98 : rd S' 98 (d + 1) = nI (fb_sum (warmF S) (d + 1)) := hq.2.2.2.1 (d + 1) (by omega)
    have hc' := hc.1.cong (U := S') (fun i hi => hq.1 i (by omega))
    have e7 := sum7_run hc' (d := d) (by omega)
    rw [show warmF S' = warmF S from funext (fun k => warmF_cong (fun i hi => hq.1 i (by omega)) k)] at e7
    exact ⟨nI (fb_sum (warmF S) (d + 1)), S', S', by simp only [f_X6_sum, h1, if_true, named_run hc, e, Option.bind_some, nI_1, hin, hix, e98], by simp only [f_X7_sum, isDay_eq, h1, if_true, e7], (hR.season hq).mono⟩
  · exact ⟨-1, (f_X6_finding (-1) S).2, (f_X7_found (-1) (f_X6_finding (-1) S).2).2, by simp only [f_X6_sum, h1, if_false]; rfl, by simp only [f_X7_sum, isDay_eq, h1, if_false]; rfl, hR.found _ _⟩
theorem sm_blooms (x : Int32) : Sm Rel (f_X6_blooms x) (f_X7_blooms x) := by
  intro B S hB hR
  obtain ⟨cnt, yr, dn, g1, g2, g34, g5, g6, g7⟩ := id hR
  have hH := g2.1
  have hc6 : cnt ≤ 6 := hH.1
  have hc1 : rd S 1 1 = nI cnt := hH.2.2.1
  have hc2 : rd S 109 782 = nI cnt := hH.2.2.2.1
  have hsb : ∀ T : St, rd T 109 782 = rd S 109 782 → ∀ y, f_X7_isSort y T = some (f_X6_isSort y S) := fun T hT y => by
    unfold f_X7_isSort f_X6_isSort; rw [ix_782, hT, hc1, hc2]; rfl
  have hsF : ∀ c y, f_X7_isSort y (f_X6_finding c S).2 = some (f_X6_isSort y S) := fun c y => hsb _ (fnd_rd c S (by decide)) y
  have hc := g2.clsW g5
  have hsr := g2.srtN
  by_cases h1 : f_X6_isSort x S = true
  · obtain ⟨s, hs, rfl⟩ := sort_nat hc6 hc1 h1
    obtain ⟨S', e, hq⟩ := readYear_run hc hsr
    obtain ⟨-, -, ⟨y, hy, ey⟩, -⟩ := hsr.2.2 s hs
    have hin : inb (nI s) 6 = true := inb_nI (by omega) (by decide)
    have hix : ix (nI s) = s := ix_nI (by omega)
    have h109 : S'.1 109 = S.1 109 := hq.1 109 (by omega)
    have e99 : rd S' 99 s = nI (fstD (warmF S) y) := by have := (hq.2.2.2.2 s hs).1; rw [ey, ix_nI (by omega)] at this; exact this
    have hF := (fstD_spec (warmF S) y).1
    have hc' : RefW dn S' := hc.1.cong (fun i hi => hq.1 i (by omega))
    have e7 : ∀ U : St, (∀ i, i ≠ 0 → U.1 i = S'.1 i) → f_X7_firstDay (nI s) false U = some (if fstD (warmF S) y < 50 then nI (fstD (warmF S) y) else 100) := fun U hU => by
      have hc'' : RefW dn U := hc'.cong (fun i hi => hU i (by omega))
      have := firstDay_year hc'' (s := s) (x := y) (by omega) hy (by rw [hU 109 (by decide), h109]; exact ey)
      rw [show warmF U = warmF S from funext (fun k => (warmF_cong (fun i hi => by rw [hU i (by omega), hq.1 i (by omega)]) k))] at this
      exact this
    by_cases l : fstD (warmF S) y < 50
    · have l' : (nI (fstD (warmF S) y) < (50 : Int32)) = True := ltT l (by decide)
      have n100 : (nI (fstD (warmF S) y) = (100 : Int32)) = False := eq_false (fun q => by
        have := (nI_eq (b := 100) (by omega) (by decide)).mp q; omega)
      have hb : f_X3_hasBloom (nI s) S' = some true := by simp only [f_X3_hasBloom, hin, hix, e99, l', if_true]
      have e7' := e7 S' (fun _ _ => rfl)
      rw [if_pos l] at e7'
      exact ⟨nI (fstD (warmF S) y), S', S', by simp only [f_X6_blooms, h1, if_true, named_run hc, e, Option.bind_some, hb, hin, hix, e99], by simp only [f_X7_blooms, hsb S' (by show S'.1 109 782 = _; rw [h109]; rfl), h1, if_true, Option.bind_some, e7', n100, if_false], (hR.season hq).mono⟩
    · have l' : (nI (fstD (warmF S) y) < (50 : Int32)) = False := ltF (N := 50) (by omega) (by omega)
      have hb : f_X3_hasBloom (nI s) S' = some false := by simp only [f_X3_hasBloom, hin, hix, e99, l', if_true, if_false]
      have e7' := e7 (f_X6_finding (-6) S').2 (fun i hi => by simp only [f_X6_finding]; rw [wr1_ne hi])
      rw [if_neg l] at e7'
      exact ⟨-6, (f_X6_finding (-6) S').2, (f_X7_found (-6) (f_X6_finding (-6) S').2).2, by simp only [f_X6_blooms, h1, if_true, named_run hc, e, Option.bind_some, hb, Bool.false_eq_true, if_false]; rfl, by simp only [f_X7_blooms, hsb (f_X6_finding (-6) S').2 (by rw [fnd_rd _ S' (by decide)]; show S'.1 109 782 = _; rw [h109]; rfl), h1, if_true, Option.bind_some, e7']; rfl, (hR.season hq).found _ _⟩
  · exact ⟨-1, (f_X6_finding (-1) S).2, (f_X7_found (-1) (f_X6_finding (-1) S).2).2, by simp only [f_X6_blooms, h1, if_false]; rfl, by simp only [f_X7_blooms, hsF, h1, Option.bind_some, if_false]; rfl, hR.found _ _⟩
