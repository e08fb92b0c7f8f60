def budP (A : Nat → Int32) (k : Nat) : Nat := if ptA A k = true then shrA A k else 0
theorem remK (k : Nat) (hk : k < 24) : nI k - nI k / 2 * 2 = nI (k % 2) := by
  rw [show (2 : Int32) = nI 2 from rfl, pk_rem (by omega) (by decide) (by decide)]
theorem opnA_pt {A : Nat → Int32} {W : Nat → Nat} {k day : Nat} (h : opnA A W k day = true) : ptA A k = true := by
  unfold opnA at h; simp only [Bool.and_eq_true] at h; exact h.1
theorem remK' (k : Nat) (hk : k < 24) : nI k - nI (k / 2) * 2 = nI (k % 2) := by
  rw [← halfK k hk]; exact remK k hk
/-- the reference's two rows, of partners and of buds -/
theorem rows115 {cnt yr dn : Nat} {S : St} (h : OrA cnt yr (S.1 109)) (hw : RefW dn S) {day : Nat} (hd : day < 50) (dt : Int32) (K : Int32 → Int32 → St → Option St) : ∃ S', f_X7_day_L115 6000 K (nI day) dt 0 S = K (nI day) dt S' ∧ S'.2 = S.2 ∧ (∀ i, i ≠ 118 → i ≠ 119 → S'.1 i = S.1 i) ∧ ∀ k, k < 24 → S'.1 119 k = nI (prtA (S.1 109) (warmF S) k day) ∧ S'.1 118 k = nI (budP (S.1 109) k) := by
  have := loop_up (N := 24) (fun n i U => f_X7_day_L115 n K (nI day) dt i U) (fun U => K (nI day) dt U) (fun j U => U.2 = S.2 ∧ (∀ i, i ≠ 118 → i ≠ 119 → U.1 i = S.1 i) ∧ ∀ k, k < j → U.1 119 k = nI (prtA (S.1 109) (warmF S) k day) ∧ U.1 118 k = nI (budP (S.1 109) k)) (fun n j U hj hP => by
    obtain ⟨p1, p2, p3⟩ := hP
    have h109 : U.1 109 = S.1 109 := p2 109 (by decide) (by decide)
    have hwU : RefW dn U := hw.cong (fun i hi => p2 i (by omega) (by omega))
    have hWe : warmF U = warmF S := funext (fun d => warmF_cong (fun i hi => p2 i (by omega) (by omega)) d)
    have hAU : OrA cnt yr (U.1 109) := by rw [h109]; exact h
    have epr := partnersR hAU hwU hj hd
    rw [h109, hWe] at epr
    have h1 : (nI j < (24 : Int32)) = True := ltT hj (by decide)
    have hin : inb (nI j) 24 = true := inb_nI hj (by decide)
    have hix : ix (nI j) = j := ix_nI (by omega)
    generalize hv : prtA (S.1 109) (warmF S) j day = v at *
    have V109 : (wr U 119 j (nI v)).1 109 = S.1 109 := by rw [wr1_ne (by decide), h109]
    have hAV : OrA cnt yr ((wr U 119 j (nI v)).1 109) := by rw [V109]; exact h
    have ept := partR hAV hj
    rw [V109] at ept
    have ek : f_X7_get (nI (j / 2)) 2 (wr U 119 j (nI v)) = some (S.1 109 (66 + 11 * (j / 2) + 2)) := by
      rw [get_k (khalf_lt hj)]; show some ((wr U 119 j (nI v)).1 109 _) = _; rw [V109]
    have er : (nI (j % 2) = 0) = (j % 2 = 0) := by
      apply propext
      rw [show (0 : Int32) = nI 0 from rfl]
      exact nI_eq (by omega) (by decide)
    refine ⟨wr (wr U 119 j (nI v)) 118 j (nI (budP (S.1 109) j)), ⟨p1, fun i a b => by rw [wr1_ne a, wr1_ne b]; exact p2 i a b, fun k hk => ?_⟩, ?_⟩
    · rw [wr1_ne (by decide : (119 : Nat) ≠ 118), wr1_eq, wr1_eq, wr1_ne (by decide : (118 : Nat) ≠ 119)]
      by_cases e : k = j
      · subst e; rw [if_pos rfl, if_pos rfl, hv]; exact ⟨rfl, rfl⟩
      · rw [if_neg e, if_neg e]; exact p3 k (by omega)
    · simp only [f_X7_day_L115, h1, if_true, epr, Option.bind_some, hin, hix, ept, halfK j hj, remK' j hj, ek, nI_1, er]
      unfold budP
      by_cases hpt : ptA (S.1 109) j = true
      · have ht := ptA_tree hpt
        have hb := bdA_le h (khalf_lt hj) ht
        have eb := budsR hAV (khalf_lt hj) (by rw [V109]; exact ht)
        rw [V109] at eb
        rw [if_pos hpt, if_pos hpt, eb]
        simp only [Option.bind_some]
        unfold shrA
        by_cases k2 : S.1 109 (66 + 11 * (j / 2) + 2) = 2
        · rw [if_pos k2, if_pos k2, half_n (by omega)]
          by_cases r0 : j % 2 = 0
          · rw [if_pos r0, if_pos r0]
          · rw [if_neg r0, if_neg r0, pk_sub (by omega)]
        · rw [if_neg k2, if_neg k2]
      · rw [if_neg hpt, if_neg hpt]
        have z1 : (0 : Int32) / 2 = nI 0 := by decide
        have z2 : (0 : Int32) - 0 / 2 = nI 0 := by decide
        rw [z1]
        by_cases k2 : S.1 109 (66 + 11 * (j / 2) + 2) = 2
        · rw [if_pos k2]
          by_cases r0 : j % 2 = 0
          · rw [if_pos r0]
          · rw [if_neg r0]; rfl
        · rw [if_neg k2]; rfl) (fun n U hP => by
    have h1 : (nI 24 < (24 : Int32)) = False := ltF (N := 24) (by decide) (by decide)
    simp only [f_X7_day_L115, h1, if_false]) (fuel := 6000) (T := S) (by decide) ⟨rfl, fun _ _ _ => rfl, fun k hk => absurd hk (by omega)⟩
  rw [nI_0] at this
  obtain ⟨S', ⟨p1, p2, p3⟩, e⟩ := this
  exact ⟨S', e, p1, p2, p3⟩
/-- the fruits set up to part c, in the reference -/
def GrwR (S : St) (fr ns sA : Nat → Nat) (c : Nat) (U : St) : Prop := FrR S U ∧ (∀ i, i = 118 ∨ i = 119 ∨ i = 120 → U.1 i = S.1 i) ∧ (∀ k, 198 ≤ k → k < 582 → U.1 109 k = S.1 109 k) ∧ (∀ p q, p < 12 → q < 2 → U.1 109 (66 + 11 * p + (8 + q)) = nI (fr (2 * p + q) + (if 2 * p + q < c then sA (2 * p + q) else 0))) ∧ (∀ p, p < 12 → TrA (S.1 109) p → U.1 109 (66 + 11 * p + 10) = nI (ns p + ((if 2 * p < c then sA (2 * p) else 0) + (if 2 * p + 1 < c then sA (2 * p + 1) else 0)))) ∧ ∀ k, U.2 111 k = if k = 0 then S.2 111 0 + lN (fb_sum sA c) else S.2 111 k
theorem GrwR.skip {S U : St} {fr ns sA : Nat → Nat} {c : Nat} (h : GrwR S fr ns sA c U) (hz : sA c = 0) : GrwR S fr ns sA (c + 1) U := by
  obtain ⟨h1, h2, h2', h3, h4, h5⟩ := h
  have e : ∀ k, (if k < c + 1 then sA k else 0) = if k < c then sA k else 0 := fun k => by
    by_cases q : k < c
    · rw [if_pos q, if_pos (by omega)]
    · rw [if_neg q]
      by_cases r : k = c
      · rw [if_pos (by omega), r, hz]
      · rw [if_neg (by omega)]
  refine ⟨h1, h2, h2', fun p q a b => by rw [e]; exact h3 p q a b, fun p a b => by rw [e, e]; exact h4 p a b, fun k => ?_⟩
  rw [h5 k, fb_sum, hz, Nat.add_zero]
theorem GrwR.step {S U : St} {fr ns sA : Nat → Nat} {p q : Nat} (hp : p < 12) (hq : q < 2) (ht : TrA (S.1 109) p) (h : GrwR S fr ns sA (2 * p + q) U) : GrwR S fr ns sA (2 * p + q + 1) (wrL (wr (wr U 109 (66 + 11 * p + (8 + q)) (nI (fr (2 * p + q)) + nI (sA (2 * p + q)))) 109 (66 + 11 * p + 10) (U.1 109 (66 + 11 * p + 10) + nI (sA (2 * p + q)))) 111 0 (U.2 111 0 + lN (sA (2 * p + q)))) := by
  obtain ⟨h1, h2, h2', h3, h4, h5⟩ := h
  refine ⟨⟨fun i a b c d => ?_, fun k hk => ?_, fun r k hr hk => ?_, fun i hi => ?_⟩, fun i hi => ?_, fun k a b => ?_, fun r t hr htt => ?_, fun r hr htr => ?_, fun k => ?_⟩
  · rw [wrL1, wr1_ne a, wr1_ne a]; exact h1.1 i a b c d
  · rw [wrL1, wr1_eq, if_neg (by omega), wr1_eq, if_neg (by omega)]; exact h1.2.1 k hk
  · rw [wrL1, wr1_eq, if_neg (by omega), wr1_eq, if_neg (by omega)]; exact h1.2.2.1 r k hr hk
  · rw [wrL2_ne hi]; exact h1.2.2.2 i hi
  · rw [wrL1, wr1_ne (by omega), wr1_ne (by omega)]; exact h2 i hi
  · rw [wrL1, wr1_eq, if_neg (by omega), wr1_eq, if_neg (by omega)]; exact h2' k a b
  · rw [wrL1, wr1_eq, if_neg (by omega), wr1_eq]
    by_cases e : r = p ∧ t = q
    · obtain ⟨rfl, rfl⟩ := e
      rw [if_pos rfl, if_pos (by omega), nI_add]
    · rw [if_neg (by omega), h3 r t hr htt]
      congr 2
      by_cases l : 2 * r + t < 2 * p + q
      · rw [if_pos l, if_pos (by omega)]
      · rw [if_neg l, if_neg (by omega)]
  · rw [wrL1, wr1_eq]
    by_cases e : r = p
    · subst e
      rw [if_pos rfl, h4 r hr htr, nI_add]
      congr 1
      have hq' : q = 0 ∨ q = 1 := by omega
      rcases hq' with rfl | rfl
      · rw [if_neg (by omega), if_neg (by omega), if_pos (by omega), if_neg (by omega)]; rfl
      · rw [if_pos (by omega), if_neg (by omega), if_pos (by omega), if_pos (by omega)]; omega
    · rw [if_neg (by omega), wr1_eq, if_neg (by omega), h4 r hr htr]
      congr 3
      · by_cases l : 2 * r < 2 * p + q
        · rw [if_pos l, if_pos (by omega)]
        · rw [if_neg l, if_neg (by omega)]
      · by_cases l : 2 * r + 1 < 2 * p + q
        · rw [if_pos l, if_pos (by omega)]
        · rw [if_neg l, if_neg (by omega)]
  · rw [wrL2_eq]
    by_cases e : k = 0
    · rw [if_pos e, if_pos e, h5 0, if_pos rfl, l_assoc, lN_add]; rfl
    · rw [if_neg e, if_neg e]
      show U.2 111 k = _
      rw [h5 k, if_neg e]
/-- one part that blooms, in the reference -/
theorem sets_run {cnt yr : Nat} {U : St} {W : Nat → Nat} (h : OrA cnt yr (U.1 109)) (hF : ∀ d, d < 50 → (U.1 109 (582 + 3 * d) = 1 ∧ (∃ x : Nat, x ≤ 6 ∧ U.1 109 (582 + 3 * d + 1) = nI x) ∧ (∃ x : Nat, x ≤ 100 ∧ U.1 109 (582 + 3 * d + 2) = nI x)) ∨ U.1 109 (582 + 3 * d) = 0) {p q day f : Nat} (hp : p < 12) (hq : q < 2) (hd : day < 50) (hpt : isPt (U.1 109 (66 + 11 * p + 2)) q = true) (e119 : U.1 119 (2 * p + q) = nI (prtA (U.1 109) W (2 * p + q) day)) (e118 : U.1 118 (2 * p + q) = nI (budP (U.1 109) (2 * p + q))) (efr : U.1 109 (66 + 11 * p + (8 + q)) = nI f) :
    f_X7_sets (nI (2 * p + q)) (nI day) U = some (wrL (wr (wr U 109 (66 + 11 * p + (8 + q)) (nI f + nI (setA (U.1 109) W day (2 * p + q)))) 109 (66 + 11 * p + 10) (U.1 109 (66 + 11 * p + 10) + nI (setA (U.1 109) W day (2 * p + q)))) 111 0 (U.2 111 0 + lN (setA (U.1 109) W day (2 * p + q)))) := by
  have ht : TrA (U.1 109) p := isPt_tree hpt hq
  have hk : 2 * p + q < 24 := by omega
  have hptk : ptA (U.1 109) (2 * p + q) = true := by rw [ptA_at hq]; exact hpt
  have hb := bdA_le h hp ht
  have hfl := flA_le h hk hptk
  have hflw := flwA_le h (day := day) hk hptk
  have hpr := prtA_le (U.1 109) W (2 * p + q) day
  have hsb := setA_le h W (day := day) hk
  obtain ⟨hs, -⟩ := h.srt hp hq hpt
  have hc := h.1
  obtain ⟨-, ⟨y, y1, y9, ey⟩, -⟩ := h.2.2.2.2.1 _ hs
  have hin : inb (nI (2 * p + q)) 24 = true := inb_nI hk (by decide)
  have hix : ix (nI (2 * p + q)) = 2 * p + q := ix_nI (by omega)
  have e1 : f_X7_sortOf (nI (srtA (U.1 109) (2 * p + q))) 1 U = some (nI y) := by
    have := sortOf_nat (s := srtA (U.1 109) (2 * p + q)) (k := 1) (by omega) (by decide) U
    rw [show rd U 109 (5 * srtA (U.1 109) (2 * p + q) + 1) = nI y from ey] at this
    exact this
  have yn : (nI y = 0) = False := eq_false (nI_ne0 (by omega) (by omega))
  have i0 : (582 : Int32) + (3 : Int32) * nI day = nI (582 + 3 * day) := by
    rw [show (582 : Int32) = nI 582 from rfl, show (3 : Int32) = nI 3 from rfl, pk_mul, nI_add]
  have i1 : nI (582 + 3 * day) + (1 : Int32) = nI (582 + 3 * day + 1) := nI_1 _
  have i2 : nI (582 + 3 * day) + (2 : Int32) = nI (582 + 3 * day + 2) := nI_add _ 2
  have b0 : inb (nI (582 + 3 * day)) 788 = true := inb_nI (by omega) (by decide)
  have b1 : inb (nI (582 + 3 * day + 1)) 788 = true := inb_nI (by omega) (by decide)
  have b2 : inb (nI (582 + 3 * day + 2)) 788 = true := inb_nI (by omega) (by decide)
  have x0 : ix (nI (582 + 3 * day)) = 582 + 3 * day := ix_nI (by omega)
  have x1 : ix (nI (582 + 3 * day + 1)) = 582 + 3 * day + 1 := ix_nI (by omega)
  have x2 : ix (nI (582 + 3 * day + 2)) = 582 + 3 * day + 2 := ix_nI (by omega)
  have e118' : rd U 118 (2 * p + q) = nI (shrA (U.1 109) (2 * p + q)) := by
    show U.1 118 (2 * p + q) = _
    rw [e118]; unfold budP; rw [if_pos hptk]
  have e119' : rd U 119 (2 * p + q) = nI (prtA (U.1 109) W (2 * p + q) day) := e119
  have hshr : shrA (U.1 109) (2 * p + q) ≤ 270 := by
    unfold shrA
    rw [show (2 * p + q) / 2 = p from by omega, show (2 * p + q) % 2 = q from by omega]
    by_cases a : U.1 109 (66 + 11 * p + 2) = 2
    · rw [if_pos a]
      by_cases b : q = 0
      · rw [if_pos b]; omega
      · rw [if_neg b]; omega
    · rw [if_neg a]; exact hb
  have efl : nI (shrA (U.1 109) (2 * p + q)) / nI y = nI (flA (U.1 109) (2 * p + q)) := by
    unfold flA
    rw [ey, ix_nI (n := y) (by omega), pk_div (by omega) (by omega) (by omega)]
  have hh2 : nI (2 * p + q) / 2 = nI p := half_nat hp hq
  -- the end of it
  have fin : f_X7_sets_J83 (nI (2 * p + q)) (nI p) (nI (flwA (U.1 109) day (2 * p + q))) U = some (wrL (wr (wr U 109 (66 + 11 * p + (8 + q)) (nI f + nI (setA (U.1 109) W day (2 * p + q)))) 109 (66 + 11 * p + 10) (U.1 109 (66 + 11 * p + 10) + nI (setA (U.1 109) W day (2 * p + q)))) 111 0 (U.2 111 0 + lN (setA (U.1 109) W day (2 * p + q)))) := by
    have j126 : ∀ s, s ≤ 270 → f_X7_sets_J126 (nI (2 * p + q)) (nI p) (nI s) U = some (wrL (wr (wr U 109 (66 + 11 * p + (8 + q)) (nI f + nI s)) 109 (66 + 11 * p + 10) (U.1 109 (66 + 11 * p + 10) + nI s)) 111 0 (U.2 111 0 + lN s)) := fun s hs' => by
      have el : (nI s).toInt64 = lN s := nI_l (by omega)
      have r10 : ∀ v, rd (wr U 109 (66 + 11 * p + (8 + q)) v) 109 (66 + 11 * p + 10) = U.1 109 (66 + 11 * p + 10) := fun v => by
        show (wr U 109 _ v).1 109 _ = _
        rw [wr1_eq, if_neg (by omega)]
      have rf : rd U 109 (66 + 11 * p + (8 + q)) = nI f := efr
      simp only [f_X7_sets_J126, grow_nat hp hq, Option.bind_some, get_10 hp, lay_10 hp, ix_0, rf, r10, el]
      rfl
    have j103 : f_X7_sets_J103 (nI (2 * p + q)) (nI p) (nI (flwA (U.1 109) day (2 * p + q))) (nI (min 3 (prtA (U.1 109) W (2 * p + q) day))) U = some (wrL (wr (wr U 109 (66 + 11 * p + (8 + q)) (nI f + nI (setA (U.1 109) W day (2 * p + q)))) 109 (66 + 11 * p + 10) (U.1 109 (66 + 11 * p + 10) + nI (setA (U.1 109) W day (2 * p + q)))) 111 0 (U.2 111 0 + lN (setA (U.1 109) W day (2 * p + q)))) := by
      have ek : rd U 109 (66 + 11 * p + 2) = U.1 109 (66 + 11 * p + 2) := rfl
      simp only [f_X7_sets_J103, get_k hp, Option.bind_some, ek]
      by_cases k4 : U.1 109 (66 + 11 * p + 2) = 4
      · have hz : setA (U.1 109) W day (2 * p + q) = 0 := setA_none hq (Or.inr k4)
        rw [if_pos k4, hz]
        exact j126 0 (by omega)
      · have hset : setA (U.1 109) W day (2 * p + q) = flwA (U.1 109) day (2 * p + q) * min 3 (prtA (U.1 109) W (2 * p + q) day) / 3 := by
          unfold setA
          rw [if_pos ⟨hptk, by rw [show (2 * p + q) / 2 = p from by omega]; exact k4⟩]
        have hm : flwA (U.1 109) day (2 * p + q) * min 3 (prtA (U.1 109) W (2 * p + q) day) ≤ 270 * 3 := Nat.mul_le_mul hflw (Nat.min_le_left _ _)
        rw [if_neg k4, pk_mul, show (3 : Int32) = nI 3 from rfl, pk_div (by omega) (by decide) (by decide), ← hset]
        exact j126 _ hsb
    simp only [f_X7_sets_J83, hin, hix, if_true, e119']
    by_cases l : 3 < prtA (U.1 109) W (2 * p + q) day
    · have l' : (3 : Int32) < nI (prtA (U.1 109) W (2 * p + q) day) := nI_lt (a := 3) l (by omega)
      rw [if_pos l']
      rw [show min 3 (prtA (U.1 109) W (2 * p + q) day) = 3 from by omega] at j103
      exact j103
    · have l' : ¬ (3 : Int32) < nI (prtA (U.1 109) W (2 * p + q) day) := nI_nlt (b := prtA (U.1 109) W (2 * p + q) day) (a := 3) (by omega) (by decide)
      rw [if_neg l']
      rw [show min 3 (prtA (U.1 109) W (2 * p + q) day) = prtA (U.1 109) W (2 * p + q) day from by omega] at j103
      exact j103
  have hgb : hgtA (U.1 109) p ≤ 6 := by
    unfold hgtA
    by_cases k : U.1 109 (66 + 11 * p + 2) = 3
    · rw [if_pos k]; omega
    · rw [if_neg k]; omega
  simp only [f_X7_sets, hin, hix, if_true, sortPartR h hk hptk, Option.bind_some, e1, yn, if_false, i0, i1, i2, b0, b1, b2, x0, x1, x2, hh2, hgtR h hp ht, e118', efl]
  rcases hF day hd with ⟨f1, ⟨u, hu, eu⟩, ⟨v, hv, ev⟩⟩ | f1
  · have f1' : rd U 109 (582 + 3 * day) = 1 := f1
    have eu' : rd U 109 (582 + 3 * day + 1) = nI u := eu
    have ev' : rd U 109 (582 + 3 * day + 2) = nI v := ev
    rw [f1', eu', ev', if_pos rfl]
    by_cases l : u < hgtA (U.1 109) p
    · rw [if_pos (nI_lt l (by omega))]
      have : flwA (U.1 109) day (2 * p + q) = flA (U.1 109) (2 * p + q) := by
        unfold flwA
        rw [eu, ix_nI (n := u) (by omega), show (2 * p + q) / 2 = p from by omega, if_neg (fun r => by omega)]
      rw [← this]; exact fin
    · rw [if_neg (nI_nlt (by omega) (by omega))]
      have e2 : flwA (U.1 109) day (2 * p + q) = flA (U.1 109) (2 * p + q) - (flA (U.1 109) (2 * p + q) * v + 99) / 100 := by
        unfold flwA
        rw [eu, ev, ix_nI (n := u) (by omega), ix_nI (n := v) (by omega), show (2 * p + q) / 2 = p from by omega, if_pos ⟨f1, by omega⟩]
      have hmul : flA (U.1 109) (2 * p + q) * v ≤ 270 * 100 := Nat.mul_le_mul (by omega) hv
      have hle : (flA (U.1 109) (2 * p + q) * v + 99) / 100 ≤ flA (U.1 109) (2 * p + q) := by
        have : flA (U.1 109) (2 * p + q) * v ≤ flA (U.1 109) (2 * p + q) * 100 := Nat.mul_le_mul_left _ hv
        omega
      rw [pk_mul, show (99 : Int32) = nI 99 from rfl, nI_add, show (100 : Int32) = nI 100 from rfl, pk_div (by omega) (by decide) (by decide), pk_sub hle, ← e2]
      exact fin
  · have f1' : rd U 109 (582 + 3 * day) = 0 := f1
    rw [f1', if_neg (by decide)]
    have : flwA (U.1 109) day (2 * p + q) = flA (U.1 109) (2 * p + q) := by
      unfold flwA
      rw [if_neg (fun r => by have := r.1; rw [f1] at this; exact absurd this (by decide))]
    rw [← this]; exact fin
/-- what the values hang on -/
theorem bdA_cong {A A' : Nat → Int32} {p : Nat} (hp : p < 12) (e1 : ∀ k, k < 66 ∨ (582 ≤ k ∧ k < 732) ∨ k = 783 ∨ k = 784 → A' k = A k) (e2 : ∀ p k, p < 12 → k < 8 → A' (66 + 11 * p + k) = A (66 + 11 * p + k)) (s3 : ix (A (66 + 11 * p + 3)) < 6) : bdA A' p = bdA A p := by
  have a1 := e1 784 (by omega)
  have a5 := e2 p 5 hp (by decide)
  have a3 := e2 p 3 hp (by decide)
  have a2 := e2 p 2 hp (by decide)
  have a6 := e2 p 6 hp (by decide)
  have a7 := e2 p 7 hp (by decide)
  have a4 := e1 (5 * ix (A (66 + 11 * p + 3)) + 4) (by omega)
  unfold bdA bdV
  simp only [a1, a5, a3, a2, a6, a7, a4]
theorem flwA_cong {A A' : Nat → Int32} {day k : Nat} (hk : k < 24) (hd : day < 50) (e1 : ∀ k, k < 66 ∨ (582 ≤ k ∧ k < 732) ∨ k = 783 ∨ k = 784 → A' k = A k) (e2 : ∀ p k, p < 12 → k < 8 → A' (66 + 11 * p + k) = A (66 + 11 * p + k)) (hs : srtA A k < 6) (sr : srtA A' k = srtA A k) (bd : bdA A' (k / 2) = bdA A (k / 2)) : flwA A' day k = flwA A day k := by
  have a1 := e1 784 (by omega)
  have a2 := e2 _ 2 (khalf_lt hk) (by decide)
  have a5 := e2 _ 5 (khalf_lt hk) (by decide)
  have f0 := e1 (582 + 3 * day) (by omega)
  have f1 := e1 (582 + 3 * day + 1) (by omega)
  have f2 := e1 (582 + 3 * day + 2) (by omega)
  have s1 := e1 (5 * srtA A k + 1) (by omega)
  unfold flwA flA shrA hgtA
  simp only [sr, bd, a1, a2, a5, f0, f1, f2, s1]
theorem opnA_cong {A A' : Nat → Int32} {W : Nat → Nat} {day k : Nat} (hk : k < 24) (e1 : ∀ k, k < 66 ∨ (582 ≤ k ∧ k < 732) ∨ k = 783 ∨ k = 784 → A' k = A k) (pt : ptA A' k = ptA A k) (hs : ptA A k = true → srtA A k < 6) (sr : srtA A' k = srtA A k) (bd : ptA A k = true → bdA A' (k / 2) = bdA A (k / 2)) : opnA A' W k day = opnA A W k day := by
  unfold opnA
  rw [pt]
  cases hpt : ptA A k with
  | false => rw [Bool.false_and, Bool.false_and]
  | true =>
    have hs := hs hpt
    have s0 := e1 (5 * srtA A k) (by omega)
    have s1 := e1 (5 * srtA A k + 1) (by omega)
    rw [bd hpt, sr]
    unfold blmA
    rw [s0, s1]
theorem cndA_cong {A A' : Nat → Int32} {W : Nat → Nat} {day k m : Nat} (hk : k < 24) (hm : m < 24) (e1 : ∀ k, k < 66 ∨ (582 ≤ k ∧ k < 732) ∨ k = 783 ∨ k = 784 → A' k = A k) (e2 : ∀ p k, p < 12 → k < 8 → A' (66 + 11 * p + k) = A (66 + 11 * p + k)) (op : opnA A' W m day = opnA A W m day) (hsk : srtA A k < 6) (hsm : ptA A m = true → srtA A m < 6) (sr : srtA A' k = srtA A k) (sm : srtA A' m = srtA A m) : cndA A' W k m day = cndA A W k m day := by
  unfold cndA
  rw [op]
  cases om : opnA A W m day with
  | false => rw [Bool.false_and, Bool.false_and]
  | true =>
    have h2 := hsm (opnA_pt om)
    have d0 := e1 (30 + 6 * srtA A k + srtA A m) (by omega)
    have nr := layNear_cong (A := A) (A' := A') (fun p k hp hk => e2 p k hp (by omega)) (e1 783 (by omega)) (khalf_lt hk) (khalf_lt hm)
    unfold doesA
    rw [sr, sm, nr, d0]
theorem prtA_cong {A A' : Nat → Int32} {W : Nat → Nat} {day k : Nat} (hk : k < 24) (e1 : ∀ k, k < 66 ∨ (582 ≤ k ∧ k < 732) ∨ k = 783 ∨ k = 784 → A' k = A k) (e2 : ∀ p k, p < 12 → k < 8 → A' (66 + 11 * p + k) = A (66 + 11 * p + k)) (op : ∀ m, m < 24 → opnA A' W m day = opnA A W m day) (hs : ∀ k, k < 24 → ptA A k = true → srtA A k < 6) (sr : ∀ m, m < 24 → srtA A' m = srtA A m) : prtA A' W k day = prtA A W k day := by
  unfold prtA
  rw [op k hk]
  by_cases o : opnA A W k day = true
  · rw [if_pos o, if_pos o]
    refine fb_sum_cong (fun m hm => ?_)
    rw [cndA_cong hk hm e1 e2 (op m hm) (hs k hk (opnA_pt o)) (hs m hm) (sr k hk) (sr m hm)]
  · rw [if_neg o, if_neg o]
theorem srt3 {A : Nat → Int32} {k : Nat} (hk : k < 24) (hsr : ∀ k, k < 24 → ptA A k = true → srtA A k < 6) (hpt : ptA A k = true) : ix (A (66 + 11 * (k / 2) + 3)) < 6 := by
  have t0 : ptA A (2 * (k / 2) + 0) = true := by rw [ptA_at (by decide)]; exact isPt_0 (ptA_tree hpt)
  have h := hsr (2 * (k / 2) + 0) (by omega) t0
  unfold srtA at h
  have e1 : (2 * (k / 2) + 0) / 2 = k / 2 := by omega
  have e2 : (2 * (k / 2) + 0) % 2 = 0 := by omega
  have e3 : 66 + 11 * (k / 2) + (3 + 0) = 66 + 11 * (k / 2) + 3 := by omega
  rw [e1, e2, e3] at h
  exact h
theorem setA_cong {A A' : Nat → Int32} {W : Nat → Nat} {day : Nat} (hd : day < 50) (e1 : ∀ k, k < 66 ∨ (582 ≤ k ∧ k < 732) ∨ k = 783 ∨ k = 784 → A' k = A k) (e2 : ∀ p k, p < 12 → k < 8 → A' (66 + 11 * p + k) = A (66 + 11 * p + k)) (hsr : ∀ k, k < 24 → ptA A k = true → srtA A k < 6) : (∀ k, k < 24 → ptA A' k = ptA A k ∧ srtA A' k = srtA A k ∧ opnA A' W k day = opnA A W k day ∧ prtA A' W k day = prtA A W k day ∧ budP A' k = budP A k ∧ setA A' W day k = setA A W day k) := by
  have k2 : ∀ k, k < 24 → A' (66 + 11 * (k / 2) + 2) = A (66 + 11 * (k / 2) + 2) := fun k hk => e2 _ 2 (khalf_lt hk) (by decide)
  have pt : ∀ k, k < 24 → ptA A' k = ptA A k := fun k hk => by unfold ptA; rw [k2 k hk]
  have sr : ∀ k, k < 24 → srtA A' k = srtA A k := fun k hk => by
    have q := e2 (k / 2) (3 + k % 2) (khalf_lt hk) (by omega)
    unfold srtA; rw [q]
  have bd : ∀ k, k < 24 → ptA A k = true → bdA A' (k / 2) = bdA A (k / 2) := fun k hk hpt => bdA_cong (khalf_lt hk) e1 e2 (srt3 hk hsr hpt)
  have op : ∀ k, k < 24 → opnA A' W k day = opnA A W k day := fun k hk => opnA_cong hk e1 (pt k hk) (hsr k hk) (sr k hk) (bd k hk)
  have pr : ∀ k, k < 24 → prtA A' W k day = prtA A W k day := fun k hk => prtA_cong hk e1 e2 op hsr sr
  intro k hk
  refine ⟨pt k hk, sr k hk, op k hk, pr k hk, ?_, ?_⟩
  · unfold budP
    rw [pt k hk]
    by_cases c : ptA A k = true
    · rw [if_pos c, if_pos c]
      unfold shrA
      rw [k2 k hk, bd k hk c]
    · rw [if_neg c, if_neg c]
  · unfold setA
    rw [pt k hk, k2 k hk, pr k hk]
    by_cases c : ptA A k = true ∧ A (66 + 11 * (k / 2) + 2) ≠ 4
    · rw [if_pos c, if_pos c, flwA_cong hk hd e1 e2 (hsr k hk c.1) (sr k hk) (bd k hk c.1)]
    · rw [if_neg c, if_neg c]
theorem setR {cnt yr dn : Nat} {S : St} {fr ns : Nat → Nat} (h : OrA cnt yr (S.1 109)) (hw : RefW dn S) (hF : ∀ d, d < 50 → (S.1 109 (582 + 3 * d) = 1 ∧ (∃ x : Nat, x ≤ 6 ∧ S.1 109 (582 + 3 * d + 1) = nI x) ∧ (∃ x : Nat, x ≤ 100 ∧ S.1 109 (582 + 3 * d + 2) = nI x)) ∨ S.1 109 (582 + 3 * d) = 0) {day : Nat} (hd : day < 50) (e118 : ∀ k, k < 24 → S.1 119 k = nI (prtA (S.1 109) (warmF S) k day) ∧ S.1 118 k = nI (budP (S.1 109) k)) (hfr : ∀ p q, p < 12 → q < 2 → S.1 109 (66 + 11 * p + (8 + q)) = nI (fr (2 * p + q))) (hns : ∀ p, p < 12 → TrA (S.1 109) p → S.1 109 (66 + 11 * p + 10) = nI (ns p)) (dt : Int32) (K : Int32 → Int32 → St → Option St) : ∃ S', f_X7_day_L205 6000 K (nI day) dt 0 S = K (nI day) dt S' ∧ GrwR S fr ns (setA (S.1 109) (warmF S) day) 24 S' := by
  have hc := h.1
  have := loop_up (N := 24) (fun n i U => f_X7_day_L205 n K (nI day) dt i U) (fun U => K (nI day) dt U) (fun j U => GrwR S fr ns (setA (S.1 109) (warmF S) day) j U) (fun n j U hj hP => by
    have hAU := hP.1.orA h
    have hwU := hP.1.refW hw
    have hWe := hP.1.warm
    have cg := setA_cong (A := S.1 109) (A' := U.1 109) (W := warmF S) hd (fun k hk => hP.1.2.1 k (by omega)) (fun p k a b => hP.1.2.2.1 p k a b) (fun k hk hpt => by have := (h.srtK hk hpt).1; omega)
    obtain ⟨c1, c2, c3, prU, bdU, c4⟩ := cg j hj
    have eop := openR hAU hwU hj hd
    rw [hWe, c3] at eop
    have h1 : (nI j < (24 : Int32)) = True := ltT hj (by decide)
    have hp := khalf_lt hj
    have hq : j % 2 < 2 := by omega
    by_cases o : opnA (S.1 109) (warmF S) j day = true
    · have hpt : isPt (S.1 109 (66 + 11 * (j / 2) + 2)) (j % 2) = true := opnA_pt o
      have e2' := hP.1.2.2.1 (j / 2) 2 hp (by decide)
      have hptU : isPt (U.1 109 (66 + 11 * (j / 2) + 2)) (j % 2) = true := by rw [e2']; exact hpt
      have hG : GrwR S fr ns (setA (S.1 109) (warmF S) day) (2 * (j / 2) + j % 2) U := by rw [k_eq]; exact hP
      have hst := hG.step hp hq (isPt_tree hpt hq)
      have hFU : ∀ d, d < 50 → (U.1 109 (582 + 3 * d) = 1 ∧ (∃ x : Nat, x ≤ 6 ∧ U.1 109 (582 + 3 * d + 1) = nI x) ∧ (∃ x : Nat, x ≤ 100 ∧ U.1 109 (582 + 3 * d + 2) = nI x)) ∨ U.1 109 (582 + 3 * d) = 0 := fun d hd' => by
        rw [hP.1.2.1 _ (by omega), hP.1.2.1 (582 + 3 * d + 1) (by omega), hP.1.2.1 (582 + 3 * d + 2) (by omega)]; exact hF d hd'
      have efr : U.1 109 (66 + 11 * (j / 2) + (8 + j % 2)) = nI (fr (2 * (j / 2) + j % 2)) := by
        rw [hG.2.2.2.1 _ _ hp hq, if_neg (by omega), Nat.add_zero]
      have es := sets_run (W := warmF S) hAU hFU hp hq hd hptU (by rw [k_eq, hP.2.1 119 (by omega), (e118 j hj).1, prU]) (by rw [k_eq, hP.2.1 118 (by omega), (e118 j hj).2, bdU]) efr
      rw [k_eq, c4] at es
      rw [k_eq] at hst
      refine ⟨_, hst, ?_⟩
      simp only [f_X7_day_L205, h1, if_true, eop, Option.bind_some, o, es, nI_1]
    · have hz : setA (S.1 109) (warmF S) day j = 0 := by
        unfold setA
        by_cases c : ptA (S.1 109) j = true ∧ S.1 109 (66 + 11 * (j / 2) + 2) ≠ 4
        · rw [if_pos c]
          unfold prtA
          rw [if_neg o]; simp
        · rw [if_neg c]
      refine ⟨U, hP.skip hz, ?_⟩
      simp only [f_X7_day_L205, h1, if_true, eop, Option.bind_some, o, if_false, nI_1, Bool.false_eq_true]) (fun n U hP => by
    have h1 : (nI 24 < (24 : Int32)) = False := ltF (N := 24) (by decide) (by decide)
    simp only [f_X7_day_L205, h1, if_false]) (fuel := 6000) (T := S) (by decide) ⟨FrR.refl S, fun _ _ => rfl, fun _ _ _ => rfl, fun p q a b => by rw [hfr p q a b, if_neg (by omega), Nat.add_zero], fun p a b => by rw [hns p a b, if_neg (by omega), if_neg (by omega)]; rfl, fun k => by
      by_cases e : k = 0
      · rw [if_pos e, e]; exact (l_zero _).symm
      · rw [if_neg e]⟩
  rw [nI_0] at this
  obtain ⟨S', g, e⟩ := this
  exact ⟨S', e, g⟩
