theorem has_nat {t i n : Nat} {S : St} (h : S.1 t 1 = nI n) (hn : n ≤ 50) (hi : i < 2 ^ 31) : f_X4_has t (nI i) S = decide (i < n) := by
  unfold f_X4_has
  rw [show rd S t 1 = nI n from h, if_neg (nI_pos hi)]
  by_cases q : i < n
  · rw [if_pos (nI_lt q (by omega))]; simp [q]
  · rw [if_neg (nI_nlt (by omega) hi)]; simp [q]
theorem isNumber_run {s i n : Nat} {S : St} (h : SheetRel S) (hs : s < 4) (hn : n ≤ 50) (h4 : S.1 114 s = nI n) (hi : i ≤ 50) : f_X4_isNumber (88 + 2 * s) (nI i) S = some (shN S s i).isSome := by
  obtain ⟨a1, a2, a3, -, a5⟩ := h s hs
  unfold f_X4_isNumber shN
  rw [has_nat (a3.trans h4) hn (by omega), h4, ix_nI (n := n) (by omega)]
  by_cases q : i < n
  · have hin : inb (nI i) 50 = true := inb_nI (by omega) (by decide)
    have hix : ix (nI i) = i := ix_nI (by omega)
    have e0 : rd S (88 + 2 * s) 0 = S.1 113 s := a1
    have e1 : rd S (88 + 2 * s + 1) i = S.1 115 (50 * s + i) := by
      rw [show 88 + 2 * s + 1 = 89 + 2 * s from by omega]; exact a5 i (by omega)
    rw [if_pos q]
    simp only [q, decide_true, if_true, e0, hin, hix, e1]
    by_cases k2 : S.1 113 s = 2
    · rw [if_pos k2]
      by_cases kn : f_X4_isNan (S.1 115 (50 * s + i)) = true
      · rw [if_pos kn, if_pos ⟨k2, kn⟩]; rfl
      · have hc : ¬ (S.1 113 s = 2 ∧ f_X4_isNan (S.1 115 (50 * s + i)) = true) := fun q => kn q.2
        rw [if_neg kn, if_neg hc]; rfl
    · have hc : ¬ (S.1 113 s = 2 ∧ f_X4_isNan (S.1 115 (50 * s + i)) = true) := fun q => k2 q.1
      rw [if_neg k2, if_neg hc]; rfl
  · rw [if_neg q]
    simp only [q, decide_false, Bool.false_eq_true, if_false]; rfl
theorem boundedAt_run {s i n x : Nat} {S : St} (h : SheetRel S) (hs : s < 4) (hn : n ≤ 50) (h4 : S.1 114 s = nI n) (hx : shN S s i = some x) : f_X4_boundedAt (88 + 2 * s) (nI i) S = some (nI x) := by
  obtain ⟨a1, a2, a3, -, a5⟩ := h s hs
  unfold shN at hx
  rw [h4, ix_nI (n := n) (by omega)] at hx
  by_cases q : i < n
  · rw [if_pos q] at hx
    have hin : inb (nI i) 50 = true := inb_nI (by omega) (by decide)
    have hix : ix (nI i) = i := ix_nI (by omega)
    have e0 : rd S (88 + 2 * s) 0 = S.1 113 s := a1
    have e1 : rd S (88 + 2 * s + 1) i = S.1 115 (50 * s + i) := by
      rw [show 88 + 2 * s + 1 = 89 + 2 * s from by omega]; exact a5 i (by omega)
    have hv : num (S.1 113 s) (S.1 115 (50 * s + i)) = nI x := by
      by_cases hc : S.1 113 s = 2 ∧ f_X4_isNan (S.1 115 (50 * s + i)) = true
      · rw [if_pos hc] at hx; cases hx
      · rw [if_neg hc] at hx
        rw [(num_nat _ _).1]
        cases hx; rfl
    simp only [f_X4_boundedAt, f_X4_boundedAt_J26, e0, hin, hix, e1, if_true, clp_mx]
    unfold num at hv
    by_cases k2 : S.1 113 s = 2
    · rw [if_pos k2] at hv ⊢; rw [hv]
    · rw [if_neg k2] at hv ⊢; rw [hv]
  · rw [if_neg q] at hx; cases hx
theorem warmthAt_run {s d n : Nat} {S : St} (h : SheetRel S) (hs : s < 4) (hn : n ≤ 50) (h4 : S.1 114 s = nI n) (hd : d < n) : f_X4_warmthAt (88 + 2 * s) (nI d) S = some (nI (shW S s d)) := by
  have e2 : nI d + 1 = nI (d + 1) := nI_1 d
  unfold shW
  simp only [f_X4_warmthAt, f_X4_warmthAt_J56, isNumber_run h hs hn h4 (show d ≤ 50 by omega), Option.bind_some, e2, isNumber_run h hs hn h4 (show d + 1 ≤ 50 by omega)]
  cases e0 : shN S s d with
  | some x => simp only [Option.isSome_some, if_true, boundedAt_run h hs hn h4 e0, Option.bind_some]
  | none =>
    simp only [Option.isSome_none, Bool.false_eq_true, if_false]
    have below : ∃ o1, o1 = (if d = 0 then none else shN S s (d - 1)) ∧ f_X4_isNumber (88 + 2 * s) (nI d - 1) S = some o1.isSome ∧ ∀ x, o1 = some x → f_X4_boundedAt (88 + 2 * s) (nI d - 1) S = some (nI x) := by
      by_cases h0 : d = 0
      · subst h0
        have hh : f_X4_has (88 + 2 * s) (nI 0 - 1) S = false := by
          unfold f_X4_has
          rw [if_pos (by decide)]
        refine ⟨none, by rw [if_pos rfl], ?_, fun x hx => by cases hx⟩
        simp only [f_X4_isNumber, hh, Bool.false_eq_true, if_false]; rfl
      · have e1 : nI d - 1 = nI (d - 1) := pk_sub (b := 1) (by omega)
        refine ⟨shN S s (d - 1), by rw [if_neg h0], by rw [e1, isNumber_run h hs hn h4 (by omega)], fun x hx => by rw [e1]; exact boundedAt_run h hs hn h4 hx⟩
    obtain ⟨o1, ho1, w1, w2⟩ := below
    rw [← ho1]
    simp only [w1, Option.bind_some]
    cases e1 : o1 with
    | none =>
      simp only [Option.isSome_none, Bool.false_eq_true, if_false]
      cases e3 : shN S s (d + 1) with
      | none => simp only [Option.isSome_none, Bool.false_eq_true, if_false, shW2]; rfl
      | some y => simp only [Option.isSome_some, if_true, boundedAt_run h hs hn h4 e3, Option.bind_some, shW2]
    | some x =>
      have w3 := w2 x e1
      simp only [Option.isSome_some, if_true]
      cases e3 : shN S s (d + 1) with
      | none => simp only [Option.isSome_none, Bool.false_eq_true, if_false, w3, Option.bind_some, shW2]
      | some y =>
        have b1 : x ≤ 60 := by
          rw [e1] at ho1
          by_cases h0 : d = 0
          · rw [if_pos h0] at ho1; cases ho1
          · rw [if_neg h0] at ho1; exact shN_le ho1.symm
        have b2 := shN_le e3
        simp only [Option.isSome_some, if_true, w3, boundedAt_run h hs hn h4 e3, Option.bind_some, shW2, nI_add]
        rw [show (2 : Int32) = nI 2 from rfl, pk_div (by omega) (by decide) (by decide)]
/-- the named sheet -/
def nm (S : St) : Option Nat := if S.1 109 786 < 0 then none else some (ix (S.1 109 786))
def standF (S : St) (d : Nat) : Nat := match nm S with
  | none => 5 + d
  | some s => if d < ix (S.1 114 s) then shW S s d else 5 + d
def warmF (S : St) (d : Nat) : Nat := if d < ix (S.1 109 785) then ix (S.1 109 (732 + d)) else standF S d
def RefW (dn : Nat) (S : St) : Prop := dn ≤ 50 ∧ S.1 109 785 = nI dn ∧ (∀ d, d < dn → ∃ x : Nat, x ≤ 60 ∧ S.1 109 (732 + d) = nI x) ∧ (S.1 109 786 = -1 ∨ ∃ s : Nat, s < 4 ∧ S.1 109 786 = nI s) ∧ ∀ s, s < 4 → ∃ n : Nat, n ≤ 50 ∧ S.1 114 s = nI n
def ClsW (dn : Nat) (S : St) : Prop := RefW dn S ∧ S.1 1 5 = nI dn ∧ S.1 1 10 = S.1 109 786 ∧ WarmRel dn (S.1 4) (S.1 109) ∧ SheetRel S
theorem RefW.cong {dn : Nat} {S U : St} (h : RefW dn S) (e : ∀ i, i = 109 ∨ (113 ≤ i ∧ i ≤ 115) → U.1 i = S.1 i) : RefW dn U := by
  unfold RefW at h ⊢
  rw [e 109 (by omega), e 114 (by omega)]
  exact h
theorem shN_cong {S U : St} (e : ∀ i, 113 ≤ i → i ≤ 115 → U.1 i = S.1 i) (s i : Nat) : shN U s i = shN S s i := by
  unfold shN
  rw [e 113 (by decide) (by decide), e 114 (by decide) (by decide), e 115 (by decide) (by decide)]
theorem shW_cong {S U : St} (e : ∀ i, 113 ≤ i → i ≤ 115 → U.1 i = S.1 i) (s d : Nat) : shW U s d = shW S s d := by
  unfold shW
  simp only [shN_cong e]
theorem standF_cong {S U : St} (e : ∀ i, 113 ≤ i → i ≤ 115 → U.1 i = S.1 i) (e6 : U.1 109 786 = S.1 109 786) (d : Nat) : standF U d = standF S d := by
  unfold standF nm
  simp only [e6, e 114 (by decide) (by decide), shW_cong e]
theorem warmF_cong {S U : St} (e : ∀ i, i = 109 ∨ (113 ≤ i ∧ i ≤ 115) → U.1 i = S.1 i) (d : Nat) : warmF U d = warmF S d := by
  unfold warmF
  rw [e 109 (by omega), standF_cong (fun i a b => e i (by omega)) (by rw [e 109 (by omega)])]
theorem ClsW.cong {dn : Nat} {S U : St} (h : ClsW dn S) (e : ∀ i, i = 1 ∨ i = 4 ∨ (88 ≤ i ∧ i ≤ 95) ∨ i = 109 ∨ (113 ≤ i ∧ i ≤ 115) → U.1 i = S.1 i) : ClsW dn U := by
  obtain ⟨h1, h2, h3, h4, h5⟩ := h
  refine ⟨h1.cong (fun i hi => e i (by omega)), by rw [e 1 (by omega)]; exact h2, by rw [e 1 (by omega), e 109 (by omega)]; exact h3, by rw [e 4 (by omega), e 109 (by omega)]; exact h4, fun s hs => ?_⟩
  rw [e (88 + 2 * s) (by omega), e (89 + 2 * s) (by omega), e 113 (by omega), e 114 (by omega), e 115 (by omega)]
  exact h5 s hs
theorem nm_cases {S : St} (h : S.1 109 786 = -1 ∨ ∃ s : Nat, s < 4 ∧ S.1 109 786 = nI s) : (nm S = none ∧ S.1 109 786 = -1) ∨ ∃ s : Nat, s < 4 ∧ nm S = some s ∧ S.1 109 786 = nI s := by
  unfold nm
  rcases h with h | ⟨s, hs, h⟩
  · left; rw [h]; exact ⟨by decide, rfl⟩
  · right
    refine ⟨s, hs, ?_, h⟩
    rw [h, if_neg (nI_pos (by omega)), ix_nI (by omega)]
theorem stands_run {dn d : Nat} {S : St} (h : RefW dn S) (hd : d < 50) : f_X7_stands (nI d) S = some (nI (standF S d)) := by
  obtain ⟨h1, h2, h3, h4, h5⟩ := h
  unfold standF
  rcases nm_cases h4 with ⟨q1, q2⟩ | ⟨s, hs, q1, q2⟩
  · rw [q1]
    have e : rd S 109 786 = -1 := q2
    simp only [f_X7_stands, ix_786, e]
    rw [if_pos (by decide), show (5 : Int32) = nI 5 from rfl, nI_add]
  · rw [q1]
    obtain ⟨n, hn, h6⟩ := h5 s hs
    simp only [h6, ix_nI (n := n) (by omega)]
    by_cases l : d < n
    · rw [if_pos l]; exact stands_sheet hs hn S h6 q2 l
    · rw [if_neg l]
      have e : rd S 109 786 = nI s := q2
      have c0 : (nI s < 0) = False := eq_false (nI_pos (by omega))
      have hin : inb (nI s) 4 = true := inb_nI hs (by decide)
      have hix : ix (nI s) = s := ix_nI (by omega)
      have e4 : rd S 114 s = nI n := h6
      have c1 : (nI d < nI n) = False := ltF (by omega) (by omega)
      simp only [f_X7_stands, ix_786, e, c0, hin, hix, e4, c1, if_true, if_false]
      rw [show (5 : Int32) = nI 5 from rfl, nI_add]
theorem standF_le {dn d : Nat} {S : St} (h : RefW dn S) (hd : d < 50) : standF S d ≤ 60 := by
  unfold standF
  rcases nm_cases h.2.2.2.1 with ⟨q1, q2⟩ | ⟨s, hs, q1, q2⟩
  · rw [q1]; show 5 + d ≤ 60; omega
  · rw [q1]
    by_cases l : d < ix (S.1 114 s)
    · simp only [if_pos l]; exact shW_le S s d
    · simp only [if_neg l]; omega
theorem warm_run {dn d : Nat} {S : St} (h : RefW dn S) (hd : d < 50) : f_X7_warm (nI d) S = some (nI (warmF S d)) := by
  have e5 : rd S 109 785 = nI dn := h.2.1
  have hdn := h.1
  unfold warmF
  rw [h.2.1, ix_nI (n := dn) (by omega)]
  by_cases l : d < dn
  · rw [if_pos l]
    obtain ⟨x, hx, ex⟩ := h.2.2.1 d l
    have c1 : (nI d < nI dn) = True := ltT l (by omega)
    have e0 : (732 : Int32) + nI d = nI (732 + d) := by rw [show (732 : Int32) = nI 732 from rfl, nI_add]
    have hin : inb (nI (732 + d)) 788 = true := inb_nI (by omega) (by decide)
    have hix : ix (nI (732 + d)) = 732 + d := ix_nI (by omega)
    have ex' : rd S 109 (732 + d) = nI x := ex
    simp only [f_X7_warm, ix_785, e5, c1, e0, hin, hix, ex', if_true, ex, ix_nI (n := x) (by omega)]
  · rw [if_neg l]
    have c1 : (nI d < nI dn) = False := ltF (by omega) (by omega)
    simp only [f_X7_warm, ix_785, e5, c1, if_false, stands_run h hd, Option.bind_some]
theorem warmF_le {dn d : Nat} {S : St} (h : RefW dn S) (hd : d < 50) : warmF S d ≤ 60 := by
  have hdn := h.1
  unfold warmF
  rw [h.2.1, ix_nI (n := dn) (by omega)]
  by_cases l : d < dn
  · rw [if_pos l]
    obtain ⟨x, hx, ex⟩ := h.2.2.1 d l
    rw [ex, ix_nI (by omega)]; exact hx
  · rw [if_neg l]; exact standF_le h hd
/-- the sheet that the class reads -/
def clsSh (S : St) : Option Nat := (nm S).map (fun s => 88 + 2 * s)
theorem named_run {dn : Nat} {S : St} (h : ClsW dn S) : f_X6_namedSheet S = some (clsSh S) := by
  obtain ⟨h1, h2, h3, h4, h5⟩ := h
  have e10 : rd S 1 10 = S.1 109 786 := h3
  unfold clsSh
  rcases nm_cases h1.2.2.2.1 with ⟨q1, q2⟩ | ⟨s, hs, q1, q2⟩
  · rw [q1]
    simp only [f_X6_namedSheet, e10, q2]
    rfl
  · rw [q1]
    have hin : inb (nI s) 4 = true := inb_nI hs (by decide)
    have hix : ix (nI s) = s := ix_nI (by omega)
    have his : f_X6_isSheet (nI s) = true := within_yes (a := 0) (b := 3) (by omega) (by omega) (by decide)
    simp only [f_X6_namedSheet, e10, q2, his, hin, hix, if_true]
    rfl
theorem now_run {dn d : Nat} {S : St} (h : ClsW dn S) (hd : d < 50) : f_X3_warmthNow (clsSh S) (nI d) S = some (nI (warmF S d)) := by
  obtain ⟨h1, h2, h3, h4, h5⟩ := h
  have hdn := h1.1
  have e5 : rd S 1 5 = nI dn := h2
  have hin : inb (nI d) 50 = true := inb_nI hd (by decide)
  have hix : ix (nI d) = d := ix_nI (by omega)
  have e0 : (5 : Int32) + nI d = nI (5 + d) := by rw [show (5 : Int32) = nI 5 from rfl, nI_add]
  unfold warmF
  rw [h1.2.1, ix_nI (n := dn) (by omega)]
  have done : d < dn → rd S 4 d = nI (ix (S.1 109 (732 + d))) := fun l => by
    obtain ⟨w1, x, hx, w2⟩ := h4 d l
    show S.1 4 d = _
    rw [w1, w2, ix_nI (by omega)]
  unfold clsSh standF
  rcases nm_cases h1.2.2.2.1 with ⟨q1, q2⟩ | ⟨s, hs, q1, q2⟩
  · rw [q1]
    show f_X3_warmthNow_n (nI d) S = _
    by_cases l : d < dn
    · have c1 : (nI d < nI dn) = True := ltT l (by omega)
      rw [if_pos l]
      simp only [f_X3_warmthNow_n, e5, c1, hin, hix, if_true, done l]
    · have c1 : (nI d < nI dn) = False := ltF (by omega) (by omega)
      rw [if_neg l]
      simp only [f_X3_warmthNow_n, f_X3_tableWarmth, e5, c1, if_false, e0]
  · rw [q1]
    show f_X3_warmthNow_s (88 + 2 * s) (nI d) S = _
    obtain ⟨n, hn, h6⟩ := h1.2.2.2.2 s hs
    by_cases l : d < dn
    · have c1 : (nI d < nI dn) = True := ltT l (by omega)
      rw [if_pos l]
      simp only [f_X3_warmthNow_s, e5, c1, hin, hix, if_true, done l]
    · have c1 : (nI d < nI dn) = False := ltF (by omega) (by omega)
      rw [if_neg l]
      have hh := has_nat (t := 88 + 2 * s) (i := d) ((h5 s hs).2.2.1.trans h6) hn (by omega)
      simp only [h6, ix_nI (n := n) (by omega)]
      by_cases q : d < n
      · rw [if_pos q]
        simp only [f_X3_warmthNow_s, e5, c1, if_false, hh, q, decide_true, if_true, warmthAt_run h5 hs hn h6 q, Option.bind_some]
      · rw [if_neg q]
        simp only [f_X3_warmthNow_s, f_X3_tableWarmth, e5, c1, if_false, hh, q, decide_false, Bool.false_eq_true, e0]
theorem clsSh_cong {S U : St} (e : U.1 109 786 = S.1 109 786) : clsSh U = clsSh S := by
  unfold clsSh nm
  rw [e]
/-- what a related state gives -/
theorem BookRel.clsW {cnt yr dn : Nat} {S : St} {CL AL : Nat → Int64} (h : BookRel cnt yr dn (fun i => S.1 (1 + i)) CL (S.1 109) AL) (hS : SheetRel S) : ClsW dn S := by
  obtain ⟨q1, q2, q3, q4, q5, q6, q7, q8, q9, q10, q11, q12, q13, q14, q15⟩ := h.1
  have hw : WarmRel dn (S.1 4) (S.1 109) := h.2.2.2.2.2.1
  refine ⟨⟨by omega, q8, fun d hd => (hw d hd).2, q14, fun s hs => ?_⟩, q7, q13, hw, hS⟩
  obtain ⟨n, hn, e, -⟩ := (hS s hs).2.2.2.1
  exact ⟨n, hn, e⟩
theorem RefW.found {dn : Nat} {S : St} (h : RefW dn S) (c : Int32) : RefW dn (f_X6_finding c S).2 := h.cong (fun i hi => by simp only [f_X6_finding]; rw [wr1_ne (by omega)])
theorem sm_warmth (x : Int32) : Sm Rel (f_X6_warmth x) (f_X7_warmth x) := by
  intro B S hB hR
  obtain ⟨cnt, yr, dn, g1, g2, g34, g5, g6, g7⟩ := id hR
  have hc := g2.clsW g5
  by_cases h1 : f_X6_isDay x = true
  · obtain ⟨d, -, hd, rfl⟩ := within_nat (a := 0) (b := 49) (by decide) (by decide) h1
    exact ⟨nI (warmF S d), S, S, by simp only [f_X6_warmth, h1, if_true, named_run hc, now_run hc (show d < 50 by omega), Option.bind_some], by simp only [f_X7_warmth, isDay_eq, h1, if_true, warm_run hc.1 (show d < 50 by omega), Option.bind_some], hR.mono⟩
  · exact ⟨-1, (f_X6_finding (-1) S).2, (f_X7_found (-1) (f_X6_finding (-1) S).2).2, by simp only [f_X6_warmth, h1, if_false]; rfl, by simp only [f_X7_warmth, isDay_eq, h1, if_false]; rfl, hR.found _ _⟩
