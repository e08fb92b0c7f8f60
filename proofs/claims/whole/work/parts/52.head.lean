-- calls that touch the head of the book alone
theorem ix_782 : ix (782 : Int32) = 782 := rfl
theorem ix_783 : ix (783 : Int32) = 783 := rfl
theorem ix_784 : ix (784 : Int32) = 784 := rfl
theorem ix_785 : ix (785 : Int32) = 785 := rfl
theorem ix_786 : ix (786 : Int32) = 786 := rfl
theorem ix_787 : ix (787 : Int32) = 787 := rfl
/-- the head of the book changes: cell 1 and numbers 783 to 787; the laying may be forgotten -/
theorem Rel.headed {B : Nat} {S S' : St} {cnt yr dn : Nat} (hy : yr ≤ B) (h2 : BookRel cnt yr dn (fun i => S.1 (1 + i)) (S.2 7) (S.1 109) (S.2 111)) (h34 : (S.1 0 2 = S.1 108 4 ∧ (S.1 108 4 = 0 ∨ (S.1 108 4 = 1 ∧ ∃ cnt' yr' dn' : Nat, yr' ≤ B ∧ BookRel cnt' yr' dn' (fun i => S.1 (44 + i)) (S.2 50) (S.1 110) (S.2 112))))) (h5 : SheetRel S) (h7 : S.1 0 6 = S.1 108 10 ∧ S.1 106 0 = 0)
    (k0 : S'.1 0 = S.1 0) (kC : ∀ i, 2 ≤ i → i ≤ 95 → S'.1 i = S.1 i) (kR : ∀ i, 110 ≤ i → i ≤ 116 → S'.1 i = S.1 i) (k8 : ∀ k, k ≠ 9 → S'.1 108 k = S.1 108 k) (kL : S'.2 = S.2) (kA : ∀ k, k < 782 → S'.1 109 k = S.1 109 k) (kH : HeadRel cnt yr dn (S'.1 1) (S'.1 109)) (kY : LayRel cnt (S'.1 101) (S'.1 104) (S'.1 109) (S'.1 116) (S'.1 108 9)) (k106 : S'.1 106 = S.1 106) : Rel (B + 1) S' := by
  obtain ⟨h3, h4⟩ := h34
  refine ⟨cnt, yr, dn, by omega, ?_, ⟨by rw [k0, k8 4 (by decide)]; exact h3, ?_⟩, ?_, kY, by rw [k0, k8 10 (by decide)]; exact h7.1, by rw [k106]; exact h7.2⟩
  · rw [kL]
    exact h2.head kH (fun i a b => kC (1 + i) (by omega) (by omega)) kA
  · rw [k8 4 (by decide)]
    rcases h4 with h4 | ⟨h4, c', y', d', q1, q2⟩
    · exact Or.inl h4
    · refine Or.inr ⟨h4, c', y', d', by omega, ?_⟩
      rw [kL, kR 110 (by decide) (by decide)]
      exact q2.cong (fun i hi => kC (44 + i) (by omega) (by omega))
  · intro s hs
    rw [kC (88 + 2 * s) (by omega) (by omega), kC (89 + 2 * s) (by omega) (by omega), kR 113 (by decide) (by decide), kR 114 (by decide) (by decide), kR 115 (by decide) (by decide)]
    exact h5 s hs
theorem sm_hours (x : Int32) : Sm Rel (fun S => some (f_X6_hours x S)) (f_X7_hours x) := by
  intro B S hB hR
  by_cases h : f_X6_within x 0 1000 = true
  · obtain ⟨n, -, hn, rfl⟩ := within_nat (a := 0) (b := 1000) (by decide) (by decide) h
    obtain ⟨cnt, yr, dn, h1, h2, h34, h5, h6, h7⟩ := hR
    have hH := h2.1
    obtain ⟨q1, q2, q3, q4, q5, q6, q7, q8, q9, q10, q11, q12, q13, q14, q15⟩ := hH
    refine ⟨rd S 1 9, wr S 1 9 (nI n), wr (wr S 1 9 (nI n)) 109 787 (nI n), by simp only [f_X6_hours, h, if_true], ?_, ?_⟩
    · simp only [f_X7_hours, in_eq, h, if_true, ix_787]
      have : rd (wr S 1 9 (nI n)) 109 787 = rd S 1 9 := by
        simp only [rd]; rw [wr1_ne (by decide)]; exact q11.symm
      rw [this]
    · refine Rel.headed h1 h2 h34 h5 h7 ?_ ?_ ?_ ?_ rfl ?_ ?_ ?_ (by first | (rw [wr1_ne (by decide), wr1_ne (by decide), wr1_ne (by decide), wr1_ne (by decide)]; done) | rw [wr1_ne (by decide), wr1_ne (by decide)])
      · rw [wr1_ne (by decide), wr1_ne (by decide)]
      · intro i a b; rw [wr1_ne (by omega), wr1_ne (by omega)]
      · intro i a b; rw [wr1_ne (by omega), wr1_ne (by omega)]
      · intro k _; rw [wr1_ne (by decide), wr1_ne (by decide)]
      · intro k hk; rw [wr1_eq, if_neg (by omega), wr1_ne (by decide)]
      · simp only [HeadRel]
        rw [wr1_ne (by decide : (1 : Nat) ≠ 109)]
        simp only [wr1_eq]
        rw [wr1_ne (by decide : (109 : Nat) ≠ 1)]
        refine ⟨q1, q2, ?_⟩
        simp (decide := true) only [if_true, if_false]
        exact ⟨q3, q4, q5, q6, q7, q8, q9, q10, trivial, ⟨n, hn, rfl⟩, q13, q14, q15⟩
      · rw [wr1_ne (by decide : (101 : Nat) ≠ 109), wr1_ne (by decide : (101 : Nat) ≠ 1), wr1_ne (by decide : (104 : Nat) ≠ 109), wr1_ne (by decide : (104 : Nat) ≠ 1), wr1_ne (by decide : (116 : Nat) ≠ 109), wr1_ne (by decide : (116 : Nat) ≠ 1), wr1_ne (by decide : (108 : Nat) ≠ 109), wr1_ne (by decide : (108 : Nat) ≠ 1)]
        refine h6.cong q1 (fun k hk => ?_) ?_
        · rw [wr1_eq, if_neg (by omega), wr1_ne (by decide)]
        · rw [wr1_eq, if_neg (by decide), wr1_ne (by decide)]
  · have h' : ¬ f_X6_within x 0 1000 = true := h
    refine ⟨-1, (f_X6_finding (-1) S).2, (f_X7_found (-1) (f_X6_finding (-1) S).2).2, by simp only [f_X6_hours, h', if_false]; rfl, by simp only [f_X7_hours, in_eq, h', if_false]; rfl, hR.found _ _⟩
theorem sm_name (x : Int32) : Sm Rel (fun S => some (f_X6_name x S)) (f_X7_name x) := by
  intro B S hB hR
  have main : (x = -1 ∨ ∃ s : Nat, s < 4 ∧ x = nI s) → Rel (B + 1) (wr (wr S 1 10 x) 109 786 x) := by
    intro hx
    obtain ⟨cnt, yr, dn, h1, h2, h34, h5, h6, h7⟩ := hR
    have hH := h2.1
    obtain ⟨q1, q2, q3, q4, q5, q6, q7, q8, q9, q10, q11, q12, q13, q14, q15⟩ := hH
    refine Rel.headed h1 h2 h34 h5 h7 ?_ ?_ ?_ ?_ rfl ?_ ?_ ?_ (by first | (rw [wr1_ne (by decide), wr1_ne (by decide), wr1_ne (by decide), wr1_ne (by decide)]; done) | rw [wr1_ne (by decide), wr1_ne (by decide)])
    · rw [wr1_ne (by decide), wr1_ne (by decide)]
    · intro i a b; rw [wr1_ne (by omega), wr1_ne (by omega)]
    · intro i a b; rw [wr1_ne (by omega), wr1_ne (by omega)]
    · intro k _; rw [wr1_ne (by decide), wr1_ne (by decide)]
    · intro k hk; rw [wr1_eq, if_neg (by omega), wr1_ne (by decide)]
    · simp only [HeadRel]
      rw [wr1_ne (by decide : (1 : Nat) ≠ 109)]
      simp only [wr1_eq]
      rw [wr1_ne (by decide : (109 : Nat) ≠ 1)]
      refine ⟨q1, q2, ?_⟩
      simp (decide := true) only [if_true, if_false]
      exact ⟨q3, q4, q5, q6, q7, q8, q9, q10, q11, q12, trivial, hx, q15⟩
    · rw [wr1_ne (by decide : (101 : Nat) ≠ 109), wr1_ne (by decide : (101 : Nat) ≠ 1), wr1_ne (by decide : (104 : Nat) ≠ 109), wr1_ne (by decide : (104 : Nat) ≠ 1), wr1_ne (by decide : (116 : Nat) ≠ 109), wr1_ne (by decide : (116 : Nat) ≠ 1), wr1_ne (by decide : (108 : Nat) ≠ 109), wr1_ne (by decide : (108 : Nat) ≠ 1)]
      refine h6.cong q1 (fun k hk => ?_) ?_
      · rw [wr1_eq, if_neg (by omega), wr1_ne (by decide)]
      · rw [wr1_eq, if_neg (by decide), wr1_ne (by decide)]
  by_cases h0 : x = -1
  · exact ⟨1, wr S 1 10 x, wr (wr S 1 10 x) 109 786 x, by simp only [f_X6_name, h0, if_true, if_false], by simp only [f_X7_name, f_X7_name_J18, h0, ix_786, if_true, if_false], main (Or.inl h0)⟩
  · by_cases h : f_X6_within x 0 3 = true
    · have hs : ∃ s : Nat, s < 4 ∧ x = nI s := by
        obtain ⟨n, -, hn, hx⟩ := within_nat (a := 0) (b := 3) (by decide) (by decide) h
        exact ⟨n, by omega, hx⟩
      exact ⟨1, wr S 1 10 x, wr (wr S 1 10 x) 109 786 x, by simp only [f_X6_name, h0, f_X6_isSheet, h, if_true, if_false], by simp only [f_X7_name, f_X7_name_J18, h0, f_X7_isSheet, in_eq, h, ix_786, if_true, if_false], main (Or.inr hs)⟩
    · exact ⟨-1, (f_X6_finding (-1) S).2, (f_X7_found (-1) (f_X6_finding (-1) S).2).2, by simp only [f_X6_name, h0, f_X6_isSheet, h, if_true, if_false]; rfl, by simp only [f_X7_name, h0, f_X7_isSheet, in_eq, h, if_true, if_false]; rfl, hR.found _ _⟩
theorem sm_distance (x : Int32) : Sm Rel (fun S => some (f_X6_distance x S)) (f_X7_distance x) := by
  intro B S hB hR
  by_cases h : f_X6_within x 1 15 = true
  · obtain ⟨n, hn1, hn, rfl⟩ := within_nat (a := 1) (b := 15) (by decide) (by decide) h
    obtain ⟨cnt, yr, dn, h1, h2, h34, h5, h6, h7⟩ := hR
    have hH := h2.1
    obtain ⟨q1, q2, q3, q4, q5, q6, q7, q8, q9, q10, q11, q12, q13, q14, q15⟩ := hH
    refine ⟨rd S 1 3, wr (wr S 1 3 (nI n)) 101 0 0, wr (wr (wr (wr S 1 3 (nI n)) 101 0 0) 109 783 (nI n)) 108 9 0, by simp only [f_X6_distance, h, if_true, f_X1_forget], ?_, ?_⟩
    · simp only [f_X7_distance, in_eq, h, if_true, ix_783]
      have : rd (wr (wr S 1 3 (nI n)) 101 0 0) 109 783 = rd S 1 3 := by
        simp only [rd]; rw [wr1_ne (by decide), wr1_ne (by decide)]; exact q9.symm
      rw [this]
    · refine Rel.headed h1 h2 h34 h5 h7 ?_ ?_ ?_ ?_ rfl ?_ ?_ ?_ (by first | (rw [wr1_ne (by decide), wr1_ne (by decide), wr1_ne (by decide), wr1_ne (by decide)]; done) | rw [wr1_ne (by decide), wr1_ne (by decide)])
      · rw [wr1_ne (by decide), wr1_ne (by decide), wr1_ne (by decide), wr1_ne (by decide)]
      · intro i a b; rw [wr1_ne (by omega), wr1_ne (by omega), wr1_ne (by omega), wr1_ne (by omega)]
      · intro i a b; rw [wr1_ne (by omega), wr1_ne (by omega), wr1_ne (by omega), wr1_ne (by omega)]
      · intro k hk; rw [wr1_eq, if_neg hk, wr1_ne (by decide), wr1_ne (by decide), wr1_ne (by decide)]
      · intro k hk; rw [wr1_ne (by decide), wr1_eq, if_neg (by omega), wr1_ne (by decide), wr1_ne (by decide)]
      · simp only [HeadRel]
        rw [wr1_ne (by decide : (1 : Nat) ≠ 108), wr1_ne (by decide : (1 : Nat) ≠ 109), wr1_ne (by decide : (1 : Nat) ≠ 101), wr1_ne (by decide : (109 : Nat) ≠ 108)]
        simp only [wr1_eq]
        rw [wr1_ne (by decide : (109 : Nat) ≠ 101), wr1_ne (by decide : (109 : Nat) ≠ 1)]
        refine ⟨q1, q2, ?_⟩
        simp (decide := true) only [if_true, if_false]
        exact ⟨q3, q4, q5, q6, q7, q8, trivial, ⟨n, hn1, hn, rfl⟩, q11, q12, q13, q14, q15⟩
      · have e9 : (wr (wr (wr (wr S 1 3 (nI n)) 101 0 0) 109 783 (nI n)) 108 9 0).1 108 9 = 0 := by rw [wr1_eq, if_pos rfl]
        rw [e9]
        apply LayRel.no
        rw [wr1_ne (by decide), wr1_ne (by decide), wr1_eq, if_pos rfl]
  · exact ⟨-1, (f_X6_finding (-1) S).2, (f_X7_found (-1) (f_X6_finding (-1) S).2).2, by simp only [f_X6_distance, h, if_true, if_false]; rfl, by simp only [f_X7_distance, in_eq, h, if_true, if_false]; rfl, hR.found _ _⟩
theorem sm_told (x : Int32) : Sm Rel (fun S => some (f_X6_told x S)) (f_X7_told x) := by
  intro B S hB hR
  have hm := hR.mono
  obtain ⟨cnt, yr, dn, h1, h2, h34, h5, h6, h7⟩ := id hR
  have hH := h2.1
  obtain ⟨q1, q2, q3, q4, q5, q6, q7, q8, q9, q10, q11, q12, q13, q14, q15⟩ := hH
  have e4 : rd S 1 4 = rd S 109 784 := q5.trans q6.symm
  have e5 : rd S 1 5 = rd S 109 785 := q7.trans q8.symm
  have e1 : rd S 1 1 = rd S 109 782 := q3.trans q4.symm
  have e6 : rd S 0 6 = rd S 108 10 := h7.1
  have e10 : rd S 1 10 = rd S 109 786 := q13
  by_cases c0 : x = 0
  · exact ⟨rd S 1 4, S, S, by simp (decide := true) only [f_X6_told, c0, if_true], by simp (decide := true) only [f_X7_told, c0, if_true, ix_784, e4], hm⟩
  by_cases c1 : x = 1
  · exact ⟨rd S 1 5, S, S, by simp (decide := true) only [f_X6_told, c0, c1, if_true, if_false], by simp (decide := true) only [f_X7_told, c0, c1, if_true, if_false, ix_785, e5], hm⟩
  by_cases c2 : x = 2
  · exact ⟨rd S 1 1, S, S, by simp (decide := true) only [f_X6_told, c0, c1, c2, if_true, if_false], by simp (decide := true) only [f_X7_told, c0, c1, c2, if_true, if_false, ix_782, e1], hm⟩
  by_cases c3 : x = 3
  · exact ⟨rd S 0 6, S, S, by simp (decide := true) only [f_X6_told, c0, c1, c2, c3, if_true, if_false], by simp (decide := true) only [f_X7_told, c0, c1, c2, c3, if_true, if_false, e6], hm⟩
  by_cases c4 : x = 4
  · have q14' : rd S 109 786 = -1 ∨ ∃ s : Nat, s < 4 ∧ rd S 109 786 = nI s := q14
    rcases q14' with g | ⟨s, hs, g⟩
    · have n1 : ((-1 : Int32) < 0) = True := eq_true (by decide)
      exact ⟨-100, S, S, by simp (decide := true) only [f_X6_told, c0, c1, c2, c3, c4, if_true, if_false, e10, g], by simp (decide := true) only [f_X7_told, c0, c1, c2, c3, c4, if_true, if_false, ix_786, g, n1], hm⟩
    · have n1 : (nI s = -1) = False := eq_false (by
        intro q
        have := congrArg Int32.toInt q
        rw [nI_toInt (by omega)] at this
        have e : (-1 : Int32).toInt = -1 := by decide
        omega)
      have n2 : (nI s < 0) = False := eq_false (nI_pos (by omega))
      exact ⟨nI s, S, S, by simp (decide := true) only [f_X6_told, c0, c1, c2, c3, c4, if_true, if_false, e10, g, n1], by simp (decide := true) only [f_X7_told, c0, c1, c2, c3, c4, if_true, if_false, ix_786, g, n2], hm⟩
  · exact ⟨-1, (f_X6_finding (-1) S).2, (f_X7_found (-1) (f_X6_finding (-1) S).2).2, by simp (decide := true) only [f_X6_told, c0, c1, c2, c3, c4, if_false]; rfl, by simp (decide := true) only [f_X7_told, c0, c1, c2, c3, c4, if_false]; rfl, hR.found _ _⟩
