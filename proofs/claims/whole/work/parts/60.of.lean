theorem mn_lt (x z : Int32) : mnI x z = if x < z then x else z := by
  unfold mnI
  by_cases h : z < x
  · rw [if_pos h, if_neg (fun q => by
      have a := Int32.lt_iff_toInt_lt.mp h
      have b := Int32.lt_iff_toInt_lt.mp q
      omega)]
  · rw [if_neg h]
    by_cases h2 : x < z
    · rw [if_pos h2]
    · rw [if_neg h2]
      have a : ¬ z.toInt < x.toInt := fun q => h (Int32.lt_iff_toInt_lt.mpr q)
      have b : ¬ x.toInt < z.toInt := fun q => h2 (Int32.lt_iff_toInt_lt.mpr q)
      exact Int32.toInt_inj.mp (by omega)
theorem height_J {p : Nat} (hp : p < 12) (m : Int32) (S : St) : f_X7_heightOf_J16 (nI p) m S = some (mnI (rd S 109 784 - rd S 109 (66 + 11 * p + 5)) m) := by
  simp only [f_X7_heightOf_J16, age_nat hp, Option.bind_some]
  rw [mn_lt]
  by_cases h : rd S 109 784 - rd S 109 (66 + 11 * p + 5) < m
  · rw [if_pos h, if_pos h]
  · rw [if_neg h, if_neg h]
theorem height_both {S : St} {p : Nat} (hp : p < 12) (c5 : rd S (20 + 2 * p) 5 = rd S 109 (66 + 11 * p + 5)) (c2 : rd S (20 + 2 * p) 2 = rd S 109 (66 + 11 * p + 2)) (cy : rd S 1 4 = rd S 109 784) : f_X7_heightOf (nI p) S = some (f_X2_heightIn (20 + 2 * p) (rd S 1 4) S) := by
  simp only [f_X7_heightOf, f_X2_heightIn, get_k hp, Option.bind_some, height_J hp, c5, c2, cy]
  by_cases k : rd S 109 (66 + 11 * p + 2) = 3
  · rw [if_pos k, if_pos k]
  · rw [if_neg k, if_neg k]
/-- of a tree: what a related state gives -/
theorem Rel.tree {B : Nat} {S : St} (h : Rel B S) {p : Nat} (hp : p < 12) (k0 : ¬ rd S 109 (66 + 11 * p + 2) = 0) (k5 : ¬ rd S 109 (66 + 11 * p + 2) = 5) : rd S 1 4 = rd S 109 784 ∧ (∀ k, k = 2 ∨ k = 3 ∨ k = 4 ∨ k = 5 ∨ k = 6 ∨ k = 7 → rd S (20 + 2 * p) k = rd S 109 (66 + 11 * p + k)) ∧ ∃ s : Nat, s < 6 ∧ rd S 109 (66 + 11 * p + 3) = nI s ∧ rd S (8 + 2 * s) 4 = rd S 109 (5 * s + 4) := by
  obtain ⟨cnt, yr, dn, -, h2, -⟩ := h
  have hH := h2.1
  have hP := h2.2.2.2.1 p hp
  have e1 : 1 + (19 + 2 * p) = 20 + 2 * p := by omega
  simp only [e1] at hP
  obtain ⟨tk, hS⟩ := h2.2.1
  refine ⟨hH.2.2.2.2.1.trans hH.2.2.2.2.2.1.symm, ?_, ?_⟩
  · obtain ⟨-, -, -, -, r5, -, -, r8⟩ := hP
    rcases r8 with q | q | q
    · exact absurd q.1 k0
    · exact absurd q.1 k5
    · intro k hk
      rcases hk with rfl | rfl | rfl | rfl | rfl | rfl
      · exact r5
      · exact q.2.1
      · exact q.2.2.1
      · exact q.2.2.2.1
      · exact q.2.2.2.2.1
      · exact q.2.2.2.2.2.1
  · obtain ⟨-, -, -, -, -, -, -, r8⟩ := hP
    rcases r8 with q | q | q
    · exact absurd q.1 k0
    · exact absurd q.1 k5
    · obtain ⟨s, hs, h3⟩ := q.2.2.2.2.2.2.2.1
      have hc6 : cnt ≤ 6 := hH.1
      have := ((hS s (by omega)).1 hs).1 4 (by decide)
      have e2 : 1 + (7 + 2 * s) = 8 + 2 * s := by omega
      simp only [e2] at this
      exact ⟨s, by omega, h3, this⟩
