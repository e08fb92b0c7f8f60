/-- the sheets alone change -/
theorem Rel.sheeted {B : Nat} {S S' : St} (hR : Rel B S) (kO : ∀ i, i ≤ 87 ∨ (96 ≤ i ∧ i ≤ 112) ∨ i = 116 → S'.1 i = S.1 i) (k2 : S'.2 = S.2) (kS : SheetRel S → SheetRel S') : Rel (B + 1) S' := by
  obtain ⟨cnt, yr, dn, g1, g2, ⟨g3, g4⟩, g5, g6, g7⟩ := hR
  have e : ∀ i, i ≤ 87 → S'.1 i = S.1 i := fun i h => kO i (Or.inl h)
  have e' : ∀ i, 96 ≤ i → i ≤ 112 → S'.1 i = S.1 i := fun i a b => kO i (Or.inr (Or.inl ⟨a, b⟩))
  refine ⟨cnt, yr, dn, by omega, ?_, ⟨by rw [e 0 (by decide), e' 108 (by decide) (by decide)]; exact g3, ?_⟩, kS g5, ?_, by rw [e 0 (by decide), e' 108 (by decide) (by decide)]; exact g7.1, by rw [e' 106 (by decide) (by decide)]; exact g7.2⟩
  · rw [k2, e' 109 (by decide) (by decide)]
    exact g2.cong (fun i hi => e (1 + i) (by omega))
  · rw [e' 108 (by decide) (by decide)]
    rcases g4 with g4 | ⟨g4, c', y', d', w1, w2⟩
    · exact Or.inl g4
    · refine Or.inr ⟨g4, c', y', d', by omega, ?_⟩
      rw [k2, e' 110 (by decide) (by decide)]
      exact w2.cong (fun i hi => e (44 + i) (by omega))
  · rw [e' 101 (by decide) (by decide), e' 104 (by decide) (by decide), e' 109 (by decide) (by decide), e' 108 (by decide) (by decide), kO 116 (Or.inr (Or.inr rfl))]
    exact g6
/-- number i of sheet s becomes v on both sides -/
theorem Rel.putted {B : Nat} {S : St} (hR : Rel B S) {s i : Nat} (hs : s < 4) (hi : i < 50) (v : Int32) : Rel (B + 1) (wr (wr S (89 + 2 * s) i v) 115 (50 * s + i) v) := by
  refine hR.sheeted ?_ rfl ?_
  · intro j hj
    rw [wr1_ne (by omega), wr1_ne (by omega)]
  · intro h t ht
    obtain ⟨a1, a2, a3, a4, a5⟩ := h t ht
    rw [wr1_ne (by omega : 88 + 2 * t ≠ 115), wr1_ne (by omega : 88 + 2 * t ≠ 89 + 2 * s), wr1_ne (by decide : (113 : Nat) ≠ 115), wr1_ne (by omega : (113 : Nat) ≠ 89 + 2 * s), wr1_ne (by decide : (114 : Nat) ≠ 115), wr1_ne (by omega : (114 : Nat) ≠ 89 + 2 * s)]
    refine ⟨a1, a2, a3, a4, fun k hk => ?_⟩
    rw [wr1_ne (by omega : 89 + 2 * t ≠ 115), wr1_eq, wr1_ne (by omega : (115 : Nat) ≠ 89 + 2 * s)]
    by_cases c : t = s
    · subst c
      rw [wr1_eq]
      by_cases d : k = i
      · subst d; rw [if_pos rfl, if_pos rfl]
      · rw [if_neg d, if_neg (by omega)]; exact a5 k hk
    · rw [wr1_ne (by omega : 89 + 2 * t ≠ 89 + 2 * s), if_neg (by omega)]
      exact a5 k hk
