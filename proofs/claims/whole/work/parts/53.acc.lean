-- the reference's reads and writes at plain numbers
theorem ix_nI {n : Nat} (h : n < 2 ^ 31) : ix (nI n) = n := nI_clamp h
theorem inb_nI {n m : Nat} (h : n < m) (hm : m < 2 ^ 31) : inb (nI n) m = true := by
  simp only [inb, Bool.and_eq_true, decide_eq_true_eq]
  refine ⟨nI_pos' (by omega), ?_⟩
  rw [nI_clamp (by omega)]; exact h
theorem within_yes {n a b : Nat} (h1 : a ≤ n) (h2 : n ≤ b) (hb : b < 2 ^ 31) : f_X6_within (nI n) (nI a) (nI b) = true := by
  unfold f_X6_within
  rw [if_neg (nI_nlt h1 (by omega)), if_neg (nI_nlt h2 hb)]
theorem get_nat {p k : Nat} (hp : p < 12) (hk : k < 11) (S : St) : f_X7_get (nI p) (nI k) S = some (rd S 109 (66 + 11 * p + k)) := by
  have e : (66 : Int32) + (11 : Int32) * nI p + nI k = nI (66 + 11 * p + k) := by
    rw [show (66 : Int32) = nI 66 from rfl, show (11 : Int32) = nI 11 from rfl, pk_mul, nI_add, nI_add]
  unfold f_X7_get
  rw [e, if_pos (inb_nI (by omega) (by decide)), ix_nI (by omega)]
theorem lay_nat {p k : Nat} (hp : p < 12) (hk : k < 11) (v : Int32) (S : St) : f_X7_lay (nI p) (nI k) v S = some (wr S 109 (66 + 11 * p + k) v) := by
  have e : (66 : Int32) + (11 : Int32) * nI p + nI k = nI (66 + 11 * p + k) := by
    rw [show (66 : Int32) = nI 66 from rfl, show (11 : Int32) = nI 11 from rfl, pk_mul, nI_add, nI_add]
  unfold f_X7_lay
  rw [e, if_pos (inb_nI (by omega) (by decide)), ix_nI (by omega)]
theorem get_k {p : Nat} (hp : p < 12) (S : St) : f_X7_get (nI p) 2 S = some (rd S 109 (66 + 11 * p + 2)) := get_nat (k := 2) hp (by decide) S
theorem place_nat {x : Int32} (h : f_X6_isPlace x = true) : ∃ p : Nat, p < 12 ∧ x = nI p := by
  obtain ⟨n, -, h2, h3⟩ := within_nat (a := 0) (b := 11) (by decide) (by decide) h
  exact ⟨n, by omega, h3⟩
theorem isPlace_eq (x : Int32) : f_X7_isPlace x = f_X6_isPlace x := rfl
/-- what a place's kind may be -/
theorem PlaceRel.kinds {cnt yr dn : Nat} {c f a : Nat → Int32} (h : PlaceRel cnt yr dn c f a) : a 2 = 0 ∨ a 2 = 1 ∨ a 2 = 2 ∨ a 2 = 3 ∨ a 2 = 4 ∨ a 2 = 5 := by
  obtain ⟨-, -, -, -, -, -, -, h | h | h⟩ := h
  · exact Or.inl h.1
  · exact Or.inr (Or.inr (Or.inr (Or.inr (Or.inr h.1))))
  · rcases h.1 with q | q | q | q
    · exact Or.inr (Or.inl q)
    · exact Or.inr (Or.inr (Or.inl q))
    · exact Or.inr (Or.inr (Or.inr (Or.inl q)))
    · exact Or.inr (Or.inr (Or.inr (Or.inr (Or.inl q))))
theorem Rel.place {B : Nat} {S : St} (h : Rel B S) {p : Nat} (hp : p < 12) : ∃ cnt yr dn : Nat, PlaceRel cnt yr dn (S.1 (20 + 2 * p)) (S.1 (21 + 2 * p)) (fun k => S.1 109 (66 + 11 * p + k)) := by
  obtain ⟨cnt, yr, dn, -, h2, -⟩ := h
  have := h2.2.2.2.1 p hp
  refine ⟨cnt, yr, dn, ?_⟩
  have e1 : 1 + (19 + 2 * p) = 20 + 2 * p := by omega
  have e2 : 1 + (20 + 2 * p) = 21 + 2 * p := by omega
  simp only [e1, e2] at this
  exact this
theorem isTree_yes {t : Nat} {S : St} {K : Int32} (h : rd S t 2 = K) (hk : K = 1 ∨ K = 2 ∨ K = 3 ∨ K = 4) : f_X2_isTree t S = true := by
  unfold f_X2_isTree
  rw [h]
  rcases hk with rfl | rfl | rfl | rfl <;> rfl
theorem isTree_no {t : Nat} {S : St} {K : Int32} (h : rd S t 2 = K) (hk : K = 0 ∨ K = 5) : f_X2_isTree t S = false := by
  unfold f_X2_isTree
  rw [h]
  rcases hk with rfl | rfl <;> rfl
theorem as_yes (x : Int32) (S : St) : f_X6_as_J66 x S = some (x, S) := rfl
theorem as_no (x : Int32) (S : St) : f_X6_as_J70 x S = some ((f_X6_finding (-4) S).1, (f_X6_finding (-4) S).2) := rfl
theorem fnd_rd (c : Int32) (S : St) {i k : Nat} (h : i ≠ 0) : rd (f_X6_finding c S).2 i k = rd S i k := by
  simp only [f_X6_finding, rd]; rw [wr1_ne h]
theorem sm_as (x z : Int32) : Sm Rel (f_X6_as x z) (f_X7_as x z) := by
  intro B S hB hR
  have hm := hR.mono
  by_cases h1 : f_X6_isPlace x = true
  · by_cases h2 : f_X6_within z 1 5 = true
    · obtain ⟨p, hp, rfl⟩ := place_nat h1
      obtain ⟨cnt, yr, dn, hP⟩ := hR.place hp
      have hk : rd S (20 + 2 * p) 2 = rd S 109 (66 + 11 * p + 2) := hP.2.2.2.2.1
      have hin : inb (nI p) 12 = true := inb_nI hp (by decide)
      have hix : ix (nI p) = p := ix_nI (by omega)
      have hks : rd S 109 (66 + 11 * p + 2) = 0 ∨ rd S 109 (66 + 11 * p + 2) = 1 ∨ rd S 109 (66 + 11 * p + 2) = 2 ∨ rd S 109 (66 + 11 * p + 2) = 3 ∨ rd S 109 (66 + 11 * p + 2) = 4 ∨ rd S 109 (66 + 11 * p + 2) = 5 := hP.kinds
      generalize hK : rd S 109 (66 + 11 * p + 2) = K at hk hks
      have eF : ∀ c, rd (f_X6_finding c S).2 109 (66 + 11 * p + 2) = K := fun c => by rw [fnd_rd c S (by decide)]; exact hK
      by_cases k0 : K = 0
      · exact ⟨-6, (f_X6_finding (-6) S).2, (f_X7_found (-6) (f_X6_finding (-6) S).2).2, by simp only [f_X6_as, h1, h2, hin, hix, hk, k0, if_true]; rfl, by simp only [f_X7_as, isPlace_eq, in_eq, h1, h2, if_true, get_k hp, Option.bind_some, eF, k0]; rfl, hR.found _ _⟩
      · by_cases kz : K = z
        · subst kz
          exact ⟨nI p, S, S, by simp only [f_X6_as, h1, h2, hin, hix, hk, k0, if_true, if_false, as_yes], by simp only [f_X7_as, isPlace_eq, in_eq, h1, h2, if_true, if_false, get_k hp, Option.bind_some, hK, k0], hm⟩
        · have kz' : ¬ z = K := fun q => kz q.symm
          have noF : ∀ (w1 : f_X6_as (nI p) z S = some ((f_X6_finding (-4) S).1, (f_X6_finding (-4) S).2)) (w2 : f_X7_as (nI p) z (f_X6_finding (-4) S).2 = some ((f_X7_found (-4) (f_X6_finding (-4) S).2).1, (f_X7_found (-4) (f_X6_finding (-4) S).2).2)), ∃ (v : Int32) (S1 S2 : St), f_X6_as (nI p) z S = some (v, S1) ∧ f_X7_as (nI p) z S1 = some (v, S2) ∧ Rel (B + 1) S2 := fun w1 w2 => ⟨-4, _, _, w1, w2, hR.found _ _⟩
          by_cases z1 : z = 1
          · subst z1
            by_cases k5 : K = 5
            · have ht := isTree_no hk (Or.inr k5)
              refine noF ?_ ?_
              · simp only [f_X6_as, h1, h2, hin, hix, hk, k0, kz, ht, if_true, if_false, as_no, Bool.false_eq_true]
              · simp only [f_X7_as, isPlace_eq, in_eq, h1, h2, if_true, if_false, get_k hp, Option.bind_some, eF, k0, kz', k5]
                simp only [if_neg (by decide : ¬ (5 : Int32) = 0), if_neg (by decide : ¬ (1 : Int32) = 5)]
            · have ht := isTree_yes hk (by rcases hks with q | q | q | q | q | q <;> simp_all)
              exact ⟨nI p, S, S, by simp only [f_X6_as, h1, h2, hin, hix, hk, k0, kz, ht, if_true, if_false, as_yes], by simp only [f_X7_as, isPlace_eq, in_eq, h1, h2, if_true, if_false, get_k hp, Option.bind_some, hK, k0, kz', k5], hm⟩
          · refine noF ?_ ?_
            · simp only [f_X6_as, h1, h2, hin, hix, hk, k0, kz, z1, if_true, if_false, as_no]
            · simp only [f_X7_as, isPlace_eq, in_eq, h1, h2, if_true, if_false, get_k hp, Option.bind_some, eF, k0, kz', z1]
    · exact ⟨-1, (f_X6_finding (-1) S).2, (f_X7_found (-1) (f_X6_finding (-1) S).2).2, by simp only [f_X6_as, h1, h2, if_true, if_false]; rfl, by simp only [f_X7_as, isPlace_eq, in_eq, h1, h2, if_true, if_false]; rfl, hR.found _ _⟩
  · exact ⟨-1, (f_X6_finding (-1) S).2, (f_X7_found (-1) (f_X6_finding (-1) S).2).2, by simp only [f_X6_as, h1, if_false]; rfl, by simp only [f_X7_as, isPlace_eq, h1, if_false]; rfl, hR.found _ _⟩
