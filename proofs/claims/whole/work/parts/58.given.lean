theorem layTrees_get {A : Nat → Int32} {p : Nat} (hp : p < 12) (hk : A (66 + 11 * p + 2) = 1) : ∃ t, t < (layTrees A).length ∧ (layTrees A).getD t 0 = p := by
  have hm : p ∈ layTrees A := List.mem_filter.mpr ⟨List.mem_range.mpr hp, by simp [hk]⟩
  obtain ⟨t, ht⟩ := List.getElem?_of_mem hm
  have hl : t < (layTrees A).length := (List.getElem?_eq_some_iff.mp ht).1
  exact ⟨t, hl, by rw [List.getD_eq_getElem?_getD, ht]; rfl⟩
theorem sm_given (x : Int32) : Sm Rel (f_X6_given x) (f_X7_given x) := by
  intro B S hB hR
  have hm := hR.mono
  obtain ⟨cnt, yr, dn, g1, g2, g34, g5, g6, g7⟩ := id hR
  obtain ⟨y1, y2⟩ := g6
  have e0 : rd S 101 0 = rd S 108 9 := y1
  have eF : ∀ c, rd (f_X6_finding c S).2 108 9 = rd S 108 9 := fun c => fnd_rd c S (by decide)
  by_cases h0 : rd S 108 9 = 0
  · exact ⟨-6, (f_X6_finding (-6) S).2, (f_X7_found (-6) (f_X6_finding (-6) S).2).2, by simp only [f_X6_given, e0, h0, if_true]; rfl, by simp only [f_X7_given, eF, h0, if_true]; rfl, hR.found _ _⟩
  · by_cases h1 : f_X6_isPlace x = true
    · obtain ⟨p, hp, rfl⟩ := place_nat h1
      obtain ⟨cnt', yr', dn', hP⟩ := hR.place hp
      have hk : rd S (20 + 2 * p) 2 = rd S 109 (66 + 11 * p + 2) := hP.2.2.2.2.1
      have hin : inb (nI p) 12 = true := inb_nI hp (by decide)
      have hix : ix (nI p) = p := ix_nI (by omega)
      by_cases k1 : rd S 109 (66 + 11 * p + 2) = 1
      · have hg : rd S 104 p = rd S 116 p := by
          rcases y2 with y2 | ⟨-, g, -, -, y3⟩
          · exact absurd y2 h0
          · obtain ⟨t, ht, hte⟩ := layTrees_get (A := S.1 109) hp k1
            have := y3 t ht
            rw [hte] at this
            exact this.1.trans this.2.symm
        exact ⟨rd S 104 p, S, S, by simp only [f_X6_given, e0, h0, h1, hin, hix, hk, k1, if_true, if_false], by simp only [f_X7_given, h0, isPlace_eq, h1, hin, hix, get_k hp, Option.bind_some, k1, if_true, if_false, hg], hm⟩
      · have eK : rd (f_X6_finding (-1) S).2 109 (66 + 11 * p + 2) = rd S 109 (66 + 11 * p + 2) := fnd_rd _ S (by decide)
        exact ⟨-1, (f_X6_finding (-1) S).2, (f_X7_found (-1) (f_X6_finding (-1) S).2).2, by simp only [f_X6_given, e0, h0, h1, hin, hix, hk, k1, if_true, if_false]; rfl, by simp only [f_X7_given, eF, h0, isPlace_eq, h1, get_k hp, Option.bind_some, eK, k1, if_true, if_false]; rfl, hR.found _ _⟩
    · exact ⟨-1, (f_X6_finding (-1) S).2, (f_X7_found (-1) (f_X6_finding (-1) S).2).2, by simp only [f_X6_given, e0, h0, h1, if_false]; rfl, by simp only [f_X7_given, eF, h0, isPlace_eq, h1, if_false]; rfl, hR.found _ _⟩
