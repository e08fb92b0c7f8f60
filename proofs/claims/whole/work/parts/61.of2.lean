theorem get_4 {p : Nat} (hp : p < 12) (S : St) : f_X7_get (nI p) 4 S = some (rd S 109 (66 + 11 * p + 4)) := get_nat (k := 4) hp (by decide) S
theorem get_5 {p : Nat} (hp : p < 12) (S : St) : f_X7_get (nI p) 5 S = some (rd S 109 (66 + 11 * p + 5)) := get_nat (k := 5) hp (by decide) S
theorem sm_of (x z : Int32) : Sm Rel (f_X6_of x z) (f_X7_of x z) := by
  intro B S hB hR
  have hm := hR.mono
  by_cases h1 : f_X6_isPlace x = true
  · by_cases h2 : f_X6_within z 0 7 = true
    · obtain ⟨p, hp, rfl⟩ := place_nat h1
      obtain ⟨cnt, yr, dn, hP⟩ := hR.place hp
      have hk : rd S (20 + 2 * p) 2 = rd S 109 (66 + 11 * p + 2) := hP.2.2.2.2.1
      have hin : inb (nI p) 12 = true := inb_nI hp (by decide)
      have hix : ix (nI p) = p := ix_nI (by omega)
      have eF : ∀ c, rd (f_X6_finding c S).2 109 (66 + 11 * p + 2) = rd S 109 (66 + 11 * p + 2) := fun c => fnd_rd c S (by decide)
      by_cases z0 : z = 0
      · subst z0
        exact ⟨rd S (20 + 2 * p) 2, S, S, by simp only [f_X6_of, h1, h2, hin, hix, if_true], by simp only [f_X7_of, isPlace_eq, in_eq, h1, h2, if_true, get_k hp, Option.bind_some, hk], hm⟩
      by_cases k0 : rd S 109 (66 + 11 * p + 2) = 0
      · exact ⟨-6, (f_X6_finding (-6) S).2, (f_X7_found (-6) (f_X6_finding (-6) S).2).2, by simp only [f_X6_of, h1, h2, hin, hix, z0, hk, k0, if_true, if_false]; rfl, by simp only [f_X7_of, isPlace_eq, in_eq, h1, h2, z0, if_true, if_false, get_k hp, Option.bind_some, eF, k0]; rfl, hR.found _ _⟩
      by_cases k5 : rd S 109 (66 + 11 * p + 2) = 5
      · by_cases z1 : z = 1
        · have e8 : rd S (20 + 2 * p) 8 = rd S 109 (66 + 11 * p + 3) := by
            rcases hP.2.2.2.2.2.2.2 with q | q | q
            · exact absurd q.1 k0
            · exact q.2.2.2.1
            · rcases q.1 with t | t | t | t <;> exact absurd (k5.symm.trans t) (by decide)
          subst z1
          exact ⟨rd S (20 + 2 * p) 8, S, S, by simp (decide := true) only [f_X6_of, h1, h2, hin, hix, z0, hk, k5, if_true, if_false], by simp only [f_X7_of, isPlace_eq, in_eq, h1, h2, z0, k0, if_true, if_false, get_k hp, get_3 hp, Option.bind_some, e8], hm⟩
        · exact ⟨-4, (f_X6_finding (-4) S).2, (f_X7_found (-4) (f_X6_finding (-4) S).2).2, by simp only [f_X6_of, h1, h2, hin, hix, z0, hk, k0, k5, z1, if_true, if_false]; rfl, by simp only [f_X7_of, isPlace_eq, in_eq, h1, h2, z0, z1, if_true, if_false, get_k hp, Option.bind_some, eF, k0, k5]; rfl, hR.found _ _⟩
      obtain ⟨cy, ck, s, hs, h3, cf⟩ := hR.tree hp k0 k5
      obtain ⟨b, hb6, hb7⟩ := buds_both hp hs h3 ((ck 3 (by simp)).trans h3) (ck 5 (by simp)) (ck 6 (by simp)) (ck 7 (by simp)) hk cy cf
      have hh := height_both hp (ck 5 (by simp)) hk cy
      obtain ⟨n, -, hn, rfl⟩ := within_nat (a := 0) (b := 7) (by decide) (by decide) h2
      have done : ∀ v, f_X0_tellTree (20 + 2 * p) (nI n) S = some v → f_X7_of (nI p) (nI n) S = some (v, S) → ∃ (v : Int32) (S1 S2 : St), f_X6_of (nI p) (nI n) S = some (v, S1) ∧ f_X7_of (nI p) (nI n) S1 = some (v, S2) ∧ Rel (B + 1) S2 := by
        intro v w1 w2
        exact ⟨v, S, S, by simp only [f_X6_of, h1, h2, hin, hix, z0, hk, k0, k5, if_true, if_false, w1, Option.bind_some], w2, hm⟩
      have hn' : n = 0 ∨ n = 1 ∨ n = 2 ∨ n = 3 ∨ n = 4 ∨ n = 5 ∨ n = 6 ∨ n = 7 := by omega
      rcases hn' with rfl | rfl | rfl | rfl | rfl | rfl | rfl | rfl
      · exact absurd nI_0 z0
      · exact done _ rfl (by simp only [f_X7_of, isPlace_eq, in_eq, h1, h2, z0, k0, if_true, if_false, get_k hp, Option.bind_some, ck 3 (by simp)]; exact congrArg (fun o => Option.bind o _) (get_3 hp S))
      · exact done _ rfl (by simp only [f_X7_of, isPlace_eq, in_eq, h1, h2, z0, k0, k5, if_true, if_false, get_k hp, Option.bind_some, ck 4 (by simp)]; exact congrArg (fun o => Option.bind o _) (get_4 hp S))
      · exact done _ rfl (by simp only [f_X7_of, isPlace_eq, in_eq, h1, h2, z0, k0, k5, if_true, if_false, get_k hp, Option.bind_some, ck 5 (by simp)]; exact congrArg (fun o => Option.bind o _) (get_5 hp S))
      · exact done _ rfl (by simp only [f_X7_of, isPlace_eq, in_eq, h1, h2, z0, k0, k5, if_true, if_false, get_k hp, Option.bind_some, ck 6 (by simp)]; exact congrArg (fun o => Option.bind o _) (get_6 hp S))
      · exact done _ rfl (by simp only [f_X7_of, isPlace_eq, in_eq, h1, h2, z0, k0, k5, if_true, if_false, get_k hp, Option.bind_some, ck 7 (by simp)]; exact congrArg (fun o => Option.bind o _) (get_7 hp S))
      · exact done _ rfl (by simp only [f_X7_of, isPlace_eq, in_eq, h1, h2, z0, k0, k5, if_true, if_false, get_k hp, Option.bind_some]; exact congrArg (fun o => Option.bind o _) hh)
      · exact done b (by show (f_X0_budsOf (20 + 2 * p) S).bind _ = _; rw [hb6]; rfl) (by simp only [f_X7_of, isPlace_eq, in_eq, h1, h2, z0, k0, k5, if_true, if_false, get_k hp, Option.bind_some]; exact congrArg (fun o => Option.bind o _) hb7)
    · exact ⟨-1, (f_X6_finding (-1) S).2, (f_X7_found (-1) (f_X6_finding (-1) S).2).2, by simp only [f_X6_of, h1, h2, if_true, if_false]; rfl, by simp only [f_X7_of, isPlace_eq, in_eq, h1, h2, if_true, if_false]; rfl, hR.found _ _⟩
  · exact ⟨-1, (f_X6_finding (-1) S).2, (f_X7_found (-1) (f_X6_finding (-1) S).2).2, by simp only [f_X6_of, h1, if_false]; rfl, by simp only [f_X7_of, isPlace_eq, h1, if_false]; rfl, hR.found _ _⟩
