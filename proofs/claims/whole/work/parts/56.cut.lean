theorem get_6 {p : Nat} (hp : p < 12) (S : St) : f_X7_get (nI p) 6 S = some (rd S 109 (66 + 11 * p + 6)) := get_nat (k := 6) hp (by decide) S
theorem lay_6 {p : Nat} (hp : p < 12) (v : Int32) (S : St) : f_X7_lay (nI p) 6 v S = some (wr S 109 (66 + 11 * p + 6) v) := lay_nat (k := 6) hp (by decide) v S
theorem lt00 : ((0 : Int32) < 0) = False := eq_false (by decide)
theorem cut_v : ∀ a, a < 10 → ∀ b, b < 10 → mxI 0 (nI a - nI b) = nI (a - b) ∧ (if (nI a - nI b) < 0 then (0 : Int32) else nI a - nI b) = nI (a - b) := by decide +kernel
theorem sm_cut (x z : Int32) : Sm Rel (f_X6_cut x z) (f_X7_cut x z) := by
  intro B S hB hR
  by_cases h1 : f_X6_isPlace x = true
  · by_cases h2 : f_X6_within z 0 9 = true
    · obtain ⟨p, hp, rfl⟩ := place_nat h1
      obtain ⟨c, -, hc, rfl⟩ := within_nat (a := 0) (b := 9) (by decide) (by decide) h2
      obtain ⟨cnt, yr, dn, hP⟩ := hR.place hp
      have hk : rd S (20 + 2 * p) 2 = rd S 109 (66 + 11 * p + 2) := hP.2.2.2.2.1
      have hks : rd S 109 (66 + 11 * p + 2) = 0 ∨ rd S 109 (66 + 11 * p + 2) = 1 ∨ rd S 109 (66 + 11 * p + 2) = 2 ∨ rd S 109 (66 + 11 * p + 2) = 3 ∨ rd S 109 (66 + 11 * p + 2) = 4 ∨ rd S 109 (66 + 11 * p + 2) = 5 := hP.kinds
      have hin : inb (nI p) 12 = true := inb_nI hp (by decide)
      have hix : ix (nI p) = p := ix_nI (by omega)
      by_cases kt : rd S 109 (66 + 11 * p + 2) = 0 ∨ rd S 109 (66 + 11 * p + 2) = 5
      · have ht := isTree_no hk kt
        have eF : ∀ c, rd (f_X6_finding c S).2 109 (66 + 11 * p + 2) = rd S 109 (66 + 11 * p + 2) := fun c => fnd_rd c S (by decide)
        rcases kt with k0 | k5
        · have hw : f_X2_whyNoTree (20 + 2 * p) S = -6 := by unfold f_X2_whyNoTree; rw [hk, if_pos k0]
          exact ⟨-6, (f_X6_finding (-6) S).2, (f_X7_found (-6) (f_X6_finding (-6) S).2).2, by simp only [f_X6_cut, h1, h2, hin, hix, ht, hw, if_true, if_false, Bool.false_eq_true]; rfl, by simp only [f_X7_cut, isPlace_eq, in_eq, h1, h2, if_true, lacks_nat hp, eF, k0, Option.bind_some]; rfl, hR.found _ _⟩
        · have hw : f_X2_whyNoTree (20 + 2 * p) S = -4 := by unfold f_X2_whyNoTree; rw [hk, k5]; rfl
          exact ⟨-4, (f_X6_finding (-4) S).2, (f_X7_found (-4) (f_X6_finding (-4) S).2).2, by simp only [f_X6_cut, h1, h2, hin, hix, ht, hw, if_true, if_false, Bool.false_eq_true]; rfl, by simp only [f_X7_cut, isPlace_eq, in_eq, h1, h2, if_true, lacks_nat hp, eF, k5, Option.bind_some]; rfl, hR.found _ _⟩
      · have k0 : ¬ rd S 109 (66 + 11 * p + 2) = 0 := fun q => kt (Or.inl q)
        have k5 : ¬ rd S 109 (66 + 11 * p + 2) = 5 := fun q => kt (Or.inr q)
        have ht := isTree_yes hk (by rcases hks with t | t | t | t | t | t <;> simp_all)
        obtain ⟨wd, hwd, hW, hW2⟩ : ∃ wd : Nat, wd ≤ 9 ∧ rd S 109 (66 + 11 * p + 6) = nI wd ∧ rd S (20 + 2 * p) 6 = nI wd := by
          rcases hP.2.2.2.2.2.2.2 with q | q | q
          · exact absurd q.1 k0
          · exact absurd q.1 k5
          · obtain ⟨wd, e1, e2⟩ := q.2.2.2.2.2.2.2.2.2.2.2.1
            exact ⟨wd, e1, e2, q.2.2.2.2.1.trans e2⟩
        obtain ⟨v1, v2⟩ := cut_v wd (by omega) c (by omega)
        have a6 : f_X6_cut (nI p) (nI c) S = some (nI (wd - c), wr S (20 + 2 * p) 6 (nI (wd - c))) := by
          simp only [f_X6_cut, h1, h2, hin, hix, ht, if_true, hW2, v1]
          simp only [rd]
          rw [wr1_eq, if_pos rfl]
        have r2 : rd (wr S (20 + 2 * p) 6 (nI (wd - c))) 109 (66 + 11 * p + 2) = rd S 109 (66 + 11 * p + 2) := by simp only [rd]; rw [wr1_ne (by omega)]
        have r6 : rd (wr S (20 + 2 * p) 6 (nI (wd - c))) 109 (66 + 11 * p + 6) = nI wd := by rw [← hW]; simp only [rd]; rw [wr1_ne (by omega)]
        have a7 : f_X7_cut (nI p) (nI c) (wr S (20 + 2 * p) 6 (nI (wd - c))) = some (nI (wd - c), wr (wr S (20 + 2 * p) 6 (nI (wd - c))) 109 (66 + 11 * p + 6) (nI (wd - c))) := by
          simp only [f_X7_cut, isPlace_eq, in_eq, h1, h2, if_true, lacks_nat hp, r2, k0, k5, if_false, Option.bind_some, lt00, get_6 hp, r6]
          by_cases hn : nI wd - nI c < 0
          · rw [if_pos hn] at v2 ⊢
            rw [v2, lay_6 hp]
            simp only [Option.bind_some, rd]
            rw [wr1_eq, if_pos rfl]
          · rw [if_neg hn] at v2 ⊢
            rw [v2, lay_6 hp]
            simp only [Option.bind_some, rd]
            rw [wr1_eq, if_pos rfl]
        refine ⟨_, _, _, a6, a7, hR.placed hp ?_ ?_ ?_ ?_ (fun h => h) rfl rfl ?_ ?_ ?_ (by rw [wr1_ne (by decide), wr1_ne (by omega)])⟩
        · rw [wr1_ne (by decide), wr1_ne (by omega)]
        · intro i a b c d; rw [wr1_ne (by omega), wr1_ne c]
        · intro i a b; rw [wr1_ne (by omega), wr1_ne (by omega)]
        · intro k _; rw [wr1_ne (by decide), wr1_ne (by omega)]
        · intro k hk9; rw [wr1_eq, if_neg (by omega), wr1_ne (by omega)]
        · intro cnt yr dn hH hQ
          have eA : ∀ k, (wr (wr S (20 + 2 * p) 6 (nI (wd - c))) 109 (66 + 11 * p + 6) (nI (wd - c))).1 109 (66 + 11 * p + k) = if k = 6 then nI (wd - c) else S.1 109 (66 + 11 * p + k) := by
            intro k
            rw [wr1_eq, wr1_ne (by omega)]
            by_cases c1 : k = 6
            · subst c1; simp
            · rw [if_neg (by omega), if_neg c1]
          have eC : ∀ k, (wr (wr S (20 + 2 * p) 6 (nI (wd - c))) 109 (66 + 11 * p + 6) (nI (wd - c))).1 (20 + 2 * p) k = if k = 6 then nI (wd - c) else S.1 (20 + 2 * p) k := by
            intro k; rw [wr1_ne (by omega), wr1_eq]
          have eF : (wr (wr S (20 + 2 * p) 6 (nI (wd - c))) 109 (66 + 11 * p + 6) (nI (wd - c))).1 (21 + 2 * p) = S.1 (21 + 2 * p) := by
            rw [wr1_ne (by omega), wr1_ne (by omega)]
          obtain ⟨r1, r2, r3, r4, r5, r6, r7, r8⟩ := hQ
          unfold PlaceRel
          rw [eF]
          simp only [eC, eA]
          simp (decide := true) only [if_true, if_false]
          refine ⟨r1, r2, r3, r4, r5, r6, r7, ?_⟩
          rcases r8 with q | q | q
          · exact absurd q.1 k0
          · exact absurd q.1 k5
          · obtain ⟨t1, t2, t3, t4, t5, t6, t7, t8, t9, t10, t11, t12, t13, t14⟩ := q
            exact Or.inr (Or.inr ⟨t1, t2, t3, t4, trivial, t6, t7, t8, t9, t10, t11, ⟨wd - c, by omega, rfl⟩, t13, t14⟩)
        · intro cnt hc6 hY
          rw [wr1_ne (by decide : (101 : Nat) ≠ 109), wr1_ne (by omega : (101 : Nat) ≠ 20 + 2 * p), wr1_ne (by decide : (104 : Nat) ≠ 109), wr1_ne (by omega : (104 : Nat) ≠ 20 + 2 * p), wr1_ne (by decide : (116 : Nat) ≠ 109), wr1_ne (by omega : (116 : Nat) ≠ 20 + 2 * p), wr1_ne (by decide : (108 : Nat) ≠ 109), wr1_ne (by omega : (108 : Nat) ≠ 20 + 2 * p)]
          refine hY.cong' hc6 (fun k hk6 => ?_) (fun q k hq hk3 => ?_) ?_
          · rw [wr1_eq, if_neg (by omega), wr1_ne (by omega)]
          · rw [wr1_eq, if_neg (by omega), wr1_ne (by omega)]
          · rw [wr1_eq, if_neg (by omega), wr1_ne (by omega)]
    · exact ⟨-1, (f_X6_finding (-1) S).2, (f_X7_found (-1) (f_X6_finding (-1) S).2).2, by simp only [f_X6_cut, h1, h2, if_true, if_false]; rfl, by simp only [f_X7_cut, isPlace_eq, in_eq, h1, h2, if_true, if_false]; rfl, hR.found _ _⟩
  · exact ⟨-1, (f_X6_finding (-1) S).2, (f_X7_found (-1) (f_X6_finding (-1) S).2).2, by simp only [f_X6_cut, h1, if_false]; rfl, by simp only [f_X7_cut, isPlace_eq, h1, if_false]; rfl, hR.found _ _⟩
