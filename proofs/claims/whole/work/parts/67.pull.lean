theorem sm_pull (x z : Int32) : Sm Rel (f_X6_pull x z) (f_X7_pull x z) := by
  intro B S hB hR
  by_cases h1 : f_X6_isPlace x = true
  · by_cases h2 : f_X6_within z 0 9 = true
    · obtain ⟨p, hp, rfl⟩ := place_nat h1
      obtain ⟨n, -, hn, rfl⟩ := within_nat (a := 0) (b := 9) (by decide) (by decide) h2
      have hin : inb (nI p) 12 = true := inb_nI hp (by decide)
      have hix : ix (nI p) = p := ix_nI (by omega)
      obtain ⟨cnt', yr', dn', hP⟩ := hR.place hp
      have hk : rd S (20 + 2 * p) 2 = rd S 109 (66 + 11 * p + 2) := hP.2.2.2.2.1
      have g0 : rd S (20 + 2 * p + 1) 0 = rd S 109 (66 + 11 * p + 8) := by
        rw [show 20 + 2 * p + 1 = 21 + 2 * p from by omega]; exact hP.2.2.2.2.2.1
      have g1 : rd S (20 + 2 * p + 1) 1 = rd S 109 (66 + 11 * p + 9) := by
        rw [show 20 + 2 * p + 1 = 21 + 2 * p from by omega]; exact hP.2.2.2.2.2.2.1
      obtain ⟨S1, e1, a1, a2, c0, c1, c2, c8, d0, d1⟩ := becomeGap_run (20 + 2 * p) (nI n) (wrL S 7 5 (rdL S 7 5 + (rd S 109 (66 + 11 * p + 8) + rd S 109 (66 + 11 * p + 9)).toInt64))
      have e21 : 20 + 2 * p + 1 = 21 + 2 * p := by omega
      rw [e21] at d0 d1
      have b6 : f_X6_pull (nI p) (nI n) S = some (rd S 109 (66 + 11 * p + 2), wr S1 101 0 0) := by
        simp only [f_X6_pull, h1, h2, hin, hix, if_true, f_X2_fruitCount, ix_0, ix_1, ix_5, g0, g1, Option.bind_some, e1, f_X1_forget, hk]
      have o1 : ∀ i, i ≠ 20 + 2 * p → i ≠ 21 + 2 * p → i ≠ 101 → (wr S1 101 0 0).1 i = S.1 i := fun i x y z => by
        rw [wr1_ne z, a1 i x (by omega), wrL1]
      have q109 : ∀ j, (wr S1 101 0 0).1 109 j = S.1 109 j := fun j => by rw [o1 109 (by omega) (by omega) (by omega)]
      have q2 : ∀ i, i ≠ 7 → (wr S1 101 0 0).2 i = S.2 i := fun i hi => by
        show S1.2 i = _; rw [a2, wrL2_ne hi]
      obtain ⟨T, f1, e2⟩ := pull_run p hp (nI n) (rd S 109 (66 + 11 * p + 2)) (wrL (wr S1 101 0 0) 111 5 (rdL (wr S1 101 0 0) 111 5 + (rd S 109 (66 + 11 * p + 8) + rd S 109 (66 + 11 * p + 9)).toInt64)) (fun e79_1 e79_2 e79_3 T79 => (if 0 < e79_2 then ((f_X7_lay e79_1 (2 : Int32) (5 : Int32) T79).bind fun v87 => ((f_X7_lay e79_1 (3 : Int32) e79_2 v87).bind fun v94 => (some (e79_3, (wr v94 108 9 (0 : Int32)))))) else (some (e79_3, (wr T79 108 9 (0 : Int32))))))
      have eT : ∀ i, i ≠ 20 + 2 * p → i ≠ 21 + 2 * p → i ≠ 101 → i ≠ 109 → T.1 i = S.1 i := fun i x y z u => by rw [f1.1 i u, wrL1, o1 i x y z]
      generalize hb : 66 + 11 * p = b at *
      have g7 : ∀ j, rd (wr S1 101 0 0) 109 (b + j) = rd S 109 (b + j) := fun j => q109 _
      have w7 : f_X7_pull (nI p) (nI n) (wr S1 101 0 0) = (if 0 < nI n then some (rd S 109 (b + 2), wr (wr (wr T 109 (b + 2) 5) 109 (b + 3) (nI n)) 108 9 0) else some (rd S 109 (b + 2), wr T 108 9 0)) := by
        simp only [f_X7_pull, isPlace_eq, in_eq, h1, h2, if_true, get_k hp, get_8 hp, get_9 hp, hb, Option.bind_some, g7, ix_5]
        rw [e2]
        simp only [lay_2 hp, lay_3 hp, hb, Option.bind_some]
      have lT : ∀ i, T.2 i = if i = 111 then (wrL (wr S1 101 0 0) 111 5 (rdL (wr S1 101 0 0) 111 5 + (rd S 109 (b + 8) + rd S 109 (b + 9)).toInt64)).2 111 else if i = 7 then (wrL S 7 5 (rdL S 7 5 + (rd S 109 (b + 8) + rd S 109 (b + 9)).toInt64)).2 7 else S.2 i := fun i => by
        rw [f1.2.1]
        by_cases i1 : i = 111
        · subst i1; rw [if_pos rfl]
        · rw [if_neg i1, wrL2_ne i1]
          by_cases i7 : i = 7
          · subst i7; rw [if_pos rfl]; show S1.2 7 = _; rw [a2]
          · rw [if_neg i7, q2 i i7]
      have fin : ∀ S2 : St, f_X7_pull (nI p) (nI n) (wr S1 101 0 0) = some (rd S 109 (b + 2), S2) → S2.2 = T.2 → (∀ i, i ≠ 109 → i ≠ 108 → S2.1 i = T.1 i) → (∀ j, S2.1 108 j = if j = 9 then 0 else T.1 108 j) → (∀ j, S2.1 109 j = if j = b + 3 ∧ 0 < n then nI n else if j = b + 2 ∧ 0 < n then 5 else T.1 109 j) → ∃ (v : Int32) (S1 S2 : St), f_X6_pull (nI p) (nI n) S = some (v, S1) ∧ f_X7_pull (nI p) (nI n) S1 = some (v, S2) ∧ Rel (B + 1) S2 := by
        intro S2 b7 l2 oS2 v8 v109
        refine ⟨_, _, S2, b6, b7, ?_⟩
        have p109 : ∀ j, (j < b ∨ b + 10 < j) → S2.1 109 j = S.1 109 j := fun j hj => by
          rw [v109, if_neg (by omega), if_neg (by omega), f1.out (by omega), wrL1, q109]
        refine hR.placed hp ?_ ?_ ?_ ?_ ?_ (by rw [l2, lT, if_neg (by decide), if_neg (by decide)]) (by rw [l2, lT, if_neg (by decide), if_neg (by decide)]) (by rw [hb]; exact p109) ?_ ?_ (by rw [oS2 106 (by decide) (by decide), eT 106 (by omega) (by omega) (by omega) (by omega)])
        · rw [oS2 0 (by decide) (by decide), eT 0 (by omega) (by omega) (by omega) (by omega)]
        · intro i x y z u; rw [oS2 i (by omega) (by omega), eT i (by omega) (by omega) (by omega) (by omega)]
        · intro i x y; rw [oS2 i (by omega) (by omega), eT i (by omega) (by omega) (by omega) (by omega)]
        · intro j hj; rw [v8, if_neg hj, eT 108 (by omega) (by omega) (by omega) (by omega)]
        · intro h j hj
          rw [l2, lT, lT, if_neg (by decide), if_pos rfl, if_pos rfl, wrL2_eq, wrL2_eq]
          have e7 : rdL (wr S1 101 0 0) 111 5 = S.2 111 5 := by show (wr S1 101 0 0).2 111 5 = _; rw [q2 111 (by decide)]
          rw [e7, q2 111 (by decide)]
          show (if j = 5 then S.2 7 5 + _ else _) = _
          rw [h 5 (by decide), h j hj]
        · intro c y d hH hQ
          rw [hb] at hQ ⊢
          have cc : ∀ j, S2.1 (20 + 2 * p) j = S1.1 (20 + 2 * p) j := fun j => by
            rw [oS2 _ (by omega) (by omega), f1.1 _ (by omega), wrL1, wr1_ne (by omega)]
          have dd : ∀ j, S2.1 (21 + 2 * p) j = S1.1 (21 + 2 * p) j := fun j => by
            rw [oS2 _ (by omega) (by omega), f1.1 _ (by omega), wrL1, wr1_ne (by omega)]
          have zz : ∀ j, 2 ≤ j → j ≤ 10 → T.1 109 (b + j) = 0 := fun j h7 h10 => by
            have := f1.at (k := j - 2) (by omega)
            rw [show b + 2 + (j - 2) = b + j from by omega] at this
            exact this
          obtain ⟨r1, r2, r3, r4, r5, r6, r7, r8⟩ := hQ
          have u0 : S2.1 109 (b + 0) = S.1 109 (b + 0) := by
            rw [v109, if_neg (by omega), if_neg (by omega), f1.out (by omega), wrL1, q109]
          have u1 : S2.1 109 (b + 1) = S.1 109 (b + 1) := by
            rw [v109, if_neg (by omega), if_neg (by omega), f1.out (by omega), wrL1, q109]
          have z7 : ∀ j, 4 ≤ j → j ≤ 10 → S2.1 109 (b + j) = 0 := fun j h7 h10 => by
            rw [v109, if_neg (by omega), if_neg (by omega), zz j (by omega) h10]
          unfold PlaceRel
          rcases Nat.eq_zero_or_pos n with n0 | n0
          · subst n0
            have u2 : S2.1 109 (b + 2) = 0 := by rw [v109, if_neg (by omega), if_neg (by omega), zz 2 (by decide) (by decide)]
            have k2 : S1.1 (20 + 2 * p) 2 = 0 := by rw [c2, if_pos nI_0]
            simp only [cc, dd, u0, u1, u2, z7 8 (by decide) (by decide), z7 9 (by decide) (by decide)]
            exact ⟨c0.trans r1, c1.trans r2, r3, r4, k2, d0, d1, Or.inl ⟨trivial, trivial, trivial⟩⟩
          · have u2 : S2.1 109 (b + 2) = 5 := by rw [v109, if_neg (by omega), if_pos ⟨rfl, n0⟩]
            have u3 : S2.1 109 (b + 3) = nI n := by rw [v109, if_pos ⟨rfl, n0⟩]
            have k2 : S1.1 (20 + 2 * p) 2 = 5 := by rw [c2, if_neg (nI_ne0 n0 (by omega))]
            simp only [cc, dd, u0, u1, u2, u3, z7 8 (by decide) (by decide), z7 9 (by decide) (by decide)]
            exact ⟨c0.trans r1, c1.trans r2, r3, r4, k2, d0, d1, Or.inr (Or.inl ⟨trivial, trivial, trivial, c8, n, n0, hn, rfl⟩)⟩
        · intro c hc _
          have e9 : S2.1 108 9 = 0 := by rw [v8, if_pos rfl]
          rw [e9]
          apply LayRel.no
          rw [oS2 101 (by decide) (by decide), f1.1 101 (by decide), wrL1, wr1_eq, if_pos rfl]
      by_cases hz : 0 < nI n
      · have n0 : 0 < n := by
          rcases Nat.eq_zero_or_pos n with q | q
          · subst q; exact absurd hz (by decide)
          · exact q
        refine fin (wr (wr (wr T 109 (b + 2) 5) 109 (b + 3) (nI n)) 108 9 0) (by rw [w7, if_pos hz]) rfl (fun i x y => by rw [wr1_ne y, wr1_ne x, wr1_ne x]) (fun j => by rw [wr1_eq, wr1_ne (by decide), wr1_ne (by decide)]) (fun j => ?_)
        rw [wr1_ne (by decide), wr1_eq, wr1_eq]
        simp only [n0, and_true]
      · have n0 : ¬ 0 < n := fun q => hz (nI_lt (a := 0) q (by omega))
        refine fin (wr T 108 9 0) (by rw [w7, if_neg hz]) rfl (fun i x y => by rw [wr1_ne y]) (fun j => by rw [wr1_eq]) (fun j => ?_)
        rw [wr1_ne (by decide)]
        simp only [n0, and_false, if_false]
    · exact ⟨-1, (f_X6_finding (-1) S).2, (f_X7_found (-1) (f_X6_finding (-1) S).2).2, by simp only [f_X6_pull, h1, h2, if_true, if_false]; rfl, by simp only [f_X7_pull, isPlace_eq, in_eq, h1, h2, if_true, if_false]; rfl, hR.found _ _⟩
  · exact ⟨-1, (f_X6_finding (-1) S).2, (f_X7_found (-1) (f_X6_finding (-1) S).2).2, by simp only [f_X6_pull, h1, if_true, if_false]; rfl, by simp only [f_X7_pull, isPlace_eq, in_eq, h1, if_true, if_false]; rfl, hR.found _ _⟩
