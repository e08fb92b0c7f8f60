-- calls that touch one place
theorem Rel.placed {B : Nat} {S S' : St} (hR : Rel B S) {p : Nat} (hp : p < 12) (k0 : S'.1 0 = S.1 0) (kC : ∀ i, 1 ≤ i → i ≤ 95 → i ≠ 20 + 2 * p → i ≠ 21 + 2 * p → S'.1 i = S.1 i) (kR : ∀ i, 110 ≤ i → i ≤ 116 → S'.1 i = S.1 i) (k8 : ∀ k, k ≠ 9 → S'.1 108 k = S.1 108 k)
    (kT : (∀ k, k < 10 → S.2 7 k = S.2 111 k) → ∀ k, k < 10 → S'.2 7 k = S'.2 111 k) (kL1 : S'.2 50 = S.2 50) (kL2 : S'.2 112 = S.2 112) (kA : ∀ k, (k < 66 + 11 * p ∨ 66 + 11 * p + 10 < k) → S'.1 109 k = S.1 109 k)
    (kP : ∀ cnt yr dn, HeadRel cnt yr dn (S.1 1) (S.1 109) → PlaceRel cnt yr dn (S.1 (20 + 2 * p)) (S.1 (21 + 2 * p)) (fun k => S.1 109 (66 + 11 * p + k)) → PlaceRel cnt yr dn (S'.1 (20 + 2 * p)) (S'.1 (21 + 2 * p)) (fun k => S'.1 109 (66 + 11 * p + k)))
    (kY : ∀ cnt, cnt ≤ 6 → LayRel cnt (S.1 101) (S.1 104) (S.1 109) (S.1 116) (S.1 108 9) → LayRel cnt (S'.1 101) (S'.1 104) (S'.1 109) (S'.1 116) (S'.1 108 9)) (k106 : S'.1 106 = S.1 106) : Rel (B + 1) S' := by
  obtain ⟨cnt, yr, dn, h1, h2, ⟨h3, h4⟩, h5, h6, h7⟩ := hR
  have hH := h2.1
  have hPl := h2.2.2.2.1 p hp
  have hTo := h2.2.2.2.2.2.2
  have e1 : 1 + (19 + 2 * p) = 20 + 2 * p := by omega
  have e2 : 1 + (20 + 2 * p) = 21 + 2 * p := by omega
  simp only [e1, e2] at hPl
  refine ⟨cnt, yr, dn, by omega, ?_, ⟨by rw [k0, k8 4 (by decide)]; exact h3, ?_⟩, ?_, kY cnt hH.1 h6, by rw [k0, k8 10 (by decide)]; exact h7.1, by rw [k106]; exact h7.2⟩
  · refine h2.place (p := p) (fun i a b c => kC (1 + i) (by omega) (by omega) (by omega) (by omega)) kA hp ?_ (kT hTo)
    simp only [e1, e2]
    exact kP cnt yr dn hH hPl
  · rw [k8 4 (by decide)]
    rcases h4 with h4 | ⟨h4, c', y', d', q1, q2⟩
    · exact Or.inl h4
    · refine Or.inr ⟨h4, c', y', d', by omega, ?_⟩
      rw [kL1, kL2, kR 110 (by decide) (by decide)]
      exact q2.cong (fun i hi => kC (44 + i) (by omega) (by omega) (by omega) (by omega))
  · intro s hs
    rw [kC (88 + 2 * s) (by omega) (by omega) (by omega) (by omega), kC (89 + 2 * s) (by omega) (by omega) (by omega) (by omega), kR 113 (by decide) (by decide), kR 114 (by decide) (by decide), kR 115 (by decide) (by decide)]
    exact h5 s hs
theorem sm_at (x y z : Int32) : Sm Rel (f_X6_at x y z) (f_X7_at x y z) := by
  intro B S hB hR
  by_cases h1 : f_X6_isPlace x = true
  · by_cases h2 : f_X6_within y 0 15 = true
    · by_cases h3 : f_X6_within z 0 15 = true
      · obtain ⟨p, hp, rfl⟩ := place_nat h1
        obtain ⟨cnt, yr, dn, hP⟩ := hR.place hp
        have hk : rd S (20 + 2 * p) 2 = rd S 109 (66 + 11 * p + 2) := hP.2.2.2.2.1
        have hin : inb (nI p) 12 = true := inb_nI hp (by decide)
        have hix : ix (nI p) = p := ix_nI (by omega)
        generalize hK : rd S 109 (66 + 11 * p + 2) = K at hk
        by_cases k0 : K = 0
        · have a6 : f_X6_at (nI p) y z S = some (1, wr (wr (wr S (20 + 2 * p) 0 y) (20 + 2 * p) 1 z) 101 0 0) := by simp only [f_X6_at, h1, h2, h3, hin, hix, hk, k0, if_true, f_X1_forget]
          have hK1 : rd (wr (wr (wr S (20 + 2 * p) 0 y) (20 + 2 * p) 1 z) 101 0 0) 109 (66 + 11 * p + 2) = K := by
            rw [← hK]; simp only [rd]; rw [wr1_ne (by decide), wr1_ne (by omega), wr1_ne (by omega)]
          have a7 : f_X7_at (nI p) y z (wr (wr (wr S (20 + 2 * p) 0 y) (20 + 2 * p) 1 z) 101 0 0) = some (1, wr (wr (wr (wr (wr (wr S (20 + 2 * p) 0 y) (20 + 2 * p) 1 z) 101 0 0) 109 (66 + 11 * p + 0) y) 109 (66 + 11 * p + 1) z) 108 9 0) := by
            simp only [f_X7_at, isPlace_eq, in_eq, h1, h2, h3, if_true, get_k hp, Option.bind_some, hK1, k0]
            rw [show f_X7_lay (nI p) 0 y _ = _ from lay_nat (k := 0) hp (by decide) y _]
            simp only [Option.bind_some]
            rw [show f_X7_lay (nI p) 1 z _ = _ from lay_nat (k := 1) hp (by decide) z _]
            simp only [Option.bind_some]
          refine ⟨1, _, _, a6, a7, hR.placed hp ?_ ?_ ?_ ?_ (fun h => h) rfl rfl ?_ ?_ ?_ (by rw [wr1_ne (by decide), wr1_ne (by decide), wr1_ne (by decide), wr1_ne (by decide), wr1_ne (by omega), wr1_ne (by omega)])⟩
          · rw [wr1_ne (by decide), wr1_ne (by decide), wr1_ne (by decide), wr1_ne (by decide), wr1_ne (by omega), wr1_ne (by omega)]
          · intro i a b c d
            rw [wr1_ne (by omega), wr1_ne (by omega), wr1_ne (by omega), wr1_ne (by omega), wr1_ne c, wr1_ne c]
          · intro i a b
            rw [wr1_ne (by omega), wr1_ne (by omega), wr1_ne (by omega), wr1_ne (by omega), wr1_ne (by omega), wr1_ne (by omega)]
          · intro k hk9
            rw [wr1_eq, if_neg hk9, wr1_ne (by decide), wr1_ne (by decide), wr1_ne (by decide), wr1_ne (by omega), wr1_ne (by omega)]
          · intro k hk9
            rw [wr1_ne (by decide), wr1_eq, if_neg (by omega), wr1_eq, if_neg (by omega), wr1_ne (by decide), wr1_ne (by omega), wr1_ne (by omega)]
          · intro cnt yr dn hH hQ
            obtain ⟨n, -, hn, rfl⟩ := within_nat (a := 0) (b := 15) (by decide) (by decide) h2
            obtain ⟨m, -, hm, rfl⟩ := within_nat (a := 0) (b := 15) (by decide) (by decide) h3
            have eA : ∀ k, k ≤ 10 → (wr (wr (wr (wr (wr (wr S (20 + 2 * p) 0 (nI n)) (20 + 2 * p) 1 (nI m)) 101 0 0) 109 (66 + 11 * p + 0) (nI n)) 109 (66 + 11 * p + 1) (nI m)) 108 9 0).1 109 (66 + 11 * p + k) = if k = 1 then nI m else if k = 0 then nI n else S.1 109 (66 + 11 * p + k) := by
              intro k hk10
              rw [wr1_ne (by decide), wr1_eq, wr1_eq, wr1_ne (by decide), wr1_ne (by omega), wr1_ne (by omega)]
              by_cases c1 : k = 1
              · subst c1; simp
              · rw [if_neg (by omega), if_neg c1]
                by_cases c0 : k = 0
                · subst c0; simp
                · rw [if_neg (by omega), if_neg c0]
            have eC : ∀ k, (wr (wr (wr (wr (wr (wr S (20 + 2 * p) 0 (nI n)) (20 + 2 * p) 1 (nI m)) 101 0 0) 109 (66 + 11 * p + 0) (nI n)) 109 (66 + 11 * p + 1) (nI m)) 108 9 0).1 (20 + 2 * p) k = if k = 1 then nI m else if k = 0 then nI n else S.1 (20 + 2 * p) k := by
              intro k
              rw [wr1_ne (by omega), wr1_ne (by omega), wr1_ne (by omega), wr1_ne (by omega), wr1_eq, wr1_eq]
            have eF : (wr (wr (wr (wr (wr (wr S (20 + 2 * p) 0 (nI n)) (20 + 2 * p) 1 (nI m)) 101 0 0) 109 (66 + 11 * p + 0) (nI n)) 109 (66 + 11 * p + 1) (nI m)) 108 9 0).1 (21 + 2 * p) = S.1 (21 + 2 * p) := by
              rw [wr1_ne (by omega), wr1_ne (by omega), wr1_ne (by omega), wr1_ne (by omega), wr1_ne (by omega), wr1_ne (by omega)]
            obtain ⟨r1, r2, r3, r4, r5, r6, r7, r8⟩ := hQ
            have hK0 : S.1 109 (66 + 11 * p + 2) = 0 := by have := hK; rw [k0] at this; exact this
            unfold PlaceRel
            rw [eF]
            simp only [eC, eA 0 (by decide), eA 1 (by decide), eA 2 (by decide), eA 8 (by decide), eA 9 (by decide)]
            simp (decide := true) only [if_true, if_false]
            refine ⟨trivial, trivial, ⟨n, hn, rfl⟩, ⟨m, hm, rfl⟩, r5, r6, r7, Or.inl ⟨hK0, ?_⟩⟩
            rcases r8 with q | q | q
            · exact q.2
            · exact absurd (hK0.symm.trans q.1) (by decide)
            · rcases q.1 with t | t | t | t <;> exact absurd (hK0.symm.trans t) (by decide)
          · intro cnt hc _
            have e9 : ∀ T : St, (wr T 108 9 0).1 108 9 = 0 := fun T => by rw [wr1_eq, if_pos rfl]
            rw [e9]
            apply LayRel.no
            rw [wr1_ne (by decide), wr1_ne (by decide), wr1_ne (by decide), wr1_eq, if_pos rfl]
        · have eF : rd (f_X6_finding (-7) S).2 109 (66 + 11 * p + 2) = K := by rw [fnd_rd _ S (by decide)]; exact hK
          exact ⟨-7, (f_X6_finding (-7) S).2, (f_X7_found (-7) (f_X6_finding (-7) S).2).2, by simp only [f_X6_at, h1, h2, h3, hin, hix, hk, k0, if_true, if_false]; rfl, by simp only [f_X7_at, isPlace_eq, in_eq, h1, h2, h3, if_true, if_false, get_k hp, Option.bind_some, eF, k0]; rfl, hR.found _ _⟩
      · exact ⟨-1, (f_X6_finding (-1) S).2, (f_X7_found (-1) (f_X6_finding (-1) S).2).2, by simp only [f_X6_at, h1, h2, h3, if_true, if_false]; rfl, by simp only [f_X7_at, isPlace_eq, in_eq, h1, h2, h3, if_true, if_false]; rfl, hR.found _ _⟩
    · exact ⟨-1, (f_X6_finding (-1) S).2, (f_X7_found (-1) (f_X6_finding (-1) S).2).2, by simp only [f_X6_at, h1, h2, if_true, if_false]; rfl, by simp only [f_X7_at, isPlace_eq, in_eq, h1, h2, if_true, if_false]; rfl, hR.found _ _⟩
  · exact ⟨-1, (f_X6_finding (-1) S).2, (f_X7_found (-1) (f_X6_finding (-1) S).2).2, by simp only [f_X6_at, h1, if_false]; rfl, by simp only [f_X7_at, isPlace_eq, h1, if_false]; rfl, hR.found _ _⟩
