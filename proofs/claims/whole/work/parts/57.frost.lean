theorem BookRel.frost {cnt yr dn : Nat} {C C' : Nat → Nat → Int32} {CL AL : Nat → Int64} {A A' : Nat → Int32} (h : BookRel cnt yr dn C CL A AL) (hC : ∀ i, i ≤ 42 → i ≠ 4 → i ≠ 5 → C' i = C i) (hA : ∀ k, (k < 582 ∨ 732 ≤ k) → A' k = A k) (hF : FrostRel (C' 4) (C' 5) A') : BookRel cnt yr dn C' CL A' AL := by
  obtain ⟨h1, ⟨tk, h2⟩, ⟨f, h3, h3'⟩, h4, h5, h6, h7⟩ := h
  refine ⟨?_, ⟨tk, fun s hs => ?_⟩, ⟨f, fun s hs => ?_, h3'⟩, fun q hq => ?_, hF, ?_, h7⟩
  · rw [hC 0 (by omega) (by omega) (by omega)]
    unfold HeadRel at h1 ⊢
    rw [hA 782 (by omega), hA 783 (by omega), hA 784 (by omega), hA 785 (by omega), hA 786 (by omega), hA 787 (by omega)]
    exact h1
  · rw [hC (7 + 2 * s) (by omega) (by omega) (by omega)]
    exact (h2 s hs).cong hs (fun k hk => hA k (by omega))
  · rw [hC (7 + 2 * s) (by omega) (by omega) (by omega), hC (8 + 2 * s) (by omega) (by omega) (by omega)]
    exact (h3 s hs).cong hs (fun k hk => hA k (by omega)) (fun k _ hk => hA k (by omega))
  · rw [hC (19 + 2 * q) (by omega) (by omega) (by omega), hC (20 + 2 * q) (by omega) (by omega) (by omega)]
    exact (h4 q hq).cong (fun k hk => hA _ (by omega))
  · rw [hC 3 (by omega) (by omega) (by omega)]
    have : dn ≤ 49 := h1.2.1
    exact h6.cong (by omega) (fun k _ hk => hA k (by omega))
theorem isDay_eq (x : Int32) : f_X7_isDay x = f_X6_isDay x := rfl
theorem sm_frost (x y z : Int32) : Sm Rel (f_X6_frost x y z) (f_X7_frost x y z) := by
  intro B S hB hR
  by_cases h1 : f_X6_isDay x = true
  · by_cases h2 : f_X6_within y 0 6 = true
    · by_cases h3 : f_X6_within z 0 100 = true
      · obtain ⟨d, -, hd, rfl⟩ := within_nat (a := 0) (b := 49) (by decide) (by decide) h1
        obtain ⟨u, -, hu, rfl⟩ := within_nat (a := 0) (b := 6) (by decide) (by decide) h2
        obtain ⟨v, -, hv, rfl⟩ := within_nat (a := 0) (b := 100) (by decide) (by decide) h3
        obtain ⟨cnt, yr, dn, g1, g2, ⟨g3, g4⟩, g5, g6, g7⟩ := id hR
        have hH := g2.1
        have e5 : rd S 1 5 = nI dn := hH.2.2.2.2.2.2.1
        have e785 : rd S 109 785 = nI dn := hH.2.2.2.2.2.2.2.1
        have hin : inb (nI d) 50 = true := inb_nI (by omega) (by decide)
        have hix : ix (nI d) = d := ix_nI (by omega)
        by_cases hl : nI d < nI dn
        · have e785' : rd (f_X6_finding (-7) S).2 109 785 = nI dn := by rw [fnd_rd _ S (by decide)]; exact e785
          exact ⟨-7, (f_X6_finding (-7) S).2, (f_X7_found (-7) (f_X6_finding (-7) S).2).2, by simp only [f_X6_frost, h1, h2, h3, e5, hl, if_true]; rfl, by simp only [f_X7_frost, isDay_eq, in_eq, h1, h2, h3, ix_785, e785', hl, if_true]; rfl, hR.found _ _⟩
        · have i0 : (582 : Int32) + (3 : Int32) * nI d = nI (582 + 3 * d) := by
            rw [show (582 : Int32) = nI 582 from rfl, show (3 : Int32) = nI 3 from rfl, pk_mul, nI_add]
          have i1 : nI (582 + 3 * d) + (1 : Int32) = nI (582 + 3 * d + 1) := nI_1 _
          have i2 : nI (582 + 3 * d) + (2 : Int32) = nI (582 + 3 * d + 2) := nI_add _ 2
          have b0 : inb (nI (582 + 3 * d)) 788 = true := inb_nI (by omega) (by decide)
          have b1 : inb (nI (582 + 3 * d + 1)) 788 = true := inb_nI (by omega) (by decide)
          have b2 : inb (nI (582 + 3 * d + 2)) 788 = true := inb_nI (by omega) (by decide)
          have x0 : ix (nI (582 + 3 * d)) = 582 + 3 * d := ix_nI (by omega)
          have x1 : ix (nI (582 + 3 * d + 1)) = 582 + 3 * d + 1 := ix_nI (by omega)
          have x2 : ix (nI (582 + 3 * d + 2)) = 582 + 3 * d + 2 := ix_nI (by omega)
          have a6 : f_X6_frost (nI d) (nI u) (nI v) S = some (1, wr (wr S 5 d (nI u)) 6 d (nI v)) := by
            simp only [f_X6_frost, h1, h2, h3, e5, hl, hin, hix, if_true, if_false]
          have e785' : rd (wr (wr S 5 d (nI u)) 6 d (nI v)) 109 785 = nI dn := by
            rw [← e785]; simp only [rd]; rw [wr1_ne (by decide), wr1_ne (by decide)]
          have a7 : f_X7_frost (nI d) (nI u) (nI v) (wr (wr S 5 d (nI u)) 6 d (nI v)) = some (1, wr (wr (wr (wr (wr S 5 d (nI u)) 6 d (nI v)) 109 (582 + 3 * d) 1) 109 (582 + 3 * d + 1) (nI u)) 109 (582 + 3 * d + 2) (nI v)) := by
            simp only [f_X7_frost, isDay_eq, in_eq, h1, h2, h3, ix_785, e785', hl, i0, i1, i2, b0, b1, b2, x0, x1, x2, if_true, if_false]
          refine ⟨_, _, _, a6, a7, ?_⟩
          generalize hS' : wr (wr (wr (wr (wr S 5 d (nI u)) 6 d (nI v)) 109 (582 + 3 * d) 1) 109 (582 + 3 * d + 1) (nI u)) 109 (582 + 3 * d + 2) (nI v) = S'
          have kO : ∀ i, i ≠ 5 → i ≠ 6 → i ≠ 109 → S'.1 i = S.1 i := by
            intro i a b c
            rw [← hS', wr1_ne c, wr1_ne c, wr1_ne c, wr1_ne b, wr1_ne a]
          have k2 : S'.2 = S.2 := by rw [← hS']; rfl
          have k5 : ∀ k, S'.1 5 k = if k = d then nI u else S.1 5 k := by
            intro k
            rw [← hS', wr1_ne (by decide), wr1_ne (by decide), wr1_ne (by decide), wr1_ne (by decide), wr1_eq]
          have k6 : ∀ k, S'.1 6 k = if k = d then nI v else S.1 6 k := by
            intro k
            rw [← hS', wr1_ne (by decide), wr1_ne (by decide), wr1_ne (by decide), wr1_eq, wr1_ne (by decide)]
          have kA : ∀ k, S'.1 109 k = if k = 582 + 3 * d + 2 then nI v else if k = 582 + 3 * d + 1 then nI u else if k = 582 + 3 * d then 1 else S.1 109 k := by
            intro k
            rw [← hS', wr1_eq, wr1_eq, wr1_eq, wr1_ne (by decide), wr1_ne (by decide)]
          have kA' : ∀ k, (k < 582 ∨ 732 ≤ k) → S'.1 109 k = S.1 109 k := by
            intro k hk
            rw [kA, if_neg (by omega), if_neg (by omega), if_neg (by omega)]
          refine ⟨cnt, yr, dn, by omega, ?_, ⟨by rw [kO 0 (by decide) (by decide) (by decide), kO 108 (by decide) (by decide) (by decide)]; exact g3, ?_⟩, ?_, ?_, by rw [kO 0 (by decide) (by decide) (by decide), kO 108 (by decide) (by decide) (by decide)]; exact g7.1, by rw [kO 106 (by decide) (by decide) (by decide)]; exact g7.2⟩
          · rw [k2]
            refine g2.frost (fun i a b c => kO (1 + i) (by omega) (by omega) (by omega)) kA' ?_
            intro e he
            have hold := g2.2.2.2.2.1 e he
            show (S'.1 109 (582 + 3 * e) = 1 ∧ S'.1 5 e = S'.1 109 (582 + 3 * e + 1) ∧ S'.1 6 e = S'.1 109 (582 + 3 * e + 2) ∧ _ ∧ _) ∨ (S'.1 109 (582 + 3 * e) = 0 ∧ S'.1 6 e = 0)
            by_cases ed : e = d
            · subst ed
              left
              rw [kA, kA, kA, k5, k6, if_pos rfl, if_pos rfl, if_neg (by omega), if_neg (by omega), if_pos rfl, if_neg (by omega), if_pos rfl, if_pos rfl]
              exact ⟨rfl, rfl, rfl, ⟨u, hu, rfl⟩, ⟨v, hv, rfl⟩⟩
            · have q0 : S'.1 109 (582 + 3 * e) = S.1 109 (582 + 3 * e) := by rw [kA, if_neg (by omega), if_neg (by omega), if_neg (by omega)]
              have q1 : S'.1 109 (582 + 3 * e + 1) = S.1 109 (582 + 3 * e + 1) := by rw [kA, if_neg (by omega), if_neg (by omega), if_neg (by omega)]
              have q2 : S'.1 109 (582 + 3 * e + 2) = S.1 109 (582 + 3 * e + 2) := by rw [kA, if_neg (by omega), if_neg (by omega), if_neg (by omega)]
              rw [q0, q1, q2, k5, k6, if_neg ed, if_neg ed]
              exact hold
          · rw [kO 108 (by decide) (by decide) (by decide)]
            rcases g4 with g4 | ⟨g4, c', y', d', w1, w2⟩
            · exact Or.inl g4
            · refine Or.inr ⟨g4, c', y', d', by omega, ?_⟩
              rw [k2, kO 110 (by decide) (by decide) (by decide)]
              exact w2.cong (fun i hi => kO (44 + i) (by omega) (by omega) (by omega))
          · intro s hs
            rw [kO (88 + 2 * s) (by omega) (by omega) (by omega), kO (89 + 2 * s) (by omega) (by omega) (by omega), kO 113 (by decide) (by decide) (by decide), kO 114 (by decide) (by decide) (by decide), kO 115 (by decide) (by decide) (by decide)]
            exact g5 s hs
          · rw [kO 101 (by decide) (by decide) (by decide), kO 104 (by decide) (by decide) (by decide), kO 116 (by decide) (by decide) (by decide), kO 108 (by decide) (by decide) (by decide)]
            exact g6.cong hH.1 (fun k hk => kA' k (by omega)) (kA' 783 (by omega))
      · exact ⟨-1, (f_X6_finding (-1) S).2, (f_X7_found (-1) (f_X6_finding (-1) S).2).2, by simp only [f_X6_frost, h1, h2, h3, if_true, if_false]; rfl, by simp only [f_X7_frost, isDay_eq, in_eq, h1, h2, h3, if_true, if_false]; rfl, hR.found _ _⟩
    · exact ⟨-1, (f_X6_finding (-1) S).2, (f_X7_found (-1) (f_X6_finding (-1) S).2).2, by simp only [f_X6_frost, h1, h2, if_true, if_false]; rfl, by simp only [f_X7_frost, isDay_eq, in_eq, h1, h2, if_true, if_false]; rfl, hR.found _ _⟩
  · exact ⟨-1, (f_X6_finding (-1) S).2, (f_X7_found (-1) (f_X6_finding (-1) S).2).2, by simp only [f_X6_frost, h1, if_false]; rfl, by simp only [f_X7_frost, isDay_eq, h1, if_false]; rfl, hR.found _ _⟩
