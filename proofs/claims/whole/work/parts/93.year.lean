theorem yearBoth {cnt yr : Nat} {Sc Sr : St} (h : BookD cnt yr 50 (fun i => Sc.1 (1 + i)) (Sc.2 7) (Sr.1 109) (Sr.2 111)) (hy : yr ≤ 700) :
    ∃ Sc' Sr', f_X0_endYear Sc = some Sc' ∧ f_X7_ends Sr = some Sr' ∧ BookRel cnt (yr + 1) 0 (fun i => Sc'.1 (1 + i)) (Sc'.2 7) (Sr'.1 109) (Sr'.2 111) ∧ (∀ i, i = 0 ∨ 44 ≤ i → Sc'.1 i = Sc.1 i) ∧ (∀ i, i ≠ 7 → Sc'.2 i = Sc.2 i) ∧ (∀ i, i ≠ 109 → Sr'.1 i = Sr.1 i) ∧ (∀ i, i ≠ 111 → Sr'.2 i = Sr.2 i) ∧ (∀ k, k < 66 → Sr'.1 109 k = Sr.1 109 k) ∧ (∀ p k, p < 12 → k < 2 → Sr'.1 109 (66 + 11 * p + k) = Sr.1 109 (66 + 11 * p + k)) ∧ (∀ p, p < 12 → (Sr'.1 109 (66 + 11 * p + 2) = 1 ↔ Sr.1 109 (66 + 11 * p + 2) = 1)) ∧ Sr'.1 109 783 = Sr.1 109 783 := by
  obtain ⟨⟨q1, q2, q3, q4, q5, q6, q7, q8, q9, q10, q11, q12, q13, q14, q15⟩, ⟨tk, hS⟩, ⟨f, hf, hf'⟩, hP, hF, hWm, hTt⟩ := h
  have e8 : ∀ s, 1 + (7 + 2 * s) = 8 + 2 * s := fun s => by omega
  have e9 : ∀ s, 1 + (8 + 2 * s) = 9 + 2 * s := fun s => by omega
  have e20 : ∀ s, 1 + (19 + 2 * s) = 20 + 2 * s := fun s => by omega
  have e21 : ∀ s, 1 + (20 + 2 * s) = 21 + 2 * s := fun s => by omega
  simp only [e8, e9, e20, e21] at hf hS hP
  have hks : ∀ p, p < 12 → Sr.1 109 (66 + 11 * p + 2) = 0 ∨ Sr.1 109 (66 + 11 * p + 2) = 1 ∨ Sr.1 109 (66 + 11 * p + 2) = 2 ∨ Sr.1 109 (66 + 11 * p + 2) = 3 ∨ Sr.1 109 (66 + 11 * p + 2) = 4 ∨ Sr.1 109 (66 + 11 * p + 2) = 5 := fun p hp => (hP p hp).kinds
  have hfr : ∀ p q, p < 12 → q < 2 → Sr.1 109 (66 + 11 * p + (8 + q)) = nI (frt (Sr.1 109) (2 * p + q)) ∧ Sc.1 (21 + 2 * p) q = nI (frt (Sr.1 109) (2 * p + q)) ∧ frt (Sr.1 109) (2 * p + q) ≤ 30000 := fun p q hp hq => (hP p hp).frt1 (by omega) hq
  have hfb : ∀ k, k < 24 → frt (Sr.1 109) k ≤ 30000 := fun k hk => by
    have := (hfr (k / 2) (k % 2) (by omega) (by omega)).2.2
    rw [k_eq] at this; exact this
  have hz : ∀ p, p < 12 → (Sr.1 109 (66 + 11 * p + 2) = 0 ∨ Sr.1 109 (66 + 11 * p + 2) = 5) → frt (Sr.1 109) (2 * p) = 0 ∧ frt (Sr.1 109) (2 * p + 1) = 0 := fun p hp hh => by
    have z : Sr.1 109 (66 + 11 * p + (8 + 0)) = 0 ∧ Sr.1 109 (66 + 11 * p + (8 + 1)) = 0 := by
      rcases (hP p hp).2.2.2.2.2.2.2 with q | q | q
      · exact ⟨q.2.1, q.2.2⟩
      · exact ⟨q.2.1, q.2.2.1⟩
      · rcases hh with hh | hh
        · exfalso
          have := q.1
          simp only [hh] at this
          exact absurd this (by decide)
        · exfalso
          have := q.1
          simp only [hh] at this
          exact absurd this (by decide)
    have b0 := hfb (2 * p) (by omega)
    have b1 := hfb (2 * p + 1) (by omega)
    exact ⟨(nI_eq (b := 0) (by omega) (by decide)).mp ((hfr p 0 hp (by decide)).1.symm.trans z.1), (nI_eq (b := 0) (by omega) (by decide)).mp ((hfr p 1 hp (by decide)).1.symm.trans z.2)⟩
  obtain ⟨Sc', ec, c1, c2, c3, c4, c5, c6⟩ := endYearC (A := Sr.1 109) (S := Sc) (yr := yr) (g := frt (Sr.1 109)) (fun p hp => ⟨(hP p hp).2.2.2.2.1, hks p hp⟩) q5 (fun p q hp hq => (hfr p q hp hq).2.1) hfb
  obtain ⟨Sr', er, r1, r2, r3, r4, r5, r6, r7, r8, r9⟩ := endsR (S := Sr) (yr := yr) (g := frt (Sr.1 109)) hks q6 (fun p q hp hq => (hfr p q hp hq).1) hfb hz
  have k66 : ∀ k, k < 66 → Sr'.1 109 k = Sr.1 109 k := fun k hk => r4 k (by omega)
  refine ⟨Sc', Sr', ec, er, ?_, fun i hi => c1 i (by omega) (by omega) (by omega), c2, r1, r2, k66, fun p k hp hk => ?_, fun p hp => ?_, r4 783 (by omega)⟩
  · refine ⟨?_, ⟨tk, fun s hs => ?_⟩, ⟨f, fun s hs => ?_, hf'⟩, fun p hp => ?_, ?_, fun d hd => absurd hd (by omega), fun k hk => ?_⟩
    · show HeadRel cnt (yr + 1) 0 (Sc'.1 1) (Sr'.1 109)
      unfold HeadRel
      rw [r5, r6, r7, c4 1, c4 3, c4 4, c4 5, c4 9, c4 10, c4 11, r4 782 (by omega), r4 783 (by omega), r4 787 (by omega)]
      refine ⟨q1, by omega, q3, q4, rfl, rfl, rfl, rfl, q9, q10, q11, q12, rfl, Or.inl rfl, ?_⟩
      show Sc.1 1 11 = _
      have : Sc.1 1 11 = nI ((50 * yr + 50) % 60) := q15
      rw [this]; congr 1
    · show SortRel cnt s (Sc'.1 (1 + (7 + 2 * s))) (Sr'.1 109) (tk s)
      rw [e8, c1 _ (by omega) (by omega) (by omega)]
      exact (hS s hs).cong hs k66
    · show StoreRel cnt (50 * (yr + 1) + 0) s (Sc'.1 (1 + (7 + 2 * s))) (Sc'.1 (1 + (8 + 2 * s))) (Sr'.1 109) (f s)
      rw [e8, e9, c1 _ (by omega) (by omega) (by omega), c1 (9 + 2 * s) (by omega) (by omega) (by omega), show 50 * (yr + 1) + 0 = 50 * yr + 50 from by omega]
      exact (hf s hs).cong hs (fun k hk => k66 k (by omega)) (fun k a b => r4 k (by omega))
    · show PlaceRel cnt (yr + 1) 0 (Sc'.1 (1 + (19 + 2 * p))) (Sc'.1 (1 + (20 + 2 * p))) (fun k => Sr'.1 109 (66 + 11 * p + k))
      rw [e20, e21]
      obtain ⟨w1, w2, w3, w4, w5, w6, w7, w8⟩ := hP p hp
      obtain ⟨x1, x2, x3, x4, x5⟩ := c6 p hp
      obtain ⟨y1, y2, y3, y4, y5⟩ := r9 p hp
      have w1' : Sc.1 (20 + 2 * p) 0 = Sr.1 109 (66 + 11 * p + 0) := w1
      have w2' : Sc.1 (20 + 2 * p) 1 = Sr.1 109 (66 + 11 * p + 1) := w2
      have y1' : Sr'.1 109 (66 + 11 * p + 0) = Sr.1 109 (66 + 11 * p + 0) := y1
      have y2' : Sr'.1 109 (66 + 11 * p + 1) = Sr.1 109 (66 + 11 * p + 1) := y2
      have z0 : Sc'.1 (20 + 2 * p) 0 = Sr'.1 109 (66 + 11 * p + 0) := by rw [x1, y1', w1']
      have z1 : Sc'.1 (20 + 2 * p) 1 = Sr'.1 109 (66 + 11 * p + 1) := by rw [x2, y2', w2']
      have z3 : ∃ x : Nat, x ≤ 15 ∧ Sr'.1 109 (66 + 11 * p + 0) = nI x := by rw [y1']; exact w3
      have z4 : ∃ x : Nat, x ≤ 15 ∧ Sr'.1 109 (66 + 11 * p + 1) = nI x := by rw [y2']; exact w4
      rcases w8 with q | q | q
      · have k0 : Sr.1 109 (66 + 11 * p + 2) = 0 := q.1
        obtain ⟨u1, u2⟩ := x5 k0
        have v := fun k (hk : k ≤ 10) => (y5 k0 k hk : Sr'.1 109 (66 + 11 * p + k) = Sr.1 109 (66 + 11 * p + k))
        refine ⟨z0, z1, z3, z4, ?_, ?_, ?_, Or.inl ⟨?_, ?_, ?_⟩⟩
        · rw [u1]; exact w5.trans (v 2 (by decide)).symm
        · rw [u2]; exact w6.trans (v 8 (by decide)).symm
        · rw [u2]; exact w7.trans (v 9 (by decide)).symm
        · exact (v 2 (by decide)).trans q.1
        · exact (v 8 (by decide)).trans q.2.1
        · exact (v 9 (by decide)).trans q.2.2
      · have k5 : Sr.1 109 (66 + 11 * p + 2) = 5 := q.1
        obtain ⟨u1, u2, u3, u4⟩ := x4 k5
        obtain ⟨v1, v2, v3, v4⟩ := y4 k5
        obtain ⟨gg, g1, g9, eg⟩ := q.2.2.2.2
        have eg' : Sr.1 109 (66 + 11 * p + 3) = nI gg := eg
        have ec8 : Sc.1 (20 + 2 * p) 8 = nI gg := q.2.2.2.1.trans eg
        have esub : nI gg - 1 = nI (gg - 1) := pk_sub (b := 1) g1
        have v1' : Sr'.1 109 (66 + 11 * p + 2) = if nI gg - 1 = 0 then 0 else 5 := by rw [← eg']; exact v1
        have v2' : Sr'.1 109 (66 + 11 * p + 3) = nI (gg - 1) := by rw [← esub, ← eg']; exact v2
        have v3' : Sr'.1 109 (66 + 11 * p + 8) = 0 := v3.trans q.2.1
        have v4' : Sr'.1 109 (66 + 11 * p + 9) = 0 := v4.trans q.2.2.1
        rw [ec8] at u1 u2
        refine ⟨z0, z1, z3, z4, u1.trans v1'.symm, u3.trans v3'.symm, u4.trans v4'.symm, ?_⟩
        rw [esub] at v1' u2
        by_cases g0 : gg = 1
        · left
          rw [show gg - 1 = 0 from by omega] at v1'
          exact ⟨v1', v3', v4'⟩
        · right; left
          rw [if_neg (nI_ne0 (by omega) (by omega))] at v1'
          exact ⟨v1', v3', v4', u2.trans v2'.symm, gg - 1, by omega, by omega, v2'⟩
      · obtain ⟨t1, t2, t3, t4, t5, t6, t7, t8, t9, t10, t11, ⟨x, hx, ex⟩, t13, f0, f1, ns, n1, n2, n3, n4, n5⟩ := q
        obtain ⟨u1, u2, u3, u4, u5, u6⟩ := x3 t1
        obtain ⟨v1, v2, v3, v4, v5, v6⟩ := y3 t1
        have ex' : Sr.1 109 (66 + 11 * p + 6) = nI x := ex
        have c6' : Sc.1 (20 + 2 * p) 6 = nI x := t5.trans ex
        have n3' : Sr.1 109 (66 + 11 * p + 10) = nI ns := n3
        have k2 : Sr'.1 109 (66 + 11 * p + 2) = Sr.1 109 (66 + 11 * p + 2) := v1 2 (by decide) (by decide)
        have kk := fun k (a : 2 ≤ k) (b : k ≤ 5) => (v1 k a b : Sr'.1 109 (66 + 11 * p + k) = Sr.1 109 (66 + 11 * p + k))
        have v2' : Sr'.1 109 (66 + 11 * p + 6) = nI (min 9 (x + 1)) := by
          have : Sr'.1 109 (66 + 11 * p + 6) = if Sr.1 109 (66 + 11 * p + 6) < 9 then Sr.1 109 (66 + 11 * p + 6) + 1 else 9 := v2
          rw [this, ex']
          by_cases l : x < 9
          · have l' : nI x < (9 : Int32) := nI_lt (b := 9) l (by decide)
            rw [if_pos l', nI_1]; congr 1; omega
          · have l' : ¬ nI x < (9 : Int32) := nI_nlt (b := 9) (by omega) (by omega)
            rw [if_neg l', show min 9 (x + 1) = 9 from by omega]; rfl
        have u2' : Sc'.1 (20 + 2 * p) 6 = nI (min 9 (x + 1)) := by
          rw [u2, c6', nI_1, show (9 : Int32) = nI 9 from rfl, mn_nat (by decide) (by omega)]
        have t1' : Sr.1 109 (66 + 11 * p + 2) = 1 ∨ Sr.1 109 (66 + 11 * p + 2) = 2 ∨ Sr.1 109 (66 + 11 * p + 2) = 3 ∨ Sr.1 109 (66 + 11 * p + 2) = 4 := t1
        refine ⟨z0, z1, z3, z4, ?_, u5.trans v4.symm, u6.trans v5.symm, Or.inr (Or.inr ⟨?_, ?_, ?_, ?_, u2'.trans v2'.symm, ?_, u4.trans v6.symm, ?_, ?_, ?_, ?_, ⟨min 9 (x + 1), by omega, v2'⟩, ?_, ⟨0, 0, 0, v4, v5, v6, by omega, by omega⟩⟩)⟩
        · rw [u1 2 (by decide) (by decide)]; exact w5.trans k2.symm
        · show Sr'.1 109 (66 + 11 * p + 2) = 1 ∨ Sr'.1 109 (66 + 11 * p + 2) = 2 ∨ Sr'.1 109 (66 + 11 * p + 2) = 3 ∨ Sr'.1 109 (66 + 11 * p + 2) = 4
          rw [k2]; exact t1'
        · rw [u1 3 (by decide) (by decide)]; exact t2.trans (kk 3 (by decide) (by decide)).symm
        · rw [u1 4 (by decide) (by decide)]; exact t3.trans (kk 4 (by decide) (by decide)).symm
        · rw [u1 5 (by decide) (by decide)]; exact t4.trans (kk 5 (by decide) (by decide)).symm
        · rw [u3]; exact t7.trans v3.symm
        · obtain ⟨s, hs, es⟩ := t8
          exact ⟨s, hs, (kk 3 (by decide) (by decide)).trans es⟩
        · intro hk2
          obtain ⟨s, hs, es⟩ := t9 (k2.symm.trans hk2)
          exact ⟨s, hs, (kk 4 (by decide) (by decide)).trans es⟩
        · intro hk2
          exact ⟨(kk 4 (by decide) (by decide)).trans (t10 (fun r => hk2 (k2.trans r))).1, v5⟩
        · obtain ⟨y, hy, ey⟩ := t11
          exact ⟨y, by omega, (kk 5 (by decide) (by decide)).trans ey⟩
        · exact ⟨ns, by omega, v3.trans n3⟩
    · show FrostRel (Sc'.1 5) (Sc'.1 6) (Sr'.1 109)
      exact fun d hd => Or.inr ⟨r8 _ (by omega) (by omega), c5 d hd⟩
    · show Sc'.2 7 k = Sr'.2 111 k
      rw [c3 k, r3 k, hTt 4 (by decide), hTt k hk]
  · obtain ⟨y1, y2, -⟩ := r9 p hp
    have : k = 0 ∨ k = 1 := by omega
    rcases this with rfl | rfl
    · exact y1
    · exact y2
  · obtain ⟨-, -, y3, y4, y5⟩ := r9 p hp
    rcases hks p hp with q | q | q | q | q | q
    · have : Sr'.1 109 (66 + 11 * p + 2) = Sr.1 109 (66 + 11 * p + 2) := y5 q 2 (by decide)
      rw [this]
    · have : Sr'.1 109 (66 + 11 * p + 2) = Sr.1 109 (66 + 11 * p + 2) := (y3 (Or.inl q)).1 2 (by decide) (by decide)
      rw [this]
    · have : Sr'.1 109 (66 + 11 * p + 2) = Sr.1 109 (66 + 11 * p + 2) := (y3 (Or.inr (Or.inl q))).1 2 (by decide) (by decide)
      rw [this]
    · have : Sr'.1 109 (66 + 11 * p + 2) = Sr.1 109 (66 + 11 * p + 2) := (y3 (Or.inr (Or.inr (Or.inl q)))).1 2 (by decide) (by decide)
      rw [this]
    · have : Sr'.1 109 (66 + 11 * p + 2) = Sr.1 109 (66 + 11 * p + 2) := (y3 (Or.inr (Or.inr (Or.inr q)))).1 2 (by decide) (by decide)
      rw [this]
    · have v : Sr'.1 109 (66 + 11 * p + 2) = if Sr.1 109 (66 + 11 * p + 3) - 1 = 0 then 0 else 5 := (y4 q).1
      rw [v, q]
      by_cases c : Sr.1 109 (66 + 11 * p + 3) - 1 = 0
      · rw [if_pos c]; decide
      · rw [if_neg c]
/-- the laying, where a gap may have ended -/
theorem LayRel.cong2 {cnt : Nat} {c told A A' giv : Nat → Int32} {isG : Int32} (hc : cnt ≤ 6) (h : LayRel cnt c told A giv isG) (hA : ∀ k, k < 66 → A' k = A k) (hx : ∀ p k, p < 12 → k < 2 → A' (66 + 11 * p + k) = A (66 + 11 * p + k)) (hk : ∀ p, p < 12 → (A' (66 + 11 * p + 2) = 1 ↔ A (66 + 11 * p + 2) = 1)) (hd : A' 783 = A 783) : LayRel cnt c told A' giv isG := by
  have ht : layTrees A' = layTrees A := by
    unfold layTrees
    apply List.filter_congr
    intro p hp
    have := hk p (List.mem_range.mp hp)
    by_cases q : A (66 + 11 * p + 2) = 1
    · rw [decide_eq_true q, decide_eq_true (this.mpr q)]
    · rw [decide_eq_false q, decide_eq_false (fun r => q (this.mp r))]
  have hn : ∀ p q, p < 12 → q < 12 → layNear A' p q = layNear A p q := fun p q hp hq => by
    have e0 : ∀ p, p < 12 → A' (66 + 11 * p) = A (66 + 11 * p) := fun p h => hx p 0 h (by decide)
    have e1 : ∀ p, p < 12 → A' (66 + 11 * p + 1) = A (66 + 11 * p + 1) := fun p h => hx p 1 h (by decide)
    unfold layNear
    rw [hd, e0 p hp, e0 q hq, e1 p hp, e1 q hq]
  have hpr : ∀ g, 0 < cnt → layPairs A' cnt g = layPairs A cnt g := fun g hn0 => by
    unfold layPairs
    rw [ht]
    apply fb_sum_cong
    intro a ha
    apply fb_sum_cong
    intro b hb
    have h1 : layDig cnt (layTrees A).length g a < cnt := layDig_lt hn0
    have h2 : layDig cnt (layTrees A).length g b < cnt := layDig_lt hn0
    rw [hn _ _ (layTrees_lt a) (layTrees_lt b), layFits_cong hA (by omega) (by omega)]
  obtain ⟨h1, h2⟩ := h
  refine ⟨h1, ?_⟩
  rcases h2 with h2 | ⟨h2, g, h3, h4, h5⟩
  · exact Or.inl h2
  · refine Or.inr ⟨h2, g, ?_, by rw [hpr g h3.1]; exact h4, by rw [ht]; exact h5⟩
    obtain ⟨b1, b2, b3, b4, b5, b6⟩ := h3
    unfold layBest
    rw [ht]
    exact ⟨b1, b2, b3, b4, fun x hx => by rw [hpr x b1, hpr g b1]; exact b5 x hx, fun x hx => by rw [hpr x b1, hpr g b1]; exact b6 x hx⟩
