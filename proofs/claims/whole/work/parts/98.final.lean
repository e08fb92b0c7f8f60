/-- cells change that are related to nothing -/
theorem Rel.same2 {B : Nat} {S S' : St} (h : Rel B S) (e : ∀ i, i ≤ 95 ∨ i = 104 ∨ (108 ≤ i ∧ i ≤ 116) → S'.1 i = S.1 i) (e0 : S'.1 101 0 = S.1 101 0) (e1 : S'.1 101 1 = S.1 101 1) (e6 : S'.1 106 0 = S.1 106 0) (e2 : S'.2 = S.2) : Rel B S' := by
  obtain ⟨cnt, yr, dn, g1, g2, ⟨g3, g4⟩, g5, g6, g7⟩ := h
  refine ⟨cnt, yr, dn, g1, ?_, ⟨by rw [e 0 (by omega), e 108 (by omega)]; exact g3, ?_⟩, fun s hs => ?_, ?_, by rw [e 0 (by omega), e 108 (by omega)]; exact g7.1, e6.trans g7.2⟩
  · rw [e2, e 109 (by omega)]; exact g2.cong (fun i hi => e _ (by omega))
  · rw [e 108 (by omega)]
    rcases g4 with g4 | ⟨g4, c', y', d', w1, w2⟩
    · exact Or.inl g4
    · exact Or.inr ⟨g4, c', y', d', w1, by rw [e2, e 110 (by omega)]; exact w2.cong (fun i hi => e _ (by omega))⟩
  · rw [e (88 + 2 * s) (by omega), e (89 + 2 * s) (by omega), e 113 (by omega), e 114 (by omega), e 115 (by omega)]
    exact g5 s hs
  · rw [e 104 (by omega), e 109 (by omega), e 116 (by omega), e 108 (by omega)]
    obtain ⟨q1, q2⟩ := g6
    refine ⟨by rw [e0]; exact q1, ?_⟩
    rcases q2 with q2 | ⟨q2, g, q3, q4, q5⟩
    · exact Or.inl q2
    · exact Or.inr ⟨q2, g, q3, by rw [e1]; exact q4, q5⟩
/-- the laying is told anew on both sides -/
theorem Rel.laid {B cnt yr dn g : Nat} {S S' : St} (h1 : yr ≤ B) (h2 : BookRel cnt yr dn (fun i => S.1 (1 + i)) (S.2 7) (S.1 109) (S.2 111)) (h34 : (S.1 0 2 = S.1 108 4 ∧ (S.1 108 4 = 0 ∨ (S.1 108 4 = 1 ∧ ∃ cnt' yr' dn' : Nat, yr' ≤ B ∧ BookRel cnt' yr' dn' (fun i => S.1 (44 + i)) (S.2 50) (S.1 110) (S.2 112))))) (h5 : SheetRel S) (h7 : S.1 0 6 = S.1 108 10) (e : ∀ i, i ≤ 95 ∨ (109 ≤ i ∧ i ≤ 115) → S'.1 i = S.1 i) (e8 : ∀ k, k ≠ 9 → S'.1 108 k = S.1 108 k) (e89 : S'.1 108 9 = 1) (e2 : S'.2 = S.2) (e6 : S'.1 106 0 = 0) (hg : layBest (S.1 109) cnt g) (c0 : S'.1 101 0 = 1) (c1 : S'.1 101 1 = nI (layPairs (S.1 109) cnt g)) (c4 : ∀ t, t < (layTrees (S.1 109)).length → S'.1 104 ((layTrees (S.1 109)).getD t 0) = nI (layDig cnt (layTrees (S.1 109)).length g t)) (c6 : ∀ t, t < (layTrees (S.1 109)).length → S'.1 116 ((layTrees (S.1 109)).getD t 0) = nI (layDig cnt (layTrees (S.1 109)).length g t)) : Rel (B + 1) S' := by
  obtain ⟨h3, h4⟩ := h34
  refine ⟨cnt, yr, dn, by omega, ?_, ⟨by rw [e 0 (by omega), e8 4 (by decide)]; exact h3, ?_⟩, fun s hs => ?_, ?_, by rw [e 0 (by omega), e8 10 (by decide)]; exact h7, e6⟩
  · rw [e2, e 109 (by omega)]; exact h2.cong (fun i hi => e _ (by omega))
  · rw [e8 4 (by decide)]
    rcases h4 with h4 | ⟨h4, c', y', d', w1, w2⟩
    · exact Or.inl h4
    · exact Or.inr ⟨h4, c', y', d', by omega, by rw [e2, e 110 (by omega)]; exact w2.cong (fun i hi => e _ (by omega))⟩
  · rw [e (88 + 2 * s) (by omega), e (89 + 2 * s) (by omega), e 113 (by omega), e 114 (by omega), e 115 (by omega)]
    exact h5 s hs
  · rw [e 109 (by omega), e89]
    exact ⟨c0, Or.inr ⟨rfl, g, hg, c1, fun t ht => ⟨c4 t ht, c6 t ht⟩⟩⟩
theorem sm_best : Sm Rel f_X6_best f_X7_best := by
  intro B S hB hR
  obtain ⟨cnt, yr, dn, g1, g2, g34, g5, g6, g7⟩ := id hR
  have hH := g2.1
  have hA := g2.orA (show yr < 2 ^ 20 by omega)
  have hC := g2.orC
  have hc := hA.1
  have h782 : S.1 109 782 = nI cnt := hH.2.2.2.1
  have hl : (layTrees (S.1 109)).length ≤ 12 := trJ_le (S.1 109) 12
  -- the reference, from any state with its cells
  have ref : ∀ T : St, T.1 109 = S.1 109 → ∃ U : St, U.2 = T.2 ∧ (∀ i, (i ≤ 120 ∧ i ≠ 116) → U.1 i = T.1 i) ∧ ((cnt = 0 ∨ (layTrees (S.1 109)).length = 0) → U.1 116 = T.1 116 ∧ f_X7_best T = some ((f_X7_found (-6) U).1, (f_X7_found (-6) U).2)) ∧ (0 < cnt → 0 < (layTrees (S.1 109)).length → 5000 < cnt ^ (layTrees (S.1 109)).length → U.1 116 = T.1 116 ∧ f_X7_best T = some ((f_X7_found (-8) U).1, (f_X7_found (-8) U).2)) ∧ (0 < cnt → 0 < (layTrees (S.1 109)).length → cnt ^ (layTrees (S.1 109)).length ≤ 5000 → ∃ g, layBest (S.1 109) cnt g ∧ f_X7_best T = some (nI (layPairs (S.1 109) cnt g), wr U 108 9 1) ∧ ∀ t, t < (layTrees (S.1 109)).length → U.1 116 ((layTrees (S.1 109)).getD t 0) = nI (layDig cnt (layTrees (S.1 109)).length g t)) := fun T hT => by
    have := bestR (S := T) (by rw [hT]; exact hA) (by rw [hT]; exact h782)
    rw [hT] at this
    exact this
  by_cases told : rd S 101 0 = 0
  · obtain ⟨U1, e1, a1, b1, c1, d3, d2, t1⟩ := gather_run hA hC
    have R1 : Rel B U1 := hR.same2 (fun i hi => b1 i (by omega) (by omega) (by omega)) (c1 0 (by decide) (by decide)) (c1 1 (by decide) (by decide)) (by rw [b1 106 (by decide) (by decide) (by decide)]) a1
    have h11 : rd U1 1 1 = nI cnt := by show U1.1 1 1 = _; rw [b1 1 (by decide) (by decide) (by decide)]; exact hC.1
    have r2 : rd U1 101 2 = nI (layTrees (S.1 109)).length := d2
    have fnd : ∀ (c : Int32) (U : St), U.2 = (f_X6_finding c U1).2.2 → (∀ i, (i ≤ 120 ∧ i ≠ 116) → U.1 i = (f_X6_finding c U1).2.1 i) → U.1 116 = (f_X6_finding c U1).2.1 116 → Rel (B + 1) (f_X7_found c U).2 := fun c U u1 u2 u3 => by
      refine (R1.found c c).same2 (fun i hi => ?_) ?_ ?_ ?_ ?_
      · simp only [f_X7_found]
        by_cases e8 : i = 108
        · subst e8
          funext k
          rw [wr1_eq, wr1_eq]
          simp only [rd, u2 108 (by omega)]
        · rw [wr1_ne e8, wr1_ne e8]
          by_cases e16 : i = 116
          · rw [e16, u3]
          · exact u2 i (by omega)
      · simp only [f_X7_found]; rw [wr1_ne (by decide), wr1_ne (by decide), u2 101 (by omega)]
      · simp only [f_X7_found]; rw [wr1_ne (by decide), wr1_ne (by decide), u2 101 (by omega)]
      · simp only [f_X7_found]; rw [wr1_ne (by decide), wr1_ne (by decide), u2 106 (by omega)]
      · simp only [f_X7_found]; exact u1
    have f109 : ∀ c, (f_X6_finding c U1).2.1 109 = S.1 109 := fun c => by
      simp only [f_X6_finding]; rw [wr1_ne (by decide), b1 109 (by decide) (by decide) (by decide)]
    by_cases c0 : cnt = 0 ∨ (layTrees (S.1 109)).length = 0
    · obtain ⟨U, u1, u2, u3, -⟩ := ref (f_X6_finding (-6) U1).2 (f109 _)
      obtain ⟨u4, u5⟩ := u3 c0
      refine ⟨-6, (f_X6_finding (-6) U1).2, (f_X7_found (-6) U).2, ?_, u5, fnd (-6) U u1 u2 u4⟩
      by_cases q : cnt = 0
      · have q' : rd U1 1 1 = 0 := by rw [h11, q]; rfl
        simp only [f_X6_best, told, if_true, e1, Option.bind_some, q']; rfl
      · have q' : ¬ rd U1 1 1 = 0 := by rw [h11]; exact nI_ne0 (by omega) (by omega)
        have q2 : rd U1 101 2 = 0 := by rw [r2, show (layTrees (S.1 109)).length = 0 from by omega]; rfl
        simp only [f_X6_best, told, if_true, e1, Option.bind_some, q', q2, if_false]; rfl
    · have hn : 0 < cnt := by omega
      have hm : 0 < (layTrees (S.1 109)).length := by omega
      have q' : ¬ rd U1 1 1 = 0 := by rw [h11]; exact nI_ne0 hn (by omega)
      have q2 : ¬ rd U1 101 2 = 0 := by rw [r2]; exact nI_ne0 hm (by omega)
      obtain ⟨c, hc3, ec, hciff⟩ := givings_run (S := U1) hl hn hc d2 d3
      by_cases big : 5000 < cnt ^ (layTrees (S.1 109)).length
      · obtain ⟨U, u1, u2, -, u3, -⟩ := ref (f_X6_finding (-8) U1).2 (f109 _)
        obtain ⟨u4, u5⟩ := u3 hn hm big
        have cb : (5000 : Int32) < nI c := nI_lt (a := 5000) (hciff.mpr big) (by omega)
        exact ⟨-8, (f_X6_finding (-8) U1).2, (f_X7_found (-8) U).2, by simp only [f_X6_best, told, if_true, e1, Option.bind_some, q', q2, if_false, ec, if_pos cb]; rfl, u5, fnd (-8) U u1 u2 u4⟩
      · have cb : ¬ (5000 : Int32) < nI c := nI_nlt (a := 5000) (by have : ¬ 5000 < c := fun r => big (hciff.mp r); omega) (by decide)
        have hsr1 : SrtN cnt U1 := g2.srtN.cong (fun i hi => b1 i (by omega) (by omega) (by omega))
        obtain ⟨U2, e2, hs⟩ := readTable_run hsr1
        have A1 : U1.1 109 = S.1 109 := b1 109 (by decide) (by decide) (by decide)
        have o2 : ∀ i, i < 97 ∨ 100 < i → U2.1 i = U1.1 i := hs.1
        have hW2 : SeaC cnt (fun k => 5 + k) (S.1 109) U2 := by
          have := hs.c (fun d hd => by show 5 + d ≤ 60; omega)
          rw [A1] at this; exact this
        have hC2 : OrC cnt U2 (S.1 109) := hC.cong hc (fun k _ => by rw [o2 1 (by omega), b1 1 (by decide) (by decide) (by decide)]) (fun s k _ _ => by rw [o2 _ (by omega), b1 _ (by omega) (by omega) (by omega)]) (fun p k _ _ => by rw [o2 _ (by omega), b1 _ (by omega) (by omega) (by omega)])
        obtain ⟨U3, e3, a3, b3, t3⟩ := weigh_run hA hC2 hW2 (by rw [o2 101 (by omega)]; exact d3)
        obtain ⟨g, U4, e4, hg, a4, b4, k0, k1, k4, k6⟩ := choose_run (A := S.1 109) (n := cnt) (S := U3) hn hc hm (by omega) (by rw [b3 101 (by decide), o2 101 (by omega)]; exact d2) (by rw [b3 101 (by decide), o2 101 (by omega)]; exact d3) (fun t ht => by rw [b3 102 (by decide), o2 102 (by omega)]; exact (t1 t ht).1) (fun t ht => by rw [b3 103 (by decide), o2 103 (by omega)]; exact (t1 t ht).2) t3 (by rw [b3 106 (by decide), o2 106 (by omega), b1 106 (by decide) (by decide) (by decide)]; exact g7.2)
        have o4 : ∀ i, i ≤ 95 ∨ 108 ≤ i → U4.1 i = S.1 i := fun i hi => by rw [b4 i (by omega) (by omega) (by omega) (by omega), b3 i (by omega), o2 i (by omega), b1 i (by omega) (by omega) (by omega)]
        have l4 : U4.2 = S.2 := by rw [a4, a3, hs.2.1, a1]
        obtain ⟨U, u1, u2, -, -, u3⟩ := ref U4 (o4 109 (by omega))
        obtain ⟨g', hg', u4, u5⟩ := u3 hn hm (by omega)
        have hgg := layBest_uniq hg hg'
        subst hgg
        refine ⟨nI (layPairs (S.1 109) cnt g), U4, wr U 108 9 1, ?_, u4, Rel.laid (g := g) g1 g2 g34 g5 g7.1 (fun i hi => ?_) (fun k hk => ?_) ?_ ?_ ?_ hg ?_ ?_ ?_ ?_⟩
        · have k1' : rd U4 101 1 = nI (layPairs (S.1 109) cnt g) := k1
          simp only [f_X6_best, told, if_true, e1, Option.bind_some, q', q2, if_false, ec, if_neg cb, e2, e3, e4, k1']
        · rw [wr1_ne (by omega), u2 i (by omega), o4 i (by omega)]
        · rw [wr1_eq, if_neg hk, u2 108 (by omega), o4 108 (by omega)]
        · rw [wr1_eq, if_pos rfl]
        · show U.2 = _; rw [u1, l4]
        · rw [wr1_ne (by decide), u2 106 (by omega)]; exact k6
        · rw [wr1_ne (by decide), u2 101 (by omega)]; exact k0
        · rw [wr1_ne (by decide), u2 101 (by omega)]; exact k1
        · intro t ht; rw [wr1_ne (by decide), u2 104 (by omega)]; exact k4 t ht
        · intro t ht; rw [wr1_ne (by decide)]; exact u5 t ht
  · -- told already
    obtain ⟨y1, y2⟩ := g6
    rcases y2 with y2 | ⟨y2, g, y3, y4, y5⟩
    · exact absurd (y1.trans y2) told
    · obtain ⟨U, u1, u2, -, -, u3⟩ := ref S rfl
      obtain ⟨g', hg', u4, u5⟩ := u3 y3.1 y3.2.1 y3.2.2.1
      have hgg := layBest_uniq y3 hg'
      subst hgg
      have y4' : rd S 101 1 = nI (layPairs (S.1 109) cnt g) := y4
      refine ⟨nI (layPairs (S.1 109) cnt g), S, wr U 108 9 1, by simp only [f_X6_best, told, if_false, y4'], u4, Rel.laid (g := g) g1 g2 g34 g5 g7.1 (fun i hi => ?_) (fun k hk => ?_) ?_ ?_ ?_ y3 ?_ ?_ ?_ ?_⟩
      · rw [wr1_ne (by omega), u2 i (by omega)]
      · rw [wr1_eq, if_neg hk, u2 108 (by omega)]
      · rw [wr1_eq, if_pos rfl]
      · show U.2 = _; rw [u1]
      · rw [wr1_ne (by decide), u2 106 (by omega)]; exact g7.2
      · rw [wr1_ne (by decide), u2 101 (by omega), y1]; exact y2
      · rw [wr1_ne (by decide), u2 101 (by omega)]; exact y4
      · intro t ht; rw [wr1_ne (by decide), u2 104 (by omega)]; exact (y5 t ht).1
      · intro t ht; rw [wr1_ne (by decide)]; exact u5 t ht
