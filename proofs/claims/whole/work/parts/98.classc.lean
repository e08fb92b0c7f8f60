theorem choose_run {A : Nat → Int32} {n : Nat} {S : St} (hn : 0 < n) (hn6 : n ≤ 6) (hm : 0 < (layTrees A).length) (hN : n ^ (layTrees A).length ≤ 5000) (h2 : S.1 101 2 = nI (layTrees A).length) (h3 : S.1 101 3 = nI n) (h102 : ∀ t, t < (layTrees A).length → S.1 102 t = nI ((layTrees A).getD t 0)) (h103 : ∀ t, t < (layTrees A).length → ∃ b, b < 2 ^ 12 ∧ S.1 103 t = nI b ∧ ∀ e, e < t → b.testBit e = layNear A ((layTrees A).getD t 0) ((layTrees A).getD e 0)) (h107 : ∀ s o, s < n → o < n → S.1 107 (6 * s + o) = nI (wrtF A s o)) (h106 : S.1 106 0 = 0) : ∃ (g : Nat) (U : St), f_X1_choose S = some U ∧ layBest A n g ∧ U.2 = S.2 ∧ (∀ i, i ≠ 101 → i ≠ 104 → i ≠ 105 → i ≠ 106 → U.1 i = S.1 i) ∧ U.1 101 0 = 1 ∧ U.1 101 1 = nI (layPairs A n g) ∧ (∀ t, t < (layTrees A).length → U.1 104 ((layTrees A).getD t 0) = nI (layDig n (layTrees A).length g t)) ∧ U.1 106 0 = 0 := by
  have hl : (layTrees A).length ≤ 12 := trJ_le A 12
  have hpos : 0 < n ^ (layTrees A).length := Nat.pow_pos hn
  unfold f_X1_choose
  have L1 := loop_up (N := (layTrees A).length) (fun k i U => f_X1_choose_L2 k (fun T23 => (f_X1_choose_L32 6000 (fun T92 => (some (wr T92 101 0 (1 : Int32)))) (0 : Int32) (0 : Int32) (wr T23 101 1 (-1 : Int32)))) i U) (fun T23 => (f_X1_choose_L32 6000 (fun T92 => (some (wr T92 101 0 (1 : Int32)))) (0 : Int32) (0 : Int32) (wr T23 101 1 (-1 : Int32)))) (fun j U => Fill S 105 0 (fun _ => 0) j U) (fun k j U hj hP => by
    refine ⟨_, hP.step, ?_⟩
    have r0 : rd U 101 2 = nI (layTrees A).length := by show U.1 101 2 = _; rw [hP.1 101 (by decide)]; exact h2
    have h1 : (nI j < nI (layTrees A).length) = True := ltT hj (by omega)
    have hin : inb (nI j) 12 = true := inb_nI (by omega) (by decide)
    have hix : ix (nI j) = 0 + j := by rw [ix_nI (by omega)]; omega
    simp only [f_X1_choose_L2, r0, h1, hin, hix, nI_1, if_true]) (fun k U hP => by
    have r0 : rd U 101 2 = nI (layTrees A).length := by show U.1 101 2 = _; rw [hP.1 101 (by decide)]; exact h2
    have h1 : (nI (layTrees A).length < nI (layTrees A).length) = False := ltF (Nat.le_refl _) (by omega)
    simp only [f_X1_choose_L2, r0, h1, if_false]) (fuel := 6000) (by omega) (Fill.zero S 105 0 (fun _ => 0))
  rw [nI_0] at L1
  obtain ⟨T, fT, eT⟩ := L1
  rw [eT]
  have key := loop_d (fun k (v : Int32 × Int32 × St) => f_X1_choose_L32 k (fun T92 => (some (wr T92 101 0 (1 : Int32)))) v.1 v.2.1 v.2.2)
    (fun i v => v.2.2.2 = S.2 ∧ (∀ x, x ≠ 101 → x ≠ 104 → x ≠ 105 → x ≠ 106 → v.2.2.1 x = S.1 x) ∧ (∀ x, x ≠ 0 → x ≠ 1 → v.2.2.1 101 x = S.1 101 x) ∧ v.2.2.1 106 0 = 0 ∧ ((∃ g j0, g < n ^ (layTrees A).length ∧ i = n ^ (layTrees A).length - g + 1 ∧ v.1 = nI j0 ∧ j0 ≤ (layTrees A).length ∧ v.2.1 = nI g ∧ (∀ t, t < (layTrees A).length → v.2.2.1 105 t = nI (layDig n (layTrees A).length g t)) ∧ (∀ t, t ≤ j0 → v.2.2.1 106 t = nI (prsT A n g t)) ∧ BstV A n g (v.2.2.1 101 1) (v.2.2.1 104)) ∨ (v.1 = -1 ∧ v.2.1 = nI (n ^ (layTrees A).length) ∧ BstV A n (n ^ (layTrees A).length) (v.2.2.1 101 1) (v.2.2.1 104))))
    (fun r => ∃ U : St, r = some (wr U 101 0 1) ∧ U.2 = S.2 ∧ (∀ x, x ≠ 101 → x ≠ 104 → x ≠ 105 → x ≠ 106 → U.1 x = S.1 x) ∧ U.1 106 0 = 0 ∧ BstV A n (n ^ (layTrees A).length) (U.1 101 1) (U.1 104)) ?_ ?_ (n ^ (layTrees A).length - 0 + 1) 6000 (0, 0, wr T 101 1 (-1)) (by omega) ⟨fT.2.1, fun x a b c d => by rw [wr1_ne a, fT.1 x c], fun x a b => by rw [wr1_eq, if_neg b, fT.1 101 (by decide)], by rw [wr1_ne (by decide), fT.1 106 (by decide)]; exact h106, Or.inl ⟨0, 0, hpos, rfl, rfl, Nat.zero_le _, rfl, fun t ht => ?_, fun t ht => ?_, ?_⟩⟩
  · obtain ⟨U, e, u1, u2, u3, u4⟩ := key
    unfold BstV at u4
    cases hf : fstB (layPairs A n) (n ^ (layTrees A).length) with
    | none =>
      obtain ⟨g, eg, -⟩ := fstB_some (layPairs A n) _ hpos
      rw [hf] at eg; cases eg
    | some g =>
      rw [hf] at u4
      refine ⟨g, wr U 101 0 1, e, fstB_best hn hm hN hf, u1, fun i a b c d => by rw [wr1_ne a]; exact u2 i a b c d, by rw [wr1_eq, if_pos rfl], by rw [wr1_eq, if_neg (by decide)]; exact u4.1, fun t ht => by rw [wr1_ne (by decide)]; exact u4.2 t ht, by rw [wr1_ne (by decide)]; exact u3⟩
  · intro k i v hP
    obtain ⟨ch, gc, U⟩ := v
    obtain ⟨p1, p2, p2', p3, p4⟩ := hP
    simp only at p1 p2 p2' p3 p4
    rcases p4 with ⟨g, j0, hg, hi, rfl, hj0, rfl, h105, h6, hB⟩ | ⟨rfl, rfl, hB⟩
    · left
      have c5 : ¬ (5000 : Int32) < nI g := nI_nlt (a := 5000) (by omega) (by decide)
      have c0 : ¬ nI j0 < 0 := nI_pos (by omega)
      have U2 : U.1 101 2 = nI (layTrees A).length := by rw [p2' 2 (by decide) (by decide)]; exact h2
      have U3 : U.1 101 3 = nI n := by rw [p2' 3 (by decide) (by decide)]; exact h3
      obtain ⟨V, eV, v1, v2, v3⟩ := pairs_run (A := A) (n := n) (g := g) (V := U) hn hn6 hj0 U2 (fun t ht => by rw [p2 103 (by decide) (by decide) (by decide) (by decide)]; exact h103 t ht) h105 (fun s o a b => by rw [p2 107 (by decide) (by decide) (by decide) (by decide)]; exact h107 s o a b) h6
      have V2 : rd V 101 2 = nI (layTrees A).length := by show V.1 101 2 = _; rw [v2 101 (by decide)]; exact U2
      have i13 : inb (nI (layTrees A).length) 13 = true := inb_nI (by omega) (by decide)
      have x13 : ix (nI (layTrees A).length) = (layTrees A).length := ix_nI (by omega)
      have r6 : rd V 106 (layTrees A).length = nI (layPairs A n g) := by rw [layPairs_prs]; exact v3 _ (Nat.le_refl _)
      have rm : rd V 101 1 = U.1 101 1 := by show V.1 101 1 = _; rw [v2 101 (by decide)]
      obtain ⟨l1, l2⟩ := hB.less
      have nx : ∀ W : St, W.2 = S.2 → (∀ x, x ≠ 101 → x ≠ 104 → x ≠ 105 → x ≠ 106 → W.1 x = S.1 x) → (∀ x, x ≠ 0 → x ≠ 1 → W.1 101 x = S.1 101 x) → (∀ t, t ≤ (layTrees A).length → W.1 106 t = nI (prsT A n g t)) → (∀ t, t < (layTrees A).length → W.1 105 t = nI (layDig n (layTrees A).length g t)) → BstV A n (g + 1) (W.1 101 1) (W.1 104) → ∃ T' : Int32 × Int32 × St, (T'.2.2.2 = S.2 ∧ (∀ x, x ≠ 101 → x ≠ 104 → x ≠ 105 → x ≠ 106 → T'.2.2.1 x = S.1 x) ∧ (∀ x, x ≠ 0 → x ≠ 1 → T'.2.2.1 101 x = S.1 101 x) ∧ T'.2.2.1 106 0 = 0 ∧ ((∃ g j0, g < n ^ (layTrees A).length ∧ i = n ^ (layTrees A).length - g + 1 ∧ T'.1 = nI j0 ∧ j0 ≤ (layTrees A).length ∧ T'.2.1 = nI g ∧ (∀ t, t < (layTrees A).length → T'.2.2.1 105 t = nI (layDig n (layTrees A).length g t)) ∧ (∀ t, t ≤ j0 → T'.2.2.1 106 t = nI (prsT A n g t)) ∧ BstV A n g (T'.2.2.1 101 1) (T'.2.2.1 104)) ∨ (T'.1 = -1 ∧ T'.2.1 = nI (n ^ (layTrees A).length) ∧ BstV A n (n ^ (layTrees A).length) (T'.2.2.1 101 1) (T'.2.2.1 104)))) ∧ (f_X1_tryNext W).bind (fun v82 => (f_X1_choose_L32 k (fun T92 => (some (wr T92 101 0 (1 : Int32)))) v82.1 (nI g + (1 : Int32)) v82.2)) = f_X1_choose_L32 k (fun T92 => (some (wr T92 101 0 (1 : Int32)))) T'.1 T'.2.1 T'.2.2 := by
        intro W w1 w2 w3 w4 w5 w6
        obtain ⟨t, W', e, a1, a2, a3⟩ := tryNext_run (m := (layTrees A).length) (n := n) (g := g) (V := W) hl hn hn6 hg (by rw [w3 2 (by decide) (by decide)]; exact h2) (by rw [w3 3 (by decide) (by decide)]; exact h3) w5
        have z6 : W'.1 106 0 = 0 := by rw [a2 106 (by decide), w4 0 (Nat.zero_le _)]; rfl
        refine ⟨(t, nI (g + 1), W'), ⟨a1.trans w1, fun x a b c d => by rw [a2 x c]; exact w2 x a b c d, fun x a b => by rw [a2 101 (by decide)]; exact w3 x a b, z6, ?_⟩, by rw [e, Option.bind_some, nI_1]⟩
        have hbst : BstV A n (g + 1) (W'.1 101 1) (W'.1 104) := by rw [a2 101 (by decide), a2 104 (by decide)]; exact w6
        rcases a3 with ⟨rfl, a4⟩ | ⟨j, hj, rfl, a4, a5, a6⟩
        · right
          refine ⟨rfl, by rw [← a4], ?_⟩
          rw [← a4]; exact hbst
        · left
          refine ⟨g + 1, j, a4, by omega, rfl, by omega, rfl, a6, fun x hx => ?_, hbst⟩
          show W'.1 106 x = _
          rw [a2 106 (by decide), w4 x (by omega), prsT_cong (fun b hb => a5 b (by omega))]
      by_cases c : U.1 101 1 < nI (layPairs A n g)
      · obtain ⟨W, eW, w1, w2, w3⟩ := tell_run (A := A) (n := n) (g := g) (V := wr V 101 1 (nI (layPairs A n g))) (by rw [wr1_eq, if_neg (by decide)]; exact V2) (fun t ht => by rw [wr1_ne (by decide), v2 102 (by decide), p2 102 (by decide) (by decide) (by decide) (by decide)]; exact h102 t ht) (fun t ht => by rw [wr1_ne (by decide), v2 105 (by decide)]; exact h105 t ht)
        obtain ⟨T', q1, q2⟩ := nx W (w1.trans (v1.trans p1)) (fun x a b c d => by rw [w2 x b, wr1_ne a, v2 x d, p2 x a b c d]) (fun x a b => by rw [w2 101 (by decide), wr1_eq, if_neg b, v2 101 (by decide), p2' x a b]) (fun t ht => by rw [w2 106 (by decide), wr1_ne (by decide)]; exact v3 t ht) (fun t ht => by rw [w2 105 (by decide), wr1_ne (by decide), v2 105 (by decide)]; exact h105 t ht) (by
          have e1 : W.1 101 1 = nI (layPairs A n g) := by rw [w2 101 (by decide), wr1_eq, if_pos rfl]
          rw [e1]; exact l1 c _ w3)
        refine ⟨T', q1, ?_⟩
        have c' : rd V 101 1 < nI (layPairs A n g) := by rw [rm]; exact c
        simp only [f_X1_choose_L32, if_neg c5, if_neg c0, eV, Option.bind_some, V2, i13, x13, if_true, r6, if_pos c', eW]
        exact q2
      · obtain ⟨T', q1, q2⟩ := nx V (v1.trans p1) (fun x a b c d => by rw [v2 x d, p2 x a b c d]) (fun x a b => by rw [v2 101 (by decide), p2' x a b]) v3 (fun t ht => by rw [v2 105 (by decide)]; exact h105 t ht) (by
          rw [v2 101 (by decide), v2 104 (by decide)]; exact l2 c)
        refine ⟨T', q1, ?_⟩
        have c' : ¬ rd V 101 1 < nI (layPairs A n g) := by rw [rm]; exact c
        simp only [f_X1_choose_L32, if_neg c5, if_neg c0, eV, Option.bind_some, V2, i13, x13, if_true, r6, if_neg c']
        exact q2
    · right
      have c5 : ¬ (5000 : Int32) < nI (n ^ (layTrees A).length) := nI_nlt (a := 5000) (by omega) (by decide)
      have c0 : (-1 : Int32) < 0 := by decide
      exact ⟨U, by simp only [f_X1_choose_L32, if_neg c5, if_pos c0], p1, p2, p3, hB⟩
  · intro k v hP
    obtain ⟨ch, gc, U⟩ := v
    obtain ⟨p1, p2, p2', p3, p4⟩ := hP
    simp only at p1 p2 p2' p3 p4
    rcases p4 with ⟨g, j0, hg, hi, -⟩ | ⟨rfl, rfl, hB⟩
    · omega
    · have c5 : ¬ (5000 : Int32) < nI (n ^ (layTrees A).length) := nI_nlt (a := 5000) (by omega) (by decide)
      have c0 : (-1 : Int32) < 0 := by decide
      exact ⟨U, by simp only [f_X1_choose_L32, if_neg c5, if_pos c0], p1, p2, p3, hB⟩
  · show (wr T 101 1 (-1)).1 105 t = _
    rw [wr1_ne (by decide), layDig_zero]
    have := fT.at (k := t) ht
    rw [Nat.zero_add] at this; exact this
  · show (wr T 101 1 (-1)).1 106 t = _
    rw [show t = 0 from by omega, wr1_ne (by decide), fT.1 106 (by decide), h106]; rfl
  · show BstV A n 0 ((wr T 101 1 (-1)).1 101 1) _
    rw [wr1_eq, if_pos rfl]; rfl
