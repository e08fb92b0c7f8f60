-- the class's best: what it gathers
theorem bit_v : ∀ j, j < 12 → ((1 : Int32) <<< (nI j &&& 31)) = nI (2 ^ j) ∧ ((nI j &&& 31).toBitVec.smod 32).toNat = j := by decide +kernel
theorem bit_get {b e : Nat} (hb : b < 2 ^ 12) (he : e < 12) : (((nI b >>> (nI e &&& 31)) &&& 1) = 1) = (b.testBit e = true) := by
  rw [pk_shrN (by omega) _ e (bit_v e he).2, pk_andN (Nat.lt_of_le_of_lt (Nat.div_le_self _ _) (by omega)) 1 (by decide), Nat.testBit_eq_decide_div_mod_eq, decide_eq_true_eq]
  have : b / 2 ^ e % 2 ^ 1 < 2 := Nat.mod_lt _ (by decide)
  apply propext
  rw [show (1 : Int32) = nI 1 from rfl]
  exact nI_eq (by omega) (by decide)
theorem nearEarlier_run {cnt yr m p : Nat} {S : St} {A : Nat → Int32} {tr : Nat → Nat} (h : OrA cnt yr A) (hC : OrC cnt S A) (hm : m ≤ 12) (hp : p < 12) (h2 : S.1 101 2 = nI m) (htr : ∀ t, t < m → tr t < 12 ∧ S.1 102 t = nI (tr t)) : ∃ b, b < 2 ^ 12 ∧ f_X1_nearEarlier (nI p) S = some (nI b) ∧ ∀ e, b.testBit e = (decide (e < m) && layNear A p (tr e)) := by
  have hm2 : rd S 101 2 = nI m := h2
  have := loop_up (N := m) (fun n i (v : Int32) => f_X1_nearEarlier_L5 n (fun e42_3 => (some e42_3)) (nI p) v i S) (fun v => some v) (fun j v => ∃ b, b < 2 ^ 12 ∧ v = nI b ∧ ∀ e, b.testBit e = (decide (e < j) && layNear A p (tr e))) (fun n j v hj hP => by
    obtain ⟨b, hb, rfl, hbe⟩ := hP
    have h1 : (nI j < nI m) = True := ltT hj (by omega)
    have hin : inb (nI j) 12 = true := inb_nI (by omega) (by decide)
    have hix : ix (nI j) = j := ix_nI (by omega)
    have r : rd S 102 j = nI (tr j) := (htr j hj).2
    have en := nearC h hC hp (htr j hj).1
    cases hn : layNear A p (tr j) with
    | true =>
      rw [hn] at en
      refine ⟨nI (b ||| 2 ^ j), ⟨b ||| 2 ^ j, Nat.or_lt_two_pow hb (Nat.pow_lt_pow_right (by decide) (by omega)), rfl, fun e => ?_⟩, ?_⟩
      · rw [Nat.testBit_or, hbe e, Nat.testBit_two_pow]
        by_cases c : e = j
        · subst c; simp [hn]
        · have : decide (j = e) = false := by simp; omega
          rw [this, Bool.or_false]
          congr 1
          apply decide_eq_decide.mpr
          omega
      · simp only [f_X1_nearEarlier_L5, hm2, h1, if_true, hin, hix, r, en, Option.bind_some, (bit_v j (by omega)).1, nI_or, nI_1]
    | false =>
      rw [hn] at en
      refine ⟨nI b, ⟨b, hb, rfl, fun e => ?_⟩, ?_⟩
      · rw [hbe e]
        by_cases c : e = j
        · subst c; simp [hn]
        · congr 1
          apply decide_eq_decide.mpr
          omega
      · simp only [f_X1_nearEarlier_L5, hm2, h1, if_true, hin, hix, r, en, Option.bind_some, Bool.false_eq_true, if_false, nI_1]) (fun n v hP => by
    have h1 : (nI m < nI m) = False := ltF (Nat.le_refl _) (by omega)
    simp only [f_X1_nearEarlier_L5, hm2, h1, if_false]) (fuel := 6000) (T := 0) (by omega) ⟨0, by decide, rfl, fun e => by simp⟩
  rw [nI_0] at this
  obtain ⟨v, ⟨b, hb, rfl, hbe⟩, e⟩ := this
  exact ⟨b, hb, e, hbe⟩
/-- what is gathered -/
theorem gather_run {cnt yr : Nat} {S : St} {A : Nat → Int32} (h : OrA cnt yr A) (hC : OrC cnt S A) : ∃ U, f_X1_gather S = some U ∧ U.2 = S.2 ∧ (∀ i, i ≠ 101 → i ≠ 102 → i ≠ 103 → U.1 i = S.1 i) ∧ (∀ k, k ≠ 2 → k ≠ 3 → U.1 101 k = S.1 101 k) ∧ U.1 101 3 = nI cnt ∧ U.1 101 2 = nI (layTrees A).length ∧ ∀ t, t < (layTrees A).length → U.1 102 t = nI ((layTrees A).getD t 0) ∧ ∃ b, b < 2 ^ 12 ∧ U.1 103 t = nI b ∧ ∀ e, e < t → b.testBit e = layNear A ((layTrees A).getD t 0) ((layTrees A).getD e 0) := by
  have hc1 : rd S 1 1 = nI cnt := hC.1
  unfold f_X1_gather
  rw [hc1]
  have := loop_up (N := 12) (fun n i U => f_X1_gather_L15 n (fun T75 => (some T75)) i U) (fun U => some U) (fun j U => U.2 = S.2 ∧ (∀ i, i ≠ 101 → i ≠ 102 → i ≠ 103 → U.1 i = S.1 i) ∧ (∀ k, k ≠ 2 → k ≠ 3 → U.1 101 k = S.1 101 k) ∧ U.1 101 3 = nI cnt ∧ U.1 101 2 = nI (trJ A j).length ∧ ∀ t, t < (trJ A j).length → U.1 102 t = nI ((trJ A j).getD t 0) ∧ (trJ A j).getD t 0 < 12 ∧ ∃ b, b < 2 ^ 12 ∧ U.1 103 t = nI b ∧ ∀ e, e < t → b.testBit e = layNear A ((trJ A j).getD t 0) ((trJ A j).getD e 0)) (fun n j U hj hP => by
    obtain ⟨p1, p2, p3, p4, p5, p6⟩ := hP
    have hl := trJ_le A j
    have h1 : (nI j < (12 : Int32)) = True := ltT hj (by decide)
    have hin : inb (nI j) 12 = true := inb_nI hj (by decide)
    have hix : ix (nI j) = j := ix_nI (by omega)
    have ek : rd U (20 + 2 * j) 2 = A (66 + 11 * j + 2) := by show U.1 (20 + 2 * j) 2 = _; rw [p2 _ (by omega) (by omega) (by omega)]; exact (hC.2.2.2.2 j hj).2.2.1
    by_cases k1 : A (66 + 11 * j + 2) = 1
    · have r2 : rd U 101 2 = nI (trJ A j).length := p5
      have i2 : inb (nI (trJ A j).length) 12 = true := inb_nI (by omega) (by decide)
      have x2 : ix (nI (trJ A j).length) = (trJ A j).length := ix_nI (by omega)
      generalize hV : wr U 102 (trJ A j).length (nI j) = V
      have oV : ∀ i, i ≠ 102 → V.1 i = U.1 i := fun i hi => by rw [← hV, wr1_ne hi]
      have hCV : OrC cnt V A := hC.cong h.1 (fun k _ => by rw [oV 1 (by decide), p2 1 (by decide) (by decide) (by decide)]) (fun s k hs _ => by rw [oV _ (by omega), p2 _ (by omega) (by omega) (by omega)]) (fun p k hp _ => by rw [oV _ (by omega), p2 _ (by omega) (by omega) (by omega)])
      have rV : rd V 101 2 = nI (trJ A j).length := by show V.1 101 2 = _; rw [oV 101 (by decide)]; exact p5
      obtain ⟨b, hb, eb, hbe⟩ := nearEarlier_run (m := (trJ A j).length) (p := j) (S := V) (tr := fun t => (trJ A j).getD t 0) h hCV (by omega) hj rV (fun t ht => ⟨(p6 t ht).2.1, by rw [← hV, wr1_eq, if_neg (by omega)]; exact (p6 t ht).1⟩)
      have rW : rd (wr V 103 (trJ A j).length (nI b)) 101 2 = nI (trJ A j).length := by
        show (wr V 103 _ _).1 101 2 = _; rw [wr1_ne (by decide)]; exact rV
      refine ⟨wr (wr V 103 (trJ A j).length (nI b)) 101 2 (nI ((trJ A j).length + 1)), ⟨?_, fun i a b' c => ?_, fun k a b' => ?_, ?_, ?_, fun t ht => ?_⟩, ?_⟩
      · show V.2 = _; rw [← hV]; exact p1
      · rw [wr1_ne a, wr1_ne c, oV i b']; exact p2 i a b' c
      · rw [wr1_eq, if_neg a, wr1_ne (by decide), oV 101 (by decide)]; exact p3 k a b'
      · rw [wr1_eq, if_neg (by decide), wr1_ne (by decide), oV 101 (by decide)]; exact p4
      · rw [wr1_eq, if_pos rfl, trJ_yes k1, List.length_append]; rfl
      · rw [trJ_yes k1, List.length_append] at ht
        have ht' : t < (trJ A j).length + 1 := ht
        rw [trJ_yes k1, getD_app ht', wr1_ne (by decide), wr1_ne (by decide), wr1_ne (by decide), wr1_eq, oV 103 (by decide), ← hV, wr1_eq]
        by_cases e : t = (trJ A j).length
        · rw [if_pos e, if_pos e, if_pos e]
          refine ⟨rfl, hj, b, hb, rfl, fun x hx => ?_⟩
          rw [hbe x, getD_app (by omega), if_neg (by omega)]
          have : decide (x < (trJ A j).length) = true := by simp; omega
          rw [this, Bool.true_and]
        · rw [if_neg e, if_neg e, if_neg e]
          obtain ⟨q1, q2, b', q3, q4, q5⟩ := p6 t (by omega)
          refine ⟨q1, q2, b', q3, q4, fun x hx => ?_⟩
          rw [getD_app (by omega), if_neg (by omega)]; exact q5 x hx
      · simp only [f_X1_gather_L15, h1, if_true, hin, hix, ek, k1, r2, i2, x2, hV, eb, Option.bind_some, rV, rW, nI_1]
    · refine ⟨U, ⟨p1, p2, p3, p4, by rw [trJ_no k1]; exact p5, fun t ht => by rw [trJ_no k1] at ht ⊢; exact p6 t ht⟩, ?_⟩
      simp only [f_X1_gather_L15, h1, if_true, hin, hix, ek, k1, if_false, nI_1]) (fun n U hP => by
    have h1 : (nI 12 < (12 : Int32)) = False := ltF (N := 12) (by decide) (by decide)
    simp only [f_X1_gather_L15, h1, if_false]) (fuel := 6000) (T := wr (wr S 101 3 (nI cnt)) 101 2 0) (by decide) ⟨rfl, fun i a _ _ => by rw [wr1_ne a, wr1_ne a], fun k a b => by rw [wr1_eq, if_neg a, wr1_eq, if_neg b], by rw [wr1_eq, if_neg (by decide), wr1_eq, if_pos rfl], by rw [wr1_eq, if_pos rfl]; rfl, fun t ht => absurd ht (by simp [trJ])⟩
  rw [nI_0] at this
  obtain ⟨U, ⟨p1, p2, p3, p4, p5, p6⟩, e⟩ := this
  exact ⟨U, e, p1, p2, p3, p4, p5, fun t ht => ⟨(p6 t ht).1, (p6 t ht).2.2⟩⟩
theorem givings_run {m n : Nat} {S : St} (hm : m ≤ 12) (hn : 0 < n) (hn6 : n ≤ 6) (h2 : S.1 101 2 = nI m) (h3 : S.1 101 3 = nI n) : ∃ c, c ≤ 30000 ∧ f_X1_countGivings S = some (nI c) ∧ (5000 < c ↔ 5000 < n ^ m) := by
  have r2 : rd S 101 2 = nI m := h2
  have r3 : rd S 101 3 = nI n := h3
  have := loop_q (N := m) (fun k i (v : Int32) => f_X1_countGivings_L4 k (fun e32_1 => (some e32_1)) v i S) (fun j v => j ≤ m ∧ v = nI (n ^ j) ∧ n ^ j ≤ 30000) (fun r => ∃ c, c ≤ 30000 ∧ r = some (nI c) ∧ (5000 < c ↔ 5000 < n ^ m)) (fun k j v hj hP => by
    obtain ⟨p1, rfl, p3⟩ := hP
    have h1 : (nI j < nI m) = True := ltT hj (by omega)
    by_cases big : 5000 < n ^ j
    · right
      have b' : (5000 : Int32) < nI (n ^ j) := nI_lt (a := 5000) big (by omega)
      have hle : n ^ j ≤ n ^ m := Nat.pow_le_pow_right hn p1
      exact ⟨n ^ j, p3, by simp only [f_X1_countGivings_L4, r2, h1, if_true]; rw [if_pos b'], ⟨fun _ => by omega, fun _ => big⟩⟩
    · left
      have b' : ¬ (5000 : Int32) < nI (n ^ j) := nI_nlt (a := 5000) (by omega) (by decide)
      have hmul : n ^ j * n ≤ 5000 * 6 := Nat.mul_le_mul (by omega) hn6
      refine ⟨nI (n ^ (j + 1)), ⟨by omega, rfl, by rw [Nat.pow_succ]; omega⟩, ?_⟩
      simp only [f_X1_countGivings_L4, r2, h1, if_true, r3, pk_mul, nI_1, Nat.pow_succ]
      rw [if_neg b']) (fun k v hP => by
    obtain ⟨p1, rfl, p3⟩ := hP
    have h1 : (nI m < nI m) = False := ltF (Nat.le_refl _) (by omega)
    exact ⟨n ^ m, p3, by simp only [f_X1_countGivings_L4, r2, h1, if_false], Iff.rfl⟩) m 0 6000 1 (by omega) (by omega) ⟨by omega, rfl, by rw [Nat.pow_zero]; omega⟩
  rw [nI_0] at this
  exact this
theorem weigh_run {cnt yr : Nat} {S : St} {A : Nat → Int32} (h : OrA cnt yr A) (hC : OrC cnt S A) (hW : SeaC cnt (fun k => 5 + k) A S) (h3 : S.1 101 3 = nI cnt) : ∃ U, f_X1_weighSorts S = some U ∧ U.2 = S.2 ∧ (∀ i, i ≠ 107 → U.1 i = S.1 i) ∧ ∀ s o, s < cnt → o < cnt → U.1 107 (6 * s + o) = nI (wrtF A s o) := by
  have hc := h.1
  have row : ∀ (j : Nat) (T : St) (K : Int32 → St → Option St), j < cnt → (∀ i, i ≠ 107 → T.1 i = S.1 i) → ∃ U, f_X1_weighSorts_L13 6000 K (nI j) 0 T = K (nI j) U ∧ U.2 = T.2 ∧ (∀ i, i ≠ 107 → U.1 i = T.1 i) ∧ (∀ k, (k < 6 * j ∨ 6 * j + 6 ≤ k) → U.1 107 k = T.1 107 k) ∧ ∀ o, o < cnt → U.1 107 (6 * j + o) = nI (wrtF A j o) := by
    intro j T K hj hT
    have := loop_up (N := cnt) (fun n i U => f_X1_weighSorts_L13 n K (nI j) i U) (fun U => K (nI j) U) (fun x U => U.2 = T.2 ∧ (∀ i, i ≠ 107 → U.1 i = T.1 i) ∧ (∀ k, (k < 6 * j ∨ 6 * j + 6 ≤ k) → U.1 107 k = T.1 107 k) ∧ ∀ o, o < x → U.1 107 (6 * j + o) = nI (wrtF A j o)) (fun n x U hx hP => by
      obtain ⟨p1, p2, p3, p4⟩ := hP
      have o1 : ∀ i, i ≠ 107 → U.1 i = S.1 i := fun i hi => by rw [p2 i hi, hT i hi]
      have hCU : OrC cnt U A := hC.cong hc (fun k _ => by rw [o1 1 (by decide)]) (fun s k hs _ => by rw [o1 _ (by omega)]) (fun p k hp _ => by rw [o1 _ (by omega)])
      have hWU : SeaC cnt (fun k => 5 + k) A U := hW.cong (fun i a b => o1 i (by omega))
      have r3 : rd U 101 3 = nI cnt := by show U.1 101 3 = _; rw [o1 101 (by decide)]; exact h3
      have h1 : (nI x < nI cnt) = True := ltT hx (by omega)
      have i1 : inb (nI j) 6 = true := inb_nI (by omega) (by decide)
      have x1 : ix (nI j) = j := ix_nI (by omega)
      have i2 : inb (nI x) 6 = true := inb_nI (by omega) (by decide)
      have x2 : ix (nI x) = x := ix_nI (by omega)
      have e6 : nI j * (6 : Int32) + nI x = nI (6 * j + x) := by rw [show (6 : Int32) = nI 6 from rfl, pk_mul, nI_add, Nat.mul_comm]
      have hin : inb (nI (6 * j + x)) 36 = true := inb_nI (by omega) (by decide)
      have hix : ix (nI (6 * j + x)) = 6 * j + x := ix_nI (by omega)
      have a1 := acceptsC hCU hj (show x < 6 by omega)
      have a2 := acceptsC hCU hx (show j < 6 by omega)
      have tg := togetherC h hWU hj hx
      refine ⟨wr U 107 (6 * j + x) (nI (wrtF A j x)), ⟨p1, fun i hi => by rw [wr1_ne hi]; exact p2 i hi, fun k hk => by rw [wr1_eq, if_neg (by omega)]; exact p3 k hk, fun o ho => ?_⟩, ?_⟩
      · rw [wr1_eq]
        by_cases e : o = x
        · subst e; rw [if_pos rfl]
        · rw [if_neg (by omega)]; exact p4 o (by omega)
      · have ts := tabTog_symm A x j
        simp only [f_X1_weighSorts_L13, r3, h1, if_true, i1, x1, i2, x2, a1, a2, tg, Option.bind_some, e6, hin, hix, nI_1]
        unfold wrtF layFits
        rw [ts]
        show _ = f_X1_weighSorts_L13 n K (nI j) (nI (x + 1)) (wr U 107 (6 * j + x) (nI ((if (doesA A j x && tabTog A j x) = true then 1 else 0) + (if (doesA A x j && tabTog A j x) = true then 1 else 0))))
        cases doesA A j x <;> cases doesA A x j <;> cases tabTog A j x <;> rfl) (fun n U hP => by
      have r3 : rd U 101 3 = nI cnt := by show U.1 101 3 = _; rw [hP.2.1 101 (by decide), hT 101 (by decide)]; exact h3
      have h1 : (nI cnt < nI cnt) = False := ltF (Nat.le_refl _) (by omega)
      simp only [f_X1_weighSorts_L13, r3, h1, if_false]) (fuel := 6000) (T := T) (by omega) ⟨rfl, fun _ _ => rfl, fun _ _ => rfl, fun o ho => absurd ho (by omega)⟩
    rw [nI_0] at this
    obtain ⟨U, ⟨p1, p2, p3, p4⟩, e⟩ := this
    exact ⟨U, e, p1, p2, p3, p4⟩
  have := loop_up (N := cnt) (fun n i U => f_X1_weighSorts_L2 n (fun T103 => (some T103)) i U) (fun U => some U) (fun j U => U.2 = S.2 ∧ (∀ i, i ≠ 107 → U.1 i = S.1 i) ∧ ∀ s o, s < j → o < cnt → U.1 107 (6 * s + o) = nI (wrtF A s o)) (fun n j U hj hP => by
    obtain ⟨p1, p2, p3⟩ := hP
    have r3 : rd U 101 3 = nI cnt := by show U.1 101 3 = _; rw [p2 101 (by decide)]; exact h3
    have h1 : (nI j < nI cnt) = True := ltT hj (by omega)
    obtain ⟨V, e, v1, v2, v3, v4⟩ := row j U (fun e97_3 T97 => (f_X1_weighSorts_L2 n (fun T103 => (some T103)) (e97_3 + (1 : Int32)) T97)) hj p2
    refine ⟨V, ⟨v1.trans p1, fun i hi => (v2 i hi).trans (p2 i hi), fun s o hs ho => ?_⟩, by simp only [f_X1_weighSorts_L2, r3, h1, if_true]; rw [e, nI_1]⟩
    by_cases es : s = j
    · subst es; exact v4 o ho
    · rw [v3 _ (by omega)]; exact p3 s o (by omega) ho) (fun n U hP => by
    have r3 : rd U 101 3 = nI cnt := by show U.1 101 3 = _; rw [hP.2.1 101 (by decide)]; exact h3
    have h1 : (nI cnt < nI cnt) = False := ltF (Nat.le_refl _) (by omega)
    simp only [f_X1_weighSorts_L2, r3, h1, if_false]) (fuel := 6000) (T := S) (by omega) ⟨rfl, fun _ _ => rfl, fun s o hs => absurd hs (by omega)⟩
  rw [nI_0] at this
  obtain ⟨U, ⟨p1, p2, p3⟩, e⟩ := this
  exact ⟨U, e, p1, p2, p3⟩
