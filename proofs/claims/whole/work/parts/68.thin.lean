theorem sub_toI {a b : Nat} (ha : a < 2 ^ 31) (hb : b < 2 ^ 31) : (nI a - nI b).toInt = (a : Int) - b := by
  rw [Int32.toInt_sub, nI_toInt ha, nI_toInt hb]
  apply Int.bmod_eq_of_le
  · omega
  · omega
theorem sub_neg' {a b : Nat} (ha : a < 2 ^ 31) (hb : b < 2 ^ 31) (h : a < b) : nI a - nI b < 0 := by
  rw [Int32.lt_iff_toInt_lt, sub_toI ha hb, show (0 : Int32).toInt = 0 from by decide]
  omega
theorem mx_sub {a b : Nat} (ha : a < 2 ^ 31) (hb : b < 2 ^ 31) : mxI 0 (nI a - nI b) = nI (a - b) := by
  rw [mx0]
  rcases Nat.lt_or_ge a b with q | q
  · rw [if_pos (sub_neg' ha hb q), show a - b = 0 from by omega]; rfl
  · rw [pk_sub q, if_neg (nI_pos (by omega))]
theorem pos_sub {a b : Nat} (ha : a < 2 ^ 31) (hb : b < 2 ^ 31) : (0 < nI a - nI b) = (b < a) := by
  apply propext
  rw [Int32.lt_iff_toInt_lt, sub_toI ha hb, show (0 : Int32).toInt = 0 from by decide]
  omega
theorem thinTo_run (t f0 f1 n : Nat) (S : St) (h0 : S.1 (t + 1) 0 = nI f0) (h1 : S.1 (t + 1) 1 = nI f1) (b0 : f0 < 2 ^ 31) (b1 : f1 < 2 ^ 31) (bn : n < 2 ^ 31) : f_X2_thinTo t (nI n) S = some (nI ((f0 - n) + (f1 - n)), wr (wr (wr S (t + 1) 0 (nI (f0 - (f0 - n)))) (t + 1) 1 (nI (f1 - (f1 - n)))) t 9 (S.1 t 9 - nI ((f0 - n) + (f1 - n)))) := by
  have st : ∀ m K (a : Int32) T, f_X2_thinTo_L4 (m + 1) K t (nI n) a (0 : Int32) T = f_X2_thinTo_L4 m K t (nI n) (a + mxI 0 (rd T (t + 1) 0 - nI n)) 1 (wr T (t + 1) 0 (rd T (t + 1) 0 - mxI 0 (rd T (t + 1) 0 - nI n))) := fun m K a T => by
    have c : ((0 : Int32) < 2) = True := by decide
    have d : inb 0 2 = true := by decide
    have e : (0 : Int32) + 1 = 1 := by decide
    simp only [f_X2_thinTo_L4, c, d, e, ix_0, if_true]
  have st1 : ∀ m K (a : Int32) T, f_X2_thinTo_L4 (m + 1) K t (nI n) a (1 : Int32) T = f_X2_thinTo_L4 m K t (nI n) (a + mxI 0 (rd T (t + 1) 1 - nI n)) 2 (wr T (t + 1) 1 (rd T (t + 1) 1 - mxI 0 (rd T (t + 1) 1 - nI n))) := fun m K a T => by
    have c : ((1 : Int32) < 2) = True := by decide
    have d : inb 1 2 = true := by decide
    have e : (1 : Int32) + 1 = 2 := by decide
    simp only [f_X2_thinTo_L4, c, d, e, ix_1, if_true]
  have st2 : ∀ m K (a : Int32) T, f_X2_thinTo_L4 (m + 1) K t (nI n) a (2 : Int32) T = K t a T := fun m K a T => by
    have c : ((2 : Int32) < 2) = False := by decide
    simp only [f_X2_thinTo_L4, c, if_false]
  have e0 : rd S (t + 1) 0 = nI f0 := h0
  have e1 : ∀ v, rd (wr S (t + 1) 0 v) (t + 1) 1 = nI f1 := fun v => by show (wr S (t + 1) 0 v).1 (t + 1) 1 = _; rw [wr1_eq, if_neg (by decide)]; exact h1
  unfold f_X2_thinTo
  rw [show (6000 : Nat) = 5997 + 1 + 1 + 1 from rfl, st, e0, mx_sub b0 bn, pk_sub (by omega), st1, e1, mx_sub b1 bn, pk_sub (by omega), st2]
  have e2 : (0 : Int32) + nI (f0 - n) + nI (f1 - n) = nI ((f0 - n) + (f1 - n)) := by
    rw [show (0 : Int32) = nI 0 from rfl, nI_add, nI_add]; congr 1; omega
  rw [e2]
  have e9 : rd (wr (wr S (t + 1) 0 (nI (f0 - (f0 - n)))) (t + 1) 1 (nI (f1 - (f1 - n)))) t 9 = S.1 t 9 := by
    show (wr (wr S (t + 1) 0 (nI (f0 - (f0 - n)))) (t + 1) 1 (nI (f1 - (f1 - n)))).1 t 9 = _
    rw [wr1_ne (by omega), wr1_ne (by omega)]
  rw [e9]
theorem thin7_run (p f0 f1 n : Nat) (hp : p < 12) (S : St) (K : Int32 → Int32 → St → Option (Int32 × St)) (h0 : S.1 109 (66 + 11 * p + 8) = nI f0) (h1 : S.1 109 (66 + 11 * p + 9) = nI f1) (b0 : f0 < 2 ^ 31) (b1 : f1 < 2 ^ 31) (bn : n < 2 ^ 31) : ∃ T, f_X7_thin_L41 6000 K (nI p) (nI n) 0 (2 * nI p) S = K (nI p) (nI ((f0 - n) + (f1 - n))) T ∧ T.2 = S.2 ∧ (∀ i, i ≠ 109 → T.1 i = S.1 i) ∧ ∀ j, T.1 109 j = if j = 66 + 11 * p + 9 then nI (f1 - (f1 - n)) else if j = 66 + 11 * p + 8 then nI (f0 - (f0 - n)) else S.1 109 j := by
  have st : ∀ (q f : Nat) m (a : Nat) T, q < 2 → T.1 109 (66 + 11 * p + (8 + q)) = nI f → f < 2 ^ 31 → ∃ T', f_X7_thin_L41 (m + 1) K (nI p) (nI n) (nI a) (nI (2 * p + q)) T = f_X7_thin_L41 m K (nI p) (nI n) (nI (a + (f - n))) (nI (2 * p + q + 1)) T' ∧ T'.2 = T.2 ∧ (∀ i, i ≠ 109 → T'.1 i = T.1 i) ∧ ∀ j, T'.1 109 j = if j = 66 + 11 * p + (8 + q) then nI (f - (f - n)) else T.1 109 j := by
    intro q f m a T hq hf bf
    have c : (nI (2 * p + q) < 2 * nI p + 2) = True := by
      rw [show (2 : Int32) * nI p + 2 = nI (2 * p + 2) from part_nat (q := 2)]
      exact ltT (by omega) (by omega)
    have hf' : rd T 109 (66 + 11 * p + (8 + q)) = nI f := hf
    by_cases h : n < f
    · refine ⟨wr T 109 (66 + 11 * p + (8 + q)) (nI (f - (f - n))), ?_, rfl, fun i hi => by rw [wr1_ne hi], fun j => by rw [wr1_eq]⟩
      have e : nI f + -(nI (f - n)) = nI (f - (f - n)) := by
        have := pk_sub (a := f) (b := f - n) (by omega)
        rw [← this, Int32.sub_eq_add_neg]
      have e2 : nI f - nI n = nI (f - n) := pk_sub (by omega)
      have c2 : (0 < nI f - nI n) = True := by rw [pos_sub bf bn]; exact eq_true h
      rw [e2] at c2
      simp only [f_X7_thin_L41, c, if_true, fruitsOf_nat hp hq, hf', Option.bind_some, e2, c2, grow_nat hp hq, e, nI_add, nI_1]
    · refine ⟨T, ?_, rfl, fun i hi => rfl, fun j => ?_⟩
      · have c2 : (0 < nI f - nI n) = False := by rw [pos_sub bf bn]; exact eq_false h
        have e3 : a + (f - n) = a := by omega
        simp only [f_X7_thin_L41, c, if_true, fruitsOf_nat hp hq, hf', Option.bind_some, c2, if_false, nI_1, e3]
      · by_cases e : j = 66 + 11 * p + (8 + q)
        · rw [if_pos e, e, hf]; congr 1; omega
        · rw [if_neg e]
  obtain ⟨T1, w1, l1, o1, v1⟩ := st 0 f0 5999 0 S (by decide) h0 b0
  obtain ⟨T2, w2, l2, o2, v2⟩ := st 1 f1 5998 (0 + (f0 - n)) T1 (by decide) (by rw [v1, if_neg (by omega)]; exact h1) b1
  refine ⟨T2, ?_, l2.trans l1, fun i hi => by rw [o2 i hi, o1 i hi], fun j => by rw [v2, v1]⟩
  have e0 : (2 : Int32) * nI p = nI (2 * p + 0) := by rw [show (2 : Int32) = nI 2 from rfl, pk_mul]; rfl
  rw [e0]
  have c : (nI (2 * p + 1 + 1) < nI (2 * p + 0) + 2) = False := by
    rw [show nI (2 * p + 0) + 2 = nI (2 * p + 0 + 2) from nI_add _ 2]
    exact ltF (by omega) (by omega)
  have c' : (nI (2 * p + 1 + 1) < 2 * nI p + 2) = False := by rw [e0]; exact c
  have w3 : ∀ m, f_X7_thin_L41 (m + 1) K (nI p) (nI n) (nI (0 + (f0 - n) + (f1 - n))) (nI (2 * p + 1 + 1)) T2 = K (nI p) (nI (0 + (f0 - n) + (f1 - n))) T2 := fun m => by
    simp only [f_X7_thin_L41, c', if_false]
  rw [show (0 : Int32) = nI 0 from rfl, show (6000 : Nat) = 5999 + 1 from rfl, w1]
  show f_X7_thin_L41 (5998 + 1) K (nI p) (nI n) _ (nI (2 * p + 1)) T1 = _
  rw [w2]
  rw [show (5998 : Nat) = 5997 + 1 from rfl, w3, Nat.zero_add]
theorem sm_thin (x z : Int32) : Sm Rel (f_X6_thin x z) (f_X7_thin x z) := by
  intro B S hB hR
  by_cases h1 : f_X6_isPlace x = true
  · by_cases h2 : z < 0
    · exact ⟨-1, (f_X6_finding (-1) S).2, (f_X7_found (-1) (f_X6_finding (-1) S).2).2, by simp only [f_X6_thin, h1, h2, if_true, if_false]; rfl, by simp only [f_X7_thin, isPlace_eq, in_eq, h1, h2, if_true, if_false]; rfl, hR.found _ _⟩
    · obtain ⟨p, hp, rfl⟩ := place_nat h1
      obtain ⟨n, bn, rfl⟩ := nI_of h2
      obtain ⟨cnt, yr, dn, hP⟩ := hR.place hp
      have hk : rd S (20 + 2 * p) 2 = rd S 109 (66 + 11 * p + 2) := hP.2.2.2.2.1
      have hks : rd S 109 (66 + 11 * p + 2) = 0 ∨ rd S 109 (66 + 11 * p + 2) = 1 ∨ rd S 109 (66 + 11 * p + 2) = 2 ∨ rd S 109 (66 + 11 * p + 2) = 3 ∨ rd S 109 (66 + 11 * p + 2) = 4 ∨ rd S 109 (66 + 11 * p + 2) = 5 := hP.kinds
      have hin : inb (nI p) 12 = true := inb_nI hp (by decide)
      have hix : ix (nI p) = p := ix_nI (by omega)
      by_cases kt : rd S 109 (66 + 11 * p + 2) = 0 ∨ rd S 109 (66 + 11 * p + 2) = 5
      · have ht := isTree_no hk kt
        have eF : ∀ c, rd (f_X6_finding c S).2 109 (66 + 11 * p + 2) = rd S 109 (66 + 11 * p + 2) := fun c => fnd_rd c S (by decide)
        rcases kt with k0 | k5
        · have hw : f_X2_whyNoTree (20 + 2 * p) S = -6 := by unfold f_X2_whyNoTree; rw [hk, if_pos k0]
          exact ⟨-6, (f_X6_finding (-6) S).2, (f_X7_found (-6) (f_X6_finding (-6) S).2).2, by simp only [f_X6_thin, h1, h2, hin, hix, ht, hw, if_true, if_false, Bool.false_eq_true]; rfl, by simp only [f_X7_thin, isPlace_eq, h1, h2, if_true, if_false, lacks_nat hp, eF, k0, Option.bind_some]; rfl, hR.found _ _⟩
        · have hw : f_X2_whyNoTree (20 + 2 * p) S = -4 := by unfold f_X2_whyNoTree; rw [hk, k5]; rfl
          exact ⟨-4, (f_X6_finding (-4) S).2, (f_X7_found (-4) (f_X6_finding (-4) S).2).2, by simp only [f_X6_thin, h1, h2, hin, hix, ht, hw, if_true, if_false, Bool.false_eq_true]; rfl, by simp only [f_X7_thin, isPlace_eq, h1, h2, if_true, if_false, lacks_nat hp, eF, k5, Option.bind_some]; rfl, hR.found _ _⟩
      · have k0 : ¬ rd S 109 (66 + 11 * p + 2) = 0 := fun q => kt (Or.inl q)
        have k5 : ¬ rd S 109 (66 + 11 * p + 2) = 5 := fun q => kt (Or.inr q)
        have ht := isTree_yes hk (by rcases hks with t | t | t | t | t | t <;> simp_all)
        obtain ⟨f0, f1, b0, b1, g0, g1⟩ : ∃ f0 f1 : Nat, f0 < 2 ^ 31 ∧ f1 < 2 ^ 31 ∧ S.1 109 (66 + 11 * p + 8) = nI f0 ∧ S.1 109 (66 + 11 * p + 9) = nI f1 := by
          obtain ⟨cnt', yr', dn', -, q2, -⟩ := id hR
          have hd49 := q2.1.2.1
          have hPl := q2.2.2.2.1 p hp
          rcases hPl.2.2.2.2.2.2.2 with q | q | q
          · exact absurd q.1 k0
          · exact absurd q.1 k5
          · obtain ⟨f0, f1, ns, u1, u2, u3, u4, u5⟩ := q.2.2.2.2.2.2.2.2.2.2.2.2.2
            exact ⟨f0, f1, by omega, by omega, u1, u2⟩
        have d0 : S.1 (20 + 2 * p + 1) 0 = nI f0 := by
          rw [show 20 + 2 * p + 1 = 21 + 2 * p from by omega]; exact hP.2.2.2.2.2.1.trans g0
        have d1 : S.1 (20 + 2 * p + 1) 1 = nI f1 := by
          rw [show 20 + 2 * p + 1 = 21 + 2 * p from by omega]; exact hP.2.2.2.2.2.2.1.trans g1
        have t6 := thinTo_run (20 + 2 * p) f0 f1 n S d0 d1 b0 b1 bn
        generalize hX : wr (wr (wr S (20 + 2 * p + 1) 0 (nI (f0 - (f0 - n)))) (20 + 2 * p + 1) 1 (nI (f1 - (f1 - n)))) (20 + 2 * p) 9 (S.1 (20 + 2 * p) 9 - nI ((f0 - n) + (f1 - n))) = X at t6
        have l6 : X.2 = S.2 := by rw [← hX]; rfl
        have o6 : ∀ i, i ≠ 20 + 2 * p → i ≠ 21 + 2 * p → X.1 i = S.1 i := fun i x y => by
          rw [← hX, wr1_ne x, wr1_ne (by omega), wr1_ne (by omega)]
        have c6 : ∀ j, X.1 (20 + 2 * p) j = if j = 9 then S.1 (20 + 2 * p) 9 - nI ((f0 - n) + (f1 - n)) else S.1 (20 + 2 * p) j := fun j => by
          rw [← hX, wr1_eq, wr1_ne (by omega), wr1_ne (by omega)]
        have v6 : ∀ j, X.1 (21 + 2 * p) j = if j = 1 then nI (f1 - (f1 - n)) else if j = 0 then nI (f0 - (f0 - n)) else S.1 (21 + 2 * p) j := fun j => by
          rw [← hX, wr1_ne (by omega), show 20 + 2 * p + 1 = 21 + 2 * p from by omega, wr1_eq, wr1_eq]
        generalize hg : (f0 - n) + (f1 - n) = g at *
        have b6 : f_X6_thin (nI p) (nI n) S = some (nI g, wrL X 7 1 (S.2 7 1 + (nI g).toInt64)) := by
          simp only [f_X6_thin, h1, h2, hin, hix, ht, if_true, if_false, t6, Option.bind_some, ix_1]
          rw [show rdL X 7 1 = S.2 7 1 from by show X.2 7 1 = _; rw [l6]]
        have h7 : ∀ j, (wrL X 7 1 (S.2 7 1 + (nI g).toInt64)).1 109 j = S.1 109 j := fun j => by rw [wrL1, o6 109 (by omega) (by omega)]
        obtain ⟨T, w7, l7, o7, v7⟩ := thin7_run p f0 f1 n hp (wrL X 7 1 (S.2 7 1 + (nI g).toInt64)) (fun e91_1 e91_4 T91 => ((f_X7_get e91_1 (10 : Int32) (wrL T91 111 (ix (1 : Int32)) ((rdL T91 111 (ix (1 : Int32))) + e91_4.toInt64))).bind fun v111 => ((f_X7_lay e91_1 (10 : Int32) (v111 - e91_4) (wrL T91 111 (ix (1 : Int32)) ((rdL T91 111 (ix (1 : Int32))) + e91_4.toInt64))).bind fun v117 => (some (e91_4, v117))))) (by rw [h7]; exact g0) (by rw [h7]; exact g1) b0 b1 bn
        rw [hg] at w7
        have T10 : T.1 109 (66 + 11 * p + 10) = S.1 109 (66 + 11 * p + 10) := by rw [v7, if_neg (by omega), if_neg (by omega), h7]
        have b7 : f_X7_thin (nI p) (nI n) (wrL X 7 1 (S.2 7 1 + (nI g).toInt64)) = some (nI g, wr (wrL T 111 1 (S.2 111 1 + (nI g).toInt64)) 109 (66 + 11 * p + 10) (S.1 109 (66 + 11 * p + 10) - nI g)) := by
          have eK : rd (wrL X 7 1 (S.2 7 1 + (nI g).toInt64)) 109 (66 + 11 * p + 2) = rd S 109 (66 + 11 * p + 2) := h7 _
          have n00 : ((0 : Int32) < 0) = False := by decide
          simp only [f_X7_thin, isPlace_eq, h1, h2, if_true, if_false, lacks_nat hp, eK, k0, k5, Option.bind_some, n00]
          rw [w7]
          have r1 : rdL T 111 1 = S.2 111 1 := by show T.2 111 1 = _; rw [l7, wrL2_ne (by decide), l6]
          have r2 : rd (wrL T 111 1 (S.2 111 1 + (nI g).toInt64)) 109 (66 + 11 * p + 10) = S.1 109 (66 + 11 * p + 10) := T10
          simp only [get_10 hp, lay_10 hp, Option.bind_some, ix_1, r1, r2]
        refine ⟨_, _, _, b6, b7, ?_⟩
        generalize hS2 : wr (wrL T 111 1 (S.2 111 1 + (nI g).toInt64)) 109 (66 + 11 * p + 10) (S.1 109 (66 + 11 * p + 10) - nI g) = S2
        have oS2 : ∀ i, i ≠ 109 → i ≠ 20 + 2 * p → i ≠ 21 + 2 * p → S2.1 i = S.1 i := fun i x y z => by
          rw [← hS2, wr1_ne x, wrL1, o7 i x, wrL1, o6 i y z]
        have lS2 : S2.2 = (wrL T 111 1 (S.2 111 1 + (nI g).toInt64)).2 := by rw [← hS2]; rfl
        have v109 : ∀ j, S2.1 109 j = if j = 66 + 11 * p + 10 then S.1 109 (66 + 11 * p + 10) - nI g else if j = 66 + 11 * p + 9 then nI (f1 - (f1 - n)) else if j = 66 + 11 * p + 8 then nI (f0 - (f0 - n)) else S.1 109 j := fun j => by
          rw [← hS2, wr1_eq, wrL1, v7, h7]
        have p109 : ∀ j, (j < 66 + 11 * p ∨ 66 + 11 * p + 10 < j) → S2.1 109 j = S.1 109 j := fun j hj => by
          rw [v109, if_neg (by omega), if_neg (by omega), if_neg (by omega)]
        refine hR.placed hp ?_ ?_ ?_ ?_ ?_ ?_ ?_ p109 ?_ ?_ (by rw [oS2 106 (by omega) (by omega) (by omega)])
        · rw [oS2 0 (by omega) (by omega) (by omega)]
        · intro i x y z u; rw [oS2 i (by omega) (by omega) (by omega)]
        · intro i x y; rw [oS2 i (by omega) (by omega) (by omega)]
        · intro j hj; rw [oS2 108 (by omega) (by omega) (by omega)]
        · intro h j hj
          rw [lS2, wrL2_eq, wrL2_ne (by decide), l7, wrL2_eq, wrL2_ne (by decide), l6]
          rw [h 1 (by decide), h j hj]
        · rw [lS2, wrL2_ne (by decide), l7, wrL2_ne (by decide), l6]
        · rw [lS2, wrL2_ne (by decide), l7, wrL2_ne (by decide), l6]
        · intro c y d hH hQ
          obtain ⟨r1, r2, r3, r4, r5, r6, r7, r8⟩ := hQ
          have cc : ∀ j, S2.1 (20 + 2 * p) j = if j = 9 then S.1 (20 + 2 * p) 9 - nI g else S.1 (20 + 2 * p) j := fun j => by
            rw [← hS2, wr1_ne (by omega), wrL1, o7 _ (by omega), wrL1, c6]
          have dd : ∀ j, S2.1 (21 + 2 * p) j = if j = 1 then nI (f1 - (f1 - n)) else if j = 0 then nI (f0 - (f0 - n)) else S.1 (21 + 2 * p) j := fun j => by
            rw [← hS2, wr1_ne (by omega), wrL1, o7 _ (by omega), wrL1, v6]
          have uu : ∀ j, j ≤ 7 → S2.1 109 (66 + 11 * p + j) = S.1 109 (66 + 11 * p + j) := fun j hj => by
            rw [v109, if_neg (by omega), if_neg (by omega), if_neg (by omega)]
          have u8 : S2.1 109 (66 + 11 * p + 8) = nI (f0 - (f0 - n)) := by rw [v109, if_neg (by omega), if_neg (by omega), if_pos rfl]
          have u9 : S2.1 109 (66 + 11 * p + 9) = nI (f1 - (f1 - n)) := by rw [v109, if_neg (by omega), if_pos rfl]
          have u10 : S2.1 109 (66 + 11 * p + 10) = S.1 109 (66 + 11 * p + 10) - nI g := by rw [v109, if_pos rfl]
          unfold PlaceRel
          simp only [cc, dd, uu 0 (by decide), uu 1 (by decide), uu 2 (by decide), uu 3 (by decide), uu 4 (by decide), uu 5 (by decide), uu 6 (by decide), uu 7 (by decide), u8, u9, u10]
          simp (decide := true) only [if_true, if_false]
          refine ⟨r1, r2, r3, r4, r5, trivial, trivial, ?_⟩
          rcases r8 with q | q | q
          · exact absurd q.1 k0
          · exact absurd q.1 k5
          · obtain ⟨t1, t2, t3, t4, t5, t6, t7, t8, t9, t10, t11, t12, t13, f0', f1', ns, y1, y2, y3, y4, y5⟩ := q
            have hd49 := hH.2.1
            have ef0 : f0' = f0 := (nI_eq (by omega) b0).mp (y1.symm.trans g0)
            have ef1 : f1' = f1 := (nI_eq (by omega) b1).mp (y2.symm.trans g1)
            subst ef0 ef1
            refine Or.inr (Or.inr ⟨t1, t2, t3, t4, t5, t6, by rw [t7], t8, t9, ?_, t11, t12, t13, f0' - (f0' - n), f1' - (f1' - n), ns - g, rfl, rfl, ?_, by omega, by omega⟩)
            · intro k2
              obtain ⟨w1, w2⟩ := t10 k2
              refine ⟨w1, ?_⟩
              have : f1' = 0 := (nI_eq (by omega) (by decide)).mp (y2.symm.trans w2)
              subst this
              rw [show 0 - (0 - n) = 0 from by omega]; rfl
            · show S.1 109 (66 + 11 * p + 10) - nI g = _
              have y3' : S.1 109 (66 + 11 * p + 10) = nI ns := y3
              rw [y3', pk_sub (by omega)]
        · intro c hc hY
          rw [oS2 101 (by omega) (by omega) (by omega), oS2 104 (by omega) (by omega) (by omega), oS2 116 (by omega) (by omega) (by omega), oS2 108 (by omega) (by omega) (by omega)]
          refine hY.cong' hc (fun k hk6 => p109 k (by omega)) (fun q k hq hk3 => ?_) (p109 783 (by omega))
          rw [v109, if_neg (by omega), if_neg (by omega), if_neg (by omega)]
  · exact ⟨-1, (f_X6_finding (-1) S).2, (f_X7_found (-1) (f_X6_finding (-1) S).2).2, by simp only [f_X6_thin, h1, if_true, if_false]; rfl, by simp only [f_X7_thin, isPlace_eq, in_eq, h1, if_true, if_false]; rfl, hR.found _ _⟩
