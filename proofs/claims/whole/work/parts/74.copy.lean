theorem hasRun_nat {t a m n : Nat} {S : St} (h : rd S t 1 = nI n) (hn : n ≤ 50) (ha : a < 2 ^ 31) (hm : m < 2 ^ 31) : f_X4_hasRun t (nI a) (nI m) S = decide (a + m ≤ n) := by
  unfold f_X4_hasRun
  rw [h, if_neg (nI_pos ha), if_neg (nI_pos hm)]
  by_cases q : n < m
  · rw [if_pos (nI_lt q hm)]; simp; omega
  · rw [if_neg (nI_nlt (by omega) (by omega)), pk_sub (by omega)]
    by_cases r : n - m < a
    · rw [if_pos (nI_lt r ha)]; simp; omega
    · rw [if_neg (nI_nlt (by omega) (by omega))]; simp; omega
theorem over_nat {a m n : Nat} (ha : a < 2 ^ 31) (hm : m < 2 ^ 31) (hn : n < 2 ^ 31) : (0 < lg_cmp ((nI a).toInt64 + (nI m).toInt64) ((nI n).toInt64)) = (n < a + m) := by
  apply propext
  rw [lg_cmp_gt, nI_l ha, nI_l hm, nI_l hn, lN_add]
  exact pk_lLT (by omega) (by omega)
theorem copy7_run1 (s a m : Nat) (c d : Int32) (S : St) (hs : s < 4) (ham : a + m ≤ 50) (K : Int32 → Int32 → Int32 → St → Option (Int32 × St)) : ∃ T, Fill S 117 0 (fun k => S.1 115 (50 * s + a + k)) m T ∧ f_X7_copy_L125 6000 K (nI s) (nI a) c d (nI m) 0 S = K c d (nI m) T := by
  have := loop_up (N := m) (fun n i T => f_X7_copy_L125 n K (nI s) (nI a) c d (nI m) i T) (K c d (nI m)) (fun j T => Fill S 117 0 (fun k => S.1 115 (50 * s + a + k)) j T) (fun n j T hj hP => by
    refine ⟨_, hP.step, ?_⟩
    have h1 : (nI j < nI m) = True := ltT hj (by omega)
    have h0 : (50 : Int32) * nI s + nI a + nI j = nI (50 * s + a + j) := by rw [show (50 : Int32) = nI 50 from rfl, pk_mul, nI_add, nI_add]
    have h2 : inb (nI (50 * s + a + j)) 200 = true := inb_nI (by omega) (by decide)
    have h2' : inb (nI j) 50 = true := inb_nI (by omega) (by decide)
    have h3 : ix (nI (50 * s + a + j)) = 50 * s + a + j := ix_nI (by omega)
    have h3' : ix (nI j) = j := ix_nI (by omega)
    have h4 : rd T 115 (50 * s + a + j) = S.1 115 (50 * s + a + j) := by show T.1 115 _ = _; rw [hP.1 115 (by decide)]
    simp only [f_X7_copy_L125, h1, h0, h2, h2', h3, h3', h4, nI_1, if_true, Nat.zero_add]) (fun n T hP => by
    have h1 : (nI m < nI m) = False := ltF (Nat.le_refl _) (by omega)
    simp only [f_X7_copy_L125, h1, if_false]) (fuel := 6000) (by omega) (Fill.zero S 117 0 _)
  rw [nI_0] at this
  exact this
theorem copy7_run2 (t b m : Nat) (S : St) (ht : t < 4) (hbm : b + m ≤ 50) (K : Int32 → St → Option (Int32 × St)) : ∃ T, Fill S 115 (50 * t + b) (S.1 117) m T ∧ f_X7_copy_L162 6000 K (nI t) (nI b) (nI m) 0 S = K (nI m) T := by
  have := loop_up (N := m) (fun n i T => f_X7_copy_L162 n K (nI t) (nI b) (nI m) i T) (K (nI m)) (fun j T => Fill S 115 (50 * t + b) (S.1 117) j T) (fun n j T hj hP => by
    refine ⟨_, hP.step, ?_⟩
    have h1 : (nI j < nI m) = True := ltT hj (by omega)
    have h0 : (50 : Int32) * nI t + nI b + nI j = nI (50 * t + b + j) := by rw [show (50 : Int32) = nI 50 from rfl, pk_mul, nI_add, nI_add]
    have h2 : inb (nI (50 * t + b + j)) 200 = true := inb_nI (by omega) (by decide)
    have h2' : inb (nI j) 50 = true := inb_nI (by omega) (by decide)
    have h3 : ix (nI (50 * t + b + j)) = 50 * t + b + j := ix_nI (by omega)
    have h3' : ix (nI j) = j := ix_nI (by omega)
    have h4 : rd T 117 j = S.1 117 j := by show T.1 117 _ = _; rw [hP.1 117 (by decide)]
    simp only [f_X7_copy_L162, h1, h0, h2, h2', h3, h3', h4, nI_1, if_true]) (fun n T hP => by
    have h1 : (nI m < nI m) = False := ltF (Nat.le_refl _) (by omega)
    simp only [f_X7_copy_L162, h1, if_false]) (fuel := 6000) (by omega) (Fill.zero S 115 (50 * t + b) _)
  rw [nI_0] at this
  exact this
theorem sm_copy (x fr y to n : Int32) : Sm Rel (f_X6_copy x fr y to n) (f_X7_copy x fr y to n) := by
  intro B S hB hR
  have fnd : ∀ c, f_X6_copy x fr y to n S = some ((f_X6_finding c S).1, (f_X6_finding c S).2) → f_X7_copy x fr y to n (f_X6_finding c S).2 = some ((f_X7_found c (f_X6_finding c S).2).1, (f_X7_found c (f_X6_finding c S).2).2) → ∃ (v : Int32) (S1 S2 : St), f_X6_copy x fr y to n S = some (v, S1) ∧ f_X7_copy x fr y to n S1 = some (v, S2) ∧ Rel (B + 1) S2 := fun c a b => ⟨c, _, _, a, b, hR.found _ _⟩
  by_cases h1 : f_X6_isSheet x = true
  · by_cases h2 : f_X6_isSheet y = true
    · obtain ⟨s, -, hs3, rfl⟩ := within_nat (a := 0) (b := 3) (by decide) (by decide) h1
      obtain ⟨t, -, ht3, rfl⟩ := within_nat (a := 0) (b := 3) (by decide) (by decide) h2
      have hs : s < 4 := by omega
      have ht : t < 4 := by omega
      have hSh : SheetRel S := by obtain ⟨_, _, _, _, _, _, q, _⟩ := hR; exact q
      obtain ⟨a1, a2, a3, ⟨ns, hns, a4, -⟩, a5⟩ := hSh s hs
      obtain ⟨b1, b2, b3, ⟨nt, hnt, b4, -⟩, b5⟩ := hSh t ht
      have hin : inb (nI s) 4 = true := inb_nI hs (by decide)
      have hix : ix (nI s) = s := ix_nI (by omega)
      have hin' : inb (nI t) 4 = true := inb_nI ht (by decide)
      have hix' : ix (nI t) = t := ix_nI (by omega)
      have ca1 : rd S (88 + 2 * s) 0 = rd S 113 s := a1
      have cb1 : rd S (88 + 2 * t) 0 = rd S 113 t := b1
      have eF : ∀ c k, rd (f_X6_finding c S).2 113 k = rd S 113 k := fun c k => fnd_rd c S (by decide)
      have eF4 : ∀ c, rd (f_X6_finding c S).2 114 s = nI ns := fun c => by rw [fnd_rd c S (by decide)]; exact a4
      have eF4' : ∀ c, rd (f_X6_finding c S).2 114 t = nI nt := fun c => by rw [fnd_rd c S (by decide)]; exact b4
      by_cases k0 : rd S 113 s = 0
      · have hmi : f_X4_isMissing (88 + 2 * s) S = true := by unfold f_X4_isMissing; rw [ca1, if_pos k0]
        exact fnd (-2) (by simp only [f_X6_copy, h1, h2, hin, hix, hin', hix', hmi, if_true]) (by simp only [f_X7_copy, isSheet_eq, h1, h2, hin, hix, hin', hix', eF, k0, if_true])
      have hmi : f_X4_isMissing (88 + 2 * s) S = false := by unfold f_X4_isMissing; rw [ca1, if_neg k0]
      by_cases j0 : rd S 113 t = 0
      · have hmj : f_X4_isMissing (88 + 2 * t) S = true := by unfold f_X4_isMissing; rw [cb1, if_pos j0]
        exact fnd (-2) (by simp only [f_X6_copy, h1, h2, hin, hix, hin', hix', hmi, hmj, if_true, if_false, Bool.false_eq_true]) (by simp only [f_X7_copy, isSheet_eq, h1, h2, hin, hix, hin', hix', eF, k0, j0, if_true, if_false])
      have hmj : f_X4_isMissing (88 + 2 * t) S = false := by unfold f_X4_isMissing; rw [cb1, if_neg j0]
      by_cases kk : rd S 113 s = rd S 113 t
      · have c7 : rd S (88 + 2 * s) 0 = rd S (88 + 2 * t) 0 := by rw [ca1, cb1, kk]
        have no : f_X4_hasRun (88 + 2 * s) fr n S = false ∨ f_X4_hasRun (88 + 2 * t) to n S = false → f_X6_copy (nI s) fr (nI t) to n S = some ((f_X6_finding (-1) S).1, (f_X6_finding (-1) S).2) := by
          intro hq
          by_cases u : f_X4_hasRun (88 + 2 * s) fr n S = true
          · have v : f_X4_hasRun (88 + 2 * t) to n S = false := by
              rcases hq with q | q
              · rw [q] at u; cases u
              · exact q
            simp only [f_X6_copy, h1, h2, hin, hix, hin', hix', hmi, hmj, c7, u, v, if_true, if_false, Bool.false_eq_true]
          · simp only [f_X6_copy, h1, h2, hin, hix, hin', hix', hmi, hmj, c7, u, if_true, if_false, Bool.false_eq_true]
        by_cases f0 : fr < 0
        · exact fnd (-1) (no (Or.inl (by simp only [f_X4_hasRun, f0, if_true]))) (by simp only [f_X7_copy, isSheet_eq, h1, h2, hin, hix, hin', hix', eF, k0, j0, kk, f0, if_true, if_false])
        by_cases t0 : to < 0
        · exact fnd (-1) (no (Or.inr (by simp only [f_X4_hasRun, t0, if_true]))) (by simp only [f_X7_copy, isSheet_eq, h1, h2, hin, hix, hin', hix', eF, k0, j0, kk, f0, t0, if_true, if_false])
        by_cases n0 : n < 0
        · exact fnd (-1) (no (Or.inl (by simp only [f_X4_hasRun, f0, n0, if_true, if_false]))) (by simp only [f_X7_copy, isSheet_eq, h1, h2, hin, hix, hin', hix', eF, k0, j0, kk, f0, t0, n0, if_true, if_false])
        obtain ⟨a, ha, rfl⟩ := nI_of f0
        obtain ⟨b, hb, rfl⟩ := nI_of t0
        obtain ⟨m, hm, rfl⟩ := nI_of n0
        have r1 := hasRun_nat (S := S) (t := 88 + 2 * s) (a3.trans a4) hns ha hm
        have r2 := hasRun_nat (S := S) (t := 88 + 2 * t) (b3.trans b4) hnt hb hm
        by_cases q1 : ns < a + m
        · have o1 : (0 < lg_cmp ((nI a).toInt64 + (nI m).toInt64) ((nI ns).toInt64)) = True := by rw [over_nat ha hm (by omega)]; exact eq_true q1
          exact fnd (-1) (no (Or.inl (by rw [r1]; simp; omega))) (by simp only [f_X7_copy, isSheet_eq, h1, h2, hin, hix, hin', hix', eF, eF4, k0, j0, kk, f0, t0, n0, o1, if_true, if_false])
        have o1 : (0 < lg_cmp ((nI a).toInt64 + (nI m).toInt64) ((nI ns).toInt64)) = False := by rw [over_nat ha hm (by omega)]; exact eq_false q1
        by_cases q2 : nt < b + m
        · have o2 : (0 < lg_cmp ((nI b).toInt64 + (nI m).toInt64) ((nI nt).toInt64)) = True := by rw [over_nat hb hm (by omega)]; exact eq_true q2
          exact fnd (-1) (no (Or.inr (by rw [r2]; simp; omega))) (by simp only [f_X7_copy, isSheet_eq, h1, h2, hin, hix, hin', hix', eF, eF4, eF4', k0, j0, kk, f0, t0, n0, o1, o2, if_true, if_false])
        have o2 : (0 < lg_cmp ((nI b).toInt64 + (nI m).toInt64) ((nI nt).toInt64)) = False := by rw [over_nat hb hm (by omega)]; exact eq_false q2
        have u1 : f_X4_hasRun (88 + 2 * s) (nI a) (nI m) S = true := by rw [r1]; simp; omega
        have u2 : f_X4_hasRun (88 + 2 * t) (nI b) (nI m) S = true := by rw [r2]; simp; omega
        have xa : ix (nI a) = a := ix_nI ha
        have xb : ix (nI b) = b := ix_nI hb
        have xm : ix (nI m) = m := ix_nI hm
        have cp : cpok (nI a) (nI b) (nI m) 50 50 = true := by
          unfold cpok
          rw [xa, xb, xm]
          simp only [f0, t0, n0, not_false_eq_true, decide_true, Bool.true_and]
          simp; omega
        have e89 : 88 + 2 * s + 1 = 89 + 2 * s := by omega
        have e89' : 88 + 2 * t + 1 = 89 + 2 * t := by omega
        have a6 : f_X6_copy (nI s) (nI a) (nI t) (nI b) (nI m) S = some (nI m, cpI S (89 + 2 * s) (89 + 2 * t) a b m) := by
          simp only [f_X6_copy, h1, h2, hin, hix, hin', hix', hmi, hmj, c7, u1, u2, cp, xa, xb, xm, e89, e89', if_true, if_false, Bool.false_eq_true]
        have oU : ∀ i, i ≠ 89 + 2 * t → (cpI S (89 + 2 * s) (89 + 2 * t) a b m).1 i = S.1 i := fun i hi => cp1_ne hi
        have vU : ∀ k, (cpI S (89 + 2 * s) (89 + 2 * t) a b m).1 (89 + 2 * t) k = va_cpy (S.1 (89 + 2 * s)) (S.1 (89 + 2 * t)) a b m k := fun k => by simp [cpI, upA]
        have lU : (cpI S (89 + 2 * s) (89 + 2 * t) a b m).2 = S.2 := rfl
        generalize hU : cpI S (89 + 2 * s) (89 + 2 * t) a b m = U at a6 oU vU lU
        obtain ⟨T, fT, eT⟩ := copy7_run1 s a m (nI t) (nI b) U hs (by omega) (fun e159_3 e159_4 e159_5 T159 => (f_X7_copy_L162 6000 (fun e197_5 T197 => (some (e197_5, T197))) e159_3 e159_4 e159_5 (0 : Int32) T159))
        obtain ⟨V, fV, eV⟩ := copy7_run2 t b m T ht (by omega) (fun e197_5 T197 => (some (e197_5, T197)))
        have w3 : ∀ k, rd U 113 k = rd S 113 k := fun k => by show U.1 113 k = _; rw [oU 113 (by omega)]; rfl
        have w4 : rd U 114 s = nI ns := by show U.1 114 s = _; rw [oU 114 (by omega)]; exact a4
        have w4' : rd U 114 t = nI nt := by show U.1 114 t = _; rw [oU 114 (by omega)]; exact b4
        have a7 : f_X7_copy (nI s) (nI a) (nI t) (nI b) (nI m) U = some (nI m, V) := by
          simp only [f_X7_copy, isSheet_eq, h1, h2, hin, hix, hin', hix', w3, w4, w4', k0, j0, kk, f0, t0, n0, o1, o2, if_true, if_false]
          rw [eT, eV]
        refine ⟨_, _, _, a6, a7, hR.sheeted ?_ ?_ ?_⟩
        · intro i hi
          rw [fV.1 i (by omega), fT.1 i (by omega), oU i (by omega)]
        · rw [fV.2.1, fT.2.1, lU]
        · intro hS u hu
          obtain ⟨q1', q2', q3', q4', q5'⟩ := hS u hu
          have oV : ∀ i, i ≠ 115 → i ≠ 117 → i ≠ 89 + 2 * t → V.1 i = S.1 i := fun i x y z => by rw [fV.1 i x, fT.1 i y, oU i z]
          rw [oV (88 + 2 * u) (by omega) (by omega) (by omega), oV 113 (by omega) (by omega) (by omega), oV 114 (by omega) (by omega) (by omega)]
          refine ⟨q1', q2', q3', q4', fun i hi => ?_⟩
          have T115 : ∀ k, T.1 115 k = S.1 115 k := fun k => by rw [fT.1 115 (by decide), oU 115 (by omega)]
          by_cases eu : u = t
          · subst eu
            rw [fV.1 _ (by omega), fT.1 _ (by omega), vU]
            by_cases r : b ≤ i ∧ i < b + m
            · rw [pk_cpy_in r.1 r.2]
              have e1 := fV.at (k := i - b) (by omega)
              have e2 := fT.at (k := i - b) (by omega)
              rw [Nat.zero_add] at e2
              rw [show 50 * u + b + (i - b) = 50 * u + i from by omega] at e1
              rw [e1, e2, oU 115 (by omega), show 50 * s + a + (i - b) = 50 * s + (a + (i - b)) from by omega]
              exact a5 _ (by omega)
            · rw [pk_cpy_out (by omega), fV.out (by omega), T115]
              exact q5' i hi
          · rw [oV (89 + 2 * u) (by omega) (by omega) (by omega), fV.out (by omega), T115]
            exact q5' i hi
      · have c7 : ¬ rd S (88 + 2 * s) 0 = rd S (88 + 2 * t) 0 := by rw [ca1, cb1]; exact kk
        exact fnd (-4) (by simp only [f_X6_copy, h1, h2, hin, hix, hin', hix', hmi, hmj, c7, if_true, if_false, Bool.false_eq_true]) (by simp only [f_X7_copy, isSheet_eq, h1, h2, hin, hix, hin', hix', eF, k0, j0, kk, if_true, if_false])
    · exact fnd (-1) (by simp only [f_X6_copy, h1, h2, if_true, if_false, Bool.false_eq_true]) (by simp only [f_X7_copy, isSheet_eq, h1, h2, if_true, if_false, Bool.false_eq_true])
  · exact fnd (-1) (by simp only [f_X6_copy, h1, if_false, Bool.false_eq_true]) (by simp only [f_X7_copy, isSheet_eq, h1, if_false, Bool.false_eq_true])
