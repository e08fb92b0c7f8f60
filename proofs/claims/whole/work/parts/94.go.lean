-- go: days one behind the other
def itF (F : St → Option St) : Nat → St → Option St
  | 0, S => some S
  | n + 1, S => (F S).bind (itF F n)
theorem itF_snoc (F : St → Option St) : ∀ (n : Nat) (S : St), itF F (n + 1) S = (itF F n S).bind F
  | 0, S => by
    show (F S).bind (fun T => some T) = F S
    cases F S <;> rfl
  | n + 1, S => by
    show (F S).bind (itF F (n + 1)) = ((F S).bind (itF F n)).bind F
    cases h : F S with
    | none => rfl
    | some T => exact itF_snoc F n T
theorem goC_run (K : Int32 → St → Option (Int32 × St)) (D : Nat) (hD : D ≤ 50) : ∀ (m j fuel : Nat) (T Sc : St), j + m = D → m < fuel → itF f_X0_doDay m T = some Sc → f_X6_go_L48 fuel K (nI D) (nI j) T = K (nI D) Sc
  | 0, j, fuel, T, Sc, hj, hf, hi => by
    cases fuel with
    | zero => omega
    | succ n =>
      have : j = D := by omega
      subst this
      cases hi
      have h1 : (nI j < nI j) = False := ltF (Nat.le_refl _) (by omega)
      simp only [f_X6_go_L48, h1, if_false]
  | m + 1, j, fuel, T, Sc, hj, hf, hi => by
    cases fuel with
    | zero => omega
    | succ n =>
      have h1 : (nI j < nI D) = True := ltT (by omega) (by omega)
      cases hd : f_X0_doDay T with
      | none => rw [itF, hd] at hi; cases hi
      | some T' =>
        rw [itF, hd] at hi
        simp only [f_X6_go_L48, h1, if_true, hd, Option.bind_some, nI_1]
        exact goC_run K D hD m (j + 1) n T' Sc (by omega) (by omega) hi
theorem goR_run (K : Int32 → St → Option (Int32 × St)) (n yr : Nat) (hn : n ≤ 50) : ∀ (m j fuel : Nat) (T Tm : St), j + m ≤ n → itF f_X7_day m T = some Tm → (∀ i U, i < m → itF f_X7_day i T = some U → U.1 109 784 = nI yr) → f_X7_go_L27 (fuel + m) K (nI n) (nI yr) (nI j) T = f_X7_go_L27 fuel K (nI n) (nI yr) (nI (j + m)) Tm
  | 0, j, fuel, T, Tm, hj, hi, hy => by cases hi; rfl
  | m + 1, j, fuel, T, Tm, hj, hi, hy => by
    have h1 : (nI j < nI n) = True := ltT (by omega) (by omega)
    have h2 : (rd T 109 784 = nI yr) = True := eq_true (hy 0 T (by omega) rfl)
    cases hd : f_X7_day T with
    | none => rw [itF, hd] at hi; cases hi
    | some T' =>
      rw [itF, hd] at hi
      show f_X7_go_L27 (fuel + m + 1) K (nI n) (nI yr) (nI j) T = _
      simp only [f_X7_go_L27, h1, if_true, ix_784, h2, hd, Option.bind_some, nI_1]
      rw [goR_run K n yr hn m (j + 1) fuel T' Tm (by omega) hi (fun i U hi' hU => hy (i + 1) U (by omega) (by show (f_X7_day T).bind (itF f_X7_day i) = _; rw [hd]; exact hU)), show j + 1 + m = j + (m + 1) from by omega]
/-- m days from a start that both share, none of them the year's last -/
theorem chain {cnt yr dn : Nat} {S0 R0 : St} (h : BookRel cnt yr dn (fun i => S0.1 (1 + i)) (S0.2 7) (R0.1 109) (R0.2 111)) (hy : yr ≤ 700) (hW : SeaC cnt (warmF R0) (R0.1 109) S0) (hw : RefW dn R0) : ∀ m, dn + m ≤ 49 → ∃ Sc Sr, itF f_X0_doDay m S0 = some Sc ∧ itF f_X7_day m R0 = some Sr ∧ BookRel cnt yr (dn + m) (fun i => Sc.1 (1 + i)) (Sc.2 7) (Sr.1 109) (Sr.2 111) ∧ SeaC cnt (warmF Sr) (Sr.1 109) Sc ∧ RefW (dn + m) Sr ∧ (∀ i, i = 0 ∨ 44 ≤ i → Sc.1 i = S0.1 i) ∧ (∀ i, i ≠ 7 → Sc.2 i = S0.2 i) ∧ (∀ i, i ≠ 109 → i ≠ 118 → i ≠ 119 → i ≠ 120 → Sr.1 i = R0.1 i) ∧ (∀ i, i ≠ 111 → Sr.2 i = R0.2 i) ∧ (∀ k, k < 66 → Sr.1 109 k = R0.1 109 k) ∧ (∀ p k, p < 12 → k < 8 → Sr.1 109 (66 + 11 * p + k) = R0.1 109 (66 + 11 * p + k)) ∧ Sr.1 109 783 = R0.1 109 783 ∧ Sr.1 109 784 = R0.1 109 784
  | 0, _ => ⟨S0, R0, rfl, rfl, h, hW, hw, fun _ _ => rfl, fun _ _ => rfl, fun _ _ _ _ _ => rfl, fun _ _ => rfl, fun _ _ => rfl, fun _ _ _ _ => rfl, rfl, rfl⟩
  | m + 1, hm => by
    obtain ⟨Sc, Sr, e1, e2, b, w1, w2, f1, f2, f3, f4, f5, f6, f7, f8⟩ := chain h hy hW hw m (by omega)
    obtain ⟨Sc', Sr', d1, d2, b', w1', w2', -, g1, g2, g3, g4, g5, g6, g7, g8⟩ := dayBoth b hy w1 w2
    rw [if_neg (by omega)] at d2
    refine ⟨Sc', Sr', by rw [itF_snoc, e1]; exact d1, by rw [itF_snoc, e2]; exact d2, b'.rel (by omega), w1', w2', fun i hi => (g1 i hi).trans (f1 i hi), fun i hi => (g2 i hi).trans (f2 i hi), fun i a b c d => (g3 i a b c d).trans (f3 i a b c d), fun i hi => (g4 i hi).trans (f4 i hi), fun k hk => (g5 k hk).trans (f5 k hk), fun p k a b => (g6 p k a b).trans (f6 p k a b), g7.trans f7, g8.trans f8⟩
theorem chain_year {cnt yr dn : Nat} {S0 R0 : St} (h : BookRel cnt yr dn (fun i => S0.1 (1 + i)) (S0.2 7) (R0.1 109) (R0.2 111)) (hy : yr ≤ 700) (hW : SeaC cnt (warmF R0) (R0.1 109) S0) (hw : RefW dn R0) : ∀ i U, dn + i ≤ 49 → itF f_X7_day i R0 = some U → U.1 109 784 = nI yr := by
  intro i U hi hU
  obtain ⟨Sc, Sr, e1, e2, b, -, -, -, -, -, -, -, -, -, g8⟩ := chain h hy hW hw i hi
  rw [e2] at hU
  cases hU
  rw [g8]; exact h.1.2.2.2.2.2.1
theorem sm_go (x : Int32) : Sm Rel (f_X6_go x) (f_X7_go x) := by
  intro B S hB hR
  by_cases h1 : f_X6_within x 1 50 = true
  · obtain ⟨n, n1, n50, rfl⟩ := within_nat (a := 1) (b := 50) (by decide) (by decide) h1
    obtain ⟨cnt, yr, dn, g1, g2, ⟨g3, g4⟩, g5, g6, g7⟩ := id hR
    have hH := g2.1
    have hdn := hH.2.1
    have hy : yr ≤ 700 := by omega
    have hcw := g2.clsW g5
    obtain ⟨S', e, hs⟩ := readYear_run hcw g2.srtN
    have h109 : S'.1 109 = S.1 109 := hs.1 109 (by omega)
    have hb' : BookRel cnt yr dn (fun i => S'.1 (1 + i)) (S'.2 7) (S'.1 109) (S'.2 111) := by
      rw [hs.2.1, h109]; exact g2.cong (fun i hi => hs.1 _ (by omega))
    have hw' : RefW dn S' := hcw.1.cong (fun i hi => hs.1 i (by omega))
    have hWf : warmF S' = warmF S := funext (fun k => warmF_cong (fun i hi => hs.1 i (by omega)) k)
    have hsea : SeaC cnt (warmF S) (S.1 109) S' := hs.c (fun d hd => warmF_le hcw.1 hd)
    -- a start of the reference: any state with its cells
    have start : ∀ R0 : St, (∀ i, 108 ≤ i → R0.1 i = S'.1 i) → R0.2 111 = S'.2 111 → BookRel cnt yr dn (fun i => S'.1 (1 + i)) (S'.2 7) (R0.1 109) (R0.2 111) ∧ SeaC cnt (warmF R0) (R0.1 109) S' ∧ RefW dn R0 := fun R0 r1 r2 => by
      have e1 : R0.1 109 = S'.1 109 := r1 109 (by decide)
      have e2 : warmF R0 = warmF S := by rw [← hWf]; exact funext (fun k => warmF_cong (fun i hi => r1 i (by omega)) k)
      refine ⟨by rw [e1, r2]; exact hb', by rw [e2, e1, h109]; exact hsea, hw'.cong (fun i hi => r1 i (by omega))⟩
    have h784 : ∀ R0 : St, (∀ i, 108 ≤ i → R0.1 i = S'.1 i) → rd R0 109 784 = nI yr := fun R0 r1 => by
      show R0.1 109 784 = _
      rw [r1 109 (by decide), h109]; exact hH.2.2.2.2.2.1
    have e5 : rd S' 1 5 = nI dn := by show S'.1 1 5 = _; rw [hs.1 1 (by omega)]; exact hH.2.2.2.2.2.2.1
    have emn : mnI (nI n) ((50 : Int32) - nI dn) = nI (min n (50 - dn)) := by
      rw [show (50 : Int32) = nI 50 from rfl, pk_sub (by omega), mn_nat (by omega) (by omega)]
    -- the end of it: what is related
    have fin : ∀ (Sc Sr : St) (yr' dn' : Nat), yr' ≤ B + 1 → BookRel cnt yr' dn' (fun i => Sc.1 (1 + i)) (Sc.2 7) (Sr.1 109) (Sr.2 111) → (∀ i, i = 0 ∨ 44 ≤ i → Sc.1 i = S'.1 i) → (∀ i, i ≠ 7 → Sc.2 i = S'.2 i) → (∀ i, i ≠ 109 → i ≠ 118 → i ≠ 119 → i ≠ 120 → Sr.1 i = Sc.1 i) → (∀ i, i ≠ 111 → Sr.2 i = Sc.2 i) → (∀ k, k < 66 → Sr.1 109 k = S'.1 109 k) → (∀ p k, p < 12 → k < 2 → Sr.1 109 (66 + 11 * p + k) = S'.1 109 (66 + 11 * p + k)) → (∀ p, p < 12 → (Sr.1 109 (66 + 11 * p + 2) = 1 ↔ S'.1 109 (66 + 11 * p + 2) = 1)) → Sr.1 109 783 = S'.1 109 783 → Rel (B + 1) Sr := by
      intro Sc Sr yr' dn' hy' hbk k1 k2 k3 k4 k5 k6 k7 k8
      have oS : ∀ i, i = 0 ∨ (44 ≤ i ∧ i ≤ 95) ∨ (101 ≤ i ∧ i ≤ 108) ∨ (110 ≤ i ∧ i ≤ 116) → Sr.1 i = S.1 i := fun i hi => by
        rw [k3 i (by omega) (by omega) (by omega) (by omega), k1 i (by omega), hs.1 i (by omega)]
      refine hR.booked (cnt := cnt) (yr := yr') (dn := dn') hy' ?_ ?_ (oS 0 (by omega)) (fun i a b => oS i (by omega)) (fun i a b => oS i (by omega)) (fun k _ => by rw [oS 108 (by omega)]) ?_ ?_ (oS 106 (by omega))
      · rw [k4 7 (by decide)]
        exact hbk.cong (fun i hi => k3 (1 + i) (by omega) (by omega) (by omega) (by omega))
      · rw [oS 101 (by omega), oS 104 (by omega), oS 116 (by omega), oS 108 (by omega)]
        exact g6.cong2 hH.1 (fun k hk => by rw [k5 k hk, h109]) (fun p k a b => by rw [k6 p k a b, h109]) (fun p hp => by rw [k7 p hp, h109]) (by rw [k8, h109])
      · rw [k4 50 (by decide), k2 50 (by decide), hs.2.1]
      · rw [k4 112 (by decide), k2 112 (by decide), hs.2.1]
    obtain ⟨b0, w0, r0⟩ := start S' (fun _ _ => rfl) rfl
    rcases Nat.lt_or_ge (dn + n) 50 with hcase | hcase
    · -- the year goes on
      obtain ⟨Sc, -, ec, -, -, -, -, f1, f2, -⟩ := chain b0 hy w0 r0 n (by omega)
      have hS1 : ∀ i, 108 ≤ i → Sc.1 i = S'.1 i := fun i hi => f1 i (by omega)
      obtain ⟨bA, wA, rA⟩ := start Sc hS1 (f2 111 (by decide))
      obtain ⟨Sc2, Sr, ec2, er, bk, -, -, -, -, a3, a4, a5, a6, a7, a8⟩ := chain bA hy wA rA n (by omega)
      rw [ec] at ec2
      cases ec2
      have hmn : min n (50 - dn) = n := by omega
      have hdc : rd Sc 1 5 = nI (dn + n) := bk.1.2.2.2.2.2.2.1
      have ldc : (nI (dn + n) < (50 : Int32)) = True := ltT (N := 50) hcase (by decide)
      refine ⟨nI n, Sc, Sr, ?_, ?_, ?_⟩
      · simp only [f_X6_go, h1, if_true, named_run hcw, e, Option.bind_some, e5, emn, hmn]
        rw [show (0 : Int32) = nI 0 from rfl, goC_run _ n n50 n 0 6000 S' Sc (by omega) (by omega) ec]
        simp only [hdc, ldc, if_true]
      · have hrun := goR_run (fun e54_3 T54 => (some (e54_3, T54))) n yr n50 n 0 (6000 - n) Sc Sr (by omega) er (fun i U hi hU => chain_year bA hy wA rA i U (by omega) hU)
        rw [show 6000 - n + n = 6000 from by omega] at hrun
        have last : ∀ m, f_X7_go_L27 (m + 1) (fun e54_3 T54 => (some (e54_3, T54))) (nI n) (nI yr) (nI (0 + n)) Sr = some (nI n, Sr) := fun m => by
          have l : (nI n < nI n) = False := ltF (Nat.le_refl _) (by omega)
          simp only [Nat.zero_add, f_X7_go_L27, l, if_false]
        have l2 := last (6000 - n - 1)
        rw [show 6000 - n - 1 + 1 = 6000 - n from by omega] at l2
        simp only [f_X7_go, in_eq, h1, if_true, ix_784, h784 Sc hS1]
        rw [show (0 : Int32) = nI 0 from rfl, hrun, l2]
      · exact fin Sc Sr yr (dn + n) (by omega) bk f1 f2 a3 a4 (fun k hk => by rw [a5 k hk, hS1 109 (by decide)]) (fun p k hp hk => by rw [a6 p k hp (by omega), hS1 109 (by decide)]) (fun p hp => by rw [a6 p 2 hp (by decide), hS1 109 (by decide)]) (by rw [a7, hS1 109 (by decide)])
    · -- the year ends
      obtain ⟨m, hm⟩ : ∃ m, dn + m = 49 := ⟨49 - dn, by omega⟩
      have hD : min n (50 - dn) = m + 1 := by omega
      obtain ⟨Sc, Sr, ec, er, bk, wk, rk, f1, f2, -⟩ := chain b0 hy w0 r0 m (by omega)
      obtain ⟨Sc', Sr', d1, -, bd, -, -, -, p1, p2, -⟩ := dayBoth bk hy wk rk
      rw [show dn + m + 1 = 50 from by omega] at bd
      obtain ⟨Sc'', -, y1, -, -, z1, z2, -⟩ := yearBoth bd hy
      have hS1 : ∀ i, i = 0 ∨ 44 ≤ i → Sc''.1 i = S'.1 i := fun i hi => by rw [z1 i hi, p1 i hi, f1 i hi]
      have hS2 : ∀ i, i ≠ 7 → Sc''.2 i = S'.2 i := fun i hi => by rw [z2 i hi, p2 i hi, f2 i hi]
      obtain ⟨bA, wA, rA⟩ := start Sc'' (fun i hi => hS1 i (by omega)) (hS2 111 (by decide))
      obtain ⟨Sc2, Sr2, ec2, er2, bk2, wk2, rk2, -, -, a3, a4, a5, a6, a7, a8⟩ := chain bA hy wA rA m (by omega)
      rw [ec] at ec2
      cases ec2
      obtain ⟨Sc3, Sr3, d3, d4, bd3, -, -, -, -, -, c3, c4, c5, c6, c7, c8⟩ := dayBoth bk2 hy wk2 rk2
      rw [d1] at d3
      cases d3
      rw [show dn + m + 1 = 50 from by omega] at bd3
      obtain ⟨Sc4, Sr4, y3, y4, bk4, -, -, x3, x4, x5, x6, x7, x8⟩ := yearBoth bd3 hy
      rw [y1] at y3
      cases y3
      rw [if_pos (by omega), y4] at d4
      have e784 : Sr4.1 109 784 = nI (yr + 1) := bk4.1.2.2.2.2.2.1
      refine ⟨nI (m + 1), Sc'', Sr4, ?_, ?_, ?_⟩
      · have hdc : rd Sc' 1 5 = nI 50 := bd.1.2.2.2.2.2.2.1
        have ldc : (nI 50 < (50 : Int32)) = False := ltF (N := 50) (by decide) (by decide)
        simp only [f_X6_go, h1, if_true, named_run hcw, e, Option.bind_some, e5, emn, hD]
        rw [show (0 : Int32) = nI 0 from rfl, goC_run _ (m + 1) (by omega) (m + 1) 0 6000 S' Sc' (by omega) (by omega) (by rw [itF_snoc, ec]; exact d1)]
        simp only [hdc, ldc, if_false, y1, Option.bind_some]
      · have hrun := goR_run (fun e54_3 T54 => (some (e54_3, T54))) n yr n50 (m + 1) 0 (6000 - (m + 1)) Sc'' Sr4 (by omega) (by rw [itF_snoc, er2]; exact d4) (fun i U hi hU => chain_year bA hy wA rA i U (by omega) hU)
        rw [show 6000 - (m + 1) + (m + 1) = 6000 from by omega] at hrun
        have last : ∀ k, f_X7_go_L27 (k + 1) (fun e54_3 T54 => (some (e54_3, T54))) (nI n) (nI yr) (nI (0 + (m + 1))) Sr4 = some (nI (m + 1), Sr4) := fun k => by
          have l2 : (rd Sr4 109 784 = nI yr) = False := eq_false (fun q => by
            have := (nI_eq (a := yr + 1) (b := yr) (by omega) (by omega)).mp (e784.symm.trans q)
            omega)
          simp only [Nat.zero_add, f_X7_go_L27, ix_784, l2, if_false]
          by_cases l : nI (m + 1) < nI n
          · rw [if_pos l]
          · rw [if_neg l]
        have l2 := last (6000 - (m + 1) - 1)
        rw [show 6000 - (m + 1) - 1 + 1 = 6000 - (m + 1) from by omega] at l2
        simp only [f_X7_go, in_eq, h1, if_true, ix_784, h784 Sc'' (fun i hi => hS1 i (by omega))]
        rw [show (0 : Int32) = nI 0 from rfl, hrun, l2]
      · refine fin Sc'' Sr4 (yr + 1) 0 (by omega) bk4 hS1 hS2 (fun i a b c d => by rw [x3 i a, c3 i a b c d, a3 i a b c d]) (fun i hi => by rw [x4 i hi, c4 i hi, a4 i hi]) (fun k hk => by rw [x5 k hk, c5 k hk, a5 k hk, hS1 109 (by omega)]) (fun p k hp hk => by rw [x6 p k hp hk, c6 p k hp (by omega), a6 p k hp (by omega), hS1 109 (by omega)]) (fun p hp => by rw [x7 p hp, c6 p 2 hp (by decide), a6 p 2 hp (by decide), hS1 109 (by omega)]) (by rw [x8, c7, a7, hS1 109 (by omega)])
  · exact ⟨-1, (f_X6_finding (-1) S).2, (f_X7_found (-1) (f_X6_finding (-1) S).2).2, by simp only [f_X6_go, h1, if_false]; rfl, by simp only [f_X7_go, in_eq, h1, if_false]; rfl, hR.found _ _⟩
