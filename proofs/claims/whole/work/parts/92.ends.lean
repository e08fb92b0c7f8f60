-- the end of a year
def EndC (A : Nat → Int32) (S U : St) (p : Nat) : Prop := U.1 (20 + 2 * p) 0 = S.1 (20 + 2 * p) 0 ∧ U.1 (20 + 2 * p) 1 = S.1 (20 + 2 * p) 1 ∧ (TrA A p → (∀ k, 2 ≤ k → k ≤ 5 → U.1 (20 + 2 * p) k = S.1 (20 + 2 * p) k) ∧ U.1 (20 + 2 * p) 6 = mnI 9 (S.1 (20 + 2 * p) 6 + 1) ∧ U.1 (20 + 2 * p) 7 = S.1 (20 + 2 * p) 9 ∧ U.1 (20 + 2 * p) 9 = 0 ∧ U.1 (21 + 2 * p) 0 = 0 ∧ U.1 (21 + 2 * p) 1 = 0) ∧ (A (66 + 11 * p + 2) = 5 → U.1 (20 + 2 * p) 2 = (if S.1 (20 + 2 * p) 8 - 1 = 0 then 0 else 5) ∧ U.1 (20 + 2 * p) 8 = S.1 (20 + 2 * p) 8 - 1 ∧ U.1 (21 + 2 * p) 0 = 0 ∧ U.1 (21 + 2 * p) 1 = 0) ∧ (A (66 + 11 * p + 2) = 0 → U.1 (20 + 2 * p) = S.1 (20 + 2 * p) ∧ U.1 (21 + 2 * p) = S.1 (21 + 2 * p))
theorem endYear2_run {A : Nat → Int32} {S : St} {p : Nat} (hk : S.1 (20 + 2 * p) 2 = A (66 + 11 * p + 2)) (hks : A (66 + 11 * p + 2) = 0 ∨ A (66 + 11 * p + 2) = 1 ∨ A (66 + 11 * p + 2) = 2 ∨ A (66 + 11 * p + 2) = 3 ∨ A (66 + 11 * p + 2) = 4 ∨ A (66 + 11 * p + 2) = 5) : ∃ T, f_X2_endYear (20 + 2 * p) S = some T ∧ (∀ i, i ≠ 20 + 2 * p → i ≠ 21 + 2 * p → T.1 i = S.1 i) ∧ T.2 = S.2 ∧ EndC A S T p := by
  have hk' : rd S (20 + 2 * p) 2 = A (66 + 11 * p + 2) := hk
  have e21 : 20 + 2 * p + 1 = 21 + 2 * p := by omega
  by_cases k0 : A (66 + 11 * p + 2) = 0
  · have ht := isTree_no hk' (Or.inl k0)
    have n5 : ¬ rd S (20 + 2 * p) 2 = 5 := by rw [hk', k0]; decide
    refine ⟨S, by simp only [f_X2_endYear, ht, Bool.false_eq_true, if_false, n5], fun _ _ _ => rfl, rfl, rfl, rfl, fun t => ?_, fun t => ?_, fun _ => ⟨rfl, rfl⟩⟩
    · unfold TrA at t; rw [k0] at t; exact absurd t (by decide)
    · rw [k0] at t; exact absurd t (by decide)
  · by_cases k5 : A (66 + 11 * p + 2) = 5
    · have ht := isTree_no hk' (Or.inr k5)
      have n5 : rd S (20 + 2 * p) 2 = 5 := by rw [hk', k5]
      obtain ⟨T, e1, a1, a2, c0, c1, c2, c8, d0, d1⟩ := becomeGap_run (20 + 2 * p) (rd S (20 + 2 * p) 8 - 1) S
      rw [e21] at d0 d1
      refine ⟨T, by simp only [f_X2_endYear, ht, Bool.false_eq_true, if_false, n5, if_true, e1, Option.bind_some], fun i x y => a1 i x (by omega), a2, c0, c1, fun t => ?_, fun _ => ⟨c2, c8, d0, d1⟩, fun t => absurd t k0⟩
      unfold TrA at t; rw [k5] at t; exact absurd t (by decide)
    · have htr : A (66 + 11 * p + 2) = 1 ∨ A (66 + 11 * p + 2) = 2 ∨ A (66 + 11 * p + 2) = 3 ∨ A (66 + 11 * p + 2) = 4 := by
        rcases hks with q | q | q | q | q | q
        · exact absurd q k0
        · exact Or.inl q
        · exact Or.inr (Or.inl q)
        · exact Or.inr (Or.inr (Or.inl q))
        · exact Or.inr (Or.inr (Or.inr q))
        · exact absurd q k5
      have ht := isTree_yes hk' htr
      have r6 : rd (wr (wr S (20 + 2 * p) 7 (rd S (20 + 2 * p) 9)) (20 + 2 * p) 9 0) (20 + 2 * p) 6 = S.1 (20 + 2 * p) 6 := by
        show (wr (wr S (20 + 2 * p) 7 (rd S (20 + 2 * p) 9)) (20 + 2 * p) 9 0).1 (20 + 2 * p) 6 = _
        rw [wr1_eq, if_neg (by decide), wr1_eq, if_neg (by decide)]
      refine ⟨wr (wr (wr (wr (wr S (20 + 2 * p) 7 (rd S (20 + 2 * p) 9)) (20 + 2 * p) 9 0) (20 + 2 * p) 6 (mnI 9 (S.1 (20 + 2 * p) 6 + 1))) (21 + 2 * p) 0 0) (21 + 2 * p) 1 0, by simp only [f_X2_endYear, ht, if_true, f_X2_clearFruits, r6, ix_0, ix_1, e21, Option.bind_some], fun i x y => by rw [wr1_ne y, wr1_ne y, wr1_ne x, wr1_ne x, wr1_ne x], rfl, ?_, ?_, fun _ => ⟨fun k x y => ?_, ?_, ?_, ?_, ?_, ?_⟩, fun t => absurd t k5, fun t => absurd t k0⟩
      · rw [wr1_ne (by omega), wr1_ne (by omega), wr1_eq, if_neg (by decide), wr1_eq, if_neg (by decide), wr1_eq, if_neg (by decide)]
      · rw [wr1_ne (by omega), wr1_ne (by omega), wr1_eq, if_neg (by decide), wr1_eq, if_neg (by decide), wr1_eq, if_neg (by decide)]
      · rw [wr1_ne (by omega), wr1_ne (by omega), wr1_eq, if_neg (by omega), wr1_eq, if_neg (by omega), wr1_eq, if_neg (by omega)]
      · rw [wr1_ne (by omega), wr1_ne (by omega), wr1_eq, if_pos rfl]
      · rw [wr1_ne (by omega), wr1_ne (by omega), wr1_eq, if_neg (by decide), wr1_eq, if_neg (by decide), wr1_eq, if_pos rfl]; rfl
      · rw [wr1_ne (by omega), wr1_ne (by omega), wr1_eq, if_neg (by decide), wr1_eq, if_pos rfl]
      · rw [wr1_eq, if_neg (by decide), wr1_eq, if_pos rfl]
      · rw [wr1_eq, if_pos rfl]
theorem EndC.cong {A : Nat → Int32} {S S' U U' : St} {p : Nat} (h : EndC A S U p) (e1 : U'.1 (20 + 2 * p) = U.1 (20 + 2 * p)) (e2 : U'.1 (21 + 2 * p) = U.1 (21 + 2 * p)) (e3 : S'.1 (20 + 2 * p) = S.1 (20 + 2 * p)) (e4 : S'.1 (21 + 2 * p) = S.1 (21 + 2 * p)) : EndC A S' U' p := by
  unfold EndC at h ⊢
  rw [e1, e2, e3, e4]; exact h
theorem endYearC {A : Nat → Int32} {S : St} {yr : Nat} {g : Nat → Nat} (hks : ∀ p, p < 12 → S.1 (20 + 2 * p) 2 = A (66 + 11 * p + 2) ∧ (A (66 + 11 * p + 2) = 0 ∨ A (66 + 11 * p + 2) = 1 ∨ A (66 + 11 * p + 2) = 2 ∨ A (66 + 11 * p + 2) = 3 ∨ A (66 + 11 * p + 2) = 4 ∨ A (66 + 11 * p + 2) = 5)) (h4 : S.1 1 4 = nI yr) (hg : ∀ p q, p < 12 → q < 2 → S.1 (21 + 2 * p) q = nI (g (2 * p + q))) (hb : ∀ k, k < 24 → g k ≤ 30000) : ∃ S', f_X0_endYear S = some S' ∧ (∀ i, i ≠ 1 → i ≠ 6 → (i < 20 ∨ 44 ≤ i) → S'.1 i = S.1 i) ∧ (∀ i, i ≠ 7 → S'.2 i = S.2 i) ∧ (∀ k, S'.2 7 k = if k = 4 then S.2 7 4 + lN (fb_sum g 24) else S.2 7 k) ∧ (∀ k, S'.1 1 k = if k = 5 then 0 else if k = 4 then nI (yr + 1) else if k = 10 then -1 else S.1 1 k) ∧ (∀ k, k < 50 → S'.1 6 k = 0) ∧ ∀ p, p < 12 → EndC A S S' p := by
  have eT := onTrees_run g hg
  have hsum := fb_bound (f := g) (n := 24) hb
  have el : (nI (fb_sum g 24)).toInt64 = lN (fb_sum g 24) := nI_l (by omega)
  have ix4 : ix (4 : Int32) = 4 := rfl
  unfold f_X0_endYear
  simp only [eT, Option.bind_some, el, ix4]
  generalize hS1 : wrL S 7 4 (rdL S 7 4 + lN (fb_sum g 24)) = S1
  have o1 : S1.1 = S.1 := by rw [← hS1]; rfl
  have L1 : ∀ K : St → Option St, ∃ T, ((∀ i, i < 20 ∨ 44 ≤ i → T.1 i = S.1 i) ∧ T.2 = S1.2 ∧ ∀ p, p < 12 → EndC A S T p) ∧ f_X0_endYear_L16 6000 K 0 S1 = K T := by
    intro K
    have := loop_up (N := 12) (fun n i T => f_X0_endYear_L16 n K i T) K (fun j T => (∀ i, i < 20 + 2 * 0 ∨ 44 ≤ i ∨ 20 + 2 * j ≤ i → T.1 i = S.1 i) ∧ T.2 = S1.2 ∧ ∀ p, p < j → EndC A S T p) (fun n j T hj hP => by
      obtain ⟨p1, p2, p3⟩ := hP
      have h1 : (nI j < (12 : Int32)) = True := ltT hj (by decide)
      have hin : inb (nI j) 12 = true := inb_nI hj (by decide)
      have hix : ix (nI j) = j := ix_nI (by omega)
      have eS0 : T.1 (20 + 2 * j) = S.1 (20 + 2 * j) := p1 _ (by omega)
      have eS1 : T.1 (21 + 2 * j) = S.1 (21 + 2 * j) := p1 _ (by omega)
      obtain ⟨T', e, a, b, c⟩ := endYear2_run (A := A) (S := T) (p := j) (by rw [eS0]; exact (hks j hj).1) (hks j hj).2
      refine ⟨T', ⟨fun i hi => by rw [a i (by omega) (by omega)]; exact p1 i (by omega), b.trans p2, fun p hp => ?_⟩, by simp only [f_X0_endYear_L16, h1, hin, hix, if_true, e, Option.bind_some, nI_1]⟩
      by_cases ep : p = j
      · subst ep; exact c.cong rfl rfl eS0.symm eS1.symm
      · exact (p3 p (by omega)).cong (a _ (by omega) (by omega)) (a _ (by omega) (by omega)) rfl rfl) (fun n T hP => by
      have h1 : (nI 12 < (12 : Int32)) = False := ltF (N := 12) (by decide) (by decide)
      simp only [f_X0_endYear_L16, h1, if_false]) (fuel := 6000) (T := S1) (by decide) ⟨fun i _ => by rw [o1], rfl, fun p hp => absurd hp (by omega)⟩
    rw [nI_0] at this
    obtain ⟨T, ⟨p1, p2, p3⟩, e⟩ := this
    exact ⟨T, ⟨fun i hi => p1 i (by omega), p2, p3⟩, e⟩
  obtain ⟨T, ⟨t1, t2, t3⟩, e1⟩ := L1 (fun T37 => (f_X0_endYear_L39 6000 (fun T58 => (some (wr (wr (wr T58 1 10 (-1 : Int32)) 1 4 ((rd (wr T58 1 10 (-1 : Int32)) 1 4) + (1 : Int32))) 1 5 (0 : Int32)))) (0 : Int32) T37))
  rw [e1]
  have L2 := loop_up (N := 50) (fun n i U => f_X0_endYear_L39 n (fun T58 => (some (wr (wr (wr T58 1 10 (-1 : Int32)) 1 4 ((rd (wr T58 1 10 (-1 : Int32)) 1 4) + (1 : Int32))) 1 5 (0 : Int32)))) i U) (fun T58 => (some (wr (wr (wr T58 1 10 (-1 : Int32)) 1 4 ((rd (wr T58 1 10 (-1 : Int32)) 1 4) + (1 : Int32))) 1 5 (0 : Int32)))) (fun j U => Fill T 6 0 (fun _ => 0) j U) (fun n j U hj hP => by
    refine ⟨_, hP.step, ?_⟩
    have h1 : (nI j < (50 : Int32)) = True := ltT hj (by decide)
    have h2 : inb (nI j) 50 = true := inb_nI hj (by decide)
    have h3 : ix (nI j) = 0 + j := by rw [ix_nI (by omega)]; omega
    simp only [f_X0_endYear_L39, h1, h2, h3, nI_1, if_true]) (fun n U hP => by
    have h1 : (nI 50 < (50 : Int32)) = False := ltF (N := 50) (by decide) (by decide)
    simp only [f_X0_endYear_L39, h1, if_false]) (fuel := 6000) (by decide) (Fill.zero T 6 0 (fun _ => 0))
  rw [nI_0] at L2
  obtain ⟨U, fU, e2⟩ := L2
  rw [e2]
  have u4 : rd (wr U 1 10 (-1)) 1 4 = nI yr := by
    show (wr U 1 10 (-1)).1 1 4 = _
    rw [wr1_eq, if_neg (by decide), fU.1 1 (by decide), t1 1 (by omega)]; exact h4
  rw [u4, nI_1]
  refine ⟨_, rfl, fun i a b c => ?_, fun i hi => ?_, fun k => ?_, fun k => ?_, fun k hk => ?_, fun p hp => ?_⟩
  · rw [wr1_ne a, wr1_ne a, wr1_ne a, fU.1 i b, t1 i c]
  · show U.2 i = _; rw [fU.2.1, t2, ← hS1, wrL2_ne hi]
  · show U.2 7 k = _; rw [fU.2.1, t2, ← hS1, wrL2_eq]; rfl
  · rw [wr1_eq, wr1_eq, wr1_eq, fU.1 1 (by decide), t1 1 (by omega)]
  · rw [wr1_ne (by decide), wr1_ne (by decide), wr1_ne (by decide)]
    have := fU.at (k := k) hk
    rw [Nat.zero_add] at this; exact this
  · refine (t3 p hp).cong ?_ ?_ rfl rfl
    · rw [wr1_ne (by omega), wr1_ne (by omega), wr1_ne (by omega), fU.1 _ (by omega)]
    · rw [wr1_ne (by omega), wr1_ne (by omega), wr1_ne (by omega), fU.1 _ (by omega)]
def EndR (a u : Nat → Int32) : Prop := u 0 = a 0 ∧ u 1 = a 1 ∧ ((a 2 = 1 ∨ a 2 = 2 ∨ a 2 = 3 ∨ a 2 = 4) → (∀ k, 2 ≤ k → k ≤ 5 → u k = a k) ∧ u 6 = (if a 6 < 9 then a 6 + 1 else 9) ∧ u 7 = a 10 ∧ u 8 = 0 ∧ u 9 = 0 ∧ u 10 = 0) ∧ (a 2 = 5 → u 2 = (if a 3 - 1 = 0 then 0 else 5) ∧ u 3 = a 3 - 1 ∧ u 8 = a 8 ∧ u 9 = a 9) ∧ (a 2 = 0 → ∀ k, k ≤ 10 → u k = a k)
theorem endsR {S : St} {yr : Nat} {g : Nat → Nat} (hks : ∀ p, p < 12 → (S.1 109 (66 + 11 * p + 2) = 0 ∨ S.1 109 (66 + 11 * p + 2) = 1 ∨ S.1 109 (66 + 11 * p + 2) = 2 ∨ S.1 109 (66 + 11 * p + 2) = 3 ∨ S.1 109 (66 + 11 * p + 2) = 4 ∨ S.1 109 (66 + 11 * p + 2) = 5)) (h4 : S.1 109 784 = nI yr) (hg : ∀ p q, p < 12 → q < 2 → S.1 109 (66 + 11 * p + (8 + q)) = nI (g (2 * p + q))) (hb : ∀ k, k < 24 → g k ≤ 30000) (hz : ∀ p, p < 12 → (S.1 109 (66 + 11 * p + 2) = 0 ∨ S.1 109 (66 + 11 * p + 2) = 5) → g (2 * p) = 0 ∧ g (2 * p + 1) = 0) : ∃ S', f_X7_ends S = some S' ∧ (∀ i, i ≠ 109 → S'.1 i = S.1 i) ∧ (∀ i, i ≠ 111 → S'.2 i = S.2 i) ∧ (∀ k, S'.2 111 k = if k = 4 then S.2 111 4 + lN (fb_sum g 24) else S.2 111 k) ∧ (∀ k, k < 66 ∨ (198 ≤ k ∧ k < 582) ∨ (732 ≤ k ∧ k ≠ 784 ∧ k ≠ 785 ∧ k ≠ 786) → S'.1 109 k = S.1 109 k) ∧ S'.1 109 784 = nI (yr + 1) ∧ S'.1 109 785 = 0 ∧ S'.1 109 786 = -1 ∧ (∀ k, 582 ≤ k → k < 732 → S'.1 109 k = 0) ∧ ∀ p, p < 12 → EndR (fun k => S.1 109 (66 + 11 * p + k)) (fun k => S'.1 109 (66 + 11 * p + k)) := by
  have L1 : ∀ K : St → Option St, ∃ T, ((∀ i, i ≠ 109 → T.1 i = S.1 i) ∧ (∀ k, k < 66 ∨ 198 ≤ k → T.1 109 k = S.1 109 k) ∧ (∀ i, i ≠ 111 → T.2 i = S.2 i) ∧ (∀ k, T.2 111 k = if k = 4 then S.2 111 4 + lN (fb_sum (fun p => g (2 * p) + g (2 * p + 1)) 12) else S.2 111 k) ∧ ∀ p, p < 12 → EndR (fun k => S.1 109 (66 + 11 * p + k)) (fun k => T.1 109 (66 + 11 * p + k))) ∧ f_X7_ends_L2 6000 K 0 S = K T := by
    intro K
    have := loop_up (N := 12) (fun n i T => f_X7_ends_L2 n K i T) K (fun j T => (∀ i, i ≠ 109 → T.1 i = S.1 i) ∧ (∀ k, k < 66 ∨ 66 + 11 * j ≤ k → T.1 109 k = S.1 109 k) ∧ (∀ i, i ≠ 111 → T.2 i = S.2 i) ∧ (∀ k, T.2 111 k = if k = 4 then S.2 111 4 + lN (fb_sum (fun p => g (2 * p) + g (2 * p + 1)) j) else S.2 111 k) ∧ ∀ p, p < j → EndR (fun k => S.1 109 (66 + 11 * p + k)) (fun k => T.1 109 (66 + 11 * p + k))) (fun n j T hj hP => by
      obtain ⟨p1, p2, p3, p4, p5⟩ := hP
      have h1 : (nI j < (12 : Int32)) = True := ltT hj (by decide)
      have eT : ∀ k, k < 11 → rd T 109 (66 + 11 * j + k) = S.1 109 (66 + 11 * j + k) := fun k hk => p2 _ (by omega)
      have fin : ∀ U : St, (∀ i, i ≠ 109 → U.1 i = T.1 i) → (∀ k, k < 66 + 11 * j ∨ 66 + 11 * j + 10 < k → U.1 109 k = T.1 109 k) → (∀ i, i ≠ 111 → U.2 i = T.2 i) → (∀ k, U.2 111 k = if k = 4 then T.2 111 4 + lN (g (2 * j) + g (2 * j + 1)) else T.2 111 k) → EndR (fun k => S.1 109 (66 + 11 * j + k)) (fun k => U.1 109 (66 + 11 * j + k)) → ((∀ i, i ≠ 109 → U.1 i = S.1 i) ∧ (∀ k, k < 66 ∨ 66 + 11 * (j + 1) ≤ k → U.1 109 k = S.1 109 k) ∧ (∀ i, i ≠ 111 → U.2 i = S.2 i) ∧ (∀ k, U.2 111 k = if k = 4 then S.2 111 4 + lN (fb_sum (fun p => g (2 * p) + g (2 * p + 1)) (j + 1)) else S.2 111 k) ∧ ∀ p, p < j + 1 → EndR (fun k => S.1 109 (66 + 11 * p + k)) (fun k => U.1 109 (66 + 11 * p + k))) := by
        intro U u1 u2 u3 u4 u5
        refine ⟨fun i hi => by rw [u1 i hi, p1 i hi], fun k hk => by rw [u2 k (by omega), p2 k (by omega)], fun i hi => by rw [u3 i hi, p3 i hi], fun k => ?_, fun p hp => ?_⟩
        · rw [u4 k]
          by_cases e : k = 4
          · rw [if_pos e, if_pos e, p4 4, if_pos rfl, l_assoc, lN_add, fb_sum]
          · rw [if_neg e, if_neg e, p4 k, if_neg e]
        · by_cases e : p = j
          · subst e; exact u5
          · have := p5 p (by omega)
            have ee : (fun k => U.1 109 (66 + 11 * p + k)) = fun k => if k ≤ 10 then T.1 109 (66 + 11 * p + k) else U.1 109 (66 + 11 * p + k) := funext (fun k => by
              by_cases l : k ≤ 10
              · rw [if_pos l, u2 _ (by omega)]
              · rw [if_neg l])
            rw [ee]
            obtain ⟨w1, w2, w3, w4, w5⟩ := this
            refine ⟨w1, w2, fun t => ?_, fun t => ?_, fun t k hk => ?_⟩
            · obtain ⟨y1, y2⟩ := w3 t
              exact ⟨fun k a b => by show (if k ≤ 10 then _ else _) = _; rw [if_pos (by omega)]; exact y1 k a b, y2⟩
            · exact w4 t
            · show (if k ≤ 10 then _ else _) = _
              rw [if_pos hk]; exact w5 t k hk
      have tot0 : g (2 * j) = 0 ∧ g (2 * j + 1) = 0 → ∀ k, T.2 111 k = if k = 4 then T.2 111 4 + lN (g (2 * j) + g (2 * j + 1)) else T.2 111 k := fun ⟨z0, z1⟩ k => by
        by_cases e : k = 4
        · rw [if_pos e, z0, z1, e]; exact (l_zero _).symm
        · rw [if_neg e]
      by_cases k5 : S.1 109 (66 + 11 * j + 2) = 5
      · have zz := hz j hj (Or.inr k5)
        have e3 : f_X7_get (nI j) 3 T = some (S.1 109 (66 + 11 * j + 3)) := by rw [get_3 hj, eT 3 (by decide)]
        have ek : f_X7_get (nI j) 2 T = some 5 := by rw [get_k hj, eT 2 (by decide), k5]
        by_cases g0 : S.1 109 (66 + 11 * j + 3) - 1 = 0
        · refine ⟨wr (wr T 109 (66 + 11 * j + 3) 0) 109 (66 + 11 * j + 2) 0, fin _ (fun i hi => by rw [wr1_ne hi, wr1_ne hi]) (fun k hk => by rw [wr1_eq, if_neg (by omega), wr1_eq, if_neg (by omega)]) (fun i _ => rfl) (tot0 zz) ?_, ?_⟩
          · have v : ∀ k, k ≤ 10 → (wr (wr T 109 (66 + 11 * j + 3) 0) 109 (66 + 11 * j + 2) 0).1 109 (66 + 11 * j + k) = if k = 2 then 0 else if k = 3 then 0 else S.1 109 (66 + 11 * j + k) := fun k hk => by
              rw [wr1_eq, wr1_eq]
              by_cases c2 : k = 2
              · rw [if_pos (by omega), if_pos c2]
              · by_cases c3 : k = 3
                · rw [if_neg (by omega), if_pos (by omega), if_neg c2, if_pos c3]
                · rw [if_neg (by omega), if_neg (by omega), if_neg c2, if_neg c3]; exact eT k (by omega)
            refine ⟨v 0 (by decide), v 1 (by decide), fun t => ?_, fun _ => ⟨?_, ?_, v 8 (by decide), v 9 (by decide)⟩, fun t => ?_⟩
            · simp only [k5] at t; exact absurd t (by decide)
            · rw [if_pos g0]; exact v 2 (by decide)
            · show _ = S.1 109 (66 + 11 * j + 3) - 1
              rw [g0]; exact v 3 (by decide)
            · simp only [k5] at t; exact absurd t (by decide)
          · have r3 : f_X7_get (nI j) 3 (wr T 109 (66 + 11 * j + 3) 0) = some 0 := by
              rw [get_3 hj]; show some ((wr T 109 (66 + 11 * j + 3) 0).1 109 (66 + 11 * j + 3)) = _; rw [wr1_eq, if_pos rfl]
            simp only [f_X7_ends_L2, h1, if_true, ek, e3, Option.bind_some, g0, lay_3 hj, r3, lay_2 hj, nI_1]
        · refine ⟨wr T 109 (66 + 11 * j + 3) (S.1 109 (66 + 11 * j + 3) - 1), fin _ (fun i hi => by rw [wr1_ne hi]) (fun k hk => by rw [wr1_eq, if_neg (by omega)]) (fun i _ => rfl) (tot0 zz) ?_, ?_⟩
          · have v : ∀ k, k ≤ 10 → (wr T 109 (66 + 11 * j + 3) (S.1 109 (66 + 11 * j + 3) - 1)).1 109 (66 + 11 * j + k) = if k = 3 then S.1 109 (66 + 11 * j + 3) - 1 else S.1 109 (66 + 11 * j + k) := fun k hk => by
              rw [wr1_eq]
              by_cases c3 : k = 3
              · rw [if_pos (by omega), if_pos c3]
              · rw [if_neg (by omega), if_neg c3]; exact eT k (by omega)
            refine ⟨v 0 (by decide), v 1 (by decide), fun t => ?_, fun _ => ⟨?_, v 3 (by decide), v 8 (by decide), v 9 (by decide)⟩, fun t => ?_⟩
            · simp only [k5] at t; exact absurd t (by decide)
            · rw [if_neg g0, ← k5]; exact v 2 (by decide)
            · simp only [k5] at t; exact absurd t (by decide)
          · have r3 : f_X7_get (nI j) 3 (wr T 109 (66 + 11 * j + 3) (S.1 109 (66 + 11 * j + 3) - 1)) = some (S.1 109 (66 + 11 * j + 3) - 1) := by
              rw [get_3 hj]; show some ((wr T 109 (66 + 11 * j + 3) _).1 109 (66 + 11 * j + 3)) = _; rw [wr1_eq, if_pos rfl]
            simp only [f_X7_ends_L2, h1, if_true, ek, e3, Option.bind_some, lay_3 hj, r3, g0, if_false, nI_1]
      · have ek : f_X7_get (nI j) 2 T = some (S.1 109 (66 + 11 * j + 2)) := by rw [get_k hj, eT 2 (by decide)]
        have eit : f_X7_isTree (nI j) T = some (f_X6_within (S.1 109 (66 + 11 * j + 2)) 1 4) := by rw [isTreeR_nat hj, eT 2 (by decide)]
        by_cases k0 : S.1 109 (66 + 11 * j + 2) = 0
        · have zz := hz j hj (Or.inl k0)
          refine ⟨T, fin T (fun _ _ => rfl) (fun _ _ => rfl) (fun _ _ => rfl) (tot0 zz) ⟨eT 0 (by decide), eT 1 (by decide), fun t => ?_, fun t => absurd t k5, fun _ k hk => eT k (by omega)⟩, ?_⟩
          · simp only [k0] at t; exact absurd t (by decide)
          · have w : f_X6_within (S.1 109 (66 + 11 * j + 2)) 1 4 = false := by rw [k0]; decide
            simp only [f_X7_ends_L2, h1, if_true, ek, Option.bind_some, k5, if_false, eit, w, Bool.false_eq_true, nI_1]
        · have w : f_X6_within (S.1 109 (66 + 11 * j + 2)) 1 4 = true := by
            rcases hks j hj with q | q | q | q | q | q
            · exact absurd q k0
            · rw [q]; decide
            · rw [q]; decide
            · rw [q]; decide
            · rw [q]; decide
            · exact absurd q k5
          have e8 : f_X7_get (nI j) 8 T = some (nI (g (2 * j))) := by rw [get_8 hj, eT 8 (by decide)]; exact congrArg some (hg j 0 hj (by decide))
          have e9 : f_X7_get (nI j) 9 T = some (nI (g (2 * j + 1))) := by rw [get_9 hj, eT 9 (by decide)]; exact congrArg some (hg j 1 hj (by decide))
          have hb0 := hb (2 * j) (by omega)
          have hb1 := hb (2 * j + 1) (by omega)
          have el : (nI (g (2 * j) + g (2 * j + 1))).toInt64 = lN (g (2 * j) + g (2 * j + 1)) := nI_l (by omega)
          have ix4 : ix (4 : Int32) = 4 := rfl
          generalize hv6 : (if S.1 109 (66 + 11 * j + 6) < 9 then S.1 109 (66 + 11 * j + 6) + 1 else 9) = v6
          generalize hT1 : wrL T 111 4 (rdL T 111 4 + lN (g (2 * j) + g (2 * j + 1))) = T1
          have t1 : T1.1 = T.1 := by rw [← hT1]; rfl
          have r10 : f_X7_get (nI j) 10 (wr (wr T1 109 (66 + 11 * j + 8) 0) 109 (66 + 11 * j + 9) 0) = some (S.1 109 (66 + 11 * j + 10)) := by
            rw [get_10 hj]
            show some ((wr (wr T1 109 (66 + 11 * j + 8) 0) 109 (66 + 11 * j + 9) 0).1 109 (66 + 11 * j + 10)) = _
            rw [wr1_eq, if_neg (by omega), wr1_eq, if_neg (by omega), t1]; exact congrArg some (eT 10 (by decide))
          have r6 : f_X7_get (nI j) 6 (wr (wr (wr (wr T1 109 (66 + 11 * j + 8) 0) 109 (66 + 11 * j + 9) 0) 109 (66 + 11 * j + 7) (S.1 109 (66 + 11 * j + 10))) 109 (66 + 11 * j + 10) 0) = some (S.1 109 (66 + 11 * j + 6)) := by
            rw [get_6 hj]
            show some ((wr (wr (wr (wr T1 109 (66 + 11 * j + 8) 0) 109 (66 + 11 * j + 9) 0) 109 (66 + 11 * j + 7) (S.1 109 (66 + 11 * j + 10))) 109 (66 + 11 * j + 10) 0).1 109 (66 + 11 * j + 6)) = _
            rw [wr1_eq, if_neg (by omega), wr1_eq, if_neg (by omega), wr1_eq, if_neg (by omega), wr1_eq, if_neg (by omega), t1]; exact congrArg some (eT 6 (by decide))
          refine ⟨wr (wr (wr (wr (wr T1 109 (66 + 11 * j + 8) 0) 109 (66 + 11 * j + 9) 0) 109 (66 + 11 * j + 7) (S.1 109 (66 + 11 * j + 10))) 109 (66 + 11 * j + 10) 0) 109 (66 + 11 * j + 6) v6, fin _ (fun i hi => by rw [wr1_ne hi, wr1_ne hi, wr1_ne hi, wr1_ne hi, wr1_ne hi, t1]) (fun k hk => by rw [wr1_eq, if_neg (by omega), wr1_eq, if_neg (by omega), wr1_eq, if_neg (by omega), wr1_eq, if_neg (by omega), wr1_eq, if_neg (by omega), t1]) (fun i hi => by show T1.2 i = _; rw [← hT1, wrL2_ne hi]) (fun k => by show T1.2 111 k = _; rw [← hT1, wrL2_eq]; rfl) ?_, ?_⟩
          · have v : ∀ k, k ≤ 10 → (wr (wr (wr (wr (wr T1 109 (66 + 11 * j + 8) 0) 109 (66 + 11 * j + 9) 0) 109 (66 + 11 * j + 7) (S.1 109 (66 + 11 * j + 10))) 109 (66 + 11 * j + 10) 0) 109 (66 + 11 * j + 6) v6).1 109 (66 + 11 * j + k) = if k = 6 then v6 else if k = 10 then 0 else if k = 7 then S.1 109 (66 + 11 * j + 10) else if k = 9 then 0 else if k = 8 then 0 else S.1 109 (66 + 11 * j + k) := fun k hk => by
              rw [wr1_eq, wr1_eq, wr1_eq, wr1_eq, wr1_eq, t1]
              simp only [Nat.add_left_cancel_iff]
              rw [show T.1 109 (66 + 11 * j + k) = S.1 109 (66 + 11 * j + k) from eT k (by omega)]
            refine ⟨v 0 (by decide), v 1 (by decide), fun _ => ⟨fun k a b => ?_, ?_, v 7 (by decide), v 8 (by decide), v 9 (by decide), v 10 (by decide)⟩, fun t => absurd t k5, fun t => absurd t k0⟩
            · refine (v k (by omega)).trans ?_
              rw [if_neg (by omega), if_neg (by omega), if_neg (by omega), if_neg (by omega), if_neg (by omega)]
            · refine (v 6 (by decide)).trans ?_
              rw [if_pos rfl, ← hv6]
          · simp only [f_X7_ends_L2, h1, if_true, ek, Option.bind_some, k5, if_false, eit, w, e8, e9, nI_add, el, ix4, hT1, lay_8 hj, lay_9 hj, r10, lay_7 hj, lay_10 hj, r6, lay_6 hj, nI_1]
            by_cases l : S.1 109 (66 + 11 * j + 6) < 9
            · rw [if_pos l] at hv6
              rw [if_pos l, hv6]
            · rw [if_neg l] at hv6
              rw [if_neg l, hv6]) (fun n T hP => by
      have h1 : (nI 12 < (12 : Int32)) = False := ltF (N := 12) (by decide) (by decide)
      simp only [f_X7_ends_L2, h1, if_false]) (fuel := 6000) (T := S) (by decide) ⟨fun _ _ => rfl, fun _ _ => rfl, fun _ _ => rfl, fun k => by
        by_cases e : k = 4
        · rw [if_pos e, e]; exact (l_zero _).symm
        · rw [if_neg e], fun p hp => absurd hp (by omega)⟩
    rw [nI_0] at this
    obtain ⟨T, ⟨p1, p2, p3, p4, p5⟩, e⟩ := this
    exact ⟨T, ⟨p1, fun k hk => p2 k (by omega), p3, p4, p5⟩, e⟩
  unfold f_X7_ends
  obtain ⟨T, ⟨t1, t2, t3, t4, t5⟩, e1⟩ := L1 (fun T161 => (f_X7_ends_L165 6000 (fun T185 => (some (wr (wr (wr T185 109 (ix (786 : Int32)) (-1 : Int32)) 109 (ix (784 : Int32)) ((rd (wr T185 109 (ix (786 : Int32)) (-1 : Int32)) 109 (ix (784 : Int32))) + (1 : Int32))) 109 (ix (785 : Int32)) (0 : Int32)))) (582 : Int32) T161))
  rw [e1]
  have L2 := loop_q (N := 732) (fun n i U => f_X7_ends_L165 n (fun T185 => (some (wr (wr (wr T185 109 (ix (786 : Int32)) (-1 : Int32)) 109 (ix (784 : Int32)) ((rd (wr T185 109 (ix (786 : Int32)) (-1 : Int32)) 109 (ix (784 : Int32))) + (1 : Int32))) 109 (ix (785 : Int32)) (0 : Int32)))) i U) (fun j U => 582 ≤ j ∧ Fill T 109 582 (fun _ => 0) (j - 582) U) (fun r => ∃ U, Fill T 109 582 (fun _ => 0) 150 U ∧ r = some (wr (wr (wr U 109 (ix (786 : Int32)) (-1 : Int32)) 109 (ix (784 : Int32)) ((rd (wr U 109 (ix (786 : Int32)) (-1 : Int32)) 109 (ix (784 : Int32))) + (1 : Int32))) 109 (ix (785 : Int32)) (0 : Int32))) (fun n j U hj hP => by
    left
    obtain ⟨h2, hF⟩ := hP
    have h1 : (nI j < (732 : Int32)) = True := ltT hj (by decide)
    have hin : inb (nI j) 788 = true := inb_nI (by omega) (by decide)
    have hix : ix (nI j) = j := ix_nI (by omega)
    refine ⟨wr U 109 j 0, ⟨by omega, ?_⟩, by simp only [f_X7_ends_L165, h1, hin, hix, if_true, nI_1]⟩
    have q := hF.step
    have a1 : 582 + (j - 582) = j := by omega
    have a2 : j - 582 + 1 = j + 1 - 582 := by omega
    rw [a1, a2] at q
    exact q) (fun n U hP => by
    have h1 : (nI 732 < (732 : Int32)) = False := ltF (N := 732) (by decide) (by decide)
    exact ⟨U, hP.2, by simp only [f_X7_ends_L165, h1, if_false]⟩) 150 582 6000 T (by decide) (by decide) ⟨by decide, Fill.zero T 109 582 (fun _ => 0)⟩
  obtain ⟨U, fU, e2⟩ := L2
  have e2' : f_X7_ends_L165 6000 (fun T185 => (some (wr (wr (wr T185 109 (ix (786 : Int32)) (-1 : Int32)) 109 (ix (784 : Int32)) ((rd (wr T185 109 (ix (786 : Int32)) (-1 : Int32)) 109 (ix (784 : Int32))) + (1 : Int32))) 109 (ix (785 : Int32)) (0 : Int32)))) (582 : Int32) T = _ := e2
  rw [e2']
  have u4 : rd (wr U 109 786 (-1)) 109 784 = nI yr := by
    show (wr U 109 786 (-1)).1 109 784 = _
    rw [wr1_eq, if_neg (by decide), fU.out (by omega), t2 784 (by omega)]; exact h4
  simp only [ix_784, ix_785, ix_786, u4, nI_1]
  have v : ∀ k, (wr (wr (wr U 109 786 (-1)) 109 784 (nI (yr + 1))) 109 785 0).1 109 k = if k = 785 then 0 else if k = 784 then nI (yr + 1) else if k = 786 then -1 else U.1 109 k := fun k => by rw [wr1_eq, wr1_eq, wr1_eq]
  refine ⟨_, rfl, fun i hi => ?_, fun i hi => ?_, fun k => ?_, fun k hk => ?_, ?_, ?_, ?_, fun k a b => ?_, fun p hp => ?_⟩
  · rw [wr1_ne hi, wr1_ne hi, wr1_ne hi, fU.1 i hi, t1 i hi]
  · show U.2 i = _; rw [fU.2.1, t3 i hi]
  · show U.2 111 k = _; rw [fU.2.1, t4 k, fb_pairs g 12 |>.symm]
  · rw [v, if_neg (by omega), if_neg (by omega), if_neg (by omega), fU.out (by omega), t2 k (by omega)]
  · rw [v, if_neg (by decide), if_pos rfl]
  · rw [v, if_pos rfl]
  · rw [v, if_neg (by decide), if_neg (by decide), if_pos rfl]
  · rw [v, if_neg (by omega), if_neg (by omega), if_neg (by omega)]
    have := fU.at (k := k - 582) (by omega)
    rw [show 582 + (k - 582) = k from by omega] at this
    exact this
  · have vv : ∀ k, k ≤ 10 → (wr (wr (wr U 109 786 (-1)) 109 784 (nI (yr + 1))) 109 785 0).1 109 (66 + 11 * p + k) = T.1 109 (66 + 11 * p + k) := fun k hk => by
      rw [v, if_neg (by omega), if_neg (by omega), if_neg (by omega), fU.out (by omega)]
    obtain ⟨w1, w2, w3, w4, w5⟩ := t5 p hp
    refine ⟨(vv 0 (by decide)).trans w1, (vv 1 (by decide)).trans w2, fun t => ?_, fun t => ?_, fun t k hk => (vv k hk).trans (w5 t k hk)⟩
    · obtain ⟨y1, y2, y3, y4, y5, y6⟩ := w3 t
      exact ⟨fun k a b => (vv k (by omega)).trans (y1 k a b), (vv 6 (by decide)).trans y2, (vv 7 (by decide)).trans y3, (vv 8 (by decide)).trans y4, (vv 9 (by decide)).trans y5, (vv 10 (by decide)).trans y6⟩
    · obtain ⟨y1, y2, y3, y4⟩ := w4 t
      exact ⟨(vv 2 (by decide)).trans y1, (vv 3 (by decide)).trans y2, (vv 8 (by decide)).trans y3, (vv 9 (by decide)).trans y4⟩
