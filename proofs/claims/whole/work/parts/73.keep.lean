-- keep and back
theorem rdw_ne {S : St} {i k j k' : Nat} {v : Int32} (h : j ≠ i) : rd (wr S i k v) j k' = rd S j k' := by
  simp only [rd]; rw [wr1_ne h]
theorem cp1_ne {S : St} {i j sp dp n c : Nat} (h : c ≠ j) : (cpI S i j sp dp n).1 c = S.1 c := by
  simp [cpI, upA, h]
theorem cp1_eq {S : St} {i j n k : Nat} (h : k < n) : (cpI S i j 0 0 n).1 j k = S.1 i k := by
  simp [cpI, upA, va_cpy, h]
/-- a book whose numbers are those of another -/
theorem BookRel.copied {cnt yr dn : Nat} {C C' : Nat → Nat → Int32} {CL CL' AL AL' : Nat → Int64} {A A' : Nat → Int32} (h : BookRel cnt yr dn C CL A AL) (h0 : ∀ k, k = 1 ∨ k = 3 ∨ k = 4 ∨ k = 5 ∨ k = 9 ∨ k = 10 ∨ k = 11 → C' 0 k = C 0 k) (h3 : ∀ i, 3 ≤ i → i ≤ 5 → ∀ k, k < 50 → C' i k = C i k) (hs : ∀ s, s < 6 → (∀ k, k < 7 → C' (7 + 2 * s) k = C (7 + 2 * s) k) ∧ ∀ k, k < 60 → C' (8 + 2 * s) k = C (8 + 2 * s) k) (hp : ∀ p, p < 12 → (∀ k, k < 10 → C' (19 + 2 * p) k = C (19 + 2 * p) k) ∧ ∀ k, k < 2 → C' (20 + 2 * p) k = C (20 + 2 * p) k) (hA : ∀ k, k < 788 → A' k = A k) (hCL : ∀ k, k < 10 → CL' k = CL k) (hAL : ∀ k, k < 10 → AL' k = AL k) : BookRel cnt yr dn C' CL' A' AL' := by
  obtain ⟨g1, ⟨tk, g2⟩, ⟨f, g3, g3'⟩, g4, g5, g6, g7⟩ := h
  refine ⟨?_, ⟨tk, fun s hs6 => ?_⟩, ⟨f, fun s hs6 => ?_, g3'⟩, fun p hp12 => ?_, ?_, ?_, fun k hk => by rw [hCL k hk, hAL k hk]; exact g7 k hk⟩
  · have g1' := g1.cong (A' := A') (fun k a b => hA k (by omega))
    unfold HeadRel at g1' ⊢
    rw [h0 1 (by omega), h0 3 (by omega), h0 4 (by omega), h0 5 (by omega), h0 9 (by omega), h0 10 (by omega), h0 11 (by omega)]
    exact g1'
  · obtain ⟨q1, q2, q3⟩ := (g2 s hs6).cong (A' := A') hs6 (fun k hk => hA k (by omega))
    refine ⟨fun hlt => ?_, q2, q3⟩
    obtain ⟨r1, r2, r3, r4, r5, r6, r7⟩ := q1 hlt
    refine ⟨fun k hk => by rw [(hs s hs6).1 k (by omega)]; exact r1 k hk, r2, r3, r4, r5, r6, ?_⟩
    rw [(hs s hs6).1 5 (by omega)]; exact r7
  · obtain ⟨q1, q2, q3⟩ := (g3 s hs6).cong (A' := A') hs6 (fun k hk => hA k (by omega)) (fun k a b => hA k (by omega))
    refine ⟨fun hlt => ?_, q2, q3⟩
    obtain ⟨r1, r2, r3⟩ := q1 hlt
    refine ⟨fun a x y => by rw [(hs s hs6).2 _ (Nat.mod_lt _ (by decide))]; exact r1 a x y, by rw [(hs s hs6).1 6 (by omega)]; exact r2, r3⟩
  · have q := (g4 p hp12).cong (a' := fun k => A' (66 + 11 * p + k)) (fun k hk => hA _ (by omega))
    unfold PlaceRel at q ⊢
    rw [(hp p hp12).1 0 (by omega), (hp p hp12).1 1 (by omega), (hp p hp12).1 2 (by omega), (hp p hp12).1 3 (by omega), (hp p hp12).1 4 (by omega), (hp p hp12).1 5 (by omega), (hp p hp12).1 6 (by omega), (hp p hp12).1 7 (by omega), (hp p hp12).1 8 (by omega), (hp p hp12).1 9 (by omega), (hp p hp12).2 0 (by omega), (hp p hp12).2 1 (by omega)]
    exact q
  · have q := g5.cong (A' := A') (fun k a b => hA k (by omega))
    intro d hd
    have := q d hd
    rw [h3 4 (by omega) (by omega) d hd, h3 5 (by omega) (by omega) d hd]
    exact this
  · have hdn := g1.2.1
    have q := g6.cong (A' := A') (by omega) (fun k a b => hA k (by omega))
    intro d hd
    rw [h3 3 (by omega) (by omega) d (by omega)]
    exact q d hd
theorem cpok_v : cpok 0 0 60 60 60 = true ∧ cpok 0 0 2 2 2 = true ∧ cpok 0 0 50 50 50 = true ∧ cpok 0 0 10 10 10 = true := by decide
theorem ix_60 : ix (60 : Int32) = 60 := rfl
theorem ix_2 : ix (2 : Int32) = 2 := rfl
theorem ix_50 : ix (50 : Int32) = 50 := rfl
theorem ix_10 : ix (10 : Int32) = 10 := rfl
theorem become5_run (t u : Nat) (S : St) (h1 : u ≠ t) (h2 : u ≠ t + 1) (h3 : u + 1 ≠ t) : ∃ T, f_X5_become t u S = some T ∧ (∀ i, i ≠ t → i ≠ t + 1 → T.1 i = S.1 i) ∧ T.2 = S.2 ∧ (∀ k, k < 7 → T.1 t k = S.1 u k) ∧ ∀ k, k < 60 → T.1 (t + 1) k = S.1 (u + 1) k := by
  refine ⟨cpI (wr (wr (wr (wr (wr (wr (wr S t 0 (rd S u 0)) t 1 (rd S u 1)) t 2 (rd S u 2)) t 3 (rd S u 3)) t 4 (rd S u 4)) t 5 (rd S u 5)) t 6 (rd S u 6)) (u + 1) (t + 1) 0 0 60, by simp only [f_X5_become, cpok_v.1, if_true, rdw_ne h1, ix_0, ix_60], fun i a b => ?_, rfl, fun k hk => ?_, fun k hk => ?_⟩
  · rw [cp1_ne b, wr1_ne a, wr1_ne a, wr1_ne a, wr1_ne a, wr1_ne a, wr1_ne a, wr1_ne a]
  · rw [cp1_ne (by omega), wr1_eq, wr1_eq, wr1_eq, wr1_eq, wr1_eq, wr1_eq, wr1_eq]
    have : k = 0 ∨ k = 1 ∨ k = 2 ∨ k = 3 ∨ k = 4 ∨ k = 5 ∨ k = 6 := by omega
    rcases this with rfl | rfl | rfl | rfl | rfl | rfl | rfl <;> rfl
  · rw [cp1_eq hk, wr1_ne h3, wr1_ne h3, wr1_ne h3, wr1_ne h3, wr1_ne h3, wr1_ne h3, wr1_ne h3]
theorem become2_run (t u : Nat) (S : St) (h1 : u ≠ t) (h2 : u ≠ t + 1) (h3 : u + 1 ≠ t) : ∃ T, f_X2_become t u S = some T ∧ (∀ i, i ≠ t → i ≠ t + 1 → T.1 i = S.1 i) ∧ T.2 = S.2 ∧ (∀ k, k < 10 → T.1 t k = S.1 u k) ∧ ∀ k, k < 2 → T.1 (t + 1) k = S.1 (u + 1) k := by
  refine ⟨cpI (wr (wr (wr (wr (wr (wr (wr (wr (wr (wr S t 0 (rd S u 0)) t 1 (rd S u 1)) t 2 (rd S u 2)) t 3 (rd S u 3)) t 4 (rd S u 4)) t 5 (rd S u 5)) t 6 (rd S u 6)) t 7 (rd S u 7)) t 8 (rd S u 8)) t 9 (rd S u 9)) (u + 1) (t + 1) 0 0 2, by simp only [f_X2_become, cpok_v.2.1, if_true, rdw_ne h1, ix_0, ix_2], fun i a b => ?_, rfl, fun k hk => ?_, fun k hk => ?_⟩
  · rw [cp1_ne b, wr1_ne a, wr1_ne a, wr1_ne a, wr1_ne a, wr1_ne a, wr1_ne a, wr1_ne a, wr1_ne a, wr1_ne a, wr1_ne a]
  · rw [cp1_ne (by omega), wr1_eq, wr1_eq, wr1_eq, wr1_eq, wr1_eq, wr1_eq, wr1_eq, wr1_eq, wr1_eq, wr1_eq]
    have : k = 0 ∨ k = 1 ∨ k = 2 ∨ k = 3 ∨ k = 4 ∨ k = 5 ∨ k = 6 ∨ k = 7 ∨ k = 8 ∨ k = 9 := by omega
    rcases this with rfl | rfl | rfl | rfl | rfl | rfl | rfl | rfl | rfl | rfl <;> rfl
  · rw [cp1_eq hk, wr1_ne h3, wr1_ne h3, wr1_ne h3, wr1_ne h3, wr1_ne h3, wr1_ne h3, wr1_ne h3, wr1_ne h3, wr1_ne h3, wr1_ne h3]
theorem become_a_run (S : St) : ∃ T, f_X0_become_a S = some T ∧ (∀ i, (i < 44 ∨ 44 + 43 ≤ i) → T.1 i = S.1 i) ∧ (∀ i, i ≠ 50 → T.2 i = S.2 i) ∧ (∀ k, k < 10 → T.2 50 k = S.2 7 k) ∧ (∀ k, k = 1 ∨ k = 3 ∨ k = 4 ∨ k = 5 ∨ k = 9 ∨ k = 10 ∨ k = 11 → T.1 44 k = S.1 1 k) ∧ (∀ i, 3 ≤ i → i ≤ 5 → ∀ k, k < 50 → T.1 (44 + i) k = S.1 (1 + i) k) ∧ (∀ r, r < 6 → (∀ k, k < 7 → T.1 (44 + (7 + 2 * r)) k = S.1 (1 + (7 + 2 * r)) k) ∧ ∀ k, k < 60 → T.1 (44 + (8 + 2 * r)) k = S.1 (1 + (8 + 2 * r)) k) ∧ (∀ p, p < 12 → (∀ k, k < 10 → T.1 (44 + (19 + 2 * p)) k = S.1 (1 + (19 + 2 * p)) k) ∧ ∀ k, k < 2 → T.1 (44 + (20 + 2 * p)) k = S.1 (1 + (20 + 2 * p)) k) := by
  have L1 : ∀ K : St → Option St, ∃ T, (T.2 = S.2 ∧ (∀ i, (i < 51 ∨ 51 + 12 ≤ i) → T.1 i = S.1 i) ∧ ∀ r, r < 6 → (∀ k, k < 7 → T.1 (51 + 2 * r) k = S.1 (8 + 2 * r) k) ∧ ∀ k, k < 60 → T.1 (52 + 2 * r) k = S.1 (9 + 2 * r) k) ∧ f_X0_become_a_L2 6000 K 0 S = K T := by
    intro K
    have := loop_up (N := 6) (fun n i T => f_X0_become_a_L2 n K i T) K (fun j T => T.2 = S.2 ∧ (∀ i, (i < 51 ∨ 51 + 12 ≤ i) → T.1 i = S.1 i) ∧ ∀ r, r < j → (∀ k, k < 7 → T.1 (51 + 2 * r) k = S.1 (8 + 2 * r) k) ∧ ∀ k, k < 60 → T.1 (52 + 2 * r) k = S.1 (9 + 2 * r) k) (fun n j T hj hP => by
      obtain ⟨p1, p2, p3⟩ := hP
      obtain ⟨T', e, o, l, c, q⟩ := become5_run (51 + 2 * j) (8 + 2 * j) T (by omega) (by omega) (by omega)
      have h1 : (nI j < (6 : Int32)) = True := ltT hj (by decide)
      have h2 : inb (nI j) 6 = true := inb_nI hj (by decide)
      have h3 : ix (nI j) = j := ix_nI (by omega)
      refine ⟨T', ⟨l.trans p1, fun i hi => by rw [o i (by omega) (by omega), p2 i hi], fun r hr => ?_⟩, by simp only [f_X0_become_a_L2, h1, h2, h3, e, Option.bind_some, nI_1, if_true]⟩
      by_cases er : r = j
      · subst er
        refine ⟨fun k hk => by rw [c k hk, p2 _ (by omega)], fun k hk => ?_⟩
        have := q k hk
        rw [show 51 + 2 * r + 1 = 52 + 2 * r from by omega, show 8 + 2 * r + 1 = 9 + 2 * r from by omega] at this
        rw [this, p2 _ (by omega)]
      · rw [o _ (by omega) (by omega), o (52 + 2 * r) (by omega) (by omega)]
        exact p3 r (by omega)) (fun n T hP => by
      have h1 : (nI 6 < (6 : Int32)) = False := ltF (N := 6) (by decide) (by decide)
      simp only [f_X0_become_a_L2, h1, if_false]) (fuel := 6000) (by decide) ⟨rfl, fun _ _ => rfl, fun r hr => absurd hr (by omega)⟩
    rw [nI_0] at this
    exact this
  have L2 : ∀ (S : St) (K : St → Option St), ∃ T, (T.2 = S.2 ∧ (∀ i, (i < 63 ∨ 63 + 24 ≤ i) → T.1 i = S.1 i) ∧ ∀ r, r < 12 → (∀ k, k < 10 → T.1 (63 + 2 * r) k = S.1 (20 + 2 * r) k) ∧ ∀ k, k < 2 → T.1 (64 + 2 * r) k = S.1 (21 + 2 * r) k) ∧ f_X0_become_a_L39 6000 K 0 S = K T := by
    intro S K
    have := loop_up (N := 12) (fun n i T => f_X0_become_a_L39 n K i T) K (fun j T => T.2 = S.2 ∧ (∀ i, (i < 63 ∨ 63 + 24 ≤ i) → T.1 i = S.1 i) ∧ ∀ r, r < j → (∀ k, k < 10 → T.1 (63 + 2 * r) k = S.1 (20 + 2 * r) k) ∧ ∀ k, k < 2 → T.1 (64 + 2 * r) k = S.1 (21 + 2 * r) k) (fun n j T hj hP => by
      obtain ⟨p1, p2, p3⟩ := hP
      obtain ⟨T', e, o, l, c, q⟩ := become2_run (63 + 2 * j) (20 + 2 * j) T (by omega) (by omega) (by omega)
      have h1 : (nI j < (12 : Int32)) = True := ltT hj (by decide)
      have h2 : inb (nI j) 12 = true := inb_nI hj (by decide)
      have h3 : ix (nI j) = j := ix_nI (by omega)
      refine ⟨T', ⟨l.trans p1, fun i hi => by rw [o i (by omega) (by omega), p2 i hi], fun r hr => ?_⟩, by simp only [f_X0_become_a_L39, h1, h2, h3, e, Option.bind_some, nI_1, if_true]⟩
      by_cases er : r = j
      · subst er
        refine ⟨fun k hk => by rw [c k hk, p2 _ (by omega)], fun k hk => ?_⟩
        have := q k hk
        rw [show 63 + 2 * r + 1 = 64 + 2 * r from by omega, show 20 + 2 * r + 1 = 21 + 2 * r from by omega] at this
        rw [this, p2 _ (by omega)]
      · rw [o _ (by omega) (by omega), o (64 + 2 * r) (by omega) (by omega)]
        exact p3 r (by omega)) (fun n T hP => by
      have h1 : (nI 12 < (12 : Int32)) = False := ltF (N := 12) (by decide) (by decide)
      simp only [f_X0_become_a_L39, h1, if_false]) (fuel := 6000) (by decide) ⟨rfl, fun _ _ => rfl, fun r hr => absurd hr (by omega)⟩
    rw [nI_0] at this
    exact this
  unfold f_X0_become_a
  obtain ⟨T1, ⟨a1, a2, a3⟩, e1⟩ := L1 _
  rw [e1]
  obtain ⟨T2, ⟨b1, b2, b3⟩, e2⟩ := L2 (wr T1 44 1 (rd T1 1 1)) _
  rw [e2]
  have hne : (1 : Nat) ≠ 44 := by decide
  have hcp : ∀ (U : St) (i j n k : Nat), (1 : Nat) ≠ j → rd (cpI U i j 0 0 n) 1 k = rd U 1 k := fun U i j n k h => by simp only [rd]; rw [cp1_ne h]
  simp only [cpok_v.2.2.1, cpok_v.2.2.2, if_true, rdw_ne hne, ix_0, ix_50, ix_10, hcp _ _ 47 _ _ (by decide), hcp _ _ 48 _ _ (by decide), hcp _ _ 49 _ _ (by decide)]
  refine ⟨_, rfl, fun i hi => ?_, fun i hi => ?_, fun k hk => ?_, fun k hk => ?_, fun i x1 x2 k hk => ?_, fun r hr => ?_, fun p hp => ?_⟩
  · show (wr (wr (wr (cpI (cpI (cpI (wr (wr (wr T2 44 3 _) 44 4 _) 44 5 _) 4 47 0 0 50) 5 48 0 0 50) 6 49 0 0 50) 44 9 _) 44 10 _) 44 11 _).1 i = _
    rw [wr1_ne (by omega), wr1_ne (by omega), wr1_ne (by omega), cp1_ne (by omega), cp1_ne (by omega), cp1_ne (by omega), wr1_ne (by omega), wr1_ne (by omega), wr1_ne (by omega), b2 i (by omega), wr1_ne (by omega), a2 i (by omega)]
  · simp only [cpL, upA]
    rw [if_neg hi]
    show T2.2 i = _
    rw [b1]; show T1.2 i = _; rw [a1]
  · simp only [cpL, upA]
    rw [if_pos trivial]
    show va_cpy (T2.2 7) (T2.2 50) 0 0 10 k = _
    rw [pk_cpy_in (by omega) (by omega), b1]
    show T1.2 7 _ = _
    rw [a1, show 0 + (k - 0) = k from by omega]
  · show (wr (wr (wr (cpI (cpI (cpI (wr (wr (wr T2 44 3 _) 44 4 _) 44 5 _) 4 47 0 0 50) 5 48 0 0 50) 6 49 0 0 50) 44 9 _) 44 10 _) 44 11 _).1 44 k = _
    rw [wr1_eq, wr1_eq, wr1_eq, cp1_ne (by decide), cp1_ne (by decide), cp1_ne (by decide), wr1_eq, wr1_eq, wr1_eq]
    have r2 : ∀ k, rd T2 1 k = S.1 1 k := fun k => by
      show T2.1 1 k = _; rw [b2 1 (by omega), wr1_ne (by decide), a2 1 (by omega)]
    rcases hk with rfl | rfl | rfl | rfl | rfl | rfl | rfl
    · rw [if_neg (by decide), if_neg (by decide), if_neg (by decide), if_neg (by decide), if_neg (by decide), if_neg (by decide), b2 44 (by omega), wr1_eq, if_pos rfl]
      show T1.1 1 1 = _; rw [a2 1 (by omega)]
    · rw [if_neg (by decide), if_neg (by decide), if_neg (by decide), if_neg (by decide), if_neg (by decide), if_pos rfl, r2]
    · rw [if_neg (by decide), if_neg (by decide), if_neg (by decide), if_neg (by decide), if_pos rfl, r2]
    · rw [if_neg (by decide), if_neg (by decide), if_neg (by decide), if_pos rfl, r2]
    · rw [if_neg (by decide), if_neg (by decide), if_pos rfl, r2]
    · rw [if_neg (by decide), if_pos rfl, r2]
    · rw [if_pos rfl, r2]
  · show (wr (wr (wr (cpI (cpI (cpI (wr (wr (wr T2 44 3 _) 44 4 _) 44 5 _) 4 47 0 0 50) 5 48 0 0 50) 6 49 0 0 50) 44 9 _) 44 10 _) 44 11 _).1 (44 + i) k = _
    rw [wr1_ne (by omega), wr1_ne (by omega), wr1_ne (by omega)]
    have src : ∀ j, 4 ≤ j → j ≤ 6 → ∀ u v w : Int32, (wr (wr (wr T2 44 3 u) 44 4 v) 44 5 w).1 j = S.1 j := fun j y1 y2 u v w => by
      rw [wr1_ne (by omega), wr1_ne (by omega), wr1_ne (by omega), b2 j (by omega), wr1_ne (by omega), a2 j (by omega)]
    have : i = 3 ∨ i = 4 ∨ i = 5 := by omega
    rcases this with rfl | rfl | rfl
    · rw [cp1_ne (by decide), cp1_ne (by decide), show 44 + 3 = 47 from rfl, cp1_eq hk, src _ (by decide) (by decide)]
    · rw [cp1_ne (by decide), show 44 + 4 = 48 from rfl, cp1_eq hk, cp1_ne (by decide), src _ (by decide) (by decide)]
    · rw [show 44 + 5 = 49 from rfl, cp1_eq hk, cp1_ne (by decide), cp1_ne (by decide), src _ (by decide) (by decide)]
  · have o : ∀ i, 51 ≤ i → i < 51 + 12 → ∀ u v w u' v' w' : Int32, (wr (wr (wr (cpI (cpI (cpI (wr (wr (wr T2 44 3 u) 44 4 v) 44 5 w) 4 47 0 0 50) 5 48 0 0 50) 6 49 0 0 50) 44 9 u') 44 10 v') 44 11 w').1 i = T1.1 i := fun i y1 y2 u v w u' v' w' => by
      rw [wr1_ne (by omega), wr1_ne (by omega), wr1_ne (by omega), cp1_ne (by omega), cp1_ne (by omega), cp1_ne (by omega), wr1_ne (by omega), wr1_ne (by omega), wr1_ne (by omega), b2 i (by omega), wr1_ne (by omega)]
    obtain ⟨c1, c2⟩ := a3 r hr
    refine ⟨fun k hk => ?_, fun k hk => ?_⟩
    · refine (congrFun (o (44 + (7 + 2 * r)) (by omega) (by omega) _ _ _ _ _ _) k).trans ?_
      have := c1 k hk
      rw [show 51 + 2 * r = 44 + (7 + 2 * r) from by omega, show 8 + 2 * r = 1 + (7 + 2 * r) from by omega] at this
      exact this
    · refine (congrFun (o (44 + (8 + 2 * r)) (by omega) (by omega) _ _ _ _ _ _) k).trans ?_
      have := c2 k hk
      rw [show 52 + 2 * r = 44 + (8 + 2 * r) from by omega, show 9 + 2 * r = 1 + (8 + 2 * r) from by omega] at this
      exact this
  · have o : ∀ i, 63 ≤ i → i < 63 + 24 → ∀ u v w u' v' w' : Int32, (wr (wr (wr (cpI (cpI (cpI (wr (wr (wr T2 44 3 u) 44 4 v) 44 5 w) 4 47 0 0 50) 5 48 0 0 50) 6 49 0 0 50) 44 9 u') 44 10 v') 44 11 w').1 i = T2.1 i := fun i y1 y2 u v w u' v' w' => by
      rw [wr1_ne (by omega), wr1_ne (by omega), wr1_ne (by omega), cp1_ne (by omega), cp1_ne (by omega), cp1_ne (by omega), wr1_ne (by omega), wr1_ne (by omega), wr1_ne (by omega)]
    obtain ⟨c1, c2⟩ := b3 p hp
    refine ⟨fun k hk => ?_, fun k hk => ?_⟩
    · refine (congrFun (o (44 + (19 + 2 * p)) (by omega) (by omega) _ _ _ _ _ _) k).trans ?_
      have := c1 k hk
      rw [show 63 + 2 * p = 44 + (19 + 2 * p) from by omega, show 20 + 2 * p = 1 + (19 + 2 * p) from by omega, wr1_ne (by omega), a2 _ (by omega)] at this
      exact this
    · refine (congrFun (o (44 + (20 + 2 * p)) (by omega) (by omega) _ _ _ _ _ _) k).trans ?_
      have := c2 k hk
      rw [show 64 + 2 * p = 44 + (20 + 2 * p) from by omega, show 21 + 2 * p = 1 + (20 + 2 * p) from by omega, wr1_ne (by omega), a2 _ (by omega)] at this
      exact this

theorem become_b_run (S : St) : ∃ T, f_X0_become_b S = some T ∧ (∀ i, (i < 1 ∨ 1 + 43 ≤ i) → T.1 i = S.1 i) ∧ (∀ i, i ≠ 7 → T.2 i = S.2 i) ∧ (∀ k, k < 10 → T.2 7 k = S.2 50 k) ∧ (∀ k, k = 1 ∨ k = 3 ∨ k = 4 ∨ k = 5 ∨ k = 9 ∨ k = 10 ∨ k = 11 → T.1 1 k = S.1 44 k) ∧ (∀ i, 3 ≤ i → i ≤ 5 → ∀ k, k < 50 → T.1 (1 + i) k = S.1 (44 + i) k) ∧ (∀ r, r < 6 → (∀ k, k < 7 → T.1 (1 + (7 + 2 * r)) k = S.1 (44 + (7 + 2 * r)) k) ∧ ∀ k, k < 60 → T.1 (1 + (8 + 2 * r)) k = S.1 (44 + (8 + 2 * r)) k) ∧ (∀ p, p < 12 → (∀ k, k < 10 → T.1 (1 + (19 + 2 * p)) k = S.1 (44 + (19 + 2 * p)) k) ∧ ∀ k, k < 2 → T.1 (1 + (20 + 2 * p)) k = S.1 (44 + (20 + 2 * p)) k) := by
  have L1 : ∀ K : St → Option St, ∃ T, (T.2 = S.2 ∧ (∀ i, (i < 8 ∨ 8 + 12 ≤ i) → T.1 i = S.1 i) ∧ ∀ r, r < 6 → (∀ k, k < 7 → T.1 (8 + 2 * r) k = S.1 (51 + 2 * r) k) ∧ ∀ k, k < 60 → T.1 (9 + 2 * r) k = S.1 (52 + 2 * r) k) ∧ f_X0_become_b_L2 6000 K 0 S = K T := by
    intro K
    have := loop_up (N := 6) (fun n i T => f_X0_become_b_L2 n K i T) K (fun j T => T.2 = S.2 ∧ (∀ i, (i < 8 ∨ 8 + 12 ≤ i) → T.1 i = S.1 i) ∧ ∀ r, r < j → (∀ k, k < 7 → T.1 (8 + 2 * r) k = S.1 (51 + 2 * r) k) ∧ ∀ k, k < 60 → T.1 (9 + 2 * r) k = S.1 (52 + 2 * r) k) (fun n j T hj hP => by
      obtain ⟨p1, p2, p3⟩ := hP
      obtain ⟨T', e, o, l, c, q⟩ := become5_run (8 + 2 * j) (51 + 2 * j) T (by omega) (by omega) (by omega)
      have h1 : (nI j < (6 : Int32)) = True := ltT hj (by decide)
      have h2 : inb (nI j) 6 = true := inb_nI hj (by decide)
      have h3 : ix (nI j) = j := ix_nI (by omega)
      refine ⟨T', ⟨l.trans p1, fun i hi => by rw [o i (by omega) (by omega), p2 i hi], fun r hr => ?_⟩, by simp only [f_X0_become_b_L2, h1, h2, h3, e, Option.bind_some, nI_1, if_true]⟩
      by_cases er : r = j
      · subst er
        refine ⟨fun k hk => by rw [c k hk, p2 _ (by omega)], fun k hk => ?_⟩
        have := q k hk
        rw [show 8 + 2 * r + 1 = 9 + 2 * r from by omega, show 51 + 2 * r + 1 = 52 + 2 * r from by omega] at this
        rw [this, p2 _ (by omega)]
      · rw [o _ (by omega) (by omega), o (9 + 2 * r) (by omega) (by omega)]
        exact p3 r (by omega)) (fun n T hP => by
      have h1 : (nI 6 < (6 : Int32)) = False := ltF (N := 6) (by decide) (by decide)
      simp only [f_X0_become_b_L2, h1, if_false]) (fuel := 6000) (by decide) ⟨rfl, fun _ _ => rfl, fun r hr => absurd hr (by omega)⟩
    rw [nI_0] at this
    exact this
  have L2 : ∀ (S : St) (K : St → Option St), ∃ T, (T.2 = S.2 ∧ (∀ i, (i < 20 ∨ 20 + 24 ≤ i) → T.1 i = S.1 i) ∧ ∀ r, r < 12 → (∀ k, k < 10 → T.1 (20 + 2 * r) k = S.1 (63 + 2 * r) k) ∧ ∀ k, k < 2 → T.1 (21 + 2 * r) k = S.1 (64 + 2 * r) k) ∧ f_X0_become_b_L39 6000 K 0 S = K T := by
    intro S K
    have := loop_up (N := 12) (fun n i T => f_X0_become_b_L39 n K i T) K (fun j T => T.2 = S.2 ∧ (∀ i, (i < 20 ∨ 20 + 24 ≤ i) → T.1 i = S.1 i) ∧ ∀ r, r < j → (∀ k, k < 10 → T.1 (20 + 2 * r) k = S.1 (63 + 2 * r) k) ∧ ∀ k, k < 2 → T.1 (21 + 2 * r) k = S.1 (64 + 2 * r) k) (fun n j T hj hP => by
      obtain ⟨p1, p2, p3⟩ := hP
      obtain ⟨T', e, o, l, c, q⟩ := become2_run (20 + 2 * j) (63 + 2 * j) T (by omega) (by omega) (by omega)
      have h1 : (nI j < (12 : Int32)) = True := ltT hj (by decide)
      have h2 : inb (nI j) 12 = true := inb_nI hj (by decide)
      have h3 : ix (nI j) = j := ix_nI (by omega)
      refine ⟨T', ⟨l.trans p1, fun i hi => by rw [o i (by omega) (by omega), p2 i hi], fun r hr => ?_⟩, by simp only [f_X0_become_b_L39, h1, h2, h3, e, Option.bind_some, nI_1, if_true]⟩
      by_cases er : r = j
      · subst er
        refine ⟨fun k hk => by rw [c k hk, p2 _ (by omega)], fun k hk => ?_⟩
        have := q k hk
        rw [show 20 + 2 * r + 1 = 21 + 2 * r from by omega, show 63 + 2 * r + 1 = 64 + 2 * r from by omega] at this
        rw [this, p2 _ (by omega)]
      · rw [o _ (by omega) (by omega), o (21 + 2 * r) (by omega) (by omega)]
        exact p3 r (by omega)) (fun n T hP => by
      have h1 : (nI 12 < (12 : Int32)) = False := ltF (N := 12) (by decide) (by decide)
      simp only [f_X0_become_b_L39, h1, if_false]) (fuel := 6000) (by decide) ⟨rfl, fun _ _ => rfl, fun r hr => absurd hr (by omega)⟩
    rw [nI_0] at this
    exact this
  unfold f_X0_become_b
  obtain ⟨T1, ⟨a1, a2, a3⟩, e1⟩ := L1 _
  rw [e1]
  obtain ⟨T2, ⟨b1, b2, b3⟩, e2⟩ := L2 (wr T1 1 1 (rd T1 44 1)) _
  rw [e2]
  have hne : (44 : Nat) ≠ 1 := by decide
  have hcp : ∀ (U : St) (i j n k : Nat), (44 : Nat) ≠ j → rd (cpI U i j 0 0 n) 44 k = rd U 44 k := fun U i j n k h => by simp only [rd]; rw [cp1_ne h]
  simp only [cpok_v.2.2.1, cpok_v.2.2.2, if_true, rdw_ne hne, ix_0, ix_50, ix_10, hcp _ _ 4 _ _ (by decide), hcp _ _ 5 _ _ (by decide), hcp _ _ 6 _ _ (by decide)]
  refine ⟨_, rfl, fun i hi => ?_, fun i hi => ?_, fun k hk => ?_, fun k hk => ?_, fun i x1 x2 k hk => ?_, fun r hr => ?_, fun p hp => ?_⟩
  · show (wr (wr (wr (cpI (cpI (cpI (wr (wr (wr T2 1 3 _) 1 4 _) 1 5 _) 47 4 0 0 50) 48 5 0 0 50) 49 6 0 0 50) 1 9 _) 1 10 _) 1 11 _).1 i = _
    rw [wr1_ne (by omega), wr1_ne (by omega), wr1_ne (by omega), cp1_ne (by omega), cp1_ne (by omega), cp1_ne (by omega), wr1_ne (by omega), wr1_ne (by omega), wr1_ne (by omega), b2 i (by omega), wr1_ne (by omega), a2 i (by omega)]
  · simp only [cpL, upA]
    rw [if_neg hi]
    show T2.2 i = _
    rw [b1]; show T1.2 i = _; rw [a1]
  · simp only [cpL, upA]
    rw [if_pos trivial]
    show va_cpy (T2.2 50) (T2.2 7) 0 0 10 k = _
    rw [pk_cpy_in (by omega) (by omega), b1]
    show T1.2 50 _ = _
    rw [a1, show 0 + (k - 0) = k from by omega]
  · show (wr (wr (wr (cpI (cpI (cpI (wr (wr (wr T2 1 3 _) 1 4 _) 1 5 _) 47 4 0 0 50) 48 5 0 0 50) 49 6 0 0 50) 1 9 _) 1 10 _) 1 11 _).1 1 k = _
    rw [wr1_eq, wr1_eq, wr1_eq, cp1_ne (by decide), cp1_ne (by decide), cp1_ne (by decide), wr1_eq, wr1_eq, wr1_eq]
    have r2 : ∀ k, rd T2 44 k = S.1 44 k := fun k => by
      show T2.1 44 k = _; rw [b2 44 (by omega), wr1_ne (by decide), a2 44 (by omega)]
    rcases hk with rfl | rfl | rfl | rfl | rfl | rfl | rfl
    · rw [if_neg (by decide), if_neg (by decide), if_neg (by decide), if_neg (by decide), if_neg (by decide), if_neg (by decide), b2 1 (by omega), wr1_eq, if_pos rfl]
      show T1.1 44 1 = _; rw [a2 44 (by omega)]
    · rw [if_neg (by decide), if_neg (by decide), if_neg (by decide), if_neg (by decide), if_neg (by decide), if_pos rfl, r2]
    · rw [if_neg (by decide), if_neg (by decide), if_neg (by decide), if_neg (by decide), if_pos rfl, r2]
    · rw [if_neg (by decide), if_neg (by decide), if_neg (by decide), if_pos rfl, r2]
    · rw [if_neg (by decide), if_neg (by decide), if_pos rfl, r2]
    · rw [if_neg (by decide), if_pos rfl, r2]
    · rw [if_pos rfl, r2]
  · show (wr (wr (wr (cpI (cpI (cpI (wr (wr (wr T2 1 3 _) 1 4 _) 1 5 _) 47 4 0 0 50) 48 5 0 0 50) 49 6 0 0 50) 1 9 _) 1 10 _) 1 11 _).1 (1 + i) k = _
    rw [wr1_ne (by omega), wr1_ne (by omega), wr1_ne (by omega)]
    have src : ∀ j, 47 ≤ j → j ≤ 49 → ∀ u v w : Int32, (wr (wr (wr T2 1 3 u) 1 4 v) 1 5 w).1 j = S.1 j := fun j y1 y2 u v w => by
      rw [wr1_ne (by omega), wr1_ne (by omega), wr1_ne (by omega), b2 j (by omega), wr1_ne (by omega), a2 j (by omega)]
    have : i = 3 ∨ i = 4 ∨ i = 5 := by omega
    rcases this with rfl | rfl | rfl
    · rw [cp1_ne (by decide), cp1_ne (by decide), show 1 + 3 = 4 from rfl, cp1_eq hk, src _ (by decide) (by decide)]
    · rw [cp1_ne (by decide), show 1 + 4 = 5 from rfl, cp1_eq hk, cp1_ne (by decide), src _ (by decide) (by decide)]
    · rw [show 1 + 5 = 6 from rfl, cp1_eq hk, cp1_ne (by decide), cp1_ne (by decide), src _ (by decide) (by decide)]
  · have o : ∀ i, 8 ≤ i → i < 8 + 12 → ∀ u v w u' v' w' : Int32, (wr (wr (wr (cpI (cpI (cpI (wr (wr (wr T2 1 3 u) 1 4 v) 1 5 w) 47 4 0 0 50) 48 5 0 0 50) 49 6 0 0 50) 1 9 u') 1 10 v') 1 11 w').1 i = T1.1 i := fun i y1 y2 u v w u' v' w' => by
      rw [wr1_ne (by omega), wr1_ne (by omega), wr1_ne (by omega), cp1_ne (by omega), cp1_ne (by omega), cp1_ne (by omega), wr1_ne (by omega), wr1_ne (by omega), wr1_ne (by omega), b2 i (by omega), wr1_ne (by omega)]
    obtain ⟨c1, c2⟩ := a3 r hr
    refine ⟨fun k hk => ?_, fun k hk => ?_⟩
    · refine (congrFun (o (1 + (7 + 2 * r)) (by omega) (by omega) _ _ _ _ _ _) k).trans ?_
      have := c1 k hk
      rw [show 8 + 2 * r = 1 + (7 + 2 * r) from by omega, show 51 + 2 * r = 44 + (7 + 2 * r) from by omega] at this
      exact this
    · refine (congrFun (o (1 + (8 + 2 * r)) (by omega) (by omega) _ _ _ _ _ _) k).trans ?_
      have := c2 k hk
      rw [show 9 + 2 * r = 1 + (8 + 2 * r) from by omega, show 52 + 2 * r = 44 + (8 + 2 * r) from by omega] at this
      exact this
  · have o : ∀ i, 20 ≤ i → i < 20 + 24 → ∀ u v w u' v' w' : Int32, (wr (wr (wr (cpI (cpI (cpI (wr (wr (wr T2 1 3 u) 1 4 v) 1 5 w) 47 4 0 0 50) 48 5 0 0 50) 49 6 0 0 50) 1 9 u') 1 10 v') 1 11 w').1 i = T2.1 i := fun i y1 y2 u v w u' v' w' => by
      rw [wr1_ne (by omega), wr1_ne (by omega), wr1_ne (by omega), cp1_ne (by omega), cp1_ne (by omega), cp1_ne (by omega), wr1_ne (by omega), wr1_ne (by omega), wr1_ne (by omega)]
    obtain ⟨c1, c2⟩ := b3 p hp
    refine ⟨fun k hk => ?_, fun k hk => ?_⟩
    · refine (congrFun (o (1 + (19 + 2 * p)) (by omega) (by omega) _ _ _ _ _ _) k).trans ?_
      have := c1 k hk
      rw [show 20 + 2 * p = 1 + (19 + 2 * p) from by omega, show 63 + 2 * p = 44 + (19 + 2 * p) from by omega, wr1_ne (by omega), a2 _ (by omega)] at this
      exact this
    · refine (congrFun (o (1 + (20 + 2 * p)) (by omega) (by omega) _ _ _ _ _ _) k).trans ?_
      have := c2 k hk
      rw [show 21 + 2 * p = 1 + (20 + 2 * p) from by omega, show 64 + 2 * p = 44 + (20 + 2 * p) from by omega, wr1_ne (by omega), a2 _ (by omega)] at this
      exact this

theorem keep7_run1 (S : St) (K : St → Option (Int32 × St)) : ∃ T, Fill S 110 0 (S.1 109) 788 T ∧ f_X7_keep_L2 6000 K 0 S = K T := by
  have := loop_up (N := 788) (fun n i T => f_X7_keep_L2 n K i T) K (fun j T => Fill S 110 0 (S.1 109) j T) (fun n j T hj hP => by
    refine ⟨_, hP.step, ?_⟩
    have h1 : (nI j < (788 : Int32)) = True := ltT hj (by decide)
    have h2 : inb (nI j) 788 = true := inb_nI hj (by decide)
    have h3 : ix (nI j) = j := ix_nI (by omega)
    have h4 : rd T 109 j = S.1 109 j := by show T.1 109 j = _; rw [hP.1 109 (by decide)]
    simp only [f_X7_keep_L2, h1, h2, h3, h4, nI_1, if_true, Nat.zero_add]) (fun n T hP => by
    have h1 : (nI 788 < (788 : Int32)) = False := ltF (N := 788) (by decide) (by decide)
    simp only [f_X7_keep_L2, h1, if_false]) (fuel := 6000) (by decide) (Fill.zero S 110 0 (S.1 109))
  rw [nI_0] at this
  exact this
theorem keep7_run2 (S : St) (K : St → Option (Int32 × St)) : ∃ T, (T.1 = S.1 ∧ (∀ i, i ≠ 112 → T.2 i = S.2 i) ∧ ∀ k, k < 10 → T.2 112 k = S.2 111 k) ∧ f_X7_keep_L29 6000 K 0 S = K T := by
  have := loop_up (N := 10) (fun n i T => f_X7_keep_L29 n K i T) K (fun j T => T.1 = S.1 ∧ (∀ i, i ≠ 112 → T.2 i = S.2 i) ∧ ∀ k, k < j → T.2 112 k = S.2 111 k) (fun n j T hj hP => by
    obtain ⟨p1, p2, p3⟩ := hP
    refine ⟨wrL T 112 j (S.2 111 j), ⟨p1, fun i hi => by rw [wrL2_ne hi]; exact p2 i hi, fun k hk => ?_⟩, ?_⟩
    · rw [wrL2_eq]
      by_cases e : k = j
      · rw [if_pos e, e]
      · rw [if_neg e]; exact p3 k (by omega)
    · have h1 : (nI j < (10 : Int32)) = True := ltT hj (by decide)
      have h2 : inb (nI j) 10 = true := inb_nI hj (by decide)
      have h3 : ix (nI j) = j := ix_nI (by omega)
      have h4 : rdL T 111 j = S.2 111 j := by show T.2 111 j = _; rw [p2 111 (by decide)]
      simp only [f_X7_keep_L29, h1, h2, h3, h4, nI_1, if_true]) (fun n T hP => by
    have h1 : (nI 10 < (10 : Int32)) = False := ltF (N := 10) (by decide) (by decide)
    simp only [f_X7_keep_L29, h1, if_false]) (fuel := 6000) (by decide) ⟨rfl, fun _ _ => rfl, fun k hk => absurd hk (by omega)⟩
  rw [nI_0] at this
  exact this

theorem back7_run1 (S : St) (K : St → Option (Int32 × St)) : ∃ T, Fill S 109 0 (S.1 110) 788 T ∧ f_X7_back_L16 6000 K 0 S = K T := by
  have := loop_up (N := 788) (fun n i T => f_X7_back_L16 n K i T) K (fun j T => Fill S 109 0 (S.1 110) j T) (fun n j T hj hP => by
    refine ⟨_, hP.step, ?_⟩
    have h1 : (nI j < (788 : Int32)) = True := ltT hj (by decide)
    have h2 : inb (nI j) 788 = true := inb_nI hj (by decide)
    have h3 : ix (nI j) = j := ix_nI (by omega)
    have h4 : rd T 110 j = S.1 110 j := by show T.1 110 j = _; rw [hP.1 110 (by decide)]
    simp only [f_X7_back_L16, h1, h2, h3, h4, nI_1, if_true, Nat.zero_add]) (fun n T hP => by
    have h1 : (nI 788 < (788 : Int32)) = False := ltF (N := 788) (by decide) (by decide)
    simp only [f_X7_back_L16, h1, if_false]) (fuel := 6000) (by decide) (Fill.zero S 109 0 (S.1 110))
  rw [nI_0] at this
  exact this
theorem back7_run2 (S : St) (K : St → Option (Int32 × St)) : ∃ T, (T.1 = S.1 ∧ (∀ i, i ≠ 111 → T.2 i = S.2 i) ∧ ∀ k, k < 10 → T.2 111 k = S.2 112 k) ∧ f_X7_back_L43 6000 K 0 S = K T := by
  have := loop_up (N := 10) (fun n i T => f_X7_back_L43 n K i T) K (fun j T => T.1 = S.1 ∧ (∀ i, i ≠ 111 → T.2 i = S.2 i) ∧ ∀ k, k < j → T.2 111 k = S.2 112 k) (fun n j T hj hP => by
    obtain ⟨p1, p2, p3⟩ := hP
    refine ⟨wrL T 111 j (S.2 112 j), ⟨p1, fun i hi => by rw [wrL2_ne hi]; exact p2 i hi, fun k hk => ?_⟩, ?_⟩
    · rw [wrL2_eq]
      by_cases e : k = j
      · rw [if_pos e, e]
      · rw [if_neg e]; exact p3 k (by omega)
    · have h1 : (nI j < (10 : Int32)) = True := ltT hj (by decide)
      have h2 : inb (nI j) 10 = true := inb_nI hj (by decide)
      have h3 : ix (nI j) = j := ix_nI (by omega)
      have h4 : rdL T 112 j = S.2 112 j := by show T.2 112 j = _; rw [p2 112 (by decide)]
      simp only [f_X7_back_L43, h1, h2, h3, h4, nI_1, if_true]) (fun n T hP => by
    have h1 : (nI 10 < (10 : Int32)) = False := ltF (N := 10) (by decide) (by decide)
    simp only [f_X7_back_L43, h1, if_false]) (fuel := 6000) (by decide) ⟨rfl, fun _ _ => rfl, fun k hk => absurd hk (by omega)⟩
  rw [nI_0] at this
  exact this

theorem sm_keep : Sm Rel f_X6_keep f_X7_keep := by
  intro B S hB hR
  obtain ⟨cnt, yr, dn, g1, g2, ⟨g3, g4⟩, g5, g6, g7⟩ := id hR
  have hH := g2.1
  obtain ⟨T, e, o, l1, l2, c1, c2, c3, c4⟩ := become_a_run S
  have y4 : rd (wr T 0 2 1) 1 4 = nI yr := by
    show (wr T 0 2 1).1 1 4 = _
    rw [wr1_ne (by decide), o 1 (by omega)]; exact hH.2.2.2.2.1
  have a6 : f_X6_keep S = some (nI yr, wr T 0 2 1) := by
    unfold f_X6_keep
    rw [e]
    simp only [Option.bind_some, y4]
  obtain ⟨X, fX, eX⟩ := keep7_run1 (wr T 0 2 1) (fun T27 => (f_X7_keep_L29 6000 (fun T53 => (some ((rd (wr T53 108 4 (1 : Int32)) 109 (ix (784 : Int32))), (wr T53 108 4 (1 : Int32))))) (0 : Int32) T27))
  obtain ⟨Y, ⟨y1, y2, y3⟩, eY⟩ := keep7_run2 X (fun T53 => (some ((rd (wr T53 108 4 (1 : Int32)) 109 (ix (784 : Int32))), (wr T53 108 4 (1 : Int32)))))
  have oY : ∀ i, i ≠ 110 → i ≠ 0 → (i < 44 ∨ 87 ≤ i) → Y.1 i = S.1 i := fun i a b c => by
    rw [y1, fX.1 i a, wr1_ne b, o i (by omega)]
  have a7 : f_X7_keep (wr T 0 2 1) = some (nI yr, wr Y 108 4 1) := by
    unfold f_X7_keep
    rw [eX, eY]
    have : rd (wr Y 108 4 1) 109 (ix 784) = nI yr := by
      show (wr Y 108 4 1).1 109 784 = _
      rw [wr1_ne (by decide), oY 109 (by decide) (by decide) (by omega)]; exact hH.2.2.2.2.2.1
    rw [this]
  have lX : ∀ i, i ≠ 50 → X.2 i = S.2 i := fun i hi => by
    rw [fX.2.1]; show T.2 i = _; exact l1 i hi
  refine ⟨_, _, _, a6, a7, cnt, yr, dn, by omega, ?_, ⟨?_, Or.inr ⟨by rw [wr1_eq, if_pos rfl], cnt, yr, dn, by omega, ?_⟩⟩, ?_, ?_, ?_⟩
  · show BookRel cnt yr dn (fun i => (wr Y 108 4 1).1 (1 + i)) (Y.2 7) ((wr Y 108 4 1).1 109) (Y.2 111)
    rw [wr1_ne (by decide : (109 : Nat) ≠ 108), oY 109 (by decide) (by decide) (by omega), y2 7 (by decide), y2 111 (by decide), lX 7 (by decide), lX 111 (by decide)]
    exact g2.cong (fun i hi => by rw [wr1_ne (by omega), oY _ (by omega) (by omega) (by omega)])
  · rw [wr1_ne (by decide), y1, fX.1 0 (by decide), wr1_eq, if_pos rfl, wr1_eq, if_pos rfl]
  · show BookRel cnt yr dn (fun i => (wr Y 108 4 1).1 (44 + i)) (Y.2 50) ((wr Y 108 4 1).1 110) (Y.2 112)
    have oK : ∀ i, 44 ≤ i → i ≤ 86 → (wr Y 108 4 1).1 i = T.1 i := fun i a b => by
      rw [wr1_ne (by omega), y1, fX.1 i (by omega), wr1_ne (by omega)]
    refine g2.copied (fun k hk => ?_) (fun i x1 x2 k hk => ?_) (fun s hs => ⟨fun k hk => ?_, fun k hk => ?_⟩) (fun p hp => ⟨fun k hk => ?_, fun k hk => ?_⟩) (fun k hk => ?_) (fun k hk => ?_) (fun k hk => ?_)
    · show (wr Y 108 4 1).1 (44 + 0) k = S.1 (1 + 0) k
      rw [oK _ (by omega) (by omega)]; exact c1 k hk
    · rw [oK _ (by omega) (by omega)]; exact c2 i x1 x2 k hk
    · rw [oK _ (by omega) (by omega)]; exact (c3 s hs).1 k hk
    · rw [oK _ (by omega) (by omega)]; exact (c3 s hs).2 k hk
    · rw [oK _ (by omega) (by omega)]; exact (c4 p hp).1 k hk
    · rw [oK _ (by omega) (by omega)]; exact (c4 p hp).2 k hk
    · rw [wr1_ne (by decide), y1]
      have := fX.at (k := k) hk
      rw [Nat.zero_add] at this
      rw [this, wr1_ne (by decide), o 109 (by omega)]
    · rw [y2 50 (by decide), fX.2.1]
      show T.2 50 k = _
      exact l2 k hk
    · rw [y3 k hk, lX 111 (by decide)]
  · intro s hs
    have q : ∀ i, i ≠ 108 → i ≠ 110 → i ≠ 0 → (i < 44 ∨ 87 ≤ i) → (wr Y 108 4 1).1 i = S.1 i := fun i a b c d => by rw [wr1_ne a, oY i b c d]
    rw [q (88 + 2 * s) (by omega) (by omega) (by omega) (by omega), q (89 + 2 * s) (by omega) (by omega) (by omega) (by omega), q 113 (by omega) (by omega) (by omega) (by omega), q 114 (by omega) (by omega) (by omega) (by omega), q 115 (by omega) (by omega) (by omega) (by omega)]
    exact g5 s hs
  · have q : ∀ i, i ≠ 108 → i ≠ 110 → i ≠ 0 → (i < 44 ∨ 87 ≤ i) → (wr Y 108 4 1).1 i = S.1 i := fun i a b c d => by rw [wr1_ne a, oY i b c d]
    rw [q 101 (by omega) (by omega) (by omega) (by omega), q 104 (by omega) (by omega) (by omega) (by omega), q 109 (by omega) (by omega) (by omega) (by omega), q 116 (by omega) (by omega) (by omega) (by omega), wr1_eq, if_neg (by decide), oY 108 (by omega) (by omega) (by omega)]
    exact g6
  · refine ⟨?_, by rw [wr1_ne (by decide), oY 106 (by decide) (by decide) (by omega)]; exact g7.2⟩
    rw [wr1_ne (by decide), y1, fX.1 0 (by decide), wr1_eq, if_neg (by decide), o 0 (by omega), wr1_eq, if_neg (by decide), y1, fX.1 108 (by decide), wr1_ne (by decide), o 108 (by omega)]
    exact g7.1
theorem sm_back : Sm Rel f_X6_back f_X7_back := by
  intro B S hB hR
  obtain ⟨cnt, yr, dn, g1, g2, ⟨g3, g4⟩, g5, g6, g7⟩ := id hR
  rcases g4 with g4 | ⟨g4, cnt', yr', dn', k1, k2⟩
  · have e0 : rd S 0 2 = 0 := g3.trans g4
    have eF : rd (f_X6_finding (-6) S).2 108 4 = 0 := by rw [fnd_rd _ S (by decide)]; exact g4
    exact ⟨-6, (f_X6_finding (-6) S).2, (f_X7_found (-6) (f_X6_finding (-6) S).2).2, by simp only [f_X6_back, e0, if_true]; rfl, by simp only [f_X7_back, eF, if_true]; rfl, hR.found _ _⟩
  · have hH := k2.1
    have n0 : ¬ rd S 0 2 = 0 := fun q => by
      have : S.1 0 2 = 1 := g3.trans g4
      rw [show rd S 0 2 = S.1 0 2 from rfl, this] at q
      exact absurd q (by decide)
    obtain ⟨T, e, o, l1, l2, c1, c2, c3, c4⟩ := become_b_run S
    have y4 : rd (wr T 101 0 0) 1 4 = nI yr' := by
      show (wr T 101 0 0).1 1 4 = _
      rw [wr1_ne (by decide), c1 4 (by omega)]; exact hH.2.2.2.2.1
    have a6 : f_X6_back S = some (nI yr', wr T 101 0 0) := by
      simp only [f_X6_back, n0, if_false, e, Option.bind_some, f_X1_forget, y4]
    obtain ⟨X, fX, eX⟩ := back7_run1 (wr T 101 0 0) (fun T41 => (f_X7_back_L43 6000 (fun T67 => (some ((rd (wr T67 108 9 (0 : Int32)) 109 (ix (784 : Int32))), (wr T67 108 9 (0 : Int32))))) (0 : Int32) T41))
    obtain ⟨Y, ⟨y1, y2, y3⟩, eY⟩ := back7_run2 X (fun T67 => (some ((rd (wr T67 108 9 (0 : Int32)) 109 (ix (784 : Int32))), (wr T67 108 9 (0 : Int32)))))
    have oY : ∀ i, i ≠ 109 → i ≠ 101 → (i < 1 ∨ 44 ≤ i) → Y.1 i = S.1 i := fun i a b c => by
      rw [y1, fX.1 i a, wr1_ne b, o i (by omega)]
    have aY : ∀ k, k < 788 → Y.1 109 k = S.1 110 k := fun k hk => by
      rw [y1]
      have := fX.at (k := k) hk
      rw [Nat.zero_add] at this
      rw [this, wr1_ne (by decide), o 110 (by omega)]
    have a7 : f_X7_back (wr T 101 0 0) = some (nI yr', wr Y 108 9 0) := by
      have n4 : ¬ rd (wr T 101 0 0) 108 4 = 0 := fun q => by
        have : rd (wr T 101 0 0) 108 4 = 1 := by
          show (wr T 101 0 0).1 108 4 = 1
          rw [wr1_ne (by decide), o 108 (by omega)]; exact g4
        rw [this] at q; exact absurd q (by decide)
      simp only [f_X7_back, n4, if_false]
      rw [eX, eY]
      have : rd (wr Y 108 9 0) 109 (ix 784) = nI yr' := by
        show (wr Y 108 9 0).1 109 784 = _
        rw [wr1_ne (by decide), aY 784 (by decide)]; exact hH.2.2.2.2.2.1
      rw [this]
    have lX : ∀ i, i ≠ 7 → X.2 i = S.2 i := fun i hi => by
      rw [fX.2.1]; show T.2 i = _; exact l1 i hi
    refine ⟨_, _, _, a6, a7, hR.booked (cnt := cnt') (yr := yr') (dn := dn') (by omega) ?_ ?_ ?_ ?_ ?_ ?_ ?_ ?_ (by rw [wr1_ne (by decide), oY 106 (by decide) (by decide) (by omega)])⟩
    · show BookRel cnt' yr' dn' (fun i => (wr Y 108 9 0).1 (1 + i)) (Y.2 7) ((wr Y 108 9 0).1 109) (Y.2 111)
      have oK : ∀ i, 1 ≤ i → i ≤ 43 → (wr Y 108 9 0).1 i = T.1 i := fun i a b => by
        rw [wr1_ne (by omega), y1, fX.1 i (by omega), wr1_ne (by omega)]
      refine k2.copied (fun k hk => ?_) (fun i x1 x2 k hk => ?_) (fun s hs => ⟨fun k hk => ?_, fun k hk => ?_⟩) (fun p hp => ⟨fun k hk => ?_, fun k hk => ?_⟩) (fun k hk => ?_) (fun k hk => ?_) (fun k hk => ?_)
      · show (wr Y 108 9 0).1 (1 + 0) k = S.1 (44 + 0) k
        rw [oK _ (by omega) (by omega)]; exact c1 k hk
      · rw [oK _ (by omega) (by omega)]; exact c2 i x1 x2 k hk
      · rw [oK _ (by omega) (by omega)]; exact (c3 s hs).1 k hk
      · rw [oK _ (by omega) (by omega)]; exact (c3 s hs).2 k hk
      · rw [oK _ (by omega) (by omega)]; exact (c4 p hp).1 k hk
      · rw [oK _ (by omega) (by omega)]; exact (c4 p hp).2 k hk
      · rw [wr1_ne (by decide), aY k hk]
      · rw [y2 7 (by decide), fX.2.1]
        show T.2 7 k = _
        exact l2 k hk
      · rw [y3 k hk, lX 112 (by decide)]
    · rw [wr1_eq (i := 108), if_pos rfl]
      apply LayRel.no
      rw [wr1_ne (by decide), y1, fX.1 101 (by decide), wr1_eq, if_pos rfl]
    · rw [wr1_ne (by decide), oY 0 (by decide) (by decide) (by omega)]
    · intro i a b; rw [wr1_ne (by omega), oY i (by omega) (by omega) (by omega)]
    · intro i a b; rw [wr1_ne (by omega), oY i (by omega) (by omega) (by omega)]
    · intro k hk; rw [wr1_eq, if_neg hk, oY 108 (by omega) (by omega) (by omega)]
    · show Y.2 50 = _; rw [y2 50 (by decide), lX 50 (by decide)]
    · show Y.2 112 = _; rw [y2 112 (by decide), lX 112 (by decide)]
