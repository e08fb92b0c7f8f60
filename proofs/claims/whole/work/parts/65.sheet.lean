theorem begin4_run (t : Nat) (S : St) (K : St → Option St) : ∃ T, Fill S (t + 1) 0 (fun _ => 0) 50 T ∧ f_X4_begin_L20 6000 K t 0 S = K T := by
  have := loop_up (N := 50) (fun n i T => f_X4_begin_L20 n K t i T) K (fun j T => Fill S (t + 1) 0 (fun _ => 0) j T) (fun n j T hj hP => by
    refine ⟨_, hP.step, ?_⟩
    have h1 : (nI j < (50 : Int32)) = True := ltT hj (by decide)
    have h2 : inb (nI j) 50 = true := inb_nI hj (by decide)
    have h3 : ix (nI j) = 0 + j := by rw [ix_nI (by omega)]; omega
    simp only [f_X4_begin_L20, h1, h2, h3, nI_1, if_true]) (fun n T hP => by
    have h1 : (nI 50 < (50 : Int32)) = False := ltF (N := 50) (by decide) (by decide)
    simp only [f_X4_begin_L20, h1, if_false]) (fuel := 6000) (by decide) (Fill.zero S (t + 1) 0 (fun _ => 0))
  rw [nI_0] at this
  exact this
theorem sheet7_run (s : Nat) (hs : s < 4) (S : St) (K : Int32 → St → Option (Int32 × St)) : ∃ T, Fill S 115 (50 * s) (fun _ => 0) 50 T ∧ f_X7_sheet_L70 6000 K (nI s) 0 S = K (nI s) T := by
  have := loop_up (N := 50) (fun n i T => f_X7_sheet_L70 n K (nI s) i T) (K (nI s)) (fun j T => Fill S 115 (50 * s) (fun _ => 0) j T) (fun n j T hj hP => by
    refine ⟨_, hP.step, ?_⟩
    have h1 : (nI j < (50 : Int32)) = True := ltT hj (by decide)
    have h0 : (50 : Int32) * nI s + nI j = nI (50 * s + j) := by rw [show (50 : Int32) = nI 50 from rfl, pk_mul, nI_add]
    have h2 : inb (nI (50 * s + j)) 200 = true := inb_nI (by omega) (by decide)
    have h3 : ix (nI (50 * s + j)) = 50 * s + j := ix_nI (by omega)
    simp only [f_X7_sheet_L70, h1, h0, h2, h3, nI_1, if_true]) (fun n T hP => by
    have h1 : (nI 50 < (50 : Int32)) = False := ltF (N := 50) (by decide) (by decide)
    simp only [f_X7_sheet_L70, h1, if_false]) (fuel := 6000) (by decide) (Fill.zero S 115 (50 * s) (fun _ => 0))
  rw [nI_0] at this
  exact this
theorem Rel.begun {B : Nat} {S S1 S2 : St} (hR : Rel B S) {s n : Nat} {k : Int32} (hs : s < 4) (hn : n ≤ 50) (hk : k = 0 ∨ k = 1 ∨ k = 2) (hk0 : k = 0 → n = 0) (f1 : Fill (wr (wr S (88 + 2 * s) 0 k) (88 + 2 * s) 1 (nI n)) (88 + 2 * s + 1) 0 (fun _ => 0) 50 S1) (f2 : Fill (wr (wr S1 113 s k) 114 s (nI n)) 115 (50 * s) (fun _ => 0) 50 S2) : Rel (B + 1) S2 ∧ S1.1 (88 + 2 * s) 1 = nI n ∧ S2.1 114 s = nI n := by
  have a1 : ∀ i, i ≠ 88 + 2 * s + 1 → i ≠ 88 + 2 * s → S1.1 i = S.1 i := fun i x y => by rw [f1.1 i x, wr1_ne y, wr1_ne y]
  have a2 : ∀ i, i ≠ 113 → i ≠ 114 → i ≠ 115 → S2.1 i = S1.1 i := fun i x y z => by rw [f2.1 i z, wr1_ne y, wr1_ne x]
  have b1 : ∀ k', S1.1 (88 + 2 * s) k' = if k' = 1 then nI n else if k' = 0 then k else S.1 (88 + 2 * s) k' := fun k' => by
    rw [f1.1 _ (by omega), wr1_eq, wr1_eq]
  have b3 : ∀ k', S2.1 113 k' = if k' = s then k else S.1 113 k' := fun k' => by
    rw [f2.1 _ (by omega), wr1_ne (by omega), wr1_eq, a1 113 (by omega) (by omega)]
  have b4 : ∀ k', S2.1 114 k' = if k' = s then nI n else S.1 114 k' := fun k' => by
    rw [f2.1 _ (by omega), wr1_eq, wr1_ne (by omega), a1 114 (by omega) (by omega)]
  have b5 : ∀ k', (k' < 50 * s ∨ 50 * s + 50 ≤ k') → S2.1 115 k' = S.1 115 k' := fun k' q => by
    rw [f2.out q, wr1_ne (by omega), wr1_ne (by omega), a1 115 (by omega) (by omega)]
  refine ⟨hR.sheeted ?_ ?_ ?_, by rw [b1, if_pos rfl], by rw [b4, if_pos rfl]⟩
  · intro i hi
    rw [a2 i (by omega) (by omega) (by omega), a1 i (by omega) (by omega)]
  · rw [f2.2.1]; show S1.2 = S.2; rw [f1.2.1]; rfl
  · intro h t ht
    obtain ⟨q1, q2, q3, q4, q5⟩ := h t ht
    by_cases e : t = s
    · subst e
      rw [a2 (88 + 2 * t) (by omega) (by omega) (by omega), a2 (89 + 2 * t) (by omega) (by omega) (by omega), b1, b1, b3, b4, if_pos rfl, if_pos rfl, if_neg (by decide), if_pos rfl, if_pos rfl]
      refine ⟨rfl, hk, rfl, ⟨n, hn, rfl, hk0⟩, fun i hi => ?_⟩
      have e1 : S1.1 (89 + 2 * t) i = 0 := by
        have := f1.at (k := i) hi
        rw [show 88 + 2 * t + 1 = 89 + 2 * t from by omega, Nat.zero_add] at this
        exact this
      rw [e1, f2.at hi]
    · rw [a2 (88 + 2 * t) (by omega) (by omega) (by omega), a2 (89 + 2 * t) (by omega) (by omega) (by omega), a1 _ (by omega) (by omega), a1 (89 + 2 * t) (by omega) (by omega), b3, b4, if_neg e, if_neg e]
      exact ⟨q1, q2, q3, q4, fun i hi => by rw [b5 _ (by omega)]; exact q5 i hi⟩
theorem sm_sheet (x y z : Int32) : Sm Rel (f_X6_sheet x y z) (f_X7_sheet x y z) := by
  intro B S hB hR
  by_cases h1 : f_X6_isSheet x = true
  · by_cases h2 : f_X6_within y 0 2 = true
    · by_cases h3 : z < 0
      · exact ⟨-3, (f_X6_finding (-3) S).2, (f_X7_found (-3) (f_X6_finding (-3) S).2).2, by simp only [f_X6_sheet, h1, h2, h3, if_true]; rfl, by simp only [f_X7_sheet, isSheet_eq, in_eq, h1, h2, h3, if_true]; rfl, hR.found _ _⟩
      · by_cases h4 : (50 : Int32) < z
        · exact ⟨-1, (f_X6_finding (-1) S).2, (f_X7_found (-1) (f_X6_finding (-1) S).2).2, by simp only [f_X6_sheet, h1, h2, h3, h4, if_true, if_false]; rfl, by simp only [f_X7_sheet, isSheet_eq, in_eq, h1, h2, h3, h4, if_true, if_false]; rfl, hR.found _ _⟩
        · obtain ⟨s, -, hs3, rfl⟩ := within_nat (a := 0) (b := 3) (by decide) (by decide) h1
          have hs : s < 4 := by omega
          obtain ⟨n, hn31, rfl⟩ := nI_of h3
          have hn : n ≤ 50 := by
            rcases Nat.lt_or_ge 50 n with q | q
            · exact absurd (nI_lt (a := 50) q hn31) h4
            · exact q
          have hk : y = 0 ∨ y = 1 ∨ y = 2 := by
            obtain ⟨m, -, hm, rfl⟩ := within_nat (a := 0) (b := 2) (by decide) (by decide) h2
            have : m = 0 ∨ m = 1 ∨ m = 2 := by omega
            rcases this with rfl | rfl | rfl
            · exact Or.inl rfl
            · exact Or.inr (Or.inl rfl)
            · exact Or.inr (Or.inr rfl)
          have hin : inb (nI s) 4 = true := inb_nI hs (by decide)
          have hix : ix (nI s) = s := ix_nI (by omega)
          have key : ∀ m : Nat, m ≤ 50 → (y = 0 → m = 0) → f_X4_begin (88 + 2 * s) y (nI n) S = f_X4_begin_J15 (88 + 2 * s) (nI m) (88 + 2 * s) (wr S (88 + 2 * s) 0 y) → (∀ T, f_X7_sheet (nI s) y (nI n) T = f_X7_sheet_J66 (nI s) (nI m) (nI s) (wr T 113 s y)) → ∃ (v : Int32) (S1 S2 : St), f_X6_sheet (nI s) y (nI n) S = some (v, S1) ∧ f_X7_sheet (nI s) y (nI n) S1 = some (v, S2) ∧ Rel (B + 1) S2 := by
            intro m hm hm0 w1 w2
            obtain ⟨S1, f1, e1⟩ := begin4_run (88 + 2 * s) (wr (wr S (88 + 2 * s) 0 y) (88 + 2 * s) 1 (nI m)) (fun T39 => some T39)
            obtain ⟨S2, f2, e2⟩ := sheet7_run s hs (wr (wr S1 113 s y) 114 s (nI m)) (fun e96_1 T96 => (if inb e96_1 4 = true then (some ((rd T96 114 (ix e96_1)), T96)) else none))
            obtain ⟨r1, r2, r3⟩ := hR.begun hs hm hk hm0 f1 f2
            refine ⟨nI m, S1, S2, ?_, ?_, r1⟩
            · have e1' : f_X4_begin (88 + 2 * s) y (nI n) S = some S1 := by rw [w1]; exact e1
              simp only [f_X6_sheet, h1, h2, h3, h4, hin, hix, if_true, if_false, e1', Option.bind_some]
              rw [show rd S1 (88 + 2 * s) 1 = nI m from r2]
            · rw [w2]
              simp only [f_X7_sheet_J66, hin, hix, if_true]
              rw [e2]
              simp only [hin, hix, if_true]
              rw [show rd S2 114 s = nI m from r3]
          by_cases y0 : y = 0
          · exact key 0 (by omega) (fun _ => rfl) (by simp only [f_X4_begin, y0, if_true]; rfl) (fun T => by subst y0; simp only [f_X7_sheet, isSheet_eq, in_eq, h1, h2, h3, h4, hin, hix, if_true, if_false]; rfl)
          · exact key n hn (fun q => absurd q y0) (by simp only [f_X4_begin, y0, if_false]) (fun T => by simp only [f_X7_sheet, isSheet_eq, in_eq, h1, h2, h3, h4, hin, hix, y0, if_true, if_false])
    · exact ⟨-1, (f_X6_finding (-1) S).2, (f_X7_found (-1) (f_X6_finding (-1) S).2).2, by simp only [f_X6_sheet, h1, h2, if_true, if_false]; rfl, by simp only [f_X7_sheet, isSheet_eq, in_eq, h1, h2, if_true, if_false]; rfl, hR.found _ _⟩
  · exact ⟨-1, (f_X6_finding (-1) S).2, (f_X7_found (-1) (f_X6_finding (-1) S).2).2, by simp only [f_X6_sheet, h1, if_false]; rfl, by simp only [f_X7_sheet, isSheet_eq, h1, if_false]; rfl, hR.found _ _⟩
