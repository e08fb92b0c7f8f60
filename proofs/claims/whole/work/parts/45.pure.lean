/-- one call on both books: the same answer, and the relation is kept -/
def Sm {α : Type} (Rel : Nat → St → Prop) (F6 F7 : St → Option (α × St)) : Prop := ∀ (B : Nat) (S : St), B < 600 → Rel B S → ∃ (v : α) (S1 S2 : St), F6 S = some (v, S1) ∧ F7 S1 = some (v, S2) ∧ Rel (B + 1) S2
theorem Sm.use {α : Type} {Rel : Nat → St → Prop} {F6 F7 : St → Option (α × St)} (h : Sm Rel F6 F7) {B : Nat} {S : St} (hB : B < 600) (hR : Rel B S) {N : St → Option Bool} (hN : ∀ S2, Rel (B + 1) S2 → N S2 = some true) {D : α → α → Option Bool → Option Bool → Option Bool} (hD : ∀ v A C, D v v A C = A) : ((F6 S).bind fun v => (F7 v.2).bind fun u => D v.1 u.1 (N u.2) (some false)) = some true := by
  obtain ⟨v, S1, S2, h1, h2, h3⟩ := h B S hB hR
  rw [h1]
  show ((F7 S1).bind fun u => D v u.1 (N u.2) (some false)) = some true
  rw [h2]
  show D v v (N S2) (some false) = some true
  rw [hD]
  exact hN S2 h3
def Sms (Rel : Nat → St → Prop) : Prop := (∀ (x0 : Int32) (x1 : Int32) (x2 : Int32) (x3 : Int32) (x4 : Int32), Sm Rel (f_X6_sort x0 x1 x2 x3 x4) (f_X7_sort x0 x1 x2 x3 x4)) ∧ (∀ (x0 : Int32) (x1 : Int32) (x2 : Bool), Sm Rel (f_X6_takes x0 x1 x2) (f_X7_takes x0 x1 x2)) ∧ (∀ (x0 : Int32) (x1 : Int32) (x2 : Int32), Sm Rel (f_X6_at x0 x1 x2) (f_X7_at x0 x1 x2)) ∧ (∀ (x0 : Int32), Sm Rel (fun S => some (f_X6_distance x0 S)) (f_X7_distance x0)) ∧ (∀ (x0 : Int32) (x1 : Int32) (x2 : Int32) (x3 : Int32), Sm Rel (f_X6_plant x0 x1 x2 x3) (f_X7_plant x0 x1 x2 x3)) ∧ (∀ (x0 : Int32) (x1 : Int32), Sm Rel (f_X6_pull x0 x1) (f_X7_pull x0 x1)) ∧ (∀ (x0 : Int32) (x1 : Int32), Sm Rel (f_X6_as x0 x1) (f_X7_as x0 x1)) ∧ (∀ (x0 : Int32) (x1 : Int32), Sm Rel (f_X6_of x0 x1) (f_X7_of x0 x1)) ∧ (∀ (x0 : Int32) (x1 : Int32), Sm Rel (f_X6_cut x0 x1) (f_X7_cut x0 x1)) ∧ (∀ (x0 : Int32) (x1 : Int32) (x2 : Int32), Sm Rel (f_X6_sheet x0 x1 x2) (f_X7_sheet x0 x1 x2)) ∧ (∀ (x0 : Int32) (x1 : Int32) (x2 : Int32), Sm Rel (f_X6_put x0 x1 x2) (f_X7_put x0 x1 x2)) ∧ (∀ (x0 : Int32) (x1 : Int32) (x2 : Int32) (x3 : Int32) (x4 : Int32), Sm Rel (f_X6_copy x0 x1 x2 x3 x4) (f_X7_copy x0 x1 x2 x3 x4)) ∧ (∀ (x0 : Int32), Sm Rel (fun S => some (f_X6_name x0 S)) (f_X7_name x0)) ∧ (∀ (x0 : Int32), Sm Rel (f_X6_warmth x0) (f_X7_warmth x0)) ∧ (∀ (x0 : Int32), Sm Rel (f_X6_sum x0) (f_X7_sum x0)) ∧ (∀ (x0 : Int32), Sm Rel (f_X6_blooms x0) (f_X7_blooms x0)) ∧ (∀ (x0 : Int32) (x1 : Int32) (x2 : Int32), Sm Rel (f_X6_frost x0 x1 x2) (f_X7_frost x0 x1 x2)) ∧ (∀ (x0 : Int32) (x1 : Int32) (x2 : Int32), Sm Rel (f_X6_partners x0 x1 x2) (f_X7_partners x0 x1 x2)) ∧ (∀ (x0 : Int32), Sm Rel (f_X6_go x0) (f_X7_go x0)) ∧ (∀ (x0 : Int32) (x1 : Int32), Sm Rel (f_X6_fruits x0 x1) (f_X7_fruits x0 x1)) ∧ (∀ (x0 : Int32) (x1 : Int32), Sm Rel (f_X6_thin x0 x1) (f_X7_thin x0 x1)) ∧ (∀ (x0 : Int32), Sm Rel (fun S => some (f_X6_hours x0 S)) (f_X7_hours x0)) ∧ (∀ (x0 : Int32), Sm Rel (f_X6_store x0) (f_X7_store x0)) ∧ (∀ (x0 : Int32) (x1 : Int32), Sm Rel (f_X6_take x0 x1) (f_X7_take x0 x1)) ∧ (∀ (x0 : Int32), Sm Rel (f_X6_all x0) (f_X7_all x0)) ∧ (∀ (x0 : Int32), Sm Rel (f_X6_lone x0) (f_X7_lone x0)) ∧ (Sm Rel (f_X6_best ) (f_X7_best )) ∧ (∀ (x0 : Int32), Sm Rel (f_X6_given x0) (f_X7_given x0)) ∧ (Sm Rel (f_X6_keep ) (f_X7_keep )) ∧ (Sm Rel (f_X6_back ) (f_X7_back )) ∧ (∀ (x0 : Int32), Sm Rel (fun S => some (f_X6_told x0 S)) (f_X7_told x0))
set_option maxHeartbeats 4000000 in
theorem pure_of {Rel : Nat → St → Prop} (H : Sms Rel) (hm : ∀ B S, Rel B S → Rel (B + 1) S) {L : Nat} (hL : L ≤ 3072) (xs : Nat → Int32) : ∀ (n j : Nat) (S : St), j + 6 * n ≥ L + 6 → j ≤ L → n ≤ 600 → Rel (600 - n) S → f_law n xs L j S = some true := by
  intro n
  induction n with
  | zero =>
    intro j S h1 h2 _ _
    omega
  | succ n ih =>
    intro j S h1 h2 h3 hR
    rw [f_law]
    by_cases h0 : L < j + 6
    · rw [if_pos h0]
    · rw [if_neg h0]
      have hB : 600 - (n + 1) < 600 := by omega
      have hN : ∀ S2, Rel (600 - (n + 1) + 1) S2 → f_law n xs L (j + 6) S2 = some true := fun S2 h => ih (j + 6) S2 (by omega) (by omega) (by omega) (by rw [show 600 - n = 600 - (n + 1) + 1 by omega]; exact h)
      by_cases c0 : xs j &&& 31 = (0 : Int32)
      · rw [if_pos c0]
        exact (H.1 (xs (j + 1)) (xs (j + 2)) (xs (j + 3)) (xs (j + 4)) (xs (j + 5))).use hB hR hN (D := fun v u A C => if v = u then A else C) (fun v A C => if_pos rfl)
      rw [if_neg c0]
      by_cases c1 : xs j &&& 31 = (1 : Int32)
      · rw [if_pos c1]
        by_cases z : xs (j + 3) = 0
        · rw [if_pos z]
          have q := (H.2.1 (xs (j + 1)) (xs (j + 2)) false).use hB hR hN (D := fun v u A C => if v = u then A else C) (fun v A C => if_pos rfl)
          simpa [z] using q
        · rw [if_neg z]
          have q := (H.2.1 (xs (j + 1)) (xs (j + 2)) true).use hB hR hN (D := fun v u A C => if v = u then A else C) (fun v A C => if_pos rfl)
          simpa [z] using q
      rw [if_neg c1]
      by_cases c2 : xs j &&& 31 = (2 : Int32)
      · rw [if_pos c2]
        exact (H.2.2.1 (xs (j + 1)) (xs (j + 2)) (xs (j + 3))).use hB hR hN (D := fun v u A C => if v = u then A else C) (fun v A C => if_pos rfl)
      rw [if_neg c2]
      by_cases c3 : xs j &&& 31 = (3 : Int32)
      · rw [if_pos c3]
        exact (H.2.2.2.1 (xs (j + 1))).use hB hR hN (D := fun v u A C => if v = u then A else C) (fun v A C => if_pos rfl)
      rw [if_neg c3]
      by_cases c4 : xs j &&& 31 = (4 : Int32)
      · rw [if_pos c4]
        exact (H.2.2.2.2.1 (xs (j + 1)) (xs (j + 2)) (xs (j + 3)) (xs (j + 4))).use hB hR hN (D := fun v u A C => if v = u then A else C) (fun v A C => if_pos rfl)
      rw [if_neg c4]
      by_cases c5 : xs j &&& 31 = (5 : Int32)
      · rw [if_pos c5]
        exact (H.2.2.2.2.2.1 (xs (j + 1)) (xs (j + 2))).use hB hR hN (D := fun v u A C => if v = u then A else C) (fun v A C => if_pos rfl)
      rw [if_neg c5]
      by_cases c6 : xs j &&& 31 = (6 : Int32)
      · rw [if_pos c6]
        exact (H.2.2.2.2.2.2.1 (xs (j + 1)) (xs (j + 2))).use hB hR hN (D := fun v u A C => if v = u then A else C) (fun v A C => if_pos rfl)
      rw [if_neg c6]
      by_cases c7 : xs j &&& 31 = (7 : Int32)
      · rw [if_pos c7]
        exact (H.2.2.2.2.2.2.2.1 (xs (j + 1)) (xs (j + 2))).use hB hR hN (D := fun v u A C => if v = u then A else C) (fun v A C => if_pos rfl)
      rw [if_neg c7]
      by_cases c8 : xs j &&& 31 = (8 : Int32)
      · rw [if_pos c8]
        exact (H.2.2.2.2.2.2.2.2.1 (xs (j + 1)) (xs (j + 2))).use hB hR hN (D := fun v u A C => if v = u then A else C) (fun v A C => if_pos rfl)
      rw [if_neg c8]
      by_cases c9 : xs j &&& 31 = (9 : Int32)
      · rw [if_pos c9]
        exact (H.2.2.2.2.2.2.2.2.2.1 (xs (j + 1)) (xs (j + 2)) (xs (j + 3))).use hB hR hN (D := fun v u A C => if v = u then A else C) (fun v A C => if_pos rfl)
      rw [if_neg c9]
      by_cases c10 : xs j &&& 31 = (10 : Int32)
      · rw [if_pos c10]
        exact (H.2.2.2.2.2.2.2.2.2.2.1 (xs (j + 1)) (xs (j + 2)) (xs (j + 3))).use hB hR hN (D := fun v u A C => if v = u then A else C) (fun v A C => if_pos rfl)
      rw [if_neg c10]
      by_cases c11 : xs j &&& 31 = (11 : Int32)
      · rw [if_pos c11]
        exact (H.2.2.2.2.2.2.2.2.2.2.2.1 (xs (j + 1)) (xs (j + 2)) (xs (j + 3)) (xs (j + 4)) (xs (j + 5))).use hB hR hN (D := fun v u A C => if v = u then A else C) (fun v A C => if_pos rfl)
      rw [if_neg c11]
      by_cases c12 : xs j &&& 31 = (12 : Int32)
      · rw [if_pos c12]
        exact (H.2.2.2.2.2.2.2.2.2.2.2.2.1 (xs (j + 1))).use hB hR hN (D := fun v u A C => if v = u then A else C) (fun v A C => if_pos rfl)
      rw [if_neg c12]
      by_cases c13 : xs j &&& 31 = (13 : Int32)
      · rw [if_pos c13]
        exact (H.2.2.2.2.2.2.2.2.2.2.2.2.2.1 (xs (j + 1))).use hB hR hN (D := fun v u A C => if v = u then A else C) (fun v A C => if_pos rfl)
      rw [if_neg c13]
      by_cases c14 : xs j &&& 31 = (14 : Int32)
      · rw [if_pos c14]
        exact (H.2.2.2.2.2.2.2.2.2.2.2.2.2.2.1 (xs (j + 1))).use hB hR hN (D := fun v u A C => if v = u then A else C) (fun v A C => if_pos rfl)
      rw [if_neg c14]
      by_cases c15 : xs j &&& 31 = (15 : Int32)
      · rw [if_pos c15]
        exact (H.2.2.2.2.2.2.2.2.2.2.2.2.2.2.2.1 (xs (j + 1))).use hB hR hN (D := fun v u A C => if v = u then A else C) (fun v A C => if_pos rfl)
      rw [if_neg c15]
      by_cases c16 : xs j &&& 31 = (16 : Int32)
      · rw [if_pos c16]
        exact (H.2.2.2.2.2.2.2.2.2.2.2.2.2.2.2.2.1 (xs (j + 1)) (xs (j + 2)) (xs (j + 3))).use hB hR hN (D := fun v u A C => if v = u then A else C) (fun v A C => if_pos rfl)
      rw [if_neg c16]
      by_cases c17 : xs j &&& 31 = (17 : Int32)
      · rw [if_pos c17]
        exact (H.2.2.2.2.2.2.2.2.2.2.2.2.2.2.2.2.2.1 (xs (j + 1)) (xs (j + 2)) (xs (j + 3))).use hB hR hN (D := fun v u A C => if v = u then A else C) (fun v A C => if_pos rfl)
      rw [if_neg c17]
      by_cases c18 : xs j &&& 31 = (18 : Int32)
      · rw [if_pos c18]
        exact (H.2.2.2.2.2.2.2.2.2.2.2.2.2.2.2.2.2.2.1 (xs (j + 1))).use hB hR hN (D := fun v u A C => if v = u then A else C) (fun v A C => if_pos rfl)
      rw [if_neg c18]
      by_cases c19 : xs j &&& 31 = (19 : Int32)
      · rw [if_pos c19]
        exact (H.2.2.2.2.2.2.2.2.2.2.2.2.2.2.2.2.2.2.2.1 (xs (j + 1)) (xs (j + 2))).use hB hR hN (D := fun v u A C => if v = u then A else C) (fun v A C => if_pos rfl)
      rw [if_neg c19]
      by_cases c20 : xs j &&& 31 = (20 : Int32)
      · rw [if_pos c20]
        exact (H.2.2.2.2.2.2.2.2.2.2.2.2.2.2.2.2.2.2.2.2.1 (xs (j + 1)) (xs (j + 2))).use hB hR hN (D := fun v u A C => if v = u then A else C) (fun v A C => if_pos rfl)
      rw [if_neg c20]
      by_cases c21 : xs j &&& 31 = (21 : Int32)
      · rw [if_pos c21]
        exact (H.2.2.2.2.2.2.2.2.2.2.2.2.2.2.2.2.2.2.2.2.2.1 (xs (j + 1))).use hB hR hN (D := fun v u A C => if v = u then A else C) (fun v A C => if_pos rfl)
      rw [if_neg c21]
      by_cases c22 : xs j &&& 31 = (22 : Int32)
      · rw [if_pos c22]
        exact (H.2.2.2.2.2.2.2.2.2.2.2.2.2.2.2.2.2.2.2.2.2.2.1 (xs (j + 1))).use hB hR hN (D := fun v u A C => if v = u then A else C) (fun v A C => if_pos rfl)
      rw [if_neg c22]
      by_cases c23 : xs j &&& 31 = (23 : Int32)
      · rw [if_pos c23]
        exact (H.2.2.2.2.2.2.2.2.2.2.2.2.2.2.2.2.2.2.2.2.2.2.2.1 (xs (j + 1)) (xs (j + 2))).use hB hR hN (D := fun v u A C => if v = u then A else C) (fun v A C => if_pos rfl)
      rw [if_neg c23]
      by_cases c24 : xs j &&& 31 = (24 : Int32)
      · rw [if_pos c24]
        exact (H.2.2.2.2.2.2.2.2.2.2.2.2.2.2.2.2.2.2.2.2.2.2.2.2.1 (xs (j + 1))).use hB hR hN (D := fun v u A C => if v = u then A else C) (fun v A C => if_pos rfl)
      rw [if_neg c24]
      by_cases c25 : xs j &&& 31 = (25 : Int32)
      · rw [if_pos c25]
        exact (H.2.2.2.2.2.2.2.2.2.2.2.2.2.2.2.2.2.2.2.2.2.2.2.2.2.1 (xs (j + 1))).use hB hR hN (D := fun v u A C => if v = u then A else C) (fun v A C => if_pos rfl)
      rw [if_neg c25]
      by_cases c26 : xs j &&& 31 = (26 : Int32)
      · rw [if_pos c26]
        exact (H.2.2.2.2.2.2.2.2.2.2.2.2.2.2.2.2.2.2.2.2.2.2.2.2.2.2.1 ).use hB hR hN (D := fun v u A C => if v = u then A else C) (fun v A C => if_pos rfl)
      rw [if_neg c26]
      by_cases c27 : xs j &&& 31 = (27 : Int32)
      · rw [if_pos c27]
        exact (H.2.2.2.2.2.2.2.2.2.2.2.2.2.2.2.2.2.2.2.2.2.2.2.2.2.2.2.1 (xs (j + 1))).use hB hR hN (D := fun v u A C => if v = u then A else C) (fun v A C => if_pos rfl)
      rw [if_neg c27]
      by_cases c28 : xs j &&& 31 = (28 : Int32)
      · rw [if_pos c28]
        exact (H.2.2.2.2.2.2.2.2.2.2.2.2.2.2.2.2.2.2.2.2.2.2.2.2.2.2.2.2.1 ).use hB hR hN (D := fun v u A C => if v = u then A else C) (fun v A C => if_pos rfl)
      rw [if_neg c28]
      by_cases c29 : xs j &&& 31 = (29 : Int32)
      · rw [if_pos c29]
        exact (H.2.2.2.2.2.2.2.2.2.2.2.2.2.2.2.2.2.2.2.2.2.2.2.2.2.2.2.2.2.1 ).use hB hR hN (D := fun v u A C => if v = u then A else C) (fun v A C => if_pos rfl)
      rw [if_neg c29]
      by_cases c30 : xs j &&& 31 = (30 : Int32)
      · rw [if_pos c30]
        exact (H.2.2.2.2.2.2.2.2.2.2.2.2.2.2.2.2.2.2.2.2.2.2.2.2.2.2.2.2.2.2 (xs (j + 1))).use hB hR hN (D := fun v u A C => if v = u then A else C) (fun v A C => if_pos rfl)
      rw [if_neg c30]
      exact hN S (hm _ _ hR)
theorem pure_all {Rel : Nat → St → Prop} (H : Sms Rel) (hm : ∀ B S, Rel B S → Rel (B + 1) S) (h0 : Rel 0 s_X7_init_108) {L : Nat} (hL : L ≤ 3072) (xs : Nat → Int32) : f_law 600 xs L 0 s_X7_init_108 = some true := pure_of H hm hL xs 600 0 _ (by omega) (by omega) (by omega) h0
