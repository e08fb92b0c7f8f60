theorem ix_0 : ix (0 : Int32) = 0 := rfl
theorem ix_1 : ix (1 : Int32) = 1 := rfl
theorem ix_5 : ix (5 : Int32) = 5 := rfl
theorem get_8 {p : Nat} (hp : p < 12) (S : St) : f_X7_get (nI p) 8 S = some (rd S 109 (66 + 11 * p + 8)) := get_nat (k := 8) hp (by decide) S
theorem get_9 {p : Nat} (hp : p < 12) (S : St) : f_X7_get (nI p) 9 S = some (rd S 109 (66 + 11 * p + 9)) := get_nat (k := 9) hp (by decide) S
theorem get_10 {p : Nat} (hp : p < 12) (S : St) : f_X7_get (nI p) 10 S = some (rd S 109 (66 + 11 * p + 10)) := get_nat (k := 10) hp (by decide) S
theorem lay_2 {p : Nat} (hp : p < 12) (v : Int32) (S : St) : f_X7_lay (nI p) 2 v S = some (wr S 109 (66 + 11 * p + 2) v) := lay_nat (k := 2) hp (by decide) v S
theorem lay_3 {p : Nat} (hp : p < 12) (v : Int32) (S : St) : f_X7_lay (nI p) 3 v S = some (wr S 109 (66 + 11 * p + 3) v) := lay_nat (k := 3) hp (by decide) v S
theorem lay_4 {p : Nat} (hp : p < 12) (v : Int32) (S : St) : f_X7_lay (nI p) 4 v S = some (wr S 109 (66 + 11 * p + 4) v) := lay_nat (k := 4) hp (by decide) v S
theorem lay_5 {p : Nat} (hp : p < 12) (v : Int32) (S : St) : f_X7_lay (nI p) 5 v S = some (wr S 109 (66 + 11 * p + 5) v) := lay_nat (k := 5) hp (by decide) v S
theorem lay_7 {p : Nat} (hp : p < 12) (v : Int32) (S : St) : f_X7_lay (nI p) 7 v S = some (wr S 109 (66 + 11 * p + 7) v) := lay_nat (k := 7) hp (by decide) v S
theorem lay_8 {p : Nat} (hp : p < 12) (v : Int32) (S : St) : f_X7_lay (nI p) 8 v S = some (wr S 109 (66 + 11 * p + 8) v) := lay_nat (k := 8) hp (by decide) v S
theorem lay_9 {p : Nat} (hp : p < 12) (v : Int32) (S : St) : f_X7_lay (nI p) 9 v S = some (wr S 109 (66 + 11 * p + 9) v) := lay_nat (k := 9) hp (by decide) v S
theorem lay_10 {p : Nat} (hp : p < 12) (v : Int32) (S : St) : f_X7_lay (nI p) 10 v S = some (wr S 109 (66 + 11 * p + 10) v) := lay_nat (k := 10) hp (by decide) v S
/-- what both say of a sort's number -/
theorem isSort_both {S : St} (x : Int32) (h : rd S 1 1 = rd S 109 782) : f_X7_isSort x S = some (f_X6_isSort x S) := by
  unfold f_X7_isSort f_X6_isSort
  rw [ix_782, h]; rfl
theorem sort_nat {S : St} {x : Int32} {cnt : Nat} (hc : cnt ≤ 6) (h : rd S 1 1 = nI cnt) (hx : f_X6_isSort x S = true) : ∃ s : Nat, s < cnt ∧ x = nI s := by
  unfold f_X6_isSort at hx
  rw [h] at hx
  rcases Nat.eq_zero_or_pos cnt with q | q
  · subst q
    exfalso
    unfold f_X6_within at hx
    by_cases h0 : x < 0
    · rw [if_pos h0] at hx; cases hx
    · rw [if_neg h0] at hx
      have : nI 0 - 1 < x := Int32.lt_iff_toInt_lt.mpr (by
        have e1 : (nI 0 - 1).toInt = -1 := by decide
        have e2 : ¬ x.toInt < (0 : Int32).toInt := fun q => h0 (Int32.lt_iff_toInt_lt.mpr q)
        have e3 : (0 : Int32).toInt = 0 := by decide
        omega)
      rw [if_pos this] at hx; cases hx
  · have e : nI cnt - 1 = nI (cnt - 1) := pk_sub (a := cnt) (b := 1) q
    rw [e] at hx
    obtain ⟨n, -, h2, h3⟩ := within_nat (a := 0) (b := cnt - 1) (by decide) (by omega) hx
    exact ⟨n, by omega, h3⟩
theorem plant_run (p : Nat) (hp : p < 12) (b c d : Int32) (S : St) (K : Int32 → Int32 → Int32 → Int32 → St → Option (Int32 × St)) : ∃ T, Fill S 109 (66 + 11 * p + 2) (fun _ => 0) 9 T ∧ f_X7_plant_L63 6000 K (nI p) b c d 2 S = K (nI p) b c d T := by
  have := loop_q (N := 11) (fun n i T => f_X7_plant_L63 n K (nI p) b c d i T) (fun j T => 2 ≤ j ∧ Fill S 109 (66 + 11 * p + 2) (fun _ => 0) (j - 2) T) (fun r => ∃ T, Fill S 109 (66 + 11 * p + 2) (fun _ => 0) 9 T ∧ r = K (nI p) b c d T) (fun n j T hj hP => by
    left
    obtain ⟨h2, hF⟩ := hP
    refine ⟨wr T 109 (66 + 11 * p + j) 0, ⟨by omega, ?_⟩, ?_⟩
    · have q := hF.step
      have e1 : 66 + 11 * p + 2 + (j - 2) = 66 + 11 * p + j := by omega
      have e2 : j - 2 + 1 = j + 1 - 2 := by omega
      rw [e1, e2] at q
      exact q
    · have h1 : (nI j < (11 : Int32)) = True := ltT hj (by decide)
      simp only [f_X7_plant_L63, h1, if_true, lay_nat hp hj, Option.bind_some, nI_1]) (fun n T hP => by
    have h1 : (nI 11 < (11 : Int32)) = False := ltF (N := 11) (by decide) (by decide)
    exact ⟨T, hP.2, by simp only [f_X7_plant_L63, h1, if_false]⟩) 9 2 6000 S (by decide) (by decide) ⟨by decide, Fill.zero S 109 (66 + 11 * p + 2) (fun _ => 0)⟩
  exact this
theorem pull_run (p : Nat) (hp : p < 12) (b c : Int32) (S : St) (K : Int32 → Int32 → Int32 → St → Option (Int32 × St)) : ∃ T, Fill S 109 (66 + 11 * p + 2) (fun _ => 0) 9 T ∧ f_X7_pull_L58 6000 K (nI p) b c 2 S = K (nI p) b c T := by
  have := loop_q (N := 11) (fun n i T => f_X7_pull_L58 n K (nI p) b c i T) (fun j T => 2 ≤ j ∧ Fill S 109 (66 + 11 * p + 2) (fun _ => 0) (j - 2) T) (fun r => ∃ T, Fill S 109 (66 + 11 * p + 2) (fun _ => 0) 9 T ∧ r = K (nI p) b c T) (fun n j T hj hP => by
    left
    obtain ⟨h2, hF⟩ := hP
    refine ⟨wr T 109 (66 + 11 * p + j) 0, ⟨by omega, ?_⟩, ?_⟩
    · have q := hF.step
      have e1 : 66 + 11 * p + 2 + (j - 2) = 66 + 11 * p + j := by omega
      have e2 : j - 2 + 1 = j + 1 - 2 := by omega
      rw [e1, e2] at q
      exact q
    · have h1 : (nI j < (11 : Int32)) = True := ltT hj (by decide)
      simp only [f_X7_pull_L58, h1, if_true, lay_nat hp hj, Option.bind_some, nI_1]) (fun n T hP => by
    have h1 : (nI 11 < (11 : Int32)) = False := ltF (N := 11) (by decide) (by decide)
    exact ⟨T, hP.2, by simp only [f_X7_pull_L58, h1, if_false]⟩) 9 2 6000 S (by decide) (by decide) ⟨by decide, Fill.zero S 109 (66 + 11 * p + 2) (fun _ => 0)⟩
  exact this
theorem becomeTree_run (t : Nat) (k x3 x4 yr : Int32) (S : St) : ∃ T, f_X2_becomeTree t k x3 x4 yr S = some T ∧ (∀ i, i ≠ t → i ≠ t + 1 → T.1 i = S.1 i) ∧ T.2 = S.2 ∧ T.1 t 0 = S.1 t 0 ∧ T.1 t 1 = S.1 t 1 ∧ T.1 t 2 = k ∧ T.1 t 3 = x3 ∧ T.1 t 4 = (if k = 2 then x4 else -100) ∧ T.1 t 5 = yr ∧ T.1 t 6 = 3 ∧ T.1 t 7 = 0 ∧ T.1 t 9 = 0 ∧ T.1 (t + 1) 0 = 0 ∧ T.1 (t + 1) 1 = 0 := by
  by_cases h : k = 2
  · refine ⟨_, by simp only [f_X2_becomeTree, h, if_true, f_X2_becomeTree_J22, f_X2_clearFruits, Option.bind_some]; rfl, ?_⟩
    refine ⟨?_, rfl, ?_⟩
    · intro i a b; simp [wr, up2, a, b]
    · simp [wr, up2, ix_0, ix_1, h]
  · refine ⟨_, by simp only [f_X2_becomeTree, h, if_false, f_X2_becomeTree_J22, f_X2_clearFruits, Option.bind_some]; rfl, ?_⟩
    refine ⟨?_, rfl, ?_⟩
    · intro i a b; simp [wr, up2, a, b]
    · simp [wr, up2, ix_0, ix_1, h]
theorem becomeGap_run (t : Nat) (n : Int32) (S : St) : ∃ T, f_X2_becomeGap t n S = some T ∧ (∀ i, i ≠ t → i ≠ t + 1 → T.1 i = S.1 i) ∧ T.2 = S.2 ∧ T.1 t 0 = S.1 t 0 ∧ T.1 t 1 = S.1 t 1 ∧ T.1 t 2 = (if n = 0 then 0 else 5) ∧ T.1 t 8 = n ∧ T.1 (t + 1) 0 = 0 ∧ T.1 (t + 1) 1 = 0 := by
  by_cases h : n = 0
  · refine ⟨_, by simp only [f_X2_becomeGap, h, if_true, f_X2_becomeGap_J10, f_X2_clearFruits, Option.bind_some]; rfl, ?_⟩
    refine ⟨?_, rfl, ?_⟩
    · intro i a b; simp [wr, up2, a, b]
    · simp [wr, up2, ix_0, ix_1, h]
  · refine ⟨_, by simp only [f_X2_becomeGap, h, if_false, f_X2_becomeGap_J10, f_X2_clearFruits, Option.bind_some]; rfl, ?_⟩
    refine ⟨?_, rfl, ?_⟩
    · intro i a b; simp [wr, up2, a, b]
    · simp [wr, up2, ix_0, ix_1, h]
/-- the count of sorts, on both sides -/
theorem Rel.cnt {B : Nat} {S : St} (h : Rel B S) : ∃ cnt : Nat, cnt ≤ 6 ∧ rd S 1 1 = nI cnt ∧ rd S 109 782 = nI cnt ∧ ∀ cnt' yr dn, HeadRel cnt' yr dn (S.1 1) (S.1 109) → cnt' = cnt := by
  obtain ⟨cnt, yr, dn, -, h2, -⟩ := h
  have hH := h2.1
  refine ⟨cnt, hH.1, hH.2.2.1, hH.2.2.2.1, fun c y d hc => ?_⟩
  have e1 : nI c = nI cnt := hc.2.2.1.symm.trans hH.2.2.1
  exact (nI_eq (by have := hc.1; omega) (by have := hH.1; omega)).mp e1
theorem sm_plant (x k z w : Int32) : Sm Rel (f_X6_plant x k z w) (f_X7_plant x k z w) := by
  intro B S hB hR
  obtain ⟨cnt, hc6, hc1, hc2, huniq⟩ := hR.cnt
  have hsb : ∀ y, f_X7_isSort y S = some (f_X6_isSort y S) := fun y => isSort_both y (hc1.trans hc2.symm)
  have hsF : ∀ c y, f_X7_isSort y (f_X6_finding c S).2 = some (f_X6_isSort y S) := fun c y => by
    rw [← hsb y]; unfold f_X7_isSort; rw [fnd_rd c S (by decide)]
  by_cases h1 : f_X6_isPlace x = true
  · by_cases h2 : f_X6_within k 1 4 = true
    · by_cases h3 : f_X6_isSort z S = true
      · have hk4 : k = 1 ∨ k = 2 ∨ k = 3 ∨ k = 4 := by
          obtain ⟨m, hm1, hm, rfl⟩ := within_nat (a := 1) (b := 4) (by decide) (by decide) h2
          have : m = 1 ∨ m = 2 ∨ m = 3 ∨ m = 4 := by omega
          rcases this with rfl | rfl | rfl | rfl
          · exact Or.inl rfl
          · exact Or.inr (Or.inl rfl)
          · exact Or.inr (Or.inr (Or.inl rfl))
          · exact Or.inr (Or.inr (Or.inr rfl))
        obtain ⟨p, hp, rfl⟩ := place_nat h1
        obtain ⟨s, hs, rfl⟩ := sort_nat hc6 hc1 h3
        have hin : inb (nI p) 12 = true := inb_nI hp (by decide)
        have hix : ix (nI p) = p := ix_nI (by omega)
        obtain ⟨cnt', yr', dn', hP⟩ := hR.place hp
        have hk : rd S (20 + 2 * p) 2 = rd S 109 (66 + 11 * p + 2) := hP.2.2.2.2.1
        have main : (k = 2 → ∃ o : Nat, o < cnt ∧ w = nI o) → f_X6_plant (nI p) k (nI s) w S = f_X6_plant_J50 (nI p) k (nI s) w S → (∀ T, rd T 109 782 = rd S 109 782 → f_X7_plant (nI p) k (nI s) w T = f_X7_plant_J44 (nI p) k (nI s) w T) → ∃ (v : Int32) (S1 S2 : St), f_X6_plant (nI p) k (nI s) w S = some (v, S1) ∧ f_X7_plant (nI p) k (nI s) w S1 = some (v, S2) ∧ Rel (B + 1) S2 := by
          intro ho w6 w7
          by_cases k0 : rd S 109 (66 + 11 * p + 2) = 0
          · obtain ⟨S1, e1, a1, a2, c0, c1, c2, c3, c4, c5, c6, c7, c9, d0, d1⟩ := becomeTree_run (20 + 2 * p) k (nI s) w (rd S 1 4) S
            have e21 : 20 + 2 * p + 1 = 21 + 2 * p := by omega
            rw [e21] at d0 d1
            have b6 : f_X6_plant (nI p) k (nI s) w S = some (1, wr S1 101 0 0) := by
              rw [w6]
              simp only [f_X6_plant_J50, hin, hix, hk, k0, if_true, e1, Option.bind_some, f_X1_forget]
            have o1 : ∀ i, i ≠ 20 + 2 * p → i ≠ 21 + 2 * p → i ≠ 101 → (wr S1 101 0 0).1 i = S.1 i := fun i x y z => by
              rw [wr1_ne z, a1 i x (by omega)]
            have q109 : ∀ j, (wr S1 101 0 0).1 109 j = S.1 109 j := fun j => by rw [o1 109 (by omega) (by omega) (by omega)]
            obtain ⟨T, f1, e2⟩ := plant_run p hp k (nI s) w (wr S1 101 0 0) (fun e84_1 e84_2 e84_3 e84_4 T84 => ((f_X7_lay e84_1 (2 : Int32) e84_2 T84).bind fun v88 => ((f_X7_lay e84_1 (3 : Int32) e84_3 v88).bind fun v95 => (if e84_2 = (2 : Int32) then (f_X7_plant_J113 e84_1 e84_4 (4 : Int32) e84_1 v95) else (f_X7_plant_J113 e84_1 (-100 : Int32) (4 : Int32) e84_1 v95)))))
            have eT : ∀ i, i ≠ 20 + 2 * p → i ≠ 21 + 2 * p → i ≠ 101 → i ≠ 109 → T.1 i = S.1 i := fun i x y z u => by rw [f1.1 i u, o1 i x y z]
            generalize hb : 66 + 11 * p = b at *
            have T784 : T.1 109 784 = S.1 109 784 := by rw [f1.out (by omega), q109]
            have yrr : rd S 1 4 = S.1 109 784 := by
              obtain ⟨cnt, yr, dn, -, g2, -⟩ := id hR
              exact g2.1.2.2.2.2.1.trans g2.1.2.2.2.2.2.1.symm
            have b7 : f_X7_plant (nI p) k (nI s) w (wr S1 101 0 0) = some (1, wr (wr (wr (wr (wr (wr T 109 (b + 2) k) 109 (b + 3) (nI s)) 109 (b + 4) (if k = 2 then w else -100)) 109 (b + 5) (S.1 109 784)) 109 (b + 6) 3) 108 9 0) := by
              rw [w7 _ (by show (wr S1 101 0 0).1 109 782 = _; rw [q109]; rfl)]
              have g2 : f_X7_get (nI p) 2 (wr S1 101 0 0) = some 0 := by
                rw [get_k hp, hb]; show some ((wr S1 101 0 0).1 109 (b + 2)) = _; rw [q109]; exact congrArg some k0
              have r784 : ∀ v, rd (wr (wr (wr T 109 (b + 2) k) 109 (b + 3) (nI s)) 109 (b + 4) v) 109 784 = S.1 109 784 := fun v => by
                show (wr (wr (wr T 109 (b + 2) k) 109 (b + 3) (nI s)) 109 (b + 4) v).1 109 784 = _
                rw [wr1_eq, if_neg (by omega), wr1_eq, if_neg (by omega), wr1_eq, if_neg (by omega), T784]
              simp only [f_X7_plant_J44, g2, Option.bind_some, if_true]
              rw [e2]
              simp only [lay_2 hp, lay_3 hp, hb, Option.bind_some]
              by_cases k2 : k = 2
              · simp only [k2, if_true, f_X7_plant_J113, lay_4 hp, lay_5 hp, lay_6 hp, hb, Option.bind_some, ix_784]
                simp only [← k2, r784]
              · simp only [k2, if_false, f_X7_plant_J113, lay_4 hp, lay_5 hp, lay_6 hp, hb, Option.bind_some, ix_784, r784]
            refine ⟨1, _, _, b6, b7, ?_⟩
            have v109 : ∀ j, (wr (wr (wr (wr (wr (wr T 109 (b + 2) k) 109 (b + 3) (nI s)) 109 (b + 4) (if k = 2 then w else -100)) 109 (b + 5) (S.1 109 784)) 109 (b + 6) 3) 108 9 0).1 109 j = if j = b + 6 then 3 else if j = b + 5 then S.1 109 784 else if j = b + 4 then (if k = 2 then w else -100) else if j = b + 3 then nI s else if j = b + 2 then k else T.1 109 j := fun j => by
              rw [wr1_ne (by decide), wr1_eq, wr1_eq, wr1_eq, wr1_eq, wr1_eq]
            generalize hS2 : wr (wr (wr (wr (wr (wr T 109 (b + 2) k) 109 (b + 3) (nI s)) 109 (b + 4) (if k = 2 then w else -100)) 109 (b + 5) (S.1 109 784)) 109 (b + 6) 3) 108 9 0 = S2 at *
            have oS2 : ∀ i, i ≠ 109 → i ≠ 108 → S2.1 i = T.1 i := fun i x y => by
              rw [← hS2, wr1_ne y, wr1_ne x, wr1_ne x, wr1_ne x, wr1_ne x, wr1_ne x]
            have lS2 : S2.2 = S.2 := by rw [← hS2]; show T.2 = S.2; rw [f1.2.1]; show S1.2 = S.2; exact a2
            have p109 : ∀ j, (j < b ∨ b + 10 < j) → S2.1 109 j = S.1 109 j := fun j hj => by
              rw [v109, if_neg (by omega), if_neg (by omega), if_neg (by omega), if_neg (by omega), if_neg (by omega), f1.out (by omega), q109]
            refine hR.placed hp ?_ ?_ ?_ ?_ (fun h => by rw [lS2]; exact h) (by rw [lS2]) (by rw [lS2]) (by rw [hb]; exact p109) ?_ ?_ (by rw [oS2 106 (by decide) (by decide), eT 106 (by omega) (by omega) (by omega) (by omega)])
            · rw [oS2 0 (by decide) (by decide), eT 0 (by omega) (by omega) (by omega) (by omega)]
            · intro i x y z u; rw [oS2 i (by omega) (by omega), eT i (by omega) (by omega) (by omega) (by omega)]
            · intro i x y; rw [oS2 i (by omega) (by omega), eT i (by omega) (by omega) (by omega) (by omega)]
            · intro j hj; rw [← hS2, wr1_eq, if_neg hj, wr1_ne (by decide), wr1_ne (by decide), wr1_ne (by decide), wr1_ne (by decide), wr1_ne (by decide), eT 108 (by omega) (by omega) (by omega) (by omega)]
            · intro c y d hH hQ
              have hcc := huniq c y d hH
              subst hcc
              rw [hb] at hQ ⊢
              have cc : ∀ j, S2.1 (20 + 2 * p) j = S1.1 (20 + 2 * p) j := fun j => by
                rw [oS2 _ (by omega) (by omega), f1.1 _ (by omega), wr1_ne (by omega)]
              have dd : ∀ j, S2.1 (21 + 2 * p) j = S1.1 (21 + 2 * p) j := fun j => by
                rw [oS2 _ (by omega) (by omega), f1.1 _ (by omega), wr1_ne (by omega)]
              have z7 : ∀ j, 7 ≤ j → j ≤ 10 → S2.1 109 (b + j) = 0 := fun j h7 h10 => by
                rw [v109, if_neg (by omega), if_neg (by omega), if_neg (by omega), if_neg (by omega), if_neg (by omega)]
                have := f1.at (k := j - 2) (by omega)
                rw [show b + 2 + (j - 2) = b + j from by omega] at this
                exact this
              obtain ⟨r1, r2, r3, r4, r5, r6, r7, r8⟩ := hQ
              have u0 : S2.1 109 (b + 0) = S.1 109 (b + 0) := by
                rw [v109, if_neg (by omega), if_neg (by omega), if_neg (by omega), if_neg (by omega), if_neg (by omega), f1.out (by omega), q109]
              have u1 : S2.1 109 (b + 1) = S.1 109 (b + 1) := by
                rw [v109, if_neg (by omega), if_neg (by omega), if_neg (by omega), if_neg (by omega), if_neg (by omega), f1.out (by omega), q109]
              have u2 : S2.1 109 (b + 2) = k := by
                rw [v109, if_neg (by omega), if_neg (by omega), if_neg (by omega), if_neg (by omega), if_pos rfl]
              have u3 : S2.1 109 (b + 3) = nI s := by
                rw [v109, if_neg (by omega), if_neg (by omega), if_neg (by omega), if_pos rfl]
              have u4 : S2.1 109 (b + 4) = (if k = 2 then w else -100) := by
                rw [v109, if_neg (by omega), if_neg (by omega), if_pos rfl]
              have u5 : S2.1 109 (b + 5) = S.1 109 784 := by
                rw [v109, if_neg (by omega), if_pos rfl]
              have u6 : S2.1 109 (b + 6) = 3 := by
                rw [v109, if_pos rfl]
              have y784 : S.1 109 784 = nI y := hH.2.2.2.2.2.1
              unfold PlaceRel
              simp only [cc, dd, u0, u1, u2, u3, u4, u5, u6, z7 7 (by decide) (by decide), z7 8 (by decide) (by decide), z7 9 (by decide) (by decide), z7 10 (by decide) (by decide)]
              refine ⟨c0.trans r1, c1.trans r2, r3, r4, c2, d0, d1, Or.inr (Or.inr ⟨hk4, c3, c4, c5.trans yrr, c6, c7, c9, ⟨s, hs, rfl⟩, ?_, ?_, ⟨y, Nat.le_refl y, y784⟩, ⟨3, by decide, rfl⟩, ⟨0, by decide, rfl⟩, ⟨0, 0, 0, rfl, rfl, rfl, by decide, by omega⟩⟩)⟩
              · intro k2; rw [if_pos k2]; exact ho k2
              · intro k2; rw [if_neg k2]; exact ⟨rfl, trivial⟩
            · intro c hc _
              have e9 : S2.1 108 9 = 0 := by rw [← hS2, wr1_eq, if_pos rfl]
              rw [e9]
              apply LayRel.no
              rw [oS2 101 (by decide) (by decide), f1.1 101 (by decide), wr1_eq, if_pos rfl]
          · have eF : rd (f_X6_finding (-7) S).2 109 (66 + 11 * p + 2) = rd S 109 (66 + 11 * p + 2) := fnd_rd _ S (by decide)
            refine ⟨-7, (f_X6_finding (-7) S).2, (f_X7_found (-7) (f_X6_finding (-7) S).2).2, ?_, ?_, hR.found _ _⟩
            · rw [w6]; simp only [f_X6_plant_J50, hin, hix, hk, k0, if_true, if_false]; rfl
            · rw [w7 _ (fnd_rd _ S (by decide))]; simp only [f_X7_plant_J44, get_k hp, Option.bind_some, eF, k0, if_false]; rfl
        by_cases k2 : k = 2
        · by_cases h4 : f_X6_isSort w S = true
          · refine main (fun _ => sort_nat hc6 hc1 h4) (by simp only [f_X6_plant, h1, h2, h3, h4, k2, if_true]; simp only [← k2, h2, if_true]) (fun T hT => ?_)
            have hT' : ∀ y, f_X7_isSort y T = some (f_X6_isSort y S) := fun y => by
              rw [← hsb y]; unfold f_X7_isSort; rw [ix_782, hT]
            subst k2
            simp only [f_X7_plant, isPlace_eq, in_eq, h1, h2, hT', h3, h4, if_true, Option.bind_some]
          · subst k2
            refine ⟨-1, (f_X6_finding (-1) S).2, (f_X7_found (-1) (f_X6_finding (-1) S).2).2, by simp only [f_X6_plant, h1, h2, h3, h4, if_true, if_false]; rfl, by simp only [f_X7_plant, isPlace_eq, in_eq, h1, h2, hsF, h3, h4, if_true, if_false, Option.bind_some]; rfl, hR.found _ _⟩
        · refine main (fun q => absurd q k2) (by simp only [f_X6_plant, h1, h2, h3, k2, if_true, if_false]) (fun T hT => ?_)
          have hT' : ∀ y, f_X7_isSort y T = some (f_X6_isSort y S) := fun y => by
            rw [← hsb y]; unfold f_X7_isSort; rw [ix_782, hT]
          simp only [f_X7_plant, isPlace_eq, in_eq, h1, h2, hT', h3, k2, if_true, if_false, Option.bind_some]
      · exact ⟨-1, (f_X6_finding (-1) S).2, (f_X7_found (-1) (f_X6_finding (-1) S).2).2, by simp only [f_X6_plant, h1, h2, h3, if_true, if_false]; rfl, by simp only [f_X7_plant, isPlace_eq, in_eq, h1, h2, hsF, h3, Option.bind_some, if_true, if_false]; rfl, hR.found _ _⟩
    · exact ⟨-1, (f_X6_finding (-1) S).2, (f_X7_found (-1) (f_X6_finding (-1) S).2).2, by simp only [f_X6_plant, h1, h2, if_true, if_false]; rfl, by simp only [f_X7_plant, isPlace_eq, in_eq, h1, h2, if_true, if_false]; rfl, hR.found _ _⟩
  · exact ⟨-1, (f_X6_finding (-1) S).2, (f_X7_found (-1) (f_X6_finding (-1) S).2).2, by simp only [f_X6_plant, h1, if_true, if_false]; rfl, by simp only [f_X7_plant, isPlace_eq, in_eq, h1, if_true, if_false]; rfl, hR.found _ _⟩
