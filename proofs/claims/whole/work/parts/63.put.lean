theorem isSheet_eq (x : Int32) : f_X7_isSheet x = f_X6_isSheet x := rfl
theorem isNone_eq (x : Int32) : f_X7_isNone x = f_X4_isNan x := rfl
theorem has_in {t n : Nat} {S : St} (x : Int32) (h : rd S t 1 = nI n) (hn : n ≤ 50) : f_X6_within x 0 (nI n - 1) = f_X4_has t x S := by
  unfold f_X6_within f_X4_has
  rw [h]
  by_cases h0 : x < 0
  · rw [if_pos h0, if_pos h0]
  · rw [if_neg h0, if_neg h0]
    have e : (nI n - 1).toInt = (n : Int) - 1 := pk_sub_toInt (a := n) (b := 1) (by omega) (by decide)
    have e2 : (nI n).toInt = (n : Int) := nI_toInt (by omega)
    by_cases c : nI n - 1 < x
    · have := Int32.lt_iff_toInt_lt.mp c
      rw [if_pos c, if_neg (fun q => by have := Int32.lt_iff_toInt_lt.mp q; omega)]
    · have h3 : ¬ (nI n - 1).toInt < x.toInt := fun q => c (Int32.lt_iff_toInt_lt.mpr q)
      rw [if_neg c, if_pos (Int32.lt_iff_toInt_lt.mpr (by omega))]
theorem sm_put (x y z : Int32) : Sm Rel (f_X6_put x y z) (f_X7_put x y z) := by
  intro B S hB hR
  by_cases h1 : f_X6_isSheet x = true
  · obtain ⟨s, -, hs3, rfl⟩ := within_nat (a := 0) (b := 3) (by decide) (by decide) h1
    have hs : s < 4 := by omega
    have hSh : SheetRel S := by obtain ⟨_, _, _, _, _, _, q, _⟩ := hR; exact q
    obtain ⟨a1, a2, a3, ⟨n, hn, a4, -⟩, a5⟩ := hSh s hs
    have hin : inb (nI s) 4 = true := inb_nI hs (by decide)
    have hix : ix (nI s) = s := ix_nI (by omega)
    have b1 : rd S (88 + 2 * s) 0 = rd S 113 s := a1
    have b4 : rd S 114 s = nI n := a4
    have b3 : rd S (88 + 2 * s) 1 = nI n := a3.trans a4
    have eF : ∀ c k, rd (f_X6_finding c S).2 113 k = rd S 113 k := fun c k => fnd_rd c S (by decide)
    have eF4 : ∀ c k, rd (f_X6_finding c S).2 114 k = rd S 114 k := fun c k => fnd_rd c S (by decide)
    by_cases k0 : rd S 113 s = 0
    · have hmi : f_X4_isMissing (88 + 2 * s) S = true := by unfold f_X4_isMissing; rw [b1, if_pos k0]
      exact ⟨-2, (f_X6_finding (-2) S).2, (f_X7_found (-2) (f_X6_finding (-2) S).2).2, by simp only [f_X6_put, h1, hin, hix, hmi, if_true]; rfl, by simp only [f_X7_put, isSheet_eq, h1, hin, hix, eF, k0, if_true]; rfl, hR.found _ _⟩
    · have hmi : f_X4_isMissing (88 + 2 * s) S = false := by unfold f_X4_isMissing; rw [b1, if_neg k0]
      have hhas := has_in (S := S) y b3 hn
      by_cases hb : f_X4_has (88 + 2 * s) y S = true
      · have hw : f_X6_within y 0 (nI n - 1) = true := hhas.trans hb
        obtain ⟨i, hi, rfl⟩ : ∃ i : Nat, i < n ∧ y = nI i := by
          unfold f_X4_has at hb
          rw [b3] at hb
          by_cases q0 : y < 0
          · rw [if_pos q0] at hb; cases hb
          · rw [if_neg q0] at hb
            by_cases q1 : y < nI n
            · obtain ⟨j, hj, rfl⟩ := nI_of q0
              exact ⟨j, (nI_ltI hj (by omega)).mp q1, rfl⟩
            · rw [if_neg q1] at hb; cases hb
        have hin5 : inb (nI i) 50 = true := inb_nI (by omega) (by decide)
        have hix5 : ix (nI i) = i := ix_nI (by omega)
        have i0 : (50 : Int32) * nI s + nI i = nI (50 * s + i) := by rw [show (50 : Int32) = nI 50 from rfl, pk_mul, nI_add]
        have hin2 : inb (nI (50 * s + i)) 200 = true := inb_nI (by omega) (by decide)
        have hix2 : ix (nI (50 * s + i)) = 50 * s + i := ix_nI (by omega)
        have e89 : 88 + 2 * s + 1 = 89 + 2 * s := by omega
        have w3 : ∀ v, rd (wr S (89 + 2 * s) i v) 113 s = rd S 113 s := fun v => by simp only [rd]; rw [wr1_ne (by omega)]
        have w4 : ∀ v, rd (wr S (89 + 2 * s) i v) 114 s = nI n := fun v => by rw [← b4]; simp only [rd]; rw [wr1_ne (by omega)]
        by_cases k1 : rd S 113 s = 1
        · exact ⟨0, _, _, by simp only [f_X6_put, h1, hin, hix, hmi, hb, f_X4_write, b1, k1, hin5, hix5, e89, if_true, if_false, Bool.false_eq_true, Option.bind_some]; rfl, by simp (decide := true) only [f_X7_put, isSheet_eq, in_eq, h1, hin, hix, w3, w4, k1, hw, i0, hin2, hix2, if_true, if_false]; rfl, hR.putted hs (by omega) _⟩
        · by_cases kn : f_X4_isNan z = true
          · exact ⟨0, _, _, by simp only [f_X6_put, h1, hin, hix, hmi, hb, f_X4_write, b1, k1, kn, hin5, hix5, e89, if_true, if_false, Bool.false_eq_true, Option.bind_some]; rfl, by simp only [f_X7_put, isSheet_eq, isNone_eq, in_eq, h1, hin, hix, w3, w4, k0, k1, kn, hw, i0, hin2, hix2, if_true, if_false]; rfl, hR.putted hs (by omega) _⟩
          · exact ⟨0, _, _, by simp only [f_X6_put, h1, hin, hix, hmi, hb, f_X4_write, b1, k1, kn, hin5, hix5, e89, if_true, if_false, Bool.false_eq_true, Option.bind_some]; rfl, by simp only [f_X7_put, isSheet_eq, isNone_eq, in_eq, h1, hin, hix, w3, w4, k0, k1, kn, hw, i0, hin2, hix2, if_true, if_false]; rfl, hR.putted hs (by omega) _⟩
      · have hw : ¬ f_X6_within y 0 (nI n - 1) = true := fun q => hb (hhas.symm.trans q)
        exact ⟨-1, (f_X6_finding (-1) S).2, (f_X7_found (-1) (f_X6_finding (-1) S).2).2, by simp only [f_X6_put, h1, hin, hix, hmi, hb, if_true, if_false, Bool.false_eq_true]; rfl, by simp only [f_X7_put, isSheet_eq, in_eq, h1, hin, hix, eF, eF4, k0, b4, hw, if_true, if_false]; rfl, hR.found _ _⟩
  · exact ⟨-1, (f_X6_finding (-1) S).2, (f_X7_found (-1) (f_X6_finding (-1) S).2).2, by simp only [f_X6_put, h1, if_false]; rfl, by simp only [f_X7_put, isSheet_eq, h1, if_false]; rfl, hR.found _ _⟩
