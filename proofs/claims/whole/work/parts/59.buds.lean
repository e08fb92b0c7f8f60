-- height and buds, on both sides
theorem age_nat {p : Nat} (hp : p < 12) (S : St) : f_X7_age (nI p) S = some (rd S 109 784 - rd S 109 (66 + 11 * p + 5)) := by
  unfold f_X7_age
  rw [show f_X7_get (nI p) 5 S = _ from get_nat (k := 5) hp (by decide) S]
  rfl
theorem sortOf_nat {s k : Nat} (hs : s < 6) (hk : k < 5) (S : St) : f_X7_sortOf (nI s) (nI k) S = some (rd S 109 (5 * s + k)) := by
  have e : (0 : Int32) + (5 : Int32) * nI s + nI k = nI (5 * s + k) := by
    rw [show (0 : Int32) = nI 0 from rfl, show (5 : Int32) = nI 5 from rfl, pk_mul, nI_add, nI_add]
    congr 1; omega
  unfold f_X7_sortOf
  rw [e, if_pos (inb_nI (by omega) (by decide)), ix_nI (by omega)]
theorem get_3 {p : Nat} (hp : p < 12) (S : St) : f_X7_get (nI p) 3 S = some (rd S 109 (66 + 11 * p + 3)) := get_nat (k := 3) hp (by decide) S
theorem get_7 {p : Nat} (hp : p < 12) (S : St) : f_X7_get (nI p) 7 S = some (rd S 109 (66 + 11 * p + 7)) := get_nat (k := 7) hp (by decide) S
theorem sortOf_4 {s : Nat} (hs : s < 6) (S : St) : f_X7_sortOf (nI s) 4 S = some (rd S 109 (5 * s + 4)) := sortOf_nat (k := 4) hs (by decide) S
theorem mx0 (v : Int32) : mxI 0 v = if v < 0 then 0 else v := by
  unfold mxI
  by_cases h : v < 0
  · rw [if_pos h, if_neg (fun q => by
      have a := Int32.lt_iff_toInt_lt.mp h
      have b := Int32.lt_iff_toInt_lt.mp q
      omega)]
  · rw [if_neg h]
    by_cases h2 : 0 < v
    · rw [if_pos h2]
    · rw [if_neg h2]
      have a : ¬ v.toInt < (0 : Int32).toInt := fun q => h (Int32.lt_iff_toInt_lt.mpr q)
      have b : ¬ (0 : Int32).toInt < v.toInt := fun q => h2 (Int32.lt_iff_toInt_lt.mpr q)
      exact Int32.toInt_inj.mp (by omega)
/-- both tell the same buds of a tree -/
theorem buds_both {S : St} {p s : Nat} (hp : p < 12) (hs : s < 6) (h3 : rd S 109 (66 + 11 * p + 3) = nI s) (c3 : rd S (20 + 2 * p) 3 = nI s) (c5 : rd S (20 + 2 * p) 5 = rd S 109 (66 + 11 * p + 5)) (c6 : rd S (20 + 2 * p) 6 = rd S 109 (66 + 11 * p + 6)) (c7 : rd S (20 + 2 * p) 7 = rd S 109 (66 + 11 * p + 7)) (c2 : rd S (20 + 2 * p) 2 = rd S 109 (66 + 11 * p + 2)) (cy : rd S 1 4 = rd S 109 784) (cf : rd S (8 + 2 * s) 4 = rd S 109 (5 * s + 4)) : ∃ b, f_X0_budsOf (20 + 2 * p) S = some b ∧ f_X7_budsOf (nI p) S = some b := by
  have hin : inb (nI s) 6 = true := inb_nI hs (by decide)
  have hix : ix (nI s) = s := ix_nI (by omega)
  simp only [f_X0_budsOf, c3, hin, hix, if_true, c5, c6, c7, c2, cy, cf]
  simp only [f_X7_budsOf, age_nat hp, get_3 hp, h3, sortOf_4 hs, get_6 hp, get_7 hp, get_k hp, Option.bind_some]
  by_cases a : rd S 109 784 - rd S 109 (66 + 11 * p + 5) < rd S 109 (5 * s + 4)
  · exact ⟨0, by rw [if_pos a], by rw [if_pos a]⟩
  · rw [if_neg a, if_neg a]
    by_cases v : (20 : Int32) * rd S 109 (66 + 11 * p + 6) - rd S 109 (66 + 11 * p + 7) / 2 < 0
    · have m : mxI 0 ((20 : Int32) * rd S 109 (66 + 11 * p + 6) - rd S 109 (66 + 11 * p + 7) / 2) = 0 := by rw [mx0, if_pos v]
      rw [m, if_pos v]
      by_cases k : rd S 109 (66 + 11 * p + 2) = 3
      · exact ⟨0, by rw [if_pos k]; rfl, rfl⟩
      · exact ⟨0, by rw [if_neg k], rfl⟩
    · have m : mxI 0 ((20 : Int32) * rd S 109 (66 + 11 * p + 6) - rd S 109 (66 + 11 * p + 7) / 2) = (20 : Int32) * rd S 109 (66 + 11 * p + 6) - rd S 109 (66 + 11 * p + 7) / 2 := by rw [mx0, if_neg v]
      rw [m, if_neg v]
      by_cases k : rd S 109 (66 + 11 * p + 2) = 3
      · exact ⟨_, by rw [if_pos k], by rw [if_pos k]⟩
      · exact ⟨_, by rw [if_neg k], by rw [if_neg k]⟩
