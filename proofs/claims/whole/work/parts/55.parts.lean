-- the reference's parts (part q of place p is number 2p + q)
theorem half_nat {p q : Nat} (hp : p < 12) (hq : q < 2) : nI (2 * p + q) / (2 : Int32) = nI p := by
  rw [show (2 : Int32) = nI 2 from rfl, pk_div (by omega) (by decide) (by decide)]
  congr 1; omega
theorem rem_nat {p q : Nat} (hp : p < 12) (hq : q < 2) : nI (2 * p + q) - nI (2 * p + q) / (2 : Int32) * (2 : Int32) = nI q := by
  rw [show (2 : Int32) = nI 2 from rfl, pk_rem (by omega) (by decide) (by decide)]
  congr 1; omega
theorem part_nat {p q : Nat} : (2 : Int32) * nI p + nI q = nI (2 * p + q) := by
  rw [show (2 : Int32) = nI 2 from rfl, pk_mul, nI_add]
theorem fruitsOf_nat {p q : Nat} (hp : p < 12) (hq : q < 2) (S : St) : f_X7_fruitsOf (nI (2 * p + q)) S = some (rd S 109 (66 + 11 * p + (8 + q))) := by
  have e : (66 : Int32) + (11 : Int32) * (nI (2 * p + q) / (2 : Int32)) + (8 : Int32) + (nI (2 * p + q) - nI (2 * p + q) / (2 : Int32) * (2 : Int32)) = nI (66 + 11 * p + (8 + q)) := by
    rw [rem_nat hp hq, half_nat hp hq, show (66 : Int32) = nI 66 from rfl, show (11 : Int32) = nI 11 from rfl, show (8 : Int32) = nI 8 from rfl, pk_mul, nI_add, nI_add, nI_add]
    congr 1; omega
  unfold f_X7_fruitsOf
  rw [e, if_pos (inb_nI (by omega) (by decide)), ix_nI (by omega)]
theorem grow_nat {p q : Nat} (hp : p < 12) (hq : q < 2) (v : Int32) (S : St) : f_X7_grow (nI (2 * p + q)) v S = some (wr S 109 (66 + 11 * p + (8 + q)) (rd S 109 (66 + 11 * p + (8 + q)) + v)) := by
  have e : (66 : Int32) + (11 : Int32) * (nI (2 * p + q) / (2 : Int32)) + (8 : Int32) + (nI (2 * p + q) - nI (2 * p + q) / (2 : Int32) * (2 : Int32)) = nI (66 + 11 * p + (8 + q)) := by
    rw [rem_nat hp hq, half_nat hp hq, show (66 : Int32) = nI 66 from rfl, show (11 : Int32) = nI 11 from rfl, show (8 : Int32) = nI 8 from rfl, pk_mul, nI_add, nI_add, nI_add]
    congr 1; omega
  unfold f_X7_grow
  rw [e, if_pos (inb_nI (by omega) (by decide)), ix_nI (by omega)]
  first | rfl | (rw [if_pos (inb_nI (by omega) (by decide))])
theorem lacks_nat {p : Nat} (hp : p < 12) (S : St) : f_X7_lacks (nI p) S = some (if rd S 109 (66 + 11 * p + 2) = 0 then -6 else if rd S 109 (66 + 11 * p + 2) = 5 then -4 else 0) := by
  unfold f_X7_lacks
  rw [get_k hp]
  simp only [Option.bind_some]
  by_cases h : rd S 109 (66 + 11 * p + 2) = 0
  · rw [if_pos h, if_pos h]
  · rw [if_neg h, if_neg h]
    by_cases h2 : rd S 109 (66 + 11 * p + 2) = 5
    · rw [if_pos h2, if_pos h2]
    · rw [if_neg h2, if_neg h2]
theorem isTreeR_nat {p : Nat} (hp : p < 12) (S : St) : f_X7_isTree (nI p) S = some (f_X6_within (rd S 109 (66 + 11 * p + 2)) 1 4) := by
  unfold f_X7_isTree
  rw [get_k hp]
  rfl
theorem isPart_nat {p q : Nat} (hp : p < 12) (hq : q < 2) (S : St) : f_X7_isPart (nI (2 * p + q)) S = some (f_X6_within (rd S 109 (66 + 11 * p + 2)) 1 4 && (decide (q = 0) || decide (rd S 109 (66 + 11 * p + 2) = 2))) := by
  unfold f_X7_isPart
  rw [rem_nat hp hq, half_nat hp hq, isTreeR_nat hp]
  simp only [Option.bind_some]
  by_cases h : f_X6_within (rd S 109 (66 + 11 * p + 2)) 1 4 = true
  · rw [if_pos h]
    by_cases h0 : q = 0
    · subst h0
      rw [if_pos nI_0, h]
      rfl
    · have hq1 : q = 1 := by omega
      subst hq1
      rw [if_neg (by decide), get_k hp]
      simp only [Option.bind_some, h]
      by_cases h2 : rd S 109 (66 + 11 * p + 2) = 2
      · rw [if_pos h2]; simp [h2]
      · rw [if_neg h2]; simp [h2]
  · rw [if_neg h]
    simp only [Bool.not_eq_true] at h
    rw [h]; rfl
theorem sortOfPart_nat {p q : Nat} (hp : p < 12) (hq : q < 2) (S : St) : f_X7_sortOfPart (nI (2 * p + q)) S = some (rd S 109 (66 + 11 * p + (3 + q))) := by
  unfold f_X7_sortOfPart
  rw [rem_nat hp hq, half_nat hp hq]
  by_cases h0 : q = 0
  · subst h0
    rw [if_pos nI_0, show f_X7_get (nI p) 3 S = _ from get_nat (k := 3) hp (by decide) S]
    rfl
  · have hq1 : q = 1 := by omega
    subst hq1
    rw [if_neg (by decide), show f_X7_get (nI p) 4 S = _ from get_nat (k := 4) hp (by decide) S]
    rfl
theorem lacksPart_nat {p q : Nat} (hp : p < 12) (hq : q < 2) (S : St) : f_X7_lacksPart (nI p) (nI q) S = some (if rd S 109 (66 + 11 * p + 2) = 0 then -6 else if rd S 109 (66 + 11 * p + 2) = 5 then -4 else if (f_X6_within (rd S 109 (66 + 11 * p + 2)) 1 4 && (decide (q = 0) || decide (rd S 109 (66 + 11 * p + 2) = 2))) = true then 0 else -4) := by
  unfold f_X7_lacksPart
  rw [lacks_nat hp, part_nat, isPart_nat hp hq]
  simp only [Option.bind_some]
  by_cases h : rd S 109 (66 + 11 * p + 2) = 0
  · rw [if_pos h, if_pos h]; rfl
  · rw [if_neg h, if_neg h]
    by_cases h2 : rd S 109 (66 + 11 * p + 2) = 5
    · rw [if_pos h2, if_pos h2]; rfl
    · rw [if_neg h2, if_neg h2, if_neg (by decide)]
      by_cases h3 : (f_X6_within (rd S 109 (66 + 11 * p + 2)) 1 4 && (decide (q = 0) || decide (rd S 109 (66 + 11 * p + 2) = 2))) = true
      · rw [if_pos h3, if_pos h3]
      · rw [if_neg h3, if_neg h3]
/-- part q of a thing of kind K there is -/
def isPt (K : Int32) (q : Nat) : Bool := decide (K = 2) || (decide (q = 0) && (decide (K = 1) || decide (K = 3) || decide (K = 4)))
theorem part_cases {K : Int32} (hk : K = 0 ∨ K = 1 ∨ K = 2 ∨ K = 3 ∨ K = 4 ∨ K = 5) {q : Nat} (hq : q < 2) : (if K = 0 then (-6 : Int32) else if K = 5 then -4 else if (f_X6_within K 1 4 && (decide (q = 0) || decide (K = 2))) = true then 0 else -4) = if K = 0 then -6 else if isPt K q = true then 0 else -4 := by
  have hq' : q = 0 ∨ q = 1 := by omega
  rcases hk with rfl | rfl | rfl | rfl | rfl | rfl <;> rcases hq' with rfl | rfl <;> rfl
theorem partCount_val {t : Nat} {S : St} {K : Int32} (h : rd S t 2 = K) (hk : K = 0 ∨ K = 1 ∨ K = 2 ∨ K = 3 ∨ K = 4 ∨ K = 5) {q : Nat} (hq : q < 2) : (nI q < f_X2_partCount t S) = (isPt K q = true) := by
  have hq' : q = 0 ∨ q = 1 := by omega
  unfold f_X2_partCount f_X2_isTree
  rw [h]
  rcases hk with rfl | rfl | rfl | rfl | rfl | rfl <;> rcases hq' with rfl | rfl <;> decide
theorem sm_fruits (x z : Int32) : Sm Rel (f_X6_fruits x z) (f_X7_fruits x z) := by
  intro B S hB hR
  have hm := hR.mono
  by_cases h1 : f_X6_isPlace x = true
  · by_cases h2 : f_X6_within z 0 1 = true
    · obtain ⟨p, hp, rfl⟩ := place_nat h1
      obtain ⟨q, -, hq1, rfl⟩ := within_nat (a := 0) (b := 1) (by decide) (by decide) h2
      have hq : q < 2 := by omega
      obtain ⟨cnt, yr, dn, hP⟩ := hR.place hp
      have hk : rd S (20 + 2 * p) 2 = rd S 109 (66 + 11 * p + 2) := hP.2.2.2.2.1
      have hks : rd S 109 (66 + 11 * p + 2) = 0 ∨ rd S 109 (66 + 11 * p + 2) = 1 ∨ rd S 109 (66 + 11 * p + 2) = 2 ∨ rd S 109 (66 + 11 * p + 2) = 3 ∨ rd S 109 (66 + 11 * p + 2) = 4 ∨ rd S 109 (66 + 11 * p + 2) = 5 := hP.kinds
      have hf : rd S (20 + 2 * p + 1) q = rd S 109 (66 + 11 * p + (8 + q)) := by
        have e2 : 20 + 2 * p + 1 = 21 + 2 * p := by omega
        rw [e2]
        have hq' : q = 0 ∨ q = 1 := by omega
        rcases hq' with rfl | rfl
        · exact hP.2.2.2.2.2.1
        · exact hP.2.2.2.2.2.2.1
      have hin : inb (nI p) 12 = true := inb_nI hp (by decide)
      have hin2 : inb (nI q) 2 = true := inb_nI hq (by decide)
      have hix : ix (nI p) = p := ix_nI (by omega)
      have hix2 : ix (nI q) = q := ix_nI (by omega)
      have hl : ∀ T : St, rd T 109 (66 + 11 * p + 2) = rd S 109 (66 + 11 * p + 2) → f_X7_lacksPart (nI p) (nI q) T = some (if rd S 109 (66 + 11 * p + 2) = 0 then -6 else if isPt (rd S 109 (66 + 11 * p + 2)) q = true then 0 else -4) := fun T hT => by
        rw [lacksPart_nat hp hq, hT, part_cases hks hq]
      generalize hK : rd S 109 (66 + 11 * p + 2) = K at hk hks hl
      have eF : ∀ c, rd (f_X6_finding c S).2 109 (66 + 11 * p + 2) = K := fun c => by rw [fnd_rd c S (by decide)]; exact hK
      have hpc := partCount_val hk hks hq
      by_cases k0 : K = 0
      · have ht := isTree_no hk (Or.inl k0)
        have hw : f_X2_whyNoTree (20 + 2 * p) S = -6 := by unfold f_X2_whyNoTree; rw [hk, if_pos k0]
        exact ⟨-6, (f_X6_finding (-6) S).2, (f_X7_found (-6) (f_X6_finding (-6) S).2).2, by simp only [f_X6_fruits, f_X6_isPart, h1, h2, hin, hix, ht, hw, if_true, if_false, Bool.false_eq_true]; rfl, by simp only [f_X7_fruits, isPlace_eq, in_eq, h1, h2, if_true, hl _ (eF _), Option.bind_some, k0]; rfl, hR.found _ _⟩
      · by_cases hpt : isPt K q = true
        · have k5 : K ≠ 5 := by intro e; subst e; have hq' : q = 0 ∨ q = 1 := by omega
                                rcases hq' with rfl | rfl <;> revert hpt <;> decide
          have ht := isTree_yes hk (by rcases hks with t | t | t | t | t | t <;> simp_all)
          exact ⟨rd S (20 + 2 * p + 1) q, S, S, by simp only [f_X6_fruits, f_X6_isPart, h1, h2, hin, hix, ht, hpc, hpt, hin2, hix2, if_true], by simp only [f_X7_fruits, isPlace_eq, in_eq, h1, h2, if_true, hl _ hK, Option.bind_some, k0, hpt, if_false, part_nat, fruitsOf_nat hp hq, hf]; rfl, hm⟩
        · by_cases k5 : K = 5
          · have ht := isTree_no hk (Or.inr k5)
            have hw : f_X2_whyNoTree (20 + 2 * p) S = -4 := by unfold f_X2_whyNoTree; rw [hk, if_neg k0]
            exact ⟨-4, (f_X6_finding (-4) S).2, (f_X7_found (-4) (f_X6_finding (-4) S).2).2, by simp only [f_X6_fruits, f_X6_isPart, h1, h2, hin, hix, ht, hw, if_true, if_false, Bool.false_eq_true]; rfl, by simp only [f_X7_fruits, isPlace_eq, in_eq, h1, h2, if_true, hl _ (eF _), Option.bind_some, k0, hpt, if_false]; rfl, hR.found _ _⟩
          · have ht := isTree_yes hk (by rcases hks with t | t | t | t | t | t <;> simp_all)
            exact ⟨-4, (f_X6_finding (-4) S).2, (f_X7_found (-4) (f_X6_finding (-4) S).2).2, by simp only [f_X6_fruits, f_X6_isPart, h1, h2, hin, hix, ht, hpc, hpt, if_true, if_false]; rfl, by simp only [f_X7_fruits, isPlace_eq, in_eq, h1, h2, if_true, hl _ (eF _), Option.bind_some, k0, hpt, if_false]; rfl, hR.found _ _⟩
    · exact ⟨-1, (f_X6_finding (-1) S).2, (f_X7_found (-1) (f_X6_finding (-1) S).2).2, by simp only [f_X6_fruits, f_X6_isPart, h1, h2, if_true, if_false]; rfl, by simp only [f_X7_fruits, isPlace_eq, in_eq, h1, h2, if_true, if_false]; rfl, hR.found _ _⟩
  · exact ⟨-1, (f_X6_finding (-1) S).2, (f_X7_found (-1) (f_X6_finding (-1) S).2).2, by simp only [f_X6_fruits, h1, if_false]; rfl, by simp only [f_X7_fruits, isPlace_eq, h1, if_false]; rfl, hR.found _ _⟩
