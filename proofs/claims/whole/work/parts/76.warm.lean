-- the warmth of a day, on both sides
def clp (y : Int32) : Int32 := if y < 0 then 0 else if 60 < y then 60 else y
theorem clp_mx (y : Int32) : mxI 0 (mnI 60 y) = clp y := by
  unfold clp
  rw [mx0]
  unfold mnI
  by_cases h : y < 60
  · rw [if_pos h]
    by_cases h0 : y < 0
    · rw [if_pos h0, if_pos h0]
    · rw [if_neg h0, if_neg h0, if_neg (fun q => by
        have a := Int32.lt_iff_toInt_lt.mp h
        have b := Int32.lt_iff_toInt_lt.mp q
        omega)]
  · have h' : ¬ y.toInt < (60 : Int32).toInt := fun q => h (Int32.lt_iff_toInt_lt.mpr q)
    have e60 : (60 : Int32).toInt = 60 := by decide
    have e0 : (0 : Int32).toInt = 0 := by decide
    rw [if_neg h, if_neg (by decide), if_neg (fun q => by have a := Int32.lt_iff_toInt_lt.mp q; omega)]
    by_cases h2 : 60 < y
    · rw [if_pos h2]
    · rw [if_neg h2]
      have h3 : ¬ (60 : Int32).toInt < y.toInt := fun q => h2 (Int32.lt_iff_toInt_lt.mpr q)
      exact Int32.toInt_inj.mp (by omega)
theorem clp_nat (y : Int32) : ∃ x : Nat, x ≤ 60 ∧ clp y = nI x := by
  unfold clp
  by_cases h0 : y < 0
  · exact ⟨0, by decide, by rw [if_pos h0]; rfl⟩
  · rw [if_neg h0]
    by_cases h2 : 60 < y
    · exact ⟨60, by decide, by rw [if_pos h2]; rfl⟩
    · rw [if_neg h2]
      obtain ⟨n, hn, rfl⟩ := nI_of h0
      refine ⟨n, ?_, rfl⟩
      rcases Nat.lt_or_ge 60 n with q | q
      · exact absurd (nI_lt (a := 60) q hn) h2
      · exact q
theorem J87_clp (y : Int32) (S : St) : f_X7_told0_J87 y S = some (clp y) := by
  unfold f_X7_told0_J87 clp
  by_cases h0 : y < 0
  · rw [if_pos h0, if_pos h0]
  · rw [if_neg h0, if_neg h0]
    by_cases h2 : 60 < y
    · rw [if_pos h2, if_pos h2]
    · rw [if_neg h2, if_neg h2]
theorem nI_or (a b : Nat) : nI a ||| nI b = nI (a ||| b) := by
  apply Int32.toBitVec_inj.mp
  show BitVec.ofNat 32 a ||| BitVec.ofNat 32 b = BitVec.ofNat 32 (a ||| b)
  rw [BitVec.ofNat_or]
/-- a float's whole part, cut to its bounds: both ways -/
theorem flt (v : Int32) : (if v < 0 then clp 0 else if ((v >>> ((23 : Int32) &&& 31)) &&& 255) - 127 < 0 then clp 0 else if (6 : Int32) < ((v >>> ((23 : Int32) &&& 31)) &&& 255) - 127 then clp 60 else clp (((v &&& 8388607) ||| 8388608) >>> ((23 - (((v >>> ((23 : Int32) &&& 31)) &&& 255) - 127)) &&& 31))) = clp (f_X4_wholeOfFloat v) := by
  unfold f_X4_wholeOfFloat
  by_cases h0 : v < 0
  · rw [if_pos h0, if_pos h0]
  · rw [if_neg h0, if_neg h0]
    obtain ⟨n, hn, rfl⟩ := nI_of h0
    have e1 : nI n >>> ((23 : Int32) &&& 31) = nI (n / 2 ^ 23) := pk_shrN hn _ 23 (by decide)
    have e2 : ((nI n).toUInt32 >>> ((23 : Int32).toUInt32 &&& Int32.toUInt32 31)).toInt32 = nI (n / 2 ^ 23) := pk_ushrN (by omega) _ 23 (by decide)
    rw [e1, e2]
    generalize hq : (nI (n / 2 ^ 23) &&& 255) - 127 = q
    by_cases q0 : q < 0
    · rw [if_pos q0, if_pos q0]
    · rw [if_neg q0, if_neg q0]
      by_cases q6 : 6 < q
      · have : ¬ q < 6 := fun r => by
          have a := Int32.lt_iff_toInt_lt.mp q6
          have b := Int32.lt_iff_toInt_lt.mp r
          omega
        rw [if_pos q6, if_neg this]; decide
      · rw [if_neg q6]
        by_cases q5 : q < 6
        · rw [if_pos q5]
        · rw [if_neg q5]
          have e : q = 6 := by
            have a : ¬ (6 : Int32).toInt < q.toInt := fun r => q6 (Int32.lt_iff_toInt_lt.mpr r)
            have b : ¬ q.toInt < (6 : Int32).toInt := fun r => q5 (Int32.lt_iff_toInt_lt.mpr r)
            exact Int32.toInt_inj.mp (by omega)
          subst e
          have e3 : nI n &&& (8388607 : Int32) = nI (n % 2 ^ 23) := pk_andN (by omega) 23 (by decide)
          rw [e3, show (8388608 : Int32) = nI (2 ^ 23) from rfl, nI_or]
          have l1 : n % 2 ^ 23 < 2 ^ 23 := Nat.mod_lt _ (by decide)
          have l2 : (n % 2 ^ 23) ||| 2 ^ 23 < 2 ^ 24 := Nat.or_lt_two_pow (by omega) (by decide)
          have l3 : 2 ^ 23 ≤ (n % 2 ^ 23) ||| 2 ^ 23 := Nat.right_le_or
          generalize hm : (n % 2 ^ 23) ||| 2 ^ 23 = m at l2 l3
          rw [pk_shrN (n := m) (by omega) _ 17 (by decide)]
          have l4 : 60 < m / 2 ^ 17 := by omega
          have l5 : (60 : Int32) < nI (m / 2 ^ 17) := nI_lt (a := 60) l4 (by omega)
          unfold clp
          rw [if_neg (nI_pos (by omega)), if_pos l5]
          decide
/-- the number of bits v on a sheet of kind k -/
def num (k v : Int32) : Int32 := clp (if k = 2 then f_X4_wholeOfFloat v else v)
theorem told0_run {s i : Nat} (hs : s < 4) (hi : i < 50) (S : St) : f_X7_told0 (nI s) (nI i) S = some (if S.1 113 s = 2 ∧ f_X4_isNan (S.1 115 (50 * s + i)) = true then -1 else num (S.1 113 s) (S.1 115 (50 * s + i))) := by
  have i0 : (50 : Int32) * nI s + nI i = nI (50 * s + i) := by rw [show (50 : Int32) = nI 50 from rfl, pk_mul, nI_add]
  have h1 : inb (nI (50 * s + i)) 200 = true := inb_nI (by omega) (by decide)
  have h2 : ix (nI (50 * s + i)) = 50 * s + i := ix_nI (by omega)
  have h3 : inb (nI s) 4 = true := inb_nI hs (by decide)
  have h4 : ix (nI s) = s := ix_nI (by omega)
  simp only [f_X7_told0, i0, h1, h2, h3, h4, if_true, rd, isNone_eq, f_X7_told0_J62, f_X7_told0_J86, J87_clp]
  generalize S.1 115 (50 * s + i) = v
  unfold num
  by_cases k2 : S.1 113 s = 2
  · rw [if_pos k2, if_pos k2]
    by_cases hn : f_X4_isNan v = true
    · rw [if_pos hn, if_pos ⟨k2, hn⟩]
    · have hcond : ¬ (S.1 113 s = 2 ∧ f_X4_isNan v = true) := fun q => hn q.2
      rw [if_neg hn, if_neg hcond, ← flt v]
      by_cases c1 : v < 0
      · rw [if_pos c1, if_pos c1]
      · rw [if_neg c1, if_neg c1]
        generalize ((v >>> ((23 : Int32) &&& 31)) &&& 255) - 127 = q
        by_cases c2 : q < 0
        · rw [if_pos c2, if_pos c2]
        · rw [if_neg c2, if_neg c2]
          by_cases c3 : 6 < q
          · rw [if_pos c3, if_pos c3]
          · rw [if_neg c3, if_neg c3]
  · rw [if_neg k2, if_neg k2, if_neg (fun q => k2 q.1)]
/-- number i of sheet s, if there is one -/
def shN (S : St) (s i : Nat) : Option Nat := if i < ix (S.1 114 s) then (if S.1 113 s = 2 ∧ f_X4_isNan (S.1 115 (50 * s + i)) = true then none else some (ix (num (S.1 113 s) (S.1 115 (50 * s + i))))) else none
def shW2 : Option Nat → Option Nat → Nat
  | some a, some b => (a + b) / 2
  | some a, none => a
  | none, some b => b
  | none, none => 0
def shW (S : St) (s d : Nat) : Nat := match shN S s d with
  | some x => x
  | none => shW2 (if d = 0 then none else shN S s (d - 1)) (shN S s (d + 1))
theorem num_nat (k v : Int32) : num k v = nI (ix (num k v)) ∧ ix (num k v) ≤ 60 := by
  obtain ⟨x, hx, e⟩ := clp_nat (if k = 2 then f_X4_wholeOfFloat v else v)
  have e' : num k v = nI x := e
  rw [e', ix_nI (by omega)]
  exact ⟨rfl, hx⟩
theorem shN_le {S : St} {s i x : Nat} (h : shN S s i = some x) : x ≤ 60 := by
  unfold shN at h
  by_cases h1 : i < ix (S.1 114 s)
  · rw [if_pos h1] at h
    by_cases h2 : S.1 113 s = 2 ∧ f_X4_isNan (S.1 115 (50 * s + i)) = true
    · rw [if_pos h2] at h; cases h
    · rw [if_neg h2] at h
      have := (num_nat (S.1 113 s) (S.1 115 (50 * s + i))).2
      cases h; exact this
  · rw [if_neg h1] at h; cases h
theorem shW2_le {a b : Option Nat} (ha : ∀ x, a = some x → x ≤ 60) (hb : ∀ x, b = some x → x ≤ 60) : shW2 a b ≤ 60 := by
  cases a with
  | none => cases b with
    | none => exact Nat.zero_le _
    | some y => exact hb y rfl
  | some x => cases b with
    | none => exact ha x rfl
    | some y =>
      have := ha x rfl
      have := hb y rfl
      show (x + y) / 2 ≤ 60
      omega
theorem shW_le (S : St) (s d : Nat) : shW S s d ≤ 60 := by
  unfold shW
  cases h : shN S s d with
  | some x => exact shN_le h
  | none =>
    refine shW2_le (fun x hx => ?_) (fun x hx => shN_le hx)
    by_cases h0 : d = 0
    · rw [if_pos h0] at hx; cases hx
    · rw [if_neg h0] at hx; exact shN_le hx
/-- what told0 tells, where the sheet reaches -/
theorem told0_shN {s i n : Nat} (hs : s < 4) (hn : n ≤ 50) (S : St) (h4 : S.1 114 s = nI n) (hi : i < n) : f_X7_told0 (nI s) (nI i) S = some (match shN S s i with | some x => nI x | none => -1) := by
  rw [told0_run hs (by omega)]
  unfold shN
  rw [h4, ix_nI (by omega), if_pos hi]
  by_cases h2 : S.1 113 s = 2 ∧ f_X4_isNan (S.1 115 (50 * s + i)) = true
  · rw [if_pos h2, if_pos h2]
  · rw [if_neg h2, if_neg h2]
    exact congrArg some (num_nat _ _).1
theorem stands_sheet {s d n : Nat} (hs : s < 4) (hn : n ≤ 50) (S : St) (h4 : S.1 114 s = nI n) (h6 : S.1 109 786 = nI s) (hd : d < n) : f_X7_stands (nI d) S = some (nI (shW S s d)) := by
  have hin : inb (nI s) 4 = true := inb_nI hs (by decide)
  have hix : ix (nI s) = s := ix_nI (by omega)
  have h6' : rd S 109 786 = nI s := h6
  have h4' : rd S 114 s = nI n := h4
  have c0 : (nI s < 0) = False := eq_false (nI_pos (by omega))
  have c1 : (nI d < nI n) = True := ltT hd (by omega)
  have m1 : ((-1 : Int32) < 0) = True := by decide
  unfold shW
  simp only [f_X7_stands, ix_786, h6', c0, hin, hix, h4', c1, if_true, if_false, told0_shN hs hn S h4 hd, Option.bind_some]
  cases e0 : shN S s d with
  | some x =>
    have := shN_le e0
    simp only []
    rw [if_neg (nI_pos (by omega))]
  | none =>
    simp only [m1, if_true]
    -- one turn of the loop at a place i below n, or past it, or below 0
    have turn : ∀ (o : Option Nat) (i : Int32) (sm : Nat) (many : Nat) (m : Nat) (K : Int32 → Int32 → Option Int32), ¬ (nI d + 1 < i) → ((i < 0 ∧ o = none) ∨ ∃ j : Nat, i = nI j ∧ j ≤ 50 ∧ o = shN S s j) → (∀ x, o = some x → x ≤ 60) → f_X7_stands_L51 (m + 1) K (nI d) (nI s) (nI sm) (nI many) i S = f_X7_stands_L51 m K (nI d) (nI s) (nI (sm + o.getD 0)) (nI (many + (if o.isSome then 1 else 0))) (i + 2) S := by
      intro o i sm many m K g1 g2 g3
      have g1' : (nI d + 1 < i) = False := eq_false g1
      rcases g2 with ⟨g2, rfl⟩ | ⟨j, rfl, hj, rfl⟩
      · simp only [f_X7_stands_L51, g1', g2, m1, if_true, if_false, Option.getD_none, Nat.add_zero]
        rfl
      · have g2 : (nI j < 0) = False := eq_false (nI_pos (by omega))
        by_cases l : j < n
        · have l' : (nI j < nI n) = True := ltT l (by omega)
          simp only [f_X7_stands_L51, g1', g2, hin, hix, h4', l', if_true, if_false, told0_shN hs hn S h4 l, Option.bind_some]
          cases ej : shN S s j with
          | none => simp only [m1, if_true, Option.getD_none, Nat.add_zero]; rfl
          | some x =>
            have := g3 x ej
            simp only []
            rw [if_neg (nI_pos (by omega))]
            simp only [nI_add, nI_1, Option.getD_some]; rfl
        · have l' : (nI j < nI n) = False := ltF (by omega) (by omega)
          have ej : shN S s j = none := by unfold shN; rw [h4, ix_nI (by omega), if_neg l]
          simp only [f_X7_stands_L51, g1', g2, hin, hix, h4', l', if_true, if_false, m1, ej, Option.getD_none, Nat.add_zero]
          rfl
    obtain ⟨o1, ho1⟩ : ∃ o, o = (if d = 0 then none else shN S s (d - 1)) := ⟨_, rfl⟩
    obtain ⟨o2, ho2⟩ : ∃ o, o = shN S s (d + 1) := ⟨_, rfl⟩
    have b1 : ∀ x, o1 = some x → x ≤ 60 := fun x hx => by
      rw [ho1] at hx
      by_cases h0 : d = 0
      · rw [if_pos h0] at hx; cases hx
      · rw [if_neg h0] at hx; exact shN_le hx
    have b2 : ∀ x, o2 = some x → x ≤ 60 := fun x hx => by rw [ho2] at hx; exact shN_le hx
    have e2 : nI d - 1 + 2 = nI (d + 1) := by
      rw [Int32.sub_eq_add_neg, Int32.add_assoc, show (-1 : Int32) + 2 = 1 from by decide, nI_1]
    have hm : (nI d - 1 < 0 ∧ o1 = none) ∨ ∃ j : Nat, nI d - 1 = nI j ∧ j ≤ 50 ∧ o1 = shN S s j := by
      by_cases h0 : d = 0
      · subst h0; left; exact ⟨by decide, by rw [ho1, if_pos rfl]⟩
      · right; exact ⟨d - 1, pk_sub (b := 1) (by omega), by omega, by rw [ho1, if_neg h0]⟩
    have g1 : ¬ (nI d + 1 < nI d - 1) := by
      rcases hm with ⟨q, -⟩ | ⟨j, hj, -, -⟩
      · intro r
        have a := Int32.lt_iff_toInt_lt.mp q
        have b := Int32.lt_iff_toInt_lt.mp r
        rw [nI_1, nI_toInt (by omega)] at b
        have e0 : (0 : Int32).toInt = 0 := by decide
        omega
      · by_cases h0 : d = 0
        · subst h0; decide
        · rw [show nI d - 1 = nI (d - 1) from pk_sub (b := 1) (by omega), nI_1]; exact nI_nlt (by omega) (by omega)
    have g2 : ¬ (nI d + 1 < nI (d + 1)) := by rw [nI_1]; exact nI_nlt (Nat.le_refl _) (by omega)
    have g3 : (nI d + 1 < nI (d + 1) + 2) = True := by
      rw [nI_1, show nI (d + 1) + 2 = nI (d + 1 + 2) from nI_add _ 2]; exact ltT (by omega) (by omega)
    rw [← ho1, ← ho2]
    have fin : ∀ (m : Nat) (K : Int32 → Int32 → Option Int32) (u v : Int32), f_X7_stands_L51 (m + 1) K (nI d) (nI s) u v (nI (d + 1) + 2) S = K u v := fun m K u v => by
      simp only [f_X7_stands_L51, g3, if_true]
    rw [show (6000 : Nat) = 5997 + 1 + 1 + 1 from rfl, show (0 : Int32) = nI 0 from rfl, turn o1 _ 0 0 _ _ g1 hm b1, e2, turn o2 _ _ _ _ _ g2 (Or.inr ⟨d + 1, rfl, by omega, ho2⟩) b2, fin]
    cases o1 with
    | none => cases o2 with
      | none => rfl
      | some y =>
        have := b2 y rfl
        show (if nI 1 = nI 0 then _ else if nI 1 = nI 0 then none else some (nI (0 + 0 + y) / nI 1)) = _
        rw [if_neg (by decide), if_neg (by decide), pk_div (by omega) (by decide) (by decide)]
        simp only [shW2]
        congr 2; omega
    | some x => cases o2 with
      | none =>
        have := b1 x rfl
        show (if nI 1 = nI 0 then _ else if nI 1 = nI 0 then none else some (nI (0 + x + 0) / nI 1)) = _
        rw [if_neg (by decide), if_neg (by decide), pk_div (by omega) (by decide) (by decide)]
        simp only [shW2]
        congr 2; omega
      | some y =>
        have := b1 x rfl
        have := b2 y rfl
        show (if nI 2 = nI 0 then _ else if nI 2 = nI 0 then none else some (nI (0 + x + y) / nI 2)) = _
        rw [if_neg (by decide), if_neg (by decide), pk_div (by omega) (by decide) (by decide)]
        simp only [shW2]
        congr 2; omega
