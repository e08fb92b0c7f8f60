theorem layPairs_le (A : Nat → Int32) (n g : Nat) : layPairs A n g ≤ 144 := by
  have hl : (layTrees A).length ≤ 12 := trJ_le A 12
  unfold layPairs
  have h1 := fb_bound (f := fun a => fb_sum (fun b => if (a ≠ b ∧ layNear A ((layTrees A).getD a 0) ((layTrees A).getD b 0) = true ∧ layFits A (layDig n (layTrees A).length g a) (layDig n (layTrees A).length g b) = true) then 1 else 0) (layTrees A).length) (b := 12) (n := (layTrees A).length) (fun a _ => by
    have := fb_bound (f := fun b => if (a ≠ b ∧ layNear A ((layTrees A).getD a 0) ((layTrees A).getD b 0) = true ∧ layFits A (layDig n (layTrees A).length g a) (layDig n (layTrees A).length g b) = true) then 1 else 0) (b := 1) (n := (layTrees A).length) (fun b _ => by
      by_cases c : (a ≠ b ∧ layNear A ((layTrees A).getD a 0) ((layTrees A).getD b 0) = true ∧ layFits A (layDig n (layTrees A).length g a) (layDig n (layTrees A).length g b) = true)
      · rw [if_pos c]; exact Nat.le_refl _
      · rw [if_neg c]; omega)
    omega)
  have h2 : (layTrees A).length * 12 ≤ 12 * 12 := Nat.mul_le_mul_right 12 hl
  omega
/-- the best so far: what both keep while they try -/
def BstV (A : Nat → Int32) (n g : Nat) (best : Int32) (giv : Nat → Int32) : Prop := match fstB (layPairs A n) g with
  | none => best = -1
  | some b => best = nI (layPairs A n b) ∧ ∀ t, t < (layTrees A).length → giv ((layTrees A).getD t 0) = nI (layDig n (layTrees A).length b t)
theorem BstV.cong {A : Nat → Int32} {n g : Nat} {best : Int32} {giv giv' : Nat → Int32} (h : BstV A n g best giv) (e : ∀ t, t < (layTrees A).length → giv' ((layTrees A).getD t 0) = giv ((layTrees A).getD t 0)) : BstV A n g best giv' := by
  unfold BstV at h ⊢
  cases hf : fstB (layPairs A n) g with
  | none => rw [hf] at h; exact h
  | some b => rw [hf] at h; exact ⟨h.1, fun t ht => by rw [e t ht]; exact h.2 t ht⟩
theorem BstV.less {A : Nat → Int32} {n g : Nat} {best : Int32} {giv : Nat → Int32} (h : BstV A n g best giv) : (best < nI (layPairs A n g) → ∀ giv', (∀ t, t < (layTrees A).length → giv' ((layTrees A).getD t 0) = nI (layDig n (layTrees A).length g t)) → BstV A n (g + 1) (nI (layPairs A n g)) giv') ∧ (¬ best < nI (layPairs A n g) → BstV A n (g + 1) best giv) := by
  have hl := layPairs_le A n g
  unfold BstV at h ⊢
  have e : fstB (layPairs A n) (g + 1) = match fstB (layPairs A n) g with
    | none => some g
    | some b => if layPairs A n b < layPairs A n g then some g else some b := rfl
  rw [e]
  cases hf : fstB (layPairs A n) g with
  | none =>
    rw [hf] at h
    refine ⟨fun _ giv' hg => ⟨rfl, hg⟩, fun q => absurd ?_ q⟩
    have hb : best = -1 := h
    rw [hb]
    apply Int32.lt_iff_toInt_lt.mpr
    rw [nI_toInt (by omega), show (-1 : Int32).toInt = -1 from by decide]
    omega
  | some b =>
    rw [hf] at h
    obtain ⟨h1, h2⟩ := h
    have hlb := layPairs_le A n b
    subst h1
    refine ⟨fun q giv' hg => ?_, fun q => ?_⟩
    · have := (nI_ltI (by omega) (by omega)).mp q
      simp only [if_pos this]; exact ⟨trivial, hg⟩
    · have : ¬ layPairs A n b < layPairs A n g := fun r => q (nI_lt r (by omega))
      simp only [if_neg this]; exact ⟨trivial, h2⟩
/-- the next giving, in the reference -/
theorem nextR {m n g : Nat} {V : St} (hm : m ≤ 12) (hn : 0 < n) (hn6 : n ≤ 6) (hg : g < n ^ m) (h122 : ∀ t, t < m → V.1 122 t = nI (layDig n m g t)) (K : Int32 → Int32 → Int32 → Int32 → St → Option (Int32 × St)) (b : Int32) : ∃ (t : Int32) (V' : St), f_X7_best_L396 6000 K (nI m) (nI n) b (nI m - 1) V = K (nI m) (nI n) b t V' ∧ V'.2 = V.2 ∧ (∀ i, i ≠ 122 → V'.1 i = V.1 i) ∧ ((t = -1 ∧ g + 1 = n ^ m) ∨ ∃ j, j < m ∧ t = nI j ∧ g + 1 < n ^ m ∧ V'.1 122 j + 1 = nI (layDig n m (g + 1) j) ∧ ∀ x, x < m → x ≠ j → V'.1 122 x = nI (layDig n m (g + 1) x)) := by
  have dl : ∀ t, layDig n m g t < n := fun t => layDig_lt hn
  refine loop_d (fun k (v : Int32 × St) => f_X7_best_L396 k K (nI m) (nI n) b v.1 v.2)
    (fun i v => i ≤ m ∧ v.1 = nI i - 1 ∧ g % n ^ (m - i) = n ^ (m - i) - 1 ∧ v.2.2 = V.2 ∧ (∀ x, x ≠ 122 → v.2.1 x = V.1 x) ∧ ∀ x, x < m → v.2.1 122 x = if i ≤ x then 0 else nI (layDig n m g x))
    (fun r => ∃ (t : Int32) (V' : St), r = K (nI m) (nI n) b t V' ∧ V'.2 = V.2 ∧ (∀ i, i ≠ 122 → V'.1 i = V.1 i) ∧ ((t = -1 ∧ g + 1 = n ^ m) ∨ ∃ j, j < m ∧ t = nI j ∧ g + 1 < n ^ m ∧ V'.1 122 j + 1 = nI (layDig n m (g + 1) j) ∧ ∀ x, x < m → x ≠ j → V'.1 122 x = nI (layDig n m (g + 1) x))) ?_ ?_ m 6000 (nI m - 1, V) (by omega) ⟨Nat.le_refl _, rfl, by rw [Nat.sub_self, Nat.pow_zero, Nat.mod_one], rfl, fun _ _ => rfl, fun x hx => by rw [if_neg (by omega)]; exact h122 x hx⟩
  · intro k i v hP
    obtain ⟨t, U⟩ := v
    obtain ⟨p1, p2, p3, p4, p5, p6⟩ := hP
    simp only at p2 p4 p5 p6
    have et : t = nI i := p2.trans (nI_pred i)
    subst et
    have c0 : (nI i < 0) = False := eq_false (nI_pos (by omega))
    have hin : inb (nI i) 12 = true := inb_nI (by omega) (by decide)
    have hix : ix (nI i) = i := ix_nI (by omega)
    have r : rd U 122 i = nI (layDig n m g i) := by
      show U.1 122 i = _; rw [p6 i (by omega), if_neg (by omega)]
    have en : nI n - 1 = nI (n - 1) := pk_sub (b := 1) (by omega)
    have dli := dl i
    have hex : m - 1 - (m - (i + 1)) = i := by omega
    by_cases e : layDig n m g i = n - 1
    · left
      have ce : (nI (layDig n m g i) = nI (n - 1)) = True := eq_true (by rw [e])
      refine ⟨(nI i - 1, wr U 122 i 0), ⟨by omega, rfl, ?_, p4, fun x hx => by rw [wr1_ne hx]; exact p5 x hx, fun x hx => ?_⟩, ?_⟩
      · have := dig_more hn p3 (by
          unfold layDig at e
          rw [show m - 1 - i = m - (i + 1) from by omega] at e; exact e)
        rw [show m - (i + 1) + 1 = m - i from by omega] at this
        exact this
      · show (wr U 122 i 0).1 122 x = _
        rw [wr1_eq]
        by_cases ex : x = i
        · rw [if_pos ex, if_pos (by omega)]
        · rw [if_neg ex, p6 x hx]
          by_cases l : i + 1 ≤ x
          · rw [if_pos l, if_pos (by omega)]
          · rw [if_neg l, if_neg (by omega)]
      · have es : nI i + (-1) = nI i - 1 := (Int32.sub_eq_add_neg _ _).symm
        simp only [f_X7_best_L396, c0, if_false, hin, hix, if_true, r, en, ce, es]
    · right
      have ce : (nI (layDig n m g i) = nI (n - 1)) = False := eq_false (fun q => e ((nI_eq (by omega) (by omega)).mp q))
      have hd' : layDig n m g (m - 1 - (m - (i + 1))) ≠ n - 1 := by rw [hex]; exact e
      have hnx := layDig_next hn (show m - (i + 1) < m by omega) p3 hd'
      rw [hex] at hnx
      refine ⟨nI i, U, by simp only [f_X7_best_L396, c0, if_false, hin, hix, if_true, r, en, ce], p4, p5, Or.inr ⟨i, by omega, rfl, not_last hn (show m - (i + 1) < m by omega) hg hd', ?_, fun x hx hxi => ?_⟩⟩
      · rw [p6 i (by omega), if_neg (by omega), nI_1, hnx i (by omega), if_pos rfl]
      · rw [p6 x hx, hnx x hx, if_neg hxi]
        by_cases l : i + 1 ≤ x
        · rw [if_pos l, if_pos (by omega)]; rfl
        · rw [if_neg l, if_neg (by omega)]
  · intro k v hP
    obtain ⟨t, U⟩ := v
    obtain ⟨p1, p2, p3, p4, p5, p6⟩ := hP
    simp only at p2 p4 p5 p6
    have et : t = -1 := p2.trans (by decide)
    subst et
    have c0 : ((-1 : Int32) < 0) = True := by decide
    rw [Nat.sub_zero] at p3
    exact ⟨-1, U, by simp only [f_X7_best_L396, c0, if_true], p4, p5, Or.inl ⟨rfl, all_last hn hg p3⟩⟩
/-- the giving is told, in the reference -/
theorem givR {A : Nat → Int32} {n g : Nat} {V : St} (h121 : ∀ t, t < (layTrees A).length → V.1 121 t = nI ((layTrees A).getD t 0)) (h122 : ∀ t, t < (layTrees A).length → V.1 122 t = nI (layDig n (layTrees A).length g t)) (K : Int32 → Int32 → Int32 → St → Option (Int32 × St)) (b c : Int32) : ∃ V', f_X7_best_L360 6000 K (nI (layTrees A).length) b c 0 V = K (nI (layTrees A).length) b c V' ∧ V'.2 = V.2 ∧ (∀ i, i ≠ 116 → V'.1 i = V.1 i) ∧ ∀ t, t < (layTrees A).length → V'.1 116 ((layTrees A).getD t 0) = nI (layDig n (layTrees A).length g t) := by
  have hl : (layTrees A).length ≤ 12 := trJ_le A 12
  have := loop_up (N := (layTrees A).length) (fun k i U => f_X7_best_L360 k K (nI (layTrees A).length) b c i U) (fun U => K (nI (layTrees A).length) b c U) (fun j U => U.2 = V.2 ∧ (∀ i, i ≠ 116 → U.1 i = V.1 i) ∧ ∀ t, t < j → U.1 116 ((layTrees A).getD t 0) = nI (layDig n (layTrees A).length g t)) (fun k j U hj hP => by
    obtain ⟨p1, p2, p3⟩ := hP
    have h1 : (nI j < nI (layTrees A).length) = True := ltT hj (by omega)
    have i1 : inb (nI j) 12 = true := inb_nI (by omega) (by decide)
    have x1 : ix (nI j) = j := ix_nI (by omega)
    have r1 : rd U 121 j = nI ((layTrees A).getD j 0) := by show U.1 121 j = _; rw [p2 121 (by decide)]; exact h121 j hj
    have r2 : rd U 122 j = nI (layDig n (layTrees A).length g j) := by show U.1 122 j = _; rw [p2 122 (by decide)]; exact h122 j hj
    have ht := layTrees_lt (A := A) j
    have i2 : inb (nI ((layTrees A).getD j 0)) 12 = true := inb_nI ht (by decide)
    have x2 : ix (nI ((layTrees A).getD j 0)) = (layTrees A).getD j 0 := ix_nI (by omega)
    refine ⟨wr U 116 ((layTrees A).getD j 0) (nI (layDig n (layTrees A).length g j)), ⟨p1, fun i hi => by rw [wr1_ne hi]; exact p2 i hi, fun t htj => ?_⟩, by simp only [f_X7_best_L360, h1, if_true, i1, x1, r1, i2, x2, r2, nI_1]⟩
    rw [wr1_eq]
    by_cases e : t = j
    · rw [e, if_pos rfl]
    · rw [if_neg (fun q => e (layTrees_inj (by omega) hj q))]; exact p3 t (by omega)) (fun k U hP => by
    have h1 : (nI (layTrees A).length < nI (layTrees A).length) = False := ltF (Nat.le_refl _) (by omega)
    simp only [f_X7_best_L360, h1, if_false]) (fuel := 6000) (T := V) (by omega) ⟨rfl, fun _ _ => rfl, fun t ht => absurd ht (by omega)⟩
  rw [nI_0] at this
  obtain ⟨U, ⟨p1, p2, p3⟩, e⟩ := this
  exact ⟨U, e, p1, p2, p3⟩
/-- the pairs are counted, in the reference -/
theorem cntR {A : Nat → Int32} {n g : Nat} {U : St} (hn : 0 < n) (hn6 : n ≤ 6) (h122 : ∀ t, t < (layTrees A).length → U.1 122 t = nI (layDig n (layTrees A).length g t)) (h123 : ∀ s o, s < n → o < n → U.1 123 (6 * s + o) = if layFits A s o = true then 1 else 0) (h124 : ∀ a b, a < (layTrees A).length → b < (layTrees A).length → U.1 124 (12 * a + b) = if a ≠ b ∧ layNear A ((layTrees A).getD a 0) ((layTrees A).getD b 0) = true then 1 else 0) (K : Int32 → Int32 → Int32 → Int32 → St → Option (Int32 × St)) (b : Int32) : f_X7_best_L267 6000 K (nI (layTrees A).length) (nI n) b 0 0 U = K (nI (layTrees A).length) (nI n) b (nI (layPairs A n g)) U := by
  have hl : (layTrees A).length ≤ 12 := trJ_le A 12
  have dl : ∀ t, layDig n (layTrees A).length g t < n := fun t => layDig_lt hn
  have row : ∀ (K : Int32 → Int32 → Int32 → Int32 → Int32 → St → Option (Int32 × St)) (c a : Nat), a < (layTrees A).length → f_X7_best_L276 6000 K (nI (layTrees A).length) (nI n) b (nI c) (nI a) 0 U = K (nI (layTrees A).length) (nI n) b (nI (c + fb_sum (fun b => if (a ≠ b ∧ layNear A ((layTrees A).getD a 0) ((layTrees A).getD b 0) = true ∧ layFits A (layDig n (layTrees A).length g a) (layDig n (layTrees A).length g b) = true) then 1 else 0) (layTrees A).length)) (nI a) U := by
    intro K c a ha
    have := loop_up (N := (layTrees A).length) (fun k i (v : Int32) => f_X7_best_L276 k K (nI (layTrees A).length) (nI n) b v (nI a) i U) (fun v => K (nI (layTrees A).length) (nI n) b v (nI a) U) (fun j v => v = nI (c + fb_sum (fun b => if (a ≠ b ∧ layNear A ((layTrees A).getD a 0) ((layTrees A).getD b 0) = true ∧ layFits A (layDig n (layTrees A).length g a) (layDig n (layTrees A).length g b) = true) then 1 else 0) j)) (fun k j v hj hP => by
      subst hP
      refine ⟨_, rfl, ?_⟩
      have h1 : (nI j < nI (layTrees A).length) = True := ltT hj (by omega)
      have e12 : (12 : Int32) * nI a + nI j = nI (12 * a + j) := by rw [show (12 : Int32) = nI 12 from rfl, pk_mul, nI_add]
      have hin : inb (nI (12 * a + j)) 144 = true := inb_nI (by omega) (by decide)
      have hix : ix (nI (12 * a + j)) = 12 * a + j := ix_nI (by omega)
      have i1 : inb (nI a) 12 = true := inb_nI (by omega) (by decide)
      have x1 : ix (nI a) = a := ix_nI (by omega)
      have i2 : inb (nI j) 12 = true := inb_nI (by omega) (by decide)
      have x2 : ix (nI j) = j := ix_nI (by omega)
      have r1 : rd U 122 a = nI (layDig n (layTrees A).length g a) := h122 a ha
      have r2 : rd U 122 j = nI (layDig n (layTrees A).length g j) := h122 j hj
      have da := dl a
      have dj := dl j
      have e6 : (6 : Int32) * nI (layDig n (layTrees A).length g a) + nI (layDig n (layTrees A).length g j) = nI (6 * layDig n (layTrees A).length g a + layDig n (layTrees A).length g j) := by rw [show (6 : Int32) = nI 6 from rfl, pk_mul, nI_add]
      have i3 : inb (nI (6 * layDig n (layTrees A).length g a + layDig n (layTrees A).length g j)) 36 = true := inb_nI (by omega) (by decide)
      have x3 : ix (nI (6 * layDig n (layTrees A).length g a + layDig n (layTrees A).length g j)) = 6 * layDig n (layTrees A).length g a + layDig n (layTrees A).length g j := ix_nI (by omega)
      have r3 : rd U 124 (12 * a + j) = if a ≠ j ∧ layNear A ((layTrees A).getD a 0) ((layTrees A).getD j 0) = true then 1 else 0 := h124 a j ha hj
      have r4 : rd U 123 (6 * layDig n (layTrees A).length g a + layDig n (layTrees A).length g j) = if layFits A (layDig n (layTrees A).length g a) (layDig n (layTrees A).length g j) = true then 1 else 0 := h123 _ _ da dj
      have z0 : ∀ x : Nat, nI x + 0 = nI (x + 0) := fun x => by rw [show (0 : Int32) = nI 0 from rfl, nI_add]
      simp only [f_X7_best_L276, h1, if_true, e12, hin, hix, r3, i1, x1, i2, x2, r1, r2, e6, i3, x3, r4, nI_1, z0]
      rw [fb_sum]
      by_cases c1 : a ≠ j ∧ layNear A ((layTrees A).getD a 0) ((layTrees A).getD j 0) = true
      · rw [if_pos c1, if_neg (by decide)]
        by_cases c2 : layFits A (layDig n (layTrees A).length g a) (layDig n (layTrees A).length g j) = true
        · rw [if_pos c2, if_neg (by decide), if_pos ⟨c1.1, c1.2, c2⟩, Nat.add_assoc]
        · rw [if_neg c2, if_pos rfl, if_neg (fun q => c2 q.2.2)]; rfl
      · rw [if_neg c1, if_pos rfl, if_neg (fun q => c1 ⟨q.1, q.2.1⟩)]; rfl) (fun k v hP => by
      have h1 : (nI (layTrees A).length < nI (layTrees A).length) = False := ltF (Nat.le_refl _) (by omega)
      simp only [f_X7_best_L276, h1, if_false]) (fuel := 6000) (T := nI c) (by omega) rfl
    rw [nI_0] at this
    obtain ⟨v, hv, e⟩ := this
    subst hv
    exact e
  have := loop_up (N := (layTrees A).length) (fun k i (v : Int32) => f_X7_best_L267 k K (nI (layTrees A).length) (nI n) b v i U) (fun v => K (nI (layTrees A).length) (nI n) b v U) (fun j v => v = nI (fb_sum (fun a => fb_sum (fun b => if (a ≠ b ∧ layNear A ((layTrees A).getD a 0) ((layTrees A).getD b 0) = true ∧ layFits A (layDig n (layTrees A).length g a) (layDig n (layTrees A).length g b) = true) then 1 else 0) (layTrees A).length) j)) (fun k j v hj hP => by
    subst hP
    refine ⟨_, rfl, ?_⟩
    have h1 : (nI j < nI (layTrees A).length) = True := ltT hj (by omega)
    simp only [f_X7_best_L267, h1, if_true]
    rw [row _ _ j hj, nI_1]
    rfl) (fun k v hP => by
    have h1 : (nI (layTrees A).length < nI (layTrees A).length) = False := ltF (Nat.le_refl _) (by omega)
    simp only [f_X7_best_L267, h1, if_false]) (fuel := 6000) (T := 0) (by omega) rfl
  rw [nI_0] at this
  obtain ⟨v, hv, e⟩ := this
  subst hv
  exact e
