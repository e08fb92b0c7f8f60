theorem tell_run {A : Nat → Int32} {n g : Nat} {V : St} (h2 : V.1 101 2 = nI (layTrees A).length) (h102 : ∀ t, t < (layTrees A).length → V.1 102 t = nI ((layTrees A).getD t 0)) (h105 : ∀ t, t < (layTrees A).length → V.1 105 t = nI (layDig n (layTrees A).length g t)) : ∃ V', f_X1_tellTried V = some V' ∧ V'.2 = V.2 ∧ (∀ i, i ≠ 104 → V'.1 i = V.1 i) ∧ ∀ t, t < (layTrees A).length → V'.1 104 ((layTrees A).getD t 0) = nI (layDig n (layTrees A).length g t) := by
  have hl : (layTrees A).length ≤ 12 := trJ_le A 12
  have := loop_up (N := (layTrees A).length) (fun k i U => f_X1_tellTried_L2 k (fun T33 => (some T33)) i U) (fun U => some U) (fun j U => U.2 = V.2 ∧ (∀ i, i ≠ 104 → U.1 i = V.1 i) ∧ ∀ t, t < j → U.1 104 ((layTrees A).getD t 0) = nI (layDig n (layTrees A).length g t)) (fun k j U hj hP => by
    obtain ⟨p1, p2, p3⟩ := hP
    have r0 : rd U 101 2 = nI (layTrees A).length := by show U.1 101 2 = _; rw [p2 101 (by decide)]; exact h2
    have h1 : (nI j < nI (layTrees A).length) = True := ltT hj (by omega)
    have i1 : inb (nI j) 12 = true := inb_nI (by omega) (by decide)
    have x1 : ix (nI j) = j := ix_nI (by omega)
    have r1 : rd U 102 j = nI ((layTrees A).getD j 0) := by show U.1 102 j = _; rw [p2 102 (by decide)]; exact h102 j hj
    have r2 : rd U 105 j = nI (layDig n (layTrees A).length g j) := by show U.1 105 j = _; rw [p2 105 (by decide)]; exact h105 j hj
    have ht := layTrees_lt (A := A) j
    have i2 : inb (nI ((layTrees A).getD j 0)) 12 = true := inb_nI ht (by decide)
    have x2 : ix (nI ((layTrees A).getD j 0)) = (layTrees A).getD j 0 := ix_nI (by omega)
    refine ⟨wr U 104 ((layTrees A).getD j 0) (nI (layDig n (layTrees A).length g j)), ⟨p1, fun i hi => by rw [wr1_ne hi]; exact p2 i hi, fun t htj => ?_⟩, by simp only [f_X1_tellTried_L2, r0, h1, if_true, i1, x1, r1, i2, x2, r2, nI_1]⟩
    rw [wr1_eq]
    by_cases e : t = j
    · rw [e, if_pos rfl]
    · rw [if_neg (fun q => e (layTrees_inj (by omega) hj q))]; exact p3 t (by omega)) (fun k U hP => by
    have r0 : rd U 101 2 = nI (layTrees A).length := by show U.1 101 2 = _; rw [hP.2.1 101 (by decide)]; exact h2
    have h1 : (nI (layTrees A).length < nI (layTrees A).length) = False := ltF (Nat.le_refl _) (by omega)
    simp only [f_X1_tellTried_L2, r0, h1, if_false]) (fuel := 6000) (T := V) (by omega) ⟨rfl, fun _ _ => rfl, fun t ht => absurd ht (by omega)⟩
  rw [nI_0] at this
  obtain ⟨U, ⟨p1, p2, p3⟩, e⟩ := this
  exact ⟨U, e, p1, p2, p3⟩
theorem tryNext_run {m n g : Nat} {V : St} (hm : m ≤ 12) (hn : 0 < n) (hn6 : n ≤ 6) (hg : g < n ^ m) (h2 : V.1 101 2 = nI m) (h3 : V.1 101 3 = nI n) (h105 : ∀ t, t < m → V.1 105 t = nI (layDig n m g t)) : ∃ (t : Int32) (V' : St), f_X1_tryNext V = some (t, V') ∧ V'.2 = V.2 ∧ (∀ i, i ≠ 105 → V'.1 i = V.1 i) ∧ ((t = -1 ∧ g + 1 = n ^ m) ∨ ∃ j, j < m ∧ t = nI j ∧ g + 1 < n ^ m ∧ (∀ x, x < j → layDig n m (g + 1) x = layDig n m g x) ∧ ∀ x, x < m → V'.1 105 x = nI (layDig n m (g + 1) x)) := by
  have dl : ∀ t, layDig n m g t < n := fun t => layDig_lt hn
  unfold f_X1_tryNext
  rw [show rd V 101 2 = nI m from h2]
  refine loop_d (fun k (v : Int32 × St) => f_X1_tryNext_L7 k (fun T51 => (some ((-1 : Int32), T51))) v.1 v.2)
    (fun i v => i ≤ m ∧ v.1 = nI i - 1 ∧ g % n ^ (m - i) = n ^ (m - i) - 1 ∧ v.2.2 = V.2 ∧ (∀ x, x ≠ 105 → v.2.1 x = V.1 x) ∧ ∀ x, x < m → v.2.1 105 x = if i ≤ x then 0 else nI (layDig n m g x))
    (fun r => ∃ (t : Int32) (V' : St), r = some (t, V') ∧ V'.2 = V.2 ∧ (∀ i, i ≠ 105 → V'.1 i = V.1 i) ∧ ((t = -1 ∧ g + 1 = n ^ m) ∨ ∃ j, j < m ∧ t = nI j ∧ g + 1 < n ^ m ∧ (∀ x, x < j → layDig n m (g + 1) x = layDig n m g x) ∧ ∀ x, x < m → V'.1 105 x = nI (layDig n m (g + 1) x))) ?_ ?_ m 6000 (nI m - 1, V) (by omega) ⟨Nat.le_refl _, rfl, by rw [Nat.sub_self, Nat.pow_zero, Nat.mod_one], rfl, fun _ _ => rfl, fun x hx => by rw [if_neg (by omega)]; exact h105 x hx⟩
  · intro k i v hP
    obtain ⟨t, U⟩ := v
    obtain ⟨p1, p2, p3, p4, p5, p6⟩ := hP
    simp only at p2 p4 p5 p6
    have et : t = nI i := p2.trans (nI_pred i)
    subst et
    have c0 : (nI i < 0) = False := eq_false (nI_pos (by omega))
    have hin : inb (nI i) 12 = true := inb_nI (by omega) (by decide)
    have hix : ix (nI i) = i := ix_nI (by omega)
    have r : rd U 105 i = nI (layDig n m g i) := by
      show U.1 105 i = _; rw [p6 i (by omega), if_neg (by omega)]
    have r3 : rd U 101 3 = nI n := by show U.1 101 3 = _; rw [p5 101 (by decide)]; exact h3
    have dli := dl i
    have hex : m - 1 - (m - (i + 1)) = i := by omega
    by_cases e : layDig n m g i = n - 1
    · left
      have ce : (nI (layDig n m g i + 1) < nI n) = False := ltF (by omega) (by omega)
      refine ⟨(nI i - 1, wr U 105 i 0), ⟨by omega, rfl, ?_, p4, fun x hx => by rw [wr1_ne hx]; exact p5 x hx, fun x hx => ?_⟩, ?_⟩
      · have := dig_more hn p3 (by
          unfold layDig at e
          rw [show m - 1 - i = m - (i + 1) from by omega] at e; exact e)
        rw [show m - (i + 1) + 1 = m - i from by omega] at this
        exact this
      · show (wr U 105 i 0).1 105 x = _
        rw [wr1_eq]
        by_cases ex : x = i
        · rw [if_pos ex, if_pos (by omega)]
        · rw [if_neg ex, p6 x hx]
          by_cases l : i + 1 ≤ x
          · rw [if_pos l, if_pos (by omega)]
          · rw [if_neg l, if_neg (by omega)]
      · have es : nI i + (-1) = nI i - 1 := (Int32.sub_eq_add_neg _ _).symm
        simp only [f_X1_tryNext_L7, c0, if_false, hin, hix, if_true, r, r3, nI_1, ce, es]
    · right
      have ce : (nI (layDig n m g i + 1) < nI n) = True := ltT (by omega) (by omega)
      have hd' : layDig n m g (m - 1 - (m - (i + 1))) ≠ n - 1 := by rw [hex]; exact e
      have hnx := layDig_next hn (show m - (i + 1) < m by omega) p3 hd'
      rw [hex] at hnx
      refine ⟨nI i, wr U 105 i (nI (layDig n m g i + 1)), by simp only [f_X1_tryNext_L7, c0, if_false, hin, hix, if_true, r, r3, nI_1, ce], p4, fun x hx => by rw [wr1_ne hx]; exact p5 x hx, Or.inr ⟨i, by omega, rfl, not_last hn (show m - (i + 1) < m by omega) hg hd', fun x hx => by rw [hnx x (by omega), if_neg (by omega), if_neg (by omega)], fun x hx => ?_⟩⟩
      rw [wr1_eq, hnx x hx]
      by_cases ex : x = i
      · rw [if_pos ex, if_pos ex, ex]
      · rw [if_neg ex, if_neg ex, p6 x hx]
        by_cases l : i + 1 ≤ x
        · rw [if_pos l, if_pos (by omega)]; rfl
        · rw [if_neg l, if_neg (by omega)]
  · intro k v hP
    obtain ⟨t, U⟩ := v
    obtain ⟨p1, p2, p3, p4, p5, p6⟩ := hP
    simp only at p2 p4 p5 p6
    have et : t = -1 := p2.trans (by decide)
    subst et
    have c0 : ((-1 : Int32) < 0) = True := by decide
    rw [Nat.sub_zero] at p3
    exact ⟨-1, U, by simp only [f_X1_tryNext_L7, c0, if_true], p4, p5, Or.inl ⟨rfl, all_last hn hg p3⟩⟩
theorem pairs_run {A : Nat → Int32} {n g j0 : Nat} {V : St} (hn : 0 < n) (hn6 : n ≤ 6) (hj0 : j0 ≤ (layTrees A).length) (h2 : V.1 101 2 = nI (layTrees A).length) (h103 : ∀ t, t < (layTrees A).length → ∃ b, b < 2 ^ 12 ∧ V.1 103 t = nI b ∧ ∀ e, e < t → b.testBit e = layNear A ((layTrees A).getD t 0) ((layTrees A).getD e 0)) (h105 : ∀ t, t < (layTrees A).length → V.1 105 t = nI (layDig n (layTrees A).length g t)) (h107 : ∀ s o, s < n → o < n → V.1 107 (6 * s + o) = nI (wrtF A s o)) (h106 : ∀ t, t ≤ j0 → V.1 106 t = nI (prsT A n g t)) : ∃ V', f_X1_countPairs (nI j0) V = some V' ∧ V'.2 = V.2 ∧ (∀ i, i ≠ 106 → V'.1 i = V.1 i) ∧ ∀ t, t ≤ (layTrees A).length → V'.1 106 t = nI (prsT A n g t) := by
  have hl : (layTrees A).length ≤ 12 := trJ_le A 12
  have dl : ∀ t, layDig n (layTrees A).length g t < n := fun t => layDig_lt hn
  have row : ∀ (t c : Nat) (U : St) (K : Int32 → Int32 → St → Option St), t < (layTrees A).length → (∀ i, i ≠ 106 → U.1 i = V.1 i) → f_X1_countPairs_L31 6000 K (nI t) (nI c) (nI (6 * layDig n (layTrees A).length g t)) 0 U = K (nI t) (nI (c + fb_sum (fun e => if layNear A ((layTrees A).getD t 0) ((layTrees A).getD e 0) = true then wrtF A (layDig n (layTrees A).length g t) (layDig n (layTrees A).length g e) else 0) t)) U := by
    intro t c U K ht hU
    obtain ⟨b, hb, eb, hbe⟩ := h103 t ht
    have := loop_up (N := t) (fun k i (v : Int32) => f_X1_countPairs_L31 k K (nI t) v (nI (6 * layDig n (layTrees A).length g t)) i U) (fun v => K (nI t) v U) (fun j v => v = nI (c + fb_sum (fun e => if layNear A ((layTrees A).getD t 0) ((layTrees A).getD e 0) = true then wrtF A (layDig n (layTrees A).length g t) (layDig n (layTrees A).length g e) else 0) j)) (fun k j v hj hP => by
      subst hP
      refine ⟨_, rfl, ?_⟩
      have h1 : (nI j < nI t) = True := ltT hj (by omega)
      have i1 : inb (nI t) 12 = true := inb_nI (by omega) (by decide)
      have x1 : ix (nI t) = t := ix_nI (by omega)
      have i2 : inb (nI j) 12 = true := inb_nI (by omega) (by decide)
      have x2 : ix (nI j) = j := ix_nI (by omega)
      have r1 : rd U 103 t = nI b := by show U.1 103 t = _; rw [hU 103 (by decide)]; exact eb
      have r2 : rd U 105 j = nI (layDig n (layTrees A).length g j) := by show U.1 105 j = _; rw [hU 105 (by decide)]; exact h105 j (by omega)
      have dt := dl t
      have dj := dl j
      have i3 : inb (nI (6 * layDig n (layTrees A).length g t + layDig n (layTrees A).length g j)) 36 = true := inb_nI (by omega) (by decide)
      have x3 : ix (nI (6 * layDig n (layTrees A).length g t + layDig n (layTrees A).length g j)) = 6 * layDig n (layTrees A).length g t + layDig n (layTrees A).length g j := ix_nI (by omega)
      have r3 : rd U 107 (6 * layDig n (layTrees A).length g t + layDig n (layTrees A).length g j) = nI (wrtF A (layDig n (layTrees A).length g t) (layDig n (layTrees A).length g j)) := by show U.1 107 _ = _; rw [hU 107 (by decide)]; exact h107 _ _ dt dj
      have hbit := bit_get hb (show j < 12 by omega)
      rw [hbe j hj] at hbit
      simp only [f_X1_countPairs_L31, h1, if_true, i1, x1, r1, hbit, i2, x2, r2, nI_add, i3, x3, r3, nI_1, fb_sum]
      by_cases cc : layNear A ((layTrees A).getD t 0) ((layTrees A).getD j 0) = true
      · rw [if_pos cc, if_pos cc, Nat.add_assoc]
      · rw [if_neg cc, if_neg cc]; rfl) (fun k v hP => by
      have h1 : (nI t < nI t) = False := ltF (Nat.le_refl _) (by omega)
      simp only [f_X1_countPairs_L31, h1, if_false]) (fuel := 6000) (T := nI c) (by omega) rfl
    rw [nI_0] at this
    obtain ⟨v, hv, e⟩ := this
    subst hv
    exact e
  have := loop_q (N := (layTrees A).length) (fun k i U => f_X1_countPairs_L2 k (fun T91 => (some T91)) i U) (fun j U => j ≤ (layTrees A).length ∧ U.2 = V.2 ∧ (∀ i, i ≠ 106 → U.1 i = V.1 i) ∧ ∀ t, t ≤ j → U.1 106 t = nI (prsT A n g t)) (fun r => ∃ V', r = some V' ∧ V'.2 = V.2 ∧ (∀ i, i ≠ 106 → V'.1 i = V.1 i) ∧ ∀ t, t ≤ (layTrees A).length → V'.1 106 t = nI (prsT A n g t)) (fun k j U hj hP => by
    left
    obtain ⟨p0, p1, p2, p3⟩ := hP
    have r0 : rd U 101 2 = nI (layTrees A).length := by show U.1 101 2 = _; rw [p2 101 (by decide)]; exact h2
    have h1 : (nI j < nI (layTrees A).length) = True := ltT hj (by omega)
    have i1 : inb (nI j) 13 = true := inb_nI (by omega) (by decide)
    have i2 : inb (nI j) 12 = true := inb_nI (by omega) (by decide)
    have i3 : inb (nI (j + 1)) 13 = true := inb_nI (by omega) (by decide)
    have x1 : ix (nI j) = j := ix_nI (by omega)
    have x3 : ix (nI (j + 1)) = j + 1 := ix_nI (by omega)
    have r1 : rd U 106 j = nI (prsT A n g j) := p3 j (Nat.le_refl _)
    have r2 : rd U 105 j = nI (layDig n (layTrees A).length g j) := by show U.1 105 j = _; rw [p2 105 (by decide)]; exact h105 j hj
    have e6 : nI (layDig n (layTrees A).length g j) * 6 = nI (6 * layDig n (layTrees A).length g j) := by rw [show (6 : Int32) = nI 6 from rfl, pk_mul, Nat.mul_comm]
    refine ⟨wr U 106 (j + 1) (nI (prsT A n g (j + 1))), ⟨by omega, p1, fun i hi => by rw [wr1_ne hi]; exact p2 i hi, fun t ht => ?_⟩, ?_⟩
    · rw [wr1_eq]
      by_cases e : t = j + 1
      · rw [if_pos e, e]
      · rw [if_neg e]; exact p3 t (by omega)
    · simp only [f_X1_countPairs_L2, r0, h1, if_true, i1, i2, x1, r1, r2, e6]
      rw [row j _ U _ hj p2]
      simp only [nI_1, i3, x3, if_true]
      rfl) (fun k U hP => by
    obtain ⟨p0, p1, p2, p3⟩ := hP
    have r0 : rd U 101 2 = nI (layTrees A).length := by show U.1 101 2 = _; rw [p2 101 (by decide)]; exact h2
    have h1 : (nI (layTrees A).length < nI (layTrees A).length) = False := ltF (Nat.le_refl _) (by omega)
    exact ⟨U, by simp only [f_X1_countPairs_L2, r0, h1, if_false], p1, p2, p3⟩) ((layTrees A).length - j0) j0 6000 V (by omega) (by omega) ⟨hj0, rfl, fun _ _ => rfl, h106⟩
  exact this
