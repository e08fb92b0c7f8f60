def TrA (A : Nat → Int32) (p : Nat) : Prop := A (66 + 11 * p + 2) = 1 ∨ A (66 + 11 * p + 2) = 2 ∨ A (66 + 11 * p + 2) = 3 ∨ A (66 + 11 * p + 2) = 4
def hgtA (A : Nat → Int32) (p : Nat) : Nat := min (ix (A 784) - ix (A (66 + 11 * p + 5))) (if A (66 + 11 * p + 2) = 3 then 1 else 6)
def shrA (A : Nat → Int32) (k : Nat) : Nat := if A (66 + 11 * (k / 2) + 2) = 2 then (if k % 2 = 0 then bdA A (k / 2) / 2 else bdA A (k / 2) - bdA A (k / 2) / 2) else bdA A (k / 2)
def flA (A : Nat → Int32) (k : Nat) : Nat := shrA A k / ix (A (5 * srtA A k + 1))
def flwA (A : Nat → Int32) (day k : Nat) : Nat := if A (582 + 3 * day) = 1 ∧ hgtA A (k / 2) ≤ ix (A (582 + 3 * day + 1)) then flA A k - (flA A k * ix (A (582 + 3 * day + 2)) + 99) / 100 else flA A k
def setA (A : Nat → Int32) (W : Nat → Nat) (day k : Nat) : Nat := if ptA A k = true ∧ A (66 + 11 * (k / 2) + 2) ≠ 4 then flwA A day k * min 3 (prtA A W k day) / 3 else 0
theorem prtA_le (A : Nat → Int32) (W : Nat → Nat) (k day : Nat) : prtA A W k day ≤ 24 := by
  unfold prtA
  by_cases h : opnA A W k day = true
  · rw [if_pos h]
    have := fb_bound (f := fun m => if cndA A W k m day = true then 1 else 0) (b := 1) (n := 24) (fun m _ => by
      by_cases q : cndA A W k m day = true
      · simp [q]
      · simp [q])
    omega
  · rw [if_neg h]; omega
theorem flA_le {cnt yr : Nat} {A : Nat → Int32} (h : OrA cnt yr A) {k : Nat} (hk : k < 24) (hpt : ptA A k = true) : flA A k ≤ 270 := by
  have hb := bdA_le h (khalf_lt hk) (ptA_tree hpt)
  unfold flA
  refine Nat.le_trans (Nat.div_le_self _ _) ?_
  unfold shrA
  by_cases a : A (66 + 11 * (k / 2) + 2) = 2
  · rw [if_pos a]
    by_cases b : k % 2 = 0
    · rw [if_pos b]; omega
    · rw [if_neg b]; omega
  · rw [if_neg a]; exact hb
theorem flwA_le {cnt yr : Nat} {A : Nat → Int32} (h : OrA cnt yr A) {day k : Nat} (hk : k < 24) (hpt : ptA A k = true) : flwA A day k ≤ 270 := by
  have := flA_le h hk hpt
  unfold flwA
  by_cases a : A (582 + 3 * day) = 1 ∧ hgtA A (k / 2) ≤ ix (A (582 + 3 * day + 1))
  · rw [if_pos a]; omega
  · rw [if_neg a]; exact this
theorem setA_le {cnt yr : Nat} {A : Nat → Int32} (h : OrA cnt yr A) (W : Nat → Nat) {day k : Nat} (hk : k < 24) : setA A W day k ≤ 270 := by
  unfold setA
  by_cases a : ptA A k = true ∧ A (66 + 11 * (k / 2) + 2) ≠ 4
  · rw [if_pos a]
    have h1 := flwA_le h (day := day) hk a.1
    have h2 : flwA A day k * min 3 (prtA A W k day) ≤ flwA A day k * 3 := Nat.mul_le_mul_left _ (Nat.min_le_left _ _)
    omega
  · rw [if_neg a]; omega
theorem hgtR {cnt yr : Nat} {S : St} (h : OrA cnt yr (S.1 109)) {p : Nat} (hp : p < 12) (ht : TrA (S.1 109) p) : f_X7_heightOf (nI p) S = some (nI (hgtA (S.1 109) p)) := by
  obtain ⟨⟨-, -, -, ⟨y, hy, e5⟩, -⟩, -, -⟩ := h.tree hp ht
  obtain ⟨-, hyr, e784, -⟩ := h
  have e5' : rd S 109 (66 + 11 * p + 5) = nI y := e5
  have e784' : rd S 109 784 = nI yr := e784
  unfold hgtA
  rw [e784, show S.1 109 (66 + 11 * p + 5) = nI y from e5, ix_nI (n := yr) (by omega), ix_nI (n := y) (by omega)]
  simp only [f_X7_heightOf, get_k hp, Option.bind_some, height_J hp, e5', e784', pk_sub hy]
  show (if S.1 109 (66 + 11 * p + 2) = 3 then _ else _) = _
  by_cases k : S.1 109 (66 + 11 * p + 2) = 3
  · rw [if_pos k, if_pos k, show (1 : Int32) = nI 1 from rfl, mn_nat (by omega) (by omega)]
  · rw [if_neg k, if_neg k, show (6 : Int32) = nI 6 from rfl, mn_nat (by omega) (by omega)]
theorem hgtC {cnt yr : Nat} {S : St} {A : Nat → Int32} (h : OrA cnt yr A) (hC : OrC cnt S A) {p : Nat} (hp : p < 12) (ht : TrA A p) : f_X2_heightIn (20 + 2 * p) (rd S 1 4) S = nI (hgtA A p) := by
  obtain ⟨⟨-, -, -, ⟨y, hy, e5⟩, -⟩, n0, n5⟩ := h.tree hp ht
  obtain ⟨-, hyr, e784, -⟩ := h
  obtain ⟨k1, k2, k3, k4, k5⟩ := hC
  obtain ⟨-, -, r2, r3⟩ := k5 p hp
  have e5' : rd S (20 + 2 * p) 5 = nI y := (r3 n0 n5 5 (by decide) (by decide)).trans e5
  have e784' : rd S 1 4 = nI yr := k3.trans e784
  have e2' : rd S (20 + 2 * p) 2 = A (66 + 11 * p + 2) := r2
  unfold hgtA f_X2_heightIn
  rw [e784, show A (66 + 11 * p + 5) = nI y from e5, ix_nI (n := yr) (by omega), ix_nI (n := y) (by omega), e5', e784', e2', pk_sub hy]
  by_cases k : A (66 + 11 * p + 2) = 3
  · rw [if_pos k, if_pos k, show (1 : Int32) = nI 1 from rfl, mn_nat (by omega) (by omega)]
  · rw [if_neg k, if_neg k, show (6 : Int32) = nI 6 from rfl, mn_nat (by omega) (by omega)]
theorem half_n {b : Nat} (hb : b < 2 ^ 31) : nI b / 2 = nI (b / 2) := by
  rw [show (2 : Int32) = nI 2 from rfl, pk_div hb (by decide) (by decide)]
/-- the flowers that are left, in the class -/
theorem flwC {cnt yr : Nat} {S : St} {A : Nat → Int32} (h : OrA cnt yr A) (hC : OrC cnt S A) (hF : FrostRel (S.1 5) (S.1 6) A) {p q day : Nat} (hp : p < 12) (hq : q < 2) (hd : day < 50) (hpt : isPt (A (66 + 11 * p + 2)) q = true) : f_X0_flowersLeft (20 + 2 * p) (nI q) (nI day) S = some (nI (flwA A day (2 * p + q))) := by
  have ht := isPt_tree hpt hq
  have hb := bdA_le h hp ht
  obtain ⟨hs, -⟩ := h.srt hp hq hpt
  have hptk : ptA A (2 * p + q) = true := by rw [ptA_at hq]; exact hpt
  have hfl := flA_le h (show 2 * p + q < 24 by omega) hptk
  have hc := h.1
  obtain ⟨-, ⟨y, y1, y9, ey⟩, -⟩ := h.2.2.2.2.1 _ hs
  have hin : inb (nI (srtA A (2 * p + q))) 6 = true := inb_nI (by omega) (by decide)
  have hix : ix (nI (srtA A (2 * p + q))) = srtA A (2 * p + q) := ix_nI (by omega)
  have hind : inb (nI day) 50 = true := inb_nI hd (by decide)
  have hixd : ix (nI day) = day := ix_nI (by omega)
  have ey' : rd S (8 + 2 * srtA A (2 * p + q)) 1 = nI y := ((hC.2.2.2.1 _ hs).1 1 (by decide)).trans ey
  have e2' : rd S (20 + 2 * p) 2 = A (66 + 11 * p + 2) := (hC.2.2.2.2 p hp).2.2.1
  have y0 : (0 < nI y) = True := ltT (j := 0) (by omega) (by omega)
  have yn : (nI y = 0) = False := eq_false (nI_ne0 (by omega) (by omega))
  have esh : f_X2_shareOfBuds (20 + 2 * p) (nI q) (nI (bdA A p)) S = nI (shrA A (2 * p + q)) := by
    unfold f_X2_shareOfBuds shrA
    rw [e2', show (2 * p + q) / 2 = p from by omega, show (2 * p + q) % 2 = q from by omega]
    by_cases k : A (66 + 11 * p + 2) = 2
    · rw [if_pos k, if_pos k, half_n (by omega)]
      have hq' : q = 0 ∨ q = 1 := by omega
      rcases hq' with rfl | rfl
      · rw [if_pos nI_0, if_pos rfl]
      · rw [if_neg (by decide), if_neg (by decide), pk_sub (by omega)]
    · rw [if_neg k, if_neg k]
  have hshr : shrA A (2 * p + q) ≤ 270 := by
    unfold shrA
    rw [show (2 * p + q) / 2 = p from by omega, show (2 * p + q) % 2 = q from by omega]
    by_cases a : A (66 + 11 * p + 2) = 2
    · rw [if_pos a]
      by_cases b : q = 0
      · rw [if_pos b]; omega
      · rw [if_neg b]; omega
    · rw [if_neg a]; exact hb
  have efl : nI (shrA A (2 * p + q)) / nI y = nI (flA A (2 * p + q)) := by
    unfold flA
    rw [ey, ix_nI (n := y) (by omega), pk_div (by omega) (by omega) (by omega)]
  simp only [f_X0_flowersLeft, sortOfC h hC hp hq hpt, hin, hix, if_true, ey', y0, yn, if_false, budsC h hC hp ht, Option.bind_some, hind, hixd, hgtC h hC hp ht, esh, efl]
  unfold flwA
  rw [show (2 * p + q) / 2 = p from by omega]
  have up : ∀ x, x ≤ 270 * 100 → f_X6_upQuotient (nI x) 100 = some (nI ((x + 99) / 100)) := fun x hx => by
    have c1 : ((0 : Int32) < 100) = True := by decide
    have c2 : ((100 : Int32) = 0) = False := by decide
    simp only [f_X6_upQuotient, c1, c2, if_true, if_false]
    rw [show (100 : Int32) = nI 100 from rfl, nI_add, show (1 : Int32) = nI 1 from rfl, pk_sub (by omega), pk_div (by omega) (by decide) (by decide)]
    congr 3
  generalize hfg : flA A (2 * p + q) = fl at *
  generalize hgt : hgtA A p = hg
  have hgb : hg ≤ 6 := by
    rw [← hgt]; unfold hgtA
    by_cases k : A (66 + 11 * p + 2) = 3
    · rw [if_pos k]; omega
    · rw [if_neg k]; omega
  rcases hF day hd with ⟨f1, f2, f3, ⟨u, hu, eu⟩, ⟨v, hv, ev⟩⟩ | ⟨f1, f2⟩
  · have f2' : rd S 5 day = nI u := f2.trans eu
    have f3' : rd S 6 day = nI v := f3.trans ev
    have hmul : fl * v ≤ 270 * 100 := Nat.mul_le_mul (by omega) hv
    rw [f2', f3', eu, ev, ix_nI (n := u) (by omega), ix_nI (n := v) (by omega)]
    by_cases l : u < hg
    · rw [if_pos (nI_lt l (by omega)), if_neg (fun r => by omega)]
    · rw [if_neg (nI_nlt (by omega) (by omega)), if_pos ⟨f1, by omega⟩, pk_mul, up _ hmul]
      simp only [Option.bind_some]
      have hle : (fl * v + 99) / 100 ≤ fl := by
        have : fl * v ≤ fl * 100 := Nat.mul_le_mul_left _ hv
        omega
      rw [pk_sub hle]
  · have f3' : rd S 6 day = 0 := f2
    have hn : ¬ (A (582 + 3 * day) = 1 ∧ hg ≤ ix (A (582 + 3 * day + 1))) := fun r => by
      have := r.1; rw [f1] at this; exact absurd this (by decide)
    rw [f3', if_neg hn]
    by_cases l : rd S 5 day < nI hg
    · rw [if_pos l]
    · rw [if_neg l, show (0 : Int32) = nI 0 from rfl, pk_mul, up _ (by omega)]
      simp only [Option.bind_some, Nat.mul_zero]
      rw [pk_sub (by omega)]
      rfl
theorem setV {flw prt : Nat} (h1 : flw ≤ 270) (h2 : prt ≤ 24) : nI flw * mnI 3 (nI prt) / 3 = nI (flw * min 3 prt / 3) := by
  have hm : flw * min 3 prt ≤ 270 * 3 := Nat.mul_le_mul h1 (Nat.min_le_left _ _)
  rw [show (3 : Int32) = nI 3 from rfl, mn_nat (by decide) (by omega), pk_mul, pk_div (by omega) (by decide) (by decide)]
/-- the fruits set up to part c, in the class -/
def GrwC (S : St) (A : Nat → Int32) (fr ns sA : Nat → Nat) (c : Nat) (U : St) : Prop := FrC S U ∧ (∀ s k, s < 6 → U.1 (8 + 2 * s) k = S.1 (8 + 2 * s) k ∧ U.1 (9 + 2 * s) k = S.1 (9 + 2 * s) k) ∧ (∀ p q, p < 12 → q < 2 → U.1 (21 + 2 * p) q = nI (fr (2 * p + q) + (if 2 * p + q < c then sA (2 * p + q) else 0))) ∧ (∀ p, p < 12 → TrA A p → U.1 (20 + 2 * p) 9 = nI (ns p + ((if 2 * p < c then sA (2 * p) else 0) + (if 2 * p + 1 < c then sA (2 * p + 1) else 0)))) ∧ ∀ k, U.2 7 k = if k = 0 then S.2 7 0 + lN (fb_sum sA c) else S.2 7 k
theorem GrwC.skip {S U : St} {A : Nat → Int32} {fr ns sA : Nat → Nat} {c : Nat} (h : GrwC S A fr ns sA c U) (hz : sA c = 0) : GrwC S A fr ns sA (c + 1) U := by
  obtain ⟨h1, h2, h3, h4, h5⟩ := h
  have e : ∀ k, (if k < c + 1 then sA k else 0) = if k < c then sA k else 0 := fun k => by
    by_cases q : k < c
    · rw [if_pos q, if_pos (by omega)]
    · rw [if_neg q]
      by_cases r : k = c
      · rw [if_pos (by omega), r, hz]
      · rw [if_neg (by omega)]
  refine ⟨h1, h2, fun p q a b => by rw [e]; exact h3 p q a b, fun p a b => by rw [e, e]; exact h4 p a b, fun k => ?_⟩
  rw [h5 k, fb_sum, hz, Nat.add_zero]
theorem GrwC.step {S U : St} {A : Nat → Int32} {fr ns sA : Nat → Nat} {p q : Nat} (hp : p < 12) (hq : q < 2) (ht : TrA A p) (h : GrwC S A fr ns sA (2 * p + q) U) : GrwC S A fr ns sA (2 * p + q + 1) (wrL (wr (wr U (21 + 2 * p) q (nI (fr (2 * p + q)) + nI (sA (2 * p + q)))) (20 + 2 * p) 9 (U.1 (20 + 2 * p) 9 + nI (sA (2 * p + q)))) 7 0 (U.2 7 0 + lN (sA (2 * p + q)))) := by
  obtain ⟨h1, h2, h3, h4, h5⟩ := h
  refine ⟨⟨fun i hi => ?_, fun s k hs hk => ?_, fun r k hr hk => ?_, fun i hi => ?_⟩, fun s k hs => ?_, fun r t hr htt => ?_, fun r hr htr => ?_, fun k => ?_⟩
  · rw [wrL1, wr1_ne (by omega), wr1_ne (by omega)]; exact h1.1 i hi
  · rw [wrL1, wr1_ne (by omega), wr1_ne (by omega)]; exact h1.2.1 s k hs hk
  · rw [wrL1]
    by_cases e : r = p
    · subst e; rw [wr1_eq, if_neg hk, wr1_ne (by omega)]; exact h1.2.2.1 r k hr hk
    · rw [wr1_ne (by omega), wr1_ne (by omega)]; exact h1.2.2.1 r k hr hk
  · rw [wrL2_ne hi]; exact h1.2.2.2 i hi
  · rw [wrL1, wr1_ne (by omega), wr1_ne (by omega), wr1_ne (by omega), wr1_ne (by omega)]; exact h2 s k hs
  · rw [wrL1, wr1_ne (by omega)]
    by_cases e : r = p
    · subst e
      rw [wr1_eq]
      by_cases e2 : t = q
      · subst e2; rw [if_pos rfl, if_pos (by omega), nI_add]
      · rw [if_neg e2, h3 r t hr htt]
        congr 2
        by_cases l : 2 * r + t < 2 * r + q
        · rw [if_pos l, if_pos (by omega)]
        · rw [if_neg l, if_neg (by omega)]
    · rw [wr1_ne (by omega), h3 r t hr htt]
      congr 2
      by_cases l : 2 * r + t < 2 * p + q
      · rw [if_pos l, if_pos (by omega)]
      · rw [if_neg l, if_neg (by omega)]
  · rw [wrL1]
    by_cases e : r = p
    · subst e
      rw [wr1_eq, if_pos rfl, h4 r hr htr, nI_add]
      congr 1
      have hq' : q = 0 ∨ q = 1 := by omega
      rcases hq' with rfl | rfl
      · rw [if_neg (by omega), if_neg (by omega), if_pos (by omega), if_neg (by omega)]; rfl
      · rw [if_pos (by omega), if_neg (by omega), if_pos (by omega), if_pos (by omega)]; omega
    · rw [wr1_ne (by omega), wr1_ne (by omega), h4 r hr htr]
      congr 3
      · by_cases l : 2 * r < 2 * p + q
        · rw [if_pos l, if_pos (by omega)]
        · rw [if_neg l, if_neg (by omega)]
      · by_cases l : 2 * r + 1 < 2 * p + q
        · rw [if_pos l, if_pos (by omega)]
        · rw [if_neg l, if_neg (by omega)]
  · rw [wrL2_eq]
    by_cases e : k = 0
    · rw [if_pos e, if_pos e, h5 0, if_pos rfl, l_assoc, lN_add]; rfl
    · rw [if_neg e, if_neg e]
      show U.2 7 k = _
      rw [h5 k, if_neg e]
theorem setA_none {A : Nat → Int32} {W : Nat → Nat} {day p q : Nat} (hq : q < 2) (h : isPt (A (66 + 11 * p + 2)) q = false ∨ A (66 + 11 * p + 2) = 4) : setA A W day (2 * p + q) = 0 := by
  unfold setA
  rw [ptA_at hq, show (2 * p + q) / 2 = p from by omega]
  rw [if_neg]
  rintro ⟨a, b⟩
  rcases h with h | h
  · rw [h] at a; cases a
  · exact b h
theorem setFruitsC {cnt yr : Nat} {S : St} {A : Nat → Int32} {W : Nat → Nat} {fr ns : Nat → Nat} (h : OrA cnt yr A) (hC : OrC cnt S A) (hW : SeaC cnt W A S) (hF : FrostRel (S.1 5) (S.1 6) A) {day : Nat} (hd : day < 50) (hfr : ∀ p q, p < 12 → q < 2 → S.1 (21 + 2 * p) q = nI (fr (2 * p + q))) (hns : ∀ p, p < 12 → TrA A p → S.1 (20 + 2 * p) 9 = nI (ns p)) : ∃ S', f_X0_setFruits (nI day) S = some S' ∧ GrwC S A fr ns (setA A W day) 24 S' := by
  -- one part
  have turn : ∀ (n p q : Nat) (K : Int32 → Int32 → St → Option St) (U : St), p < 12 → q < 2 → isPt (A (66 + 11 * p + 2)) q = true → A (66 + 11 * p + 2) ≠ 4 → GrwC S A fr ns (setA A W day) (2 * p + q) U → ∃ U', GrwC S A fr ns (setA A W day) (2 * p + q + 1) U' ∧ f_X0_setFruits_L19 (n + 1) K (nI day) (nI p) (20 + 2 * p) (nI q) U = f_X0_setFruits_L19 n K (nI day) (nI p) (20 + 2 * p) (nI (q + 1)) U' := by
    intro n p q K U hp hq hpt h4 hG
    have hCU := hG.1.orC hC h.1
    have hWU := hG.1.sea hW
    have hFU : FrostRel (U.1 5) (U.1 6) A := by rw [hG.1.1 5 (by omega), hG.1.1 6 (by omega)]; exact hF
    have ht : TrA A p := isPt_tree hpt hq
    refine ⟨_, hG.step hp hq ht, ?_⟩
    have e1 : (nI q < f_X2_partCount (20 + 2 * p) U) = True := by rw [pcC h hCU hp hq, hpt]; simp
    have e2 : (rd U (20 + 2 * p) 2 = (4 : Int32)) = False := eq_false (fun r => h4 (((hCU.2.2.2.2 p hp).2.2.1).symm.trans r))
    have hin : inb (nI q) 2 = true := inb_nI hq (by decide)
    have hix : ix (nI q) = q := ix_nI (by omega)
    have e21 : 20 + 2 * p + 1 = 21 + 2 * p := by omega
    have hfrU : rd U (21 + 2 * p) q = nI (fr (2 * p + q)) := by
      show U.1 (21 + 2 * p) q = _
      rw [hG.2.2.1 p q hp hq, if_neg (by omega), Nat.add_zero]
    have hptk : ptA A (2 * p + q) = true := by rw [ptA_at hq]; exact hpt
    have hfl := flwA_le h (day := day) (show 2 * p + q < 24 by omega) hptk
    have hpr := prtA_le A W (2 * p + q) day
    have hset : setA A W day (2 * p + q) = flwA A day (2 * p + q) * min 3 (prtA A W (2 * p + q) day) / 3 := by
      unfold setA
      rw [if_pos ⟨hptk, by rw [show (2 * p + q) / 2 = p from by omega]; exact h4⟩]
    have hsb := setA_le h W (day := day) (show 2 * p + q < 24 by omega)
    have el : (nI (setA A W day (2 * p + q))).toInt64 = lN (setA A W day (2 * p + q)) := nI_l (by omega)
    simp only [f_X0_setFruits_L19, e1, e2, if_true, if_false, partnersC h hCU hWU hp hq hd hpt, flwC h hCU hFU hp hq hd hpt, Option.bind_some, hin, hix, e21, hfrU, setV hfl hpr, ← hset, ix_0, nI_1, el]
    have r9 : rd (wr U (21 + 2 * p) q (nI (fr (2 * p + q)) + nI (setA A W day (2 * p + q)))) (20 + 2 * p) 9 = U.1 (20 + 2 * p) 9 := by
      show (wr U (21 + 2 * p) q _).1 (20 + 2 * p) 9 = _
      rw [wr1_ne (by omega)]
    rw [r9]
    rfl
  have stop : ∀ (n p q : Nat) (K : Int32 → Int32 → St → Option St) (U : St), p < 12 → q < 2 → GrwC S A fr ns (setA A W day) (2 * p + q) U → isPt (A (66 + 11 * p + 2)) q = false ∨ A (66 + 11 * p + 2) = 4 → f_X0_setFruits_L19 (n + 1) K (nI day) (nI p) (20 + 2 * p) (nI q) U = K (nI day) (nI p) U := by
    intro n p q K U hp hq hG hh
    have hCU := hG.1.orC hC h.1
    cases hpt : isPt (A (66 + 11 * p + 2)) q with
    | false =>
      have e1 : (nI q < f_X2_partCount (20 + 2 * p) U) = False := by rw [pcC h hCU hp hq, hpt]; simp
      simp only [f_X0_setFruits_L19, e1, if_false]
    | true =>
      have e1 : (nI q < f_X2_partCount (20 + 2 * p) U) = True := by rw [pcC h hCU hp hq, hpt]; simp
      have h4 : A (66 + 11 * p + 2) = 4 := by
        rcases hh with hh | hh
        · rw [hpt] at hh; cases hh
        · exact hh
      have e2 : (rd U (20 + 2 * p) 2 = (4 : Int32)) = True := eq_true (((hCU.2.2.2.2 p hp).2.2.1).trans h4)
      simp only [f_X0_setFruits_L19, e1, e2, if_true]
  have last : ∀ (n p : Nat) (K : Int32 → Int32 → St → Option St) (U : St), p < 12 → FrC S U → f_X0_setFruits_L19 (n + 1) K (nI day) (nI p) (20 + 2 * p) (nI 2) U = K (nI day) (nI p) U := by
    intro n p K U hp hG
    simp only [f_X0_setFruits_L19, pc2C h (hG.orC hC h.1) hp, if_false]
  have place : ∀ (p : Nat) (K : Int32 → Int32 → St → Option St) (U : St), p < 12 → GrwC S A fr ns (setA A W day) (2 * p) U → ∃ U', GrwC S A fr ns (setA A W day) (2 * (p + 1)) U' ∧ f_X0_setFruits_L19 6000 K (nI day) (nI p) (20 + 2 * p) 0 U = K (nI day) (nI p) U' := by
    intro p K U hp hG
    rw [show (0 : Int32) = nI 0 from rfl, show (6000 : Nat) = 5997 + 1 + 1 + 1 from rfl]
    by_cases c0 : isPt (A (66 + 11 * p + 2)) 0 = false ∨ A (66 + 11 * p + 2) = 4
    · have c1 : isPt (A (66 + 11 * p + 2)) 1 = false ∨ A (66 + 11 * p + 2) = 4 := by
        rcases c0 with c | c
        · left
          cases q1 : isPt (A (66 + 11 * p + 2)) 1 with
          | false => rfl
          | true => rw [isPt_0 (isPt_tree q1 (by decide))] at c; cases c
        · exact Or.inr c
      exact ⟨U, (hG.skip (setA_none (q := 0) (by decide) c0)).skip (setA_none (q := 1) (by decide) c1), stop _ p 0 K U hp (by decide) hG c0⟩
    · rw [not_or] at c0
      have p0 : isPt (A (66 + 11 * p + 2)) 0 = true := by
        cases q0 : isPt (A (66 + 11 * p + 2)) 0 with
        | true => rfl
        | false => exact absurd q0 c0.1
      obtain ⟨U1, g1, e1⟩ := turn (5997 + 1 + 1) p 0 K U hp (by decide) p0 c0.2 hG
      rw [e1]
      cases p1 : isPt (A (66 + 11 * p + 2)) 1 with
      | false => exact ⟨U1, g1.skip (setA_none (q := 1) (by decide) (Or.inl p1)), stop _ p 1 K U1 hp (by decide) g1 (Or.inl p1)⟩
      | true =>
        obtain ⟨U2, g2, e2⟩ := turn (5997 + 1) p 1 K U1 hp (by decide) p1 c0.2 g1
        exact ⟨U2, g2, e2.trans (last _ p K U2 hp g2.1)⟩
  have := loop_up (N := 12) (fun n i U => f_X0_setFruits_L2 n (fun T118 => (some T118)) (nI day) i U) (fun U => some U) (fun j U => GrwC S A fr ns (setA A W day) (2 * j) U) (fun n j U hj hP => by
    have h1 : (nI j < (12 : Int32)) = True := ltT hj (by decide)
    have hin : inb (nI j) 12 = true := inb_nI hj (by decide)
    have hix : ix (nI j) = j := ix_nI (by omega)
    obtain ⟨U', g, e⟩ := place j (fun e112_2 e112_3 T112 => (f_X0_setFruits_L2 n (fun T118 => (some T118)) e112_2 (e112_3 + (1 : Int32)) T112)) U hj hP
    exact ⟨U', g, by simp only [f_X0_setFruits_L2, h1, hin, hix, if_true]; rw [e, nI_1]⟩) (fun n U hP => by
    have h1 : (nI 12 < (12 : Int32)) = False := ltF (N := 12) (by decide) (by decide)
    simp only [f_X0_setFruits_L2, h1, if_false]) (fuel := 6000) (T := S) (by decide) ⟨FrC.refl S, fun _ _ _ => ⟨rfl, rfl⟩, fun p q a b => by rw [hfr p q a b, if_neg (by omega), Nat.add_zero], fun p a b => by rw [hns p a b, if_neg (by omega), if_neg (by omega)]; rfl, fun k => by
      by_cases e : k = 0
      · rw [if_pos e, e]; exact (l_zero _).symm
      · rw [if_neg e]⟩
  rw [nI_0] at this
  obtain ⟨S', g, e⟩ := this
  exact ⟨S', e, g⟩
