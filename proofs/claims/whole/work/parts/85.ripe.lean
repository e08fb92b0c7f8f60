def ripS (A : Nat → Int32) (W : Nat → Nat) (s day : Nat) : Bool := decide (fstD W (ix (A (5 * s))) + ix (A (5 * s + 1)) - 1 < day ∧ ix (A (5 * s + 2)) ≤ fb_sum W (day + 1) - fb_sum W (fstD W (ix (A (5 * s))) + ix (A (5 * s + 1)) - 1 + 1))
def ripA (A : Nat → Int32) (W : Nat → Nat) (k day : Nat) : Bool := ptA A k && ripS A W (srtA A k) day
theorem ripeC {cnt yr : Nat} {S : St} {A : Nat → Int32} {W : Nat → Nat} (h : OrA cnt yr A) (hC : OrC cnt S A) (hW : SeaC cnt W A S) {p q day : Nat} (hp : p < 12) (hq : q < 2) (hd : day < 50) (hpt : isPt (A (66 + 11 * p + 2)) q = true) : f_X0_isRipe (20 + 2 * p) (nI q) (nI day) S = some (ripA A W (2 * p + q) day) := by
  have hs := (h.srt hp hq hpt).1
  have hc := h.1
  have hptk : ptA A (2 * p + q) = true := by rw [ptA_at hq]; exact hpt
  unfold ripA
  rw [hptk, Bool.true_and]
  generalize hsr : srtA A (2 * p + q) = s at *
  obtain ⟨-, ⟨y, y1, y9, ey⟩, ⟨z, hz, ez⟩, -⟩ := h.2.2.2.2.1 s hs
  have hin : inb (nI s) 6 = true := inb_nI (by omega) (by decide)
  have hix : ix (nI s) = s := ix_nI (by omega)
  have ez' : rd S (8 + 2 * s) 2 = nI z := ((hC.2.2.2.1 s hs).1 2 (by decide)).trans ez
  have e2 := (hW.2.2.2 s hs).2
  have eso := sortOfC h hC hp hq hpt
  rw [hsr] at eso
  unfold ripS
  rw [ey, ez, ix_nI (n := y) (by omega), ix_nI (n := z) (by omega)]
  rw [ey, ix_nI (n := y) (by omega)] at e2
  have hF := (fstD_spec W (ix (A (5 * s)))).1
  generalize fstD W (ix (A (5 * s))) = F at *
  have e2' : rd S 100 s = nI (F + y - 1) := e2
  simp only [f_X0_isRipe, f_X3_isRipe, eso, hin, hix, if_true, e2', ez', nI_1]
  by_cases l : F + y - 1 < day
  · rw [if_pos (nI_lt l (by omega))]
    have b1 : inb (nI (day + 1)) 51 = true := inb_nI (by omega) (by decide)
    have b2 : inb (nI (F + y - 1 + 1)) 51 = true := inb_nI (by omega) (by decide)
    have x1 : ix (nI (day + 1)) = day + 1 := ix_nI (by omega)
    have x2 : ix (nI (F + y - 1 + 1)) = F + y - 1 + 1 := ix_nI (by omega)
    have s1 : rd S 98 (day + 1) = nI (fb_sum W (day + 1)) := hW.2.2.1 (day + 1) (by omega)
    have s2 : rd S 98 (F + y - 1 + 1) = nI (fb_sum W (F + y - 1 + 1)) := hW.2.2.1 _ (by omega)
    have hm := fb_mono W (n := F + y - 1 + 1) (m := day + 1) (by omega)
    have hb := fbW_le hW.1 (d := day + 1) (by omega)
    simp only [b1, b2, x1, x2, if_true, s1, s2, pk_sub hm]
    by_cases r : fb_sum W (day + 1) - fb_sum W (F + y - 1 + 1) < z
    · rw [if_pos (nI_lt r (by omega))]
      rw [decide_eq_false (fun q => by omega)]; rfl
    · rw [if_neg (nI_nlt (by omega) (by omega))]
      rw [decide_eq_true (⟨l, by omega⟩ : F + y - 1 < day ∧ z ≤ _)]; rfl
  · rw [if_neg (nI_nlt (by omega) (by omega))]
    rw [decide_eq_false (fun q => l q.1)]; rfl
theorem ripensR {cnt yr dn : Nat} {S : St} (h : OrA cnt yr (S.1 109)) (hw : RefW dn S) {s day : Nat} (hs : s < cnt) (hd : day < 50) : f_X7_ripens (nI s) (nI day) S = some (ripS (S.1 109) (warmF S) s day) := by
  obtain ⟨⟨x, hx, ex⟩, ⟨y, y1, y9, ey⟩, ⟨z, hz, ez⟩, -⟩ := h.2.2.2.2.1 s hs
  have hc := h.1
  have e1 := firstDay_year hw (s := s) (by omega) hx ex
  have e2 : f_X7_sortOf (nI s) 1 S = some (nI y) := by
    have := sortOf_nat (s := s) (k := 1) (by omega) (by decide) S
    rw [show rd S 109 (5 * s + 1) = nI y from ey] at this
    exact this
  have e3 : f_X7_sortOf (nI s) 2 S = some (nI z) := by
    have := sortOf_nat (s := s) (k := 2) (by omega) (by decide) S
    rw [show rd S 109 (5 * s + 2) = nI z from ez] at this
    exact this
  unfold ripS
  rw [ex, ey, ez, ix_nI (n := x) (by omega), ix_nI (n := y) (by omega), ix_nI (n := z) (by omega)]
  have hF := (fstD_spec (warmF S) x).1
  generalize fstD (warmF S) x = F at *
  simp only [f_X7_ripens, e1, e2, Option.bind_some]
  by_cases l : F < 50
  · rw [if_pos l, nI_add]
    have e4 : nI (F + y) - 1 = nI (F + y - 1) := pk_sub (b := 1) (by omega)
    rw [e4]
    by_cases c : F + y - 1 < 50
    · have c' : nI (F + y - 1) < (50 : Int32) := nI_lt (b := 50) c (by decide)
      rw [if_pos c']
      by_cases c2 : F + y - 1 < day
      · rw [if_pos (nI_lt c2 (by omega)), nI_1]
        have := loop_q (N := day + 1) (fun n i (v : Int32) => f_X7_ripens_L37 n (fun e60_1 e60_4 => ((f_X7_sortOf e60_1 (2 : Int32) S).bind fun v65 => (if e60_4 < v65 then (some false) else (some true)))) (nI s) (nI day) v i S) (fun j v => F + y - 1 + 1 ≤ j ∧ v = nI (fb_sum (warmF S) j - fb_sum (warmF S) (F + y - 1 + 1))) (fun r => r = some (decide (F + y - 1 < day ∧ z ≤ fb_sum (warmF S) (day + 1) - fb_sum (warmF S) (F + y - 1 + 1)))) (fun n j v hj hP => by
          left
          obtain ⟨p1, p2⟩ := hP
          have h1 : (nI day < nI j) = False := ltF (by omega) (by omega)
          have hm := fb_mono (warmF S) (n := F + y - 1 + 1) (m := j) (by omega)
          refine ⟨nI (fb_sum (warmF S) (j + 1) - fb_sum (warmF S) (F + y - 1 + 1)), ⟨by omega, rfl⟩, ?_⟩
          simp only [f_X7_ripens_L37, h1, if_false, warm_run hw (show j < 50 by omega), Option.bind_some, p2, nI_add, nI_1]
          congr 2
          have e : fb_sum (warmF S) (j + 1) = fb_sum (warmF S) j + warmF S j := rfl
          omega) (fun n v hP => by
          have h1 : (nI day < nI (day + 1)) = True := ltT (by omega) (by omega)
          have hb := fbW_le (W := warmF S) (fun d hd => warmF_le hw hd) (d := day + 1) (by omega)
          simp only [f_X7_ripens_L37, h1, if_true, e3, Option.bind_some, hP.2]
          by_cases r : fb_sum (warmF S) (day + 1) - fb_sum (warmF S) (F + y - 1 + 1) < z
          · rw [if_pos (nI_lt r (by omega)), decide_eq_false (fun q => by omega)]
          · rw [if_neg (nI_nlt (by omega) (by omega)), decide_eq_true (⟨c2, by omega⟩ : F + y - 1 < day ∧ z ≤ _)]) (day + 1 - (F + y - 1 + 1)) (F + y - 1 + 1) 6000 0 (by omega) (by omega) ⟨Nat.le_refl _, by rw [Nat.sub_self]; rfl⟩
        exact this
      · rw [if_neg (nI_nlt (by omega) (by omega)), decide_eq_false (fun q => c2 q.1)]
    · have c' : ¬ nI (F + y - 1) < (50 : Int32) := nI_nlt (b := 50) (by omega) (by omega)
      rw [if_neg c', decide_eq_false (fun q => by omega)]
  · rw [if_neg l, show (100 : Int32) = nI 100 from rfl, nI_add]
    have e4 : nI (100 + y) - 1 = nI (100 + y - 1) := pk_sub (b := 1) (by omega)
    have c' : ¬ nI (100 + y - 1) < (50 : Int32) := nI_nlt (b := 50) (by omega) (by omega)
    rw [e4, if_neg c', decide_eq_false (fun q => by omega)]
/-- the reference's row of ripe parts -/
theorem rows234 {cnt yr dn : Nat} {S : St} (h : OrA cnt yr (S.1 109)) (hw : RefW dn S) {day : Nat} (hd : day < 50) (dt : Int32) (K : Int32 → St → Option St) : ∃ S', f_X7_day_L234 6000 K (nI day) dt 0 S = K dt S' ∧ S'.2 = S.2 ∧ (∀ i, i ≠ 120 → S'.1 i = S.1 i) ∧ ∀ k, k < 24 → S'.1 120 k = if ripA (S.1 109) (warmF S) k day = true then 1 else 0 := by
  have := loop_up (N := 24) (fun n i U => f_X7_day_L234 n K (nI day) dt i U) (fun U => K dt U) (fun j U => U.2 = S.2 ∧ (∀ i, i ≠ 120 → U.1 i = S.1 i) ∧ ∀ k, k < j → U.1 120 k = if ripA (S.1 109) (warmF S) k day = true then 1 else 0) (fun n j U hj hP => by
    obtain ⟨p1, p2, p3⟩ := hP
    have h109 : U.1 109 = S.1 109 := p2 109 (by decide)
    have hwU : RefW dn U := hw.cong (fun i hi => p2 i (by omega))
    have hWe : warmF U = warmF S := funext (fun d => warmF_cong (fun i hi => p2 i (by omega)) d)
    have hAU : OrA cnt yr (U.1 109) := by rw [h109]; exact h
    have ept := partR hAU hj
    rw [h109] at ept
    have h1 : (nI j < (24 : Int32)) = True := ltT hj (by decide)
    have hin : inb (nI j) 24 = true := inb_nI hj (by decide)
    have hix : ix (nI j) = j := ix_nI (by omega)
    refine ⟨wr U 120 j (if ripA (S.1 109) (warmF S) j day = true then 1 else 0), ⟨p1, fun i a => by rw [wr1_ne a]; exact p2 i a, fun k hk => ?_⟩, ?_⟩
    · rw [wr1_eq]
      by_cases e : k = j
      · rw [if_pos e, e]
      · rw [if_neg e]; exact p3 k (by omega)
    · simp only [f_X7_day_L234, h1, if_true, ept, Option.bind_some, hin, hix, nI_1]
      unfold ripA
      by_cases hpt : ptA (S.1 109) j = true
      · have hptU : ptA (U.1 109) j = true := by rw [h109]; exact hpt
        have es := sortPartR hAU hj hptU
        rw [h109] at es
        have er := ripensR hAU hwU (s := srtA (S.1 109) j) (by exact (h.srtK hj hpt).1) hd
        rw [h109, hWe] at er
        rw [if_pos hpt, es]
        simp only [Option.bind_some, er, hpt, Bool.true_and]
        cases ripS (S.1 109) (warmF S) (srtA (S.1 109) j) day with
        | true => simp only [if_true]
        | false => simp only [Bool.false_eq_true, if_false]
      · simp only [Bool.not_eq_true] at hpt
        simp only [hpt, Bool.false_eq_true, if_false, Bool.false_and]) (fun n U hP => by
    have h1 : (nI 24 < (24 : Int32)) = False := ltF (N := 24) (by decide) (by decide)
    simp only [f_X7_day_L234, h1, if_false]) (fuel := 6000) (T := S) (by decide) ⟨rfl, fun _ _ => rfl, fun k hk => absurd hk (by omega)⟩
  rw [nI_0] at this
  obtain ⟨S', ⟨p1, p2, p3⟩, e⟩ := this
  exact ⟨S', e, p1, p2, p3⟩
/-- what drops -/
def drpF (rip : Nat → Bool) (fr : Nat → Nat) (k : Nat) : Nat := if rip k = true then (fr k + 9) / 10 else 0
def LesC (S : St) (fr dA : Nat → Nat) (c : Nat) (U : St) : Prop := (∀ i, i < 21 ∨ 44 ≤ i ∨ i % 2 = 0 → U.1 i = S.1 i) ∧ (∀ i, i ≠ 7 → U.2 i = S.2 i) ∧ (∀ p q, p < 12 → q < 2 → U.1 (21 + 2 * p) q = nI (fr (2 * p + q) - (if 2 * p + q < c then dA (2 * p + q) else 0))) ∧ ∀ k, U.2 7 k = if k = 3 then S.2 7 3 + lN (fb_sum dA c) else S.2 7 k
theorem LesC.skip {S U : St} {fr dA : Nat → Nat} {c : Nat} (h : LesC S fr dA c U) (hz : dA c = 0) : LesC S fr dA (c + 1) U := by
  obtain ⟨h1, h2, h3, h5⟩ := h
  have e : ∀ k, (if k < c + 1 then dA k else 0) = if k < c then dA k else 0 := fun k => by
    by_cases q : k < c
    · rw [if_pos q, if_pos (by omega)]
    · rw [if_neg q]
      by_cases r : k = c
      · rw [if_pos (by omega), r, hz]
      · rw [if_neg (by omega)]
  exact ⟨h1, h2, fun p q a b => by rw [e]; exact h3 p q a b, fun k => by rw [h5 k, fb_sum, hz, Nat.add_zero]⟩
theorem LesC.step {S U : St} {fr dA : Nat → Nat} {p q : Nat} (hp : p < 12) (hq : q < 2) (h : LesC S fr dA (2 * p + q) U) : LesC S fr dA (2 * p + q + 1) (wrL (wr U (21 + 2 * p) q (nI (fr (2 * p + q) - dA (2 * p + q)))) 7 3 (U.2 7 3 + lN (dA (2 * p + q)))) := by
  obtain ⟨h1, h2, h3, h5⟩ := h
  refine ⟨fun i hi => ?_, fun i hi => ?_, fun r t hr htt => ?_, fun k => ?_⟩
  · rw [wrL1, wr1_ne (by omega)]; exact h1 i hi
  · rw [wrL2_ne hi]; exact h2 i hi
  · rw [wrL1]
    by_cases e : r = p
    · subst e
      rw [wr1_eq]
      by_cases e2 : t = q
      · subst e2; rw [if_pos rfl, if_pos (by omega)]
      · rw [if_neg e2, h3 r t hr htt]
        congr 2
        by_cases l : 2 * r + t < 2 * r + q
        · rw [if_pos l, if_pos (by omega)]
        · rw [if_neg l, if_neg (by omega)]
    · rw [wr1_ne (by omega), h3 r t hr htt]
      congr 2
      by_cases l : 2 * r + t < 2 * p + q
      · rw [if_pos l, if_pos (by omega)]
      · rw [if_neg l, if_neg (by omega)]
  · rw [wrL2_eq]
    by_cases e : k = 3
    · rw [if_pos e, if_pos e, h5 3, if_pos rfl, l_assoc, lN_add]; rfl
    · rw [if_neg e, if_neg e]
      show U.2 7 k = _
      rw [h5 k, if_neg e]
theorem LesC.frC {S U : St} {fr dA : Nat → Nat} {c : Nat} (h : LesC S fr dA c U) : FrC S U := ⟨fun i hi => h.1 i (by omega), fun s k hs hk => by rw [h.1 _ (by omega)], fun p k hp hk => by rw [h.1 _ (by omega)], h.2.1⟩
theorem dropC {cnt yr : Nat} {S : St} {A : Nat → Int32} {W : Nat → Nat} {fr : Nat → Nat} (h : OrA cnt yr A) (hC : OrC cnt S A) (hW : SeaC cnt W A S) {day : Nat} (hd : day < 50) (hfr : ∀ p q, p < 12 → q < 2 → S.1 (21 + 2 * p) q = nI (fr (2 * p + q))) (hb : ∀ k, k < 24 → fr k ≤ 40000) : ∃ S', f_X0_dropFruits (nI day) S = some S' ∧ LesC S fr (drpF (fun k => ripA A W k day) fr) 24 S' := by
  have turn : ∀ (n p q : Nat) (K : Int32 → Int32 → St → Option St) (U : St), p < 12 → q < 2 → isPt (A (66 + 11 * p + 2)) q = true → LesC S fr (drpF (fun k => ripA A W k day) fr) (2 * p + q) U → ∃ U', LesC S fr (drpF (fun k => ripA A W k day) fr) (2 * p + q + 1) U' ∧ f_X0_dropFruits_L19 (n + 1) K (nI day) (nI p) (20 + 2 * p) (nI q) U = f_X0_dropFruits_L19 n K (nI day) (nI p) (20 + 2 * p) (nI (q + 1)) U' := by
    intro n p q K U hp hq hpt hG
    have hCU := hG.frC.orC hC h.1
    have hWU := hG.frC.sea hW
    have e1 : (nI q < f_X2_partCount (20 + 2 * p) U) = True := by rw [pcC h hCU hp hq, hpt]; simp
    have hin : inb (nI q) 2 = true := inb_nI hq (by decide)
    have hix : ix (nI q) = q := ix_nI (by omega)
    have e21 : 20 + 2 * p + 1 = 21 + 2 * p := by omega
    have hfrU : rd U (21 + 2 * p) q = nI (fr (2 * p + q)) := by
      show U.1 (21 + 2 * p) q = _
      rw [hG.2.2.1 p q hp hq, if_neg (by omega), Nat.sub_zero]
    have hbk := hb (2 * p + q) (by omega)
    by_cases r : ripA A W (2 * p + q) day = true
    · refine ⟨_, hG.step hp hq, ?_⟩
      have hd' : drpF (fun k => ripA A W k day) fr (2 * p + q) = (fr (2 * p + q) + 9) / 10 := by
        unfold drpF; rw [if_pos r]
      have up : f_X6_upQuotient (nI (fr (2 * p + q))) 10 = some (nI ((fr (2 * p + q) + 9) / 10)) := by
        have c1 : ((0 : Int32) < 10) = True := by decide
        have c2 : ((10 : Int32) = 0) = False := by decide
        simp only [f_X6_upQuotient, c1, c2, if_true, if_false]
        rw [show (10 : Int32) = nI 10 from rfl, nI_add, show (1 : Int32) = nI 1 from rfl, pk_sub (by omega), pk_div (by omega) (by decide) (by decide)]
        congr 3
      have el : (nI ((fr (2 * p + q) + 9) / 10)).toInt64 = lN ((fr (2 * p + q) + 9) / 10) := nI_l (by omega)
      have hle : (fr (2 * p + q) + 9) / 10 ≤ fr (2 * p + q) ∨ fr (2 * p + q) = 0 := by omega
      have esub : nI (fr (2 * p + q)) - nI ((fr (2 * p + q) + 9) / 10) = nI (fr (2 * p + q) - (fr (2 * p + q) + 9) / 10) := pk_sub (by omega)
      have ix3 : ix (3 : Int32) = 3 := rfl
      rw [hd']
      simp only [f_X0_dropFruits_L19, e1, if_true, ripeC h hCU hWU hp hq hd hpt, Option.bind_some, r, hin, hix, e21, hfrU, up, esub, ix3, nI_1, el]
      rfl
    · refine ⟨U, hG.skip (by unfold drpF; rw [if_neg r]), ?_⟩
      simp only [f_X0_dropFruits_L19, e1, if_true, ripeC h hCU hWU hp hq hd hpt, Option.bind_some, r, if_false, nI_1, Bool.false_eq_true]
  have stop : ∀ (n p q : Nat) (K : Int32 → Int32 → St → Option St) (U : St), p < 12 → q < 2 → FrC S U → isPt (A (66 + 11 * p + 2)) q = false → f_X0_dropFruits_L19 (n + 1) K (nI day) (nI p) (20 + 2 * p) (nI q) U = K (nI day) (nI p) U := by
    intro n p q K U hp hq hG hh
    have e1 : (nI q < f_X2_partCount (20 + 2 * p) U) = False := by rw [pcC h (hG.orC hC h.1) hp hq, hh]; simp
    simp only [f_X0_dropFruits_L19, e1, if_false]
  have last : ∀ (n p : Nat) (K : Int32 → Int32 → St → Option St) (U : St), p < 12 → FrC S U → f_X0_dropFruits_L19 (n + 1) K (nI day) (nI p) (20 + 2 * p) (nI 2) U = K (nI day) (nI p) U := by
    intro n p K U hp hG
    simp only [f_X0_dropFruits_L19, pc2C h (hG.orC hC h.1) hp, if_false]
  have none' : ∀ p q, q < 2 → isPt (A (66 + 11 * p + 2)) q = false → drpF (fun k => ripA A W k day) fr (2 * p + q) = 0 := fun p q hq hh => by
    have e : ripA A W (2 * p + q) day = false := by unfold ripA; rw [ptA_at hq, hh, Bool.false_and]
    show (if ripA A W (2 * p + q) day = true then (fr (2 * p + q) + 9) / 10 else 0) = 0
    rw [e, if_neg (by decide)]
  have place : ∀ (p : Nat) (K : Int32 → Int32 → St → Option St) (U : St), p < 12 → LesC S fr (drpF (fun k => ripA A W k day) fr) (2 * p) U → ∃ U', LesC S fr (drpF (fun k => ripA A W k day) fr) (2 * (p + 1)) U' ∧ f_X0_dropFruits_L19 6000 K (nI day) (nI p) (20 + 2 * p) 0 U = K (nI day) (nI p) U' := by
    intro p K U hp hG
    rw [show (0 : Int32) = nI 0 from rfl, show (6000 : Nat) = 5997 + 1 + 1 + 1 from rfl]
    cases p0 : isPt (A (66 + 11 * p + 2)) 0 with
    | false =>
      have p1 : isPt (A (66 + 11 * p + 2)) 1 = false := by
        cases q1 : isPt (A (66 + 11 * p + 2)) 1 with
        | false => rfl
        | true => rw [isPt_0 (isPt_tree q1 (by decide))] at p0; cases p0
      exact ⟨U, (hG.skip (none' p 0 (by decide) p0)).skip (none' p 1 (by decide) p1), stop _ p 0 K U hp (by decide) hG.frC p0⟩
    | true =>
      obtain ⟨U1, g1, e1⟩ := turn (5997 + 1 + 1) p 0 K U hp (by decide) p0 hG
      rw [e1]
      cases p1 : isPt (A (66 + 11 * p + 2)) 1 with
      | false => exact ⟨U1, g1.skip (none' p 1 (by decide) p1), stop _ p 1 K U1 hp (by decide) g1.frC p1⟩
      | true =>
        obtain ⟨U2, g2, e2⟩ := turn (5997 + 1) p 1 K U1 hp (by decide) p1 g1
        exact ⟨U2, g2, e2.trans (last _ p K U2 hp g2.frC)⟩
  have := loop_up (N := 12) (fun n i U => f_X0_dropFruits_L2 n (fun T94 => (some T94)) (nI day) i U) (fun U => some U) (fun j U => LesC S fr (drpF (fun k => ripA A W k day) fr) (2 * j) U) (fun n j U hj hP => by
    have h1 : (nI j < (12 : Int32)) = True := ltT hj (by decide)
    have hin : inb (nI j) 12 = true := inb_nI hj (by decide)
    have hix : ix (nI j) = j := ix_nI (by omega)
    obtain ⟨U', g, e⟩ := place j (fun e88_2 e88_3 T88 => (f_X0_dropFruits_L2 n (fun T94 => (some T94)) e88_2 (e88_3 + (1 : Int32)) T88)) U hj hP
    exact ⟨U', g, by simp only [f_X0_dropFruits_L2, h1, hin, hix, if_true]; rw [e, nI_1]⟩) (fun n U hP => by
    have h1 : (nI 12 < (12 : Int32)) = False := ltF (N := 12) (by decide) (by decide)
    simp only [f_X0_dropFruits_L2, h1, if_false]) (fuel := 6000) (T := S) (by decide) ⟨fun _ _ => rfl, fun _ _ => rfl, fun p q a b => by rw [hfr p q a b, if_neg (by omega), Nat.sub_zero], fun k => by
      by_cases e : k = 3
      · rw [if_pos e, e]; exact (l_zero _).symm
      · rw [if_neg e]⟩
  rw [nI_0] at this
  obtain ⟨S', g, e⟩ := this
  exact ⟨S', e, g⟩
def LesR (S : St) (fr dA : Nat → Nat) (c : Nat) (U : St) : Prop := (∀ i, i ≠ 109 → U.1 i = S.1 i) ∧ (∀ k, k < 66 ∨ 198 ≤ k ∨ ((k - 66) % 11 ≠ 8 ∧ (k - 66) % 11 ≠ 9) → U.1 109 k = S.1 109 k) ∧ (∀ i, i ≠ 111 → U.2 i = S.2 i) ∧ (∀ p q, p < 12 → q < 2 → U.1 109 (66 + 11 * p + (8 + q)) = nI (fr (2 * p + q) - (if 2 * p + q < c then dA (2 * p + q) else 0))) ∧ ∀ k, U.2 111 k = if k = 3 then S.2 111 3 + lN (fb_sum dA c) else S.2 111 k
theorem neg_nat {a b : Nat} (h : b ≤ a) : nI a + -(nI b) = nI (a - b) := by
  rw [← pk_sub h, Int32.sub_eq_add_neg]
theorem dropR {S : St} {rip : Nat → Bool} {fr : Nat → Nat} (h120 : ∀ k, k < 24 → S.1 120 k = if rip k = true then 1 else 0) (hfr : ∀ p q, p < 12 → q < 2 → S.1 109 (66 + 11 * p + (8 + q)) = nI (fr (2 * p + q))) (hb : ∀ k, k < 24 → fr k ≤ 40000) (K : St → Option St) : ∃ S', f_X7_day_L285 6000 K 0 S = K S' ∧ LesR S fr (drpF rip fr) 24 S' := by
  have := loop_up (N := 24) (fun n i U => f_X7_day_L285 n K i U) K (fun j U => LesR S fr (drpF rip fr) j U) (fun n j U hj hP => by
    obtain ⟨p1, p2, p3, p4, p5⟩ := hP
    have h1 : (nI j < (24 : Int32)) = True := ltT hj (by decide)
    have hin : inb (nI j) 24 = true := inb_nI hj (by decide)
    have hix : ix (nI j) = j := ix_nI (by omega)
    have e120 : rd U 120 j = if rip j = true then 1 else 0 := by show U.1 120 j = _; rw [p1 120 (by decide)]; exact h120 j hj
    have hp := khalf_lt hj
    have hq : j % 2 < 2 := by omega
    by_cases r : rip j = true
    · have hd' : drpF rip fr j = (fr j + 9) / 10 := by unfold drpF; rw [if_pos r]
      have hbk := hb j hj
      have ef : U.1 109 (66 + 11 * (j / 2) + (8 + j % 2)) = nI (fr j) := by
        rw [p4 _ _ hp hq, if_neg (by omega), Nat.sub_zero, k_eq]
      have ef' : rd U 109 (66 + 11 * (j / 2) + (8 + j % 2)) = nI (fr j) := ef
      have e1 := fruitsOf_nat hp hq U
      rw [k_eq, ef'] at e1
      have e2 := grow_nat hp hq (-(nI ((fr j + 9) / 10))) U
      rw [k_eq, ef', neg_nat (by omega)] at e2
      have el : (nI ((fr j + 9) / 10)).toInt64 = lN ((fr j + 9) / 10) := nI_l (by omega)
      have ed : (nI (fr j) + 9) / 10 = nI ((fr j + 9) / 10) := by
        rw [show (9 : Int32) = nI 9 from rfl, nI_add, show (10 : Int32) = nI 10 from rfl, pk_div (by omega) (by decide) (by decide)]
      have ix3 : ix (3 : Int32) = 3 := rfl
      have c1 : ((1 : Int32) = 0) = False := by decide
      rw [if_pos r] at e120
      refine ⟨wrL (wr U 109 (66 + 11 * (j / 2) + (8 + j % 2)) (nI (fr j - (fr j + 9) / 10))) 111 3 (U.2 111 3 + lN ((fr j + 9) / 10)), ⟨fun i hi => by rw [wrL1, wr1_ne hi]; exact p1 i hi, fun k hk => ?_, fun i hi => by rw [wrL2_ne hi]; exact p3 i hi, fun r t hr htt => ?_, fun k => ?_⟩, ?_⟩
      · rw [wrL1, wr1_eq, if_neg (by omega)]; exact p2 k hk
      · rw [wrL1, wr1_eq]
        by_cases e : r = j / 2 ∧ t = j % 2
        · obtain ⟨rfl, rfl⟩ := e
          rw [if_pos rfl, if_pos (by omega), k_eq, hd']
        · rw [if_neg (by omega), p4 r t hr htt]
          congr 2
          by_cases l : 2 * r + t < j
          · rw [if_pos l, if_pos (by omega)]
          · rw [if_neg l, if_neg (by omega)]
      · rw [wrL2_eq]
        by_cases e : k = 3
        · rw [if_pos e, if_pos e, p5 3, if_pos rfl, l_assoc, lN_add, fb_sum, hd']
        · rw [if_neg e, if_neg e]
          show U.2 111 k = _
          rw [p5 k, if_neg e]
      · simp only [f_X7_day_L285, h1, if_true, hin, hix, e120, c1, if_false, e1, Option.bind_some, ed, e2, ix3, el, nI_1]
        rfl
    · rw [if_neg r] at e120
      have hz : drpF rip fr j = 0 := by unfold drpF; rw [if_neg r]
      have e : ∀ k, (if k < j + 1 then drpF rip fr k else 0) = if k < j then drpF rip fr k else 0 := fun k => by
        by_cases q : k < j
        · rw [if_pos q, if_pos (by omega)]
        · rw [if_neg q]
          by_cases r' : k = j
          · rw [if_pos (by omega), r', hz]
          · rw [if_neg (by omega)]
      refine ⟨U, ⟨p1, p2, p3, fun p q a b => by rw [e]; exact p4 p q a b, fun k => by rw [p5 k, fb_sum, hz, Nat.add_zero]⟩, ?_⟩
      simp only [f_X7_day_L285, h1, if_true, hin, hix, e120, nI_1]) (fun n U hP => by
    have h1 : (nI 24 < (24 : Int32)) = False := ltF (N := 24) (by decide) (by decide)
    simp only [f_X7_day_L285, h1, if_false]) (fuel := 6000) (T := S) (by decide) ⟨fun _ _ => rfl, fun _ _ => rfl, fun _ _ => rfl, fun p q a b => by rw [hfr p q a b, if_neg (by omega), Nat.sub_zero], fun k => by
      by_cases e : k = 3
      · rw [if_pos e, e]; exact (l_zero _).symm
      · rw [if_neg e]⟩
  rw [nI_0] at this
  obtain ⟨S', g, e⟩ := this
  exact ⟨S', e, g⟩
