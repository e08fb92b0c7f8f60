-- a day, on both sides
def HeadD (cnt yr dn : Nat) (c A : Nat → Int32) : Prop :=
  cnt ≤ 6 ∧ dn ≤ 50 ∧ c 1 = nI cnt ∧ A 782 = nI cnt ∧ c 4 = nI yr ∧ A 784 = nI yr ∧ c 5 = nI dn ∧ A 785 = nI dn ∧ c 3 = A 783 ∧ (∃ r : Nat, 1 ≤ r ∧ r ≤ 15 ∧ A 783 = nI r) ∧ c 9 = A 787 ∧ (∃ h : Nat, h ≤ 1000 ∧ A 787 = nI h) ∧ c 10 = A 786 ∧ (A 786 = -1 ∨ ∃ s : Nat, s < 4 ∧ A 786 = nI s) ∧ c 11 = nI ((50 * yr + dn) % 60)
def BookD (cnt yr dn : Nat) (C : Nat → Nat → Int32) (CL : Nat → Int64) (A : Nat → Int32) (AL : Nat → Int64) : Prop :=
  HeadD cnt yr dn (C 0) A ∧ (∃ tk : Nat → Nat → Bool, ∀ s, s < 6 → SortRel cnt s (C (7 + 2 * s)) A (tk s)) ∧
  (∃ f : Nat → Nat → Nat, (∀ s, s < 6 → StoreRel cnt (50 * yr + dn) s (C (7 + 2 * s)) (C (8 + 2 * s)) A (f s)) ∧ fb_sum (fun s => fb_sum (fun a => f s (a + 1)) 60) 6 ≤ 1000) ∧
  (∀ p, p < 12 → PlaceRel cnt yr dn (C (19 + 2 * p)) (C (20 + 2 * p)) (fun k => A (66 + 11 * p + k))) ∧
  FrostRel (C 4) (C 5) A ∧ WarmRel dn (C 3) A ∧ (∀ k, k < 10 → CL k = AL k)
theorem BookD.rel {cnt yr dn : Nat} {C : Nat → Nat → Int32} {CL AL : Nat → Int64} {A : Nat → Int32} (h : BookD cnt yr dn C CL A AL) (hd : dn ≤ 49) : BookRel cnt yr dn C CL A AL := by
  obtain ⟨⟨a1, a2, a3⟩, h2⟩ := h
  exact ⟨⟨a1, hd, a3⟩, h2⟩
theorem fb_plus (f g : Nat → Nat) : ∀ n, fb_sum (fun k => f k + g k) n = fb_sum f n + fb_sum g n
  | 0 => rfl
  | n + 1 => by rw [fb_sum, fb_sum, fb_sum, fb_plus f g n]; omega
theorem dSF_inv {cnt yr : Nat} {A : Nat → Int32} (h : OrA cnt yr A) (W : Nat → Nat) (dn : Nat) (fr : Nat → Nat) (f : Nat → Nat → Nat) (hrs : Nat) : PkI cnt (min hrs (1000 - fb_sum (dBs A f cnt) 6)) (fun k => ripA A W k dn) (fun k => fr k + setA A W dn k) (dSF A W dn fr f cnt hrs) := by
  refine PkI.run h.1 (fun k hk hr => ?_) 24 ⟨Nat.zero_add _, fb_sum_zero (fun _ _ => rfl), fun _ _ => Nat.le_refl _, fun _ _ => rfl, fun _ _ => rfl⟩
  have hr' : ripA A W k dn = true := hr
  unfold ripA at hr'; simp only [Bool.and_eq_true] at hr'
  exact (h.srtK hk hr'.1).1
/-- the fruits of part k behind the day -/
def dFr (A : Nat → Int32) (W : Nat → Nat) (dn : Nat) (fr : Nat → Nat) (f : Nat → Nat → Nat) (cnt hrs k : Nat) : Nat := (dSF A W dn fr f cnt hrs).2.1 k - dDr A W dn fr f cnt hrs k
theorem dFr_le {cnt yr : Nat} {A : Nat → Int32} (h : OrA cnt yr A) (W : Nat → Nat) (dn : Nat) (fr : Nat → Nat) (f : Nat → Nat → Nat) (hrs : Nat) {k : Nat} (hk : k < 24) : dFr A W dn fr f cnt hrs k ≤ fr k + setA A W dn k := by
  have : (dSF A W dn fr f cnt hrs).2.1 k ≤ fr k + setA A W dn k := (dSF_inv h W dn fr f hrs).2.2.1 k hk
  unfold dFr; omega
theorem dFr_none {cnt yr : Nat} {A : Nat → Int32} (h : OrA cnt yr A) (W : Nat → Nat) (dn : Nat) (fr : Nat → Nat) (f : Nat → Nat → Nat) (hrs : Nat) {k : Nat} (hpt : ptA A k = false) : dFr A W dn fr f cnt hrs k = fr k ∧ setA A W dn k = 0 := by
  have hr : ripA A W k dn = false := by unfold ripA; rw [hpt, Bool.false_and]
  have hs : setA A W dn k = 0 := by unfold setA; rw [if_neg (fun q => by rw [hpt] at q; cases q.1)]
  have e1 : (dSF A W dn fr f cnt hrs).2.1 k = fr k + setA A W dn k := (dSF_inv h W dn fr f hrs).2.2.2.1 k hr
  have e2 : dDr A W dn fr f cnt hrs k = 0 := by
    unfold dDr
    show (if ripA A W k dn = true then _ else 0) = 0
    rw [hr, if_neg (by decide)]
  refine ⟨?_, hs⟩
  unfold dFr
  rw [e1, e2, hs]; omega
theorem dF_sum {cnt yr : Nat} {A : Nat → Int32} (h : OrA cnt yr A) (W : Nat → Nat) (dn : Nat) (fr : Nat → Nat) (f : Nat → Nat → Nat) (hrs s : Nat) (h60 : splF A f cnt s 60 = 0) : fb_sum (fun a => dF A W dn fr f cnt hrs s (a + 1)) 60 = dBs A f cnt s + (dSF A W dn fr f cnt hrs).2.2.1 s := by
  rw [fb_front]
  have e1 : dF A W dn fr f cnt hrs s (0 + 1) = (dSF A W dn fr f cnt hrs).2.2.1 s := by unfold dF; rw [if_pos rfl]
  have e2 : fb_sum (fun k => dF A W dn fr f cnt hrs s (k + 1 + 1)) 59 = fb_sum (fun a => splF A f cnt s (a + 1)) 59 := fb_sum_cong (fun k hk => by
    unfold dF
    rw [if_neg (by omega)]; congr 1)
  have e3 : dBs A f cnt s = fb_sum (fun a => splF A f cnt s (a + 1)) 59 + splF A f cnt s (59 + 1) := rfl
  rw [e1, e2, e3, h60]; omega
theorem SeaC.congA {cnt : Nat} {W : Nat → Nat} {A A' : Nat → Int32} {S : St} (h : SeaC cnt W A S) (hc : cnt ≤ 6) (e : ∀ k, k < 66 → A' k = A k) : SeaC cnt W A' S := by
  obtain ⟨h1, h2, h3, h4⟩ := h
  refine ⟨h1, h2, h3, fun s hs => ?_⟩
  rw [e (5 * s) (by omega), e (5 * s + 1) (by omega)]
  exact h4 s hs
theorem dayBoth {cnt yr dn : Nat} {Sc Sr : St} (h : BookRel cnt yr dn (fun i => Sc.1 (1 + i)) (Sc.2 7) (Sr.1 109) (Sr.2 111)) (hy : yr ≤ 700) (hW : SeaC cnt (warmF Sr) (Sr.1 109) Sc) (hw : RefW dn Sr) :
    ∃ Sc' Sr', f_X0_doDay Sc = some Sc' ∧ f_X7_day Sr = (if dn + 1 = 50 then f_X7_ends Sr' else some Sr') ∧ BookD cnt yr (dn + 1) (fun i => Sc'.1 (1 + i)) (Sc'.2 7) (Sr'.1 109) (Sr'.2 111) ∧ SeaC cnt (warmF Sr') (Sr'.1 109) Sc' ∧ RefW (dn + 1) Sr' ∧ warmF Sr' = warmF Sr ∧ (∀ i, i = 0 ∨ 44 ≤ i → Sc'.1 i = Sc.1 i) ∧ (∀ i, i ≠ 7 → Sc'.2 i = Sc.2 i) ∧ (∀ i, i ≠ 109 → i ≠ 118 → i ≠ 119 → i ≠ 120 → Sr'.1 i = Sr.1 i) ∧ (∀ i, i ≠ 111 → Sr'.2 i = Sr.2 i) ∧ (∀ k, k < 66 → Sr'.1 109 k = Sr.1 109 k) ∧ (∀ p k, p < 12 → k < 8 → Sr'.1 109 (66 + 11 * p + k) = Sr.1 109 (66 + 11 * p + k)) ∧ Sr'.1 109 783 = Sr.1 109 783 ∧ Sr'.1 109 784 = Sr.1 109 784 := by
  have hA := h.orA (by omega)
  have hC := h.orC
  obtain ⟨⟨q1, q2, q3, q4, q5, q6, q7, q8, q9, q10, q11, ⟨hrs, hh, q12⟩, q13, q14, q15⟩, ⟨tk, hS⟩, ⟨f, hf, hf'⟩, hP, hF, hWm, hTt⟩ := h
  have e8 : ∀ s, 1 + (7 + 2 * s) = 8 + 2 * s := fun s => by omega
  have e9 : ∀ s, 1 + (8 + 2 * s) = 9 + 2 * s := fun s => by omega
  have e20 : ∀ s, 1 + (19 + 2 * s) = 20 + 2 * s := fun s => by omega
  have e21 : ∀ s, 1 + (20 + 2 * s) = 21 + 2 * s := fun s => by omega
  simp only [e8, e9, e20, e21] at hf hS hP
  have hfar : ∀ s, s < cnt → ∀ a, kpA (Sr.1 109) s < a → f s a = 0 := fun s hs a ha => ((hf s (by omega)).1 hs).2.2 a _ (kpA_eq hA hs).2.2 (kpA_eq hA hs).2.1 ha
  have hz : ∀ s, cnt ≤ s → ∀ a, f s a = 0 ∨ 6 ≤ s := fun s hs a => by
    rcases Nat.lt_or_ge s 6 with q | q
    · exact Or.inl ((hf s q).2.2 hs a)
    · exact Or.inr q
  -- the numbers beyond the six sorts are nothing
  obtain ⟨f2, hf2⟩ : ∃ f2 : Nat → Nat → Nat, ∀ s a, f2 s a = if s < 6 then f s a else 0 := ⟨fun s a => if s < 6 then f s a else 0, fun _ _ => rfl⟩
  have f2e : ∀ s, s < 6 → f2 s = f s := fun s hs => funext (fun a => by rw [hf2, if_pos hs])
  have hfb2 : fb_sum (fun s => fb_sum (fun a => f2 s (a + 1)) 60) 6 ≤ 1000 := by
    rw [fb_sum_cong (g := fun s => fb_sum (fun a => f s (a + 1)) 60) (fun s hs => by rw [f2e s hs])]; exact hf'
  have hz2 : ∀ s, cnt ≤ s → ∀ a, f2 s a = 0 := fun s hs a => by
    rw [hf2]
    rcases hz s hs a with q | q
    · by_cases l : s < 6
      · rw [if_pos l, q]
      · rw [if_neg l]
    · rw [if_neg (by omega)]
  have hfar2 : ∀ s, s < cnt → ∀ a, kpA (Sr.1 109) s < a → f2 s a = 0 := fun s hs a ha => by rw [f2e s (by omega)]; exact hfar s hs a ha
  have hfr : ∀ p q, p < 12 → q < 2 → Sr.1 109 (66 + 11 * p + (8 + q)) = nI (frt (Sr.1 109) (2 * p + q)) ∧ Sc.1 (21 + 2 * p) q = nI (frt (Sr.1 109) (2 * p + q)) ∧ frt (Sr.1 109) (2 * p + q) ≤ 30000 := fun p q hp hq => (hP p hp).frt1 (by omega) hq
  have hfb : ∀ k, k < 24 → frt (Sr.1 109) k ≤ 30000 := fun k hk => by
    have := (hfr (k / 2) (k % 2) (by omega) (by omega)).2.2
    rw [k_eq] at this; exact this
  have hns : ∀ p, p < 12 → TrA (Sr.1 109) p → Sr.1 109 (66 + 11 * p + 10) = nI (ix (Sr.1 109 (66 + 11 * p + 10))) ∧ Sc.1 (20 + 2 * p) 9 = nI (ix (Sr.1 109 (66 + 11 * p + 10))) := fun p hp ht => by
    rcases (hP p hp).2.2.2.2.2.2.2 with q | q | q
    · exact absurd q.1 (hA.tree hp ht).2.1
    · exact absurd q.1 (hA.tree hp ht).2.2
    · obtain ⟨f0, f1, ns, u1, u2, u3, u4, u5⟩ := q.2.2.2.2.2.2.2.2.2.2.2.2.2
      have u3' : Sr.1 109 (66 + 11 * p + 10) = nI ns := u3
      rw [u3', ix_nI (by omega)]
      exact ⟨rfl, q.2.2.2.2.2.2.1.trans u3⟩
  obtain ⟨Sc', ec, c1, c2, c3, c4, c5, c6, c7, c8, c9, c10⟩ := dayC (T := 50 * yr + dn) (hrs := hrs) (f := f2) (fr := frt (Sr.1 109)) (ns := fun p => ix (Sr.1 109 (66 + 11 * p + 10))) hA hC hW hF (by omega) q7 q15 (q11.trans q12) hh (fun s hs => by rw [f2e s (by omega)]; exact ⟨((hf s (by omega)).1 hs).1, ((hf s (by omega)).1 hs).2.1⟩) hfar2 hz2 hfb2 (fun p q hp hq => (hfr p q hp hq).2.1) hfb (fun p hp ht => (hns p hp ht).2)
  obtain ⟨Sr', er, r1, r2, r3, r4, r5, r6, r7, r8, r9, r10, r11, r12⟩ := dayR (hrs := hrs) (f := f2) (fr := frt (Sr.1 109)) (ns := fun p => ix (Sr.1 109 (66 + 11 * p + 10))) hA hw (by omega) hy q4 q12 hh (fun d hd => by
    rcases hF d hd with w | w
    · exact Or.inl ⟨w.1, w.2.2.2.1, w.2.2.2.2⟩
    · exact Or.inr w.1) (fun s hs => by rw [f2e s hs]; exact (hf s hs).2.1) hfar2 hz2 hfb2 (fun p q hp hq => (hfr p q hp hq).1) hfb (fun p hp ht => (hns p hp ht).1)
  have k66 : ∀ k, k < 66 → Sr'.1 109 k = Sr.1 109 k := fun k hk => r3 k (by omega)
  refine ⟨Sc', Sr', ec, er, ?_, ?_, r11, r12, fun i hi => c1 i (by omega), c2, r1, r2, k66, r6, r3 783 (by omega), r3 784 (by omega)⟩
  · refine ⟨?_, ⟨tk, fun s hs => ?_⟩, ⟨dF (Sr.1 109) (warmF Sr) dn (frt (Sr.1 109)) f2 cnt hrs, fun s hs => ?_, ?_⟩, fun p hp => ?_, ?_, ?_, fun k hk => ?_⟩
    · show HeadD cnt yr (dn + 1) (Sc'.1 1) (Sr'.1 109)
      unfold HeadD
      rw [r5, c3 1, c3 3, c3 4, c3 5, c3 9, c3 10, c3 11, r3 782 (by omega), r3 783 (by omega), r3 784 (by omega), r3 786 (by omega), r3 787 (by omega)]
      exact ⟨q1, by omega, q3, q4, q5, q6, rfl, rfl, q9, q10, q11, ⟨hrs, hh, q12⟩, q13, q14, by show nI ((50 * yr + dn + 1) % 60) = _; congr 1⟩
    · show SortRel cnt s (Sc'.1 (1 + (7 + 2 * s))) (Sr'.1 109) (tk s)
      rw [e8]
      obtain ⟨w1, w2, w3⟩ := (hS s hs).cong (A' := Sr'.1 109) hs k66
      refine ⟨fun hlt => ?_, w2, w3⟩
      obtain ⟨y1, y2, y3, y4, y5, y6, bb, y7, y8, y9⟩ := w1 hlt
      exact ⟨fun k hk => by rw [c5 s k hs (by omega)]; exact y1 k hk, y2, y3, y4, y5, y6, bb, y7, by rw [c5 s 5 hs (by omega)]; exact y8, y9⟩
    · show StoreRel cnt (50 * yr + (dn + 1)) s (Sc'.1 (1 + (7 + 2 * s))) (Sc'.1 (1 + (8 + 2 * s))) (Sr'.1 109) _
      rw [e8, e9]
      have s60 : splF (Sr.1 109) f2 cnt s 60 = 0 := spl_far hA hfar2 hz2 s 60 (fun hs' => (kpA_eq hA hs').2.1)
      refine ⟨fun hlt => ⟨fun a a1 a2 => (c9 s hlt).2 a a1 a2, ?_, fun a x ex x60 xa => ?_⟩, fun a a1 a2 => r9 s hs a a1 a2, fun hge a => ?_⟩
      · rw [dF_sum hA _ _ _ _ _ _ s60]; exact (c9 s hlt).1
      · rw [k66 _ (by omega)] at ex
        have hkx : kpA (Sr.1 109) s = x := by unfold kpA; rw [ex, ix_nI (by omega)]
        have hk1 := (kpA_eq hA hlt).1
        unfold dF
        rw [if_neg (by omega)]
        exact spl_far hA hfar2 hz2 s (a - 1) (fun _ => by omega)
      · unfold dF
        by_cases ea : a = 1
        · rw [if_pos ea]; exact (dSF_inv hA _ _ _ _ _).2.2.2.2 s hge
        · rw [if_neg ea]; exact spl_far hA hfar2 hz2 s (a - 1) (fun q => by omega)
    · have hinv := dSF_inv hA (warmF Sr) dn (frt (Sr.1 109)) f2 hrs
      have hbs := dBs_le (Sr.1 109) f2 cnt hfb2
      rw [fb_sum_cong (g := fun s => dBs (Sr.1 109) f2 cnt s + (dSF (Sr.1 109) (warmF Sr) dn (frt (Sr.1 109)) f2 cnt hrs).2.2.1 s) (fun s hs => dF_sum hA _ _ _ _ _ _ (spl_far hA hfar2 hz2 s 60 (fun hs' => (kpA_eq hA hs').2.1))), fb_plus, hinv.2.1]
      have := hinv.1
      omega
    · show PlaceRel cnt yr (dn + 1) (Sc'.1 (1 + (19 + 2 * p))) (Sc'.1 (1 + (20 + 2 * p))) (fun k => Sr'.1 109 (66 + 11 * p + k))
      rw [e20, e21]
      have hOld := hP p hp
      have aF : ∀ q, q < 2 → Sr'.1 109 (66 + 11 * p + (8 + q)) = nI (dFr (Sr.1 109) (warmF Sr) dn (frt (Sr.1 109)) f2 cnt hrs (2 * p + q)) ∧ Sc'.1 (21 + 2 * p) q = nI (dFr (Sr.1 109) (warmF Sr) dn (frt (Sr.1 109)) f2 cnt hrs (2 * p + q)) := fun q hq => ⟨r8 p q hp hq, c8 p q hp hq⟩
      have a8 : Sr'.1 109 (66 + 11 * p + 8) = nI (dFr (Sr.1 109) (warmF Sr) dn (frt (Sr.1 109)) f2 cnt hrs (2 * p)) := (aF 0 (by decide)).1
      have a9 : Sr'.1 109 (66 + 11 * p + 9) = nI (dFr (Sr.1 109) (warmF Sr) dn (frt (Sr.1 109)) f2 cnt hrs (2 * p + 1)) := (aF 1 (by decide)).1
      have b8 : Sc'.1 (21 + 2 * p) 0 = nI (dFr (Sr.1 109) (warmF Sr) dn (frt (Sr.1 109)) f2 cnt hrs (2 * p)) := (aF 0 (by decide)).2
      have b9 : Sc'.1 (21 + 2 * p) 1 = nI (dFr (Sr.1 109) (warmF Sr) dn (frt (Sr.1 109)) f2 cnt hrs (2 * p + 1)) := (aF 1 (by decide)).2
      have hl0 := dFr_le hA (warmF Sr) dn (frt (Sr.1 109)) f2 hrs (k := 2 * p) (by omega)
      have hl1 := dFr_le hA (warmF Sr) dn (frt (Sr.1 109)) f2 hrs (k := 2 * p + 1) (by omega)
      have hs0 := setA_le hA (warmF Sr) (day := dn) (k := 2 * p) (by omega)
      have hs1 := setA_le hA (warmF Sr) (day := dn) (k := 2 * p + 1) (by omega)
      have fr0 : Sr.1 109 (66 + 11 * p + 8) = nI (frt (Sr.1 109) (2 * p)) := (hfr p 0 hp (by decide)).1
      have fr1 : Sr.1 109 (66 + 11 * p + 9) = nI (frt (Sr.1 109) (2 * p + 1)) := (hfr p 1 hp (by decide)).1
      have fb0 := (hfr p 0 hp (by decide)).2.2
      have fb1 := (hfr p 1 hp (by decide)).2.2
      obtain ⟨w1, w2, w3, w4, w5, w6, w7, w8⟩ := hOld
      unfold PlaceRel
      simp only [a8, a9, b8, b9, r6 p 0 hp (by decide), r6 p 1 hp (by decide), r6 p 2 hp (by decide), r6 p 3 hp (by decide), r6 p 4 hp (by decide), r6 p 5 hp (by decide), r6 p 6 hp (by decide), r6 p 7 hp (by decide), c6 p 0 hp (by decide), c6 p 1 hp (by decide), c6 p 2 hp (by decide), c6 p 3 hp (by decide), c6 p 4 hp (by decide), c6 p 5 hp (by decide), c6 p 6 hp (by decide), c6 p 7 hp (by decide), c6 p 8 hp (by decide)]
      refine ⟨w1, w2, w3, w4, w5, trivial, trivial, ?_⟩
      have none0 : isPt (Sr.1 109 (66 + 11 * p + 2)) 0 = false → dFr (Sr.1 109) (warmF Sr) dn (frt (Sr.1 109)) f2 cnt hrs (2 * p) = frt (Sr.1 109) (2 * p) := fun q => (dFr_none hA (warmF Sr) dn (frt (Sr.1 109)) f2 hrs (k := 2 * p) (by rw [show 2 * p = 2 * p + 0 from rfl, ptA_at (by decide)]; exact q)).1
      have none1 : isPt (Sr.1 109 (66 + 11 * p + 2)) 1 = false → dFr (Sr.1 109) (warmF Sr) dn (frt (Sr.1 109)) f2 cnt hrs (2 * p + 1) = frt (Sr.1 109) (2 * p + 1) := fun q => (dFr_none hA (warmF Sr) dn (frt (Sr.1 109)) f2 hrs (k := 2 * p + 1) (by rw [ptA_at (by decide)]; exact q)).1
      rcases w8 with q | q | q
      · have k0 : Sr.1 109 (66 + 11 * p + 2) = 0 := q.1
        have z8 : Sr.1 109 (66 + 11 * p + 8) = 0 := q.2.1
        have z9 : Sr.1 109 (66 + 11 * p + 9) = 0 := q.2.2
        refine Or.inl ⟨k0, ?_, ?_⟩
        · rw [none0 (by rw [k0]; rfl), ← fr0]; exact z8
        · rw [none1 (by rw [k0]; rfl), ← fr1]; exact z9
      · have k5 : Sr.1 109 (66 + 11 * p + 2) = 5 := q.1
        have z8 : Sr.1 109 (66 + 11 * p + 8) = 0 := q.2.1
        have z9 : Sr.1 109 (66 + 11 * p + 9) = 0 := q.2.2.1
        refine Or.inr (Or.inl ⟨k5, ?_, ?_, q.2.2.2⟩)
        · rw [none0 (by rw [k5]; rfl), ← fr0]; exact z8
        · rw [none1 (by rw [k5]; rfl), ← fr1]; exact z9
      · obtain ⟨t1, t2, t3, t4, t5, t6, t7, t8, t9, t10, t11, t12, t13, f0, f1, ns, u1, u2, u3, u4, u5⟩ := q
        have u1' : Sr.1 109 (66 + 11 * p + 8) = nI f0 := u1
        have u2' : Sr.1 109 (66 + 11 * p + 9) = nI f1 := u2
        have u3' : Sr.1 109 (66 + 11 * p + 10) = nI ns := u3
        have x0 : frt (Sr.1 109) (2 * p) = f0 := (nI_eq (Nat.lt_of_le_of_lt fb0 (by decide)) (by omega)).mp (fr0.symm.trans u1')
        have x1 : frt (Sr.1 109) (2 * p + 1) = f1 := (nI_eq (Nat.lt_of_le_of_lt fb1 (by decide)) (by omega)).mp (fr1.symm.trans u2')
        have xn : ix (Sr.1 109 (66 + 11 * p + 10)) = ns := by rw [u3', ix_nI (by omega)]
        have n9 := c7 p hp t1
        have n10 := r7 p hp t1
        simp only [xn] at n9 n10
        refine Or.inr (Or.inr ⟨t1, t2, t3, t4, t5, t6, n9.trans n10.symm, t8, t9, fun k2 => ?_, t11, t12, t13, _, _, ns + (setA (Sr.1 109) (warmF Sr) dn (2 * p) + setA (Sr.1 109) (warmF Sr) dn (2 * p + 1)), rfl, rfl, n10, ?_, ?_⟩)
        · refine ⟨(t10 k2).1, ?_⟩
          have z9 : Sr.1 109 (66 + 11 * p + 9) = 0 := (t10 k2).2
          rw [none1 (by rw [isPt_1]; simpa using k2), ← fr1]; exact z9
        · omega
        · omega
    · show FrostRel (Sc'.1 5) (Sc'.1 6) (Sr'.1 109)
      rw [c1 5 (by omega), c1 6 (by omega)]
      exact hF.cong (fun k a b => r3 k (by omega))
    · show WarmRel (dn + 1) (Sc'.1 4) (Sr'.1 109)
      intro d hd
      rw [c4]
      by_cases e : d = dn
      · subst e
        rw [if_pos rfl, r4]
        exact ⟨rfl, _, warmF_le hw (by omega), rfl⟩
      · rw [if_neg e, r3 _ (by omega)]
        exact hWm d (by omega)
    · show Sc'.2 7 k = Sr'.2 111 k
      rw [c10 k, r10 k, hTt k hk]
  · rw [r12]
    exact (hW.cong (U := Sc') (fun i a b => c1 i (by omega))).congA q1 k66
