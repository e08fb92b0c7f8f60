-- a day, told by numbers
def dBs (A : Nat → Int32) (f : Nat → Nat → Nat) (cnt s : Nat) : Nat := fb_sum (fun a => splF A f cnt s (a + 1)) 60
def dS0 (A : Nat → Int32) (W : Nat → Nat) (dn : Nat) (fr : Nat → Nat) (f : Nat → Nat → Nat) (cnt hrs : Nat) : PS := (min hrs (1000 - fb_sum (dBs A f cnt) 6), fun k => fr k + setA A W dn k, fun _ => 0, 0)
def dSF (A : Nat → Int32) (W : Nat → Nat) (dn : Nat) (fr : Nat → Nat) (f : Nat → Nat → Nat) (cnt hrs : Nat) : PS := itr (fun k => ripA A W k dn) (srtA A) 24 (dS0 A W dn fr f cnt hrs)
def dDr (A : Nat → Int32) (W : Nat → Nat) (dn : Nat) (fr : Nat → Nat) (f : Nat → Nat → Nat) (cnt hrs k : Nat) : Nat := drpF (fun k => ripA A W k dn) (dSF A W dn fr f cnt hrs).2.1 k
def dInc (A : Nat → Int32) (W : Nat → Nat) (dn : Nat) (fr : Nat → Nat) (f : Nat → Nat → Nat) (cnt hrs k : Nat) : Nat := if k = 0 then fb_sum (setA A W dn) 24 else if k = 2 then (dSF A W dn fr f cnt hrs).2.2.2 else if k = 3 then fb_sum (dDr A W dn fr f cnt hrs) 24 else if k = 7 then fb_sum (fun s => f s (kpA A s)) cnt else 0
def dF (A : Nat → Int32) (W : Nat → Nat) (dn : Nat) (fr : Nat → Nat) (f : Nat → Nat → Nat) (cnt hrs s a : Nat) : Nat := if a = 1 then (dSF A W dn fr f cnt hrs).2.2.1 s else splF A f cnt s (a - 1)
theorem spl_far {cnt yr : Nat} {A : Nat → Int32} {f : Nat → Nat → Nat} (h : OrA cnt yr A) (hfar : ∀ s, s < cnt → ∀ a, kpA A s < a → f s a = 0) (hz : ∀ s, cnt ≤ s → ∀ a, f s a = 0) (s a : Nat) (ha : s < cnt → kpA A s ≤ a) : splF A f cnt s a = 0 := by
  unfold splF
  by_cases c : s < cnt ∧ a = kpA A s
  · rw [if_pos c]
  · rw [if_neg c]
    rcases Nat.lt_or_ge s cnt with q | q
    · exact hfar s q a (by have := ha q; omega)
    · exact hz s q a
theorem spl_le (A : Nat → Int32) (f : Nat → Nat → Nat) (j s a : Nat) : splF A f j s a ≤ f s a := by
  unfold splF
  by_cases c : s < j ∧ a = kpA A s
  · rw [if_pos c]; omega
  · rw [if_neg c]; exact Nat.le_refl _
theorem dBs_le (A : Nat → Int32) (f : Nat → Nat → Nat) (cnt : Nat) (hb : fb_sum (fun s => fb_sum (fun a => f s (a + 1)) 60) 6 ≤ 1000) : fb_sum (dBs A f cnt) 6 ≤ 1000 := Nat.le_trans (fb_le (fun s _ => fb_le (fun a _ => spl_le A f cnt s (a + 1)))) hb
theorem dayC {cnt yr dn T hrs : Nat} {S : St} {A : Nat → Int32} {W : Nat → Nat} {f : Nat → Nat → Nat} {fr ns : Nat → Nat} (h : OrA cnt yr A) (hC : OrC cnt S A) (hW : SeaC cnt W A S) (hF : FrostRel (S.1 5) (S.1 6) A) (hd : dn < 50) (h5 : S.1 1 5 = nI dn) (h11 : S.1 1 11 = nI (T % 60)) (h9 : S.1 1 9 = nI hrs) (hh : hrs ≤ 1000) (hst : ∀ s, s < cnt → (∀ a, 1 ≤ a → a ≤ 60 → S.1 (9 + 2 * s) ((T + 60 - a) % 60) = nI (f s a)) ∧ S.1 (8 + 2 * s) 6 = nI (fb_sum (fun a => f s (a + 1)) 60)) (hfar : ∀ s, s < cnt → ∀ a, kpA A s < a → f s a = 0) (hz : ∀ s, cnt ≤ s → ∀ a, f s a = 0) (hb : fb_sum (fun s => fb_sum (fun a => f s (a + 1)) 60) 6 ≤ 1000) (hfr : ∀ p q, p < 12 → q < 2 → S.1 (21 + 2 * p) q = nI (fr (2 * p + q))) (hfb : ∀ k, k < 24 → fr k ≤ 30000) (hns : ∀ p, p < 12 → TrA A p → S.1 (20 + 2 * p) 9 = nI (ns p)) :
    ∃ S', f_X0_doDay S = some S' ∧ (∀ i, i = 0 ∨ i = 2 ∨ i = 3 ∨ i = 5 ∨ i = 6 ∨ 44 ≤ i → S'.1 i = S.1 i) ∧ (∀ i, i ≠ 7 → S'.2 i = S.2 i) ∧ (∀ k, S'.1 1 k = if k = 5 then nI (dn + 1) else if k = 11 then nI ((T + 1) % 60) else S.1 1 k) ∧ (∀ k, S'.1 4 k = if k = dn then nI (W dn) else S.1 4 k) ∧ (∀ s k, s < 6 → k < 6 → S'.1 (8 + 2 * s) k = S.1 (8 + 2 * s) k) ∧ (∀ p k, p < 12 → k ≠ 9 → S'.1 (20 + 2 * p) k = S.1 (20 + 2 * p) k) ∧ (∀ p, p < 12 → TrA A p → S'.1 (20 + 2 * p) 9 = nI (ns p + (setA A W dn (2 * p) + setA A W dn (2 * p + 1)))) ∧ (∀ p q, p < 12 → q < 2 → S'.1 (21 + 2 * p) q = nI ((dSF A W dn fr f cnt hrs).2.1 (2 * p + q) - dDr A W dn fr f cnt hrs (2 * p + q))) ∧ (∀ s, s < cnt → S'.1 (8 + 2 * s) 6 = nI (dBs A f cnt s + (dSF A W dn fr f cnt hrs).2.2.1 s) ∧ ∀ a, 1 ≤ a → a ≤ 60 → S'.1 (9 + 2 * s) ((T + 1 + 60 - a) % 60) = nI (dF A W dn fr f cnt hrs s a)) ∧ ∀ k, S'.2 7 k = S.2 7 k + lN (dInc A W dn fr f cnt hrs k) := by
  have hc := h.1
  have hbs6 := dBs_le A f cnt hb
  -- the warmth
  have f0 : FrC S (wr S 4 dn (nI (W dn))) ∨ True := Or.inr trivial
  have o1 : ∀ i, i ≠ 4 → (wr S 4 dn (nI (W dn))).1 i = S.1 i := fun i hi => by rw [wr1_ne hi]
  generalize hS1 : wr S 4 dn (nI (W dn)) = S1 at *
  have v4 : ∀ k, S1.1 4 k = if k = dn then nI (W dn) else S.1 4 k := fun k => by rw [← hS1, wr1_eq]
  have l1 : S1.2 = S.2 := by rw [← hS1]; rfl
  have hC1 : OrC cnt S1 A := hC.cong hc (fun k _ => by rw [o1 1 (by decide)]) (fun s k _ _ => by rw [o1 _ (by omega)]) (fun p k _ _ => by rw [o1 _ (by omega)])
  have hW1 : SeaC cnt W A S1 := hW.cong (fun i a b => o1 i (by omega))
  obtain ⟨S2, e2, g2, p2, t2, q2⟩ := spoilC (f := f) (T := T) h hC1 (by rw [o1 1 (by decide)]; exact h11) (fun s hs => by rw [o1 (9 + 2 * s) (by omega), o1 (8 + 2 * s) (by omega)]; exact hst s hs) (fun s hs => Nat.le_trans (fb_one (fun s => fb_sum (fun a => f s (a + 1)) 60) (by omega)) hb)
  have hC2 := g2.orC hC1 hc
  have hW2 := g2.sea hW1
  have hF2 : FrostRel (S2.1 5) (S2.1 6) A := by rw [g2.1 5 (by omega), g2.1 6 (by omega), o1 5 (by decide), o1 6 (by decide)]; exact hF
  obtain ⟨S3, e3, G3⟩ := setFruitsC (fr := fr) (ns := ns) h hC2 hW2 hF2 hd (fun p q hp hq => by rw [(p2 p q hp).2, o1 _ (by omega)]; exact hfr p q hp hq) (fun p hp ht => by rw [(p2 p 9 hp).1, o1 _ (by omega)]; exact hns p hp ht)
  obtain ⟨g3, s3, w3, n3, q3⟩ := G3
  have hC3 := g3.orC hC2 hc
  have hW3 := g3.sea hW2
  have c1 : ∀ k, S3.1 1 k = S.1 1 k := fun k => by rw [g3.1 1 (by omega), g2.1 1 (by omega), o1 1 (by decide)]
  -- what is in the store now
  have bsz : ∀ s, cnt ≤ s → dBs A f cnt s = 0 := fun s hs => fb_sum_zero (fun a _ => spl_far h hfar hz s (a + 1) (fun q => by omega))
  have est : f_X0_fruitsInStore S3 = some (nI (fb_sum (dBs A f cnt) 6)) := by
    have hcn : rd S3 1 1 = nI cnt := hC3.1
    have := loop_up (N := cnt) (fun n i (v : Int32) => f_X0_fruitsInStore_L4 n (fun e30_1 => some e30_1) v i S3) (fun v => some v) (fun j v => v = nI (fb_sum (dBs A f cnt) j)) (fun n j v hj hP => by
      refine ⟨_, rfl, ?_⟩
      have h1 : (nI j < nI cnt) = True := ltT hj (by omega)
      have hin : inb (nI j) 6 = true := inb_nI (by omega) (by decide)
      have hix : ix (nI j) = j := ix_nI (by omega)
      have h2 : rd S3 (8 + 2 * j) 6 = nI (dBs A f cnt j) := by
        show S3.1 (8 + 2 * j) 6 = _
        rw [(s3 j 6 (by omega)).1]; exact (t2 j hj).2
      simp only [f_X0_fruitsInStore_L4, hcn, h1, hin, hix, h2, nI_1, if_true, hP, nI_add, fb_sum]) (fun n v hP => by
      have h1 : (nI cnt < nI cnt) = False := ltF (Nat.le_refl _) (by omega)
      simp only [f_X0_fruitsInStore_L4, hcn, h1, if_false]) (fuel := 6000) (T := 0) (by omega) rfl
    rw [nI_0] at this
    obtain ⟨v, hv, e⟩ := this
    subst hv
    have e2 := fb_split (dBs A f cnt) cnt (6 - cnt) (fun k a b => bsz k a)
    rw [show cnt + (6 - cnt) = 6 from by omega] at e2
    rw [e2]; exact e
  have h11' : S3.1 1 11 = nI (T % 60) := by rw [c1]; exact h11
  have hs0 : dS0 A W dn fr f cnt hrs = (min hrs (1000 - fb_sum (dBs A f cnt) 6), fun k => fr k + setA A W dn k, fun _ => 0, 0) := rfl
  have hfb1 : ∀ k, k < 24 → (dS0 A W dn fr f cnt hrs).2.1 k ≤ 40000 := fun k hk => by
    show fr k + setA A W dn k ≤ 40000
    have := setA_le h W (day := dn) hk
    have := hfb k hk
    omega
  obtain ⟨S4, e4, P4⟩ := pickLoopC (T := T) (bs := dBs A f cnt) h hC3 hW3 hd h11' (dS0 A W dn fr f cnt hrs) (by rw [hs0]; show min hrs _ ≤ 1000; omega) hfb1 ⟨fun _ _ => rfl, fun _ _ _ _ => rfl, fun _ _ => rfl, fun p q hp hq => by
      rw [w3 p q hp hq, if_pos (by omega)]; rfl, fun x hx => ⟨by rw [(s3 x 6 (by omega)).1]; exact (t2 x hx).2, fun k hk => by
      by_cases e : k = T % 60
      · rw [if_pos e, (s3 x k (by omega)).2]
        have := (t2 x hx).1 60 (by omega) (by omega)
        rw [show (T + 60 - 60) % 60 = k from by omega, spl_far h hfar hz x 60 (fun _ => (kpA_eq h hx).2.1)] at this
        exact this
      · rw [if_neg e]⟩, fun k => by
      by_cases e : k = 2
      · rw [if_pos e, e]; exact (l_zero _).symm
      · rw [if_neg e]⟩
  have P4' : PkC cnt T S3 (dBs A f cnt) (dSF A W dn fr f cnt hrs) S4 := P4
  generalize hsF : dSF A W dn fr f cnt hrs = sF at *
  have srtOf : ∀ k, k < 24 → ripA A W k dn = true → srtA A k < cnt := fun k hk hr => by
    have hpt : ptA A k = true := by unfold ripA at hr; simp only [Bool.and_eq_true] at hr; exact hr.1
    exact (h.srtK hk hpt).1
  have PI : PkI cnt (min hrs (1000 - fb_sum (dBs A f cnt) 6)) (fun k => ripA A W k dn) (fun k => fr k + setA A W dn k) sF := by
    rw [← hsF]
    exact PkI.run hc srtOf 24 ⟨Nat.zero_add _, fb_sum_zero (fun _ _ => rfl), fun _ _ => Nat.le_refl _, fun _ _ => rfl, fun _ _ => rfl⟩
  have hfb4 : ∀ k, k < 24 → sF.2.1 k ≤ 40000 := fun k hk => Nat.le_trans (PI.2.2.1 k hk) (hfb1 k hk)
  have hC4 := P4'.frC.orC hC3 hc
  have hW4 := P4'.frC.sea hW3
  obtain ⟨S5, e5, D5⟩ := dropC (fr := sF.2.1) h hC4 hW4 hd P4'.2.2.2.1 hfb4
  have edr : drpF (fun k => ripA A W k dn) sF.2.1 = dDr A W dn fr f cnt hrs := by
    funext k; unfold dDr; rw [hsF]
  rw [edr] at D5
  obtain ⟨d1, d2, d3, d4⟩ := D5
  have c5 : ∀ k, S5.1 1 k = S.1 1 k := fun k => by rw [d1 1 (by omega), P4'.1 1 (by omega), c1]
  have e11 : (rd S5 1 11 + 1) - (rd S5 1 11 + 1) / 60 * 60 = nI ((T + 1) % 60) := by
    have : rd S5 1 11 = nI (T % 60) := by show S5.1 1 11 = _; rw [c5]; exact h11
    rw [this, nI_1, show (60 : Int32) = nI 60 from rfl, pk_rem (by omega) (by decide) (by decide)]
    congr 1; omega
  refine ⟨wr (wr S5 1 11 (nI ((T + 1) % 60))) 1 5 (nI (dn + 1)), ?_, fun i hi => ?_, fun i hi => ?_, fun k => ?_, fun k => ?_, fun s k hs hk => ?_, fun p k hp hk => ?_, fun p hp ht => ?_, fun p q hp hq => ?_, fun s hs => ⟨?_, fun a a1 a2 => ?_⟩, fun k => ?_⟩
  · have hdl : (nI dn < (50 : Int32)) = True := ltT (N := 50) hd (by decide)
    have hin : inb (nI dn) 50 = true := inb_nI hd (by decide)
    have hix : ix (nI dn) = dn := ix_nI (by omega)
    have h5' : rd S 1 5 = nI dn := h5
    have h97 : rd S 97 dn = nI (W dn) := hW.2.1 dn hd
    have h9' : rd S3 1 9 = nI hrs := by show S3.1 1 9 = _; rw [c1]; exact h9
    have em : mnI (nI hrs) ((1000 : Int32) - nI (fb_sum (dBs A f cnt) 6)) = nI (dS0 A W dn fr f cnt hrs).1 := by
      rw [show (1000 : Int32) = nI 1000 from rfl, pk_sub hbs6, mn_nat (by omega) (by omega)]; rfl
    have e4' : f_X0_pickFruits (nI dn) S3 = some S4 := by
      unfold f_X0_pickFruits
      rw [est, Option.bind_some, h9', em]
      exact e4
    simp only [f_X0_doDay, h5', hdl, hin, hix, if_true, h97, hS1, e2, Option.bind_some, e3, e4', e5, e11, nI_1]
  · rw [wr1_ne (by omega), wr1_ne (by omega), d1 i (by omega), P4'.1 i (by omega), g3.1 i (by omega), g2.1 i (by omega), o1 i (by omega)]
  · show S5.2 i = _
    rw [d2 i hi, P4'.2.2.1 i hi, g3.2.2.2 i hi, g2.2.2.2 i hi, l1]
  · rw [wr1_eq, wr1_eq, c5]
  · rw [wr1_ne (by decide), wr1_ne (by decide), d1 4 (by omega), P4'.1 4 (by omega), g3.1 4 (by omega), g2.1 4 (by omega), v4]
  · rw [wr1_ne (by omega), wr1_ne (by omega), d1 _ (by omega), P4'.2.1 s k hs hk, g3.2.1 s k hs hk, g2.2.1 s k hs hk, o1 _ (by omega)]
  · rw [wr1_ne (by omega), wr1_ne (by omega), d1 _ (by omega), P4'.1 _ (by omega), g3.2.2.1 p k hp hk, g2.2.2.1 p k hp hk, o1 _ (by omega)]
  · rw [wr1_ne (by omega), wr1_ne (by omega), d1 _ (by omega), P4'.1 _ (by omega), n3 p hp ht, if_pos (by omega), if_pos (by omega)]
  · rw [wr1_ne (by omega), wr1_ne (by omega), d3 p q hp hq, if_pos (by omega)]
  · rw [wr1_ne (by omega), wr1_ne (by omega), d1 _ (by omega), (P4'.2.2.2.2.1 s hs).1]
  · rw [wr1_ne (by omega), wr1_ne (by omega), d1 _ (by omega), (P4'.2.2.2.2.1 s hs).2 _ (Nat.mod_lt _ (by decide))]
    unfold dF
    rw [hsF]
    by_cases ea : a = 1
    · rw [if_pos (by omega), if_pos ea]
    · rw [if_neg (by omega), if_neg ea, (s3 s _ (by omega)).2]
      have := (t2 s hs).1 (a - 1) (by omega) (by omega)
      rw [show (T + 60 - (a - 1)) % 60 = (T + 1 + 60 - a) % 60 from by omega] at this
      exact this
  · show S5.2 7 k = _
    rw [d4 k]
    unfold dInc
    rw [hsF]
    by_cases k3 : k = 3
    · rw [if_pos k3, if_neg (by omega), if_neg (by omega), if_pos k3, P4'.2.2.2.2.2 3, if_neg (by decide), q3 3, if_neg (by decide), q2 3, if_neg (by decide), l1, k3]
    · rw [if_neg k3, P4'.2.2.2.2.2 k]
      by_cases k2 : k = 2
      · rw [if_pos k2, if_neg (by omega), if_pos k2, q3 2, if_neg (by decide), q2 2, if_neg (by decide), l1, k2]
      · rw [if_neg k2, q3 k]
        by_cases k0 : k = 0
        · rw [if_pos k0, if_pos k0, q2 0, if_neg (by decide), l1, k0]
        · rw [if_neg k0, if_neg k0, if_neg k2, if_neg k3, q2 k]
          by_cases k7 : k = 7
          · rw [if_pos k7, if_pos k7, l1, k7]
          · rw [if_neg k7, if_neg k7, l1, l_zero]
