-- a day: what changes in it
theorem fb_zero_at (f : Nat → Nat) {j : Nat} : ∀ {n : Nat}, j < n → fb_sum f n = f j + fb_sum (fun k => if k = j then 0 else f k) n
  | 0, h => by omega
  | n + 1, h => by
    rw [fb_sum, fb_sum]
    by_cases e : j = n
    · subst e
      rw [if_pos rfl, fb_sum_cong (g := f) (fun k hk => if_neg (by omega))]
      omega
    · rw [if_neg (fun q => e q.symm), fb_zero_at f (j := j) (n := n) (by omega)]
      omega
theorem fb_add_at (f : Nat → Nat) (v : Nat) {j : Nat} : ∀ {n : Nat}, j < n → fb_sum (fun k => if k = j then f k + v else f k) n = fb_sum f n + v
  | 0, h => by omega
  | n + 1, h => by
    rw [fb_sum, fb_sum]
    by_cases e : j = n
    · subst e
      rw [if_pos rfl, fb_sum_cong (g := f) (fun k hk => if_neg (by omega))]
      omega
    · rw [if_neg (fun q => e q.symm), fb_add_at f v (j := j) (n := n) (by omega)]
      omega
theorem l_assoc (a b c : Int64) : a + b + c = a + (b + c) := Int64.add_assoc a b c
theorem l_zero (a : Int64) : a + lN 0 = a := by
  show a + 0 = a
  exact Int64.add_zero a
/-- the class's cells within a day -/
def FrC (S0 S : St) : Prop := (∀ i, i < 8 ∨ 44 ≤ i → S.1 i = S0.1 i) ∧ (∀ s k, s < 6 → k < 6 → S.1 (8 + 2 * s) k = S0.1 (8 + 2 * s) k) ∧ (∀ p k, p < 12 → k ≠ 9 → S.1 (20 + 2 * p) k = S0.1 (20 + 2 * p) k) ∧ ∀ i, i ≠ 7 → S.2 i = S0.2 i
theorem FrC.refl (S : St) : FrC S S := ⟨fun _ _ => rfl, fun _ _ _ _ => rfl, fun _ _ _ _ => rfl, fun _ _ => rfl⟩
theorem FrC.trans {A B C : St} (h : FrC A B) (g : FrC B C) : FrC A C := ⟨fun i hi => (g.1 i hi).trans (h.1 i hi), fun s k a b => (g.2.1 s k a b).trans (h.2.1 s k a b), fun p k a b => (g.2.2.1 p k a b).trans (h.2.2.1 p k a b), fun i hi => (g.2.2.2 i hi).trans (h.2.2.2 i hi)⟩
theorem FrC.orC {cnt : Nat} {A : Nat → Int32} {S0 S : St} (h : FrC S0 S) (hC : OrC cnt S0 A) (hc : cnt ≤ 6) : OrC cnt S A := hC.cong hc (fun k _ => by rw [h.1 1 (by omega)]) (fun s k a b => h.2.1 s k a b) (fun p k a b => h.2.2.1 p k a (by omega))
theorem FrC.sea {cnt : Nat} {W : Nat → Nat} {A : Nat → Int32} {S0 S : St} (h : FrC S0 S) (hW : SeaC cnt W A S0) : SeaC cnt W A S := hW.cong (fun i a b => h.1 i (by omega))
/-- the reference's cells within a day -/
def FrR (S0 S : St) : Prop := (∀ i, i ≠ 109 → i ≠ 118 → i ≠ 119 → i ≠ 120 → S.1 i = S0.1 i) ∧ (∀ k, k < 66 ∨ 582 ≤ k → S.1 109 k = S0.1 109 k) ∧ (∀ p k, p < 12 → k < 8 → S.1 109 (66 + 11 * p + k) = S0.1 109 (66 + 11 * p + k)) ∧ ∀ i, i ≠ 111 → S.2 i = S0.2 i
theorem FrR.refl (S : St) : FrR S S := ⟨fun _ _ _ _ _ => rfl, fun _ _ => rfl, fun _ _ _ _ => rfl, fun _ _ => rfl⟩
theorem FrR.trans {A B C : St} (h : FrR A B) (g : FrR B C) : FrR A C := ⟨fun i a b c d => (g.1 i a b c d).trans (h.1 i a b c d), fun k hk => (g.2.1 k hk).trans (h.2.1 k hk), fun p k a b => (g.2.2.1 p k a b).trans (h.2.2.1 p k a b), fun i hi => (g.2.2.2 i hi).trans (h.2.2.2 i hi)⟩
theorem FrR.orA {cnt yr : Nat} {S0 S : St} (h : FrR S0 S) (hA : OrA cnt yr (S0.1 109)) : OrA cnt yr (S.1 109) := hA.cong (fun k hk => h.2.1 k (by omega)) (fun p k a b => h.2.2.1 p k a b) (h.2.1 783 (by omega)) (h.2.1 784 (by omega))
theorem RefW.cong' {dn : Nat} {S U : St} (h : RefW dn S) (e : ∀ k, 732 ≤ k → U.1 109 k = S.1 109 k) (e4 : U.1 114 = S.1 114) : RefW dn U := by
  obtain ⟨h1, h2, h3, h4, h5⟩ := h
  exact ⟨h1, by rw [e 785 (by omega)]; exact h2, fun d hd => by rw [e _ (by omega)]; exact h3 d hd, by rw [e 786 (by omega)]; exact h4, by rw [e4]; exact h5⟩
theorem FrR.refW {dn : Nat} {S0 S : St} (h : FrR S0 S) (hW : RefW dn S0) : RefW dn S := hW.cong' (fun k hk => h.2.1 k (by omega)) (h.1 114 (by decide) (by decide) (by decide) (by decide))
theorem warmF_cong' {S U : St} (e : ∀ k, 732 ≤ k → U.1 109 k = S.1 109 k) (e2 : ∀ i, 113 ≤ i → i ≤ 115 → U.1 i = S.1 i) (d : Nat) : warmF U d = warmF S d := by
  unfold warmF
  rw [e 785 (by omega), e (732 + d) (by omega), standF_cong e2 (e 786 (by omega))]
theorem FrR.warm {S0 S : St} (h : FrR S0 S) : warmF S = warmF S0 := funext (fun d => warmF_cong' (fun k hk => h.2.1 k (by omega)) (fun i a b => h.1 i (by omega) (by omega) (by omega) (by omega)) d)
/-- what spoils: fruits of the keeping's age -/
def kpA (A : Nat → Int32) (s : Nat) : Nat := ix (A (5 * s + 3))
def splF (A : Nat → Int32) (f : Nat → Nat → Nat) (j s a : Nat) : Nat := if s < j ∧ a = kpA A s then 0 else f s a
theorem kpA_eq {cnt yr : Nat} {A : Nat → Int32} (h : OrA cnt yr A) {s : Nat} (hs : s < cnt) : 1 ≤ kpA A s ∧ kpA A s ≤ 60 ∧ A (5 * s + 3) = nI (kpA A s) := by
  obtain ⟨x, x1, x2, ex⟩ := (h.2.2.2.2.1 s hs).2.2.2.1
  unfold kpA
  rw [ex, ix_nI (by omega)]
  exact ⟨x1, x2, rfl⟩
theorem spoilC {cnt yr T : Nat} {A : Nat → Int32} {S : St} {f : Nat → Nat → Nat} (h : OrA cnt yr A) (hC : OrC cnt S A) (hsl : S.1 1 11 = nI (T % 60)) (hst : ∀ s, s < cnt → (∀ a, 1 ≤ a → a ≤ 60 → S.1 (9 + 2 * s) ((T + 60 - a) % 60) = nI (f s a)) ∧ S.1 (8 + 2 * s) 6 = nI (fb_sum (fun a => f s (a + 1)) 60)) (hb : ∀ s, s < cnt → fb_sum (fun a => f s (a + 1)) 60 ≤ 1000) :
    ∃ S', f_X0_spoilStore S = some S' ∧ FrC S S' ∧ (∀ p k, p < 12 → S'.1 (20 + 2 * p) k = S.1 (20 + 2 * p) k ∧ S'.1 (21 + 2 * p) k = S.1 (21 + 2 * p) k) ∧ (∀ s, s < cnt → (∀ a, 1 ≤ a → a ≤ 60 → S'.1 (9 + 2 * s) ((T + 60 - a) % 60) = nI (splF A f cnt s a)) ∧ S'.1 (8 + 2 * s) 6 = nI (fb_sum (fun a => splF A f cnt s (a + 1)) 60)) ∧ (∀ k, S'.2 7 k = if k = 7 then S.2 7 7 + lN (fb_sum (fun s => f s (kpA A s)) cnt) else S.2 7 k) := by
  have hc := h.1
  have := loop_up (N := cnt) (fun n i U => f_X0_spoilStore_L2 n (fun T40 => (some T40)) i U) (fun U => some U) (fun j U => FrC S U ∧ (∀ p k, p < 12 → U.1 (20 + 2 * p) k = S.1 (20 + 2 * p) k ∧ U.1 (21 + 2 * p) k = S.1 (21 + 2 * p) k) ∧ (∀ s, s < cnt → (∀ a, 1 ≤ a → a ≤ 60 → U.1 (9 + 2 * s) ((T + 60 - a) % 60) = nI (splF A f j s a)) ∧ U.1 (8 + 2 * s) 6 = nI (fb_sum (fun a => splF A f j s (a + 1)) 60)) ∧ (∀ k, U.2 7 k = if k = 7 then S.2 7 7 + lN (fb_sum (fun s => f s (kpA A s)) j) else S.2 7 k)) (fun n j U hj hP => by
    obtain ⟨p1, p2, p3, p4⟩ := hP
    obtain ⟨k1, k2, k3⟩ := kpA_eq h hj
    have h1 : (nI j < nI cnt) = True := ltT hj (by omega)
    have hcn : rd U 1 1 = nI cnt := by show U.1 1 1 = _; rw [p1.1 1 (by omega)]; exact hC.1
    have hin : inb (nI j) 6 = true := inb_nI (by omega) (by decide)
    have hix : ix (nI j) = j := ix_nI (by omega)
    have hslU : rd U 1 11 = nI (T % 60) := by show U.1 1 11 = _; rw [p1.1 1 (by omega)]; exact hsl
    have hkp : rd U (8 + 2 * j) 3 = nI (kpA A j) := by show U.1 (8 + 2 * j) 3 = _; rw [p1.2.1 j 3 (by omega) (by omega), (hC.2.2.2.1 j hj).1 3 (by decide), k3]
    have c3 : fmI (nI (T % 60) - nI (kpA A j)) 60 = nI ((T + 60 - kpA A j) % 60) := by
      rw [fm_v (T % 60) (Nat.mod_lt _ (by decide)) (kpA A j) (by omega)]; congr 1; omega
    have c4 : inb (nI ((T + 60 - kpA A j) % 60)) 60 = true := inb_nI (Nat.mod_lt _ (by decide)) (by decide)
    have c5 : ix (nI ((T + 60 - kpA A j) % 60)) = (T + 60 - kpA A j) % 60 := ix_nI (by omega)
    have e9 : 8 + 2 * j + 1 = 9 + 2 * j := by omega
    have hsp : splF A f j j = f j := funext (fun a => if_neg (by omega))
    have c6 : rd U (9 + 2 * j) ((T + 60 - kpA A j) % 60) = nI (f j (kpA A j)) := by
      have := (p3 j hj).1 (kpA A j) k1 k2
      rw [hsp] at this; exact this
    have c7 : ∀ v, rd (wr U (9 + 2 * j) ((T + 60 - kpA A j) % 60) v) (8 + 2 * j) 6 = nI (fb_sum (fun a => f j (a + 1)) 60) := fun v => by
      show (wr U (9 + 2 * j) ((T + 60 - kpA A j) % 60) v).1 (8 + 2 * j) 6 = _
      rw [wr1_ne (by omega)]
      have := (p3 j hj).2
      rw [hsp] at this; exact this
    have hz := fb_zero_at (fun a => f j (a + 1)) (j := kpA A j - 1) (n := 60) (by omega)
    simp only [show kpA A j - 1 + 1 = kpA A j from by omega] at hz
    have hbj := hb j hj
    have c8 : nI (fb_sum (fun a => f j (a + 1)) 60) - nI (f j (kpA A j)) = nI (fb_sum (fun a => splF A f (j + 1) j (a + 1)) 60) := by
      rw [pk_sub (by omega)]
      congr 1
      have : fb_sum (fun k => if k = kpA A j - 1 then 0 else f j (k + 1)) 60 = fb_sum (fun a => splF A f (j + 1) j (a + 1)) 60 := fb_sum_cong (fun k hk => by
        unfold splF
        by_cases e : k = kpA A j - 1
        · rw [if_pos e, if_pos ⟨by omega, by omega⟩]
        · rw [if_neg e, if_neg (by omega)])
      omega
    have c9 : (nI (f j (kpA A j))).toInt64 = lN (f j (kpA A j)) := nI_l (by omega)
    have c10 : rdL U 7 7 = S.2 7 7 + lN (fb_sum (fun s => f s (kpA A s)) j) := by
      show U.2 7 7 = _
      rw [p4 7, if_pos rfl]
    have ix7 : ix (7 : Int32) = 7 := rfl
    refine ⟨wrL (wr (wr U (9 + 2 * j) ((T + 60 - kpA A j) % 60) 0) (8 + 2 * j) 6 (nI (fb_sum (fun a => splF A f (j + 1) j (a + 1)) 60))) 7 7 (S.2 7 7 + lN (fb_sum (fun s => f s (kpA A s)) (j + 1))), ⟨⟨fun i hi => ?_, fun s k hs hk => ?_, fun p k hp hk => ?_, fun i hi => ?_⟩, fun p k hp => ?_, fun s hs => ⟨fun a a1 a2 => ?_, ?_⟩, fun k => ?_⟩, ?_⟩
    · rw [wrL1, wr1_ne (by omega), wr1_ne (by omega)]; exact p1.1 i hi
    · rw [wrL1]
      by_cases e : s = j
      · subst e; rw [wr1_eq, if_neg (by omega), wr1_ne (by omega)]; exact p1.2.1 s k hs hk
      · rw [wr1_ne (by omega), wr1_ne (by omega)]; exact p1.2.1 s k hs hk
    · rw [wrL1, wr1_ne (by omega), wr1_ne (by omega)]; exact p1.2.2.1 p k hp hk
    · rw [wrL2_ne hi]; exact p1.2.2.2 i hi
    · rw [wrL1, wr1_ne (by omega), wr1_ne (by omega), wr1_ne (by omega), wr1_ne (by omega)]; exact p2 p k hp
    · rw [wrL1, wr1_ne (by omega)]
      by_cases e : s = j
      · subst e
        rw [wr1_eq]
        unfold splF
        by_cases ea : a = kpA A s
        · rw [if_pos (by rw [ea]), if_pos ⟨by omega, ea⟩]; rfl
        · rw [if_neg (by omega), if_neg (fun q => ea q.2), (p3 s hs).1 a a1 a2, hsp]
      · rw [wr1_ne (by omega), (p3 s hs).1 a a1 a2]
        congr 1
        unfold splF
        by_cases q : s < j ∧ a = kpA A s
        · rw [if_pos q, if_pos ⟨by omega, q.2⟩]
        · rw [if_neg q, if_neg (fun r => q ⟨by omega, r.2⟩)]
    · rw [wrL1]
      by_cases e : s = j
      · subst e; rw [wr1_eq, if_pos rfl]
      · rw [wr1_ne (by omega), wr1_ne (by omega), (p3 s hs).2]
        congr 1
        refine fb_sum_cong (fun a ha => ?_)
        unfold splF
        by_cases q : s < j ∧ a + 1 = kpA A s
        · rw [if_pos q, if_pos ⟨by omega, q.2⟩]
        · rw [if_neg q, if_neg (fun r => q ⟨by omega, r.2⟩)]
    · rw [wrL2_eq]
      by_cases e : k = 7
      · rw [if_pos e, if_pos e]
      · rw [if_neg e, if_neg e]
        show U.2 7 k = _
        rw [p4 k, if_neg e]
    · simp only [f_X0_spoilStore_L2, hcn, h1, if_true, hin, hix, f_X5_spoil, hslU, hkp, c3, c4, c5, e9, c6, c7, c8, c9, c10, ix7, Option.bind_some, nI_1, l_assoc, lN_add]
      rfl) (fun n U hP => by
    have h1 : (nI cnt < nI cnt) = False := ltF (Nat.le_refl _) (by omega)
    have hcn : rd U 1 1 = nI cnt := by show U.1 1 1 = _; rw [hP.1.1 1 (by omega)]; exact hC.1
    simp only [f_X0_spoilStore_L2, hcn, h1, if_false]) (fuel := 6000) (T := S) (by omega) ⟨FrC.refl S, fun _ _ _ => ⟨rfl, rfl⟩, fun s hs => ⟨fun a a1 a2 => by rw [(hst s hs).1 a a1 a2]; congr 1, (hst s hs).2⟩, fun k => by
      by_cases e : k = 7
      · rw [if_pos e, e]; exact (l_zero _).symm
      · rw [if_neg e]⟩
  rw [nI_0] at this
  obtain ⟨S', hP, e⟩ := this
  exact ⟨S', e, hP⟩
theorem spoilR {cnt yr T : Nat} {S : St} {f : Nat → Nat → Nat} (h : OrA cnt yr (S.1 109)) (h782 : S.1 109 782 = nI cnt) (hT : T < 2 ^ 20) (hst : ∀ s, s < 6 → ∀ a, 1 ≤ a → a ≤ 64 → S.1 109 (198 + 64 * s + (T + 64 - a) % 64) = nI (f s a)) (hb : ∀ s a, s < cnt → 1 ≤ a → a ≤ 60 → f s a ≤ 1000) (d : Int32) (K : Int32 → Int32 → St → Option St) :
    ∃ S', f_X7_day_L55 6000 K d (nI (64 + T)) 0 S = K d (nI (64 + T)) S' ∧ (∀ i, i ≠ 109 → S'.1 i = S.1 i) ∧ (∀ k, k < 198 ∨ 582 ≤ k → S'.1 109 k = S.1 109 k) ∧ (∀ i, i ≠ 111 → S'.2 i = S.2 i) ∧ (∀ s, s < 6 → ∀ a, 1 ≤ a → a ≤ 64 → S'.1 109 (198 + 64 * s + (T + 64 - a) % 64) = nI (splF (S.1 109) f cnt s a)) ∧ (∀ k, S'.2 111 k = if k = 7 then S.2 111 7 + lN (fb_sum (fun s => f s (kpA (S.1 109) s)) cnt) else S.2 111 k) := by
  have hc := h.1
  have := loop_up (N := cnt) (fun n i U => f_X7_day_L55 n K d (nI (64 + T)) i U) (fun U => K d (nI (64 + T)) U) (fun j U => (∀ i, i ≠ 109 → U.1 i = S.1 i) ∧ (∀ k, k < 198 ∨ 582 ≤ k → U.1 109 k = S.1 109 k) ∧ (∀ i, i ≠ 111 → U.2 i = S.2 i) ∧ (∀ s, s < 6 → ∀ a, 1 ≤ a → a ≤ 64 → U.1 109 (198 + 64 * s + (T + 64 - a) % 64) = nI (splF (S.1 109) f j s a)) ∧ (∀ k, U.2 111 k = if k = 7 then S.2 111 7 + lN (fb_sum (fun s => f s (kpA (S.1 109) s)) j) else S.2 111 k)) (fun n j U hj hP => by
    obtain ⟨p1, p2, p3, p4, p5⟩ := hP
    obtain ⟨k1, k2, k3⟩ := kpA_eq h hj
    have h1 : (nI j < nI cnt) = True := ltT hj (by omega)
    have hcn : rd U 109 782 = nI cnt := by show U.1 109 782 = _; rw [p2 782 (by omega)]; exact h782
    have hkp : f_X7_sortOf (nI j) 3 U = some (nI (kpA (S.1 109) j)) := by
      have := sortOf_nat (s := j) (k := 3) (by omega) (by decide) U
      rw [show rd U 109 (5 * j + 3) = nI (kpA (S.1 109) j) from by show U.1 109 _ = _; rw [p2 _ (by omega)]; exact k3] at this
      exact this
    have c2 : nI (64 + T) - nI (kpA (S.1 109) j) = nI (T + 64 - kpA (S.1 109) j) := by rw [pk_sub (by omega)]; congr 1; omega
    have c3 : f_X7_cell (nI j) (nI (T + 64 - kpA (S.1 109) j)) = nI (198 + 64 * j + (T + 64 - kpA (S.1 109) j) % 64) := cell_nat (by omega) (by omega)
    have c4 : inb (nI (198 + 64 * j + (T + 64 - kpA (S.1 109) j) % 64)) 788 = true := inb_nI (by omega) (by decide)
    have c5 : ix (nI (198 + 64 * j + (T + 64 - kpA (S.1 109) j) % 64)) = 198 + 64 * j + (T + 64 - kpA (S.1 109) j) % 64 := ix_nI (by omega)
    have hsp : splF (S.1 109) f j j = f j := funext (fun a => if_neg (by omega))
    have c6 : rd U 109 (198 + 64 * j + (T + 64 - kpA (S.1 109) j) % 64) = nI (f j (kpA (S.1 109) j)) := by
      have := p4 j (by omega) (kpA (S.1 109) j) k1 (by omega)
      rw [hsp] at this; exact this
    have hbj := hb j (kpA (S.1 109) j) hj k1 k2
    have c9 : (nI (f j (kpA (S.1 109) j))).toInt64 = lN (f j (kpA (S.1 109) j)) := nI_l (by omega)
    have ix7 : ix (7 : Int32) = 7 := rfl
    have c10 : rdL U 111 7 = S.2 111 7 + lN (fb_sum (fun s => f s (kpA (S.1 109) s)) j) := by
      show U.2 111 7 = _
      rw [p5 7, if_pos rfl]
    refine ⟨wr (wrL U 111 7 (S.2 111 7 + lN (fb_sum (fun s => f s (kpA (S.1 109) s)) (j + 1)))) 109 (198 + 64 * j + (T + 64 - kpA (S.1 109) j) % 64) 0, ⟨fun i hi => ?_, fun k hk => ?_, fun i hi => ?_, fun s hs a a1 a2 => ?_, fun k => ?_⟩, ?_⟩
    · rw [wr1_ne hi, wrL1]; exact p1 i hi
    · rw [wr1_eq, if_neg (by omega), wrL1]; exact p2 k hk
    · show (wrL U 111 7 _).2 i = _; rw [wrL2_ne hi]; exact p3 i hi
    · rw [wr1_eq, wrL1, p4 s hs a a1 a2]
      by_cases q : s = j ∧ a = kpA (S.1 109) j
      · obtain ⟨rfl, rfl⟩ := q
        rw [if_pos rfl]
        unfold splF
        rw [if_pos ⟨by omega, rfl⟩]; rfl
      · rw [if_neg (fun r => q (by omega))]
        congr 1
        unfold splF
        by_cases w : s < j ∧ a = kpA (S.1 109) s
        · rw [if_pos w, if_pos ⟨by omega, w.2⟩]
        · rw [if_neg w, if_neg (fun r => by
            by_cases e : s = j
            · exact q ⟨e, by rw [← e]; exact r.2⟩
            · exact w ⟨by omega, r.2⟩)]
    · show (wrL U 111 7 _).2 111 k = _
      rw [wrL2_eq]
      by_cases e : k = 7
      · rw [if_pos e, if_pos e]
      · rw [if_neg e, if_neg e, p5 k, if_neg e]
    · simp only [f_X7_day_L55, ix_782, hcn, h1, if_true, hkp, Option.bind_some, c2, c3, c4, c5, c6, c9, c10, ix7, nI_1, l_assoc, lN_add]
      rfl) (fun n U hP => by
    have h1 : (nI cnt < nI cnt) = False := ltF (Nat.le_refl _) (by omega)
    have hcn : rd U 109 782 = nI cnt := by show U.1 109 782 = _; rw [hP.2.1 782 (by omega)]; exact h782
    simp only [f_X7_day_L55, ix_782, hcn, h1, if_false]) (fuel := 6000) (T := S) (by omega) ⟨fun _ _ => rfl, fun _ _ => rfl, fun _ _ => rfl, fun s hs a a1 a2 => by rw [hst s hs a a1 a2]; congr 1, fun k => by
      by_cases e : k = 7
      · rw [if_pos e, e]; exact (l_zero _).symm
      · rw [if_neg e]⟩
  rw [nI_0] at this
  obtain ⟨S', hP, e⟩ := this
  exact ⟨S', e, hP⟩
