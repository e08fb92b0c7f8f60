theorem itr_srt {rip : Nat → Bool} {srt srt' : Nat → Nat} (h : ∀ k, k < 24 → rip k = true → srt' k = srt k) : ∀ (n : Nat) (s : PS), itr rip srt' n s = itr rip srt n s
  | 0, s => rfl
  | n + 1, s => by
    have e : stp rip srt' s = stp rip srt s := by
      unfold stp
      by_cases h0 : s.1 = 0
      · rw [if_pos h0, if_pos h0]
      · rw [if_neg h0, if_neg h0]
        cases hb : bst rip s.2.1 24 with
        | none => rfl
        | some b =>
          obtain ⟨b1, b2, -⟩ := bst_some hb
          simp only [nxt, h b b1 b2]
    rw [itr, itr, e]
    cases stp rip srt s with
    | none => rfl
    | some s' => exact itr_srt h n s'
theorem inStore_ages {T s : Nat} {S : St} {g : Nat → Nat} (hs : s < 6) (hst : ∀ a, 1 ≤ a → a ≤ 64 → S.1 109 (198 + 64 * s + (T + 64 - a) % 64) = nI (g a)) (far : ∀ a, 60 < a → g a = 0) : f_X7_inStore (nI s) S = some (nI (fb_sum (fun a => g (a + 1)) 60)) := by
  rw [inStore_run s hs S (fun k => g (64 - (k + 64 - T % 64) % 64)) (fun k hk => by
    have := hst (64 - (k + 64 - T % 64) % 64) (by omega) (by omega)
    rw [show (T + 64 - (64 - (k + 64 - T % 64) % 64)) % 64 = k from by omega] at this
    exact this)]
  congr 2
  have e1 : fb_sum (fun a => g (a + 1)) 64 = fb_sum (fun a => g (a + 1)) 60 := fb_split (fun a => g (a + 1)) 60 4 (fun k a b => far _ (by omega))
  rw [← e1, ← fb_rot (fun k => g (64 - (k + 64 - T % 64) % 64)) T]
  exact fb_sum_cong (fun k hk => by congr 1; omega)
theorem ripA_cong {A A' : Nat → Int32} {W : Nat → Nat} {day k : Nat} (e1 : ∀ k, k < 66 → A' k = A k) (pt : ptA A' k = ptA A k) (sr : srtA A' k = srtA A k) (hs : ptA A k = true → srtA A k < 6) : ripA A' W k day = ripA A W k day := by
  unfold ripA
  rw [pt]
  cases hpt : ptA A k with
  | false => rw [Bool.false_and, Bool.false_and]
  | true =>
    have hs := hs hpt
    have s0 := e1 (5 * srtA A k) (by omega)
    have s1 := e1 (5 * srtA A k + 1) (by omega)
    have s2 := e1 (5 * srtA A k + 2) (by omega)
    rw [sr]
    unfold ripS
    rw [s0, s1, s2]
theorem dayR {cnt yr dn hrs : Nat} {S : St} {f : Nat → Nat → Nat} {fr ns : Nat → Nat} (h : OrA cnt yr (S.1 109)) (hw : RefW dn S) (hd : dn < 50) (hy : yr ≤ 700) (h782 : S.1 109 782 = nI cnt) (h787 : S.1 109 787 = nI hrs) (hh : hrs ≤ 1000) (hF : ∀ d, d < 50 → (S.1 109 (582 + 3 * d) = 1 ∧ (∃ x : Nat, x ≤ 6 ∧ S.1 109 (582 + 3 * d + 1) = nI x) ∧ (∃ x : Nat, x ≤ 100 ∧ S.1 109 (582 + 3 * d + 2) = nI x)) ∨ S.1 109 (582 + 3 * d) = 0) (hst : ∀ s, s < 6 → ∀ a, 1 ≤ a → a ≤ 64 → S.1 109 (198 + 64 * s + (50 * yr + dn + 64 - a) % 64) = nI (f s a)) (hfar : ∀ s, s < cnt → ∀ a, kpA (S.1 109) s < a → f s a = 0) (hz : ∀ s, cnt ≤ s → ∀ a, f s a = 0) (hb : fb_sum (fun s => fb_sum (fun a => f s (a + 1)) 60) 6 ≤ 1000) (hfr : ∀ p q, p < 12 → q < 2 → S.1 109 (66 + 11 * p + (8 + q)) = nI (fr (2 * p + q))) (hfb : ∀ k, k < 24 → fr k ≤ 30000) (hns : ∀ p, p < 12 → TrA (S.1 109) p → S.1 109 (66 + 11 * p + 10) = nI (ns p)) :
    ∃ S', f_X7_day S = (if dn + 1 = 50 then f_X7_ends S' else some S') ∧ (∀ i, i ≠ 109 → i ≠ 118 → i ≠ 119 → i ≠ 120 → S'.1 i = S.1 i) ∧ (∀ i, i ≠ 111 → S'.2 i = S.2 i) ∧ (∀ k, k < 66 ∨ (582 ≤ k ∧ k < 732) ∨ (732 ≤ k ∧ k ≠ 732 + dn ∧ k ≠ 785) → S'.1 109 k = S.1 109 k) ∧ S'.1 109 (732 + dn) = nI (warmF S dn) ∧ S'.1 109 785 = nI (dn + 1) ∧ (∀ p k, p < 12 → k < 8 → S'.1 109 (66 + 11 * p + k) = S.1 109 (66 + 11 * p + k)) ∧ (∀ p, p < 12 → TrA (S.1 109) p → S'.1 109 (66 + 11 * p + 10) = nI (ns p + (setA (S.1 109) (warmF S) dn (2 * p) + setA (S.1 109) (warmF S) dn (2 * p + 1)))) ∧ (∀ p q, p < 12 → q < 2 → S'.1 109 (66 + 11 * p + (8 + q)) = nI ((dSF (S.1 109) (warmF S) dn fr f cnt hrs).2.1 (2 * p + q) - dDr (S.1 109) (warmF S) dn fr f cnt hrs (2 * p + q))) ∧ (∀ s, s < 6 → ∀ a, 1 ≤ a → a ≤ 64 → S'.1 109 (198 + 64 * s + (50 * yr + dn + 1 + 64 - a) % 64) = nI (dF (S.1 109) (warmF S) dn fr f cnt hrs s a)) ∧ (∀ k, S'.2 111 k = S.2 111 k + lN (dInc (S.1 109) (warmF S) dn fr f cnt hrs k)) ∧ RefW (dn + 1) S' ∧ warmF S' = warmF S := by
  have hc := h.1
  have hbs6 := dBs_le (S.1 109) f cnt hb
  have e785 : rd S 109 785 = nI dn := hw.2.1
  have e784 : rd S 109 784 = nI yr := h.2.2.1
  have est := stands_run hw hd
  have hWd : warmF S dn = standF S dn := by
    unfold warmF
    rw [hw.2.1, ix_nI (n := dn) (by omega), if_neg (by omega)]
  have hWle := standF_le hw hd
  generalize hT : 50 * yr + dn = T at *
  have hT20 : T < 2 ^ 20 := by omega
  -- the day's warmth, the day done
  generalize hS1 : wr (wr S 109 (732 + dn) (nI (standF S dn))) 109 785 (nI (dn + 1)) = S1
  have o1 : ∀ i, i ≠ 109 → S1.1 i = S.1 i := fun i hi => by rw [← hS1, wr1_ne hi, wr1_ne hi]
  have l1 : S1.2 = S.2 := by rw [← hS1]; rfl
  have v1 : ∀ k, S1.1 109 k = if k = 785 then nI (dn + 1) else if k = 732 + dn then nI (standF S dn) else S.1 109 k := fun k => by rw [← hS1, wr1_eq, wr1_eq]
  have p1 : ∀ k, k ≠ 785 → k ≠ 732 + dn → S1.1 109 k = S.1 109 k := fun k a b => by rw [v1, if_neg a, if_neg b]
  have hA1 : OrA cnt yr (S1.1 109) := h.cong (fun k hk => p1 k (by omega) (by omega)) (fun p k a b => p1 _ (by omega) (by omega)) (p1 783 (by omega) (by omega)) (p1 784 (by omega) (by omega))
  have hw1 : RefW (dn + 1) S1 := by
    obtain ⟨a1, a2, a3, a4, a5⟩ := hw
    refine ⟨by omega, by rw [v1, if_pos rfl], fun d hd' => ?_, by rw [p1 786 (by omega) (by omega)]; exact a4, by rw [o1 114 (by decide)]; exact a5⟩
    by_cases e : d = dn
    · rw [v1, if_neg (by omega), if_pos (by omega)]; exact ⟨_, hWle, rfl⟩
    · rw [p1 _ (by omega) (by omega)]; exact a3 d (by omega)
  have hW1 : warmF S1 = warmF S := by
    funext d
    unfold warmF
    rw [hw1.2.1, hw.2.1, ix_nI (n := dn + 1) (by omega), ix_nI (n := dn) (by omega), standF_cong (S := S) (fun i a b => o1 i (by omega)) (p1 786 (by omega) (by omega))]
    by_cases e : d = dn
    · subst e
      rw [if_pos (by omega), if_neg (by omega), v1, if_neg (by omega), if_pos rfl, ix_nI (by omega)]
    · by_cases l : d < dn
      · rw [if_pos (by omega), if_pos l, p1 _ (by omega) (by omega)]
      · rw [if_neg (by omega), if_neg l]
  have kp1 : ∀ s, s < cnt → kpA (S1.1 109) s = kpA (S.1 109) s := fun s hs => by unfold kpA; rw [p1 _ (by omega) (by omega)]
  have spl1 : ∀ s a, splF (S1.1 109) f cnt s a = splF (S.1 109) f cnt s a := fun s a => by
    unfold splF
    by_cases l : s < cnt
    · rw [kp1 s l]
    · rw [if_neg (fun q => l q.1), if_neg (fun q => l q.1)]
  have f60 : ∀ s a, s < cnt → 1 ≤ a → a ≤ 60 → f s a ≤ 1000 := fun s a hs a1 a2 => by
    have q1 := fb_one (fun s => fb_sum (fun a => f s (a + 1)) 60) (n := 6) (k := s) (by omega)
    have q2 := fb_one (fun a => f s (a + 1)) (n := 60) (k := a - 1) (by omega)
    simp only [show a - 1 + 1 = a from by omega] at q2
    omega
  -- set up the ends of it
  have spl_z : ∀ s a, 60 < a ∨ (s < cnt → kpA (S.1 109) s ≤ a) → splF (S.1 109) f cnt s a = 0 := fun s a ha => spl_far h hfar hz s a (fun hs => by
    rcases ha with q | q
    · have := (kpA_eq h hs).2.1; omega
    · exact q hs)
  unfold f_X7_day
  have hin : inb (nI (732 + dn)) 788 = true := inb_nI (by omega) (by decide)
  have hix : ix (nI (732 + dn)) = 732 + dn := ix_nI (by omega)
  have e732 : (732 : Int32) + nI dn = nI (732 + dn) := by rw [show (732 : Int32) = nI 732 from rfl, nI_add]
  have r785 : ∀ v, rd (wr S 109 (732 + dn) v) 109 785 = nI dn := fun v => by
    show (wr S 109 (732 + dn) v).1 109 785 = _
    rw [wr1_eq, if_neg (by omega)]; exact e785
  have edt : (64 : Int32) + (50 : Int32) * nI yr + nI dn = nI (64 + T) := by
    rw [show (64 : Int32) = nI 64 from rfl, show (50 : Int32) = nI 50 from rfl, pk_mul, nI_add, nI_add]; congr 1; omega
  simp only [ix_785, ix_784, e785, e784, est, Option.bind_some, e732, hin, hix, if_true, r785, nI_1, edt, hS1]
  obtain ⟨S2, e2, a2, b2, c2, t2, q2⟩ := spoilR (f := f) (T := T) hA1 (by rw [p1 782 (by omega) (by omega)]; exact h782) hT20 (fun s hs a x y => by rw [p1 _ (by omega) (by omega)]; exact hst s hs a x y) f60 (nI dn) _
  rw [e2]
  have FR12 : FrR S1 S2 := ⟨fun i x _ _ _ => a2 i x, fun k hk => b2 k (by omega), fun p k hp hk => b2 _ (by omega), c2⟩
  have hA2 := FR12.orA hA1
  have hw2 := FR12.refW hw1
  have hW2 := FR12.warm
  obtain ⟨S3, e3, c3, a3, r3⟩ := rows115 hA2 hw2 hd (nI (64 + T)) _
  rw [e3]
  have FR23 : FrR S2 S3 := ⟨fun i x y z w => a3 i y z, fun k hk => by rw [a3 109 (by decide) (by decide)], fun p k hp hk => by rw [a3 109 (by decide) (by decide)], fun i hi => by rw [c3]⟩
  have h3109 : S3.1 109 = S2.1 109 := a3 109 (by decide) (by decide)
  have hA3 := FR23.orA hA2
  have hw3 := FR23.refW hw2
  have hW3 := FR23.warm
  have s2 : ∀ k, k < 198 ∨ 582 ≤ k → k ≠ 785 → k ≠ 732 + dn → S2.1 109 k = S.1 109 k := fun k x y z => by rw [b2 k x, p1 k y z]
  have cg : ∀ U : St, (∀ k, k < 66 ∨ (582 ≤ k ∧ k < 732) ∨ k = 783 ∨ k = 784 → U.1 109 k = S.1 109 k) → (∀ p k, p < 12 → k < 8 → U.1 109 (66 + 11 * p + k) = S.1 109 (66 + 11 * p + k)) → ∀ k, k < 24 → ptA (U.1 109) k = ptA (S.1 109) k ∧ srtA (U.1 109) k = srtA (S.1 109) k ∧ opnA (U.1 109) (warmF S) k dn = opnA (S.1 109) (warmF S) k dn ∧ prtA (U.1 109) (warmF S) k dn = prtA (S.1 109) (warmF S) k dn ∧ budP (U.1 109) k = budP (S.1 109) k ∧ setA (U.1 109) (warmF S) dn k = setA (S.1 109) (warmF S) dn k := fun U x y => setA_cong hd x y (fun k hk hpt => by have := (h.srtK hk hpt).1; omega)
  have W3 : warmF S3 = warmF S := by rw [hW3, hW2, hW1]
  have trS : ∀ U : St, (∀ p k, p < 12 → k < 8 → U.1 109 (66 + 11 * p + k) = S.1 109 (66 + 11 * p + k)) → ∀ p, p < 12 → TrA (U.1 109) p → TrA (S.1 109) p := fun U y p hp ht => by unfold TrA at *; rw [y p 2 hp (by decide)] at ht; exact ht
  have s3p : ∀ p k, p < 12 → k < 11 → S3.1 109 (66 + 11 * p + k) = S.1 109 (66 + 11 * p + k) := fun p k hp hk => by rw [h3109, s2 _ (by omega) (by omega) (by omega)]
  obtain ⟨S4, e4, G4⟩ := setR (fr := fr) (ns := ns) hA3 hw3 (fun d hd' => by rw [h3109, s2 _ (by omega) (by omega) (by omega), s2 (582 + 3 * d + 1) (by omega) (by omega) (by omega), s2 (582 + 3 * d + 2) (by omega) (by omega) (by omega)]; exact hF d hd') hd (fun k hk => by rw [h3109, W3, ← hW1, ← hW2]; exact r3 k hk) (fun p q hp hq => by rw [s3p p (8 + q) hp (by omega)]; exact hfr p q hp hq) (fun p hp ht => by rw [s3p p 10 hp (by omega)]; exact hns p hp (trS S3 (fun p k hp hk => s3p p k hp (by omega)) p hp ht)) (nI (64 + T)) _
  rw [e4]
  obtain ⟨g4, u4, st4, w4, n4, q4⟩ := G4
  have hA4 := g4.orA hA3
  have hw4 := g4.refW hw3
  have W4 : warmF S4 = warmF S := by rw [g4.warm, W3]
  have set3 : ∀ k, k < 24 → setA (S3.1 109) (warmF S3) dn k = setA (S.1 109) (warmF S) dn k := fun k hk => by
    rw [W3]
    exact (cg S3 (fun j hj => by rw [h3109, s2 j (by omega) (by omega) (by omega)]) (fun p j hp hj => s3p p j hp (by omega)) k hk).2.2.2.2.2
  obtain ⟨S5, e5, c5, a5, r5⟩ := rows234 hA4 hw4 hd (nI (64 + T)) _
  rw [e5]
  have h5109 : S5.1 109 = S4.1 109 := a5 109 (by decide)
  have hA5 : OrA cnt yr (S5.1 109) := by rw [h5109]; exact hA4
  have s4p : ∀ p k, p < 12 → k < 8 → S4.1 109 (66 + 11 * p + k) = S.1 109 (66 + 11 * p + k) := fun p k hp hk => by rw [g4.2.2.1 p k hp hk, s3p p k hp (by omega)]
  have s4k : ∀ k, k < 66 ∨ 582 ≤ k → k ≠ 785 → k ≠ 732 + dn → S4.1 109 k = S.1 109 k := fun k x y z => by rw [g4.2.1 k x, h3109, s2 k (by omega) y z]
  have cg4 := cg S4 (fun j hj => s4k j (by omega) (by omega) (by omega)) s4p
  have rip4 : ∀ k, k < 24 → ripA (S4.1 109) (warmF S4) k dn = ripA (S.1 109) (warmF S) k dn := fun k hk => by
    rw [W4]
    exact ripA_cong (fun j hj => s4k j (by omega) (by omega) (by omega)) (cg4 k hk).1 (cg4 k hk).2.1 (fun hpt => by have := (h.srtK hk hpt).1; omega)
  have h120 : ∀ k, k < 24 → S5.1 120 k = if (fun k => ripA (S.1 109) (warmF S) k dn) k = true then 1 else 0 := fun k hk => by rw [r5 k hk, rip4 k hk]
  -- the store
  have st5 : ∀ s, s < 6 → ∀ a, 1 ≤ a → a ≤ 64 → S5.1 109 (198 + 64 * s + (T + 64 - a) % 64) = nI (splF (S.1 109) f cnt s a) := fun s hs a x y => by
    rw [h5109, st4 _ (by omega) (by omega), h3109, t2 s hs a x y, spl1]
  have eall : f_X7_inAll S5 = some (nI (fb_sum (dBs (S.1 109) f cnt) 6)) := by
    have := loop_up (N := 6) (fun n i (v : Int32) => f_X7_inAll_L4 n (fun e24_1 => some e24_1) v i S5) (fun v => some v) (fun j v => v = nI (fb_sum (dBs (S.1 109) f cnt) j)) (fun n j v hj hP => by
      refine ⟨_, rfl, ?_⟩
      have h1 : (nI j < (6 : Int32)) = True := ltT hj (by decide)
      have h2 := inStore_ages hj (st5 j hj) (fun a ha => spl_z j a (Or.inl ha))
      simp only [f_X7_inAll_L4, h1, h2, nI_1, if_true, hP, nI_add, fb_sum, Option.bind_some]
      rfl) (fun n v hP => by
      have h1 : (nI 6 < (6 : Int32)) = False := ltF (N := 6) (by decide) (by decide)
      simp only [f_X7_inAll_L4, h1, if_false]) (fuel := 6000) (T := 0) (by decide) rfl
    rw [nI_0] at this
    obtain ⟨v, hv, e⟩ := this
    subst hv
    exact e
  have hfb1 : ∀ k, k < 24 → (dS0 (S.1 109) (warmF S) dn fr f cnt hrs).2.1 k ≤ 40000 := fun k hk => by
    show fr k + setA (S.1 109) (warmF S) dn k ≤ 40000
    have := setA_le h (warmF S) (day := dn) hk
    have := hfb k hk
    omega
  obtain ⟨S6, e6, P6⟩ := pickLoopR (T := T) (rip := fun k => ripA (S.1 109) (warmF S) k dn) hA5 hT20 h120 (fun k hk hr => by
      rw [h5109, (cg4 k hk).1]
      have hr' : ripA (S.1 109) (warmF S) k dn = true := hr
      unfold ripA at hr'; simp only [Bool.and_eq_true] at hr'; exact hr'.1) (dS0 (S.1 109) (warmF S) dn fr f cnt hrs) hrs (1000 - fb_sum (dBs (S.1 109) f cnt) 6) rfl hh (by omega) hfb1 ⟨fun _ _ => rfl, fun _ _ => rfl, fun _ _ => rfl, fun p q hp hq => by
      rw [h5109, w4 p q hp hq, if_pos (by omega), set3 _ (by omega)]; rfl, fun x hx k hk => by
      by_cases e : k = T % 64
      · rw [if_pos e]
        have := st5 x hx 64 (by omega) (by omega)
        rw [show (T + 64 - 64) % 64 = k from by omega, spl_z x 64 (Or.inl (by omega))] at this
        exact this
      · rw [if_neg e], fun k => by
      by_cases e : k = 2
      · rw [if_pos e, e]; exact (l_zero _).symm
      · rw [if_neg e]⟩
  rw [itr_srt (srt := srtA (S.1 109)) (fun k hk _ => by rw [h5109]; exact (cg4 k hk).2.1)] at P6
  have P6' : PkR T S5 (dSF (S.1 109) (warmF S) dn fr f cnt hrs) S6 := P6
  have e6' : f_X7_pick (nI (64 + T)) S5 = some S6 := by
    have h787' : rd S5 109 787 = nI hrs := by show S5.1 109 787 = _; rw [h5109, s4k 787 (by omega) (by omega) (by omega)]; exact h787
    unfold f_X7_pick
    rw [eall, Option.bind_some, ix_787, h787', show (1000 : Int32) = nI 1000 from rfl, pk_sub hbs6]
    exact e6
  rw [e6', Option.bind_some]
  have PI : PkI cnt (min hrs (1000 - fb_sum (dBs (S.1 109) f cnt) 6)) (fun k => ripA (S.1 109) (warmF S) k dn) (fun k => fr k + setA (S.1 109) (warmF S) dn k) (dSF (S.1 109) (warmF S) dn fr f cnt hrs) := by
    refine PkI.run hc (fun k hk hr => ?_) 24 ⟨Nat.zero_add _, fb_sum_zero (fun _ _ => rfl), fun _ _ => Nat.le_refl _, fun _ _ => rfl, fun _ _ => rfl⟩
    have hr' : ripA (S.1 109) (warmF S) k dn = true := hr
    unfold ripA at hr'; simp only [Bool.and_eq_true] at hr'
    exact (h.srtK hk hr'.1).1
  obtain ⟨S7, e7, L7⟩ := dropR (S := S6) (rip := fun k => ripA (S.1 109) (warmF S) k dn) (fr := (dSF (S.1 109) (warmF S) dn fr f cnt hrs).2.1) (fun k hk => by rw [P6'.1 120 (by decide)]; exact h120 k hk) P6'.2.2.2.1 (fun k hk => Nat.le_trans (PI.2.2.1 k hk) (hfb1 k hk)) _
  rw [e7]
  have L7' : LesR S6 (dSF (S.1 109) (warmF S) dn fr f cnt hrs).2.1 (dDr (S.1 109) (warmF S) dn fr f cnt hrs) 24 S7 := L7
  obtain ⟨m1, m2, m3, m4, m5⟩ := L7'
  have F7 : FrR S5 S7 := P6'.frR.trans ⟨fun i a _ _ _ => m1 i a, fun k hk => m2 k (by omega), fun p k hp hk => m2 _ (by omega), m3⟩
  have k7 : ∀ k, k < 66 ∨ 582 ≤ k → S7.1 109 k = S1.1 109 k := fun k hk => by rw [F7.2.1 k hk, h5109, g4.2.1 k hk, h3109, b2 k (by omega)]
  have o7 : ∀ i, i ≠ 109 → i ≠ 118 → i ≠ 119 → i ≠ 120 → S7.1 i = S.1 i := fun i a b c d => by rw [F7.1 i a b c d, a5 i d, g4.1 i a b c d, a3 i b c, a2 i a, o1 i a]
  have e785' : rd S7 109 785 = nI (dn + 1) := by show S7.1 109 785 = _; rw [k7 785 (by omega), v1, if_pos rfl]
  refine ⟨S7, ?_, o7, fun i hi => ?_, fun k hk => ?_, ?_, e785', fun p k hp hk => ?_, fun p hp ht => ?_, fun p q hp hq => ?_, fun s hs a x y => ?_, fun k => ?_, ?_, ?_⟩
  · by_cases e : dn + 1 = 50
    · have e' : rd S7 109 785 = (50 : Int32) := e785'.trans (by rw [e]; rfl)
      rw [if_pos e]
      refine (if_pos e').trans ?_
      cases f_X7_ends S7 <;> rfl
    · have e' : ¬ rd S7 109 785 = (50 : Int32) := fun q => e ((nI_eq (b := 50) (by omega) (by decide)).mp (e785'.symm.trans q))
      rw [if_neg e]
      exact if_neg e'
  · rw [F7.2.2.2 i hi, c5, g4.2.2.2 i hi, c3, c2 i hi, l1]
  · rw [k7 k (by omega), p1 k (by omega) (by omega)]
  · rw [k7 _ (by omega), v1, if_neg (by omega), if_pos rfl, hWd]
  · rw [F7.2.2.1 p k hp hk, h5109, s4p p k hp hk]
  · rw [m2 _ (by omega), P6'.2.2.1 _ (by omega), h5109, n4 p hp (by unfold TrA at *; rw [s3p p 2 hp (by decide)]; exact ht), if_pos (by omega), if_pos (by omega), set3 _ (by omega), set3 _ (by omega)]
  · rw [m4 p q hp hq, if_pos (by omega)]
  · rw [m2 _ (by omega), P6'.2.2.2.2.1 s hs _ (Nat.mod_lt _ (by decide))]
    unfold dF
    by_cases ea : a = 1
    · rw [if_pos (by omega), if_pos ea]
    · rw [if_neg (by omega), if_neg ea]
      have := st5 s hs (a - 1) (by omega) (by omega)
      rw [show (T + 64 - (a - 1)) % 64 = (T + 1 + 64 - a) % 64 from by omega] at this
      exact this
  · rw [m5 k]
    have kpe : fb_sum (fun s => f s (kpA (S1.1 109) s)) cnt = fb_sum (fun s => f s (kpA (S.1 109) s)) cnt := fb_sum_cong (fun s hs => by rw [kp1 s hs])
    have ste : fb_sum (setA (S3.1 109) (warmF S3) dn) 24 = fb_sum (setA (S.1 109) (warmF S) dn) 24 := fb_sum_cong (fun k hk => set3 k hk)
    rw [kpe] at q2
    rw [ste] at q4
    unfold dInc
    by_cases k3 : k = 3
    · rw [if_pos k3, if_neg (by omega), if_neg (by omega), if_pos k3, P6'.2.2.2.2.2 3, if_neg (by decide), c5, q4 3, if_neg (by decide), c3, q2 3, if_neg (by decide), l1, k3]
    · rw [if_neg k3, P6'.2.2.2.2.2 k]
      by_cases k2 : k = 2
      · rw [if_pos k2, if_neg (by omega), if_pos k2, c5, q4 2, if_neg (by decide), c3, q2 2, if_neg (by decide), l1, k2]
      · rw [if_neg k2, c5, q4 k]
        by_cases k0 : k = 0
        · rw [if_pos k0, if_pos k0, c3, q2 0, if_neg (by decide), l1, k0]
        · rw [if_neg k0, if_neg k0, if_neg k2, if_neg k3, c3, q2 k]
          by_cases k7 : k = 7
          · rw [if_pos k7, if_pos k7, l1, k7]
          · rw [if_neg k7, if_neg k7, l1, l_zero]
  · exact hw1.cong' (fun k hk => k7 k (by omega)) (by rw [o7 114 (by decide) (by decide) (by decide) (by decide), o1 114 (by decide)])
  · rw [← hW1]
    exact funext (fun d => warmF_cong' (fun k hk => k7 k (by omega)) (fun i a b => by rw [o7 i (by omega) (by omega) (by omega) (by omega), o1 i (by omega)]) d)
