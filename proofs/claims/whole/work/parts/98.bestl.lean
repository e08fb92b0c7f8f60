/-- the reference's loop over all givings -/
theorem mainR {A : Nat → Int32} {n : Nat} {S : St} (hn : 0 < n) (hn6 : n ≤ 6) (hm : 0 < (layTrees A).length) (hN : n ^ (layTrees A).length ≤ 5000) (h121 : ∀ t, t < (layTrees A).length → S.1 121 t = nI ((layTrees A).getD t 0)) (h122 : ∀ t, t < (layTrees A).length → S.1 122 t = 0) (h123 : ∀ s o, s < n → o < n → S.1 123 (6 * s + o) = if layFits A s o = true then 1 else 0) (h124 : ∀ a b, a < (layTrees A).length → b < (layTrees A).length → S.1 124 (12 * a + b) = if a ≠ b ∧ layNear A ((layTrees A).getD a 0) ((layTrees A).getD b 0) = true then 1 else 0) (K : Int32 → St → Option (Int32 × St)) : ∃ (g : Nat) (U : St), f_X7_best_L256 6000 K (nI (layTrees A).length) (nI n) (-1) 1 S = K (nI (layPairs A n g)) U ∧ layBest A n g ∧ U.2 = S.2 ∧ (∀ i, i ≠ 116 → i ≠ 122 → U.1 i = S.1 i) ∧ ∀ t, t < (layTrees A).length → U.1 116 ((layTrees A).getD t 0) = nI (layDig n (layTrees A).length g t) := by
  have hl : (layTrees A).length ≤ 12 := trJ_le A 12
  have hpos : 0 < n ^ (layTrees A).length := Nat.pow_pos hn
  have key := loop_d (fun k (v : Int32 × Int32 × St) => f_X7_best_L256 k K (nI (layTrees A).length) (nI n) v.1 v.2.1 v.2.2)
    (fun i v => v.2.2.2 = S.2 ∧ (∀ x, x ≠ 116 → x ≠ 122 → v.2.2.1 x = S.1 x) ∧ ((v.2.1 = 1 ∧ ∃ g, g < n ^ (layTrees A).length ∧ i = n ^ (layTrees A).length - g + 1 ∧ (∀ t, t < (layTrees A).length → v.2.2.1 122 t = nI (layDig n (layTrees A).length g t)) ∧ BstV A n g v.1 (v.2.2.1 116)) ∨ (v.2.1 = 0 ∧ BstV A n (n ^ (layTrees A).length) v.1 (v.2.2.1 116))))
    (fun r => ∃ (b : Int32) (U : St), r = K b U ∧ U.2 = S.2 ∧ (∀ i, i ≠ 116 → i ≠ 122 → U.1 i = S.1 i) ∧ BstV A n (n ^ (layTrees A).length) b (U.1 116)) ?_ ?_ (n ^ (layTrees A).length - 0 + 1) 6000 (-1, 1, S) (by omega) ⟨rfl, fun _ _ _ => rfl, Or.inl ⟨rfl, 0, hpos, rfl, fun t ht => by rw [layDig_zero]; exact h122 t ht, rfl⟩⟩
  · obtain ⟨b, U, e, u1, u2, u3⟩ := key
    unfold BstV at u3
    cases hf : fstB (layPairs A n) (n ^ (layTrees A).length) with
    | none =>
      obtain ⟨g, eg, -⟩ := fstB_some (layPairs A n) _ hpos
      rw [hf] at eg; cases eg
    | some g =>
      rw [hf] at u3
      obtain ⟨w1, w2⟩ := u3
      subst w1
      exact ⟨g, U, e, fstB_best hn hm hN hf, u1, u2, w2⟩
  · intro k i v hP
    obtain ⟨best, more, U⟩ := v
    obtain ⟨p1, p2, p3⟩ := hP
    simp only at p1 p2 p3
    rcases p3 with ⟨e1, g, hg, hi, h12, hB⟩ | ⟨e1, hB⟩
    · subst e1
      left
      have o121 : ∀ V : St, (∀ x, x ≠ 116 → x ≠ 122 → V.1 x = S.1 x) → ∀ t, t < (layTrees A).length → V.1 121 t = nI ((layTrees A).getD t 0) := fun V hV t ht => by rw [hV 121 (by decide) (by decide)]; exact h121 t ht
      have ec := fun K' => cntR (A := A) (n := n) (g := g) (U := U) hn hn6 h12 (fun s o a b => by rw [p2 123 (by decide) (by decide)]; exact h123 s o a b) (fun a b x y => by rw [p2 124 (by decide) (by decide)]; exact h124 a b x y) K' best
      have c1 : ¬ (1 : Int32) = 0 := by decide
      -- the next one, from any state with these digits
      have nx : ∀ (V : St) (bb : Int32) (K0 : Int32 → Int32 → Int32 → Int32 → St → Option (Int32 × St)), (∀ a b c T, c < 0 → K0 a b bb c T = f_X7_best_L256 k K a b bb 0 T) → (∀ a b (j : Nat) T, j < 12 → K0 a b bb (nI j) T = f_X7_best_L256 k K a b bb 1 (wr T 122 j (T.1 122 j + 1))) → V.2 = S.2 → (∀ x, x ≠ 116 → x ≠ 122 → V.1 x = S.1 x) → (∀ t, t < (layTrees A).length → V.1 122 t = nI (layDig n (layTrees A).length g t)) → BstV A n (g + 1) bb (V.1 116) → ∃ T' : Int32 × Int32 × St, (T'.2.2.2 = S.2 ∧ (∀ x, x ≠ 116 → x ≠ 122 → T'.2.2.1 x = S.1 x) ∧ ((T'.2.1 = 1 ∧ ∃ g, g < n ^ (layTrees A).length ∧ i = n ^ (layTrees A).length - g + 1 ∧ (∀ t, t < (layTrees A).length → T'.2.2.1 122 t = nI (layDig n (layTrees A).length g t)) ∧ BstV A n g T'.1 (T'.2.2.1 116)) ∨ (T'.2.1 = 0 ∧ BstV A n (n ^ (layTrees A).length) T'.1 (T'.2.2.1 116)))) ∧ f_X7_best_L396 6000 K0 (nI (layTrees A).length) (nI n) bb (nI (layTrees A).length - 1) V = f_X7_best_L256 k K (nI (layTrees A).length) (nI n) T'.1 T'.2.1 T'.2.2 := by
        intro V bb K0 k0 k1 v1 v2 v3 v4
        obtain ⟨t, V', e, w1, w2, w3⟩ := nextR hl hn hn6 hg v3 K0 bb
        rcases w3 with ⟨rfl, w4⟩ | ⟨j, hj, rfl, w4, w5, w6⟩
        · refine ⟨(bb, 0, V'), ⟨w1.trans v1, fun x a b => by rw [w2 x b, v2 x a b], Or.inr ⟨rfl, ?_⟩⟩, by rw [e, k0 _ _ _ _ (by decide)]⟩
          rw [← w4]; show BstV A n (g + 1) bb (V'.1 116); rw [w2 116 (by decide)]; exact v4
        · refine ⟨(bb, 1, wr V' 122 j (V'.1 122 j + 1)), ⟨w1.trans v1, fun x a b => by rw [wr1_ne b, w2 x b, v2 x a b], Or.inl ⟨rfl, g + 1, w4, by omega, fun x hx => ?_, ?_⟩⟩, by rw [e, k1 _ _ j _ (by omega)]⟩
          · show (wr V' 122 j _).1 122 x = _
            rw [wr1_eq]
            by_cases ex : x = j
            · rw [if_pos ex, w5, ex]
            · rw [if_neg ex]; exact w6 x hx ex
          · show BstV A n (g + 1) bb ((wr V' 122 j _).1 116)
            rw [wr1_ne (by decide), w2 116 (by decide)]; exact v4
      obtain ⟨l1, l2⟩ := hB.less
      by_cases c : best < nI (layPairs A n g)
      · -- a better one
        obtain ⟨V, eV, w1, w2, w3⟩ := givR (A := A) (n := n) (g := g) (V := U) (o121 U p2) h12 (fun e391_1 e391_2 e391_5 T391 => (f_X7_best_L396 6000 (fun e428_1 e428_2 e428_5 e428_8 T428 => (if e428_8 < 0 then (if (0 : Int32) = 0 then (f_X7_best_L256 k K e428_1 e428_2 e428_5 (0 : Int32) T428) else (if inb e428_8 12 = true then (if inb e428_8 12 = true then (f_X7_best_L256 k K e428_1 e428_2 e428_5 (0 : Int32) (wr T428 122 (ix e428_8) ((rd T428 122 (ix e428_8)) + (1 : Int32)))) else none) else none)) else (if (1 : Int32) = 0 then (f_X7_best_L256 k K e428_1 e428_2 e428_5 (1 : Int32) T428) else (if inb e428_8 12 = true then (if inb e428_8 12 = true then (f_X7_best_L256 k K e428_1 e428_2 e428_5 (1 : Int32) (wr T428 122 (ix e428_8) ((rd T428 122 (ix e428_8)) + (1 : Int32)))) else none) else none)))) e391_1 e391_2 e391_5 (e391_1 - (1 : Int32)) T391)) (nI n) (nI (layPairs A n g))
        obtain ⟨T', q1, q2⟩ := nx V (nI (layPairs A n g)) (fun e428_1 e428_2 e428_5 e428_8 T428 => (if e428_8 < 0 then (if (0 : Int32) = 0 then (f_X7_best_L256 k K e428_1 e428_2 e428_5 (0 : Int32) T428) else (if inb e428_8 12 = true then (if inb e428_8 12 = true then (f_X7_best_L256 k K e428_1 e428_2 e428_5 (0 : Int32) (wr T428 122 (ix e428_8) ((rd T428 122 (ix e428_8)) + (1 : Int32)))) else none) else none)) else (if (1 : Int32) = 0 then (f_X7_best_L256 k K e428_1 e428_2 e428_5 (1 : Int32) T428) else (if inb e428_8 12 = true then (if inb e428_8 12 = true then (f_X7_best_L256 k K e428_1 e428_2 e428_5 (1 : Int32) (wr T428 122 (ix e428_8) ((rd T428 122 (ix e428_8)) + (1 : Int32)))) else none) else none)))) (fun a b cc T hc => by rw [if_pos hc, if_pos rfl]) (fun a b j T hj => by
          have n0 : ¬ nI j < 0 := nI_pos (by omega)
          have i0 : inb (nI j) 12 = true := inb_nI hj (by decide)
          rw [if_neg n0, if_neg c1, if_pos i0, if_pos i0, ix_nI (by omega)]; rfl) (w1.trans p1) (fun x a b => by rw [w2 x a, p2 x a b]) (fun t ht => by rw [w2 122 (by decide)]; exact h12 t ht) (l1 c (V.1 116) w3)
        refine ⟨T', q1, ?_⟩
        rw [f_X7_best_L256, if_neg c1, ec, if_pos c, eV, q2]
      · obtain ⟨T', q1, q2⟩ := nx U best (fun e428_1 e428_2 e428_5 e428_8 T428 => (if e428_8 < 0 then (if (0 : Int32) = 0 then (f_X7_best_L256 k K e428_1 e428_2 e428_5 (0 : Int32) T428) else (if inb e428_8 12 = true then (if inb e428_8 12 = true then (f_X7_best_L256 k K e428_1 e428_2 e428_5 (0 : Int32) (wr T428 122 (ix e428_8) ((rd T428 122 (ix e428_8)) + (1 : Int32)))) else none) else none)) else (if (1 : Int32) = 0 then (f_X7_best_L256 k K e428_1 e428_2 e428_5 (1 : Int32) T428) else (if inb e428_8 12 = true then (if inb e428_8 12 = true then (f_X7_best_L256 k K e428_1 e428_2 e428_5 (1 : Int32) (wr T428 122 (ix e428_8) ((rd T428 122 (ix e428_8)) + (1 : Int32)))) else none) else none)))) (fun a b cc T hc => by rw [if_pos hc, if_pos rfl]) (fun a b j T hj => by
          have n0 : ¬ nI j < 0 := nI_pos (by omega)
          have i0 : inb (nI j) 12 = true := inb_nI hj (by decide)
          rw [if_neg n0, if_neg c1, if_pos i0, if_pos i0, ix_nI (by omega)]; rfl) p1 p2 h12 (l2 c)
        refine ⟨T', q1, ?_⟩
        rw [f_X7_best_L256, if_neg c1, ec, if_neg c, q2]
    · right
      subst e1
      exact ⟨best, U, by rw [f_X7_best_L256, if_pos rfl], p1, p2, hB⟩
  · intro k v hP
    obtain ⟨best, more, U⟩ := v
    obtain ⟨p1, p2, p3⟩ := hP
    simp only at p1 p2 p3
    rcases p3 with ⟨e1, g, hg, hi, -⟩ | ⟨e1, hB⟩
    · omega
    · subst e1
      exact ⟨best, U, by rw [f_X7_best_L256, if_pos rfl], p1, p2, hB⟩
/-- the reference's best, all of it -/
theorem bestR {cnt yr : Nat} {S : St} (h : OrA cnt yr (S.1 109)) (h782 : S.1 109 782 = nI cnt) : ∃ U : St, U.2 = S.2 ∧ (∀ i, (i ≤ 120 ∧ i ≠ 116) → U.1 i = S.1 i) ∧ ((cnt = 0 ∨ (layTrees (S.1 109)).length = 0) → U.1 116 = S.1 116 ∧ f_X7_best S = some ((f_X7_found (-6) U).1, (f_X7_found (-6) U).2)) ∧ (0 < cnt → 0 < (layTrees (S.1 109)).length → 5000 < cnt ^ (layTrees (S.1 109)).length → U.1 116 = S.1 116 ∧ f_X7_best S = some ((f_X7_found (-8) U).1, (f_X7_found (-8) U).2)) ∧ (0 < cnt → 0 < (layTrees (S.1 109)).length → cnt ^ (layTrees (S.1 109)).length ≤ 5000 → ∃ g, layBest (S.1 109) cnt g ∧ f_X7_best S = some (nI (layPairs (S.1 109) cnt g), wr U 108 9 1) ∧ ∀ t, t < (layTrees (S.1 109)).length → U.1 116 ((layTrees (S.1 109)).getD t 0) = nI (layDig cnt (layTrees (S.1 109)).length g t)) := by
  have hc := h.1
  have hl : (layTrees (S.1 109)).length ≤ 12 := trJ_le (S.1 109) 12
  unfold f_X7_best
  obtain ⟨U1, e1, a1, b1, t1⟩ := treesR (S := S) (fun e39_1 T39 => (if (rd T39 109 (ix (782 : Int32))) = 0 then (some (((f_X7_found (-6 : Int32) T39).1), (f_X7_found (-6 : Int32) T39).2)) else (if e39_1 = 0 then (some (((f_X7_found (-6 : Int32) T39).1), (f_X7_found (-6 : Int32) T39).2)) else (f_X7_best_L68 6000 (fun e85_1 e85_2 e85_3 T85 => (if 0 < (lg_cmp e85_3 (5000 : Int64)) then (some (((f_X7_found (-8 : Int32) T85).1), (f_X7_found (-8 : Int32) T85).2)) else (f_X7_best_L103 6000 (fun e151_1 e151_2 T151 => (f_X7_best_L154 6000 (fun e227_1 e227_2 T227 => (f_X7_best_L230 6000 (fun e250_1 e250_2 T250 => (f_X7_best_L256 6000 (fun e459_5 T459 => (some (e459_5, (wr T459 108 9 (1 : Int32))))) e250_1 e250_2 (-1 : Int32) (1 : Int32) T250)) e227_1 e227_2 (0 : Int32) T227)) e151_1 e151_2 (0 : Int32) T151)) e85_1 e85_2 (0 : Int32) T85))) e39_1 (rd T39 109 (ix (782 : Int32))) (1 : Int64) (0 : Int32) T39))))
  rw [e1]
  have r782 : rd U1 109 (ix 782) = nI cnt := by show U1.1 109 782 = _; rw [b1 109 (by decide)]; exact h782
  simp only [r782]
  by_cases c0 : cnt = 0 ∨ (layTrees (S.1 109)).length = 0
  · refine ⟨U1, a1, fun i hi => b1 i (by omega), fun _ => ⟨b1 116 (by decide), ?_⟩, fun x y => by omega, fun x y => by omega⟩
    by_cases q : cnt = 0
    · rw [if_pos (by rw [q]; rfl)]
    · rw [if_neg (nI_ne0 (by omega) (by omega)), if_pos (by rw [show (layTrees (S.1 109)).length = 0 from by omega]; rfl)]
  · have hn : 0 < cnt := by omega
    have hm : 0 < (layTrees (S.1 109)).length := by omega
    have hpw : cnt ^ (layTrees (S.1 109)).length ≤ 6 ^ 12 := Nat.le_trans (Nat.pow_le_pow_left hc _) (Nat.pow_le_pow_right (by decide) hl)
    have h612 : (6 : Nat) ^ 12 = 2176782336 := by decide
    rw [if_neg (nI_ne0 hn (by omega)), if_neg (nI_ne0 hm (by omega)), powR _ _ _ hl hc]
    have cmp : (0 < lg_cmp (lN (cnt ^ (layTrees (S.1 109)).length)) (5000 : Int64)) = (5000 < cnt ^ (layTrees (S.1 109)).length) := by
      apply propext
      rw [lg_cmp_gt]
      exact pk_lLT (a := 5000) (by omega) (by omega)
    by_cases big : 5000 < cnt ^ (layTrees (S.1 109)).length
    · refine ⟨U1, a1, fun i hi => b1 i (by omega), fun q => absurd q c0, fun _ _ _ => ⟨b1 116 (by decide), ?_⟩, fun _ _ q => by omega⟩
      have : 0 < lg_cmp (lN (cnt ^ (layTrees (S.1 109)).length)) (5000 : Int64) := by rw [cmp]; exact big
      rw [if_pos this]
    · have nb : ¬ 0 < lg_cmp (lN (cnt ^ (layTrees (S.1 109)).length)) (5000 : Int64) := by rw [cmp]; exact big
      have A1 : U1.1 109 = S.1 109 := b1 109 (by decide)
      obtain ⟨U2, e2, a2, b2, t2⟩ := fitsRows (S := U1) (by rw [A1]; exact h) (fun e151_1 e151_2 T151 => (f_X7_best_L154 6000 (fun e227_1 e227_2 T227 => (f_X7_best_L230 6000 (fun e250_1 e250_2 T250 => (f_X7_best_L256 6000 (fun e459_5 T459 => (some (e459_5, (wr T459 108 9 (1 : Int32))))) e250_1 e250_2 (-1 : Int32) (1 : Int32) T250)) e227_1 e227_2 (0 : Int32) T227)) e151_1 e151_2 (0 : Int32) T151)) (nI (layTrees (S.1 109)).length)
      rw [A1] at t2
      have A2 : U2.1 109 = S.1 109 := by rw [b2 109 (by decide), A1]
      obtain ⟨U3, e3, a3, b3, t3⟩ := nearRows (S := U2) (tr := fun t => (layTrees (S.1 109)).getD t 0) (m := (layTrees (S.1 109)).length) (by rw [A2]; exact h) hl (fun t => layTrees_lt t) (fun t ht => by rw [b2 121 (by decide)]; exact t1 t ht) (fun e227_1 e227_2 T227 => (f_X7_best_L230 6000 (fun e250_1 e250_2 T250 => (f_X7_best_L256 6000 (fun e459_5 T459 => (some (e459_5, (wr T459 108 9 (1 : Int32))))) e250_1 e250_2 (-1 : Int32) (1 : Int32) T250)) e227_1 e227_2 (0 : Int32) T227)) (nI cnt)
      rw [A2] at t3
      obtain ⟨U4, e4, f4⟩ := trialR (S := U3) hl (fun e250_1 e250_2 T250 => (f_X7_best_L256 6000 (fun e459_5 T459 => (some (e459_5, (wr T459 108 9 (1 : Int32))))) e250_1 e250_2 (-1 : Int32) (1 : Int32) T250)) (nI cnt)
      obtain ⟨g, U5, e5, g5, a5, b5, t5⟩ := mainR (A := S.1 109) (n := cnt) (S := U4) hn hc hm (by omega) (fun t ht => by rw [f4.1 121 (by decide), b3 121 (by decide), b2 121 (by decide)]; exact t1 t ht) (fun t ht => by have := f4.at (k := t) ht; rw [Nat.zero_add] at this; exact this) (fun s o hs ho => by rw [f4.1 123 (by decide), b3 123 (by decide)]; exact t2 s o hs ho) (fun a b x y => by rw [f4.1 124 (by decide)]; exact t3 a b x y) (fun e459_5 T459 => (some (e459_5, (wr T459 108 9 (1 : Int32)))))
      refine ⟨U5, by rw [a5, f4.2.1, a3, a2, a1], fun i hi => by rw [b5 i (by omega) (by omega), f4.1 i (by omega), b3 i (by omega), b2 i (by omega), b1 i (by omega)], fun q => absurd q c0, fun _ _ q => absurd q big, fun _ _ _ => ⟨g, g5, ?_, t5⟩⟩
      rw [if_neg nb, e2, e3, e4, e5]
