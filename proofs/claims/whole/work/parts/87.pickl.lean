/-- the class's cells while it picks -/
def PkC (cnt T : Nat) (S : St) (bs : Nat → Nat) (s : PS) (U : St) : Prop := (∀ i, i < 8 ∨ (20 ≤ i ∧ i % 2 = 0) ∨ 44 ≤ i → U.1 i = S.1 i) ∧ (∀ x k, x < 6 → k < 6 → U.1 (8 + 2 * x) k = S.1 (8 + 2 * x) k) ∧ (∀ i, i ≠ 7 → U.2 i = S.2 i) ∧ (∀ p q, p < 12 → q < 2 → U.1 (21 + 2 * p) q = nI (s.2.1 (2 * p + q))) ∧ (∀ x, x < cnt → U.1 (8 + 2 * x) 6 = nI (bs x + s.2.2.1 x) ∧ ∀ k, k < 60 → U.1 (9 + 2 * x) k = if k = T % 60 then nI (s.2.2.1 x) else S.1 (9 + 2 * x) k) ∧ ∀ k, U.2 7 k = if k = 2 then S.2 7 2 + lN s.2.2.2 else S.2 7 k
theorem PkC.frC {cnt T : Nat} {S U : St} {bs : Nat → Nat} {s : PS} (h : PkC cnt T S bs s U) : FrC S U := ⟨fun i hi => h.1 i (by omega), h.2.1, fun p k hp hk => by rw [h.1 _ (by omega)], h.2.2.1⟩
theorem PkC.step {cnt T : Nat} {S U : St} {bs : Nat → Nat} {s : PS} {srt : Nat → Nat} {p q : Nat} (h : PkC cnt T S bs s U) (hc : cnt ≤ 6) (hp : p < 12) (hq : q < 2) (hs : srt (2 * p + q) < cnt) : PkC cnt T S bs (nxt srt s (2 * p + q)) (wrL (wr (wr (wr U (21 + 2 * p) q (nI (s.2.1 (2 * p + q) - pkd s (2 * p + q)))) (9 + 2 * srt (2 * p + q)) (T % 60) (nI (s.2.2.1 (srt (2 * p + q)) + pkd s (2 * p + q)))) (8 + 2 * srt (2 * p + q)) 6 (nI (bs (srt (2 * p + q)) + s.2.2.1 (srt (2 * p + q)) + pkd s (2 * p + q)))) 7 2 (U.2 7 2 + lN (pkd s (2 * p + q)))) := by
  obtain ⟨h1, h2, h3, h4, h5, h6⟩ := h
  refine ⟨fun i hi => ?_, fun x k hx hk => ?_, fun i hi => ?_, fun r t hr ht => ?_, fun x hx => ⟨?_, fun k hk => ?_⟩, fun k => ?_⟩
  · rw [wrL1, wr1_ne (by omega), wr1_ne (by omega), wr1_ne (by omega)]; exact h1 i hi
  · rw [wrL1]
    by_cases e : x = srt (2 * p + q)
    · rw [e, wr1_eq, if_neg (by omega), wr1_ne (by omega), wr1_ne (by omega), ← e]; exact h2 x k hx hk
    · rw [wr1_ne (by omega), wr1_ne (by omega), wr1_ne (by omega)]; exact h2 x k hx hk
  · rw [wrL2_ne hi]; exact h3 i hi
  · rw [wrL1, wr1_ne (by omega), wr1_ne (by omega)]
    show _ = nI (if 2 * r + t = 2 * p + q then s.2.1 (2 * p + q) - pkd s (2 * p + q) else s.2.1 (2 * r + t))
    by_cases e : r = p
    · subst e
      rw [wr1_eq]
      by_cases e2 : t = q
      · subst e2; rw [if_pos rfl, if_pos rfl]
      · rw [if_neg e2, if_neg (by omega)]; exact h4 r t hr ht
    · rw [wr1_ne (by omega), if_neg (by omega)]; exact h4 r t hr ht
  · rw [wrL1]
    show _ = nI (bs x + (if x = srt (2 * p + q) then s.2.2.1 x + pkd s (2 * p + q) else s.2.2.1 x))
    by_cases e : x = srt (2 * p + q)
    · rw [if_pos e, e, wr1_eq, if_pos rfl, Nat.add_assoc]
    · rw [if_neg e, wr1_ne (by omega), wr1_ne (by omega), wr1_ne (by omega)]; exact (h5 x hx).1
  · rw [wrL1, wr1_ne (by omega)]
    show _ = if k = T % 60 then nI (if x = srt (2 * p + q) then s.2.2.1 x + pkd s (2 * p + q) else s.2.2.1 x) else S.1 (9 + 2 * x) k
    by_cases e : x = srt (2 * p + q)
    · rw [if_pos e]
      subst e
      rw [wr1_eq]
      by_cases e2 : k = T % 60
      · rw [if_pos e2, if_pos e2]
      · rw [if_neg e2, if_neg e2, wr1_ne (by omega), (h5 _ hx).2 k hk, if_neg e2]
    · rw [if_neg e, wr1_ne (by omega), wr1_ne (by omega)]; exact (h5 x hx).2 k hk
  · rw [wrL2_eq]
    show _ = if k = 2 then S.2 7 2 + lN (s.2.2.2 + pkd s (2 * p + q)) else S.2 7 k
    by_cases e : k = 2
    · rw [if_pos e, if_pos e, h6 2, if_pos rfl, l_assoc, lN_add]
    · rw [if_neg e, if_neg e]
      show U.2 7 k = _
      rw [h6 k, if_neg e]
theorem pickLoopC {cnt yr T : Nat} {S : St} {A : Nat → Int32} {W : Nat → Nat} {bs : Nat → Nat} (h : OrA cnt yr A) (hC : OrC cnt S A) (hW : SeaC cnt W A S) {day : Nat} (hd : day < 50) (hsl : S.1 1 11 = nI (T % 60)) (s0 : PS) (hL : s0.1 ≤ 1000) (hb : ∀ k, k < 24 → s0.2.1 k ≤ 40000) (hv : PkC cnt T S bs s0 S) : ∃ S', f_X0_pickFruits_L19 6000 (fun T132 => (some T132)) (nI day) (nI s0.1) 0 S = some S' ∧ PkC cnt T S bs (itr (fun k => ripA A W k day) (srtA A) 24 s0) S' := by
  have hc := h.1
  have srtOf : ∀ k, k < 24 → ripA A W k day = true → ptA A k = true ∧ srtA A k < cnt := fun k hk hr => by
    have hpt : ptA A k = true := by unfold ripA at hr; simp only [Bool.and_eq_true] at hr; exact hr.1
    exact ⟨hpt, (h.srtK hk hpt).1⟩
  have key := loop_d (fun n (v : Int32 × Int32 × St) => f_X0_pickFruits_L19 n (fun T132 => (some T132)) (nI day) v.1 v.2.1 v.2.2)
    (fun m v => m ≤ 24 ∧ v.2.1 = nI (24 - m) ∧ ∃ s : PS, v.1 = nI s.1 ∧ s.1 ≤ 1000 ∧ (∀ k, k < 24 → s.2.1 k ≤ 40000) ∧ PkC cnt T S bs s v.2.2 ∧ itr (fun k => ripA A W k day) (srtA A) m s = itr (fun k => ripA A W k day) (srtA A) 24 s0)
    (fun r => ∃ S', r = some S' ∧ PkC cnt T S bs (itr (fun k => ripA A W k day) (srtA A) 24 s0) S') ?_ ?_ 24 6000 (nI s0.1, 0, S) (by omega) ⟨Nat.le_refl _, rfl, s0, rfl, hL, hb, hv, rfl⟩
  · exact key
  · intro n m v hP
    obtain ⟨left, rnd, U⟩ := v
    obtain ⟨hm, e1, s, e2, hl, hbs, hU, hit⟩ := hP
    simp only at e1 e2 hU
    subst e1 e2
    have c1 : (nI (24 - (m + 1)) < (24 : Int32)) = True := ltT (N := 24) (by omega) (by decide)
    have hCU := hU.frC.orC hC hc
    have hWU := hU.frC.sea hW
    by_cases l0 : s.1 = 0
    · right
      have st : stp (fun k => ripA A W k day) (srtA A) s = none := by unfold stp; rw [if_pos l0]
      have hfin : s = itr (fun k => ripA A W k day) (srtA A) 24 s0 := by rw [← hit, itr, st]
      have c2 : (0 < nI s.1) = False := by rw [l0]; decide
      refine ⟨U, ?_, by rw [← hfin]; exact hU⟩
      simp only [f_X0_pickFruits_L19, c1, c2, if_true, if_false]
    · have c2 : (0 < nI s.1) = True := ltT (j := 0) (by omega) (by omega)
      have ef := fullC h hCU hWU hd hU.2.2.2.1 hbs
      cases hq : bst (fun k => ripA A W k day) s.2.1 24 with
      | none =>
        right
        have st : stp (fun k => ripA A W k day) (srtA A) s = none := by unfold stp; rw [if_neg l0, hq]
        have hfin : s = itr (fun k => ripA A W k day) (srtA A) 24 s0 := by rw [← hit, itr, st]
        rw [hq] at ef
        have c3 : (enc none < 0) = True := by decide
        refine ⟨U, ?_, by rw [← hfin]; exact hU⟩
        simp only [f_X0_pickFruits_L19, c1, c2, if_true, ef, Option.bind_some, c3]
      | some b =>
        left
        obtain ⟨b1, b2, b3⟩ := bst_some hq
        have st : stp (fun k => ripA A W k day) (srtA A) s = some (nxt (srtA A) s b) := by unfold stp; rw [if_neg l0, hq]
        have hnx : itr (fun k => ripA A W k day) (srtA A) m (nxt (srtA A) s b) = itr (fun k => ripA A W k day) (srtA A) 24 s0 := by rw [← hit, itr, st]
        obtain ⟨hptb, hsb⟩ := srtOf b b1 b2
        rw [hq] at ef
        have c3 : (enc (some b) < 0) = False := eq_false (nI_pos (by omega))
        obtain ⟨p, q, hp, hqq, rfl⟩ : ∃ p q, p < 12 ∧ q < 2 ∧ b = 2 * p + q := ⟨b / 2, b % 2, by omega, by omega, by omega⟩
        have hst := hU.step hc hp hqq (srt := srtA A) hsb
        have d1 : enc (some (2 * p + q)) / 2 = nI p := half_nat hp hqq
        have d2 : enc (some (2 * p + q)) - nI p * 2 = nI q := by
          have := rem_nat hp hqq
          rw [half_nat hp hqq] at this; exact this
        have i1 : inb (nI p) 12 = true := inb_nI hp (by decide)
        have x1 : ix (nI p) = p := ix_nI (by omega)
        have i2 : inb (nI q) 2 = true := inb_nI hqq (by decide)
        have x2 : ix (nI q) = q := ix_nI (by omega)
        have e21 : 20 + 2 * p + 1 = 21 + 2 * p := by omega
        have hf : rd U (21 + 2 * p) q = nI (s.2.1 (2 * p + q)) := hU.2.2.2.1 p q hp hqq
        have hbk := hbs (2 * p + q) b1
        have emn : mnI (nI s.1) (nI (s.2.1 (2 * p + q))) = nI (pkd s (2 * p + q)) := mn_nat (by omega) (by omega)
        have hpk : pkd s (2 * p + q) ≤ s.2.1 (2 * p + q) ∧ pkd s (2 * p + q) ≤ s.1 := by unfold pkd; omega
        have es1 : nI (s.2.1 (2 * p + q)) - nI (pkd s (2 * p + q)) = nI (s.2.1 (2 * p + q) - pkd s (2 * p + q)) := pk_sub hpk.1
        have es2 : nI s.1 - nI (pkd s (2 * p + q)) = nI (s.1 - pkd s (2 * p + q)) := pk_sub hpk.2
        have hptq : isPt (A (66 + 11 * p + 2)) q = true := by rw [← ptA_at hqq]; exact hptb
        generalize hV : wr U (21 + 2 * p) q (nI (s.2.1 (2 * p + q) - pkd s (2 * p + q))) = V at *
        have oV : ∀ i, i ≠ 21 + 2 * p → V.1 i = U.1 i := fun i hi => by rw [← hV, wr1_ne hi]
        have hCV : OrC cnt V A := hCU.cong hc (fun k _ => by rw [oV 1 (by omega)]) (fun x k _ _ => by rw [oV _ (by omega)]) (fun r k _ _ => by rw [oV _ (by omega)])
        have eso := sortOfC h hCV hp hqq hptq
        have i3 : inb (nI (srtA A (2 * p + q))) 6 = true := inb_nI (by omega) (by decide)
        have x3 : ix (nI (srtA A (2 * p + q))) = srtA A (2 * p + q) := ix_nI (by omega)
        have hslV : rd V 1 11 = nI (T % 60) := by show V.1 1 11 = _; rw [oV 1 (by omega), hU.1 1 (by omega)]; exact hsl
        have i4 : inb (nI (T % 60)) 60 = true := inb_nI (Nat.mod_lt _ (by decide)) (by decide)
        have x4 : ix (nI (T % 60)) = T % 60 := ix_nI (by omega)
        have e89 : 8 + 2 * srtA A (2 * p + q) + 1 = 9 + 2 * srtA A (2 * p + q) := by omega
        have r1 : rd V (9 + 2 * srtA A (2 * p + q)) (T % 60) = nI (s.2.2.1 (srtA A (2 * p + q))) := by
          show V.1 _ _ = _
          rw [oV _ (by omega), (hU.2.2.2.2.1 _ hsb).2 _ (Nat.mod_lt _ (by decide)), if_pos rfl]
        have r2 : ∀ v, rd (wr V (9 + 2 * srtA A (2 * p + q)) (T % 60) v) (8 + 2 * srtA A (2 * p + q)) 6 = nI (bs (srtA A (2 * p + q)) + s.2.2.1 (srtA A (2 * p + q))) := fun v => by
          show (wr V _ _ v).1 _ _ = _
          rw [wr1_ne (by omega), oV _ (by omega), (hU.2.2.2.2.1 _ hsb).1]
        have el : (nI (pkd s (2 * p + q))).toInt64 = lN (pkd s (2 * p + q)) := nI_l (by omega)
        have e24 : nI (24 - (m + 1)) + 1 = nI (24 - m) := by rw [nI_1]; congr 1; omega
        refine ⟨(nI (s.1 - pkd s (2 * p + q)), nI (24 - m), wrL (wr (wr V (9 + 2 * srtA A (2 * p + q)) (T % 60) (nI (s.2.2.1 (srtA A (2 * p + q)) + pkd s (2 * p + q)))) (8 + 2 * srtA A (2 * p + q)) 6 (nI (bs (srtA A (2 * p + q)) + s.2.2.1 (srtA A (2 * p + q)) + pkd s (2 * p + q)))) 7 2 (U.2 7 2 + lN (pkd s (2 * p + q)))), ⟨by omega, rfl, nxt (srtA A) s (2 * p + q), rfl, ?_, fun k hk => ?_, hst, hnx⟩, ?_⟩
        · show s.1 - pkd s (2 * p + q) ≤ 1000; omega
        · show (if k = 2 * p + q then s.2.1 (2 * p + q) - pkd s (2 * p + q) else s.2.1 k) ≤ 40000
          by_cases e : k = 2 * p + q
          · rw [if_pos e]; omega
          · rw [if_neg e]; exact hbs k hk
        · simp only [f_X0_pickFruits_L19, c1, c2, if_true, ef, Option.bind_some, c3, if_false, d1, d2, i1, x1, i2, x2, e21, hf, emn, es1, es2, hV, eso, i3, x3, hslV, f_X5_bring, i4, x4, e89, r1, nI_add, r2, ix_2, el, e24]
          have : rdL (wr (wr V (9 + 2 * srtA A (2 * p + q)) (T % 60) (nI (s.2.2.1 (srtA A (2 * p + q)) + pkd s (2 * p + q)))) (8 + 2 * srtA A (2 * p + q)) 6 (nI (bs (srtA A (2 * p + q)) + s.2.2.1 (srtA A (2 * p + q)) + pkd s (2 * p + q)))) 7 2 = U.2 7 2 := by
            show V.2 7 2 = _; rw [← hV]; rfl
          rw [this]
  · intro n v hP
    obtain ⟨left, rnd, U⟩ := v
    obtain ⟨hm, e1, s, e2, hl, hbs, hU, hit⟩ := hP
    simp only at e1 e2 hU
    subst e1 e2
    have c1 : (nI (24 - 0) < (24 : Int32)) = False := ltF (N := 24) (by omega) (by omega)
    refine ⟨U, by simp only [f_X0_pickFruits_L19, c1, if_false], ?_⟩
    rw [← hit]; exact hU
/-- the reference's cells while it picks -/
def PkR (T : Nat) (S : St) (s : PS) (U : St) : Prop := (∀ i, i ≠ 109 → U.1 i = S.1 i) ∧ (∀ i, i ≠ 111 → U.2 i = S.2 i) ∧ (∀ k, k < 66 ∨ 582 ≤ k ∨ (k < 198 ∧ (k - 66) % 11 ≠ 8 ∧ (k - 66) % 11 ≠ 9) → U.1 109 k = S.1 109 k) ∧ (∀ p q, p < 12 → q < 2 → U.1 109 (66 + 11 * p + (8 + q)) = nI (s.2.1 (2 * p + q))) ∧ (∀ x, x < 6 → ∀ k, k < 64 → U.1 109 (198 + 64 * x + k) = if k = T % 64 then nI (s.2.2.1 x) else S.1 109 (198 + 64 * x + k)) ∧ ∀ k, U.2 111 k = if k = 2 then S.2 111 2 + lN s.2.2.2 else S.2 111 k
theorem PkR.frR {T : Nat} {S U : St} {s : PS} (h : PkR T S s U) : FrR S U := ⟨fun i a _ _ _ => h.1 i a, fun k hk => h.2.2.1 k (by omega), fun p k hp hk => h.2.2.1 _ (by omega), h.2.1⟩
theorem PkR.step {T : Nat} {S U : St} {s : PS} {srt : Nat → Nat} {p q : Nat} (h : PkR T S s U) (hp : p < 12) (hq : q < 2) (hs : srt (2 * p + q) < 6) : PkR T S (nxt srt s (2 * p + q)) (wrL (wr (wr U 109 (66 + 11 * p + (8 + q)) (nI (s.2.1 (2 * p + q) - pkd s (2 * p + q)))) 109 (198 + 64 * srt (2 * p + q) + T % 64) (nI (s.2.2.1 (srt (2 * p + q)) + pkd s (2 * p + q)))) 111 2 (U.2 111 2 + lN (pkd s (2 * p + q)))) := by
  obtain ⟨h1, h2, h3, h4, h5, h6⟩ := h
  refine ⟨fun i hi => ?_, fun i hi => ?_, fun k hk => ?_, fun r t hr ht => ?_, fun x hx k hk => ?_, fun k => ?_⟩
  · rw [wrL1, wr1_ne hi, wr1_ne hi]; exact h1 i hi
  · rw [wrL2_ne hi]; exact h2 i hi
  · rw [wrL1, wr1_eq, if_neg (by omega), wr1_eq, if_neg (by omega)]; exact h3 k hk
  · rw [wrL1, wr1_eq, if_neg (by omega), wr1_eq]
    show _ = nI (if 2 * r + t = 2 * p + q then s.2.1 (2 * p + q) - pkd s (2 * p + q) else s.2.1 (2 * r + t))
    by_cases e : r = p ∧ t = q
    · obtain ⟨rfl, rfl⟩ := e
      rw [if_pos rfl, if_pos rfl]
    · rw [if_neg (by omega), if_neg (by omega)]; exact h4 r t hr ht
  · rw [wrL1, wr1_eq]
    show _ = if k = T % 64 then nI (if x = srt (2 * p + q) then s.2.2.1 x + pkd s (2 * p + q) else s.2.2.1 x) else S.1 109 (198 + 64 * x + k)
    have hm : T % 64 < 64 := Nat.mod_lt _ (by decide)
    by_cases e : x = srt (2 * p + q)
    · rw [if_pos e]
      by_cases e2 : k = T % 64
      · rw [if_pos e2, if_pos (by rw [e, e2]), e]
      · rw [if_neg e2, if_neg (by omega), wr1_eq, if_neg (by omega), h5 x hx k hk, if_neg e2]
    · rw [if_neg e, if_neg (by omega), wr1_eq, if_neg (by omega)]; exact h5 x hx k hk
  · rw [wrL2_eq]
    show _ = if k = 2 then S.2 111 2 + lN (s.2.2.2 + pkd s (2 * p + q)) else S.2 111 k
    by_cases e : k = 2
    · rw [if_pos e, if_pos e, h6 2, if_pos rfl, l_assoc, lN_add]
    · rw [if_neg e, if_neg e]
      show U.2 111 k = _
      rw [h6 k, if_neg e]
theorem pickLoopR {cnt yr T : Nat} {S : St} {rip : Nat → Bool} (h : OrA cnt yr (S.1 109)) (hT : T < 2 ^ 20) (h120 : ∀ k, k < 24 → S.1 120 k = if rip k = true then 1 else 0) (hrip : ∀ k, k < 24 → rip k = true → ptA (S.1 109) k = true) (s0 : PS) (h0 r0 : Nat) (hL : s0.1 = min h0 r0) (hh : h0 ≤ 1000) (hr : r0 ≤ 1000) (hb : ∀ k, k < 24 → s0.2.1 k ≤ 40000) (hv : PkR T S s0 S) : ∃ S', f_X7_pick_L21 6000 (fun T206 => (some T206)) (nI (64 + T)) (nI h0) (nI r0) 1 S = some S' ∧ PkR T S (itr rip (srtA (S.1 109)) 24 s0) S' := by
  have hc := h.1
  have hdone := itr_done (rip := rip) (srt := srtA (S.1 109)) 24 s0 (cN_le rip s0.2.1)
  have key := loop_d (fun n (v : Int32 × Int32 × Int32 × St) => f_X7_pick_L21 n (fun T206 => (some T206)) (nI (64 + T)) v.1 v.2.1 v.2.2.1 v.2.2.2)
    (fun i v => (v.2.2.1 = 1 ∧ ∃ (m : Nat) (s : PS) (a b : Nat), i = m + 2 ∧ v.1 = nI a ∧ v.2.1 = nI b ∧ a ≤ 1000 ∧ b ≤ 1000 ∧ s.1 = min a b ∧ (∀ k, k < 24 → s.2.1 k ≤ 40000) ∧ PkR T S s v.2.2.2 ∧ itr rip (srtA (S.1 109)) m s = itr rip (srtA (S.1 109)) 24 s0) ∨ (v.2.2.1 = 0 ∧ PkR T S (itr rip (srtA (S.1 109)) 24 s0) v.2.2.2))
    (fun r => ∃ S', r = some S' ∧ PkR T S (itr rip (srtA (S.1 109)) 24 s0) S') ?_ ?_ 26 6000 (nI h0, nI r0, 1, S) (by omega) (Or.inl ⟨rfl, 24, s0, h0, r0, rfl, rfl, rfl, hh, hr, hL, hb, hv, rfl⟩)
  · exact key
  · intro n i v hP
    obtain ⟨vh, vr, vm, U⟩ := v
    rcases hP with ⟨e1, m, s, a, b, e0, e2, e3, ha, hbb, hl, hbs, hU, hit⟩ | ⟨e1, hU⟩
    · simp only at e1 e2 e3 hU
      subst e1 e2 e3
      left
      have c1 : ((1 : Int32) = 0) = False := by decide
      have c0 : ((0 : Int32) = 0) = True := by decide
      have h120U : ∀ k, k < 24 → U.1 120 k = if rip k = true then 1 else 0 := fun k hk => by rw [hU.1 120 (by decide)]; exact h120 k hk
      have stopAt : stp rip (srtA (S.1 109)) s = none → (enc (bst rip s.2.1 24) < 0 ∨ ¬ 0 < nI a ∨ ¬ 0 < nI b) → ∃ T' : Int32 × Int32 × Int32 × St, ((T'.2.2.1 = 1 ∧ ∃ (m : Nat) (s : PS) (a b : Nat), i = m + 2 ∧ T'.1 = nI a ∧ T'.2.1 = nI b ∧ a ≤ 1000 ∧ b ≤ 1000 ∧ s.1 = min a b ∧ (∀ k, k < 24 → s.2.1 k ≤ 40000) ∧ PkR T S s T'.2.2.2 ∧ itr rip (srtA (S.1 109)) m s = itr rip (srtA (S.1 109)) 24 s0) ∨ (T'.2.2.1 = 0 ∧ PkR T S (itr rip (srtA (S.1 109)) 24 s0) T'.2.2.2)) ∧ f_X7_pick_L21 (n + 1) (fun T206 => (some T206)) (nI (64 + T)) (nI a) (nI b) 1 U = f_X7_pick_L21 n (fun T206 => (some T206)) (nI (64 + T)) T'.1 T'.2.1 T'.2.2.1 T'.2.2.2 := by
        intro hst hcd
        have hfin : s = itr rip (srtA (S.1 109)) 24 s0 := by
          rw [← hit]
          cases m with
          | zero => rfl
          | succ m => rw [itr, hst]
        refine ⟨(nI a, nI b, 0, U), Or.inr ⟨rfl, by rw [← hfin]; exact hU⟩, ?_⟩
        rw [f_X7_pick_L21, if_neg (by decide : ¬ (1 : Int32) = 0), fullR (rip := rip) (fr := s.2.1) h120U hU.2.2.2.1 hbs]
        by_cases w1 : enc (bst rip s.2.1 24) < 0
        · rw [if_pos w1, if_pos rfl]
        · rw [if_neg w1]
          by_cases w2 : 0 < nI a
          · rw [if_pos w2]
            by_cases w3 : 0 < nI b
            · rcases hcd with q | q | q
              · exact absurd q w1
              · exact absurd w2 q
              · exact absurd w3 q
            · rw [if_neg w3, if_pos rfl]
          · rw [if_neg w2, if_pos rfl]
      by_cases l0 : s.1 = 0
      · have st : stp rip (srtA (S.1 109)) s = none := by unfold stp; rw [if_pos l0]
        refine stopAt st (Or.inr ?_)
        rcases Nat.eq_zero_or_pos a with q | q
        · left; rw [q]; decide
        · right; rw [show b = 0 from by omega]; decide
      · cases hq : bst rip s.2.1 24 with
        | none =>
          have st : stp rip (srtA (S.1 109)) s = none := by unfold stp; rw [if_neg l0, hq]
          exact stopAt st (Or.inl (by rw [hq]; decide))
        | some bb =>
          obtain ⟨b1, b2, b3⟩ := bst_some hq
          have st : stp rip (srtA (S.1 109)) s = some (nxt (srtA (S.1 109)) s bb) := by unfold stp; rw [if_neg l0, hq]
          cases m with
          | zero =>
            exfalso
            have : s = itr rip (srtA (S.1 109)) 24 s0 := hit
            rw [← this, st] at hdone; cases hdone
          | succ m =>
            have hnx : itr rip (srtA (S.1 109)) m (nxt (srtA (S.1 109)) s bb) = itr rip (srtA (S.1 109)) 24 s0 := by rw [← hit, itr, st]
            have hptb := hrip bb b1 b2
            have hsb := (h.srtK b1 hptb).1
            obtain ⟨p, q, hp, hqq, rfl⟩ : ∃ p q, p < 12 ∧ q < 2 ∧ bb = 2 * p + q := ⟨bb / 2, bb % 2, by omega, by omega, by omega⟩
            have hst := hU.step hp hqq (srt := srtA (S.1 109)) (by omega)
            have w1 : ¬ enc (some (2 * p + q)) < 0 := nI_pos (by omega)
            have w2 : (0 : Int32) < nI a := nI_lt (a := 0) (by omega) (by omega)
            have w3 : (0 : Int32) < nI b := nI_lt (a := 0) (by omega) (by omega)
            have hbk := hbs (2 * p + q) b1
            have hf : rd U 109 (66 + 11 * p + (8 + q)) = nI (s.2.1 (2 * p + q)) := hU.2.2.2.1 p q hp hqq
            have ef : f_X7_fruitsOf (enc (some (2 * p + q))) U = some (nI (s.2.1 (2 * p + q))) := by
              have := fruitsOf_nat hp hqq U
              rw [hf] at this; exact this
            have hpkd : pkd s (2 * p + q) = min (min a b) (s.2.1 (2 * p + q)) := by unfold pkd; rw [hl]
            -- the rest, with n fruits
            have body : ∀ k : Nat, k = pkd s (2 * p + q) → ((f_X7_grow (enc (some (2 * p + q))) (-(nI k)) U).bind fun v158 => ((f_X7_sortOfPart (enc (some (2 * p + q))) v158).bind fun v168 => (if inb (f_X7_cell v168 (nI (64 + T))) 788 = true then (if inb (f_X7_cell v168 (nI (64 + T))) 788 = true then (f_X7_pick_L21 n (fun T206 => (some T206)) (nI (64 + T)) (nI a - nI k) (nI b - nI k) (1 : Int32) (wrL (wr v158 109 (ix (f_X7_cell v168 (nI (64 + T)))) ((rd v158 109 (ix (f_X7_cell v168 (nI (64 + T))))) + nI k)) 111 (ix (2 : Int32)) ((rdL (wr v158 109 (ix (f_X7_cell v168 (nI (64 + T)))) ((rd v158 109 (ix (f_X7_cell v168 (nI (64 + T))))) + nI k)) 111 (ix (2 : Int32))) + (nI k).toInt64))) else none) else none))) = f_X7_pick_L21 n (fun T206 => (some T206)) (nI (64 + T)) (nI (a - pkd s (2 * p + q))) (nI (b - pkd s (2 * p + q))) 1 (wrL (wr (wr U 109 (66 + 11 * p + (8 + q)) (nI (s.2.1 (2 * p + q) - pkd s (2 * p + q)))) 109 (198 + 64 * srtA (S.1 109) (2 * p + q) + T % 64) (nI (s.2.2.1 (srtA (S.1 109) (2 * p + q)) + pkd s (2 * p + q)))) 111 2 (U.2 111 2 + lN (pkd s (2 * p + q)))) := by
              intro k hk
              subst hk
              have g := grow_nat hp hqq (-(nI (pkd s (2 * p + q)))) U
              rw [hf, neg_nat (by omega)] at g
              have g' : f_X7_grow (enc (some (2 * p + q))) (-(nI (pkd s (2 * p + q)))) U = some (wr U 109 (66 + 11 * p + (8 + q)) (nI (s.2.1 (2 * p + q) - pkd s (2 * p + q)))) := g
              rw [g', Option.bind_some]
              generalize hV : wr U 109 (66 + 11 * p + (8 + q)) (nI (s.2.1 (2 * p + q) - pkd s (2 * p + q))) = V
              have v109 : ∀ j, j ≠ 66 + 11 * p + (8 + q) → V.1 109 j = U.1 109 j := fun j hj => by rw [← hV, wr1_eq, if_neg hj]
              have hAV : OrA cnt yr (V.1 109) := (hU.frR.orA h).cong (fun j hj => v109 j (by omega)) (fun r j hr hj => v109 _ (by omega)) (v109 783 (by omega)) (v109 784 (by omega))
              have hstat : ∀ j, j < 8 → V.1 109 (66 + 11 * p + j) = S.1 109 (66 + 11 * p + j) := fun j hj => by rw [v109 _ (by omega), hU.frR.2.2.1 p j hp hj]
              have eV : ptA (V.1 109) (2 * p + q) = true ∧ srtA (V.1 109) (2 * p + q) = srtA (S.1 109) (2 * p + q) := by
                unfold ptA srtA
                rw [show (2 * p + q) / 2 = p from by omega, show (2 * p + q) % 2 = q from by omega, hstat 2 (by decide), hstat (3 + q) (by omega)]
                refine ⟨?_, rfl⟩
                rw [← ptA_at hqq]; exact hptb
              have es := sortPartR hAV b1 eV.1
              rw [eV.2] at es
              have es' : f_X7_sortOfPart (enc (some (2 * p + q))) V = some (nI (srtA (S.1 109) (2 * p + q))) := es
              rw [es', Option.bind_some]
              have ec : f_X7_cell (nI (srtA (S.1 109) (2 * p + q))) (nI (64 + T)) = nI (198 + 64 * srtA (S.1 109) (2 * p + q) + T % 64) := by
                rw [cell_nat (by omega) (by omega)]; congr 1; omega
              have i4 : inb (nI (198 + 64 * srtA (S.1 109) (2 * p + q) + T % 64)) 788 = true := inb_nI (by omega) (by decide)
              have x4 : ix (nI (198 + 64 * srtA (S.1 109) (2 * p + q) + T % 64)) = 198 + 64 * srtA (S.1 109) (2 * p + q) + T % 64 := ix_nI (by omega)
              have rc : rd V 109 (198 + 64 * srtA (S.1 109) (2 * p + q) + T % 64) = nI (s.2.2.1 (srtA (S.1 109) (2 * p + q))) := by
                show V.1 109 _ = _
                rw [v109 _ (by omega), hU.2.2.2.2.1 _ (by omega) _ (Nat.mod_lt _ (by decide)), if_pos rfl]
              have el : (nI (pkd s (2 * p + q))).toInt64 = lN (pkd s (2 * p + q)) := nI_l (by omega)
              have sa : nI a - nI (pkd s (2 * p + q)) = nI (a - pkd s (2 * p + q)) := pk_sub (by omega)
              have sb : nI b - nI (pkd s (2 * p + q)) = nI (b - pkd s (2 * p + q)) := pk_sub (by omega)
              simp only [ec, i4, x4, if_true, rc, nI_add, el, sa, sb, ix_2]
              have : rdL (wr V 109 (198 + 64 * srtA (S.1 109) (2 * p + q) + T % 64) (nI (s.2.2.1 (srtA (S.1 109) (2 * p + q)) + pkd s (2 * p + q)))) 111 2 = U.2 111 2 := by
                show V.2 111 2 = _; rw [← hV]; rfl
              rw [this]
            refine ⟨(nI (a - pkd s (2 * p + q)), nI (b - pkd s (2 * p + q)), 1, _), Or.inl ⟨rfl, m, nxt (srtA (S.1 109)) s (2 * p + q), a - pkd s (2 * p + q), b - pkd s (2 * p + q), by omega, rfl, rfl, by omega, by omega, ?_, fun k hk => ?_, hst, hnx⟩, ?_⟩
            · show s.1 - pkd s (2 * p + q) = _; omega
            · show (if k = 2 * p + q then s.2.1 (2 * p + q) - pkd s (2 * p + q) else s.2.1 k) ≤ 40000
              by_cases e : k = 2 * p + q
              · rw [if_pos e]; omega
              · rw [if_neg e]; exact hbs k hk
            · rw [f_X7_pick_L21, if_neg (by decide : ¬ (1 : Int32) = 0), fullR (rip := rip) (fr := s.2.1) h120U hU.2.2.2.1 hbs, hq, if_neg w1, if_pos w2, if_pos w3, if_neg (by decide), ef, Option.bind_some]
              by_cases la : s.2.1 (2 * p + q) < a
              · rw [if_pos (nI_lt la (by omega)), Option.bind_some]
                by_cases lb : s.2.1 (2 * p + q) < b
                · rw [if_pos (nI_lt lb (by omega))]
                  exact body (s.2.1 (2 * p + q)) (by omega)
                · rw [if_neg (nI_nlt (by omega) (by omega))]
                  exact body b (by omega)
              · rw [if_neg (nI_nlt (by omega) (by omega))]
                by_cases lb : a < b
                · rw [if_pos (nI_lt lb (by omega))]
                  exact body a (by omega)
                · rw [if_neg (nI_nlt (by omega) (by omega))]
                  exact body b (by omega)
    · right
      simp only at e1 hU
      subst e1
      exact ⟨U, by rw [f_X7_pick_L21, if_pos rfl], hU⟩
  · intro n v hP
    obtain ⟨vh, vr, vm, U⟩ := v
    rcases hP with ⟨e1, m, s, a, b, e0, -⟩ | ⟨e1, hU⟩
    · omega
    · simp only at e1 hU
      subst e1
      exact ⟨U, by rw [f_X7_pick_L21, if_pos rfl], hU⟩
