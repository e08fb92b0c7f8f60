-- picking: hours or room left, the fruits, what came by sorts, all of it
abbrev PS : Type := Nat × (Nat → Nat) × (Nat → Nat) × Nat
def mst (fr : Nat → Nat) : Option Nat → Nat
  | none => 0
  | some b => fr b
def bst (rip : Nat → Bool) (fr : Nat → Nat) : Nat → Option Nat
  | 0 => none
  | j + 1 => if rip j = true ∧ mst fr (bst rip fr j) < fr j then some j else bst rip fr j
def pkd (s : PS) (b : Nat) : Nat := min s.1 (s.2.1 b)
def nxt (srt : Nat → Nat) (s : PS) (b : Nat) : PS := (s.1 - pkd s b, fun k => if k = b then s.2.1 b - pkd s b else s.2.1 k, fun x => if x = srt b then s.2.2.1 x + pkd s b else s.2.2.1 x, s.2.2.2 + pkd s b)
def stp (rip : Nat → Bool) (srt : Nat → Nat) (s : PS) : Option PS := if s.1 = 0 then none else match bst rip s.2.1 24 with
  | none => none
  | some b => some (nxt srt s b)
def itr (rip : Nat → Bool) (srt : Nat → Nat) : Nat → PS → PS
  | 0, s => s
  | n + 1, s => match stp rip srt s with
    | none => s
    | some s' => itr rip srt n s'
theorem bst_some {rip : Nat → Bool} {fr : Nat → Nat} : ∀ {j b : Nat}, bst rip fr j = some b → b < j ∧ rip b = true ∧ 0 < fr b
  | 0, b, h => by cases h
  | j + 1, b, h => by
    rw [bst] at h
    by_cases c : rip j = true ∧ mst fr (bst rip fr j) < fr j
    · rw [if_pos c] at h
      cases h
      exact ⟨by omega, c.1, by omega⟩
    · rw [if_neg c] at h
      have := bst_some h
      exact ⟨by omega, this.2⟩
theorem bst_none {rip : Nat → Bool} {fr : Nat → Nat} : ∀ {j : Nat}, bst rip fr j = none → ∀ k, k < j → rip k = true → fr k = 0
  | 0, h, k, hk, _ => by omega
  | j + 1, h, k, hk, hr => by
    rw [bst] at h
    by_cases c : rip j = true ∧ mst fr (bst rip fr j) < fr j
    · rw [if_pos c] at h; cases h
    · rw [if_neg c] at h
      by_cases e : k = j
      · subst e
        rw [h] at c
        have : ¬ (0 < fr k) := fun q => c ⟨hr, q⟩
        omega
      · exact bst_none h k (by omega) hr
def cN (rip : Nat → Bool) (fr : Nat → Nat) : Nat := fb_sum (fun k => if rip k = true ∧ 0 < fr k then 1 else 0) 24
theorem fb_pos {f : Nat → Nat} : ∀ {n : Nat}, fb_sum f n = 0 → ∀ k, k < n → f k = 0
  | 0, _, k, hk => by omega
  | n + 1, h, k, hk => by
    rw [fb_sum] at h
    by_cases e : k = n
    · subst e; omega
    · exact fb_pos (n := n) (by omega) k (by omega)
theorem stp_less {rip : Nat → Bool} {srt : Nat → Nat} {s s' : PS} (h : stp rip srt s = some s') : s'.1 = 0 ∨ cN rip s'.2.1 + 1 ≤ cN rip s.2.1 := by
  unfold stp at h
  by_cases h0 : s.1 = 0
  · rw [if_pos h0] at h; cases h
  · rw [if_neg h0] at h
    cases hb : bst rip s.2.1 24 with
    | none => rw [hb] at h; cases h
    | some b =>
      rw [hb] at h
      simp only [Option.some.injEq] at h
      obtain ⟨b1, b2, b3⟩ := bst_some hb
      subst h
      rcases Nat.lt_or_ge s.1 (s.2.1 b) with l | l
      · left
        show s.1 - min s.1 (s.2.1 b) = 0
        omega
      · right
        unfold cN
        have e : ∀ k, k < 24 → (if rip k = true ∧ 0 < (nxt srt s b).2.1 k then 1 else 0) = (fun k => if k = b then 0 else (if rip k = true ∧ 0 < s.2.1 k then 1 else 0)) k := fun k hk => by
          show (if rip k = true ∧ 0 < (if k = b then s.2.1 b - min s.1 (s.2.1 b) else s.2.1 k) then 1 else 0) = _
          by_cases ek : k = b
          · simp only [ek, if_true]
            rw [if_neg (fun q => by omega)]
          · simp only [ek, if_false]
        rw [fb_sum_cong e]
        have z := fb_zero_at (fun k => if rip k = true ∧ 0 < s.2.1 k then 1 else 0) (j := b) (n := 24) b1
        simp only [if_pos (⟨b2, b3⟩ : rip b = true ∧ 0 < s.2.1 b)] at z
        omega
theorem itr_done {rip : Nat → Bool} {srt : Nat → Nat} : ∀ (n : Nat) (s : PS), cN rip s.2.1 ≤ n → stp rip srt (itr rip srt n s) = none
  | 0, s, h => by
    show stp rip srt s = none
    unfold stp
    by_cases h0 : s.1 = 0
    · rw [if_pos h0]
    · rw [if_neg h0]
      cases hb : bst rip s.2.1 24 with
      | none => rfl
      | some b =>
        obtain ⟨b1, b2, b3⟩ := bst_some hb
        have := fb_pos (f := fun k => if rip k = true ∧ 0 < s.2.1 k then 1 else 0) (n := 24) (by unfold cN at h; omega) b b1
        rw [if_pos ⟨b2, b3⟩] at this
        omega
  | n + 1, s, h => by
    rw [itr]
    cases hs : stp rip srt s with
    | none => exact hs
    | some s' =>
      simp only []
      rcases stp_less hs with q | q
      · have st : stp rip srt s' = none := by unfold stp; rw [if_pos q]
        have ii : ∀ m, itr rip srt m s' = s' := fun m => by
          cases m with
          | zero => rfl
          | succ m => rw [itr, st]
        rw [ii]; exact st
      · exact itr_done n s' (by omega)
theorem cN_le (rip : Nat → Bool) (fr : Nat → Nat) : cN rip fr ≤ 24 := by
  have := fb_bound (f := fun k => if rip k = true ∧ 0 < fr k then 1 else 0) (b := 1) (n := 24) (fun k _ => by
    by_cases q : rip k = true ∧ 0 < fr k
    · rw [if_pos q]; exact Nat.le_refl _
    · rw [if_neg q]; omega)
  unfold cN; omega
/-- what holds all through the picking -/
def PkI (cnt L0 : Nat) (rip : Nat → Bool) (fr0 : Nat → Nat) (s : PS) : Prop := s.2.2.2 + s.1 = L0 ∧ fb_sum s.2.2.1 6 = s.2.2.2 ∧ (∀ k, k < 24 → s.2.1 k ≤ fr0 k) ∧ (∀ k, rip k = false → s.2.1 k = fr0 k) ∧ ∀ x, cnt ≤ x → s.2.2.1 x = 0
theorem PkI.step {cnt L0 : Nat} {rip : Nat → Bool} {srt fr0 : Nat → Nat} {s : PS} {b : Nat} (h : PkI cnt L0 rip fr0 s) (hc : cnt ≤ 6) (hb : b < 24) (hr : rip b = true) (hs : srt b < cnt) : PkI cnt L0 rip fr0 (nxt srt s b) := by
  obtain ⟨h1, h2, h3, h4, h5⟩ := h
  refine ⟨?_, ?_, fun k hk => ?_, fun k hk => ?_, fun x hx => ?_⟩
  · show s.2.2.2 + min s.1 (s.2.1 b) + (s.1 - min s.1 (s.2.1 b)) = L0
    omega
  · show fb_sum (fun x => if x = srt b then s.2.2.1 x + pkd s b else s.2.2.1 x) 6 = s.2.2.2 + pkd s b
    rw [fb_add_at s.2.2.1 (pkd s b) (j := srt b) (n := 6) (by omega), h2]
  · show (if k = b then s.2.1 b - pkd s b else s.2.1 k) ≤ fr0 k
    by_cases e : k = b
    · rw [if_pos e, e]; have := h3 b hb; omega
    · rw [if_neg e]; exact h3 k hk
  · show (if k = b then s.2.1 b - pkd s b else s.2.1 k) = fr0 k
    by_cases e : k = b
    · rw [e, hr] at hk; cases hk
    · rw [if_neg e]; exact h4 k hk
  · show (if x = srt b then s.2.2.1 x + pkd s b else s.2.2.1 x) = 0
    rw [if_neg (by omega)]; exact h5 x hx
theorem PkI.run {cnt L0 : Nat} {rip : Nat → Bool} {srt fr0 : Nat → Nat} (hc : cnt ≤ 6) (hs : ∀ k, k < 24 → rip k = true → srt k < cnt) : ∀ (n : Nat) {s : PS}, PkI cnt L0 rip fr0 s → PkI cnt L0 rip fr0 (itr rip srt n s)
  | 0, s, h => h
  | n + 1, s, h => by
    show PkI cnt L0 rip fr0 (match stp rip srt s with | none => s | some s' => itr rip srt n s')
    cases hst : stp rip srt s with
    | none => exact h
    | some s' =>
      unfold stp at hst
      by_cases h0 : s.1 = 0
      · rw [if_pos h0] at hst; cases hst
      · rw [if_neg h0] at hst
        cases hb : bst rip s.2.1 24 with
        | none => rw [hb] at hst; cases hst
        | some b =>
          rw [hb] at hst
          simp only [Option.some.injEq] at hst
          obtain ⟨b1, b2, b3⟩ := bst_some hb
          subst hst
          exact PkI.run hc hs n (h.step hc b1 b2 (hs b b1 b2))
def enc : Option Nat → Int32
  | none => -1
  | some b => nI b
/-- the class's search of the fullest part -/
theorem fullC {cnt yr : Nat} {S : St} {A : Nat → Int32} {W : Nat → Nat} {fr : Nat → Nat} (h : OrA cnt yr A) (hC : OrC cnt S A) (hW : SeaC cnt W A S) {day : Nat} (hd : day < 50) (hfr : ∀ p q, p < 12 → q < 2 → S.1 (21 + 2 * p) q = nI (fr (2 * p + q))) (hb : ∀ k, k < 24 → fr k ≤ 40000) : f_X0_fullestRipe (nI day) S = some (enc (bst (fun k => ripA A W k day) fr 24)) := by
  generalize hrip : (fun k => ripA A W k day) = rip
  have ripv : ∀ k, rip k = ripA A W k day := fun k => by rw [← hrip]
  have mb : ∀ c, c ≤ 24 → mst fr (bst rip fr c) ≤ 40000 := fun c hc => by
    cases hq : bst rip fr c with
    | none => exact Nat.zero_le _
    | some b => exact hb b (by have := (bst_some hq).1; omega)
  have turn : ∀ (n p q : Nat) (K : Int32 → Int32 → Int32 → Int32 → Option Int32), p < 12 → q < 2 → isPt (A (66 + 11 * p + 2)) q = true → f_X0_fullestRipe_L27 (n + 1) K (nI day) (enc (bst rip fr (2 * p + q))) (nI (mst fr (bst rip fr (2 * p + q)))) (nI p) (20 + 2 * p) (nI q) S = f_X0_fullestRipe_L27 n K (nI day) (enc (bst rip fr (2 * p + q + 1))) (nI (mst fr (bst rip fr (2 * p + q + 1)))) (nI p) (20 + 2 * p) (nI (q + 1)) S := by
    intro n p q K hp hq hpt
    have e1 : (nI q < f_X2_partCount (20 + 2 * p) S) = True := by rw [pcC h hC hp hq, hpt]; simp
    have hin : inb (nI q) 2 = true := inb_nI hq (by decide)
    have hix : ix (nI q) = q := ix_nI (by omega)
    have e21 : 20 + 2 * p + 1 = 21 + 2 * p := by omega
    have hf : rd S (21 + 2 * p) q = nI (fr (2 * p + q)) := hfr p q hp hq
    have hm := mb (2 * p + q) (by omega)
    have hbk := hb (2 * p + q) (by omega)
    have er := ripeC h hC hW hp hq hd hpt
    rw [← ripv] at er
    have ek : nI p * 2 + nI q = nI (2 * p + q) := by rw [show (2 : Int32) = nI 2 from rfl, pk_mul, nI_add, Nat.mul_comm]
    have eb : bst rip fr (2 * p + q + 1) = if rip (2 * p + q) = true ∧ mst fr (bst rip fr (2 * p + q)) < fr (2 * p + q) then some (2 * p + q) else bst rip fr (2 * p + q) := rfl
    rw [eb]
    simp only [f_X0_fullestRipe_L27, e1, if_true, hin, hix, e21, hf, er, Option.bind_some, ek, nI_1]
    by_cases l : mst fr (bst rip fr (2 * p + q)) < fr (2 * p + q)
    · rw [if_pos (nI_lt l (by omega))]
      cases r : rip (2 * p + q) with
      | true => rw [if_pos rfl, if_pos ⟨rfl, l⟩]; rfl
      | false => rw [if_neg (by decide), if_neg (fun q => by cases q.1)]
    · rw [if_neg (nI_nlt (by omega) (by omega)), if_neg (fun q => l q.2)]
  have stop : ∀ (n p q : Nat) (K : Int32 → Int32 → Int32 → Int32 → Option Int32) (u v : Int32), p < 12 → q < 2 → isPt (A (66 + 11 * p + 2)) q = false → f_X0_fullestRipe_L27 (n + 1) K (nI day) u v (nI p) (20 + 2 * p) (nI q) S = K (nI day) u v (nI p) := by
    intro n p q K u v hp hq hh
    have e1 : (nI q < f_X2_partCount (20 + 2 * p) S) = False := by rw [pcC h hC hp hq, hh]; simp
    simp only [f_X0_fullestRipe_L27, e1, if_false]
  have last : ∀ (n p : Nat) (K : Int32 → Int32 → Int32 → Int32 → Option Int32) (u v : Int32), p < 12 → f_X0_fullestRipe_L27 (n + 1) K (nI day) u v (nI p) (20 + 2 * p) (nI 2) S = K (nI day) u v (nI p) := by
    intro n p K u v hp
    simp only [f_X0_fullestRipe_L27, pc2C h hC hp, if_false]
  have skip : ∀ p q, q < 2 → isPt (A (66 + 11 * p + 2)) q = false → bst rip fr (2 * p + q + 1) = bst rip fr (2 * p + q) := fun p q hq hh => by
    have e : rip (2 * p + q) = false := by rw [ripv]; unfold ripA; rw [ptA_at hq, hh, Bool.false_and]
    rw [bst, if_neg (fun r => by rw [e] at r; cases r.1)]
  have place : ∀ (p : Nat) (K : Int32 → Int32 → Int32 → Int32 → Option Int32), p < 12 → f_X0_fullestRipe_L27 6000 K (nI day) (enc (bst rip fr (2 * p))) (nI (mst fr (bst rip fr (2 * p)))) (nI p) (20 + 2 * p) 0 S = K (nI day) (enc (bst rip fr (2 * (p + 1)))) (nI (mst fr (bst rip fr (2 * (p + 1))))) (nI p) := by
    intro p K hp
    rw [show (0 : Int32) = nI 0 from rfl, show (6000 : Nat) = 5997 + 1 + 1 + 1 from rfl, show 2 * (p + 1) = 2 * p + 1 + 1 from by omega]
    cases p0 : isPt (A (66 + 11 * p + 2)) 0 with
    | false =>
      have p1 : isPt (A (66 + 11 * p + 2)) 1 = false := by
        cases q1 : isPt (A (66 + 11 * p + 2)) 1 with
        | false => rfl
        | true => rw [isPt_0 (isPt_tree q1 (by decide))] at p0; cases p0
      rw [stop _ p 0 K _ _ hp (by decide) p0, skip p 1 (by decide) p1, show 2 * p + 1 = 2 * p + 0 + 1 from rfl, skip p 0 (by decide) p0]; rfl
    | true =>
      have t0 := turn (5997 + 1 + 1) p 0 K hp (by decide) p0
      rw [show 2 * p + 0 = 2 * p from rfl] at t0
      rw [t0]
      cases p1 : isPt (A (66 + 11 * p + 2)) 1 with
      | false => rw [show (0 + 1 : Nat) = 1 from rfl, stop _ p 1 K _ _ hp (by decide) p1, skip p 1 (by decide) p1]
      | true => rw [show (0 + 1 : Nat) = 1 from rfl, turn (5997 + 1) p 1 K hp (by decide) p1, show (1 + 1 : Nat) = 2 from rfl, last _ p K _ _ hp]
  have := loop_up (N := 12) (fun n i (v : Int32 × Int32) => f_X0_fullestRipe_L8 n (fun e93_3 => (some e93_3)) (nI day) v.1 v.2 i S) (fun v => some v.1) (fun j v => v = (enc (bst rip fr (2 * j)), nI (mst fr (bst rip fr (2 * j))))) (fun n j v hj hP => by
    subst hP
    have h1 : (nI j < (12 : Int32)) = True := ltT hj (by decide)
    have hin : inb (nI j) 12 = true := inb_nI hj (by decide)
    have hix : ix (nI j) = j := ix_nI (by omega)
    refine ⟨_, rfl, ?_⟩
    simp only [f_X0_fullestRipe_L8, h1, hin, hix, if_true]
    rw [place j _ hj, nI_1]) (fun n v hP => by
    subst hP
    have h1 : (nI 12 < (12 : Int32)) = False := ltF (N := 12) (by decide) (by decide)
    simp only [f_X0_fullestRipe_L8, h1, if_false]) (fuel := 6000) (T := (-1, 0)) (by decide) rfl
  rw [nI_0] at this
  obtain ⟨v, hv, e⟩ := this
  subst hv
  exact e
/-- the reference's search -/
theorem fullR {S : St} {rip : Nat → Bool} {fr : Nat → Nat} (h120 : ∀ k, k < 24 → S.1 120 k = if rip k = true then 1 else 0) (hfr : ∀ p q, p < 12 → q < 2 → S.1 109 (66 + 11 * p + (8 + q)) = nI (fr (2 * p + q))) (hb : ∀ k, k < 24 → fr k ≤ 40000) (K : Int32 → Int32 → Int32 → Int32 → St → Option St) (a b c : Int32) : f_X7_pick_L32 6000 K a b c (-1) 0 S = K a b c (enc (bst rip fr 24)) S := by
  have ef : ∀ k, k < 24 → f_X7_fruitsOf (nI k) S = some (nI (fr k)) := fun k hk => by
    have e := fruitsOf_nat (p := k / 2) (q := k % 2) (khalf_lt hk) (by omega) S
    have e2 := hfr (k / 2) (k % 2) (khalf_lt hk) (by omega)
    rw [k_eq] at e e2
    rw [e]; exact congrArg some e2
  have := loop_up (N := 24) (fun n i (v : Int32) => f_X7_pick_L32 n K a b c v i S) (fun v => K a b c v S) (fun j v => v = enc (bst rip fr j)) (fun n j v hj hP => by
    subst hP
    have h1 : (nI j < (24 : Int32)) = True := ltT hj (by decide)
    have hin : inb (nI j) 24 = true := inb_nI hj (by decide)
    have hix : ix (nI j) = j := ix_nI (by omega)
    have e120 : rd S 120 j = if rip j = true then 1 else 0 := h120 j hj
    have hbj := hb j hj
    refine ⟨_, rfl, ?_⟩
    have eb : bst rip fr (j + 1) = if rip j = true ∧ mst fr (bst rip fr j) < fr j then some j else bst rip fr j := rfl
    rw [eb]
    simp only [f_X7_pick_L32, h1, hin, hix, if_true, e120, ef j hj, Option.bind_some, nI_1]
    cases r : rip j with
    | false =>
      have z : (if false = true then (1 : Int32) else 0) = 0 := by decide
      have z2 : ¬ (false = true ∧ mst fr (bst rip fr j) < fr j) := fun q => by cases q.1
      rw [if_pos z, if_neg z2]
    | true =>
      have z : ¬ (if true = true then (1 : Int32) else 0) = 0 := by decide
      rw [if_neg z]
      cases hq : bst rip fr j with
      | none =>
        have m1 : enc (none : Option Nat) < 0 := by decide
        show (if (0 : Int32) < nI (fr j) then (if enc none < 0 then _ else _) else _) = _
        by_cases l : 0 < fr j
        · have l' : (0 : Int32) < nI (fr j) := nI_lt (a := 0) l (by omega)
          rw [if_pos l', if_pos m1, if_pos (⟨rfl, l⟩ : true = true ∧ mst fr none < fr j)]; rfl
        · have l' : ¬ (0 : Int32) < nI (fr j) := by rw [show fr j = 0 from by omega]; decide
          rw [if_neg l', if_neg (fun q => l q.2)]
      | some bb =>
        obtain ⟨b1, b2, b3⟩ := bst_some hq
        have hbb := hb bb (by omega)
        have m1 : ¬ enc (some bb) < 0 := nI_pos (by omega)
        show (if (0 : Int32) < nI (fr j) then (if enc (some bb) < 0 then _ else ((f_X7_fruitsOf (nI bb) S).bind fun v72 => _)) else _) = _
        rw [if_neg m1, ef bb (by omega), Option.bind_some]
        by_cases l : fr bb < fr j
        · have l0 : (0 : Int32) < nI (fr j) := nI_lt (a := 0) (by omega) (by omega)
          rw [if_pos l0, if_pos (nI_lt l (by omega)), if_pos (⟨rfl, l⟩ : true = true ∧ mst fr (some bb) < fr j)]; rfl
        · have z2 : ¬ (true = true ∧ mst fr (some bb) < fr j) := fun q => l q.2
          have z3 : ¬ nI (fr bb) < nI (fr j) := nI_nlt (by omega) (by omega)
          rw [if_neg z2, if_neg z3]
          by_cases l0 : (0 : Int32) < nI (fr j)
          · rw [if_pos l0]
          · rw [if_neg l0]) (fun n v hP => by
    have h1 : (nI 24 < (24 : Int32)) = False := ltF (N := 24) (by decide) (by decide)
    simp only [f_X7_pick_L32, h1, if_false]) (fuel := 6000) (T := -1) (by decide) rfl
  rw [nI_0] at this
  obtain ⟨v, hv, e⟩ := this
  subst hv
  exact e
