-- loops: what holds behind them
/-- a loop that counts up to N: P holds at each turn; either it goes on or Q holds of what it gives -/
theorem loop_q {α σ : Type} {N : Nat} (L : Nat → Int32 → σ → Option α) (P : Nat → σ → Prop) (Q : Option α → Prop)
    (hstep : ∀ n j T, j < N → P j T → (∃ T', P (j + 1) T' ∧ L (n + 1) (nI j) T = L n (nI (j + 1)) T') ∨ Q (L (n + 1) (nI j) T))
    (hend : ∀ n T, P N T → Q (L (n + 1) (nI N) T)) : ∀ m j fuel T, j + m = N → m < fuel → P j T → Q (L fuel (nI j) T) := by
  intro m
  induction m with
  | zero =>
    intro j fuel T hj hf hP
    cases fuel with
    | zero => omega
    | succ n =>
      have : j = N := by omega
      subst this
      exact hend n T hP
  | succ m ih =>
    intro j fuel T hj hf hP
    cases fuel with
    | zero => omega
    | succ n =>
      rcases hstep n j T (by omega) hP with ⟨T', h1, h2⟩ | h
      · rw [h2]
        exact ih (j + 1) n T' (by omega) (by omega) h1
      · exact h
/-- any loop, by the turns that are left -/
theorem loop_d {α σ : Type} (L : Nat → σ → Option α) (P : Nat → σ → Prop) (Q : Option α → Prop)
    (hstep : ∀ n m T, P (m + 1) T → (∃ T', P m T' ∧ L (n + 1) T = L n T') ∨ Q (L (n + 1) T))
    (hend : ∀ n T, P 0 T → Q (L (n + 1) T)) : ∀ m fuel T, m < fuel → P m T → Q (L fuel T) := by
  intro m
  induction m with
  | zero =>
    intro fuel T hf hP
    cases fuel with
    | zero => omega
    | succ n => exact hend n T hP
  | succ m ih =>
    intro fuel T hf hP
    cases fuel with
    | zero => omega
    | succ n =>
      rcases hstep n m T hP with ⟨T', h1, h2⟩ | h
      · rw [h2]
        exact ih n T' (by omega) h1
      · exact h
/-- a loop that goes to its end: what P says there -/
theorem loop_up {α σ : Type} {N : Nat} (L : Nat → Int32 → σ → Option α) (K : σ → Option α) (P : Nat → σ → Prop)
    (hstep : ∀ n j T, j < N → P j T → ∃ T', P (j + 1) T' ∧ L (n + 1) (nI j) T = L n (nI (j + 1)) T')
    (hend : ∀ n T, P N T → L (n + 1) (nI N) T = K T) {fuel : Nat} {T : σ} (hf : N < fuel) (h0 : P 0 T) : ∃ T', P N T' ∧ L fuel (nI 0) T = K T' :=
  loop_q (N := N) L P (fun r => ∃ T', P N T' ∧ r = K T') (fun n j T hj hP => Or.inl (hstep n j T hj hP)) (fun n T hP => ⟨T, hP, hend n T hP⟩) N 0 fuel T (by omega) hf h0
theorem ltT {j N : Nat} (h : j < N) (hN : N < 2 ^ 31) : (nI j < nI N) = True := eq_true (nI_lt h hN)
theorem ltF {j N : Nat} (h : N ≤ j) (hj : j < 2 ^ 31) : (nI j < nI N) = False := eq_false (nI_nlt h hj)
/-- cell c from off on has been written with v, j places of it; nothing else has changed -/
def Fill (S : St) (c off : Nat) (v : Nat → Int32) (j : Nat) (T : St) : Prop := (∀ i, i ≠ c → T.1 i = S.1 i) ∧ T.2 = S.2 ∧ ∀ k, T.1 c k = if off ≤ k ∧ k < off + j then v (k - off) else S.1 c k
theorem Fill.zero (S : St) (c off : Nat) (v : Nat → Int32) : Fill S c off v 0 S := ⟨fun _ _ => rfl, rfl, fun k => by rw [if_neg (by omega)]⟩
theorem Fill.step {S : St} {c off : Nat} {v : Nat → Int32} {j : Nat} {T : St} (h : Fill S c off v j T) : Fill S c off v (j + 1) (wr T c (off + j) (v j)) := by
  obtain ⟨h1, h2, h3⟩ := h
  refine ⟨fun i hi => by rw [wr1_ne hi]; exact h1 i hi, h2, fun k => ?_⟩
  rw [wr1_eq]
  by_cases e : k = off + j
  · subst e
    rw [if_pos rfl, if_pos (by omega)]
    congr 1; omega
  · rw [if_neg e, h3]
    by_cases f : off ≤ k ∧ k < off + j
    · rw [if_pos f, if_pos (by omega)]
    · rw [if_neg f, if_neg (by omega)]
theorem Fill.at {S : St} {c off : Nat} {v : Nat → Int32} {j : Nat} {T : St} (h : Fill S c off v j T) {k : Nat} (h1 : k < j) : T.1 c (off + k) = v k := by
  rw [h.2.2, if_pos (by omega)]; congr 1; omega
theorem Fill.out {S : St} {c off : Nat} {v : Nat → Int32} {j : Nat} {T : St} (h : Fill S c off v j T) {k : Nat} (h1 : k < off ∨ off + j ≤ k) : T.1 c k = S.1 c k := by
  rw [h.2.2, if_neg (by omega)]
