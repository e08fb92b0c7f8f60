-- what the days hang on and don't change: the orchard's standing numbers
def TreeA (cnt yr : Nat) (a : Nat → Int32) : Prop := (a 2 = 1 ∨ a 2 = 2 ∨ a 2 = 3 ∨ a 2 = 4) ∧ (∃ s : Nat, s < cnt ∧ a 3 = nI s) ∧ (a 2 = 2 → ∃ s : Nat, s < cnt ∧ a 4 = nI s) ∧ (∃ y : Nat, y ≤ yr ∧ a 5 = nI y) ∧ (∃ x : Nat, x ≤ 9 ∧ a 6 = nI x) ∧ (∃ x : Nat, x ≤ 30000 ∧ a 7 = nI x)
def OrA (cnt yr : Nat) (A : Nat → Int32) : Prop := cnt ≤ 6 ∧ yr < 2 ^ 20 ∧ A 784 = nI yr ∧ (∃ r : Nat, 1 ≤ r ∧ r ≤ 15 ∧ A 783 = nI r) ∧ (∀ s, s < cnt → (∃ x : Nat, x ≤ 2000 ∧ A (5 * s) = nI x) ∧ (∃ x : Nat, 1 ≤ x ∧ x ≤ 9 ∧ A (5 * s + 1) = nI x) ∧ (∃ x : Nat, x ≤ 2000 ∧ A (5 * s + 2) = nI x) ∧ (∃ x : Nat, 1 ≤ x ∧ x ≤ 60 ∧ A (5 * s + 3) = nI x) ∧ (∃ x : Nat, x ≤ 9 ∧ A (5 * s + 4) = nI x)) ∧ ∀ p, p < 12 → (∃ x : Nat, x ≤ 15 ∧ A (66 + 11 * p) = nI x) ∧ (∃ x : Nat, x ≤ 15 ∧ A (66 + 11 * p + 1) = nI x) ∧ (A (66 + 11 * p + 2) = 0 ∨ A (66 + 11 * p + 2) = 5 ∨ TreeA cnt yr (fun k => A (66 + 11 * p + k)))
def doesA (A : Nat → Int32) (s o : Nat) : Bool := decide (A (30 + 6 * s + o) = 1)
def OrC (cnt : Nat) (S : St) (A : Nat → Int32) : Prop := S.1 1 1 = nI cnt ∧ S.1 1 3 = A 783 ∧ S.1 1 4 = A 784 ∧ (∀ s, s < cnt → (∀ k, k < 5 → S.1 (8 + 2 * s) k = A (5 * s + k)) ∧ ∃ bits : Nat, bits < 64 ∧ S.1 (8 + 2 * s) 5 = nI bits ∧ ∀ o, o < 6 → bits.testBit o = doesA A s o) ∧ ∀ p, p < 12 → S.1 (20 + 2 * p) 0 = A (66 + 11 * p) ∧ S.1 (20 + 2 * p) 1 = A (66 + 11 * p + 1) ∧ S.1 (20 + 2 * p) 2 = A (66 + 11 * p + 2) ∧ (A (66 + 11 * p + 2) ≠ 0 → A (66 + 11 * p + 2) ≠ 5 → ∀ k, 3 ≤ k → k ≤ 7 → S.1 (20 + 2 * p) k = A (66 + 11 * p + k))
theorem BookRel.orA {cnt yr dn : Nat} {C : Nat → Nat → Int32} {A : Nat → Int32} {CL AL : Nat → Int64} (h : BookRel cnt yr dn C CL A AL) (hy : yr < 2 ^ 20) : OrA cnt yr A := by
  obtain ⟨q1, q2, q3, q4, q5, q6, q7, q8, q9, q10, q11, q12, q13, q14, q15⟩ := h.1
  obtain ⟨tk, hS⟩ := h.2.1
  refine ⟨q1, hy, q6, q10, fun s hs => ?_, fun p hp => ?_⟩
  · obtain ⟨-, w2, w3, w4, w5, w6, -⟩ := (hS s (by omega)).1 hs
    exact ⟨w2, w3, w4, w5, w6⟩
  · obtain ⟨r1, r2, r3, r4, r5, r6, r7, r8⟩ := h.2.2.2.1 p hp
    refine ⟨r3, r4, ?_⟩
    rcases r8 with q | q | q
    · exact Or.inl q.1
    · exact Or.inr (Or.inl q.1)
    · obtain ⟨t1, t2, t3, t4, t5, t6, t7, t8, t9, t10, t11, t12, t13, t14⟩ := q
      exact Or.inr (Or.inr ⟨t1, t8, t9, t11, t12, t13⟩)
theorem BookRel.orC {cnt yr dn : Nat} {S : St} {A : Nat → Int32} {CL AL : Nat → Int64} (h : BookRel cnt yr dn (fun i => S.1 (1 + i)) CL A AL) : OrC cnt S A := by
  obtain ⟨q1, q2, q3, q4, q5, q6, q7, q8, q9, q10, q11, q12, q13, q14, q15⟩ := h.1
  obtain ⟨tk, hS⟩ := h.2.1
  refine ⟨q3, q9, q5.trans q6.symm, fun s hs => ?_, fun p hp => ?_⟩
  · have h0 := hS s (by omega)
    have e8 : 1 + (7 + 2 * s) = 8 + 2 * s := by omega
    simp only [e8] at h0
    obtain ⟨w1, -, -, -, -, -, bits, w7, w8, w9⟩ := h0.1 hs
    refine ⟨w1, bits, w7, w8, fun o ho => ?_⟩
    rw [w9 o ho]
    unfold doesA
    rw [h0.2.1 o ho]
    cases tk s o <;> rfl
  · have h0 := h.2.2.2.1 p hp
    have e1 : 1 + (19 + 2 * p) = 20 + 2 * p := by omega
    simp only [e1] at h0
    obtain ⟨r1, r2, r3, r4, r5, r6, r7, r8⟩ := h0
    refine ⟨r1, r2, r5, fun k0 k5 k h3 h7 => ?_⟩
    rcases r8 with q | q | q
    · exact absurd q.1 k0
    · exact absurd q.1 k5
    · obtain ⟨t1, t2, t3, t4, t5, t6, -⟩ := q
      have : k = 3 ∨ k = 4 ∨ k = 5 ∨ k = 6 ∨ k = 7 := by omega
      rcases this with rfl | rfl | rfl | rfl | rfl
      · exact t2
      · exact t3
      · exact t4
      · exact t5
      · exact t6
theorem OrA.cong {cnt yr : Nat} {A A' : Nat → Int32} (h : OrA cnt yr A) (e1 : ∀ k, k < 66 → A' k = A k) (e2 : ∀ p k, p < 12 → k < 8 → A' (66 + 11 * p + k) = A (66 + 11 * p + k)) (e3 : A' 783 = A 783) (e4 : A' 784 = A 784) : OrA cnt yr A' := by
  obtain ⟨h1, h2, h3, h4, h5, h6⟩ := h
  refine ⟨h1, h2, by rw [e4]; exact h3, by rw [e3]; exact h4, fun s hs => ?_, fun p hp => ?_⟩
  · rw [e1 (5 * s) (by omega), e1 (5 * s + 1) (by omega), e1 (5 * s + 2) (by omega), e1 (5 * s + 3) (by omega), e1 (5 * s + 4) (by omega)]
    exact h5 s hs
  · have e0 : A' (66 + 11 * p) = A (66 + 11 * p) := e2 p 0 hp (by decide)
    unfold TreeA
    rw [e0, e2 p 1 hp (by decide), e2 p 2 hp (by decide)]
    simp only [e2 p 2 hp (by decide), e2 p 3 hp (by decide), e2 p 4 hp (by decide), e2 p 5 hp (by decide), e2 p 6 hp (by decide), e2 p 7 hp (by decide)]
    exact h6 p hp
theorem OrC.cong {cnt : Nat} {S U : St} {A : Nat → Int32} (h : OrC cnt S A) (hc : cnt ≤ 6) (e1 : ∀ k, k = 1 ∨ k = 3 ∨ k = 4 → U.1 1 k = S.1 1 k) (e2 : ∀ s k, s < 6 → k < 6 → U.1 (8 + 2 * s) k = S.1 (8 + 2 * s) k) (e3 : ∀ p k, p < 12 → k < 8 → U.1 (20 + 2 * p) k = S.1 (20 + 2 * p) k) : OrC cnt U A := by
  obtain ⟨h1, h2, h3, h4, h5⟩ := h
  refine ⟨by rw [e1 1 (by omega)]; exact h1, by rw [e1 3 (by omega)]; exact h2, by rw [e1 4 (by omega)]; exact h3, fun s hs => ?_, fun p hp => ?_⟩
  · obtain ⟨w1, bits, w2, w3, w4⟩ := h4 s hs
    exact ⟨fun k hk => by rw [e2 s k (by omega) (by omega)]; exact w1 k hk, bits, w2, by rw [e2 s 5 (by omega) (by omega)]; exact w3, w4⟩
  · obtain ⟨r1, r2, r3, r4⟩ := h5 p hp
    exact ⟨by rw [e3 p 0 hp (by decide)]; exact r1, by rw [e3 p 1 hp (by decide)]; exact r2, by rw [e3 p 2 hp (by decide)]; exact r3, fun k0 k5 k x y => by rw [e3 p k hp (by omega)]; exact r4 k0 k5 k x y⟩
theorem OrC.congA {cnt : Nat} {S : St} {A A' : Nat → Int32} (h : OrC cnt S A) (hc : cnt ≤ 6) (e1 : ∀ k, k < 66 → A' k = A k) (e2 : ∀ p k, p < 12 → k < 8 → A' (66 + 11 * p + k) = A (66 + 11 * p + k)) (e3 : A' 783 = A 783) (e4 : A' 784 = A 784) : OrC cnt S A' := by
  obtain ⟨h1, h2, h3, h4, h5⟩ := h
  refine ⟨h1, by rw [e3]; exact h2, by rw [e4]; exact h3, fun s hs => ?_, fun p hp => ?_⟩
  · obtain ⟨w1, bits, w2, w3, w4⟩ := h4 s hs
    exact ⟨fun k hk => by rw [e1 _ (by omega)]; exact w1 k hk, bits, w2, w3, fun o ho => by unfold doesA; rw [e1 _ (by omega)]; exact w4 o ho⟩
  · have e0 : A' (66 + 11 * p) = A (66 + 11 * p) := e2 p 0 hp (by decide)
    obtain ⟨r1, r2, r3, r4⟩ := h5 p hp
    rw [e0, e2 p 1 hp (by decide), e2 p 2 hp (by decide)]
    exact ⟨r1, r2, r3, fun k0 k5 k x y => by rw [e2 p k hp (by omega)]; exact r4 k0 k5 k x y⟩
/-- part k there is; its sort; the buds of a tree -/
def ptA (A : Nat → Int32) (k : Nat) : Bool := isPt (A (66 + 11 * (k / 2) + 2)) (k % 2)
def srtA (A : Nat → Int32) (k : Nat) : Nat := ix (A (66 + 11 * (k / 2) + (3 + k % 2)))
def bdV (A : Nat → Int32) (p : Nat) : Nat := 20 * ix (A (66 + 11 * p + 6)) - ix (A (66 + 11 * p + 7)) / 2
def bdA (A : Nat → Int32) (p : Nat) : Nat := if ix (A 784) - ix (A (66 + 11 * p + 5)) < ix (A (5 * ix (A (66 + 11 * p + 3)) + 4)) then 0 else if A (66 + 11 * p + 2) = 3 then bdV A p + bdV A p / 2 else bdV A p
theorem isPt_tree {K : Int32} {q : Nat} (h : isPt K q = true) (hq : q < 2) : K = 1 ∨ K = 2 ∨ K = 3 ∨ K = 4 := by
  unfold isPt at h
  simp only [Bool.or_eq_true, Bool.and_eq_true, decide_eq_true_eq] at h
  rcases h with h | ⟨-, (h | h) | h⟩
  · exact Or.inr (Or.inl h)
  · exact Or.inl h
  · exact Or.inr (Or.inr (Or.inl h))
  · exact Or.inr (Or.inr (Or.inr h))
theorem isPt_0 {K : Int32} (h : K = 1 ∨ K = 2 ∨ K = 3 ∨ K = 4) : isPt K 0 = true := by
  rcases h with rfl | rfl | rfl | rfl <;> rfl
theorem isPt_1 {K : Int32} : isPt K 1 = decide (K = 2) := by
  unfold isPt; simp
theorem OrA.kinds {cnt yr : Nat} {A : Nat → Int32} (h : OrA cnt yr A) {p : Nat} (hp : p < 12) : A (66 + 11 * p + 2) = 0 ∨ A (66 + 11 * p + 2) = 1 ∨ A (66 + 11 * p + 2) = 2 ∨ A (66 + 11 * p + 2) = 3 ∨ A (66 + 11 * p + 2) = 4 ∨ A (66 + 11 * p + 2) = 5 := by
  rcases (h.2.2.2.2.2 p hp).2.2 with q | q | q
  · exact Or.inl q
  · exact Or.inr (Or.inr (Or.inr (Or.inr (Or.inr q))))
  · rcases q.1 with r | r | r | r
    · exact Or.inr (Or.inl r)
    · exact Or.inr (Or.inr (Or.inl r))
    · exact Or.inr (Or.inr (Or.inr (Or.inl r)))
    · exact Or.inr (Or.inr (Or.inr (Or.inr (Or.inl r))))
theorem OrA.tree {cnt yr : Nat} {A : Nat → Int32} (h : OrA cnt yr A) {p : Nat} (hp : p < 12) (ht : A (66 + 11 * p + 2) = 1 ∨ A (66 + 11 * p + 2) = 2 ∨ A (66 + 11 * p + 2) = 3 ∨ A (66 + 11 * p + 2) = 4) : TreeA cnt yr (fun k => A (66 + 11 * p + k)) ∧ A (66 + 11 * p + 2) ≠ 0 ∧ A (66 + 11 * p + 2) ≠ 5 := by
  have n0 : A (66 + 11 * p + 2) ≠ 0 := by intro q; rw [q] at ht; revert ht; decide
  have n5 : A (66 + 11 * p + 2) ≠ 5 := by intro q; rw [q] at ht; revert ht; decide
  rcases (h.2.2.2.2.2 p hp).2.2 with q | q | q
  · exact absurd q n0
  · exact absurd q n5
  · exact ⟨q, n0, n5⟩
/-- the sort of a part that there is -/
theorem OrA.srt {cnt yr : Nat} {A : Nat → Int32} (h : OrA cnt yr A) {p q : Nat} (hp : p < 12) (hq : q < 2) (hpt : isPt (A (66 + 11 * p + 2)) q = true) : srtA A (2 * p + q) < cnt ∧ A (66 + 11 * p + (3 + q)) = nI (srtA A (2 * p + q)) := by
  obtain ⟨⟨t1, ⟨s, hs, t2⟩, t3, -⟩, -, -⟩ := h.tree hp (isPt_tree hpt hq)
  have hc := h.1
  unfold srtA
  rw [show (2 * p + q) / 2 = p from by omega, show (2 * p + q) % 2 = q from by omega]
  have hq' : q = 0 ∨ q = 1 := by omega
  rcases hq' with rfl | rfl
  · have t2' : A (66 + 11 * p + (3 + 0)) = nI s := t2
    rw [t2', ix_nI (by omega)]; exact ⟨hs, rfl⟩
  · rw [isPt_1, decide_eq_true_eq] at hpt
    obtain ⟨o, ho, t4⟩ := t3 hpt
    have t4' : A (66 + 11 * p + (3 + 1)) = nI o := t4
    rw [t4', ix_nI (by omega)]; exact ⟨ho, rfl⟩
theorem buds_core {w l y yr f : Nat} {K : Int32} (hw : w ≤ 9) (hl : l ≤ 30000) (hy : y ≤ yr) (hyr : yr < 2 ^ 20) (hf : f ≤ 9) : (if nI yr - nI y < nI f then (some 0 : Option Int32) else if (20 : Int32) * nI w - nI l / 2 < 0 then some 0 else if K = 3 then some ((20 : Int32) * nI w - nI l / 2 + ((20 : Int32) * nI w - nI l / 2) / 2) else some ((20 : Int32) * nI w - nI l / 2)) = some (nI (if yr - y < f then 0 else if K = 3 then (20 * w - l / 2) + (20 * w - l / 2) / 2 else 20 * w - l / 2)) ∧ (if nI yr - nI y < nI f then (some 0 : Option Int32) else if K = 3 then some (mxI 0 ((20 : Int32) * nI w - nI l / 2) + mxI 0 ((20 : Int32) * nI w - nI l / 2) / 2) else some (mxI 0 ((20 : Int32) * nI w - nI l / 2))) = some (nI (if yr - y < f then 0 else if K = 3 then (20 * w - l / 2) + (20 * w - l / 2) / 2 else 20 * w - l / 2)) := by
  have e1 : (20 : Int32) * nI w = nI (20 * w) := by rw [show (20 : Int32) = nI 20 from rfl, pk_mul]
  have e2 : nI l / 2 = nI (l / 2) := by rw [show (2 : Int32) = nI 2 from rfl, pk_div (by omega) (by decide) (by decide)]
  rw [e1, e2, pk_sub hy, mx_sub (by omega) (by omega)]
  have e3 : nI (20 * w - l / 2) / 2 = nI ((20 * w - l / 2) / 2) := by rw [show (2 : Int32) = nI 2 from rfl, pk_div (by omega) (by decide) (by decide)]
  by_cases a : yr - y < f
  · rw [if_pos (nI_lt a (by omega)), if_pos (nI_lt a (by omega)), if_pos a]; exact ⟨rfl, rfl⟩
  · rw [if_neg (nI_nlt (by omega) (by omega)), if_neg (nI_nlt (by omega) (by omega)), if_neg a, e3, nI_add]
    constructor
    · by_cases b : 20 * w < l / 2
      · rw [if_pos (sub_neg' (by omega) (by omega) b), show 20 * w - l / 2 = 0 from by omega]
        by_cases k : K = 3
        · rw [if_pos k]; rfl
        · rw [if_neg k]; rfl
      · rw [pk_sub (by omega), if_neg (nI_pos (by omega)), e3, nI_add]
        by_cases k : K = 3
        · rw [if_pos k, if_pos k]
        · rw [if_neg k, if_neg k]
    · by_cases k : K = 3
      · rw [if_pos k, if_pos k]
      · rw [if_neg k, if_neg k]
theorem bdA_le {cnt yr : Nat} {A : Nat → Int32} (h : OrA cnt yr A) {p : Nat} (hp : p < 12) (ht : A (66 + 11 * p + 2) = 1 ∨ A (66 + 11 * p + 2) = 2 ∨ A (66 + 11 * p + 2) = 3 ∨ A (66 + 11 * p + 2) = 4) : bdA A p ≤ 270 := by
  obtain ⟨⟨-, -, -, -, ⟨x, hx, e6⟩, ⟨l, hl, e7⟩⟩, -, -⟩ := h.tree hp ht
  have e6' : A (66 + 11 * p + 6) = nI x := e6
  have hv : bdV A p ≤ 180 := by unfold bdV; rw [e6', ix_nI (n := x) (by omega)]; omega
  unfold bdA
  by_cases a : ix (A 784) - ix (A (66 + 11 * p + 5)) < ix (A (5 * ix (A (66 + 11 * p + 3)) + 4))
  · rw [if_pos a]; omega
  · rw [if_neg a]
    by_cases k : A (66 + 11 * p + 2) = 3
    · rw [if_pos k]; omega
    · rw [if_neg k]; omega
theorem budsR {cnt yr : Nat} {S : St} (h : OrA cnt yr (S.1 109)) {p : Nat} (hp : p < 12) (ht : S.1 109 (66 + 11 * p + 2) = 1 ∨ S.1 109 (66 + 11 * p + 2) = 2 ∨ S.1 109 (66 + 11 * p + 2) = 3 ∨ S.1 109 (66 + 11 * p + 2) = 4) : f_X7_budsOf (nI p) S = some (nI (bdA (S.1 109) p)) := by
  obtain ⟨⟨-, ⟨s, hs, e3⟩, -, ⟨y, hy, e5⟩, ⟨x, hx, e6⟩, ⟨l, hl, e7⟩⟩, -, -⟩ := h.tree hp ht
  obtain ⟨c6, hyr, e784, -, hsr, -⟩ := h
  obtain ⟨-, -, -, -, f, hf, e4⟩ := hsr s hs
  have e3' : rd S 109 (66 + 11 * p + 3) = nI s := e3
  have e5' : rd S 109 (66 + 11 * p + 5) = nI y := e5
  have e6' : rd S 109 (66 + 11 * p + 6) = nI x := e6
  have e7' : rd S 109 (66 + 11 * p + 7) = nI l := e7
  have e4' : rd S 109 (5 * s + 4) = nI f := e4
  have e784' : rd S 109 784 = nI yr := e784
  have hb : bdA (S.1 109) p = (if yr - y < f then 0 else if rd S 109 (66 + 11 * p + 2) = 3 then (20 * x - l / 2) + (20 * x - l / 2) / 2 else 20 * x - l / 2) := by
    unfold bdA bdV
    rw [show S.1 109 (66 + 11 * p + 3) = nI s from e3, show S.1 109 (66 + 11 * p + 5) = nI y from e5, show S.1 109 (66 + 11 * p + 6) = nI x from e6, show S.1 109 (66 + 11 * p + 7) = nI l from e7, e784, ix_nI (n := s) (by omega), e4, ix_nI (n := yr) (by omega), ix_nI (n := y) (by omega), ix_nI (n := x) (by omega), ix_nI (n := l) (by omega), ix_nI (n := f) (by omega)]
    rfl
  rw [hb]
  simp only [f_X7_budsOf, age_nat hp, get_3 hp, e3', sortOf_4 (show s < 6 by omega), get_6 hp, get_7 hp, get_k hp, Option.bind_some, e5', e6', e7', e4', e784']
  exact (buds_core hx hl hy hyr hf).1
theorem budsC {cnt yr : Nat} {S : St} {A : Nat → Int32} (h : OrA cnt yr A) (hC : OrC cnt S A) {p : Nat} (hp : p < 12) (ht : A (66 + 11 * p + 2) = 1 ∨ A (66 + 11 * p + 2) = 2 ∨ A (66 + 11 * p + 2) = 3 ∨ A (66 + 11 * p + 2) = 4) : f_X0_budsOf (20 + 2 * p) S = some (nI (bdA A p)) := by
  obtain ⟨⟨-, ⟨s, hs, e3⟩, -, ⟨y, hy, e5⟩, ⟨x, hx, e6⟩, ⟨l, hl, e7⟩⟩, n0, n5⟩ := h.tree hp ht
  obtain ⟨c6, hyr, e784, -, hsr, -⟩ := h
  obtain ⟨-, -, -, -, f, hf, e4⟩ := hsr s hs
  obtain ⟨k1, k2, k3, k4, k5⟩ := hC
  obtain ⟨-, -, r2, r3⟩ := k5 p hp
  have e3' : rd S (20 + 2 * p) 3 = nI s := (r3 n0 n5 3 (by decide) (by decide)).trans e3
  have e5' : rd S (20 + 2 * p) 5 = nI y := (r3 n0 n5 5 (by decide) (by decide)).trans e5
  have e6' : rd S (20 + 2 * p) 6 = nI x := (r3 n0 n5 6 (by decide) (by decide)).trans e6
  have e7' : rd S (20 + 2 * p) 7 = nI l := (r3 n0 n5 7 (by decide) (by decide)).trans e7
  have e4' : rd S (8 + 2 * s) 4 = nI f := ((k4 s hs).1 4 (by decide)).trans e4
  have e784' : rd S 1 4 = nI yr := k3.trans e784
  have e2' : rd S (20 + 2 * p) 2 = A (66 + 11 * p + 2) := r2
  have hin : inb (nI s) 6 = true := inb_nI (by omega) (by decide)
  have hix : ix (nI s) = s := ix_nI (by omega)
  have hb : bdA A p = (if yr - y < f then 0 else if A (66 + 11 * p + 2) = 3 then (20 * x - l / 2) + (20 * x - l / 2) / 2 else 20 * x - l / 2) := by
    unfold bdA bdV
    rw [show A (66 + 11 * p + 3) = nI s from e3, show A (66 + 11 * p + 5) = nI y from e5, show A (66 + 11 * p + 6) = nI x from e6, show A (66 + 11 * p + 7) = nI l from e7, e784, ix_nI (n := s) (by omega), e4, ix_nI (n := yr) (by omega), ix_nI (n := y) (by omega), ix_nI (n := x) (by omega), ix_nI (n := l) (by omega), ix_nI (n := f) (by omega)]
  rw [hb]
  simp only [f_X0_budsOf, e3', hin, hix, if_true, e5', e6', e7', e4', e784', e2']
  exact (buds_core hx hl hy hyr hf).2
theorem near_v1 : ∀ a, a < 16 → ∀ b, b < 16 → ∀ r, r < 16 → decide (nI r < abI (nI a - nI b)) = !decide (a ≤ b + r ∧ b ≤ a + r) := by decide +kernel
theorem near_v2 : ∀ a, a < 16 → ∀ b, b < 16 → ∀ r, r < 16 → f_X6_within (nI a - nI b) (-(nI r)) (nI r) = decide (a ≤ b + r ∧ b ≤ a + r) := by decide +kernel
theorem layNear_def {A : Nat → Int32} {p q xp yp xq yq r : Nat} (h1 : A (66 + 11 * p) = nI xp) (h2 : A (66 + 11 * p + 1) = nI yp) (h3 : A (66 + 11 * q) = nI xq) (h4 : A (66 + 11 * q + 1) = nI yq) (h5 : A 783 = nI r) (b1 : xp ≤ 15) (b2 : yp ≤ 15) (b3 : xq ≤ 15) (b4 : yq ≤ 15) (b5 : r ≤ 15) : layNear A p q = (decide (xp ≤ xq + r ∧ xq ≤ xp + r) && decide (yp ≤ yq + r ∧ yq ≤ yp + r)) := by
  unfold layNear
  rw [h1, h2, h3, h4, h5, ix_nI (n := xp) (by omega), ix_nI (n := yp) (by omega), ix_nI (n := xq) (by omega), ix_nI (n := yq) (by omega), ix_nI (n := r) (by omega)]
  by_cases c : xp ≤ xq + r ∧ xq ≤ xp + r
  · simp [c]
  · simp only [c, decide_false, Bool.false_and, decide_eq_false_iff_not]
    exact fun q => c ⟨q.1, q.2.1⟩
theorem nearR {cnt yr : Nat} {S : St} (h : OrA cnt yr (S.1 109)) {p q : Nat} (hp : p < 12) (hq : q < 12) : f_X7_isNear (nI p) (nI q) S = some (layNear (S.1 109) p q) := by
  obtain ⟨-, -, -, ⟨r, -, hr, er⟩, -, hpl⟩ := h
  obtain ⟨⟨xp, b1, e1⟩, ⟨yp, b2, e2⟩, -⟩ := hpl p hp
  obtain ⟨⟨xq, b3, e3⟩, ⟨yq, b4, e4⟩, -⟩ := hpl q hq
  rw [layNear_def e1 e2 e3 e4 er b1 b2 b3 b4 hr]
  have g0 : ∀ p, p < 12 → f_X7_get (nI p) 0 S = some (rd S 109 (66 + 11 * p)) := fun p hp => get_nat (k := 0) hp (by decide) S
  have g1 : ∀ p, p < 12 → f_X7_get (nI p) 1 S = some (rd S 109 (66 + 11 * p + 1)) := fun p hp => get_nat (k := 1) hp (by decide) S
  have e1' : rd S 109 (66 + 11 * p) = nI xp := e1
  have e2' : rd S 109 (66 + 11 * p + 1) = nI yp := e2
  have e3' : rd S 109 (66 + 11 * q) = nI xq := e3
  have e4' : rd S 109 (66 + 11 * q + 1) = nI yq := e4
  have er' : rd S 109 783 = nI r := er
  simp only [f_X7_isNear, g0 p hp, g0 q hq, g1 p hp, g1 q hq, Option.bind_some, e1', e2', e3', e4', ix_783, er', in_eq, near_v2 xp (by omega) xq (by omega) r (by omega), near_v2 yp (by omega) yq (by omega) r (by omega)]
  cases decide (xp ≤ xq + r ∧ xq ≤ xp + r) <;> cases decide (yp ≤ yq + r ∧ yq ≤ yp + r) <;> rfl
theorem nearC {cnt yr : Nat} {S : St} {A : Nat → Int32} (h : OrA cnt yr A) (hC : OrC cnt S A) {p q : Nat} (hp : p < 12) (hq : q < 12) : f_X0_isNear (nI p) (nI q) S = some (layNear A p q) := by
  obtain ⟨-, -, -, ⟨r, -, hr, er⟩, -, hpl⟩ := h
  obtain ⟨⟨xp, b1, e1⟩, ⟨yp, b2, e2⟩, -⟩ := hpl p hp
  obtain ⟨⟨xq, b3, e3⟩, ⟨yq, b4, e4⟩, -⟩ := hpl q hq
  rw [layNear_def e1 e2 e3 e4 er b1 b2 b3 b4 hr]
  obtain ⟨k1, k2, k3, k4, k5⟩ := hC
  have e1' : rd S (20 + 2 * p) 0 = nI xp := (k5 p hp).1.trans e1
  have e2' : rd S (20 + 2 * p) 1 = nI yp := (k5 p hp).2.1.trans e2
  have e3' : rd S (20 + 2 * q) 0 = nI xq := (k5 q hq).1.trans e3
  have e4' : rd S (20 + 2 * q) 1 = nI yq := (k5 q hq).2.1.trans e4
  have er' : rd S 1 3 = nI r := k2.trans er
  have hin : inb (nI p) 12 = true := inb_nI hp (by decide)
  have hix : ix (nI p) = p := ix_nI (by omega)
  have hin' : inb (nI q) 12 = true := inb_nI hq (by decide)
  have hix' : ix (nI q) = q := ix_nI (by omega)
  simp only [f_X0_isNear, hin, hix, hin', hix', if_true, e1', e2', e3', e4', er']
  have v1 := near_v1 xp (by omega) xq (by omega) r (by omega)
  have v2 := near_v1 yp (by omega) yq (by omega) r (by omega)
  by_cases c1 : nI r < abI (nI xp - nI xq)
  · rw [if_pos c1]
    rw [decide_eq_true c1] at v1
    have : decide (xp ≤ xq + r ∧ xq ≤ xp + r) = false := by cases hd : decide (xp ≤ xq + r ∧ xq ≤ xp + r) with | false => rfl | true => rw [hd] at v1; cases v1
    rw [this]; rfl
  · rw [if_neg c1]
    rw [decide_eq_false c1] at v1
    have e : decide (xp ≤ xq + r ∧ xq ≤ xp + r) = true := by cases hd : decide (xp ≤ xq + r ∧ xq ≤ xp + r) with | true => rfl | false => rw [hd] at v1; cases v1
    rw [e]
    by_cases c2 : nI r < abI (nI yp - nI yq)
    · rw [if_pos c2]
      rw [decide_eq_true c2] at v2
      have : decide (yp ≤ yq + r ∧ yq ≤ yp + r) = false := by cases hd : decide (yp ≤ yq + r ∧ yq ≤ yp + r) with | false => rfl | true => rw [hd] at v2; cases v2
      rw [this]; rfl
    · rw [if_neg c2]
      rw [decide_eq_false c2] at v2
      have e' : decide (yp ≤ yq + r ∧ yq ≤ yp + r) = true := by cases hd : decide (yp ≤ yq + r ∧ yq ≤ yp + r) with | true => rfl | false => rw [hd] at v2; cases v2
      rw [e']; rfl
theorem layNear_self (A : Nat → Int32) (p : Nat) : layNear A p p = true := by
  unfold layNear; simp
