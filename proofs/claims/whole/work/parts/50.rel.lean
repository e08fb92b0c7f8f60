def fb_sum (f : Nat → Nat) : Nat → Nat
  | 0 => 0
  | n + 1 => fb_sum f n + f n
-- THE RELATION between the class's cells and the reference's
/-- a place: c its cell, f its fruits, a its eleven numbers in the reference -/
def PlaceRel (cnt yr dn : Nat) (c f a : Nat → Int32) : Prop :=
  c 0 = a 0 ∧ c 1 = a 1 ∧ (∃ x : Nat, x ≤ 15 ∧ a 0 = nI x) ∧ (∃ x : Nat, x ≤ 15 ∧ a 1 = nI x) ∧ c 2 = a 2 ∧ f 0 = a 8 ∧ f 1 = a 9 ∧
  ((a 2 = 0 ∧ a 8 = 0 ∧ a 9 = 0) ∨
   (a 2 = 5 ∧ a 8 = 0 ∧ a 9 = 0 ∧ c 8 = a 3 ∧ ∃ g : Nat, 1 ≤ g ∧ g ≤ 9 ∧ a 3 = nI g) ∨
   ((a 2 = 1 ∨ a 2 = 2 ∨ a 2 = 3 ∨ a 2 = 4) ∧ c 3 = a 3 ∧ c 4 = a 4 ∧ c 5 = a 5 ∧ c 6 = a 6 ∧ c 7 = a 7 ∧ c 9 = a 10 ∧
    (∃ s : Nat, s < cnt ∧ a 3 = nI s) ∧ (a 2 = 2 → ∃ s : Nat, s < cnt ∧ a 4 = nI s) ∧ (a 2 ≠ 2 → a 4 = -100 ∧ a 9 = 0) ∧
    (∃ y : Nat, y ≤ yr ∧ a 5 = nI y) ∧ (∃ x : Nat, x ≤ 9 ∧ a 6 = nI x) ∧ (∃ x : Nat, x ≤ 30000 ∧ a 7 = nI x) ∧
    (∃ f0 f1 ns : Nat, a 8 = nI f0 ∧ a 9 = nI f1 ∧ a 10 = nI ns ∧ f0 + f1 ≤ ns ∧ ns ≤ 600 * dn)))
def HeadRel (cnt yr dn : Nat) (c A : Nat → Int32) : Prop :=
  cnt ≤ 6 ∧ dn ≤ 49 ∧ c 1 = nI cnt ∧ A 782 = nI cnt ∧ c 4 = nI yr ∧ A 784 = nI yr ∧ c 5 = nI dn ∧ A 785 = nI dn ∧ c 3 = A 783 ∧ (∃ r : Nat, 1 ≤ r ∧ r ≤ 15 ∧ A 783 = nI r) ∧ c 9 = A 787 ∧ (∃ h : Nat, h ≤ 1000 ∧ A 787 = nI h) ∧ c 10 = A 786 ∧ (A 786 = -1 ∨ ∃ s : Nat, s < 4 ∧ A 786 = nI s) ∧ c 11 = nI ((50 * yr + dn) % 60)
/-- sort s: c its cell (asked where s < cnt), tk which sorts it takes -/
def SortRel (cnt s : Nat) (c A : Nat → Int32) (tk : Nat → Bool) : Prop :=
  (s < cnt → (∀ k, k < 5 → c k = A (5 * s + k)) ∧ (∃ x : Nat, x ≤ 2000 ∧ A (5 * s) = nI x) ∧ (∃ x : Nat, 1 ≤ x ∧ x ≤ 9 ∧ A (5 * s + 1) = nI x) ∧ (∃ x : Nat, x ≤ 2000 ∧ A (5 * s + 2) = nI x) ∧ (∃ x : Nat, 1 ≤ x ∧ x ≤ 60 ∧ A (5 * s + 3) = nI x) ∧ (∃ x : Nat, x ≤ 9 ∧ A (5 * s + 4) = nI x) ∧
    (∃ bits : Nat, bits < 64 ∧ c 5 = nI bits ∧ ∀ o, o < 6 → bits.testBit o = tk o)) ∧
  (∀ o, o < 6 → A (30 + 6 * s + o) = if tk o = true then 1 else 0) ∧ (∀ o, tk o = true → s < cnt ∧ o < cnt)
/-- what the store has of sort s: f a fruits that came a days ahead of the next one -/
def StoreRel (cnt T s : Nat) (c q A : Nat → Int32) (f : Nat → Nat) : Prop :=
  (s < cnt → (∀ a, 1 ≤ a → a ≤ 60 → q ((T + 60 - a) % 60) = nI (f a)) ∧ c 6 = nI (fb_sum (fun a => f (a + 1)) 60) ∧ ∀ a x : Nat, A (5 * s + 3) = nI x → x ≤ 60 → x < a → f a = 0) ∧
  (∀ a, 1 ≤ a → a ≤ 64 → A (198 + 64 * s + (T + 64 - a) % 64) = nI (f a)) ∧ (cnt ≤ s → ∀ a, f a = 0)
def FrostRel (h sh A : Nat → Int32) : Prop := ∀ d, d < 50 →
  (A (582 + 3 * d) = 1 ∧ h d = A (582 + 3 * d + 1) ∧ sh d = A (582 + 3 * d + 2) ∧ (∃ x : Nat, x ≤ 6 ∧ A (582 + 3 * d + 1) = nI x) ∧ (∃ x : Nat, x ≤ 100 ∧ A (582 + 3 * d + 2) = nI x)) ∨ (A (582 + 3 * d) = 0 ∧ sh d = 0)
def WarmRel (dn : Nat) (c A : Nat → Int32) : Prop := ∀ d, d < dn → c d = A (732 + d) ∧ ∃ x : Nat, x ≤ 60 ∧ A (732 + d) = nI x
/-- a book (C its cells from the Book on, CL its totals) and the reference's numbers -/
def BookRel (cnt yr dn : Nat) (C : Nat → Nat → Int32) (CL : Nat → Int64) (A : Nat → Int32) (AL : Nat → Int64) : Prop :=
  HeadRel cnt yr dn (C 0) A ∧ (∃ tk : Nat → Nat → Bool, ∀ s, s < 6 → SortRel cnt s (C (7 + 2 * s)) A (tk s)) ∧
  (∃ f : Nat → Nat → Nat, (∀ s, s < 6 → StoreRel cnt (50 * yr + dn) s (C (7 + 2 * s)) (C (8 + 2 * s)) A (f s)) ∧ fb_sum (fun s => fb_sum (fun a => f s (a + 1)) 60) 6 ≤ 1000) ∧
  (∀ p, p < 12 → PlaceRel cnt yr dn (C (19 + 2 * p)) (C (20 + 2 * p)) (fun k => A (66 + 11 * p + k))) ∧
  FrostRel (C 4) (C 5) A ∧ WarmRel dn (C 3) A ∧ (∀ k, k < 10 → CL k = AL k)
def SheetRel (S : St) : Prop := ∀ s, s < 4 → S.1 (88 + 2 * s) 0 = S.1 113 s ∧ (S.1 113 s = 0 ∨ S.1 113 s = 1 ∨ S.1 113 s = 2) ∧ S.1 (88 + 2 * s) 1 = S.1 114 s ∧ (∃ n : Nat, n ≤ 50 ∧ S.1 114 s = nI n ∧ (S.1 113 s = 0 → n = 0)) ∧ ∀ i, i < 50 → S.1 (89 + 2 * s) i = S.1 115 (50 * s + i)
-- the laying, told by numbers: which trees, which pairs
/-- by the table: the first day on which the sum is need at least (50: none) -/
def tabSum (d : Nat) : Nat := fb_sum (fun k => 5 + k) d
def tabFirst (need : Nat) : Nat := ((List.range 50).find? (fun d => decide (need ≤ tabSum (d + 1)))).getD 50
/-- two sorts bloom together on a day, by the table -/
def tabTog (A : Nat → Int32) (s o : Nat) : Bool := (List.range 50).any fun d => decide (tabFirst (ix (A (5 * s))) ≤ d ∧ d < tabFirst (ix (A (5 * s))) + ix (A (5 * s + 1))) && decide (tabFirst (ix (A (5 * o))) ≤ d ∧ d < tabFirst (ix (A (5 * o))) + ix (A (5 * o + 1)))
def layFits (A : Nat → Int32) (s o : Nat) : Bool := decide (A (30 + 6 * s + o) = 1) && tabTog A s o
def layNear (A : Nat → Int32) (p q : Nat) : Bool := decide (ix (A (66 + 11 * p)) ≤ ix (A (66 + 11 * q)) + ix (A 783) ∧ ix (A (66 + 11 * q)) ≤ ix (A (66 + 11 * p)) + ix (A 783) ∧ ix (A (66 + 11 * p + 1)) ≤ ix (A (66 + 11 * q + 1)) + ix (A 783) ∧ ix (A (66 + 11 * q + 1)) ≤ ix (A (66 + 11 * p + 1)) + ix (A 783))
def layTrees (A : Nat → Int32) : List Nat := (List.range 12).filter fun p => decide (A (66 + 11 * p + 2) = 1)
/-- the sort that tree t of m has in giving g of n sorts -/
def layDig (n m g t : Nat) : Nat := g / n ^ (m - 1 - t) % n
def layPairs (A : Nat → Int32) (n g : Nat) : Nat := fb_sum (fun a => fb_sum (fun b => if (a ≠ b ∧ layNear A ((layTrees A).getD a 0) ((layTrees A).getD b 0) = true ∧ layFits A (layDig n (layTrees A).length g a) (layDig n (layTrees A).length g b) = true) then 1 else 0) (layTrees A).length) (layTrees A).length
/-- g is the giving that best() tells -/
def layBest (A : Nat → Int32) (n g : Nat) : Prop := 0 < n ∧ 0 < (layTrees A).length ∧ n ^ (layTrees A).length ≤ 5000 ∧ g < n ^ (layTrees A).length ∧ (∀ h, h < n ^ (layTrees A).length → layPairs A n h ≤ layPairs A n g) ∧ ∀ h, h < g → layPairs A n h < layPairs A n g
def LayRel (cnt : Nat) (c told A giv : Nat → Int32) (isG : Int32) : Prop := c 0 = isG ∧ (isG = 0 ∨ (isG = 1 ∧ ∃ g, layBest A cnt g ∧ c 1 = nI (layPairs A cnt g) ∧ ∀ t, t < (layTrees A).length → told ((layTrees A).getD t 0) = nI (layDig cnt (layTrees A).length g t) ∧ giv ((layTrees A).getD t 0) = nI (layDig cnt (layTrees A).length g t)))
/-- all of it; B bounds the years -/
def Rel (B : Nat) (S : St) : Prop := ∃ cnt yr dn : Nat, yr ≤ B ∧ BookRel cnt yr dn (fun i => S.1 (1 + i)) (S.2 7) (S.1 109) (S.2 111) ∧
  (S.1 0 2 = S.1 108 4 ∧ (S.1 108 4 = 0 ∨ (S.1 108 4 = 1 ∧ ∃ cnt' yr' dn' : Nat, yr' ≤ B ∧ BookRel cnt' yr' dn' (fun i => S.1 (44 + i)) (S.2 50) (S.1 110) (S.2 112)))) ∧
  SheetRel S ∧ LayRel cnt (S.1 101) (S.1 104) (S.1 109) (S.1 116) (S.1 108 9) ∧ S.1 0 6 = S.1 108 10 ∧ S.1 106 0 = 0
theorem Rel.mono (B : Nat) (S : St) (h : Rel B S) : Rel (B + 1) S := by
  obtain ⟨cnt, yr, dn, h1, h2, ⟨h3, h4⟩, h5⟩ := h
  refine ⟨cnt, yr, dn, by omega, h2, ⟨h3, ?_⟩, h5⟩
  rcases h4 with h4 | ⟨h4, c', y', d', h6, h7⟩
  · exact Or.inl h4
  · exact Or.inr ⟨h4, c', y', d', by omega, h7⟩
theorem wr1_ne {S : St} {i k j : Nat} {v : Int32} (h : j ≠ i) : (wr S i k v).1 j = S.1 j := by simp [wr, up2_ne h]
theorem wr1_eq {S : St} {i k k' : Nat} {v : Int32} : (wr S i k v).1 i k' = if k' = k then v else S.1 i k' := by simp [wr, up2_eq]
theorem wr2 {S : St} {i k : Nat} {v : Int32} : (wr S i k v).2 = S.2 := rfl
theorem wrL1 {S : St} {i k : Nat} {v : Int64} : (wrL S i k v).1 = S.1 := rfl
theorem wrL2_ne {S : St} {i k j : Nat} {v : Int64} (h : j ≠ i) : (wrL S i k v).2 j = S.2 j := by simp [wrL, up2_ne h]
theorem wrL2_eq {S : St} {i k k' : Nat} {v : Int64} : (wrL S i k v).2 i k' = if k' = k then v else S.2 i k' := by simp [wrL, up2_eq]
theorem BookRel.cong {cnt yr dn : Nat} {C C' : Nat → Nat → Int32} {CL AL : Nat → Int64} {A : Nat → Int32} (h : BookRel cnt yr dn C CL A AL) (hC : ∀ i, i ≤ 42 → C' i = C i) : BookRel cnt yr dn C' CL A AL := by
  obtain ⟨h1, ⟨tk, h2⟩, ⟨f, h3, h3'⟩, h4, h5, h6, h7⟩ := h
  refine ⟨by rw [hC 0 (by omega)]; exact h1, ⟨tk, fun s hs => by rw [hC (7 + 2 * s) (by omega)]; exact h2 s hs⟩, ⟨f, fun s hs => by rw [hC (7 + 2 * s) (by omega), hC (8 + 2 * s) (by omega)]; exact h3 s hs, h3'⟩, fun p hp => by rw [hC (19 + 2 * p) (by omega), hC (20 + 2 * p) (by omega)]; exact h4 p hp, by rw [hC 4 (by omega), hC 5 (by omega)]; exact h5, by rw [hC 3 (by omega)]; exact h6, h7⟩
/-- nothing that is related has changed but the two counts of findings -/
theorem Rel.keep {B : Nat} {S S' : St} (h : Rel B S) (hC : ∀ i, 1 ≤ i → i ≤ 95 → S'.1 i = S.1 i) (hL0 : S'.1 101 0 = S.1 101 0) (hL1 : S'.1 101 1 = S.1 101 1) (hT : S'.1 104 = S.1 104) (hR : ∀ i, 109 ≤ i → i ≤ 116 → S'.1 i = S.1 i) (h8 : ∀ k, k < 10 → S'.1 108 k = S.1 108 k) (h02 : S'.1 0 2 = S.1 0 2) (hf : S'.1 0 6 = S'.1 108 10) (h2 : S'.2 = S.2) (h106 : S'.1 106 0 = S.1 106 0) : Rel (B + 1) S' := by
  obtain ⟨cnt, yr, dn, g1, g2, ⟨g3, g4⟩, g5, g6, g7⟩ := h.mono
  refine ⟨cnt, yr, dn, g1, ?_, ⟨by rw [h02, h8 4 (by decide)]; exact g3, ?_⟩, ?_, ?_, hf, h106.trans g7.2⟩
  · rw [h2, hR 109 (by decide) (by decide)]
    exact g2.cong (fun i hi => hC (1 + i) (by omega) (by omega))
  · rw [h8 4 (by decide)]
    rcases g4 with g4 | ⟨g4, c', y', d', q1, q2⟩
    · exact Or.inl g4
    · refine Or.inr ⟨g4, c', y', d', q1, ?_⟩
      rw [h2, hR 110 (by decide) (by decide)]
      exact q2.cong (fun i hi => hC (44 + i) (by omega) (by omega))
  · intro s hs
    rw [hC (88 + 2 * s) (by omega) (by omega), hC (89 + 2 * s) (by omega) (by omega), hR 113 (by decide) (by decide), hR 114 (by decide) (by decide), hR 115 (by decide) (by decide)]
    exact g5 s hs
  · obtain ⟨q1, q2⟩ := g6
    refine ⟨by rw [hL0, h8 9 (by decide)]; exact q1, ?_⟩
    rw [hR 109 (by decide) (by decide), h8 9 (by decide)]
    rcases q2 with q2 | ⟨q2, g, q3, q4, q5⟩
    · exact Or.inl q2
    · exact Or.inr ⟨q2, g, q3, by rw [hL1]; exact q4, by rw [hT, hR 116 (by decide) (by decide)]; exact q5⟩
/-- both count a finding -/
theorem Rel.found {B : Nat} {S : St} (c d : Int32) (h : Rel B S) : Rel (B + 1) (f_X7_found c (f_X6_finding d S).2).2 := by
  have e : ∀ j, j ≠ 0 → j ≠ 108 → (f_X7_found c (f_X6_finding d S).2).2.1 j = S.1 j := by
    intro j a b
    simp only [f_X7_found, f_X6_finding]
    rw [wr1_ne b, wr1_ne a]
  have hf : S.1 0 6 = S.1 108 10 := by obtain ⟨_, _, _, _, _, _, _, _, q⟩ := h; exact q.1
  refine h.keep (fun i a b => e i (by omega) (by omega)) (by rw [e 101 (by decide) (by decide)]) (by rw [e 101 (by decide) (by decide)]) (e 104 (by decide) (by decide)) (fun i a b => e i (by omega) (by omega)) ?_ ?_ ?_ rfl (by rw [e 106 (by decide) (by decide)])
  · intro k hk
    simp only [f_X7_found, f_X6_finding]
    rw [wr1_eq, if_neg (by omega), wr1_ne (by decide)]
  · simp only [f_X7_found, f_X6_finding]
    rw [wr1_ne (by decide), wr1_eq, if_neg (by decide)]
  · simp only [f_X7_found, f_X6_finding, rd]
    rw [wr1_ne (by decide), wr1_eq, if_pos rfl, wr1_eq, if_pos rfl, wr1_ne (by decide), hf]
theorem Rel.same {B : Nat} {S : St} (h : Rel B S) : Rel (B + 1) S := h.mono
theorem in_eq (x a b : Int32) : f_X7_in x a b = f_X6_within x a b := rfl
/-- both answer the same finding -/
theorem Sm_found {B : Nat} {S : St} (c : Int32) (h : Rel B S) : ∃ (v : Int32) (S1 S2 : St), some (((f_X6_finding c S).1), (f_X6_finding c S).2) = some (v, S1) ∧ some (((f_X7_found c S1).1), (f_X7_found c S1).2) = some (v, S2) ∧ Rel (B + 1) S2 := ⟨_, _, _, rfl, rfl, h.found c c⟩
