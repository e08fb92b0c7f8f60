-- what each part of the relation hangs on
theorem fb_sum_cong {f g : Nat → Nat} : ∀ {n : Nat}, (∀ k, k < n → f k = g k) → fb_sum f n = fb_sum g n
  | 0, _ => rfl
  | n + 1, h => by rw [fb_sum, fb_sum, fb_sum_cong (fun k hk => h k (by omega)), h n (by omega)]
theorem SortRel.cong {cnt s : Nat} {c A A' : Nat → Int32} {tk : Nat → Bool} (h : SortRel cnt s c A tk) (hs : s < 6) (hA : ∀ k, k < 66 → A' k = A k) : SortRel cnt s c A' tk := by
  obtain ⟨h1, h2, h3⟩ := h
  refine ⟨fun hc => ?_, fun o ho => by rw [hA _ (by omega)]; exact h2 o ho, h3⟩
  obtain ⟨q1, q2, q3, q4, q5, q6, q7⟩ := h1 hc
  exact ⟨fun k hk => by rw [hA _ (by omega)]; exact q1 k hk, by rw [hA _ (by omega)]; exact q2, by rw [hA _ (by omega)]; exact q3, by rw [hA _ (by omega)]; exact q4, by rw [hA _ (by omega)]; exact q5, by rw [hA _ (by omega)]; exact q6, q7⟩
theorem StoreRel.cong {cnt T s : Nat} {c q A A' : Nat → Int32} {f : Nat → Nat} (h : StoreRel cnt T s c q A f) (hs : s < 6) (hA : ∀ k, k < 30 → A' k = A k) (hB : ∀ k, 198 ≤ k → k < 582 → A' k = A k) : StoreRel cnt T s c q A' f := by
  obtain ⟨h1, h2, h3⟩ := h
  refine ⟨fun hc => ?_, fun a h4 h5 => by rw [hB _ (by omega) (by omega)]; exact h2 a h4 h5, h3⟩
  obtain ⟨q1, q2, q3⟩ := h1 hc
  exact ⟨q1, q2, fun a x hx => q3 a x (by rw [← hA _ (by omega)]; exact hx)⟩
theorem FrostRel.cong {h sh A A' : Nat → Int32} (g : FrostRel h sh A) (hA : ∀ k, 582 ≤ k → k < 732 → A' k = A k) : FrostRel h sh A' := by
  intro d hd
  rw [hA _ (by omega) (by omega), hA (582 + 3 * d + 1) (by omega) (by omega), hA (582 + 3 * d + 2) (by omega) (by omega)]
  exact g d hd
theorem WarmRel.cong {dn : Nat} {c A A' : Nat → Int32} (g : WarmRel dn c A) (hd : dn ≤ 50) (hA : ∀ k, 732 ≤ k → k < 782 → A' k = A k) : WarmRel dn c A' := by
  intro d hdn
  rw [hA _ (by omega) (by omega)]
  exact g d hdn
theorem PlaceRel.cong {cnt yr dn : Nat} {c f a a' : Nat → Int32} (h : PlaceRel cnt yr dn c f a) (ha : ∀ k, k ≤ 10 → a' k = a k) : PlaceRel cnt yr dn c f a' := by
  unfold PlaceRel at h ⊢
  rw [ha 0 (by decide), ha 1 (by decide), ha 2 (by decide), ha 3 (by decide), ha 4 (by decide), ha 5 (by decide), ha 6 (by decide), ha 7 (by decide), ha 8 (by decide), ha 9 (by decide), ha 10 (by decide)]
  exact h
/-- a book of which the head alone has changed -/
theorem BookRel.head {cnt yr dn : Nat} {C C' : Nat → Nat → Int32} {CL AL : Nat → Int64} {A A' : Nat → Int32} (h : BookRel cnt yr dn C CL A AL) (hH : HeadRel cnt yr dn (C' 0) A') (hC : ∀ i, 1 ≤ i → i ≤ 42 → C' i = C i) (hA : ∀ k, k < 782 → A' k = A k) : BookRel cnt yr dn C' CL A' AL := by
  obtain ⟨h1, ⟨tk, h2⟩, ⟨f, h3, h3'⟩, h4, h5, h6, h7⟩ := h
  refine ⟨hH, ⟨tk, fun s hs => ?_⟩, ⟨f, fun s hs => ?_, h3'⟩, fun p hp => ?_, ?_, ?_, h7⟩
  · rw [hC (7 + 2 * s) (by omega) (by omega)]
    exact (h2 s hs).cong hs (fun k hk => hA k (by omega))
  · rw [hC (7 + 2 * s) (by omega) (by omega), hC (8 + 2 * s) (by omega) (by omega)]
    exact (h3 s hs).cong hs (fun k hk => hA k (by omega)) (fun k _ hk => hA k (by omega))
  · rw [hC (19 + 2 * p) (by omega) (by omega), hC (20 + 2 * p) (by omega) (by omega)]
    exact (h4 p hp).cong (fun k hk => hA _ (by omega))
  · rw [hC 4 (by omega) (by omega), hC 5 (by omega) (by omega)]
    exact h5.cong (fun k _ hk => hA k (by omega))
  · rw [hC 3 (by omega) (by omega)]
    have : dn ≤ 49 := h1.2.1
    exact h6.cong (by omega) (fun k _ hk => hA k (by omega))
theorem layTrees_lt {A : Nat → Int32} (t : Nat) : (layTrees A).getD t 0 < 12 := by
  rw [List.getD_eq_getElem?_getD]
  cases h : (layTrees A)[t]? with
  | none => decide
  | some p =>
    have hm : p ∈ layTrees A := List.mem_of_getElem? h
    have := (List.mem_filter.mp hm).1
    exact List.mem_range.mp this
theorem layTrees_cong {A A' : Nat → Int32} (hB : ∀ p k, p < 12 → k < 3 → A' (66 + 11 * p + k) = A (66 + 11 * p + k)) : layTrees A' = layTrees A := by
  unfold layTrees
  apply List.filter_congr
  intro p hp
  rw [hB p 2 (List.mem_range.mp hp) (by decide)]
theorem layNear_cong {A A' : Nat → Int32} (hB : ∀ p k, p < 12 → k < 3 → A' (66 + 11 * p + k) = A (66 + 11 * p + k)) (hd : A' 783 = A 783) {p q : Nat} (hp : p < 12) (hq : q < 12) : layNear A' p q = layNear A p q := by
  have e0 : ∀ p, p < 12 → A' (66 + 11 * p) = A (66 + 11 * p) := fun p h => hB p 0 h (by decide)
  have e1 : ∀ p, p < 12 → A' (66 + 11 * p + 1) = A (66 + 11 * p + 1) := fun p h => hB p 1 h (by decide)
  unfold layNear
  rw [hd, e0 p hp, e0 q hq, e1 p hp, e1 q hq]
theorem layFits_cong {A A' : Nat → Int32} (hA : ∀ k, k < 66 → A' k = A k) {s o : Nat} (hs : s < 6) (ho : o < 6) : layFits A' s o = layFits A s o := by
  unfold layFits tabTog
  rw [hA (30 + 6 * s + o) (by omega), hA (5 * s) (by omega), hA (5 * s + 1) (by omega), hA (5 * o) (by omega), hA (5 * o + 1) (by omega)]
theorem layDig_lt {n m g t : Nat} (hn : 0 < n) : layDig n m g t < n := Nat.mod_lt _ hn
theorem layPairs_cong {A A' : Nat → Int32} {n g : Nat} (hn : 0 < n) (hn6 : n ≤ 6) (hA : ∀ k, k < 66 → A' k = A k) (hB : ∀ p k, p < 12 → k < 3 → A' (66 + 11 * p + k) = A (66 + 11 * p + k)) (hd : A' 783 = A 783) : layPairs A' n g = layPairs A n g := by
  unfold layPairs
  rw [layTrees_cong hB]
  apply fb_sum_cong
  intro a ha
  apply fb_sum_cong
  intro b hb
  have h1 : layDig n (layTrees A).length g a < n := layDig_lt hn
  have h2 : layDig n (layTrees A).length g b < n := layDig_lt hn
  rw [layNear_cong hB hd (layTrees_lt a) (layTrees_lt b), layFits_cong hA (by omega) (by omega)]
theorem layBest_cong {A A' : Nat → Int32} {n g : Nat} (hn6 : n ≤ 6) (hA : ∀ k, k < 66 → A' k = A k) (hB : ∀ p k, p < 12 → k < 3 → A' (66 + 11 * p + k) = A (66 + 11 * p + k)) (hd : A' 783 = A 783) (h : layBest A n g) : layBest A' n g := by
  obtain ⟨h1, h2, h3, h4, h5, h6⟩ := h
  unfold layBest
  rw [layTrees_cong hB]
  refine ⟨h1, h2, h3, h4, fun x hx => ?_, fun x hx => ?_⟩
  · rw [layPairs_cong h1 hn6 hA hB hd, layPairs_cong h1 hn6 hA hB hd]; exact h5 x hx
  · rw [layPairs_cong h1 hn6 hA hB hd, layPairs_cong h1 hn6 hA hB hd]; exact h6 x hx
theorem LayRel.cong' {cnt : Nat} {c told A A' giv : Nat → Int32} {isG : Int32} (hc : cnt ≤ 6) (h : LayRel cnt c told A giv isG) (hA : ∀ k, k < 66 → A' k = A k) (hB : ∀ p k, p < 12 → k < 3 → A' (66 + 11 * p + k) = A (66 + 11 * p + k)) (hd : A' 783 = A 783) : LayRel cnt c told A' giv isG := by
  obtain ⟨h1, h2⟩ := h
  refine ⟨h1, ?_⟩
  rcases h2 with h2 | ⟨h2, g, h3, h4, h5⟩
  · exact Or.inl h2
  · refine Or.inr ⟨h2, g, layBest_cong hc hA hB hd h3, ?_, ?_⟩
    · rw [layPairs_cong h3.1 hc hA hB hd]; exact h4
    · rw [layTrees_cong hB]; exact h5
theorem LayRel.cong {cnt : Nat} {c told A A' giv : Nat → Int32} {isG : Int32} (hc : cnt ≤ 6) (h : LayRel cnt c told A giv isG) (hA : ∀ k, k < 198 → A' k = A k) (hd : A' 783 = A 783) : LayRel cnt c told A' giv isG := h.cong' hc (fun k hk => hA k (by omega)) (fun p k hp hk => hA _ (by omega)) hd
/-- the laying is forgotten -/
theorem LayRel.no {cnt : Nat} {c told A giv : Nat → Int32} (h : c 0 = 0) : LayRel cnt c told A giv 0 := ⟨h, Or.inl rfl⟩
theorem within_nat {x : Int32} {a b : Nat} (ha : a < 2 ^ 31) (hb : b < 2 ^ 31) (h : f_X6_within x (nI a) (nI b) = true) : ∃ n : Nat, a ≤ n ∧ n ≤ b ∧ x = nI n := by
  unfold f_X6_within at h
  by_cases h1 : x < nI a
  · rw [if_pos h1] at h; cases h
  · rw [if_neg h1] at h
    by_cases h2 : nI b < x
    · rw [if_pos h2] at h; cases h
    · have e1 := Int32.le_iff_toInt_le.mp (Int32.not_lt.mp h1)
      have e2 := Int32.le_iff_toInt_le.mp (Int32.not_lt.mp h2)
      rw [nI_toInt hb] at e2
      rw [nI_toInt ha] at e1
      obtain ⟨n, hn, rfl⟩ := nI_of (x := x) (fun q => by
        have := Int32.lt_iff_toInt_lt.mp q
        simp at this
        omega)
      rw [nI_toInt hn] at e1 e2
      exact ⟨n, by omega, by omega, rfl⟩
/-- a book of which place p alone has changed (and its totals) -/
theorem BookRel.place {cnt yr dn : Nat} {C C' : Nat → Nat → Int32} {CL CL' AL AL' : Nat → Int64} {A A' : Nat → Int32} (h : BookRel cnt yr dn C CL A AL) {p : Nat} (hC : ∀ i, i ≤ 42 → i ≠ 19 + 2 * p → i ≠ 20 + 2 * p → C' i = C i) (hA : ∀ k, (k < 66 + 11 * p ∨ 66 + 11 * p + 10 < k) → A' k = A k) (hp : p < 12) (hP : PlaceRel cnt yr dn (C' (19 + 2 * p)) (C' (20 + 2 * p)) (fun k => A' (66 + 11 * p + k))) (hT : ∀ k, k < 10 → CL' k = AL' k) : BookRel cnt yr dn C' CL' A' AL' := by
  obtain ⟨h1, ⟨tk, h2⟩, ⟨f, h3, h3'⟩, h4, h5, h6, h7⟩ := h
  refine ⟨?_, ⟨tk, fun s hs => ?_⟩, ⟨f, fun s hs => ?_, h3'⟩, fun q hq => ?_, ?_, ?_, hT⟩
  · rw [hC 0 (by omega) (by omega) (by omega)]
    unfold HeadRel at h1 ⊢
    rw [hA 782 (by omega), hA 783 (by omega), hA 784 (by omega), hA 785 (by omega), hA 786 (by omega), hA 787 (by omega)]
    exact h1
  · rw [hC (7 + 2 * s) (by omega) (by omega) (by omega)]
    exact (h2 s hs).cong hs (fun k hk => hA k (by omega))
  · rw [hC (7 + 2 * s) (by omega) (by omega) (by omega), hC (8 + 2 * s) (by omega) (by omega) (by omega)]
    exact (h3 s hs).cong hs (fun k hk => hA k (by omega)) (fun k _ hk => hA k (by omega))
  · by_cases e : q = p
    · subst e; exact hP
    · rw [hC (19 + 2 * q) (by omega) (by omega) (by omega), hC (20 + 2 * q) (by omega) (by omega) (by omega)]
      exact (h4 q hq).cong (fun k hk => hA _ (by omega))
  · rw [hC 4 (by omega) (by omega) (by omega), hC 5 (by omega) (by omega) (by omega)]
    exact h5.cong (fun k _ hk => hA k (by omega))
  · rw [hC 3 (by omega) (by omega) (by omega)]
    have : dn ≤ 49 := h1.2.1
    exact h6.cong (by omega) (fun k _ hk => hA k (by omega))
