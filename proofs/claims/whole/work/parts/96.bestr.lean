-- the reference's best
def trJ (A : Nat → Int32) (j : Nat) : List Nat := (List.range j).filter fun p => decide (A (66 + 11 * p + 2) = 1)
theorem trJ_12 (A : Nat → Int32) : trJ A 12 = layTrees A := rfl
theorem trJ_yes {A : Nat → Int32} {j : Nat} (h : A (66 + 11 * j + 2) = 1) : trJ A (j + 1) = trJ A j ++ [j] := by
  unfold trJ
  rw [List.range_succ, List.filter_append]
  simp [h]
theorem trJ_no {A : Nat → Int32} {j : Nat} (h : ¬ A (66 + 11 * j + 2) = 1) : trJ A (j + 1) = trJ A j := by
  unfold trJ
  rw [List.range_succ, List.filter_append]
  simp [h]
theorem trJ_le (A : Nat → Int32) : ∀ j, (trJ A j).length ≤ j
  | 0 => Nat.le_refl _
  | j + 1 => by
    have := trJ_le A j
    by_cases h : A (66 + 11 * j + 2) = 1
    · rw [trJ_yes h, List.length_append]; simp; omega
    · rw [trJ_no h]; omega
theorem getD_app {l : List Nat} {x t : Nat} (ht : t < l.length + 1) : (l ++ [x]).getD t 0 = if t = l.length then x else l.getD t 0 := by
  rw [List.getD_eq_getElem?_getD, List.getD_eq_getElem?_getD]
  by_cases e : t = l.length
  · rw [if_pos e, e, List.getElem?_append_right (Nat.le_refl _)]; simp
  · rw [if_neg e, List.getElem?_append_left (by omega)]
theorem layTrees_inj {A : Nat → Int32} {a b : Nat} (ha : a < (layTrees A).length) (hb : b < (layTrees A).length) (h : (layTrees A).getD a 0 = (layTrees A).getD b 0) : a = b := by
  have nd : (layTrees A).Nodup := List.nodup_range.filter _
  have hp := List.pairwise_iff_getElem.mp nd
  rw [List.getD_eq_getElem?_getD, List.getD_eq_getElem?_getD, List.getElem?_eq_getElem ha, List.getElem?_eq_getElem hb] at h
  simp only [Option.getD_some] at h
  rcases Nat.lt_trichotomy a b with q | q | q
  · exact absurd h (hp a b ha hb q)
  · exact q
  · exact absurd h.symm (hp b a hb ha q)
theorem treesR {S : St} (K : Int32 → St → Option (Int32 × St)) : ∃ U, f_X7_best_L4 6000 K 0 0 S = K (nI (layTrees (S.1 109)).length) U ∧ U.2 = S.2 ∧ (∀ i, i ≠ 121 → U.1 i = S.1 i) ∧ ∀ t, t < (layTrees (S.1 109)).length → U.1 121 t = nI ((layTrees (S.1 109)).getD t 0) := by
  have := loop_up (N := 12) (fun n i (v : Int32 × St) => f_X7_best_L4 n K v.1 i v.2) (fun v => K v.1 v.2) (fun j v => v.1 = nI (trJ (S.1 109) j).length ∧ v.2.2 = S.2 ∧ (∀ i, i ≠ 121 → v.2.1 i = S.1 i) ∧ ∀ t, t < (trJ (S.1 109) j).length → v.2.1 121 t = nI ((trJ (S.1 109) j).getD t 0)) (fun n j v hj hP => by
    obtain ⟨many, U⟩ := v
    obtain ⟨p1, p2, p3, p4⟩ := hP
    simp only at p1 p2 p3 p4
    subst p1
    have h1 : (nI j < (12 : Int32)) = True := ltT hj (by decide)
    have hl := trJ_le (S.1 109) j
    have ek : f_X7_get (nI j) 2 U = some (S.1 109 (66 + 11 * j + 2)) := by
      rw [get_k hj]; show some (U.1 109 _) = _; rw [p3 109 (by decide)]
    by_cases k1 : S.1 109 (66 + 11 * j + 2) = 1
    · have hin : inb (nI (trJ (S.1 109) j).length) 12 = true := inb_nI (by omega) (by decide)
      have hix : ix (nI (trJ (S.1 109) j).length) = (trJ (S.1 109) j).length := ix_nI (by omega)
      refine ⟨(nI ((trJ (S.1 109) j).length + 1), wr U 121 (trJ (S.1 109) j).length (nI j)), ⟨?_, p2, fun i hi => by rw [wr1_ne hi]; exact p3 i hi, fun t ht => ?_⟩, ?_⟩
      · rw [trJ_yes k1, List.length_append]; rfl
      · rw [trJ_yes k1, List.length_append] at ht
        rw [trJ_yes k1, getD_app ht]
        show (wr U 121 _ _).1 121 t = _
        rw [wr1_eq]
        by_cases e : t = (trJ (S.1 109) j).length
        · rw [if_pos e, if_pos e]
        · rw [if_neg e, if_neg e]; exact p4 t (by simp at ht; omega)
      · simp only [f_X7_best_L4, h1, if_true, ek, Option.bind_some, k1, hin, hix, nI_1]
    · refine ⟨(nI (trJ (S.1 109) j).length, U), ⟨by rw [trJ_no k1], p2, p3, fun t ht => by rw [trJ_no k1] at ht ⊢; exact p4 t ht⟩, ?_⟩
      simp only [f_X7_best_L4, h1, if_true, ek, Option.bind_some, k1, if_false, nI_1]) (fun n v hP => by
    have h1 : (nI 12 < (12 : Int32)) = False := ltF (N := 12) (by decide) (by decide)
    simp only [f_X7_best_L4, h1, if_false]) (fuel := 6000) (T := (0, S)) (by decide) ⟨rfl, rfl, fun _ _ => rfl, fun t ht => absurd ht (by simp [trJ])⟩
  rw [nI_0] at this
  obtain ⟨⟨many, U⟩, ⟨p1, p2, p3, p4⟩, e⟩ := this
  simp only at p1 p2 p3 p4 e
  subst p1
  exact ⟨U, e, p2, p3, p4⟩
theorem powR (K : Int32 → Int32 → Int64 → St → Option (Int32 × St)) (m n : Nat) (hm : m ≤ 12) (hn : n ≤ 6) (S : St) : f_X7_best_L68 6000 K (nI m) (nI n) 1 0 S = K (nI m) (nI n) (lN (n ^ m)) S := by
  have := loop_up (N := m) (fun k i (v : Int64) => f_X7_best_L68 k K (nI m) (nI n) v i S) (fun v => K (nI m) (nI n) v S) (fun j v => v = lN (n ^ j)) (fun k j v hj hP => by
    refine ⟨_, rfl, ?_⟩
    have h1 : (nI j < nI m) = True := ltT hj (by omega)
    have h2 : (nI n).toInt64 = lN n := nI_l (by omega)
    simp only [f_X7_best_L68, h1, if_true, hP, h2, lN_mul, nI_1, Nat.pow_succ]) (fun k v hP => by
    have h1 : (nI m < nI m) = False := ltF (Nat.le_refl _) (by omega)
    simp only [f_X7_best_L68, h1, if_false]) (fuel := 6000) (T := 1) (by omega) rfl
  rw [nI_0] at this
  obtain ⟨v, hv, e⟩ := this
  subst hv
  exact e
theorem fitsRows {cnt yr : Nat} {S : St} (h : OrA cnt yr (S.1 109)) (K : Int32 → Int32 → St → Option (Int32 × St)) (a : Int32) : ∃ U, f_X7_best_L103 6000 K a (nI cnt) 0 S = K a (nI cnt) U ∧ U.2 = S.2 ∧ (∀ i, i ≠ 123 → U.1 i = S.1 i) ∧ ∀ s o, s < cnt → o < cnt → U.1 123 (6 * s + o) = if layFits (S.1 109) s o = true then 1 else 0 := by
  have hc := h.1
  have row : ∀ (j : Nat) (T : St) (K : Int32 → Int32 → Int32 → St → Option (Int32 × St)), j < cnt → (∀ i, i ≠ 123 → T.1 i = S.1 i) → ∃ U, f_X7_best_L112 6000 K a (nI cnt) (nI j) 0 T = K a (nI cnt) (nI j) U ∧ U.2 = T.2 ∧ (∀ i, i ≠ 123 → U.1 i = T.1 i) ∧ (∀ k, (k < 6 * j ∨ 6 * j + 6 ≤ k) → U.1 123 k = T.1 123 k) ∧ ∀ o, o < cnt → U.1 123 (6 * j + o) = if layFits (S.1 109) j o = true then 1 else 0 := by
    intro j T K hj hT
    have := loop_up (N := cnt) (fun n i U => f_X7_best_L112 n K a (nI cnt) (nI j) i U) (fun U => K a (nI cnt) (nI j) U) (fun x U => U.2 = T.2 ∧ (∀ i, i ≠ 123 → U.1 i = T.1 i) ∧ (∀ k, (k < 6 * j ∨ 6 * j + 6 ≤ k) → U.1 123 k = T.1 123 k) ∧ ∀ o, o < x → U.1 123 (6 * j + o) = if layFits (S.1 109) j o = true then 1 else 0) (fun n x U hx hP => by
      obtain ⟨p1, p2, p3, p4⟩ := hP
      have h109 : U.1 109 = S.1 109 := by rw [p2 109 (by decide), hT 109 (by decide)]
      have ef := fitsR (S := U) (by rw [h109]; exact h) hj hx
      rw [h109] at ef
      have h1 : (nI x < nI cnt) = True := ltT hx (by omega)
      have e6 : (6 : Int32) * nI j + nI x = nI (6 * j + x) := by rw [show (6 : Int32) = nI 6 from rfl, pk_mul, nI_add]
      have hin : inb (nI (6 * j + x)) 36 = true := inb_nI (by omega) (by decide)
      have hix : ix (nI (6 * j + x)) = 6 * j + x := ix_nI (by omega)
      refine ⟨wr U 123 (6 * j + x) (b2i (layFits (S.1 109) j x)), ⟨p1, fun i hi => by rw [wr1_ne hi]; exact p2 i hi, fun k hk => by rw [wr1_eq, if_neg (by omega)]; exact p3 k hk, fun o ho => ?_⟩, by simp only [f_X7_best_L112, h1, if_true, ef, Option.bind_some, e6, hin, hix, nI_1]⟩
      rw [wr1_eq]
      by_cases e : o = x
      · subst e; rw [if_pos rfl]; cases layFits (S.1 109) j o <;> rfl
      · rw [if_neg (by omega)]; exact p4 o (by omega)) (fun n U hP => by
      have h1 : (nI cnt < nI cnt) = False := ltF (Nat.le_refl _) (by omega)
      simp only [f_X7_best_L112, h1, if_false]) (fuel := 6000) (T := T) (by omega) ⟨rfl, fun _ _ => rfl, fun _ _ => rfl, fun o ho => absurd ho (by omega)⟩
    rw [nI_0] at this
    obtain ⟨U, ⟨p1, p2, p3, p4⟩, e⟩ := this
    exact ⟨U, e, p1, p2, p3, p4⟩
  have := loop_up (N := cnt) (fun n i U => f_X7_best_L103 n K a (nI cnt) i U) (fun U => K a (nI cnt) U) (fun j U => U.2 = S.2 ∧ (∀ i, i ≠ 123 → U.1 i = S.1 i) ∧ ∀ s o, s < j → o < cnt → U.1 123 (6 * s + o) = if layFits (S.1 109) s o = true then 1 else 0) (fun n j U hj hP => by
    obtain ⟨p1, p2, p3⟩ := hP
    have h1 : (nI j < nI cnt) = True := ltT hj (by omega)
    obtain ⟨V, e, v1, v2, v3, v4⟩ := row j U (fun e145_1 e145_2 e145_5 T145 => (f_X7_best_L103 n K e145_1 e145_2 (e145_5 + (1 : Int32)) T145)) hj p2
    refine ⟨V, ⟨v1.trans p1, fun i hi => (v2 i hi).trans (p2 i hi), fun s o hs ho => ?_⟩, by simp only [f_X7_best_L103, h1, if_true]; rw [e, nI_1]⟩
    by_cases es : s = j
    · subst es; exact v4 o ho
    · rw [v3 _ (by omega)]; exact p3 s o (by omega) ho) (fun n U hP => by
    have h1 : (nI cnt < nI cnt) = False := ltF (Nat.le_refl _) (by omega)
    simp only [f_X7_best_L103, h1, if_false]) (fuel := 6000) (T := S) (by omega) ⟨rfl, fun _ _ => rfl, fun s o hs => absurd hs (by omega)⟩
  rw [nI_0] at this
  obtain ⟨U, ⟨p1, p2, p3⟩, e⟩ := this
  exact ⟨U, e, p1, p2, p3⟩
theorem nearRows {cnt yr m : Nat} {S : St} {tr : Nat → Nat} (h : OrA cnt yr (S.1 109)) (hm : m ≤ 12) (htr : ∀ t, tr t < 12) (h121 : ∀ t, t < m → S.1 121 t = nI (tr t)) (K : Int32 → Int32 → St → Option (Int32 × St)) (c : Int32) : ∃ U, f_X7_best_L154 6000 K (nI m) c 0 S = K (nI m) c U ∧ U.2 = S.2 ∧ (∀ i, i ≠ 124 → U.1 i = S.1 i) ∧ ∀ a b, a < m → b < m → U.1 124 (12 * a + b) = if a ≠ b ∧ layNear (S.1 109) (tr a) (tr b) = true then 1 else 0 := by
  have row : ∀ (j : Nat) (T : St) (K : Int32 → Int32 → Int32 → St → Option (Int32 × St)), j < m → (∀ i, i ≠ 124 → T.1 i = S.1 i) → ∃ U, f_X7_best_L163 6000 K (nI m) c (nI j) 0 T = K (nI m) c (nI j) U ∧ U.2 = T.2 ∧ (∀ i, i ≠ 124 → U.1 i = T.1 i) ∧ (∀ k, (k < 12 * j ∨ 12 * j + 12 ≤ k) → U.1 124 k = T.1 124 k) ∧ ∀ o, o < m → U.1 124 (12 * j + o) = if j ≠ o ∧ layNear (S.1 109) (tr j) (tr o) = true then 1 else 0 := by
    intro j T K hj hT
    have := loop_up (N := m) (fun n i U => f_X7_best_L163 n K (nI m) c (nI j) i U) (fun U => K (nI m) c (nI j) U) (fun x U => U.2 = T.2 ∧ (∀ i, i ≠ 124 → U.1 i = T.1 i) ∧ (∀ k, (k < 12 * j ∨ 12 * j + 12 ≤ k) → U.1 124 k = T.1 124 k) ∧ ∀ o, o < x → U.1 124 (12 * j + o) = if j ≠ o ∧ layNear (S.1 109) (tr j) (tr o) = true then 1 else 0) (fun n x U hx hP => by
      obtain ⟨p1, p2, p3, p4⟩ := hP
      have o1 : ∀ i, i ≠ 124 → U.1 i = S.1 i := fun i hi => by rw [p2 i hi, hT i hi]
      have h109 : U.1 109 = S.1 109 := o1 109 (by decide)
      have en := nearR (S := U) (by rw [h109]; exact h) (htr j) (htr x)
      rw [h109] at en
      have r1 : rd U 121 j = nI (tr j) := by show U.1 121 j = _; rw [o1 121 (by decide)]; exact h121 j hj
      have r2 : rd U 121 x = nI (tr x) := by show U.1 121 x = _; rw [o1 121 (by decide)]; exact h121 x hx
      have h1 : (nI x < nI m) = True := ltT hx (by omega)
      have e6 : (12 : Int32) * nI j + nI x = nI (12 * j + x) := by rw [show (12 : Int32) = nI 12 from rfl, pk_mul, nI_add]
      have hin : inb (nI (12 * j + x)) 144 = true := inb_nI (by omega) (by decide)
      have hix : ix (nI (12 * j + x)) = 12 * j + x := ix_nI (by omega)
      have i1 : inb (nI j) 12 = true := inb_nI (by omega) (by decide)
      have x1 : ix (nI j) = j := ix_nI (by omega)
      have i2 : inb (nI x) 12 = true := inb_nI (by omega) (by decide)
      have x2 : ix (nI x) = x := ix_nI (by omega)
      have ejx : (nI j = nI x) = (j = x) := propext (nI_eq (by omega) (by omega))
      refine ⟨wr U 124 (12 * j + x) (if j ≠ x ∧ layNear (S.1 109) (tr j) (tr x) = true then 1 else 0), ⟨p1, fun i hi => by rw [wr1_ne hi]; exact p2 i hi, fun k hk => by rw [wr1_eq, if_neg (by omega)]; exact p3 k hk, fun o ho => ?_⟩, ?_⟩
      · rw [wr1_eq]
        by_cases e : o = x
        · subst e; rw [if_pos rfl]
        · rw [if_neg (by omega)]; exact p4 o (by omega)
      · simp only [f_X7_best_L163, h1, if_true, ejx, e6, hin, hix, i1, x1, i2, x2, r1, r2, en, Option.bind_some, nI_1]
        by_cases e : j = x
        · rw [if_pos e, if_neg (fun q => q.1 e)]
        · rw [if_neg e]
          cases hl : layNear (S.1 109) (tr j) (tr x) with
          | true => rw [if_pos rfl, if_pos ⟨e, rfl⟩]
          | false => rw [if_neg (by decide), if_neg (fun q => by cases q.2)]) (fun n U hP => by
      have h1 : (nI m < nI m) = False := ltF (Nat.le_refl _) (by omega)
      simp only [f_X7_best_L163, h1, if_false]) (fuel := 6000) (T := T) (by omega) ⟨rfl, fun _ _ => rfl, fun _ _ => rfl, fun o ho => absurd ho (by omega)⟩
    rw [nI_0] at this
    obtain ⟨U, ⟨p1, p2, p3, p4⟩, e⟩ := this
    exact ⟨U, e, p1, p2, p3, p4⟩
  have := loop_up (N := m) (fun n i U => f_X7_best_L154 n K (nI m) c i U) (fun U => K (nI m) c U) (fun j U => U.2 = S.2 ∧ (∀ i, i ≠ 124 → U.1 i = S.1 i) ∧ ∀ a b, a < j → b < m → U.1 124 (12 * a + b) = if a ≠ b ∧ layNear (S.1 109) (tr a) (tr b) = true then 1 else 0) (fun n j U hj hP => by
    obtain ⟨p1, p2, p3⟩ := hP
    have h1 : (nI j < nI m) = True := ltT hj (by omega)
    obtain ⟨V, e, v1, v2, v3, v4⟩ := row j U (fun e221_1 e221_2 e221_5 T221 => (f_X7_best_L154 n K e221_1 e221_2 (e221_5 + (1 : Int32)) T221)) hj p2
    refine ⟨V, ⟨v1.trans p1, fun i hi => (v2 i hi).trans (p2 i hi), fun s o hs ho => ?_⟩, by simp only [f_X7_best_L154, h1, if_true]; rw [e, nI_1]⟩
    by_cases es : s = j
    · subst es; exact v4 o ho
    · rw [v3 _ (by omega)]; exact p3 s o (by omega) ho) (fun n U hP => by
    have h1 : (nI m < nI m) = False := ltF (Nat.le_refl _) (by omega)
    simp only [f_X7_best_L154, h1, if_false]) (fuel := 6000) (T := S) (by omega) ⟨rfl, fun _ _ => rfl, fun s o hs => absurd hs (by omega)⟩
  rw [nI_0] at this
  obtain ⟨U, ⟨p1, p2, p3⟩, e⟩ := this
  exact ⟨U, e, p1, p2, p3⟩
theorem trialR {m : Nat} {S : St} (hm : m ≤ 12) (K : Int32 → Int32 → St → Option (Int32 × St)) (c : Int32) : ∃ U, f_X7_best_L230 6000 K (nI m) c 0 S = K (nI m) c U ∧ Fill S 122 0 (fun _ => 0) m U := by
  have := loop_up (N := m) (fun n i U => f_X7_best_L230 n K (nI m) c i U) (fun U => K (nI m) c U) (fun j U => Fill S 122 0 (fun _ => 0) j U) (fun n j U hj hP => by
    refine ⟨_, hP.step, ?_⟩
    have h1 : (nI j < nI m) = True := ltT hj (by omega)
    have h2 : inb (nI j) 12 = true := inb_nI (by omega) (by decide)
    have h3 : ix (nI j) = 0 + j := by rw [ix_nI (by omega)]; omega
    simp only [f_X7_best_L230, h1, h2, h3, nI_1, if_true]) (fun n U hP => by
    have h1 : (nI m < nI m) = False := ltF (Nat.le_refl _) (by omega)
    simp only [f_X7_best_L230, h1, if_false]) (fuel := 6000) (by omega) (Fill.zero S 122 0 (fun _ => 0))
  rw [nI_0] at this
  obtain ⟨U, f, e⟩ := this
  exact ⟨U, e, f⟩
