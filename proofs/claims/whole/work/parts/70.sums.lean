-- sums
theorem fb_front (f : Nat → Nat) : ∀ n, fb_sum f (n + 1) = f 0 + fb_sum (fun k => f (k + 1)) n
  | 0 => by simp [fb_sum]
  | n + 1 => by
    rw [fb_sum, fb_front f n, fb_sum]
    omega
theorem fb_rev (g : Nat → Nat) : ∀ n, fb_sum (fun a => g (n - 1 - a)) n = fb_sum g n
  | 0 => rfl
  | n + 1 => by
    rw [fb_front, fb_sum]
    have e : fb_sum (fun k => g (n + 1 - 1 - (k + 1))) n = fb_sum (fun a => g (n - 1 - a)) n := fb_sum_cong (fun k hk => by congr 1; omega)
    rw [e, fb_rev g n]
    simp only [Nat.add_sub_cancel, Nat.sub_zero]
    omega
theorem fb_rot (g : Nat → Nat) : ∀ T, fb_sum (fun a => g ((T + 63 - a) % 64)) 64 = fb_sum g 64
  | 0 => by
    rw [← fb_rev g 64]
    exact fb_sum_cong (fun k hk => by congr 1; omega)
  | T + 1 => by
    have h63 : fb_sum (fun a => g ((T + 63 - a) % 64)) 64 = fb_sum (fun a => g ((T + 63 - a) % 64)) 63 + g ((T + 63 - 63) % 64) := rfl
    rw [← fb_rot g T, fb_front (fun a => g ((T + 1 + 63 - a) % 64)) 63, h63]
    have e : fb_sum (fun k => g ((T + 1 + 63 - (k + 1)) % 64)) 63 = fb_sum (fun a => g ((T + 63 - a) % 64)) 63 := fb_sum_cong (fun k hk => by congr 2; omega)
    rw [e]
    have e1 : (T + 1 + 63 - 0) % 64 = T % 64 := by omega
    have e2 : (T + 63 - 63) % 64 = T % 64 := by omega
    rw [e1, e2]
    omega
theorem fb_split (f : Nat → Nat) (n : Nat) : ∀ m, (∀ k, n ≤ k → k < n + m → f k = 0) → fb_sum f (n + m) = fb_sum f n
  | 0, _ => rfl
  | m + 1, h => by
    rw [← Nat.add_assoc, fb_sum, fb_split f n m (fun k a b => h k a (by omega)), h (n + m) (by omega) (by omega)]
    omega
theorem fb_le {f g : Nat → Nat} : ∀ {n : Nat}, (∀ k, k < n → f k ≤ g k) → fb_sum f n ≤ fb_sum g n
  | 0, _ => Nat.le_refl _
  | n + 1, h => by
    have := fb_le (n := n) (fun k hk => h k (by omega))
    have := h n (by omega)
    rw [fb_sum, fb_sum]; omega
theorem fb_one (f : Nat → Nat) : ∀ {n k : Nat}, k < n → f k ≤ fb_sum f n
  | 0, _, h => by omega
  | n + 1, k, h => by
    rw [fb_sum]
    by_cases e : k = n
    · subst e; omega
    · have := fb_one f (n := n) (k := k) (by omega); omega
theorem fb_mono (f : Nat → Nat) {n m : Nat} (h : n ≤ m) : fb_sum f n ≤ fb_sum f m := by
  induction m with
  | zero => rw [show n = 0 from by omega]; exact Nat.le_refl _
  | succ m ih =>
    by_cases e : n = m + 1
    · subst e; exact Nat.le_refl _
    · have := ih (by omega)
      rw [fb_sum]; omega
/-- what the store has of sort s, all ages -/
theorem StoreRel.far {cnt T s : Nat} {c q A : Nat → Int32} {f : Nat → Nat} (h : StoreRel cnt T s c q A f) (hk : s < cnt → ∃ x : Nat, 1 ≤ x ∧ x ≤ 60 ∧ A (5 * s + 3) = nI x) {a : Nat} (ha : 60 < a) : f a = 0 := by
  rcases Nat.lt_or_ge s cnt with hs | hs
  · obtain ⟨x, -, h2, h3⟩ := hk hs
    exact (h.1 hs).2.2 a x h3 h2 (by omega)
  · exact h.2.2 hs a
theorem StoreRel.sum64 {cnt T s : Nat} {c q A : Nat → Int32} {f : Nat → Nat} (h : StoreRel cnt T s c q A f) (hk : s < cnt → ∃ x : Nat, 1 ≤ x ∧ x ≤ 60 ∧ A (5 * s + 3) = nI x) : fb_sum (fun a => f (a + 1)) 64 = fb_sum (fun a => f (a + 1)) 60 :=
  fb_split (fun a => f (a + 1)) 60 4 (fun k a b => h.far hk (by omega))
/-- the loop of inStore, with its numbers given -/
theorem inStore_run (s : Nat) (hs : s < 6) (S : St) (g : Nat → Nat) (hg : ∀ k, k < 64 → S.1 109 (198 + 64 * s + k) = nI (g k)) : f_X7_inStore (nI s) S = some (nI (fb_sum g 64)) := by
  have := loop_up (N := 64) (fun n i (v : Int32) => f_X7_inStore_L4 n (fun e34_2 => some e34_2) (nI s) v i S) (fun v => some v) (fun j v => v = nI (fb_sum g j)) (fun n j v hj hP => by
    refine ⟨nI (fb_sum g (j + 1)), rfl, ?_⟩
    have h1 : (nI j < (64 : Int32)) = True := ltT hj (by decide)
    have h0 : (198 : Int32) + (64 : Int32) * nI s + nI j = nI (198 + 64 * s + j) := by rw [show (198 : Int32) = nI 198 from rfl, show (64 : Int32) = nI 64 from rfl, pk_mul, nI_add, nI_add]
    have h2 : inb (nI (198 + 64 * s + j)) 788 = true := inb_nI (by omega) (by decide)
    have h3 : ix (nI (198 + 64 * s + j)) = 198 + 64 * s + j := ix_nI (by omega)
    have h4 : rd S 109 (198 + 64 * s + j) = nI (g j) := hg j hj
    simp only [f_X7_inStore_L4, h1, h0, h2, h3, h4, nI_1, if_true, hP, nI_add, fb_sum]) (fun n v hP => by
    have h1 : (nI 64 < (64 : Int32)) = False := ltF (N := 64) (by decide) (by decide)
    simp only [f_X7_inStore_L4, h1, if_false]) (fuel := 6000) (T := 0) (by decide) rfl
  rw [nI_0] at this
  obtain ⟨v, hv, e⟩ := this
  subst hv
  exact e
theorem inStore_val {cnt T s : Nat} {c q : Nat → Int32} {S : St} {f : Nat → Nat} (hs : s < 6) (h : StoreRel cnt T s c q (S.1 109) f) (hk : s < cnt → ∃ x : Nat, 1 ≤ x ∧ x ≤ 60 ∧ S.1 109 (5 * s + 3) = nI x) : f_X7_inStore (nI s) S = some (nI (fb_sum (fun a => f (a + 1)) 60)) := by
  have key : ∀ k, k < 64 → ∃ a, 1 ≤ a ∧ a ≤ 64 ∧ (T + 64 - a) % 64 = k := fun k hk => ⟨64 - (k + 64 - T % 64) % 64, by omega, by omega, by omega⟩
  rw [inStore_run s hs S (fun k => f (64 - (k + 64 - T % 64) % 64)) (fun k hk => by
    have := h.2.1 (64 - (k + 64 - T % 64) % 64) (by omega) (by omega)
    rw [show (T + 64 - (64 - (k + 64 - T % 64) % 64)) % 64 = k from by omega] at this
    exact this)]
  congr 2
  rw [← h.sum64 hk, ← fb_rot (fun k => f (64 - (k + 64 - T % 64) % 64)) T]
  exact fb_sum_cong (fun k hk => by congr 1; omega)
theorem SortRel.keep {cnt s : Nat} {c A : Nat → Int32} {tk : Nat → Bool} (h : SortRel cnt s c A tk) : s < cnt → ∃ x : Nat, 1 ≤ x ∧ x ≤ 60 ∧ A (5 * s + 3) = nI x := fun hs => (h.1 hs).2.2.2.2.1
theorem sm_store (x : Int32) : Sm Rel (f_X6_store x) (f_X7_store x) := by
  intro B S hB hR
  obtain ⟨cnt, yr, dn, g1, g2, g34, g5, g6, g7⟩ := id hR
  have hH := g2.1
  have hc6 : cnt ≤ 6 := hH.1
  have hc1 : rd S 1 1 = nI cnt := hH.2.2.1
  have hc2 : rd S 109 782 = nI cnt := hH.2.2.2.1
  have hsb : ∀ y, f_X7_isSort y S = some (f_X6_isSort y S) := fun y => isSort_both y (hc1.trans hc2.symm)
  have hsF : ∀ c y, f_X7_isSort y (f_X6_finding c S).2 = some (f_X6_isSort y S) := fun c y => by
    rw [← hsb y]; unfold f_X7_isSort; rw [fnd_rd c S (by decide)]
  by_cases h1 : f_X6_isSort x S = true
  · obtain ⟨s, hs, rfl⟩ := sort_nat hc6 hc1 h1
    have hin : inb (nI s) 6 = true := inb_nI (by omega) (by decide)
    have hix : ix (nI s) = s := ix_nI (by omega)
    obtain ⟨tk, hS⟩ := g2.2.1
    obtain ⟨f, hf, -⟩ := g2.2.2.1
    have h0 := hf s (by omega)
    have e6 : rd S (8 + 2 * s) 6 = nI (fb_sum (fun a => f s (a + 1)) 60) := by
      have := (h0.1 hs).2.1
      have e : 1 + (7 + 2 * s) = 8 + 2 * s := by omega
      simp only [e] at this
      exact this
    have e7 := inStore_val (by omega) h0 (hS s (by omega)).keep
    exact ⟨nI (fb_sum (fun a => f s (a + 1)) 60), S, S, by simp only [f_X6_store, h1, hin, hix, if_true, e6], by simp only [f_X7_store, hsb, h1, Option.bind_some, if_true, e7], hR.mono⟩
  · exact ⟨-1, (f_X6_finding (-1) S).2, (f_X7_found (-1) (f_X6_finding (-1) S).2).2, by simp only [f_X6_store, h1, if_false]; rfl, by simp only [f_X7_store, hsF, h1, Option.bind_some, if_false]; rfl, hR.found _ _⟩
/-- both count the fruits of the store alike -/
theorem inAll_val {cnt yr dn : Nat} {S : St} {CL AL : Nat → Int64} (h : BookRel cnt yr dn (fun i => S.1 (1 + i)) CL (S.1 109) AL) : ∃ f : Nat → Nat → Nat, (∀ s, s < 6 → StoreRel cnt (50 * yr + dn) s (S.1 (8 + 2 * s)) (S.1 (9 + 2 * s)) (S.1 109) (f s)) ∧ fb_sum (fun s => fb_sum (fun a => f s (a + 1)) 60) 6 ≤ 1000 ∧ f_X7_inAll S = some (nI (fb_sum (fun s => fb_sum (fun a => f s (a + 1)) 60) 6)) ∧ f_X0_fruitsInStore S = some (nI (fb_sum (fun s => fb_sum (fun a => f s (a + 1)) 60) 6)) := by
  have hH := h.1
  have hc6 : cnt ≤ 6 := hH.1
  have hc1 : rd S 1 1 = nI cnt := hH.2.2.1
  obtain ⟨tk, hS⟩ := h.2.1
  obtain ⟨f, hf, hf'⟩ := h.2.2.1
  have e8 : ∀ s, 1 + (7 + 2 * s) = 8 + 2 * s := fun s => by omega
  have e9 : ∀ s, 1 + (8 + 2 * s) = 9 + 2 * s := fun s => by omega
  simp only [e8, e9] at hf
  refine ⟨f, hf, hf', ?_, ?_⟩
  · have := loop_up (N := 6) (fun n i (v : Int32) => f_X7_inAll_L4 n (fun e24_1 => some e24_1) v i S) (fun v => some v) (fun j v => v = nI (fb_sum (fun s => fb_sum (fun a => f s (a + 1)) 60) j)) (fun n j v hj hP => by
      refine ⟨_, rfl, ?_⟩
      have h1 : (nI j < (6 : Int32)) = True := ltT hj (by decide)
      have h2 := inStore_val hj (hf j hj) (hS j hj).keep
      simp only [f_X7_inAll_L4, h1, h2, nI_1, if_true, hP, nI_add, fb_sum, Option.bind_some]) (fun n v hP => by
      have h1 : (nI 6 < (6 : Int32)) = False := ltF (N := 6) (by decide) (by decide)
      simp only [f_X7_inAll_L4, h1, if_false]) (fuel := 6000) (T := 0) (by decide) rfl
    rw [nI_0] at this
    obtain ⟨v, hv, e⟩ := this
    subst hv
    exact e
  · have := loop_up (N := cnt) (fun n i (v : Int32) => f_X0_fruitsInStore_L4 n (fun e30_1 => some e30_1) v i S) (fun v => some v) (fun j v => v = nI (fb_sum (fun s => fb_sum (fun a => f s (a + 1)) 60) j)) (fun n j v hj hP => by
      refine ⟨_, rfl, ?_⟩
      have h1 : (nI j < nI cnt) = True := ltT hj (by omega)
      have hin : inb (nI j) 6 = true := inb_nI (by omega) (by decide)
      have hix : ix (nI j) = j := ix_nI (by omega)
      have h2 : rd S (8 + 2 * j) 6 = nI (fb_sum (fun a => f j (a + 1)) 60) := ((hf j (by omega)).1 hj).2.1
      simp only [f_X0_fruitsInStore_L4, hc1, h1, hin, hix, h2, nI_1, if_true, hP, nI_add, fb_sum]) (fun n v hP => by
      have h1 : (nI cnt < nI cnt) = False := ltF (Nat.le_refl _) (by omega)
      simp only [f_X0_fruitsInStore_L4, hc1, h1, if_false]) (fuel := 6000) (T := 0) (by omega) rfl
    rw [nI_0] at this
    obtain ⟨v, hv, e⟩ := this
    subst hv
    have e2 := fb_split (fun s => fb_sum (fun a => f s (a + 1)) 60) cnt (6 - cnt) (fun k a b => fb_sum_zero (fun i _ => (hf k (by omega)).2.2 a _))
    rw [show cnt + (6 - cnt) = 6 from by omega] at e2
    rw [e2]
    exact e
