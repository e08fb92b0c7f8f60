theorem fb_pairs (g : Nat → Nat) : ∀ n, fb_sum g (2 * n) = fb_sum (fun p => g (2 * p) + g (2 * p + 1)) n
  | 0 => rfl
  | n + 1 => by
    rw [show 2 * (n + 1) = 2 * n + 1 + 1 from by omega, fb_sum, fb_sum, fb_pairs g n, fb_sum]
    omega
/-- how many fruits part k has -/
def frt (A : Nat → Int32) (k : Nat) : Nat := ix (A (66 + 11 * (k / 2) + (8 + k % 2)))
theorem PlaceRel.fruit {cnt yr dn : Nat} {c f a : Nat → Int32} (h : PlaceRel cnt yr dn c f a) (hd : dn ≤ 50) : ∃ f0 f1 : Nat, f0 + f1 ≤ 30000 ∧ a 8 = nI f0 ∧ a 9 = nI f1 ∧ f 0 = nI f0 ∧ f 1 = nI f1 := by
  obtain ⟨-, -, -, -, -, h6, h7, h8⟩ := h
  rcases h8 with q | q | q
  · exact ⟨0, 0, by omega, q.2.1, q.2.2, h6.trans q.2.1, h7.trans q.2.2⟩
  · exact ⟨0, 0, by omega, q.2.1, q.2.2.1, h6.trans q.2.1, h7.trans q.2.2.1⟩
  · obtain ⟨f0, f1, ns, u1, u2, u3, u4, u5⟩ := q.2.2.2.2.2.2.2.2.2.2.2.2.2
    exact ⟨f0, f1, by omega, u1, u2, h6.trans u1, h7.trans u2⟩
theorem frt_at {A : Nat → Int32} {p q n : Nat} (hq : q < 2) (hn : n ≤ 30000) (h : A (66 + 11 * p + (8 + q)) = nI n) : frt A (2 * p + q) = n := by
  unfold frt
  rw [show (2 * p + q) / 2 = p from by omega, show (2 * p + q) % 2 = q from by omega, h, ix_nI (by omega)]
theorem PlaceRel.frt1 {cnt yr dn p : Nat} {c f A : Nat → Int32} (h : PlaceRel cnt yr dn c f (fun k => A (66 + 11 * p + k))) (hd : dn ≤ 50) {q : Nat} (hq : q < 2) : A (66 + 11 * p + (8 + q)) = nI (frt A (2 * p + q)) ∧ f q = nI (frt A (2 * p + q)) ∧ frt A (2 * p + q) ≤ 30000 := by
  obtain ⟨f0, f1, h1, h2, h3, h4, h5⟩ := h.fruit hd
  have hq' : q = 0 ∨ q = 1 := by omega
  rcases hq' with rfl | rfl
  · have e := frt_at (A := A) (p := p) (q := 0) (n := f0) (by decide) (by omega) h2
    rw [e]; exact ⟨h2, h4, by omega⟩
  · have e := frt_at (A := A) (p := p) (q := 1) (n := f1) (by decide) (by omega) h3
    rw [e]; exact ⟨h3, h5, by omega⟩
theorem fb_bound {f : Nat → Nat} {b : Nat} : ∀ {n : Nat}, (∀ k, k < n → f k ≤ b) → fb_sum f n ≤ n * b
  | 0, _ => by simp [fb_sum]
  | n + 1, h => by
    have h1 := fb_bound (n := n) (fun k hk => h k (by omega))
    have h2 := h n (by omega)
    rw [fb_sum, Nat.succ_mul]; omega
/-- all fruits on the trees, both ways of counting -/
theorem onTrees_run {S : St} (g : Nat → Nat) (hg : ∀ p q, p < 12 → q < 2 → S.1 (21 + 2 * p) q = nI (g (2 * p + q))) : f_X0_fruitsOnTrees S = some (nI (fb_sum g 24)) := by
  have := loop_up (N := 12) (fun n i (v : Int32) => f_X0_fruitsOnTrees_L4 n (fun e28_1 => some e28_1) v i S) (fun v => some v) (fun j v => v = nI (fb_sum (fun p => g (2 * p) + g (2 * p + 1)) j)) (fun n j v hj hP => by
    refine ⟨_, rfl, ?_⟩
    have h1 : (nI j < (12 : Int32)) = True := ltT hj (by decide)
    have hin : inb (nI j) 12 = true := inb_nI hj (by decide)
    have hix : ix (nI j) = j := ix_nI (by omega)
    have h2 : rd S (20 + 2 * j + 1) 0 = nI (g (2 * j)) := by rw [show 20 + 2 * j + 1 = 21 + 2 * j from by omega]; exact hg j 0 hj (by decide)
    have h3 : rd S (20 + 2 * j + 1) 1 = nI (g (2 * j + 1)) := by rw [show 20 + 2 * j + 1 = 21 + 2 * j from by omega]; exact hg j 1 hj (by decide)
    simp only [f_X0_fruitsOnTrees_L4, f_X2_fruitCount, h1, hin, hix, ix_0, ix_1, h2, h3, nI_1, if_true, hP, nI_add, fb_sum, Option.bind_some]) (fun n v hP => by
    have h1 : (nI 12 < (12 : Int32)) = False := ltF (N := 12) (by decide) (by decide)
    simp only [f_X0_fruitsOnTrees_L4, h1, if_false]) (fuel := 6000) (T := 0) (by decide) rfl
  rw [nI_0] at this
  obtain ⟨v, hv, e⟩ := this
  subst hv
  rw [← fb_pairs g 12] at e
  exact e
theorem all24_run {S : St} (g : Nat → Nat) (hg : ∀ p q, p < 12 → q < 2 → S.1 109 (66 + 11 * p + (8 + q)) = nI (g (2 * p + q))) (hb : ∀ k, k < 24 → g k ≤ 30000) : f_X7_all_L47 6000 (fun e70_2 T70 => (some (e70_2, T70))) (0 : Int64) (0 : Int32) S = some (lN (fb_sum g 24), S) := by
  have := loop_up (N := 24) (fun n i (v : Int64) => f_X7_all_L47 n (fun e70_2 T70 => (some (e70_2, T70))) v i S) (fun v => some (v, S)) (fun j v => v = lN (fb_sum g j)) (fun n j v hj hP => by
    refine ⟨_, rfl, ?_⟩
    have h1 : (nI j < (24 : Int32)) = True := ltT hj (by decide)
    have h2 : f_X7_fruitsOf (nI j) S = some (nI (g j)) := by
      have := fruitsOf_nat (p := j / 2) (q := j % 2) (by omega) (by omega) S
      rw [show 2 * (j / 2) + j % 2 = j from by omega] at this
      rw [this]
      have h3 := hg (j / 2) (j % 2) (by omega) (by omega)
      rw [show 2 * (j / 2) + j % 2 = j from by omega] at h3
      exact congrArg some h3
    have h4 : (nI (g j)).toInt64 = lN (g j) := nI_l (by have := hb j hj; omega)
    simp only [f_X7_all_L47, h1, h2, h4, nI_1, if_true, hP, lN_add, fb_sum, Option.bind_some]) (fun n v hP => by
    have h1 : (nI 24 < (24 : Int32)) = False := ltF (N := 24) (by decide) (by decide)
    simp only [f_X7_all_L47, h1, if_false]) (fuel := 6000) (T := 0) (by decide) rfl
  rw [nI_0] at this
  obtain ⟨v, hv, e⟩ := this
  subst hv
  exact e
/-- the fruits of a related book, by parts -/
theorem BookRel.frts {cnt yr dn : Nat} {S : St} {CL AL : Nat → Int64} (h : BookRel cnt yr dn (fun i => S.1 (1 + i)) CL (S.1 109) AL) : (∀ p q, p < 12 → q < 2 → S.1 (21 + 2 * p) q = nI (frt (S.1 109) (2 * p + q))) ∧ (∀ p q, p < 12 → q < 2 → S.1 109 (66 + 11 * p + (8 + q)) = nI (frt (S.1 109) (2 * p + q))) ∧ ∀ k, k < 24 → frt (S.1 109) k ≤ 30000 := by
  have hd : dn ≤ 50 := by have := h.1.2.1; omega
  have key : ∀ p q, p < 12 → q < 2 → S.1 109 (66 + 11 * p + (8 + q)) = nI (frt (S.1 109) (2 * p + q)) ∧ S.1 (21 + 2 * p) q = nI (frt (S.1 109) (2 * p + q)) ∧ frt (S.1 109) (2 * p + q) ≤ 30000 := fun p q hp hq => by
    have h0 := h.2.2.2.1 p hp
    have e2 : 1 + (20 + 2 * p) = 21 + 2 * p := by omega
    simp only [e2] at h0
    exact h0.frt1 hd hq
  refine ⟨fun p q hp hq => (key p q hp hq).2.1, fun p q hp hq => (key p q hp hq).1, fun k hk => ?_⟩
  have := (key (k / 2) (k % 2) (by omega) (by omega)).2.2
  rw [show 2 * (k / 2) + k % 2 = k from by omega] at this
  exact this
theorem sm_all (x : Int32) : Sm Rel (f_X6_all x) (f_X7_all x) := by
  intro B S hB hR
  obtain ⟨cnt, yr, dn, g1, g2, g34, g5, g6, g7⟩ := id hR
  by_cases h1 : f_X6_within x 0 9 = true
  · by_cases h9 : x = 9
    · subst h9
      obtain ⟨f, -, hb, e1, e2⟩ := inAll_val g2
      have n6 : ((9 : Int32) = 6) = False := by decide
      exact ⟨(nI (fb_sum (fun s => fb_sum (fun a => f s (a + 1)) 60) 6)).toInt64, S, S, by simp only [f_X6_all, h1, n6, e2, if_true, if_false, Option.bind_some], by simp only [f_X7_all, in_eq, h1, e1, if_true, Option.bind_some], hR.mono⟩
    · by_cases h6 : x = 6
      · subst h6
        obtain ⟨q1, q2, q3⟩ := g2.frts
        have n9 : ((6 : Int32) = 9) = False := by decide
        have e1 := onTrees_run (frt (S.1 109)) q1
        have e2 := all24_run (frt (S.1 109)) q2 q3
        have hb := fb_bound (f := frt (S.1 109)) (n := 24) q3
        have e3 : (nI (fb_sum (frt (S.1 109)) 24)).toInt64 = lN (fb_sum (frt (S.1 109)) 24) := nI_l (by omega)
        exact ⟨lN (fb_sum (frt (S.1 109)) 24), S, S, by simp only [f_X6_all, h1, e1, e3, if_true, Option.bind_some], by simp only [f_X7_all, in_eq, h1, n9, e2, if_true, if_false], hR.mono⟩
      · obtain ⟨n, -, hn, rfl⟩ := within_nat (a := 0) (b := 9) (by decide) (by decide) h1
        have hin : inb (nI n) 10 = true := inb_nI (by omega) (by decide)
        have hix : ix (nI n) = n := ix_nI (by omega)
        have e : rdL S 111 n = rdL S 7 n := (g2.2.2.2.2.2.2 n (by omega)).symm
        exact ⟨rdL S 7 n, S, S, by simp only [f_X6_all, h1, h6, h9, hin, hix, if_true, if_false], by simp only [f_X7_all, in_eq, h1, h6, h9, hin, hix, if_true, if_false, e], hR.mono⟩
  · exact ⟨((-1 : Int32)).toInt64, (f_X6_finding (-1) S).2, (f_X7_found (-1) (f_X6_finding (-1) S).2).2, by simp only [f_X6_all, h1, if_false]; rfl, by simp only [f_X7_all, in_eq, h1, if_false]; rfl, hR.found _ _⟩
