-- what is taken from the store, the oldest first
/-- the fruits of the ages from 64 down, i of them -/
def older (f : Nat → Nat) (i : Nat) : Nat := fb_sum (fun k => f (64 - k)) i
/-- what is left of age a when n are taken -/
def tkn (f : Nat → Nat) (n a : Nat) : Nat := if 1 ≤ a ∧ a ≤ 64 then f a - (n - older f (64 - a)) else f a
theorem older_succ (f : Nat → Nat) (i : Nat) : older f (i + 1) = older f i + f (64 - i) := rfl
theorem older_tkn (f : Nat → Nat) (n : Nat) : ∀ i, i ≤ 64 → older (tkn f n) i = older f i - n
  | 0, _ => by simp [older, fb_sum]
  | i + 1, h => by
    rw [older_succ, older_succ, older_tkn f n i (by omega)]
    unfold tkn
    rcases Nat.lt_or_ge i 64 with q | q
    · rw [if_pos (by omega), show 64 - (64 - i) = i from by omega]; omega
    · omega
theorem older_all (f : Nat → Nat) (h : ∀ a, 60 < a → f a = 0) : older f 64 = fb_sum (fun a => f (a + 1)) 60 := by
  have e1 : fb_sum (fun a => f (a + 1)) 64 = fb_sum (fun a => f (a + 1)) 60 := fb_split (fun a => f (a + 1)) 60 4 (fun k a b => h _ (by omega))
  rw [← e1, ← fb_rev (fun a => f (a + 1)) 64]
  exact fb_sum_cong (fun k hk => by congr 1; omega)
theorem tkn_far {f : Nat → Nat} {n a : Nat} (h : f a = 0) : tkn f n a = 0 := by
  unfold tkn; by_cases q : 1 ≤ a ∧ a ≤ 64
  · rw [if_pos q, h]; omega
  · rw [if_neg q, h]
theorem tkn_le (f : Nat → Nat) (n a : Nat) : tkn f n a ≤ f a := by
  unfold tkn; by_cases q : 1 ≤ a ∧ a ≤ 64
  · rw [if_pos q]; omega
  · rw [if_neg q]; exact Nat.le_refl _
theorem older_mono (f : Nat → Nat) {i j : Nat} (h : i ≤ j) : older f i ≤ older f j := fb_mono _ h
/-- more than there is, or all that there is: the same -/
theorem tkn_min (f : Nat → Nat) (n a : Nat) : tkn f (min n (older f 64)) a = tkn f n a := by
  unfold tkn
  by_cases q : 1 ≤ a ∧ a ≤ 64
  · rw [if_pos q, if_pos q]
    have e := older_succ f (64 - a)
    rw [show 64 - (64 - a) = a from by omega] at e
    have := older_mono f (i := 64 - a + 1) (j := 64) (by omega)
    omega
  · rw [if_neg q, if_neg q]
theorem fm_v : ∀ u, u < 60 → ∀ a, a < 61 → fmI (nI u - nI a) 60 = nI ((u + 60 - a) % 60) := by decide +kernel
theorem mn_nat {a b : Nat} (ha : a < 2 ^ 31) (hb : b < 2 ^ 31) : mnI (nI a) (nI b) = nI (min a b) := by
  unfold mnI
  by_cases h : nI b < nI a
  · rw [if_pos h]
    have := (nI_ltI hb ha).mp h
    congr 1; omega
  · rw [if_neg h]
    have : ¬ b < a := fun q => h ((nI_ltI hb ha).mpr q)
    congr 1; omega
/-- the class's loop: from the keeping's age down -/
theorem takeOldest_run (t T x n : Nat) (f : Nat → Nat) (S : St) (hx : x ≤ 60) (hn : n < 2 ^ 31) (hf : ∀ a, x < a → f a = 0) (hb : ∀ a, 1 ≤ a → f a ≤ 1000) (hS : ∀ a, 1 ≤ a → a ≤ 60 → S.1 (t + 1) ((T + 60 - a) % 60) = nI (f a)) (tk : Int32) (K : Nat → Int32 → St → Option (Int32 × St)) : ∃ S', f_X5_takeOldest_L18 6000 K t (nI (T % 60)) (nI n) tk (nI x) S = K t tk S' ∧ S'.2 = S.2 ∧ (∀ i, i ≠ t + 1 → S'.1 i = S.1 i) ∧ ∀ a, 1 ≤ a → a ≤ 60 → S'.1 (t + 1) ((T + 60 - a) % 60) = nI (tkn f n a) := by
  have o0 : older f (64 - x) = 0 := fb_sum_zero (fun k hk => hf _ (by omega))
  refine loop_d (fun n (v : Int32 × Int32 × St) => f_X5_takeOldest_L18 n K t (nI (T % 60)) v.1 tk v.2.1 v.2.2)
    (fun m v => m ≤ x ∧ v.1 = nI (n - older f (64 - m)) ∧ v.2.1 = nI m ∧ v.2.2.2 = S.2 ∧ (∀ i, i ≠ t + 1 → v.2.2.1 i = S.1 i) ∧ ∀ a, 1 ≤ a → a ≤ 60 → v.2.2.1 (t + 1) ((T + 60 - a) % 60) = nI (if m < a then tkn f n a else f a))
    (fun r => ∃ S', r = K t tk S' ∧ S'.2 = S.2 ∧ (∀ i, i ≠ t + 1 → S'.1 i = S.1 i) ∧ ∀ a, 1 ≤ a → a ≤ 60 → S'.1 (t + 1) ((T + 60 - a) % 60) = nI (tkn f n a)) ?_ ?_ x 6000 (nI n, nI x, S) (by omega) ⟨Nat.le_refl _, by rw [o0]; rfl, rfl, rfl, fun _ _ => rfl, fun a h1 h2 => ?_⟩
  · intro k m v hP
    obtain ⟨left, age, U⟩ := v
    obtain ⟨hm, e1, e2, e3, e4, e5⟩ := hP
    simp only at e1 e2 e3 e4 e5
    subst e1 e2
    have c1 : (nI (m + 1) < (1 : Int32)) = False := ltF (N := 1) (by omega) (by omega)
    by_cases h0 : 0 < n - older f (64 - (m + 1))
    · left
      have c2 : (0 < nI (n - older f (64 - (m + 1)))) = True := ltT (j := 0) h0 (by omega)
      have c3 : fmI (nI (T % 60) - nI (m + 1)) 60 = nI ((T + 60 - (m + 1)) % 60) := by
        rw [fm_v (T % 60) (Nat.mod_lt _ (by decide)) (m + 1) (by omega)]; congr 1; omega
      have c4 : inb (nI ((T + 60 - (m + 1)) % 60)) 60 = true := inb_nI (Nat.mod_lt _ (by decide)) (by decide)
      have c5 : ix (nI ((T + 60 - (m + 1)) % 60)) = (T + 60 - (m + 1)) % 60 := ix_nI (by omega)
      have c6 : rd U (t + 1) ((T + 60 - (m + 1)) % 60) = nI (f (m + 1)) := by
        have := e5 (m + 1) (by omega) (by omega)
        rw [if_neg (by omega)] at this; exact this
      have hbm := hb (m + 1) (by omega)
      have c7 : mnI (nI (n - older f (64 - (m + 1)))) (nI (f (m + 1))) = nI (min (n - older f (64 - (m + 1))) (f (m + 1))) := mn_nat (by omega) (by omega)
      have c8 : nI (n - older f (64 - (m + 1))) - nI (min (n - older f (64 - (m + 1))) (f (m + 1))) = nI (n - older f (64 - m)) := by
        rw [pk_sub (by omega)]; congr 1
        have := older_succ f (64 - (m + 1))
        rw [show 64 - (64 - (m + 1)) = m + 1 from by omega, show 64 - (m + 1) + 1 = 64 - m from by omega] at this
        omega
      have c9 : nI (f (m + 1)) - nI (min (n - older f (64 - (m + 1))) (f (m + 1))) = nI (tkn f n (m + 1)) := by
        rw [pk_sub (by omega)]; congr 1
        unfold tkn; rw [if_pos (by omega)]; omega
      refine ⟨(nI (n - older f (64 - m)), nI m, wr U (t + 1) ((T + 60 - (m + 1)) % 60) (nI (tkn f n (m + 1)))), ⟨by omega, rfl, rfl, e3, fun i hi => by rw [wr1_ne hi]; exact e4 i hi, fun a h1 h2 => ?_⟩, ?_⟩
      · show (wr U (t + 1) ((T + 60 - (m + 1)) % 60) (nI (tkn f n (m + 1)))).1 (t + 1) _ = _
        rw [wr1_eq]
        by_cases ea : a = m + 1
        · subst ea; rw [if_pos rfl, if_pos (by omega)]
        · rw [if_neg (by omega), e5 a h1 h2]
          by_cases l : m + 1 < a
          · rw [if_pos l, if_pos (by omega)]
          · rw [if_neg l, if_neg (by omega)]
      · simp only [f_X5_takeOldest_L18, c1, c2, c3, c4, c5, c6, c7, c8, c9, pk_m1, if_true, if_false]
    · right
      have c2 : (0 < nI (n - older f (64 - (m + 1)))) = False := by rw [show n - older f (64 - (m + 1)) = 0 from by omega]; decide
      refine ⟨U, by simp only [f_X5_takeOldest_L18, c1, c2, if_false], e3, e4, fun a h1 h2 => ?_⟩
      rw [e5 a h1 h2]
      by_cases l : m + 1 < a
      · rw [if_pos l]
      · rw [if_neg l]
        unfold tkn; rw [if_pos (by omega)]
        have := older_mono f (i := 64 - (m + 1)) (j := 64 - a) (by omega)
        congr 1; omega
  · intro k v hP
    obtain ⟨left, age, U⟩ := v
    obtain ⟨hm, e1, e2, e3, e4, e5⟩ := hP
    simp only at e1 e2 e3 e4 e5
    subst e1 e2
    have c1 : (nI 0 < (1 : Int32)) = True := by decide
    refine ⟨U, by simp only [f_X5_takeOldest_L18, c1, if_true], e3, e4, fun a h1 h2 => ?_⟩
    rw [e5 a h1 h2, if_pos (by omega)]
  · rw [hS a h1 h2]
    by_cases l : x < a
    · rw [if_pos l, tkn_far (hf a l), hf a l]
    · rw [if_neg l]
theorem cell_nat {s d : Nat} (hs : s < 6) (hd : d < 2 ^ 31) : f_X7_cell (nI s) (nI d) = nI (198 + 64 * s + d % 64) := by
  unfold f_X7_cell
  rw [show (64 : Int32) = nI 64 from rfl, pk_rem hd (by decide) (by decide), show (198 : Int32) = nI 198 from rfl, pk_mul, nI_add, nI_add]
/-- the reference's loop: all of 64 days -/
theorem take7_run (s T n : Nat) (f : Nat → Nat) (S : St) (hs : s < 6) (hT : T < 2 ^ 20) (hn : n < 2 ^ 31) (hb : ∀ a, 1 ≤ a → f a ≤ 1000) (hS : ∀ a, 1 ≤ a → a ≤ 64 → S.1 109 (198 + 64 * s + (T + 64 - a) % 64) = nI (f a)) (z : Int32) (K : Int32 → Int32 → St → Option (Int32 × St)) : ∃ S', f_X7_take_L51 6000 K (nI s) z (nI (64 + T)) (nI n) (nI T) S = K z (nI (n - older f 64)) S' ∧ S'.2 = S.2 ∧ (∀ i, i ≠ 109 → S'.1 i = S.1 i) ∧ (∀ a, 1 ≤ a → a ≤ 64 → S'.1 109 (198 + 64 * s + (T + 64 - a) % 64) = nI (tkn f n a)) ∧ ∀ k, (k < 198 + 64 * s ∨ 198 + 64 * s + 64 ≤ k) → S'.1 109 k = S.1 109 k := by
  refine loop_d (fun n (v : Int32 × Int32 × St) => f_X7_take_L51 n K (nI s) z (nI (64 + T)) v.1 v.2.1 v.2.2)
    (fun m v => m ≤ 64 ∧ v.1 = nI (n - older f (64 - m)) ∧ v.2.1 = nI (T + 64 - m) ∧ v.2.2.2 = S.2 ∧ (∀ i, i ≠ 109 → v.2.2.1 i = S.1 i) ∧ (∀ a, 1 ≤ a → a ≤ 64 → v.2.2.1 109 (198 + 64 * s + (T + 64 - a) % 64) = nI (if m < a then tkn f n a else f a)) ∧ ∀ k, (k < 198 + 64 * s ∨ 198 + 64 * s + 64 ≤ k) → v.2.2.1 109 k = S.1 109 k)
    (fun r => ∃ S', r = K z (nI (n - older f 64)) S' ∧ S'.2 = S.2 ∧ (∀ i, i ≠ 109 → S'.1 i = S.1 i) ∧ (∀ a, 1 ≤ a → a ≤ 64 → S'.1 109 (198 + 64 * s + (T + 64 - a) % 64) = nI (tkn f n a)) ∧ ∀ k, (k < 198 + 64 * s ∨ 198 + 64 * s + 64 ≤ k) → S'.1 109 k = S.1 109 k) ?_ ?_ 64 6000 (nI n, nI T, S) (by omega) ⟨Nat.le_refl _, rfl, by rw [show T + 64 - 64 = T from by omega], rfl, fun _ _ => rfl, fun a h1 h2 => by rw [if_neg (by omega)]; exact hS a h1 h2, fun _ _ => rfl⟩
  · intro k m v hP
    left
    obtain ⟨left, day, U⟩ := v
    obtain ⟨hm, e1, e2, e3, e4, e5, e6⟩ := hP
    simp only at e1 e2 e3 e4 e5 e6
    subst e1 e2
    have c1 : (nI (T + 64 - (m + 1)) < nI (64 + T)) = True := ltT (by omega) (by omega)
    have c3 : f_X7_cell (nI s) (nI (T + 64 - (m + 1))) = nI (198 + 64 * s + (T + 64 - (m + 1)) % 64) := cell_nat hs (by omega)
    have c4 : inb (nI (198 + 64 * s + (T + 64 - (m + 1)) % 64)) 788 = true := inb_nI (by omega) (by decide)
    have c5 : ix (nI (198 + 64 * s + (T + 64 - (m + 1)) % 64)) = 198 + 64 * s + (T + 64 - (m + 1)) % 64 := ix_nI (by omega)
    have c6 : rd U 109 (198 + 64 * s + (T + 64 - (m + 1)) % 64) = nI (f (m + 1)) := by
      have := e5 (m + 1) (by omega) (by omega)
      rw [if_neg (by omega)] at this; exact this
    have hbm := hb (m + 1) (by omega)
    have ho := older_succ f (64 - (m + 1))
    rw [show 64 - (64 - (m + 1)) = m + 1 from by omega, show 64 - (m + 1) + 1 = 64 - m from by omega] at ho
    have c10 : nI (T + 64 - (m + 1)) + 1 = nI (T + 64 - m) := by rw [nI_1]; congr 1; omega
    refine ⟨(nI (n - older f (64 - m)), nI (T + 64 - m), wr U 109 (198 + 64 * s + (T + 64 - (m + 1)) % 64) (nI (tkn f n (m + 1)))), ⟨by omega, rfl, rfl, e3, fun i hi => by rw [wr1_ne hi]; exact e4 i hi, fun a h1 h2 => ?_, fun j hj => by rw [wr1_eq, if_neg (by omega)]; exact e6 j hj⟩, ?_⟩
    · show (wr U 109 (198 + 64 * s + (T + 64 - (m + 1)) % 64) (nI (tkn f n (m + 1)))).1 109 _ = _
      rw [wr1_eq]
      by_cases ea : a = m + 1
      · subst ea; rw [if_pos rfl, if_pos (by omega)]
      · rw [if_neg (by omega), e5 a h1 h2]
        by_cases l : m + 1 < a
        · rw [if_pos l, if_pos (by omega)]
        · rw [if_neg l, if_neg (by omega)]
    · by_cases h : f (m + 1) < n - older f (64 - (m + 1))
      · have c2 : (nI (f (m + 1)) < nI (n - older f (64 - (m + 1)))) = True := ltT h (by omega)
        have c8 : nI (n - older f (64 - (m + 1))) - nI (f (m + 1)) = nI (n - older f (64 - m)) := by
          rw [pk_sub (by omega)]; congr 1; omega
        have c9 : nI (f (m + 1)) - nI (f (m + 1)) = nI (tkn f n (m + 1)) := by
          rw [pk_sub (by omega)]; congr 1; unfold tkn; rw [if_pos (by omega)]; omega
        simp only [f_X7_take_L51, c1, c2, c3, c4, c5, c6, c8, c9, c10, if_true]
      · have c2 : (nI (f (m + 1)) < nI (n - older f (64 - (m + 1)))) = False := ltF (by omega) (by omega)
        have c8 : nI (n - older f (64 - (m + 1))) - nI (n - older f (64 - (m + 1))) = nI (n - older f (64 - m)) := by
          rw [pk_sub (by omega)]; congr 1; omega
        have c9 : nI (f (m + 1)) - nI (n - older f (64 - (m + 1))) = nI (tkn f n (m + 1)) := by
          rw [pk_sub (by omega)]; congr 1; unfold tkn; rw [if_pos (by omega)]
        simp only [f_X7_take_L51, c1, c2, c3, c4, c5, c6, c8, c9, c10, if_true, if_false]
  · intro k v hP
    obtain ⟨left, day, U⟩ := v
    obtain ⟨hm, e1, e2, e3, e4, e5, e6⟩ := hP
    simp only at e1 e2 e3 e4 e5 e6
    subst e1 e2
    have c1 : (nI (T + 64 - 0) < nI (64 + T)) = False := ltF (by omega) (by omega)
    refine ⟨U, by simp only [f_X7_take_L51, c1, if_false], e3, e4, fun a h1 h2 => ?_, e6⟩
    rw [e5 a h1 h2, if_pos (by omega)]
theorem ix_8 : ix (8 : Int32) = 8 := rfl
theorem sm_take (x z : Int32) : Sm Rel (f_X6_take x z) (f_X7_take x z) := by
  intro B S hB hR
  obtain ⟨cnt, yr, dn, g1, g2, g34, g5, g6, g7⟩ := id hR
  have hH := g2.1
  have hc6 : cnt ≤ 6 := hH.1
  have hc1 : rd S 1 1 = nI cnt := hH.2.2.1
  have hc2 : rd S 109 782 = nI cnt := hH.2.2.2.1
  have hsb : ∀ T : St, rd T 109 782 = rd S 109 782 → ∀ y, f_X7_isSort y T = some (f_X6_isSort y S) := fun T hT y => by
    unfold f_X7_isSort f_X6_isSort; rw [ix_782, hT, hc1, hc2]; rfl
  have hsF : ∀ c y, f_X7_isSort y (f_X6_finding c S).2 = some (f_X6_isSort y S) := fun c y => hsb _ (fnd_rd c S (by decide)) y
  by_cases h1 : f_X6_isSort x S = true
  · by_cases h2 : z < 0
    · exact ⟨-1, (f_X6_finding (-1) S).2, (f_X7_found (-1) (f_X6_finding (-1) S).2).2, by simp only [f_X6_take, h1, h2, if_true]; rfl, by simp only [f_X7_take, hsF, h1, h2, Option.bind_some, if_true]; rfl, hR.found _ _⟩
    · obtain ⟨s, hs, rfl⟩ := sort_nat hc6 hc1 h1
      obtain ⟨n, hn, rfl⟩ := nI_of h2
      have hs6 : s < 6 := by omega
      have hin : inb (nI s) 6 = true := inb_nI (by omega) (by decide)
      have hix : ix (nI s) = s := ix_nI (by omega)
      obtain ⟨-, ⟨tk, hS⟩, ⟨f, hf, hf'⟩, k4, k5, k6, k7⟩ := g2
      have e8 : ∀ s, 1 + (7 + 2 * s) = 8 + 2 * s := fun s => by omega
      have e9 : ∀ s, 1 + (8 + 2 * s) = 9 + 2 * s := fun s => by omega
      have e20 : ∀ s, 1 + (19 + 2 * s) = 20 + 2 * s := fun s => by omega
      have e21 : ∀ s, 1 + (20 + 2 * s) = 21 + 2 * s := fun s => by omega
      simp only [e8, e9, e20, e21] at hf hS k4
      obtain ⟨kp, kp1, kp2, kp3⟩ := (hS s hs6).keep hs
      obtain ⟨f1, f2, f3⟩ := (hf s hs6).1 hs
      have far : ∀ a, 60 < a → f s a = 0 := fun a ha => (hf s hs6).far (hS s hs6).keep ha
      have farx : ∀ a, kp < a → f s a = 0 := fun a ha => f3 a kp kp3 kp2 ha
      have tot1 : fb_sum (fun a => f s (a + 1)) 60 ≤ 1000 := Nat.le_trans (fb_one (fun s => fb_sum (fun a => f s (a + 1)) 60) hs6) hf'
      have oall : older (f s) 64 = fb_sum (fun a => f s (a + 1)) 60 := older_all _ far
      have hb : ∀ a, 1 ≤ a → f s a ≤ 1000 := fun a ha => by
        rcases Nat.lt_or_ge 60 a with q | q
        · rw [far a q]; omega
        · have := fb_one (fun a => f s (a + 1)) (n := 60) (k := a - 1) (by omega)
          simp only [show a - 1 + 1 = a from by omega] at this
          omega
      have c3 : rd S (8 + 2 * s) 3 = nI kp := ((hS s hs6).1 hs).1 3 (by decide) |>.trans kp3
      have c6 : rd S (8 + 2 * s) 6 = nI (older (f s) 64) := by rw [oall]; exact f2
      have c11 : rd S 1 11 = nI ((50 * yr + dn) % 60) := hH.2.2.2.2.2.2.2.2.2.2.2.2.2.2
      have mn : mnI (nI n) (nI (older (f s) 64)) = nI (min n (older (f s) 64)) := mn_nat hn (by omega)
      obtain ⟨X, w6, l6, o6, v6⟩ := takeOldest_run (8 + 2 * s) (50 * yr + dn) kp (min n (older (f s) 64)) (f s) S kp2 (by omega) farx hb (by rw [show 8 + 2 * s + 1 = 9 + 2 * s from by omega]; exact f1) (nI (min n (older (f s) 64))) (fun e75_0 e75_4 T75 => (f_X5_takeOldest_J75 e75_0 e75_4 T75))
      rw [show 8 + 2 * s + 1 = 9 + 2 * s from by omega] at o6 v6
      have t6 : f_X5_takeOldest (8 + 2 * s) (nI n) (rd S 1 11) S = some (nI (min n (older (f s) 64)), wr X (8 + 2 * s) 6 (nI (older (f s) 64 - n))) := by
        unfold f_X5_takeOldest
        rw [c11, c6, c3, mn, w6]
        unfold f_X5_takeOldest_J75
        have : rd X (8 + 2 * s) 6 = nI (older (f s) 64) := by rw [← c6]; simp only [rd]; rw [o6 _ (by omega)]
        rw [this, pk_sub (by omega)]
        congr 3; congr 1; omega
      have a6 : f_X6_take (nI s) (nI n) S = some (nI (min n (older (f s) 64)), wrL (wr X (8 + 2 * s) 6 (nI (older (f s) 64 - n))) 7 8 (S.2 7 8 + (nI (min n (older (f s) 64))).toInt64)) := by
        simp only [f_X6_take, h1, h2, hin, hix, if_true, if_false, t6, Option.bind_some, ix_8]
        rw [show rdL (wr X (8 + 2 * s) 6 (nI (older (f s) 64 - n))) 7 8 = S.2 7 8 from by show X.2 7 8 = _; rw [l6]]
      generalize hU : wrL (wr X (8 + 2 * s) 6 (nI (older (f s) 64 - n))) 7 8 (S.2 7 8 + (nI (min n (older (f s) 64))).toInt64) = U at a6
      have oU : ∀ i, i ≠ 8 + 2 * s → i ≠ 9 + 2 * s → U.1 i = S.1 i := fun i x y => by rw [← hU, wrL1, wr1_ne x, o6 i y]
      have cU : ∀ k, U.1 (8 + 2 * s) k = if k = 6 then nI (older (f s) 64 - n) else S.1 (8 + 2 * s) k := fun k => by rw [← hU, wrL1, wr1_eq, o6 _ (by omega)]
      have qU : ∀ a, 1 ≤ a → a ≤ 60 → U.1 (9 + 2 * s) ((50 * yr + dn + 60 - a) % 60) = nI (tkn (f s) n a) := fun a x y => by
        rw [← hU, wrL1, wr1_ne (by omega), v6 a x y, tkn_min]
      have U109 : U.1 109 = S.1 109 := oU 109 (by omega) (by omega)
      have y784 : rd U 109 784 = nI yr := by show U.1 109 784 = _; rw [U109]; exact hH.2.2.2.2.2.1
      have y785 : rd U 109 785 = nI dn := by show U.1 109 785 = _; rw [U109]; exact hH.2.2.2.2.2.2.2.1
      have dn49 : dn ≤ 49 := hH.2.1
      have enx : (64 : Int32) + (50 : Int32) * nI yr + nI dn = nI (64 + (50 * yr + dn)) := by
        rw [show (64 : Int32) = nI 64 from rfl, show (50 : Int32) = nI 50 from rfl, pk_mul, nI_add, nI_add]; congr 1; omega
      have enx2 : nI (64 + (50 * yr + dn)) - 64 = nI (50 * yr + dn) := by
        rw [show (64 : Int32) = nI 64 from rfl, pk_sub (by omega)]; congr 1; omega
      obtain ⟨Y, w7, l7, o7, v7, p7⟩ := take7_run s (50 * yr + dn) n (f s) U hs6 (by omega) hn hb (by rw [U109]; exact (hf s hs6).2.1) (nI n) (fun e116_2 e116_4 T116 => (some ((e116_2 - e116_4), (wrL T116 111 (ix (8 : Int32)) ((rdL T116 111 (ix (8 : Int32))) + ((e116_2 - e116_4).toInt64))))))
      have emn : nI n - nI (n - older (f s) 64) = nI (min n (older (f s) 64)) := by rw [pk_sub (by omega)]; congr 1; omega
      have a7 : f_X7_take (nI s) (nI n) U = some (nI (min n (older (f s) 64)), wrL Y 111 8 (S.2 111 8 + (nI (min n (older (f s) 64))).toInt64)) := by
        have hU782 : rd U 109 782 = rd S 109 782 := by show U.1 109 782 = _; rw [U109]; rfl
        simp only [f_X7_take, hsb U hU782, h1, h2, Option.bind_some, if_true, if_false, ix_784, ix_785, y784, y785, enx, enx2]
        rw [w7]
        simp only [ix_8, emn]
        rw [show rdL Y 111 8 = S.2 111 8 from by show Y.2 111 8 = _; rw [l7, ← hU, wrL2_ne (by decide)]; show X.2 111 8 = _; rw [l6]]
      refine ⟨_, _, _, a6, a7, ?_⟩
      generalize hS2 : wrL Y 111 8 (S.2 111 8 + (nI (min n (older (f s) 64))).toInt64) = S2
      have oS2 : ∀ i, i ≠ 8 + 2 * s → i ≠ 9 + 2 * s → i ≠ 109 → S2.1 i = S.1 i := fun i x y z => by rw [← hS2, wrL1, o7 i z, oU i x y]
      have cS2 : ∀ i, i ≠ 109 → S2.1 i = U.1 i := fun i z => by rw [← hS2, wrL1, o7 i z]
      have pS2 : ∀ k, (k < 198 + 64 * s ∨ 198 + 64 * s + 64 ≤ k) → S2.1 109 k = S.1 109 k := fun k hk => by rw [← hS2, wrL1, p7 k hk, U109]
      have vS2 : ∀ a, 1 ≤ a → a ≤ 64 → S2.1 109 (198 + 64 * s + (50 * yr + dn + 64 - a) % 64) = nI (tkn (f s) n a) := fun a x y => by rw [← hS2, wrL1, v7 a x y]
      have lS2 : ∀ i, i ≠ 7 → i ≠ 111 → S2.2 i = S.2 i := fun i x y => by
        rw [← hS2, wrL2_ne y, l7, ← hU, wrL2_ne x]; show X.2 i = _; rw [l6]
      refine hR.booked (cnt := cnt) (yr := yr) (dn := dn) (by omega) ?_ ?_ (oS2 0 (by omega) (by omega) (by omega)) (fun i x y => oS2 i (by omega) (by omega) (by omega)) (fun i x y => oS2 i (by omega) (by omega) (by omega)) (fun k _ => by rw [oS2 108 (by omega) (by omega) (by omega)]) (lS2 50 (by decide) (by decide)) (lS2 112 (by decide) (by decide)) (oS2 106 (by omega) (by omega) (by omega))
      · refine ⟨?_, ⟨tk, fun s' hs' => ?_⟩, ⟨fun s' => if s' = s then tkn (f s) n else f s', fun s' hs' => ?_, ?_⟩, fun q hq => ?_, ?_, ?_, ?_⟩
        · show HeadRel cnt yr dn (S2.1 1) (S2.1 109)
          rw [oS2 1 (by omega) (by omega) (by omega)]
          exact hH.cong (fun k a b => pS2 k (by omega))
        · show SortRel cnt s' (S2.1 (1 + (7 + 2 * s'))) (S2.1 109) (tk s')
          rw [e8]
          have h0 := (hS s' hs').cong (A' := S2.1 109) hs' (fun k hk => pS2 k (by omega))
          by_cases es : s' = s
          · subst es
            obtain ⟨q1, q2, q3⟩ := h0
            refine ⟨fun hlt => ?_, q2, q3⟩
            obtain ⟨r1, r2, r3, r4, r5, r6, bb, r7, r8, r9⟩ := q1 hlt
            refine ⟨fun k hk => ?_, r2, r3, r4, r5, r6, bb, r7, ?_, r9⟩
            · rw [cS2 _ (by omega), cU, if_neg (by omega)]; exact r1 k hk
            · rw [cS2 _ (by omega), cU, if_neg (by omega)]; exact r8
          · rw [oS2 _ (by omega) (by omega) (by omega)]; exact h0
        · show StoreRel cnt (50 * yr + dn) s' (S2.1 (1 + (7 + 2 * s'))) (S2.1 (1 + (8 + 2 * s'))) (S2.1 109) (if s' = s then tkn (f s) n else f s')
          rw [e8, e9]
          by_cases es : s' = s
          · subst es
            rw [if_pos rfl]
            refine ⟨fun _ => ⟨fun a x y => by rw [cS2 _ (by omega)]; exact qU a x y, ?_, fun a x q1 q2 q3 => ?_⟩, vS2, fun q => by omega⟩
            · rw [cS2 _ (by omega), cU, if_pos rfl, ← older_tkn _ _ 64 (Nat.le_refl _), older_all _ (fun a ha => tkn_far (far a ha))]
            · exact tkn_far (f3 a x (by rw [← pS2 _ (by omega)]; exact q1) q2 q3)
          · rw [if_neg es, oS2 (8 + 2 * s') (by omega) (by omega) (by omega), oS2 (9 + 2 * s') (by omega) (by omega) (by omega)]
            obtain ⟨q1, q2, q3⟩ := hf s' hs'
            refine ⟨fun hlt => ?_, fun a x y => by rw [pS2 _ (by omega)]; exact q2 a x y, q3⟩
            obtain ⟨r1, r2, r3⟩ := q1 hlt
            exact ⟨r1, r2, fun a x hx => r3 a x (by rw [← pS2 _ (by omega)]; exact hx)⟩
        · refine Nat.le_trans (fb_le (fun s' hs' => ?_)) hf'
          refine fb_le (fun a ha => ?_)
          show (if s' = s then tkn (f s) n else f s') (a + 1) ≤ _
          by_cases es : s' = s
          · subst es; rw [if_pos rfl]; exact tkn_le _ _ _
          · rw [if_neg es]; exact Nat.le_refl _
        · show PlaceRel cnt yr dn (S2.1 (1 + (19 + 2 * q))) (S2.1 (1 + (20 + 2 * q))) _
          rw [e20, e21, oS2 (20 + 2 * q) (by omega) (by omega) (by omega), oS2 (21 + 2 * q) (by omega) (by omega) (by omega)]
          exact (k4 q hq).cong (fun k hk => pS2 _ (by omega))
        · show FrostRel (S2.1 5) (S2.1 6) (S2.1 109)
          rw [oS2 5 (by omega) (by omega) (by omega), oS2 6 (by omega) (by omega) (by omega)]
          exact k5.cong (fun k a b => pS2 k (by omega))
        · show WarmRel dn (S2.1 4) (S2.1 109)
          rw [oS2 4 (by omega) (by omega) (by omega)]
          exact k6.cong (by omega) (fun k a b => pS2 k (by omega))
        · intro k hk
          have e1 : S2.2 7 k = if k = 8 then S.2 7 8 + (nI (min n (older (f s) 64))).toInt64 else S.2 7 k := by
            rw [← hS2, wrL2_ne (by decide), l7, ← hU, wrL2_eq]
            by_cases ek : k = 8
            · rw [if_pos ek, if_pos ek]
            · rw [if_neg ek, if_neg ek]; show X.2 7 k = _; rw [l6]
          have e2 : S2.2 111 k = if k = 8 then S.2 111 8 + (nI (min n (older (f s) 64))).toInt64 else S.2 111 k := by
            rw [← hS2, wrL2_eq]
            by_cases ek : k = 8
            · rw [if_pos ek, if_pos ek]
            · rw [if_neg ek, if_neg ek, l7, ← hU, wrL2_ne (by decide)]; show X.2 111 k = _; rw [l6]
          rw [e1, e2, k7 8 (by decide), k7 k hk]
      · rw [oS2 101 (by omega) (by omega) (by omega), oS2 104 (by omega) (by omega) (by omega), oS2 116 (by omega) (by omega) (by omega), oS2 108 (by omega) (by omega) (by omega)]
        exact g6.cong hc6 (fun k hk => pS2 k (by omega)) (pS2 783 (by omega))
  · exact ⟨-1, (f_X6_finding (-1) S).2, (f_X7_found (-1) (f_X6_finding (-1) S).2).2, by simp only [f_X6_take, h1, if_false]; rfl, by simp only [f_X7_take, hsF, h1, Option.bind_some, if_false]; rfl, hR.found _ _⟩
