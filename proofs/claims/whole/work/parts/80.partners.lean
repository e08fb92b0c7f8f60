def blmA (A : Nat → Int32) (W : Nat → Nat) (s day : Nat) : Bool := decide (fstD W (ix (A (5 * s))) ≤ day ∧ day < fstD W (ix (A (5 * s))) + ix (A (5 * s + 1)))
def opnA (A : Nat → Int32) (W : Nat → Nat) (k day : Nat) : Bool := ptA A k && (decide (0 < bdA A (k / 2)) && blmA A W (srtA A k) day)
def cndA (A : Nat → Int32) (W : Nat → Nat) (k m day : Nat) : Bool := opnA A W m day && (doesA A (srtA A k) (srtA A m) && layNear A (k / 2) (m / 2))
def prtA (A : Nat → Int32) (W : Nat → Nat) (k day : Nat) : Nat := if opnA A W k day = true then fb_sum (fun m => if cndA A W k m day = true then 1 else 0) 24 else 0
/-- the season that the class has read -/
def SeaC (cnt : Nat) (W : Nat → Nat) (A : Nat → Int32) (S : St) : Prop := (∀ d, d < 50 → W d ≤ 60) ∧ (∀ d, d < 50 → S.1 97 d = nI (W d)) ∧ (∀ d, d ≤ 50 → S.1 98 d = nI (fb_sum W d)) ∧ ∀ s, s < cnt → S.1 99 s = nI (fstD W (ix (A (5 * s)))) ∧ S.1 100 s = nI (fstD W (ix (A (5 * s))) + ix (A (5 * s + 1)) - 1)
theorem Sea.c {cnt : Nat} {W : Nat → Nat} {S S' : St} (h : Sea cnt W S S') (hW : ∀ d, d < 50 → W d ≤ 60) : SeaC cnt W (S.1 109) S' := ⟨hW, h.2.2.1, h.2.2.2.1, h.2.2.2.2⟩
theorem SeaC.cong {cnt : Nat} {W : Nat → Nat} {A : Nat → Int32} {S U : St} (h : SeaC cnt W A S) (e : ∀ i, 97 ≤ i → i ≤ 100 → U.1 i = S.1 i) : SeaC cnt W A U := by
  obtain ⟨h1, h2, h3, h4⟩ := h
  unfold SeaC
  rw [e 97 (by decide) (by decide), e 98 (by decide) (by decide), e 99 (by decide) (by decide), e 100 (by decide) (by decide)]
  exact ⟨h1, h2, h3, h4⟩
theorem inBloomC {cnt yr : Nat} {S : St} {A : Nat → Int32} {W : Nat → Nat} (h : OrA cnt yr A) (hW : SeaC cnt W A S) {s day : Nat} (hs : s < cnt) (hd : day < 50) : f_X3_isInBloom (nI s) (nI day) S = some (blmA A W s day) := by
  obtain ⟨-, ⟨y, y1, y9, ey⟩, -⟩ := h.2.2.2.2.1 s hs
  have hc := h.1
  have hin : inb (nI s) 6 = true := inb_nI (by omega) (by decide)
  have hix : ix (nI s) = s := ix_nI (by omega)
  obtain ⟨e1, e2⟩ := hW.2.2.2 s hs
  unfold blmA
  rw [ey, ix_nI (n := y) (by omega)] at e2 ⊢
  have hF := (fstD_spec W (ix (A (5 * s)))).1
  generalize fstD W (ix (A (5 * s))) = F at *
  have e1' : rd S 99 s = nI F := e1
  have e2' : rd S 100 s = nI (F + y - 1) := e2
  simp only [f_X3_isInBloom, hin, hix, if_true, e1', e2']
  by_cases c : F ≤ day
  · rw [if_neg (nI_nlt c (by omega))]
    by_cases c2 : day < F + y
    · rw [if_neg (nI_nlt (by omega) (by omega))]; simp [c, c2]
    · rw [if_pos (nI_lt (by omega) (by omega))]; simp [c2]
  · rw [if_pos (nI_lt (by omega) (by omega))]; simp [c]
theorem blossomsR {cnt yr dn : Nat} {S : St} (h : OrA cnt yr (S.1 109)) (hw : RefW dn S) {s day : Nat} (hs : s < cnt) (hd : day < 50) : f_X7_blossoms (nI s) (nI day) false S = some (blmA (S.1 109) (warmF S) s day) := by
  obtain ⟨⟨x, hx, ex⟩, ⟨y, y1, y9, ey⟩, -⟩ := h.2.2.2.2.1 s hs
  have hc := h.1
  have e1 := firstDay_year hw (s := s) (by omega) hx ex
  have e2 : f_X7_sortOf (nI s) 1 S = some (nI y) := by
    have := sortOf_nat (s := s) (k := 1) (by omega) (by decide) S
    rw [show rd S 109 (5 * s + 1) = nI y from ey] at this
    exact this
  unfold blmA
  rw [ex, ey, ix_nI (n := x) (by omega), ix_nI (n := y) (by omega)]
  have hF := (fstD_spec (warmF S) x).1
  generalize fstD (warmF S) x = F at *
  simp only [f_X7_blossoms, e1, Option.bind_some, e2]
  by_cases l : F < 50
  · rw [if_pos l, nI_add]
    by_cases c : F ≤ day
    · rw [if_neg (nI_nlt c (by omega))]
      by_cases c2 : day < F + y
      · rw [if_pos (nI_lt c2 (by omega))]; simp [c, c2]
      · rw [if_neg (nI_nlt (by omega) (by omega))]; simp [c2]
    · rw [if_pos (nI_lt (by omega) (by omega))]; simp [c]
  · rw [if_neg l]
    have c : nI day < (100 : Int32) := nI_lt (b := 100) (by omega) (by decide)
    rw [if_pos c]
    have : ¬ F ≤ day := by omega
    simp [this]
theorem khalf_lt {k : Nat} (hk : k < 24) : k / 2 < 12 := by omega
theorem k_eq (k : Nat) : 2 * (k / 2) + k % 2 = k := by omega
theorem partR {S : St} {cnt yr : Nat} (h : OrA cnt yr (S.1 109)) {k : Nat} (hk : k < 24) : f_X7_isPart (nI k) S = some (ptA (S.1 109) k) := by
  have := isPart_nat (p := k / 2) (q := k % 2) (khalf_lt hk) (by omega) S
  rw [k_eq] at this
  rw [this]
  unfold ptA
  have hk' := h.kinds (khalf_lt hk)
  have hq : k % 2 = 0 ∨ k % 2 = 1 := by omega
  show some (f_X6_within (S.1 109 (66 + 11 * (k / 2) + 2)) 1 4 && (decide (k % 2 = 0) || decide (S.1 109 (66 + 11 * (k / 2) + 2) = 2))) = _
  generalize S.1 109 (66 + 11 * (k / 2) + 2) = K at *
  rcases hk' with rfl | rfl | rfl | rfl | rfl | rfl <;> rcases hq with q | q <;> rw [q] <;> rfl
theorem ptA_at {A : Nat → Int32} {p q : Nat} (hq : q < 2) : ptA A (2 * p + q) = isPt (A (66 + 11 * p + 2)) q := by
  unfold ptA
  rw [show (2 * p + q) / 2 = p from by omega, show (2 * p + q) % 2 = q from by omega]
theorem OrA.srtK {cnt yr : Nat} {A : Nat → Int32} (h : OrA cnt yr A) {k : Nat} (hk : k < 24) (hpt : ptA A k = true) : srtA A k < cnt ∧ A (66 + 11 * (k / 2) + (3 + k % 2)) = nI (srtA A k) := by
  have := h.srt (p := k / 2) (q := k % 2) (khalf_lt hk) (by omega) hpt
  rw [k_eq] at this
  exact this
theorem sortPartR {S : St} {cnt yr : Nat} (h : OrA cnt yr (S.1 109)) {k : Nat} (hk : k < 24) (hpt : ptA (S.1 109) k = true) : f_X7_sortOfPart (nI k) S = some (nI (srtA (S.1 109) k)) := by
  have := sortOfPart_nat (p := k / 2) (q := k % 2) (khalf_lt hk) (by omega) S
  rw [k_eq] at this
  rw [this]
  exact congrArg some (h.srtK hk hpt).2
theorem halfK (k : Nat) (hk : k < 24) : nI k / 2 = nI (k / 2) := by
  rw [show (2 : Int32) = nI 2 from rfl, pk_div (by omega) (by decide) (by decide)]
theorem ptA_tree {A : Nat → Int32} {k : Nat} (h : ptA A k = true) : A (66 + 11 * (k / 2) + 2) = 1 ∨ A (66 + 11 * (k / 2) + 2) = 2 ∨ A (66 + 11 * (k / 2) + 2) = 3 ∨ A (66 + 11 * (k / 2) + 2) = 4 := isPt_tree h (by omega)
theorem openR {cnt yr dn : Nat} {S : St} (h : OrA cnt yr (S.1 109)) (hw : RefW dn S) {k day : Nat} (hk : k < 24) (hd : day < 50) : f_X7_isOpen (nI k) (nI day) S = some (opnA (S.1 109) (warmF S) k day) := by
  unfold opnA
  simp only [f_X7_isOpen, partR h hk, Option.bind_some, halfK k hk]
  by_cases hpt : ptA (S.1 109) k = true
  · have ht := ptA_tree hpt
    have hb := bdA_le h (khalf_lt hk) ht
    rw [hpt]
    simp only [if_true, budsR h (khalf_lt hk) ht, Option.bind_some, Bool.true_and]
    by_cases hb0 : 0 < bdA (S.1 109) (k / 2)
    · have c : (0 : Int32) < nI (bdA (S.1 109) (k / 2)) := nI_lt (a := 0) hb0 (by omega)
      rw [if_pos c, sortPartR h hk hpt]
      simp only [Option.bind_some, blossomsR h hw (h.srtK hk hpt).1 hd, hb0, decide_true, Bool.true_and]
      cases blmA (S.1 109) (warmF S) (srtA (S.1 109) k) day <;> rfl
    · have c : ¬ (0 : Int32) < nI (bdA (S.1 109) (k / 2)) := nI_nlt (b := 0) (a := 0) |> fun _ => by
        rw [show bdA (S.1 109) (k / 2) = 0 from by omega]; decide
      rw [if_neg c]
      simp [hb0]
  · simp only [Bool.not_eq_true] at hpt
    rw [hpt]; rfl
/-- a part's sort, in the class -/
theorem sortOfC {cnt yr : Nat} {S : St} {A : Nat → Int32} (h : OrA cnt yr A) (hC : OrC cnt S A) {p q : Nat} (hp : p < 12) (hq : q < 2) (hpt : isPt (A (66 + 11 * p + 2)) q = true) : f_X2_sortOf (20 + 2 * p) (nI q) S = nI (srtA A (2 * p + q)) := by
  have e := (h.srt hp hq hpt).2
  obtain ⟨-, n0, n5⟩ := h.tree hp (isPt_tree hpt hq)
  have r3 := (hC.2.2.2.2 p hp).2.2.2 n0 n5
  unfold f_X2_sortOf
  have hq' : q = 0 ∨ q = 1 := by omega
  rcases hq' with rfl | rfl
  · rw [if_pos nI_0]; exact (r3 3 (by decide) (by decide)).trans e
  · rw [if_neg (by decide)]; exact (r3 4 (by decide) (by decide)).trans e
theorem openC {cnt yr : Nat} {S : St} {A : Nat → Int32} {W : Nat → Nat} (h : OrA cnt yr A) (hC : OrC cnt S A) (hW : SeaC cnt W A S) {p q day : Nat} (hp : p < 12) (hq : q < 2) (hd : day < 50) (hpt : isPt (A (66 + 11 * p + 2)) q = true) : f_X0_isOpen (20 + 2 * p) (nI q) (nI day) S = some (opnA A W (2 * p + q) day) := by
  have ht := isPt_tree hpt hq
  have hb := bdA_le h hp ht
  have hs := (h.srt hp hq hpt).1
  unfold opnA
  rw [ptA_at hq, hpt, show (2 * p + q) / 2 = p from by omega]
  simp only [f_X0_isOpen, sortOfC h hC hp hq hpt, inBloomC h hW hs hd, Option.bind_some, Bool.true_and, budsC h hC hp ht]
  cases blmA A W (srtA A (2 * p + q)) day with
  | false => simp
  | true =>
    simp only [if_true, Bool.and_true]
    by_cases hb0 : 0 < bdA A p
    · have c : (0 : Int32) < nI (bdA A p) := nI_lt (a := 0) hb0 (by omega)
      rw [if_pos c]; simp [hb0]
    · have c : ¬ (0 : Int32) < nI (bdA A p) := by rw [show bdA A p = 0 from by omega]; decide
      rw [if_neg c]; simp [hb0]
theorem acceptsC {cnt : Nat} {S : St} {A : Nat → Int32} (hC : OrC cnt S A) {s o : Nat} (hs : s < cnt) (ho : o < 6) : f_X5_accepts (8 + 2 * s) (nI o) S = doesA A s o := by
  obtain ⟨-, bits, b1, b2, b3⟩ := hC.2.2.2.1 s hs
  rw [accepts_run S ho b1 b2, b3 o ho]
theorem doesR {S : St} {s o : Nat} (hs : s < 6) (ho : o < 6) : f_X7_does (nI s) (nI o) S = some (doesA (S.1 109) s o) := does_nat hs ho S
/-- the reference's count of partners -/
theorem partnersR {cnt yr dn : Nat} {S : St} (h : OrA cnt yr (S.1 109)) (hw : RefW dn S) {k day : Nat} (hk : k < 24) (hd : day < 50) : f_X7_partnersOf (nI k) (nI day) S = some (nI (prtA (S.1 109) (warmF S) k day)) := by
  unfold prtA f_X7_partnersOf
  rw [openR h hw hk hd]
  simp only [Option.bind_some]
  by_cases ho : opnA (S.1 109) (warmF S) k day = true
  · rw [if_pos ho, if_pos ho]
    have hptk : ptA (S.1 109) k = true := by unfold opnA at ho; simp only [Bool.and_eq_true] at ho; exact ho.1
    have hsk := (h.srtK hk hptk).1
    have hc := h.1
    have := loop_up (N := 24) (fun n i (v : Int32) => f_X7_partnersOf_L16 n (fun e92_3 => (some e92_3)) (nI k) (nI day) v i S) (fun v => some v) (fun j v => v = nI (fb_sum (fun m => if cndA (S.1 109) (warmF S) k m day = true then 1 else 0) j)) (fun n j v hj hP => by
      refine ⟨_, rfl, ?_⟩
      have h1 : (nI j < (24 : Int32)) = True := ltT hj (by decide)
      simp only [f_X7_partnersOf_L16, h1, if_true, openR h hw hj hd, Option.bind_some, halfK j hj, halfK k hk, fb_sum, hP, nI_1]
      unfold cndA
      by_cases oj : opnA (S.1 109) (warmF S) j day = true
      · rw [if_pos oj]
        have hptj : ptA (S.1 109) j = true := by unfold opnA at oj; simp only [Bool.and_eq_true] at oj; exact oj.1
        have hsj := (h.srtK hj hptj).1
        rw [oj]
        simp only [sortPartR h hk hptk, sortPartR h hj hptj, Option.bind_some, doesR (S := S) (show srtA (S.1 109) k < 6 by omega) (show srtA (S.1 109) j < 6 by omega), Bool.true_and]
        by_cases dj : doesA (S.1 109) (srtA (S.1 109) k) (srtA (S.1 109) j) = true
        · rw [if_pos dj, dj]
          simp only [Bool.true_and]
          by_cases e : nI (j / 2) = nI (k / 2)
          · rw [if_pos e]
            have e' : j / 2 = k / 2 := (nI_eq (by omega) (by omega)).mp e
            rw [e', layNear_self]; rfl
          · rw [if_neg e, nearR h (khalf_lt hk) (khalf_lt hj)]
            simp only [Option.bind_some]
            cases layNear (S.1 109) (k / 2) (j / 2) with
            | true => rfl
            | false =>
              simp only [Bool.false_eq_true, if_false]
              rw [show (0 : Int32) = nI 0 from rfl, nI_add]
        · rw [if_neg dj]
          simp only [Bool.not_eq_true] at dj
          rw [dj]; rfl
      · rw [if_neg oj]
        simp only [Bool.not_eq_true] at oj
        rw [oj]; rfl) (fun n v hP => by
      have h1 : (nI 24 < (24 : Int32)) = False := ltF (N := 24) (by decide) (by decide)
      simp only [f_X7_partnersOf_L16, h1, if_false]) (fuel := 6000) (T := 0) (by decide) rfl
    rw [nI_0] at this
    obtain ⟨v, hv, e⟩ := this
    subst hv
    exact e
  · rw [if_neg ho, if_neg ho]; rfl
theorem pcC {cnt yr : Nat} {S : St} {A : Nat → Int32} (h : OrA cnt yr A) (hC : OrC cnt S A) {p q : Nat} (hp : p < 12) (hq : q < 2) : (nI q < f_X2_partCount (20 + 2 * p) S) = (isPt (A (66 + 11 * p + 2)) q = true) :=
  partCount_val (hC.2.2.2.2 p hp).2.2.1 (h.kinds hp) hq
theorem pc2C {cnt yr : Nat} {S : St} {A : Nat → Int32} (h : OrA cnt yr A) (hC : OrC cnt S A) {p : Nat} (hp : p < 12) : (nI 2 < f_X2_partCount (20 + 2 * p) S) = False := by
  have e : rd S (20 + 2 * p) 2 = A (66 + 11 * p + 2) := (hC.2.2.2.2 p hp).2.2.1
  have hk := h.kinds hp
  unfold f_X2_partCount f_X2_isTree
  rw [e]
  generalize A (66 + 11 * p + 2) = K at *
  rcases hk with rfl | rfl | rfl | rfl | rfl | rfl <;> decide
/-- the class's count of partners -/
theorem partnersC {cnt yr : Nat} {S : St} {A : Nat → Int32} {W : Nat → Nat} (h : OrA cnt yr A) (hC : OrC cnt S A) (hW : SeaC cnt W A S) {p q day : Nat} (hp : p < 12) (hq : q < 2) (hd : day < 50) (hpt : isPt (A (66 + 11 * p + 2)) q = true) : f_X0_countPartners (nI p) (nI q) (nI day) S = some (nI (prtA A W (2 * p + q) day)) := by
  have hin : inb (nI p) 12 = true := inb_nI hp (by decide)
  have hix : ix (nI p) = p := ix_nI (by omega)
  have hsk := (h.srt hp hq hpt).1
  have hc := h.1
  have hin6 : inb (nI (srtA A (2 * p + q))) 6 = true := inb_nI (by omega) (by decide)
  have hix6 : ix (nI (srtA A (2 * p + q))) = srtA A (2 * p + q) := ix_nI (by omega)
  unfold prtA
  simp only [f_X0_countPartners, hin, hix, if_true, openC h hC hW hp hq hd hpt, Option.bind_some, sortOfC h hC hp hq hpt, hin6, hix6]
  by_cases ho : opnA A W (2 * p + q) day = true
  · rw [if_pos ho, if_pos ho]
    -- one tree's parts
    have inner : ∀ (K : Int32 → Int32 → Nat → Int32 → Int32 → Option Int32) (c m : Nat), m < 12 → f_X0_countPartners_L61 6000 K (nI p) (nI day) (8 + 2 * srtA A (2 * p + q)) (nI c) (nI m) (20 + 2 * m) 0 S = K (nI p) (nI day) (8 + 2 * srtA A (2 * p + q)) (nI (c + ((if cndA A W (2 * p + q) (2 * m) day = true then 1 else 0) + (if cndA A W (2 * p + q) (2 * m + 1) day = true then 1 else 0)))) (nI m) := by
      intro K c m hm
      -- one part
      have turn : ∀ (n c r : Nat), r < 2 → isPt (A (66 + 11 * m + 2)) r = true → layNear A p m = true → f_X0_countPartners_L61 (n + 1) K (nI p) (nI day) (8 + 2 * srtA A (2 * p + q)) (nI c) (nI m) (20 + 2 * m) (nI r) S = f_X0_countPartners_L61 n K (nI p) (nI day) (8 + 2 * srtA A (2 * p + q)) (nI (c + (if cndA A W (2 * p + q) (2 * m + r) day = true then 1 else 0))) (nI m) (20 + 2 * m) (nI (r + 1)) S := by
        intro n c r hr hpr hn
        have hsr := (h.srt hm hr hpr).1
        have e1 : (nI r < f_X2_partCount (20 + 2 * m) S) = True := by rw [pcC h hC hm hr, hpr]; simp
        unfold cndA
        simp only [f_X0_countPartners_L61, e1, if_true, nearC h hC hp hm, Option.bind_some, hn, sortOfC h hC hm hr hpr, acceptsC hC hsk (show srtA A (2 * m + r) < 6 by omega), openC h hC hW hm hr hd hpr, nI_1, show (2 * p + q) / 2 = p from by omega, show (2 * m + r) / 2 = m from by omega, Bool.and_true]
        cases doesA A (srtA A (2 * p + q)) (srtA A (2 * m + r)) with
        | false => simp only [Bool.false_eq_true, if_false, Bool.and_false, Nat.add_zero]
        | true =>
          simp only [if_true, Bool.and_true]
          cases opnA A W (2 * m + r) day with
          | true => simp only [if_true]
          | false => simp only [Bool.false_eq_true, if_false, Nat.add_zero]
      have stop : ∀ (n c r : Nat), r < 2 → isPt (A (66 + 11 * m + 2)) r = false → f_X0_countPartners_L61 (n + 1) K (nI p) (nI day) (8 + 2 * srtA A (2 * p + q)) (nI c) (nI m) (20 + 2 * m) (nI r) S = K (nI p) (nI day) (8 + 2 * srtA A (2 * p + q)) (nI c) (nI m) := by
        intro n c r hr hpr
        have e1 : (nI r < f_X2_partCount (20 + 2 * m) S) = False := by rw [pcC h hC hm hr, hpr]; simp
        simp only [f_X0_countPartners_L61, e1, if_false]
      have far : ∀ (n c r : Nat), r < 2 → isPt (A (66 + 11 * m + 2)) r = true → layNear A p m = false → f_X0_countPartners_L61 (n + 1) K (nI p) (nI day) (8 + 2 * srtA A (2 * p + q)) (nI c) (nI m) (20 + 2 * m) (nI r) S = K (nI p) (nI day) (8 + 2 * srtA A (2 * p + q)) (nI c) (nI m) := by
        intro n c r hr hpr hn
        have e1 : (nI r < f_X2_partCount (20 + 2 * m) S) = True := by rw [pcC h hC hm hr, hpr]; simp
        simp only [f_X0_countPartners_L61, e1, if_true, nearC h hC hp hm, Option.bind_some, hn, Bool.false_eq_true, if_false]
      have last : ∀ (n c : Nat), f_X0_countPartners_L61 (n + 1) K (nI p) (nI day) (8 + 2 * srtA A (2 * p + q)) (nI c) (nI m) (20 + 2 * m) (nI 2) S = K (nI p) (nI day) (8 + 2 * srtA A (2 * p + q)) (nI c) (nI m) := by
        intro n c
        simp only [f_X0_countPartners_L61, pc2C h hC hm, if_false]
      have no : ∀ r, r < 2 → isPt (A (66 + 11 * m + 2)) r = false ∨ layNear A p m = false → cndA A W (2 * p + q) (2 * m + r) day = false := by
        intro r hr hh
        unfold cndA opnA
        rw [ptA_at hr, show (2 * p + q) / 2 = p from by omega, show (2 * m + r) / 2 = m from by omega]
        rcases hh with hh | hh
        · rw [hh]; rfl
        · rw [hh]; simp
      have nof : ∀ r, r < 2 → isPt (A (66 + 11 * m + 2)) r = false ∨ layNear A p m = false → (if cndA A W (2 * p + q) (2 * m + r) day = true then 1 else 0) = 0 := fun r hr hh => by rw [no r hr hh]; rfl
      rw [show (6000 : Nat) = 5997 + 1 + 1 + 1 from rfl, show (0 : Int32) = nI 0 from rfl]
      have z0 := fun hh => nof 0 (by decide) hh
      have z1 := fun hh => nof 1 (by decide) hh
      simp only [Nat.add_zero] at z0
      cases p0 : isPt (A (66 + 11 * m + 2)) 0 with
      | false =>
        have p1 : isPt (A (66 + 11 * m + 2)) 1 = false := by
          cases q1 : isPt (A (66 + 11 * m + 2)) 1 with
          | false => rfl
          | true => rw [isPt_0 (isPt_tree q1 (by decide))] at p0; cases p0
        rw [stop _ c 0 (by decide) p0, z0 (Or.inl p0), z1 (Or.inl p1)]; rfl
      | true =>
        cases hn : layNear A p m with
        | false => rw [far _ c 0 (by decide) p0 hn, z0 (Or.inr hn), z1 (Or.inr hn)]; rfl
        | true =>
          rw [turn _ c 0 (by decide) p0 hn]
          simp only [Nat.add_zero]
          cases p1 : isPt (A (66 + 11 * m + 2)) 1 with
          | false => rw [show (0 + 1 : Nat) = 1 from rfl, stop _ _ 1 (by decide) p1, z1 (Or.inl p1)]; rfl
          | true => rw [show (0 + 1 : Nat) = 1 from rfl, turn _ _ 1 (by decide) p1 hn, show (1 + 1 : Nat) = 2 from rfl, last, Nat.add_assoc]
    have := loop_up (N := 12) (fun n i (v : Int32) => f_X0_countPartners_L42 n (fun e125_7 => (some e125_7)) (nI p) (nI day) (8 + 2 * srtA A (2 * p + q)) v i S) (fun v => some v) (fun j v => v = nI (fb_sum (fun m => (if cndA A W (2 * p + q) (2 * m) day = true then 1 else 0) + (if cndA A W (2 * p + q) (2 * m + 1) day = true then 1 else 0)) j)) (fun n j v hj hP => by
      refine ⟨_, rfl, ?_⟩
      have h1 : (nI j < (12 : Int32)) = True := ltT hj (by decide)
      have hinj : inb (nI j) 12 = true := inb_nI hj (by decide)
      have hixj : ix (nI j) = j := ix_nI (by omega)
      simp only [f_X0_countPartners_L42, h1, hinj, hixj, if_true, hP]
      rw [inner _ _ j hj, nI_1]
      rfl) (fun n v hP => by
      have h1 : (nI 12 < (12 : Int32)) = False := ltF (N := 12) (by decide) (by decide)
      simp only [f_X0_countPartners_L42, h1, if_false]) (fuel := 6000) (T := 0) (by decide) rfl
    rw [nI_0] at this
    obtain ⟨v, hv, e⟩ := this
    subst hv
    rw [← fb_pairs (fun m => if cndA A W (2 * p + q) m day = true then 1 else 0) 12] at e
    exact e
  · rw [if_neg ho, if_neg ho]; rfl
theorem sm_partners (x z d : Int32) : Sm Rel (f_X6_partners x z d) (f_X7_partners x z d) := by
  intro B S hB hR
  by_cases h1 : f_X6_isPlace x = true
  · by_cases h2 : f_X6_within z 0 1 = true
    · by_cases h3 : f_X6_isDay d = true
      · obtain ⟨p, hp, rfl⟩ := place_nat h1
        obtain ⟨q, -, hq1, rfl⟩ := within_nat (a := 0) (b := 1) (by decide) (by decide) h2
        obtain ⟨day, -, hd, rfl⟩ := within_nat (a := 0) (b := 49) (by decide) (by decide) h3
        have hq : q < 2 := by omega
        obtain ⟨cnt, yr, dn, g1, g2, g34, g5, g6, g7⟩ := id hR
        have hA := g2.orA (by omega)
        have hC := g2.orC
        have hcw := g2.clsW g5
        have hk : rd S (20 + 2 * p) 2 = rd S 109 (66 + 11 * p + 2) := (hC.2.2.2.2 p hp).2.2.1
        have hks : rd S 109 (66 + 11 * p + 2) = 0 ∨ rd S 109 (66 + 11 * p + 2) = 1 ∨ rd S 109 (66 + 11 * p + 2) = 2 ∨ rd S 109 (66 + 11 * p + 2) = 3 ∨ rd S 109 (66 + 11 * p + 2) = 4 ∨ rd S 109 (66 + 11 * p + 2) = 5 := hA.kinds hp
        have hin : inb (nI p) 12 = true := inb_nI hp (by decide)
        have hix : ix (nI p) = p := ix_nI (by omega)
        have hl : ∀ T : St, rd T 109 (66 + 11 * p + 2) = rd S 109 (66 + 11 * p + 2) → f_X7_lacksPart (nI p) (nI q) T = some (if rd S 109 (66 + 11 * p + 2) = 0 then -6 else if isPt (rd S 109 (66 + 11 * p + 2)) q = true then 0 else -4) := fun T hT => by
          rw [lacksPart_nat hp hq, hT, part_cases hks hq]
        have eF : ∀ c, rd (f_X6_finding c S).2 109 (66 + 11 * p + 2) = rd S 109 (66 + 11 * p + 2) := fun c => fnd_rd c S (by decide)
        have hpc := partCount_val hk hks hq
        by_cases k0 : rd S 109 (66 + 11 * p + 2) = 0
        · have ht := isTree_no hk (Or.inl k0)
          have hw : f_X2_whyNoTree (20 + 2 * p) S = -6 := by unfold f_X2_whyNoTree; rw [hk, if_pos k0]
          exact ⟨-6, (f_X6_finding (-6) S).2, (f_X7_found (-6) (f_X6_finding (-6) S).2).2, by simp only [f_X6_partners, f_X6_isPart, h1, h2, h3, hin, hix, ht, hw, if_true, if_false, Bool.false_eq_true]; rfl, by simp only [f_X7_partners, isPlace_eq, in_eq, isDay_eq, h1, h2, h3, if_true, hl _ (eF _), Option.bind_some, k0]; rfl, hR.found _ _⟩
        by_cases hpt : isPt (rd S 109 (66 + 11 * p + 2)) q = true
        · have ht := isTree_yes hk (isPt_tree hpt hq)
          obtain ⟨S', e, hs⟩ := readYear_run hcw g2.srtN
          have h109 : S'.1 109 = S.1 109 := hs.1 109 (by omega)
          have hA' : OrA cnt yr (S'.1 109) := by rw [h109]; exact hA
          have hC' : OrC cnt S' (S.1 109) := hC.cong hA.1 (fun k _ => by rw [hs.1 1 (by omega)]) (fun s k _ _ => by rw [hs.1 _ (by omega)]) (fun p k _ _ => by rw [hs.1 _ (by omega)])
          have e6 := partnersC hA hC' (hs.c (fun d hd => warmF_le hcw.1 hd)) hp hq (show day < 50 by omega) hpt
          have e7 := partnersR hA' (hcw.1.cong (U := S') (fun i hi => hs.1 i (by omega))) (k := 2 * p + q) (day := day) (by omega) (by omega)
          rw [h109, show warmF S' = warmF S from funext (fun k => warmF_cong (fun i hi => hs.1 i (by omega)) k)] at e7
          have hl' := hl S' (by show S'.1 109 _ = _; rw [h109]; rfl)
          rw [if_neg k0, if_pos hpt] at hl'
          exact ⟨nI (prtA (S.1 109) (warmF S) (2 * p + q) day), S', S', by simp only [f_X6_partners, f_X6_isPart, h1, h2, h3, hin, hix, ht, hpc, hpt, if_true, named_run hcw, e, e6, Option.bind_some], by simp only [f_X7_partners, isPlace_eq, in_eq, isDay_eq, h1, h2, h3, if_true, hl', Option.bind_some, lt00, if_false, part_nat, e7], (hR.season hs).mono⟩
        · by_cases k5 : rd S 109 (66 + 11 * p + 2) = 5
          · have ht := isTree_no hk (Or.inr k5)
            have hw : f_X2_whyNoTree (20 + 2 * p) S = -4 := by unfold f_X2_whyNoTree; rw [hk, if_neg k0]
            exact ⟨-4, (f_X6_finding (-4) S).2, (f_X7_found (-4) (f_X6_finding (-4) S).2).2, by simp only [f_X6_partners, f_X6_isPart, h1, h2, h3, hin, hix, ht, hw, if_true, if_false, Bool.false_eq_true]; rfl, by simp only [f_X7_partners, isPlace_eq, in_eq, isDay_eq, h1, h2, h3, if_true, hl _ (eF _), Option.bind_some, k0, hpt, if_false]; rfl, hR.found _ _⟩
          · have ht := isTree_yes hk (by rcases hks with t | t | t | t | t | t <;> simp_all)
            exact ⟨-4, (f_X6_finding (-4) S).2, (f_X7_found (-4) (f_X6_finding (-4) S).2).2, by simp only [f_X6_partners, f_X6_isPart, h1, h2, h3, hin, hix, ht, hpc, hpt, if_true, if_false]; rfl, by simp only [f_X7_partners, isPlace_eq, in_eq, isDay_eq, h1, h2, h3, if_true, hl _ (eF _), Option.bind_some, k0, hpt, if_false]; rfl, hR.found _ _⟩
      · exact ⟨-1, (f_X6_finding (-1) S).2, (f_X7_found (-1) (f_X6_finding (-1) S).2).2, by simp only [f_X6_partners, f_X6_isPart, h1, h2, h3, if_true, if_false]; rfl, by simp only [f_X7_partners, isPlace_eq, in_eq, isDay_eq, h1, h2, h3, if_true, if_false]; rfl, hR.found _ _⟩
    · exact ⟨-1, (f_X6_finding (-1) S).2, (f_X7_found (-1) (f_X6_finding (-1) S).2).2, by simp only [f_X6_partners, f_X6_isPart, h1, h2, if_true, if_false]; rfl, by simp only [f_X7_partners, isPlace_eq, in_eq, h1, h2, if_true, if_false]; rfl, hR.found _ _⟩
  · exact ⟨-1, (f_X6_finding (-1) S).2, (f_X7_found (-1) (f_X6_finding (-1) S).2).2, by simp only [f_X6_partners, h1, if_false]; rfl, by simp only [f_X7_partners, isPlace_eq, h1, if_false]; rfl, hR.found _ _⟩
