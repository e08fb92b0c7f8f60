theorem blossomsT {cnt yr : Nat} {S : St} (h : OrA cnt yr (S.1 109)) {s day : Nat} (hs : s < cnt) (hd : day < 50) : f_X7_blossoms (nI s) (nI day) true S = some (blmA (S.1 109) (fun k => 5 + k) s day) := by
  obtain ⟨⟨x, hx, ex⟩, ⟨y, y1, y9, ey⟩, -⟩ := h.2.2.2.2.1 s hs
  have hc := h.1
  have e1 := firstDay_table (S := S) (s := s) (by omega) hx ex
  have e2 : f_X7_sortOf (nI s) 1 S = some (nI y) := by
    have := sortOf_nat (s := s) (k := 1) (by omega) (by decide) S
    rw [show rd S 109 (5 * s + 1) = nI y from ey] at this
    exact this
  unfold blmA
  rw [ex, ey, ix_nI (n := x) (by omega), ix_nI (n := y) (by omega)]
  have hF := (fstD_spec (fun k => 5 + k) x).1
  generalize fstD (fun k => 5 + k) x = F at *
  simp only [f_X7_blossoms, e1, Option.bind_some, e2]
  by_cases l : F < 50
  · rw [if_pos l, nI_add]
    by_cases c : F ≤ day
    · rw [if_neg (nI_nlt c (by omega))]
      by_cases c2 : day < F + y
      · rw [if_pos (nI_lt c2 (by omega))]; simp [c, c2]
      · rw [if_neg (nI_nlt (by omega) (by omega))]; simp [c2]
    · rw [if_pos (nI_lt (by omega) (by omega))]; simp [c]
  · rw [if_neg l]
    have c : nI day < (100 : Int32) := nI_lt (b := 100) (by omega) (by decide)
    rw [if_pos c]
    have : ¬ F ≤ day := by omega
    simp [this]
theorem tabTog_iff (A : Nat → Int32) (s o : Nat) : tabTog A s o = true ↔ ∃ d, d < 50 ∧ blmA A (fun k => 5 + k) s d = true ∧ blmA A (fun k => 5 + k) o d = true := by
  unfold tabTog
  rw [List.any_eq_true]
  constructor
  · rintro ⟨d, hd, hb⟩
    rw [Bool.and_eq_true] at hb
    exact ⟨d, List.mem_range.mp hd, hb.1, hb.2⟩
  · rintro ⟨d, hd, h1, h2⟩
    refine ⟨d, List.mem_range.mpr hd, ?_⟩
    rw [Bool.and_eq_true]
    exact ⟨h1, h2⟩
theorem togetherR {cnt yr : Nat} {S : St} (h : OrA cnt yr (S.1 109)) {s o : Nat} (hs : s < cnt) (ho : o < cnt) : f_X7_together (nI s) (nI o) S = some (tabTog (S.1 109) s o) := by
  have := loop_q (N := 50) (fun n i (u : Unit) => f_X7_together_L2 n (some false) (nI s) (nI o) i S) (fun j _ => ∀ d, d < j → ¬ (blmA (S.1 109) (fun k => 5 + k) s d = true ∧ blmA (S.1 109) (fun k => 5 + k) o d = true)) (fun r => r = some (tabTog (S.1 109) s o)) (fun n j u hj hP => by
    have h1 : (nI j < (50 : Int32)) = True := ltT hj (by decide)
    by_cases c : blmA (S.1 109) (fun k => 5 + k) s j = true ∧ blmA (S.1 109) (fun k => 5 + k) o j = true
    · right
      have : tabTog (S.1 109) s o = true := (tabTog_iff _ _ _).mpr ⟨j, hj, c.1, c.2⟩
      rw [this]
      simp only [f_X7_together_L2, h1, if_true, blossomsT h hs hj, blossomsT h ho hj, Option.bind_some, c.1, c.2]
    · left
      refine ⟨(), fun d hd => ?_, ?_⟩
      · by_cases e : d = j
        · rw [e]; exact c
        · exact hP d (by omega)
      · simp only [f_X7_together_L2, h1, if_true, blossomsT h hs hj, blossomsT h ho hj, Option.bind_some, nI_1]
        by_cases c1 : blmA (S.1 109) (fun k => 5 + k) s j = true
        · have c2 : ¬ blmA (S.1 109) (fun k => 5 + k) o j = true := fun q => c ⟨c1, q⟩
          rw [if_pos c1, if_neg c2]
        · rw [if_neg c1]) (fun n u hP => by
    have h1 : (nI 50 < (50 : Int32)) = False := ltF (N := 50) (by decide) (by decide)
    have : tabTog (S.1 109) s o = false := by
      cases q : tabTog (S.1 109) s o with
      | false => rfl
      | true =>
        obtain ⟨d, hd, q1, q2⟩ := (tabTog_iff _ _ _).mp q
        exact absurd ⟨q1, q2⟩ (hP d hd)
    rw [this]
    simp only [f_X7_together_L2, h1, if_false]) 50 0 6000 () (by omega) (by omega) (fun d hd => absurd hd (by omega))
  rw [nI_0] at this
  exact this
theorem fitsR {cnt yr : Nat} {S : St} (h : OrA cnt yr (S.1 109)) {s o : Nat} (hs : s < cnt) (ho : o < cnt) : f_X7_fits (nI s) (nI o) S = some (layFits (S.1 109) s o) := by
  have hc := h.1
  unfold layFits f_X7_fits
  rw [doesR (by omega) (by omega)]
  simp only [Option.bind_some, togetherR h hs ho]
  show (if doesA (S.1 109) s o = true then _ else _) = some (doesA (S.1 109) s o && _)
  cases doesA (S.1 109) s o with
  | false => rfl
  | true =>
    simp only [if_true, Bool.true_and]
    cases tabTog (S.1 109) s o <;> rfl
theorem togetherC {cnt yr : Nat} {S : St} {A : Nat → Int32} (h : OrA cnt yr A) (hW : SeaC cnt (fun k => 5 + k) A S) {s o : Nat} (hs : s < cnt) (ho : o < cnt) : f_X3_bloomTogether (nI s) (nI o) S = some (tabTog A s o) := by
  obtain ⟨-, ⟨y, y1, y9, ey⟩, -⟩ := h.2.2.2.2.1 s hs
  obtain ⟨-, ⟨z, z1, z9, ez⟩, -⟩ := h.2.2.2.2.1 o ho
  have hc := h.1
  have hin : inb (nI s) 6 = true := inb_nI (by omega) (by decide)
  have hix : ix (nI s) = s := ix_nI (by omega)
  have hin' : inb (nI o) 6 = true := inb_nI (by omega) (by decide)
  have hix' : ix (nI o) = o := ix_nI (by omega)
  obtain ⟨e1, e2⟩ := hW.2.2.2 s hs
  obtain ⟨e3, e4⟩ := hW.2.2.2 o ho
  have hF := (fstD_spec (fun k => 5 + k) (ix (A (5 * s)))).1
  have hG := (fstD_spec (fun k => 5 + k) (ix (A (5 * o)))).1
  have key : tabTog A s o = true ↔ ∃ d, d < 50 ∧ (fstD (fun k => 5 + k) (ix (A (5 * s))) ≤ d ∧ d < fstD (fun k => 5 + k) (ix (A (5 * s))) + y) ∧ (fstD (fun k => 5 + k) (ix (A (5 * o))) ≤ d ∧ d < fstD (fun k => 5 + k) (ix (A (5 * o))) + z) := by
    rw [tabTog_iff]
    unfold blmA
    rw [ey, ez, ix_nI (n := y) (by omega), ix_nI (n := z) (by omega)]
    simp only [decide_eq_true_eq]
  rw [ey, ix_nI (n := y) (by omega)] at e2
  rw [ez, ix_nI (n := z) (by omega)] at e4
  generalize fstD (fun k => 5 + k) (ix (A (5 * s))) = F at *
  generalize fstD (fun k => 5 + k) (ix (A (5 * o))) = G at *
  have e1' : rd S 99 s = nI F := e1
  have e2' : rd S 100 s = nI (F + y - 1) := e2
  have e3' : rd S 99 o = nI G := e3
  have e4' : rd S 100 o = nI (G + z - 1) := e4
  have no : ¬ (∃ d, d < 50 ∧ (F ≤ d ∧ d < F + y) ∧ (G ≤ d ∧ d < G + z)) → tabTog A s o = false := fun q => by
    cases t : tabTog A s o with
    | false => rfl
    | true => exact absurd (key.mp t) q
  simp only [f_X3_bloomTogether, f_X3_hasBloom, hin, hix, hin', hix', if_true, e1', e2', e3', e4']
  by_cases c1 : F < 50
  · have c1' : nI F < (50 : Int32) := nI_lt (b := 50) c1 (by decide)
    rw [if_pos c1']
    by_cases c2 : G < 50
    · have c2' : nI G < (50 : Int32) := nI_lt (b := 50) c2 (by decide)
      rw [if_pos c2']
      simp only [Option.bind_some, if_true]
      by_cases c3 : G + z - 1 < F
      · rw [if_pos (nI_lt c3 (by omega)), no (fun ⟨d, q1, q2, q3⟩ => by omega)]
      · rw [if_neg (nI_nlt (by omega) (by omega))]
        by_cases c4 : F + y - 1 < G
        · rw [if_pos (nI_lt c4 (by omega)), no (fun ⟨d, q1, q2, q3⟩ => by omega)]
        · rw [if_neg (nI_nlt (by omega) (by omega)), key.mpr ⟨max F G, by omega, by omega, by omega⟩]
    · have c2' : ¬ nI G < (50 : Int32) := nI_nlt (b := 50) (by omega) (by omega)
      rw [if_neg c2', no (fun ⟨d, q1, q2, q3⟩ => by omega)]; rfl
  · have c1' : ¬ nI F < (50 : Int32) := nI_nlt (b := 50) (by omega) (by omega)
    rw [if_neg c1', no (fun ⟨d, q1, q2, q3⟩ => by omega)]; rfl
/-- part k and part m could serve one another -/
def lnK (A : Nat → Int32) (k m : Nat) : Bool := ptA A k && (ptA A m && (layNear A (k / 2) (m / 2) && layFits A (srtA A k) (srtA A m)))
theorem ifs_and {a b : Bool} {α : Type} {x y : α} : (if a = true then (if b = true then x else y) else y) = if (a && b) = true then x else y := by
  cases a <;> cases b <;> rfl
theorem lone45R {cnt yr : Nat} {S : St} (h : OrA cnt yr (S.1 109)) {p k : Nat} (hk : k < 24) (hkp : k / 2 = p) (K : Int32 → Int32 → St → Option (Int32 × St)) : ((∃ m, m < 24 ∧ lnK (S.1 109) k m = true) → f_X7_lone_L45 6000 K (nI p) (nI k) 0 S = some (0, S)) ∧ ((¬ ∃ m, m < 24 ∧ lnK (S.1 109) k m = true) → f_X7_lone_L45 6000 K (nI p) (nI k) 0 S = K (nI p) (nI k) S) := by
  have hp : p < 12 := by omega
  have hc := h.1
  by_cases hptk : ptA (S.1 109) k = true
  · have hsk := (h.srtK hk hptk).1
    have step : ∀ n m, m < 24 → f_X7_lone_L45 (n + 1) K (nI p) (nI k) (nI m) S = if lnK (S.1 109) k m = true then some (0, S) else f_X7_lone_L45 n K (nI p) (nI k) (nI (m + 1)) S := by
      intro n m hm
      have h1 : (nI m < (24 : Int32)) = True := ltT hm (by decide)
      unfold lnK
      simp only [f_X7_lone_L45, h1, if_true, partR h hk, partR h hm, Option.bind_some, hptk, halfK m hm, nI_1, Bool.true_and]
      cases hptm : ptA (S.1 109) m with
      | false => simp only [Bool.false_eq_true, if_false, Bool.false_and]
      | true =>
        have hsm := (h.srtK hm hptm).1
        simp only [if_true, Bool.true_and, sortPartR h hk hptk, sortPartR h hm hptm, Option.bind_some, fitsR h hsk hsm, nearR h hp (khalf_lt hm)]
        rw [hkp]
        by_cases e : nI (m / 2) = nI p
        · rw [if_pos e]
          have e' : m / 2 = p := (nI_eq (by omega) (by omega)).mp e
          rw [e', layNear_self, Bool.true_and]
        · rw [if_neg e, ifs_and]
    have go := loop_q (N := 24) (fun n i (u : Unit) => f_X7_lone_L45 n K (nI p) (nI k) i S) (fun j _ => ∀ m, m < j → ¬ lnK (S.1 109) k m = true) (fun r => ((∃ m, m < 24 ∧ lnK (S.1 109) k m = true) → r = some (0, S)) ∧ ((¬ ∃ m, m < 24 ∧ lnK (S.1 109) k m = true) → r = K (nI p) (nI k) S)) (fun n j u hj hP => by
      by_cases c : lnK (S.1 109) k j = true
      · right
        rw [step n j hj, if_pos c]
        exact ⟨fun _ => rfl, fun q => absurd ⟨j, hj, c⟩ q⟩
      · left
        refine ⟨(), fun m hm => ?_, by rw [step n j hj, if_neg c]⟩
        by_cases e : m = j
        · rw [e]; exact c
        · exact hP m (by omega)) (fun n u hP => by
      have h1 : (nI 24 < (24 : Int32)) = False := ltF (N := 24) (by decide) (by decide)
      refine ⟨fun ⟨m, hm, q⟩ => absurd q (hP m hm), fun _ => ?_⟩
      simp only [f_X7_lone_L45, h1, if_false]) 24 0 6000 () (by omega) (by omega) (fun d hd => absurd hd (by omega))
    rw [nI_0] at go
    exact go
  · refine ⟨fun ⟨m, hm, q⟩ => ?_, fun _ => ?_⟩
    · unfold lnK at q
      simp only [Bool.and_eq_true] at q
      exact absurd q.1 hptk
    · have one : ∀ n, f_X7_lone_L45 (n + 1) K (nI p) (nI k) 0 S = K (nI p) (nI k) S := fun n => by
        have h1 : ((0 : Int32) < (24 : Int32)) = True := by decide
        simp only [f_X7_lone_L45, h1, if_true, partR h hk, Option.bind_some, hptk, if_false, Bool.false_eq_true]
      exact one 5999
theorem loneR {cnt yr : Nat} {S : St} (h : OrA cnt yr (S.1 109)) {p : Nat} (hp : p < 12) : ((∃ q m, q < 2 ∧ m < 24 ∧ lnK (S.1 109) (2 * p + q) m = true) → f_X7_lone_L33 6000 (fun T124 => (some ((1 : Int32), T124))) (nI p) (2 * nI p) S = some (0, S)) ∧ ((¬ ∃ q m, q < 2 ∧ m < 24 ∧ lnK (S.1 109) (2 * p + q) m = true) → f_X7_lone_L33 6000 (fun T124 => (some ((1 : Int32), T124))) (nI p) (2 * nI p) S = some (1, S)) := by
  have step : ∀ n q, q < 2 → f_X7_lone_L33 (n + 1) (fun T124 => (some ((1 : Int32), T124))) (nI p) (nI (2 * p + q)) S = f_X7_lone_L45 6000 (fun e118_1 e118_3 T118 => (f_X7_lone_L33 n (fun T124 => (some ((1 : Int32), T124))) e118_1 (e118_3 + (1 : Int32)) T118)) (nI p) (nI (2 * p + q)) 0 S := by
    intro n q hq
    have c : (nI (2 * p + q) < 2 * nI p + 2) = True := by
      rw [show (2 : Int32) * nI p + 2 = nI (2 * p + 2) from part_nat (q := 2)]
      exact ltT (by omega) (by omega)
    simp only [f_X7_lone_L33, c, if_true]
  have last : ∀ n, f_X7_lone_L33 (n + 1) (fun T124 => (some ((1 : Int32), T124))) (nI p) (nI (2 * p + 2)) S = some (1, S) := by
    intro n
    have c : (nI (2 * p + 2) < 2 * nI p + 2) = False := by
      rw [show (2 : Int32) * nI p + 2 = nI (2 * p + 2) from part_nat (q := 2)]
      exact ltF (Nat.le_refl _) (by omega)
    simp only [f_X7_lone_L33, c, if_false]
  have e0 : (2 : Int32) * nI p = nI (2 * p + 0) := by rw [show (2 : Int32) = nI 2 from rfl, pk_mul]; rfl
  rw [e0, show (6000 : Nat) = 5997 + 1 + 1 + 1 from rfl, step _ 0 (by decide)]
  obtain ⟨a1, a2⟩ := lone45R h (p := p) (k := 2 * p + 0) (by omega) (by omega) (fun e118_1 e118_3 T118 => (f_X7_lone_L33 (5997 + 1 + 1) (fun T124 => (some ((1 : Int32), T124))) e118_1 (e118_3 + (1 : Int32)) T118))
  by_cases c0 : ∃ m, m < 24 ∧ lnK (S.1 109) (2 * p + 0) m = true
  · have hE : ∃ q m, q < 2 ∧ m < 24 ∧ lnK (S.1 109) (2 * p + q) m = true := by
      obtain ⟨m, hm, q⟩ := c0; exact ⟨0, m, by decide, hm, q⟩
    exact ⟨fun _ => a1 c0, fun q => absurd hE q⟩
  · rw [a2 c0]
    simp only [nI_1]
    rw [show 2 * p + 0 + 1 = 2 * p + 1 from rfl, step _ 1 (by decide)]
    obtain ⟨b1, b2⟩ := lone45R h (p := p) (k := 2 * p + 1) (by omega) (by omega) (fun e118_1 e118_3 T118 => (f_X7_lone_L33 (5997 + 1) (fun T124 => (some ((1 : Int32), T124))) e118_1 (e118_3 + (1 : Int32)) T118))
    by_cases c1 : ∃ m, m < 24 ∧ lnK (S.1 109) (2 * p + 1) m = true
    · have hE : ∃ q m, q < 2 ∧ m < 24 ∧ lnK (S.1 109) (2 * p + q) m = true := by
        obtain ⟨m, hm, q⟩ := c1; exact ⟨1, m, by decide, hm, q⟩
      exact ⟨fun _ => b1 c1, fun q => absurd hE q⟩
    · rw [b2 c1]
      simp only [nI_1]
      rw [show 2 * p + 1 + 1 = 2 * p + 2 from rfl, last]
      refine ⟨fun ⟨q, m, hq, hm, hh⟩ => ?_, fun _ => rfl⟩
      have : q = 0 ∨ q = 1 := by omega
      rcases this with rfl | rfl
      · exact absurd ⟨m, hm, hh⟩ c0
      · exact absurd ⟨m, hm, hh⟩ c1
theorem anyPartC {cnt yr : Nat} {S : St} {A : Nat → Int32} (h : OrA cnt yr A) (hC : OrC cnt S A) (hW : SeaC cnt (fun k => 5 + k) A S) {s m : Nat} (hs : s < cnt) (hm : m < 12) : f_X0_fitsAnyPart (nI s) (20 + 2 * m) S = some ((isPt (A (66 + 11 * m + 2)) 0 && layFits A s (srtA A (2 * m + 0))) || (isPt (A (66 + 11 * m + 2)) 1 && layFits A s (srtA A (2 * m + 1)))) := by
  have hc := h.1
  have hin : inb (nI s) 6 = true := inb_nI (by omega) (by decide)
  have hix : ix (nI s) = s := ix_nI (by omega)
  have turn : ∀ n r, r < 2 → isPt (A (66 + 11 * m + 2)) r = true → f_X0_fitsAnyPart_L3 (n + 1) (some false) (nI s) (20 + 2 * m) (nI r) S = if layFits A s (srtA A (2 * m + r)) = true then some true else f_X0_fitsAnyPart_L3 n (some false) (nI s) (20 + 2 * m) (nI (r + 1)) S := by
    intro n r hr hpr
    have hsr := (h.srt hm hr hpr).1
    have e1 : (nI r < f_X2_partCount (20 + 2 * m) S) = True := by rw [pcC h hC hm hr, hpr]; simp
    simp only [f_X0_fitsAnyPart_L3, e1, if_true, hin, hix, sortOfC h hC hm hr hpr, acceptsC hC hs (show srtA A (2 * m + r) < 6 by omega), togetherC h hW hs hsr, Option.bind_some, nI_1]
    show _ = if (doesA A s (srtA A (2 * m + r)) && tabTog A s (srtA A (2 * m + r))) = true then _ else _
    cases doesA A s (srtA A (2 * m + r)) <;> cases tabTog A s (srtA A (2 * m + r)) <;> rfl
  have stop : ∀ n r, r < 2 → isPt (A (66 + 11 * m + 2)) r = false → f_X0_fitsAnyPart_L3 (n + 1) (some false) (nI s) (20 + 2 * m) (nI r) S = some false := by
    intro n r hr hpr
    have e1 : (nI r < f_X2_partCount (20 + 2 * m) S) = False := by rw [pcC h hC hm hr, hpr]; simp
    simp only [f_X0_fitsAnyPart_L3, e1, if_false]
  have last : ∀ n, f_X0_fitsAnyPart_L3 (n + 1) (some false) (nI s) (20 + 2 * m) (nI 2) S = some false := by
    intro n
    simp only [f_X0_fitsAnyPart_L3, pc2C h hC hm, if_false]
  unfold f_X0_fitsAnyPart
  rw [show (6000 : Nat) = 5997 + 1 + 1 + 1 from rfl, show (0 : Int32) = nI 0 from rfl]
  cases p0 : isPt (A (66 + 11 * m + 2)) 0 with
  | false =>
    have p1 : isPt (A (66 + 11 * m + 2)) 1 = false := by
      cases q1 : isPt (A (66 + 11 * m + 2)) 1 with
      | false => rfl
      | true => rw [isPt_0 (isPt_tree q1 (by decide))] at p0; cases p0
    rw [stop _ 0 (by decide) p0, p1]; rfl
  | true =>
    rw [turn _ 0 (by decide) p0]
    cases layFits A s (srtA A (2 * m + 0)) with
    | true => rfl
    | false =>
      rw [if_neg (by decide), show (0 + 1 : Nat) = 1 from rfl]
      cases p1 : isPt (A (66 + 11 * m + 2)) 1 with
      | false => rw [stop _ 1 (by decide) p1]; rfl
      | true =>
        rw [turn _ 1 (by decide) p1, show (1 + 1 : Nat) = 2 from rfl, last]
        cases layFits A s (srtA A (2 * m + 1)) <;> rfl
theorem loneC {cnt yr : Nat} {S : St} {A : Nat → Int32} (h : OrA cnt yr A) (hC : OrC cnt S A) (hW : SeaC cnt (fun k => 5 + k) A S) {p : Nat} (hp : p < 12) (ht : isPt (A (66 + 11 * p + 2)) 0 = true) : ((∃ q m, q < 2 ∧ m < 24 ∧ lnK A (2 * p + q) m = true) → f_X0_couldHavePartner (nI p) S = some true) ∧ ((¬ ∃ q m, q < 2 ∧ m < 24 ∧ lnK A (2 * p + q) m = true) → f_X0_couldHavePartner (nI p) S = some false) := by
  have hin : inb (nI p) 12 = true := inb_nI hp (by decide)
  have hix : ix (nI p) = p := ix_nI (by omega)
  have inner : ∀ (K : Int32 → Nat → Int32 → Option Bool) (q : Nat), q < 2 → isPt (A (66 + 11 * p + 2)) q = true → ((∃ m, m < 24 ∧ lnK A (2 * p + q) m = true) → f_X0_couldHavePartner_L22 6000 K (nI p) (20 + 2 * p) (nI q) 0 S = some true) ∧ ((¬ ∃ m, m < 24 ∧ lnK A (2 * p + q) m = true) → f_X0_couldHavePartner_L22 6000 K (nI p) (20 + 2 * p) (nI q) 0 S = K (nI p) (20 + 2 * p) (nI q)) := by
    intro K q hq hpq
    have hsq := (h.srt hp hq hpq).1
    have ln : ∀ m r, m < 12 → r < 2 → lnK A (2 * p + q) (2 * m + r) = (isPt (A (66 + 11 * m + 2)) r && (layNear A p m && layFits A (srtA A (2 * p + q)) (srtA A (2 * m + r)))) := fun m r hm hr => by
      unfold lnK
      rw [ptA_at hq, hpq, ptA_at hr, show (2 * p + q) / 2 = p from by omega, show (2 * m + r) / 2 = m from by omega, Bool.true_and]
    have step : ∀ n m, m < 12 → f_X0_couldHavePartner_L22 (n + 1) K (nI p) (20 + 2 * p) (nI q) (nI m) S = if (lnK A (2 * p + q) (2 * m + 0) || lnK A (2 * p + q) (2 * m + 1)) = true then some true else f_X0_couldHavePartner_L22 n K (nI p) (20 + 2 * p) (nI q) (nI (m + 1)) S := by
      intro n m hm
      have h1 : (nI m < (12 : Int32)) = True := ltT hm (by decide)
      have hinm : inb (nI m) 12 = true := inb_nI hm (by decide)
      have hixm : ix (nI m) = m := ix_nI (by omega)
      rw [ln m 0 hm (by decide), ln m 1 hm (by decide)]
      simp only [f_X0_couldHavePartner_L22, h1, if_true, nearC h hC hp hm, Option.bind_some, hinm, hixm, sortOfC h hC hp hq hpq, anyPartC h hC hW hsq hm, nI_1]
      cases layNear A p m with
      | false => simp only [Bool.false_eq_true, if_false, Bool.false_and, Bool.and_false, Bool.or_false]
      | true => simp only [if_true, Bool.true_and]
    have go := loop_q (N := 12) (fun n i (u : Unit) => f_X0_couldHavePartner_L22 n K (nI p) (20 + 2 * p) (nI q) i S) (fun j _ => ∀ m, m < 2 * j → ¬ lnK A (2 * p + q) m = true) (fun r => ((∃ m, m < 24 ∧ lnK A (2 * p + q) m = true) → r = some true) ∧ ((¬ ∃ m, m < 24 ∧ lnK A (2 * p + q) m = true) → r = K (nI p) (20 + 2 * p) (nI q))) (fun n j u hj hP => by
      by_cases c : (lnK A (2 * p + q) (2 * j + 0) || lnK A (2 * p + q) (2 * j + 1)) = true
      · right
        rw [step n j hj, if_pos c]
        refine ⟨fun _ => rfl, fun hno => ?_⟩
        rw [Bool.or_eq_true] at c
        rcases c with c | c
        · exact absurd ⟨_, by omega, c⟩ hno
        · exact absurd ⟨_, by omega, c⟩ hno
      · left
        refine ⟨(), fun m hm => ?_, by rw [step n j hj, if_neg c]⟩
        rw [Bool.or_eq_true, not_or] at c
        by_cases e : m = 2 * j
        · rw [e]; exact c.1
        · by_cases e' : m = 2 * j + 1
          · rw [e']; exact c.2
          · exact hP m (by omega)) (fun n u hP => by
      have h1 : (nI 12 < (12 : Int32)) = False := ltF (N := 12) (by decide) (by decide)
      refine ⟨fun ⟨m, hm, hh⟩ => absurd hh (hP m (by omega)), fun _ => ?_⟩
      simp only [f_X0_couldHavePartner_L22, h1, if_false]) 12 0 6000 () (by omega) (by omega) (fun d hd => absurd hd (by omega))
    rw [nI_0] at go
    exact go
  have step : ∀ n q, q < 2 → isPt (A (66 + 11 * p + 2)) q = true → f_X0_couldHavePartner_L10 (n + 1) (some false) (nI p) (20 + 2 * p) (nI q) S = f_X0_couldHavePartner_L22 6000 (fun e68_2 e68_3 e68_4 => (f_X0_couldHavePartner_L10 n (some false) e68_2 e68_3 (e68_4 + (1 : Int32)) S)) (nI p) (20 + 2 * p) (nI q) (0 : Int32) S := by
    intro n q hq hpq
    have e1 : (nI q < f_X2_partCount (20 + 2 * p) S) = True := by rw [pcC h hC hp hq, hpq]; simp
    simp only [f_X0_couldHavePartner_L10, e1, if_true]
  have stop : ∀ n, isPt (A (66 + 11 * p + 2)) 1 = false → f_X0_couldHavePartner_L10 (n + 1) (some false) (nI p) (20 + 2 * p) (nI 1) S = some false := by
    intro n hpr
    have e1 : (nI 1 < f_X2_partCount (20 + 2 * p) S) = False := by rw [pcC h hC hp (by decide), hpr]; simp
    simp only [f_X0_couldHavePartner_L10, e1, if_false]
  have last : ∀ n, f_X0_couldHavePartner_L10 (n + 1) (some false) (nI p) (20 + 2 * p) (nI 2) S = some false := by
    intro n
    simp only [f_X0_couldHavePartner_L10, pc2C h hC hp, if_false]
  simp only [f_X0_couldHavePartner, hin, hix, if_true]
  rw [show (6000 : Nat) = 5997 + 1 + 1 + 1 from rfl, show (0 : Int32) = nI 0 from rfl, step _ 0 (by decide) ht]
  obtain ⟨a1, a2⟩ := inner (fun e68_2 e68_3 e68_4 => (f_X0_couldHavePartner_L10 (5997 + 1 + 1) (some false) e68_2 e68_3 (e68_4 + (1 : Int32)) S)) 0 (by decide) ht
  by_cases c0 : ∃ m, m < 24 ∧ lnK A (2 * p + 0) m = true
  · have hE : ∃ q m, q < 2 ∧ m < 24 ∧ lnK A (2 * p + q) m = true := by
      obtain ⟨m, hm, q⟩ := c0; exact ⟨0, m, by decide, hm, q⟩
    exact ⟨fun _ => a1 c0, fun q => absurd hE q⟩
  · rw [a2 c0]
    simp only [nI_1]
    rw [show (0 + 1 : Nat) = 1 from rfl]
    cases p1 : isPt (A (66 + 11 * p + 2)) 1 with
    | false =>
      rw [stop _ p1]
      refine ⟨fun ⟨q, m, hq, hm, hh⟩ => ?_, fun _ => rfl⟩
      have : q = 0 ∨ q = 1 := by omega
      rcases this with rfl | rfl
      · exact absurd ⟨m, hm, hh⟩ c0
      · unfold lnK at hh
        rw [ptA_at (by decide), p1] at hh
        cases hh
    | true =>
      rw [step _ 1 (by decide) p1]
      obtain ⟨b1, b2⟩ := inner (fun e68_2 e68_3 e68_4 => (f_X0_couldHavePartner_L10 (5997 + 1) (some false) e68_2 e68_3 (e68_4 + (1 : Int32)) S)) 1 (by decide) p1
      by_cases c1 : ∃ m, m < 24 ∧ lnK A (2 * p + 1) m = true
      · have hE : ∃ q m, q < 2 ∧ m < 24 ∧ lnK A (2 * p + q) m = true := by
          obtain ⟨m, hm, q⟩ := c1; exact ⟨1, m, by decide, hm, q⟩
        exact ⟨fun _ => b1 c1, fun q => absurd hE q⟩
      · rw [b2 c1]
        simp only [nI_1]
        rw [show (1 + 1 : Nat) = 2 from rfl, last]
        refine ⟨fun ⟨q, m, hq, hm, hh⟩ => ?_, fun _ => rfl⟩
        have : q = 0 ∨ q = 1 := by omega
        rcases this with rfl | rfl
        · exact absurd ⟨m, hm, hh⟩ c0
        · exact absurd ⟨m, hm, hh⟩ c1
theorem sm_lone (x : Int32) : Sm Rel (f_X6_lone x) (f_X7_lone x) := by
  intro B S hB hR
  by_cases h1 : f_X6_isPlace x = true
  · obtain ⟨p, hp, rfl⟩ := place_nat h1
    obtain ⟨cnt, yr, dn, g1, g2, g34, g5, g6, g7⟩ := id hR
    have hA := g2.orA (by omega)
    have hC := g2.orC
    have hk : rd S (20 + 2 * p) 2 = rd S 109 (66 + 11 * p + 2) := (hC.2.2.2.2 p hp).2.2.1
    have hks : rd S 109 (66 + 11 * p + 2) = 0 ∨ rd S 109 (66 + 11 * p + 2) = 1 ∨ rd S 109 (66 + 11 * p + 2) = 2 ∨ rd S 109 (66 + 11 * p + 2) = 3 ∨ rd S 109 (66 + 11 * p + 2) = 4 ∨ rd S 109 (66 + 11 * p + 2) = 5 := hA.kinds hp
    have hin : inb (nI p) 12 = true := inb_nI hp (by decide)
    have hix : ix (nI p) = p := ix_nI (by omega)
    by_cases kt : rd S 109 (66 + 11 * p + 2) = 0 ∨ rd S 109 (66 + 11 * p + 2) = 5
    · have ht := isTree_no hk kt
      have eF : ∀ c, rd (f_X6_finding c S).2 109 (66 + 11 * p + 2) = rd S 109 (66 + 11 * p + 2) := fun c => fnd_rd c S (by decide)
      rcases kt with k0 | k5
      · have hw : f_X2_whyNoTree (20 + 2 * p) S = -6 := by unfold f_X2_whyNoTree; rw [hk, if_pos k0]
        exact ⟨-6, (f_X6_finding (-6) S).2, (f_X7_found (-6) (f_X6_finding (-6) S).2).2, by simp only [f_X6_lone, h1, hin, hix, ht, hw, if_true, if_false, Bool.false_eq_true]; rfl, by simp only [f_X7_lone, isPlace_eq, h1, if_true, lacks_nat hp, eF, k0, Option.bind_some]; rfl, hR.found _ _⟩
      · have hw : f_X2_whyNoTree (20 + 2 * p) S = -4 := by unfold f_X2_whyNoTree; rw [hk, k5]; rfl
        exact ⟨-4, (f_X6_finding (-4) S).2, (f_X7_found (-4) (f_X6_finding (-4) S).2).2, by simp only [f_X6_lone, h1, hin, hix, ht, hw, if_true, if_false, Bool.false_eq_true]; rfl, by simp only [f_X7_lone, isPlace_eq, h1, if_true, lacks_nat hp, eF, k5, Option.bind_some]; rfl, hR.found _ _⟩
    · have k0 : ¬ rd S 109 (66 + 11 * p + 2) = 0 := fun q => kt (Or.inl q)
      have k5 : ¬ rd S 109 (66 + 11 * p + 2) = 5 := fun q => kt (Or.inr q)
      have htr : rd S 109 (66 + 11 * p + 2) = 1 ∨ rd S 109 (66 + 11 * p + 2) = 2 ∨ rd S 109 (66 + 11 * p + 2) = 3 ∨ rd S 109 (66 + 11 * p + 2) = 4 := by rcases hks with t | t | t | t | t | t <;> simp_all
      have ht := isTree_yes hk htr
      obtain ⟨S', e, hs⟩ := readTable_run g2.srtN
      have h109 : S'.1 109 = S.1 109 := hs.1 109 (by omega)
      have hA' : OrA cnt yr (S'.1 109) := by rw [h109]; exact hA
      have hC' : OrC cnt S' (S.1 109) := hC.cong hA.1 (fun k _ => by rw [hs.1 1 (by omega)]) (fun s k _ _ => by rw [hs.1 _ (by omega)]) (fun p k _ _ => by rw [hs.1 _ (by omega)])
      have e6 := loneC hA hC' (hs.c (fun d hd => by show 5 + d ≤ 60; omega)) hp (isPt_0 htr)
      have e7 := loneR hA' hp
      rw [h109] at e7
      have eK : rd S' 109 (66 + 11 * p + 2) = rd S 109 (66 + 11 * p + 2) := by show S'.1 109 _ = _; rw [h109]; rfl
      by_cases hE : ∃ q m, q < 2 ∧ m < 24 ∧ lnK (S.1 109) (2 * p + q) m = true
      · have e7 := e7.1 hE
        have e6 := e6.1 hE
        exact ⟨0, S', S', by simp only [f_X6_lone, h1, hin, hix, ht, if_true, e, e6, Option.bind_some], by simp only [f_X7_lone, isPlace_eq, h1, if_true, lacks_nat hp, eK, k0, k5, if_false, lt00, Option.bind_some, e7], (hR.season hs).mono⟩
      · have e7 := e7.2 hE
        have e6 := e6.2 hE
        exact ⟨1, S', S', by simp only [f_X6_lone, h1, hin, hix, ht, if_true, e, e6, Option.bind_some, Bool.false_eq_true, if_false], by simp only [f_X7_lone, isPlace_eq, h1, if_true, lacks_nat hp, eK, k0, k5, if_false, lt00, Option.bind_some, e7], (hR.season hs).mono⟩
  · exact ⟨-1, (f_X6_finding (-1) S).2, (f_X7_found (-1) (f_X6_finding (-1) S).2).2, by simp only [f_X6_lone, h1, if_false]; rfl, by simp only [f_X7_lone, isPlace_eq, h1, if_false]; rfl, hR.found _ _⟩
