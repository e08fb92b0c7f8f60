-- THE WORLD: cells in the order in which they are made: cell i lies at h0 + i
abbrev Kd : Type := (Nat × List Bool) ⊕ (Nat × Nat)
abbrev St : Type := (Nat → Nat → Int32) × (Nat → Nat → Int64)
abbrev Rf : Type := Nat → Nat → Option Nat
abbrev Wd : Type := va_G × Nat × (Nat → ClassId)
abbrev MI : Type := MethodName × ByteArray × Nat × Option FieldType × Room
abbrev WP : Type := Nat × Rf × St × Nat × Nat
def up1 {α : Type} (f : Nat → α) (k : Nat) (v : α) : Nat → α := fun j => if j = k then v else f j
def up2 {α : Type} (f : Nat → Nat → α) (i k : Nat) (v : α) : Nat → Nat → α := fun i' => if i' = i then (fun k' => if k' = k then v else f i k') else f i'
def upA {α : Type} (f : Nat → Nat → α) (i : Nat) (g : Nat → α) : Nat → Nat → α := fun i' => if i' = i then g else f i'
def rd (S : St) (i k : Nat) : Int32 := S.1 i k
def rdL (S : St) (i k : Nat) : Int64 := S.2 i k
def wr (S : St) (i k : Nat) (v : Int32) : St := (up2 S.1 i k v, S.2)
def wrL (S : St) (i k : Nat) (v : Int64) : St := (S.1, up2 S.2 i k v)
def cpI (S : St) (i j sp dp n : Nat) : St := (upA S.1 j (va_cpy (S.1 i) (S.1 j) sp dp n), S.2)
def cpL (S : St) (i j sp dp n : Nat) : St := (S.1, upA S.2 j (va_cpy (S.2 i) (S.2 j) sp dp n))
def ix (i : Int32) : Nat := i.toNatClampNeg
def inb (i : Int32) (n : Nat) : Bool := decide (0 ≤ i) && decide (i.toNatClampNeg < n)
theorem inb_in {i : Int32} {n : Nat} (h : inb i n = true) : vp_in i n := by
  simp only [inb, Bool.and_eq_true, decide_eq_true_eq] at h
  intro q
  rcases q with q | q
  · exact absurd q (Int32.not_lt.mpr h.1)
  · omega
theorem inb_lt {i : Int32} {n : Nat} (h : inb i n = true) : ix i < n := by
  simp only [inb, Bool.and_eq_true, decide_eq_true_eq] at h
  exact h.2
-- the kinds of the cells, by number
def kF (n : Nat) : List Bool := List.replicate n false
abbrev KdBook : Kd := .inl (0, [true, false, true, false, false, false, true, true, true, false, false, false, true])
abbrev KdLaying : Kd := .inl (1, [false, false, false, false, true, true, true, true, true, true])
abbrev KdPlace : Kd := .inl (2, [false, false, false, false, false, false, false, false, false, false, true])
abbrev KdSeason : Kd := .inl (3, [true, true, true, true])
abbrev KdSheet : Kd := .inl (4, [false, false, true])
abbrev KdSort : Kd := .inl (5, [false, false, false, false, false, false, false, true])
abbrev KdFace : Kd := .inl (6, [true, true, false, true, true, true, false])
abbrev KdModel : Kd := .inl (7, [true, true, true, true, false, true, true, true, true, false, false, true, true, true, true, true, true, true, true])
abbrev Kints (n : Nat) : Kd := .inr (0, n)
abbrev Kbools (n : Nat) : Kd := .inr (1, n)
abbrev Klongs (n : Nat) : Kd := .inr (2, n)
def kdBook (i : Nat) : Kd := if i = 0 then KdBook else if i = 1 then .inr (3, 6) else if i = 2 then .inr (4, 12) else if i < 6 then Kints 50 else if i = 6 then Klongs 10 else if i < 19 then (if i % 2 = 1 then KdSort else Kints 60) else (if i % 2 = 1 then KdPlace else Kints 2)
def kdTail (i : Nat) : Kd := match i with
  | 0 => .inr (5, 4)
  | 1 => KdSheet | 2 => Kints 50 | 3 => KdSheet | 4 => Kints 50 | 5 => KdSheet | 6 => Kints 50 | 7 => KdSheet | 8 => Kints 50
  | 9 => KdSeason | 10 => Kints 50 | 11 => Kints 51 | 12 => Kints 6 | 13 => Kints 6
  | 14 => KdLaying | 15 => Kints 12 | 16 => Kints 12 | 17 => Kints 12 | 18 => Kints 12 | 19 => Kints 13 | 20 => Kints 36
  | 21 => KdModel | 22 => Kints 788 | 23 => Kints 788 | 24 => Klongs 10 | 25 => Klongs 10 | 26 => Kints 4 | 27 => Kints 4 | 28 => Kints 200 | 29 => Kints 12 | 30 => Kints 50
  | 31 => Kints 24 | 32 => Kints 24 | 33 => Kbools 24 | 34 => Kints 12 | 35 => Kints 12 | 36 => Kbools 36 | 37 => Kbools 144
  | _ => Kints 0
def kd (i : Nat) : Kd := if i = 0 then KdFace else if i < 44 then kdBook (i - 1) else if i < 87 then kdBook (i - 44) else kdTail (i - 87)
-- the references, once all is made
def rkO (ci a k : Nat) : Option Nat := match ci with
  | 0 => (match k with | 0 => some (a + 1) | 2 => some (a + 2) | 6 => some (a + 3) | 7 => some (a + 4) | 8 => some (a + 5) | 12 => some (a + 6) | _ => none)
  | 1 => some (a + (k - 3))
  | 2 => some (a + 1)
  | 3 => some (a + (k + 1))
  | 4 => some (a + 1)
  | 5 => some (a + 1)
  | 6 => (match k with | 0 => some 1 | 1 => some 44 | 3 => some 87 | 4 => some 96 | 5 => some 101 | _ => none)
  | _ => (match k with | 0 => some (a + 1) | 1 => some (a + 2) | 2 => some (a + 3) | 3 => some (a + 4) | 5 => some (a + 5) | 6 => some (a + 6) | 7 => some (a + 7) | 8 => some (a + 8) | 11 => some (a + 9) | 12 => some (a + 10) | 13 => some (a + 11) | 14 => some (a + 12) | 15 => some (a + 13) | 16 => some (a + 14) | 17 => some (a + 15) | 18 => some (a + 16) | _ => none)
def rkA (t a k : Nat) : Option Nat := match t with
  | 3 => some (a + 6 + 2 * k)
  | 4 => some (a + 17 + 2 * k)
  | _ => some (a + 1 + 2 * k)
def rho (a k : Nat) : Option Nat := match kd a with
  | .inl c => rkO c.1 a k
  | .inr c => rkA c.1 a k
abbrev NN : Nat := 125
-- a cell as the heap has it
def fv (w : Wd) (S : St) (ρ : Rf) (i k : Nat) (b : Bool) : Value := if b then va_rf ((ρ i k).map (fun j => w.2.1 + j)) else .int (S.1 i k)
def flds (w : Wd) (S : St) (ρ : Rf) (i : Nat) (fl : List Bool) : List Value := fl.mapIdx (fun k b => fv w S ρ i k b)
def arc (w : Wd) (S : St) (ρ : Rf) (i t n : Nat) : vp_A := match t with
  | 0 => (n, .inl (S.1 i))
  | 1 => (n, .inl (S.1 i))
  | 2 => (n, .inr (.inl (S.2 i)))
  | _ => (n, .inr (.inr (.inr (.inr (fun j => (ρ i j).map (fun q => w.2.1 + q))))))
def cel (w : Wd) (S : St) (ρ : Rf) (i : Nat) : va_E := match kd i with
  | .inl c => .inr (c.1, flds w S ρ i c.2)
  | .inr c => .inl (w.2.2 c.1, arc w S ρ i c.1 c.2)
def wls (w : Wd) (n : Nat) (S : St) (ρ : Rf) : va_W := (List.range n).map (fun i => (w.2.1 + i, cel w S ρ i))
theorem wls_at {w : Wd} {n : Nat} {S : St} {ρ : Rf} {i : Nat} (h : i < n) : (wls w n S ρ)[i]? = some (w.2.1 + i, cel w S ρ i) := by
  simp [wls, h]
theorem wls_lt {w : Wd} {n : Nat} {S : St} {ρ : Rf} {i : Nat} {q : Nat × va_E} (h : (wls w n S ρ)[i]? = some q) : i < n ∧ q = (w.2.1 + i, cel w S ρ i) := by
  have hl : i < n := by
    have := (List.getElem?_eq_some_iff.mp h).1
    simpa [wls] using this
  refine ⟨hl, ?_⟩
  rw [wls_at hl] at h
  exact (Option.some.inj h).symm
theorem cel_o {w : Wd} {S : St} {ρ : Rf} {i ci : Nat} {fl : List Bool} (h : kd i = .inl (ci, fl)) : cel w S ρ i = .inr (ci, flds w S ρ i fl) := by
  simp [cel, h]
theorem cel_a {w : Wd} {S : St} {ρ : Rf} {i t n : Nat} (h : kd i = .inr (t, n)) : cel w S ρ i = .inl (w.2.2 t, arc w S ρ i t n) := by
  simp [cel, h]
abbrev Ad (w : Wd) : Nat → Prop := fun q => w.2.1 ≤ q
theorem wls_D {w : Wd} {n : Nat} {S : St} {ρ : Rf} : va_D (Ad w) (wls w n S ρ) := by
  refine ⟨fun i j p q hi hj hpq => ?_, fun k q hk => ?_⟩
  · obtain ⟨-, rfl⟩ := wls_lt hi
    obtain ⟨-, rfl⟩ := wls_lt hj
    have : w.2.1 + i = w.2.1 + j := hpq
    omega
  · obtain ⟨-, rfl⟩ := wls_lt hk
    exact Nat.le_add_right _ _
def Rep (w : Wd) (n : Nat) (ρ : Rf) (S : St) (H : Heap) : Prop := va_P w.1 vwCl (wls w n S ρ) H
abbrev tys (w : Wd) : List (ClassId × FieldType) := [(w.2.2 0, .int), (w.2.2 1, .boolean), (w.2.2 2, .long), (w.2.2 3, .object RX5), (w.2.2 4, .object RX2), (w.2.2 5, .object RX4)]
def nestL : List (String × Nat × MethodName × String) := [(RX6, 29, yX4_init, "OrchardBook"), (RX6, 32, yX3_init, "OrchardBook"), (RX6, 39, yX1_init, "OrchardBook"), (RX0, 197, yX6_upQuotient, "OrchardBook"), (RX0, 59, yX5_init, "OrchardBook"), (RX0, 60, yX2_init, "OrchardBook")]
def KK (w : Wd) (U : State) : Prop := va_K w.1 vwCl (tys w) U ∧ va_AO RX5 U ∧ va_AO RX2 U ∧ va_AO RX4 U ∧ ∀ q ∈ nestL, va_Nw (.methodLinkNest q.1 q.2.1 q.2.2.1 q.2.2.2) U
theorem KK.warm {w : Wd} {u U : State} (hW : u.WarmedH U.vm) (h : KK w u) : KK w U := ⟨va_K.moved hW.alike h.1, h.2.1.moved hW.alike, h.2.2.1.moved hW.alike, h.2.2.2.1.moved hW.alike, fun q hq => (h.2.2.2.2 q hq).warmM hW⟩
theorem KK.same {w : Wd} {u U : State} (hv : u.vm = U.vm) (h : KK w u) : KK w U := ⟨va_K.moved (by rw [hv]; exact Vm.Alike.refl _) h.1, h.2.1.moved (by rw [hv]; exact Vm.Alike.refl _), h.2.2.1.moved (by rw [hv]; exact Vm.Alike.refl _), h.2.2.2.1.moved (by rw [hv]; exact Vm.Alike.refl _), fun q hq => (h.2.2.2.2 q hq).same rfl hv⟩
/-- a list of cells that are the same but for one -/
theorem wls_set {w : Wd} {n : Nat} {S S' : St} {ρ ρ' : Rf} {i : Nat} {e : va_E} (hi : i < n) (he : e = cel w S' ρ' i) (ho : ∀ j, j ≠ i → cel w S' ρ' j = cel w S ρ j) : (wls w n S ρ).set i (w.2.1 + i, e) = wls w n S' ρ' := by
  subst he
  apply List.ext_getElem?
  intro k
  by_cases hk : k < n
  · by_cases hki : i = k
    · subst hki
      rw [List.getElem?_set_self (by simpa [wls] using hi), wls_at hk]
    · rw [List.getElem?_set_ne hki, wls_at hk, wls_at hk, ho k (fun h => hki h.symm)]
  · rw [List.getElem?_eq_none (by simp [wls]; omega), List.getElem?_eq_none (by simp [wls]; omega)]
theorem wls_push {w : Wd} {n : Nat} {S : St} {ρ : Rf} {e : va_E} (he : e = cel w S ρ n) : wls w n S ρ ++ [(w.2.1 + n, e)] = wls w (n + 1) S ρ := by
  subst he
  simp [wls, List.range_succ]
theorem up2_ne {α : Type} {f : Nat → Nat → α} {i j k : Nat} {v : α} (h : j ≠ i) : up2 f i k v j = f j := by simp [up2, h]
theorem up2_eq {α : Type} {f : Nat → Nat → α} {i k k' : Nat} {v : α} : up2 f i k v i k' = if k' = k then v else f i k' := by simp [up2]
theorem upA_ne {α : Type} {f : Nat → Nat → α} {i j : Nat} {g : Nat → α} (h : j ≠ i) : upA f i g j = f j := by simp [upA, h]
theorem upA_eq {α : Type} {f : Nat → Nat → α} {i : Nat} {g : Nat → α} : upA f i g i = g := by simp [upA]
theorem fv_cong {w : Wd} {S S' : St} {ρ ρ' : Rf} {i k : Nat} {b : Bool} (h1 : S'.1 i k = S.1 i k) (h2 : ρ' i k = ρ i k) : fv w S' ρ' i k b = fv w S ρ i k b := by simp [fv, h1, h2]
theorem cel_cong {w : Wd} {S S' : St} {ρ ρ' : Rf} {j : Nat} (h1 : S'.1 j = S.1 j) (h2 : S'.2 j = S.2 j) (h3 : ρ' j = ρ j) : cel w S' ρ' j = cel w S ρ j := by
  unfold cel
  cases kd j with
  | inl c => simp only [flds, fv, h1, h3]
  | inr c =>
    obtain ⟨t, n⟩ := c
    match t with
    | 0 => simp only [arc, h1]
    | 1 => simp only [arc, h1]
    | 2 => simp only [arc, h2]
    | t + 3 => simp only [arc, h3]
theorem flds_at {w : Wd} {S : St} {ρ : Rf} {i k : Nat} {fl : List Bool} {b : Bool} (h : fl[k]? = some b) : (flds w S ρ i fl)[k]? = some (fv w S ρ i k b) := by
  simp [flds, List.getElem?_mapIdx, h]
theorem flds_set {w : Wd} {S S' : St} {ρ ρ' : Rf} {i k : Nat} {fl : List Bool} {b : Bool} {v : Value} (h : fl[k]? = some b) (hv : v = fv w S' ρ' i k b) (ho : ∀ j b', j ≠ k → fv w S' ρ' i j b' = fv w S ρ i j b') : (flds w S ρ i fl).set k v = flds w S' ρ' i fl := by
  subst hv
  have hl : k < fl.length := (List.getElem?_eq_some_iff.mp h).1
  apply List.ext_getElem?
  intro j
  by_cases hj : j < fl.length
  · obtain ⟨b', hb'⟩ : ∃ b', fl[j]? = some b' := ⟨fl[j], List.getElem?_eq_getElem hj⟩
    by_cases hjk : k = j
    · subst hjk
      rw [List.getElem?_set_self (by simpa [flds] using hl), flds_at h]
    · rw [List.getElem?_set_ne hjk, flds_at hb', flds_at hb', ho j b' (fun h => hjk h.symm)]
  · rw [List.getElem?_eq_none (by simp [flds]; omega), List.getElem?_eq_none (by simp [flds]; omega)]
theorem flds_len {w : Wd} {S : St} {ρ : Rf} {i : Nat} {fl : List Bool} : (flds w S ρ i fl).length = fl.length := by simp [flds]
