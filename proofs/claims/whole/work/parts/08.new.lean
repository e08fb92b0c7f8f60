-- what is made: objects, arrays
section Made
variable {l : Launch} {w : Wd} {y : MI} {pc : Nat} {ls : List (Nat × Value)} {st : List Value} {P' : WP} {r : Option Value} {S : St} {n k z : Nat} {ρ : Rf}
/-- the cell that comes next -/
theorem made_at {p : Program} {e : Env} {s : State} {m : MethodId} {args : Array Value} {below : List Frame} {meth : Method} {c : Code} {H1 : Heap} {locs : List Loc} {T : State} {RR : Room} {q z' : Nat} {E : va_E} (hz : s.heap.size + k = w.2.1 + n) (hT : T.heap = H1) (Y : Stand p l e RR s m args below meth c T locs (k + 1) z') (hP : va_P w.1 vwCl (wls w n S ρ ++ [(q, E)]) H1) (hD : va_D (Ad w) (wls w n S ρ ++ [(q, E)])) : q = w.2.1 + n := by
  have hlen : (wls w n S ρ).length = n := by simp [wls]
  have hat : (wls w n S ρ ++ [(q, E)])[n]? = some (q, E) := by
    rw [List.getElem?_append_right (by omega), hlen, Nat.sub_self]; rfl
  have h1 : T.heap.size ≤ s.heap.size + (k + 1) := Y.same.2.2.1
  have h2 : q < H1.size := (hP n _ hat).lt
  have h3 : w.2.1 ≤ q := hD.2 n _ hat
  rw [hT] at h1
  rcases Nat.lt_or_ge q (w.2.1 + n) with h | h
  · have h4 : (wls w n S ρ ++ [(q, E)])[q - w.2.1]? = some (w.2.1 + (q - w.2.1), cel w S ρ (q - w.2.1)) := by
      rw [List.getElem?_append_left (by omega), wls_at (by omega)]
    have := hD.1 n (q - w.2.1) _ _ hat h4 (by show q = w.2.1 + (q - w.2.1); omega)
    omega
  · omega
def NW (own : String) (idx ci N : Nat) (fl : List Bool) : Prop := ∃ (C : String) (T : u_T) (ty : Nat → FieldType), vwCl[ci]? = some (C, T, N) ∧ (∀ q ∈ u_ws C T N, q ∈ gw) ∧ (∀ j, j < N → parseFieldDescriptor (T j).2.2.1 = some (ty j)) ∧ Cond.classLink own idx C ∈ gw ∧ Cond.instantiable C N ∈ gw ∧ Cond.initialized C ∈ gw ∧ fl.length = N ∧ (∀ j, j < N → defaultValue (ty j) = if fl.getD j false = true then .null else .int 0)
theorem g_new {idx ci N : Nat} {fl : List Bool} (hW : NW y.1.cls idx ci N fl) (hk : kd n = .inl (ci, fl)) (h0 : ∀ j, S.1 n j = 0) (h1 : ∀ j, ρ n j = none) (hc : k + 1 ≤ y.2.2.2.2.cells) (hs : z + N ≤ y.2.2.2.2.slots) (d : decode y.2.1 pc = .ok (.new idx, 3))
    (kk : G l w y (pc + 3) ls (.ref (w.2.1 + n) :: st) (n + 1, ρ, S, k + 1, z + N) P' r) : G l w y pc ls st (n, ρ, S, k, z) P' r := by
  intro p e s m args below meth c H locs Ls C hR hS hl
  obtain ⟨CC, T, ty, g1, g2, g3, g4, g5, g6, g7, g8⟩ := hW
  refine va_new (ci := ci) (fs := flds w S ρ n fl) (C := CC) (T := T) (N := N) C.1 C.2.1 C.2.2.2.2.1 g2 ty g3 C.2.2.2.1 (C.2.2.2.2.1 _ g4) (C.2.2.2.2.1 _ g5) (C.2.2.2.2.1 _ g6) C.2.2.2.2.2.2.2.2.1.1 hR.1 wls_D hS (fun q hq => Nat.le_trans C.2.2.2.2.2.2.2.2.2 hq) g1 ?_ hc hs d (fun q H1 hP1 hD1 hS1 => ?_)
  · intro j hj
    rw [g8 j hj]
    have hj2 : j < fl.length := by omega
    have e1 : fl[j]? = some fl[j] := List.getElem?_eq_getElem hj2
    have e2 : fl.getD j false = fl[j] := by rw [List.getD_eq_getElem?_getD, e1]; rfl
    rw [e2]
    show _ = (flds w S ρ n fl).getD j .null
    rw [List.getD_eq_getElem?_getD, flds_at e1]
    simp only [Option.getD_some, fv, h0, h1, Option.map_none, va_rf]
  · intro T hT Y
    have hq := made_at hR.2 hT Y hP1 hD1
    subst hq
    rw [wls_push (by rw [cel_o hk])] at hP1
    exact kk p e s m args below meth c H1 locs Ls C ⟨hP1, by have := hR.2; show s.heap.size + (k + 1) = w.2.1 + (n + 1); have h9 : s.heap.size + k = w.2.1 + n := this; omega⟩ hS1 hl T hT Y
theorem ra_eq {U : State} {cA cB : ClassId} {ty : FieldType} (h1 : va_RA U cA ty) (h2 : va_RA U cB ty) : cA = cB := by
  cases ty with
  | object C =>
    obtain ⟨kA, comp, a1, a2, a3, a4⟩ := h1
    obtain ⟨kB, comp2, b1, b2, b3, b4⟩ := h2
    exact Option.some.inj (a4.symm.trans b4)
  | _ => exact Option.some.inj (Eq.trans (Eq.symm h1) h2)
theorem tys_last {D : va_G} {tl : List (ClassId × FieldType)} {U : State} {cA cB : ClassId} {ty : FieldType} (h : va_K D vwCl (tl ++ [(cA, ty)]) U) {t : Nat} (ht : tl[t]? = some (cB, ty)) : cA = cB := by
  have h1 := (h.2 tl.length (cA, ty) (by rw [List.getElem?_append_right (Nat.le_refl _), Nat.sub_self]; rfl)).2
  have h2 := (h.2 t (cB, ty) (by rw [List.getElem?_append_left (List.getElem?_eq_some_iff.mp ht).1]; exact ht)).2
  exact ra_eq h1 h2
theorem g_newa {t N : Nat} {x : Int32} {at_ : ArrayType} {ty : FieldType} {a0 : vp_A} (hty : newarray.typeOf at_ = ty) (har : Cond.arrayClass ty ∈ gw) (hk : kd n = .inr (t, N)) (htt : (tys w)[t]? = some (w.2.2 t, ty)) (ha : arc w S ρ n t N = a0) (hv : ∀ cA : ClassId, vp_cell cA a0 = arrV cA N (fun _ => defaultValue ty)) (hx : ¬ x < 0) (hN : x.toNatClampNeg = N) (hb : N * componentBytes ty ≤ 536870912) (hc : k + 1 ≤ y.2.2.2.2.cells) (hs : z + N ≤ y.2.2.2.2.slots) (d : decode y.2.1 pc = .ok (.newarray at_, 2))
    (kk : G l w y (pc + 2) ls (.ref (w.2.1 + n) :: st) (n + 1, ρ, S, k + 1, z + N) P' r) : G l w y pc ls (.int x :: st) (n, ρ, S, k, z) P' r := by
  intro p e s m args below meth c H locs Ls C hR hS hl
  refine va_newa (a0 := a0) C.1 C.2.1 (by rw [hty]; exact C.2.2.2.2.1 _ har) hty C.2.2.2.2.2.2.2.2.1.1 hR.1 wls_D hS (fun q hq => Nat.le_trans C.2.2.2.2.2.2.2.2.2 hq) hv hx hN hb hc hs d (fun q cA H1 hK1 hP1 hD1 hS1 => ?_)
  intro T hT Y
  have hq := made_at hR.2 hT Y hP1 hD1
  have hA : cA = w.2.2 t := tys_last hK1 htt
  subst hq
  rw [wls_push (by rw [cel_a hk, ha, hA])] at hP1
  exact kk p e s m args below meth c H1 locs Ls C ⟨hP1, by have h9 : s.heap.size + k = w.2.1 + n := hR.2; show s.heap.size + (k + 1) = w.2.1 + (n + 1); omega⟩ hS1 hl T hT Y
theorem mk_zero {cA : ClassId} {N : Nat} {f : Nat → Int32} (h : ∀ j, f j = 0) : vp_cell cA (N, .inl f) = arrV cA N (fun _ => .int 0) := by
  rw [vp_cell_i]
  have : f = fun _ => 0 := funext h
  rw [this]
theorem mk_zeroL {cA : ClassId} {N : Nat} {f : Nat → Int64} (h : ∀ j, f j = 0) : vp_cell cA (N, .inr (.inl f)) = arrV cA N (fun _ => .long 0) := by
  rw [vp_cell_l]
  have : f = fun _ => 0 := funext h
  rw [this]
theorem g_newI {N : Nat} {x : Int32} (har : Cond.arrayClass .int ∈ gw) (hk : kd n = .inr (0, N)) (h0 : ∀ j, S.1 n j = 0) (hx : ¬ x < 0) (hN : x.toNatClampNeg = N) (hb : N ≤ 1000) (hc : k + 1 ≤ y.2.2.2.2.cells) (hs : z + N ≤ y.2.2.2.2.slots) (d : decode y.2.1 pc = .ok (.newarray .int, 2))
    (kk : G l w y (pc + 2) ls (.ref (w.2.1 + n) :: st) (n + 1, ρ, S, k + 1, z + N) P' r) : G l w y pc ls (.int x :: st) (n, ρ, S, k, z) P' r :=
  g_newa (t := 0) (ty := .int) rfl har hk rfl rfl (fun _ => mk_zero h0) hx hN (by show N * 4 ≤ _; omega) hc hs d kk
theorem g_newZ {N : Nat} {x : Int32} (har : Cond.arrayClass .boolean ∈ gw) (hk : kd n = .inr (1, N)) (h0 : ∀ j, S.1 n j = 0) (hx : ¬ x < 0) (hN : x.toNatClampNeg = N) (hb : N ≤ 1000) (hc : k + 1 ≤ y.2.2.2.2.cells) (hs : z + N ≤ y.2.2.2.2.slots) (d : decode y.2.1 pc = .ok (.newarray .boolean, 2))
    (kk : G l w y (pc + 2) ls (.ref (w.2.1 + n) :: st) (n + 1, ρ, S, k + 1, z + N) P' r) : G l w y pc ls (.int x :: st) (n, ρ, S, k, z) P' r :=
  g_newa (t := 1) (ty := .boolean) rfl har hk rfl rfl (fun _ => mk_zero h0) hx hN (by show N * 1 ≤ _; omega) hc hs d kk
theorem g_newL {N : Nat} {x : Int32} (har : Cond.arrayClass .long ∈ gw) (hk : kd n = .inr (2, N)) (h0 : ∀ j, S.2 n j = 0) (hx : ¬ x < 0) (hN : x.toNatClampNeg = N) (hb : N ≤ 1000) (hc : k + 1 ≤ y.2.2.2.2.cells) (hs : z + N ≤ y.2.2.2.2.slots) (d : decode y.2.1 pc = .ok (.newarray .long, 2))
    (kk : G l w y (pc + 2) ls (.ref (w.2.1 + n) :: st) (n + 1, ρ, S, k + 1, z + N) P' r) : G l w y pc ls (.int x :: st) (n, ρ, S, k, z) P' r :=
  g_newa (t := 2) (ty := .long) rfl har hk rfl rfl (fun _ => mk_zeroL h0) hx hN (by show N * 8 ≤ _; omega) hc hs d kk
theorem g_newQ {t N idx : Nat} {x : Int32} {CC : String} (hcl : Cond.classLink y.1.cls idx CC ∈ gw) (hao : ∀ U : State, KK w U → va_AO CC U) (hk : kd n = .inr (t + 3, N)) (htt : (tys w)[t + 3]? = some (w.2.2 (t + 3), .object CC)) (h0 : ∀ j, ρ n j = none) (hx : ¬ x < 0) (hN : x.toNatClampNeg = N) (hb : N * 4 ≤ 536870912) (hc : k + 1 ≤ y.2.2.2.2.cells) (hs : z + N ≤ y.2.2.2.2.slots) (d : decode y.2.1 pc = .ok (.anewarray idx, 3))
    (kk : G l w y (pc + 3) ls (.ref (w.2.1 + n) :: st) (n + 1, ρ, S, k + 1, z + N) P' r) : G l w y pc ls (.int x :: st) (n, ρ, S, k, z) P' r := by
  intro p e s m args below meth c H locs Ls C hR hS hl
  refine va_newq C.1 C.2.1 C.2.2.2.1 (C.2.2.2.2.1 _ hcl) (hao s C.2.2.2.2.2.2.2.2.1) C.2.2.2.2.2.2.2.2.1.1 hR.1 wls_D hS (fun q hq => Nat.le_trans C.2.2.2.2.2.2.2.2.2 hq) hx hN hb hc hs d (fun q cA H1 hK1 hP1 hD1 hS1 => ?_)
  intro T hT Y
  have hq := made_at hR.2 hT Y hP1 hD1
  have hA : cA = w.2.2 (t + 3) := tys_last hK1 htt
  subst hq
  rw [wls_push (by rw [cel_a hk, arc_3, hA]; simp [h0])] at hP1
  exact kk p e s m args below meth c H1 locs Ls C ⟨hP1, by have h9 : s.heap.size + k = w.2.1 + n := hR.2; show s.heap.size + (k + 1) = w.2.1 + (n + 1); omega⟩ hS1 hl T hT Y
theorem g_aast {t N tt j ci : Nat} {i : Int32} {fl : List Bool} {rc : vw_C} (hk : kd t = .inr (tt + 3, N)) (ht : t < n) (hj : kd j = .inl (ci, fl)) (hjn : j < n) (hcl : vwCl[ci]? = some rc) (htt : (tys w)[tt + 3]? = some (w.2.2 (tt + 3), .object rc.1)) (hi : inb i N = true) (d : decode y.2.1 pc = .ok (.aastore, 1))
    (kk : G l w y (pc + 1) ls st (n, up2 ρ t (ix i) (some j), S, k, z) P' r) : G l w y pc ls (.ref (w.2.1 + j) :: .int i :: .ref (w.2.1 + t) :: st) (n, ρ, S, k, z) P' r := by
  intro p e s m args below meth c H locs Ls C hR hS hl
  have hset : (wls w n S ρ).set t (w.2.1 + t, .inl (w.2.2 (tt + 3), N, .inr (.inr (.inr (.inr (va_up (fun j => (ρ t j).map (fun q => w.2.1 + q)) i.toNatClampNeg (some (w.2.1 + j)))))))) = wls w n S (up2 ρ t (ix i) (some j)) := by
    refine wls_set ht ?_ (fun q hq => cel_cong rfl rfl (up2_ne hq))
    rw [cel_a hk, arc_3]
    congr 5
    congr 4
    funext q
    simp only [va_up, up2_eq, ix]
    by_cases hq : q = i.toNatClampNeg
    · simp [hq]
    · simp [hq]
  refine va_astq (r := rc) C.1 C.2.1 C.2.2.2.2.2.2.2.2.1.1 hR.1 wls_D hS t (tt + 3) j ci (by rw [wls_at ht, cel_a hk, arc_3]) htt (by rw [wls_at hjn, cel_o hj]) hcl (inb_in hi) d (fun H1 locs1 hP1 _ hS1 => ?_)
  rw [hset] at hP1
  exact kk p e s m args below meth c H1 locs1 Ls C ⟨hP1, hR.2⟩ hS1 hl
theorem g_objInit {idx t : Nat} (hl1 : Cond.methodLink y.1.cls idx Lib.objectInit ∈ gw) (hi : Cond.instanceMethod Lib.objectInit ∈ gw) (hco : Cond.code Lib.objectInit ⟨#[0xb1]⟩ 1 none ∈ gw) (hfr : 1 ≤ y.2.2.2.2.frames) (hlo : (st.map fun v => v.category).sum + 12 ≤ y.2.2.2.2.locals) (d : decode y.2.1 pc = .ok (.invokespecial idx, 3))
    (kk : G l w y (pc + 3) ls st (n, ρ, S, k, z) P' r) : G l w y pc ls (.ref (w.2.1 + t) :: st) (n, ρ, S, k, z) P' r := by
  intro p e s m args below meth c H locs Ls C hR hS hl
  refine W.objInit (idx := idx) C.1 C.2.1 C.2.2.2.1 (C.2.2.2.2.1 _ hl1) (C.2.2.2.2.1 _ hi) (C.2.2.2.2.1 _ hco) (g := F0 m pc Ls (.ref (w.2.1 + t) :: st)) rfl (hl.1.trans C.2.2.1.symm) rfl d hfr (by show 2 * 0 + _ + 12 ≤ _; omega) ?_
  exact kk p e s m args below meth c H locs Ls C hR hS hl
theorem g_vret (hr : y.2.2.2.1 = none) (d : decode y.2.1 pc = .ok (.return_, 1)) : G l w y pc ls [] (n, ρ, S, k, z) (n, ρ, S, k, z) none := by
  intro p e s m args below meth c H locs Ls C hR hS hl
  exact W.vret C.1 C.2.1 (C.2.2.2.2.2.1.trans hr) (fun t ht hW => ⟨rfl, by rw [ht]; exact hR.1, KK.warm hW C.2.2.2.2.2.2.2.2.1, hS.F ht⟩) hS.2.2 d C.2.2.2.2.2.2.1
end Made
theorem g_lit {l : Launch} {w : Wd} {y : MI} {pc : Nat} {ls : List (Nat × Value)} {st : List Value} {P' : WP} {r : Option Value} {S : St} {n k z n' k' z' : Nat} {ρ : Rf} (h1 : n = n') (h2 : k = k') (h3 : z = z') (kk : G l w y pc ls st (n', ρ, S, k', z') P' r) : G l w y pc ls st (n, ρ, S, k, z) P' r := by
  subst h1; subst h2; subst h3; exact kk
theorem g_st {l : Launch} {w : Wd} {y : MI} {pc : Nat} {ls : List (Nat × Value)} {st st' : List Value} {P P' : WP} {r : Option Value} (h1 : st = st') (kk : G l w y pc ls st' P P' r) : G l w y pc ls st P P' r := by
  subst h1; exact kk
theorem g_lo {l : Launch} {w : Wd} {y : MI} {pc : Nat} {ls ls' : List (Nat × Value)} {st : List Value} {P P' : WP} {r : Option Value} (h1 : ls = ls') (kk : G l w y pc ls' st P P' r) : G l w y pc ls st P P' r := by
  subst h1; exact kk
def rho0 : Rf := fun _ _ => none
def St0 : St := (fun _ _ => 0, fun _ _ => 0)
