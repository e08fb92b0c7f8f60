theorem kd_ge {t : Nat} (h : NN ≤ t) : kd t = Kints 0 := by
  have h1 : ¬ t = 0 := by have : (125 : Nat) ≤ t := h; omega
  have h2 : ¬ t < 44 := by have : (125 : Nat) ≤ t := h; omega
  have h3 : ¬ t < 87 := by have : (125 : Nat) ≤ t := h; omega
  obtain ⟨q, hq⟩ : ∃ q, t - 87 = q + 38 := ⟨t - 125, by have : (125 : Nat) ≤ t := h; omega⟩
  simp only [kd, h1, h2, h3, if_false, hq]
  rfl
theorem kd_lt {t : Nat} {c : Nat × List Bool} (h : kd t = .inl c) : t < NN := by
  rcases Nat.lt_or_ge t NN with q | q
  · exact q
  · rw [kd_ge q] at h; cases h
theorem kd_ltA {t tt n i : Nat} (h : kd t = .inr (tt, n)) (hi : i < n) : t < NN := by
  rcases Nat.lt_or_ge t NN with q | q
  · exact q
  · rw [kd_ge q] at h
    cases h
    omega
theorem rho_o {t ci k : Nat} {fl : List Bool} (h : kd t = .inl (ci, fl)) : rho t k = rkO ci t k := by simp only [rho, h]
theorem rho_a {t tt n k : Nat} (h : kd t = .inr (tt, n)) : rho t k = rkA tt t k := by simp only [rho, h]
/-- the words of a field: which class's, its slot -/
def FL (own : String) (idx ci k : Nat) : Prop := ∃ (C : String) (T : u_T) (N : Nat), vwCl[ci]? = some (C, T, N) ∧ (∀ q ∈ u_ws C T N, q ∈ gw) ∧ k < N ∧ Cond.fieldLink own idx (T k).1 (T k).2.1 (T k).2.2.1 ∈ gw
def FP (own : String) (idx ci k : Nat) (fin : Bool) (ty : FieldType) : Prop := ∃ (C : String) (T : u_T) (N : Nat) (ty0 : Nat → FieldType), vwCl[ci]? = some (C, T, N) ∧ (∀ q ∈ u_ws C T N, q ∈ gw) ∧ k < N ∧ Cond.fieldLink own idx (T k).1 (T k).2.1 (T k).2.2.1 ∈ gw ∧ (∀ j, j < N → parseFieldDescriptor (T j).2.2.1 = some (ty0 j)) ∧ (∀ a, a < N → ∀ b, b < N → a ≠ b → (T a).2.1 ≠ (T b).2.1) ∧ (T k).2.2.2 = fin ∧ (fin = true → (T k).1 = own) ∧ ty0 k = ty
section Heap
variable {l : Launch} {w : Wd} {y : MI} {pc : Nat} {ls : List (Nat × Value)} {st : List Value} {P P' : WP} {r : Option Value} {β : Type} {R : β → Option Value × St} {X : Option β} {S : St} {n k z : Nat} {ρ : Rf}
theorem g_get {t ci f idx : Nat} {fl : List Bool} {b : Bool} {v : Value} (hF : FL y.1.cls idx ci f) (hk : kd t = .inl (ci, fl)) (hb : fl[f]? = some b) (ht : t < n) (hv : fv w S ρ t f b = v) (d : decode y.2.1 pc = .ok (.getfield idx, 3))
    (kk : G l w y (pc + 3) ls (v :: st) (n, ρ, S, k, z) P' r) : G l w y pc ls (.ref (w.2.1 + t) :: st) (n, ρ, S, k, z) P' r := by
  intro p e s m args below meth c H locs Ls C hR hS hl
  obtain ⟨CC, T, N, h1, h2, h3, h4⟩ := hF
  exact va_get (D := w.1) (ci := ci) (v := v) (C := CC) (T := T) (N := N) C.1 C.2.1 C.2.2.2.2.1 h2 C.2.2.2.1 C.2.2.2.2.2.2.2.2.1.1 hR.1 t (by rw [wls_at ht, cel_o hk]) h1 f h3 (C.2.2.2.2.1 _ h4) (fun _ q => q) (by rw [flds_at hb, hv]) d (kk p e s m args below meth c H locs Ls C hR hS hl)
theorem j_getI {t ci f idx : Nat} {fl : List Bool} (hF : FL y.1.cls idx ci f) (hk : kd t = .inl (ci, fl)) (hb : fl[f]? = some false) (d : decode y.2.1 pc = .ok (.getfield idx, 3))
    (kk : J l w y (pc + 3) ls (.int (rd S t f) :: st) S R X) : J l w y pc ls (.ref (w.2.1 + t) :: st) S R X := fun b h => g_get hF hk hb (kd_lt hk) rfl d (kk b h)
theorem j_getR {t ci f idx j : Nat} {fl : List Bool} (hF : FL y.1.cls idx ci f) (hk : kd t = .inl (ci, fl)) (hb : fl[f]? = some true) (hj : rkO ci t f = some j) (d : decode y.2.1 pc = .ok (.getfield idx, 3))
    (kk : J l w y (pc + 3) ls (.ref (w.2.1 + j) :: st) S R X) : J l w y pc ls (.ref (w.2.1 + t) :: st) S R X := fun b h => g_get hF hk hb (kd_lt hk) (by simp only [fv, if_true, rho_o hk, hj, Option.map_some, va_rf]) d (kk b h)
theorem g_putI {t ci f idx : Nat} {fl : List Bool} {v : Int32} {ty : FieldType} (hF : FP y.1.cls idx ci f false ty) (hk : kd t = .inl (ci, fl)) (hb : fl[f]? = some false) (ht : t < n) (hn : narrow ty (.int v) = .int v) (hfit : fits ty (.int v) = true) (d : decode y.2.1 pc = .ok (.putfield idx, 3))
    (kk : G l w y (pc + 3) ls st (n, ρ, wr S t f v, k, z) P' r) : G l w y pc ls (.int v :: .ref (w.2.1 + t) :: st) (n, ρ, S, k, z) P' r := by
  intro p e s m args below meth c H locs Ls C hR hS hl
  obtain ⟨CC, T, N, ty0, h1, h2, h3, h4, h5, h6, h7, h8, h9⟩ := hF
  have hset : (wls w n S ρ).set t (w.2.1 + t, .inr (ci, (flds w S ρ t fl).set f (.int v))) = wls w n (wr S t f v) ρ := by
    refine wls_set ht ?_ (fun j hj => cel_cong (by simp [wr, up2_ne hj]) rfl rfl)
    rw [flds_set (S' := wr S t f v) (ρ' := ρ) hb (by simp [fv, wr, up2_eq]) (fun j b' hj => fv_cong (by simp [wr, up2_eq, hj]) rfl), cel_o hk]
  refine va_put (D := w.1) (ci := ci) (C := CC) (T := T) (N := N) C.1 C.2.1 C.2.2.2.2.1 h2 ty0 h5 h6 C.2.2.2.1 C.2.2.2.2.2.2.2.2.1.1 hR.1 wls_D hS t (by rw [wls_at ht, cel_o hk]) h1 f h3 (C.2.2.2.2.1 _ h4) (fun _ q => q) h7 (by rw [h5 f h3, h9]) hn hfit (by rw [flds_len]; exact (List.getElem?_eq_some_iff.mp hb).1) d (fun H1 locs1 hP1 _ hS1 => ?_)
  rw [hset] at hP1
  exact kk p e s m args below meth c H1 locs1 Ls C ⟨hP1, hR.2⟩ hS1 hl
theorem g_putR {t ci f idx j : Nat} {fl : List Bool} {ty : FieldType} (hF : FP y.1.cls idx ci f true ty) (hin : y.1.name = "<init>") (hk : kd t = .inl (ci, fl)) (hb : fl[f]? = some true) (ht : t < n) (hn : narrow ty (.ref (w.2.1 + j)) = .ref (w.2.1 + j)) (hfit : fits ty (.ref (w.2.1 + j)) = true) (d : decode y.2.1 pc = .ok (.putfield idx, 3))
    (kk : G l w y (pc + 3) ls st (n, up2 ρ t f (some j), S, k, z) P' r) : G l w y pc ls (.ref (w.2.1 + j) :: .ref (w.2.1 + t) :: st) (n, ρ, S, k, z) P' r := by
  intro p e s m args below meth c H locs Ls C hR hS hl
  obtain ⟨CC, T, N, ty0, h1, h2, h3, h4, h5, h6, h7, h8, h9⟩ := hF
  have hset : (wls w n S ρ).set t (w.2.1 + t, .inr (ci, (flds w S ρ t fl).set f (.ref (w.2.1 + j)))) = wls w n S (up2 ρ t f (some j)) := by
    refine wls_set ht ?_ (fun q hq => cel_cong rfl rfl (up2_ne hq))
    rw [flds_set (S' := S) (ρ' := up2 ρ t f (some j)) hb (by simp [fv, up2_eq, va_rf]) (fun q b' hq => fv_cong rfl (by simp [up2_eq, hq])), cel_o hk]
  refine va_putF (D := w.1) (ci := ci) (C := CC) (T := T) (N := N) C.1 C.2.1 C.2.2.2.2.1 h2 ty0 h5 h6 C.2.2.2.1 C.2.2.2.2.2.2.2.2.1.1 hR.1 wls_D hS t (by rw [wls_at ht, cel_o hk]) h1 f h3 (C.2.2.2.2.1 _ h4) (fun _ q => q) h7 (by rw [C.2.2.2.2.2.2.2.1, hin]) (h8 rfl) (by rw [h5 f h3, h9]) hn hfit (by rw [flds_len]; exact (List.getElem?_eq_some_iff.mp hb).1) d (fun H1 locs1 hP1 _ hS1 => ?_)
  rw [hset] at hP1
  exact kk p e s m args below meth c H1 locs1 Ls C ⟨hP1, hR.2⟩ hS1 hl
theorem j_putI {t ci f idx : Nat} {fl : List Bool} {v : Int32} {ty : FieldType} (hF : FP y.1.cls idx ci f false ty) (hk : kd t = .inl (ci, fl)) (hb : fl[f]? = some false) (hn : narrow ty (.int v) = .int v) (hfit : fits ty (.int v) = true) (d : decode y.2.1 pc = .ok (.putfield idx, 3))
    (kk : J l w y (pc + 3) ls st (wr S t f v) R X) : J l w y pc ls (.int v :: .ref (w.2.1 + t) :: st) S R X := fun b h => g_putI hF hk hb (kd_lt hk) hn hfit d (kk b h)
-- arrays
theorem arc_0 {i m : Nat} : arc w S ρ i 0 m = (m, .inl (S.1 i)) := rfl
theorem arc_1 {i m : Nat} : arc w S ρ i 1 m = (m, .inl (S.1 i)) := rfl
theorem arc_2 {i m : Nat} : arc w S ρ i 2 m = (m, .inr (.inl (S.2 i))) := rfl
theorem arc_3 {i m t : Nat} : arc w S ρ i (t + 3) m = (m, .inr (.inr (.inr (.inr (fun j => (ρ i j).map (fun q => w.2.1 + q)))))) := rfl
theorem g_iald {t m : Nat} {i : Int32} (hk : kd t = .inr (0, m)) (ht : t < n) (hi : inb i m = true) (d : decode y.2.1 pc = .ok (.iaload, 1))
    (kk : G l w y (pc + 1) ls (.int (rd S t (ix i)) :: st) (n, ρ, S, k, z) P' r) : G l w y pc ls (.int i :: .ref (w.2.1 + t) :: st) (n, ρ, S, k, z) P' r := by
  intro p e s m' args below meth c H locs Ls C hR hS hl
  exact va_iald (f := S.1 t) C.1 C.2.1 C.2.2.2.2.2.2.2.2.1.1 hR.1 t 0 (by rw [wls_at ht, cel_a hk, arc_0]) rfl (inb_in hi) d (kk p e s m' args below meth c H locs Ls C hR hS hl)
theorem g_zald {t m : Nat} {i : Int32} (hk : kd t = .inr (1, m)) (ht : t < n) (hi : inb i m = true) (d : decode y.2.1 pc = .ok (.baload, 1))
    (kk : G l w y (pc + 1) ls (.int (rd S t (ix i)) :: st) (n, ρ, S, k, z) P' r) : G l w y pc ls (.int i :: .ref (w.2.1 + t) :: st) (n, ρ, S, k, z) P' r := by
  intro p e s m' args below meth c H locs Ls C hR hS hl
  exact va_zald (f := S.1 t) C.1 C.2.1 C.2.2.2.2.2.2.2.2.1.1 hR.1 t 1 (by rw [wls_at ht, cel_a hk, arc_1]) rfl (inb_in hi) d (kk p e s m' args below meth c H locs Ls C hR hS hl)
theorem g_lald {t m : Nat} {i : Int32} (hk : kd t = .inr (2, m)) (ht : t < n) (hi : inb i m = true) (d : decode y.2.1 pc = .ok (.laload, 1))
    (kk : G l w y (pc + 1) ls (.long (rdL S t (ix i)) :: st) (n, ρ, S, k, z) P' r) : G l w y pc ls (.int i :: .ref (w.2.1 + t) :: st) (n, ρ, S, k, z) P' r := by
  intro p e s m' args below meth c H locs Ls C hR hS hl
  exact va_lald (f := S.2 t) C.1 C.2.1 C.2.2.2.2.2.2.2.2.1.1 hR.1 t 2 (by rw [wls_at ht, cel_a hk, arc_2]) rfl (inb_in hi) d (kk p e s m' args below meth c H locs Ls C hR hS hl)
theorem g_aald {t m tt j : Nat} {i : Int32} {CC : String} (hk : kd t = .inr (tt + 3, m)) (ht : t < n) (hi : inb i m = true) (hty : (tys w)[tt + 3]? = some (w.2.2 (tt + 3), .object CC)) (hj : ρ t (ix i) = some j) (d : decode y.2.1 pc = .ok (.aaload, 1))
    (kk : G l w y (pc + 1) ls (.ref (w.2.1 + j) :: st) (n, ρ, S, k, z) P' r) : G l w y pc ls (.int i :: .ref (w.2.1 + t) :: st) (n, ρ, S, k, z) P' r := by
  intro p e s m' args below meth c H locs Ls C hR hS hl
  refine va_aldq C.1 C.2.1 C.2.2.2.2.2.2.2.2.1.1 hR.1 t (tt + 3) (by rw [wls_at ht, cel_a hk, arc_3]) hty (inb_in hi) d ?_
  have e1 : va_rf ((ρ t i.toNatClampNeg).map (fun q => w.2.1 + q)) = .ref (w.2.1 + j) := by
    have : ρ t i.toNatClampNeg = some j := hj
    rw [this]; rfl
  rw [e1]
  exact kk p e s m' args below meth c H locs Ls C hR hS hl
theorem upd_up2 {f : Nat → Nat → Int32} {t q : Nat} {v : Int32} : upd (f t) q v = up2 f t q v t := by
  funext j
  simp only [upd, up2, if_true]
theorem g_iast {t m : Nat} {i x : Int32} (hk : kd t = .inr (0, m)) (ht : t < n) (hi : inb i m = true) (d : decode y.2.1 pc = .ok (.iastore, 1))
    (kk : G l w y (pc + 1) ls st (n, ρ, wr S t (ix i) x, k, z) P' r) : G l w y pc ls (.int x :: .int i :: .ref (w.2.1 + t) :: st) (n, ρ, S, k, z) P' r := by
  intro p e s m' args below meth c H locs Ls C hR hS hl
  have hset : (wls w n S ρ).set t (w.2.1 + t, .inl (w.2.2 0, m, .inl (upd (S.1 t) i.toNatClampNeg x))) = wls w n (wr S t (ix i) x) ρ := by
    refine wls_set ht ?_ (fun j hj => cel_cong (by simp [wr, up2_ne hj]) rfl rfl)
    rw [cel_a hk, arc_0]
    simp only [wr, ix, upd_up2]
  refine va_iast C.1 C.2.1 C.2.2.2.2.2.2.2.2.1.1 hR.1 wls_D hS t 0 (by rw [wls_at ht, cel_a hk, arc_0]) rfl (inb_in hi) d (fun H1 locs1 hP1 _ hS1 => ?_)
  rw [hset] at hP1
  exact kk p e s m' args below meth c H1 locs1 Ls C ⟨hP1, hR.2⟩ hS1 hl
theorem g_zast {t m : Nat} {i x : Int32} (hk : kd t = .inr (1, m)) (ht : t < n) (hi : inb i m = true) (hx : vp_nar .boolean x = x) (d : decode y.2.1 pc = .ok (.bastore, 1))
    (kk : G l w y (pc + 1) ls st (n, ρ, wr S t (ix i) x, k, z) P' r) : G l w y pc ls (.int x :: .int i :: .ref (w.2.1 + t) :: st) (n, ρ, S, k, z) P' r := by
  intro p e s m' args below meth c H locs Ls C hR hS hl
  have hset : (wls w n S ρ).set t (w.2.1 + t, .inl (w.2.2 1, m, .inl (upd (S.1 t) i.toNatClampNeg (vp_nar .boolean x)))) = wls w n (wr S t (ix i) x) ρ := by
    refine wls_set ht ?_ (fun j hj => cel_cong (by simp [wr, up2_ne hj]) rfl rfl)
    rw [cel_a hk, arc_1, hx]
    simp only [wr, ix, upd_up2]
  refine va_zast C.1 C.2.1 C.2.2.2.2.2.2.2.2.1.1 hR.1 wls_D hS t 1 (by rw [wls_at ht, cel_a hk, arc_1]) rfl (inb_in hi) d (fun H1 locs1 hP1 _ hS1 => ?_)
  rw [hset] at hP1
  exact kk p e s m' args below meth c H1 locs1 Ls C ⟨hP1, hR.2⟩ hS1 hl
theorem updL_up2 {f : Nat → Nat → Int64} {t q : Nat} {v : Int64} : vp_updL (f t) q v = up2 f t q v t := by
  funext j
  simp only [vp_updL, up2, if_true]
theorem g_last {t m : Nat} {i : Int32} {x : Int64} (hk : kd t = .inr (2, m)) (ht : t < n) (hi : inb i m = true) (d : decode y.2.1 pc = .ok (.lastore, 1))
    (kk : G l w y (pc + 1) ls st (n, ρ, wrL S t (ix i) x, k, z) P' r) : G l w y pc ls (.long x :: .int i :: .ref (w.2.1 + t) :: st) (n, ρ, S, k, z) P' r := by
  intro p e s m' args below meth c H locs Ls C hR hS hl
  have hset : (wls w n S ρ).set t (w.2.1 + t, .inl (w.2.2 2, m, .inr (.inl (vp_updL (S.2 t) i.toNatClampNeg x)))) = wls w n (wrL S t (ix i) x) ρ := by
    refine wls_set ht ?_ (fun j hj => cel_cong rfl (by simp [wrL, up2_ne hj]) rfl)
    rw [cel_a hk, arc_2]
    simp only [wrL, ix, updL_up2]
  refine va_last C.1 C.2.1 C.2.2.2.2.2.2.2.2.1.1 hR.1 wls_D hS t 2 (by rw [wls_at ht, cel_a hk, arc_2]) rfl (inb_in hi) d (fun H1 locs1 hP1 _ hS1 => ?_)
  rw [hset] at hP1
  exact kk p e s m' args below meth c H1 locs1 Ls C ⟨hP1, hR.2⟩ hS1 hl
end Heap
