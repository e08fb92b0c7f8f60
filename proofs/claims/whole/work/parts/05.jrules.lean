theorem vp_nar_b2i (q : Bool) : vp_nar .boolean (b2i q) = b2i q := by cases q <;> rfl
theorem nar_b2i (q : Bool) : narrow .boolean (.int (b2i q)) = .int (b2i q) := by cases q <;> rfl
def cpok (sp dp n : Int32) (n0 n1 : Nat) : Bool := decide (¬ sp < 0) && decide (¬ dp < 0) && decide (¬ n < 0) && decide (ix sp + ix n ≤ n0) && decide (ix dp + ix n ≤ n1)
/-- a call's words with the receiver's class -/
def CV (own : String) (idx na ci : Nat) (y' : MI) : Prop := CWV own idx na y' ∧ (∃ (TT : u_T) (NT : Nat), vwCl[ci]? = some (y'.1.cls, TT, NT)) ∧ y'.2.2.2.2.cells = 0 ∧ y'.2.2.2.2.slots = 0
def CS (own : String) (idx na : Nat) (y' : MI) : Prop := CWS own idx na y' ∧ y'.2.2.2.2.cells = 0 ∧ y'.2.2.2.2.slots = 0
def CN (own : String) (idx na : Nat) (y' : MI) (host : String) : Prop := CWN own idx na y' host ∧ Cond.static y'.1 ∈ gw ∧ y'.2.2.2.2.cells = 0 ∧ y'.2.2.2.2.slots = 0
section JRules
variable {l : Launch} {w : Wd} {y y' : MI} {pc idx na ci t : Nat} {ls : List (Nat × Value)} {st : List Value} {β : Type} {R : β → Option Value × St} {X : Option β} {S S' : St} {fl : List Bool} {As : List Value} {host : String}
theorem chk {q : Bool} {A : Option β} {b : β} (h : (if q = true then A else none) = some b) : q = true ∧ A = some b := by
  by_cases hq : q = true
  · rw [if_pos hq] at h; exact ⟨hq, h⟩
  · rw [if_neg hq] at h; cases h
theorem bnd {γ : Type} {F : Option γ} {K : γ → Option β} {b : β} (h : F.bind K = some b) : ∃ c, F = some c ∧ K c = some b := by
  cases F with
  | none => cases h
  | some c => exact ⟨c, rfl, h⟩
theorem j_idiv {x v : Int32} {A : Option β} (d : decode y.2.1 pc = .ok (.idiv, 1)) (kk : ¬ v = 0 → J l w y (pc + 1) ls (.int (x / v) :: st) S R A) : J l w y pc ls (.int v :: .int x :: st) S R (if v = 0 then none else A) := by
  intro b h
  by_cases hv : v = 0
  · rw [if_pos hv] at h; cases h
  · rw [if_neg hv] at h; exact g_idivL d hv (kk hv b h)
theorem j_irem {x v : Int32} {A : Option β} (d : decode y.2.1 pc = .ok (.irem, 1)) (kk : ¬ v = 0 → J l w y (pc + 1) ls (.int (x - x / v * v) :: st) S R A) : J l w y pc ls (.int v :: .int x :: st) S R (if v = 0 then none else A) := by
  intro b h
  by_cases hv : v = 0
  · rw [if_pos hv] at h; cases h
  · rw [if_neg hv] at h; exact g_iremL d hv (kk hv b h)
theorem j_iret {v : Int32} {b : β} (hr : y.2.2.2.1 = some .int) (d : decode y.2.1 pc = .ok (.ireturn, 1)) (hb : R b = (some (.int v), S)) : J l w y pc ls [.int v] S R (some b) := by
  intro b' h p e s m args below meth c H locs Ls C hR hS hl
  cases h
  rw [hb]
  exact W.iret (v := v) C.1 C.2.1 (C.2.2.2.2.2.1.trans hr) (fun t ht hW => ⟨rfl, by rw [ht]; exact hR.1, KK.warm hW C.2.2.2.2.2.2.2.2.1, hS.F ht⟩) hS.2.2 d C.2.2.2.2.2.2.1
theorem j_zret {v : Int32} {b : β} {q : Bool} (hv : v = b2i q) (hr : y.2.2.2.1 = some .boolean) (d : decode y.2.1 pc = .ok (.ireturn, 1)) (hb : R b = (some (.int (b2i q)), S)) : J l w y pc ls [.int v] S R (some b) := by
  subst hv
  intro b' h p e s m args below meth c H locs Ls C hR hS hl
  cases h
  rw [hb]
  exact W.zret (v := b2i q) C.1 C.2.1 (C.2.2.2.2.2.1.trans hr) (nar_b2i q) (fun t ht hW => ⟨rfl, by rw [ht]; exact hR.1, KK.warm hW C.2.2.2.2.2.2.2.2.1, hS.F ht⟩) hS.2.2 d C.2.2.2.2.2.2.1
theorem j_lret {v : Int64} {b : β} (hr : y.2.2.2.1 = some .long) (d : decode y.2.1 pc = .ok (.lreturn, 1)) (hb : R b = (some (.long v), S)) : J l w y pc ls [.long v] S R (some b) := by
  intro b' h p e s m args below meth c H locs Ls C hR hS hl
  cases h
  rw [hb]
  exact W.lret (v := v) C.1 C.2.1 (C.2.2.2.2.2.1.trans hr) (fun t ht hW => ⟨rfl, by rw [ht]; exact hR.1, KK.warm hW C.2.2.2.2.2.2.2.2.1, hS.F ht⟩) hS.2.2 d C.2.2.2.2.2.2.1
theorem j_vret {b : β} (hr : y.2.2.2.1 = none) (d : decode y.2.1 pc = .ok (.return_, 1)) (hb : R b = (none, S)) : J l w y pc ls [] S R (some b) := by
  intro b' h p e s m args below meth c H locs Ls C hR hS hl
  cases h
  rw [hb]
  exact W.vret C.1 C.2.1 (C.2.2.2.2.2.1.trans hr) (fun t ht hW => ⟨rfl, by rw [ht]; exact hR.1, KK.warm hW C.2.2.2.2.2.2.2.2.1, hS.F ht⟩) hS.2.2 d C.2.2.2.2.2.2.1
theorem j_cpI {i j n0 n1 : Nat} {sp dp n : Int32} {A : Option β} (hm : Cond.methodLink y.1.cls idx arraycopyName ∈ gw) (hnat : Cond.native arraycopyName ∈ gw) (hstat : Cond.static arraycopyName ∈ gw) (hini : Cond.initialized "java/lang/System" ∈ gw) (hi : kd i = .inr (0, n0)) (hj : kd j = .inr (0, n1)) (hij : i < NN ∧ j < NN) (hfr : 1 ≤ y.2.2.2.2.frames) (hlo : (st.map fun v => v.category).sum + (nativeFrameWords "java/lang/System" "arraycopy" 5 + 11) ≤ y.2.2.2.2.locals) (d : decode y.2.1 pc = .ok (.invokestatic idx, 3))
    (kk : J l w y (pc + 3) ls st (cpI S i j (ix sp) (ix dp) (ix n)) R A) : J l w y pc ls (.int n :: .int dp :: .ref (w.2.1 + j) :: .int sp :: .ref (w.2.1 + i) :: st) S R (if cpok sp dp n n0 n1 = true then A else none) := by
  intro b hb p e s m args below meth c H locs Ls C hR hS hl
  obtain ⟨hq, hb⟩ := chk hb
  simp only [cpok, Bool.and_eq_true, decide_eq_true_eq] at hq
  obtain ⟨⟨⟨⟨q1, q2⟩, q3⟩, q4⟩, q5⟩ := hq
  refine va_copyi (f := S.1 i) (g := S.1 j) (ty := .int) C.1 C.2.1 (C.2.2.1.trans hl.1.symm) C.2.2.2.1 (C.2.2.2.2.1 _ hm) (C.2.2.2.2.1 _ hnat) (C.2.2.2.2.1 _ hstat) (C.2.2.2.2.1 _ hini) C.2.2.2.2.2.2.2.2.1.1 hR.1 wls_D hS i j 0 0 (by rw [wls_at hij.1, cel_a hi]; rfl) (by rw [wls_at hij.2, cel_a hj]; rfl) rfl rfl rfl q1 q2 q3 q4 q5 (fun _ _ => rfl) hfr hlo d (fun H1 locs1 hP1 _ hS1 => ?_)
  have hset : (wls w NN S rho).set j (w.2.1 + j, .inl (w.2.2 0, n1, .inl (va_cpy (S.1 i) (S.1 j) sp.toNatClampNeg dp.toNatClampNeg n.toNatClampNeg))) = wls w NN (cpI S i j (ix sp) (ix dp) (ix n)) rho := by
    refine wls_set hij.2 ?_ (fun q hq => cel_cong (by simp [cpI, upA_ne hq]) rfl rfl)
    rw [cel_a hj, arc_0]
    simp only [cpI, ix, upA_eq]
  rw [hset] at hP1
  exact kk b hb p e s m args below meth c H1 locs1 Ls C ⟨hP1, hR.2⟩ hS1 hl
theorem j_cpL {i j n0 n1 : Nat} {sp dp n : Int32} {A : Option β} (hm : Cond.methodLink y.1.cls idx arraycopyName ∈ gw) (hnat : Cond.native arraycopyName ∈ gw) (hstat : Cond.static arraycopyName ∈ gw) (hini : Cond.initialized "java/lang/System" ∈ gw) (hi : kd i = .inr (2, n0)) (hj : kd j = .inr (2, n1)) (hij : i < NN ∧ j < NN) (hfr : 1 ≤ y.2.2.2.2.frames) (hlo : (st.map fun v => v.category).sum + (nativeFrameWords "java/lang/System" "arraycopy" 5 + 11) ≤ y.2.2.2.2.locals) (d : decode y.2.1 pc = .ok (.invokestatic idx, 3))
    (kk : J l w y (pc + 3) ls st (cpL S i j (ix sp) (ix dp) (ix n)) R A) : J l w y pc ls (.int n :: .int dp :: .ref (w.2.1 + j) :: .int sp :: .ref (w.2.1 + i) :: st) S R (if cpok sp dp n n0 n1 = true then A else none) := by
  intro b hb p e s m args below meth c H locs Ls C hR hS hl
  obtain ⟨hq, hb⟩ := chk hb
  simp only [cpok, Bool.and_eq_true, decide_eq_true_eq] at hq
  obtain ⟨⟨⟨⟨q1, q2⟩, q3⟩, q4⟩, q5⟩ := hq
  refine va_copyl (f := S.2 i) (g := S.2 j) (ty := .long) C.1 C.2.1 (C.2.2.1.trans hl.1.symm) C.2.2.2.1 (C.2.2.2.2.1 _ hm) (C.2.2.2.2.1 _ hnat) (C.2.2.2.2.1 _ hstat) (C.2.2.2.2.1 _ hini) C.2.2.2.2.2.2.2.2.1.1 hR.1 wls_D hS i j 2 2 (by rw [wls_at hij.1, cel_a hi]; rfl) (by rw [wls_at hij.2, cel_a hj]; rfl) rfl rfl rfl q1 q2 q3 q4 q5 (fun _ _ => rfl) hfr hlo d (fun H1 locs1 hP1 _ hS1 => ?_)
  have hset : (wls w NN S rho).set j (w.2.1 + j, .inl (w.2.2 2, n1, .inr (.inl (va_cpy (S.2 i) (S.2 j) sp.toNatClampNeg dp.toNatClampNeg n.toNatClampNeg)))) = wls w NN (cpL S i j (ix sp) (ix dp) (ix n)) rho := by
    refine wls_set hij.2 ?_ (fun q hq => cel_cong rfl (by simp [cpL, upA_ne hq]) rfl)
    rw [cel_a hj, arc_2]
    simp only [cpL, ix, upA_eq]
  rw [hset] at hP1
  exact kk b hb p e s m args below meth c H1 locs1 Ls C ⟨hP1, hR.2⟩ hS1 hl
theorem j_aret {v : Value} {b : β} {rt : FieldType} (hr : y.2.2.2.1 = some rt) (d : decode y.2.1 pc = .ok (.areturn, 1)) (hrt : (∃ n, rt = .object n) ∨ ∃ t, rt = .array t) (hv : v = .null ∨ ∃ a, v = .ref a) (hb : R b = (some v, S)) : J l w y pc ls [v] S R (some b) := by
  intro b' h p e s m args below meth c H locs Ls C hR hS hl
  cases h
  rw [hb]
  exact W.aret (v := v) C.1 C.2.1 (C.2.2.2.2.2.1.trans hr) hrt hv (fun t ht hW => ⟨rfl, by rw [ht]; exact hR.1, KK.warm hW C.2.2.2.2.2.2.2.2.1, hS.F ht⟩) hS.2.2 d C.2.2.2.2.2.2.1

theorem j_iald {m : Nat} {i : Int32} {A : Option β} (hk : kd t = .inr (0, m)) (d : decode y.2.1 pc = .ok (.iaload, 1)) (kk : inb i m = true → J l w y (pc + 1) ls (.int (rd S t (ix i)) :: st) S R A) : J l w y pc ls (.int i :: .ref (w.2.1 + t) :: st) S R (if inb i m = true then A else none) := fun b h => g_iald hk (kd_ltA hk (inb_lt (chk h).1)) (chk h).1 d (kk (chk h).1 b (chk h).2)
theorem j_ialdL {m : Nat} {i : Int32} (hk : kd t = .inr (0, m)) (hi : inb i m = true) (d : decode y.2.1 pc = .ok (.iaload, 1)) (kk : J l w y (pc + 1) ls (.int (rd S t (ix i)) :: st) S R X) : J l w y pc ls (.int i :: .ref (w.2.1 + t) :: st) S R X := fun b h => g_iald hk (kd_ltA hk (inb_lt hi)) hi d (kk b h)
theorem j_zald {m : Nat} {i : Int32} {A : Option β} (hk : kd t = .inr (1, m)) (d : decode y.2.1 pc = .ok (.baload, 1)) (kk : inb i m = true → J l w y (pc + 1) ls (.int (rd S t (ix i)) :: st) S R A) : J l w y pc ls (.int i :: .ref (w.2.1 + t) :: st) S R (if inb i m = true then A else none) := fun b h => g_zald hk (kd_ltA hk (inb_lt (chk h).1)) (chk h).1 d (kk (chk h).1 b (chk h).2)
theorem j_zaldL {m : Nat} {i : Int32} (hk : kd t = .inr (1, m)) (hi : inb i m = true) (d : decode y.2.1 pc = .ok (.baload, 1)) (kk : J l w y (pc + 1) ls (.int (rd S t (ix i)) :: st) S R X) : J l w y pc ls (.int i :: .ref (w.2.1 + t) :: st) S R X := fun b h => g_zald hk (kd_ltA hk (inb_lt hi)) hi d (kk b h)
theorem j_lald {m : Nat} {i : Int32} {A : Option β} (hk : kd t = .inr (2, m)) (d : decode y.2.1 pc = .ok (.laload, 1)) (kk : inb i m = true → J l w y (pc + 1) ls (.long (rdL S t (ix i)) :: st) S R A) : J l w y pc ls (.int i :: .ref (w.2.1 + t) :: st) S R (if inb i m = true then A else none) := fun b h => g_lald hk (kd_ltA hk (inb_lt (chk h).1)) (chk h).1 d (kk (chk h).1 b (chk h).2)
theorem j_laldL {m : Nat} {i : Int32} (hk : kd t = .inr (2, m)) (hi : inb i m = true) (d : decode y.2.1 pc = .ok (.laload, 1)) (kk : J l w y (pc + 1) ls (.long (rdL S t (ix i)) :: st) S R X) : J l w y pc ls (.int i :: .ref (w.2.1 + t) :: st) S R X := fun b h => g_lald hk (kd_ltA hk (inb_lt hi)) hi d (kk b h)
theorem j_aald {m tt j : Nat} {i : Int32} {A : Option β} {CC : String} (hk : kd t = .inr (tt + 3, m)) (hty : (tys w)[tt + 3]? = some (w.2.2 (tt + 3), .object CC)) (hj : rho t (ix i) = some j) (d : decode y.2.1 pc = .ok (.aaload, 1)) (kk : inb i m = true → J l w y (pc + 1) ls (.ref (w.2.1 + j) :: st) S R A) : J l w y pc ls (.int i :: .ref (w.2.1 + t) :: st) S R (if inb i m = true then A else none) := fun b h => g_aald hk (kd_ltA hk (inb_lt (chk h).1)) (chk h).1 hty hj d (kk (chk h).1 b (chk h).2)
theorem j_iast {m : Nat} {i : Int32} {x : Int32} {A : Option β} (hk : kd t = .inr (0, m)) (d : decode y.2.1 pc = .ok (.iastore, 1)) (kk : inb i m = true → J l w y (pc + 1) ls st (wr S t (ix i) x) R A) : J l w y pc ls (.int x :: .int i :: .ref (w.2.1 + t) :: st) S R (if inb i m = true then A else none) := fun b h => g_iast hk (kd_ltA hk (inb_lt (chk h).1)) (chk h).1 d (kk (chk h).1 b (chk h).2)
theorem j_iastL {m : Nat} {i : Int32} {x : Int32} (hk : kd t = .inr (0, m)) (hi : inb i m = true) (d : decode y.2.1 pc = .ok (.iastore, 1)) (kk : J l w y (pc + 1) ls st (wr S t (ix i) x) R X) : J l w y pc ls (.int x :: .int i :: .ref (w.2.1 + t) :: st) S R X := fun b h => g_iast hk (kd_ltA hk (inb_lt hi)) hi d (kk b h)
theorem j_zast {m : Nat} {i : Int32} {x : Int32} {A : Option β} (hk : kd t = .inr (1, m)) (hx : vp_nar .boolean x = x) (d : decode y.2.1 pc = .ok (.bastore, 1)) (kk : inb i m = true → J l w y (pc + 1) ls st (wr S t (ix i) x) R A) : J l w y pc ls (.int x :: .int i :: .ref (w.2.1 + t) :: st) S R (if inb i m = true then A else none) := fun b h => g_zast hk (kd_ltA hk (inb_lt (chk h).1)) (chk h).1 hx d (kk (chk h).1 b (chk h).2)
theorem j_zastL {m : Nat} {i : Int32} {x : Int32} (hk : kd t = .inr (1, m)) (hi : inb i m = true) (hx : vp_nar .boolean x = x) (d : decode y.2.1 pc = .ok (.bastore, 1)) (kk : J l w y (pc + 1) ls st (wr S t (ix i) x) R X) : J l w y pc ls (.int x :: .int i :: .ref (w.2.1 + t) :: st) S R X := fun b h => g_zast hk (kd_ltA hk (inb_lt hi)) hi hx d (kk b h)
theorem j_last {m : Nat} {i : Int32} {x : Int64} {A : Option β} (hk : kd t = .inr (2, m)) (d : decode y.2.1 pc = .ok (.lastore, 1)) (kk : inb i m = true → J l w y (pc + 1) ls st (wrL S t (ix i) x) R A) : J l w y pc ls (.long x :: .int i :: .ref (w.2.1 + t) :: st) S R (if inb i m = true then A else none) := fun b h => g_last hk (kd_ltA hk (inb_lt (chk h).1)) (chk h).1 d (kk (chk h).1 b (chk h).2)
theorem j_lastL {m : Nat} {i : Int32} {x : Int64} (hk : kd t = .inr (2, m)) (hi : inb i m = true) (d : decode y.2.1 pc = .ok (.lastore, 1)) (kk : J l w y (pc + 1) ls st (wrL S t (ix i) x) R X) : J l w y pc ls (.long x :: .int i :: .ref (w.2.1 + t) :: st) S R X := fun b h => g_last hk (kd_ltA hk (inb_lt hi)) hi d (kk b h)
theorem j_callViT {v : Int32} (hc : CV y.1.cls idx na ci y') (hM : RM y y') (hk : kd t = .inl (ci, fl)) (hn : As.length = na) (hst : (st.map fun v => v.category).sum ≤ 8) (d : decode y.2.1 pc = .ok (.invokevirtual idx, 3)) (hC : CtS l w y' (.ref (w.2.1 + t) :: As) S S' (some (.int (v)))) (kk : J l w y (pc + 3) ls (.int (v) :: st) S' R X) : J l w y pc ls (As.reverse ++ .ref (w.2.1 + t) :: st) S R X := fun b h => hc.2.1.elim fun TT hc' => hc'.elim fun NT hcl => g_callV hc.1 hM hk hcl (kd_lt hk) hc.2.2.1 hc.2.2.2 hn hst ⟨Nat.zero_le _, Nat.zero_le _⟩ (by decide) rfl d (hC) (kk b h)
theorem j_callViR {F : Option Int32} {K : Int32 → Option β} (hc : CV y.1.cls idx na ci y') (hM : RM y y') (hk : kd t = .inl (ci, fl)) (hn : As.length = na) (hst : (st.map fun v => v.category).sum ≤ 8) (d : decode y.2.1 pc = .ok (.invokevirtual idx, 3)) (hC : ∀ v, F = some v → CtS l w y' (.ref (w.2.1 + t) :: As) S S (some (.int (v)))) (kk : ∀ v, F = some v → J l w y (pc + 3) ls (.int (v) :: st) S R (K v)) : J l w y pc ls (As.reverse ++ .ref (w.2.1 + t) :: st) S R (F.bind K) := fun b h => by
  obtain ⟨v, h1, h2⟩ := bnd h
  exact hc.2.1.elim fun TT hc' => hc'.elim fun NT hcl => g_callV hc.1 hM hk hcl (kd_lt hk) hc.2.2.1 hc.2.2.2 hn hst ⟨Nat.zero_le _, Nat.zero_le _⟩ (by decide) rfl d (hC v h1) (kk v h1 b h2)
theorem j_callViS {F : Option (Int32 × St)} {K : Int32 × St → Option β} (hc : CV y.1.cls idx na ci y') (hM : RM y y') (hk : kd t = .inl (ci, fl)) (hn : As.length = na) (hst : (st.map fun v => v.category).sum ≤ 8) (d : decode y.2.1 pc = .ok (.invokevirtual idx, 3)) (hC : ∀ v, F = some v → CtS l w y' (.ref (w.2.1 + t) :: As) S v.2 (some (.int (v.1)))) (kk : ∀ v, F = some v → J l w y (pc + 3) ls (.int (v.1) :: st) v.2 R (K v)) : J l w y pc ls (As.reverse ++ .ref (w.2.1 + t) :: st) S R (F.bind K) := fun b h => by
  obtain ⟨v, h1, h2⟩ := bnd h
  exact hc.2.1.elim fun TT hc' => hc'.elim fun NT hcl => g_callV hc.1 hM hk hcl (kd_lt hk) hc.2.2.1 hc.2.2.2 hn hst ⟨Nat.zero_le _, Nat.zero_le _⟩ (by decide) rfl d (hC v h1) (kk v h1 b h2)
theorem j_callVzT {v : Bool} (hc : CV y.1.cls idx na ci y') (hM : RM y y') (hk : kd t = .inl (ci, fl)) (hn : As.length = na) (hst : (st.map fun v => v.category).sum ≤ 8) (d : decode y.2.1 pc = .ok (.invokevirtual idx, 3)) (hC : CtS l w y' (.ref (w.2.1 + t) :: As) S S' (some (.int (b2i (v))))) (kk : J l w y (pc + 3) ls (.int (b2i (v)) :: st) S' R X) : J l w y pc ls (As.reverse ++ .ref (w.2.1 + t) :: st) S R X := fun b h => hc.2.1.elim fun TT hc' => hc'.elim fun NT hcl => g_callV hc.1 hM hk hcl (kd_lt hk) hc.2.2.1 hc.2.2.2 hn hst ⟨Nat.zero_le _, Nat.zero_le _⟩ (by decide) rfl d (hC) (kk b h)
theorem j_callVzR {F : Option Bool} {K : Bool → Option β} (hc : CV y.1.cls idx na ci y') (hM : RM y y') (hk : kd t = .inl (ci, fl)) (hn : As.length = na) (hst : (st.map fun v => v.category).sum ≤ 8) (d : decode y.2.1 pc = .ok (.invokevirtual idx, 3)) (hC : ∀ v, F = some v → CtS l w y' (.ref (w.2.1 + t) :: As) S S (some (.int (b2i (v))))) (kk : ∀ v, F = some v → J l w y (pc + 3) ls (.int (b2i (v)) :: st) S R (K v)) : J l w y pc ls (As.reverse ++ .ref (w.2.1 + t) :: st) S R (F.bind K) := fun b h => by
  obtain ⟨v, h1, h2⟩ := bnd h
  exact hc.2.1.elim fun TT hc' => hc'.elim fun NT hcl => g_callV hc.1 hM hk hcl (kd_lt hk) hc.2.2.1 hc.2.2.2 hn hst ⟨Nat.zero_le _, Nat.zero_le _⟩ (by decide) rfl d (hC v h1) (kk v h1 b h2)
theorem j_callVzS {F : Option (Bool × St)} {K : Bool × St → Option β} (hc : CV y.1.cls idx na ci y') (hM : RM y y') (hk : kd t = .inl (ci, fl)) (hn : As.length = na) (hst : (st.map fun v => v.category).sum ≤ 8) (d : decode y.2.1 pc = .ok (.invokevirtual idx, 3)) (hC : ∀ v, F = some v → CtS l w y' (.ref (w.2.1 + t) :: As) S v.2 (some (.int (b2i (v.1))))) (kk : ∀ v, F = some v → J l w y (pc + 3) ls (.int (b2i (v.1)) :: st) v.2 R (K v)) : J l w y pc ls (As.reverse ++ .ref (w.2.1 + t) :: st) S R (F.bind K) := fun b h => by
  obtain ⟨v, h1, h2⟩ := bnd h
  exact hc.2.1.elim fun TT hc' => hc'.elim fun NT hcl => g_callV hc.1 hM hk hcl (kd_lt hk) hc.2.2.1 hc.2.2.2 hn hst ⟨Nat.zero_le _, Nat.zero_le _⟩ (by decide) rfl d (hC v h1) (kk v h1 b h2)
theorem j_callVlT {v : Int64} (hc : CV y.1.cls idx na ci y') (hM : RM y y') (hk : kd t = .inl (ci, fl)) (hn : As.length = na) (hst : (st.map fun v => v.category).sum ≤ 8) (d : decode y.2.1 pc = .ok (.invokevirtual idx, 3)) (hC : CtS l w y' (.ref (w.2.1 + t) :: As) S S' (some (.long (v)))) (kk : J l w y (pc + 3) ls (.long (v) :: st) S' R X) : J l w y pc ls (As.reverse ++ .ref (w.2.1 + t) :: st) S R X := fun b h => hc.2.1.elim fun TT hc' => hc'.elim fun NT hcl => g_callV hc.1 hM hk hcl (kd_lt hk) hc.2.2.1 hc.2.2.2 hn hst ⟨Nat.zero_le _, Nat.zero_le _⟩ (by decide) rfl d (hC) (kk b h)
theorem j_callVlR {F : Option Int64} {K : Int64 → Option β} (hc : CV y.1.cls idx na ci y') (hM : RM y y') (hk : kd t = .inl (ci, fl)) (hn : As.length = na) (hst : (st.map fun v => v.category).sum ≤ 8) (d : decode y.2.1 pc = .ok (.invokevirtual idx, 3)) (hC : ∀ v, F = some v → CtS l w y' (.ref (w.2.1 + t) :: As) S S (some (.long (v)))) (kk : ∀ v, F = some v → J l w y (pc + 3) ls (.long (v) :: st) S R (K v)) : J l w y pc ls (As.reverse ++ .ref (w.2.1 + t) :: st) S R (F.bind K) := fun b h => by
  obtain ⟨v, h1, h2⟩ := bnd h
  exact hc.2.1.elim fun TT hc' => hc'.elim fun NT hcl => g_callV hc.1 hM hk hcl (kd_lt hk) hc.2.2.1 hc.2.2.2 hn hst ⟨Nat.zero_le _, Nat.zero_le _⟩ (by decide) rfl d (hC v h1) (kk v h1 b h2)
theorem j_callVlS {F : Option (Int64 × St)} {K : Int64 × St → Option β} (hc : CV y.1.cls idx na ci y') (hM : RM y y') (hk : kd t = .inl (ci, fl)) (hn : As.length = na) (hst : (st.map fun v => v.category).sum ≤ 8) (d : decode y.2.1 pc = .ok (.invokevirtual idx, 3)) (hC : ∀ v, F = some v → CtS l w y' (.ref (w.2.1 + t) :: As) S v.2 (some (.long (v.1)))) (kk : ∀ v, F = some v → J l w y (pc + 3) ls (.long (v.1) :: st) v.2 R (K v)) : J l w y pc ls (As.reverse ++ .ref (w.2.1 + t) :: st) S R (F.bind K) := fun b h => by
  obtain ⟨v, h1, h2⟩ := bnd h
  exact hc.2.1.elim fun TT hc' => hc'.elim fun NT hcl => g_callV hc.1 hM hk hcl (kd_lt hk) hc.2.2.1 hc.2.2.2 hn hst ⟨Nat.zero_le _, Nat.zero_le _⟩ (by decide) rfl d (hC v h1) (kk v h1 b h2)
theorem j_callVqT {v : (Option Nat)} (hc : CV y.1.cls idx na ci y') (hM : RM y y') (hk : kd t = .inl (ci, fl)) (hn : As.length = na) (hst : (st.map fun v => v.category).sum ≤ 8) (d : decode y.2.1 pc = .ok (.invokevirtual idx, 3)) (hC : CtS l w y' (.ref (w.2.1 + t) :: As) S S' (some (va_rf ((v).map (fun j => w.2.1 + j))))) (kk : J l w y (pc + 3) ls (va_rf ((v).map (fun j => w.2.1 + j)) :: st) S' R X) : J l w y pc ls (As.reverse ++ .ref (w.2.1 + t) :: st) S R X := fun b h => hc.2.1.elim fun TT hc' => hc'.elim fun NT hcl => g_callV hc.1 hM hk hcl (kd_lt hk) hc.2.2.1 hc.2.2.2 hn hst ⟨Nat.zero_le _, Nat.zero_le _⟩ (by decide) rfl d (hC) (kk b h)
theorem j_callVqR {F : Option (Option Nat)} {K : (Option Nat) → Option β} (hc : CV y.1.cls idx na ci y') (hM : RM y y') (hk : kd t = .inl (ci, fl)) (hn : As.length = na) (hst : (st.map fun v => v.category).sum ≤ 8) (d : decode y.2.1 pc = .ok (.invokevirtual idx, 3)) (hC : ∀ v, F = some v → CtS l w y' (.ref (w.2.1 + t) :: As) S S (some (va_rf ((v).map (fun j => w.2.1 + j))))) (kk : ∀ v, F = some v → J l w y (pc + 3) ls (va_rf ((v).map (fun j => w.2.1 + j)) :: st) S R (K v)) : J l w y pc ls (As.reverse ++ .ref (w.2.1 + t) :: st) S R (F.bind K) := fun b h => by
  obtain ⟨v, h1, h2⟩ := bnd h
  exact hc.2.1.elim fun TT hc' => hc'.elim fun NT hcl => g_callV hc.1 hM hk hcl (kd_lt hk) hc.2.2.1 hc.2.2.2 hn hst ⟨Nat.zero_le _, Nat.zero_le _⟩ (by decide) rfl d (hC v h1) (kk v h1 b h2)
theorem j_callVqS {F : Option ((Option Nat) × St)} {K : (Option Nat) × St → Option β} (hc : CV y.1.cls idx na ci y') (hM : RM y y') (hk : kd t = .inl (ci, fl)) (hn : As.length = na) (hst : (st.map fun v => v.category).sum ≤ 8) (d : decode y.2.1 pc = .ok (.invokevirtual idx, 3)) (hC : ∀ v, F = some v → CtS l w y' (.ref (w.2.1 + t) :: As) S v.2 (some (va_rf ((v.1).map (fun j => w.2.1 + j))))) (kk : ∀ v, F = some v → J l w y (pc + 3) ls (va_rf ((v.1).map (fun j => w.2.1 + j)) :: st) v.2 R (K v)) : J l w y pc ls (As.reverse ++ .ref (w.2.1 + t) :: st) S R (F.bind K) := fun b h => by
  obtain ⟨v, h1, h2⟩ := bnd h
  exact hc.2.1.elim fun TT hc' => hc'.elim fun NT hcl => g_callV hc.1 hM hk hcl (kd_lt hk) hc.2.2.1 hc.2.2.2 hn hst ⟨Nat.zero_le _, Nat.zero_le _⟩ (by decide) rfl d (hC v h1) (kk v h1 b h2)
theorem j_callVvT (hc : CV y.1.cls idx na ci y') (hM : RM y y') (hk : kd t = .inl (ci, fl)) (hn : As.length = na) (hst : (st.map fun v => v.category).sum ≤ 8) (d : decode y.2.1 pc = .ok (.invokevirtual idx, 3)) (hC : CtS l w y' (.ref (w.2.1 + t) :: As) S S' none) (kk : J l w y (pc + 3) ls st S' R X) : J l w y pc ls (As.reverse ++ .ref (w.2.1 + t) :: st) S R X := fun b h => hc.2.1.elim fun TT hc' => hc'.elim fun NT hcl => g_callV hc.1 hM hk hcl (kd_lt hk) hc.2.2.1 hc.2.2.2 hn hst ⟨Nat.zero_le _, Nat.zero_le _⟩ (by decide) rfl d (hC) (kk b h)
theorem j_callVvS {F : Option St} {K : St → Option β} (hc : CV y.1.cls idx na ci y') (hM : RM y y') (hk : kd t = .inl (ci, fl)) (hn : As.length = na) (hst : (st.map fun v => v.category).sum ≤ 8) (d : decode y.2.1 pc = .ok (.invokevirtual idx, 3)) (hC : ∀ v, F = some v → CtS l w y' (.ref (w.2.1 + t) :: As) S v none) (kk : ∀ v, F = some v → J l w y (pc + 3) ls st v R (K v)) : J l w y pc ls (As.reverse ++ .ref (w.2.1 + t) :: st) S R (F.bind K) := fun b h => by
  obtain ⟨v, h1, h2⟩ := bnd h
  exact hc.2.1.elim fun TT hc' => hc'.elim fun NT hcl => g_callV hc.1 hM hk hcl (kd_lt hk) hc.2.2.1 hc.2.2.2 hn hst ⟨Nat.zero_le _, Nat.zero_le _⟩ (by decide) rfl d (hC v h1) (kk v h1 b h2)
theorem j_callSiT {v : Int32} (hc : CS y.1.cls idx na y') (hM : RM y y') (hn : As.length = na) (hst : (st.map fun v => v.category).sum ≤ 8) (d : decode y.2.1 pc = .ok (.invokestatic idx, 3)) (hC : CtS l w y' As S S' (some (.int (v)))) (kk : J l w y (pc + 3) ls (.int (v) :: st) S' R X) : J l w y pc ls (As.reverse ++ st) S R X := fun b h => g_callS hc.1 hM hc.2.1 hc.2.2 hn hst ⟨Nat.zero_le _, Nat.zero_le _⟩ (by decide) rfl d (hC) (kk b h)
theorem j_callSiR {F : Option Int32} {K : Int32 → Option β} (hc : CS y.1.cls idx na y') (hM : RM y y') (hn : As.length = na) (hst : (st.map fun v => v.category).sum ≤ 8) (d : decode y.2.1 pc = .ok (.invokestatic idx, 3)) (hC : ∀ v, F = some v → CtS l w y' As S S (some (.int (v)))) (kk : ∀ v, F = some v → J l w y (pc + 3) ls (.int (v) :: st) S R (K v)) : J l w y pc ls (As.reverse ++ st) S R (F.bind K) := fun b h => by
  obtain ⟨v, h1, h2⟩ := bnd h
  exact g_callS hc.1 hM hc.2.1 hc.2.2 hn hst ⟨Nat.zero_le _, Nat.zero_le _⟩ (by decide) rfl d (hC v h1) (kk v h1 b h2)
theorem j_callSiS {F : Option (Int32 × St)} {K : Int32 × St → Option β} (hc : CS y.1.cls idx na y') (hM : RM y y') (hn : As.length = na) (hst : (st.map fun v => v.category).sum ≤ 8) (d : decode y.2.1 pc = .ok (.invokestatic idx, 3)) (hC : ∀ v, F = some v → CtS l w y' As S v.2 (some (.int (v.1)))) (kk : ∀ v, F = some v → J l w y (pc + 3) ls (.int (v.1) :: st) v.2 R (K v)) : J l w y pc ls (As.reverse ++ st) S R (F.bind K) := fun b h => by
  obtain ⟨v, h1, h2⟩ := bnd h
  exact g_callS hc.1 hM hc.2.1 hc.2.2 hn hst ⟨Nat.zero_le _, Nat.zero_le _⟩ (by decide) rfl d (hC v h1) (kk v h1 b h2)
theorem j_callSzT {v : Bool} (hc : CS y.1.cls idx na y') (hM : RM y y') (hn : As.length = na) (hst : (st.map fun v => v.category).sum ≤ 8) (d : decode y.2.1 pc = .ok (.invokestatic idx, 3)) (hC : CtS l w y' As S S' (some (.int (b2i (v))))) (kk : J l w y (pc + 3) ls (.int (b2i (v)) :: st) S' R X) : J l w y pc ls (As.reverse ++ st) S R X := fun b h => g_callS hc.1 hM hc.2.1 hc.2.2 hn hst ⟨Nat.zero_le _, Nat.zero_le _⟩ (by decide) rfl d (hC) (kk b h)
theorem j_callSzR {F : Option Bool} {K : Bool → Option β} (hc : CS y.1.cls idx na y') (hM : RM y y') (hn : As.length = na) (hst : (st.map fun v => v.category).sum ≤ 8) (d : decode y.2.1 pc = .ok (.invokestatic idx, 3)) (hC : ∀ v, F = some v → CtS l w y' As S S (some (.int (b2i (v))))) (kk : ∀ v, F = some v → J l w y (pc + 3) ls (.int (b2i (v)) :: st) S R (K v)) : J l w y pc ls (As.reverse ++ st) S R (F.bind K) := fun b h => by
  obtain ⟨v, h1, h2⟩ := bnd h
  exact g_callS hc.1 hM hc.2.1 hc.2.2 hn hst ⟨Nat.zero_le _, Nat.zero_le _⟩ (by decide) rfl d (hC v h1) (kk v h1 b h2)
theorem j_callSzS {F : Option (Bool × St)} {K : Bool × St → Option β} (hc : CS y.1.cls idx na y') (hM : RM y y') (hn : As.length = na) (hst : (st.map fun v => v.category).sum ≤ 8) (d : decode y.2.1 pc = .ok (.invokestatic idx, 3)) (hC : ∀ v, F = some v → CtS l w y' As S v.2 (some (.int (b2i (v.1))))) (kk : ∀ v, F = some v → J l w y (pc + 3) ls (.int (b2i (v.1)) :: st) v.2 R (K v)) : J l w y pc ls (As.reverse ++ st) S R (F.bind K) := fun b h => by
  obtain ⟨v, h1, h2⟩ := bnd h
  exact g_callS hc.1 hM hc.2.1 hc.2.2 hn hst ⟨Nat.zero_le _, Nat.zero_le _⟩ (by decide) rfl d (hC v h1) (kk v h1 b h2)
theorem j_callSlT {v : Int64} (hc : CS y.1.cls idx na y') (hM : RM y y') (hn : As.length = na) (hst : (st.map fun v => v.category).sum ≤ 8) (d : decode y.2.1 pc = .ok (.invokestatic idx, 3)) (hC : CtS l w y' As S S' (some (.long (v)))) (kk : J l w y (pc + 3) ls (.long (v) :: st) S' R X) : J l w y pc ls (As.reverse ++ st) S R X := fun b h => g_callS hc.1 hM hc.2.1 hc.2.2 hn hst ⟨Nat.zero_le _, Nat.zero_le _⟩ (by decide) rfl d (hC) (kk b h)
theorem j_callSlR {F : Option Int64} {K : Int64 → Option β} (hc : CS y.1.cls idx na y') (hM : RM y y') (hn : As.length = na) (hst : (st.map fun v => v.category).sum ≤ 8) (d : decode y.2.1 pc = .ok (.invokestatic idx, 3)) (hC : ∀ v, F = some v → CtS l w y' As S S (some (.long (v)))) (kk : ∀ v, F = some v → J l w y (pc + 3) ls (.long (v) :: st) S R (K v)) : J l w y pc ls (As.reverse ++ st) S R (F.bind K) := fun b h => by
  obtain ⟨v, h1, h2⟩ := bnd h
  exact g_callS hc.1 hM hc.2.1 hc.2.2 hn hst ⟨Nat.zero_le _, Nat.zero_le _⟩ (by decide) rfl d (hC v h1) (kk v h1 b h2)
theorem j_callSlS {F : Option (Int64 × St)} {K : Int64 × St → Option β} (hc : CS y.1.cls idx na y') (hM : RM y y') (hn : As.length = na) (hst : (st.map fun v => v.category).sum ≤ 8) (d : decode y.2.1 pc = .ok (.invokestatic idx, 3)) (hC : ∀ v, F = some v → CtS l w y' As S v.2 (some (.long (v.1)))) (kk : ∀ v, F = some v → J l w y (pc + 3) ls (.long (v.1) :: st) v.2 R (K v)) : J l w y pc ls (As.reverse ++ st) S R (F.bind K) := fun b h => by
  obtain ⟨v, h1, h2⟩ := bnd h
  exact g_callS hc.1 hM hc.2.1 hc.2.2 hn hst ⟨Nat.zero_le _, Nat.zero_le _⟩ (by decide) rfl d (hC v h1) (kk v h1 b h2)
theorem j_callSqT {v : (Option Nat)} (hc : CS y.1.cls idx na y') (hM : RM y y') (hn : As.length = na) (hst : (st.map fun v => v.category).sum ≤ 8) (d : decode y.2.1 pc = .ok (.invokestatic idx, 3)) (hC : CtS l w y' As S S' (some (va_rf ((v).map (fun j => w.2.1 + j))))) (kk : J l w y (pc + 3) ls (va_rf ((v).map (fun j => w.2.1 + j)) :: st) S' R X) : J l w y pc ls (As.reverse ++ st) S R X := fun b h => g_callS hc.1 hM hc.2.1 hc.2.2 hn hst ⟨Nat.zero_le _, Nat.zero_le _⟩ (by decide) rfl d (hC) (kk b h)
theorem j_callSqR {F : Option (Option Nat)} {K : (Option Nat) → Option β} (hc : CS y.1.cls idx na y') (hM : RM y y') (hn : As.length = na) (hst : (st.map fun v => v.category).sum ≤ 8) (d : decode y.2.1 pc = .ok (.invokestatic idx, 3)) (hC : ∀ v, F = some v → CtS l w y' As S S (some (va_rf ((v).map (fun j => w.2.1 + j))))) (kk : ∀ v, F = some v → J l w y (pc + 3) ls (va_rf ((v).map (fun j => w.2.1 + j)) :: st) S R (K v)) : J l w y pc ls (As.reverse ++ st) S R (F.bind K) := fun b h => by
  obtain ⟨v, h1, h2⟩ := bnd h
  exact g_callS hc.1 hM hc.2.1 hc.2.2 hn hst ⟨Nat.zero_le _, Nat.zero_le _⟩ (by decide) rfl d (hC v h1) (kk v h1 b h2)
theorem j_callSqS {F : Option ((Option Nat) × St)} {K : (Option Nat) × St → Option β} (hc : CS y.1.cls idx na y') (hM : RM y y') (hn : As.length = na) (hst : (st.map fun v => v.category).sum ≤ 8) (d : decode y.2.1 pc = .ok (.invokestatic idx, 3)) (hC : ∀ v, F = some v → CtS l w y' As S v.2 (some (va_rf ((v.1).map (fun j => w.2.1 + j))))) (kk : ∀ v, F = some v → J l w y (pc + 3) ls (va_rf ((v.1).map (fun j => w.2.1 + j)) :: st) v.2 R (K v)) : J l w y pc ls (As.reverse ++ st) S R (F.bind K) := fun b h => by
  obtain ⟨v, h1, h2⟩ := bnd h
  exact g_callS hc.1 hM hc.2.1 hc.2.2 hn hst ⟨Nat.zero_le _, Nat.zero_le _⟩ (by decide) rfl d (hC v h1) (kk v h1 b h2)
theorem j_callSvT (hc : CS y.1.cls idx na y') (hM : RM y y') (hn : As.length = na) (hst : (st.map fun v => v.category).sum ≤ 8) (d : decode y.2.1 pc = .ok (.invokestatic idx, 3)) (hC : CtS l w y' As S S' none) (kk : J l w y (pc + 3) ls st S' R X) : J l w y pc ls (As.reverse ++ st) S R X := fun b h => g_callS hc.1 hM hc.2.1 hc.2.2 hn hst ⟨Nat.zero_le _, Nat.zero_le _⟩ (by decide) rfl d (hC) (kk b h)
theorem j_callSvS {F : Option St} {K : St → Option β} (hc : CS y.1.cls idx na y') (hM : RM y y') (hn : As.length = na) (hst : (st.map fun v => v.category).sum ≤ 8) (d : decode y.2.1 pc = .ok (.invokestatic idx, 3)) (hC : ∀ v, F = some v → CtS l w y' As S v none) (kk : ∀ v, F = some v → J l w y (pc + 3) ls st v R (K v)) : J l w y pc ls (As.reverse ++ st) S R (F.bind K) := fun b h => by
  obtain ⟨v, h1, h2⟩ := bnd h
  exact g_callS hc.1 hM hc.2.1 hc.2.2 hn hst ⟨Nat.zero_le _, Nat.zero_le _⟩ (by decide) rfl d (hC v h1) (kk v h1 b h2)
theorem j_callNiT {v : Int32} (hc : CN y.1.cls idx na y' host) (hM : RM y y') (hn : As.length = na) (hst : (st.map fun v => v.category).sum ≤ 8) (d : decode y.2.1 pc = .ok (.invokestatic idx, 3)) (hC : CtS l w y' As S S' (some (.int (v)))) (kk : J l w y (pc + 3) ls (.int (v) :: st) S' R X) : J l w y pc ls (As.reverse ++ st) S R X := fun b h => g_callSN hc.1 hc.2.1 hM hc.2.2.1 hc.2.2.2 hn hst ⟨Nat.zero_le _, Nat.zero_le _⟩ (by decide) rfl d (hC) (kk b h)
theorem j_callNiR {F : Option Int32} {K : Int32 → Option β} (hc : CN y.1.cls idx na y' host) (hM : RM y y') (hn : As.length = na) (hst : (st.map fun v => v.category).sum ≤ 8) (d : decode y.2.1 pc = .ok (.invokestatic idx, 3)) (hC : ∀ v, F = some v → CtS l w y' As S S (some (.int (v)))) (kk : ∀ v, F = some v → J l w y (pc + 3) ls (.int (v) :: st) S R (K v)) : J l w y pc ls (As.reverse ++ st) S R (F.bind K) := fun b h => by
  obtain ⟨v, h1, h2⟩ := bnd h
  exact g_callSN hc.1 hc.2.1 hM hc.2.2.1 hc.2.2.2 hn hst ⟨Nat.zero_le _, Nat.zero_le _⟩ (by decide) rfl d (hC v h1) (kk v h1 b h2)
theorem j_callNiS {F : Option (Int32 × St)} {K : Int32 × St → Option β} (hc : CN y.1.cls idx na y' host) (hM : RM y y') (hn : As.length = na) (hst : (st.map fun v => v.category).sum ≤ 8) (d : decode y.2.1 pc = .ok (.invokestatic idx, 3)) (hC : ∀ v, F = some v → CtS l w y' As S v.2 (some (.int (v.1)))) (kk : ∀ v, F = some v → J l w y (pc + 3) ls (.int (v.1) :: st) v.2 R (K v)) : J l w y pc ls (As.reverse ++ st) S R (F.bind K) := fun b h => by
  obtain ⟨v, h1, h2⟩ := bnd h
  exact g_callSN hc.1 hc.2.1 hM hc.2.2.1 hc.2.2.2 hn hst ⟨Nat.zero_le _, Nat.zero_le _⟩ (by decide) rfl d (hC v h1) (kk v h1 b h2)
theorem j_callNzT {v : Bool} (hc : CN y.1.cls idx na y' host) (hM : RM y y') (hn : As.length = na) (hst : (st.map fun v => v.category).sum ≤ 8) (d : decode y.2.1 pc = .ok (.invokestatic idx, 3)) (hC : CtS l w y' As S S' (some (.int (b2i (v))))) (kk : J l w y (pc + 3) ls (.int (b2i (v)) :: st) S' R X) : J l w y pc ls (As.reverse ++ st) S R X := fun b h => g_callSN hc.1 hc.2.1 hM hc.2.2.1 hc.2.2.2 hn hst ⟨Nat.zero_le _, Nat.zero_le _⟩ (by decide) rfl d (hC) (kk b h)
theorem j_callNzR {F : Option Bool} {K : Bool → Option β} (hc : CN y.1.cls idx na y' host) (hM : RM y y') (hn : As.length = na) (hst : (st.map fun v => v.category).sum ≤ 8) (d : decode y.2.1 pc = .ok (.invokestatic idx, 3)) (hC : ∀ v, F = some v → CtS l w y' As S S (some (.int (b2i (v))))) (kk : ∀ v, F = some v → J l w y (pc + 3) ls (.int (b2i (v)) :: st) S R (K v)) : J l w y pc ls (As.reverse ++ st) S R (F.bind K) := fun b h => by
  obtain ⟨v, h1, h2⟩ := bnd h
  exact g_callSN hc.1 hc.2.1 hM hc.2.2.1 hc.2.2.2 hn hst ⟨Nat.zero_le _, Nat.zero_le _⟩ (by decide) rfl d (hC v h1) (kk v h1 b h2)
theorem j_callNzS {F : Option (Bool × St)} {K : Bool × St → Option β} (hc : CN y.1.cls idx na y' host) (hM : RM y y') (hn : As.length = na) (hst : (st.map fun v => v.category).sum ≤ 8) (d : decode y.2.1 pc = .ok (.invokestatic idx, 3)) (hC : ∀ v, F = some v → CtS l w y' As S v.2 (some (.int (b2i (v.1))))) (kk : ∀ v, F = some v → J l w y (pc + 3) ls (.int (b2i (v.1)) :: st) v.2 R (K v)) : J l w y pc ls (As.reverse ++ st) S R (F.bind K) := fun b h => by
  obtain ⟨v, h1, h2⟩ := bnd h
  exact g_callSN hc.1 hc.2.1 hM hc.2.2.1 hc.2.2.2 hn hst ⟨Nat.zero_le _, Nat.zero_le _⟩ (by decide) rfl d (hC v h1) (kk v h1 b h2)
theorem j_callNlT {v : Int64} (hc : CN y.1.cls idx na y' host) (hM : RM y y') (hn : As.length = na) (hst : (st.map fun v => v.category).sum ≤ 8) (d : decode y.2.1 pc = .ok (.invokestatic idx, 3)) (hC : CtS l w y' As S S' (some (.long (v)))) (kk : J l w y (pc + 3) ls (.long (v) :: st) S' R X) : J l w y pc ls (As.reverse ++ st) S R X := fun b h => g_callSN hc.1 hc.2.1 hM hc.2.2.1 hc.2.2.2 hn hst ⟨Nat.zero_le _, Nat.zero_le _⟩ (by decide) rfl d (hC) (kk b h)
theorem j_callNlR {F : Option Int64} {K : Int64 → Option β} (hc : CN y.1.cls idx na y' host) (hM : RM y y') (hn : As.length = na) (hst : (st.map fun v => v.category).sum ≤ 8) (d : decode y.2.1 pc = .ok (.invokestatic idx, 3)) (hC : ∀ v, F = some v → CtS l w y' As S S (some (.long (v)))) (kk : ∀ v, F = some v → J l w y (pc + 3) ls (.long (v) :: st) S R (K v)) : J l w y pc ls (As.reverse ++ st) S R (F.bind K) := fun b h => by
  obtain ⟨v, h1, h2⟩ := bnd h
  exact g_callSN hc.1 hc.2.1 hM hc.2.2.1 hc.2.2.2 hn hst ⟨Nat.zero_le _, Nat.zero_le _⟩ (by decide) rfl d (hC v h1) (kk v h1 b h2)
theorem j_callNlS {F : Option (Int64 × St)} {K : Int64 × St → Option β} (hc : CN y.1.cls idx na y' host) (hM : RM y y') (hn : As.length = na) (hst : (st.map fun v => v.category).sum ≤ 8) (d : decode y.2.1 pc = .ok (.invokestatic idx, 3)) (hC : ∀ v, F = some v → CtS l w y' As S v.2 (some (.long (v.1)))) (kk : ∀ v, F = some v → J l w y (pc + 3) ls (.long (v.1) :: st) v.2 R (K v)) : J l w y pc ls (As.reverse ++ st) S R (F.bind K) := fun b h => by
  obtain ⟨v, h1, h2⟩ := bnd h
  exact g_callSN hc.1 hc.2.1 hM hc.2.2.1 hc.2.2.2 hn hst ⟨Nat.zero_le _, Nat.zero_le _⟩ (by decide) rfl d (hC v h1) (kk v h1 b h2)
theorem j_callNqT {v : (Option Nat)} (hc : CN y.1.cls idx na y' host) (hM : RM y y') (hn : As.length = na) (hst : (st.map fun v => v.category).sum ≤ 8) (d : decode y.2.1 pc = .ok (.invokestatic idx, 3)) (hC : CtS l w y' As S S' (some (va_rf ((v).map (fun j => w.2.1 + j))))) (kk : J l w y (pc + 3) ls (va_rf ((v).map (fun j => w.2.1 + j)) :: st) S' R X) : J l w y pc ls (As.reverse ++ st) S R X := fun b h => g_callSN hc.1 hc.2.1 hM hc.2.2.1 hc.2.2.2 hn hst ⟨Nat.zero_le _, Nat.zero_le _⟩ (by decide) rfl d (hC) (kk b h)
theorem j_callNqR {F : Option (Option Nat)} {K : (Option Nat) → Option β} (hc : CN y.1.cls idx na y' host) (hM : RM y y') (hn : As.length = na) (hst : (st.map fun v => v.category).sum ≤ 8) (d : decode y.2.1 pc = .ok (.invokestatic idx, 3)) (hC : ∀ v, F = some v → CtS l w y' As S S (some (va_rf ((v).map (fun j => w.2.1 + j))))) (kk : ∀ v, F = some v → J l w y (pc + 3) ls (va_rf ((v).map (fun j => w.2.1 + j)) :: st) S R (K v)) : J l w y pc ls (As.reverse ++ st) S R (F.bind K) := fun b h => by
  obtain ⟨v, h1, h2⟩ := bnd h
  exact g_callSN hc.1 hc.2.1 hM hc.2.2.1 hc.2.2.2 hn hst ⟨Nat.zero_le _, Nat.zero_le _⟩ (by decide) rfl d (hC v h1) (kk v h1 b h2)
theorem j_callNqS {F : Option ((Option Nat) × St)} {K : (Option Nat) × St → Option β} (hc : CN y.1.cls idx na y' host) (hM : RM y y') (hn : As.length = na) (hst : (st.map fun v => v.category).sum ≤ 8) (d : decode y.2.1 pc = .ok (.invokestatic idx, 3)) (hC : ∀ v, F = some v → CtS l w y' As S v.2 (some (va_rf ((v.1).map (fun j => w.2.1 + j))))) (kk : ∀ v, F = some v → J l w y (pc + 3) ls (va_rf ((v.1).map (fun j => w.2.1 + j)) :: st) v.2 R (K v)) : J l w y pc ls (As.reverse ++ st) S R (F.bind K) := fun b h => by
  obtain ⟨v, h1, h2⟩ := bnd h
  exact g_callSN hc.1 hc.2.1 hM hc.2.2.1 hc.2.2.2 hn hst ⟨Nat.zero_le _, Nat.zero_le _⟩ (by decide) rfl d (hC v h1) (kk v h1 b h2)
theorem j_callNvT (hc : CN y.1.cls idx na y' host) (hM : RM y y') (hn : As.length = na) (hst : (st.map fun v => v.category).sum ≤ 8) (d : decode y.2.1 pc = .ok (.invokestatic idx, 3)) (hC : CtS l w y' As S S' none) (kk : J l w y (pc + 3) ls st S' R X) : J l w y pc ls (As.reverse ++ st) S R X := fun b h => g_callSN hc.1 hc.2.1 hM hc.2.2.1 hc.2.2.2 hn hst ⟨Nat.zero_le _, Nat.zero_le _⟩ (by decide) rfl d (hC) (kk b h)
theorem j_callNvS {F : Option St} {K : St → Option β} (hc : CN y.1.cls idx na y' host) (hM : RM y y') (hn : As.length = na) (hst : (st.map fun v => v.category).sum ≤ 8) (d : decode y.2.1 pc = .ok (.invokestatic idx, 3)) (hC : ∀ v, F = some v → CtS l w y' As S v none) (kk : ∀ v, F = some v → J l w y (pc + 3) ls st v R (K v)) : J l w y pc ls (As.reverse ++ st) S R (F.bind K) := fun b h => by
  obtain ⟨v, h1, h2⟩ := bnd h
  exact g_callSN hc.1 hc.2.1 hM hc.2.2.1 hc.2.2.2 hn hst ⟨Nat.zero_le _, Nat.zero_le _⟩ (by decide) rfl d (hC v h1) (kk v h1 b h2)
theorem j_tabIn {dflt lo hi off : Int} {offs : Array Int} {len : Nat} (tgt : Nat) {x : Int32} (d : decode y.2.1 pc = .ok (.tableswitch dflt lo hi offs, len)) (h1 : ¬ x.toInt < lo) (h2 : ¬ hi < x.toInt) (ho : offs[(x.toInt - lo).toNat]? = some off) (ht : (pc : Int) + off = (tgt : Int)) (kk : J l w y tgt ls st S R X) : J l w y pc ls (.int x :: st) S R X := fun b h p e s m args below meth c H locs Ls C hR hS hl => lv_tableIn C.1 C.2.1 d h1 h2 ho ht (kk b h p e s m args below meth c H locs Ls C hR hS hl)
theorem j_tabOut {dflt lo hi : Int} {offs : Array Int} {len : Nat} (tgt : Nat) {x : Int32} (d : decode y.2.1 pc = .ok (.tableswitch dflt lo hi offs, len)) (h1 : x.toInt < lo ∨ hi < x.toInt) (ht : (pc : Int) + dflt = (tgt : Int)) (kk : J l w y tgt ls st S R X) : J l w y pc ls (.int x :: st) S R X := fun b h p e s m args below meth c H locs Ls C hR hS hl => lv_tableOut C.1 C.2.1 d h1 ht (kk b h p e s m args below meth c H locs Ls C hR hS hl)
theorem J.ct {av : List Value} (hlen : (lg_sl av).length ≤ y.2.2.1) (hpl : plainName y.1.cls = true) (h : J l w y 0 (lv_args 0 av) [] S R X) {b : β} (hb : X = some b) : CtS l w y av S (R b).2 (R b).1 := Ct.of hlen hpl (h b hb)
theorem kd_pl1 : ∀ t, t < 125 → kd t = KdPlace → kd (t + 1) = Kints 2 := by decide +kernel
theorem kd_so1 : ∀ t, t < 125 → kd t = KdSort → kd (t + 1) = Kints 60 := by decide +kernel
theorem kd_sh1 : ∀ t, t < 125 → kd t = KdSheet → kd (t + 1) = Kints 50 := by decide +kernel
theorem kd_PlaceA {t : Nat} (h : kd t = KdPlace) : kd (t + 1) = Kints 2 := kd_pl1 t (kd_lt h) h
theorem kd_SortA {t : Nat} (h : kd t = KdSort) : kd (t + 1) = Kints 60 := kd_so1 t (kd_lt h) h
theorem kd_SheetA {t : Nat} (h : kd t = KdSheet) : kd (t + 1) = Kints 50 := kd_sh1 t (kd_lt h) h
theorem kd_Pl : ∀ i, i < 12 → kd (20 + 2 * i) = KdPlace := by decide +kernel
theorem kd_So : ∀ i, i < 6 → kd (8 + 2 * i) = KdSort := by decide +kernel
theorem kd_PlK : ∀ i, i < 12 → kd (63 + 2 * i) = KdPlace := by decide +kernel
theorem kd_SoK : ∀ i, i < 6 → kd (51 + 2 * i) = KdSort := by decide +kernel
theorem kd_Sh : ∀ i, i < 4 → kd (88 + 2 * i) = KdSheet := by decide +kernel
theorem rho_2 (k : Nat) : rho 2 k = some (8 + 2 * k) := rfl
theorem rho_3 (k : Nat) : rho 3 k = some (20 + 2 * k) := rfl
theorem rho_45 (k : Nat) : rho 45 k = some (51 + 2 * k) := rfl
theorem rho_46 (k : Nat) : rho 46 k = some (63 + 2 * k) := rfl
theorem rho_87 (k : Nat) : rho 87 k = some (88 + 2 * k) := rfl
end JRules
