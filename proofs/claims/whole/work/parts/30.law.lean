/-! THE CLAIM OUT OF ONE WALK OF THE LAW'S BODY. Your part is whole_start (and what it stands on); all else here is the same for every law, but numbers. -/
def R_law : String := "OrchardBookLaw"
def lw_P (b : Addr) (xs : List Int32) (args : Array Value) (s : State) : Prop := args = #[.ref b] ∧ s.IntsAt b xs ∧ xs.length ≤ 3072 ∧ (Jvm.Cond.and given_1 narrow_1).before args s = true
def lw_Q (_ : Array Value) (s : State) (o : Outcome) (t : State) : Prop := o = .returned (some (.int 1)) ∧ Framed s o t [] 600000 7302250
def lw_Z (below : List Frame) (a : Array Value) (s : State) : State → Prop := fun t => ∃ o, t.status = .running ∧ Ended t below o ∧ lw_Q a s o t
/-- the law's own end, with 1 on the stack, nothing written that was there before, its room as the claim has it -/
theorem lw_ret {p : Program} {l : Launch} {e : Env} {s : State} {m : MethodId} {below : List Frame} {meth : Method} {c : Code} {b : Nat} (hx : p.tables.exec = Jvm.exec) (hb : c.code = code) (hr : meth.sig.returnType = ret) (hlocks : meth.locks = false) {pc : Nat} {H : Heap} {ls : Array Slot} (hdg : decode code pc = .ok (.ireturn, 1)) : W p l e room_1 s m #[Value.ref b] below meth c H [] 600000 7302250 (lw_Z below #[Value.ref b] s) (F0 m pc ls [.int 1]) := by
  intro T hT X
  obtain ⟨fs, hret, hrun, hended, hW, hframe⟩ := X.leave (v := some (.int 1)) (hlocks := hlocks) (fun h => by rw [hr] at h; cases h)
  have hmeth' : T.vm.method? m = some meth := X.method'
  refine ⟨T.setFrames fs, ?_, .returned (some (.int 1)), hrun, hended, rfl, ⟨_, rfl⟩, hW, hframe⟩
  jvm_step X.here [X.here.top, hx, hb, hdg, hmeth', hr, ret, narrow_b1]
  (try refine ⟨rfl, ?_⟩); (try refine ⟨rfl, ?_⟩)
  first | (intro acts; rw [hret _ acts rfl rfl rfl]) | rw [hret _ _ rfl rfl rfl]
  exact Steps.refl _
/-- what holds at the law's entry: the machine, the code, the tables' words (any of lw_tbl by 'hts w (by decide +kernel)'), the script of L ints xs at the cell b, what the Statement gives of the start (any of its parts by flat_of_before) -/
def lw_At (p : Program) (s : State) (m : MethodId) (meth : Method) (c : Code) (b L : Nat) (xs : Nat → Int32) : Prop :=
  p.tables.exec = Jvm.exec ∧ c.code = code ∧ meth.sig.returnType = ret ∧ c.maxLocals = 4 ∧ s.vm.findClass R_law = some m.cls ∧ (∀ w ∈ lw_tbl, w.before #[Value.ref b] s = true) ∧ va_X b L xs s s.heap ∧ b < s.heap.size ∧ meth.locks = false ∧ (Jvm.Cond.and given_1 narrow_1).before #[Value.ref b] s = true

abbrev ZZ : Nat := 4118
/-- what the law's walk stands on -/
def CL (p : Program) (s : State) (m : MethodId) (meth : Method) (c : Code) (b L : Nat) (xs : Nat → Int32) (w : Wd) : Prop :=
  p.tables.exec = Jvm.exec ∧ c.code = code ∧ c.maxLocals = 4 ∧ s.vm.findClass R_law = some m.cls ∧ (∀ q ∈ gw, q.before #[Value.ref b] s = true) ∧ KK w s ∧ w.2.1 = s.heap.size ∧ va_X b L xs s s.heap ∧ b < s.heap.size ∧ meth.sig.returnType = ret ∧ meth.locks = false
def GL (p : Program) (l : Launch) (e : Env) (s : State) (m : MethodId) (below : List Frame) (meth : Method) (c : Code) (b : Nat) (w : Wd) (pc : Nat) (ls : List (Nat × Value)) (st : List Value) (P : WP) : Prop := ∀ (H : Heap) (locs : List Loc) (Ls : Array Slot), RepG w P s H → va_S (Ad w) s.heap H locs → lv_has Ls 4 ls → W p l e room_1 s m #[Value.ref b] below meth c H locs P.2.2.2.1 P.2.2.2.2 (lw_Z below #[Value.ref b] s) (F0 m pc Ls st)
def JQ (p : Program) (l : Launch) (e : Env) (s : State) (m : MethodId) (below : List Frame) (meth : Method) (c : Code) (b : Nat) (w : Wd) (pc : Nat) (ls : List (Nat × Value)) (st : List Value) (S : St) (X : Option Bool) : Prop := X = some true → GL p l e s m below meth c b w pc ls st (125, rho, S, 125, ZZ)
theorem law_sld {p : Program} {l : Launch} {e : Env} {s : State} {m : MethodId} {below : List Frame} {meth : Method} {c : Code} {b L : Nat} {xs : Nat → Int32} {w : Wd} {pc : Nat} {H : Heap} {locs : List Loc} {Ls : Array Slot} {rest : List Value} {k z : Nat} {Q : State → Prop} (C : CL p s m meth c b L xs w) {i : Int32} {q : Nat} (hi : i = nI q) (hq : q < L) (hL : L ≤ 3072) (hS : va_S (Ad w) s.heap H locs) (d : decode code pc = .ok (.iaload, 1)) (kk : W p l e room_1 s m #[Value.ref b] below meth c H locs k z Q (F0 m (pc + 1) Ls (.int (xs q) :: rest))) : W p l e room_1 s m #[Value.ref b] below meth c H locs k z Q (F0 m pc Ls (.int i :: .ref b :: rest)) := by
  subst hi
  refine va_sld C.1 C.2.1 C.2.2.2.2.2.2.2.1 C.2.2.2.2.2.2.2.2.1 (by show ¬ w.2.1 ≤ b; rw [C.2.2.2.2.2.2.1]; exact Nat.not_le.mpr C.2.2.2.2.2.2.2.2.1) hS (vp_in_nI hq (by omega)) d ?_
  rw [nI_clamp (by omega)]
  exact kk
section LawRules
variable {p : Program} {l : Launch} {e : Env} {s : State} {m : MethodId} {below : List Frame} {meth : Method} {c : Code} {b L : Nat} {xs : Nat → Int32} {w : Wd} {pc : Nat} {ls : List (Nat × Value)} {st : List Value} {S S' : St} {X : Option Bool} {P : WP}
theorem gl_iconst (C : CL p s m meth c b L xs w) {n : Int} {v : Int32} (d : decode code pc = .ok (.iconst n, 1)) (hv : Int32.ofInt n = v) (k : GL p l e s m below meth c b w (pc + 1) ls (.int v :: st) P) : GL p l e s m below meth c b w pc ls st P := fun H locs Ls hR hS hl => lv_iconst C.1 C.2.1 d hv (k H locs Ls hR hS hl)
theorem q_iconst (C : CL p s m meth c b L xs w) {n : Int} {v : Int32} (d : decode code pc = .ok (.iconst n, 1)) (hv : Int32.ofInt n = v) (k : JQ p l e s m below meth c b w (pc + 1) ls (.int v :: st) S X) : JQ p l e s m below meth c b w pc ls st S X := fun hX => gl_iconst C d hv (k hX)
theorem gl_bipush (C : CL p s m meth c b L xs w) {n : Int} {v : Int32} (d : decode code pc = .ok (.bipush n, 2)) (hv : (Int8.ofInt n).toInt32 = v) (k : GL p l e s m below meth c b w (pc + 2) ls (.int v :: st) P) : GL p l e s m below meth c b w pc ls st P := fun H locs Ls hR hS hl => lv_bipush C.1 C.2.1 d hv (k H locs Ls hR hS hl)
theorem q_bipush (C : CL p s m meth c b L xs w) {n : Int} {v : Int32} (d : decode code pc = .ok (.bipush n, 2)) (hv : (Int8.ofInt n).toInt32 = v) (k : JQ p l e s m below meth c b w (pc + 2) ls (.int v :: st) S X) : JQ p l e s m below meth c b w pc ls st S X := fun hX => gl_bipush C d hv (k hX)
theorem gl_iload_n (C : CL p s m meth c b L xs w) (kp : Nat) {q : Fin 4} {i : Nat} {x : Int32} (d : decode code pc = .ok (.iload_n q, 1)) (hi : (q : Nat) = i) (hk : ls[kp]? = some (i, .int x)) (k : GL p l e s m below meth c b w (pc + 1) ls (.int x :: st) P) : GL p l e s m below meth c b w pc ls st P := fun H locs Ls hR hS hl => lv_iload_n C.1 C.2.1 d hi (lv_at hl kp hk) (k H locs Ls hR hS hl)
theorem q_iload_n (C : CL p s m meth c b L xs w) (kp : Nat) {q : Fin 4} {i : Nat} {x : Int32} (d : decode code pc = .ok (.iload_n q, 1)) (hi : (q : Nat) = i) (hk : ls[kp]? = some (i, .int x)) (k : JQ p l e s m below meth c b w (pc + 1) ls (.int x :: st) S X) : JQ p l e s m below meth c b w pc ls st S X := fun hX => gl_iload_n C kp d hi hk (k hX)
theorem gl_aload_n (C : CL p s m meth c b L xs w) (kp : Nat) {q : Fin 4} {i : Nat} {x : Nat} (d : decode code pc = .ok (.aload_n q, 1)) (hi : (q : Nat) = i) (hk : ls[kp]? = some (i, .ref x)) (k : GL p l e s m below meth c b w (pc + 1) ls (.ref x :: st) P) : GL p l e s m below meth c b w pc ls st P := fun H locs Ls hR hS hl => lv_aload_n C.1 C.2.1 d hi (lv_at hl kp hk) (k H locs Ls hR hS hl)
theorem q_aload_n (C : CL p s m meth c b L xs w) (kp : Nat) {q : Fin 4} {i : Nat} {x : Nat} (d : decode code pc = .ok (.aload_n q, 1)) (hi : (q : Nat) = i) (hk : ls[kp]? = some (i, .ref x)) (k : JQ p l e s m below meth c b w (pc + 1) ls (.ref x :: st) S X) : JQ p l e s m below meth c b w pc ls st S X := fun hX => gl_aload_n C kp d hi hk (k hX)
theorem gl_iadd (C : CL p s m meth c b L xs w) {x z : Int32} (d : decode code pc = .ok (.iadd, 1)) (k : GL p l e s m below meth c b w (pc + 1) ls (.int (x + z) :: st) P) : GL p l e s m below meth c b w pc ls (.int z :: .int x :: st) P := fun H locs Ls hR hS hl => lv_iadd C.1 C.2.1 d (k H locs Ls hR hS hl)
theorem q_iadd (C : CL p s m meth c b L xs w) {x z : Int32} (d : decode code pc = .ok (.iadd, 1)) (k : JQ p l e s m below meth c b w (pc + 1) ls (.int (x + z) :: st) S X) : JQ p l e s m below meth c b w pc ls (.int z :: .int x :: st) S X := fun hX => gl_iadd C d (k hX)
theorem gl_isub (C : CL p s m meth c b L xs w) {x z : Int32} (d : decode code pc = .ok (.isub, 1)) (k : GL p l e s m below meth c b w (pc + 1) ls (.int (x - z) :: st) P) : GL p l e s m below meth c b w pc ls (.int z :: .int x :: st) P := fun H locs Ls hR hS hl => lv_isub C.1 C.2.1 d (k H locs Ls hR hS hl)
theorem q_isub (C : CL p s m meth c b L xs w) {x z : Int32} (d : decode code pc = .ok (.isub, 1)) (k : JQ p l e s m below meth c b w (pc + 1) ls (.int (x - z) :: st) S X) : JQ p l e s m below meth c b w pc ls (.int z :: .int x :: st) S X := fun hX => gl_isub C d (k hX)
theorem gl_iand (C : CL p s m meth c b L xs w) {x z : Int32} (d : decode code pc = .ok (.iand, 1)) (k : GL p l e s m below meth c b w (pc + 1) ls (.int (x &&& z) :: st) P) : GL p l e s m below meth c b w pc ls (.int z :: .int x :: st) P := fun H locs Ls hR hS hl => lv_iand C.1 C.2.1 d (k H locs Ls hR hS hl)
theorem q_iand (C : CL p s m meth c b L xs w) {x z : Int32} (d : decode code pc = .ok (.iand, 1)) (k : JQ p l e s m below meth c b w (pc + 1) ls (.int (x &&& z) :: st) S X) : JQ p l e s m below meth c b w pc ls (.int z :: .int x :: st) S X := fun hX => gl_iand C d (k hX)
theorem gl_lcmp (C : CL p s m meth c b L xs w) {x z : Int64} (d : decode code pc = .ok (.lcmp, 1)) (k : GL p l e s m below meth c b w (pc + 1) ls (.int (lg_cmp x z) :: st) P) : GL p l e s m below meth c b w pc ls (.long z :: .long x :: st) P := fun H locs Ls hR hS hl => W.lcmp C.1 C.2.1 d (k H locs Ls hR hS hl)
theorem q_lcmp (C : CL p s m meth c b L xs w) {x z : Int64} (d : decode code pc = .ok (.lcmp, 1)) (k : JQ p l e s m below meth c b w (pc + 1) ls (.int (lg_cmp x z) :: st) S X) : JQ p l e s m below meth c b w pc ls (.long z :: .long x :: st) S X := fun hX => gl_lcmp C d (k hX)
theorem gl_dup (C : CL p s m meth c b L xs w) {v : Value} (d : decode code pc = .ok (.dup, 1)) (hv : v.category = 1) (k : GL p l e s m below meth c b w (pc + 1) ls (v :: v :: st) P) : GL p l e s m below meth c b w pc ls (v :: st) P := fun H locs Ls hR hS hl => lv_dup C.1 C.2.1 d hv (k H locs Ls hR hS hl)
theorem q_dup (C : CL p s m meth c b L xs w) {v : Value} (d : decode code pc = .ok (.dup, 1)) (hv : v.category = 1) (k : JQ p l e s m below meth c b w (pc + 1) ls (v :: v :: st) S X) : JQ p l e s m below meth c b w pc ls (v :: st) S X := fun hX => gl_dup C d hv (k hX)
theorem gl_goto (C : CL p s m meth c b L xs w) {off : Int} (tgt : Nat) (d : decode code pc = .ok (.goto off, 3)) (ht : (pc : Int) + off = (tgt : Int)) (k : GL p l e s m below meth c b w tgt ls st P) : GL p l e s m below meth c b w pc ls st P := fun H locs Ls hR hS hl => lv_goto C.1 C.2.1 d ht (k H locs Ls hR hS hl)
theorem q_goto (C : CL p s m meth c b L xs w) {off : Int} (tgt : Nat) (d : decode code pc = .ok (.goto off, 3)) (ht : (pc : Int) + off = (tgt : Int)) (k : JQ p l e s m below meth c b w tgt ls st S X) : JQ p l e s m below meth c b w pc ls st S X := fun hX => gl_goto C tgt d ht (k hX)
theorem gl_sld (C : CL p s m meth c b L xs w) {i : Int32} {q : Nat} (hi : i = nI q) (hq : q < L) (hL : L ≤ 3072) (d : decode code pc = .ok (.iaload, 1)) (k : GL p l e s m below meth c b w (pc + 1) ls (.int (xs q) :: st) P) : GL p l e s m below meth c b w pc ls (.int i :: .ref b :: st) P := fun H locs Ls hR hS hl => law_sld C hi hq hL hS d (k H locs Ls hR hS hl)
theorem q_sld (C : CL p s m meth c b L xs w) {i : Int32} {q : Nat} (hi : i = nI q) (hq : q < L) (hL : L ≤ 3072) (d : decode code pc = .ok (.iaload, 1)) (k : JQ p l e s m below meth c b w (pc + 1) ls (.int (xs q) :: st) S X) : JQ p l e s m below meth c b w pc ls (.int i :: .ref b :: st) S X := fun hX => gl_sld C hi hq hL d (k hX)
theorem gl_slen (C : CL p s m meth c b L xs w) (d : decode code pc = .ok (.arraylength, 1)) (k : GL p l e s m below meth c b w (pc + 1) ls (.int (nI L) :: st) P) : GL p l e s m below meth c b w pc ls (.ref b :: st) P := fun H locs Ls hR hS hl => va_slen C.1 C.2.1 C.2.2.2.2.2.2.2.1 C.2.2.2.2.2.2.2.2.1 (by show ¬ w.2.1 ≤ b; rw [C.2.2.2.2.2.2.1]; exact Nat.not_le.mpr C.2.2.2.2.2.2.2.2.1) hS d (k H locs Ls hR hS hl)
theorem q_slen (C : CL p s m meth c b L xs w) (d : decode code pc = .ok (.arraylength, 1)) (k : JQ p l e s m below meth c b w (pc + 1) ls (.int (nI L) :: st) S X) : JQ p l e s m below meth c b w pc ls (.ref b :: st) S X := fun hX => gl_slen C d (k hX)
theorem q_iinc (C : CL p s m meth c b L xs w) (kp : Nat) {i : Nat} {n : Int} {x v : Int32} {ls' : List (Nat × Value)} (d : decode code pc = .ok (.iinc i n, 3)) (hk : ls[kp]? = some (i, .int x)) (hv : x + Int32.ofInt n = v) (hn : i < 4) (hf : (i, .int v) :: ls.filter (fun q => !(q.1 == i) && !(q.1 + 1 == i && q.2.category == 2)) = ls') (k : JQ p l e s m below meth c b w (pc + 3) ls' st S X) : JQ p l e s m below meth c b w pc ls st S X := fun hX H locs Ls hR hS hl => lv_iinc C.1 C.2.1 d hl hk hv hn hf (fun Ls1 hl1 => k hX H locs Ls1 hR hS hl1)
theorem gl_istore_n (C : CL p s m meth c b L xs w) {q : Fin 4} {i : Nat} {x : Int32} {ls' : List (Nat × Value)} (d : decode code pc = .ok (.istore_n q, 1)) (hi : (q : Nat) = i) (hn : i < 4) (hf : (i, .int x) :: ls.filter (fun q => !(q.1 == i) && !(q.1 + 1 == i && q.2.category == 2)) = ls') (k : GL p l e s m below meth c b w (pc + 1) ls' st P) : GL p l e s m below meth c b w pc ls (.int x :: st) P := fun H locs Ls hR hS hl => lv_istore_n C.1 C.2.1 d hi hl hn hf (fun Ls1 hl1 => k H locs Ls1 hR hS hl1)
theorem gl_astore_n (C : CL p s m meth c b L xs w) {q : Fin 4} {i : Nat} {x : Nat} {ls' : List (Nat × Value)} (d : decode code pc = .ok (.astore_n q, 1)) (hi : (q : Nat) = i) (hn : i < 4) (hf : (i, .ref x) :: ls.filter (fun q => !(q.1 == i) && !(q.1 + 1 == i && q.2.category == 2)) = ls') (k : GL p l e s m below meth c b w (pc + 1) ls' st P) : GL p l e s m below meth c b w pc ls (.ref x :: st) P := fun H locs Ls hR hS hl => lv_astore_n C.1 C.2.1 d hi hl hn hf (fun Ls1 hl1 => k H locs Ls1 hR hS hl1)
theorem q_sub {ls' : List (Nat × Value)} (ks : List Nat) (h : lv_pick ls ks = ls') (k : JQ p l e s m below meth c b w pc ls' st S X) : JQ p l e s m below meth c b w pc ls st S X := fun hX H locs Ls hR hS hl => k hX H locs Ls hR hS (lv_sub hl ks h)
theorem q_ite {A B : Option Bool} {q : Prop} {iq : Decidable q} (h1 : q → JQ p l e s m below meth c b w pc ls st S A) (h2 : ¬ q → JQ p l e s m below meth c b w pc ls st S B) : JQ p l e s m below meth c b w pc ls st S (if q then A else B) := by
  intro hX
  by_cases h : q
  · rw [if_pos h] at hX; exact h1 h hX
  · rw [if_neg h] at hX; exact h2 h hX
theorem q_icmp_eq (C : CL p s m meth c b L xs w) {off : Int} (tgt : Nat) {x z : Int32} {A B : Option Bool} (d : decode code pc = .ok (.if_icmp .eq off, 3)) (ht : (pc : Int) + off = (tgt : Int)) (kt : JQ p l e s m below meth c b w tgt ls st S A) (kf : JQ p l e s m below meth c b w (pc + 3) ls st S B) : JQ p l e s m below meth c b w pc ls (.int z :: .int x :: st) S (if x = z then A else B) := by
  intro hX H locs Ls hR hS hl
  refine lv_icmp_eq C.1 C.2.1 d ht (fun h => kt (by rw [if_pos h] at hX; exact hX) H locs Ls hR hS hl) (fun h => kf (by rw [if_neg h] at hX; exact hX) H locs Ls hR hS hl)
theorem q_icmp_gt (C : CL p s m meth c b L xs w) {off : Int} (tgt : Nat) {x z : Int32} {A B : Option Bool} {q : Prop} {iq : Decidable q} (hq : z < x ↔ q) (d : decode code pc = .ok (.if_icmp .gt off, 3)) (ht : (pc : Int) + off = (tgt : Int)) (kt : q → JQ p l e s m below meth c b w tgt ls st S A) (kf : ¬ q → JQ p l e s m below meth c b w (pc + 3) ls st S B) : JQ p l e s m below meth c b w pc ls (.int z :: .int x :: st) S (if q then A else B) := by
  intro hX H locs Ls hR hS hl
  refine lv_icmp_gt C.1 C.2.1 d ht (fun h => kt (hq.mp h) (by rw [if_pos (hq.mp h)] at hX; exact hX) H locs Ls hR hS hl) (fun h => kf (fun h2 => h (hq.mpr h2)) (by rw [if_neg (fun h2 => h (hq.mpr h2))] at hX; exact hX) H locs Ls hR hS hl)
theorem q_if_eq (C : CL p s m meth c b L xs w) {off : Int} (tgt : Nat) {x : Int32} {A B : Option Bool} {q : Prop} {iq : Decidable q} (hq : x = 0 ↔ q) (d : decode code pc = .ok (.ifCond .eq off, 3)) (ht : (pc : Int) + off = (tgt : Int)) (kt : JQ p l e s m below meth c b w tgt ls st S A) (kf : JQ p l e s m below meth c b w (pc + 3) ls st S B) : JQ p l e s m below meth c b w pc ls (.int x :: st) S (if q then A else B) := by
  intro hX H locs Ls hR hS hl
  refine lv_if_eq C.1 C.2.1 d ht (fun h => kt (by rw [if_pos (hq.mp h)] at hX; exact hX) H locs Ls hR hS hl) (fun h => kf (by rw [if_neg (fun h2 => h (hq.mpr h2))] at hX; exact hX) H locs Ls hR hS hl)
theorem q_tabIn (C : CL p s m meth c b L xs w) {dflt lo hi off : Int} {offs : Array Int} {len : Nat} (tgt : Nat) {x : Int32} (d : decode code pc = .ok (.tableswitch dflt lo hi offs, len)) (h1 : ¬ x.toInt < lo) (h2 : ¬ hi < x.toInt) (ho : offs[(x.toInt - lo).toNat]? = some off) (ht : (pc : Int) + off = (tgt : Int)) (kk : JQ p l e s m below meth c b w tgt ls st S X) : JQ p l e s m below meth c b w pc ls (.int x :: st) S X := fun hX H locs Ls hR hS hl => lv_tableIn C.1 C.2.1 d h1 h2 ho ht (kk hX H locs Ls hR hS hl)
theorem q_tabOut (C : CL p s m meth c b L xs w) {dflt lo hi : Int} {offs : Array Int} {len : Nat} (tgt : Nat) {x : Int32} (d : decode code pc = .ok (.tableswitch dflt lo hi offs, len)) (h1 : x.toInt < lo ∨ hi < x.toInt) (ht : (pc : Int) + dflt = (tgt : Int)) (kk : JQ p l e s m below meth c b w tgt ls st S X) : JQ p l e s m below meth c b w pc ls (.int x :: st) S X := fun hX H locs Ls hR hS hl => lv_tableOut C.1 C.2.1 d h1 ht (kk hX H locs Ls hR hS hl)
theorem q_ret (C : CL p s m meth c b L xs w) (d : decode code pc = .ok (.ireturn, 1)) : JQ p l e s m below meth c b w pc ls [.int 1] S (some true) := by
  intro hX H locs Ls hR hS hl
  refine va_forget (fun q hq => by have := hS.2.2 q hq; rw [← C.2.2.2.2.2.2.1]; exact this) ?_
  refine W.widen (k := 600000) (n := 7302250) (show 125 ≤ 600000 by decide) (show ZZ ≤ 7302250 by decide) ?_
  exact lw_ret C.1 C.2.1 C.2.2.2.2.2.2.2.2.2.1 C.2.2.2.2.2.2.2.2.2.2 d
theorem q_no : JQ p l e s m below meth c b w pc ls st S (some false) := fun hX => by cases hX
/-- behind a call of the law's -/
theorem law_run {H : Heap} {locs : List Loc} {Ls : Array Slot} {n n' : Nat} {ρ' : Rf} {k z mc ms : Nat} {st0 rest : List Value} {r0 : Option Value} {a : Array Value}
    (hz : s.heap.size + k = w.2.1 + n) (hnn : n' = n + mc) (hS : va_S (Ad w) s.heap H locs) (hl : lv_has Ls 4 ls)
    (hr : va_Run p l e room_1 s m #[Value.ref b] below meth c H locs k z mc ms (F0 m pc Ls st0) rest (Qp w (n', ρ', S', mc, ms) r0 a) (Ad w))
    (kk : GL p l e s m below meth c b w (pc + 3) ls (r0.toList ++ rest) (n', ρ', S', k + mc, z + ms)) :
    W p l e room_1 s m #[Value.ref b] below meth c H locs k z (lw_Z below #[Value.ref b] s) (F0 m pc Ls st0) := by
  intro T hT Y
  obtain ⟨v, st₀, t, T', L', h0, X', hL, e1, e2, ⟨hv, hRt, hKt, hF⟩, go⟩ := hr T hT Y
  cases hv
  have hS' : va_S (Ad w) s.heap T'.heap (locs ++ L') := by
    refine ⟨?_, ?_, ?_⟩
    · rw [e1]; exact Nat.le_trans hS.1 (by rw [← h0]; exact hF.1)
    · intro q h1 h2
      rw [e1, hF.2 q (by rw [h0]; exact Nat.lt_of_lt_of_le h1 hS.1) h2, h0]
      exact hS.2.1 q h1 h2
    · intro q hq
      rcases List.mem_append.mp hq with h | h
      · exact hS.2.2 q h
      · exact hL q h
  obtain ⟨t2, a1, b1⟩ := kk T'.heap (locs ++ L') Ls ⟨by rw [e1]; exact hRt, by show s.heap.size + (k + mc) = w.2.1 + n'; omega⟩ hS' hl T' rfl X'
  exact ⟨t2, go t2 a1, b1⟩
def CVL (idx na ci : Nat) (y' : MI) : Prop := CWV R_law idx na y' ∧ (∃ (TT : u_T) (NT : Nat), vwCl[ci]? = some (y'.1.cls, TT, NT)) ∧ y'.2.2.2.2.cells = 0 ∧ y'.2.2.2.2.slots = 0 ∧ y'.2.2.2.2.frames + 1 ≤ 12 ∧ 8 + (y'.2.2.1 + 11) + y'.2.2.2.2.locals ≤ 470
theorem gl_callV (C : CL p s m meth c b L xs w) {idx na ci t : Nat} {fl : List Bool} {y' : MI} {As : List Value} {r0 : Option Value} (hc : CVL idx na ci y') (hk : kd t = .inl (ci, fl)) (hn : As.length = na) (hst : (st.map fun v => v.category).sum ≤ 8) (d : decode code pc = .ok (.invokevirtual idx, 3)) (hC : CtS l w y' (.ref (w.2.1 + t) :: As) S S' r0)
    (kk : GL p l e s m below meth c b w (pc + 3) ls (r0.toList ++ st) (125, rho, S', 125, ZZ)) : GL p l e s m below meth c b w pc ls (As.reverse ++ .ref (w.2.1 + t) :: st) (125, rho, S, 125, ZZ) := by
  intro H locs Ls hR hS hl T hT Y
  have hz : H.size = w.2.1 + 125 := g_size hT Y hR (by decide)
  obtain ⟨TT, NT, hcl⟩ := hc.2.1
  refine law_run (k := 125) (z := ZZ) (mc := 0) (ms := 0) (n := 125) (n' := 125) (st0 := As.reverse ++ .ref (w.2.1 + t) :: st) hR.2 rfl hS hl (va_runV (As := As) (C := y'.1.cls) (n := na) ⟨C.1, C.2.1, C.2.2.1, C.2.2.2.1, C.2.2.2.2.1⟩ hC ⟨callB_of na C.2.2.2.2.1 (lw_goodIn' hc.1.1.2.1) rfl hc.2.2.1 hc.2.2.2.1 (C.2.2.2.2.1 _ hc.1.1.2.2.1) (C.2.2.2.2.1 _ hc.1.1.1) hc.1.1.2.2.2 ⟨hc.2.2.2.2.1, hc.2.2.2.2.2⟩, C.2.2.2.2.1 _ hc.1.2.1, C.2.2.2.2.1 _ hc.1.2.2⟩ ⟨pre_blind, ?_, ?_⟩ rfl hn hl.1 rfl (lv_room hst) d ⟨by decide, by decide⟩) kk T hT Y
  · exact va_recv (q := (y'.1.cls, TT, NT)) C.2.2.2.2.2.1.1 hR.1 hcl (q0 := t) (by rw [wls_at (kd_lt hk), cel_o hk])
  · intro U hU hW
    exact ⟨rfl, by rw [hU]; exact hz, by rw [hU]; exact hR.1, KK.warm hW C.2.2.2.2.2.1⟩
theorem q_callVi (C : CL p s m meth c b L xs w) {F : Option (Int32 × St)} {K : Int32 × St → Option Bool} {idx na ci t : Nat} {fl : List Bool} {y' : MI} {As : List Value} (hc : CVL idx na ci y') (hk : kd t = .inl (ci, fl)) (hn : As.length = na) (hst : (st.map fun v => v.category).sum ≤ 8) (d : decode code pc = .ok (.invokevirtual idx, 3)) (hC : ∀ v, F = some v → CtS l w y' (.ref (w.2.1 + t) :: As) S v.2 (some (.int v.1)))
    (kk : ∀ v, JQ p l e s m below meth c b w (pc + 3) ls (.int v.1 :: st) v.2 (K v)) : JQ p l e s m below meth c b w pc ls (As.reverse ++ .ref (w.2.1 + t) :: st) S (F.bind K) := fun hX => by
  obtain ⟨v, h1, h2⟩ := bnd hX
  exact gl_callV C hc hk hn hst d (hC v h1) (kk v h2)
theorem q_callVl (C : CL p s m meth c b L xs w) {F : Option (Int64 × St)} {K : Int64 × St → Option Bool} {idx na ci t : Nat} {fl : List Bool} {y' : MI} {As : List Value} (hc : CVL idx na ci y') (hk : kd t = .inl (ci, fl)) (hn : As.length = na) (hst : (st.map fun v => v.category).sum ≤ 8) (d : decode code pc = .ok (.invokevirtual idx, 3)) (hC : ∀ v, F = some v → CtS l w y' (.ref (w.2.1 + t) :: As) S v.2 (some (.long v.1)))
    (kk : ∀ v, JQ p l e s m below meth c b w (pc + 3) ls (.long v.1 :: st) v.2 (K v)) : JQ p l e s m below meth c b w pc ls (As.reverse ++ .ref (w.2.1 + t) :: st) S (F.bind K) := fun hX => by
  obtain ⟨v, h1, h2⟩ := bnd hX
  exact gl_callV C hc hk hn hst d (hC v h1) (kk v h2)
end LawRules
theorem dL_law_0 : decode code 0 = .ok (.new 7, 3) := by decide +kernel
theorem dL_law_3 : decode code 3 = .ok (.dup, 1) := by decide +kernel
theorem dL_law_4 : decode code 4 = .ok (.invokespecial 9, 3) := by decide +kernel
theorem dL_law_7 : decode code 7 = .ok (.astore_n 1, 1) := by decide +kernel
theorem dL_law_8 : decode code 8 = .ok (.new 10, 3) := by decide +kernel
theorem dL_law_11 : decode code 11 = .ok (.dup, 1) := by decide +kernel
theorem dL_law_12 : decode code 12 = .ok (.invokespecial 12, 3) := by decide +kernel
theorem dL_law_15 : decode code 15 = .ok (.astore_n 2, 1) := by decide +kernel
theorem dL_law_16 : decode code 16 = .ok (.iconst 0, 1) := by decide +kernel
theorem dL_law_17 : decode code 17 = .ok (.istore_n 3, 1) := by decide +kernel
theorem dL_law_18 : decode code 18 = .ok (.iload_n 3, 1) := by decide +kernel
theorem dL_law_19 : decode code 19 = .ok (.aload_n 0, 1) := by decide +kernel
theorem dL_law_20 : decode code 20 = .ok (.arraylength, 1) := by decide +kernel
theorem dL_law_21 : decode code 21 = .ok (.bipush 6, 2) := by decide +kernel
theorem dL_law_23 : decode code 23 = .ok (.isub, 1) := by decide +kernel
theorem dL_law_24 : decode code 24 = .ok (.if_icmp .gt 1154, 3) := by decide +kernel
theorem dL_law_27 : decode code 27 = .ok (.aload_n 0, 1) := by decide +kernel
theorem dL_law_28 : decode code 28 = .ok (.iload_n 3, 1) := by decide +kernel
theorem dL_law_29 : decode code 29 = .ok (.iaload, 1) := by decide +kernel
theorem dL_law_30 : decode code 30 = .ok (.bipush 31, 2) := by decide +kernel
theorem dL_law_32 : decode code 32 = .ok (.iand, 1) := by decide +kernel
theorem dL_law_33 : decode code 33 = .ok (.tableswitch 1139 0 30 #[139, 202, 261, 304, 327, 380, 413, 446, 479, 512, 555, 598, 661, 684, 707, 730, 753, 796, 839, 862, 895, 928, 951, 974, 1007, 1031, 1054, 1067, 1090, 1103, 1116], 139) := by decide +kernel
theorem dL_law_172 : decode code 172 = .ok (.aload_n 1, 1) := by decide +kernel
theorem dL_law_173 : decode code 173 = .ok (.aload_n 0, 1) := by decide +kernel
theorem dL_law_174 : decode code 174 = .ok (.iload_n 3, 1) := by decide +kernel
theorem dL_law_175 : decode code 175 = .ok (.iconst 1, 1) := by decide +kernel
theorem dL_law_176 : decode code 176 = .ok (.iadd, 1) := by decide +kernel
theorem dL_law_177 : decode code 177 = .ok (.iaload, 1) := by decide +kernel
theorem dL_law_178 : decode code 178 = .ok (.aload_n 0, 1) := by decide +kernel
theorem dL_law_179 : decode code 179 = .ok (.iload_n 3, 1) := by decide +kernel
theorem dL_law_180 : decode code 180 = .ok (.iconst 2, 1) := by decide +kernel
theorem dL_law_181 : decode code 181 = .ok (.iadd, 1) := by decide +kernel
theorem dL_law_182 : decode code 182 = .ok (.iaload, 1) := by decide +kernel
theorem dL_law_183 : decode code 183 = .ok (.aload_n 0, 1) := by decide +kernel
theorem dL_law_184 : decode code 184 = .ok (.iload_n 3, 1) := by decide +kernel
theorem dL_law_185 : decode code 185 = .ok (.iconst 3, 1) := by decide +kernel
theorem dL_law_186 : decode code 186 = .ok (.iadd, 1) := by decide +kernel
theorem dL_law_187 : decode code 187 = .ok (.iaload, 1) := by decide +kernel
theorem dL_law_188 : decode code 188 = .ok (.aload_n 0, 1) := by decide +kernel
theorem dL_law_189 : decode code 189 = .ok (.iload_n 3, 1) := by decide +kernel
theorem dL_law_190 : decode code 190 = .ok (.iconst 4, 1) := by decide +kernel
theorem dL_law_191 : decode code 191 = .ok (.iadd, 1) := by decide +kernel
theorem dL_law_192 : decode code 192 = .ok (.iaload, 1) := by decide +kernel
theorem dL_law_193 : decode code 193 = .ok (.aload_n 0, 1) := by decide +kernel
theorem dL_law_194 : decode code 194 = .ok (.iload_n 3, 1) := by decide +kernel
theorem dL_law_195 : decode code 195 = .ok (.iconst 5, 1) := by decide +kernel
theorem dL_law_196 : decode code 196 = .ok (.iadd, 1) := by decide +kernel
theorem dL_law_197 : decode code 197 = .ok (.iaload, 1) := by decide +kernel
theorem dL_law_198 : decode code 198 = .ok (.invokevirtual 13, 3) := by decide +kernel
theorem dL_law_201 : decode code 201 = .ok (.aload_n 2, 1) := by decide +kernel
theorem dL_law_202 : decode code 202 = .ok (.aload_n 0, 1) := by decide +kernel
theorem dL_law_203 : decode code 203 = .ok (.iload_n 3, 1) := by decide +kernel
theorem dL_law_204 : decode code 204 = .ok (.iconst 1, 1) := by decide +kernel
theorem dL_law_205 : decode code 205 = .ok (.iadd, 1) := by decide +kernel
theorem dL_law_206 : decode code 206 = .ok (.iaload, 1) := by decide +kernel
theorem dL_law_207 : decode code 207 = .ok (.aload_n 0, 1) := by decide +kernel
theorem dL_law_208 : decode code 208 = .ok (.iload_n 3, 1) := by decide +kernel
theorem dL_law_209 : decode code 209 = .ok (.iconst 2, 1) := by decide +kernel
theorem dL_law_210 : decode code 210 = .ok (.iadd, 1) := by decide +kernel
theorem dL_law_211 : decode code 211 = .ok (.iaload, 1) := by decide +kernel
theorem dL_law_212 : decode code 212 = .ok (.aload_n 0, 1) := by decide +kernel
theorem dL_law_213 : decode code 213 = .ok (.iload_n 3, 1) := by decide +kernel
theorem dL_law_214 : decode code 214 = .ok (.iconst 3, 1) := by decide +kernel
theorem dL_law_215 : decode code 215 = .ok (.iadd, 1) := by decide +kernel
theorem dL_law_216 : decode code 216 = .ok (.iaload, 1) := by decide +kernel
theorem dL_law_217 : decode code 217 = .ok (.aload_n 0, 1) := by decide +kernel
theorem dL_law_218 : decode code 218 = .ok (.iload_n 3, 1) := by decide +kernel
theorem dL_law_219 : decode code 219 = .ok (.iconst 4, 1) := by decide +kernel
theorem dL_law_220 : decode code 220 = .ok (.iadd, 1) := by decide +kernel
theorem dL_law_221 : decode code 221 = .ok (.iaload, 1) := by decide +kernel
theorem dL_law_222 : decode code 222 = .ok (.aload_n 0, 1) := by decide +kernel
theorem dL_law_223 : decode code 223 = .ok (.iload_n 3, 1) := by decide +kernel
theorem dL_law_224 : decode code 224 = .ok (.iconst 5, 1) := by decide +kernel
theorem dL_law_225 : decode code 225 = .ok (.iadd, 1) := by decide +kernel
theorem dL_law_226 : decode code 226 = .ok (.iaload, 1) := by decide +kernel
theorem dL_law_227 : decode code 227 = .ok (.invokevirtual 17, 3) := by decide +kernel
theorem dL_law_230 : decode code 230 = .ok (.if_icmp .eq 942, 3) := by decide +kernel
theorem dL_law_233 : decode code 233 = .ok (.iconst 0, 1) := by decide +kernel
theorem dL_law_234 : decode code 234 = .ok (.ireturn, 1) := by decide +kernel
theorem dL_law_235 : decode code 235 = .ok (.aload_n 1, 1) := by decide +kernel
theorem dL_law_236 : decode code 236 = .ok (.aload_n 0, 1) := by decide +kernel
theorem dL_law_237 : decode code 237 = .ok (.iload_n 3, 1) := by decide +kernel
theorem dL_law_238 : decode code 238 = .ok (.iconst 1, 1) := by decide +kernel
theorem dL_law_239 : decode code 239 = .ok (.iadd, 1) := by decide +kernel
theorem dL_law_240 : decode code 240 = .ok (.iaload, 1) := by decide +kernel
theorem dL_law_241 : decode code 241 = .ok (.aload_n 0, 1) := by decide +kernel
theorem dL_law_242 : decode code 242 = .ok (.iload_n 3, 1) := by decide +kernel
theorem dL_law_243 : decode code 243 = .ok (.iconst 2, 1) := by decide +kernel
theorem dL_law_244 : decode code 244 = .ok (.iadd, 1) := by decide +kernel
theorem dL_law_245 : decode code 245 = .ok (.iaload, 1) := by decide +kernel
theorem dL_law_246 : decode code 246 = .ok (.aload_n 0, 1) := by decide +kernel
theorem dL_law_247 : decode code 247 = .ok (.iload_n 3, 1) := by decide +kernel
theorem dL_law_248 : decode code 248 = .ok (.iconst 3, 1) := by decide +kernel
theorem dL_law_249 : decode code 249 = .ok (.iadd, 1) := by decide +kernel
theorem dL_law_250 : decode code 250 = .ok (.iaload, 1) := by decide +kernel
theorem dL_law_251 : decode code 251 = .ok (.ifCond .eq 7, 3) := by decide +kernel
theorem dL_law_254 : decode code 254 = .ok (.iconst 1, 1) := by decide +kernel
theorem dL_law_255 : decode code 255 = .ok (.goto 4, 3) := by decide +kernel
theorem dL_law_258 : decode code 258 = .ok (.iconst 0, 1) := by decide +kernel
theorem dL_law_259 : decode code 259 = .ok (.invokevirtual 18, 3) := by decide +kernel
theorem dL_law_262 : decode code 262 = .ok (.aload_n 2, 1) := by decide +kernel
theorem dL_law_263 : decode code 263 = .ok (.aload_n 0, 1) := by decide +kernel
theorem dL_law_264 : decode code 264 = .ok (.iload_n 3, 1) := by decide +kernel
theorem dL_law_265 : decode code 265 = .ok (.iconst 1, 1) := by decide +kernel
theorem dL_law_266 : decode code 266 = .ok (.iadd, 1) := by decide +kernel
theorem dL_law_267 : decode code 267 = .ok (.iaload, 1) := by decide +kernel
theorem dL_law_268 : decode code 268 = .ok (.aload_n 0, 1) := by decide +kernel
theorem dL_law_269 : decode code 269 = .ok (.iload_n 3, 1) := by decide +kernel
theorem dL_law_270 : decode code 270 = .ok (.iconst 2, 1) := by decide +kernel
theorem dL_law_271 : decode code 271 = .ok (.iadd, 1) := by decide +kernel
theorem dL_law_272 : decode code 272 = .ok (.iaload, 1) := by decide +kernel
theorem dL_law_273 : decode code 273 = .ok (.aload_n 0, 1) := by decide +kernel
theorem dL_law_274 : decode code 274 = .ok (.iload_n 3, 1) := by decide +kernel
theorem dL_law_275 : decode code 275 = .ok (.iconst 3, 1) := by decide +kernel
theorem dL_law_276 : decode code 276 = .ok (.iadd, 1) := by decide +kernel
theorem dL_law_277 : decode code 277 = .ok (.iaload, 1) := by decide +kernel
theorem dL_law_278 : decode code 278 = .ok (.ifCond .eq 7, 3) := by decide +kernel
theorem dL_law_281 : decode code 281 = .ok (.iconst 1, 1) := by decide +kernel
theorem dL_law_282 : decode code 282 = .ok (.goto 4, 3) := by decide +kernel
theorem dL_law_285 : decode code 285 = .ok (.iconst 0, 1) := by decide +kernel
theorem dL_law_286 : decode code 286 = .ok (.invokevirtual 22, 3) := by decide +kernel
theorem dL_law_289 : decode code 289 = .ok (.if_icmp .eq 883, 3) := by decide +kernel
theorem dL_law_292 : decode code 292 = .ok (.iconst 0, 1) := by decide +kernel
theorem dL_law_293 : decode code 293 = .ok (.ireturn, 1) := by decide +kernel
theorem dL_law_294 : decode code 294 = .ok (.aload_n 1, 1) := by decide +kernel
theorem dL_law_295 : decode code 295 = .ok (.aload_n 0, 1) := by decide +kernel
theorem dL_law_296 : decode code 296 = .ok (.iload_n 3, 1) := by decide +kernel
theorem dL_law_297 : decode code 297 = .ok (.iconst 1, 1) := by decide +kernel
theorem dL_law_298 : decode code 298 = .ok (.iadd, 1) := by decide +kernel
theorem dL_law_299 : decode code 299 = .ok (.iaload, 1) := by decide +kernel
theorem dL_law_300 : decode code 300 = .ok (.aload_n 0, 1) := by decide +kernel
theorem dL_law_301 : decode code 301 = .ok (.iload_n 3, 1) := by decide +kernel
theorem dL_law_302 : decode code 302 = .ok (.iconst 2, 1) := by decide +kernel
theorem dL_law_303 : decode code 303 = .ok (.iadd, 1) := by decide +kernel
theorem dL_law_304 : decode code 304 = .ok (.iaload, 1) := by decide +kernel
theorem dL_law_305 : decode code 305 = .ok (.aload_n 0, 1) := by decide +kernel
theorem dL_law_306 : decode code 306 = .ok (.iload_n 3, 1) := by decide +kernel
theorem dL_law_307 : decode code 307 = .ok (.iconst 3, 1) := by decide +kernel
theorem dL_law_308 : decode code 308 = .ok (.iadd, 1) := by decide +kernel
theorem dL_law_309 : decode code 309 = .ok (.iaload, 1) := by decide +kernel
theorem dL_law_310 : decode code 310 = .ok (.invokevirtual 23, 3) := by decide +kernel
theorem dL_law_313 : decode code 313 = .ok (.aload_n 2, 1) := by decide +kernel
theorem dL_law_314 : decode code 314 = .ok (.aload_n 0, 1) := by decide +kernel
theorem dL_law_315 : decode code 315 = .ok (.iload_n 3, 1) := by decide +kernel
theorem dL_law_316 : decode code 316 = .ok (.iconst 1, 1) := by decide +kernel
theorem dL_law_317 : decode code 317 = .ok (.iadd, 1) := by decide +kernel
theorem dL_law_318 : decode code 318 = .ok (.iaload, 1) := by decide +kernel
theorem dL_law_319 : decode code 319 = .ok (.aload_n 0, 1) := by decide +kernel
theorem dL_law_320 : decode code 320 = .ok (.iload_n 3, 1) := by decide +kernel
theorem dL_law_321 : decode code 321 = .ok (.iconst 2, 1) := by decide +kernel
theorem dL_law_322 : decode code 322 = .ok (.iadd, 1) := by decide +kernel
theorem dL_law_323 : decode code 323 = .ok (.iaload, 1) := by decide +kernel
theorem dL_law_324 : decode code 324 = .ok (.aload_n 0, 1) := by decide +kernel
theorem dL_law_325 : decode code 325 = .ok (.iload_n 3, 1) := by decide +kernel
theorem dL_law_326 : decode code 326 = .ok (.iconst 3, 1) := by decide +kernel
theorem dL_law_327 : decode code 327 = .ok (.iadd, 1) := by decide +kernel
theorem dL_law_328 : decode code 328 = .ok (.iaload, 1) := by decide +kernel
theorem dL_law_329 : decode code 329 = .ok (.invokevirtual 27, 3) := by decide +kernel
theorem dL_law_332 : decode code 332 = .ok (.if_icmp .eq 840, 3) := by decide +kernel
theorem dL_law_335 : decode code 335 = .ok (.iconst 0, 1) := by decide +kernel
theorem dL_law_336 : decode code 336 = .ok (.ireturn, 1) := by decide +kernel
theorem dL_law_337 : decode code 337 = .ok (.aload_n 1, 1) := by decide +kernel
theorem dL_law_338 : decode code 338 = .ok (.aload_n 0, 1) := by decide +kernel
theorem dL_law_339 : decode code 339 = .ok (.iload_n 3, 1) := by decide +kernel
theorem dL_law_340 : decode code 340 = .ok (.iconst 1, 1) := by decide +kernel
theorem dL_law_341 : decode code 341 = .ok (.iadd, 1) := by decide +kernel
theorem dL_law_342 : decode code 342 = .ok (.iaload, 1) := by decide +kernel
theorem dL_law_343 : decode code 343 = .ok (.invokevirtual 28, 3) := by decide +kernel
theorem dL_law_346 : decode code 346 = .ok (.aload_n 2, 1) := by decide +kernel
theorem dL_law_347 : decode code 347 = .ok (.aload_n 0, 1) := by decide +kernel
theorem dL_law_348 : decode code 348 = .ok (.iload_n 3, 1) := by decide +kernel
theorem dL_law_349 : decode code 349 = .ok (.iconst 1, 1) := by decide +kernel
theorem dL_law_350 : decode code 350 = .ok (.iadd, 1) := by decide +kernel
theorem dL_law_351 : decode code 351 = .ok (.iaload, 1) := by decide +kernel
theorem dL_law_352 : decode code 352 = .ok (.invokevirtual 32, 3) := by decide +kernel
theorem dL_law_355 : decode code 355 = .ok (.if_icmp .eq 817, 3) := by decide +kernel
theorem dL_law_358 : decode code 358 = .ok (.iconst 0, 1) := by decide +kernel
theorem dL_law_359 : decode code 359 = .ok (.ireturn, 1) := by decide +kernel
theorem dL_law_360 : decode code 360 = .ok (.aload_n 1, 1) := by decide +kernel
theorem dL_law_361 : decode code 361 = .ok (.aload_n 0, 1) := by decide +kernel
theorem dL_law_362 : decode code 362 = .ok (.iload_n 3, 1) := by decide +kernel
theorem dL_law_363 : decode code 363 = .ok (.iconst 1, 1) := by decide +kernel
theorem dL_law_364 : decode code 364 = .ok (.iadd, 1) := by decide +kernel
theorem dL_law_365 : decode code 365 = .ok (.iaload, 1) := by decide +kernel
theorem dL_law_366 : decode code 366 = .ok (.aload_n 0, 1) := by decide +kernel
theorem dL_law_367 : decode code 367 = .ok (.iload_n 3, 1) := by decide +kernel
theorem dL_law_368 : decode code 368 = .ok (.iconst 2, 1) := by decide +kernel
theorem dL_law_369 : decode code 369 = .ok (.iadd, 1) := by decide +kernel
theorem dL_law_370 : decode code 370 = .ok (.iaload, 1) := by decide +kernel
theorem dL_law_371 : decode code 371 = .ok (.aload_n 0, 1) := by decide +kernel
theorem dL_law_372 : decode code 372 = .ok (.iload_n 3, 1) := by decide +kernel
theorem dL_law_373 : decode code 373 = .ok (.iconst 3, 1) := by decide +kernel
theorem dL_law_374 : decode code 374 = .ok (.iadd, 1) := by decide +kernel
theorem dL_law_375 : decode code 375 = .ok (.iaload, 1) := by decide +kernel
theorem dL_law_376 : decode code 376 = .ok (.aload_n 0, 1) := by decide +kernel
theorem dL_law_377 : decode code 377 = .ok (.iload_n 3, 1) := by decide +kernel
theorem dL_law_378 : decode code 378 = .ok (.iconst 4, 1) := by decide +kernel
theorem dL_law_379 : decode code 379 = .ok (.iadd, 1) := by decide +kernel
theorem dL_law_380 : decode code 380 = .ok (.iaload, 1) := by decide +kernel
theorem dL_law_381 : decode code 381 = .ok (.invokevirtual 33, 3) := by decide +kernel
theorem dL_law_384 : decode code 384 = .ok (.aload_n 2, 1) := by decide +kernel
theorem dL_law_385 : decode code 385 = .ok (.aload_n 0, 1) := by decide +kernel
theorem dL_law_386 : decode code 386 = .ok (.iload_n 3, 1) := by decide +kernel
theorem dL_law_387 : decode code 387 = .ok (.iconst 1, 1) := by decide +kernel
theorem dL_law_388 : decode code 388 = .ok (.iadd, 1) := by decide +kernel
theorem dL_law_389 : decode code 389 = .ok (.iaload, 1) := by decide +kernel
theorem dL_law_390 : decode code 390 = .ok (.aload_n 0, 1) := by decide +kernel
theorem dL_law_391 : decode code 391 = .ok (.iload_n 3, 1) := by decide +kernel
theorem dL_law_392 : decode code 392 = .ok (.iconst 2, 1) := by decide +kernel
theorem dL_law_393 : decode code 393 = .ok (.iadd, 1) := by decide +kernel
theorem dL_law_394 : decode code 394 = .ok (.iaload, 1) := by decide +kernel
theorem dL_law_395 : decode code 395 = .ok (.aload_n 0, 1) := by decide +kernel
theorem dL_law_396 : decode code 396 = .ok (.iload_n 3, 1) := by decide +kernel
theorem dL_law_397 : decode code 397 = .ok (.iconst 3, 1) := by decide +kernel
theorem dL_law_398 : decode code 398 = .ok (.iadd, 1) := by decide +kernel
theorem dL_law_399 : decode code 399 = .ok (.iaload, 1) := by decide +kernel
theorem dL_law_400 : decode code 400 = .ok (.aload_n 0, 1) := by decide +kernel
theorem dL_law_401 : decode code 401 = .ok (.iload_n 3, 1) := by decide +kernel
theorem dL_law_402 : decode code 402 = .ok (.iconst 4, 1) := by decide +kernel
theorem dL_law_403 : decode code 403 = .ok (.iadd, 1) := by decide +kernel
theorem dL_law_404 : decode code 404 = .ok (.iaload, 1) := by decide +kernel
theorem dL_law_405 : decode code 405 = .ok (.invokevirtual 37, 3) := by decide +kernel
theorem dL_law_408 : decode code 408 = .ok (.if_icmp .eq 764, 3) := by decide +kernel
theorem dL_law_411 : decode code 411 = .ok (.iconst 0, 1) := by decide +kernel
theorem dL_law_412 : decode code 412 = .ok (.ireturn, 1) := by decide +kernel
theorem dL_law_413 : decode code 413 = .ok (.aload_n 1, 1) := by decide +kernel
theorem dL_law_414 : decode code 414 = .ok (.aload_n 0, 1) := by decide +kernel
theorem dL_law_415 : decode code 415 = .ok (.iload_n 3, 1) := by decide +kernel
theorem dL_law_416 : decode code 416 = .ok (.iconst 1, 1) := by decide +kernel
theorem dL_law_417 : decode code 417 = .ok (.iadd, 1) := by decide +kernel
theorem dL_law_418 : decode code 418 = .ok (.iaload, 1) := by decide +kernel
theorem dL_law_419 : decode code 419 = .ok (.aload_n 0, 1) := by decide +kernel
theorem dL_law_420 : decode code 420 = .ok (.iload_n 3, 1) := by decide +kernel
theorem dL_law_421 : decode code 421 = .ok (.iconst 2, 1) := by decide +kernel
theorem dL_law_422 : decode code 422 = .ok (.iadd, 1) := by decide +kernel
theorem dL_law_423 : decode code 423 = .ok (.iaload, 1) := by decide +kernel
theorem dL_law_424 : decode code 424 = .ok (.invokevirtual 38, 3) := by decide +kernel
theorem dL_law_427 : decode code 427 = .ok (.aload_n 2, 1) := by decide +kernel
theorem dL_law_428 : decode code 428 = .ok (.aload_n 0, 1) := by decide +kernel
theorem dL_law_429 : decode code 429 = .ok (.iload_n 3, 1) := by decide +kernel
theorem dL_law_430 : decode code 430 = .ok (.iconst 1, 1) := by decide +kernel
theorem dL_law_431 : decode code 431 = .ok (.iadd, 1) := by decide +kernel
theorem dL_law_432 : decode code 432 = .ok (.iaload, 1) := by decide +kernel
theorem dL_law_433 : decode code 433 = .ok (.aload_n 0, 1) := by decide +kernel
theorem dL_law_434 : decode code 434 = .ok (.iload_n 3, 1) := by decide +kernel
theorem dL_law_435 : decode code 435 = .ok (.iconst 2, 1) := by decide +kernel
theorem dL_law_436 : decode code 436 = .ok (.iadd, 1) := by decide +kernel
theorem dL_law_437 : decode code 437 = .ok (.iaload, 1) := by decide +kernel
theorem dL_law_438 : decode code 438 = .ok (.invokevirtual 42, 3) := by decide +kernel
theorem dL_law_441 : decode code 441 = .ok (.if_icmp .eq 731, 3) := by decide +kernel
theorem dL_law_444 : decode code 444 = .ok (.iconst 0, 1) := by decide +kernel
theorem dL_law_445 : decode code 445 = .ok (.ireturn, 1) := by decide +kernel
theorem dL_law_446 : decode code 446 = .ok (.aload_n 1, 1) := by decide +kernel
theorem dL_law_447 : decode code 447 = .ok (.aload_n 0, 1) := by decide +kernel
theorem dL_law_448 : decode code 448 = .ok (.iload_n 3, 1) := by decide +kernel
theorem dL_law_449 : decode code 449 = .ok (.iconst 1, 1) := by decide +kernel
theorem dL_law_450 : decode code 450 = .ok (.iadd, 1) := by decide +kernel
theorem dL_law_451 : decode code 451 = .ok (.iaload, 1) := by decide +kernel
theorem dL_law_452 : decode code 452 = .ok (.aload_n 0, 1) := by decide +kernel
theorem dL_law_453 : decode code 453 = .ok (.iload_n 3, 1) := by decide +kernel
theorem dL_law_454 : decode code 454 = .ok (.iconst 2, 1) := by decide +kernel
theorem dL_law_455 : decode code 455 = .ok (.iadd, 1) := by decide +kernel
theorem dL_law_456 : decode code 456 = .ok (.iaload, 1) := by decide +kernel
theorem dL_law_457 : decode code 457 = .ok (.invokevirtual 43, 3) := by decide +kernel
theorem dL_law_460 : decode code 460 = .ok (.aload_n 2, 1) := by decide +kernel
theorem dL_law_461 : decode code 461 = .ok (.aload_n 0, 1) := by decide +kernel
theorem dL_law_462 : decode code 462 = .ok (.iload_n 3, 1) := by decide +kernel
theorem dL_law_463 : decode code 463 = .ok (.iconst 1, 1) := by decide +kernel
theorem dL_law_464 : decode code 464 = .ok (.iadd, 1) := by decide +kernel
theorem dL_law_465 : decode code 465 = .ok (.iaload, 1) := by decide +kernel
theorem dL_law_466 : decode code 466 = .ok (.aload_n 0, 1) := by decide +kernel
theorem dL_law_467 : decode code 467 = .ok (.iload_n 3, 1) := by decide +kernel
theorem dL_law_468 : decode code 468 = .ok (.iconst 2, 1) := by decide +kernel
theorem dL_law_469 : decode code 469 = .ok (.iadd, 1) := by decide +kernel
theorem dL_law_470 : decode code 470 = .ok (.iaload, 1) := by decide +kernel
theorem dL_law_471 : decode code 471 = .ok (.invokevirtual 46, 3) := by decide +kernel
theorem dL_law_474 : decode code 474 = .ok (.if_icmp .eq 698, 3) := by decide +kernel
theorem dL_law_477 : decode code 477 = .ok (.iconst 0, 1) := by decide +kernel
theorem dL_law_478 : decode code 478 = .ok (.ireturn, 1) := by decide +kernel
theorem dL_law_479 : decode code 479 = .ok (.aload_n 1, 1) := by decide +kernel
theorem dL_law_480 : decode code 480 = .ok (.aload_n 0, 1) := by decide +kernel
theorem dL_law_481 : decode code 481 = .ok (.iload_n 3, 1) := by decide +kernel
theorem dL_law_482 : decode code 482 = .ok (.iconst 1, 1) := by decide +kernel
theorem dL_law_483 : decode code 483 = .ok (.iadd, 1) := by decide +kernel
theorem dL_law_484 : decode code 484 = .ok (.iaload, 1) := by decide +kernel
theorem dL_law_485 : decode code 485 = .ok (.aload_n 0, 1) := by decide +kernel
theorem dL_law_486 : decode code 486 = .ok (.iload_n 3, 1) := by decide +kernel
theorem dL_law_487 : decode code 487 = .ok (.iconst 2, 1) := by decide +kernel
theorem dL_law_488 : decode code 488 = .ok (.iadd, 1) := by decide +kernel
theorem dL_law_489 : decode code 489 = .ok (.iaload, 1) := by decide +kernel
theorem dL_law_490 : decode code 490 = .ok (.invokevirtual 47, 3) := by decide +kernel
theorem dL_law_493 : decode code 493 = .ok (.aload_n 2, 1) := by decide +kernel
theorem dL_law_494 : decode code 494 = .ok (.aload_n 0, 1) := by decide +kernel
theorem dL_law_495 : decode code 495 = .ok (.iload_n 3, 1) := by decide +kernel
theorem dL_law_496 : decode code 496 = .ok (.iconst 1, 1) := by decide +kernel
theorem dL_law_497 : decode code 497 = .ok (.iadd, 1) := by decide +kernel
theorem dL_law_498 : decode code 498 = .ok (.iaload, 1) := by decide +kernel
theorem dL_law_499 : decode code 499 = .ok (.aload_n 0, 1) := by decide +kernel
theorem dL_law_500 : decode code 500 = .ok (.iload_n 3, 1) := by decide +kernel
theorem dL_law_501 : decode code 501 = .ok (.iconst 2, 1) := by decide +kernel
theorem dL_law_502 : decode code 502 = .ok (.iadd, 1) := by decide +kernel
theorem dL_law_503 : decode code 503 = .ok (.iaload, 1) := by decide +kernel
theorem dL_law_504 : decode code 504 = .ok (.invokevirtual 50, 3) := by decide +kernel
theorem dL_law_507 : decode code 507 = .ok (.if_icmp .eq 665, 3) := by decide +kernel
theorem dL_law_510 : decode code 510 = .ok (.iconst 0, 1) := by decide +kernel
theorem dL_law_511 : decode code 511 = .ok (.ireturn, 1) := by decide +kernel
theorem dL_law_512 : decode code 512 = .ok (.aload_n 1, 1) := by decide +kernel
theorem dL_law_513 : decode code 513 = .ok (.aload_n 0, 1) := by decide +kernel
theorem dL_law_514 : decode code 514 = .ok (.iload_n 3, 1) := by decide +kernel
theorem dL_law_515 : decode code 515 = .ok (.iconst 1, 1) := by decide +kernel
theorem dL_law_516 : decode code 516 = .ok (.iadd, 1) := by decide +kernel
theorem dL_law_517 : decode code 517 = .ok (.iaload, 1) := by decide +kernel
theorem dL_law_518 : decode code 518 = .ok (.aload_n 0, 1) := by decide +kernel
theorem dL_law_519 : decode code 519 = .ok (.iload_n 3, 1) := by decide +kernel
theorem dL_law_520 : decode code 520 = .ok (.iconst 2, 1) := by decide +kernel
theorem dL_law_521 : decode code 521 = .ok (.iadd, 1) := by decide +kernel
theorem dL_law_522 : decode code 522 = .ok (.iaload, 1) := by decide +kernel
theorem dL_law_523 : decode code 523 = .ok (.invokevirtual 51, 3) := by decide +kernel
theorem dL_law_526 : decode code 526 = .ok (.aload_n 2, 1) := by decide +kernel
theorem dL_law_527 : decode code 527 = .ok (.aload_n 0, 1) := by decide +kernel
theorem dL_law_528 : decode code 528 = .ok (.iload_n 3, 1) := by decide +kernel
theorem dL_law_529 : decode code 529 = .ok (.iconst 1, 1) := by decide +kernel
theorem dL_law_530 : decode code 530 = .ok (.iadd, 1) := by decide +kernel
theorem dL_law_531 : decode code 531 = .ok (.iaload, 1) := by decide +kernel
theorem dL_law_532 : decode code 532 = .ok (.aload_n 0, 1) := by decide +kernel
theorem dL_law_533 : decode code 533 = .ok (.iload_n 3, 1) := by decide +kernel
theorem dL_law_534 : decode code 534 = .ok (.iconst 2, 1) := by decide +kernel
theorem dL_law_535 : decode code 535 = .ok (.iadd, 1) := by decide +kernel
theorem dL_law_536 : decode code 536 = .ok (.iaload, 1) := by decide +kernel
theorem dL_law_537 : decode code 537 = .ok (.invokevirtual 54, 3) := by decide +kernel
theorem dL_law_540 : decode code 540 = .ok (.if_icmp .eq 632, 3) := by decide +kernel
theorem dL_law_543 : decode code 543 = .ok (.iconst 0, 1) := by decide +kernel
theorem dL_law_544 : decode code 544 = .ok (.ireturn, 1) := by decide +kernel
theorem dL_law_545 : decode code 545 = .ok (.aload_n 1, 1) := by decide +kernel
theorem dL_law_546 : decode code 546 = .ok (.aload_n 0, 1) := by decide +kernel
theorem dL_law_547 : decode code 547 = .ok (.iload_n 3, 1) := by decide +kernel
theorem dL_law_548 : decode code 548 = .ok (.iconst 1, 1) := by decide +kernel
theorem dL_law_549 : decode code 549 = .ok (.iadd, 1) := by decide +kernel
theorem dL_law_550 : decode code 550 = .ok (.iaload, 1) := by decide +kernel
theorem dL_law_551 : decode code 551 = .ok (.aload_n 0, 1) := by decide +kernel
theorem dL_law_552 : decode code 552 = .ok (.iload_n 3, 1) := by decide +kernel
theorem dL_law_553 : decode code 553 = .ok (.iconst 2, 1) := by decide +kernel
theorem dL_law_554 : decode code 554 = .ok (.iadd, 1) := by decide +kernel
theorem dL_law_555 : decode code 555 = .ok (.iaload, 1) := by decide +kernel
theorem dL_law_556 : decode code 556 = .ok (.aload_n 0, 1) := by decide +kernel
theorem dL_law_557 : decode code 557 = .ok (.iload_n 3, 1) := by decide +kernel
theorem dL_law_558 : decode code 558 = .ok (.iconst 3, 1) := by decide +kernel
theorem dL_law_559 : decode code 559 = .ok (.iadd, 1) := by decide +kernel
theorem dL_law_560 : decode code 560 = .ok (.iaload, 1) := by decide +kernel
theorem dL_law_561 : decode code 561 = .ok (.invokevirtual 55, 3) := by decide +kernel
theorem dL_law_564 : decode code 564 = .ok (.aload_n 2, 1) := by decide +kernel
theorem dL_law_565 : decode code 565 = .ok (.aload_n 0, 1) := by decide +kernel
theorem dL_law_566 : decode code 566 = .ok (.iload_n 3, 1) := by decide +kernel
theorem dL_law_567 : decode code 567 = .ok (.iconst 1, 1) := by decide +kernel
theorem dL_law_568 : decode code 568 = .ok (.iadd, 1) := by decide +kernel
theorem dL_law_569 : decode code 569 = .ok (.iaload, 1) := by decide +kernel
theorem dL_law_570 : decode code 570 = .ok (.aload_n 0, 1) := by decide +kernel
theorem dL_law_571 : decode code 571 = .ok (.iload_n 3, 1) := by decide +kernel
theorem dL_law_572 : decode code 572 = .ok (.iconst 2, 1) := by decide +kernel
theorem dL_law_573 : decode code 573 = .ok (.iadd, 1) := by decide +kernel
theorem dL_law_574 : decode code 574 = .ok (.iaload, 1) := by decide +kernel
theorem dL_law_575 : decode code 575 = .ok (.aload_n 0, 1) := by decide +kernel
theorem dL_law_576 : decode code 576 = .ok (.iload_n 3, 1) := by decide +kernel
theorem dL_law_577 : decode code 577 = .ok (.iconst 3, 1) := by decide +kernel
theorem dL_law_578 : decode code 578 = .ok (.iadd, 1) := by decide +kernel
theorem dL_law_579 : decode code 579 = .ok (.iaload, 1) := by decide +kernel
theorem dL_law_580 : decode code 580 = .ok (.invokevirtual 58, 3) := by decide +kernel
theorem dL_law_583 : decode code 583 = .ok (.if_icmp .eq 589, 3) := by decide +kernel
theorem dL_law_586 : decode code 586 = .ok (.iconst 0, 1) := by decide +kernel
theorem dL_law_587 : decode code 587 = .ok (.ireturn, 1) := by decide +kernel
theorem dL_law_588 : decode code 588 = .ok (.aload_n 1, 1) := by decide +kernel
theorem dL_law_589 : decode code 589 = .ok (.aload_n 0, 1) := by decide +kernel
theorem dL_law_590 : decode code 590 = .ok (.iload_n 3, 1) := by decide +kernel
theorem dL_law_591 : decode code 591 = .ok (.iconst 1, 1) := by decide +kernel
theorem dL_law_592 : decode code 592 = .ok (.iadd, 1) := by decide +kernel
theorem dL_law_593 : decode code 593 = .ok (.iaload, 1) := by decide +kernel
theorem dL_law_594 : decode code 594 = .ok (.aload_n 0, 1) := by decide +kernel
theorem dL_law_595 : decode code 595 = .ok (.iload_n 3, 1) := by decide +kernel
theorem dL_law_596 : decode code 596 = .ok (.iconst 2, 1) := by decide +kernel
theorem dL_law_597 : decode code 597 = .ok (.iadd, 1) := by decide +kernel
theorem dL_law_598 : decode code 598 = .ok (.iaload, 1) := by decide +kernel
theorem dL_law_599 : decode code 599 = .ok (.aload_n 0, 1) := by decide +kernel
theorem dL_law_600 : decode code 600 = .ok (.iload_n 3, 1) := by decide +kernel
theorem dL_law_601 : decode code 601 = .ok (.iconst 3, 1) := by decide +kernel
theorem dL_law_602 : decode code 602 = .ok (.iadd, 1) := by decide +kernel
theorem dL_law_603 : decode code 603 = .ok (.iaload, 1) := by decide +kernel
theorem dL_law_604 : decode code 604 = .ok (.invokevirtual 59, 3) := by decide +kernel
theorem dL_law_607 : decode code 607 = .ok (.aload_n 2, 1) := by decide +kernel
theorem dL_law_608 : decode code 608 = .ok (.aload_n 0, 1) := by decide +kernel
theorem dL_law_609 : decode code 609 = .ok (.iload_n 3, 1) := by decide +kernel
theorem dL_law_610 : decode code 610 = .ok (.iconst 1, 1) := by decide +kernel
theorem dL_law_611 : decode code 611 = .ok (.iadd, 1) := by decide +kernel
theorem dL_law_612 : decode code 612 = .ok (.iaload, 1) := by decide +kernel
theorem dL_law_613 : decode code 613 = .ok (.aload_n 0, 1) := by decide +kernel
theorem dL_law_614 : decode code 614 = .ok (.iload_n 3, 1) := by decide +kernel
theorem dL_law_615 : decode code 615 = .ok (.iconst 2, 1) := by decide +kernel
theorem dL_law_616 : decode code 616 = .ok (.iadd, 1) := by decide +kernel
theorem dL_law_617 : decode code 617 = .ok (.iaload, 1) := by decide +kernel
theorem dL_law_618 : decode code 618 = .ok (.aload_n 0, 1) := by decide +kernel
theorem dL_law_619 : decode code 619 = .ok (.iload_n 3, 1) := by decide +kernel
theorem dL_law_620 : decode code 620 = .ok (.iconst 3, 1) := by decide +kernel
theorem dL_law_621 : decode code 621 = .ok (.iadd, 1) := by decide +kernel
theorem dL_law_622 : decode code 622 = .ok (.iaload, 1) := by decide +kernel
theorem dL_law_623 : decode code 623 = .ok (.invokevirtual 62, 3) := by decide +kernel
theorem dL_law_626 : decode code 626 = .ok (.if_icmp .eq 546, 3) := by decide +kernel
theorem dL_law_629 : decode code 629 = .ok (.iconst 0, 1) := by decide +kernel
theorem dL_law_630 : decode code 630 = .ok (.ireturn, 1) := by decide +kernel
theorem dL_law_631 : decode code 631 = .ok (.aload_n 1, 1) := by decide +kernel
theorem dL_law_632 : decode code 632 = .ok (.aload_n 0, 1) := by decide +kernel
theorem dL_law_633 : decode code 633 = .ok (.iload_n 3, 1) := by decide +kernel
theorem dL_law_634 : decode code 634 = .ok (.iconst 1, 1) := by decide +kernel
theorem dL_law_635 : decode code 635 = .ok (.iadd, 1) := by decide +kernel
theorem dL_law_636 : decode code 636 = .ok (.iaload, 1) := by decide +kernel
theorem dL_law_637 : decode code 637 = .ok (.aload_n 0, 1) := by decide +kernel
theorem dL_law_638 : decode code 638 = .ok (.iload_n 3, 1) := by decide +kernel
theorem dL_law_639 : decode code 639 = .ok (.iconst 2, 1) := by decide +kernel
theorem dL_law_640 : decode code 640 = .ok (.iadd, 1) := by decide +kernel
theorem dL_law_641 : decode code 641 = .ok (.iaload, 1) := by decide +kernel
theorem dL_law_642 : decode code 642 = .ok (.aload_n 0, 1) := by decide +kernel
theorem dL_law_643 : decode code 643 = .ok (.iload_n 3, 1) := by decide +kernel
theorem dL_law_644 : decode code 644 = .ok (.iconst 3, 1) := by decide +kernel
theorem dL_law_645 : decode code 645 = .ok (.iadd, 1) := by decide +kernel
theorem dL_law_646 : decode code 646 = .ok (.iaload, 1) := by decide +kernel
theorem dL_law_647 : decode code 647 = .ok (.aload_n 0, 1) := by decide +kernel
theorem dL_law_648 : decode code 648 = .ok (.iload_n 3, 1) := by decide +kernel
theorem dL_law_649 : decode code 649 = .ok (.iconst 4, 1) := by decide +kernel
theorem dL_law_650 : decode code 650 = .ok (.iadd, 1) := by decide +kernel
theorem dL_law_651 : decode code 651 = .ok (.iaload, 1) := by decide +kernel
theorem dL_law_652 : decode code 652 = .ok (.aload_n 0, 1) := by decide +kernel
theorem dL_law_653 : decode code 653 = .ok (.iload_n 3, 1) := by decide +kernel
theorem dL_law_654 : decode code 654 = .ok (.iconst 5, 1) := by decide +kernel
theorem dL_law_655 : decode code 655 = .ok (.iadd, 1) := by decide +kernel
theorem dL_law_656 : decode code 656 = .ok (.iaload, 1) := by decide +kernel
theorem dL_law_657 : decode code 657 = .ok (.invokevirtual 63, 3) := by decide +kernel
theorem dL_law_660 : decode code 660 = .ok (.aload_n 2, 1) := by decide +kernel
theorem dL_law_661 : decode code 661 = .ok (.aload_n 0, 1) := by decide +kernel
theorem dL_law_662 : decode code 662 = .ok (.iload_n 3, 1) := by decide +kernel
theorem dL_law_663 : decode code 663 = .ok (.iconst 1, 1) := by decide +kernel
theorem dL_law_664 : decode code 664 = .ok (.iadd, 1) := by decide +kernel
theorem dL_law_665 : decode code 665 = .ok (.iaload, 1) := by decide +kernel
theorem dL_law_666 : decode code 666 = .ok (.aload_n 0, 1) := by decide +kernel
theorem dL_law_667 : decode code 667 = .ok (.iload_n 3, 1) := by decide +kernel
theorem dL_law_668 : decode code 668 = .ok (.iconst 2, 1) := by decide +kernel
theorem dL_law_669 : decode code 669 = .ok (.iadd, 1) := by decide +kernel
theorem dL_law_670 : decode code 670 = .ok (.iaload, 1) := by decide +kernel
theorem dL_law_671 : decode code 671 = .ok (.aload_n 0, 1) := by decide +kernel
theorem dL_law_672 : decode code 672 = .ok (.iload_n 3, 1) := by decide +kernel
theorem dL_law_673 : decode code 673 = .ok (.iconst 3, 1) := by decide +kernel
theorem dL_law_674 : decode code 674 = .ok (.iadd, 1) := by decide +kernel
theorem dL_law_675 : decode code 675 = .ok (.iaload, 1) := by decide +kernel
theorem dL_law_676 : decode code 676 = .ok (.aload_n 0, 1) := by decide +kernel
theorem dL_law_677 : decode code 677 = .ok (.iload_n 3, 1) := by decide +kernel
theorem dL_law_678 : decode code 678 = .ok (.iconst 4, 1) := by decide +kernel
theorem dL_law_679 : decode code 679 = .ok (.iadd, 1) := by decide +kernel
theorem dL_law_680 : decode code 680 = .ok (.iaload, 1) := by decide +kernel
theorem dL_law_681 : decode code 681 = .ok (.aload_n 0, 1) := by decide +kernel
theorem dL_law_682 : decode code 682 = .ok (.iload_n 3, 1) := by decide +kernel
theorem dL_law_683 : decode code 683 = .ok (.iconst 5, 1) := by decide +kernel
theorem dL_law_684 : decode code 684 = .ok (.iadd, 1) := by decide +kernel
theorem dL_law_685 : decode code 685 = .ok (.iaload, 1) := by decide +kernel
theorem dL_law_686 : decode code 686 = .ok (.invokevirtual 66, 3) := by decide +kernel
theorem dL_law_689 : decode code 689 = .ok (.if_icmp .eq 483, 3) := by decide +kernel
theorem dL_law_692 : decode code 692 = .ok (.iconst 0, 1) := by decide +kernel
theorem dL_law_693 : decode code 693 = .ok (.ireturn, 1) := by decide +kernel
theorem dL_law_694 : decode code 694 = .ok (.aload_n 1, 1) := by decide +kernel
theorem dL_law_695 : decode code 695 = .ok (.aload_n 0, 1) := by decide +kernel
theorem dL_law_696 : decode code 696 = .ok (.iload_n 3, 1) := by decide +kernel
theorem dL_law_697 : decode code 697 = .ok (.iconst 1, 1) := by decide +kernel
theorem dL_law_698 : decode code 698 = .ok (.iadd, 1) := by decide +kernel
theorem dL_law_699 : decode code 699 = .ok (.iaload, 1) := by decide +kernel
theorem dL_law_700 : decode code 700 = .ok (.invokevirtual 67, 3) := by decide +kernel
theorem dL_law_703 : decode code 703 = .ok (.aload_n 2, 1) := by decide +kernel
theorem dL_law_704 : decode code 704 = .ok (.aload_n 0, 1) := by decide +kernel
theorem dL_law_705 : decode code 705 = .ok (.iload_n 3, 1) := by decide +kernel
theorem dL_law_706 : decode code 706 = .ok (.iconst 1, 1) := by decide +kernel
theorem dL_law_707 : decode code 707 = .ok (.iadd, 1) := by decide +kernel
theorem dL_law_708 : decode code 708 = .ok (.iaload, 1) := by decide +kernel
theorem dL_law_709 : decode code 709 = .ok (.invokevirtual 70, 3) := by decide +kernel
theorem dL_law_712 : decode code 712 = .ok (.if_icmp .eq 460, 3) := by decide +kernel
theorem dL_law_715 : decode code 715 = .ok (.iconst 0, 1) := by decide +kernel
theorem dL_law_716 : decode code 716 = .ok (.ireturn, 1) := by decide +kernel
theorem dL_law_717 : decode code 717 = .ok (.aload_n 1, 1) := by decide +kernel
theorem dL_law_718 : decode code 718 = .ok (.aload_n 0, 1) := by decide +kernel
theorem dL_law_719 : decode code 719 = .ok (.iload_n 3, 1) := by decide +kernel
theorem dL_law_720 : decode code 720 = .ok (.iconst 1, 1) := by decide +kernel
theorem dL_law_721 : decode code 721 = .ok (.iadd, 1) := by decide +kernel
theorem dL_law_722 : decode code 722 = .ok (.iaload, 1) := by decide +kernel
theorem dL_law_723 : decode code 723 = .ok (.invokevirtual 71, 3) := by decide +kernel
theorem dL_law_726 : decode code 726 = .ok (.aload_n 2, 1) := by decide +kernel
theorem dL_law_727 : decode code 727 = .ok (.aload_n 0, 1) := by decide +kernel
theorem dL_law_728 : decode code 728 = .ok (.iload_n 3, 1) := by decide +kernel
theorem dL_law_729 : decode code 729 = .ok (.iconst 1, 1) := by decide +kernel
theorem dL_law_730 : decode code 730 = .ok (.iadd, 1) := by decide +kernel
theorem dL_law_731 : decode code 731 = .ok (.iaload, 1) := by decide +kernel
theorem dL_law_732 : decode code 732 = .ok (.invokevirtual 74, 3) := by decide +kernel
theorem dL_law_735 : decode code 735 = .ok (.if_icmp .eq 437, 3) := by decide +kernel
theorem dL_law_738 : decode code 738 = .ok (.iconst 0, 1) := by decide +kernel
theorem dL_law_739 : decode code 739 = .ok (.ireturn, 1) := by decide +kernel
theorem dL_law_740 : decode code 740 = .ok (.aload_n 1, 1) := by decide +kernel
theorem dL_law_741 : decode code 741 = .ok (.aload_n 0, 1) := by decide +kernel
theorem dL_law_742 : decode code 742 = .ok (.iload_n 3, 1) := by decide +kernel
theorem dL_law_743 : decode code 743 = .ok (.iconst 1, 1) := by decide +kernel
theorem dL_law_744 : decode code 744 = .ok (.iadd, 1) := by decide +kernel
theorem dL_law_745 : decode code 745 = .ok (.iaload, 1) := by decide +kernel
theorem dL_law_746 : decode code 746 = .ok (.invokevirtual 75, 3) := by decide +kernel
theorem dL_law_749 : decode code 749 = .ok (.aload_n 2, 1) := by decide +kernel
theorem dL_law_750 : decode code 750 = .ok (.aload_n 0, 1) := by decide +kernel
theorem dL_law_751 : decode code 751 = .ok (.iload_n 3, 1) := by decide +kernel
theorem dL_law_752 : decode code 752 = .ok (.iconst 1, 1) := by decide +kernel
theorem dL_law_753 : decode code 753 = .ok (.iadd, 1) := by decide +kernel
theorem dL_law_754 : decode code 754 = .ok (.iaload, 1) := by decide +kernel
theorem dL_law_755 : decode code 755 = .ok (.invokevirtual 78, 3) := by decide +kernel
theorem dL_law_758 : decode code 758 = .ok (.if_icmp .eq 414, 3) := by decide +kernel
theorem dL_law_761 : decode code 761 = .ok (.iconst 0, 1) := by decide +kernel
theorem dL_law_762 : decode code 762 = .ok (.ireturn, 1) := by decide +kernel
theorem dL_law_763 : decode code 763 = .ok (.aload_n 1, 1) := by decide +kernel
theorem dL_law_764 : decode code 764 = .ok (.aload_n 0, 1) := by decide +kernel
theorem dL_law_765 : decode code 765 = .ok (.iload_n 3, 1) := by decide +kernel
theorem dL_law_766 : decode code 766 = .ok (.iconst 1, 1) := by decide +kernel
theorem dL_law_767 : decode code 767 = .ok (.iadd, 1) := by decide +kernel
theorem dL_law_768 : decode code 768 = .ok (.iaload, 1) := by decide +kernel
theorem dL_law_769 : decode code 769 = .ok (.invokevirtual 79, 3) := by decide +kernel
theorem dL_law_772 : decode code 772 = .ok (.aload_n 2, 1) := by decide +kernel
theorem dL_law_773 : decode code 773 = .ok (.aload_n 0, 1) := by decide +kernel
theorem dL_law_774 : decode code 774 = .ok (.iload_n 3, 1) := by decide +kernel
theorem dL_law_775 : decode code 775 = .ok (.iconst 1, 1) := by decide +kernel
theorem dL_law_776 : decode code 776 = .ok (.iadd, 1) := by decide +kernel
theorem dL_law_777 : decode code 777 = .ok (.iaload, 1) := by decide +kernel
theorem dL_law_778 : decode code 778 = .ok (.invokevirtual 82, 3) := by decide +kernel
theorem dL_law_781 : decode code 781 = .ok (.if_icmp .eq 391, 3) := by decide +kernel
theorem dL_law_784 : decode code 784 = .ok (.iconst 0, 1) := by decide +kernel
theorem dL_law_785 : decode code 785 = .ok (.ireturn, 1) := by decide +kernel
theorem dL_law_786 : decode code 786 = .ok (.aload_n 1, 1) := by decide +kernel
theorem dL_law_787 : decode code 787 = .ok (.aload_n 0, 1) := by decide +kernel
theorem dL_law_788 : decode code 788 = .ok (.iload_n 3, 1) := by decide +kernel
theorem dL_law_789 : decode code 789 = .ok (.iconst 1, 1) := by decide +kernel
theorem dL_law_790 : decode code 790 = .ok (.iadd, 1) := by decide +kernel
theorem dL_law_791 : decode code 791 = .ok (.iaload, 1) := by decide +kernel
theorem dL_law_792 : decode code 792 = .ok (.aload_n 0, 1) := by decide +kernel
theorem dL_law_793 : decode code 793 = .ok (.iload_n 3, 1) := by decide +kernel
theorem dL_law_794 : decode code 794 = .ok (.iconst 2, 1) := by decide +kernel
theorem dL_law_795 : decode code 795 = .ok (.iadd, 1) := by decide +kernel
theorem dL_law_796 : decode code 796 = .ok (.iaload, 1) := by decide +kernel
theorem dL_law_797 : decode code 797 = .ok (.aload_n 0, 1) := by decide +kernel
theorem dL_law_798 : decode code 798 = .ok (.iload_n 3, 1) := by decide +kernel
theorem dL_law_799 : decode code 799 = .ok (.iconst 3, 1) := by decide +kernel
theorem dL_law_800 : decode code 800 = .ok (.iadd, 1) := by decide +kernel
theorem dL_law_801 : decode code 801 = .ok (.iaload, 1) := by decide +kernel
theorem dL_law_802 : decode code 802 = .ok (.invokevirtual 83, 3) := by decide +kernel
theorem dL_law_805 : decode code 805 = .ok (.aload_n 2, 1) := by decide +kernel
theorem dL_law_806 : decode code 806 = .ok (.aload_n 0, 1) := by decide +kernel
theorem dL_law_807 : decode code 807 = .ok (.iload_n 3, 1) := by decide +kernel
theorem dL_law_808 : decode code 808 = .ok (.iconst 1, 1) := by decide +kernel
theorem dL_law_809 : decode code 809 = .ok (.iadd, 1) := by decide +kernel
theorem dL_law_810 : decode code 810 = .ok (.iaload, 1) := by decide +kernel
theorem dL_law_811 : decode code 811 = .ok (.aload_n 0, 1) := by decide +kernel
theorem dL_law_812 : decode code 812 = .ok (.iload_n 3, 1) := by decide +kernel
theorem dL_law_813 : decode code 813 = .ok (.iconst 2, 1) := by decide +kernel
theorem dL_law_814 : decode code 814 = .ok (.iadd, 1) := by decide +kernel
theorem dL_law_815 : decode code 815 = .ok (.iaload, 1) := by decide +kernel
theorem dL_law_816 : decode code 816 = .ok (.aload_n 0, 1) := by decide +kernel
theorem dL_law_817 : decode code 817 = .ok (.iload_n 3, 1) := by decide +kernel
theorem dL_law_818 : decode code 818 = .ok (.iconst 3, 1) := by decide +kernel
theorem dL_law_819 : decode code 819 = .ok (.iadd, 1) := by decide +kernel
theorem dL_law_820 : decode code 820 = .ok (.iaload, 1) := by decide +kernel
theorem dL_law_821 : decode code 821 = .ok (.invokevirtual 86, 3) := by decide +kernel
theorem dL_law_824 : decode code 824 = .ok (.if_icmp .eq 348, 3) := by decide +kernel
theorem dL_law_827 : decode code 827 = .ok (.iconst 0, 1) := by decide +kernel
theorem dL_law_828 : decode code 828 = .ok (.ireturn, 1) := by decide +kernel
theorem dL_law_829 : decode code 829 = .ok (.aload_n 1, 1) := by decide +kernel
theorem dL_law_830 : decode code 830 = .ok (.aload_n 0, 1) := by decide +kernel
theorem dL_law_831 : decode code 831 = .ok (.iload_n 3, 1) := by decide +kernel
theorem dL_law_832 : decode code 832 = .ok (.iconst 1, 1) := by decide +kernel
theorem dL_law_833 : decode code 833 = .ok (.iadd, 1) := by decide +kernel
theorem dL_law_834 : decode code 834 = .ok (.iaload, 1) := by decide +kernel
theorem dL_law_835 : decode code 835 = .ok (.aload_n 0, 1) := by decide +kernel
theorem dL_law_836 : decode code 836 = .ok (.iload_n 3, 1) := by decide +kernel
theorem dL_law_837 : decode code 837 = .ok (.iconst 2, 1) := by decide +kernel
theorem dL_law_838 : decode code 838 = .ok (.iadd, 1) := by decide +kernel
theorem dL_law_839 : decode code 839 = .ok (.iaload, 1) := by decide +kernel
theorem dL_law_840 : decode code 840 = .ok (.aload_n 0, 1) := by decide +kernel
theorem dL_law_841 : decode code 841 = .ok (.iload_n 3, 1) := by decide +kernel
theorem dL_law_842 : decode code 842 = .ok (.iconst 3, 1) := by decide +kernel
theorem dL_law_843 : decode code 843 = .ok (.iadd, 1) := by decide +kernel
theorem dL_law_844 : decode code 844 = .ok (.iaload, 1) := by decide +kernel
theorem dL_law_845 : decode code 845 = .ok (.invokevirtual 87, 3) := by decide +kernel
theorem dL_law_848 : decode code 848 = .ok (.aload_n 2, 1) := by decide +kernel
theorem dL_law_849 : decode code 849 = .ok (.aload_n 0, 1) := by decide +kernel
theorem dL_law_850 : decode code 850 = .ok (.iload_n 3, 1) := by decide +kernel
theorem dL_law_851 : decode code 851 = .ok (.iconst 1, 1) := by decide +kernel
theorem dL_law_852 : decode code 852 = .ok (.iadd, 1) := by decide +kernel
theorem dL_law_853 : decode code 853 = .ok (.iaload, 1) := by decide +kernel
theorem dL_law_854 : decode code 854 = .ok (.aload_n 0, 1) := by decide +kernel
theorem dL_law_855 : decode code 855 = .ok (.iload_n 3, 1) := by decide +kernel
theorem dL_law_856 : decode code 856 = .ok (.iconst 2, 1) := by decide +kernel
theorem dL_law_857 : decode code 857 = .ok (.iadd, 1) := by decide +kernel
theorem dL_law_858 : decode code 858 = .ok (.iaload, 1) := by decide +kernel
theorem dL_law_859 : decode code 859 = .ok (.aload_n 0, 1) := by decide +kernel
theorem dL_law_860 : decode code 860 = .ok (.iload_n 3, 1) := by decide +kernel
theorem dL_law_861 : decode code 861 = .ok (.iconst 3, 1) := by decide +kernel
theorem dL_law_862 : decode code 862 = .ok (.iadd, 1) := by decide +kernel
theorem dL_law_863 : decode code 863 = .ok (.iaload, 1) := by decide +kernel
theorem dL_law_864 : decode code 864 = .ok (.invokevirtual 90, 3) := by decide +kernel
theorem dL_law_867 : decode code 867 = .ok (.if_icmp .eq 305, 3) := by decide +kernel
theorem dL_law_870 : decode code 870 = .ok (.iconst 0, 1) := by decide +kernel
theorem dL_law_871 : decode code 871 = .ok (.ireturn, 1) := by decide +kernel
theorem dL_law_872 : decode code 872 = .ok (.aload_n 1, 1) := by decide +kernel
theorem dL_law_873 : decode code 873 = .ok (.aload_n 0, 1) := by decide +kernel
theorem dL_law_874 : decode code 874 = .ok (.iload_n 3, 1) := by decide +kernel
theorem dL_law_875 : decode code 875 = .ok (.iconst 1, 1) := by decide +kernel
theorem dL_law_876 : decode code 876 = .ok (.iadd, 1) := by decide +kernel
theorem dL_law_877 : decode code 877 = .ok (.iaload, 1) := by decide +kernel
theorem dL_law_878 : decode code 878 = .ok (.invokevirtual 91, 3) := by decide +kernel
theorem dL_law_881 : decode code 881 = .ok (.aload_n 2, 1) := by decide +kernel
theorem dL_law_882 : decode code 882 = .ok (.aload_n 0, 1) := by decide +kernel
theorem dL_law_883 : decode code 883 = .ok (.iload_n 3, 1) := by decide +kernel
theorem dL_law_884 : decode code 884 = .ok (.iconst 1, 1) := by decide +kernel
theorem dL_law_885 : decode code 885 = .ok (.iadd, 1) := by decide +kernel
theorem dL_law_886 : decode code 886 = .ok (.iaload, 1) := by decide +kernel
theorem dL_law_887 : decode code 887 = .ok (.invokevirtual 94, 3) := by decide +kernel
theorem dL_law_890 : decode code 890 = .ok (.if_icmp .eq 282, 3) := by decide +kernel
theorem dL_law_893 : decode code 893 = .ok (.iconst 0, 1) := by decide +kernel
theorem dL_law_894 : decode code 894 = .ok (.ireturn, 1) := by decide +kernel
theorem dL_law_895 : decode code 895 = .ok (.aload_n 1, 1) := by decide +kernel
theorem dL_law_896 : decode code 896 = .ok (.aload_n 0, 1) := by decide +kernel
theorem dL_law_897 : decode code 897 = .ok (.iload_n 3, 1) := by decide +kernel
theorem dL_law_898 : decode code 898 = .ok (.iconst 1, 1) := by decide +kernel
theorem dL_law_899 : decode code 899 = .ok (.iadd, 1) := by decide +kernel
theorem dL_law_900 : decode code 900 = .ok (.iaload, 1) := by decide +kernel
theorem dL_law_901 : decode code 901 = .ok (.aload_n 0, 1) := by decide +kernel
theorem dL_law_902 : decode code 902 = .ok (.iload_n 3, 1) := by decide +kernel
theorem dL_law_903 : decode code 903 = .ok (.iconst 2, 1) := by decide +kernel
theorem dL_law_904 : decode code 904 = .ok (.iadd, 1) := by decide +kernel
theorem dL_law_905 : decode code 905 = .ok (.iaload, 1) := by decide +kernel
theorem dL_law_906 : decode code 906 = .ok (.invokevirtual 95, 3) := by decide +kernel
theorem dL_law_909 : decode code 909 = .ok (.aload_n 2, 1) := by decide +kernel
theorem dL_law_910 : decode code 910 = .ok (.aload_n 0, 1) := by decide +kernel
theorem dL_law_911 : decode code 911 = .ok (.iload_n 3, 1) := by decide +kernel
theorem dL_law_912 : decode code 912 = .ok (.iconst 1, 1) := by decide +kernel
theorem dL_law_913 : decode code 913 = .ok (.iadd, 1) := by decide +kernel
theorem dL_law_914 : decode code 914 = .ok (.iaload, 1) := by decide +kernel
theorem dL_law_915 : decode code 915 = .ok (.aload_n 0, 1) := by decide +kernel
theorem dL_law_916 : decode code 916 = .ok (.iload_n 3, 1) := by decide +kernel
theorem dL_law_917 : decode code 917 = .ok (.iconst 2, 1) := by decide +kernel
theorem dL_law_918 : decode code 918 = .ok (.iadd, 1) := by decide +kernel
theorem dL_law_919 : decode code 919 = .ok (.iaload, 1) := by decide +kernel
theorem dL_law_920 : decode code 920 = .ok (.invokevirtual 98, 3) := by decide +kernel
theorem dL_law_923 : decode code 923 = .ok (.if_icmp .eq 249, 3) := by decide +kernel
theorem dL_law_926 : decode code 926 = .ok (.iconst 0, 1) := by decide +kernel
theorem dL_law_927 : decode code 927 = .ok (.ireturn, 1) := by decide +kernel
theorem dL_law_928 : decode code 928 = .ok (.aload_n 1, 1) := by decide +kernel
theorem dL_law_929 : decode code 929 = .ok (.aload_n 0, 1) := by decide +kernel
theorem dL_law_930 : decode code 930 = .ok (.iload_n 3, 1) := by decide +kernel
theorem dL_law_931 : decode code 931 = .ok (.iconst 1, 1) := by decide +kernel
theorem dL_law_932 : decode code 932 = .ok (.iadd, 1) := by decide +kernel
theorem dL_law_933 : decode code 933 = .ok (.iaload, 1) := by decide +kernel
theorem dL_law_934 : decode code 934 = .ok (.aload_n 0, 1) := by decide +kernel
theorem dL_law_935 : decode code 935 = .ok (.iload_n 3, 1) := by decide +kernel
theorem dL_law_936 : decode code 936 = .ok (.iconst 2, 1) := by decide +kernel
theorem dL_law_937 : decode code 937 = .ok (.iadd, 1) := by decide +kernel
theorem dL_law_938 : decode code 938 = .ok (.iaload, 1) := by decide +kernel
theorem dL_law_939 : decode code 939 = .ok (.invokevirtual 99, 3) := by decide +kernel
theorem dL_law_942 : decode code 942 = .ok (.aload_n 2, 1) := by decide +kernel
theorem dL_law_943 : decode code 943 = .ok (.aload_n 0, 1) := by decide +kernel
theorem dL_law_944 : decode code 944 = .ok (.iload_n 3, 1) := by decide +kernel
theorem dL_law_945 : decode code 945 = .ok (.iconst 1, 1) := by decide +kernel
theorem dL_law_946 : decode code 946 = .ok (.iadd, 1) := by decide +kernel
theorem dL_law_947 : decode code 947 = .ok (.iaload, 1) := by decide +kernel
theorem dL_law_948 : decode code 948 = .ok (.aload_n 0, 1) := by decide +kernel
theorem dL_law_949 : decode code 949 = .ok (.iload_n 3, 1) := by decide +kernel
theorem dL_law_950 : decode code 950 = .ok (.iconst 2, 1) := by decide +kernel
theorem dL_law_951 : decode code 951 = .ok (.iadd, 1) := by decide +kernel
theorem dL_law_952 : decode code 952 = .ok (.iaload, 1) := by decide +kernel
theorem dL_law_953 : decode code 953 = .ok (.invokevirtual 102, 3) := by decide +kernel
theorem dL_law_956 : decode code 956 = .ok (.if_icmp .eq 216, 3) := by decide +kernel
theorem dL_law_959 : decode code 959 = .ok (.iconst 0, 1) := by decide +kernel
theorem dL_law_960 : decode code 960 = .ok (.ireturn, 1) := by decide +kernel
theorem dL_law_961 : decode code 961 = .ok (.aload_n 1, 1) := by decide +kernel
theorem dL_law_962 : decode code 962 = .ok (.aload_n 0, 1) := by decide +kernel
theorem dL_law_963 : decode code 963 = .ok (.iload_n 3, 1) := by decide +kernel
theorem dL_law_964 : decode code 964 = .ok (.iconst 1, 1) := by decide +kernel
theorem dL_law_965 : decode code 965 = .ok (.iadd, 1) := by decide +kernel
theorem dL_law_966 : decode code 966 = .ok (.iaload, 1) := by decide +kernel
theorem dL_law_967 : decode code 967 = .ok (.invokevirtual 103, 3) := by decide +kernel
theorem dL_law_970 : decode code 970 = .ok (.aload_n 2, 1) := by decide +kernel
theorem dL_law_971 : decode code 971 = .ok (.aload_n 0, 1) := by decide +kernel
theorem dL_law_972 : decode code 972 = .ok (.iload_n 3, 1) := by decide +kernel
theorem dL_law_973 : decode code 973 = .ok (.iconst 1, 1) := by decide +kernel
theorem dL_law_974 : decode code 974 = .ok (.iadd, 1) := by decide +kernel
theorem dL_law_975 : decode code 975 = .ok (.iaload, 1) := by decide +kernel
theorem dL_law_976 : decode code 976 = .ok (.invokevirtual 106, 3) := by decide +kernel
theorem dL_law_979 : decode code 979 = .ok (.if_icmp .eq 193, 3) := by decide +kernel
theorem dL_law_982 : decode code 982 = .ok (.iconst 0, 1) := by decide +kernel
theorem dL_law_983 : decode code 983 = .ok (.ireturn, 1) := by decide +kernel
theorem dL_law_984 : decode code 984 = .ok (.aload_n 1, 1) := by decide +kernel
theorem dL_law_985 : decode code 985 = .ok (.aload_n 0, 1) := by decide +kernel
theorem dL_law_986 : decode code 986 = .ok (.iload_n 3, 1) := by decide +kernel
theorem dL_law_987 : decode code 987 = .ok (.iconst 1, 1) := by decide +kernel
theorem dL_law_988 : decode code 988 = .ok (.iadd, 1) := by decide +kernel
theorem dL_law_989 : decode code 989 = .ok (.iaload, 1) := by decide +kernel
theorem dL_law_990 : decode code 990 = .ok (.invokevirtual 107, 3) := by decide +kernel
theorem dL_law_993 : decode code 993 = .ok (.aload_n 2, 1) := by decide +kernel
theorem dL_law_994 : decode code 994 = .ok (.aload_n 0, 1) := by decide +kernel
theorem dL_law_995 : decode code 995 = .ok (.iload_n 3, 1) := by decide +kernel
theorem dL_law_996 : decode code 996 = .ok (.iconst 1, 1) := by decide +kernel
theorem dL_law_997 : decode code 997 = .ok (.iadd, 1) := by decide +kernel
theorem dL_law_998 : decode code 998 = .ok (.iaload, 1) := by decide +kernel
theorem dL_law_999 : decode code 999 = .ok (.invokevirtual 110, 3) := by decide +kernel
theorem dL_law_1002 : decode code 1002 = .ok (.if_icmp .eq 170, 3) := by decide +kernel
theorem dL_law_1005 : decode code 1005 = .ok (.iconst 0, 1) := by decide +kernel
theorem dL_law_1006 : decode code 1006 = .ok (.ireturn, 1) := by decide +kernel
theorem dL_law_1007 : decode code 1007 = .ok (.aload_n 1, 1) := by decide +kernel
theorem dL_law_1008 : decode code 1008 = .ok (.aload_n 0, 1) := by decide +kernel
theorem dL_law_1009 : decode code 1009 = .ok (.iload_n 3, 1) := by decide +kernel
theorem dL_law_1010 : decode code 1010 = .ok (.iconst 1, 1) := by decide +kernel
theorem dL_law_1011 : decode code 1011 = .ok (.iadd, 1) := by decide +kernel
theorem dL_law_1012 : decode code 1012 = .ok (.iaload, 1) := by decide +kernel
theorem dL_law_1013 : decode code 1013 = .ok (.aload_n 0, 1) := by decide +kernel
theorem dL_law_1014 : decode code 1014 = .ok (.iload_n 3, 1) := by decide +kernel
theorem dL_law_1015 : decode code 1015 = .ok (.iconst 2, 1) := by decide +kernel
theorem dL_law_1016 : decode code 1016 = .ok (.iadd, 1) := by decide +kernel
theorem dL_law_1017 : decode code 1017 = .ok (.iaload, 1) := by decide +kernel
theorem dL_law_1018 : decode code 1018 = .ok (.invokevirtual 111, 3) := by decide +kernel
theorem dL_law_1021 : decode code 1021 = .ok (.aload_n 2, 1) := by decide +kernel
theorem dL_law_1022 : decode code 1022 = .ok (.aload_n 0, 1) := by decide +kernel
theorem dL_law_1023 : decode code 1023 = .ok (.iload_n 3, 1) := by decide +kernel
theorem dL_law_1024 : decode code 1024 = .ok (.iconst 1, 1) := by decide +kernel
theorem dL_law_1025 : decode code 1025 = .ok (.iadd, 1) := by decide +kernel
theorem dL_law_1026 : decode code 1026 = .ok (.iaload, 1) := by decide +kernel
theorem dL_law_1027 : decode code 1027 = .ok (.aload_n 0, 1) := by decide +kernel
theorem dL_law_1028 : decode code 1028 = .ok (.iload_n 3, 1) := by decide +kernel
theorem dL_law_1029 : decode code 1029 = .ok (.iconst 2, 1) := by decide +kernel
theorem dL_law_1030 : decode code 1030 = .ok (.iadd, 1) := by decide +kernel
theorem dL_law_1031 : decode code 1031 = .ok (.iaload, 1) := by decide +kernel
theorem dL_law_1032 : decode code 1032 = .ok (.invokevirtual 114, 3) := by decide +kernel
theorem dL_law_1035 : decode code 1035 = .ok (.if_icmp .eq 137, 3) := by decide +kernel
theorem dL_law_1038 : decode code 1038 = .ok (.iconst 0, 1) := by decide +kernel
theorem dL_law_1039 : decode code 1039 = .ok (.ireturn, 1) := by decide +kernel
theorem dL_law_1040 : decode code 1040 = .ok (.aload_n 1, 1) := by decide +kernel
theorem dL_law_1041 : decode code 1041 = .ok (.aload_n 0, 1) := by decide +kernel
theorem dL_law_1042 : decode code 1042 = .ok (.iload_n 3, 1) := by decide +kernel
theorem dL_law_1043 : decode code 1043 = .ok (.iconst 1, 1) := by decide +kernel
theorem dL_law_1044 : decode code 1044 = .ok (.iadd, 1) := by decide +kernel
theorem dL_law_1045 : decode code 1045 = .ok (.iaload, 1) := by decide +kernel
theorem dL_law_1046 : decode code 1046 = .ok (.invokevirtual 115, 3) := by decide +kernel
theorem dL_law_1049 : decode code 1049 = .ok (.aload_n 2, 1) := by decide +kernel
theorem dL_law_1050 : decode code 1050 = .ok (.aload_n 0, 1) := by decide +kernel
theorem dL_law_1051 : decode code 1051 = .ok (.iload_n 3, 1) := by decide +kernel
theorem dL_law_1052 : decode code 1052 = .ok (.iconst 1, 1) := by decide +kernel
theorem dL_law_1053 : decode code 1053 = .ok (.iadd, 1) := by decide +kernel
theorem dL_law_1054 : decode code 1054 = .ok (.iaload, 1) := by decide +kernel
theorem dL_law_1055 : decode code 1055 = .ok (.invokevirtual 119, 3) := by decide +kernel
theorem dL_law_1058 : decode code 1058 = .ok (.lcmp, 1) := by decide +kernel
theorem dL_law_1059 : decode code 1059 = .ok (.ifCond .eq 113, 3) := by decide +kernel
theorem dL_law_1062 : decode code 1062 = .ok (.iconst 0, 1) := by decide +kernel
theorem dL_law_1063 : decode code 1063 = .ok (.ireturn, 1) := by decide +kernel
theorem dL_law_1064 : decode code 1064 = .ok (.aload_n 1, 1) := by decide +kernel
theorem dL_law_1065 : decode code 1065 = .ok (.aload_n 0, 1) := by decide +kernel
theorem dL_law_1066 : decode code 1066 = .ok (.iload_n 3, 1) := by decide +kernel
theorem dL_law_1067 : decode code 1067 = .ok (.iconst 1, 1) := by decide +kernel
theorem dL_law_1068 : decode code 1068 = .ok (.iadd, 1) := by decide +kernel
theorem dL_law_1069 : decode code 1069 = .ok (.iaload, 1) := by decide +kernel
theorem dL_law_1070 : decode code 1070 = .ok (.invokevirtual 120, 3) := by decide +kernel
theorem dL_law_1073 : decode code 1073 = .ok (.aload_n 2, 1) := by decide +kernel
theorem dL_law_1074 : decode code 1074 = .ok (.aload_n 0, 1) := by decide +kernel
theorem dL_law_1075 : decode code 1075 = .ok (.iload_n 3, 1) := by decide +kernel
theorem dL_law_1076 : decode code 1076 = .ok (.iconst 1, 1) := by decide +kernel
theorem dL_law_1077 : decode code 1077 = .ok (.iadd, 1) := by decide +kernel
theorem dL_law_1078 : decode code 1078 = .ok (.iaload, 1) := by decide +kernel
theorem dL_law_1079 : decode code 1079 = .ok (.invokevirtual 123, 3) := by decide +kernel
theorem dL_law_1082 : decode code 1082 = .ok (.if_icmp .eq 90, 3) := by decide +kernel
theorem dL_law_1085 : decode code 1085 = .ok (.iconst 0, 1) := by decide +kernel
theorem dL_law_1086 : decode code 1086 = .ok (.ireturn, 1) := by decide +kernel
theorem dL_law_1087 : decode code 1087 = .ok (.aload_n 1, 1) := by decide +kernel
theorem dL_law_1088 : decode code 1088 = .ok (.invokevirtual 124, 3) := by decide +kernel
theorem dL_law_1091 : decode code 1091 = .ok (.aload_n 2, 1) := by decide +kernel
theorem dL_law_1092 : decode code 1092 = .ok (.invokevirtual 128, 3) := by decide +kernel
theorem dL_law_1095 : decode code 1095 = .ok (.if_icmp .eq 77, 3) := by decide +kernel
theorem dL_law_1098 : decode code 1098 = .ok (.iconst 0, 1) := by decide +kernel
theorem dL_law_1099 : decode code 1099 = .ok (.ireturn, 1) := by decide +kernel
theorem dL_law_1100 : decode code 1100 = .ok (.aload_n 1, 1) := by decide +kernel
theorem dL_law_1101 : decode code 1101 = .ok (.aload_n 0, 1) := by decide +kernel
theorem dL_law_1102 : decode code 1102 = .ok (.iload_n 3, 1) := by decide +kernel
theorem dL_law_1103 : decode code 1103 = .ok (.iconst 1, 1) := by decide +kernel
theorem dL_law_1104 : decode code 1104 = .ok (.iadd, 1) := by decide +kernel
theorem dL_law_1105 : decode code 1105 = .ok (.iaload, 1) := by decide +kernel
theorem dL_law_1106 : decode code 1106 = .ok (.invokevirtual 129, 3) := by decide +kernel
theorem dL_law_1109 : decode code 1109 = .ok (.aload_n 2, 1) := by decide +kernel
theorem dL_law_1110 : decode code 1110 = .ok (.aload_n 0, 1) := by decide +kernel
theorem dL_law_1111 : decode code 1111 = .ok (.iload_n 3, 1) := by decide +kernel
theorem dL_law_1112 : decode code 1112 = .ok (.iconst 1, 1) := by decide +kernel
theorem dL_law_1113 : decode code 1113 = .ok (.iadd, 1) := by decide +kernel
theorem dL_law_1114 : decode code 1114 = .ok (.iaload, 1) := by decide +kernel
theorem dL_law_1115 : decode code 1115 = .ok (.invokevirtual 132, 3) := by decide +kernel
theorem dL_law_1118 : decode code 1118 = .ok (.if_icmp .eq 54, 3) := by decide +kernel
theorem dL_law_1121 : decode code 1121 = .ok (.iconst 0, 1) := by decide +kernel
theorem dL_law_1122 : decode code 1122 = .ok (.ireturn, 1) := by decide +kernel
theorem dL_law_1123 : decode code 1123 = .ok (.aload_n 1, 1) := by decide +kernel
theorem dL_law_1124 : decode code 1124 = .ok (.invokevirtual 133, 3) := by decide +kernel
theorem dL_law_1127 : decode code 1127 = .ok (.aload_n 2, 1) := by decide +kernel
theorem dL_law_1128 : decode code 1128 = .ok (.invokevirtual 136, 3) := by decide +kernel
theorem dL_law_1131 : decode code 1131 = .ok (.if_icmp .eq 41, 3) := by decide +kernel
theorem dL_law_1134 : decode code 1134 = .ok (.iconst 0, 1) := by decide +kernel
theorem dL_law_1135 : decode code 1135 = .ok (.ireturn, 1) := by decide +kernel
theorem dL_law_1136 : decode code 1136 = .ok (.aload_n 1, 1) := by decide +kernel
theorem dL_law_1137 : decode code 1137 = .ok (.invokevirtual 137, 3) := by decide +kernel
theorem dL_law_1140 : decode code 1140 = .ok (.aload_n 2, 1) := by decide +kernel
theorem dL_law_1141 : decode code 1141 = .ok (.invokevirtual 140, 3) := by decide +kernel
theorem dL_law_1144 : decode code 1144 = .ok (.if_icmp .eq 28, 3) := by decide +kernel
theorem dL_law_1147 : decode code 1147 = .ok (.iconst 0, 1) := by decide +kernel
theorem dL_law_1148 : decode code 1148 = .ok (.ireturn, 1) := by decide +kernel
theorem dL_law_1149 : decode code 1149 = .ok (.aload_n 1, 1) := by decide +kernel
theorem dL_law_1150 : decode code 1150 = .ok (.aload_n 0, 1) := by decide +kernel
theorem dL_law_1151 : decode code 1151 = .ok (.iload_n 3, 1) := by decide +kernel
theorem dL_law_1152 : decode code 1152 = .ok (.iconst 1, 1) := by decide +kernel
theorem dL_law_1153 : decode code 1153 = .ok (.iadd, 1) := by decide +kernel
theorem dL_law_1154 : decode code 1154 = .ok (.iaload, 1) := by decide +kernel
theorem dL_law_1155 : decode code 1155 = .ok (.invokevirtual 141, 3) := by decide +kernel
theorem dL_law_1158 : decode code 1158 = .ok (.aload_n 2, 1) := by decide +kernel
theorem dL_law_1159 : decode code 1159 = .ok (.aload_n 0, 1) := by decide +kernel
theorem dL_law_1160 : decode code 1160 = .ok (.iload_n 3, 1) := by decide +kernel
theorem dL_law_1161 : decode code 1161 = .ok (.iconst 1, 1) := by decide +kernel
theorem dL_law_1162 : decode code 1162 = .ok (.iadd, 1) := by decide +kernel
theorem dL_law_1163 : decode code 1163 = .ok (.iaload, 1) := by decide +kernel
theorem dL_law_1164 : decode code 1164 = .ok (.invokevirtual 144, 3) := by decide +kernel
theorem dL_law_1167 : decode code 1167 = .ok (.if_icmp .eq 5, 3) := by decide +kernel
theorem dL_law_1170 : decode code 1170 = .ok (.iconst 0, 1) := by decide +kernel
theorem dL_law_1171 : decode code 1171 = .ok (.ireturn, 1) := by decide +kernel
theorem dL_law_1172 : decode code 1172 = .ok (.iinc 3 6, 3) := by decide +kernel
theorem dL_law_1175 : decode code 1175 = .ok (.goto (-1157), 3) := by decide +kernel
theorem dL_law_1178 : decode code 1178 = .ok (.iconst 1, 1) := by decide +kernel
theorem dL_law_1179 : decode code 1179 = .ok (.ireturn, 1) := by decide +kernel
theorem cvl_13 : CVL 13 5 6 I_X6_sort := ⟨⟨⟨gm 324 (by decide +kernel) rfl, gm 327 (by decide +kernel) rfl, gm 37 (by decide +kernel) rfl, mh_6.1, mh_6.2, by decide +kernel⟩, gm 325 (by decide +kernel) rfl, gm 326 (by decide +kernel) rfl⟩, ⟨_, _, rfl⟩, rfl, rfl, by decide, by decide⟩
theorem cvl_17 : CVL 17 5 7 I_X7_sort := ⟨⟨⟨gm 853 (by decide +kernel) rfl, gm 856 (by decide +kernel) rfl, gm 44 (by decide +kernel) rfl, mh_7.1, mh_7.2, by decide +kernel⟩, gm 854 (by decide +kernel) rfl, gm 855 (by decide +kernel) rfl⟩, ⟨_, _, rfl⟩, rfl, rfl, by decide, by decide⟩
theorem cvl_18 : CVL 18 3 6 I_X6_takes := ⟨⟨⟨gm 343 (by decide +kernel) rfl, gm 346 (by decide +kernel) rfl, gm 37 (by decide +kernel) rfl, mh_6.1, mh_6.2, by decide +kernel⟩, gm 344 (by decide +kernel) rfl, gm 345 (by decide +kernel) rfl⟩, ⟨_, _, rfl⟩, rfl, rfl, by decide, by decide⟩
theorem cvl_22 : CVL 22 3 7 I_X7_takes := ⟨⟨⟨gm 864 (by decide +kernel) rfl, gm 867 (by decide +kernel) rfl, gm 44 (by decide +kernel) rfl, mh_7.1, mh_7.2, by decide +kernel⟩, gm 865 (by decide +kernel) rfl, gm 866 (by decide +kernel) rfl⟩, ⟨_, _, rfl⟩, rfl, rfl, by decide, by decide⟩
theorem cvl_23 : CVL 23 3 6 I_X6_at := ⟨⟨⟨gm 359 (by decide +kernel) rfl, gm 362 (by decide +kernel) rfl, gm 37 (by decide +kernel) rfl, mh_6.1, mh_6.2, by decide +kernel⟩, gm 360 (by decide +kernel) rfl, gm 361 (by decide +kernel) rfl⟩, ⟨_, _, rfl⟩, rfl, rfl, by decide, by decide⟩
theorem cvl_27 : CVL 27 3 7 I_X7_at := ⟨⟨⟨gm 876 (by decide +kernel) rfl, gm 879 (by decide +kernel) rfl, gm 44 (by decide +kernel) rfl, mh_7.1, mh_7.2, by decide +kernel⟩, gm 877 (by decide +kernel) rfl, gm 878 (by decide +kernel) rfl⟩, ⟨_, _, rfl⟩, rfl, rfl, by decide, by decide⟩
theorem cvl_28 : CVL 28 1 6 I_X6_distance := ⟨⟨⟨gm 366 (by decide +kernel) rfl, gm 369 (by decide +kernel) rfl, gm 37 (by decide +kernel) rfl, mh_6.1, mh_6.2, by decide +kernel⟩, gm 367 (by decide +kernel) rfl, gm 368 (by decide +kernel) rfl⟩, ⟨_, _, rfl⟩, rfl, rfl, by decide, by decide⟩
theorem cvl_32 : CVL 32 1 7 I_X7_distance := ⟨⟨⟨gm 891 (by decide +kernel) rfl, gm 894 (by decide +kernel) rfl, gm 44 (by decide +kernel) rfl, mh_7.1, mh_7.2, by decide +kernel⟩, gm 892 (by decide +kernel) rfl, gm 893 (by decide +kernel) rfl⟩, ⟨_, _, rfl⟩, rfl, rfl, by decide, by decide⟩
theorem cvl_33 : CVL 33 4 6 I_X6_plant := ⟨⟨⟨gm 370 (by decide +kernel) rfl, gm 373 (by decide +kernel) rfl, gm 37 (by decide +kernel) rfl, mh_6.1, mh_6.2, by decide +kernel⟩, gm 371 (by decide +kernel) rfl, gm 372 (by decide +kernel) rfl⟩, ⟨_, _, rfl⟩, rfl, rfl, by decide, by decide⟩
theorem cvl_37 : CVL 37 4 7 I_X7_plant := ⟨⟨⟨gm 895 (by decide +kernel) rfl, gm 898 (by decide +kernel) rfl, gm 44 (by decide +kernel) rfl, mh_7.1, mh_7.2, by decide +kernel⟩, gm 896 (by decide +kernel) rfl, gm 897 (by decide +kernel) rfl⟩, ⟨_, _, rfl⟩, rfl, rfl, by decide, by decide⟩
theorem cvl_38 : CVL 38 2 6 I_X6_pull := ⟨⟨⟨gm 382 (by decide +kernel) rfl, gm 385 (by decide +kernel) rfl, gm 37 (by decide +kernel) rfl, mh_6.1, mh_6.2, by decide +kernel⟩, gm 383 (by decide +kernel) rfl, gm 384 (by decide +kernel) rfl⟩, ⟨_, _, rfl⟩, rfl, rfl, by decide, by decide⟩
theorem cvl_42 : CVL 42 2 7 I_X7_pull := ⟨⟨⟨gm 899 (by decide +kernel) rfl, gm 902 (by decide +kernel) rfl, gm 44 (by decide +kernel) rfl, mh_7.1, mh_7.2, by decide +kernel⟩, gm 900 (by decide +kernel) rfl, gm 901 (by decide +kernel) rfl⟩, ⟨_, _, rfl⟩, rfl, rfl, by decide, by decide⟩
theorem cvl_43 : CVL 43 2 6 I_X6_as := ⟨⟨⟨gm 394 (by decide +kernel) rfl, gm 397 (by decide +kernel) rfl, gm 37 (by decide +kernel) rfl, mh_6.1, mh_6.2, by decide +kernel⟩, gm 395 (by decide +kernel) rfl, gm 396 (by decide +kernel) rfl⟩, ⟨_, _, rfl⟩, rfl, rfl, by decide, by decide⟩
theorem cvl_46 : CVL 46 2 7 I_X7_as := ⟨⟨⟨gm 903 (by decide +kernel) rfl, gm 906 (by decide +kernel) rfl, gm 44 (by decide +kernel) rfl, mh_7.1, mh_7.2, by decide +kernel⟩, gm 904 (by decide +kernel) rfl, gm 905 (by decide +kernel) rfl⟩, ⟨_, _, rfl⟩, rfl, rfl, by decide, by decide⟩
theorem cvl_47 : CVL 47 2 6 I_X6_of := ⟨⟨⟨gm 402 (by decide +kernel) rfl, gm 405 (by decide +kernel) rfl, gm 37 (by decide +kernel) rfl, mh_6.1, mh_6.2, by decide +kernel⟩, gm 403 (by decide +kernel) rfl, gm 404 (by decide +kernel) rfl⟩, ⟨_, _, rfl⟩, rfl, rfl, by decide, by decide⟩
theorem cvl_50 : CVL 50 2 7 I_X7_of := ⟨⟨⟨gm 907 (by decide +kernel) rfl, gm 910 (by decide +kernel) rfl, gm 44 (by decide +kernel) rfl, mh_7.1, mh_7.2, by decide +kernel⟩, gm 908 (by decide +kernel) rfl, gm 909 (by decide +kernel) rfl⟩, ⟨_, _, rfl⟩, rfl, rfl, by decide, by decide⟩
theorem cvl_51 : CVL 51 2 6 I_X6_cut := ⟨⟨⟨gm 424 (by decide +kernel) rfl, gm 427 (by decide +kernel) rfl, gm 37 (by decide +kernel) rfl, mh_6.1, mh_6.2, by decide +kernel⟩, gm 425 (by decide +kernel) rfl, gm 426 (by decide +kernel) rfl⟩, ⟨_, _, rfl⟩, rfl, rfl, by decide, by decide⟩
theorem cvl_54 : CVL 54 2 7 I_X7_cut := ⟨⟨⟨gm 927 (by decide +kernel) rfl, gm 930 (by decide +kernel) rfl, gm 44 (by decide +kernel) rfl, mh_7.1, mh_7.2, by decide +kernel⟩, gm 928 (by decide +kernel) rfl, gm 929 (by decide +kernel) rfl⟩, ⟨_, _, rfl⟩, rfl, rfl, by decide, by decide⟩
theorem cvl_55 : CVL 55 3 6 I_X6_sheet := ⟨⟨⟨gm 433 (by decide +kernel) rfl, gm 436 (by decide +kernel) rfl, gm 37 (by decide +kernel) rfl, mh_6.1, mh_6.2, by decide +kernel⟩, gm 434 (by decide +kernel) rfl, gm 435 (by decide +kernel) rfl⟩, ⟨_, _, rfl⟩, rfl, rfl, by decide, by decide⟩
theorem cvl_58 : CVL 58 3 7 I_X7_sheet := ⟨⟨⟨gm 935 (by decide +kernel) rfl, gm 938 (by decide +kernel) rfl, gm 44 (by decide +kernel) rfl, mh_7.1, mh_7.2, by decide +kernel⟩, gm 936 (by decide +kernel) rfl, gm 937 (by decide +kernel) rfl⟩, ⟨_, _, rfl⟩, rfl, rfl, by decide, by decide⟩
theorem cvl_59 : CVL 59 3 6 I_X6_put := ⟨⟨⟨gm 444 (by decide +kernel) rfl, gm 447 (by decide +kernel) rfl, gm 37 (by decide +kernel) rfl, mh_6.1, mh_6.2, by decide +kernel⟩, gm 445 (by decide +kernel) rfl, gm 446 (by decide +kernel) rfl⟩, ⟨_, _, rfl⟩, rfl, rfl, by decide, by decide⟩
theorem cvl_62 : CVL 62 3 7 I_X7_put := ⟨⟨⟨gm 942 (by decide +kernel) rfl, gm 945 (by decide +kernel) rfl, gm 44 (by decide +kernel) rfl, mh_7.1, mh_7.2, by decide +kernel⟩, gm 943 (by decide +kernel) rfl, gm 944 (by decide +kernel) rfl⟩, ⟨_, _, rfl⟩, rfl, rfl, by decide, by decide⟩
theorem cvl_63 : CVL 63 5 6 I_X6_copy := ⟨⟨⟨gm 466 (by decide +kernel) rfl, gm 469 (by decide +kernel) rfl, gm 37 (by decide +kernel) rfl, mh_6.1, mh_6.2, by decide +kernel⟩, gm 467 (by decide +kernel) rfl, gm 468 (by decide +kernel) rfl⟩, ⟨_, _, rfl⟩, rfl, rfl, by decide, by decide⟩
theorem cvl_66 : CVL 66 5 7 I_X7_copy := ⟨⟨⟨gm 952 (by decide +kernel) rfl, gm 955 (by decide +kernel) rfl, gm 44 (by decide +kernel) rfl, mh_7.1, mh_7.2, by decide +kernel⟩, gm 953 (by decide +kernel) rfl, gm 954 (by decide +kernel) rfl⟩, ⟨_, _, rfl⟩, rfl, rfl, by decide, by decide⟩
theorem cvl_67 : CVL 67 1 6 I_X6_name := ⟨⟨⟨gm 477 (by decide +kernel) rfl, gm 480 (by decide +kernel) rfl, gm 37 (by decide +kernel) rfl, mh_6.1, mh_6.2, by decide +kernel⟩, gm 478 (by decide +kernel) rfl, gm 479 (by decide +kernel) rfl⟩, ⟨_, _, rfl⟩, rfl, rfl, by decide, by decide⟩
theorem cvl_70 : CVL 70 1 7 I_X7_name := ⟨⟨⟨gm 956 (by decide +kernel) rfl, gm 959 (by decide +kernel) rfl, gm 44 (by decide +kernel) rfl, mh_7.1, mh_7.2, by decide +kernel⟩, gm 957 (by decide +kernel) rfl, gm 958 (by decide +kernel) rfl⟩, ⟨_, _, rfl⟩, rfl, rfl, by decide, by decide⟩
theorem cvl_71 : CVL 71 1 6 I_X6_warmth := ⟨⟨⟨gm 481 (by decide +kernel) rfl, gm 484 (by decide +kernel) rfl, gm 37 (by decide +kernel) rfl, mh_6.1, mh_6.2, by decide +kernel⟩, gm 482 (by decide +kernel) rfl, gm 483 (by decide +kernel) rfl⟩, ⟨_, _, rfl⟩, rfl, rfl, by decide, by decide⟩
theorem cvl_74 : CVL 74 1 7 I_X7_warmth := ⟨⟨⟨gm 960 (by decide +kernel) rfl, gm 963 (by decide +kernel) rfl, gm 44 (by decide +kernel) rfl, mh_7.1, mh_7.2, by decide +kernel⟩, gm 961 (by decide +kernel) rfl, gm 962 (by decide +kernel) rfl⟩, ⟨_, _, rfl⟩, rfl, rfl, by decide, by decide⟩
theorem cvl_75 : CVL 75 1 6 I_X6_sum := ⟨⟨⟨gm 520 (by decide +kernel) rfl, gm 523 (by decide +kernel) rfl, gm 37 (by decide +kernel) rfl, mh_6.1, mh_6.2, by decide +kernel⟩, gm 521 (by decide +kernel) rfl, gm 522 (by decide +kernel) rfl⟩, ⟨_, _, rfl⟩, rfl, rfl, by decide, by decide⟩
theorem cvl_78 : CVL 78 1 7 I_X7_sum := ⟨⟨⟨gm 981 (by decide +kernel) rfl, gm 984 (by decide +kernel) rfl, gm 44 (by decide +kernel) rfl, mh_7.1, mh_7.2, by decide +kernel⟩, gm 982 (by decide +kernel) rfl, gm 983 (by decide +kernel) rfl⟩, ⟨_, _, rfl⟩, rfl, rfl, by decide, by decide⟩
theorem cvl_79 : CVL 79 1 6 I_X6_blooms := ⟨⟨⟨gm 533 (by decide +kernel) rfl, gm 536 (by decide +kernel) rfl, gm 37 (by decide +kernel) rfl, mh_6.1, mh_6.2, by decide +kernel⟩, gm 534 (by decide +kernel) rfl, gm 535 (by decide +kernel) rfl⟩, ⟨_, _, rfl⟩, rfl, rfl, by decide, by decide⟩
theorem cvl_82 : CVL 82 1 7 I_X7_blooms := ⟨⟨⟨gm 985 (by decide +kernel) rfl, gm 988 (by decide +kernel) rfl, gm 44 (by decide +kernel) rfl, mh_7.1, mh_7.2, by decide +kernel⟩, gm 986 (by decide +kernel) rfl, gm 987 (by decide +kernel) rfl⟩, ⟨_, _, rfl⟩, rfl, rfl, by decide, by decide⟩
theorem cvl_83 : CVL 83 3 6 I_X6_frost := ⟨⟨⟨gm 541 (by decide +kernel) rfl, gm 544 (by decide +kernel) rfl, gm 37 (by decide +kernel) rfl, mh_6.1, mh_6.2, by decide +kernel⟩, gm 542 (by decide +kernel) rfl, gm 543 (by decide +kernel) rfl⟩, ⟨_, _, rfl⟩, rfl, rfl, by decide, by decide⟩
theorem cvl_86 : CVL 86 3 7 I_X7_frost := ⟨⟨⟨gm 993 (by decide +kernel) rfl, gm 996 (by decide +kernel) rfl, gm 44 (by decide +kernel) rfl, mh_7.1, mh_7.2, by decide +kernel⟩, gm 994 (by decide +kernel) rfl, gm 995 (by decide +kernel) rfl⟩, ⟨_, _, rfl⟩, rfl, rfl, by decide, by decide⟩
theorem cvl_87 : CVL 87 3 6 I_X6_partners := ⟨⟨⟨gm 545 (by decide +kernel) rfl, gm 548 (by decide +kernel) rfl, gm 37 (by decide +kernel) rfl, mh_6.1, mh_6.2, by decide +kernel⟩, gm 546 (by decide +kernel) rfl, gm 547 (by decide +kernel) rfl⟩, ⟨_, _, rfl⟩, rfl, rfl, by decide, by decide⟩
theorem cvl_90 : CVL 90 3 7 I_X7_partners := ⟨⟨⟨gm 997 (by decide +kernel) rfl, gm 1000 (by decide +kernel) rfl, gm 44 (by decide +kernel) rfl, mh_7.1, mh_7.2, by decide +kernel⟩, gm 998 (by decide +kernel) rfl, gm 999 (by decide +kernel) rfl⟩, ⟨_, _, rfl⟩, rfl, rfl, by decide, by decide⟩
theorem cvl_91 : CVL 91 1 6 I_X6_go := ⟨⟨⟨gm 582 (by decide +kernel) rfl, gm 585 (by decide +kernel) rfl, gm 37 (by decide +kernel) rfl, mh_6.1, mh_6.2, by decide +kernel⟩, gm 583 (by decide +kernel) rfl, gm 584 (by decide +kernel) rfl⟩, ⟨_, _, rfl⟩, rfl, rfl, by decide, by decide⟩
theorem cvl_94 : CVL 94 1 7 I_X7_go := ⟨⟨⟨gm 1068 (by decide +kernel) rfl, gm 1071 (by decide +kernel) rfl, gm 44 (by decide +kernel) rfl, mh_7.1, mh_7.2, by decide +kernel⟩, gm 1069 (by decide +kernel) rfl, gm 1070 (by decide +kernel) rfl⟩, ⟨_, _, rfl⟩, rfl, rfl, by decide, by decide⟩
theorem cvl_95 : CVL 95 2 6 I_X6_fruits := ⟨⟨⟨gm 661 (by decide +kernel) rfl, gm 664 (by decide +kernel) rfl, gm 37 (by decide +kernel) rfl, mh_6.1, mh_6.2, by decide +kernel⟩, gm 662 (by decide +kernel) rfl, gm 663 (by decide +kernel) rfl⟩, ⟨_, _, rfl⟩, rfl, rfl, by decide, by decide⟩
theorem cvl_98 : CVL 98 2 7 I_X7_fruits := ⟨⟨⟨gm 1033 (by decide +kernel) rfl, gm 1036 (by decide +kernel) rfl, gm 44 (by decide +kernel) rfl, mh_7.1, mh_7.2, by decide +kernel⟩, gm 1034 (by decide +kernel) rfl, gm 1035 (by decide +kernel) rfl⟩, ⟨_, _, rfl⟩, rfl, rfl, by decide, by decide⟩
theorem cvl_99 : CVL 99 2 6 I_X6_thin := ⟨⟨⟨gm 665 (by decide +kernel) rfl, gm 668 (by decide +kernel) rfl, gm 37 (by decide +kernel) rfl, mh_6.1, mh_6.2, by decide +kernel⟩, gm 666 (by decide +kernel) rfl, gm 667 (by decide +kernel) rfl⟩, ⟨_, _, rfl⟩, rfl, rfl, by decide, by decide⟩
theorem cvl_102 : CVL 102 2 7 I_X7_thin := ⟨⟨⟨gm 1041 (by decide +kernel) rfl, gm 1044 (by decide +kernel) rfl, gm 44 (by decide +kernel) rfl, mh_7.1, mh_7.2, by decide +kernel⟩, gm 1042 (by decide +kernel) rfl, gm 1043 (by decide +kernel) rfl⟩, ⟨_, _, rfl⟩, rfl, rfl, by decide, by decide⟩
theorem cvl_103 : CVL 103 1 6 I_X6_hours := ⟨⟨⟨gm 674 (by decide +kernel) rfl, gm 677 (by decide +kernel) rfl, gm 37 (by decide +kernel) rfl, mh_6.1, mh_6.2, by decide +kernel⟩, gm 675 (by decide +kernel) rfl, gm 676 (by decide +kernel) rfl⟩, ⟨_, _, rfl⟩, rfl, rfl, by decide, by decide⟩
theorem cvl_106 : CVL 106 1 7 I_X7_hours := ⟨⟨⟨gm 1049 (by decide +kernel) rfl, gm 1052 (by decide +kernel) rfl, gm 44 (by decide +kernel) rfl, mh_7.1, mh_7.2, by decide +kernel⟩, gm 1050 (by decide +kernel) rfl, gm 1051 (by decide +kernel) rfl⟩, ⟨_, _, rfl⟩, rfl, rfl, by decide, by decide⟩
theorem cvl_107 : CVL 107 1 6 I_X6_store := ⟨⟨⟨gm 678 (by decide +kernel) rfl, gm 681 (by decide +kernel) rfl, gm 37 (by decide +kernel) rfl, mh_6.1, mh_6.2, by decide +kernel⟩, gm 679 (by decide +kernel) rfl, gm 680 (by decide +kernel) rfl⟩, ⟨_, _, rfl⟩, rfl, rfl, by decide, by decide⟩
theorem cvl_110 : CVL 110 1 7 I_X7_store := ⟨⟨⟨gm 1053 (by decide +kernel) rfl, gm 1056 (by decide +kernel) rfl, gm 44 (by decide +kernel) rfl, mh_7.1, mh_7.2, by decide +kernel⟩, gm 1054 (by decide +kernel) rfl, gm 1055 (by decide +kernel) rfl⟩, ⟨_, _, rfl⟩, rfl, rfl, by decide, by decide⟩
theorem cvl_111 : CVL 111 2 6 I_X6_take := ⟨⟨⟨gm 682 (by decide +kernel) rfl, gm 685 (by decide +kernel) rfl, gm 37 (by decide +kernel) rfl, mh_6.1, mh_6.2, by decide +kernel⟩, gm 683 (by decide +kernel) rfl, gm 684 (by decide +kernel) rfl⟩, ⟨_, _, rfl⟩, rfl, rfl, by decide, by decide⟩
theorem cvl_114 : CVL 114 2 7 I_X7_take := ⟨⟨⟨gm 1061 (by decide +kernel) rfl, gm 1064 (by decide +kernel) rfl, gm 44 (by decide +kernel) rfl, mh_7.1, mh_7.2, by decide +kernel⟩, gm 1062 (by decide +kernel) rfl, gm 1063 (by decide +kernel) rfl⟩, ⟨_, _, rfl⟩, rfl, rfl, by decide, by decide⟩
theorem cvl_115 : CVL 115 1 6 I_X6_all := ⟨⟨⟨gm 691 (by decide +kernel) rfl, gm 694 (by decide +kernel) rfl, gm 37 (by decide +kernel) rfl, mh_6.1, mh_6.2, by decide +kernel⟩, gm 692 (by decide +kernel) rfl, gm 693 (by decide +kernel) rfl⟩, ⟨_, _, rfl⟩, rfl, rfl, by decide, by decide⟩
theorem cvl_119 : CVL 119 1 7 I_X7_all := ⟨⟨⟨gm 1096 (by decide +kernel) rfl, gm 1099 (by decide +kernel) rfl, gm 44 (by decide +kernel) rfl, mh_7.1, mh_7.2, by decide +kernel⟩, gm 1097 (by decide +kernel) rfl, gm 1098 (by decide +kernel) rfl⟩, ⟨_, _, rfl⟩, rfl, rfl, by decide, by decide⟩
theorem cvl_120 : CVL 120 1 6 I_X6_lone := ⟨⟨⟨gm 697 (by decide +kernel) rfl, gm 700 (by decide +kernel) rfl, gm 37 (by decide +kernel) rfl, mh_6.1, mh_6.2, by decide +kernel⟩, gm 698 (by decide +kernel) rfl, gm 699 (by decide +kernel) rfl⟩, ⟨_, _, rfl⟩, rfl, rfl, by decide, by decide⟩
theorem cvl_123 : CVL 123 1 7 I_X7_lone := ⟨⟨⟨gm 1100 (by decide +kernel) rfl, gm 1103 (by decide +kernel) rfl, gm 44 (by decide +kernel) rfl, mh_7.1, mh_7.2, by decide +kernel⟩, gm 1101 (by decide +kernel) rfl, gm 1102 (by decide +kernel) rfl⟩, ⟨_, _, rfl⟩, rfl, rfl, by decide, by decide⟩
theorem cvl_124 : CVL 124 0 6 I_X6_best := ⟨⟨⟨gm 718 (by decide +kernel) rfl, gm 721 (by decide +kernel) rfl, gm 37 (by decide +kernel) rfl, mh_6.1, mh_6.2, by decide +kernel⟩, gm 719 (by decide +kernel) rfl, gm 720 (by decide +kernel) rfl⟩, ⟨_, _, rfl⟩, rfl, rfl, by decide, by decide⟩
theorem cvl_128 : CVL 128 0 7 I_X7_best := ⟨⟨⟨gm 1112 (by decide +kernel) rfl, gm 1115 (by decide +kernel) rfl, gm 44 (by decide +kernel) rfl, mh_7.1, mh_7.2, by decide +kernel⟩, gm 1113 (by decide +kernel) rfl, gm 1114 (by decide +kernel) rfl⟩, ⟨_, _, rfl⟩, rfl, rfl, by decide, by decide⟩
theorem cvl_129 : CVL 129 1 6 I_X6_given := ⟨⟨⟨gm 757 (by decide +kernel) rfl, gm 760 (by decide +kernel) rfl, gm 37 (by decide +kernel) rfl, mh_6.1, mh_6.2, by decide +kernel⟩, gm 758 (by decide +kernel) rfl, gm 759 (by decide +kernel) rfl⟩, ⟨_, _, rfl⟩, rfl, rfl, by decide, by decide⟩
theorem cvl_132 : CVL 132 1 7 I_X7_given := ⟨⟨⟨gm 1117 (by decide +kernel) rfl, gm 1120 (by decide +kernel) rfl, gm 44 (by decide +kernel) rfl, mh_7.1, mh_7.2, by decide +kernel⟩, gm 1118 (by decide +kernel) rfl, gm 1119 (by decide +kernel) rfl⟩, ⟨_, _, rfl⟩, rfl, rfl, by decide, by decide⟩
theorem cvl_133 : CVL 133 0 6 I_X6_keep := ⟨⟨⟨gm 761 (by decide +kernel) rfl, gm 764 (by decide +kernel) rfl, gm 37 (by decide +kernel) rfl, mh_6.1, mh_6.2, by decide +kernel⟩, gm 762 (by decide +kernel) rfl, gm 763 (by decide +kernel) rfl⟩, ⟨_, _, rfl⟩, rfl, rfl, by decide, by decide⟩
theorem cvl_136 : CVL 136 0 7 I_X7_keep := ⟨⟨⟨gm 1121 (by decide +kernel) rfl, gm 1124 (by decide +kernel) rfl, gm 44 (by decide +kernel) rfl, mh_7.1, mh_7.2, by decide +kernel⟩, gm 1122 (by decide +kernel) rfl, gm 1123 (by decide +kernel) rfl⟩, ⟨_, _, rfl⟩, rfl, rfl, by decide, by decide⟩
theorem cvl_137 : CVL 137 0 6 I_X6_back := ⟨⟨⟨gm 780 (by decide +kernel) rfl, gm 783 (by decide +kernel) rfl, gm 37 (by decide +kernel) rfl, mh_6.1, mh_6.2, by decide +kernel⟩, gm 781 (by decide +kernel) rfl, gm 782 (by decide +kernel) rfl⟩, ⟨_, _, rfl⟩, rfl, rfl, by decide, by decide⟩
theorem cvl_140 : CVL 140 0 7 I_X7_back := ⟨⟨⟨gm 1125 (by decide +kernel) rfl, gm 1128 (by decide +kernel) rfl, gm 44 (by decide +kernel) rfl, mh_7.1, mh_7.2, by decide +kernel⟩, gm 1126 (by decide +kernel) rfl, gm 1127 (by decide +kernel) rfl⟩, ⟨_, _, rfl⟩, rfl, rfl, by decide, by decide⟩
theorem cvl_141 : CVL 141 1 6 I_X6_told := ⟨⟨⟨gm 784 (by decide +kernel) rfl, gm 787 (by decide +kernel) rfl, gm 37 (by decide +kernel) rfl, mh_6.1, mh_6.2, by decide +kernel⟩, gm 785 (by decide +kernel) rfl, gm 786 (by decide +kernel) rfl⟩, ⟨_, _, rfl⟩, rfl, rfl, by decide, by decide⟩
theorem cvl_144 : CVL 144 1 7 I_X7_told := ⟨⟨⟨gm 1129 (by decide +kernel) rfl, gm 1132 (by decide +kernel) rfl, gm 44 (by decide +kernel) rfl, mh_7.1, mh_7.2, by decide +kernel⟩, gm 1130 (by decide +kernel) rfl, gm 1131 (by decide +kernel) rfl⟩, ⟨_, _, rfl⟩, rfl, rfl, by decide, by decide⟩
/-- the law, told purely: two books side by side, j ints are read -/
def f_law (fuel : Nat) (xs : Nat → Int32) (L j : Nat) (S : St) : Option Bool := match fuel with
  | 0 => none
  | n + 1 => if L < j + 6 then some true else
    if xs j &&& 31 = (0 : Int32) then ((f_X6_sort (xs (j + 1)) (xs (j + 2)) (xs (j + 3)) (xs (j + 4)) (xs (j + 5)) S).bind fun v198 => ((f_X7_sort (xs (j + 1)) (xs (j + 2)) (xs (j + 3)) (xs (j + 4)) (xs (j + 5)) v198.2).bind fun v227 => (if v198.1 = v227.1 then (f_law n xs L (j + 6) v227.2) else (some false)))) else
    if xs j &&& 31 = (1 : Int32) then (if (xs (j + 3)) = 0 then ((f_X6_takes (xs (j + 1)) (xs (j + 2)) false S).bind fun v259 => (if (xs (j + 3)) = 0 then ((f_X7_takes (xs (j + 1)) (xs (j + 2)) false v259.2).bind fun v286 => (if v259.1 = v286.1 then (f_law n xs L (j + 6) v286.2) else (some false))) else ((f_X7_takes (xs (j + 1)) (xs (j + 2)) true v259.2).bind fun v286 => (if v259.1 = v286.1 then (f_law n xs L (j + 6) v286.2) else (some false))))) else ((f_X6_takes (xs (j + 1)) (xs (j + 2)) true S).bind fun v259 => (if (xs (j + 3)) = 0 then ((f_X7_takes (xs (j + 1)) (xs (j + 2)) false v259.2).bind fun v286 => (if v259.1 = v286.1 then (f_law n xs L (j + 6) v286.2) else (some false))) else ((f_X7_takes (xs (j + 1)) (xs (j + 2)) true v259.2).bind fun v286 => (if v259.1 = v286.1 then (f_law n xs L (j + 6) v286.2) else (some false)))))) else
    if xs j &&& 31 = (2 : Int32) then ((f_X6_at (xs (j + 1)) (xs (j + 2)) (xs (j + 3)) S).bind fun v310 => ((f_X7_at (xs (j + 1)) (xs (j + 2)) (xs (j + 3)) v310.2).bind fun v329 => (if v310.1 = v329.1 then (f_law n xs L (j + 6) v329.2) else (some false)))) else
    if xs j &&& 31 = (3 : Int32) then ((some (f_X6_distance (xs (j + 1)) S)).bind fun v343 => ((f_X7_distance (xs (j + 1)) v343.2).bind fun v352 => (if v343.1 = v352.1 then (f_law n xs L (j + 6) v352.2) else (some false)))) else
    if xs j &&& 31 = (4 : Int32) then ((f_X6_plant (xs (j + 1)) (xs (j + 2)) (xs (j + 3)) (xs (j + 4)) S).bind fun v381 => ((f_X7_plant (xs (j + 1)) (xs (j + 2)) (xs (j + 3)) (xs (j + 4)) v381.2).bind fun v405 => (if v381.1 = v405.1 then (f_law n xs L (j + 6) v405.2) else (some false)))) else
    if xs j &&& 31 = (5 : Int32) then ((f_X6_pull (xs (j + 1)) (xs (j + 2)) S).bind fun v424 => ((f_X7_pull (xs (j + 1)) (xs (j + 2)) v424.2).bind fun v438 => (if v424.1 = v438.1 then (f_law n xs L (j + 6) v438.2) else (some false)))) else
    if xs j &&& 31 = (6 : Int32) then ((f_X6_as (xs (j + 1)) (xs (j + 2)) S).bind fun v457 => ((f_X7_as (xs (j + 1)) (xs (j + 2)) v457.2).bind fun v471 => (if v457.1 = v471.1 then (f_law n xs L (j + 6) v471.2) else (some false)))) else
    if xs j &&& 31 = (7 : Int32) then ((f_X6_of (xs (j + 1)) (xs (j + 2)) S).bind fun v490 => ((f_X7_of (xs (j + 1)) (xs (j + 2)) v490.2).bind fun v504 => (if v490.1 = v504.1 then (f_law n xs L (j + 6) v504.2) else (some false)))) else
    if xs j &&& 31 = (8 : Int32) then ((f_X6_cut (xs (j + 1)) (xs (j + 2)) S).bind fun v523 => ((f_X7_cut (xs (j + 1)) (xs (j + 2)) v523.2).bind fun v537 => (if v523.1 = v537.1 then (f_law n xs L (j + 6) v537.2) else (some false)))) else
    if xs j &&& 31 = (9 : Int32) then ((f_X6_sheet (xs (j + 1)) (xs (j + 2)) (xs (j + 3)) S).bind fun v561 => ((f_X7_sheet (xs (j + 1)) (xs (j + 2)) (xs (j + 3)) v561.2).bind fun v580 => (if v561.1 = v580.1 then (f_law n xs L (j + 6) v580.2) else (some false)))) else
    if xs j &&& 31 = (10 : Int32) then ((f_X6_put (xs (j + 1)) (xs (j + 2)) (xs (j + 3)) S).bind fun v604 => ((f_X7_put (xs (j + 1)) (xs (j + 2)) (xs (j + 3)) v604.2).bind fun v623 => (if v604.1 = v623.1 then (f_law n xs L (j + 6) v623.2) else (some false)))) else
    if xs j &&& 31 = (11 : Int32) then ((f_X6_copy (xs (j + 1)) (xs (j + 2)) (xs (j + 3)) (xs (j + 4)) (xs (j + 5)) S).bind fun v657 => ((f_X7_copy (xs (j + 1)) (xs (j + 2)) (xs (j + 3)) (xs (j + 4)) (xs (j + 5)) v657.2).bind fun v686 => (if v657.1 = v686.1 then (f_law n xs L (j + 6) v686.2) else (some false)))) else
    if xs j &&& 31 = (12 : Int32) then ((some (f_X6_name (xs (j + 1)) S)).bind fun v700 => ((f_X7_name (xs (j + 1)) v700.2).bind fun v709 => (if v700.1 = v709.1 then (f_law n xs L (j + 6) v709.2) else (some false)))) else
    if xs j &&& 31 = (13 : Int32) then ((f_X6_warmth (xs (j + 1)) S).bind fun v723 => ((f_X7_warmth (xs (j + 1)) v723.2).bind fun v732 => (if v723.1 = v732.1 then (f_law n xs L (j + 6) v732.2) else (some false)))) else
    if xs j &&& 31 = (14 : Int32) then ((f_X6_sum (xs (j + 1)) S).bind fun v746 => ((f_X7_sum (xs (j + 1)) v746.2).bind fun v755 => (if v746.1 = v755.1 then (f_law n xs L (j + 6) v755.2) else (some false)))) else
    if xs j &&& 31 = (15 : Int32) then ((f_X6_blooms (xs (j + 1)) S).bind fun v769 => ((f_X7_blooms (xs (j + 1)) v769.2).bind fun v778 => (if v769.1 = v778.1 then (f_law n xs L (j + 6) v778.2) else (some false)))) else
    if xs j &&& 31 = (16 : Int32) then ((f_X6_frost (xs (j + 1)) (xs (j + 2)) (xs (j + 3)) S).bind fun v802 => ((f_X7_frost (xs (j + 1)) (xs (j + 2)) (xs (j + 3)) v802.2).bind fun v821 => (if v802.1 = v821.1 then (f_law n xs L (j + 6) v821.2) else (some false)))) else
    if xs j &&& 31 = (17 : Int32) then ((f_X6_partners (xs (j + 1)) (xs (j + 2)) (xs (j + 3)) S).bind fun v845 => ((f_X7_partners (xs (j + 1)) (xs (j + 2)) (xs (j + 3)) v845.2).bind fun v864 => (if v845.1 = v864.1 then (f_law n xs L (j + 6) v864.2) else (some false)))) else
    if xs j &&& 31 = (18 : Int32) then ((f_X6_go (xs (j + 1)) S).bind fun v878 => ((f_X7_go (xs (j + 1)) v878.2).bind fun v887 => (if v878.1 = v887.1 then (f_law n xs L (j + 6) v887.2) else (some false)))) else
    if xs j &&& 31 = (19 : Int32) then ((f_X6_fruits (xs (j + 1)) (xs (j + 2)) S).bind fun v906 => ((f_X7_fruits (xs (j + 1)) (xs (j + 2)) v906.2).bind fun v920 => (if v906.1 = v920.1 then (f_law n xs L (j + 6) v920.2) else (some false)))) else
    if xs j &&& 31 = (20 : Int32) then ((f_X6_thin (xs (j + 1)) (xs (j + 2)) S).bind fun v939 => ((f_X7_thin (xs (j + 1)) (xs (j + 2)) v939.2).bind fun v953 => (if v939.1 = v953.1 then (f_law n xs L (j + 6) v953.2) else (some false)))) else
    if xs j &&& 31 = (21 : Int32) then ((some (f_X6_hours (xs (j + 1)) S)).bind fun v967 => ((f_X7_hours (xs (j + 1)) v967.2).bind fun v976 => (if v967.1 = v976.1 then (f_law n xs L (j + 6) v976.2) else (some false)))) else
    if xs j &&& 31 = (22 : Int32) then ((f_X6_store (xs (j + 1)) S).bind fun v990 => ((f_X7_store (xs (j + 1)) v990.2).bind fun v999 => (if v990.1 = v999.1 then (f_law n xs L (j + 6) v999.2) else (some false)))) else
    if xs j &&& 31 = (23 : Int32) then ((f_X6_take (xs (j + 1)) (xs (j + 2)) S).bind fun v1018 => ((f_X7_take (xs (j + 1)) (xs (j + 2)) v1018.2).bind fun v1032 => (if v1018.1 = v1032.1 then (f_law n xs L (j + 6) v1032.2) else (some false)))) else
    if xs j &&& 31 = (24 : Int32) then ((f_X6_all (xs (j + 1)) S).bind fun v1046 => ((f_X7_all (xs (j + 1)) v1046.2).bind fun v1055 => (if v1046.1 = v1055.1 then (f_law n xs L (j + 6) v1055.2) else (some false)))) else
    if xs j &&& 31 = (25 : Int32) then ((f_X6_lone (xs (j + 1)) S).bind fun v1070 => ((f_X7_lone (xs (j + 1)) v1070.2).bind fun v1079 => (if v1070.1 = v1079.1 then (f_law n xs L (j + 6) v1079.2) else (some false)))) else
    if xs j &&& 31 = (26 : Int32) then ((f_X6_best S).bind fun v1088 => ((f_X7_best v1088.2).bind fun v1092 => (if v1088.1 = v1092.1 then (f_law n xs L (j + 6) v1092.2) else (some false)))) else
    if xs j &&& 31 = (27 : Int32) then ((f_X6_given (xs (j + 1)) S).bind fun v1106 => ((f_X7_given (xs (j + 1)) v1106.2).bind fun v1115 => (if v1106.1 = v1115.1 then (f_law n xs L (j + 6) v1115.2) else (some false)))) else
    if xs j &&& 31 = (28 : Int32) then ((f_X6_keep S).bind fun v1124 => ((f_X7_keep v1124.2).bind fun v1128 => (if v1124.1 = v1128.1 then (f_law n xs L (j + 6) v1128.2) else (some false)))) else
    if xs j &&& 31 = (29 : Int32) then ((f_X6_back S).bind fun v1137 => ((f_X7_back v1137.2).bind fun v1141 => (if v1137.1 = v1141.1 then (f_law n xs L (j + 6) v1141.2) else (some false)))) else
    if xs j &&& 31 = (30 : Int32) then ((some (f_X6_told (xs (j + 1)) S)).bind fun v1155 => ((f_X7_told (xs (j + 1)) v1155.2).bind fun v1164 => (if v1155.1 = v1164.1 then (f_law n xs L (j + 6) v1164.2) else (some false)))) else
    f_law n xs L (j + 6) S
def JqHead (p : Program) (l : Launch) (e : Env) (s : State) (m : MethodId) (below : List Frame) (meth : Method) (c : Code) (b : Nat) (w : Wd) (xs : Nat → Int32) (L n : Nat) : Prop := ∀ (j : Nat) (S : St), j ≤ L + 6 → JQ p l e s m below meth c b w 18 [(0, .ref b), (1, .ref (w.2.1 + 0)), (2, .ref (w.2.1 + 108)), (3, .int (nI j))] [] S (f_law n xs L j S)
theorem jq_next {p : Program} {l : Launch} {e : Env} {s : State} {m : MethodId} {below : List Frame} {meth : Method} {c : Code} {b L : Nat} {xs : Nat → Int32} {w : Wd} {n j : Nat} (C : CL p s m meth c b L xs w) (hL : L ≤ 3072) (ih : JqHead p l e s m below meth c b w xs L n) (hj : j + 6 ≤ L) (S : St) : JQ p l e s m below meth c b w 1172 [(0, .ref b), (1, .ref (w.2.1 + 0)), (2, .ref (w.2.1 + 108)), (3, .int (nI j))] [] S (f_law n xs L (j + 6) S) := by
  refine q_iinc C 3 (v := nI (j + 6)) (ls' := [(3, .int (nI (j + 6))), (0, .ref b), (1, .ref (w.2.1 + 0)), (2, .ref (w.2.1 + 108))]) dL_law_1172 rfl (nI_add j 6) (by decide) rfl ?_
  refine q_goto C 18 dL_law_1175 (by decide) ?_
  refine q_sub [1, 2, 3, 0] rfl ?_
  exact ih (j + 6) S (by omega)
theorem law_cond {L j : Nat} (hL : L ≤ 3072) (hj : j ≤ L + 6) : nI L - 6 < nI j ↔ L < j + 6 := by
  have h1 : (nI L - 6).toInt = (L : Int) - 6 := pk_sub_toInt (a := L) (b := 6) (by omega) (by decide)
  have h2 : (nI j).toInt = (j : Int) := nI_toInt (by omega)
  rw [Int32.lt_iff_toInt_lt, h1, h2]
  omega
set_option maxRecDepth 100000 in
set_option maxHeartbeats 4000000 in
theorem law_case_0 {p : Program} {l : Launch} {e : Env} {s : State} {m : MethodId} {below : List Frame} {meth : Method} {c : Code} {b L : Nat} {xs : Nat → Int32} {w : Wd} {n j : Nat} (C : CL p s m meth c b L xs w) (hL : L ≤ 3072) (ih : JqHead p l e s m below meth c b w xs L n) (hj : j + 6 ≤ L) (S : St) : JQ p l e s m below meth c b w 172 [(0, .ref b), (1, .ref (w.2.1 + 0)), (2, .ref (w.2.1 + 108)), (3, .int (nI j))] [] S ((f_X6_sort (xs (j + 1)) (xs (j + 2)) (xs (j + 3)) (xs (j + 4)) (xs (j + 5)) S).bind fun v198 => ((f_X7_sort (xs (j + 1)) (xs (j + 2)) (xs (j + 3)) (xs (j + 4)) (xs (j + 5)) v198.2).bind fun v227 => (if v198.1 = v227.1 then (f_law n xs L (j + 6) v227.2) else (some false)))) := by
  refine q_aload_n C 1 dL_law_172 rfl rfl ?_
  refine q_aload_n C 0 dL_law_173 rfl rfl ?_
  refine q_iload_n C 3 dL_law_174 rfl rfl ?_
  refine q_iconst C (v := 1) dL_law_175 (by decide) ?_
  refine q_iadd C dL_law_176 ?_
  refine q_sld C (q := j + 1) (nI_add j 1) (by omega) hL dL_law_177 ?_
  refine q_aload_n C 0 dL_law_178 rfl rfl ?_
  refine q_iload_n C 3 dL_law_179 rfl rfl ?_
  refine q_iconst C (v := 2) dL_law_180 (by decide) ?_
  refine q_iadd C dL_law_181 ?_
  refine q_sld C (q := j + 2) (nI_add j 2) (by omega) hL dL_law_182 ?_
  refine q_aload_n C 0 dL_law_183 rfl rfl ?_
  refine q_iload_n C 3 dL_law_184 rfl rfl ?_
  refine q_iconst C (v := 3) dL_law_185 (by decide) ?_
  refine q_iadd C dL_law_186 ?_
  refine q_sld C (q := j + 3) (nI_add j 3) (by omega) hL dL_law_187 ?_
  refine q_aload_n C 0 dL_law_188 rfl rfl ?_
  refine q_iload_n C 3 dL_law_189 rfl rfl ?_
  refine q_iconst C (v := 4) dL_law_190 (by decide) ?_
  refine q_iadd C dL_law_191 ?_
  refine q_sld C (q := j + 4) (nI_add j 4) (by omega) hL dL_law_192 ?_
  refine q_aload_n C 0 dL_law_193 rfl rfl ?_
  refine q_iload_n C 3 dL_law_194 rfl rfl ?_
  refine q_iconst C (v := 5) dL_law_195 (by decide) ?_
  refine q_iadd C dL_law_196 ?_
  refine q_sld C (q := j + 5) (nI_add j 5) (by omega) hL dL_law_197 ?_
  refine q_callVi C (As := [.int (xs (j + 1)), .int (xs (j + 2)), .int (xs (j + 3)), .int (xs (j + 4)), .int (xs (j + 5))]) cvl_13 k_0 rfl (Nat.le_of_ble_eq_true rfl) dL_law_198 (c_X6_sort l w (xs (j + 1)) (xs (j + 2)) (xs (j + 3)) (xs (j + 4)) (xs (j + 5)) S) (fun v198 => ?_)
  refine q_aload_n C 2 dL_law_201 rfl rfl ?_
  refine q_aload_n C 0 dL_law_202 rfl rfl ?_
  refine q_iload_n C 3 dL_law_203 rfl rfl ?_
  refine q_iconst C (v := 1) dL_law_204 (by decide) ?_
  refine q_iadd C dL_law_205 ?_
  refine q_sld C (q := j + 1) (nI_add j 1) (by omega) hL dL_law_206 ?_
  refine q_aload_n C 0 dL_law_207 rfl rfl ?_
  refine q_iload_n C 3 dL_law_208 rfl rfl ?_
  refine q_iconst C (v := 2) dL_law_209 (by decide) ?_
  refine q_iadd C dL_law_210 ?_
  refine q_sld C (q := j + 2) (nI_add j 2) (by omega) hL dL_law_211 ?_
  refine q_aload_n C 0 dL_law_212 rfl rfl ?_
  refine q_iload_n C 3 dL_law_213 rfl rfl ?_
  refine q_iconst C (v := 3) dL_law_214 (by decide) ?_
  refine q_iadd C dL_law_215 ?_
  refine q_sld C (q := j + 3) (nI_add j 3) (by omega) hL dL_law_216 ?_
  refine q_aload_n C 0 dL_law_217 rfl rfl ?_
  refine q_iload_n C 3 dL_law_218 rfl rfl ?_
  refine q_iconst C (v := 4) dL_law_219 (by decide) ?_
  refine q_iadd C dL_law_220 ?_
  refine q_sld C (q := j + 4) (nI_add j 4) (by omega) hL dL_law_221 ?_
  refine q_aload_n C 0 dL_law_222 rfl rfl ?_
  refine q_iload_n C 3 dL_law_223 rfl rfl ?_
  refine q_iconst C (v := 5) dL_law_224 (by decide) ?_
  refine q_iadd C dL_law_225 ?_
  refine q_sld C (q := j + 5) (nI_add j 5) (by omega) hL dL_law_226 ?_
  refine q_callVi C (As := [.int (xs (j + 1)), .int (xs (j + 2)), .int (xs (j + 3)), .int (xs (j + 4)), .int (xs (j + 5))]) cvl_17 k_108 rfl (Nat.le_of_ble_eq_true rfl) dL_law_227 (c_X7_sort l w (xs (j + 1)) (xs (j + 2)) (xs (j + 3)) (xs (j + 4)) (xs (j + 5)) v198.2) (fun v227 => ?_)
  refine q_icmp_eq C 1172 dL_law_230 (by decide) ?_ ?_
  · exact jq_next C hL ih hj v227.2
  · exact q_no
set_option maxRecDepth 100000 in
set_option maxHeartbeats 4000000 in
theorem law_case_1 {p : Program} {l : Launch} {e : Env} {s : State} {m : MethodId} {below : List Frame} {meth : Method} {c : Code} {b L : Nat} {xs : Nat → Int32} {w : Wd} {n j : Nat} (C : CL p s m meth c b L xs w) (hL : L ≤ 3072) (ih : JqHead p l e s m below meth c b w xs L n) (hj : j + 6 ≤ L) (S : St) : JQ p l e s m below meth c b w 235 [(0, .ref b), (1, .ref (w.2.1 + 0)), (2, .ref (w.2.1 + 108)), (3, .int (nI j))] [] S (if (xs (j + 3)) = 0 then ((f_X6_takes (xs (j + 1)) (xs (j + 2)) false S).bind fun v259 => (if (xs (j + 3)) = 0 then ((f_X7_takes (xs (j + 1)) (xs (j + 2)) false v259.2).bind fun v286 => (if v259.1 = v286.1 then (f_law n xs L (j + 6) v286.2) else (some false))) else ((f_X7_takes (xs (j + 1)) (xs (j + 2)) true v259.2).bind fun v286 => (if v259.1 = v286.1 then (f_law n xs L (j + 6) v286.2) else (some false))))) else ((f_X6_takes (xs (j + 1)) (xs (j + 2)) true S).bind fun v259 => (if (xs (j + 3)) = 0 then ((f_X7_takes (xs (j + 1)) (xs (j + 2)) false v259.2).bind fun v286 => (if v259.1 = v286.1 then (f_law n xs L (j + 6) v286.2) else (some false))) else ((f_X7_takes (xs (j + 1)) (xs (j + 2)) true v259.2).bind fun v286 => (if v259.1 = v286.1 then (f_law n xs L (j + 6) v286.2) else (some false)))))) := by
  refine q_aload_n C 1 dL_law_235 rfl rfl ?_
  refine q_aload_n C 0 dL_law_236 rfl rfl ?_
  refine q_iload_n C 3 dL_law_237 rfl rfl ?_
  refine q_iconst C (v := 1) dL_law_238 (by decide) ?_
  refine q_iadd C dL_law_239 ?_
  refine q_sld C (q := j + 1) (nI_add j 1) (by omega) hL dL_law_240 ?_
  refine q_aload_n C 0 dL_law_241 rfl rfl ?_
  refine q_iload_n C 3 dL_law_242 rfl rfl ?_
  refine q_iconst C (v := 2) dL_law_243 (by decide) ?_
  refine q_iadd C dL_law_244 ?_
  refine q_sld C (q := j + 2) (nI_add j 2) (by omega) hL dL_law_245 ?_
  refine q_aload_n C 0 dL_law_246 rfl rfl ?_
  refine q_iload_n C 3 dL_law_247 rfl rfl ?_
  refine q_iconst C (v := 3) dL_law_248 (by decide) ?_
  refine q_iadd C dL_law_249 ?_
  refine q_sld C (q := j + 3) (nI_add j 3) (by omega) hL dL_law_250 ?_
  refine q_if_eq C 258 Iff.rfl dL_law_251 (by decide) ?_ ?_
  · refine q_iconst C (v := 0) dL_law_258 (by decide) ?_
    refine q_callVi C (As := [.int (xs (j + 1)), .int (xs (j + 2)), .int (0 : Int32)]) cvl_18 k_0 rfl (Nat.le_of_ble_eq_true rfl) dL_law_259 (c_X6_takes l w (xs (j + 1)) (xs (j + 2)) false S) (fun v259 => ?_)
    refine q_aload_n C 2 dL_law_262 rfl rfl ?_
    refine q_aload_n C 0 dL_law_263 rfl rfl ?_
    refine q_iload_n C 3 dL_law_264 rfl rfl ?_
    refine q_iconst C (v := 1) dL_law_265 (by decide) ?_
    refine q_iadd C dL_law_266 ?_
    refine q_sld C (q := j + 1) (nI_add j 1) (by omega) hL dL_law_267 ?_
    refine q_aload_n C 0 dL_law_268 rfl rfl ?_
    refine q_iload_n C 3 dL_law_269 rfl rfl ?_
    refine q_iconst C (v := 2) dL_law_270 (by decide) ?_
    refine q_iadd C dL_law_271 ?_
    refine q_sld C (q := j + 2) (nI_add j 2) (by omega) hL dL_law_272 ?_
    refine q_aload_n C 0 dL_law_273 rfl rfl ?_
    refine q_iload_n C 3 dL_law_274 rfl rfl ?_
    refine q_iconst C (v := 3) dL_law_275 (by decide) ?_
    refine q_iadd C dL_law_276 ?_
    refine q_sld C (q := j + 3) (nI_add j 3) (by omega) hL dL_law_277 ?_
    refine q_if_eq C 285 Iff.rfl dL_law_278 (by decide) ?_ ?_
    · refine q_iconst C (v := 0) dL_law_285 (by decide) ?_
      refine q_callVi C (As := [.int (xs (j + 1)), .int (xs (j + 2)), .int (0 : Int32)]) cvl_22 k_108 rfl (Nat.le_of_ble_eq_true rfl) dL_law_286 (c_X7_takes l w (xs (j + 1)) (xs (j + 2)) false v259.2) (fun v286 => ?_)
      refine q_icmp_eq C 1172 dL_law_289 (by decide) ?_ ?_
      · exact jq_next C hL ih hj v286.2
      · exact q_no
    · refine q_iconst C (v := 1) dL_law_281 (by decide) ?_
      refine q_goto C 286 dL_law_282 (by decide) ?_
      refine q_callVi C (As := [.int (xs (j + 1)), .int (xs (j + 2)), .int (1 : Int32)]) cvl_22 k_108 rfl (Nat.le_of_ble_eq_true rfl) dL_law_286 (c_X7_takes l w (xs (j + 1)) (xs (j + 2)) true v259.2) (fun v286 => ?_)
      refine q_icmp_eq C 1172 dL_law_289 (by decide) ?_ ?_
      · exact jq_next C hL ih hj v286.2
      · exact q_no
  · refine q_iconst C (v := 1) dL_law_254 (by decide) ?_
    refine q_goto C 259 dL_law_255 (by decide) ?_
    refine q_callVi C (As := [.int (xs (j + 1)), .int (xs (j + 2)), .int (1 : Int32)]) cvl_18 k_0 rfl (Nat.le_of_ble_eq_true rfl) dL_law_259 (c_X6_takes l w (xs (j + 1)) (xs (j + 2)) true S) (fun v259 => ?_)
    refine q_aload_n C 2 dL_law_262 rfl rfl ?_
    refine q_aload_n C 0 dL_law_263 rfl rfl ?_
    refine q_iload_n C 3 dL_law_264 rfl rfl ?_
    refine q_iconst C (v := 1) dL_law_265 (by decide) ?_
    refine q_iadd C dL_law_266 ?_
    refine q_sld C (q := j + 1) (nI_add j 1) (by omega) hL dL_law_267 ?_
    refine q_aload_n C 0 dL_law_268 rfl rfl ?_
    refine q_iload_n C 3 dL_law_269 rfl rfl ?_
    refine q_iconst C (v := 2) dL_law_270 (by decide) ?_
    refine q_iadd C dL_law_271 ?_
    refine q_sld C (q := j + 2) (nI_add j 2) (by omega) hL dL_law_272 ?_
    refine q_aload_n C 0 dL_law_273 rfl rfl ?_
    refine q_iload_n C 3 dL_law_274 rfl rfl ?_
    refine q_iconst C (v := 3) dL_law_275 (by decide) ?_
    refine q_iadd C dL_law_276 ?_
    refine q_sld C (q := j + 3) (nI_add j 3) (by omega) hL dL_law_277 ?_
    refine q_if_eq C 285 Iff.rfl dL_law_278 (by decide) ?_ ?_
    · refine q_iconst C (v := 0) dL_law_285 (by decide) ?_
      refine q_callVi C (As := [.int (xs (j + 1)), .int (xs (j + 2)), .int (0 : Int32)]) cvl_22 k_108 rfl (Nat.le_of_ble_eq_true rfl) dL_law_286 (c_X7_takes l w (xs (j + 1)) (xs (j + 2)) false v259.2) (fun v286 => ?_)
      refine q_icmp_eq C 1172 dL_law_289 (by decide) ?_ ?_
      · exact jq_next C hL ih hj v286.2
      · exact q_no
    · refine q_iconst C (v := 1) dL_law_281 (by decide) ?_
      refine q_goto C 286 dL_law_282 (by decide) ?_
      refine q_callVi C (As := [.int (xs (j + 1)), .int (xs (j + 2)), .int (1 : Int32)]) cvl_22 k_108 rfl (Nat.le_of_ble_eq_true rfl) dL_law_286 (c_X7_takes l w (xs (j + 1)) (xs (j + 2)) true v259.2) (fun v286 => ?_)
      refine q_icmp_eq C 1172 dL_law_289 (by decide) ?_ ?_
      · exact jq_next C hL ih hj v286.2
      · exact q_no
set_option maxRecDepth 100000 in
set_option maxHeartbeats 4000000 in
theorem law_case_2 {p : Program} {l : Launch} {e : Env} {s : State} {m : MethodId} {below : List Frame} {meth : Method} {c : Code} {b L : Nat} {xs : Nat → Int32} {w : Wd} {n j : Nat} (C : CL p s m meth c b L xs w) (hL : L ≤ 3072) (ih : JqHead p l e s m below meth c b w xs L n) (hj : j + 6 ≤ L) (S : St) : JQ p l e s m below meth c b w 294 [(0, .ref b), (1, .ref (w.2.1 + 0)), (2, .ref (w.2.1 + 108)), (3, .int (nI j))] [] S ((f_X6_at (xs (j + 1)) (xs (j + 2)) (xs (j + 3)) S).bind fun v310 => ((f_X7_at (xs (j + 1)) (xs (j + 2)) (xs (j + 3)) v310.2).bind fun v329 => (if v310.1 = v329.1 then (f_law n xs L (j + 6) v329.2) else (some false)))) := by
  refine q_aload_n C 1 dL_law_294 rfl rfl ?_
  refine q_aload_n C 0 dL_law_295 rfl rfl ?_
  refine q_iload_n C 3 dL_law_296 rfl rfl ?_
  refine q_iconst C (v := 1) dL_law_297 (by decide) ?_
  refine q_iadd C dL_law_298 ?_
  refine q_sld C (q := j + 1) (nI_add j 1) (by omega) hL dL_law_299 ?_
  refine q_aload_n C 0 dL_law_300 rfl rfl ?_
  refine q_iload_n C 3 dL_law_301 rfl rfl ?_
  refine q_iconst C (v := 2) dL_law_302 (by decide) ?_
  refine q_iadd C dL_law_303 ?_
  refine q_sld C (q := j + 2) (nI_add j 2) (by omega) hL dL_law_304 ?_
  refine q_aload_n C 0 dL_law_305 rfl rfl ?_
  refine q_iload_n C 3 dL_law_306 rfl rfl ?_
  refine q_iconst C (v := 3) dL_law_307 (by decide) ?_
  refine q_iadd C dL_law_308 ?_
  refine q_sld C (q := j + 3) (nI_add j 3) (by omega) hL dL_law_309 ?_
  refine q_callVi C (As := [.int (xs (j + 1)), .int (xs (j + 2)), .int (xs (j + 3))]) cvl_23 k_0 rfl (Nat.le_of_ble_eq_true rfl) dL_law_310 (c_X6_at l w (xs (j + 1)) (xs (j + 2)) (xs (j + 3)) S) (fun v310 => ?_)
  refine q_aload_n C 2 dL_law_313 rfl rfl ?_
  refine q_aload_n C 0 dL_law_314 rfl rfl ?_
  refine q_iload_n C 3 dL_law_315 rfl rfl ?_
  refine q_iconst C (v := 1) dL_law_316 (by decide) ?_
  refine q_iadd C dL_law_317 ?_
  refine q_sld C (q := j + 1) (nI_add j 1) (by omega) hL dL_law_318 ?_
  refine q_aload_n C 0 dL_law_319 rfl rfl ?_
  refine q_iload_n C 3 dL_law_320 rfl rfl ?_
  refine q_iconst C (v := 2) dL_law_321 (by decide) ?_
  refine q_iadd C dL_law_322 ?_
  refine q_sld C (q := j + 2) (nI_add j 2) (by omega) hL dL_law_323 ?_
  refine q_aload_n C 0 dL_law_324 rfl rfl ?_
  refine q_iload_n C 3 dL_law_325 rfl rfl ?_
  refine q_iconst C (v := 3) dL_law_326 (by decide) ?_
  refine q_iadd C dL_law_327 ?_
  refine q_sld C (q := j + 3) (nI_add j 3) (by omega) hL dL_law_328 ?_
  refine q_callVi C (As := [.int (xs (j + 1)), .int (xs (j + 2)), .int (xs (j + 3))]) cvl_27 k_108 rfl (Nat.le_of_ble_eq_true rfl) dL_law_329 (c_X7_at l w (xs (j + 1)) (xs (j + 2)) (xs (j + 3)) v310.2) (fun v329 => ?_)
  refine q_icmp_eq C 1172 dL_law_332 (by decide) ?_ ?_
  · exact jq_next C hL ih hj v329.2
  · exact q_no
set_option maxRecDepth 100000 in
set_option maxHeartbeats 4000000 in
theorem law_case_3 {p : Program} {l : Launch} {e : Env} {s : State} {m : MethodId} {below : List Frame} {meth : Method} {c : Code} {b L : Nat} {xs : Nat → Int32} {w : Wd} {n j : Nat} (C : CL p s m meth c b L xs w) (hL : L ≤ 3072) (ih : JqHead p l e s m below meth c b w xs L n) (hj : j + 6 ≤ L) (S : St) : JQ p l e s m below meth c b w 337 [(0, .ref b), (1, .ref (w.2.1 + 0)), (2, .ref (w.2.1 + 108)), (3, .int (nI j))] [] S ((some (f_X6_distance (xs (j + 1)) S)).bind fun v343 => ((f_X7_distance (xs (j + 1)) v343.2).bind fun v352 => (if v343.1 = v352.1 then (f_law n xs L (j + 6) v352.2) else (some false)))) := by
  refine q_aload_n C 1 dL_law_337 rfl rfl ?_
  refine q_aload_n C 0 dL_law_338 rfl rfl ?_
  refine q_iload_n C 3 dL_law_339 rfl rfl ?_
  refine q_iconst C (v := 1) dL_law_340 (by decide) ?_
  refine q_iadd C dL_law_341 ?_
  refine q_sld C (q := j + 1) (nI_add j 1) (by omega) hL dL_law_342 ?_
  refine q_callVi C (As := [.int (xs (j + 1))]) cvl_28 k_0 rfl (Nat.le_of_ble_eq_true rfl) dL_law_343 (fun v h => by cases h; exact c_X6_distance l w (xs (j + 1)) S) (fun v343 => ?_)
  refine q_aload_n C 2 dL_law_346 rfl rfl ?_
  refine q_aload_n C 0 dL_law_347 rfl rfl ?_
  refine q_iload_n C 3 dL_law_348 rfl rfl ?_
  refine q_iconst C (v := 1) dL_law_349 (by decide) ?_
  refine q_iadd C dL_law_350 ?_
  refine q_sld C (q := j + 1) (nI_add j 1) (by omega) hL dL_law_351 ?_
  refine q_callVi C (As := [.int (xs (j + 1))]) cvl_32 k_108 rfl (Nat.le_of_ble_eq_true rfl) dL_law_352 (c_X7_distance l w (xs (j + 1)) v343.2) (fun v352 => ?_)
  refine q_icmp_eq C 1172 dL_law_355 (by decide) ?_ ?_
  · exact jq_next C hL ih hj v352.2
  · exact q_no
set_option maxRecDepth 100000 in
set_option maxHeartbeats 4000000 in
theorem law_case_4 {p : Program} {l : Launch} {e : Env} {s : State} {m : MethodId} {below : List Frame} {meth : Method} {c : Code} {b L : Nat} {xs : Nat → Int32} {w : Wd} {n j : Nat} (C : CL p s m meth c b L xs w) (hL : L ≤ 3072) (ih : JqHead p l e s m below meth c b w xs L n) (hj : j + 6 ≤ L) (S : St) : JQ p l e s m below meth c b w 360 [(0, .ref b), (1, .ref (w.2.1 + 0)), (2, .ref (w.2.1 + 108)), (3, .int (nI j))] [] S ((f_X6_plant (xs (j + 1)) (xs (j + 2)) (xs (j + 3)) (xs (j + 4)) S).bind fun v381 => ((f_X7_plant (xs (j + 1)) (xs (j + 2)) (xs (j + 3)) (xs (j + 4)) v381.2).bind fun v405 => (if v381.1 = v405.1 then (f_law n xs L (j + 6) v405.2) else (some false)))) := by
  refine q_aload_n C 1 dL_law_360 rfl rfl ?_
  refine q_aload_n C 0 dL_law_361 rfl rfl ?_
  refine q_iload_n C 3 dL_law_362 rfl rfl ?_
  refine q_iconst C (v := 1) dL_law_363 (by decide) ?_
  refine q_iadd C dL_law_364 ?_
  refine q_sld C (q := j + 1) (nI_add j 1) (by omega) hL dL_law_365 ?_
  refine q_aload_n C 0 dL_law_366 rfl rfl ?_
  refine q_iload_n C 3 dL_law_367 rfl rfl ?_
  refine q_iconst C (v := 2) dL_law_368 (by decide) ?_
  refine q_iadd C dL_law_369 ?_
  refine q_sld C (q := j + 2) (nI_add j 2) (by omega) hL dL_law_370 ?_
  refine q_aload_n C 0 dL_law_371 rfl rfl ?_
  refine q_iload_n C 3 dL_law_372 rfl rfl ?_
  refine q_iconst C (v := 3) dL_law_373 (by decide) ?_
  refine q_iadd C dL_law_374 ?_
  refine q_sld C (q := j + 3) (nI_add j 3) (by omega) hL dL_law_375 ?_
  refine q_aload_n C 0 dL_law_376 rfl rfl ?_
  refine q_iload_n C 3 dL_law_377 rfl rfl ?_
  refine q_iconst C (v := 4) dL_law_378 (by decide) ?_
  refine q_iadd C dL_law_379 ?_
  refine q_sld C (q := j + 4) (nI_add j 4) (by omega) hL dL_law_380 ?_
  refine q_callVi C (As := [.int (xs (j + 1)), .int (xs (j + 2)), .int (xs (j + 3)), .int (xs (j + 4))]) cvl_33 k_0 rfl (Nat.le_of_ble_eq_true rfl) dL_law_381 (c_X6_plant l w (xs (j + 1)) (xs (j + 2)) (xs (j + 3)) (xs (j + 4)) S) (fun v381 => ?_)
  refine q_aload_n C 2 dL_law_384 rfl rfl ?_
  refine q_aload_n C 0 dL_law_385 rfl rfl ?_
  refine q_iload_n C 3 dL_law_386 rfl rfl ?_
  refine q_iconst C (v := 1) dL_law_387 (by decide) ?_
  refine q_iadd C dL_law_388 ?_
  refine q_sld C (q := j + 1) (nI_add j 1) (by omega) hL dL_law_389 ?_
  refine q_aload_n C 0 dL_law_390 rfl rfl ?_
  refine q_iload_n C 3 dL_law_391 rfl rfl ?_
  refine q_iconst C (v := 2) dL_law_392 (by decide) ?_
  refine q_iadd C dL_law_393 ?_
  refine q_sld C (q := j + 2) (nI_add j 2) (by omega) hL dL_law_394 ?_
  refine q_aload_n C 0 dL_law_395 rfl rfl ?_
  refine q_iload_n C 3 dL_law_396 rfl rfl ?_
  refine q_iconst C (v := 3) dL_law_397 (by decide) ?_
  refine q_iadd C dL_law_398 ?_
  refine q_sld C (q := j + 3) (nI_add j 3) (by omega) hL dL_law_399 ?_
  refine q_aload_n C 0 dL_law_400 rfl rfl ?_
  refine q_iload_n C 3 dL_law_401 rfl rfl ?_
  refine q_iconst C (v := 4) dL_law_402 (by decide) ?_
  refine q_iadd C dL_law_403 ?_
  refine q_sld C (q := j + 4) (nI_add j 4) (by omega) hL dL_law_404 ?_
  refine q_callVi C (As := [.int (xs (j + 1)), .int (xs (j + 2)), .int (xs (j + 3)), .int (xs (j + 4))]) cvl_37 k_108 rfl (Nat.le_of_ble_eq_true rfl) dL_law_405 (c_X7_plant l w (xs (j + 1)) (xs (j + 2)) (xs (j + 3)) (xs (j + 4)) v381.2) (fun v405 => ?_)
  refine q_icmp_eq C 1172 dL_law_408 (by decide) ?_ ?_
  · exact jq_next C hL ih hj v405.2
  · exact q_no
set_option maxRecDepth 100000 in
set_option maxHeartbeats 4000000 in
theorem law_case_5 {p : Program} {l : Launch} {e : Env} {s : State} {m : MethodId} {below : List Frame} {meth : Method} {c : Code} {b L : Nat} {xs : Nat → Int32} {w : Wd} {n j : Nat} (C : CL p s m meth c b L xs w) (hL : L ≤ 3072) (ih : JqHead p l e s m below meth c b w xs L n) (hj : j + 6 ≤ L) (S : St) : JQ p l e s m below meth c b w 413 [(0, .ref b), (1, .ref (w.2.1 + 0)), (2, .ref (w.2.1 + 108)), (3, .int (nI j))] [] S ((f_X6_pull (xs (j + 1)) (xs (j + 2)) S).bind fun v424 => ((f_X7_pull (xs (j + 1)) (xs (j + 2)) v424.2).bind fun v438 => (if v424.1 = v438.1 then (f_law n xs L (j + 6) v438.2) else (some false)))) := by
  refine q_aload_n C 1 dL_law_413 rfl rfl ?_
  refine q_aload_n C 0 dL_law_414 rfl rfl ?_
  refine q_iload_n C 3 dL_law_415 rfl rfl ?_
  refine q_iconst C (v := 1) dL_law_416 (by decide) ?_
  refine q_iadd C dL_law_417 ?_
  refine q_sld C (q := j + 1) (nI_add j 1) (by omega) hL dL_law_418 ?_
  refine q_aload_n C 0 dL_law_419 rfl rfl ?_
  refine q_iload_n C 3 dL_law_420 rfl rfl ?_
  refine q_iconst C (v := 2) dL_law_421 (by decide) ?_
  refine q_iadd C dL_law_422 ?_
  refine q_sld C (q := j + 2) (nI_add j 2) (by omega) hL dL_law_423 ?_
  refine q_callVi C (As := [.int (xs (j + 1)), .int (xs (j + 2))]) cvl_38 k_0 rfl (Nat.le_of_ble_eq_true rfl) dL_law_424 (c_X6_pull l w (xs (j + 1)) (xs (j + 2)) S) (fun v424 => ?_)
  refine q_aload_n C 2 dL_law_427 rfl rfl ?_
  refine q_aload_n C 0 dL_law_428 rfl rfl ?_
  refine q_iload_n C 3 dL_law_429 rfl rfl ?_
  refine q_iconst C (v := 1) dL_law_430 (by decide) ?_
  refine q_iadd C dL_law_431 ?_
  refine q_sld C (q := j + 1) (nI_add j 1) (by omega) hL dL_law_432 ?_
  refine q_aload_n C 0 dL_law_433 rfl rfl ?_
  refine q_iload_n C 3 dL_law_434 rfl rfl ?_
  refine q_iconst C (v := 2) dL_law_435 (by decide) ?_
  refine q_iadd C dL_law_436 ?_
  refine q_sld C (q := j + 2) (nI_add j 2) (by omega) hL dL_law_437 ?_
  refine q_callVi C (As := [.int (xs (j + 1)), .int (xs (j + 2))]) cvl_42 k_108 rfl (Nat.le_of_ble_eq_true rfl) dL_law_438 (c_X7_pull l w (xs (j + 1)) (xs (j + 2)) v424.2) (fun v438 => ?_)
  refine q_icmp_eq C 1172 dL_law_441 (by decide) ?_ ?_
  · exact jq_next C hL ih hj v438.2
  · exact q_no
set_option maxRecDepth 100000 in
set_option maxHeartbeats 4000000 in
theorem law_case_6 {p : Program} {l : Launch} {e : Env} {s : State} {m : MethodId} {below : List Frame} {meth : Method} {c : Code} {b L : Nat} {xs : Nat → Int32} {w : Wd} {n j : Nat} (C : CL p s m meth c b L xs w) (hL : L ≤ 3072) (ih : JqHead p l e s m below meth c b w xs L n) (hj : j + 6 ≤ L) (S : St) : JQ p l e s m below meth c b w 446 [(0, .ref b), (1, .ref (w.2.1 + 0)), (2, .ref (w.2.1 + 108)), (3, .int (nI j))] [] S ((f_X6_as (xs (j + 1)) (xs (j + 2)) S).bind fun v457 => ((f_X7_as (xs (j + 1)) (xs (j + 2)) v457.2).bind fun v471 => (if v457.1 = v471.1 then (f_law n xs L (j + 6) v471.2) else (some false)))) := by
  refine q_aload_n C 1 dL_law_446 rfl rfl ?_
  refine q_aload_n C 0 dL_law_447 rfl rfl ?_
  refine q_iload_n C 3 dL_law_448 rfl rfl ?_
  refine q_iconst C (v := 1) dL_law_449 (by decide) ?_
  refine q_iadd C dL_law_450 ?_
  refine q_sld C (q := j + 1) (nI_add j 1) (by omega) hL dL_law_451 ?_
  refine q_aload_n C 0 dL_law_452 rfl rfl ?_
  refine q_iload_n C 3 dL_law_453 rfl rfl ?_
  refine q_iconst C (v := 2) dL_law_454 (by decide) ?_
  refine q_iadd C dL_law_455 ?_
  refine q_sld C (q := j + 2) (nI_add j 2) (by omega) hL dL_law_456 ?_
  refine q_callVi C (As := [.int (xs (j + 1)), .int (xs (j + 2))]) cvl_43 k_0 rfl (Nat.le_of_ble_eq_true rfl) dL_law_457 (c_X6_as l w (xs (j + 1)) (xs (j + 2)) S) (fun v457 => ?_)
  refine q_aload_n C 2 dL_law_460 rfl rfl ?_
  refine q_aload_n C 0 dL_law_461 rfl rfl ?_
  refine q_iload_n C 3 dL_law_462 rfl rfl ?_
  refine q_iconst C (v := 1) dL_law_463 (by decide) ?_
  refine q_iadd C dL_law_464 ?_
  refine q_sld C (q := j + 1) (nI_add j 1) (by omega) hL dL_law_465 ?_
  refine q_aload_n C 0 dL_law_466 rfl rfl ?_
  refine q_iload_n C 3 dL_law_467 rfl rfl ?_
  refine q_iconst C (v := 2) dL_law_468 (by decide) ?_
  refine q_iadd C dL_law_469 ?_
  refine q_sld C (q := j + 2) (nI_add j 2) (by omega) hL dL_law_470 ?_
  refine q_callVi C (As := [.int (xs (j + 1)), .int (xs (j + 2))]) cvl_46 k_108 rfl (Nat.le_of_ble_eq_true rfl) dL_law_471 (c_X7_as l w (xs (j + 1)) (xs (j + 2)) v457.2) (fun v471 => ?_)
  refine q_icmp_eq C 1172 dL_law_474 (by decide) ?_ ?_
  · exact jq_next C hL ih hj v471.2
  · exact q_no
set_option maxRecDepth 100000 in
set_option maxHeartbeats 4000000 in
theorem law_case_7 {p : Program} {l : Launch} {e : Env} {s : State} {m : MethodId} {below : List Frame} {meth : Method} {c : Code} {b L : Nat} {xs : Nat → Int32} {w : Wd} {n j : Nat} (C : CL p s m meth c b L xs w) (hL : L ≤ 3072) (ih : JqHead p l e s m below meth c b w xs L n) (hj : j + 6 ≤ L) (S : St) : JQ p l e s m below meth c b w 479 [(0, .ref b), (1, .ref (w.2.1 + 0)), (2, .ref (w.2.1 + 108)), (3, .int (nI j))] [] S ((f_X6_of (xs (j + 1)) (xs (j + 2)) S).bind fun v490 => ((f_X7_of (xs (j + 1)) (xs (j + 2)) v490.2).bind fun v504 => (if v490.1 = v504.1 then (f_law n xs L (j + 6) v504.2) else (some false)))) := by
  refine q_aload_n C 1 dL_law_479 rfl rfl ?_
  refine q_aload_n C 0 dL_law_480 rfl rfl ?_
  refine q_iload_n C 3 dL_law_481 rfl rfl ?_
  refine q_iconst C (v := 1) dL_law_482 (by decide) ?_
  refine q_iadd C dL_law_483 ?_
  refine q_sld C (q := j + 1) (nI_add j 1) (by omega) hL dL_law_484 ?_
  refine q_aload_n C 0 dL_law_485 rfl rfl ?_
  refine q_iload_n C 3 dL_law_486 rfl rfl ?_
  refine q_iconst C (v := 2) dL_law_487 (by decide) ?_
  refine q_iadd C dL_law_488 ?_
  refine q_sld C (q := j + 2) (nI_add j 2) (by omega) hL dL_law_489 ?_
  refine q_callVi C (As := [.int (xs (j + 1)), .int (xs (j + 2))]) cvl_47 k_0 rfl (Nat.le_of_ble_eq_true rfl) dL_law_490 (c_X6_of l w (xs (j + 1)) (xs (j + 2)) S) (fun v490 => ?_)
  refine q_aload_n C 2 dL_law_493 rfl rfl ?_
  refine q_aload_n C 0 dL_law_494 rfl rfl ?_
  refine q_iload_n C 3 dL_law_495 rfl rfl ?_
  refine q_iconst C (v := 1) dL_law_496 (by decide) ?_
  refine q_iadd C dL_law_497 ?_
  refine q_sld C (q := j + 1) (nI_add j 1) (by omega) hL dL_law_498 ?_
  refine q_aload_n C 0 dL_law_499 rfl rfl ?_
  refine q_iload_n C 3 dL_law_500 rfl rfl ?_
  refine q_iconst C (v := 2) dL_law_501 (by decide) ?_
  refine q_iadd C dL_law_502 ?_
  refine q_sld C (q := j + 2) (nI_add j 2) (by omega) hL dL_law_503 ?_
  refine q_callVi C (As := [.int (xs (j + 1)), .int (xs (j + 2))]) cvl_50 k_108 rfl (Nat.le_of_ble_eq_true rfl) dL_law_504 (c_X7_of l w (xs (j + 1)) (xs (j + 2)) v490.2) (fun v504 => ?_)
  refine q_icmp_eq C 1172 dL_law_507 (by decide) ?_ ?_
  · exact jq_next C hL ih hj v504.2
  · exact q_no
set_option maxRecDepth 100000 in
set_option maxHeartbeats 4000000 in
theorem law_case_8 {p : Program} {l : Launch} {e : Env} {s : State} {m : MethodId} {below : List Frame} {meth : Method} {c : Code} {b L : Nat} {xs : Nat → Int32} {w : Wd} {n j : Nat} (C : CL p s m meth c b L xs w) (hL : L ≤ 3072) (ih : JqHead p l e s m below meth c b w xs L n) (hj : j + 6 ≤ L) (S : St) : JQ p l e s m below meth c b w 512 [(0, .ref b), (1, .ref (w.2.1 + 0)), (2, .ref (w.2.1 + 108)), (3, .int (nI j))] [] S ((f_X6_cut (xs (j + 1)) (xs (j + 2)) S).bind fun v523 => ((f_X7_cut (xs (j + 1)) (xs (j + 2)) v523.2).bind fun v537 => (if v523.1 = v537.1 then (f_law n xs L (j + 6) v537.2) else (some false)))) := by
  refine q_aload_n C 1 dL_law_512 rfl rfl ?_
  refine q_aload_n C 0 dL_law_513 rfl rfl ?_
  refine q_iload_n C 3 dL_law_514 rfl rfl ?_
  refine q_iconst C (v := 1) dL_law_515 (by decide) ?_
  refine q_iadd C dL_law_516 ?_
  refine q_sld C (q := j + 1) (nI_add j 1) (by omega) hL dL_law_517 ?_
  refine q_aload_n C 0 dL_law_518 rfl rfl ?_
  refine q_iload_n C 3 dL_law_519 rfl rfl ?_
  refine q_iconst C (v := 2) dL_law_520 (by decide) ?_
  refine q_iadd C dL_law_521 ?_
  refine q_sld C (q := j + 2) (nI_add j 2) (by omega) hL dL_law_522 ?_
  refine q_callVi C (As := [.int (xs (j + 1)), .int (xs (j + 2))]) cvl_51 k_0 rfl (Nat.le_of_ble_eq_true rfl) dL_law_523 (c_X6_cut l w (xs (j + 1)) (xs (j + 2)) S) (fun v523 => ?_)
  refine q_aload_n C 2 dL_law_526 rfl rfl ?_
  refine q_aload_n C 0 dL_law_527 rfl rfl ?_
  refine q_iload_n C 3 dL_law_528 rfl rfl ?_
  refine q_iconst C (v := 1) dL_law_529 (by decide) ?_
  refine q_iadd C dL_law_530 ?_
  refine q_sld C (q := j + 1) (nI_add j 1) (by omega) hL dL_law_531 ?_
  refine q_aload_n C 0 dL_law_532 rfl rfl ?_
  refine q_iload_n C 3 dL_law_533 rfl rfl ?_
  refine q_iconst C (v := 2) dL_law_534 (by decide) ?_
  refine q_iadd C dL_law_535 ?_
  refine q_sld C (q := j + 2) (nI_add j 2) (by omega) hL dL_law_536 ?_
  refine q_callVi C (As := [.int (xs (j + 1)), .int (xs (j + 2))]) cvl_54 k_108 rfl (Nat.le_of_ble_eq_true rfl) dL_law_537 (c_X7_cut l w (xs (j + 1)) (xs (j + 2)) v523.2) (fun v537 => ?_)
  refine q_icmp_eq C 1172 dL_law_540 (by decide) ?_ ?_
  · exact jq_next C hL ih hj v537.2
  · exact q_no
set_option maxRecDepth 100000 in
set_option maxHeartbeats 4000000 in
theorem law_case_9 {p : Program} {l : Launch} {e : Env} {s : State} {m : MethodId} {below : List Frame} {meth : Method} {c : Code} {b L : Nat} {xs : Nat → Int32} {w : Wd} {n j : Nat} (C : CL p s m meth c b L xs w) (hL : L ≤ 3072) (ih : JqHead p l e s m below meth c b w xs L n) (hj : j + 6 ≤ L) (S : St) : JQ p l e s m below meth c b w 545 [(0, .ref b), (1, .ref (w.2.1 + 0)), (2, .ref (w.2.1 + 108)), (3, .int (nI j))] [] S ((f_X6_sheet (xs (j + 1)) (xs (j + 2)) (xs (j + 3)) S).bind fun v561 => ((f_X7_sheet (xs (j + 1)) (xs (j + 2)) (xs (j + 3)) v561.2).bind fun v580 => (if v561.1 = v580.1 then (f_law n xs L (j + 6) v580.2) else (some false)))) := by
  refine q_aload_n C 1 dL_law_545 rfl rfl ?_
  refine q_aload_n C 0 dL_law_546 rfl rfl ?_
  refine q_iload_n C 3 dL_law_547 rfl rfl ?_
  refine q_iconst C (v := 1) dL_law_548 (by decide) ?_
  refine q_iadd C dL_law_549 ?_
  refine q_sld C (q := j + 1) (nI_add j 1) (by omega) hL dL_law_550 ?_
  refine q_aload_n C 0 dL_law_551 rfl rfl ?_
  refine q_iload_n C 3 dL_law_552 rfl rfl ?_
  refine q_iconst C (v := 2) dL_law_553 (by decide) ?_
  refine q_iadd C dL_law_554 ?_
  refine q_sld C (q := j + 2) (nI_add j 2) (by omega) hL dL_law_555 ?_
  refine q_aload_n C 0 dL_law_556 rfl rfl ?_
  refine q_iload_n C 3 dL_law_557 rfl rfl ?_
  refine q_iconst C (v := 3) dL_law_558 (by decide) ?_
  refine q_iadd C dL_law_559 ?_
  refine q_sld C (q := j + 3) (nI_add j 3) (by omega) hL dL_law_560 ?_
  refine q_callVi C (As := [.int (xs (j + 1)), .int (xs (j + 2)), .int (xs (j + 3))]) cvl_55 k_0 rfl (Nat.le_of_ble_eq_true rfl) dL_law_561 (c_X6_sheet l w (xs (j + 1)) (xs (j + 2)) (xs (j + 3)) S) (fun v561 => ?_)
  refine q_aload_n C 2 dL_law_564 rfl rfl ?_
  refine q_aload_n C 0 dL_law_565 rfl rfl ?_
  refine q_iload_n C 3 dL_law_566 rfl rfl ?_
  refine q_iconst C (v := 1) dL_law_567 (by decide) ?_
  refine q_iadd C dL_law_568 ?_
  refine q_sld C (q := j + 1) (nI_add j 1) (by omega) hL dL_law_569 ?_
  refine q_aload_n C 0 dL_law_570 rfl rfl ?_
  refine q_iload_n C 3 dL_law_571 rfl rfl ?_
  refine q_iconst C (v := 2) dL_law_572 (by decide) ?_
  refine q_iadd C dL_law_573 ?_
  refine q_sld C (q := j + 2) (nI_add j 2) (by omega) hL dL_law_574 ?_
  refine q_aload_n C 0 dL_law_575 rfl rfl ?_
  refine q_iload_n C 3 dL_law_576 rfl rfl ?_
  refine q_iconst C (v := 3) dL_law_577 (by decide) ?_
  refine q_iadd C dL_law_578 ?_
  refine q_sld C (q := j + 3) (nI_add j 3) (by omega) hL dL_law_579 ?_
  refine q_callVi C (As := [.int (xs (j + 1)), .int (xs (j + 2)), .int (xs (j + 3))]) cvl_58 k_108 rfl (Nat.le_of_ble_eq_true rfl) dL_law_580 (c_X7_sheet l w (xs (j + 1)) (xs (j + 2)) (xs (j + 3)) v561.2) (fun v580 => ?_)
  refine q_icmp_eq C 1172 dL_law_583 (by decide) ?_ ?_
  · exact jq_next C hL ih hj v580.2
  · exact q_no
set_option maxRecDepth 100000 in
set_option maxHeartbeats 4000000 in
theorem law_case_10 {p : Program} {l : Launch} {e : Env} {s : State} {m : MethodId} {below : List Frame} {meth : Method} {c : Code} {b L : Nat} {xs : Nat → Int32} {w : Wd} {n j : Nat} (C : CL p s m meth c b L xs w) (hL : L ≤ 3072) (ih : JqHead p l e s m below meth c b w xs L n) (hj : j + 6 ≤ L) (S : St) : JQ p l e s m below meth c b w 588 [(0, .ref b), (1, .ref (w.2.1 + 0)), (2, .ref (w.2.1 + 108)), (3, .int (nI j))] [] S ((f_X6_put (xs (j + 1)) (xs (j + 2)) (xs (j + 3)) S).bind fun v604 => ((f_X7_put (xs (j + 1)) (xs (j + 2)) (xs (j + 3)) v604.2).bind fun v623 => (if v604.1 = v623.1 then (f_law n xs L (j + 6) v623.2) else (some false)))) := by
  refine q_aload_n C 1 dL_law_588 rfl rfl ?_
  refine q_aload_n C 0 dL_law_589 rfl rfl ?_
  refine q_iload_n C 3 dL_law_590 rfl rfl ?_
  refine q_iconst C (v := 1) dL_law_591 (by decide) ?_
  refine q_iadd C dL_law_592 ?_
  refine q_sld C (q := j + 1) (nI_add j 1) (by omega) hL dL_law_593 ?_
  refine q_aload_n C 0 dL_law_594 rfl rfl ?_
  refine q_iload_n C 3 dL_law_595 rfl rfl ?_
  refine q_iconst C (v := 2) dL_law_596 (by decide) ?_
  refine q_iadd C dL_law_597 ?_
  refine q_sld C (q := j + 2) (nI_add j 2) (by omega) hL dL_law_598 ?_
  refine q_aload_n C 0 dL_law_599 rfl rfl ?_
  refine q_iload_n C 3 dL_law_600 rfl rfl ?_
  refine q_iconst C (v := 3) dL_law_601 (by decide) ?_
  refine q_iadd C dL_law_602 ?_
  refine q_sld C (q := j + 3) (nI_add j 3) (by omega) hL dL_law_603 ?_
  refine q_callVi C (As := [.int (xs (j + 1)), .int (xs (j + 2)), .int (xs (j + 3))]) cvl_59 k_0 rfl (Nat.le_of_ble_eq_true rfl) dL_law_604 (c_X6_put l w (xs (j + 1)) (xs (j + 2)) (xs (j + 3)) S) (fun v604 => ?_)
  refine q_aload_n C 2 dL_law_607 rfl rfl ?_
  refine q_aload_n C 0 dL_law_608 rfl rfl ?_
  refine q_iload_n C 3 dL_law_609 rfl rfl ?_
  refine q_iconst C (v := 1) dL_law_610 (by decide) ?_
  refine q_iadd C dL_law_611 ?_
  refine q_sld C (q := j + 1) (nI_add j 1) (by omega) hL dL_law_612 ?_
  refine q_aload_n C 0 dL_law_613 rfl rfl ?_
  refine q_iload_n C 3 dL_law_614 rfl rfl ?_
  refine q_iconst C (v := 2) dL_law_615 (by decide) ?_
  refine q_iadd C dL_law_616 ?_
  refine q_sld C (q := j + 2) (nI_add j 2) (by omega) hL dL_law_617 ?_
  refine q_aload_n C 0 dL_law_618 rfl rfl ?_
  refine q_iload_n C 3 dL_law_619 rfl rfl ?_
  refine q_iconst C (v := 3) dL_law_620 (by decide) ?_
  refine q_iadd C dL_law_621 ?_
  refine q_sld C (q := j + 3) (nI_add j 3) (by omega) hL dL_law_622 ?_
  refine q_callVi C (As := [.int (xs (j + 1)), .int (xs (j + 2)), .int (xs (j + 3))]) cvl_62 k_108 rfl (Nat.le_of_ble_eq_true rfl) dL_law_623 (c_X7_put l w (xs (j + 1)) (xs (j + 2)) (xs (j + 3)) v604.2) (fun v623 => ?_)
  refine q_icmp_eq C 1172 dL_law_626 (by decide) ?_ ?_
  · exact jq_next C hL ih hj v623.2
  · exact q_no
set_option maxRecDepth 100000 in
set_option maxHeartbeats 4000000 in
theorem law_case_11 {p : Program} {l : Launch} {e : Env} {s : State} {m : MethodId} {below : List Frame} {meth : Method} {c : Code} {b L : Nat} {xs : Nat → Int32} {w : Wd} {n j : Nat} (C : CL p s m meth c b L xs w) (hL : L ≤ 3072) (ih : JqHead p l e s m below meth c b w xs L n) (hj : j + 6 ≤ L) (S : St) : JQ p l e s m below meth c b w 631 [(0, .ref b), (1, .ref (w.2.1 + 0)), (2, .ref (w.2.1 + 108)), (3, .int (nI j))] [] S ((f_X6_copy (xs (j + 1)) (xs (j + 2)) (xs (j + 3)) (xs (j + 4)) (xs (j + 5)) S).bind fun v657 => ((f_X7_copy (xs (j + 1)) (xs (j + 2)) (xs (j + 3)) (xs (j + 4)) (xs (j + 5)) v657.2).bind fun v686 => (if v657.1 = v686.1 then (f_law n xs L (j + 6) v686.2) else (some false)))) := by
  refine q_aload_n C 1 dL_law_631 rfl rfl ?_
  refine q_aload_n C 0 dL_law_632 rfl rfl ?_
  refine q_iload_n C 3 dL_law_633 rfl rfl ?_
  refine q_iconst C (v := 1) dL_law_634 (by decide) ?_
  refine q_iadd C dL_law_635 ?_
  refine q_sld C (q := j + 1) (nI_add j 1) (by omega) hL dL_law_636 ?_
  refine q_aload_n C 0 dL_law_637 rfl rfl ?_
  refine q_iload_n C 3 dL_law_638 rfl rfl ?_
  refine q_iconst C (v := 2) dL_law_639 (by decide) ?_
  refine q_iadd C dL_law_640 ?_
  refine q_sld C (q := j + 2) (nI_add j 2) (by omega) hL dL_law_641 ?_
  refine q_aload_n C 0 dL_law_642 rfl rfl ?_
  refine q_iload_n C 3 dL_law_643 rfl rfl ?_
  refine q_iconst C (v := 3) dL_law_644 (by decide) ?_
  refine q_iadd C dL_law_645 ?_
  refine q_sld C (q := j + 3) (nI_add j 3) (by omega) hL dL_law_646 ?_
  refine q_aload_n C 0 dL_law_647 rfl rfl ?_
  refine q_iload_n C 3 dL_law_648 rfl rfl ?_
  refine q_iconst C (v := 4) dL_law_649 (by decide) ?_
  refine q_iadd C dL_law_650 ?_
  refine q_sld C (q := j + 4) (nI_add j 4) (by omega) hL dL_law_651 ?_
  refine q_aload_n C 0 dL_law_652 rfl rfl ?_
  refine q_iload_n C 3 dL_law_653 rfl rfl ?_
  refine q_iconst C (v := 5) dL_law_654 (by decide) ?_
  refine q_iadd C dL_law_655 ?_
  refine q_sld C (q := j + 5) (nI_add j 5) (by omega) hL dL_law_656 ?_
  refine q_callVi C (As := [.int (xs (j + 1)), .int (xs (j + 2)), .int (xs (j + 3)), .int (xs (j + 4)), .int (xs (j + 5))]) cvl_63 k_0 rfl (Nat.le_of_ble_eq_true rfl) dL_law_657 (c_X6_copy l w (xs (j + 1)) (xs (j + 2)) (xs (j + 3)) (xs (j + 4)) (xs (j + 5)) S) (fun v657 => ?_)
  refine q_aload_n C 2 dL_law_660 rfl rfl ?_
  refine q_aload_n C 0 dL_law_661 rfl rfl ?_
  refine q_iload_n C 3 dL_law_662 rfl rfl ?_
  refine q_iconst C (v := 1) dL_law_663 (by decide) ?_
  refine q_iadd C dL_law_664 ?_
  refine q_sld C (q := j + 1) (nI_add j 1) (by omega) hL dL_law_665 ?_
  refine q_aload_n C 0 dL_law_666 rfl rfl ?_
  refine q_iload_n C 3 dL_law_667 rfl rfl ?_
  refine q_iconst C (v := 2) dL_law_668 (by decide) ?_
  refine q_iadd C dL_law_669 ?_
  refine q_sld C (q := j + 2) (nI_add j 2) (by omega) hL dL_law_670 ?_
  refine q_aload_n C 0 dL_law_671 rfl rfl ?_
  refine q_iload_n C 3 dL_law_672 rfl rfl ?_
  refine q_iconst C (v := 3) dL_law_673 (by decide) ?_
  refine q_iadd C dL_law_674 ?_
  refine q_sld C (q := j + 3) (nI_add j 3) (by omega) hL dL_law_675 ?_
  refine q_aload_n C 0 dL_law_676 rfl rfl ?_
  refine q_iload_n C 3 dL_law_677 rfl rfl ?_
  refine q_iconst C (v := 4) dL_law_678 (by decide) ?_
  refine q_iadd C dL_law_679 ?_
  refine q_sld C (q := j + 4) (nI_add j 4) (by omega) hL dL_law_680 ?_
  refine q_aload_n C 0 dL_law_681 rfl rfl ?_
  refine q_iload_n C 3 dL_law_682 rfl rfl ?_
  refine q_iconst C (v := 5) dL_law_683 (by decide) ?_
  refine q_iadd C dL_law_684 ?_
  refine q_sld C (q := j + 5) (nI_add j 5) (by omega) hL dL_law_685 ?_
  refine q_callVi C (As := [.int (xs (j + 1)), .int (xs (j + 2)), .int (xs (j + 3)), .int (xs (j + 4)), .int (xs (j + 5))]) cvl_66 k_108 rfl (Nat.le_of_ble_eq_true rfl) dL_law_686 (c_X7_copy l w (xs (j + 1)) (xs (j + 2)) (xs (j + 3)) (xs (j + 4)) (xs (j + 5)) v657.2) (fun v686 => ?_)
  refine q_icmp_eq C 1172 dL_law_689 (by decide) ?_ ?_
  · exact jq_next C hL ih hj v686.2
  · exact q_no
set_option maxRecDepth 100000 in
set_option maxHeartbeats 4000000 in
theorem law_case_12 {p : Program} {l : Launch} {e : Env} {s : State} {m : MethodId} {below : List Frame} {meth : Method} {c : Code} {b L : Nat} {xs : Nat → Int32} {w : Wd} {n j : Nat} (C : CL p s m meth c b L xs w) (hL : L ≤ 3072) (ih : JqHead p l e s m below meth c b w xs L n) (hj : j + 6 ≤ L) (S : St) : JQ p l e s m below meth c b w 694 [(0, .ref b), (1, .ref (w.2.1 + 0)), (2, .ref (w.2.1 + 108)), (3, .int (nI j))] [] S ((some (f_X6_name (xs (j + 1)) S)).bind fun v700 => ((f_X7_name (xs (j + 1)) v700.2).bind fun v709 => (if v700.1 = v709.1 then (f_law n xs L (j + 6) v709.2) else (some false)))) := by
  refine q_aload_n C 1 dL_law_694 rfl rfl ?_
  refine q_aload_n C 0 dL_law_695 rfl rfl ?_
  refine q_iload_n C 3 dL_law_696 rfl rfl ?_
  refine q_iconst C (v := 1) dL_law_697 (by decide) ?_
  refine q_iadd C dL_law_698 ?_
  refine q_sld C (q := j + 1) (nI_add j 1) (by omega) hL dL_law_699 ?_
  refine q_callVi C (As := [.int (xs (j + 1))]) cvl_67 k_0 rfl (Nat.le_of_ble_eq_true rfl) dL_law_700 (fun v h => by cases h; exact c_X6_name l w (xs (j + 1)) S) (fun v700 => ?_)
  refine q_aload_n C 2 dL_law_703 rfl rfl ?_
  refine q_aload_n C 0 dL_law_704 rfl rfl ?_
  refine q_iload_n C 3 dL_law_705 rfl rfl ?_
  refine q_iconst C (v := 1) dL_law_706 (by decide) ?_
  refine q_iadd C dL_law_707 ?_
  refine q_sld C (q := j + 1) (nI_add j 1) (by omega) hL dL_law_708 ?_
  refine q_callVi C (As := [.int (xs (j + 1))]) cvl_70 k_108 rfl (Nat.le_of_ble_eq_true rfl) dL_law_709 (c_X7_name l w (xs (j + 1)) v700.2) (fun v709 => ?_)
  refine q_icmp_eq C 1172 dL_law_712 (by decide) ?_ ?_
  · exact jq_next C hL ih hj v709.2
  · exact q_no
set_option maxRecDepth 100000 in
set_option maxHeartbeats 4000000 in
theorem law_case_13 {p : Program} {l : Launch} {e : Env} {s : State} {m : MethodId} {below : List Frame} {meth : Method} {c : Code} {b L : Nat} {xs : Nat → Int32} {w : Wd} {n j : Nat} (C : CL p s m meth c b L xs w) (hL : L ≤ 3072) (ih : JqHead p l e s m below meth c b w xs L n) (hj : j + 6 ≤ L) (S : St) : JQ p l e s m below meth c b w 717 [(0, .ref b), (1, .ref (w.2.1 + 0)), (2, .ref (w.2.1 + 108)), (3, .int (nI j))] [] S ((f_X6_warmth (xs (j + 1)) S).bind fun v723 => ((f_X7_warmth (xs (j + 1)) v723.2).bind fun v732 => (if v723.1 = v732.1 then (f_law n xs L (j + 6) v732.2) else (some false)))) := by
  refine q_aload_n C 1 dL_law_717 rfl rfl ?_
  refine q_aload_n C 0 dL_law_718 rfl rfl ?_
  refine q_iload_n C 3 dL_law_719 rfl rfl ?_
  refine q_iconst C (v := 1) dL_law_720 (by decide) ?_
  refine q_iadd C dL_law_721 ?_
  refine q_sld C (q := j + 1) (nI_add j 1) (by omega) hL dL_law_722 ?_
  refine q_callVi C (As := [.int (xs (j + 1))]) cvl_71 k_0 rfl (Nat.le_of_ble_eq_true rfl) dL_law_723 (c_X6_warmth l w (xs (j + 1)) S) (fun v723 => ?_)
  refine q_aload_n C 2 dL_law_726 rfl rfl ?_
  refine q_aload_n C 0 dL_law_727 rfl rfl ?_
  refine q_iload_n C 3 dL_law_728 rfl rfl ?_
  refine q_iconst C (v := 1) dL_law_729 (by decide) ?_
  refine q_iadd C dL_law_730 ?_
  refine q_sld C (q := j + 1) (nI_add j 1) (by omega) hL dL_law_731 ?_
  refine q_callVi C (As := [.int (xs (j + 1))]) cvl_74 k_108 rfl (Nat.le_of_ble_eq_true rfl) dL_law_732 (c_X7_warmth l w (xs (j + 1)) v723.2) (fun v732 => ?_)
  refine q_icmp_eq C 1172 dL_law_735 (by decide) ?_ ?_
  · exact jq_next C hL ih hj v732.2
  · exact q_no
set_option maxRecDepth 100000 in
set_option maxHeartbeats 4000000 in
theorem law_case_14 {p : Program} {l : Launch} {e : Env} {s : State} {m : MethodId} {below : List Frame} {meth : Method} {c : Code} {b L : Nat} {xs : Nat → Int32} {w : Wd} {n j : Nat} (C : CL p s m meth c b L xs w) (hL : L ≤ 3072) (ih : JqHead p l e s m below meth c b w xs L n) (hj : j + 6 ≤ L) (S : St) : JQ p l e s m below meth c b w 740 [(0, .ref b), (1, .ref (w.2.1 + 0)), (2, .ref (w.2.1 + 108)), (3, .int (nI j))] [] S ((f_X6_sum (xs (j + 1)) S).bind fun v746 => ((f_X7_sum (xs (j + 1)) v746.2).bind fun v755 => (if v746.1 = v755.1 then (f_law n xs L (j + 6) v755.2) else (some false)))) := by
  refine q_aload_n C 1 dL_law_740 rfl rfl ?_
  refine q_aload_n C 0 dL_law_741 rfl rfl ?_
  refine q_iload_n C 3 dL_law_742 rfl rfl ?_
  refine q_iconst C (v := 1) dL_law_743 (by decide) ?_
  refine q_iadd C dL_law_744 ?_
  refine q_sld C (q := j + 1) (nI_add j 1) (by omega) hL dL_law_745 ?_
  refine q_callVi C (As := [.int (xs (j + 1))]) cvl_75 k_0 rfl (Nat.le_of_ble_eq_true rfl) dL_law_746 (c_X6_sum l w (xs (j + 1)) S) (fun v746 => ?_)
  refine q_aload_n C 2 dL_law_749 rfl rfl ?_
  refine q_aload_n C 0 dL_law_750 rfl rfl ?_
  refine q_iload_n C 3 dL_law_751 rfl rfl ?_
  refine q_iconst C (v := 1) dL_law_752 (by decide) ?_
  refine q_iadd C dL_law_753 ?_
  refine q_sld C (q := j + 1) (nI_add j 1) (by omega) hL dL_law_754 ?_
  refine q_callVi C (As := [.int (xs (j + 1))]) cvl_78 k_108 rfl (Nat.le_of_ble_eq_true rfl) dL_law_755 (c_X7_sum l w (xs (j + 1)) v746.2) (fun v755 => ?_)
  refine q_icmp_eq C 1172 dL_law_758 (by decide) ?_ ?_
  · exact jq_next C hL ih hj v755.2
  · exact q_no
set_option maxRecDepth 100000 in
set_option maxHeartbeats 4000000 in
theorem law_case_15 {p : Program} {l : Launch} {e : Env} {s : State} {m : MethodId} {below : List Frame} {meth : Method} {c : Code} {b L : Nat} {xs : Nat → Int32} {w : Wd} {n j : Nat} (C : CL p s m meth c b L xs w) (hL : L ≤ 3072) (ih : JqHead p l e s m below meth c b w xs L n) (hj : j + 6 ≤ L) (S : St) : JQ p l e s m below meth c b w 763 [(0, .ref b), (1, .ref (w.2.1 + 0)), (2, .ref (w.2.1 + 108)), (3, .int (nI j))] [] S ((f_X6_blooms (xs (j + 1)) S).bind fun v769 => ((f_X7_blooms (xs (j + 1)) v769.2).bind fun v778 => (if v769.1 = v778.1 then (f_law n xs L (j + 6) v778.2) else (some false)))) := by
  refine q_aload_n C 1 dL_law_763 rfl rfl ?_
  refine q_aload_n C 0 dL_law_764 rfl rfl ?_
  refine q_iload_n C 3 dL_law_765 rfl rfl ?_
  refine q_iconst C (v := 1) dL_law_766 (by decide) ?_
  refine q_iadd C dL_law_767 ?_
  refine q_sld C (q := j + 1) (nI_add j 1) (by omega) hL dL_law_768 ?_
  refine q_callVi C (As := [.int (xs (j + 1))]) cvl_79 k_0 rfl (Nat.le_of_ble_eq_true rfl) dL_law_769 (c_X6_blooms l w (xs (j + 1)) S) (fun v769 => ?_)
  refine q_aload_n C 2 dL_law_772 rfl rfl ?_
  refine q_aload_n C 0 dL_law_773 rfl rfl ?_
  refine q_iload_n C 3 dL_law_774 rfl rfl ?_
  refine q_iconst C (v := 1) dL_law_775 (by decide) ?_
  refine q_iadd C dL_law_776 ?_
  refine q_sld C (q := j + 1) (nI_add j 1) (by omega) hL dL_law_777 ?_
  refine q_callVi C (As := [.int (xs (j + 1))]) cvl_82 k_108 rfl (Nat.le_of_ble_eq_true rfl) dL_law_778 (c_X7_blooms l w (xs (j + 1)) v769.2) (fun v778 => ?_)
  refine q_icmp_eq C 1172 dL_law_781 (by decide) ?_ ?_
  · exact jq_next C hL ih hj v778.2
  · exact q_no
set_option maxRecDepth 100000 in
set_option maxHeartbeats 4000000 in
theorem law_case_16 {p : Program} {l : Launch} {e : Env} {s : State} {m : MethodId} {below : List Frame} {meth : Method} {c : Code} {b L : Nat} {xs : Nat → Int32} {w : Wd} {n j : Nat} (C : CL p s m meth c b L xs w) (hL : L ≤ 3072) (ih : JqHead p l e s m below meth c b w xs L n) (hj : j + 6 ≤ L) (S : St) : JQ p l e s m below meth c b w 786 [(0, .ref b), (1, .ref (w.2.1 + 0)), (2, .ref (w.2.1 + 108)), (3, .int (nI j))] [] S ((f_X6_frost (xs (j + 1)) (xs (j + 2)) (xs (j + 3)) S).bind fun v802 => ((f_X7_frost (xs (j + 1)) (xs (j + 2)) (xs (j + 3)) v802.2).bind fun v821 => (if v802.1 = v821.1 then (f_law n xs L (j + 6) v821.2) else (some false)))) := by
  refine q_aload_n C 1 dL_law_786 rfl rfl ?_
  refine q_aload_n C 0 dL_law_787 rfl rfl ?_
  refine q_iload_n C 3 dL_law_788 rfl rfl ?_
  refine q_iconst C (v := 1) dL_law_789 (by decide) ?_
  refine q_iadd C dL_law_790 ?_
  refine q_sld C (q := j + 1) (nI_add j 1) (by omega) hL dL_law_791 ?_
  refine q_aload_n C 0 dL_law_792 rfl rfl ?_
  refine q_iload_n C 3 dL_law_793 rfl rfl ?_
  refine q_iconst C (v := 2) dL_law_794 (by decide) ?_
  refine q_iadd C dL_law_795 ?_
  refine q_sld C (q := j + 2) (nI_add j 2) (by omega) hL dL_law_796 ?_
  refine q_aload_n C 0 dL_law_797 rfl rfl ?_
  refine q_iload_n C 3 dL_law_798 rfl rfl ?_
  refine q_iconst C (v := 3) dL_law_799 (by decide) ?_
  refine q_iadd C dL_law_800 ?_
  refine q_sld C (q := j + 3) (nI_add j 3) (by omega) hL dL_law_801 ?_
  refine q_callVi C (As := [.int (xs (j + 1)), .int (xs (j + 2)), .int (xs (j + 3))]) cvl_83 k_0 rfl (Nat.le_of_ble_eq_true rfl) dL_law_802 (c_X6_frost l w (xs (j + 1)) (xs (j + 2)) (xs (j + 3)) S) (fun v802 => ?_)
  refine q_aload_n C 2 dL_law_805 rfl rfl ?_
  refine q_aload_n C 0 dL_law_806 rfl rfl ?_
  refine q_iload_n C 3 dL_law_807 rfl rfl ?_
  refine q_iconst C (v := 1) dL_law_808 (by decide) ?_
  refine q_iadd C dL_law_809 ?_
  refine q_sld C (q := j + 1) (nI_add j 1) (by omega) hL dL_law_810 ?_
  refine q_aload_n C 0 dL_law_811 rfl rfl ?_
  refine q_iload_n C 3 dL_law_812 rfl rfl ?_
  refine q_iconst C (v := 2) dL_law_813 (by decide) ?_
  refine q_iadd C dL_law_814 ?_
  refine q_sld C (q := j + 2) (nI_add j 2) (by omega) hL dL_law_815 ?_
  refine q_aload_n C 0 dL_law_816 rfl rfl ?_
  refine q_iload_n C 3 dL_law_817 rfl rfl ?_
  refine q_iconst C (v := 3) dL_law_818 (by decide) ?_
  refine q_iadd C dL_law_819 ?_
  refine q_sld C (q := j + 3) (nI_add j 3) (by omega) hL dL_law_820 ?_
  refine q_callVi C (As := [.int (xs (j + 1)), .int (xs (j + 2)), .int (xs (j + 3))]) cvl_86 k_108 rfl (Nat.le_of_ble_eq_true rfl) dL_law_821 (c_X7_frost l w (xs (j + 1)) (xs (j + 2)) (xs (j + 3)) v802.2) (fun v821 => ?_)
  refine q_icmp_eq C 1172 dL_law_824 (by decide) ?_ ?_
  · exact jq_next C hL ih hj v821.2
  · exact q_no
set_option maxRecDepth 100000 in
set_option maxHeartbeats 4000000 in
theorem law_case_17 {p : Program} {l : Launch} {e : Env} {s : State} {m : MethodId} {below : List Frame} {meth : Method} {c : Code} {b L : Nat} {xs : Nat → Int32} {w : Wd} {n j : Nat} (C : CL p s m meth c b L xs w) (hL : L ≤ 3072) (ih : JqHead p l e s m below meth c b w xs L n) (hj : j + 6 ≤ L) (S : St) : JQ p l e s m below meth c b w 829 [(0, .ref b), (1, .ref (w.2.1 + 0)), (2, .ref (w.2.1 + 108)), (3, .int (nI j))] [] S ((f_X6_partners (xs (j + 1)) (xs (j + 2)) (xs (j + 3)) S).bind fun v845 => ((f_X7_partners (xs (j + 1)) (xs (j + 2)) (xs (j + 3)) v845.2).bind fun v864 => (if v845.1 = v864.1 then (f_law n xs L (j + 6) v864.2) else (some false)))) := by
  refine q_aload_n C 1 dL_law_829 rfl rfl ?_
  refine q_aload_n C 0 dL_law_830 rfl rfl ?_
  refine q_iload_n C 3 dL_law_831 rfl rfl ?_
  refine q_iconst C (v := 1) dL_law_832 (by decide) ?_
  refine q_iadd C dL_law_833 ?_
  refine q_sld C (q := j + 1) (nI_add j 1) (by omega) hL dL_law_834 ?_
  refine q_aload_n C 0 dL_law_835 rfl rfl ?_
  refine q_iload_n C 3 dL_law_836 rfl rfl ?_
  refine q_iconst C (v := 2) dL_law_837 (by decide) ?_
  refine q_iadd C dL_law_838 ?_
  refine q_sld C (q := j + 2) (nI_add j 2) (by omega) hL dL_law_839 ?_
  refine q_aload_n C 0 dL_law_840 rfl rfl ?_
  refine q_iload_n C 3 dL_law_841 rfl rfl ?_
  refine q_iconst C (v := 3) dL_law_842 (by decide) ?_
  refine q_iadd C dL_law_843 ?_
  refine q_sld C (q := j + 3) (nI_add j 3) (by omega) hL dL_law_844 ?_
  refine q_callVi C (As := [.int (xs (j + 1)), .int (xs (j + 2)), .int (xs (j + 3))]) cvl_87 k_0 rfl (Nat.le_of_ble_eq_true rfl) dL_law_845 (c_X6_partners l w (xs (j + 1)) (xs (j + 2)) (xs (j + 3)) S) (fun v845 => ?_)
  refine q_aload_n C 2 dL_law_848 rfl rfl ?_
  refine q_aload_n C 0 dL_law_849 rfl rfl ?_
  refine q_iload_n C 3 dL_law_850 rfl rfl ?_
  refine q_iconst C (v := 1) dL_law_851 (by decide) ?_
  refine q_iadd C dL_law_852 ?_
  refine q_sld C (q := j + 1) (nI_add j 1) (by omega) hL dL_law_853 ?_
  refine q_aload_n C 0 dL_law_854 rfl rfl ?_
  refine q_iload_n C 3 dL_law_855 rfl rfl ?_
  refine q_iconst C (v := 2) dL_law_856 (by decide) ?_
  refine q_iadd C dL_law_857 ?_
  refine q_sld C (q := j + 2) (nI_add j 2) (by omega) hL dL_law_858 ?_
  refine q_aload_n C 0 dL_law_859 rfl rfl ?_
  refine q_iload_n C 3 dL_law_860 rfl rfl ?_
  refine q_iconst C (v := 3) dL_law_861 (by decide) ?_
  refine q_iadd C dL_law_862 ?_
  refine q_sld C (q := j + 3) (nI_add j 3) (by omega) hL dL_law_863 ?_
  refine q_callVi C (As := [.int (xs (j + 1)), .int (xs (j + 2)), .int (xs (j + 3))]) cvl_90 k_108 rfl (Nat.le_of_ble_eq_true rfl) dL_law_864 (c_X7_partners l w (xs (j + 1)) (xs (j + 2)) (xs (j + 3)) v845.2) (fun v864 => ?_)
  refine q_icmp_eq C 1172 dL_law_867 (by decide) ?_ ?_
  · exact jq_next C hL ih hj v864.2
  · exact q_no
set_option maxRecDepth 100000 in
set_option maxHeartbeats 4000000 in
theorem law_case_18 {p : Program} {l : Launch} {e : Env} {s : State} {m : MethodId} {below : List Frame} {meth : Method} {c : Code} {b L : Nat} {xs : Nat → Int32} {w : Wd} {n j : Nat} (C : CL p s m meth c b L xs w) (hL : L ≤ 3072) (ih : JqHead p l e s m below meth c b w xs L n) (hj : j + 6 ≤ L) (S : St) : JQ p l e s m below meth c b w 872 [(0, .ref b), (1, .ref (w.2.1 + 0)), (2, .ref (w.2.1 + 108)), (3, .int (nI j))] [] S ((f_X6_go (xs (j + 1)) S).bind fun v878 => ((f_X7_go (xs (j + 1)) v878.2).bind fun v887 => (if v878.1 = v887.1 then (f_law n xs L (j + 6) v887.2) else (some false)))) := by
  refine q_aload_n C 1 dL_law_872 rfl rfl ?_
  refine q_aload_n C 0 dL_law_873 rfl rfl ?_
  refine q_iload_n C 3 dL_law_874 rfl rfl ?_
  refine q_iconst C (v := 1) dL_law_875 (by decide) ?_
  refine q_iadd C dL_law_876 ?_
  refine q_sld C (q := j + 1) (nI_add j 1) (by omega) hL dL_law_877 ?_
  refine q_callVi C (As := [.int (xs (j + 1))]) cvl_91 k_0 rfl (Nat.le_of_ble_eq_true rfl) dL_law_878 (c_X6_go l w (xs (j + 1)) S) (fun v878 => ?_)
  refine q_aload_n C 2 dL_law_881 rfl rfl ?_
  refine q_aload_n C 0 dL_law_882 rfl rfl ?_
  refine q_iload_n C 3 dL_law_883 rfl rfl ?_
  refine q_iconst C (v := 1) dL_law_884 (by decide) ?_
  refine q_iadd C dL_law_885 ?_
  refine q_sld C (q := j + 1) (nI_add j 1) (by omega) hL dL_law_886 ?_
  refine q_callVi C (As := [.int (xs (j + 1))]) cvl_94 k_108 rfl (Nat.le_of_ble_eq_true rfl) dL_law_887 (c_X7_go l w (xs (j + 1)) v878.2) (fun v887 => ?_)
  refine q_icmp_eq C 1172 dL_law_890 (by decide) ?_ ?_
  · exact jq_next C hL ih hj v887.2
  · exact q_no
set_option maxRecDepth 100000 in
set_option maxHeartbeats 4000000 in
theorem law_case_19 {p : Program} {l : Launch} {e : Env} {s : State} {m : MethodId} {below : List Frame} {meth : Method} {c : Code} {b L : Nat} {xs : Nat → Int32} {w : Wd} {n j : Nat} (C : CL p s m meth c b L xs w) (hL : L ≤ 3072) (ih : JqHead p l e s m below meth c b w xs L n) (hj : j + 6 ≤ L) (S : St) : JQ p l e s m below meth c b w 895 [(0, .ref b), (1, .ref (w.2.1 + 0)), (2, .ref (w.2.1 + 108)), (3, .int (nI j))] [] S ((f_X6_fruits (xs (j + 1)) (xs (j + 2)) S).bind fun v906 => ((f_X7_fruits (xs (j + 1)) (xs (j + 2)) v906.2).bind fun v920 => (if v906.1 = v920.1 then (f_law n xs L (j + 6) v920.2) else (some false)))) := by
  refine q_aload_n C 1 dL_law_895 rfl rfl ?_
  refine q_aload_n C 0 dL_law_896 rfl rfl ?_
  refine q_iload_n C 3 dL_law_897 rfl rfl ?_
  refine q_iconst C (v := 1) dL_law_898 (by decide) ?_
  refine q_iadd C dL_law_899 ?_
  refine q_sld C (q := j + 1) (nI_add j 1) (by omega) hL dL_law_900 ?_
  refine q_aload_n C 0 dL_law_901 rfl rfl ?_
  refine q_iload_n C 3 dL_law_902 rfl rfl ?_
  refine q_iconst C (v := 2) dL_law_903 (by decide) ?_
  refine q_iadd C dL_law_904 ?_
  refine q_sld C (q := j + 2) (nI_add j 2) (by omega) hL dL_law_905 ?_
  refine q_callVi C (As := [.int (xs (j + 1)), .int (xs (j + 2))]) cvl_95 k_0 rfl (Nat.le_of_ble_eq_true rfl) dL_law_906 (c_X6_fruits l w (xs (j + 1)) (xs (j + 2)) S) (fun v906 => ?_)
  refine q_aload_n C 2 dL_law_909 rfl rfl ?_
  refine q_aload_n C 0 dL_law_910 rfl rfl ?_
  refine q_iload_n C 3 dL_law_911 rfl rfl ?_
  refine q_iconst C (v := 1) dL_law_912 (by decide) ?_
  refine q_iadd C dL_law_913 ?_
  refine q_sld C (q := j + 1) (nI_add j 1) (by omega) hL dL_law_914 ?_
  refine q_aload_n C 0 dL_law_915 rfl rfl ?_
  refine q_iload_n C 3 dL_law_916 rfl rfl ?_
  refine q_iconst C (v := 2) dL_law_917 (by decide) ?_
  refine q_iadd C dL_law_918 ?_
  refine q_sld C (q := j + 2) (nI_add j 2) (by omega) hL dL_law_919 ?_
  refine q_callVi C (As := [.int (xs (j + 1)), .int (xs (j + 2))]) cvl_98 k_108 rfl (Nat.le_of_ble_eq_true rfl) dL_law_920 (c_X7_fruits l w (xs (j + 1)) (xs (j + 2)) v906.2) (fun v920 => ?_)
  refine q_icmp_eq C 1172 dL_law_923 (by decide) ?_ ?_
  · exact jq_next C hL ih hj v920.2
  · exact q_no
set_option maxRecDepth 100000 in
set_option maxHeartbeats 4000000 in
theorem law_case_20 {p : Program} {l : Launch} {e : Env} {s : State} {m : MethodId} {below : List Frame} {meth : Method} {c : Code} {b L : Nat} {xs : Nat → Int32} {w : Wd} {n j : Nat} (C : CL p s m meth c b L xs w) (hL : L ≤ 3072) (ih : JqHead p l e s m below meth c b w xs L n) (hj : j + 6 ≤ L) (S : St) : JQ p l e s m below meth c b w 928 [(0, .ref b), (1, .ref (w.2.1 + 0)), (2, .ref (w.2.1 + 108)), (3, .int (nI j))] [] S ((f_X6_thin (xs (j + 1)) (xs (j + 2)) S).bind fun v939 => ((f_X7_thin (xs (j + 1)) (xs (j + 2)) v939.2).bind fun v953 => (if v939.1 = v953.1 then (f_law n xs L (j + 6) v953.2) else (some false)))) := by
  refine q_aload_n C 1 dL_law_928 rfl rfl ?_
  refine q_aload_n C 0 dL_law_929 rfl rfl ?_
  refine q_iload_n C 3 dL_law_930 rfl rfl ?_
  refine q_iconst C (v := 1) dL_law_931 (by decide) ?_
  refine q_iadd C dL_law_932 ?_
  refine q_sld C (q := j + 1) (nI_add j 1) (by omega) hL dL_law_933 ?_
  refine q_aload_n C 0 dL_law_934 rfl rfl ?_
  refine q_iload_n C 3 dL_law_935 rfl rfl ?_
  refine q_iconst C (v := 2) dL_law_936 (by decide) ?_
  refine q_iadd C dL_law_937 ?_
  refine q_sld C (q := j + 2) (nI_add j 2) (by omega) hL dL_law_938 ?_
  refine q_callVi C (As := [.int (xs (j + 1)), .int (xs (j + 2))]) cvl_99 k_0 rfl (Nat.le_of_ble_eq_true rfl) dL_law_939 (c_X6_thin l w (xs (j + 1)) (xs (j + 2)) S) (fun v939 => ?_)
  refine q_aload_n C 2 dL_law_942 rfl rfl ?_
  refine q_aload_n C 0 dL_law_943 rfl rfl ?_
  refine q_iload_n C 3 dL_law_944 rfl rfl ?_
  refine q_iconst C (v := 1) dL_law_945 (by decide) ?_
  refine q_iadd C dL_law_946 ?_
  refine q_sld C (q := j + 1) (nI_add j 1) (by omega) hL dL_law_947 ?_
  refine q_aload_n C 0 dL_law_948 rfl rfl ?_
  refine q_iload_n C 3 dL_law_949 rfl rfl ?_
  refine q_iconst C (v := 2) dL_law_950 (by decide) ?_
  refine q_iadd C dL_law_951 ?_
  refine q_sld C (q := j + 2) (nI_add j 2) (by omega) hL dL_law_952 ?_
  refine q_callVi C (As := [.int (xs (j + 1)), .int (xs (j + 2))]) cvl_102 k_108 rfl (Nat.le_of_ble_eq_true rfl) dL_law_953 (c_X7_thin l w (xs (j + 1)) (xs (j + 2)) v939.2) (fun v953 => ?_)
  refine q_icmp_eq C 1172 dL_law_956 (by decide) ?_ ?_
  · exact jq_next C hL ih hj v953.2
  · exact q_no
set_option maxRecDepth 100000 in
set_option maxHeartbeats 4000000 in
theorem law_case_21 {p : Program} {l : Launch} {e : Env} {s : State} {m : MethodId} {below : List Frame} {meth : Method} {c : Code} {b L : Nat} {xs : Nat → Int32} {w : Wd} {n j : Nat} (C : CL p s m meth c b L xs w) (hL : L ≤ 3072) (ih : JqHead p l e s m below meth c b w xs L n) (hj : j + 6 ≤ L) (S : St) : JQ p l e s m below meth c b w 961 [(0, .ref b), (1, .ref (w.2.1 + 0)), (2, .ref (w.2.1 + 108)), (3, .int (nI j))] [] S ((some (f_X6_hours (xs (j + 1)) S)).bind fun v967 => ((f_X7_hours (xs (j + 1)) v967.2).bind fun v976 => (if v967.1 = v976.1 then (f_law n xs L (j + 6) v976.2) else (some false)))) := by
  refine q_aload_n C 1 dL_law_961 rfl rfl ?_
  refine q_aload_n C 0 dL_law_962 rfl rfl ?_
  refine q_iload_n C 3 dL_law_963 rfl rfl ?_
  refine q_iconst C (v := 1) dL_law_964 (by decide) ?_
  refine q_iadd C dL_law_965 ?_
  refine q_sld C (q := j + 1) (nI_add j 1) (by omega) hL dL_law_966 ?_
  refine q_callVi C (As := [.int (xs (j + 1))]) cvl_103 k_0 rfl (Nat.le_of_ble_eq_true rfl) dL_law_967 (fun v h => by cases h; exact c_X6_hours l w (xs (j + 1)) S) (fun v967 => ?_)
  refine q_aload_n C 2 dL_law_970 rfl rfl ?_
  refine q_aload_n C 0 dL_law_971 rfl rfl ?_
  refine q_iload_n C 3 dL_law_972 rfl rfl ?_
  refine q_iconst C (v := 1) dL_law_973 (by decide) ?_
  refine q_iadd C dL_law_974 ?_
  refine q_sld C (q := j + 1) (nI_add j 1) (by omega) hL dL_law_975 ?_
  refine q_callVi C (As := [.int (xs (j + 1))]) cvl_106 k_108 rfl (Nat.le_of_ble_eq_true rfl) dL_law_976 (c_X7_hours l w (xs (j + 1)) v967.2) (fun v976 => ?_)
  refine q_icmp_eq C 1172 dL_law_979 (by decide) ?_ ?_
  · exact jq_next C hL ih hj v976.2
  · exact q_no
set_option maxRecDepth 100000 in
set_option maxHeartbeats 4000000 in
theorem law_case_22 {p : Program} {l : Launch} {e : Env} {s : State} {m : MethodId} {below : List Frame} {meth : Method} {c : Code} {b L : Nat} {xs : Nat → Int32} {w : Wd} {n j : Nat} (C : CL p s m meth c b L xs w) (hL : L ≤ 3072) (ih : JqHead p l e s m below meth c b w xs L n) (hj : j + 6 ≤ L) (S : St) : JQ p l e s m below meth c b w 984 [(0, .ref b), (1, .ref (w.2.1 + 0)), (2, .ref (w.2.1 + 108)), (3, .int (nI j))] [] S ((f_X6_store (xs (j + 1)) S).bind fun v990 => ((f_X7_store (xs (j + 1)) v990.2).bind fun v999 => (if v990.1 = v999.1 then (f_law n xs L (j + 6) v999.2) else (some false)))) := by
  refine q_aload_n C 1 dL_law_984 rfl rfl ?_
  refine q_aload_n C 0 dL_law_985 rfl rfl ?_
  refine q_iload_n C 3 dL_law_986 rfl rfl ?_
  refine q_iconst C (v := 1) dL_law_987 (by decide) ?_
  refine q_iadd C dL_law_988 ?_
  refine q_sld C (q := j + 1) (nI_add j 1) (by omega) hL dL_law_989 ?_
  refine q_callVi C (As := [.int (xs (j + 1))]) cvl_107 k_0 rfl (Nat.le_of_ble_eq_true rfl) dL_law_990 (c_X6_store l w (xs (j + 1)) S) (fun v990 => ?_)
  refine q_aload_n C 2 dL_law_993 rfl rfl ?_
  refine q_aload_n C 0 dL_law_994 rfl rfl ?_
  refine q_iload_n C 3 dL_law_995 rfl rfl ?_
  refine q_iconst C (v := 1) dL_law_996 (by decide) ?_
  refine q_iadd C dL_law_997 ?_
  refine q_sld C (q := j + 1) (nI_add j 1) (by omega) hL dL_law_998 ?_
  refine q_callVi C (As := [.int (xs (j + 1))]) cvl_110 k_108 rfl (Nat.le_of_ble_eq_true rfl) dL_law_999 (c_X7_store l w (xs (j + 1)) v990.2) (fun v999 => ?_)
  refine q_icmp_eq C 1172 dL_law_1002 (by decide) ?_ ?_
  · exact jq_next C hL ih hj v999.2
  · exact q_no
set_option maxRecDepth 100000 in
set_option maxHeartbeats 4000000 in
theorem law_case_23 {p : Program} {l : Launch} {e : Env} {s : State} {m : MethodId} {below : List Frame} {meth : Method} {c : Code} {b L : Nat} {xs : Nat → Int32} {w : Wd} {n j : Nat} (C : CL p s m meth c b L xs w) (hL : L ≤ 3072) (ih : JqHead p l e s m below meth c b w xs L n) (hj : j + 6 ≤ L) (S : St) : JQ p l e s m below meth c b w 1007 [(0, .ref b), (1, .ref (w.2.1 + 0)), (2, .ref (w.2.1 + 108)), (3, .int (nI j))] [] S ((f_X6_take (xs (j + 1)) (xs (j + 2)) S).bind fun v1018 => ((f_X7_take (xs (j + 1)) (xs (j + 2)) v1018.2).bind fun v1032 => (if v1018.1 = v1032.1 then (f_law n xs L (j + 6) v1032.2) else (some false)))) := by
  refine q_aload_n C 1 dL_law_1007 rfl rfl ?_
  refine q_aload_n C 0 dL_law_1008 rfl rfl ?_
  refine q_iload_n C 3 dL_law_1009 rfl rfl ?_
  refine q_iconst C (v := 1) dL_law_1010 (by decide) ?_
  refine q_iadd C dL_law_1011 ?_
  refine q_sld C (q := j + 1) (nI_add j 1) (by omega) hL dL_law_1012 ?_
  refine q_aload_n C 0 dL_law_1013 rfl rfl ?_
  refine q_iload_n C 3 dL_law_1014 rfl rfl ?_
  refine q_iconst C (v := 2) dL_law_1015 (by decide) ?_
  refine q_iadd C dL_law_1016 ?_
  refine q_sld C (q := j + 2) (nI_add j 2) (by omega) hL dL_law_1017 ?_
  refine q_callVi C (As := [.int (xs (j + 1)), .int (xs (j + 2))]) cvl_111 k_0 rfl (Nat.le_of_ble_eq_true rfl) dL_law_1018 (c_X6_take l w (xs (j + 1)) (xs (j + 2)) S) (fun v1018 => ?_)
  refine q_aload_n C 2 dL_law_1021 rfl rfl ?_
  refine q_aload_n C 0 dL_law_1022 rfl rfl ?_
  refine q_iload_n C 3 dL_law_1023 rfl rfl ?_
  refine q_iconst C (v := 1) dL_law_1024 (by decide) ?_
  refine q_iadd C dL_law_1025 ?_
  refine q_sld C (q := j + 1) (nI_add j 1) (by omega) hL dL_law_1026 ?_
  refine q_aload_n C 0 dL_law_1027 rfl rfl ?_
  refine q_iload_n C 3 dL_law_1028 rfl rfl ?_
  refine q_iconst C (v := 2) dL_law_1029 (by decide) ?_
  refine q_iadd C dL_law_1030 ?_
  refine q_sld C (q := j + 2) (nI_add j 2) (by omega) hL dL_law_1031 ?_
  refine q_callVi C (As := [.int (xs (j + 1)), .int (xs (j + 2))]) cvl_114 k_108 rfl (Nat.le_of_ble_eq_true rfl) dL_law_1032 (c_X7_take l w (xs (j + 1)) (xs (j + 2)) v1018.2) (fun v1032 => ?_)
  refine q_icmp_eq C 1172 dL_law_1035 (by decide) ?_ ?_
  · exact jq_next C hL ih hj v1032.2
  · exact q_no
set_option maxRecDepth 100000 in
set_option maxHeartbeats 4000000 in
theorem law_case_24 {p : Program} {l : Launch} {e : Env} {s : State} {m : MethodId} {below : List Frame} {meth : Method} {c : Code} {b L : Nat} {xs : Nat → Int32} {w : Wd} {n j : Nat} (C : CL p s m meth c b L xs w) (hL : L ≤ 3072) (ih : JqHead p l e s m below meth c b w xs L n) (hj : j + 6 ≤ L) (S : St) : JQ p l e s m below meth c b w 1040 [(0, .ref b), (1, .ref (w.2.1 + 0)), (2, .ref (w.2.1 + 108)), (3, .int (nI j))] [] S ((f_X6_all (xs (j + 1)) S).bind fun v1046 => ((f_X7_all (xs (j + 1)) v1046.2).bind fun v1055 => (if v1046.1 = v1055.1 then (f_law n xs L (j + 6) v1055.2) else (some false)))) := by
  refine q_aload_n C 1 dL_law_1040 rfl rfl ?_
  refine q_aload_n C 0 dL_law_1041 rfl rfl ?_
  refine q_iload_n C 3 dL_law_1042 rfl rfl ?_
  refine q_iconst C (v := 1) dL_law_1043 (by decide) ?_
  refine q_iadd C dL_law_1044 ?_
  refine q_sld C (q := j + 1) (nI_add j 1) (by omega) hL dL_law_1045 ?_
  refine q_callVl C (As := [.int (xs (j + 1))]) cvl_115 k_0 rfl (Nat.le_of_ble_eq_true rfl) dL_law_1046 (c_X6_all l w (xs (j + 1)) S) (fun v1046 => ?_)
  refine q_aload_n C 2 dL_law_1049 rfl rfl ?_
  refine q_aload_n C 0 dL_law_1050 rfl rfl ?_
  refine q_iload_n C 3 dL_law_1051 rfl rfl ?_
  refine q_iconst C (v := 1) dL_law_1052 (by decide) ?_
  refine q_iadd C dL_law_1053 ?_
  refine q_sld C (q := j + 1) (nI_add j 1) (by omega) hL dL_law_1054 ?_
  refine q_callVl C (As := [.int (xs (j + 1))]) cvl_119 k_108 rfl (Nat.le_of_ble_eq_true rfl) dL_law_1055 (c_X7_all l w (xs (j + 1)) v1046.2) (fun v1055 => ?_)
  refine q_lcmp C dL_law_1058 ?_
  refine q_if_eq C 1172 (lg_cmp_eq _ _) dL_law_1059 (by decide) ?_ ?_
  · exact jq_next C hL ih hj v1055.2
  · exact q_no
set_option maxRecDepth 100000 in
set_option maxHeartbeats 4000000 in
theorem law_case_25 {p : Program} {l : Launch} {e : Env} {s : State} {m : MethodId} {below : List Frame} {meth : Method} {c : Code} {b L : Nat} {xs : Nat → Int32} {w : Wd} {n j : Nat} (C : CL p s m meth c b L xs w) (hL : L ≤ 3072) (ih : JqHead p l e s m below meth c b w xs L n) (hj : j + 6 ≤ L) (S : St) : JQ p l e s m below meth c b w 1064 [(0, .ref b), (1, .ref (w.2.1 + 0)), (2, .ref (w.2.1 + 108)), (3, .int (nI j))] [] S ((f_X6_lone (xs (j + 1)) S).bind fun v1070 => ((f_X7_lone (xs (j + 1)) v1070.2).bind fun v1079 => (if v1070.1 = v1079.1 then (f_law n xs L (j + 6) v1079.2) else (some false)))) := by
  refine q_aload_n C 1 dL_law_1064 rfl rfl ?_
  refine q_aload_n C 0 dL_law_1065 rfl rfl ?_
  refine q_iload_n C 3 dL_law_1066 rfl rfl ?_
  refine q_iconst C (v := 1) dL_law_1067 (by decide) ?_
  refine q_iadd C dL_law_1068 ?_
  refine q_sld C (q := j + 1) (nI_add j 1) (by omega) hL dL_law_1069 ?_
  refine q_callVi C (As := [.int (xs (j + 1))]) cvl_120 k_0 rfl (Nat.le_of_ble_eq_true rfl) dL_law_1070 (c_X6_lone l w (xs (j + 1)) S) (fun v1070 => ?_)
  refine q_aload_n C 2 dL_law_1073 rfl rfl ?_
  refine q_aload_n C 0 dL_law_1074 rfl rfl ?_
  refine q_iload_n C 3 dL_law_1075 rfl rfl ?_
  refine q_iconst C (v := 1) dL_law_1076 (by decide) ?_
  refine q_iadd C dL_law_1077 ?_
  refine q_sld C (q := j + 1) (nI_add j 1) (by omega) hL dL_law_1078 ?_
  refine q_callVi C (As := [.int (xs (j + 1))]) cvl_123 k_108 rfl (Nat.le_of_ble_eq_true rfl) dL_law_1079 (c_X7_lone l w (xs (j + 1)) v1070.2) (fun v1079 => ?_)
  refine q_icmp_eq C 1172 dL_law_1082 (by decide) ?_ ?_
  · exact jq_next C hL ih hj v1079.2
  · exact q_no
set_option maxRecDepth 100000 in
set_option maxHeartbeats 4000000 in
theorem law_case_26 {p : Program} {l : Launch} {e : Env} {s : State} {m : MethodId} {below : List Frame} {meth : Method} {c : Code} {b L : Nat} {xs : Nat → Int32} {w : Wd} {n j : Nat} (C : CL p s m meth c b L xs w) (hL : L ≤ 3072) (ih : JqHead p l e s m below meth c b w xs L n) (hj : j + 6 ≤ L) (S : St) : JQ p l e s m below meth c b w 1087 [(0, .ref b), (1, .ref (w.2.1 + 0)), (2, .ref (w.2.1 + 108)), (3, .int (nI j))] [] S ((f_X6_best S).bind fun v1088 => ((f_X7_best v1088.2).bind fun v1092 => (if v1088.1 = v1092.1 then (f_law n xs L (j + 6) v1092.2) else (some false)))) := by
  refine q_aload_n C 1 dL_law_1087 rfl rfl ?_
  refine q_callVi C (As := []) cvl_124 k_0 rfl (Nat.le_of_ble_eq_true rfl) dL_law_1088 (c_X6_best l w  S) (fun v1088 => ?_)
  refine q_aload_n C 2 dL_law_1091 rfl rfl ?_
  refine q_callVi C (As := []) cvl_128 k_108 rfl (Nat.le_of_ble_eq_true rfl) dL_law_1092 (c_X7_best l w  v1088.2) (fun v1092 => ?_)
  refine q_icmp_eq C 1172 dL_law_1095 (by decide) ?_ ?_
  · exact jq_next C hL ih hj v1092.2
  · exact q_no
set_option maxRecDepth 100000 in
set_option maxHeartbeats 4000000 in
theorem law_case_27 {p : Program} {l : Launch} {e : Env} {s : State} {m : MethodId} {below : List Frame} {meth : Method} {c : Code} {b L : Nat} {xs : Nat → Int32} {w : Wd} {n j : Nat} (C : CL p s m meth c b L xs w) (hL : L ≤ 3072) (ih : JqHead p l e s m below meth c b w xs L n) (hj : j + 6 ≤ L) (S : St) : JQ p l e s m below meth c b w 1100 [(0, .ref b), (1, .ref (w.2.1 + 0)), (2, .ref (w.2.1 + 108)), (3, .int (nI j))] [] S ((f_X6_given (xs (j + 1)) S).bind fun v1106 => ((f_X7_given (xs (j + 1)) v1106.2).bind fun v1115 => (if v1106.1 = v1115.1 then (f_law n xs L (j + 6) v1115.2) else (some false)))) := by
  refine q_aload_n C 1 dL_law_1100 rfl rfl ?_
  refine q_aload_n C 0 dL_law_1101 rfl rfl ?_
  refine q_iload_n C 3 dL_law_1102 rfl rfl ?_
  refine q_iconst C (v := 1) dL_law_1103 (by decide) ?_
  refine q_iadd C dL_law_1104 ?_
  refine q_sld C (q := j + 1) (nI_add j 1) (by omega) hL dL_law_1105 ?_
  refine q_callVi C (As := [.int (xs (j + 1))]) cvl_129 k_0 rfl (Nat.le_of_ble_eq_true rfl) dL_law_1106 (c_X6_given l w (xs (j + 1)) S) (fun v1106 => ?_)
  refine q_aload_n C 2 dL_law_1109 rfl rfl ?_
  refine q_aload_n C 0 dL_law_1110 rfl rfl ?_
  refine q_iload_n C 3 dL_law_1111 rfl rfl ?_
  refine q_iconst C (v := 1) dL_law_1112 (by decide) ?_
  refine q_iadd C dL_law_1113 ?_
  refine q_sld C (q := j + 1) (nI_add j 1) (by omega) hL dL_law_1114 ?_
  refine q_callVi C (As := [.int (xs (j + 1))]) cvl_132 k_108 rfl (Nat.le_of_ble_eq_true rfl) dL_law_1115 (c_X7_given l w (xs (j + 1)) v1106.2) (fun v1115 => ?_)
  refine q_icmp_eq C 1172 dL_law_1118 (by decide) ?_ ?_
  · exact jq_next C hL ih hj v1115.2
  · exact q_no
set_option maxRecDepth 100000 in
set_option maxHeartbeats 4000000 in
theorem law_case_28 {p : Program} {l : Launch} {e : Env} {s : State} {m : MethodId} {below : List Frame} {meth : Method} {c : Code} {b L : Nat} {xs : Nat → Int32} {w : Wd} {n j : Nat} (C : CL p s m meth c b L xs w) (hL : L ≤ 3072) (ih : JqHead p l e s m below meth c b w xs L n) (hj : j + 6 ≤ L) (S : St) : JQ p l e s m below meth c b w 1123 [(0, .ref b), (1, .ref (w.2.1 + 0)), (2, .ref (w.2.1 + 108)), (3, .int (nI j))] [] S ((f_X6_keep S).bind fun v1124 => ((f_X7_keep v1124.2).bind fun v1128 => (if v1124.1 = v1128.1 then (f_law n xs L (j + 6) v1128.2) else (some false)))) := by
  refine q_aload_n C 1 dL_law_1123 rfl rfl ?_
  refine q_callVi C (As := []) cvl_133 k_0 rfl (Nat.le_of_ble_eq_true rfl) dL_law_1124 (c_X6_keep l w  S) (fun v1124 => ?_)
  refine q_aload_n C 2 dL_law_1127 rfl rfl ?_
  refine q_callVi C (As := []) cvl_136 k_108 rfl (Nat.le_of_ble_eq_true rfl) dL_law_1128 (c_X7_keep l w  v1124.2) (fun v1128 => ?_)
  refine q_icmp_eq C 1172 dL_law_1131 (by decide) ?_ ?_
  · exact jq_next C hL ih hj v1128.2
  · exact q_no
set_option maxRecDepth 100000 in
set_option maxHeartbeats 4000000 in
theorem law_case_29 {p : Program} {l : Launch} {e : Env} {s : State} {m : MethodId} {below : List Frame} {meth : Method} {c : Code} {b L : Nat} {xs : Nat → Int32} {w : Wd} {n j : Nat} (C : CL p s m meth c b L xs w) (hL : L ≤ 3072) (ih : JqHead p l e s m below meth c b w xs L n) (hj : j + 6 ≤ L) (S : St) : JQ p l e s m below meth c b w 1136 [(0, .ref b), (1, .ref (w.2.1 + 0)), (2, .ref (w.2.1 + 108)), (3, .int (nI j))] [] S ((f_X6_back S).bind fun v1137 => ((f_X7_back v1137.2).bind fun v1141 => (if v1137.1 = v1141.1 then (f_law n xs L (j + 6) v1141.2) else (some false)))) := by
  refine q_aload_n C 1 dL_law_1136 rfl rfl ?_
  refine q_callVi C (As := []) cvl_137 k_0 rfl (Nat.le_of_ble_eq_true rfl) dL_law_1137 (c_X6_back l w  S) (fun v1137 => ?_)
  refine q_aload_n C 2 dL_law_1140 rfl rfl ?_
  refine q_callVi C (As := []) cvl_140 k_108 rfl (Nat.le_of_ble_eq_true rfl) dL_law_1141 (c_X7_back l w  v1137.2) (fun v1141 => ?_)
  refine q_icmp_eq C 1172 dL_law_1144 (by decide) ?_ ?_
  · exact jq_next C hL ih hj v1141.2
  · exact q_no
set_option maxRecDepth 100000 in
set_option maxHeartbeats 4000000 in
theorem law_case_30 {p : Program} {l : Launch} {e : Env} {s : State} {m : MethodId} {below : List Frame} {meth : Method} {c : Code} {b L : Nat} {xs : Nat → Int32} {w : Wd} {n j : Nat} (C : CL p s m meth c b L xs w) (hL : L ≤ 3072) (ih : JqHead p l e s m below meth c b w xs L n) (hj : j + 6 ≤ L) (S : St) : JQ p l e s m below meth c b w 1149 [(0, .ref b), (1, .ref (w.2.1 + 0)), (2, .ref (w.2.1 + 108)), (3, .int (nI j))] [] S ((some (f_X6_told (xs (j + 1)) S)).bind fun v1155 => ((f_X7_told (xs (j + 1)) v1155.2).bind fun v1164 => (if v1155.1 = v1164.1 then (f_law n xs L (j + 6) v1164.2) else (some false)))) := by
  refine q_aload_n C 1 dL_law_1149 rfl rfl ?_
  refine q_aload_n C 0 dL_law_1150 rfl rfl ?_
  refine q_iload_n C 3 dL_law_1151 rfl rfl ?_
  refine q_iconst C (v := 1) dL_law_1152 (by decide) ?_
  refine q_iadd C dL_law_1153 ?_
  refine q_sld C (q := j + 1) (nI_add j 1) (by omega) hL dL_law_1154 ?_
  refine q_callVi C (As := [.int (xs (j + 1))]) cvl_141 k_0 rfl (Nat.le_of_ble_eq_true rfl) dL_law_1155 (fun v h => by cases h; exact c_X6_told l w (xs (j + 1)) S) (fun v1155 => ?_)
  refine q_aload_n C 2 dL_law_1158 rfl rfl ?_
  refine q_aload_n C 0 dL_law_1159 rfl rfl ?_
  refine q_iload_n C 3 dL_law_1160 rfl rfl ?_
  refine q_iconst C (v := 1) dL_law_1161 (by decide) ?_
  refine q_iadd C dL_law_1162 ?_
  refine q_sld C (q := j + 1) (nI_add j 1) (by omega) hL dL_law_1163 ?_
  refine q_callVi C (As := [.int (xs (j + 1))]) cvl_144 k_108 rfl (Nat.le_of_ble_eq_true rfl) dL_law_1164 (c_X7_told l w (xs (j + 1)) v1155.2) (fun v1164 => ?_)
  refine q_icmp_eq C 1172 dL_law_1167 (by decide) ?_ ?_
  · exact jq_next C hL ih hj v1164.2
  · exact q_no
set_option maxRecDepth 100000 in
set_option maxHeartbeats 8000000 in
theorem law_step {p : Program} {l : Launch} {e : Env} {s : State} {m : MethodId} {below : List Frame} {meth : Method} {c : Code} {b L : Nat} {xs : Nat → Int32} {w : Wd} {n : Nat} (C : CL p s m meth c b L xs w) (hL : L ≤ 3072) (ih : JqHead p l e s m below meth c b w xs L n) : JqHead p l e s m below meth c b w xs L (n + 1) := by
  intro j S hj0
  rw [f_law]
  refine q_iload_n C 3 dL_law_18 rfl rfl ?_
  refine q_aload_n C 0 dL_law_19 rfl rfl ?_
  refine q_slen C dL_law_20 ?_
  refine q_bipush C (v := 6) dL_law_21 (by decide) ?_
  refine q_isub C dL_law_23 ?_
  refine q_icmp_gt C 1178 (law_cond hL hj0) dL_law_24 (by decide) (fun h0 => ?_) (fun h0 => ?_)
  · refine q_iconst C (v := 1) dL_law_1178 (by decide) ?_
    exact q_ret C dL_law_1179
  · have hj : j + 6 ≤ L := by omega
    refine q_aload_n C 0 dL_law_27 rfl rfl ?_
    refine q_iload_n C 3 dL_law_28 rfl rfl ?_
    refine q_sld C (q := j) rfl (by omega) hL dL_law_29 ?_
    refine q_bipush C (v := 31) dL_law_30 (by decide) ?_
    refine q_iand C dL_law_32 ?_
    refine q_ite (fun h0 => ?_) (fun h0 => ?_)
    · exact q_tabIn C 172 dL_law_33 (by rw [h0]; decide) (by rw [h0]; decide) (by rw [h0]; rfl) (by decide) (law_case_0 C hL ih hj S)
    refine q_ite (fun h1 => ?_) (fun h1 => ?_)
    · exact q_tabIn C 235 dL_law_33 (by rw [h1]; decide) (by rw [h1]; decide) (by rw [h1]; rfl) (by decide) (law_case_1 C hL ih hj S)
    refine q_ite (fun h2 => ?_) (fun h2 => ?_)
    · exact q_tabIn C 294 dL_law_33 (by rw [h2]; decide) (by rw [h2]; decide) (by rw [h2]; rfl) (by decide) (law_case_2 C hL ih hj S)
    refine q_ite (fun h3 => ?_) (fun h3 => ?_)
    · exact q_tabIn C 337 dL_law_33 (by rw [h3]; decide) (by rw [h3]; decide) (by rw [h3]; rfl) (by decide) (law_case_3 C hL ih hj S)
    refine q_ite (fun h4 => ?_) (fun h4 => ?_)
    · exact q_tabIn C 360 dL_law_33 (by rw [h4]; decide) (by rw [h4]; decide) (by rw [h4]; rfl) (by decide) (law_case_4 C hL ih hj S)
    refine q_ite (fun h5 => ?_) (fun h5 => ?_)
    · exact q_tabIn C 413 dL_law_33 (by rw [h5]; decide) (by rw [h5]; decide) (by rw [h5]; rfl) (by decide) (law_case_5 C hL ih hj S)
    refine q_ite (fun h6 => ?_) (fun h6 => ?_)
    · exact q_tabIn C 446 dL_law_33 (by rw [h6]; decide) (by rw [h6]; decide) (by rw [h6]; rfl) (by decide) (law_case_6 C hL ih hj S)
    refine q_ite (fun h7 => ?_) (fun h7 => ?_)
    · exact q_tabIn C 479 dL_law_33 (by rw [h7]; decide) (by rw [h7]; decide) (by rw [h7]; rfl) (by decide) (law_case_7 C hL ih hj S)
    refine q_ite (fun h8 => ?_) (fun h8 => ?_)
    · exact q_tabIn C 512 dL_law_33 (by rw [h8]; decide) (by rw [h8]; decide) (by rw [h8]; rfl) (by decide) (law_case_8 C hL ih hj S)
    refine q_ite (fun h9 => ?_) (fun h9 => ?_)
    · exact q_tabIn C 545 dL_law_33 (by rw [h9]; decide) (by rw [h9]; decide) (by rw [h9]; rfl) (by decide) (law_case_9 C hL ih hj S)
    refine q_ite (fun h10 => ?_) (fun h10 => ?_)
    · exact q_tabIn C 588 dL_law_33 (by rw [h10]; decide) (by rw [h10]; decide) (by rw [h10]; rfl) (by decide) (law_case_10 C hL ih hj S)
    refine q_ite (fun h11 => ?_) (fun h11 => ?_)
    · exact q_tabIn C 631 dL_law_33 (by rw [h11]; decide) (by rw [h11]; decide) (by rw [h11]; rfl) (by decide) (law_case_11 C hL ih hj S)
    refine q_ite (fun h12 => ?_) (fun h12 => ?_)
    · exact q_tabIn C 694 dL_law_33 (by rw [h12]; decide) (by rw [h12]; decide) (by rw [h12]; rfl) (by decide) (law_case_12 C hL ih hj S)
    refine q_ite (fun h13 => ?_) (fun h13 => ?_)
    · exact q_tabIn C 717 dL_law_33 (by rw [h13]; decide) (by rw [h13]; decide) (by rw [h13]; rfl) (by decide) (law_case_13 C hL ih hj S)
    refine q_ite (fun h14 => ?_) (fun h14 => ?_)
    · exact q_tabIn C 740 dL_law_33 (by rw [h14]; decide) (by rw [h14]; decide) (by rw [h14]; rfl) (by decide) (law_case_14 C hL ih hj S)
    refine q_ite (fun h15 => ?_) (fun h15 => ?_)
    · exact q_tabIn C 763 dL_law_33 (by rw [h15]; decide) (by rw [h15]; decide) (by rw [h15]; rfl) (by decide) (law_case_15 C hL ih hj S)
    refine q_ite (fun h16 => ?_) (fun h16 => ?_)
    · exact q_tabIn C 786 dL_law_33 (by rw [h16]; decide) (by rw [h16]; decide) (by rw [h16]; rfl) (by decide) (law_case_16 C hL ih hj S)
    refine q_ite (fun h17 => ?_) (fun h17 => ?_)
    · exact q_tabIn C 829 dL_law_33 (by rw [h17]; decide) (by rw [h17]; decide) (by rw [h17]; rfl) (by decide) (law_case_17 C hL ih hj S)
    refine q_ite (fun h18 => ?_) (fun h18 => ?_)
    · exact q_tabIn C 872 dL_law_33 (by rw [h18]; decide) (by rw [h18]; decide) (by rw [h18]; rfl) (by decide) (law_case_18 C hL ih hj S)
    refine q_ite (fun h19 => ?_) (fun h19 => ?_)
    · exact q_tabIn C 895 dL_law_33 (by rw [h19]; decide) (by rw [h19]; decide) (by rw [h19]; rfl) (by decide) (law_case_19 C hL ih hj S)
    refine q_ite (fun h20 => ?_) (fun h20 => ?_)
    · exact q_tabIn C 928 dL_law_33 (by rw [h20]; decide) (by rw [h20]; decide) (by rw [h20]; rfl) (by decide) (law_case_20 C hL ih hj S)
    refine q_ite (fun h21 => ?_) (fun h21 => ?_)
    · exact q_tabIn C 961 dL_law_33 (by rw [h21]; decide) (by rw [h21]; decide) (by rw [h21]; rfl) (by decide) (law_case_21 C hL ih hj S)
    refine q_ite (fun h22 => ?_) (fun h22 => ?_)
    · exact q_tabIn C 984 dL_law_33 (by rw [h22]; decide) (by rw [h22]; decide) (by rw [h22]; rfl) (by decide) (law_case_22 C hL ih hj S)
    refine q_ite (fun h23 => ?_) (fun h23 => ?_)
    · exact q_tabIn C 1007 dL_law_33 (by rw [h23]; decide) (by rw [h23]; decide) (by rw [h23]; rfl) (by decide) (law_case_23 C hL ih hj S)
    refine q_ite (fun h24 => ?_) (fun h24 => ?_)
    · exact q_tabIn C 1040 dL_law_33 (by rw [h24]; decide) (by rw [h24]; decide) (by rw [h24]; rfl) (by decide) (law_case_24 C hL ih hj S)
    refine q_ite (fun h25 => ?_) (fun h25 => ?_)
    · exact q_tabIn C 1064 dL_law_33 (by rw [h25]; decide) (by rw [h25]; decide) (by rw [h25]; rfl) (by decide) (law_case_25 C hL ih hj S)
    refine q_ite (fun h26 => ?_) (fun h26 => ?_)
    · exact q_tabIn C 1087 dL_law_33 (by rw [h26]; decide) (by rw [h26]; decide) (by rw [h26]; rfl) (by decide) (law_case_26 C hL ih hj S)
    refine q_ite (fun h27 => ?_) (fun h27 => ?_)
    · exact q_tabIn C 1100 dL_law_33 (by rw [h27]; decide) (by rw [h27]; decide) (by rw [h27]; rfl) (by decide) (law_case_27 C hL ih hj S)
    refine q_ite (fun h28 => ?_) (fun h28 => ?_)
    · exact q_tabIn C 1123 dL_law_33 (by rw [h28]; decide) (by rw [h28]; decide) (by rw [h28]; rfl) (by decide) (law_case_28 C hL ih hj S)
    refine q_ite (fun h29 => ?_) (fun h29 => ?_)
    · exact q_tabIn C 1136 dL_law_33 (by rw [h29]; decide) (by rw [h29]; decide) (by rw [h29]; rfl) (by decide) (law_case_29 C hL ih hj S)
    refine q_ite (fun h30 => ?_) (fun h30 => ?_)
    · exact q_tabIn C 1149 dL_law_33 (by rw [h30]; decide) (by rw [h30]; decide) (by rw [h30]; rfl) (by decide) (law_case_30 C hL ih hj S)
    have e0 : (xs j &&& 31).toInt ≠ 0 := fun e => h0 (Int32.toInt_inj.mp (e.trans (by decide)))
    have e1 : (xs j &&& 31).toInt ≠ 1 := fun e => h1 (Int32.toInt_inj.mp (e.trans (by decide)))
    have e2 : (xs j &&& 31).toInt ≠ 2 := fun e => h2 (Int32.toInt_inj.mp (e.trans (by decide)))
    have e3 : (xs j &&& 31).toInt ≠ 3 := fun e => h3 (Int32.toInt_inj.mp (e.trans (by decide)))
    have e4 : (xs j &&& 31).toInt ≠ 4 := fun e => h4 (Int32.toInt_inj.mp (e.trans (by decide)))
    have e5 : (xs j &&& 31).toInt ≠ 5 := fun e => h5 (Int32.toInt_inj.mp (e.trans (by decide)))
    have e6 : (xs j &&& 31).toInt ≠ 6 := fun e => h6 (Int32.toInt_inj.mp (e.trans (by decide)))
    have e7 : (xs j &&& 31).toInt ≠ 7 := fun e => h7 (Int32.toInt_inj.mp (e.trans (by decide)))
    have e8 : (xs j &&& 31).toInt ≠ 8 := fun e => h8 (Int32.toInt_inj.mp (e.trans (by decide)))
    have e9 : (xs j &&& 31).toInt ≠ 9 := fun e => h9 (Int32.toInt_inj.mp (e.trans (by decide)))
    have e10 : (xs j &&& 31).toInt ≠ 10 := fun e => h10 (Int32.toInt_inj.mp (e.trans (by decide)))
    have e11 : (xs j &&& 31).toInt ≠ 11 := fun e => h11 (Int32.toInt_inj.mp (e.trans (by decide)))
    have e12 : (xs j &&& 31).toInt ≠ 12 := fun e => h12 (Int32.toInt_inj.mp (e.trans (by decide)))
    have e13 : (xs j &&& 31).toInt ≠ 13 := fun e => h13 (Int32.toInt_inj.mp (e.trans (by decide)))
    have e14 : (xs j &&& 31).toInt ≠ 14 := fun e => h14 (Int32.toInt_inj.mp (e.trans (by decide)))
    have e15 : (xs j &&& 31).toInt ≠ 15 := fun e => h15 (Int32.toInt_inj.mp (e.trans (by decide)))
    have e16 : (xs j &&& 31).toInt ≠ 16 := fun e => h16 (Int32.toInt_inj.mp (e.trans (by decide)))
    have e17 : (xs j &&& 31).toInt ≠ 17 := fun e => h17 (Int32.toInt_inj.mp (e.trans (by decide)))
    have e18 : (xs j &&& 31).toInt ≠ 18 := fun e => h18 (Int32.toInt_inj.mp (e.trans (by decide)))
    have e19 : (xs j &&& 31).toInt ≠ 19 := fun e => h19 (Int32.toInt_inj.mp (e.trans (by decide)))
    have e20 : (xs j &&& 31).toInt ≠ 20 := fun e => h20 (Int32.toInt_inj.mp (e.trans (by decide)))
    have e21 : (xs j &&& 31).toInt ≠ 21 := fun e => h21 (Int32.toInt_inj.mp (e.trans (by decide)))
    have e22 : (xs j &&& 31).toInt ≠ 22 := fun e => h22 (Int32.toInt_inj.mp (e.trans (by decide)))
    have e23 : (xs j &&& 31).toInt ≠ 23 := fun e => h23 (Int32.toInt_inj.mp (e.trans (by decide)))
    have e24 : (xs j &&& 31).toInt ≠ 24 := fun e => h24 (Int32.toInt_inj.mp (e.trans (by decide)))
    have e25 : (xs j &&& 31).toInt ≠ 25 := fun e => h25 (Int32.toInt_inj.mp (e.trans (by decide)))
    have e26 : (xs j &&& 31).toInt ≠ 26 := fun e => h26 (Int32.toInt_inj.mp (e.trans (by decide)))
    have e27 : (xs j &&& 31).toInt ≠ 27 := fun e => h27 (Int32.toInt_inj.mp (e.trans (by decide)))
    have e28 : (xs j &&& 31).toInt ≠ 28 := fun e => h28 (Int32.toInt_inj.mp (e.trans (by decide)))
    have e29 : (xs j &&& 31).toInt ≠ 29 := fun e => h29 (Int32.toInt_inj.mp (e.trans (by decide)))
    have e30 : (xs j &&& 31).toInt ≠ 30 := fun e => h30 (Int32.toInt_inj.mp (e.trans (by decide)))
    exact q_tabOut C 1172 dL_law_33 (by omega) (by decide) (jq_next C hL ih hj S)
theorem law_loop {p : Program} {l : Launch} {e : Env} {s : State} {m : MethodId} {below : List Frame} {meth : Method} {c : Code} {b L : Nat} {xs : Nat → Int32} {w : Wd} (C : CL p s m meth c b L xs w) (hL : L ≤ 3072) (n : Nat) : JqHead p l e s m below meth c b w xs L n := by
  induction n with
  | zero =>
    intro j S _ hX
    simp only [f_law] at hX
    cases hX
  | succ n ih => exact law_step C hL ih
