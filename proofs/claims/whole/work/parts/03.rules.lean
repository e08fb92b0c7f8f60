
def gw : List Cond := lw_tbl.filter goodWord
theorem gm {q : Cond} (i : Nat) (h : lw_tbl[i]? = some q) (hg : goodWord q = true) : q ∈ gw := List.mem_filter.mpr ⟨List.mem_of_getElem? h, hg⟩
def Cx (p : Program) (s : State) (m : MethodId) (args : Array Value) (meth : Method) (c : Code) (y : MI) (w : Wd) : Prop :=
  p.tables.exec = Jvm.exec ∧ c.code = y.2.1 ∧ c.maxLocals = y.2.2.1 ∧ s.vm.findClass y.1.cls = some m.cls ∧ (∀ q ∈ gw, q.before args s = true) ∧ meth.sig.returnType = y.2.2.2.1 ∧ meth.locks = false ∧ meth.name = y.1.name ∧ KK w s ∧ w.2.1 ≤ s.heap.size
def Qp (w : Wd) (P : WP) (r : Option Value) : Array Value → State → Outcome → State → Prop := fun _ st o t => o = .returned r ∧ Rep w P.1 P.2.1 P.2.2.1 t.heap ∧ KK w t ∧ va_F (Ad w) st t
def RepG (w : Wd) (P : WP) (s : State) (H : Heap) : Prop := Rep w P.1 P.2.1 P.2.2.1 H ∧ s.heap.size + P.2.2.2.1 = w.2.1 + P.1
def G (l : Launch) (w : Wd) (y : MI) (pc : Nat) (ls : List (Nat × Value)) (st : List Value) (P P' : WP) (r : Option Value) : Prop :=
  ∀ (p : Program) (e : Env) (s : State) (m : MethodId) (args : Array Value) (below : List Frame) (meth : Method) (c : Code) (H : Heap) (locs : List Loc) (Ls : Array Slot), Cx p s m args meth c y w → RepG w P s H → va_S (Ad w) s.heap H locs → lv_has Ls y.2.2.1 ls → W p l e y.2.2.2.2 s m args below meth c H locs P.2.2.2.1 P.2.2.2.2 (MQ below (Qp w P' r) args s P'.2.2.2.1 P'.2.2.2.2 (Ad w)) (F0 m pc Ls st)
abbrev pt (S : St) : WP := (NN, rho, S, 0, 0)
/-- from this point the method ends as the pure program X says -/
def J {β : Type} (l : Launch) (w : Wd) (y : MI) (pc : Nat) (ls : List (Nat × Value)) (st : List Value) (S : St) (R : β → Option Value × St) (X : Option β) : Prop := ∀ b, X = some b → G l w y pc ls st (pt S) (pt (R b).2) (R b).1
def b2i (b : Bool) : Int32 := match b with | true => 1 | false => 0
def wsY (y : MI) : List Cond := .code y.1 y.2.1 y.2.2.1 y.2.2.2.1 :: gw
/-- a method's contract: with these arguments from this world it comes to that one, with this answer -/
def Ct (l : Launch) (w : Wd) (y : MI) (av : List Value) (n : Nat) (ρ : Rf) (S : St) (P' : WP) (r : Option Value) : Prop := Met l y.1 (wsY y) y.2.2.2.2 (va_Pc av (fun U => U.heap.size = w.2.1 + n ∧ Rep w n ρ S U.heap ∧ KK w U)) (Qp w P' r) P'.2.2.2.1 P'.2.2.2.2 (Ad w)
abbrev CtS (l : Launch) (w : Wd) (y : MI) (av : List Value) (S S' : St) (r : Option Value) : Prop := Ct l w y av NN rho S (pt S') r
theorem lw_good : gw.all goodWord = true := List.all_eq_true.mpr fun q h => (List.mem_filter.mp h).2
theorem lw_goodIn {x y : MI} (h : Cond.code y.1 y.2.1 y.2.2.1 y.2.2.2.1 ∈ gw) : GoodIn (wsY x) (wsY y) := by
  intro q hq
  have hm : q ∈ gw := by
    rcases List.mem_cons.mp hq with rfl | hq
    · exact h
    · exact hq
  exact ⟨List.mem_cons_of_mem _ hm, good_of_word (List.all_eq_true.mp lw_good q hm)⟩
theorem lw_goodIn' {y : MI} (h : Cond.code y.1 y.2.1 y.2.2.1 y.2.2.2.1 ∈ gw) : GoodIn gw (wsY y) := by
  intro q hq
  have hm : q ∈ gw := by
    rcases List.mem_cons.mp hq with rfl | hq
    · exact h
    · exact hq
  exact ⟨hm, good_of_word (List.all_eq_true.mp lw_good q hm)⟩
theorem Ct.of {l : Launch} {w : Wd} {y : MI} {av : List Value} {n : Nat} {ρ : Rf} {S : St} {P' : WP} {r : Option Value} (hlen : (lg_sl av).length ≤ y.2.2.1) (hpl : plainName y.1.cls = true) (h : G l w y 0 (lv_args 0 av) [] (n, ρ, S, 0, 0) P' r) : Ct l w y av n ρ S P' r := by
  refine Met.ofW (cc := y.2.1) (maxL := y.2.2.1) (ret := y.2.2.2.1) hpl rfl ?_
  intro p e s m args below meth c s₁ B hml hv
  obtain ⟨rfl, hz, hR, hK⟩ := hv
  have hts := atoms_spec (ws := wsY y) B.pre
  have hl := lv_entry av (n := y.2.2.1) hlen
  rw [lg_entry_eq]
  exact h p e s m _ below meth c s.heap [] _ ⟨B.exec, B.bytes, hml, findClass_of_methodNamed B.named, fun q hq => hts q (List.mem_cons_of_mem _ hq), B.returns, B.notSynchronized, (name_of_methodNamed B.named B.method).1, hK, by rw [hz]; omega⟩ ⟨hR, by show s.heap.size + 0 = _; rw [hz]; rfl⟩ va_S.rf hl
theorem Cx.fix {p : Program} {s : State} {m : MethodId} {args : Array Value} {meth : Method} {c : Code} {y : MI} {w : Wd} (C : Cx p s m args meth c y w) : CallFix p m c y.2.1 y.2.2.1 s args gw y.1.cls := ⟨C.1, C.2.1, C.2.2.1, C.2.2.2.1, C.2.2.2.2.1⟩
theorem pre_blind {w : Wd} {av : List Value} {n : Nat} {ρ : Rf} {S : St} : FrameBlind (va_Pc av (fun U => U.heap.size = w.2.1 + n ∧ Rep w n ρ S U.heap ∧ KK w U)) := by
  intro a U g mk q
  obtain ⟨q0, q3, q1, q2⟩ := q
  exact ⟨q0, q3, q1, KK.same (u := U) (U := U.calling g mk a) rfl q2⟩
section Rules
variable {l : Launch} {w : Wd} {y : MI} {pc : Nat} {ls : List (Nat × Value)} {st : List Value} {P P' : WP} {r : Option Value} {β : Type} {R : β → Option Value × St} {X : Option β} {S : St}
theorem g_size {p : Program} {e : Env} {s : State} {m : MethodId} {args : Array Value} {below : List Frame} {meth : Method} {c : Code} {H : Heap} {locs : List Loc} {n : Nat} {ρ : Rf} {S : St} {k z : Nat} {T : State} {RR : Room} (hT : T.heap = H) (Y : Stand p l e RR s m args below meth c T locs k z) (hR : RepG w (n, ρ, S, k, z) s H) (hn : 0 < n) : H.size = w.2.1 + n := by
  have h1 : T.heap.size ≤ s.heap.size + k := Y.same.2.2.1
  have h2 : s.heap.size + k = w.2.1 + n := hR.2
  have h3 := (hR.1 (n - 1) _ (wls_at (by omega))).lt
  have h4 : w.2.1 + (n - 1) < H.size := h3
  rw [hT] at h1
  omega
theorem g_sized {p : Program} {e : Env} {s : State} {m : MethodId} {args : Array Value} {below : List Frame} {meth : Method} {c : Code} {H : Heap} {locs : List Loc} {n : Nat} {ρ : Rf} {S : St} {k z : Nat} {RR : Room} {Q : State → Prop} {g : JFrame} (hR : RepG w (n, ρ, S, k, z) s H) (hn : 0 < n) (h : H.size = w.2.1 + n → W p l e RR s m args below meth c H locs k z Q g) : W p l e RR s m args below meth c H locs k z Q g := fun T hT Y => h (g_size hT Y hR hn) T hT Y
/-- behind a call -/
theorem g_run {p : Program} {e : Env} {s : State} {m : MethodId} {args : Array Value} {below : List Frame} {meth : Method} {c : Code} {H : Heap} {locs : List Loc} {Ls : Array Slot} {n n' : Nat} {ρ' : Rf} {S' : St} {k z mc ms : Nat} {st0 rest : List Value} {r0 : Option Value} {a : Array Value}
    (C : Cx p s m args meth c y w) (hz : s.heap.size + k = w.2.1 + n) (hnn : n' = n + mc) (hS : va_S (Ad w) s.heap H locs) (hl : lv_has Ls y.2.2.1 ls)
    (hr : va_Run p l e y.2.2.2.2 s m args below meth c H locs k z mc ms (F0 m pc Ls st0) rest (Qp w (n', ρ', S', mc, ms) r0 a) (Ad w))
    (kk : G l w y (pc + 3) ls (r0.toList ++ rest) (n', ρ', S', k + mc, z + ms) P' r) :
    W p l e y.2.2.2.2 s m args below meth c H locs k z (MQ below (Qp w P' r) args s P'.2.2.2.1 P'.2.2.2.2 (Ad w)) (F0 m pc Ls st0) := by
  intro T hT Y
  obtain ⟨v, st₀, t, T', L, h0, X', hL, e1, e2, ⟨hv, hRt, hKt, hF⟩, go⟩ := hr T hT Y
  cases hv
  have hS' : va_S (Ad w) s.heap T'.heap (locs ++ L) := by
    refine ⟨?_, ?_, ?_⟩
    · rw [e1]; exact Nat.le_trans hS.1 (by rw [← h0]; exact hF.1)
    · intro q h1 h2
      rw [e1, hF.2 q (by rw [h0]; exact Nat.lt_of_lt_of_le h1 hS.1) h2, h0]
      exact hS.2.1 q h1 h2
    · intro q hq
      rcases List.mem_append.mp hq with h | h
      · exact hS.2.2 q h
      · exact hL q h
  obtain ⟨t2, a1, b1⟩ := kk p e s m args below meth c T'.heap (locs ++ L) Ls C ⟨by rw [e1]; exact hRt, by show s.heap.size + (k + mc) = w.2.1 + n'; omega⟩ hS' hl T' rfl X'
  exact ⟨t2, go t2 a1, b1⟩
/-- the words of a call: link, code; and the room -/
def CW (own : String) (idx n : Nat) (y' : MI) : Prop := Cond.methodLink own idx y'.1 ∈ gw ∧ Cond.code y'.1 y'.2.1 y'.2.2.1 y'.2.2.2.1 ∈ gw ∧ Cond.initialized y'.1.cls ∈ gw ∧ (y'.1.cls ≠ "java/lang/invoke/MethodHandle" ∧ y'.1.cls ≠ "java/lang/invoke/VarHandle" ∧ (parseMethodDescriptor y'.1.desc).map (fun d => d.parameters.length) = some n)
def CWN (own : String) (idx n : Nat) (y' : MI) (host : String) : Prop := (own, idx, y'.1, host) ∈ nestL ∧ Cond.code y'.1 y'.2.1 y'.2.2.1 y'.2.2.2.1 ∈ gw ∧ Cond.initialized y'.1.cls ∈ gw ∧ (y'.1.cls ≠ "java/lang/invoke/MethodHandle" ∧ y'.1.cls ≠ "java/lang/invoke/VarHandle" ∧ (parseMethodDescriptor y'.1.desc).map (fun d => d.parameters.length) = some n)
def CWV (own : String) (idx n : Nat) (y' : MI) : Prop := CW own idx n y' ∧ Cond.instanceMethod y'.1 ∈ gw ∧ Cond.selects y'.1.cls y'.1 y'.1 ∈ gw
def CWS (own : String) (idx n : Nat) (y' : MI) : Prop := CW own idx n y' ∧ Cond.static y'.1 ∈ gw
def CWI (own : String) (idx n : Nat) (y' : MI) : Prop := CW own idx n y' ∧ y'.1.name = "<init>" ∧ Cond.instanceMethod y'.1 ∈ gw
def RM (y y' : MI) : Prop := y'.2.2.2.2.frames + 1 ≤ y.2.2.2.2.frames ∧ 8 + (y'.2.2.1 + 11) + y'.2.2.2.2.locals ≤ y.2.2.2.2.locals
theorem cB_of {p : Program} {s : State} {m : MethodId} {args : Array Value} {meth : Method} {c : Code} {idx n mc ms : Nat} {y' : MI} (C : Cx p s m args meth c y w) (h : CW y.1.cls idx n y') (hR : RM y y') (hrc : y'.2.2.2.2.cells = mc) (hrs : y'.2.2.2.2.slots = ms) : CallB y.2.2.2.2 s args y.1.cls idx y'.1 y'.2.1 y'.2.2.1 y'.2.2.2.1 (wsY y') y'.2.2.2.2 mc ms n :=
  callB_of n C.2.2.2.2.1 (lw_goodIn' h.2.1) rfl hrc hrs (C.2.2.2.2.1 _ h.2.2.1) (C.2.2.2.2.1 _ h.1) h.2.2.2 hR
theorem g_callV {n n' ci idx na t : Nat} {ρ ρ' : Rf} {S S' : St} {k z mc ms : Nat} {y' : MI} {As : List Value} {r0 : Option Value} {fl : List Bool} {TT : u_T} {NT : Nat}
    (hc : CWV y.1.cls idx na y') (hM : RM y y') (hk : kd t = .inl (ci, fl)) (hcl : vwCl[ci]? = some (y'.1.cls, TT, NT)) (ht : t < n) (hrc : y'.2.2.2.2.cells = mc) (hrs : y'.2.2.2.2.slots = ms) (hn : As.length = na) (hst : (st.map fun v => v.category).sum ≤ 8) (hf : k + mc ≤ y.2.2.2.2.cells ∧ z + ms ≤ y.2.2.2.2.slots) (h0n : 0 < n) (hnn : n' = n + mc)
    (d : decode y.2.1 pc = .ok (.invokevirtual idx, 3)) (hC : Ct l w y' (.ref (w.2.1 + t) :: As) n ρ S (n', ρ', S', mc, ms) r0)
    (kk : G l w y (pc + 3) ls (r0.toList ++ st) (n', ρ', S', k + mc, z + ms) P' r) : G l w y pc ls (As.reverse ++ .ref (w.2.1 + t) :: st) (n, ρ, S, k, z) P' r := by
  intro p e s m args below meth c H locs Ls C hR hS hl
  refine g_sized hR h0n (fun hz => ?_)
  refine g_run C hR.2 hnn hS hl (va_runV (As := As) (C := y'.1.cls) C.fix hC ⟨cB_of C hc.1 hM hrc hrs, C.2.2.2.2.1 _ hc.2.1, C.2.2.2.2.1 _ hc.2.2⟩ ⟨pre_blind, ?_, ?_⟩ rfl hn hl.1 rfl (lv_room hst) d hf) kk
  · exact va_recv (q := (y'.1.cls, TT, NT)) C.2.2.2.2.2.2.2.2.1.1 hR.1 hcl (q0 := t) (by rw [wls_at ht, cel_o hk])
  · intro U hU hW
    exact ⟨rfl, by rw [hU]; exact hz, by rw [hU]; exact hR.1, KK.warm hW C.2.2.2.2.2.2.2.2.1⟩
theorem g_callS {n n' idx na : Nat} {ρ ρ' : Rf} {S S' : St} {k z mc ms : Nat} {y' : MI} {As : List Value} {r0 : Option Value}
    (hc : CWS y.1.cls idx na y') (hM : RM y y') (hrc : y'.2.2.2.2.cells = mc) (hrs : y'.2.2.2.2.slots = ms) (hn : As.length = na) (hst : (st.map fun v => v.category).sum ≤ 8) (hf : k + mc ≤ y.2.2.2.2.cells ∧ z + ms ≤ y.2.2.2.2.slots) (h0n : 0 < n) (hnn : n' = n + mc)
    (d : decode y.2.1 pc = .ok (.invokestatic idx, 3)) (hC : Ct l w y' As n ρ S (n', ρ', S', mc, ms) r0)
    (kk : G l w y (pc + 3) ls (r0.toList ++ st) (n', ρ', S', k + mc, z + ms) P' r) : G l w y pc ls (As.reverse ++ st) (n, ρ, S, k, z) P' r := by
  intro p e s m args below meth c H locs Ls C hR hS hl
  refine g_sized hR h0n (fun hz => ?_)
  refine g_run C hR.2 hnn hS hl (va_runS (As := As) C.fix hC ⟨cB_of C hc.1 hM hrc hrs, C.2.2.2.2.1 _ hc.2⟩ ⟨pre_blind, ?_⟩ rfl hn hl.1 rfl (lv_room hst) d hf) kk
  intro U hU hW
  exact ⟨rfl, by rw [hU]; exact hz, by rw [hU]; exact hR.1, KK.warm hW C.2.2.2.2.2.2.2.2.1⟩
theorem cN_of {p : Program} {s : State} {m : MethodId} {args : Array Value} {meth : Method} {c : Code} {idx n mc ms : Nat} {y' : MI} {host : String} (C : Cx p s m args meth c y w) (h : CWN y.1.cls idx n y' host) (hR : RM y y') (hrc : y'.2.2.2.2.cells = mc) (hrs : y'.2.2.2.2.slots = ms) : va_CN y.2.2.2.2 s args y.1.cls idx y'.1 host y'.2.1 y'.2.2.1 y'.2.2.2.1 (wsY y') y'.2.2.2.2 mc ms n :=
  va_cnB n C.2.2.2.2.1 (lw_goodIn' h.2.1) rfl hrc hrs (C.2.2.2.2.2.2.2.2.1.2.2.2.2 _ h.1) (C.2.2.2.2.1 _ h.2.2.1) h.2.2.2 hR
theorem g_callSN {n n' idx na : Nat} {ρ ρ' : Rf} {S S' : St} {k z mc ms : Nat} {y' : MI} {As : List Value} {r0 : Option Value} {host : String}
    (hc : CWN y.1.cls idx na y' host) (hs : Cond.static y'.1 ∈ gw) (hM : RM y y') (hrc : y'.2.2.2.2.cells = mc) (hrs : y'.2.2.2.2.slots = ms) (hn : As.length = na) (hst : (st.map fun v => v.category).sum ≤ 8) (hf : k + mc ≤ y.2.2.2.2.cells ∧ z + ms ≤ y.2.2.2.2.slots) (h0n : 0 < n) (hnn : n' = n + mc)
    (d : decode y.2.1 pc = .ok (.invokestatic idx, 3)) (hC : Ct l w y' As n ρ S (n', ρ', S', mc, ms) r0)
    (kk : G l w y (pc + 3) ls (r0.toList ++ st) (n', ρ', S', k + mc, z + ms) P' r) : G l w y pc ls (As.reverse ++ st) (n, ρ, S, k, z) P' r := by
  intro p e s m args below meth c H locs Ls C hR hS hl
  refine g_sized hR h0n (fun hz => ?_)
  refine g_run C hR.2 hnn hS hl (va_runSN (As := As) C.fix hC ⟨cN_of C hc hM hrc hrs, C.2.2.2.2.1 _ hs, trivial⟩ ⟨pre_blind, ?_⟩ rfl hn hl.1 rfl (lv_room hst) d hf) kk
  intro U hU hW
  exact ⟨rfl, by rw [hU]; exact hz, by rw [hU]; exact hR.1, KK.warm hW C.2.2.2.2.2.2.2.2.1⟩
theorem g_callI {n n' idx na t : Nat} {ρ ρ' : Rf} {S S' : St} {k z mc ms : Nat} {y' : MI} {As : List Value} 
    (hc : CWI y.1.cls idx na y') (hret : y'.2.2.2.1 = none) (hM : RM y y') (hrc : y'.2.2.2.2.cells = mc) (hrs : y'.2.2.2.2.slots = ms) (hn : As.length = na) (hst : (st.map fun v => v.category).sum ≤ 8) (hf : k + mc ≤ y.2.2.2.2.cells ∧ z + ms ≤ y.2.2.2.2.slots) (h0n : 0 < n) (hnn : n' = n + mc)
    (d : decode y.2.1 pc = .ok (.invokespecial idx, 3)) (hC : Ct l w y' (.ref (w.2.1 + t) :: As) n ρ S (n', ρ', S', mc, ms) none)
    (kk : G l w y (pc + 3) ls st (n', ρ', S', k + mc, z + ms) P' r) : G l w y pc ls (As.reverse ++ .ref (w.2.1 + t) :: st) (n, ρ, S, k, z) P' r := by
  intro p e s m args below meth c H locs Ls C hR hS hl
  have hB := cB_of C hc.1 hM hrc hrs
  rw [hret] at hB
  refine g_sized hR h0n (fun hz => ?_)
  refine g_run C hR.2 hnn hS hl (va_runI (As := As) C.fix hC ⟨hB, hc.2.1, C.2.2.2.2.1 _ hc.2.2⟩ ⟨pre_blind, ?_⟩ rfl hn hl.1 rfl (lv_room hst) d hf) kk
  intro U hU hW
  exact ⟨rfl, by rw [hU]; exact hz, by rw [hU]; exact hR.1, KK.warm hW C.2.2.2.2.2.2.2.2.1⟩
theorem g_callIN {n n' idx na t : Nat} {ρ ρ' : Rf} {S S' : St} {k z mc ms : Nat} {y' : MI} {As : List Value} {host : String}
    (hc : CWN y.1.cls idx na y' host) (hi : y'.1.name = "<init>") (hs : Cond.instanceMethod y'.1 ∈ gw) (hret : y'.2.2.2.1 = none) (hM : RM y y') (hrc : y'.2.2.2.2.cells = mc) (hrs : y'.2.2.2.2.slots = ms) (hn : As.length = na) (hst : (st.map fun v => v.category).sum ≤ 8) (hf : k + mc ≤ y.2.2.2.2.cells ∧ z + ms ≤ y.2.2.2.2.slots) (h0n : 0 < n) (hnn : n' = n + mc)
    (d : decode y.2.1 pc = .ok (.invokespecial idx, 3)) (hC : Ct l w y' (.ref (w.2.1 + t) :: As) n ρ S (n', ρ', S', mc, ms) none)
    (kk : G l w y (pc + 3) ls st (n', ρ', S', k + mc, z + ms) P' r) : G l w y pc ls (As.reverse ++ .ref (w.2.1 + t) :: st) (n, ρ, S, k, z) P' r := by
  intro p e s m args below meth c H locs Ls C hR hS hl
  have hB := cN_of C hc hM hrc hrs
  rw [hret] at hB
  refine g_sized hR h0n (fun hz => ?_)
  refine g_run C hR.2 hnn hS hl (va_runIN (As := As) C.fix hC ⟨hB, hi, C.2.2.2.2.1 _ hs⟩ ⟨pre_blind, ?_⟩ rfl hn hl.1 rfl (lv_room hst) d hf) kk
  intro U hU hW
  exact ⟨rfl, by rw [hU]; exact hz, by rw [hU]; exact hR.1, KK.warm hW C.2.2.2.2.2.2.2.2.1⟩

theorem g_iconst {n : Int} {v : Int32} (d : decode y.2.1 pc = .ok (.iconst n, 1)) (hv : Int32.ofInt n = v) (k : G l w y (pc + 1) ls (.int v :: st) P P' r) : G l w y pc ls st P P' r := fun p e s m args below meth c H locs Ls C hR hS hl => lv_iconst C.1 C.2.1 d hv (k p e s m args below meth c H locs Ls C hR hS hl)
theorem j_iconst {n : Int} {v : Int32} (d : decode y.2.1 pc = .ok (.iconst n, 1)) (hv : Int32.ofInt n = v) (k : J l w y (pc + 1) ls (.int v :: st) S R X) : J l w y pc ls st S R X := fun b hb => g_iconst d hv (k b hb)
theorem g_bipush {n : Int} {v : Int32} (d : decode y.2.1 pc = .ok (.bipush n, 2)) (hv : (Int8.ofInt n).toInt32 = v) (k : G l w y (pc + 2) ls (.int v :: st) P P' r) : G l w y pc ls st P P' r := fun p e s m args below meth c H locs Ls C hR hS hl => lv_bipush C.1 C.2.1 d hv (k p e s m args below meth c H locs Ls C hR hS hl)
theorem j_bipush {n : Int} {v : Int32} (d : decode y.2.1 pc = .ok (.bipush n, 2)) (hv : (Int8.ofInt n).toInt32 = v) (k : J l w y (pc + 2) ls (.int v :: st) S R X) : J l w y pc ls st S R X := fun b hb => g_bipush d hv (k b hb)
theorem g_sipush {n : Int} {v : Int32} (d : decode y.2.1 pc = .ok (.sipush n, 3)) (hv : (Int16.ofInt n).toInt32 = v) (k : G l w y (pc + 3) ls (.int v :: st) P P' r) : G l w y pc ls st P P' r := fun p e s m args below meth c H locs Ls C hR hS hl => lv_sipush C.1 C.2.1 d hv (k p e s m args below meth c H locs Ls C hR hS hl)
theorem j_sipush {n : Int} {v : Int32} (d : decode y.2.1 pc = .ok (.sipush n, 3)) (hv : (Int16.ofInt n).toInt32 = v) (k : J l w y (pc + 3) ls (.int v :: st) S R X) : J l w y pc ls st S R X := fun b hb => g_sipush d hv (k b hb)
theorem g_ldc {n : Nat} {v : Int32} (d : decode y.2.1 pc = .ok (.ldc n, 2)) (hv : Cond.constant y.1.cls n v ∈ gw) (k : G l w y (pc + 2) ls (.int v :: st) P P' r) : G l w y pc ls st P P' r := fun p e s m args below meth c H locs Ls C hR hS hl => lv_ldc C.1 C.2.1 C.2.2.2.1 (C.2.2.2.2.1 _ hv) d (k p e s m args below meth c H locs Ls C hR hS hl)
theorem j_ldc {n : Nat} {v : Int32} (d : decode y.2.1 pc = .ok (.ldc n, 2)) (hv : Cond.constant y.1.cls n v ∈ gw) (k : J l w y (pc + 2) ls (.int v :: st) S R X) : J l w y pc ls st S R X := fun b hb => g_ldc d hv (k b hb)
theorem g_ldc2 {n : Nat} {v : Int64} (d : decode y.2.1 pc = .ok (.ldc2_w n, 3)) (hv : Cond.constantLong y.1.cls n v ∈ gw) (k : G l w y (pc + 3) ls (.long v :: st) P P' r) : G l w y pc ls st P P' r := fun p e s m args below meth c H locs Ls C hR hS hl => lv_ldc2 C.1 C.2.1 C.2.2.2.1 (C.2.2.2.2.1 _ hv) d (k p e s m args below meth c H locs Ls C hR hS hl)
theorem j_ldc2 {n : Nat} {v : Int64} (d : decode y.2.1 pc = .ok (.ldc2_w n, 3)) (hv : Cond.constantLong y.1.cls n v ∈ gw) (k : J l w y (pc + 3) ls (.long v :: st) S R X) : J l w y pc ls st S R X := fun b hb => g_ldc2 d hv (k b hb)
theorem g_lconst {n : Fin 2} {v : Int64} (d : decode y.2.1 pc = .ok (.lconst n, 1)) (hv : Int64.ofNat (n : Nat) = v) (k : G l w y (pc + 1) ls (.long v :: st) P P' r) : G l w y pc ls st P P' r := fun p e s m args below meth c H locs Ls C hR hS hl => lv_lconst C.1 C.2.1 d hv (k p e s m args below meth c H locs Ls C hR hS hl)
theorem j_lconst {n : Fin 2} {v : Int64} (d : decode y.2.1 pc = .ok (.lconst n, 1)) (hv : Int64.ofNat (n : Nat) = v) (k : J l w y (pc + 1) ls (.long v :: st) S R X) : J l w y pc ls st S R X := fun b hb => g_lconst d hv (k b hb)
theorem g_null (d : decode y.2.1 pc = .ok (.aconst_null, 1)) (k : G l w y (pc + 1) ls (.null :: st) P P' r) : G l w y pc ls st P P' r := fun p e s m args below meth c H locs Ls C hR hS hl => lv_null C.1 C.2.1 d (k p e s m args below meth c H locs Ls C hR hS hl)
theorem j_null (d : decode y.2.1 pc = .ok (.aconst_null, 1)) (k : J l w y (pc + 1) ls (.null :: st) S R X) : J l w y pc ls st S R X := fun b hb => g_null d (k b hb)
theorem g_iload_n (kp : Nat) {q : Fin 4} {i : Nat} {x : Int32} (d : decode y.2.1 pc = .ok (.iload_n q, 1)) (hi : (q : Nat) = i) (hk : ls[kp]? = some (i, .int x)) (k : G l w y (pc + 1) ls (.int x :: st) P P' r) : G l w y pc ls st P P' r := fun p e s m args below meth c H locs Ls C hR hS hl => lv_iload_n C.1 C.2.1 d hi (lv_at hl kp hk) (k p e s m args below meth c H locs Ls C hR hS hl)
theorem j_iload_n (kp : Nat) {q : Fin 4} {i : Nat} {x : Int32} (d : decode y.2.1 pc = .ok (.iload_n q, 1)) (hi : (q : Nat) = i) (hk : ls[kp]? = some (i, .int x)) (k : J l w y (pc + 1) ls (.int x :: st) S R X) : J l w y pc ls st S R X := fun b hb => g_iload_n kp d hi hk (k b hb)
theorem g_iload (kp : Nat) {i : Nat} {x : Int32} (d : decode y.2.1 pc = .ok (.iload i, 2)) (hk : ls[kp]? = some (i, .int x)) (k : G l w y (pc + 2) ls (.int x :: st) P P' r) : G l w y pc ls st P P' r := fun p e s m args below meth c H locs Ls C hR hS hl => lv_iload C.1 C.2.1 d (lv_at hl kp hk) (k p e s m args below meth c H locs Ls C hR hS hl)
theorem j_iload (kp : Nat) {i : Nat} {x : Int32} (d : decode y.2.1 pc = .ok (.iload i, 2)) (hk : ls[kp]? = some (i, .int x)) (k : J l w y (pc + 2) ls (.int x :: st) S R X) : J l w y pc ls st S R X := fun b hb => g_iload kp d hk (k b hb)
theorem g_lload_n (kp : Nat) {q : Fin 4} {i : Nat} {x : Int64} (d : decode y.2.1 pc = .ok (.lload_n q, 1)) (hi : (q : Nat) = i) (hk : ls[kp]? = some (i, .long x)) (k : G l w y (pc + 1) ls (.long x :: st) P P' r) : G l w y pc ls st P P' r := fun p e s m args below meth c H locs Ls C hR hS hl => lv_lload_n C.1 C.2.1 d hi (lv_at hl kp hk) (k p e s m args below meth c H locs Ls C hR hS hl)
theorem j_lload_n (kp : Nat) {q : Fin 4} {i : Nat} {x : Int64} (d : decode y.2.1 pc = .ok (.lload_n q, 1)) (hi : (q : Nat) = i) (hk : ls[kp]? = some (i, .long x)) (k : J l w y (pc + 1) ls (.long x :: st) S R X) : J l w y pc ls st S R X := fun b hb => g_lload_n kp d hi hk (k b hb)
theorem g_lload (kp : Nat) {i : Nat} {x : Int64} (d : decode y.2.1 pc = .ok (.lload i, 2)) (hk : ls[kp]? = some (i, .long x)) (k : G l w y (pc + 2) ls (.long x :: st) P P' r) : G l w y pc ls st P P' r := fun p e s m args below meth c H locs Ls C hR hS hl => lv_lload C.1 C.2.1 d (lv_at hl kp hk) (k p e s m args below meth c H locs Ls C hR hS hl)
theorem j_lload (kp : Nat) {i : Nat} {x : Int64} (d : decode y.2.1 pc = .ok (.lload i, 2)) (hk : ls[kp]? = some (i, .long x)) (k : J l w y (pc + 2) ls (.long x :: st) S R X) : J l w y pc ls st S R X := fun b hb => g_lload kp d hk (k b hb)
theorem g_aload_n (kp : Nat) {q : Fin 4} {i : Nat} {x : Nat} (d : decode y.2.1 pc = .ok (.aload_n q, 1)) (hi : (q : Nat) = i) (hk : ls[kp]? = some (i, .ref x)) (k : G l w y (pc + 1) ls (.ref x :: st) P P' r) : G l w y pc ls st P P' r := fun p e s m args below meth c H locs Ls C hR hS hl => lv_aload_n C.1 C.2.1 d hi (lv_at hl kp hk) (k p e s m args below meth c H locs Ls C hR hS hl)
theorem j_aload_n (kp : Nat) {q : Fin 4} {i : Nat} {x : Nat} (d : decode y.2.1 pc = .ok (.aload_n q, 1)) (hi : (q : Nat) = i) (hk : ls[kp]? = some (i, .ref x)) (k : J l w y (pc + 1) ls (.ref x :: st) S R X) : J l w y pc ls st S R X := fun b hb => g_aload_n kp d hi hk (k b hb)
theorem g_aload (kp : Nat) {i : Nat} {x : Nat} (d : decode y.2.1 pc = .ok (.aload i, 2)) (hk : ls[kp]? = some (i, .ref x)) (k : G l w y (pc + 2) ls (.ref x :: st) P P' r) : G l w y pc ls st P P' r := fun p e s m args below meth c H locs Ls C hR hS hl => lv_aload C.1 C.2.1 d (lv_at hl kp hk) (k p e s m args below meth c H locs Ls C hR hS hl)
theorem j_aload (kp : Nat) {i : Nat} {x : Nat} (d : decode y.2.1 pc = .ok (.aload i, 2)) (hk : ls[kp]? = some (i, .ref x)) (k : J l w y (pc + 2) ls (.ref x :: st) S R X) : J l w y pc ls st S R X := fun b hb => g_aload kp d hk (k b hb)
theorem g_aload_nN (kp : Nat) {q : Fin 4} {i : Nat} (d : decode y.2.1 pc = .ok (.aload_n q, 1)) (hi : (q : Nat) = i) (hk : ls[kp]? = some (i, .null)) (k : G l w y (pc + 1) ls (.null :: st) P P' r) : G l w y pc ls st P P' r := fun p e s m args below meth c H locs Ls C hR hS hl => lv_aload_nN C.1 C.2.1 d hi (lv_at hl kp hk) (k p e s m args below meth c H locs Ls C hR hS hl)
theorem j_aload_nN (kp : Nat) {q : Fin 4} {i : Nat} (d : decode y.2.1 pc = .ok (.aload_n q, 1)) (hi : (q : Nat) = i) (hk : ls[kp]? = some (i, .null)) (k : J l w y (pc + 1) ls (.null :: st) S R X) : J l w y pc ls st S R X := fun b hb => g_aload_nN kp d hi hk (k b hb)
theorem g_iadd {x z : Int32} (d : decode y.2.1 pc = .ok (.iadd, 1)) (k : G l w y (pc + 1) ls (.int (x + z) :: st) P P' r) : G l w y pc ls (.int z :: .int x :: st) P P' r := fun p e s m args below meth c H locs Ls C hR hS hl => lv_iadd C.1 C.2.1 d (k p e s m args below meth c H locs Ls C hR hS hl)
theorem j_iadd {x z : Int32} (d : decode y.2.1 pc = .ok (.iadd, 1)) (k : J l w y (pc + 1) ls (.int (x + z) :: st) S R X) : J l w y pc ls (.int z :: .int x :: st) S R X := fun b hb => g_iadd d (k b hb)
theorem g_isub {x z : Int32} (d : decode y.2.1 pc = .ok (.isub, 1)) (k : G l w y (pc + 1) ls (.int (x - z) :: st) P P' r) : G l w y pc ls (.int z :: .int x :: st) P P' r := fun p e s m args below meth c H locs Ls C hR hS hl => lv_isub C.1 C.2.1 d (k p e s m args below meth c H locs Ls C hR hS hl)
theorem j_isub {x z : Int32} (d : decode y.2.1 pc = .ok (.isub, 1)) (k : J l w y (pc + 1) ls (.int (x - z) :: st) S R X) : J l w y pc ls (.int z :: .int x :: st) S R X := fun b hb => g_isub d (k b hb)
theorem g_imul {x z : Int32} (d : decode y.2.1 pc = .ok (.imul, 1)) (k : G l w y (pc + 1) ls (.int (x * z) :: st) P P' r) : G l w y pc ls (.int z :: .int x :: st) P P' r := fun p e s m args below meth c H locs Ls C hR hS hl => lv_imul C.1 C.2.1 d (k p e s m args below meth c H locs Ls C hR hS hl)
theorem j_imul {x z : Int32} (d : decode y.2.1 pc = .ok (.imul, 1)) (k : J l w y (pc + 1) ls (.int (x * z) :: st) S R X) : J l w y pc ls (.int z :: .int x :: st) S R X := fun b hb => g_imul d (k b hb)
theorem g_iand {x z : Int32} (d : decode y.2.1 pc = .ok (.iand, 1)) (k : G l w y (pc + 1) ls (.int (x &&& z) :: st) P P' r) : G l w y pc ls (.int z :: .int x :: st) P P' r := fun p e s m args below meth c H locs Ls C hR hS hl => lv_iand C.1 C.2.1 d (k p e s m args below meth c H locs Ls C hR hS hl)
theorem j_iand {x z : Int32} (d : decode y.2.1 pc = .ok (.iand, 1)) (k : J l w y (pc + 1) ls (.int (x &&& z) :: st) S R X) : J l w y pc ls (.int z :: .int x :: st) S R X := fun b hb => g_iand d (k b hb)
theorem g_ior {x z : Int32} (d : decode y.2.1 pc = .ok (.ior, 1)) (k : G l w y (pc + 1) ls (.int (x ||| z) :: st) P P' r) : G l w y pc ls (.int z :: .int x :: st) P P' r := fun p e s m args below meth c H locs Ls C hR hS hl => lv_ior C.1 C.2.1 d (k p e s m args below meth c H locs Ls C hR hS hl)
theorem j_ior {x z : Int32} (d : decode y.2.1 pc = .ok (.ior, 1)) (k : J l w y (pc + 1) ls (.int (x ||| z) :: st) S R X) : J l w y pc ls (.int z :: .int x :: st) S R X := fun b hb => g_ior d (k b hb)
theorem g_ixor {x z : Int32} (d : decode y.2.1 pc = .ok (.ixor, 1)) (k : G l w y (pc + 1) ls (.int (x ^^^ z) :: st) P P' r) : G l w y pc ls (.int z :: .int x :: st) P P' r := fun p e s m args below meth c H locs Ls C hR hS hl => lv_ixor C.1 C.2.1 d (k p e s m args below meth c H locs Ls C hR hS hl)
theorem j_ixor {x z : Int32} (d : decode y.2.1 pc = .ok (.ixor, 1)) (k : J l w y (pc + 1) ls (.int (x ^^^ z) :: st) S R X) : J l w y pc ls (.int z :: .int x :: st) S R X := fun b hb => g_ixor d (k b hb)
theorem g_ishl {x z : Int32} (d : decode y.2.1 pc = .ok (.ishl, 1)) (k : G l w y (pc + 1) ls (.int (x <<< (z &&& 31)) :: st) P P' r) : G l w y pc ls (.int z :: .int x :: st) P P' r := fun p e s m args below meth c H locs Ls C hR hS hl => lv_ishl C.1 C.2.1 d (k p e s m args below meth c H locs Ls C hR hS hl)
theorem j_ishl {x z : Int32} (d : decode y.2.1 pc = .ok (.ishl, 1)) (k : J l w y (pc + 1) ls (.int (x <<< (z &&& 31)) :: st) S R X) : J l w y pc ls (.int z :: .int x :: st) S R X := fun b hb => g_ishl d (k b hb)
theorem g_ishr {x z : Int32} (d : decode y.2.1 pc = .ok (.ishr, 1)) (k : G l w y (pc + 1) ls (.int (x >>> (z &&& 31)) :: st) P P' r) : G l w y pc ls (.int z :: .int x :: st) P P' r := fun p e s m args below meth c H locs Ls C hR hS hl => lv_ishr C.1 C.2.1 d (k p e s m args below meth c H locs Ls C hR hS hl)
theorem j_ishr {x z : Int32} (d : decode y.2.1 pc = .ok (.ishr, 1)) (k : J l w y (pc + 1) ls (.int (x >>> (z &&& 31)) :: st) S R X) : J l w y pc ls (.int z :: .int x :: st) S R X := fun b hb => g_ishr d (k b hb)
theorem g_iushr {x z : Int32} (d : decode y.2.1 pc = .ok (.iushr, 1)) (k : G l w y (pc + 1) ls (.int (x.toUInt32 >>> (z.toUInt32 &&& Int32.toUInt32 31)).toInt32 :: st) P P' r) : G l w y pc ls (.int z :: .int x :: st) P P' r := fun p e s m args below meth c H locs Ls C hR hS hl => lv_iushr C.1 C.2.1 d rfl (k p e s m args below meth c H locs Ls C hR hS hl)
theorem j_iushr {x z : Int32} (d : decode y.2.1 pc = .ok (.iushr, 1)) (k : J l w y (pc + 1) ls (.int (x.toUInt32 >>> (z.toUInt32 &&& Int32.toUInt32 31)).toInt32 :: st) S R X) : J l w y pc ls (.int z :: .int x :: st) S R X := fun b hb => g_iushr d (k b hb)
theorem g_ineg {x : Int32} (d : decode y.2.1 pc = .ok (.ineg, 1)) (k : G l w y (pc + 1) ls (.int (-x) :: st) P P' r) : G l w y pc ls (.int x :: st) P P' r := fun p e s m args below meth c H locs Ls C hR hS hl => lv_ineg C.1 C.2.1 d (k p e s m args below meth c H locs Ls C hR hS hl)
theorem j_ineg {x : Int32} (d : decode y.2.1 pc = .ok (.ineg, 1)) (k : J l w y (pc + 1) ls (.int (-x) :: st) S R X) : J l w y pc ls (.int x :: st) S R X := fun b hb => g_ineg d (k b hb)
theorem g_i2l {x : Int32} (d : decode y.2.1 pc = .ok (.i2l, 1)) (k : G l w y (pc + 1) ls (.long x.toInt64 :: st) P P' r) : G l w y pc ls (.int x :: st) P P' r := fun p e s m args below meth c H locs Ls C hR hS hl => lv_i2l C.1 C.2.1 d rfl (k p e s m args below meth c H locs Ls C hR hS hl)
theorem j_i2l {x : Int32} (d : decode y.2.1 pc = .ok (.i2l, 1)) (k : J l w y (pc + 1) ls (.long x.toInt64 :: st) S R X) : J l w y pc ls (.int x :: st) S R X := fun b hb => g_i2l d (k b hb)
theorem g_i2s {x : Int32} (d : decode y.2.1 pc = .ok (.i2s, 1)) (k : G l w y (pc + 1) ls (.int x.toInt16.toInt32 :: st) P P' r) : G l w y pc ls (.int x :: st) P P' r := fun p e s m args below meth c H locs Ls C hR hS hl => lv_i2s C.1 C.2.1 d rfl (k p e s m args below meth c H locs Ls C hR hS hl)
theorem j_i2s {x : Int32} (d : decode y.2.1 pc = .ok (.i2s, 1)) (k : J l w y (pc + 1) ls (.int x.toInt16.toInt32 :: st) S R X) : J l w y pc ls (.int x :: st) S R X := fun b hb => g_i2s d (k b hb)
theorem g_ladd {x z : Int64} (d : decode y.2.1 pc = .ok (.ladd, 1)) (k : G l w y (pc + 1) ls (.long (x + z) :: st) P P' r) : G l w y pc ls (.long z :: .long x :: st) P P' r := fun p e s m args below meth c H locs Ls C hR hS hl => lv_ladd C.1 C.2.1 d (k p e s m args below meth c H locs Ls C hR hS hl)
theorem j_ladd {x z : Int64} (d : decode y.2.1 pc = .ok (.ladd, 1)) (k : J l w y (pc + 1) ls (.long (x + z) :: st) S R X) : J l w y pc ls (.long z :: .long x :: st) S R X := fun b hb => g_ladd d (k b hb)
theorem g_lmul {x z : Int64} (d : decode y.2.1 pc = .ok (.lmul, 1)) (k : G l w y (pc + 1) ls (.long (x * z) :: st) P P' r) : G l w y pc ls (.long z :: .long x :: st) P P' r := fun p e s m args below meth c H locs Ls C hR hS hl => lv_lmul C.1 C.2.1 d (k p e s m args below meth c H locs Ls C hR hS hl)
theorem j_lmul {x z : Int64} (d : decode y.2.1 pc = .ok (.lmul, 1)) (k : J l w y (pc + 1) ls (.long (x * z) :: st) S R X) : J l w y pc ls (.long z :: .long x :: st) S R X := fun b hb => g_lmul d (k b hb)
theorem g_lcmp {x z : Int64} (d : decode y.2.1 pc = .ok (.lcmp, 1)) (k : G l w y (pc + 1) ls (.int (lg_cmp x z) :: st) P P' r) : G l w y pc ls (.long z :: .long x :: st) P P' r := fun p e s m args below meth c H locs Ls C hR hS hl => W.lcmp C.1 C.2.1 d (k p e s m args below meth c H locs Ls C hR hS hl)
theorem j_lcmp {x z : Int64} (d : decode y.2.1 pc = .ok (.lcmp, 1)) (k : J l w y (pc + 1) ls (.int (lg_cmp x z) :: st) S R X) : J l w y pc ls (.long z :: .long x :: st) S R X := fun b hb => g_lcmp d (k b hb)
theorem g_idivL {x z : Int32} (d : decode y.2.1 pc = .ok (.idiv, 1)) (hz : ¬ z = 0) (k : G l w y (pc + 1) ls (.int (x / z) :: st) P P' r) : G l w y pc ls (.int z :: .int x :: st) P P' r := fun p e s m args below meth c H locs Ls C hR hS hl => lv_idiv C.1 C.2.1 d hz (k p e s m args below meth c H locs Ls C hR hS hl)
theorem j_idivL {x z : Int32} (d : decode y.2.1 pc = .ok (.idiv, 1)) (hz : ¬ z = 0) (k : J l w y (pc + 1) ls (.int (x / z) :: st) S R X) : J l w y pc ls (.int z :: .int x :: st) S R X := fun b hb => g_idivL d hz (k b hb)
theorem g_iremL {x z : Int32} (d : decode y.2.1 pc = .ok (.irem, 1)) (hz : ¬ z = 0) (k : G l w y (pc + 1) ls (.int (x - x / z * z) :: st) P P' r) : G l w y pc ls (.int z :: .int x :: st) P P' r := fun p e s m args below meth c H locs Ls C hR hS hl => lv_irem C.1 C.2.1 d hz (k p e s m args below meth c H locs Ls C hR hS hl)
theorem j_iremL {x z : Int32} (d : decode y.2.1 pc = .ok (.irem, 1)) (hz : ¬ z = 0) (k : J l w y (pc + 1) ls (.int (x - x / z * z) :: st) S R X) : J l w y pc ls (.int z :: .int x :: st) S R X := fun b hb => g_iremL d hz (k b hb)
theorem g_dup {v : Value} (d : decode y.2.1 pc = .ok (.dup, 1)) (hv : v.category = 1) (k : G l w y (pc + 1) ls (v :: v :: st) P P' r) : G l w y pc ls (v :: st) P P' r := fun p e s m args below meth c H locs Ls C hR hS hl => lv_dup C.1 C.2.1 d hv (k p e s m args below meth c H locs Ls C hR hS hl)
theorem j_dup {v : Value} (d : decode y.2.1 pc = .ok (.dup, 1)) (hv : v.category = 1) (k : J l w y (pc + 1) ls (v :: v :: st) S R X) : J l w y pc ls (v :: st) S R X := fun b hb => g_dup d hv (k b hb)
theorem g_dup2 {v u : Value} (d : decode y.2.1 pc = .ok (.dup2, 1)) (hv : v.category = 1) (hu : u.category = 1) (k : G l w y (pc + 1) ls (v :: u :: v :: u :: st) P P' r) : G l w y pc ls (v :: u :: st) P P' r := fun p e s m args below meth c H locs Ls C hR hS hl => lv_dup2_11 C.1 C.2.1 d hv hu (k p e s m args below meth c H locs Ls C hR hS hl)
theorem j_dup2 {v u : Value} (d : decode y.2.1 pc = .ok (.dup2, 1)) (hv : v.category = 1) (hu : u.category = 1) (k : J l w y (pc + 1) ls (v :: u :: v :: u :: st) S R X) : J l w y pc ls (v :: u :: st) S R X := fun b hb => g_dup2 d hv hu (k b hb)
theorem g_goto {off : Int} (tgt : Nat) (d : decode y.2.1 pc = .ok (.goto off, 3)) (ht : (pc : Int) + off = (tgt : Int)) (k : G l w y tgt ls st P P' r) : G l w y pc ls st P P' r := fun p e s m args below meth c H locs Ls C hR hS hl => lv_goto C.1 C.2.1 d ht (k p e s m args below meth c H locs Ls C hR hS hl)
theorem j_goto {off : Int} (tgt : Nat) (d : decode y.2.1 pc = .ok (.goto off, 3)) (ht : (pc : Int) + off = (tgt : Int)) (k : J l w y tgt ls st S R X) : J l w y pc ls st S R X := fun b hb => g_goto tgt d ht (k b hb)
theorem g_ifnullN {off : Int} (tgt : Nat) (d : decode y.2.1 pc = .ok (.ifnull off, 3)) (ht : (pc : Int) + off = (tgt : Int)) (k : G l w y tgt ls st P P' r) : G l w y pc ls (.null :: st) P P' r := fun p e s m args below meth c H locs Ls C hR hS hl => lv_ifnullN C.1 C.2.1 d ht (k p e s m args below meth c H locs Ls C hR hS hl)
theorem j_ifnullN {off : Int} (tgt : Nat) (d : decode y.2.1 pc = .ok (.ifnull off, 3)) (ht : (pc : Int) + off = (tgt : Int)) (k : J l w y tgt ls st S R X) : J l w y pc ls (.null :: st) S R X := fun b hb => g_ifnullN tgt d ht (k b hb)
theorem g_ifnullR {off : Int} {t : Nat} (d : decode y.2.1 pc = .ok (.ifnull off, 3)) (k : G l w y (pc + 3) ls st P P' r) : G l w y pc ls (.ref t :: st) P P' r := fun p e s m args below meth c H locs Ls C hR hS hl => lv_ifnull C.1 C.2.1 d (k p e s m args below meth c H locs Ls C hR hS hl)
theorem j_ifnullR {off : Int} {t : Nat} (d : decode y.2.1 pc = .ok (.ifnull off, 3)) (k : J l w y (pc + 3) ls st S R X) : J l w y pc ls (.ref t :: st) S R X := fun b hb => g_ifnullR d (k b hb)
theorem g_istore_n {q : Fin 4} {i : Nat} {x : Int32} {ls' : List (Nat × Value)} (d : decode y.2.1 pc = .ok (.istore_n q, 1)) (hi : (q : Nat) = i) (hn : i < y.2.2.1) (hf : (i, .int x) :: ls.filter (fun q => !(q.1 == i) && !(q.1 + 1 == i && q.2.category == 2)) = ls') (k : G l w y (pc + 1) ls' st P P' r) : G l w y pc ls (.int x :: st) P P' r := fun p e s m args below meth c H locs Ls C hR hS hl => lv_istore_n C.1 C.2.1 d hi hl hn hf (fun Ls1 hl1 => k p e s m args below meth c H locs Ls1 C hR hS hl1)
theorem j_istore_n {q : Fin 4} {i : Nat} {x : Int32} {ls' : List (Nat × Value)} (d : decode y.2.1 pc = .ok (.istore_n q, 1)) (hi : (q : Nat) = i) (hn : i < y.2.2.1) (hf : (i, .int x) :: ls.filter (fun q => !(q.1 == i) && !(q.1 + 1 == i && q.2.category == 2)) = ls') (k : J l w y (pc + 1) ls' st S R X) : J l w y pc ls (.int x :: st) S R X := fun b hb => g_istore_n d hi hn hf (k b hb)
theorem g_istore {i : Nat} {x : Int32} {ls' : List (Nat × Value)} (d : decode y.2.1 pc = .ok (.istore i, 2)) (hn : i < y.2.2.1) (hf : (i, .int x) :: ls.filter (fun q => !(q.1 == i) && !(q.1 + 1 == i && q.2.category == 2)) = ls') (k : G l w y (pc + 2) ls' st P P' r) : G l w y pc ls (.int x :: st) P P' r := fun p e s m args below meth c H locs Ls C hR hS hl => lv_istore C.1 C.2.1 d hl hn hf (fun Ls1 hl1 => k p e s m args below meth c H locs Ls1 C hR hS hl1)
theorem j_istore {i : Nat} {x : Int32} {ls' : List (Nat × Value)} (d : decode y.2.1 pc = .ok (.istore i, 2)) (hn : i < y.2.2.1) (hf : (i, .int x) :: ls.filter (fun q => !(q.1 == i) && !(q.1 + 1 == i && q.2.category == 2)) = ls') (k : J l w y (pc + 2) ls' st S R X) : J l w y pc ls (.int x :: st) S R X := fun b hb => g_istore d hn hf (k b hb)
theorem g_astore_n {q : Fin 4} {i : Nat} {x : Nat} {ls' : List (Nat × Value)} (d : decode y.2.1 pc = .ok (.astore_n q, 1)) (hi : (q : Nat) = i) (hn : i < y.2.2.1) (hf : (i, .ref x) :: ls.filter (fun q => !(q.1 == i) && !(q.1 + 1 == i && q.2.category == 2)) = ls') (k : G l w y (pc + 1) ls' st P P' r) : G l w y pc ls (.ref x :: st) P P' r := fun p e s m args below meth c H locs Ls C hR hS hl => lv_astore_n C.1 C.2.1 d hi hl hn hf (fun Ls1 hl1 => k p e s m args below meth c H locs Ls1 C hR hS hl1)
theorem j_astore_n {q : Fin 4} {i : Nat} {x : Nat} {ls' : List (Nat × Value)} (d : decode y.2.1 pc = .ok (.astore_n q, 1)) (hi : (q : Nat) = i) (hn : i < y.2.2.1) (hf : (i, .ref x) :: ls.filter (fun q => !(q.1 == i) && !(q.1 + 1 == i && q.2.category == 2)) = ls') (k : J l w y (pc + 1) ls' st S R X) : J l w y pc ls (.ref x :: st) S R X := fun b hb => g_astore_n d hi hn hf (k b hb)
theorem g_astore {i : Nat} {x : Nat} {ls' : List (Nat × Value)} (d : decode y.2.1 pc = .ok (.astore i, 2)) (hn : i < y.2.2.1) (hf : (i, .ref x) :: ls.filter (fun q => !(q.1 == i) && !(q.1 + 1 == i && q.2.category == 2)) = ls') (k : G l w y (pc + 2) ls' st P P' r) : G l w y pc ls (.ref x :: st) P P' r := fun p e s m args below meth c H locs Ls C hR hS hl => lv_astore C.1 C.2.1 d hl hn hf (fun Ls1 hl1 => k p e s m args below meth c H locs Ls1 C hR hS hl1)
theorem j_astore {i : Nat} {x : Nat} {ls' : List (Nat × Value)} (d : decode y.2.1 pc = .ok (.astore i, 2)) (hn : i < y.2.2.1) (hf : (i, .ref x) :: ls.filter (fun q => !(q.1 == i) && !(q.1 + 1 == i && q.2.category == 2)) = ls') (k : J l w y (pc + 2) ls' st S R X) : J l w y pc ls (.ref x :: st) S R X := fun b hb => g_astore d hn hf (k b hb)
theorem g_astore_nN {q : Fin 4} {i : Nat}  {ls' : List (Nat × Value)} (d : decode y.2.1 pc = .ok (.astore_n q, 1)) (hi : (q : Nat) = i) (hn : i < y.2.2.1) (hf : (i, .null) :: ls.filter (fun q => !(q.1 == i) && !(q.1 + 1 == i && q.2.category == 2)) = ls') (k : G l w y (pc + 1) ls' st P P' r) : G l w y pc ls (.null :: st) P P' r := fun p e s m args below meth c H locs Ls C hR hS hl => lv_astore_nN C.1 C.2.1 d hi hl hn hf (fun Ls1 hl1 => k p e s m args below meth c H locs Ls1 C hR hS hl1)
theorem j_astore_nN {q : Fin 4} {i : Nat}  {ls' : List (Nat × Value)} (d : decode y.2.1 pc = .ok (.astore_n q, 1)) (hi : (q : Nat) = i) (hn : i < y.2.2.1) (hf : (i, .null) :: ls.filter (fun q => !(q.1 == i) && !(q.1 + 1 == i && q.2.category == 2)) = ls') (k : J l w y (pc + 1) ls' st S R X) : J l w y pc ls (.null :: st) S R X := fun b hb => g_astore_nN d hi hn hf (k b hb)
theorem g_astoreN {i : Nat}  {ls' : List (Nat × Value)} (d : decode y.2.1 pc = .ok (.astore i, 2)) (hn : i < y.2.2.1) (hf : (i, .null) :: ls.filter (fun q => !(q.1 == i) && !(q.1 + 1 == i && q.2.category == 2)) = ls') (k : G l w y (pc + 2) ls' st P P' r) : G l w y pc ls (.null :: st) P P' r := fun p e s m args below meth c H locs Ls C hR hS hl => lv_astoreN C.1 C.2.1 d hl hn hf (fun Ls1 hl1 => k p e s m args below meth c H locs Ls1 C hR hS hl1)
theorem j_astoreN {i : Nat}  {ls' : List (Nat × Value)} (d : decode y.2.1 pc = .ok (.astore i, 2)) (hn : i < y.2.2.1) (hf : (i, .null) :: ls.filter (fun q => !(q.1 == i) && !(q.1 + 1 == i && q.2.category == 2)) = ls') (k : J l w y (pc + 2) ls' st S R X) : J l w y pc ls (.null :: st) S R X := fun b hb => g_astoreN d hn hf (k b hb)
theorem g_lstore_n {q : Fin 4} {i : Nat} {x : Int64} {ls' : List (Nat × Value)} (d : decode y.2.1 pc = .ok (.lstore_n q, 1)) (hi : (q : Nat) = i) (hn : i + 1 < y.2.2.1) (hf : (i, .long x) :: ls.filter (fun q => !(q.1 == i) && (!(q.1 == i + 1) && !(q.1 + 1 == i && q.2.category == 2))) = ls') (k : G l w y (pc + 1) ls' st P P' r) : G l w y pc ls (.long x :: st) P P' r := fun p e s m args below meth c H locs Ls C hR hS hl => lv_lstore_n C.1 C.2.1 d hi hl hn hf (fun Ls1 hl1 => k p e s m args below meth c H locs Ls1 C hR hS hl1)
theorem j_lstore_n {q : Fin 4} {i : Nat} {x : Int64} {ls' : List (Nat × Value)} (d : decode y.2.1 pc = .ok (.lstore_n q, 1)) (hi : (q : Nat) = i) (hn : i + 1 < y.2.2.1) (hf : (i, .long x) :: ls.filter (fun q => !(q.1 == i) && (!(q.1 == i + 1) && !(q.1 + 1 == i && q.2.category == 2))) = ls') (k : J l w y (pc + 1) ls' st S R X) : J l w y pc ls (.long x :: st) S R X := fun b hb => g_lstore_n d hi hn hf (k b hb)
theorem g_lstore {i : Nat} {x : Int64} {ls' : List (Nat × Value)} (d : decode y.2.1 pc = .ok (.lstore i, 2)) (hn : i + 1 < y.2.2.1) (hf : (i, .long x) :: ls.filter (fun q => !(q.1 == i) && (!(q.1 == i + 1) && !(q.1 + 1 == i && q.2.category == 2))) = ls') (k : G l w y (pc + 2) ls' st P P' r) : G l w y pc ls (.long x :: st) P P' r := fun p e s m args below meth c H locs Ls C hR hS hl => lv_lstore C.1 C.2.1 d hl hn hf (fun Ls1 hl1 => k p e s m args below meth c H locs Ls1 C hR hS hl1)
theorem j_lstore {i : Nat} {x : Int64} {ls' : List (Nat × Value)} (d : decode y.2.1 pc = .ok (.lstore i, 2)) (hn : i + 1 < y.2.2.1) (hf : (i, .long x) :: ls.filter (fun q => !(q.1 == i) && (!(q.1 == i + 1) && !(q.1 + 1 == i && q.2.category == 2))) = ls') (k : J l w y (pc + 2) ls' st S R X) : J l w y pc ls (.long x :: st) S R X := fun b hb => g_lstore d hn hf (k b hb)
theorem g_iinc (kp : Nat) {i : Nat} {n : Int} {x v : Int32} {ls' : List (Nat × Value)} (d : decode y.2.1 pc = .ok (.iinc i n, 3)) (hk : ls[kp]? = some (i, .int x)) (hv : x + Int32.ofInt n = v) (hn : i < y.2.2.1) (hf : (i, .int v) :: ls.filter (fun q => !(q.1 == i) && !(q.1 + 1 == i && q.2.category == 2)) = ls') (k : G l w y (pc + 3) ls' st P P' r) : G l w y pc ls st P P' r := fun p e s m args below meth c H locs Ls C hR hS hl => lv_iinc C.1 C.2.1 d hl hk hv hn hf (fun Ls1 hl1 => k p e s m args below meth c H locs Ls1 C hR hS hl1)
theorem j_iinc (kp : Nat) {i : Nat} {n : Int} {x v : Int32} {ls' : List (Nat × Value)} (d : decode y.2.1 pc = .ok (.iinc i n, 3)) (hk : ls[kp]? = some (i, .int x)) (hv : x + Int32.ofInt n = v) (hn : i < y.2.2.1) (hf : (i, .int v) :: ls.filter (fun q => !(q.1 == i) && !(q.1 + 1 == i && q.2.category == 2)) = ls') (k : J l w y (pc + 3) ls' st S R X) : J l w y pc ls st S R X := fun b hb => g_iinc kp d hk hv hn hf (k b hb)
theorem g_sub {ls' : List (Nat × Value)} (ks : List Nat) (h : lv_pick ls ks = ls') (k : G l w y pc ls' st P P' r) : G l w y pc ls st P P' r := fun p e s m args below meth c H locs Ls C hR hS hl => k p e s m args below meth c H locs Ls C hR hS (lv_sub hl ks h)
theorem j_sub {ls' : List (Nat × Value)} (ks : List Nat) (h : lv_pick ls ks = ls') (k : J l w y pc ls' st S R X) : J l w y pc ls st S R X := fun b hb => g_sub ks h (k b hb)
theorem j_ite {A B : Option β} {q : Prop} {iq : Decidable q} (h1 : q → J l w y pc ls st S R A) (h2 : ¬ q → J l w y pc ls st S R B) : J l w y pc ls st S R (if q then A else B) := by
  intro b hb
  by_cases h : q
  · rw [if_pos h] at hb; exact h1 h b hb
  · rw [if_neg h] at hb; exact h2 h b hb
theorem g_icmp_eq {off : Int} (tgt : Nat) {x z : Int32} (d : decode y.2.1 pc = .ok (.if_icmp .eq off, 3)) (ht : (pc : Int) + off = (tgt : Int)) (kt : x = z → G l w y tgt ls st P P' r) (kf : ¬ x = z → G l w y (pc + 3) ls st P P' r) : G l w y pc ls (.int z :: .int x :: st) P P' r := fun p e s m args below meth c H locs Ls C hR hS hl => lv_icmp_eq C.1 C.2.1 d ht (fun h => kt h p e s m args below meth c H locs Ls C hR hS hl) (fun h => kf h p e s m args below meth c H locs Ls C hR hS hl)
theorem j_icmp_eq {off : Int} (tgt : Nat) {x z : Int32} (d : decode y.2.1 pc = .ok (.if_icmp .eq off, 3)) (ht : (pc : Int) + off = (tgt : Int)) {A B : Option β} (kt : x = z → J l w y tgt ls st S R A) (kf : ¬ x = z → J l w y (pc + 3) ls st S R B) : J l w y pc ls (.int z :: .int x :: st) S R (if x = z then A else B) := fun b hb => by
  by_cases h : x = z
  · rw [if_pos h] at hb
    exact g_icmp_eq tgt d ht (fun h2 => kt h b hb) (fun h2 => absurd h h2)
  · rw [if_neg h] at hb
    exact g_icmp_eq tgt d ht (fun h2 => absurd h2 h) (fun h2 => kf h b hb)
theorem g_icmp_ne {off : Int} (tgt : Nat) {x z : Int32} (d : decode y.2.1 pc = .ok (.if_icmp .ne off, 3)) (ht : (pc : Int) + off = (tgt : Int)) (kt : ¬ x = z → G l w y tgt ls st P P' r) (kf : x = z → G l w y (pc + 3) ls st P P' r) : G l w y pc ls (.int z :: .int x :: st) P P' r := fun p e s m args below meth c H locs Ls C hR hS hl => lv_icmp_ne C.1 C.2.1 d ht (fun h => kt h p e s m args below meth c H locs Ls C hR hS hl) (fun h => kf h p e s m args below meth c H locs Ls C hR hS hl)
theorem j_icmp_ne {off : Int} (tgt : Nat) {x z : Int32} (d : decode y.2.1 pc = .ok (.if_icmp .ne off, 3)) (ht : (pc : Int) + off = (tgt : Int)) {A B : Option β} (kt : ¬ x = z → J l w y tgt ls st S R B) (kf : x = z → J l w y (pc + 3) ls st S R A) : J l w y pc ls (.int z :: .int x :: st) S R (if x = z then A else B) := fun b hb => by
  by_cases h : x = z
  · rw [if_pos h] at hb
    exact g_icmp_ne tgt d ht (fun h2 => absurd h (h2)) (fun h2 => kf h b hb)
  · rw [if_neg h] at hb
    exact g_icmp_ne tgt d ht (fun h2 => kt h b hb) (fun h2 => absurd (h2) h)
theorem g_icmp_lt {off : Int} (tgt : Nat) {x z : Int32} (d : decode y.2.1 pc = .ok (.if_icmp .lt off, 3)) (ht : (pc : Int) + off = (tgt : Int)) (kt : x < z → G l w y tgt ls st P P' r) (kf : ¬ x < z → G l w y (pc + 3) ls st P P' r) : G l w y pc ls (.int z :: .int x :: st) P P' r := fun p e s m args below meth c H locs Ls C hR hS hl => lv_icmp_lt C.1 C.2.1 d ht (fun h => kt h p e s m args below meth c H locs Ls C hR hS hl) (fun h => kf h p e s m args below meth c H locs Ls C hR hS hl)
theorem j_icmp_lt {off : Int} (tgt : Nat) {x z : Int32} (d : decode y.2.1 pc = .ok (.if_icmp .lt off, 3)) (ht : (pc : Int) + off = (tgt : Int)) {A B : Option β} (kt : x < z → J l w y tgt ls st S R A) (kf : ¬ x < z → J l w y (pc + 3) ls st S R B) : J l w y pc ls (.int z :: .int x :: st) S R (if x < z then A else B) := fun b hb => by
  by_cases h : x < z
  · rw [if_pos h] at hb
    exact g_icmp_lt tgt d ht (fun h2 => kt h b hb) (fun h2 => absurd h h2)
  · rw [if_neg h] at hb
    exact g_icmp_lt tgt d ht (fun h2 => absurd h2 h) (fun h2 => kf h b hb)
theorem g_icmp_ge {off : Int} (tgt : Nat) {x z : Int32} (d : decode y.2.1 pc = .ok (.if_icmp .ge off, 3)) (ht : (pc : Int) + off = (tgt : Int)) (kt : z ≤ x → G l w y tgt ls st P P' r) (kf : ¬ z ≤ x → G l w y (pc + 3) ls st P P' r) : G l w y pc ls (.int z :: .int x :: st) P P' r := fun p e s m args below meth c H locs Ls C hR hS hl => lv_icmp_ge C.1 C.2.1 d ht (fun h => kt h p e s m args below meth c H locs Ls C hR hS hl) (fun h => kf h p e s m args below meth c H locs Ls C hR hS hl)
theorem j_icmp_ge {off : Int} (tgt : Nat) {x z : Int32} (d : decode y.2.1 pc = .ok (.if_icmp .ge off, 3)) (ht : (pc : Int) + off = (tgt : Int)) {A B : Option β} (kt : ¬ x < z → J l w y tgt ls st S R B) (kf : x < z → J l w y (pc + 3) ls st S R A) : J l w y pc ls (.int z :: .int x :: st) S R (if x < z then A else B) := fun b hb => by
  by_cases h : x < z
  · rw [if_pos h] at hb
    exact g_icmp_ge tgt d ht (fun h2 => absurd h (Int32.not_lt.mpr h2)) (fun h2 => kf h b hb)
  · rw [if_neg h] at hb
    exact g_icmp_ge tgt d ht (fun h2 => kt h b hb) (fun h2 => absurd (Int32.not_le.mp h2) h)
theorem g_icmp_gt {off : Int} (tgt : Nat) {x z : Int32} (d : decode y.2.1 pc = .ok (.if_icmp .gt off, 3)) (ht : (pc : Int) + off = (tgt : Int)) (kt : z < x → G l w y tgt ls st P P' r) (kf : ¬ z < x → G l w y (pc + 3) ls st P P' r) : G l w y pc ls (.int z :: .int x :: st) P P' r := fun p e s m args below meth c H locs Ls C hR hS hl => lv_icmp_gt C.1 C.2.1 d ht (fun h => kt h p e s m args below meth c H locs Ls C hR hS hl) (fun h => kf h p e s m args below meth c H locs Ls C hR hS hl)
theorem j_icmp_gt {off : Int} (tgt : Nat) {x z : Int32} (d : decode y.2.1 pc = .ok (.if_icmp .gt off, 3)) (ht : (pc : Int) + off = (tgt : Int)) {A B : Option β} (kt : z < x → J l w y tgt ls st S R A) (kf : ¬ z < x → J l w y (pc + 3) ls st S R B) : J l w y pc ls (.int z :: .int x :: st) S R (if z < x then A else B) := fun b hb => by
  by_cases h : z < x
  · rw [if_pos h] at hb
    exact g_icmp_gt tgt d ht (fun h2 => kt h b hb) (fun h2 => absurd h h2)
  · rw [if_neg h] at hb
    exact g_icmp_gt tgt d ht (fun h2 => absurd h2 h) (fun h2 => kf h b hb)
theorem g_icmp_le {off : Int} (tgt : Nat) {x z : Int32} (d : decode y.2.1 pc = .ok (.if_icmp .le off, 3)) (ht : (pc : Int) + off = (tgt : Int)) (kt : x ≤ z → G l w y tgt ls st P P' r) (kf : ¬ x ≤ z → G l w y (pc + 3) ls st P P' r) : G l w y pc ls (.int z :: .int x :: st) P P' r := fun p e s m args below meth c H locs Ls C hR hS hl => lv_icmp_le C.1 C.2.1 d ht (fun h => kt h p e s m args below meth c H locs Ls C hR hS hl) (fun h => kf h p e s m args below meth c H locs Ls C hR hS hl)
theorem j_icmp_le {off : Int} (tgt : Nat) {x z : Int32} (d : decode y.2.1 pc = .ok (.if_icmp .le off, 3)) (ht : (pc : Int) + off = (tgt : Int)) {A B : Option β} (kt : ¬ z < x → J l w y tgt ls st S R B) (kf : z < x → J l w y (pc + 3) ls st S R A) : J l w y pc ls (.int z :: .int x :: st) S R (if z < x then A else B) := fun b hb => by
  by_cases h : z < x
  · rw [if_pos h] at hb
    exact g_icmp_le tgt d ht (fun h2 => absurd h (Int32.not_lt.mpr h2)) (fun h2 => kf h b hb)
  · rw [if_neg h] at hb
    exact g_icmp_le tgt d ht (fun h2 => kt h b hb) (fun h2 => absurd (Int32.not_le.mp h2) h)
theorem g_if_eq {off : Int} (tgt : Nat) {x : Int32} (d : decode y.2.1 pc = .ok (.ifCond .eq off, 3)) (ht : (pc : Int) + off = (tgt : Int)) (kt : x = 0 → G l w y tgt ls st P P' r) (kf : ¬ x = 0 → G l w y (pc + 3) ls st P P' r) : G l w y pc ls (.int x :: st) P P' r := fun p e s m args below meth c H locs Ls C hR hS hl => lv_if_eq C.1 C.2.1 d ht (fun h => kt h p e s m args below meth c H locs Ls C hR hS hl) (fun h => kf h p e s m args below meth c H locs Ls C hR hS hl)
theorem j_if_eq {off : Int} (tgt : Nat) {x : Int32} (d : decode y.2.1 pc = .ok (.ifCond .eq off, 3)) (ht : (pc : Int) + off = (tgt : Int)) {A B : Option β} (kt : x = 0 → J l w y tgt ls st S R A) (kf : ¬ x = 0 → J l w y (pc + 3) ls st S R B) : J l w y pc ls (.int x :: st) S R (if x = 0 then A else B) := fun b hb => by
  by_cases h : x = 0
  · rw [if_pos h] at hb
    exact g_if_eq tgt d ht (fun h2 => kt h b hb) (fun h2 => absurd h h2)
  · rw [if_neg h] at hb
    exact g_if_eq tgt d ht (fun h2 => absurd h2 h) (fun h2 => kf h b hb)
theorem g_if_ne {off : Int} (tgt : Nat) {x : Int32} (d : decode y.2.1 pc = .ok (.ifCond .ne off, 3)) (ht : (pc : Int) + off = (tgt : Int)) (kt : ¬ x = 0 → G l w y tgt ls st P P' r) (kf : x = 0 → G l w y (pc + 3) ls st P P' r) : G l w y pc ls (.int x :: st) P P' r := fun p e s m args below meth c H locs Ls C hR hS hl => lv_if_ne C.1 C.2.1 d ht (fun h => kt h p e s m args below meth c H locs Ls C hR hS hl) (fun h => kf h p e s m args below meth c H locs Ls C hR hS hl)
theorem j_if_ne {off : Int} (tgt : Nat) {x : Int32} (d : decode y.2.1 pc = .ok (.ifCond .ne off, 3)) (ht : (pc : Int) + off = (tgt : Int)) {A B : Option β} (kt : ¬ x = 0 → J l w y tgt ls st S R B) (kf : x = 0 → J l w y (pc + 3) ls st S R A) : J l w y pc ls (.int x :: st) S R (if x = 0 then A else B) := fun b hb => by
  by_cases h : x = 0
  · rw [if_pos h] at hb
    exact g_if_ne tgt d ht (fun h2 => absurd h (h2)) (fun h2 => kf h b hb)
  · rw [if_neg h] at hb
    exact g_if_ne tgt d ht (fun h2 => kt h b hb) (fun h2 => absurd (h2) h)
theorem g_if_lt {off : Int} (tgt : Nat) {x : Int32} (d : decode y.2.1 pc = .ok (.ifCond .lt off, 3)) (ht : (pc : Int) + off = (tgt : Int)) (kt : x < 0 → G l w y tgt ls st P P' r) (kf : ¬ x < 0 → G l w y (pc + 3) ls st P P' r) : G l w y pc ls (.int x :: st) P P' r := fun p e s m args below meth c H locs Ls C hR hS hl => lv_if_lt C.1 C.2.1 d ht (fun h => kt h p e s m args below meth c H locs Ls C hR hS hl) (fun h => kf h p e s m args below meth c H locs Ls C hR hS hl)
theorem j_if_lt {off : Int} (tgt : Nat) {x : Int32} (d : decode y.2.1 pc = .ok (.ifCond .lt off, 3)) (ht : (pc : Int) + off = (tgt : Int)) {A B : Option β} (kt : x < 0 → J l w y tgt ls st S R A) (kf : ¬ x < 0 → J l w y (pc + 3) ls st S R B) : J l w y pc ls (.int x :: st) S R (if x < 0 then A else B) := fun b hb => by
  by_cases h : x < 0
  · rw [if_pos h] at hb
    exact g_if_lt tgt d ht (fun h2 => kt h b hb) (fun h2 => absurd h h2)
  · rw [if_neg h] at hb
    exact g_if_lt tgt d ht (fun h2 => absurd h2 h) (fun h2 => kf h b hb)
theorem g_if_ge {off : Int} (tgt : Nat) {x : Int32} (d : decode y.2.1 pc = .ok (.ifCond .ge off, 3)) (ht : (pc : Int) + off = (tgt : Int)) (kt : 0 ≤ x → G l w y tgt ls st P P' r) (kf : ¬ 0 ≤ x → G l w y (pc + 3) ls st P P' r) : G l w y pc ls (.int x :: st) P P' r := fun p e s m args below meth c H locs Ls C hR hS hl => lv_if_ge C.1 C.2.1 d ht (fun h => kt h p e s m args below meth c H locs Ls C hR hS hl) (fun h => kf h p e s m args below meth c H locs Ls C hR hS hl)
theorem j_if_ge {off : Int} (tgt : Nat) {x : Int32} (d : decode y.2.1 pc = .ok (.ifCond .ge off, 3)) (ht : (pc : Int) + off = (tgt : Int)) {A B : Option β} (kt : ¬ x < 0 → J l w y tgt ls st S R B) (kf : x < 0 → J l w y (pc + 3) ls st S R A) : J l w y pc ls (.int x :: st) S R (if x < 0 then A else B) := fun b hb => by
  by_cases h : x < 0
  · rw [if_pos h] at hb
    exact g_if_ge tgt d ht (fun h2 => absurd h (Int32.not_lt.mpr h2)) (fun h2 => kf h b hb)
  · rw [if_neg h] at hb
    exact g_if_ge tgt d ht (fun h2 => kt h b hb) (fun h2 => absurd (Int32.not_le.mp h2) h)
theorem g_if_gt {off : Int} (tgt : Nat) {x : Int32} (d : decode y.2.1 pc = .ok (.ifCond .gt off, 3)) (ht : (pc : Int) + off = (tgt : Int)) (kt : 0 < x → G l w y tgt ls st P P' r) (kf : ¬ 0 < x → G l w y (pc + 3) ls st P P' r) : G l w y pc ls (.int x :: st) P P' r := fun p e s m args below meth c H locs Ls C hR hS hl => lv_if_gt C.1 C.2.1 d ht (fun h => kt h p e s m args below meth c H locs Ls C hR hS hl) (fun h => kf h p e s m args below meth c H locs Ls C hR hS hl)
theorem j_if_gt {off : Int} (tgt : Nat) {x : Int32} (d : decode y.2.1 pc = .ok (.ifCond .gt off, 3)) (ht : (pc : Int) + off = (tgt : Int)) {A B : Option β} (kt : 0 < x → J l w y tgt ls st S R A) (kf : ¬ 0 < x → J l w y (pc + 3) ls st S R B) : J l w y pc ls (.int x :: st) S R (if 0 < x then A else B) := fun b hb => by
  by_cases h : 0 < x
  · rw [if_pos h] at hb
    exact g_if_gt tgt d ht (fun h2 => kt h b hb) (fun h2 => absurd h h2)
  · rw [if_neg h] at hb
    exact g_if_gt tgt d ht (fun h2 => absurd h2 h) (fun h2 => kf h b hb)
theorem g_if_le {off : Int} (tgt : Nat) {x : Int32} (d : decode y.2.1 pc = .ok (.ifCond .le off, 3)) (ht : (pc : Int) + off = (tgt : Int)) (kt : x ≤ 0 → G l w y tgt ls st P P' r) (kf : ¬ x ≤ 0 → G l w y (pc + 3) ls st P P' r) : G l w y pc ls (.int x :: st) P P' r := fun p e s m args below meth c H locs Ls C hR hS hl => lv_if_le C.1 C.2.1 d ht (fun h => kt h p e s m args below meth c H locs Ls C hR hS hl) (fun h => kf h p e s m args below meth c H locs Ls C hR hS hl)
theorem j_if_le {off : Int} (tgt : Nat) {x : Int32} (d : decode y.2.1 pc = .ok (.ifCond .le off, 3)) (ht : (pc : Int) + off = (tgt : Int)) {A B : Option β} (kt : ¬ 0 < x → J l w y tgt ls st S R B) (kf : 0 < x → J l w y (pc + 3) ls st S R A) : J l w y pc ls (.int x :: st) S R (if 0 < x then A else B) := fun b hb => by
  by_cases h : 0 < x
  · rw [if_pos h] at hb
    exact g_if_le tgt d ht (fun h2 => absurd h (Int32.not_lt.mpr h2)) (fun h2 => kf h b hb)
  · rw [if_neg h] at hb
    exact g_if_le tgt d ht (fun h2 => kt h b hb) (fun h2 => absurd (Int32.not_le.mp h2) h)
theorem b2i_0 {q : Bool} : b2i q = 0 ↔ ¬ q = true := by cases q <;> decide
theorem j_if_eqB {off : Int} (tgt : Nat) {q : Bool} (d : decode y.2.1 pc = .ok (.ifCond .eq off, 3)) (ht : (pc : Int) + off = (tgt : Int)) {A B : Option β} (kt : ¬ q = true → J l w y tgt ls st S R B) (kf : q = true → J l w y (pc + 3) ls st S R A) : J l w y pc ls (.int (b2i q) :: st) S R (if q = true then A else B) := fun b hb => by
  by_cases h : q = true
  · rw [if_pos h] at hb
    exact g_if_eq tgt d ht (fun h2 => absurd h (b2i_0.mp h2)) (fun h2 => kf h b hb)
  · rw [if_neg h] at hb
    exact g_if_eq tgt d ht (fun h2 => kt h b hb) (fun h2 => absurd (b2i_0.mpr h) h2)
theorem j_if_neB {off : Int} (tgt : Nat) {q : Bool} (d : decode y.2.1 pc = .ok (.ifCond .ne off, 3)) (ht : (pc : Int) + off = (tgt : Int)) {A B : Option β} (kt : q = true → J l w y tgt ls st S R A) (kf : ¬ q = true → J l w y (pc + 3) ls st S R B) : J l w y pc ls (.int (b2i q) :: st) S R (if q = true then A else B) := fun b hb => by
  by_cases h : q = true
  · rw [if_pos h] at hb
    exact g_if_ne tgt d ht (fun h2 => kt h b hb) (fun h2 => absurd h (b2i_0.mp h2))
  · rw [if_neg h] at hb
    exact g_if_ne tgt d ht (fun h2 => absurd (b2i_0.mpr h) h2) (fun h2 => kf h b hb)
end Rules
