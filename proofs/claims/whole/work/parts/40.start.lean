theorem nw_L_7 : NW R_law 7 6 7 [true, true, false, true, true, true, false] := ⟨_, _, tyX6, rfl, iX6, tyX6_ok, gm 47 (by decide +kernel) rfl, gm 48 (by decide +kernel) rfl, gm 37 (by decide +kernel) rfl, rfl, by decide +kernel⟩
theorem nw_L_10 : NW R_law 10 7 19 [true, true, true, true, false, true, true, true, true, false, false, true, true, true, true, true, true, true, true] := ⟨_, _, tyX7, rfl, iX7, tyX7_ok, gm 788 (by decide +kernel) rfl, gm 789 (by decide +kernel) rfl, gm 44 (by decide +kernel) rfl, rfl, by decide +kernel⟩
theorem ci_L_9 : CWI R_law 9 0 I_X6_init_0 := ⟨⟨gm 49 (by decide +kernel) rfl, gm 51 (by decide +kernel) rfl, gm 37 (by decide +kernel) rfl, mh_6.1, mh_6.2, by decide +kernel⟩, rfl, gm 50 (by decide +kernel) rfl⟩
theorem ci_L_12 : CWI R_law 12 0 I_X7_init_108 := ⟨⟨gm 790 (by decide +kernel) rfl, gm 792 (by decide +kernel) rfl, gm 44 (by decide +kernel) rfl, mh_7.1, mh_7.2, by decide +kernel⟩, rfl, gm 791 (by decide +kernel) rfl⟩
-- THE LAW'S START: two books are made, then the loop
section Start
variable {p : Program} {l : Launch} {e : Env} {s : State} {m : MethodId} {below : List Frame} {meth : Method} {c : Code} {b L : Nat} {xs : Nat → Int32} {w : Wd} {pc : Nat} {ls : List (Nat × Value)} {st : List Value} {S S' : St} {n n' k z : Nat} {ρ ρ' : Rf}
theorem gl_new (C : CL p s m meth c b L xs w) {idx ci N : Nat} {fl : List Bool} (hW : NW R_law idx ci N fl) (hk : kd n = .inl (ci, fl)) (h0 : ∀ j, S.1 n j = 0) (h1 : ∀ j, ρ n j = none) (hc : k + 1 ≤ 600000) (hs : z + N ≤ 7302250) (d : decode code pc = .ok (.new idx, 3))
    (kk : GL p l e s m below meth c b w (pc + 3) ls (.ref (w.2.1 + n) :: st) (n + 1, ρ, S, k + 1, z + N)) : GL p l e s m below meth c b w pc ls st (n, ρ, S, k, z) := by
  intro H locs Ls hR hS hl
  obtain ⟨CC, T, ty, g1, g2, g3, g4, g5, g6, g7, g8⟩ := hW
  refine va_new (ci := ci) (fs := flds w S ρ n fl) (C := CC) (T := T) (N := N) C.1 C.2.1 C.2.2.2.2.1 g2 ty g3 C.2.2.2.1 (C.2.2.2.2.1 _ g4) (C.2.2.2.2.1 _ g5) (C.2.2.2.2.1 _ g6) C.2.2.2.2.2.1.1 hR.1 wls_D hS (fun q hq => by show w.2.1 ≤ q; rw [C.2.2.2.2.2.2.1]; exact hq) g1 ?_ hc hs d (fun q H1 hP1 hD1 hS1 => ?_)
  · intro j hj
    rw [g8 j hj]
    have hj2 : j < fl.length := by omega
    have e1 : fl[j]? = some fl[j] := List.getElem?_eq_getElem hj2
    have e2 : fl.getD j false = fl[j] := by rw [List.getD_eq_getElem?_getD, e1]; rfl
    rw [e2]
    show _ = (flds w S ρ n fl).getD j .null
    rw [List.getD_eq_getElem?_getD, flds_at e1]
    simp only [Option.getD_some, fv, h0, h1, Option.map_none, va_rf]
  · intro T hT Y
    have hq := made_at hR.2 hT Y hP1 hD1
    subst hq
    rw [wls_push (by rw [cel_o hk])] at hP1
    exact kk H1 locs Ls ⟨hP1, by have h9 : s.heap.size + k = w.2.1 + n := hR.2; show s.heap.size + (k + 1) = w.2.1 + (n + 1); omega⟩ hS1 hl T hT Y
theorem gl_callI (C : CL p s m meth c b L xs w) {idx na t mc ms : Nat} {y' : MI} {As : List Value} (hc : CWI R_law idx na y') (hret : y'.2.2.2.1 = none) (hrc : y'.2.2.2.2.cells = mc) (hrs : y'.2.2.2.2.slots = ms) (hfr : y'.2.2.2.2.frames + 1 ≤ 12 ∧ 8 + (y'.2.2.1 + 11) + y'.2.2.2.2.locals ≤ 470) (hn : As.length = na) (hst : (st.map fun v => v.category).sum ≤ 8) (hf : k + mc ≤ 600000 ∧ z + ms ≤ 7302250) (h0n : 0 < n) (hnn : n' = n + mc) (d : decode code pc = .ok (.invokespecial idx, 3)) (hC : Ct l w y' (.ref (w.2.1 + t) :: As) n ρ S (n', ρ', S', mc, ms) none)
    (kk : GL p l e s m below meth c b w (pc + 3) ls st (n', ρ', S', k + mc, z + ms)) : GL p l e s m below meth c b w pc ls (As.reverse ++ .ref (w.2.1 + t) :: st) (n, ρ, S, k, z) := by
  intro H locs Ls hR hS hl T hT Y
  have hz : H.size = w.2.1 + n := g_size hT Y hR h0n
  have hB := callB_of (R := room_1) (own := R_law) (index := idx) (y := y'.1) (bytes := y'.2.1) (maxL := y'.2.2.1) (ret := y'.2.2.2.1) (rm := y'.2.2.2.2) (mc := mc) (ms := ms) (ws := wsY y') na C.2.2.2.2.1 (lw_goodIn' hc.1.2.1) rfl hrc hrs (C.2.2.2.2.1 _ hc.1.2.2.1) (C.2.2.2.2.1 _ hc.1.1) hc.1.2.2.2 hfr
  rw [hret] at hB
  refine law_run (S' := S') (ρ' := ρ') (k := k) (z := z) (mc := mc) (ms := ms) (n := n) (n' := n') (st0 := As.reverse ++ .ref (w.2.1 + t) :: st) (rest := st) (r0 := none) hR.2 hnn hS hl (va_runI (As := As) (n := na) ⟨C.1, C.2.1, C.2.2.1, C.2.2.2.1, C.2.2.2.2.1⟩ hC ⟨hB, hc.2.1, C.2.2.2.2.1 _ hc.2.2⟩ ⟨pre_blind, ?_⟩ rfl hn hl.1 rfl (lv_room hst) d hf) kk T hT Y
  intro U hU hW
  exact ⟨rfl, by rw [hU]; exact hz, by rw [hU]; exact hR.1, KK.warm hW C.2.2.2.2.2.1⟩
theorem gl_lit {P' : WP} (h : (n, ρ, S, k, z) = P') (kk : GL p l e s m below meth c b w pc ls st P') : GL p l e s m below meth c b w pc ls st (n, ρ, S, k, z) := by
  rw [h]; exact kk
end Start
theorem arrV_cong {cA : ClassId} {N : Nat} {f g : Nat → Value} (h : ∀ j, j < N → f j = g j) : arrV cA N f = arrV cA N g := by
  unfold arrV
  congr 1
  congr 1
  funext j
  exact h j.val j.isLt
/-- the references as they were laid are those that the cells' kinds tell -/
def refOk (i k : Nat) : Bool := match kd i with
  | .inl c => !(c.2.getD k false) || (r_X7_init_108 i k == rho i k)
  | .inr c => decide (c.1 ≤ 2) || decide (c.2 ≤ k) || (r_X7_init_108 i k == rho i k)
theorem refs_ok : ∀ i, i < 125 → ∀ k, k < 20 → refOk i k = true := by decide +kernel
theorem kd_small : ∀ i, i < 125 → (match kd i with | .inl c => decide (c.2.length ≤ 20) | .inr c => decide (c.1 ≤ 2) || decide (c.2 ≤ 20)) = true := by decide +kernel
theorem rep_fin {w : Wd} {S : St} {H : Heap} (h : Rep w 125 r_X7_init_108 S H) : Rep w 125 rho S H := by
  intro i q hq
  obtain ⟨hi, rfl⟩ := wls_lt hq
  have h1 := h i _ (wls_at hi)
  have hs := kd_small i hi
  cases hk : kd i with
  | inl c =>
    obtain ⟨ci, fl⟩ := c
    rw [hk] at hs
    simp only [decide_eq_true_eq] at hs
    have e1 : cel w S rho i = cel w S r_X7_init_108 i := by
      rw [cel_o hk, cel_o hk]
      congr 2
      apply List.ext_getElem?
      intro k
      by_cases hkl : k < fl.length
      · have e2 : fl[k]? = some fl[k] := List.getElem?_eq_getElem hkl
        rw [flds_at e2, flds_at e2]
        have ho := refs_ok i hi k (by omega)
        simp only [refOk, hk, List.getD_eq_getElem?_getD, e2, Option.getD_some] at ho
        cases hb : fl[k] with
        | false => simp [fv]
        | true =>
          rw [hb] at ho
          simp at ho
          simp [fv, ho]
      · rw [List.getElem?_eq_none (by rw [flds_len]; omega), List.getElem?_eq_none (by rw [flds_len]; omega)]
    rw [e1]; exact h1
  | inr c =>
    obtain ⟨t, N⟩ := c
    rw [hk] at hs
    match t, hk, hs with
    | 0, hk, hs => rw [cel_a hk] at h1 ⊢; exact h1
    | 1, hk, hs => rw [cel_a hk] at h1 ⊢; exact h1
    | 2, hk, hs => rw [cel_a hk] at h1 ⊢; exact h1
    | t + 3, hk, hs =>
      have hN : N ≤ 20 := by simpa using hs
      rw [cel_a hk, arc_3] at h1 ⊢
      have h2 : H[w.2.1 + i]? = some (arrV (w.2.2 (t + 3)) N (fun j => va_rf ((r_X7_init_108 i j).map (fun q => w.2.1 + q)))) := h1
      show H[w.2.1 + i]? = some (arrV (w.2.2 (t + 3)) N (fun j => va_rf ((rho i j).map (fun q => w.2.1 + q))))
      rw [h2]
      congr 1
      apply arrV_cong
      intro j hj
      have ho := refs_ok i hi j (by omega)
      simp only [refOk, hk] at ho
      have h3 : ¬ (t + 3 ≤ 2) := by omega
      have h4 : ¬ N ≤ j := by omega
      simp [h3, h4] at ho
      rw [ho]
theorem aX0 : ∀ q ∈ u_ws RX0 TX0 13, q ∈ lw_tbl := fun q h => (List.mem_filter.mp (iX0 q h)).1
theorem aX1 : ∀ q ∈ u_ws RX1 TX1 10, q ∈ lw_tbl := fun q h => (List.mem_filter.mp (iX1 q h)).1
theorem aX2 : ∀ q ∈ u_ws RX2 TX2 11, q ∈ lw_tbl := fun q h => (List.mem_filter.mp (iX2 q h)).1
theorem aX3 : ∀ q ∈ u_ws RX3 TX3 4, q ∈ lw_tbl := fun q h => (List.mem_filter.mp (iX3 q h)).1
theorem aX4 : ∀ q ∈ u_ws RX4 TX4 3, q ∈ lw_tbl := fun q h => (List.mem_filter.mp (iX4 q h)).1
theorem aX5 : ∀ q ∈ u_ws RX5 TX5 8, q ∈ lw_tbl := fun q h => (List.mem_filter.mp (iX5 q h)).1
theorem aX6 : ∀ q ∈ u_ws RX6 TX6 7, q ∈ lw_tbl := fun q h => (List.mem_filter.mp (iX6 q h)).1
theorem aX7 : ∀ q ∈ u_ws RX7 TX7 19, q ∈ lw_tbl := fun q h => (List.mem_filter.mp (iX7 q h)).1
theorem nest_in : ∀ q ∈ nestL, Cond.methodLinkNest q.1 q.2.1 q.2.2.1 q.2.2.2 ∈ lw_tbl := by decide +kernel
theorem ar_prim {s : State} {ty : FieldType} {A : Array Value} (h : (Cond.arrayClass ty).before A s = true) (hty : ∀ C, ty ≠ .object C) : ∃ cA : ClassId, ArrOfT s cA ty ∧ va_RA s cA ty := by
  obtain ⟨cA, kA, comp, h1, h2, h3⟩ := Cond.arrayClass_spec h
  refine ⟨cA, fun n z => ⟨fun k h => (by cases h), kA, h2, comp, h3⟩, ?_⟩
  cases ty <;> first | exact h1 | exact absurd rfl (hty _)
theorem ar_obj {s : State} {C : String} (h : va_AO C s) : ∃ cA : ClassId, ArrOfT s cA (.object C) ∧ va_RA s cA (.object C) := by
  obtain ⟨comp, cA, kA, h1, h2, h3, h4, h5⟩ := Cond.arrayOver_spec h
  exact ⟨cA, fun n z => ⟨fun k h => (by cases h), kA, h3, comp, h4⟩, kA, comp, h3, h4, h1, h5⟩
set_option maxRecDepth 100000 in
set_option maxHeartbeats 4000000 in
/-- the law from its entry, by what the pure law answers -/
theorem whole_open {p : Program} {e : Env} {s : State} {m : MethodId} {below : List Frame} {meth : Method} {c : Code} (l : Launch) {b L : Nat} {xs : Nat → Int32} (hL : L ≤ 3072) (C0 : lw_At p s m meth c b L xs) (hpure : f_law 600 xs L 0 s_X7_init_108 = some true) : W p l e room_1 s m #[Value.ref b] below meth c s.heap [] 0 0 (lw_Z below #[Value.ref b] s) (entryFrame m ([Value.ref b] : List Value).toArray 4) := by
  obtain ⟨hx, hb, hr, hml, hown, hts, hX, hbl, hlocks, hgv⟩ := id C0
  obtain ⟨c0, i0, k0⟩ := u_known (C := RX0) (T := TX0) (N := 13) (n := 13) hts aX0 (hts _ (by decide +kernel))
  obtain ⟨c1, i1, k1⟩ := u_known (C := RX1) (T := TX1) (N := 10) (n := 10) hts aX1 (hts _ (by decide +kernel))
  obtain ⟨c2, i2, k2⟩ := u_known (C := RX2) (T := TX2) (N := 11) (n := 11) hts aX2 (hts _ (by decide +kernel))
  obtain ⟨c3, i3, k3⟩ := u_known (C := RX3) (T := TX3) (N := 4) (n := 4) hts aX3 (hts _ (by decide +kernel))
  obtain ⟨c4, i4, k4⟩ := u_known (C := RX4) (T := TX4) (N := 3) (n := 3) hts aX4 (hts _ (by decide +kernel))
  obtain ⟨c5, i5, k5⟩ := u_known (C := RX5) (T := TX5) (N := 8) (n := 8) hts aX5 (hts _ (by decide +kernel))
  obtain ⟨c6, i6, k6⟩ := u_known (C := RX6) (T := TX6) (N := 7) (n := 7) hts aX6 (hts _ (by decide +kernel))
  obtain ⟨c7, i7, k7⟩ := u_known (C := RX7) (T := TX7) (N := 19) (n := 19) hts aX7 (hts _ (by decide +kernel))
  obtain ⟨dC, dI, hKc⟩ : ∃ (dC : Nat → ClassId) (dI : Nat → Nat → Nat), ∀ (k : Nat) (q : vw_C), vwCl[k]? = some q → u_Kn s q.1 q.2.1 q.2.2 (dC k) (dI k) := by
    refine ⟨fun k => match k with | 0 => c0 | 1 => c1 | 2 => c2 | 3 => c3 | 4 => c4 | 5 => c5 | 6 => c6 | _ => c7, fun k => match k with | 0 => i0 | 1 => i1 | 2 => i2 | 3 => i3 | 4 => i4 | 5 => i5 | 6 => i6 | _ => i7, ?_⟩
    intro k q hq
    match k, hq with
    | 0, hq => cases hq; exact k0
    | 1, hq => cases hq; exact k1
    | 2, hq => cases hq; exact k2
    | 3, hq => cases hq; exact k3
    | 4, hq => cases hq; exact k4
    | 5, hq => cases hq; exact k5
    | 6, hq => cases hq; exact k6
    | 7, hq => cases hq; exact k7
    | k + 8, hq => simp [vwCl] at hq
  have ao5 : va_AO RX5 s := va_AO.of (hts (.arrayOver (.object RX5)) (by decide +kernel))
  have ao2 : va_AO RX2 s := va_AO.of (hts (.arrayOver (.object RX2)) (by decide +kernel))
  have ao4 : va_AO RX4 s := va_AO.of (hts (.arrayOver (.object RX4)) (by decide +kernel))
  obtain ⟨a0, g0, r0⟩ := ar_prim (hts (.arrayClass .int) (by decide +kernel)) (fun _ h => by cases h)
  obtain ⟨a1, g1, r1⟩ := ar_prim (hts (.arrayClass .boolean) (by decide +kernel)) (fun _ h => by cases h)
  obtain ⟨a2, g2, r2⟩ := ar_prim (hts (.arrayClass .long) (by decide +kernel)) (fun _ h => by cases h)
  obtain ⟨a3, g3, r3⟩ := ar_obj ao5
  obtain ⟨a4, g4, r4⟩ := ar_obj ao2
  obtain ⟨a5, g5, r5⟩ := ar_obj ao4
  obtain ⟨w, hw0, hw1, hK⟩ : ∃ w : Wd, w.2.1 = s.heap.size ∧ w.1 = (dC, dI) ∧ KK w s := by
    refine ⟨((dC, dI), s.heap.size, fun k => match k with | 0 => a0 | 1 => a1 | 2 => a2 | 3 => a3 | 4 => a4 | _ => a5), rfl, rfl, ⟨hKc, ?_⟩, ao5, ao2, ao4, fun q hq => va_Nw.of rfl (hts _ (nest_in q hq))⟩
    intro k q hq
    match k, hq with
    | 0, hq => cases hq; exact ⟨g0, r0⟩
    | 1, hq => cases hq; exact ⟨g1, r1⟩
    | 2, hq => cases hq; exact ⟨g2, r2⟩
    | 3, hq => cases hq; exact ⟨g3, r3⟩
    | 4, hq => cases hq; exact ⟨g4, r4⟩
    | 5, hq => cases hq; exact ⟨g5, r5⟩
    | k + 6, hq => simp [tys] at hq
  have C : CL p s m meth c b L xs w := ⟨hx, hb, hml, hown, fun q hq => hts q (List.mem_filter.mp hq).1, hK, hw0, hX, hbl, hr, hlocks⟩
  have hl := lv_entry ([.ref b]) (n := 4) (Nat.le_of_ble_eq_true rfl)
  rw [lg_entry_eq]
  have main : GL p l e s m below meth c b w 0 [(0, .ref b)] [] (0, rho0, St0, 0, 0) := by
    refine gl_new C nw_L_7 (show kd 0 = _ from rfl) (fun _ => rfl) (fun _ => rfl) (by decide) (by decide) dL_law_0 ?_
    refine gl_dup C dL_law_3 rfl ?_
    refine gl_callI C (y' := I_X6_init_0) (As := []) (t := 0) ci_L_9 rfl rfl rfl (by decide) rfl (Nat.le_of_ble_eq_true rfl) (by decide) (by decide) rfl dL_law_4 (c_X6_init_0 l w) ?_
    refine gl_astore_n C (ls' := [(1, .ref (w.2.1 + 0)), (0, .ref b)]) dL_law_7 rfl (by decide) rfl ?_
    refine gl_lit (P' := (108, r_X6_init_0, s_X6_init_0, 108, 1957)) rfl ?_
    refine gl_new C nw_L_10 (show kd 108 = _ from rfl) (fun _ => rfl) (fun _ => rfl) (by decide) (by decide) dL_law_8 ?_
    refine gl_lit (P' := (109, r_X6_init_0, s_X6_init_0, 109, 1976)) rfl ?_
    refine gl_dup C dL_law_11 rfl ?_
    refine gl_callI C (y' := I_X7_init_108) (As := []) (t := 108) ci_L_12 rfl rfl rfl (by decide) rfl (Nat.le_of_ble_eq_true rfl) (by decide) (by decide) rfl dL_law_12 (c_X7_init_108 l w) ?_
    refine gl_lit (P' := (125, r_X7_init_108, s_X7_init_108, 125, ZZ)) rfl ?_
    refine gl_astore_n C (ls' := [(2, .ref (w.2.1 + 108)), (1, .ref (w.2.1 + 0)), (0, .ref b)]) dL_law_15 rfl (by decide) rfl ?_
    refine gl_iconst C (v := 0) dL_law_16 (by decide) ?_
    refine gl_istore_n C (ls' := [(3, .int 0), (2, .ref (w.2.1 + 108)), (1, .ref (w.2.1 + 0)), (0, .ref b)]) dL_law_17 rfl (by decide) rfl ?_
    intro H locs Ls hR hS hl
    exact law_loop C hL 600 0 s_X7_init_108 (by omega) hpure H locs Ls ⟨rep_fin hR.1, hR.2⟩ hS (lv_sub hl [3, 2, 1, 0] rfl)
  exact main s.heap [] _ ⟨fun k q h => by simp [wls] at h, by show s.heap.size + 0 = w.2.1 + 0; rw [hw0]⟩ va_S.rf hl
