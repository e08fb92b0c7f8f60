abbrev I_X7_get : MI := (yX7_get, cX7_get, 3, some .int, { frames := 0, cells := 0, slots := 0, locals := 0 })
theorem dX7_get_0 : decode cX7_get 0 = .ok (.aload_n 0, 1) := by decide +kernel
theorem dX7_get_1 : decode cX7_get 1 = .ok (.getfield 7, 3) := by decide +kernel
theorem dX7_get_4 : decode cX7_get 4 = .ok (.bipush 66, 2) := by decide +kernel
theorem dX7_get_6 : decode cX7_get 6 = .ok (.bipush 11, 2) := by decide +kernel
theorem dX7_get_8 : decode cX7_get 8 = .ok (.iload_n 1, 1) := by decide +kernel
theorem dX7_get_9 : decode cX7_get 9 = .ok (.imul, 1) := by decide +kernel
theorem dX7_get_10 : decode cX7_get 10 = .ok (.iadd, 1) := by decide +kernel
theorem dX7_get_11 : decode cX7_get 11 = .ok (.iload_n 2, 1) := by decide +kernel
theorem dX7_get_12 : decode cX7_get 12 = .ok (.iadd, 1) := by decide +kernel
theorem dX7_get_13 : decode cX7_get 13 = .ok (.iaload, 1) := by decide +kernel
theorem dX7_get_14 : decode cX7_get 14 = .ok (.ireturn, 1) := by decide +kernel
def f_X7_get (x1 : Int32) (x2 : Int32) (S : St) : Option (Int32) := if inb (((66 : Int32) + ((11 : Int32) * x1)) + x2) 788 = true then (some (rd S 109 (ix (((66 : Int32) + ((11 : Int32) * x1)) + x2)))) else none
set_option maxRecDepth 100000 in
set_option maxHeartbeats 4000000 in
theorem m_X7_get (l : Launch) (w : Wd) (x1 : Int32) (x2 : Int32) (S : St)  : J l w I_X7_get 0 [(0, .ref (w.2.1 + 108)), (1, .int x1), (2, .int x2)] [] S (fun b => (some (.int b), S)) (f_X7_get x1 x2 S) := by
  unfold f_X7_get
  refine j_aload_n (y := I_X7_get) 0 dX7_get_0 rfl rfl ?_
  refine j_getR (y := I_X7_get) (j := 109) fl_7_7 k_108 rfl rfl dX7_get_1 ?_
  refine j_bipush (y := I_X7_get) (v := 66) dX7_get_4 (by decide) ?_
  refine j_bipush (y := I_X7_get) (v := 11) dX7_get_6 (by decide) ?_
  refine j_iload_n (y := I_X7_get) 1 dX7_get_8 rfl rfl ?_
  refine j_imul (y := I_X7_get) dX7_get_9 ?_
  refine j_iadd (y := I_X7_get) dX7_get_10 ?_
  refine j_iload_n (y := I_X7_get) 2 dX7_get_11 rfl rfl ?_
  refine j_iadd (y := I_X7_get) dX7_get_12 ?_
  refine j_iald (y := I_X7_get) k_109 dX7_get_13 (fun h13 => ?_)
  exact j_iret (y := I_X7_get) rfl dX7_get_14 rfl
theorem c_X7_get (l : Launch) (w : Wd) (x1 : Int32) (x2 : Int32) (S : St)  : ∀ v, f_X7_get x1 x2 S = some v → CtS l w I_X7_get [.ref (w.2.1 + 108), .int x1, .int x2] S S (some (.int v)) := fun v h => J.ct (av := [.ref (w.2.1 + 108), .int x1, .int x2]) (Nat.le_of_ble_eq_true rfl) pn_7 (m_X7_get l w x1 x2 S ) h
abbrev I_X7_age : MI := (yX7_age, cX7_age, 2, some .int, { frames := 1, cells := 0, slots := 0, locals := 22 })
theorem dX7_age_0 : decode cX7_age 0 = .ok (.aload_n 0, 1) := by decide +kernel
theorem dX7_age_1 : decode cX7_age 1 = .ok (.getfield 7, 3) := by decide +kernel
theorem dX7_age_4 : decode cX7_age 4 = .ok (.sipush 784, 3) := by decide +kernel
theorem dX7_age_7 : decode cX7_age 7 = .ok (.iaload, 1) := by decide +kernel
theorem dX7_age_8 : decode cX7_age 8 = .ok (.aload_n 0, 1) := by decide +kernel
theorem dX7_age_9 : decode cX7_age 9 = .ok (.iload_n 1, 1) := by decide +kernel
theorem dX7_age_10 : decode cX7_age 10 = .ok (.iconst 5, 1) := by decide +kernel
theorem dX7_age_11 : decode cX7_age 11 = .ok (.invokevirtual 68, 3) := by decide +kernel
theorem dX7_age_14 : decode cX7_age 14 = .ok (.isub, 1) := by decide +kernel
theorem dX7_age_15 : decode cX7_age 15 = .ok (.ireturn, 1) := by decide +kernel
theorem cv_7_68 : CV RX7 68 2 7 I_X7_get := ⟨⟨⟨gm 883 (by decide +kernel) rfl, gm 886 (by decide +kernel) rfl, gm 44 (by decide +kernel) rfl, mh_7.1, mh_7.2, by decide +kernel⟩, gm 885 (by decide +kernel) rfl, gm 6 (by decide +kernel) rfl⟩, ⟨_, _, rfl⟩, rfl, rfl⟩
def f_X7_age (x1 : Int32) (S : St) : Option (Int32) := (f_X7_get x1 (5 : Int32) S).bind fun v11 => (some ((rd S 109 (ix (784 : Int32))) - v11))
set_option maxRecDepth 100000 in
set_option maxHeartbeats 4000000 in
theorem m_X7_age (l : Launch) (w : Wd) (x1 : Int32) (S : St)  : J l w I_X7_age 0 [(0, .ref (w.2.1 + 108)), (1, .int x1)] [] S (fun b => (some (.int b), S)) (f_X7_age x1 S) := by
  unfold f_X7_age
  refine j_aload_n (y := I_X7_age) 0 dX7_age_0 rfl rfl ?_
  refine j_getR (y := I_X7_age) (j := 109) fl_7_7 k_108 rfl rfl dX7_age_1 ?_
  refine j_sipush (y := I_X7_age) (v := 784) dX7_age_4 (by decide) ?_
  refine j_ialdL (y := I_X7_age) k_109 (by decide) dX7_age_7 ?_
  refine j_aload_n (y := I_X7_age) 0 dX7_age_8 rfl rfl ?_
  refine j_iload_n (y := I_X7_age) 1 dX7_age_9 rfl rfl ?_
  refine j_iconst (y := I_X7_age) (v := 5) dX7_age_10 (by decide) ?_
  refine j_callViR (y := I_X7_age) (As := [.int x1, .int (5 : Int32)]) cv_7_68 ⟨Nat.le_of_ble_eq_true rfl, Nat.le_of_ble_eq_true rfl⟩ k_108 rfl (Nat.le_of_ble_eq_true rfl) dX7_age_11 (c_X7_get l w x1 (5 : Int32) S) (fun v11 h11 => ?_)
  refine j_isub (y := I_X7_age) dX7_age_14 ?_
  exact j_iret (y := I_X7_age) rfl dX7_age_15 rfl
theorem c_X7_age (l : Launch) (w : Wd) (x1 : Int32) (S : St)  : ∀ v, f_X7_age x1 S = some v → CtS l w I_X7_age [.ref (w.2.1 + 108), .int x1] S S (some (.int v)) := fun v h => J.ct (av := [.ref (w.2.1 + 108), .int x1]) (Nat.le_of_ble_eq_true rfl) pn_7 (m_X7_age l w x1 S ) h
abbrev I_X7_in : MI := (yX7_in, cX7_in, 3, some .boolean, { frames := 0, cells := 0, slots := 0, locals := 0 })
theorem dX7_in_0 : decode cX7_in 0 = .ok (.iload_n 0, 1) := by decide +kernel
theorem dX7_in_1 : decode cX7_in 1 = .ok (.iload_n 1, 1) := by decide +kernel
theorem dX7_in_2 : decode cX7_in 2 = .ok (.if_icmp .lt 12, 3) := by decide +kernel
theorem dX7_in_5 : decode cX7_in 5 = .ok (.iload_n 0, 1) := by decide +kernel
theorem dX7_in_6 : decode cX7_in 6 = .ok (.iload_n 2, 1) := by decide +kernel
theorem dX7_in_7 : decode cX7_in 7 = .ok (.if_icmp .gt 7, 3) := by decide +kernel
theorem dX7_in_10 : decode cX7_in 10 = .ok (.iconst 1, 1) := by decide +kernel
theorem dX7_in_11 : decode cX7_in 11 = .ok (.goto 4, 3) := by decide +kernel
theorem dX7_in_14 : decode cX7_in 14 = .ok (.iconst 0, 1) := by decide +kernel
theorem dX7_in_15 : decode cX7_in 15 = .ok (.ireturn, 1) := by decide +kernel
def f_X7_in (x0 : Int32) (x1 : Int32) (x2 : Int32)  : Bool := if x0 < x1 then (false) else (if x2 < x0 then (false) else (true))
set_option maxRecDepth 100000 in
set_option maxHeartbeats 4000000 in
theorem m_X7_in (l : Launch) (w : Wd) (x0 : Int32) (x1 : Int32) (x2 : Int32) (S : St)  : J l w I_X7_in 0 [(0, .int x0), (1, .int x1), (2, .int x2)] [] S (fun b => (some (.int (b2i b)), S)) (some (f_X7_in x0 x1 x2)) := by
  unfold f_X7_in
  refine j_iload_n (y := I_X7_in) 0 dX7_in_0 rfl rfl ?_
  refine j_iload_n (y := I_X7_in) 1 dX7_in_1 rfl rfl ?_
  refine j_si ?_
  refine j_icmp_lt (y := I_X7_in) 14 dX7_in_2 (by decide) (fun h2 => ?_) (fun h2 => ?_)
  · refine j_iconst (y := I_X7_in) (v := 0) dX7_in_14 (by decide) ?_
    exact j_zret (y := I_X7_in) (q := false) rfl rfl dX7_in_15 rfl
  · refine j_iload_n (y := I_X7_in) 0 dX7_in_5 rfl rfl ?_
    refine j_iload_n (y := I_X7_in) 2 dX7_in_6 rfl rfl ?_
    refine j_si ?_
    refine j_icmp_gt (y := I_X7_in) 14 dX7_in_7 (by decide) (fun h7 => ?_) (fun h7 => ?_)
    · refine j_iconst (y := I_X7_in) (v := 0) dX7_in_14 (by decide) ?_
      exact j_zret (y := I_X7_in) (q := false) rfl rfl dX7_in_15 rfl
    · refine j_iconst (y := I_X7_in) (v := 1) dX7_in_10 (by decide) ?_
      refine j_goto (y := I_X7_in) 15 dX7_in_11 (by decide) ?_
      exact j_zret (y := I_X7_in) (q := true) rfl rfl dX7_in_15 rfl
theorem c_X7_in (l : Launch) (w : Wd) (x0 : Int32) (x1 : Int32) (x2 : Int32) (S : St)  : CtS l w I_X7_in [.int x0, .int x1, .int x2] S S (some (.int (b2i (f_X7_in x0 x1 x2)))) := J.ct (av := [.int x0, .int x1, .int x2]) (Nat.le_of_ble_eq_true rfl) pn_7 (m_X7_in l w x0 x1 x2 S ) rfl
abbrev I_X7_found : MI := (yX7_found, cX7_found, 2, some .int, { frames := 0, cells := 0, slots := 0, locals := 0 })
theorem dX7_found_0 : decode cX7_found 0 = .ok (.aload_n 0, 1) := by decide +kernel
theorem dX7_found_1 : decode cX7_found 1 = .ok (.dup, 1) := by decide +kernel
theorem dX7_found_2 : decode cX7_found 2 = .ok (.getfield 60, 3) := by decide +kernel
theorem dX7_found_5 : decode cX7_found 5 = .ok (.iconst 1, 1) := by decide +kernel
theorem dX7_found_6 : decode cX7_found 6 = .ok (.iadd, 1) := by decide +kernel
theorem dX7_found_7 : decode cX7_found 7 = .ok (.putfield 60, 3) := by decide +kernel
theorem dX7_found_10 : decode cX7_found 10 = .ok (.iload_n 1, 1) := by decide +kernel
theorem dX7_found_11 : decode cX7_found 11 = .ok (.ireturn, 1) := by decide +kernel
def f_X7_found (x1 : Int32) (S : St) : Int32 × St := (x1, (wr S 108 10 ((rd S 108 10) + (1 : Int32))))
set_option maxRecDepth 100000 in
set_option maxHeartbeats 4000000 in
theorem m_X7_found (l : Launch) (w : Wd) (x1 : Int32) (S : St)  : J l w I_X7_found 0 [(0, .ref (w.2.1 + 108)), (1, .int x1)] [] S (fun b => (some (.int b.1), b.2)) (some (f_X7_found x1 S)) := by
  unfold f_X7_found
  refine j_aload_n (y := I_X7_found) 0 dX7_found_0 rfl rfl ?_
  refine j_dup (y := I_X7_found) dX7_found_1 rfl ?_
  refine j_getI (y := I_X7_found) fl_7_60 k_108 rfl dX7_found_2 ?_
  refine j_iconst (y := I_X7_found) (v := 1) dX7_found_5 (by decide) ?_
  refine j_iadd (y := I_X7_found) dX7_found_6 ?_
  refine j_putI (y := I_X7_found) fp_7_60 k_108 rfl rfl rfl dX7_found_7 ?_
  refine j_iload_n (y := I_X7_found) 1 dX7_found_10 rfl rfl ?_
  exact j_iret (y := I_X7_found) rfl dX7_found_11 rfl
theorem c_X7_found (l : Launch) (w : Wd) (x1 : Int32) (S : St)  : CtS l w I_X7_found [.ref (w.2.1 + 108), .int x1] S (f_X7_found x1 S).2 (some (.int (f_X7_found x1 S).1)) := J.ct (av := [.ref (w.2.1 + 108), .int x1]) (Nat.le_of_ble_eq_true rfl) pn_7 (m_X7_found l w x1 S ) rfl
abbrev I_X7_inStore : MI := (yX7_inStore, cX7_inStore, 4, some .int, { frames := 0, cells := 0, slots := 0, locals := 0 })
theorem dX7_inStore_0 : decode cX7_inStore 0 = .ok (.iconst 0, 1) := by decide +kernel
theorem dX7_inStore_1 : decode cX7_inStore 1 = .ok (.istore_n 2, 1) := by decide +kernel
theorem dX7_inStore_2 : decode cX7_inStore 2 = .ok (.iconst 0, 1) := by decide +kernel
theorem dX7_inStore_3 : decode cX7_inStore 3 = .ok (.istore_n 3, 1) := by decide +kernel
theorem dX7_inStore_4 : decode cX7_inStore 4 = .ok (.iload_n 3, 1) := by decide +kernel
theorem dX7_inStore_5 : decode cX7_inStore 5 = .ok (.bipush 64, 2) := by decide +kernel
theorem dX7_inStore_7 : decode cX7_inStore 7 = .ok (.if_icmp .ge 27, 3) := by decide +kernel
theorem dX7_inStore_10 : decode cX7_inStore 10 = .ok (.iload_n 2, 1) := by decide +kernel
theorem dX7_inStore_11 : decode cX7_inStore 11 = .ok (.aload_n 0, 1) := by decide +kernel
theorem dX7_inStore_12 : decode cX7_inStore 12 = .ok (.getfield 7, 3) := by decide +kernel
theorem dX7_inStore_15 : decode cX7_inStore 15 = .ok (.sipush 198, 3) := by decide +kernel
theorem dX7_inStore_18 : decode cX7_inStore 18 = .ok (.bipush 64, 2) := by decide +kernel
theorem dX7_inStore_20 : decode cX7_inStore 20 = .ok (.iload_n 1, 1) := by decide +kernel
theorem dX7_inStore_21 : decode cX7_inStore 21 = .ok (.imul, 1) := by decide +kernel
theorem dX7_inStore_22 : decode cX7_inStore 22 = .ok (.iadd, 1) := by decide +kernel
theorem dX7_inStore_23 : decode cX7_inStore 23 = .ok (.iload_n 3, 1) := by decide +kernel
theorem dX7_inStore_24 : decode cX7_inStore 24 = .ok (.iadd, 1) := by decide +kernel
theorem dX7_inStore_25 : decode cX7_inStore 25 = .ok (.iaload, 1) := by decide +kernel
theorem dX7_inStore_26 : decode cX7_inStore 26 = .ok (.iadd, 1) := by decide +kernel
theorem dX7_inStore_27 : decode cX7_inStore 27 = .ok (.istore_n 2, 1) := by decide +kernel
theorem dX7_inStore_28 : decode cX7_inStore 28 = .ok (.iinc 3 1, 3) := by decide +kernel
theorem dX7_inStore_31 : decode cX7_inStore 31 = .ok (.goto (-27), 3) := by decide +kernel
theorem dX7_inStore_34 : decode cX7_inStore 34 = .ok (.iload_n 2, 1) := by decide +kernel
theorem dX7_inStore_35 : decode cX7_inStore 35 = .ok (.ireturn, 1) := by decide +kernel
def f_X7_inStore_L4 (fuel : Nat) (K : Int32 → Option (Int32)) (a4_1 : Int32) (a4_2 : Int32) (a4_3 : Int32) (S : St) : Option (Int32) := match fuel with
  | 0 => none
  | n + 1 => if a4_3 < (64 : Int32) then (if inb (((198 : Int32) + ((64 : Int32) * a4_1)) + a4_3) 788 = true then (f_X7_inStore_L4 n K a4_1 (a4_2 + (rd S 109 (ix (((198 : Int32) + ((64 : Int32) * a4_1)) + a4_3)))) (a4_3 + (1 : Int32)) S) else none) else (K a4_2)
def f_X7_inStore (x1 : Int32) (S : St) : Option (Int32) := f_X7_inStore_L4 6000 (fun e34_2 => (some e34_2)) x1 (0 : Int32) (0 : Int32) S
set_option maxRecDepth 100000 in
theorem jl_X7_inStore_4 (l : Launch) (w : Wd) (S : St) (K : Int32 → Option (Int32)) (n : Nat) : ∀ (a4_1 : Int32) (a4_2 : Int32) (a4_3 : Int32), (∀ (e34_2 : Int32) , J l w I_X7_inStore 34 [(2, .int e34_2)] [] S (fun b => (some (.int b), S)) (K e34_2)) → J l w I_X7_inStore 4 [(0, .ref (w.2.1 + 108)), (1, .int a4_1), (2, .int a4_2), (3, .int a4_3)] [] S (fun b => (some (.int b), S)) (f_X7_inStore_L4 n K a4_1 a4_2 a4_3 S) := by
  induction n with
  | zero =>
    intro a4_1 a4_2 a4_3 hK b h
    simp only [f_X7_inStore_L4] at h
    cases h
  | succ n ih =>
    intro a4_1 a4_2 a4_3 hK
    rw [f_X7_inStore_L4]
    refine j_iload_n (y := I_X7_inStore) 3 dX7_inStore_4 rfl rfl ?_
    refine j_bipush (y := I_X7_inStore) (v := 64) dX7_inStore_5 (by decide) ?_
    refine j_icmp_ge (y := I_X7_inStore) 34 dX7_inStore_7 (by decide) (fun h7 => ?_) (fun h7 => ?_)
    · refine j_sub [2] rfl ?_
      exact hK a4_2
    · refine j_iload_n (y := I_X7_inStore) 2 dX7_inStore_10 rfl rfl ?_
      refine j_aload_n (y := I_X7_inStore) 0 dX7_inStore_11 rfl rfl ?_
      refine j_getR (y := I_X7_inStore) (j := 109) fl_7_7 k_108 rfl rfl dX7_inStore_12 ?_
      refine j_sipush (y := I_X7_inStore) (v := 198) dX7_inStore_15 (by decide) ?_
      refine j_bipush (y := I_X7_inStore) (v := 64) dX7_inStore_18 (by decide) ?_
      refine j_iload_n (y := I_X7_inStore) 1 dX7_inStore_20 rfl rfl ?_
      refine j_imul (y := I_X7_inStore) dX7_inStore_21 ?_
      refine j_iadd (y := I_X7_inStore) dX7_inStore_22 ?_
      refine j_iload_n (y := I_X7_inStore) 3 dX7_inStore_23 rfl rfl ?_
      refine j_iadd (y := I_X7_inStore) dX7_inStore_24 ?_
      refine j_iald (y := I_X7_inStore) k_109 dX7_inStore_25 (fun h25 => ?_)
      refine j_iadd (y := I_X7_inStore) dX7_inStore_26 ?_
      refine j_istore_n (y := I_X7_inStore) (ls' := [(2, .int (a4_2 + (rd S 109 (ix (((198 : Int32) + ((64 : Int32) * a4_1)) + a4_3))))), (0, .ref (w.2.1 + 108)), (1, .int a4_1), (3, .int a4_3)]) dX7_inStore_27 rfl (by decide) rfl ?_
      refine j_iinc (y := I_X7_inStore) 3 (ls' := [(3, .int (a4_3 + (1 : Int32))), (2, .int (a4_2 + (rd S 109 (ix (((198 : Int32) + ((64 : Int32) * a4_1)) + a4_3))))), (0, .ref (w.2.1 + 108)), (1, .int a4_1)]) dX7_inStore_28 rfl (ii _ _ (by decide) _) (by decide) rfl ?_
      refine j_goto (y := I_X7_inStore) 4 dX7_inStore_31 (by decide) ?_
      refine j_sub [2, 3, 1, 0] rfl ?_
      exact ih a4_1 (a4_2 + (rd S 109 (ix (((198 : Int32) + ((64 : Int32) * a4_1)) + a4_3)))) (a4_3 + (1 : Int32)) hK
set_option maxRecDepth 100000 in
set_option maxHeartbeats 4000000 in
theorem m_X7_inStore (l : Launch) (w : Wd) (x1 : Int32) (S : St)  : J l w I_X7_inStore 0 [(0, .ref (w.2.1 + 108)), (1, .int x1)] [] S (fun b => (some (.int b), S)) (f_X7_inStore x1 S) := by
  unfold f_X7_inStore
  refine j_iconst (y := I_X7_inStore) (v := 0) dX7_inStore_0 (by decide) ?_
  refine j_istore_n (y := I_X7_inStore) (ls' := [(2, .int (0 : Int32)), (0, .ref (w.2.1 + 108)), (1, .int x1)]) dX7_inStore_1 rfl (by decide) rfl ?_
  refine j_iconst (y := I_X7_inStore) (v := 0) dX7_inStore_2 (by decide) ?_
  refine j_istore_n (y := I_X7_inStore) (ls' := [(3, .int (0 : Int32)), (2, .int (0 : Int32)), (0, .ref (w.2.1 + 108)), (1, .int x1)]) dX7_inStore_3 rfl (by decide) rfl ?_
  refine j_sub [2, 3, 1, 0] rfl ?_
  refine jl_X7_inStore_4 l w S _ 6000 x1 (0 : Int32) (0 : Int32)   (fun e34_2 => ?_)
  refine j_iload_n (y := I_X7_inStore) 0 dX7_inStore_34 rfl rfl ?_
  exact j_iret (y := I_X7_inStore) rfl dX7_inStore_35 rfl
theorem c_X7_inStore (l : Launch) (w : Wd) (x1 : Int32) (S : St)  : ∀ v, f_X7_inStore x1 S = some v → CtS l w I_X7_inStore [.ref (w.2.1 + 108), .int x1] S S (some (.int v)) := fun v h => J.ct (av := [.ref (w.2.1 + 108), .int x1]) (Nat.le_of_ble_eq_true rfl) pn_7 (m_X7_inStore l w x1 S ) h
abbrev I_X7_inAll : MI := (yX7_inAll, cX7_inAll, 3, some .int, { frames := 1, cells := 0, slots := 0, locals := 23 })
theorem dX7_inAll_0 : decode cX7_inAll 0 = .ok (.iconst 0, 1) := by decide +kernel
theorem dX7_inAll_1 : decode cX7_inAll 1 = .ok (.istore_n 1, 1) := by decide +kernel
theorem dX7_inAll_2 : decode cX7_inAll 2 = .ok (.iconst 0, 1) := by decide +kernel
theorem dX7_inAll_3 : decode cX7_inAll 3 = .ok (.istore_n 2, 1) := by decide +kernel
theorem dX7_inAll_4 : decode cX7_inAll 4 = .ok (.iload_n 2, 1) := by decide +kernel
theorem dX7_inAll_5 : decode cX7_inAll 5 = .ok (.bipush 6, 2) := by decide +kernel
theorem dX7_inAll_7 : decode cX7_inAll 7 = .ok (.if_icmp .ge 17, 3) := by decide +kernel
theorem dX7_inAll_10 : decode cX7_inAll 10 = .ok (.iload_n 1, 1) := by decide +kernel
theorem dX7_inAll_11 : decode cX7_inAll 11 = .ok (.aload_n 0, 1) := by decide +kernel
theorem dX7_inAll_12 : decode cX7_inAll 12 = .ok (.iload_n 2, 1) := by decide +kernel
theorem dX7_inAll_13 : decode cX7_inAll 13 = .ok (.invokevirtual 169, 3) := by decide +kernel
theorem dX7_inAll_16 : decode cX7_inAll 16 = .ok (.iadd, 1) := by decide +kernel
theorem dX7_inAll_17 : decode cX7_inAll 17 = .ok (.istore_n 1, 1) := by decide +kernel
theorem dX7_inAll_18 : decode cX7_inAll 18 = .ok (.iinc 2 1, 3) := by decide +kernel
theorem dX7_inAll_21 : decode cX7_inAll 21 = .ok (.goto (-17), 3) := by decide +kernel
theorem dX7_inAll_24 : decode cX7_inAll 24 = .ok (.iload_n 1, 1) := by decide +kernel
theorem dX7_inAll_25 : decode cX7_inAll 25 = .ok (.ireturn, 1) := by decide +kernel
theorem cv_7_169 : CV RX7 169 1 7 I_X7_inStore := ⟨⟨⟨gm 1057 (by decide +kernel) rfl, gm 1060 (by decide +kernel) rfl, gm 44 (by decide +kernel) rfl, mh_7.1, mh_7.2, by decide +kernel⟩, gm 1059 (by decide +kernel) rfl, gm 27 (by decide +kernel) rfl⟩, ⟨_, _, rfl⟩, rfl, rfl⟩
def f_X7_inAll_L4 (fuel : Nat) (K : Int32 → Option (Int32)) (a4_1 : Int32) (a4_2 : Int32) (S : St) : Option (Int32) := match fuel with
  | 0 => none
  | n + 1 => if a4_2 < (6 : Int32) then ((f_X7_inStore a4_2 S).bind fun v13 => (f_X7_inAll_L4 n K (a4_1 + v13) (a4_2 + (1 : Int32)) S)) else (K a4_1)
def f_X7_inAll  (S : St) : Option (Int32) := f_X7_inAll_L4 6000 (fun e24_1 => (some e24_1)) (0 : Int32) (0 : Int32) S
set_option maxRecDepth 100000 in
theorem jl_X7_inAll_4 (l : Launch) (w : Wd) (S : St) (K : Int32 → Option (Int32)) (n : Nat) : ∀ (a4_1 : Int32) (a4_2 : Int32), (∀ (e24_1 : Int32) , J l w I_X7_inAll 24 [(1, .int e24_1)] [] S (fun b => (some (.int b), S)) (K e24_1)) → J l w I_X7_inAll 4 [(0, .ref (w.2.1 + 108)), (1, .int a4_1), (2, .int a4_2)] [] S (fun b => (some (.int b), S)) (f_X7_inAll_L4 n K a4_1 a4_2 S) := by
  induction n with
  | zero =>
    intro a4_1 a4_2 hK b h
    simp only [f_X7_inAll_L4] at h
    cases h
  | succ n ih =>
    intro a4_1 a4_2 hK
    rw [f_X7_inAll_L4]
    refine j_iload_n (y := I_X7_inAll) 2 dX7_inAll_4 rfl rfl ?_
    refine j_bipush (y := I_X7_inAll) (v := 6) dX7_inAll_5 (by decide) ?_
    refine j_icmp_ge (y := I_X7_inAll) 24 dX7_inAll_7 (by decide) (fun h7 => ?_) (fun h7 => ?_)
    · refine j_sub [1] rfl ?_
      exact hK a4_1
    · refine j_iload_n (y := I_X7_inAll) 1 dX7_inAll_10 rfl rfl ?_
      refine j_aload_n (y := I_X7_inAll) 0 dX7_inAll_11 rfl rfl ?_
      refine j_iload_n (y := I_X7_inAll) 2 dX7_inAll_12 rfl rfl ?_
      refine j_callViR (y := I_X7_inAll) (As := [.int a4_2]) cv_7_169 ⟨Nat.le_of_ble_eq_true rfl, Nat.le_of_ble_eq_true rfl⟩ k_108 rfl (Nat.le_of_ble_eq_true rfl) dX7_inAll_13 (c_X7_inStore l w a4_2 S) (fun v13 h13 => ?_)
      refine j_iadd (y := I_X7_inAll) dX7_inAll_16 ?_
      refine j_istore_n (y := I_X7_inAll) (ls' := [(1, .int (a4_1 + v13)), (0, .ref (w.2.1 + 108)), (2, .int a4_2)]) dX7_inAll_17 rfl (by decide) rfl ?_
      refine j_iinc (y := I_X7_inAll) 2 (ls' := [(2, .int (a4_2 + (1 : Int32))), (1, .int (a4_1 + v13)), (0, .ref (w.2.1 + 108))]) dX7_inAll_18 rfl (ii _ _ (by decide) _) (by decide) rfl ?_
      refine j_goto (y := I_X7_inAll) 4 dX7_inAll_21 (by decide) ?_
      refine j_sub [2, 1, 0] rfl ?_
      exact ih (a4_1 + v13) (a4_2 + (1 : Int32)) hK
set_option maxRecDepth 100000 in
set_option maxHeartbeats 4000000 in
theorem m_X7_inAll (l : Launch) (w : Wd)  (S : St)  : J l w I_X7_inAll 0 [(0, .ref (w.2.1 + 108))] [] S (fun b => (some (.int b), S)) (f_X7_inAll S) := by
  unfold f_X7_inAll
  refine j_iconst (y := I_X7_inAll) (v := 0) dX7_inAll_0 (by decide) ?_
  refine j_istore_n (y := I_X7_inAll) (ls' := [(1, .int (0 : Int32)), (0, .ref (w.2.1 + 108))]) dX7_inAll_1 rfl (by decide) rfl ?_
  refine j_iconst (y := I_X7_inAll) (v := 0) dX7_inAll_2 (by decide) ?_
  refine j_istore_n (y := I_X7_inAll) (ls' := [(2, .int (0 : Int32)), (1, .int (0 : Int32)), (0, .ref (w.2.1 + 108))]) dX7_inAll_3 rfl (by decide) rfl ?_
  refine j_sub [2, 1, 0] rfl ?_
  refine jl_X7_inAll_4 l w S _ 6000 (0 : Int32) (0 : Int32)   (fun e24_1 => ?_)
  refine j_iload_n (y := I_X7_inAll) 0 dX7_inAll_24 rfl rfl ?_
  exact j_iret (y := I_X7_inAll) rfl dX7_inAll_25 rfl
theorem c_X7_inAll (l : Launch) (w : Wd)  (S : St)  : ∀ v, f_X7_inAll S = some v → CtS l w I_X7_inAll [.ref (w.2.1 + 108)] S S (some (.int v)) := fun v h => J.ct (av := [.ref (w.2.1 + 108)]) (Nat.le_of_ble_eq_true rfl) pn_7 (m_X7_inAll l w  S ) h
abbrev I_X7_fruitsOf : MI := (yX7_fruitsOf, cX7_fruitsOf, 2, some .int, { frames := 0, cells := 0, slots := 0, locals := 0 })
theorem dX7_fruitsOf_0 : decode cX7_fruitsOf 0 = .ok (.aload_n 0, 1) := by decide +kernel
theorem dX7_fruitsOf_1 : decode cX7_fruitsOf 1 = .ok (.getfield 7, 3) := by decide +kernel
theorem dX7_fruitsOf_4 : decode cX7_fruitsOf 4 = .ok (.bipush 66, 2) := by decide +kernel
theorem dX7_fruitsOf_6 : decode cX7_fruitsOf 6 = .ok (.bipush 11, 2) := by decide +kernel
theorem dX7_fruitsOf_8 : decode cX7_fruitsOf 8 = .ok (.iload_n 1, 1) := by decide +kernel
theorem dX7_fruitsOf_9 : decode cX7_fruitsOf 9 = .ok (.iconst 2, 1) := by decide +kernel
theorem dX7_fruitsOf_10 : decode cX7_fruitsOf 10 = .ok (.idiv, 1) := by decide +kernel
theorem dX7_fruitsOf_11 : decode cX7_fruitsOf 11 = .ok (.imul, 1) := by decide +kernel
theorem dX7_fruitsOf_12 : decode cX7_fruitsOf 12 = .ok (.iadd, 1) := by decide +kernel
theorem dX7_fruitsOf_13 : decode cX7_fruitsOf 13 = .ok (.bipush 8, 2) := by decide +kernel
theorem dX7_fruitsOf_15 : decode cX7_fruitsOf 15 = .ok (.iadd, 1) := by decide +kernel
theorem dX7_fruitsOf_16 : decode cX7_fruitsOf 16 = .ok (.iload_n 1, 1) := by decide +kernel
theorem dX7_fruitsOf_17 : decode cX7_fruitsOf 17 = .ok (.iconst 2, 1) := by decide +kernel
theorem dX7_fruitsOf_18 : decode cX7_fruitsOf 18 = .ok (.irem, 1) := by decide +kernel
theorem dX7_fruitsOf_19 : decode cX7_fruitsOf 19 = .ok (.iadd, 1) := by decide +kernel
theorem dX7_fruitsOf_20 : decode cX7_fruitsOf 20 = .ok (.iaload, 1) := by decide +kernel
theorem dX7_fruitsOf_21 : decode cX7_fruitsOf 21 = .ok (.ireturn, 1) := by decide +kernel
def f_X7_fruitsOf (x1 : Int32) (S : St) : Option (Int32) := if inb ((((66 : Int32) + ((11 : Int32) * (x1 / (2 : Int32)))) + (8 : Int32)) + (x1 - x1 / (2 : Int32) * (2 : Int32))) 788 = true then (some (rd S 109 (ix ((((66 : Int32) + ((11 : Int32) * (x1 / (2 : Int32)))) + (8 : Int32)) + (x1 - x1 / (2 : Int32) * (2 : Int32)))))) else none
set_option maxRecDepth 100000 in
set_option maxHeartbeats 4000000 in
theorem m_X7_fruitsOf (l : Launch) (w : Wd) (x1 : Int32) (S : St)  : J l w I_X7_fruitsOf 0 [(0, .ref (w.2.1 + 108)), (1, .int x1)] [] S (fun b => (some (.int b), S)) (f_X7_fruitsOf x1 S) := by
  unfold f_X7_fruitsOf
  refine j_aload_n (y := I_X7_fruitsOf) 0 dX7_fruitsOf_0 rfl rfl ?_
  refine j_getR (y := I_X7_fruitsOf) (j := 109) fl_7_7 k_108 rfl rfl dX7_fruitsOf_1 ?_
  refine j_bipush (y := I_X7_fruitsOf) (v := 66) dX7_fruitsOf_4 (by decide) ?_
  refine j_bipush (y := I_X7_fruitsOf) (v := 11) dX7_fruitsOf_6 (by decide) ?_
  refine j_iload_n (y := I_X7_fruitsOf) 1 dX7_fruitsOf_8 rfl rfl ?_
  refine j_iconst (y := I_X7_fruitsOf) (v := 2) dX7_fruitsOf_9 (by decide) ?_
  refine j_idivL (y := I_X7_fruitsOf) dX7_fruitsOf_10 (by decide) ?_
  refine j_imul (y := I_X7_fruitsOf) dX7_fruitsOf_11 ?_
  refine j_iadd (y := I_X7_fruitsOf) dX7_fruitsOf_12 ?_
  refine j_bipush (y := I_X7_fruitsOf) (v := 8) dX7_fruitsOf_13 (by decide) ?_
  refine j_iadd (y := I_X7_fruitsOf) dX7_fruitsOf_15 ?_
  refine j_iload_n (y := I_X7_fruitsOf) 1 dX7_fruitsOf_16 rfl rfl ?_
  refine j_iconst (y := I_X7_fruitsOf) (v := 2) dX7_fruitsOf_17 (by decide) ?_
  refine j_iremL (y := I_X7_fruitsOf) dX7_fruitsOf_18 (by decide) ?_
  refine j_iadd (y := I_X7_fruitsOf) dX7_fruitsOf_19 ?_
  refine j_iald (y := I_X7_fruitsOf) k_109 dX7_fruitsOf_20 (fun h20 => ?_)
  exact j_iret (y := I_X7_fruitsOf) rfl dX7_fruitsOf_21 rfl
theorem c_X7_fruitsOf (l : Launch) (w : Wd) (x1 : Int32) (S : St)  : ∀ v, f_X7_fruitsOf x1 S = some v → CtS l w I_X7_fruitsOf [.ref (w.2.1 + 108), .int x1] S S (some (.int v)) := fun v h => J.ct (av := [.ref (w.2.1 + 108), .int x1]) (Nat.le_of_ble_eq_true rfl) pn_7 (m_X7_fruitsOf l w x1 S ) h
abbrev I_X7_all : MI := (yX7_all, cX7_all, 5, some .long, { frames := 2, cells := 0, slots := 0, locals := 45 })
theorem dX7_all_0 : decode cX7_all 0 = .ok (.iload_n 1, 1) := by decide +kernel
theorem dX7_all_1 : decode cX7_all 1 = .ok (.iconst 0, 1) := by decide +kernel
theorem dX7_all_2 : decode cX7_all 2 = .ok (.bipush 9, 2) := by decide +kernel
theorem dX7_all_4 : decode cX7_all 4 = .ok (.invokestatic 64, 3) := by decide +kernel
theorem dX7_all_7 : decode cX7_all 7 = .ok (.ifCond .ne 10, 3) := by decide +kernel
theorem dX7_all_10 : decode cX7_all 10 = .ok (.aload_n 0, 1) := by decide +kernel
theorem dX7_all_11 : decode cX7_all 11 = .ok (.iconst (-1), 1) := by decide +kernel
theorem dX7_all_12 : decode cX7_all 12 = .ok (.invokevirtual 72, 3) := by decide +kernel
theorem dX7_all_15 : decode cX7_all 15 = .ok (.i2l, 1) := by decide +kernel
theorem dX7_all_16 : decode cX7_all 16 = .ok (.lreturn, 1) := by decide +kernel
theorem dX7_all_17 : decode cX7_all 17 = .ok (.iload_n 1, 1) := by decide +kernel
theorem dX7_all_18 : decode cX7_all 18 = .ok (.bipush 9, 2) := by decide +kernel
theorem dX7_all_20 : decode cX7_all 20 = .ok (.if_icmp .ne 9, 3) := by decide +kernel
theorem dX7_all_23 : decode cX7_all 23 = .ok (.aload_n 0, 1) := by decide +kernel
theorem dX7_all_24 : decode cX7_all 24 = .ok (.invokevirtual 188, 3) := by decide +kernel
theorem dX7_all_27 : decode cX7_all 27 = .ok (.i2l, 1) := by decide +kernel
theorem dX7_all_28 : decode cX7_all 28 = .ok (.lreturn, 1) := by decide +kernel
theorem dX7_all_29 : decode cX7_all 29 = .ok (.iload_n 1, 1) := by decide +kernel
theorem dX7_all_30 : decode cX7_all 30 = .ok (.bipush 6, 2) := by decide +kernel
theorem dX7_all_32 : decode cX7_all 32 = .ok (.if_icmp .eq 10, 3) := by decide +kernel
theorem dX7_all_35 : decode cX7_all 35 = .ok (.aload_n 0, 1) := by decide +kernel
theorem dX7_all_36 : decode cX7_all 36 = .ok (.getfield 16, 3) := by decide +kernel
theorem dX7_all_39 : decode cX7_all 39 = .ok (.iload_n 1, 1) := by decide +kernel
theorem dX7_all_40 : decode cX7_all 40 = .ok (.laload, 1) := by decide +kernel
theorem dX7_all_41 : decode cX7_all 41 = .ok (.lreturn, 1) := by decide +kernel
theorem dX7_all_42 : decode cX7_all 42 = .ok (.lconst 0, 1) := by decide +kernel
theorem dX7_all_43 : decode cX7_all 43 = .ok (.lstore_n 2, 1) := by decide +kernel
theorem dX7_all_44 : decode cX7_all 44 = .ok (.iconst 0, 1) := by decide +kernel
theorem dX7_all_45 : decode cX7_all 45 = .ok (.istore 4, 2) := by decide +kernel
theorem dX7_all_47 : decode cX7_all 47 = .ok (.iload 4, 2) := by decide +kernel
theorem dX7_all_49 : decode cX7_all 49 = .ok (.bipush 24, 2) := by decide +kernel
theorem dX7_all_51 : decode cX7_all 51 = .ok (.if_icmp .ge 19, 3) := by decide +kernel
theorem dX7_all_54 : decode cX7_all 54 = .ok (.lload_n 2, 1) := by decide +kernel
theorem dX7_all_55 : decode cX7_all 55 = .ok (.aload_n 0, 1) := by decide +kernel
theorem dX7_all_56 : decode cX7_all 56 = .ok (.iload 4, 2) := by decide +kernel
theorem dX7_all_58 : decode cX7_all 58 = .ok (.invokevirtual 162, 3) := by decide +kernel
theorem dX7_all_61 : decode cX7_all 61 = .ok (.i2l, 1) := by decide +kernel
theorem dX7_all_62 : decode cX7_all 62 = .ok (.ladd, 1) := by decide +kernel
theorem dX7_all_63 : decode cX7_all 63 = .ok (.lstore_n 2, 1) := by decide +kernel
theorem dX7_all_64 : decode cX7_all 64 = .ok (.iinc 4 1, 3) := by decide +kernel
theorem dX7_all_67 : decode cX7_all 67 = .ok (.goto (-20), 3) := by decide +kernel
theorem dX7_all_70 : decode cX7_all 70 = .ok (.lload_n 2, 1) := by decide +kernel
theorem dX7_all_71 : decode cX7_all 71 = .ok (.lreturn, 1) := by decide +kernel
theorem cv_7_162 : CV RX7 162 1 7 I_X7_fruitsOf := ⟨⟨⟨gm 1037 (by decide +kernel) rfl, gm 1040 (by decide +kernel) rfl, gm 44 (by decide +kernel) rfl, mh_7.1, mh_7.2, by decide +kernel⟩, gm 1039 (by decide +kernel) rfl, gm 25 (by decide +kernel) rfl⟩, ⟨_, _, rfl⟩, rfl, rfl⟩
theorem cv_7_188 : CV RX7 188 0 7 I_X7_inAll := ⟨⟨⟨gm 1088 (by decide +kernel) rfl, gm 1091 (by decide +kernel) rfl, gm 44 (by decide +kernel) rfl, mh_7.1, mh_7.2, by decide +kernel⟩, gm 1090 (by decide +kernel) rfl, gm 32 (by decide +kernel) rfl⟩, ⟨_, _, rfl⟩, rfl, rfl⟩
theorem cv_7_64 : CS RX7 64 3 I_X7_in := ⟨⟨⟨gm 857 (by decide +kernel) rfl, gm 859 (by decide +kernel) rfl, gm 44 (by decide +kernel) rfl, mh_7.1, mh_7.2, by decide +kernel⟩, gm 858 (by decide +kernel) rfl⟩, rfl, rfl⟩
theorem cv_7_72 : CV RX7 72 1 7 I_X7_found := ⟨⟨⟨gm 860 (by decide +kernel) rfl, gm 863 (by decide +kernel) rfl, gm 44 (by decide +kernel) rfl, mh_7.1, mh_7.2, by decide +kernel⟩, gm 862 (by decide +kernel) rfl, gm 3 (by decide +kernel) rfl⟩, ⟨_, _, rfl⟩, rfl, rfl⟩
def f_X7_all_L47 (fuel : Nat) (K : Int64 → St → Option (Int64 × St)) (a47_2 : Int64) (a47_4 : Int32) (S47 : St) : Option (Int64 × St) := match fuel with
  | 0 => none
  | n + 1 => if a47_4 < (24 : Int32) then ((f_X7_fruitsOf a47_4 S47).bind fun v58 => (f_X7_all_L47 n K (a47_2 + v58.toInt64) (a47_4 + (1 : Int32)) S47)) else (K a47_2 S47)
def f_X7_all (x1 : Int32) (S : St) : Option (Int64 × St) := if (f_X7_in x1 (0 : Int32) (9 : Int32)) = true then (if x1 = (9 : Int32) then ((f_X7_inAll S).bind fun v24 => (some (v24.toInt64, S))) else (if x1 = (6 : Int32) then (f_X7_all_L47 6000 (fun e70_2 T70 => (some (e70_2, T70))) (0 : Int64) (0 : Int32) S) else (if inb x1 10 = true then (some ((rdL S 111 (ix x1)), S)) else none))) else (some ((((f_X7_found (-1 : Int32) S).1).toInt64), (f_X7_found (-1 : Int32) S).2))
set_option maxRecDepth 100000 in
theorem jl_X7_all_47 (l : Launch) (w : Wd) (K : Int64 → St → Option (Int64 × St)) (n : Nat) : ∀ (a47_2 : Int64) (a47_4 : Int32) (S47 : St), (∀ (e70_2 : Int64) (S' : St) , J l w I_X7_all 70 [(2, .long e70_2)] [] S' (fun b => (some (.long b.1), b.2)) (K e70_2 S')) → J l w I_X7_all 47 [(0, .ref (w.2.1 + 108)), (2, .long a47_2), (4, .int a47_4)] [] S47 (fun b => (some (.long b.1), b.2)) (f_X7_all_L47 n K a47_2 a47_4 S47) := by
  induction n with
  | zero =>
    intro a47_2 a47_4 S47 hK b h
    simp only [f_X7_all_L47] at h
    cases h
  | succ n ih =>
    intro a47_2 a47_4 S47 hK
    rw [f_X7_all_L47]
    refine j_iload (y := I_X7_all) 2 dX7_all_47 rfl ?_
    refine j_bipush (y := I_X7_all) (v := 24) dX7_all_49 (by decide) ?_
    refine j_icmp_ge (y := I_X7_all) 70 dX7_all_51 (by decide) (fun h51 => ?_) (fun h51 => ?_)
    · refine j_sub [1] rfl ?_
      exact hK a47_2 S47
    · refine j_lload_n (y := I_X7_all) 1 dX7_all_54 rfl rfl ?_
      refine j_aload_n (y := I_X7_all) 0 dX7_all_55 rfl rfl ?_
      refine j_iload (y := I_X7_all) 2 dX7_all_56 rfl ?_
      refine j_callViR (y := I_X7_all) (As := [.int a47_4]) cv_7_162 ⟨Nat.le_of_ble_eq_true rfl, Nat.le_of_ble_eq_true rfl⟩ k_108 rfl (Nat.le_of_ble_eq_true rfl) dX7_all_58 (c_X7_fruitsOf l w a47_4 S47) (fun v58 h58 => ?_)
      refine j_i2l (y := I_X7_all) dX7_all_61 ?_
      refine j_ladd (y := I_X7_all) dX7_all_62 ?_
      refine j_lstore_n (y := I_X7_all) (ls' := [(2, .long (a47_2 + v58.toInt64)), (0, .ref (w.2.1 + 108)), (4, .int a47_4)]) dX7_all_63 rfl (by decide) rfl ?_
      refine j_iinc (y := I_X7_all) 2 (ls' := [(4, .int (a47_4 + (1 : Int32))), (2, .long (a47_2 + v58.toInt64)), (0, .ref (w.2.1 + 108))]) dX7_all_64 rfl (ii _ _ (by decide) _) (by decide) rfl ?_
      refine j_goto (y := I_X7_all) 47 dX7_all_67 (by decide) ?_
      refine j_sub [2, 1, 0] rfl ?_
      exact ih (a47_2 + v58.toInt64) (a47_4 + (1 : Int32)) S47 hK
set_option maxRecDepth 100000 in
set_option maxHeartbeats 4000000 in
theorem m_X7_all (l : Launch) (w : Wd) (x1 : Int32) (S : St)  : J l w I_X7_all 0 [(0, .ref (w.2.1 + 108)), (1, .int x1)] [] S (fun b => (some (.long b.1), b.2)) (f_X7_all x1 S) := by
  unfold f_X7_all
  refine j_iload_n (y := I_X7_all) 1 dX7_all_0 rfl rfl ?_
  refine j_iconst (y := I_X7_all) (v := 0) dX7_all_1 (by decide) ?_
  refine j_bipush (y := I_X7_all) (v := 9) dX7_all_2 (by decide) ?_
  refine j_callSzT (y := I_X7_all) (As := [.int x1, .int (0 : Int32), .int (9 : Int32)]) cv_7_64 ⟨Nat.le_of_ble_eq_true rfl, Nat.le_of_ble_eq_true rfl⟩ rfl (Nat.le_of_ble_eq_true rfl) dX7_all_4 (c_X7_in l w x1 (0 : Int32) (9 : Int32) S) ?_
  refine j_if_neB (y := I_X7_all) 17 dX7_all_7 (by decide) (fun h7 => ?_) (fun h7 => ?_)
  · refine j_iload_n (y := I_X7_all) 1 dX7_all_17 rfl rfl ?_
    refine j_bipush (y := I_X7_all) (v := 9) dX7_all_18 (by decide) ?_
    refine j_icmp_ne (y := I_X7_all) 29 dX7_all_20 (by decide) (fun h20 => ?_) (fun h20 => ?_)
    · refine j_iload_n (y := I_X7_all) 1 dX7_all_29 rfl rfl ?_
      refine j_bipush (y := I_X7_all) (v := 6) dX7_all_30 (by decide) ?_
      refine j_icmp_eq (y := I_X7_all) 42 dX7_all_32 (by decide) (fun h32 => ?_) (fun h32 => ?_)
      · refine j_lconst (y := I_X7_all) (v := 0) dX7_all_42 (by decide) ?_
        refine j_lstore_n (y := I_X7_all) (ls' := [(2, .long (0 : Int64)), (0, .ref (w.2.1 + 108)), (1, .int x1)]) dX7_all_43 rfl (by decide) rfl ?_
        refine j_iconst (y := I_X7_all) (v := 0) dX7_all_44 (by decide) ?_
        refine j_istore (y := I_X7_all) (ls' := [(4, .int (0 : Int32)), (2, .long (0 : Int64)), (0, .ref (w.2.1 + 108)), (1, .int x1)]) dX7_all_45 (by decide) rfl ?_
        refine j_sub [2, 1, 0] rfl ?_
        refine jl_X7_all_47 l w _ 6000 (0 : Int64) (0 : Int32) S  (fun e70_2 T70 => ?_)
        refine j_lload_n (y := I_X7_all) 0 dX7_all_70 rfl rfl ?_
        exact j_lret (y := I_X7_all) rfl dX7_all_71 rfl
      · refine j_aload_n (y := I_X7_all) 0 dX7_all_35 rfl rfl ?_
        refine j_getR (y := I_X7_all) (j := 111) fl_7_16 k_108 rfl rfl dX7_all_36 ?_
        refine j_iload_n (y := I_X7_all) 1 dX7_all_39 rfl rfl ?_
        refine j_lald (y := I_X7_all) k_111 dX7_all_40 (fun h40 => ?_)
        exact j_lret (y := I_X7_all) rfl dX7_all_41 rfl
    · refine j_aload_n (y := I_X7_all) 0 dX7_all_23 rfl rfl ?_
      refine j_callViR (y := I_X7_all) (As := []) cv_7_188 ⟨Nat.le_of_ble_eq_true rfl, Nat.le_of_ble_eq_true rfl⟩ k_108 rfl (Nat.le_of_ble_eq_true rfl) dX7_all_24 (c_X7_inAll l w S) (fun v24 h24 => ?_)
      refine j_i2l (y := I_X7_all) dX7_all_27 ?_
      exact j_lret (y := I_X7_all) rfl dX7_all_28 rfl
  · refine j_aload_n (y := I_X7_all) 0 dX7_all_10 rfl rfl ?_
    refine j_iconst (y := I_X7_all) (v := -1) dX7_all_11 (by decide) ?_
    refine j_callViT (y := I_X7_all) (As := [.int (-1 : Int32)]) cv_7_72 ⟨Nat.le_of_ble_eq_true rfl, Nat.le_of_ble_eq_true rfl⟩ k_108 rfl (Nat.le_of_ble_eq_true rfl) dX7_all_12 (c_X7_found l w (-1 : Int32) S) ?_
    refine j_i2l (y := I_X7_all) dX7_all_15 ?_
    exact j_lret (y := I_X7_all) rfl dX7_all_16 rfl
theorem c_X7_all (l : Launch) (w : Wd) (x1 : Int32) (S : St)  : ∀ v, f_X7_all x1 S = some v → CtS l w I_X7_all [.ref (w.2.1 + 108), .int x1] S v.2 (some (.long v.1)) := fun v h => J.ct (av := [.ref (w.2.1 + 108), .int x1]) (Nat.le_of_ble_eq_true rfl) pn_7 (m_X7_all l w x1 S ) h
abbrev I_X7_isPlace : MI := (yX7_isPlace, cX7_isPlace, 1, some .boolean, { frames := 1, cells := 0, slots := 0, locals := 22 })
theorem dX7_isPlace_0 : decode cX7_isPlace 0 = .ok (.iload_n 0, 1) := by decide +kernel
theorem dX7_isPlace_1 : decode cX7_isPlace 1 = .ok (.iconst 0, 1) := by decide +kernel
theorem dX7_isPlace_2 : decode cX7_isPlace 2 = .ok (.bipush 11, 2) := by decide +kernel
theorem dX7_isPlace_4 : decode cX7_isPlace 4 = .ok (.invokestatic 64, 3) := by decide +kernel
theorem dX7_isPlace_7 : decode cX7_isPlace 7 = .ok (.ireturn, 1) := by decide +kernel
def f_X7_isPlace (x0 : Int32)  : Bool := (f_X7_in x0 (0 : Int32) (11 : Int32))
set_option maxRecDepth 100000 in
set_option maxHeartbeats 4000000 in
theorem m_X7_isPlace (l : Launch) (w : Wd) (x0 : Int32) (S : St)  : J l w I_X7_isPlace 0 [(0, .int x0)] [] S (fun b => (some (.int (b2i b)), S)) (some (f_X7_isPlace x0)) := by
  unfold f_X7_isPlace
  refine j_iload_n (y := I_X7_isPlace) 0 dX7_isPlace_0 rfl rfl ?_
  refine j_iconst (y := I_X7_isPlace) (v := 0) dX7_isPlace_1 (by decide) ?_
  refine j_bipush (y := I_X7_isPlace) (v := 11) dX7_isPlace_2 (by decide) ?_
  refine j_callSzT (y := I_X7_isPlace) (As := [.int x0, .int (0 : Int32), .int (11 : Int32)]) cv_7_64 ⟨Nat.le_of_ble_eq_true rfl, Nat.le_of_ble_eq_true rfl⟩ rfl (Nat.le_of_ble_eq_true rfl) dX7_isPlace_4 (c_X7_in l w x0 (0 : Int32) (11 : Int32) S) ?_
  exact j_zret (y := I_X7_isPlace) (q := (f_X7_in x0 (0 : Int32) (11 : Int32))) rfl rfl dX7_isPlace_7 rfl
theorem c_X7_isPlace (l : Launch) (w : Wd) (x0 : Int32) (S : St)  : CtS l w I_X7_isPlace [.int x0] S S (some (.int (b2i (f_X7_isPlace x0)))) := J.ct (av := [.int x0]) (Nat.le_of_ble_eq_true rfl) pn_7 (m_X7_isPlace l w x0 S ) rfl
abbrev I_X7_as : MI := (yX7_as, cX7_as, 4, some .int, { frames := 2, cells := 0, slots := 0, locals := 42 })
theorem dX7_as_0 : decode cX7_as 0 = .ok (.iload_n 1, 1) := by decide +kernel
theorem dX7_as_1 : decode cX7_as 1 = .ok (.invokestatic 88, 3) := by decide +kernel
theorem dX7_as_4 : decode cX7_as 4 = .ok (.ifCond .eq 12, 3) := by decide +kernel
theorem dX7_as_7 : decode cX7_as 7 = .ok (.iload_n 2, 1) := by decide +kernel
theorem dX7_as_8 : decode cX7_as 8 = .ok (.iconst 1, 1) := by decide +kernel
theorem dX7_as_9 : decode cX7_as 9 = .ok (.iconst 5, 1) := by decide +kernel
theorem dX7_as_10 : decode cX7_as 10 = .ok (.invokestatic 64, 3) := by decide +kernel
theorem dX7_as_13 : decode cX7_as 13 = .ok (.ifCond .ne 9, 3) := by decide +kernel
theorem dX7_as_16 : decode cX7_as 16 = .ok (.aload_n 0, 1) := by decide +kernel
theorem dX7_as_17 : decode cX7_as 17 = .ok (.iconst (-1), 1) := by decide +kernel
theorem dX7_as_18 : decode cX7_as 18 = .ok (.invokevirtual 72, 3) := by decide +kernel
theorem dX7_as_21 : decode cX7_as 21 = .ok (.ireturn, 1) := by decide +kernel
theorem dX7_as_22 : decode cX7_as 22 = .ok (.aload_n 0, 1) := by decide +kernel
theorem dX7_as_23 : decode cX7_as 23 = .ok (.iload_n 1, 1) := by decide +kernel
theorem dX7_as_24 : decode cX7_as 24 = .ok (.iconst 2, 1) := by decide +kernel
theorem dX7_as_25 : decode cX7_as 25 = .ok (.invokevirtual 68, 3) := by decide +kernel
theorem dX7_as_28 : decode cX7_as 28 = .ok (.istore_n 3, 1) := by decide +kernel
theorem dX7_as_29 : decode cX7_as 29 = .ok (.iload_n 3, 1) := by decide +kernel
theorem dX7_as_30 : decode cX7_as 30 = .ok (.ifCond .ne 10, 3) := by decide +kernel
theorem dX7_as_33 : decode cX7_as 33 = .ok (.aload_n 0, 1) := by decide +kernel
theorem dX7_as_34 : decode cX7_as 34 = .ok (.bipush (-6), 2) := by decide +kernel
theorem dX7_as_36 : decode cX7_as 36 = .ok (.invokevirtual 72, 3) := by decide +kernel
theorem dX7_as_39 : decode cX7_as 39 = .ok (.ireturn, 1) := by decide +kernel
theorem dX7_as_40 : decode cX7_as 40 = .ok (.iload_n 2, 1) := by decide +kernel
theorem dX7_as_41 : decode cX7_as 41 = .ok (.iload_n 3, 1) := by decide +kernel
theorem dX7_as_42 : decode cX7_as 42 = .ok (.if_icmp .eq 13, 3) := by decide +kernel
theorem dX7_as_45 : decode cX7_as 45 = .ok (.iload_n 2, 1) := by decide +kernel
theorem dX7_as_46 : decode cX7_as 46 = .ok (.iconst 1, 1) := by decide +kernel
theorem dX7_as_47 : decode cX7_as 47 = .ok (.if_icmp .ne 12, 3) := by decide +kernel
theorem dX7_as_50 : decode cX7_as 50 = .ok (.iload_n 3, 1) := by decide +kernel
theorem dX7_as_51 : decode cX7_as 51 = .ok (.iconst 5, 1) := by decide +kernel
theorem dX7_as_52 : decode cX7_as 52 = .ok (.if_icmp .eq 7, 3) := by decide +kernel
theorem dX7_as_55 : decode cX7_as 55 = .ok (.iload_n 1, 1) := by decide +kernel
theorem dX7_as_56 : decode cX7_as 56 = .ok (.goto 9, 3) := by decide +kernel
theorem dX7_as_59 : decode cX7_as 59 = .ok (.aload_n 0, 1) := by decide +kernel
theorem dX7_as_60 : decode cX7_as 60 = .ok (.bipush (-4), 2) := by decide +kernel
theorem dX7_as_62 : decode cX7_as 62 = .ok (.invokevirtual 72, 3) := by decide +kernel
theorem dX7_as_65 : decode cX7_as 65 = .ok (.ireturn, 1) := by decide +kernel
theorem cv_7_88 : CS RX7 88 1 I_X7_isPlace := ⟨⟨⟨gm 880 (by decide +kernel) rfl, gm 882 (by decide +kernel) rfl, gm 44 (by decide +kernel) rfl, mh_7.1, mh_7.2, by decide +kernel⟩, gm 881 (by decide +kernel) rfl⟩, rfl, rfl⟩
def f_X7_as (x1 : Int32) (x2 : Int32) (S : St) : Option (Int32 × St) := if (f_X7_isPlace x1) = true then (if (f_X7_in x2 (1 : Int32) (5 : Int32)) = true then ((f_X7_get x1 (2 : Int32) S).bind fun v25 => (if v25 = 0 then (some (((f_X7_found (-6 : Int32) S).1), (f_X7_found (-6 : Int32) S).2)) else (if x2 = v25 then (some (x1, S)) else (if x2 = (1 : Int32) then (if v25 = (5 : Int32) then (some (((f_X7_found (-4 : Int32) S).1), (f_X7_found (-4 : Int32) S).2)) else (some (x1, S))) else (some (((f_X7_found (-4 : Int32) S).1), (f_X7_found (-4 : Int32) S).2)))))) else (some (((f_X7_found (-1 : Int32) S).1), (f_X7_found (-1 : Int32) S).2))) else (some (((f_X7_found (-1 : Int32) S).1), (f_X7_found (-1 : Int32) S).2))
set_option maxRecDepth 100000 in
set_option maxHeartbeats 4000000 in
theorem m_X7_as (l : Launch) (w : Wd) (x1 : Int32) (x2 : Int32) (S : St)  : J l w I_X7_as 0 [(0, .ref (w.2.1 + 108)), (1, .int x1), (2, .int x2)] [] S (fun b => (some (.int b.1), b.2)) (f_X7_as x1 x2 S) := by
  unfold f_X7_as
  refine j_iload_n (y := I_X7_as) 1 dX7_as_0 rfl rfl ?_
  refine j_callSzT (y := I_X7_as) (As := [.int x1]) cv_7_88 ⟨Nat.le_of_ble_eq_true rfl, Nat.le_of_ble_eq_true rfl⟩ rfl (Nat.le_of_ble_eq_true rfl) dX7_as_1 (c_X7_isPlace l w x1 S) ?_
  refine j_if_eqB (y := I_X7_as) 16 dX7_as_4 (by decide) (fun h4 => ?_) (fun h4 => ?_)
  · refine j_aload_n (y := I_X7_as) 0 dX7_as_16 rfl rfl ?_
    refine j_iconst (y := I_X7_as) (v := -1) dX7_as_17 (by decide) ?_
    refine j_callViT (y := I_X7_as) (As := [.int (-1 : Int32)]) cv_7_72 ⟨Nat.le_of_ble_eq_true rfl, Nat.le_of_ble_eq_true rfl⟩ k_108 rfl (Nat.le_of_ble_eq_true rfl) dX7_as_18 (c_X7_found l w (-1 : Int32) S) ?_
    exact j_iret (y := I_X7_as) rfl dX7_as_21 rfl
  · refine j_iload_n (y := I_X7_as) 2 dX7_as_7 rfl rfl ?_
    refine j_iconst (y := I_X7_as) (v := 1) dX7_as_8 (by decide) ?_
    refine j_iconst (y := I_X7_as) (v := 5) dX7_as_9 (by decide) ?_
    refine j_callSzT (y := I_X7_as) (As := [.int x2, .int (1 : Int32), .int (5 : Int32)]) cv_7_64 ⟨Nat.le_of_ble_eq_true rfl, Nat.le_of_ble_eq_true rfl⟩ rfl (Nat.le_of_ble_eq_true rfl) dX7_as_10 (c_X7_in l w x2 (1 : Int32) (5 : Int32) S) ?_
    refine j_if_neB (y := I_X7_as) 22 dX7_as_13 (by decide) (fun h13 => ?_) (fun h13 => ?_)
    · refine j_aload_n (y := I_X7_as) 0 dX7_as_22 rfl rfl ?_
      refine j_iload_n (y := I_X7_as) 1 dX7_as_23 rfl rfl ?_
      refine j_iconst (y := I_X7_as) (v := 2) dX7_as_24 (by decide) ?_
      refine j_callViR (y := I_X7_as) (As := [.int x1, .int (2 : Int32)]) cv_7_68 ⟨Nat.le_of_ble_eq_true rfl, Nat.le_of_ble_eq_true rfl⟩ k_108 rfl (Nat.le_of_ble_eq_true rfl) dX7_as_25 (c_X7_get l w x1 (2 : Int32) S) (fun v25 h25 => ?_)
      refine j_istore_n (y := I_X7_as) (ls' := [(3, .int v25), (0, .ref (w.2.1 + 108)), (1, .int x1), (2, .int x2)]) dX7_as_28 rfl (by decide) rfl ?_
      refine j_iload_n (y := I_X7_as) 0 dX7_as_29 rfl rfl ?_
      refine j_if_ne (y := I_X7_as) 40 dX7_as_30 (by decide) (fun h30 => ?_) (fun h30 => ?_)
      · refine j_iload_n (y := I_X7_as) 3 dX7_as_40 rfl rfl ?_
        refine j_iload_n (y := I_X7_as) 0 dX7_as_41 rfl rfl ?_
        refine j_icmp_eq (y := I_X7_as) 55 dX7_as_42 (by decide) (fun h42 => ?_) (fun h42 => ?_)
        · refine j_iload_n (y := I_X7_as) 2 dX7_as_55 rfl rfl ?_
          refine j_goto (y := I_X7_as) 65 dX7_as_56 (by decide) ?_
          exact j_iret (y := I_X7_as) rfl dX7_as_65 rfl
        · refine j_iload_n (y := I_X7_as) 3 dX7_as_45 rfl rfl ?_
          refine j_iconst (y := I_X7_as) (v := 1) dX7_as_46 (by decide) ?_
          refine j_icmp_ne (y := I_X7_as) 59 dX7_as_47 (by decide) (fun h47 => ?_) (fun h47 => ?_)
          · refine j_aload_n (y := I_X7_as) 1 dX7_as_59 rfl rfl ?_
            refine j_bipush (y := I_X7_as) (v := -4) dX7_as_60 (by decide) ?_
            refine j_callViT (y := I_X7_as) (As := [.int (-4 : Int32)]) cv_7_72 ⟨Nat.le_of_ble_eq_true rfl, Nat.le_of_ble_eq_true rfl⟩ k_108 rfl (Nat.le_of_ble_eq_true rfl) dX7_as_62 (c_X7_found l w (-4 : Int32) S) ?_
            exact j_iret (y := I_X7_as) rfl dX7_as_65 rfl
          · refine j_iload_n (y := I_X7_as) 0 dX7_as_50 rfl rfl ?_
            refine j_iconst (y := I_X7_as) (v := 5) dX7_as_51 (by decide) ?_
            refine j_icmp_eq (y := I_X7_as) 59 dX7_as_52 (by decide) (fun h52 => ?_) (fun h52 => ?_)
            · refine j_aload_n (y := I_X7_as) 1 dX7_as_59 rfl rfl ?_
              refine j_bipush (y := I_X7_as) (v := -4) dX7_as_60 (by decide) ?_
              refine j_callViT (y := I_X7_as) (As := [.int (-4 : Int32)]) cv_7_72 ⟨Nat.le_of_ble_eq_true rfl, Nat.le_of_ble_eq_true rfl⟩ k_108 rfl (Nat.le_of_ble_eq_true rfl) dX7_as_62 (c_X7_found l w (-4 : Int32) S) ?_
              exact j_iret (y := I_X7_as) rfl dX7_as_65 rfl
            · refine j_iload_n (y := I_X7_as) 2 dX7_as_55 rfl rfl ?_
              refine j_goto (y := I_X7_as) 65 dX7_as_56 (by decide) ?_
              exact j_iret (y := I_X7_as) rfl dX7_as_65 rfl
      · refine j_aload_n (y := I_X7_as) 1 dX7_as_33 rfl rfl ?_
        refine j_bipush (y := I_X7_as) (v := -6) dX7_as_34 (by decide) ?_
        refine j_callViT (y := I_X7_as) (As := [.int (-6 : Int32)]) cv_7_72 ⟨Nat.le_of_ble_eq_true rfl, Nat.le_of_ble_eq_true rfl⟩ k_108 rfl (Nat.le_of_ble_eq_true rfl) dX7_as_36 (c_X7_found l w (-6 : Int32) S) ?_
        exact j_iret (y := I_X7_as) rfl dX7_as_39 rfl
    · refine j_aload_n (y := I_X7_as) 0 dX7_as_16 rfl rfl ?_
      refine j_iconst (y := I_X7_as) (v := -1) dX7_as_17 (by decide) ?_
      refine j_callViT (y := I_X7_as) (As := [.int (-1 : Int32)]) cv_7_72 ⟨Nat.le_of_ble_eq_true rfl, Nat.le_of_ble_eq_true rfl⟩ k_108 rfl (Nat.le_of_ble_eq_true rfl) dX7_as_18 (c_X7_found l w (-1 : Int32) S) ?_
      exact j_iret (y := I_X7_as) rfl dX7_as_21 rfl
theorem c_X7_as (l : Launch) (w : Wd) (x1 : Int32) (x2 : Int32) (S : St)  : ∀ v, f_X7_as x1 x2 S = some v → CtS l w I_X7_as [.ref (w.2.1 + 108), .int x1, .int x2] S v.2 (some (.int v.1)) := fun v h => J.ct (av := [.ref (w.2.1 + 108), .int x1, .int x2]) (Nat.le_of_ble_eq_true rfl) pn_7 (m_X7_as l w x1 x2 S ) h
abbrev I_X7_lay : MI := (yX7_lay, cX7_lay, 4, none, { frames := 0, cells := 0, slots := 0, locals := 0 })
theorem dX7_lay_0 : decode cX7_lay 0 = .ok (.aload_n 0, 1) := by decide +kernel
theorem dX7_lay_1 : decode cX7_lay 1 = .ok (.getfield 7, 3) := by decide +kernel
theorem dX7_lay_4 : decode cX7_lay 4 = .ok (.bipush 66, 2) := by decide +kernel
theorem dX7_lay_6 : decode cX7_lay 6 = .ok (.bipush 11, 2) := by decide +kernel
theorem dX7_lay_8 : decode cX7_lay 8 = .ok (.iload_n 1, 1) := by decide +kernel
theorem dX7_lay_9 : decode cX7_lay 9 = .ok (.imul, 1) := by decide +kernel
theorem dX7_lay_10 : decode cX7_lay 10 = .ok (.iadd, 1) := by decide +kernel
theorem dX7_lay_11 : decode cX7_lay 11 = .ok (.iload_n 2, 1) := by decide +kernel
theorem dX7_lay_12 : decode cX7_lay 12 = .ok (.iadd, 1) := by decide +kernel
theorem dX7_lay_13 : decode cX7_lay 13 = .ok (.iload_n 3, 1) := by decide +kernel
theorem dX7_lay_14 : decode cX7_lay 14 = .ok (.iastore, 1) := by decide +kernel
theorem dX7_lay_15 : decode cX7_lay 15 = .ok (.return_, 1) := by decide +kernel
def f_X7_lay (x1 : Int32) (x2 : Int32) (x3 : Int32) (S : St) : Option (St) := if inb (((66 : Int32) + ((11 : Int32) * x1)) + x2) 788 = true then (some (wr S 109 (ix (((66 : Int32) + ((11 : Int32) * x1)) + x2)) x3)) else none
set_option maxRecDepth 100000 in
set_option maxHeartbeats 4000000 in
theorem m_X7_lay (l : Launch) (w : Wd) (x1 : Int32) (x2 : Int32) (x3 : Int32) (S : St)  : J l w I_X7_lay 0 [(0, .ref (w.2.1 + 108)), (1, .int x1), (2, .int x2), (3, .int x3)] [] S (fun b => (none, b)) (f_X7_lay x1 x2 x3 S) := by
  unfold f_X7_lay
  refine j_aload_n (y := I_X7_lay) 0 dX7_lay_0 rfl rfl ?_
  refine j_getR (y := I_X7_lay) (j := 109) fl_7_7 k_108 rfl rfl dX7_lay_1 ?_
  refine j_bipush (y := I_X7_lay) (v := 66) dX7_lay_4 (by decide) ?_
  refine j_bipush (y := I_X7_lay) (v := 11) dX7_lay_6 (by decide) ?_
  refine j_iload_n (y := I_X7_lay) 1 dX7_lay_8 rfl rfl ?_
  refine j_imul (y := I_X7_lay) dX7_lay_9 ?_
  refine j_iadd (y := I_X7_lay) dX7_lay_10 ?_
  refine j_iload_n (y := I_X7_lay) 2 dX7_lay_11 rfl rfl ?_
  refine j_iadd (y := I_X7_lay) dX7_lay_12 ?_
  refine j_iload_n (y := I_X7_lay) 3 dX7_lay_13 rfl rfl ?_
  refine j_iast (y := I_X7_lay) k_109 dX7_lay_14 (fun h14 => ?_)
  exact j_vret (y := I_X7_lay) rfl dX7_lay_15 rfl
theorem c_X7_lay (l : Launch) (w : Wd) (x1 : Int32) (x2 : Int32) (x3 : Int32) (S : St)  : ∀ v, f_X7_lay x1 x2 x3 S = some v → CtS l w I_X7_lay [.ref (w.2.1 + 108), .int x1, .int x2, .int x3] S v none := fun v h => J.ct (av := [.ref (w.2.1 + 108), .int x1, .int x2, .int x3]) (Nat.le_of_ble_eq_true rfl) pn_7 (m_X7_lay l w x1 x2 x3 S ) h
abbrev I_X7_at : MI := (yX7_at, cX7_at, 4, some .int, { frames := 2, cells := 0, slots := 0, locals := 42 })
theorem dX7_at_0 : decode cX7_at 0 = .ok (.iload_n 1, 1) := by decide +kernel
theorem dX7_at_1 : decode cX7_at 1 = .ok (.invokestatic 88, 3) := by decide +kernel
theorem dX7_at_4 : decode cX7_at 4 = .ok (.ifCond .eq 23, 3) := by decide +kernel
theorem dX7_at_7 : decode cX7_at 7 = .ok (.iload_n 2, 1) := by decide +kernel
theorem dX7_at_8 : decode cX7_at 8 = .ok (.iconst 0, 1) := by decide +kernel
theorem dX7_at_9 : decode cX7_at 9 = .ok (.bipush 15, 2) := by decide +kernel
theorem dX7_at_11 : decode cX7_at 11 = .ok (.invokestatic 64, 3) := by decide +kernel
theorem dX7_at_14 : decode cX7_at 14 = .ok (.ifCond .eq 13, 3) := by decide +kernel
theorem dX7_at_17 : decode cX7_at 17 = .ok (.iload_n 3, 1) := by decide +kernel
theorem dX7_at_18 : decode cX7_at 18 = .ok (.iconst 0, 1) := by decide +kernel
theorem dX7_at_19 : decode cX7_at 19 = .ok (.bipush 15, 2) := by decide +kernel
theorem dX7_at_21 : decode cX7_at 21 = .ok (.invokestatic 64, 3) := by decide +kernel
theorem dX7_at_24 : decode cX7_at 24 = .ok (.ifCond .ne 9, 3) := by decide +kernel
theorem dX7_at_27 : decode cX7_at 27 = .ok (.aload_n 0, 1) := by decide +kernel
theorem dX7_at_28 : decode cX7_at 28 = .ok (.iconst (-1), 1) := by decide +kernel
theorem dX7_at_29 : decode cX7_at 29 = .ok (.invokevirtual 72, 3) := by decide +kernel
theorem dX7_at_32 : decode cX7_at 32 = .ok (.ireturn, 1) := by decide +kernel
theorem dX7_at_33 : decode cX7_at 33 = .ok (.aload_n 0, 1) := by decide +kernel
theorem dX7_at_34 : decode cX7_at 34 = .ok (.iload_n 1, 1) := by decide +kernel
theorem dX7_at_35 : decode cX7_at 35 = .ok (.iconst 2, 1) := by decide +kernel
theorem dX7_at_36 : decode cX7_at 36 = .ok (.invokevirtual 68, 3) := by decide +kernel
theorem dX7_at_39 : decode cX7_at 39 = .ok (.ifCond .eq 10, 3) := by decide +kernel
theorem dX7_at_42 : decode cX7_at 42 = .ok (.aload_n 0, 1) := by decide +kernel
theorem dX7_at_43 : decode cX7_at 43 = .ok (.bipush (-7), 2) := by decide +kernel
theorem dX7_at_45 : decode cX7_at 45 = .ok (.invokevirtual 72, 3) := by decide +kernel
theorem dX7_at_48 : decode cX7_at 48 = .ok (.ireturn, 1) := by decide +kernel
theorem dX7_at_49 : decode cX7_at 49 = .ok (.aload_n 0, 1) := by decide +kernel
theorem dX7_at_50 : decode cX7_at 50 = .ok (.iload_n 1, 1) := by decide +kernel
theorem dX7_at_51 : decode cX7_at 51 = .ok (.iconst 0, 1) := by decide +kernel
theorem dX7_at_52 : decode cX7_at 52 = .ok (.iload_n 2, 1) := by decide +kernel
theorem dX7_at_53 : decode cX7_at 53 = .ok (.invokevirtual 91, 3) := by decide +kernel
theorem dX7_at_56 : decode cX7_at 56 = .ok (.aload_n 0, 1) := by decide +kernel
theorem dX7_at_57 : decode cX7_at 57 = .ok (.iload_n 1, 1) := by decide +kernel
theorem dX7_at_58 : decode cX7_at 58 = .ok (.iconst 1, 1) := by decide +kernel
theorem dX7_at_59 : decode cX7_at 59 = .ok (.iload_n 3, 1) := by decide +kernel
theorem dX7_at_60 : decode cX7_at 60 = .ok (.invokevirtual 91, 3) := by decide +kernel
theorem dX7_at_63 : decode cX7_at 63 = .ok (.aload_n 0, 1) := by decide +kernel
theorem dX7_at_64 : decode cX7_at 64 = .ok (.iconst 0, 1) := by decide +kernel
theorem dX7_at_65 : decode cX7_at 65 = .ok (.putfield 76, 3) := by decide +kernel
theorem dX7_at_68 : decode cX7_at 68 = .ok (.iconst 1, 1) := by decide +kernel
theorem dX7_at_69 : decode cX7_at 69 = .ok (.ireturn, 1) := by decide +kernel
theorem cv_7_91 : CV RX7 91 3 7 I_X7_lay := ⟨⟨⟨gm 887 (by decide +kernel) rfl, gm 890 (by decide +kernel) rfl, gm 44 (by decide +kernel) rfl, mh_7.1, mh_7.2, by decide +kernel⟩, gm 889 (by decide +kernel) rfl, gm 7 (by decide +kernel) rfl⟩, ⟨_, _, rfl⟩, rfl, rfl⟩
def f_X7_at (x1 : Int32) (x2 : Int32) (x3 : Int32) (S : St) : Option (Int32 × St) := if (f_X7_isPlace x1) = true then (if (f_X7_in x2 (0 : Int32) (15 : Int32)) = true then (if (f_X7_in x3 (0 : Int32) (15 : Int32)) = true then ((f_X7_get x1 (2 : Int32) S).bind fun v36 => (if v36 = 0 then ((f_X7_lay x1 (0 : Int32) x2 S).bind fun v53 => ((f_X7_lay x1 (1 : Int32) x3 v53).bind fun v60 => (some ((1 : Int32), (wr v60 108 9 (0 : Int32)))))) else (some (((f_X7_found (-7 : Int32) S).1), (f_X7_found (-7 : Int32) S).2)))) else (some (((f_X7_found (-1 : Int32) S).1), (f_X7_found (-1 : Int32) S).2))) else (some (((f_X7_found (-1 : Int32) S).1), (f_X7_found (-1 : Int32) S).2))) else (some (((f_X7_found (-1 : Int32) S).1), (f_X7_found (-1 : Int32) S).2))
set_option maxRecDepth 100000 in
set_option maxHeartbeats 4000000 in
theorem m_X7_at (l : Launch) (w : Wd) (x1 : Int32) (x2 : Int32) (x3 : Int32) (S : St)  : J l w I_X7_at 0 [(0, .ref (w.2.1 + 108)), (1, .int x1), (2, .int x2), (3, .int x3)] [] S (fun b => (some (.int b.1), b.2)) (f_X7_at x1 x2 x3 S) := by
  unfold f_X7_at
  refine j_iload_n (y := I_X7_at) 1 dX7_at_0 rfl rfl ?_
  refine j_callSzT (y := I_X7_at) (As := [.int x1]) cv_7_88 ⟨Nat.le_of_ble_eq_true rfl, Nat.le_of_ble_eq_true rfl⟩ rfl (Nat.le_of_ble_eq_true rfl) dX7_at_1 (c_X7_isPlace l w x1 S) ?_
  refine j_if_eqB (y := I_X7_at) 27 dX7_at_4 (by decide) (fun h4 => ?_) (fun h4 => ?_)
  · refine j_aload_n (y := I_X7_at) 0 dX7_at_27 rfl rfl ?_
    refine j_iconst (y := I_X7_at) (v := -1) dX7_at_28 (by decide) ?_
    refine j_callViT (y := I_X7_at) (As := [.int (-1 : Int32)]) cv_7_72 ⟨Nat.le_of_ble_eq_true rfl, Nat.le_of_ble_eq_true rfl⟩ k_108 rfl (Nat.le_of_ble_eq_true rfl) dX7_at_29 (c_X7_found l w (-1 : Int32) S) ?_
    exact j_iret (y := I_X7_at) rfl dX7_at_32 rfl
  · refine j_iload_n (y := I_X7_at) 2 dX7_at_7 rfl rfl ?_
    refine j_iconst (y := I_X7_at) (v := 0) dX7_at_8 (by decide) ?_
    refine j_bipush (y := I_X7_at) (v := 15) dX7_at_9 (by decide) ?_
    refine j_callSzT (y := I_X7_at) (As := [.int x2, .int (0 : Int32), .int (15 : Int32)]) cv_7_64 ⟨Nat.le_of_ble_eq_true rfl, Nat.le_of_ble_eq_true rfl⟩ rfl (Nat.le_of_ble_eq_true rfl) dX7_at_11 (c_X7_in l w x2 (0 : Int32) (15 : Int32) S) ?_
    refine j_if_eqB (y := I_X7_at) 27 dX7_at_14 (by decide) (fun h14 => ?_) (fun h14 => ?_)
    · refine j_aload_n (y := I_X7_at) 0 dX7_at_27 rfl rfl ?_
      refine j_iconst (y := I_X7_at) (v := -1) dX7_at_28 (by decide) ?_
      refine j_callViT (y := I_X7_at) (As := [.int (-1 : Int32)]) cv_7_72 ⟨Nat.le_of_ble_eq_true rfl, Nat.le_of_ble_eq_true rfl⟩ k_108 rfl (Nat.le_of_ble_eq_true rfl) dX7_at_29 (c_X7_found l w (-1 : Int32) S) ?_
      exact j_iret (y := I_X7_at) rfl dX7_at_32 rfl
    · refine j_iload_n (y := I_X7_at) 3 dX7_at_17 rfl rfl ?_
      refine j_iconst (y := I_X7_at) (v := 0) dX7_at_18 (by decide) ?_
      refine j_bipush (y := I_X7_at) (v := 15) dX7_at_19 (by decide) ?_
      refine j_callSzT (y := I_X7_at) (As := [.int x3, .int (0 : Int32), .int (15 : Int32)]) cv_7_64 ⟨Nat.le_of_ble_eq_true rfl, Nat.le_of_ble_eq_true rfl⟩ rfl (Nat.le_of_ble_eq_true rfl) dX7_at_21 (c_X7_in l w x3 (0 : Int32) (15 : Int32) S) ?_
      refine j_if_neB (y := I_X7_at) 33 dX7_at_24 (by decide) (fun h24 => ?_) (fun h24 => ?_)
      · refine j_aload_n (y := I_X7_at) 0 dX7_at_33 rfl rfl ?_
        refine j_iload_n (y := I_X7_at) 1 dX7_at_34 rfl rfl ?_
        refine j_iconst (y := I_X7_at) (v := 2) dX7_at_35 (by decide) ?_
        refine j_callViR (y := I_X7_at) (As := [.int x1, .int (2 : Int32)]) cv_7_68 ⟨Nat.le_of_ble_eq_true rfl, Nat.le_of_ble_eq_true rfl⟩ k_108 rfl (Nat.le_of_ble_eq_true rfl) dX7_at_36 (c_X7_get l w x1 (2 : Int32) S) (fun v36 h36 => ?_)
        refine j_if_eq (y := I_X7_at) 49 dX7_at_39 (by decide) (fun h39 => ?_) (fun h39 => ?_)
        · refine j_aload_n (y := I_X7_at) 0 dX7_at_49 rfl rfl ?_
          refine j_iload_n (y := I_X7_at) 1 dX7_at_50 rfl rfl ?_
          refine j_iconst (y := I_X7_at) (v := 0) dX7_at_51 (by decide) ?_
          refine j_iload_n (y := I_X7_at) 2 dX7_at_52 rfl rfl ?_
          refine j_callVvS (y := I_X7_at) (As := [.int x1, .int (0 : Int32), .int x2]) cv_7_91 ⟨Nat.le_of_ble_eq_true rfl, Nat.le_of_ble_eq_true rfl⟩ k_108 rfl (Nat.le_of_ble_eq_true rfl) dX7_at_53 (c_X7_lay l w x1 (0 : Int32) x2 S) (fun v53 h53 => ?_)
          refine j_aload_n (y := I_X7_at) 0 dX7_at_56 rfl rfl ?_
          refine j_iload_n (y := I_X7_at) 1 dX7_at_57 rfl rfl ?_
          refine j_iconst (y := I_X7_at) (v := 1) dX7_at_58 (by decide) ?_
          refine j_iload_n (y := I_X7_at) 3 dX7_at_59 rfl rfl ?_
          refine j_callVvS (y := I_X7_at) (As := [.int x1, .int (1 : Int32), .int x3]) cv_7_91 ⟨Nat.le_of_ble_eq_true rfl, Nat.le_of_ble_eq_true rfl⟩ k_108 rfl (Nat.le_of_ble_eq_true rfl) dX7_at_60 (c_X7_lay l w x1 (1 : Int32) x3 v53) (fun v60 h60 => ?_)
          refine j_aload_n (y := I_X7_at) 0 dX7_at_63 rfl rfl ?_
          refine j_iconst (y := I_X7_at) (v := 0) dX7_at_64 (by decide) ?_
          refine j_putI (y := I_X7_at) fp_7_76 k_108 rfl rfl rfl dX7_at_65 ?_
          refine j_iconst (y := I_X7_at) (v := 1) dX7_at_68 (by decide) ?_
          exact j_iret (y := I_X7_at) rfl dX7_at_69 rfl
        · refine j_aload_n (y := I_X7_at) 0 dX7_at_42 rfl rfl ?_
          refine j_bipush (y := I_X7_at) (v := -7) dX7_at_43 (by decide) ?_
          refine j_callViT (y := I_X7_at) (As := [.int (-7 : Int32)]) cv_7_72 ⟨Nat.le_of_ble_eq_true rfl, Nat.le_of_ble_eq_true rfl⟩ k_108 rfl (Nat.le_of_ble_eq_true rfl) dX7_at_45 (c_X7_found l w (-7 : Int32) S) ?_
          exact j_iret (y := I_X7_at) rfl dX7_at_48 rfl
      · refine j_aload_n (y := I_X7_at) 0 dX7_at_27 rfl rfl ?_
        refine j_iconst (y := I_X7_at) (v := -1) dX7_at_28 (by decide) ?_
        refine j_callViT (y := I_X7_at) (As := [.int (-1 : Int32)]) cv_7_72 ⟨Nat.le_of_ble_eq_true rfl, Nat.le_of_ble_eq_true rfl⟩ k_108 rfl (Nat.le_of_ble_eq_true rfl) dX7_at_29 (c_X7_found l w (-1 : Int32) S) ?_
        exact j_iret (y := I_X7_at) rfl dX7_at_32 rfl
theorem c_X7_at (l : Launch) (w : Wd) (x1 : Int32) (x2 : Int32) (x3 : Int32) (S : St)  : ∀ v, f_X7_at x1 x2 x3 S = some v → CtS l w I_X7_at [.ref (w.2.1 + 108), .int x1, .int x2, .int x3] S v.2 (some (.int v.1)) := fun v h => J.ct (av := [.ref (w.2.1 + 108), .int x1, .int x2, .int x3]) (Nat.le_of_ble_eq_true rfl) pn_7 (m_X7_at l w x1 x2 x3 S ) h
abbrev I_X7_back : MI := (yX7_back, cX7_back, 2, some .int, { frames := 1, cells := 0, slots := 0, locals := 21 })
theorem dX7_back_0 : decode cX7_back 0 = .ok (.aload_n 0, 1) := by decide +kernel
theorem dX7_back_1 : decode cX7_back 1 = .ok (.getfield 203, 3) := by decide +kernel
theorem dX7_back_4 : decode cX7_back 4 = .ok (.ifCond .ne 10, 3) := by decide +kernel
theorem dX7_back_7 : decode cX7_back 7 = .ok (.aload_n 0, 1) := by decide +kernel
theorem dX7_back_8 : decode cX7_back 8 = .ok (.bipush (-6), 2) := by decide +kernel
theorem dX7_back_10 : decode cX7_back 10 = .ok (.invokevirtual 72, 3) := by decide +kernel
theorem dX7_back_13 : decode cX7_back 13 = .ok (.ireturn, 1) := by decide +kernel
theorem dX7_back_14 : decode cX7_back 14 = .ok (.iconst 0, 1) := by decide +kernel
theorem dX7_back_15 : decode cX7_back 15 = .ok (.istore_n 1, 1) := by decide +kernel
theorem dX7_back_16 : decode cX7_back 16 = .ok (.iload_n 1, 1) := by decide +kernel
theorem dX7_back_17 : decode cX7_back 17 = .ok (.sipush 788, 3) := by decide +kernel
theorem dX7_back_20 : decode cX7_back 20 = .ok (.if_icmp .ge 21, 3) := by decide +kernel
theorem dX7_back_23 : decode cX7_back 23 = .ok (.aload_n 0, 1) := by decide +kernel
theorem dX7_back_24 : decode cX7_back 24 = .ok (.getfield 7, 3) := by decide +kernel
theorem dX7_back_27 : decode cX7_back 27 = .ok (.iload_n 1, 1) := by decide +kernel
theorem dX7_back_28 : decode cX7_back 28 = .ok (.aload_n 0, 1) := by decide +kernel
theorem dX7_back_29 : decode cX7_back 29 = .ok (.getfield 13, 3) := by decide +kernel
theorem dX7_back_32 : decode cX7_back 32 = .ok (.iload_n 1, 1) := by decide +kernel
theorem dX7_back_33 : decode cX7_back 33 = .ok (.iaload, 1) := by decide +kernel
theorem dX7_back_34 : decode cX7_back 34 = .ok (.iastore, 1) := by decide +kernel
theorem dX7_back_35 : decode cX7_back 35 = .ok (.iinc 1 1, 3) := by decide +kernel
theorem dX7_back_38 : decode cX7_back 38 = .ok (.goto (-22), 3) := by decide +kernel
theorem dX7_back_41 : decode cX7_back 41 = .ok (.iconst 0, 1) := by decide +kernel
theorem dX7_back_42 : decode cX7_back 42 = .ok (.istore_n 1, 1) := by decide +kernel
theorem dX7_back_43 : decode cX7_back 43 = .ok (.iload_n 1, 1) := by decide +kernel
theorem dX7_back_44 : decode cX7_back 44 = .ok (.bipush 10, 2) := by decide +kernel
theorem dX7_back_46 : decode cX7_back 46 = .ok (.if_icmp .ge 21, 3) := by decide +kernel
theorem dX7_back_49 : decode cX7_back 49 = .ok (.aload_n 0, 1) := by decide +kernel
theorem dX7_back_50 : decode cX7_back 50 = .ok (.getfield 16, 3) := by decide +kernel
theorem dX7_back_53 : decode cX7_back 53 = .ok (.iload_n 1, 1) := by decide +kernel
theorem dX7_back_54 : decode cX7_back 54 = .ok (.aload_n 0, 1) := by decide +kernel
theorem dX7_back_55 : decode cX7_back 55 = .ok (.getfield 20, 3) := by decide +kernel
theorem dX7_back_58 : decode cX7_back 58 = .ok (.iload_n 1, 1) := by decide +kernel
theorem dX7_back_59 : decode cX7_back 59 = .ok (.laload, 1) := by decide +kernel
theorem dX7_back_60 : decode cX7_back 60 = .ok (.lastore, 1) := by decide +kernel
theorem dX7_back_61 : decode cX7_back 61 = .ok (.iinc 1 1, 3) := by decide +kernel
theorem dX7_back_64 : decode cX7_back 64 = .ok (.goto (-21), 3) := by decide +kernel
theorem dX7_back_67 : decode cX7_back 67 = .ok (.aload_n 0, 1) := by decide +kernel
theorem dX7_back_68 : decode cX7_back 68 = .ok (.iconst 0, 1) := by decide +kernel
theorem dX7_back_69 : decode cX7_back 69 = .ok (.putfield 76, 3) := by decide +kernel
theorem dX7_back_72 : decode cX7_back 72 = .ok (.aload_n 0, 1) := by decide +kernel
theorem dX7_back_73 : decode cX7_back 73 = .ok (.getfield 7, 3) := by decide +kernel
theorem dX7_back_76 : decode cX7_back 76 = .ok (.sipush 784, 3) := by decide +kernel
theorem dX7_back_79 : decode cX7_back 79 = .ok (.iaload, 1) := by decide +kernel
theorem dX7_back_80 : decode cX7_back 80 = .ok (.ireturn, 1) := by decide +kernel
def f_X7_back_L16 (fuel : Nat) (K : St → Option (Int32 × St)) (a16_1 : Int32) (S16 : St) : Option (Int32 × St) := match fuel with
  | 0 => none
  | n + 1 => if a16_1 < (788 : Int32) then (if inb a16_1 788 = true then (if inb a16_1 788 = true then (f_X7_back_L16 n K (a16_1 + (1 : Int32)) (wr S16 109 (ix a16_1) (rd S16 110 (ix a16_1)))) else none) else none) else (K S16)
def f_X7_back_L43 (fuel : Nat) (K : St → Option (Int32 × St)) (a43_1 : Int32) (S43 : St) : Option (Int32 × St) := match fuel with
  | 0 => none
  | n + 1 => if a43_1 < (10 : Int32) then (if inb a43_1 10 = true then (if inb a43_1 10 = true then (f_X7_back_L43 n K (a43_1 + (1 : Int32)) (wrL S43 111 (ix a43_1) (rdL S43 112 (ix a43_1)))) else none) else none) else (K S43)
def f_X7_back  (S : St) : Option (Int32 × St) := if (rd S 108 4) = 0 then (some (((f_X7_found (-6 : Int32) S).1), (f_X7_found (-6 : Int32) S).2)) else (f_X7_back_L16 6000 (fun T41 => (f_X7_back_L43 6000 (fun T67 => (some ((rd (wr T67 108 9 (0 : Int32)) 109 (ix (784 : Int32))), (wr T67 108 9 (0 : Int32))))) (0 : Int32) T41)) (0 : Int32) S)
set_option maxRecDepth 100000 in
theorem jl_X7_back_16 (l : Launch) (w : Wd) (K : St → Option (Int32 × St)) (n : Nat) : ∀ (a16_1 : Int32) (S16 : St), (∀  (S' : St) , J l w I_X7_back 41 [(0, .ref (w.2.1 + 108))] [] S' (fun b => (some (.int b.1), b.2)) (K  S')) → J l w I_X7_back 16 [(0, .ref (w.2.1 + 108)), (1, .int a16_1)] [] S16 (fun b => (some (.int b.1), b.2)) (f_X7_back_L16 n K a16_1 S16) := by
  induction n with
  | zero =>
    intro a16_1 S16 hK b h
    simp only [f_X7_back_L16] at h
    cases h
  | succ n ih =>
    intro a16_1 S16 hK
    rw [f_X7_back_L16]
    refine j_iload_n (y := I_X7_back) 1 dX7_back_16 rfl rfl ?_
    refine j_sipush (y := I_X7_back) (v := 788) dX7_back_17 (by decide) ?_
    refine j_icmp_ge (y := I_X7_back) 41 dX7_back_20 (by decide) (fun h20 => ?_) (fun h20 => ?_)
    · refine j_sub [0] rfl ?_
      exact hK S16
    · refine j_aload_n (y := I_X7_back) 0 dX7_back_23 rfl rfl ?_
      refine j_getR (y := I_X7_back) (j := 109) fl_7_7 k_108 rfl rfl dX7_back_24 ?_
      refine j_iload_n (y := I_X7_back) 1 dX7_back_27 rfl rfl ?_
      refine j_aload_n (y := I_X7_back) 0 dX7_back_28 rfl rfl ?_
      refine j_getR (y := I_X7_back) (j := 110) fl_7_13 k_108 rfl rfl dX7_back_29 ?_
      refine j_iload_n (y := I_X7_back) 1 dX7_back_32 rfl rfl ?_
      refine j_iald (y := I_X7_back) k_110 dX7_back_33 (fun h33 => ?_)
      refine j_iast (y := I_X7_back) k_109 dX7_back_34 (fun h34 => ?_)
      refine j_iinc (y := I_X7_back) 1 (ls' := [(1, .int (a16_1 + (1 : Int32))), (0, .ref (w.2.1 + 108))]) dX7_back_35 rfl (ii _ _ (by decide) _) (by decide) rfl ?_
      refine j_goto (y := I_X7_back) 16 dX7_back_38 (by decide) ?_
      refine j_sub [1, 0] rfl ?_
      exact ih (a16_1 + (1 : Int32)) (wr S16 109 (ix a16_1) (rd S16 110 (ix a16_1))) hK
set_option maxRecDepth 100000 in
theorem jl_X7_back_43 (l : Launch) (w : Wd) (K : St → Option (Int32 × St)) (n : Nat) : ∀ (a43_1 : Int32) (S43 : St), (∀  (S' : St) , J l w I_X7_back 67 [(0, .ref (w.2.1 + 108))] [] S' (fun b => (some (.int b.1), b.2)) (K  S')) → J l w I_X7_back 43 [(0, .ref (w.2.1 + 108)), (1, .int a43_1)] [] S43 (fun b => (some (.int b.1), b.2)) (f_X7_back_L43 n K a43_1 S43) := by
  induction n with
  | zero =>
    intro a43_1 S43 hK b h
    simp only [f_X7_back_L43] at h
    cases h
  | succ n ih =>
    intro a43_1 S43 hK
    rw [f_X7_back_L43]
    refine j_iload_n (y := I_X7_back) 1 dX7_back_43 rfl rfl ?_
    refine j_bipush (y := I_X7_back) (v := 10) dX7_back_44 (by decide) ?_
    refine j_icmp_ge (y := I_X7_back) 67 dX7_back_46 (by decide) (fun h46 => ?_) (fun h46 => ?_)
    · refine j_sub [0] rfl ?_
      exact hK S43
    · refine j_aload_n (y := I_X7_back) 0 dX7_back_49 rfl rfl ?_
      refine j_getR (y := I_X7_back) (j := 111) fl_7_16 k_108 rfl rfl dX7_back_50 ?_
      refine j_iload_n (y := I_X7_back) 1 dX7_back_53 rfl rfl ?_
      refine j_aload_n (y := I_X7_back) 0 dX7_back_54 rfl rfl ?_
      refine j_getR (y := I_X7_back) (j := 112) fl_7_20 k_108 rfl rfl dX7_back_55 ?_
      refine j_iload_n (y := I_X7_back) 1 dX7_back_58 rfl rfl ?_
      refine j_lald (y := I_X7_back) k_112 dX7_back_59 (fun h59 => ?_)
      refine j_last (y := I_X7_back) k_111 dX7_back_60 (fun h60 => ?_)
      refine j_iinc (y := I_X7_back) 1 (ls' := [(1, .int (a43_1 + (1 : Int32))), (0, .ref (w.2.1 + 108))]) dX7_back_61 rfl (ii _ _ (by decide) _) (by decide) rfl ?_
      refine j_goto (y := I_X7_back) 43 dX7_back_64 (by decide) ?_
      refine j_sub [1, 0] rfl ?_
      exact ih (a43_1 + (1 : Int32)) (wrL S43 111 (ix a43_1) (rdL S43 112 (ix a43_1))) hK
set_option maxRecDepth 100000 in
set_option maxHeartbeats 4000000 in
theorem m_X7_back (l : Launch) (w : Wd)  (S : St)  : J l w I_X7_back 0 [(0, .ref (w.2.1 + 108))] [] S (fun b => (some (.int b.1), b.2)) (f_X7_back S) := by
  unfold f_X7_back
  refine j_aload_n (y := I_X7_back) 0 dX7_back_0 rfl rfl ?_
  refine j_getI (y := I_X7_back) fl_7_203 k_108 rfl dX7_back_1 ?_
  refine j_if_ne (y := I_X7_back) 14 dX7_back_4 (by decide) (fun h4 => ?_) (fun h4 => ?_)
  · refine j_iconst (y := I_X7_back) (v := 0) dX7_back_14 (by decide) ?_
    refine j_istore_n (y := I_X7_back) (ls' := [(1, .int (0 : Int32)), (0, .ref (w.2.1 + 108))]) dX7_back_15 rfl (by decide) rfl ?_
    refine j_sub [1, 0] rfl ?_
    refine jl_X7_back_16 l w _ 6000 (0 : Int32) S  (fun T41 => ?_)
    refine j_iconst (y := I_X7_back) (v := 0) dX7_back_41 (by decide) ?_
    refine j_istore_n (y := I_X7_back) (ls' := [(1, .int (0 : Int32)), (0, .ref (w.2.1 + 108))]) dX7_back_42 rfl (by decide) rfl ?_
    refine j_sub [1, 0] rfl ?_
    refine jl_X7_back_43 l w _ 6000 (0 : Int32) T41  (fun T67 => ?_)
    refine j_aload_n (y := I_X7_back) 0 dX7_back_67 rfl rfl ?_
    refine j_iconst (y := I_X7_back) (v := 0) dX7_back_68 (by decide) ?_
    refine j_putI (y := I_X7_back) fp_7_76 k_108 rfl rfl rfl dX7_back_69 ?_
    refine j_aload_n (y := I_X7_back) 0 dX7_back_72 rfl rfl ?_
    refine j_getR (y := I_X7_back) (j := 109) fl_7_7 k_108 rfl rfl dX7_back_73 ?_
    refine j_sipush (y := I_X7_back) (v := 784) dX7_back_76 (by decide) ?_
    refine j_ialdL (y := I_X7_back) k_109 (by decide) dX7_back_79 ?_
    exact j_iret (y := I_X7_back) rfl dX7_back_80 rfl
  · refine j_aload_n (y := I_X7_back) 0 dX7_back_7 rfl rfl ?_
    refine j_bipush (y := I_X7_back) (v := -6) dX7_back_8 (by decide) ?_
    refine j_callViT (y := I_X7_back) (As := [.int (-6 : Int32)]) cv_7_72 ⟨Nat.le_of_ble_eq_true rfl, Nat.le_of_ble_eq_true rfl⟩ k_108 rfl (Nat.le_of_ble_eq_true rfl) dX7_back_10 (c_X7_found l w (-6 : Int32) S) ?_
    exact j_iret (y := I_X7_back) rfl dX7_back_13 rfl
theorem c_X7_back (l : Launch) (w : Wd)  (S : St)  : ∀ v, f_X7_back S = some v → CtS l w I_X7_back [.ref (w.2.1 + 108)] S v.2 (some (.int v.1)) := fun v h => J.ct (av := [.ref (w.2.1 + 108)]) (Nat.le_of_ble_eq_true rfl) pn_7 (m_X7_back l w  S ) h
abbrev I_X7_does : MI := (yX7_does, cX7_does, 3, some .boolean, { frames := 0, cells := 0, slots := 0, locals := 0 })
theorem dX7_does_0 : decode cX7_does 0 = .ok (.aload_n 0, 1) := by decide +kernel
theorem dX7_does_1 : decode cX7_does 1 = .ok (.getfield 7, 3) := by decide +kernel
theorem dX7_does_4 : decode cX7_does 4 = .ok (.bipush 30, 2) := by decide +kernel
theorem dX7_does_6 : decode cX7_does 6 = .ok (.bipush 6, 2) := by decide +kernel
theorem dX7_does_8 : decode cX7_does 8 = .ok (.iload_n 1, 1) := by decide +kernel
theorem dX7_does_9 : decode cX7_does 9 = .ok (.imul, 1) := by decide +kernel
theorem dX7_does_10 : decode cX7_does 10 = .ok (.iadd, 1) := by decide +kernel
theorem dX7_does_11 : decode cX7_does 11 = .ok (.iload_n 2, 1) := by decide +kernel
theorem dX7_does_12 : decode cX7_does 12 = .ok (.iadd, 1) := by decide +kernel
theorem dX7_does_13 : decode cX7_does 13 = .ok (.iaload, 1) := by decide +kernel
theorem dX7_does_14 : decode cX7_does 14 = .ok (.iconst 1, 1) := by decide +kernel
theorem dX7_does_15 : decode cX7_does 15 = .ok (.if_icmp .ne 7, 3) := by decide +kernel
theorem dX7_does_18 : decode cX7_does 18 = .ok (.iconst 1, 1) := by decide +kernel
theorem dX7_does_19 : decode cX7_does 19 = .ok (.goto 4, 3) := by decide +kernel
theorem dX7_does_22 : decode cX7_does 22 = .ok (.iconst 0, 1) := by decide +kernel
theorem dX7_does_23 : decode cX7_does 23 = .ok (.ireturn, 1) := by decide +kernel
def f_X7_does (x1 : Int32) (x2 : Int32) (S : St) : Option (Bool) := if inb (((30 : Int32) + ((6 : Int32) * x1)) + x2) 788 = true then (if (rd S 109 (ix (((30 : Int32) + ((6 : Int32) * x1)) + x2))) = (1 : Int32) then (some true) else (some false)) else none
set_option maxRecDepth 100000 in
set_option maxHeartbeats 4000000 in
theorem m_X7_does (l : Launch) (w : Wd) (x1 : Int32) (x2 : Int32) (S : St)  : J l w I_X7_does 0 [(0, .ref (w.2.1 + 108)), (1, .int x1), (2, .int x2)] [] S (fun b => (some (.int (b2i b)), S)) (f_X7_does x1 x2 S) := by
  unfold f_X7_does
  refine j_aload_n (y := I_X7_does) 0 dX7_does_0 rfl rfl ?_
  refine j_getR (y := I_X7_does) (j := 109) fl_7_7 k_108 rfl rfl dX7_does_1 ?_
  refine j_bipush (y := I_X7_does) (v := 30) dX7_does_4 (by decide) ?_
  refine j_bipush (y := I_X7_does) (v := 6) dX7_does_6 (by decide) ?_
  refine j_iload_n (y := I_X7_does) 1 dX7_does_8 rfl rfl ?_
  refine j_imul (y := I_X7_does) dX7_does_9 ?_
  refine j_iadd (y := I_X7_does) dX7_does_10 ?_
  refine j_iload_n (y := I_X7_does) 2 dX7_does_11 rfl rfl ?_
  refine j_iadd (y := I_X7_does) dX7_does_12 ?_
  refine j_iald (y := I_X7_does) k_109 dX7_does_13 (fun h13 => ?_)
  refine j_iconst (y := I_X7_does) (v := 1) dX7_does_14 (by decide) ?_
  refine j_icmp_ne (y := I_X7_does) 22 dX7_does_15 (by decide) (fun h15 => ?_) (fun h15 => ?_)
  · refine j_iconst (y := I_X7_does) (v := 0) dX7_does_22 (by decide) ?_
    exact j_zret (y := I_X7_does) (q := false) rfl rfl dX7_does_23 rfl
  · refine j_iconst (y := I_X7_does) (v := 1) dX7_does_18 (by decide) ?_
    refine j_goto (y := I_X7_does) 23 dX7_does_19 (by decide) ?_
    exact j_zret (y := I_X7_does) (q := true) rfl rfl dX7_does_23 rfl
theorem c_X7_does (l : Launch) (w : Wd) (x1 : Int32) (x2 : Int32) (S : St)  : ∀ v, f_X7_does x1 x2 S = some v → CtS l w I_X7_does [.ref (w.2.1 + 108), .int x1, .int x2] S S (some (.int (b2i v))) := fun v h => J.ct (av := [.ref (w.2.1 + 108), .int x1, .int x2]) (Nat.le_of_ble_eq_true rfl) pn_7 (m_X7_does l w x1 x2 S ) h
abbrev I_X7_isNone : MI := (yX7_isNone, cX7_isNone, 1, some .boolean, { frames := 0, cells := 0, slots := 0, locals := 0 })
theorem dX7_isNone_0 : decode cX7_isNone 0 = .ok (.iload_n 0, 1) := by decide +kernel
theorem dX7_isNone_1 : decode cX7_isNone 1 = .ok (.ldc 113, 2) := by decide +kernel
theorem dX7_isNone_3 : decode cX7_isNone 3 = .ok (.iand, 1) := by decide +kernel
theorem dX7_isNone_4 : decode cX7_isNone 4 = .ok (.ldc 114, 2) := by decide +kernel
theorem dX7_isNone_6 : decode cX7_isNone 6 = .ok (.if_icmp .le 7, 3) := by decide +kernel
theorem dX7_isNone_9 : decode cX7_isNone 9 = .ok (.iconst 1, 1) := by decide +kernel
theorem dX7_isNone_10 : decode cX7_isNone 10 = .ok (.goto 4, 3) := by decide +kernel
theorem dX7_isNone_13 : decode cX7_isNone 13 = .ok (.iconst 0, 1) := by decide +kernel
theorem dX7_isNone_14 : decode cX7_isNone 14 = .ok (.ireturn, 1) := by decide +kernel
def f_X7_isNone (x0 : Int32)  : Bool := if (2139095040 : Int32) < (x0 &&& (2147483647 : Int32)) then (true) else (false)
set_option maxRecDepth 100000 in
set_option maxHeartbeats 4000000 in
theorem m_X7_isNone (l : Launch) (w : Wd) (x0 : Int32) (S : St)  : J l w I_X7_isNone 0 [(0, .int x0)] [] S (fun b => (some (.int (b2i b)), S)) (some (f_X7_isNone x0)) := by
  unfold f_X7_isNone
  refine j_iload_n (y := I_X7_isNone) 0 dX7_isNone_0 rfl rfl ?_
  refine j_ldc (y := I_X7_isNone) (v := 2147483647) dX7_isNone_1 (gm 949 (by decide +kernel) rfl) ?_
  refine j_iand (y := I_X7_isNone) dX7_isNone_3 ?_
  refine j_ldc (y := I_X7_isNone) (v := 2139095040) dX7_isNone_4 (gm 950 (by decide +kernel) rfl) ?_
  refine j_si ?_
  refine j_icmp_le (y := I_X7_isNone) 13 dX7_isNone_6 (by decide) (fun h6 => ?_) (fun h6 => ?_)
  · refine j_iconst (y := I_X7_isNone) (v := 0) dX7_isNone_13 (by decide) ?_
    exact j_zret (y := I_X7_isNone) (q := false) rfl rfl dX7_isNone_14 rfl
  · refine j_iconst (y := I_X7_isNone) (v := 1) dX7_isNone_9 (by decide) ?_
    refine j_goto (y := I_X7_isNone) 14 dX7_isNone_10 (by decide) ?_
    exact j_zret (y := I_X7_isNone) (q := true) rfl rfl dX7_isNone_14 rfl
theorem c_X7_isNone (l : Launch) (w : Wd) (x0 : Int32) (S : St)  : CtS l w I_X7_isNone [.int x0] S S (some (.int (b2i (f_X7_isNone x0)))) := J.ct (av := [.int x0]) (Nat.le_of_ble_eq_true rfl) pn_7 (m_X7_isNone l w x0 S ) rfl
abbrev I_X7_told0 : MI := (yX7_told0, cX7_told0, 6, some .int, { frames := 1, cells := 0, slots := 0, locals := 20 })
theorem dX7_told0_0 : decode cX7_told0 0 = .ok (.aload_n 0, 1) := by decide +kernel
theorem dX7_told0_1 : decode cX7_told0 1 = .ok (.getfield 29, 3) := by decide +kernel
theorem dX7_told0_4 : decode cX7_told0 4 = .ok (.bipush 50, 2) := by decide +kernel
theorem dX7_told0_6 : decode cX7_told0 6 = .ok (.iload_n 1, 1) := by decide +kernel
theorem dX7_told0_7 : decode cX7_told0 7 = .ok (.imul, 1) := by decide +kernel
theorem dX7_told0_8 : decode cX7_told0 8 = .ok (.iload_n 2, 1) := by decide +kernel
theorem dX7_told0_9 : decode cX7_told0 9 = .ok (.iadd, 1) := by decide +kernel
theorem dX7_told0_10 : decode cX7_told0 10 = .ok (.iaload, 1) := by decide +kernel
theorem dX7_told0_11 : decode cX7_told0 11 = .ok (.istore_n 3, 1) := by decide +kernel
theorem dX7_told0_12 : decode cX7_told0 12 = .ok (.aload_n 0, 1) := by decide +kernel
theorem dX7_told0_13 : decode cX7_told0 13 = .ok (.getfield 23, 3) := by decide +kernel
theorem dX7_told0_16 : decode cX7_told0 16 = .ok (.iload_n 1, 1) := by decide +kernel
theorem dX7_told0_17 : decode cX7_told0 17 = .ok (.iaload, 1) := by decide +kernel
theorem dX7_told0_18 : decode cX7_told0 18 = .ok (.iconst 2, 1) := by decide +kernel
theorem dX7_told0_19 : decode cX7_told0 19 = .ok (.if_icmp .ne 68, 3) := by decide +kernel
theorem dX7_told0_22 : decode cX7_told0 22 = .ok (.iload_n 3, 1) := by decide +kernel
theorem dX7_told0_23 : decode cX7_told0 23 = .ok (.invokestatic 115, 3) := by decide +kernel
theorem dX7_told0_26 : decode cX7_told0 26 = .ok (.ifCond .eq 5, 3) := by decide +kernel
theorem dX7_told0_29 : decode cX7_told0 29 = .ok (.iconst (-1), 1) := by decide +kernel
theorem dX7_told0_30 : decode cX7_told0 30 = .ok (.ireturn, 1) := by decide +kernel
theorem dX7_told0_31 : decode cX7_told0 31 = .ok (.iload_n 3, 1) := by decide +kernel
theorem dX7_told0_32 : decode cX7_told0 32 = .ok (.bipush 23, 2) := by decide +kernel
theorem dX7_told0_34 : decode cX7_told0 34 = .ok (.ishr, 1) := by decide +kernel
theorem dX7_told0_35 : decode cX7_told0 35 = .ok (.sipush 255, 3) := by decide +kernel
theorem dX7_told0_38 : decode cX7_told0 38 = .ok (.iand, 1) := by decide +kernel
theorem dX7_told0_39 : decode cX7_told0 39 = .ok (.bipush 127, 2) := by decide +kernel
theorem dX7_told0_41 : decode cX7_told0 41 = .ok (.isub, 1) := by decide +kernel
theorem dX7_told0_42 : decode cX7_told0 42 = .ok (.istore 4, 2) := by decide +kernel
theorem dX7_told0_44 : decode cX7_told0 44 = .ok (.iload_n 3, 1) := by decide +kernel
theorem dX7_told0_45 : decode cX7_told0 45 = .ok (.ldc 119, 2) := by decide +kernel
theorem dX7_told0_47 : decode cX7_told0 47 = .ok (.iand, 1) := by decide +kernel
theorem dX7_told0_48 : decode cX7_told0 48 = .ok (.ldc 120, 2) := by decide +kernel
theorem dX7_told0_50 : decode cX7_told0 50 = .ok (.ior, 1) := by decide +kernel
theorem dX7_told0_51 : decode cX7_told0 51 = .ok (.istore 5, 2) := by decide +kernel
theorem dX7_told0_53 : decode cX7_told0 53 = .ok (.iload_n 3, 1) := by decide +kernel
theorem dX7_told0_54 : decode cX7_told0 54 = .ok (.ifCond .lt 8, 3) := by decide +kernel
theorem dX7_told0_57 : decode cX7_told0 57 = .ok (.iload 4, 2) := by decide +kernel
theorem dX7_told0_59 : decode cX7_told0 59 = .ok (.ifCond .ge 7, 3) := by decide +kernel
theorem dX7_told0_62 : decode cX7_told0 62 = .ok (.iconst 0, 1) := by decide +kernel
theorem dX7_told0_63 : decode cX7_told0 63 = .ok (.goto 23, 3) := by decide +kernel
theorem dX7_told0_66 : decode cX7_told0 66 = .ok (.iload 4, 2) := by decide +kernel
theorem dX7_told0_68 : decode cX7_told0 68 = .ok (.bipush 6, 2) := by decide +kernel
theorem dX7_told0_70 : decode cX7_told0 70 = .ok (.if_icmp .le 8, 3) := by decide +kernel
theorem dX7_told0_73 : decode cX7_told0 73 = .ok (.bipush 60, 2) := by decide +kernel
theorem dX7_told0_75 : decode cX7_told0 75 = .ok (.goto 11, 3) := by decide +kernel
theorem dX7_told0_78 : decode cX7_told0 78 = .ok (.iload 5, 2) := by decide +kernel
theorem dX7_told0_80 : decode cX7_told0 80 = .ok (.bipush 23, 2) := by decide +kernel
theorem dX7_told0_82 : decode cX7_told0 82 = .ok (.iload 4, 2) := by decide +kernel
theorem dX7_told0_84 : decode cX7_told0 84 = .ok (.isub, 1) := by decide +kernel
theorem dX7_told0_85 : decode cX7_told0 85 = .ok (.ishr, 1) := by decide +kernel
theorem dX7_told0_86 : decode cX7_told0 86 = .ok (.istore_n 3, 1) := by decide +kernel
theorem dX7_told0_87 : decode cX7_told0 87 = .ok (.iload_n 3, 1) := by decide +kernel
theorem dX7_told0_88 : decode cX7_told0 88 = .ok (.ifCond .ge 7, 3) := by decide +kernel
theorem dX7_told0_91 : decode cX7_told0 91 = .ok (.iconst 0, 1) := by decide +kernel
theorem dX7_told0_92 : decode cX7_told0 92 = .ok (.goto 15, 3) := by decide +kernel
theorem dX7_told0_95 : decode cX7_told0 95 = .ok (.iload_n 3, 1) := by decide +kernel
theorem dX7_told0_96 : decode cX7_told0 96 = .ok (.bipush 60, 2) := by decide +kernel
theorem dX7_told0_98 : decode cX7_told0 98 = .ok (.if_icmp .le 8, 3) := by decide +kernel
theorem dX7_told0_101 : decode cX7_told0 101 = .ok (.bipush 60, 2) := by decide +kernel
theorem dX7_told0_103 : decode cX7_told0 103 = .ok (.goto 4, 3) := by decide +kernel
theorem dX7_told0_106 : decode cX7_told0 106 = .ok (.iload_n 3, 1) := by decide +kernel
theorem dX7_told0_107 : decode cX7_told0 107 = .ok (.ireturn, 1) := by decide +kernel
theorem cv_7_115 : CS RX7 115 1 I_X7_isNone := ⟨⟨⟨gm 946 (by decide +kernel) rfl, gm 948 (by decide +kernel) rfl, gm 44 (by decide +kernel) rfl, mh_7.1, mh_7.2, by decide +kernel⟩, gm 947 (by decide +kernel) rfl⟩, rfl, rfl⟩
def f_X7_told0_J87 (j87_3 : Int32) (S : St) : Option (Int32) := if j87_3 < 0 then (some (0 : Int32)) else (if (60 : Int32) < j87_3 then (some (60 : Int32)) else (some j87_3))
def f_X7_told0_J86 (j86s_0 : Int32) (S : St) : Option (Int32) := f_X7_told0_J87 j86s_0 S
def f_X7_told0_J62  (S : St) : Option (Int32) := f_X7_told0_J86 (0 : Int32) S
def f_X7_told0 (x1 : Int32) (x2 : Int32) (S : St) : Option (Int32) := if inb (((50 : Int32) * x1) + x2) 200 = true then (if inb x1 4 = true then (if (rd S 113 (ix x1)) = (2 : Int32) then (if (f_X7_isNone (rd S 115 (ix (((50 : Int32) * x1) + x2)))) = true then (some (-1 : Int32)) else (if (rd S 115 (ix (((50 : Int32) * x1) + x2))) < 0 then (f_X7_told0_J62 S) else (if ((((rd S 115 (ix (((50 : Int32) * x1) + x2))) >>> ((23 : Int32) &&& 31)) &&& (255 : Int32)) - (127 : Int32)) < 0 then (f_X7_told0_J62 S) else (if (6 : Int32) < ((((rd S 115 (ix (((50 : Int32) * x1) + x2))) >>> ((23 : Int32) &&& 31)) &&& (255 : Int32)) - (127 : Int32)) then (f_X7_told0_J86 (60 : Int32) S) else (f_X7_told0_J86 ((((rd S 115 (ix (((50 : Int32) * x1) + x2))) &&& (8388607 : Int32)) ||| (8388608 : Int32)) >>> (((23 : Int32) - ((((rd S 115 (ix (((50 : Int32) * x1) + x2))) >>> ((23 : Int32) &&& 31)) &&& (255 : Int32)) - (127 : Int32))) &&& 31)) S))))) else (f_X7_told0_J87 (rd S 115 (ix (((50 : Int32) * x1) + x2))) S)) else none) else none
set_option maxRecDepth 100000 in
theorem jj_X7_told0_87 (l : Launch) (w : Wd) (j87_3 : Int32) (S : St)  : J l w I_X7_told0 87 [(3, .int j87_3)] [] S (fun b => (some (.int b), S)) (f_X7_told0_J87 j87_3 S) := by
  unfold f_X7_told0_J87
  refine j_iload_n (y := I_X7_told0) 0 dX7_told0_87 rfl rfl ?_
  refine j_if_ge (y := I_X7_told0) 95 dX7_told0_88 (by decide) (fun h88 => ?_) (fun h88 => ?_)
  · refine j_iload_n (y := I_X7_told0) 0 dX7_told0_95 rfl rfl ?_
    refine j_bipush (y := I_X7_told0) (v := 60) dX7_told0_96 (by decide) ?_
    refine j_icmp_le (y := I_X7_told0) 106 dX7_told0_98 (by decide) (fun h98 => ?_) (fun h98 => ?_)
    · refine j_iload_n (y := I_X7_told0) 0 dX7_told0_106 rfl rfl ?_
      exact j_iret (y := I_X7_told0) rfl dX7_told0_107 rfl
    · refine j_bipush (y := I_X7_told0) (v := 60) dX7_told0_101 (by decide) ?_
      refine j_goto (y := I_X7_told0) 107 dX7_told0_103 (by decide) ?_
      exact j_iret (y := I_X7_told0) rfl dX7_told0_107 rfl
  · refine j_iconst (y := I_X7_told0) (v := 0) dX7_told0_91 (by decide) ?_
    refine j_goto (y := I_X7_told0) 107 dX7_told0_92 (by decide) ?_
    exact j_iret (y := I_X7_told0) rfl dX7_told0_107 rfl
set_option maxRecDepth 100000 in
theorem jj_X7_told0_86 (l : Launch) (w : Wd) (j86s_0 : Int32) (S : St)  : J l w I_X7_told0 86 [] [.int j86s_0] S (fun b => (some (.int b), S)) (f_X7_told0_J86 j86s_0 S) := by
  unfold f_X7_told0_J86
  refine j_istore_n (y := I_X7_told0) (ls' := [(3, .int j86s_0)]) dX7_told0_86 rfl (by decide) rfl ?_
  refine j_sub [0] rfl ?_
  exact jj_X7_told0_87 l w j86s_0 S
set_option maxRecDepth 100000 in
theorem jj_X7_told0_62 (l : Launch) (w : Wd)  (S : St)  : J l w I_X7_told0 62 [] [] S (fun b => (some (.int b), S)) (f_X7_told0_J62  S) := by
  unfold f_X7_told0_J62
  refine j_iconst (y := I_X7_told0) (v := 0) dX7_told0_62 (by decide) ?_
  refine j_goto (y := I_X7_told0) 86 dX7_told0_63 (by decide) ?_
  refine j_sub [] rfl ?_
  exact jj_X7_told0_86 l w (0 : Int32) S
set_option maxRecDepth 100000 in
set_option maxHeartbeats 4000000 in
theorem m_X7_told0 (l : Launch) (w : Wd) (x1 : Int32) (x2 : Int32) (S : St)  : J l w I_X7_told0 0 [(0, .ref (w.2.1 + 108)), (1, .int x1), (2, .int x2)] [] S (fun b => (some (.int b), S)) (f_X7_told0 x1 x2 S) := by
  unfold f_X7_told0
  refine j_aload_n (y := I_X7_told0) 0 dX7_told0_0 rfl rfl ?_
  refine j_getR (y := I_X7_told0) (j := 115) fl_7_29 k_108 rfl rfl dX7_told0_1 ?_
  refine j_bipush (y := I_X7_told0) (v := 50) dX7_told0_4 (by decide) ?_
  refine j_iload_n (y := I_X7_told0) 1 dX7_told0_6 rfl rfl ?_
  refine j_imul (y := I_X7_told0) dX7_told0_7 ?_
  refine j_iload_n (y := I_X7_told0) 2 dX7_told0_8 rfl rfl ?_
  refine j_iadd (y := I_X7_told0) dX7_told0_9 ?_
  refine j_iald (y := I_X7_told0) k_115 dX7_told0_10 (fun h10 => ?_)
  refine j_istore_n (y := I_X7_told0) (ls' := [(3, .int (rd S 115 (ix (((50 : Int32) * x1) + x2)))), (0, .ref (w.2.1 + 108)), (1, .int x1), (2, .int x2)]) dX7_told0_11 rfl (by decide) rfl ?_
  refine j_aload_n (y := I_X7_told0) 1 dX7_told0_12 rfl rfl ?_
  refine j_getR (y := I_X7_told0) (j := 113) fl_7_23 k_108 rfl rfl dX7_told0_13 ?_
  refine j_iload_n (y := I_X7_told0) 2 dX7_told0_16 rfl rfl ?_
  refine j_iald (y := I_X7_told0) k_113 dX7_told0_17 (fun h17 => ?_)
  refine j_iconst (y := I_X7_told0) (v := 2) dX7_told0_18 (by decide) ?_
  refine j_icmp_ne (y := I_X7_told0) 87 dX7_told0_19 (by decide) (fun h19 => ?_) (fun h19 => ?_)
  · refine j_sub [0] rfl ?_
    exact jj_X7_told0_87 l w (rd S 115 (ix (((50 : Int32) * x1) + x2))) S
  · refine j_iload_n (y := I_X7_told0) 0 dX7_told0_22 rfl rfl ?_
    refine j_callSzT (y := I_X7_told0) (As := [.int (rd S 115 (ix (((50 : Int32) * x1) + x2)))]) cv_7_115 ⟨Nat.le_of_ble_eq_true rfl, Nat.le_of_ble_eq_true rfl⟩ rfl (Nat.le_of_ble_eq_true rfl) dX7_told0_23 (c_X7_isNone l w (rd S 115 (ix (((50 : Int32) * x1) + x2))) S) ?_
    refine j_if_eqB (y := I_X7_told0) 31 dX7_told0_26 (by decide) (fun h26 => ?_) (fun h26 => ?_)
    · refine j_iload_n (y := I_X7_told0) 0 dX7_told0_31 rfl rfl ?_
      refine j_bipush (y := I_X7_told0) (v := 23) dX7_told0_32 (by decide) ?_
      refine j_ishr (y := I_X7_told0) dX7_told0_34 ?_
      refine j_sipush (y := I_X7_told0) (v := 255) dX7_told0_35 (by decide) ?_
      refine j_iand (y := I_X7_told0) dX7_told0_38 ?_
      refine j_bipush (y := I_X7_told0) (v := 127) dX7_told0_39 (by decide) ?_
      refine j_isub (y := I_X7_told0) dX7_told0_41 ?_
      refine j_istore (y := I_X7_told0) (ls' := [(4, .int ((((rd S 115 (ix (((50 : Int32) * x1) + x2))) >>> ((23 : Int32) &&& 31)) &&& (255 : Int32)) - (127 : Int32))), (3, .int (rd S 115 (ix (((50 : Int32) * x1) + x2)))), (0, .ref (w.2.1 + 108)), (1, .int x1), (2, .int x2)]) dX7_told0_42 (by decide) rfl ?_
      refine j_iload_n (y := I_X7_told0) 1 dX7_told0_44 rfl rfl ?_
      refine j_ldc (y := I_X7_told0) (v := 8388607) dX7_told0_45 (gm 979 (by decide +kernel) rfl) ?_
      refine j_iand (y := I_X7_told0) dX7_told0_47 ?_
      refine j_ldc (y := I_X7_told0) (v := 8388608) dX7_told0_48 (gm 980 (by decide +kernel) rfl) ?_
      refine j_ior (y := I_X7_told0) dX7_told0_50 ?_
      refine j_istore (y := I_X7_told0) (ls' := [(5, .int (((rd S 115 (ix (((50 : Int32) * x1) + x2))) &&& (8388607 : Int32)) ||| (8388608 : Int32))), (4, .int ((((rd S 115 (ix (((50 : Int32) * x1) + x2))) >>> ((23 : Int32) &&& 31)) &&& (255 : Int32)) - (127 : Int32))), (3, .int (rd S 115 (ix (((50 : Int32) * x1) + x2)))), (0, .ref (w.2.1 + 108)), (1, .int x1), (2, .int x2)]) dX7_told0_51 (by decide) rfl ?_
      refine j_iload_n (y := I_X7_told0) 2 dX7_told0_53 rfl rfl ?_
      refine j_if_lt (y := I_X7_told0) 62 dX7_told0_54 (by decide) (fun h54 => ?_) (fun h54 => ?_)
      · refine j_sub [] rfl ?_
        exact jj_X7_told0_62 l w S
      · refine j_iload (y := I_X7_told0) 1 dX7_told0_57 rfl ?_
        refine j_if_ge (y := I_X7_told0) 66 dX7_told0_59 (by decide) (fun h59 => ?_) (fun h59 => ?_)
        · refine j_iload (y := I_X7_told0) 1 dX7_told0_66 rfl ?_
          refine j_bipush (y := I_X7_told0) (v := 6) dX7_told0_68 (by decide) ?_
          refine j_icmp_le (y := I_X7_told0) 78 dX7_told0_70 (by decide) (fun h70 => ?_) (fun h70 => ?_)
          · refine j_iload (y := I_X7_told0) 0 dX7_told0_78 rfl ?_
            refine j_bipush (y := I_X7_told0) (v := 23) dX7_told0_80 (by decide) ?_
            refine j_iload (y := I_X7_told0) 1 dX7_told0_82 rfl ?_
            refine j_isub (y := I_X7_told0) dX7_told0_84 ?_
            refine j_ishr (y := I_X7_told0) dX7_told0_85 ?_
            refine j_sub [] rfl ?_
            exact jj_X7_told0_86 l w ((((rd S 115 (ix (((50 : Int32) * x1) + x2))) &&& (8388607 : Int32)) ||| (8388608 : Int32)) >>> (((23 : Int32) - ((((rd S 115 (ix (((50 : Int32) * x1) + x2))) >>> ((23 : Int32) &&& 31)) &&& (255 : Int32)) - (127 : Int32))) &&& 31)) S
          · refine j_bipush (y := I_X7_told0) (v := 60) dX7_told0_73 (by decide) ?_
            refine j_goto (y := I_X7_told0) 86 dX7_told0_75 (by decide) ?_
            refine j_sub [] rfl ?_
            exact jj_X7_told0_86 l w (60 : Int32) S
        · refine j_sub [] rfl ?_
          exact jj_X7_told0_62 l w S
    · refine j_iconst (y := I_X7_told0) (v := -1) dX7_told0_29 (by decide) ?_
      exact j_iret (y := I_X7_told0) rfl dX7_told0_30 rfl
theorem c_X7_told0 (l : Launch) (w : Wd) (x1 : Int32) (x2 : Int32) (S : St)  : ∀ v, f_X7_told0 x1 x2 S = some v → CtS l w I_X7_told0 [.ref (w.2.1 + 108), .int x1, .int x2] S S (some (.int v)) := fun v h => J.ct (av := [.ref (w.2.1 + 108), .int x1, .int x2]) (Nat.le_of_ble_eq_true rfl) pn_7 (m_X7_told0 l w x1 x2 S ) h
abbrev I_X7_stands : MI := (yX7_stands, cX7_stands, 8, some .int, { frames := 2, cells := 0, slots := 0, locals := 45 })
theorem dX7_stands_0 : decode cX7_stands 0 = .ok (.aload_n 0, 1) := by decide +kernel
theorem dX7_stands_1 : decode cX7_stands 1 = .ok (.getfield 7, 3) := by decide +kernel
theorem dX7_stands_4 : decode cX7_stands 4 = .ok (.sipush 786, 3) := by decide +kernel
theorem dX7_stands_7 : decode cX7_stands 7 = .ok (.iaload, 1) := by decide +kernel
theorem dX7_stands_8 : decode cX7_stands 8 = .ok (.istore_n 2, 1) := by decide +kernel
theorem dX7_stands_9 : decode cX7_stands 9 = .ok (.iload_n 2, 1) := by decide +kernel
theorem dX7_stands_10 : decode cX7_stands 10 = .ok (.ifCond .lt 13, 3) := by decide +kernel
theorem dX7_stands_13 : decode cX7_stands 13 = .ok (.iload_n 1, 1) := by decide +kernel
theorem dX7_stands_14 : decode cX7_stands 14 = .ok (.aload_n 0, 1) := by decide +kernel
theorem dX7_stands_15 : decode cX7_stands 15 = .ok (.getfield 26, 3) := by decide +kernel
theorem dX7_stands_18 : decode cX7_stands 18 = .ok (.iload_n 2, 1) := by decide +kernel
theorem dX7_stands_19 : decode cX7_stands 19 = .ok (.iaload, 1) := by decide +kernel
theorem dX7_stands_20 : decode cX7_stands 20 = .ok (.if_icmp .lt 7, 3) := by decide +kernel
theorem dX7_stands_23 : decode cX7_stands 23 = .ok (.iconst 5, 1) := by decide +kernel
theorem dX7_stands_24 : decode cX7_stands 24 = .ok (.iload_n 1, 1) := by decide +kernel
theorem dX7_stands_25 : decode cX7_stands 25 = .ok (.iadd, 1) := by decide +kernel
theorem dX7_stands_26 : decode cX7_stands 26 = .ok (.ireturn, 1) := by decide +kernel
theorem dX7_stands_27 : decode cX7_stands 27 = .ok (.aload_n 0, 1) := by decide +kernel
theorem dX7_stands_28 : decode cX7_stands 28 = .ok (.iload_n 2, 1) := by decide +kernel
theorem dX7_stands_29 : decode cX7_stands 29 = .ok (.iload_n 1, 1) := by decide +kernel
theorem dX7_stands_30 : decode cX7_stands 30 = .ok (.invokevirtual 121, 3) := by decide +kernel
theorem dX7_stands_33 : decode cX7_stands 33 = .ok (.istore_n 3, 1) := by decide +kernel
theorem dX7_stands_34 : decode cX7_stands 34 = .ok (.iload_n 3, 1) := by decide +kernel
theorem dX7_stands_35 : decode cX7_stands 35 = .ok (.ifCond .lt 5, 3) := by decide +kernel
theorem dX7_stands_38 : decode cX7_stands 38 = .ok (.iload_n 3, 1) := by decide +kernel
theorem dX7_stands_39 : decode cX7_stands 39 = .ok (.ireturn, 1) := by decide +kernel
theorem dX7_stands_40 : decode cX7_stands 40 = .ok (.iconst 0, 1) := by decide +kernel
theorem dX7_stands_41 : decode cX7_stands 41 = .ok (.istore 4, 2) := by decide +kernel
theorem dX7_stands_43 : decode cX7_stands 43 = .ok (.iconst 0, 1) := by decide +kernel
theorem dX7_stands_44 : decode cX7_stands 44 = .ok (.istore 5, 2) := by decide +kernel
theorem dX7_stands_46 : decode cX7_stands 46 = .ok (.iload_n 1, 1) := by decide +kernel
theorem dX7_stands_47 : decode cX7_stands 47 = .ok (.iconst 1, 1) := by decide +kernel
theorem dX7_stands_48 : decode cX7_stands 48 = .ok (.isub, 1) := by decide +kernel
theorem dX7_stands_49 : decode cX7_stands 49 = .ok (.istore 6, 2) := by decide +kernel
theorem dX7_stands_51 : decode cX7_stands 51 = .ok (.iload 6, 2) := by decide +kernel
theorem dX7_stands_53 : decode cX7_stands 53 = .ok (.iload_n 1, 1) := by decide +kernel
theorem dX7_stands_54 : decode cX7_stands 54 = .ok (.iconst 1, 1) := by decide +kernel
theorem dX7_stands_55 : decode cX7_stands 55 = .ok (.iadd, 1) := by decide +kernel
theorem dX7_stands_56 : decode cX7_stands 56 = .ok (.if_icmp .gt 56, 3) := by decide +kernel
theorem dX7_stands_59 : decode cX7_stands 59 = .ok (.iload 6, 2) := by decide +kernel
theorem dX7_stands_61 : decode cX7_stands 61 = .ok (.ifCond .lt 14, 3) := by decide +kernel
theorem dX7_stands_64 : decode cX7_stands 64 = .ok (.iload 6, 2) := by decide +kernel
theorem dX7_stands_66 : decode cX7_stands 66 = .ok (.aload_n 0, 1) := by decide +kernel
theorem dX7_stands_67 : decode cX7_stands 67 = .ok (.getfield 26, 3) := by decide +kernel
theorem dX7_stands_70 : decode cX7_stands 70 = .ok (.iload_n 2, 1) := by decide +kernel
theorem dX7_stands_71 : decode cX7_stands 71 = .ok (.iaload, 1) := by decide +kernel
theorem dX7_stands_72 : decode cX7_stands 72 = .ok (.if_icmp .lt 7, 3) := by decide +kernel
theorem dX7_stands_75 : decode cX7_stands 75 = .ok (.iconst (-1), 1) := by decide +kernel
theorem dX7_stands_76 : decode cX7_stands 76 = .ok (.goto 10, 3) := by decide +kernel
theorem dX7_stands_79 : decode cX7_stands 79 = .ok (.aload_n 0, 1) := by decide +kernel
theorem dX7_stands_80 : decode cX7_stands 80 = .ok (.iload_n 2, 1) := by decide +kernel
theorem dX7_stands_81 : decode cX7_stands 81 = .ok (.iload 6, 2) := by decide +kernel
theorem dX7_stands_83 : decode cX7_stands 83 = .ok (.invokevirtual 121, 3) := by decide +kernel
theorem dX7_stands_86 : decode cX7_stands 86 = .ok (.istore 7, 2) := by decide +kernel
theorem dX7_stands_88 : decode cX7_stands 88 = .ok (.iload 7, 2) := by decide +kernel
theorem dX7_stands_90 : decode cX7_stands 90 = .ok (.ifCond .ge 6, 3) := by decide +kernel
theorem dX7_stands_93 : decode cX7_stands 93 = .ok (.goto 13, 3) := by decide +kernel
theorem dX7_stands_96 : decode cX7_stands 96 = .ok (.iload 4, 2) := by decide +kernel
theorem dX7_stands_98 : decode cX7_stands 98 = .ok (.iload 7, 2) := by decide +kernel
theorem dX7_stands_100 : decode cX7_stands 100 = .ok (.iadd, 1) := by decide +kernel
theorem dX7_stands_101 : decode cX7_stands 101 = .ok (.istore 4, 2) := by decide +kernel
theorem dX7_stands_103 : decode cX7_stands 103 = .ok (.iinc 5 1, 3) := by decide +kernel
theorem dX7_stands_106 : decode cX7_stands 106 = .ok (.iinc 6 2, 3) := by decide +kernel
theorem dX7_stands_109 : decode cX7_stands 109 = .ok (.goto (-58), 3) := by decide +kernel
theorem dX7_stands_112 : decode cX7_stands 112 = .ok (.iload 5, 2) := by decide +kernel
theorem dX7_stands_114 : decode cX7_stands 114 = .ok (.ifCond .ne 7, 3) := by decide +kernel
theorem dX7_stands_117 : decode cX7_stands 117 = .ok (.iconst 0, 1) := by decide +kernel
theorem dX7_stands_118 : decode cX7_stands 118 = .ok (.goto 8, 3) := by decide +kernel
theorem dX7_stands_121 : decode cX7_stands 121 = .ok (.iload 4, 2) := by decide +kernel
theorem dX7_stands_123 : decode cX7_stands 123 = .ok (.iload 5, 2) := by decide +kernel
theorem dX7_stands_125 : decode cX7_stands 125 = .ok (.idiv, 1) := by decide +kernel
theorem dX7_stands_126 : decode cX7_stands 126 = .ok (.ireturn, 1) := by decide +kernel
theorem cv_7_121 : CV RX7 121 2 7 I_X7_told0 := ⟨⟨⟨gm 975 (by decide +kernel) rfl, gm 978 (by decide +kernel) rfl, gm 44 (by decide +kernel) rfl, mh_7.1, mh_7.2, by decide +kernel⟩, gm 977 (by decide +kernel) rfl, gm 15 (by decide +kernel) rfl⟩, ⟨_, _, rfl⟩, rfl, rfl⟩
def f_X7_stands_L51 (fuel : Nat) (K : Int32 → Int32 → Option (Int32)) (a51_1 : Int32) (a51_2 : Int32) (a51_4 : Int32) (a51_5 : Int32) (a51_6 : Int32) (S : St) : Option (Int32) := match fuel with
  | 0 => none
  | n + 1 => if (a51_1 + (1 : Int32)) < a51_6 then (K a51_4 a51_5) else (if a51_6 < 0 then (if (-1 : Int32) < 0 then (f_X7_stands_L51 n K a51_1 a51_2 a51_4 a51_5 (a51_6 + (2 : Int32)) S) else (f_X7_stands_L51 n K a51_1 a51_2 (a51_4 + (-1 : Int32)) (a51_5 + (1 : Int32)) (a51_6 + (2 : Int32)) S)) else (if inb a51_2 4 = true then (if a51_6 < (rd S 114 (ix a51_2)) then ((f_X7_told0 a51_2 a51_6 S).bind fun v83 => (if v83 < 0 then (f_X7_stands_L51 n K a51_1 a51_2 a51_4 a51_5 (a51_6 + (2 : Int32)) S) else (f_X7_stands_L51 n K a51_1 a51_2 (a51_4 + v83) (a51_5 + (1 : Int32)) (a51_6 + (2 : Int32)) S))) else (if (-1 : Int32) < 0 then (f_X7_stands_L51 n K a51_1 a51_2 a51_4 a51_5 (a51_6 + (2 : Int32)) S) else (f_X7_stands_L51 n K a51_1 a51_2 (a51_4 + (-1 : Int32)) (a51_5 + (1 : Int32)) (a51_6 + (2 : Int32)) S))) else none))
def f_X7_stands (x1 : Int32) (S : St) : Option (Int32) := if (rd S 109 (ix (786 : Int32))) < 0 then (some ((5 : Int32) + x1)) else (if inb (rd S 109 (ix (786 : Int32))) 4 = true then (if x1 < (rd S 114 (ix (rd S 109 (ix (786 : Int32))))) then ((f_X7_told0 (rd S 109 (ix (786 : Int32))) x1 S).bind fun v30 => (if v30 < 0 then (f_X7_stands_L51 6000 (fun e112_4 e112_5 => (if e112_5 = 0 then (some (0 : Int32)) else (if e112_5 = 0 then none else (some (e112_4 / e112_5))))) x1 (rd S 109 (ix (786 : Int32))) (0 : Int32) (0 : Int32) (x1 - (1 : Int32)) S) else (some v30))) else (some ((5 : Int32) + x1))) else none)
set_option maxRecDepth 100000 in
theorem jl_X7_stands_51 (l : Launch) (w : Wd) (S : St) (K : Int32 → Int32 → Option (Int32)) (n : Nat) : ∀ (a51_1 : Int32) (a51_2 : Int32) (a51_4 : Int32) (a51_5 : Int32) (a51_6 : Int32), (∀ (e112_4 : Int32) (e112_5 : Int32) , J l w I_X7_stands 112 [(4, .int e112_4), (5, .int e112_5)] [] S (fun b => (some (.int b), S)) (K e112_4 e112_5)) → J l w I_X7_stands 51 [(0, .ref (w.2.1 + 108)), (1, .int a51_1), (2, .int a51_2), (4, .int a51_4), (5, .int a51_5), (6, .int a51_6)] [] S (fun b => (some (.int b), S)) (f_X7_stands_L51 n K a51_1 a51_2 a51_4 a51_5 a51_6 S) := by
  induction n with
  | zero =>
    intro a51_1 a51_2 a51_4 a51_5 a51_6 hK b h
    simp only [f_X7_stands_L51] at h
    cases h
  | succ n ih =>
    intro a51_1 a51_2 a51_4 a51_5 a51_6 hK
    rw [f_X7_stands_L51]
    refine j_iload (y := I_X7_stands) 5 dX7_stands_51 rfl ?_
    refine j_iload_n (y := I_X7_stands) 1 dX7_stands_53 rfl rfl ?_
    refine j_iconst (y := I_X7_stands) (v := 1) dX7_stands_54 (by decide) ?_
    refine j_iadd (y := I_X7_stands) dX7_stands_55 ?_
    refine j_icmp_gt (y := I_X7_stands) 112 dX7_stands_56 (by decide) (fun h56 => ?_) (fun h56 => ?_)
    · refine j_sub [3, 4] rfl ?_
      exact hK a51_4 a51_5
    · refine j_iload (y := I_X7_stands) 5 dX7_stands_59 rfl ?_
      refine j_if_lt (y := I_X7_stands) 75 dX7_stands_61 (by decide) (fun h61 => ?_) (fun h61 => ?_)
      · refine j_iconst (y := I_X7_stands) (v := -1) dX7_stands_75 (by decide) ?_
        refine j_goto (y := I_X7_stands) 86 dX7_stands_76 (by decide) ?_
        refine j_istore (y := I_X7_stands) (ls' := [(7, .int (-1 : Int32)), (0, .ref (w.2.1 + 108)), (1, .int a51_1), (2, .int a51_2), (4, .int a51_4), (5, .int a51_5), (6, .int a51_6)]) dX7_stands_86 (by decide) rfl ?_
        refine j_iload (y := I_X7_stands) 0 dX7_stands_88 rfl ?_
        refine j_if_ge (y := I_X7_stands) 96 dX7_stands_90 (by decide) (fun h90 => ?_) (fun h90 => ?_)
        · refine j_iload (y := I_X7_stands) 4 dX7_stands_96 rfl ?_
          refine j_iload (y := I_X7_stands) 0 dX7_stands_98 rfl ?_
          refine j_iadd (y := I_X7_stands) dX7_stands_100 ?_
          refine j_istore (y := I_X7_stands) (ls' := [(4, .int (a51_4 + (-1 : Int32))), (7, .int (-1 : Int32)), (0, .ref (w.2.1 + 108)), (1, .int a51_1), (2, .int a51_2), (5, .int a51_5), (6, .int a51_6)]) dX7_stands_101 (by decide) rfl ?_
          refine j_iinc (y := I_X7_stands) 5 (ls' := [(5, .int (a51_5 + (1 : Int32))), (4, .int (a51_4 + (-1 : Int32))), (7, .int (-1 : Int32)), (0, .ref (w.2.1 + 108)), (1, .int a51_1), (2, .int a51_2), (6, .int a51_6)]) dX7_stands_103 rfl (ii _ _ (by decide) _) (by decide) rfl ?_
          refine j_iinc (y := I_X7_stands) 6 (ls' := [(6, .int (a51_6 + (2 : Int32))), (5, .int (a51_5 + (1 : Int32))), (4, .int (a51_4 + (-1 : Int32))), (7, .int (-1 : Int32)), (0, .ref (w.2.1 + 108)), (1, .int a51_1), (2, .int a51_2)]) dX7_stands_106 rfl (ii _ _ (by decide) _) (by decide) rfl ?_
          refine j_goto (y := I_X7_stands) 51 dX7_stands_109 (by decide) ?_
          refine j_sub [4, 5, 6, 2, 1, 0] rfl ?_
          exact ih a51_1 a51_2 (a51_4 + (-1 : Int32)) (a51_5 + (1 : Int32)) (a51_6 + (2 : Int32)) hK
        · refine j_goto (y := I_X7_stands) 106 dX7_stands_93 (by decide) ?_
          refine j_iinc (y := I_X7_stands) 6 (ls' := [(6, .int (a51_6 + (2 : Int32))), (7, .int (-1 : Int32)), (0, .ref (w.2.1 + 108)), (1, .int a51_1), (2, .int a51_2), (4, .int a51_4), (5, .int a51_5)]) dX7_stands_106 rfl (ii _ _ (by decide) _) (by decide) rfl ?_
          refine j_goto (y := I_X7_stands) 51 dX7_stands_109 (by decide) ?_
          refine j_sub [2, 3, 4, 5, 6, 0] rfl ?_
          exact ih a51_1 a51_2 a51_4 a51_5 (a51_6 + (2 : Int32)) hK
      · refine j_iload (y := I_X7_stands) 5 dX7_stands_64 rfl ?_
        refine j_aload_n (y := I_X7_stands) 0 dX7_stands_66 rfl rfl ?_
        refine j_getR (y := I_X7_stands) (j := 114) fl_7_26 k_108 rfl rfl dX7_stands_67 ?_
        refine j_iload_n (y := I_X7_stands) 2 dX7_stands_70 rfl rfl ?_
        refine j_iald (y := I_X7_stands) k_114 dX7_stands_71 (fun h71 => ?_)
        refine j_icmp_lt (y := I_X7_stands) 79 dX7_stands_72 (by decide) (fun h72 => ?_) (fun h72 => ?_)
        · refine j_aload_n (y := I_X7_stands) 0 dX7_stands_79 rfl rfl ?_
          refine j_iload_n (y := I_X7_stands) 2 dX7_stands_80 rfl rfl ?_
          refine j_iload (y := I_X7_stands) 5 dX7_stands_81 rfl ?_
          refine j_callViR (y := I_X7_stands) (As := [.int a51_2, .int a51_6]) cv_7_121 ⟨Nat.le_of_ble_eq_true rfl, Nat.le_of_ble_eq_true rfl⟩ k_108 rfl (Nat.le_of_ble_eq_true rfl) dX7_stands_83 (c_X7_told0 l w a51_2 a51_6 S) (fun v83 h83 => ?_)
          refine j_istore (y := I_X7_stands) (ls' := [(7, .int v83), (0, .ref (w.2.1 + 108)), (1, .int a51_1), (2, .int a51_2), (4, .int a51_4), (5, .int a51_5), (6, .int a51_6)]) dX7_stands_86 (by decide) rfl ?_
          refine j_iload (y := I_X7_stands) 0 dX7_stands_88 rfl ?_
          refine j_if_ge (y := I_X7_stands) 96 dX7_stands_90 (by decide) (fun h90 => ?_) (fun h90 => ?_)
          · refine j_iload (y := I_X7_stands) 4 dX7_stands_96 rfl ?_
            refine j_iload (y := I_X7_stands) 0 dX7_stands_98 rfl ?_
            refine j_iadd (y := I_X7_stands) dX7_stands_100 ?_
            refine j_istore (y := I_X7_stands) (ls' := [(4, .int (a51_4 + v83)), (7, .int v83), (0, .ref (w.2.1 + 108)), (1, .int a51_1), (2, .int a51_2), (5, .int a51_5), (6, .int a51_6)]) dX7_stands_101 (by decide) rfl ?_
            refine j_iinc (y := I_X7_stands) 5 (ls' := [(5, .int (a51_5 + (1 : Int32))), (4, .int (a51_4 + v83)), (7, .int v83), (0, .ref (w.2.1 + 108)), (1, .int a51_1), (2, .int a51_2), (6, .int a51_6)]) dX7_stands_103 rfl (ii _ _ (by decide) _) (by decide) rfl ?_
            refine j_iinc (y := I_X7_stands) 6 (ls' := [(6, .int (a51_6 + (2 : Int32))), (5, .int (a51_5 + (1 : Int32))), (4, .int (a51_4 + v83)), (7, .int v83), (0, .ref (w.2.1 + 108)), (1, .int a51_1), (2, .int a51_2)]) dX7_stands_106 rfl (ii _ _ (by decide) _) (by decide) rfl ?_
            refine j_goto (y := I_X7_stands) 51 dX7_stands_109 (by decide) ?_
            refine j_sub [4, 5, 6, 2, 1, 0] rfl ?_
            exact ih a51_1 a51_2 (a51_4 + v83) (a51_5 + (1 : Int32)) (a51_6 + (2 : Int32)) hK
          · refine j_goto (y := I_X7_stands) 106 dX7_stands_93 (by decide) ?_
            refine j_iinc (y := I_X7_stands) 6 (ls' := [(6, .int (a51_6 + (2 : Int32))), (7, .int v83), (0, .ref (w.2.1 + 108)), (1, .int a51_1), (2, .int a51_2), (4, .int a51_4), (5, .int a51_5)]) dX7_stands_106 rfl (ii _ _ (by decide) _) (by decide) rfl ?_
            refine j_goto (y := I_X7_stands) 51 dX7_stands_109 (by decide) ?_
            refine j_sub [2, 3, 4, 5, 6, 0] rfl ?_
            exact ih a51_1 a51_2 a51_4 a51_5 (a51_6 + (2 : Int32)) hK
        · refine j_iconst (y := I_X7_stands) (v := -1) dX7_stands_75 (by decide) ?_
          refine j_goto (y := I_X7_stands) 86 dX7_stands_76 (by decide) ?_
          refine j_istore (y := I_X7_stands) (ls' := [(7, .int (-1 : Int32)), (0, .ref (w.2.1 + 108)), (1, .int a51_1), (2, .int a51_2), (4, .int a51_4), (5, .int a51_5), (6, .int a51_6)]) dX7_stands_86 (by decide) rfl ?_
          refine j_iload (y := I_X7_stands) 0 dX7_stands_88 rfl ?_
          refine j_if_ge (y := I_X7_stands) 96 dX7_stands_90 (by decide) (fun h90 => ?_) (fun h90 => ?_)
          · refine j_iload (y := I_X7_stands) 4 dX7_stands_96 rfl ?_
            refine j_iload (y := I_X7_stands) 0 dX7_stands_98 rfl ?_
            refine j_iadd (y := I_X7_stands) dX7_stands_100 ?_
            refine j_istore (y := I_X7_stands) (ls' := [(4, .int (a51_4 + (-1 : Int32))), (7, .int (-1 : Int32)), (0, .ref (w.2.1 + 108)), (1, .int a51_1), (2, .int a51_2), (5, .int a51_5), (6, .int a51_6)]) dX7_stands_101 (by decide) rfl ?_
            refine j_iinc (y := I_X7_stands) 5 (ls' := [(5, .int (a51_5 + (1 : Int32))), (4, .int (a51_4 + (-1 : Int32))), (7, .int (-1 : Int32)), (0, .ref (w.2.1 + 108)), (1, .int a51_1), (2, .int a51_2), (6, .int a51_6)]) dX7_stands_103 rfl (ii _ _ (by decide) _) (by decide) rfl ?_
            refine j_iinc (y := I_X7_stands) 6 (ls' := [(6, .int (a51_6 + (2 : Int32))), (5, .int (a51_5 + (1 : Int32))), (4, .int (a51_4 + (-1 : Int32))), (7, .int (-1 : Int32)), (0, .ref (w.2.1 + 108)), (1, .int a51_1), (2, .int a51_2)]) dX7_stands_106 rfl (ii _ _ (by decide) _) (by decide) rfl ?_
            refine j_goto (y := I_X7_stands) 51 dX7_stands_109 (by decide) ?_
            refine j_sub [4, 5, 6, 2, 1, 0] rfl ?_
            exact ih a51_1 a51_2 (a51_4 + (-1 : Int32)) (a51_5 + (1 : Int32)) (a51_6 + (2 : Int32)) hK
          · refine j_goto (y := I_X7_stands) 106 dX7_stands_93 (by decide) ?_
            refine j_iinc (y := I_X7_stands) 6 (ls' := [(6, .int (a51_6 + (2 : Int32))), (7, .int (-1 : Int32)), (0, .ref (w.2.1 + 108)), (1, .int a51_1), (2, .int a51_2), (4, .int a51_4), (5, .int a51_5)]) dX7_stands_106 rfl (ii _ _ (by decide) _) (by decide) rfl ?_
            refine j_goto (y := I_X7_stands) 51 dX7_stands_109 (by decide) ?_
            refine j_sub [2, 3, 4, 5, 6, 0] rfl ?_
            exact ih a51_1 a51_2 a51_4 a51_5 (a51_6 + (2 : Int32)) hK
set_option maxRecDepth 100000 in
set_option maxHeartbeats 4000000 in
theorem m_X7_stands (l : Launch) (w : Wd) (x1 : Int32) (S : St)  : J l w I_X7_stands 0 [(0, .ref (w.2.1 + 108)), (1, .int x1)] [] S (fun b => (some (.int b), S)) (f_X7_stands x1 S) := by
  unfold f_X7_stands
  refine j_aload_n (y := I_X7_stands) 0 dX7_stands_0 rfl rfl ?_
  refine j_getR (y := I_X7_stands) (j := 109) fl_7_7 k_108 rfl rfl dX7_stands_1 ?_
  refine j_sipush (y := I_X7_stands) (v := 786) dX7_stands_4 (by decide) ?_
  refine j_ialdL (y := I_X7_stands) k_109 (by decide) dX7_stands_7 ?_
  refine j_istore_n (y := I_X7_stands) (ls' := [(2, .int (rd S 109 (ix (786 : Int32)))), (0, .ref (w.2.1 + 108)), (1, .int x1)]) dX7_stands_8 rfl (by decide) rfl ?_
  refine j_iload_n (y := I_X7_stands) 0 dX7_stands_9 rfl rfl ?_
  refine j_if_lt (y := I_X7_stands) 23 dX7_stands_10 (by decide) (fun h10 => ?_) (fun h10 => ?_)
  · refine j_iconst (y := I_X7_stands) (v := 5) dX7_stands_23 (by decide) ?_
    refine j_iload_n (y := I_X7_stands) 2 dX7_stands_24 rfl rfl ?_
    refine j_iadd (y := I_X7_stands) dX7_stands_25 ?_
    exact j_iret (y := I_X7_stands) rfl dX7_stands_26 rfl
  · refine j_iload_n (y := I_X7_stands) 2 dX7_stands_13 rfl rfl ?_
    refine j_aload_n (y := I_X7_stands) 1 dX7_stands_14 rfl rfl ?_
    refine j_getR (y := I_X7_stands) (j := 114) fl_7_26 k_108 rfl rfl dX7_stands_15 ?_
    refine j_iload_n (y := I_X7_stands) 0 dX7_stands_18 rfl rfl ?_
    refine j_iald (y := I_X7_stands) k_114 dX7_stands_19 (fun h19 => ?_)
    refine j_icmp_lt (y := I_X7_stands) 27 dX7_stands_20 (by decide) (fun h20 => ?_) (fun h20 => ?_)
    · refine j_aload_n (y := I_X7_stands) 1 dX7_stands_27 rfl rfl ?_
      refine j_iload_n (y := I_X7_stands) 0 dX7_stands_28 rfl rfl ?_
      refine j_iload_n (y := I_X7_stands) 2 dX7_stands_29 rfl rfl ?_
      refine j_callViR (y := I_X7_stands) (As := [.int (rd S 109 (ix (786 : Int32))), .int x1]) cv_7_121 ⟨Nat.le_of_ble_eq_true rfl, Nat.le_of_ble_eq_true rfl⟩ k_108 rfl (Nat.le_of_ble_eq_true rfl) dX7_stands_30 (c_X7_told0 l w (rd S 109 (ix (786 : Int32))) x1 S) (fun v30 h30 => ?_)
      refine j_istore_n (y := I_X7_stands) (ls' := [(3, .int v30), (2, .int (rd S 109 (ix (786 : Int32)))), (0, .ref (w.2.1 + 108)), (1, .int x1)]) dX7_stands_33 rfl (by decide) rfl ?_
      refine j_iload_n (y := I_X7_stands) 0 dX7_stands_34 rfl rfl ?_
      refine j_if_lt (y := I_X7_stands) 40 dX7_stands_35 (by decide) (fun h35 => ?_) (fun h35 => ?_)
      · refine j_iconst (y := I_X7_stands) (v := 0) dX7_stands_40 (by decide) ?_
        refine j_istore (y := I_X7_stands) (ls' := [(4, .int (0 : Int32)), (3, .int v30), (2, .int (rd S 109 (ix (786 : Int32)))), (0, .ref (w.2.1 + 108)), (1, .int x1)]) dX7_stands_41 (by decide) rfl ?_
        refine j_iconst (y := I_X7_stands) (v := 0) dX7_stands_43 (by decide) ?_
        refine j_istore (y := I_X7_stands) (ls' := [(5, .int (0 : Int32)), (4, .int (0 : Int32)), (3, .int v30), (2, .int (rd S 109 (ix (786 : Int32)))), (0, .ref (w.2.1 + 108)), (1, .int x1)]) dX7_stands_44 (by decide) rfl ?_
        refine j_iload_n (y := I_X7_stands) 5 dX7_stands_46 rfl rfl ?_
        refine j_iconst (y := I_X7_stands) (v := 1) dX7_stands_47 (by decide) ?_
        refine j_isub (y := I_X7_stands) dX7_stands_48 ?_
        refine j_istore (y := I_X7_stands) (ls' := [(6, .int (x1 - (1 : Int32))), (5, .int (0 : Int32)), (4, .int (0 : Int32)), (3, .int v30), (2, .int (rd S 109 (ix (786 : Int32)))), (0, .ref (w.2.1 + 108)), (1, .int x1)]) dX7_stands_49 (by decide) rfl ?_
        refine j_sub [5, 6, 4, 2, 1, 0] rfl ?_
        refine jl_X7_stands_51 l w S _ 6000 x1 (rd S 109 (ix (786 : Int32))) (0 : Int32) (0 : Int32) (x1 - (1 : Int32))   (fun e112_4 e112_5 => ?_)
        refine j_iload (y := I_X7_stands) 1 dX7_stands_112 rfl ?_
        refine j_if_ne (y := I_X7_stands) 121 dX7_stands_114 (by decide) (fun h114 => ?_) (fun h114 => ?_)
        · refine j_iload (y := I_X7_stands) 0 dX7_stands_121 rfl ?_
          refine j_iload (y := I_X7_stands) 1 dX7_stands_123 rfl ?_
          refine j_idiv (y := I_X7_stands) dX7_stands_125 (fun h125 => ?_)
          exact j_iret (y := I_X7_stands) rfl dX7_stands_126 rfl
        · refine j_iconst (y := I_X7_stands) (v := 0) dX7_stands_117 (by decide) ?_
          refine j_goto (y := I_X7_stands) 126 dX7_stands_118 (by decide) ?_
          exact j_iret (y := I_X7_stands) rfl dX7_stands_126 rfl
      · refine j_iload_n (y := I_X7_stands) 0 dX7_stands_38 rfl rfl ?_
        exact j_iret (y := I_X7_stands) rfl dX7_stands_39 rfl
    · refine j_iconst (y := I_X7_stands) (v := 5) dX7_stands_23 (by decide) ?_
      refine j_iload_n (y := I_X7_stands) 2 dX7_stands_24 rfl rfl ?_
      refine j_iadd (y := I_X7_stands) dX7_stands_25 ?_
      exact j_iret (y := I_X7_stands) rfl dX7_stands_26 rfl
theorem c_X7_stands (l : Launch) (w : Wd) (x1 : Int32) (S : St)  : ∀ v, f_X7_stands x1 S = some v → CtS l w I_X7_stands [.ref (w.2.1 + 108), .int x1] S S (some (.int v)) := fun v h => J.ct (av := [.ref (w.2.1 + 108), .int x1]) (Nat.le_of_ble_eq_true rfl) pn_7 (m_X7_stands l w x1 S ) h
abbrev I_X7_warm : MI := (yX7_warm, cX7_warm, 2, some .int, { frames := 3, cells := 0, slots := 0, locals := 72 })
theorem dX7_warm_0 : decode cX7_warm 0 = .ok (.iload_n 1, 1) := by decide +kernel
theorem dX7_warm_1 : decode cX7_warm 1 = .ok (.aload_n 0, 1) := by decide +kernel
theorem dX7_warm_2 : decode cX7_warm 2 = .ok (.getfield 7, 3) := by decide +kernel
theorem dX7_warm_5 : decode cX7_warm 5 = .ok (.sipush 785, 3) := by decide +kernel
theorem dX7_warm_8 : decode cX7_warm 8 = .ok (.iaload, 1) := by decide +kernel
theorem dX7_warm_9 : decode cX7_warm 9 = .ok (.if_icmp .ge 16, 3) := by decide +kernel
theorem dX7_warm_12 : decode cX7_warm 12 = .ok (.aload_n 0, 1) := by decide +kernel
theorem dX7_warm_13 : decode cX7_warm 13 = .ok (.getfield 7, 3) := by decide +kernel
theorem dX7_warm_16 : decode cX7_warm 16 = .ok (.sipush 732, 3) := by decide +kernel
theorem dX7_warm_19 : decode cX7_warm 19 = .ok (.iload_n 1, 1) := by decide +kernel
theorem dX7_warm_20 : decode cX7_warm 20 = .ok (.iadd, 1) := by decide +kernel
theorem dX7_warm_21 : decode cX7_warm 21 = .ok (.iaload, 1) := by decide +kernel
theorem dX7_warm_22 : decode cX7_warm 22 = .ok (.goto 8, 3) := by decide +kernel
theorem dX7_warm_25 : decode cX7_warm 25 = .ok (.aload_n 0, 1) := by decide +kernel
theorem dX7_warm_26 : decode cX7_warm 26 = .ok (.iload_n 1, 1) := by decide +kernel
theorem dX7_warm_27 : decode cX7_warm 27 = .ok (.invokevirtual 124, 3) := by decide +kernel
theorem dX7_warm_30 : decode cX7_warm 30 = .ok (.ireturn, 1) := by decide +kernel
theorem cv_7_124 : CV RX7 124 1 7 I_X7_stands := ⟨⟨⟨gm 971 (by decide +kernel) rfl, gm 974 (by decide +kernel) rfl, gm 44 (by decide +kernel) rfl, mh_7.1, mh_7.2, by decide +kernel⟩, gm 973 (by decide +kernel) rfl, gm 14 (by decide +kernel) rfl⟩, ⟨_, _, rfl⟩, rfl, rfl⟩
def f_X7_warm (x1 : Int32) (S : St) : Option (Int32) := if x1 < (rd S 109 (ix (785 : Int32))) then (if inb ((732 : Int32) + x1) 788 = true then (some (rd S 109 (ix ((732 : Int32) + x1)))) else none) else ((f_X7_stands x1 S).bind fun v27 => (some v27))
set_option maxRecDepth 100000 in
set_option maxHeartbeats 4000000 in
theorem m_X7_warm (l : Launch) (w : Wd) (x1 : Int32) (S : St)  : J l w I_X7_warm 0 [(0, .ref (w.2.1 + 108)), (1, .int x1)] [] S (fun b => (some (.int b), S)) (f_X7_warm x1 S) := by
  unfold f_X7_warm
  refine j_iload_n (y := I_X7_warm) 1 dX7_warm_0 rfl rfl ?_
  refine j_aload_n (y := I_X7_warm) 0 dX7_warm_1 rfl rfl ?_
  refine j_getR (y := I_X7_warm) (j := 109) fl_7_7 k_108 rfl rfl dX7_warm_2 ?_
  refine j_sipush (y := I_X7_warm) (v := 785) dX7_warm_5 (by decide) ?_
  refine j_ialdL (y := I_X7_warm) k_109 (by decide) dX7_warm_8 ?_
  refine j_icmp_ge (y := I_X7_warm) 25 dX7_warm_9 (by decide) (fun h9 => ?_) (fun h9 => ?_)
  · refine j_aload_n (y := I_X7_warm) 0 dX7_warm_25 rfl rfl ?_
    refine j_iload_n (y := I_X7_warm) 1 dX7_warm_26 rfl rfl ?_
    refine j_callViR (y := I_X7_warm) (As := [.int x1]) cv_7_124 ⟨Nat.le_of_ble_eq_true rfl, Nat.le_of_ble_eq_true rfl⟩ k_108 rfl (Nat.le_of_ble_eq_true rfl) dX7_warm_27 (c_X7_stands l w x1 S) (fun v27 h27 => ?_)
    exact j_iret (y := I_X7_warm) rfl dX7_warm_30 rfl
  · refine j_aload_n (y := I_X7_warm) 0 dX7_warm_12 rfl rfl ?_
    refine j_getR (y := I_X7_warm) (j := 109) fl_7_7 k_108 rfl rfl dX7_warm_13 ?_
    refine j_sipush (y := I_X7_warm) (v := 732) dX7_warm_16 (by decide) ?_
    refine j_iload_n (y := I_X7_warm) 1 dX7_warm_19 rfl rfl ?_
    refine j_iadd (y := I_X7_warm) dX7_warm_20 ?_
    refine j_iald (y := I_X7_warm) k_109 dX7_warm_21 (fun h21 => ?_)
    refine j_goto (y := I_X7_warm) 30 dX7_warm_22 (by decide) ?_
    exact j_iret (y := I_X7_warm) rfl dX7_warm_30 rfl
theorem c_X7_warm (l : Launch) (w : Wd) (x1 : Int32) (S : St)  : ∀ v, f_X7_warm x1 S = some v → CtS l w I_X7_warm [.ref (w.2.1 + 108), .int x1] S S (some (.int v)) := fun v h => J.ct (av := [.ref (w.2.1 + 108), .int x1]) (Nat.le_of_ble_eq_true rfl) pn_7 (m_X7_warm l w x1 S ) h
abbrev I_X7_sortOf : MI := (yX7_sortOf, cX7_sortOf, 3, some .int, { frames := 0, cells := 0, slots := 0, locals := 0 })
theorem dX7_sortOf_0 : decode cX7_sortOf 0 = .ok (.aload_n 0, 1) := by decide +kernel
theorem dX7_sortOf_1 : decode cX7_sortOf 1 = .ok (.getfield 7, 3) := by decide +kernel
theorem dX7_sortOf_4 : decode cX7_sortOf 4 = .ok (.iconst 0, 1) := by decide +kernel
theorem dX7_sortOf_5 : decode cX7_sortOf 5 = .ok (.iconst 5, 1) := by decide +kernel
theorem dX7_sortOf_6 : decode cX7_sortOf 6 = .ok (.iload_n 1, 1) := by decide +kernel
theorem dX7_sortOf_7 : decode cX7_sortOf 7 = .ok (.imul, 1) := by decide +kernel
theorem dX7_sortOf_8 : decode cX7_sortOf 8 = .ok (.iadd, 1) := by decide +kernel
theorem dX7_sortOf_9 : decode cX7_sortOf 9 = .ok (.iload_n 2, 1) := by decide +kernel
theorem dX7_sortOf_10 : decode cX7_sortOf 10 = .ok (.iadd, 1) := by decide +kernel
theorem dX7_sortOf_11 : decode cX7_sortOf 11 = .ok (.iaload, 1) := by decide +kernel
theorem dX7_sortOf_12 : decode cX7_sortOf 12 = .ok (.ireturn, 1) := by decide +kernel
def f_X7_sortOf (x1 : Int32) (x2 : Int32) (S : St) : Option (Int32) := if inb (((0 : Int32) + ((5 : Int32) * x1)) + x2) 788 = true then (some (rd S 109 (ix (((0 : Int32) + ((5 : Int32) * x1)) + x2)))) else none
set_option maxRecDepth 100000 in
set_option maxHeartbeats 4000000 in
theorem m_X7_sortOf (l : Launch) (w : Wd) (x1 : Int32) (x2 : Int32) (S : St)  : J l w I_X7_sortOf 0 [(0, .ref (w.2.1 + 108)), (1, .int x1), (2, .int x2)] [] S (fun b => (some (.int b), S)) (f_X7_sortOf x1 x2 S) := by
  unfold f_X7_sortOf
  refine j_aload_n (y := I_X7_sortOf) 0 dX7_sortOf_0 rfl rfl ?_
  refine j_getR (y := I_X7_sortOf) (j := 109) fl_7_7 k_108 rfl rfl dX7_sortOf_1 ?_
  refine j_iconst (y := I_X7_sortOf) (v := 0) dX7_sortOf_4 (by decide) ?_
  refine j_iconst (y := I_X7_sortOf) (v := 5) dX7_sortOf_5 (by decide) ?_
  refine j_iload_n (y := I_X7_sortOf) 1 dX7_sortOf_6 rfl rfl ?_
  refine j_imul (y := I_X7_sortOf) dX7_sortOf_7 ?_
  refine j_iadd (y := I_X7_sortOf) dX7_sortOf_8 ?_
  refine j_iload_n (y := I_X7_sortOf) 2 dX7_sortOf_9 rfl rfl ?_
  refine j_iadd (y := I_X7_sortOf) dX7_sortOf_10 ?_
  refine j_iald (y := I_X7_sortOf) k_109 dX7_sortOf_11 (fun h11 => ?_)
  exact j_iret (y := I_X7_sortOf) rfl dX7_sortOf_12 rfl
theorem c_X7_sortOf (l : Launch) (w : Wd) (x1 : Int32) (x2 : Int32) (S : St)  : ∀ v, f_X7_sortOf x1 x2 S = some v → CtS l w I_X7_sortOf [.ref (w.2.1 + 108), .int x1, .int x2] S S (some (.int v)) := fun v h => J.ct (av := [.ref (w.2.1 + 108), .int x1, .int x2]) (Nat.le_of_ble_eq_true rfl) pn_7 (m_X7_sortOf l w x1 x2 S ) h
abbrev I_X7_firstDay : MI := (yX7_firstDay, cX7_firstDay, 5, some .int, { frames := 4, cells := 0, slots := 0, locals := 93 })
theorem dX7_firstDay_0 : decode cX7_firstDay 0 = .ok (.iconst 0, 1) := by decide +kernel
theorem dX7_firstDay_1 : decode cX7_firstDay 1 = .ok (.istore_n 3, 1) := by decide +kernel
theorem dX7_firstDay_2 : decode cX7_firstDay 2 = .ok (.iconst 0, 1) := by decide +kernel
theorem dX7_firstDay_3 : decode cX7_firstDay 3 = .ok (.istore 4, 2) := by decide +kernel
theorem dX7_firstDay_5 : decode cX7_firstDay 5 = .ok (.iload 4, 2) := by decide +kernel
theorem dX7_firstDay_7 : decode cX7_firstDay 7 = .ok (.bipush 50, 2) := by decide +kernel
theorem dX7_firstDay_9 : decode cX7_firstDay 9 = .ok (.if_icmp .ge 42, 3) := by decide +kernel
theorem dX7_firstDay_12 : decode cX7_firstDay 12 = .ok (.iload_n 3, 1) := by decide +kernel
theorem dX7_firstDay_13 : decode cX7_firstDay 13 = .ok (.iload_n 2, 1) := by decide +kernel
theorem dX7_firstDay_14 : decode cX7_firstDay 14 = .ok (.ifCond .eq 10, 3) := by decide +kernel
theorem dX7_firstDay_17 : decode cX7_firstDay 17 = .ok (.iconst 5, 1) := by decide +kernel
theorem dX7_firstDay_18 : decode cX7_firstDay 18 = .ok (.iload 4, 2) := by decide +kernel
theorem dX7_firstDay_20 : decode cX7_firstDay 20 = .ok (.iadd, 1) := by decide +kernel
theorem dX7_firstDay_21 : decode cX7_firstDay 21 = .ok (.goto 9, 3) := by decide +kernel
theorem dX7_firstDay_24 : decode cX7_firstDay 24 = .ok (.aload_n 0, 1) := by decide +kernel
theorem dX7_firstDay_25 : decode cX7_firstDay 25 = .ok (.iload 4, 2) := by decide +kernel
theorem dX7_firstDay_27 : decode cX7_firstDay 27 = .ok (.invokevirtual 130, 3) := by decide +kernel
theorem dX7_firstDay_30 : decode cX7_firstDay 30 = .ok (.iadd, 1) := by decide +kernel
theorem dX7_firstDay_31 : decode cX7_firstDay 31 = .ok (.istore_n 3, 1) := by decide +kernel
theorem dX7_firstDay_32 : decode cX7_firstDay 32 = .ok (.iload_n 3, 1) := by decide +kernel
theorem dX7_firstDay_33 : decode cX7_firstDay 33 = .ok (.aload_n 0, 1) := by decide +kernel
theorem dX7_firstDay_34 : decode cX7_firstDay 34 = .ok (.iload_n 1, 1) := by decide +kernel
theorem dX7_firstDay_35 : decode cX7_firstDay 35 = .ok (.iconst 0, 1) := by decide +kernel
theorem dX7_firstDay_36 : decode cX7_firstDay 36 = .ok (.invokevirtual 98, 3) := by decide +kernel
theorem dX7_firstDay_39 : decode cX7_firstDay 39 = .ok (.if_icmp .lt 6, 3) := by decide +kernel
theorem dX7_firstDay_42 : decode cX7_firstDay 42 = .ok (.iload 4, 2) := by decide +kernel
theorem dX7_firstDay_44 : decode cX7_firstDay 44 = .ok (.ireturn, 1) := by decide +kernel
theorem dX7_firstDay_45 : decode cX7_firstDay 45 = .ok (.iinc 4 1, 3) := by decide +kernel
theorem dX7_firstDay_48 : decode cX7_firstDay 48 = .ok (.goto (-43), 3) := by decide +kernel
theorem dX7_firstDay_51 : decode cX7_firstDay 51 = .ok (.bipush 100, 2) := by decide +kernel
theorem dX7_firstDay_53 : decode cX7_firstDay 53 = .ok (.ireturn, 1) := by decide +kernel
theorem cv_7_130 : CV RX7 130 1 7 I_X7_warm := ⟨⟨⟨gm 967 (by decide +kernel) rfl, gm 970 (by decide +kernel) rfl, gm 44 (by decide +kernel) rfl, mh_7.1, mh_7.2, by decide +kernel⟩, gm 969 (by decide +kernel) rfl, gm 13 (by decide +kernel) rfl⟩, ⟨_, _, rfl⟩, rfl, rfl⟩
theorem cv_7_98 : CV RX7 98 2 7 I_X7_sortOf := ⟨⟨⟨gm 923 (by decide +kernel) rfl, gm 926 (by decide +kernel) rfl, gm 44 (by decide +kernel) rfl, mh_7.1, mh_7.2, by decide +kernel⟩, gm 925 (by decide +kernel) rfl, gm 11 (by decide +kernel) rfl⟩, ⟨_, _, rfl⟩, rfl, rfl⟩
def f_X7_firstDay_L5 (fuel : Nat) (K : Option (Int32)) (a5_1 : Int32) (a5_2 : Bool) (a5_3 : Int32) (a5_4 : Int32) (S : St) : Option (Int32) := match fuel with
  | 0 => none
  | n + 1 => if a5_4 < (50 : Int32) then (if a5_2 = true then ((f_X7_sortOf a5_1 (0 : Int32) S).bind fun v36 => (if (a5_3 + ((5 : Int32) + a5_4)) < v36 then (f_X7_firstDay_L5 n K a5_1 a5_2 (a5_3 + ((5 : Int32) + a5_4)) (a5_4 + (1 : Int32)) S) else (some a5_4))) else ((f_X7_warm a5_4 S).bind fun v27 => ((f_X7_sortOf a5_1 (0 : Int32) S).bind fun v36 => (if (a5_3 + v27) < v36 then (f_X7_firstDay_L5 n K a5_1 a5_2 (a5_3 + v27) (a5_4 + (1 : Int32)) S) else (some a5_4))))) else (K)
def f_X7_firstDay (x1 : Int32) (x2 : Bool) (S : St) : Option (Int32) := f_X7_firstDay_L5 6000 (some (100 : Int32)) x1 x2 (0 : Int32) (0 : Int32) S
set_option maxRecDepth 100000 in
theorem jl_X7_firstDay_5 (l : Launch) (w : Wd) (S : St) (K : Option (Int32)) (n : Nat) : ∀ (a5_1 : Int32) (a5_2 : Bool) (a5_3 : Int32) (a5_4 : Int32), ( J l w I_X7_firstDay 51 [] [] S (fun b => (some (.int b), S)) (K )) → J l w I_X7_firstDay 5 [(0, .ref (w.2.1 + 108)), (1, .int a5_1), (2, .int (b2i a5_2)), (3, .int a5_3), (4, .int a5_4)] [] S (fun b => (some (.int b), S)) (f_X7_firstDay_L5 n K a5_1 a5_2 a5_3 a5_4 S) := by
  induction n with
  | zero =>
    intro a5_1 a5_2 a5_3 a5_4 hK b h
    simp only [f_X7_firstDay_L5] at h
    cases h
  | succ n ih =>
    intro a5_1 a5_2 a5_3 a5_4 hK
    rw [f_X7_firstDay_L5]
    refine j_iload (y := I_X7_firstDay) 4 dX7_firstDay_5 rfl ?_
    refine j_bipush (y := I_X7_firstDay) (v := 50) dX7_firstDay_7 (by decide) ?_
    refine j_icmp_ge (y := I_X7_firstDay) 51 dX7_firstDay_9 (by decide) (fun h9 => ?_) (fun h9 => ?_)
    · refine j_sub [] rfl ?_
      exact hK
    · refine j_iload_n (y := I_X7_firstDay) 3 dX7_firstDay_12 rfl rfl ?_
      refine j_iload_n (y := I_X7_firstDay) 2 dX7_firstDay_13 rfl rfl ?_
      refine j_if_eqB (y := I_X7_firstDay) 24 dX7_firstDay_14 (by decide) (fun h14 => ?_) (fun h14 => ?_)
      · refine j_aload_n (y := I_X7_firstDay) 0 dX7_firstDay_24 rfl rfl ?_
        refine j_iload (y := I_X7_firstDay) 4 dX7_firstDay_25 rfl ?_
        refine j_callViR (y := I_X7_firstDay) (As := [.int a5_4]) cv_7_130 ⟨Nat.le_of_ble_eq_true rfl, Nat.le_of_ble_eq_true rfl⟩ k_108 rfl (Nat.le_of_ble_eq_true rfl) dX7_firstDay_27 (c_X7_warm l w a5_4 S) (fun v27 h27 => ?_)
        refine j_iadd (y := I_X7_firstDay) dX7_firstDay_30 ?_
        refine j_istore_n (y := I_X7_firstDay) (ls' := [(3, .int (a5_3 + v27)), (0, .ref (w.2.1 + 108)), (1, .int a5_1), (2, .int (b2i a5_2)), (4, .int a5_4)]) dX7_firstDay_31 rfl (by decide) rfl ?_
        refine j_iload_n (y := I_X7_firstDay) 0 dX7_firstDay_32 rfl rfl ?_
        refine j_aload_n (y := I_X7_firstDay) 1 dX7_firstDay_33 rfl rfl ?_
        refine j_iload_n (y := I_X7_firstDay) 2 dX7_firstDay_34 rfl rfl ?_
        refine j_iconst (y := I_X7_firstDay) (v := 0) dX7_firstDay_35 (by decide) ?_
        refine j_callViR (y := I_X7_firstDay) (As := [.int a5_1, .int (0 : Int32)]) cv_7_98 ⟨Nat.le_of_ble_eq_true rfl, Nat.le_of_ble_eq_true rfl⟩ k_108 rfl (Nat.le_of_ble_eq_true rfl) dX7_firstDay_36 (c_X7_sortOf l w a5_1 (0 : Int32) S) (fun v36 h36 => ?_)
        refine j_icmp_lt (y := I_X7_firstDay) 45 dX7_firstDay_39 (by decide) (fun h39 => ?_) (fun h39 => ?_)
        · refine j_iinc (y := I_X7_firstDay) 4 (ls' := [(4, .int (a5_4 + (1 : Int32))), (3, .int (a5_3 + v27)), (0, .ref (w.2.1 + 108)), (1, .int a5_1), (2, .int (b2i a5_2))]) dX7_firstDay_45 rfl (ii _ _ (by decide) _) (by decide) rfl ?_
          refine j_goto (y := I_X7_firstDay) 5 dX7_firstDay_48 (by decide) ?_
          refine j_sub [2, 3, 4, 1, 0] rfl ?_
          exact ih a5_1 a5_2 (a5_3 + v27) (a5_4 + (1 : Int32)) hK
        · refine j_iload (y := I_X7_firstDay) 4 dX7_firstDay_42 rfl ?_
          exact j_iret (y := I_X7_firstDay) rfl dX7_firstDay_44 rfl
      · refine j_iconst (y := I_X7_firstDay) (v := 5) dX7_firstDay_17 (by decide) ?_
        refine j_iload (y := I_X7_firstDay) 4 dX7_firstDay_18 rfl ?_
        refine j_iadd (y := I_X7_firstDay) dX7_firstDay_20 ?_
        refine j_goto (y := I_X7_firstDay) 30 dX7_firstDay_21 (by decide) ?_
        refine j_iadd (y := I_X7_firstDay) dX7_firstDay_30 ?_
        refine j_istore_n (y := I_X7_firstDay) (ls' := [(3, .int (a5_3 + ((5 : Int32) + a5_4))), (0, .ref (w.2.1 + 108)), (1, .int a5_1), (2, .int (b2i a5_2)), (4, .int a5_4)]) dX7_firstDay_31 rfl (by decide) rfl ?_
        refine j_iload_n (y := I_X7_firstDay) 0 dX7_firstDay_32 rfl rfl ?_
        refine j_aload_n (y := I_X7_firstDay) 1 dX7_firstDay_33 rfl rfl ?_
        refine j_iload_n (y := I_X7_firstDay) 2 dX7_firstDay_34 rfl rfl ?_
        refine j_iconst (y := I_X7_firstDay) (v := 0) dX7_firstDay_35 (by decide) ?_
        refine j_callViR (y := I_X7_firstDay) (As := [.int a5_1, .int (0 : Int32)]) cv_7_98 ⟨Nat.le_of_ble_eq_true rfl, Nat.le_of_ble_eq_true rfl⟩ k_108 rfl (Nat.le_of_ble_eq_true rfl) dX7_firstDay_36 (c_X7_sortOf l w a5_1 (0 : Int32) S) (fun v36 h36 => ?_)
        refine j_icmp_lt (y := I_X7_firstDay) 45 dX7_firstDay_39 (by decide) (fun h39 => ?_) (fun h39 => ?_)
        · refine j_iinc (y := I_X7_firstDay) 4 (ls' := [(4, .int (a5_4 + (1 : Int32))), (3, .int (a5_3 + ((5 : Int32) + a5_4))), (0, .ref (w.2.1 + 108)), (1, .int a5_1), (2, .int (b2i a5_2))]) dX7_firstDay_45 rfl (ii _ _ (by decide) _) (by decide) rfl ?_
          refine j_goto (y := I_X7_firstDay) 5 dX7_firstDay_48 (by decide) ?_
          refine j_sub [2, 3, 4, 1, 0] rfl ?_
          exact ih a5_1 a5_2 (a5_3 + ((5 : Int32) + a5_4)) (a5_4 + (1 : Int32)) hK
        · refine j_iload (y := I_X7_firstDay) 4 dX7_firstDay_42 rfl ?_
          exact j_iret (y := I_X7_firstDay) rfl dX7_firstDay_44 rfl
set_option maxRecDepth 100000 in
set_option maxHeartbeats 4000000 in
theorem m_X7_firstDay (l : Launch) (w : Wd) (x1 : Int32) (x2 : Bool) (S : St)  : J l w I_X7_firstDay 0 [(0, .ref (w.2.1 + 108)), (1, .int x1), (2, .int (b2i x2))] [] S (fun b => (some (.int b), S)) (f_X7_firstDay x1 x2 S) := by
  unfold f_X7_firstDay
  refine j_iconst (y := I_X7_firstDay) (v := 0) dX7_firstDay_0 (by decide) ?_
  refine j_istore_n (y := I_X7_firstDay) (ls' := [(3, .int (0 : Int32)), (0, .ref (w.2.1 + 108)), (1, .int x1), (2, .int (b2i x2))]) dX7_firstDay_1 rfl (by decide) rfl ?_
  refine j_iconst (y := I_X7_firstDay) (v := 0) dX7_firstDay_2 (by decide) ?_
  refine j_istore (y := I_X7_firstDay) (ls' := [(4, .int (0 : Int32)), (3, .int (0 : Int32)), (0, .ref (w.2.1 + 108)), (1, .int x1), (2, .int (b2i x2))]) dX7_firstDay_3 (by decide) rfl ?_
  refine j_sub [2, 3, 4, 1, 0] rfl ?_
  refine jl_X7_firstDay_5 l w S _ 6000 x1 x2 (0 : Int32) (0 : Int32)   ?_
  refine j_bipush (y := I_X7_firstDay) (v := 100) dX7_firstDay_51 (by decide) ?_
  exact j_iret (y := I_X7_firstDay) rfl dX7_firstDay_53 rfl
theorem c_X7_firstDay (l : Launch) (w : Wd) (x1 : Int32) (x2 : Bool) (S : St)  : ∀ v, f_X7_firstDay x1 x2 S = some v → CtS l w I_X7_firstDay [.ref (w.2.1 + 108), .int x1, .int (b2i x2)] S S (some (.int v)) := fun v h => J.ct (av := [.ref (w.2.1 + 108), .int x1, .int (b2i x2)]) (Nat.le_of_ble_eq_true rfl) pn_7 (m_X7_firstDay l w x1 x2 S ) h
abbrev I_X7_blossoms : MI := (yX7_blossoms, cX7_blossoms, 5, some .boolean, { frames := 5, cells := 0, slots := 0, locals := 117 })
theorem dX7_blossoms_0 : decode cX7_blossoms 0 = .ok (.aload_n 0, 1) := by decide +kernel
theorem dX7_blossoms_1 : decode cX7_blossoms 1 = .ok (.iload_n 1, 1) := by decide +kernel
theorem dX7_blossoms_2 : decode cX7_blossoms 2 = .ok (.iload_n 3, 1) := by decide +kernel
theorem dX7_blossoms_3 : decode cX7_blossoms 3 = .ok (.invokevirtual 133, 3) := by decide +kernel
theorem dX7_blossoms_6 : decode cX7_blossoms 6 = .ok (.istore 4, 2) := by decide +kernel
theorem dX7_blossoms_8 : decode cX7_blossoms 8 = .ok (.iload_n 2, 1) := by decide +kernel
theorem dX7_blossoms_9 : decode cX7_blossoms 9 = .ok (.iload 4, 2) := by decide +kernel
theorem dX7_blossoms_11 : decode cX7_blossoms 11 = .ok (.if_icmp .lt 20, 3) := by decide +kernel
theorem dX7_blossoms_14 : decode cX7_blossoms 14 = .ok (.iload_n 2, 1) := by decide +kernel
theorem dX7_blossoms_15 : decode cX7_blossoms 15 = .ok (.iload 4, 2) := by decide +kernel
theorem dX7_blossoms_17 : decode cX7_blossoms 17 = .ok (.aload_n 0, 1) := by decide +kernel
theorem dX7_blossoms_18 : decode cX7_blossoms 18 = .ok (.iload_n 1, 1) := by decide +kernel
theorem dX7_blossoms_19 : decode cX7_blossoms 19 = .ok (.iconst 1, 1) := by decide +kernel
theorem dX7_blossoms_20 : decode cX7_blossoms 20 = .ok (.invokevirtual 98, 3) := by decide +kernel
theorem dX7_blossoms_23 : decode cX7_blossoms 23 = .ok (.iadd, 1) := by decide +kernel
theorem dX7_blossoms_24 : decode cX7_blossoms 24 = .ok (.if_icmp .ge 7, 3) := by decide +kernel
theorem dX7_blossoms_27 : decode cX7_blossoms 27 = .ok (.iconst 1, 1) := by decide +kernel
theorem dX7_blossoms_28 : decode cX7_blossoms 28 = .ok (.goto 4, 3) := by decide +kernel
theorem dX7_blossoms_31 : decode cX7_blossoms 31 = .ok (.iconst 0, 1) := by decide +kernel
theorem dX7_blossoms_32 : decode cX7_blossoms 32 = .ok (.ireturn, 1) := by decide +kernel
theorem cv_7_133 : CV RX7 133 2 7 I_X7_firstDay := ⟨⟨⟨gm 989 (by decide +kernel) rfl, gm 992 (by decide +kernel) rfl, gm 44 (by decide +kernel) rfl, mh_7.1, mh_7.2, by decide +kernel⟩, gm 991 (by decide +kernel) rfl, gm 16 (by decide +kernel) rfl⟩, ⟨_, _, rfl⟩, rfl, rfl⟩
def f_X7_blossoms (x1 : Int32) (x2 : Int32) (x3 : Bool) (S : St) : Option (Bool) := (f_X7_firstDay x1 x3 S).bind fun v3 => (if x2 < v3 then (some false) else ((f_X7_sortOf x1 (1 : Int32) S).bind fun v20 => (if x2 < (v3 + v20) then (some true) else (some false))))
set_option maxRecDepth 100000 in
set_option maxHeartbeats 4000000 in
theorem m_X7_blossoms (l : Launch) (w : Wd) (x1 : Int32) (x2 : Int32) (x3 : Bool) (S : St)  : J l w I_X7_blossoms 0 [(0, .ref (w.2.1 + 108)), (1, .int x1), (2, .int x2), (3, .int (b2i x3))] [] S (fun b => (some (.int (b2i b)), S)) (f_X7_blossoms x1 x2 x3 S) := by
  unfold f_X7_blossoms
  refine j_aload_n (y := I_X7_blossoms) 0 dX7_blossoms_0 rfl rfl ?_
  refine j_iload_n (y := I_X7_blossoms) 1 dX7_blossoms_1 rfl rfl ?_
  refine j_iload_n (y := I_X7_blossoms) 3 dX7_blossoms_2 rfl rfl ?_
  refine j_callViR (y := I_X7_blossoms) (As := [.int x1, .int (b2i x3)]) cv_7_133 ⟨Nat.le_of_ble_eq_true rfl, Nat.le_of_ble_eq_true rfl⟩ k_108 rfl (Nat.le_of_ble_eq_true rfl) dX7_blossoms_3 (c_X7_firstDay l w x1 x3 S) (fun v3 h3 => ?_)
  refine j_istore (y := I_X7_blossoms) (ls' := [(4, .int v3), (0, .ref (w.2.1 + 108)), (1, .int x1), (2, .int x2), (3, .int (b2i x3))]) dX7_blossoms_6 (by decide) rfl ?_
  refine j_iload_n (y := I_X7_blossoms) 3 dX7_blossoms_8 rfl rfl ?_
  refine j_iload (y := I_X7_blossoms) 0 dX7_blossoms_9 rfl ?_
  refine j_icmp_lt (y := I_X7_blossoms) 31 dX7_blossoms_11 (by decide) (fun h11 => ?_) (fun h11 => ?_)
  · refine j_iconst (y := I_X7_blossoms) (v := 0) dX7_blossoms_31 (by decide) ?_
    exact j_zret (y := I_X7_blossoms) (q := false) rfl rfl dX7_blossoms_32 rfl
  · refine j_iload_n (y := I_X7_blossoms) 3 dX7_blossoms_14 rfl rfl ?_
    refine j_iload (y := I_X7_blossoms) 0 dX7_blossoms_15 rfl ?_
    refine j_aload_n (y := I_X7_blossoms) 1 dX7_blossoms_17 rfl rfl ?_
    refine j_iload_n (y := I_X7_blossoms) 2 dX7_blossoms_18 rfl rfl ?_
    refine j_iconst (y := I_X7_blossoms) (v := 1) dX7_blossoms_19 (by decide) ?_
    refine j_callViR (y := I_X7_blossoms) (As := [.int x1, .int (1 : Int32)]) cv_7_98 ⟨Nat.le_of_ble_eq_true rfl, Nat.le_of_ble_eq_true rfl⟩ k_108 rfl (Nat.le_of_ble_eq_true rfl) dX7_blossoms_20 (c_X7_sortOf l w x1 (1 : Int32) S) (fun v20 h20 => ?_)
    refine j_iadd (y := I_X7_blossoms) dX7_blossoms_23 ?_
    refine j_icmp_ge (y := I_X7_blossoms) 31 dX7_blossoms_24 (by decide) (fun h24 => ?_) (fun h24 => ?_)
    · refine j_iconst (y := I_X7_blossoms) (v := 0) dX7_blossoms_31 (by decide) ?_
      exact j_zret (y := I_X7_blossoms) (q := false) rfl rfl dX7_blossoms_32 rfl
    · refine j_iconst (y := I_X7_blossoms) (v := 1) dX7_blossoms_27 (by decide) ?_
      refine j_goto (y := I_X7_blossoms) 32 dX7_blossoms_28 (by decide) ?_
      exact j_zret (y := I_X7_blossoms) (q := true) rfl rfl dX7_blossoms_32 rfl
theorem c_X7_blossoms (l : Launch) (w : Wd) (x1 : Int32) (x2 : Int32) (x3 : Bool) (S : St)  : ∀ v, f_X7_blossoms x1 x2 x3 S = some v → CtS l w I_X7_blossoms [.ref (w.2.1 + 108), .int x1, .int x2, .int (b2i x3)] S S (some (.int (b2i v))) := fun v h => J.ct (av := [.ref (w.2.1 + 108), .int x1, .int x2, .int (b2i x3)]) (Nat.le_of_ble_eq_true rfl) pn_7 (m_X7_blossoms l w x1 x2 x3 S ) h
abbrev I_X7_together : MI := (yX7_together, cX7_together, 4, some .boolean, { frames := 6, cells := 0, slots := 0, locals := 141 })
theorem dX7_together_0 : decode cX7_together 0 = .ok (.iconst 0, 1) := by decide +kernel
theorem dX7_together_1 : decode cX7_together 1 = .ok (.istore_n 3, 1) := by decide +kernel
theorem dX7_together_2 : decode cX7_together 2 = .ok (.iload_n 3, 1) := by decide +kernel
theorem dX7_together_3 : decode cX7_together 3 = .ok (.bipush 50, 2) := by decide +kernel
theorem dX7_together_5 : decode cX7_together 5 = .ok (.if_icmp .ge 31, 3) := by decide +kernel
theorem dX7_together_8 : decode cX7_together 8 = .ok (.aload_n 0, 1) := by decide +kernel
theorem dX7_together_9 : decode cX7_together 9 = .ok (.iload_n 1, 1) := by decide +kernel
theorem dX7_together_10 : decode cX7_together 10 = .ok (.iload_n 3, 1) := by decide +kernel
theorem dX7_together_11 : decode cX7_together 11 = .ok (.iconst 1, 1) := by decide +kernel
theorem dX7_together_12 : decode cX7_together 12 = .ok (.invokevirtual 146, 3) := by decide +kernel
theorem dX7_together_15 : decode cX7_together 15 = .ok (.ifCond .eq 15, 3) := by decide +kernel
theorem dX7_together_18 : decode cX7_together 18 = .ok (.aload_n 0, 1) := by decide +kernel
theorem dX7_together_19 : decode cX7_together 19 = .ok (.iload_n 2, 1) := by decide +kernel
theorem dX7_together_20 : decode cX7_together 20 = .ok (.iload_n 3, 1) := by decide +kernel
theorem dX7_together_21 : decode cX7_together 21 = .ok (.iconst 1, 1) := by decide +kernel
theorem dX7_together_22 : decode cX7_together 22 = .ok (.invokevirtual 146, 3) := by decide +kernel
theorem dX7_together_25 : decode cX7_together 25 = .ok (.ifCond .eq 5, 3) := by decide +kernel
theorem dX7_together_28 : decode cX7_together 28 = .ok (.iconst 1, 1) := by decide +kernel
theorem dX7_together_29 : decode cX7_together 29 = .ok (.ireturn, 1) := by decide +kernel
theorem dX7_together_30 : decode cX7_together 30 = .ok (.iinc 3 1, 3) := by decide +kernel
theorem dX7_together_33 : decode cX7_together 33 = .ok (.goto (-31), 3) := by decide +kernel
theorem dX7_together_36 : decode cX7_together 36 = .ok (.iconst 0, 1) := by decide +kernel
theorem dX7_together_37 : decode cX7_together 37 = .ok (.ireturn, 1) := by decide +kernel
theorem cv_7_146 : CV RX7 146 3 7 I_X7_blossoms := ⟨⟨⟨gm 1025 (by decide +kernel) rfl, gm 1028 (by decide +kernel) rfl, gm 44 (by decide +kernel) rfl, mh_7.1, mh_7.2, by decide +kernel⟩, gm 1027 (by decide +kernel) rfl, gm 23 (by decide +kernel) rfl⟩, ⟨_, _, rfl⟩, rfl, rfl⟩
def f_X7_together_L2 (fuel : Nat) (K : Option (Bool)) (a2_1 : Int32) (a2_2 : Int32) (a2_3 : Int32) (S : St) : Option (Bool) := match fuel with
  | 0 => none
  | n + 1 => if a2_3 < (50 : Int32) then ((f_X7_blossoms a2_1 a2_3 true S).bind fun v12 => (if v12 = true then ((f_X7_blossoms a2_2 a2_3 true S).bind fun v22 => (if v22 = true then (some true) else (f_X7_together_L2 n K a2_1 a2_2 (a2_3 + (1 : Int32)) S))) else (f_X7_together_L2 n K a2_1 a2_2 (a2_3 + (1 : Int32)) S))) else (K)
def f_X7_together (x1 : Int32) (x2 : Int32) (S : St) : Option (Bool) := f_X7_together_L2 6000 (some false) x1 x2 (0 : Int32) S
set_option maxRecDepth 100000 in
theorem jl_X7_together_2 (l : Launch) (w : Wd) (S : St) (K : Option (Bool)) (n : Nat) : ∀ (a2_1 : Int32) (a2_2 : Int32) (a2_3 : Int32), ( J l w I_X7_together 36 [] [] S (fun b => (some (.int (b2i b)), S)) (K )) → J l w I_X7_together 2 [(0, .ref (w.2.1 + 108)), (1, .int a2_1), (2, .int a2_2), (3, .int a2_3)] [] S (fun b => (some (.int (b2i b)), S)) (f_X7_together_L2 n K a2_1 a2_2 a2_3 S) := by
  induction n with
  | zero =>
    intro a2_1 a2_2 a2_3 hK b h
    simp only [f_X7_together_L2] at h
    cases h
  | succ n ih =>
    intro a2_1 a2_2 a2_3 hK
    rw [f_X7_together_L2]
    refine j_iload_n (y := I_X7_together) 3 dX7_together_2 rfl rfl ?_
    refine j_bipush (y := I_X7_together) (v := 50) dX7_together_3 (by decide) ?_
    refine j_icmp_ge (y := I_X7_together) 36 dX7_together_5 (by decide) (fun h5 => ?_) (fun h5 => ?_)
    · refine j_sub [] rfl ?_
      exact hK
    · refine j_aload_n (y := I_X7_together) 0 dX7_together_8 rfl rfl ?_
      refine j_iload_n (y := I_X7_together) 1 dX7_together_9 rfl rfl ?_
      refine j_iload_n (y := I_X7_together) 3 dX7_together_10 rfl rfl ?_
      refine j_iconst (y := I_X7_together) (v := 1) dX7_together_11 (by decide) ?_
      refine j_callVzR (y := I_X7_together) (As := [.int a2_1, .int a2_3, .int (1 : Int32)]) cv_7_146 ⟨Nat.le_of_ble_eq_true rfl, Nat.le_of_ble_eq_true rfl⟩ k_108 rfl (Nat.le_of_ble_eq_true rfl) dX7_together_12 (c_X7_blossoms l w a2_1 a2_3 true S) (fun v12 h12 => ?_)
      refine j_if_eqB (y := I_X7_together) 30 dX7_together_15 (by decide) (fun h15 => ?_) (fun h15 => ?_)
      · refine j_iinc (y := I_X7_together) 3 (ls' := [(3, .int (a2_3 + (1 : Int32))), (0, .ref (w.2.1 + 108)), (1, .int a2_1), (2, .int a2_2)]) dX7_together_30 rfl (ii _ _ (by decide) _) (by decide) rfl ?_
        refine j_goto (y := I_X7_together) 2 dX7_together_33 (by decide) ?_
        refine j_sub [1, 2, 3, 0] rfl ?_
        exact ih a2_1 a2_2 (a2_3 + (1 : Int32)) hK
      · refine j_aload_n (y := I_X7_together) 0 dX7_together_18 rfl rfl ?_
        refine j_iload_n (y := I_X7_together) 2 dX7_together_19 rfl rfl ?_
        refine j_iload_n (y := I_X7_together) 3 dX7_together_20 rfl rfl ?_
        refine j_iconst (y := I_X7_together) (v := 1) dX7_together_21 (by decide) ?_
        refine j_callVzR (y := I_X7_together) (As := [.int a2_2, .int a2_3, .int (1 : Int32)]) cv_7_146 ⟨Nat.le_of_ble_eq_true rfl, Nat.le_of_ble_eq_true rfl⟩ k_108 rfl (Nat.le_of_ble_eq_true rfl) dX7_together_22 (c_X7_blossoms l w a2_2 a2_3 true S) (fun v22 h22 => ?_)
        refine j_if_eqB (y := I_X7_together) 30 dX7_together_25 (by decide) (fun h25 => ?_) (fun h25 => ?_)
        · refine j_iinc (y := I_X7_together) 3 (ls' := [(3, .int (a2_3 + (1 : Int32))), (0, .ref (w.2.1 + 108)), (1, .int a2_1), (2, .int a2_2)]) dX7_together_30 rfl (ii _ _ (by decide) _) (by decide) rfl ?_
          refine j_goto (y := I_X7_together) 2 dX7_together_33 (by decide) ?_
          refine j_sub [1, 2, 3, 0] rfl ?_
          exact ih a2_1 a2_2 (a2_3 + (1 : Int32)) hK
        · refine j_iconst (y := I_X7_together) (v := 1) dX7_together_28 (by decide) ?_
          exact j_zret (y := I_X7_together) (q := true) rfl rfl dX7_together_29 rfl
set_option maxRecDepth 100000 in
set_option maxHeartbeats 4000000 in
theorem m_X7_together (l : Launch) (w : Wd) (x1 : Int32) (x2 : Int32) (S : St)  : J l w I_X7_together 0 [(0, .ref (w.2.1 + 108)), (1, .int x1), (2, .int x2)] [] S (fun b => (some (.int (b2i b)), S)) (f_X7_together x1 x2 S) := by
  unfold f_X7_together
  refine j_iconst (y := I_X7_together) (v := 0) dX7_together_0 (by decide) ?_
  refine j_istore_n (y := I_X7_together) (ls' := [(3, .int (0 : Int32)), (0, .ref (w.2.1 + 108)), (1, .int x1), (2, .int x2)]) dX7_together_1 rfl (by decide) rfl ?_
  refine j_sub [1, 2, 3, 0] rfl ?_
  refine jl_X7_together_2 l w S _ 6000 x1 x2 (0 : Int32)   ?_
  refine j_iconst (y := I_X7_together) (v := 0) dX7_together_36 (by decide) ?_
  exact j_zret (y := I_X7_together) (q := false) rfl rfl dX7_together_37 rfl
theorem c_X7_together (l : Launch) (w : Wd) (x1 : Int32) (x2 : Int32) (S : St)  : ∀ v, f_X7_together x1 x2 S = some v → CtS l w I_X7_together [.ref (w.2.1 + 108), .int x1, .int x2] S S (some (.int (b2i v))) := fun v h => J.ct (av := [.ref (w.2.1 + 108), .int x1, .int x2]) (Nat.le_of_ble_eq_true rfl) pn_7 (m_X7_together l w x1 x2 S ) h
abbrev I_X7_fits : MI := (yX7_fits, cX7_fits, 3, some .boolean, { frames := 7, cells := 0, slots := 0, locals := 164 })
theorem dX7_fits_0 : decode cX7_fits 0 = .ok (.aload_n 0, 1) := by decide +kernel
theorem dX7_fits_1 : decode cX7_fits 1 = .ok (.iload_n 1, 1) := by decide +kernel
theorem dX7_fits_2 : decode cX7_fits 2 = .ok (.iload_n 2, 1) := by decide +kernel
theorem dX7_fits_3 : decode cX7_fits 3 = .ok (.invokevirtual 84, 3) := by decide +kernel
theorem dX7_fits_6 : decode cX7_fits 6 = .ok (.ifCond .eq 16, 3) := by decide +kernel
theorem dX7_fits_9 : decode cX7_fits 9 = .ok (.aload_n 0, 1) := by decide +kernel
theorem dX7_fits_10 : decode cX7_fits 10 = .ok (.iload_n 1, 1) := by decide +kernel
theorem dX7_fits_11 : decode cX7_fits 11 = .ok (.iload_n 2, 1) := by decide +kernel
theorem dX7_fits_12 : decode cX7_fits 12 = .ok (.invokevirtual 195, 3) := by decide +kernel
theorem dX7_fits_15 : decode cX7_fits 15 = .ok (.ifCond .eq 7, 3) := by decide +kernel
theorem dX7_fits_18 : decode cX7_fits 18 = .ok (.iconst 1, 1) := by decide +kernel
theorem dX7_fits_19 : decode cX7_fits 19 = .ok (.goto 4, 3) := by decide +kernel
theorem dX7_fits_22 : decode cX7_fits 22 = .ok (.iconst 0, 1) := by decide +kernel
theorem dX7_fits_23 : decode cX7_fits 23 = .ok (.ireturn, 1) := by decide +kernel
theorem cv_7_195 : CV RX7 195 2 7 I_X7_together := ⟨⟨⟨gm 1108 (by decide +kernel) rfl, gm 1111 (by decide +kernel) rfl, gm 44 (by decide +kernel) rfl, mh_7.1, mh_7.2, by decide +kernel⟩, gm 1110 (by decide +kernel) rfl, gm 35 (by decide +kernel) rfl⟩, ⟨_, _, rfl⟩, rfl, rfl⟩
theorem cv_7_84 : CV RX7 84 2 7 I_X7_does := ⟨⟨⟨gm 872 (by decide +kernel) rfl, gm 875 (by decide +kernel) rfl, gm 44 (by decide +kernel) rfl, mh_7.1, mh_7.2, by decide +kernel⟩, gm 874 (by decide +kernel) rfl, gm 5 (by decide +kernel) rfl⟩, ⟨_, _, rfl⟩, rfl, rfl⟩
def f_X7_fits (x1 : Int32) (x2 : Int32) (S : St) : Option (Bool) := (f_X7_does x1 x2 S).bind fun v3 => (if v3 = true then ((f_X7_together x1 x2 S).bind fun v12 => (if v12 = true then (some true) else (some false))) else (some false))
set_option maxRecDepth 100000 in
set_option maxHeartbeats 4000000 in
theorem m_X7_fits (l : Launch) (w : Wd) (x1 : Int32) (x2 : Int32) (S : St)  : J l w I_X7_fits 0 [(0, .ref (w.2.1 + 108)), (1, .int x1), (2, .int x2)] [] S (fun b => (some (.int (b2i b)), S)) (f_X7_fits x1 x2 S) := by
  unfold f_X7_fits
  refine j_aload_n (y := I_X7_fits) 0 dX7_fits_0 rfl rfl ?_
  refine j_iload_n (y := I_X7_fits) 1 dX7_fits_1 rfl rfl ?_
  refine j_iload_n (y := I_X7_fits) 2 dX7_fits_2 rfl rfl ?_
  refine j_callVzR (y := I_X7_fits) (As := [.int x1, .int x2]) cv_7_84 ⟨Nat.le_of_ble_eq_true rfl, Nat.le_of_ble_eq_true rfl⟩ k_108 rfl (Nat.le_of_ble_eq_true rfl) dX7_fits_3 (c_X7_does l w x1 x2 S) (fun v3 h3 => ?_)
  refine j_if_eqB (y := I_X7_fits) 22 dX7_fits_6 (by decide) (fun h6 => ?_) (fun h6 => ?_)
  · refine j_iconst (y := I_X7_fits) (v := 0) dX7_fits_22 (by decide) ?_
    exact j_zret (y := I_X7_fits) (q := false) rfl rfl dX7_fits_23 rfl
  · refine j_aload_n (y := I_X7_fits) 0 dX7_fits_9 rfl rfl ?_
    refine j_iload_n (y := I_X7_fits) 1 dX7_fits_10 rfl rfl ?_
    refine j_iload_n (y := I_X7_fits) 2 dX7_fits_11 rfl rfl ?_
    refine j_callVzR (y := I_X7_fits) (As := [.int x1, .int x2]) cv_7_195 ⟨Nat.le_of_ble_eq_true rfl, Nat.le_of_ble_eq_true rfl⟩ k_108 rfl (Nat.le_of_ble_eq_true rfl) dX7_fits_12 (c_X7_together l w x1 x2 S) (fun v12 h12 => ?_)
    refine j_if_eqB (y := I_X7_fits) 22 dX7_fits_15 (by decide) (fun h15 => ?_) (fun h15 => ?_)
    · refine j_iconst (y := I_X7_fits) (v := 0) dX7_fits_22 (by decide) ?_
      exact j_zret (y := I_X7_fits) (q := false) rfl rfl dX7_fits_23 rfl
    · refine j_iconst (y := I_X7_fits) (v := 1) dX7_fits_18 (by decide) ?_
      refine j_goto (y := I_X7_fits) 23 dX7_fits_19 (by decide) ?_
      exact j_zret (y := I_X7_fits) (q := true) rfl rfl dX7_fits_23 rfl
theorem c_X7_fits (l : Launch) (w : Wd) (x1 : Int32) (x2 : Int32) (S : St)  : ∀ v, f_X7_fits x1 x2 S = some v → CtS l w I_X7_fits [.ref (w.2.1 + 108), .int x1, .int x2] S S (some (.int (b2i v))) := fun v h => J.ct (av := [.ref (w.2.1 + 108), .int x1, .int x2]) (Nat.le_of_ble_eq_true rfl) pn_7 (m_X7_fits l w x1 x2 S ) h
abbrev I_X7_isNear : MI := (yX7_isNear, cX7_isNear, 5, some .boolean, { frames := 1, cells := 0, slots := 0, locals := 22 })
theorem dX7_isNear_0 : decode cX7_isNear 0 = .ok (.aload_n 0, 1) := by decide +kernel
theorem dX7_isNear_1 : decode cX7_isNear 1 = .ok (.iload_n 1, 1) := by decide +kernel
theorem dX7_isNear_2 : decode cX7_isNear 2 = .ok (.iconst 0, 1) := by decide +kernel
theorem dX7_isNear_3 : decode cX7_isNear 3 = .ok (.invokevirtual 68, 3) := by decide +kernel
theorem dX7_isNear_6 : decode cX7_isNear 6 = .ok (.aload_n 0, 1) := by decide +kernel
theorem dX7_isNear_7 : decode cX7_isNear 7 = .ok (.iload_n 2, 1) := by decide +kernel
theorem dX7_isNear_8 : decode cX7_isNear 8 = .ok (.iconst 0, 1) := by decide +kernel
theorem dX7_isNear_9 : decode cX7_isNear 9 = .ok (.invokevirtual 68, 3) := by decide +kernel
theorem dX7_isNear_12 : decode cX7_isNear 12 = .ok (.isub, 1) := by decide +kernel
theorem dX7_isNear_13 : decode cX7_isNear 13 = .ok (.istore_n 3, 1) := by decide +kernel
theorem dX7_isNear_14 : decode cX7_isNear 14 = .ok (.aload_n 0, 1) := by decide +kernel
theorem dX7_isNear_15 : decode cX7_isNear 15 = .ok (.iload_n 1, 1) := by decide +kernel
theorem dX7_isNear_16 : decode cX7_isNear 16 = .ok (.iconst 1, 1) := by decide +kernel
theorem dX7_isNear_17 : decode cX7_isNear 17 = .ok (.invokevirtual 68, 3) := by decide +kernel
theorem dX7_isNear_20 : decode cX7_isNear 20 = .ok (.aload_n 0, 1) := by decide +kernel
theorem dX7_isNear_21 : decode cX7_isNear 21 = .ok (.iload_n 2, 1) := by decide +kernel
theorem dX7_isNear_22 : decode cX7_isNear 22 = .ok (.iconst 1, 1) := by decide +kernel
theorem dX7_isNear_23 : decode cX7_isNear 23 = .ok (.invokevirtual 68, 3) := by decide +kernel
theorem dX7_isNear_26 : decode cX7_isNear 26 = .ok (.isub, 1) := by decide +kernel
theorem dX7_isNear_27 : decode cX7_isNear 27 = .ok (.istore 4, 2) := by decide +kernel
theorem dX7_isNear_29 : decode cX7_isNear 29 = .ok (.iload_n 3, 1) := by decide +kernel
theorem dX7_isNear_30 : decode cX7_isNear 30 = .ok (.aload_n 0, 1) := by decide +kernel
theorem dX7_isNear_31 : decode cX7_isNear 31 = .ok (.getfield 7, 3) := by decide +kernel
theorem dX7_isNear_34 : decode cX7_isNear 34 = .ok (.sipush 783, 3) := by decide +kernel
theorem dX7_isNear_37 : decode cX7_isNear 37 = .ok (.iaload, 1) := by decide +kernel
theorem dX7_isNear_38 : decode cX7_isNear 38 = .ok (.ineg, 1) := by decide +kernel
theorem dX7_isNear_39 : decode cX7_isNear 39 = .ok (.aload_n 0, 1) := by decide +kernel
theorem dX7_isNear_40 : decode cX7_isNear 40 = .ok (.getfield 7, 3) := by decide +kernel
theorem dX7_isNear_43 : decode cX7_isNear 43 = .ok (.sipush 783, 3) := by decide +kernel
theorem dX7_isNear_46 : decode cX7_isNear 46 = .ok (.iaload, 1) := by decide +kernel
theorem dX7_isNear_47 : decode cX7_isNear 47 = .ok (.invokestatic 64, 3) := by decide +kernel
theorem dX7_isNear_50 : decode cX7_isNear 50 = .ok (.ifCond .eq 32, 3) := by decide +kernel
theorem dX7_isNear_53 : decode cX7_isNear 53 = .ok (.iload 4, 2) := by decide +kernel
theorem dX7_isNear_55 : decode cX7_isNear 55 = .ok (.aload_n 0, 1) := by decide +kernel
theorem dX7_isNear_56 : decode cX7_isNear 56 = .ok (.getfield 7, 3) := by decide +kernel
theorem dX7_isNear_59 : decode cX7_isNear 59 = .ok (.sipush 783, 3) := by decide +kernel
theorem dX7_isNear_62 : decode cX7_isNear 62 = .ok (.iaload, 1) := by decide +kernel
theorem dX7_isNear_63 : decode cX7_isNear 63 = .ok (.ineg, 1) := by decide +kernel
theorem dX7_isNear_64 : decode cX7_isNear 64 = .ok (.aload_n 0, 1) := by decide +kernel
theorem dX7_isNear_65 : decode cX7_isNear 65 = .ok (.getfield 7, 3) := by decide +kernel
theorem dX7_isNear_68 : decode cX7_isNear 68 = .ok (.sipush 783, 3) := by decide +kernel
theorem dX7_isNear_71 : decode cX7_isNear 71 = .ok (.iaload, 1) := by decide +kernel
theorem dX7_isNear_72 : decode cX7_isNear 72 = .ok (.invokestatic 64, 3) := by decide +kernel
theorem dX7_isNear_75 : decode cX7_isNear 75 = .ok (.ifCond .eq 7, 3) := by decide +kernel
theorem dX7_isNear_78 : decode cX7_isNear 78 = .ok (.iconst 1, 1) := by decide +kernel
theorem dX7_isNear_79 : decode cX7_isNear 79 = .ok (.goto 4, 3) := by decide +kernel
theorem dX7_isNear_82 : decode cX7_isNear 82 = .ok (.iconst 0, 1) := by decide +kernel
theorem dX7_isNear_83 : decode cX7_isNear 83 = .ok (.ireturn, 1) := by decide +kernel
def f_X7_isNear (x1 : Int32) (x2 : Int32) (S : St) : Option (Bool) := (f_X7_get x1 (0 : Int32) S).bind fun v3 => ((f_X7_get x2 (0 : Int32) S).bind fun v9 => ((f_X7_get x1 (1 : Int32) S).bind fun v17 => ((f_X7_get x2 (1 : Int32) S).bind fun v23 => (if (f_X7_in (v3 - v9) (-(rd S 109 (ix (783 : Int32)))) (rd S 109 (ix (783 : Int32)))) = true then (if (f_X7_in (v17 - v23) (-(rd S 109 (ix (783 : Int32)))) (rd S 109 (ix (783 : Int32)))) = true then (some true) else (some false)) else (some false)))))
set_option maxRecDepth 100000 in
set_option maxHeartbeats 4000000 in
theorem m_X7_isNear (l : Launch) (w : Wd) (x1 : Int32) (x2 : Int32) (S : St)  : J l w I_X7_isNear 0 [(0, .ref (w.2.1 + 108)), (1, .int x1), (2, .int x2)] [] S (fun b => (some (.int (b2i b)), S)) (f_X7_isNear x1 x2 S) := by
  unfold f_X7_isNear
  refine j_aload_n (y := I_X7_isNear) 0 dX7_isNear_0 rfl rfl ?_
  refine j_iload_n (y := I_X7_isNear) 1 dX7_isNear_1 rfl rfl ?_
  refine j_iconst (y := I_X7_isNear) (v := 0) dX7_isNear_2 (by decide) ?_
  refine j_callViR (y := I_X7_isNear) (As := [.int x1, .int (0 : Int32)]) cv_7_68 ⟨Nat.le_of_ble_eq_true rfl, Nat.le_of_ble_eq_true rfl⟩ k_108 rfl (Nat.le_of_ble_eq_true rfl) dX7_isNear_3 (c_X7_get l w x1 (0 : Int32) S) (fun v3 h3 => ?_)
  refine j_aload_n (y := I_X7_isNear) 0 dX7_isNear_6 rfl rfl ?_
  refine j_iload_n (y := I_X7_isNear) 2 dX7_isNear_7 rfl rfl ?_
  refine j_iconst (y := I_X7_isNear) (v := 0) dX7_isNear_8 (by decide) ?_
  refine j_callViR (y := I_X7_isNear) (As := [.int x2, .int (0 : Int32)]) cv_7_68 ⟨Nat.le_of_ble_eq_true rfl, Nat.le_of_ble_eq_true rfl⟩ k_108 rfl (Nat.le_of_ble_eq_true rfl) dX7_isNear_9 (c_X7_get l w x2 (0 : Int32) S) (fun v9 h9 => ?_)
  refine j_isub (y := I_X7_isNear) dX7_isNear_12 ?_
  refine j_istore_n (y := I_X7_isNear) (ls' := [(3, .int (v3 - v9)), (0, .ref (w.2.1 + 108)), (1, .int x1), (2, .int x2)]) dX7_isNear_13 rfl (by decide) rfl ?_
  refine j_aload_n (y := I_X7_isNear) 1 dX7_isNear_14 rfl rfl ?_
  refine j_iload_n (y := I_X7_isNear) 2 dX7_isNear_15 rfl rfl ?_
  refine j_iconst (y := I_X7_isNear) (v := 1) dX7_isNear_16 (by decide) ?_
  refine j_callViR (y := I_X7_isNear) (As := [.int x1, .int (1 : Int32)]) cv_7_68 ⟨Nat.le_of_ble_eq_true rfl, Nat.le_of_ble_eq_true rfl⟩ k_108 rfl (Nat.le_of_ble_eq_true rfl) dX7_isNear_17 (c_X7_get l w x1 (1 : Int32) S) (fun v17 h17 => ?_)
  refine j_aload_n (y := I_X7_isNear) 1 dX7_isNear_20 rfl rfl ?_
  refine j_iload_n (y := I_X7_isNear) 3 dX7_isNear_21 rfl rfl ?_
  refine j_iconst (y := I_X7_isNear) (v := 1) dX7_isNear_22 (by decide) ?_
  refine j_callViR (y := I_X7_isNear) (As := [.int x2, .int (1 : Int32)]) cv_7_68 ⟨Nat.le_of_ble_eq_true rfl, Nat.le_of_ble_eq_true rfl⟩ k_108 rfl (Nat.le_of_ble_eq_true rfl) dX7_isNear_23 (c_X7_get l w x2 (1 : Int32) S) (fun v23 h23 => ?_)
  refine j_isub (y := I_X7_isNear) dX7_isNear_26 ?_
  refine j_istore (y := I_X7_isNear) (ls' := [(4, .int (v17 - v23)), (3, .int (v3 - v9)), (0, .ref (w.2.1 + 108)), (1, .int x1), (2, .int x2)]) dX7_isNear_27 (by decide) rfl ?_
  refine j_iload_n (y := I_X7_isNear) 1 dX7_isNear_29 rfl rfl ?_
  refine j_aload_n (y := I_X7_isNear) 2 dX7_isNear_30 rfl rfl ?_
  refine j_getR (y := I_X7_isNear) (j := 109) fl_7_7 k_108 rfl rfl dX7_isNear_31 ?_
  refine j_sipush (y := I_X7_isNear) (v := 783) dX7_isNear_34 (by decide) ?_
  refine j_ialdL (y := I_X7_isNear) k_109 (by decide) dX7_isNear_37 ?_
  refine j_ineg (y := I_X7_isNear) dX7_isNear_38 ?_
  refine j_aload_n (y := I_X7_isNear) 2 dX7_isNear_39 rfl rfl ?_
  refine j_getR (y := I_X7_isNear) (j := 109) fl_7_7 k_108 rfl rfl dX7_isNear_40 ?_
  refine j_sipush (y := I_X7_isNear) (v := 783) dX7_isNear_43 (by decide) ?_
  refine j_ialdL (y := I_X7_isNear) k_109 (by decide) dX7_isNear_46 ?_
  refine j_callSzT (y := I_X7_isNear) (As := [.int (v3 - v9), .int (-(rd S 109 (ix (783 : Int32)))), .int (rd S 109 (ix (783 : Int32)))]) cv_7_64 ⟨Nat.le_of_ble_eq_true rfl, Nat.le_of_ble_eq_true rfl⟩ rfl (Nat.le_of_ble_eq_true rfl) dX7_isNear_47 (c_X7_in l w (v3 - v9) (-(rd S 109 (ix (783 : Int32)))) (rd S 109 (ix (783 : Int32))) S) ?_
  refine j_if_eqB (y := I_X7_isNear) 82 dX7_isNear_50 (by decide) (fun h50 => ?_) (fun h50 => ?_)
  · refine j_iconst (y := I_X7_isNear) (v := 0) dX7_isNear_82 (by decide) ?_
    exact j_zret (y := I_X7_isNear) (q := false) rfl rfl dX7_isNear_83 rfl
  · refine j_iload (y := I_X7_isNear) 0 dX7_isNear_53 rfl ?_
    refine j_aload_n (y := I_X7_isNear) 2 dX7_isNear_55 rfl rfl ?_
    refine j_getR (y := I_X7_isNear) (j := 109) fl_7_7 k_108 rfl rfl dX7_isNear_56 ?_
    refine j_sipush (y := I_X7_isNear) (v := 783) dX7_isNear_59 (by decide) ?_
    refine j_ialdL (y := I_X7_isNear) k_109 (by decide) dX7_isNear_62 ?_
    refine j_ineg (y := I_X7_isNear) dX7_isNear_63 ?_
    refine j_aload_n (y := I_X7_isNear) 2 dX7_isNear_64 rfl rfl ?_
    refine j_getR (y := I_X7_isNear) (j := 109) fl_7_7 k_108 rfl rfl dX7_isNear_65 ?_
    refine j_sipush (y := I_X7_isNear) (v := 783) dX7_isNear_68 (by decide) ?_
    refine j_ialdL (y := I_X7_isNear) k_109 (by decide) dX7_isNear_71 ?_
    refine j_callSzT (y := I_X7_isNear) (As := [.int (v17 - v23), .int (-(rd S 109 (ix (783 : Int32)))), .int (rd S 109 (ix (783 : Int32)))]) cv_7_64 ⟨Nat.le_of_ble_eq_true rfl, Nat.le_of_ble_eq_true rfl⟩ rfl (Nat.le_of_ble_eq_true rfl) dX7_isNear_72 (c_X7_in l w (v17 - v23) (-(rd S 109 (ix (783 : Int32)))) (rd S 109 (ix (783 : Int32))) S) ?_
    refine j_if_eqB (y := I_X7_isNear) 82 dX7_isNear_75 (by decide) (fun h75 => ?_) (fun h75 => ?_)
    · refine j_iconst (y := I_X7_isNear) (v := 0) dX7_isNear_82 (by decide) ?_
      exact j_zret (y := I_X7_isNear) (q := false) rfl rfl dX7_isNear_83 rfl
    · refine j_iconst (y := I_X7_isNear) (v := 1) dX7_isNear_78 (by decide) ?_
      refine j_goto (y := I_X7_isNear) 83 dX7_isNear_79 (by decide) ?_
      exact j_zret (y := I_X7_isNear) (q := true) rfl rfl dX7_isNear_83 rfl
theorem c_X7_isNear (l : Launch) (w : Wd) (x1 : Int32) (x2 : Int32) (S : St)  : ∀ v, f_X7_isNear x1 x2 S = some v → CtS l w I_X7_isNear [.ref (w.2.1 + 108), .int x1, .int x2] S S (some (.int (b2i v))) := fun v h => J.ct (av := [.ref (w.2.1 + 108), .int x1, .int x2]) (Nat.le_of_ble_eq_true rfl) pn_7 (m_X7_isNear l w x1 x2 S ) h
abbrev I_X7_best : MI := (yX7_best, cX7_best, 10, some .int, { frames := 8, cells := 0, slots := 0, locals := 186 })
theorem dX7_best_0 : decode cX7_best 0 = .ok (.iconst 0, 1) := by decide +kernel
theorem dX7_best_1 : decode cX7_best 1 = .ok (.istore_n 1, 1) := by decide +kernel
theorem dX7_best_2 : decode cX7_best 2 = .ok (.iconst 0, 1) := by decide +kernel
theorem dX7_best_3 : decode cX7_best 3 = .ok (.istore_n 2, 1) := by decide +kernel
theorem dX7_best_4 : decode cX7_best 4 = .ok (.iload_n 2, 1) := by decide +kernel
theorem dX7_best_5 : decode cX7_best 5 = .ok (.bipush 12, 2) := by decide +kernel
theorem dX7_best_7 : decode cX7_best 7 = .ok (.if_icmp .ge 32, 3) := by decide +kernel
theorem dX7_best_10 : decode cX7_best 10 = .ok (.aload_n 0, 1) := by decide +kernel
theorem dX7_best_11 : decode cX7_best 11 = .ok (.iload_n 2, 1) := by decide +kernel
theorem dX7_best_12 : decode cX7_best 12 = .ok (.iconst 2, 1) := by decide +kernel
theorem dX7_best_13 : decode cX7_best 13 = .ok (.invokevirtual 68, 3) := by decide +kernel
theorem dX7_best_16 : decode cX7_best 16 = .ok (.iconst 1, 1) := by decide +kernel
theorem dX7_best_17 : decode cX7_best 17 = .ok (.if_icmp .eq 6, 3) := by decide +kernel
theorem dX7_best_20 : decode cX7_best 20 = .ok (.goto 13, 3) := by decide +kernel
theorem dX7_best_23 : decode cX7_best 23 = .ok (.aload_n 0, 1) := by decide +kernel
theorem dX7_best_24 : decode cX7_best 24 = .ok (.getfield 48, 3) := by decide +kernel
theorem dX7_best_27 : decode cX7_best 27 = .ok (.iload_n 1, 1) := by decide +kernel
theorem dX7_best_28 : decode cX7_best 28 = .ok (.iload_n 2, 1) := by decide +kernel
theorem dX7_best_29 : decode cX7_best 29 = .ok (.iastore, 1) := by decide +kernel
theorem dX7_best_30 : decode cX7_best 30 = .ok (.iinc 1 1, 3) := by decide +kernel
theorem dX7_best_33 : decode cX7_best 33 = .ok (.iinc 2 1, 3) := by decide +kernel
theorem dX7_best_36 : decode cX7_best 36 = .ok (.goto (-32), 3) := by decide +kernel
theorem dX7_best_39 : decode cX7_best 39 = .ok (.aload_n 0, 1) := by decide +kernel
theorem dX7_best_40 : decode cX7_best 40 = .ok (.getfield 7, 3) := by decide +kernel
theorem dX7_best_43 : decode cX7_best 43 = .ok (.sipush 782, 3) := by decide +kernel
theorem dX7_best_46 : decode cX7_best 46 = .ok (.iaload, 1) := by decide +kernel
theorem dX7_best_47 : decode cX7_best 47 = .ok (.istore_n 2, 1) := by decide +kernel
theorem dX7_best_48 : decode cX7_best 48 = .ok (.iload_n 2, 1) := by decide +kernel
theorem dX7_best_49 : decode cX7_best 49 = .ok (.ifCond .eq 7, 3) := by decide +kernel
theorem dX7_best_52 : decode cX7_best 52 = .ok (.iload_n 1, 1) := by decide +kernel
theorem dX7_best_53 : decode cX7_best 53 = .ok (.ifCond .ne 10, 3) := by decide +kernel
theorem dX7_best_56 : decode cX7_best 56 = .ok (.aload_n 0, 1) := by decide +kernel
theorem dX7_best_57 : decode cX7_best 57 = .ok (.bipush (-6), 2) := by decide +kernel
theorem dX7_best_59 : decode cX7_best 59 = .ok (.invokevirtual 72, 3) := by decide +kernel
theorem dX7_best_62 : decode cX7_best 62 = .ok (.ireturn, 1) := by decide +kernel
theorem dX7_best_63 : decode cX7_best 63 = .ok (.lconst 1, 1) := by decide +kernel
theorem dX7_best_64 : decode cX7_best 64 = .ok (.lstore_n 3, 1) := by decide +kernel
theorem dX7_best_65 : decode cX7_best 65 = .ok (.iconst 0, 1) := by decide +kernel
theorem dX7_best_66 : decode cX7_best 66 = .ok (.istore 5, 2) := by decide +kernel
theorem dX7_best_68 : decode cX7_best 68 = .ok (.iload 5, 2) := by decide +kernel
theorem dX7_best_70 : decode cX7_best 70 = .ok (.iload_n 1, 1) := by decide +kernel
theorem dX7_best_71 : decode cX7_best 71 = .ok (.if_icmp .ge 14, 3) := by decide +kernel
theorem dX7_best_74 : decode cX7_best 74 = .ok (.lload_n 3, 1) := by decide +kernel
theorem dX7_best_75 : decode cX7_best 75 = .ok (.iload_n 2, 1) := by decide +kernel
theorem dX7_best_76 : decode cX7_best 76 = .ok (.i2l, 1) := by decide +kernel
theorem dX7_best_77 : decode cX7_best 77 = .ok (.lmul, 1) := by decide +kernel
theorem dX7_best_78 : decode cX7_best 78 = .ok (.lstore_n 3, 1) := by decide +kernel
theorem dX7_best_79 : decode cX7_best 79 = .ok (.iinc 5 1, 3) := by decide +kernel
theorem dX7_best_82 : decode cX7_best 82 = .ok (.goto (-14), 3) := by decide +kernel
theorem dX7_best_85 : decode cX7_best 85 = .ok (.lload_n 3, 1) := by decide +kernel
theorem dX7_best_86 : decode cX7_best 86 = .ok (.ldc2_w 201, 3) := by decide +kernel
theorem dX7_best_89 : decode cX7_best 89 = .ok (.lcmp, 1) := by decide +kernel
theorem dX7_best_90 : decode cX7_best 90 = .ok (.ifCond .le 10, 3) := by decide +kernel
theorem dX7_best_93 : decode cX7_best 93 = .ok (.aload_n 0, 1) := by decide +kernel
theorem dX7_best_94 : decode cX7_best 94 = .ok (.bipush (-8), 2) := by decide +kernel
theorem dX7_best_96 : decode cX7_best 96 = .ok (.invokevirtual 72, 3) := by decide +kernel
theorem dX7_best_99 : decode cX7_best 99 = .ok (.ireturn, 1) := by decide +kernel
theorem dX7_best_100 : decode cX7_best 100 = .ok (.iconst 0, 1) := by decide +kernel
theorem dX7_best_101 : decode cX7_best 101 = .ok (.istore 5, 2) := by decide +kernel
theorem dX7_best_103 : decode cX7_best 103 = .ok (.iload 5, 2) := by decide +kernel
theorem dX7_best_105 : decode cX7_best 105 = .ok (.iload_n 2, 1) := by decide +kernel
theorem dX7_best_106 : decode cX7_best 106 = .ok (.if_icmp .ge 45, 3) := by decide +kernel
theorem dX7_best_109 : decode cX7_best 109 = .ok (.iconst 0, 1) := by decide +kernel
theorem dX7_best_110 : decode cX7_best 110 = .ok (.istore 6, 2) := by decide +kernel
theorem dX7_best_112 : decode cX7_best 112 = .ok (.iload 6, 2) := by decide +kernel
theorem dX7_best_114 : decode cX7_best 114 = .ok (.iload_n 2, 1) := by decide +kernel
theorem dX7_best_115 : decode cX7_best 115 = .ok (.if_icmp .ge 30, 3) := by decide +kernel
theorem dX7_best_118 : decode cX7_best 118 = .ok (.aload_n 0, 1) := by decide +kernel
theorem dX7_best_119 : decode cX7_best 119 = .ok (.getfield 54, 3) := by decide +kernel
theorem dX7_best_122 : decode cX7_best 122 = .ok (.bipush 6, 2) := by decide +kernel
theorem dX7_best_124 : decode cX7_best 124 = .ok (.iload 5, 2) := by decide +kernel
theorem dX7_best_126 : decode cX7_best 126 = .ok (.imul, 1) := by decide +kernel
theorem dX7_best_127 : decode cX7_best 127 = .ok (.iload 6, 2) := by decide +kernel
theorem dX7_best_129 : decode cX7_best 129 = .ok (.iadd, 1) := by decide +kernel
theorem dX7_best_130 : decode cX7_best 130 = .ok (.aload_n 0, 1) := by decide +kernel
theorem dX7_best_131 : decode cX7_best 131 = .ok (.iload 5, 2) := by decide +kernel
theorem dX7_best_133 : decode cX7_best 133 = .ok (.iload 6, 2) := by decide +kernel
theorem dX7_best_135 : decode cX7_best 135 = .ok (.invokevirtual 198, 3) := by decide +kernel
theorem dX7_best_138 : decode cX7_best 138 = .ok (.bastore, 1) := by decide +kernel
theorem dX7_best_139 : decode cX7_best 139 = .ok (.iinc 6 1, 3) := by decide +kernel
theorem dX7_best_142 : decode cX7_best 142 = .ok (.goto (-30), 3) := by decide +kernel
theorem dX7_best_145 : decode cX7_best 145 = .ok (.iinc 5 1, 3) := by decide +kernel
theorem dX7_best_148 : decode cX7_best 148 = .ok (.goto (-45), 3) := by decide +kernel
theorem dX7_best_151 : decode cX7_best 151 = .ok (.iconst 0, 1) := by decide +kernel
theorem dX7_best_152 : decode cX7_best 152 = .ok (.istore 5, 2) := by decide +kernel
theorem dX7_best_154 : decode cX7_best 154 = .ok (.iload 5, 2) := by decide +kernel
theorem dX7_best_156 : decode cX7_best 156 = .ok (.iload_n 1, 1) := by decide +kernel
theorem dX7_best_157 : decode cX7_best 157 = .ok (.if_icmp .ge 70, 3) := by decide +kernel
theorem dX7_best_160 : decode cX7_best 160 = .ok (.iconst 0, 1) := by decide +kernel
theorem dX7_best_161 : decode cX7_best 161 = .ok (.istore 6, 2) := by decide +kernel
theorem dX7_best_163 : decode cX7_best 163 = .ok (.iload 6, 2) := by decide +kernel
theorem dX7_best_165 : decode cX7_best 165 = .ok (.iload_n 1, 1) := by decide +kernel
theorem dX7_best_166 : decode cX7_best 166 = .ok (.if_icmp .ge 55, 3) := by decide +kernel
theorem dX7_best_169 : decode cX7_best 169 = .ok (.aload_n 0, 1) := by decide +kernel
theorem dX7_best_170 : decode cX7_best 170 = .ok (.getfield 57, 3) := by decide +kernel
theorem dX7_best_173 : decode cX7_best 173 = .ok (.bipush 12, 2) := by decide +kernel
theorem dX7_best_175 : decode cX7_best 175 = .ok (.iload 5, 2) := by decide +kernel
theorem dX7_best_177 : decode cX7_best 177 = .ok (.imul, 1) := by decide +kernel
theorem dX7_best_178 : decode cX7_best 178 = .ok (.iload 6, 2) := by decide +kernel
theorem dX7_best_180 : decode cX7_best 180 = .ok (.iadd, 1) := by decide +kernel
theorem dX7_best_181 : decode cX7_best 181 = .ok (.iload 5, 2) := by decide +kernel
theorem dX7_best_183 : decode cX7_best 183 = .ok (.iload 6, 2) := by decide +kernel
theorem dX7_best_185 : decode cX7_best 185 = .ok (.if_icmp .eq 28, 3) := by decide +kernel
theorem dX7_best_188 : decode cX7_best 188 = .ok (.aload_n 0, 1) := by decide +kernel
theorem dX7_best_189 : decode cX7_best 189 = .ok (.aload_n 0, 1) := by decide +kernel
theorem dX7_best_190 : decode cX7_best 190 = .ok (.getfield 48, 3) := by decide +kernel
theorem dX7_best_193 : decode cX7_best 193 = .ok (.iload 5, 2) := by decide +kernel
theorem dX7_best_195 : decode cX7_best 195 = .ok (.iaload, 1) := by decide +kernel
theorem dX7_best_196 : decode cX7_best 196 = .ok (.aload_n 0, 1) := by decide +kernel
theorem dX7_best_197 : decode cX7_best 197 = .ok (.getfield 48, 3) := by decide +kernel
theorem dX7_best_200 : decode cX7_best 200 = .ok (.iload 6, 2) := by decide +kernel
theorem dX7_best_202 : decode cX7_best 202 = .ok (.iaload, 1) := by decide +kernel
theorem dX7_best_203 : decode cX7_best 203 = .ok (.invokevirtual 153, 3) := by decide +kernel
theorem dX7_best_206 : decode cX7_best 206 = .ok (.ifCond .eq 7, 3) := by decide +kernel
theorem dX7_best_209 : decode cX7_best 209 = .ok (.iconst 1, 1) := by decide +kernel
theorem dX7_best_210 : decode cX7_best 210 = .ok (.goto 4, 3) := by decide +kernel
theorem dX7_best_213 : decode cX7_best 213 = .ok (.iconst 0, 1) := by decide +kernel
theorem dX7_best_214 : decode cX7_best 214 = .ok (.bastore, 1) := by decide +kernel
theorem dX7_best_215 : decode cX7_best 215 = .ok (.iinc 6 1, 3) := by decide +kernel
theorem dX7_best_218 : decode cX7_best 218 = .ok (.goto (-55), 3) := by decide +kernel
theorem dX7_best_221 : decode cX7_best 221 = .ok (.iinc 5 1, 3) := by decide +kernel
theorem dX7_best_224 : decode cX7_best 224 = .ok (.goto (-70), 3) := by decide +kernel
theorem dX7_best_227 : decode cX7_best 227 = .ok (.iconst 0, 1) := by decide +kernel
theorem dX7_best_228 : decode cX7_best 228 = .ok (.istore 5, 2) := by decide +kernel
theorem dX7_best_230 : decode cX7_best 230 = .ok (.iload 5, 2) := by decide +kernel
theorem dX7_best_232 : decode cX7_best 232 = .ok (.iload_n 1, 1) := by decide +kernel
theorem dX7_best_233 : decode cX7_best 233 = .ok (.if_icmp .ge 17, 3) := by decide +kernel
theorem dX7_best_236 : decode cX7_best 236 = .ok (.aload_n 0, 1) := by decide +kernel
theorem dX7_best_237 : decode cX7_best 237 = .ok (.getfield 51, 3) := by decide +kernel
theorem dX7_best_240 : decode cX7_best 240 = .ok (.iload 5, 2) := by decide +kernel
theorem dX7_best_242 : decode cX7_best 242 = .ok (.iconst 0, 1) := by decide +kernel
theorem dX7_best_243 : decode cX7_best 243 = .ok (.iastore, 1) := by decide +kernel
theorem dX7_best_244 : decode cX7_best 244 = .ok (.iinc 5 1, 3) := by decide +kernel
theorem dX7_best_247 : decode cX7_best 247 = .ok (.goto (-17), 3) := by decide +kernel
theorem dX7_best_250 : decode cX7_best 250 = .ok (.iconst (-1), 1) := by decide +kernel
theorem dX7_best_251 : decode cX7_best 251 = .ok (.istore 5, 2) := by decide +kernel
theorem dX7_best_253 : decode cX7_best 253 = .ok (.iconst 1, 1) := by decide +kernel
theorem dX7_best_254 : decode cX7_best 254 = .ok (.istore 6, 2) := by decide +kernel
theorem dX7_best_256 : decode cX7_best 256 = .ok (.iload 6, 2) := by decide +kernel
theorem dX7_best_258 : decode cX7_best 258 = .ok (.ifCond .eq 201, 3) := by decide +kernel
theorem dX7_best_261 : decode cX7_best 261 = .ok (.iconst 0, 1) := by decide +kernel
theorem dX7_best_262 : decode cX7_best 262 = .ok (.istore 7, 2) := by decide +kernel
theorem dX7_best_264 : decode cX7_best 264 = .ok (.iconst 0, 1) := by decide +kernel
theorem dX7_best_265 : decode cX7_best 265 = .ok (.istore 8, 2) := by decide +kernel
theorem dX7_best_267 : decode cX7_best 267 = .ok (.iload 8, 2) := by decide +kernel
theorem dX7_best_269 : decode cX7_best 269 = .ok (.iload_n 1, 1) := by decide +kernel
theorem dX7_best_270 : decode cX7_best 270 = .ok (.if_icmp .ge 76, 3) := by decide +kernel
theorem dX7_best_273 : decode cX7_best 273 = .ok (.iconst 0, 1) := by decide +kernel
theorem dX7_best_274 : decode cX7_best 274 = .ok (.istore 9, 2) := by decide +kernel
theorem dX7_best_276 : decode cX7_best 276 = .ok (.iload 9, 2) := by decide +kernel
theorem dX7_best_278 : decode cX7_best 278 = .ok (.iload_n 1, 1) := by decide +kernel
theorem dX7_best_279 : decode cX7_best 279 = .ok (.if_icmp .ge 61, 3) := by decide +kernel
theorem dX7_best_282 : decode cX7_best 282 = .ok (.iload 7, 2) := by decide +kernel
theorem dX7_best_284 : decode cX7_best 284 = .ok (.aload_n 0, 1) := by decide +kernel
theorem dX7_best_285 : decode cX7_best 285 = .ok (.getfield 57, 3) := by decide +kernel
theorem dX7_best_288 : decode cX7_best 288 = .ok (.bipush 12, 2) := by decide +kernel
theorem dX7_best_290 : decode cX7_best 290 = .ok (.iload 8, 2) := by decide +kernel
theorem dX7_best_292 : decode cX7_best 292 = .ok (.imul, 1) := by decide +kernel
theorem dX7_best_293 : decode cX7_best 293 = .ok (.iload 9, 2) := by decide +kernel
theorem dX7_best_295 : decode cX7_best 295 = .ok (.iadd, 1) := by decide +kernel
theorem dX7_best_296 : decode cX7_best 296 = .ok (.baload, 1) := by decide +kernel
theorem dX7_best_297 : decode cX7_best 297 = .ok (.ifCond .eq 33, 3) := by decide +kernel
theorem dX7_best_300 : decode cX7_best 300 = .ok (.aload_n 0, 1) := by decide +kernel
theorem dX7_best_301 : decode cX7_best 301 = .ok (.getfield 54, 3) := by decide +kernel
theorem dX7_best_304 : decode cX7_best 304 = .ok (.bipush 6, 2) := by decide +kernel
theorem dX7_best_306 : decode cX7_best 306 = .ok (.aload_n 0, 1) := by decide +kernel
theorem dX7_best_307 : decode cX7_best 307 = .ok (.getfield 51, 3) := by decide +kernel
theorem dX7_best_310 : decode cX7_best 310 = .ok (.iload 8, 2) := by decide +kernel
theorem dX7_best_312 : decode cX7_best 312 = .ok (.iaload, 1) := by decide +kernel
theorem dX7_best_313 : decode cX7_best 313 = .ok (.imul, 1) := by decide +kernel
theorem dX7_best_314 : decode cX7_best 314 = .ok (.aload_n 0, 1) := by decide +kernel
theorem dX7_best_315 : decode cX7_best 315 = .ok (.getfield 51, 3) := by decide +kernel
theorem dX7_best_318 : decode cX7_best 318 = .ok (.iload 9, 2) := by decide +kernel
theorem dX7_best_320 : decode cX7_best 320 = .ok (.iaload, 1) := by decide +kernel
theorem dX7_best_321 : decode cX7_best 321 = .ok (.iadd, 1) := by decide +kernel
theorem dX7_best_322 : decode cX7_best 322 = .ok (.baload, 1) := by decide +kernel
theorem dX7_best_323 : decode cX7_best 323 = .ok (.ifCond .eq 7, 3) := by decide +kernel
theorem dX7_best_326 : decode cX7_best 326 = .ok (.iconst 1, 1) := by decide +kernel
theorem dX7_best_327 : decode cX7_best 327 = .ok (.goto 4, 3) := by decide +kernel
theorem dX7_best_330 : decode cX7_best 330 = .ok (.iconst 0, 1) := by decide +kernel
theorem dX7_best_331 : decode cX7_best 331 = .ok (.iadd, 1) := by decide +kernel
theorem dX7_best_332 : decode cX7_best 332 = .ok (.istore 7, 2) := by decide +kernel
theorem dX7_best_334 : decode cX7_best 334 = .ok (.iinc 9 1, 3) := by decide +kernel
theorem dX7_best_337 : decode cX7_best 337 = .ok (.goto (-61), 3) := by decide +kernel
theorem dX7_best_340 : decode cX7_best 340 = .ok (.iinc 8 1, 3) := by decide +kernel
theorem dX7_best_343 : decode cX7_best 343 = .ok (.goto (-76), 3) := by decide +kernel
theorem dX7_best_346 : decode cX7_best 346 = .ok (.iload 7, 2) := by decide +kernel
theorem dX7_best_348 : decode cX7_best 348 = .ok (.iload 5, 2) := by decide +kernel
theorem dX7_best_350 : decode cX7_best 350 = .ok (.if_icmp .le 41, 3) := by decide +kernel
theorem dX7_best_353 : decode cX7_best 353 = .ok (.iload 7, 2) := by decide +kernel
theorem dX7_best_355 : decode cX7_best 355 = .ok (.istore 5, 2) := by decide +kernel
theorem dX7_best_357 : decode cX7_best 357 = .ok (.iconst 0, 1) := by decide +kernel
theorem dX7_best_358 : decode cX7_best 358 = .ok (.istore 8, 2) := by decide +kernel
theorem dX7_best_360 : decode cX7_best 360 = .ok (.iload 8, 2) := by decide +kernel
theorem dX7_best_362 : decode cX7_best 362 = .ok (.iload_n 1, 1) := by decide +kernel
theorem dX7_best_363 : decode cX7_best 363 = .ok (.if_icmp .ge 28, 3) := by decide +kernel
theorem dX7_best_366 : decode cX7_best 366 = .ok (.aload_n 0, 1) := by decide +kernel
theorem dX7_best_367 : decode cX7_best 367 = .ok (.getfield 32, 3) := by decide +kernel
theorem dX7_best_370 : decode cX7_best 370 = .ok (.aload_n 0, 1) := by decide +kernel
theorem dX7_best_371 : decode cX7_best 371 = .ok (.getfield 48, 3) := by decide +kernel
theorem dX7_best_374 : decode cX7_best 374 = .ok (.iload 8, 2) := by decide +kernel
theorem dX7_best_376 : decode cX7_best 376 = .ok (.iaload, 1) := by decide +kernel
theorem dX7_best_377 : decode cX7_best 377 = .ok (.aload_n 0, 1) := by decide +kernel
theorem dX7_best_378 : decode cX7_best 378 = .ok (.getfield 51, 3) := by decide +kernel
theorem dX7_best_381 : decode cX7_best 381 = .ok (.iload 8, 2) := by decide +kernel
theorem dX7_best_383 : decode cX7_best 383 = .ok (.iaload, 1) := by decide +kernel
theorem dX7_best_384 : decode cX7_best 384 = .ok (.iastore, 1) := by decide +kernel
theorem dX7_best_385 : decode cX7_best 385 = .ok (.iinc 8 1, 3) := by decide +kernel
theorem dX7_best_388 : decode cX7_best 388 = .ok (.goto (-28), 3) := by decide +kernel
theorem dX7_best_391 : decode cX7_best 391 = .ok (.iload_n 1, 1) := by decide +kernel
theorem dX7_best_392 : decode cX7_best 392 = .ok (.iconst 1, 1) := by decide +kernel
theorem dX7_best_393 : decode cX7_best 393 = .ok (.isub, 1) := by decide +kernel
theorem dX7_best_394 : decode cX7_best 394 = .ok (.istore 8, 2) := by decide +kernel
theorem dX7_best_396 : decode cX7_best 396 = .ok (.iload 8, 2) := by decide +kernel
theorem dX7_best_398 : decode cX7_best 398 = .ok (.ifCond .lt 30, 3) := by decide +kernel
theorem dX7_best_401 : decode cX7_best 401 = .ok (.aload_n 0, 1) := by decide +kernel
theorem dX7_best_402 : decode cX7_best 402 = .ok (.getfield 51, 3) := by decide +kernel
theorem dX7_best_405 : decode cX7_best 405 = .ok (.iload 8, 2) := by decide +kernel
theorem dX7_best_407 : decode cX7_best 407 = .ok (.iaload, 1) := by decide +kernel
theorem dX7_best_408 : decode cX7_best 408 = .ok (.iload_n 2, 1) := by decide +kernel
theorem dX7_best_409 : decode cX7_best 409 = .ok (.iconst 1, 1) := by decide +kernel
theorem dX7_best_410 : decode cX7_best 410 = .ok (.isub, 1) := by decide +kernel
theorem dX7_best_411 : decode cX7_best 411 = .ok (.if_icmp .ne 17, 3) := by decide +kernel
theorem dX7_best_414 : decode cX7_best 414 = .ok (.aload_n 0, 1) := by decide +kernel
theorem dX7_best_415 : decode cX7_best 415 = .ok (.getfield 51, 3) := by decide +kernel
theorem dX7_best_418 : decode cX7_best 418 = .ok (.iload 8, 2) := by decide +kernel
theorem dX7_best_420 : decode cX7_best 420 = .ok (.iconst 0, 1) := by decide +kernel
theorem dX7_best_421 : decode cX7_best 421 = .ok (.iastore, 1) := by decide +kernel
theorem dX7_best_422 : decode cX7_best 422 = .ok (.iinc 8 (-1), 3) := by decide +kernel
theorem dX7_best_425 : decode cX7_best 425 = .ok (.goto (-29), 3) := by decide +kernel
theorem dX7_best_428 : decode cX7_best 428 = .ok (.iload 8, 2) := by decide +kernel
theorem dX7_best_430 : decode cX7_best 430 = .ok (.ifCond .lt 7, 3) := by decide +kernel
theorem dX7_best_433 : decode cX7_best 433 = .ok (.iconst 1, 1) := by decide +kernel
theorem dX7_best_434 : decode cX7_best 434 = .ok (.goto 4, 3) := by decide +kernel
theorem dX7_best_437 : decode cX7_best 437 = .ok (.iconst 0, 1) := by decide +kernel
theorem dX7_best_438 : decode cX7_best 438 = .ok (.istore 6, 2) := by decide +kernel
theorem dX7_best_440 : decode cX7_best 440 = .ok (.iload 6, 2) := by decide +kernel
theorem dX7_best_442 : decode cX7_best 442 = .ok (.ifCond .eq 14, 3) := by decide +kernel
theorem dX7_best_445 : decode cX7_best 445 = .ok (.aload_n 0, 1) := by decide +kernel
theorem dX7_best_446 : decode cX7_best 446 = .ok (.getfield 51, 3) := by decide +kernel
theorem dX7_best_449 : decode cX7_best 449 = .ok (.iload 8, 2) := by decide +kernel
theorem dX7_best_451 : decode cX7_best 451 = .ok (.dup2, 1) := by decide +kernel
theorem dX7_best_452 : decode cX7_best 452 = .ok (.iaload, 1) := by decide +kernel
theorem dX7_best_453 : decode cX7_best 453 = .ok (.iconst 1, 1) := by decide +kernel
theorem dX7_best_454 : decode cX7_best 454 = .ok (.iadd, 1) := by decide +kernel
theorem dX7_best_455 : decode cX7_best 455 = .ok (.iastore, 1) := by decide +kernel
theorem dX7_best_456 : decode cX7_best 456 = .ok (.goto (-200), 3) := by decide +kernel
theorem dX7_best_459 : decode cX7_best 459 = .ok (.aload_n 0, 1) := by decide +kernel
theorem dX7_best_460 : decode cX7_best 460 = .ok (.iconst 1, 1) := by decide +kernel
theorem dX7_best_461 : decode cX7_best 461 = .ok (.putfield 76, 3) := by decide +kernel
theorem dX7_best_464 : decode cX7_best 464 = .ok (.iload 5, 2) := by decide +kernel
theorem dX7_best_466 : decode cX7_best 466 = .ok (.ireturn, 1) := by decide +kernel
theorem cv_7_153 : CV RX7 153 2 7 I_X7_isNear := ⟨⟨⟨gm 1029 (by decide +kernel) rfl, gm 1032 (by decide +kernel) rfl, gm 44 (by decide +kernel) rfl, mh_7.1, mh_7.2, by decide +kernel⟩, gm 1031 (by decide +kernel) rfl, gm 24 (by decide +kernel) rfl⟩, ⟨_, _, rfl⟩, rfl, rfl⟩
theorem cv_7_198 : CV RX7 198 2 7 I_X7_fits := ⟨⟨⟨gm 1104 (by decide +kernel) rfl, gm 1107 (by decide +kernel) rfl, gm 44 (by decide +kernel) rfl, mh_7.1, mh_7.2, by decide +kernel⟩, gm 1106 (by decide +kernel) rfl, gm 34 (by decide +kernel) rfl⟩, ⟨_, _, rfl⟩, rfl, rfl⟩
def f_X7_best_L4 (fuel : Nat) (K : Int32 → St → Option (Int32 × St)) (a4_1 : Int32) (a4_2 : Int32) (S4 : St) : Option (Int32 × St) := match fuel with
  | 0 => none
  | n + 1 => if a4_2 < (12 : Int32) then ((f_X7_get a4_2 (2 : Int32) S4).bind fun v13 => (if v13 = (1 : Int32) then (if inb a4_1 12 = true then (f_X7_best_L4 n K (a4_1 + (1 : Int32)) (a4_2 + (1 : Int32)) (wr S4 121 (ix a4_1) a4_2)) else none) else (f_X7_best_L4 n K a4_1 (a4_2 + (1 : Int32)) S4))) else (K a4_1 S4)
def f_X7_best_L68 (fuel : Nat) (K : Int32 → Int32 → Int64 → St → Option (Int32 × St)) (a68_1 : Int32) (a68_2 : Int32) (a68_3 : Int64) (a68_5 : Int32) (S68 : St) : Option (Int32 × St) := match fuel with
  | 0 => none
  | n + 1 => if a68_5 < a68_1 then (f_X7_best_L68 n K a68_1 a68_2 (a68_3 * a68_2.toInt64) (a68_5 + (1 : Int32)) S68) else (K a68_1 a68_2 a68_3 S68)
def f_X7_best_L112 (fuel : Nat) (K : Int32 → Int32 → Int32 → St → Option (Int32 × St)) (a112_1 : Int32) (a112_2 : Int32) (a112_5 : Int32) (a112_6 : Int32) (S112 : St) : Option (Int32 × St) := match fuel with
  | 0 => none
  | n + 1 => if a112_6 < a112_2 then ((f_X7_fits a112_5 a112_6 S112).bind fun v135 => (if inb (((6 : Int32) * a112_5) + a112_6) 36 = true then (f_X7_best_L112 n K a112_1 a112_2 a112_5 (a112_6 + (1 : Int32)) (wr S112 123 (ix (((6 : Int32) * a112_5) + a112_6)) (b2i v135))) else none)) else (K a112_1 a112_2 a112_5 S112)
def f_X7_best_L103 (fuel : Nat) (K : Int32 → Int32 → St → Option (Int32 × St)) (a103_1 : Int32) (a103_2 : Int32) (a103_5 : Int32) (S103 : St) : Option (Int32 × St) := match fuel with
  | 0 => none
  | n + 1 => if a103_5 < a103_2 then (f_X7_best_L112 6000 (fun e145_1 e145_2 e145_5 T145 => (f_X7_best_L103 n K e145_1 e145_2 (e145_5 + (1 : Int32)) T145)) a103_1 a103_2 a103_5 (0 : Int32) S103) else (K a103_1 a103_2 S103)
def f_X7_best_L163 (fuel : Nat) (K : Int32 → Int32 → Int32 → St → Option (Int32 × St)) (a163_1 : Int32) (a163_2 : Int32) (a163_5 : Int32) (a163_6 : Int32) (S163 : St) : Option (Int32 × St) := match fuel with
  | 0 => none
  | n + 1 => if a163_6 < a163_1 then (if a163_5 = a163_6 then (if inb (((12 : Int32) * a163_5) + a163_6) 144 = true then (f_X7_best_L163 n K a163_1 a163_2 a163_5 (a163_6 + (1 : Int32)) (wr S163 124 (ix (((12 : Int32) * a163_5) + a163_6)) (0 : Int32))) else none) else (if inb a163_5 12 = true then (if inb a163_6 12 = true then ((f_X7_isNear (rd S163 121 (ix a163_5)) (rd S163 121 (ix a163_6)) S163).bind fun v203 => (if v203 = true then (if inb (((12 : Int32) * a163_5) + a163_6) 144 = true then (f_X7_best_L163 n K a163_1 a163_2 a163_5 (a163_6 + (1 : Int32)) (wr S163 124 (ix (((12 : Int32) * a163_5) + a163_6)) (1 : Int32))) else none) else (if inb (((12 : Int32) * a163_5) + a163_6) 144 = true then (f_X7_best_L163 n K a163_1 a163_2 a163_5 (a163_6 + (1 : Int32)) (wr S163 124 (ix (((12 : Int32) * a163_5) + a163_6)) (0 : Int32))) else none))) else none) else none)) else (K a163_1 a163_2 a163_5 S163)
def f_X7_best_L154 (fuel : Nat) (K : Int32 → Int32 → St → Option (Int32 × St)) (a154_1 : Int32) (a154_2 : Int32) (a154_5 : Int32) (S154 : St) : Option (Int32 × St) := match fuel with
  | 0 => none
  | n + 1 => if a154_5 < a154_1 then (f_X7_best_L163 6000 (fun e221_1 e221_2 e221_5 T221 => (f_X7_best_L154 n K e221_1 e221_2 (e221_5 + (1 : Int32)) T221)) a154_1 a154_2 a154_5 (0 : Int32) S154) else (K a154_1 a154_2 S154)
def f_X7_best_L230 (fuel : Nat) (K : Int32 → Int32 → St → Option (Int32 × St)) (a230_1 : Int32) (a230_2 : Int32) (a230_5 : Int32) (S230 : St) : Option (Int32 × St) := match fuel with
  | 0 => none
  | n + 1 => if a230_5 < a230_1 then (if inb a230_5 12 = true then (f_X7_best_L230 n K a230_1 a230_2 (a230_5 + (1 : Int32)) (wr S230 122 (ix a230_5) (0 : Int32))) else none) else (K a230_1 a230_2 S230)
def f_X7_best_L276 (fuel : Nat) (K : Int32 → Int32 → Int32 → Int32 → Int32 → St → Option (Int32 × St)) (a276_1 : Int32) (a276_2 : Int32) (a276_5 : Int32) (a276_7 : Int32) (a276_8 : Int32) (a276_9 : Int32) (S276 : St) : Option (Int32 × St) := match fuel with
  | 0 => none
  | n + 1 => if a276_9 < a276_1 then (if inb (((12 : Int32) * a276_8) + a276_9) 144 = true then (if (rd S276 124 (ix (((12 : Int32) * a276_8) + a276_9))) = 0 then (f_X7_best_L276 n K a276_1 a276_2 a276_5 (a276_7 + (0 : Int32)) a276_8 (a276_9 + (1 : Int32)) S276) else (if inb a276_8 12 = true then (if inb a276_9 12 = true then (if inb (((6 : Int32) * (rd S276 122 (ix a276_8))) + (rd S276 122 (ix a276_9))) 36 = true then (if (rd S276 123 (ix (((6 : Int32) * (rd S276 122 (ix a276_8))) + (rd S276 122 (ix a276_9))))) = 0 then (f_X7_best_L276 n K a276_1 a276_2 a276_5 (a276_7 + (0 : Int32)) a276_8 (a276_9 + (1 : Int32)) S276) else (f_X7_best_L276 n K a276_1 a276_2 a276_5 (a276_7 + (1 : Int32)) a276_8 (a276_9 + (1 : Int32)) S276)) else none) else none) else none)) else none) else (K a276_1 a276_2 a276_5 a276_7 a276_8 S276)
def f_X7_best_L267 (fuel : Nat) (K : Int32 → Int32 → Int32 → Int32 → St → Option (Int32 × St)) (a267_1 : Int32) (a267_2 : Int32) (a267_5 : Int32) (a267_7 : Int32) (a267_8 : Int32) (S267 : St) : Option (Int32 × St) := match fuel with
  | 0 => none
  | n + 1 => if a267_8 < a267_1 then (f_X7_best_L276 6000 (fun e340_1 e340_2 e340_5 e340_7 e340_8 T340 => (f_X7_best_L267 n K e340_1 e340_2 e340_5 e340_7 (e340_8 + (1 : Int32)) T340)) a267_1 a267_2 a267_5 a267_7 a267_8 (0 : Int32) S267) else (K a267_1 a267_2 a267_5 a267_7 S267)
def f_X7_best_L396 (fuel : Nat) (K : Int32 → Int32 → Int32 → Int32 → St → Option (Int32 × St)) (a396_1 : Int32) (a396_2 : Int32) (a396_5 : Int32) (a396_8 : Int32) (S396 : St) : Option (Int32 × St) := match fuel with
  | 0 => none
  | n + 1 => if a396_8 < 0 then (K a396_1 a396_2 a396_5 a396_8 S396) else (if inb a396_8 12 = true then (if (rd S396 122 (ix a396_8)) = (a396_2 - (1 : Int32)) then (if inb a396_8 12 = true then (f_X7_best_L396 n K a396_1 a396_2 a396_5 (a396_8 + (-1 : Int32)) (wr S396 122 (ix a396_8) (0 : Int32))) else none) else (K a396_1 a396_2 a396_5 a396_8 S396)) else none)
def f_X7_best_L360 (fuel : Nat) (K : Int32 → Int32 → Int32 → St → Option (Int32 × St)) (a360_1 : Int32) (a360_2 : Int32) (a360_5 : Int32) (a360_8 : Int32) (S360 : St) : Option (Int32 × St) := match fuel with
  | 0 => none
  | n + 1 => if a360_8 < a360_1 then (if inb a360_8 12 = true then (if inb a360_8 12 = true then (if inb (rd S360 121 (ix a360_8)) 12 = true then (f_X7_best_L360 n K a360_1 a360_2 a360_5 (a360_8 + (1 : Int32)) (wr S360 116 (ix (rd S360 121 (ix a360_8))) (rd S360 122 (ix a360_8)))) else none) else none) else none) else (K a360_1 a360_2 a360_5 S360)
def f_X7_best_L256 (fuel : Nat) (K : Int32 → St → Option (Int32 × St)) (a256_1 : Int32) (a256_2 : Int32) (a256_5 : Int32) (a256_6 : Int32) (S256 : St) : Option (Int32 × St) := match fuel with
  | 0 => none
  | n + 1 => if a256_6 = 0 then (K a256_5 S256) else (f_X7_best_L267 6000 (fun e346_1 e346_2 e346_5 e346_7 T346 => (if e346_5 < e346_7 then (f_X7_best_L360 6000 (fun e391_1 e391_2 e391_5 T391 => (f_X7_best_L396 6000 (fun e428_1 e428_2 e428_5 e428_8 T428 => (if e428_8 < 0 then (if (0 : Int32) = 0 then (f_X7_best_L256 n K e428_1 e428_2 e428_5 (0 : Int32) T428) else (if inb e428_8 12 = true then (if inb e428_8 12 = true then (f_X7_best_L256 n K e428_1 e428_2 e428_5 (0 : Int32) (wr T428 122 (ix e428_8) ((rd T428 122 (ix e428_8)) + (1 : Int32)))) else none) else none)) else (if (1 : Int32) = 0 then (f_X7_best_L256 n K e428_1 e428_2 e428_5 (1 : Int32) T428) else (if inb e428_8 12 = true then (if inb e428_8 12 = true then (f_X7_best_L256 n K e428_1 e428_2 e428_5 (1 : Int32) (wr T428 122 (ix e428_8) ((rd T428 122 (ix e428_8)) + (1 : Int32)))) else none) else none)))) e391_1 e391_2 e391_5 (e391_1 - (1 : Int32)) T391)) e346_1 e346_2 e346_7 (0 : Int32) T346) else (f_X7_best_L396 6000 (fun e428_1 e428_2 e428_5 e428_8 T428 => (if e428_8 < 0 then (if (0 : Int32) = 0 then (f_X7_best_L256 n K e428_1 e428_2 e428_5 (0 : Int32) T428) else (if inb e428_8 12 = true then (if inb e428_8 12 = true then (f_X7_best_L256 n K e428_1 e428_2 e428_5 (0 : Int32) (wr T428 122 (ix e428_8) ((rd T428 122 (ix e428_8)) + (1 : Int32)))) else none) else none)) else (if (1 : Int32) = 0 then (f_X7_best_L256 n K e428_1 e428_2 e428_5 (1 : Int32) T428) else (if inb e428_8 12 = true then (if inb e428_8 12 = true then (f_X7_best_L256 n K e428_1 e428_2 e428_5 (1 : Int32) (wr T428 122 (ix e428_8) ((rd T428 122 (ix e428_8)) + (1 : Int32)))) else none) else none)))) e346_1 e346_2 e346_5 (e346_1 - (1 : Int32)) T346))) a256_1 a256_2 a256_5 (0 : Int32) (0 : Int32) S256)
def f_X7_best  (S : St) : Option (Int32 × St) := f_X7_best_L4 6000 (fun e39_1 T39 => (if (rd T39 109 (ix (782 : Int32))) = 0 then (some (((f_X7_found (-6 : Int32) T39).1), (f_X7_found (-6 : Int32) T39).2)) else (if e39_1 = 0 then (some (((f_X7_found (-6 : Int32) T39).1), (f_X7_found (-6 : Int32) T39).2)) else (f_X7_best_L68 6000 (fun e85_1 e85_2 e85_3 T85 => (if 0 < (lg_cmp e85_3 (5000 : Int64)) then (some (((f_X7_found (-8 : Int32) T85).1), (f_X7_found (-8 : Int32) T85).2)) else (f_X7_best_L103 6000 (fun e151_1 e151_2 T151 => (f_X7_best_L154 6000 (fun e227_1 e227_2 T227 => (f_X7_best_L230 6000 (fun e250_1 e250_2 T250 => (f_X7_best_L256 6000 (fun e459_5 T459 => (some (e459_5, (wr T459 108 9 (1 : Int32))))) e250_1 e250_2 (-1 : Int32) (1 : Int32) T250)) e227_1 e227_2 (0 : Int32) T227)) e151_1 e151_2 (0 : Int32) T151)) e85_1 e85_2 (0 : Int32) T85))) e39_1 (rd T39 109 (ix (782 : Int32))) (1 : Int64) (0 : Int32) T39)))) (0 : Int32) (0 : Int32) S
set_option maxRecDepth 100000 in
theorem jl_X7_best_4 (l : Launch) (w : Wd) (K : Int32 → St → Option (Int32 × St)) (n : Nat) : ∀ (a4_1 : Int32) (a4_2 : Int32) (S4 : St), (∀ (e39_1 : Int32) (S' : St) , J l w I_X7_best 39 [(0, .ref (w.2.1 + 108)), (1, .int e39_1)] [] S' (fun b => (some (.int b.1), b.2)) (K e39_1 S')) → J l w I_X7_best 4 [(0, .ref (w.2.1 + 108)), (1, .int a4_1), (2, .int a4_2)] [] S4 (fun b => (some (.int b.1), b.2)) (f_X7_best_L4 n K a4_1 a4_2 S4) := by
  induction n with
  | zero =>
    intro a4_1 a4_2 S4 hK b h
    simp only [f_X7_best_L4] at h
    cases h
  | succ n ih =>
    intro a4_1 a4_2 S4 hK
    rw [f_X7_best_L4]
    refine j_iload_n (y := I_X7_best) 2 dX7_best_4 rfl rfl ?_
    refine j_bipush (y := I_X7_best) (v := 12) dX7_best_5 (by decide) ?_
    refine j_icmp_ge (y := I_X7_best) 39 dX7_best_7 (by decide) (fun h7 => ?_) (fun h7 => ?_)
    · refine j_sub [0, 1] rfl ?_
      exact hK a4_1 S4
    · refine j_aload_n (y := I_X7_best) 0 dX7_best_10 rfl rfl ?_
      refine j_iload_n (y := I_X7_best) 2 dX7_best_11 rfl rfl ?_
      refine j_iconst (y := I_X7_best) (v := 2) dX7_best_12 (by decide) ?_
      refine j_callViR (y := I_X7_best) (As := [.int a4_2, .int (2 : Int32)]) cv_7_68 ⟨Nat.le_of_ble_eq_true rfl, Nat.le_of_ble_eq_true rfl⟩ k_108 rfl (Nat.le_of_ble_eq_true rfl) dX7_best_13 (c_X7_get l w a4_2 (2 : Int32) S4) (fun v13 h13 => ?_)
      refine j_iconst (y := I_X7_best) (v := 1) dX7_best_16 (by decide) ?_
      refine j_icmp_eq (y := I_X7_best) 23 dX7_best_17 (by decide) (fun h17 => ?_) (fun h17 => ?_)
      · refine j_aload_n (y := I_X7_best) 0 dX7_best_23 rfl rfl ?_
        refine j_getR (y := I_X7_best) (j := 121) fl_7_48 k_108 rfl rfl dX7_best_24 ?_
        refine j_iload_n (y := I_X7_best) 1 dX7_best_27 rfl rfl ?_
        refine j_iload_n (y := I_X7_best) 2 dX7_best_28 rfl rfl ?_
        refine j_iast (y := I_X7_best) k_121 dX7_best_29 (fun h29 => ?_)
        refine j_iinc (y := I_X7_best) 1 (ls' := [(1, .int (a4_1 + (1 : Int32))), (0, .ref (w.2.1 + 108)), (2, .int a4_2)]) dX7_best_30 rfl (ii _ _ (by decide) _) (by decide) rfl ?_
        refine j_iinc (y := I_X7_best) 2 (ls' := [(2, .int (a4_2 + (1 : Int32))), (1, .int (a4_1 + (1 : Int32))), (0, .ref (w.2.1 + 108))]) dX7_best_33 rfl (ii _ _ (by decide) _) (by decide) rfl ?_
        refine j_goto (y := I_X7_best) 4 dX7_best_36 (by decide) ?_
        refine j_sub [2, 1, 0] rfl ?_
        exact ih (a4_1 + (1 : Int32)) (a4_2 + (1 : Int32)) (wr S4 121 (ix a4_1) a4_2) hK
      · refine j_goto (y := I_X7_best) 33 dX7_best_20 (by decide) ?_
        refine j_iinc (y := I_X7_best) 2 (ls' := [(2, .int (a4_2 + (1 : Int32))), (0, .ref (w.2.1 + 108)), (1, .int a4_1)]) dX7_best_33 rfl (ii _ _ (by decide) _) (by decide) rfl ?_
        refine j_goto (y := I_X7_best) 4 dX7_best_36 (by decide) ?_
        refine j_sub [1, 2, 0] rfl ?_
        exact ih a4_1 (a4_2 + (1 : Int32)) S4 hK
set_option maxRecDepth 100000 in
theorem jl_X7_best_68 (l : Launch) (w : Wd) (K : Int32 → Int32 → Int64 → St → Option (Int32 × St)) (n : Nat) : ∀ (a68_1 : Int32) (a68_2 : Int32) (a68_3 : Int64) (a68_5 : Int32) (S68 : St), (∀ (e85_1 : Int32) (e85_2 : Int32) (e85_3 : Int64) (S' : St) , J l w I_X7_best 85 [(0, .ref (w.2.1 + 108)), (1, .int e85_1), (2, .int e85_2), (3, .long e85_3)] [] S' (fun b => (some (.int b.1), b.2)) (K e85_1 e85_2 e85_3 S')) → J l w I_X7_best 68 [(0, .ref (w.2.1 + 108)), (1, .int a68_1), (2, .int a68_2), (3, .long a68_3), (5, .int a68_5)] [] S68 (fun b => (some (.int b.1), b.2)) (f_X7_best_L68 n K a68_1 a68_2 a68_3 a68_5 S68) := by
  induction n with
  | zero =>
    intro a68_1 a68_2 a68_3 a68_5 S68 hK b h
    simp only [f_X7_best_L68] at h
    cases h
  | succ n ih =>
    intro a68_1 a68_2 a68_3 a68_5 S68 hK
    rw [f_X7_best_L68]
    refine j_iload (y := I_X7_best) 4 dX7_best_68 rfl ?_
    refine j_iload_n (y := I_X7_best) 1 dX7_best_70 rfl rfl ?_
    refine j_icmp_ge (y := I_X7_best) 85 dX7_best_71 (by decide) (fun h71 => ?_) (fun h71 => ?_)
    · refine j_sub [0, 1, 2, 3] rfl ?_
      exact hK a68_1 a68_2 a68_3 S68
    · refine j_lload_n (y := I_X7_best) 3 dX7_best_74 rfl rfl ?_
      refine j_iload_n (y := I_X7_best) 2 dX7_best_75 rfl rfl ?_
      refine j_i2l (y := I_X7_best) dX7_best_76 ?_
      refine j_lmul (y := I_X7_best) dX7_best_77 ?_
      refine j_lstore_n (y := I_X7_best) (ls' := [(3, .long (a68_3 * a68_2.toInt64)), (0, .ref (w.2.1 + 108)), (1, .int a68_1), (2, .int a68_2), (5, .int a68_5)]) dX7_best_78 rfl (by decide) rfl ?_
      refine j_iinc (y := I_X7_best) 4 (ls' := [(5, .int (a68_5 + (1 : Int32))), (3, .long (a68_3 * a68_2.toInt64)), (0, .ref (w.2.1 + 108)), (1, .int a68_1), (2, .int a68_2)]) dX7_best_79 rfl (ii _ _ (by decide) _) (by decide) rfl ?_
      refine j_goto (y := I_X7_best) 68 dX7_best_82 (by decide) ?_
      refine j_sub [2, 3, 4, 1, 0] rfl ?_
      exact ih a68_1 a68_2 (a68_3 * a68_2.toInt64) (a68_5 + (1 : Int32)) S68 hK
set_option maxRecDepth 100000 in
theorem jl_X7_best_112 (l : Launch) (w : Wd) (K : Int32 → Int32 → Int32 → St → Option (Int32 × St)) (n : Nat) : ∀ (a112_1 : Int32) (a112_2 : Int32) (a112_5 : Int32) (a112_6 : Int32) (S112 : St), (∀ (e145_1 : Int32) (e145_2 : Int32) (e145_5 : Int32) (S' : St) , J l w I_X7_best 145 [(0, .ref (w.2.1 + 108)), (1, .int e145_1), (2, .int e145_2), (5, .int e145_5)] [] S' (fun b => (some (.int b.1), b.2)) (K e145_1 e145_2 e145_5 S')) → J l w I_X7_best 112 [(0, .ref (w.2.1 + 108)), (1, .int a112_1), (2, .int a112_2), (5, .int a112_5), (6, .int a112_6)] [] S112 (fun b => (some (.int b.1), b.2)) (f_X7_best_L112 n K a112_1 a112_2 a112_5 a112_6 S112) := by
  induction n with
  | zero =>
    intro a112_1 a112_2 a112_5 a112_6 S112 hK b h
    simp only [f_X7_best_L112] at h
    cases h
  | succ n ih =>
    intro a112_1 a112_2 a112_5 a112_6 S112 hK
    rw [f_X7_best_L112]
    refine j_iload (y := I_X7_best) 4 dX7_best_112 rfl ?_
    refine j_iload_n (y := I_X7_best) 2 dX7_best_114 rfl rfl ?_
    refine j_icmp_ge (y := I_X7_best) 145 dX7_best_115 (by decide) (fun h115 => ?_) (fun h115 => ?_)
    · refine j_sub [0, 1, 2, 3] rfl ?_
      exact hK a112_1 a112_2 a112_5 S112
    · refine j_aload_n (y := I_X7_best) 0 dX7_best_118 rfl rfl ?_
      refine j_getR (y := I_X7_best) (j := 123) fl_7_54 k_108 rfl rfl dX7_best_119 ?_
      refine j_bipush (y := I_X7_best) (v := 6) dX7_best_122 (by decide) ?_
      refine j_iload (y := I_X7_best) 3 dX7_best_124 rfl ?_
      refine j_imul (y := I_X7_best) dX7_best_126 ?_
      refine j_iload (y := I_X7_best) 4 dX7_best_127 rfl ?_
      refine j_iadd (y := I_X7_best) dX7_best_129 ?_
      refine j_aload_n (y := I_X7_best) 0 dX7_best_130 rfl rfl ?_
      refine j_iload (y := I_X7_best) 3 dX7_best_131 rfl ?_
      refine j_iload (y := I_X7_best) 4 dX7_best_133 rfl ?_
      refine j_callVzR (y := I_X7_best) (As := [.int a112_5, .int a112_6]) cv_7_198 ⟨Nat.le_of_ble_eq_true rfl, Nat.le_of_ble_eq_true rfl⟩ k_108 rfl (Nat.le_of_ble_eq_true rfl) dX7_best_135 (c_X7_fits l w a112_5 a112_6 S112) (fun v135 h135 => ?_)
      refine j_zast (y := I_X7_best) k_123 (vp_nar_b2i _) dX7_best_138 (fun h138 => ?_)
      refine j_iinc (y := I_X7_best) 4 (ls' := [(6, .int (a112_6 + (1 : Int32))), (0, .ref (w.2.1 + 108)), (1, .int a112_1), (2, .int a112_2), (5, .int a112_5)]) dX7_best_139 rfl (ii _ _ (by decide) _) (by decide) rfl ?_
      refine j_goto (y := I_X7_best) 112 dX7_best_142 (by decide) ?_
      refine j_sub [1, 2, 3, 4, 0] rfl ?_
      exact ih a112_1 a112_2 a112_5 (a112_6 + (1 : Int32)) (wr S112 123 (ix (((6 : Int32) * a112_5) + a112_6)) (b2i v135)) hK
set_option maxRecDepth 100000 in
theorem jl_X7_best_103 (l : Launch) (w : Wd) (K : Int32 → Int32 → St → Option (Int32 × St)) (n : Nat) : ∀ (a103_1 : Int32) (a103_2 : Int32) (a103_5 : Int32) (S103 : St), (∀ (e151_1 : Int32) (e151_2 : Int32) (S' : St) , J l w I_X7_best 151 [(0, .ref (w.2.1 + 108)), (1, .int e151_1), (2, .int e151_2)] [] S' (fun b => (some (.int b.1), b.2)) (K e151_1 e151_2 S')) → J l w I_X7_best 103 [(0, .ref (w.2.1 + 108)), (1, .int a103_1), (2, .int a103_2), (5, .int a103_5)] [] S103 (fun b => (some (.int b.1), b.2)) (f_X7_best_L103 n K a103_1 a103_2 a103_5 S103) := by
  induction n with
  | zero =>
    intro a103_1 a103_2 a103_5 S103 hK b h
    simp only [f_X7_best_L103] at h
    cases h
  | succ n ih =>
    intro a103_1 a103_2 a103_5 S103 hK
    rw [f_X7_best_L103]
    refine j_iload (y := I_X7_best) 3 dX7_best_103 rfl ?_
    refine j_iload_n (y := I_X7_best) 2 dX7_best_105 rfl rfl ?_
    refine j_icmp_ge (y := I_X7_best) 151 dX7_best_106 (by decide) (fun h106 => ?_) (fun h106 => ?_)
    · refine j_sub [0, 1, 2] rfl ?_
      exact hK a103_1 a103_2 S103
    · refine j_iconst (y := I_X7_best) (v := 0) dX7_best_109 (by decide) ?_
      refine j_istore (y := I_X7_best) (ls' := [(6, .int (0 : Int32)), (0, .ref (w.2.1 + 108)), (1, .int a103_1), (2, .int a103_2), (5, .int a103_5)]) dX7_best_110 (by decide) rfl ?_
      refine j_sub [1, 2, 3, 4, 0] rfl ?_
      refine jl_X7_best_112 l w _ 6000 a103_1 a103_2 a103_5 (0 : Int32) S103  (fun e145_1 e145_2 e145_5 T145 => ?_)
      refine j_iinc (y := I_X7_best) 3 (ls' := [(5, .int (e145_5 + (1 : Int32))), (0, .ref (w.2.1 + 108)), (1, .int e145_1), (2, .int e145_2)]) dX7_best_145 rfl (ii _ _ (by decide) _) (by decide) rfl ?_
      refine j_goto (y := I_X7_best) 103 dX7_best_148 (by decide) ?_
      refine j_sub [1, 2, 3, 0] rfl ?_
      exact ih e145_1 e145_2 (e145_5 + (1 : Int32)) T145 hK
set_option maxRecDepth 100000 in
theorem jl_X7_best_163 (l : Launch) (w : Wd) (K : Int32 → Int32 → Int32 → St → Option (Int32 × St)) (n : Nat) : ∀ (a163_1 : Int32) (a163_2 : Int32) (a163_5 : Int32) (a163_6 : Int32) (S163 : St), (∀ (e221_1 : Int32) (e221_2 : Int32) (e221_5 : Int32) (S' : St) , J l w I_X7_best 221 [(0, .ref (w.2.1 + 108)), (1, .int e221_1), (2, .int e221_2), (5, .int e221_5)] [] S' (fun b => (some (.int b.1), b.2)) (K e221_1 e221_2 e221_5 S')) → J l w I_X7_best 163 [(0, .ref (w.2.1 + 108)), (1, .int a163_1), (2, .int a163_2), (5, .int a163_5), (6, .int a163_6)] [] S163 (fun b => (some (.int b.1), b.2)) (f_X7_best_L163 n K a163_1 a163_2 a163_5 a163_6 S163) := by
  induction n with
  | zero =>
    intro a163_1 a163_2 a163_5 a163_6 S163 hK b h
    simp only [f_X7_best_L163] at h
    cases h
  | succ n ih =>
    intro a163_1 a163_2 a163_5 a163_6 S163 hK
    rw [f_X7_best_L163]
    refine j_iload (y := I_X7_best) 4 dX7_best_163 rfl ?_
    refine j_iload_n (y := I_X7_best) 1 dX7_best_165 rfl rfl ?_
    refine j_icmp_ge (y := I_X7_best) 221 dX7_best_166 (by decide) (fun h166 => ?_) (fun h166 => ?_)
    · refine j_sub [0, 1, 2, 3] rfl ?_
      exact hK a163_1 a163_2 a163_5 S163
    · refine j_aload_n (y := I_X7_best) 0 dX7_best_169 rfl rfl ?_
      refine j_getR (y := I_X7_best) (j := 124) fl_7_57 k_108 rfl rfl dX7_best_170 ?_
      refine j_bipush (y := I_X7_best) (v := 12) dX7_best_173 (by decide) ?_
      refine j_iload (y := I_X7_best) 3 dX7_best_175 rfl ?_
      refine j_imul (y := I_X7_best) dX7_best_177 ?_
      refine j_iload (y := I_X7_best) 4 dX7_best_178 rfl ?_
      refine j_iadd (y := I_X7_best) dX7_best_180 ?_
      refine j_iload (y := I_X7_best) 3 dX7_best_181 rfl ?_
      refine j_iload (y := I_X7_best) 4 dX7_best_183 rfl ?_
      refine j_icmp_eq (y := I_X7_best) 213 dX7_best_185 (by decide) (fun h185 => ?_) (fun h185 => ?_)
      · refine j_iconst (y := I_X7_best) (v := 0) dX7_best_213 (by decide) ?_
        refine j_zast (y := I_X7_best) k_124 rfl dX7_best_214 (fun h214 => ?_)
        refine j_iinc (y := I_X7_best) 4 (ls' := [(6, .int (a163_6 + (1 : Int32))), (0, .ref (w.2.1 + 108)), (1, .int a163_1), (2, .int a163_2), (5, .int a163_5)]) dX7_best_215 rfl (ii _ _ (by decide) _) (by decide) rfl ?_
        refine j_goto (y := I_X7_best) 163 dX7_best_218 (by decide) ?_
        refine j_sub [1, 2, 3, 4, 0] rfl ?_
        exact ih a163_1 a163_2 a163_5 (a163_6 + (1 : Int32)) (wr S163 124 (ix (((12 : Int32) * a163_5) + a163_6)) (0 : Int32)) hK
      · refine j_aload_n (y := I_X7_best) 0 dX7_best_188 rfl rfl ?_
        refine j_aload_n (y := I_X7_best) 0 dX7_best_189 rfl rfl ?_
        refine j_getR (y := I_X7_best) (j := 121) fl_7_48 k_108 rfl rfl dX7_best_190 ?_
        refine j_iload (y := I_X7_best) 3 dX7_best_193 rfl ?_
        refine j_iald (y := I_X7_best) k_121 dX7_best_195 (fun h195 => ?_)
        refine j_aload_n (y := I_X7_best) 0 dX7_best_196 rfl rfl ?_
        refine j_getR (y := I_X7_best) (j := 121) fl_7_48 k_108 rfl rfl dX7_best_197 ?_
        refine j_iload (y := I_X7_best) 4 dX7_best_200 rfl ?_
        refine j_iald (y := I_X7_best) k_121 dX7_best_202 (fun h202 => ?_)
        refine j_callVzR (y := I_X7_best) (As := [.int (rd S163 121 (ix a163_5)), .int (rd S163 121 (ix a163_6))]) cv_7_153 ⟨Nat.le_of_ble_eq_true rfl, Nat.le_of_ble_eq_true rfl⟩ k_108 rfl (Nat.le_of_ble_eq_true rfl) dX7_best_203 (c_X7_isNear l w (rd S163 121 (ix a163_5)) (rd S163 121 (ix a163_6)) S163) (fun v203 h203 => ?_)
        refine j_if_eqB (y := I_X7_best) 213 dX7_best_206 (by decide) (fun h206 => ?_) (fun h206 => ?_)
        · refine j_iconst (y := I_X7_best) (v := 0) dX7_best_213 (by decide) ?_
          refine j_zast (y := I_X7_best) k_124 rfl dX7_best_214 (fun h214 => ?_)
          refine j_iinc (y := I_X7_best) 4 (ls' := [(6, .int (a163_6 + (1 : Int32))), (0, .ref (w.2.1 + 108)), (1, .int a163_1), (2, .int a163_2), (5, .int a163_5)]) dX7_best_215 rfl (ii _ _ (by decide) _) (by decide) rfl ?_
          refine j_goto (y := I_X7_best) 163 dX7_best_218 (by decide) ?_
          refine j_sub [1, 2, 3, 4, 0] rfl ?_
          exact ih a163_1 a163_2 a163_5 (a163_6 + (1 : Int32)) (wr S163 124 (ix (((12 : Int32) * a163_5) + a163_6)) (0 : Int32)) hK
        · refine j_iconst (y := I_X7_best) (v := 1) dX7_best_209 (by decide) ?_
          refine j_goto (y := I_X7_best) 214 dX7_best_210 (by decide) ?_
          refine j_zast (y := I_X7_best) k_124 rfl dX7_best_214 (fun h214 => ?_)
          refine j_iinc (y := I_X7_best) 4 (ls' := [(6, .int (a163_6 + (1 : Int32))), (0, .ref (w.2.1 + 108)), (1, .int a163_1), (2, .int a163_2), (5, .int a163_5)]) dX7_best_215 rfl (ii _ _ (by decide) _) (by decide) rfl ?_
          refine j_goto (y := I_X7_best) 163 dX7_best_218 (by decide) ?_
          refine j_sub [1, 2, 3, 4, 0] rfl ?_
          exact ih a163_1 a163_2 a163_5 (a163_6 + (1 : Int32)) (wr S163 124 (ix (((12 : Int32) * a163_5) + a163_6)) (1 : Int32)) hK
set_option maxRecDepth 100000 in
theorem jl_X7_best_154 (l : Launch) (w : Wd) (K : Int32 → Int32 → St → Option (Int32 × St)) (n : Nat) : ∀ (a154_1 : Int32) (a154_2 : Int32) (a154_5 : Int32) (S154 : St), (∀ (e227_1 : Int32) (e227_2 : Int32) (S' : St) , J l w I_X7_best 227 [(0, .ref (w.2.1 + 108)), (1, .int e227_1), (2, .int e227_2)] [] S' (fun b => (some (.int b.1), b.2)) (K e227_1 e227_2 S')) → J l w I_X7_best 154 [(0, .ref (w.2.1 + 108)), (1, .int a154_1), (2, .int a154_2), (5, .int a154_5)] [] S154 (fun b => (some (.int b.1), b.2)) (f_X7_best_L154 n K a154_1 a154_2 a154_5 S154) := by
  induction n with
  | zero =>
    intro a154_1 a154_2 a154_5 S154 hK b h
    simp only [f_X7_best_L154] at h
    cases h
  | succ n ih =>
    intro a154_1 a154_2 a154_5 S154 hK
    rw [f_X7_best_L154]
    refine j_iload (y := I_X7_best) 3 dX7_best_154 rfl ?_
    refine j_iload_n (y := I_X7_best) 1 dX7_best_156 rfl rfl ?_
    refine j_icmp_ge (y := I_X7_best) 227 dX7_best_157 (by decide) (fun h157 => ?_) (fun h157 => ?_)
    · refine j_sub [0, 1, 2] rfl ?_
      exact hK a154_1 a154_2 S154
    · refine j_iconst (y := I_X7_best) (v := 0) dX7_best_160 (by decide) ?_
      refine j_istore (y := I_X7_best) (ls' := [(6, .int (0 : Int32)), (0, .ref (w.2.1 + 108)), (1, .int a154_1), (2, .int a154_2), (5, .int a154_5)]) dX7_best_161 (by decide) rfl ?_
      refine j_sub [1, 2, 3, 4, 0] rfl ?_
      refine jl_X7_best_163 l w _ 6000 a154_1 a154_2 a154_5 (0 : Int32) S154  (fun e221_1 e221_2 e221_5 T221 => ?_)
      refine j_iinc (y := I_X7_best) 3 (ls' := [(5, .int (e221_5 + (1 : Int32))), (0, .ref (w.2.1 + 108)), (1, .int e221_1), (2, .int e221_2)]) dX7_best_221 rfl (ii _ _ (by decide) _) (by decide) rfl ?_
      refine j_goto (y := I_X7_best) 154 dX7_best_224 (by decide) ?_
      refine j_sub [1, 2, 3, 0] rfl ?_
      exact ih e221_1 e221_2 (e221_5 + (1 : Int32)) T221 hK
set_option maxRecDepth 100000 in
theorem jl_X7_best_230 (l : Launch) (w : Wd) (K : Int32 → Int32 → St → Option (Int32 × St)) (n : Nat) : ∀ (a230_1 : Int32) (a230_2 : Int32) (a230_5 : Int32) (S230 : St), (∀ (e250_1 : Int32) (e250_2 : Int32) (S' : St) , J l w I_X7_best 250 [(0, .ref (w.2.1 + 108)), (1, .int e250_1), (2, .int e250_2)] [] S' (fun b => (some (.int b.1), b.2)) (K e250_1 e250_2 S')) → J l w I_X7_best 230 [(0, .ref (w.2.1 + 108)), (1, .int a230_1), (2, .int a230_2), (5, .int a230_5)] [] S230 (fun b => (some (.int b.1), b.2)) (f_X7_best_L230 n K a230_1 a230_2 a230_5 S230) := by
  induction n with
  | zero =>
    intro a230_1 a230_2 a230_5 S230 hK b h
    simp only [f_X7_best_L230] at h
    cases h
  | succ n ih =>
    intro a230_1 a230_2 a230_5 S230 hK
    rw [f_X7_best_L230]
    refine j_iload (y := I_X7_best) 3 dX7_best_230 rfl ?_
    refine j_iload_n (y := I_X7_best) 1 dX7_best_232 rfl rfl ?_
    refine j_icmp_ge (y := I_X7_best) 250 dX7_best_233 (by decide) (fun h233 => ?_) (fun h233 => ?_)
    · refine j_sub [0, 1, 2] rfl ?_
      exact hK a230_1 a230_2 S230
    · refine j_aload_n (y := I_X7_best) 0 dX7_best_236 rfl rfl ?_
      refine j_getR (y := I_X7_best) (j := 122) fl_7_51 k_108 rfl rfl dX7_best_237 ?_
      refine j_iload (y := I_X7_best) 3 dX7_best_240 rfl ?_
      refine j_iconst (y := I_X7_best) (v := 0) dX7_best_242 (by decide) ?_
      refine j_iast (y := I_X7_best) k_122 dX7_best_243 (fun h243 => ?_)
      refine j_iinc (y := I_X7_best) 3 (ls' := [(5, .int (a230_5 + (1 : Int32))), (0, .ref (w.2.1 + 108)), (1, .int a230_1), (2, .int a230_2)]) dX7_best_244 rfl (ii _ _ (by decide) _) (by decide) rfl ?_
      refine j_goto (y := I_X7_best) 230 dX7_best_247 (by decide) ?_
      refine j_sub [1, 2, 3, 0] rfl ?_
      exact ih a230_1 a230_2 (a230_5 + (1 : Int32)) (wr S230 122 (ix a230_5) (0 : Int32)) hK
set_option maxRecDepth 100000 in
theorem jl_X7_best_276 (l : Launch) (w : Wd) (K : Int32 → Int32 → Int32 → Int32 → Int32 → St → Option (Int32 × St)) (n : Nat) : ∀ (a276_1 : Int32) (a276_2 : Int32) (a276_5 : Int32) (a276_7 : Int32) (a276_8 : Int32) (a276_9 : Int32) (S276 : St), (∀ (e340_1 : Int32) (e340_2 : Int32) (e340_5 : Int32) (e340_7 : Int32) (e340_8 : Int32) (S' : St) , J l w I_X7_best 340 [(0, .ref (w.2.1 + 108)), (1, .int e340_1), (2, .int e340_2), (5, .int e340_5), (7, .int e340_7), (8, .int e340_8)] [] S' (fun b => (some (.int b.1), b.2)) (K e340_1 e340_2 e340_5 e340_7 e340_8 S')) → J l w I_X7_best 276 [(0, .ref (w.2.1 + 108)), (1, .int a276_1), (2, .int a276_2), (5, .int a276_5), (7, .int a276_7), (8, .int a276_8), (9, .int a276_9)] [] S276 (fun b => (some (.int b.1), b.2)) (f_X7_best_L276 n K a276_1 a276_2 a276_5 a276_7 a276_8 a276_9 S276) := by
  induction n with
  | zero =>
    intro a276_1 a276_2 a276_5 a276_7 a276_8 a276_9 S276 hK b h
    simp only [f_X7_best_L276] at h
    cases h
  | succ n ih =>
    intro a276_1 a276_2 a276_5 a276_7 a276_8 a276_9 S276 hK
    rw [f_X7_best_L276]
    refine j_iload (y := I_X7_best) 6 dX7_best_276 rfl ?_
    refine j_iload_n (y := I_X7_best) 1 dX7_best_278 rfl rfl ?_
    refine j_icmp_ge (y := I_X7_best) 340 dX7_best_279 (by decide) (fun h279 => ?_) (fun h279 => ?_)
    · refine j_sub [0, 1, 2, 3, 4, 5] rfl ?_
      exact hK a276_1 a276_2 a276_5 a276_7 a276_8 S276
    · refine j_iload (y := I_X7_best) 4 dX7_best_282 rfl ?_
      refine j_aload_n (y := I_X7_best) 0 dX7_best_284 rfl rfl ?_
      refine j_getR (y := I_X7_best) (j := 124) fl_7_57 k_108 rfl rfl dX7_best_285 ?_
      refine j_bipush (y := I_X7_best) (v := 12) dX7_best_288 (by decide) ?_
      refine j_iload (y := I_X7_best) 5 dX7_best_290 rfl ?_
      refine j_imul (y := I_X7_best) dX7_best_292 ?_
      refine j_iload (y := I_X7_best) 6 dX7_best_293 rfl ?_
      refine j_iadd (y := I_X7_best) dX7_best_295 ?_
      refine j_zald (y := I_X7_best) k_124 dX7_best_296 (fun h296 => ?_)
      refine j_if_eq (y := I_X7_best) 330 dX7_best_297 (by decide) (fun h297 => ?_) (fun h297 => ?_)
      · refine j_iconst (y := I_X7_best) (v := 0) dX7_best_330 (by decide) ?_
        refine j_iadd (y := I_X7_best) dX7_best_331 ?_
        refine j_istore (y := I_X7_best) (ls' := [(7, .int (a276_7 + (0 : Int32))), (0, .ref (w.2.1 + 108)), (1, .int a276_1), (2, .int a276_2), (5, .int a276_5), (8, .int a276_8), (9, .int a276_9)]) dX7_best_332 (by decide) rfl ?_
        refine j_iinc (y := I_X7_best) 6 (ls' := [(9, .int (a276_9 + (1 : Int32))), (7, .int (a276_7 + (0 : Int32))), (0, .ref (w.2.1 + 108)), (1, .int a276_1), (2, .int a276_2), (5, .int a276_5), (8, .int a276_8)]) dX7_best_334 rfl (ii _ _ (by decide) _) (by decide) rfl ?_
        refine j_goto (y := I_X7_best) 276 dX7_best_337 (by decide) ?_
        refine j_sub [2, 3, 4, 5, 1, 6, 0] rfl ?_
        exact ih a276_1 a276_2 a276_5 (a276_7 + (0 : Int32)) a276_8 (a276_9 + (1 : Int32)) S276 hK
      · refine j_aload_n (y := I_X7_best) 0 dX7_best_300 rfl rfl ?_
        refine j_getR (y := I_X7_best) (j := 123) fl_7_54 k_108 rfl rfl dX7_best_301 ?_
        refine j_bipush (y := I_X7_best) (v := 6) dX7_best_304 (by decide) ?_
        refine j_aload_n (y := I_X7_best) 0 dX7_best_306 rfl rfl ?_
        refine j_getR (y := I_X7_best) (j := 122) fl_7_51 k_108 rfl rfl dX7_best_307 ?_
        refine j_iload (y := I_X7_best) 5 dX7_best_310 rfl ?_
        refine j_iald (y := I_X7_best) k_122 dX7_best_312 (fun h312 => ?_)
        refine j_imul (y := I_X7_best) dX7_best_313 ?_
        refine j_aload_n (y := I_X7_best) 0 dX7_best_314 rfl rfl ?_
        refine j_getR (y := I_X7_best) (j := 122) fl_7_51 k_108 rfl rfl dX7_best_315 ?_
        refine j_iload (y := I_X7_best) 6 dX7_best_318 rfl ?_
        refine j_iald (y := I_X7_best) k_122 dX7_best_320 (fun h320 => ?_)
        refine j_iadd (y := I_X7_best) dX7_best_321 ?_
        refine j_zald (y := I_X7_best) k_123 dX7_best_322 (fun h322 => ?_)
        refine j_if_eq (y := I_X7_best) 330 dX7_best_323 (by decide) (fun h323 => ?_) (fun h323 => ?_)
        · refine j_iconst (y := I_X7_best) (v := 0) dX7_best_330 (by decide) ?_
          refine j_iadd (y := I_X7_best) dX7_best_331 ?_
          refine j_istore (y := I_X7_best) (ls' := [(7, .int (a276_7 + (0 : Int32))), (0, .ref (w.2.1 + 108)), (1, .int a276_1), (2, .int a276_2), (5, .int a276_5), (8, .int a276_8), (9, .int a276_9)]) dX7_best_332 (by decide) rfl ?_
          refine j_iinc (y := I_X7_best) 6 (ls' := [(9, .int (a276_9 + (1 : Int32))), (7, .int (a276_7 + (0 : Int32))), (0, .ref (w.2.1 + 108)), (1, .int a276_1), (2, .int a276_2), (5, .int a276_5), (8, .int a276_8)]) dX7_best_334 rfl (ii _ _ (by decide) _) (by decide) rfl ?_
          refine j_goto (y := I_X7_best) 276 dX7_best_337 (by decide) ?_
          refine j_sub [2, 3, 4, 5, 1, 6, 0] rfl ?_
          exact ih a276_1 a276_2 a276_5 (a276_7 + (0 : Int32)) a276_8 (a276_9 + (1 : Int32)) S276 hK
        · refine j_iconst (y := I_X7_best) (v := 1) dX7_best_326 (by decide) ?_
          refine j_goto (y := I_X7_best) 331 dX7_best_327 (by decide) ?_
          refine j_iadd (y := I_X7_best) dX7_best_331 ?_
          refine j_istore (y := I_X7_best) (ls' := [(7, .int (a276_7 + (1 : Int32))), (0, .ref (w.2.1 + 108)), (1, .int a276_1), (2, .int a276_2), (5, .int a276_5), (8, .int a276_8), (9, .int a276_9)]) dX7_best_332 (by decide) rfl ?_
          refine j_iinc (y := I_X7_best) 6 (ls' := [(9, .int (a276_9 + (1 : Int32))), (7, .int (a276_7 + (1 : Int32))), (0, .ref (w.2.1 + 108)), (1, .int a276_1), (2, .int a276_2), (5, .int a276_5), (8, .int a276_8)]) dX7_best_334 rfl (ii _ _ (by decide) _) (by decide) rfl ?_
          refine j_goto (y := I_X7_best) 276 dX7_best_337 (by decide) ?_
          refine j_sub [2, 3, 4, 5, 1, 6, 0] rfl ?_
          exact ih a276_1 a276_2 a276_5 (a276_7 + (1 : Int32)) a276_8 (a276_9 + (1 : Int32)) S276 hK
set_option maxRecDepth 100000 in
theorem jl_X7_best_267 (l : Launch) (w : Wd) (K : Int32 → Int32 → Int32 → Int32 → St → Option (Int32 × St)) (n : Nat) : ∀ (a267_1 : Int32) (a267_2 : Int32) (a267_5 : Int32) (a267_7 : Int32) (a267_8 : Int32) (S267 : St), (∀ (e346_1 : Int32) (e346_2 : Int32) (e346_5 : Int32) (e346_7 : Int32) (S' : St) , J l w I_X7_best 346 [(0, .ref (w.2.1 + 108)), (1, .int e346_1), (2, .int e346_2), (5, .int e346_5), (7, .int e346_7)] [] S' (fun b => (some (.int b.1), b.2)) (K e346_1 e346_2 e346_5 e346_7 S')) → J l w I_X7_best 267 [(0, .ref (w.2.1 + 108)), (1, .int a267_1), (2, .int a267_2), (5, .int a267_5), (7, .int a267_7), (8, .int a267_8)] [] S267 (fun b => (some (.int b.1), b.2)) (f_X7_best_L267 n K a267_1 a267_2 a267_5 a267_7 a267_8 S267) := by
  induction n with
  | zero =>
    intro a267_1 a267_2 a267_5 a267_7 a267_8 S267 hK b h
    simp only [f_X7_best_L267] at h
    cases h
  | succ n ih =>
    intro a267_1 a267_2 a267_5 a267_7 a267_8 S267 hK
    rw [f_X7_best_L267]
    refine j_iload (y := I_X7_best) 5 dX7_best_267 rfl ?_
    refine j_iload_n (y := I_X7_best) 1 dX7_best_269 rfl rfl ?_
    refine j_icmp_ge (y := I_X7_best) 346 dX7_best_270 (by decide) (fun h270 => ?_) (fun h270 => ?_)
    · refine j_sub [0, 1, 2, 3, 4] rfl ?_
      exact hK a267_1 a267_2 a267_5 a267_7 S267
    · refine j_iconst (y := I_X7_best) (v := 0) dX7_best_273 (by decide) ?_
      refine j_istore (y := I_X7_best) (ls' := [(9, .int (0 : Int32)), (0, .ref (w.2.1 + 108)), (1, .int a267_1), (2, .int a267_2), (5, .int a267_5), (7, .int a267_7), (8, .int a267_8)]) dX7_best_274 (by decide) rfl ?_
      refine j_sub [1, 2, 3, 4, 5, 6, 0] rfl ?_
      refine jl_X7_best_276 l w _ 6000 a267_1 a267_2 a267_5 a267_7 a267_8 (0 : Int32) S267  (fun e340_1 e340_2 e340_5 e340_7 e340_8 T340 => ?_)
      refine j_iinc (y := I_X7_best) 5 (ls' := [(8, .int (e340_8 + (1 : Int32))), (0, .ref (w.2.1 + 108)), (1, .int e340_1), (2, .int e340_2), (5, .int e340_5), (7, .int e340_7)]) dX7_best_340 rfl (ii _ _ (by decide) _) (by decide) rfl ?_
      refine j_goto (y := I_X7_best) 267 dX7_best_343 (by decide) ?_
      refine j_sub [1, 2, 3, 4, 5, 0] rfl ?_
      exact ih e340_1 e340_2 e340_5 e340_7 (e340_8 + (1 : Int32)) T340 hK
set_option maxRecDepth 100000 in
theorem jl_X7_best_396 (l : Launch) (w : Wd) (K : Int32 → Int32 → Int32 → Int32 → St → Option (Int32 × St)) (n : Nat) : ∀ (a396_1 : Int32) (a396_2 : Int32) (a396_5 : Int32) (a396_8 : Int32) (S396 : St), (∀ (e428_1 : Int32) (e428_2 : Int32) (e428_5 : Int32) (e428_8 : Int32) (S' : St) , J l w I_X7_best 428 [(0, .ref (w.2.1 + 108)), (1, .int e428_1), (2, .int e428_2), (5, .int e428_5), (8, .int e428_8)] [] S' (fun b => (some (.int b.1), b.2)) (K e428_1 e428_2 e428_5 e428_8 S')) → J l w I_X7_best 396 [(0, .ref (w.2.1 + 108)), (1, .int a396_1), (2, .int a396_2), (5, .int a396_5), (8, .int a396_8)] [] S396 (fun b => (some (.int b.1), b.2)) (f_X7_best_L396 n K a396_1 a396_2 a396_5 a396_8 S396) := by
  induction n with
  | zero =>
    intro a396_1 a396_2 a396_5 a396_8 S396 hK b h
    simp only [f_X7_best_L396] at h
    cases h
  | succ n ih =>
    intro a396_1 a396_2 a396_5 a396_8 S396 hK
    rw [f_X7_best_L396]
    refine j_iload (y := I_X7_best) 4 dX7_best_396 rfl ?_
    refine j_if_lt (y := I_X7_best) 428 dX7_best_398 (by decide) (fun h398 => ?_) (fun h398 => ?_)
    · refine j_sub [0, 1, 2, 3, 4] rfl ?_
      exact hK a396_1 a396_2 a396_5 a396_8 S396
    · refine j_aload_n (y := I_X7_best) 0 dX7_best_401 rfl rfl ?_
      refine j_getR (y := I_X7_best) (j := 122) fl_7_51 k_108 rfl rfl dX7_best_402 ?_
      refine j_iload (y := I_X7_best) 4 dX7_best_405 rfl ?_
      refine j_iald (y := I_X7_best) k_122 dX7_best_407 (fun h407 => ?_)
      refine j_iload_n (y := I_X7_best) 2 dX7_best_408 rfl rfl ?_
      refine j_iconst (y := I_X7_best) (v := 1) dX7_best_409 (by decide) ?_
      refine j_isub (y := I_X7_best) dX7_best_410 ?_
      refine j_icmp_ne (y := I_X7_best) 428 dX7_best_411 (by decide) (fun h411 => ?_) (fun h411 => ?_)
      · refine j_sub [0, 1, 2, 3, 4] rfl ?_
        exact hK a396_1 a396_2 a396_5 a396_8 S396
      · refine j_aload_n (y := I_X7_best) 0 dX7_best_414 rfl rfl ?_
        refine j_getR (y := I_X7_best) (j := 122) fl_7_51 k_108 rfl rfl dX7_best_415 ?_
        refine j_iload (y := I_X7_best) 4 dX7_best_418 rfl ?_
        refine j_iconst (y := I_X7_best) (v := 0) dX7_best_420 (by decide) ?_
        refine j_iast (y := I_X7_best) k_122 dX7_best_421 (fun h421 => ?_)
        refine j_iinc (y := I_X7_best) 4 (ls' := [(8, .int (a396_8 + (-1 : Int32))), (0, .ref (w.2.1 + 108)), (1, .int a396_1), (2, .int a396_2), (5, .int a396_5)]) dX7_best_422 rfl (ii _ _ (by decide) _) (by decide) rfl ?_
        refine j_goto (y := I_X7_best) 396 dX7_best_425 (by decide) ?_
        refine j_sub [1, 2, 3, 4, 0] rfl ?_
        exact ih a396_1 a396_2 a396_5 (a396_8 + (-1 : Int32)) (wr S396 122 (ix a396_8) (0 : Int32)) hK
set_option maxRecDepth 100000 in
theorem jl_X7_best_360 (l : Launch) (w : Wd) (K : Int32 → Int32 → Int32 → St → Option (Int32 × St)) (n : Nat) : ∀ (a360_1 : Int32) (a360_2 : Int32) (a360_5 : Int32) (a360_8 : Int32) (S360 : St), (∀ (e391_1 : Int32) (e391_2 : Int32) (e391_5 : Int32) (S' : St) , J l w I_X7_best 391 [(0, .ref (w.2.1 + 108)), (1, .int e391_1), (2, .int e391_2), (5, .int e391_5)] [] S' (fun b => (some (.int b.1), b.2)) (K e391_1 e391_2 e391_5 S')) → J l w I_X7_best 360 [(0, .ref (w.2.1 + 108)), (1, .int a360_1), (2, .int a360_2), (5, .int a360_5), (8, .int a360_8)] [] S360 (fun b => (some (.int b.1), b.2)) (f_X7_best_L360 n K a360_1 a360_2 a360_5 a360_8 S360) := by
  induction n with
  | zero =>
    intro a360_1 a360_2 a360_5 a360_8 S360 hK b h
    simp only [f_X7_best_L360] at h
    cases h
  | succ n ih =>
    intro a360_1 a360_2 a360_5 a360_8 S360 hK
    rw [f_X7_best_L360]
    refine j_iload (y := I_X7_best) 4 dX7_best_360 rfl ?_
    refine j_iload_n (y := I_X7_best) 1 dX7_best_362 rfl rfl ?_
    refine j_icmp_ge (y := I_X7_best) 391 dX7_best_363 (by decide) (fun h363 => ?_) (fun h363 => ?_)
    · refine j_sub [0, 1, 2, 3] rfl ?_
      exact hK a360_1 a360_2 a360_5 S360
    · refine j_aload_n (y := I_X7_best) 0 dX7_best_366 rfl rfl ?_
      refine j_getR (y := I_X7_best) (j := 116) fl_7_32 k_108 rfl rfl dX7_best_367 ?_
      refine j_aload_n (y := I_X7_best) 0 dX7_best_370 rfl rfl ?_
      refine j_getR (y := I_X7_best) (j := 121) fl_7_48 k_108 rfl rfl dX7_best_371 ?_
      refine j_iload (y := I_X7_best) 4 dX7_best_374 rfl ?_
      refine j_iald (y := I_X7_best) k_121 dX7_best_376 (fun h376 => ?_)
      refine j_aload_n (y := I_X7_best) 0 dX7_best_377 rfl rfl ?_
      refine j_getR (y := I_X7_best) (j := 122) fl_7_51 k_108 rfl rfl dX7_best_378 ?_
      refine j_iload (y := I_X7_best) 4 dX7_best_381 rfl ?_
      refine j_iald (y := I_X7_best) k_122 dX7_best_383 (fun h383 => ?_)
      refine j_iast (y := I_X7_best) k_116 dX7_best_384 (fun h384 => ?_)
      refine j_iinc (y := I_X7_best) 4 (ls' := [(8, .int (a360_8 + (1 : Int32))), (0, .ref (w.2.1 + 108)), (1, .int a360_1), (2, .int a360_2), (5, .int a360_5)]) dX7_best_385 rfl (ii _ _ (by decide) _) (by decide) rfl ?_
      refine j_goto (y := I_X7_best) 360 dX7_best_388 (by decide) ?_
      refine j_sub [1, 2, 3, 4, 0] rfl ?_
      exact ih a360_1 a360_2 a360_5 (a360_8 + (1 : Int32)) (wr S360 116 (ix (rd S360 121 (ix a360_8))) (rd S360 122 (ix a360_8))) hK
set_option maxRecDepth 100000 in
theorem jl_X7_best_256 (l : Launch) (w : Wd) (K : Int32 → St → Option (Int32 × St)) (n : Nat) : ∀ (a256_1 : Int32) (a256_2 : Int32) (a256_5 : Int32) (a256_6 : Int32) (S256 : St), (∀ (e459_5 : Int32) (S' : St) , J l w I_X7_best 459 [(0, .ref (w.2.1 + 108)), (5, .int e459_5)] [] S' (fun b => (some (.int b.1), b.2)) (K e459_5 S')) → J l w I_X7_best 256 [(0, .ref (w.2.1 + 108)), (1, .int a256_1), (2, .int a256_2), (5, .int a256_5), (6, .int a256_6)] [] S256 (fun b => (some (.int b.1), b.2)) (f_X7_best_L256 n K a256_1 a256_2 a256_5 a256_6 S256) := by
  induction n with
  | zero =>
    intro a256_1 a256_2 a256_5 a256_6 S256 hK b h
    simp only [f_X7_best_L256] at h
    cases h
  | succ n ih =>
    intro a256_1 a256_2 a256_5 a256_6 S256 hK
    rw [f_X7_best_L256]
    refine j_iload (y := I_X7_best) 4 dX7_best_256 rfl ?_
    refine j_if_eq (y := I_X7_best) 459 dX7_best_258 (by decide) (fun h258 => ?_) (fun h258 => ?_)
    · refine j_sub [0, 3] rfl ?_
      exact hK a256_5 S256
    · refine j_iconst (y := I_X7_best) (v := 0) dX7_best_261 (by decide) ?_
      refine j_istore (y := I_X7_best) (ls' := [(7, .int (0 : Int32)), (0, .ref (w.2.1 + 108)), (1, .int a256_1), (2, .int a256_2), (5, .int a256_5), (6, .int a256_6)]) dX7_best_262 (by decide) rfl ?_
      refine j_iconst (y := I_X7_best) (v := 0) dX7_best_264 (by decide) ?_
      refine j_istore (y := I_X7_best) (ls' := [(8, .int (0 : Int32)), (7, .int (0 : Int32)), (0, .ref (w.2.1 + 108)), (1, .int a256_1), (2, .int a256_2), (5, .int a256_5), (6, .int a256_6)]) dX7_best_265 (by decide) rfl ?_
      refine j_sub [2, 3, 4, 5, 1, 0] rfl ?_
      refine jl_X7_best_267 l w _ 6000 a256_1 a256_2 a256_5 (0 : Int32) (0 : Int32) S256  (fun e346_1 e346_2 e346_5 e346_7 T346 => ?_)
      refine j_iload (y := I_X7_best) 4 dX7_best_346 rfl ?_
      refine j_iload (y := I_X7_best) 3 dX7_best_348 rfl ?_
      refine j_icmp_le (y := I_X7_best) 391 dX7_best_350 (by decide) (fun h350 => ?_) (fun h350 => ?_)
      · refine j_iload_n (y := I_X7_best) 1 dX7_best_391 rfl rfl ?_
        refine j_iconst (y := I_X7_best) (v := 1) dX7_best_392 (by decide) ?_
        refine j_isub (y := I_X7_best) dX7_best_393 ?_
        refine j_istore (y := I_X7_best) (ls' := [(8, .int (e346_1 - (1 : Int32))), (0, .ref (w.2.1 + 108)), (1, .int e346_1), (2, .int e346_2), (5, .int e346_5), (7, .int e346_7)]) dX7_best_394 (by decide) rfl ?_
        refine j_sub [1, 2, 3, 4, 0] rfl ?_
        refine jl_X7_best_396 l w _ 6000 e346_1 e346_2 e346_5 (e346_1 - (1 : Int32)) T346  (fun e428_1 e428_2 e428_5 e428_8 T428 => ?_)
        refine j_iload (y := I_X7_best) 4 dX7_best_428 rfl ?_
        refine j_if_lt (y := I_X7_best) 437 dX7_best_430 (by decide) (fun h430 => ?_) (fun h430 => ?_)
        · refine j_iconst (y := I_X7_best) (v := 0) dX7_best_437 (by decide) ?_
          refine j_istore (y := I_X7_best) (ls' := [(6, .int (0 : Int32)), (0, .ref (w.2.1 + 108)), (1, .int e428_1), (2, .int e428_2), (5, .int e428_5), (8, .int e428_8)]) dX7_best_438 (by decide) rfl ?_
          refine j_iload (y := I_X7_best) 0 dX7_best_440 rfl ?_
          refine j_if_eq (y := I_X7_best) 456 dX7_best_442 (by decide) (fun h442 => ?_) (fun h442 => ?_)
          · refine j_goto (y := I_X7_best) 256 dX7_best_456 (by decide) ?_
            refine j_sub [1, 2, 3, 4, 0] rfl ?_
            exact ih e428_1 e428_2 e428_5 (0 : Int32) T428 hK
          · refine j_aload_n (y := I_X7_best) 1 dX7_best_445 rfl rfl ?_
            refine j_getR (y := I_X7_best) (j := 122) fl_7_51 k_108 rfl rfl dX7_best_446 ?_
            refine j_iload (y := I_X7_best) 5 dX7_best_449 rfl ?_
            refine j_dup2 (y := I_X7_best) dX7_best_451 rfl rfl ?_
            refine j_iald (y := I_X7_best) k_122 dX7_best_452 (fun h452 => ?_)
            refine j_iconst (y := I_X7_best) (v := 1) dX7_best_453 (by decide) ?_
            refine j_iadd (y := I_X7_best) dX7_best_454 ?_
            refine j_iast (y := I_X7_best) k_122 dX7_best_455 (fun h455 => ?_)
            refine j_goto (y := I_X7_best) 256 dX7_best_456 (by decide) ?_
            refine j_sub [1, 2, 3, 4, 0] rfl ?_
            exact ih e428_1 e428_2 e428_5 (0 : Int32) (wr T428 122 (ix e428_8) ((rd T428 122 (ix e428_8)) + (1 : Int32))) hK
        · refine j_iconst (y := I_X7_best) (v := 1) dX7_best_433 (by decide) ?_
          refine j_goto (y := I_X7_best) 438 dX7_best_434 (by decide) ?_
          refine j_istore (y := I_X7_best) (ls' := [(6, .int (1 : Int32)), (0, .ref (w.2.1 + 108)), (1, .int e428_1), (2, .int e428_2), (5, .int e428_5), (8, .int e428_8)]) dX7_best_438 (by decide) rfl ?_
          refine j_iload (y := I_X7_best) 0 dX7_best_440 rfl ?_
          refine j_if_eq (y := I_X7_best) 456 dX7_best_442 (by decide) (fun h442 => ?_) (fun h442 => ?_)
          · refine j_goto (y := I_X7_best) 256 dX7_best_456 (by decide) ?_
            refine j_sub [1, 2, 3, 4, 0] rfl ?_
            exact ih e428_1 e428_2 e428_5 (1 : Int32) T428 hK
          · refine j_aload_n (y := I_X7_best) 1 dX7_best_445 rfl rfl ?_
            refine j_getR (y := I_X7_best) (j := 122) fl_7_51 k_108 rfl rfl dX7_best_446 ?_
            refine j_iload (y := I_X7_best) 5 dX7_best_449 rfl ?_
            refine j_dup2 (y := I_X7_best) dX7_best_451 rfl rfl ?_
            refine j_iald (y := I_X7_best) k_122 dX7_best_452 (fun h452 => ?_)
            refine j_iconst (y := I_X7_best) (v := 1) dX7_best_453 (by decide) ?_
            refine j_iadd (y := I_X7_best) dX7_best_454 ?_
            refine j_iast (y := I_X7_best) k_122 dX7_best_455 (fun h455 => ?_)
            refine j_goto (y := I_X7_best) 256 dX7_best_456 (by decide) ?_
            refine j_sub [1, 2, 3, 4, 0] rfl ?_
            exact ih e428_1 e428_2 e428_5 (1 : Int32) (wr T428 122 (ix e428_8) ((rd T428 122 (ix e428_8)) + (1 : Int32))) hK
      · refine j_iload (y := I_X7_best) 4 dX7_best_353 rfl ?_
        refine j_istore (y := I_X7_best) (ls' := [(5, .int e346_7), (0, .ref (w.2.1 + 108)), (1, .int e346_1), (2, .int e346_2), (7, .int e346_7)]) dX7_best_355 (by decide) rfl ?_
        refine j_iconst (y := I_X7_best) (v := 0) dX7_best_357 (by decide) ?_
        refine j_istore (y := I_X7_best) (ls' := [(8, .int (0 : Int32)), (5, .int e346_7), (0, .ref (w.2.1 + 108)), (1, .int e346_1), (2, .int e346_2), (7, .int e346_7)]) dX7_best_358 (by decide) rfl ?_
        refine j_sub [2, 3, 4, 1, 0] rfl ?_
        refine jl_X7_best_360 l w _ 6000 e346_1 e346_2 e346_7 (0 : Int32) T346  (fun e391_1 e391_2 e391_5 T391 => ?_)
        refine j_iload_n (y := I_X7_best) 1 dX7_best_391 rfl rfl ?_
        refine j_iconst (y := I_X7_best) (v := 1) dX7_best_392 (by decide) ?_
        refine j_isub (y := I_X7_best) dX7_best_393 ?_
        refine j_istore (y := I_X7_best) (ls' := [(8, .int (e391_1 - (1 : Int32))), (0, .ref (w.2.1 + 108)), (1, .int e391_1), (2, .int e391_2), (5, .int e391_5)]) dX7_best_394 (by decide) rfl ?_
        refine j_sub [1, 2, 3, 4, 0] rfl ?_
        refine jl_X7_best_396 l w _ 6000 e391_1 e391_2 e391_5 (e391_1 - (1 : Int32)) T391  (fun e428_1 e428_2 e428_5 e428_8 T428 => ?_)
        refine j_iload (y := I_X7_best) 4 dX7_best_428 rfl ?_
        refine j_if_lt (y := I_X7_best) 437 dX7_best_430 (by decide) (fun h430 => ?_) (fun h430 => ?_)
        · refine j_iconst (y := I_X7_best) (v := 0) dX7_best_437 (by decide) ?_
          refine j_istore (y := I_X7_best) (ls' := [(6, .int (0 : Int32)), (0, .ref (w.2.1 + 108)), (1, .int e428_1), (2, .int e428_2), (5, .int e428_5), (8, .int e428_8)]) dX7_best_438 (by decide) rfl ?_
          refine j_iload (y := I_X7_best) 0 dX7_best_440 rfl ?_
          refine j_if_eq (y := I_X7_best) 456 dX7_best_442 (by decide) (fun h442 => ?_) (fun h442 => ?_)
          · refine j_goto (y := I_X7_best) 256 dX7_best_456 (by decide) ?_
            refine j_sub [1, 2, 3, 4, 0] rfl ?_
            exact ih e428_1 e428_2 e428_5 (0 : Int32) T428 hK
          · refine j_aload_n (y := I_X7_best) 1 dX7_best_445 rfl rfl ?_
            refine j_getR (y := I_X7_best) (j := 122) fl_7_51 k_108 rfl rfl dX7_best_446 ?_
            refine j_iload (y := I_X7_best) 5 dX7_best_449 rfl ?_
            refine j_dup2 (y := I_X7_best) dX7_best_451 rfl rfl ?_
            refine j_iald (y := I_X7_best) k_122 dX7_best_452 (fun h452 => ?_)
            refine j_iconst (y := I_X7_best) (v := 1) dX7_best_453 (by decide) ?_
            refine j_iadd (y := I_X7_best) dX7_best_454 ?_
            refine j_iast (y := I_X7_best) k_122 dX7_best_455 (fun h455 => ?_)
            refine j_goto (y := I_X7_best) 256 dX7_best_456 (by decide) ?_
            refine j_sub [1, 2, 3, 4, 0] rfl ?_
            exact ih e428_1 e428_2 e428_5 (0 : Int32) (wr T428 122 (ix e428_8) ((rd T428 122 (ix e428_8)) + (1 : Int32))) hK
        · refine j_iconst (y := I_X7_best) (v := 1) dX7_best_433 (by decide) ?_
          refine j_goto (y := I_X7_best) 438 dX7_best_434 (by decide) ?_
          refine j_istore (y := I_X7_best) (ls' := [(6, .int (1 : Int32)), (0, .ref (w.2.1 + 108)), (1, .int e428_1), (2, .int e428_2), (5, .int e428_5), (8, .int e428_8)]) dX7_best_438 (by decide) rfl ?_
          refine j_iload (y := I_X7_best) 0 dX7_best_440 rfl ?_
          refine j_if_eq (y := I_X7_best) 456 dX7_best_442 (by decide) (fun h442 => ?_) (fun h442 => ?_)
          · refine j_goto (y := I_X7_best) 256 dX7_best_456 (by decide) ?_
            refine j_sub [1, 2, 3, 4, 0] rfl ?_
            exact ih e428_1 e428_2 e428_5 (1 : Int32) T428 hK
          · refine j_aload_n (y := I_X7_best) 1 dX7_best_445 rfl rfl ?_
            refine j_getR (y := I_X7_best) (j := 122) fl_7_51 k_108 rfl rfl dX7_best_446 ?_
            refine j_iload (y := I_X7_best) 5 dX7_best_449 rfl ?_
            refine j_dup2 (y := I_X7_best) dX7_best_451 rfl rfl ?_
            refine j_iald (y := I_X7_best) k_122 dX7_best_452 (fun h452 => ?_)
            refine j_iconst (y := I_X7_best) (v := 1) dX7_best_453 (by decide) ?_
            refine j_iadd (y := I_X7_best) dX7_best_454 ?_
            refine j_iast (y := I_X7_best) k_122 dX7_best_455 (fun h455 => ?_)
            refine j_goto (y := I_X7_best) 256 dX7_best_456 (by decide) ?_
            refine j_sub [1, 2, 3, 4, 0] rfl ?_
            exact ih e428_1 e428_2 e428_5 (1 : Int32) (wr T428 122 (ix e428_8) ((rd T428 122 (ix e428_8)) + (1 : Int32))) hK
set_option maxRecDepth 100000 in
set_option maxHeartbeats 4000000 in
theorem m_X7_best (l : Launch) (w : Wd)  (S : St)  : J l w I_X7_best 0 [(0, .ref (w.2.1 + 108))] [] S (fun b => (some (.int b.1), b.2)) (f_X7_best S) := by
  unfold f_X7_best
  refine j_iconst (y := I_X7_best) (v := 0) dX7_best_0 (by decide) ?_
  refine j_istore_n (y := I_X7_best) (ls' := [(1, .int (0 : Int32)), (0, .ref (w.2.1 + 108))]) dX7_best_1 rfl (by decide) rfl ?_
  refine j_iconst (y := I_X7_best) (v := 0) dX7_best_2 (by decide) ?_
  refine j_istore_n (y := I_X7_best) (ls' := [(2, .int (0 : Int32)), (1, .int (0 : Int32)), (0, .ref (w.2.1 + 108))]) dX7_best_3 rfl (by decide) rfl ?_
  refine j_sub [2, 1, 0] rfl ?_
  refine jl_X7_best_4 l w _ 6000 (0 : Int32) (0 : Int32) S  (fun e39_1 T39 => ?_)
  refine j_aload_n (y := I_X7_best) 0 dX7_best_39 rfl rfl ?_
  refine j_getR (y := I_X7_best) (j := 109) fl_7_7 k_108 rfl rfl dX7_best_40 ?_
  refine j_sipush (y := I_X7_best) (v := 782) dX7_best_43 (by decide) ?_
  refine j_ialdL (y := I_X7_best) k_109 (by decide) dX7_best_46 ?_
  refine j_istore_n (y := I_X7_best) (ls' := [(2, .int (rd T39 109 (ix (782 : Int32)))), (0, .ref (w.2.1 + 108)), (1, .int e39_1)]) dX7_best_47 rfl (by decide) rfl ?_
  refine j_iload_n (y := I_X7_best) 0 dX7_best_48 rfl rfl ?_
  refine j_if_eq (y := I_X7_best) 56 dX7_best_49 (by decide) (fun h49 => ?_) (fun h49 => ?_)
  · refine j_aload_n (y := I_X7_best) 1 dX7_best_56 rfl rfl ?_
    refine j_bipush (y := I_X7_best) (v := -6) dX7_best_57 (by decide) ?_
    refine j_callViT (y := I_X7_best) (As := [.int (-6 : Int32)]) cv_7_72 ⟨Nat.le_of_ble_eq_true rfl, Nat.le_of_ble_eq_true rfl⟩ k_108 rfl (Nat.le_of_ble_eq_true rfl) dX7_best_59 (c_X7_found l w (-6 : Int32) T39) ?_
    exact j_iret (y := I_X7_best) rfl dX7_best_62 rfl
  · refine j_iload_n (y := I_X7_best) 2 dX7_best_52 rfl rfl ?_
    refine j_if_ne (y := I_X7_best) 63 dX7_best_53 (by decide) (fun h53 => ?_) (fun h53 => ?_)
    · refine j_lconst (y := I_X7_best) (v := 1) dX7_best_63 (by decide) ?_
      refine j_lstore_n (y := I_X7_best) (ls' := [(3, .long (1 : Int64)), (2, .int (rd T39 109 (ix (782 : Int32)))), (0, .ref (w.2.1 + 108)), (1, .int e39_1)]) dX7_best_64 rfl (by decide) rfl ?_
      refine j_iconst (y := I_X7_best) (v := 0) dX7_best_65 (by decide) ?_
      refine j_istore (y := I_X7_best) (ls' := [(5, .int (0 : Int32)), (3, .long (1 : Int64)), (2, .int (rd T39 109 (ix (782 : Int32)))), (0, .ref (w.2.1 + 108)), (1, .int e39_1)]) dX7_best_66 (by decide) rfl ?_
      refine j_sub [3, 4, 2, 1, 0] rfl ?_
      refine jl_X7_best_68 l w _ 6000 e39_1 (rd T39 109 (ix (782 : Int32))) (1 : Int64) (0 : Int32) T39  (fun e85_1 e85_2 e85_3 T85 => ?_)
      refine j_lload_n (y := I_X7_best) 3 dX7_best_85 rfl rfl ?_
      refine j_ldc2 (y := I_X7_best) (v := 5000) dX7_best_86 (gm 1116 (by decide +kernel) rfl) ?_
      refine j_lcmp (y := I_X7_best) dX7_best_89 ?_
      refine j_if_le (y := I_X7_best) 100 dX7_best_90 (by decide) (fun h90 => ?_) (fun h90 => ?_)
      · refine j_iconst (y := I_X7_best) (v := 0) dX7_best_100 (by decide) ?_
        refine j_istore (y := I_X7_best) (ls' := [(5, .int (0 : Int32)), (0, .ref (w.2.1 + 108)), (1, .int e85_1), (2, .int e85_2), (3, .long e85_3)]) dX7_best_101 (by decide) rfl ?_
        refine j_sub [1, 2, 3, 0] rfl ?_
        refine jl_X7_best_103 l w _ 6000 e85_1 e85_2 (0 : Int32) T85  (fun e151_1 e151_2 T151 => ?_)
        refine j_iconst (y := I_X7_best) (v := 0) dX7_best_151 (by decide) ?_
        refine j_istore (y := I_X7_best) (ls' := [(5, .int (0 : Int32)), (0, .ref (w.2.1 + 108)), (1, .int e151_1), (2, .int e151_2)]) dX7_best_152 (by decide) rfl ?_
        refine j_sub [1, 2, 3, 0] rfl ?_
        refine jl_X7_best_154 l w _ 6000 e151_1 e151_2 (0 : Int32) T151  (fun e227_1 e227_2 T227 => ?_)
        refine j_iconst (y := I_X7_best) (v := 0) dX7_best_227 (by decide) ?_
        refine j_istore (y := I_X7_best) (ls' := [(5, .int (0 : Int32)), (0, .ref (w.2.1 + 108)), (1, .int e227_1), (2, .int e227_2)]) dX7_best_228 (by decide) rfl ?_
        refine j_sub [1, 2, 3, 0] rfl ?_
        refine jl_X7_best_230 l w _ 6000 e227_1 e227_2 (0 : Int32) T227  (fun e250_1 e250_2 T250 => ?_)
        refine j_iconst (y := I_X7_best) (v := -1) dX7_best_250 (by decide) ?_
        refine j_istore (y := I_X7_best) (ls' := [(5, .int (-1 : Int32)), (0, .ref (w.2.1 + 108)), (1, .int e250_1), (2, .int e250_2)]) dX7_best_251 (by decide) rfl ?_
        refine j_iconst (y := I_X7_best) (v := 1) dX7_best_253 (by decide) ?_
        refine j_istore (y := I_X7_best) (ls' := [(6, .int (1 : Int32)), (5, .int (-1 : Int32)), (0, .ref (w.2.1 + 108)), (1, .int e250_1), (2, .int e250_2)]) dX7_best_254 (by decide) rfl ?_
        refine j_sub [2, 3, 4, 1, 0] rfl ?_
        refine jl_X7_best_256 l w _ 6000 e250_1 e250_2 (-1 : Int32) (1 : Int32) T250  (fun e459_5 T459 => ?_)
        refine j_aload_n (y := I_X7_best) 0 dX7_best_459 rfl rfl ?_
        refine j_iconst (y := I_X7_best) (v := 1) dX7_best_460 (by decide) ?_
        refine j_putI (y := I_X7_best) fp_7_76 k_108 rfl rfl rfl dX7_best_461 ?_
        refine j_iload (y := I_X7_best) 1 dX7_best_464 rfl ?_
        exact j_iret (y := I_X7_best) rfl dX7_best_466 rfl
      · refine j_aload_n (y := I_X7_best) 0 dX7_best_93 rfl rfl ?_
        refine j_bipush (y := I_X7_best) (v := -8) dX7_best_94 (by decide) ?_
        refine j_callViT (y := I_X7_best) (As := [.int (-8 : Int32)]) cv_7_72 ⟨Nat.le_of_ble_eq_true rfl, Nat.le_of_ble_eq_true rfl⟩ k_108 rfl (Nat.le_of_ble_eq_true rfl) dX7_best_96 (c_X7_found l w (-8 : Int32) T85) ?_
        exact j_iret (y := I_X7_best) rfl dX7_best_99 rfl
    · refine j_aload_n (y := I_X7_best) 1 dX7_best_56 rfl rfl ?_
      refine j_bipush (y := I_X7_best) (v := -6) dX7_best_57 (by decide) ?_
      refine j_callViT (y := I_X7_best) (As := [.int (-6 : Int32)]) cv_7_72 ⟨Nat.le_of_ble_eq_true rfl, Nat.le_of_ble_eq_true rfl⟩ k_108 rfl (Nat.le_of_ble_eq_true rfl) dX7_best_59 (c_X7_found l w (-6 : Int32) T39) ?_
      exact j_iret (y := I_X7_best) rfl dX7_best_62 rfl
theorem c_X7_best (l : Launch) (w : Wd)  (S : St)  : ∀ v, f_X7_best S = some v → CtS l w I_X7_best [.ref (w.2.1 + 108)] S v.2 (some (.int v.1)) := fun v h => J.ct (av := [.ref (w.2.1 + 108)]) (Nat.le_of_ble_eq_true rfl) pn_7 (m_X7_best l w  S ) h
abbrev I_X7_isSort : MI := (yX7_isSort, cX7_isSort, 2, some .boolean, { frames := 1, cells := 0, slots := 0, locals := 22 })
theorem dX7_isSort_0 : decode cX7_isSort 0 = .ok (.iload_n 1, 1) := by decide +kernel
theorem dX7_isSort_1 : decode cX7_isSort 1 = .ok (.iconst 0, 1) := by decide +kernel
theorem dX7_isSort_2 : decode cX7_isSort 2 = .ok (.aload_n 0, 1) := by decide +kernel
theorem dX7_isSort_3 : decode cX7_isSort 3 = .ok (.getfield 7, 3) := by decide +kernel
theorem dX7_isSort_6 : decode cX7_isSort 6 = .ok (.sipush 782, 3) := by decide +kernel
theorem dX7_isSort_9 : decode cX7_isSort 9 = .ok (.iaload, 1) := by decide +kernel
theorem dX7_isSort_10 : decode cX7_isSort 10 = .ok (.iconst 1, 1) := by decide +kernel
theorem dX7_isSort_11 : decode cX7_isSort 11 = .ok (.isub, 1) := by decide +kernel
theorem dX7_isSort_12 : decode cX7_isSort 12 = .ok (.invokestatic 64, 3) := by decide +kernel
theorem dX7_isSort_15 : decode cX7_isSort 15 = .ok (.ireturn, 1) := by decide +kernel
def f_X7_isSort (x1 : Int32) (S : St) : Option (Bool) := some (f_X7_in x1 (0 : Int32) ((rd S 109 (ix (782 : Int32))) - (1 : Int32)))
set_option maxRecDepth 100000 in
set_option maxHeartbeats 4000000 in
theorem m_X7_isSort (l : Launch) (w : Wd) (x1 : Int32) (S : St)  : J l w I_X7_isSort 0 [(0, .ref (w.2.1 + 108)), (1, .int x1)] [] S (fun b => (some (.int (b2i b)), S)) (f_X7_isSort x1 S) := by
  unfold f_X7_isSort
  refine j_iload_n (y := I_X7_isSort) 1 dX7_isSort_0 rfl rfl ?_
  refine j_iconst (y := I_X7_isSort) (v := 0) dX7_isSort_1 (by decide) ?_
  refine j_aload_n (y := I_X7_isSort) 0 dX7_isSort_2 rfl rfl ?_
  refine j_getR (y := I_X7_isSort) (j := 109) fl_7_7 k_108 rfl rfl dX7_isSort_3 ?_
  refine j_sipush (y := I_X7_isSort) (v := 782) dX7_isSort_6 (by decide) ?_
  refine j_ialdL (y := I_X7_isSort) k_109 (by decide) dX7_isSort_9 ?_
  refine j_iconst (y := I_X7_isSort) (v := 1) dX7_isSort_10 (by decide) ?_
  refine j_isub (y := I_X7_isSort) dX7_isSort_11 ?_
  refine j_callSzT (y := I_X7_isSort) (As := [.int x1, .int (0 : Int32), .int ((rd S 109 (ix (782 : Int32))) - (1 : Int32))]) cv_7_64 ⟨Nat.le_of_ble_eq_true rfl, Nat.le_of_ble_eq_true rfl⟩ rfl (Nat.le_of_ble_eq_true rfl) dX7_isSort_12 (c_X7_in l w x1 (0 : Int32) ((rd S 109 (ix (782 : Int32))) - (1 : Int32)) S) ?_
  exact j_zret (y := I_X7_isSort) (q := (f_X7_in x1 (0 : Int32) ((rd S 109 (ix (782 : Int32))) - (1 : Int32)))) rfl rfl dX7_isSort_15 rfl
theorem c_X7_isSort (l : Launch) (w : Wd) (x1 : Int32) (S : St)  : ∀ v, f_X7_isSort x1 S = some v → CtS l w I_X7_isSort [.ref (w.2.1 + 108), .int x1] S S (some (.int (b2i v))) := fun v h => J.ct (av := [.ref (w.2.1 + 108), .int x1]) (Nat.le_of_ble_eq_true rfl) pn_7 (m_X7_isSort l w x1 S ) h
abbrev I_X7_blooms : MI := (yX7_blooms, cX7_blooms, 3, some .int, { frames := 5, cells := 0, slots := 0, locals := 117 })
theorem dX7_blooms_0 : decode cX7_blooms 0 = .ok (.aload_n 0, 1) := by decide +kernel
theorem dX7_blooms_1 : decode cX7_blooms 1 = .ok (.iload_n 1, 1) := by decide +kernel
theorem dX7_blooms_2 : decode cX7_blooms 2 = .ok (.invokevirtual 80, 3) := by decide +kernel
theorem dX7_blooms_5 : decode cX7_blooms 5 = .ok (.ifCond .ne 9, 3) := by decide +kernel
theorem dX7_blooms_8 : decode cX7_blooms 8 = .ok (.aload_n 0, 1) := by decide +kernel
theorem dX7_blooms_9 : decode cX7_blooms 9 = .ok (.iconst (-1), 1) := by decide +kernel
theorem dX7_blooms_10 : decode cX7_blooms 10 = .ok (.invokevirtual 72, 3) := by decide +kernel
theorem dX7_blooms_13 : decode cX7_blooms 13 = .ok (.ireturn, 1) := by decide +kernel
theorem dX7_blooms_14 : decode cX7_blooms 14 = .ok (.aload_n 0, 1) := by decide +kernel
theorem dX7_blooms_15 : decode cX7_blooms 15 = .ok (.iload_n 1, 1) := by decide +kernel
theorem dX7_blooms_16 : decode cX7_blooms 16 = .ok (.iconst 0, 1) := by decide +kernel
theorem dX7_blooms_17 : decode cX7_blooms 17 = .ok (.invokevirtual 133, 3) := by decide +kernel
theorem dX7_blooms_20 : decode cX7_blooms 20 = .ok (.istore_n 2, 1) := by decide +kernel
theorem dX7_blooms_21 : decode cX7_blooms 21 = .ok (.iload_n 2, 1) := by decide +kernel
theorem dX7_blooms_22 : decode cX7_blooms 22 = .ok (.bipush 100, 2) := by decide +kernel
theorem dX7_blooms_24 : decode cX7_blooms 24 = .ok (.if_icmp .ne 12, 3) := by decide +kernel
theorem dX7_blooms_27 : decode cX7_blooms 27 = .ok (.aload_n 0, 1) := by decide +kernel
theorem dX7_blooms_28 : decode cX7_blooms 28 = .ok (.bipush (-6), 2) := by decide +kernel
theorem dX7_blooms_30 : decode cX7_blooms 30 = .ok (.invokevirtual 72, 3) := by decide +kernel
theorem dX7_blooms_33 : decode cX7_blooms 33 = .ok (.goto 4, 3) := by decide +kernel
theorem dX7_blooms_36 : decode cX7_blooms 36 = .ok (.iload_n 2, 1) := by decide +kernel
theorem dX7_blooms_37 : decode cX7_blooms 37 = .ok (.ireturn, 1) := by decide +kernel
theorem cv_7_80 : CV RX7 80 1 7 I_X7_isSort := ⟨⟨⟨gm 868 (by decide +kernel) rfl, gm 871 (by decide +kernel) rfl, gm 44 (by decide +kernel) rfl, mh_7.1, mh_7.2, by decide +kernel⟩, gm 870 (by decide +kernel) rfl, gm 4 (by decide +kernel) rfl⟩, ⟨_, _, rfl⟩, rfl, rfl⟩
def f_X7_blooms (x1 : Int32) (S : St) : Option (Int32 × St) := (f_X7_isSort x1 S).bind fun v2 => (if v2 = true then ((f_X7_firstDay x1 false S).bind fun v17 => (if v17 = (100 : Int32) then (some (((f_X7_found (-6 : Int32) S).1), (f_X7_found (-6 : Int32) S).2)) else (some (v17, S)))) else (some (((f_X7_found (-1 : Int32) S).1), (f_X7_found (-1 : Int32) S).2)))
set_option maxRecDepth 100000 in
set_option maxHeartbeats 4000000 in
theorem m_X7_blooms (l : Launch) (w : Wd) (x1 : Int32) (S : St)  : J l w I_X7_blooms 0 [(0, .ref (w.2.1 + 108)), (1, .int x1)] [] S (fun b => (some (.int b.1), b.2)) (f_X7_blooms x1 S) := by
  unfold f_X7_blooms
  refine j_aload_n (y := I_X7_blooms) 0 dX7_blooms_0 rfl rfl ?_
  refine j_iload_n (y := I_X7_blooms) 1 dX7_blooms_1 rfl rfl ?_
  refine j_callVzR (y := I_X7_blooms) (As := [.int x1]) cv_7_80 ⟨Nat.le_of_ble_eq_true rfl, Nat.le_of_ble_eq_true rfl⟩ k_108 rfl (Nat.le_of_ble_eq_true rfl) dX7_blooms_2 (c_X7_isSort l w x1 S) (fun v2 h2 => ?_)
  refine j_if_neB (y := I_X7_blooms) 14 dX7_blooms_5 (by decide) (fun h5 => ?_) (fun h5 => ?_)
  · refine j_aload_n (y := I_X7_blooms) 0 dX7_blooms_14 rfl rfl ?_
    refine j_iload_n (y := I_X7_blooms) 1 dX7_blooms_15 rfl rfl ?_
    refine j_iconst (y := I_X7_blooms) (v := 0) dX7_blooms_16 (by decide) ?_
    refine j_callViR (y := I_X7_blooms) (As := [.int x1, .int (0 : Int32)]) cv_7_133 ⟨Nat.le_of_ble_eq_true rfl, Nat.le_of_ble_eq_true rfl⟩ k_108 rfl (Nat.le_of_ble_eq_true rfl) dX7_blooms_17 (c_X7_firstDay l w x1 false S) (fun v17 h17 => ?_)
    refine j_istore_n (y := I_X7_blooms) (ls' := [(2, .int v17), (0, .ref (w.2.1 + 108)), (1, .int x1)]) dX7_blooms_20 rfl (by decide) rfl ?_
    refine j_iload_n (y := I_X7_blooms) 0 dX7_blooms_21 rfl rfl ?_
    refine j_bipush (y := I_X7_blooms) (v := 100) dX7_blooms_22 (by decide) ?_
    refine j_icmp_ne (y := I_X7_blooms) 36 dX7_blooms_24 (by decide) (fun h24 => ?_) (fun h24 => ?_)
    · refine j_iload_n (y := I_X7_blooms) 0 dX7_blooms_36 rfl rfl ?_
      exact j_iret (y := I_X7_blooms) rfl dX7_blooms_37 rfl
    · refine j_aload_n (y := I_X7_blooms) 1 dX7_blooms_27 rfl rfl ?_
      refine j_bipush (y := I_X7_blooms) (v := -6) dX7_blooms_28 (by decide) ?_
      refine j_callViT (y := I_X7_blooms) (As := [.int (-6 : Int32)]) cv_7_72 ⟨Nat.le_of_ble_eq_true rfl, Nat.le_of_ble_eq_true rfl⟩ k_108 rfl (Nat.le_of_ble_eq_true rfl) dX7_blooms_30 (c_X7_found l w (-6 : Int32) S) ?_
      refine j_goto (y := I_X7_blooms) 37 dX7_blooms_33 (by decide) ?_
      exact j_iret (y := I_X7_blooms) rfl dX7_blooms_37 rfl
  · refine j_aload_n (y := I_X7_blooms) 0 dX7_blooms_8 rfl rfl ?_
    refine j_iconst (y := I_X7_blooms) (v := -1) dX7_blooms_9 (by decide) ?_
    refine j_callViT (y := I_X7_blooms) (As := [.int (-1 : Int32)]) cv_7_72 ⟨Nat.le_of_ble_eq_true rfl, Nat.le_of_ble_eq_true rfl⟩ k_108 rfl (Nat.le_of_ble_eq_true rfl) dX7_blooms_10 (c_X7_found l w (-1 : Int32) S) ?_
    exact j_iret (y := I_X7_blooms) rfl dX7_blooms_13 rfl
theorem c_X7_blooms (l : Launch) (w : Wd) (x1 : Int32) (S : St)  : ∀ v, f_X7_blooms x1 S = some v → CtS l w I_X7_blooms [.ref (w.2.1 + 108), .int x1] S v.2 (some (.int v.1)) := fun v h => J.ct (av := [.ref (w.2.1 + 108), .int x1]) (Nat.le_of_ble_eq_true rfl) pn_7 (m_X7_blooms l w x1 S ) h
abbrev I_X7_budsOf : MI := (yX7_budsOf, cX7_budsOf, 3, some .int, { frames := 2, cells := 0, slots := 0, locals := 43 })
theorem dX7_budsOf_0 : decode cX7_budsOf 0 = .ok (.aload_n 0, 1) := by decide +kernel
theorem dX7_budsOf_1 : decode cX7_budsOf 1 = .ok (.iload_n 1, 1) := by decide +kernel
theorem dX7_budsOf_2 : decode cX7_budsOf 2 = .ok (.invokevirtual 95, 3) := by decide +kernel
theorem dX7_budsOf_5 : decode cX7_budsOf 5 = .ok (.aload_n 0, 1) := by decide +kernel
theorem dX7_budsOf_6 : decode cX7_budsOf 6 = .ok (.aload_n 0, 1) := by decide +kernel
theorem dX7_budsOf_7 : decode cX7_budsOf 7 = .ok (.iload_n 1, 1) := by decide +kernel
theorem dX7_budsOf_8 : decode cX7_budsOf 8 = .ok (.iconst 3, 1) := by decide +kernel
theorem dX7_budsOf_9 : decode cX7_budsOf 9 = .ok (.invokevirtual 68, 3) := by decide +kernel
theorem dX7_budsOf_12 : decode cX7_budsOf 12 = .ok (.iconst 4, 1) := by decide +kernel
theorem dX7_budsOf_13 : decode cX7_budsOf 13 = .ok (.invokevirtual 98, 3) := by decide +kernel
theorem dX7_budsOf_16 : decode cX7_budsOf 16 = .ok (.if_icmp .ge 5, 3) := by decide +kernel
theorem dX7_budsOf_19 : decode cX7_budsOf 19 = .ok (.iconst 0, 1) := by decide +kernel
theorem dX7_budsOf_20 : decode cX7_budsOf 20 = .ok (.ireturn, 1) := by decide +kernel
theorem dX7_budsOf_21 : decode cX7_budsOf 21 = .ok (.bipush 20, 2) := by decide +kernel
theorem dX7_budsOf_23 : decode cX7_budsOf 23 = .ok (.aload_n 0, 1) := by decide +kernel
theorem dX7_budsOf_24 : decode cX7_budsOf 24 = .ok (.iload_n 1, 1) := by decide +kernel
theorem dX7_budsOf_25 : decode cX7_budsOf 25 = .ok (.bipush 6, 2) := by decide +kernel
theorem dX7_budsOf_27 : decode cX7_budsOf 27 = .ok (.invokevirtual 68, 3) := by decide +kernel
theorem dX7_budsOf_30 : decode cX7_budsOf 30 = .ok (.imul, 1) := by decide +kernel
theorem dX7_budsOf_31 : decode cX7_budsOf 31 = .ok (.aload_n 0, 1) := by decide +kernel
theorem dX7_budsOf_32 : decode cX7_budsOf 32 = .ok (.iload_n 1, 1) := by decide +kernel
theorem dX7_budsOf_33 : decode cX7_budsOf 33 = .ok (.bipush 7, 2) := by decide +kernel
theorem dX7_budsOf_35 : decode cX7_budsOf 35 = .ok (.invokevirtual 68, 3) := by decide +kernel
theorem dX7_budsOf_38 : decode cX7_budsOf 38 = .ok (.iconst 2, 1) := by decide +kernel
theorem dX7_budsOf_39 : decode cX7_budsOf 39 = .ok (.idiv, 1) := by decide +kernel
theorem dX7_budsOf_40 : decode cX7_budsOf 40 = .ok (.isub, 1) := by decide +kernel
theorem dX7_budsOf_41 : decode cX7_budsOf 41 = .ok (.istore_n 2, 1) := by decide +kernel
theorem dX7_budsOf_42 : decode cX7_budsOf 42 = .ok (.iload_n 2, 1) := by decide +kernel
theorem dX7_budsOf_43 : decode cX7_budsOf 43 = .ok (.ifCond .ge 5, 3) := by decide +kernel
theorem dX7_budsOf_46 : decode cX7_budsOf 46 = .ok (.iconst 0, 1) := by decide +kernel
theorem dX7_budsOf_47 : decode cX7_budsOf 47 = .ok (.ireturn, 1) := by decide +kernel
theorem dX7_budsOf_48 : decode cX7_budsOf 48 = .ok (.aload_n 0, 1) := by decide +kernel
theorem dX7_budsOf_49 : decode cX7_budsOf 49 = .ok (.iload_n 1, 1) := by decide +kernel
theorem dX7_budsOf_50 : decode cX7_budsOf 50 = .ok (.iconst 2, 1) := by decide +kernel
theorem dX7_budsOf_51 : decode cX7_budsOf 51 = .ok (.invokevirtual 68, 3) := by decide +kernel
theorem dX7_budsOf_54 : decode cX7_budsOf 54 = .ok (.iconst 3, 1) := by decide +kernel
theorem dX7_budsOf_55 : decode cX7_budsOf 55 = .ok (.if_icmp .ne 11, 3) := by decide +kernel
theorem dX7_budsOf_58 : decode cX7_budsOf 58 = .ok (.iload_n 2, 1) := by decide +kernel
theorem dX7_budsOf_59 : decode cX7_budsOf 59 = .ok (.iload_n 2, 1) := by decide +kernel
theorem dX7_budsOf_60 : decode cX7_budsOf 60 = .ok (.iconst 2, 1) := by decide +kernel
theorem dX7_budsOf_61 : decode cX7_budsOf 61 = .ok (.idiv, 1) := by decide +kernel
theorem dX7_budsOf_62 : decode cX7_budsOf 62 = .ok (.iadd, 1) := by decide +kernel
theorem dX7_budsOf_63 : decode cX7_budsOf 63 = .ok (.goto 4, 3) := by decide +kernel
theorem dX7_budsOf_66 : decode cX7_budsOf 66 = .ok (.iload_n 2, 1) := by decide +kernel
theorem dX7_budsOf_67 : decode cX7_budsOf 67 = .ok (.ireturn, 1) := by decide +kernel
theorem cv_7_95 : CV RX7 95 1 7 I_X7_age := ⟨⟨⟨gm 915 (by decide +kernel) rfl, gm 918 (by decide +kernel) rfl, gm 44 (by decide +kernel) rfl, mh_7.1, mh_7.2, by decide +kernel⟩, gm 917 (by decide +kernel) rfl, gm 9 (by decide +kernel) rfl⟩, ⟨_, _, rfl⟩, rfl, rfl⟩
def f_X7_budsOf (x1 : Int32) (S : St) : Option (Int32) := (f_X7_age x1 S).bind fun v2 => ((f_X7_get x1 (3 : Int32) S).bind fun v9 => ((f_X7_sortOf v9 (4 : Int32) S).bind fun v13 => (if v2 < v13 then (some (0 : Int32)) else ((f_X7_get x1 (6 : Int32) S).bind fun v27 => ((f_X7_get x1 (7 : Int32) S).bind fun v35 => (if (((20 : Int32) * v27) - (v35 / (2 : Int32))) < 0 then (some (0 : Int32)) else ((f_X7_get x1 (2 : Int32) S).bind fun v51 => (if v51 = (3 : Int32) then (some ((((20 : Int32) * v27) - (v35 / (2 : Int32))) + ((((20 : Int32) * v27) - (v35 / (2 : Int32))) / (2 : Int32)))) else (some (((20 : Int32) * v27) - (v35 / (2 : Int32))))))))))))
set_option maxRecDepth 100000 in
set_option maxHeartbeats 4000000 in
theorem m_X7_budsOf (l : Launch) (w : Wd) (x1 : Int32) (S : St)  : J l w I_X7_budsOf 0 [(0, .ref (w.2.1 + 108)), (1, .int x1)] [] S (fun b => (some (.int b), S)) (f_X7_budsOf x1 S) := by
  unfold f_X7_budsOf
  refine j_aload_n (y := I_X7_budsOf) 0 dX7_budsOf_0 rfl rfl ?_
  refine j_iload_n (y := I_X7_budsOf) 1 dX7_budsOf_1 rfl rfl ?_
  refine j_callViR (y := I_X7_budsOf) (As := [.int x1]) cv_7_95 ⟨Nat.le_of_ble_eq_true rfl, Nat.le_of_ble_eq_true rfl⟩ k_108 rfl (Nat.le_of_ble_eq_true rfl) dX7_budsOf_2 (c_X7_age l w x1 S) (fun v2 h2 => ?_)
  refine j_aload_n (y := I_X7_budsOf) 0 dX7_budsOf_5 rfl rfl ?_
  refine j_aload_n (y := I_X7_budsOf) 0 dX7_budsOf_6 rfl rfl ?_
  refine j_iload_n (y := I_X7_budsOf) 1 dX7_budsOf_7 rfl rfl ?_
  refine j_iconst (y := I_X7_budsOf) (v := 3) dX7_budsOf_8 (by decide) ?_
  refine j_callViR (y := I_X7_budsOf) (As := [.int x1, .int (3 : Int32)]) cv_7_68 ⟨Nat.le_of_ble_eq_true rfl, Nat.le_of_ble_eq_true rfl⟩ k_108 rfl (Nat.le_of_ble_eq_true rfl) dX7_budsOf_9 (c_X7_get l w x1 (3 : Int32) S) (fun v9 h9 => ?_)
  refine j_iconst (y := I_X7_budsOf) (v := 4) dX7_budsOf_12 (by decide) ?_
  refine j_callViR (y := I_X7_budsOf) (As := [.int v9, .int (4 : Int32)]) cv_7_98 ⟨Nat.le_of_ble_eq_true rfl, Nat.le_of_ble_eq_true rfl⟩ k_108 rfl (Nat.le_of_ble_eq_true rfl) dX7_budsOf_13 (c_X7_sortOf l w v9 (4 : Int32) S) (fun v13 h13 => ?_)
  refine j_icmp_ge (y := I_X7_budsOf) 21 dX7_budsOf_16 (by decide) (fun h16 => ?_) (fun h16 => ?_)
  · refine j_bipush (y := I_X7_budsOf) (v := 20) dX7_budsOf_21 (by decide) ?_
    refine j_aload_n (y := I_X7_budsOf) 0 dX7_budsOf_23 rfl rfl ?_
    refine j_iload_n (y := I_X7_budsOf) 1 dX7_budsOf_24 rfl rfl ?_
    refine j_bipush (y := I_X7_budsOf) (v := 6) dX7_budsOf_25 (by decide) ?_
    refine j_callViR (y := I_X7_budsOf) (As := [.int x1, .int (6 : Int32)]) cv_7_68 ⟨Nat.le_of_ble_eq_true rfl, Nat.le_of_ble_eq_true rfl⟩ k_108 rfl (Nat.le_of_ble_eq_true rfl) dX7_budsOf_27 (c_X7_get l w x1 (6 : Int32) S) (fun v27 h27 => ?_)
    refine j_imul (y := I_X7_budsOf) dX7_budsOf_30 ?_
    refine j_aload_n (y := I_X7_budsOf) 0 dX7_budsOf_31 rfl rfl ?_
    refine j_iload_n (y := I_X7_budsOf) 1 dX7_budsOf_32 rfl rfl ?_
    refine j_bipush (y := I_X7_budsOf) (v := 7) dX7_budsOf_33 (by decide) ?_
    refine j_callViR (y := I_X7_budsOf) (As := [.int x1, .int (7 : Int32)]) cv_7_68 ⟨Nat.le_of_ble_eq_true rfl, Nat.le_of_ble_eq_true rfl⟩ k_108 rfl (Nat.le_of_ble_eq_true rfl) dX7_budsOf_35 (c_X7_get l w x1 (7 : Int32) S) (fun v35 h35 => ?_)
    refine j_iconst (y := I_X7_budsOf) (v := 2) dX7_budsOf_38 (by decide) ?_
    refine j_idivL (y := I_X7_budsOf) dX7_budsOf_39 (by decide) ?_
    refine j_isub (y := I_X7_budsOf) dX7_budsOf_40 ?_
    refine j_istore_n (y := I_X7_budsOf) (ls' := [(2, .int (((20 : Int32) * v27) - (v35 / (2 : Int32)))), (0, .ref (w.2.1 + 108)), (1, .int x1)]) dX7_budsOf_41 rfl (by decide) rfl ?_
    refine j_iload_n (y := I_X7_budsOf) 0 dX7_budsOf_42 rfl rfl ?_
    refine j_if_ge (y := I_X7_budsOf) 48 dX7_budsOf_43 (by decide) (fun h43 => ?_) (fun h43 => ?_)
    · refine j_aload_n (y := I_X7_budsOf) 1 dX7_budsOf_48 rfl rfl ?_
      refine j_iload_n (y := I_X7_budsOf) 2 dX7_budsOf_49 rfl rfl ?_
      refine j_iconst (y := I_X7_budsOf) (v := 2) dX7_budsOf_50 (by decide) ?_
      refine j_callViR (y := I_X7_budsOf) (As := [.int x1, .int (2 : Int32)]) cv_7_68 ⟨Nat.le_of_ble_eq_true rfl, Nat.le_of_ble_eq_true rfl⟩ k_108 rfl (Nat.le_of_ble_eq_true rfl) dX7_budsOf_51 (c_X7_get l w x1 (2 : Int32) S) (fun v51 h51 => ?_)
      refine j_iconst (y := I_X7_budsOf) (v := 3) dX7_budsOf_54 (by decide) ?_
      refine j_icmp_ne (y := I_X7_budsOf) 66 dX7_budsOf_55 (by decide) (fun h55 => ?_) (fun h55 => ?_)
      · refine j_iload_n (y := I_X7_budsOf) 0 dX7_budsOf_66 rfl rfl ?_
        exact j_iret (y := I_X7_budsOf) rfl dX7_budsOf_67 rfl
      · refine j_iload_n (y := I_X7_budsOf) 0 dX7_budsOf_58 rfl rfl ?_
        refine j_iload_n (y := I_X7_budsOf) 0 dX7_budsOf_59 rfl rfl ?_
        refine j_iconst (y := I_X7_budsOf) (v := 2) dX7_budsOf_60 (by decide) ?_
        refine j_idivL (y := I_X7_budsOf) dX7_budsOf_61 (by decide) ?_
        refine j_iadd (y := I_X7_budsOf) dX7_budsOf_62 ?_
        refine j_goto (y := I_X7_budsOf) 67 dX7_budsOf_63 (by decide) ?_
        exact j_iret (y := I_X7_budsOf) rfl dX7_budsOf_67 rfl
    · refine j_iconst (y := I_X7_budsOf) (v := 0) dX7_budsOf_46 (by decide) ?_
      exact j_iret (y := I_X7_budsOf) rfl dX7_budsOf_47 rfl
  · refine j_iconst (y := I_X7_budsOf) (v := 0) dX7_budsOf_19 (by decide) ?_
    exact j_iret (y := I_X7_budsOf) rfl dX7_budsOf_20 rfl
theorem c_X7_budsOf (l : Launch) (w : Wd) (x1 : Int32) (S : St)  : ∀ v, f_X7_budsOf x1 S = some v → CtS l w I_X7_budsOf [.ref (w.2.1 + 108), .int x1] S S (some (.int v)) := fun v h => J.ct (av := [.ref (w.2.1 + 108), .int x1]) (Nat.le_of_ble_eq_true rfl) pn_7 (m_X7_budsOf l w x1 S ) h
abbrev I_X7_cell : MI := (yX7_cell, cX7_cell, 2, some .int, { frames := 0, cells := 0, slots := 0, locals := 0 })
theorem dX7_cell_0 : decode cX7_cell 0 = .ok (.sipush 198, 3) := by decide +kernel
theorem dX7_cell_3 : decode cX7_cell 3 = .ok (.bipush 64, 2) := by decide +kernel
theorem dX7_cell_5 : decode cX7_cell 5 = .ok (.iload_n 0, 1) := by decide +kernel
theorem dX7_cell_6 : decode cX7_cell 6 = .ok (.imul, 1) := by decide +kernel
theorem dX7_cell_7 : decode cX7_cell 7 = .ok (.iadd, 1) := by decide +kernel
theorem dX7_cell_8 : decode cX7_cell 8 = .ok (.iload_n 1, 1) := by decide +kernel
theorem dX7_cell_9 : decode cX7_cell 9 = .ok (.bipush 64, 2) := by decide +kernel
theorem dX7_cell_11 : decode cX7_cell 11 = .ok (.irem, 1) := by decide +kernel
theorem dX7_cell_12 : decode cX7_cell 12 = .ok (.iadd, 1) := by decide +kernel
theorem dX7_cell_13 : decode cX7_cell 13 = .ok (.ireturn, 1) := by decide +kernel
def f_X7_cell (x0 : Int32) (x1 : Int32)  : Int32 := (((198 : Int32) + ((64 : Int32) * x0)) + (x1 - x1 / (64 : Int32) * (64 : Int32)))
set_option maxRecDepth 100000 in
set_option maxHeartbeats 4000000 in
theorem m_X7_cell (l : Launch) (w : Wd) (x0 : Int32) (x1 : Int32) (S : St)  : J l w I_X7_cell 0 [(0, .int x0), (1, .int x1)] [] S (fun b => (some (.int b), S)) (some (f_X7_cell x0 x1)) := by
  unfold f_X7_cell
  refine j_sipush (y := I_X7_cell) (v := 198) dX7_cell_0 (by decide) ?_
  refine j_bipush (y := I_X7_cell) (v := 64) dX7_cell_3 (by decide) ?_
  refine j_iload_n (y := I_X7_cell) 0 dX7_cell_5 rfl rfl ?_
  refine j_imul (y := I_X7_cell) dX7_cell_6 ?_
  refine j_iadd (y := I_X7_cell) dX7_cell_7 ?_
  refine j_iload_n (y := I_X7_cell) 1 dX7_cell_8 rfl rfl ?_
  refine j_bipush (y := I_X7_cell) (v := 64) dX7_cell_9 (by decide) ?_
  refine j_iremL (y := I_X7_cell) dX7_cell_11 (by decide) ?_
  refine j_iadd (y := I_X7_cell) dX7_cell_12 ?_
  exact j_iret (y := I_X7_cell) rfl dX7_cell_13 rfl
theorem c_X7_cell (l : Launch) (w : Wd) (x0 : Int32) (x1 : Int32) (S : St)  : CtS l w I_X7_cell [.int x0, .int x1] S S (some (.int (f_X7_cell x0 x1))) := J.ct (av := [.int x0, .int x1]) (Nat.le_of_ble_eq_true rfl) pn_7 (m_X7_cell l w x0 x1 S ) rfl
abbrev I_X7_isSheet : MI := (yX7_isSheet, cX7_isSheet, 1, some .boolean, { frames := 1, cells := 0, slots := 0, locals := 22 })
theorem dX7_isSheet_0 : decode cX7_isSheet 0 = .ok (.iload_n 0, 1) := by decide +kernel
theorem dX7_isSheet_1 : decode cX7_isSheet 1 = .ok (.iconst 0, 1) := by decide +kernel
theorem dX7_isSheet_2 : decode cX7_isSheet 2 = .ok (.iconst 3, 1) := by decide +kernel
theorem dX7_isSheet_3 : decode cX7_isSheet 3 = .ok (.invokestatic 64, 3) := by decide +kernel
theorem dX7_isSheet_6 : decode cX7_isSheet 6 = .ok (.ireturn, 1) := by decide +kernel
def f_X7_isSheet (x0 : Int32)  : Bool := (f_X7_in x0 (0 : Int32) (3 : Int32))
set_option maxRecDepth 100000 in
set_option maxHeartbeats 4000000 in
theorem m_X7_isSheet (l : Launch) (w : Wd) (x0 : Int32) (S : St)  : J l w I_X7_isSheet 0 [(0, .int x0)] [] S (fun b => (some (.int (b2i b)), S)) (some (f_X7_isSheet x0)) := by
  unfold f_X7_isSheet
  refine j_iload_n (y := I_X7_isSheet) 0 dX7_isSheet_0 rfl rfl ?_
  refine j_iconst (y := I_X7_isSheet) (v := 0) dX7_isSheet_1 (by decide) ?_
  refine j_iconst (y := I_X7_isSheet) (v := 3) dX7_isSheet_2 (by decide) ?_
  refine j_callSzT (y := I_X7_isSheet) (As := [.int x0, .int (0 : Int32), .int (3 : Int32)]) cv_7_64 ⟨Nat.le_of_ble_eq_true rfl, Nat.le_of_ble_eq_true rfl⟩ rfl (Nat.le_of_ble_eq_true rfl) dX7_isSheet_3 (c_X7_in l w x0 (0 : Int32) (3 : Int32) S) ?_
  exact j_zret (y := I_X7_isSheet) (q := (f_X7_in x0 (0 : Int32) (3 : Int32))) rfl rfl dX7_isSheet_6 rfl
theorem c_X7_isSheet (l : Launch) (w : Wd) (x0 : Int32) (S : St)  : CtS l w I_X7_isSheet [.int x0] S S (some (.int (b2i (f_X7_isSheet x0)))) := J.ct (av := [.int x0]) (Nat.le_of_ble_eq_true rfl) pn_7 (m_X7_isSheet l w x0 S ) rfl
abbrev I_X7_copy : MI := (yX7_copy, cX7_copy, 7, some .int, { frames := 2, cells := 0, slots := 0, locals := 42 })
theorem dX7_copy_0 : decode cX7_copy 0 = .ok (.iload_n 1, 1) := by decide +kernel
theorem dX7_copy_1 : decode cX7_copy 1 = .ok (.invokestatic 110, 3) := by decide +kernel
theorem dX7_copy_4 : decode cX7_copy 4 = .ok (.ifCond .eq 10, 3) := by decide +kernel
theorem dX7_copy_7 : decode cX7_copy 7 = .ok (.iload_n 3, 1) := by decide +kernel
theorem dX7_copy_8 : decode cX7_copy 8 = .ok (.invokestatic 110, 3) := by decide +kernel
theorem dX7_copy_11 : decode cX7_copy 11 = .ok (.ifCond .ne 9, 3) := by decide +kernel
theorem dX7_copy_14 : decode cX7_copy 14 = .ok (.aload_n 0, 1) := by decide +kernel
theorem dX7_copy_15 : decode cX7_copy 15 = .ok (.iconst (-1), 1) := by decide +kernel
theorem dX7_copy_16 : decode cX7_copy 16 = .ok (.invokevirtual 72, 3) := by decide +kernel
theorem dX7_copy_19 : decode cX7_copy 19 = .ok (.ireturn, 1) := by decide +kernel
theorem dX7_copy_20 : decode cX7_copy 20 = .ok (.aload_n 0, 1) := by decide +kernel
theorem dX7_copy_21 : decode cX7_copy 21 = .ok (.getfield 23, 3) := by decide +kernel
theorem dX7_copy_24 : decode cX7_copy 24 = .ok (.iload_n 1, 1) := by decide +kernel
theorem dX7_copy_25 : decode cX7_copy 25 = .ok (.iaload, 1) := by decide +kernel
theorem dX7_copy_26 : decode cX7_copy 26 = .ok (.ifCond .eq 12, 3) := by decide +kernel
theorem dX7_copy_29 : decode cX7_copy 29 = .ok (.aload_n 0, 1) := by decide +kernel
theorem dX7_copy_30 : decode cX7_copy 30 = .ok (.getfield 23, 3) := by decide +kernel
theorem dX7_copy_33 : decode cX7_copy 33 = .ok (.iload_n 3, 1) := by decide +kernel
theorem dX7_copy_34 : decode cX7_copy 34 = .ok (.iaload, 1) := by decide +kernel
theorem dX7_copy_35 : decode cX7_copy 35 = .ok (.ifCond .ne 10, 3) := by decide +kernel
theorem dX7_copy_38 : decode cX7_copy 38 = .ok (.aload_n 0, 1) := by decide +kernel
theorem dX7_copy_39 : decode cX7_copy 39 = .ok (.bipush (-2), 2) := by decide +kernel
theorem dX7_copy_41 : decode cX7_copy 41 = .ok (.invokevirtual 72, 3) := by decide +kernel
theorem dX7_copy_44 : decode cX7_copy 44 = .ok (.ireturn, 1) := by decide +kernel
theorem dX7_copy_45 : decode cX7_copy 45 = .ok (.aload_n 0, 1) := by decide +kernel
theorem dX7_copy_46 : decode cX7_copy 46 = .ok (.getfield 23, 3) := by decide +kernel
theorem dX7_copy_49 : decode cX7_copy 49 = .ok (.iload_n 1, 1) := by decide +kernel
theorem dX7_copy_50 : decode cX7_copy 50 = .ok (.iaload, 1) := by decide +kernel
theorem dX7_copy_51 : decode cX7_copy 51 = .ok (.aload_n 0, 1) := by decide +kernel
theorem dX7_copy_52 : decode cX7_copy 52 = .ok (.getfield 23, 3) := by decide +kernel
theorem dX7_copy_55 : decode cX7_copy 55 = .ok (.iload_n 3, 1) := by decide +kernel
theorem dX7_copy_56 : decode cX7_copy 56 = .ok (.iaload, 1) := by decide +kernel
theorem dX7_copy_57 : decode cX7_copy 57 = .ok (.if_icmp .eq 10, 3) := by decide +kernel
theorem dX7_copy_60 : decode cX7_copy 60 = .ok (.aload_n 0, 1) := by decide +kernel
theorem dX7_copy_61 : decode cX7_copy 61 = .ok (.bipush (-4), 2) := by decide +kernel
theorem dX7_copy_63 : decode cX7_copy 63 = .ok (.invokevirtual 72, 3) := by decide +kernel
theorem dX7_copy_66 : decode cX7_copy 66 = .ok (.ireturn, 1) := by decide +kernel
theorem dX7_copy_67 : decode cX7_copy 67 = .ok (.iload_n 2, 1) := by decide +kernel
theorem dX7_copy_68 : decode cX7_copy 68 = .ok (.ifCond .lt 48, 3) := by decide +kernel
theorem dX7_copy_71 : decode cX7_copy 71 = .ok (.iload 4, 2) := by decide +kernel
theorem dX7_copy_73 : decode cX7_copy 73 = .ok (.ifCond .lt 43, 3) := by decide +kernel
theorem dX7_copy_76 : decode cX7_copy 76 = .ok (.iload 5, 2) := by decide +kernel
theorem dX7_copy_78 : decode cX7_copy 78 = .ok (.ifCond .lt 38, 3) := by decide +kernel
theorem dX7_copy_81 : decode cX7_copy 81 = .ok (.iload_n 2, 1) := by decide +kernel
theorem dX7_copy_82 : decode cX7_copy 82 = .ok (.i2l, 1) := by decide +kernel
theorem dX7_copy_83 : decode cX7_copy 83 = .ok (.iload 5, 2) := by decide +kernel
theorem dX7_copy_85 : decode cX7_copy 85 = .ok (.i2l, 1) := by decide +kernel
theorem dX7_copy_86 : decode cX7_copy 86 = .ok (.ladd, 1) := by decide +kernel
theorem dX7_copy_87 : decode cX7_copy 87 = .ok (.aload_n 0, 1) := by decide +kernel
theorem dX7_copy_88 : decode cX7_copy 88 = .ok (.getfield 26, 3) := by decide +kernel
theorem dX7_copy_91 : decode cX7_copy 91 = .ok (.iload_n 1, 1) := by decide +kernel
theorem dX7_copy_92 : decode cX7_copy 92 = .ok (.iaload, 1) := by decide +kernel
theorem dX7_copy_93 : decode cX7_copy 93 = .ok (.i2l, 1) := by decide +kernel
theorem dX7_copy_94 : decode cX7_copy 94 = .ok (.lcmp, 1) := by decide +kernel
theorem dX7_copy_95 : decode cX7_copy 95 = .ok (.ifCond .gt 21, 3) := by decide +kernel
theorem dX7_copy_98 : decode cX7_copy 98 = .ok (.iload 4, 2) := by decide +kernel
theorem dX7_copy_100 : decode cX7_copy 100 = .ok (.i2l, 1) := by decide +kernel
theorem dX7_copy_101 : decode cX7_copy 101 = .ok (.iload 5, 2) := by decide +kernel
theorem dX7_copy_103 : decode cX7_copy 103 = .ok (.i2l, 1) := by decide +kernel
theorem dX7_copy_104 : decode cX7_copy 104 = .ok (.ladd, 1) := by decide +kernel
theorem dX7_copy_105 : decode cX7_copy 105 = .ok (.aload_n 0, 1) := by decide +kernel
theorem dX7_copy_106 : decode cX7_copy 106 = .ok (.getfield 26, 3) := by decide +kernel
theorem dX7_copy_109 : decode cX7_copy 109 = .ok (.iload_n 3, 1) := by decide +kernel
theorem dX7_copy_110 : decode cX7_copy 110 = .ok (.iaload, 1) := by decide +kernel
theorem dX7_copy_111 : decode cX7_copy 111 = .ok (.i2l, 1) := by decide +kernel
theorem dX7_copy_112 : decode cX7_copy 112 = .ok (.lcmp, 1) := by decide +kernel
theorem dX7_copy_113 : decode cX7_copy 113 = .ok (.ifCond .le 9, 3) := by decide +kernel
theorem dX7_copy_116 : decode cX7_copy 116 = .ok (.aload_n 0, 1) := by decide +kernel
theorem dX7_copy_117 : decode cX7_copy 117 = .ok (.iconst (-1), 1) := by decide +kernel
theorem dX7_copy_118 : decode cX7_copy 118 = .ok (.invokevirtual 72, 3) := by decide +kernel
theorem dX7_copy_121 : decode cX7_copy 121 = .ok (.ireturn, 1) := by decide +kernel
theorem dX7_copy_122 : decode cX7_copy 122 = .ok (.iconst 0, 1) := by decide +kernel
theorem dX7_copy_123 : decode cX7_copy 123 = .ok (.istore 6, 2) := by decide +kernel
theorem dX7_copy_125 : decode cX7_copy 125 = .ok (.iload 6, 2) := by decide +kernel
theorem dX7_copy_127 : decode cX7_copy 127 = .ok (.iload 5, 2) := by decide +kernel
theorem dX7_copy_129 : decode cX7_copy 129 = .ok (.if_icmp .ge 30, 3) := by decide +kernel
theorem dX7_copy_132 : decode cX7_copy 132 = .ok (.aload_n 0, 1) := by decide +kernel
theorem dX7_copy_133 : decode cX7_copy 133 = .ok (.getfield 35, 3) := by decide +kernel
theorem dX7_copy_136 : decode cX7_copy 136 = .ok (.iload 6, 2) := by decide +kernel
theorem dX7_copy_138 : decode cX7_copy 138 = .ok (.aload_n 0, 1) := by decide +kernel
theorem dX7_copy_139 : decode cX7_copy 139 = .ok (.getfield 29, 3) := by decide +kernel
theorem dX7_copy_142 : decode cX7_copy 142 = .ok (.bipush 50, 2) := by decide +kernel
theorem dX7_copy_144 : decode cX7_copy 144 = .ok (.iload_n 1, 1) := by decide +kernel
theorem dX7_copy_145 : decode cX7_copy 145 = .ok (.imul, 1) := by decide +kernel
theorem dX7_copy_146 : decode cX7_copy 146 = .ok (.iload_n 2, 1) := by decide +kernel
theorem dX7_copy_147 : decode cX7_copy 147 = .ok (.iadd, 1) := by decide +kernel
theorem dX7_copy_148 : decode cX7_copy 148 = .ok (.iload 6, 2) := by decide +kernel
theorem dX7_copy_150 : decode cX7_copy 150 = .ok (.iadd, 1) := by decide +kernel
theorem dX7_copy_151 : decode cX7_copy 151 = .ok (.iaload, 1) := by decide +kernel
theorem dX7_copy_152 : decode cX7_copy 152 = .ok (.iastore, 1) := by decide +kernel
theorem dX7_copy_153 : decode cX7_copy 153 = .ok (.iinc 6 1, 3) := by decide +kernel
theorem dX7_copy_156 : decode cX7_copy 156 = .ok (.goto (-31), 3) := by decide +kernel
theorem dX7_copy_159 : decode cX7_copy 159 = .ok (.iconst 0, 1) := by decide +kernel
theorem dX7_copy_160 : decode cX7_copy 160 = .ok (.istore 6, 2) := by decide +kernel
theorem dX7_copy_162 : decode cX7_copy 162 = .ok (.iload 6, 2) := by decide +kernel
theorem dX7_copy_164 : decode cX7_copy 164 = .ok (.iload 5, 2) := by decide +kernel
theorem dX7_copy_166 : decode cX7_copy 166 = .ok (.if_icmp .ge 31, 3) := by decide +kernel
theorem dX7_copy_169 : decode cX7_copy 169 = .ok (.aload_n 0, 1) := by decide +kernel
theorem dX7_copy_170 : decode cX7_copy 170 = .ok (.getfield 29, 3) := by decide +kernel
theorem dX7_copy_173 : decode cX7_copy 173 = .ok (.bipush 50, 2) := by decide +kernel
theorem dX7_copy_175 : decode cX7_copy 175 = .ok (.iload_n 3, 1) := by decide +kernel
theorem dX7_copy_176 : decode cX7_copy 176 = .ok (.imul, 1) := by decide +kernel
theorem dX7_copy_177 : decode cX7_copy 177 = .ok (.iload 4, 2) := by decide +kernel
theorem dX7_copy_179 : decode cX7_copy 179 = .ok (.iadd, 1) := by decide +kernel
theorem dX7_copy_180 : decode cX7_copy 180 = .ok (.iload 6, 2) := by decide +kernel
theorem dX7_copy_182 : decode cX7_copy 182 = .ok (.iadd, 1) := by decide +kernel
theorem dX7_copy_183 : decode cX7_copy 183 = .ok (.aload_n 0, 1) := by decide +kernel
theorem dX7_copy_184 : decode cX7_copy 184 = .ok (.getfield 35, 3) := by decide +kernel
theorem dX7_copy_187 : decode cX7_copy 187 = .ok (.iload 6, 2) := by decide +kernel
theorem dX7_copy_189 : decode cX7_copy 189 = .ok (.iaload, 1) := by decide +kernel
theorem dX7_copy_190 : decode cX7_copy 190 = .ok (.iastore, 1) := by decide +kernel
theorem dX7_copy_191 : decode cX7_copy 191 = .ok (.iinc 6 1, 3) := by decide +kernel
theorem dX7_copy_194 : decode cX7_copy 194 = .ok (.goto (-32), 3) := by decide +kernel
theorem dX7_copy_197 : decode cX7_copy 197 = .ok (.iload 5, 2) := by decide +kernel
theorem dX7_copy_199 : decode cX7_copy 199 = .ok (.ireturn, 1) := by decide +kernel
theorem cv_7_110 : CS RX7 110 1 I_X7_isSheet := ⟨⟨⟨gm 939 (by decide +kernel) rfl, gm 941 (by decide +kernel) rfl, gm 44 (by decide +kernel) rfl, mh_7.1, mh_7.2, by decide +kernel⟩, gm 940 (by decide +kernel) rfl⟩, rfl, rfl⟩
def f_X7_copy_L125 (fuel : Nat) (K : Int32 → Int32 → Int32 → St → Option (Int32 × St)) (a125_1 : Int32) (a125_2 : Int32) (a125_3 : Int32) (a125_4 : Int32) (a125_5 : Int32) (a125_6 : Int32) (S125 : St) : Option (Int32 × St) := match fuel with
  | 0 => none
  | n + 1 => if a125_6 < a125_5 then (if inb ((((50 : Int32) * a125_1) + a125_2) + a125_6) 200 = true then (if inb a125_6 50 = true then (f_X7_copy_L125 n K a125_1 a125_2 a125_3 a125_4 a125_5 (a125_6 + (1 : Int32)) (wr S125 117 (ix a125_6) (rd S125 115 (ix ((((50 : Int32) * a125_1) + a125_2) + a125_6))))) else none) else none) else (K a125_3 a125_4 a125_5 S125)
def f_X7_copy_L162 (fuel : Nat) (K : Int32 → St → Option (Int32 × St)) (a162_3 : Int32) (a162_4 : Int32) (a162_5 : Int32) (a162_6 : Int32) (S162 : St) : Option (Int32 × St) := match fuel with
  | 0 => none
  | n + 1 => if a162_6 < a162_5 then (if inb a162_6 50 = true then (if inb ((((50 : Int32) * a162_3) + a162_4) + a162_6) 200 = true then (f_X7_copy_L162 n K a162_3 a162_4 a162_5 (a162_6 + (1 : Int32)) (wr S162 115 (ix ((((50 : Int32) * a162_3) + a162_4) + a162_6)) (rd S162 117 (ix a162_6)))) else none) else none) else (K a162_5 S162)
def f_X7_copy (x1 : Int32) (x2 : Int32) (x3 : Int32) (x4 : Int32) (x5 : Int32) (S : St) : Option (Int32 × St) := if (f_X7_isSheet x1) = true then (if (f_X7_isSheet x3) = true then (if inb x1 4 = true then (if (rd S 113 (ix x1)) = 0 then (some (((f_X7_found (-2 : Int32) S).1), (f_X7_found (-2 : Int32) S).2)) else (if inb x3 4 = true then (if (rd S 113 (ix x3)) = 0 then (some (((f_X7_found (-2 : Int32) S).1), (f_X7_found (-2 : Int32) S).2)) else (if inb x1 4 = true then (if inb x3 4 = true then (if (rd S 113 (ix x1)) = (rd S 113 (ix x3)) then (if x2 < 0 then (some (((f_X7_found (-1 : Int32) S).1), (f_X7_found (-1 : Int32) S).2)) else (if x4 < 0 then (some (((f_X7_found (-1 : Int32) S).1), (f_X7_found (-1 : Int32) S).2)) else (if x5 < 0 then (some (((f_X7_found (-1 : Int32) S).1), (f_X7_found (-1 : Int32) S).2)) else (if inb x1 4 = true then (if 0 < (lg_cmp (x2.toInt64 + x5.toInt64) ((rd S 114 (ix x1)).toInt64)) then (some (((f_X7_found (-1 : Int32) S).1), (f_X7_found (-1 : Int32) S).2)) else (if inb x3 4 = true then (if 0 < (lg_cmp (x4.toInt64 + x5.toInt64) ((rd S 114 (ix x3)).toInt64)) then (some (((f_X7_found (-1 : Int32) S).1), (f_X7_found (-1 : Int32) S).2)) else (f_X7_copy_L125 6000 (fun e159_3 e159_4 e159_5 T159 => (f_X7_copy_L162 6000 (fun e197_5 T197 => (some (e197_5, T197))) e159_3 e159_4 e159_5 (0 : Int32) T159)) x1 x2 x3 x4 x5 (0 : Int32) S)) else none)) else none)))) else (some (((f_X7_found (-4 : Int32) S).1), (f_X7_found (-4 : Int32) S).2))) else none) else none)) else none)) else none) else (some (((f_X7_found (-1 : Int32) S).1), (f_X7_found (-1 : Int32) S).2))) else (some (((f_X7_found (-1 : Int32) S).1), (f_X7_found (-1 : Int32) S).2))
set_option maxRecDepth 100000 in
theorem jl_X7_copy_125 (l : Launch) (w : Wd) (K : Int32 → Int32 → Int32 → St → Option (Int32 × St)) (n : Nat) : ∀ (a125_1 : Int32) (a125_2 : Int32) (a125_3 : Int32) (a125_4 : Int32) (a125_5 : Int32) (a125_6 : Int32) (S125 : St), (∀ (e159_3 : Int32) (e159_4 : Int32) (e159_5 : Int32) (S' : St) , J l w I_X7_copy 159 [(0, .ref (w.2.1 + 108)), (3, .int e159_3), (4, .int e159_4), (5, .int e159_5)] [] S' (fun b => (some (.int b.1), b.2)) (K e159_3 e159_4 e159_5 S')) → J l w I_X7_copy 125 [(0, .ref (w.2.1 + 108)), (1, .int a125_1), (2, .int a125_2), (3, .int a125_3), (4, .int a125_4), (5, .int a125_5), (6, .int a125_6)] [] S125 (fun b => (some (.int b.1), b.2)) (f_X7_copy_L125 n K a125_1 a125_2 a125_3 a125_4 a125_5 a125_6 S125) := by
  induction n with
  | zero =>
    intro a125_1 a125_2 a125_3 a125_4 a125_5 a125_6 S125 hK b h
    simp only [f_X7_copy_L125] at h
    cases h
  | succ n ih =>
    intro a125_1 a125_2 a125_3 a125_4 a125_5 a125_6 S125 hK
    rw [f_X7_copy_L125]
    refine j_iload (y := I_X7_copy) 6 dX7_copy_125 rfl ?_
    refine j_iload (y := I_X7_copy) 5 dX7_copy_127 rfl ?_
    refine j_icmp_ge (y := I_X7_copy) 159 dX7_copy_129 (by decide) (fun h129 => ?_) (fun h129 => ?_)
    · refine j_sub [0, 3, 4, 5] rfl ?_
      exact hK a125_3 a125_4 a125_5 S125
    · refine j_aload_n (y := I_X7_copy) 0 dX7_copy_132 rfl rfl ?_
      refine j_getR (y := I_X7_copy) (j := 117) fl_7_35 k_108 rfl rfl dX7_copy_133 ?_
      refine j_iload (y := I_X7_copy) 6 dX7_copy_136 rfl ?_
      refine j_aload_n (y := I_X7_copy) 0 dX7_copy_138 rfl rfl ?_
      refine j_getR (y := I_X7_copy) (j := 115) fl_7_29 k_108 rfl rfl dX7_copy_139 ?_
      refine j_bipush (y := I_X7_copy) (v := 50) dX7_copy_142 (by decide) ?_
      refine j_iload_n (y := I_X7_copy) 1 dX7_copy_144 rfl rfl ?_
      refine j_imul (y := I_X7_copy) dX7_copy_145 ?_
      refine j_iload_n (y := I_X7_copy) 2 dX7_copy_146 rfl rfl ?_
      refine j_iadd (y := I_X7_copy) dX7_copy_147 ?_
      refine j_iload (y := I_X7_copy) 6 dX7_copy_148 rfl ?_
      refine j_iadd (y := I_X7_copy) dX7_copy_150 ?_
      refine j_iald (y := I_X7_copy) k_115 dX7_copy_151 (fun h151 => ?_)
      refine j_iast (y := I_X7_copy) k_117 dX7_copy_152 (fun h152 => ?_)
      refine j_iinc (y := I_X7_copy) 6 (ls' := [(6, .int (a125_6 + (1 : Int32))), (0, .ref (w.2.1 + 108)), (1, .int a125_1), (2, .int a125_2), (3, .int a125_3), (4, .int a125_4), (5, .int a125_5)]) dX7_copy_153 rfl (ii _ _ (by decide) _) (by decide) rfl ?_
      refine j_goto (y := I_X7_copy) 125 dX7_copy_156 (by decide) ?_
      refine j_sub [1, 2, 3, 4, 5, 6, 0] rfl ?_
      exact ih a125_1 a125_2 a125_3 a125_4 a125_5 (a125_6 + (1 : Int32)) (wr S125 117 (ix a125_6) (rd S125 115 (ix ((((50 : Int32) * a125_1) + a125_2) + a125_6)))) hK
set_option maxRecDepth 100000 in
theorem jl_X7_copy_162 (l : Launch) (w : Wd) (K : Int32 → St → Option (Int32 × St)) (n : Nat) : ∀ (a162_3 : Int32) (a162_4 : Int32) (a162_5 : Int32) (a162_6 : Int32) (S162 : St), (∀ (e197_5 : Int32) (S' : St) , J l w I_X7_copy 197 [(5, .int e197_5)] [] S' (fun b => (some (.int b.1), b.2)) (K e197_5 S')) → J l w I_X7_copy 162 [(0, .ref (w.2.1 + 108)), (3, .int a162_3), (4, .int a162_4), (5, .int a162_5), (6, .int a162_6)] [] S162 (fun b => (some (.int b.1), b.2)) (f_X7_copy_L162 n K a162_3 a162_4 a162_5 a162_6 S162) := by
  induction n with
  | zero =>
    intro a162_3 a162_4 a162_5 a162_6 S162 hK b h
    simp only [f_X7_copy_L162] at h
    cases h
  | succ n ih =>
    intro a162_3 a162_4 a162_5 a162_6 S162 hK
    rw [f_X7_copy_L162]
    refine j_iload (y := I_X7_copy) 4 dX7_copy_162 rfl ?_
    refine j_iload (y := I_X7_copy) 3 dX7_copy_164 rfl ?_
    refine j_icmp_ge (y := I_X7_copy) 197 dX7_copy_166 (by decide) (fun h166 => ?_) (fun h166 => ?_)
    · refine j_sub [3] rfl ?_
      exact hK a162_5 S162
    · refine j_aload_n (y := I_X7_copy) 0 dX7_copy_169 rfl rfl ?_
      refine j_getR (y := I_X7_copy) (j := 115) fl_7_29 k_108 rfl rfl dX7_copy_170 ?_
      refine j_bipush (y := I_X7_copy) (v := 50) dX7_copy_173 (by decide) ?_
      refine j_iload_n (y := I_X7_copy) 1 dX7_copy_175 rfl rfl ?_
      refine j_imul (y := I_X7_copy) dX7_copy_176 ?_
      refine j_iload (y := I_X7_copy) 2 dX7_copy_177 rfl ?_
      refine j_iadd (y := I_X7_copy) dX7_copy_179 ?_
      refine j_iload (y := I_X7_copy) 4 dX7_copy_180 rfl ?_
      refine j_iadd (y := I_X7_copy) dX7_copy_182 ?_
      refine j_aload_n (y := I_X7_copy) 0 dX7_copy_183 rfl rfl ?_
      refine j_getR (y := I_X7_copy) (j := 117) fl_7_35 k_108 rfl rfl dX7_copy_184 ?_
      refine j_iload (y := I_X7_copy) 4 dX7_copy_187 rfl ?_
      refine j_iald (y := I_X7_copy) k_117 dX7_copy_189 (fun h189 => ?_)
      refine j_iast (y := I_X7_copy) k_115 dX7_copy_190 (fun h190 => ?_)
      refine j_iinc (y := I_X7_copy) 4 (ls' := [(6, .int (a162_6 + (1 : Int32))), (0, .ref (w.2.1 + 108)), (3, .int a162_3), (4, .int a162_4), (5, .int a162_5)]) dX7_copy_191 rfl (ii _ _ (by decide) _) (by decide) rfl ?_
      refine j_goto (y := I_X7_copy) 162 dX7_copy_194 (by decide) ?_
      refine j_sub [1, 2, 3, 4, 0] rfl ?_
      exact ih a162_3 a162_4 a162_5 (a162_6 + (1 : Int32)) (wr S162 115 (ix ((((50 : Int32) * a162_3) + a162_4) + a162_6)) (rd S162 117 (ix a162_6))) hK
set_option maxRecDepth 100000 in
set_option maxHeartbeats 4000000 in
theorem m_X7_copy (l : Launch) (w : Wd) (x1 : Int32) (x2 : Int32) (x3 : Int32) (x4 : Int32) (x5 : Int32) (S : St)  : J l w I_X7_copy 0 [(0, .ref (w.2.1 + 108)), (1, .int x1), (2, .int x2), (3, .int x3), (4, .int x4), (5, .int x5)] [] S (fun b => (some (.int b.1), b.2)) (f_X7_copy x1 x2 x3 x4 x5 S) := by
  unfold f_X7_copy
  refine j_iload_n (y := I_X7_copy) 1 dX7_copy_0 rfl rfl ?_
  refine j_callSzT (y := I_X7_copy) (As := [.int x1]) cv_7_110 ⟨Nat.le_of_ble_eq_true rfl, Nat.le_of_ble_eq_true rfl⟩ rfl (Nat.le_of_ble_eq_true rfl) dX7_copy_1 (c_X7_isSheet l w x1 S) ?_
  refine j_if_eqB (y := I_X7_copy) 14 dX7_copy_4 (by decide) (fun h4 => ?_) (fun h4 => ?_)
  · refine j_aload_n (y := I_X7_copy) 0 dX7_copy_14 rfl rfl ?_
    refine j_iconst (y := I_X7_copy) (v := -1) dX7_copy_15 (by decide) ?_
    refine j_callViT (y := I_X7_copy) (As := [.int (-1 : Int32)]) cv_7_72 ⟨Nat.le_of_ble_eq_true rfl, Nat.le_of_ble_eq_true rfl⟩ k_108 rfl (Nat.le_of_ble_eq_true rfl) dX7_copy_16 (c_X7_found l w (-1 : Int32) S) ?_
    exact j_iret (y := I_X7_copy) rfl dX7_copy_19 rfl
  · refine j_iload_n (y := I_X7_copy) 3 dX7_copy_7 rfl rfl ?_
    refine j_callSzT (y := I_X7_copy) (As := [.int x3]) cv_7_110 ⟨Nat.le_of_ble_eq_true rfl, Nat.le_of_ble_eq_true rfl⟩ rfl (Nat.le_of_ble_eq_true rfl) dX7_copy_8 (c_X7_isSheet l w x3 S) ?_
    refine j_if_neB (y := I_X7_copy) 20 dX7_copy_11 (by decide) (fun h11 => ?_) (fun h11 => ?_)
    · refine j_aload_n (y := I_X7_copy) 0 dX7_copy_20 rfl rfl ?_
      refine j_getR (y := I_X7_copy) (j := 113) fl_7_23 k_108 rfl rfl dX7_copy_21 ?_
      refine j_iload_n (y := I_X7_copy) 1 dX7_copy_24 rfl rfl ?_
      refine j_iald (y := I_X7_copy) k_113 dX7_copy_25 (fun h25 => ?_)
      refine j_if_eq (y := I_X7_copy) 38 dX7_copy_26 (by decide) (fun h26 => ?_) (fun h26 => ?_)
      · refine j_aload_n (y := I_X7_copy) 0 dX7_copy_38 rfl rfl ?_
        refine j_bipush (y := I_X7_copy) (v := -2) dX7_copy_39 (by decide) ?_
        refine j_callViT (y := I_X7_copy) (As := [.int (-2 : Int32)]) cv_7_72 ⟨Nat.le_of_ble_eq_true rfl, Nat.le_of_ble_eq_true rfl⟩ k_108 rfl (Nat.le_of_ble_eq_true rfl) dX7_copy_41 (c_X7_found l w (-2 : Int32) S) ?_
        exact j_iret (y := I_X7_copy) rfl dX7_copy_44 rfl
      · refine j_aload_n (y := I_X7_copy) 0 dX7_copy_29 rfl rfl ?_
        refine j_getR (y := I_X7_copy) (j := 113) fl_7_23 k_108 rfl rfl dX7_copy_30 ?_
        refine j_iload_n (y := I_X7_copy) 3 dX7_copy_33 rfl rfl ?_
        refine j_iald (y := I_X7_copy) k_113 dX7_copy_34 (fun h34 => ?_)
        refine j_if_ne (y := I_X7_copy) 45 dX7_copy_35 (by decide) (fun h35 => ?_) (fun h35 => ?_)
        · refine j_aload_n (y := I_X7_copy) 0 dX7_copy_45 rfl rfl ?_
          refine j_getR (y := I_X7_copy) (j := 113) fl_7_23 k_108 rfl rfl dX7_copy_46 ?_
          refine j_iload_n (y := I_X7_copy) 1 dX7_copy_49 rfl rfl ?_
          refine j_iald (y := I_X7_copy) k_113 dX7_copy_50 (fun h50 => ?_)
          refine j_aload_n (y := I_X7_copy) 0 dX7_copy_51 rfl rfl ?_
          refine j_getR (y := I_X7_copy) (j := 113) fl_7_23 k_108 rfl rfl dX7_copy_52 ?_
          refine j_iload_n (y := I_X7_copy) 3 dX7_copy_55 rfl rfl ?_
          refine j_iald (y := I_X7_copy) k_113 dX7_copy_56 (fun h56 => ?_)
          refine j_icmp_eq (y := I_X7_copy) 67 dX7_copy_57 (by decide) (fun h57 => ?_) (fun h57 => ?_)
          · refine j_iload_n (y := I_X7_copy) 2 dX7_copy_67 rfl rfl ?_
            refine j_if_lt (y := I_X7_copy) 116 dX7_copy_68 (by decide) (fun h68 => ?_) (fun h68 => ?_)
            · refine j_aload_n (y := I_X7_copy) 0 dX7_copy_116 rfl rfl ?_
              refine j_iconst (y := I_X7_copy) (v := -1) dX7_copy_117 (by decide) ?_
              refine j_callViT (y := I_X7_copy) (As := [.int (-1 : Int32)]) cv_7_72 ⟨Nat.le_of_ble_eq_true rfl, Nat.le_of_ble_eq_true rfl⟩ k_108 rfl (Nat.le_of_ble_eq_true rfl) dX7_copy_118 (c_X7_found l w (-1 : Int32) S) ?_
              exact j_iret (y := I_X7_copy) rfl dX7_copy_121 rfl
            · refine j_iload (y := I_X7_copy) 4 dX7_copy_71 rfl ?_
              refine j_if_lt (y := I_X7_copy) 116 dX7_copy_73 (by decide) (fun h73 => ?_) (fun h73 => ?_)
              · refine j_aload_n (y := I_X7_copy) 0 dX7_copy_116 rfl rfl ?_
                refine j_iconst (y := I_X7_copy) (v := -1) dX7_copy_117 (by decide) ?_
                refine j_callViT (y := I_X7_copy) (As := [.int (-1 : Int32)]) cv_7_72 ⟨Nat.le_of_ble_eq_true rfl, Nat.le_of_ble_eq_true rfl⟩ k_108 rfl (Nat.le_of_ble_eq_true rfl) dX7_copy_118 (c_X7_found l w (-1 : Int32) S) ?_
                exact j_iret (y := I_X7_copy) rfl dX7_copy_121 rfl
              · refine j_iload (y := I_X7_copy) 5 dX7_copy_76 rfl ?_
                refine j_if_lt (y := I_X7_copy) 116 dX7_copy_78 (by decide) (fun h78 => ?_) (fun h78 => ?_)
                · refine j_aload_n (y := I_X7_copy) 0 dX7_copy_116 rfl rfl ?_
                  refine j_iconst (y := I_X7_copy) (v := -1) dX7_copy_117 (by decide) ?_
                  refine j_callViT (y := I_X7_copy) (As := [.int (-1 : Int32)]) cv_7_72 ⟨Nat.le_of_ble_eq_true rfl, Nat.le_of_ble_eq_true rfl⟩ k_108 rfl (Nat.le_of_ble_eq_true rfl) dX7_copy_118 (c_X7_found l w (-1 : Int32) S) ?_
                  exact j_iret (y := I_X7_copy) rfl dX7_copy_121 rfl
                · refine j_iload_n (y := I_X7_copy) 2 dX7_copy_81 rfl rfl ?_
                  refine j_i2l (y := I_X7_copy) dX7_copy_82 ?_
                  refine j_iload (y := I_X7_copy) 5 dX7_copy_83 rfl ?_
                  refine j_i2l (y := I_X7_copy) dX7_copy_85 ?_
                  refine j_ladd (y := I_X7_copy) dX7_copy_86 ?_
                  refine j_aload_n (y := I_X7_copy) 0 dX7_copy_87 rfl rfl ?_
                  refine j_getR (y := I_X7_copy) (j := 114) fl_7_26 k_108 rfl rfl dX7_copy_88 ?_
                  refine j_iload_n (y := I_X7_copy) 1 dX7_copy_91 rfl rfl ?_
                  refine j_iald (y := I_X7_copy) k_114 dX7_copy_92 (fun h92 => ?_)
                  refine j_i2l (y := I_X7_copy) dX7_copy_93 ?_
                  refine j_lcmp (y := I_X7_copy) dX7_copy_94 ?_
                  refine j_if_gt (y := I_X7_copy) 116 dX7_copy_95 (by decide) (fun h95 => ?_) (fun h95 => ?_)
                  · refine j_aload_n (y := I_X7_copy) 0 dX7_copy_116 rfl rfl ?_
                    refine j_iconst (y := I_X7_copy) (v := -1) dX7_copy_117 (by decide) ?_
                    refine j_callViT (y := I_X7_copy) (As := [.int (-1 : Int32)]) cv_7_72 ⟨Nat.le_of_ble_eq_true rfl, Nat.le_of_ble_eq_true rfl⟩ k_108 rfl (Nat.le_of_ble_eq_true rfl) dX7_copy_118 (c_X7_found l w (-1 : Int32) S) ?_
                    exact j_iret (y := I_X7_copy) rfl dX7_copy_121 rfl
                  · refine j_iload (y := I_X7_copy) 4 dX7_copy_98 rfl ?_
                    refine j_i2l (y := I_X7_copy) dX7_copy_100 ?_
                    refine j_iload (y := I_X7_copy) 5 dX7_copy_101 rfl ?_
                    refine j_i2l (y := I_X7_copy) dX7_copy_103 ?_
                    refine j_ladd (y := I_X7_copy) dX7_copy_104 ?_
                    refine j_aload_n (y := I_X7_copy) 0 dX7_copy_105 rfl rfl ?_
                    refine j_getR (y := I_X7_copy) (j := 114) fl_7_26 k_108 rfl rfl dX7_copy_106 ?_
                    refine j_iload_n (y := I_X7_copy) 3 dX7_copy_109 rfl rfl ?_
                    refine j_iald (y := I_X7_copy) k_114 dX7_copy_110 (fun h110 => ?_)
                    refine j_i2l (y := I_X7_copy) dX7_copy_111 ?_
                    refine j_lcmp (y := I_X7_copy) dX7_copy_112 ?_
                    refine j_if_le (y := I_X7_copy) 122 dX7_copy_113 (by decide) (fun h113 => ?_) (fun h113 => ?_)
                    · refine j_iconst (y := I_X7_copy) (v := 0) dX7_copy_122 (by decide) ?_
                      refine j_istore (y := I_X7_copy) (ls' := [(6, .int (0 : Int32)), (0, .ref (w.2.1 + 108)), (1, .int x1), (2, .int x2), (3, .int x3), (4, .int x4), (5, .int x5)]) dX7_copy_123 (by decide) rfl ?_
                      refine j_sub [1, 2, 3, 4, 5, 6, 0] rfl ?_
                      refine jl_X7_copy_125 l w _ 6000 x1 x2 x3 x4 x5 (0 : Int32) S  (fun e159_3 e159_4 e159_5 T159 => ?_)
                      refine j_iconst (y := I_X7_copy) (v := 0) dX7_copy_159 (by decide) ?_
                      refine j_istore (y := I_X7_copy) (ls' := [(6, .int (0 : Int32)), (0, .ref (w.2.1 + 108)), (3, .int e159_3), (4, .int e159_4), (5, .int e159_5)]) dX7_copy_160 (by decide) rfl ?_
                      refine j_sub [1, 2, 3, 4, 0] rfl ?_
                      refine jl_X7_copy_162 l w _ 6000 e159_3 e159_4 e159_5 (0 : Int32) T159  (fun e197_5 T197 => ?_)
                      refine j_iload (y := I_X7_copy) 0 dX7_copy_197 rfl ?_
                      exact j_iret (y := I_X7_copy) rfl dX7_copy_199 rfl
                    · refine j_aload_n (y := I_X7_copy) 0 dX7_copy_116 rfl rfl ?_
                      refine j_iconst (y := I_X7_copy) (v := -1) dX7_copy_117 (by decide) ?_
                      refine j_callViT (y := I_X7_copy) (As := [.int (-1 : Int32)]) cv_7_72 ⟨Nat.le_of_ble_eq_true rfl, Nat.le_of_ble_eq_true rfl⟩ k_108 rfl (Nat.le_of_ble_eq_true rfl) dX7_copy_118 (c_X7_found l w (-1 : Int32) S) ?_
                      exact j_iret (y := I_X7_copy) rfl dX7_copy_121 rfl
          · refine j_aload_n (y := I_X7_copy) 0 dX7_copy_60 rfl rfl ?_
            refine j_bipush (y := I_X7_copy) (v := -4) dX7_copy_61 (by decide) ?_
            refine j_callViT (y := I_X7_copy) (As := [.int (-4 : Int32)]) cv_7_72 ⟨Nat.le_of_ble_eq_true rfl, Nat.le_of_ble_eq_true rfl⟩ k_108 rfl (Nat.le_of_ble_eq_true rfl) dX7_copy_63 (c_X7_found l w (-4 : Int32) S) ?_
            exact j_iret (y := I_X7_copy) rfl dX7_copy_66 rfl
        · refine j_aload_n (y := I_X7_copy) 0 dX7_copy_38 rfl rfl ?_
          refine j_bipush (y := I_X7_copy) (v := -2) dX7_copy_39 (by decide) ?_
          refine j_callViT (y := I_X7_copy) (As := [.int (-2 : Int32)]) cv_7_72 ⟨Nat.le_of_ble_eq_true rfl, Nat.le_of_ble_eq_true rfl⟩ k_108 rfl (Nat.le_of_ble_eq_true rfl) dX7_copy_41 (c_X7_found l w (-2 : Int32) S) ?_
          exact j_iret (y := I_X7_copy) rfl dX7_copy_44 rfl
    · refine j_aload_n (y := I_X7_copy) 0 dX7_copy_14 rfl rfl ?_
      refine j_iconst (y := I_X7_copy) (v := -1) dX7_copy_15 (by decide) ?_
      refine j_callViT (y := I_X7_copy) (As := [.int (-1 : Int32)]) cv_7_72 ⟨Nat.le_of_ble_eq_true rfl, Nat.le_of_ble_eq_true rfl⟩ k_108 rfl (Nat.le_of_ble_eq_true rfl) dX7_copy_16 (c_X7_found l w (-1 : Int32) S) ?_
      exact j_iret (y := I_X7_copy) rfl dX7_copy_19 rfl
theorem c_X7_copy (l : Launch) (w : Wd) (x1 : Int32) (x2 : Int32) (x3 : Int32) (x4 : Int32) (x5 : Int32) (S : St)  : ∀ v, f_X7_copy x1 x2 x3 x4 x5 S = some v → CtS l w I_X7_copy [.ref (w.2.1 + 108), .int x1, .int x2, .int x3, .int x4, .int x5] S v.2 (some (.int v.1)) := fun v h => J.ct (av := [.ref (w.2.1 + 108), .int x1, .int x2, .int x3, .int x4, .int x5]) (Nat.le_of_ble_eq_true rfl) pn_7 (m_X7_copy l w x1 x2 x3 x4 x5 S ) h
abbrev I_X7_lacks : MI := (yX7_lacks, cX7_lacks, 3, some .int, { frames := 1, cells := 0, slots := 0, locals := 22 })
theorem dX7_lacks_0 : decode cX7_lacks 0 = .ok (.aload_n 0, 1) := by decide +kernel
theorem dX7_lacks_1 : decode cX7_lacks 1 = .ok (.iload_n 1, 1) := by decide +kernel
theorem dX7_lacks_2 : decode cX7_lacks 2 = .ok (.iconst 2, 1) := by decide +kernel
theorem dX7_lacks_3 : decode cX7_lacks 3 = .ok (.invokevirtual 68, 3) := by decide +kernel
theorem dX7_lacks_6 : decode cX7_lacks 6 = .ok (.istore_n 2, 1) := by decide +kernel
theorem dX7_lacks_7 : decode cX7_lacks 7 = .ok (.iload_n 2, 1) := by decide +kernel
theorem dX7_lacks_8 : decode cX7_lacks 8 = .ok (.ifCond .ne 8, 3) := by decide +kernel
theorem dX7_lacks_11 : decode cX7_lacks 11 = .ok (.bipush (-6), 2) := by decide +kernel
theorem dX7_lacks_13 : decode cX7_lacks 13 = .ok (.goto 14, 3) := by decide +kernel
theorem dX7_lacks_16 : decode cX7_lacks 16 = .ok (.iload_n 2, 1) := by decide +kernel
theorem dX7_lacks_17 : decode cX7_lacks 17 = .ok (.iconst 5, 1) := by decide +kernel
theorem dX7_lacks_18 : decode cX7_lacks 18 = .ok (.if_icmp .ne 8, 3) := by decide +kernel
theorem dX7_lacks_21 : decode cX7_lacks 21 = .ok (.bipush (-4), 2) := by decide +kernel
theorem dX7_lacks_23 : decode cX7_lacks 23 = .ok (.goto 4, 3) := by decide +kernel
theorem dX7_lacks_26 : decode cX7_lacks 26 = .ok (.iconst 0, 1) := by decide +kernel
theorem dX7_lacks_27 : decode cX7_lacks 27 = .ok (.ireturn, 1) := by decide +kernel
def f_X7_lacks (x1 : Int32) (S : St) : Option (Int32) := (f_X7_get x1 (2 : Int32) S).bind fun v3 => (if v3 = 0 then (some (-6 : Int32)) else (if v3 = (5 : Int32) then (some (-4 : Int32)) else (some (0 : Int32))))
set_option maxRecDepth 100000 in
set_option maxHeartbeats 4000000 in
theorem m_X7_lacks (l : Launch) (w : Wd) (x1 : Int32) (S : St)  : J l w I_X7_lacks 0 [(0, .ref (w.2.1 + 108)), (1, .int x1)] [] S (fun b => (some (.int b), S)) (f_X7_lacks x1 S) := by
  unfold f_X7_lacks
  refine j_aload_n (y := I_X7_lacks) 0 dX7_lacks_0 rfl rfl ?_
  refine j_iload_n (y := I_X7_lacks) 1 dX7_lacks_1 rfl rfl ?_
  refine j_iconst (y := I_X7_lacks) (v := 2) dX7_lacks_2 (by decide) ?_
  refine j_callViR (y := I_X7_lacks) (As := [.int x1, .int (2 : Int32)]) cv_7_68 ⟨Nat.le_of_ble_eq_true rfl, Nat.le_of_ble_eq_true rfl⟩ k_108 rfl (Nat.le_of_ble_eq_true rfl) dX7_lacks_3 (c_X7_get l w x1 (2 : Int32) S) (fun v3 h3 => ?_)
  refine j_istore_n (y := I_X7_lacks) (ls' := [(2, .int v3), (0, .ref (w.2.1 + 108)), (1, .int x1)]) dX7_lacks_6 rfl (by decide) rfl ?_
  refine j_iload_n (y := I_X7_lacks) 0 dX7_lacks_7 rfl rfl ?_
  refine j_if_ne (y := I_X7_lacks) 16 dX7_lacks_8 (by decide) (fun h8 => ?_) (fun h8 => ?_)
  · refine j_iload_n (y := I_X7_lacks) 0 dX7_lacks_16 rfl rfl ?_
    refine j_iconst (y := I_X7_lacks) (v := 5) dX7_lacks_17 (by decide) ?_
    refine j_icmp_ne (y := I_X7_lacks) 26 dX7_lacks_18 (by decide) (fun h18 => ?_) (fun h18 => ?_)
    · refine j_iconst (y := I_X7_lacks) (v := 0) dX7_lacks_26 (by decide) ?_
      exact j_iret (y := I_X7_lacks) rfl dX7_lacks_27 rfl
    · refine j_bipush (y := I_X7_lacks) (v := -4) dX7_lacks_21 (by decide) ?_
      refine j_goto (y := I_X7_lacks) 27 dX7_lacks_23 (by decide) ?_
      exact j_iret (y := I_X7_lacks) rfl dX7_lacks_27 rfl
  · refine j_bipush (y := I_X7_lacks) (v := -6) dX7_lacks_11 (by decide) ?_
    refine j_goto (y := I_X7_lacks) 27 dX7_lacks_13 (by decide) ?_
    exact j_iret (y := I_X7_lacks) rfl dX7_lacks_27 rfl
theorem c_X7_lacks (l : Launch) (w : Wd) (x1 : Int32) (S : St)  : ∀ v, f_X7_lacks x1 S = some v → CtS l w I_X7_lacks [.ref (w.2.1 + 108), .int x1] S S (some (.int v)) := fun v h => J.ct (av := [.ref (w.2.1 + 108), .int x1]) (Nat.le_of_ble_eq_true rfl) pn_7 (m_X7_lacks l w x1 S ) h
abbrev I_X7_cut : MI := (yX7_cut, cX7_cut, 5, some .int, { frames := 2, cells := 0, slots := 0, locals := 44 })
theorem dX7_cut_0 : decode cX7_cut 0 = .ok (.iload_n 1, 1) := by decide +kernel
theorem dX7_cut_1 : decode cX7_cut 1 = .ok (.invokestatic 88, 3) := by decide +kernel
theorem dX7_cut_4 : decode cX7_cut 4 = .ok (.ifCond .eq 13, 3) := by decide +kernel
theorem dX7_cut_7 : decode cX7_cut 7 = .ok (.iload_n 2, 1) := by decide +kernel
theorem dX7_cut_8 : decode cX7_cut 8 = .ok (.iconst 0, 1) := by decide +kernel
theorem dX7_cut_9 : decode cX7_cut 9 = .ok (.bipush 9, 2) := by decide +kernel
theorem dX7_cut_11 : decode cX7_cut 11 = .ok (.invokestatic 64, 3) := by decide +kernel
theorem dX7_cut_14 : decode cX7_cut 14 = .ok (.ifCond .ne 9, 3) := by decide +kernel
theorem dX7_cut_17 : decode cX7_cut 17 = .ok (.aload_n 0, 1) := by decide +kernel
theorem dX7_cut_18 : decode cX7_cut 18 = .ok (.iconst (-1), 1) := by decide +kernel
theorem dX7_cut_19 : decode cX7_cut 19 = .ok (.invokevirtual 72, 3) := by decide +kernel
theorem dX7_cut_22 : decode cX7_cut 22 = .ok (.ireturn, 1) := by decide +kernel
theorem dX7_cut_23 : decode cX7_cut 23 = .ok (.aload_n 0, 1) := by decide +kernel
theorem dX7_cut_24 : decode cX7_cut 24 = .ok (.iload_n 1, 1) := by decide +kernel
theorem dX7_cut_25 : decode cX7_cut 25 = .ok (.invokevirtual 107, 3) := by decide +kernel
theorem dX7_cut_28 : decode cX7_cut 28 = .ok (.istore_n 3, 1) := by decide +kernel
theorem dX7_cut_29 : decode cX7_cut 29 = .ok (.iload_n 3, 1) := by decide +kernel
theorem dX7_cut_30 : decode cX7_cut 30 = .ok (.ifCond .ge 9, 3) := by decide +kernel
theorem dX7_cut_33 : decode cX7_cut 33 = .ok (.aload_n 0, 1) := by decide +kernel
theorem dX7_cut_34 : decode cX7_cut 34 = .ok (.iload_n 3, 1) := by decide +kernel
theorem dX7_cut_35 : decode cX7_cut 35 = .ok (.invokevirtual 72, 3) := by decide +kernel
theorem dX7_cut_38 : decode cX7_cut 38 = .ok (.ireturn, 1) := by decide +kernel
theorem dX7_cut_39 : decode cX7_cut 39 = .ok (.aload_n 0, 1) := by decide +kernel
theorem dX7_cut_40 : decode cX7_cut 40 = .ok (.iload_n 1, 1) := by decide +kernel
theorem dX7_cut_41 : decode cX7_cut 41 = .ok (.bipush 6, 2) := by decide +kernel
theorem dX7_cut_43 : decode cX7_cut 43 = .ok (.invokevirtual 68, 3) := by decide +kernel
theorem dX7_cut_46 : decode cX7_cut 46 = .ok (.iload_n 2, 1) := by decide +kernel
theorem dX7_cut_47 : decode cX7_cut 47 = .ok (.isub, 1) := by decide +kernel
theorem dX7_cut_48 : decode cX7_cut 48 = .ok (.istore 4, 2) := by decide +kernel
theorem dX7_cut_50 : decode cX7_cut 50 = .ok (.aload_n 0, 1) := by decide +kernel
theorem dX7_cut_51 : decode cX7_cut 51 = .ok (.iload_n 1, 1) := by decide +kernel
theorem dX7_cut_52 : decode cX7_cut 52 = .ok (.bipush 6, 2) := by decide +kernel
theorem dX7_cut_54 : decode cX7_cut 54 = .ok (.iload 4, 2) := by decide +kernel
theorem dX7_cut_56 : decode cX7_cut 56 = .ok (.ifCond .ge 7, 3) := by decide +kernel
theorem dX7_cut_59 : decode cX7_cut 59 = .ok (.iconst 0, 1) := by decide +kernel
theorem dX7_cut_60 : decode cX7_cut 60 = .ok (.goto 5, 3) := by decide +kernel
theorem dX7_cut_63 : decode cX7_cut 63 = .ok (.iload 4, 2) := by decide +kernel
theorem dX7_cut_65 : decode cX7_cut 65 = .ok (.invokevirtual 91, 3) := by decide +kernel
theorem dX7_cut_68 : decode cX7_cut 68 = .ok (.aload_n 0, 1) := by decide +kernel
theorem dX7_cut_69 : decode cX7_cut 69 = .ok (.iload_n 1, 1) := by decide +kernel
theorem dX7_cut_70 : decode cX7_cut 70 = .ok (.bipush 6, 2) := by decide +kernel
theorem dX7_cut_72 : decode cX7_cut 72 = .ok (.invokevirtual 68, 3) := by decide +kernel
theorem dX7_cut_75 : decode cX7_cut 75 = .ok (.ireturn, 1) := by decide +kernel
theorem cv_7_107 : CV RX7 107 1 7 I_X7_lacks := ⟨⟨⟨gm 931 (by decide +kernel) rfl, gm 934 (by decide +kernel) rfl, gm 44 (by decide +kernel) rfl, mh_7.1, mh_7.2, by decide +kernel⟩, gm 933 (by decide +kernel) rfl, gm 12 (by decide +kernel) rfl⟩, ⟨_, _, rfl⟩, rfl, rfl⟩
def f_X7_cut (x1 : Int32) (x2 : Int32) (S : St) : Option (Int32 × St) := if (f_X7_isPlace x1) = true then (if (f_X7_in x2 (0 : Int32) (9 : Int32)) = true then ((f_X7_lacks x1 S).bind fun v25 => (if v25 < 0 then (some (((f_X7_found v25 S).1), (f_X7_found v25 S).2)) else ((f_X7_get x1 (6 : Int32) S).bind fun v43 => (if (v43 - x2) < 0 then ((f_X7_lay x1 (6 : Int32) (0 : Int32) S).bind fun v65 => ((f_X7_get x1 (6 : Int32) v65).bind fun v72 => (some (v72, v65)))) else ((f_X7_lay x1 (6 : Int32) (v43 - x2) S).bind fun v65 => ((f_X7_get x1 (6 : Int32) v65).bind fun v72 => (some (v72, v65)))))))) else (some (((f_X7_found (-1 : Int32) S).1), (f_X7_found (-1 : Int32) S).2))) else (some (((f_X7_found (-1 : Int32) S).1), (f_X7_found (-1 : Int32) S).2))
set_option maxRecDepth 100000 in
set_option maxHeartbeats 4000000 in
theorem m_X7_cut (l : Launch) (w : Wd) (x1 : Int32) (x2 : Int32) (S : St)  : J l w I_X7_cut 0 [(0, .ref (w.2.1 + 108)), (1, .int x1), (2, .int x2)] [] S (fun b => (some (.int b.1), b.2)) (f_X7_cut x1 x2 S) := by
  unfold f_X7_cut
  refine j_iload_n (y := I_X7_cut) 1 dX7_cut_0 rfl rfl ?_
  refine j_callSzT (y := I_X7_cut) (As := [.int x1]) cv_7_88 ⟨Nat.le_of_ble_eq_true rfl, Nat.le_of_ble_eq_true rfl⟩ rfl (Nat.le_of_ble_eq_true rfl) dX7_cut_1 (c_X7_isPlace l w x1 S) ?_
  refine j_if_eqB (y := I_X7_cut) 17 dX7_cut_4 (by decide) (fun h4 => ?_) (fun h4 => ?_)
  · refine j_aload_n (y := I_X7_cut) 0 dX7_cut_17 rfl rfl ?_
    refine j_iconst (y := I_X7_cut) (v := -1) dX7_cut_18 (by decide) ?_
    refine j_callViT (y := I_X7_cut) (As := [.int (-1 : Int32)]) cv_7_72 ⟨Nat.le_of_ble_eq_true rfl, Nat.le_of_ble_eq_true rfl⟩ k_108 rfl (Nat.le_of_ble_eq_true rfl) dX7_cut_19 (c_X7_found l w (-1 : Int32) S) ?_
    exact j_iret (y := I_X7_cut) rfl dX7_cut_22 rfl
  · refine j_iload_n (y := I_X7_cut) 2 dX7_cut_7 rfl rfl ?_
    refine j_iconst (y := I_X7_cut) (v := 0) dX7_cut_8 (by decide) ?_
    refine j_bipush (y := I_X7_cut) (v := 9) dX7_cut_9 (by decide) ?_
    refine j_callSzT (y := I_X7_cut) (As := [.int x2, .int (0 : Int32), .int (9 : Int32)]) cv_7_64 ⟨Nat.le_of_ble_eq_true rfl, Nat.le_of_ble_eq_true rfl⟩ rfl (Nat.le_of_ble_eq_true rfl) dX7_cut_11 (c_X7_in l w x2 (0 : Int32) (9 : Int32) S) ?_
    refine j_if_neB (y := I_X7_cut) 23 dX7_cut_14 (by decide) (fun h14 => ?_) (fun h14 => ?_)
    · refine j_aload_n (y := I_X7_cut) 0 dX7_cut_23 rfl rfl ?_
      refine j_iload_n (y := I_X7_cut) 1 dX7_cut_24 rfl rfl ?_
      refine j_callViR (y := I_X7_cut) (As := [.int x1]) cv_7_107 ⟨Nat.le_of_ble_eq_true rfl, Nat.le_of_ble_eq_true rfl⟩ k_108 rfl (Nat.le_of_ble_eq_true rfl) dX7_cut_25 (c_X7_lacks l w x1 S) (fun v25 h25 => ?_)
      refine j_istore_n (y := I_X7_cut) (ls' := [(3, .int v25), (0, .ref (w.2.1 + 108)), (1, .int x1), (2, .int x2)]) dX7_cut_28 rfl (by decide) rfl ?_
      refine j_iload_n (y := I_X7_cut) 0 dX7_cut_29 rfl rfl ?_
      refine j_if_ge (y := I_X7_cut) 39 dX7_cut_30 (by decide) (fun h30 => ?_) (fun h30 => ?_)
      · refine j_aload_n (y := I_X7_cut) 1 dX7_cut_39 rfl rfl ?_
        refine j_iload_n (y := I_X7_cut) 2 dX7_cut_40 rfl rfl ?_
        refine j_bipush (y := I_X7_cut) (v := 6) dX7_cut_41 (by decide) ?_
        refine j_callViR (y := I_X7_cut) (As := [.int x1, .int (6 : Int32)]) cv_7_68 ⟨Nat.le_of_ble_eq_true rfl, Nat.le_of_ble_eq_true rfl⟩ k_108 rfl (Nat.le_of_ble_eq_true rfl) dX7_cut_43 (c_X7_get l w x1 (6 : Int32) S) (fun v43 h43 => ?_)
        refine j_iload_n (y := I_X7_cut) 3 dX7_cut_46 rfl rfl ?_
        refine j_isub (y := I_X7_cut) dX7_cut_47 ?_
        refine j_istore (y := I_X7_cut) (ls' := [(4, .int (v43 - x2)), (3, .int v25), (0, .ref (w.2.1 + 108)), (1, .int x1), (2, .int x2)]) dX7_cut_48 (by decide) rfl ?_
        refine j_aload_n (y := I_X7_cut) 2 dX7_cut_50 rfl rfl ?_
        refine j_iload_n (y := I_X7_cut) 3 dX7_cut_51 rfl rfl ?_
        refine j_bipush (y := I_X7_cut) (v := 6) dX7_cut_52 (by decide) ?_
        refine j_iload (y := I_X7_cut) 0 dX7_cut_54 rfl ?_
        refine j_if_ge (y := I_X7_cut) 63 dX7_cut_56 (by decide) (fun h56 => ?_) (fun h56 => ?_)
        · refine j_iload (y := I_X7_cut) 0 dX7_cut_63 rfl ?_
          refine j_callVvS (y := I_X7_cut) (As := [.int x1, .int (6 : Int32), .int (v43 - x2)]) cv_7_91 ⟨Nat.le_of_ble_eq_true rfl, Nat.le_of_ble_eq_true rfl⟩ k_108 rfl (Nat.le_of_ble_eq_true rfl) dX7_cut_65 (c_X7_lay l w x1 (6 : Int32) (v43 - x2) S) (fun v65 h65 => ?_)
          refine j_aload_n (y := I_X7_cut) 2 dX7_cut_68 rfl rfl ?_
          refine j_iload_n (y := I_X7_cut) 3 dX7_cut_69 rfl rfl ?_
          refine j_bipush (y := I_X7_cut) (v := 6) dX7_cut_70 (by decide) ?_
          refine j_callViR (y := I_X7_cut) (As := [.int x1, .int (6 : Int32)]) cv_7_68 ⟨Nat.le_of_ble_eq_true rfl, Nat.le_of_ble_eq_true rfl⟩ k_108 rfl (Nat.le_of_ble_eq_true rfl) dX7_cut_72 (c_X7_get l w x1 (6 : Int32) v65) (fun v72 h72 => ?_)
          exact j_iret (y := I_X7_cut) rfl dX7_cut_75 rfl
        · refine j_iconst (y := I_X7_cut) (v := 0) dX7_cut_59 (by decide) ?_
          refine j_goto (y := I_X7_cut) 65 dX7_cut_60 (by decide) ?_
          refine j_callVvS (y := I_X7_cut) (As := [.int x1, .int (6 : Int32), .int (0 : Int32)]) cv_7_91 ⟨Nat.le_of_ble_eq_true rfl, Nat.le_of_ble_eq_true rfl⟩ k_108 rfl (Nat.le_of_ble_eq_true rfl) dX7_cut_65 (c_X7_lay l w x1 (6 : Int32) (0 : Int32) S) (fun v65 h65 => ?_)
          refine j_aload_n (y := I_X7_cut) 2 dX7_cut_68 rfl rfl ?_
          refine j_iload_n (y := I_X7_cut) 3 dX7_cut_69 rfl rfl ?_
          refine j_bipush (y := I_X7_cut) (v := 6) dX7_cut_70 (by decide) ?_
          refine j_callViR (y := I_X7_cut) (As := [.int x1, .int (6 : Int32)]) cv_7_68 ⟨Nat.le_of_ble_eq_true rfl, Nat.le_of_ble_eq_true rfl⟩ k_108 rfl (Nat.le_of_ble_eq_true rfl) dX7_cut_72 (c_X7_get l w x1 (6 : Int32) v65) (fun v72 h72 => ?_)
          exact j_iret (y := I_X7_cut) rfl dX7_cut_75 rfl
      · refine j_aload_n (y := I_X7_cut) 1 dX7_cut_33 rfl rfl ?_
        refine j_iload_n (y := I_X7_cut) 0 dX7_cut_34 rfl rfl ?_
        refine j_callViT (y := I_X7_cut) (As := [.int v25]) cv_7_72 ⟨Nat.le_of_ble_eq_true rfl, Nat.le_of_ble_eq_true rfl⟩ k_108 rfl (Nat.le_of_ble_eq_true rfl) dX7_cut_35 (c_X7_found l w v25 S) ?_
        exact j_iret (y := I_X7_cut) rfl dX7_cut_38 rfl
    · refine j_aload_n (y := I_X7_cut) 0 dX7_cut_17 rfl rfl ?_
      refine j_iconst (y := I_X7_cut) (v := -1) dX7_cut_18 (by decide) ?_
      refine j_callViT (y := I_X7_cut) (As := [.int (-1 : Int32)]) cv_7_72 ⟨Nat.le_of_ble_eq_true rfl, Nat.le_of_ble_eq_true rfl⟩ k_108 rfl (Nat.le_of_ble_eq_true rfl) dX7_cut_19 (c_X7_found l w (-1 : Int32) S) ?_
      exact j_iret (y := I_X7_cut) rfl dX7_cut_22 rfl
theorem c_X7_cut (l : Launch) (w : Wd) (x1 : Int32) (x2 : Int32) (S : St)  : ∀ v, f_X7_cut x1 x2 S = some v → CtS l w I_X7_cut [.ref (w.2.1 + 108), .int x1, .int x2] S v.2 (some (.int v.1)) := fun v h => J.ct (av := [.ref (w.2.1 + 108), .int x1, .int x2]) (Nat.le_of_ble_eq_true rfl) pn_7 (m_X7_cut l w x1 x2 S ) h
abbrev I_X7_isTree : MI := (yX7_isTree, cX7_isTree, 2, some .boolean, { frames := 1, cells := 0, slots := 0, locals := 22 })
theorem dX7_isTree_0 : decode cX7_isTree 0 = .ok (.aload_n 0, 1) := by decide +kernel
theorem dX7_isTree_1 : decode cX7_isTree 1 = .ok (.iload_n 1, 1) := by decide +kernel
theorem dX7_isTree_2 : decode cX7_isTree 2 = .ok (.iconst 2, 1) := by decide +kernel
theorem dX7_isTree_3 : decode cX7_isTree 3 = .ok (.invokevirtual 68, 3) := by decide +kernel
theorem dX7_isTree_6 : decode cX7_isTree 6 = .ok (.iconst 1, 1) := by decide +kernel
theorem dX7_isTree_7 : decode cX7_isTree 7 = .ok (.iconst 4, 1) := by decide +kernel
theorem dX7_isTree_8 : decode cX7_isTree 8 = .ok (.invokestatic 64, 3) := by decide +kernel
theorem dX7_isTree_11 : decode cX7_isTree 11 = .ok (.ireturn, 1) := by decide +kernel
def f_X7_isTree (x1 : Int32) (S : St) : Option (Bool) := (f_X7_get x1 (2 : Int32) S).bind fun v3 => (some (f_X7_in v3 (1 : Int32) (4 : Int32)))
set_option maxRecDepth 100000 in
set_option maxHeartbeats 4000000 in
theorem m_X7_isTree (l : Launch) (w : Wd) (x1 : Int32) (S : St)  : J l w I_X7_isTree 0 [(0, .ref (w.2.1 + 108)), (1, .int x1)] [] S (fun b => (some (.int (b2i b)), S)) (f_X7_isTree x1 S) := by
  unfold f_X7_isTree
  refine j_aload_n (y := I_X7_isTree) 0 dX7_isTree_0 rfl rfl ?_
  refine j_iload_n (y := I_X7_isTree) 1 dX7_isTree_1 rfl rfl ?_
  refine j_iconst (y := I_X7_isTree) (v := 2) dX7_isTree_2 (by decide) ?_
  refine j_callViR (y := I_X7_isTree) (As := [.int x1, .int (2 : Int32)]) cv_7_68 ⟨Nat.le_of_ble_eq_true rfl, Nat.le_of_ble_eq_true rfl⟩ k_108 rfl (Nat.le_of_ble_eq_true rfl) dX7_isTree_3 (c_X7_get l w x1 (2 : Int32) S) (fun v3 h3 => ?_)
  refine j_iconst (y := I_X7_isTree) (v := 1) dX7_isTree_6 (by decide) ?_
  refine j_iconst (y := I_X7_isTree) (v := 4) dX7_isTree_7 (by decide) ?_
  refine j_callSzT (y := I_X7_isTree) (As := [.int v3, .int (1 : Int32), .int (4 : Int32)]) cv_7_64 ⟨Nat.le_of_ble_eq_true rfl, Nat.le_of_ble_eq_true rfl⟩ rfl (Nat.le_of_ble_eq_true rfl) dX7_isTree_8 (c_X7_in l w v3 (1 : Int32) (4 : Int32) S) ?_
  exact j_zret (y := I_X7_isTree) (q := (f_X7_in v3 (1 : Int32) (4 : Int32))) rfl rfl dX7_isTree_11 rfl
theorem c_X7_isTree (l : Launch) (w : Wd) (x1 : Int32) (S : St)  : ∀ v, f_X7_isTree x1 S = some v → CtS l w I_X7_isTree [.ref (w.2.1 + 108), .int x1] S S (some (.int (b2i v))) := fun v h => J.ct (av := [.ref (w.2.1 + 108), .int x1]) (Nat.le_of_ble_eq_true rfl) pn_7 (m_X7_isTree l w x1 S ) h
abbrev I_X7_isPart : MI := (yX7_isPart, cX7_isPart, 2, some .boolean, { frames := 2, cells := 0, slots := 0, locals := 43 })
theorem dX7_isPart_0 : decode cX7_isPart 0 = .ok (.aload_n 0, 1) := by decide +kernel
theorem dX7_isPart_1 : decode cX7_isPart 1 = .ok (.iload_n 1, 1) := by decide +kernel
theorem dX7_isPart_2 : decode cX7_isPart 2 = .ok (.iconst 2, 1) := by decide +kernel
theorem dX7_isPart_3 : decode cX7_isPart 3 = .ok (.idiv, 1) := by decide +kernel
theorem dX7_isPart_4 : decode cX7_isPart 4 = .ok (.invokevirtual 137, 3) := by decide +kernel
theorem dX7_isPart_7 : decode cX7_isPart 7 = .ok (.ifCond .eq 25, 3) := by decide +kernel
theorem dX7_isPart_10 : decode cX7_isPart 10 = .ok (.iload_n 1, 1) := by decide +kernel
theorem dX7_isPart_11 : decode cX7_isPart 11 = .ok (.iconst 2, 1) := by decide +kernel
theorem dX7_isPart_12 : decode cX7_isPart 12 = .ok (.irem, 1) := by decide +kernel
theorem dX7_isPart_13 : decode cX7_isPart 13 = .ok (.ifCond .eq 15, 3) := by decide +kernel
theorem dX7_isPart_16 : decode cX7_isPart 16 = .ok (.aload_n 0, 1) := by decide +kernel
theorem dX7_isPart_17 : decode cX7_isPart 17 = .ok (.iload_n 1, 1) := by decide +kernel
theorem dX7_isPart_18 : decode cX7_isPart 18 = .ok (.iconst 2, 1) := by decide +kernel
theorem dX7_isPart_19 : decode cX7_isPart 19 = .ok (.idiv, 1) := by decide +kernel
theorem dX7_isPart_20 : decode cX7_isPart 20 = .ok (.iconst 2, 1) := by decide +kernel
theorem dX7_isPart_21 : decode cX7_isPart 21 = .ok (.invokevirtual 68, 3) := by decide +kernel
theorem dX7_isPart_24 : decode cX7_isPart 24 = .ok (.iconst 2, 1) := by decide +kernel
theorem dX7_isPart_25 : decode cX7_isPart 25 = .ok (.if_icmp .ne 7, 3) := by decide +kernel
theorem dX7_isPart_28 : decode cX7_isPart 28 = .ok (.iconst 1, 1) := by decide +kernel
theorem dX7_isPart_29 : decode cX7_isPart 29 = .ok (.goto 4, 3) := by decide +kernel
theorem dX7_isPart_32 : decode cX7_isPart 32 = .ok (.iconst 0, 1) := by decide +kernel
theorem dX7_isPart_33 : decode cX7_isPart 33 = .ok (.ireturn, 1) := by decide +kernel
theorem cv_7_137 : CV RX7 137 1 7 I_X7_isTree := ⟨⟨⟨gm 1009 (by decide +kernel) rfl, gm 1012 (by decide +kernel) rfl, gm 44 (by decide +kernel) rfl, mh_7.1, mh_7.2, by decide +kernel⟩, gm 1011 (by decide +kernel) rfl, gm 19 (by decide +kernel) rfl⟩, ⟨_, _, rfl⟩, rfl, rfl⟩
def f_X7_isPart (x1 : Int32) (S : St) : Option (Bool) := (f_X7_isTree (x1 / (2 : Int32)) S).bind fun v4 => (if v4 = true then (if (x1 - x1 / (2 : Int32) * (2 : Int32)) = 0 then (some true) else ((f_X7_get (x1 / (2 : Int32)) (2 : Int32) S).bind fun v21 => (if v21 = (2 : Int32) then (some true) else (some false)))) else (some false))
set_option maxRecDepth 100000 in
set_option maxHeartbeats 4000000 in
theorem m_X7_isPart (l : Launch) (w : Wd) (x1 : Int32) (S : St)  : J l w I_X7_isPart 0 [(0, .ref (w.2.1 + 108)), (1, .int x1)] [] S (fun b => (some (.int (b2i b)), S)) (f_X7_isPart x1 S) := by
  unfold f_X7_isPart
  refine j_aload_n (y := I_X7_isPart) 0 dX7_isPart_0 rfl rfl ?_
  refine j_iload_n (y := I_X7_isPart) 1 dX7_isPart_1 rfl rfl ?_
  refine j_iconst (y := I_X7_isPart) (v := 2) dX7_isPart_2 (by decide) ?_
  refine j_idivL (y := I_X7_isPart) dX7_isPart_3 (by decide) ?_
  refine j_callVzR (y := I_X7_isPart) (As := [.int (x1 / (2 : Int32))]) cv_7_137 ⟨Nat.le_of_ble_eq_true rfl, Nat.le_of_ble_eq_true rfl⟩ k_108 rfl (Nat.le_of_ble_eq_true rfl) dX7_isPart_4 (c_X7_isTree l w (x1 / (2 : Int32)) S) (fun v4 h4 => ?_)
  refine j_if_eqB (y := I_X7_isPart) 32 dX7_isPart_7 (by decide) (fun h7 => ?_) (fun h7 => ?_)
  · refine j_iconst (y := I_X7_isPart) (v := 0) dX7_isPart_32 (by decide) ?_
    exact j_zret (y := I_X7_isPart) (q := false) rfl rfl dX7_isPart_33 rfl
  · refine j_iload_n (y := I_X7_isPart) 1 dX7_isPart_10 rfl rfl ?_
    refine j_iconst (y := I_X7_isPart) (v := 2) dX7_isPart_11 (by decide) ?_
    refine j_iremL (y := I_X7_isPart) dX7_isPart_12 (by decide) ?_
    refine j_if_eq (y := I_X7_isPart) 28 dX7_isPart_13 (by decide) (fun h13 => ?_) (fun h13 => ?_)
    · refine j_iconst (y := I_X7_isPart) (v := 1) dX7_isPart_28 (by decide) ?_
      refine j_goto (y := I_X7_isPart) 33 dX7_isPart_29 (by decide) ?_
      exact j_zret (y := I_X7_isPart) (q := true) rfl rfl dX7_isPart_33 rfl
    · refine j_aload_n (y := I_X7_isPart) 0 dX7_isPart_16 rfl rfl ?_
      refine j_iload_n (y := I_X7_isPart) 1 dX7_isPart_17 rfl rfl ?_
      refine j_iconst (y := I_X7_isPart) (v := 2) dX7_isPart_18 (by decide) ?_
      refine j_idivL (y := I_X7_isPart) dX7_isPart_19 (by decide) ?_
      refine j_iconst (y := I_X7_isPart) (v := 2) dX7_isPart_20 (by decide) ?_
      refine j_callViR (y := I_X7_isPart) (As := [.int (x1 / (2 : Int32)), .int (2 : Int32)]) cv_7_68 ⟨Nat.le_of_ble_eq_true rfl, Nat.le_of_ble_eq_true rfl⟩ k_108 rfl (Nat.le_of_ble_eq_true rfl) dX7_isPart_21 (c_X7_get l w (x1 / (2 : Int32)) (2 : Int32) S) (fun v21 h21 => ?_)
      refine j_iconst (y := I_X7_isPart) (v := 2) dX7_isPart_24 (by decide) ?_
      refine j_icmp_ne (y := I_X7_isPart) 32 dX7_isPart_25 (by decide) (fun h25 => ?_) (fun h25 => ?_)
      · refine j_iconst (y := I_X7_isPart) (v := 0) dX7_isPart_32 (by decide) ?_
        exact j_zret (y := I_X7_isPart) (q := false) rfl rfl dX7_isPart_33 rfl
      · refine j_iconst (y := I_X7_isPart) (v := 1) dX7_isPart_28 (by decide) ?_
        refine j_goto (y := I_X7_isPart) 33 dX7_isPart_29 (by decide) ?_
        exact j_zret (y := I_X7_isPart) (q := true) rfl rfl dX7_isPart_33 rfl
theorem c_X7_isPart (l : Launch) (w : Wd) (x1 : Int32) (S : St)  : ∀ v, f_X7_isPart x1 S = some v → CtS l w I_X7_isPart [.ref (w.2.1 + 108), .int x1] S S (some (.int (b2i v))) := fun v h => J.ct (av := [.ref (w.2.1 + 108), .int x1]) (Nat.le_of_ble_eq_true rfl) pn_7 (m_X7_isPart l w x1 S ) h
abbrev I_X7_sortOfPart : MI := (yX7_sortOfPart, cX7_sortOfPart, 2, some .int, { frames := 1, cells := 0, slots := 0, locals := 22 })
theorem dX7_sortOfPart_0 : decode cX7_sortOfPart 0 = .ok (.aload_n 0, 1) := by decide +kernel
theorem dX7_sortOfPart_1 : decode cX7_sortOfPart 1 = .ok (.iload_n 1, 1) := by decide +kernel
theorem dX7_sortOfPart_2 : decode cX7_sortOfPart 2 = .ok (.iconst 2, 1) := by decide +kernel
theorem dX7_sortOfPart_3 : decode cX7_sortOfPart 3 = .ok (.idiv, 1) := by decide +kernel
theorem dX7_sortOfPart_4 : decode cX7_sortOfPart 4 = .ok (.iload_n 1, 1) := by decide +kernel
theorem dX7_sortOfPart_5 : decode cX7_sortOfPart 5 = .ok (.iconst 2, 1) := by decide +kernel
theorem dX7_sortOfPart_6 : decode cX7_sortOfPart 6 = .ok (.irem, 1) := by decide +kernel
theorem dX7_sortOfPart_7 : decode cX7_sortOfPart 7 = .ok (.ifCond .ne 7, 3) := by decide +kernel
theorem dX7_sortOfPart_10 : decode cX7_sortOfPart 10 = .ok (.iconst 3, 1) := by decide +kernel
theorem dX7_sortOfPart_11 : decode cX7_sortOfPart 11 = .ok (.goto 4, 3) := by decide +kernel
theorem dX7_sortOfPart_14 : decode cX7_sortOfPart 14 = .ok (.iconst 4, 1) := by decide +kernel
theorem dX7_sortOfPart_15 : decode cX7_sortOfPart 15 = .ok (.invokevirtual 68, 3) := by decide +kernel
theorem dX7_sortOfPart_18 : decode cX7_sortOfPart 18 = .ok (.ireturn, 1) := by decide +kernel
def f_X7_sortOfPart (x1 : Int32) (S : St) : Option (Int32) := if (x1 - x1 / (2 : Int32) * (2 : Int32)) = 0 then ((f_X7_get (x1 / (2 : Int32)) (3 : Int32) S).bind fun v15 => (some v15)) else ((f_X7_get (x1 / (2 : Int32)) (4 : Int32) S).bind fun v15 => (some v15))
set_option maxRecDepth 100000 in
set_option maxHeartbeats 4000000 in
theorem m_X7_sortOfPart (l : Launch) (w : Wd) (x1 : Int32) (S : St)  : J l w I_X7_sortOfPart 0 [(0, .ref (w.2.1 + 108)), (1, .int x1)] [] S (fun b => (some (.int b), S)) (f_X7_sortOfPart x1 S) := by
  unfold f_X7_sortOfPart
  refine j_aload_n (y := I_X7_sortOfPart) 0 dX7_sortOfPart_0 rfl rfl ?_
  refine j_iload_n (y := I_X7_sortOfPart) 1 dX7_sortOfPart_1 rfl rfl ?_
  refine j_iconst (y := I_X7_sortOfPart) (v := 2) dX7_sortOfPart_2 (by decide) ?_
  refine j_idivL (y := I_X7_sortOfPart) dX7_sortOfPart_3 (by decide) ?_
  refine j_iload_n (y := I_X7_sortOfPart) 1 dX7_sortOfPart_4 rfl rfl ?_
  refine j_iconst (y := I_X7_sortOfPart) (v := 2) dX7_sortOfPart_5 (by decide) ?_
  refine j_iremL (y := I_X7_sortOfPart) dX7_sortOfPart_6 (by decide) ?_
  refine j_if_ne (y := I_X7_sortOfPart) 14 dX7_sortOfPart_7 (by decide) (fun h7 => ?_) (fun h7 => ?_)
  · refine j_iconst (y := I_X7_sortOfPart) (v := 4) dX7_sortOfPart_14 (by decide) ?_
    refine j_callViR (y := I_X7_sortOfPart) (As := [.int (x1 / (2 : Int32)), .int (4 : Int32)]) cv_7_68 ⟨Nat.le_of_ble_eq_true rfl, Nat.le_of_ble_eq_true rfl⟩ k_108 rfl (Nat.le_of_ble_eq_true rfl) dX7_sortOfPart_15 (c_X7_get l w (x1 / (2 : Int32)) (4 : Int32) S) (fun v15 h15 => ?_)
    exact j_iret (y := I_X7_sortOfPart) rfl dX7_sortOfPart_18 rfl
  · refine j_iconst (y := I_X7_sortOfPart) (v := 3) dX7_sortOfPart_10 (by decide) ?_
    refine j_goto (y := I_X7_sortOfPart) 15 dX7_sortOfPart_11 (by decide) ?_
    refine j_callViR (y := I_X7_sortOfPart) (As := [.int (x1 / (2 : Int32)), .int (3 : Int32)]) cv_7_68 ⟨Nat.le_of_ble_eq_true rfl, Nat.le_of_ble_eq_true rfl⟩ k_108 rfl (Nat.le_of_ble_eq_true rfl) dX7_sortOfPart_15 (c_X7_get l w (x1 / (2 : Int32)) (3 : Int32) S) (fun v15 h15 => ?_)
    exact j_iret (y := I_X7_sortOfPart) rfl dX7_sortOfPart_18 rfl
theorem c_X7_sortOfPart (l : Launch) (w : Wd) (x1 : Int32) (S : St)  : ∀ v, f_X7_sortOfPart x1 S = some v → CtS l w I_X7_sortOfPart [.ref (w.2.1 + 108), .int x1] S S (some (.int v)) := fun v h => J.ct (av := [.ref (w.2.1 + 108), .int x1]) (Nat.le_of_ble_eq_true rfl) pn_7 (m_X7_sortOfPart l w x1 S ) h
abbrev I_X7_isOpen : MI := (yX7_isOpen, cX7_isOpen, 3, some .boolean, { frames := 6, cells := 0, slots := 0, locals := 141 })
theorem dX7_isOpen_0 : decode cX7_isOpen 0 = .ok (.aload_n 0, 1) := by decide +kernel
theorem dX7_isOpen_1 : decode cX7_isOpen 1 = .ok (.iload_n 1, 1) := by decide +kernel
theorem dX7_isOpen_2 : decode cX7_isOpen 2 = .ok (.invokevirtual 140, 3) := by decide +kernel
theorem dX7_isOpen_5 : decode cX7_isOpen 5 = .ok (.ifCond .eq 31, 3) := by decide +kernel
theorem dX7_isOpen_8 : decode cX7_isOpen 8 = .ok (.aload_n 0, 1) := by decide +kernel
theorem dX7_isOpen_9 : decode cX7_isOpen 9 = .ok (.iload_n 1, 1) := by decide +kernel
theorem dX7_isOpen_10 : decode cX7_isOpen 10 = .ok (.iconst 2, 1) := by decide +kernel
theorem dX7_isOpen_11 : decode cX7_isOpen 11 = .ok (.idiv, 1) := by decide +kernel
theorem dX7_isOpen_12 : decode cX7_isOpen 12 = .ok (.invokevirtual 104, 3) := by decide +kernel
theorem dX7_isOpen_15 : decode cX7_isOpen 15 = .ok (.ifCond .le 21, 3) := by decide +kernel
theorem dX7_isOpen_18 : decode cX7_isOpen 18 = .ok (.aload_n 0, 1) := by decide +kernel
theorem dX7_isOpen_19 : decode cX7_isOpen 19 = .ok (.aload_n 0, 1) := by decide +kernel
theorem dX7_isOpen_20 : decode cX7_isOpen 20 = .ok (.iload_n 1, 1) := by decide +kernel
theorem dX7_isOpen_21 : decode cX7_isOpen 21 = .ok (.invokevirtual 143, 3) := by decide +kernel
theorem dX7_isOpen_24 : decode cX7_isOpen 24 = .ok (.iload_n 2, 1) := by decide +kernel
theorem dX7_isOpen_25 : decode cX7_isOpen 25 = .ok (.iconst 0, 1) := by decide +kernel
theorem dX7_isOpen_26 : decode cX7_isOpen 26 = .ok (.invokevirtual 146, 3) := by decide +kernel
theorem dX7_isOpen_29 : decode cX7_isOpen 29 = .ok (.ifCond .eq 7, 3) := by decide +kernel
theorem dX7_isOpen_32 : decode cX7_isOpen 32 = .ok (.iconst 1, 1) := by decide +kernel
theorem dX7_isOpen_33 : decode cX7_isOpen 33 = .ok (.goto 4, 3) := by decide +kernel
theorem dX7_isOpen_36 : decode cX7_isOpen 36 = .ok (.iconst 0, 1) := by decide +kernel
theorem dX7_isOpen_37 : decode cX7_isOpen 37 = .ok (.ireturn, 1) := by decide +kernel
theorem cv_7_104 : CV RX7 104 1 7 I_X7_budsOf := ⟨⟨⟨gm 919 (by decide +kernel) rfl, gm 922 (by decide +kernel) rfl, gm 44 (by decide +kernel) rfl, mh_7.1, mh_7.2, by decide +kernel⟩, gm 921 (by decide +kernel) rfl, gm 10 (by decide +kernel) rfl⟩, ⟨_, _, rfl⟩, rfl, rfl⟩
theorem cv_7_140 : CV RX7 140 1 7 I_X7_isPart := ⟨⟨⟨gm 1005 (by decide +kernel) rfl, gm 1008 (by decide +kernel) rfl, gm 44 (by decide +kernel) rfl, mh_7.1, mh_7.2, by decide +kernel⟩, gm 1007 (by decide +kernel) rfl, gm 18 (by decide +kernel) rfl⟩, ⟨_, _, rfl⟩, rfl, rfl⟩
theorem cv_7_143 : CV RX7 143 1 7 I_X7_sortOfPart := ⟨⟨⟨gm 1021 (by decide +kernel) rfl, gm 1024 (by decide +kernel) rfl, gm 44 (by decide +kernel) rfl, mh_7.1, mh_7.2, by decide +kernel⟩, gm 1023 (by decide +kernel) rfl, gm 22 (by decide +kernel) rfl⟩, ⟨_, _, rfl⟩, rfl, rfl⟩
def f_X7_isOpen (x1 : Int32) (x2 : Int32) (S : St) : Option (Bool) := (f_X7_isPart x1 S).bind fun v2 => (if v2 = true then ((f_X7_budsOf (x1 / (2 : Int32)) S).bind fun v12 => (if 0 < v12 then ((f_X7_sortOfPart x1 S).bind fun v21 => ((f_X7_blossoms v21 x2 false S).bind fun v26 => (if v26 = true then (some true) else (some false)))) else (some false))) else (some false))
set_option maxRecDepth 100000 in
set_option maxHeartbeats 4000000 in
theorem m_X7_isOpen (l : Launch) (w : Wd) (x1 : Int32) (x2 : Int32) (S : St)  : J l w I_X7_isOpen 0 [(0, .ref (w.2.1 + 108)), (1, .int x1), (2, .int x2)] [] S (fun b => (some (.int (b2i b)), S)) (f_X7_isOpen x1 x2 S) := by
  unfold f_X7_isOpen
  refine j_aload_n (y := I_X7_isOpen) 0 dX7_isOpen_0 rfl rfl ?_
  refine j_iload_n (y := I_X7_isOpen) 1 dX7_isOpen_1 rfl rfl ?_
  refine j_callVzR (y := I_X7_isOpen) (As := [.int x1]) cv_7_140 ⟨Nat.le_of_ble_eq_true rfl, Nat.le_of_ble_eq_true rfl⟩ k_108 rfl (Nat.le_of_ble_eq_true rfl) dX7_isOpen_2 (c_X7_isPart l w x1 S) (fun v2 h2 => ?_)
  refine j_if_eqB (y := I_X7_isOpen) 36 dX7_isOpen_5 (by decide) (fun h5 => ?_) (fun h5 => ?_)
  · refine j_iconst (y := I_X7_isOpen) (v := 0) dX7_isOpen_36 (by decide) ?_
    exact j_zret (y := I_X7_isOpen) (q := false) rfl rfl dX7_isOpen_37 rfl
  · refine j_aload_n (y := I_X7_isOpen) 0 dX7_isOpen_8 rfl rfl ?_
    refine j_iload_n (y := I_X7_isOpen) 1 dX7_isOpen_9 rfl rfl ?_
    refine j_iconst (y := I_X7_isOpen) (v := 2) dX7_isOpen_10 (by decide) ?_
    refine j_idivL (y := I_X7_isOpen) dX7_isOpen_11 (by decide) ?_
    refine j_callViR (y := I_X7_isOpen) (As := [.int (x1 / (2 : Int32))]) cv_7_104 ⟨Nat.le_of_ble_eq_true rfl, Nat.le_of_ble_eq_true rfl⟩ k_108 rfl (Nat.le_of_ble_eq_true rfl) dX7_isOpen_12 (c_X7_budsOf l w (x1 / (2 : Int32)) S) (fun v12 h12 => ?_)
    refine j_if_le (y := I_X7_isOpen) 36 dX7_isOpen_15 (by decide) (fun h15 => ?_) (fun h15 => ?_)
    · refine j_iconst (y := I_X7_isOpen) (v := 0) dX7_isOpen_36 (by decide) ?_
      exact j_zret (y := I_X7_isOpen) (q := false) rfl rfl dX7_isOpen_37 rfl
    · refine j_aload_n (y := I_X7_isOpen) 0 dX7_isOpen_18 rfl rfl ?_
      refine j_aload_n (y := I_X7_isOpen) 0 dX7_isOpen_19 rfl rfl ?_
      refine j_iload_n (y := I_X7_isOpen) 1 dX7_isOpen_20 rfl rfl ?_
      refine j_callViR (y := I_X7_isOpen) (As := [.int x1]) cv_7_143 ⟨Nat.le_of_ble_eq_true rfl, Nat.le_of_ble_eq_true rfl⟩ k_108 rfl (Nat.le_of_ble_eq_true rfl) dX7_isOpen_21 (c_X7_sortOfPart l w x1 S) (fun v21 h21 => ?_)
      refine j_iload_n (y := I_X7_isOpen) 2 dX7_isOpen_24 rfl rfl ?_
      refine j_iconst (y := I_X7_isOpen) (v := 0) dX7_isOpen_25 (by decide) ?_
      refine j_callVzR (y := I_X7_isOpen) (As := [.int v21, .int x2, .int (0 : Int32)]) cv_7_146 ⟨Nat.le_of_ble_eq_true rfl, Nat.le_of_ble_eq_true rfl⟩ k_108 rfl (Nat.le_of_ble_eq_true rfl) dX7_isOpen_26 (c_X7_blossoms l w v21 x2 false S) (fun v26 h26 => ?_)
      refine j_if_eqB (y := I_X7_isOpen) 36 dX7_isOpen_29 (by decide) (fun h29 => ?_) (fun h29 => ?_)
      · refine j_iconst (y := I_X7_isOpen) (v := 0) dX7_isOpen_36 (by decide) ?_
        exact j_zret (y := I_X7_isOpen) (q := false) rfl rfl dX7_isOpen_37 rfl
      · refine j_iconst (y := I_X7_isOpen) (v := 1) dX7_isOpen_32 (by decide) ?_
        refine j_goto (y := I_X7_isOpen) 37 dX7_isOpen_33 (by decide) ?_
        exact j_zret (y := I_X7_isOpen) (q := true) rfl rfl dX7_isOpen_37 rfl
theorem c_X7_isOpen (l : Launch) (w : Wd) (x1 : Int32) (x2 : Int32) (S : St)  : ∀ v, f_X7_isOpen x1 x2 S = some v → CtS l w I_X7_isOpen [.ref (w.2.1 + 108), .int x1, .int x2] S S (some (.int (b2i v))) := fun v h => J.ct (av := [.ref (w.2.1 + 108), .int x1, .int x2]) (Nat.le_of_ble_eq_true rfl) pn_7 (m_X7_isOpen l w x1 x2 S ) h
abbrev I_X7_partnersOf : MI := (yX7_partnersOf, cX7_partnersOf, 5, some .int, { frames := 7, cells := 0, slots := 0, locals := 163 })
theorem dX7_partnersOf_0 : decode cX7_partnersOf 0 = .ok (.aload_n 0, 1) := by decide +kernel
theorem dX7_partnersOf_1 : decode cX7_partnersOf 1 = .ok (.iload_n 1, 1) := by decide +kernel
theorem dX7_partnersOf_2 : decode cX7_partnersOf 2 = .ok (.iload_n 2, 1) := by decide +kernel
theorem dX7_partnersOf_3 : decode cX7_partnersOf 3 = .ok (.invokevirtual 150, 3) := by decide +kernel
theorem dX7_partnersOf_6 : decode cX7_partnersOf 6 = .ok (.ifCond .ne 5, 3) := by decide +kernel
theorem dX7_partnersOf_9 : decode cX7_partnersOf 9 = .ok (.iconst 0, 1) := by decide +kernel
theorem dX7_partnersOf_10 : decode cX7_partnersOf 10 = .ok (.ireturn, 1) := by decide +kernel
theorem dX7_partnersOf_11 : decode cX7_partnersOf 11 = .ok (.iconst 0, 1) := by decide +kernel
theorem dX7_partnersOf_12 : decode cX7_partnersOf 12 = .ok (.istore_n 3, 1) := by decide +kernel
theorem dX7_partnersOf_13 : decode cX7_partnersOf 13 = .ok (.iconst 0, 1) := by decide +kernel
theorem dX7_partnersOf_14 : decode cX7_partnersOf 14 = .ok (.istore 4, 2) := by decide +kernel
theorem dX7_partnersOf_16 : decode cX7_partnersOf 16 = .ok (.iload 4, 2) := by decide +kernel
theorem dX7_partnersOf_18 : decode cX7_partnersOf 18 = .ok (.bipush 24, 2) := by decide +kernel
theorem dX7_partnersOf_20 : decode cX7_partnersOf 20 = .ok (.if_icmp .ge 72, 3) := by decide +kernel
theorem dX7_partnersOf_23 : decode cX7_partnersOf 23 = .ok (.aload_n 0, 1) := by decide +kernel
theorem dX7_partnersOf_24 : decode cX7_partnersOf 24 = .ok (.iload 4, 2) := by decide +kernel
theorem dX7_partnersOf_26 : decode cX7_partnersOf 26 = .ok (.iload_n 2, 1) := by decide +kernel
theorem dX7_partnersOf_27 : decode cX7_partnersOf 27 = .ok (.invokevirtual 150, 3) := by decide +kernel
theorem dX7_partnersOf_30 : decode cX7_partnersOf 30 = .ok (.ifCond .eq 56, 3) := by decide +kernel
theorem dX7_partnersOf_33 : decode cX7_partnersOf 33 = .ok (.aload_n 0, 1) := by decide +kernel
theorem dX7_partnersOf_34 : decode cX7_partnersOf 34 = .ok (.aload_n 0, 1) := by decide +kernel
theorem dX7_partnersOf_35 : decode cX7_partnersOf 35 = .ok (.iload_n 1, 1) := by decide +kernel
theorem dX7_partnersOf_36 : decode cX7_partnersOf 36 = .ok (.invokevirtual 143, 3) := by decide +kernel
theorem dX7_partnersOf_39 : decode cX7_partnersOf 39 = .ok (.aload_n 0, 1) := by decide +kernel
theorem dX7_partnersOf_40 : decode cX7_partnersOf 40 = .ok (.iload 4, 2) := by decide +kernel
theorem dX7_partnersOf_42 : decode cX7_partnersOf 42 = .ok (.invokevirtual 143, 3) := by decide +kernel
theorem dX7_partnersOf_45 : decode cX7_partnersOf 45 = .ok (.invokevirtual 84, 3) := by decide +kernel
theorem dX7_partnersOf_48 : decode cX7_partnersOf 48 = .ok (.ifCond .ne 6, 3) := by decide +kernel
theorem dX7_partnersOf_51 : decode cX7_partnersOf 51 = .ok (.goto 35, 3) := by decide +kernel
theorem dX7_partnersOf_54 : decode cX7_partnersOf 54 = .ok (.iload_n 3, 1) := by decide +kernel
theorem dX7_partnersOf_55 : decode cX7_partnersOf 55 = .ok (.iload 4, 2) := by decide +kernel
theorem dX7_partnersOf_57 : decode cX7_partnersOf 57 = .ok (.iconst 2, 1) := by decide +kernel
theorem dX7_partnersOf_58 : decode cX7_partnersOf 58 = .ok (.idiv, 1) := by decide +kernel
theorem dX7_partnersOf_59 : decode cX7_partnersOf 59 = .ok (.iload_n 1, 1) := by decide +kernel
theorem dX7_partnersOf_60 : decode cX7_partnersOf 60 = .ok (.iconst 2, 1) := by decide +kernel
theorem dX7_partnersOf_61 : decode cX7_partnersOf 61 = .ok (.idiv, 1) := by decide +kernel
theorem dX7_partnersOf_62 : decode cX7_partnersOf 62 = .ok (.if_icmp .eq 17, 3) := by decide +kernel
theorem dX7_partnersOf_65 : decode cX7_partnersOf 65 = .ok (.aload_n 0, 1) := by decide +kernel
theorem dX7_partnersOf_66 : decode cX7_partnersOf 66 = .ok (.iload_n 1, 1) := by decide +kernel
theorem dX7_partnersOf_67 : decode cX7_partnersOf 67 = .ok (.iconst 2, 1) := by decide +kernel
theorem dX7_partnersOf_68 : decode cX7_partnersOf 68 = .ok (.idiv, 1) := by decide +kernel
theorem dX7_partnersOf_69 : decode cX7_partnersOf 69 = .ok (.iload 4, 2) := by decide +kernel
theorem dX7_partnersOf_71 : decode cX7_partnersOf 71 = .ok (.iconst 2, 1) := by decide +kernel
theorem dX7_partnersOf_72 : decode cX7_partnersOf 72 = .ok (.idiv, 1) := by decide +kernel
theorem dX7_partnersOf_73 : decode cX7_partnersOf 73 = .ok (.invokevirtual 153, 3) := by decide +kernel
theorem dX7_partnersOf_76 : decode cX7_partnersOf 76 = .ok (.ifCond .eq 7, 3) := by decide +kernel
theorem dX7_partnersOf_79 : decode cX7_partnersOf 79 = .ok (.iconst 1, 1) := by decide +kernel
theorem dX7_partnersOf_80 : decode cX7_partnersOf 80 = .ok (.goto 4, 3) := by decide +kernel
theorem dX7_partnersOf_83 : decode cX7_partnersOf 83 = .ok (.iconst 0, 1) := by decide +kernel
theorem dX7_partnersOf_84 : decode cX7_partnersOf 84 = .ok (.iadd, 1) := by decide +kernel
theorem dX7_partnersOf_85 : decode cX7_partnersOf 85 = .ok (.istore_n 3, 1) := by decide +kernel
theorem dX7_partnersOf_86 : decode cX7_partnersOf 86 = .ok (.iinc 4 1, 3) := by decide +kernel
theorem dX7_partnersOf_89 : decode cX7_partnersOf 89 = .ok (.goto (-73), 3) := by decide +kernel
theorem dX7_partnersOf_92 : decode cX7_partnersOf 92 = .ok (.iload_n 3, 1) := by decide +kernel
theorem dX7_partnersOf_93 : decode cX7_partnersOf 93 = .ok (.ireturn, 1) := by decide +kernel
theorem cv_7_150 : CV RX7 150 2 7 I_X7_isOpen := ⟨⟨⟨gm 1017 (by decide +kernel) rfl, gm 1020 (by decide +kernel) rfl, gm 44 (by decide +kernel) rfl, mh_7.1, mh_7.2, by decide +kernel⟩, gm 1019 (by decide +kernel) rfl, gm 21 (by decide +kernel) rfl⟩, ⟨_, _, rfl⟩, rfl, rfl⟩
def f_X7_partnersOf_L16 (fuel : Nat) (K : Int32 → Option (Int32)) (a16_1 : Int32) (a16_2 : Int32) (a16_3 : Int32) (a16_4 : Int32) (S : St) : Option (Int32) := match fuel with
  | 0 => none
  | n + 1 => if a16_4 < (24 : Int32) then ((f_X7_isOpen a16_4 a16_2 S).bind fun v27 => (if v27 = true then ((f_X7_sortOfPart a16_1 S).bind fun v36 => ((f_X7_sortOfPart a16_4 S).bind fun v42 => ((f_X7_does v36 v42 S).bind fun v45 => (if v45 = true then (if (a16_4 / (2 : Int32)) = (a16_1 / (2 : Int32)) then (f_X7_partnersOf_L16 n K a16_1 a16_2 (a16_3 + (1 : Int32)) (a16_4 + (1 : Int32)) S) else ((f_X7_isNear (a16_1 / (2 : Int32)) (a16_4 / (2 : Int32)) S).bind fun v73 => (if v73 = true then (f_X7_partnersOf_L16 n K a16_1 a16_2 (a16_3 + (1 : Int32)) (a16_4 + (1 : Int32)) S) else (f_X7_partnersOf_L16 n K a16_1 a16_2 (a16_3 + (0 : Int32)) (a16_4 + (1 : Int32)) S)))) else (f_X7_partnersOf_L16 n K a16_1 a16_2 a16_3 (a16_4 + (1 : Int32)) S))))) else (f_X7_partnersOf_L16 n K a16_1 a16_2 a16_3 (a16_4 + (1 : Int32)) S))) else (K a16_3)
def f_X7_partnersOf (x1 : Int32) (x2 : Int32) (S : St) : Option (Int32) := (f_X7_isOpen x1 x2 S).bind fun v3 => (if v3 = true then (f_X7_partnersOf_L16 6000 (fun e92_3 => (some e92_3)) x1 x2 (0 : Int32) (0 : Int32) S) else (some (0 : Int32)))
set_option maxRecDepth 100000 in
theorem jl_X7_partnersOf_16 (l : Launch) (w : Wd) (S : St) (K : Int32 → Option (Int32)) (n : Nat) : ∀ (a16_1 : Int32) (a16_2 : Int32) (a16_3 : Int32) (a16_4 : Int32), (∀ (e92_3 : Int32) , J l w I_X7_partnersOf 92 [(3, .int e92_3)] [] S (fun b => (some (.int b), S)) (K e92_3)) → J l w I_X7_partnersOf 16 [(0, .ref (w.2.1 + 108)), (1, .int a16_1), (2, .int a16_2), (3, .int a16_3), (4, .int a16_4)] [] S (fun b => (some (.int b), S)) (f_X7_partnersOf_L16 n K a16_1 a16_2 a16_3 a16_4 S) := by
  induction n with
  | zero =>
    intro a16_1 a16_2 a16_3 a16_4 hK b h
    simp only [f_X7_partnersOf_L16] at h
    cases h
  | succ n ih =>
    intro a16_1 a16_2 a16_3 a16_4 hK
    rw [f_X7_partnersOf_L16]
    refine j_iload (y := I_X7_partnersOf) 4 dX7_partnersOf_16 rfl ?_
    refine j_bipush (y := I_X7_partnersOf) (v := 24) dX7_partnersOf_18 (by decide) ?_
    refine j_icmp_ge (y := I_X7_partnersOf) 92 dX7_partnersOf_20 (by decide) (fun h20 => ?_) (fun h20 => ?_)
    · refine j_sub [3] rfl ?_
      exact hK a16_3
    · refine j_aload_n (y := I_X7_partnersOf) 0 dX7_partnersOf_23 rfl rfl ?_
      refine j_iload (y := I_X7_partnersOf) 4 dX7_partnersOf_24 rfl ?_
      refine j_iload_n (y := I_X7_partnersOf) 2 dX7_partnersOf_26 rfl rfl ?_
      refine j_callVzR (y := I_X7_partnersOf) (As := [.int a16_4, .int a16_2]) cv_7_150 ⟨Nat.le_of_ble_eq_true rfl, Nat.le_of_ble_eq_true rfl⟩ k_108 rfl (Nat.le_of_ble_eq_true rfl) dX7_partnersOf_27 (c_X7_isOpen l w a16_4 a16_2 S) (fun v27 h27 => ?_)
      refine j_if_eqB (y := I_X7_partnersOf) 86 dX7_partnersOf_30 (by decide) (fun h30 => ?_) (fun h30 => ?_)
      · refine j_iinc (y := I_X7_partnersOf) 4 (ls' := [(4, .int (a16_4 + (1 : Int32))), (0, .ref (w.2.1 + 108)), (1, .int a16_1), (2, .int a16_2), (3, .int a16_3)]) dX7_partnersOf_86 rfl (ii _ _ (by decide) _) (by decide) rfl ?_
        refine j_goto (y := I_X7_partnersOf) 16 dX7_partnersOf_89 (by decide) ?_
        refine j_sub [1, 2, 3, 4, 0] rfl ?_
        exact ih a16_1 a16_2 a16_3 (a16_4 + (1 : Int32)) hK
      · refine j_aload_n (y := I_X7_partnersOf) 0 dX7_partnersOf_33 rfl rfl ?_
        refine j_aload_n (y := I_X7_partnersOf) 0 dX7_partnersOf_34 rfl rfl ?_
        refine j_iload_n (y := I_X7_partnersOf) 1 dX7_partnersOf_35 rfl rfl ?_
        refine j_callViR (y := I_X7_partnersOf) (As := [.int a16_1]) cv_7_143 ⟨Nat.le_of_ble_eq_true rfl, Nat.le_of_ble_eq_true rfl⟩ k_108 rfl (Nat.le_of_ble_eq_true rfl) dX7_partnersOf_36 (c_X7_sortOfPart l w a16_1 S) (fun v36 h36 => ?_)
        refine j_aload_n (y := I_X7_partnersOf) 0 dX7_partnersOf_39 rfl rfl ?_
        refine j_iload (y := I_X7_partnersOf) 4 dX7_partnersOf_40 rfl ?_
        refine j_callViR (y := I_X7_partnersOf) (As := [.int a16_4]) cv_7_143 ⟨Nat.le_of_ble_eq_true rfl, Nat.le_of_ble_eq_true rfl⟩ k_108 rfl (Nat.le_of_ble_eq_true rfl) dX7_partnersOf_42 (c_X7_sortOfPart l w a16_4 S) (fun v42 h42 => ?_)
        refine j_callVzR (y := I_X7_partnersOf) (As := [.int v36, .int v42]) cv_7_84 ⟨Nat.le_of_ble_eq_true rfl, Nat.le_of_ble_eq_true rfl⟩ k_108 rfl (Nat.le_of_ble_eq_true rfl) dX7_partnersOf_45 (c_X7_does l w v36 v42 S) (fun v45 h45 => ?_)
        refine j_if_neB (y := I_X7_partnersOf) 54 dX7_partnersOf_48 (by decide) (fun h48 => ?_) (fun h48 => ?_)
        · refine j_iload_n (y := I_X7_partnersOf) 3 dX7_partnersOf_54 rfl rfl ?_
          refine j_iload (y := I_X7_partnersOf) 4 dX7_partnersOf_55 rfl ?_
          refine j_iconst (y := I_X7_partnersOf) (v := 2) dX7_partnersOf_57 (by decide) ?_
          refine j_idivL (y := I_X7_partnersOf) dX7_partnersOf_58 (by decide) ?_
          refine j_iload_n (y := I_X7_partnersOf) 1 dX7_partnersOf_59 rfl rfl ?_
          refine j_iconst (y := I_X7_partnersOf) (v := 2) dX7_partnersOf_60 (by decide) ?_
          refine j_idivL (y := I_X7_partnersOf) dX7_partnersOf_61 (by decide) ?_
          refine j_icmp_eq (y := I_X7_partnersOf) 79 dX7_partnersOf_62 (by decide) (fun h62 => ?_) (fun h62 => ?_)
          · refine j_iconst (y := I_X7_partnersOf) (v := 1) dX7_partnersOf_79 (by decide) ?_
            refine j_goto (y := I_X7_partnersOf) 84 dX7_partnersOf_80 (by decide) ?_
            refine j_iadd (y := I_X7_partnersOf) dX7_partnersOf_84 ?_
            refine j_istore_n (y := I_X7_partnersOf) (ls' := [(3, .int (a16_3 + (1 : Int32))), (0, .ref (w.2.1 + 108)), (1, .int a16_1), (2, .int a16_2), (4, .int a16_4)]) dX7_partnersOf_85 rfl (by decide) rfl ?_
            refine j_iinc (y := I_X7_partnersOf) 4 (ls' := [(4, .int (a16_4 + (1 : Int32))), (3, .int (a16_3 + (1 : Int32))), (0, .ref (w.2.1 + 108)), (1, .int a16_1), (2, .int a16_2)]) dX7_partnersOf_86 rfl (ii _ _ (by decide) _) (by decide) rfl ?_
            refine j_goto (y := I_X7_partnersOf) 16 dX7_partnersOf_89 (by decide) ?_
            refine j_sub [2, 3, 4, 1, 0] rfl ?_
            exact ih a16_1 a16_2 (a16_3 + (1 : Int32)) (a16_4 + (1 : Int32)) hK
          · refine j_aload_n (y := I_X7_partnersOf) 0 dX7_partnersOf_65 rfl rfl ?_
            refine j_iload_n (y := I_X7_partnersOf) 1 dX7_partnersOf_66 rfl rfl ?_
            refine j_iconst (y := I_X7_partnersOf) (v := 2) dX7_partnersOf_67 (by decide) ?_
            refine j_idivL (y := I_X7_partnersOf) dX7_partnersOf_68 (by decide) ?_
            refine j_iload (y := I_X7_partnersOf) 4 dX7_partnersOf_69 rfl ?_
            refine j_iconst (y := I_X7_partnersOf) (v := 2) dX7_partnersOf_71 (by decide) ?_
            refine j_idivL (y := I_X7_partnersOf) dX7_partnersOf_72 (by decide) ?_
            refine j_callVzR (y := I_X7_partnersOf) (As := [.int (a16_1 / (2 : Int32)), .int (a16_4 / (2 : Int32))]) cv_7_153 ⟨Nat.le_of_ble_eq_true rfl, Nat.le_of_ble_eq_true rfl⟩ k_108 rfl (Nat.le_of_ble_eq_true rfl) dX7_partnersOf_73 (c_X7_isNear l w (a16_1 / (2 : Int32)) (a16_4 / (2 : Int32)) S) (fun v73 h73 => ?_)
            refine j_if_eqB (y := I_X7_partnersOf) 83 dX7_partnersOf_76 (by decide) (fun h76 => ?_) (fun h76 => ?_)
            · refine j_iconst (y := I_X7_partnersOf) (v := 0) dX7_partnersOf_83 (by decide) ?_
              refine j_iadd (y := I_X7_partnersOf) dX7_partnersOf_84 ?_
              refine j_istore_n (y := I_X7_partnersOf) (ls' := [(3, .int (a16_3 + (0 : Int32))), (0, .ref (w.2.1 + 108)), (1, .int a16_1), (2, .int a16_2), (4, .int a16_4)]) dX7_partnersOf_85 rfl (by decide) rfl ?_
              refine j_iinc (y := I_X7_partnersOf) 4 (ls' := [(4, .int (a16_4 + (1 : Int32))), (3, .int (a16_3 + (0 : Int32))), (0, .ref (w.2.1 + 108)), (1, .int a16_1), (2, .int a16_2)]) dX7_partnersOf_86 rfl (ii _ _ (by decide) _) (by decide) rfl ?_
              refine j_goto (y := I_X7_partnersOf) 16 dX7_partnersOf_89 (by decide) ?_
              refine j_sub [2, 3, 4, 1, 0] rfl ?_
              exact ih a16_1 a16_2 (a16_3 + (0 : Int32)) (a16_4 + (1 : Int32)) hK
            · refine j_iconst (y := I_X7_partnersOf) (v := 1) dX7_partnersOf_79 (by decide) ?_
              refine j_goto (y := I_X7_partnersOf) 84 dX7_partnersOf_80 (by decide) ?_
              refine j_iadd (y := I_X7_partnersOf) dX7_partnersOf_84 ?_
              refine j_istore_n (y := I_X7_partnersOf) (ls' := [(3, .int (a16_3 + (1 : Int32))), (0, .ref (w.2.1 + 108)), (1, .int a16_1), (2, .int a16_2), (4, .int a16_4)]) dX7_partnersOf_85 rfl (by decide) rfl ?_
              refine j_iinc (y := I_X7_partnersOf) 4 (ls' := [(4, .int (a16_4 + (1 : Int32))), (3, .int (a16_3 + (1 : Int32))), (0, .ref (w.2.1 + 108)), (1, .int a16_1), (2, .int a16_2)]) dX7_partnersOf_86 rfl (ii _ _ (by decide) _) (by decide) rfl ?_
              refine j_goto (y := I_X7_partnersOf) 16 dX7_partnersOf_89 (by decide) ?_
              refine j_sub [2, 3, 4, 1, 0] rfl ?_
              exact ih a16_1 a16_2 (a16_3 + (1 : Int32)) (a16_4 + (1 : Int32)) hK
        · refine j_goto (y := I_X7_partnersOf) 86 dX7_partnersOf_51 (by decide) ?_
          refine j_iinc (y := I_X7_partnersOf) 4 (ls' := [(4, .int (a16_4 + (1 : Int32))), (0, .ref (w.2.1 + 108)), (1, .int a16_1), (2, .int a16_2), (3, .int a16_3)]) dX7_partnersOf_86 rfl (ii _ _ (by decide) _) (by decide) rfl ?_
          refine j_goto (y := I_X7_partnersOf) 16 dX7_partnersOf_89 (by decide) ?_
          refine j_sub [1, 2, 3, 4, 0] rfl ?_
          exact ih a16_1 a16_2 a16_3 (a16_4 + (1 : Int32)) hK
set_option maxRecDepth 100000 in
set_option maxHeartbeats 4000000 in
theorem m_X7_partnersOf (l : Launch) (w : Wd) (x1 : Int32) (x2 : Int32) (S : St)  : J l w I_X7_partnersOf 0 [(0, .ref (w.2.1 + 108)), (1, .int x1), (2, .int x2)] [] S (fun b => (some (.int b), S)) (f_X7_partnersOf x1 x2 S) := by
  unfold f_X7_partnersOf
  refine j_aload_n (y := I_X7_partnersOf) 0 dX7_partnersOf_0 rfl rfl ?_
  refine j_iload_n (y := I_X7_partnersOf) 1 dX7_partnersOf_1 rfl rfl ?_
  refine j_iload_n (y := I_X7_partnersOf) 2 dX7_partnersOf_2 rfl rfl ?_
  refine j_callVzR (y := I_X7_partnersOf) (As := [.int x1, .int x2]) cv_7_150 ⟨Nat.le_of_ble_eq_true rfl, Nat.le_of_ble_eq_true rfl⟩ k_108 rfl (Nat.le_of_ble_eq_true rfl) dX7_partnersOf_3 (c_X7_isOpen l w x1 x2 S) (fun v3 h3 => ?_)
  refine j_if_neB (y := I_X7_partnersOf) 11 dX7_partnersOf_6 (by decide) (fun h6 => ?_) (fun h6 => ?_)
  · refine j_iconst (y := I_X7_partnersOf) (v := 0) dX7_partnersOf_11 (by decide) ?_
    refine j_istore_n (y := I_X7_partnersOf) (ls' := [(3, .int (0 : Int32)), (0, .ref (w.2.1 + 108)), (1, .int x1), (2, .int x2)]) dX7_partnersOf_12 rfl (by decide) rfl ?_
    refine j_iconst (y := I_X7_partnersOf) (v := 0) dX7_partnersOf_13 (by decide) ?_
    refine j_istore (y := I_X7_partnersOf) (ls' := [(4, .int (0 : Int32)), (3, .int (0 : Int32)), (0, .ref (w.2.1 + 108)), (1, .int x1), (2, .int x2)]) dX7_partnersOf_14 (by decide) rfl ?_
    refine j_sub [2, 3, 4, 1, 0] rfl ?_
    refine jl_X7_partnersOf_16 l w S _ 6000 x1 x2 (0 : Int32) (0 : Int32)   (fun e92_3 => ?_)
    refine j_iload_n (y := I_X7_partnersOf) 0 dX7_partnersOf_92 rfl rfl ?_
    exact j_iret (y := I_X7_partnersOf) rfl dX7_partnersOf_93 rfl
  · refine j_iconst (y := I_X7_partnersOf) (v := 0) dX7_partnersOf_9 (by decide) ?_
    exact j_iret (y := I_X7_partnersOf) rfl dX7_partnersOf_10 rfl
theorem c_X7_partnersOf (l : Launch) (w : Wd) (x1 : Int32) (x2 : Int32) (S : St)  : ∀ v, f_X7_partnersOf x1 x2 S = some v → CtS l w I_X7_partnersOf [.ref (w.2.1 + 108), .int x1, .int x2] S S (some (.int v)) := fun v h => J.ct (av := [.ref (w.2.1 + 108), .int x1, .int x2]) (Nat.le_of_ble_eq_true rfl) pn_7 (m_X7_partnersOf l w x1 x2 S ) h
abbrev I_X7_heightOf : MI := (yX7_heightOf, cX7_heightOf, 3, some .int, { frames := 2, cells := 0, slots := 0, locals := 43 })
theorem dX7_heightOf_0 : decode cX7_heightOf 0 = .ok (.aload_n 0, 1) := by decide +kernel
theorem dX7_heightOf_1 : decode cX7_heightOf 1 = .ok (.iload_n 1, 1) := by decide +kernel
theorem dX7_heightOf_2 : decode cX7_heightOf 2 = .ok (.iconst 2, 1) := by decide +kernel
theorem dX7_heightOf_3 : decode cX7_heightOf 3 = .ok (.invokevirtual 68, 3) := by decide +kernel
theorem dX7_heightOf_6 : decode cX7_heightOf 6 = .ok (.iconst 3, 1) := by decide +kernel
theorem dX7_heightOf_7 : decode cX7_heightOf 7 = .ok (.if_icmp .ne 7, 3) := by decide +kernel
theorem dX7_heightOf_10 : decode cX7_heightOf 10 = .ok (.iconst 1, 1) := by decide +kernel
theorem dX7_heightOf_11 : decode cX7_heightOf 11 = .ok (.goto 5, 3) := by decide +kernel
theorem dX7_heightOf_14 : decode cX7_heightOf 14 = .ok (.bipush 6, 2) := by decide +kernel
theorem dX7_heightOf_16 : decode cX7_heightOf 16 = .ok (.istore_n 2, 1) := by decide +kernel
theorem dX7_heightOf_17 : decode cX7_heightOf 17 = .ok (.aload_n 0, 1) := by decide +kernel
theorem dX7_heightOf_18 : decode cX7_heightOf 18 = .ok (.iload_n 1, 1) := by decide +kernel
theorem dX7_heightOf_19 : decode cX7_heightOf 19 = .ok (.invokevirtual 95, 3) := by decide +kernel
theorem dX7_heightOf_22 : decode cX7_heightOf 22 = .ok (.iload_n 2, 1) := by decide +kernel
theorem dX7_heightOf_23 : decode cX7_heightOf 23 = .ok (.if_icmp .ge 11, 3) := by decide +kernel
theorem dX7_heightOf_26 : decode cX7_heightOf 26 = .ok (.aload_n 0, 1) := by decide +kernel
theorem dX7_heightOf_27 : decode cX7_heightOf 27 = .ok (.iload_n 1, 1) := by decide +kernel
theorem dX7_heightOf_28 : decode cX7_heightOf 28 = .ok (.invokevirtual 95, 3) := by decide +kernel
theorem dX7_heightOf_31 : decode cX7_heightOf 31 = .ok (.goto 4, 3) := by decide +kernel
theorem dX7_heightOf_34 : decode cX7_heightOf 34 = .ok (.iload_n 2, 1) := by decide +kernel
theorem dX7_heightOf_35 : decode cX7_heightOf 35 = .ok (.ireturn, 1) := by decide +kernel
def f_X7_heightOf_J16 (j16_1 : Int32) (j16s_0 : Int32) (S : St) : Option (Int32) := (f_X7_age j16_1 S).bind fun v19 => (if v19 < j16s_0 then ((f_X7_age j16_1 S).bind fun v28 => (some v28)) else (some j16s_0))
def f_X7_heightOf (x1 : Int32) (S : St) : Option (Int32) := (f_X7_get x1 (2 : Int32) S).bind fun v3 => (if v3 = (3 : Int32) then (f_X7_heightOf_J16 x1 (1 : Int32) S) else (f_X7_heightOf_J16 x1 (6 : Int32) S))
set_option maxRecDepth 100000 in
theorem jj_X7_heightOf_16 (l : Launch) (w : Wd) (j16_1 : Int32) (j16s_0 : Int32) (S : St)  : J l w I_X7_heightOf 16 [(0, .ref (w.2.1 + 108)), (1, .int j16_1)] [.int j16s_0] S (fun b => (some (.int b), S)) (f_X7_heightOf_J16 j16_1 j16s_0 S) := by
  unfold f_X7_heightOf_J16
  refine j_istore_n (y := I_X7_heightOf) (ls' := [(2, .int j16s_0), (0, .ref (w.2.1 + 108)), (1, .int j16_1)]) dX7_heightOf_16 rfl (by decide) rfl ?_
  refine j_aload_n (y := I_X7_heightOf) 1 dX7_heightOf_17 rfl rfl ?_
  refine j_iload_n (y := I_X7_heightOf) 2 dX7_heightOf_18 rfl rfl ?_
  refine j_callViR (y := I_X7_heightOf) (As := [.int j16_1]) cv_7_95 ⟨Nat.le_of_ble_eq_true rfl, Nat.le_of_ble_eq_true rfl⟩ k_108 rfl (Nat.le_of_ble_eq_true rfl) dX7_heightOf_19 (c_X7_age l w j16_1 S) (fun v19 h19 => ?_)
  refine j_iload_n (y := I_X7_heightOf) 0 dX7_heightOf_22 rfl rfl ?_
  refine j_icmp_ge (y := I_X7_heightOf) 34 dX7_heightOf_23 (by decide) (fun h23 => ?_) (fun h23 => ?_)
  · refine j_iload_n (y := I_X7_heightOf) 0 dX7_heightOf_34 rfl rfl ?_
    exact j_iret (y := I_X7_heightOf) rfl dX7_heightOf_35 rfl
  · refine j_aload_n (y := I_X7_heightOf) 1 dX7_heightOf_26 rfl rfl ?_
    refine j_iload_n (y := I_X7_heightOf) 2 dX7_heightOf_27 rfl rfl ?_
    refine j_callViR (y := I_X7_heightOf) (As := [.int j16_1]) cv_7_95 ⟨Nat.le_of_ble_eq_true rfl, Nat.le_of_ble_eq_true rfl⟩ k_108 rfl (Nat.le_of_ble_eq_true rfl) dX7_heightOf_28 (c_X7_age l w j16_1 S) (fun v28 h28 => ?_)
    refine j_goto (y := I_X7_heightOf) 35 dX7_heightOf_31 (by decide) ?_
    exact j_iret (y := I_X7_heightOf) rfl dX7_heightOf_35 rfl
set_option maxRecDepth 100000 in
set_option maxHeartbeats 4000000 in
theorem m_X7_heightOf (l : Launch) (w : Wd) (x1 : Int32) (S : St)  : J l w I_X7_heightOf 0 [(0, .ref (w.2.1 + 108)), (1, .int x1)] [] S (fun b => (some (.int b), S)) (f_X7_heightOf x1 S) := by
  unfold f_X7_heightOf
  refine j_aload_n (y := I_X7_heightOf) 0 dX7_heightOf_0 rfl rfl ?_
  refine j_iload_n (y := I_X7_heightOf) 1 dX7_heightOf_1 rfl rfl ?_
  refine j_iconst (y := I_X7_heightOf) (v := 2) dX7_heightOf_2 (by decide) ?_
  refine j_callViR (y := I_X7_heightOf) (As := [.int x1, .int (2 : Int32)]) cv_7_68 ⟨Nat.le_of_ble_eq_true rfl, Nat.le_of_ble_eq_true rfl⟩ k_108 rfl (Nat.le_of_ble_eq_true rfl) dX7_heightOf_3 (c_X7_get l w x1 (2 : Int32) S) (fun v3 h3 => ?_)
  refine j_iconst (y := I_X7_heightOf) (v := 3) dX7_heightOf_6 (by decide) ?_
  refine j_icmp_ne (y := I_X7_heightOf) 14 dX7_heightOf_7 (by decide) (fun h7 => ?_) (fun h7 => ?_)
  · refine j_bipush (y := I_X7_heightOf) (v := 6) dX7_heightOf_14 (by decide) ?_
    refine j_sub [0, 1] rfl ?_
    exact jj_X7_heightOf_16 l w x1 (6 : Int32) S
  · refine j_iconst (y := I_X7_heightOf) (v := 1) dX7_heightOf_10 (by decide) ?_
    refine j_goto (y := I_X7_heightOf) 16 dX7_heightOf_11 (by decide) ?_
    refine j_sub [0, 1] rfl ?_
    exact jj_X7_heightOf_16 l w x1 (1 : Int32) S
theorem c_X7_heightOf (l : Launch) (w : Wd) (x1 : Int32) (S : St)  : ∀ v, f_X7_heightOf x1 S = some v → CtS l w I_X7_heightOf [.ref (w.2.1 + 108), .int x1] S S (some (.int v)) := fun v h => J.ct (av := [.ref (w.2.1 + 108), .int x1]) (Nat.le_of_ble_eq_true rfl) pn_7 (m_X7_heightOf l w x1 S ) h
abbrev I_X7_grow : MI := (yX7_grow, cX7_grow, 3, none, { frames := 0, cells := 0, slots := 0, locals := 0 })
theorem dX7_grow_0 : decode cX7_grow 0 = .ok (.aload_n 0, 1) := by decide +kernel
theorem dX7_grow_1 : decode cX7_grow 1 = .ok (.getfield 7, 3) := by decide +kernel
theorem dX7_grow_4 : decode cX7_grow 4 = .ok (.bipush 66, 2) := by decide +kernel
theorem dX7_grow_6 : decode cX7_grow 6 = .ok (.bipush 11, 2) := by decide +kernel
theorem dX7_grow_8 : decode cX7_grow 8 = .ok (.iload_n 1, 1) := by decide +kernel
theorem dX7_grow_9 : decode cX7_grow 9 = .ok (.iconst 2, 1) := by decide +kernel
theorem dX7_grow_10 : decode cX7_grow 10 = .ok (.idiv, 1) := by decide +kernel
theorem dX7_grow_11 : decode cX7_grow 11 = .ok (.imul, 1) := by decide +kernel
theorem dX7_grow_12 : decode cX7_grow 12 = .ok (.iadd, 1) := by decide +kernel
theorem dX7_grow_13 : decode cX7_grow 13 = .ok (.bipush 8, 2) := by decide +kernel
theorem dX7_grow_15 : decode cX7_grow 15 = .ok (.iadd, 1) := by decide +kernel
theorem dX7_grow_16 : decode cX7_grow 16 = .ok (.iload_n 1, 1) := by decide +kernel
theorem dX7_grow_17 : decode cX7_grow 17 = .ok (.iconst 2, 1) := by decide +kernel
theorem dX7_grow_18 : decode cX7_grow 18 = .ok (.irem, 1) := by decide +kernel
theorem dX7_grow_19 : decode cX7_grow 19 = .ok (.iadd, 1) := by decide +kernel
theorem dX7_grow_20 : decode cX7_grow 20 = .ok (.dup2, 1) := by decide +kernel
theorem dX7_grow_21 : decode cX7_grow 21 = .ok (.iaload, 1) := by decide +kernel
theorem dX7_grow_22 : decode cX7_grow 22 = .ok (.iload_n 2, 1) := by decide +kernel
theorem dX7_grow_23 : decode cX7_grow 23 = .ok (.iadd, 1) := by decide +kernel
theorem dX7_grow_24 : decode cX7_grow 24 = .ok (.iastore, 1) := by decide +kernel
theorem dX7_grow_25 : decode cX7_grow 25 = .ok (.return_, 1) := by decide +kernel
def f_X7_grow (x1 : Int32) (x2 : Int32) (S : St) : Option (St) := if inb ((((66 : Int32) + ((11 : Int32) * (x1 / (2 : Int32)))) + (8 : Int32)) + (x1 - x1 / (2 : Int32) * (2 : Int32))) 788 = true then (if inb ((((66 : Int32) + ((11 : Int32) * (x1 / (2 : Int32)))) + (8 : Int32)) + (x1 - x1 / (2 : Int32) * (2 : Int32))) 788 = true then (some (wr S 109 (ix ((((66 : Int32) + ((11 : Int32) * (x1 / (2 : Int32)))) + (8 : Int32)) + (x1 - x1 / (2 : Int32) * (2 : Int32)))) ((rd S 109 (ix ((((66 : Int32) + ((11 : Int32) * (x1 / (2 : Int32)))) + (8 : Int32)) + (x1 - x1 / (2 : Int32) * (2 : Int32))))) + x2))) else none) else none
set_option maxRecDepth 100000 in
set_option maxHeartbeats 4000000 in
theorem m_X7_grow (l : Launch) (w : Wd) (x1 : Int32) (x2 : Int32) (S : St)  : J l w I_X7_grow 0 [(0, .ref (w.2.1 + 108)), (1, .int x1), (2, .int x2)] [] S (fun b => (none, b)) (f_X7_grow x1 x2 S) := by
  unfold f_X7_grow
  refine j_aload_n (y := I_X7_grow) 0 dX7_grow_0 rfl rfl ?_
  refine j_getR (y := I_X7_grow) (j := 109) fl_7_7 k_108 rfl rfl dX7_grow_1 ?_
  refine j_bipush (y := I_X7_grow) (v := 66) dX7_grow_4 (by decide) ?_
  refine j_bipush (y := I_X7_grow) (v := 11) dX7_grow_6 (by decide) ?_
  refine j_iload_n (y := I_X7_grow) 1 dX7_grow_8 rfl rfl ?_
  refine j_iconst (y := I_X7_grow) (v := 2) dX7_grow_9 (by decide) ?_
  refine j_idivL (y := I_X7_grow) dX7_grow_10 (by decide) ?_
  refine j_imul (y := I_X7_grow) dX7_grow_11 ?_
  refine j_iadd (y := I_X7_grow) dX7_grow_12 ?_
  refine j_bipush (y := I_X7_grow) (v := 8) dX7_grow_13 (by decide) ?_
  refine j_iadd (y := I_X7_grow) dX7_grow_15 ?_
  refine j_iload_n (y := I_X7_grow) 1 dX7_grow_16 rfl rfl ?_
  refine j_iconst (y := I_X7_grow) (v := 2) dX7_grow_17 (by decide) ?_
  refine j_iremL (y := I_X7_grow) dX7_grow_18 (by decide) ?_
  refine j_iadd (y := I_X7_grow) dX7_grow_19 ?_
  refine j_dup2 (y := I_X7_grow) dX7_grow_20 rfl rfl ?_
  refine j_iald (y := I_X7_grow) k_109 dX7_grow_21 (fun h21 => ?_)
  refine j_iload_n (y := I_X7_grow) 2 dX7_grow_22 rfl rfl ?_
  refine j_iadd (y := I_X7_grow) dX7_grow_23 ?_
  refine j_iast (y := I_X7_grow) k_109 dX7_grow_24 (fun h24 => ?_)
  exact j_vret (y := I_X7_grow) rfl dX7_grow_25 rfl
theorem c_X7_grow (l : Launch) (w : Wd) (x1 : Int32) (x2 : Int32) (S : St)  : ∀ v, f_X7_grow x1 x2 S = some v → CtS l w I_X7_grow [.ref (w.2.1 + 108), .int x1, .int x2] S v none := fun v h => J.ct (av := [.ref (w.2.1 + 108), .int x1, .int x2]) (Nat.le_of_ble_eq_true rfl) pn_7 (m_X7_grow l w x1 x2 S ) h
abbrev I_X7_sets : MI := (yX7_sets, cX7_sets, 8, none, { frames := 3, cells := 0, slots := 0, locals := 65 })
theorem dX7_sets_0 : decode cX7_sets 0 = .ok (.iload_n 1, 1) := by decide +kernel
theorem dX7_sets_1 : decode cX7_sets 1 = .ok (.iconst 2, 1) := by decide +kernel
theorem dX7_sets_2 : decode cX7_sets 2 = .ok (.idiv, 1) := by decide +kernel
theorem dX7_sets_3 : decode cX7_sets 3 = .ok (.istore_n 3, 1) := by decide +kernel
theorem dX7_sets_4 : decode cX7_sets 4 = .ok (.aload_n 0, 1) := by decide +kernel
theorem dX7_sets_5 : decode cX7_sets 5 = .ok (.getfield 38, 3) := by decide +kernel
theorem dX7_sets_8 : decode cX7_sets 8 = .ok (.iload_n 1, 1) := by decide +kernel
theorem dX7_sets_9 : decode cX7_sets 9 = .ok (.iaload, 1) := by decide +kernel
theorem dX7_sets_10 : decode cX7_sets 10 = .ok (.aload_n 0, 1) := by decide +kernel
theorem dX7_sets_11 : decode cX7_sets 11 = .ok (.aload_n 0, 1) := by decide +kernel
theorem dX7_sets_12 : decode cX7_sets 12 = .ok (.iload_n 1, 1) := by decide +kernel
theorem dX7_sets_13 : decode cX7_sets 13 = .ok (.invokevirtual 143, 3) := by decide +kernel
theorem dX7_sets_16 : decode cX7_sets 16 = .ok (.iconst 1, 1) := by decide +kernel
theorem dX7_sets_17 : decode cX7_sets 17 = .ok (.invokevirtual 98, 3) := by decide +kernel
theorem dX7_sets_20 : decode cX7_sets 20 = .ok (.idiv, 1) := by decide +kernel
theorem dX7_sets_21 : decode cX7_sets 21 = .ok (.istore 4, 2) := by decide +kernel
theorem dX7_sets_23 : decode cX7_sets 23 = .ok (.sipush 582, 3) := by decide +kernel
theorem dX7_sets_26 : decode cX7_sets 26 = .ok (.iconst 3, 1) := by decide +kernel
theorem dX7_sets_27 : decode cX7_sets 27 = .ok (.iload_n 2, 1) := by decide +kernel
theorem dX7_sets_28 : decode cX7_sets 28 = .ok (.imul, 1) := by decide +kernel
theorem dX7_sets_29 : decode cX7_sets 29 = .ok (.iadd, 1) := by decide +kernel
theorem dX7_sets_30 : decode cX7_sets 30 = .ok (.istore 5, 2) := by decide +kernel
theorem dX7_sets_32 : decode cX7_sets 32 = .ok (.aload_n 0, 1) := by decide +kernel
theorem dX7_sets_33 : decode cX7_sets 33 = .ok (.getfield 7, 3) := by decide +kernel
theorem dX7_sets_36 : decode cX7_sets 36 = .ok (.iload 5, 2) := by decide +kernel
theorem dX7_sets_38 : decode cX7_sets 38 = .ok (.iaload, 1) := by decide +kernel
theorem dX7_sets_39 : decode cX7_sets 39 = .ok (.iconst 1, 1) := by decide +kernel
theorem dX7_sets_40 : decode cX7_sets 40 = .ok (.if_icmp .ne 43, 3) := by decide +kernel
theorem dX7_sets_43 : decode cX7_sets 43 = .ok (.aload_n 0, 1) := by decide +kernel
theorem dX7_sets_44 : decode cX7_sets 44 = .ok (.iload_n 3, 1) := by decide +kernel
theorem dX7_sets_45 : decode cX7_sets 45 = .ok (.invokevirtual 101, 3) := by decide +kernel
theorem dX7_sets_48 : decode cX7_sets 48 = .ok (.aload_n 0, 1) := by decide +kernel
theorem dX7_sets_49 : decode cX7_sets 49 = .ok (.getfield 7, 3) := by decide +kernel
theorem dX7_sets_52 : decode cX7_sets 52 = .ok (.iload 5, 2) := by decide +kernel
theorem dX7_sets_54 : decode cX7_sets 54 = .ok (.iconst 1, 1) := by decide +kernel
theorem dX7_sets_55 : decode cX7_sets 55 = .ok (.iadd, 1) := by decide +kernel
theorem dX7_sets_56 : decode cX7_sets 56 = .ok (.iaload, 1) := by decide +kernel
theorem dX7_sets_57 : decode cX7_sets 57 = .ok (.if_icmp .gt 26, 3) := by decide +kernel
theorem dX7_sets_60 : decode cX7_sets 60 = .ok (.iload 4, 2) := by decide +kernel
theorem dX7_sets_62 : decode cX7_sets 62 = .ok (.iload 4, 2) := by decide +kernel
theorem dX7_sets_64 : decode cX7_sets 64 = .ok (.aload_n 0, 1) := by decide +kernel
theorem dX7_sets_65 : decode cX7_sets 65 = .ok (.getfield 7, 3) := by decide +kernel
theorem dX7_sets_68 : decode cX7_sets 68 = .ok (.iload 5, 2) := by decide +kernel
theorem dX7_sets_70 : decode cX7_sets 70 = .ok (.iconst 2, 1) := by decide +kernel
theorem dX7_sets_71 : decode cX7_sets 71 = .ok (.iadd, 1) := by decide +kernel
theorem dX7_sets_72 : decode cX7_sets 72 = .ok (.iaload, 1) := by decide +kernel
theorem dX7_sets_73 : decode cX7_sets 73 = .ok (.imul, 1) := by decide +kernel
theorem dX7_sets_74 : decode cX7_sets 74 = .ok (.bipush 99, 2) := by decide +kernel
theorem dX7_sets_76 : decode cX7_sets 76 = .ok (.iadd, 1) := by decide +kernel
theorem dX7_sets_77 : decode cX7_sets 77 = .ok (.bipush 100, 2) := by decide +kernel
theorem dX7_sets_79 : decode cX7_sets 79 = .ok (.idiv, 1) := by decide +kernel
theorem dX7_sets_80 : decode cX7_sets 80 = .ok (.isub, 1) := by decide +kernel
theorem dX7_sets_81 : decode cX7_sets 81 = .ok (.istore 4, 2) := by decide +kernel
theorem dX7_sets_83 : decode cX7_sets 83 = .ok (.aload_n 0, 1) := by decide +kernel
theorem dX7_sets_84 : decode cX7_sets 84 = .ok (.getfield 41, 3) := by decide +kernel
theorem dX7_sets_87 : decode cX7_sets 87 = .ok (.iload_n 1, 1) := by decide +kernel
theorem dX7_sets_88 : decode cX7_sets 88 = .ok (.iaload, 1) := by decide +kernel
theorem dX7_sets_89 : decode cX7_sets 89 = .ok (.iconst 3, 1) := by decide +kernel
theorem dX7_sets_90 : decode cX7_sets 90 = .ok (.if_icmp .le 7, 3) := by decide +kernel
theorem dX7_sets_93 : decode cX7_sets 93 = .ok (.iconst 3, 1) := by decide +kernel
theorem dX7_sets_94 : decode cX7_sets 94 = .ok (.goto 9, 3) := by decide +kernel
theorem dX7_sets_97 : decode cX7_sets 97 = .ok (.aload_n 0, 1) := by decide +kernel
theorem dX7_sets_98 : decode cX7_sets 98 = .ok (.getfield 41, 3) := by decide +kernel
theorem dX7_sets_101 : decode cX7_sets 101 = .ok (.iload_n 1, 1) := by decide +kernel
theorem dX7_sets_102 : decode cX7_sets 102 = .ok (.iaload, 1) := by decide +kernel
theorem dX7_sets_103 : decode cX7_sets 103 = .ok (.istore 6, 2) := by decide +kernel
theorem dX7_sets_105 : decode cX7_sets 105 = .ok (.aload_n 0, 1) := by decide +kernel
theorem dX7_sets_106 : decode cX7_sets 106 = .ok (.iload_n 3, 1) := by decide +kernel
theorem dX7_sets_107 : decode cX7_sets 107 = .ok (.iconst 2, 1) := by decide +kernel
theorem dX7_sets_108 : decode cX7_sets 108 = .ok (.invokevirtual 68, 3) := by decide +kernel
theorem dX7_sets_111 : decode cX7_sets 111 = .ok (.iconst 4, 1) := by decide +kernel
theorem dX7_sets_112 : decode cX7_sets 112 = .ok (.if_icmp .ne 7, 3) := by decide +kernel
theorem dX7_sets_115 : decode cX7_sets 115 = .ok (.iconst 0, 1) := by decide +kernel
theorem dX7_sets_116 : decode cX7_sets 116 = .ok (.goto 10, 3) := by decide +kernel
theorem dX7_sets_119 : decode cX7_sets 119 = .ok (.iload 4, 2) := by decide +kernel
theorem dX7_sets_121 : decode cX7_sets 121 = .ok (.iload 6, 2) := by decide +kernel
theorem dX7_sets_123 : decode cX7_sets 123 = .ok (.imul, 1) := by decide +kernel
theorem dX7_sets_124 : decode cX7_sets 124 = .ok (.iconst 3, 1) := by decide +kernel
theorem dX7_sets_125 : decode cX7_sets 125 = .ok (.idiv, 1) := by decide +kernel
theorem dX7_sets_126 : decode cX7_sets 126 = .ok (.istore 7, 2) := by decide +kernel
theorem dX7_sets_128 : decode cX7_sets 128 = .ok (.aload_n 0, 1) := by decide +kernel
theorem dX7_sets_129 : decode cX7_sets 129 = .ok (.iload_n 1, 1) := by decide +kernel
theorem dX7_sets_130 : decode cX7_sets 130 = .ok (.iload 7, 2) := by decide +kernel
theorem dX7_sets_132 : decode cX7_sets 132 = .ok (.invokevirtual 165, 3) := by decide +kernel
theorem dX7_sets_135 : decode cX7_sets 135 = .ok (.aload_n 0, 1) := by decide +kernel
theorem dX7_sets_136 : decode cX7_sets 136 = .ok (.iload_n 3, 1) := by decide +kernel
theorem dX7_sets_137 : decode cX7_sets 137 = .ok (.bipush 10, 2) := by decide +kernel
theorem dX7_sets_139 : decode cX7_sets 139 = .ok (.aload_n 0, 1) := by decide +kernel
theorem dX7_sets_140 : decode cX7_sets 140 = .ok (.iload_n 3, 1) := by decide +kernel
theorem dX7_sets_141 : decode cX7_sets 141 = .ok (.bipush 10, 2) := by decide +kernel
theorem dX7_sets_143 : decode cX7_sets 143 = .ok (.invokevirtual 68, 3) := by decide +kernel
theorem dX7_sets_146 : decode cX7_sets 146 = .ok (.iload 7, 2) := by decide +kernel
theorem dX7_sets_148 : decode cX7_sets 148 = .ok (.iadd, 1) := by decide +kernel
theorem dX7_sets_149 : decode cX7_sets 149 = .ok (.invokevirtual 91, 3) := by decide +kernel
theorem dX7_sets_152 : decode cX7_sets 152 = .ok (.aload_n 0, 1) := by decide +kernel
theorem dX7_sets_153 : decode cX7_sets 153 = .ok (.getfield 16, 3) := by decide +kernel
theorem dX7_sets_156 : decode cX7_sets 156 = .ok (.iconst 0, 1) := by decide +kernel
theorem dX7_sets_157 : decode cX7_sets 157 = .ok (.dup2, 1) := by decide +kernel
theorem dX7_sets_158 : decode cX7_sets 158 = .ok (.laload, 1) := by decide +kernel
theorem dX7_sets_159 : decode cX7_sets 159 = .ok (.iload 7, 2) := by decide +kernel
theorem dX7_sets_161 : decode cX7_sets 161 = .ok (.i2l, 1) := by decide +kernel
theorem dX7_sets_162 : decode cX7_sets 162 = .ok (.ladd, 1) := by decide +kernel
theorem dX7_sets_163 : decode cX7_sets 163 = .ok (.lastore, 1) := by decide +kernel
theorem dX7_sets_164 : decode cX7_sets 164 = .ok (.return_, 1) := by decide +kernel
theorem cv_7_101 : CV RX7 101 1 7 I_X7_heightOf := ⟨⟨⟨gm 911 (by decide +kernel) rfl, gm 914 (by decide +kernel) rfl, gm 44 (by decide +kernel) rfl, mh_7.1, mh_7.2, by decide +kernel⟩, gm 913 (by decide +kernel) rfl, gm 8 (by decide +kernel) rfl⟩, ⟨_, _, rfl⟩, rfl, rfl⟩
theorem cv_7_165 : CV RX7 165 2 7 I_X7_grow := ⟨⟨⟨gm 1045 (by decide +kernel) rfl, gm 1048 (by decide +kernel) rfl, gm 44 (by decide +kernel) rfl, mh_7.1, mh_7.2, by decide +kernel⟩, gm 1047 (by decide +kernel) rfl, gm 26 (by decide +kernel) rfl⟩, ⟨_, _, rfl⟩, rfl, rfl⟩
def f_X7_sets_J126 (j126_1 : Int32) (j126_3 : Int32) (j126s_0 : Int32) (S126 : St) : Option (St) := (f_X7_grow j126_1 j126s_0 S126).bind fun v132 => ((f_X7_get j126_3 (10 : Int32) v132).bind fun v143 => ((f_X7_lay j126_3 (10 : Int32) (v143 + j126s_0) v132).bind fun v149 => (some (wrL v149 111 (ix (0 : Int32)) ((rdL v149 111 (ix (0 : Int32))) + j126s_0.toInt64)))))
def f_X7_sets_J103 (j103_1 : Int32) (j103_3 : Int32) (j103_4 : Int32) (j103s_0 : Int32) (S103 : St) : Option (St) := (f_X7_get j103_3 (2 : Int32) S103).bind fun v108 => (if v108 = (4 : Int32) then (f_X7_sets_J126 j103_1 j103_3 (0 : Int32) S103) else (f_X7_sets_J126 j103_1 j103_3 ((j103_4 * j103s_0) / (3 : Int32)) S103))
def f_X7_sets_J83 (j83_1 : Int32) (j83_3 : Int32) (j83_4 : Int32) (S83 : St) : Option (St) := if inb j83_1 24 = true then (if (3 : Int32) < (rd S83 119 (ix j83_1)) then (f_X7_sets_J103 j83_1 j83_3 j83_4 (3 : Int32) S83) else (if inb j83_1 24 = true then (f_X7_sets_J103 j83_1 j83_3 j83_4 (rd S83 119 (ix j83_1)) S83) else none)) else none
def f_X7_sets (x1 : Int32) (x2 : Int32) (S : St) : Option (St) := if inb x1 24 = true then ((f_X7_sortOfPart x1 S).bind fun v13 => ((f_X7_sortOf v13 (1 : Int32) S).bind fun v17 => (if v17 = 0 then none else (if inb ((582 : Int32) + ((3 : Int32) * x2)) 788 = true then (if (rd S 109 (ix ((582 : Int32) + ((3 : Int32) * x2)))) = (1 : Int32) then ((f_X7_heightOf (x1 / (2 : Int32)) S).bind fun v45 => (if inb (((582 : Int32) + ((3 : Int32) * x2)) + (1 : Int32)) 788 = true then (if (rd S 109 (ix (((582 : Int32) + ((3 : Int32) * x2)) + (1 : Int32)))) < v45 then (f_X7_sets_J83 x1 (x1 / (2 : Int32)) ((rd S 118 (ix x1)) / v17) S) else (if inb (((582 : Int32) + ((3 : Int32) * x2)) + (2 : Int32)) 788 = true then (f_X7_sets_J83 x1 (x1 / (2 : Int32)) (((rd S 118 (ix x1)) / v17) - (((((rd S 118 (ix x1)) / v17) * (rd S 109 (ix (((582 : Int32) + ((3 : Int32) * x2)) + (2 : Int32))))) + (99 : Int32)) / (100 : Int32))) S) else none)) else none)) else (f_X7_sets_J83 x1 (x1 / (2 : Int32)) ((rd S 118 (ix x1)) / v17) S)) else none)))) else none
set_option maxRecDepth 100000 in
theorem jj_X7_sets_126 (l : Launch) (w : Wd) (j126_1 : Int32) (j126_3 : Int32) (j126s_0 : Int32) (S126 : St)  : J l w I_X7_sets 126 [(0, .ref (w.2.1 + 108)), (1, .int j126_1), (3, .int j126_3)] [.int j126s_0] S126 (fun b => (none, b)) (f_X7_sets_J126 j126_1 j126_3 j126s_0 S126) := by
  unfold f_X7_sets_J126
  refine j_istore (y := I_X7_sets) (ls' := [(7, .int j126s_0), (0, .ref (w.2.1 + 108)), (1, .int j126_1), (3, .int j126_3)]) dX7_sets_126 (by decide) rfl ?_
  refine j_aload_n (y := I_X7_sets) 1 dX7_sets_128 rfl rfl ?_
  refine j_iload_n (y := I_X7_sets) 2 dX7_sets_129 rfl rfl ?_
  refine j_iload (y := I_X7_sets) 0 dX7_sets_130 rfl ?_
  refine j_callVvS (y := I_X7_sets) (As := [.int j126_1, .int j126s_0]) cv_7_165 ⟨Nat.le_of_ble_eq_true rfl, Nat.le_of_ble_eq_true rfl⟩ k_108 rfl (Nat.le_of_ble_eq_true rfl) dX7_sets_132 (c_X7_grow l w j126_1 j126s_0 S126) (fun v132 h132 => ?_)
  refine j_aload_n (y := I_X7_sets) 1 dX7_sets_135 rfl rfl ?_
  refine j_iload_n (y := I_X7_sets) 3 dX7_sets_136 rfl rfl ?_
  refine j_bipush (y := I_X7_sets) (v := 10) dX7_sets_137 (by decide) ?_
  refine j_aload_n (y := I_X7_sets) 1 dX7_sets_139 rfl rfl ?_
  refine j_iload_n (y := I_X7_sets) 3 dX7_sets_140 rfl rfl ?_
  refine j_bipush (y := I_X7_sets) (v := 10) dX7_sets_141 (by decide) ?_
  refine j_callViR (y := I_X7_sets) (As := [.int j126_3, .int (10 : Int32)]) cv_7_68 ⟨Nat.le_of_ble_eq_true rfl, Nat.le_of_ble_eq_true rfl⟩ k_108 rfl (Nat.le_of_ble_eq_true rfl) dX7_sets_143 (c_X7_get l w j126_3 (10 : Int32) v132) (fun v143 h143 => ?_)
  refine j_iload (y := I_X7_sets) 0 dX7_sets_146 rfl ?_
  refine j_iadd (y := I_X7_sets) dX7_sets_148 ?_
  refine j_callVvS (y := I_X7_sets) (As := [.int j126_3, .int (10 : Int32), .int (v143 + j126s_0)]) cv_7_91 ⟨Nat.le_of_ble_eq_true rfl, Nat.le_of_ble_eq_true rfl⟩ k_108 rfl (Nat.le_of_ble_eq_true rfl) dX7_sets_149 (c_X7_lay l w j126_3 (10 : Int32) (v143 + j126s_0) v132) (fun v149 h149 => ?_)
  refine j_aload_n (y := I_X7_sets) 1 dX7_sets_152 rfl rfl ?_
  refine j_getR (y := I_X7_sets) (j := 111) fl_7_16 k_108 rfl rfl dX7_sets_153 ?_
  refine j_iconst (y := I_X7_sets) (v := 0) dX7_sets_156 (by decide) ?_
  refine j_dup2 (y := I_X7_sets) dX7_sets_157 rfl rfl ?_
  refine j_laldL (y := I_X7_sets) k_111 (by decide) dX7_sets_158 ?_
  refine j_iload (y := I_X7_sets) 0 dX7_sets_159 rfl ?_
  refine j_i2l (y := I_X7_sets) dX7_sets_161 ?_
  refine j_ladd (y := I_X7_sets) dX7_sets_162 ?_
  refine j_lastL (y := I_X7_sets) k_111 (by decide) dX7_sets_163 ?_
  exact j_vret (y := I_X7_sets) rfl dX7_sets_164 rfl
set_option maxRecDepth 100000 in
theorem jj_X7_sets_103 (l : Launch) (w : Wd) (j103_1 : Int32) (j103_3 : Int32) (j103_4 : Int32) (j103s_0 : Int32) (S103 : St)  : J l w I_X7_sets 103 [(0, .ref (w.2.1 + 108)), (1, .int j103_1), (3, .int j103_3), (4, .int j103_4)] [.int j103s_0] S103 (fun b => (none, b)) (f_X7_sets_J103 j103_1 j103_3 j103_4 j103s_0 S103) := by
  unfold f_X7_sets_J103
  refine j_istore (y := I_X7_sets) (ls' := [(6, .int j103s_0), (0, .ref (w.2.1 + 108)), (1, .int j103_1), (3, .int j103_3), (4, .int j103_4)]) dX7_sets_103 (by decide) rfl ?_
  refine j_aload_n (y := I_X7_sets) 1 dX7_sets_105 rfl rfl ?_
  refine j_iload_n (y := I_X7_sets) 3 dX7_sets_106 rfl rfl ?_
  refine j_iconst (y := I_X7_sets) (v := 2) dX7_sets_107 (by decide) ?_
  refine j_callViR (y := I_X7_sets) (As := [.int j103_3, .int (2 : Int32)]) cv_7_68 ⟨Nat.le_of_ble_eq_true rfl, Nat.le_of_ble_eq_true rfl⟩ k_108 rfl (Nat.le_of_ble_eq_true rfl) dX7_sets_108 (c_X7_get l w j103_3 (2 : Int32) S103) (fun v108 h108 => ?_)
  refine j_iconst (y := I_X7_sets) (v := 4) dX7_sets_111 (by decide) ?_
  refine j_icmp_ne (y := I_X7_sets) 119 dX7_sets_112 (by decide) (fun h112 => ?_) (fun h112 => ?_)
  · refine j_iload (y := I_X7_sets) 4 dX7_sets_119 rfl ?_
    refine j_iload (y := I_X7_sets) 0 dX7_sets_121 rfl ?_
    refine j_imul (y := I_X7_sets) dX7_sets_123 ?_
    refine j_iconst (y := I_X7_sets) (v := 3) dX7_sets_124 (by decide) ?_
    refine j_idivL (y := I_X7_sets) dX7_sets_125 (by decide) ?_
    refine j_sub [1, 2, 3] rfl ?_
    exact jj_X7_sets_126 l w j103_1 j103_3 ((j103_4 * j103s_0) / (3 : Int32)) S103
  · refine j_iconst (y := I_X7_sets) (v := 0) dX7_sets_115 (by decide) ?_
    refine j_goto (y := I_X7_sets) 126 dX7_sets_116 (by decide) ?_
    refine j_sub [1, 2, 3] rfl ?_
    exact jj_X7_sets_126 l w j103_1 j103_3 (0 : Int32) S103
set_option maxRecDepth 100000 in
theorem jj_X7_sets_83 (l : Launch) (w : Wd) (j83_1 : Int32) (j83_3 : Int32) (j83_4 : Int32) (S83 : St)  : J l w I_X7_sets 83 [(0, .ref (w.2.1 + 108)), (1, .int j83_1), (3, .int j83_3), (4, .int j83_4)] [] S83 (fun b => (none, b)) (f_X7_sets_J83 j83_1 j83_3 j83_4 S83) := by
  unfold f_X7_sets_J83
  refine j_aload_n (y := I_X7_sets) 0 dX7_sets_83 rfl rfl ?_
  refine j_getR (y := I_X7_sets) (j := 119) fl_7_41 k_108 rfl rfl dX7_sets_84 ?_
  refine j_iload_n (y := I_X7_sets) 1 dX7_sets_87 rfl rfl ?_
  refine j_iald (y := I_X7_sets) k_119 dX7_sets_88 (fun h88 => ?_)
  refine j_iconst (y := I_X7_sets) (v := 3) dX7_sets_89 (by decide) ?_
  refine j_icmp_le (y := I_X7_sets) 97 dX7_sets_90 (by decide) (fun h90 => ?_) (fun h90 => ?_)
  · refine j_aload_n (y := I_X7_sets) 0 dX7_sets_97 rfl rfl ?_
    refine j_getR (y := I_X7_sets) (j := 119) fl_7_41 k_108 rfl rfl dX7_sets_98 ?_
    refine j_iload_n (y := I_X7_sets) 1 dX7_sets_101 rfl rfl ?_
    refine j_iald (y := I_X7_sets) k_119 dX7_sets_102 (fun h102 => ?_)
    refine j_sub [0, 1, 2, 3] rfl ?_
    exact jj_X7_sets_103 l w j83_1 j83_3 j83_4 (rd S83 119 (ix j83_1)) S83
  · refine j_iconst (y := I_X7_sets) (v := 3) dX7_sets_93 (by decide) ?_
    refine j_goto (y := I_X7_sets) 103 dX7_sets_94 (by decide) ?_
    refine j_sub [0, 1, 2, 3] rfl ?_
    exact jj_X7_sets_103 l w j83_1 j83_3 j83_4 (3 : Int32) S83
set_option maxRecDepth 100000 in
set_option maxHeartbeats 4000000 in
theorem m_X7_sets (l : Launch) (w : Wd) (x1 : Int32) (x2 : Int32) (S : St)  : J l w I_X7_sets 0 [(0, .ref (w.2.1 + 108)), (1, .int x1), (2, .int x2)] [] S (fun b => (none, b)) (f_X7_sets x1 x2 S) := by
  unfold f_X7_sets
  refine j_iload_n (y := I_X7_sets) 1 dX7_sets_0 rfl rfl ?_
  refine j_iconst (y := I_X7_sets) (v := 2) dX7_sets_1 (by decide) ?_
  refine j_idivL (y := I_X7_sets) dX7_sets_2 (by decide) ?_
  refine j_istore_n (y := I_X7_sets) (ls' := [(3, .int (x1 / (2 : Int32))), (0, .ref (w.2.1 + 108)), (1, .int x1), (2, .int x2)]) dX7_sets_3 rfl (by decide) rfl ?_
  refine j_aload_n (y := I_X7_sets) 1 dX7_sets_4 rfl rfl ?_
  refine j_getR (y := I_X7_sets) (j := 118) fl_7_38 k_108 rfl rfl dX7_sets_5 ?_
  refine j_iload_n (y := I_X7_sets) 2 dX7_sets_8 rfl rfl ?_
  refine j_iald (y := I_X7_sets) k_118 dX7_sets_9 (fun h9 => ?_)
  refine j_aload_n (y := I_X7_sets) 1 dX7_sets_10 rfl rfl ?_
  refine j_aload_n (y := I_X7_sets) 1 dX7_sets_11 rfl rfl ?_
  refine j_iload_n (y := I_X7_sets) 2 dX7_sets_12 rfl rfl ?_
  refine j_callViR (y := I_X7_sets) (As := [.int x1]) cv_7_143 ⟨Nat.le_of_ble_eq_true rfl, Nat.le_of_ble_eq_true rfl⟩ k_108 rfl (Nat.le_of_ble_eq_true rfl) dX7_sets_13 (c_X7_sortOfPart l w x1 S) (fun v13 h13 => ?_)
  refine j_iconst (y := I_X7_sets) (v := 1) dX7_sets_16 (by decide) ?_
  refine j_callViR (y := I_X7_sets) (As := [.int v13, .int (1 : Int32)]) cv_7_98 ⟨Nat.le_of_ble_eq_true rfl, Nat.le_of_ble_eq_true rfl⟩ k_108 rfl (Nat.le_of_ble_eq_true rfl) dX7_sets_17 (c_X7_sortOf l w v13 (1 : Int32) S) (fun v17 h17 => ?_)
  refine j_idiv (y := I_X7_sets) dX7_sets_20 (fun h20 => ?_)
  refine j_istore (y := I_X7_sets) (ls' := [(4, .int ((rd S 118 (ix x1)) / v17)), (3, .int (x1 / (2 : Int32))), (0, .ref (w.2.1 + 108)), (1, .int x1), (2, .int x2)]) dX7_sets_21 (by decide) rfl ?_
  refine j_sipush (y := I_X7_sets) (v := 582) dX7_sets_23 (by decide) ?_
  refine j_iconst (y := I_X7_sets) (v := 3) dX7_sets_26 (by decide) ?_
  refine j_iload_n (y := I_X7_sets) 4 dX7_sets_27 rfl rfl ?_
  refine j_imul (y := I_X7_sets) dX7_sets_28 ?_
  refine j_iadd (y := I_X7_sets) dX7_sets_29 ?_
  refine j_istore (y := I_X7_sets) (ls' := [(5, .int ((582 : Int32) + ((3 : Int32) * x2))), (4, .int ((rd S 118 (ix x1)) / v17)), (3, .int (x1 / (2 : Int32))), (0, .ref (w.2.1 + 108)), (1, .int x1), (2, .int x2)]) dX7_sets_30 (by decide) rfl ?_
  refine j_aload_n (y := I_X7_sets) 3 dX7_sets_32 rfl rfl ?_
  refine j_getR (y := I_X7_sets) (j := 109) fl_7_7 k_108 rfl rfl dX7_sets_33 ?_
  refine j_iload (y := I_X7_sets) 0 dX7_sets_36 rfl ?_
  refine j_iald (y := I_X7_sets) k_109 dX7_sets_38 (fun h38 => ?_)
  refine j_iconst (y := I_X7_sets) (v := 1) dX7_sets_39 (by decide) ?_
  refine j_icmp_ne (y := I_X7_sets) 83 dX7_sets_40 (by decide) (fun h40 => ?_) (fun h40 => ?_)
  · refine j_sub [3, 4, 2, 1] rfl ?_
    exact jj_X7_sets_83 l w x1 (x1 / (2 : Int32)) ((rd S 118 (ix x1)) / v17) S
  · refine j_aload_n (y := I_X7_sets) 3 dX7_sets_43 rfl rfl ?_
    refine j_iload_n (y := I_X7_sets) 2 dX7_sets_44 rfl rfl ?_
    refine j_callViR (y := I_X7_sets) (As := [.int (x1 / (2 : Int32))]) cv_7_101 ⟨Nat.le_of_ble_eq_true rfl, Nat.le_of_ble_eq_true rfl⟩ k_108 rfl (Nat.le_of_ble_eq_true rfl) dX7_sets_45 (c_X7_heightOf l w (x1 / (2 : Int32)) S) (fun v45 h45 => ?_)
    refine j_aload_n (y := I_X7_sets) 3 dX7_sets_48 rfl rfl ?_
    refine j_getR (y := I_X7_sets) (j := 109) fl_7_7 k_108 rfl rfl dX7_sets_49 ?_
    refine j_iload (y := I_X7_sets) 0 dX7_sets_52 rfl ?_
    refine j_iconst (y := I_X7_sets) (v := 1) dX7_sets_54 (by decide) ?_
    refine j_iadd (y := I_X7_sets) dX7_sets_55 ?_
    refine j_iald (y := I_X7_sets) k_109 dX7_sets_56 (fun h56 => ?_)
    refine j_icmp_gt (y := I_X7_sets) 83 dX7_sets_57 (by decide) (fun h57 => ?_) (fun h57 => ?_)
    · refine j_sub [3, 4, 2, 1] rfl ?_
      exact jj_X7_sets_83 l w x1 (x1 / (2 : Int32)) ((rd S 118 (ix x1)) / v17) S
    · refine j_iload (y := I_X7_sets) 1 dX7_sets_60 rfl ?_
      refine j_iload (y := I_X7_sets) 1 dX7_sets_62 rfl ?_
      refine j_aload_n (y := I_X7_sets) 3 dX7_sets_64 rfl rfl ?_
      refine j_getR (y := I_X7_sets) (j := 109) fl_7_7 k_108 rfl rfl dX7_sets_65 ?_
      refine j_iload (y := I_X7_sets) 0 dX7_sets_68 rfl ?_
      refine j_iconst (y := I_X7_sets) (v := 2) dX7_sets_70 (by decide) ?_
      refine j_iadd (y := I_X7_sets) dX7_sets_71 ?_
      refine j_iald (y := I_X7_sets) k_109 dX7_sets_72 (fun h72 => ?_)
      refine j_imul (y := I_X7_sets) dX7_sets_73 ?_
      refine j_bipush (y := I_X7_sets) (v := 99) dX7_sets_74 (by decide) ?_
      refine j_iadd (y := I_X7_sets) dX7_sets_76 ?_
      refine j_bipush (y := I_X7_sets) (v := 100) dX7_sets_77 (by decide) ?_
      refine j_idivL (y := I_X7_sets) dX7_sets_79 (by decide) ?_
      refine j_isub (y := I_X7_sets) dX7_sets_80 ?_
      refine j_istore (y := I_X7_sets) (ls' := [(4, .int (((rd S 118 (ix x1)) / v17) - (((((rd S 118 (ix x1)) / v17) * (rd S 109 (ix (((582 : Int32) + ((3 : Int32) * x2)) + (2 : Int32))))) + (99 : Int32)) / (100 : Int32)))), (5, .int ((582 : Int32) + ((3 : Int32) * x2))), (3, .int (x1 / (2 : Int32))), (0, .ref (w.2.1 + 108)), (1, .int x1), (2, .int x2)]) dX7_sets_81 (by decide) rfl ?_
      refine j_sub [3, 4, 2, 0] rfl ?_
      exact jj_X7_sets_83 l w x1 (x1 / (2 : Int32)) (((rd S 118 (ix x1)) / v17) - (((((rd S 118 (ix x1)) / v17) * (rd S 109 (ix (((582 : Int32) + ((3 : Int32) * x2)) + (2 : Int32))))) + (99 : Int32)) / (100 : Int32))) S
theorem c_X7_sets (l : Launch) (w : Wd) (x1 : Int32) (x2 : Int32) (S : St)  : ∀ v, f_X7_sets x1 x2 S = some v → CtS l w I_X7_sets [.ref (w.2.1 + 108), .int x1, .int x2] S v none := fun v h => J.ct (av := [.ref (w.2.1 + 108), .int x1, .int x2]) (Nat.le_of_ble_eq_true rfl) pn_7 (m_X7_sets l w x1 x2 S ) h
abbrev I_X7_ripens : MI := (yX7_ripens, cX7_ripens, 6, some .boolean, { frames := 5, cells := 0, slots := 0, locals := 117 })
theorem dX7_ripens_0 : decode cX7_ripens 0 = .ok (.aload_n 0, 1) := by decide +kernel
theorem dX7_ripens_1 : decode cX7_ripens 1 = .ok (.iload_n 1, 1) := by decide +kernel
theorem dX7_ripens_2 : decode cX7_ripens 2 = .ok (.iconst 0, 1) := by decide +kernel
theorem dX7_ripens_3 : decode cX7_ripens 3 = .ok (.invokevirtual 133, 3) := by decide +kernel
theorem dX7_ripens_6 : decode cX7_ripens 6 = .ok (.aload_n 0, 1) := by decide +kernel
theorem dX7_ripens_7 : decode cX7_ripens 7 = .ok (.iload_n 1, 1) := by decide +kernel
theorem dX7_ripens_8 : decode cX7_ripens 8 = .ok (.iconst 1, 1) := by decide +kernel
theorem dX7_ripens_9 : decode cX7_ripens 9 = .ok (.invokevirtual 98, 3) := by decide +kernel
theorem dX7_ripens_12 : decode cX7_ripens 12 = .ok (.iadd, 1) := by decide +kernel
theorem dX7_ripens_13 : decode cX7_ripens 13 = .ok (.iconst 1, 1) := by decide +kernel
theorem dX7_ripens_14 : decode cX7_ripens 14 = .ok (.isub, 1) := by decide +kernel
theorem dX7_ripens_15 : decode cX7_ripens 15 = .ok (.istore_n 3, 1) := by decide +kernel
theorem dX7_ripens_16 : decode cX7_ripens 16 = .ok (.iload_n 3, 1) := by decide +kernel
theorem dX7_ripens_17 : decode cX7_ripens 17 = .ok (.bipush 50, 2) := by decide +kernel
theorem dX7_ripens_19 : decode cX7_ripens 19 = .ok (.if_icmp .ge 8, 3) := by decide +kernel
theorem dX7_ripens_22 : decode cX7_ripens 22 = .ok (.iload_n 2, 1) := by decide +kernel
theorem dX7_ripens_23 : decode cX7_ripens 23 = .ok (.iload_n 3, 1) := by decide +kernel
theorem dX7_ripens_24 : decode cX7_ripens 24 = .ok (.if_icmp .gt 5, 3) := by decide +kernel
theorem dX7_ripens_27 : decode cX7_ripens 27 = .ok (.iconst 0, 1) := by decide +kernel
theorem dX7_ripens_28 : decode cX7_ripens 28 = .ok (.ireturn, 1) := by decide +kernel
theorem dX7_ripens_29 : decode cX7_ripens 29 = .ok (.iconst 0, 1) := by decide +kernel
theorem dX7_ripens_30 : decode cX7_ripens 30 = .ok (.istore 4, 2) := by decide +kernel
theorem dX7_ripens_32 : decode cX7_ripens 32 = .ok (.iload_n 3, 1) := by decide +kernel
theorem dX7_ripens_33 : decode cX7_ripens 33 = .ok (.iconst 1, 1) := by decide +kernel
theorem dX7_ripens_34 : decode cX7_ripens 34 = .ok (.iadd, 1) := by decide +kernel
theorem dX7_ripens_35 : decode cX7_ripens 35 = .ok (.istore 5, 2) := by decide +kernel
theorem dX7_ripens_37 : decode cX7_ripens 37 = .ok (.iload 5, 2) := by decide +kernel
theorem dX7_ripens_39 : decode cX7_ripens 39 = .ok (.iload_n 2, 1) := by decide +kernel
theorem dX7_ripens_40 : decode cX7_ripens 40 = .ok (.if_icmp .gt 20, 3) := by decide +kernel
theorem dX7_ripens_43 : decode cX7_ripens 43 = .ok (.iload 4, 2) := by decide +kernel
theorem dX7_ripens_45 : decode cX7_ripens 45 = .ok (.aload_n 0, 1) := by decide +kernel
theorem dX7_ripens_46 : decode cX7_ripens 46 = .ok (.iload 5, 2) := by decide +kernel
theorem dX7_ripens_48 : decode cX7_ripens 48 = .ok (.invokevirtual 130, 3) := by decide +kernel
theorem dX7_ripens_51 : decode cX7_ripens 51 = .ok (.iadd, 1) := by decide +kernel
theorem dX7_ripens_52 : decode cX7_ripens 52 = .ok (.istore 4, 2) := by decide +kernel
theorem dX7_ripens_54 : decode cX7_ripens 54 = .ok (.iinc 5 1, 3) := by decide +kernel
theorem dX7_ripens_57 : decode cX7_ripens 57 = .ok (.goto (-20), 3) := by decide +kernel
theorem dX7_ripens_60 : decode cX7_ripens 60 = .ok (.iload 4, 2) := by decide +kernel
theorem dX7_ripens_62 : decode cX7_ripens 62 = .ok (.aload_n 0, 1) := by decide +kernel
theorem dX7_ripens_63 : decode cX7_ripens 63 = .ok (.iload_n 1, 1) := by decide +kernel
theorem dX7_ripens_64 : decode cX7_ripens 64 = .ok (.iconst 2, 1) := by decide +kernel
theorem dX7_ripens_65 : decode cX7_ripens 65 = .ok (.invokevirtual 98, 3) := by decide +kernel
theorem dX7_ripens_68 : decode cX7_ripens 68 = .ok (.if_icmp .lt 7, 3) := by decide +kernel
theorem dX7_ripens_71 : decode cX7_ripens 71 = .ok (.iconst 1, 1) := by decide +kernel
theorem dX7_ripens_72 : decode cX7_ripens 72 = .ok (.goto 4, 3) := by decide +kernel
theorem dX7_ripens_75 : decode cX7_ripens 75 = .ok (.iconst 0, 1) := by decide +kernel
theorem dX7_ripens_76 : decode cX7_ripens 76 = .ok (.ireturn, 1) := by decide +kernel
def f_X7_ripens_L37 (fuel : Nat) (K : Int32 → Int32 → Option (Bool)) (a37_1 : Int32) (a37_2 : Int32) (a37_4 : Int32) (a37_5 : Int32) (S : St) : Option (Bool) := match fuel with
  | 0 => none
  | n + 1 => if a37_2 < a37_5 then (K a37_1 a37_4) else ((f_X7_warm a37_5 S).bind fun v48 => (f_X7_ripens_L37 n K a37_1 a37_2 (a37_4 + v48) (a37_5 + (1 : Int32)) S))
def f_X7_ripens (x1 : Int32) (x2 : Int32) (S : St) : Option (Bool) := (f_X7_firstDay x1 false S).bind fun v3 => ((f_X7_sortOf x1 (1 : Int32) S).bind fun v9 => (if ((v3 + v9) - (1 : Int32)) < (50 : Int32) then (if ((v3 + v9) - (1 : Int32)) < x2 then (f_X7_ripens_L37 6000 (fun e60_1 e60_4 => ((f_X7_sortOf e60_1 (2 : Int32) S).bind fun v65 => (if e60_4 < v65 then (some false) else (some true)))) x1 x2 (0 : Int32) (((v3 + v9) - (1 : Int32)) + (1 : Int32)) S) else (some false)) else (some false)))
set_option maxRecDepth 100000 in
theorem jl_X7_ripens_37 (l : Launch) (w : Wd) (S : St) (K : Int32 → Int32 → Option (Bool)) (n : Nat) : ∀ (a37_1 : Int32) (a37_2 : Int32) (a37_4 : Int32) (a37_5 : Int32), (∀ (e60_1 : Int32) (e60_4 : Int32) , J l w I_X7_ripens 60 [(0, .ref (w.2.1 + 108)), (1, .int e60_1), (4, .int e60_4)] [] S (fun b => (some (.int (b2i b)), S)) (K e60_1 e60_4)) → J l w I_X7_ripens 37 [(0, .ref (w.2.1 + 108)), (1, .int a37_1), (2, .int a37_2), (4, .int a37_4), (5, .int a37_5)] [] S (fun b => (some (.int (b2i b)), S)) (f_X7_ripens_L37 n K a37_1 a37_2 a37_4 a37_5 S) := by
  induction n with
  | zero =>
    intro a37_1 a37_2 a37_4 a37_5 hK b h
    simp only [f_X7_ripens_L37] at h
    cases h
  | succ n ih =>
    intro a37_1 a37_2 a37_4 a37_5 hK
    rw [f_X7_ripens_L37]
    refine j_iload (y := I_X7_ripens) 4 dX7_ripens_37 rfl ?_
    refine j_iload_n (y := I_X7_ripens) 2 dX7_ripens_39 rfl rfl ?_
    refine j_icmp_gt (y := I_X7_ripens) 60 dX7_ripens_40 (by decide) (fun h40 => ?_) (fun h40 => ?_)
    · refine j_sub [0, 1, 3] rfl ?_
      exact hK a37_1 a37_4
    · refine j_iload (y := I_X7_ripens) 3 dX7_ripens_43 rfl ?_
      refine j_aload_n (y := I_X7_ripens) 0 dX7_ripens_45 rfl rfl ?_
      refine j_iload (y := I_X7_ripens) 4 dX7_ripens_46 rfl ?_
      refine j_callViR (y := I_X7_ripens) (As := [.int a37_5]) cv_7_130 ⟨Nat.le_of_ble_eq_true rfl, Nat.le_of_ble_eq_true rfl⟩ k_108 rfl (Nat.le_of_ble_eq_true rfl) dX7_ripens_48 (c_X7_warm l w a37_5 S) (fun v48 h48 => ?_)
      refine j_iadd (y := I_X7_ripens) dX7_ripens_51 ?_
      refine j_istore (y := I_X7_ripens) (ls' := [(4, .int (a37_4 + v48)), (0, .ref (w.2.1 + 108)), (1, .int a37_1), (2, .int a37_2), (5, .int a37_5)]) dX7_ripens_52 (by decide) rfl ?_
      refine j_iinc (y := I_X7_ripens) 4 (ls' := [(5, .int (a37_5 + (1 : Int32))), (4, .int (a37_4 + v48)), (0, .ref (w.2.1 + 108)), (1, .int a37_1), (2, .int a37_2)]) dX7_ripens_54 rfl (ii _ _ (by decide) _) (by decide) rfl ?_
      refine j_goto (y := I_X7_ripens) 37 dX7_ripens_57 (by decide) ?_
      refine j_sub [2, 3, 4, 1, 0] rfl ?_
      exact ih a37_1 a37_2 (a37_4 + v48) (a37_5 + (1 : Int32)) hK
set_option maxRecDepth 100000 in
set_option maxHeartbeats 4000000 in
theorem m_X7_ripens (l : Launch) (w : Wd) (x1 : Int32) (x2 : Int32) (S : St)  : J l w I_X7_ripens 0 [(0, .ref (w.2.1 + 108)), (1, .int x1), (2, .int x2)] [] S (fun b => (some (.int (b2i b)), S)) (f_X7_ripens x1 x2 S) := by
  unfold f_X7_ripens
  refine j_aload_n (y := I_X7_ripens) 0 dX7_ripens_0 rfl rfl ?_
  refine j_iload_n (y := I_X7_ripens) 1 dX7_ripens_1 rfl rfl ?_
  refine j_iconst (y := I_X7_ripens) (v := 0) dX7_ripens_2 (by decide) ?_
  refine j_callViR (y := I_X7_ripens) (As := [.int x1, .int (0 : Int32)]) cv_7_133 ⟨Nat.le_of_ble_eq_true rfl, Nat.le_of_ble_eq_true rfl⟩ k_108 rfl (Nat.le_of_ble_eq_true rfl) dX7_ripens_3 (c_X7_firstDay l w x1 false S) (fun v3 h3 => ?_)
  refine j_aload_n (y := I_X7_ripens) 0 dX7_ripens_6 rfl rfl ?_
  refine j_iload_n (y := I_X7_ripens) 1 dX7_ripens_7 rfl rfl ?_
  refine j_iconst (y := I_X7_ripens) (v := 1) dX7_ripens_8 (by decide) ?_
  refine j_callViR (y := I_X7_ripens) (As := [.int x1, .int (1 : Int32)]) cv_7_98 ⟨Nat.le_of_ble_eq_true rfl, Nat.le_of_ble_eq_true rfl⟩ k_108 rfl (Nat.le_of_ble_eq_true rfl) dX7_ripens_9 (c_X7_sortOf l w x1 (1 : Int32) S) (fun v9 h9 => ?_)
  refine j_iadd (y := I_X7_ripens) dX7_ripens_12 ?_
  refine j_iconst (y := I_X7_ripens) (v := 1) dX7_ripens_13 (by decide) ?_
  refine j_isub (y := I_X7_ripens) dX7_ripens_14 ?_
  refine j_istore_n (y := I_X7_ripens) (ls' := [(3, .int ((v3 + v9) - (1 : Int32))), (0, .ref (w.2.1 + 108)), (1, .int x1), (2, .int x2)]) dX7_ripens_15 rfl (by decide) rfl ?_
  refine j_iload_n (y := I_X7_ripens) 0 dX7_ripens_16 rfl rfl ?_
  refine j_bipush (y := I_X7_ripens) (v := 50) dX7_ripens_17 (by decide) ?_
  refine j_icmp_ge (y := I_X7_ripens) 27 dX7_ripens_19 (by decide) (fun h19 => ?_) (fun h19 => ?_)
  · refine j_iconst (y := I_X7_ripens) (v := 0) dX7_ripens_27 (by decide) ?_
    exact j_zret (y := I_X7_ripens) (q := false) rfl rfl dX7_ripens_28 rfl
  · refine j_iload_n (y := I_X7_ripens) 3 dX7_ripens_22 rfl rfl ?_
    refine j_iload_n (y := I_X7_ripens) 0 dX7_ripens_23 rfl rfl ?_
    refine j_icmp_gt (y := I_X7_ripens) 29 dX7_ripens_24 (by decide) (fun h24 => ?_) (fun h24 => ?_)
    · refine j_iconst (y := I_X7_ripens) (v := 0) dX7_ripens_29 (by decide) ?_
      refine j_istore (y := I_X7_ripens) (ls' := [(4, .int (0 : Int32)), (3, .int ((v3 + v9) - (1 : Int32))), (0, .ref (w.2.1 + 108)), (1, .int x1), (2, .int x2)]) dX7_ripens_30 (by decide) rfl ?_
      refine j_iload_n (y := I_X7_ripens) 1 dX7_ripens_32 rfl rfl ?_
      refine j_iconst (y := I_X7_ripens) (v := 1) dX7_ripens_33 (by decide) ?_
      refine j_iadd (y := I_X7_ripens) dX7_ripens_34 ?_
      refine j_istore (y := I_X7_ripens) (ls' := [(5, .int (((v3 + v9) - (1 : Int32)) + (1 : Int32))), (4, .int (0 : Int32)), (3, .int ((v3 + v9) - (1 : Int32))), (0, .ref (w.2.1 + 108)), (1, .int x1), (2, .int x2)]) dX7_ripens_35 (by decide) rfl ?_
      refine j_sub [3, 4, 5, 1, 0] rfl ?_
      refine jl_X7_ripens_37 l w S _ 6000 x1 x2 (0 : Int32) (((v3 + v9) - (1 : Int32)) + (1 : Int32))   (fun e60_1 e60_4 => ?_)
      refine j_iload (y := I_X7_ripens) 2 dX7_ripens_60 rfl ?_
      refine j_aload_n (y := I_X7_ripens) 0 dX7_ripens_62 rfl rfl ?_
      refine j_iload_n (y := I_X7_ripens) 1 dX7_ripens_63 rfl rfl ?_
      refine j_iconst (y := I_X7_ripens) (v := 2) dX7_ripens_64 (by decide) ?_
      refine j_callViR (y := I_X7_ripens) (As := [.int e60_1, .int (2 : Int32)]) cv_7_98 ⟨Nat.le_of_ble_eq_true rfl, Nat.le_of_ble_eq_true rfl⟩ k_108 rfl (Nat.le_of_ble_eq_true rfl) dX7_ripens_65 (c_X7_sortOf l w e60_1 (2 : Int32) S) (fun v65 h65 => ?_)
      refine j_icmp_lt (y := I_X7_ripens) 75 dX7_ripens_68 (by decide) (fun h68 => ?_) (fun h68 => ?_)
      · refine j_iconst (y := I_X7_ripens) (v := 0) dX7_ripens_75 (by decide) ?_
        exact j_zret (y := I_X7_ripens) (q := false) rfl rfl dX7_ripens_76 rfl
      · refine j_iconst (y := I_X7_ripens) (v := 1) dX7_ripens_71 (by decide) ?_
        refine j_goto (y := I_X7_ripens) 76 dX7_ripens_72 (by decide) ?_
        exact j_zret (y := I_X7_ripens) (q := true) rfl rfl dX7_ripens_76 rfl
    · refine j_iconst (y := I_X7_ripens) (v := 0) dX7_ripens_27 (by decide) ?_
      exact j_zret (y := I_X7_ripens) (q := false) rfl rfl dX7_ripens_28 rfl
theorem c_X7_ripens (l : Launch) (w : Wd) (x1 : Int32) (x2 : Int32) (S : St)  : ∀ v, f_X7_ripens x1 x2 S = some v → CtS l w I_X7_ripens [.ref (w.2.1 + 108), .int x1, .int x2] S S (some (.int (b2i v))) := fun v h => J.ct (av := [.ref (w.2.1 + 108), .int x1, .int x2]) (Nat.le_of_ble_eq_true rfl) pn_7 (m_X7_ripens l w x1 x2 S ) h
abbrev I_X7_pick : MI := (yX7_pick, cX7_pick, 7, none, { frames := 2, cells := 0, slots := 0, locals := 45 })
theorem dX7_pick_0 : decode cX7_pick 0 = .ok (.aload_n 0, 1) := by decide +kernel
theorem dX7_pick_1 : decode cX7_pick 1 = .ok (.getfield 7, 3) := by decide +kernel
theorem dX7_pick_4 : decode cX7_pick 4 = .ok (.sipush 787, 3) := by decide +kernel
theorem dX7_pick_7 : decode cX7_pick 7 = .ok (.iaload, 1) := by decide +kernel
theorem dX7_pick_8 : decode cX7_pick 8 = .ok (.istore_n 2, 1) := by decide +kernel
theorem dX7_pick_9 : decode cX7_pick 9 = .ok (.sipush 1000, 3) := by decide +kernel
theorem dX7_pick_12 : decode cX7_pick 12 = .ok (.aload_n 0, 1) := by decide +kernel
theorem dX7_pick_13 : decode cX7_pick 13 = .ok (.invokevirtual 188, 3) := by decide +kernel
theorem dX7_pick_16 : decode cX7_pick 16 = .ok (.isub, 1) := by decide +kernel
theorem dX7_pick_17 : decode cX7_pick 17 = .ok (.istore_n 3, 1) := by decide +kernel
theorem dX7_pick_18 : decode cX7_pick 18 = .ok (.iconst 1, 1) := by decide +kernel
theorem dX7_pick_19 : decode cX7_pick 19 = .ok (.istore 4, 2) := by decide +kernel
theorem dX7_pick_21 : decode cX7_pick 21 = .ok (.iload 4, 2) := by decide +kernel
theorem dX7_pick_23 : decode cX7_pick 23 = .ok (.ifCond .eq 183, 3) := by decide +kernel
theorem dX7_pick_26 : decode cX7_pick 26 = .ok (.iconst (-1), 1) := by decide +kernel
theorem dX7_pick_27 : decode cX7_pick 27 = .ok (.istore 5, 2) := by decide +kernel
theorem dX7_pick_29 : decode cX7_pick 29 = .ok (.iconst 0, 1) := by decide +kernel
theorem dX7_pick_30 : decode cX7_pick 30 = .ok (.istore 6, 2) := by decide +kernel
theorem dX7_pick_32 : decode cX7_pick 32 = .ok (.iload 6, 2) := by decide +kernel
theorem dX7_pick_34 : decode cX7_pick 34 = .ok (.bipush 24, 2) := by decide +kernel
theorem dX7_pick_36 : decode cX7_pick 36 = .ok (.if_icmp .ge 52, 3) := by decide +kernel
theorem dX7_pick_39 : decode cX7_pick 39 = .ok (.aload_n 0, 1) := by decide +kernel
theorem dX7_pick_40 : decode cX7_pick 40 = .ok (.getfield 44, 3) := by decide +kernel
theorem dX7_pick_43 : decode cX7_pick 43 = .ok (.iload 6, 2) := by decide +kernel
theorem dX7_pick_45 : decode cX7_pick 45 = .ok (.baload, 1) := by decide +kernel
theorem dX7_pick_46 : decode cX7_pick 46 = .ok (.ifCond .eq 36, 3) := by decide +kernel
theorem dX7_pick_49 : decode cX7_pick 49 = .ok (.aload_n 0, 1) := by decide +kernel
theorem dX7_pick_50 : decode cX7_pick 50 = .ok (.iload 6, 2) := by decide +kernel
theorem dX7_pick_52 : decode cX7_pick 52 = .ok (.invokevirtual 162, 3) := by decide +kernel
theorem dX7_pick_55 : decode cX7_pick 55 = .ok (.ifCond .le 27, 3) := by decide +kernel
theorem dX7_pick_58 : decode cX7_pick 58 = .ok (.iload 5, 2) := by decide +kernel
theorem dX7_pick_60 : decode cX7_pick 60 = .ok (.ifCond .lt 18, 3) := by decide +kernel
theorem dX7_pick_63 : decode cX7_pick 63 = .ok (.aload_n 0, 1) := by decide +kernel
theorem dX7_pick_64 : decode cX7_pick 64 = .ok (.iload 6, 2) := by decide +kernel
theorem dX7_pick_66 : decode cX7_pick 66 = .ok (.invokevirtual 162, 3) := by decide +kernel
theorem dX7_pick_69 : decode cX7_pick 69 = .ok (.aload_n 0, 1) := by decide +kernel
theorem dX7_pick_70 : decode cX7_pick 70 = .ok (.iload 5, 2) := by decide +kernel
theorem dX7_pick_72 : decode cX7_pick 72 = .ok (.invokevirtual 162, 3) := by decide +kernel
theorem dX7_pick_75 : decode cX7_pick 75 = .ok (.if_icmp .le 7, 3) := by decide +kernel
theorem dX7_pick_78 : decode cX7_pick 78 = .ok (.iload 6, 2) := by decide +kernel
theorem dX7_pick_80 : decode cX7_pick 80 = .ok (.istore 5, 2) := by decide +kernel
theorem dX7_pick_82 : decode cX7_pick 82 = .ok (.iinc 6 1, 3) := by decide +kernel
theorem dX7_pick_85 : decode cX7_pick 85 = .ok (.goto (-53), 3) := by decide +kernel
theorem dX7_pick_88 : decode cX7_pick 88 = .ok (.iload 5, 2) := by decide +kernel
theorem dX7_pick_90 : decode cX7_pick 90 = .ok (.ifCond .lt 15, 3) := by decide +kernel
theorem dX7_pick_93 : decode cX7_pick 93 = .ok (.iload_n 2, 1) := by decide +kernel
theorem dX7_pick_94 : decode cX7_pick 94 = .ok (.ifCond .le 11, 3) := by decide +kernel
theorem dX7_pick_97 : decode cX7_pick 97 = .ok (.iload_n 3, 1) := by decide +kernel
theorem dX7_pick_98 : decode cX7_pick 98 = .ok (.ifCond .le 7, 3) := by decide +kernel
theorem dX7_pick_101 : decode cX7_pick 101 = .ok (.iconst 1, 1) := by decide +kernel
theorem dX7_pick_102 : decode cX7_pick 102 = .ok (.goto 4, 3) := by decide +kernel
theorem dX7_pick_105 : decode cX7_pick 105 = .ok (.iconst 0, 1) := by decide +kernel
theorem dX7_pick_106 : decode cX7_pick 106 = .ok (.istore 4, 2) := by decide +kernel
theorem dX7_pick_108 : decode cX7_pick 108 = .ok (.iload 4, 2) := by decide +kernel
theorem dX7_pick_110 : decode cX7_pick 110 = .ok (.ifCond .ne 6, 3) := by decide +kernel
theorem dX7_pick_113 : decode cX7_pick 113 = .ok (.goto (-92), 3) := by decide +kernel
theorem dX7_pick_116 : decode cX7_pick 116 = .ok (.aload_n 0, 1) := by decide +kernel
theorem dX7_pick_117 : decode cX7_pick 117 = .ok (.iload 5, 2) := by decide +kernel
theorem dX7_pick_119 : decode cX7_pick 119 = .ok (.invokevirtual 162, 3) := by decide +kernel
theorem dX7_pick_122 : decode cX7_pick 122 = .ok (.iload_n 2, 1) := by decide +kernel
theorem dX7_pick_123 : decode cX7_pick 123 = .ok (.if_icmp .ge 12, 3) := by decide +kernel
theorem dX7_pick_126 : decode cX7_pick 126 = .ok (.aload_n 0, 1) := by decide +kernel
theorem dX7_pick_127 : decode cX7_pick 127 = .ok (.iload 5, 2) := by decide +kernel
theorem dX7_pick_129 : decode cX7_pick 129 = .ok (.invokevirtual 162, 3) := by decide +kernel
theorem dX7_pick_132 : decode cX7_pick 132 = .ok (.goto 4, 3) := by decide +kernel
theorem dX7_pick_135 : decode cX7_pick 135 = .ok (.iload_n 2, 1) := by decide +kernel
theorem dX7_pick_136 : decode cX7_pick 136 = .ok (.istore 6, 2) := by decide +kernel
theorem dX7_pick_138 : decode cX7_pick 138 = .ok (.iload 6, 2) := by decide +kernel
theorem dX7_pick_140 : decode cX7_pick 140 = .ok (.iload_n 3, 1) := by decide +kernel
theorem dX7_pick_141 : decode cX7_pick 141 = .ok (.if_icmp .ge 8, 3) := by decide +kernel
theorem dX7_pick_144 : decode cX7_pick 144 = .ok (.iload 6, 2) := by decide +kernel
theorem dX7_pick_146 : decode cX7_pick 146 = .ok (.goto 4, 3) := by decide +kernel
theorem dX7_pick_149 : decode cX7_pick 149 = .ok (.iload_n 3, 1) := by decide +kernel
theorem dX7_pick_150 : decode cX7_pick 150 = .ok (.istore 6, 2) := by decide +kernel
theorem dX7_pick_152 : decode cX7_pick 152 = .ok (.aload_n 0, 1) := by decide +kernel
theorem dX7_pick_153 : decode cX7_pick 153 = .ok (.iload 5, 2) := by decide +kernel
theorem dX7_pick_155 : decode cX7_pick 155 = .ok (.iload 6, 2) := by decide +kernel
theorem dX7_pick_157 : decode cX7_pick 157 = .ok (.ineg, 1) := by decide +kernel
theorem dX7_pick_158 : decode cX7_pick 158 = .ok (.invokevirtual 165, 3) := by decide +kernel
theorem dX7_pick_161 : decode cX7_pick 161 = .ok (.aload_n 0, 1) := by decide +kernel
theorem dX7_pick_162 : decode cX7_pick 162 = .ok (.getfield 7, 3) := by decide +kernel
theorem dX7_pick_165 : decode cX7_pick 165 = .ok (.aload_n 0, 1) := by decide +kernel
theorem dX7_pick_166 : decode cX7_pick 166 = .ok (.iload 5, 2) := by decide +kernel
theorem dX7_pick_168 : decode cX7_pick 168 = .ok (.invokevirtual 143, 3) := by decide +kernel
theorem dX7_pick_171 : decode cX7_pick 171 = .ok (.iload_n 1, 1) := by decide +kernel
theorem dX7_pick_172 : decode cX7_pick 172 = .ok (.invokestatic 172, 3) := by decide +kernel
theorem dX7_pick_175 : decode cX7_pick 175 = .ok (.dup2, 1) := by decide +kernel
theorem dX7_pick_176 : decode cX7_pick 176 = .ok (.iaload, 1) := by decide +kernel
theorem dX7_pick_177 : decode cX7_pick 177 = .ok (.iload 6, 2) := by decide +kernel
theorem dX7_pick_179 : decode cX7_pick 179 = .ok (.iadd, 1) := by decide +kernel
theorem dX7_pick_180 : decode cX7_pick 180 = .ok (.iastore, 1) := by decide +kernel
theorem dX7_pick_181 : decode cX7_pick 181 = .ok (.iload_n 2, 1) := by decide +kernel
theorem dX7_pick_182 : decode cX7_pick 182 = .ok (.iload 6, 2) := by decide +kernel
theorem dX7_pick_184 : decode cX7_pick 184 = .ok (.isub, 1) := by decide +kernel
theorem dX7_pick_185 : decode cX7_pick 185 = .ok (.istore_n 2, 1) := by decide +kernel
theorem dX7_pick_186 : decode cX7_pick 186 = .ok (.iload_n 3, 1) := by decide +kernel
theorem dX7_pick_187 : decode cX7_pick 187 = .ok (.iload 6, 2) := by decide +kernel
theorem dX7_pick_189 : decode cX7_pick 189 = .ok (.isub, 1) := by decide +kernel
theorem dX7_pick_190 : decode cX7_pick 190 = .ok (.istore_n 3, 1) := by decide +kernel
theorem dX7_pick_191 : decode cX7_pick 191 = .ok (.aload_n 0, 1) := by decide +kernel
theorem dX7_pick_192 : decode cX7_pick 192 = .ok (.getfield 16, 3) := by decide +kernel
theorem dX7_pick_195 : decode cX7_pick 195 = .ok (.iconst 2, 1) := by decide +kernel
theorem dX7_pick_196 : decode cX7_pick 196 = .ok (.dup2, 1) := by decide +kernel
theorem dX7_pick_197 : decode cX7_pick 197 = .ok (.laload, 1) := by decide +kernel
theorem dX7_pick_198 : decode cX7_pick 198 = .ok (.iload 6, 2) := by decide +kernel
theorem dX7_pick_200 : decode cX7_pick 200 = .ok (.i2l, 1) := by decide +kernel
theorem dX7_pick_201 : decode cX7_pick 201 = .ok (.ladd, 1) := by decide +kernel
theorem dX7_pick_202 : decode cX7_pick 202 = .ok (.lastore, 1) := by decide +kernel
theorem dX7_pick_203 : decode cX7_pick 203 = .ok (.goto (-182), 3) := by decide +kernel
theorem dX7_pick_206 : decode cX7_pick 206 = .ok (.return_, 1) := by decide +kernel
theorem cv_7_172 : CS RX7 172 2 I_X7_cell := ⟨⟨⟨gm 1065 (by decide +kernel) rfl, gm 1067 (by decide +kernel) rfl, gm 44 (by decide +kernel) rfl, mh_7.1, mh_7.2, by decide +kernel⟩, gm 1066 (by decide +kernel) rfl⟩, rfl, rfl⟩
def f_X7_pick_L32 (fuel : Nat) (K : Int32 → Int32 → Int32 → Int32 → St → Option (St)) (a32_1 : Int32) (a32_2 : Int32) (a32_3 : Int32) (a32_5 : Int32) (a32_6 : Int32) (S32 : St) : Option (St) := match fuel with
  | 0 => none
  | n + 1 => if a32_6 < (24 : Int32) then (if inb a32_6 24 = true then (if (rd S32 120 (ix a32_6)) = 0 then (f_X7_pick_L32 n K a32_1 a32_2 a32_3 a32_5 (a32_6 + (1 : Int32)) S32) else ((f_X7_fruitsOf a32_6 S32).bind fun v52 => (if 0 < v52 then (if a32_5 < 0 then (f_X7_pick_L32 n K a32_1 a32_2 a32_3 a32_6 (a32_6 + (1 : Int32)) S32) else ((f_X7_fruitsOf a32_6 S32).bind fun v66 => ((f_X7_fruitsOf a32_5 S32).bind fun v72 => (if v72 < v66 then (f_X7_pick_L32 n K a32_1 a32_2 a32_3 a32_6 (a32_6 + (1 : Int32)) S32) else (f_X7_pick_L32 n K a32_1 a32_2 a32_3 a32_5 (a32_6 + (1 : Int32)) S32))))) else (f_X7_pick_L32 n K a32_1 a32_2 a32_3 a32_5 (a32_6 + (1 : Int32)) S32)))) else none) else (K a32_1 a32_2 a32_3 a32_5 S32)
def f_X7_pick_L21 (fuel : Nat) (K : St → Option (St)) (a21_1 : Int32) (a21_2 : Int32) (a21_3 : Int32) (a21_4 : Int32) (S21 : St) : Option (St) := match fuel with
  | 0 => none
  | n + 1 => if a21_4 = 0 then (K S21) else (f_X7_pick_L32 6000 (fun e88_1 e88_2 e88_3 e88_5 T88 => (if e88_5 < 0 then (if (0 : Int32) = 0 then (f_X7_pick_L21 n K e88_1 e88_2 e88_3 (0 : Int32) T88) else ((f_X7_fruitsOf e88_5 T88).bind fun v119 => (if v119 < e88_2 then ((f_X7_fruitsOf e88_5 T88).bind fun v129 => (if v129 < e88_3 then ((f_X7_grow e88_5 (-v129) T88).bind fun v158 => ((f_X7_sortOfPart e88_5 v158).bind fun v168 => (if inb (f_X7_cell v168 e88_1) 788 = true then (if inb (f_X7_cell v168 e88_1) 788 = true then (f_X7_pick_L21 n K e88_1 (e88_2 - v129) (e88_3 - v129) (0 : Int32) (wrL (wr v158 109 (ix (f_X7_cell v168 e88_1)) ((rd v158 109 (ix (f_X7_cell v168 e88_1))) + v129)) 111 (ix (2 : Int32)) ((rdL (wr v158 109 (ix (f_X7_cell v168 e88_1)) ((rd v158 109 (ix (f_X7_cell v168 e88_1))) + v129)) 111 (ix (2 : Int32))) + v129.toInt64))) else none) else none))) else ((f_X7_grow e88_5 (-e88_3) T88).bind fun v158 => ((f_X7_sortOfPart e88_5 v158).bind fun v168 => (if inb (f_X7_cell v168 e88_1) 788 = true then (if inb (f_X7_cell v168 e88_1) 788 = true then (f_X7_pick_L21 n K e88_1 (e88_2 - e88_3) (e88_3 - e88_3) (0 : Int32) (wrL (wr v158 109 (ix (f_X7_cell v168 e88_1)) ((rd v158 109 (ix (f_X7_cell v168 e88_1))) + e88_3)) 111 (ix (2 : Int32)) ((rdL (wr v158 109 (ix (f_X7_cell v168 e88_1)) ((rd v158 109 (ix (f_X7_cell v168 e88_1))) + e88_3)) 111 (ix (2 : Int32))) + e88_3.toInt64))) else none) else none))))) else (if e88_2 < e88_3 then ((f_X7_grow e88_5 (-e88_2) T88).bind fun v158 => ((f_X7_sortOfPart e88_5 v158).bind fun v168 => (if inb (f_X7_cell v168 e88_1) 788 = true then (if inb (f_X7_cell v168 e88_1) 788 = true then (f_X7_pick_L21 n K e88_1 (e88_2 - e88_2) (e88_3 - e88_2) (0 : Int32) (wrL (wr v158 109 (ix (f_X7_cell v168 e88_1)) ((rd v158 109 (ix (f_X7_cell v168 e88_1))) + e88_2)) 111 (ix (2 : Int32)) ((rdL (wr v158 109 (ix (f_X7_cell v168 e88_1)) ((rd v158 109 (ix (f_X7_cell v168 e88_1))) + e88_2)) 111 (ix (2 : Int32))) + e88_2.toInt64))) else none) else none))) else ((f_X7_grow e88_5 (-e88_3) T88).bind fun v158 => ((f_X7_sortOfPart e88_5 v158).bind fun v168 => (if inb (f_X7_cell v168 e88_1) 788 = true then (if inb (f_X7_cell v168 e88_1) 788 = true then (f_X7_pick_L21 n K e88_1 (e88_2 - e88_3) (e88_3 - e88_3) (0 : Int32) (wrL (wr v158 109 (ix (f_X7_cell v168 e88_1)) ((rd v158 109 (ix (f_X7_cell v168 e88_1))) + e88_3)) 111 (ix (2 : Int32)) ((rdL (wr v158 109 (ix (f_X7_cell v168 e88_1)) ((rd v158 109 (ix (f_X7_cell v168 e88_1))) + e88_3)) 111 (ix (2 : Int32))) + e88_3.toInt64))) else none) else none))))))) else (if 0 < e88_2 then (if 0 < e88_3 then (if (1 : Int32) = 0 then (f_X7_pick_L21 n K e88_1 e88_2 e88_3 (1 : Int32) T88) else ((f_X7_fruitsOf e88_5 T88).bind fun v119 => (if v119 < e88_2 then ((f_X7_fruitsOf e88_5 T88).bind fun v129 => (if v129 < e88_3 then ((f_X7_grow e88_5 (-v129) T88).bind fun v158 => ((f_X7_sortOfPart e88_5 v158).bind fun v168 => (if inb (f_X7_cell v168 e88_1) 788 = true then (if inb (f_X7_cell v168 e88_1) 788 = true then (f_X7_pick_L21 n K e88_1 (e88_2 - v129) (e88_3 - v129) (1 : Int32) (wrL (wr v158 109 (ix (f_X7_cell v168 e88_1)) ((rd v158 109 (ix (f_X7_cell v168 e88_1))) + v129)) 111 (ix (2 : Int32)) ((rdL (wr v158 109 (ix (f_X7_cell v168 e88_1)) ((rd v158 109 (ix (f_X7_cell v168 e88_1))) + v129)) 111 (ix (2 : Int32))) + v129.toInt64))) else none) else none))) else ((f_X7_grow e88_5 (-e88_3) T88).bind fun v158 => ((f_X7_sortOfPart e88_5 v158).bind fun v168 => (if inb (f_X7_cell v168 e88_1) 788 = true then (if inb (f_X7_cell v168 e88_1) 788 = true then (f_X7_pick_L21 n K e88_1 (e88_2 - e88_3) (e88_3 - e88_3) (1 : Int32) (wrL (wr v158 109 (ix (f_X7_cell v168 e88_1)) ((rd v158 109 (ix (f_X7_cell v168 e88_1))) + e88_3)) 111 (ix (2 : Int32)) ((rdL (wr v158 109 (ix (f_X7_cell v168 e88_1)) ((rd v158 109 (ix (f_X7_cell v168 e88_1))) + e88_3)) 111 (ix (2 : Int32))) + e88_3.toInt64))) else none) else none))))) else (if e88_2 < e88_3 then ((f_X7_grow e88_5 (-e88_2) T88).bind fun v158 => ((f_X7_sortOfPart e88_5 v158).bind fun v168 => (if inb (f_X7_cell v168 e88_1) 788 = true then (if inb (f_X7_cell v168 e88_1) 788 = true then (f_X7_pick_L21 n K e88_1 (e88_2 - e88_2) (e88_3 - e88_2) (1 : Int32) (wrL (wr v158 109 (ix (f_X7_cell v168 e88_1)) ((rd v158 109 (ix (f_X7_cell v168 e88_1))) + e88_2)) 111 (ix (2 : Int32)) ((rdL (wr v158 109 (ix (f_X7_cell v168 e88_1)) ((rd v158 109 (ix (f_X7_cell v168 e88_1))) + e88_2)) 111 (ix (2 : Int32))) + e88_2.toInt64))) else none) else none))) else ((f_X7_grow e88_5 (-e88_3) T88).bind fun v158 => ((f_X7_sortOfPart e88_5 v158).bind fun v168 => (if inb (f_X7_cell v168 e88_1) 788 = true then (if inb (f_X7_cell v168 e88_1) 788 = true then (f_X7_pick_L21 n K e88_1 (e88_2 - e88_3) (e88_3 - e88_3) (1 : Int32) (wrL (wr v158 109 (ix (f_X7_cell v168 e88_1)) ((rd v158 109 (ix (f_X7_cell v168 e88_1))) + e88_3)) 111 (ix (2 : Int32)) ((rdL (wr v158 109 (ix (f_X7_cell v168 e88_1)) ((rd v158 109 (ix (f_X7_cell v168 e88_1))) + e88_3)) 111 (ix (2 : Int32))) + e88_3.toInt64))) else none) else none))))))) else (if (0 : Int32) = 0 then (f_X7_pick_L21 n K e88_1 e88_2 e88_3 (0 : Int32) T88) else ((f_X7_fruitsOf e88_5 T88).bind fun v119 => (if v119 < e88_2 then ((f_X7_fruitsOf e88_5 T88).bind fun v129 => (if v129 < e88_3 then ((f_X7_grow e88_5 (-v129) T88).bind fun v158 => ((f_X7_sortOfPart e88_5 v158).bind fun v168 => (if inb (f_X7_cell v168 e88_1) 788 = true then (if inb (f_X7_cell v168 e88_1) 788 = true then (f_X7_pick_L21 n K e88_1 (e88_2 - v129) (e88_3 - v129) (0 : Int32) (wrL (wr v158 109 (ix (f_X7_cell v168 e88_1)) ((rd v158 109 (ix (f_X7_cell v168 e88_1))) + v129)) 111 (ix (2 : Int32)) ((rdL (wr v158 109 (ix (f_X7_cell v168 e88_1)) ((rd v158 109 (ix (f_X7_cell v168 e88_1))) + v129)) 111 (ix (2 : Int32))) + v129.toInt64))) else none) else none))) else ((f_X7_grow e88_5 (-e88_3) T88).bind fun v158 => ((f_X7_sortOfPart e88_5 v158).bind fun v168 => (if inb (f_X7_cell v168 e88_1) 788 = true then (if inb (f_X7_cell v168 e88_1) 788 = true then (f_X7_pick_L21 n K e88_1 (e88_2 - e88_3) (e88_3 - e88_3) (0 : Int32) (wrL (wr v158 109 (ix (f_X7_cell v168 e88_1)) ((rd v158 109 (ix (f_X7_cell v168 e88_1))) + e88_3)) 111 (ix (2 : Int32)) ((rdL (wr v158 109 (ix (f_X7_cell v168 e88_1)) ((rd v158 109 (ix (f_X7_cell v168 e88_1))) + e88_3)) 111 (ix (2 : Int32))) + e88_3.toInt64))) else none) else none))))) else (if e88_2 < e88_3 then ((f_X7_grow e88_5 (-e88_2) T88).bind fun v158 => ((f_X7_sortOfPart e88_5 v158).bind fun v168 => (if inb (f_X7_cell v168 e88_1) 788 = true then (if inb (f_X7_cell v168 e88_1) 788 = true then (f_X7_pick_L21 n K e88_1 (e88_2 - e88_2) (e88_3 - e88_2) (0 : Int32) (wrL (wr v158 109 (ix (f_X7_cell v168 e88_1)) ((rd v158 109 (ix (f_X7_cell v168 e88_1))) + e88_2)) 111 (ix (2 : Int32)) ((rdL (wr v158 109 (ix (f_X7_cell v168 e88_1)) ((rd v158 109 (ix (f_X7_cell v168 e88_1))) + e88_2)) 111 (ix (2 : Int32))) + e88_2.toInt64))) else none) else none))) else ((f_X7_grow e88_5 (-e88_3) T88).bind fun v158 => ((f_X7_sortOfPart e88_5 v158).bind fun v168 => (if inb (f_X7_cell v168 e88_1) 788 = true then (if inb (f_X7_cell v168 e88_1) 788 = true then (f_X7_pick_L21 n K e88_1 (e88_2 - e88_3) (e88_3 - e88_3) (0 : Int32) (wrL (wr v158 109 (ix (f_X7_cell v168 e88_1)) ((rd v158 109 (ix (f_X7_cell v168 e88_1))) + e88_3)) 111 (ix (2 : Int32)) ((rdL (wr v158 109 (ix (f_X7_cell v168 e88_1)) ((rd v158 109 (ix (f_X7_cell v168 e88_1))) + e88_3)) 111 (ix (2 : Int32))) + e88_3.toInt64))) else none) else none)))))))) else (if (0 : Int32) = 0 then (f_X7_pick_L21 n K e88_1 e88_2 e88_3 (0 : Int32) T88) else ((f_X7_fruitsOf e88_5 T88).bind fun v119 => (if v119 < e88_2 then ((f_X7_fruitsOf e88_5 T88).bind fun v129 => (if v129 < e88_3 then ((f_X7_grow e88_5 (-v129) T88).bind fun v158 => ((f_X7_sortOfPart e88_5 v158).bind fun v168 => (if inb (f_X7_cell v168 e88_1) 788 = true then (if inb (f_X7_cell v168 e88_1) 788 = true then (f_X7_pick_L21 n K e88_1 (e88_2 - v129) (e88_3 - v129) (0 : Int32) (wrL (wr v158 109 (ix (f_X7_cell v168 e88_1)) ((rd v158 109 (ix (f_X7_cell v168 e88_1))) + v129)) 111 (ix (2 : Int32)) ((rdL (wr v158 109 (ix (f_X7_cell v168 e88_1)) ((rd v158 109 (ix (f_X7_cell v168 e88_1))) + v129)) 111 (ix (2 : Int32))) + v129.toInt64))) else none) else none))) else ((f_X7_grow e88_5 (-e88_3) T88).bind fun v158 => ((f_X7_sortOfPart e88_5 v158).bind fun v168 => (if inb (f_X7_cell v168 e88_1) 788 = true then (if inb (f_X7_cell v168 e88_1) 788 = true then (f_X7_pick_L21 n K e88_1 (e88_2 - e88_3) (e88_3 - e88_3) (0 : Int32) (wrL (wr v158 109 (ix (f_X7_cell v168 e88_1)) ((rd v158 109 (ix (f_X7_cell v168 e88_1))) + e88_3)) 111 (ix (2 : Int32)) ((rdL (wr v158 109 (ix (f_X7_cell v168 e88_1)) ((rd v158 109 (ix (f_X7_cell v168 e88_1))) + e88_3)) 111 (ix (2 : Int32))) + e88_3.toInt64))) else none) else none))))) else (if e88_2 < e88_3 then ((f_X7_grow e88_5 (-e88_2) T88).bind fun v158 => ((f_X7_sortOfPart e88_5 v158).bind fun v168 => (if inb (f_X7_cell v168 e88_1) 788 = true then (if inb (f_X7_cell v168 e88_1) 788 = true then (f_X7_pick_L21 n K e88_1 (e88_2 - e88_2) (e88_3 - e88_2) (0 : Int32) (wrL (wr v158 109 (ix (f_X7_cell v168 e88_1)) ((rd v158 109 (ix (f_X7_cell v168 e88_1))) + e88_2)) 111 (ix (2 : Int32)) ((rdL (wr v158 109 (ix (f_X7_cell v168 e88_1)) ((rd v158 109 (ix (f_X7_cell v168 e88_1))) + e88_2)) 111 (ix (2 : Int32))) + e88_2.toInt64))) else none) else none))) else ((f_X7_grow e88_5 (-e88_3) T88).bind fun v158 => ((f_X7_sortOfPart e88_5 v158).bind fun v168 => (if inb (f_X7_cell v168 e88_1) 788 = true then (if inb (f_X7_cell v168 e88_1) 788 = true then (f_X7_pick_L21 n K e88_1 (e88_2 - e88_3) (e88_3 - e88_3) (0 : Int32) (wrL (wr v158 109 (ix (f_X7_cell v168 e88_1)) ((rd v158 109 (ix (f_X7_cell v168 e88_1))) + e88_3)) 111 (ix (2 : Int32)) ((rdL (wr v158 109 (ix (f_X7_cell v168 e88_1)) ((rd v158 109 (ix (f_X7_cell v168 e88_1))) + e88_3)) 111 (ix (2 : Int32))) + e88_3.toInt64))) else none) else none)))))))))) a21_1 a21_2 a21_3 (-1 : Int32) (0 : Int32) S21)
def f_X7_pick (x1 : Int32) (S : St) : Option (St) := (f_X7_inAll S).bind fun v13 => (f_X7_pick_L21 6000 (fun T206 => (some T206)) x1 (rd S 109 (ix (787 : Int32))) ((1000 : Int32) - v13) (1 : Int32) S)
set_option maxRecDepth 100000 in
theorem jl_X7_pick_32 (l : Launch) (w : Wd) (K : Int32 → Int32 → Int32 → Int32 → St → Option (St)) (n : Nat) : ∀ (a32_1 : Int32) (a32_2 : Int32) (a32_3 : Int32) (a32_5 : Int32) (a32_6 : Int32) (S32 : St), (∀ (e88_1 : Int32) (e88_2 : Int32) (e88_3 : Int32) (e88_5 : Int32) (S' : St) , J l w I_X7_pick 88 [(0, .ref (w.2.1 + 108)), (1, .int e88_1), (2, .int e88_2), (3, .int e88_3), (5, .int e88_5)] [] S' (fun b => (none, b)) (K e88_1 e88_2 e88_3 e88_5 S')) → J l w I_X7_pick 32 [(0, .ref (w.2.1 + 108)), (1, .int a32_1), (2, .int a32_2), (3, .int a32_3), (5, .int a32_5), (6, .int a32_6)] [] S32 (fun b => (none, b)) (f_X7_pick_L32 n K a32_1 a32_2 a32_3 a32_5 a32_6 S32) := by
  induction n with
  | zero =>
    intro a32_1 a32_2 a32_3 a32_5 a32_6 S32 hK b h
    simp only [f_X7_pick_L32] at h
    cases h
  | succ n ih =>
    intro a32_1 a32_2 a32_3 a32_5 a32_6 S32 hK
    rw [f_X7_pick_L32]
    refine j_iload (y := I_X7_pick) 5 dX7_pick_32 rfl ?_
    refine j_bipush (y := I_X7_pick) (v := 24) dX7_pick_34 (by decide) ?_
    refine j_icmp_ge (y := I_X7_pick) 88 dX7_pick_36 (by decide) (fun h36 => ?_) (fun h36 => ?_)
    · refine j_sub [0, 1, 2, 3, 4] rfl ?_
      exact hK a32_1 a32_2 a32_3 a32_5 S32
    · refine j_aload_n (y := I_X7_pick) 0 dX7_pick_39 rfl rfl ?_
      refine j_getR (y := I_X7_pick) (j := 120) fl_7_44 k_108 rfl rfl dX7_pick_40 ?_
      refine j_iload (y := I_X7_pick) 5 dX7_pick_43 rfl ?_
      refine j_zald (y := I_X7_pick) k_120 dX7_pick_45 (fun h45 => ?_)
      refine j_if_eq (y := I_X7_pick) 82 dX7_pick_46 (by decide) (fun h46 => ?_) (fun h46 => ?_)
      · refine j_iinc (y := I_X7_pick) 5 (ls' := [(6, .int (a32_6 + (1 : Int32))), (0, .ref (w.2.1 + 108)), (1, .int a32_1), (2, .int a32_2), (3, .int a32_3), (5, .int a32_5)]) dX7_pick_82 rfl (ii _ _ (by decide) _) (by decide) rfl ?_
        refine j_goto (y := I_X7_pick) 32 dX7_pick_85 (by decide) ?_
        refine j_sub [1, 2, 3, 4, 5, 0] rfl ?_
        exact ih a32_1 a32_2 a32_3 a32_5 (a32_6 + (1 : Int32)) S32 hK
      · refine j_aload_n (y := I_X7_pick) 0 dX7_pick_49 rfl rfl ?_
        refine j_iload (y := I_X7_pick) 5 dX7_pick_50 rfl ?_
        refine j_callViR (y := I_X7_pick) (As := [.int a32_6]) cv_7_162 ⟨Nat.le_of_ble_eq_true rfl, Nat.le_of_ble_eq_true rfl⟩ k_108 rfl (Nat.le_of_ble_eq_true rfl) dX7_pick_52 (c_X7_fruitsOf l w a32_6 S32) (fun v52 h52 => ?_)
        refine j_if_le (y := I_X7_pick) 82 dX7_pick_55 (by decide) (fun h55 => ?_) (fun h55 => ?_)
        · refine j_iinc (y := I_X7_pick) 5 (ls' := [(6, .int (a32_6 + (1 : Int32))), (0, .ref (w.2.1 + 108)), (1, .int a32_1), (2, .int a32_2), (3, .int a32_3), (5, .int a32_5)]) dX7_pick_82 rfl (ii _ _ (by decide) _) (by decide) rfl ?_
          refine j_goto (y := I_X7_pick) 32 dX7_pick_85 (by decide) ?_
          refine j_sub [1, 2, 3, 4, 5, 0] rfl ?_
          exact ih a32_1 a32_2 a32_3 a32_5 (a32_6 + (1 : Int32)) S32 hK
        · refine j_iload (y := I_X7_pick) 4 dX7_pick_58 rfl ?_
          refine j_if_lt (y := I_X7_pick) 78 dX7_pick_60 (by decide) (fun h60 => ?_) (fun h60 => ?_)
          · refine j_iload (y := I_X7_pick) 5 dX7_pick_78 rfl ?_
            refine j_istore (y := I_X7_pick) (ls' := [(5, .int a32_6), (0, .ref (w.2.1 + 108)), (1, .int a32_1), (2, .int a32_2), (3, .int a32_3), (6, .int a32_6)]) dX7_pick_80 (by decide) rfl ?_
            refine j_iinc (y := I_X7_pick) 5 (ls' := [(6, .int (a32_6 + (1 : Int32))), (5, .int a32_6), (0, .ref (w.2.1 + 108)), (1, .int a32_1), (2, .int a32_2), (3, .int a32_3)]) dX7_pick_82 rfl (ii _ _ (by decide) _) (by decide) rfl ?_
            refine j_goto (y := I_X7_pick) 32 dX7_pick_85 (by decide) ?_
            refine j_sub [2, 3, 4, 5, 1, 0] rfl ?_
            exact ih a32_1 a32_2 a32_3 a32_6 (a32_6 + (1 : Int32)) S32 hK
          · refine j_aload_n (y := I_X7_pick) 0 dX7_pick_63 rfl rfl ?_
            refine j_iload (y := I_X7_pick) 5 dX7_pick_64 rfl ?_
            refine j_callViR (y := I_X7_pick) (As := [.int a32_6]) cv_7_162 ⟨Nat.le_of_ble_eq_true rfl, Nat.le_of_ble_eq_true rfl⟩ k_108 rfl (Nat.le_of_ble_eq_true rfl) dX7_pick_66 (c_X7_fruitsOf l w a32_6 S32) (fun v66 h66 => ?_)
            refine j_aload_n (y := I_X7_pick) 0 dX7_pick_69 rfl rfl ?_
            refine j_iload (y := I_X7_pick) 4 dX7_pick_70 rfl ?_
            refine j_callViR (y := I_X7_pick) (As := [.int a32_5]) cv_7_162 ⟨Nat.le_of_ble_eq_true rfl, Nat.le_of_ble_eq_true rfl⟩ k_108 rfl (Nat.le_of_ble_eq_true rfl) dX7_pick_72 (c_X7_fruitsOf l w a32_5 S32) (fun v72 h72 => ?_)
            refine j_icmp_le (y := I_X7_pick) 82 dX7_pick_75 (by decide) (fun h75 => ?_) (fun h75 => ?_)
            · refine j_iinc (y := I_X7_pick) 5 (ls' := [(6, .int (a32_6 + (1 : Int32))), (0, .ref (w.2.1 + 108)), (1, .int a32_1), (2, .int a32_2), (3, .int a32_3), (5, .int a32_5)]) dX7_pick_82 rfl (ii _ _ (by decide) _) (by decide) rfl ?_
              refine j_goto (y := I_X7_pick) 32 dX7_pick_85 (by decide) ?_
              refine j_sub [1, 2, 3, 4, 5, 0] rfl ?_
              exact ih a32_1 a32_2 a32_3 a32_5 (a32_6 + (1 : Int32)) S32 hK
            · refine j_iload (y := I_X7_pick) 5 dX7_pick_78 rfl ?_
              refine j_istore (y := I_X7_pick) (ls' := [(5, .int a32_6), (0, .ref (w.2.1 + 108)), (1, .int a32_1), (2, .int a32_2), (3, .int a32_3), (6, .int a32_6)]) dX7_pick_80 (by decide) rfl ?_
              refine j_iinc (y := I_X7_pick) 5 (ls' := [(6, .int (a32_6 + (1 : Int32))), (5, .int a32_6), (0, .ref (w.2.1 + 108)), (1, .int a32_1), (2, .int a32_2), (3, .int a32_3)]) dX7_pick_82 rfl (ii _ _ (by decide) _) (by decide) rfl ?_
              refine j_goto (y := I_X7_pick) 32 dX7_pick_85 (by decide) ?_
              refine j_sub [2, 3, 4, 5, 1, 0] rfl ?_
              exact ih a32_1 a32_2 a32_3 a32_6 (a32_6 + (1 : Int32)) S32 hK
set_option maxRecDepth 100000 in
theorem jl_X7_pick_21 (l : Launch) (w : Wd) (K : St → Option (St)) (n : Nat) : ∀ (a21_1 : Int32) (a21_2 : Int32) (a21_3 : Int32) (a21_4 : Int32) (S21 : St), (∀  (S' : St) , J l w I_X7_pick 206 [] [] S' (fun b => (none, b)) (K  S')) → J l w I_X7_pick 21 [(0, .ref (w.2.1 + 108)), (1, .int a21_1), (2, .int a21_2), (3, .int a21_3), (4, .int a21_4)] [] S21 (fun b => (none, b)) (f_X7_pick_L21 n K a21_1 a21_2 a21_3 a21_4 S21) := by
  induction n with
  | zero =>
    intro a21_1 a21_2 a21_3 a21_4 S21 hK b h
    simp only [f_X7_pick_L21] at h
    cases h
  | succ n ih =>
    intro a21_1 a21_2 a21_3 a21_4 S21 hK
    rw [f_X7_pick_L21]
    refine j_iload (y := I_X7_pick) 4 dX7_pick_21 rfl ?_
    refine j_if_eq (y := I_X7_pick) 206 dX7_pick_23 (by decide) (fun h23 => ?_) (fun h23 => ?_)
    · refine j_sub [] rfl ?_
      exact hK S21
    · refine j_iconst (y := I_X7_pick) (v := -1) dX7_pick_26 (by decide) ?_
      refine j_istore (y := I_X7_pick) (ls' := [(5, .int (-1 : Int32)), (0, .ref (w.2.1 + 108)), (1, .int a21_1), (2, .int a21_2), (3, .int a21_3), (4, .int a21_4)]) dX7_pick_27 (by decide) rfl ?_
      refine j_iconst (y := I_X7_pick) (v := 0) dX7_pick_29 (by decide) ?_
      refine j_istore (y := I_X7_pick) (ls' := [(6, .int (0 : Int32)), (5, .int (-1 : Int32)), (0, .ref (w.2.1 + 108)), (1, .int a21_1), (2, .int a21_2), (3, .int a21_3), (4, .int a21_4)]) dX7_pick_30 (by decide) rfl ?_
      refine j_sub [2, 3, 4, 5, 1, 0] rfl ?_
      refine jl_X7_pick_32 l w _ 6000 a21_1 a21_2 a21_3 (-1 : Int32) (0 : Int32) S21  (fun e88_1 e88_2 e88_3 e88_5 T88 => ?_)
      refine j_iload (y := I_X7_pick) 4 dX7_pick_88 rfl ?_
      refine j_if_lt (y := I_X7_pick) 105 dX7_pick_90 (by decide) (fun h90 => ?_) (fun h90 => ?_)
      · refine j_iconst (y := I_X7_pick) (v := 0) dX7_pick_105 (by decide) ?_
        refine j_istore (y := I_X7_pick) (ls' := [(4, .int (0 : Int32)), (0, .ref (w.2.1 + 108)), (1, .int e88_1), (2, .int e88_2), (3, .int e88_3), (5, .int e88_5)]) dX7_pick_106 (by decide) rfl ?_
        refine j_iload (y := I_X7_pick) 0 dX7_pick_108 rfl ?_
        refine j_if_ne (y := I_X7_pick) 116 dX7_pick_110 (by decide) (fun h110 => ?_) (fun h110 => ?_)
        · refine j_aload_n (y := I_X7_pick) 1 dX7_pick_116 rfl rfl ?_
          refine j_iload (y := I_X7_pick) 5 dX7_pick_117 rfl ?_
          refine j_callViR (y := I_X7_pick) (As := [.int e88_5]) cv_7_162 ⟨Nat.le_of_ble_eq_true rfl, Nat.le_of_ble_eq_true rfl⟩ k_108 rfl (Nat.le_of_ble_eq_true rfl) dX7_pick_119 (c_X7_fruitsOf l w e88_5 T88) (fun v119 h119 => ?_)
          refine j_iload_n (y := I_X7_pick) 3 dX7_pick_122 rfl rfl ?_
          refine j_icmp_ge (y := I_X7_pick) 135 dX7_pick_123 (by decide) (fun h123 => ?_) (fun h123 => ?_)
          · refine j_iload_n (y := I_X7_pick) 3 dX7_pick_135 rfl rfl ?_
            refine j_istore (y := I_X7_pick) (ls' := [(6, .int e88_2), (4, .int (0 : Int32)), (0, .ref (w.2.1 + 108)), (1, .int e88_1), (2, .int e88_2), (3, .int e88_3), (5, .int e88_5)]) dX7_pick_136 (by decide) rfl ?_
            refine j_iload (y := I_X7_pick) 0 dX7_pick_138 rfl ?_
            refine j_iload_n (y := I_X7_pick) 5 dX7_pick_140 rfl rfl ?_
            refine j_icmp_ge (y := I_X7_pick) 149 dX7_pick_141 (by decide) (fun h141 => ?_) (fun h141 => ?_)
            · refine j_iload_n (y := I_X7_pick) 5 dX7_pick_149 rfl rfl ?_
              refine j_istore (y := I_X7_pick) (ls' := [(6, .int e88_3), (4, .int (0 : Int32)), (0, .ref (w.2.1 + 108)), (1, .int e88_1), (2, .int e88_2), (3, .int e88_3), (5, .int e88_5)]) dX7_pick_150 (by decide) rfl ?_
              refine j_aload_n (y := I_X7_pick) 2 dX7_pick_152 rfl rfl ?_
              refine j_iload (y := I_X7_pick) 6 dX7_pick_153 rfl ?_
              refine j_iload (y := I_X7_pick) 0 dX7_pick_155 rfl ?_
              refine j_ineg (y := I_X7_pick) dX7_pick_157 ?_
              refine j_callVvS (y := I_X7_pick) (As := [.int e88_5, .int (-e88_3)]) cv_7_165 ⟨Nat.le_of_ble_eq_true rfl, Nat.le_of_ble_eq_true rfl⟩ k_108 rfl (Nat.le_of_ble_eq_true rfl) dX7_pick_158 (c_X7_grow l w e88_5 (-e88_3) T88) (fun v158 h158 => ?_)
              refine j_aload_n (y := I_X7_pick) 2 dX7_pick_161 rfl rfl ?_
              refine j_getR (y := I_X7_pick) (j := 109) fl_7_7 k_108 rfl rfl dX7_pick_162 ?_
              refine j_aload_n (y := I_X7_pick) 2 dX7_pick_165 rfl rfl ?_
              refine j_iload (y := I_X7_pick) 6 dX7_pick_166 rfl ?_
              refine j_callViR (y := I_X7_pick) (As := [.int e88_5]) cv_7_143 ⟨Nat.le_of_ble_eq_true rfl, Nat.le_of_ble_eq_true rfl⟩ k_108 rfl (Nat.le_of_ble_eq_true rfl) dX7_pick_168 (c_X7_sortOfPart l w e88_5 v158) (fun v168 h168 => ?_)
              refine j_iload_n (y := I_X7_pick) 3 dX7_pick_171 rfl rfl ?_
              refine j_callSiT (y := I_X7_pick) (As := [.int v168, .int e88_1]) cv_7_172 ⟨Nat.le_of_ble_eq_true rfl, Nat.le_of_ble_eq_true rfl⟩ rfl (Nat.le_of_ble_eq_true rfl) dX7_pick_172 (c_X7_cell l w v168 e88_1 v158) ?_
              refine j_dup2 (y := I_X7_pick) dX7_pick_175 rfl rfl ?_
              refine j_iald (y := I_X7_pick) k_109 dX7_pick_176 (fun h176 => ?_)
              refine j_iload (y := I_X7_pick) 0 dX7_pick_177 rfl ?_
              refine j_iadd (y := I_X7_pick) dX7_pick_179 ?_
              refine j_iast (y := I_X7_pick) k_109 dX7_pick_180 (fun h180 => ?_)
              refine j_iload_n (y := I_X7_pick) 4 dX7_pick_181 rfl rfl ?_
              refine j_iload (y := I_X7_pick) 0 dX7_pick_182 rfl ?_
              refine j_isub (y := I_X7_pick) dX7_pick_184 ?_
              refine j_istore_n (y := I_X7_pick) (ls' := [(2, .int (e88_2 - e88_3)), (6, .int e88_3), (4, .int (0 : Int32)), (0, .ref (w.2.1 + 108)), (1, .int e88_1), (3, .int e88_3), (5, .int e88_5)]) dX7_pick_185 rfl (by decide) rfl ?_
              refine j_iload_n (y := I_X7_pick) 5 dX7_pick_186 rfl rfl ?_
              refine j_iload (y := I_X7_pick) 1 dX7_pick_187 rfl ?_
              refine j_isub (y := I_X7_pick) dX7_pick_189 ?_
              refine j_istore_n (y := I_X7_pick) (ls' := [(3, .int (e88_3 - e88_3)), (2, .int (e88_2 - e88_3)), (6, .int e88_3), (4, .int (0 : Int32)), (0, .ref (w.2.1 + 108)), (1, .int e88_1), (5, .int e88_5)]) dX7_pick_190 rfl (by decide) rfl ?_
              refine j_aload_n (y := I_X7_pick) 4 dX7_pick_191 rfl rfl ?_
              refine j_getR (y := I_X7_pick) (j := 111) fl_7_16 k_108 rfl rfl dX7_pick_192 ?_
              refine j_iconst (y := I_X7_pick) (v := 2) dX7_pick_195 (by decide) ?_
              refine j_dup2 (y := I_X7_pick) dX7_pick_196 rfl rfl ?_
              refine j_laldL (y := I_X7_pick) k_111 (by decide) dX7_pick_197 ?_
              refine j_iload (y := I_X7_pick) 2 dX7_pick_198 rfl ?_
              refine j_i2l (y := I_X7_pick) dX7_pick_200 ?_
              refine j_ladd (y := I_X7_pick) dX7_pick_201 ?_
              refine j_lastL (y := I_X7_pick) k_111 (by decide) dX7_pick_202 ?_
              refine j_goto (y := I_X7_pick) 21 dX7_pick_203 (by decide) ?_
              refine j_sub [4, 5, 1, 0, 3] rfl ?_
              exact ih e88_1 (e88_2 - e88_3) (e88_3 - e88_3) (0 : Int32) (wrL (wr v158 109 (ix (f_X7_cell v168 e88_1)) ((rd v158 109 (ix (f_X7_cell v168 e88_1))) + e88_3)) 111 (ix (2 : Int32)) ((rdL (wr v158 109 (ix (f_X7_cell v168 e88_1)) ((rd v158 109 (ix (f_X7_cell v168 e88_1))) + e88_3)) 111 (ix (2 : Int32))) + e88_3.toInt64)) hK
            · refine j_iload (y := I_X7_pick) 0 dX7_pick_144 rfl ?_
              refine j_goto (y := I_X7_pick) 150 dX7_pick_146 (by decide) ?_
              refine j_istore (y := I_X7_pick) (ls' := [(6, .int e88_2), (4, .int (0 : Int32)), (0, .ref (w.2.1 + 108)), (1, .int e88_1), (2, .int e88_2), (3, .int e88_3), (5, .int e88_5)]) dX7_pick_150 (by decide) rfl ?_
              refine j_aload_n (y := I_X7_pick) 2 dX7_pick_152 rfl rfl ?_
              refine j_iload (y := I_X7_pick) 6 dX7_pick_153 rfl ?_
              refine j_iload (y := I_X7_pick) 0 dX7_pick_155 rfl ?_
              refine j_ineg (y := I_X7_pick) dX7_pick_157 ?_
              refine j_callVvS (y := I_X7_pick) (As := [.int e88_5, .int (-e88_2)]) cv_7_165 ⟨Nat.le_of_ble_eq_true rfl, Nat.le_of_ble_eq_true rfl⟩ k_108 rfl (Nat.le_of_ble_eq_true rfl) dX7_pick_158 (c_X7_grow l w e88_5 (-e88_2) T88) (fun v158 h158 => ?_)
              refine j_aload_n (y := I_X7_pick) 2 dX7_pick_161 rfl rfl ?_
              refine j_getR (y := I_X7_pick) (j := 109) fl_7_7 k_108 rfl rfl dX7_pick_162 ?_
              refine j_aload_n (y := I_X7_pick) 2 dX7_pick_165 rfl rfl ?_
              refine j_iload (y := I_X7_pick) 6 dX7_pick_166 rfl ?_
              refine j_callViR (y := I_X7_pick) (As := [.int e88_5]) cv_7_143 ⟨Nat.le_of_ble_eq_true rfl, Nat.le_of_ble_eq_true rfl⟩ k_108 rfl (Nat.le_of_ble_eq_true rfl) dX7_pick_168 (c_X7_sortOfPart l w e88_5 v158) (fun v168 h168 => ?_)
              refine j_iload_n (y := I_X7_pick) 3 dX7_pick_171 rfl rfl ?_
              refine j_callSiT (y := I_X7_pick) (As := [.int v168, .int e88_1]) cv_7_172 ⟨Nat.le_of_ble_eq_true rfl, Nat.le_of_ble_eq_true rfl⟩ rfl (Nat.le_of_ble_eq_true rfl) dX7_pick_172 (c_X7_cell l w v168 e88_1 v158) ?_
              refine j_dup2 (y := I_X7_pick) dX7_pick_175 rfl rfl ?_
              refine j_iald (y := I_X7_pick) k_109 dX7_pick_176 (fun h176 => ?_)
              refine j_iload (y := I_X7_pick) 0 dX7_pick_177 rfl ?_
              refine j_iadd (y := I_X7_pick) dX7_pick_179 ?_
              refine j_iast (y := I_X7_pick) k_109 dX7_pick_180 (fun h180 => ?_)
              refine j_iload_n (y := I_X7_pick) 4 dX7_pick_181 rfl rfl ?_
              refine j_iload (y := I_X7_pick) 0 dX7_pick_182 rfl ?_
              refine j_isub (y := I_X7_pick) dX7_pick_184 ?_
              refine j_istore_n (y := I_X7_pick) (ls' := [(2, .int (e88_2 - e88_2)), (6, .int e88_2), (4, .int (0 : Int32)), (0, .ref (w.2.1 + 108)), (1, .int e88_1), (3, .int e88_3), (5, .int e88_5)]) dX7_pick_185 rfl (by decide) rfl ?_
              refine j_iload_n (y := I_X7_pick) 5 dX7_pick_186 rfl rfl ?_
              refine j_iload (y := I_X7_pick) 1 dX7_pick_187 rfl ?_
              refine j_isub (y := I_X7_pick) dX7_pick_189 ?_
              refine j_istore_n (y := I_X7_pick) (ls' := [(3, .int (e88_3 - e88_2)), (2, .int (e88_2 - e88_2)), (6, .int e88_2), (4, .int (0 : Int32)), (0, .ref (w.2.1 + 108)), (1, .int e88_1), (5, .int e88_5)]) dX7_pick_190 rfl (by decide) rfl ?_
              refine j_aload_n (y := I_X7_pick) 4 dX7_pick_191 rfl rfl ?_
              refine j_getR (y := I_X7_pick) (j := 111) fl_7_16 k_108 rfl rfl dX7_pick_192 ?_
              refine j_iconst (y := I_X7_pick) (v := 2) dX7_pick_195 (by decide) ?_
              refine j_dup2 (y := I_X7_pick) dX7_pick_196 rfl rfl ?_
              refine j_laldL (y := I_X7_pick) k_111 (by decide) dX7_pick_197 ?_
              refine j_iload (y := I_X7_pick) 2 dX7_pick_198 rfl ?_
              refine j_i2l (y := I_X7_pick) dX7_pick_200 ?_
              refine j_ladd (y := I_X7_pick) dX7_pick_201 ?_
              refine j_lastL (y := I_X7_pick) k_111 (by decide) dX7_pick_202 ?_
              refine j_goto (y := I_X7_pick) 21 dX7_pick_203 (by decide) ?_
              refine j_sub [4, 5, 1, 0, 3] rfl ?_
              exact ih e88_1 (e88_2 - e88_2) (e88_3 - e88_2) (0 : Int32) (wrL (wr v158 109 (ix (f_X7_cell v168 e88_1)) ((rd v158 109 (ix (f_X7_cell v168 e88_1))) + e88_2)) 111 (ix (2 : Int32)) ((rdL (wr v158 109 (ix (f_X7_cell v168 e88_1)) ((rd v158 109 (ix (f_X7_cell v168 e88_1))) + e88_2)) 111 (ix (2 : Int32))) + e88_2.toInt64)) hK
          · refine j_aload_n (y := I_X7_pick) 1 dX7_pick_126 rfl rfl ?_
            refine j_iload (y := I_X7_pick) 5 dX7_pick_127 rfl ?_
            refine j_callViR (y := I_X7_pick) (As := [.int e88_5]) cv_7_162 ⟨Nat.le_of_ble_eq_true rfl, Nat.le_of_ble_eq_true rfl⟩ k_108 rfl (Nat.le_of_ble_eq_true rfl) dX7_pick_129 (c_X7_fruitsOf l w e88_5 T88) (fun v129 h129 => ?_)
            refine j_goto (y := I_X7_pick) 136 dX7_pick_132 (by decide) ?_
            refine j_istore (y := I_X7_pick) (ls' := [(6, .int v129), (4, .int (0 : Int32)), (0, .ref (w.2.1 + 108)), (1, .int e88_1), (2, .int e88_2), (3, .int e88_3), (5, .int e88_5)]) dX7_pick_136 (by decide) rfl ?_
            refine j_iload (y := I_X7_pick) 0 dX7_pick_138 rfl ?_
            refine j_iload_n (y := I_X7_pick) 5 dX7_pick_140 rfl rfl ?_
            refine j_icmp_ge (y := I_X7_pick) 149 dX7_pick_141 (by decide) (fun h141 => ?_) (fun h141 => ?_)
            · refine j_iload_n (y := I_X7_pick) 5 dX7_pick_149 rfl rfl ?_
              refine j_istore (y := I_X7_pick) (ls' := [(6, .int e88_3), (4, .int (0 : Int32)), (0, .ref (w.2.1 + 108)), (1, .int e88_1), (2, .int e88_2), (3, .int e88_3), (5, .int e88_5)]) dX7_pick_150 (by decide) rfl ?_
              refine j_aload_n (y := I_X7_pick) 2 dX7_pick_152 rfl rfl ?_
              refine j_iload (y := I_X7_pick) 6 dX7_pick_153 rfl ?_
              refine j_iload (y := I_X7_pick) 0 dX7_pick_155 rfl ?_
              refine j_ineg (y := I_X7_pick) dX7_pick_157 ?_
              refine j_callVvS (y := I_X7_pick) (As := [.int e88_5, .int (-e88_3)]) cv_7_165 ⟨Nat.le_of_ble_eq_true rfl, Nat.le_of_ble_eq_true rfl⟩ k_108 rfl (Nat.le_of_ble_eq_true rfl) dX7_pick_158 (c_X7_grow l w e88_5 (-e88_3) T88) (fun v158 h158 => ?_)
              refine j_aload_n (y := I_X7_pick) 2 dX7_pick_161 rfl rfl ?_
              refine j_getR (y := I_X7_pick) (j := 109) fl_7_7 k_108 rfl rfl dX7_pick_162 ?_
              refine j_aload_n (y := I_X7_pick) 2 dX7_pick_165 rfl rfl ?_
              refine j_iload (y := I_X7_pick) 6 dX7_pick_166 rfl ?_
              refine j_callViR (y := I_X7_pick) (As := [.int e88_5]) cv_7_143 ⟨Nat.le_of_ble_eq_true rfl, Nat.le_of_ble_eq_true rfl⟩ k_108 rfl (Nat.le_of_ble_eq_true rfl) dX7_pick_168 (c_X7_sortOfPart l w e88_5 v158) (fun v168 h168 => ?_)
              refine j_iload_n (y := I_X7_pick) 3 dX7_pick_171 rfl rfl ?_
              refine j_callSiT (y := I_X7_pick) (As := [.int v168, .int e88_1]) cv_7_172 ⟨Nat.le_of_ble_eq_true rfl, Nat.le_of_ble_eq_true rfl⟩ rfl (Nat.le_of_ble_eq_true rfl) dX7_pick_172 (c_X7_cell l w v168 e88_1 v158) ?_
              refine j_dup2 (y := I_X7_pick) dX7_pick_175 rfl rfl ?_
              refine j_iald (y := I_X7_pick) k_109 dX7_pick_176 (fun h176 => ?_)
              refine j_iload (y := I_X7_pick) 0 dX7_pick_177 rfl ?_
              refine j_iadd (y := I_X7_pick) dX7_pick_179 ?_
              refine j_iast (y := I_X7_pick) k_109 dX7_pick_180 (fun h180 => ?_)
              refine j_iload_n (y := I_X7_pick) 4 dX7_pick_181 rfl rfl ?_
              refine j_iload (y := I_X7_pick) 0 dX7_pick_182 rfl ?_
              refine j_isub (y := I_X7_pick) dX7_pick_184 ?_
              refine j_istore_n (y := I_X7_pick) (ls' := [(2, .int (e88_2 - e88_3)), (6, .int e88_3), (4, .int (0 : Int32)), (0, .ref (w.2.1 + 108)), (1, .int e88_1), (3, .int e88_3), (5, .int e88_5)]) dX7_pick_185 rfl (by decide) rfl ?_
              refine j_iload_n (y := I_X7_pick) 5 dX7_pick_186 rfl rfl ?_
              refine j_iload (y := I_X7_pick) 1 dX7_pick_187 rfl ?_
              refine j_isub (y := I_X7_pick) dX7_pick_189 ?_
              refine j_istore_n (y := I_X7_pick) (ls' := [(3, .int (e88_3 - e88_3)), (2, .int (e88_2 - e88_3)), (6, .int e88_3), (4, .int (0 : Int32)), (0, .ref (w.2.1 + 108)), (1, .int e88_1), (5, .int e88_5)]) dX7_pick_190 rfl (by decide) rfl ?_
              refine j_aload_n (y := I_X7_pick) 4 dX7_pick_191 rfl rfl ?_
              refine j_getR (y := I_X7_pick) (j := 111) fl_7_16 k_108 rfl rfl dX7_pick_192 ?_
              refine j_iconst (y := I_X7_pick) (v := 2) dX7_pick_195 (by decide) ?_
              refine j_dup2 (y := I_X7_pick) dX7_pick_196 rfl rfl ?_
              refine j_laldL (y := I_X7_pick) k_111 (by decide) dX7_pick_197 ?_
              refine j_iload (y := I_X7_pick) 2 dX7_pick_198 rfl ?_
              refine j_i2l (y := I_X7_pick) dX7_pick_200 ?_
              refine j_ladd (y := I_X7_pick) dX7_pick_201 ?_
              refine j_lastL (y := I_X7_pick) k_111 (by decide) dX7_pick_202 ?_
              refine j_goto (y := I_X7_pick) 21 dX7_pick_203 (by decide) ?_
              refine j_sub [4, 5, 1, 0, 3] rfl ?_
              exact ih e88_1 (e88_2 - e88_3) (e88_3 - e88_3) (0 : Int32) (wrL (wr v158 109 (ix (f_X7_cell v168 e88_1)) ((rd v158 109 (ix (f_X7_cell v168 e88_1))) + e88_3)) 111 (ix (2 : Int32)) ((rdL (wr v158 109 (ix (f_X7_cell v168 e88_1)) ((rd v158 109 (ix (f_X7_cell v168 e88_1))) + e88_3)) 111 (ix (2 : Int32))) + e88_3.toInt64)) hK
            · refine j_iload (y := I_X7_pick) 0 dX7_pick_144 rfl ?_
              refine j_goto (y := I_X7_pick) 150 dX7_pick_146 (by decide) ?_
              refine j_istore (y := I_X7_pick) (ls' := [(6, .int v129), (4, .int (0 : Int32)), (0, .ref (w.2.1 + 108)), (1, .int e88_1), (2, .int e88_2), (3, .int e88_3), (5, .int e88_5)]) dX7_pick_150 (by decide) rfl ?_
              refine j_aload_n (y := I_X7_pick) 2 dX7_pick_152 rfl rfl ?_
              refine j_iload (y := I_X7_pick) 6 dX7_pick_153 rfl ?_
              refine j_iload (y := I_X7_pick) 0 dX7_pick_155 rfl ?_
              refine j_ineg (y := I_X7_pick) dX7_pick_157 ?_
              refine j_callVvS (y := I_X7_pick) (As := [.int e88_5, .int (-v129)]) cv_7_165 ⟨Nat.le_of_ble_eq_true rfl, Nat.le_of_ble_eq_true rfl⟩ k_108 rfl (Nat.le_of_ble_eq_true rfl) dX7_pick_158 (c_X7_grow l w e88_5 (-v129) T88) (fun v158 h158 => ?_)
              refine j_aload_n (y := I_X7_pick) 2 dX7_pick_161 rfl rfl ?_
              refine j_getR (y := I_X7_pick) (j := 109) fl_7_7 k_108 rfl rfl dX7_pick_162 ?_
              refine j_aload_n (y := I_X7_pick) 2 dX7_pick_165 rfl rfl ?_
              refine j_iload (y := I_X7_pick) 6 dX7_pick_166 rfl ?_
              refine j_callViR (y := I_X7_pick) (As := [.int e88_5]) cv_7_143 ⟨Nat.le_of_ble_eq_true rfl, Nat.le_of_ble_eq_true rfl⟩ k_108 rfl (Nat.le_of_ble_eq_true rfl) dX7_pick_168 (c_X7_sortOfPart l w e88_5 v158) (fun v168 h168 => ?_)
              refine j_iload_n (y := I_X7_pick) 3 dX7_pick_171 rfl rfl ?_
              refine j_callSiT (y := I_X7_pick) (As := [.int v168, .int e88_1]) cv_7_172 ⟨Nat.le_of_ble_eq_true rfl, Nat.le_of_ble_eq_true rfl⟩ rfl (Nat.le_of_ble_eq_true rfl) dX7_pick_172 (c_X7_cell l w v168 e88_1 v158) ?_
              refine j_dup2 (y := I_X7_pick) dX7_pick_175 rfl rfl ?_
              refine j_iald (y := I_X7_pick) k_109 dX7_pick_176 (fun h176 => ?_)
              refine j_iload (y := I_X7_pick) 0 dX7_pick_177 rfl ?_
              refine j_iadd (y := I_X7_pick) dX7_pick_179 ?_
              refine j_iast (y := I_X7_pick) k_109 dX7_pick_180 (fun h180 => ?_)
              refine j_iload_n (y := I_X7_pick) 4 dX7_pick_181 rfl rfl ?_
              refine j_iload (y := I_X7_pick) 0 dX7_pick_182 rfl ?_
              refine j_isub (y := I_X7_pick) dX7_pick_184 ?_
              refine j_istore_n (y := I_X7_pick) (ls' := [(2, .int (e88_2 - v129)), (6, .int v129), (4, .int (0 : Int32)), (0, .ref (w.2.1 + 108)), (1, .int e88_1), (3, .int e88_3), (5, .int e88_5)]) dX7_pick_185 rfl (by decide) rfl ?_
              refine j_iload_n (y := I_X7_pick) 5 dX7_pick_186 rfl rfl ?_
              refine j_iload (y := I_X7_pick) 1 dX7_pick_187 rfl ?_
              refine j_isub (y := I_X7_pick) dX7_pick_189 ?_
              refine j_istore_n (y := I_X7_pick) (ls' := [(3, .int (e88_3 - v129)), (2, .int (e88_2 - v129)), (6, .int v129), (4, .int (0 : Int32)), (0, .ref (w.2.1 + 108)), (1, .int e88_1), (5, .int e88_5)]) dX7_pick_190 rfl (by decide) rfl ?_
              refine j_aload_n (y := I_X7_pick) 4 dX7_pick_191 rfl rfl ?_
              refine j_getR (y := I_X7_pick) (j := 111) fl_7_16 k_108 rfl rfl dX7_pick_192 ?_
              refine j_iconst (y := I_X7_pick) (v := 2) dX7_pick_195 (by decide) ?_
              refine j_dup2 (y := I_X7_pick) dX7_pick_196 rfl rfl ?_
              refine j_laldL (y := I_X7_pick) k_111 (by decide) dX7_pick_197 ?_
              refine j_iload (y := I_X7_pick) 2 dX7_pick_198 rfl ?_
              refine j_i2l (y := I_X7_pick) dX7_pick_200 ?_
              refine j_ladd (y := I_X7_pick) dX7_pick_201 ?_
              refine j_lastL (y := I_X7_pick) k_111 (by decide) dX7_pick_202 ?_
              refine j_goto (y := I_X7_pick) 21 dX7_pick_203 (by decide) ?_
              refine j_sub [4, 5, 1, 0, 3] rfl ?_
              exact ih e88_1 (e88_2 - v129) (e88_3 - v129) (0 : Int32) (wrL (wr v158 109 (ix (f_X7_cell v168 e88_1)) ((rd v158 109 (ix (f_X7_cell v168 e88_1))) + v129)) 111 (ix (2 : Int32)) ((rdL (wr v158 109 (ix (f_X7_cell v168 e88_1)) ((rd v158 109 (ix (f_X7_cell v168 e88_1))) + v129)) 111 (ix (2 : Int32))) + v129.toInt64)) hK
        · refine j_goto (y := I_X7_pick) 21 dX7_pick_113 (by decide) ?_
          refine j_sub [1, 2, 3, 4, 0] rfl ?_
          exact ih e88_1 e88_2 e88_3 (0 : Int32) T88 hK
      · refine j_iload_n (y := I_X7_pick) 2 dX7_pick_93 rfl rfl ?_
        refine j_if_le (y := I_X7_pick) 105 dX7_pick_94 (by decide) (fun h94 => ?_) (fun h94 => ?_)
        · refine j_iconst (y := I_X7_pick) (v := 0) dX7_pick_105 (by decide) ?_
          refine j_istore (y := I_X7_pick) (ls' := [(4, .int (0 : Int32)), (0, .ref (w.2.1 + 108)), (1, .int e88_1), (2, .int e88_2), (3, .int e88_3), (5, .int e88_5)]) dX7_pick_106 (by decide) rfl ?_
          refine j_iload (y := I_X7_pick) 0 dX7_pick_108 rfl ?_
          refine j_if_ne (y := I_X7_pick) 116 dX7_pick_110 (by decide) (fun h110 => ?_) (fun h110 => ?_)
          · refine j_aload_n (y := I_X7_pick) 1 dX7_pick_116 rfl rfl ?_
            refine j_iload (y := I_X7_pick) 5 dX7_pick_117 rfl ?_
            refine j_callViR (y := I_X7_pick) (As := [.int e88_5]) cv_7_162 ⟨Nat.le_of_ble_eq_true rfl, Nat.le_of_ble_eq_true rfl⟩ k_108 rfl (Nat.le_of_ble_eq_true rfl) dX7_pick_119 (c_X7_fruitsOf l w e88_5 T88) (fun v119 h119 => ?_)
            refine j_iload_n (y := I_X7_pick) 3 dX7_pick_122 rfl rfl ?_
            refine j_icmp_ge (y := I_X7_pick) 135 dX7_pick_123 (by decide) (fun h123 => ?_) (fun h123 => ?_)
            · refine j_iload_n (y := I_X7_pick) 3 dX7_pick_135 rfl rfl ?_
              refine j_istore (y := I_X7_pick) (ls' := [(6, .int e88_2), (4, .int (0 : Int32)), (0, .ref (w.2.1 + 108)), (1, .int e88_1), (2, .int e88_2), (3, .int e88_3), (5, .int e88_5)]) dX7_pick_136 (by decide) rfl ?_
              refine j_iload (y := I_X7_pick) 0 dX7_pick_138 rfl ?_
              refine j_iload_n (y := I_X7_pick) 5 dX7_pick_140 rfl rfl ?_
              refine j_icmp_ge (y := I_X7_pick) 149 dX7_pick_141 (by decide) (fun h141 => ?_) (fun h141 => ?_)
              · refine j_iload_n (y := I_X7_pick) 5 dX7_pick_149 rfl rfl ?_
                refine j_istore (y := I_X7_pick) (ls' := [(6, .int e88_3), (4, .int (0 : Int32)), (0, .ref (w.2.1 + 108)), (1, .int e88_1), (2, .int e88_2), (3, .int e88_3), (5, .int e88_5)]) dX7_pick_150 (by decide) rfl ?_
                refine j_aload_n (y := I_X7_pick) 2 dX7_pick_152 rfl rfl ?_
                refine j_iload (y := I_X7_pick) 6 dX7_pick_153 rfl ?_
                refine j_iload (y := I_X7_pick) 0 dX7_pick_155 rfl ?_
                refine j_ineg (y := I_X7_pick) dX7_pick_157 ?_
                refine j_callVvS (y := I_X7_pick) (As := [.int e88_5, .int (-e88_3)]) cv_7_165 ⟨Nat.le_of_ble_eq_true rfl, Nat.le_of_ble_eq_true rfl⟩ k_108 rfl (Nat.le_of_ble_eq_true rfl) dX7_pick_158 (c_X7_grow l w e88_5 (-e88_3) T88) (fun v158 h158 => ?_)
                refine j_aload_n (y := I_X7_pick) 2 dX7_pick_161 rfl rfl ?_
                refine j_getR (y := I_X7_pick) (j := 109) fl_7_7 k_108 rfl rfl dX7_pick_162 ?_
                refine j_aload_n (y := I_X7_pick) 2 dX7_pick_165 rfl rfl ?_
                refine j_iload (y := I_X7_pick) 6 dX7_pick_166 rfl ?_
                refine j_callViR (y := I_X7_pick) (As := [.int e88_5]) cv_7_143 ⟨Nat.le_of_ble_eq_true rfl, Nat.le_of_ble_eq_true rfl⟩ k_108 rfl (Nat.le_of_ble_eq_true rfl) dX7_pick_168 (c_X7_sortOfPart l w e88_5 v158) (fun v168 h168 => ?_)
                refine j_iload_n (y := I_X7_pick) 3 dX7_pick_171 rfl rfl ?_
                refine j_callSiT (y := I_X7_pick) (As := [.int v168, .int e88_1]) cv_7_172 ⟨Nat.le_of_ble_eq_true rfl, Nat.le_of_ble_eq_true rfl⟩ rfl (Nat.le_of_ble_eq_true rfl) dX7_pick_172 (c_X7_cell l w v168 e88_1 v158) ?_
                refine j_dup2 (y := I_X7_pick) dX7_pick_175 rfl rfl ?_
                refine j_iald (y := I_X7_pick) k_109 dX7_pick_176 (fun h176 => ?_)
                refine j_iload (y := I_X7_pick) 0 dX7_pick_177 rfl ?_
                refine j_iadd (y := I_X7_pick) dX7_pick_179 ?_
                refine j_iast (y := I_X7_pick) k_109 dX7_pick_180 (fun h180 => ?_)
                refine j_iload_n (y := I_X7_pick) 4 dX7_pick_181 rfl rfl ?_
                refine j_iload (y := I_X7_pick) 0 dX7_pick_182 rfl ?_
                refine j_isub (y := I_X7_pick) dX7_pick_184 ?_
                refine j_istore_n (y := I_X7_pick) (ls' := [(2, .int (e88_2 - e88_3)), (6, .int e88_3), (4, .int (0 : Int32)), (0, .ref (w.2.1 + 108)), (1, .int e88_1), (3, .int e88_3), (5, .int e88_5)]) dX7_pick_185 rfl (by decide) rfl ?_
                refine j_iload_n (y := I_X7_pick) 5 dX7_pick_186 rfl rfl ?_
                refine j_iload (y := I_X7_pick) 1 dX7_pick_187 rfl ?_
                refine j_isub (y := I_X7_pick) dX7_pick_189 ?_
                refine j_istore_n (y := I_X7_pick) (ls' := [(3, .int (e88_3 - e88_3)), (2, .int (e88_2 - e88_3)), (6, .int e88_3), (4, .int (0 : Int32)), (0, .ref (w.2.1 + 108)), (1, .int e88_1), (5, .int e88_5)]) dX7_pick_190 rfl (by decide) rfl ?_
                refine j_aload_n (y := I_X7_pick) 4 dX7_pick_191 rfl rfl ?_
                refine j_getR (y := I_X7_pick) (j := 111) fl_7_16 k_108 rfl rfl dX7_pick_192 ?_
                refine j_iconst (y := I_X7_pick) (v := 2) dX7_pick_195 (by decide) ?_
                refine j_dup2 (y := I_X7_pick) dX7_pick_196 rfl rfl ?_
                refine j_laldL (y := I_X7_pick) k_111 (by decide) dX7_pick_197 ?_
                refine j_iload (y := I_X7_pick) 2 dX7_pick_198 rfl ?_
                refine j_i2l (y := I_X7_pick) dX7_pick_200 ?_
                refine j_ladd (y := I_X7_pick) dX7_pick_201 ?_
                refine j_lastL (y := I_X7_pick) k_111 (by decide) dX7_pick_202 ?_
                refine j_goto (y := I_X7_pick) 21 dX7_pick_203 (by decide) ?_
                refine j_sub [4, 5, 1, 0, 3] rfl ?_
                exact ih e88_1 (e88_2 - e88_3) (e88_3 - e88_3) (0 : Int32) (wrL (wr v158 109 (ix (f_X7_cell v168 e88_1)) ((rd v158 109 (ix (f_X7_cell v168 e88_1))) + e88_3)) 111 (ix (2 : Int32)) ((rdL (wr v158 109 (ix (f_X7_cell v168 e88_1)) ((rd v158 109 (ix (f_X7_cell v168 e88_1))) + e88_3)) 111 (ix (2 : Int32))) + e88_3.toInt64)) hK
              · refine j_iload (y := I_X7_pick) 0 dX7_pick_144 rfl ?_
                refine j_goto (y := I_X7_pick) 150 dX7_pick_146 (by decide) ?_
                refine j_istore (y := I_X7_pick) (ls' := [(6, .int e88_2), (4, .int (0 : Int32)), (0, .ref (w.2.1 + 108)), (1, .int e88_1), (2, .int e88_2), (3, .int e88_3), (5, .int e88_5)]) dX7_pick_150 (by decide) rfl ?_
                refine j_aload_n (y := I_X7_pick) 2 dX7_pick_152 rfl rfl ?_
                refine j_iload (y := I_X7_pick) 6 dX7_pick_153 rfl ?_
                refine j_iload (y := I_X7_pick) 0 dX7_pick_155 rfl ?_
                refine j_ineg (y := I_X7_pick) dX7_pick_157 ?_
                refine j_callVvS (y := I_X7_pick) (As := [.int e88_5, .int (-e88_2)]) cv_7_165 ⟨Nat.le_of_ble_eq_true rfl, Nat.le_of_ble_eq_true rfl⟩ k_108 rfl (Nat.le_of_ble_eq_true rfl) dX7_pick_158 (c_X7_grow l w e88_5 (-e88_2) T88) (fun v158 h158 => ?_)
                refine j_aload_n (y := I_X7_pick) 2 dX7_pick_161 rfl rfl ?_
                refine j_getR (y := I_X7_pick) (j := 109) fl_7_7 k_108 rfl rfl dX7_pick_162 ?_
                refine j_aload_n (y := I_X7_pick) 2 dX7_pick_165 rfl rfl ?_
                refine j_iload (y := I_X7_pick) 6 dX7_pick_166 rfl ?_
                refine j_callViR (y := I_X7_pick) (As := [.int e88_5]) cv_7_143 ⟨Nat.le_of_ble_eq_true rfl, Nat.le_of_ble_eq_true rfl⟩ k_108 rfl (Nat.le_of_ble_eq_true rfl) dX7_pick_168 (c_X7_sortOfPart l w e88_5 v158) (fun v168 h168 => ?_)
                refine j_iload_n (y := I_X7_pick) 3 dX7_pick_171 rfl rfl ?_
                refine j_callSiT (y := I_X7_pick) (As := [.int v168, .int e88_1]) cv_7_172 ⟨Nat.le_of_ble_eq_true rfl, Nat.le_of_ble_eq_true rfl⟩ rfl (Nat.le_of_ble_eq_true rfl) dX7_pick_172 (c_X7_cell l w v168 e88_1 v158) ?_
                refine j_dup2 (y := I_X7_pick) dX7_pick_175 rfl rfl ?_
                refine j_iald (y := I_X7_pick) k_109 dX7_pick_176 (fun h176 => ?_)
                refine j_iload (y := I_X7_pick) 0 dX7_pick_177 rfl ?_
                refine j_iadd (y := I_X7_pick) dX7_pick_179 ?_
                refine j_iast (y := I_X7_pick) k_109 dX7_pick_180 (fun h180 => ?_)
                refine j_iload_n (y := I_X7_pick) 4 dX7_pick_181 rfl rfl ?_
                refine j_iload (y := I_X7_pick) 0 dX7_pick_182 rfl ?_
                refine j_isub (y := I_X7_pick) dX7_pick_184 ?_
                refine j_istore_n (y := I_X7_pick) (ls' := [(2, .int (e88_2 - e88_2)), (6, .int e88_2), (4, .int (0 : Int32)), (0, .ref (w.2.1 + 108)), (1, .int e88_1), (3, .int e88_3), (5, .int e88_5)]) dX7_pick_185 rfl (by decide) rfl ?_
                refine j_iload_n (y := I_X7_pick) 5 dX7_pick_186 rfl rfl ?_
                refine j_iload (y := I_X7_pick) 1 dX7_pick_187 rfl ?_
                refine j_isub (y := I_X7_pick) dX7_pick_189 ?_
                refine j_istore_n (y := I_X7_pick) (ls' := [(3, .int (e88_3 - e88_2)), (2, .int (e88_2 - e88_2)), (6, .int e88_2), (4, .int (0 : Int32)), (0, .ref (w.2.1 + 108)), (1, .int e88_1), (5, .int e88_5)]) dX7_pick_190 rfl (by decide) rfl ?_
                refine j_aload_n (y := I_X7_pick) 4 dX7_pick_191 rfl rfl ?_
                refine j_getR (y := I_X7_pick) (j := 111) fl_7_16 k_108 rfl rfl dX7_pick_192 ?_
                refine j_iconst (y := I_X7_pick) (v := 2) dX7_pick_195 (by decide) ?_
                refine j_dup2 (y := I_X7_pick) dX7_pick_196 rfl rfl ?_
                refine j_laldL (y := I_X7_pick) k_111 (by decide) dX7_pick_197 ?_
                refine j_iload (y := I_X7_pick) 2 dX7_pick_198 rfl ?_
                refine j_i2l (y := I_X7_pick) dX7_pick_200 ?_
                refine j_ladd (y := I_X7_pick) dX7_pick_201 ?_
                refine j_lastL (y := I_X7_pick) k_111 (by decide) dX7_pick_202 ?_
                refine j_goto (y := I_X7_pick) 21 dX7_pick_203 (by decide) ?_
                refine j_sub [4, 5, 1, 0, 3] rfl ?_
                exact ih e88_1 (e88_2 - e88_2) (e88_3 - e88_2) (0 : Int32) (wrL (wr v158 109 (ix (f_X7_cell v168 e88_1)) ((rd v158 109 (ix (f_X7_cell v168 e88_1))) + e88_2)) 111 (ix (2 : Int32)) ((rdL (wr v158 109 (ix (f_X7_cell v168 e88_1)) ((rd v158 109 (ix (f_X7_cell v168 e88_1))) + e88_2)) 111 (ix (2 : Int32))) + e88_2.toInt64)) hK
            · refine j_aload_n (y := I_X7_pick) 1 dX7_pick_126 rfl rfl ?_
              refine j_iload (y := I_X7_pick) 5 dX7_pick_127 rfl ?_
              refine j_callViR (y := I_X7_pick) (As := [.int e88_5]) cv_7_162 ⟨Nat.le_of_ble_eq_true rfl, Nat.le_of_ble_eq_true rfl⟩ k_108 rfl (Nat.le_of_ble_eq_true rfl) dX7_pick_129 (c_X7_fruitsOf l w e88_5 T88) (fun v129 h129 => ?_)
              refine j_goto (y := I_X7_pick) 136 dX7_pick_132 (by decide) ?_
              refine j_istore (y := I_X7_pick) (ls' := [(6, .int v129), (4, .int (0 : Int32)), (0, .ref (w.2.1 + 108)), (1, .int e88_1), (2, .int e88_2), (3, .int e88_3), (5, .int e88_5)]) dX7_pick_136 (by decide) rfl ?_
              refine j_iload (y := I_X7_pick) 0 dX7_pick_138 rfl ?_
              refine j_iload_n (y := I_X7_pick) 5 dX7_pick_140 rfl rfl ?_
              refine j_icmp_ge (y := I_X7_pick) 149 dX7_pick_141 (by decide) (fun h141 => ?_) (fun h141 => ?_)
              · refine j_iload_n (y := I_X7_pick) 5 dX7_pick_149 rfl rfl ?_
                refine j_istore (y := I_X7_pick) (ls' := [(6, .int e88_3), (4, .int (0 : Int32)), (0, .ref (w.2.1 + 108)), (1, .int e88_1), (2, .int e88_2), (3, .int e88_3), (5, .int e88_5)]) dX7_pick_150 (by decide) rfl ?_
                refine j_aload_n (y := I_X7_pick) 2 dX7_pick_152 rfl rfl ?_
                refine j_iload (y := I_X7_pick) 6 dX7_pick_153 rfl ?_
                refine j_iload (y := I_X7_pick) 0 dX7_pick_155 rfl ?_
                refine j_ineg (y := I_X7_pick) dX7_pick_157 ?_
                refine j_callVvS (y := I_X7_pick) (As := [.int e88_5, .int (-e88_3)]) cv_7_165 ⟨Nat.le_of_ble_eq_true rfl, Nat.le_of_ble_eq_true rfl⟩ k_108 rfl (Nat.le_of_ble_eq_true rfl) dX7_pick_158 (c_X7_grow l w e88_5 (-e88_3) T88) (fun v158 h158 => ?_)
                refine j_aload_n (y := I_X7_pick) 2 dX7_pick_161 rfl rfl ?_
                refine j_getR (y := I_X7_pick) (j := 109) fl_7_7 k_108 rfl rfl dX7_pick_162 ?_
                refine j_aload_n (y := I_X7_pick) 2 dX7_pick_165 rfl rfl ?_
                refine j_iload (y := I_X7_pick) 6 dX7_pick_166 rfl ?_
                refine j_callViR (y := I_X7_pick) (As := [.int e88_5]) cv_7_143 ⟨Nat.le_of_ble_eq_true rfl, Nat.le_of_ble_eq_true rfl⟩ k_108 rfl (Nat.le_of_ble_eq_true rfl) dX7_pick_168 (c_X7_sortOfPart l w e88_5 v158) (fun v168 h168 => ?_)
                refine j_iload_n (y := I_X7_pick) 3 dX7_pick_171 rfl rfl ?_
                refine j_callSiT (y := I_X7_pick) (As := [.int v168, .int e88_1]) cv_7_172 ⟨Nat.le_of_ble_eq_true rfl, Nat.le_of_ble_eq_true rfl⟩ rfl (Nat.le_of_ble_eq_true rfl) dX7_pick_172 (c_X7_cell l w v168 e88_1 v158) ?_
                refine j_dup2 (y := I_X7_pick) dX7_pick_175 rfl rfl ?_
                refine j_iald (y := I_X7_pick) k_109 dX7_pick_176 (fun h176 => ?_)
                refine j_iload (y := I_X7_pick) 0 dX7_pick_177 rfl ?_
                refine j_iadd (y := I_X7_pick) dX7_pick_179 ?_
                refine j_iast (y := I_X7_pick) k_109 dX7_pick_180 (fun h180 => ?_)
                refine j_iload_n (y := I_X7_pick) 4 dX7_pick_181 rfl rfl ?_
                refine j_iload (y := I_X7_pick) 0 dX7_pick_182 rfl ?_
                refine j_isub (y := I_X7_pick) dX7_pick_184 ?_
                refine j_istore_n (y := I_X7_pick) (ls' := [(2, .int (e88_2 - e88_3)), (6, .int e88_3), (4, .int (0 : Int32)), (0, .ref (w.2.1 + 108)), (1, .int e88_1), (3, .int e88_3), (5, .int e88_5)]) dX7_pick_185 rfl (by decide) rfl ?_
                refine j_iload_n (y := I_X7_pick) 5 dX7_pick_186 rfl rfl ?_
                refine j_iload (y := I_X7_pick) 1 dX7_pick_187 rfl ?_
                refine j_isub (y := I_X7_pick) dX7_pick_189 ?_
                refine j_istore_n (y := I_X7_pick) (ls' := [(3, .int (e88_3 - e88_3)), (2, .int (e88_2 - e88_3)), (6, .int e88_3), (4, .int (0 : Int32)), (0, .ref (w.2.1 + 108)), (1, .int e88_1), (5, .int e88_5)]) dX7_pick_190 rfl (by decide) rfl ?_
                refine j_aload_n (y := I_X7_pick) 4 dX7_pick_191 rfl rfl ?_
                refine j_getR (y := I_X7_pick) (j := 111) fl_7_16 k_108 rfl rfl dX7_pick_192 ?_
                refine j_iconst (y := I_X7_pick) (v := 2) dX7_pick_195 (by decide) ?_
                refine j_dup2 (y := I_X7_pick) dX7_pick_196 rfl rfl ?_
                refine j_laldL (y := I_X7_pick) k_111 (by decide) dX7_pick_197 ?_
                refine j_iload (y := I_X7_pick) 2 dX7_pick_198 rfl ?_
                refine j_i2l (y := I_X7_pick) dX7_pick_200 ?_
                refine j_ladd (y := I_X7_pick) dX7_pick_201 ?_
                refine j_lastL (y := I_X7_pick) k_111 (by decide) dX7_pick_202 ?_
                refine j_goto (y := I_X7_pick) 21 dX7_pick_203 (by decide) ?_
                refine j_sub [4, 5, 1, 0, 3] rfl ?_
                exact ih e88_1 (e88_2 - e88_3) (e88_3 - e88_3) (0 : Int32) (wrL (wr v158 109 (ix (f_X7_cell v168 e88_1)) ((rd v158 109 (ix (f_X7_cell v168 e88_1))) + e88_3)) 111 (ix (2 : Int32)) ((rdL (wr v158 109 (ix (f_X7_cell v168 e88_1)) ((rd v158 109 (ix (f_X7_cell v168 e88_1))) + e88_3)) 111 (ix (2 : Int32))) + e88_3.toInt64)) hK
              · refine j_iload (y := I_X7_pick) 0 dX7_pick_144 rfl ?_
                refine j_goto (y := I_X7_pick) 150 dX7_pick_146 (by decide) ?_
                refine j_istore (y := I_X7_pick) (ls' := [(6, .int v129), (4, .int (0 : Int32)), (0, .ref (w.2.1 + 108)), (1, .int e88_1), (2, .int e88_2), (3, .int e88_3), (5, .int e88_5)]) dX7_pick_150 (by decide) rfl ?_
                refine j_aload_n (y := I_X7_pick) 2 dX7_pick_152 rfl rfl ?_
                refine j_iload (y := I_X7_pick) 6 dX7_pick_153 rfl ?_
                refine j_iload (y := I_X7_pick) 0 dX7_pick_155 rfl ?_
                refine j_ineg (y := I_X7_pick) dX7_pick_157 ?_
                refine j_callVvS (y := I_X7_pick) (As := [.int e88_5, .int (-v129)]) cv_7_165 ⟨Nat.le_of_ble_eq_true rfl, Nat.le_of_ble_eq_true rfl⟩ k_108 rfl (Nat.le_of_ble_eq_true rfl) dX7_pick_158 (c_X7_grow l w e88_5 (-v129) T88) (fun v158 h158 => ?_)
                refine j_aload_n (y := I_X7_pick) 2 dX7_pick_161 rfl rfl ?_
                refine j_getR (y := I_X7_pick) (j := 109) fl_7_7 k_108 rfl rfl dX7_pick_162 ?_
                refine j_aload_n (y := I_X7_pick) 2 dX7_pick_165 rfl rfl ?_
                refine j_iload (y := I_X7_pick) 6 dX7_pick_166 rfl ?_
                refine j_callViR (y := I_X7_pick) (As := [.int e88_5]) cv_7_143 ⟨Nat.le_of_ble_eq_true rfl, Nat.le_of_ble_eq_true rfl⟩ k_108 rfl (Nat.le_of_ble_eq_true rfl) dX7_pick_168 (c_X7_sortOfPart l w e88_5 v158) (fun v168 h168 => ?_)
                refine j_iload_n (y := I_X7_pick) 3 dX7_pick_171 rfl rfl ?_
                refine j_callSiT (y := I_X7_pick) (As := [.int v168, .int e88_1]) cv_7_172 ⟨Nat.le_of_ble_eq_true rfl, Nat.le_of_ble_eq_true rfl⟩ rfl (Nat.le_of_ble_eq_true rfl) dX7_pick_172 (c_X7_cell l w v168 e88_1 v158) ?_
                refine j_dup2 (y := I_X7_pick) dX7_pick_175 rfl rfl ?_
                refine j_iald (y := I_X7_pick) k_109 dX7_pick_176 (fun h176 => ?_)
                refine j_iload (y := I_X7_pick) 0 dX7_pick_177 rfl ?_
                refine j_iadd (y := I_X7_pick) dX7_pick_179 ?_
                refine j_iast (y := I_X7_pick) k_109 dX7_pick_180 (fun h180 => ?_)
                refine j_iload_n (y := I_X7_pick) 4 dX7_pick_181 rfl rfl ?_
                refine j_iload (y := I_X7_pick) 0 dX7_pick_182 rfl ?_
                refine j_isub (y := I_X7_pick) dX7_pick_184 ?_
                refine j_istore_n (y := I_X7_pick) (ls' := [(2, .int (e88_2 - v129)), (6, .int v129), (4, .int (0 : Int32)), (0, .ref (w.2.1 + 108)), (1, .int e88_1), (3, .int e88_3), (5, .int e88_5)]) dX7_pick_185 rfl (by decide) rfl ?_
                refine j_iload_n (y := I_X7_pick) 5 dX7_pick_186 rfl rfl ?_
                refine j_iload (y := I_X7_pick) 1 dX7_pick_187 rfl ?_
                refine j_isub (y := I_X7_pick) dX7_pick_189 ?_
                refine j_istore_n (y := I_X7_pick) (ls' := [(3, .int (e88_3 - v129)), (2, .int (e88_2 - v129)), (6, .int v129), (4, .int (0 : Int32)), (0, .ref (w.2.1 + 108)), (1, .int e88_1), (5, .int e88_5)]) dX7_pick_190 rfl (by decide) rfl ?_
                refine j_aload_n (y := I_X7_pick) 4 dX7_pick_191 rfl rfl ?_
                refine j_getR (y := I_X7_pick) (j := 111) fl_7_16 k_108 rfl rfl dX7_pick_192 ?_
                refine j_iconst (y := I_X7_pick) (v := 2) dX7_pick_195 (by decide) ?_
                refine j_dup2 (y := I_X7_pick) dX7_pick_196 rfl rfl ?_
                refine j_laldL (y := I_X7_pick) k_111 (by decide) dX7_pick_197 ?_
                refine j_iload (y := I_X7_pick) 2 dX7_pick_198 rfl ?_
                refine j_i2l (y := I_X7_pick) dX7_pick_200 ?_
                refine j_ladd (y := I_X7_pick) dX7_pick_201 ?_
                refine j_lastL (y := I_X7_pick) k_111 (by decide) dX7_pick_202 ?_
                refine j_goto (y := I_X7_pick) 21 dX7_pick_203 (by decide) ?_
                refine j_sub [4, 5, 1, 0, 3] rfl ?_
                exact ih e88_1 (e88_2 - v129) (e88_3 - v129) (0 : Int32) (wrL (wr v158 109 (ix (f_X7_cell v168 e88_1)) ((rd v158 109 (ix (f_X7_cell v168 e88_1))) + v129)) 111 (ix (2 : Int32)) ((rdL (wr v158 109 (ix (f_X7_cell v168 e88_1)) ((rd v158 109 (ix (f_X7_cell v168 e88_1))) + v129)) 111 (ix (2 : Int32))) + v129.toInt64)) hK
          · refine j_goto (y := I_X7_pick) 21 dX7_pick_113 (by decide) ?_
            refine j_sub [1, 2, 3, 4, 0] rfl ?_
            exact ih e88_1 e88_2 e88_3 (0 : Int32) T88 hK
        · refine j_iload_n (y := I_X7_pick) 3 dX7_pick_97 rfl rfl ?_
          refine j_if_le (y := I_X7_pick) 105 dX7_pick_98 (by decide) (fun h98 => ?_) (fun h98 => ?_)
          · refine j_iconst (y := I_X7_pick) (v := 0) dX7_pick_105 (by decide) ?_
            refine j_istore (y := I_X7_pick) (ls' := [(4, .int (0 : Int32)), (0, .ref (w.2.1 + 108)), (1, .int e88_1), (2, .int e88_2), (3, .int e88_3), (5, .int e88_5)]) dX7_pick_106 (by decide) rfl ?_
            refine j_iload (y := I_X7_pick) 0 dX7_pick_108 rfl ?_
            refine j_if_ne (y := I_X7_pick) 116 dX7_pick_110 (by decide) (fun h110 => ?_) (fun h110 => ?_)
            · refine j_aload_n (y := I_X7_pick) 1 dX7_pick_116 rfl rfl ?_
              refine j_iload (y := I_X7_pick) 5 dX7_pick_117 rfl ?_
              refine j_callViR (y := I_X7_pick) (As := [.int e88_5]) cv_7_162 ⟨Nat.le_of_ble_eq_true rfl, Nat.le_of_ble_eq_true rfl⟩ k_108 rfl (Nat.le_of_ble_eq_true rfl) dX7_pick_119 (c_X7_fruitsOf l w e88_5 T88) (fun v119 h119 => ?_)
              refine j_iload_n (y := I_X7_pick) 3 dX7_pick_122 rfl rfl ?_
              refine j_icmp_ge (y := I_X7_pick) 135 dX7_pick_123 (by decide) (fun h123 => ?_) (fun h123 => ?_)
              · refine j_iload_n (y := I_X7_pick) 3 dX7_pick_135 rfl rfl ?_
                refine j_istore (y := I_X7_pick) (ls' := [(6, .int e88_2), (4, .int (0 : Int32)), (0, .ref (w.2.1 + 108)), (1, .int e88_1), (2, .int e88_2), (3, .int e88_3), (5, .int e88_5)]) dX7_pick_136 (by decide) rfl ?_
                refine j_iload (y := I_X7_pick) 0 dX7_pick_138 rfl ?_
                refine j_iload_n (y := I_X7_pick) 5 dX7_pick_140 rfl rfl ?_
                refine j_icmp_ge (y := I_X7_pick) 149 dX7_pick_141 (by decide) (fun h141 => ?_) (fun h141 => ?_)
                · refine j_iload_n (y := I_X7_pick) 5 dX7_pick_149 rfl rfl ?_
                  refine j_istore (y := I_X7_pick) (ls' := [(6, .int e88_3), (4, .int (0 : Int32)), (0, .ref (w.2.1 + 108)), (1, .int e88_1), (2, .int e88_2), (3, .int e88_3), (5, .int e88_5)]) dX7_pick_150 (by decide) rfl ?_
                  refine j_aload_n (y := I_X7_pick) 2 dX7_pick_152 rfl rfl ?_
                  refine j_iload (y := I_X7_pick) 6 dX7_pick_153 rfl ?_
                  refine j_iload (y := I_X7_pick) 0 dX7_pick_155 rfl ?_
                  refine j_ineg (y := I_X7_pick) dX7_pick_157 ?_
                  refine j_callVvS (y := I_X7_pick) (As := [.int e88_5, .int (-e88_3)]) cv_7_165 ⟨Nat.le_of_ble_eq_true rfl, Nat.le_of_ble_eq_true rfl⟩ k_108 rfl (Nat.le_of_ble_eq_true rfl) dX7_pick_158 (c_X7_grow l w e88_5 (-e88_3) T88) (fun v158 h158 => ?_)
                  refine j_aload_n (y := I_X7_pick) 2 dX7_pick_161 rfl rfl ?_
                  refine j_getR (y := I_X7_pick) (j := 109) fl_7_7 k_108 rfl rfl dX7_pick_162 ?_
                  refine j_aload_n (y := I_X7_pick) 2 dX7_pick_165 rfl rfl ?_
                  refine j_iload (y := I_X7_pick) 6 dX7_pick_166 rfl ?_
                  refine j_callViR (y := I_X7_pick) (As := [.int e88_5]) cv_7_143 ⟨Nat.le_of_ble_eq_true rfl, Nat.le_of_ble_eq_true rfl⟩ k_108 rfl (Nat.le_of_ble_eq_true rfl) dX7_pick_168 (c_X7_sortOfPart l w e88_5 v158) (fun v168 h168 => ?_)
                  refine j_iload_n (y := I_X7_pick) 3 dX7_pick_171 rfl rfl ?_
                  refine j_callSiT (y := I_X7_pick) (As := [.int v168, .int e88_1]) cv_7_172 ⟨Nat.le_of_ble_eq_true rfl, Nat.le_of_ble_eq_true rfl⟩ rfl (Nat.le_of_ble_eq_true rfl) dX7_pick_172 (c_X7_cell l w v168 e88_1 v158) ?_
                  refine j_dup2 (y := I_X7_pick) dX7_pick_175 rfl rfl ?_
                  refine j_iald (y := I_X7_pick) k_109 dX7_pick_176 (fun h176 => ?_)
                  refine j_iload (y := I_X7_pick) 0 dX7_pick_177 rfl ?_
                  refine j_iadd (y := I_X7_pick) dX7_pick_179 ?_
                  refine j_iast (y := I_X7_pick) k_109 dX7_pick_180 (fun h180 => ?_)
                  refine j_iload_n (y := I_X7_pick) 4 dX7_pick_181 rfl rfl ?_
                  refine j_iload (y := I_X7_pick) 0 dX7_pick_182 rfl ?_
                  refine j_isub (y := I_X7_pick) dX7_pick_184 ?_
                  refine j_istore_n (y := I_X7_pick) (ls' := [(2, .int (e88_2 - e88_3)), (6, .int e88_3), (4, .int (0 : Int32)), (0, .ref (w.2.1 + 108)), (1, .int e88_1), (3, .int e88_3), (5, .int e88_5)]) dX7_pick_185 rfl (by decide) rfl ?_
                  refine j_iload_n (y := I_X7_pick) 5 dX7_pick_186 rfl rfl ?_
                  refine j_iload (y := I_X7_pick) 1 dX7_pick_187 rfl ?_
                  refine j_isub (y := I_X7_pick) dX7_pick_189 ?_
                  refine j_istore_n (y := I_X7_pick) (ls' := [(3, .int (e88_3 - e88_3)), (2, .int (e88_2 - e88_3)), (6, .int e88_3), (4, .int (0 : Int32)), (0, .ref (w.2.1 + 108)), (1, .int e88_1), (5, .int e88_5)]) dX7_pick_190 rfl (by decide) rfl ?_
                  refine j_aload_n (y := I_X7_pick) 4 dX7_pick_191 rfl rfl ?_
                  refine j_getR (y := I_X7_pick) (j := 111) fl_7_16 k_108 rfl rfl dX7_pick_192 ?_
                  refine j_iconst (y := I_X7_pick) (v := 2) dX7_pick_195 (by decide) ?_
                  refine j_dup2 (y := I_X7_pick) dX7_pick_196 rfl rfl ?_
                  refine j_laldL (y := I_X7_pick) k_111 (by decide) dX7_pick_197 ?_
                  refine j_iload (y := I_X7_pick) 2 dX7_pick_198 rfl ?_
                  refine j_i2l (y := I_X7_pick) dX7_pick_200 ?_
                  refine j_ladd (y := I_X7_pick) dX7_pick_201 ?_
                  refine j_lastL (y := I_X7_pick) k_111 (by decide) dX7_pick_202 ?_
                  refine j_goto (y := I_X7_pick) 21 dX7_pick_203 (by decide) ?_
                  refine j_sub [4, 5, 1, 0, 3] rfl ?_
                  exact ih e88_1 (e88_2 - e88_3) (e88_3 - e88_3) (0 : Int32) (wrL (wr v158 109 (ix (f_X7_cell v168 e88_1)) ((rd v158 109 (ix (f_X7_cell v168 e88_1))) + e88_3)) 111 (ix (2 : Int32)) ((rdL (wr v158 109 (ix (f_X7_cell v168 e88_1)) ((rd v158 109 (ix (f_X7_cell v168 e88_1))) + e88_3)) 111 (ix (2 : Int32))) + e88_3.toInt64)) hK
                · refine j_iload (y := I_X7_pick) 0 dX7_pick_144 rfl ?_
                  refine j_goto (y := I_X7_pick) 150 dX7_pick_146 (by decide) ?_
                  refine j_istore (y := I_X7_pick) (ls' := [(6, .int e88_2), (4, .int (0 : Int32)), (0, .ref (w.2.1 + 108)), (1, .int e88_1), (2, .int e88_2), (3, .int e88_3), (5, .int e88_5)]) dX7_pick_150 (by decide) rfl ?_
                  refine j_aload_n (y := I_X7_pick) 2 dX7_pick_152 rfl rfl ?_
                  refine j_iload (y := I_X7_pick) 6 dX7_pick_153 rfl ?_
                  refine j_iload (y := I_X7_pick) 0 dX7_pick_155 rfl ?_
                  refine j_ineg (y := I_X7_pick) dX7_pick_157 ?_
                  refine j_callVvS (y := I_X7_pick) (As := [.int e88_5, .int (-e88_2)]) cv_7_165 ⟨Nat.le_of_ble_eq_true rfl, Nat.le_of_ble_eq_true rfl⟩ k_108 rfl (Nat.le_of_ble_eq_true rfl) dX7_pick_158 (c_X7_grow l w e88_5 (-e88_2) T88) (fun v158 h158 => ?_)
                  refine j_aload_n (y := I_X7_pick) 2 dX7_pick_161 rfl rfl ?_
                  refine j_getR (y := I_X7_pick) (j := 109) fl_7_7 k_108 rfl rfl dX7_pick_162 ?_
                  refine j_aload_n (y := I_X7_pick) 2 dX7_pick_165 rfl rfl ?_
                  refine j_iload (y := I_X7_pick) 6 dX7_pick_166 rfl ?_
                  refine j_callViR (y := I_X7_pick) (As := [.int e88_5]) cv_7_143 ⟨Nat.le_of_ble_eq_true rfl, Nat.le_of_ble_eq_true rfl⟩ k_108 rfl (Nat.le_of_ble_eq_true rfl) dX7_pick_168 (c_X7_sortOfPart l w e88_5 v158) (fun v168 h168 => ?_)
                  refine j_iload_n (y := I_X7_pick) 3 dX7_pick_171 rfl rfl ?_
                  refine j_callSiT (y := I_X7_pick) (As := [.int v168, .int e88_1]) cv_7_172 ⟨Nat.le_of_ble_eq_true rfl, Nat.le_of_ble_eq_true rfl⟩ rfl (Nat.le_of_ble_eq_true rfl) dX7_pick_172 (c_X7_cell l w v168 e88_1 v158) ?_
                  refine j_dup2 (y := I_X7_pick) dX7_pick_175 rfl rfl ?_
                  refine j_iald (y := I_X7_pick) k_109 dX7_pick_176 (fun h176 => ?_)
                  refine j_iload (y := I_X7_pick) 0 dX7_pick_177 rfl ?_
                  refine j_iadd (y := I_X7_pick) dX7_pick_179 ?_
                  refine j_iast (y := I_X7_pick) k_109 dX7_pick_180 (fun h180 => ?_)
                  refine j_iload_n (y := I_X7_pick) 4 dX7_pick_181 rfl rfl ?_
                  refine j_iload (y := I_X7_pick) 0 dX7_pick_182 rfl ?_
                  refine j_isub (y := I_X7_pick) dX7_pick_184 ?_
                  refine j_istore_n (y := I_X7_pick) (ls' := [(2, .int (e88_2 - e88_2)), (6, .int e88_2), (4, .int (0 : Int32)), (0, .ref (w.2.1 + 108)), (1, .int e88_1), (3, .int e88_3), (5, .int e88_5)]) dX7_pick_185 rfl (by decide) rfl ?_
                  refine j_iload_n (y := I_X7_pick) 5 dX7_pick_186 rfl rfl ?_
                  refine j_iload (y := I_X7_pick) 1 dX7_pick_187 rfl ?_
                  refine j_isub (y := I_X7_pick) dX7_pick_189 ?_
                  refine j_istore_n (y := I_X7_pick) (ls' := [(3, .int (e88_3 - e88_2)), (2, .int (e88_2 - e88_2)), (6, .int e88_2), (4, .int (0 : Int32)), (0, .ref (w.2.1 + 108)), (1, .int e88_1), (5, .int e88_5)]) dX7_pick_190 rfl (by decide) rfl ?_
                  refine j_aload_n (y := I_X7_pick) 4 dX7_pick_191 rfl rfl ?_
                  refine j_getR (y := I_X7_pick) (j := 111) fl_7_16 k_108 rfl rfl dX7_pick_192 ?_
                  refine j_iconst (y := I_X7_pick) (v := 2) dX7_pick_195 (by decide) ?_
                  refine j_dup2 (y := I_X7_pick) dX7_pick_196 rfl rfl ?_
                  refine j_laldL (y := I_X7_pick) k_111 (by decide) dX7_pick_197 ?_
                  refine j_iload (y := I_X7_pick) 2 dX7_pick_198 rfl ?_
                  refine j_i2l (y := I_X7_pick) dX7_pick_200 ?_
                  refine j_ladd (y := I_X7_pick) dX7_pick_201 ?_
                  refine j_lastL (y := I_X7_pick) k_111 (by decide) dX7_pick_202 ?_
                  refine j_goto (y := I_X7_pick) 21 dX7_pick_203 (by decide) ?_
                  refine j_sub [4, 5, 1, 0, 3] rfl ?_
                  exact ih e88_1 (e88_2 - e88_2) (e88_3 - e88_2) (0 : Int32) (wrL (wr v158 109 (ix (f_X7_cell v168 e88_1)) ((rd v158 109 (ix (f_X7_cell v168 e88_1))) + e88_2)) 111 (ix (2 : Int32)) ((rdL (wr v158 109 (ix (f_X7_cell v168 e88_1)) ((rd v158 109 (ix (f_X7_cell v168 e88_1))) + e88_2)) 111 (ix (2 : Int32))) + e88_2.toInt64)) hK
              · refine j_aload_n (y := I_X7_pick) 1 dX7_pick_126 rfl rfl ?_
                refine j_iload (y := I_X7_pick) 5 dX7_pick_127 rfl ?_
                refine j_callViR (y := I_X7_pick) (As := [.int e88_5]) cv_7_162 ⟨Nat.le_of_ble_eq_true rfl, Nat.le_of_ble_eq_true rfl⟩ k_108 rfl (Nat.le_of_ble_eq_true rfl) dX7_pick_129 (c_X7_fruitsOf l w e88_5 T88) (fun v129 h129 => ?_)
                refine j_goto (y := I_X7_pick) 136 dX7_pick_132 (by decide) ?_
                refine j_istore (y := I_X7_pick) (ls' := [(6, .int v129), (4, .int (0 : Int32)), (0, .ref (w.2.1 + 108)), (1, .int e88_1), (2, .int e88_2), (3, .int e88_3), (5, .int e88_5)]) dX7_pick_136 (by decide) rfl ?_
                refine j_iload (y := I_X7_pick) 0 dX7_pick_138 rfl ?_
                refine j_iload_n (y := I_X7_pick) 5 dX7_pick_140 rfl rfl ?_
                refine j_icmp_ge (y := I_X7_pick) 149 dX7_pick_141 (by decide) (fun h141 => ?_) (fun h141 => ?_)
                · refine j_iload_n (y := I_X7_pick) 5 dX7_pick_149 rfl rfl ?_
                  refine j_istore (y := I_X7_pick) (ls' := [(6, .int e88_3), (4, .int (0 : Int32)), (0, .ref (w.2.1 + 108)), (1, .int e88_1), (2, .int e88_2), (3, .int e88_3), (5, .int e88_5)]) dX7_pick_150 (by decide) rfl ?_
                  refine j_aload_n (y := I_X7_pick) 2 dX7_pick_152 rfl rfl ?_
                  refine j_iload (y := I_X7_pick) 6 dX7_pick_153 rfl ?_
                  refine j_iload (y := I_X7_pick) 0 dX7_pick_155 rfl ?_
                  refine j_ineg (y := I_X7_pick) dX7_pick_157 ?_
                  refine j_callVvS (y := I_X7_pick) (As := [.int e88_5, .int (-e88_3)]) cv_7_165 ⟨Nat.le_of_ble_eq_true rfl, Nat.le_of_ble_eq_true rfl⟩ k_108 rfl (Nat.le_of_ble_eq_true rfl) dX7_pick_158 (c_X7_grow l w e88_5 (-e88_3) T88) (fun v158 h158 => ?_)
                  refine j_aload_n (y := I_X7_pick) 2 dX7_pick_161 rfl rfl ?_
                  refine j_getR (y := I_X7_pick) (j := 109) fl_7_7 k_108 rfl rfl dX7_pick_162 ?_
                  refine j_aload_n (y := I_X7_pick) 2 dX7_pick_165 rfl rfl ?_
                  refine j_iload (y := I_X7_pick) 6 dX7_pick_166 rfl ?_
                  refine j_callViR (y := I_X7_pick) (As := [.int e88_5]) cv_7_143 ⟨Nat.le_of_ble_eq_true rfl, Nat.le_of_ble_eq_true rfl⟩ k_108 rfl (Nat.le_of_ble_eq_true rfl) dX7_pick_168 (c_X7_sortOfPart l w e88_5 v158) (fun v168 h168 => ?_)
                  refine j_iload_n (y := I_X7_pick) 3 dX7_pick_171 rfl rfl ?_
                  refine j_callSiT (y := I_X7_pick) (As := [.int v168, .int e88_1]) cv_7_172 ⟨Nat.le_of_ble_eq_true rfl, Nat.le_of_ble_eq_true rfl⟩ rfl (Nat.le_of_ble_eq_true rfl) dX7_pick_172 (c_X7_cell l w v168 e88_1 v158) ?_
                  refine j_dup2 (y := I_X7_pick) dX7_pick_175 rfl rfl ?_
                  refine j_iald (y := I_X7_pick) k_109 dX7_pick_176 (fun h176 => ?_)
                  refine j_iload (y := I_X7_pick) 0 dX7_pick_177 rfl ?_
                  refine j_iadd (y := I_X7_pick) dX7_pick_179 ?_
                  refine j_iast (y := I_X7_pick) k_109 dX7_pick_180 (fun h180 => ?_)
                  refine j_iload_n (y := I_X7_pick) 4 dX7_pick_181 rfl rfl ?_
                  refine j_iload (y := I_X7_pick) 0 dX7_pick_182 rfl ?_
                  refine j_isub (y := I_X7_pick) dX7_pick_184 ?_
                  refine j_istore_n (y := I_X7_pick) (ls' := [(2, .int (e88_2 - e88_3)), (6, .int e88_3), (4, .int (0 : Int32)), (0, .ref (w.2.1 + 108)), (1, .int e88_1), (3, .int e88_3), (5, .int e88_5)]) dX7_pick_185 rfl (by decide) rfl ?_
                  refine j_iload_n (y := I_X7_pick) 5 dX7_pick_186 rfl rfl ?_
                  refine j_iload (y := I_X7_pick) 1 dX7_pick_187 rfl ?_
                  refine j_isub (y := I_X7_pick) dX7_pick_189 ?_
                  refine j_istore_n (y := I_X7_pick) (ls' := [(3, .int (e88_3 - e88_3)), (2, .int (e88_2 - e88_3)), (6, .int e88_3), (4, .int (0 : Int32)), (0, .ref (w.2.1 + 108)), (1, .int e88_1), (5, .int e88_5)]) dX7_pick_190 rfl (by decide) rfl ?_
                  refine j_aload_n (y := I_X7_pick) 4 dX7_pick_191 rfl rfl ?_
                  refine j_getR (y := I_X7_pick) (j := 111) fl_7_16 k_108 rfl rfl dX7_pick_192 ?_
                  refine j_iconst (y := I_X7_pick) (v := 2) dX7_pick_195 (by decide) ?_
                  refine j_dup2 (y := I_X7_pick) dX7_pick_196 rfl rfl ?_
                  refine j_laldL (y := I_X7_pick) k_111 (by decide) dX7_pick_197 ?_
                  refine j_iload (y := I_X7_pick) 2 dX7_pick_198 rfl ?_
                  refine j_i2l (y := I_X7_pick) dX7_pick_200 ?_
                  refine j_ladd (y := I_X7_pick) dX7_pick_201 ?_
                  refine j_lastL (y := I_X7_pick) k_111 (by decide) dX7_pick_202 ?_
                  refine j_goto (y := I_X7_pick) 21 dX7_pick_203 (by decide) ?_
                  refine j_sub [4, 5, 1, 0, 3] rfl ?_
                  exact ih e88_1 (e88_2 - e88_3) (e88_3 - e88_3) (0 : Int32) (wrL (wr v158 109 (ix (f_X7_cell v168 e88_1)) ((rd v158 109 (ix (f_X7_cell v168 e88_1))) + e88_3)) 111 (ix (2 : Int32)) ((rdL (wr v158 109 (ix (f_X7_cell v168 e88_1)) ((rd v158 109 (ix (f_X7_cell v168 e88_1))) + e88_3)) 111 (ix (2 : Int32))) + e88_3.toInt64)) hK
                · refine j_iload (y := I_X7_pick) 0 dX7_pick_144 rfl ?_
                  refine j_goto (y := I_X7_pick) 150 dX7_pick_146 (by decide) ?_
                  refine j_istore (y := I_X7_pick) (ls' := [(6, .int v129), (4, .int (0 : Int32)), (0, .ref (w.2.1 + 108)), (1, .int e88_1), (2, .int e88_2), (3, .int e88_3), (5, .int e88_5)]) dX7_pick_150 (by decide) rfl ?_
                  refine j_aload_n (y := I_X7_pick) 2 dX7_pick_152 rfl rfl ?_
                  refine j_iload (y := I_X7_pick) 6 dX7_pick_153 rfl ?_
                  refine j_iload (y := I_X7_pick) 0 dX7_pick_155 rfl ?_
                  refine j_ineg (y := I_X7_pick) dX7_pick_157 ?_
                  refine j_callVvS (y := I_X7_pick) (As := [.int e88_5, .int (-v129)]) cv_7_165 ⟨Nat.le_of_ble_eq_true rfl, Nat.le_of_ble_eq_true rfl⟩ k_108 rfl (Nat.le_of_ble_eq_true rfl) dX7_pick_158 (c_X7_grow l w e88_5 (-v129) T88) (fun v158 h158 => ?_)
                  refine j_aload_n (y := I_X7_pick) 2 dX7_pick_161 rfl rfl ?_
                  refine j_getR (y := I_X7_pick) (j := 109) fl_7_7 k_108 rfl rfl dX7_pick_162 ?_
                  refine j_aload_n (y := I_X7_pick) 2 dX7_pick_165 rfl rfl ?_
                  refine j_iload (y := I_X7_pick) 6 dX7_pick_166 rfl ?_
                  refine j_callViR (y := I_X7_pick) (As := [.int e88_5]) cv_7_143 ⟨Nat.le_of_ble_eq_true rfl, Nat.le_of_ble_eq_true rfl⟩ k_108 rfl (Nat.le_of_ble_eq_true rfl) dX7_pick_168 (c_X7_sortOfPart l w e88_5 v158) (fun v168 h168 => ?_)
                  refine j_iload_n (y := I_X7_pick) 3 dX7_pick_171 rfl rfl ?_
                  refine j_callSiT (y := I_X7_pick) (As := [.int v168, .int e88_1]) cv_7_172 ⟨Nat.le_of_ble_eq_true rfl, Nat.le_of_ble_eq_true rfl⟩ rfl (Nat.le_of_ble_eq_true rfl) dX7_pick_172 (c_X7_cell l w v168 e88_1 v158) ?_
                  refine j_dup2 (y := I_X7_pick) dX7_pick_175 rfl rfl ?_
                  refine j_iald (y := I_X7_pick) k_109 dX7_pick_176 (fun h176 => ?_)
                  refine j_iload (y := I_X7_pick) 0 dX7_pick_177 rfl ?_
                  refine j_iadd (y := I_X7_pick) dX7_pick_179 ?_
                  refine j_iast (y := I_X7_pick) k_109 dX7_pick_180 (fun h180 => ?_)
                  refine j_iload_n (y := I_X7_pick) 4 dX7_pick_181 rfl rfl ?_
                  refine j_iload (y := I_X7_pick) 0 dX7_pick_182 rfl ?_
                  refine j_isub (y := I_X7_pick) dX7_pick_184 ?_
                  refine j_istore_n (y := I_X7_pick) (ls' := [(2, .int (e88_2 - v129)), (6, .int v129), (4, .int (0 : Int32)), (0, .ref (w.2.1 + 108)), (1, .int e88_1), (3, .int e88_3), (5, .int e88_5)]) dX7_pick_185 rfl (by decide) rfl ?_
                  refine j_iload_n (y := I_X7_pick) 5 dX7_pick_186 rfl rfl ?_
                  refine j_iload (y := I_X7_pick) 1 dX7_pick_187 rfl ?_
                  refine j_isub (y := I_X7_pick) dX7_pick_189 ?_
                  refine j_istore_n (y := I_X7_pick) (ls' := [(3, .int (e88_3 - v129)), (2, .int (e88_2 - v129)), (6, .int v129), (4, .int (0 : Int32)), (0, .ref (w.2.1 + 108)), (1, .int e88_1), (5, .int e88_5)]) dX7_pick_190 rfl (by decide) rfl ?_
                  refine j_aload_n (y := I_X7_pick) 4 dX7_pick_191 rfl rfl ?_
                  refine j_getR (y := I_X7_pick) (j := 111) fl_7_16 k_108 rfl rfl dX7_pick_192 ?_
                  refine j_iconst (y := I_X7_pick) (v := 2) dX7_pick_195 (by decide) ?_
                  refine j_dup2 (y := I_X7_pick) dX7_pick_196 rfl rfl ?_
                  refine j_laldL (y := I_X7_pick) k_111 (by decide) dX7_pick_197 ?_
                  refine j_iload (y := I_X7_pick) 2 dX7_pick_198 rfl ?_
                  refine j_i2l (y := I_X7_pick) dX7_pick_200 ?_
                  refine j_ladd (y := I_X7_pick) dX7_pick_201 ?_
                  refine j_lastL (y := I_X7_pick) k_111 (by decide) dX7_pick_202 ?_
                  refine j_goto (y := I_X7_pick) 21 dX7_pick_203 (by decide) ?_
                  refine j_sub [4, 5, 1, 0, 3] rfl ?_
                  exact ih e88_1 (e88_2 - v129) (e88_3 - v129) (0 : Int32) (wrL (wr v158 109 (ix (f_X7_cell v168 e88_1)) ((rd v158 109 (ix (f_X7_cell v168 e88_1))) + v129)) 111 (ix (2 : Int32)) ((rdL (wr v158 109 (ix (f_X7_cell v168 e88_1)) ((rd v158 109 (ix (f_X7_cell v168 e88_1))) + v129)) 111 (ix (2 : Int32))) + v129.toInt64)) hK
            · refine j_goto (y := I_X7_pick) 21 dX7_pick_113 (by decide) ?_
              refine j_sub [1, 2, 3, 4, 0] rfl ?_
              exact ih e88_1 e88_2 e88_3 (0 : Int32) T88 hK
          · refine j_iconst (y := I_X7_pick) (v := 1) dX7_pick_101 (by decide) ?_
            refine j_goto (y := I_X7_pick) 106 dX7_pick_102 (by decide) ?_
            refine j_istore (y := I_X7_pick) (ls' := [(4, .int (1 : Int32)), (0, .ref (w.2.1 + 108)), (1, .int e88_1), (2, .int e88_2), (3, .int e88_3), (5, .int e88_5)]) dX7_pick_106 (by decide) rfl ?_
            refine j_iload (y := I_X7_pick) 0 dX7_pick_108 rfl ?_
            refine j_if_ne (y := I_X7_pick) 116 dX7_pick_110 (by decide) (fun h110 => ?_) (fun h110 => ?_)
            · refine j_aload_n (y := I_X7_pick) 1 dX7_pick_116 rfl rfl ?_
              refine j_iload (y := I_X7_pick) 5 dX7_pick_117 rfl ?_
              refine j_callViR (y := I_X7_pick) (As := [.int e88_5]) cv_7_162 ⟨Nat.le_of_ble_eq_true rfl, Nat.le_of_ble_eq_true rfl⟩ k_108 rfl (Nat.le_of_ble_eq_true rfl) dX7_pick_119 (c_X7_fruitsOf l w e88_5 T88) (fun v119 h119 => ?_)
              refine j_iload_n (y := I_X7_pick) 3 dX7_pick_122 rfl rfl ?_
              refine j_icmp_ge (y := I_X7_pick) 135 dX7_pick_123 (by decide) (fun h123 => ?_) (fun h123 => ?_)
              · refine j_iload_n (y := I_X7_pick) 3 dX7_pick_135 rfl rfl ?_
                refine j_istore (y := I_X7_pick) (ls' := [(6, .int e88_2), (4, .int (1 : Int32)), (0, .ref (w.2.1 + 108)), (1, .int e88_1), (2, .int e88_2), (3, .int e88_3), (5, .int e88_5)]) dX7_pick_136 (by decide) rfl ?_
                refine j_iload (y := I_X7_pick) 0 dX7_pick_138 rfl ?_
                refine j_iload_n (y := I_X7_pick) 5 dX7_pick_140 rfl rfl ?_
                refine j_icmp_ge (y := I_X7_pick) 149 dX7_pick_141 (by decide) (fun h141 => ?_) (fun h141 => ?_)
                · refine j_iload_n (y := I_X7_pick) 5 dX7_pick_149 rfl rfl ?_
                  refine j_istore (y := I_X7_pick) (ls' := [(6, .int e88_3), (4, .int (1 : Int32)), (0, .ref (w.2.1 + 108)), (1, .int e88_1), (2, .int e88_2), (3, .int e88_3), (5, .int e88_5)]) dX7_pick_150 (by decide) rfl ?_
                  refine j_aload_n (y := I_X7_pick) 2 dX7_pick_152 rfl rfl ?_
                  refine j_iload (y := I_X7_pick) 6 dX7_pick_153 rfl ?_
                  refine j_iload (y := I_X7_pick) 0 dX7_pick_155 rfl ?_
                  refine j_ineg (y := I_X7_pick) dX7_pick_157 ?_
                  refine j_callVvS (y := I_X7_pick) (As := [.int e88_5, .int (-e88_3)]) cv_7_165 ⟨Nat.le_of_ble_eq_true rfl, Nat.le_of_ble_eq_true rfl⟩ k_108 rfl (Nat.le_of_ble_eq_true rfl) dX7_pick_158 (c_X7_grow l w e88_5 (-e88_3) T88) (fun v158 h158 => ?_)
                  refine j_aload_n (y := I_X7_pick) 2 dX7_pick_161 rfl rfl ?_
                  refine j_getR (y := I_X7_pick) (j := 109) fl_7_7 k_108 rfl rfl dX7_pick_162 ?_
                  refine j_aload_n (y := I_X7_pick) 2 dX7_pick_165 rfl rfl ?_
                  refine j_iload (y := I_X7_pick) 6 dX7_pick_166 rfl ?_
                  refine j_callViR (y := I_X7_pick) (As := [.int e88_5]) cv_7_143 ⟨Nat.le_of_ble_eq_true rfl, Nat.le_of_ble_eq_true rfl⟩ k_108 rfl (Nat.le_of_ble_eq_true rfl) dX7_pick_168 (c_X7_sortOfPart l w e88_5 v158) (fun v168 h168 => ?_)
                  refine j_iload_n (y := I_X7_pick) 3 dX7_pick_171 rfl rfl ?_
                  refine j_callSiT (y := I_X7_pick) (As := [.int v168, .int e88_1]) cv_7_172 ⟨Nat.le_of_ble_eq_true rfl, Nat.le_of_ble_eq_true rfl⟩ rfl (Nat.le_of_ble_eq_true rfl) dX7_pick_172 (c_X7_cell l w v168 e88_1 v158) ?_
                  refine j_dup2 (y := I_X7_pick) dX7_pick_175 rfl rfl ?_
                  refine j_iald (y := I_X7_pick) k_109 dX7_pick_176 (fun h176 => ?_)
                  refine j_iload (y := I_X7_pick) 0 dX7_pick_177 rfl ?_
                  refine j_iadd (y := I_X7_pick) dX7_pick_179 ?_
                  refine j_iast (y := I_X7_pick) k_109 dX7_pick_180 (fun h180 => ?_)
                  refine j_iload_n (y := I_X7_pick) 4 dX7_pick_181 rfl rfl ?_
                  refine j_iload (y := I_X7_pick) 0 dX7_pick_182 rfl ?_
                  refine j_isub (y := I_X7_pick) dX7_pick_184 ?_
                  refine j_istore_n (y := I_X7_pick) (ls' := [(2, .int (e88_2 - e88_3)), (6, .int e88_3), (4, .int (1 : Int32)), (0, .ref (w.2.1 + 108)), (1, .int e88_1), (3, .int e88_3), (5, .int e88_5)]) dX7_pick_185 rfl (by decide) rfl ?_
                  refine j_iload_n (y := I_X7_pick) 5 dX7_pick_186 rfl rfl ?_
                  refine j_iload (y := I_X7_pick) 1 dX7_pick_187 rfl ?_
                  refine j_isub (y := I_X7_pick) dX7_pick_189 ?_
                  refine j_istore_n (y := I_X7_pick) (ls' := [(3, .int (e88_3 - e88_3)), (2, .int (e88_2 - e88_3)), (6, .int e88_3), (4, .int (1 : Int32)), (0, .ref (w.2.1 + 108)), (1, .int e88_1), (5, .int e88_5)]) dX7_pick_190 rfl (by decide) rfl ?_
                  refine j_aload_n (y := I_X7_pick) 4 dX7_pick_191 rfl rfl ?_
                  refine j_getR (y := I_X7_pick) (j := 111) fl_7_16 k_108 rfl rfl dX7_pick_192 ?_
                  refine j_iconst (y := I_X7_pick) (v := 2) dX7_pick_195 (by decide) ?_
                  refine j_dup2 (y := I_X7_pick) dX7_pick_196 rfl rfl ?_
                  refine j_laldL (y := I_X7_pick) k_111 (by decide) dX7_pick_197 ?_
                  refine j_iload (y := I_X7_pick) 2 dX7_pick_198 rfl ?_
                  refine j_i2l (y := I_X7_pick) dX7_pick_200 ?_
                  refine j_ladd (y := I_X7_pick) dX7_pick_201 ?_
                  refine j_lastL (y := I_X7_pick) k_111 (by decide) dX7_pick_202 ?_
                  refine j_goto (y := I_X7_pick) 21 dX7_pick_203 (by decide) ?_
                  refine j_sub [4, 5, 1, 0, 3] rfl ?_
                  exact ih e88_1 (e88_2 - e88_3) (e88_3 - e88_3) (1 : Int32) (wrL (wr v158 109 (ix (f_X7_cell v168 e88_1)) ((rd v158 109 (ix (f_X7_cell v168 e88_1))) + e88_3)) 111 (ix (2 : Int32)) ((rdL (wr v158 109 (ix (f_X7_cell v168 e88_1)) ((rd v158 109 (ix (f_X7_cell v168 e88_1))) + e88_3)) 111 (ix (2 : Int32))) + e88_3.toInt64)) hK
                · refine j_iload (y := I_X7_pick) 0 dX7_pick_144 rfl ?_
                  refine j_goto (y := I_X7_pick) 150 dX7_pick_146 (by decide) ?_
                  refine j_istore (y := I_X7_pick) (ls' := [(6, .int e88_2), (4, .int (1 : Int32)), (0, .ref (w.2.1 + 108)), (1, .int e88_1), (2, .int e88_2), (3, .int e88_3), (5, .int e88_5)]) dX7_pick_150 (by decide) rfl ?_
                  refine j_aload_n (y := I_X7_pick) 2 dX7_pick_152 rfl rfl ?_
                  refine j_iload (y := I_X7_pick) 6 dX7_pick_153 rfl ?_
                  refine j_iload (y := I_X7_pick) 0 dX7_pick_155 rfl ?_
                  refine j_ineg (y := I_X7_pick) dX7_pick_157 ?_
                  refine j_callVvS (y := I_X7_pick) (As := [.int e88_5, .int (-e88_2)]) cv_7_165 ⟨Nat.le_of_ble_eq_true rfl, Nat.le_of_ble_eq_true rfl⟩ k_108 rfl (Nat.le_of_ble_eq_true rfl) dX7_pick_158 (c_X7_grow l w e88_5 (-e88_2) T88) (fun v158 h158 => ?_)
                  refine j_aload_n (y := I_X7_pick) 2 dX7_pick_161 rfl rfl ?_
                  refine j_getR (y := I_X7_pick) (j := 109) fl_7_7 k_108 rfl rfl dX7_pick_162 ?_
                  refine j_aload_n (y := I_X7_pick) 2 dX7_pick_165 rfl rfl ?_
                  refine j_iload (y := I_X7_pick) 6 dX7_pick_166 rfl ?_
                  refine j_callViR (y := I_X7_pick) (As := [.int e88_5]) cv_7_143 ⟨Nat.le_of_ble_eq_true rfl, Nat.le_of_ble_eq_true rfl⟩ k_108 rfl (Nat.le_of_ble_eq_true rfl) dX7_pick_168 (c_X7_sortOfPart l w e88_5 v158) (fun v168 h168 => ?_)
                  refine j_iload_n (y := I_X7_pick) 3 dX7_pick_171 rfl rfl ?_
                  refine j_callSiT (y := I_X7_pick) (As := [.int v168, .int e88_1]) cv_7_172 ⟨Nat.le_of_ble_eq_true rfl, Nat.le_of_ble_eq_true rfl⟩ rfl (Nat.le_of_ble_eq_true rfl) dX7_pick_172 (c_X7_cell l w v168 e88_1 v158) ?_
                  refine j_dup2 (y := I_X7_pick) dX7_pick_175 rfl rfl ?_
                  refine j_iald (y := I_X7_pick) k_109 dX7_pick_176 (fun h176 => ?_)
                  refine j_iload (y := I_X7_pick) 0 dX7_pick_177 rfl ?_
                  refine j_iadd (y := I_X7_pick) dX7_pick_179 ?_
                  refine j_iast (y := I_X7_pick) k_109 dX7_pick_180 (fun h180 => ?_)
                  refine j_iload_n (y := I_X7_pick) 4 dX7_pick_181 rfl rfl ?_
                  refine j_iload (y := I_X7_pick) 0 dX7_pick_182 rfl ?_
                  refine j_isub (y := I_X7_pick) dX7_pick_184 ?_
                  refine j_istore_n (y := I_X7_pick) (ls' := [(2, .int (e88_2 - e88_2)), (6, .int e88_2), (4, .int (1 : Int32)), (0, .ref (w.2.1 + 108)), (1, .int e88_1), (3, .int e88_3), (5, .int e88_5)]) dX7_pick_185 rfl (by decide) rfl ?_
                  refine j_iload_n (y := I_X7_pick) 5 dX7_pick_186 rfl rfl ?_
                  refine j_iload (y := I_X7_pick) 1 dX7_pick_187 rfl ?_
                  refine j_isub (y := I_X7_pick) dX7_pick_189 ?_
                  refine j_istore_n (y := I_X7_pick) (ls' := [(3, .int (e88_3 - e88_2)), (2, .int (e88_2 - e88_2)), (6, .int e88_2), (4, .int (1 : Int32)), (0, .ref (w.2.1 + 108)), (1, .int e88_1), (5, .int e88_5)]) dX7_pick_190 rfl (by decide) rfl ?_
                  refine j_aload_n (y := I_X7_pick) 4 dX7_pick_191 rfl rfl ?_
                  refine j_getR (y := I_X7_pick) (j := 111) fl_7_16 k_108 rfl rfl dX7_pick_192 ?_
                  refine j_iconst (y := I_X7_pick) (v := 2) dX7_pick_195 (by decide) ?_
                  refine j_dup2 (y := I_X7_pick) dX7_pick_196 rfl rfl ?_
                  refine j_laldL (y := I_X7_pick) k_111 (by decide) dX7_pick_197 ?_
                  refine j_iload (y := I_X7_pick) 2 dX7_pick_198 rfl ?_
                  refine j_i2l (y := I_X7_pick) dX7_pick_200 ?_
                  refine j_ladd (y := I_X7_pick) dX7_pick_201 ?_
                  refine j_lastL (y := I_X7_pick) k_111 (by decide) dX7_pick_202 ?_
                  refine j_goto (y := I_X7_pick) 21 dX7_pick_203 (by decide) ?_
                  refine j_sub [4, 5, 1, 0, 3] rfl ?_
                  exact ih e88_1 (e88_2 - e88_2) (e88_3 - e88_2) (1 : Int32) (wrL (wr v158 109 (ix (f_X7_cell v168 e88_1)) ((rd v158 109 (ix (f_X7_cell v168 e88_1))) + e88_2)) 111 (ix (2 : Int32)) ((rdL (wr v158 109 (ix (f_X7_cell v168 e88_1)) ((rd v158 109 (ix (f_X7_cell v168 e88_1))) + e88_2)) 111 (ix (2 : Int32))) + e88_2.toInt64)) hK
              · refine j_aload_n (y := I_X7_pick) 1 dX7_pick_126 rfl rfl ?_
                refine j_iload (y := I_X7_pick) 5 dX7_pick_127 rfl ?_
                refine j_callViR (y := I_X7_pick) (As := [.int e88_5]) cv_7_162 ⟨Nat.le_of_ble_eq_true rfl, Nat.le_of_ble_eq_true rfl⟩ k_108 rfl (Nat.le_of_ble_eq_true rfl) dX7_pick_129 (c_X7_fruitsOf l w e88_5 T88) (fun v129 h129 => ?_)
                refine j_goto (y := I_X7_pick) 136 dX7_pick_132 (by decide) ?_
                refine j_istore (y := I_X7_pick) (ls' := [(6, .int v129), (4, .int (1 : Int32)), (0, .ref (w.2.1 + 108)), (1, .int e88_1), (2, .int e88_2), (3, .int e88_3), (5, .int e88_5)]) dX7_pick_136 (by decide) rfl ?_
                refine j_iload (y := I_X7_pick) 0 dX7_pick_138 rfl ?_
                refine j_iload_n (y := I_X7_pick) 5 dX7_pick_140 rfl rfl ?_
                refine j_icmp_ge (y := I_X7_pick) 149 dX7_pick_141 (by decide) (fun h141 => ?_) (fun h141 => ?_)
                · refine j_iload_n (y := I_X7_pick) 5 dX7_pick_149 rfl rfl ?_
                  refine j_istore (y := I_X7_pick) (ls' := [(6, .int e88_3), (4, .int (1 : Int32)), (0, .ref (w.2.1 + 108)), (1, .int e88_1), (2, .int e88_2), (3, .int e88_3), (5, .int e88_5)]) dX7_pick_150 (by decide) rfl ?_
                  refine j_aload_n (y := I_X7_pick) 2 dX7_pick_152 rfl rfl ?_
                  refine j_iload (y := I_X7_pick) 6 dX7_pick_153 rfl ?_
                  refine j_iload (y := I_X7_pick) 0 dX7_pick_155 rfl ?_
                  refine j_ineg (y := I_X7_pick) dX7_pick_157 ?_
                  refine j_callVvS (y := I_X7_pick) (As := [.int e88_5, .int (-e88_3)]) cv_7_165 ⟨Nat.le_of_ble_eq_true rfl, Nat.le_of_ble_eq_true rfl⟩ k_108 rfl (Nat.le_of_ble_eq_true rfl) dX7_pick_158 (c_X7_grow l w e88_5 (-e88_3) T88) (fun v158 h158 => ?_)
                  refine j_aload_n (y := I_X7_pick) 2 dX7_pick_161 rfl rfl ?_
                  refine j_getR (y := I_X7_pick) (j := 109) fl_7_7 k_108 rfl rfl dX7_pick_162 ?_
                  refine j_aload_n (y := I_X7_pick) 2 dX7_pick_165 rfl rfl ?_
                  refine j_iload (y := I_X7_pick) 6 dX7_pick_166 rfl ?_
                  refine j_callViR (y := I_X7_pick) (As := [.int e88_5]) cv_7_143 ⟨Nat.le_of_ble_eq_true rfl, Nat.le_of_ble_eq_true rfl⟩ k_108 rfl (Nat.le_of_ble_eq_true rfl) dX7_pick_168 (c_X7_sortOfPart l w e88_5 v158) (fun v168 h168 => ?_)
                  refine j_iload_n (y := I_X7_pick) 3 dX7_pick_171 rfl rfl ?_
                  refine j_callSiT (y := I_X7_pick) (As := [.int v168, .int e88_1]) cv_7_172 ⟨Nat.le_of_ble_eq_true rfl, Nat.le_of_ble_eq_true rfl⟩ rfl (Nat.le_of_ble_eq_true rfl) dX7_pick_172 (c_X7_cell l w v168 e88_1 v158) ?_
                  refine j_dup2 (y := I_X7_pick) dX7_pick_175 rfl rfl ?_
                  refine j_iald (y := I_X7_pick) k_109 dX7_pick_176 (fun h176 => ?_)
                  refine j_iload (y := I_X7_pick) 0 dX7_pick_177 rfl ?_
                  refine j_iadd (y := I_X7_pick) dX7_pick_179 ?_
                  refine j_iast (y := I_X7_pick) k_109 dX7_pick_180 (fun h180 => ?_)
                  refine j_iload_n (y := I_X7_pick) 4 dX7_pick_181 rfl rfl ?_
                  refine j_iload (y := I_X7_pick) 0 dX7_pick_182 rfl ?_
                  refine j_isub (y := I_X7_pick) dX7_pick_184 ?_
                  refine j_istore_n (y := I_X7_pick) (ls' := [(2, .int (e88_2 - e88_3)), (6, .int e88_3), (4, .int (1 : Int32)), (0, .ref (w.2.1 + 108)), (1, .int e88_1), (3, .int e88_3), (5, .int e88_5)]) dX7_pick_185 rfl (by decide) rfl ?_
                  refine j_iload_n (y := I_X7_pick) 5 dX7_pick_186 rfl rfl ?_
                  refine j_iload (y := I_X7_pick) 1 dX7_pick_187 rfl ?_
                  refine j_isub (y := I_X7_pick) dX7_pick_189 ?_
                  refine j_istore_n (y := I_X7_pick) (ls' := [(3, .int (e88_3 - e88_3)), (2, .int (e88_2 - e88_3)), (6, .int e88_3), (4, .int (1 : Int32)), (0, .ref (w.2.1 + 108)), (1, .int e88_1), (5, .int e88_5)]) dX7_pick_190 rfl (by decide) rfl ?_
                  refine j_aload_n (y := I_X7_pick) 4 dX7_pick_191 rfl rfl ?_
                  refine j_getR (y := I_X7_pick) (j := 111) fl_7_16 k_108 rfl rfl dX7_pick_192 ?_
                  refine j_iconst (y := I_X7_pick) (v := 2) dX7_pick_195 (by decide) ?_
                  refine j_dup2 (y := I_X7_pick) dX7_pick_196 rfl rfl ?_
                  refine j_laldL (y := I_X7_pick) k_111 (by decide) dX7_pick_197 ?_
                  refine j_iload (y := I_X7_pick) 2 dX7_pick_198 rfl ?_
                  refine j_i2l (y := I_X7_pick) dX7_pick_200 ?_
                  refine j_ladd (y := I_X7_pick) dX7_pick_201 ?_
                  refine j_lastL (y := I_X7_pick) k_111 (by decide) dX7_pick_202 ?_
                  refine j_goto (y := I_X7_pick) 21 dX7_pick_203 (by decide) ?_
                  refine j_sub [4, 5, 1, 0, 3] rfl ?_
                  exact ih e88_1 (e88_2 - e88_3) (e88_3 - e88_3) (1 : Int32) (wrL (wr v158 109 (ix (f_X7_cell v168 e88_1)) ((rd v158 109 (ix (f_X7_cell v168 e88_1))) + e88_3)) 111 (ix (2 : Int32)) ((rdL (wr v158 109 (ix (f_X7_cell v168 e88_1)) ((rd v158 109 (ix (f_X7_cell v168 e88_1))) + e88_3)) 111 (ix (2 : Int32))) + e88_3.toInt64)) hK
                · refine j_iload (y := I_X7_pick) 0 dX7_pick_144 rfl ?_
                  refine j_goto (y := I_X7_pick) 150 dX7_pick_146 (by decide) ?_
                  refine j_istore (y := I_X7_pick) (ls' := [(6, .int v129), (4, .int (1 : Int32)), (0, .ref (w.2.1 + 108)), (1, .int e88_1), (2, .int e88_2), (3, .int e88_3), (5, .int e88_5)]) dX7_pick_150 (by decide) rfl ?_
                  refine j_aload_n (y := I_X7_pick) 2 dX7_pick_152 rfl rfl ?_
                  refine j_iload (y := I_X7_pick) 6 dX7_pick_153 rfl ?_
                  refine j_iload (y := I_X7_pick) 0 dX7_pick_155 rfl ?_
                  refine j_ineg (y := I_X7_pick) dX7_pick_157 ?_
                  refine j_callVvS (y := I_X7_pick) (As := [.int e88_5, .int (-v129)]) cv_7_165 ⟨Nat.le_of_ble_eq_true rfl, Nat.le_of_ble_eq_true rfl⟩ k_108 rfl (Nat.le_of_ble_eq_true rfl) dX7_pick_158 (c_X7_grow l w e88_5 (-v129) T88) (fun v158 h158 => ?_)
                  refine j_aload_n (y := I_X7_pick) 2 dX7_pick_161 rfl rfl ?_
                  refine j_getR (y := I_X7_pick) (j := 109) fl_7_7 k_108 rfl rfl dX7_pick_162 ?_
                  refine j_aload_n (y := I_X7_pick) 2 dX7_pick_165 rfl rfl ?_
                  refine j_iload (y := I_X7_pick) 6 dX7_pick_166 rfl ?_
                  refine j_callViR (y := I_X7_pick) (As := [.int e88_5]) cv_7_143 ⟨Nat.le_of_ble_eq_true rfl, Nat.le_of_ble_eq_true rfl⟩ k_108 rfl (Nat.le_of_ble_eq_true rfl) dX7_pick_168 (c_X7_sortOfPart l w e88_5 v158) (fun v168 h168 => ?_)
                  refine j_iload_n (y := I_X7_pick) 3 dX7_pick_171 rfl rfl ?_
                  refine j_callSiT (y := I_X7_pick) (As := [.int v168, .int e88_1]) cv_7_172 ⟨Nat.le_of_ble_eq_true rfl, Nat.le_of_ble_eq_true rfl⟩ rfl (Nat.le_of_ble_eq_true rfl) dX7_pick_172 (c_X7_cell l w v168 e88_1 v158) ?_
                  refine j_dup2 (y := I_X7_pick) dX7_pick_175 rfl rfl ?_
                  refine j_iald (y := I_X7_pick) k_109 dX7_pick_176 (fun h176 => ?_)
                  refine j_iload (y := I_X7_pick) 0 dX7_pick_177 rfl ?_
                  refine j_iadd (y := I_X7_pick) dX7_pick_179 ?_
                  refine j_iast (y := I_X7_pick) k_109 dX7_pick_180 (fun h180 => ?_)
                  refine j_iload_n (y := I_X7_pick) 4 dX7_pick_181 rfl rfl ?_
                  refine j_iload (y := I_X7_pick) 0 dX7_pick_182 rfl ?_
                  refine j_isub (y := I_X7_pick) dX7_pick_184 ?_
                  refine j_istore_n (y := I_X7_pick) (ls' := [(2, .int (e88_2 - v129)), (6, .int v129), (4, .int (1 : Int32)), (0, .ref (w.2.1 + 108)), (1, .int e88_1), (3, .int e88_3), (5, .int e88_5)]) dX7_pick_185 rfl (by decide) rfl ?_
                  refine j_iload_n (y := I_X7_pick) 5 dX7_pick_186 rfl rfl ?_
                  refine j_iload (y := I_X7_pick) 1 dX7_pick_187 rfl ?_
                  refine j_isub (y := I_X7_pick) dX7_pick_189 ?_
                  refine j_istore_n (y := I_X7_pick) (ls' := [(3, .int (e88_3 - v129)), (2, .int (e88_2 - v129)), (6, .int v129), (4, .int (1 : Int32)), (0, .ref (w.2.1 + 108)), (1, .int e88_1), (5, .int e88_5)]) dX7_pick_190 rfl (by decide) rfl ?_
                  refine j_aload_n (y := I_X7_pick) 4 dX7_pick_191 rfl rfl ?_
                  refine j_getR (y := I_X7_pick) (j := 111) fl_7_16 k_108 rfl rfl dX7_pick_192 ?_
                  refine j_iconst (y := I_X7_pick) (v := 2) dX7_pick_195 (by decide) ?_
                  refine j_dup2 (y := I_X7_pick) dX7_pick_196 rfl rfl ?_
                  refine j_laldL (y := I_X7_pick) k_111 (by decide) dX7_pick_197 ?_
                  refine j_iload (y := I_X7_pick) 2 dX7_pick_198 rfl ?_
                  refine j_i2l (y := I_X7_pick) dX7_pick_200 ?_
                  refine j_ladd (y := I_X7_pick) dX7_pick_201 ?_
                  refine j_lastL (y := I_X7_pick) k_111 (by decide) dX7_pick_202 ?_
                  refine j_goto (y := I_X7_pick) 21 dX7_pick_203 (by decide) ?_
                  refine j_sub [4, 5, 1, 0, 3] rfl ?_
                  exact ih e88_1 (e88_2 - v129) (e88_3 - v129) (1 : Int32) (wrL (wr v158 109 (ix (f_X7_cell v168 e88_1)) ((rd v158 109 (ix (f_X7_cell v168 e88_1))) + v129)) 111 (ix (2 : Int32)) ((rdL (wr v158 109 (ix (f_X7_cell v168 e88_1)) ((rd v158 109 (ix (f_X7_cell v168 e88_1))) + v129)) 111 (ix (2 : Int32))) + v129.toInt64)) hK
            · refine j_goto (y := I_X7_pick) 21 dX7_pick_113 (by decide) ?_
              refine j_sub [1, 2, 3, 4, 0] rfl ?_
              exact ih e88_1 e88_2 e88_3 (1 : Int32) T88 hK
set_option maxRecDepth 100000 in
set_option maxHeartbeats 4000000 in
theorem m_X7_pick (l : Launch) (w : Wd) (x1 : Int32) (S : St)  : J l w I_X7_pick 0 [(0, .ref (w.2.1 + 108)), (1, .int x1)] [] S (fun b => (none, b)) (f_X7_pick x1 S) := by
  unfold f_X7_pick
  refine j_aload_n (y := I_X7_pick) 0 dX7_pick_0 rfl rfl ?_
  refine j_getR (y := I_X7_pick) (j := 109) fl_7_7 k_108 rfl rfl dX7_pick_1 ?_
  refine j_sipush (y := I_X7_pick) (v := 787) dX7_pick_4 (by decide) ?_
  refine j_ialdL (y := I_X7_pick) k_109 (by decide) dX7_pick_7 ?_
  refine j_istore_n (y := I_X7_pick) (ls' := [(2, .int (rd S 109 (ix (787 : Int32)))), (0, .ref (w.2.1 + 108)), (1, .int x1)]) dX7_pick_8 rfl (by decide) rfl ?_
  refine j_sipush (y := I_X7_pick) (v := 1000) dX7_pick_9 (by decide) ?_
  refine j_aload_n (y := I_X7_pick) 1 dX7_pick_12 rfl rfl ?_
  refine j_callViR (y := I_X7_pick) (As := []) cv_7_188 ⟨Nat.le_of_ble_eq_true rfl, Nat.le_of_ble_eq_true rfl⟩ k_108 rfl (Nat.le_of_ble_eq_true rfl) dX7_pick_13 (c_X7_inAll l w S) (fun v13 h13 => ?_)
  refine j_isub (y := I_X7_pick) dX7_pick_16 ?_
  refine j_istore_n (y := I_X7_pick) (ls' := [(3, .int ((1000 : Int32) - v13)), (2, .int (rd S 109 (ix (787 : Int32)))), (0, .ref (w.2.1 + 108)), (1, .int x1)]) dX7_pick_17 rfl (by decide) rfl ?_
  refine j_iconst (y := I_X7_pick) (v := 1) dX7_pick_18 (by decide) ?_
  refine j_istore (y := I_X7_pick) (ls' := [(4, .int (1 : Int32)), (3, .int ((1000 : Int32) - v13)), (2, .int (rd S 109 (ix (787 : Int32)))), (0, .ref (w.2.1 + 108)), (1, .int x1)]) dX7_pick_19 (by decide) rfl ?_
  refine j_sub [3, 4, 2, 1, 0] rfl ?_
  refine jl_X7_pick_21 l w _ 6000 x1 (rd S 109 (ix (787 : Int32))) ((1000 : Int32) - v13) (1 : Int32) S  (fun T206 => ?_)
  exact j_vret (y := I_X7_pick) rfl dX7_pick_206 rfl
theorem c_X7_pick (l : Launch) (w : Wd) (x1 : Int32) (S : St)  : ∀ v, f_X7_pick x1 S = some v → CtS l w I_X7_pick [.ref (w.2.1 + 108), .int x1] S v none := fun v h => J.ct (av := [.ref (w.2.1 + 108), .int x1]) (Nat.le_of_ble_eq_true rfl) pn_7 (m_X7_pick l w x1 S ) h
abbrev I_X7_ends : MI := (yX7_ends, cX7_ends, 2, none, { frames := 2, cells := 0, slots := 0, locals := 43 })
theorem dX7_ends_0 : decode cX7_ends 0 = .ok (.iconst 0, 1) := by decide +kernel
theorem dX7_ends_1 : decode cX7_ends 1 = .ok (.istore_n 1, 1) := by decide +kernel
theorem dX7_ends_2 : decode cX7_ends 2 = .ok (.iload_n 1, 1) := by decide +kernel
theorem dX7_ends_3 : decode cX7_ends 3 = .ok (.bipush 12, 2) := by decide +kernel
theorem dX7_ends_5 : decode cX7_ends 5 = .ok (.if_icmp .ge 156, 3) := by decide +kernel
theorem dX7_ends_8 : decode cX7_ends 8 = .ok (.aload_n 0, 1) := by decide +kernel
theorem dX7_ends_9 : decode cX7_ends 9 = .ok (.iload_n 1, 1) := by decide +kernel
theorem dX7_ends_10 : decode cX7_ends 10 = .ok (.iconst 2, 1) := by decide +kernel
theorem dX7_ends_11 : decode cX7_ends 11 = .ok (.invokevirtual 68, 3) := by decide +kernel
theorem dX7_ends_14 : decode cX7_ends 14 = .ok (.iconst 5, 1) := by decide +kernel
theorem dX7_ends_15 : decode cX7_ends 15 = .ok (.if_icmp .ne 36, 3) := by decide +kernel
theorem dX7_ends_18 : decode cX7_ends 18 = .ok (.aload_n 0, 1) := by decide +kernel
theorem dX7_ends_19 : decode cX7_ends 19 = .ok (.iload_n 1, 1) := by decide +kernel
theorem dX7_ends_20 : decode cX7_ends 20 = .ok (.iconst 3, 1) := by decide +kernel
theorem dX7_ends_21 : decode cX7_ends 21 = .ok (.aload_n 0, 1) := by decide +kernel
theorem dX7_ends_22 : decode cX7_ends 22 = .ok (.iload_n 1, 1) := by decide +kernel
theorem dX7_ends_23 : decode cX7_ends 23 = .ok (.iconst 3, 1) := by decide +kernel
theorem dX7_ends_24 : decode cX7_ends 24 = .ok (.invokevirtual 68, 3) := by decide +kernel
theorem dX7_ends_27 : decode cX7_ends 27 = .ok (.iconst 1, 1) := by decide +kernel
theorem dX7_ends_28 : decode cX7_ends 28 = .ok (.isub, 1) := by decide +kernel
theorem dX7_ends_29 : decode cX7_ends 29 = .ok (.invokevirtual 91, 3) := by decide +kernel
theorem dX7_ends_32 : decode cX7_ends 32 = .ok (.aload_n 0, 1) := by decide +kernel
theorem dX7_ends_33 : decode cX7_ends 33 = .ok (.iload_n 1, 1) := by decide +kernel
theorem dX7_ends_34 : decode cX7_ends 34 = .ok (.iconst 3, 1) := by decide +kernel
theorem dX7_ends_35 : decode cX7_ends 35 = .ok (.invokevirtual 68, 3) := by decide +kernel
theorem dX7_ends_38 : decode cX7_ends 38 = .ok (.ifCond .ne 117, 3) := by decide +kernel
theorem dX7_ends_41 : decode cX7_ends 41 = .ok (.aload_n 0, 1) := by decide +kernel
theorem dX7_ends_42 : decode cX7_ends 42 = .ok (.iload_n 1, 1) := by decide +kernel
theorem dX7_ends_43 : decode cX7_ends 43 = .ok (.iconst 2, 1) := by decide +kernel
theorem dX7_ends_44 : decode cX7_ends 44 = .ok (.iconst 0, 1) := by decide +kernel
theorem dX7_ends_45 : decode cX7_ends 45 = .ok (.invokevirtual 91, 3) := by decide +kernel
theorem dX7_ends_48 : decode cX7_ends 48 = .ok (.goto 107, 3) := by decide +kernel
theorem dX7_ends_51 : decode cX7_ends 51 = .ok (.aload_n 0, 1) := by decide +kernel
theorem dX7_ends_52 : decode cX7_ends 52 = .ok (.iload_n 1, 1) := by decide +kernel
theorem dX7_ends_53 : decode cX7_ends 53 = .ok (.invokevirtual 137, 3) := by decide +kernel
theorem dX7_ends_56 : decode cX7_ends 56 = .ok (.ifCond .eq 99, 3) := by decide +kernel
theorem dX7_ends_59 : decode cX7_ends 59 = .ok (.aload_n 0, 1) := by decide +kernel
theorem dX7_ends_60 : decode cX7_ends 60 = .ok (.getfield 16, 3) := by decide +kernel
theorem dX7_ends_63 : decode cX7_ends 63 = .ok (.iconst 4, 1) := by decide +kernel
theorem dX7_ends_64 : decode cX7_ends 64 = .ok (.dup2, 1) := by decide +kernel
theorem dX7_ends_65 : decode cX7_ends 65 = .ok (.laload, 1) := by decide +kernel
theorem dX7_ends_66 : decode cX7_ends 66 = .ok (.aload_n 0, 1) := by decide +kernel
theorem dX7_ends_67 : decode cX7_ends 67 = .ok (.iload_n 1, 1) := by decide +kernel
theorem dX7_ends_68 : decode cX7_ends 68 = .ok (.bipush 8, 2) := by decide +kernel
theorem dX7_ends_70 : decode cX7_ends 70 = .ok (.invokevirtual 68, 3) := by decide +kernel
theorem dX7_ends_73 : decode cX7_ends 73 = .ok (.aload_n 0, 1) := by decide +kernel
theorem dX7_ends_74 : decode cX7_ends 74 = .ok (.iload_n 1, 1) := by decide +kernel
theorem dX7_ends_75 : decode cX7_ends 75 = .ok (.bipush 9, 2) := by decide +kernel
theorem dX7_ends_77 : decode cX7_ends 77 = .ok (.invokevirtual 68, 3) := by decide +kernel
theorem dX7_ends_80 : decode cX7_ends 80 = .ok (.iadd, 1) := by decide +kernel
theorem dX7_ends_81 : decode cX7_ends 81 = .ok (.i2l, 1) := by decide +kernel
theorem dX7_ends_82 : decode cX7_ends 82 = .ok (.ladd, 1) := by decide +kernel
theorem dX7_ends_83 : decode cX7_ends 83 = .ok (.lastore, 1) := by decide +kernel
theorem dX7_ends_84 : decode cX7_ends 84 = .ok (.aload_n 0, 1) := by decide +kernel
theorem dX7_ends_85 : decode cX7_ends 85 = .ok (.iload_n 1, 1) := by decide +kernel
theorem dX7_ends_86 : decode cX7_ends 86 = .ok (.bipush 8, 2) := by decide +kernel
theorem dX7_ends_88 : decode cX7_ends 88 = .ok (.iconst 0, 1) := by decide +kernel
theorem dX7_ends_89 : decode cX7_ends 89 = .ok (.invokevirtual 91, 3) := by decide +kernel
theorem dX7_ends_92 : decode cX7_ends 92 = .ok (.aload_n 0, 1) := by decide +kernel
theorem dX7_ends_93 : decode cX7_ends 93 = .ok (.iload_n 1, 1) := by decide +kernel
theorem dX7_ends_94 : decode cX7_ends 94 = .ok (.bipush 9, 2) := by decide +kernel
theorem dX7_ends_96 : decode cX7_ends 96 = .ok (.iconst 0, 1) := by decide +kernel
theorem dX7_ends_97 : decode cX7_ends 97 = .ok (.invokevirtual 91, 3) := by decide +kernel
theorem dX7_ends_100 : decode cX7_ends 100 = .ok (.aload_n 0, 1) := by decide +kernel
theorem dX7_ends_101 : decode cX7_ends 101 = .ok (.iload_n 1, 1) := by decide +kernel
theorem dX7_ends_102 : decode cX7_ends 102 = .ok (.bipush 7, 2) := by decide +kernel
theorem dX7_ends_104 : decode cX7_ends 104 = .ok (.aload_n 0, 1) := by decide +kernel
theorem dX7_ends_105 : decode cX7_ends 105 = .ok (.iload_n 1, 1) := by decide +kernel
theorem dX7_ends_106 : decode cX7_ends 106 = .ok (.bipush 10, 2) := by decide +kernel
theorem dX7_ends_108 : decode cX7_ends 108 = .ok (.invokevirtual 68, 3) := by decide +kernel
theorem dX7_ends_111 : decode cX7_ends 111 = .ok (.invokevirtual 91, 3) := by decide +kernel
theorem dX7_ends_114 : decode cX7_ends 114 = .ok (.aload_n 0, 1) := by decide +kernel
theorem dX7_ends_115 : decode cX7_ends 115 = .ok (.iload_n 1, 1) := by decide +kernel
theorem dX7_ends_116 : decode cX7_ends 116 = .ok (.bipush 10, 2) := by decide +kernel
theorem dX7_ends_118 : decode cX7_ends 118 = .ok (.iconst 0, 1) := by decide +kernel
theorem dX7_ends_119 : decode cX7_ends 119 = .ok (.invokevirtual 91, 3) := by decide +kernel
theorem dX7_ends_122 : decode cX7_ends 122 = .ok (.aload_n 0, 1) := by decide +kernel
theorem dX7_ends_123 : decode cX7_ends 123 = .ok (.iload_n 1, 1) := by decide +kernel
theorem dX7_ends_124 : decode cX7_ends 124 = .ok (.bipush 6, 2) := by decide +kernel
theorem dX7_ends_126 : decode cX7_ends 126 = .ok (.aload_n 0, 1) := by decide +kernel
theorem dX7_ends_127 : decode cX7_ends 127 = .ok (.iload_n 1, 1) := by decide +kernel
theorem dX7_ends_128 : decode cX7_ends 128 = .ok (.bipush 6, 2) := by decide +kernel
theorem dX7_ends_130 : decode cX7_ends 130 = .ok (.invokevirtual 68, 3) := by decide +kernel
theorem dX7_ends_133 : decode cX7_ends 133 = .ok (.bipush 9, 2) := by decide +kernel
theorem dX7_ends_135 : decode cX7_ends 135 = .ok (.if_icmp .ge 15, 3) := by decide +kernel
theorem dX7_ends_138 : decode cX7_ends 138 = .ok (.aload_n 0, 1) := by decide +kernel
theorem dX7_ends_139 : decode cX7_ends 139 = .ok (.iload_n 1, 1) := by decide +kernel
theorem dX7_ends_140 : decode cX7_ends 140 = .ok (.bipush 6, 2) := by decide +kernel
theorem dX7_ends_142 : decode cX7_ends 142 = .ok (.invokevirtual 68, 3) := by decide +kernel
theorem dX7_ends_145 : decode cX7_ends 145 = .ok (.iconst 1, 1) := by decide +kernel
theorem dX7_ends_146 : decode cX7_ends 146 = .ok (.iadd, 1) := by decide +kernel
theorem dX7_ends_147 : decode cX7_ends 147 = .ok (.goto 5, 3) := by decide +kernel
theorem dX7_ends_150 : decode cX7_ends 150 = .ok (.bipush 9, 2) := by decide +kernel
theorem dX7_ends_152 : decode cX7_ends 152 = .ok (.invokevirtual 91, 3) := by decide +kernel
theorem dX7_ends_155 : decode cX7_ends 155 = .ok (.iinc 1 1, 3) := by decide +kernel
theorem dX7_ends_158 : decode cX7_ends 158 = .ok (.goto (-156), 3) := by decide +kernel
theorem dX7_ends_161 : decode cX7_ends 161 = .ok (.sipush 582, 3) := by decide +kernel
theorem dX7_ends_164 : decode cX7_ends 164 = .ok (.istore_n 1, 1) := by decide +kernel
theorem dX7_ends_165 : decode cX7_ends 165 = .ok (.iload_n 1, 1) := by decide +kernel
theorem dX7_ends_166 : decode cX7_ends 166 = .ok (.sipush 732, 3) := by decide +kernel
theorem dX7_ends_169 : decode cX7_ends 169 = .ok (.if_icmp .ge 16, 3) := by decide +kernel
theorem dX7_ends_172 : decode cX7_ends 172 = .ok (.aload_n 0, 1) := by decide +kernel
theorem dX7_ends_173 : decode cX7_ends 173 = .ok (.getfield 7, 3) := by decide +kernel
theorem dX7_ends_176 : decode cX7_ends 176 = .ok (.iload_n 1, 1) := by decide +kernel
theorem dX7_ends_177 : decode cX7_ends 177 = .ok (.iconst 0, 1) := by decide +kernel
theorem dX7_ends_178 : decode cX7_ends 178 = .ok (.iastore, 1) := by decide +kernel
theorem dX7_ends_179 : decode cX7_ends 179 = .ok (.iinc 1 1, 3) := by decide +kernel
theorem dX7_ends_182 : decode cX7_ends 182 = .ok (.goto (-17), 3) := by decide +kernel
theorem dX7_ends_185 : decode cX7_ends 185 = .ok (.aload_n 0, 1) := by decide +kernel
theorem dX7_ends_186 : decode cX7_ends 186 = .ok (.getfield 7, 3) := by decide +kernel
theorem dX7_ends_189 : decode cX7_ends 189 = .ok (.sipush 786, 3) := by decide +kernel
theorem dX7_ends_192 : decode cX7_ends 192 = .ok (.iconst (-1), 1) := by decide +kernel
theorem dX7_ends_193 : decode cX7_ends 193 = .ok (.iastore, 1) := by decide +kernel
theorem dX7_ends_194 : decode cX7_ends 194 = .ok (.aload_n 0, 1) := by decide +kernel
theorem dX7_ends_195 : decode cX7_ends 195 = .ok (.getfield 7, 3) := by decide +kernel
theorem dX7_ends_198 : decode cX7_ends 198 = .ok (.sipush 784, 3) := by decide +kernel
theorem dX7_ends_201 : decode cX7_ends 201 = .ok (.dup2, 1) := by decide +kernel
theorem dX7_ends_202 : decode cX7_ends 202 = .ok (.iaload, 1) := by decide +kernel
theorem dX7_ends_203 : decode cX7_ends 203 = .ok (.iconst 1, 1) := by decide +kernel
theorem dX7_ends_204 : decode cX7_ends 204 = .ok (.iadd, 1) := by decide +kernel
theorem dX7_ends_205 : decode cX7_ends 205 = .ok (.iastore, 1) := by decide +kernel
theorem dX7_ends_206 : decode cX7_ends 206 = .ok (.aload_n 0, 1) := by decide +kernel
theorem dX7_ends_207 : decode cX7_ends 207 = .ok (.getfield 7, 3) := by decide +kernel
theorem dX7_ends_210 : decode cX7_ends 210 = .ok (.sipush 785, 3) := by decide +kernel
theorem dX7_ends_213 : decode cX7_ends 213 = .ok (.iconst 0, 1) := by decide +kernel
theorem dX7_ends_214 : decode cX7_ends 214 = .ok (.iastore, 1) := by decide +kernel
theorem dX7_ends_215 : decode cX7_ends 215 = .ok (.return_, 1) := by decide +kernel
def f_X7_ends_L2 (fuel : Nat) (K : St → Option (St)) (a2_1 : Int32) (S2 : St) : Option (St) := match fuel with
  | 0 => none
  | n + 1 => if a2_1 < (12 : Int32) then ((f_X7_get a2_1 (2 : Int32) S2).bind fun v11 => (if v11 = (5 : Int32) then ((f_X7_get a2_1 (3 : Int32) S2).bind fun v24 => ((f_X7_lay a2_1 (3 : Int32) (v24 - (1 : Int32)) S2).bind fun v29 => ((f_X7_get a2_1 (3 : Int32) v29).bind fun v35 => (if v35 = 0 then ((f_X7_lay a2_1 (2 : Int32) (0 : Int32) v29).bind fun v45 => (f_X7_ends_L2 n K (a2_1 + (1 : Int32)) v45)) else (f_X7_ends_L2 n K (a2_1 + (1 : Int32)) v29))))) else ((f_X7_isTree a2_1 S2).bind fun v53 => (if v53 = true then ((f_X7_get a2_1 (8 : Int32) S2).bind fun v70 => ((f_X7_get a2_1 (9 : Int32) S2).bind fun v77 => ((f_X7_lay a2_1 (8 : Int32) (0 : Int32) (wrL S2 111 (ix (4 : Int32)) ((rdL S2 111 (ix (4 : Int32))) + ((v70 + v77).toInt64)))).bind fun v89 => ((f_X7_lay a2_1 (9 : Int32) (0 : Int32) v89).bind fun v97 => ((f_X7_get a2_1 (10 : Int32) v97).bind fun v108 => ((f_X7_lay a2_1 (7 : Int32) v108 v97).bind fun v111 => ((f_X7_lay a2_1 (10 : Int32) (0 : Int32) v111).bind fun v119 => ((f_X7_get a2_1 (6 : Int32) v119).bind fun v130 => (if v130 < (9 : Int32) then ((f_X7_get a2_1 (6 : Int32) v119).bind fun v142 => ((f_X7_lay a2_1 (6 : Int32) (v142 + (1 : Int32)) v119).bind fun v152 => (f_X7_ends_L2 n K (a2_1 + (1 : Int32)) v152))) else ((f_X7_lay a2_1 (6 : Int32) (9 : Int32) v119).bind fun v152 => (f_X7_ends_L2 n K (a2_1 + (1 : Int32)) v152))))))))))) else (f_X7_ends_L2 n K (a2_1 + (1 : Int32)) S2))))) else (K S2)
def f_X7_ends_L165 (fuel : Nat) (K : St → Option (St)) (a165_1 : Int32) (S165 : St) : Option (St) := match fuel with
  | 0 => none
  | n + 1 => if a165_1 < (732 : Int32) then (if inb a165_1 788 = true then (f_X7_ends_L165 n K (a165_1 + (1 : Int32)) (wr S165 109 (ix a165_1) (0 : Int32))) else none) else (K S165)
def f_X7_ends  (S : St) : Option (St) := f_X7_ends_L2 6000 (fun T161 => (f_X7_ends_L165 6000 (fun T185 => (some (wr (wr (wr T185 109 (ix (786 : Int32)) (-1 : Int32)) 109 (ix (784 : Int32)) ((rd (wr T185 109 (ix (786 : Int32)) (-1 : Int32)) 109 (ix (784 : Int32))) + (1 : Int32))) 109 (ix (785 : Int32)) (0 : Int32)))) (582 : Int32) T161)) (0 : Int32) S
set_option maxRecDepth 100000 in
theorem jl_X7_ends_2 (l : Launch) (w : Wd) (K : St → Option (St)) (n : Nat) : ∀ (a2_1 : Int32) (S2 : St), (∀  (S' : St) , J l w I_X7_ends 161 [(0, .ref (w.2.1 + 108))] [] S' (fun b => (none, b)) (K  S')) → J l w I_X7_ends 2 [(0, .ref (w.2.1 + 108)), (1, .int a2_1)] [] S2 (fun b => (none, b)) (f_X7_ends_L2 n K a2_1 S2) := by
  induction n with
  | zero =>
    intro a2_1 S2 hK b h
    simp only [f_X7_ends_L2] at h
    cases h
  | succ n ih =>
    intro a2_1 S2 hK
    rw [f_X7_ends_L2]
    refine j_iload_n (y := I_X7_ends) 1 dX7_ends_2 rfl rfl ?_
    refine j_bipush (y := I_X7_ends) (v := 12) dX7_ends_3 (by decide) ?_
    refine j_icmp_ge (y := I_X7_ends) 161 dX7_ends_5 (by decide) (fun h5 => ?_) (fun h5 => ?_)
    · refine j_sub [0] rfl ?_
      exact hK S2
    · refine j_aload_n (y := I_X7_ends) 0 dX7_ends_8 rfl rfl ?_
      refine j_iload_n (y := I_X7_ends) 1 dX7_ends_9 rfl rfl ?_
      refine j_iconst (y := I_X7_ends) (v := 2) dX7_ends_10 (by decide) ?_
      refine j_callViR (y := I_X7_ends) (As := [.int a2_1, .int (2 : Int32)]) cv_7_68 ⟨Nat.le_of_ble_eq_true rfl, Nat.le_of_ble_eq_true rfl⟩ k_108 rfl (Nat.le_of_ble_eq_true rfl) dX7_ends_11 (c_X7_get l w a2_1 (2 : Int32) S2) (fun v11 h11 => ?_)
      refine j_iconst (y := I_X7_ends) (v := 5) dX7_ends_14 (by decide) ?_
      refine j_icmp_ne (y := I_X7_ends) 51 dX7_ends_15 (by decide) (fun h15 => ?_) (fun h15 => ?_)
      · refine j_aload_n (y := I_X7_ends) 0 dX7_ends_51 rfl rfl ?_
        refine j_iload_n (y := I_X7_ends) 1 dX7_ends_52 rfl rfl ?_
        refine j_callVzR (y := I_X7_ends) (As := [.int a2_1]) cv_7_137 ⟨Nat.le_of_ble_eq_true rfl, Nat.le_of_ble_eq_true rfl⟩ k_108 rfl (Nat.le_of_ble_eq_true rfl) dX7_ends_53 (c_X7_isTree l w a2_1 S2) (fun v53 h53 => ?_)
        refine j_if_eqB (y := I_X7_ends) 155 dX7_ends_56 (by decide) (fun h56 => ?_) (fun h56 => ?_)
        · refine j_iinc (y := I_X7_ends) 1 (ls' := [(1, .int (a2_1 + (1 : Int32))), (0, .ref (w.2.1 + 108))]) dX7_ends_155 rfl (ii _ _ (by decide) _) (by decide) rfl ?_
          refine j_goto (y := I_X7_ends) 2 dX7_ends_158 (by decide) ?_
          refine j_sub [1, 0] rfl ?_
          exact ih (a2_1 + (1 : Int32)) S2 hK
        · refine j_aload_n (y := I_X7_ends) 0 dX7_ends_59 rfl rfl ?_
          refine j_getR (y := I_X7_ends) (j := 111) fl_7_16 k_108 rfl rfl dX7_ends_60 ?_
          refine j_iconst (y := I_X7_ends) (v := 4) dX7_ends_63 (by decide) ?_
          refine j_dup2 (y := I_X7_ends) dX7_ends_64 rfl rfl ?_
          refine j_laldL (y := I_X7_ends) k_111 (by decide) dX7_ends_65 ?_
          refine j_aload_n (y := I_X7_ends) 0 dX7_ends_66 rfl rfl ?_
          refine j_iload_n (y := I_X7_ends) 1 dX7_ends_67 rfl rfl ?_
          refine j_bipush (y := I_X7_ends) (v := 8) dX7_ends_68 (by decide) ?_
          refine j_callViR (y := I_X7_ends) (As := [.int a2_1, .int (8 : Int32)]) cv_7_68 ⟨Nat.le_of_ble_eq_true rfl, Nat.le_of_ble_eq_true rfl⟩ k_108 rfl (Nat.le_of_ble_eq_true rfl) dX7_ends_70 (c_X7_get l w a2_1 (8 : Int32) S2) (fun v70 h70 => ?_)
          refine j_aload_n (y := I_X7_ends) 0 dX7_ends_73 rfl rfl ?_
          refine j_iload_n (y := I_X7_ends) 1 dX7_ends_74 rfl rfl ?_
          refine j_bipush (y := I_X7_ends) (v := 9) dX7_ends_75 (by decide) ?_
          refine j_callViR (y := I_X7_ends) (As := [.int a2_1, .int (9 : Int32)]) cv_7_68 ⟨Nat.le_of_ble_eq_true rfl, Nat.le_of_ble_eq_true rfl⟩ k_108 rfl (Nat.le_of_ble_eq_true rfl) dX7_ends_77 (c_X7_get l w a2_1 (9 : Int32) S2) (fun v77 h77 => ?_)
          refine j_iadd (y := I_X7_ends) dX7_ends_80 ?_
          refine j_i2l (y := I_X7_ends) dX7_ends_81 ?_
          refine j_ladd (y := I_X7_ends) dX7_ends_82 ?_
          refine j_lastL (y := I_X7_ends) k_111 (by decide) dX7_ends_83 ?_
          refine j_aload_n (y := I_X7_ends) 0 dX7_ends_84 rfl rfl ?_
          refine j_iload_n (y := I_X7_ends) 1 dX7_ends_85 rfl rfl ?_
          refine j_bipush (y := I_X7_ends) (v := 8) dX7_ends_86 (by decide) ?_
          refine j_iconst (y := I_X7_ends) (v := 0) dX7_ends_88 (by decide) ?_
          refine j_callVvS (y := I_X7_ends) (As := [.int a2_1, .int (8 : Int32), .int (0 : Int32)]) cv_7_91 ⟨Nat.le_of_ble_eq_true rfl, Nat.le_of_ble_eq_true rfl⟩ k_108 rfl (Nat.le_of_ble_eq_true rfl) dX7_ends_89 (c_X7_lay l w a2_1 (8 : Int32) (0 : Int32) (wrL S2 111 (ix (4 : Int32)) ((rdL S2 111 (ix (4 : Int32))) + ((v70 + v77).toInt64)))) (fun v89 h89 => ?_)
          refine j_aload_n (y := I_X7_ends) 0 dX7_ends_92 rfl rfl ?_
          refine j_iload_n (y := I_X7_ends) 1 dX7_ends_93 rfl rfl ?_
          refine j_bipush (y := I_X7_ends) (v := 9) dX7_ends_94 (by decide) ?_
          refine j_iconst (y := I_X7_ends) (v := 0) dX7_ends_96 (by decide) ?_
          refine j_callVvS (y := I_X7_ends) (As := [.int a2_1, .int (9 : Int32), .int (0 : Int32)]) cv_7_91 ⟨Nat.le_of_ble_eq_true rfl, Nat.le_of_ble_eq_true rfl⟩ k_108 rfl (Nat.le_of_ble_eq_true rfl) dX7_ends_97 (c_X7_lay l w a2_1 (9 : Int32) (0 : Int32) v89) (fun v97 h97 => ?_)
          refine j_aload_n (y := I_X7_ends) 0 dX7_ends_100 rfl rfl ?_
          refine j_iload_n (y := I_X7_ends) 1 dX7_ends_101 rfl rfl ?_
          refine j_bipush (y := I_X7_ends) (v := 7) dX7_ends_102 (by decide) ?_
          refine j_aload_n (y := I_X7_ends) 0 dX7_ends_104 rfl rfl ?_
          refine j_iload_n (y := I_X7_ends) 1 dX7_ends_105 rfl rfl ?_
          refine j_bipush (y := I_X7_ends) (v := 10) dX7_ends_106 (by decide) ?_
          refine j_callViR (y := I_X7_ends) (As := [.int a2_1, .int (10 : Int32)]) cv_7_68 ⟨Nat.le_of_ble_eq_true rfl, Nat.le_of_ble_eq_true rfl⟩ k_108 rfl (Nat.le_of_ble_eq_true rfl) dX7_ends_108 (c_X7_get l w a2_1 (10 : Int32) v97) (fun v108 h108 => ?_)
          refine j_callVvS (y := I_X7_ends) (As := [.int a2_1, .int (7 : Int32), .int v108]) cv_7_91 ⟨Nat.le_of_ble_eq_true rfl, Nat.le_of_ble_eq_true rfl⟩ k_108 rfl (Nat.le_of_ble_eq_true rfl) dX7_ends_111 (c_X7_lay l w a2_1 (7 : Int32) v108 v97) (fun v111 h111 => ?_)
          refine j_aload_n (y := I_X7_ends) 0 dX7_ends_114 rfl rfl ?_
          refine j_iload_n (y := I_X7_ends) 1 dX7_ends_115 rfl rfl ?_
          refine j_bipush (y := I_X7_ends) (v := 10) dX7_ends_116 (by decide) ?_
          refine j_iconst (y := I_X7_ends) (v := 0) dX7_ends_118 (by decide) ?_
          refine j_callVvS (y := I_X7_ends) (As := [.int a2_1, .int (10 : Int32), .int (0 : Int32)]) cv_7_91 ⟨Nat.le_of_ble_eq_true rfl, Nat.le_of_ble_eq_true rfl⟩ k_108 rfl (Nat.le_of_ble_eq_true rfl) dX7_ends_119 (c_X7_lay l w a2_1 (10 : Int32) (0 : Int32) v111) (fun v119 h119 => ?_)
          refine j_aload_n (y := I_X7_ends) 0 dX7_ends_122 rfl rfl ?_
          refine j_iload_n (y := I_X7_ends) 1 dX7_ends_123 rfl rfl ?_
          refine j_bipush (y := I_X7_ends) (v := 6) dX7_ends_124 (by decide) ?_
          refine j_aload_n (y := I_X7_ends) 0 dX7_ends_126 rfl rfl ?_
          refine j_iload_n (y := I_X7_ends) 1 dX7_ends_127 rfl rfl ?_
          refine j_bipush (y := I_X7_ends) (v := 6) dX7_ends_128 (by decide) ?_
          refine j_callViR (y := I_X7_ends) (As := [.int a2_1, .int (6 : Int32)]) cv_7_68 ⟨Nat.le_of_ble_eq_true rfl, Nat.le_of_ble_eq_true rfl⟩ k_108 rfl (Nat.le_of_ble_eq_true rfl) dX7_ends_130 (c_X7_get l w a2_1 (6 : Int32) v119) (fun v130 h130 => ?_)
          refine j_bipush (y := I_X7_ends) (v := 9) dX7_ends_133 (by decide) ?_
          refine j_icmp_ge (y := I_X7_ends) 150 dX7_ends_135 (by decide) (fun h135 => ?_) (fun h135 => ?_)
          · refine j_bipush (y := I_X7_ends) (v := 9) dX7_ends_150 (by decide) ?_
            refine j_callVvS (y := I_X7_ends) (As := [.int a2_1, .int (6 : Int32), .int (9 : Int32)]) cv_7_91 ⟨Nat.le_of_ble_eq_true rfl, Nat.le_of_ble_eq_true rfl⟩ k_108 rfl (Nat.le_of_ble_eq_true rfl) dX7_ends_152 (c_X7_lay l w a2_1 (6 : Int32) (9 : Int32) v119) (fun v152 h152 => ?_)
            refine j_iinc (y := I_X7_ends) 1 (ls' := [(1, .int (a2_1 + (1 : Int32))), (0, .ref (w.2.1 + 108))]) dX7_ends_155 rfl (ii _ _ (by decide) _) (by decide) rfl ?_
            refine j_goto (y := I_X7_ends) 2 dX7_ends_158 (by decide) ?_
            refine j_sub [1, 0] rfl ?_
            exact ih (a2_1 + (1 : Int32)) v152 hK
          · refine j_aload_n (y := I_X7_ends) 0 dX7_ends_138 rfl rfl ?_
            refine j_iload_n (y := I_X7_ends) 1 dX7_ends_139 rfl rfl ?_
            refine j_bipush (y := I_X7_ends) (v := 6) dX7_ends_140 (by decide) ?_
            refine j_callViR (y := I_X7_ends) (As := [.int a2_1, .int (6 : Int32)]) cv_7_68 ⟨Nat.le_of_ble_eq_true rfl, Nat.le_of_ble_eq_true rfl⟩ k_108 rfl (Nat.le_of_ble_eq_true rfl) dX7_ends_142 (c_X7_get l w a2_1 (6 : Int32) v119) (fun v142 h142 => ?_)
            refine j_iconst (y := I_X7_ends) (v := 1) dX7_ends_145 (by decide) ?_
            refine j_iadd (y := I_X7_ends) dX7_ends_146 ?_
            refine j_goto (y := I_X7_ends) 152 dX7_ends_147 (by decide) ?_
            refine j_callVvS (y := I_X7_ends) (As := [.int a2_1, .int (6 : Int32), .int (v142 + (1 : Int32))]) cv_7_91 ⟨Nat.le_of_ble_eq_true rfl, Nat.le_of_ble_eq_true rfl⟩ k_108 rfl (Nat.le_of_ble_eq_true rfl) dX7_ends_152 (c_X7_lay l w a2_1 (6 : Int32) (v142 + (1 : Int32)) v119) (fun v152 h152 => ?_)
            refine j_iinc (y := I_X7_ends) 1 (ls' := [(1, .int (a2_1 + (1 : Int32))), (0, .ref (w.2.1 + 108))]) dX7_ends_155 rfl (ii _ _ (by decide) _) (by decide) rfl ?_
            refine j_goto (y := I_X7_ends) 2 dX7_ends_158 (by decide) ?_
            refine j_sub [1, 0] rfl ?_
            exact ih (a2_1 + (1 : Int32)) v152 hK
      · refine j_aload_n (y := I_X7_ends) 0 dX7_ends_18 rfl rfl ?_
        refine j_iload_n (y := I_X7_ends) 1 dX7_ends_19 rfl rfl ?_
        refine j_iconst (y := I_X7_ends) (v := 3) dX7_ends_20 (by decide) ?_
        refine j_aload_n (y := I_X7_ends) 0 dX7_ends_21 rfl rfl ?_
        refine j_iload_n (y := I_X7_ends) 1 dX7_ends_22 rfl rfl ?_
        refine j_iconst (y := I_X7_ends) (v := 3) dX7_ends_23 (by decide) ?_
        refine j_callViR (y := I_X7_ends) (As := [.int a2_1, .int (3 : Int32)]) cv_7_68 ⟨Nat.le_of_ble_eq_true rfl, Nat.le_of_ble_eq_true rfl⟩ k_108 rfl (Nat.le_of_ble_eq_true rfl) dX7_ends_24 (c_X7_get l w a2_1 (3 : Int32) S2) (fun v24 h24 => ?_)
        refine j_iconst (y := I_X7_ends) (v := 1) dX7_ends_27 (by decide) ?_
        refine j_isub (y := I_X7_ends) dX7_ends_28 ?_
        refine j_callVvS (y := I_X7_ends) (As := [.int a2_1, .int (3 : Int32), .int (v24 - (1 : Int32))]) cv_7_91 ⟨Nat.le_of_ble_eq_true rfl, Nat.le_of_ble_eq_true rfl⟩ k_108 rfl (Nat.le_of_ble_eq_true rfl) dX7_ends_29 (c_X7_lay l w a2_1 (3 : Int32) (v24 - (1 : Int32)) S2) (fun v29 h29 => ?_)
        refine j_aload_n (y := I_X7_ends) 0 dX7_ends_32 rfl rfl ?_
        refine j_iload_n (y := I_X7_ends) 1 dX7_ends_33 rfl rfl ?_
        refine j_iconst (y := I_X7_ends) (v := 3) dX7_ends_34 (by decide) ?_
        refine j_callViR (y := I_X7_ends) (As := [.int a2_1, .int (3 : Int32)]) cv_7_68 ⟨Nat.le_of_ble_eq_true rfl, Nat.le_of_ble_eq_true rfl⟩ k_108 rfl (Nat.le_of_ble_eq_true rfl) dX7_ends_35 (c_X7_get l w a2_1 (3 : Int32) v29) (fun v35 h35 => ?_)
        refine j_if_ne (y := I_X7_ends) 155 dX7_ends_38 (by decide) (fun h38 => ?_) (fun h38 => ?_)
        · refine j_iinc (y := I_X7_ends) 1 (ls' := [(1, .int (a2_1 + (1 : Int32))), (0, .ref (w.2.1 + 108))]) dX7_ends_155 rfl (ii _ _ (by decide) _) (by decide) rfl ?_
          refine j_goto (y := I_X7_ends) 2 dX7_ends_158 (by decide) ?_
          refine j_sub [1, 0] rfl ?_
          exact ih (a2_1 + (1 : Int32)) v29 hK
        · refine j_aload_n (y := I_X7_ends) 0 dX7_ends_41 rfl rfl ?_
          refine j_iload_n (y := I_X7_ends) 1 dX7_ends_42 rfl rfl ?_
          refine j_iconst (y := I_X7_ends) (v := 2) dX7_ends_43 (by decide) ?_
          refine j_iconst (y := I_X7_ends) (v := 0) dX7_ends_44 (by decide) ?_
          refine j_callVvS (y := I_X7_ends) (As := [.int a2_1, .int (2 : Int32), .int (0 : Int32)]) cv_7_91 ⟨Nat.le_of_ble_eq_true rfl, Nat.le_of_ble_eq_true rfl⟩ k_108 rfl (Nat.le_of_ble_eq_true rfl) dX7_ends_45 (c_X7_lay l w a2_1 (2 : Int32) (0 : Int32) v29) (fun v45 h45 => ?_)
          refine j_goto (y := I_X7_ends) 155 dX7_ends_48 (by decide) ?_
          refine j_iinc (y := I_X7_ends) 1 (ls' := [(1, .int (a2_1 + (1 : Int32))), (0, .ref (w.2.1 + 108))]) dX7_ends_155 rfl (ii _ _ (by decide) _) (by decide) rfl ?_
          refine j_goto (y := I_X7_ends) 2 dX7_ends_158 (by decide) ?_
          refine j_sub [1, 0] rfl ?_
          exact ih (a2_1 + (1 : Int32)) v45 hK
set_option maxRecDepth 100000 in
theorem jl_X7_ends_165 (l : Launch) (w : Wd) (K : St → Option (St)) (n : Nat) : ∀ (a165_1 : Int32) (S165 : St), (∀  (S' : St) , J l w I_X7_ends 185 [(0, .ref (w.2.1 + 108))] [] S' (fun b => (none, b)) (K  S')) → J l w I_X7_ends 165 [(0, .ref (w.2.1 + 108)), (1, .int a165_1)] [] S165 (fun b => (none, b)) (f_X7_ends_L165 n K a165_1 S165) := by
  induction n with
  | zero =>
    intro a165_1 S165 hK b h
    simp only [f_X7_ends_L165] at h
    cases h
  | succ n ih =>
    intro a165_1 S165 hK
    rw [f_X7_ends_L165]
    refine j_iload_n (y := I_X7_ends) 1 dX7_ends_165 rfl rfl ?_
    refine j_sipush (y := I_X7_ends) (v := 732) dX7_ends_166 (by decide) ?_
    refine j_icmp_ge (y := I_X7_ends) 185 dX7_ends_169 (by decide) (fun h169 => ?_) (fun h169 => ?_)
    · refine j_sub [0] rfl ?_
      exact hK S165
    · refine j_aload_n (y := I_X7_ends) 0 dX7_ends_172 rfl rfl ?_
      refine j_getR (y := I_X7_ends) (j := 109) fl_7_7 k_108 rfl rfl dX7_ends_173 ?_
      refine j_iload_n (y := I_X7_ends) 1 dX7_ends_176 rfl rfl ?_
      refine j_iconst (y := I_X7_ends) (v := 0) dX7_ends_177 (by decide) ?_
      refine j_iast (y := I_X7_ends) k_109 dX7_ends_178 (fun h178 => ?_)
      refine j_iinc (y := I_X7_ends) 1 (ls' := [(1, .int (a165_1 + (1 : Int32))), (0, .ref (w.2.1 + 108))]) dX7_ends_179 rfl (ii _ _ (by decide) _) (by decide) rfl ?_
      refine j_goto (y := I_X7_ends) 165 dX7_ends_182 (by decide) ?_
      refine j_sub [1, 0] rfl ?_
      exact ih (a165_1 + (1 : Int32)) (wr S165 109 (ix a165_1) (0 : Int32)) hK
set_option maxRecDepth 100000 in
set_option maxHeartbeats 4000000 in
theorem m_X7_ends (l : Launch) (w : Wd)  (S : St)  : J l w I_X7_ends 0 [(0, .ref (w.2.1 + 108))] [] S (fun b => (none, b)) (f_X7_ends S) := by
  unfold f_X7_ends
  refine j_iconst (y := I_X7_ends) (v := 0) dX7_ends_0 (by decide) ?_
  refine j_istore_n (y := I_X7_ends) (ls' := [(1, .int (0 : Int32)), (0, .ref (w.2.1 + 108))]) dX7_ends_1 rfl (by decide) rfl ?_
  refine j_sub [1, 0] rfl ?_
  refine jl_X7_ends_2 l w _ 6000 (0 : Int32) S  (fun T161 => ?_)
  refine j_sipush (y := I_X7_ends) (v := 582) dX7_ends_161 (by decide) ?_
  refine j_istore_n (y := I_X7_ends) (ls' := [(1, .int (582 : Int32)), (0, .ref (w.2.1 + 108))]) dX7_ends_164 rfl (by decide) rfl ?_
  refine j_sub [1, 0] rfl ?_
  refine jl_X7_ends_165 l w _ 6000 (582 : Int32) T161  (fun T185 => ?_)
  refine j_aload_n (y := I_X7_ends) 0 dX7_ends_185 rfl rfl ?_
  refine j_getR (y := I_X7_ends) (j := 109) fl_7_7 k_108 rfl rfl dX7_ends_186 ?_
  refine j_sipush (y := I_X7_ends) (v := 786) dX7_ends_189 (by decide) ?_
  refine j_iconst (y := I_X7_ends) (v := -1) dX7_ends_192 (by decide) ?_
  refine j_iastL (y := I_X7_ends) k_109 (by decide) dX7_ends_193 ?_
  refine j_aload_n (y := I_X7_ends) 0 dX7_ends_194 rfl rfl ?_
  refine j_getR (y := I_X7_ends) (j := 109) fl_7_7 k_108 rfl rfl dX7_ends_195 ?_
  refine j_sipush (y := I_X7_ends) (v := 784) dX7_ends_198 (by decide) ?_
  refine j_dup2 (y := I_X7_ends) dX7_ends_201 rfl rfl ?_
  refine j_ialdL (y := I_X7_ends) k_109 (by decide) dX7_ends_202 ?_
  refine j_iconst (y := I_X7_ends) (v := 1) dX7_ends_203 (by decide) ?_
  refine j_iadd (y := I_X7_ends) dX7_ends_204 ?_
  refine j_iastL (y := I_X7_ends) k_109 (by decide) dX7_ends_205 ?_
  refine j_aload_n (y := I_X7_ends) 0 dX7_ends_206 rfl rfl ?_
  refine j_getR (y := I_X7_ends) (j := 109) fl_7_7 k_108 rfl rfl dX7_ends_207 ?_
  refine j_sipush (y := I_X7_ends) (v := 785) dX7_ends_210 (by decide) ?_
  refine j_iconst (y := I_X7_ends) (v := 0) dX7_ends_213 (by decide) ?_
  refine j_iastL (y := I_X7_ends) k_109 (by decide) dX7_ends_214 ?_
  exact j_vret (y := I_X7_ends) rfl dX7_ends_215 rfl
theorem c_X7_ends (l : Launch) (w : Wd)  (S : St)  : ∀ v, f_X7_ends S = some v → CtS l w I_X7_ends [.ref (w.2.1 + 108)] S v none := fun v h => J.ct (av := [.ref (w.2.1 + 108)]) (Nat.le_of_ble_eq_true rfl) pn_7 (m_X7_ends l w  S ) h
abbrev I_X7_day : MI := (yX7_day, cX7_day, 5, none, { frames := 8, cells := 0, slots := 0, locals := 187 })
theorem dX7_day_0 : decode cX7_day 0 = .ok (.aload_n 0, 1) := by decide +kernel
theorem dX7_day_1 : decode cX7_day 1 = .ok (.getfield 7, 3) := by decide +kernel
theorem dX7_day_4 : decode cX7_day 4 = .ok (.sipush 785, 3) := by decide +kernel
theorem dX7_day_7 : decode cX7_day 7 = .ok (.iaload, 1) := by decide +kernel
theorem dX7_day_8 : decode cX7_day 8 = .ok (.istore_n 1, 1) := by decide +kernel
theorem dX7_day_9 : decode cX7_day 9 = .ok (.bipush 64, 2) := by decide +kernel
theorem dX7_day_11 : decode cX7_day 11 = .ok (.bipush 50, 2) := by decide +kernel
theorem dX7_day_13 : decode cX7_day 13 = .ok (.aload_n 0, 1) := by decide +kernel
theorem dX7_day_14 : decode cX7_day 14 = .ok (.getfield 7, 3) := by decide +kernel
theorem dX7_day_17 : decode cX7_day 17 = .ok (.sipush 784, 3) := by decide +kernel
theorem dX7_day_20 : decode cX7_day 20 = .ok (.iaload, 1) := by decide +kernel
theorem dX7_day_21 : decode cX7_day 21 = .ok (.imul, 1) := by decide +kernel
theorem dX7_day_22 : decode cX7_day 22 = .ok (.iadd, 1) := by decide +kernel
theorem dX7_day_23 : decode cX7_day 23 = .ok (.iload_n 1, 1) := by decide +kernel
theorem dX7_day_24 : decode cX7_day 24 = .ok (.iadd, 1) := by decide +kernel
theorem dX7_day_25 : decode cX7_day 25 = .ok (.istore_n 2, 1) := by decide +kernel
theorem dX7_day_26 : decode cX7_day 26 = .ok (.aload_n 0, 1) := by decide +kernel
theorem dX7_day_27 : decode cX7_day 27 = .ok (.getfield 7, 3) := by decide +kernel
theorem dX7_day_30 : decode cX7_day 30 = .ok (.sipush 732, 3) := by decide +kernel
theorem dX7_day_33 : decode cX7_day 33 = .ok (.iload_n 1, 1) := by decide +kernel
theorem dX7_day_34 : decode cX7_day 34 = .ok (.iadd, 1) := by decide +kernel
theorem dX7_day_35 : decode cX7_day 35 = .ok (.aload_n 0, 1) := by decide +kernel
theorem dX7_day_36 : decode cX7_day 36 = .ok (.iload_n 1, 1) := by decide +kernel
theorem dX7_day_37 : decode cX7_day 37 = .ok (.invokevirtual 124, 3) := by decide +kernel
theorem dX7_day_40 : decode cX7_day 40 = .ok (.iastore, 1) := by decide +kernel
theorem dX7_day_41 : decode cX7_day 41 = .ok (.aload_n 0, 1) := by decide +kernel
theorem dX7_day_42 : decode cX7_day 42 = .ok (.getfield 7, 3) := by decide +kernel
theorem dX7_day_45 : decode cX7_day 45 = .ok (.sipush 785, 3) := by decide +kernel
theorem dX7_day_48 : decode cX7_day 48 = .ok (.dup2, 1) := by decide +kernel
theorem dX7_day_49 : decode cX7_day 49 = .ok (.iaload, 1) := by decide +kernel
theorem dX7_day_50 : decode cX7_day 50 = .ok (.iconst 1, 1) := by decide +kernel
theorem dX7_day_51 : decode cX7_day 51 = .ok (.iadd, 1) := by decide +kernel
theorem dX7_day_52 : decode cX7_day 52 = .ok (.iastore, 1) := by decide +kernel
theorem dX7_day_53 : decode cX7_day 53 = .ok (.iconst 0, 1) := by decide +kernel
theorem dX7_day_54 : decode cX7_day 54 = .ok (.istore_n 3, 1) := by decide +kernel
theorem dX7_day_55 : decode cX7_day 55 = .ok (.iload_n 3, 1) := by decide +kernel
theorem dX7_day_56 : decode cX7_day 56 = .ok (.aload_n 0, 1) := by decide +kernel
theorem dX7_day_57 : decode cX7_day 57 = .ok (.getfield 7, 3) := by decide +kernel
theorem dX7_day_60 : decode cX7_day 60 = .ok (.sipush 782, 3) := by decide +kernel
theorem dX7_day_63 : decode cX7_day 63 = .ok (.iaload, 1) := by decide +kernel
theorem dX7_day_64 : decode cX7_day 64 = .ok (.if_icmp .ge 49, 3) := by decide +kernel
theorem dX7_day_67 : decode cX7_day 67 = .ok (.iload_n 3, 1) := by decide +kernel
theorem dX7_day_68 : decode cX7_day 68 = .ok (.iload_n 2, 1) := by decide +kernel
theorem dX7_day_69 : decode cX7_day 69 = .ok (.aload_n 0, 1) := by decide +kernel
theorem dX7_day_70 : decode cX7_day 70 = .ok (.iload_n 3, 1) := by decide +kernel
theorem dX7_day_71 : decode cX7_day 71 = .ok (.iconst 3, 1) := by decide +kernel
theorem dX7_day_72 : decode cX7_day 72 = .ok (.invokevirtual 98, 3) := by decide +kernel
theorem dX7_day_75 : decode cX7_day 75 = .ok (.isub, 1) := by decide +kernel
theorem dX7_day_76 : decode cX7_day 76 = .ok (.invokestatic 172, 3) := by decide +kernel
theorem dX7_day_79 : decode cX7_day 79 = .ok (.istore 4, 2) := by decide +kernel
theorem dX7_day_81 : decode cX7_day 81 = .ok (.aload_n 0, 1) := by decide +kernel
theorem dX7_day_82 : decode cX7_day 82 = .ok (.getfield 16, 3) := by decide +kernel
theorem dX7_day_85 : decode cX7_day 85 = .ok (.bipush 7, 2) := by decide +kernel
theorem dX7_day_87 : decode cX7_day 87 = .ok (.dup2, 1) := by decide +kernel
theorem dX7_day_88 : decode cX7_day 88 = .ok (.laload, 1) := by decide +kernel
theorem dX7_day_89 : decode cX7_day 89 = .ok (.aload_n 0, 1) := by decide +kernel
theorem dX7_day_90 : decode cX7_day 90 = .ok (.getfield 7, 3) := by decide +kernel
theorem dX7_day_93 : decode cX7_day 93 = .ok (.iload 4, 2) := by decide +kernel
theorem dX7_day_95 : decode cX7_day 95 = .ok (.iaload, 1) := by decide +kernel
theorem dX7_day_96 : decode cX7_day 96 = .ok (.i2l, 1) := by decide +kernel
theorem dX7_day_97 : decode cX7_day 97 = .ok (.ladd, 1) := by decide +kernel
theorem dX7_day_98 : decode cX7_day 98 = .ok (.lastore, 1) := by decide +kernel
theorem dX7_day_99 : decode cX7_day 99 = .ok (.aload_n 0, 1) := by decide +kernel
theorem dX7_day_100 : decode cX7_day 100 = .ok (.getfield 7, 3) := by decide +kernel
theorem dX7_day_103 : decode cX7_day 103 = .ok (.iload 4, 2) := by decide +kernel
theorem dX7_day_105 : decode cX7_day 105 = .ok (.iconst 0, 1) := by decide +kernel
theorem dX7_day_106 : decode cX7_day 106 = .ok (.iastore, 1) := by decide +kernel
theorem dX7_day_107 : decode cX7_day 107 = .ok (.iinc 3 1, 3) := by decide +kernel
theorem dX7_day_110 : decode cX7_day 110 = .ok (.goto (-55), 3) := by decide +kernel
theorem dX7_day_113 : decode cX7_day 113 = .ok (.iconst 0, 1) := by decide +kernel
theorem dX7_day_114 : decode cX7_day 114 = .ok (.istore_n 3, 1) := by decide +kernel
theorem dX7_day_115 : decode cX7_day 115 = .ok (.iload_n 3, 1) := by decide +kernel
theorem dX7_day_116 : decode cX7_day 116 = .ok (.bipush 24, 2) := by decide +kernel
theorem dX7_day_118 : decode cX7_day 118 = .ok (.if_icmp .ge 85, 3) := by decide +kernel
theorem dX7_day_121 : decode cX7_day 121 = .ok (.aload_n 0, 1) := by decide +kernel
theorem dX7_day_122 : decode cX7_day 122 = .ok (.getfield 41, 3) := by decide +kernel
theorem dX7_day_125 : decode cX7_day 125 = .ok (.iload_n 3, 1) := by decide +kernel
theorem dX7_day_126 : decode cX7_day 126 = .ok (.aload_n 0, 1) := by decide +kernel
theorem dX7_day_127 : decode cX7_day 127 = .ok (.iload_n 3, 1) := by decide +kernel
theorem dX7_day_128 : decode cX7_day 128 = .ok (.iload_n 1, 1) := by decide +kernel
theorem dX7_day_129 : decode cX7_day 129 = .ok (.invokevirtual 159, 3) := by decide +kernel
theorem dX7_day_132 : decode cX7_day 132 = .ok (.iastore, 1) := by decide +kernel
theorem dX7_day_133 : decode cX7_day 133 = .ok (.aload_n 0, 1) := by decide +kernel
theorem dX7_day_134 : decode cX7_day 134 = .ok (.iload_n 3, 1) := by decide +kernel
theorem dX7_day_135 : decode cX7_day 135 = .ok (.invokevirtual 140, 3) := by decide +kernel
theorem dX7_day_138 : decode cX7_day 138 = .ok (.ifCond .eq 13, 3) := by decide +kernel
theorem dX7_day_141 : decode cX7_day 141 = .ok (.aload_n 0, 1) := by decide +kernel
theorem dX7_day_142 : decode cX7_day 142 = .ok (.iload_n 3, 1) := by decide +kernel
theorem dX7_day_143 : decode cX7_day 143 = .ok (.iconst 2, 1) := by decide +kernel
theorem dX7_day_144 : decode cX7_day 144 = .ok (.idiv, 1) := by decide +kernel
theorem dX7_day_145 : decode cX7_day 145 = .ok (.invokevirtual 104, 3) := by decide +kernel
theorem dX7_day_148 : decode cX7_day 148 = .ok (.goto 4, 3) := by decide +kernel
theorem dX7_day_151 : decode cX7_day 151 = .ok (.iconst 0, 1) := by decide +kernel
theorem dX7_day_152 : decode cX7_day 152 = .ok (.istore 4, 2) := by decide +kernel
theorem dX7_day_154 : decode cX7_day 154 = .ok (.aload_n 0, 1) := by decide +kernel
theorem dX7_day_155 : decode cX7_day 155 = .ok (.getfield 38, 3) := by decide +kernel
theorem dX7_day_158 : decode cX7_day 158 = .ok (.iload_n 3, 1) := by decide +kernel
theorem dX7_day_159 : decode cX7_day 159 = .ok (.aload_n 0, 1) := by decide +kernel
theorem dX7_day_160 : decode cX7_day 160 = .ok (.iload_n 3, 1) := by decide +kernel
theorem dX7_day_161 : decode cX7_day 161 = .ok (.iconst 2, 1) := by decide +kernel
theorem dX7_day_162 : decode cX7_day 162 = .ok (.idiv, 1) := by decide +kernel
theorem dX7_day_163 : decode cX7_day 163 = .ok (.iconst 2, 1) := by decide +kernel
theorem dX7_day_164 : decode cX7_day 164 = .ok (.invokevirtual 68, 3) := by decide +kernel
theorem dX7_day_167 : decode cX7_day 167 = .ok (.iconst 2, 1) := by decide +kernel
theorem dX7_day_168 : decode cX7_day 168 = .ok (.if_icmp .eq 8, 3) := by decide +kernel
theorem dX7_day_171 : decode cX7_day 171 = .ok (.iload 4, 2) := by decide +kernel
theorem dX7_day_173 : decode cX7_day 173 = .ok (.goto 23, 3) := by decide +kernel
theorem dX7_day_176 : decode cX7_day 176 = .ok (.iload_n 3, 1) := by decide +kernel
theorem dX7_day_177 : decode cX7_day 177 = .ok (.iconst 2, 1) := by decide +kernel
theorem dX7_day_178 : decode cX7_day 178 = .ok (.irem, 1) := by decide +kernel
theorem dX7_day_179 : decode cX7_day 179 = .ok (.ifCond .ne 10, 3) := by decide +kernel
theorem dX7_day_182 : decode cX7_day 182 = .ok (.iload 4, 2) := by decide +kernel
theorem dX7_day_184 : decode cX7_day 184 = .ok (.iconst 2, 1) := by decide +kernel
theorem dX7_day_185 : decode cX7_day 185 = .ok (.idiv, 1) := by decide +kernel
theorem dX7_day_186 : decode cX7_day 186 = .ok (.goto 10, 3) := by decide +kernel
theorem dX7_day_189 : decode cX7_day 189 = .ok (.iload 4, 2) := by decide +kernel
theorem dX7_day_191 : decode cX7_day 191 = .ok (.iload 4, 2) := by decide +kernel
theorem dX7_day_193 : decode cX7_day 193 = .ok (.iconst 2, 1) := by decide +kernel
theorem dX7_day_194 : decode cX7_day 194 = .ok (.idiv, 1) := by decide +kernel
theorem dX7_day_195 : decode cX7_day 195 = .ok (.isub, 1) := by decide +kernel
theorem dX7_day_196 : decode cX7_day 196 = .ok (.iastore, 1) := by decide +kernel
theorem dX7_day_197 : decode cX7_day 197 = .ok (.iinc 3 1, 3) := by decide +kernel
theorem dX7_day_200 : decode cX7_day 200 = .ok (.goto (-85), 3) := by decide +kernel
theorem dX7_day_203 : decode cX7_day 203 = .ok (.iconst 0, 1) := by decide +kernel
theorem dX7_day_204 : decode cX7_day 204 = .ok (.istore_n 3, 1) := by decide +kernel
theorem dX7_day_205 : decode cX7_day 205 = .ok (.iload_n 3, 1) := by decide +kernel
theorem dX7_day_206 : decode cX7_day 206 = .ok (.bipush 24, 2) := by decide +kernel
theorem dX7_day_208 : decode cX7_day 208 = .ok (.if_icmp .ge 24, 3) := by decide +kernel
theorem dX7_day_211 : decode cX7_day 211 = .ok (.aload_n 0, 1) := by decide +kernel
theorem dX7_day_212 : decode cX7_day 212 = .ok (.iload_n 3, 1) := by decide +kernel
theorem dX7_day_213 : decode cX7_day 213 = .ok (.iload_n 1, 1) := by decide +kernel
theorem dX7_day_214 : decode cX7_day 214 = .ok (.invokevirtual 150, 3) := by decide +kernel
theorem dX7_day_217 : decode cX7_day 217 = .ok (.ifCond .eq 9, 3) := by decide +kernel
theorem dX7_day_220 : decode cX7_day 220 = .ok (.aload_n 0, 1) := by decide +kernel
theorem dX7_day_221 : decode cX7_day 221 = .ok (.iload_n 3, 1) := by decide +kernel
theorem dX7_day_222 : decode cX7_day 222 = .ok (.iload_n 1, 1) := by decide +kernel
theorem dX7_day_223 : decode cX7_day 223 = .ok (.invokevirtual 175, 3) := by decide +kernel
theorem dX7_day_226 : decode cX7_day 226 = .ok (.iinc 3 1, 3) := by decide +kernel
theorem dX7_day_229 : decode cX7_day 229 = .ok (.goto (-24), 3) := by decide +kernel
theorem dX7_day_232 : decode cX7_day 232 = .ok (.iconst 0, 1) := by decide +kernel
theorem dX7_day_233 : decode cX7_day 233 = .ok (.istore_n 3, 1) := by decide +kernel
theorem dX7_day_234 : decode cX7_day 234 = .ok (.iload_n 3, 1) := by decide +kernel
theorem dX7_day_235 : decode cX7_day 235 = .ok (.bipush 24, 2) := by decide +kernel
theorem dX7_day_237 : decode cX7_day 237 = .ok (.if_icmp .ge 41, 3) := by decide +kernel
theorem dX7_day_240 : decode cX7_day 240 = .ok (.aload_n 0, 1) := by decide +kernel
theorem dX7_day_241 : decode cX7_day 241 = .ok (.getfield 44, 3) := by decide +kernel
theorem dX7_day_244 : decode cX7_day 244 = .ok (.iload_n 3, 1) := by decide +kernel
theorem dX7_day_245 : decode cX7_day 245 = .ok (.aload_n 0, 1) := by decide +kernel
theorem dX7_day_246 : decode cX7_day 246 = .ok (.iload_n 3, 1) := by decide +kernel
theorem dX7_day_247 : decode cX7_day 247 = .ok (.invokevirtual 140, 3) := by decide +kernel
theorem dX7_day_250 : decode cX7_day 250 = .ok (.ifCond .eq 20, 3) := by decide +kernel
theorem dX7_day_253 : decode cX7_day 253 = .ok (.aload_n 0, 1) := by decide +kernel
theorem dX7_day_254 : decode cX7_day 254 = .ok (.aload_n 0, 1) := by decide +kernel
theorem dX7_day_255 : decode cX7_day 255 = .ok (.iload_n 3, 1) := by decide +kernel
theorem dX7_day_256 : decode cX7_day 256 = .ok (.invokevirtual 143, 3) := by decide +kernel
theorem dX7_day_259 : decode cX7_day 259 = .ok (.iload_n 1, 1) := by decide +kernel
theorem dX7_day_260 : decode cX7_day 260 = .ok (.invokevirtual 178, 3) := by decide +kernel
theorem dX7_day_263 : decode cX7_day 263 = .ok (.ifCond .eq 7, 3) := by decide +kernel
theorem dX7_day_266 : decode cX7_day 266 = .ok (.iconst 1, 1) := by decide +kernel
theorem dX7_day_267 : decode cX7_day 267 = .ok (.goto 4, 3) := by decide +kernel
theorem dX7_day_270 : decode cX7_day 270 = .ok (.iconst 0, 1) := by decide +kernel
theorem dX7_day_271 : decode cX7_day 271 = .ok (.bastore, 1) := by decide +kernel
theorem dX7_day_272 : decode cX7_day 272 = .ok (.iinc 3 1, 3) := by decide +kernel
theorem dX7_day_275 : decode cX7_day 275 = .ok (.goto (-41), 3) := by decide +kernel
theorem dX7_day_278 : decode cX7_day 278 = .ok (.aload_n 0, 1) := by decide +kernel
theorem dX7_day_279 : decode cX7_day 279 = .ok (.iload_n 2, 1) := by decide +kernel
theorem dX7_day_280 : decode cX7_day 280 = .ok (.invokevirtual 181, 3) := by decide +kernel
theorem dX7_day_283 : decode cX7_day 283 = .ok (.iconst 0, 1) := by decide +kernel
theorem dX7_day_284 : decode cX7_day 284 = .ok (.istore_n 3, 1) := by decide +kernel
theorem dX7_day_285 : decode cX7_day 285 = .ok (.iload_n 3, 1) := by decide +kernel
theorem dX7_day_286 : decode cX7_day 286 = .ok (.bipush 24, 2) := by decide +kernel
theorem dX7_day_288 : decode cX7_day 288 = .ok (.if_icmp .ge 54, 3) := by decide +kernel
theorem dX7_day_291 : decode cX7_day 291 = .ok (.aload_n 0, 1) := by decide +kernel
theorem dX7_day_292 : decode cX7_day 292 = .ok (.getfield 44, 3) := by decide +kernel
theorem dX7_day_295 : decode cX7_day 295 = .ok (.iload_n 3, 1) := by decide +kernel
theorem dX7_day_296 : decode cX7_day 296 = .ok (.baload, 1) := by decide +kernel
theorem dX7_day_297 : decode cX7_day 297 = .ok (.ifCond .ne 6, 3) := by decide +kernel
theorem dX7_day_300 : decode cX7_day 300 = .ok (.goto 36, 3) := by decide +kernel
theorem dX7_day_303 : decode cX7_day 303 = .ok (.aload_n 0, 1) := by decide +kernel
theorem dX7_day_304 : decode cX7_day 304 = .ok (.iload_n 3, 1) := by decide +kernel
theorem dX7_day_305 : decode cX7_day 305 = .ok (.invokevirtual 162, 3) := by decide +kernel
theorem dX7_day_308 : decode cX7_day 308 = .ok (.bipush 9, 2) := by decide +kernel
theorem dX7_day_310 : decode cX7_day 310 = .ok (.iadd, 1) := by decide +kernel
theorem dX7_day_311 : decode cX7_day 311 = .ok (.bipush 10, 2) := by decide +kernel
theorem dX7_day_313 : decode cX7_day 313 = .ok (.idiv, 1) := by decide +kernel
theorem dX7_day_314 : decode cX7_day 314 = .ok (.istore 4, 2) := by decide +kernel
theorem dX7_day_316 : decode cX7_day 316 = .ok (.aload_n 0, 1) := by decide +kernel
theorem dX7_day_317 : decode cX7_day 317 = .ok (.iload_n 3, 1) := by decide +kernel
theorem dX7_day_318 : decode cX7_day 318 = .ok (.iload 4, 2) := by decide +kernel
theorem dX7_day_320 : decode cX7_day 320 = .ok (.ineg, 1) := by decide +kernel
theorem dX7_day_321 : decode cX7_day 321 = .ok (.invokevirtual 165, 3) := by decide +kernel
theorem dX7_day_324 : decode cX7_day 324 = .ok (.aload_n 0, 1) := by decide +kernel
theorem dX7_day_325 : decode cX7_day 325 = .ok (.getfield 16, 3) := by decide +kernel
theorem dX7_day_328 : decode cX7_day 328 = .ok (.iconst 3, 1) := by decide +kernel
theorem dX7_day_329 : decode cX7_day 329 = .ok (.dup2, 1) := by decide +kernel
theorem dX7_day_330 : decode cX7_day 330 = .ok (.laload, 1) := by decide +kernel
theorem dX7_day_331 : decode cX7_day 331 = .ok (.iload 4, 2) := by decide +kernel
theorem dX7_day_333 : decode cX7_day 333 = .ok (.i2l, 1) := by decide +kernel
theorem dX7_day_334 : decode cX7_day 334 = .ok (.ladd, 1) := by decide +kernel
theorem dX7_day_335 : decode cX7_day 335 = .ok (.lastore, 1) := by decide +kernel
theorem dX7_day_336 : decode cX7_day 336 = .ok (.iinc 3 1, 3) := by decide +kernel
theorem dX7_day_339 : decode cX7_day 339 = .ok (.goto (-54), 3) := by decide +kernel
theorem dX7_day_342 : decode cX7_day 342 = .ok (.aload_n 0, 1) := by decide +kernel
theorem dX7_day_343 : decode cX7_day 343 = .ok (.getfield 7, 3) := by decide +kernel
theorem dX7_day_346 : decode cX7_day 346 = .ok (.sipush 785, 3) := by decide +kernel
theorem dX7_day_349 : decode cX7_day 349 = .ok (.iaload, 1) := by decide +kernel
theorem dX7_day_350 : decode cX7_day 350 = .ok (.bipush 50, 2) := by decide +kernel
theorem dX7_day_352 : decode cX7_day 352 = .ok (.if_icmp .ne 7, 3) := by decide +kernel
theorem dX7_day_355 : decode cX7_day 355 = .ok (.aload_n 0, 1) := by decide +kernel
theorem dX7_day_356 : decode cX7_day 356 = .ok (.invokevirtual 185, 3) := by decide +kernel
theorem dX7_day_359 : decode cX7_day 359 = .ok (.return_, 1) := by decide +kernel
theorem cv_7_159 : CV RX7 159 2 7 I_X7_partnersOf := ⟨⟨⟨gm 1013 (by decide +kernel) rfl, gm 1016 (by decide +kernel) rfl, gm 44 (by decide +kernel) rfl, mh_7.1, mh_7.2, by decide +kernel⟩, gm 1015 (by decide +kernel) rfl, gm 20 (by decide +kernel) rfl⟩, ⟨_, _, rfl⟩, rfl, rfl⟩
theorem cv_7_175 : CV RX7 175 2 7 I_X7_sets := ⟨⟨⟨gm 1076 (by decide +kernel) rfl, gm 1079 (by decide +kernel) rfl, gm 44 (by decide +kernel) rfl, mh_7.1, mh_7.2, by decide +kernel⟩, gm 1078 (by decide +kernel) rfl, gm 29 (by decide +kernel) rfl⟩, ⟨_, _, rfl⟩, rfl, rfl⟩
theorem cv_7_178 : CV RX7 178 2 7 I_X7_ripens := ⟨⟨⟨gm 1080 (by decide +kernel) rfl, gm 1083 (by decide +kernel) rfl, gm 44 (by decide +kernel) rfl, mh_7.1, mh_7.2, by decide +kernel⟩, gm 1082 (by decide +kernel) rfl, gm 30 (by decide +kernel) rfl⟩, ⟨_, _, rfl⟩, rfl, rfl⟩
theorem cv_7_181 : CV RX7 181 1 7 I_X7_pick := ⟨⟨⟨gm 1084 (by decide +kernel) rfl, gm 1087 (by decide +kernel) rfl, gm 44 (by decide +kernel) rfl, mh_7.1, mh_7.2, by decide +kernel⟩, gm 1086 (by decide +kernel) rfl, gm 31 (by decide +kernel) rfl⟩, ⟨_, _, rfl⟩, rfl, rfl⟩
theorem cv_7_185 : CV RX7 185 0 7 I_X7_ends := ⟨⟨⟨gm 1092 (by decide +kernel) rfl, gm 1095 (by decide +kernel) rfl, gm 44 (by decide +kernel) rfl, mh_7.1, mh_7.2, by decide +kernel⟩, gm 1094 (by decide +kernel) rfl, gm 33 (by decide +kernel) rfl⟩, ⟨_, _, rfl⟩, rfl, rfl⟩
def f_X7_day_L55 (fuel : Nat) (K : Int32 → Int32 → St → Option (St)) (a55_1 : Int32) (a55_2 : Int32) (a55_3 : Int32) (S55 : St) : Option (St) := match fuel with
  | 0 => none
  | n + 1 => if a55_3 < (rd S55 109 (ix (782 : Int32))) then ((f_X7_sortOf a55_3 (3 : Int32) S55).bind fun v72 => (if inb (f_X7_cell a55_3 (a55_2 - v72)) 788 = true then (if inb (f_X7_cell a55_3 (a55_2 - v72)) 788 = true then (f_X7_day_L55 n K a55_1 a55_2 (a55_3 + (1 : Int32)) (wr (wrL S55 111 (ix (7 : Int32)) ((rdL S55 111 (ix (7 : Int32))) + ((rd S55 109 (ix (f_X7_cell a55_3 (a55_2 - v72)))).toInt64))) 109 (ix (f_X7_cell a55_3 (a55_2 - v72))) (0 : Int32))) else none) else none)) else (K a55_1 a55_2 S55)
def f_X7_day_L115 (fuel : Nat) (K : Int32 → Int32 → St → Option (St)) (a115_1 : Int32) (a115_2 : Int32) (a115_3 : Int32) (S115 : St) : Option (St) := match fuel with
  | 0 => none
  | n + 1 => if a115_3 < (24 : Int32) then ((f_X7_partnersOf a115_3 a115_1 S115).bind fun v129 => (if inb a115_3 24 = true then ((f_X7_isPart a115_3 (wr S115 119 (ix a115_3) v129)).bind fun v135 => (if v135 = true then ((f_X7_budsOf (a115_3 / (2 : Int32)) (wr S115 119 (ix a115_3) v129)).bind fun v145 => ((f_X7_get (a115_3 / (2 : Int32)) (2 : Int32) (wr S115 119 (ix a115_3) v129)).bind fun v164 => (if v164 = (2 : Int32) then (if (a115_3 - a115_3 / (2 : Int32) * (2 : Int32)) = 0 then (if inb a115_3 24 = true then (f_X7_day_L115 n K a115_1 a115_2 (a115_3 + (1 : Int32)) (wr (wr S115 119 (ix a115_3) v129) 118 (ix a115_3) (v145 / (2 : Int32)))) else none) else (if inb a115_3 24 = true then (f_X7_day_L115 n K a115_1 a115_2 (a115_3 + (1 : Int32)) (wr (wr S115 119 (ix a115_3) v129) 118 (ix a115_3) (v145 - (v145 / (2 : Int32))))) else none)) else (if inb a115_3 24 = true then (f_X7_day_L115 n K a115_1 a115_2 (a115_3 + (1 : Int32)) (wr (wr S115 119 (ix a115_3) v129) 118 (ix a115_3) v145)) else none)))) else ((f_X7_get (a115_3 / (2 : Int32)) (2 : Int32) (wr S115 119 (ix a115_3) v129)).bind fun v164 => (if v164 = (2 : Int32) then (if (a115_3 - a115_3 / (2 : Int32) * (2 : Int32)) = 0 then (if inb a115_3 24 = true then (f_X7_day_L115 n K a115_1 a115_2 (a115_3 + (1 : Int32)) (wr (wr S115 119 (ix a115_3) v129) 118 (ix a115_3) ((0 : Int32) / (2 : Int32)))) else none) else (if inb a115_3 24 = true then (f_X7_day_L115 n K a115_1 a115_2 (a115_3 + (1 : Int32)) (wr (wr S115 119 (ix a115_3) v129) 118 (ix a115_3) ((0 : Int32) - ((0 : Int32) / (2 : Int32))))) else none)) else (if inb a115_3 24 = true then (f_X7_day_L115 n K a115_1 a115_2 (a115_3 + (1 : Int32)) (wr (wr S115 119 (ix a115_3) v129) 118 (ix a115_3) (0 : Int32))) else none))))) else none)) else (K a115_1 a115_2 S115)
def f_X7_day_L205 (fuel : Nat) (K : Int32 → Int32 → St → Option (St)) (a205_1 : Int32) (a205_2 : Int32) (a205_3 : Int32) (S205 : St) : Option (St) := match fuel with
  | 0 => none
  | n + 1 => if a205_3 < (24 : Int32) then ((f_X7_isOpen a205_3 a205_1 S205).bind fun v214 => (if v214 = true then ((f_X7_sets a205_3 a205_1 S205).bind fun v223 => (f_X7_day_L205 n K a205_1 a205_2 (a205_3 + (1 : Int32)) v223)) else (f_X7_day_L205 n K a205_1 a205_2 (a205_3 + (1 : Int32)) S205))) else (K a205_1 a205_2 S205)
def f_X7_day_L234 (fuel : Nat) (K : Int32 → St → Option (St)) (a234_1 : Int32) (a234_2 : Int32) (a234_3 : Int32) (S234 : St) : Option (St) := match fuel with
  | 0 => none
  | n + 1 => if a234_3 < (24 : Int32) then ((f_X7_isPart a234_3 S234).bind fun v247 => (if v247 = true then ((f_X7_sortOfPart a234_3 S234).bind fun v256 => ((f_X7_ripens v256 a234_1 S234).bind fun v260 => (if v260 = true then (if inb a234_3 24 = true then (f_X7_day_L234 n K a234_1 a234_2 (a234_3 + (1 : Int32)) (wr S234 120 (ix a234_3) (1 : Int32))) else none) else (if inb a234_3 24 = true then (f_X7_day_L234 n K a234_1 a234_2 (a234_3 + (1 : Int32)) (wr S234 120 (ix a234_3) (0 : Int32))) else none)))) else (if inb a234_3 24 = true then (f_X7_day_L234 n K a234_1 a234_2 (a234_3 + (1 : Int32)) (wr S234 120 (ix a234_3) (0 : Int32))) else none))) else (K a234_2 S234)
def f_X7_day_L285 (fuel : Nat) (K : St → Option (St)) (a285_3 : Int32) (S285 : St) : Option (St) := match fuel with
  | 0 => none
  | n + 1 => if a285_3 < (24 : Int32) then (if inb a285_3 24 = true then (if (rd S285 120 (ix a285_3)) = 0 then (f_X7_day_L285 n K (a285_3 + (1 : Int32)) S285) else ((f_X7_fruitsOf a285_3 S285).bind fun v305 => ((f_X7_grow a285_3 (-((v305 + (9 : Int32)) / (10 : Int32))) S285).bind fun v321 => (f_X7_day_L285 n K (a285_3 + (1 : Int32)) (wrL v321 111 (ix (3 : Int32)) ((rdL v321 111 (ix (3 : Int32))) + (((v305 + (9 : Int32)) / (10 : Int32)).toInt64))))))) else none) else (K S285)
def f_X7_day  (S : St) : Option (St) := (f_X7_stands (rd S 109 (ix (785 : Int32))) S).bind fun v37 => (if inb ((732 : Int32) + (rd S 109 (ix (785 : Int32)))) 788 = true then (f_X7_day_L55 6000 (fun e113_1 e113_2 T113 => (f_X7_day_L115 6000 (fun e203_1 e203_2 T203 => (f_X7_day_L205 6000 (fun e232_1 e232_2 T232 => (f_X7_day_L234 6000 (fun e278_2 T278 => ((f_X7_pick e278_2 T278).bind fun v280 => (f_X7_day_L285 6000 (fun T342 => (if (rd T342 109 (ix (785 : Int32))) = (50 : Int32) then ((f_X7_ends T342).bind fun v356 => (some v356)) else (some T342))) (0 : Int32) v280))) e232_1 e232_2 (0 : Int32) T232)) e203_1 e203_2 (0 : Int32) T203)) e113_1 e113_2 (0 : Int32) T113)) (rd S 109 (ix (785 : Int32))) (((64 : Int32) + ((50 : Int32) * (rd S 109 (ix (784 : Int32))))) + (rd S 109 (ix (785 : Int32)))) (0 : Int32) (wr (wr S 109 (ix ((732 : Int32) + (rd S 109 (ix (785 : Int32))))) v37) 109 (ix (785 : Int32)) ((rd (wr S 109 (ix ((732 : Int32) + (rd S 109 (ix (785 : Int32))))) v37) 109 (ix (785 : Int32))) + (1 : Int32)))) else none)
set_option maxRecDepth 100000 in
theorem jl_X7_day_55 (l : Launch) (w : Wd) (K : Int32 → Int32 → St → Option (St)) (n : Nat) : ∀ (a55_1 : Int32) (a55_2 : Int32) (a55_3 : Int32) (S55 : St), (∀ (e113_1 : Int32) (e113_2 : Int32) (S' : St) , J l w I_X7_day 113 [(0, .ref (w.2.1 + 108)), (1, .int e113_1), (2, .int e113_2)] [] S' (fun b => (none, b)) (K e113_1 e113_2 S')) → J l w I_X7_day 55 [(0, .ref (w.2.1 + 108)), (1, .int a55_1), (2, .int a55_2), (3, .int a55_3)] [] S55 (fun b => (none, b)) (f_X7_day_L55 n K a55_1 a55_2 a55_3 S55) := by
  induction n with
  | zero =>
    intro a55_1 a55_2 a55_3 S55 hK b h
    simp only [f_X7_day_L55] at h
    cases h
  | succ n ih =>
    intro a55_1 a55_2 a55_3 S55 hK
    rw [f_X7_day_L55]
    refine j_iload_n (y := I_X7_day) 3 dX7_day_55 rfl rfl ?_
    refine j_aload_n (y := I_X7_day) 0 dX7_day_56 rfl rfl ?_
    refine j_getR (y := I_X7_day) (j := 109) fl_7_7 k_108 rfl rfl dX7_day_57 ?_
    refine j_sipush (y := I_X7_day) (v := 782) dX7_day_60 (by decide) ?_
    refine j_ialdL (y := I_X7_day) k_109 (by decide) dX7_day_63 ?_
    refine j_icmp_ge (y := I_X7_day) 113 dX7_day_64 (by decide) (fun h64 => ?_) (fun h64 => ?_)
    · refine j_sub [0, 1, 2] rfl ?_
      exact hK a55_1 a55_2 S55
    · refine j_iload_n (y := I_X7_day) 3 dX7_day_67 rfl rfl ?_
      refine j_iload_n (y := I_X7_day) 2 dX7_day_68 rfl rfl ?_
      refine j_aload_n (y := I_X7_day) 0 dX7_day_69 rfl rfl ?_
      refine j_iload_n (y := I_X7_day) 3 dX7_day_70 rfl rfl ?_
      refine j_iconst (y := I_X7_day) (v := 3) dX7_day_71 (by decide) ?_
      refine j_callViR (y := I_X7_day) (As := [.int a55_3, .int (3 : Int32)]) cv_7_98 ⟨Nat.le_of_ble_eq_true rfl, Nat.le_of_ble_eq_true rfl⟩ k_108 rfl (Nat.le_of_ble_eq_true rfl) dX7_day_72 (c_X7_sortOf l w a55_3 (3 : Int32) S55) (fun v72 h72 => ?_)
      refine j_isub (y := I_X7_day) dX7_day_75 ?_
      refine j_callSiT (y := I_X7_day) (As := [.int a55_3, .int (a55_2 - v72)]) cv_7_172 ⟨Nat.le_of_ble_eq_true rfl, Nat.le_of_ble_eq_true rfl⟩ rfl (Nat.le_of_ble_eq_true rfl) dX7_day_76 (c_X7_cell l w a55_3 (a55_2 - v72) S55) ?_
      refine j_istore (y := I_X7_day) (ls' := [(4, .int (f_X7_cell a55_3 (a55_2 - v72))), (0, .ref (w.2.1 + 108)), (1, .int a55_1), (2, .int a55_2), (3, .int a55_3)]) dX7_day_79 (by decide) rfl ?_
      refine j_aload_n (y := I_X7_day) 1 dX7_day_81 rfl rfl ?_
      refine j_getR (y := I_X7_day) (j := 111) fl_7_16 k_108 rfl rfl dX7_day_82 ?_
      refine j_bipush (y := I_X7_day) (v := 7) dX7_day_85 (by decide) ?_
      refine j_dup2 (y := I_X7_day) dX7_day_87 rfl rfl ?_
      refine j_laldL (y := I_X7_day) k_111 (by decide) dX7_day_88 ?_
      refine j_aload_n (y := I_X7_day) 1 dX7_day_89 rfl rfl ?_
      refine j_getR (y := I_X7_day) (j := 109) fl_7_7 k_108 rfl rfl dX7_day_90 ?_
      refine j_iload (y := I_X7_day) 0 dX7_day_93 rfl ?_
      refine j_iald (y := I_X7_day) k_109 dX7_day_95 (fun h95 => ?_)
      refine j_i2l (y := I_X7_day) dX7_day_96 ?_
      refine j_ladd (y := I_X7_day) dX7_day_97 ?_
      refine j_lastL (y := I_X7_day) k_111 (by decide) dX7_day_98 ?_
      refine j_aload_n (y := I_X7_day) 1 dX7_day_99 rfl rfl ?_
      refine j_getR (y := I_X7_day) (j := 109) fl_7_7 k_108 rfl rfl dX7_day_100 ?_
      refine j_iload (y := I_X7_day) 0 dX7_day_103 rfl ?_
      refine j_iconst (y := I_X7_day) (v := 0) dX7_day_105 (by decide) ?_
      refine j_iast (y := I_X7_day) k_109 dX7_day_106 (fun h106 => ?_)
      refine j_iinc (y := I_X7_day) 4 (ls' := [(3, .int (a55_3 + (1 : Int32))), (4, .int (f_X7_cell a55_3 (a55_2 - v72))), (0, .ref (w.2.1 + 108)), (1, .int a55_1), (2, .int a55_2)]) dX7_day_107 rfl (ii _ _ (by decide) _) (by decide) rfl ?_
      refine j_goto (y := I_X7_day) 55 dX7_day_110 (by decide) ?_
      refine j_sub [2, 3, 4, 0] rfl ?_
      exact ih a55_1 a55_2 (a55_3 + (1 : Int32)) (wr (wrL S55 111 (ix (7 : Int32)) ((rdL S55 111 (ix (7 : Int32))) + ((rd S55 109 (ix (f_X7_cell a55_3 (a55_2 - v72)))).toInt64))) 109 (ix (f_X7_cell a55_3 (a55_2 - v72))) (0 : Int32)) hK
set_option maxRecDepth 100000 in
theorem jl_X7_day_115 (l : Launch) (w : Wd) (K : Int32 → Int32 → St → Option (St)) (n : Nat) : ∀ (a115_1 : Int32) (a115_2 : Int32) (a115_3 : Int32) (S115 : St), (∀ (e203_1 : Int32) (e203_2 : Int32) (S' : St) , J l w I_X7_day 203 [(0, .ref (w.2.1 + 108)), (1, .int e203_1), (2, .int e203_2)] [] S' (fun b => (none, b)) (K e203_1 e203_2 S')) → J l w I_X7_day 115 [(0, .ref (w.2.1 + 108)), (1, .int a115_1), (2, .int a115_2), (3, .int a115_3)] [] S115 (fun b => (none, b)) (f_X7_day_L115 n K a115_1 a115_2 a115_3 S115) := by
  induction n with
  | zero =>
    intro a115_1 a115_2 a115_3 S115 hK b h
    simp only [f_X7_day_L115] at h
    cases h
  | succ n ih =>
    intro a115_1 a115_2 a115_3 S115 hK
    rw [f_X7_day_L115]
    refine j_iload_n (y := I_X7_day) 3 dX7_day_115 rfl rfl ?_
    refine j_bipush (y := I_X7_day) (v := 24) dX7_day_116 (by decide) ?_
    refine j_icmp_ge (y := I_X7_day) 203 dX7_day_118 (by decide) (fun h118 => ?_) (fun h118 => ?_)
    · refine j_sub [0, 1, 2] rfl ?_
      exact hK a115_1 a115_2 S115
    · refine j_aload_n (y := I_X7_day) 0 dX7_day_121 rfl rfl ?_
      refine j_getR (y := I_X7_day) (j := 119) fl_7_41 k_108 rfl rfl dX7_day_122 ?_
      refine j_iload_n (y := I_X7_day) 3 dX7_day_125 rfl rfl ?_
      refine j_aload_n (y := I_X7_day) 0 dX7_day_126 rfl rfl ?_
      refine j_iload_n (y := I_X7_day) 3 dX7_day_127 rfl rfl ?_
      refine j_iload_n (y := I_X7_day) 1 dX7_day_128 rfl rfl ?_
      refine j_callViR (y := I_X7_day) (As := [.int a115_3, .int a115_1]) cv_7_159 ⟨Nat.le_of_ble_eq_true rfl, Nat.le_of_ble_eq_true rfl⟩ k_108 rfl (Nat.le_of_ble_eq_true rfl) dX7_day_129 (c_X7_partnersOf l w a115_3 a115_1 S115) (fun v129 h129 => ?_)
      refine j_iast (y := I_X7_day) k_119 dX7_day_132 (fun h132 => ?_)
      refine j_aload_n (y := I_X7_day) 0 dX7_day_133 rfl rfl ?_
      refine j_iload_n (y := I_X7_day) 3 dX7_day_134 rfl rfl ?_
      refine j_callVzR (y := I_X7_day) (As := [.int a115_3]) cv_7_140 ⟨Nat.le_of_ble_eq_true rfl, Nat.le_of_ble_eq_true rfl⟩ k_108 rfl (Nat.le_of_ble_eq_true rfl) dX7_day_135 (c_X7_isPart l w a115_3 (wr S115 119 (ix a115_3) v129)) (fun v135 h135 => ?_)
      refine j_if_eqB (y := I_X7_day) 151 dX7_day_138 (by decide) (fun h138 => ?_) (fun h138 => ?_)
      · refine j_iconst (y := I_X7_day) (v := 0) dX7_day_151 (by decide) ?_
        refine j_istore (y := I_X7_day) (ls' := [(4, .int (0 : Int32)), (0, .ref (w.2.1 + 108)), (1, .int a115_1), (2, .int a115_2), (3, .int a115_3)]) dX7_day_152 (by decide) rfl ?_
        refine j_aload_n (y := I_X7_day) 1 dX7_day_154 rfl rfl ?_
        refine j_getR (y := I_X7_day) (j := 118) fl_7_38 k_108 rfl rfl dX7_day_155 ?_
        refine j_iload_n (y := I_X7_day) 4 dX7_day_158 rfl rfl ?_
        refine j_aload_n (y := I_X7_day) 1 dX7_day_159 rfl rfl ?_
        refine j_iload_n (y := I_X7_day) 4 dX7_day_160 rfl rfl ?_
        refine j_iconst (y := I_X7_day) (v := 2) dX7_day_161 (by decide) ?_
        refine j_idivL (y := I_X7_day) dX7_day_162 (by decide) ?_
        refine j_iconst (y := I_X7_day) (v := 2) dX7_day_163 (by decide) ?_
        refine j_callViR (y := I_X7_day) (As := [.int (a115_3 / (2 : Int32)), .int (2 : Int32)]) cv_7_68 ⟨Nat.le_of_ble_eq_true rfl, Nat.le_of_ble_eq_true rfl⟩ k_108 rfl (Nat.le_of_ble_eq_true rfl) dX7_day_164 (c_X7_get l w (a115_3 / (2 : Int32)) (2 : Int32) (wr S115 119 (ix a115_3) v129)) (fun v164 h164 => ?_)
        refine j_iconst (y := I_X7_day) (v := 2) dX7_day_167 (by decide) ?_
        refine j_icmp_eq (y := I_X7_day) 176 dX7_day_168 (by decide) (fun h168 => ?_) (fun h168 => ?_)
        · refine j_iload_n (y := I_X7_day) 4 dX7_day_176 rfl rfl ?_
          refine j_iconst (y := I_X7_day) (v := 2) dX7_day_177 (by decide) ?_
          refine j_iremL (y := I_X7_day) dX7_day_178 (by decide) ?_
          refine j_if_ne (y := I_X7_day) 189 dX7_day_179 (by decide) (fun h179 => ?_) (fun h179 => ?_)
          · refine j_iload (y := I_X7_day) 0 dX7_day_189 rfl ?_
            refine j_iload (y := I_X7_day) 0 dX7_day_191 rfl ?_
            refine j_iconst (y := I_X7_day) (v := 2) dX7_day_193 (by decide) ?_
            refine j_idivL (y := I_X7_day) dX7_day_194 (by decide) ?_
            refine j_isub (y := I_X7_day) dX7_day_195 ?_
            refine j_iast (y := I_X7_day) k_118 dX7_day_196 (fun h196 => ?_)
            refine j_iinc (y := I_X7_day) 4 (ls' := [(3, .int (a115_3 + (1 : Int32))), (4, .int (0 : Int32)), (0, .ref (w.2.1 + 108)), (1, .int a115_1), (2, .int a115_2)]) dX7_day_197 rfl (ii _ _ (by decide) _) (by decide) rfl ?_
            refine j_goto (y := I_X7_day) 115 dX7_day_200 (by decide) ?_
            refine j_sub [2, 3, 4, 0] rfl ?_
            exact ih a115_1 a115_2 (a115_3 + (1 : Int32)) (wr (wr S115 119 (ix a115_3) v129) 118 (ix a115_3) ((0 : Int32) - ((0 : Int32) / (2 : Int32)))) hK
          · refine j_iload (y := I_X7_day) 0 dX7_day_182 rfl ?_
            refine j_iconst (y := I_X7_day) (v := 2) dX7_day_184 (by decide) ?_
            refine j_idivL (y := I_X7_day) dX7_day_185 (by decide) ?_
            refine j_goto (y := I_X7_day) 196 dX7_day_186 (by decide) ?_
            refine j_iast (y := I_X7_day) k_118 dX7_day_196 (fun h196 => ?_)
            refine j_iinc (y := I_X7_day) 4 (ls' := [(3, .int (a115_3 + (1 : Int32))), (4, .int (0 : Int32)), (0, .ref (w.2.1 + 108)), (1, .int a115_1), (2, .int a115_2)]) dX7_day_197 rfl (ii _ _ (by decide) _) (by decide) rfl ?_
            refine j_goto (y := I_X7_day) 115 dX7_day_200 (by decide) ?_
            refine j_sub [2, 3, 4, 0] rfl ?_
            exact ih a115_1 a115_2 (a115_3 + (1 : Int32)) (wr (wr S115 119 (ix a115_3) v129) 118 (ix a115_3) ((0 : Int32) / (2 : Int32))) hK
        · refine j_iload (y := I_X7_day) 0 dX7_day_171 rfl ?_
          refine j_goto (y := I_X7_day) 196 dX7_day_173 (by decide) ?_
          refine j_iast (y := I_X7_day) k_118 dX7_day_196 (fun h196 => ?_)
          refine j_iinc (y := I_X7_day) 4 (ls' := [(3, .int (a115_3 + (1 : Int32))), (4, .int (0 : Int32)), (0, .ref (w.2.1 + 108)), (1, .int a115_1), (2, .int a115_2)]) dX7_day_197 rfl (ii _ _ (by decide) _) (by decide) rfl ?_
          refine j_goto (y := I_X7_day) 115 dX7_day_200 (by decide) ?_
          refine j_sub [2, 3, 4, 0] rfl ?_
          exact ih a115_1 a115_2 (a115_3 + (1 : Int32)) (wr (wr S115 119 (ix a115_3) v129) 118 (ix a115_3) (0 : Int32)) hK
      · refine j_aload_n (y := I_X7_day) 0 dX7_day_141 rfl rfl ?_
        refine j_iload_n (y := I_X7_day) 3 dX7_day_142 rfl rfl ?_
        refine j_iconst (y := I_X7_day) (v := 2) dX7_day_143 (by decide) ?_
        refine j_idivL (y := I_X7_day) dX7_day_144 (by decide) ?_
        refine j_callViR (y := I_X7_day) (As := [.int (a115_3 / (2 : Int32))]) cv_7_104 ⟨Nat.le_of_ble_eq_true rfl, Nat.le_of_ble_eq_true rfl⟩ k_108 rfl (Nat.le_of_ble_eq_true rfl) dX7_day_145 (c_X7_budsOf l w (a115_3 / (2 : Int32)) (wr S115 119 (ix a115_3) v129)) (fun v145 h145 => ?_)
        refine j_goto (y := I_X7_day) 152 dX7_day_148 (by decide) ?_
        refine j_istore (y := I_X7_day) (ls' := [(4, .int v145), (0, .ref (w.2.1 + 108)), (1, .int a115_1), (2, .int a115_2), (3, .int a115_3)]) dX7_day_152 (by decide) rfl ?_
        refine j_aload_n (y := I_X7_day) 1 dX7_day_154 rfl rfl ?_
        refine j_getR (y := I_X7_day) (j := 118) fl_7_38 k_108 rfl rfl dX7_day_155 ?_
        refine j_iload_n (y := I_X7_day) 4 dX7_day_158 rfl rfl ?_
        refine j_aload_n (y := I_X7_day) 1 dX7_day_159 rfl rfl ?_
        refine j_iload_n (y := I_X7_day) 4 dX7_day_160 rfl rfl ?_
        refine j_iconst (y := I_X7_day) (v := 2) dX7_day_161 (by decide) ?_
        refine j_idivL (y := I_X7_day) dX7_day_162 (by decide) ?_
        refine j_iconst (y := I_X7_day) (v := 2) dX7_day_163 (by decide) ?_
        refine j_callViR (y := I_X7_day) (As := [.int (a115_3 / (2 : Int32)), .int (2 : Int32)]) cv_7_68 ⟨Nat.le_of_ble_eq_true rfl, Nat.le_of_ble_eq_true rfl⟩ k_108 rfl (Nat.le_of_ble_eq_true rfl) dX7_day_164 (c_X7_get l w (a115_3 / (2 : Int32)) (2 : Int32) (wr S115 119 (ix a115_3) v129)) (fun v164 h164 => ?_)
        refine j_iconst (y := I_X7_day) (v := 2) dX7_day_167 (by decide) ?_
        refine j_icmp_eq (y := I_X7_day) 176 dX7_day_168 (by decide) (fun h168 => ?_) (fun h168 => ?_)
        · refine j_iload_n (y := I_X7_day) 4 dX7_day_176 rfl rfl ?_
          refine j_iconst (y := I_X7_day) (v := 2) dX7_day_177 (by decide) ?_
          refine j_iremL (y := I_X7_day) dX7_day_178 (by decide) ?_
          refine j_if_ne (y := I_X7_day) 189 dX7_day_179 (by decide) (fun h179 => ?_) (fun h179 => ?_)
          · refine j_iload (y := I_X7_day) 0 dX7_day_189 rfl ?_
            refine j_iload (y := I_X7_day) 0 dX7_day_191 rfl ?_
            refine j_iconst (y := I_X7_day) (v := 2) dX7_day_193 (by decide) ?_
            refine j_idivL (y := I_X7_day) dX7_day_194 (by decide) ?_
            refine j_isub (y := I_X7_day) dX7_day_195 ?_
            refine j_iast (y := I_X7_day) k_118 dX7_day_196 (fun h196 => ?_)
            refine j_iinc (y := I_X7_day) 4 (ls' := [(3, .int (a115_3 + (1 : Int32))), (4, .int v145), (0, .ref (w.2.1 + 108)), (1, .int a115_1), (2, .int a115_2)]) dX7_day_197 rfl (ii _ _ (by decide) _) (by decide) rfl ?_
            refine j_goto (y := I_X7_day) 115 dX7_day_200 (by decide) ?_
            refine j_sub [2, 3, 4, 0] rfl ?_
            exact ih a115_1 a115_2 (a115_3 + (1 : Int32)) (wr (wr S115 119 (ix a115_3) v129) 118 (ix a115_3) (v145 - (v145 / (2 : Int32)))) hK
          · refine j_iload (y := I_X7_day) 0 dX7_day_182 rfl ?_
            refine j_iconst (y := I_X7_day) (v := 2) dX7_day_184 (by decide) ?_
            refine j_idivL (y := I_X7_day) dX7_day_185 (by decide) ?_
            refine j_goto (y := I_X7_day) 196 dX7_day_186 (by decide) ?_
            refine j_iast (y := I_X7_day) k_118 dX7_day_196 (fun h196 => ?_)
            refine j_iinc (y := I_X7_day) 4 (ls' := [(3, .int (a115_3 + (1 : Int32))), (4, .int v145), (0, .ref (w.2.1 + 108)), (1, .int a115_1), (2, .int a115_2)]) dX7_day_197 rfl (ii _ _ (by decide) _) (by decide) rfl ?_
            refine j_goto (y := I_X7_day) 115 dX7_day_200 (by decide) ?_
            refine j_sub [2, 3, 4, 0] rfl ?_
            exact ih a115_1 a115_2 (a115_3 + (1 : Int32)) (wr (wr S115 119 (ix a115_3) v129) 118 (ix a115_3) (v145 / (2 : Int32))) hK
        · refine j_iload (y := I_X7_day) 0 dX7_day_171 rfl ?_
          refine j_goto (y := I_X7_day) 196 dX7_day_173 (by decide) ?_
          refine j_iast (y := I_X7_day) k_118 dX7_day_196 (fun h196 => ?_)
          refine j_iinc (y := I_X7_day) 4 (ls' := [(3, .int (a115_3 + (1 : Int32))), (4, .int v145), (0, .ref (w.2.1 + 108)), (1, .int a115_1), (2, .int a115_2)]) dX7_day_197 rfl (ii _ _ (by decide) _) (by decide) rfl ?_
          refine j_goto (y := I_X7_day) 115 dX7_day_200 (by decide) ?_
          refine j_sub [2, 3, 4, 0] rfl ?_
          exact ih a115_1 a115_2 (a115_3 + (1 : Int32)) (wr (wr S115 119 (ix a115_3) v129) 118 (ix a115_3) v145) hK
set_option maxRecDepth 100000 in
theorem jl_X7_day_205 (l : Launch) (w : Wd) (K : Int32 → Int32 → St → Option (St)) (n : Nat) : ∀ (a205_1 : Int32) (a205_2 : Int32) (a205_3 : Int32) (S205 : St), (∀ (e232_1 : Int32) (e232_2 : Int32) (S' : St) , J l w I_X7_day 232 [(0, .ref (w.2.1 + 108)), (1, .int e232_1), (2, .int e232_2)] [] S' (fun b => (none, b)) (K e232_1 e232_2 S')) → J l w I_X7_day 205 [(0, .ref (w.2.1 + 108)), (1, .int a205_1), (2, .int a205_2), (3, .int a205_3)] [] S205 (fun b => (none, b)) (f_X7_day_L205 n K a205_1 a205_2 a205_3 S205) := by
  induction n with
  | zero =>
    intro a205_1 a205_2 a205_3 S205 hK b h
    simp only [f_X7_day_L205] at h
    cases h
  | succ n ih =>
    intro a205_1 a205_2 a205_3 S205 hK
    rw [f_X7_day_L205]
    refine j_iload_n (y := I_X7_day) 3 dX7_day_205 rfl rfl ?_
    refine j_bipush (y := I_X7_day) (v := 24) dX7_day_206 (by decide) ?_
    refine j_icmp_ge (y := I_X7_day) 232 dX7_day_208 (by decide) (fun h208 => ?_) (fun h208 => ?_)
    · refine j_sub [0, 1, 2] rfl ?_
      exact hK a205_1 a205_2 S205
    · refine j_aload_n (y := I_X7_day) 0 dX7_day_211 rfl rfl ?_
      refine j_iload_n (y := I_X7_day) 3 dX7_day_212 rfl rfl ?_
      refine j_iload_n (y := I_X7_day) 1 dX7_day_213 rfl rfl ?_
      refine j_callVzR (y := I_X7_day) (As := [.int a205_3, .int a205_1]) cv_7_150 ⟨Nat.le_of_ble_eq_true rfl, Nat.le_of_ble_eq_true rfl⟩ k_108 rfl (Nat.le_of_ble_eq_true rfl) dX7_day_214 (c_X7_isOpen l w a205_3 a205_1 S205) (fun v214 h214 => ?_)
      refine j_if_eqB (y := I_X7_day) 226 dX7_day_217 (by decide) (fun h217 => ?_) (fun h217 => ?_)
      · refine j_iinc (y := I_X7_day) 3 (ls' := [(3, .int (a205_3 + (1 : Int32))), (0, .ref (w.2.1 + 108)), (1, .int a205_1), (2, .int a205_2)]) dX7_day_226 rfl (ii _ _ (by decide) _) (by decide) rfl ?_
        refine j_goto (y := I_X7_day) 205 dX7_day_229 (by decide) ?_
        refine j_sub [1, 2, 3, 0] rfl ?_
        exact ih a205_1 a205_2 (a205_3 + (1 : Int32)) S205 hK
      · refine j_aload_n (y := I_X7_day) 0 dX7_day_220 rfl rfl ?_
        refine j_iload_n (y := I_X7_day) 3 dX7_day_221 rfl rfl ?_
        refine j_iload_n (y := I_X7_day) 1 dX7_day_222 rfl rfl ?_
        refine j_callVvS (y := I_X7_day) (As := [.int a205_3, .int a205_1]) cv_7_175 ⟨Nat.le_of_ble_eq_true rfl, Nat.le_of_ble_eq_true rfl⟩ k_108 rfl (Nat.le_of_ble_eq_true rfl) dX7_day_223 (c_X7_sets l w a205_3 a205_1 S205) (fun v223 h223 => ?_)
        refine j_iinc (y := I_X7_day) 3 (ls' := [(3, .int (a205_3 + (1 : Int32))), (0, .ref (w.2.1 + 108)), (1, .int a205_1), (2, .int a205_2)]) dX7_day_226 rfl (ii _ _ (by decide) _) (by decide) rfl ?_
        refine j_goto (y := I_X7_day) 205 dX7_day_229 (by decide) ?_
        refine j_sub [1, 2, 3, 0] rfl ?_
        exact ih a205_1 a205_2 (a205_3 + (1 : Int32)) v223 hK
set_option maxRecDepth 100000 in
theorem jl_X7_day_234 (l : Launch) (w : Wd) (K : Int32 → St → Option (St)) (n : Nat) : ∀ (a234_1 : Int32) (a234_2 : Int32) (a234_3 : Int32) (S234 : St), (∀ (e278_2 : Int32) (S' : St) , J l w I_X7_day 278 [(0, .ref (w.2.1 + 108)), (2, .int e278_2)] [] S' (fun b => (none, b)) (K e278_2 S')) → J l w I_X7_day 234 [(0, .ref (w.2.1 + 108)), (1, .int a234_1), (2, .int a234_2), (3, .int a234_3)] [] S234 (fun b => (none, b)) (f_X7_day_L234 n K a234_1 a234_2 a234_3 S234) := by
  induction n with
  | zero =>
    intro a234_1 a234_2 a234_3 S234 hK b h
    simp only [f_X7_day_L234] at h
    cases h
  | succ n ih =>
    intro a234_1 a234_2 a234_3 S234 hK
    rw [f_X7_day_L234]
    refine j_iload_n (y := I_X7_day) 3 dX7_day_234 rfl rfl ?_
    refine j_bipush (y := I_X7_day) (v := 24) dX7_day_235 (by decide) ?_
    refine j_icmp_ge (y := I_X7_day) 278 dX7_day_237 (by decide) (fun h237 => ?_) (fun h237 => ?_)
    · refine j_sub [0, 2] rfl ?_
      exact hK a234_2 S234
    · refine j_aload_n (y := I_X7_day) 0 dX7_day_240 rfl rfl ?_
      refine j_getR (y := I_X7_day) (j := 120) fl_7_44 k_108 rfl rfl dX7_day_241 ?_
      refine j_iload_n (y := I_X7_day) 3 dX7_day_244 rfl rfl ?_
      refine j_aload_n (y := I_X7_day) 0 dX7_day_245 rfl rfl ?_
      refine j_iload_n (y := I_X7_day) 3 dX7_day_246 rfl rfl ?_
      refine j_callVzR (y := I_X7_day) (As := [.int a234_3]) cv_7_140 ⟨Nat.le_of_ble_eq_true rfl, Nat.le_of_ble_eq_true rfl⟩ k_108 rfl (Nat.le_of_ble_eq_true rfl) dX7_day_247 (c_X7_isPart l w a234_3 S234) (fun v247 h247 => ?_)
      refine j_if_eqB (y := I_X7_day) 270 dX7_day_250 (by decide) (fun h250 => ?_) (fun h250 => ?_)
      · refine j_iconst (y := I_X7_day) (v := 0) dX7_day_270 (by decide) ?_
        refine j_zast (y := I_X7_day) k_120 rfl dX7_day_271 (fun h271 => ?_)
        refine j_iinc (y := I_X7_day) 3 (ls' := [(3, .int (a234_3 + (1 : Int32))), (0, .ref (w.2.1 + 108)), (1, .int a234_1), (2, .int a234_2)]) dX7_day_272 rfl (ii _ _ (by decide) _) (by decide) rfl ?_
        refine j_goto (y := I_X7_day) 234 dX7_day_275 (by decide) ?_
        refine j_sub [1, 2, 3, 0] rfl ?_
        exact ih a234_1 a234_2 (a234_3 + (1 : Int32)) (wr S234 120 (ix a234_3) (0 : Int32)) hK
      · refine j_aload_n (y := I_X7_day) 0 dX7_day_253 rfl rfl ?_
        refine j_aload_n (y := I_X7_day) 0 dX7_day_254 rfl rfl ?_
        refine j_iload_n (y := I_X7_day) 3 dX7_day_255 rfl rfl ?_
        refine j_callViR (y := I_X7_day) (As := [.int a234_3]) cv_7_143 ⟨Nat.le_of_ble_eq_true rfl, Nat.le_of_ble_eq_true rfl⟩ k_108 rfl (Nat.le_of_ble_eq_true rfl) dX7_day_256 (c_X7_sortOfPart l w a234_3 S234) (fun v256 h256 => ?_)
        refine j_iload_n (y := I_X7_day) 1 dX7_day_259 rfl rfl ?_
        refine j_callVzR (y := I_X7_day) (As := [.int v256, .int a234_1]) cv_7_178 ⟨Nat.le_of_ble_eq_true rfl, Nat.le_of_ble_eq_true rfl⟩ k_108 rfl (Nat.le_of_ble_eq_true rfl) dX7_day_260 (c_X7_ripens l w v256 a234_1 S234) (fun v260 h260 => ?_)
        refine j_if_eqB (y := I_X7_day) 270 dX7_day_263 (by decide) (fun h263 => ?_) (fun h263 => ?_)
        · refine j_iconst (y := I_X7_day) (v := 0) dX7_day_270 (by decide) ?_
          refine j_zast (y := I_X7_day) k_120 rfl dX7_day_271 (fun h271 => ?_)
          refine j_iinc (y := I_X7_day) 3 (ls' := [(3, .int (a234_3 + (1 : Int32))), (0, .ref (w.2.1 + 108)), (1, .int a234_1), (2, .int a234_2)]) dX7_day_272 rfl (ii _ _ (by decide) _) (by decide) rfl ?_
          refine j_goto (y := I_X7_day) 234 dX7_day_275 (by decide) ?_
          refine j_sub [1, 2, 3, 0] rfl ?_
          exact ih a234_1 a234_2 (a234_3 + (1 : Int32)) (wr S234 120 (ix a234_3) (0 : Int32)) hK
        · refine j_iconst (y := I_X7_day) (v := 1) dX7_day_266 (by decide) ?_
          refine j_goto (y := I_X7_day) 271 dX7_day_267 (by decide) ?_
          refine j_zast (y := I_X7_day) k_120 rfl dX7_day_271 (fun h271 => ?_)
          refine j_iinc (y := I_X7_day) 3 (ls' := [(3, .int (a234_3 + (1 : Int32))), (0, .ref (w.2.1 + 108)), (1, .int a234_1), (2, .int a234_2)]) dX7_day_272 rfl (ii _ _ (by decide) _) (by decide) rfl ?_
          refine j_goto (y := I_X7_day) 234 dX7_day_275 (by decide) ?_
          refine j_sub [1, 2, 3, 0] rfl ?_
          exact ih a234_1 a234_2 (a234_3 + (1 : Int32)) (wr S234 120 (ix a234_3) (1 : Int32)) hK
set_option maxRecDepth 100000 in
theorem jl_X7_day_285 (l : Launch) (w : Wd) (K : St → Option (St)) (n : Nat) : ∀ (a285_3 : Int32) (S285 : St), (∀  (S' : St) , J l w I_X7_day 342 [(0, .ref (w.2.1 + 108))] [] S' (fun b => (none, b)) (K  S')) → J l w I_X7_day 285 [(0, .ref (w.2.1 + 108)), (3, .int a285_3)] [] S285 (fun b => (none, b)) (f_X7_day_L285 n K a285_3 S285) := by
  induction n with
  | zero =>
    intro a285_3 S285 hK b h
    simp only [f_X7_day_L285] at h
    cases h
  | succ n ih =>
    intro a285_3 S285 hK
    rw [f_X7_day_L285]
    refine j_iload_n (y := I_X7_day) 1 dX7_day_285 rfl rfl ?_
    refine j_bipush (y := I_X7_day) (v := 24) dX7_day_286 (by decide) ?_
    refine j_icmp_ge (y := I_X7_day) 342 dX7_day_288 (by decide) (fun h288 => ?_) (fun h288 => ?_)
    · refine j_sub [0] rfl ?_
      exact hK S285
    · refine j_aload_n (y := I_X7_day) 0 dX7_day_291 rfl rfl ?_
      refine j_getR (y := I_X7_day) (j := 120) fl_7_44 k_108 rfl rfl dX7_day_292 ?_
      refine j_iload_n (y := I_X7_day) 1 dX7_day_295 rfl rfl ?_
      refine j_zald (y := I_X7_day) k_120 dX7_day_296 (fun h296 => ?_)
      refine j_if_ne (y := I_X7_day) 303 dX7_day_297 (by decide) (fun h297 => ?_) (fun h297 => ?_)
      · refine j_aload_n (y := I_X7_day) 0 dX7_day_303 rfl rfl ?_
        refine j_iload_n (y := I_X7_day) 1 dX7_day_304 rfl rfl ?_
        refine j_callViR (y := I_X7_day) (As := [.int a285_3]) cv_7_162 ⟨Nat.le_of_ble_eq_true rfl, Nat.le_of_ble_eq_true rfl⟩ k_108 rfl (Nat.le_of_ble_eq_true rfl) dX7_day_305 (c_X7_fruitsOf l w a285_3 S285) (fun v305 h305 => ?_)
        refine j_bipush (y := I_X7_day) (v := 9) dX7_day_308 (by decide) ?_
        refine j_iadd (y := I_X7_day) dX7_day_310 ?_
        refine j_bipush (y := I_X7_day) (v := 10) dX7_day_311 (by decide) ?_
        refine j_idivL (y := I_X7_day) dX7_day_313 (by decide) ?_
        refine j_istore (y := I_X7_day) (ls' := [(4, .int ((v305 + (9 : Int32)) / (10 : Int32))), (0, .ref (w.2.1 + 108)), (3, .int a285_3)]) dX7_day_314 (by decide) rfl ?_
        refine j_aload_n (y := I_X7_day) 1 dX7_day_316 rfl rfl ?_
        refine j_iload_n (y := I_X7_day) 2 dX7_day_317 rfl rfl ?_
        refine j_iload (y := I_X7_day) 0 dX7_day_318 rfl ?_
        refine j_ineg (y := I_X7_day) dX7_day_320 ?_
        refine j_callVvS (y := I_X7_day) (As := [.int a285_3, .int (-((v305 + (9 : Int32)) / (10 : Int32)))]) cv_7_165 ⟨Nat.le_of_ble_eq_true rfl, Nat.le_of_ble_eq_true rfl⟩ k_108 rfl (Nat.le_of_ble_eq_true rfl) dX7_day_321 (c_X7_grow l w a285_3 (-((v305 + (9 : Int32)) / (10 : Int32))) S285) (fun v321 h321 => ?_)
        refine j_aload_n (y := I_X7_day) 1 dX7_day_324 rfl rfl ?_
        refine j_getR (y := I_X7_day) (j := 111) fl_7_16 k_108 rfl rfl dX7_day_325 ?_
        refine j_iconst (y := I_X7_day) (v := 3) dX7_day_328 (by decide) ?_
        refine j_dup2 (y := I_X7_day) dX7_day_329 rfl rfl ?_
        refine j_laldL (y := I_X7_day) k_111 (by decide) dX7_day_330 ?_
        refine j_iload (y := I_X7_day) 0 dX7_day_331 rfl ?_
        refine j_i2l (y := I_X7_day) dX7_day_333 ?_
        refine j_ladd (y := I_X7_day) dX7_day_334 ?_
        refine j_lastL (y := I_X7_day) k_111 (by decide) dX7_day_335 ?_
        refine j_iinc (y := I_X7_day) 2 (ls' := [(3, .int (a285_3 + (1 : Int32))), (4, .int ((v305 + (9 : Int32)) / (10 : Int32))), (0, .ref (w.2.1 + 108))]) dX7_day_336 rfl (ii _ _ (by decide) _) (by decide) rfl ?_
        refine j_goto (y := I_X7_day) 285 dX7_day_339 (by decide) ?_
        refine j_sub [2, 0] rfl ?_
        exact ih (a285_3 + (1 : Int32)) (wrL v321 111 (ix (3 : Int32)) ((rdL v321 111 (ix (3 : Int32))) + (((v305 + (9 : Int32)) / (10 : Int32)).toInt64))) hK
      · refine j_goto (y := I_X7_day) 336 dX7_day_300 (by decide) ?_
        refine j_iinc (y := I_X7_day) 1 (ls' := [(3, .int (a285_3 + (1 : Int32))), (0, .ref (w.2.1 + 108))]) dX7_day_336 rfl (ii _ _ (by decide) _) (by decide) rfl ?_
        refine j_goto (y := I_X7_day) 285 dX7_day_339 (by decide) ?_
        refine j_sub [1, 0] rfl ?_
        exact ih (a285_3 + (1 : Int32)) S285 hK
set_option maxRecDepth 100000 in
set_option maxHeartbeats 4000000 in
theorem m_X7_day (l : Launch) (w : Wd)  (S : St)  : J l w I_X7_day 0 [(0, .ref (w.2.1 + 108))] [] S (fun b => (none, b)) (f_X7_day S) := by
  unfold f_X7_day
  refine j_aload_n (y := I_X7_day) 0 dX7_day_0 rfl rfl ?_
  refine j_getR (y := I_X7_day) (j := 109) fl_7_7 k_108 rfl rfl dX7_day_1 ?_
  refine j_sipush (y := I_X7_day) (v := 785) dX7_day_4 (by decide) ?_
  refine j_ialdL (y := I_X7_day) k_109 (by decide) dX7_day_7 ?_
  refine j_istore_n (y := I_X7_day) (ls' := [(1, .int (rd S 109 (ix (785 : Int32)))), (0, .ref (w.2.1 + 108))]) dX7_day_8 rfl (by decide) rfl ?_
  refine j_bipush (y := I_X7_day) (v := 64) dX7_day_9 (by decide) ?_
  refine j_bipush (y := I_X7_day) (v := 50) dX7_day_11 (by decide) ?_
  refine j_aload_n (y := I_X7_day) 1 dX7_day_13 rfl rfl ?_
  refine j_getR (y := I_X7_day) (j := 109) fl_7_7 k_108 rfl rfl dX7_day_14 ?_
  refine j_sipush (y := I_X7_day) (v := 784) dX7_day_17 (by decide) ?_
  refine j_ialdL (y := I_X7_day) k_109 (by decide) dX7_day_20 ?_
  refine j_imul (y := I_X7_day) dX7_day_21 ?_
  refine j_iadd (y := I_X7_day) dX7_day_22 ?_
  refine j_iload_n (y := I_X7_day) 0 dX7_day_23 rfl rfl ?_
  refine j_iadd (y := I_X7_day) dX7_day_24 ?_
  refine j_istore_n (y := I_X7_day) (ls' := [(2, .int (((64 : Int32) + ((50 : Int32) * (rd S 109 (ix (784 : Int32))))) + (rd S 109 (ix (785 : Int32))))), (1, .int (rd S 109 (ix (785 : Int32)))), (0, .ref (w.2.1 + 108))]) dX7_day_25 rfl (by decide) rfl ?_
  refine j_aload_n (y := I_X7_day) 2 dX7_day_26 rfl rfl ?_
  refine j_getR (y := I_X7_day) (j := 109) fl_7_7 k_108 rfl rfl dX7_day_27 ?_
  refine j_sipush (y := I_X7_day) (v := 732) dX7_day_30 (by decide) ?_
  refine j_iload_n (y := I_X7_day) 1 dX7_day_33 rfl rfl ?_
  refine j_iadd (y := I_X7_day) dX7_day_34 ?_
  refine j_aload_n (y := I_X7_day) 2 dX7_day_35 rfl rfl ?_
  refine j_iload_n (y := I_X7_day) 1 dX7_day_36 rfl rfl ?_
  refine j_callViR (y := I_X7_day) (As := [.int (rd S 109 (ix (785 : Int32)))]) cv_7_124 ⟨Nat.le_of_ble_eq_true rfl, Nat.le_of_ble_eq_true rfl⟩ k_108 rfl (Nat.le_of_ble_eq_true rfl) dX7_day_37 (c_X7_stands l w (rd S 109 (ix (785 : Int32))) S) (fun v37 h37 => ?_)
  refine j_iast (y := I_X7_day) k_109 dX7_day_40 (fun h40 => ?_)
  refine j_aload_n (y := I_X7_day) 2 dX7_day_41 rfl rfl ?_
  refine j_getR (y := I_X7_day) (j := 109) fl_7_7 k_108 rfl rfl dX7_day_42 ?_
  refine j_sipush (y := I_X7_day) (v := 785) dX7_day_45 (by decide) ?_
  refine j_dup2 (y := I_X7_day) dX7_day_48 rfl rfl ?_
  refine j_ialdL (y := I_X7_day) k_109 (by decide) dX7_day_49 ?_
  refine j_iconst (y := I_X7_day) (v := 1) dX7_day_50 (by decide) ?_
  refine j_iadd (y := I_X7_day) dX7_day_51 ?_
  refine j_iastL (y := I_X7_day) k_109 (by decide) dX7_day_52 ?_
  refine j_iconst (y := I_X7_day) (v := 0) dX7_day_53 (by decide) ?_
  refine j_istore_n (y := I_X7_day) (ls' := [(3, .int (0 : Int32)), (2, .int (((64 : Int32) + ((50 : Int32) * (rd S 109 (ix (784 : Int32))))) + (rd S 109 (ix (785 : Int32))))), (1, .int (rd S 109 (ix (785 : Int32)))), (0, .ref (w.2.1 + 108))]) dX7_day_54 rfl (by decide) rfl ?_
  refine j_sub [3, 2, 1, 0] rfl ?_
  refine jl_X7_day_55 l w _ 6000 (rd S 109 (ix (785 : Int32))) (((64 : Int32) + ((50 : Int32) * (rd S 109 (ix (784 : Int32))))) + (rd S 109 (ix (785 : Int32)))) (0 : Int32) (wr (wr S 109 (ix ((732 : Int32) + (rd S 109 (ix (785 : Int32))))) v37) 109 (ix (785 : Int32)) ((rd (wr S 109 (ix ((732 : Int32) + (rd S 109 (ix (785 : Int32))))) v37) 109 (ix (785 : Int32))) + (1 : Int32)))  (fun e113_1 e113_2 T113 => ?_)
  refine j_iconst (y := I_X7_day) (v := 0) dX7_day_113 (by decide) ?_
  refine j_istore_n (y := I_X7_day) (ls' := [(3, .int (0 : Int32)), (0, .ref (w.2.1 + 108)), (1, .int e113_1), (2, .int e113_2)]) dX7_day_114 rfl (by decide) rfl ?_
  refine j_sub [1, 2, 3, 0] rfl ?_
  refine jl_X7_day_115 l w _ 6000 e113_1 e113_2 (0 : Int32) T113  (fun e203_1 e203_2 T203 => ?_)
  refine j_iconst (y := I_X7_day) (v := 0) dX7_day_203 (by decide) ?_
  refine j_istore_n (y := I_X7_day) (ls' := [(3, .int (0 : Int32)), (0, .ref (w.2.1 + 108)), (1, .int e203_1), (2, .int e203_2)]) dX7_day_204 rfl (by decide) rfl ?_
  refine j_sub [1, 2, 3, 0] rfl ?_
  refine jl_X7_day_205 l w _ 6000 e203_1 e203_2 (0 : Int32) T203  (fun e232_1 e232_2 T232 => ?_)
  refine j_iconst (y := I_X7_day) (v := 0) dX7_day_232 (by decide) ?_
  refine j_istore_n (y := I_X7_day) (ls' := [(3, .int (0 : Int32)), (0, .ref (w.2.1 + 108)), (1, .int e232_1), (2, .int e232_2)]) dX7_day_233 rfl (by decide) rfl ?_
  refine j_sub [1, 2, 3, 0] rfl ?_
  refine jl_X7_day_234 l w _ 6000 e232_1 e232_2 (0 : Int32) T232  (fun e278_2 T278 => ?_)
  refine j_aload_n (y := I_X7_day) 0 dX7_day_278 rfl rfl ?_
  refine j_iload_n (y := I_X7_day) 1 dX7_day_279 rfl rfl ?_
  refine j_callVvS (y := I_X7_day) (As := [.int e278_2]) cv_7_181 ⟨Nat.le_of_ble_eq_true rfl, Nat.le_of_ble_eq_true rfl⟩ k_108 rfl (Nat.le_of_ble_eq_true rfl) dX7_day_280 (c_X7_pick l w e278_2 T278) (fun v280 h280 => ?_)
  refine j_iconst (y := I_X7_day) (v := 0) dX7_day_283 (by decide) ?_
  refine j_istore_n (y := I_X7_day) (ls' := [(3, .int (0 : Int32)), (0, .ref (w.2.1 + 108)), (2, .int e278_2)]) dX7_day_284 rfl (by decide) rfl ?_
  refine j_sub [1, 0] rfl ?_
  refine jl_X7_day_285 l w _ 6000 (0 : Int32) v280  (fun T342 => ?_)
  refine j_aload_n (y := I_X7_day) 0 dX7_day_342 rfl rfl ?_
  refine j_getR (y := I_X7_day) (j := 109) fl_7_7 k_108 rfl rfl dX7_day_343 ?_
  refine j_sipush (y := I_X7_day) (v := 785) dX7_day_346 (by decide) ?_
  refine j_ialdL (y := I_X7_day) k_109 (by decide) dX7_day_349 ?_
  refine j_bipush (y := I_X7_day) (v := 50) dX7_day_350 (by decide) ?_
  refine j_icmp_ne (y := I_X7_day) 359 dX7_day_352 (by decide) (fun h352 => ?_) (fun h352 => ?_)
  · exact j_vret (y := I_X7_day) rfl dX7_day_359 rfl
  · refine j_aload_n (y := I_X7_day) 0 dX7_day_355 rfl rfl ?_
    refine j_callVvS (y := I_X7_day) (As := []) cv_7_185 ⟨Nat.le_of_ble_eq_true rfl, Nat.le_of_ble_eq_true rfl⟩ k_108 rfl (Nat.le_of_ble_eq_true rfl) dX7_day_356 (c_X7_ends l w T342) (fun v356 h356 => ?_)
    exact j_vret (y := I_X7_day) rfl dX7_day_359 rfl
theorem c_X7_day (l : Launch) (w : Wd)  (S : St)  : ∀ v, f_X7_day S = some v → CtS l w I_X7_day [.ref (w.2.1 + 108)] S v none := fun v h => J.ct (av := [.ref (w.2.1 + 108)]) (Nat.le_of_ble_eq_true rfl) pn_7 (m_X7_day l w  S ) h
abbrev I_X7_distance : MI := (yX7_distance, cX7_distance, 3, some .int, { frames := 1, cells := 0, slots := 0, locals := 22 })
theorem dX7_distance_0 : decode cX7_distance 0 = .ok (.iload_n 1, 1) := by decide +kernel
theorem dX7_distance_1 : decode cX7_distance 1 = .ok (.iconst 1, 1) := by decide +kernel
theorem dX7_distance_2 : decode cX7_distance 2 = .ok (.bipush 15, 2) := by decide +kernel
theorem dX7_distance_4 : decode cX7_distance 4 = .ok (.invokestatic 64, 3) := by decide +kernel
theorem dX7_distance_7 : decode cX7_distance 7 = .ok (.ifCond .ne 9, 3) := by decide +kernel
theorem dX7_distance_10 : decode cX7_distance 10 = .ok (.aload_n 0, 1) := by decide +kernel
theorem dX7_distance_11 : decode cX7_distance 11 = .ok (.iconst (-1), 1) := by decide +kernel
theorem dX7_distance_12 : decode cX7_distance 12 = .ok (.invokevirtual 72, 3) := by decide +kernel
theorem dX7_distance_15 : decode cX7_distance 15 = .ok (.ireturn, 1) := by decide +kernel
theorem dX7_distance_16 : decode cX7_distance 16 = .ok (.aload_n 0, 1) := by decide +kernel
theorem dX7_distance_17 : decode cX7_distance 17 = .ok (.getfield 7, 3) := by decide +kernel
theorem dX7_distance_20 : decode cX7_distance 20 = .ok (.sipush 783, 3) := by decide +kernel
theorem dX7_distance_23 : decode cX7_distance 23 = .ok (.iaload, 1) := by decide +kernel
theorem dX7_distance_24 : decode cX7_distance 24 = .ok (.istore_n 2, 1) := by decide +kernel
theorem dX7_distance_25 : decode cX7_distance 25 = .ok (.aload_n 0, 1) := by decide +kernel
theorem dX7_distance_26 : decode cX7_distance 26 = .ok (.getfield 7, 3) := by decide +kernel
theorem dX7_distance_29 : decode cX7_distance 29 = .ok (.sipush 783, 3) := by decide +kernel
theorem dX7_distance_32 : decode cX7_distance 32 = .ok (.iload_n 1, 1) := by decide +kernel
theorem dX7_distance_33 : decode cX7_distance 33 = .ok (.iastore, 1) := by decide +kernel
theorem dX7_distance_34 : decode cX7_distance 34 = .ok (.aload_n 0, 1) := by decide +kernel
theorem dX7_distance_35 : decode cX7_distance 35 = .ok (.iconst 0, 1) := by decide +kernel
theorem dX7_distance_36 : decode cX7_distance 36 = .ok (.putfield 76, 3) := by decide +kernel
theorem dX7_distance_39 : decode cX7_distance 39 = .ok (.iload_n 2, 1) := by decide +kernel
theorem dX7_distance_40 : decode cX7_distance 40 = .ok (.ireturn, 1) := by decide +kernel
def f_X7_distance (x1 : Int32) (S : St) : Option (Int32 × St) := if (f_X7_in x1 (1 : Int32) (15 : Int32)) = true then (some ((rd S 109 (ix (783 : Int32))), (wr (wr S 109 (ix (783 : Int32)) x1) 108 9 (0 : Int32)))) else (some (((f_X7_found (-1 : Int32) S).1), (f_X7_found (-1 : Int32) S).2))
set_option maxRecDepth 100000 in
set_option maxHeartbeats 4000000 in
theorem m_X7_distance (l : Launch) (w : Wd) (x1 : Int32) (S : St)  : J l w I_X7_distance 0 [(0, .ref (w.2.1 + 108)), (1, .int x1)] [] S (fun b => (some (.int b.1), b.2)) (f_X7_distance x1 S) := by
  unfold f_X7_distance
  refine j_iload_n (y := I_X7_distance) 1 dX7_distance_0 rfl rfl ?_
  refine j_iconst (y := I_X7_distance) (v := 1) dX7_distance_1 (by decide) ?_
  refine j_bipush (y := I_X7_distance) (v := 15) dX7_distance_2 (by decide) ?_
  refine j_callSzT (y := I_X7_distance) (As := [.int x1, .int (1 : Int32), .int (15 : Int32)]) cv_7_64 ⟨Nat.le_of_ble_eq_true rfl, Nat.le_of_ble_eq_true rfl⟩ rfl (Nat.le_of_ble_eq_true rfl) dX7_distance_4 (c_X7_in l w x1 (1 : Int32) (15 : Int32) S) ?_
  refine j_if_neB (y := I_X7_distance) 16 dX7_distance_7 (by decide) (fun h7 => ?_) (fun h7 => ?_)
  · refine j_aload_n (y := I_X7_distance) 0 dX7_distance_16 rfl rfl ?_
    refine j_getR (y := I_X7_distance) (j := 109) fl_7_7 k_108 rfl rfl dX7_distance_17 ?_
    refine j_sipush (y := I_X7_distance) (v := 783) dX7_distance_20 (by decide) ?_
    refine j_ialdL (y := I_X7_distance) k_109 (by decide) dX7_distance_23 ?_
    refine j_istore_n (y := I_X7_distance) (ls' := [(2, .int (rd S 109 (ix (783 : Int32)))), (0, .ref (w.2.1 + 108)), (1, .int x1)]) dX7_distance_24 rfl (by decide) rfl ?_
    refine j_aload_n (y := I_X7_distance) 1 dX7_distance_25 rfl rfl ?_
    refine j_getR (y := I_X7_distance) (j := 109) fl_7_7 k_108 rfl rfl dX7_distance_26 ?_
    refine j_sipush (y := I_X7_distance) (v := 783) dX7_distance_29 (by decide) ?_
    refine j_iload_n (y := I_X7_distance) 2 dX7_distance_32 rfl rfl ?_
    refine j_iastL (y := I_X7_distance) k_109 (by decide) dX7_distance_33 ?_
    refine j_aload_n (y := I_X7_distance) 1 dX7_distance_34 rfl rfl ?_
    refine j_iconst (y := I_X7_distance) (v := 0) dX7_distance_35 (by decide) ?_
    refine j_putI (y := I_X7_distance) fp_7_76 k_108 rfl rfl rfl dX7_distance_36 ?_
    refine j_iload_n (y := I_X7_distance) 0 dX7_distance_39 rfl rfl ?_
    exact j_iret (y := I_X7_distance) rfl dX7_distance_40 rfl
  · refine j_aload_n (y := I_X7_distance) 0 dX7_distance_10 rfl rfl ?_
    refine j_iconst (y := I_X7_distance) (v := -1) dX7_distance_11 (by decide) ?_
    refine j_callViT (y := I_X7_distance) (As := [.int (-1 : Int32)]) cv_7_72 ⟨Nat.le_of_ble_eq_true rfl, Nat.le_of_ble_eq_true rfl⟩ k_108 rfl (Nat.le_of_ble_eq_true rfl) dX7_distance_12 (c_X7_found l w (-1 : Int32) S) ?_
    exact j_iret (y := I_X7_distance) rfl dX7_distance_15 rfl
theorem c_X7_distance (l : Launch) (w : Wd) (x1 : Int32) (S : St)  : ∀ v, f_X7_distance x1 S = some v → CtS l w I_X7_distance [.ref (w.2.1 + 108), .int x1] S v.2 (some (.int v.1)) := fun v h => J.ct (av := [.ref (w.2.1 + 108), .int x1]) (Nat.le_of_ble_eq_true rfl) pn_7 (m_X7_distance l w x1 S ) h
abbrev I_X7_isDay : MI := (yX7_isDay, cX7_isDay, 1, some .boolean, { frames := 1, cells := 0, slots := 0, locals := 22 })
theorem dX7_isDay_0 : decode cX7_isDay 0 = .ok (.iload_n 0, 1) := by decide +kernel
theorem dX7_isDay_1 : decode cX7_isDay 1 = .ok (.iconst 0, 1) := by decide +kernel
theorem dX7_isDay_2 : decode cX7_isDay 2 = .ok (.bipush 49, 2) := by decide +kernel
theorem dX7_isDay_4 : decode cX7_isDay 4 = .ok (.invokestatic 64, 3) := by decide +kernel
theorem dX7_isDay_7 : decode cX7_isDay 7 = .ok (.ireturn, 1) := by decide +kernel
def f_X7_isDay (x0 : Int32)  : Bool := (f_X7_in x0 (0 : Int32) (49 : Int32))
set_option maxRecDepth 100000 in
set_option maxHeartbeats 4000000 in
theorem m_X7_isDay (l : Launch) (w : Wd) (x0 : Int32) (S : St)  : J l w I_X7_isDay 0 [(0, .int x0)] [] S (fun b => (some (.int (b2i b)), S)) (some (f_X7_isDay x0)) := by
  unfold f_X7_isDay
  refine j_iload_n (y := I_X7_isDay) 0 dX7_isDay_0 rfl rfl ?_
  refine j_iconst (y := I_X7_isDay) (v := 0) dX7_isDay_1 (by decide) ?_
  refine j_bipush (y := I_X7_isDay) (v := 49) dX7_isDay_2 (by decide) ?_
  refine j_callSzT (y := I_X7_isDay) (As := [.int x0, .int (0 : Int32), .int (49 : Int32)]) cv_7_64 ⟨Nat.le_of_ble_eq_true rfl, Nat.le_of_ble_eq_true rfl⟩ rfl (Nat.le_of_ble_eq_true rfl) dX7_isDay_4 (c_X7_in l w x0 (0 : Int32) (49 : Int32) S) ?_
  exact j_zret (y := I_X7_isDay) (q := (f_X7_in x0 (0 : Int32) (49 : Int32))) rfl rfl dX7_isDay_7 rfl
theorem c_X7_isDay (l : Launch) (w : Wd) (x0 : Int32) (S : St)  : CtS l w I_X7_isDay [.int x0] S S (some (.int (b2i (f_X7_isDay x0)))) := J.ct (av := [.int x0]) (Nat.le_of_ble_eq_true rfl) pn_7 (m_X7_isDay l w x0 S ) rfl
abbrev I_X7_frost : MI := (yX7_frost, cX7_frost, 4, some .int, { frames := 2, cells := 0, slots := 0, locals := 42 })
theorem dX7_frost_0 : decode cX7_frost 0 = .ok (.iload_n 1, 1) := by decide +kernel
theorem dX7_frost_1 : decode cX7_frost 1 = .ok (.invokestatic 127, 3) := by decide +kernel
theorem dX7_frost_4 : decode cX7_frost 4 = .ok (.ifCond .eq 23, 3) := by decide +kernel
theorem dX7_frost_7 : decode cX7_frost 7 = .ok (.iload_n 2, 1) := by decide +kernel
theorem dX7_frost_8 : decode cX7_frost 8 = .ok (.iconst 0, 1) := by decide +kernel
theorem dX7_frost_9 : decode cX7_frost 9 = .ok (.bipush 6, 2) := by decide +kernel
theorem dX7_frost_11 : decode cX7_frost 11 = .ok (.invokestatic 64, 3) := by decide +kernel
theorem dX7_frost_14 : decode cX7_frost 14 = .ok (.ifCond .eq 13, 3) := by decide +kernel
theorem dX7_frost_17 : decode cX7_frost 17 = .ok (.iload_n 3, 1) := by decide +kernel
theorem dX7_frost_18 : decode cX7_frost 18 = .ok (.iconst 0, 1) := by decide +kernel
theorem dX7_frost_19 : decode cX7_frost 19 = .ok (.bipush 100, 2) := by decide +kernel
theorem dX7_frost_21 : decode cX7_frost 21 = .ok (.invokestatic 64, 3) := by decide +kernel
theorem dX7_frost_24 : decode cX7_frost 24 = .ok (.ifCond .ne 9, 3) := by decide +kernel
theorem dX7_frost_27 : decode cX7_frost 27 = .ok (.aload_n 0, 1) := by decide +kernel
theorem dX7_frost_28 : decode cX7_frost 28 = .ok (.iconst (-1), 1) := by decide +kernel
theorem dX7_frost_29 : decode cX7_frost 29 = .ok (.invokevirtual 72, 3) := by decide +kernel
theorem dX7_frost_32 : decode cX7_frost 32 = .ok (.ireturn, 1) := by decide +kernel
theorem dX7_frost_33 : decode cX7_frost 33 = .ok (.iload_n 1, 1) := by decide +kernel
theorem dX7_frost_34 : decode cX7_frost 34 = .ok (.aload_n 0, 1) := by decide +kernel
theorem dX7_frost_35 : decode cX7_frost 35 = .ok (.getfield 7, 3) := by decide +kernel
theorem dX7_frost_38 : decode cX7_frost 38 = .ok (.sipush 785, 3) := by decide +kernel
theorem dX7_frost_41 : decode cX7_frost 41 = .ok (.iaload, 1) := by decide +kernel
theorem dX7_frost_42 : decode cX7_frost 42 = .ok (.if_icmp .ge 10, 3) := by decide +kernel
theorem dX7_frost_45 : decode cX7_frost 45 = .ok (.aload_n 0, 1) := by decide +kernel
theorem dX7_frost_46 : decode cX7_frost 46 = .ok (.bipush (-7), 2) := by decide +kernel
theorem dX7_frost_48 : decode cX7_frost 48 = .ok (.invokevirtual 72, 3) := by decide +kernel
theorem dX7_frost_51 : decode cX7_frost 51 = .ok (.ireturn, 1) := by decide +kernel
theorem dX7_frost_52 : decode cX7_frost 52 = .ok (.aload_n 0, 1) := by decide +kernel
theorem dX7_frost_53 : decode cX7_frost 53 = .ok (.getfield 7, 3) := by decide +kernel
theorem dX7_frost_56 : decode cX7_frost 56 = .ok (.sipush 582, 3) := by decide +kernel
theorem dX7_frost_59 : decode cX7_frost 59 = .ok (.iconst 3, 1) := by decide +kernel
theorem dX7_frost_60 : decode cX7_frost 60 = .ok (.iload_n 1, 1) := by decide +kernel
theorem dX7_frost_61 : decode cX7_frost 61 = .ok (.imul, 1) := by decide +kernel
theorem dX7_frost_62 : decode cX7_frost 62 = .ok (.iadd, 1) := by decide +kernel
theorem dX7_frost_63 : decode cX7_frost 63 = .ok (.iconst 1, 1) := by decide +kernel
theorem dX7_frost_64 : decode cX7_frost 64 = .ok (.iastore, 1) := by decide +kernel
theorem dX7_frost_65 : decode cX7_frost 65 = .ok (.aload_n 0, 1) := by decide +kernel
theorem dX7_frost_66 : decode cX7_frost 66 = .ok (.getfield 7, 3) := by decide +kernel
theorem dX7_frost_69 : decode cX7_frost 69 = .ok (.sipush 582, 3) := by decide +kernel
theorem dX7_frost_72 : decode cX7_frost 72 = .ok (.iconst 3, 1) := by decide +kernel
theorem dX7_frost_73 : decode cX7_frost 73 = .ok (.iload_n 1, 1) := by decide +kernel
theorem dX7_frost_74 : decode cX7_frost 74 = .ok (.imul, 1) := by decide +kernel
theorem dX7_frost_75 : decode cX7_frost 75 = .ok (.iadd, 1) := by decide +kernel
theorem dX7_frost_76 : decode cX7_frost 76 = .ok (.iconst 1, 1) := by decide +kernel
theorem dX7_frost_77 : decode cX7_frost 77 = .ok (.iadd, 1) := by decide +kernel
theorem dX7_frost_78 : decode cX7_frost 78 = .ok (.iload_n 2, 1) := by decide +kernel
theorem dX7_frost_79 : decode cX7_frost 79 = .ok (.iastore, 1) := by decide +kernel
theorem dX7_frost_80 : decode cX7_frost 80 = .ok (.aload_n 0, 1) := by decide +kernel
theorem dX7_frost_81 : decode cX7_frost 81 = .ok (.getfield 7, 3) := by decide +kernel
theorem dX7_frost_84 : decode cX7_frost 84 = .ok (.sipush 582, 3) := by decide +kernel
theorem dX7_frost_87 : decode cX7_frost 87 = .ok (.iconst 3, 1) := by decide +kernel
theorem dX7_frost_88 : decode cX7_frost 88 = .ok (.iload_n 1, 1) := by decide +kernel
theorem dX7_frost_89 : decode cX7_frost 89 = .ok (.imul, 1) := by decide +kernel
theorem dX7_frost_90 : decode cX7_frost 90 = .ok (.iadd, 1) := by decide +kernel
theorem dX7_frost_91 : decode cX7_frost 91 = .ok (.iconst 2, 1) := by decide +kernel
theorem dX7_frost_92 : decode cX7_frost 92 = .ok (.iadd, 1) := by decide +kernel
theorem dX7_frost_93 : decode cX7_frost 93 = .ok (.iload_n 3, 1) := by decide +kernel
theorem dX7_frost_94 : decode cX7_frost 94 = .ok (.iastore, 1) := by decide +kernel
theorem dX7_frost_95 : decode cX7_frost 95 = .ok (.iconst 1, 1) := by decide +kernel
theorem dX7_frost_96 : decode cX7_frost 96 = .ok (.ireturn, 1) := by decide +kernel
theorem cv_7_127 : CS RX7 127 1 I_X7_isDay := ⟨⟨⟨gm 964 (by decide +kernel) rfl, gm 966 (by decide +kernel) rfl, gm 44 (by decide +kernel) rfl, mh_7.1, mh_7.2, by decide +kernel⟩, gm 965 (by decide +kernel) rfl⟩, rfl, rfl⟩
def f_X7_frost (x1 : Int32) (x2 : Int32) (x3 : Int32) (S : St) : Option (Int32 × St) := if (f_X7_isDay x1) = true then (if (f_X7_in x2 (0 : Int32) (6 : Int32)) = true then (if (f_X7_in x3 (0 : Int32) (100 : Int32)) = true then (if x1 < (rd S 109 (ix (785 : Int32))) then (some (((f_X7_found (-7 : Int32) S).1), (f_X7_found (-7 : Int32) S).2)) else (if inb ((582 : Int32) + ((3 : Int32) * x1)) 788 = true then (if inb (((582 : Int32) + ((3 : Int32) * x1)) + (1 : Int32)) 788 = true then (if inb (((582 : Int32) + ((3 : Int32) * x1)) + (2 : Int32)) 788 = true then (some ((1 : Int32), (wr (wr (wr S 109 (ix ((582 : Int32) + ((3 : Int32) * x1))) (1 : Int32)) 109 (ix (((582 : Int32) + ((3 : Int32) * x1)) + (1 : Int32))) x2) 109 (ix (((582 : Int32) + ((3 : Int32) * x1)) + (2 : Int32))) x3))) else none) else none) else none)) else (some (((f_X7_found (-1 : Int32) S).1), (f_X7_found (-1 : Int32) S).2))) else (some (((f_X7_found (-1 : Int32) S).1), (f_X7_found (-1 : Int32) S).2))) else (some (((f_X7_found (-1 : Int32) S).1), (f_X7_found (-1 : Int32) S).2))
set_option maxRecDepth 100000 in
set_option maxHeartbeats 4000000 in
theorem m_X7_frost (l : Launch) (w : Wd) (x1 : Int32) (x2 : Int32) (x3 : Int32) (S : St)  : J l w I_X7_frost 0 [(0, .ref (w.2.1 + 108)), (1, .int x1), (2, .int x2), (3, .int x3)] [] S (fun b => (some (.int b.1), b.2)) (f_X7_frost x1 x2 x3 S) := by
  unfold f_X7_frost
  refine j_iload_n (y := I_X7_frost) 1 dX7_frost_0 rfl rfl ?_
  refine j_callSzT (y := I_X7_frost) (As := [.int x1]) cv_7_127 ⟨Nat.le_of_ble_eq_true rfl, Nat.le_of_ble_eq_true rfl⟩ rfl (Nat.le_of_ble_eq_true rfl) dX7_frost_1 (c_X7_isDay l w x1 S) ?_
  refine j_if_eqB (y := I_X7_frost) 27 dX7_frost_4 (by decide) (fun h4 => ?_) (fun h4 => ?_)
  · refine j_aload_n (y := I_X7_frost) 0 dX7_frost_27 rfl rfl ?_
    refine j_iconst (y := I_X7_frost) (v := -1) dX7_frost_28 (by decide) ?_
    refine j_callViT (y := I_X7_frost) (As := [.int (-1 : Int32)]) cv_7_72 ⟨Nat.le_of_ble_eq_true rfl, Nat.le_of_ble_eq_true rfl⟩ k_108 rfl (Nat.le_of_ble_eq_true rfl) dX7_frost_29 (c_X7_found l w (-1 : Int32) S) ?_
    exact j_iret (y := I_X7_frost) rfl dX7_frost_32 rfl
  · refine j_iload_n (y := I_X7_frost) 2 dX7_frost_7 rfl rfl ?_
    refine j_iconst (y := I_X7_frost) (v := 0) dX7_frost_8 (by decide) ?_
    refine j_bipush (y := I_X7_frost) (v := 6) dX7_frost_9 (by decide) ?_
    refine j_callSzT (y := I_X7_frost) (As := [.int x2, .int (0 : Int32), .int (6 : Int32)]) cv_7_64 ⟨Nat.le_of_ble_eq_true rfl, Nat.le_of_ble_eq_true rfl⟩ rfl (Nat.le_of_ble_eq_true rfl) dX7_frost_11 (c_X7_in l w x2 (0 : Int32) (6 : Int32) S) ?_
    refine j_if_eqB (y := I_X7_frost) 27 dX7_frost_14 (by decide) (fun h14 => ?_) (fun h14 => ?_)
    · refine j_aload_n (y := I_X7_frost) 0 dX7_frost_27 rfl rfl ?_
      refine j_iconst (y := I_X7_frost) (v := -1) dX7_frost_28 (by decide) ?_
      refine j_callViT (y := I_X7_frost) (As := [.int (-1 : Int32)]) cv_7_72 ⟨Nat.le_of_ble_eq_true rfl, Nat.le_of_ble_eq_true rfl⟩ k_108 rfl (Nat.le_of_ble_eq_true rfl) dX7_frost_29 (c_X7_found l w (-1 : Int32) S) ?_
      exact j_iret (y := I_X7_frost) rfl dX7_frost_32 rfl
    · refine j_iload_n (y := I_X7_frost) 3 dX7_frost_17 rfl rfl ?_
      refine j_iconst (y := I_X7_frost) (v := 0) dX7_frost_18 (by decide) ?_
      refine j_bipush (y := I_X7_frost) (v := 100) dX7_frost_19 (by decide) ?_
      refine j_callSzT (y := I_X7_frost) (As := [.int x3, .int (0 : Int32), .int (100 : Int32)]) cv_7_64 ⟨Nat.le_of_ble_eq_true rfl, Nat.le_of_ble_eq_true rfl⟩ rfl (Nat.le_of_ble_eq_true rfl) dX7_frost_21 (c_X7_in l w x3 (0 : Int32) (100 : Int32) S) ?_
      refine j_if_neB (y := I_X7_frost) 33 dX7_frost_24 (by decide) (fun h24 => ?_) (fun h24 => ?_)
      · refine j_iload_n (y := I_X7_frost) 1 dX7_frost_33 rfl rfl ?_
        refine j_aload_n (y := I_X7_frost) 0 dX7_frost_34 rfl rfl ?_
        refine j_getR (y := I_X7_frost) (j := 109) fl_7_7 k_108 rfl rfl dX7_frost_35 ?_
        refine j_sipush (y := I_X7_frost) (v := 785) dX7_frost_38 (by decide) ?_
        refine j_ialdL (y := I_X7_frost) k_109 (by decide) dX7_frost_41 ?_
        refine j_icmp_ge (y := I_X7_frost) 52 dX7_frost_42 (by decide) (fun h42 => ?_) (fun h42 => ?_)
        · refine j_aload_n (y := I_X7_frost) 0 dX7_frost_52 rfl rfl ?_
          refine j_getR (y := I_X7_frost) (j := 109) fl_7_7 k_108 rfl rfl dX7_frost_53 ?_
          refine j_sipush (y := I_X7_frost) (v := 582) dX7_frost_56 (by decide) ?_
          refine j_iconst (y := I_X7_frost) (v := 3) dX7_frost_59 (by decide) ?_
          refine j_iload_n (y := I_X7_frost) 1 dX7_frost_60 rfl rfl ?_
          refine j_imul (y := I_X7_frost) dX7_frost_61 ?_
          refine j_iadd (y := I_X7_frost) dX7_frost_62 ?_
          refine j_iconst (y := I_X7_frost) (v := 1) dX7_frost_63 (by decide) ?_
          refine j_iast (y := I_X7_frost) k_109 dX7_frost_64 (fun h64 => ?_)
          refine j_aload_n (y := I_X7_frost) 0 dX7_frost_65 rfl rfl ?_
          refine j_getR (y := I_X7_frost) (j := 109) fl_7_7 k_108 rfl rfl dX7_frost_66 ?_
          refine j_sipush (y := I_X7_frost) (v := 582) dX7_frost_69 (by decide) ?_
          refine j_iconst (y := I_X7_frost) (v := 3) dX7_frost_72 (by decide) ?_
          refine j_iload_n (y := I_X7_frost) 1 dX7_frost_73 rfl rfl ?_
          refine j_imul (y := I_X7_frost) dX7_frost_74 ?_
          refine j_iadd (y := I_X7_frost) dX7_frost_75 ?_
          refine j_iconst (y := I_X7_frost) (v := 1) dX7_frost_76 (by decide) ?_
          refine j_iadd (y := I_X7_frost) dX7_frost_77 ?_
          refine j_iload_n (y := I_X7_frost) 2 dX7_frost_78 rfl rfl ?_
          refine j_iast (y := I_X7_frost) k_109 dX7_frost_79 (fun h79 => ?_)
          refine j_aload_n (y := I_X7_frost) 0 dX7_frost_80 rfl rfl ?_
          refine j_getR (y := I_X7_frost) (j := 109) fl_7_7 k_108 rfl rfl dX7_frost_81 ?_
          refine j_sipush (y := I_X7_frost) (v := 582) dX7_frost_84 (by decide) ?_
          refine j_iconst (y := I_X7_frost) (v := 3) dX7_frost_87 (by decide) ?_
          refine j_iload_n (y := I_X7_frost) 1 dX7_frost_88 rfl rfl ?_
          refine j_imul (y := I_X7_frost) dX7_frost_89 ?_
          refine j_iadd (y := I_X7_frost) dX7_frost_90 ?_
          refine j_iconst (y := I_X7_frost) (v := 2) dX7_frost_91 (by decide) ?_
          refine j_iadd (y := I_X7_frost) dX7_frost_92 ?_
          refine j_iload_n (y := I_X7_frost) 3 dX7_frost_93 rfl rfl ?_
          refine j_iast (y := I_X7_frost) k_109 dX7_frost_94 (fun h94 => ?_)
          refine j_iconst (y := I_X7_frost) (v := 1) dX7_frost_95 (by decide) ?_
          exact j_iret (y := I_X7_frost) rfl dX7_frost_96 rfl
        · refine j_aload_n (y := I_X7_frost) 0 dX7_frost_45 rfl rfl ?_
          refine j_bipush (y := I_X7_frost) (v := -7) dX7_frost_46 (by decide) ?_
          refine j_callViT (y := I_X7_frost) (As := [.int (-7 : Int32)]) cv_7_72 ⟨Nat.le_of_ble_eq_true rfl, Nat.le_of_ble_eq_true rfl⟩ k_108 rfl (Nat.le_of_ble_eq_true rfl) dX7_frost_48 (c_X7_found l w (-7 : Int32) S) ?_
          exact j_iret (y := I_X7_frost) rfl dX7_frost_51 rfl
      · refine j_aload_n (y := I_X7_frost) 0 dX7_frost_27 rfl rfl ?_
        refine j_iconst (y := I_X7_frost) (v := -1) dX7_frost_28 (by decide) ?_
        refine j_callViT (y := I_X7_frost) (As := [.int (-1 : Int32)]) cv_7_72 ⟨Nat.le_of_ble_eq_true rfl, Nat.le_of_ble_eq_true rfl⟩ k_108 rfl (Nat.le_of_ble_eq_true rfl) dX7_frost_29 (c_X7_found l w (-1 : Int32) S) ?_
        exact j_iret (y := I_X7_frost) rfl dX7_frost_32 rfl
theorem c_X7_frost (l : Launch) (w : Wd) (x1 : Int32) (x2 : Int32) (x3 : Int32) (S : St)  : ∀ v, f_X7_frost x1 x2 x3 S = some v → CtS l w I_X7_frost [.ref (w.2.1 + 108), .int x1, .int x2, .int x3] S v.2 (some (.int v.1)) := fun v h => J.ct (av := [.ref (w.2.1 + 108), .int x1, .int x2, .int x3]) (Nat.le_of_ble_eq_true rfl) pn_7 (m_X7_frost l w x1 x2 x3 S ) h
abbrev I_X7_lacksPart : MI := (yX7_lacksPart, cX7_lacksPart, 4, some .int, { frames := 3, cells := 0, slots := 0, locals := 64 })
theorem dX7_lacksPart_0 : decode cX7_lacksPart 0 = .ok (.aload_n 0, 1) := by decide +kernel
theorem dX7_lacksPart_1 : decode cX7_lacksPart 1 = .ok (.iload_n 1, 1) := by decide +kernel
theorem dX7_lacksPart_2 : decode cX7_lacksPart 2 = .ok (.invokevirtual 107, 3) := by decide +kernel
theorem dX7_lacksPart_5 : decode cX7_lacksPart 5 = .ok (.istore_n 3, 1) := by decide +kernel
theorem dX7_lacksPart_6 : decode cX7_lacksPart 6 = .ok (.iload_n 3, 1) := by decide +kernel
theorem dX7_lacksPart_7 : decode cX7_lacksPart 7 = .ok (.ifCond .ge 7, 3) := by decide +kernel
theorem dX7_lacksPart_10 : decode cX7_lacksPart 10 = .ok (.iload_n 3, 1) := by decide +kernel
theorem dX7_lacksPart_11 : decode cX7_lacksPart 11 = .ok (.goto 21, 3) := by decide +kernel
theorem dX7_lacksPart_14 : decode cX7_lacksPart 14 = .ok (.aload_n 0, 1) := by decide +kernel
theorem dX7_lacksPart_15 : decode cX7_lacksPart 15 = .ok (.iconst 2, 1) := by decide +kernel
theorem dX7_lacksPart_16 : decode cX7_lacksPart 16 = .ok (.iload_n 1, 1) := by decide +kernel
theorem dX7_lacksPart_17 : decode cX7_lacksPart 17 = .ok (.imul, 1) := by decide +kernel
theorem dX7_lacksPart_18 : decode cX7_lacksPart 18 = .ok (.iload_n 2, 1) := by decide +kernel
theorem dX7_lacksPart_19 : decode cX7_lacksPart 19 = .ok (.iadd, 1) := by decide +kernel
theorem dX7_lacksPart_20 : decode cX7_lacksPart 20 = .ok (.invokevirtual 140, 3) := by decide +kernel
theorem dX7_lacksPart_23 : decode cX7_lacksPart 23 = .ok (.ifCond .eq 7, 3) := by decide +kernel
theorem dX7_lacksPart_26 : decode cX7_lacksPart 26 = .ok (.iconst 0, 1) := by decide +kernel
theorem dX7_lacksPart_27 : decode cX7_lacksPart 27 = .ok (.goto 5, 3) := by decide +kernel
theorem dX7_lacksPart_30 : decode cX7_lacksPart 30 = .ok (.bipush (-4), 2) := by decide +kernel
theorem dX7_lacksPart_32 : decode cX7_lacksPart 32 = .ok (.ireturn, 1) := by decide +kernel
def f_X7_lacksPart (x1 : Int32) (x2 : Int32) (S : St) : Option (Int32) := (f_X7_lacks x1 S).bind fun v2 => (if v2 < 0 then (some v2) else ((f_X7_isPart (((2 : Int32) * x1) + x2) S).bind fun v20 => (if v20 = true then (some (0 : Int32)) else (some (-4 : Int32)))))
set_option maxRecDepth 100000 in
set_option maxHeartbeats 4000000 in
theorem m_X7_lacksPart (l : Launch) (w : Wd) (x1 : Int32) (x2 : Int32) (S : St)  : J l w I_X7_lacksPart 0 [(0, .ref (w.2.1 + 108)), (1, .int x1), (2, .int x2)] [] S (fun b => (some (.int b), S)) (f_X7_lacksPart x1 x2 S) := by
  unfold f_X7_lacksPart
  refine j_aload_n (y := I_X7_lacksPart) 0 dX7_lacksPart_0 rfl rfl ?_
  refine j_iload_n (y := I_X7_lacksPart) 1 dX7_lacksPart_1 rfl rfl ?_
  refine j_callViR (y := I_X7_lacksPart) (As := [.int x1]) cv_7_107 ⟨Nat.le_of_ble_eq_true rfl, Nat.le_of_ble_eq_true rfl⟩ k_108 rfl (Nat.le_of_ble_eq_true rfl) dX7_lacksPart_2 (c_X7_lacks l w x1 S) (fun v2 h2 => ?_)
  refine j_istore_n (y := I_X7_lacksPart) (ls' := [(3, .int v2), (0, .ref (w.2.1 + 108)), (1, .int x1), (2, .int x2)]) dX7_lacksPart_5 rfl (by decide) rfl ?_
  refine j_iload_n (y := I_X7_lacksPart) 0 dX7_lacksPart_6 rfl rfl ?_
  refine j_if_ge (y := I_X7_lacksPart) 14 dX7_lacksPart_7 (by decide) (fun h7 => ?_) (fun h7 => ?_)
  · refine j_aload_n (y := I_X7_lacksPart) 1 dX7_lacksPart_14 rfl rfl ?_
    refine j_iconst (y := I_X7_lacksPart) (v := 2) dX7_lacksPart_15 (by decide) ?_
    refine j_iload_n (y := I_X7_lacksPart) 2 dX7_lacksPart_16 rfl rfl ?_
    refine j_imul (y := I_X7_lacksPart) dX7_lacksPart_17 ?_
    refine j_iload_n (y := I_X7_lacksPart) 3 dX7_lacksPart_18 rfl rfl ?_
    refine j_iadd (y := I_X7_lacksPart) dX7_lacksPart_19 ?_
    refine j_callVzR (y := I_X7_lacksPart) (As := [.int (((2 : Int32) * x1) + x2)]) cv_7_140 ⟨Nat.le_of_ble_eq_true rfl, Nat.le_of_ble_eq_true rfl⟩ k_108 rfl (Nat.le_of_ble_eq_true rfl) dX7_lacksPart_20 (c_X7_isPart l w (((2 : Int32) * x1) + x2) S) (fun v20 h20 => ?_)
    refine j_if_eqB (y := I_X7_lacksPart) 30 dX7_lacksPart_23 (by decide) (fun h23 => ?_) (fun h23 => ?_)
    · refine j_bipush (y := I_X7_lacksPart) (v := -4) dX7_lacksPart_30 (by decide) ?_
      exact j_iret (y := I_X7_lacksPart) rfl dX7_lacksPart_32 rfl
    · refine j_iconst (y := I_X7_lacksPart) (v := 0) dX7_lacksPart_26 (by decide) ?_
      refine j_goto (y := I_X7_lacksPart) 32 dX7_lacksPart_27 (by decide) ?_
      exact j_iret (y := I_X7_lacksPart) rfl dX7_lacksPart_32 rfl
  · refine j_iload_n (y := I_X7_lacksPart) 0 dX7_lacksPart_10 rfl rfl ?_
    refine j_goto (y := I_X7_lacksPart) 32 dX7_lacksPart_11 (by decide) ?_
    exact j_iret (y := I_X7_lacksPart) rfl dX7_lacksPart_32 rfl
theorem c_X7_lacksPart (l : Launch) (w : Wd) (x1 : Int32) (x2 : Int32) (S : St)  : ∀ v, f_X7_lacksPart x1 x2 S = some v → CtS l w I_X7_lacksPart [.ref (w.2.1 + 108), .int x1, .int x2] S S (some (.int v)) := fun v h => J.ct (av := [.ref (w.2.1 + 108), .int x1, .int x2]) (Nat.le_of_ble_eq_true rfl) pn_7 (m_X7_lacksPart l w x1 x2 S ) h
abbrev I_X7_fruits : MI := (yX7_fruits, cX7_fruits, 4, some .int, { frames := 4, cells := 0, slots := 0, locals := 87 })
theorem dX7_fruits_0 : decode cX7_fruits 0 = .ok (.iload_n 1, 1) := by decide +kernel
theorem dX7_fruits_1 : decode cX7_fruits 1 = .ok (.invokestatic 88, 3) := by decide +kernel
theorem dX7_fruits_4 : decode cX7_fruits 4 = .ok (.ifCond .eq 12, 3) := by decide +kernel
theorem dX7_fruits_7 : decode cX7_fruits 7 = .ok (.iload_n 2, 1) := by decide +kernel
theorem dX7_fruits_8 : decode cX7_fruits 8 = .ok (.iconst 0, 1) := by decide +kernel
theorem dX7_fruits_9 : decode cX7_fruits 9 = .ok (.iconst 1, 1) := by decide +kernel
theorem dX7_fruits_10 : decode cX7_fruits 10 = .ok (.invokestatic 64, 3) := by decide +kernel
theorem dX7_fruits_13 : decode cX7_fruits 13 = .ok (.ifCond .ne 9, 3) := by decide +kernel
theorem dX7_fruits_16 : decode cX7_fruits 16 = .ok (.aload_n 0, 1) := by decide +kernel
theorem dX7_fruits_17 : decode cX7_fruits 17 = .ok (.iconst (-1), 1) := by decide +kernel
theorem dX7_fruits_18 : decode cX7_fruits 18 = .ok (.invokevirtual 72, 3) := by decide +kernel
theorem dX7_fruits_21 : decode cX7_fruits 21 = .ok (.ireturn, 1) := by decide +kernel
theorem dX7_fruits_22 : decode cX7_fruits 22 = .ok (.aload_n 0, 1) := by decide +kernel
theorem dX7_fruits_23 : decode cX7_fruits 23 = .ok (.iload_n 1, 1) := by decide +kernel
theorem dX7_fruits_24 : decode cX7_fruits 24 = .ok (.iload_n 2, 1) := by decide +kernel
theorem dX7_fruits_25 : decode cX7_fruits 25 = .ok (.invokevirtual 156, 3) := by decide +kernel
theorem dX7_fruits_28 : decode cX7_fruits 28 = .ok (.istore_n 3, 1) := by decide +kernel
theorem dX7_fruits_29 : decode cX7_fruits 29 = .ok (.iload_n 3, 1) := by decide +kernel
theorem dX7_fruits_30 : decode cX7_fruits 30 = .ok (.ifCond .ge 11, 3) := by decide +kernel
theorem dX7_fruits_33 : decode cX7_fruits 33 = .ok (.aload_n 0, 1) := by decide +kernel
theorem dX7_fruits_34 : decode cX7_fruits 34 = .ok (.iload_n 3, 1) := by decide +kernel
theorem dX7_fruits_35 : decode cX7_fruits 35 = .ok (.invokevirtual 72, 3) := by decide +kernel
theorem dX7_fruits_38 : decode cX7_fruits 38 = .ok (.goto 12, 3) := by decide +kernel
theorem dX7_fruits_41 : decode cX7_fruits 41 = .ok (.aload_n 0, 1) := by decide +kernel
theorem dX7_fruits_42 : decode cX7_fruits 42 = .ok (.iconst 2, 1) := by decide +kernel
theorem dX7_fruits_43 : decode cX7_fruits 43 = .ok (.iload_n 1, 1) := by decide +kernel
theorem dX7_fruits_44 : decode cX7_fruits 44 = .ok (.imul, 1) := by decide +kernel
theorem dX7_fruits_45 : decode cX7_fruits 45 = .ok (.iload_n 2, 1) := by decide +kernel
theorem dX7_fruits_46 : decode cX7_fruits 46 = .ok (.iadd, 1) := by decide +kernel
theorem dX7_fruits_47 : decode cX7_fruits 47 = .ok (.invokevirtual 162, 3) := by decide +kernel
theorem dX7_fruits_50 : decode cX7_fruits 50 = .ok (.ireturn, 1) := by decide +kernel
theorem cv_7_156 : CV RX7 156 2 7 I_X7_lacksPart := ⟨⟨⟨gm 1001 (by decide +kernel) rfl, gm 1004 (by decide +kernel) rfl, gm 44 (by decide +kernel) rfl, mh_7.1, mh_7.2, by decide +kernel⟩, gm 1003 (by decide +kernel) rfl, gm 17 (by decide +kernel) rfl⟩, ⟨_, _, rfl⟩, rfl, rfl⟩
def f_X7_fruits (x1 : Int32) (x2 : Int32) (S : St) : Option (Int32 × St) := if (f_X7_isPlace x1) = true then (if (f_X7_in x2 (0 : Int32) (1 : Int32)) = true then ((f_X7_lacksPart x1 x2 S).bind fun v25 => (if v25 < 0 then (some (((f_X7_found v25 S).1), (f_X7_found v25 S).2)) else ((f_X7_fruitsOf (((2 : Int32) * x1) + x2) S).bind fun v47 => (some (v47, S))))) else (some (((f_X7_found (-1 : Int32) S).1), (f_X7_found (-1 : Int32) S).2))) else (some (((f_X7_found (-1 : Int32) S).1), (f_X7_found (-1 : Int32) S).2))
set_option maxRecDepth 100000 in
set_option maxHeartbeats 4000000 in
theorem m_X7_fruits (l : Launch) (w : Wd) (x1 : Int32) (x2 : Int32) (S : St)  : J l w I_X7_fruits 0 [(0, .ref (w.2.1 + 108)), (1, .int x1), (2, .int x2)] [] S (fun b => (some (.int b.1), b.2)) (f_X7_fruits x1 x2 S) := by
  unfold f_X7_fruits
  refine j_iload_n (y := I_X7_fruits) 1 dX7_fruits_0 rfl rfl ?_
  refine j_callSzT (y := I_X7_fruits) (As := [.int x1]) cv_7_88 ⟨Nat.le_of_ble_eq_true rfl, Nat.le_of_ble_eq_true rfl⟩ rfl (Nat.le_of_ble_eq_true rfl) dX7_fruits_1 (c_X7_isPlace l w x1 S) ?_
  refine j_if_eqB (y := I_X7_fruits) 16 dX7_fruits_4 (by decide) (fun h4 => ?_) (fun h4 => ?_)
  · refine j_aload_n (y := I_X7_fruits) 0 dX7_fruits_16 rfl rfl ?_
    refine j_iconst (y := I_X7_fruits) (v := -1) dX7_fruits_17 (by decide) ?_
    refine j_callViT (y := I_X7_fruits) (As := [.int (-1 : Int32)]) cv_7_72 ⟨Nat.le_of_ble_eq_true rfl, Nat.le_of_ble_eq_true rfl⟩ k_108 rfl (Nat.le_of_ble_eq_true rfl) dX7_fruits_18 (c_X7_found l w (-1 : Int32) S) ?_
    exact j_iret (y := I_X7_fruits) rfl dX7_fruits_21 rfl
  · refine j_iload_n (y := I_X7_fruits) 2 dX7_fruits_7 rfl rfl ?_
    refine j_iconst (y := I_X7_fruits) (v := 0) dX7_fruits_8 (by decide) ?_
    refine j_iconst (y := I_X7_fruits) (v := 1) dX7_fruits_9 (by decide) ?_
    refine j_callSzT (y := I_X7_fruits) (As := [.int x2, .int (0 : Int32), .int (1 : Int32)]) cv_7_64 ⟨Nat.le_of_ble_eq_true rfl, Nat.le_of_ble_eq_true rfl⟩ rfl (Nat.le_of_ble_eq_true rfl) dX7_fruits_10 (c_X7_in l w x2 (0 : Int32) (1 : Int32) S) ?_
    refine j_if_neB (y := I_X7_fruits) 22 dX7_fruits_13 (by decide) (fun h13 => ?_) (fun h13 => ?_)
    · refine j_aload_n (y := I_X7_fruits) 0 dX7_fruits_22 rfl rfl ?_
      refine j_iload_n (y := I_X7_fruits) 1 dX7_fruits_23 rfl rfl ?_
      refine j_iload_n (y := I_X7_fruits) 2 dX7_fruits_24 rfl rfl ?_
      refine j_callViR (y := I_X7_fruits) (As := [.int x1, .int x2]) cv_7_156 ⟨Nat.le_of_ble_eq_true rfl, Nat.le_of_ble_eq_true rfl⟩ k_108 rfl (Nat.le_of_ble_eq_true rfl) dX7_fruits_25 (c_X7_lacksPart l w x1 x2 S) (fun v25 h25 => ?_)
      refine j_istore_n (y := I_X7_fruits) (ls' := [(3, .int v25), (0, .ref (w.2.1 + 108)), (1, .int x1), (2, .int x2)]) dX7_fruits_28 rfl (by decide) rfl ?_
      refine j_iload_n (y := I_X7_fruits) 0 dX7_fruits_29 rfl rfl ?_
      refine j_if_ge (y := I_X7_fruits) 41 dX7_fruits_30 (by decide) (fun h30 => ?_) (fun h30 => ?_)
      · refine j_aload_n (y := I_X7_fruits) 1 dX7_fruits_41 rfl rfl ?_
        refine j_iconst (y := I_X7_fruits) (v := 2) dX7_fruits_42 (by decide) ?_
        refine j_iload_n (y := I_X7_fruits) 2 dX7_fruits_43 rfl rfl ?_
        refine j_imul (y := I_X7_fruits) dX7_fruits_44 ?_
        refine j_iload_n (y := I_X7_fruits) 3 dX7_fruits_45 rfl rfl ?_
        refine j_iadd (y := I_X7_fruits) dX7_fruits_46 ?_
        refine j_callViR (y := I_X7_fruits) (As := [.int (((2 : Int32) * x1) + x2)]) cv_7_162 ⟨Nat.le_of_ble_eq_true rfl, Nat.le_of_ble_eq_true rfl⟩ k_108 rfl (Nat.le_of_ble_eq_true rfl) dX7_fruits_47 (c_X7_fruitsOf l w (((2 : Int32) * x1) + x2) S) (fun v47 h47 => ?_)
        exact j_iret (y := I_X7_fruits) rfl dX7_fruits_50 rfl
      · refine j_aload_n (y := I_X7_fruits) 1 dX7_fruits_33 rfl rfl ?_
        refine j_iload_n (y := I_X7_fruits) 0 dX7_fruits_34 rfl rfl ?_
        refine j_callViT (y := I_X7_fruits) (As := [.int v25]) cv_7_72 ⟨Nat.le_of_ble_eq_true rfl, Nat.le_of_ble_eq_true rfl⟩ k_108 rfl (Nat.le_of_ble_eq_true rfl) dX7_fruits_35 (c_X7_found l w v25 S) ?_
        refine j_goto (y := I_X7_fruits) 50 dX7_fruits_38 (by decide) ?_
        exact j_iret (y := I_X7_fruits) rfl dX7_fruits_50 rfl
    · refine j_aload_n (y := I_X7_fruits) 0 dX7_fruits_16 rfl rfl ?_
      refine j_iconst (y := I_X7_fruits) (v := -1) dX7_fruits_17 (by decide) ?_
      refine j_callViT (y := I_X7_fruits) (As := [.int (-1 : Int32)]) cv_7_72 ⟨Nat.le_of_ble_eq_true rfl, Nat.le_of_ble_eq_true rfl⟩ k_108 rfl (Nat.le_of_ble_eq_true rfl) dX7_fruits_18 (c_X7_found l w (-1 : Int32) S) ?_
      exact j_iret (y := I_X7_fruits) rfl dX7_fruits_21 rfl
theorem c_X7_fruits (l : Launch) (w : Wd) (x1 : Int32) (x2 : Int32) (S : St)  : ∀ v, f_X7_fruits x1 x2 S = some v → CtS l w I_X7_fruits [.ref (w.2.1 + 108), .int x1, .int x2] S v.2 (some (.int v.1)) := fun v h => J.ct (av := [.ref (w.2.1 + 108), .int x1, .int x2]) (Nat.le_of_ble_eq_true rfl) pn_7 (m_X7_fruits l w x1 x2 S ) h
abbrev I_X7_given : MI := (yX7_given, cX7_given, 2, some .int, { frames := 2, cells := 0, slots := 0, locals := 42 })
theorem dX7_given_0 : decode cX7_given 0 = .ok (.aload_n 0, 1) := by decide +kernel
theorem dX7_given_1 : decode cX7_given 1 = .ok (.getfield 76, 3) := by decide +kernel
theorem dX7_given_4 : decode cX7_given 4 = .ok (.ifCond .ne 10, 3) := by decide +kernel
theorem dX7_given_7 : decode cX7_given 7 = .ok (.aload_n 0, 1) := by decide +kernel
theorem dX7_given_8 : decode cX7_given 8 = .ok (.bipush (-6), 2) := by decide +kernel
theorem dX7_given_10 : decode cX7_given 10 = .ok (.invokevirtual 72, 3) := by decide +kernel
theorem dX7_given_13 : decode cX7_given 13 = .ok (.ireturn, 1) := by decide +kernel
theorem dX7_given_14 : decode cX7_given 14 = .ok (.iload_n 1, 1) := by decide +kernel
theorem dX7_given_15 : decode cX7_given 15 = .ok (.invokestatic 88, 3) := by decide +kernel
theorem dX7_given_18 : decode cX7_given 18 = .ok (.ifCond .eq 22, 3) := by decide +kernel
theorem dX7_given_21 : decode cX7_given 21 = .ok (.aload_n 0, 1) := by decide +kernel
theorem dX7_given_22 : decode cX7_given 22 = .ok (.iload_n 1, 1) := by decide +kernel
theorem dX7_given_23 : decode cX7_given 23 = .ok (.iconst 2, 1) := by decide +kernel
theorem dX7_given_24 : decode cX7_given 24 = .ok (.invokevirtual 68, 3) := by decide +kernel
theorem dX7_given_27 : decode cX7_given 27 = .ok (.iconst 1, 1) := by decide +kernel
theorem dX7_given_28 : decode cX7_given 28 = .ok (.if_icmp .ne 12, 3) := by decide +kernel
theorem dX7_given_31 : decode cX7_given 31 = .ok (.aload_n 0, 1) := by decide +kernel
theorem dX7_given_32 : decode cX7_given 32 = .ok (.getfield 32, 3) := by decide +kernel
theorem dX7_given_35 : decode cX7_given 35 = .ok (.iload_n 1, 1) := by decide +kernel
theorem dX7_given_36 : decode cX7_given 36 = .ok (.iaload, 1) := by decide +kernel
theorem dX7_given_37 : decode cX7_given 37 = .ok (.goto 8, 3) := by decide +kernel
theorem dX7_given_40 : decode cX7_given 40 = .ok (.aload_n 0, 1) := by decide +kernel
theorem dX7_given_41 : decode cX7_given 41 = .ok (.iconst (-1), 1) := by decide +kernel
theorem dX7_given_42 : decode cX7_given 42 = .ok (.invokevirtual 72, 3) := by decide +kernel
theorem dX7_given_45 : decode cX7_given 45 = .ok (.ireturn, 1) := by decide +kernel
def f_X7_given (x1 : Int32) (S : St) : Option (Int32 × St) := if (rd S 108 9) = 0 then (some (((f_X7_found (-6 : Int32) S).1), (f_X7_found (-6 : Int32) S).2)) else (if (f_X7_isPlace x1) = true then ((f_X7_get x1 (2 : Int32) S).bind fun v24 => (if v24 = (1 : Int32) then (if inb x1 12 = true then (some ((rd S 116 (ix x1)), S)) else none) else (some (((f_X7_found (-1 : Int32) S).1), (f_X7_found (-1 : Int32) S).2)))) else (some (((f_X7_found (-1 : Int32) S).1), (f_X7_found (-1 : Int32) S).2)))
set_option maxRecDepth 100000 in
set_option maxHeartbeats 4000000 in
theorem m_X7_given (l : Launch) (w : Wd) (x1 : Int32) (S : St)  : J l w I_X7_given 0 [(0, .ref (w.2.1 + 108)), (1, .int x1)] [] S (fun b => (some (.int b.1), b.2)) (f_X7_given x1 S) := by
  unfold f_X7_given
  refine j_aload_n (y := I_X7_given) 0 dX7_given_0 rfl rfl ?_
  refine j_getI (y := I_X7_given) fl_7_76 k_108 rfl dX7_given_1 ?_
  refine j_if_ne (y := I_X7_given) 14 dX7_given_4 (by decide) (fun h4 => ?_) (fun h4 => ?_)
  · refine j_iload_n (y := I_X7_given) 1 dX7_given_14 rfl rfl ?_
    refine j_callSzT (y := I_X7_given) (As := [.int x1]) cv_7_88 ⟨Nat.le_of_ble_eq_true rfl, Nat.le_of_ble_eq_true rfl⟩ rfl (Nat.le_of_ble_eq_true rfl) dX7_given_15 (c_X7_isPlace l w x1 S) ?_
    refine j_if_eqB (y := I_X7_given) 40 dX7_given_18 (by decide) (fun h18 => ?_) (fun h18 => ?_)
    · refine j_aload_n (y := I_X7_given) 0 dX7_given_40 rfl rfl ?_
      refine j_iconst (y := I_X7_given) (v := -1) dX7_given_41 (by decide) ?_
      refine j_callViT (y := I_X7_given) (As := [.int (-1 : Int32)]) cv_7_72 ⟨Nat.le_of_ble_eq_true rfl, Nat.le_of_ble_eq_true rfl⟩ k_108 rfl (Nat.le_of_ble_eq_true rfl) dX7_given_42 (c_X7_found l w (-1 : Int32) S) ?_
      exact j_iret (y := I_X7_given) rfl dX7_given_45 rfl
    · refine j_aload_n (y := I_X7_given) 0 dX7_given_21 rfl rfl ?_
      refine j_iload_n (y := I_X7_given) 1 dX7_given_22 rfl rfl ?_
      refine j_iconst (y := I_X7_given) (v := 2) dX7_given_23 (by decide) ?_
      refine j_callViR (y := I_X7_given) (As := [.int x1, .int (2 : Int32)]) cv_7_68 ⟨Nat.le_of_ble_eq_true rfl, Nat.le_of_ble_eq_true rfl⟩ k_108 rfl (Nat.le_of_ble_eq_true rfl) dX7_given_24 (c_X7_get l w x1 (2 : Int32) S) (fun v24 h24 => ?_)
      refine j_iconst (y := I_X7_given) (v := 1) dX7_given_27 (by decide) ?_
      refine j_icmp_ne (y := I_X7_given) 40 dX7_given_28 (by decide) (fun h28 => ?_) (fun h28 => ?_)
      · refine j_aload_n (y := I_X7_given) 0 dX7_given_40 rfl rfl ?_
        refine j_iconst (y := I_X7_given) (v := -1) dX7_given_41 (by decide) ?_
        refine j_callViT (y := I_X7_given) (As := [.int (-1 : Int32)]) cv_7_72 ⟨Nat.le_of_ble_eq_true rfl, Nat.le_of_ble_eq_true rfl⟩ k_108 rfl (Nat.le_of_ble_eq_true rfl) dX7_given_42 (c_X7_found l w (-1 : Int32) S) ?_
        exact j_iret (y := I_X7_given) rfl dX7_given_45 rfl
      · refine j_aload_n (y := I_X7_given) 0 dX7_given_31 rfl rfl ?_
        refine j_getR (y := I_X7_given) (j := 116) fl_7_32 k_108 rfl rfl dX7_given_32 ?_
        refine j_iload_n (y := I_X7_given) 1 dX7_given_35 rfl rfl ?_
        refine j_iald (y := I_X7_given) k_116 dX7_given_36 (fun h36 => ?_)
        refine j_goto (y := I_X7_given) 45 dX7_given_37 (by decide) ?_
        exact j_iret (y := I_X7_given) rfl dX7_given_45 rfl
  · refine j_aload_n (y := I_X7_given) 0 dX7_given_7 rfl rfl ?_
    refine j_bipush (y := I_X7_given) (v := -6) dX7_given_8 (by decide) ?_
    refine j_callViT (y := I_X7_given) (As := [.int (-6 : Int32)]) cv_7_72 ⟨Nat.le_of_ble_eq_true rfl, Nat.le_of_ble_eq_true rfl⟩ k_108 rfl (Nat.le_of_ble_eq_true rfl) dX7_given_10 (c_X7_found l w (-6 : Int32) S) ?_
    exact j_iret (y := I_X7_given) rfl dX7_given_13 rfl
theorem c_X7_given (l : Launch) (w : Wd) (x1 : Int32) (S : St)  : ∀ v, f_X7_given x1 S = some v → CtS l w I_X7_given [.ref (w.2.1 + 108), .int x1] S v.2 (some (.int v.1)) := fun v h => J.ct (av := [.ref (w.2.1 + 108), .int x1]) (Nat.le_of_ble_eq_true rfl) pn_7 (m_X7_given l w x1 S ) h
abbrev I_X7_go : MI := (yX7_go, cX7_go, 4, some .int, { frames := 9, cells := 0, slots := 0, locals := 211 })
theorem dX7_go_0 : decode cX7_go 0 = .ok (.iload_n 1, 1) := by decide +kernel
theorem dX7_go_1 : decode cX7_go 1 = .ok (.iconst 1, 1) := by decide +kernel
theorem dX7_go_2 : decode cX7_go 2 = .ok (.bipush 50, 2) := by decide +kernel
theorem dX7_go_4 : decode cX7_go 4 = .ok (.invokestatic 64, 3) := by decide +kernel
theorem dX7_go_7 : decode cX7_go 7 = .ok (.ifCond .ne 9, 3) := by decide +kernel
theorem dX7_go_10 : decode cX7_go 10 = .ok (.aload_n 0, 1) := by decide +kernel
theorem dX7_go_11 : decode cX7_go 11 = .ok (.iconst (-1), 1) := by decide +kernel
theorem dX7_go_12 : decode cX7_go 12 = .ok (.invokevirtual 72, 3) := by decide +kernel
theorem dX7_go_15 : decode cX7_go 15 = .ok (.ireturn, 1) := by decide +kernel
theorem dX7_go_16 : decode cX7_go 16 = .ok (.aload_n 0, 1) := by decide +kernel
theorem dX7_go_17 : decode cX7_go 17 = .ok (.getfield 7, 3) := by decide +kernel
theorem dX7_go_20 : decode cX7_go 20 = .ok (.sipush 784, 3) := by decide +kernel
theorem dX7_go_23 : decode cX7_go 23 = .ok (.iaload, 1) := by decide +kernel
theorem dX7_go_24 : decode cX7_go 24 = .ok (.istore_n 2, 1) := by decide +kernel
theorem dX7_go_25 : decode cX7_go 25 = .ok (.iconst 0, 1) := by decide +kernel
theorem dX7_go_26 : decode cX7_go 26 = .ok (.istore_n 3, 1) := by decide +kernel
theorem dX7_go_27 : decode cX7_go 27 = .ok (.iload_n 3, 1) := by decide +kernel
theorem dX7_go_28 : decode cX7_go 28 = .ok (.iload_n 1, 1) := by decide +kernel
theorem dX7_go_29 : decode cX7_go 29 = .ok (.if_icmp .ge 25, 3) := by decide +kernel
theorem dX7_go_32 : decode cX7_go 32 = .ok (.aload_n 0, 1) := by decide +kernel
theorem dX7_go_33 : decode cX7_go 33 = .ok (.getfield 7, 3) := by decide +kernel
theorem dX7_go_36 : decode cX7_go 36 = .ok (.sipush 784, 3) := by decide +kernel
theorem dX7_go_39 : decode cX7_go 39 = .ok (.iaload, 1) := by decide +kernel
theorem dX7_go_40 : decode cX7_go 40 = .ok (.iload_n 2, 1) := by decide +kernel
theorem dX7_go_41 : decode cX7_go 41 = .ok (.if_icmp .ne 13, 3) := by decide +kernel
theorem dX7_go_44 : decode cX7_go 44 = .ok (.aload_n 0, 1) := by decide +kernel
theorem dX7_go_45 : decode cX7_go 45 = .ok (.invokevirtual 192, 3) := by decide +kernel
theorem dX7_go_48 : decode cX7_go 48 = .ok (.iinc 3 1, 3) := by decide +kernel
theorem dX7_go_51 : decode cX7_go 51 = .ok (.goto (-24), 3) := by decide +kernel
theorem dX7_go_54 : decode cX7_go 54 = .ok (.iload_n 3, 1) := by decide +kernel
theorem dX7_go_55 : decode cX7_go 55 = .ok (.ireturn, 1) := by decide +kernel
theorem cv_7_192 : CV RX7 192 0 7 I_X7_day := ⟨⟨⟨gm 1072 (by decide +kernel) rfl, gm 1075 (by decide +kernel) rfl, gm 44 (by decide +kernel) rfl, mh_7.1, mh_7.2, by decide +kernel⟩, gm 1074 (by decide +kernel) rfl, gm 28 (by decide +kernel) rfl⟩, ⟨_, _, rfl⟩, rfl, rfl⟩
def f_X7_go_L27 (fuel : Nat) (K : Int32 → St → Option (Int32 × St)) (a27_1 : Int32) (a27_2 : Int32) (a27_3 : Int32) (S27 : St) : Option (Int32 × St) := match fuel with
  | 0 => none
  | n + 1 => if a27_3 < a27_1 then (if (rd S27 109 (ix (784 : Int32))) = a27_2 then ((f_X7_day S27).bind fun v45 => (f_X7_go_L27 n K a27_1 a27_2 (a27_3 + (1 : Int32)) v45)) else (K a27_3 S27)) else (K a27_3 S27)
def f_X7_go (x1 : Int32) (S : St) : Option (Int32 × St) := if (f_X7_in x1 (1 : Int32) (50 : Int32)) = true then (f_X7_go_L27 6000 (fun e54_3 T54 => (some (e54_3, T54))) x1 (rd S 109 (ix (784 : Int32))) (0 : Int32) S) else (some (((f_X7_found (-1 : Int32) S).1), (f_X7_found (-1 : Int32) S).2))
set_option maxRecDepth 100000 in
theorem jl_X7_go_27 (l : Launch) (w : Wd) (K : Int32 → St → Option (Int32 × St)) (n : Nat) : ∀ (a27_1 : Int32) (a27_2 : Int32) (a27_3 : Int32) (S27 : St), (∀ (e54_3 : Int32) (S' : St) , J l w I_X7_go 54 [(3, .int e54_3)] [] S' (fun b => (some (.int b.1), b.2)) (K e54_3 S')) → J l w I_X7_go 27 [(0, .ref (w.2.1 + 108)), (1, .int a27_1), (2, .int a27_2), (3, .int a27_3)] [] S27 (fun b => (some (.int b.1), b.2)) (f_X7_go_L27 n K a27_1 a27_2 a27_3 S27) := by
  induction n with
  | zero =>
    intro a27_1 a27_2 a27_3 S27 hK b h
    simp only [f_X7_go_L27] at h
    cases h
  | succ n ih =>
    intro a27_1 a27_2 a27_3 S27 hK
    rw [f_X7_go_L27]
    refine j_iload_n (y := I_X7_go) 3 dX7_go_27 rfl rfl ?_
    refine j_iload_n (y := I_X7_go) 1 dX7_go_28 rfl rfl ?_
    refine j_icmp_ge (y := I_X7_go) 54 dX7_go_29 (by decide) (fun h29 => ?_) (fun h29 => ?_)
    · refine j_sub [3] rfl ?_
      exact hK a27_3 S27
    · refine j_aload_n (y := I_X7_go) 0 dX7_go_32 rfl rfl ?_
      refine j_getR (y := I_X7_go) (j := 109) fl_7_7 k_108 rfl rfl dX7_go_33 ?_
      refine j_sipush (y := I_X7_go) (v := 784) dX7_go_36 (by decide) ?_
      refine j_ialdL (y := I_X7_go) k_109 (by decide) dX7_go_39 ?_
      refine j_iload_n (y := I_X7_go) 2 dX7_go_40 rfl rfl ?_
      refine j_icmp_ne (y := I_X7_go) 54 dX7_go_41 (by decide) (fun h41 => ?_) (fun h41 => ?_)
      · refine j_sub [3] rfl ?_
        exact hK a27_3 S27
      · refine j_aload_n (y := I_X7_go) 0 dX7_go_44 rfl rfl ?_
        refine j_callVvS (y := I_X7_go) (As := []) cv_7_192 ⟨Nat.le_of_ble_eq_true rfl, Nat.le_of_ble_eq_true rfl⟩ k_108 rfl (Nat.le_of_ble_eq_true rfl) dX7_go_45 (c_X7_day l w S27) (fun v45 h45 => ?_)
        refine j_iinc (y := I_X7_go) 3 (ls' := [(3, .int (a27_3 + (1 : Int32))), (0, .ref (w.2.1 + 108)), (1, .int a27_1), (2, .int a27_2)]) dX7_go_48 rfl (ii _ _ (by decide) _) (by decide) rfl ?_
        refine j_goto (y := I_X7_go) 27 dX7_go_51 (by decide) ?_
        refine j_sub [1, 2, 3, 0] rfl ?_
        exact ih a27_1 a27_2 (a27_3 + (1 : Int32)) v45 hK
set_option maxRecDepth 100000 in
set_option maxHeartbeats 4000000 in
theorem m_X7_go (l : Launch) (w : Wd) (x1 : Int32) (S : St)  : J l w I_X7_go 0 [(0, .ref (w.2.1 + 108)), (1, .int x1)] [] S (fun b => (some (.int b.1), b.2)) (f_X7_go x1 S) := by
  unfold f_X7_go
  refine j_iload_n (y := I_X7_go) 1 dX7_go_0 rfl rfl ?_
  refine j_iconst (y := I_X7_go) (v := 1) dX7_go_1 (by decide) ?_
  refine j_bipush (y := I_X7_go) (v := 50) dX7_go_2 (by decide) ?_
  refine j_callSzT (y := I_X7_go) (As := [.int x1, .int (1 : Int32), .int (50 : Int32)]) cv_7_64 ⟨Nat.le_of_ble_eq_true rfl, Nat.le_of_ble_eq_true rfl⟩ rfl (Nat.le_of_ble_eq_true rfl) dX7_go_4 (c_X7_in l w x1 (1 : Int32) (50 : Int32) S) ?_
  refine j_if_neB (y := I_X7_go) 16 dX7_go_7 (by decide) (fun h7 => ?_) (fun h7 => ?_)
  · refine j_aload_n (y := I_X7_go) 0 dX7_go_16 rfl rfl ?_
    refine j_getR (y := I_X7_go) (j := 109) fl_7_7 k_108 rfl rfl dX7_go_17 ?_
    refine j_sipush (y := I_X7_go) (v := 784) dX7_go_20 (by decide) ?_
    refine j_ialdL (y := I_X7_go) k_109 (by decide) dX7_go_23 ?_
    refine j_istore_n (y := I_X7_go) (ls' := [(2, .int (rd S 109 (ix (784 : Int32)))), (0, .ref (w.2.1 + 108)), (1, .int x1)]) dX7_go_24 rfl (by decide) rfl ?_
    refine j_iconst (y := I_X7_go) (v := 0) dX7_go_25 (by decide) ?_
    refine j_istore_n (y := I_X7_go) (ls' := [(3, .int (0 : Int32)), (2, .int (rd S 109 (ix (784 : Int32)))), (0, .ref (w.2.1 + 108)), (1, .int x1)]) dX7_go_26 rfl (by decide) rfl ?_
    refine j_sub [2, 3, 1, 0] rfl ?_
    refine jl_X7_go_27 l w _ 6000 x1 (rd S 109 (ix (784 : Int32))) (0 : Int32) S  (fun e54_3 T54 => ?_)
    refine j_iload_n (y := I_X7_go) 0 dX7_go_54 rfl rfl ?_
    exact j_iret (y := I_X7_go) rfl dX7_go_55 rfl
  · refine j_aload_n (y := I_X7_go) 0 dX7_go_10 rfl rfl ?_
    refine j_iconst (y := I_X7_go) (v := -1) dX7_go_11 (by decide) ?_
    refine j_callViT (y := I_X7_go) (As := [.int (-1 : Int32)]) cv_7_72 ⟨Nat.le_of_ble_eq_true rfl, Nat.le_of_ble_eq_true rfl⟩ k_108 rfl (Nat.le_of_ble_eq_true rfl) dX7_go_12 (c_X7_found l w (-1 : Int32) S) ?_
    exact j_iret (y := I_X7_go) rfl dX7_go_15 rfl
theorem c_X7_go (l : Launch) (w : Wd) (x1 : Int32) (S : St)  : ∀ v, f_X7_go x1 S = some v → CtS l w I_X7_go [.ref (w.2.1 + 108), .int x1] S v.2 (some (.int v.1)) := fun v h => J.ct (av := [.ref (w.2.1 + 108), .int x1]) (Nat.le_of_ble_eq_true rfl) pn_7 (m_X7_go l w x1 S ) h
abbrev I_X7_hours : MI := (yX7_hours, cX7_hours, 3, some .int, { frames := 1, cells := 0, slots := 0, locals := 22 })
theorem dX7_hours_0 : decode cX7_hours 0 = .ok (.iload_n 1, 1) := by decide +kernel
theorem dX7_hours_1 : decode cX7_hours 1 = .ok (.iconst 0, 1) := by decide +kernel
theorem dX7_hours_2 : decode cX7_hours 2 = .ok (.sipush 1000, 3) := by decide +kernel
theorem dX7_hours_5 : decode cX7_hours 5 = .ok (.invokestatic 64, 3) := by decide +kernel
theorem dX7_hours_8 : decode cX7_hours 8 = .ok (.ifCond .ne 9, 3) := by decide +kernel
theorem dX7_hours_11 : decode cX7_hours 11 = .ok (.aload_n 0, 1) := by decide +kernel
theorem dX7_hours_12 : decode cX7_hours 12 = .ok (.iconst (-1), 1) := by decide +kernel
theorem dX7_hours_13 : decode cX7_hours 13 = .ok (.invokevirtual 72, 3) := by decide +kernel
theorem dX7_hours_16 : decode cX7_hours 16 = .ok (.ireturn, 1) := by decide +kernel
theorem dX7_hours_17 : decode cX7_hours 17 = .ok (.aload_n 0, 1) := by decide +kernel
theorem dX7_hours_18 : decode cX7_hours 18 = .ok (.getfield 7, 3) := by decide +kernel
theorem dX7_hours_21 : decode cX7_hours 21 = .ok (.sipush 787, 3) := by decide +kernel
theorem dX7_hours_24 : decode cX7_hours 24 = .ok (.iaload, 1) := by decide +kernel
theorem dX7_hours_25 : decode cX7_hours 25 = .ok (.istore_n 2, 1) := by decide +kernel
theorem dX7_hours_26 : decode cX7_hours 26 = .ok (.aload_n 0, 1) := by decide +kernel
theorem dX7_hours_27 : decode cX7_hours 27 = .ok (.getfield 7, 3) := by decide +kernel
theorem dX7_hours_30 : decode cX7_hours 30 = .ok (.sipush 787, 3) := by decide +kernel
theorem dX7_hours_33 : decode cX7_hours 33 = .ok (.iload_n 1, 1) := by decide +kernel
theorem dX7_hours_34 : decode cX7_hours 34 = .ok (.iastore, 1) := by decide +kernel
theorem dX7_hours_35 : decode cX7_hours 35 = .ok (.iload_n 2, 1) := by decide +kernel
theorem dX7_hours_36 : decode cX7_hours 36 = .ok (.ireturn, 1) := by decide +kernel
def f_X7_hours (x1 : Int32) (S : St) : Option (Int32 × St) := if (f_X7_in x1 (0 : Int32) (1000 : Int32)) = true then (some ((rd S 109 (ix (787 : Int32))), (wr S 109 (ix (787 : Int32)) x1))) else (some (((f_X7_found (-1 : Int32) S).1), (f_X7_found (-1 : Int32) S).2))
set_option maxRecDepth 100000 in
set_option maxHeartbeats 4000000 in
theorem m_X7_hours (l : Launch) (w : Wd) (x1 : Int32) (S : St)  : J l w I_X7_hours 0 [(0, .ref (w.2.1 + 108)), (1, .int x1)] [] S (fun b => (some (.int b.1), b.2)) (f_X7_hours x1 S) := by
  unfold f_X7_hours
  refine j_iload_n (y := I_X7_hours) 1 dX7_hours_0 rfl rfl ?_
  refine j_iconst (y := I_X7_hours) (v := 0) dX7_hours_1 (by decide) ?_
  refine j_sipush (y := I_X7_hours) (v := 1000) dX7_hours_2 (by decide) ?_
  refine j_callSzT (y := I_X7_hours) (As := [.int x1, .int (0 : Int32), .int (1000 : Int32)]) cv_7_64 ⟨Nat.le_of_ble_eq_true rfl, Nat.le_of_ble_eq_true rfl⟩ rfl (Nat.le_of_ble_eq_true rfl) dX7_hours_5 (c_X7_in l w x1 (0 : Int32) (1000 : Int32) S) ?_
  refine j_if_neB (y := I_X7_hours) 17 dX7_hours_8 (by decide) (fun h8 => ?_) (fun h8 => ?_)
  · refine j_aload_n (y := I_X7_hours) 0 dX7_hours_17 rfl rfl ?_
    refine j_getR (y := I_X7_hours) (j := 109) fl_7_7 k_108 rfl rfl dX7_hours_18 ?_
    refine j_sipush (y := I_X7_hours) (v := 787) dX7_hours_21 (by decide) ?_
    refine j_ialdL (y := I_X7_hours) k_109 (by decide) dX7_hours_24 ?_
    refine j_istore_n (y := I_X7_hours) (ls' := [(2, .int (rd S 109 (ix (787 : Int32)))), (0, .ref (w.2.1 + 108)), (1, .int x1)]) dX7_hours_25 rfl (by decide) rfl ?_
    refine j_aload_n (y := I_X7_hours) 1 dX7_hours_26 rfl rfl ?_
    refine j_getR (y := I_X7_hours) (j := 109) fl_7_7 k_108 rfl rfl dX7_hours_27 ?_
    refine j_sipush (y := I_X7_hours) (v := 787) dX7_hours_30 (by decide) ?_
    refine j_iload_n (y := I_X7_hours) 2 dX7_hours_33 rfl rfl ?_
    refine j_iastL (y := I_X7_hours) k_109 (by decide) dX7_hours_34 ?_
    refine j_iload_n (y := I_X7_hours) 0 dX7_hours_35 rfl rfl ?_
    exact j_iret (y := I_X7_hours) rfl dX7_hours_36 rfl
  · refine j_aload_n (y := I_X7_hours) 0 dX7_hours_11 rfl rfl ?_
    refine j_iconst (y := I_X7_hours) (v := -1) dX7_hours_12 (by decide) ?_
    refine j_callViT (y := I_X7_hours) (As := [.int (-1 : Int32)]) cv_7_72 ⟨Nat.le_of_ble_eq_true rfl, Nat.le_of_ble_eq_true rfl⟩ k_108 rfl (Nat.le_of_ble_eq_true rfl) dX7_hours_13 (c_X7_found l w (-1 : Int32) S) ?_
    exact j_iret (y := I_X7_hours) rfl dX7_hours_16 rfl
theorem c_X7_hours (l : Launch) (w : Wd) (x1 : Int32) (S : St)  : ∀ v, f_X7_hours x1 S = some v → CtS l w I_X7_hours [.ref (w.2.1 + 108), .int x1] S v.2 (some (.int v.1)) := fun v h => J.ct (av := [.ref (w.2.1 + 108), .int x1]) (Nat.le_of_ble_eq_true rfl) pn_7 (m_X7_hours l w x1 S ) h
abbrev I_X7_keep : MI := (yX7_keep, cX7_keep, 2, some .int, { frames := 0, cells := 0, slots := 0, locals := 0 })
theorem dX7_keep_0 : decode cX7_keep 0 = .ok (.iconst 0, 1) := by decide +kernel
theorem dX7_keep_1 : decode cX7_keep 1 = .ok (.istore_n 1, 1) := by decide +kernel
theorem dX7_keep_2 : decode cX7_keep 2 = .ok (.iload_n 1, 1) := by decide +kernel
theorem dX7_keep_3 : decode cX7_keep 3 = .ok (.sipush 788, 3) := by decide +kernel
theorem dX7_keep_6 : decode cX7_keep 6 = .ok (.if_icmp .ge 21, 3) := by decide +kernel
theorem dX7_keep_9 : decode cX7_keep 9 = .ok (.aload_n 0, 1) := by decide +kernel
theorem dX7_keep_10 : decode cX7_keep 10 = .ok (.getfield 13, 3) := by decide +kernel
theorem dX7_keep_13 : decode cX7_keep 13 = .ok (.iload_n 1, 1) := by decide +kernel
theorem dX7_keep_14 : decode cX7_keep 14 = .ok (.aload_n 0, 1) := by decide +kernel
theorem dX7_keep_15 : decode cX7_keep 15 = .ok (.getfield 7, 3) := by decide +kernel
theorem dX7_keep_18 : decode cX7_keep 18 = .ok (.iload_n 1, 1) := by decide +kernel
theorem dX7_keep_19 : decode cX7_keep 19 = .ok (.iaload, 1) := by decide +kernel
theorem dX7_keep_20 : decode cX7_keep 20 = .ok (.iastore, 1) := by decide +kernel
theorem dX7_keep_21 : decode cX7_keep 21 = .ok (.iinc 1 1, 3) := by decide +kernel
theorem dX7_keep_24 : decode cX7_keep 24 = .ok (.goto (-22), 3) := by decide +kernel
theorem dX7_keep_27 : decode cX7_keep 27 = .ok (.iconst 0, 1) := by decide +kernel
theorem dX7_keep_28 : decode cX7_keep 28 = .ok (.istore_n 1, 1) := by decide +kernel
theorem dX7_keep_29 : decode cX7_keep 29 = .ok (.iload_n 1, 1) := by decide +kernel
theorem dX7_keep_30 : decode cX7_keep 30 = .ok (.bipush 10, 2) := by decide +kernel
theorem dX7_keep_32 : decode cX7_keep 32 = .ok (.if_icmp .ge 21, 3) := by decide +kernel
theorem dX7_keep_35 : decode cX7_keep 35 = .ok (.aload_n 0, 1) := by decide +kernel
theorem dX7_keep_36 : decode cX7_keep 36 = .ok (.getfield 20, 3) := by decide +kernel
theorem dX7_keep_39 : decode cX7_keep 39 = .ok (.iload_n 1, 1) := by decide +kernel
theorem dX7_keep_40 : decode cX7_keep 40 = .ok (.aload_n 0, 1) := by decide +kernel
theorem dX7_keep_41 : decode cX7_keep 41 = .ok (.getfield 16, 3) := by decide +kernel
theorem dX7_keep_44 : decode cX7_keep 44 = .ok (.iload_n 1, 1) := by decide +kernel
theorem dX7_keep_45 : decode cX7_keep 45 = .ok (.laload, 1) := by decide +kernel
theorem dX7_keep_46 : decode cX7_keep 46 = .ok (.lastore, 1) := by decide +kernel
theorem dX7_keep_47 : decode cX7_keep 47 = .ok (.iinc 1 1, 3) := by decide +kernel
theorem dX7_keep_50 : decode cX7_keep 50 = .ok (.goto (-21), 3) := by decide +kernel
theorem dX7_keep_53 : decode cX7_keep 53 = .ok (.aload_n 0, 1) := by decide +kernel
theorem dX7_keep_54 : decode cX7_keep 54 = .ok (.iconst 1, 1) := by decide +kernel
theorem dX7_keep_55 : decode cX7_keep 55 = .ok (.putfield 203, 3) := by decide +kernel
theorem dX7_keep_58 : decode cX7_keep 58 = .ok (.aload_n 0, 1) := by decide +kernel
theorem dX7_keep_59 : decode cX7_keep 59 = .ok (.getfield 7, 3) := by decide +kernel
theorem dX7_keep_62 : decode cX7_keep 62 = .ok (.sipush 784, 3) := by decide +kernel
theorem dX7_keep_65 : decode cX7_keep 65 = .ok (.iaload, 1) := by decide +kernel
theorem dX7_keep_66 : decode cX7_keep 66 = .ok (.ireturn, 1) := by decide +kernel
def f_X7_keep_L2 (fuel : Nat) (K : St → Option (Int32 × St)) (a2_1 : Int32) (S2 : St) : Option (Int32 × St) := match fuel with
  | 0 => none
  | n + 1 => if a2_1 < (788 : Int32) then (if inb a2_1 788 = true then (if inb a2_1 788 = true then (f_X7_keep_L2 n K (a2_1 + (1 : Int32)) (wr S2 110 (ix a2_1) (rd S2 109 (ix a2_1)))) else none) else none) else (K S2)
def f_X7_keep_L29 (fuel : Nat) (K : St → Option (Int32 × St)) (a29_1 : Int32) (S29 : St) : Option (Int32 × St) := match fuel with
  | 0 => none
  | n + 1 => if a29_1 < (10 : Int32) then (if inb a29_1 10 = true then (if inb a29_1 10 = true then (f_X7_keep_L29 n K (a29_1 + (1 : Int32)) (wrL S29 112 (ix a29_1) (rdL S29 111 (ix a29_1)))) else none) else none) else (K S29)
def f_X7_keep  (S : St) : Option (Int32 × St) := f_X7_keep_L2 6000 (fun T27 => (f_X7_keep_L29 6000 (fun T53 => (some ((rd (wr T53 108 4 (1 : Int32)) 109 (ix (784 : Int32))), (wr T53 108 4 (1 : Int32))))) (0 : Int32) T27)) (0 : Int32) S
set_option maxRecDepth 100000 in
theorem jl_X7_keep_2 (l : Launch) (w : Wd) (K : St → Option (Int32 × St)) (n : Nat) : ∀ (a2_1 : Int32) (S2 : St), (∀  (S' : St) , J l w I_X7_keep 27 [(0, .ref (w.2.1 + 108))] [] S' (fun b => (some (.int b.1), b.2)) (K  S')) → J l w I_X7_keep 2 [(0, .ref (w.2.1 + 108)), (1, .int a2_1)] [] S2 (fun b => (some (.int b.1), b.2)) (f_X7_keep_L2 n K a2_1 S2) := by
  induction n with
  | zero =>
    intro a2_1 S2 hK b h
    simp only [f_X7_keep_L2] at h
    cases h
  | succ n ih =>
    intro a2_1 S2 hK
    rw [f_X7_keep_L2]
    refine j_iload_n (y := I_X7_keep) 1 dX7_keep_2 rfl rfl ?_
    refine j_sipush (y := I_X7_keep) (v := 788) dX7_keep_3 (by decide) ?_
    refine j_icmp_ge (y := I_X7_keep) 27 dX7_keep_6 (by decide) (fun h6 => ?_) (fun h6 => ?_)
    · refine j_sub [0] rfl ?_
      exact hK S2
    · refine j_aload_n (y := I_X7_keep) 0 dX7_keep_9 rfl rfl ?_
      refine j_getR (y := I_X7_keep) (j := 110) fl_7_13 k_108 rfl rfl dX7_keep_10 ?_
      refine j_iload_n (y := I_X7_keep) 1 dX7_keep_13 rfl rfl ?_
      refine j_aload_n (y := I_X7_keep) 0 dX7_keep_14 rfl rfl ?_
      refine j_getR (y := I_X7_keep) (j := 109) fl_7_7 k_108 rfl rfl dX7_keep_15 ?_
      refine j_iload_n (y := I_X7_keep) 1 dX7_keep_18 rfl rfl ?_
      refine j_iald (y := I_X7_keep) k_109 dX7_keep_19 (fun h19 => ?_)
      refine j_iast (y := I_X7_keep) k_110 dX7_keep_20 (fun h20 => ?_)
      refine j_iinc (y := I_X7_keep) 1 (ls' := [(1, .int (a2_1 + (1 : Int32))), (0, .ref (w.2.1 + 108))]) dX7_keep_21 rfl (ii _ _ (by decide) _) (by decide) rfl ?_
      refine j_goto (y := I_X7_keep) 2 dX7_keep_24 (by decide) ?_
      refine j_sub [1, 0] rfl ?_
      exact ih (a2_1 + (1 : Int32)) (wr S2 110 (ix a2_1) (rd S2 109 (ix a2_1))) hK
set_option maxRecDepth 100000 in
theorem jl_X7_keep_29 (l : Launch) (w : Wd) (K : St → Option (Int32 × St)) (n : Nat) : ∀ (a29_1 : Int32) (S29 : St), (∀  (S' : St) , J l w I_X7_keep 53 [(0, .ref (w.2.1 + 108))] [] S' (fun b => (some (.int b.1), b.2)) (K  S')) → J l w I_X7_keep 29 [(0, .ref (w.2.1 + 108)), (1, .int a29_1)] [] S29 (fun b => (some (.int b.1), b.2)) (f_X7_keep_L29 n K a29_1 S29) := by
  induction n with
  | zero =>
    intro a29_1 S29 hK b h
    simp only [f_X7_keep_L29] at h
    cases h
  | succ n ih =>
    intro a29_1 S29 hK
    rw [f_X7_keep_L29]
    refine j_iload_n (y := I_X7_keep) 1 dX7_keep_29 rfl rfl ?_
    refine j_bipush (y := I_X7_keep) (v := 10) dX7_keep_30 (by decide) ?_
    refine j_icmp_ge (y := I_X7_keep) 53 dX7_keep_32 (by decide) (fun h32 => ?_) (fun h32 => ?_)
    · refine j_sub [0] rfl ?_
      exact hK S29
    · refine j_aload_n (y := I_X7_keep) 0 dX7_keep_35 rfl rfl ?_
      refine j_getR (y := I_X7_keep) (j := 112) fl_7_20 k_108 rfl rfl dX7_keep_36 ?_
      refine j_iload_n (y := I_X7_keep) 1 dX7_keep_39 rfl rfl ?_
      refine j_aload_n (y := I_X7_keep) 0 dX7_keep_40 rfl rfl ?_
      refine j_getR (y := I_X7_keep) (j := 111) fl_7_16 k_108 rfl rfl dX7_keep_41 ?_
      refine j_iload_n (y := I_X7_keep) 1 dX7_keep_44 rfl rfl ?_
      refine j_lald (y := I_X7_keep) k_111 dX7_keep_45 (fun h45 => ?_)
      refine j_last (y := I_X7_keep) k_112 dX7_keep_46 (fun h46 => ?_)
      refine j_iinc (y := I_X7_keep) 1 (ls' := [(1, .int (a29_1 + (1 : Int32))), (0, .ref (w.2.1 + 108))]) dX7_keep_47 rfl (ii _ _ (by decide) _) (by decide) rfl ?_
      refine j_goto (y := I_X7_keep) 29 dX7_keep_50 (by decide) ?_
      refine j_sub [1, 0] rfl ?_
      exact ih (a29_1 + (1 : Int32)) (wrL S29 112 (ix a29_1) (rdL S29 111 (ix a29_1))) hK
set_option maxRecDepth 100000 in
set_option maxHeartbeats 4000000 in
theorem m_X7_keep (l : Launch) (w : Wd)  (S : St)  : J l w I_X7_keep 0 [(0, .ref (w.2.1 + 108))] [] S (fun b => (some (.int b.1), b.2)) (f_X7_keep S) := by
  unfold f_X7_keep
  refine j_iconst (y := I_X7_keep) (v := 0) dX7_keep_0 (by decide) ?_
  refine j_istore_n (y := I_X7_keep) (ls' := [(1, .int (0 : Int32)), (0, .ref (w.2.1 + 108))]) dX7_keep_1 rfl (by decide) rfl ?_
  refine j_sub [1, 0] rfl ?_
  refine jl_X7_keep_2 l w _ 6000 (0 : Int32) S  (fun T27 => ?_)
  refine j_iconst (y := I_X7_keep) (v := 0) dX7_keep_27 (by decide) ?_
  refine j_istore_n (y := I_X7_keep) (ls' := [(1, .int (0 : Int32)), (0, .ref (w.2.1 + 108))]) dX7_keep_28 rfl (by decide) rfl ?_
  refine j_sub [1, 0] rfl ?_
  refine jl_X7_keep_29 l w _ 6000 (0 : Int32) T27  (fun T53 => ?_)
  refine j_aload_n (y := I_X7_keep) 0 dX7_keep_53 rfl rfl ?_
  refine j_iconst (y := I_X7_keep) (v := 1) dX7_keep_54 (by decide) ?_
  refine j_putI (y := I_X7_keep) fp_7_203 k_108 rfl rfl rfl dX7_keep_55 ?_
  refine j_aload_n (y := I_X7_keep) 0 dX7_keep_58 rfl rfl ?_
  refine j_getR (y := I_X7_keep) (j := 109) fl_7_7 k_108 rfl rfl dX7_keep_59 ?_
  refine j_sipush (y := I_X7_keep) (v := 784) dX7_keep_62 (by decide) ?_
  refine j_ialdL (y := I_X7_keep) k_109 (by decide) dX7_keep_65 ?_
  exact j_iret (y := I_X7_keep) rfl dX7_keep_66 rfl
theorem c_X7_keep (l : Launch) (w : Wd)  (S : St)  : ∀ v, f_X7_keep S = some v → CtS l w I_X7_keep [.ref (w.2.1 + 108)] S v.2 (some (.int v.1)) := fun v h => J.ct (av := [.ref (w.2.1 + 108)]) (Nat.le_of_ble_eq_true rfl) pn_7 (m_X7_keep l w  S ) h
abbrev I_X7_lone : MI := (yX7_lone, cX7_lone, 5, some .int, { frames := 8, cells := 0, slots := 0, locals := 186 })
theorem dX7_lone_0 : decode cX7_lone 0 = .ok (.iload_n 1, 1) := by decide +kernel
theorem dX7_lone_1 : decode cX7_lone 1 = .ok (.invokestatic 88, 3) := by decide +kernel
theorem dX7_lone_4 : decode cX7_lone 4 = .ok (.ifCond .ne 9, 3) := by decide +kernel
theorem dX7_lone_7 : decode cX7_lone 7 = .ok (.aload_n 0, 1) := by decide +kernel
theorem dX7_lone_8 : decode cX7_lone 8 = .ok (.iconst (-1), 1) := by decide +kernel
theorem dX7_lone_9 : decode cX7_lone 9 = .ok (.invokevirtual 72, 3) := by decide +kernel
theorem dX7_lone_12 : decode cX7_lone 12 = .ok (.ireturn, 1) := by decide +kernel
theorem dX7_lone_13 : decode cX7_lone 13 = .ok (.aload_n 0, 1) := by decide +kernel
theorem dX7_lone_14 : decode cX7_lone 14 = .ok (.iload_n 1, 1) := by decide +kernel
theorem dX7_lone_15 : decode cX7_lone 15 = .ok (.invokevirtual 107, 3) := by decide +kernel
theorem dX7_lone_18 : decode cX7_lone 18 = .ok (.istore_n 2, 1) := by decide +kernel
theorem dX7_lone_19 : decode cX7_lone 19 = .ok (.iload_n 2, 1) := by decide +kernel
theorem dX7_lone_20 : decode cX7_lone 20 = .ok (.ifCond .ge 9, 3) := by decide +kernel
theorem dX7_lone_23 : decode cX7_lone 23 = .ok (.aload_n 0, 1) := by decide +kernel
theorem dX7_lone_24 : decode cX7_lone 24 = .ok (.iload_n 2, 1) := by decide +kernel
theorem dX7_lone_25 : decode cX7_lone 25 = .ok (.invokevirtual 72, 3) := by decide +kernel
theorem dX7_lone_28 : decode cX7_lone 28 = .ok (.ireturn, 1) := by decide +kernel
theorem dX7_lone_29 : decode cX7_lone 29 = .ok (.iconst 2, 1) := by decide +kernel
theorem dX7_lone_30 : decode cX7_lone 30 = .ok (.iload_n 1, 1) := by decide +kernel
theorem dX7_lone_31 : decode cX7_lone 31 = .ok (.imul, 1) := by decide +kernel
theorem dX7_lone_32 : decode cX7_lone 32 = .ok (.istore_n 3, 1) := by decide +kernel
theorem dX7_lone_33 : decode cX7_lone 33 = .ok (.iload_n 3, 1) := by decide +kernel
theorem dX7_lone_34 : decode cX7_lone 34 = .ok (.iconst 2, 1) := by decide +kernel
theorem dX7_lone_35 : decode cX7_lone 35 = .ok (.iload_n 1, 1) := by decide +kernel
theorem dX7_lone_36 : decode cX7_lone 36 = .ok (.imul, 1) := by decide +kernel
theorem dX7_lone_37 : decode cX7_lone 37 = .ok (.iconst 2, 1) := by decide +kernel
theorem dX7_lone_38 : decode cX7_lone 38 = .ok (.iadd, 1) := by decide +kernel
theorem dX7_lone_39 : decode cX7_lone 39 = .ok (.if_icmp .ge 85, 3) := by decide +kernel
theorem dX7_lone_42 : decode cX7_lone 42 = .ok (.iconst 0, 1) := by decide +kernel
theorem dX7_lone_43 : decode cX7_lone 43 = .ok (.istore 4, 2) := by decide +kernel
theorem dX7_lone_45 : decode cX7_lone 45 = .ok (.iload 4, 2) := by decide +kernel
theorem dX7_lone_47 : decode cX7_lone 47 = .ok (.bipush 24, 2) := by decide +kernel
theorem dX7_lone_49 : decode cX7_lone 49 = .ok (.if_icmp .ge 69, 3) := by decide +kernel
theorem dX7_lone_52 : decode cX7_lone 52 = .ok (.aload_n 0, 1) := by decide +kernel
theorem dX7_lone_53 : decode cX7_lone 53 = .ok (.iload_n 3, 1) := by decide +kernel
theorem dX7_lone_54 : decode cX7_lone 54 = .ok (.invokevirtual 140, 3) := by decide +kernel
theorem dX7_lone_57 : decode cX7_lone 57 = .ok (.ifCond .eq 61, 3) := by decide +kernel
theorem dX7_lone_60 : decode cX7_lone 60 = .ok (.aload_n 0, 1) := by decide +kernel
theorem dX7_lone_61 : decode cX7_lone 61 = .ok (.iload 4, 2) := by decide +kernel
theorem dX7_lone_63 : decode cX7_lone 63 = .ok (.invokevirtual 140, 3) := by decide +kernel
theorem dX7_lone_66 : decode cX7_lone 66 = .ok (.ifCond .eq 46, 3) := by decide +kernel
theorem dX7_lone_69 : decode cX7_lone 69 = .ok (.iload 4, 2) := by decide +kernel
theorem dX7_lone_71 : decode cX7_lone 71 = .ok (.iconst 2, 1) := by decide +kernel
theorem dX7_lone_72 : decode cX7_lone 72 = .ok (.idiv, 1) := by decide +kernel
theorem dX7_lone_73 : decode cX7_lone 73 = .ok (.iload_n 1, 1) := by decide +kernel
theorem dX7_lone_74 : decode cX7_lone 74 = .ok (.if_icmp .eq 18, 3) := by decide +kernel
theorem dX7_lone_77 : decode cX7_lone 77 = .ok (.aload_n 0, 1) := by decide +kernel
theorem dX7_lone_78 : decode cX7_lone 78 = .ok (.iload_n 1, 1) := by decide +kernel
theorem dX7_lone_79 : decode cX7_lone 79 = .ok (.iload 4, 2) := by decide +kernel
theorem dX7_lone_81 : decode cX7_lone 81 = .ok (.iconst 2, 1) := by decide +kernel
theorem dX7_lone_82 : decode cX7_lone 82 = .ok (.idiv, 1) := by decide +kernel
theorem dX7_lone_83 : decode cX7_lone 83 = .ok (.invokevirtual 153, 3) := by decide +kernel
theorem dX7_lone_86 : decode cX7_lone 86 = .ok (.ifCond .ne 6, 3) := by decide +kernel
theorem dX7_lone_89 : decode cX7_lone 89 = .ok (.goto 23, 3) := by decide +kernel
theorem dX7_lone_92 : decode cX7_lone 92 = .ok (.aload_n 0, 1) := by decide +kernel
theorem dX7_lone_93 : decode cX7_lone 93 = .ok (.aload_n 0, 1) := by decide +kernel
theorem dX7_lone_94 : decode cX7_lone 94 = .ok (.iload_n 3, 1) := by decide +kernel
theorem dX7_lone_95 : decode cX7_lone 95 = .ok (.invokevirtual 143, 3) := by decide +kernel
theorem dX7_lone_98 : decode cX7_lone 98 = .ok (.aload_n 0, 1) := by decide +kernel
theorem dX7_lone_99 : decode cX7_lone 99 = .ok (.iload 4, 2) := by decide +kernel
theorem dX7_lone_101 : decode cX7_lone 101 = .ok (.invokevirtual 143, 3) := by decide +kernel
theorem dX7_lone_104 : decode cX7_lone 104 = .ok (.invokevirtual 198, 3) := by decide +kernel
theorem dX7_lone_107 : decode cX7_lone 107 = .ok (.ifCond .eq 5, 3) := by decide +kernel
theorem dX7_lone_110 : decode cX7_lone 110 = .ok (.iconst 0, 1) := by decide +kernel
theorem dX7_lone_111 : decode cX7_lone 111 = .ok (.ireturn, 1) := by decide +kernel
theorem dX7_lone_112 : decode cX7_lone 112 = .ok (.iinc 4 1, 3) := by decide +kernel
theorem dX7_lone_115 : decode cX7_lone 115 = .ok (.goto (-70), 3) := by decide +kernel
theorem dX7_lone_118 : decode cX7_lone 118 = .ok (.iinc 3 1, 3) := by decide +kernel
theorem dX7_lone_121 : decode cX7_lone 121 = .ok (.goto (-88), 3) := by decide +kernel
theorem dX7_lone_124 : decode cX7_lone 124 = .ok (.iconst 1, 1) := by decide +kernel
theorem dX7_lone_125 : decode cX7_lone 125 = .ok (.ireturn, 1) := by decide +kernel
def f_X7_lone_L45 (fuel : Nat) (K : Int32 → Int32 → St → Option (Int32 × St)) (a45_1 : Int32) (a45_3 : Int32) (a45_4 : Int32) (S45 : St) : Option (Int32 × St) := match fuel with
  | 0 => none
  | n + 1 => if a45_4 < (24 : Int32) then ((f_X7_isPart a45_3 S45).bind fun v54 => (if v54 = true then ((f_X7_isPart a45_4 S45).bind fun v63 => (if v63 = true then (if (a45_4 / (2 : Int32)) = a45_1 then ((f_X7_sortOfPart a45_3 S45).bind fun v95 => ((f_X7_sortOfPart a45_4 S45).bind fun v101 => ((f_X7_fits v95 v101 S45).bind fun v104 => (if v104 = true then (some ((0 : Int32), S45)) else (f_X7_lone_L45 n K a45_1 a45_3 (a45_4 + (1 : Int32)) S45))))) else ((f_X7_isNear a45_1 (a45_4 / (2 : Int32)) S45).bind fun v83 => (if v83 = true then ((f_X7_sortOfPart a45_3 S45).bind fun v95 => ((f_X7_sortOfPart a45_4 S45).bind fun v101 => ((f_X7_fits v95 v101 S45).bind fun v104 => (if v104 = true then (some ((0 : Int32), S45)) else (f_X7_lone_L45 n K a45_1 a45_3 (a45_4 + (1 : Int32)) S45))))) else (f_X7_lone_L45 n K a45_1 a45_3 (a45_4 + (1 : Int32)) S45)))) else (f_X7_lone_L45 n K a45_1 a45_3 (a45_4 + (1 : Int32)) S45))) else (K a45_1 a45_3 S45))) else (K a45_1 a45_3 S45)
def f_X7_lone_L33 (fuel : Nat) (K : St → Option (Int32 × St)) (a33_1 : Int32) (a33_3 : Int32) (S33 : St) : Option (Int32 × St) := match fuel with
  | 0 => none
  | n + 1 => if a33_3 < (((2 : Int32) * a33_1) + (2 : Int32)) then (f_X7_lone_L45 6000 (fun e118_1 e118_3 T118 => (f_X7_lone_L33 n K e118_1 (e118_3 + (1 : Int32)) T118)) a33_1 a33_3 (0 : Int32) S33) else (K S33)
def f_X7_lone (x1 : Int32) (S : St) : Option (Int32 × St) := if (f_X7_isPlace x1) = true then ((f_X7_lacks x1 S).bind fun v15 => (if v15 < 0 then (some (((f_X7_found v15 S).1), (f_X7_found v15 S).2)) else (f_X7_lone_L33 6000 (fun T124 => (some ((1 : Int32), T124))) x1 ((2 : Int32) * x1) S))) else (some (((f_X7_found (-1 : Int32) S).1), (f_X7_found (-1 : Int32) S).2))
set_option maxRecDepth 100000 in
theorem jl_X7_lone_45 (l : Launch) (w : Wd) (K : Int32 → Int32 → St → Option (Int32 × St)) (n : Nat) : ∀ (a45_1 : Int32) (a45_3 : Int32) (a45_4 : Int32) (S45 : St), (∀ (e118_1 : Int32) (e118_3 : Int32) (S' : St) , J l w I_X7_lone 118 [(0, .ref (w.2.1 + 108)), (1, .int e118_1), (3, .int e118_3)] [] S' (fun b => (some (.int b.1), b.2)) (K e118_1 e118_3 S')) → J l w I_X7_lone 45 [(0, .ref (w.2.1 + 108)), (1, .int a45_1), (3, .int a45_3), (4, .int a45_4)] [] S45 (fun b => (some (.int b.1), b.2)) (f_X7_lone_L45 n K a45_1 a45_3 a45_4 S45) := by
  induction n with
  | zero =>
    intro a45_1 a45_3 a45_4 S45 hK b h
    simp only [f_X7_lone_L45] at h
    cases h
  | succ n ih =>
    intro a45_1 a45_3 a45_4 S45 hK
    rw [f_X7_lone_L45]
    refine j_iload (y := I_X7_lone) 3 dX7_lone_45 rfl ?_
    refine j_bipush (y := I_X7_lone) (v := 24) dX7_lone_47 (by decide) ?_
    refine j_icmp_ge (y := I_X7_lone) 118 dX7_lone_49 (by decide) (fun h49 => ?_) (fun h49 => ?_)
    · refine j_sub [0, 1, 2] rfl ?_
      exact hK a45_1 a45_3 S45
    · refine j_aload_n (y := I_X7_lone) 0 dX7_lone_52 rfl rfl ?_
      refine j_iload_n (y := I_X7_lone) 2 dX7_lone_53 rfl rfl ?_
      refine j_callVzR (y := I_X7_lone) (As := [.int a45_3]) cv_7_140 ⟨Nat.le_of_ble_eq_true rfl, Nat.le_of_ble_eq_true rfl⟩ k_108 rfl (Nat.le_of_ble_eq_true rfl) dX7_lone_54 (c_X7_isPart l w a45_3 S45) (fun v54 h54 => ?_)
      refine j_if_eqB (y := I_X7_lone) 118 dX7_lone_57 (by decide) (fun h57 => ?_) (fun h57 => ?_)
      · refine j_sub [0, 1, 2] rfl ?_
        exact hK a45_1 a45_3 S45
      · refine j_aload_n (y := I_X7_lone) 0 dX7_lone_60 rfl rfl ?_
        refine j_iload (y := I_X7_lone) 3 dX7_lone_61 rfl ?_
        refine j_callVzR (y := I_X7_lone) (As := [.int a45_4]) cv_7_140 ⟨Nat.le_of_ble_eq_true rfl, Nat.le_of_ble_eq_true rfl⟩ k_108 rfl (Nat.le_of_ble_eq_true rfl) dX7_lone_63 (c_X7_isPart l w a45_4 S45) (fun v63 h63 => ?_)
        refine j_if_eqB (y := I_X7_lone) 112 dX7_lone_66 (by decide) (fun h66 => ?_) (fun h66 => ?_)
        · refine j_iinc (y := I_X7_lone) 3 (ls' := [(4, .int (a45_4 + (1 : Int32))), (0, .ref (w.2.1 + 108)), (1, .int a45_1), (3, .int a45_3)]) dX7_lone_112 rfl (ii _ _ (by decide) _) (by decide) rfl ?_
          refine j_goto (y := I_X7_lone) 45 dX7_lone_115 (by decide) ?_
          refine j_sub [1, 2, 3, 0] rfl ?_
          exact ih a45_1 a45_3 (a45_4 + (1 : Int32)) S45 hK
        · refine j_iload (y := I_X7_lone) 3 dX7_lone_69 rfl ?_
          refine j_iconst (y := I_X7_lone) (v := 2) dX7_lone_71 (by decide) ?_
          refine j_idivL (y := I_X7_lone) dX7_lone_72 (by decide) ?_
          refine j_iload_n (y := I_X7_lone) 1 dX7_lone_73 rfl rfl ?_
          refine j_icmp_eq (y := I_X7_lone) 92 dX7_lone_74 (by decide) (fun h74 => ?_) (fun h74 => ?_)
          · refine j_aload_n (y := I_X7_lone) 0 dX7_lone_92 rfl rfl ?_
            refine j_aload_n (y := I_X7_lone) 0 dX7_lone_93 rfl rfl ?_
            refine j_iload_n (y := I_X7_lone) 2 dX7_lone_94 rfl rfl ?_
            refine j_callViR (y := I_X7_lone) (As := [.int a45_3]) cv_7_143 ⟨Nat.le_of_ble_eq_true rfl, Nat.le_of_ble_eq_true rfl⟩ k_108 rfl (Nat.le_of_ble_eq_true rfl) dX7_lone_95 (c_X7_sortOfPart l w a45_3 S45) (fun v95 h95 => ?_)
            refine j_aload_n (y := I_X7_lone) 0 dX7_lone_98 rfl rfl ?_
            refine j_iload (y := I_X7_lone) 3 dX7_lone_99 rfl ?_
            refine j_callViR (y := I_X7_lone) (As := [.int a45_4]) cv_7_143 ⟨Nat.le_of_ble_eq_true rfl, Nat.le_of_ble_eq_true rfl⟩ k_108 rfl (Nat.le_of_ble_eq_true rfl) dX7_lone_101 (c_X7_sortOfPart l w a45_4 S45) (fun v101 h101 => ?_)
            refine j_callVzR (y := I_X7_lone) (As := [.int v95, .int v101]) cv_7_198 ⟨Nat.le_of_ble_eq_true rfl, Nat.le_of_ble_eq_true rfl⟩ k_108 rfl (Nat.le_of_ble_eq_true rfl) dX7_lone_104 (c_X7_fits l w v95 v101 S45) (fun v104 h104 => ?_)
            refine j_if_eqB (y := I_X7_lone) 112 dX7_lone_107 (by decide) (fun h107 => ?_) (fun h107 => ?_)
            · refine j_iinc (y := I_X7_lone) 3 (ls' := [(4, .int (a45_4 + (1 : Int32))), (0, .ref (w.2.1 + 108)), (1, .int a45_1), (3, .int a45_3)]) dX7_lone_112 rfl (ii _ _ (by decide) _) (by decide) rfl ?_
              refine j_goto (y := I_X7_lone) 45 dX7_lone_115 (by decide) ?_
              refine j_sub [1, 2, 3, 0] rfl ?_
              exact ih a45_1 a45_3 (a45_4 + (1 : Int32)) S45 hK
            · refine j_iconst (y := I_X7_lone) (v := 0) dX7_lone_110 (by decide) ?_
              exact j_iret (y := I_X7_lone) rfl dX7_lone_111 rfl
          · refine j_aload_n (y := I_X7_lone) 0 dX7_lone_77 rfl rfl ?_
            refine j_iload_n (y := I_X7_lone) 1 dX7_lone_78 rfl rfl ?_
            refine j_iload (y := I_X7_lone) 3 dX7_lone_79 rfl ?_
            refine j_iconst (y := I_X7_lone) (v := 2) dX7_lone_81 (by decide) ?_
            refine j_idivL (y := I_X7_lone) dX7_lone_82 (by decide) ?_
            refine j_callVzR (y := I_X7_lone) (As := [.int a45_1, .int (a45_4 / (2 : Int32))]) cv_7_153 ⟨Nat.le_of_ble_eq_true rfl, Nat.le_of_ble_eq_true rfl⟩ k_108 rfl (Nat.le_of_ble_eq_true rfl) dX7_lone_83 (c_X7_isNear l w a45_1 (a45_4 / (2 : Int32)) S45) (fun v83 h83 => ?_)
            refine j_if_neB (y := I_X7_lone) 92 dX7_lone_86 (by decide) (fun h86 => ?_) (fun h86 => ?_)
            · refine j_aload_n (y := I_X7_lone) 0 dX7_lone_92 rfl rfl ?_
              refine j_aload_n (y := I_X7_lone) 0 dX7_lone_93 rfl rfl ?_
              refine j_iload_n (y := I_X7_lone) 2 dX7_lone_94 rfl rfl ?_
              refine j_callViR (y := I_X7_lone) (As := [.int a45_3]) cv_7_143 ⟨Nat.le_of_ble_eq_true rfl, Nat.le_of_ble_eq_true rfl⟩ k_108 rfl (Nat.le_of_ble_eq_true rfl) dX7_lone_95 (c_X7_sortOfPart l w a45_3 S45) (fun v95 h95 => ?_)
              refine j_aload_n (y := I_X7_lone) 0 dX7_lone_98 rfl rfl ?_
              refine j_iload (y := I_X7_lone) 3 dX7_lone_99 rfl ?_
              refine j_callViR (y := I_X7_lone) (As := [.int a45_4]) cv_7_143 ⟨Nat.le_of_ble_eq_true rfl, Nat.le_of_ble_eq_true rfl⟩ k_108 rfl (Nat.le_of_ble_eq_true rfl) dX7_lone_101 (c_X7_sortOfPart l w a45_4 S45) (fun v101 h101 => ?_)
              refine j_callVzR (y := I_X7_lone) (As := [.int v95, .int v101]) cv_7_198 ⟨Nat.le_of_ble_eq_true rfl, Nat.le_of_ble_eq_true rfl⟩ k_108 rfl (Nat.le_of_ble_eq_true rfl) dX7_lone_104 (c_X7_fits l w v95 v101 S45) (fun v104 h104 => ?_)
              refine j_if_eqB (y := I_X7_lone) 112 dX7_lone_107 (by decide) (fun h107 => ?_) (fun h107 => ?_)
              · refine j_iinc (y := I_X7_lone) 3 (ls' := [(4, .int (a45_4 + (1 : Int32))), (0, .ref (w.2.1 + 108)), (1, .int a45_1), (3, .int a45_3)]) dX7_lone_112 rfl (ii _ _ (by decide) _) (by decide) rfl ?_
                refine j_goto (y := I_X7_lone) 45 dX7_lone_115 (by decide) ?_
                refine j_sub [1, 2, 3, 0] rfl ?_
                exact ih a45_1 a45_3 (a45_4 + (1 : Int32)) S45 hK
              · refine j_iconst (y := I_X7_lone) (v := 0) dX7_lone_110 (by decide) ?_
                exact j_iret (y := I_X7_lone) rfl dX7_lone_111 rfl
            · refine j_goto (y := I_X7_lone) 112 dX7_lone_89 (by decide) ?_
              refine j_iinc (y := I_X7_lone) 3 (ls' := [(4, .int (a45_4 + (1 : Int32))), (0, .ref (w.2.1 + 108)), (1, .int a45_1), (3, .int a45_3)]) dX7_lone_112 rfl (ii _ _ (by decide) _) (by decide) rfl ?_
              refine j_goto (y := I_X7_lone) 45 dX7_lone_115 (by decide) ?_
              refine j_sub [1, 2, 3, 0] rfl ?_
              exact ih a45_1 a45_3 (a45_4 + (1 : Int32)) S45 hK
set_option maxRecDepth 100000 in
theorem jl_X7_lone_33 (l : Launch) (w : Wd) (K : St → Option (Int32 × St)) (n : Nat) : ∀ (a33_1 : Int32) (a33_3 : Int32) (S33 : St), (∀  (S' : St) , J l w I_X7_lone 124 [] [] S' (fun b => (some (.int b.1), b.2)) (K  S')) → J l w I_X7_lone 33 [(0, .ref (w.2.1 + 108)), (1, .int a33_1), (3, .int a33_3)] [] S33 (fun b => (some (.int b.1), b.2)) (f_X7_lone_L33 n K a33_1 a33_3 S33) := by
  induction n with
  | zero =>
    intro a33_1 a33_3 S33 hK b h
    simp only [f_X7_lone_L33] at h
    cases h
  | succ n ih =>
    intro a33_1 a33_3 S33 hK
    rw [f_X7_lone_L33]
    refine j_iload_n (y := I_X7_lone) 2 dX7_lone_33 rfl rfl ?_
    refine j_iconst (y := I_X7_lone) (v := 2) dX7_lone_34 (by decide) ?_
    refine j_iload_n (y := I_X7_lone) 1 dX7_lone_35 rfl rfl ?_
    refine j_imul (y := I_X7_lone) dX7_lone_36 ?_
    refine j_iconst (y := I_X7_lone) (v := 2) dX7_lone_37 (by decide) ?_
    refine j_iadd (y := I_X7_lone) dX7_lone_38 ?_
    refine j_icmp_ge (y := I_X7_lone) 124 dX7_lone_39 (by decide) (fun h39 => ?_) (fun h39 => ?_)
    · refine j_sub [] rfl ?_
      exact hK S33
    · refine j_iconst (y := I_X7_lone) (v := 0) dX7_lone_42 (by decide) ?_
      refine j_istore (y := I_X7_lone) (ls' := [(4, .int (0 : Int32)), (0, .ref (w.2.1 + 108)), (1, .int a33_1), (3, .int a33_3)]) dX7_lone_43 (by decide) rfl ?_
      refine j_sub [1, 2, 3, 0] rfl ?_
      refine jl_X7_lone_45 l w _ 6000 a33_1 a33_3 (0 : Int32) S33  (fun e118_1 e118_3 T118 => ?_)
      refine j_iinc (y := I_X7_lone) 2 (ls' := [(3, .int (e118_3 + (1 : Int32))), (0, .ref (w.2.1 + 108)), (1, .int e118_1)]) dX7_lone_118 rfl (ii _ _ (by decide) _) (by decide) rfl ?_
      refine j_goto (y := I_X7_lone) 33 dX7_lone_121 (by decide) ?_
      refine j_sub [1, 2, 0] rfl ?_
      exact ih e118_1 (e118_3 + (1 : Int32)) T118 hK
set_option maxRecDepth 100000 in
set_option maxHeartbeats 4000000 in
theorem m_X7_lone (l : Launch) (w : Wd) (x1 : Int32) (S : St)  : J l w I_X7_lone 0 [(0, .ref (w.2.1 + 108)), (1, .int x1)] [] S (fun b => (some (.int b.1), b.2)) (f_X7_lone x1 S) := by
  unfold f_X7_lone
  refine j_iload_n (y := I_X7_lone) 1 dX7_lone_0 rfl rfl ?_
  refine j_callSzT (y := I_X7_lone) (As := [.int x1]) cv_7_88 ⟨Nat.le_of_ble_eq_true rfl, Nat.le_of_ble_eq_true rfl⟩ rfl (Nat.le_of_ble_eq_true rfl) dX7_lone_1 (c_X7_isPlace l w x1 S) ?_
  refine j_if_neB (y := I_X7_lone) 13 dX7_lone_4 (by decide) (fun h4 => ?_) (fun h4 => ?_)
  · refine j_aload_n (y := I_X7_lone) 0 dX7_lone_13 rfl rfl ?_
    refine j_iload_n (y := I_X7_lone) 1 dX7_lone_14 rfl rfl ?_
    refine j_callViR (y := I_X7_lone) (As := [.int x1]) cv_7_107 ⟨Nat.le_of_ble_eq_true rfl, Nat.le_of_ble_eq_true rfl⟩ k_108 rfl (Nat.le_of_ble_eq_true rfl) dX7_lone_15 (c_X7_lacks l w x1 S) (fun v15 h15 => ?_)
    refine j_istore_n (y := I_X7_lone) (ls' := [(2, .int v15), (0, .ref (w.2.1 + 108)), (1, .int x1)]) dX7_lone_18 rfl (by decide) rfl ?_
    refine j_iload_n (y := I_X7_lone) 0 dX7_lone_19 rfl rfl ?_
    refine j_if_ge (y := I_X7_lone) 29 dX7_lone_20 (by decide) (fun h20 => ?_) (fun h20 => ?_)
    · refine j_iconst (y := I_X7_lone) (v := 2) dX7_lone_29 (by decide) ?_
      refine j_iload_n (y := I_X7_lone) 2 dX7_lone_30 rfl rfl ?_
      refine j_imul (y := I_X7_lone) dX7_lone_31 ?_
      refine j_istore_n (y := I_X7_lone) (ls' := [(3, .int ((2 : Int32) * x1)), (2, .int v15), (0, .ref (w.2.1 + 108)), (1, .int x1)]) dX7_lone_32 rfl (by decide) rfl ?_
      refine j_sub [2, 3, 0] rfl ?_
      refine jl_X7_lone_33 l w _ 6000 x1 ((2 : Int32) * x1) S  (fun T124 => ?_)
      refine j_iconst (y := I_X7_lone) (v := 1) dX7_lone_124 (by decide) ?_
      exact j_iret (y := I_X7_lone) rfl dX7_lone_125 rfl
    · refine j_aload_n (y := I_X7_lone) 1 dX7_lone_23 rfl rfl ?_
      refine j_iload_n (y := I_X7_lone) 0 dX7_lone_24 rfl rfl ?_
      refine j_callViT (y := I_X7_lone) (As := [.int v15]) cv_7_72 ⟨Nat.le_of_ble_eq_true rfl, Nat.le_of_ble_eq_true rfl⟩ k_108 rfl (Nat.le_of_ble_eq_true rfl) dX7_lone_25 (c_X7_found l w v15 S) ?_
      exact j_iret (y := I_X7_lone) rfl dX7_lone_28 rfl
  · refine j_aload_n (y := I_X7_lone) 0 dX7_lone_7 rfl rfl ?_
    refine j_iconst (y := I_X7_lone) (v := -1) dX7_lone_8 (by decide) ?_
    refine j_callViT (y := I_X7_lone) (As := [.int (-1 : Int32)]) cv_7_72 ⟨Nat.le_of_ble_eq_true rfl, Nat.le_of_ble_eq_true rfl⟩ k_108 rfl (Nat.le_of_ble_eq_true rfl) dX7_lone_9 (c_X7_found l w (-1 : Int32) S) ?_
    exact j_iret (y := I_X7_lone) rfl dX7_lone_12 rfl
theorem c_X7_lone (l : Launch) (w : Wd) (x1 : Int32) (S : St)  : ∀ v, f_X7_lone x1 S = some v → CtS l w I_X7_lone [.ref (w.2.1 + 108), .int x1] S v.2 (some (.int v.1)) := fun v h => J.ct (av := [.ref (w.2.1 + 108), .int x1]) (Nat.le_of_ble_eq_true rfl) pn_7 (m_X7_lone l w x1 S ) h
abbrev I_X7_name : MI := (yX7_name, cX7_name, 2, some .int, { frames := 2, cells := 0, slots := 0, locals := 42 })
theorem dX7_name_0 : decode cX7_name 0 = .ok (.iload_n 1, 1) := by decide +kernel
theorem dX7_name_1 : decode cX7_name 1 = .ok (.iconst (-1), 1) := by decide +kernel
theorem dX7_name_2 : decode cX7_name 2 = .ok (.if_icmp .eq 16, 3) := by decide +kernel
theorem dX7_name_5 : decode cX7_name 5 = .ok (.iload_n 1, 1) := by decide +kernel
theorem dX7_name_6 : decode cX7_name 6 = .ok (.invokestatic 110, 3) := by decide +kernel
theorem dX7_name_9 : decode cX7_name 9 = .ok (.ifCond .ne 9, 3) := by decide +kernel
theorem dX7_name_12 : decode cX7_name 12 = .ok (.aload_n 0, 1) := by decide +kernel
theorem dX7_name_13 : decode cX7_name 13 = .ok (.iconst (-1), 1) := by decide +kernel
theorem dX7_name_14 : decode cX7_name 14 = .ok (.invokevirtual 72, 3) := by decide +kernel
theorem dX7_name_17 : decode cX7_name 17 = .ok (.ireturn, 1) := by decide +kernel
theorem dX7_name_18 : decode cX7_name 18 = .ok (.aload_n 0, 1) := by decide +kernel
theorem dX7_name_19 : decode cX7_name 19 = .ok (.getfield 7, 3) := by decide +kernel
theorem dX7_name_22 : decode cX7_name 22 = .ok (.sipush 786, 3) := by decide +kernel
theorem dX7_name_25 : decode cX7_name 25 = .ok (.iload_n 1, 1) := by decide +kernel
theorem dX7_name_26 : decode cX7_name 26 = .ok (.iastore, 1) := by decide +kernel
theorem dX7_name_27 : decode cX7_name 27 = .ok (.iconst 1, 1) := by decide +kernel
theorem dX7_name_28 : decode cX7_name 28 = .ok (.ireturn, 1) := by decide +kernel
def f_X7_name_J18 (j18_1 : Int32) (S18 : St) : Option (Int32 × St) := some ((1 : Int32), (wr S18 109 (ix (786 : Int32)) j18_1))
def f_X7_name (x1 : Int32) (S : St) : Option (Int32 × St) := if x1 = (-1 : Int32) then (f_X7_name_J18 x1 S) else (if (f_X7_isSheet x1) = true then (f_X7_name_J18 x1 S) else (some (((f_X7_found (-1 : Int32) S).1), (f_X7_found (-1 : Int32) S).2)))
set_option maxRecDepth 100000 in
theorem jj_X7_name_18 (l : Launch) (w : Wd) (j18_1 : Int32) (S18 : St)  : J l w I_X7_name 18 [(0, .ref (w.2.1 + 108)), (1, .int j18_1)] [] S18 (fun b => (some (.int b.1), b.2)) (f_X7_name_J18 j18_1 S18) := by
  unfold f_X7_name_J18
  refine j_aload_n (y := I_X7_name) 0 dX7_name_18 rfl rfl ?_
  refine j_getR (y := I_X7_name) (j := 109) fl_7_7 k_108 rfl rfl dX7_name_19 ?_
  refine j_sipush (y := I_X7_name) (v := 786) dX7_name_22 (by decide) ?_
  refine j_iload_n (y := I_X7_name) 1 dX7_name_25 rfl rfl ?_
  refine j_iastL (y := I_X7_name) k_109 (by decide) dX7_name_26 ?_
  refine j_iconst (y := I_X7_name) (v := 1) dX7_name_27 (by decide) ?_
  exact j_iret (y := I_X7_name) rfl dX7_name_28 rfl
set_option maxRecDepth 100000 in
set_option maxHeartbeats 4000000 in
theorem m_X7_name (l : Launch) (w : Wd) (x1 : Int32) (S : St)  : J l w I_X7_name 0 [(0, .ref (w.2.1 + 108)), (1, .int x1)] [] S (fun b => (some (.int b.1), b.2)) (f_X7_name x1 S) := by
  unfold f_X7_name
  refine j_iload_n (y := I_X7_name) 1 dX7_name_0 rfl rfl ?_
  refine j_iconst (y := I_X7_name) (v := -1) dX7_name_1 (by decide) ?_
  refine j_icmp_eq (y := I_X7_name) 18 dX7_name_2 (by decide) (fun h2 => ?_) (fun h2 => ?_)
  · refine j_sub [0, 1] rfl ?_
    exact jj_X7_name_18 l w x1 S
  · refine j_iload_n (y := I_X7_name) 1 dX7_name_5 rfl rfl ?_
    refine j_callSzT (y := I_X7_name) (As := [.int x1]) cv_7_110 ⟨Nat.le_of_ble_eq_true rfl, Nat.le_of_ble_eq_true rfl⟩ rfl (Nat.le_of_ble_eq_true rfl) dX7_name_6 (c_X7_isSheet l w x1 S) ?_
    refine j_if_neB (y := I_X7_name) 18 dX7_name_9 (by decide) (fun h9 => ?_) (fun h9 => ?_)
    · refine j_sub [0, 1] rfl ?_
      exact jj_X7_name_18 l w x1 S
    · refine j_aload_n (y := I_X7_name) 0 dX7_name_12 rfl rfl ?_
      refine j_iconst (y := I_X7_name) (v := -1) dX7_name_13 (by decide) ?_
      refine j_callViT (y := I_X7_name) (As := [.int (-1 : Int32)]) cv_7_72 ⟨Nat.le_of_ble_eq_true rfl, Nat.le_of_ble_eq_true rfl⟩ k_108 rfl (Nat.le_of_ble_eq_true rfl) dX7_name_14 (c_X7_found l w (-1 : Int32) S) ?_
      exact j_iret (y := I_X7_name) rfl dX7_name_17 rfl
theorem c_X7_name (l : Launch) (w : Wd) (x1 : Int32) (S : St)  : ∀ v, f_X7_name x1 S = some v → CtS l w I_X7_name [.ref (w.2.1 + 108), .int x1] S v.2 (some (.int v.1)) := fun v h => J.ct (av := [.ref (w.2.1 + 108), .int x1]) (Nat.le_of_ble_eq_true rfl) pn_7 (m_X7_name l w x1 S ) h
abbrev I_X7_of : MI := (yX7_of, cX7_of, 4, some .int, { frames := 3, cells := 0, slots := 0, locals := 65 })
theorem dX7_of_0 : decode cX7_of 0 = .ok (.iload_n 1, 1) := by decide +kernel
theorem dX7_of_1 : decode cX7_of 1 = .ok (.invokestatic 88, 3) := by decide +kernel
theorem dX7_of_4 : decode cX7_of 4 = .ok (.ifCond .eq 13, 3) := by decide +kernel
theorem dX7_of_7 : decode cX7_of 7 = .ok (.iload_n 2, 1) := by decide +kernel
theorem dX7_of_8 : decode cX7_of 8 = .ok (.iconst 0, 1) := by decide +kernel
theorem dX7_of_9 : decode cX7_of 9 = .ok (.bipush 7, 2) := by decide +kernel
theorem dX7_of_11 : decode cX7_of 11 = .ok (.invokestatic 64, 3) := by decide +kernel
theorem dX7_of_14 : decode cX7_of 14 = .ok (.ifCond .ne 9, 3) := by decide +kernel
theorem dX7_of_17 : decode cX7_of 17 = .ok (.aload_n 0, 1) := by decide +kernel
theorem dX7_of_18 : decode cX7_of 18 = .ok (.iconst (-1), 1) := by decide +kernel
theorem dX7_of_19 : decode cX7_of 19 = .ok (.invokevirtual 72, 3) := by decide +kernel
theorem dX7_of_22 : decode cX7_of 22 = .ok (.ireturn, 1) := by decide +kernel
theorem dX7_of_23 : decode cX7_of 23 = .ok (.aload_n 0, 1) := by decide +kernel
theorem dX7_of_24 : decode cX7_of 24 = .ok (.iload_n 1, 1) := by decide +kernel
theorem dX7_of_25 : decode cX7_of 25 = .ok (.iconst 2, 1) := by decide +kernel
theorem dX7_of_26 : decode cX7_of 26 = .ok (.invokevirtual 68, 3) := by decide +kernel
theorem dX7_of_29 : decode cX7_of 29 = .ok (.istore_n 3, 1) := by decide +kernel
theorem dX7_of_30 : decode cX7_of 30 = .ok (.iload_n 2, 1) := by decide +kernel
theorem dX7_of_31 : decode cX7_of 31 = .ok (.ifCond .ne 5, 3) := by decide +kernel
theorem dX7_of_34 : decode cX7_of 34 = .ok (.iload_n 3, 1) := by decide +kernel
theorem dX7_of_35 : decode cX7_of 35 = .ok (.ireturn, 1) := by decide +kernel
theorem dX7_of_36 : decode cX7_of 36 = .ok (.iload_n 3, 1) := by decide +kernel
theorem dX7_of_37 : decode cX7_of 37 = .ok (.ifCond .ne 10, 3) := by decide +kernel
theorem dX7_of_40 : decode cX7_of 40 = .ok (.aload_n 0, 1) := by decide +kernel
theorem dX7_of_41 : decode cX7_of 41 = .ok (.bipush (-6), 2) := by decide +kernel
theorem dX7_of_43 : decode cX7_of 43 = .ok (.invokevirtual 72, 3) := by decide +kernel
theorem dX7_of_46 : decode cX7_of 46 = .ok (.ireturn, 1) := by decide +kernel
theorem dX7_of_47 : decode cX7_of 47 = .ok (.iload_n 2, 1) := by decide +kernel
theorem dX7_of_48 : decode cX7_of 48 = .ok (.iconst 1, 1) := by decide +kernel
theorem dX7_of_49 : decode cX7_of 49 = .ok (.if_icmp .ne 10, 3) := by decide +kernel
theorem dX7_of_52 : decode cX7_of 52 = .ok (.aload_n 0, 1) := by decide +kernel
theorem dX7_of_53 : decode cX7_of 53 = .ok (.iload_n 1, 1) := by decide +kernel
theorem dX7_of_54 : decode cX7_of 54 = .ok (.iconst 3, 1) := by decide +kernel
theorem dX7_of_55 : decode cX7_of 55 = .ok (.invokevirtual 68, 3) := by decide +kernel
theorem dX7_of_58 : decode cX7_of 58 = .ok (.ireturn, 1) := by decide +kernel
theorem dX7_of_59 : decode cX7_of 59 = .ok (.iload_n 3, 1) := by decide +kernel
theorem dX7_of_60 : decode cX7_of 60 = .ok (.iconst 5, 1) := by decide +kernel
theorem dX7_of_61 : decode cX7_of 61 = .ok (.if_icmp .ne 10, 3) := by decide +kernel
theorem dX7_of_64 : decode cX7_of 64 = .ok (.aload_n 0, 1) := by decide +kernel
theorem dX7_of_65 : decode cX7_of 65 = .ok (.bipush (-4), 2) := by decide +kernel
theorem dX7_of_67 : decode cX7_of 67 = .ok (.invokevirtual 72, 3) := by decide +kernel
theorem dX7_of_70 : decode cX7_of 70 = .ok (.ireturn, 1) := by decide +kernel
theorem dX7_of_71 : decode cX7_of 71 = .ok (.iload_n 2, 1) := by decide +kernel
theorem dX7_of_72 : decode cX7_of 72 = .ok (.bipush 6, 2) := by decide +kernel
theorem dX7_of_74 : decode cX7_of 74 = .ok (.if_icmp .ge 14, 3) := by decide +kernel
theorem dX7_of_77 : decode cX7_of 77 = .ok (.aload_n 0, 1) := by decide +kernel
theorem dX7_of_78 : decode cX7_of 78 = .ok (.iload_n 1, 1) := by decide +kernel
theorem dX7_of_79 : decode cX7_of 79 = .ok (.iconst 4, 1) := by decide +kernel
theorem dX7_of_80 : decode cX7_of 80 = .ok (.iload_n 2, 1) := by decide +kernel
theorem dX7_of_81 : decode cX7_of 81 = .ok (.iadd, 1) := by decide +kernel
theorem dX7_of_82 : decode cX7_of 82 = .ok (.iconst 2, 1) := by decide +kernel
theorem dX7_of_83 : decode cX7_of 83 = .ok (.isub, 1) := by decide +kernel
theorem dX7_of_84 : decode cX7_of 84 = .ok (.invokevirtual 68, 3) := by decide +kernel
theorem dX7_of_87 : decode cX7_of 87 = .ok (.ireturn, 1) := by decide +kernel
theorem dX7_of_88 : decode cX7_of 88 = .ok (.iload_n 2, 1) := by decide +kernel
theorem dX7_of_89 : decode cX7_of 89 = .ok (.bipush 6, 2) := by decide +kernel
theorem dX7_of_91 : decode cX7_of 91 = .ok (.if_icmp .ne 11, 3) := by decide +kernel
theorem dX7_of_94 : decode cX7_of 94 = .ok (.aload_n 0, 1) := by decide +kernel
theorem dX7_of_95 : decode cX7_of 95 = .ok (.iload_n 1, 1) := by decide +kernel
theorem dX7_of_96 : decode cX7_of 96 = .ok (.invokevirtual 101, 3) := by decide +kernel
theorem dX7_of_99 : decode cX7_of 99 = .ok (.goto 8, 3) := by decide +kernel
theorem dX7_of_102 : decode cX7_of 102 = .ok (.aload_n 0, 1) := by decide +kernel
theorem dX7_of_103 : decode cX7_of 103 = .ok (.iload_n 1, 1) := by decide +kernel
theorem dX7_of_104 : decode cX7_of 104 = .ok (.invokevirtual 104, 3) := by decide +kernel
theorem dX7_of_107 : decode cX7_of 107 = .ok (.ireturn, 1) := by decide +kernel
def f_X7_of (x1 : Int32) (x2 : Int32) (S : St) : Option (Int32 × St) := if (f_X7_isPlace x1) = true then (if (f_X7_in x2 (0 : Int32) (7 : Int32)) = true then ((f_X7_get x1 (2 : Int32) S).bind fun v26 => (if x2 = 0 then (some (v26, S)) else (if v26 = 0 then (some (((f_X7_found (-6 : Int32) S).1), (f_X7_found (-6 : Int32) S).2)) else (if x2 = (1 : Int32) then ((f_X7_get x1 (3 : Int32) S).bind fun v55 => (some (v55, S))) else (if v26 = (5 : Int32) then (some (((f_X7_found (-4 : Int32) S).1), (f_X7_found (-4 : Int32) S).2)) else (if x2 < (6 : Int32) then ((f_X7_get x1 (((4 : Int32) + x2) - (2 : Int32)) S).bind fun v84 => (some (v84, S))) else (if x2 = (6 : Int32) then ((f_X7_heightOf x1 S).bind fun v96 => (some (v96, S))) else ((f_X7_budsOf x1 S).bind fun v104 => (some (v104, S)))))))))) else (some (((f_X7_found (-1 : Int32) S).1), (f_X7_found (-1 : Int32) S).2))) else (some (((f_X7_found (-1 : Int32) S).1), (f_X7_found (-1 : Int32) S).2))
set_option maxRecDepth 100000 in
set_option maxHeartbeats 4000000 in
theorem m_X7_of (l : Launch) (w : Wd) (x1 : Int32) (x2 : Int32) (S : St)  : J l w I_X7_of 0 [(0, .ref (w.2.1 + 108)), (1, .int x1), (2, .int x2)] [] S (fun b => (some (.int b.1), b.2)) (f_X7_of x1 x2 S) := by
  unfold f_X7_of
  refine j_iload_n (y := I_X7_of) 1 dX7_of_0 rfl rfl ?_
  refine j_callSzT (y := I_X7_of) (As := [.int x1]) cv_7_88 ⟨Nat.le_of_ble_eq_true rfl, Nat.le_of_ble_eq_true rfl⟩ rfl (Nat.le_of_ble_eq_true rfl) dX7_of_1 (c_X7_isPlace l w x1 S) ?_
  refine j_if_eqB (y := I_X7_of) 17 dX7_of_4 (by decide) (fun h4 => ?_) (fun h4 => ?_)
  · refine j_aload_n (y := I_X7_of) 0 dX7_of_17 rfl rfl ?_
    refine j_iconst (y := I_X7_of) (v := -1) dX7_of_18 (by decide) ?_
    refine j_callViT (y := I_X7_of) (As := [.int (-1 : Int32)]) cv_7_72 ⟨Nat.le_of_ble_eq_true rfl, Nat.le_of_ble_eq_true rfl⟩ k_108 rfl (Nat.le_of_ble_eq_true rfl) dX7_of_19 (c_X7_found l w (-1 : Int32) S) ?_
    exact j_iret (y := I_X7_of) rfl dX7_of_22 rfl
  · refine j_iload_n (y := I_X7_of) 2 dX7_of_7 rfl rfl ?_
    refine j_iconst (y := I_X7_of) (v := 0) dX7_of_8 (by decide) ?_
    refine j_bipush (y := I_X7_of) (v := 7) dX7_of_9 (by decide) ?_
    refine j_callSzT (y := I_X7_of) (As := [.int x2, .int (0 : Int32), .int (7 : Int32)]) cv_7_64 ⟨Nat.le_of_ble_eq_true rfl, Nat.le_of_ble_eq_true rfl⟩ rfl (Nat.le_of_ble_eq_true rfl) dX7_of_11 (c_X7_in l w x2 (0 : Int32) (7 : Int32) S) ?_
    refine j_if_neB (y := I_X7_of) 23 dX7_of_14 (by decide) (fun h14 => ?_) (fun h14 => ?_)
    · refine j_aload_n (y := I_X7_of) 0 dX7_of_23 rfl rfl ?_
      refine j_iload_n (y := I_X7_of) 1 dX7_of_24 rfl rfl ?_
      refine j_iconst (y := I_X7_of) (v := 2) dX7_of_25 (by decide) ?_
      refine j_callViR (y := I_X7_of) (As := [.int x1, .int (2 : Int32)]) cv_7_68 ⟨Nat.le_of_ble_eq_true rfl, Nat.le_of_ble_eq_true rfl⟩ k_108 rfl (Nat.le_of_ble_eq_true rfl) dX7_of_26 (c_X7_get l w x1 (2 : Int32) S) (fun v26 h26 => ?_)
      refine j_istore_n (y := I_X7_of) (ls' := [(3, .int v26), (0, .ref (w.2.1 + 108)), (1, .int x1), (2, .int x2)]) dX7_of_29 rfl (by decide) rfl ?_
      refine j_iload_n (y := I_X7_of) 3 dX7_of_30 rfl rfl ?_
      refine j_if_ne (y := I_X7_of) 36 dX7_of_31 (by decide) (fun h31 => ?_) (fun h31 => ?_)
      · refine j_iload_n (y := I_X7_of) 0 dX7_of_36 rfl rfl ?_
        refine j_if_ne (y := I_X7_of) 47 dX7_of_37 (by decide) (fun h37 => ?_) (fun h37 => ?_)
        · refine j_iload_n (y := I_X7_of) 3 dX7_of_47 rfl rfl ?_
          refine j_iconst (y := I_X7_of) (v := 1) dX7_of_48 (by decide) ?_
          refine j_icmp_ne (y := I_X7_of) 59 dX7_of_49 (by decide) (fun h49 => ?_) (fun h49 => ?_)
          · refine j_iload_n (y := I_X7_of) 0 dX7_of_59 rfl rfl ?_
            refine j_iconst (y := I_X7_of) (v := 5) dX7_of_60 (by decide) ?_
            refine j_icmp_ne (y := I_X7_of) 71 dX7_of_61 (by decide) (fun h61 => ?_) (fun h61 => ?_)
            · refine j_iload_n (y := I_X7_of) 3 dX7_of_71 rfl rfl ?_
              refine j_bipush (y := I_X7_of) (v := 6) dX7_of_72 (by decide) ?_
              refine j_icmp_ge (y := I_X7_of) 88 dX7_of_74 (by decide) (fun h74 => ?_) (fun h74 => ?_)
              · refine j_iload_n (y := I_X7_of) 3 dX7_of_88 rfl rfl ?_
                refine j_bipush (y := I_X7_of) (v := 6) dX7_of_89 (by decide) ?_
                refine j_icmp_ne (y := I_X7_of) 102 dX7_of_91 (by decide) (fun h91 => ?_) (fun h91 => ?_)
                · refine j_aload_n (y := I_X7_of) 1 dX7_of_102 rfl rfl ?_
                  refine j_iload_n (y := I_X7_of) 2 dX7_of_103 rfl rfl ?_
                  refine j_callViR (y := I_X7_of) (As := [.int x1]) cv_7_104 ⟨Nat.le_of_ble_eq_true rfl, Nat.le_of_ble_eq_true rfl⟩ k_108 rfl (Nat.le_of_ble_eq_true rfl) dX7_of_104 (c_X7_budsOf l w x1 S) (fun v104 h104 => ?_)
                  exact j_iret (y := I_X7_of) rfl dX7_of_107 rfl
                · refine j_aload_n (y := I_X7_of) 1 dX7_of_94 rfl rfl ?_
                  refine j_iload_n (y := I_X7_of) 2 dX7_of_95 rfl rfl ?_
                  refine j_callViR (y := I_X7_of) (As := [.int x1]) cv_7_101 ⟨Nat.le_of_ble_eq_true rfl, Nat.le_of_ble_eq_true rfl⟩ k_108 rfl (Nat.le_of_ble_eq_true rfl) dX7_of_96 (c_X7_heightOf l w x1 S) (fun v96 h96 => ?_)
                  refine j_goto (y := I_X7_of) 107 dX7_of_99 (by decide) ?_
                  exact j_iret (y := I_X7_of) rfl dX7_of_107 rfl
              · refine j_aload_n (y := I_X7_of) 1 dX7_of_77 rfl rfl ?_
                refine j_iload_n (y := I_X7_of) 2 dX7_of_78 rfl rfl ?_
                refine j_iconst (y := I_X7_of) (v := 4) dX7_of_79 (by decide) ?_
                refine j_iload_n (y := I_X7_of) 3 dX7_of_80 rfl rfl ?_
                refine j_iadd (y := I_X7_of) dX7_of_81 ?_
                refine j_iconst (y := I_X7_of) (v := 2) dX7_of_82 (by decide) ?_
                refine j_isub (y := I_X7_of) dX7_of_83 ?_
                refine j_callViR (y := I_X7_of) (As := [.int x1, .int (((4 : Int32) + x2) - (2 : Int32))]) cv_7_68 ⟨Nat.le_of_ble_eq_true rfl, Nat.le_of_ble_eq_true rfl⟩ k_108 rfl (Nat.le_of_ble_eq_true rfl) dX7_of_84 (c_X7_get l w x1 (((4 : Int32) + x2) - (2 : Int32)) S) (fun v84 h84 => ?_)
                exact j_iret (y := I_X7_of) rfl dX7_of_87 rfl
            · refine j_aload_n (y := I_X7_of) 1 dX7_of_64 rfl rfl ?_
              refine j_bipush (y := I_X7_of) (v := -4) dX7_of_65 (by decide) ?_
              refine j_callViT (y := I_X7_of) (As := [.int (-4 : Int32)]) cv_7_72 ⟨Nat.le_of_ble_eq_true rfl, Nat.le_of_ble_eq_true rfl⟩ k_108 rfl (Nat.le_of_ble_eq_true rfl) dX7_of_67 (c_X7_found l w (-4 : Int32) S) ?_
              exact j_iret (y := I_X7_of) rfl dX7_of_70 rfl
          · refine j_aload_n (y := I_X7_of) 1 dX7_of_52 rfl rfl ?_
            refine j_iload_n (y := I_X7_of) 2 dX7_of_53 rfl rfl ?_
            refine j_iconst (y := I_X7_of) (v := 3) dX7_of_54 (by decide) ?_
            refine j_callViR (y := I_X7_of) (As := [.int x1, .int (3 : Int32)]) cv_7_68 ⟨Nat.le_of_ble_eq_true rfl, Nat.le_of_ble_eq_true rfl⟩ k_108 rfl (Nat.le_of_ble_eq_true rfl) dX7_of_55 (c_X7_get l w x1 (3 : Int32) S) (fun v55 h55 => ?_)
            exact j_iret (y := I_X7_of) rfl dX7_of_58 rfl
        · refine j_aload_n (y := I_X7_of) 1 dX7_of_40 rfl rfl ?_
          refine j_bipush (y := I_X7_of) (v := -6) dX7_of_41 (by decide) ?_
          refine j_callViT (y := I_X7_of) (As := [.int (-6 : Int32)]) cv_7_72 ⟨Nat.le_of_ble_eq_true rfl, Nat.le_of_ble_eq_true rfl⟩ k_108 rfl (Nat.le_of_ble_eq_true rfl) dX7_of_43 (c_X7_found l w (-6 : Int32) S) ?_
          exact j_iret (y := I_X7_of) rfl dX7_of_46 rfl
      · refine j_iload_n (y := I_X7_of) 0 dX7_of_34 rfl rfl ?_
        exact j_iret (y := I_X7_of) rfl dX7_of_35 rfl
    · refine j_aload_n (y := I_X7_of) 0 dX7_of_17 rfl rfl ?_
      refine j_iconst (y := I_X7_of) (v := -1) dX7_of_18 (by decide) ?_
      refine j_callViT (y := I_X7_of) (As := [.int (-1 : Int32)]) cv_7_72 ⟨Nat.le_of_ble_eq_true rfl, Nat.le_of_ble_eq_true rfl⟩ k_108 rfl (Nat.le_of_ble_eq_true rfl) dX7_of_19 (c_X7_found l w (-1 : Int32) S) ?_
      exact j_iret (y := I_X7_of) rfl dX7_of_22 rfl
theorem c_X7_of (l : Launch) (w : Wd) (x1 : Int32) (x2 : Int32) (S : St)  : ∀ v, f_X7_of x1 x2 S = some v → CtS l w I_X7_of [.ref (w.2.1 + 108), .int x1, .int x2] S v.2 (some (.int v.1)) := fun v h => J.ct (av := [.ref (w.2.1 + 108), .int x1, .int x2]) (Nat.le_of_ble_eq_true rfl) pn_7 (m_X7_of l w x1 x2 S ) h
abbrev I_X7_partners : MI := (yX7_partners, cX7_partners, 5, some .int, { frames := 8, cells := 0, slots := 0, locals := 187 })
theorem dX7_partners_0 : decode cX7_partners 0 = .ok (.iload_n 1, 1) := by decide +kernel
theorem dX7_partners_1 : decode cX7_partners 1 = .ok (.invokestatic 88, 3) := by decide +kernel
theorem dX7_partners_4 : decode cX7_partners 4 = .ok (.ifCond .eq 19, 3) := by decide +kernel
theorem dX7_partners_7 : decode cX7_partners 7 = .ok (.iload_n 2, 1) := by decide +kernel
theorem dX7_partners_8 : decode cX7_partners 8 = .ok (.iconst 0, 1) := by decide +kernel
theorem dX7_partners_9 : decode cX7_partners 9 = .ok (.iconst 1, 1) := by decide +kernel
theorem dX7_partners_10 : decode cX7_partners 10 = .ok (.invokestatic 64, 3) := by decide +kernel
theorem dX7_partners_13 : decode cX7_partners 13 = .ok (.ifCond .eq 10, 3) := by decide +kernel
theorem dX7_partners_16 : decode cX7_partners 16 = .ok (.iload_n 3, 1) := by decide +kernel
theorem dX7_partners_17 : decode cX7_partners 17 = .ok (.invokestatic 127, 3) := by decide +kernel
theorem dX7_partners_20 : decode cX7_partners 20 = .ok (.ifCond .ne 9, 3) := by decide +kernel
theorem dX7_partners_23 : decode cX7_partners 23 = .ok (.aload_n 0, 1) := by decide +kernel
theorem dX7_partners_24 : decode cX7_partners 24 = .ok (.iconst (-1), 1) := by decide +kernel
theorem dX7_partners_25 : decode cX7_partners 25 = .ok (.invokevirtual 72, 3) := by decide +kernel
theorem dX7_partners_28 : decode cX7_partners 28 = .ok (.ireturn, 1) := by decide +kernel
theorem dX7_partners_29 : decode cX7_partners 29 = .ok (.aload_n 0, 1) := by decide +kernel
theorem dX7_partners_30 : decode cX7_partners 30 = .ok (.iload_n 1, 1) := by decide +kernel
theorem dX7_partners_31 : decode cX7_partners 31 = .ok (.iload_n 2, 1) := by decide +kernel
theorem dX7_partners_32 : decode cX7_partners 32 = .ok (.invokevirtual 156, 3) := by decide +kernel
theorem dX7_partners_35 : decode cX7_partners 35 = .ok (.istore 4, 2) := by decide +kernel
theorem dX7_partners_37 : decode cX7_partners 37 = .ok (.iload 4, 2) := by decide +kernel
theorem dX7_partners_39 : decode cX7_partners 39 = .ok (.ifCond .ge 12, 3) := by decide +kernel
theorem dX7_partners_42 : decode cX7_partners 42 = .ok (.aload_n 0, 1) := by decide +kernel
theorem dX7_partners_43 : decode cX7_partners 43 = .ok (.iload 4, 2) := by decide +kernel
theorem dX7_partners_45 : decode cX7_partners 45 = .ok (.invokevirtual 72, 3) := by decide +kernel
theorem dX7_partners_48 : decode cX7_partners 48 = .ok (.goto 13, 3) := by decide +kernel
theorem dX7_partners_51 : decode cX7_partners 51 = .ok (.aload_n 0, 1) := by decide +kernel
theorem dX7_partners_52 : decode cX7_partners 52 = .ok (.iconst 2, 1) := by decide +kernel
theorem dX7_partners_53 : decode cX7_partners 53 = .ok (.iload_n 1, 1) := by decide +kernel
theorem dX7_partners_54 : decode cX7_partners 54 = .ok (.imul, 1) := by decide +kernel
theorem dX7_partners_55 : decode cX7_partners 55 = .ok (.iload_n 2, 1) := by decide +kernel
theorem dX7_partners_56 : decode cX7_partners 56 = .ok (.iadd, 1) := by decide +kernel
theorem dX7_partners_57 : decode cX7_partners 57 = .ok (.iload_n 3, 1) := by decide +kernel
theorem dX7_partners_58 : decode cX7_partners 58 = .ok (.invokevirtual 159, 3) := by decide +kernel
theorem dX7_partners_61 : decode cX7_partners 61 = .ok (.ireturn, 1) := by decide +kernel
def f_X7_partners (x1 : Int32) (x2 : Int32) (x3 : Int32) (S : St) : Option (Int32 × St) := if (f_X7_isPlace x1) = true then (if (f_X7_in x2 (0 : Int32) (1 : Int32)) = true then (if (f_X7_isDay x3) = true then ((f_X7_lacksPart x1 x2 S).bind fun v32 => (if v32 < 0 then (some (((f_X7_found v32 S).1), (f_X7_found v32 S).2)) else ((f_X7_partnersOf (((2 : Int32) * x1) + x2) x3 S).bind fun v58 => (some (v58, S))))) else (some (((f_X7_found (-1 : Int32) S).1), (f_X7_found (-1 : Int32) S).2))) else (some (((f_X7_found (-1 : Int32) S).1), (f_X7_found (-1 : Int32) S).2))) else (some (((f_X7_found (-1 : Int32) S).1), (f_X7_found (-1 : Int32) S).2))
set_option maxRecDepth 100000 in
set_option maxHeartbeats 4000000 in
theorem m_X7_partners (l : Launch) (w : Wd) (x1 : Int32) (x2 : Int32) (x3 : Int32) (S : St)  : J l w I_X7_partners 0 [(0, .ref (w.2.1 + 108)), (1, .int x1), (2, .int x2), (3, .int x3)] [] S (fun b => (some (.int b.1), b.2)) (f_X7_partners x1 x2 x3 S) := by
  unfold f_X7_partners
  refine j_iload_n (y := I_X7_partners) 1 dX7_partners_0 rfl rfl ?_
  refine j_callSzT (y := I_X7_partners) (As := [.int x1]) cv_7_88 ⟨Nat.le_of_ble_eq_true rfl, Nat.le_of_ble_eq_true rfl⟩ rfl (Nat.le_of_ble_eq_true rfl) dX7_partners_1 (c_X7_isPlace l w x1 S) ?_
  refine j_if_eqB (y := I_X7_partners) 23 dX7_partners_4 (by decide) (fun h4 => ?_) (fun h4 => ?_)
  · refine j_aload_n (y := I_X7_partners) 0 dX7_partners_23 rfl rfl ?_
    refine j_iconst (y := I_X7_partners) (v := -1) dX7_partners_24 (by decide) ?_
    refine j_callViT (y := I_X7_partners) (As := [.int (-1 : Int32)]) cv_7_72 ⟨Nat.le_of_ble_eq_true rfl, Nat.le_of_ble_eq_true rfl⟩ k_108 rfl (Nat.le_of_ble_eq_true rfl) dX7_partners_25 (c_X7_found l w (-1 : Int32) S) ?_
    exact j_iret (y := I_X7_partners) rfl dX7_partners_28 rfl
  · refine j_iload_n (y := I_X7_partners) 2 dX7_partners_7 rfl rfl ?_
    refine j_iconst (y := I_X7_partners) (v := 0) dX7_partners_8 (by decide) ?_
    refine j_iconst (y := I_X7_partners) (v := 1) dX7_partners_9 (by decide) ?_
    refine j_callSzT (y := I_X7_partners) (As := [.int x2, .int (0 : Int32), .int (1 : Int32)]) cv_7_64 ⟨Nat.le_of_ble_eq_true rfl, Nat.le_of_ble_eq_true rfl⟩ rfl (Nat.le_of_ble_eq_true rfl) dX7_partners_10 (c_X7_in l w x2 (0 : Int32) (1 : Int32) S) ?_
    refine j_if_eqB (y := I_X7_partners) 23 dX7_partners_13 (by decide) (fun h13 => ?_) (fun h13 => ?_)
    · refine j_aload_n (y := I_X7_partners) 0 dX7_partners_23 rfl rfl ?_
      refine j_iconst (y := I_X7_partners) (v := -1) dX7_partners_24 (by decide) ?_
      refine j_callViT (y := I_X7_partners) (As := [.int (-1 : Int32)]) cv_7_72 ⟨Nat.le_of_ble_eq_true rfl, Nat.le_of_ble_eq_true rfl⟩ k_108 rfl (Nat.le_of_ble_eq_true rfl) dX7_partners_25 (c_X7_found l w (-1 : Int32) S) ?_
      exact j_iret (y := I_X7_partners) rfl dX7_partners_28 rfl
    · refine j_iload_n (y := I_X7_partners) 3 dX7_partners_16 rfl rfl ?_
      refine j_callSzT (y := I_X7_partners) (As := [.int x3]) cv_7_127 ⟨Nat.le_of_ble_eq_true rfl, Nat.le_of_ble_eq_true rfl⟩ rfl (Nat.le_of_ble_eq_true rfl) dX7_partners_17 (c_X7_isDay l w x3 S) ?_
      refine j_if_neB (y := I_X7_partners) 29 dX7_partners_20 (by decide) (fun h20 => ?_) (fun h20 => ?_)
      · refine j_aload_n (y := I_X7_partners) 0 dX7_partners_29 rfl rfl ?_
        refine j_iload_n (y := I_X7_partners) 1 dX7_partners_30 rfl rfl ?_
        refine j_iload_n (y := I_X7_partners) 2 dX7_partners_31 rfl rfl ?_
        refine j_callViR (y := I_X7_partners) (As := [.int x1, .int x2]) cv_7_156 ⟨Nat.le_of_ble_eq_true rfl, Nat.le_of_ble_eq_true rfl⟩ k_108 rfl (Nat.le_of_ble_eq_true rfl) dX7_partners_32 (c_X7_lacksPart l w x1 x2 S) (fun v32 h32 => ?_)
        refine j_istore (y := I_X7_partners) (ls' := [(4, .int v32), (0, .ref (w.2.1 + 108)), (1, .int x1), (2, .int x2), (3, .int x3)]) dX7_partners_35 (by decide) rfl ?_
        refine j_iload (y := I_X7_partners) 0 dX7_partners_37 rfl ?_
        refine j_if_ge (y := I_X7_partners) 51 dX7_partners_39 (by decide) (fun h39 => ?_) (fun h39 => ?_)
        · refine j_aload_n (y := I_X7_partners) 1 dX7_partners_51 rfl rfl ?_
          refine j_iconst (y := I_X7_partners) (v := 2) dX7_partners_52 (by decide) ?_
          refine j_iload_n (y := I_X7_partners) 2 dX7_partners_53 rfl rfl ?_
          refine j_imul (y := I_X7_partners) dX7_partners_54 ?_
          refine j_iload_n (y := I_X7_partners) 3 dX7_partners_55 rfl rfl ?_
          refine j_iadd (y := I_X7_partners) dX7_partners_56 ?_
          refine j_iload_n (y := I_X7_partners) 4 dX7_partners_57 rfl rfl ?_
          refine j_callViR (y := I_X7_partners) (As := [.int (((2 : Int32) * x1) + x2), .int x3]) cv_7_159 ⟨Nat.le_of_ble_eq_true rfl, Nat.le_of_ble_eq_true rfl⟩ k_108 rfl (Nat.le_of_ble_eq_true rfl) dX7_partners_58 (c_X7_partnersOf l w (((2 : Int32) * x1) + x2) x3 S) (fun v58 h58 => ?_)
          exact j_iret (y := I_X7_partners) rfl dX7_partners_61 rfl
        · refine j_aload_n (y := I_X7_partners) 1 dX7_partners_42 rfl rfl ?_
          refine j_iload (y := I_X7_partners) 0 dX7_partners_43 rfl ?_
          refine j_callViT (y := I_X7_partners) (As := [.int v32]) cv_7_72 ⟨Nat.le_of_ble_eq_true rfl, Nat.le_of_ble_eq_true rfl⟩ k_108 rfl (Nat.le_of_ble_eq_true rfl) dX7_partners_45 (c_X7_found l w v32 S) ?_
          refine j_goto (y := I_X7_partners) 61 dX7_partners_48 (by decide) ?_
          exact j_iret (y := I_X7_partners) rfl dX7_partners_61 rfl
      · refine j_aload_n (y := I_X7_partners) 0 dX7_partners_23 rfl rfl ?_
        refine j_iconst (y := I_X7_partners) (v := -1) dX7_partners_24 (by decide) ?_
        refine j_callViT (y := I_X7_partners) (As := [.int (-1 : Int32)]) cv_7_72 ⟨Nat.le_of_ble_eq_true rfl, Nat.le_of_ble_eq_true rfl⟩ k_108 rfl (Nat.le_of_ble_eq_true rfl) dX7_partners_25 (c_X7_found l w (-1 : Int32) S) ?_
        exact j_iret (y := I_X7_partners) rfl dX7_partners_28 rfl
theorem c_X7_partners (l : Launch) (w : Wd) (x1 : Int32) (x2 : Int32) (x3 : Int32) (S : St)  : ∀ v, f_X7_partners x1 x2 x3 S = some v → CtS l w I_X7_partners [.ref (w.2.1 + 108), .int x1, .int x2, .int x3] S v.2 (some (.int v.1)) := fun v h => J.ct (av := [.ref (w.2.1 + 108), .int x1, .int x2, .int x3]) (Nat.le_of_ble_eq_true rfl) pn_7 (m_X7_partners l w x1 x2 x3 S ) h
abbrev I_X7_plant : MI := (yX7_plant, cX7_plant, 6, some .int, { frames := 2, cells := 0, slots := 0, locals := 43 })
theorem dX7_plant_0 : decode cX7_plant 0 = .ok (.iload_n 1, 1) := by decide +kernel
theorem dX7_plant_1 : decode cX7_plant 1 = .ok (.invokestatic 88, 3) := by decide +kernel
theorem dX7_plant_4 : decode cX7_plant 4 = .ok (.ifCond .eq 34, 3) := by decide +kernel
theorem dX7_plant_7 : decode cX7_plant 7 = .ok (.iload_n 2, 1) := by decide +kernel
theorem dX7_plant_8 : decode cX7_plant 8 = .ok (.iconst 1, 1) := by decide +kernel
theorem dX7_plant_9 : decode cX7_plant 9 = .ok (.iconst 4, 1) := by decide +kernel
theorem dX7_plant_10 : decode cX7_plant 10 = .ok (.invokestatic 64, 3) := by decide +kernel
theorem dX7_plant_13 : decode cX7_plant 13 = .ok (.ifCond .eq 25, 3) := by decide +kernel
theorem dX7_plant_16 : decode cX7_plant 16 = .ok (.aload_n 0, 1) := by decide +kernel
theorem dX7_plant_17 : decode cX7_plant 17 = .ok (.iload_n 3, 1) := by decide +kernel
theorem dX7_plant_18 : decode cX7_plant 18 = .ok (.invokevirtual 80, 3) := by decide +kernel
theorem dX7_plant_21 : decode cX7_plant 21 = .ok (.ifCond .eq 17, 3) := by decide +kernel
theorem dX7_plant_24 : decode cX7_plant 24 = .ok (.iload_n 2, 1) := by decide +kernel
theorem dX7_plant_25 : decode cX7_plant 25 = .ok (.iconst 2, 1) := by decide +kernel
theorem dX7_plant_26 : decode cX7_plant 26 = .ok (.if_icmp .ne 18, 3) := by decide +kernel
theorem dX7_plant_29 : decode cX7_plant 29 = .ok (.aload_n 0, 1) := by decide +kernel
theorem dX7_plant_30 : decode cX7_plant 30 = .ok (.iload 4, 2) := by decide +kernel
theorem dX7_plant_32 : decode cX7_plant 32 = .ok (.invokevirtual 80, 3) := by decide +kernel
theorem dX7_plant_35 : decode cX7_plant 35 = .ok (.ifCond .ne 9, 3) := by decide +kernel
theorem dX7_plant_38 : decode cX7_plant 38 = .ok (.aload_n 0, 1) := by decide +kernel
theorem dX7_plant_39 : decode cX7_plant 39 = .ok (.iconst (-1), 1) := by decide +kernel
theorem dX7_plant_40 : decode cX7_plant 40 = .ok (.invokevirtual 72, 3) := by decide +kernel
theorem dX7_plant_43 : decode cX7_plant 43 = .ok (.ireturn, 1) := by decide +kernel
theorem dX7_plant_44 : decode cX7_plant 44 = .ok (.aload_n 0, 1) := by decide +kernel
theorem dX7_plant_45 : decode cX7_plant 45 = .ok (.iload_n 1, 1) := by decide +kernel
theorem dX7_plant_46 : decode cX7_plant 46 = .ok (.iconst 2, 1) := by decide +kernel
theorem dX7_plant_47 : decode cX7_plant 47 = .ok (.invokevirtual 68, 3) := by decide +kernel
theorem dX7_plant_50 : decode cX7_plant 50 = .ok (.ifCond .eq 10, 3) := by decide +kernel
theorem dX7_plant_53 : decode cX7_plant 53 = .ok (.aload_n 0, 1) := by decide +kernel
theorem dX7_plant_54 : decode cX7_plant 54 = .ok (.bipush (-7), 2) := by decide +kernel
theorem dX7_plant_56 : decode cX7_plant 56 = .ok (.invokevirtual 72, 3) := by decide +kernel
theorem dX7_plant_59 : decode cX7_plant 59 = .ok (.ireturn, 1) := by decide +kernel
theorem dX7_plant_60 : decode cX7_plant 60 = .ok (.iconst 2, 1) := by decide +kernel
theorem dX7_plant_61 : decode cX7_plant 61 = .ok (.istore 5, 2) := by decide +kernel
theorem dX7_plant_63 : decode cX7_plant 63 = .ok (.iload 5, 2) := by decide +kernel
theorem dX7_plant_65 : decode cX7_plant 65 = .ok (.bipush 11, 2) := by decide +kernel
theorem dX7_plant_67 : decode cX7_plant 67 = .ok (.if_icmp .ge 17, 3) := by decide +kernel
theorem dX7_plant_70 : decode cX7_plant 70 = .ok (.aload_n 0, 1) := by decide +kernel
theorem dX7_plant_71 : decode cX7_plant 71 = .ok (.iload_n 1, 1) := by decide +kernel
theorem dX7_plant_72 : decode cX7_plant 72 = .ok (.iload 5, 2) := by decide +kernel
theorem dX7_plant_74 : decode cX7_plant 74 = .ok (.iconst 0, 1) := by decide +kernel
theorem dX7_plant_75 : decode cX7_plant 75 = .ok (.invokevirtual 91, 3) := by decide +kernel
theorem dX7_plant_78 : decode cX7_plant 78 = .ok (.iinc 5 1, 3) := by decide +kernel
theorem dX7_plant_81 : decode cX7_plant 81 = .ok (.goto (-18), 3) := by decide +kernel
theorem dX7_plant_84 : decode cX7_plant 84 = .ok (.aload_n 0, 1) := by decide +kernel
theorem dX7_plant_85 : decode cX7_plant 85 = .ok (.iload_n 1, 1) := by decide +kernel
theorem dX7_plant_86 : decode cX7_plant 86 = .ok (.iconst 2, 1) := by decide +kernel
theorem dX7_plant_87 : decode cX7_plant 87 = .ok (.iload_n 2, 1) := by decide +kernel
theorem dX7_plant_88 : decode cX7_plant 88 = .ok (.invokevirtual 91, 3) := by decide +kernel
theorem dX7_plant_91 : decode cX7_plant 91 = .ok (.aload_n 0, 1) := by decide +kernel
theorem dX7_plant_92 : decode cX7_plant 92 = .ok (.iload_n 1, 1) := by decide +kernel
theorem dX7_plant_93 : decode cX7_plant 93 = .ok (.iconst 3, 1) := by decide +kernel
theorem dX7_plant_94 : decode cX7_plant 94 = .ok (.iload_n 3, 1) := by decide +kernel
theorem dX7_plant_95 : decode cX7_plant 95 = .ok (.invokevirtual 91, 3) := by decide +kernel
theorem dX7_plant_98 : decode cX7_plant 98 = .ok (.aload_n 0, 1) := by decide +kernel
theorem dX7_plant_99 : decode cX7_plant 99 = .ok (.iload_n 1, 1) := by decide +kernel
theorem dX7_plant_100 : decode cX7_plant 100 = .ok (.iconst 4, 1) := by decide +kernel
theorem dX7_plant_101 : decode cX7_plant 101 = .ok (.iload_n 2, 1) := by decide +kernel
theorem dX7_plant_102 : decode cX7_plant 102 = .ok (.iconst 2, 1) := by decide +kernel
theorem dX7_plant_103 : decode cX7_plant 103 = .ok (.if_icmp .ne 8, 3) := by decide +kernel
theorem dX7_plant_106 : decode cX7_plant 106 = .ok (.iload 4, 2) := by decide +kernel
theorem dX7_plant_108 : decode cX7_plant 108 = .ok (.goto 5, 3) := by decide +kernel
theorem dX7_plant_111 : decode cX7_plant 111 = .ok (.bipush (-100), 2) := by decide +kernel
theorem dX7_plant_113 : decode cX7_plant 113 = .ok (.invokevirtual 91, 3) := by decide +kernel
theorem dX7_plant_116 : decode cX7_plant 116 = .ok (.aload_n 0, 1) := by decide +kernel
theorem dX7_plant_117 : decode cX7_plant 117 = .ok (.iload_n 1, 1) := by decide +kernel
theorem dX7_plant_118 : decode cX7_plant 118 = .ok (.iconst 5, 1) := by decide +kernel
theorem dX7_plant_119 : decode cX7_plant 119 = .ok (.aload_n 0, 1) := by decide +kernel
theorem dX7_plant_120 : decode cX7_plant 120 = .ok (.getfield 7, 3) := by decide +kernel
theorem dX7_plant_123 : decode cX7_plant 123 = .ok (.sipush 784, 3) := by decide +kernel
theorem dX7_plant_126 : decode cX7_plant 126 = .ok (.iaload, 1) := by decide +kernel
theorem dX7_plant_127 : decode cX7_plant 127 = .ok (.invokevirtual 91, 3) := by decide +kernel
theorem dX7_plant_130 : decode cX7_plant 130 = .ok (.aload_n 0, 1) := by decide +kernel
theorem dX7_plant_131 : decode cX7_plant 131 = .ok (.iload_n 1, 1) := by decide +kernel
theorem dX7_plant_132 : decode cX7_plant 132 = .ok (.bipush 6, 2) := by decide +kernel
theorem dX7_plant_134 : decode cX7_plant 134 = .ok (.iconst 3, 1) := by decide +kernel
theorem dX7_plant_135 : decode cX7_plant 135 = .ok (.invokevirtual 91, 3) := by decide +kernel
theorem dX7_plant_138 : decode cX7_plant 138 = .ok (.aload_n 0, 1) := by decide +kernel
theorem dX7_plant_139 : decode cX7_plant 139 = .ok (.iconst 0, 1) := by decide +kernel
theorem dX7_plant_140 : decode cX7_plant 140 = .ok (.putfield 76, 3) := by decide +kernel
theorem dX7_plant_143 : decode cX7_plant 143 = .ok (.iconst 1, 1) := by decide +kernel
theorem dX7_plant_144 : decode cX7_plant 144 = .ok (.ireturn, 1) := by decide +kernel
def f_X7_plant_L63 (fuel : Nat) (K : Int32 → Int32 → Int32 → Int32 → St → Option (Int32 × St)) (a63_1 : Int32) (a63_2 : Int32) (a63_3 : Int32) (a63_4 : Int32) (a63_5 : Int32) (S63 : St) : Option (Int32 × St) := match fuel with
  | 0 => none
  | n + 1 => if a63_5 < (11 : Int32) then ((f_X7_lay a63_1 a63_5 (0 : Int32) S63).bind fun v75 => (f_X7_plant_L63 n K a63_1 a63_2 a63_3 a63_4 (a63_5 + (1 : Int32)) v75)) else (K a63_1 a63_2 a63_3 a63_4 S63)
def f_X7_plant_J113 (j113_1 : Int32) (j113s_0 : Int32) (j113s_1 : Int32) (j113s_2 : Int32) (S113 : St) : Option (Int32 × St) := (f_X7_lay j113s_2 j113s_1 j113s_0 S113).bind fun v113 => ((f_X7_lay j113_1 (5 : Int32) (rd v113 109 (ix (784 : Int32))) v113).bind fun v127 => ((f_X7_lay j113_1 (6 : Int32) (3 : Int32) v127).bind fun v135 => (some ((1 : Int32), (wr v135 108 9 (0 : Int32))))))
def f_X7_plant_J44 (j44_1 : Int32) (j44_2 : Int32) (j44_3 : Int32) (j44_4 : Int32) (S44 : St) : Option (Int32 × St) := (f_X7_get j44_1 (2 : Int32) S44).bind fun v47 => (if v47 = 0 then (f_X7_plant_L63 6000 (fun e84_1 e84_2 e84_3 e84_4 T84 => ((f_X7_lay e84_1 (2 : Int32) e84_2 T84).bind fun v88 => ((f_X7_lay e84_1 (3 : Int32) e84_3 v88).bind fun v95 => (if e84_2 = (2 : Int32) then (f_X7_plant_J113 e84_1 e84_4 (4 : Int32) e84_1 v95) else (f_X7_plant_J113 e84_1 (-100 : Int32) (4 : Int32) e84_1 v95))))) j44_1 j44_2 j44_3 j44_4 (2 : Int32) S44) else (some (((f_X7_found (-7 : Int32) S44).1), (f_X7_found (-7 : Int32) S44).2)))
def f_X7_plant (x1 : Int32) (x2 : Int32) (x3 : Int32) (x4 : Int32) (S : St) : Option (Int32 × St) := if (f_X7_isPlace x1) = true then (if (f_X7_in x2 (1 : Int32) (4 : Int32)) = true then ((f_X7_isSort x3 S).bind fun v18 => (if v18 = true then (if x2 = (2 : Int32) then ((f_X7_isSort x4 S).bind fun v32 => (if v32 = true then (f_X7_plant_J44 x1 x2 x3 x4 S) else (some (((f_X7_found (-1 : Int32) S).1), (f_X7_found (-1 : Int32) S).2)))) else (f_X7_plant_J44 x1 x2 x3 x4 S)) else (some (((f_X7_found (-1 : Int32) S).1), (f_X7_found (-1 : Int32) S).2)))) else (some (((f_X7_found (-1 : Int32) S).1), (f_X7_found (-1 : Int32) S).2))) else (some (((f_X7_found (-1 : Int32) S).1), (f_X7_found (-1 : Int32) S).2))
set_option maxRecDepth 100000 in
theorem jl_X7_plant_63 (l : Launch) (w : Wd) (K : Int32 → Int32 → Int32 → Int32 → St → Option (Int32 × St)) (n : Nat) : ∀ (a63_1 : Int32) (a63_2 : Int32) (a63_3 : Int32) (a63_4 : Int32) (a63_5 : Int32) (S63 : St), (∀ (e84_1 : Int32) (e84_2 : Int32) (e84_3 : Int32) (e84_4 : Int32) (S' : St) , J l w I_X7_plant 84 [(0, .ref (w.2.1 + 108)), (1, .int e84_1), (2, .int e84_2), (3, .int e84_3), (4, .int e84_4)] [] S' (fun b => (some (.int b.1), b.2)) (K e84_1 e84_2 e84_3 e84_4 S')) → J l w I_X7_plant 63 [(0, .ref (w.2.1 + 108)), (1, .int a63_1), (2, .int a63_2), (3, .int a63_3), (4, .int a63_4), (5, .int a63_5)] [] S63 (fun b => (some (.int b.1), b.2)) (f_X7_plant_L63 n K a63_1 a63_2 a63_3 a63_4 a63_5 S63) := by
  induction n with
  | zero =>
    intro a63_1 a63_2 a63_3 a63_4 a63_5 S63 hK b h
    simp only [f_X7_plant_L63] at h
    cases h
  | succ n ih =>
    intro a63_1 a63_2 a63_3 a63_4 a63_5 S63 hK
    rw [f_X7_plant_L63]
    refine j_iload (y := I_X7_plant) 5 dX7_plant_63 rfl ?_
    refine j_bipush (y := I_X7_plant) (v := 11) dX7_plant_65 (by decide) ?_
    refine j_icmp_ge (y := I_X7_plant) 84 dX7_plant_67 (by decide) (fun h67 => ?_) (fun h67 => ?_)
    · refine j_sub [0, 1, 2, 3, 4] rfl ?_
      exact hK a63_1 a63_2 a63_3 a63_4 S63
    · refine j_aload_n (y := I_X7_plant) 0 dX7_plant_70 rfl rfl ?_
      refine j_iload_n (y := I_X7_plant) 1 dX7_plant_71 rfl rfl ?_
      refine j_iload (y := I_X7_plant) 5 dX7_plant_72 rfl ?_
      refine j_iconst (y := I_X7_plant) (v := 0) dX7_plant_74 (by decide) ?_
      refine j_callVvS (y := I_X7_plant) (As := [.int a63_1, .int a63_5, .int (0 : Int32)]) cv_7_91 ⟨Nat.le_of_ble_eq_true rfl, Nat.le_of_ble_eq_true rfl⟩ k_108 rfl (Nat.le_of_ble_eq_true rfl) dX7_plant_75 (c_X7_lay l w a63_1 a63_5 (0 : Int32) S63) (fun v75 h75 => ?_)
      refine j_iinc (y := I_X7_plant) 5 (ls' := [(5, .int (a63_5 + (1 : Int32))), (0, .ref (w.2.1 + 108)), (1, .int a63_1), (2, .int a63_2), (3, .int a63_3), (4, .int a63_4)]) dX7_plant_78 rfl (ii _ _ (by decide) _) (by decide) rfl ?_
      refine j_goto (y := I_X7_plant) 63 dX7_plant_81 (by decide) ?_
      refine j_sub [1, 2, 3, 4, 5, 0] rfl ?_
      exact ih a63_1 a63_2 a63_3 a63_4 (a63_5 + (1 : Int32)) v75 hK
set_option maxRecDepth 100000 in
theorem jj_X7_plant_113 (l : Launch) (w : Wd) (j113_1 : Int32) (j113s_0 : Int32) (j113s_1 : Int32) (j113s_2 : Int32) (S113 : St)  : J l w I_X7_plant 113 [(0, .ref (w.2.1 + 108)), (1, .int j113_1)] [.int j113s_0, .int j113s_1, .int j113s_2, .ref (w.2.1 + 108)] S113 (fun b => (some (.int b.1), b.2)) (f_X7_plant_J113 j113_1 j113s_0 j113s_1 j113s_2 S113) := by
  unfold f_X7_plant_J113
  refine j_callVvS (y := I_X7_plant) (As := [.int j113s_2, .int j113s_1, .int j113s_0]) cv_7_91 ⟨Nat.le_of_ble_eq_true rfl, Nat.le_of_ble_eq_true rfl⟩ k_108 rfl (Nat.le_of_ble_eq_true rfl) dX7_plant_113 (c_X7_lay l w j113s_2 j113s_1 j113s_0 S113) (fun v113 h113 => ?_)
  refine j_aload_n (y := I_X7_plant) 0 dX7_plant_116 rfl rfl ?_
  refine j_iload_n (y := I_X7_plant) 1 dX7_plant_117 rfl rfl ?_
  refine j_iconst (y := I_X7_plant) (v := 5) dX7_plant_118 (by decide) ?_
  refine j_aload_n (y := I_X7_plant) 0 dX7_plant_119 rfl rfl ?_
  refine j_getR (y := I_X7_plant) (j := 109) fl_7_7 k_108 rfl rfl dX7_plant_120 ?_
  refine j_sipush (y := I_X7_plant) (v := 784) dX7_plant_123 (by decide) ?_
  refine j_ialdL (y := I_X7_plant) k_109 (by decide) dX7_plant_126 ?_
  refine j_callVvS (y := I_X7_plant) (As := [.int j113_1, .int (5 : Int32), .int (rd v113 109 (ix (784 : Int32)))]) cv_7_91 ⟨Nat.le_of_ble_eq_true rfl, Nat.le_of_ble_eq_true rfl⟩ k_108 rfl (Nat.le_of_ble_eq_true rfl) dX7_plant_127 (c_X7_lay l w j113_1 (5 : Int32) (rd v113 109 (ix (784 : Int32))) v113) (fun v127 h127 => ?_)
  refine j_aload_n (y := I_X7_plant) 0 dX7_plant_130 rfl rfl ?_
  refine j_iload_n (y := I_X7_plant) 1 dX7_plant_131 rfl rfl ?_
  refine j_bipush (y := I_X7_plant) (v := 6) dX7_plant_132 (by decide) ?_
  refine j_iconst (y := I_X7_plant) (v := 3) dX7_plant_134 (by decide) ?_
  refine j_callVvS (y := I_X7_plant) (As := [.int j113_1, .int (6 : Int32), .int (3 : Int32)]) cv_7_91 ⟨Nat.le_of_ble_eq_true rfl, Nat.le_of_ble_eq_true rfl⟩ k_108 rfl (Nat.le_of_ble_eq_true rfl) dX7_plant_135 (c_X7_lay l w j113_1 (6 : Int32) (3 : Int32) v127) (fun v135 h135 => ?_)
  refine j_aload_n (y := I_X7_plant) 0 dX7_plant_138 rfl rfl ?_
  refine j_iconst (y := I_X7_plant) (v := 0) dX7_plant_139 (by decide) ?_
  refine j_putI (y := I_X7_plant) fp_7_76 k_108 rfl rfl rfl dX7_plant_140 ?_
  refine j_iconst (y := I_X7_plant) (v := 1) dX7_plant_143 (by decide) ?_
  exact j_iret (y := I_X7_plant) rfl dX7_plant_144 rfl
set_option maxRecDepth 100000 in
theorem jj_X7_plant_44 (l : Launch) (w : Wd) (j44_1 : Int32) (j44_2 : Int32) (j44_3 : Int32) (j44_4 : Int32) (S44 : St)  : J l w I_X7_plant 44 [(0, .ref (w.2.1 + 108)), (1, .int j44_1), (2, .int j44_2), (3, .int j44_3), (4, .int j44_4)] [] S44 (fun b => (some (.int b.1), b.2)) (f_X7_plant_J44 j44_1 j44_2 j44_3 j44_4 S44) := by
  unfold f_X7_plant_J44
  refine j_aload_n (y := I_X7_plant) 0 dX7_plant_44 rfl rfl ?_
  refine j_iload_n (y := I_X7_plant) 1 dX7_plant_45 rfl rfl ?_
  refine j_iconst (y := I_X7_plant) (v := 2) dX7_plant_46 (by decide) ?_
  refine j_callViR (y := I_X7_plant) (As := [.int j44_1, .int (2 : Int32)]) cv_7_68 ⟨Nat.le_of_ble_eq_true rfl, Nat.le_of_ble_eq_true rfl⟩ k_108 rfl (Nat.le_of_ble_eq_true rfl) dX7_plant_47 (c_X7_get l w j44_1 (2 : Int32) S44) (fun v47 h47 => ?_)
  refine j_if_eq (y := I_X7_plant) 60 dX7_plant_50 (by decide) (fun h50 => ?_) (fun h50 => ?_)
  · refine j_iconst (y := I_X7_plant) (v := 2) dX7_plant_60 (by decide) ?_
    refine j_istore (y := I_X7_plant) (ls' := [(5, .int (2 : Int32)), (0, .ref (w.2.1 + 108)), (1, .int j44_1), (2, .int j44_2), (3, .int j44_3), (4, .int j44_4)]) dX7_plant_61 (by decide) rfl ?_
    refine j_sub [1, 2, 3, 4, 5, 0] rfl ?_
    refine jl_X7_plant_63 l w _ 6000 j44_1 j44_2 j44_3 j44_4 (2 : Int32) S44  (fun e84_1 e84_2 e84_3 e84_4 T84 => ?_)
    refine j_aload_n (y := I_X7_plant) 0 dX7_plant_84 rfl rfl ?_
    refine j_iload_n (y := I_X7_plant) 1 dX7_plant_85 rfl rfl ?_
    refine j_iconst (y := I_X7_plant) (v := 2) dX7_plant_86 (by decide) ?_
    refine j_iload_n (y := I_X7_plant) 2 dX7_plant_87 rfl rfl ?_
    refine j_callVvS (y := I_X7_plant) (As := [.int e84_1, .int (2 : Int32), .int e84_2]) cv_7_91 ⟨Nat.le_of_ble_eq_true rfl, Nat.le_of_ble_eq_true rfl⟩ k_108 rfl (Nat.le_of_ble_eq_true rfl) dX7_plant_88 (c_X7_lay l w e84_1 (2 : Int32) e84_2 T84) (fun v88 h88 => ?_)
    refine j_aload_n (y := I_X7_plant) 0 dX7_plant_91 rfl rfl ?_
    refine j_iload_n (y := I_X7_plant) 1 dX7_plant_92 rfl rfl ?_
    refine j_iconst (y := I_X7_plant) (v := 3) dX7_plant_93 (by decide) ?_
    refine j_iload_n (y := I_X7_plant) 3 dX7_plant_94 rfl rfl ?_
    refine j_callVvS (y := I_X7_plant) (As := [.int e84_1, .int (3 : Int32), .int e84_3]) cv_7_91 ⟨Nat.le_of_ble_eq_true rfl, Nat.le_of_ble_eq_true rfl⟩ k_108 rfl (Nat.le_of_ble_eq_true rfl) dX7_plant_95 (c_X7_lay l w e84_1 (3 : Int32) e84_3 v88) (fun v95 h95 => ?_)
    refine j_aload_n (y := I_X7_plant) 0 dX7_plant_98 rfl rfl ?_
    refine j_iload_n (y := I_X7_plant) 1 dX7_plant_99 rfl rfl ?_
    refine j_iconst (y := I_X7_plant) (v := 4) dX7_plant_100 (by decide) ?_
    refine j_iload_n (y := I_X7_plant) 2 dX7_plant_101 rfl rfl ?_
    refine j_iconst (y := I_X7_plant) (v := 2) dX7_plant_102 (by decide) ?_
    refine j_icmp_ne (y := I_X7_plant) 111 dX7_plant_103 (by decide) (fun h103 => ?_) (fun h103 => ?_)
    · refine j_bipush (y := I_X7_plant) (v := -100) dX7_plant_111 (by decide) ?_
      refine j_sub [0, 1] rfl ?_
      exact jj_X7_plant_113 l w e84_1 (-100 : Int32) (4 : Int32) e84_1 v95
    · refine j_iload (y := I_X7_plant) 4 dX7_plant_106 rfl ?_
      refine j_goto (y := I_X7_plant) 113 dX7_plant_108 (by decide) ?_
      refine j_sub [0, 1] rfl ?_
      exact jj_X7_plant_113 l w e84_1 e84_4 (4 : Int32) e84_1 v95
  · refine j_aload_n (y := I_X7_plant) 0 dX7_plant_53 rfl rfl ?_
    refine j_bipush (y := I_X7_plant) (v := -7) dX7_plant_54 (by decide) ?_
    refine j_callViT (y := I_X7_plant) (As := [.int (-7 : Int32)]) cv_7_72 ⟨Nat.le_of_ble_eq_true rfl, Nat.le_of_ble_eq_true rfl⟩ k_108 rfl (Nat.le_of_ble_eq_true rfl) dX7_plant_56 (c_X7_found l w (-7 : Int32) S44) ?_
    exact j_iret (y := I_X7_plant) rfl dX7_plant_59 rfl
set_option maxRecDepth 100000 in
set_option maxHeartbeats 4000000 in
theorem m_X7_plant (l : Launch) (w : Wd) (x1 : Int32) (x2 : Int32) (x3 : Int32) (x4 : Int32) (S : St)  : J l w I_X7_plant 0 [(0, .ref (w.2.1 + 108)), (1, .int x1), (2, .int x2), (3, .int x3), (4, .int x4)] [] S (fun b => (some (.int b.1), b.2)) (f_X7_plant x1 x2 x3 x4 S) := by
  unfold f_X7_plant
  refine j_iload_n (y := I_X7_plant) 1 dX7_plant_0 rfl rfl ?_
  refine j_callSzT (y := I_X7_plant) (As := [.int x1]) cv_7_88 ⟨Nat.le_of_ble_eq_true rfl, Nat.le_of_ble_eq_true rfl⟩ rfl (Nat.le_of_ble_eq_true rfl) dX7_plant_1 (c_X7_isPlace l w x1 S) ?_
  refine j_if_eqB (y := I_X7_plant) 38 dX7_plant_4 (by decide) (fun h4 => ?_) (fun h4 => ?_)
  · refine j_aload_n (y := I_X7_plant) 0 dX7_plant_38 rfl rfl ?_
    refine j_iconst (y := I_X7_plant) (v := -1) dX7_plant_39 (by decide) ?_
    refine j_callViT (y := I_X7_plant) (As := [.int (-1 : Int32)]) cv_7_72 ⟨Nat.le_of_ble_eq_true rfl, Nat.le_of_ble_eq_true rfl⟩ k_108 rfl (Nat.le_of_ble_eq_true rfl) dX7_plant_40 (c_X7_found l w (-1 : Int32) S) ?_
    exact j_iret (y := I_X7_plant) rfl dX7_plant_43 rfl
  · refine j_iload_n (y := I_X7_plant) 2 dX7_plant_7 rfl rfl ?_
    refine j_iconst (y := I_X7_plant) (v := 1) dX7_plant_8 (by decide) ?_
    refine j_iconst (y := I_X7_plant) (v := 4) dX7_plant_9 (by decide) ?_
    refine j_callSzT (y := I_X7_plant) (As := [.int x2, .int (1 : Int32), .int (4 : Int32)]) cv_7_64 ⟨Nat.le_of_ble_eq_true rfl, Nat.le_of_ble_eq_true rfl⟩ rfl (Nat.le_of_ble_eq_true rfl) dX7_plant_10 (c_X7_in l w x2 (1 : Int32) (4 : Int32) S) ?_
    refine j_if_eqB (y := I_X7_plant) 38 dX7_plant_13 (by decide) (fun h13 => ?_) (fun h13 => ?_)
    · refine j_aload_n (y := I_X7_plant) 0 dX7_plant_38 rfl rfl ?_
      refine j_iconst (y := I_X7_plant) (v := -1) dX7_plant_39 (by decide) ?_
      refine j_callViT (y := I_X7_plant) (As := [.int (-1 : Int32)]) cv_7_72 ⟨Nat.le_of_ble_eq_true rfl, Nat.le_of_ble_eq_true rfl⟩ k_108 rfl (Nat.le_of_ble_eq_true rfl) dX7_plant_40 (c_X7_found l w (-1 : Int32) S) ?_
      exact j_iret (y := I_X7_plant) rfl dX7_plant_43 rfl
    · refine j_aload_n (y := I_X7_plant) 0 dX7_plant_16 rfl rfl ?_
      refine j_iload_n (y := I_X7_plant) 3 dX7_plant_17 rfl rfl ?_
      refine j_callVzR (y := I_X7_plant) (As := [.int x3]) cv_7_80 ⟨Nat.le_of_ble_eq_true rfl, Nat.le_of_ble_eq_true rfl⟩ k_108 rfl (Nat.le_of_ble_eq_true rfl) dX7_plant_18 (c_X7_isSort l w x3 S) (fun v18 h18 => ?_)
      refine j_if_eqB (y := I_X7_plant) 38 dX7_plant_21 (by decide) (fun h21 => ?_) (fun h21 => ?_)
      · refine j_aload_n (y := I_X7_plant) 0 dX7_plant_38 rfl rfl ?_
        refine j_iconst (y := I_X7_plant) (v := -1) dX7_plant_39 (by decide) ?_
        refine j_callViT (y := I_X7_plant) (As := [.int (-1 : Int32)]) cv_7_72 ⟨Nat.le_of_ble_eq_true rfl, Nat.le_of_ble_eq_true rfl⟩ k_108 rfl (Nat.le_of_ble_eq_true rfl) dX7_plant_40 (c_X7_found l w (-1 : Int32) S) ?_
        exact j_iret (y := I_X7_plant) rfl dX7_plant_43 rfl
      · refine j_iload_n (y := I_X7_plant) 2 dX7_plant_24 rfl rfl ?_
        refine j_iconst (y := I_X7_plant) (v := 2) dX7_plant_25 (by decide) ?_
        refine j_icmp_ne (y := I_X7_plant) 44 dX7_plant_26 (by decide) (fun h26 => ?_) (fun h26 => ?_)
        · refine j_sub [0, 1, 2, 3, 4] rfl ?_
          exact jj_X7_plant_44 l w x1 x2 x3 x4 S
        · refine j_aload_n (y := I_X7_plant) 0 dX7_plant_29 rfl rfl ?_
          refine j_iload (y := I_X7_plant) 4 dX7_plant_30 rfl ?_
          refine j_callVzR (y := I_X7_plant) (As := [.int x4]) cv_7_80 ⟨Nat.le_of_ble_eq_true rfl, Nat.le_of_ble_eq_true rfl⟩ k_108 rfl (Nat.le_of_ble_eq_true rfl) dX7_plant_32 (c_X7_isSort l w x4 S) (fun v32 h32 => ?_)
          refine j_if_neB (y := I_X7_plant) 44 dX7_plant_35 (by decide) (fun h35 => ?_) (fun h35 => ?_)
          · refine j_sub [0, 1, 2, 3, 4] rfl ?_
            exact jj_X7_plant_44 l w x1 x2 x3 x4 S
          · refine j_aload_n (y := I_X7_plant) 0 dX7_plant_38 rfl rfl ?_
            refine j_iconst (y := I_X7_plant) (v := -1) dX7_plant_39 (by decide) ?_
            refine j_callViT (y := I_X7_plant) (As := [.int (-1 : Int32)]) cv_7_72 ⟨Nat.le_of_ble_eq_true rfl, Nat.le_of_ble_eq_true rfl⟩ k_108 rfl (Nat.le_of_ble_eq_true rfl) dX7_plant_40 (c_X7_found l w (-1 : Int32) S) ?_
            exact j_iret (y := I_X7_plant) rfl dX7_plant_43 rfl
theorem c_X7_plant (l : Launch) (w : Wd) (x1 : Int32) (x2 : Int32) (x3 : Int32) (x4 : Int32) (S : St)  : ∀ v, f_X7_plant x1 x2 x3 x4 S = some v → CtS l w I_X7_plant [.ref (w.2.1 + 108), .int x1, .int x2, .int x3, .int x4] S v.2 (some (.int v.1)) := fun v h => J.ct (av := [.ref (w.2.1 + 108), .int x1, .int x2, .int x3, .int x4]) (Nat.le_of_ble_eq_true rfl) pn_7 (m_X7_plant l w x1 x2 x3 x4 S ) h
abbrev I_X7_pull : MI := (yX7_pull, cX7_pull, 5, some .int, { frames := 2, cells := 0, slots := 0, locals := 42 })
theorem dX7_pull_0 : decode cX7_pull 0 = .ok (.iload_n 1, 1) := by decide +kernel
theorem dX7_pull_1 : decode cX7_pull 1 = .ok (.invokestatic 88, 3) := by decide +kernel
theorem dX7_pull_4 : decode cX7_pull 4 = .ok (.ifCond .eq 13, 3) := by decide +kernel
theorem dX7_pull_7 : decode cX7_pull 7 = .ok (.iload_n 2, 1) := by decide +kernel
theorem dX7_pull_8 : decode cX7_pull 8 = .ok (.iconst 0, 1) := by decide +kernel
theorem dX7_pull_9 : decode cX7_pull 9 = .ok (.bipush 9, 2) := by decide +kernel
theorem dX7_pull_11 : decode cX7_pull 11 = .ok (.invokestatic 64, 3) := by decide +kernel
theorem dX7_pull_14 : decode cX7_pull 14 = .ok (.ifCond .ne 9, 3) := by decide +kernel
theorem dX7_pull_17 : decode cX7_pull 17 = .ok (.aload_n 0, 1) := by decide +kernel
theorem dX7_pull_18 : decode cX7_pull 18 = .ok (.iconst (-1), 1) := by decide +kernel
theorem dX7_pull_19 : decode cX7_pull 19 = .ok (.invokevirtual 72, 3) := by decide +kernel
theorem dX7_pull_22 : decode cX7_pull 22 = .ok (.ireturn, 1) := by decide +kernel
theorem dX7_pull_23 : decode cX7_pull 23 = .ok (.aload_n 0, 1) := by decide +kernel
theorem dX7_pull_24 : decode cX7_pull 24 = .ok (.iload_n 1, 1) := by decide +kernel
theorem dX7_pull_25 : decode cX7_pull 25 = .ok (.iconst 2, 1) := by decide +kernel
theorem dX7_pull_26 : decode cX7_pull 26 = .ok (.invokevirtual 68, 3) := by decide +kernel
theorem dX7_pull_29 : decode cX7_pull 29 = .ok (.istore_n 3, 1) := by decide +kernel
theorem dX7_pull_30 : decode cX7_pull 30 = .ok (.aload_n 0, 1) := by decide +kernel
theorem dX7_pull_31 : decode cX7_pull 31 = .ok (.getfield 16, 3) := by decide +kernel
theorem dX7_pull_34 : decode cX7_pull 34 = .ok (.iconst 5, 1) := by decide +kernel
theorem dX7_pull_35 : decode cX7_pull 35 = .ok (.dup2, 1) := by decide +kernel
theorem dX7_pull_36 : decode cX7_pull 36 = .ok (.laload, 1) := by decide +kernel
theorem dX7_pull_37 : decode cX7_pull 37 = .ok (.aload_n 0, 1) := by decide +kernel
theorem dX7_pull_38 : decode cX7_pull 38 = .ok (.iload_n 1, 1) := by decide +kernel
theorem dX7_pull_39 : decode cX7_pull 39 = .ok (.bipush 8, 2) := by decide +kernel
theorem dX7_pull_41 : decode cX7_pull 41 = .ok (.invokevirtual 68, 3) := by decide +kernel
theorem dX7_pull_44 : decode cX7_pull 44 = .ok (.aload_n 0, 1) := by decide +kernel
theorem dX7_pull_45 : decode cX7_pull 45 = .ok (.iload_n 1, 1) := by decide +kernel
theorem dX7_pull_46 : decode cX7_pull 46 = .ok (.bipush 9, 2) := by decide +kernel
theorem dX7_pull_48 : decode cX7_pull 48 = .ok (.invokevirtual 68, 3) := by decide +kernel
theorem dX7_pull_51 : decode cX7_pull 51 = .ok (.iadd, 1) := by decide +kernel
theorem dX7_pull_52 : decode cX7_pull 52 = .ok (.i2l, 1) := by decide +kernel
theorem dX7_pull_53 : decode cX7_pull 53 = .ok (.ladd, 1) := by decide +kernel
theorem dX7_pull_54 : decode cX7_pull 54 = .ok (.lastore, 1) := by decide +kernel
theorem dX7_pull_55 : decode cX7_pull 55 = .ok (.iconst 2, 1) := by decide +kernel
theorem dX7_pull_56 : decode cX7_pull 56 = .ok (.istore 4, 2) := by decide +kernel
theorem dX7_pull_58 : decode cX7_pull 58 = .ok (.iload 4, 2) := by decide +kernel
theorem dX7_pull_60 : decode cX7_pull 60 = .ok (.bipush 11, 2) := by decide +kernel
theorem dX7_pull_62 : decode cX7_pull 62 = .ok (.if_icmp .ge 17, 3) := by decide +kernel
theorem dX7_pull_65 : decode cX7_pull 65 = .ok (.aload_n 0, 1) := by decide +kernel
theorem dX7_pull_66 : decode cX7_pull 66 = .ok (.iload_n 1, 1) := by decide +kernel
theorem dX7_pull_67 : decode cX7_pull 67 = .ok (.iload 4, 2) := by decide +kernel
theorem dX7_pull_69 : decode cX7_pull 69 = .ok (.iconst 0, 1) := by decide +kernel
theorem dX7_pull_70 : decode cX7_pull 70 = .ok (.invokevirtual 91, 3) := by decide +kernel
theorem dX7_pull_73 : decode cX7_pull 73 = .ok (.iinc 4 1, 3) := by decide +kernel
theorem dX7_pull_76 : decode cX7_pull 76 = .ok (.goto (-18), 3) := by decide +kernel
theorem dX7_pull_79 : decode cX7_pull 79 = .ok (.iload_n 2, 1) := by decide +kernel
theorem dX7_pull_80 : decode cX7_pull 80 = .ok (.ifCond .le 17, 3) := by decide +kernel
theorem dX7_pull_83 : decode cX7_pull 83 = .ok (.aload_n 0, 1) := by decide +kernel
theorem dX7_pull_84 : decode cX7_pull 84 = .ok (.iload_n 1, 1) := by decide +kernel
theorem dX7_pull_85 : decode cX7_pull 85 = .ok (.iconst 2, 1) := by decide +kernel
theorem dX7_pull_86 : decode cX7_pull 86 = .ok (.iconst 5, 1) := by decide +kernel
theorem dX7_pull_87 : decode cX7_pull 87 = .ok (.invokevirtual 91, 3) := by decide +kernel
theorem dX7_pull_90 : decode cX7_pull 90 = .ok (.aload_n 0, 1) := by decide +kernel
theorem dX7_pull_91 : decode cX7_pull 91 = .ok (.iload_n 1, 1) := by decide +kernel
theorem dX7_pull_92 : decode cX7_pull 92 = .ok (.iconst 3, 1) := by decide +kernel
theorem dX7_pull_93 : decode cX7_pull 93 = .ok (.iload_n 2, 1) := by decide +kernel
theorem dX7_pull_94 : decode cX7_pull 94 = .ok (.invokevirtual 91, 3) := by decide +kernel
theorem dX7_pull_97 : decode cX7_pull 97 = .ok (.aload_n 0, 1) := by decide +kernel
theorem dX7_pull_98 : decode cX7_pull 98 = .ok (.iconst 0, 1) := by decide +kernel
theorem dX7_pull_99 : decode cX7_pull 99 = .ok (.putfield 76, 3) := by decide +kernel
theorem dX7_pull_102 : decode cX7_pull 102 = .ok (.iload_n 3, 1) := by decide +kernel
theorem dX7_pull_103 : decode cX7_pull 103 = .ok (.ireturn, 1) := by decide +kernel
def f_X7_pull_L58 (fuel : Nat) (K : Int32 → Int32 → Int32 → St → Option (Int32 × St)) (a58_1 : Int32) (a58_2 : Int32) (a58_3 : Int32) (a58_4 : Int32) (S58 : St) : Option (Int32 × St) := match fuel with
  | 0 => none
  | n + 1 => if a58_4 < (11 : Int32) then ((f_X7_lay a58_1 a58_4 (0 : Int32) S58).bind fun v70 => (f_X7_pull_L58 n K a58_1 a58_2 a58_3 (a58_4 + (1 : Int32)) v70)) else (K a58_1 a58_2 a58_3 S58)
def f_X7_pull (x1 : Int32) (x2 : Int32) (S : St) : Option (Int32 × St) := if (f_X7_isPlace x1) = true then (if (f_X7_in x2 (0 : Int32) (9 : Int32)) = true then ((f_X7_get x1 (2 : Int32) S).bind fun v26 => ((f_X7_get x1 (8 : Int32) S).bind fun v41 => ((f_X7_get x1 (9 : Int32) S).bind fun v48 => (f_X7_pull_L58 6000 (fun e79_1 e79_2 e79_3 T79 => (if 0 < e79_2 then ((f_X7_lay e79_1 (2 : Int32) (5 : Int32) T79).bind fun v87 => ((f_X7_lay e79_1 (3 : Int32) e79_2 v87).bind fun v94 => (some (e79_3, (wr v94 108 9 (0 : Int32)))))) else (some (e79_3, (wr T79 108 9 (0 : Int32)))))) x1 x2 v26 (2 : Int32) (wrL S 111 (ix (5 : Int32)) ((rdL S 111 (ix (5 : Int32))) + ((v41 + v48).toInt64))))))) else (some (((f_X7_found (-1 : Int32) S).1), (f_X7_found (-1 : Int32) S).2))) else (some (((f_X7_found (-1 : Int32) S).1), (f_X7_found (-1 : Int32) S).2))
set_option maxRecDepth 100000 in
theorem jl_X7_pull_58 (l : Launch) (w : Wd) (K : Int32 → Int32 → Int32 → St → Option (Int32 × St)) (n : Nat) : ∀ (a58_1 : Int32) (a58_2 : Int32) (a58_3 : Int32) (a58_4 : Int32) (S58 : St), (∀ (e79_1 : Int32) (e79_2 : Int32) (e79_3 : Int32) (S' : St) , J l w I_X7_pull 79 [(0, .ref (w.2.1 + 108)), (1, .int e79_1), (2, .int e79_2), (3, .int e79_3)] [] S' (fun b => (some (.int b.1), b.2)) (K e79_1 e79_2 e79_3 S')) → J l w I_X7_pull 58 [(0, .ref (w.2.1 + 108)), (1, .int a58_1), (2, .int a58_2), (3, .int a58_3), (4, .int a58_4)] [] S58 (fun b => (some (.int b.1), b.2)) (f_X7_pull_L58 n K a58_1 a58_2 a58_3 a58_4 S58) := by
  induction n with
  | zero =>
    intro a58_1 a58_2 a58_3 a58_4 S58 hK b h
    simp only [f_X7_pull_L58] at h
    cases h
  | succ n ih =>
    intro a58_1 a58_2 a58_3 a58_4 S58 hK
    rw [f_X7_pull_L58]
    refine j_iload (y := I_X7_pull) 4 dX7_pull_58 rfl ?_
    refine j_bipush (y := I_X7_pull) (v := 11) dX7_pull_60 (by decide) ?_
    refine j_icmp_ge (y := I_X7_pull) 79 dX7_pull_62 (by decide) (fun h62 => ?_) (fun h62 => ?_)
    · refine j_sub [0, 1, 2, 3] rfl ?_
      exact hK a58_1 a58_2 a58_3 S58
    · refine j_aload_n (y := I_X7_pull) 0 dX7_pull_65 rfl rfl ?_
      refine j_iload_n (y := I_X7_pull) 1 dX7_pull_66 rfl rfl ?_
      refine j_iload (y := I_X7_pull) 4 dX7_pull_67 rfl ?_
      refine j_iconst (y := I_X7_pull) (v := 0) dX7_pull_69 (by decide) ?_
      refine j_callVvS (y := I_X7_pull) (As := [.int a58_1, .int a58_4, .int (0 : Int32)]) cv_7_91 ⟨Nat.le_of_ble_eq_true rfl, Nat.le_of_ble_eq_true rfl⟩ k_108 rfl (Nat.le_of_ble_eq_true rfl) dX7_pull_70 (c_X7_lay l w a58_1 a58_4 (0 : Int32) S58) (fun v70 h70 => ?_)
      refine j_iinc (y := I_X7_pull) 4 (ls' := [(4, .int (a58_4 + (1 : Int32))), (0, .ref (w.2.1 + 108)), (1, .int a58_1), (2, .int a58_2), (3, .int a58_3)]) dX7_pull_73 rfl (ii _ _ (by decide) _) (by decide) rfl ?_
      refine j_goto (y := I_X7_pull) 58 dX7_pull_76 (by decide) ?_
      refine j_sub [1, 2, 3, 4, 0] rfl ?_
      exact ih a58_1 a58_2 a58_3 (a58_4 + (1 : Int32)) v70 hK
set_option maxRecDepth 100000 in
set_option maxHeartbeats 4000000 in
theorem m_X7_pull (l : Launch) (w : Wd) (x1 : Int32) (x2 : Int32) (S : St)  : J l w I_X7_pull 0 [(0, .ref (w.2.1 + 108)), (1, .int x1), (2, .int x2)] [] S (fun b => (some (.int b.1), b.2)) (f_X7_pull x1 x2 S) := by
  unfold f_X7_pull
  refine j_iload_n (y := I_X7_pull) 1 dX7_pull_0 rfl rfl ?_
  refine j_callSzT (y := I_X7_pull) (As := [.int x1]) cv_7_88 ⟨Nat.le_of_ble_eq_true rfl, Nat.le_of_ble_eq_true rfl⟩ rfl (Nat.le_of_ble_eq_true rfl) dX7_pull_1 (c_X7_isPlace l w x1 S) ?_
  refine j_if_eqB (y := I_X7_pull) 17 dX7_pull_4 (by decide) (fun h4 => ?_) (fun h4 => ?_)
  · refine j_aload_n (y := I_X7_pull) 0 dX7_pull_17 rfl rfl ?_
    refine j_iconst (y := I_X7_pull) (v := -1) dX7_pull_18 (by decide) ?_
    refine j_callViT (y := I_X7_pull) (As := [.int (-1 : Int32)]) cv_7_72 ⟨Nat.le_of_ble_eq_true rfl, Nat.le_of_ble_eq_true rfl⟩ k_108 rfl (Nat.le_of_ble_eq_true rfl) dX7_pull_19 (c_X7_found l w (-1 : Int32) S) ?_
    exact j_iret (y := I_X7_pull) rfl dX7_pull_22 rfl
  · refine j_iload_n (y := I_X7_pull) 2 dX7_pull_7 rfl rfl ?_
    refine j_iconst (y := I_X7_pull) (v := 0) dX7_pull_8 (by decide) ?_
    refine j_bipush (y := I_X7_pull) (v := 9) dX7_pull_9 (by decide) ?_
    refine j_callSzT (y := I_X7_pull) (As := [.int x2, .int (0 : Int32), .int (9 : Int32)]) cv_7_64 ⟨Nat.le_of_ble_eq_true rfl, Nat.le_of_ble_eq_true rfl⟩ rfl (Nat.le_of_ble_eq_true rfl) dX7_pull_11 (c_X7_in l w x2 (0 : Int32) (9 : Int32) S) ?_
    refine j_if_neB (y := I_X7_pull) 23 dX7_pull_14 (by decide) (fun h14 => ?_) (fun h14 => ?_)
    · refine j_aload_n (y := I_X7_pull) 0 dX7_pull_23 rfl rfl ?_
      refine j_iload_n (y := I_X7_pull) 1 dX7_pull_24 rfl rfl ?_
      refine j_iconst (y := I_X7_pull) (v := 2) dX7_pull_25 (by decide) ?_
      refine j_callViR (y := I_X7_pull) (As := [.int x1, .int (2 : Int32)]) cv_7_68 ⟨Nat.le_of_ble_eq_true rfl, Nat.le_of_ble_eq_true rfl⟩ k_108 rfl (Nat.le_of_ble_eq_true rfl) dX7_pull_26 (c_X7_get l w x1 (2 : Int32) S) (fun v26 h26 => ?_)
      refine j_istore_n (y := I_X7_pull) (ls' := [(3, .int v26), (0, .ref (w.2.1 + 108)), (1, .int x1), (2, .int x2)]) dX7_pull_29 rfl (by decide) rfl ?_
      refine j_aload_n (y := I_X7_pull) 1 dX7_pull_30 rfl rfl ?_
      refine j_getR (y := I_X7_pull) (j := 111) fl_7_16 k_108 rfl rfl dX7_pull_31 ?_
      refine j_iconst (y := I_X7_pull) (v := 5) dX7_pull_34 (by decide) ?_
      refine j_dup2 (y := I_X7_pull) dX7_pull_35 rfl rfl ?_
      refine j_laldL (y := I_X7_pull) k_111 (by decide) dX7_pull_36 ?_
      refine j_aload_n (y := I_X7_pull) 1 dX7_pull_37 rfl rfl ?_
      refine j_iload_n (y := I_X7_pull) 2 dX7_pull_38 rfl rfl ?_
      refine j_bipush (y := I_X7_pull) (v := 8) dX7_pull_39 (by decide) ?_
      refine j_callViR (y := I_X7_pull) (As := [.int x1, .int (8 : Int32)]) cv_7_68 ⟨Nat.le_of_ble_eq_true rfl, Nat.le_of_ble_eq_true rfl⟩ k_108 rfl (Nat.le_of_ble_eq_true rfl) dX7_pull_41 (c_X7_get l w x1 (8 : Int32) S) (fun v41 h41 => ?_)
      refine j_aload_n (y := I_X7_pull) 1 dX7_pull_44 rfl rfl ?_
      refine j_iload_n (y := I_X7_pull) 2 dX7_pull_45 rfl rfl ?_
      refine j_bipush (y := I_X7_pull) (v := 9) dX7_pull_46 (by decide) ?_
      refine j_callViR (y := I_X7_pull) (As := [.int x1, .int (9 : Int32)]) cv_7_68 ⟨Nat.le_of_ble_eq_true rfl, Nat.le_of_ble_eq_true rfl⟩ k_108 rfl (Nat.le_of_ble_eq_true rfl) dX7_pull_48 (c_X7_get l w x1 (9 : Int32) S) (fun v48 h48 => ?_)
      refine j_iadd (y := I_X7_pull) dX7_pull_51 ?_
      refine j_i2l (y := I_X7_pull) dX7_pull_52 ?_
      refine j_ladd (y := I_X7_pull) dX7_pull_53 ?_
      refine j_lastL (y := I_X7_pull) k_111 (by decide) dX7_pull_54 ?_
      refine j_iconst (y := I_X7_pull) (v := 2) dX7_pull_55 (by decide) ?_
      refine j_istore (y := I_X7_pull) (ls' := [(4, .int (2 : Int32)), (3, .int v26), (0, .ref (w.2.1 + 108)), (1, .int x1), (2, .int x2)]) dX7_pull_56 (by decide) rfl ?_
      refine j_sub [2, 3, 4, 1, 0] rfl ?_
      refine jl_X7_pull_58 l w _ 6000 x1 x2 v26 (2 : Int32) (wrL S 111 (ix (5 : Int32)) ((rdL S 111 (ix (5 : Int32))) + ((v41 + v48).toInt64)))  (fun e79_1 e79_2 e79_3 T79 => ?_)
      refine j_iload_n (y := I_X7_pull) 2 dX7_pull_79 rfl rfl ?_
      refine j_if_le (y := I_X7_pull) 97 dX7_pull_80 (by decide) (fun h80 => ?_) (fun h80 => ?_)
      · refine j_aload_n (y := I_X7_pull) 0 dX7_pull_97 rfl rfl ?_
        refine j_iconst (y := I_X7_pull) (v := 0) dX7_pull_98 (by decide) ?_
        refine j_putI (y := I_X7_pull) fp_7_76 k_108 rfl rfl rfl dX7_pull_99 ?_
        refine j_iload_n (y := I_X7_pull) 3 dX7_pull_102 rfl rfl ?_
        exact j_iret (y := I_X7_pull) rfl dX7_pull_103 rfl
      · refine j_aload_n (y := I_X7_pull) 0 dX7_pull_83 rfl rfl ?_
        refine j_iload_n (y := I_X7_pull) 1 dX7_pull_84 rfl rfl ?_
        refine j_iconst (y := I_X7_pull) (v := 2) dX7_pull_85 (by decide) ?_
        refine j_iconst (y := I_X7_pull) (v := 5) dX7_pull_86 (by decide) ?_
        refine j_callVvS (y := I_X7_pull) (As := [.int e79_1, .int (2 : Int32), .int (5 : Int32)]) cv_7_91 ⟨Nat.le_of_ble_eq_true rfl, Nat.le_of_ble_eq_true rfl⟩ k_108 rfl (Nat.le_of_ble_eq_true rfl) dX7_pull_87 (c_X7_lay l w e79_1 (2 : Int32) (5 : Int32) T79) (fun v87 h87 => ?_)
        refine j_aload_n (y := I_X7_pull) 0 dX7_pull_90 rfl rfl ?_
        refine j_iload_n (y := I_X7_pull) 1 dX7_pull_91 rfl rfl ?_
        refine j_iconst (y := I_X7_pull) (v := 3) dX7_pull_92 (by decide) ?_
        refine j_iload_n (y := I_X7_pull) 2 dX7_pull_93 rfl rfl ?_
        refine j_callVvS (y := I_X7_pull) (As := [.int e79_1, .int (3 : Int32), .int e79_2]) cv_7_91 ⟨Nat.le_of_ble_eq_true rfl, Nat.le_of_ble_eq_true rfl⟩ k_108 rfl (Nat.le_of_ble_eq_true rfl) dX7_pull_94 (c_X7_lay l w e79_1 (3 : Int32) e79_2 v87) (fun v94 h94 => ?_)
        refine j_aload_n (y := I_X7_pull) 0 dX7_pull_97 rfl rfl ?_
        refine j_iconst (y := I_X7_pull) (v := 0) dX7_pull_98 (by decide) ?_
        refine j_putI (y := I_X7_pull) fp_7_76 k_108 rfl rfl rfl dX7_pull_99 ?_
        refine j_iload_n (y := I_X7_pull) 3 dX7_pull_102 rfl rfl ?_
        exact j_iret (y := I_X7_pull) rfl dX7_pull_103 rfl
    · refine j_aload_n (y := I_X7_pull) 0 dX7_pull_17 rfl rfl ?_
      refine j_iconst (y := I_X7_pull) (v := -1) dX7_pull_18 (by decide) ?_
      refine j_callViT (y := I_X7_pull) (As := [.int (-1 : Int32)]) cv_7_72 ⟨Nat.le_of_ble_eq_true rfl, Nat.le_of_ble_eq_true rfl⟩ k_108 rfl (Nat.le_of_ble_eq_true rfl) dX7_pull_19 (c_X7_found l w (-1 : Int32) S) ?_
      exact j_iret (y := I_X7_pull) rfl dX7_pull_22 rfl
theorem c_X7_pull (l : Launch) (w : Wd) (x1 : Int32) (x2 : Int32) (S : St)  : ∀ v, f_X7_pull x1 x2 S = some v → CtS l w I_X7_pull [.ref (w.2.1 + 108), .int x1, .int x2] S v.2 (some (.int v.1)) := fun v h => J.ct (av := [.ref (w.2.1 + 108), .int x1, .int x2]) (Nat.le_of_ble_eq_true rfl) pn_7 (m_X7_pull l w x1 x2 S ) h
abbrev I_X7_put : MI := (yX7_put, cX7_put, 4, some .int, { frames := 2, cells := 0, slots := 0, locals := 42 })
theorem dX7_put_0 : decode cX7_put 0 = .ok (.iload_n 1, 1) := by decide +kernel
theorem dX7_put_1 : decode cX7_put 1 = .ok (.invokestatic 110, 3) := by decide +kernel
theorem dX7_put_4 : decode cX7_put 4 = .ok (.ifCond .ne 9, 3) := by decide +kernel
theorem dX7_put_7 : decode cX7_put 7 = .ok (.aload_n 0, 1) := by decide +kernel
theorem dX7_put_8 : decode cX7_put 8 = .ok (.iconst (-1), 1) := by decide +kernel
theorem dX7_put_9 : decode cX7_put 9 = .ok (.invokevirtual 72, 3) := by decide +kernel
theorem dX7_put_12 : decode cX7_put 12 = .ok (.ireturn, 1) := by decide +kernel
theorem dX7_put_13 : decode cX7_put 13 = .ok (.aload_n 0, 1) := by decide +kernel
theorem dX7_put_14 : decode cX7_put 14 = .ok (.getfield 23, 3) := by decide +kernel
theorem dX7_put_17 : decode cX7_put 17 = .ok (.iload_n 1, 1) := by decide +kernel
theorem dX7_put_18 : decode cX7_put 18 = .ok (.iaload, 1) := by decide +kernel
theorem dX7_put_19 : decode cX7_put 19 = .ok (.ifCond .ne 10, 3) := by decide +kernel
theorem dX7_put_22 : decode cX7_put 22 = .ok (.aload_n 0, 1) := by decide +kernel
theorem dX7_put_23 : decode cX7_put 23 = .ok (.bipush (-2), 2) := by decide +kernel
theorem dX7_put_25 : decode cX7_put 25 = .ok (.invokevirtual 72, 3) := by decide +kernel
theorem dX7_put_28 : decode cX7_put 28 = .ok (.ireturn, 1) := by decide +kernel
theorem dX7_put_29 : decode cX7_put 29 = .ok (.iload_n 2, 1) := by decide +kernel
theorem dX7_put_30 : decode cX7_put 30 = .ok (.iconst 0, 1) := by decide +kernel
theorem dX7_put_31 : decode cX7_put 31 = .ok (.aload_n 0, 1) := by decide +kernel
theorem dX7_put_32 : decode cX7_put 32 = .ok (.getfield 26, 3) := by decide +kernel
theorem dX7_put_35 : decode cX7_put 35 = .ok (.iload_n 1, 1) := by decide +kernel
theorem dX7_put_36 : decode cX7_put 36 = .ok (.iaload, 1) := by decide +kernel
theorem dX7_put_37 : decode cX7_put 37 = .ok (.iconst 1, 1) := by decide +kernel
theorem dX7_put_38 : decode cX7_put 38 = .ok (.isub, 1) := by decide +kernel
theorem dX7_put_39 : decode cX7_put 39 = .ok (.invokestatic 64, 3) := by decide +kernel
theorem dX7_put_42 : decode cX7_put 42 = .ok (.ifCond .ne 9, 3) := by decide +kernel
theorem dX7_put_45 : decode cX7_put 45 = .ok (.aload_n 0, 1) := by decide +kernel
theorem dX7_put_46 : decode cX7_put 46 = .ok (.iconst (-1), 1) := by decide +kernel
theorem dX7_put_47 : decode cX7_put 47 = .ok (.invokevirtual 72, 3) := by decide +kernel
theorem dX7_put_50 : decode cX7_put 50 = .ok (.ireturn, 1) := by decide +kernel
theorem dX7_put_51 : decode cX7_put 51 = .ok (.aload_n 0, 1) := by decide +kernel
theorem dX7_put_52 : decode cX7_put 52 = .ok (.getfield 29, 3) := by decide +kernel
theorem dX7_put_55 : decode cX7_put 55 = .ok (.bipush 50, 2) := by decide +kernel
theorem dX7_put_57 : decode cX7_put 57 = .ok (.iload_n 1, 1) := by decide +kernel
theorem dX7_put_58 : decode cX7_put 58 = .ok (.imul, 1) := by decide +kernel
theorem dX7_put_59 : decode cX7_put 59 = .ok (.iload_n 2, 1) := by decide +kernel
theorem dX7_put_60 : decode cX7_put 60 = .ok (.iadd, 1) := by decide +kernel
theorem dX7_put_61 : decode cX7_put 61 = .ok (.aload_n 0, 1) := by decide +kernel
theorem dX7_put_62 : decode cX7_put 62 = .ok (.getfield 23, 3) := by decide +kernel
theorem dX7_put_65 : decode cX7_put 65 = .ok (.iload_n 1, 1) := by decide +kernel
theorem dX7_put_66 : decode cX7_put 66 = .ok (.iaload, 1) := by decide +kernel
theorem dX7_put_67 : decode cX7_put 67 = .ok (.iconst 1, 1) := by decide +kernel
theorem dX7_put_68 : decode cX7_put 68 = .ok (.if_icmp .ne 8, 3) := by decide +kernel
theorem dX7_put_71 : decode cX7_put 71 = .ok (.iload_n 3, 1) := by decide +kernel
theorem dX7_put_72 : decode cX7_put 72 = .ok (.i2s, 1) := by decide +kernel
theorem dX7_put_73 : decode cX7_put 73 = .ok (.goto 16, 3) := by decide +kernel
theorem dX7_put_76 : decode cX7_put 76 = .ok (.iload_n 3, 1) := by decide +kernel
theorem dX7_put_77 : decode cX7_put 77 = .ok (.invokestatic 115, 3) := by decide +kernel
theorem dX7_put_80 : decode cX7_put 80 = .ok (.ifCond .eq 8, 3) := by decide +kernel
theorem dX7_put_83 : decode cX7_put 83 = .ok (.ldc 118, 2) := by decide +kernel
theorem dX7_put_85 : decode cX7_put 85 = .ok (.goto 4, 3) := by decide +kernel
theorem dX7_put_88 : decode cX7_put 88 = .ok (.iload_n 3, 1) := by decide +kernel
theorem dX7_put_89 : decode cX7_put 89 = .ok (.iastore, 1) := by decide +kernel
theorem dX7_put_90 : decode cX7_put 90 = .ok (.iconst 0, 1) := by decide +kernel
theorem dX7_put_91 : decode cX7_put 91 = .ok (.ireturn, 1) := by decide +kernel
def f_X7_put (x1 : Int32) (x2 : Int32) (x3 : Int32) (S : St) : Option (Int32 × St) := if (f_X7_isSheet x1) = true then (if inb x1 4 = true then (if (rd S 113 (ix x1)) = 0 then (some (((f_X7_found (-2 : Int32) S).1), (f_X7_found (-2 : Int32) S).2)) else (if inb x1 4 = true then (if (f_X7_in x2 (0 : Int32) ((rd S 114 (ix x1)) - (1 : Int32))) = true then (if inb x1 4 = true then (if (rd S 113 (ix x1)) = (1 : Int32) then (if inb (((50 : Int32) * x1) + x2) 200 = true then (some ((0 : Int32), (wr S 115 (ix (((50 : Int32) * x1) + x2)) x3.toInt16.toInt32))) else none) else (if (f_X7_isNone x3) = true then (if inb (((50 : Int32) * x1) + x2) 200 = true then (some ((0 : Int32), (wr S 115 (ix (((50 : Int32) * x1) + x2)) (2143289344 : Int32)))) else none) else (if inb (((50 : Int32) * x1) + x2) 200 = true then (some ((0 : Int32), (wr S 115 (ix (((50 : Int32) * x1) + x2)) x3))) else none))) else none) else (some (((f_X7_found (-1 : Int32) S).1), (f_X7_found (-1 : Int32) S).2))) else none)) else none) else (some (((f_X7_found (-1 : Int32) S).1), (f_X7_found (-1 : Int32) S).2))
set_option maxRecDepth 100000 in
set_option maxHeartbeats 4000000 in
theorem m_X7_put (l : Launch) (w : Wd) (x1 : Int32) (x2 : Int32) (x3 : Int32) (S : St)  : J l w I_X7_put 0 [(0, .ref (w.2.1 + 108)), (1, .int x1), (2, .int x2), (3, .int x3)] [] S (fun b => (some (.int b.1), b.2)) (f_X7_put x1 x2 x3 S) := by
  unfold f_X7_put
  refine j_iload_n (y := I_X7_put) 1 dX7_put_0 rfl rfl ?_
  refine j_callSzT (y := I_X7_put) (As := [.int x1]) cv_7_110 ⟨Nat.le_of_ble_eq_true rfl, Nat.le_of_ble_eq_true rfl⟩ rfl (Nat.le_of_ble_eq_true rfl) dX7_put_1 (c_X7_isSheet l w x1 S) ?_
  refine j_if_neB (y := I_X7_put) 13 dX7_put_4 (by decide) (fun h4 => ?_) (fun h4 => ?_)
  · refine j_aload_n (y := I_X7_put) 0 dX7_put_13 rfl rfl ?_
    refine j_getR (y := I_X7_put) (j := 113) fl_7_23 k_108 rfl rfl dX7_put_14 ?_
    refine j_iload_n (y := I_X7_put) 1 dX7_put_17 rfl rfl ?_
    refine j_iald (y := I_X7_put) k_113 dX7_put_18 (fun h18 => ?_)
    refine j_if_ne (y := I_X7_put) 29 dX7_put_19 (by decide) (fun h19 => ?_) (fun h19 => ?_)
    · refine j_iload_n (y := I_X7_put) 2 dX7_put_29 rfl rfl ?_
      refine j_iconst (y := I_X7_put) (v := 0) dX7_put_30 (by decide) ?_
      refine j_aload_n (y := I_X7_put) 0 dX7_put_31 rfl rfl ?_
      refine j_getR (y := I_X7_put) (j := 114) fl_7_26 k_108 rfl rfl dX7_put_32 ?_
      refine j_iload_n (y := I_X7_put) 1 dX7_put_35 rfl rfl ?_
      refine j_iald (y := I_X7_put) k_114 dX7_put_36 (fun h36 => ?_)
      refine j_iconst (y := I_X7_put) (v := 1) dX7_put_37 (by decide) ?_
      refine j_isub (y := I_X7_put) dX7_put_38 ?_
      refine j_callSzT (y := I_X7_put) (As := [.int x2, .int (0 : Int32), .int ((rd S 114 (ix x1)) - (1 : Int32))]) cv_7_64 ⟨Nat.le_of_ble_eq_true rfl, Nat.le_of_ble_eq_true rfl⟩ rfl (Nat.le_of_ble_eq_true rfl) dX7_put_39 (c_X7_in l w x2 (0 : Int32) ((rd S 114 (ix x1)) - (1 : Int32)) S) ?_
      refine j_if_neB (y := I_X7_put) 51 dX7_put_42 (by decide) (fun h42 => ?_) (fun h42 => ?_)
      · refine j_aload_n (y := I_X7_put) 0 dX7_put_51 rfl rfl ?_
        refine j_getR (y := I_X7_put) (j := 115) fl_7_29 k_108 rfl rfl dX7_put_52 ?_
        refine j_bipush (y := I_X7_put) (v := 50) dX7_put_55 (by decide) ?_
        refine j_iload_n (y := I_X7_put) 1 dX7_put_57 rfl rfl ?_
        refine j_imul (y := I_X7_put) dX7_put_58 ?_
        refine j_iload_n (y := I_X7_put) 2 dX7_put_59 rfl rfl ?_
        refine j_iadd (y := I_X7_put) dX7_put_60 ?_
        refine j_aload_n (y := I_X7_put) 0 dX7_put_61 rfl rfl ?_
        refine j_getR (y := I_X7_put) (j := 113) fl_7_23 k_108 rfl rfl dX7_put_62 ?_
        refine j_iload_n (y := I_X7_put) 1 dX7_put_65 rfl rfl ?_
        refine j_iald (y := I_X7_put) k_113 dX7_put_66 (fun h66 => ?_)
        refine j_iconst (y := I_X7_put) (v := 1) dX7_put_67 (by decide) ?_
        refine j_icmp_ne (y := I_X7_put) 76 dX7_put_68 (by decide) (fun h68 => ?_) (fun h68 => ?_)
        · refine j_iload_n (y := I_X7_put) 3 dX7_put_76 rfl rfl ?_
          refine j_callSzT (y := I_X7_put) (As := [.int x3]) cv_7_115 ⟨Nat.le_of_ble_eq_true rfl, Nat.le_of_ble_eq_true rfl⟩ rfl (Nat.le_of_ble_eq_true rfl) dX7_put_77 (c_X7_isNone l w x3 S) ?_
          refine j_if_eqB (y := I_X7_put) 88 dX7_put_80 (by decide) (fun h80 => ?_) (fun h80 => ?_)
          · refine j_iload_n (y := I_X7_put) 3 dX7_put_88 rfl rfl ?_
            refine j_iast (y := I_X7_put) k_115 dX7_put_89 (fun h89 => ?_)
            refine j_iconst (y := I_X7_put) (v := 0) dX7_put_90 (by decide) ?_
            exact j_iret (y := I_X7_put) rfl dX7_put_91 rfl
          · refine j_ldc (y := I_X7_put) (v := 2143289344) dX7_put_83 (gm 951 (by decide +kernel) rfl) ?_
            refine j_goto (y := I_X7_put) 89 dX7_put_85 (by decide) ?_
            refine j_iast (y := I_X7_put) k_115 dX7_put_89 (fun h89 => ?_)
            refine j_iconst (y := I_X7_put) (v := 0) dX7_put_90 (by decide) ?_
            exact j_iret (y := I_X7_put) rfl dX7_put_91 rfl
        · refine j_iload_n (y := I_X7_put) 3 dX7_put_71 rfl rfl ?_
          refine j_i2s (y := I_X7_put) dX7_put_72 ?_
          refine j_goto (y := I_X7_put) 89 dX7_put_73 (by decide) ?_
          refine j_iast (y := I_X7_put) k_115 dX7_put_89 (fun h89 => ?_)
          refine j_iconst (y := I_X7_put) (v := 0) dX7_put_90 (by decide) ?_
          exact j_iret (y := I_X7_put) rfl dX7_put_91 rfl
      · refine j_aload_n (y := I_X7_put) 0 dX7_put_45 rfl rfl ?_
        refine j_iconst (y := I_X7_put) (v := -1) dX7_put_46 (by decide) ?_
        refine j_callViT (y := I_X7_put) (As := [.int (-1 : Int32)]) cv_7_72 ⟨Nat.le_of_ble_eq_true rfl, Nat.le_of_ble_eq_true rfl⟩ k_108 rfl (Nat.le_of_ble_eq_true rfl) dX7_put_47 (c_X7_found l w (-1 : Int32) S) ?_
        exact j_iret (y := I_X7_put) rfl dX7_put_50 rfl
    · refine j_aload_n (y := I_X7_put) 0 dX7_put_22 rfl rfl ?_
      refine j_bipush (y := I_X7_put) (v := -2) dX7_put_23 (by decide) ?_
      refine j_callViT (y := I_X7_put) (As := [.int (-2 : Int32)]) cv_7_72 ⟨Nat.le_of_ble_eq_true rfl, Nat.le_of_ble_eq_true rfl⟩ k_108 rfl (Nat.le_of_ble_eq_true rfl) dX7_put_25 (c_X7_found l w (-2 : Int32) S) ?_
      exact j_iret (y := I_X7_put) rfl dX7_put_28 rfl
  · refine j_aload_n (y := I_X7_put) 0 dX7_put_7 rfl rfl ?_
    refine j_iconst (y := I_X7_put) (v := -1) dX7_put_8 (by decide) ?_
    refine j_callViT (y := I_X7_put) (As := [.int (-1 : Int32)]) cv_7_72 ⟨Nat.le_of_ble_eq_true rfl, Nat.le_of_ble_eq_true rfl⟩ k_108 rfl (Nat.le_of_ble_eq_true rfl) dX7_put_9 (c_X7_found l w (-1 : Int32) S) ?_
    exact j_iret (y := I_X7_put) rfl dX7_put_12 rfl
theorem c_X7_put (l : Launch) (w : Wd) (x1 : Int32) (x2 : Int32) (x3 : Int32) (S : St)  : ∀ v, f_X7_put x1 x2 x3 S = some v → CtS l w I_X7_put [.ref (w.2.1 + 108), .int x1, .int x2, .int x3] S v.2 (some (.int v.1)) := fun v h => J.ct (av := [.ref (w.2.1 + 108), .int x1, .int x2, .int x3]) (Nat.le_of_ble_eq_true rfl) pn_7 (m_X7_put l w x1 x2 x3 S ) h
abbrev I_X7_sheet : MI := (yX7_sheet, cX7_sheet, 5, some .int, { frames := 2, cells := 0, slots := 0, locals := 42 })
theorem dX7_sheet_0 : decode cX7_sheet 0 = .ok (.iload_n 1, 1) := by decide +kernel
theorem dX7_sheet_1 : decode cX7_sheet 1 = .ok (.invokestatic 110, 3) := by decide +kernel
theorem dX7_sheet_4 : decode cX7_sheet 4 = .ok (.ifCond .eq 12, 3) := by decide +kernel
theorem dX7_sheet_7 : decode cX7_sheet 7 = .ok (.iload_n 2, 1) := by decide +kernel
theorem dX7_sheet_8 : decode cX7_sheet 8 = .ok (.iconst 0, 1) := by decide +kernel
theorem dX7_sheet_9 : decode cX7_sheet 9 = .ok (.iconst 2, 1) := by decide +kernel
theorem dX7_sheet_10 : decode cX7_sheet 10 = .ok (.invokestatic 64, 3) := by decide +kernel
theorem dX7_sheet_13 : decode cX7_sheet 13 = .ok (.ifCond .ne 9, 3) := by decide +kernel
theorem dX7_sheet_16 : decode cX7_sheet 16 = .ok (.aload_n 0, 1) := by decide +kernel
theorem dX7_sheet_17 : decode cX7_sheet 17 = .ok (.iconst (-1), 1) := by decide +kernel
theorem dX7_sheet_18 : decode cX7_sheet 18 = .ok (.invokevirtual 72, 3) := by decide +kernel
theorem dX7_sheet_21 : decode cX7_sheet 21 = .ok (.ireturn, 1) := by decide +kernel
theorem dX7_sheet_22 : decode cX7_sheet 22 = .ok (.iload_n 3, 1) := by decide +kernel
theorem dX7_sheet_23 : decode cX7_sheet 23 = .ok (.ifCond .ge 10, 3) := by decide +kernel
theorem dX7_sheet_26 : decode cX7_sheet 26 = .ok (.aload_n 0, 1) := by decide +kernel
theorem dX7_sheet_27 : decode cX7_sheet 27 = .ok (.bipush (-3), 2) := by decide +kernel
theorem dX7_sheet_29 : decode cX7_sheet 29 = .ok (.invokevirtual 72, 3) := by decide +kernel
theorem dX7_sheet_32 : decode cX7_sheet 32 = .ok (.ireturn, 1) := by decide +kernel
theorem dX7_sheet_33 : decode cX7_sheet 33 = .ok (.iload_n 3, 1) := by decide +kernel
theorem dX7_sheet_34 : decode cX7_sheet 34 = .ok (.bipush 50, 2) := by decide +kernel
theorem dX7_sheet_36 : decode cX7_sheet 36 = .ok (.if_icmp .le 9, 3) := by decide +kernel
theorem dX7_sheet_39 : decode cX7_sheet 39 = .ok (.aload_n 0, 1) := by decide +kernel
theorem dX7_sheet_40 : decode cX7_sheet 40 = .ok (.iconst (-1), 1) := by decide +kernel
theorem dX7_sheet_41 : decode cX7_sheet 41 = .ok (.invokevirtual 72, 3) := by decide +kernel
theorem dX7_sheet_44 : decode cX7_sheet 44 = .ok (.ireturn, 1) := by decide +kernel
theorem dX7_sheet_45 : decode cX7_sheet 45 = .ok (.aload_n 0, 1) := by decide +kernel
theorem dX7_sheet_46 : decode cX7_sheet 46 = .ok (.getfield 23, 3) := by decide +kernel
theorem dX7_sheet_49 : decode cX7_sheet 49 = .ok (.iload_n 1, 1) := by decide +kernel
theorem dX7_sheet_50 : decode cX7_sheet 50 = .ok (.iload_n 2, 1) := by decide +kernel
theorem dX7_sheet_51 : decode cX7_sheet 51 = .ok (.iastore, 1) := by decide +kernel
theorem dX7_sheet_52 : decode cX7_sheet 52 = .ok (.aload_n 0, 1) := by decide +kernel
theorem dX7_sheet_53 : decode cX7_sheet 53 = .ok (.getfield 26, 3) := by decide +kernel
theorem dX7_sheet_56 : decode cX7_sheet 56 = .ok (.iload_n 1, 1) := by decide +kernel
theorem dX7_sheet_57 : decode cX7_sheet 57 = .ok (.iload_n 2, 1) := by decide +kernel
theorem dX7_sheet_58 : decode cX7_sheet 58 = .ok (.ifCond .ne 7, 3) := by decide +kernel
theorem dX7_sheet_61 : decode cX7_sheet 61 = .ok (.iconst 0, 1) := by decide +kernel
theorem dX7_sheet_62 : decode cX7_sheet 62 = .ok (.goto 4, 3) := by decide +kernel
theorem dX7_sheet_65 : decode cX7_sheet 65 = .ok (.iload_n 3, 1) := by decide +kernel
theorem dX7_sheet_66 : decode cX7_sheet 66 = .ok (.iastore, 1) := by decide +kernel
theorem dX7_sheet_67 : decode cX7_sheet 67 = .ok (.iconst 0, 1) := by decide +kernel
theorem dX7_sheet_68 : decode cX7_sheet 68 = .ok (.istore 4, 2) := by decide +kernel
theorem dX7_sheet_70 : decode cX7_sheet 70 = .ok (.iload 4, 2) := by decide +kernel
theorem dX7_sheet_72 : decode cX7_sheet 72 = .ok (.bipush 50, 2) := by decide +kernel
theorem dX7_sheet_74 : decode cX7_sheet 74 = .ok (.if_icmp .ge 22, 3) := by decide +kernel
theorem dX7_sheet_77 : decode cX7_sheet 77 = .ok (.aload_n 0, 1) := by decide +kernel
theorem dX7_sheet_78 : decode cX7_sheet 78 = .ok (.getfield 29, 3) := by decide +kernel
theorem dX7_sheet_81 : decode cX7_sheet 81 = .ok (.bipush 50, 2) := by decide +kernel
theorem dX7_sheet_83 : decode cX7_sheet 83 = .ok (.iload_n 1, 1) := by decide +kernel
theorem dX7_sheet_84 : decode cX7_sheet 84 = .ok (.imul, 1) := by decide +kernel
theorem dX7_sheet_85 : decode cX7_sheet 85 = .ok (.iload 4, 2) := by decide +kernel
theorem dX7_sheet_87 : decode cX7_sheet 87 = .ok (.iadd, 1) := by decide +kernel
theorem dX7_sheet_88 : decode cX7_sheet 88 = .ok (.iconst 0, 1) := by decide +kernel
theorem dX7_sheet_89 : decode cX7_sheet 89 = .ok (.iastore, 1) := by decide +kernel
theorem dX7_sheet_90 : decode cX7_sheet 90 = .ok (.iinc 4 1, 3) := by decide +kernel
theorem dX7_sheet_93 : decode cX7_sheet 93 = .ok (.goto (-23), 3) := by decide +kernel
theorem dX7_sheet_96 : decode cX7_sheet 96 = .ok (.aload_n 0, 1) := by decide +kernel
theorem dX7_sheet_97 : decode cX7_sheet 97 = .ok (.getfield 26, 3) := by decide +kernel
theorem dX7_sheet_100 : decode cX7_sheet 100 = .ok (.iload_n 1, 1) := by decide +kernel
theorem dX7_sheet_101 : decode cX7_sheet 101 = .ok (.iaload, 1) := by decide +kernel
theorem dX7_sheet_102 : decode cX7_sheet 102 = .ok (.ireturn, 1) := by decide +kernel
def f_X7_sheet_L70 (fuel : Nat) (K : Int32 → St → Option (Int32 × St)) (a70_1 : Int32) (a70_4 : Int32) (S70 : St) : Option (Int32 × St) := match fuel with
  | 0 => none
  | n + 1 => if a70_4 < (50 : Int32) then (if inb (((50 : Int32) * a70_1) + a70_4) 200 = true then (f_X7_sheet_L70 n K a70_1 (a70_4 + (1 : Int32)) (wr S70 115 (ix (((50 : Int32) * a70_1) + a70_4)) (0 : Int32))) else none) else (K a70_1 S70)
def f_X7_sheet_J66 (j66_1 : Int32) (j66s_0 : Int32) (j66s_1 : Int32) (S66 : St) : Option (Int32 × St) := if inb j66s_1 4 = true then (f_X7_sheet_L70 6000 (fun e96_1 T96 => (if inb e96_1 4 = true then (some ((rd T96 114 (ix e96_1)), T96)) else none)) j66_1 (0 : Int32) (wr S66 114 (ix j66s_1) j66s_0)) else none
def f_X7_sheet (x1 : Int32) (x2 : Int32) (x3 : Int32) (S : St) : Option (Int32 × St) := if (f_X7_isSheet x1) = true then (if (f_X7_in x2 (0 : Int32) (2 : Int32)) = true then (if x3 < 0 then (some (((f_X7_found (-3 : Int32) S).1), (f_X7_found (-3 : Int32) S).2)) else (if (50 : Int32) < x3 then (some (((f_X7_found (-1 : Int32) S).1), (f_X7_found (-1 : Int32) S).2)) else (if inb x1 4 = true then (if x2 = 0 then (f_X7_sheet_J66 x1 (0 : Int32) x1 (wr S 113 (ix x1) x2)) else (f_X7_sheet_J66 x1 x3 x1 (wr S 113 (ix x1) x2))) else none))) else (some (((f_X7_found (-1 : Int32) S).1), (f_X7_found (-1 : Int32) S).2))) else (some (((f_X7_found (-1 : Int32) S).1), (f_X7_found (-1 : Int32) S).2))
set_option maxRecDepth 100000 in
theorem jl_X7_sheet_70 (l : Launch) (w : Wd) (K : Int32 → St → Option (Int32 × St)) (n : Nat) : ∀ (a70_1 : Int32) (a70_4 : Int32) (S70 : St), (∀ (e96_1 : Int32) (S' : St) , J l w I_X7_sheet 96 [(0, .ref (w.2.1 + 108)), (1, .int e96_1)] [] S' (fun b => (some (.int b.1), b.2)) (K e96_1 S')) → J l w I_X7_sheet 70 [(0, .ref (w.2.1 + 108)), (1, .int a70_1), (4, .int a70_4)] [] S70 (fun b => (some (.int b.1), b.2)) (f_X7_sheet_L70 n K a70_1 a70_4 S70) := by
  induction n with
  | zero =>
    intro a70_1 a70_4 S70 hK b h
    simp only [f_X7_sheet_L70] at h
    cases h
  | succ n ih =>
    intro a70_1 a70_4 S70 hK
    rw [f_X7_sheet_L70]
    refine j_iload (y := I_X7_sheet) 2 dX7_sheet_70 rfl ?_
    refine j_bipush (y := I_X7_sheet) (v := 50) dX7_sheet_72 (by decide) ?_
    refine j_icmp_ge (y := I_X7_sheet) 96 dX7_sheet_74 (by decide) (fun h74 => ?_) (fun h74 => ?_)
    · refine j_sub [0, 1] rfl ?_
      exact hK a70_1 S70
    · refine j_aload_n (y := I_X7_sheet) 0 dX7_sheet_77 rfl rfl ?_
      refine j_getR (y := I_X7_sheet) (j := 115) fl_7_29 k_108 rfl rfl dX7_sheet_78 ?_
      refine j_bipush (y := I_X7_sheet) (v := 50) dX7_sheet_81 (by decide) ?_
      refine j_iload_n (y := I_X7_sheet) 1 dX7_sheet_83 rfl rfl ?_
      refine j_imul (y := I_X7_sheet) dX7_sheet_84 ?_
      refine j_iload (y := I_X7_sheet) 2 dX7_sheet_85 rfl ?_
      refine j_iadd (y := I_X7_sheet) dX7_sheet_87 ?_
      refine j_iconst (y := I_X7_sheet) (v := 0) dX7_sheet_88 (by decide) ?_
      refine j_iast (y := I_X7_sheet) k_115 dX7_sheet_89 (fun h89 => ?_)
      refine j_iinc (y := I_X7_sheet) 2 (ls' := [(4, .int (a70_4 + (1 : Int32))), (0, .ref (w.2.1 + 108)), (1, .int a70_1)]) dX7_sheet_90 rfl (ii _ _ (by decide) _) (by decide) rfl ?_
      refine j_goto (y := I_X7_sheet) 70 dX7_sheet_93 (by decide) ?_
      refine j_sub [1, 2, 0] rfl ?_
      exact ih a70_1 (a70_4 + (1 : Int32)) (wr S70 115 (ix (((50 : Int32) * a70_1) + a70_4)) (0 : Int32)) hK
set_option maxRecDepth 100000 in
theorem jj_X7_sheet_66 (l : Launch) (w : Wd) (j66_1 : Int32) (j66s_0 : Int32) (j66s_1 : Int32) (S66 : St)  : J l w I_X7_sheet 66 [(0, .ref (w.2.1 + 108)), (1, .int j66_1)] [.int j66s_0, .int j66s_1, .ref (w.2.1 + 114)] S66 (fun b => (some (.int b.1), b.2)) (f_X7_sheet_J66 j66_1 j66s_0 j66s_1 S66) := by
  unfold f_X7_sheet_J66
  refine j_iast (y := I_X7_sheet) k_114 dX7_sheet_66 (fun h66 => ?_)
  refine j_iconst (y := I_X7_sheet) (v := 0) dX7_sheet_67 (by decide) ?_
  refine j_istore (y := I_X7_sheet) (ls' := [(4, .int (0 : Int32)), (0, .ref (w.2.1 + 108)), (1, .int j66_1)]) dX7_sheet_68 (by decide) rfl ?_
  refine j_sub [1, 2, 0] rfl ?_
  refine jl_X7_sheet_70 l w _ 6000 j66_1 (0 : Int32) (wr S66 114 (ix j66s_1) j66s_0)  (fun e96_1 T96 => ?_)
  refine j_aload_n (y := I_X7_sheet) 0 dX7_sheet_96 rfl rfl ?_
  refine j_getR (y := I_X7_sheet) (j := 114) fl_7_26 k_108 rfl rfl dX7_sheet_97 ?_
  refine j_iload_n (y := I_X7_sheet) 1 dX7_sheet_100 rfl rfl ?_
  refine j_iald (y := I_X7_sheet) k_114 dX7_sheet_101 (fun h101 => ?_)
  exact j_iret (y := I_X7_sheet) rfl dX7_sheet_102 rfl
set_option maxRecDepth 100000 in
set_option maxHeartbeats 4000000 in
theorem m_X7_sheet (l : Launch) (w : Wd) (x1 : Int32) (x2 : Int32) (x3 : Int32) (S : St)  : J l w I_X7_sheet 0 [(0, .ref (w.2.1 + 108)), (1, .int x1), (2, .int x2), (3, .int x3)] [] S (fun b => (some (.int b.1), b.2)) (f_X7_sheet x1 x2 x3 S) := by
  unfold f_X7_sheet
  refine j_iload_n (y := I_X7_sheet) 1 dX7_sheet_0 rfl rfl ?_
  refine j_callSzT (y := I_X7_sheet) (As := [.int x1]) cv_7_110 ⟨Nat.le_of_ble_eq_true rfl, Nat.le_of_ble_eq_true rfl⟩ rfl (Nat.le_of_ble_eq_true rfl) dX7_sheet_1 (c_X7_isSheet l w x1 S) ?_
  refine j_if_eqB (y := I_X7_sheet) 16 dX7_sheet_4 (by decide) (fun h4 => ?_) (fun h4 => ?_)
  · refine j_aload_n (y := I_X7_sheet) 0 dX7_sheet_16 rfl rfl ?_
    refine j_iconst (y := I_X7_sheet) (v := -1) dX7_sheet_17 (by decide) ?_
    refine j_callViT (y := I_X7_sheet) (As := [.int (-1 : Int32)]) cv_7_72 ⟨Nat.le_of_ble_eq_true rfl, Nat.le_of_ble_eq_true rfl⟩ k_108 rfl (Nat.le_of_ble_eq_true rfl) dX7_sheet_18 (c_X7_found l w (-1 : Int32) S) ?_
    exact j_iret (y := I_X7_sheet) rfl dX7_sheet_21 rfl
  · refine j_iload_n (y := I_X7_sheet) 2 dX7_sheet_7 rfl rfl ?_
    refine j_iconst (y := I_X7_sheet) (v := 0) dX7_sheet_8 (by decide) ?_
    refine j_iconst (y := I_X7_sheet) (v := 2) dX7_sheet_9 (by decide) ?_
    refine j_callSzT (y := I_X7_sheet) (As := [.int x2, .int (0 : Int32), .int (2 : Int32)]) cv_7_64 ⟨Nat.le_of_ble_eq_true rfl, Nat.le_of_ble_eq_true rfl⟩ rfl (Nat.le_of_ble_eq_true rfl) dX7_sheet_10 (c_X7_in l w x2 (0 : Int32) (2 : Int32) S) ?_
    refine j_if_neB (y := I_X7_sheet) 22 dX7_sheet_13 (by decide) (fun h13 => ?_) (fun h13 => ?_)
    · refine j_iload_n (y := I_X7_sheet) 3 dX7_sheet_22 rfl rfl ?_
      refine j_if_ge (y := I_X7_sheet) 33 dX7_sheet_23 (by decide) (fun h23 => ?_) (fun h23 => ?_)
      · refine j_iload_n (y := I_X7_sheet) 3 dX7_sheet_33 rfl rfl ?_
        refine j_bipush (y := I_X7_sheet) (v := 50) dX7_sheet_34 (by decide) ?_
        refine j_icmp_le (y := I_X7_sheet) 45 dX7_sheet_36 (by decide) (fun h36 => ?_) (fun h36 => ?_)
        · refine j_aload_n (y := I_X7_sheet) 0 dX7_sheet_45 rfl rfl ?_
          refine j_getR (y := I_X7_sheet) (j := 113) fl_7_23 k_108 rfl rfl dX7_sheet_46 ?_
          refine j_iload_n (y := I_X7_sheet) 1 dX7_sheet_49 rfl rfl ?_
          refine j_iload_n (y := I_X7_sheet) 2 dX7_sheet_50 rfl rfl ?_
          refine j_iast (y := I_X7_sheet) k_113 dX7_sheet_51 (fun h51 => ?_)
          refine j_aload_n (y := I_X7_sheet) 0 dX7_sheet_52 rfl rfl ?_
          refine j_getR (y := I_X7_sheet) (j := 114) fl_7_26 k_108 rfl rfl dX7_sheet_53 ?_
          refine j_iload_n (y := I_X7_sheet) 1 dX7_sheet_56 rfl rfl ?_
          refine j_iload_n (y := I_X7_sheet) 2 dX7_sheet_57 rfl rfl ?_
          refine j_if_ne (y := I_X7_sheet) 65 dX7_sheet_58 (by decide) (fun h58 => ?_) (fun h58 => ?_)
          · refine j_iload_n (y := I_X7_sheet) 3 dX7_sheet_65 rfl rfl ?_
            refine j_sub [0, 1] rfl ?_
            exact jj_X7_sheet_66 l w x1 x3 x1 (wr S 113 (ix x1) x2)
          · refine j_iconst (y := I_X7_sheet) (v := 0) dX7_sheet_61 (by decide) ?_
            refine j_goto (y := I_X7_sheet) 66 dX7_sheet_62 (by decide) ?_
            refine j_sub [0, 1] rfl ?_
            exact jj_X7_sheet_66 l w x1 (0 : Int32) x1 (wr S 113 (ix x1) x2)
        · refine j_aload_n (y := I_X7_sheet) 0 dX7_sheet_39 rfl rfl ?_
          refine j_iconst (y := I_X7_sheet) (v := -1) dX7_sheet_40 (by decide) ?_
          refine j_callViT (y := I_X7_sheet) (As := [.int (-1 : Int32)]) cv_7_72 ⟨Nat.le_of_ble_eq_true rfl, Nat.le_of_ble_eq_true rfl⟩ k_108 rfl (Nat.le_of_ble_eq_true rfl) dX7_sheet_41 (c_X7_found l w (-1 : Int32) S) ?_
          exact j_iret (y := I_X7_sheet) rfl dX7_sheet_44 rfl
      · refine j_aload_n (y := I_X7_sheet) 0 dX7_sheet_26 rfl rfl ?_
        refine j_bipush (y := I_X7_sheet) (v := -3) dX7_sheet_27 (by decide) ?_
        refine j_callViT (y := I_X7_sheet) (As := [.int (-3 : Int32)]) cv_7_72 ⟨Nat.le_of_ble_eq_true rfl, Nat.le_of_ble_eq_true rfl⟩ k_108 rfl (Nat.le_of_ble_eq_true rfl) dX7_sheet_29 (c_X7_found l w (-3 : Int32) S) ?_
        exact j_iret (y := I_X7_sheet) rfl dX7_sheet_32 rfl
    · refine j_aload_n (y := I_X7_sheet) 0 dX7_sheet_16 rfl rfl ?_
      refine j_iconst (y := I_X7_sheet) (v := -1) dX7_sheet_17 (by decide) ?_
      refine j_callViT (y := I_X7_sheet) (As := [.int (-1 : Int32)]) cv_7_72 ⟨Nat.le_of_ble_eq_true rfl, Nat.le_of_ble_eq_true rfl⟩ k_108 rfl (Nat.le_of_ble_eq_true rfl) dX7_sheet_18 (c_X7_found l w (-1 : Int32) S) ?_
      exact j_iret (y := I_X7_sheet) rfl dX7_sheet_21 rfl
theorem c_X7_sheet (l : Launch) (w : Wd) (x1 : Int32) (x2 : Int32) (x3 : Int32) (S : St)  : ∀ v, f_X7_sheet x1 x2 x3 S = some v → CtS l w I_X7_sheet [.ref (w.2.1 + 108), .int x1, .int x2, .int x3] S v.2 (some (.int v.1)) := fun v h => J.ct (av := [.ref (w.2.1 + 108), .int x1, .int x2, .int x3]) (Nat.le_of_ble_eq_true rfl) pn_7 (m_X7_sheet l w x1 x2 x3 S ) h
abbrev I_X7_sort : MI := (yX7_sort, cX7_sort, 7, some .int, { frames := 1, cells := 0, slots := 0, locals := 22 })
theorem dX7_sort_0 : decode cX7_sort 0 = .ok (.iload_n 1, 1) := by decide +kernel
theorem dX7_sort_1 : decode cX7_sort 1 = .ok (.iconst 0, 1) := by decide +kernel
theorem dX7_sort_2 : decode cX7_sort 2 = .ok (.sipush 2000, 3) := by decide +kernel
theorem dX7_sort_5 : decode cX7_sort 5 = .ok (.invokestatic 64, 3) := by decide +kernel
theorem dX7_sort_8 : decode cX7_sort 8 = .ok (.ifCond .eq 46, 3) := by decide +kernel
theorem dX7_sort_11 : decode cX7_sort 11 = .ok (.iload_n 2, 1) := by decide +kernel
theorem dX7_sort_12 : decode cX7_sort 12 = .ok (.iconst 1, 1) := by decide +kernel
theorem dX7_sort_13 : decode cX7_sort 13 = .ok (.bipush 9, 2) := by decide +kernel
theorem dX7_sort_15 : decode cX7_sort 15 = .ok (.invokestatic 64, 3) := by decide +kernel
theorem dX7_sort_18 : decode cX7_sort 18 = .ok (.ifCond .eq 36, 3) := by decide +kernel
theorem dX7_sort_21 : decode cX7_sort 21 = .ok (.iload_n 3, 1) := by decide +kernel
theorem dX7_sort_22 : decode cX7_sort 22 = .ok (.iconst 0, 1) := by decide +kernel
theorem dX7_sort_23 : decode cX7_sort 23 = .ok (.sipush 2000, 3) := by decide +kernel
theorem dX7_sort_26 : decode cX7_sort 26 = .ok (.invokestatic 64, 3) := by decide +kernel
theorem dX7_sort_29 : decode cX7_sort 29 = .ok (.ifCond .eq 25, 3) := by decide +kernel
theorem dX7_sort_32 : decode cX7_sort 32 = .ok (.iload 4, 2) := by decide +kernel
theorem dX7_sort_34 : decode cX7_sort 34 = .ok (.iconst 1, 1) := by decide +kernel
theorem dX7_sort_35 : decode cX7_sort 35 = .ok (.bipush 60, 2) := by decide +kernel
theorem dX7_sort_37 : decode cX7_sort 37 = .ok (.invokestatic 64, 3) := by decide +kernel
theorem dX7_sort_40 : decode cX7_sort 40 = .ok (.ifCond .eq 14, 3) := by decide +kernel
theorem dX7_sort_43 : decode cX7_sort 43 = .ok (.iload 5, 2) := by decide +kernel
theorem dX7_sort_45 : decode cX7_sort 45 = .ok (.iconst 0, 1) := by decide +kernel
theorem dX7_sort_46 : decode cX7_sort 46 = .ok (.bipush 9, 2) := by decide +kernel
theorem dX7_sort_48 : decode cX7_sort 48 = .ok (.invokestatic 64, 3) := by decide +kernel
theorem dX7_sort_51 : decode cX7_sort 51 = .ok (.ifCond .ne 9, 3) := by decide +kernel
theorem dX7_sort_54 : decode cX7_sort 54 = .ok (.aload_n 0, 1) := by decide +kernel
theorem dX7_sort_55 : decode cX7_sort 55 = .ok (.iconst (-1), 1) := by decide +kernel
theorem dX7_sort_56 : decode cX7_sort 56 = .ok (.invokevirtual 72, 3) := by decide +kernel
theorem dX7_sort_59 : decode cX7_sort 59 = .ok (.ireturn, 1) := by decide +kernel
theorem dX7_sort_60 : decode cX7_sort 60 = .ok (.aload_n 0, 1) := by decide +kernel
theorem dX7_sort_61 : decode cX7_sort 61 = .ok (.getfield 7, 3) := by decide +kernel
theorem dX7_sort_64 : decode cX7_sort 64 = .ok (.sipush 782, 3) := by decide +kernel
theorem dX7_sort_67 : decode cX7_sort 67 = .ok (.iaload, 1) := by decide +kernel
theorem dX7_sort_68 : decode cX7_sort 68 = .ok (.istore 6, 2) := by decide +kernel
theorem dX7_sort_70 : decode cX7_sort 70 = .ok (.iload 6, 2) := by decide +kernel
theorem dX7_sort_72 : decode cX7_sort 72 = .ok (.bipush 6, 2) := by decide +kernel
theorem dX7_sort_74 : decode cX7_sort 74 = .ok (.if_icmp .ne 10, 3) := by decide +kernel
theorem dX7_sort_77 : decode cX7_sort 77 = .ok (.aload_n 0, 1) := by decide +kernel
theorem dX7_sort_78 : decode cX7_sort 78 = .ok (.bipush (-5), 2) := by decide +kernel
theorem dX7_sort_80 : decode cX7_sort 80 = .ok (.invokevirtual 72, 3) := by decide +kernel
theorem dX7_sort_83 : decode cX7_sort 83 = .ok (.ireturn, 1) := by decide +kernel
theorem dX7_sort_84 : decode cX7_sort 84 = .ok (.aload_n 0, 1) := by decide +kernel
theorem dX7_sort_85 : decode cX7_sort 85 = .ok (.getfield 7, 3) := by decide +kernel
theorem dX7_sort_88 : decode cX7_sort 88 = .ok (.iconst 0, 1) := by decide +kernel
theorem dX7_sort_89 : decode cX7_sort 89 = .ok (.iconst 5, 1) := by decide +kernel
theorem dX7_sort_90 : decode cX7_sort 90 = .ok (.iload 6, 2) := by decide +kernel
theorem dX7_sort_92 : decode cX7_sort 92 = .ok (.imul, 1) := by decide +kernel
theorem dX7_sort_93 : decode cX7_sort 93 = .ok (.iadd, 1) := by decide +kernel
theorem dX7_sort_94 : decode cX7_sort 94 = .ok (.iload_n 1, 1) := by decide +kernel
theorem dX7_sort_95 : decode cX7_sort 95 = .ok (.iastore, 1) := by decide +kernel
theorem dX7_sort_96 : decode cX7_sort 96 = .ok (.aload_n 0, 1) := by decide +kernel
theorem dX7_sort_97 : decode cX7_sort 97 = .ok (.getfield 7, 3) := by decide +kernel
theorem dX7_sort_100 : decode cX7_sort 100 = .ok (.iconst 0, 1) := by decide +kernel
theorem dX7_sort_101 : decode cX7_sort 101 = .ok (.iconst 5, 1) := by decide +kernel
theorem dX7_sort_102 : decode cX7_sort 102 = .ok (.iload 6, 2) := by decide +kernel
theorem dX7_sort_104 : decode cX7_sort 104 = .ok (.imul, 1) := by decide +kernel
theorem dX7_sort_105 : decode cX7_sort 105 = .ok (.iadd, 1) := by decide +kernel
theorem dX7_sort_106 : decode cX7_sort 106 = .ok (.iconst 1, 1) := by decide +kernel
theorem dX7_sort_107 : decode cX7_sort 107 = .ok (.iadd, 1) := by decide +kernel
theorem dX7_sort_108 : decode cX7_sort 108 = .ok (.iload_n 2, 1) := by decide +kernel
theorem dX7_sort_109 : decode cX7_sort 109 = .ok (.iastore, 1) := by decide +kernel
theorem dX7_sort_110 : decode cX7_sort 110 = .ok (.aload_n 0, 1) := by decide +kernel
theorem dX7_sort_111 : decode cX7_sort 111 = .ok (.getfield 7, 3) := by decide +kernel
theorem dX7_sort_114 : decode cX7_sort 114 = .ok (.iconst 0, 1) := by decide +kernel
theorem dX7_sort_115 : decode cX7_sort 115 = .ok (.iconst 5, 1) := by decide +kernel
theorem dX7_sort_116 : decode cX7_sort 116 = .ok (.iload 6, 2) := by decide +kernel
theorem dX7_sort_118 : decode cX7_sort 118 = .ok (.imul, 1) := by decide +kernel
theorem dX7_sort_119 : decode cX7_sort 119 = .ok (.iadd, 1) := by decide +kernel
theorem dX7_sort_120 : decode cX7_sort 120 = .ok (.iconst 2, 1) := by decide +kernel
theorem dX7_sort_121 : decode cX7_sort 121 = .ok (.iadd, 1) := by decide +kernel
theorem dX7_sort_122 : decode cX7_sort 122 = .ok (.iload_n 3, 1) := by decide +kernel
theorem dX7_sort_123 : decode cX7_sort 123 = .ok (.iastore, 1) := by decide +kernel
theorem dX7_sort_124 : decode cX7_sort 124 = .ok (.aload_n 0, 1) := by decide +kernel
theorem dX7_sort_125 : decode cX7_sort 125 = .ok (.getfield 7, 3) := by decide +kernel
theorem dX7_sort_128 : decode cX7_sort 128 = .ok (.iconst 0, 1) := by decide +kernel
theorem dX7_sort_129 : decode cX7_sort 129 = .ok (.iconst 5, 1) := by decide +kernel
theorem dX7_sort_130 : decode cX7_sort 130 = .ok (.iload 6, 2) := by decide +kernel
theorem dX7_sort_132 : decode cX7_sort 132 = .ok (.imul, 1) := by decide +kernel
theorem dX7_sort_133 : decode cX7_sort 133 = .ok (.iadd, 1) := by decide +kernel
theorem dX7_sort_134 : decode cX7_sort 134 = .ok (.iconst 3, 1) := by decide +kernel
theorem dX7_sort_135 : decode cX7_sort 135 = .ok (.iadd, 1) := by decide +kernel
theorem dX7_sort_136 : decode cX7_sort 136 = .ok (.iload 4, 2) := by decide +kernel
theorem dX7_sort_138 : decode cX7_sort 138 = .ok (.iastore, 1) := by decide +kernel
theorem dX7_sort_139 : decode cX7_sort 139 = .ok (.aload_n 0, 1) := by decide +kernel
theorem dX7_sort_140 : decode cX7_sort 140 = .ok (.getfield 7, 3) := by decide +kernel
theorem dX7_sort_143 : decode cX7_sort 143 = .ok (.iconst 0, 1) := by decide +kernel
theorem dX7_sort_144 : decode cX7_sort 144 = .ok (.iconst 5, 1) := by decide +kernel
theorem dX7_sort_145 : decode cX7_sort 145 = .ok (.iload 6, 2) := by decide +kernel
theorem dX7_sort_147 : decode cX7_sort 147 = .ok (.imul, 1) := by decide +kernel
theorem dX7_sort_148 : decode cX7_sort 148 = .ok (.iadd, 1) := by decide +kernel
theorem dX7_sort_149 : decode cX7_sort 149 = .ok (.iconst 4, 1) := by decide +kernel
theorem dX7_sort_150 : decode cX7_sort 150 = .ok (.iadd, 1) := by decide +kernel
theorem dX7_sort_151 : decode cX7_sort 151 = .ok (.iload 5, 2) := by decide +kernel
theorem dX7_sort_153 : decode cX7_sort 153 = .ok (.iastore, 1) := by decide +kernel
theorem dX7_sort_154 : decode cX7_sort 154 = .ok (.aload_n 0, 1) := by decide +kernel
theorem dX7_sort_155 : decode cX7_sort 155 = .ok (.getfield 7, 3) := by decide +kernel
theorem dX7_sort_158 : decode cX7_sort 158 = .ok (.sipush 782, 3) := by decide +kernel
theorem dX7_sort_161 : decode cX7_sort 161 = .ok (.dup2, 1) := by decide +kernel
theorem dX7_sort_162 : decode cX7_sort 162 = .ok (.iaload, 1) := by decide +kernel
theorem dX7_sort_163 : decode cX7_sort 163 = .ok (.iconst 1, 1) := by decide +kernel
theorem dX7_sort_164 : decode cX7_sort 164 = .ok (.iadd, 1) := by decide +kernel
theorem dX7_sort_165 : decode cX7_sort 165 = .ok (.iastore, 1) := by decide +kernel
theorem dX7_sort_166 : decode cX7_sort 166 = .ok (.aload_n 0, 1) := by decide +kernel
theorem dX7_sort_167 : decode cX7_sort 167 = .ok (.iconst 0, 1) := by decide +kernel
theorem dX7_sort_168 : decode cX7_sort 168 = .ok (.putfield 76, 3) := by decide +kernel
theorem dX7_sort_171 : decode cX7_sort 171 = .ok (.iload 6, 2) := by decide +kernel
theorem dX7_sort_173 : decode cX7_sort 173 = .ok (.ireturn, 1) := by decide +kernel
def f_X7_sort (x1 : Int32) (x2 : Int32) (x3 : Int32) (x4 : Int32) (x5 : Int32) (S : St) : Option (Int32 × St) := if (f_X7_in x1 (0 : Int32) (2000 : Int32)) = true then (if (f_X7_in x2 (1 : Int32) (9 : Int32)) = true then (if (f_X7_in x3 (0 : Int32) (2000 : Int32)) = true then (if (f_X7_in x4 (1 : Int32) (60 : Int32)) = true then (if (f_X7_in x5 (0 : Int32) (9 : Int32)) = true then (if (rd S 109 (ix (782 : Int32))) = (6 : Int32) then (some (((f_X7_found (-5 : Int32) S).1), (f_X7_found (-5 : Int32) S).2)) else (if inb ((0 : Int32) + ((5 : Int32) * (rd S 109 (ix (782 : Int32))))) 788 = true then (if inb (((0 : Int32) + ((5 : Int32) * (rd S 109 (ix (782 : Int32))))) + (1 : Int32)) 788 = true then (if inb (((0 : Int32) + ((5 : Int32) * (rd S 109 (ix (782 : Int32))))) + (2 : Int32)) 788 = true then (if inb (((0 : Int32) + ((5 : Int32) * (rd S 109 (ix (782 : Int32))))) + (3 : Int32)) 788 = true then (if inb (((0 : Int32) + ((5 : Int32) * (rd S 109 (ix (782 : Int32))))) + (4 : Int32)) 788 = true then (some ((rd S 109 (ix (782 : Int32))), (wr (wr (wr (wr (wr (wr (wr S 109 (ix ((0 : Int32) + ((5 : Int32) * (rd S 109 (ix (782 : Int32)))))) x1) 109 (ix (((0 : Int32) + ((5 : Int32) * (rd S 109 (ix (782 : Int32))))) + (1 : Int32))) x2) 109 (ix (((0 : Int32) + ((5 : Int32) * (rd S 109 (ix (782 : Int32))))) + (2 : Int32))) x3) 109 (ix (((0 : Int32) + ((5 : Int32) * (rd S 109 (ix (782 : Int32))))) + (3 : Int32))) x4) 109 (ix (((0 : Int32) + ((5 : Int32) * (rd S 109 (ix (782 : Int32))))) + (4 : Int32))) x5) 109 (ix (782 : Int32)) ((rd (wr (wr (wr (wr (wr S 109 (ix ((0 : Int32) + ((5 : Int32) * (rd S 109 (ix (782 : Int32)))))) x1) 109 (ix (((0 : Int32) + ((5 : Int32) * (rd S 109 (ix (782 : Int32))))) + (1 : Int32))) x2) 109 (ix (((0 : Int32) + ((5 : Int32) * (rd S 109 (ix (782 : Int32))))) + (2 : Int32))) x3) 109 (ix (((0 : Int32) + ((5 : Int32) * (rd S 109 (ix (782 : Int32))))) + (3 : Int32))) x4) 109 (ix (((0 : Int32) + ((5 : Int32) * (rd S 109 (ix (782 : Int32))))) + (4 : Int32))) x5) 109 (ix (782 : Int32))) + (1 : Int32))) 108 9 (0 : Int32)))) else none) else none) else none) else none) else none)) else (some (((f_X7_found (-1 : Int32) S).1), (f_X7_found (-1 : Int32) S).2))) else (some (((f_X7_found (-1 : Int32) S).1), (f_X7_found (-1 : Int32) S).2))) else (some (((f_X7_found (-1 : Int32) S).1), (f_X7_found (-1 : Int32) S).2))) else (some (((f_X7_found (-1 : Int32) S).1), (f_X7_found (-1 : Int32) S).2))) else (some (((f_X7_found (-1 : Int32) S).1), (f_X7_found (-1 : Int32) S).2))
set_option maxRecDepth 100000 in
set_option maxHeartbeats 4000000 in
theorem m_X7_sort (l : Launch) (w : Wd) (x1 : Int32) (x2 : Int32) (x3 : Int32) (x4 : Int32) (x5 : Int32) (S : St)  : J l w I_X7_sort 0 [(0, .ref (w.2.1 + 108)), (1, .int x1), (2, .int x2), (3, .int x3), (4, .int x4), (5, .int x5)] [] S (fun b => (some (.int b.1), b.2)) (f_X7_sort x1 x2 x3 x4 x5 S) := by
  unfold f_X7_sort
  refine j_iload_n (y := I_X7_sort) 1 dX7_sort_0 rfl rfl ?_
  refine j_iconst (y := I_X7_sort) (v := 0) dX7_sort_1 (by decide) ?_
  refine j_sipush (y := I_X7_sort) (v := 2000) dX7_sort_2 (by decide) ?_
  refine j_callSzT (y := I_X7_sort) (As := [.int x1, .int (0 : Int32), .int (2000 : Int32)]) cv_7_64 ⟨Nat.le_of_ble_eq_true rfl, Nat.le_of_ble_eq_true rfl⟩ rfl (Nat.le_of_ble_eq_true rfl) dX7_sort_5 (c_X7_in l w x1 (0 : Int32) (2000 : Int32) S) ?_
  refine j_if_eqB (y := I_X7_sort) 54 dX7_sort_8 (by decide) (fun h8 => ?_) (fun h8 => ?_)
  · refine j_aload_n (y := I_X7_sort) 0 dX7_sort_54 rfl rfl ?_
    refine j_iconst (y := I_X7_sort) (v := -1) dX7_sort_55 (by decide) ?_
    refine j_callViT (y := I_X7_sort) (As := [.int (-1 : Int32)]) cv_7_72 ⟨Nat.le_of_ble_eq_true rfl, Nat.le_of_ble_eq_true rfl⟩ k_108 rfl (Nat.le_of_ble_eq_true rfl) dX7_sort_56 (c_X7_found l w (-1 : Int32) S) ?_
    exact j_iret (y := I_X7_sort) rfl dX7_sort_59 rfl
  · refine j_iload_n (y := I_X7_sort) 2 dX7_sort_11 rfl rfl ?_
    refine j_iconst (y := I_X7_sort) (v := 1) dX7_sort_12 (by decide) ?_
    refine j_bipush (y := I_X7_sort) (v := 9) dX7_sort_13 (by decide) ?_
    refine j_callSzT (y := I_X7_sort) (As := [.int x2, .int (1 : Int32), .int (9 : Int32)]) cv_7_64 ⟨Nat.le_of_ble_eq_true rfl, Nat.le_of_ble_eq_true rfl⟩ rfl (Nat.le_of_ble_eq_true rfl) dX7_sort_15 (c_X7_in l w x2 (1 : Int32) (9 : Int32) S) ?_
    refine j_if_eqB (y := I_X7_sort) 54 dX7_sort_18 (by decide) (fun h18 => ?_) (fun h18 => ?_)
    · refine j_aload_n (y := I_X7_sort) 0 dX7_sort_54 rfl rfl ?_
      refine j_iconst (y := I_X7_sort) (v := -1) dX7_sort_55 (by decide) ?_
      refine j_callViT (y := I_X7_sort) (As := [.int (-1 : Int32)]) cv_7_72 ⟨Nat.le_of_ble_eq_true rfl, Nat.le_of_ble_eq_true rfl⟩ k_108 rfl (Nat.le_of_ble_eq_true rfl) dX7_sort_56 (c_X7_found l w (-1 : Int32) S) ?_
      exact j_iret (y := I_X7_sort) rfl dX7_sort_59 rfl
    · refine j_iload_n (y := I_X7_sort) 3 dX7_sort_21 rfl rfl ?_
      refine j_iconst (y := I_X7_sort) (v := 0) dX7_sort_22 (by decide) ?_
      refine j_sipush (y := I_X7_sort) (v := 2000) dX7_sort_23 (by decide) ?_
      refine j_callSzT (y := I_X7_sort) (As := [.int x3, .int (0 : Int32), .int (2000 : Int32)]) cv_7_64 ⟨Nat.le_of_ble_eq_true rfl, Nat.le_of_ble_eq_true rfl⟩ rfl (Nat.le_of_ble_eq_true rfl) dX7_sort_26 (c_X7_in l w x3 (0 : Int32) (2000 : Int32) S) ?_
      refine j_if_eqB (y := I_X7_sort) 54 dX7_sort_29 (by decide) (fun h29 => ?_) (fun h29 => ?_)
      · refine j_aload_n (y := I_X7_sort) 0 dX7_sort_54 rfl rfl ?_
        refine j_iconst (y := I_X7_sort) (v := -1) dX7_sort_55 (by decide) ?_
        refine j_callViT (y := I_X7_sort) (As := [.int (-1 : Int32)]) cv_7_72 ⟨Nat.le_of_ble_eq_true rfl, Nat.le_of_ble_eq_true rfl⟩ k_108 rfl (Nat.le_of_ble_eq_true rfl) dX7_sort_56 (c_X7_found l w (-1 : Int32) S) ?_
        exact j_iret (y := I_X7_sort) rfl dX7_sort_59 rfl
      · refine j_iload (y := I_X7_sort) 4 dX7_sort_32 rfl ?_
        refine j_iconst (y := I_X7_sort) (v := 1) dX7_sort_34 (by decide) ?_
        refine j_bipush (y := I_X7_sort) (v := 60) dX7_sort_35 (by decide) ?_
        refine j_callSzT (y := I_X7_sort) (As := [.int x4, .int (1 : Int32), .int (60 : Int32)]) cv_7_64 ⟨Nat.le_of_ble_eq_true rfl, Nat.le_of_ble_eq_true rfl⟩ rfl (Nat.le_of_ble_eq_true rfl) dX7_sort_37 (c_X7_in l w x4 (1 : Int32) (60 : Int32) S) ?_
        refine j_if_eqB (y := I_X7_sort) 54 dX7_sort_40 (by decide) (fun h40 => ?_) (fun h40 => ?_)
        · refine j_aload_n (y := I_X7_sort) 0 dX7_sort_54 rfl rfl ?_
          refine j_iconst (y := I_X7_sort) (v := -1) dX7_sort_55 (by decide) ?_
          refine j_callViT (y := I_X7_sort) (As := [.int (-1 : Int32)]) cv_7_72 ⟨Nat.le_of_ble_eq_true rfl, Nat.le_of_ble_eq_true rfl⟩ k_108 rfl (Nat.le_of_ble_eq_true rfl) dX7_sort_56 (c_X7_found l w (-1 : Int32) S) ?_
          exact j_iret (y := I_X7_sort) rfl dX7_sort_59 rfl
        · refine j_iload (y := I_X7_sort) 5 dX7_sort_43 rfl ?_
          refine j_iconst (y := I_X7_sort) (v := 0) dX7_sort_45 (by decide) ?_
          refine j_bipush (y := I_X7_sort) (v := 9) dX7_sort_46 (by decide) ?_
          refine j_callSzT (y := I_X7_sort) (As := [.int x5, .int (0 : Int32), .int (9 : Int32)]) cv_7_64 ⟨Nat.le_of_ble_eq_true rfl, Nat.le_of_ble_eq_true rfl⟩ rfl (Nat.le_of_ble_eq_true rfl) dX7_sort_48 (c_X7_in l w x5 (0 : Int32) (9 : Int32) S) ?_
          refine j_if_neB (y := I_X7_sort) 60 dX7_sort_51 (by decide) (fun h51 => ?_) (fun h51 => ?_)
          · refine j_aload_n (y := I_X7_sort) 0 dX7_sort_60 rfl rfl ?_
            refine j_getR (y := I_X7_sort) (j := 109) fl_7_7 k_108 rfl rfl dX7_sort_61 ?_
            refine j_sipush (y := I_X7_sort) (v := 782) dX7_sort_64 (by decide) ?_
            refine j_ialdL (y := I_X7_sort) k_109 (by decide) dX7_sort_67 ?_
            refine j_istore (y := I_X7_sort) (ls' := [(6, .int (rd S 109 (ix (782 : Int32)))), (0, .ref (w.2.1 + 108)), (1, .int x1), (2, .int x2), (3, .int x3), (4, .int x4), (5, .int x5)]) dX7_sort_68 (by decide) rfl ?_
            refine j_iload (y := I_X7_sort) 0 dX7_sort_70 rfl ?_
            refine j_bipush (y := I_X7_sort) (v := 6) dX7_sort_72 (by decide) ?_
            refine j_icmp_ne (y := I_X7_sort) 84 dX7_sort_74 (by decide) (fun h74 => ?_) (fun h74 => ?_)
            · refine j_aload_n (y := I_X7_sort) 1 dX7_sort_84 rfl rfl ?_
              refine j_getR (y := I_X7_sort) (j := 109) fl_7_7 k_108 rfl rfl dX7_sort_85 ?_
              refine j_iconst (y := I_X7_sort) (v := 0) dX7_sort_88 (by decide) ?_
              refine j_iconst (y := I_X7_sort) (v := 5) dX7_sort_89 (by decide) ?_
              refine j_iload (y := I_X7_sort) 0 dX7_sort_90 rfl ?_
              refine j_imul (y := I_X7_sort) dX7_sort_92 ?_
              refine j_iadd (y := I_X7_sort) dX7_sort_93 ?_
              refine j_iload_n (y := I_X7_sort) 2 dX7_sort_94 rfl rfl ?_
              refine j_iast (y := I_X7_sort) k_109 dX7_sort_95 (fun h95 => ?_)
              refine j_aload_n (y := I_X7_sort) 1 dX7_sort_96 rfl rfl ?_
              refine j_getR (y := I_X7_sort) (j := 109) fl_7_7 k_108 rfl rfl dX7_sort_97 ?_
              refine j_iconst (y := I_X7_sort) (v := 0) dX7_sort_100 (by decide) ?_
              refine j_iconst (y := I_X7_sort) (v := 5) dX7_sort_101 (by decide) ?_
              refine j_iload (y := I_X7_sort) 0 dX7_sort_102 rfl ?_
              refine j_imul (y := I_X7_sort) dX7_sort_104 ?_
              refine j_iadd (y := I_X7_sort) dX7_sort_105 ?_
              refine j_iconst (y := I_X7_sort) (v := 1) dX7_sort_106 (by decide) ?_
              refine j_iadd (y := I_X7_sort) dX7_sort_107 ?_
              refine j_iload_n (y := I_X7_sort) 3 dX7_sort_108 rfl rfl ?_
              refine j_iast (y := I_X7_sort) k_109 dX7_sort_109 (fun h109 => ?_)
              refine j_aload_n (y := I_X7_sort) 1 dX7_sort_110 rfl rfl ?_
              refine j_getR (y := I_X7_sort) (j := 109) fl_7_7 k_108 rfl rfl dX7_sort_111 ?_
              refine j_iconst (y := I_X7_sort) (v := 0) dX7_sort_114 (by decide) ?_
              refine j_iconst (y := I_X7_sort) (v := 5) dX7_sort_115 (by decide) ?_
              refine j_iload (y := I_X7_sort) 0 dX7_sort_116 rfl ?_
              refine j_imul (y := I_X7_sort) dX7_sort_118 ?_
              refine j_iadd (y := I_X7_sort) dX7_sort_119 ?_
              refine j_iconst (y := I_X7_sort) (v := 2) dX7_sort_120 (by decide) ?_
              refine j_iadd (y := I_X7_sort) dX7_sort_121 ?_
              refine j_iload_n (y := I_X7_sort) 4 dX7_sort_122 rfl rfl ?_
              refine j_iast (y := I_X7_sort) k_109 dX7_sort_123 (fun h123 => ?_)
              refine j_aload_n (y := I_X7_sort) 1 dX7_sort_124 rfl rfl ?_
              refine j_getR (y := I_X7_sort) (j := 109) fl_7_7 k_108 rfl rfl dX7_sort_125 ?_
              refine j_iconst (y := I_X7_sort) (v := 0) dX7_sort_128 (by decide) ?_
              refine j_iconst (y := I_X7_sort) (v := 5) dX7_sort_129 (by decide) ?_
              refine j_iload (y := I_X7_sort) 0 dX7_sort_130 rfl ?_
              refine j_imul (y := I_X7_sort) dX7_sort_132 ?_
              refine j_iadd (y := I_X7_sort) dX7_sort_133 ?_
              refine j_iconst (y := I_X7_sort) (v := 3) dX7_sort_134 (by decide) ?_
              refine j_iadd (y := I_X7_sort) dX7_sort_135 ?_
              refine j_iload (y := I_X7_sort) 5 dX7_sort_136 rfl ?_
              refine j_iast (y := I_X7_sort) k_109 dX7_sort_138 (fun h138 => ?_)
              refine j_aload_n (y := I_X7_sort) 1 dX7_sort_139 rfl rfl ?_
              refine j_getR (y := I_X7_sort) (j := 109) fl_7_7 k_108 rfl rfl dX7_sort_140 ?_
              refine j_iconst (y := I_X7_sort) (v := 0) dX7_sort_143 (by decide) ?_
              refine j_iconst (y := I_X7_sort) (v := 5) dX7_sort_144 (by decide) ?_
              refine j_iload (y := I_X7_sort) 0 dX7_sort_145 rfl ?_
              refine j_imul (y := I_X7_sort) dX7_sort_147 ?_
              refine j_iadd (y := I_X7_sort) dX7_sort_148 ?_
              refine j_iconst (y := I_X7_sort) (v := 4) dX7_sort_149 (by decide) ?_
              refine j_iadd (y := I_X7_sort) dX7_sort_150 ?_
              refine j_iload (y := I_X7_sort) 6 dX7_sort_151 rfl ?_
              refine j_iast (y := I_X7_sort) k_109 dX7_sort_153 (fun h153 => ?_)
              refine j_aload_n (y := I_X7_sort) 1 dX7_sort_154 rfl rfl ?_
              refine j_getR (y := I_X7_sort) (j := 109) fl_7_7 k_108 rfl rfl dX7_sort_155 ?_
              refine j_sipush (y := I_X7_sort) (v := 782) dX7_sort_158 (by decide) ?_
              refine j_dup2 (y := I_X7_sort) dX7_sort_161 rfl rfl ?_
              refine j_ialdL (y := I_X7_sort) k_109 (by decide) dX7_sort_162 ?_
              refine j_iconst (y := I_X7_sort) (v := 1) dX7_sort_163 (by decide) ?_
              refine j_iadd (y := I_X7_sort) dX7_sort_164 ?_
              refine j_iastL (y := I_X7_sort) k_109 (by decide) dX7_sort_165 ?_
              refine j_aload_n (y := I_X7_sort) 1 dX7_sort_166 rfl rfl ?_
              refine j_iconst (y := I_X7_sort) (v := 0) dX7_sort_167 (by decide) ?_
              refine j_putI (y := I_X7_sort) fp_7_76 k_108 rfl rfl rfl dX7_sort_168 ?_
              refine j_iload (y := I_X7_sort) 0 dX7_sort_171 rfl ?_
              exact j_iret (y := I_X7_sort) rfl dX7_sort_173 rfl
            · refine j_aload_n (y := I_X7_sort) 1 dX7_sort_77 rfl rfl ?_
              refine j_bipush (y := I_X7_sort) (v := -5) dX7_sort_78 (by decide) ?_
              refine j_callViT (y := I_X7_sort) (As := [.int (-5 : Int32)]) cv_7_72 ⟨Nat.le_of_ble_eq_true rfl, Nat.le_of_ble_eq_true rfl⟩ k_108 rfl (Nat.le_of_ble_eq_true rfl) dX7_sort_80 (c_X7_found l w (-5 : Int32) S) ?_
              exact j_iret (y := I_X7_sort) rfl dX7_sort_83 rfl
          · refine j_aload_n (y := I_X7_sort) 0 dX7_sort_54 rfl rfl ?_
            refine j_iconst (y := I_X7_sort) (v := -1) dX7_sort_55 (by decide) ?_
            refine j_callViT (y := I_X7_sort) (As := [.int (-1 : Int32)]) cv_7_72 ⟨Nat.le_of_ble_eq_true rfl, Nat.le_of_ble_eq_true rfl⟩ k_108 rfl (Nat.le_of_ble_eq_true rfl) dX7_sort_56 (c_X7_found l w (-1 : Int32) S) ?_
            exact j_iret (y := I_X7_sort) rfl dX7_sort_59 rfl
theorem c_X7_sort (l : Launch) (w : Wd) (x1 : Int32) (x2 : Int32) (x3 : Int32) (x4 : Int32) (x5 : Int32) (S : St)  : ∀ v, f_X7_sort x1 x2 x3 x4 x5 S = some v → CtS l w I_X7_sort [.ref (w.2.1 + 108), .int x1, .int x2, .int x3, .int x4, .int x5] S v.2 (some (.int v.1)) := fun v h => J.ct (av := [.ref (w.2.1 + 108), .int x1, .int x2, .int x3, .int x4, .int x5]) (Nat.le_of_ble_eq_true rfl) pn_7 (m_X7_sort l w x1 x2 x3 x4 x5 S ) h
abbrev I_X7_store : MI := (yX7_store, cX7_store, 2, some .int, { frames := 2, cells := 0, slots := 0, locals := 43 })
theorem dX7_store_0 : decode cX7_store 0 = .ok (.aload_n 0, 1) := by decide +kernel
theorem dX7_store_1 : decode cX7_store 1 = .ok (.iload_n 1, 1) := by decide +kernel
theorem dX7_store_2 : decode cX7_store 2 = .ok (.invokevirtual 80, 3) := by decide +kernel
theorem dX7_store_5 : decode cX7_store 5 = .ok (.ifCond .eq 11, 3) := by decide +kernel
theorem dX7_store_8 : decode cX7_store 8 = .ok (.aload_n 0, 1) := by decide +kernel
theorem dX7_store_9 : decode cX7_store 9 = .ok (.iload_n 1, 1) := by decide +kernel
theorem dX7_store_10 : decode cX7_store 10 = .ok (.invokevirtual 169, 3) := by decide +kernel
theorem dX7_store_13 : decode cX7_store 13 = .ok (.goto 8, 3) := by decide +kernel
theorem dX7_store_16 : decode cX7_store 16 = .ok (.aload_n 0, 1) := by decide +kernel
theorem dX7_store_17 : decode cX7_store 17 = .ok (.iconst (-1), 1) := by decide +kernel
theorem dX7_store_18 : decode cX7_store 18 = .ok (.invokevirtual 72, 3) := by decide +kernel
theorem dX7_store_21 : decode cX7_store 21 = .ok (.ireturn, 1) := by decide +kernel
def f_X7_store (x1 : Int32) (S : St) : Option (Int32 × St) := (f_X7_isSort x1 S).bind fun v2 => (if v2 = true then ((f_X7_inStore x1 S).bind fun v10 => (some (v10, S))) else (some (((f_X7_found (-1 : Int32) S).1), (f_X7_found (-1 : Int32) S).2)))
set_option maxRecDepth 100000 in
set_option maxHeartbeats 4000000 in
theorem m_X7_store (l : Launch) (w : Wd) (x1 : Int32) (S : St)  : J l w I_X7_store 0 [(0, .ref (w.2.1 + 108)), (1, .int x1)] [] S (fun b => (some (.int b.1), b.2)) (f_X7_store x1 S) := by
  unfold f_X7_store
  refine j_aload_n (y := I_X7_store) 0 dX7_store_0 rfl rfl ?_
  refine j_iload_n (y := I_X7_store) 1 dX7_store_1 rfl rfl ?_
  refine j_callVzR (y := I_X7_store) (As := [.int x1]) cv_7_80 ⟨Nat.le_of_ble_eq_true rfl, Nat.le_of_ble_eq_true rfl⟩ k_108 rfl (Nat.le_of_ble_eq_true rfl) dX7_store_2 (c_X7_isSort l w x1 S) (fun v2 h2 => ?_)
  refine j_if_eqB (y := I_X7_store) 16 dX7_store_5 (by decide) (fun h5 => ?_) (fun h5 => ?_)
  · refine j_aload_n (y := I_X7_store) 0 dX7_store_16 rfl rfl ?_
    refine j_iconst (y := I_X7_store) (v := -1) dX7_store_17 (by decide) ?_
    refine j_callViT (y := I_X7_store) (As := [.int (-1 : Int32)]) cv_7_72 ⟨Nat.le_of_ble_eq_true rfl, Nat.le_of_ble_eq_true rfl⟩ k_108 rfl (Nat.le_of_ble_eq_true rfl) dX7_store_18 (c_X7_found l w (-1 : Int32) S) ?_
    exact j_iret (y := I_X7_store) rfl dX7_store_21 rfl
  · refine j_aload_n (y := I_X7_store) 0 dX7_store_8 rfl rfl ?_
    refine j_iload_n (y := I_X7_store) 1 dX7_store_9 rfl rfl ?_
    refine j_callViR (y := I_X7_store) (As := [.int x1]) cv_7_169 ⟨Nat.le_of_ble_eq_true rfl, Nat.le_of_ble_eq_true rfl⟩ k_108 rfl (Nat.le_of_ble_eq_true rfl) dX7_store_10 (c_X7_inStore l w x1 S) (fun v10 h10 => ?_)
    refine j_goto (y := I_X7_store) 21 dX7_store_13 (by decide) ?_
    exact j_iret (y := I_X7_store) rfl dX7_store_21 rfl
theorem c_X7_store (l : Launch) (w : Wd) (x1 : Int32) (S : St)  : ∀ v, f_X7_store x1 S = some v → CtS l w I_X7_store [.ref (w.2.1 + 108), .int x1] S v.2 (some (.int v.1)) := fun v h => J.ct (av := [.ref (w.2.1 + 108), .int x1]) (Nat.le_of_ble_eq_true rfl) pn_7 (m_X7_store l w x1 S ) h
abbrev I_X7_sum : MI := (yX7_sum, cX7_sum, 4, some .int, { frames := 4, cells := 0, slots := 0, locals := 93 })
theorem dX7_sum_0 : decode cX7_sum 0 = .ok (.iload_n 1, 1) := by decide +kernel
theorem dX7_sum_1 : decode cX7_sum 1 = .ok (.invokestatic 127, 3) := by decide +kernel
theorem dX7_sum_4 : decode cX7_sum 4 = .ok (.ifCond .ne 9, 3) := by decide +kernel
theorem dX7_sum_7 : decode cX7_sum 7 = .ok (.aload_n 0, 1) := by decide +kernel
theorem dX7_sum_8 : decode cX7_sum 8 = .ok (.iconst (-1), 1) := by decide +kernel
theorem dX7_sum_9 : decode cX7_sum 9 = .ok (.invokevirtual 72, 3) := by decide +kernel
theorem dX7_sum_12 : decode cX7_sum 12 = .ok (.ireturn, 1) := by decide +kernel
theorem dX7_sum_13 : decode cX7_sum 13 = .ok (.iconst 0, 1) := by decide +kernel
theorem dX7_sum_14 : decode cX7_sum 14 = .ok (.istore_n 2, 1) := by decide +kernel
theorem dX7_sum_15 : decode cX7_sum 15 = .ok (.iconst 0, 1) := by decide +kernel
theorem dX7_sum_16 : decode cX7_sum 16 = .ok (.istore_n 3, 1) := by decide +kernel
theorem dX7_sum_17 : decode cX7_sum 17 = .ok (.iload_n 3, 1) := by decide +kernel
theorem dX7_sum_18 : decode cX7_sum 18 = .ok (.iload_n 1, 1) := by decide +kernel
theorem dX7_sum_19 : decode cX7_sum 19 = .ok (.if_icmp .gt 17, 3) := by decide +kernel
theorem dX7_sum_22 : decode cX7_sum 22 = .ok (.iload_n 2, 1) := by decide +kernel
theorem dX7_sum_23 : decode cX7_sum 23 = .ok (.aload_n 0, 1) := by decide +kernel
theorem dX7_sum_24 : decode cX7_sum 24 = .ok (.iload_n 3, 1) := by decide +kernel
theorem dX7_sum_25 : decode cX7_sum 25 = .ok (.invokevirtual 130, 3) := by decide +kernel
theorem dX7_sum_28 : decode cX7_sum 28 = .ok (.iadd, 1) := by decide +kernel
theorem dX7_sum_29 : decode cX7_sum 29 = .ok (.istore_n 2, 1) := by decide +kernel
theorem dX7_sum_30 : decode cX7_sum 30 = .ok (.iinc 3 1, 3) := by decide +kernel
theorem dX7_sum_33 : decode cX7_sum 33 = .ok (.goto (-16), 3) := by decide +kernel
theorem dX7_sum_36 : decode cX7_sum 36 = .ok (.iload_n 2, 1) := by decide +kernel
theorem dX7_sum_37 : decode cX7_sum 37 = .ok (.ireturn, 1) := by decide +kernel
def f_X7_sum_L17 (fuel : Nat) (K : Int32 → St → Option (Int32 × St)) (a17_1 : Int32) (a17_2 : Int32) (a17_3 : Int32) (S17 : St) : Option (Int32 × St) := match fuel with
  | 0 => none
  | n + 1 => if a17_1 < a17_3 then (K a17_2 S17) else ((f_X7_warm a17_3 S17).bind fun v25 => (f_X7_sum_L17 n K a17_1 (a17_2 + v25) (a17_3 + (1 : Int32)) S17))
def f_X7_sum (x1 : Int32) (S : St) : Option (Int32 × St) := if (f_X7_isDay x1) = true then (f_X7_sum_L17 6000 (fun e36_2 T36 => (some (e36_2, T36))) x1 (0 : Int32) (0 : Int32) S) else (some (((f_X7_found (-1 : Int32) S).1), (f_X7_found (-1 : Int32) S).2))
set_option maxRecDepth 100000 in
theorem jl_X7_sum_17 (l : Launch) (w : Wd) (K : Int32 → St → Option (Int32 × St)) (n : Nat) : ∀ (a17_1 : Int32) (a17_2 : Int32) (a17_3 : Int32) (S17 : St), (∀ (e36_2 : Int32) (S' : St) , J l w I_X7_sum 36 [(2, .int e36_2)] [] S' (fun b => (some (.int b.1), b.2)) (K e36_2 S')) → J l w I_X7_sum 17 [(0, .ref (w.2.1 + 108)), (1, .int a17_1), (2, .int a17_2), (3, .int a17_3)] [] S17 (fun b => (some (.int b.1), b.2)) (f_X7_sum_L17 n K a17_1 a17_2 a17_3 S17) := by
  induction n with
  | zero =>
    intro a17_1 a17_2 a17_3 S17 hK b h
    simp only [f_X7_sum_L17] at h
    cases h
  | succ n ih =>
    intro a17_1 a17_2 a17_3 S17 hK
    rw [f_X7_sum_L17]
    refine j_iload_n (y := I_X7_sum) 3 dX7_sum_17 rfl rfl ?_
    refine j_iload_n (y := I_X7_sum) 1 dX7_sum_18 rfl rfl ?_
    refine j_icmp_gt (y := I_X7_sum) 36 dX7_sum_19 (by decide) (fun h19 => ?_) (fun h19 => ?_)
    · refine j_sub [2] rfl ?_
      exact hK a17_2 S17
    · refine j_iload_n (y := I_X7_sum) 2 dX7_sum_22 rfl rfl ?_
      refine j_aload_n (y := I_X7_sum) 0 dX7_sum_23 rfl rfl ?_
      refine j_iload_n (y := I_X7_sum) 3 dX7_sum_24 rfl rfl ?_
      refine j_callViR (y := I_X7_sum) (As := [.int a17_3]) cv_7_130 ⟨Nat.le_of_ble_eq_true rfl, Nat.le_of_ble_eq_true rfl⟩ k_108 rfl (Nat.le_of_ble_eq_true rfl) dX7_sum_25 (c_X7_warm l w a17_3 S17) (fun v25 h25 => ?_)
      refine j_iadd (y := I_X7_sum) dX7_sum_28 ?_
      refine j_istore_n (y := I_X7_sum) (ls' := [(2, .int (a17_2 + v25)), (0, .ref (w.2.1 + 108)), (1, .int a17_1), (3, .int a17_3)]) dX7_sum_29 rfl (by decide) rfl ?_
      refine j_iinc (y := I_X7_sum) 3 (ls' := [(3, .int (a17_3 + (1 : Int32))), (2, .int (a17_2 + v25)), (0, .ref (w.2.1 + 108)), (1, .int a17_1)]) dX7_sum_30 rfl (ii _ _ (by decide) _) (by decide) rfl ?_
      refine j_goto (y := I_X7_sum) 17 dX7_sum_33 (by decide) ?_
      refine j_sub [2, 3, 1, 0] rfl ?_
      exact ih a17_1 (a17_2 + v25) (a17_3 + (1 : Int32)) S17 hK
set_option maxRecDepth 100000 in
set_option maxHeartbeats 4000000 in
theorem m_X7_sum (l : Launch) (w : Wd) (x1 : Int32) (S : St)  : J l w I_X7_sum 0 [(0, .ref (w.2.1 + 108)), (1, .int x1)] [] S (fun b => (some (.int b.1), b.2)) (f_X7_sum x1 S) := by
  unfold f_X7_sum
  refine j_iload_n (y := I_X7_sum) 1 dX7_sum_0 rfl rfl ?_
  refine j_callSzT (y := I_X7_sum) (As := [.int x1]) cv_7_127 ⟨Nat.le_of_ble_eq_true rfl, Nat.le_of_ble_eq_true rfl⟩ rfl (Nat.le_of_ble_eq_true rfl) dX7_sum_1 (c_X7_isDay l w x1 S) ?_
  refine j_if_neB (y := I_X7_sum) 13 dX7_sum_4 (by decide) (fun h4 => ?_) (fun h4 => ?_)
  · refine j_iconst (y := I_X7_sum) (v := 0) dX7_sum_13 (by decide) ?_
    refine j_istore_n (y := I_X7_sum) (ls' := [(2, .int (0 : Int32)), (0, .ref (w.2.1 + 108)), (1, .int x1)]) dX7_sum_14 rfl (by decide) rfl ?_
    refine j_iconst (y := I_X7_sum) (v := 0) dX7_sum_15 (by decide) ?_
    refine j_istore_n (y := I_X7_sum) (ls' := [(3, .int (0 : Int32)), (2, .int (0 : Int32)), (0, .ref (w.2.1 + 108)), (1, .int x1)]) dX7_sum_16 rfl (by decide) rfl ?_
    refine j_sub [2, 3, 1, 0] rfl ?_
    refine jl_X7_sum_17 l w _ 6000 x1 (0 : Int32) (0 : Int32) S  (fun e36_2 T36 => ?_)
    refine j_iload_n (y := I_X7_sum) 0 dX7_sum_36 rfl rfl ?_
    exact j_iret (y := I_X7_sum) rfl dX7_sum_37 rfl
  · refine j_aload_n (y := I_X7_sum) 0 dX7_sum_7 rfl rfl ?_
    refine j_iconst (y := I_X7_sum) (v := -1) dX7_sum_8 (by decide) ?_
    refine j_callViT (y := I_X7_sum) (As := [.int (-1 : Int32)]) cv_7_72 ⟨Nat.le_of_ble_eq_true rfl, Nat.le_of_ble_eq_true rfl⟩ k_108 rfl (Nat.le_of_ble_eq_true rfl) dX7_sum_9 (c_X7_found l w (-1 : Int32) S) ?_
    exact j_iret (y := I_X7_sum) rfl dX7_sum_12 rfl
theorem c_X7_sum (l : Launch) (w : Wd) (x1 : Int32) (S : St)  : ∀ v, f_X7_sum x1 S = some v → CtS l w I_X7_sum [.ref (w.2.1 + 108), .int x1] S v.2 (some (.int v.1)) := fun v h => J.ct (av := [.ref (w.2.1 + 108), .int x1]) (Nat.le_of_ble_eq_true rfl) pn_7 (m_X7_sum l w x1 S ) h
abbrev I_X7_take : MI := (yX7_take, cX7_take, 8, some .int, { frames := 2, cells := 0, slots := 0, locals := 43 })
theorem dX7_take_0 : decode cX7_take 0 = .ok (.aload_n 0, 1) := by decide +kernel
theorem dX7_take_1 : decode cX7_take 1 = .ok (.iload_n 1, 1) := by decide +kernel
theorem dX7_take_2 : decode cX7_take 2 = .ok (.invokevirtual 80, 3) := by decide +kernel
theorem dX7_take_5 : decode cX7_take 5 = .ok (.ifCond .eq 7, 3) := by decide +kernel
theorem dX7_take_8 : decode cX7_take 8 = .ok (.iload_n 2, 1) := by decide +kernel
theorem dX7_take_9 : decode cX7_take 9 = .ok (.ifCond .ge 9, 3) := by decide +kernel
theorem dX7_take_12 : decode cX7_take 12 = .ok (.aload_n 0, 1) := by decide +kernel
theorem dX7_take_13 : decode cX7_take 13 = .ok (.iconst (-1), 1) := by decide +kernel
theorem dX7_take_14 : decode cX7_take 14 = .ok (.invokevirtual 72, 3) := by decide +kernel
theorem dX7_take_17 : decode cX7_take 17 = .ok (.ireturn, 1) := by decide +kernel
theorem dX7_take_18 : decode cX7_take 18 = .ok (.bipush 64, 2) := by decide +kernel
theorem dX7_take_20 : decode cX7_take 20 = .ok (.bipush 50, 2) := by decide +kernel
theorem dX7_take_22 : decode cX7_take 22 = .ok (.aload_n 0, 1) := by decide +kernel
theorem dX7_take_23 : decode cX7_take 23 = .ok (.getfield 7, 3) := by decide +kernel
theorem dX7_take_26 : decode cX7_take 26 = .ok (.sipush 784, 3) := by decide +kernel
theorem dX7_take_29 : decode cX7_take 29 = .ok (.iaload, 1) := by decide +kernel
theorem dX7_take_30 : decode cX7_take 30 = .ok (.imul, 1) := by decide +kernel
theorem dX7_take_31 : decode cX7_take 31 = .ok (.iadd, 1) := by decide +kernel
theorem dX7_take_32 : decode cX7_take 32 = .ok (.aload_n 0, 1) := by decide +kernel
theorem dX7_take_33 : decode cX7_take 33 = .ok (.getfield 7, 3) := by decide +kernel
theorem dX7_take_36 : decode cX7_take 36 = .ok (.sipush 785, 3) := by decide +kernel
theorem dX7_take_39 : decode cX7_take 39 = .ok (.iaload, 1) := by decide +kernel
theorem dX7_take_40 : decode cX7_take 40 = .ok (.iadd, 1) := by decide +kernel
theorem dX7_take_41 : decode cX7_take 41 = .ok (.istore_n 3, 1) := by decide +kernel
theorem dX7_take_42 : decode cX7_take 42 = .ok (.iload_n 2, 1) := by decide +kernel
theorem dX7_take_43 : decode cX7_take 43 = .ok (.istore 4, 2) := by decide +kernel
theorem dX7_take_45 : decode cX7_take 45 = .ok (.iload_n 3, 1) := by decide +kernel
theorem dX7_take_46 : decode cX7_take 46 = .ok (.bipush 64, 2) := by decide +kernel
theorem dX7_take_48 : decode cX7_take 48 = .ok (.isub, 1) := by decide +kernel
theorem dX7_take_49 : decode cX7_take 49 = .ok (.istore 5, 2) := by decide +kernel
theorem dX7_take_51 : decode cX7_take 51 = .ok (.iload 5, 2) := by decide +kernel
theorem dX7_take_53 : decode cX7_take 53 = .ok (.iload_n 3, 1) := by decide +kernel
theorem dX7_take_54 : decode cX7_take 54 = .ok (.if_icmp .ge 62, 3) := by decide +kernel
theorem dX7_take_57 : decode cX7_take 57 = .ok (.iload_n 1, 1) := by decide +kernel
theorem dX7_take_58 : decode cX7_take 58 = .ok (.iload 5, 2) := by decide +kernel
theorem dX7_take_60 : decode cX7_take 60 = .ok (.invokestatic 172, 3) := by decide +kernel
theorem dX7_take_63 : decode cX7_take 63 = .ok (.istore 6, 2) := by decide +kernel
theorem dX7_take_65 : decode cX7_take 65 = .ok (.aload_n 0, 1) := by decide +kernel
theorem dX7_take_66 : decode cX7_take 66 = .ok (.getfield 7, 3) := by decide +kernel
theorem dX7_take_69 : decode cX7_take 69 = .ok (.iload 6, 2) := by decide +kernel
theorem dX7_take_71 : decode cX7_take 71 = .ok (.iaload, 1) := by decide +kernel
theorem dX7_take_72 : decode cX7_take 72 = .ok (.iload 4, 2) := by decide +kernel
theorem dX7_take_74 : decode cX7_take 74 = .ok (.if_icmp .ge 13, 3) := by decide +kernel
theorem dX7_take_77 : decode cX7_take 77 = .ok (.aload_n 0, 1) := by decide +kernel
theorem dX7_take_78 : decode cX7_take 78 = .ok (.getfield 7, 3) := by decide +kernel
theorem dX7_take_81 : decode cX7_take 81 = .ok (.iload 6, 2) := by decide +kernel
theorem dX7_take_83 : decode cX7_take 83 = .ok (.iaload, 1) := by decide +kernel
theorem dX7_take_84 : decode cX7_take 84 = .ok (.goto 5, 3) := by decide +kernel
theorem dX7_take_87 : decode cX7_take 87 = .ok (.iload 4, 2) := by decide +kernel
theorem dX7_take_89 : decode cX7_take 89 = .ok (.istore 7, 2) := by decide +kernel
theorem dX7_take_91 : decode cX7_take 91 = .ok (.aload_n 0, 1) := by decide +kernel
theorem dX7_take_92 : decode cX7_take 92 = .ok (.getfield 7, 3) := by decide +kernel
theorem dX7_take_95 : decode cX7_take 95 = .ok (.iload 6, 2) := by decide +kernel
theorem dX7_take_97 : decode cX7_take 97 = .ok (.dup2, 1) := by decide +kernel
theorem dX7_take_98 : decode cX7_take 98 = .ok (.iaload, 1) := by decide +kernel
theorem dX7_take_99 : decode cX7_take 99 = .ok (.iload 7, 2) := by decide +kernel
theorem dX7_take_101 : decode cX7_take 101 = .ok (.isub, 1) := by decide +kernel
theorem dX7_take_102 : decode cX7_take 102 = .ok (.iastore, 1) := by decide +kernel
theorem dX7_take_103 : decode cX7_take 103 = .ok (.iload 4, 2) := by decide +kernel
theorem dX7_take_105 : decode cX7_take 105 = .ok (.iload 7, 2) := by decide +kernel
theorem dX7_take_107 : decode cX7_take 107 = .ok (.isub, 1) := by decide +kernel
theorem dX7_take_108 : decode cX7_take 108 = .ok (.istore 4, 2) := by decide +kernel
theorem dX7_take_110 : decode cX7_take 110 = .ok (.iinc 5 1, 3) := by decide +kernel
theorem dX7_take_113 : decode cX7_take 113 = .ok (.goto (-62), 3) := by decide +kernel
theorem dX7_take_116 : decode cX7_take 116 = .ok (.aload_n 0, 1) := by decide +kernel
theorem dX7_take_117 : decode cX7_take 117 = .ok (.getfield 16, 3) := by decide +kernel
theorem dX7_take_120 : decode cX7_take 120 = .ok (.bipush 8, 2) := by decide +kernel
theorem dX7_take_122 : decode cX7_take 122 = .ok (.dup2, 1) := by decide +kernel
theorem dX7_take_123 : decode cX7_take 123 = .ok (.laload, 1) := by decide +kernel
theorem dX7_take_124 : decode cX7_take 124 = .ok (.iload_n 2, 1) := by decide +kernel
theorem dX7_take_125 : decode cX7_take 125 = .ok (.iload 4, 2) := by decide +kernel
theorem dX7_take_127 : decode cX7_take 127 = .ok (.isub, 1) := by decide +kernel
theorem dX7_take_128 : decode cX7_take 128 = .ok (.i2l, 1) := by decide +kernel
theorem dX7_take_129 : decode cX7_take 129 = .ok (.ladd, 1) := by decide +kernel
theorem dX7_take_130 : decode cX7_take 130 = .ok (.lastore, 1) := by decide +kernel
theorem dX7_take_131 : decode cX7_take 131 = .ok (.iload_n 2, 1) := by decide +kernel
theorem dX7_take_132 : decode cX7_take 132 = .ok (.iload 4, 2) := by decide +kernel
theorem dX7_take_134 : decode cX7_take 134 = .ok (.isub, 1) := by decide +kernel
theorem dX7_take_135 : decode cX7_take 135 = .ok (.ireturn, 1) := by decide +kernel
def f_X7_take_L51 (fuel : Nat) (K : Int32 → Int32 → St → Option (Int32 × St)) (a51_1 : Int32) (a51_2 : Int32) (a51_3 : Int32) (a51_4 : Int32) (a51_5 : Int32) (S51 : St) : Option (Int32 × St) := match fuel with
  | 0 => none
  | n + 1 => if a51_5 < a51_3 then (if inb (f_X7_cell a51_1 a51_5) 788 = true then (if (rd S51 109 (ix (f_X7_cell a51_1 a51_5))) < a51_4 then (if inb (f_X7_cell a51_1 a51_5) 788 = true then (if inb (f_X7_cell a51_1 a51_5) 788 = true then (if inb (f_X7_cell a51_1 a51_5) 788 = true then (f_X7_take_L51 n K a51_1 a51_2 a51_3 (a51_4 - (rd S51 109 (ix (f_X7_cell a51_1 a51_5)))) (a51_5 + (1 : Int32)) (wr S51 109 (ix (f_X7_cell a51_1 a51_5)) ((rd S51 109 (ix (f_X7_cell a51_1 a51_5))) - (rd S51 109 (ix (f_X7_cell a51_1 a51_5)))))) else none) else none) else none) else (if inb (f_X7_cell a51_1 a51_5) 788 = true then (if inb (f_X7_cell a51_1 a51_5) 788 = true then (f_X7_take_L51 n K a51_1 a51_2 a51_3 (a51_4 - a51_4) (a51_5 + (1 : Int32)) (wr S51 109 (ix (f_X7_cell a51_1 a51_5)) ((rd S51 109 (ix (f_X7_cell a51_1 a51_5))) - a51_4))) else none) else none)) else none) else (K a51_2 a51_4 S51)
def f_X7_take (x1 : Int32) (x2 : Int32) (S : St) : Option (Int32 × St) := (f_X7_isSort x1 S).bind fun v2 => (if v2 = true then (if x2 < 0 then (some (((f_X7_found (-1 : Int32) S).1), (f_X7_found (-1 : Int32) S).2)) else (f_X7_take_L51 6000 (fun e116_2 e116_4 T116 => (some ((e116_2 - e116_4), (wrL T116 111 (ix (8 : Int32)) ((rdL T116 111 (ix (8 : Int32))) + ((e116_2 - e116_4).toInt64)))))) x1 x2 (((64 : Int32) + ((50 : Int32) * (rd S 109 (ix (784 : Int32))))) + (rd S 109 (ix (785 : Int32)))) x2 ((((64 : Int32) + ((50 : Int32) * (rd S 109 (ix (784 : Int32))))) + (rd S 109 (ix (785 : Int32)))) - (64 : Int32)) S)) else (some (((f_X7_found (-1 : Int32) S).1), (f_X7_found (-1 : Int32) S).2)))
set_option maxRecDepth 100000 in
theorem jl_X7_take_51 (l : Launch) (w : Wd) (K : Int32 → Int32 → St → Option (Int32 × St)) (n : Nat) : ∀ (a51_1 : Int32) (a51_2 : Int32) (a51_3 : Int32) (a51_4 : Int32) (a51_5 : Int32) (S51 : St), (∀ (e116_2 : Int32) (e116_4 : Int32) (S' : St) , J l w I_X7_take 116 [(0, .ref (w.2.1 + 108)), (2, .int e116_2), (4, .int e116_4)] [] S' (fun b => (some (.int b.1), b.2)) (K e116_2 e116_4 S')) → J l w I_X7_take 51 [(0, .ref (w.2.1 + 108)), (1, .int a51_1), (2, .int a51_2), (3, .int a51_3), (4, .int a51_4), (5, .int a51_5)] [] S51 (fun b => (some (.int b.1), b.2)) (f_X7_take_L51 n K a51_1 a51_2 a51_3 a51_4 a51_5 S51) := by
  induction n with
  | zero =>
    intro a51_1 a51_2 a51_3 a51_4 a51_5 S51 hK b h
    simp only [f_X7_take_L51] at h
    cases h
  | succ n ih =>
    intro a51_1 a51_2 a51_3 a51_4 a51_5 S51 hK
    rw [f_X7_take_L51]
    refine j_iload (y := I_X7_take) 5 dX7_take_51 rfl ?_
    refine j_iload_n (y := I_X7_take) 3 dX7_take_53 rfl rfl ?_
    refine j_icmp_ge (y := I_X7_take) 116 dX7_take_54 (by decide) (fun h54 => ?_) (fun h54 => ?_)
    · refine j_sub [0, 2, 4] rfl ?_
      exact hK a51_2 a51_4 S51
    · refine j_iload_n (y := I_X7_take) 1 dX7_take_57 rfl rfl ?_
      refine j_iload (y := I_X7_take) 5 dX7_take_58 rfl ?_
      refine j_callSiT (y := I_X7_take) (As := [.int a51_1, .int a51_5]) cv_7_172 ⟨Nat.le_of_ble_eq_true rfl, Nat.le_of_ble_eq_true rfl⟩ rfl (Nat.le_of_ble_eq_true rfl) dX7_take_60 (c_X7_cell l w a51_1 a51_5 S51) ?_
      refine j_istore (y := I_X7_take) (ls' := [(6, .int (f_X7_cell a51_1 a51_5)), (0, .ref (w.2.1 + 108)), (1, .int a51_1), (2, .int a51_2), (3, .int a51_3), (4, .int a51_4), (5, .int a51_5)]) dX7_take_63 (by decide) rfl ?_
      refine j_aload_n (y := I_X7_take) 1 dX7_take_65 rfl rfl ?_
      refine j_getR (y := I_X7_take) (j := 109) fl_7_7 k_108 rfl rfl dX7_take_66 ?_
      refine j_iload (y := I_X7_take) 0 dX7_take_69 rfl ?_
      refine j_iald (y := I_X7_take) k_109 dX7_take_71 (fun h71 => ?_)
      refine j_iload (y := I_X7_take) 5 dX7_take_72 rfl ?_
      refine j_icmp_ge (y := I_X7_take) 87 dX7_take_74 (by decide) (fun h74 => ?_) (fun h74 => ?_)
      · refine j_iload (y := I_X7_take) 5 dX7_take_87 rfl ?_
        refine j_istore (y := I_X7_take) (ls' := [(7, .int a51_4), (6, .int (f_X7_cell a51_1 a51_5)), (0, .ref (w.2.1 + 108)), (1, .int a51_1), (2, .int a51_2), (3, .int a51_3), (4, .int a51_4), (5, .int a51_5)]) dX7_take_89 (by decide) rfl ?_
        refine j_aload_n (y := I_X7_take) 2 dX7_take_91 rfl rfl ?_
        refine j_getR (y := I_X7_take) (j := 109) fl_7_7 k_108 rfl rfl dX7_take_92 ?_
        refine j_iload (y := I_X7_take) 1 dX7_take_95 rfl ?_
        refine j_dup2 (y := I_X7_take) dX7_take_97 rfl rfl ?_
        refine j_iald (y := I_X7_take) k_109 dX7_take_98 (fun h98 => ?_)
        refine j_iload (y := I_X7_take) 0 dX7_take_99 rfl ?_
        refine j_isub (y := I_X7_take) dX7_take_101 ?_
        refine j_iast (y := I_X7_take) k_109 dX7_take_102 (fun h102 => ?_)
        refine j_iload (y := I_X7_take) 6 dX7_take_103 rfl ?_
        refine j_iload (y := I_X7_take) 0 dX7_take_105 rfl ?_
        refine j_isub (y := I_X7_take) dX7_take_107 ?_
        refine j_istore (y := I_X7_take) (ls' := [(4, .int (a51_4 - a51_4)), (7, .int a51_4), (6, .int (f_X7_cell a51_1 a51_5)), (0, .ref (w.2.1 + 108)), (1, .int a51_1), (2, .int a51_2), (3, .int a51_3), (5, .int a51_5)]) dX7_take_108 (by decide) rfl ?_
        refine j_iinc (y := I_X7_take) 7 (ls' := [(5, .int (a51_5 + (1 : Int32))), (4, .int (a51_4 - a51_4)), (7, .int a51_4), (6, .int (f_X7_cell a51_1 a51_5)), (0, .ref (w.2.1 + 108)), (1, .int a51_1), (2, .int a51_2), (3, .int a51_3)]) dX7_take_110 rfl (ii _ _ (by decide) _) (by decide) rfl ?_
        refine j_goto (y := I_X7_take) 51 dX7_take_113 (by decide) ?_
        refine j_sub [4, 5, 6, 7, 1, 0] rfl ?_
        exact ih a51_1 a51_2 a51_3 (a51_4 - a51_4) (a51_5 + (1 : Int32)) (wr S51 109 (ix (f_X7_cell a51_1 a51_5)) ((rd S51 109 (ix (f_X7_cell a51_1 a51_5))) - a51_4)) hK
      · refine j_aload_n (y := I_X7_take) 1 dX7_take_77 rfl rfl ?_
        refine j_getR (y := I_X7_take) (j := 109) fl_7_7 k_108 rfl rfl dX7_take_78 ?_
        refine j_iload (y := I_X7_take) 0 dX7_take_81 rfl ?_
        refine j_iald (y := I_X7_take) k_109 dX7_take_83 (fun h83 => ?_)
        refine j_goto (y := I_X7_take) 89 dX7_take_84 (by decide) ?_
        refine j_istore (y := I_X7_take) (ls' := [(7, .int (rd S51 109 (ix (f_X7_cell a51_1 a51_5)))), (6, .int (f_X7_cell a51_1 a51_5)), (0, .ref (w.2.1 + 108)), (1, .int a51_1), (2, .int a51_2), (3, .int a51_3), (4, .int a51_4), (5, .int a51_5)]) dX7_take_89 (by decide) rfl ?_
        refine j_aload_n (y := I_X7_take) 2 dX7_take_91 rfl rfl ?_
        refine j_getR (y := I_X7_take) (j := 109) fl_7_7 k_108 rfl rfl dX7_take_92 ?_
        refine j_iload (y := I_X7_take) 1 dX7_take_95 rfl ?_
        refine j_dup2 (y := I_X7_take) dX7_take_97 rfl rfl ?_
        refine j_iald (y := I_X7_take) k_109 dX7_take_98 (fun h98 => ?_)
        refine j_iload (y := I_X7_take) 0 dX7_take_99 rfl ?_
        refine j_isub (y := I_X7_take) dX7_take_101 ?_
        refine j_iast (y := I_X7_take) k_109 dX7_take_102 (fun h102 => ?_)
        refine j_iload (y := I_X7_take) 6 dX7_take_103 rfl ?_
        refine j_iload (y := I_X7_take) 0 dX7_take_105 rfl ?_
        refine j_isub (y := I_X7_take) dX7_take_107 ?_
        refine j_istore (y := I_X7_take) (ls' := [(4, .int (a51_4 - (rd S51 109 (ix (f_X7_cell a51_1 a51_5))))), (7, .int (rd S51 109 (ix (f_X7_cell a51_1 a51_5)))), (6, .int (f_X7_cell a51_1 a51_5)), (0, .ref (w.2.1 + 108)), (1, .int a51_1), (2, .int a51_2), (3, .int a51_3), (5, .int a51_5)]) dX7_take_108 (by decide) rfl ?_
        refine j_iinc (y := I_X7_take) 7 (ls' := [(5, .int (a51_5 + (1 : Int32))), (4, .int (a51_4 - (rd S51 109 (ix (f_X7_cell a51_1 a51_5))))), (7, .int (rd S51 109 (ix (f_X7_cell a51_1 a51_5)))), (6, .int (f_X7_cell a51_1 a51_5)), (0, .ref (w.2.1 + 108)), (1, .int a51_1), (2, .int a51_2), (3, .int a51_3)]) dX7_take_110 rfl (ii _ _ (by decide) _) (by decide) rfl ?_
        refine j_goto (y := I_X7_take) 51 dX7_take_113 (by decide) ?_
        refine j_sub [4, 5, 6, 7, 1, 0] rfl ?_
        exact ih a51_1 a51_2 a51_3 (a51_4 - (rd S51 109 (ix (f_X7_cell a51_1 a51_5)))) (a51_5 + (1 : Int32)) (wr S51 109 (ix (f_X7_cell a51_1 a51_5)) ((rd S51 109 (ix (f_X7_cell a51_1 a51_5))) - (rd S51 109 (ix (f_X7_cell a51_1 a51_5))))) hK
set_option maxRecDepth 100000 in
set_option maxHeartbeats 4000000 in
theorem m_X7_take (l : Launch) (w : Wd) (x1 : Int32) (x2 : Int32) (S : St)  : J l w I_X7_take 0 [(0, .ref (w.2.1 + 108)), (1, .int x1), (2, .int x2)] [] S (fun b => (some (.int b.1), b.2)) (f_X7_take x1 x2 S) := by
  unfold f_X7_take
  refine j_aload_n (y := I_X7_take) 0 dX7_take_0 rfl rfl ?_
  refine j_iload_n (y := I_X7_take) 1 dX7_take_1 rfl rfl ?_
  refine j_callVzR (y := I_X7_take) (As := [.int x1]) cv_7_80 ⟨Nat.le_of_ble_eq_true rfl, Nat.le_of_ble_eq_true rfl⟩ k_108 rfl (Nat.le_of_ble_eq_true rfl) dX7_take_2 (c_X7_isSort l w x1 S) (fun v2 h2 => ?_)
  refine j_if_eqB (y := I_X7_take) 12 dX7_take_5 (by decide) (fun h5 => ?_) (fun h5 => ?_)
  · refine j_aload_n (y := I_X7_take) 0 dX7_take_12 rfl rfl ?_
    refine j_iconst (y := I_X7_take) (v := -1) dX7_take_13 (by decide) ?_
    refine j_callViT (y := I_X7_take) (As := [.int (-1 : Int32)]) cv_7_72 ⟨Nat.le_of_ble_eq_true rfl, Nat.le_of_ble_eq_true rfl⟩ k_108 rfl (Nat.le_of_ble_eq_true rfl) dX7_take_14 (c_X7_found l w (-1 : Int32) S) ?_
    exact j_iret (y := I_X7_take) rfl dX7_take_17 rfl
  · refine j_iload_n (y := I_X7_take) 2 dX7_take_8 rfl rfl ?_
    refine j_if_ge (y := I_X7_take) 18 dX7_take_9 (by decide) (fun h9 => ?_) (fun h9 => ?_)
    · refine j_bipush (y := I_X7_take) (v := 64) dX7_take_18 (by decide) ?_
      refine j_bipush (y := I_X7_take) (v := 50) dX7_take_20 (by decide) ?_
      refine j_aload_n (y := I_X7_take) 0 dX7_take_22 rfl rfl ?_
      refine j_getR (y := I_X7_take) (j := 109) fl_7_7 k_108 rfl rfl dX7_take_23 ?_
      refine j_sipush (y := I_X7_take) (v := 784) dX7_take_26 (by decide) ?_
      refine j_ialdL (y := I_X7_take) k_109 (by decide) dX7_take_29 ?_
      refine j_imul (y := I_X7_take) dX7_take_30 ?_
      refine j_iadd (y := I_X7_take) dX7_take_31 ?_
      refine j_aload_n (y := I_X7_take) 0 dX7_take_32 rfl rfl ?_
      refine j_getR (y := I_X7_take) (j := 109) fl_7_7 k_108 rfl rfl dX7_take_33 ?_
      refine j_sipush (y := I_X7_take) (v := 785) dX7_take_36 (by decide) ?_
      refine j_ialdL (y := I_X7_take) k_109 (by decide) dX7_take_39 ?_
      refine j_iadd (y := I_X7_take) dX7_take_40 ?_
      refine j_istore_n (y := I_X7_take) (ls' := [(3, .int (((64 : Int32) + ((50 : Int32) * (rd S 109 (ix (784 : Int32))))) + (rd S 109 (ix (785 : Int32))))), (0, .ref (w.2.1 + 108)), (1, .int x1), (2, .int x2)]) dX7_take_41 rfl (by decide) rfl ?_
      refine j_iload_n (y := I_X7_take) 3 dX7_take_42 rfl rfl ?_
      refine j_istore (y := I_X7_take) (ls' := [(4, .int x2), (3, .int (((64 : Int32) + ((50 : Int32) * (rd S 109 (ix (784 : Int32))))) + (rd S 109 (ix (785 : Int32))))), (0, .ref (w.2.1 + 108)), (1, .int x1), (2, .int x2)]) dX7_take_43 (by decide) rfl ?_
      refine j_iload_n (y := I_X7_take) 1 dX7_take_45 rfl rfl ?_
      refine j_bipush (y := I_X7_take) (v := 64) dX7_take_46 (by decide) ?_
      refine j_isub (y := I_X7_take) dX7_take_48 ?_
      refine j_istore (y := I_X7_take) (ls' := [(5, .int ((((64 : Int32) + ((50 : Int32) * (rd S 109 (ix (784 : Int32))))) + (rd S 109 (ix (785 : Int32)))) - (64 : Int32))), (4, .int x2), (3, .int (((64 : Int32) + ((50 : Int32) * (rd S 109 (ix (784 : Int32))))) + (rd S 109 (ix (785 : Int32))))), (0, .ref (w.2.1 + 108)), (1, .int x1), (2, .int x2)]) dX7_take_49 (by decide) rfl ?_
      refine j_sub [3, 4, 5, 2, 1, 0] rfl ?_
      refine jl_X7_take_51 l w _ 6000 x1 x2 (((64 : Int32) + ((50 : Int32) * (rd S 109 (ix (784 : Int32))))) + (rd S 109 (ix (785 : Int32)))) x2 ((((64 : Int32) + ((50 : Int32) * (rd S 109 (ix (784 : Int32))))) + (rd S 109 (ix (785 : Int32)))) - (64 : Int32)) S  (fun e116_2 e116_4 T116 => ?_)
      refine j_aload_n (y := I_X7_take) 0 dX7_take_116 rfl rfl ?_
      refine j_getR (y := I_X7_take) (j := 111) fl_7_16 k_108 rfl rfl dX7_take_117 ?_
      refine j_bipush (y := I_X7_take) (v := 8) dX7_take_120 (by decide) ?_
      refine j_dup2 (y := I_X7_take) dX7_take_122 rfl rfl ?_
      refine j_laldL (y := I_X7_take) k_111 (by decide) dX7_take_123 ?_
      refine j_iload_n (y := I_X7_take) 1 dX7_take_124 rfl rfl ?_
      refine j_iload (y := I_X7_take) 2 dX7_take_125 rfl ?_
      refine j_isub (y := I_X7_take) dX7_take_127 ?_
      refine j_i2l (y := I_X7_take) dX7_take_128 ?_
      refine j_ladd (y := I_X7_take) dX7_take_129 ?_
      refine j_lastL (y := I_X7_take) k_111 (by decide) dX7_take_130 ?_
      refine j_iload_n (y := I_X7_take) 1 dX7_take_131 rfl rfl ?_
      refine j_iload (y := I_X7_take) 2 dX7_take_132 rfl ?_
      refine j_isub (y := I_X7_take) dX7_take_134 ?_
      exact j_iret (y := I_X7_take) rfl dX7_take_135 rfl
    · refine j_aload_n (y := I_X7_take) 0 dX7_take_12 rfl rfl ?_
      refine j_iconst (y := I_X7_take) (v := -1) dX7_take_13 (by decide) ?_
      refine j_callViT (y := I_X7_take) (As := [.int (-1 : Int32)]) cv_7_72 ⟨Nat.le_of_ble_eq_true rfl, Nat.le_of_ble_eq_true rfl⟩ k_108 rfl (Nat.le_of_ble_eq_true rfl) dX7_take_14 (c_X7_found l w (-1 : Int32) S) ?_
      exact j_iret (y := I_X7_take) rfl dX7_take_17 rfl
theorem c_X7_take (l : Launch) (w : Wd) (x1 : Int32) (x2 : Int32) (S : St)  : ∀ v, f_X7_take x1 x2 S = some v → CtS l w I_X7_take [.ref (w.2.1 + 108), .int x1, .int x2] S v.2 (some (.int v.1)) := fun v h => J.ct (av := [.ref (w.2.1 + 108), .int x1, .int x2]) (Nat.le_of_ble_eq_true rfl) pn_7 (m_X7_take l w x1 x2 S ) h
abbrev I_X7_takes : MI := (yX7_takes, cX7_takes, 5, some .int, { frames := 2, cells := 0, slots := 0, locals := 43 })
theorem dX7_takes_0 : decode cX7_takes 0 = .ok (.aload_n 0, 1) := by decide +kernel
theorem dX7_takes_1 : decode cX7_takes 1 = .ok (.iload_n 1, 1) := by decide +kernel
theorem dX7_takes_2 : decode cX7_takes 2 = .ok (.invokevirtual 80, 3) := by decide +kernel
theorem dX7_takes_5 : decode cX7_takes 5 = .ok (.ifCond .eq 11, 3) := by decide +kernel
theorem dX7_takes_8 : decode cX7_takes 8 = .ok (.aload_n 0, 1) := by decide +kernel
theorem dX7_takes_9 : decode cX7_takes 9 = .ok (.iload_n 2, 1) := by decide +kernel
theorem dX7_takes_10 : decode cX7_takes 10 = .ok (.invokevirtual 80, 3) := by decide +kernel
theorem dX7_takes_13 : decode cX7_takes 13 = .ok (.ifCond .ne 9, 3) := by decide +kernel
theorem dX7_takes_16 : decode cX7_takes 16 = .ok (.aload_n 0, 1) := by decide +kernel
theorem dX7_takes_17 : decode cX7_takes 17 = .ok (.iconst (-1), 1) := by decide +kernel
theorem dX7_takes_18 : decode cX7_takes 18 = .ok (.invokevirtual 72, 3) := by decide +kernel
theorem dX7_takes_21 : decode cX7_takes 21 = .ok (.ireturn, 1) := by decide +kernel
theorem dX7_takes_22 : decode cX7_takes 22 = .ok (.aload_n 0, 1) := by decide +kernel
theorem dX7_takes_23 : decode cX7_takes 23 = .ok (.iload_n 1, 1) := by decide +kernel
theorem dX7_takes_24 : decode cX7_takes 24 = .ok (.iload_n 2, 1) := by decide +kernel
theorem dX7_takes_25 : decode cX7_takes 25 = .ok (.invokevirtual 84, 3) := by decide +kernel
theorem dX7_takes_28 : decode cX7_takes 28 = .ok (.istore 4, 2) := by decide +kernel
theorem dX7_takes_30 : decode cX7_takes 30 = .ok (.aload_n 0, 1) := by decide +kernel
theorem dX7_takes_31 : decode cX7_takes 31 = .ok (.getfield 7, 3) := by decide +kernel
theorem dX7_takes_34 : decode cX7_takes 34 = .ok (.bipush 30, 2) := by decide +kernel
theorem dX7_takes_36 : decode cX7_takes 36 = .ok (.bipush 6, 2) := by decide +kernel
theorem dX7_takes_38 : decode cX7_takes 38 = .ok (.iload_n 1, 1) := by decide +kernel
theorem dX7_takes_39 : decode cX7_takes 39 = .ok (.imul, 1) := by decide +kernel
theorem dX7_takes_40 : decode cX7_takes 40 = .ok (.iadd, 1) := by decide +kernel
theorem dX7_takes_41 : decode cX7_takes 41 = .ok (.iload_n 2, 1) := by decide +kernel
theorem dX7_takes_42 : decode cX7_takes 42 = .ok (.iadd, 1) := by decide +kernel
theorem dX7_takes_43 : decode cX7_takes 43 = .ok (.iload_n 3, 1) := by decide +kernel
theorem dX7_takes_44 : decode cX7_takes 44 = .ok (.ifCond .eq 7, 3) := by decide +kernel
theorem dX7_takes_47 : decode cX7_takes 47 = .ok (.iconst 1, 1) := by decide +kernel
theorem dX7_takes_48 : decode cX7_takes 48 = .ok (.goto 4, 3) := by decide +kernel
theorem dX7_takes_51 : decode cX7_takes 51 = .ok (.iconst 0, 1) := by decide +kernel
theorem dX7_takes_52 : decode cX7_takes 52 = .ok (.iastore, 1) := by decide +kernel
theorem dX7_takes_53 : decode cX7_takes 53 = .ok (.aload_n 0, 1) := by decide +kernel
theorem dX7_takes_54 : decode cX7_takes 54 = .ok (.iconst 0, 1) := by decide +kernel
theorem dX7_takes_55 : decode cX7_takes 55 = .ok (.putfield 76, 3) := by decide +kernel
theorem dX7_takes_58 : decode cX7_takes 58 = .ok (.iload 4, 2) := by decide +kernel
theorem dX7_takes_60 : decode cX7_takes 60 = .ok (.iload_n 3, 1) := by decide +kernel
theorem dX7_takes_61 : decode cX7_takes 61 = .ok (.if_icmp .ne 7, 3) := by decide +kernel
theorem dX7_takes_64 : decode cX7_takes 64 = .ok (.iconst 0, 1) := by decide +kernel
theorem dX7_takes_65 : decode cX7_takes 65 = .ok (.goto 4, 3) := by decide +kernel
theorem dX7_takes_68 : decode cX7_takes 68 = .ok (.iconst 1, 1) := by decide +kernel
theorem dX7_takes_69 : decode cX7_takes 69 = .ok (.ireturn, 1) := by decide +kernel
def f_X7_takes_J52 (j52_3 : Bool) (j52_4 : Bool) (j52s_0 : Int32) (j52s_1 : Int32) (S52 : St) : Option (Int32 × St) := if inb j52s_1 788 = true then (if (b2i j52_4) = (b2i j52_3) then (some ((0 : Int32), (wr (wr S52 109 (ix j52s_1) j52s_0) 108 9 (0 : Int32)))) else (some ((1 : Int32), (wr (wr S52 109 (ix j52s_1) j52s_0) 108 9 (0 : Int32))))) else none
def f_X7_takes (x1 : Int32) (x2 : Int32) (x3 : Bool) (S : St) : Option (Int32 × St) := (f_X7_isSort x1 S).bind fun v2 => (if v2 = true then ((f_X7_isSort x2 S).bind fun v10 => (if v10 = true then ((f_X7_does x1 x2 S).bind fun v25 => (if x3 = true then (f_X7_takes_J52 x3 v25 (1 : Int32) (((30 : Int32) + ((6 : Int32) * x1)) + x2) S) else (f_X7_takes_J52 x3 v25 (0 : Int32) (((30 : Int32) + ((6 : Int32) * x1)) + x2) S))) else (some (((f_X7_found (-1 : Int32) S).1), (f_X7_found (-1 : Int32) S).2)))) else (some (((f_X7_found (-1 : Int32) S).1), (f_X7_found (-1 : Int32) S).2)))
set_option maxRecDepth 100000 in
theorem jj_X7_takes_52 (l : Launch) (w : Wd) (j52_3 : Bool) (j52_4 : Bool) (j52s_0 : Int32) (j52s_1 : Int32) (S52 : St)  : J l w I_X7_takes 52 [(0, .ref (w.2.1 + 108)), (3, .int (b2i j52_3)), (4, .int (b2i j52_4))] [.int j52s_0, .int j52s_1, .ref (w.2.1 + 109)] S52 (fun b => (some (.int b.1), b.2)) (f_X7_takes_J52 j52_3 j52_4 j52s_0 j52s_1 S52) := by
  unfold f_X7_takes_J52
  refine j_iast (y := I_X7_takes) k_109 dX7_takes_52 (fun h52 => ?_)
  refine j_aload_n (y := I_X7_takes) 0 dX7_takes_53 rfl rfl ?_
  refine j_iconst (y := I_X7_takes) (v := 0) dX7_takes_54 (by decide) ?_
  refine j_putI (y := I_X7_takes) fp_7_76 k_108 rfl rfl rfl dX7_takes_55 ?_
  refine j_iload (y := I_X7_takes) 2 dX7_takes_58 rfl ?_
  refine j_iload_n (y := I_X7_takes) 1 dX7_takes_60 rfl rfl ?_
  refine j_icmp_ne (y := I_X7_takes) 68 dX7_takes_61 (by decide) (fun h61 => ?_) (fun h61 => ?_)
  · refine j_iconst (y := I_X7_takes) (v := 1) dX7_takes_68 (by decide) ?_
    exact j_iret (y := I_X7_takes) rfl dX7_takes_69 rfl
  · refine j_iconst (y := I_X7_takes) (v := 0) dX7_takes_64 (by decide) ?_
    refine j_goto (y := I_X7_takes) 69 dX7_takes_65 (by decide) ?_
    exact j_iret (y := I_X7_takes) rfl dX7_takes_69 rfl
set_option maxRecDepth 100000 in
set_option maxHeartbeats 4000000 in
theorem m_X7_takes (l : Launch) (w : Wd) (x1 : Int32) (x2 : Int32) (x3 : Bool) (S : St)  : J l w I_X7_takes 0 [(0, .ref (w.2.1 + 108)), (1, .int x1), (2, .int x2), (3, .int (b2i x3))] [] S (fun b => (some (.int b.1), b.2)) (f_X7_takes x1 x2 x3 S) := by
  unfold f_X7_takes
  refine j_aload_n (y := I_X7_takes) 0 dX7_takes_0 rfl rfl ?_
  refine j_iload_n (y := I_X7_takes) 1 dX7_takes_1 rfl rfl ?_
  refine j_callVzR (y := I_X7_takes) (As := [.int x1]) cv_7_80 ⟨Nat.le_of_ble_eq_true rfl, Nat.le_of_ble_eq_true rfl⟩ k_108 rfl (Nat.le_of_ble_eq_true rfl) dX7_takes_2 (c_X7_isSort l w x1 S) (fun v2 h2 => ?_)
  refine j_if_eqB (y := I_X7_takes) 16 dX7_takes_5 (by decide) (fun h5 => ?_) (fun h5 => ?_)
  · refine j_aload_n (y := I_X7_takes) 0 dX7_takes_16 rfl rfl ?_
    refine j_iconst (y := I_X7_takes) (v := -1) dX7_takes_17 (by decide) ?_
    refine j_callViT (y := I_X7_takes) (As := [.int (-1 : Int32)]) cv_7_72 ⟨Nat.le_of_ble_eq_true rfl, Nat.le_of_ble_eq_true rfl⟩ k_108 rfl (Nat.le_of_ble_eq_true rfl) dX7_takes_18 (c_X7_found l w (-1 : Int32) S) ?_
    exact j_iret (y := I_X7_takes) rfl dX7_takes_21 rfl
  · refine j_aload_n (y := I_X7_takes) 0 dX7_takes_8 rfl rfl ?_
    refine j_iload_n (y := I_X7_takes) 2 dX7_takes_9 rfl rfl ?_
    refine j_callVzR (y := I_X7_takes) (As := [.int x2]) cv_7_80 ⟨Nat.le_of_ble_eq_true rfl, Nat.le_of_ble_eq_true rfl⟩ k_108 rfl (Nat.le_of_ble_eq_true rfl) dX7_takes_10 (c_X7_isSort l w x2 S) (fun v10 h10 => ?_)
    refine j_if_neB (y := I_X7_takes) 22 dX7_takes_13 (by decide) (fun h13 => ?_) (fun h13 => ?_)
    · refine j_aload_n (y := I_X7_takes) 0 dX7_takes_22 rfl rfl ?_
      refine j_iload_n (y := I_X7_takes) 1 dX7_takes_23 rfl rfl ?_
      refine j_iload_n (y := I_X7_takes) 2 dX7_takes_24 rfl rfl ?_
      refine j_callVzR (y := I_X7_takes) (As := [.int x1, .int x2]) cv_7_84 ⟨Nat.le_of_ble_eq_true rfl, Nat.le_of_ble_eq_true rfl⟩ k_108 rfl (Nat.le_of_ble_eq_true rfl) dX7_takes_25 (c_X7_does l w x1 x2 S) (fun v25 h25 => ?_)
      refine j_istore (y := I_X7_takes) (ls' := [(4, .int (b2i v25)), (0, .ref (w.2.1 + 108)), (1, .int x1), (2, .int x2), (3, .int (b2i x3))]) dX7_takes_28 (by decide) rfl ?_
      refine j_aload_n (y := I_X7_takes) 1 dX7_takes_30 rfl rfl ?_
      refine j_getR (y := I_X7_takes) (j := 109) fl_7_7 k_108 rfl rfl dX7_takes_31 ?_
      refine j_bipush (y := I_X7_takes) (v := 30) dX7_takes_34 (by decide) ?_
      refine j_bipush (y := I_X7_takes) (v := 6) dX7_takes_36 (by decide) ?_
      refine j_iload_n (y := I_X7_takes) 2 dX7_takes_38 rfl rfl ?_
      refine j_imul (y := I_X7_takes) dX7_takes_39 ?_
      refine j_iadd (y := I_X7_takes) dX7_takes_40 ?_
      refine j_iload_n (y := I_X7_takes) 3 dX7_takes_41 rfl rfl ?_
      refine j_iadd (y := I_X7_takes) dX7_takes_42 ?_
      refine j_iload_n (y := I_X7_takes) 4 dX7_takes_43 rfl rfl ?_
      refine j_if_eqB (y := I_X7_takes) 51 dX7_takes_44 (by decide) (fun h44 => ?_) (fun h44 => ?_)
      · refine j_iconst (y := I_X7_takes) (v := 0) dX7_takes_51 (by decide) ?_
        refine j_sub [1, 4, 0] rfl ?_
        exact jj_X7_takes_52 l w x3 v25 (0 : Int32) (((30 : Int32) + ((6 : Int32) * x1)) + x2) S
      · refine j_iconst (y := I_X7_takes) (v := 1) dX7_takes_47 (by decide) ?_
        refine j_goto (y := I_X7_takes) 52 dX7_takes_48 (by decide) ?_
        refine j_sub [1, 4, 0] rfl ?_
        exact jj_X7_takes_52 l w x3 v25 (1 : Int32) (((30 : Int32) + ((6 : Int32) * x1)) + x2) S
    · refine j_aload_n (y := I_X7_takes) 0 dX7_takes_16 rfl rfl ?_
      refine j_iconst (y := I_X7_takes) (v := -1) dX7_takes_17 (by decide) ?_
      refine j_callViT (y := I_X7_takes) (As := [.int (-1 : Int32)]) cv_7_72 ⟨Nat.le_of_ble_eq_true rfl, Nat.le_of_ble_eq_true rfl⟩ k_108 rfl (Nat.le_of_ble_eq_true rfl) dX7_takes_18 (c_X7_found l w (-1 : Int32) S) ?_
      exact j_iret (y := I_X7_takes) rfl dX7_takes_21 rfl
theorem c_X7_takes (l : Launch) (w : Wd) (x1 : Int32) (x2 : Int32) (x3 : Bool) (S : St)  : ∀ v, f_X7_takes x1 x2 x3 S = some v → CtS l w I_X7_takes [.ref (w.2.1 + 108), .int x1, .int x2, .int (b2i x3)] S v.2 (some (.int v.1)) := fun v h => J.ct (av := [.ref (w.2.1 + 108), .int x1, .int x2, .int (b2i x3)]) (Nat.le_of_ble_eq_true rfl) pn_7 (m_X7_takes l w x1 x2 x3 S ) h
abbrev I_X7_thin : MI := (yX7_thin, cX7_thin, 7, some .int, { frames := 2, cells := 0, slots := 0, locals := 44 })
theorem dX7_thin_0 : decode cX7_thin 0 = .ok (.iload_n 1, 1) := by decide +kernel
theorem dX7_thin_1 : decode cX7_thin 1 = .ok (.invokestatic 88, 3) := by decide +kernel
theorem dX7_thin_4 : decode cX7_thin 4 = .ok (.ifCond .eq 7, 3) := by decide +kernel
theorem dX7_thin_7 : decode cX7_thin 7 = .ok (.iload_n 2, 1) := by decide +kernel
theorem dX7_thin_8 : decode cX7_thin 8 = .ok (.ifCond .ge 9, 3) := by decide +kernel
theorem dX7_thin_11 : decode cX7_thin 11 = .ok (.aload_n 0, 1) := by decide +kernel
theorem dX7_thin_12 : decode cX7_thin 12 = .ok (.iconst (-1), 1) := by decide +kernel
theorem dX7_thin_13 : decode cX7_thin 13 = .ok (.invokevirtual 72, 3) := by decide +kernel
theorem dX7_thin_16 : decode cX7_thin 16 = .ok (.ireturn, 1) := by decide +kernel
theorem dX7_thin_17 : decode cX7_thin 17 = .ok (.aload_n 0, 1) := by decide +kernel
theorem dX7_thin_18 : decode cX7_thin 18 = .ok (.iload_n 1, 1) := by decide +kernel
theorem dX7_thin_19 : decode cX7_thin 19 = .ok (.invokevirtual 107, 3) := by decide +kernel
theorem dX7_thin_22 : decode cX7_thin 22 = .ok (.istore_n 3, 1) := by decide +kernel
theorem dX7_thin_23 : decode cX7_thin 23 = .ok (.iload_n 3, 1) := by decide +kernel
theorem dX7_thin_24 : decode cX7_thin 24 = .ok (.ifCond .ge 9, 3) := by decide +kernel
theorem dX7_thin_27 : decode cX7_thin 27 = .ok (.aload_n 0, 1) := by decide +kernel
theorem dX7_thin_28 : decode cX7_thin 28 = .ok (.iload_n 3, 1) := by decide +kernel
theorem dX7_thin_29 : decode cX7_thin 29 = .ok (.invokevirtual 72, 3) := by decide +kernel
theorem dX7_thin_32 : decode cX7_thin 32 = .ok (.ireturn, 1) := by decide +kernel
theorem dX7_thin_33 : decode cX7_thin 33 = .ok (.iconst 0, 1) := by decide +kernel
theorem dX7_thin_34 : decode cX7_thin 34 = .ok (.istore 4, 2) := by decide +kernel
theorem dX7_thin_36 : decode cX7_thin 36 = .ok (.iconst 2, 1) := by decide +kernel
theorem dX7_thin_37 : decode cX7_thin 37 = .ok (.iload_n 1, 1) := by decide +kernel
theorem dX7_thin_38 : decode cX7_thin 38 = .ok (.imul, 1) := by decide +kernel
theorem dX7_thin_39 : decode cX7_thin 39 = .ok (.istore 5, 2) := by decide +kernel
theorem dX7_thin_41 : decode cX7_thin 41 = .ok (.iload 5, 2) := by decide +kernel
theorem dX7_thin_43 : decode cX7_thin 43 = .ok (.iconst 2, 1) := by decide +kernel
theorem dX7_thin_44 : decode cX7_thin 44 = .ok (.iload_n 1, 1) := by decide +kernel
theorem dX7_thin_45 : decode cX7_thin 45 = .ok (.imul, 1) := by decide +kernel
theorem dX7_thin_46 : decode cX7_thin 46 = .ok (.iconst 2, 1) := by decide +kernel
theorem dX7_thin_47 : decode cX7_thin 47 = .ok (.iadd, 1) := by decide +kernel
theorem dX7_thin_48 : decode cX7_thin 48 = .ok (.if_icmp .ge 43, 3) := by decide +kernel
theorem dX7_thin_51 : decode cX7_thin 51 = .ok (.aload_n 0, 1) := by decide +kernel
theorem dX7_thin_52 : decode cX7_thin 52 = .ok (.iload 5, 2) := by decide +kernel
theorem dX7_thin_54 : decode cX7_thin 54 = .ok (.invokevirtual 162, 3) := by decide +kernel
theorem dX7_thin_57 : decode cX7_thin 57 = .ok (.iload_n 2, 1) := by decide +kernel
theorem dX7_thin_58 : decode cX7_thin 58 = .ok (.isub, 1) := by decide +kernel
theorem dX7_thin_59 : decode cX7_thin 59 = .ok (.istore 6, 2) := by decide +kernel
theorem dX7_thin_61 : decode cX7_thin 61 = .ok (.iload 6, 2) := by decide +kernel
theorem dX7_thin_63 : decode cX7_thin 63 = .ok (.ifCond .gt 6, 3) := by decide +kernel
theorem dX7_thin_66 : decode cX7_thin 66 = .ok (.goto 19, 3) := by decide +kernel
theorem dX7_thin_69 : decode cX7_thin 69 = .ok (.aload_n 0, 1) := by decide +kernel
theorem dX7_thin_70 : decode cX7_thin 70 = .ok (.iload 5, 2) := by decide +kernel
theorem dX7_thin_72 : decode cX7_thin 72 = .ok (.iload 6, 2) := by decide +kernel
theorem dX7_thin_74 : decode cX7_thin 74 = .ok (.ineg, 1) := by decide +kernel
theorem dX7_thin_75 : decode cX7_thin 75 = .ok (.invokevirtual 165, 3) := by decide +kernel
theorem dX7_thin_78 : decode cX7_thin 78 = .ok (.iload 4, 2) := by decide +kernel
theorem dX7_thin_80 : decode cX7_thin 80 = .ok (.iload 6, 2) := by decide +kernel
theorem dX7_thin_82 : decode cX7_thin 82 = .ok (.iadd, 1) := by decide +kernel
theorem dX7_thin_83 : decode cX7_thin 83 = .ok (.istore 4, 2) := by decide +kernel
theorem dX7_thin_85 : decode cX7_thin 85 = .ok (.iinc 5 1, 3) := by decide +kernel
theorem dX7_thin_88 : decode cX7_thin 88 = .ok (.goto (-47), 3) := by decide +kernel
theorem dX7_thin_91 : decode cX7_thin 91 = .ok (.aload_n 0, 1) := by decide +kernel
theorem dX7_thin_92 : decode cX7_thin 92 = .ok (.getfield 16, 3) := by decide +kernel
theorem dX7_thin_95 : decode cX7_thin 95 = .ok (.iconst 1, 1) := by decide +kernel
theorem dX7_thin_96 : decode cX7_thin 96 = .ok (.dup2, 1) := by decide +kernel
theorem dX7_thin_97 : decode cX7_thin 97 = .ok (.laload, 1) := by decide +kernel
theorem dX7_thin_98 : decode cX7_thin 98 = .ok (.iload 4, 2) := by decide +kernel
theorem dX7_thin_100 : decode cX7_thin 100 = .ok (.i2l, 1) := by decide +kernel
theorem dX7_thin_101 : decode cX7_thin 101 = .ok (.ladd, 1) := by decide +kernel
theorem dX7_thin_102 : decode cX7_thin 102 = .ok (.lastore, 1) := by decide +kernel
theorem dX7_thin_103 : decode cX7_thin 103 = .ok (.aload_n 0, 1) := by decide +kernel
theorem dX7_thin_104 : decode cX7_thin 104 = .ok (.iload_n 1, 1) := by decide +kernel
theorem dX7_thin_105 : decode cX7_thin 105 = .ok (.bipush 10, 2) := by decide +kernel
theorem dX7_thin_107 : decode cX7_thin 107 = .ok (.aload_n 0, 1) := by decide +kernel
theorem dX7_thin_108 : decode cX7_thin 108 = .ok (.iload_n 1, 1) := by decide +kernel
theorem dX7_thin_109 : decode cX7_thin 109 = .ok (.bipush 10, 2) := by decide +kernel
theorem dX7_thin_111 : decode cX7_thin 111 = .ok (.invokevirtual 68, 3) := by decide +kernel
theorem dX7_thin_114 : decode cX7_thin 114 = .ok (.iload 4, 2) := by decide +kernel
theorem dX7_thin_116 : decode cX7_thin 116 = .ok (.isub, 1) := by decide +kernel
theorem dX7_thin_117 : decode cX7_thin 117 = .ok (.invokevirtual 91, 3) := by decide +kernel
theorem dX7_thin_120 : decode cX7_thin 120 = .ok (.iload 4, 2) := by decide +kernel
theorem dX7_thin_122 : decode cX7_thin 122 = .ok (.ireturn, 1) := by decide +kernel
def f_X7_thin_L41 (fuel : Nat) (K : Int32 → Int32 → St → Option (Int32 × St)) (a41_1 : Int32) (a41_2 : Int32) (a41_4 : Int32) (a41_5 : Int32) (S41 : St) : Option (Int32 × St) := match fuel with
  | 0 => none
  | n + 1 => if a41_5 < (((2 : Int32) * a41_1) + (2 : Int32)) then ((f_X7_fruitsOf a41_5 S41).bind fun v54 => (if 0 < (v54 - a41_2) then ((f_X7_grow a41_5 (-(v54 - a41_2)) S41).bind fun v75 => (f_X7_thin_L41 n K a41_1 a41_2 (a41_4 + (v54 - a41_2)) (a41_5 + (1 : Int32)) v75)) else (f_X7_thin_L41 n K a41_1 a41_2 a41_4 (a41_5 + (1 : Int32)) S41))) else (K a41_1 a41_4 S41)
def f_X7_thin (x1 : Int32) (x2 : Int32) (S : St) : Option (Int32 × St) := if (f_X7_isPlace x1) = true then (if x2 < 0 then (some (((f_X7_found (-1 : Int32) S).1), (f_X7_found (-1 : Int32) S).2)) else ((f_X7_lacks x1 S).bind fun v19 => (if v19 < 0 then (some (((f_X7_found v19 S).1), (f_X7_found v19 S).2)) else (f_X7_thin_L41 6000 (fun e91_1 e91_4 T91 => ((f_X7_get e91_1 (10 : Int32) (wrL T91 111 (ix (1 : Int32)) ((rdL T91 111 (ix (1 : Int32))) + e91_4.toInt64))).bind fun v111 => ((f_X7_lay e91_1 (10 : Int32) (v111 - e91_4) (wrL T91 111 (ix (1 : Int32)) ((rdL T91 111 (ix (1 : Int32))) + e91_4.toInt64))).bind fun v117 => (some (e91_4, v117))))) x1 x2 (0 : Int32) ((2 : Int32) * x1) S)))) else (some (((f_X7_found (-1 : Int32) S).1), (f_X7_found (-1 : Int32) S).2))
set_option maxRecDepth 100000 in
theorem jl_X7_thin_41 (l : Launch) (w : Wd) (K : Int32 → Int32 → St → Option (Int32 × St)) (n : Nat) : ∀ (a41_1 : Int32) (a41_2 : Int32) (a41_4 : Int32) (a41_5 : Int32) (S41 : St), (∀ (e91_1 : Int32) (e91_4 : Int32) (S' : St) , J l w I_X7_thin 91 [(0, .ref (w.2.1 + 108)), (1, .int e91_1), (4, .int e91_4)] [] S' (fun b => (some (.int b.1), b.2)) (K e91_1 e91_4 S')) → J l w I_X7_thin 41 [(0, .ref (w.2.1 + 108)), (1, .int a41_1), (2, .int a41_2), (4, .int a41_4), (5, .int a41_5)] [] S41 (fun b => (some (.int b.1), b.2)) (f_X7_thin_L41 n K a41_1 a41_2 a41_4 a41_5 S41) := by
  induction n with
  | zero =>
    intro a41_1 a41_2 a41_4 a41_5 S41 hK b h
    simp only [f_X7_thin_L41] at h
    cases h
  | succ n ih =>
    intro a41_1 a41_2 a41_4 a41_5 S41 hK
    rw [f_X7_thin_L41]
    refine j_iload (y := I_X7_thin) 4 dX7_thin_41 rfl ?_
    refine j_iconst (y := I_X7_thin) (v := 2) dX7_thin_43 (by decide) ?_
    refine j_iload_n (y := I_X7_thin) 1 dX7_thin_44 rfl rfl ?_
    refine j_imul (y := I_X7_thin) dX7_thin_45 ?_
    refine j_iconst (y := I_X7_thin) (v := 2) dX7_thin_46 (by decide) ?_
    refine j_iadd (y := I_X7_thin) dX7_thin_47 ?_
    refine j_icmp_ge (y := I_X7_thin) 91 dX7_thin_48 (by decide) (fun h48 => ?_) (fun h48 => ?_)
    · refine j_sub [0, 1, 3] rfl ?_
      exact hK a41_1 a41_4 S41
    · refine j_aload_n (y := I_X7_thin) 0 dX7_thin_51 rfl rfl ?_
      refine j_iload (y := I_X7_thin) 4 dX7_thin_52 rfl ?_
      refine j_callViR (y := I_X7_thin) (As := [.int a41_5]) cv_7_162 ⟨Nat.le_of_ble_eq_true rfl, Nat.le_of_ble_eq_true rfl⟩ k_108 rfl (Nat.le_of_ble_eq_true rfl) dX7_thin_54 (c_X7_fruitsOf l w a41_5 S41) (fun v54 h54 => ?_)
      refine j_iload_n (y := I_X7_thin) 2 dX7_thin_57 rfl rfl ?_
      refine j_isub (y := I_X7_thin) dX7_thin_58 ?_
      refine j_istore (y := I_X7_thin) (ls' := [(6, .int (v54 - a41_2)), (0, .ref (w.2.1 + 108)), (1, .int a41_1), (2, .int a41_2), (4, .int a41_4), (5, .int a41_5)]) dX7_thin_59 (by decide) rfl ?_
      refine j_iload (y := I_X7_thin) 0 dX7_thin_61 rfl ?_
      refine j_if_gt (y := I_X7_thin) 69 dX7_thin_63 (by decide) (fun h63 => ?_) (fun h63 => ?_)
      · refine j_aload_n (y := I_X7_thin) 1 dX7_thin_69 rfl rfl ?_
        refine j_iload (y := I_X7_thin) 5 dX7_thin_70 rfl ?_
        refine j_iload (y := I_X7_thin) 0 dX7_thin_72 rfl ?_
        refine j_ineg (y := I_X7_thin) dX7_thin_74 ?_
        refine j_callVvS (y := I_X7_thin) (As := [.int a41_5, .int (-(v54 - a41_2))]) cv_7_165 ⟨Nat.le_of_ble_eq_true rfl, Nat.le_of_ble_eq_true rfl⟩ k_108 rfl (Nat.le_of_ble_eq_true rfl) dX7_thin_75 (c_X7_grow l w a41_5 (-(v54 - a41_2)) S41) (fun v75 h75 => ?_)
        refine j_iload (y := I_X7_thin) 4 dX7_thin_78 rfl ?_
        refine j_iload (y := I_X7_thin) 0 dX7_thin_80 rfl ?_
        refine j_iadd (y := I_X7_thin) dX7_thin_82 ?_
        refine j_istore (y := I_X7_thin) (ls' := [(4, .int (a41_4 + (v54 - a41_2))), (6, .int (v54 - a41_2)), (0, .ref (w.2.1 + 108)), (1, .int a41_1), (2, .int a41_2), (5, .int a41_5)]) dX7_thin_83 (by decide) rfl ?_
        refine j_iinc (y := I_X7_thin) 5 (ls' := [(5, .int (a41_5 + (1 : Int32))), (4, .int (a41_4 + (v54 - a41_2))), (6, .int (v54 - a41_2)), (0, .ref (w.2.1 + 108)), (1, .int a41_1), (2, .int a41_2)]) dX7_thin_85 rfl (ii _ _ (by decide) _) (by decide) rfl ?_
        refine j_goto (y := I_X7_thin) 41 dX7_thin_88 (by decide) ?_
        refine j_sub [3, 4, 5, 1, 0] rfl ?_
        exact ih a41_1 a41_2 (a41_4 + (v54 - a41_2)) (a41_5 + (1 : Int32)) v75 hK
      · refine j_goto (y := I_X7_thin) 85 dX7_thin_66 (by decide) ?_
        refine j_iinc (y := I_X7_thin) 5 (ls' := [(5, .int (a41_5 + (1 : Int32))), (6, .int (v54 - a41_2)), (0, .ref (w.2.1 + 108)), (1, .int a41_1), (2, .int a41_2), (4, .int a41_4)]) dX7_thin_85 rfl (ii _ _ (by decide) _) (by decide) rfl ?_
        refine j_goto (y := I_X7_thin) 41 dX7_thin_88 (by decide) ?_
        refine j_sub [2, 3, 4, 5, 0] rfl ?_
        exact ih a41_1 a41_2 a41_4 (a41_5 + (1 : Int32)) S41 hK
set_option maxRecDepth 100000 in
set_option maxHeartbeats 4000000 in
theorem m_X7_thin (l : Launch) (w : Wd) (x1 : Int32) (x2 : Int32) (S : St)  : J l w I_X7_thin 0 [(0, .ref (w.2.1 + 108)), (1, .int x1), (2, .int x2)] [] S (fun b => (some (.int b.1), b.2)) (f_X7_thin x1 x2 S) := by
  unfold f_X7_thin
  refine j_iload_n (y := I_X7_thin) 1 dX7_thin_0 rfl rfl ?_
  refine j_callSzT (y := I_X7_thin) (As := [.int x1]) cv_7_88 ⟨Nat.le_of_ble_eq_true rfl, Nat.le_of_ble_eq_true rfl⟩ rfl (Nat.le_of_ble_eq_true rfl) dX7_thin_1 (c_X7_isPlace l w x1 S) ?_
  refine j_if_eqB (y := I_X7_thin) 11 dX7_thin_4 (by decide) (fun h4 => ?_) (fun h4 => ?_)
  · refine j_aload_n (y := I_X7_thin) 0 dX7_thin_11 rfl rfl ?_
    refine j_iconst (y := I_X7_thin) (v := -1) dX7_thin_12 (by decide) ?_
    refine j_callViT (y := I_X7_thin) (As := [.int (-1 : Int32)]) cv_7_72 ⟨Nat.le_of_ble_eq_true rfl, Nat.le_of_ble_eq_true rfl⟩ k_108 rfl (Nat.le_of_ble_eq_true rfl) dX7_thin_13 (c_X7_found l w (-1 : Int32) S) ?_
    exact j_iret (y := I_X7_thin) rfl dX7_thin_16 rfl
  · refine j_iload_n (y := I_X7_thin) 2 dX7_thin_7 rfl rfl ?_
    refine j_if_ge (y := I_X7_thin) 17 dX7_thin_8 (by decide) (fun h8 => ?_) (fun h8 => ?_)
    · refine j_aload_n (y := I_X7_thin) 0 dX7_thin_17 rfl rfl ?_
      refine j_iload_n (y := I_X7_thin) 1 dX7_thin_18 rfl rfl ?_
      refine j_callViR (y := I_X7_thin) (As := [.int x1]) cv_7_107 ⟨Nat.le_of_ble_eq_true rfl, Nat.le_of_ble_eq_true rfl⟩ k_108 rfl (Nat.le_of_ble_eq_true rfl) dX7_thin_19 (c_X7_lacks l w x1 S) (fun v19 h19 => ?_)
      refine j_istore_n (y := I_X7_thin) (ls' := [(3, .int v19), (0, .ref (w.2.1 + 108)), (1, .int x1), (2, .int x2)]) dX7_thin_22 rfl (by decide) rfl ?_
      refine j_iload_n (y := I_X7_thin) 0 dX7_thin_23 rfl rfl ?_
      refine j_if_ge (y := I_X7_thin) 33 dX7_thin_24 (by decide) (fun h24 => ?_) (fun h24 => ?_)
      · refine j_iconst (y := I_X7_thin) (v := 0) dX7_thin_33 (by decide) ?_
        refine j_istore (y := I_X7_thin) (ls' := [(4, .int (0 : Int32)), (3, .int v19), (0, .ref (w.2.1 + 108)), (1, .int x1), (2, .int x2)]) dX7_thin_34 (by decide) rfl ?_
        refine j_iconst (y := I_X7_thin) (v := 2) dX7_thin_36 (by decide) ?_
        refine j_iload_n (y := I_X7_thin) 3 dX7_thin_37 rfl rfl ?_
        refine j_imul (y := I_X7_thin) dX7_thin_38 ?_
        refine j_istore (y := I_X7_thin) (ls' := [(5, .int ((2 : Int32) * x1)), (4, .int (0 : Int32)), (3, .int v19), (0, .ref (w.2.1 + 108)), (1, .int x1), (2, .int x2)]) dX7_thin_39 (by decide) rfl ?_
        refine j_sub [3, 4, 5, 1, 0] rfl ?_
        refine jl_X7_thin_41 l w _ 6000 x1 x2 (0 : Int32) ((2 : Int32) * x1) S  (fun e91_1 e91_4 T91 => ?_)
        refine j_aload_n (y := I_X7_thin) 0 dX7_thin_91 rfl rfl ?_
        refine j_getR (y := I_X7_thin) (j := 111) fl_7_16 k_108 rfl rfl dX7_thin_92 ?_
        refine j_iconst (y := I_X7_thin) (v := 1) dX7_thin_95 (by decide) ?_
        refine j_dup2 (y := I_X7_thin) dX7_thin_96 rfl rfl ?_
        refine j_laldL (y := I_X7_thin) k_111 (by decide) dX7_thin_97 ?_
        refine j_iload (y := I_X7_thin) 2 dX7_thin_98 rfl ?_
        refine j_i2l (y := I_X7_thin) dX7_thin_100 ?_
        refine j_ladd (y := I_X7_thin) dX7_thin_101 ?_
        refine j_lastL (y := I_X7_thin) k_111 (by decide) dX7_thin_102 ?_
        refine j_aload_n (y := I_X7_thin) 0 dX7_thin_103 rfl rfl ?_
        refine j_iload_n (y := I_X7_thin) 1 dX7_thin_104 rfl rfl ?_
        refine j_bipush (y := I_X7_thin) (v := 10) dX7_thin_105 (by decide) ?_
        refine j_aload_n (y := I_X7_thin) 0 dX7_thin_107 rfl rfl ?_
        refine j_iload_n (y := I_X7_thin) 1 dX7_thin_108 rfl rfl ?_
        refine j_bipush (y := I_X7_thin) (v := 10) dX7_thin_109 (by decide) ?_
        refine j_callViR (y := I_X7_thin) (As := [.int e91_1, .int (10 : Int32)]) cv_7_68 ⟨Nat.le_of_ble_eq_true rfl, Nat.le_of_ble_eq_true rfl⟩ k_108 rfl (Nat.le_of_ble_eq_true rfl) dX7_thin_111 (c_X7_get l w e91_1 (10 : Int32) (wrL T91 111 (ix (1 : Int32)) ((rdL T91 111 (ix (1 : Int32))) + e91_4.toInt64))) (fun v111 h111 => ?_)
        refine j_iload (y := I_X7_thin) 2 dX7_thin_114 rfl ?_
        refine j_isub (y := I_X7_thin) dX7_thin_116 ?_
        refine j_callVvS (y := I_X7_thin) (As := [.int e91_1, .int (10 : Int32), .int (v111 - e91_4)]) cv_7_91 ⟨Nat.le_of_ble_eq_true rfl, Nat.le_of_ble_eq_true rfl⟩ k_108 rfl (Nat.le_of_ble_eq_true rfl) dX7_thin_117 (c_X7_lay l w e91_1 (10 : Int32) (v111 - e91_4) (wrL T91 111 (ix (1 : Int32)) ((rdL T91 111 (ix (1 : Int32))) + e91_4.toInt64))) (fun v117 h117 => ?_)
        refine j_iload (y := I_X7_thin) 2 dX7_thin_120 rfl ?_
        exact j_iret (y := I_X7_thin) rfl dX7_thin_122 rfl
      · refine j_aload_n (y := I_X7_thin) 1 dX7_thin_27 rfl rfl ?_
        refine j_iload_n (y := I_X7_thin) 0 dX7_thin_28 rfl rfl ?_
        refine j_callViT (y := I_X7_thin) (As := [.int v19]) cv_7_72 ⟨Nat.le_of_ble_eq_true rfl, Nat.le_of_ble_eq_true rfl⟩ k_108 rfl (Nat.le_of_ble_eq_true rfl) dX7_thin_29 (c_X7_found l w v19 S) ?_
        exact j_iret (y := I_X7_thin) rfl dX7_thin_32 rfl
    · refine j_aload_n (y := I_X7_thin) 0 dX7_thin_11 rfl rfl ?_
      refine j_iconst (y := I_X7_thin) (v := -1) dX7_thin_12 (by decide) ?_
      refine j_callViT (y := I_X7_thin) (As := [.int (-1 : Int32)]) cv_7_72 ⟨Nat.le_of_ble_eq_true rfl, Nat.le_of_ble_eq_true rfl⟩ k_108 rfl (Nat.le_of_ble_eq_true rfl) dX7_thin_13 (c_X7_found l w (-1 : Int32) S) ?_
      exact j_iret (y := I_X7_thin) rfl dX7_thin_16 rfl
theorem c_X7_thin (l : Launch) (w : Wd) (x1 : Int32) (x2 : Int32) (S : St)  : ∀ v, f_X7_thin x1 x2 S = some v → CtS l w I_X7_thin [.ref (w.2.1 + 108), .int x1, .int x2] S v.2 (some (.int v.1)) := fun v h => J.ct (av := [.ref (w.2.1 + 108), .int x1, .int x2]) (Nat.le_of_ble_eq_true rfl) pn_7 (m_X7_thin l w x1 x2 S ) h
abbrev I_X7_told : MI := (yX7_told, cX7_told, 2, some .int, { frames := 1, cells := 0, slots := 0, locals := 21 })
theorem dX7_told_0 : decode cX7_told 0 = .ok (.iload_n 1, 1) := by decide +kernel
theorem dX7_told_1 : decode cX7_told 1 = .ok (.tableswitch 92 0 4 #[35, 44, 53, 62, 67], 35) := by decide +kernel
theorem dX7_told_36 : decode cX7_told 36 = .ok (.aload_n 0, 1) := by decide +kernel
theorem dX7_told_37 : decode cX7_told 37 = .ok (.getfield 7, 3) := by decide +kernel
theorem dX7_told_40 : decode cX7_told 40 = .ok (.sipush 784, 3) := by decide +kernel
theorem dX7_told_43 : decode cX7_told 43 = .ok (.iaload, 1) := by decide +kernel
theorem dX7_told_44 : decode cX7_told 44 = .ok (.ireturn, 1) := by decide +kernel
theorem dX7_told_45 : decode cX7_told 45 = .ok (.aload_n 0, 1) := by decide +kernel
theorem dX7_told_46 : decode cX7_told 46 = .ok (.getfield 7, 3) := by decide +kernel
theorem dX7_told_49 : decode cX7_told 49 = .ok (.sipush 785, 3) := by decide +kernel
theorem dX7_told_52 : decode cX7_told 52 = .ok (.iaload, 1) := by decide +kernel
theorem dX7_told_53 : decode cX7_told 53 = .ok (.ireturn, 1) := by decide +kernel
theorem dX7_told_54 : decode cX7_told 54 = .ok (.aload_n 0, 1) := by decide +kernel
theorem dX7_told_55 : decode cX7_told 55 = .ok (.getfield 7, 3) := by decide +kernel
theorem dX7_told_58 : decode cX7_told 58 = .ok (.sipush 782, 3) := by decide +kernel
theorem dX7_told_61 : decode cX7_told 61 = .ok (.iaload, 1) := by decide +kernel
theorem dX7_told_62 : decode cX7_told 62 = .ok (.ireturn, 1) := by decide +kernel
theorem dX7_told_63 : decode cX7_told 63 = .ok (.aload_n 0, 1) := by decide +kernel
theorem dX7_told_64 : decode cX7_told 64 = .ok (.getfield 60, 3) := by decide +kernel
theorem dX7_told_67 : decode cX7_told 67 = .ok (.ireturn, 1) := by decide +kernel
theorem dX7_told_68 : decode cX7_told 68 = .ok (.aload_n 0, 1) := by decide +kernel
theorem dX7_told_69 : decode cX7_told 69 = .ok (.getfield 7, 3) := by decide +kernel
theorem dX7_told_72 : decode cX7_told 72 = .ok (.sipush 786, 3) := by decide +kernel
theorem dX7_told_75 : decode cX7_told 75 = .ok (.iaload, 1) := by decide +kernel
theorem dX7_told_76 : decode cX7_told 76 = .ok (.ifCond .ge 8, 3) := by decide +kernel
theorem dX7_told_79 : decode cX7_told 79 = .ok (.bipush (-100), 2) := by decide +kernel
theorem dX7_told_81 : decode cX7_told 81 = .ok (.goto 11, 3) := by decide +kernel
theorem dX7_told_84 : decode cX7_told 84 = .ok (.aload_n 0, 1) := by decide +kernel
theorem dX7_told_85 : decode cX7_told 85 = .ok (.getfield 7, 3) := by decide +kernel
theorem dX7_told_88 : decode cX7_told 88 = .ok (.sipush 786, 3) := by decide +kernel
theorem dX7_told_91 : decode cX7_told 91 = .ok (.iaload, 1) := by decide +kernel
theorem dX7_told_92 : decode cX7_told 92 = .ok (.ireturn, 1) := by decide +kernel
theorem dX7_told_93 : decode cX7_told 93 = .ok (.aload_n 0, 1) := by decide +kernel
theorem dX7_told_94 : decode cX7_told 94 = .ok (.iconst (-1), 1) := by decide +kernel
theorem dX7_told_95 : decode cX7_told 95 = .ok (.invokevirtual 72, 3) := by decide +kernel
theorem dX7_told_98 : decode cX7_told 98 = .ok (.ireturn, 1) := by decide +kernel
def f_X7_told (x1 : Int32) (S : St) : Option (Int32 × St) := if x1 = (0 : Int32) then (some ((rd S 109 (ix (784 : Int32))), S)) else (if x1 = (1 : Int32) then (some ((rd S 109 (ix (785 : Int32))), S)) else (if x1 = (2 : Int32) then (some ((rd S 109 (ix (782 : Int32))), S)) else (if x1 = (3 : Int32) then (some ((rd S 108 10), S)) else (if x1 = (4 : Int32) then (if (rd S 109 (ix (786 : Int32))) < 0 then (some ((-100 : Int32), S)) else (some ((rd S 109 (ix (786 : Int32))), S))) else (some (((f_X7_found (-1 : Int32) S).1), (f_X7_found (-1 : Int32) S).2))))))
set_option maxRecDepth 100000 in
set_option maxHeartbeats 4000000 in
theorem m_X7_told (l : Launch) (w : Wd) (x1 : Int32) (S : St)  : J l w I_X7_told 0 [(0, .ref (w.2.1 + 108)), (1, .int x1)] [] S (fun b => (some (.int b.1), b.2)) (f_X7_told x1 S) := by
  unfold f_X7_told
  refine j_iload_n (y := I_X7_told) 1 dX7_told_0 rfl rfl ?_
  refine j_ite (y := I_X7_told) (fun h1_0 => ?_) (fun h1_0 => ?_)
  · refine j_tabIn (y := I_X7_told) 36 dX7_told_1 (by rw [h1_0]; decide) (by rw [h1_0]; decide) (by rw [h1_0]; rfl) (by decide) ?_
    refine j_aload_n (y := I_X7_told) 0 dX7_told_36 rfl rfl ?_
    refine j_getR (y := I_X7_told) (j := 109) fl_7_7 k_108 rfl rfl dX7_told_37 ?_
    refine j_sipush (y := I_X7_told) (v := 784) dX7_told_40 (by decide) ?_
    refine j_ialdL (y := I_X7_told) k_109 (by decide) dX7_told_43 ?_
    exact j_iret (y := I_X7_told) rfl dX7_told_44 rfl
  · skip
    refine j_ite (y := I_X7_told) (fun h1_1 => ?_) (fun h1_1 => ?_)
    · refine j_tabIn (y := I_X7_told) 45 dX7_told_1 (by rw [h1_1]; decide) (by rw [h1_1]; decide) (by rw [h1_1]; rfl) (by decide) ?_
      refine j_aload_n (y := I_X7_told) 0 dX7_told_45 rfl rfl ?_
      refine j_getR (y := I_X7_told) (j := 109) fl_7_7 k_108 rfl rfl dX7_told_46 ?_
      refine j_sipush (y := I_X7_told) (v := 785) dX7_told_49 (by decide) ?_
      refine j_ialdL (y := I_X7_told) k_109 (by decide) dX7_told_52 ?_
      exact j_iret (y := I_X7_told) rfl dX7_told_53 rfl
    · skip
      refine j_ite (y := I_X7_told) (fun h1_2 => ?_) (fun h1_2 => ?_)
      · refine j_tabIn (y := I_X7_told) 54 dX7_told_1 (by rw [h1_2]; decide) (by rw [h1_2]; decide) (by rw [h1_2]; rfl) (by decide) ?_
        refine j_aload_n (y := I_X7_told) 0 dX7_told_54 rfl rfl ?_
        refine j_getR (y := I_X7_told) (j := 109) fl_7_7 k_108 rfl rfl dX7_told_55 ?_
        refine j_sipush (y := I_X7_told) (v := 782) dX7_told_58 (by decide) ?_
        refine j_ialdL (y := I_X7_told) k_109 (by decide) dX7_told_61 ?_
        exact j_iret (y := I_X7_told) rfl dX7_told_62 rfl
      · skip
        refine j_ite (y := I_X7_told) (fun h1_3 => ?_) (fun h1_3 => ?_)
        · refine j_tabIn (y := I_X7_told) 63 dX7_told_1 (by rw [h1_3]; decide) (by rw [h1_3]; decide) (by rw [h1_3]; rfl) (by decide) ?_
          refine j_aload_n (y := I_X7_told) 0 dX7_told_63 rfl rfl ?_
          refine j_getI (y := I_X7_told) fl_7_60 k_108 rfl dX7_told_64 ?_
          exact j_iret (y := I_X7_told) rfl dX7_told_67 rfl
        · skip
          refine j_ite (y := I_X7_told) (fun h1_4 => ?_) (fun h1_4 => ?_)
          · refine j_tabIn (y := I_X7_told) 68 dX7_told_1 (by rw [h1_4]; decide) (by rw [h1_4]; decide) (by rw [h1_4]; rfl) (by decide) ?_
            refine j_aload_n (y := I_X7_told) 0 dX7_told_68 rfl rfl ?_
            refine j_getR (y := I_X7_told) (j := 109) fl_7_7 k_108 rfl rfl dX7_told_69 ?_
            refine j_sipush (y := I_X7_told) (v := 786) dX7_told_72 (by decide) ?_
            refine j_ialdL (y := I_X7_told) k_109 (by decide) dX7_told_75 ?_
            refine j_if_ge (y := I_X7_told) 84 dX7_told_76 (by decide) (fun h76 => ?_) (fun h76 => ?_)
            · refine j_aload_n (y := I_X7_told) 0 dX7_told_84 rfl rfl ?_
              refine j_getR (y := I_X7_told) (j := 109) fl_7_7 k_108 rfl rfl dX7_told_85 ?_
              refine j_sipush (y := I_X7_told) (v := 786) dX7_told_88 (by decide) ?_
              refine j_ialdL (y := I_X7_told) k_109 (by decide) dX7_told_91 ?_
              exact j_iret (y := I_X7_told) rfl dX7_told_92 rfl
            · refine j_bipush (y := I_X7_told) (v := -100) dX7_told_79 (by decide) ?_
              refine j_goto (y := I_X7_told) 92 dX7_told_81 (by decide) ?_
              exact j_iret (y := I_X7_told) rfl dX7_told_92 rfl
          · skip
            have e0 : (x1).toInt ≠ 0 := fun e => h1_0 (Int32.toInt_inj.mp (e.trans (by decide)))
            have e1 : (x1).toInt ≠ 1 := fun e => h1_1 (Int32.toInt_inj.mp (e.trans (by decide)))
            have e2 : (x1).toInt ≠ 2 := fun e => h1_2 (Int32.toInt_inj.mp (e.trans (by decide)))
            have e3 : (x1).toInt ≠ 3 := fun e => h1_3 (Int32.toInt_inj.mp (e.trans (by decide)))
            have e4 : (x1).toInt ≠ 4 := fun e => h1_4 (Int32.toInt_inj.mp (e.trans (by decide)))
            refine j_tabOut (y := I_X7_told) 93 dX7_told_1 (by omega) (by decide) ?_
            refine j_aload_n (y := I_X7_told) 0 dX7_told_93 rfl rfl ?_
            refine j_iconst (y := I_X7_told) (v := -1) dX7_told_94 (by decide) ?_
            refine j_callViT (y := I_X7_told) (As := [.int (-1 : Int32)]) cv_7_72 ⟨Nat.le_of_ble_eq_true rfl, Nat.le_of_ble_eq_true rfl⟩ k_108 rfl (Nat.le_of_ble_eq_true rfl) dX7_told_95 (c_X7_found l w (-1 : Int32) S) ?_
            exact j_iret (y := I_X7_told) rfl dX7_told_98 rfl
theorem c_X7_told (l : Launch) (w : Wd) (x1 : Int32) (S : St)  : ∀ v, f_X7_told x1 S = some v → CtS l w I_X7_told [.ref (w.2.1 + 108), .int x1] S v.2 (some (.int v.1)) := fun v h => J.ct (av := [.ref (w.2.1 + 108), .int x1]) (Nat.le_of_ble_eq_true rfl) pn_7 (m_X7_told l w x1 S ) h
abbrev I_X7_warmth : MI := (yX7_warmth, cX7_warmth, 2, some .int, { frames := 4, cells := 0, slots := 0, locals := 93 })
theorem dX7_warmth_0 : decode cX7_warmth 0 = .ok (.iload_n 1, 1) := by decide +kernel
theorem dX7_warmth_1 : decode cX7_warmth 1 = .ok (.invokestatic 127, 3) := by decide +kernel
theorem dX7_warmth_4 : decode cX7_warmth 4 = .ok (.ifCond .eq 11, 3) := by decide +kernel
theorem dX7_warmth_7 : decode cX7_warmth 7 = .ok (.aload_n 0, 1) := by decide +kernel
theorem dX7_warmth_8 : decode cX7_warmth 8 = .ok (.iload_n 1, 1) := by decide +kernel
theorem dX7_warmth_9 : decode cX7_warmth 9 = .ok (.invokevirtual 130, 3) := by decide +kernel
theorem dX7_warmth_12 : decode cX7_warmth 12 = .ok (.goto 8, 3) := by decide +kernel
theorem dX7_warmth_15 : decode cX7_warmth 15 = .ok (.aload_n 0, 1) := by decide +kernel
theorem dX7_warmth_16 : decode cX7_warmth 16 = .ok (.iconst (-1), 1) := by decide +kernel
theorem dX7_warmth_17 : decode cX7_warmth 17 = .ok (.invokevirtual 72, 3) := by decide +kernel
theorem dX7_warmth_20 : decode cX7_warmth 20 = .ok (.ireturn, 1) := by decide +kernel
def f_X7_warmth (x1 : Int32) (S : St) : Option (Int32 × St) := if (f_X7_isDay x1) = true then ((f_X7_warm x1 S).bind fun v9 => (some (v9, S))) else (some (((f_X7_found (-1 : Int32) S).1), (f_X7_found (-1 : Int32) S).2))
set_option maxRecDepth 100000 in
set_option maxHeartbeats 4000000 in
theorem m_X7_warmth (l : Launch) (w : Wd) (x1 : Int32) (S : St)  : J l w I_X7_warmth 0 [(0, .ref (w.2.1 + 108)), (1, .int x1)] [] S (fun b => (some (.int b.1), b.2)) (f_X7_warmth x1 S) := by
  unfold f_X7_warmth
  refine j_iload_n (y := I_X7_warmth) 1 dX7_warmth_0 rfl rfl ?_
  refine j_callSzT (y := I_X7_warmth) (As := [.int x1]) cv_7_127 ⟨Nat.le_of_ble_eq_true rfl, Nat.le_of_ble_eq_true rfl⟩ rfl (Nat.le_of_ble_eq_true rfl) dX7_warmth_1 (c_X7_isDay l w x1 S) ?_
  refine j_if_eqB (y := I_X7_warmth) 15 dX7_warmth_4 (by decide) (fun h4 => ?_) (fun h4 => ?_)
  · refine j_aload_n (y := I_X7_warmth) 0 dX7_warmth_15 rfl rfl ?_
    refine j_iconst (y := I_X7_warmth) (v := -1) dX7_warmth_16 (by decide) ?_
    refine j_callViT (y := I_X7_warmth) (As := [.int (-1 : Int32)]) cv_7_72 ⟨Nat.le_of_ble_eq_true rfl, Nat.le_of_ble_eq_true rfl⟩ k_108 rfl (Nat.le_of_ble_eq_true rfl) dX7_warmth_17 (c_X7_found l w (-1 : Int32) S) ?_
    exact j_iret (y := I_X7_warmth) rfl dX7_warmth_20 rfl
  · refine j_aload_n (y := I_X7_warmth) 0 dX7_warmth_7 rfl rfl ?_
    refine j_iload_n (y := I_X7_warmth) 1 dX7_warmth_8 rfl rfl ?_
    refine j_callViR (y := I_X7_warmth) (As := [.int x1]) cv_7_130 ⟨Nat.le_of_ble_eq_true rfl, Nat.le_of_ble_eq_true rfl⟩ k_108 rfl (Nat.le_of_ble_eq_true rfl) dX7_warmth_9 (c_X7_warm l w x1 S) (fun v9 h9 => ?_)
    refine j_goto (y := I_X7_warmth) 20 dX7_warmth_12 (by decide) ?_
    exact j_iret (y := I_X7_warmth) rfl dX7_warmth_20 rfl
theorem c_X7_warmth (l : Launch) (w : Wd) (x1 : Int32) (S : St)  : ∀ v, f_X7_warmth x1 S = some v → CtS l w I_X7_warmth [.ref (w.2.1 + 108), .int x1] S v.2 (some (.int v.1)) := fun v h => J.ct (av := [.ref (w.2.1 + 108), .int x1]) (Nat.le_of_ble_eq_true rfl) pn_7 (m_X7_warmth l w x1 S ) h
