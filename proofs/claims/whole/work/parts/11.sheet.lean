abbrev I_X4_has : MI := (yX4_has, cX4_has, 2, some .boolean, { frames := 0, cells := 0, slots := 0, locals := 0 })
theorem dX4_has_0 : decode cX4_has 0 = .ok (.iload_n 1, 1) := by decide +kernel
theorem dX4_has_1 : decode cX4_has 1 = .ok (.ifCond .lt 15, 3) := by decide +kernel
theorem dX4_has_4 : decode cX4_has 4 = .ok (.iload_n 1, 1) := by decide +kernel
theorem dX4_has_5 : decode cX4_has 5 = .ok (.aload_n 0, 1) := by decide +kernel
theorem dX4_has_6 : decode cX4_has 6 = .ok (.getfield 19, 3) := by decide +kernel
theorem dX4_has_9 : decode cX4_has 9 = .ok (.if_icmp .ge 7, 3) := by decide +kernel
theorem dX4_has_12 : decode cX4_has 12 = .ok (.iconst 1, 1) := by decide +kernel
theorem dX4_has_13 : decode cX4_has 13 = .ok (.goto 4, 3) := by decide +kernel
theorem dX4_has_16 : decode cX4_has 16 = .ok (.iconst 0, 1) := by decide +kernel
theorem dX4_has_17 : decode cX4_has 17 = .ok (.ireturn, 1) := by decide +kernel
def f_X4_has (t : Nat) (x1 : Int32) (S : St) : Bool := if x1 < 0 then (false) else (if x1 < (rd S t 1) then (true) else (false))
set_option maxRecDepth 100000 in
set_option maxHeartbeats 4000000 in
theorem m_X4_has (l : Launch) (w : Wd) (t : Nat) (x1 : Int32) (S : St) (ht : kd t = KdSheet) : J l w I_X4_has 0 [(0, .ref (w.2.1 + t)), (1, .int x1)] [] S (fun b => (some (.int (b2i b)), S)) (some (f_X4_has t x1 S)) := by
  unfold f_X4_has
  refine j_iload_n (y := I_X4_has) 1 dX4_has_0 rfl rfl ?_
  refine j_si ?_
  refine j_if_lt (y := I_X4_has) 16 dX4_has_1 (by decide) (fun h1 => ?_) (fun h1 => ?_)
  · refine j_iconst (y := I_X4_has) (v := 0) dX4_has_16 (by decide) ?_
    exact j_zret (y := I_X4_has) (q := false) rfl rfl dX4_has_17 rfl
  · refine j_iload_n (y := I_X4_has) 1 dX4_has_4 rfl rfl ?_
    refine j_aload_n (y := I_X4_has) 0 dX4_has_5 rfl rfl ?_
    refine j_getI (y := I_X4_has) fl_4_19 ht rfl dX4_has_6 ?_
    refine j_si ?_
    refine j_icmp_ge (y := I_X4_has) 16 dX4_has_9 (by decide) (fun h9 => ?_) (fun h9 => ?_)
    · refine j_iconst (y := I_X4_has) (v := 0) dX4_has_16 (by decide) ?_
      exact j_zret (y := I_X4_has) (q := false) rfl rfl dX4_has_17 rfl
    · refine j_iconst (y := I_X4_has) (v := 1) dX4_has_12 (by decide) ?_
      refine j_goto (y := I_X4_has) 17 dX4_has_13 (by decide) ?_
      exact j_zret (y := I_X4_has) (q := true) rfl rfl dX4_has_17 rfl
theorem c_X4_has (l : Launch) (w : Wd) (t : Nat) (x1 : Int32) (S : St) (ht : kd t = KdSheet) : CtS l w I_X4_has [.ref (w.2.1 + t), .int x1] S S (some (.int (b2i (f_X4_has t x1 S)))) := J.ct (av := [.ref (w.2.1 + t), .int x1]) (Nat.le_of_ble_eq_true rfl) pn_4 (m_X4_has l w t x1 S ht) rfl
abbrev I_X4_isNan : MI := (yX4_isNan, cX4_isNan, 1, some .boolean, { frames := 0, cells := 0, slots := 0, locals := 0 })
theorem dX4_isNan_0 : decode cX4_isNan 0 = .ok (.iload_n 0, 1) := by decide +kernel
theorem dX4_isNan_1 : decode cX4_isNan 1 = .ok (.ldc 27, 2) := by decide +kernel
theorem dX4_isNan_3 : decode cX4_isNan 3 = .ok (.iand, 1) := by decide +kernel
theorem dX4_isNan_4 : decode cX4_isNan 4 = .ok (.ldc 28, 2) := by decide +kernel
theorem dX4_isNan_6 : decode cX4_isNan 6 = .ok (.if_icmp .le 7, 3) := by decide +kernel
theorem dX4_isNan_9 : decode cX4_isNan 9 = .ok (.iconst 1, 1) := by decide +kernel
theorem dX4_isNan_10 : decode cX4_isNan 10 = .ok (.goto 4, 3) := by decide +kernel
theorem dX4_isNan_13 : decode cX4_isNan 13 = .ok (.iconst 0, 1) := by decide +kernel
theorem dX4_isNan_14 : decode cX4_isNan 14 = .ok (.ireturn, 1) := by decide +kernel
def f_X4_isNan (x0 : Int32)  : Bool := if (2139095040 : Int32) < (x0 &&& (2147483647 : Int32)) then (true) else (false)
set_option maxRecDepth 100000 in
set_option maxHeartbeats 4000000 in
theorem m_X4_isNan (l : Launch) (w : Wd) (x0 : Int32) (S : St)  : J l w I_X4_isNan 0 [(0, .int x0)] [] S (fun b => (some (.int (b2i b)), S)) (some (f_X4_isNan x0)) := by
  unfold f_X4_isNan
  refine j_iload_n (y := I_X4_isNan) 0 dX4_isNan_0 rfl rfl ?_
  refine j_ldc (y := I_X4_isNan) (v := 2147483647) dX4_isNan_1 (gm 463 (by decide +kernel) rfl) ?_
  refine j_iand (y := I_X4_isNan) dX4_isNan_3 ?_
  refine j_ldc (y := I_X4_isNan) (v := 2139095040) dX4_isNan_4 (gm 464 (by decide +kernel) rfl) ?_
  refine j_si ?_
  refine j_icmp_le (y := I_X4_isNan) 13 dX4_isNan_6 (by decide) (fun h6 => ?_) (fun h6 => ?_)
  · refine j_iconst (y := I_X4_isNan) (v := 0) dX4_isNan_13 (by decide) ?_
    exact j_zret (y := I_X4_isNan) (q := false) rfl rfl dX4_isNan_14 rfl
  · refine j_iconst (y := I_X4_isNan) (v := 1) dX4_isNan_9 (by decide) ?_
    refine j_goto (y := I_X4_isNan) 14 dX4_isNan_10 (by decide) ?_
    exact j_zret (y := I_X4_isNan) (q := true) rfl rfl dX4_isNan_14 rfl
theorem c_X4_isNan (l : Launch) (w : Wd) (x0 : Int32) (S : St)  : CtS l w I_X4_isNan [.int x0] S S (some (.int (b2i (f_X4_isNan x0)))) := J.ct (av := [.int x0]) (Nat.le_of_ble_eq_true rfl) pn_4 (m_X4_isNan l w x0 S ) rfl
abbrev I_X4_isNumber : MI := (yX4_isNumber, cX4_isNumber, 2, some .boolean, { frames := 1, cells := 0, slots := 0, locals := 21 })
theorem dX4_isNumber_0 : decode cX4_isNumber 0 = .ok (.aload_n 0, 1) := by decide +kernel
theorem dX4_isNumber_1 : decode cX4_isNumber 1 = .ok (.iload_n 1, 1) := by decide +kernel
theorem dX4_isNumber_2 : decode cX4_isNumber 2 = .ok (.invokevirtual 29, 3) := by decide +kernel
theorem dX4_isNumber_5 : decode cX4_isNumber 5 = .ok (.ifCond .eq 27, 3) := by decide +kernel
theorem dX4_isNumber_8 : decode cX4_isNumber 8 = .ok (.aload_n 0, 1) := by decide +kernel
theorem dX4_isNumber_9 : decode cX4_isNumber 9 = .ok (.getfield 15, 3) := by decide +kernel
theorem dX4_isNumber_12 : decode cX4_isNumber 12 = .ok (.iconst 2, 1) := by decide +kernel
theorem dX4_isNumber_13 : decode cX4_isNumber 13 = .ok (.if_icmp .ne 15, 3) := by decide +kernel
theorem dX4_isNumber_16 : decode cX4_isNumber 16 = .ok (.aload_n 0, 1) := by decide +kernel
theorem dX4_isNumber_17 : decode cX4_isNumber 17 = .ok (.getfield 9, 3) := by decide +kernel
theorem dX4_isNumber_20 : decode cX4_isNumber 20 = .ok (.iload_n 1, 1) := by decide +kernel
theorem dX4_isNumber_21 : decode cX4_isNumber 21 = .ok (.iaload, 1) := by decide +kernel
theorem dX4_isNumber_22 : decode cX4_isNumber 22 = .ok (.invokestatic 22, 3) := by decide +kernel
theorem dX4_isNumber_25 : decode cX4_isNumber 25 = .ok (.ifCond .ne 7, 3) := by decide +kernel
theorem dX4_isNumber_28 : decode cX4_isNumber 28 = .ok (.iconst 1, 1) := by decide +kernel
theorem dX4_isNumber_29 : decode cX4_isNumber 29 = .ok (.goto 4, 3) := by decide +kernel
theorem dX4_isNumber_32 : decode cX4_isNumber 32 = .ok (.iconst 0, 1) := by decide +kernel
theorem dX4_isNumber_33 : decode cX4_isNumber 33 = .ok (.ireturn, 1) := by decide +kernel
theorem cv_4_22 : CS RX4 22 1 I_X4_isNan := ⟨⟨⟨gm 460 (by decide +kernel) rfl, gm 462 (by decide +kernel) rfl, gm 41 (by decide +kernel) rfl, mh_4.1, mh_4.2, by decide +kernel⟩, gm 461 (by decide +kernel) rfl⟩, rfl, rfl⟩
theorem cv_4_29 : CV RX4 29 1 4 I_X4_has := ⟨⟨⟨gm 505 (by decide +kernel) rfl, gm 455 (by decide +kernel) rfl, gm 41 (by decide +kernel) rfl, mh_4.1, mh_4.2, by decide +kernel⟩, gm 453 (by decide +kernel) rfl, gm 454 (by decide +kernel) rfl⟩, ⟨_, _, rfl⟩, rfl, rfl⟩
def f_X4_isNumber (t : Nat) (x1 : Int32) (S : St) : Option (Bool) := if (f_X4_has t x1 S) = true then (if (rd S t 0) = (2 : Int32) then (if inb x1 50 = true then (if (f_X4_isNan (rd S (t + 1) (ix x1))) = true then (some false) else (some true)) else none) else (some true)) else (some false)
set_option maxRecDepth 100000 in
set_option maxHeartbeats 4000000 in
theorem m_X4_isNumber (l : Launch) (w : Wd) (t : Nat) (x1 : Int32) (S : St) (ht : kd t = KdSheet) : J l w I_X4_isNumber 0 [(0, .ref (w.2.1 + t)), (1, .int x1)] [] S (fun b => (some (.int (b2i b)), S)) (f_X4_isNumber t x1 S) := by
  unfold f_X4_isNumber
  refine j_aload_n (y := I_X4_isNumber) 0 dX4_isNumber_0 rfl rfl ?_
  refine j_iload_n (y := I_X4_isNumber) 1 dX4_isNumber_1 rfl rfl ?_
  refine j_callVzT (y := I_X4_isNumber) (As := [.int x1]) cv_4_29 ⟨Nat.le_of_ble_eq_true rfl, Nat.le_of_ble_eq_true rfl⟩ ht rfl (Nat.le_of_ble_eq_true rfl) dX4_isNumber_2 (c_X4_has l w t x1 S ht) ?_
  refine j_if_eqB (y := I_X4_isNumber) 32 dX4_isNumber_5 (by decide) (fun h5 => ?_) (fun h5 => ?_)
  · refine j_iconst (y := I_X4_isNumber) (v := 0) dX4_isNumber_32 (by decide) ?_
    exact j_zret (y := I_X4_isNumber) (q := false) rfl rfl dX4_isNumber_33 rfl
  · refine j_aload_n (y := I_X4_isNumber) 0 dX4_isNumber_8 rfl rfl ?_
    refine j_getI (y := I_X4_isNumber) fl_4_15 ht rfl dX4_isNumber_9 ?_
    refine j_iconst (y := I_X4_isNumber) (v := 2) dX4_isNumber_12 (by decide) ?_
    refine j_icmp_ne (y := I_X4_isNumber) 28 dX4_isNumber_13 (by decide) (fun h13 => ?_) (fun h13 => ?_)
    · refine j_iconst (y := I_X4_isNumber) (v := 1) dX4_isNumber_28 (by decide) ?_
      refine j_goto (y := I_X4_isNumber) 33 dX4_isNumber_29 (by decide) ?_
      exact j_zret (y := I_X4_isNumber) (q := true) rfl rfl dX4_isNumber_33 rfl
    · refine j_aload_n (y := I_X4_isNumber) 0 dX4_isNumber_16 rfl rfl ?_
      refine j_getR (y := I_X4_isNumber) (j := (t + 1)) fl_4_9 ht rfl rfl dX4_isNumber_17 ?_
      refine j_iload_n (y := I_X4_isNumber) 1 dX4_isNumber_20 rfl rfl ?_
      refine j_iald (y := I_X4_isNumber) (kd_SheetA ht) dX4_isNumber_21 (fun h21 => ?_)
      refine j_callSzT (y := I_X4_isNumber) (As := [.int (rd S (t + 1) (ix x1))]) cv_4_22 ⟨Nat.le_of_ble_eq_true rfl, Nat.le_of_ble_eq_true rfl⟩ rfl (Nat.le_of_ble_eq_true rfl) dX4_isNumber_22 (c_X4_isNan l w (rd S (t + 1) (ix x1)) S) ?_
      refine j_if_neB (y := I_X4_isNumber) 32 dX4_isNumber_25 (by decide) (fun h25 => ?_) (fun h25 => ?_)
      · refine j_iconst (y := I_X4_isNumber) (v := 0) dX4_isNumber_32 (by decide) ?_
        exact j_zret (y := I_X4_isNumber) (q := false) rfl rfl dX4_isNumber_33 rfl
      · refine j_iconst (y := I_X4_isNumber) (v := 1) dX4_isNumber_28 (by decide) ?_
        refine j_goto (y := I_X4_isNumber) 33 dX4_isNumber_29 (by decide) ?_
        exact j_zret (y := I_X4_isNumber) (q := true) rfl rfl dX4_isNumber_33 rfl
theorem c_X4_isNumber (l : Launch) (w : Wd) (t : Nat) (x1 : Int32) (S : St) (ht : kd t = KdSheet) : ∀ v, f_X4_isNumber t x1 S = some v → CtS l w I_X4_isNumber [.ref (w.2.1 + t), .int x1] S S (some (.int (b2i v))) := fun v h => J.ct (av := [.ref (w.2.1 + t), .int x1]) (Nat.le_of_ble_eq_true rfl) pn_4 (m_X4_isNumber l w t x1 S ht) h
abbrev I_X4_wholeOfFloat : MI := (yX4_wholeOfFloat, cX4_wholeOfFloat, 2, some .int, { frames := 0, cells := 0, slots := 0, locals := 0 })
theorem dX4_wholeOfFloat_0 : decode cX4_wholeOfFloat 0 = .ok (.iload_n 0, 1) := by decide +kernel
theorem dX4_wholeOfFloat_1 : decode cX4_wholeOfFloat 1 = .ok (.bipush 23, 2) := by decide +kernel
theorem dX4_wholeOfFloat_3 : decode cX4_wholeOfFloat 3 = .ok (.iushr, 1) := by decide +kernel
theorem dX4_wholeOfFloat_4 : decode cX4_wholeOfFloat 4 = .ok (.sipush 255, 3) := by decide +kernel
theorem dX4_wholeOfFloat_7 : decode cX4_wholeOfFloat 7 = .ok (.iand, 1) := by decide +kernel
theorem dX4_wholeOfFloat_8 : decode cX4_wholeOfFloat 8 = .ok (.bipush 127, 2) := by decide +kernel
theorem dX4_wholeOfFloat_10 : decode cX4_wholeOfFloat 10 = .ok (.isub, 1) := by decide +kernel
theorem dX4_wholeOfFloat_11 : decode cX4_wholeOfFloat 11 = .ok (.istore_n 1, 1) := by decide +kernel
theorem dX4_wholeOfFloat_12 : decode cX4_wholeOfFloat 12 = .ok (.iload_n 0, 1) := by decide +kernel
theorem dX4_wholeOfFloat_13 : decode cX4_wholeOfFloat 13 = .ok (.ifCond .lt 7, 3) := by decide +kernel
theorem dX4_wholeOfFloat_16 : decode cX4_wholeOfFloat 16 = .ok (.iload_n 1, 1) := by decide +kernel
theorem dX4_wholeOfFloat_17 : decode cX4_wholeOfFloat 17 = .ok (.ifCond .ge 5, 3) := by decide +kernel
theorem dX4_wholeOfFloat_20 : decode cX4_wholeOfFloat 20 = .ok (.iconst 0, 1) := by decide +kernel
theorem dX4_wholeOfFloat_21 : decode cX4_wholeOfFloat 21 = .ok (.ireturn, 1) := by decide +kernel
theorem dX4_wholeOfFloat_22 : decode cX4_wholeOfFloat 22 = .ok (.iload_n 1, 1) := by decide +kernel
theorem dX4_wholeOfFloat_23 : decode cX4_wholeOfFloat 23 = .ok (.bipush 6, 2) := by decide +kernel
theorem dX4_wholeOfFloat_25 : decode cX4_wholeOfFloat 25 = .ok (.if_icmp .lt 6, 3) := by decide +kernel
theorem dX4_wholeOfFloat_28 : decode cX4_wholeOfFloat 28 = .ok (.bipush 64, 2) := by decide +kernel
theorem dX4_wholeOfFloat_30 : decode cX4_wholeOfFloat 30 = .ok (.ireturn, 1) := by decide +kernel
theorem dX4_wholeOfFloat_31 : decode cX4_wholeOfFloat 31 = .ok (.iload_n 0, 1) := by decide +kernel
theorem dX4_wholeOfFloat_32 : decode cX4_wholeOfFloat 32 = .ok (.ldc 51, 2) := by decide +kernel
theorem dX4_wholeOfFloat_34 : decode cX4_wholeOfFloat 34 = .ok (.iand, 1) := by decide +kernel
theorem dX4_wholeOfFloat_35 : decode cX4_wholeOfFloat 35 = .ok (.ldc 52, 2) := by decide +kernel
theorem dX4_wholeOfFloat_37 : decode cX4_wholeOfFloat 37 = .ok (.ior, 1) := by decide +kernel
theorem dX4_wholeOfFloat_38 : decode cX4_wholeOfFloat 38 = .ok (.bipush 23, 2) := by decide +kernel
theorem dX4_wholeOfFloat_40 : decode cX4_wholeOfFloat 40 = .ok (.iload_n 1, 1) := by decide +kernel
theorem dX4_wholeOfFloat_41 : decode cX4_wholeOfFloat 41 = .ok (.isub, 1) := by decide +kernel
theorem dX4_wholeOfFloat_42 : decode cX4_wholeOfFloat 42 = .ok (.ishr, 1) := by decide +kernel
theorem dX4_wholeOfFloat_43 : decode cX4_wholeOfFloat 43 = .ok (.ireturn, 1) := by decide +kernel
def f_X4_wholeOfFloat (x0 : Int32)  : Int32 := if x0 < 0 then ((0 : Int32)) else (if ((((x0.toUInt32 >>> ((23 : Int32).toUInt32 &&& Int32.toUInt32 31)).toInt32) &&& (255 : Int32)) - (127 : Int32)) < 0 then ((0 : Int32)) else (if ((((x0.toUInt32 >>> ((23 : Int32).toUInt32 &&& Int32.toUInt32 31)).toInt32) &&& (255 : Int32)) - (127 : Int32)) < (6 : Int32) then ((((x0 &&& (8388607 : Int32)) ||| (8388608 : Int32)) >>> (((23 : Int32) - ((((x0.toUInt32 >>> ((23 : Int32).toUInt32 &&& Int32.toUInt32 31)).toInt32) &&& (255 : Int32)) - (127 : Int32))) &&& 31))) else ((64 : Int32))))
set_option maxRecDepth 100000 in
set_option maxHeartbeats 4000000 in
theorem m_X4_wholeOfFloat (l : Launch) (w : Wd) (x0 : Int32) (S : St)  : J l w I_X4_wholeOfFloat 0 [(0, .int x0)] [] S (fun b => (some (.int b), S)) (some (f_X4_wholeOfFloat x0)) := by
  unfold f_X4_wholeOfFloat
  refine j_iload_n (y := I_X4_wholeOfFloat) 0 dX4_wholeOfFloat_0 rfl rfl ?_
  refine j_bipush (y := I_X4_wholeOfFloat) (v := 23) dX4_wholeOfFloat_1 (by decide) ?_
  refine j_iushr (y := I_X4_wholeOfFloat) dX4_wholeOfFloat_3 ?_
  refine j_sipush (y := I_X4_wholeOfFloat) (v := 255) dX4_wholeOfFloat_4 (by decide) ?_
  refine j_iand (y := I_X4_wholeOfFloat) dX4_wholeOfFloat_7 ?_
  refine j_bipush (y := I_X4_wholeOfFloat) (v := 127) dX4_wholeOfFloat_8 (by decide) ?_
  refine j_isub (y := I_X4_wholeOfFloat) dX4_wholeOfFloat_10 ?_
  refine j_istore_n (y := I_X4_wholeOfFloat) (ls' := [(1, .int ((((x0.toUInt32 >>> ((23 : Int32).toUInt32 &&& Int32.toUInt32 31)).toInt32) &&& (255 : Int32)) - (127 : Int32))), (0, .int x0)]) dX4_wholeOfFloat_11 rfl (by decide) rfl ?_
  refine j_iload_n (y := I_X4_wholeOfFloat) 1 dX4_wholeOfFloat_12 rfl rfl ?_
  refine j_si ?_
  refine j_if_lt (y := I_X4_wholeOfFloat) 20 dX4_wholeOfFloat_13 (by decide) (fun h13 => ?_) (fun h13 => ?_)
  · refine j_iconst (y := I_X4_wholeOfFloat) (v := 0) dX4_wholeOfFloat_20 (by decide) ?_
    exact j_iret (y := I_X4_wholeOfFloat) rfl dX4_wholeOfFloat_21 rfl
  · refine j_iload_n (y := I_X4_wholeOfFloat) 0 dX4_wholeOfFloat_16 rfl rfl ?_
    refine j_si ?_
    refine j_if_ge (y := I_X4_wholeOfFloat) 22 dX4_wholeOfFloat_17 (by decide) (fun h17 => ?_) (fun h17 => ?_)
    · refine j_iload_n (y := I_X4_wholeOfFloat) 0 dX4_wholeOfFloat_22 rfl rfl ?_
      refine j_bipush (y := I_X4_wholeOfFloat) (v := 6) dX4_wholeOfFloat_23 (by decide) ?_
      refine j_si ?_
      refine j_icmp_lt (y := I_X4_wholeOfFloat) 31 dX4_wholeOfFloat_25 (by decide) (fun h25 => ?_) (fun h25 => ?_)
      · refine j_iload_n (y := I_X4_wholeOfFloat) 1 dX4_wholeOfFloat_31 rfl rfl ?_
        refine j_ldc (y := I_X4_wholeOfFloat) (v := 8388607) dX4_wholeOfFloat_32 (gm 513 (by decide +kernel) rfl) ?_
        refine j_iand (y := I_X4_wholeOfFloat) dX4_wholeOfFloat_34 ?_
        refine j_ldc (y := I_X4_wholeOfFloat) (v := 8388608) dX4_wholeOfFloat_35 (gm 514 (by decide +kernel) rfl) ?_
        refine j_ior (y := I_X4_wholeOfFloat) dX4_wholeOfFloat_37 ?_
        refine j_bipush (y := I_X4_wholeOfFloat) (v := 23) dX4_wholeOfFloat_38 (by decide) ?_
        refine j_iload_n (y := I_X4_wholeOfFloat) 0 dX4_wholeOfFloat_40 rfl rfl ?_
        refine j_isub (y := I_X4_wholeOfFloat) dX4_wholeOfFloat_41 ?_
        refine j_ishr (y := I_X4_wholeOfFloat) dX4_wholeOfFloat_42 ?_
        exact j_iret (y := I_X4_wholeOfFloat) rfl dX4_wholeOfFloat_43 rfl
      · refine j_bipush (y := I_X4_wholeOfFloat) (v := 64) dX4_wholeOfFloat_28 (by decide) ?_
        exact j_iret (y := I_X4_wholeOfFloat) rfl dX4_wholeOfFloat_30 rfl
    · refine j_iconst (y := I_X4_wholeOfFloat) (v := 0) dX4_wholeOfFloat_20 (by decide) ?_
      exact j_iret (y := I_X4_wholeOfFloat) rfl dX4_wholeOfFloat_21 rfl
theorem c_X4_wholeOfFloat (l : Launch) (w : Wd) (x0 : Int32) (S : St)  : CtS l w I_X4_wholeOfFloat [.int x0] S S (some (.int (f_X4_wholeOfFloat x0))) := J.ct (av := [.int x0]) (Nat.le_of_ble_eq_true rfl) pn_4 (m_X4_wholeOfFloat l w x0 S ) rfl
abbrev I_X4_boundedAt : MI := (yX4_boundedAt, cX4_boundedAt, 3, some .int, { frames := 1, cells := 0, slots := 0, locals := 21 })
theorem dX4_boundedAt_0 : decode cX4_boundedAt 0 = .ok (.aload_n 0, 1) := by decide +kernel
theorem dX4_boundedAt_1 : decode cX4_boundedAt 1 = .ok (.getfield 15, 3) := by decide +kernel
theorem dX4_boundedAt_4 : decode cX4_boundedAt 4 = .ok (.iconst 2, 1) := by decide +kernel
theorem dX4_boundedAt_5 : decode cX4_boundedAt 5 = .ok (.if_icmp .ne 15, 3) := by decide +kernel
theorem dX4_boundedAt_8 : decode cX4_boundedAt 8 = .ok (.aload_n 0, 1) := by decide +kernel
theorem dX4_boundedAt_9 : decode cX4_boundedAt 9 = .ok (.getfield 9, 3) := by decide +kernel
theorem dX4_boundedAt_12 : decode cX4_boundedAt 12 = .ok (.iload_n 1, 1) := by decide +kernel
theorem dX4_boundedAt_13 : decode cX4_boundedAt 13 = .ok (.iaload, 1) := by decide +kernel
theorem dX4_boundedAt_14 : decode cX4_boundedAt 14 = .ok (.invokestatic 39, 3) := by decide +kernel
theorem dX4_boundedAt_17 : decode cX4_boundedAt 17 = .ok (.goto 9, 3) := by decide +kernel
theorem dX4_boundedAt_20 : decode cX4_boundedAt 20 = .ok (.aload_n 0, 1) := by decide +kernel
theorem dX4_boundedAt_21 : decode cX4_boundedAt 21 = .ok (.getfield 9, 3) := by decide +kernel
theorem dX4_boundedAt_24 : decode cX4_boundedAt 24 = .ok (.iload_n 1, 1) := by decide +kernel
theorem dX4_boundedAt_25 : decode cX4_boundedAt 25 = .ok (.iaload, 1) := by decide +kernel
theorem dX4_boundedAt_26 : decode cX4_boundedAt 26 = .ok (.istore_n 2, 1) := by decide +kernel
theorem dX4_boundedAt_27 : decode cX4_boundedAt 27 = .ok (.iconst 0, 1) := by decide +kernel
theorem dX4_boundedAt_28 : decode cX4_boundedAt 28 = .ok (.bipush 60, 2) := by decide +kernel
theorem dX4_boundedAt_30 : decode cX4_boundedAt 30 = .ok (.iload_n 2, 1) := by decide +kernel
theorem dX4_boundedAt_31 : decode cX4_boundedAt 31 = .ok (.invokestatic 42, 3) := by decide +kernel
theorem dX4_boundedAt_34 : decode cX4_boundedAt 34 = .ok (.invokestatic 48, 3) := by decide +kernel
theorem dX4_boundedAt_37 : decode cX4_boundedAt 37 = .ok (.ireturn, 1) := by decide +kernel
theorem cv_4_39 : CS RX4 39 1 I_X4_wholeOfFloat := ⟨⟨⟨gm 510 (by decide +kernel) rfl, gm 512 (by decide +kernel) rfl, gm 41 (by decide +kernel) rfl, mh_4.1, mh_4.2, by decide +kernel⟩, gm 511 (by decide +kernel) rfl⟩, rfl, rfl⟩
def f_X4_boundedAt_J26 (j26s_0 : Int32) (S : St) : Option (Int32) := some (mxI (0 : Int32) (mnI (60 : Int32) j26s_0))
def f_X4_boundedAt (t : Nat) (x1 : Int32) (S : St) : Option (Int32) := if (rd S t 0) = (2 : Int32) then (if inb x1 50 = true then (f_X4_boundedAt_J26 (f_X4_wholeOfFloat (rd S (t + 1) (ix x1))) S) else none) else (if inb x1 50 = true then (f_X4_boundedAt_J26 (rd S (t + 1) (ix x1)) S) else none)
set_option maxRecDepth 100000 in
theorem jj_X4_boundedAt_26 (l : Launch) (w : Wd) (j26s_0 : Int32) (S : St)  : J l w I_X4_boundedAt 26 [] [.int j26s_0] S (fun b => (some (.int b), S)) (f_X4_boundedAt_J26 j26s_0 S) := by
  unfold f_X4_boundedAt_J26
  refine j_istore_n (y := I_X4_boundedAt) (ls' := [(2, .int j26s_0)]) dX4_boundedAt_26 rfl (by decide) rfl ?_
  refine j_iconst (y := I_X4_boundedAt) (v := 0) dX4_boundedAt_27 (by decide) ?_
  refine j_bipush (y := I_X4_boundedAt) (v := 60) dX4_boundedAt_28 (by decide) ?_
  refine j_iload_n (y := I_X4_boundedAt) 0 dX4_boundedAt_30 rfl rfl ?_
  refine j_mmin (y := I_X4_boundedAt) (gm 515 (by decide +kernel) rfl) (Nat.le_of_ble_eq_true rfl) (Nat.le_of_ble_eq_true rfl) dX4_boundedAt_31 ?_
  refine j_mmax (y := I_X4_boundedAt) (gm 516 (by decide +kernel) rfl) (Nat.le_of_ble_eq_true rfl) (Nat.le_of_ble_eq_true rfl) dX4_boundedAt_34 ?_
  exact j_iret (y := I_X4_boundedAt) rfl dX4_boundedAt_37 rfl
set_option maxRecDepth 100000 in
set_option maxHeartbeats 4000000 in
theorem m_X4_boundedAt (l : Launch) (w : Wd) (t : Nat) (x1 : Int32) (S : St) (ht : kd t = KdSheet) : J l w I_X4_boundedAt 0 [(0, .ref (w.2.1 + t)), (1, .int x1)] [] S (fun b => (some (.int b), S)) (f_X4_boundedAt t x1 S) := by
  unfold f_X4_boundedAt
  refine j_aload_n (y := I_X4_boundedAt) 0 dX4_boundedAt_0 rfl rfl ?_
  refine j_getI (y := I_X4_boundedAt) fl_4_15 ht rfl dX4_boundedAt_1 ?_
  refine j_iconst (y := I_X4_boundedAt) (v := 2) dX4_boundedAt_4 (by decide) ?_
  refine j_icmp_ne (y := I_X4_boundedAt) 20 dX4_boundedAt_5 (by decide) (fun h5 => ?_) (fun h5 => ?_)
  · refine j_aload_n (y := I_X4_boundedAt) 0 dX4_boundedAt_20 rfl rfl ?_
    refine j_getR (y := I_X4_boundedAt) (j := (t + 1)) fl_4_9 ht rfl rfl dX4_boundedAt_21 ?_
    refine j_iload_n (y := I_X4_boundedAt) 1 dX4_boundedAt_24 rfl rfl ?_
    refine j_iald (y := I_X4_boundedAt) (kd_SheetA ht) dX4_boundedAt_25 (fun h25 => ?_)
    refine j_sub [] rfl ?_
    exact jj_X4_boundedAt_26 l w (rd S (t + 1) (ix x1)) S
  · refine j_aload_n (y := I_X4_boundedAt) 0 dX4_boundedAt_8 rfl rfl ?_
    refine j_getR (y := I_X4_boundedAt) (j := (t + 1)) fl_4_9 ht rfl rfl dX4_boundedAt_9 ?_
    refine j_iload_n (y := I_X4_boundedAt) 1 dX4_boundedAt_12 rfl rfl ?_
    refine j_iald (y := I_X4_boundedAt) (kd_SheetA ht) dX4_boundedAt_13 (fun h13 => ?_)
    refine j_callSiT (y := I_X4_boundedAt) (As := [.int (rd S (t + 1) (ix x1))]) cv_4_39 ⟨Nat.le_of_ble_eq_true rfl, Nat.le_of_ble_eq_true rfl⟩ rfl (Nat.le_of_ble_eq_true rfl) dX4_boundedAt_14 (c_X4_wholeOfFloat l w (rd S (t + 1) (ix x1)) S) ?_
    refine j_goto (y := I_X4_boundedAt) 26 dX4_boundedAt_17 (by decide) ?_
    refine j_sub [] rfl ?_
    exact jj_X4_boundedAt_26 l w (f_X4_wholeOfFloat (rd S (t + 1) (ix x1))) S
theorem c_X4_boundedAt (l : Launch) (w : Wd) (t : Nat) (x1 : Int32) (S : St) (ht : kd t = KdSheet) : ∀ v, f_X4_boundedAt t x1 S = some v → CtS l w I_X4_boundedAt [.ref (w.2.1 + t), .int x1] S S (some (.int v)) := fun v h => J.ct (av := [.ref (w.2.1 + t), .int x1]) (Nat.le_of_ble_eq_true rfl) pn_4 (m_X4_boundedAt l w t x1 S ht) h
abbrev I_X4_warmthAt : MI := (yX4_warmthAt, cX4_warmthAt, 4, some .int, { frames := 2, cells := 0, slots := 0, locals := 43 })
theorem dX4_warmthAt_0 : decode cX4_warmthAt 0 = .ok (.aload_n 0, 1) := by decide +kernel
theorem dX4_warmthAt_1 : decode cX4_warmthAt 1 = .ok (.iload_n 1, 1) := by decide +kernel
theorem dX4_warmthAt_2 : decode cX4_warmthAt 2 = .ok (.invokevirtual 32, 3) := by decide +kernel
theorem dX4_warmthAt_5 : decode cX4_warmthAt 5 = .ok (.ifCond .eq 9, 3) := by decide +kernel
theorem dX4_warmthAt_8 : decode cX4_warmthAt 8 = .ok (.aload_n 0, 1) := by decide +kernel
theorem dX4_warmthAt_9 : decode cX4_warmthAt 9 = .ok (.iload_n 1, 1) := by decide +kernel
theorem dX4_warmthAt_10 : decode cX4_warmthAt 10 = .ok (.invokevirtual 35, 3) := by decide +kernel
theorem dX4_warmthAt_13 : decode cX4_warmthAt 13 = .ok (.ireturn, 1) := by decide +kernel
theorem dX4_warmthAt_14 : decode cX4_warmthAt 14 = .ok (.aload_n 0, 1) := by decide +kernel
theorem dX4_warmthAt_15 : decode cX4_warmthAt 15 = .ok (.iload_n 1, 1) := by decide +kernel
theorem dX4_warmthAt_16 : decode cX4_warmthAt 16 = .ok (.iconst 1, 1) := by decide +kernel
theorem dX4_warmthAt_17 : decode cX4_warmthAt 17 = .ok (.isub, 1) := by decide +kernel
theorem dX4_warmthAt_18 : decode cX4_warmthAt 18 = .ok (.invokevirtual 32, 3) := by decide +kernel
theorem dX4_warmthAt_21 : decode cX4_warmthAt 21 = .ok (.istore_n 2, 1) := by decide +kernel
theorem dX4_warmthAt_22 : decode cX4_warmthAt 22 = .ok (.aload_n 0, 1) := by decide +kernel
theorem dX4_warmthAt_23 : decode cX4_warmthAt 23 = .ok (.iload_n 1, 1) := by decide +kernel
theorem dX4_warmthAt_24 : decode cX4_warmthAt 24 = .ok (.iconst 1, 1) := by decide +kernel
theorem dX4_warmthAt_25 : decode cX4_warmthAt 25 = .ok (.iadd, 1) := by decide +kernel
theorem dX4_warmthAt_26 : decode cX4_warmthAt 26 = .ok (.invokevirtual 32, 3) := by decide +kernel
theorem dX4_warmthAt_29 : decode cX4_warmthAt 29 = .ok (.istore_n 3, 1) := by decide +kernel
theorem dX4_warmthAt_30 : decode cX4_warmthAt 30 = .ok (.iload_n 2, 1) := by decide +kernel
theorem dX4_warmthAt_31 : decode cX4_warmthAt 31 = .ok (.ifCond .eq 25, 3) := by decide +kernel
theorem dX4_warmthAt_34 : decode cX4_warmthAt 34 = .ok (.iload_n 3, 1) := by decide +kernel
theorem dX4_warmthAt_35 : decode cX4_warmthAt 35 = .ok (.ifCond .eq 21, 3) := by decide +kernel
theorem dX4_warmthAt_38 : decode cX4_warmthAt 38 = .ok (.aload_n 0, 1) := by decide +kernel
theorem dX4_warmthAt_39 : decode cX4_warmthAt 39 = .ok (.iload_n 1, 1) := by decide +kernel
theorem dX4_warmthAt_40 : decode cX4_warmthAt 40 = .ok (.iconst 1, 1) := by decide +kernel
theorem dX4_warmthAt_41 : decode cX4_warmthAt 41 = .ok (.isub, 1) := by decide +kernel
theorem dX4_warmthAt_42 : decode cX4_warmthAt 42 = .ok (.invokevirtual 35, 3) := by decide +kernel
theorem dX4_warmthAt_45 : decode cX4_warmthAt 45 = .ok (.aload_n 0, 1) := by decide +kernel
theorem dX4_warmthAt_46 : decode cX4_warmthAt 46 = .ok (.iload_n 1, 1) := by decide +kernel
theorem dX4_warmthAt_47 : decode cX4_warmthAt 47 = .ok (.iconst 1, 1) := by decide +kernel
theorem dX4_warmthAt_48 : decode cX4_warmthAt 48 = .ok (.iadd, 1) := by decide +kernel
theorem dX4_warmthAt_49 : decode cX4_warmthAt 49 = .ok (.invokevirtual 35, 3) := by decide +kernel
theorem dX4_warmthAt_52 : decode cX4_warmthAt 52 = .ok (.iadd, 1) := by decide +kernel
theorem dX4_warmthAt_53 : decode cX4_warmthAt 53 = .ok (.iconst 2, 1) := by decide +kernel
theorem dX4_warmthAt_54 : decode cX4_warmthAt 54 = .ok (.idiv, 1) := by decide +kernel
theorem dX4_warmthAt_55 : decode cX4_warmthAt 55 = .ok (.ireturn, 1) := by decide +kernel
theorem dX4_warmthAt_56 : decode cX4_warmthAt 56 = .ok (.iload_n 2, 1) := by decide +kernel
theorem dX4_warmthAt_57 : decode cX4_warmthAt 57 = .ok (.ifCond .eq 11, 3) := by decide +kernel
theorem dX4_warmthAt_60 : decode cX4_warmthAt 60 = .ok (.aload_n 0, 1) := by decide +kernel
theorem dX4_warmthAt_61 : decode cX4_warmthAt 61 = .ok (.iload_n 1, 1) := by decide +kernel
theorem dX4_warmthAt_62 : decode cX4_warmthAt 62 = .ok (.iconst 1, 1) := by decide +kernel
theorem dX4_warmthAt_63 : decode cX4_warmthAt 63 = .ok (.isub, 1) := by decide +kernel
theorem dX4_warmthAt_64 : decode cX4_warmthAt 64 = .ok (.invokevirtual 35, 3) := by decide +kernel
theorem dX4_warmthAt_67 : decode cX4_warmthAt 67 = .ok (.ireturn, 1) := by decide +kernel
theorem dX4_warmthAt_68 : decode cX4_warmthAt 68 = .ok (.iload_n 3, 1) := by decide +kernel
theorem dX4_warmthAt_69 : decode cX4_warmthAt 69 = .ok (.ifCond .eq 13, 3) := by decide +kernel
theorem dX4_warmthAt_72 : decode cX4_warmthAt 72 = .ok (.aload_n 0, 1) := by decide +kernel
theorem dX4_warmthAt_73 : decode cX4_warmthAt 73 = .ok (.iload_n 1, 1) := by decide +kernel
theorem dX4_warmthAt_74 : decode cX4_warmthAt 74 = .ok (.iconst 1, 1) := by decide +kernel
theorem dX4_warmthAt_75 : decode cX4_warmthAt 75 = .ok (.iadd, 1) := by decide +kernel
theorem dX4_warmthAt_76 : decode cX4_warmthAt 76 = .ok (.invokevirtual 35, 3) := by decide +kernel
theorem dX4_warmthAt_79 : decode cX4_warmthAt 79 = .ok (.goto 4, 3) := by decide +kernel
theorem dX4_warmthAt_82 : decode cX4_warmthAt 82 = .ok (.iconst 0, 1) := by decide +kernel
theorem dX4_warmthAt_83 : decode cX4_warmthAt 83 = .ok (.ireturn, 1) := by decide +kernel
theorem cv_4_32 : CV RX4 32 1 4 I_X4_isNumber := ⟨⟨⟨gm 501 (by decide +kernel) rfl, gm 504 (by decide +kernel) rfl, gm 41 (by decide +kernel) rfl, mh_4.1, mh_4.2, by decide +kernel⟩, gm 502 (by decide +kernel) rfl, gm 503 (by decide +kernel) rfl⟩, ⟨_, _, rfl⟩, rfl, rfl⟩
theorem cv_4_35 : CV RX4 35 1 4 I_X4_boundedAt := ⟨⟨⟨gm 506 (by decide +kernel) rfl, gm 509 (by decide +kernel) rfl, gm 41 (by decide +kernel) rfl, mh_4.1, mh_4.2, by decide +kernel⟩, gm 507 (by decide +kernel) rfl, gm 508 (by decide +kernel) rfl⟩, ⟨_, _, rfl⟩, rfl, rfl⟩
def f_X4_warmthAt_J56 (j56_0 : Nat) (j56_1 : Int32) (j56_2 : Bool) (j56_3 : Bool) (S : St) : Option (Int32) := if j56_2 = true then ((f_X4_boundedAt j56_0 (j56_1 - (1 : Int32)) S).bind fun v64 => (some v64)) else (if j56_3 = true then ((f_X4_boundedAt j56_0 (j56_1 + (1 : Int32)) S).bind fun v76 => (some v76)) else (some (0 : Int32)))
def f_X4_warmthAt (t : Nat) (x1 : Int32) (S : St) : Option (Int32) := (f_X4_isNumber t x1 S).bind fun v2 => (if v2 = true then ((f_X4_boundedAt t x1 S).bind fun v10 => (some v10)) else ((f_X4_isNumber t (x1 - (1 : Int32)) S).bind fun v18 => ((f_X4_isNumber t (x1 + (1 : Int32)) S).bind fun v26 => (if v18 = true then (if v26 = true then ((f_X4_boundedAt t (x1 - (1 : Int32)) S).bind fun v42 => ((f_X4_boundedAt t (x1 + (1 : Int32)) S).bind fun v49 => (some ((v42 + v49) / (2 : Int32))))) else (f_X4_warmthAt_J56 t x1 v18 v26 S)) else (f_X4_warmthAt_J56 t x1 v18 v26 S)))))
set_option maxRecDepth 100000 in
theorem jj_X4_warmthAt_56 (l : Launch) (w : Wd) (j56_0 : Nat) (j56_1 : Int32) (j56_2 : Bool) (j56_3 : Bool) (S : St) (hj56_0 : kd j56_0 = KdSheet) : J l w I_X4_warmthAt 56 [(0, .ref (w.2.1 + j56_0)), (1, .int j56_1), (2, .int (b2i j56_2)), (3, .int (b2i j56_3))] [] S (fun b => (some (.int b), S)) (f_X4_warmthAt_J56 j56_0 j56_1 j56_2 j56_3 S) := by
  unfold f_X4_warmthAt_J56
  refine j_iload_n (y := I_X4_warmthAt) 2 dX4_warmthAt_56 rfl rfl ?_
  refine j_if_eqB (y := I_X4_warmthAt) 68 dX4_warmthAt_57 (by decide) (fun h57 => ?_) (fun h57 => ?_)
  · refine j_iload_n (y := I_X4_warmthAt) 3 dX4_warmthAt_68 rfl rfl ?_
    refine j_if_eqB (y := I_X4_warmthAt) 82 dX4_warmthAt_69 (by decide) (fun h69 => ?_) (fun h69 => ?_)
    · refine j_iconst (y := I_X4_warmthAt) (v := 0) dX4_warmthAt_82 (by decide) ?_
      exact j_iret (y := I_X4_warmthAt) rfl dX4_warmthAt_83 rfl
    · refine j_aload_n (y := I_X4_warmthAt) 0 dX4_warmthAt_72 rfl rfl ?_
      refine j_iload_n (y := I_X4_warmthAt) 1 dX4_warmthAt_73 rfl rfl ?_
      refine j_iconst (y := I_X4_warmthAt) (v := 1) dX4_warmthAt_74 (by decide) ?_
      refine j_iadd (y := I_X4_warmthAt) dX4_warmthAt_75 ?_
      refine j_callViR (y := I_X4_warmthAt) (As := [.int (j56_1 + (1 : Int32))]) cv_4_35 ⟨Nat.le_of_ble_eq_true rfl, Nat.le_of_ble_eq_true rfl⟩ hj56_0 rfl (Nat.le_of_ble_eq_true rfl) dX4_warmthAt_76 (c_X4_boundedAt l w j56_0 (j56_1 + (1 : Int32)) S hj56_0) (fun v76 h76 => ?_)
      refine j_goto (y := I_X4_warmthAt) 83 dX4_warmthAt_79 (by decide) ?_
      exact j_iret (y := I_X4_warmthAt) rfl dX4_warmthAt_83 rfl
  · refine j_aload_n (y := I_X4_warmthAt) 0 dX4_warmthAt_60 rfl rfl ?_
    refine j_iload_n (y := I_X4_warmthAt) 1 dX4_warmthAt_61 rfl rfl ?_
    refine j_iconst (y := I_X4_warmthAt) (v := 1) dX4_warmthAt_62 (by decide) ?_
    refine j_isub (y := I_X4_warmthAt) dX4_warmthAt_63 ?_
    refine j_callViR (y := I_X4_warmthAt) (As := [.int (j56_1 - (1 : Int32))]) cv_4_35 ⟨Nat.le_of_ble_eq_true rfl, Nat.le_of_ble_eq_true rfl⟩ hj56_0 rfl (Nat.le_of_ble_eq_true rfl) dX4_warmthAt_64 (c_X4_boundedAt l w j56_0 (j56_1 - (1 : Int32)) S hj56_0) (fun v64 h64 => ?_)
    exact j_iret (y := I_X4_warmthAt) rfl dX4_warmthAt_67 rfl
set_option maxRecDepth 100000 in
set_option maxHeartbeats 4000000 in
theorem m_X4_warmthAt (l : Launch) (w : Wd) (t : Nat) (x1 : Int32) (S : St) (ht : kd t = KdSheet) : J l w I_X4_warmthAt 0 [(0, .ref (w.2.1 + t)), (1, .int x1)] [] S (fun b => (some (.int b), S)) (f_X4_warmthAt t x1 S) := by
  unfold f_X4_warmthAt
  refine j_aload_n (y := I_X4_warmthAt) 0 dX4_warmthAt_0 rfl rfl ?_
  refine j_iload_n (y := I_X4_warmthAt) 1 dX4_warmthAt_1 rfl rfl ?_
  refine j_callVzR (y := I_X4_warmthAt) (As := [.int x1]) cv_4_32 ⟨Nat.le_of_ble_eq_true rfl, Nat.le_of_ble_eq_true rfl⟩ ht rfl (Nat.le_of_ble_eq_true rfl) dX4_warmthAt_2 (c_X4_isNumber l w t x1 S ht) (fun v2 h2 => ?_)
  refine j_if_eqB (y := I_X4_warmthAt) 14 dX4_warmthAt_5 (by decide) (fun h5 => ?_) (fun h5 => ?_)
  · refine j_aload_n (y := I_X4_warmthAt) 0 dX4_warmthAt_14 rfl rfl ?_
    refine j_iload_n (y := I_X4_warmthAt) 1 dX4_warmthAt_15 rfl rfl ?_
    refine j_iconst (y := I_X4_warmthAt) (v := 1) dX4_warmthAt_16 (by decide) ?_
    refine j_isub (y := I_X4_warmthAt) dX4_warmthAt_17 ?_
    refine j_callVzR (y := I_X4_warmthAt) (As := [.int (x1 - (1 : Int32))]) cv_4_32 ⟨Nat.le_of_ble_eq_true rfl, Nat.le_of_ble_eq_true rfl⟩ ht rfl (Nat.le_of_ble_eq_true rfl) dX4_warmthAt_18 (c_X4_isNumber l w t (x1 - (1 : Int32)) S ht) (fun v18 h18 => ?_)
    refine j_istore_n (y := I_X4_warmthAt) (ls' := [(2, .int (b2i v18)), (0, .ref (w.2.1 + t)), (1, .int x1)]) dX4_warmthAt_21 rfl (by decide) rfl ?_
    refine j_aload_n (y := I_X4_warmthAt) 1 dX4_warmthAt_22 rfl rfl ?_
    refine j_iload_n (y := I_X4_warmthAt) 2 dX4_warmthAt_23 rfl rfl ?_
    refine j_iconst (y := I_X4_warmthAt) (v := 1) dX4_warmthAt_24 (by decide) ?_
    refine j_iadd (y := I_X4_warmthAt) dX4_warmthAt_25 ?_
    refine j_callVzR (y := I_X4_warmthAt) (As := [.int (x1 + (1 : Int32))]) cv_4_32 ⟨Nat.le_of_ble_eq_true rfl, Nat.le_of_ble_eq_true rfl⟩ ht rfl (Nat.le_of_ble_eq_true rfl) dX4_warmthAt_26 (c_X4_isNumber l w t (x1 + (1 : Int32)) S ht) (fun v26 h26 => ?_)
    refine j_istore_n (y := I_X4_warmthAt) (ls' := [(3, .int (b2i v26)), (2, .int (b2i v18)), (0, .ref (w.2.1 + t)), (1, .int x1)]) dX4_warmthAt_29 rfl (by decide) rfl ?_
    refine j_iload_n (y := I_X4_warmthAt) 1 dX4_warmthAt_30 rfl rfl ?_
    refine j_if_eqB (y := I_X4_warmthAt) 56 dX4_warmthAt_31 (by decide) (fun h31 => ?_) (fun h31 => ?_)
    · refine j_sub [2, 3, 1, 0] rfl ?_
      exact jj_X4_warmthAt_56 l w t x1 v18 v26 S ht
    · refine j_iload_n (y := I_X4_warmthAt) 0 dX4_warmthAt_34 rfl rfl ?_
      refine j_if_eqB (y := I_X4_warmthAt) 56 dX4_warmthAt_35 (by decide) (fun h35 => ?_) (fun h35 => ?_)
      · refine j_sub [2, 3, 1, 0] rfl ?_
        exact jj_X4_warmthAt_56 l w t x1 v18 v26 S ht
      · refine j_aload_n (y := I_X4_warmthAt) 2 dX4_warmthAt_38 rfl rfl ?_
        refine j_iload_n (y := I_X4_warmthAt) 3 dX4_warmthAt_39 rfl rfl ?_
        refine j_iconst (y := I_X4_warmthAt) (v := 1) dX4_warmthAt_40 (by decide) ?_
        refine j_isub (y := I_X4_warmthAt) dX4_warmthAt_41 ?_
        refine j_callViR (y := I_X4_warmthAt) (As := [.int (x1 - (1 : Int32))]) cv_4_35 ⟨Nat.le_of_ble_eq_true rfl, Nat.le_of_ble_eq_true rfl⟩ ht rfl (Nat.le_of_ble_eq_true rfl) dX4_warmthAt_42 (c_X4_boundedAt l w t (x1 - (1 : Int32)) S ht) (fun v42 h42 => ?_)
        refine j_aload_n (y := I_X4_warmthAt) 2 dX4_warmthAt_45 rfl rfl ?_
        refine j_iload_n (y := I_X4_warmthAt) 3 dX4_warmthAt_46 rfl rfl ?_
        refine j_iconst (y := I_X4_warmthAt) (v := 1) dX4_warmthAt_47 (by decide) ?_
        refine j_iadd (y := I_X4_warmthAt) dX4_warmthAt_48 ?_
        refine j_callViR (y := I_X4_warmthAt) (As := [.int (x1 + (1 : Int32))]) cv_4_35 ⟨Nat.le_of_ble_eq_true rfl, Nat.le_of_ble_eq_true rfl⟩ ht rfl (Nat.le_of_ble_eq_true rfl) dX4_warmthAt_49 (c_X4_boundedAt l w t (x1 + (1 : Int32)) S ht) (fun v49 h49 => ?_)
        refine j_iadd (y := I_X4_warmthAt) dX4_warmthAt_52 ?_
        refine j_iconst (y := I_X4_warmthAt) (v := 2) dX4_warmthAt_53 (by decide) ?_
        refine j_idivL (y := I_X4_warmthAt) dX4_warmthAt_54 (by decide) ?_
        exact j_iret (y := I_X4_warmthAt) rfl dX4_warmthAt_55 rfl
  · refine j_aload_n (y := I_X4_warmthAt) 0 dX4_warmthAt_8 rfl rfl ?_
    refine j_iload_n (y := I_X4_warmthAt) 1 dX4_warmthAt_9 rfl rfl ?_
    refine j_callViR (y := I_X4_warmthAt) (As := [.int x1]) cv_4_35 ⟨Nat.le_of_ble_eq_true rfl, Nat.le_of_ble_eq_true rfl⟩ ht rfl (Nat.le_of_ble_eq_true rfl) dX4_warmthAt_10 (c_X4_boundedAt l w t x1 S ht) (fun v10 h10 => ?_)
    exact j_iret (y := I_X4_warmthAt) rfl dX4_warmthAt_13 rfl
theorem c_X4_warmthAt (l : Launch) (w : Wd) (t : Nat) (x1 : Int32) (S : St) (ht : kd t = KdSheet) : ∀ v, f_X4_warmthAt t x1 S = some v → CtS l w I_X4_warmthAt [.ref (w.2.1 + t), .int x1] S S (some (.int v)) := fun v h => J.ct (av := [.ref (w.2.1 + t), .int x1]) (Nat.le_of_ble_eq_true rfl) pn_4 (m_X4_warmthAt l w t x1 S ht) h
abbrev I_X4_begin : MI := (yX4_begin, cX4_begin, 4, none, { frames := 0, cells := 0, slots := 0, locals := 0 })
theorem dX4_begin_0 : decode cX4_begin 0 = .ok (.aload_n 0, 1) := by decide +kernel
theorem dX4_begin_1 : decode cX4_begin 1 = .ok (.iload_n 1, 1) := by decide +kernel
theorem dX4_begin_2 : decode cX4_begin 2 = .ok (.putfield 15, 3) := by decide +kernel
theorem dX4_begin_5 : decode cX4_begin 5 = .ok (.aload_n 0, 1) := by decide +kernel
theorem dX4_begin_6 : decode cX4_begin 6 = .ok (.iload_n 1, 1) := by decide +kernel
theorem dX4_begin_7 : decode cX4_begin 7 = .ok (.ifCond .ne 7, 3) := by decide +kernel
theorem dX4_begin_10 : decode cX4_begin 10 = .ok (.iconst 0, 1) := by decide +kernel
theorem dX4_begin_11 : decode cX4_begin 11 = .ok (.goto 4, 3) := by decide +kernel
theorem dX4_begin_14 : decode cX4_begin 14 = .ok (.iload_n 2, 1) := by decide +kernel
theorem dX4_begin_15 : decode cX4_begin 15 = .ok (.putfield 19, 3) := by decide +kernel
theorem dX4_begin_18 : decode cX4_begin 18 = .ok (.iconst 0, 1) := by decide +kernel
theorem dX4_begin_19 : decode cX4_begin 19 = .ok (.istore_n 3, 1) := by decide +kernel
theorem dX4_begin_20 : decode cX4_begin 20 = .ok (.iload_n 3, 1) := by decide +kernel
theorem dX4_begin_21 : decode cX4_begin 21 = .ok (.bipush 50, 2) := by decide +kernel
theorem dX4_begin_23 : decode cX4_begin 23 = .ok (.if_icmp .ge 16, 3) := by decide +kernel
theorem dX4_begin_26 : decode cX4_begin 26 = .ok (.aload_n 0, 1) := by decide +kernel
theorem dX4_begin_27 : decode cX4_begin 27 = .ok (.getfield 9, 3) := by decide +kernel
theorem dX4_begin_30 : decode cX4_begin 30 = .ok (.iload_n 3, 1) := by decide +kernel
theorem dX4_begin_31 : decode cX4_begin 31 = .ok (.iconst 0, 1) := by decide +kernel
theorem dX4_begin_32 : decode cX4_begin 32 = .ok (.iastore, 1) := by decide +kernel
theorem dX4_begin_33 : decode cX4_begin 33 = .ok (.iinc 3 1, 3) := by decide +kernel
theorem dX4_begin_36 : decode cX4_begin 36 = .ok (.goto (-16), 3) := by decide +kernel
theorem dX4_begin_39 : decode cX4_begin 39 = .ok (.return_, 1) := by decide +kernel
def f_X4_begin_L20 (fuel : Nat) (K : St → Option (St)) (a20_0 : Nat) (a20_3 : Int32) (S20 : St) : Option (St) := match fuel with
  | 0 => none
  | n + 1 => if a20_3 < (50 : Int32) then (if inb a20_3 50 = true then (f_X4_begin_L20 n K a20_0 (a20_3 + (1 : Int32)) (wr S20 (a20_0 + 1) (ix a20_3) (0 : Int32))) else none) else (K S20)
def f_X4_begin_J15 (j15_0 : Nat) (j15s_0 : Int32) (j15s_1 : Nat) (S15 : St) : Option (St) := f_X4_begin_L20 6000 (fun T39 => (some T39)) j15_0 (0 : Int32) (wr S15 j15s_1 1 j15s_0)
def f_X4_begin (t : Nat) (x1 : Int32) (x2 : Int32) (S : St) : Option (St) := if x1 = 0 then (f_X4_begin_J15 t (0 : Int32) t (wr S t 0 x1)) else (f_X4_begin_J15 t x2 t (wr S t 0 x1))
set_option maxRecDepth 100000 in
theorem jl_X4_begin_20 (l : Launch) (w : Wd) (K : St → Option (St)) (n : Nat) : ∀ (a20_0 : Nat) (a20_3 : Int32) (S20 : St) (ha20_0 : kd a20_0 = KdSheet), (∀  (S' : St) , J l w I_X4_begin 39 [] [] S' (fun b => (none, b)) (K  S')) → J l w I_X4_begin 20 [(0, .ref (w.2.1 + a20_0)), (3, .int a20_3)] [] S20 (fun b => (none, b)) (f_X4_begin_L20 n K a20_0 a20_3 S20) := by
  induction n with
  | zero =>
    intro a20_0 a20_3 S20 ha20_0 hK b h
    simp only [f_X4_begin_L20] at h
    cases h
  | succ n ih =>
    intro a20_0 a20_3 S20 ha20_0 hK
    rw [f_X4_begin_L20]
    refine j_iload_n (y := I_X4_begin) 1 dX4_begin_20 rfl rfl ?_
    refine j_bipush (y := I_X4_begin) (v := 50) dX4_begin_21 (by decide) ?_
    refine j_icmp_ge (y := I_X4_begin) 39 dX4_begin_23 (by decide) (fun h23 => ?_) (fun h23 => ?_)
    · refine j_sub [] rfl ?_
      exact hK S20
    · refine j_aload_n (y := I_X4_begin) 0 dX4_begin_26 rfl rfl ?_
      refine j_getR (y := I_X4_begin) (j := (a20_0 + 1)) fl_4_9 ha20_0 rfl rfl dX4_begin_27 ?_
      refine j_iload_n (y := I_X4_begin) 1 dX4_begin_30 rfl rfl ?_
      refine j_iconst (y := I_X4_begin) (v := 0) dX4_begin_31 (by decide) ?_
      refine j_iast (y := I_X4_begin) (kd_SheetA ha20_0) dX4_begin_32 (fun h32 => ?_)
      refine j_iinc (y := I_X4_begin) 1 (ls' := [(3, .int (a20_3 + (1 : Int32))), (0, .ref (w.2.1 + a20_0))]) dX4_begin_33 rfl (ii _ _ (by decide) _) (by decide) rfl ?_
      refine j_goto (y := I_X4_begin) 20 dX4_begin_36 (by decide) ?_
      refine j_sub [1, 0] rfl ?_
      exact ih a20_0 (a20_3 + (1 : Int32)) (wr S20 (a20_0 + 1) (ix a20_3) (0 : Int32)) ha20_0 hK
set_option maxRecDepth 100000 in
theorem jj_X4_begin_15 (l : Launch) (w : Wd) (j15_0 : Nat) (j15s_0 : Int32) (j15s_1 : Nat) (S15 : St) (hj15_0 : kd j15_0 = KdSheet) (hj15s_1 : kd j15s_1 = KdSheet) : J l w I_X4_begin 15 [(0, .ref (w.2.1 + j15_0))] [.int j15s_0, .ref (w.2.1 + j15s_1)] S15 (fun b => (none, b)) (f_X4_begin_J15 j15_0 j15s_0 j15s_1 S15) := by
  unfold f_X4_begin_J15
  refine j_putI (y := I_X4_begin) fp_4_19 hj15s_1 rfl rfl rfl dX4_begin_15 ?_
  refine j_iconst (y := I_X4_begin) (v := 0) dX4_begin_18 (by decide) ?_
  refine j_istore_n (y := I_X4_begin) (ls' := [(3, .int (0 : Int32)), (0, .ref (w.2.1 + j15_0))]) dX4_begin_19 rfl (by decide) rfl ?_
  refine j_sub [1, 0] rfl ?_
  refine jl_X4_begin_20 l w _ 6000 j15_0 (0 : Int32) (wr S15 j15s_1 1 j15s_0) hj15_0 (fun T39 => ?_)
  exact j_vret (y := I_X4_begin) rfl dX4_begin_39 rfl
set_option maxRecDepth 100000 in
set_option maxHeartbeats 4000000 in
theorem m_X4_begin (l : Launch) (w : Wd) (t : Nat) (x1 : Int32) (x2 : Int32) (S : St) (ht : kd t = KdSheet) : J l w I_X4_begin 0 [(0, .ref (w.2.1 + t)), (1, .int x1), (2, .int x2)] [] S (fun b => (none, b)) (f_X4_begin t x1 x2 S) := by
  unfold f_X4_begin
  refine j_aload_n (y := I_X4_begin) 0 dX4_begin_0 rfl rfl ?_
  refine j_iload_n (y := I_X4_begin) 1 dX4_begin_1 rfl rfl ?_
  refine j_putI (y := I_X4_begin) fp_4_15 ht rfl rfl rfl dX4_begin_2 ?_
  refine j_aload_n (y := I_X4_begin) 0 dX4_begin_5 rfl rfl ?_
  refine j_iload_n (y := I_X4_begin) 1 dX4_begin_6 rfl rfl ?_
  refine j_if_ne (y := I_X4_begin) 14 dX4_begin_7 (by decide) (fun h7 => ?_) (fun h7 => ?_)
  · refine j_iload_n (y := I_X4_begin) 2 dX4_begin_14 rfl rfl ?_
    refine j_sub [0] rfl ?_
    exact jj_X4_begin_15 l w t x2 t (wr S t 0 x1) ht ht
  · refine j_iconst (y := I_X4_begin) (v := 0) dX4_begin_10 (by decide) ?_
    refine j_goto (y := I_X4_begin) 15 dX4_begin_11 (by decide) ?_
    refine j_sub [0] rfl ?_
    exact jj_X4_begin_15 l w t (0 : Int32) t (wr S t 0 x1) ht ht
theorem c_X4_begin (l : Launch) (w : Wd) (t : Nat) (x1 : Int32) (x2 : Int32) (S : St) (ht : kd t = KdSheet) : ∀ v, f_X4_begin t x1 x2 S = some v → CtS l w I_X4_begin [.ref (w.2.1 + t), .int x1, .int x2] S v none := fun v h => J.ct (av := [.ref (w.2.1 + t), .int x1, .int x2]) (Nat.le_of_ble_eq_true rfl) pn_4 (m_X4_begin l w t x1 x2 S ht) h
abbrev I_X4_hasRun : MI := (yX4_hasRun, cX4_hasRun, 3, some .boolean, { frames := 0, cells := 0, slots := 0, locals := 0 })
theorem dX4_hasRun_0 : decode cX4_hasRun 0 = .ok (.iload_n 1, 1) := by decide +kernel
theorem dX4_hasRun_1 : decode cX4_hasRun 1 = .ok (.ifCond .lt 29, 3) := by decide +kernel
theorem dX4_hasRun_4 : decode cX4_hasRun 4 = .ok (.iload_n 2, 1) := by decide +kernel
theorem dX4_hasRun_5 : decode cX4_hasRun 5 = .ok (.ifCond .lt 25, 3) := by decide +kernel
theorem dX4_hasRun_8 : decode cX4_hasRun 8 = .ok (.iload_n 2, 1) := by decide +kernel
theorem dX4_hasRun_9 : decode cX4_hasRun 9 = .ok (.aload_n 0, 1) := by decide +kernel
theorem dX4_hasRun_10 : decode cX4_hasRun 10 = .ok (.getfield 19, 3) := by decide +kernel
theorem dX4_hasRun_13 : decode cX4_hasRun 13 = .ok (.if_icmp .gt 17, 3) := by decide +kernel
theorem dX4_hasRun_16 : decode cX4_hasRun 16 = .ok (.iload_n 1, 1) := by decide +kernel
theorem dX4_hasRun_17 : decode cX4_hasRun 17 = .ok (.aload_n 0, 1) := by decide +kernel
theorem dX4_hasRun_18 : decode cX4_hasRun 18 = .ok (.getfield 19, 3) := by decide +kernel
theorem dX4_hasRun_21 : decode cX4_hasRun 21 = .ok (.iload_n 2, 1) := by decide +kernel
theorem dX4_hasRun_22 : decode cX4_hasRun 22 = .ok (.isub, 1) := by decide +kernel
theorem dX4_hasRun_23 : decode cX4_hasRun 23 = .ok (.if_icmp .gt 7, 3) := by decide +kernel
theorem dX4_hasRun_26 : decode cX4_hasRun 26 = .ok (.iconst 1, 1) := by decide +kernel
theorem dX4_hasRun_27 : decode cX4_hasRun 27 = .ok (.goto 4, 3) := by decide +kernel
theorem dX4_hasRun_30 : decode cX4_hasRun 30 = .ok (.iconst 0, 1) := by decide +kernel
theorem dX4_hasRun_31 : decode cX4_hasRun 31 = .ok (.ireturn, 1) := by decide +kernel
def f_X4_hasRun (t : Nat) (x1 : Int32) (x2 : Int32) (S : St) : Bool := if x1 < 0 then (false) else (if x2 < 0 then (false) else (if (rd S t 1) < x2 then (false) else (if ((rd S t 1) - x2) < x1 then (false) else (true))))
set_option maxRecDepth 100000 in
set_option maxHeartbeats 4000000 in
theorem m_X4_hasRun (l : Launch) (w : Wd) (t : Nat) (x1 : Int32) (x2 : Int32) (S : St) (ht : kd t = KdSheet) : J l w I_X4_hasRun 0 [(0, .ref (w.2.1 + t)), (1, .int x1), (2, .int x2)] [] S (fun b => (some (.int (b2i b)), S)) (some (f_X4_hasRun t x1 x2 S)) := by
  unfold f_X4_hasRun
  refine j_iload_n (y := I_X4_hasRun) 1 dX4_hasRun_0 rfl rfl ?_
  refine j_si ?_
  refine j_if_lt (y := I_X4_hasRun) 30 dX4_hasRun_1 (by decide) (fun h1 => ?_) (fun h1 => ?_)
  · refine j_iconst (y := I_X4_hasRun) (v := 0) dX4_hasRun_30 (by decide) ?_
    exact j_zret (y := I_X4_hasRun) (q := false) rfl rfl dX4_hasRun_31 rfl
  · refine j_iload_n (y := I_X4_hasRun) 2 dX4_hasRun_4 rfl rfl ?_
    refine j_si ?_
    refine j_if_lt (y := I_X4_hasRun) 30 dX4_hasRun_5 (by decide) (fun h5 => ?_) (fun h5 => ?_)
    · refine j_iconst (y := I_X4_hasRun) (v := 0) dX4_hasRun_30 (by decide) ?_
      exact j_zret (y := I_X4_hasRun) (q := false) rfl rfl dX4_hasRun_31 rfl
    · refine j_iload_n (y := I_X4_hasRun) 2 dX4_hasRun_8 rfl rfl ?_
      refine j_aload_n (y := I_X4_hasRun) 0 dX4_hasRun_9 rfl rfl ?_
      refine j_getI (y := I_X4_hasRun) fl_4_19 ht rfl dX4_hasRun_10 ?_
      refine j_si ?_
      refine j_icmp_gt (y := I_X4_hasRun) 30 dX4_hasRun_13 (by decide) (fun h13 => ?_) (fun h13 => ?_)
      · refine j_iconst (y := I_X4_hasRun) (v := 0) dX4_hasRun_30 (by decide) ?_
        exact j_zret (y := I_X4_hasRun) (q := false) rfl rfl dX4_hasRun_31 rfl
      · refine j_iload_n (y := I_X4_hasRun) 1 dX4_hasRun_16 rfl rfl ?_
        refine j_aload_n (y := I_X4_hasRun) 0 dX4_hasRun_17 rfl rfl ?_
        refine j_getI (y := I_X4_hasRun) fl_4_19 ht rfl dX4_hasRun_18 ?_
        refine j_iload_n (y := I_X4_hasRun) 2 dX4_hasRun_21 rfl rfl ?_
        refine j_isub (y := I_X4_hasRun) dX4_hasRun_22 ?_
        refine j_si ?_
        refine j_icmp_gt (y := I_X4_hasRun) 30 dX4_hasRun_23 (by decide) (fun h23 => ?_) (fun h23 => ?_)
        · refine j_iconst (y := I_X4_hasRun) (v := 0) dX4_hasRun_30 (by decide) ?_
          exact j_zret (y := I_X4_hasRun) (q := false) rfl rfl dX4_hasRun_31 rfl
        · refine j_iconst (y := I_X4_hasRun) (v := 1) dX4_hasRun_26 (by decide) ?_
          refine j_goto (y := I_X4_hasRun) 31 dX4_hasRun_27 (by decide) ?_
          exact j_zret (y := I_X4_hasRun) (q := true) rfl rfl dX4_hasRun_31 rfl
theorem c_X4_hasRun (l : Launch) (w : Wd) (t : Nat) (x1 : Int32) (x2 : Int32) (S : St) (ht : kd t = KdSheet) : CtS l w I_X4_hasRun [.ref (w.2.1 + t), .int x1, .int x2] S S (some (.int (b2i (f_X4_hasRun t x1 x2 S)))) := J.ct (av := [.ref (w.2.1 + t), .int x1, .int x2]) (Nat.le_of_ble_eq_true rfl) pn_4 (m_X4_hasRun l w t x1 x2 S ht) rfl
abbrev I_X4_isMissing : MI := (yX4_isMissing, cX4_isMissing, 1, some .boolean, { frames := 0, cells := 0, slots := 0, locals := 0 })
theorem dX4_isMissing_0 : decode cX4_isMissing 0 = .ok (.aload_n 0, 1) := by decide +kernel
theorem dX4_isMissing_1 : decode cX4_isMissing 1 = .ok (.getfield 15, 3) := by decide +kernel
theorem dX4_isMissing_4 : decode cX4_isMissing 4 = .ok (.ifCond .ne 7, 3) := by decide +kernel
theorem dX4_isMissing_7 : decode cX4_isMissing 7 = .ok (.iconst 1, 1) := by decide +kernel
theorem dX4_isMissing_8 : decode cX4_isMissing 8 = .ok (.goto 4, 3) := by decide +kernel
theorem dX4_isMissing_11 : decode cX4_isMissing 11 = .ok (.iconst 0, 1) := by decide +kernel
theorem dX4_isMissing_12 : decode cX4_isMissing 12 = .ok (.ireturn, 1) := by decide +kernel
def f_X4_isMissing (t : Nat) (S : St) : Bool := if (rd S t 0) = 0 then (true) else (false)
set_option maxRecDepth 100000 in
set_option maxHeartbeats 4000000 in
theorem m_X4_isMissing (l : Launch) (w : Wd) (t : Nat) (S : St) (ht : kd t = KdSheet) : J l w I_X4_isMissing 0 [(0, .ref (w.2.1 + t))] [] S (fun b => (some (.int (b2i b)), S)) (some (f_X4_isMissing t S)) := by
  unfold f_X4_isMissing
  refine j_aload_n (y := I_X4_isMissing) 0 dX4_isMissing_0 rfl rfl ?_
  refine j_getI (y := I_X4_isMissing) fl_4_15 ht rfl dX4_isMissing_1 ?_
  refine j_si ?_
  refine j_if_ne (y := I_X4_isMissing) 11 dX4_isMissing_4 (by decide) (fun h4 => ?_) (fun h4 => ?_)
  · refine j_iconst (y := I_X4_isMissing) (v := 0) dX4_isMissing_11 (by decide) ?_
    exact j_zret (y := I_X4_isMissing) (q := false) rfl rfl dX4_isMissing_12 rfl
  · refine j_iconst (y := I_X4_isMissing) (v := 1) dX4_isMissing_7 (by decide) ?_
    refine j_goto (y := I_X4_isMissing) 12 dX4_isMissing_8 (by decide) ?_
    exact j_zret (y := I_X4_isMissing) (q := true) rfl rfl dX4_isMissing_12 rfl
theorem c_X4_isMissing (l : Launch) (w : Wd) (t : Nat) (S : St) (ht : kd t = KdSheet) : CtS l w I_X4_isMissing [.ref (w.2.1 + t)] S S (some (.int (b2i (f_X4_isMissing t S)))) := J.ct (av := [.ref (w.2.1 + t)]) (Nat.le_of_ble_eq_true rfl) pn_4 (m_X4_isMissing l w t S ht) rfl
abbrev I_X4_write : MI := (yX4_write, cX4_write, 3, none, { frames := 1, cells := 0, slots := 0, locals := 20 })
theorem dX4_write_0 : decode cX4_write 0 = .ok (.aload_n 0, 1) := by decide +kernel
theorem dX4_write_1 : decode cX4_write 1 = .ok (.getfield 15, 3) := by decide +kernel
theorem dX4_write_4 : decode cX4_write 4 = .ok (.iconst 1, 1) := by decide +kernel
theorem dX4_write_5 : decode cX4_write 5 = .ok (.if_icmp .ne 14, 3) := by decide +kernel
theorem dX4_write_8 : decode cX4_write 8 = .ok (.aload_n 0, 1) := by decide +kernel
theorem dX4_write_9 : decode cX4_write 9 = .ok (.getfield 9, 3) := by decide +kernel
theorem dX4_write_12 : decode cX4_write 12 = .ok (.iload_n 1, 1) := by decide +kernel
theorem dX4_write_13 : decode cX4_write 13 = .ok (.iload_n 2, 1) := by decide +kernel
theorem dX4_write_14 : decode cX4_write 14 = .ok (.i2s, 1) := by decide +kernel
theorem dX4_write_15 : decode cX4_write 15 = .ok (.iastore, 1) := by decide +kernel
theorem dX4_write_16 : decode cX4_write 16 = .ok (.goto 22, 3) := by decide +kernel
theorem dX4_write_19 : decode cX4_write 19 = .ok (.aload_n 0, 1) := by decide +kernel
theorem dX4_write_20 : decode cX4_write 20 = .ok (.getfield 9, 3) := by decide +kernel
theorem dX4_write_23 : decode cX4_write 23 = .ok (.iload_n 1, 1) := by decide +kernel
theorem dX4_write_24 : decode cX4_write 24 = .ok (.iload_n 2, 1) := by decide +kernel
theorem dX4_write_25 : decode cX4_write 25 = .ok (.invokestatic 22, 3) := by decide +kernel
theorem dX4_write_28 : decode cX4_write 28 = .ok (.ifCond .eq 8, 3) := by decide +kernel
theorem dX4_write_31 : decode cX4_write 31 = .ok (.ldc 26, 2) := by decide +kernel
theorem dX4_write_33 : decode cX4_write 33 = .ok (.goto 4, 3) := by decide +kernel
theorem dX4_write_36 : decode cX4_write 36 = .ok (.iload_n 2, 1) := by decide +kernel
theorem dX4_write_37 : decode cX4_write 37 = .ok (.iastore, 1) := by decide +kernel
theorem dX4_write_38 : decode cX4_write 38 = .ok (.return_, 1) := by decide +kernel
def f_X4_write (t : Nat) (x1 : Int32) (x2 : Int32) (S : St) : Option (St) := if (rd S t 0) = (1 : Int32) then (if inb x1 50 = true then (some (wr S (t + 1) (ix x1) x2.toInt16.toInt32)) else none) else (if (f_X4_isNan x2) = true then (if inb x1 50 = true then (some (wr S (t + 1) (ix x1) (2143289344 : Int32))) else none) else (if inb x1 50 = true then (some (wr S (t + 1) (ix x1) x2)) else none))
set_option maxRecDepth 100000 in
set_option maxHeartbeats 4000000 in
theorem m_X4_write (l : Launch) (w : Wd) (t : Nat) (x1 : Int32) (x2 : Int32) (S : St) (ht : kd t = KdSheet) : J l w I_X4_write 0 [(0, .ref (w.2.1 + t)), (1, .int x1), (2, .int x2)] [] S (fun b => (none, b)) (f_X4_write t x1 x2 S) := by
  unfold f_X4_write
  refine j_aload_n (y := I_X4_write) 0 dX4_write_0 rfl rfl ?_
  refine j_getI (y := I_X4_write) fl_4_15 ht rfl dX4_write_1 ?_
  refine j_iconst (y := I_X4_write) (v := 1) dX4_write_4 (by decide) ?_
  refine j_icmp_ne (y := I_X4_write) 19 dX4_write_5 (by decide) (fun h5 => ?_) (fun h5 => ?_)
  · refine j_aload_n (y := I_X4_write) 0 dX4_write_19 rfl rfl ?_
    refine j_getR (y := I_X4_write) (j := (t + 1)) fl_4_9 ht rfl rfl dX4_write_20 ?_
    refine j_iload_n (y := I_X4_write) 1 dX4_write_23 rfl rfl ?_
    refine j_iload_n (y := I_X4_write) 2 dX4_write_24 rfl rfl ?_
    refine j_callSzT (y := I_X4_write) (As := [.int x2]) cv_4_22 ⟨Nat.le_of_ble_eq_true rfl, Nat.le_of_ble_eq_true rfl⟩ rfl (Nat.le_of_ble_eq_true rfl) dX4_write_25 (c_X4_isNan l w x2 S) ?_
    refine j_if_eqB (y := I_X4_write) 36 dX4_write_28 (by decide) (fun h28 => ?_) (fun h28 => ?_)
    · refine j_iload_n (y := I_X4_write) 2 dX4_write_36 rfl rfl ?_
      refine j_iast (y := I_X4_write) (kd_SheetA ht) dX4_write_37 (fun h37 => ?_)
      exact j_vret (y := I_X4_write) rfl dX4_write_38 rfl
    · refine j_ldc (y := I_X4_write) (v := 2143289344) dX4_write_31 (gm 465 (by decide +kernel) rfl) ?_
      refine j_goto (y := I_X4_write) 37 dX4_write_33 (by decide) ?_
      refine j_iast (y := I_X4_write) (kd_SheetA ht) dX4_write_37 (fun h37 => ?_)
      exact j_vret (y := I_X4_write) rfl dX4_write_38 rfl
  · refine j_aload_n (y := I_X4_write) 0 dX4_write_8 rfl rfl ?_
    refine j_getR (y := I_X4_write) (j := (t + 1)) fl_4_9 ht rfl rfl dX4_write_9 ?_
    refine j_iload_n (y := I_X4_write) 1 dX4_write_12 rfl rfl ?_
    refine j_iload_n (y := I_X4_write) 2 dX4_write_13 rfl rfl ?_
    refine j_i2s (y := I_X4_write) dX4_write_14 ?_
    refine j_iast (y := I_X4_write) (kd_SheetA ht) dX4_write_15 (fun h15 => ?_)
    refine j_goto (y := I_X4_write) 38 dX4_write_16 (by decide) ?_
    exact j_vret (y := I_X4_write) rfl dX4_write_38 rfl
theorem c_X4_write (l : Launch) (w : Wd) (t : Nat) (x1 : Int32) (x2 : Int32) (S : St) (ht : kd t = KdSheet) : ∀ v, f_X4_write t x1 x2 S = some v → CtS l w I_X4_write [.ref (w.2.1 + t), .int x1, .int x2] S v none := fun v h => J.ct (av := [.ref (w.2.1 + t), .int x1, .int x2]) (Nat.le_of_ble_eq_true rfl) pn_4 (m_X4_write l w t x1 x2 S ht) h
