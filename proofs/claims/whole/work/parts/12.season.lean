abbrev I_X3_hasBloom : MI := (yX3_hasBloom, cX3_hasBloom, 2, some .boolean, { frames := 0, cells := 0, slots := 0, locals := 0 })
theorem dX3_hasBloom_0 : decode cX3_hasBloom 0 = .ok (.aload_n 0, 1) := by decide +kernel
theorem dX3_hasBloom_1 : decode cX3_hasBloom 1 = .ok (.getfield 18, 3) := by decide +kernel
theorem dX3_hasBloom_4 : decode cX3_hasBloom 4 = .ok (.iload_n 1, 1) := by decide +kernel
theorem dX3_hasBloom_5 : decode cX3_hasBloom 5 = .ok (.iaload, 1) := by decide +kernel
theorem dX3_hasBloom_6 : decode cX3_hasBloom 6 = .ok (.bipush 50, 2) := by decide +kernel
theorem dX3_hasBloom_8 : decode cX3_hasBloom 8 = .ok (.if_icmp .ge 7, 3) := by decide +kernel
theorem dX3_hasBloom_11 : decode cX3_hasBloom 11 = .ok (.iconst 1, 1) := by decide +kernel
theorem dX3_hasBloom_12 : decode cX3_hasBloom 12 = .ok (.goto 4, 3) := by decide +kernel
theorem dX3_hasBloom_15 : decode cX3_hasBloom 15 = .ok (.iconst 0, 1) := by decide +kernel
theorem dX3_hasBloom_16 : decode cX3_hasBloom 16 = .ok (.ireturn, 1) := by decide +kernel
def f_X3_hasBloom (x1 : Int32) (S : St) : Option (Bool) := if inb x1 6 = true then (if (rd S 99 (ix x1)) < (50 : Int32) then (some true) else (some false)) else none
set_option maxRecDepth 100000 in
set_option maxHeartbeats 4000000 in
theorem m_X3_hasBloom (l : Launch) (w : Wd) (x1 : Int32) (S : St)  : J l w I_X3_hasBloom 0 [(0, .ref (w.2.1 + 96)), (1, .int x1)] [] S (fun b => (some (.int (b2i b)), S)) (f_X3_hasBloom x1 S) := by
  unfold f_X3_hasBloom
  refine j_aload_n (y := I_X3_hasBloom) 0 dX3_hasBloom_0 rfl rfl ?_
  refine j_getR (y := I_X3_hasBloom) (j := 99) fl_3_18 k_96 rfl rfl dX3_hasBloom_1 ?_
  refine j_iload_n (y := I_X3_hasBloom) 1 dX3_hasBloom_4 rfl rfl ?_
  refine j_iald (y := I_X3_hasBloom) k_99 dX3_hasBloom_5 (fun h5 => ?_)
  refine j_bipush (y := I_X3_hasBloom) (v := 50) dX3_hasBloom_6 (by decide) ?_
  refine j_icmp_ge (y := I_X3_hasBloom) 15 dX3_hasBloom_8 (by decide) (fun h8 => ?_) (fun h8 => ?_)
  · refine j_iconst (y := I_X3_hasBloom) (v := 0) dX3_hasBloom_15 (by decide) ?_
    exact j_zret (y := I_X3_hasBloom) (q := false) rfl rfl dX3_hasBloom_16 rfl
  · refine j_iconst (y := I_X3_hasBloom) (v := 1) dX3_hasBloom_11 (by decide) ?_
    refine j_goto (y := I_X3_hasBloom) 16 dX3_hasBloom_12 (by decide) ?_
    exact j_zret (y := I_X3_hasBloom) (q := true) rfl rfl dX3_hasBloom_16 rfl
theorem c_X3_hasBloom (l : Launch) (w : Wd) (x1 : Int32) (S : St)  : ∀ v, f_X3_hasBloom x1 S = some v → CtS l w I_X3_hasBloom [.ref (w.2.1 + 96), .int x1] S S (some (.int (b2i v))) := fun v h => J.ct (av := [.ref (w.2.1 + 96), .int x1]) (Nat.le_of_ble_eq_true rfl) pn_3 (m_X3_hasBloom l w x1 S ) h
abbrev I_X3_bloomTogether : MI := (yX3_bloomTogether, cX3_bloomTogether, 3, some .boolean, { frames := 1, cells := 0, slots := 0, locals := 21 })
theorem dX3_bloomTogether_0 : decode cX3_bloomTogether 0 = .ok (.aload_n 0, 1) := by decide +kernel
theorem dX3_bloomTogether_1 : decode cX3_bloomTogether 1 = .ok (.iload_n 1, 1) := by decide +kernel
theorem dX3_bloomTogether_2 : decode cX3_bloomTogether 2 = .ok (.invokevirtual 69, 3) := by decide +kernel
theorem dX3_bloomTogether_5 : decode cX3_bloomTogether 5 = .ok (.ifCond .eq 45, 3) := by decide +kernel
theorem dX3_bloomTogether_8 : decode cX3_bloomTogether 8 = .ok (.aload_n 0, 1) := by decide +kernel
theorem dX3_bloomTogether_9 : decode cX3_bloomTogether 9 = .ok (.iload_n 2, 1) := by decide +kernel
theorem dX3_bloomTogether_10 : decode cX3_bloomTogether 10 = .ok (.invokevirtual 69, 3) := by decide +kernel
theorem dX3_bloomTogether_13 : decode cX3_bloomTogether 13 = .ok (.ifCond .eq 37, 3) := by decide +kernel
theorem dX3_bloomTogether_16 : decode cX3_bloomTogether 16 = .ok (.aload_n 0, 1) := by decide +kernel
theorem dX3_bloomTogether_17 : decode cX3_bloomTogether 17 = .ok (.getfield 18, 3) := by decide +kernel
theorem dX3_bloomTogether_20 : decode cX3_bloomTogether 20 = .ok (.iload_n 1, 1) := by decide +kernel
theorem dX3_bloomTogether_21 : decode cX3_bloomTogether 21 = .ok (.iaload, 1) := by decide +kernel
theorem dX3_bloomTogether_22 : decode cX3_bloomTogether 22 = .ok (.aload_n 0, 1) := by decide +kernel
theorem dX3_bloomTogether_23 : decode cX3_bloomTogether 23 = .ok (.getfield 21, 3) := by decide +kernel
theorem dX3_bloomTogether_26 : decode cX3_bloomTogether 26 = .ok (.iload_n 2, 1) := by decide +kernel
theorem dX3_bloomTogether_27 : decode cX3_bloomTogether 27 = .ok (.iaload, 1) := by decide +kernel
theorem dX3_bloomTogether_28 : decode cX3_bloomTogether 28 = .ok (.if_icmp .gt 22, 3) := by decide +kernel
theorem dX3_bloomTogether_31 : decode cX3_bloomTogether 31 = .ok (.aload_n 0, 1) := by decide +kernel
theorem dX3_bloomTogether_32 : decode cX3_bloomTogether 32 = .ok (.getfield 18, 3) := by decide +kernel
theorem dX3_bloomTogether_35 : decode cX3_bloomTogether 35 = .ok (.iload_n 2, 1) := by decide +kernel
theorem dX3_bloomTogether_36 : decode cX3_bloomTogether 36 = .ok (.iaload, 1) := by decide +kernel
theorem dX3_bloomTogether_37 : decode cX3_bloomTogether 37 = .ok (.aload_n 0, 1) := by decide +kernel
theorem dX3_bloomTogether_38 : decode cX3_bloomTogether 38 = .ok (.getfield 21, 3) := by decide +kernel
theorem dX3_bloomTogether_41 : decode cX3_bloomTogether 41 = .ok (.iload_n 1, 1) := by decide +kernel
theorem dX3_bloomTogether_42 : decode cX3_bloomTogether 42 = .ok (.iaload, 1) := by decide +kernel
theorem dX3_bloomTogether_43 : decode cX3_bloomTogether 43 = .ok (.if_icmp .gt 7, 3) := by decide +kernel
theorem dX3_bloomTogether_46 : decode cX3_bloomTogether 46 = .ok (.iconst 1, 1) := by decide +kernel
theorem dX3_bloomTogether_47 : decode cX3_bloomTogether 47 = .ok (.goto 4, 3) := by decide +kernel
theorem dX3_bloomTogether_50 : decode cX3_bloomTogether 50 = .ok (.iconst 0, 1) := by decide +kernel
theorem dX3_bloomTogether_51 : decode cX3_bloomTogether 51 = .ok (.ireturn, 1) := by decide +kernel
theorem cv_3_69 : CV RX3 69 1 3 I_X3_hasBloom := ⟨⟨⟨gm 717 (by decide +kernel) rfl, gm 540 (by decide +kernel) rfl, gm 42 (by decide +kernel) rfl, mh_3.1, mh_3.2, by decide +kernel⟩, gm 538 (by decide +kernel) rfl, gm 539 (by decide +kernel) rfl⟩, ⟨_, _, rfl⟩, rfl, rfl⟩
def f_X3_bloomTogether (x1 : Int32) (x2 : Int32) (S : St) : Option (Bool) := (f_X3_hasBloom x1 S).bind fun v2 => (if v2 = true then ((f_X3_hasBloom x2 S).bind fun v10 => (if v10 = true then (if inb x1 6 = true then (if inb x2 6 = true then (if (rd S 100 (ix x2)) < (rd S 99 (ix x1)) then (some false) else (if inb x2 6 = true then (if inb x1 6 = true then (if (rd S 100 (ix x1)) < (rd S 99 (ix x2)) then (some false) else (some true)) else none) else none)) else none) else none) else (some false))) else (some false))
set_option maxRecDepth 100000 in
set_option maxHeartbeats 4000000 in
theorem m_X3_bloomTogether (l : Launch) (w : Wd) (x1 : Int32) (x2 : Int32) (S : St)  : J l w I_X3_bloomTogether 0 [(0, .ref (w.2.1 + 96)), (1, .int x1), (2, .int x2)] [] S (fun b => (some (.int (b2i b)), S)) (f_X3_bloomTogether x1 x2 S) := by
  unfold f_X3_bloomTogether
  refine j_aload_n (y := I_X3_bloomTogether) 0 dX3_bloomTogether_0 rfl rfl ?_
  refine j_iload_n (y := I_X3_bloomTogether) 1 dX3_bloomTogether_1 rfl rfl ?_
  refine j_callVzR (y := I_X3_bloomTogether) (As := [.int x1]) cv_3_69 ⟨Nat.le_of_ble_eq_true rfl, Nat.le_of_ble_eq_true rfl⟩ k_96 rfl (Nat.le_of_ble_eq_true rfl) dX3_bloomTogether_2 (c_X3_hasBloom l w x1 S) (fun v2 h2 => ?_)
  refine j_if_eqB (y := I_X3_bloomTogether) 50 dX3_bloomTogether_5 (by decide) (fun h5 => ?_) (fun h5 => ?_)
  · refine j_iconst (y := I_X3_bloomTogether) (v := 0) dX3_bloomTogether_50 (by decide) ?_
    exact j_zret (y := I_X3_bloomTogether) (q := false) rfl rfl dX3_bloomTogether_51 rfl
  · refine j_aload_n (y := I_X3_bloomTogether) 0 dX3_bloomTogether_8 rfl rfl ?_
    refine j_iload_n (y := I_X3_bloomTogether) 2 dX3_bloomTogether_9 rfl rfl ?_
    refine j_callVzR (y := I_X3_bloomTogether) (As := [.int x2]) cv_3_69 ⟨Nat.le_of_ble_eq_true rfl, Nat.le_of_ble_eq_true rfl⟩ k_96 rfl (Nat.le_of_ble_eq_true rfl) dX3_bloomTogether_10 (c_X3_hasBloom l w x2 S) (fun v10 h10 => ?_)
    refine j_if_eqB (y := I_X3_bloomTogether) 50 dX3_bloomTogether_13 (by decide) (fun h13 => ?_) (fun h13 => ?_)
    · refine j_iconst (y := I_X3_bloomTogether) (v := 0) dX3_bloomTogether_50 (by decide) ?_
      exact j_zret (y := I_X3_bloomTogether) (q := false) rfl rfl dX3_bloomTogether_51 rfl
    · refine j_aload_n (y := I_X3_bloomTogether) 0 dX3_bloomTogether_16 rfl rfl ?_
      refine j_getR (y := I_X3_bloomTogether) (j := 99) fl_3_18 k_96 rfl rfl dX3_bloomTogether_17 ?_
      refine j_iload_n (y := I_X3_bloomTogether) 1 dX3_bloomTogether_20 rfl rfl ?_
      refine j_iald (y := I_X3_bloomTogether) k_99 dX3_bloomTogether_21 (fun h21 => ?_)
      refine j_aload_n (y := I_X3_bloomTogether) 0 dX3_bloomTogether_22 rfl rfl ?_
      refine j_getR (y := I_X3_bloomTogether) (j := 100) fl_3_21 k_96 rfl rfl dX3_bloomTogether_23 ?_
      refine j_iload_n (y := I_X3_bloomTogether) 2 dX3_bloomTogether_26 rfl rfl ?_
      refine j_iald (y := I_X3_bloomTogether) k_100 dX3_bloomTogether_27 (fun h27 => ?_)
      refine j_icmp_gt (y := I_X3_bloomTogether) 50 dX3_bloomTogether_28 (by decide) (fun h28 => ?_) (fun h28 => ?_)
      · refine j_iconst (y := I_X3_bloomTogether) (v := 0) dX3_bloomTogether_50 (by decide) ?_
        exact j_zret (y := I_X3_bloomTogether) (q := false) rfl rfl dX3_bloomTogether_51 rfl
      · refine j_aload_n (y := I_X3_bloomTogether) 0 dX3_bloomTogether_31 rfl rfl ?_
        refine j_getR (y := I_X3_bloomTogether) (j := 99) fl_3_18 k_96 rfl rfl dX3_bloomTogether_32 ?_
        refine j_iload_n (y := I_X3_bloomTogether) 2 dX3_bloomTogether_35 rfl rfl ?_
        refine j_iald (y := I_X3_bloomTogether) k_99 dX3_bloomTogether_36 (fun h36 => ?_)
        refine j_aload_n (y := I_X3_bloomTogether) 0 dX3_bloomTogether_37 rfl rfl ?_
        refine j_getR (y := I_X3_bloomTogether) (j := 100) fl_3_21 k_96 rfl rfl dX3_bloomTogether_38 ?_
        refine j_iload_n (y := I_X3_bloomTogether) 1 dX3_bloomTogether_41 rfl rfl ?_
        refine j_iald (y := I_X3_bloomTogether) k_100 dX3_bloomTogether_42 (fun h42 => ?_)
        refine j_icmp_gt (y := I_X3_bloomTogether) 50 dX3_bloomTogether_43 (by decide) (fun h43 => ?_) (fun h43 => ?_)
        · refine j_iconst (y := I_X3_bloomTogether) (v := 0) dX3_bloomTogether_50 (by decide) ?_
          exact j_zret (y := I_X3_bloomTogether) (q := false) rfl rfl dX3_bloomTogether_51 rfl
        · refine j_iconst (y := I_X3_bloomTogether) (v := 1) dX3_bloomTogether_46 (by decide) ?_
          refine j_goto (y := I_X3_bloomTogether) 51 dX3_bloomTogether_47 (by decide) ?_
          exact j_zret (y := I_X3_bloomTogether) (q := true) rfl rfl dX3_bloomTogether_51 rfl
theorem c_X3_bloomTogether (l : Launch) (w : Wd) (x1 : Int32) (x2 : Int32) (S : St)  : ∀ v, f_X3_bloomTogether x1 x2 S = some v → CtS l w I_X3_bloomTogether [.ref (w.2.1 + 96), .int x1, .int x2] S S (some (.int (b2i v))) := fun v h => J.ct (av := [.ref (w.2.1 + 96), .int x1, .int x2]) (Nat.le_of_ble_eq_true rfl) pn_3 (m_X3_bloomTogether l w x1 x2 S ) h
abbrev I_X3_isInBloom : MI := (yX3_isInBloom, cX3_isInBloom, 3, some .boolean, { frames := 0, cells := 0, slots := 0, locals := 0 })
theorem dX3_isInBloom_0 : decode cX3_isInBloom 0 = .ok (.aload_n 0, 1) := by decide +kernel
theorem dX3_isInBloom_1 : decode cX3_isInBloom 1 = .ok (.getfield 18, 3) := by decide +kernel
theorem dX3_isInBloom_4 : decode cX3_isInBloom 4 = .ok (.iload_n 1, 1) := by decide +kernel
theorem dX3_isInBloom_5 : decode cX3_isInBloom 5 = .ok (.iaload, 1) := by decide +kernel
theorem dX3_isInBloom_6 : decode cX3_isInBloom 6 = .ok (.iload_n 2, 1) := by decide +kernel
theorem dX3_isInBloom_7 : decode cX3_isInBloom 7 = .ok (.if_icmp .gt 17, 3) := by decide +kernel
theorem dX3_isInBloom_10 : decode cX3_isInBloom 10 = .ok (.iload_n 2, 1) := by decide +kernel
theorem dX3_isInBloom_11 : decode cX3_isInBloom 11 = .ok (.aload_n 0, 1) := by decide +kernel
theorem dX3_isInBloom_12 : decode cX3_isInBloom 12 = .ok (.getfield 21, 3) := by decide +kernel
theorem dX3_isInBloom_15 : decode cX3_isInBloom 15 = .ok (.iload_n 1, 1) := by decide +kernel
theorem dX3_isInBloom_16 : decode cX3_isInBloom 16 = .ok (.iaload, 1) := by decide +kernel
theorem dX3_isInBloom_17 : decode cX3_isInBloom 17 = .ok (.if_icmp .gt 7, 3) := by decide +kernel
theorem dX3_isInBloom_20 : decode cX3_isInBloom 20 = .ok (.iconst 1, 1) := by decide +kernel
theorem dX3_isInBloom_21 : decode cX3_isInBloom 21 = .ok (.goto 4, 3) := by decide +kernel
theorem dX3_isInBloom_24 : decode cX3_isInBloom 24 = .ok (.iconst 0, 1) := by decide +kernel
theorem dX3_isInBloom_25 : decode cX3_isInBloom 25 = .ok (.ireturn, 1) := by decide +kernel
def f_X3_isInBloom (x1 : Int32) (x2 : Int32) (S : St) : Option (Bool) := if inb x1 6 = true then (if x2 < (rd S 99 (ix x1)) then (some false) else (if inb x1 6 = true then (if (rd S 100 (ix x1)) < x2 then (some false) else (some true)) else none)) else none
set_option maxRecDepth 100000 in
set_option maxHeartbeats 4000000 in
theorem m_X3_isInBloom (l : Launch) (w : Wd) (x1 : Int32) (x2 : Int32) (S : St)  : J l w I_X3_isInBloom 0 [(0, .ref (w.2.1 + 96)), (1, .int x1), (2, .int x2)] [] S (fun b => (some (.int (b2i b)), S)) (f_X3_isInBloom x1 x2 S) := by
  unfold f_X3_isInBloom
  refine j_aload_n (y := I_X3_isInBloom) 0 dX3_isInBloom_0 rfl rfl ?_
  refine j_getR (y := I_X3_isInBloom) (j := 99) fl_3_18 k_96 rfl rfl dX3_isInBloom_1 ?_
  refine j_iload_n (y := I_X3_isInBloom) 1 dX3_isInBloom_4 rfl rfl ?_
  refine j_iald (y := I_X3_isInBloom) k_99 dX3_isInBloom_5 (fun h5 => ?_)
  refine j_iload_n (y := I_X3_isInBloom) 2 dX3_isInBloom_6 rfl rfl ?_
  refine j_icmp_gt (y := I_X3_isInBloom) 24 dX3_isInBloom_7 (by decide) (fun h7 => ?_) (fun h7 => ?_)
  · refine j_iconst (y := I_X3_isInBloom) (v := 0) dX3_isInBloom_24 (by decide) ?_
    exact j_zret (y := I_X3_isInBloom) (q := false) rfl rfl dX3_isInBloom_25 rfl
  · refine j_iload_n (y := I_X3_isInBloom) 2 dX3_isInBloom_10 rfl rfl ?_
    refine j_aload_n (y := I_X3_isInBloom) 0 dX3_isInBloom_11 rfl rfl ?_
    refine j_getR (y := I_X3_isInBloom) (j := 100) fl_3_21 k_96 rfl rfl dX3_isInBloom_12 ?_
    refine j_iload_n (y := I_X3_isInBloom) 1 dX3_isInBloom_15 rfl rfl ?_
    refine j_iald (y := I_X3_isInBloom) k_100 dX3_isInBloom_16 (fun h16 => ?_)
    refine j_icmp_gt (y := I_X3_isInBloom) 24 dX3_isInBloom_17 (by decide) (fun h17 => ?_) (fun h17 => ?_)
    · refine j_iconst (y := I_X3_isInBloom) (v := 0) dX3_isInBloom_24 (by decide) ?_
      exact j_zret (y := I_X3_isInBloom) (q := false) rfl rfl dX3_isInBloom_25 rfl
    · refine j_iconst (y := I_X3_isInBloom) (v := 1) dX3_isInBloom_20 (by decide) ?_
      refine j_goto (y := I_X3_isInBloom) 25 dX3_isInBloom_21 (by decide) ?_
      exact j_zret (y := I_X3_isInBloom) (q := true) rfl rfl dX3_isInBloom_25 rfl
theorem c_X3_isInBloom (l : Launch) (w : Wd) (x1 : Int32) (x2 : Int32) (S : St)  : ∀ v, f_X3_isInBloom x1 x2 S = some v → CtS l w I_X3_isInBloom [.ref (w.2.1 + 96), .int x1, .int x2] S S (some (.int (b2i v))) := fun v h => J.ct (av := [.ref (w.2.1 + 96), .int x1, .int x2]) (Nat.le_of_ble_eq_true rfl) pn_3 (m_X3_isInBloom l w x1 x2 S ) h
abbrev I_X3_isRipe : MI := (yX3_isRipe, cX3_isRipe, 5, some .boolean, { frames := 0, cells := 0, slots := 0, locals := 0 })
theorem dX3_isRipe_0 : decode cX3_isRipe 0 = .ok (.aload_n 0, 1) := by decide +kernel
theorem dX3_isRipe_1 : decode cX3_isRipe 1 = .ok (.getfield 21, 3) := by decide +kernel
theorem dX3_isRipe_4 : decode cX3_isRipe 4 = .ok (.iload_n 1, 1) := by decide +kernel
theorem dX3_isRipe_5 : decode cX3_isRipe 5 = .ok (.iaload, 1) := by decide +kernel
theorem dX3_isRipe_6 : decode cX3_isRipe 6 = .ok (.istore 4, 2) := by decide +kernel
theorem dX3_isRipe_8 : decode cX3_isRipe 8 = .ok (.iload_n 3, 1) := by decide +kernel
theorem dX3_isRipe_9 : decode cX3_isRipe 9 = .ok (.iload 4, 2) := by decide +kernel
theorem dX3_isRipe_11 : decode cX3_isRipe 11 = .ok (.if_icmp .le 29, 3) := by decide +kernel
theorem dX3_isRipe_14 : decode cX3_isRipe 14 = .ok (.aload_n 0, 1) := by decide +kernel
theorem dX3_isRipe_15 : decode cX3_isRipe 15 = .ok (.getfield 15, 3) := by decide +kernel
theorem dX3_isRipe_18 : decode cX3_isRipe 18 = .ok (.iload_n 3, 1) := by decide +kernel
theorem dX3_isRipe_19 : decode cX3_isRipe 19 = .ok (.iconst 1, 1) := by decide +kernel
theorem dX3_isRipe_20 : decode cX3_isRipe 20 = .ok (.iadd, 1) := by decide +kernel
theorem dX3_isRipe_21 : decode cX3_isRipe 21 = .ok (.iaload, 1) := by decide +kernel
theorem dX3_isRipe_22 : decode cX3_isRipe 22 = .ok (.aload_n 0, 1) := by decide +kernel
theorem dX3_isRipe_23 : decode cX3_isRipe 23 = .ok (.getfield 15, 3) := by decide +kernel
theorem dX3_isRipe_26 : decode cX3_isRipe 26 = .ok (.iload 4, 2) := by decide +kernel
theorem dX3_isRipe_28 : decode cX3_isRipe 28 = .ok (.iconst 1, 1) := by decide +kernel
theorem dX3_isRipe_29 : decode cX3_isRipe 29 = .ok (.iadd, 1) := by decide +kernel
theorem dX3_isRipe_30 : decode cX3_isRipe 30 = .ok (.iaload, 1) := by decide +kernel
theorem dX3_isRipe_31 : decode cX3_isRipe 31 = .ok (.isub, 1) := by decide +kernel
theorem dX3_isRipe_32 : decode cX3_isRipe 32 = .ok (.iload_n 2, 1) := by decide +kernel
theorem dX3_isRipe_33 : decode cX3_isRipe 33 = .ok (.if_icmp .lt 7, 3) := by decide +kernel
theorem dX3_isRipe_36 : decode cX3_isRipe 36 = .ok (.iconst 1, 1) := by decide +kernel
theorem dX3_isRipe_37 : decode cX3_isRipe 37 = .ok (.goto 4, 3) := by decide +kernel
theorem dX3_isRipe_40 : decode cX3_isRipe 40 = .ok (.iconst 0, 1) := by decide +kernel
theorem dX3_isRipe_41 : decode cX3_isRipe 41 = .ok (.ireturn, 1) := by decide +kernel
def f_X3_isRipe (x1 : Int32) (x2 : Int32) (x3 : Int32) (S : St) : Option (Bool) := if inb x1 6 = true then (if (rd S 100 (ix x1)) < x3 then (if inb (x3 + (1 : Int32)) 51 = true then (if inb ((rd S 100 (ix x1)) + (1 : Int32)) 51 = true then (if ((rd S 98 (ix (x3 + (1 : Int32)))) - (rd S 98 (ix ((rd S 100 (ix x1)) + (1 : Int32))))) < x2 then (some false) else (some true)) else none) else none) else (some false)) else none
set_option maxRecDepth 100000 in
set_option maxHeartbeats 4000000 in
theorem m_X3_isRipe (l : Launch) (w : Wd) (x1 : Int32) (x2 : Int32) (x3 : Int32) (S : St)  : J l w I_X3_isRipe 0 [(0, .ref (w.2.1 + 96)), (1, .int x1), (2, .int x2), (3, .int x3)] [] S (fun b => (some (.int (b2i b)), S)) (f_X3_isRipe x1 x2 x3 S) := by
  unfold f_X3_isRipe
  refine j_aload_n (y := I_X3_isRipe) 0 dX3_isRipe_0 rfl rfl ?_
  refine j_getR (y := I_X3_isRipe) (j := 100) fl_3_21 k_96 rfl rfl dX3_isRipe_1 ?_
  refine j_iload_n (y := I_X3_isRipe) 1 dX3_isRipe_4 rfl rfl ?_
  refine j_iald (y := I_X3_isRipe) k_100 dX3_isRipe_5 (fun h5 => ?_)
  refine j_istore (y := I_X3_isRipe) (ls' := [(4, .int (rd S 100 (ix x1))), (0, .ref (w.2.1 + 96)), (1, .int x1), (2, .int x2), (3, .int x3)]) dX3_isRipe_6 (by decide) rfl ?_
  refine j_iload_n (y := I_X3_isRipe) 4 dX3_isRipe_8 rfl rfl ?_
  refine j_iload (y := I_X3_isRipe) 0 dX3_isRipe_9 rfl ?_
  refine j_icmp_le (y := I_X3_isRipe) 40 dX3_isRipe_11 (by decide) (fun h11 => ?_) (fun h11 => ?_)
  · refine j_iconst (y := I_X3_isRipe) (v := 0) dX3_isRipe_40 (by decide) ?_
    exact j_zret (y := I_X3_isRipe) (q := false) rfl rfl dX3_isRipe_41 rfl
  · refine j_aload_n (y := I_X3_isRipe) 1 dX3_isRipe_14 rfl rfl ?_
    refine j_getR (y := I_X3_isRipe) (j := 98) fl_3_15 k_96 rfl rfl dX3_isRipe_15 ?_
    refine j_iload_n (y := I_X3_isRipe) 4 dX3_isRipe_18 rfl rfl ?_
    refine j_iconst (y := I_X3_isRipe) (v := 1) dX3_isRipe_19 (by decide) ?_
    refine j_iadd (y := I_X3_isRipe) dX3_isRipe_20 ?_
    refine j_iald (y := I_X3_isRipe) k_98 dX3_isRipe_21 (fun h21 => ?_)
    refine j_aload_n (y := I_X3_isRipe) 1 dX3_isRipe_22 rfl rfl ?_
    refine j_getR (y := I_X3_isRipe) (j := 98) fl_3_15 k_96 rfl rfl dX3_isRipe_23 ?_
    refine j_iload (y := I_X3_isRipe) 0 dX3_isRipe_26 rfl ?_
    refine j_iconst (y := I_X3_isRipe) (v := 1) dX3_isRipe_28 (by decide) ?_
    refine j_iadd (y := I_X3_isRipe) dX3_isRipe_29 ?_
    refine j_iald (y := I_X3_isRipe) k_98 dX3_isRipe_30 (fun h30 => ?_)
    refine j_isub (y := I_X3_isRipe) dX3_isRipe_31 ?_
    refine j_iload_n (y := I_X3_isRipe) 3 dX3_isRipe_32 rfl rfl ?_
    refine j_icmp_lt (y := I_X3_isRipe) 40 dX3_isRipe_33 (by decide) (fun h33 => ?_) (fun h33 => ?_)
    · refine j_iconst (y := I_X3_isRipe) (v := 0) dX3_isRipe_40 (by decide) ?_
      exact j_zret (y := I_X3_isRipe) (q := false) rfl rfl dX3_isRipe_41 rfl
    · refine j_iconst (y := I_X3_isRipe) (v := 1) dX3_isRipe_36 (by decide) ?_
      refine j_goto (y := I_X3_isRipe) 41 dX3_isRipe_37 (by decide) ?_
      exact j_zret (y := I_X3_isRipe) (q := true) rfl rfl dX3_isRipe_41 rfl
theorem c_X3_isRipe (l : Launch) (w : Wd) (x1 : Int32) (x2 : Int32) (x3 : Int32) (S : St)  : ∀ v, f_X3_isRipe x1 x2 x3 S = some v → CtS l w I_X3_isRipe [.ref (w.2.1 + 96), .int x1, .int x2, .int x3] S S (some (.int (b2i v))) := fun v h => J.ct (av := [.ref (w.2.1 + 96), .int x1, .int x2, .int x3]) (Nat.le_of_ble_eq_true rfl) pn_3 (m_X3_isRipe l w x1 x2 x3 S ) h
abbrev I_X3_findBlooms : MI := (yX3_findBlooms, cX3_findBlooms, 4, none, { frames := 0, cells := 0, slots := 0, locals := 0 })
theorem dX3_findBlooms_0 : decode cX3_findBlooms 0 = .ok (.aload_n 0, 1) := by decide +kernel
theorem dX3_findBlooms_1 : decode cX3_findBlooms 1 = .ok (.getfield 15, 3) := by decide +kernel
theorem dX3_findBlooms_4 : decode cX3_findBlooms 4 = .ok (.iconst 0, 1) := by decide +kernel
theorem dX3_findBlooms_5 : decode cX3_findBlooms 5 = .ok (.iconst 0, 1) := by decide +kernel
theorem dX3_findBlooms_6 : decode cX3_findBlooms 6 = .ok (.iastore, 1) := by decide +kernel
theorem dX3_findBlooms_7 : decode cX3_findBlooms 7 = .ok (.iconst 0, 1) := by decide +kernel
theorem dX3_findBlooms_8 : decode cX3_findBlooms 8 = .ok (.istore_n 2, 1) := by decide +kernel
theorem dX3_findBlooms_9 : decode cX3_findBlooms 9 = .ok (.iload_n 2, 1) := by decide +kernel
theorem dX3_findBlooms_10 : decode cX3_findBlooms 10 = .ok (.bipush 50, 2) := by decide +kernel
theorem dX3_findBlooms_12 : decode cX3_findBlooms 12 = .ok (.if_icmp .ge 30, 3) := by decide +kernel
theorem dX3_findBlooms_15 : decode cX3_findBlooms 15 = .ok (.aload_n 0, 1) := by decide +kernel
theorem dX3_findBlooms_16 : decode cX3_findBlooms 16 = .ok (.getfield 15, 3) := by decide +kernel
theorem dX3_findBlooms_19 : decode cX3_findBlooms 19 = .ok (.iload_n 2, 1) := by decide +kernel
theorem dX3_findBlooms_20 : decode cX3_findBlooms 20 = .ok (.iconst 1, 1) := by decide +kernel
theorem dX3_findBlooms_21 : decode cX3_findBlooms 21 = .ok (.iadd, 1) := by decide +kernel
theorem dX3_findBlooms_22 : decode cX3_findBlooms 22 = .ok (.aload_n 0, 1) := by decide +kernel
theorem dX3_findBlooms_23 : decode cX3_findBlooms 23 = .ok (.getfield 15, 3) := by decide +kernel
theorem dX3_findBlooms_26 : decode cX3_findBlooms 26 = .ok (.iload_n 2, 1) := by decide +kernel
theorem dX3_findBlooms_27 : decode cX3_findBlooms 27 = .ok (.iaload, 1) := by decide +kernel
theorem dX3_findBlooms_28 : decode cX3_findBlooms 28 = .ok (.aload_n 0, 1) := by decide +kernel
theorem dX3_findBlooms_29 : decode cX3_findBlooms 29 = .ok (.getfield 9, 3) := by decide +kernel
theorem dX3_findBlooms_32 : decode cX3_findBlooms 32 = .ok (.iload_n 2, 1) := by decide +kernel
theorem dX3_findBlooms_33 : decode cX3_findBlooms 33 = .ok (.iaload, 1) := by decide +kernel
theorem dX3_findBlooms_34 : decode cX3_findBlooms 34 = .ok (.iadd, 1) := by decide +kernel
theorem dX3_findBlooms_35 : decode cX3_findBlooms 35 = .ok (.iastore, 1) := by decide +kernel
theorem dX3_findBlooms_36 : decode cX3_findBlooms 36 = .ok (.iinc 2 1, 3) := by decide +kernel
theorem dX3_findBlooms_39 : decode cX3_findBlooms 39 = .ok (.goto (-30), 3) := by decide +kernel
theorem dX3_findBlooms_42 : decode cX3_findBlooms 42 = .ok (.iconst 0, 1) := by decide +kernel
theorem dX3_findBlooms_43 : decode cX3_findBlooms 43 = .ok (.istore_n 2, 1) := by decide +kernel
theorem dX3_findBlooms_44 : decode cX3_findBlooms 44 = .ok (.iload_n 2, 1) := by decide +kernel
theorem dX3_findBlooms_45 : decode cX3_findBlooms 45 = .ok (.aload_n 1, 1) := by decide +kernel
theorem dX3_findBlooms_46 : decode cX3_findBlooms 46 = .ok (.getfield 54, 3) := by decide +kernel
theorem dX3_findBlooms_49 : decode cX3_findBlooms 49 = .ok (.if_icmp .ge 69, 3) := by decide +kernel
theorem dX3_findBlooms_52 : decode cX3_findBlooms 52 = .ok (.iconst 0, 1) := by decide +kernel
theorem dX3_findBlooms_53 : decode cX3_findBlooms 53 = .ok (.istore_n 3, 1) := by decide +kernel
theorem dX3_findBlooms_54 : decode cX3_findBlooms 54 = .ok (.iload_n 3, 1) := by decide +kernel
theorem dX3_findBlooms_55 : decode cX3_findBlooms 55 = .ok (.bipush 50, 2) := by decide +kernel
theorem dX3_findBlooms_57 : decode cX3_findBlooms 57 = .ok (.if_icmp .ge 29, 3) := by decide +kernel
theorem dX3_findBlooms_60 : decode cX3_findBlooms 60 = .ok (.aload_n 0, 1) := by decide +kernel
theorem dX3_findBlooms_61 : decode cX3_findBlooms 61 = .ok (.getfield 15, 3) := by decide +kernel
theorem dX3_findBlooms_64 : decode cX3_findBlooms 64 = .ok (.iload_n 3, 1) := by decide +kernel
theorem dX3_findBlooms_65 : decode cX3_findBlooms 65 = .ok (.iconst 1, 1) := by decide +kernel
theorem dX3_findBlooms_66 : decode cX3_findBlooms 66 = .ok (.iadd, 1) := by decide +kernel
theorem dX3_findBlooms_67 : decode cX3_findBlooms 67 = .ok (.iaload, 1) := by decide +kernel
theorem dX3_findBlooms_68 : decode cX3_findBlooms 68 = .ok (.aload_n 1, 1) := by decide +kernel
theorem dX3_findBlooms_69 : decode cX3_findBlooms 69 = .ok (.getfield 57, 3) := by decide +kernel
theorem dX3_findBlooms_72 : decode cX3_findBlooms 72 = .ok (.iload_n 2, 1) := by decide +kernel
theorem dX3_findBlooms_73 : decode cX3_findBlooms 73 = .ok (.aaload, 1) := by decide +kernel
theorem dX3_findBlooms_74 : decode cX3_findBlooms 74 = .ok (.getfield 61, 3) := by decide +kernel
theorem dX3_findBlooms_77 : decode cX3_findBlooms 77 = .ok (.if_icmp .ge 9, 3) := by decide +kernel
theorem dX3_findBlooms_80 : decode cX3_findBlooms 80 = .ok (.iinc 3 1, 3) := by decide +kernel
theorem dX3_findBlooms_83 : decode cX3_findBlooms 83 = .ok (.goto (-29), 3) := by decide +kernel
theorem dX3_findBlooms_86 : decode cX3_findBlooms 86 = .ok (.aload_n 0, 1) := by decide +kernel
theorem dX3_findBlooms_87 : decode cX3_findBlooms 87 = .ok (.getfield 18, 3) := by decide +kernel
theorem dX3_findBlooms_90 : decode cX3_findBlooms 90 = .ok (.iload_n 2, 1) := by decide +kernel
theorem dX3_findBlooms_91 : decode cX3_findBlooms 91 = .ok (.iload_n 3, 1) := by decide +kernel
theorem dX3_findBlooms_92 : decode cX3_findBlooms 92 = .ok (.iastore, 1) := by decide +kernel
theorem dX3_findBlooms_93 : decode cX3_findBlooms 93 = .ok (.aload_n 0, 1) := by decide +kernel
theorem dX3_findBlooms_94 : decode cX3_findBlooms 94 = .ok (.getfield 21, 3) := by decide +kernel
theorem dX3_findBlooms_97 : decode cX3_findBlooms 97 = .ok (.iload_n 2, 1) := by decide +kernel
theorem dX3_findBlooms_98 : decode cX3_findBlooms 98 = .ok (.iload_n 3, 1) := by decide +kernel
theorem dX3_findBlooms_99 : decode cX3_findBlooms 99 = .ok (.aload_n 1, 1) := by decide +kernel
theorem dX3_findBlooms_100 : decode cX3_findBlooms 100 = .ok (.getfield 57, 3) := by decide +kernel
theorem dX3_findBlooms_103 : decode cX3_findBlooms 103 = .ok (.iload_n 2, 1) := by decide +kernel
theorem dX3_findBlooms_104 : decode cX3_findBlooms 104 = .ok (.aaload, 1) := by decide +kernel
theorem dX3_findBlooms_105 : decode cX3_findBlooms 105 = .ok (.getfield 66, 3) := by decide +kernel
theorem dX3_findBlooms_108 : decode cX3_findBlooms 108 = .ok (.iadd, 1) := by decide +kernel
theorem dX3_findBlooms_109 : decode cX3_findBlooms 109 = .ok (.iconst 1, 1) := by decide +kernel
theorem dX3_findBlooms_110 : decode cX3_findBlooms 110 = .ok (.isub, 1) := by decide +kernel
theorem dX3_findBlooms_111 : decode cX3_findBlooms 111 = .ok (.iastore, 1) := by decide +kernel
theorem dX3_findBlooms_112 : decode cX3_findBlooms 112 = .ok (.iinc 2 1, 3) := by decide +kernel
theorem dX3_findBlooms_115 : decode cX3_findBlooms 115 = .ok (.goto (-71), 3) := by decide +kernel
theorem dX3_findBlooms_118 : decode cX3_findBlooms 118 = .ok (.return_, 1) := by decide +kernel
def f_X3_findBlooms_L9 (fuel : Nat) (K : St → Option (St)) (a9_2 : Int32) (S9 : St) : Option (St) := match fuel with
  | 0 => none
  | n + 1 => if a9_2 < (50 : Int32) then (if inb a9_2 51 = true then (if inb a9_2 50 = true then (if inb (a9_2 + (1 : Int32)) 51 = true then (f_X3_findBlooms_L9 n K (a9_2 + (1 : Int32)) (wr S9 98 (ix (a9_2 + (1 : Int32))) ((rd S9 98 (ix a9_2)) + (rd S9 97 (ix a9_2))))) else none) else none) else none) else (K S9)
def f_X3_findBlooms_L54 (fuel : Nat) (K : Int32 → Int32 → St → Option (St)) (a54_2 : Int32) (a54_3 : Int32) (S54 : St) : Option (St) := match fuel with
  | 0 => none
  | n + 1 => if a54_3 < (50 : Int32) then (if inb (a54_3 + (1 : Int32)) 51 = true then (if inb a54_2 6 = true then (if (rd S54 98 (ix (a54_3 + (1 : Int32)))) < (rd S54 (8 + 2 * ix a54_2) 0) then (f_X3_findBlooms_L54 n K a54_2 (a54_3 + (1 : Int32)) S54) else (K a54_2 a54_3 S54)) else none) else none) else (K a54_2 a54_3 S54)
def f_X3_findBlooms_L44 (fuel : Nat) (K : St → Option (St)) (a44_2 : Int32) (S44 : St) : Option (St) := match fuel with
  | 0 => none
  | n + 1 => if a44_2 < (rd S44 1 1) then (f_X3_findBlooms_L54 6000 (fun e86_2 e86_3 T86 => (if inb e86_2 6 = true then (if inb e86_2 6 = true then (if inb e86_2 6 = true then (f_X3_findBlooms_L44 n K (e86_2 + (1 : Int32)) (wr (wr T86 99 (ix e86_2) e86_3) 100 (ix e86_2) ((e86_3 + (rd (wr T86 99 (ix e86_2) e86_3) (8 + 2 * ix e86_2) 1)) - (1 : Int32)))) else none) else none) else none)) a44_2 (0 : Int32) S44) else (K S44)
def f_X3_findBlooms  (S : St) : Option (St) := f_X3_findBlooms_L9 6000 (fun T42 => (f_X3_findBlooms_L44 6000 (fun T118 => (some T118)) (0 : Int32) T42)) (0 : Int32) (wr S 98 (ix (0 : Int32)) (0 : Int32))
set_option maxRecDepth 100000 in
theorem jl_X3_findBlooms_9 (l : Launch) (w : Wd) (K : St → Option (St)) (n : Nat) : ∀ (a9_2 : Int32) (S9 : St), (∀  (S' : St) , J l w I_X3_findBlooms 42 [(0, .ref (w.2.1 + 96)), (1, .ref (w.2.1 + 1))] [] S' (fun b => (none, b)) (K  S')) → J l w I_X3_findBlooms 9 [(0, .ref (w.2.1 + 96)), (1, .ref (w.2.1 + 1)), (2, .int a9_2)] [] S9 (fun b => (none, b)) (f_X3_findBlooms_L9 n K a9_2 S9) := by
  induction n with
  | zero =>
    intro a9_2 S9 hK b h
    simp only [f_X3_findBlooms_L9] at h
    cases h
  | succ n ih =>
    intro a9_2 S9 hK
    rw [f_X3_findBlooms_L9]
    refine j_iload_n (y := I_X3_findBlooms) 2 dX3_findBlooms_9 rfl rfl ?_
    refine j_bipush (y := I_X3_findBlooms) (v := 50) dX3_findBlooms_10 (by decide) ?_
    refine j_icmp_ge (y := I_X3_findBlooms) 42 dX3_findBlooms_12 (by decide) (fun h12 => ?_) (fun h12 => ?_)
    · refine j_sub [0, 1] rfl ?_
      exact hK S9
    · refine j_aload_n (y := I_X3_findBlooms) 0 dX3_findBlooms_15 rfl rfl ?_
      refine j_getR (y := I_X3_findBlooms) (j := 98) fl_3_15 k_96 rfl rfl dX3_findBlooms_16 ?_
      refine j_iload_n (y := I_X3_findBlooms) 2 dX3_findBlooms_19 rfl rfl ?_
      refine j_iconst (y := I_X3_findBlooms) (v := 1) dX3_findBlooms_20 (by decide) ?_
      refine j_iadd (y := I_X3_findBlooms) dX3_findBlooms_21 ?_
      refine j_aload_n (y := I_X3_findBlooms) 0 dX3_findBlooms_22 rfl rfl ?_
      refine j_getR (y := I_X3_findBlooms) (j := 98) fl_3_15 k_96 rfl rfl dX3_findBlooms_23 ?_
      refine j_iload_n (y := I_X3_findBlooms) 2 dX3_findBlooms_26 rfl rfl ?_
      refine j_iald (y := I_X3_findBlooms) k_98 dX3_findBlooms_27 (fun h27 => ?_)
      refine j_aload_n (y := I_X3_findBlooms) 0 dX3_findBlooms_28 rfl rfl ?_
      refine j_getR (y := I_X3_findBlooms) (j := 97) fl_3_9 k_96 rfl rfl dX3_findBlooms_29 ?_
      refine j_iload_n (y := I_X3_findBlooms) 2 dX3_findBlooms_32 rfl rfl ?_
      refine j_iald (y := I_X3_findBlooms) k_97 dX3_findBlooms_33 (fun h33 => ?_)
      refine j_iadd (y := I_X3_findBlooms) dX3_findBlooms_34 ?_
      refine j_iast (y := I_X3_findBlooms) k_98 dX3_findBlooms_35 (fun h35 => ?_)
      refine j_iinc (y := I_X3_findBlooms) 2 (ls' := [(2, .int (a9_2 + (1 : Int32))), (0, .ref (w.2.1 + 96)), (1, .ref (w.2.1 + 1))]) dX3_findBlooms_36 rfl (ii _ _ (by decide) _) (by decide) rfl ?_
      refine j_goto (y := I_X3_findBlooms) 9 dX3_findBlooms_39 (by decide) ?_
      refine j_sub [1, 2, 0] rfl ?_
      exact ih (a9_2 + (1 : Int32)) (wr S9 98 (ix (a9_2 + (1 : Int32))) ((rd S9 98 (ix a9_2)) + (rd S9 97 (ix a9_2)))) hK
set_option maxRecDepth 100000 in
theorem jl_X3_findBlooms_54 (l : Launch) (w : Wd) (K : Int32 → Int32 → St → Option (St)) (n : Nat) : ∀ (a54_2 : Int32) (a54_3 : Int32) (S54 : St), (∀ (e86_2 : Int32) (e86_3 : Int32) (S' : St) , J l w I_X3_findBlooms 86 [(0, .ref (w.2.1 + 96)), (1, .ref (w.2.1 + 1)), (2, .int e86_2), (3, .int e86_3)] [] S' (fun b => (none, b)) (K e86_2 e86_3 S')) → J l w I_X3_findBlooms 54 [(0, .ref (w.2.1 + 96)), (1, .ref (w.2.1 + 1)), (2, .int a54_2), (3, .int a54_3)] [] S54 (fun b => (none, b)) (f_X3_findBlooms_L54 n K a54_2 a54_3 S54) := by
  induction n with
  | zero =>
    intro a54_2 a54_3 S54 hK b h
    simp only [f_X3_findBlooms_L54] at h
    cases h
  | succ n ih =>
    intro a54_2 a54_3 S54 hK
    rw [f_X3_findBlooms_L54]
    refine j_iload_n (y := I_X3_findBlooms) 3 dX3_findBlooms_54 rfl rfl ?_
    refine j_bipush (y := I_X3_findBlooms) (v := 50) dX3_findBlooms_55 (by decide) ?_
    refine j_icmp_ge (y := I_X3_findBlooms) 86 dX3_findBlooms_57 (by decide) (fun h57 => ?_) (fun h57 => ?_)
    · refine j_sub [0, 1, 2, 3] rfl ?_
      exact hK a54_2 a54_3 S54
    · refine j_aload_n (y := I_X3_findBlooms) 0 dX3_findBlooms_60 rfl rfl ?_
      refine j_getR (y := I_X3_findBlooms) (j := 98) fl_3_15 k_96 rfl rfl dX3_findBlooms_61 ?_
      refine j_iload_n (y := I_X3_findBlooms) 3 dX3_findBlooms_64 rfl rfl ?_
      refine j_iconst (y := I_X3_findBlooms) (v := 1) dX3_findBlooms_65 (by decide) ?_
      refine j_iadd (y := I_X3_findBlooms) dX3_findBlooms_66 ?_
      refine j_iald (y := I_X3_findBlooms) k_98 dX3_findBlooms_67 (fun h67 => ?_)
      refine j_aload_n (y := I_X3_findBlooms) 1 dX3_findBlooms_68 rfl rfl ?_
      refine j_getR (y := I_X3_findBlooms) (j := 2) fl_3_57 k_1 rfl rfl dX3_findBlooms_69 ?_
      refine j_iload_n (y := I_X3_findBlooms) 2 dX3_findBlooms_72 rfl rfl ?_
      refine j_aald (y := I_X3_findBlooms) (j := (8 + 2 * ix a54_2)) (tt := 0) k_2 rfl (rho_2 _) dX3_findBlooms_73 (fun h73 => ?_)
      refine j_getI (y := I_X3_findBlooms) fl_3_61 (kd_So _ (inb_lt h73)) rfl dX3_findBlooms_74 ?_
      refine j_icmp_ge (y := I_X3_findBlooms) 86 dX3_findBlooms_77 (by decide) (fun h77 => ?_) (fun h77 => ?_)
      · refine j_sub [0, 1, 2, 3] rfl ?_
        exact hK a54_2 a54_3 S54
      · refine j_iinc (y := I_X3_findBlooms) 3 (ls' := [(3, .int (a54_3 + (1 : Int32))), (0, .ref (w.2.1 + 96)), (1, .ref (w.2.1 + 1)), (2, .int a54_2)]) dX3_findBlooms_80 rfl (ii _ _ (by decide) _) (by decide) rfl ?_
        refine j_goto (y := I_X3_findBlooms) 54 dX3_findBlooms_83 (by decide) ?_
        refine j_sub [1, 2, 3, 0] rfl ?_
        exact ih a54_2 (a54_3 + (1 : Int32)) S54 hK
set_option maxRecDepth 100000 in
theorem jl_X3_findBlooms_44 (l : Launch) (w : Wd) (K : St → Option (St)) (n : Nat) : ∀ (a44_2 : Int32) (S44 : St), (∀  (S' : St) , J l w I_X3_findBlooms 118 [] [] S' (fun b => (none, b)) (K  S')) → J l w I_X3_findBlooms 44 [(0, .ref (w.2.1 + 96)), (1, .ref (w.2.1 + 1)), (2, .int a44_2)] [] S44 (fun b => (none, b)) (f_X3_findBlooms_L44 n K a44_2 S44) := by
  induction n with
  | zero =>
    intro a44_2 S44 hK b h
    simp only [f_X3_findBlooms_L44] at h
    cases h
  | succ n ih =>
    intro a44_2 S44 hK
    rw [f_X3_findBlooms_L44]
    refine j_iload_n (y := I_X3_findBlooms) 2 dX3_findBlooms_44 rfl rfl ?_
    refine j_aload_n (y := I_X3_findBlooms) 1 dX3_findBlooms_45 rfl rfl ?_
    refine j_getI (y := I_X3_findBlooms) fl_3_54 k_1 rfl dX3_findBlooms_46 ?_
    refine j_icmp_ge (y := I_X3_findBlooms) 118 dX3_findBlooms_49 (by decide) (fun h49 => ?_) (fun h49 => ?_)
    · refine j_sub [] rfl ?_
      exact hK S44
    · refine j_iconst (y := I_X3_findBlooms) (v := 0) dX3_findBlooms_52 (by decide) ?_
      refine j_istore_n (y := I_X3_findBlooms) (ls' := [(3, .int (0 : Int32)), (0, .ref (w.2.1 + 96)), (1, .ref (w.2.1 + 1)), (2, .int a44_2)]) dX3_findBlooms_53 rfl (by decide) rfl ?_
      refine j_sub [1, 2, 3, 0] rfl ?_
      refine jl_X3_findBlooms_54 l w _ 6000 a44_2 (0 : Int32) S44  (fun e86_2 e86_3 T86 => ?_)
      refine j_aload_n (y := I_X3_findBlooms) 0 dX3_findBlooms_86 rfl rfl ?_
      refine j_getR (y := I_X3_findBlooms) (j := 99) fl_3_18 k_96 rfl rfl dX3_findBlooms_87 ?_
      refine j_iload_n (y := I_X3_findBlooms) 2 dX3_findBlooms_90 rfl rfl ?_
      refine j_iload_n (y := I_X3_findBlooms) 3 dX3_findBlooms_91 rfl rfl ?_
      refine j_iast (y := I_X3_findBlooms) k_99 dX3_findBlooms_92 (fun h92 => ?_)
      refine j_aload_n (y := I_X3_findBlooms) 0 dX3_findBlooms_93 rfl rfl ?_
      refine j_getR (y := I_X3_findBlooms) (j := 100) fl_3_21 k_96 rfl rfl dX3_findBlooms_94 ?_
      refine j_iload_n (y := I_X3_findBlooms) 2 dX3_findBlooms_97 rfl rfl ?_
      refine j_iload_n (y := I_X3_findBlooms) 3 dX3_findBlooms_98 rfl rfl ?_
      refine j_aload_n (y := I_X3_findBlooms) 1 dX3_findBlooms_99 rfl rfl ?_
      refine j_getR (y := I_X3_findBlooms) (j := 2) fl_3_57 k_1 rfl rfl dX3_findBlooms_100 ?_
      refine j_iload_n (y := I_X3_findBlooms) 2 dX3_findBlooms_103 rfl rfl ?_
      refine j_aald (y := I_X3_findBlooms) (j := (8 + 2 * ix e86_2)) (tt := 0) k_2 rfl (rho_2 _) dX3_findBlooms_104 (fun h104 => ?_)
      refine j_getI (y := I_X3_findBlooms) fl_3_66 (kd_So _ (inb_lt h104)) rfl dX3_findBlooms_105 ?_
      refine j_iadd (y := I_X3_findBlooms) dX3_findBlooms_108 ?_
      refine j_iconst (y := I_X3_findBlooms) (v := 1) dX3_findBlooms_109 (by decide) ?_
      refine j_isub (y := I_X3_findBlooms) dX3_findBlooms_110 ?_
      refine j_iast (y := I_X3_findBlooms) k_100 dX3_findBlooms_111 (fun h111 => ?_)
      refine j_iinc (y := I_X3_findBlooms) 2 (ls' := [(2, .int (e86_2 + (1 : Int32))), (0, .ref (w.2.1 + 96)), (1, .ref (w.2.1 + 1)), (3, .int e86_3)]) dX3_findBlooms_112 rfl (ii _ _ (by decide) _) (by decide) rfl ?_
      refine j_goto (y := I_X3_findBlooms) 44 dX3_findBlooms_115 (by decide) ?_
      refine j_sub [1, 2, 0] rfl ?_
      exact ih (e86_2 + (1 : Int32)) (wr (wr T86 99 (ix e86_2) e86_3) 100 (ix e86_2) ((e86_3 + (rd (wr T86 99 (ix e86_2) e86_3) (8 + 2 * ix e86_2) 1)) - (1 : Int32))) hK
set_option maxRecDepth 100000 in
set_option maxHeartbeats 4000000 in
theorem m_X3_findBlooms (l : Launch) (w : Wd)  (S : St)  : J l w I_X3_findBlooms 0 [(0, .ref (w.2.1 + 96)), (1, .ref (w.2.1 + 1))] [] S (fun b => (none, b)) (f_X3_findBlooms S) := by
  unfold f_X3_findBlooms
  refine j_aload_n (y := I_X3_findBlooms) 0 dX3_findBlooms_0 rfl rfl ?_
  refine j_getR (y := I_X3_findBlooms) (j := 98) fl_3_15 k_96 rfl rfl dX3_findBlooms_1 ?_
  refine j_iconst (y := I_X3_findBlooms) (v := 0) dX3_findBlooms_4 (by decide) ?_
  refine j_iconst (y := I_X3_findBlooms) (v := 0) dX3_findBlooms_5 (by decide) ?_
  refine j_iastL (y := I_X3_findBlooms) k_98 (by decide) dX3_findBlooms_6 ?_
  refine j_iconst (y := I_X3_findBlooms) (v := 0) dX3_findBlooms_7 (by decide) ?_
  refine j_istore_n (y := I_X3_findBlooms) (ls' := [(2, .int (0 : Int32)), (0, .ref (w.2.1 + 96)), (1, .ref (w.2.1 + 1))]) dX3_findBlooms_8 rfl (by decide) rfl ?_
  refine j_sub [1, 2, 0] rfl ?_
  refine jl_X3_findBlooms_9 l w _ 6000 (0 : Int32) (wr S 98 (ix (0 : Int32)) (0 : Int32))  (fun T42 => ?_)
  refine j_iconst (y := I_X3_findBlooms) (v := 0) dX3_findBlooms_42 (by decide) ?_
  refine j_istore_n (y := I_X3_findBlooms) (ls' := [(2, .int (0 : Int32)), (0, .ref (w.2.1 + 96)), (1, .ref (w.2.1 + 1))]) dX3_findBlooms_43 rfl (by decide) rfl ?_
  refine j_sub [1, 2, 0] rfl ?_
  refine jl_X3_findBlooms_44 l w _ 6000 (0 : Int32) T42  (fun T118 => ?_)
  exact j_vret (y := I_X3_findBlooms) rfl dX3_findBlooms_118 rfl
theorem c_X3_findBlooms (l : Launch) (w : Wd)  (S : St)  : ∀ v, f_X3_findBlooms S = some v → CtS l w I_X3_findBlooms [.ref (w.2.1 + 96), .ref (w.2.1 + 1)] S v none := fun v h => J.ct (av := [.ref (w.2.1 + 96), .ref (w.2.1 + 1)]) (Nat.le_of_ble_eq_true rfl) pn_3 (m_X3_findBlooms l w  S ) h
abbrev I_X3_tableWarmth : MI := (yX3_tableWarmth, cX3_tableWarmth, 1, some .int, { frames := 0, cells := 0, slots := 0, locals := 0 })
theorem dX3_tableWarmth_0 : decode cX3_tableWarmth 0 = .ok (.iconst 5, 1) := by decide +kernel
theorem dX3_tableWarmth_1 : decode cX3_tableWarmth 1 = .ok (.iload_n 0, 1) := by decide +kernel
theorem dX3_tableWarmth_2 : decode cX3_tableWarmth 2 = .ok (.iadd, 1) := by decide +kernel
theorem dX3_tableWarmth_3 : decode cX3_tableWarmth 3 = .ok (.ireturn, 1) := by decide +kernel
def f_X3_tableWarmth (x0 : Int32)  : Int32 := ((5 : Int32) + x0)
set_option maxRecDepth 100000 in
set_option maxHeartbeats 4000000 in
theorem m_X3_tableWarmth (l : Launch) (w : Wd) (x0 : Int32) (S : St)  : J l w I_X3_tableWarmth 0 [(0, .int x0)] [] S (fun b => (some (.int b), S)) (some (f_X3_tableWarmth x0)) := by
  unfold f_X3_tableWarmth
  refine j_iconst (y := I_X3_tableWarmth) (v := 5) dX3_tableWarmth_0 (by decide) ?_
  refine j_iload_n (y := I_X3_tableWarmth) 0 dX3_tableWarmth_1 rfl rfl ?_
  refine j_iadd (y := I_X3_tableWarmth) dX3_tableWarmth_2 ?_
  exact j_iret (y := I_X3_tableWarmth) rfl dX3_tableWarmth_3 rfl
theorem c_X3_tableWarmth (l : Launch) (w : Wd) (x0 : Int32) (S : St)  : CtS l w I_X3_tableWarmth [.int x0] S S (some (.int (f_X3_tableWarmth x0))) := J.ct (av := [.int x0]) (Nat.le_of_ble_eq_true rfl) pn_3 (m_X3_tableWarmth l w x0 S ) rfl
abbrev I_X3_readTable : MI := (yX3_readTable, cX3_readTable, 3, none, { frames := 1, cells := 0, slots := 0, locals := 23 })
theorem dX3_readTable_0 : decode cX3_readTable 0 = .ok (.iconst 0, 1) := by decide +kernel
theorem dX3_readTable_1 : decode cX3_readTable 1 = .ok (.istore_n 2, 1) := by decide +kernel
theorem dX3_readTable_2 : decode cX3_readTable 2 = .ok (.iload_n 2, 1) := by decide +kernel
theorem dX3_readTable_3 : decode cX3_readTable 3 = .ok (.bipush 50, 2) := by decide +kernel
theorem dX3_readTable_5 : decode cX3_readTable 5 = .ok (.if_icmp .ge 19, 3) := by decide +kernel
theorem dX3_readTable_8 : decode cX3_readTable 8 = .ok (.aload_n 0, 1) := by decide +kernel
theorem dX3_readTable_9 : decode cX3_readTable 9 = .ok (.getfield 9, 3) := by decide +kernel
theorem dX3_readTable_12 : decode cX3_readTable 12 = .ok (.iload_n 2, 1) := by decide +kernel
theorem dX3_readTable_13 : decode cX3_readTable 13 = .ok (.iload_n 2, 1) := by decide +kernel
theorem dX3_readTable_14 : decode cX3_readTable 14 = .ok (.invokestatic 43, 3) := by decide +kernel
theorem dX3_readTable_17 : decode cX3_readTable 17 = .ok (.iastore, 1) := by decide +kernel
theorem dX3_readTable_18 : decode cX3_readTable 18 = .ok (.iinc 2 1, 3) := by decide +kernel
theorem dX3_readTable_21 : decode cX3_readTable 21 = .ok (.goto (-19), 3) := by decide +kernel
theorem dX3_readTable_24 : decode cX3_readTable 24 = .ok (.aload_n 0, 1) := by decide +kernel
theorem dX3_readTable_25 : decode cX3_readTable 25 = .ok (.aload_n 1, 1) := by decide +kernel
theorem dX3_readTable_26 : decode cX3_readTable 26 = .ok (.invokevirtual 50, 3) := by decide +kernel
theorem dX3_readTable_29 : decode cX3_readTable 29 = .ok (.return_, 1) := by decide +kernel
theorem cv_3_43 : CS RX3 43 1 I_X3_tableWarmth := ⟨⟨⟨gm 517 (by decide +kernel) rfl, gm 519 (by decide +kernel) rfl, gm 42 (by decide +kernel) rfl, mh_3.1, mh_3.2, by decide +kernel⟩, gm 518 (by decide +kernel) rfl⟩, rfl, rfl⟩
theorem cv_3_50 : CV RX3 50 1 3 I_X3_findBlooms := ⟨⟨⟨gm 529 (by decide +kernel) rfl, gm 532 (by decide +kernel) rfl, gm 42 (by decide +kernel) rfl, mh_3.1, mh_3.2, by decide +kernel⟩, gm 530 (by decide +kernel) rfl, gm 531 (by decide +kernel) rfl⟩, ⟨_, _, rfl⟩, rfl, rfl⟩
def f_X3_readTable_L2 (fuel : Nat) (K : St → Option (St)) (a2_2 : Int32) (S2 : St) : Option (St) := match fuel with
  | 0 => none
  | n + 1 => if a2_2 < (50 : Int32) then (if inb a2_2 50 = true then (f_X3_readTable_L2 n K (a2_2 + (1 : Int32)) (wr S2 97 (ix a2_2) (f_X3_tableWarmth a2_2))) else none) else (K S2)
def f_X3_readTable  (S : St) : Option (St) := f_X3_readTable_L2 6000 (fun T24 => ((f_X3_findBlooms T24).bind fun v26 => (some v26))) (0 : Int32) S
set_option maxRecDepth 100000 in
theorem jl_X3_readTable_2 (l : Launch) (w : Wd) (K : St → Option (St)) (n : Nat) : ∀ (a2_2 : Int32) (S2 : St), (∀  (S' : St) , J l w I_X3_readTable 24 [(0, .ref (w.2.1 + 96)), (1, .ref (w.2.1 + 1))] [] S' (fun b => (none, b)) (K  S')) → J l w I_X3_readTable 2 [(0, .ref (w.2.1 + 96)), (1, .ref (w.2.1 + 1)), (2, .int a2_2)] [] S2 (fun b => (none, b)) (f_X3_readTable_L2 n K a2_2 S2) := by
  induction n with
  | zero =>
    intro a2_2 S2 hK b h
    simp only [f_X3_readTable_L2] at h
    cases h
  | succ n ih =>
    intro a2_2 S2 hK
    rw [f_X3_readTable_L2]
    refine j_iload_n (y := I_X3_readTable) 2 dX3_readTable_2 rfl rfl ?_
    refine j_bipush (y := I_X3_readTable) (v := 50) dX3_readTable_3 (by decide) ?_
    refine j_icmp_ge (y := I_X3_readTable) 24 dX3_readTable_5 (by decide) (fun h5 => ?_) (fun h5 => ?_)
    · refine j_sub [0, 1] rfl ?_
      exact hK S2
    · refine j_aload_n (y := I_X3_readTable) 0 dX3_readTable_8 rfl rfl ?_
      refine j_getR (y := I_X3_readTable) (j := 97) fl_3_9 k_96 rfl rfl dX3_readTable_9 ?_
      refine j_iload_n (y := I_X3_readTable) 2 dX3_readTable_12 rfl rfl ?_
      refine j_iload_n (y := I_X3_readTable) 2 dX3_readTable_13 rfl rfl ?_
      refine j_callSiT (y := I_X3_readTable) (As := [.int a2_2]) cv_3_43 ⟨Nat.le_of_ble_eq_true rfl, Nat.le_of_ble_eq_true rfl⟩ rfl (Nat.le_of_ble_eq_true rfl) dX3_readTable_14 (c_X3_tableWarmth l w a2_2 S2) ?_
      refine j_iast (y := I_X3_readTable) k_97 dX3_readTable_17 (fun h17 => ?_)
      refine j_iinc (y := I_X3_readTable) 2 (ls' := [(2, .int (a2_2 + (1 : Int32))), (0, .ref (w.2.1 + 96)), (1, .ref (w.2.1 + 1))]) dX3_readTable_18 rfl (ii _ _ (by decide) _) (by decide) rfl ?_
      refine j_goto (y := I_X3_readTable) 2 dX3_readTable_21 (by decide) ?_
      refine j_sub [1, 2, 0] rfl ?_
      exact ih (a2_2 + (1 : Int32)) (wr S2 97 (ix a2_2) (f_X3_tableWarmth a2_2)) hK
set_option maxRecDepth 100000 in
set_option maxHeartbeats 4000000 in
theorem m_X3_readTable (l : Launch) (w : Wd)  (S : St)  : J l w I_X3_readTable 0 [(0, .ref (w.2.1 + 96)), (1, .ref (w.2.1 + 1))] [] S (fun b => (none, b)) (f_X3_readTable S) := by
  unfold f_X3_readTable
  refine j_iconst (y := I_X3_readTable) (v := 0) dX3_readTable_0 (by decide) ?_
  refine j_istore_n (y := I_X3_readTable) (ls' := [(2, .int (0 : Int32)), (0, .ref (w.2.1 + 96)), (1, .ref (w.2.1 + 1))]) dX3_readTable_1 rfl (by decide) rfl ?_
  refine j_sub [1, 2, 0] rfl ?_
  refine jl_X3_readTable_2 l w _ 6000 (0 : Int32) S  (fun T24 => ?_)
  refine j_aload_n (y := I_X3_readTable) 0 dX3_readTable_24 rfl rfl ?_
  refine j_aload_n (y := I_X3_readTable) 1 dX3_readTable_25 rfl rfl ?_
  refine j_callVvS (y := I_X3_readTable) (As := [.ref (w.2.1 + 1)]) cv_3_50 ⟨Nat.le_of_ble_eq_true rfl, Nat.le_of_ble_eq_true rfl⟩ k_96 rfl (Nat.le_of_ble_eq_true rfl) dX3_readTable_26 (c_X3_findBlooms l w T24) (fun v26 h26 => ?_)
  exact j_vret (y := I_X3_readTable) rfl dX3_readTable_29 rfl
theorem c_X3_readTable (l : Launch) (w : Wd)  (S : St)  : ∀ v, f_X3_readTable S = some v → CtS l w I_X3_readTable [.ref (w.2.1 + 96), .ref (w.2.1 + 1)] S v none := fun v h => J.ct (av := [.ref (w.2.1 + 96), .ref (w.2.1 + 1)]) (Nat.le_of_ble_eq_true rfl) pn_3 (m_X3_readTable l w  S ) h
abbrev I_X3_warmthNow_n : MI := (yX3_warmthNow, cX3_warmthNow, 4, some .int, { frames := 3, cells := 0, slots := 0, locals := 66 })
theorem dX3_warmthNow_0 : decode cX3_warmthNow 0 = .ok (.iload_n 3, 1) := by decide +kernel
theorem dX3_warmthNow_1 : decode cX3_warmthNow 1 = .ok (.aload_n 1, 1) := by decide +kernel
theorem dX3_warmthNow_2 : decode cX3_warmthNow 2 = .ok (.getfield 24, 3) := by decide +kernel
theorem dX3_warmthNow_5 : decode cX3_warmthNow 5 = .ok (.if_icmp .ge 10, 3) := by decide +kernel
theorem dX3_warmthNow_8 : decode cX3_warmthNow 8 = .ok (.aload_n 1, 1) := by decide +kernel
theorem dX3_warmthNow_9 : decode cX3_warmthNow 9 = .ok (.getfield 30, 3) := by decide +kernel
theorem dX3_warmthNow_12 : decode cX3_warmthNow 12 = .ok (.iload_n 3, 1) := by decide +kernel
theorem dX3_warmthNow_13 : decode cX3_warmthNow 13 = .ok (.iaload, 1) := by decide +kernel
theorem dX3_warmthNow_14 : decode cX3_warmthNow 14 = .ok (.ireturn, 1) := by decide +kernel
theorem dX3_warmthNow_15 : decode cX3_warmthNow 15 = .ok (.aload_n 2, 1) := by decide +kernel
theorem dX3_warmthNow_16 : decode cX3_warmthNow 16 = .ok (.ifnull 19, 3) := by decide +kernel
theorem dX3_warmthNow_19 : decode cX3_warmthNow 19 = .ok (.aload_n 2, 1) := by decide +kernel
theorem dX3_warmthNow_20 : decode cX3_warmthNow 20 = .ok (.iload_n 3, 1) := by decide +kernel
theorem dX3_warmthNow_21 : decode cX3_warmthNow 21 = .ok (.invokevirtual 33, 3) := by decide +kernel
theorem dX3_warmthNow_24 : decode cX3_warmthNow 24 = .ok (.ifCond .eq 11, 3) := by decide +kernel
theorem dX3_warmthNow_27 : decode cX3_warmthNow 27 = .ok (.aload_n 2, 1) := by decide +kernel
theorem dX3_warmthNow_28 : decode cX3_warmthNow 28 = .ok (.iload_n 3, 1) := by decide +kernel
theorem dX3_warmthNow_29 : decode cX3_warmthNow 29 = .ok (.invokevirtual 39, 3) := by decide +kernel
theorem dX3_warmthNow_32 : decode cX3_warmthNow 32 = .ok (.goto 7, 3) := by decide +kernel
theorem dX3_warmthNow_35 : decode cX3_warmthNow 35 = .ok (.iload_n 3, 1) := by decide +kernel
theorem dX3_warmthNow_36 : decode cX3_warmthNow 36 = .ok (.invokestatic 43, 3) := by decide +kernel
theorem dX3_warmthNow_39 : decode cX3_warmthNow 39 = .ok (.ireturn, 1) := by decide +kernel
def f_X3_warmthNow_n (x3 : Int32) (S : St) : Option (Int32) := if x3 < (rd S 1 5) then (if inb x3 50 = true then (some (rd S 4 (ix x3))) else none) else (some (f_X3_tableWarmth x3))
set_option maxRecDepth 100000 in
set_option maxHeartbeats 4000000 in
theorem m_X3_warmthNow_n (l : Launch) (w : Wd) (x3 : Int32) (S : St)  : J l w I_X3_warmthNow_n 0 [(0, .ref (w.2.1 + 96)), (1, .ref (w.2.1 + 1)), (2, .null), (3, .int x3)] [] S (fun b => (some (.int b), S)) (f_X3_warmthNow_n x3 S) := by
  unfold f_X3_warmthNow_n
  refine j_iload_n (y := I_X3_warmthNow_n) 3 dX3_warmthNow_0 rfl rfl ?_
  refine j_aload_n (y := I_X3_warmthNow_n) 1 dX3_warmthNow_1 rfl rfl ?_
  refine j_getI (y := I_X3_warmthNow_n) fl_3_24 k_1 rfl dX3_warmthNow_2 ?_
  refine j_icmp_ge (y := I_X3_warmthNow_n) 15 dX3_warmthNow_5 (by decide) (fun h5 => ?_) (fun h5 => ?_)
  · refine j_aload_nN (y := I_X3_warmthNow_n) 2 dX3_warmthNow_15 rfl rfl ?_
    refine j_ifnullN (y := I_X3_warmthNow_n) 35 dX3_warmthNow_16 (by decide) ?_
    refine j_iload_n (y := I_X3_warmthNow_n) 3 dX3_warmthNow_35 rfl rfl ?_
    refine j_callSiT (y := I_X3_warmthNow_n) (As := [.int x3]) cv_3_43 ⟨Nat.le_of_ble_eq_true rfl, Nat.le_of_ble_eq_true rfl⟩ rfl (Nat.le_of_ble_eq_true rfl) dX3_warmthNow_36 (c_X3_tableWarmth l w x3 S) ?_
    exact j_iret (y := I_X3_warmthNow_n) rfl dX3_warmthNow_39 rfl
  · refine j_aload_n (y := I_X3_warmthNow_n) 1 dX3_warmthNow_8 rfl rfl ?_
    refine j_getR (y := I_X3_warmthNow_n) (j := 4) fl_3_30 k_1 rfl rfl dX3_warmthNow_9 ?_
    refine j_iload_n (y := I_X3_warmthNow_n) 3 dX3_warmthNow_12 rfl rfl ?_
    refine j_iald (y := I_X3_warmthNow_n) k_4 dX3_warmthNow_13 (fun h13 => ?_)
    exact j_iret (y := I_X3_warmthNow_n) rfl dX3_warmthNow_14 rfl
theorem c_X3_warmthNow_n (l : Launch) (w : Wd) (x3 : Int32) (S : St)  : ∀ v, f_X3_warmthNow_n x3 S = some v → CtS l w I_X3_warmthNow_n [.ref (w.2.1 + 96), .ref (w.2.1 + 1), .null, .int x3] S S (some (.int v)) := fun v h => J.ct (av := [.ref (w.2.1 + 96), .ref (w.2.1 + 1), .null, .int x3]) (Nat.le_of_ble_eq_true rfl) pn_3 (m_X3_warmthNow_n l w x3 S ) h
abbrev I_X3_warmthNow_s : MI := (yX3_warmthNow, cX3_warmthNow, 4, some .int, { frames := 3, cells := 0, slots := 0, locals := 66 })
theorem cv_3_33 : CV RX3 33 1 4 I_X4_has := ⟨⟨⟨gm 496 (by decide +kernel) rfl, gm 455 (by decide +kernel) rfl, gm 41 (by decide +kernel) rfl, mh_4.1, mh_4.2, by decide +kernel⟩, gm 453 (by decide +kernel) rfl, gm 454 (by decide +kernel) rfl⟩, ⟨_, _, rfl⟩, rfl, rfl⟩
theorem cv_3_39 : CV RX3 39 1 4 I_X4_warmthAt := ⟨⟨⟨gm 497 (by decide +kernel) rfl, gm 500 (by decide +kernel) rfl, gm 41 (by decide +kernel) rfl, mh_4.1, mh_4.2, by decide +kernel⟩, gm 498 (by decide +kernel) rfl, gm 499 (by decide +kernel) rfl⟩, ⟨_, _, rfl⟩, rfl, rfl⟩
def f_X3_warmthNow_s (u2 : Nat) (x3 : Int32) (S : St) : Option (Int32) := if x3 < (rd S 1 5) then (if inb x3 50 = true then (some (rd S 4 (ix x3))) else none) else (if (f_X4_has u2 x3 S) = true then ((f_X4_warmthAt u2 x3 S).bind fun v29 => (some v29)) else (some (f_X3_tableWarmth x3)))
set_option maxRecDepth 100000 in
set_option maxHeartbeats 4000000 in
theorem m_X3_warmthNow_s (l : Launch) (w : Wd) (u2 : Nat) (x3 : Int32) (S : St) (hu2 : kd u2 = KdSheet) : J l w I_X3_warmthNow_s 0 [(0, .ref (w.2.1 + 96)), (1, .ref (w.2.1 + 1)), (2, .ref (w.2.1 + u2)), (3, .int x3)] [] S (fun b => (some (.int b), S)) (f_X3_warmthNow_s u2 x3 S) := by
  unfold f_X3_warmthNow_s
  refine j_iload_n (y := I_X3_warmthNow_s) 3 dX3_warmthNow_0 rfl rfl ?_
  refine j_aload_n (y := I_X3_warmthNow_s) 1 dX3_warmthNow_1 rfl rfl ?_
  refine j_getI (y := I_X3_warmthNow_s) fl_3_24 k_1 rfl dX3_warmthNow_2 ?_
  refine j_icmp_ge (y := I_X3_warmthNow_s) 15 dX3_warmthNow_5 (by decide) (fun h5 => ?_) (fun h5 => ?_)
  · refine j_aload_n (y := I_X3_warmthNow_s) 2 dX3_warmthNow_15 rfl rfl ?_
    refine j_ifnullR (y := I_X3_warmthNow_s) dX3_warmthNow_16 ?_
    refine j_aload_n (y := I_X3_warmthNow_s) 2 dX3_warmthNow_19 rfl rfl ?_
    refine j_iload_n (y := I_X3_warmthNow_s) 3 dX3_warmthNow_20 rfl rfl ?_
    refine j_callVzT (y := I_X3_warmthNow_s) (As := [.int x3]) cv_3_33 ⟨Nat.le_of_ble_eq_true rfl, Nat.le_of_ble_eq_true rfl⟩ hu2 rfl (Nat.le_of_ble_eq_true rfl) dX3_warmthNow_21 (c_X4_has l w u2 x3 S hu2) ?_
    refine j_if_eqB (y := I_X3_warmthNow_s) 35 dX3_warmthNow_24 (by decide) (fun h24 => ?_) (fun h24 => ?_)
    · refine j_iload_n (y := I_X3_warmthNow_s) 3 dX3_warmthNow_35 rfl rfl ?_
      refine j_callSiT (y := I_X3_warmthNow_s) (As := [.int x3]) cv_3_43 ⟨Nat.le_of_ble_eq_true rfl, Nat.le_of_ble_eq_true rfl⟩ rfl (Nat.le_of_ble_eq_true rfl) dX3_warmthNow_36 (c_X3_tableWarmth l w x3 S) ?_
      exact j_iret (y := I_X3_warmthNow_s) rfl dX3_warmthNow_39 rfl
    · refine j_aload_n (y := I_X3_warmthNow_s) 2 dX3_warmthNow_27 rfl rfl ?_
      refine j_iload_n (y := I_X3_warmthNow_s) 3 dX3_warmthNow_28 rfl rfl ?_
      refine j_callViR (y := I_X3_warmthNow_s) (As := [.int x3]) cv_3_39 ⟨Nat.le_of_ble_eq_true rfl, Nat.le_of_ble_eq_true rfl⟩ hu2 rfl (Nat.le_of_ble_eq_true rfl) dX3_warmthNow_29 (c_X4_warmthAt l w u2 x3 S hu2) (fun v29 h29 => ?_)
      refine j_goto (y := I_X3_warmthNow_s) 39 dX3_warmthNow_32 (by decide) ?_
      exact j_iret (y := I_X3_warmthNow_s) rfl dX3_warmthNow_39 rfl
  · refine j_aload_n (y := I_X3_warmthNow_s) 1 dX3_warmthNow_8 rfl rfl ?_
    refine j_getR (y := I_X3_warmthNow_s) (j := 4) fl_3_30 k_1 rfl rfl dX3_warmthNow_9 ?_
    refine j_iload_n (y := I_X3_warmthNow_s) 3 dX3_warmthNow_12 rfl rfl ?_
    refine j_iald (y := I_X3_warmthNow_s) k_4 dX3_warmthNow_13 (fun h13 => ?_)
    exact j_iret (y := I_X3_warmthNow_s) rfl dX3_warmthNow_14 rfl
theorem c_X3_warmthNow_s (l : Launch) (w : Wd) (u2 : Nat) (x3 : Int32) (S : St) (hu2 : kd u2 = KdSheet) : ∀ v, f_X3_warmthNow_s u2 x3 S = some v → CtS l w I_X3_warmthNow_s [.ref (w.2.1 + 96), .ref (w.2.1 + 1), .ref (w.2.1 + u2), .int x3] S S (some (.int v)) := fun v h => J.ct (av := [.ref (w.2.1 + 96), .ref (w.2.1 + 1), .ref (w.2.1 + u2), .int x3]) (Nat.le_of_ble_eq_true rfl) pn_3 (m_X3_warmthNow_s l w u2 x3 S hu2) h
abbrev I_X3_warmthNow : MI := I_X3_warmthNow_n
def f_X3_warmthNow (q2 : Option Nat) (x3 : Int32) (S : St) : Option (Int32) := match q2 with
  | none => f_X3_warmthNow_n x3 S
  | some u => f_X3_warmthNow_s u x3 S
theorem c_X3_warmthNow (l : Launch) (w : Wd) (q2 : Option Nat) (x3 : Int32) (S : St) (hq2 : ∀ u, q2 = some u → kd u = KdSheet) : ∀ v, f_X3_warmthNow q2 x3 S = some v → CtS l w I_X3_warmthNow [.ref (w.2.1 + 96), .ref (w.2.1 + 1), va_rf (Option.map (fun j => w.2.1 + j) q2), .int x3] S S (some (.int v)) := by
  cases q2 with
  | none => exact fun v h => c_X3_warmthNow_n l w x3 S v h
  | some u => exact fun v h => c_X3_warmthNow_s l w u x3 S (hq2 u rfl) v h
abbrev I_X3_readYear_n : MI := (yX3_readYear, cX3_readYear, 4, none, { frames := 4, cells := 0, slots := 0, locals := 89 })
theorem dX3_readYear_0 : decode cX3_readYear 0 = .ok (.iconst 0, 1) := by decide +kernel
theorem dX3_readYear_1 : decode cX3_readYear 1 = .ok (.istore_n 3, 1) := by decide +kernel
theorem dX3_readYear_2 : decode cX3_readYear 2 = .ok (.iload_n 3, 1) := by decide +kernel
theorem dX3_readYear_3 : decode cX3_readYear 3 = .ok (.bipush 50, 2) := by decide +kernel
theorem dX3_readYear_5 : decode cX3_readYear 5 = .ok (.if_icmp .ge 22, 3) := by decide +kernel
theorem dX3_readYear_8 : decode cX3_readYear 8 = .ok (.aload_n 0, 1) := by decide +kernel
theorem dX3_readYear_9 : decode cX3_readYear 9 = .ok (.getfield 9, 3) := by decide +kernel
theorem dX3_readYear_12 : decode cX3_readYear 12 = .ok (.iload_n 3, 1) := by decide +kernel
theorem dX3_readYear_13 : decode cX3_readYear 13 = .ok (.aload_n 0, 1) := by decide +kernel
theorem dX3_readYear_14 : decode cX3_readYear 14 = .ok (.aload_n 1, 1) := by decide +kernel
theorem dX3_readYear_15 : decode cX3_readYear 15 = .ok (.aload_n 2, 1) := by decide +kernel
theorem dX3_readYear_16 : decode cX3_readYear 16 = .ok (.iload_n 3, 1) := by decide +kernel
theorem dX3_readYear_17 : decode cX3_readYear 17 = .ok (.invokevirtual 46, 3) := by decide +kernel
theorem dX3_readYear_20 : decode cX3_readYear 20 = .ok (.iastore, 1) := by decide +kernel
theorem dX3_readYear_21 : decode cX3_readYear 21 = .ok (.iinc 3 1, 3) := by decide +kernel
theorem dX3_readYear_24 : decode cX3_readYear 24 = .ok (.goto (-22), 3) := by decide +kernel
theorem dX3_readYear_27 : decode cX3_readYear 27 = .ok (.aload_n 0, 1) := by decide +kernel
theorem dX3_readYear_28 : decode cX3_readYear 28 = .ok (.aload_n 1, 1) := by decide +kernel
theorem dX3_readYear_29 : decode cX3_readYear 29 = .ok (.invokevirtual 50, 3) := by decide +kernel
theorem dX3_readYear_32 : decode cX3_readYear 32 = .ok (.return_, 1) := by decide +kernel
theorem cv_3_46_n : CV RX3 46 3 3 I_X3_warmthNow_n := ⟨⟨⟨gm 528 (by decide +kernel) rfl, gm 495 (by decide +kernel) rfl, gm 42 (by decide +kernel) rfl, mh_3.1, mh_3.2, by decide +kernel⟩, gm 493 (by decide +kernel) rfl, gm 494 (by decide +kernel) rfl⟩, ⟨_, _, rfl⟩, rfl, rfl⟩
def f_X3_readYear_n_L2 (fuel : Nat) (K : St → Option (St)) (a2_3 : Int32) (S2 : St) : Option (St) := match fuel with
  | 0 => none
  | n + 1 => if a2_3 < (50 : Int32) then ((f_X3_warmthNow_n a2_3 S2).bind fun v17 => (if inb a2_3 50 = true then (f_X3_readYear_n_L2 n K (a2_3 + (1 : Int32)) (wr S2 97 (ix a2_3) v17)) else none)) else (K S2)
def f_X3_readYear_n  (S : St) : Option (St) := f_X3_readYear_n_L2 6000 (fun T27 => ((f_X3_findBlooms T27).bind fun v29 => (some v29))) (0 : Int32) S
set_option maxRecDepth 100000 in
theorem jl_X3_readYear_n_2 (l : Launch) (w : Wd) (K : St → Option (St)) (n : Nat) : ∀ (a2_3 : Int32) (S2 : St), (∀  (S' : St) , J l w I_X3_readYear_n 27 [(0, .ref (w.2.1 + 96)), (1, .ref (w.2.1 + 1))] [] S' (fun b => (none, b)) (K  S')) → J l w I_X3_readYear_n 2 [(0, .ref (w.2.1 + 96)), (1, .ref (w.2.1 + 1)), (2, .null), (3, .int a2_3)] [] S2 (fun b => (none, b)) (f_X3_readYear_n_L2 n K a2_3 S2) := by
  induction n with
  | zero =>
    intro a2_3 S2 hK b h
    simp only [f_X3_readYear_n_L2] at h
    cases h
  | succ n ih =>
    intro a2_3 S2 hK
    rw [f_X3_readYear_n_L2]
    refine j_iload_n (y := I_X3_readYear_n) 3 dX3_readYear_2 rfl rfl ?_
    refine j_bipush (y := I_X3_readYear_n) (v := 50) dX3_readYear_3 (by decide) ?_
    refine j_icmp_ge (y := I_X3_readYear_n) 27 dX3_readYear_5 (by decide) (fun h5 => ?_) (fun h5 => ?_)
    · refine j_sub [0, 1] rfl ?_
      exact hK S2
    · refine j_aload_n (y := I_X3_readYear_n) 0 dX3_readYear_8 rfl rfl ?_
      refine j_getR (y := I_X3_readYear_n) (j := 97) fl_3_9 k_96 rfl rfl dX3_readYear_9 ?_
      refine j_iload_n (y := I_X3_readYear_n) 3 dX3_readYear_12 rfl rfl ?_
      refine j_aload_n (y := I_X3_readYear_n) 0 dX3_readYear_13 rfl rfl ?_
      refine j_aload_n (y := I_X3_readYear_n) 1 dX3_readYear_14 rfl rfl ?_
      refine j_aload_nN (y := I_X3_readYear_n) 2 dX3_readYear_15 rfl rfl ?_
      refine j_iload_n (y := I_X3_readYear_n) 3 dX3_readYear_16 rfl rfl ?_
      refine j_callViR (y := I_X3_readYear_n) (As := [.ref (w.2.1 + 1), .null, .int a2_3]) cv_3_46_n ⟨Nat.le_of_ble_eq_true rfl, Nat.le_of_ble_eq_true rfl⟩ k_96 rfl (Nat.le_of_ble_eq_true rfl) dX3_readYear_17 (c_X3_warmthNow_n l w a2_3 S2) (fun v17 h17 => ?_)
      refine j_iast (y := I_X3_readYear_n) k_97 dX3_readYear_20 (fun h20 => ?_)
      refine j_iinc (y := I_X3_readYear_n) 3 (ls' := [(3, .int (a2_3 + (1 : Int32))), (0, .ref (w.2.1 + 96)), (1, .ref (w.2.1 + 1)), (2, .null)]) dX3_readYear_21 rfl (ii _ _ (by decide) _) (by decide) rfl ?_
      refine j_goto (y := I_X3_readYear_n) 2 dX3_readYear_24 (by decide) ?_
      refine j_sub [1, 2, 3, 0] rfl ?_
      exact ih (a2_3 + (1 : Int32)) (wr S2 97 (ix a2_3) v17) hK
set_option maxRecDepth 100000 in
set_option maxHeartbeats 4000000 in
theorem m_X3_readYear_n (l : Launch) (w : Wd)  (S : St)  : J l w I_X3_readYear_n 0 [(0, .ref (w.2.1 + 96)), (1, .ref (w.2.1 + 1)), (2, .null)] [] S (fun b => (none, b)) (f_X3_readYear_n S) := by
  unfold f_X3_readYear_n
  refine j_iconst (y := I_X3_readYear_n) (v := 0) dX3_readYear_0 (by decide) ?_
  refine j_istore_n (y := I_X3_readYear_n) (ls' := [(3, .int (0 : Int32)), (0, .ref (w.2.1 + 96)), (1, .ref (w.2.1 + 1)), (2, .null)]) dX3_readYear_1 rfl (by decide) rfl ?_
  refine j_sub [1, 2, 3, 0] rfl ?_
  refine jl_X3_readYear_n_2 l w _ 6000 (0 : Int32) S  (fun T27 => ?_)
  refine j_aload_n (y := I_X3_readYear_n) 0 dX3_readYear_27 rfl rfl ?_
  refine j_aload_n (y := I_X3_readYear_n) 1 dX3_readYear_28 rfl rfl ?_
  refine j_callVvS (y := I_X3_readYear_n) (As := [.ref (w.2.1 + 1)]) cv_3_50 ⟨Nat.le_of_ble_eq_true rfl, Nat.le_of_ble_eq_true rfl⟩ k_96 rfl (Nat.le_of_ble_eq_true rfl) dX3_readYear_29 (c_X3_findBlooms l w T27) (fun v29 h29 => ?_)
  exact j_vret (y := I_X3_readYear_n) rfl dX3_readYear_32 rfl
theorem c_X3_readYear_n (l : Launch) (w : Wd)  (S : St)  : ∀ v, f_X3_readYear_n S = some v → CtS l w I_X3_readYear_n [.ref (w.2.1 + 96), .ref (w.2.1 + 1), .null] S v none := fun v h => J.ct (av := [.ref (w.2.1 + 96), .ref (w.2.1 + 1), .null]) (Nat.le_of_ble_eq_true rfl) pn_3 (m_X3_readYear_n l w  S ) h
abbrev I_X3_readYear_s : MI := (yX3_readYear, cX3_readYear, 4, none, { frames := 4, cells := 0, slots := 0, locals := 89 })
theorem cv_3_46_s : CV RX3 46 3 3 I_X3_warmthNow_s := ⟨⟨⟨gm 528 (by decide +kernel) rfl, gm 495 (by decide +kernel) rfl, gm 42 (by decide +kernel) rfl, mh_3.1, mh_3.2, by decide +kernel⟩, gm 493 (by decide +kernel) rfl, gm 494 (by decide +kernel) rfl⟩, ⟨_, _, rfl⟩, rfl, rfl⟩
def f_X3_readYear_s_L2 (fuel : Nat) (K : St → Option (St)) (a2_2 : Nat) (a2_3 : Int32) (S2 : St) : Option (St) := match fuel with
  | 0 => none
  | n + 1 => if a2_3 < (50 : Int32) then ((f_X3_warmthNow_s a2_2 a2_3 S2).bind fun v17 => (if inb a2_3 50 = true then (f_X3_readYear_s_L2 n K a2_2 (a2_3 + (1 : Int32)) (wr S2 97 (ix a2_3) v17)) else none)) else (K S2)
def f_X3_readYear_s (u2 : Nat) (S : St) : Option (St) := f_X3_readYear_s_L2 6000 (fun T27 => ((f_X3_findBlooms T27).bind fun v29 => (some v29))) u2 (0 : Int32) S
set_option maxRecDepth 100000 in
theorem jl_X3_readYear_s_2 (l : Launch) (w : Wd) (K : St → Option (St)) (n : Nat) : ∀ (a2_2 : Nat) (a2_3 : Int32) (S2 : St) (ha2_2 : kd a2_2 = KdSheet), (∀  (S' : St) , J l w I_X3_readYear_s 27 [(0, .ref (w.2.1 + 96)), (1, .ref (w.2.1 + 1))] [] S' (fun b => (none, b)) (K  S')) → J l w I_X3_readYear_s 2 [(0, .ref (w.2.1 + 96)), (1, .ref (w.2.1 + 1)), (2, .ref (w.2.1 + a2_2)), (3, .int a2_3)] [] S2 (fun b => (none, b)) (f_X3_readYear_s_L2 n K a2_2 a2_3 S2) := by
  induction n with
  | zero =>
    intro a2_2 a2_3 S2 ha2_2 hK b h
    simp only [f_X3_readYear_s_L2] at h
    cases h
  | succ n ih =>
    intro a2_2 a2_3 S2 ha2_2 hK
    rw [f_X3_readYear_s_L2]
    refine j_iload_n (y := I_X3_readYear_s) 3 dX3_readYear_2 rfl rfl ?_
    refine j_bipush (y := I_X3_readYear_s) (v := 50) dX3_readYear_3 (by decide) ?_
    refine j_icmp_ge (y := I_X3_readYear_s) 27 dX3_readYear_5 (by decide) (fun h5 => ?_) (fun h5 => ?_)
    · refine j_sub [0, 1] rfl ?_
      exact hK S2
    · refine j_aload_n (y := I_X3_readYear_s) 0 dX3_readYear_8 rfl rfl ?_
      refine j_getR (y := I_X3_readYear_s) (j := 97) fl_3_9 k_96 rfl rfl dX3_readYear_9 ?_
      refine j_iload_n (y := I_X3_readYear_s) 3 dX3_readYear_12 rfl rfl ?_
      refine j_aload_n (y := I_X3_readYear_s) 0 dX3_readYear_13 rfl rfl ?_
      refine j_aload_n (y := I_X3_readYear_s) 1 dX3_readYear_14 rfl rfl ?_
      refine j_aload_n (y := I_X3_readYear_s) 2 dX3_readYear_15 rfl rfl ?_
      refine j_iload_n (y := I_X3_readYear_s) 3 dX3_readYear_16 rfl rfl ?_
      refine j_callViR (y := I_X3_readYear_s) (As := [.ref (w.2.1 + 1), .ref (w.2.1 + a2_2), .int a2_3]) cv_3_46_s ⟨Nat.le_of_ble_eq_true rfl, Nat.le_of_ble_eq_true rfl⟩ k_96 rfl (Nat.le_of_ble_eq_true rfl) dX3_readYear_17 (c_X3_warmthNow_s l w a2_2 a2_3 S2 ha2_2) (fun v17 h17 => ?_)
      refine j_iast (y := I_X3_readYear_s) k_97 dX3_readYear_20 (fun h20 => ?_)
      refine j_iinc (y := I_X3_readYear_s) 3 (ls' := [(3, .int (a2_3 + (1 : Int32))), (0, .ref (w.2.1 + 96)), (1, .ref (w.2.1 + 1)), (2, .ref (w.2.1 + a2_2))]) dX3_readYear_21 rfl (ii _ _ (by decide) _) (by decide) rfl ?_
      refine j_goto (y := I_X3_readYear_s) 2 dX3_readYear_24 (by decide) ?_
      refine j_sub [1, 2, 3, 0] rfl ?_
      exact ih a2_2 (a2_3 + (1 : Int32)) (wr S2 97 (ix a2_3) v17) ha2_2 hK
set_option maxRecDepth 100000 in
set_option maxHeartbeats 4000000 in
theorem m_X3_readYear_s (l : Launch) (w : Wd) (u2 : Nat) (S : St) (hu2 : kd u2 = KdSheet) : J l w I_X3_readYear_s 0 [(0, .ref (w.2.1 + 96)), (1, .ref (w.2.1 + 1)), (2, .ref (w.2.1 + u2))] [] S (fun b => (none, b)) (f_X3_readYear_s u2 S) := by
  unfold f_X3_readYear_s
  refine j_iconst (y := I_X3_readYear_s) (v := 0) dX3_readYear_0 (by decide) ?_
  refine j_istore_n (y := I_X3_readYear_s) (ls' := [(3, .int (0 : Int32)), (0, .ref (w.2.1 + 96)), (1, .ref (w.2.1 + 1)), (2, .ref (w.2.1 + u2))]) dX3_readYear_1 rfl (by decide) rfl ?_
  refine j_sub [1, 2, 3, 0] rfl ?_
  refine jl_X3_readYear_s_2 l w _ 6000 u2 (0 : Int32) S hu2 (fun T27 => ?_)
  refine j_aload_n (y := I_X3_readYear_s) 0 dX3_readYear_27 rfl rfl ?_
  refine j_aload_n (y := I_X3_readYear_s) 1 dX3_readYear_28 rfl rfl ?_
  refine j_callVvS (y := I_X3_readYear_s) (As := [.ref (w.2.1 + 1)]) cv_3_50 ⟨Nat.le_of_ble_eq_true rfl, Nat.le_of_ble_eq_true rfl⟩ k_96 rfl (Nat.le_of_ble_eq_true rfl) dX3_readYear_29 (c_X3_findBlooms l w T27) (fun v29 h29 => ?_)
  exact j_vret (y := I_X3_readYear_s) rfl dX3_readYear_32 rfl
theorem c_X3_readYear_s (l : Launch) (w : Wd) (u2 : Nat) (S : St) (hu2 : kd u2 = KdSheet) : ∀ v, f_X3_readYear_s u2 S = some v → CtS l w I_X3_readYear_s [.ref (w.2.1 + 96), .ref (w.2.1 + 1), .ref (w.2.1 + u2)] S v none := fun v h => J.ct (av := [.ref (w.2.1 + 96), .ref (w.2.1 + 1), .ref (w.2.1 + u2)]) (Nat.le_of_ble_eq_true rfl) pn_3 (m_X3_readYear_s l w u2 S hu2) h
abbrev I_X3_readYear : MI := I_X3_readYear_n
def f_X3_readYear (q2 : Option Nat) (S : St) : Option (St) := match q2 with
  | none => f_X3_readYear_n  S
  | some u => f_X3_readYear_s u  S
theorem c_X3_readYear (l : Launch) (w : Wd) (q2 : Option Nat) (S : St) (hq2 : ∀ u, q2 = some u → kd u = KdSheet) : ∀ v, f_X3_readYear q2 S = some v → CtS l w I_X3_readYear [.ref (w.2.1 + 96), .ref (w.2.1 + 1), va_rf (Option.map (fun j => w.2.1 + j) q2)] S v none := by
  cases q2 with
  | none => exact fun v h => c_X3_readYear_n l w  S v h
  | some u => exact fun v h => c_X3_readYear_s l w u  S (hq2 u rfl) v h
