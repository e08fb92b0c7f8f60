abbrev I_X6_finding : MI := (yX6_finding, cX6_finding, 2, some .int, { frames := 0, cells := 0, slots := 0, locals := 0 })
theorem dX6_finding_0 : decode cX6_finding 0 = .ok (.aload_n 0, 1) := by decide +kernel
theorem dX6_finding_1 : decode cX6_finding 1 = .ok (.dup, 1) := by decide +kernel
theorem dX6_finding_2 : decode cX6_finding 2 = .ok (.getfield 44, 3) := by decide +kernel
theorem dX6_finding_5 : decode cX6_finding 5 = .ok (.iconst 1, 1) := by decide +kernel
theorem dX6_finding_6 : decode cX6_finding 6 = .ok (.iadd, 1) := by decide +kernel
theorem dX6_finding_7 : decode cX6_finding 7 = .ok (.putfield 44, 3) := by decide +kernel
theorem dX6_finding_10 : decode cX6_finding 10 = .ok (.iload_n 1, 1) := by decide +kernel
theorem dX6_finding_11 : decode cX6_finding 11 = .ok (.ireturn, 1) := by decide +kernel
def f_X6_finding (x1 : Int32) (S : St) : Int32 × St := (x1, (wr S 0 6 ((rd S 0 6) + (1 : Int32))))
set_option maxRecDepth 100000 in
set_option maxHeartbeats 4000000 in
theorem m_X6_finding (l : Launch) (w : Wd) (x1 : Int32) (S : St)  : J l w I_X6_finding 0 [(0, .ref (w.2.1 + 0)), (1, .int x1)] [] S (fun b => (some (.int b.1), b.2)) (some (f_X6_finding x1 S)) := by
  unfold f_X6_finding
  refine j_aload_n (y := I_X6_finding) 0 dX6_finding_0 rfl rfl ?_
  refine j_dup (y := I_X6_finding) dX6_finding_1 rfl ?_
  refine j_getI (y := I_X6_finding) fl_6_44 k_0 rfl dX6_finding_2 ?_
  refine j_iconst (y := I_X6_finding) (v := 1) dX6_finding_5 (by decide) ?_
  refine j_iadd (y := I_X6_finding) dX6_finding_6 ?_
  refine j_putI (y := I_X6_finding) fp_6_44 k_0 rfl rfl rfl dX6_finding_7 ?_
  refine j_iload_n (y := I_X6_finding) 1 dX6_finding_10 rfl rfl ?_
  exact j_iret (y := I_X6_finding) rfl dX6_finding_11 rfl
theorem c_X6_finding (l : Launch) (w : Wd) (x1 : Int32) (S : St)  : CtS l w I_X6_finding [.ref (w.2.1 + 0), .int x1] S (f_X6_finding x1 S).2 (some (.int (f_X6_finding x1 S).1)) := J.ct (av := [.ref (w.2.1 + 0), .int x1]) (Nat.le_of_ble_eq_true rfl) pn_6 (m_X6_finding l w x1 S ) rfl
abbrev I_X6_all : MI := (yX6_all, cX6_all, 2, some .long, { frames := 2, cells := 0, slots := 0, locals := 42 })
theorem dX6_all_0 : decode cX6_all 0 = .ok (.iload_n 1, 1) := by decide +kernel
theorem dX6_all_1 : decode cX6_all 1 = .ok (.iconst 0, 1) := by decide +kernel
theorem dX6_all_2 : decode cX6_all 2 = .ok (.bipush 9, 2) := by decide +kernel
theorem dX6_all_4 : decode cX6_all 4 = .ok (.invokestatic 48, 3) := by decide +kernel
theorem dX6_all_7 : decode cX6_all 7 = .ok (.ifCond .ne 10, 3) := by decide +kernel
theorem dX6_all_10 : decode cX6_all 10 = .ok (.aload_n 0, 1) := by decide +kernel
theorem dX6_all_11 : decode cX6_all 11 = .ok (.iconst (-1), 1) := by decide +kernel
theorem dX6_all_12 : decode cX6_all 12 = .ok (.invokevirtual 52, 3) := by decide +kernel
theorem dX6_all_15 : decode cX6_all 15 = .ok (.i2l, 1) := by decide +kernel
theorem dX6_all_16 : decode cX6_all 16 = .ok (.lreturn, 1) := by decide +kernel
theorem dX6_all_17 : decode cX6_all 17 = .ok (.iload_n 1, 1) := by decide +kernel
theorem dX6_all_18 : decode cX6_all 18 = .ok (.bipush 6, 2) := by decide +kernel
theorem dX6_all_20 : decode cX6_all 20 = .ok (.if_icmp .ne 12, 3) := by decide +kernel
theorem dX6_all_23 : decode cX6_all 23 = .ok (.aload_n 0, 1) := by decide +kernel
theorem dX6_all_24 : decode cX6_all 24 = .ok (.getfield 10, 3) := by decide +kernel
theorem dX6_all_27 : decode cX6_all 27 = .ok (.invokevirtual 253, 3) := by decide +kernel
theorem dX6_all_30 : decode cX6_all 30 = .ok (.i2l, 1) := by decide +kernel
theorem dX6_all_31 : decode cX6_all 31 = .ok (.lreturn, 1) := by decide +kernel
theorem dX6_all_32 : decode cX6_all 32 = .ok (.iload_n 1, 1) := by decide +kernel
theorem dX6_all_33 : decode cX6_all 33 = .ok (.bipush 9, 2) := by decide +kernel
theorem dX6_all_35 : decode cX6_all 35 = .ok (.if_icmp .ne 14, 3) := by decide +kernel
theorem dX6_all_38 : decode cX6_all 38 = .ok (.aload_n 0, 1) := by decide +kernel
theorem dX6_all_39 : decode cX6_all 39 = .ok (.getfield 10, 3) := by decide +kernel
theorem dX6_all_42 : decode cX6_all 42 = .ok (.invokevirtual 256, 3) := by decide +kernel
theorem dX6_all_45 : decode cX6_all 45 = .ok (.i2l, 1) := by decide +kernel
theorem dX6_all_46 : decode cX6_all 46 = .ok (.goto 12, 3) := by decide +kernel
theorem dX6_all_49 : decode cX6_all 49 = .ok (.aload_n 0, 1) := by decide +kernel
theorem dX6_all_50 : decode cX6_all 50 = .ok (.getfield 10, 3) := by decide +kernel
theorem dX6_all_53 : decode cX6_all 53 = .ok (.getfield 111, 3) := by decide +kernel
theorem dX6_all_56 : decode cX6_all 56 = .ok (.iload_n 1, 1) := by decide +kernel
theorem dX6_all_57 : decode cX6_all 57 = .ok (.laload, 1) := by decide +kernel
theorem dX6_all_58 : decode cX6_all 58 = .ok (.lreturn, 1) := by decide +kernel
theorem cv_6_253 : CV RX6 253 0 0 I_X0_fruitsOnTrees := ⟨⟨⟨gm 695 (by decide +kernel) rfl, gm 654 (by decide +kernel) rfl, gm 38 (by decide +kernel) rfl, mh_0.1, mh_0.2, by decide +kernel⟩, gm 652 (by decide +kernel) rfl, gm 653 (by decide +kernel) rfl⟩, ⟨_, _, rfl⟩, rfl, rfl⟩
theorem cv_6_256 : CV RX6 256 0 0 I_X0_fruitsInStore := ⟨⟨⟨gm 696 (by decide +kernel) rfl, gm 626 (by decide +kernel) rfl, gm 38 (by decide +kernel) rfl, mh_0.1, mh_0.2, by decide +kernel⟩, gm 624 (by decide +kernel) rfl, gm 625 (by decide +kernel) rfl⟩, ⟨_, _, rfl⟩, rfl, rfl⟩
theorem cv_6_52 : CV RX6 52 1 6 I_X6_finding := ⟨⟨⟨gm 331 (by decide +kernel) rfl, gm 334 (by decide +kernel) rfl, gm 37 (by decide +kernel) rfl, mh_6.1, mh_6.2, by decide +kernel⟩, gm 333 (by decide +kernel) rfl, gm 0 (by decide +kernel) rfl⟩, ⟨_, _, rfl⟩, rfl, rfl⟩
def f_X6_all (x1 : Int32) (S : St) : Option (Int64 × St) := if (f_X6_within x1 (0 : Int32) (9 : Int32)) = true then (if x1 = (6 : Int32) then ((f_X0_fruitsOnTrees S).bind fun v27 => (some (v27.toInt64, S))) else (if x1 = (9 : Int32) then ((f_X0_fruitsInStore S).bind fun v42 => (some (v42.toInt64, S))) else (if inb x1 10 = true then (some ((rdL S 7 (ix x1)), S)) else none))) else (some ((((f_X6_finding (-1 : Int32) S).1).toInt64), (f_X6_finding (-1 : Int32) S).2))
set_option maxRecDepth 100000 in
set_option maxHeartbeats 4000000 in
theorem m_X6_all (l : Launch) (w : Wd) (x1 : Int32) (S : St)  : J l w I_X6_all 0 [(0, .ref (w.2.1 + 0)), (1, .int x1)] [] S (fun b => (some (.long b.1), b.2)) (f_X6_all x1 S) := by
  unfold f_X6_all
  refine j_iload_n (y := I_X6_all) 1 dX6_all_0 rfl rfl ?_
  refine j_iconst (y := I_X6_all) (v := 0) dX6_all_1 (by decide) ?_
  refine j_bipush (y := I_X6_all) (v := 9) dX6_all_2 (by decide) ?_
  refine j_callSzT (y := I_X6_all) (As := [.int x1, .int (0 : Int32), .int (9 : Int32)]) cv_6_48 ⟨Nat.le_of_ble_eq_true rfl, Nat.le_of_ble_eq_true rfl⟩ rfl (Nat.le_of_ble_eq_true rfl) dX6_all_4 (c_X6_within l w x1 (0 : Int32) (9 : Int32) S) ?_
  refine j_if_neB (y := I_X6_all) 17 dX6_all_7 (by decide) (fun h7 => ?_) (fun h7 => ?_)
  · refine j_iload_n (y := I_X6_all) 1 dX6_all_17 rfl rfl ?_
    refine j_bipush (y := I_X6_all) (v := 6) dX6_all_18 (by decide) ?_
    refine j_icmp_ne (y := I_X6_all) 32 dX6_all_20 (by decide) (fun h20 => ?_) (fun h20 => ?_)
    · refine j_iload_n (y := I_X6_all) 1 dX6_all_32 rfl rfl ?_
      refine j_bipush (y := I_X6_all) (v := 9) dX6_all_33 (by decide) ?_
      refine j_icmp_ne (y := I_X6_all) 49 dX6_all_35 (by decide) (fun h35 => ?_) (fun h35 => ?_)
      · refine j_aload_n (y := I_X6_all) 0 dX6_all_49 rfl rfl ?_
        refine j_getR (y := I_X6_all) (j := 1) fl_6_10 k_0 rfl rfl dX6_all_50 ?_
        refine j_getR (y := I_X6_all) (j := 7) fl_6_111 k_1 rfl rfl dX6_all_53 ?_
        refine j_iload_n (y := I_X6_all) 1 dX6_all_56 rfl rfl ?_
        refine j_lald (y := I_X6_all) k_7 dX6_all_57 (fun h57 => ?_)
        exact j_lret (y := I_X6_all) rfl dX6_all_58 rfl
      · refine j_aload_n (y := I_X6_all) 0 dX6_all_38 rfl rfl ?_
        refine j_getR (y := I_X6_all) (j := 1) fl_6_10 k_0 rfl rfl dX6_all_39 ?_
        refine j_callViR (y := I_X6_all) (As := []) cv_6_256 ⟨Nat.le_of_ble_eq_true rfl, Nat.le_of_ble_eq_true rfl⟩ k_1 rfl (Nat.le_of_ble_eq_true rfl) dX6_all_42 (c_X0_fruitsInStore l w S) (fun v42 h42 => ?_)
        refine j_i2l (y := I_X6_all) dX6_all_45 ?_
        refine j_goto (y := I_X6_all) 58 dX6_all_46 (by decide) ?_
        exact j_lret (y := I_X6_all) rfl dX6_all_58 rfl
    · refine j_aload_n (y := I_X6_all) 0 dX6_all_23 rfl rfl ?_
      refine j_getR (y := I_X6_all) (j := 1) fl_6_10 k_0 rfl rfl dX6_all_24 ?_
      refine j_callViR (y := I_X6_all) (As := []) cv_6_253 ⟨Nat.le_of_ble_eq_true rfl, Nat.le_of_ble_eq_true rfl⟩ k_1 rfl (Nat.le_of_ble_eq_true rfl) dX6_all_27 (c_X0_fruitsOnTrees l w S) (fun v27 h27 => ?_)
      refine j_i2l (y := I_X6_all) dX6_all_30 ?_
      exact j_lret (y := I_X6_all) rfl dX6_all_31 rfl
  · refine j_aload_n (y := I_X6_all) 0 dX6_all_10 rfl rfl ?_
    refine j_iconst (y := I_X6_all) (v := -1) dX6_all_11 (by decide) ?_
    refine j_callViT (y := I_X6_all) (As := [.int (-1 : Int32)]) cv_6_52 ⟨Nat.le_of_ble_eq_true rfl, Nat.le_of_ble_eq_true rfl⟩ k_0 rfl (Nat.le_of_ble_eq_true rfl) dX6_all_12 (c_X6_finding l w (-1 : Int32) S) ?_
    refine j_i2l (y := I_X6_all) dX6_all_15 ?_
    exact j_lret (y := I_X6_all) rfl dX6_all_16 rfl
theorem c_X6_all (l : Launch) (w : Wd) (x1 : Int32) (S : St)  : ∀ v, f_X6_all x1 S = some v → CtS l w I_X6_all [.ref (w.2.1 + 0), .int x1] S v.2 (some (.long v.1)) := fun v h => J.ct (av := [.ref (w.2.1 + 0), .int x1]) (Nat.le_of_ble_eq_true rfl) pn_6 (m_X6_all l w x1 S ) h
abbrev I_X6_as : MI := (yX6_as, cX6_as, 5, some .int, { frames := 2, cells := 0, slots := 0, locals := 42 })
theorem dX6_as_0 : decode cX6_as 0 = .ok (.iload_n 1, 1) := by decide +kernel
theorem dX6_as_1 : decode cX6_as 1 = .ok (.invokestatic 83, 3) := by decide +kernel
theorem dX6_as_4 : decode cX6_as 4 = .ok (.ifCond .eq 12, 3) := by decide +kernel
theorem dX6_as_7 : decode cX6_as 7 = .ok (.iload_n 2, 1) := by decide +kernel
theorem dX6_as_8 : decode cX6_as 8 = .ok (.iconst 1, 1) := by decide +kernel
theorem dX6_as_9 : decode cX6_as 9 = .ok (.iconst 5, 1) := by decide +kernel
theorem dX6_as_10 : decode cX6_as 10 = .ok (.invokestatic 48, 3) := by decide +kernel
theorem dX6_as_13 : decode cX6_as 13 = .ok (.ifCond .ne 9, 3) := by decide +kernel
theorem dX6_as_16 : decode cX6_as 16 = .ok (.aload_n 0, 1) := by decide +kernel
theorem dX6_as_17 : decode cX6_as 17 = .ok (.iconst (-1), 1) := by decide +kernel
theorem dX6_as_18 : decode cX6_as 18 = .ok (.invokevirtual 52, 3) := by decide +kernel
theorem dX6_as_21 : decode cX6_as 21 = .ok (.ireturn, 1) := by decide +kernel
theorem dX6_as_22 : decode cX6_as 22 = .ok (.aload_n 0, 1) := by decide +kernel
theorem dX6_as_23 : decode cX6_as 23 = .ok (.getfield 10, 3) := by decide +kernel
theorem dX6_as_26 : decode cX6_as 26 = .ok (.getfield 86, 3) := by decide +kernel
theorem dX6_as_29 : decode cX6_as 29 = .ok (.iload_n 1, 1) := by decide +kernel
theorem dX6_as_30 : decode cX6_as 30 = .ok (.aaload, 1) := by decide +kernel
theorem dX6_as_31 : decode cX6_as 31 = .ok (.astore_n 3, 1) := by decide +kernel
theorem dX6_as_32 : decode cX6_as 32 = .ok (.aload_n 3, 1) := by decide +kernel
theorem dX6_as_33 : decode cX6_as 33 = .ok (.getfield 90, 3) := by decide +kernel
theorem dX6_as_36 : decode cX6_as 36 = .ok (.ifCond .ne 10, 3) := by decide +kernel
theorem dX6_as_39 : decode cX6_as 39 = .ok (.aload_n 0, 1) := by decide +kernel
theorem dX6_as_40 : decode cX6_as 40 = .ok (.bipush (-6), 2) := by decide +kernel
theorem dX6_as_42 : decode cX6_as 42 = .ok (.invokevirtual 52, 3) := by decide +kernel
theorem dX6_as_45 : decode cX6_as 45 = .ok (.ireturn, 1) := by decide +kernel
theorem dX6_as_46 : decode cX6_as 46 = .ok (.aload_n 3, 1) := by decide +kernel
theorem dX6_as_47 : decode cX6_as 47 = .ok (.getfield 90, 3) := by decide +kernel
theorem dX6_as_50 : decode cX6_as 50 = .ok (.iload_n 2, 1) := by decide +kernel
theorem dX6_as_51 : decode cX6_as 51 = .ok (.if_icmp .eq 15, 3) := by decide +kernel
theorem dX6_as_54 : decode cX6_as 54 = .ok (.iload_n 2, 1) := by decide +kernel
theorem dX6_as_55 : decode cX6_as 55 = .ok (.iconst 1, 1) := by decide +kernel
theorem dX6_as_56 : decode cX6_as 56 = .ok (.if_icmp .ne 14, 3) := by decide +kernel
theorem dX6_as_59 : decode cX6_as 59 = .ok (.aload_n 3, 1) := by decide +kernel
theorem dX6_as_60 : decode cX6_as 60 = .ok (.invokevirtual 123, 3) := by decide +kernel
theorem dX6_as_63 : decode cX6_as 63 = .ok (.ifCond .eq 7, 3) := by decide +kernel
theorem dX6_as_66 : decode cX6_as 66 = .ok (.iconst 1, 1) := by decide +kernel
theorem dX6_as_67 : decode cX6_as 67 = .ok (.goto 4, 3) := by decide +kernel
theorem dX6_as_70 : decode cX6_as 70 = .ok (.iconst 0, 1) := by decide +kernel
theorem dX6_as_71 : decode cX6_as 71 = .ok (.istore 4, 2) := by decide +kernel
theorem dX6_as_73 : decode cX6_as 73 = .ok (.iload 4, 2) := by decide +kernel
theorem dX6_as_75 : decode cX6_as 75 = .ok (.ifCond .eq 7, 3) := by decide +kernel
theorem dX6_as_78 : decode cX6_as 78 = .ok (.iload_n 1, 1) := by decide +kernel
theorem dX6_as_79 : decode cX6_as 79 = .ok (.goto 9, 3) := by decide +kernel
theorem dX6_as_82 : decode cX6_as 82 = .ok (.aload_n 0, 1) := by decide +kernel
theorem dX6_as_83 : decode cX6_as 83 = .ok (.bipush (-4), 2) := by decide +kernel
theorem dX6_as_85 : decode cX6_as 85 = .ok (.invokevirtual 52, 3) := by decide +kernel
theorem dX6_as_88 : decode cX6_as 88 = .ok (.ireturn, 1) := by decide +kernel
theorem cv_6_123 : CV RX6 123 0 2 I_X2_isTree := ⟨⟨⟨gm 398 (by decide +kernel) rfl, gm 401 (by decide +kernel) rfl, gm 40 (by decide +kernel) rfl, mh_2.1, mh_2.2, by decide +kernel⟩, gm 399 (by decide +kernel) rfl, gm 400 (by decide +kernel) rfl⟩, ⟨_, _, rfl⟩, rfl, rfl⟩
theorem cv_6_83 : CS RX6 83 1 I_X6_isPlace := ⟨⟨⟨gm 363 (by decide +kernel) rfl, gm 365 (by decide +kernel) rfl, gm 37 (by decide +kernel) rfl, mh_6.1, mh_6.2, by decide +kernel⟩, gm 364 (by decide +kernel) rfl⟩, rfl, rfl⟩
def f_X6_as_J71 (j71_1 : Int32) (j71s_0 : Int32) (S71 : St) : Option (Int32 × St) := if j71s_0 = 0 then (some (((f_X6_finding (-4 : Int32) S71).1), (f_X6_finding (-4 : Int32) S71).2)) else (some (j71_1, S71))
def f_X6_as_J66 (j66_1 : Int32) (S66 : St) : Option (Int32 × St) := f_X6_as_J71 j66_1 (1 : Int32) S66
def f_X6_as_J70 (j70_1 : Int32) (S70 : St) : Option (Int32 × St) := f_X6_as_J71 j70_1 (0 : Int32) S70
def f_X6_as (x1 : Int32) (x2 : Int32) (S : St) : Option (Int32 × St) := if (f_X6_isPlace x1) = true then (if (f_X6_within x2 (1 : Int32) (5 : Int32)) = true then (if inb x1 12 = true then (if (rd S (20 + 2 * ix x1) 2) = 0 then (some (((f_X6_finding (-6 : Int32) S).1), (f_X6_finding (-6 : Int32) S).2)) else (if (rd S (20 + 2 * ix x1) 2) = x2 then (f_X6_as_J66 x1 S) else (if x2 = (1 : Int32) then (if (f_X2_isTree (20 + 2 * ix x1) S) = true then (f_X6_as_J66 x1 S) else (f_X6_as_J70 x1 S)) else (f_X6_as_J70 x1 S)))) else none) else (some (((f_X6_finding (-1 : Int32) S).1), (f_X6_finding (-1 : Int32) S).2))) else (some (((f_X6_finding (-1 : Int32) S).1), (f_X6_finding (-1 : Int32) S).2))
set_option maxRecDepth 100000 in
theorem jj_X6_as_71 (l : Launch) (w : Wd) (j71_1 : Int32) (j71s_0 : Int32) (S71 : St)  : J l w I_X6_as 71 [(0, .ref (w.2.1 + 0)), (1, .int j71_1)] [.int j71s_0] S71 (fun b => (some (.int b.1), b.2)) (f_X6_as_J71 j71_1 j71s_0 S71) := by
  unfold f_X6_as_J71
  refine j_istore (y := I_X6_as) (ls' := [(4, .int j71s_0), (0, .ref (w.2.1 + 0)), (1, .int j71_1)]) dX6_as_71 (by decide) rfl ?_
  refine j_iload (y := I_X6_as) 0 dX6_as_73 rfl ?_
  refine j_if_eq (y := I_X6_as) 82 dX6_as_75 (by decide) (fun h75 => ?_) (fun h75 => ?_)
  · refine j_aload_n (y := I_X6_as) 1 dX6_as_82 rfl rfl ?_
    refine j_bipush (y := I_X6_as) (v := -4) dX6_as_83 (by decide) ?_
    refine j_callViT (y := I_X6_as) (As := [.int (-4 : Int32)]) cv_6_52 ⟨Nat.le_of_ble_eq_true rfl, Nat.le_of_ble_eq_true rfl⟩ k_0 rfl (Nat.le_of_ble_eq_true rfl) dX6_as_85 (c_X6_finding l w (-4 : Int32) S71) ?_
    exact j_iret (y := I_X6_as) rfl dX6_as_88 rfl
  · refine j_iload_n (y := I_X6_as) 2 dX6_as_78 rfl rfl ?_
    refine j_goto (y := I_X6_as) 88 dX6_as_79 (by decide) ?_
    exact j_iret (y := I_X6_as) rfl dX6_as_88 rfl
set_option maxRecDepth 100000 in
theorem jj_X6_as_66 (l : Launch) (w : Wd) (j66_1 : Int32) (S66 : St)  : J l w I_X6_as 66 [(0, .ref (w.2.1 + 0)), (1, .int j66_1)] [] S66 (fun b => (some (.int b.1), b.2)) (f_X6_as_J66 j66_1 S66) := by
  unfold f_X6_as_J66
  refine j_iconst (y := I_X6_as) (v := 1) dX6_as_66 (by decide) ?_
  refine j_goto (y := I_X6_as) 71 dX6_as_67 (by decide) ?_
  refine j_sub [0, 1] rfl ?_
  exact jj_X6_as_71 l w j66_1 (1 : Int32) S66
set_option maxRecDepth 100000 in
theorem jj_X6_as_70 (l : Launch) (w : Wd) (j70_1 : Int32) (S70 : St)  : J l w I_X6_as 70 [(0, .ref (w.2.1 + 0)), (1, .int j70_1)] [] S70 (fun b => (some (.int b.1), b.2)) (f_X6_as_J70 j70_1 S70) := by
  unfold f_X6_as_J70
  refine j_iconst (y := I_X6_as) (v := 0) dX6_as_70 (by decide) ?_
  refine j_sub [0, 1] rfl ?_
  exact jj_X6_as_71 l w j70_1 (0 : Int32) S70
set_option maxRecDepth 100000 in
set_option maxHeartbeats 4000000 in
theorem m_X6_as (l : Launch) (w : Wd) (x1 : Int32) (x2 : Int32) (S : St)  : J l w I_X6_as 0 [(0, .ref (w.2.1 + 0)), (1, .int x1), (2, .int x2)] [] S (fun b => (some (.int b.1), b.2)) (f_X6_as x1 x2 S) := by
  unfold f_X6_as
  refine j_iload_n (y := I_X6_as) 1 dX6_as_0 rfl rfl ?_
  refine j_callSzT (y := I_X6_as) (As := [.int x1]) cv_6_83 ⟨Nat.le_of_ble_eq_true rfl, Nat.le_of_ble_eq_true rfl⟩ rfl (Nat.le_of_ble_eq_true rfl) dX6_as_1 (c_X6_isPlace l w x1 S) ?_
  refine j_if_eqB (y := I_X6_as) 16 dX6_as_4 (by decide) (fun h4 => ?_) (fun h4 => ?_)
  · refine j_aload_n (y := I_X6_as) 0 dX6_as_16 rfl rfl ?_
    refine j_iconst (y := I_X6_as) (v := -1) dX6_as_17 (by decide) ?_
    refine j_callViT (y := I_X6_as) (As := [.int (-1 : Int32)]) cv_6_52 ⟨Nat.le_of_ble_eq_true rfl, Nat.le_of_ble_eq_true rfl⟩ k_0 rfl (Nat.le_of_ble_eq_true rfl) dX6_as_18 (c_X6_finding l w (-1 : Int32) S) ?_
    exact j_iret (y := I_X6_as) rfl dX6_as_21 rfl
  · refine j_iload_n (y := I_X6_as) 2 dX6_as_7 rfl rfl ?_
    refine j_iconst (y := I_X6_as) (v := 1) dX6_as_8 (by decide) ?_
    refine j_iconst (y := I_X6_as) (v := 5) dX6_as_9 (by decide) ?_
    refine j_callSzT (y := I_X6_as) (As := [.int x2, .int (1 : Int32), .int (5 : Int32)]) cv_6_48 ⟨Nat.le_of_ble_eq_true rfl, Nat.le_of_ble_eq_true rfl⟩ rfl (Nat.le_of_ble_eq_true rfl) dX6_as_10 (c_X6_within l w x2 (1 : Int32) (5 : Int32) S) ?_
    refine j_if_neB (y := I_X6_as) 22 dX6_as_13 (by decide) (fun h13 => ?_) (fun h13 => ?_)
    · refine j_aload_n (y := I_X6_as) 0 dX6_as_22 rfl rfl ?_
      refine j_getR (y := I_X6_as) (j := 1) fl_6_10 k_0 rfl rfl dX6_as_23 ?_
      refine j_getR (y := I_X6_as) (j := 3) fl_6_86 k_1 rfl rfl dX6_as_26 ?_
      refine j_iload_n (y := I_X6_as) 1 dX6_as_29 rfl rfl ?_
      refine j_aald (y := I_X6_as) (j := (20 + 2 * ix x1)) (tt := 1) k_3 rfl (rho_3 _) dX6_as_30 (fun h30 => ?_)
      refine j_astore_n (y := I_X6_as) (ls' := [(3, .ref (w.2.1 + (20 + 2 * ix x1))), (0, .ref (w.2.1 + 0)), (1, .int x1), (2, .int x2)]) dX6_as_31 rfl (by decide) rfl ?_
      refine j_aload_n (y := I_X6_as) 0 dX6_as_32 rfl rfl ?_
      refine j_getI (y := I_X6_as) fl_6_90 (kd_Pl _ (inb_lt h30)) rfl dX6_as_33 ?_
      refine j_if_ne (y := I_X6_as) 46 dX6_as_36 (by decide) (fun h36 => ?_) (fun h36 => ?_)
      · refine j_aload_n (y := I_X6_as) 0 dX6_as_46 rfl rfl ?_
        refine j_getI (y := I_X6_as) fl_6_90 (kd_Pl _ (inb_lt h30)) rfl dX6_as_47 ?_
        refine j_iload_n (y := I_X6_as) 3 dX6_as_50 rfl rfl ?_
        refine j_icmp_eq (y := I_X6_as) 66 dX6_as_51 (by decide) (fun h51 => ?_) (fun h51 => ?_)
        · refine j_sub [1, 2] rfl ?_
          exact jj_X6_as_66 l w x1 S
        · refine j_iload_n (y := I_X6_as) 3 dX6_as_54 rfl rfl ?_
          refine j_iconst (y := I_X6_as) (v := 1) dX6_as_55 (by decide) ?_
          refine j_icmp_ne (y := I_X6_as) 70 dX6_as_56 (by decide) (fun h56 => ?_) (fun h56 => ?_)
          · refine j_sub [1, 2] rfl ?_
            exact jj_X6_as_70 l w x1 S
          · refine j_aload_n (y := I_X6_as) 0 dX6_as_59 rfl rfl ?_
            refine j_callVzT (y := I_X6_as) (As := []) cv_6_123 ⟨Nat.le_of_ble_eq_true rfl, Nat.le_of_ble_eq_true rfl⟩ (kd_Pl _ (inb_lt h30)) rfl (Nat.le_of_ble_eq_true rfl) dX6_as_60 (c_X2_isTree l w (20 + 2 * ix x1) S (kd_Pl _ (inb_lt h30))) ?_
            refine j_if_eqB (y := I_X6_as) 70 dX6_as_63 (by decide) (fun h63 => ?_) (fun h63 => ?_)
            · refine j_sub [1, 2] rfl ?_
              exact jj_X6_as_70 l w x1 S
            · refine j_sub [1, 2] rfl ?_
              exact jj_X6_as_66 l w x1 S
      · refine j_aload_n (y := I_X6_as) 1 dX6_as_39 rfl rfl ?_
        refine j_bipush (y := I_X6_as) (v := -6) dX6_as_40 (by decide) ?_
        refine j_callViT (y := I_X6_as) (As := [.int (-6 : Int32)]) cv_6_52 ⟨Nat.le_of_ble_eq_true rfl, Nat.le_of_ble_eq_true rfl⟩ k_0 rfl (Nat.le_of_ble_eq_true rfl) dX6_as_42 (c_X6_finding l w (-6 : Int32) S) ?_
        exact j_iret (y := I_X6_as) rfl dX6_as_45 rfl
    · refine j_aload_n (y := I_X6_as) 0 dX6_as_16 rfl rfl ?_
      refine j_iconst (y := I_X6_as) (v := -1) dX6_as_17 (by decide) ?_
      refine j_callViT (y := I_X6_as) (As := [.int (-1 : Int32)]) cv_6_52 ⟨Nat.le_of_ble_eq_true rfl, Nat.le_of_ble_eq_true rfl⟩ k_0 rfl (Nat.le_of_ble_eq_true rfl) dX6_as_18 (c_X6_finding l w (-1 : Int32) S) ?_
      exact j_iret (y := I_X6_as) rfl dX6_as_21 rfl
theorem c_X6_as (l : Launch) (w : Wd) (x1 : Int32) (x2 : Int32) (S : St)  : ∀ v, f_X6_as x1 x2 S = some v → CtS l w I_X6_as [.ref (w.2.1 + 0), .int x1, .int x2] S v.2 (some (.int v.1)) := fun v h => J.ct (av := [.ref (w.2.1 + 0), .int x1, .int x2]) (Nat.le_of_ble_eq_true rfl) pn_6 (m_X6_as l w x1 x2 S ) h
abbrev I_X6_at : MI := (yX6_at, cX6_at, 5, some .int, { frames := 2, cells := 0, slots := 0, locals := 42 })
theorem dX6_at_0 : decode cX6_at 0 = .ok (.iload_n 1, 1) := by decide +kernel
theorem dX6_at_1 : decode cX6_at 1 = .ok (.invokestatic 83, 3) := by decide +kernel
theorem dX6_at_4 : decode cX6_at 4 = .ok (.ifCond .eq 23, 3) := by decide +kernel
theorem dX6_at_7 : decode cX6_at 7 = .ok (.iload_n 2, 1) := by decide +kernel
theorem dX6_at_8 : decode cX6_at 8 = .ok (.iconst 0, 1) := by decide +kernel
theorem dX6_at_9 : decode cX6_at 9 = .ok (.bipush 15, 2) := by decide +kernel
theorem dX6_at_11 : decode cX6_at 11 = .ok (.invokestatic 48, 3) := by decide +kernel
theorem dX6_at_14 : decode cX6_at 14 = .ok (.ifCond .eq 13, 3) := by decide +kernel
theorem dX6_at_17 : decode cX6_at 17 = .ok (.iload_n 3, 1) := by decide +kernel
theorem dX6_at_18 : decode cX6_at 18 = .ok (.iconst 0, 1) := by decide +kernel
theorem dX6_at_19 : decode cX6_at 19 = .ok (.bipush 15, 2) := by decide +kernel
theorem dX6_at_21 : decode cX6_at 21 = .ok (.invokestatic 48, 3) := by decide +kernel
theorem dX6_at_24 : decode cX6_at 24 = .ok (.ifCond .ne 9, 3) := by decide +kernel
theorem dX6_at_27 : decode cX6_at 27 = .ok (.aload_n 0, 1) := by decide +kernel
theorem dX6_at_28 : decode cX6_at 28 = .ok (.iconst (-1), 1) := by decide +kernel
theorem dX6_at_29 : decode cX6_at 29 = .ok (.invokevirtual 52, 3) := by decide +kernel
theorem dX6_at_32 : decode cX6_at 32 = .ok (.ireturn, 1) := by decide +kernel
theorem dX6_at_33 : decode cX6_at 33 = .ok (.aload_n 0, 1) := by decide +kernel
theorem dX6_at_34 : decode cX6_at 34 = .ok (.getfield 10, 3) := by decide +kernel
theorem dX6_at_37 : decode cX6_at 37 = .ok (.getfield 86, 3) := by decide +kernel
theorem dX6_at_40 : decode cX6_at 40 = .ok (.iload_n 1, 1) := by decide +kernel
theorem dX6_at_41 : decode cX6_at 41 = .ok (.aaload, 1) := by decide +kernel
theorem dX6_at_42 : decode cX6_at 42 = .ok (.astore 4, 2) := by decide +kernel
theorem dX6_at_44 : decode cX6_at 44 = .ok (.aload 4, 2) := by decide +kernel
theorem dX6_at_46 : decode cX6_at 46 = .ok (.getfield 90, 3) := by decide +kernel
theorem dX6_at_49 : decode cX6_at 49 = .ok (.ifCond .eq 10, 3) := by decide +kernel
theorem dX6_at_52 : decode cX6_at 52 = .ok (.aload_n 0, 1) := by decide +kernel
theorem dX6_at_53 : decode cX6_at 53 = .ok (.bipush (-7), 2) := by decide +kernel
theorem dX6_at_55 : decode cX6_at 55 = .ok (.invokevirtual 52, 3) := by decide +kernel
theorem dX6_at_58 : decode cX6_at 58 = .ok (.ireturn, 1) := by decide +kernel
theorem dX6_at_59 : decode cX6_at 59 = .ok (.aload 4, 2) := by decide +kernel
theorem dX6_at_61 : decode cX6_at 61 = .ok (.iload_n 2, 1) := by decide +kernel
theorem dX6_at_62 : decode cX6_at 62 = .ok (.putfield 95, 3) := by decide +kernel
theorem dX6_at_65 : decode cX6_at 65 = .ok (.aload 4, 2) := by decide +kernel
theorem dX6_at_67 : decode cX6_at 67 = .ok (.iload_n 3, 1) := by decide +kernel
theorem dX6_at_68 : decode cX6_at 68 = .ok (.putfield 98, 3) := by decide +kernel
theorem dX6_at_71 : decode cX6_at 71 = .ok (.aload_n 0, 1) := by decide +kernel
theorem dX6_at_72 : decode cX6_at 72 = .ok (.getfield 40, 3) := by decide +kernel
theorem dX6_at_75 : decode cX6_at 75 = .ok (.invokevirtual 69, 3) := by decide +kernel
theorem dX6_at_78 : decode cX6_at 78 = .ok (.iconst 1, 1) := by decide +kernel
theorem dX6_at_79 : decode cX6_at 79 = .ok (.ireturn, 1) := by decide +kernel
theorem cv_6_69 : CV RX6 69 0 1 I_X1_forget := ⟨⟨⟨gm 339 (by decide +kernel) rfl, gm 342 (by decide +kernel) rfl, gm 43 (by decide +kernel) rfl, mh_1.1, mh_1.2, by decide +kernel⟩, gm 340 (by decide +kernel) rfl, gm 341 (by decide +kernel) rfl⟩, ⟨_, _, rfl⟩, rfl, rfl⟩
def f_X6_at (x1 : Int32) (x2 : Int32) (x3 : Int32) (S : St) : Option (Int32 × St) := if (f_X6_isPlace x1) = true then (if (f_X6_within x2 (0 : Int32) (15 : Int32)) = true then (if (f_X6_within x3 (0 : Int32) (15 : Int32)) = true then (if inb x1 12 = true then (if (rd S (20 + 2 * ix x1) 2) = 0 then (some ((1 : Int32), (f_X1_forget (wr (wr S (20 + 2 * ix x1) 0 x2) (20 + 2 * ix x1) 1 x3)))) else (some (((f_X6_finding (-7 : Int32) S).1), (f_X6_finding (-7 : Int32) S).2))) else none) else (some (((f_X6_finding (-1 : Int32) S).1), (f_X6_finding (-1 : Int32) S).2))) else (some (((f_X6_finding (-1 : Int32) S).1), (f_X6_finding (-1 : Int32) S).2))) else (some (((f_X6_finding (-1 : Int32) S).1), (f_X6_finding (-1 : Int32) S).2))
set_option maxRecDepth 100000 in
set_option maxHeartbeats 4000000 in
theorem m_X6_at (l : Launch) (w : Wd) (x1 : Int32) (x2 : Int32) (x3 : Int32) (S : St)  : J l w I_X6_at 0 [(0, .ref (w.2.1 + 0)), (1, .int x1), (2, .int x2), (3, .int x3)] [] S (fun b => (some (.int b.1), b.2)) (f_X6_at x1 x2 x3 S) := by
  unfold f_X6_at
  refine j_iload_n (y := I_X6_at) 1 dX6_at_0 rfl rfl ?_
  refine j_callSzT (y := I_X6_at) (As := [.int x1]) cv_6_83 ⟨Nat.le_of_ble_eq_true rfl, Nat.le_of_ble_eq_true rfl⟩ rfl (Nat.le_of_ble_eq_true rfl) dX6_at_1 (c_X6_isPlace l w x1 S) ?_
  refine j_if_eqB (y := I_X6_at) 27 dX6_at_4 (by decide) (fun h4 => ?_) (fun h4 => ?_)
  · refine j_aload_n (y := I_X6_at) 0 dX6_at_27 rfl rfl ?_
    refine j_iconst (y := I_X6_at) (v := -1) dX6_at_28 (by decide) ?_
    refine j_callViT (y := I_X6_at) (As := [.int (-1 : Int32)]) cv_6_52 ⟨Nat.le_of_ble_eq_true rfl, Nat.le_of_ble_eq_true rfl⟩ k_0 rfl (Nat.le_of_ble_eq_true rfl) dX6_at_29 (c_X6_finding l w (-1 : Int32) S) ?_
    exact j_iret (y := I_X6_at) rfl dX6_at_32 rfl
  · refine j_iload_n (y := I_X6_at) 2 dX6_at_7 rfl rfl ?_
    refine j_iconst (y := I_X6_at) (v := 0) dX6_at_8 (by decide) ?_
    refine j_bipush (y := I_X6_at) (v := 15) dX6_at_9 (by decide) ?_
    refine j_callSzT (y := I_X6_at) (As := [.int x2, .int (0 : Int32), .int (15 : Int32)]) cv_6_48 ⟨Nat.le_of_ble_eq_true rfl, Nat.le_of_ble_eq_true rfl⟩ rfl (Nat.le_of_ble_eq_true rfl) dX6_at_11 (c_X6_within l w x2 (0 : Int32) (15 : Int32) S) ?_
    refine j_if_eqB (y := I_X6_at) 27 dX6_at_14 (by decide) (fun h14 => ?_) (fun h14 => ?_)
    · refine j_aload_n (y := I_X6_at) 0 dX6_at_27 rfl rfl ?_
      refine j_iconst (y := I_X6_at) (v := -1) dX6_at_28 (by decide) ?_
      refine j_callViT (y := I_X6_at) (As := [.int (-1 : Int32)]) cv_6_52 ⟨Nat.le_of_ble_eq_true rfl, Nat.le_of_ble_eq_true rfl⟩ k_0 rfl (Nat.le_of_ble_eq_true rfl) dX6_at_29 (c_X6_finding l w (-1 : Int32) S) ?_
      exact j_iret (y := I_X6_at) rfl dX6_at_32 rfl
    · refine j_iload_n (y := I_X6_at) 3 dX6_at_17 rfl rfl ?_
      refine j_iconst (y := I_X6_at) (v := 0) dX6_at_18 (by decide) ?_
      refine j_bipush (y := I_X6_at) (v := 15) dX6_at_19 (by decide) ?_
      refine j_callSzT (y := I_X6_at) (As := [.int x3, .int (0 : Int32), .int (15 : Int32)]) cv_6_48 ⟨Nat.le_of_ble_eq_true rfl, Nat.le_of_ble_eq_true rfl⟩ rfl (Nat.le_of_ble_eq_true rfl) dX6_at_21 (c_X6_within l w x3 (0 : Int32) (15 : Int32) S) ?_
      refine j_if_neB (y := I_X6_at) 33 dX6_at_24 (by decide) (fun h24 => ?_) (fun h24 => ?_)
      · refine j_aload_n (y := I_X6_at) 0 dX6_at_33 rfl rfl ?_
        refine j_getR (y := I_X6_at) (j := 1) fl_6_10 k_0 rfl rfl dX6_at_34 ?_
        refine j_getR (y := I_X6_at) (j := 3) fl_6_86 k_1 rfl rfl dX6_at_37 ?_
        refine j_iload_n (y := I_X6_at) 1 dX6_at_40 rfl rfl ?_
        refine j_aald (y := I_X6_at) (j := (20 + 2 * ix x1)) (tt := 1) k_3 rfl (rho_3 _) dX6_at_41 (fun h41 => ?_)
        refine j_astore (y := I_X6_at) (ls' := [(4, .ref (w.2.1 + (20 + 2 * ix x1))), (0, .ref (w.2.1 + 0)), (1, .int x1), (2, .int x2), (3, .int x3)]) dX6_at_42 (by decide) rfl ?_
        refine j_aload (y := I_X6_at) 0 dX6_at_44 rfl ?_
        refine j_getI (y := I_X6_at) fl_6_90 (kd_Pl _ (inb_lt h41)) rfl dX6_at_46 ?_
        refine j_if_eq (y := I_X6_at) 59 dX6_at_49 (by decide) (fun h49 => ?_) (fun h49 => ?_)
        · refine j_aload (y := I_X6_at) 0 dX6_at_59 rfl ?_
          refine j_iload_n (y := I_X6_at) 3 dX6_at_61 rfl rfl ?_
          refine j_putI (y := I_X6_at) fp_6_95 (kd_Pl _ (inb_lt h41)) rfl rfl rfl dX6_at_62 ?_
          refine j_aload (y := I_X6_at) 0 dX6_at_65 rfl ?_
          refine j_iload_n (y := I_X6_at) 4 dX6_at_67 rfl rfl ?_
          refine j_putI (y := I_X6_at) fp_6_98 (kd_Pl _ (inb_lt h41)) rfl rfl rfl dX6_at_68 ?_
          refine j_aload_n (y := I_X6_at) 1 dX6_at_71 rfl rfl ?_
          refine j_getR (y := I_X6_at) (j := 101) fl_6_40 k_0 rfl rfl dX6_at_72 ?_
          refine j_callVvT (y := I_X6_at) (As := []) cv_6_69 ⟨Nat.le_of_ble_eq_true rfl, Nat.le_of_ble_eq_true rfl⟩ k_101 rfl (Nat.le_of_ble_eq_true rfl) dX6_at_75 (c_X1_forget l w (wr (wr S (20 + 2 * ix x1) 0 x2) (20 + 2 * ix x1) 1 x3)) ?_
          refine j_iconst (y := I_X6_at) (v := 1) dX6_at_78 (by decide) ?_
          exact j_iret (y := I_X6_at) rfl dX6_at_79 rfl
        · refine j_aload_n (y := I_X6_at) 1 dX6_at_52 rfl rfl ?_
          refine j_bipush (y := I_X6_at) (v := -7) dX6_at_53 (by decide) ?_
          refine j_callViT (y := I_X6_at) (As := [.int (-7 : Int32)]) cv_6_52 ⟨Nat.le_of_ble_eq_true rfl, Nat.le_of_ble_eq_true rfl⟩ k_0 rfl (Nat.le_of_ble_eq_true rfl) dX6_at_55 (c_X6_finding l w (-7 : Int32) S) ?_
          exact j_iret (y := I_X6_at) rfl dX6_at_58 rfl
      · refine j_aload_n (y := I_X6_at) 0 dX6_at_27 rfl rfl ?_
        refine j_iconst (y := I_X6_at) (v := -1) dX6_at_28 (by decide) ?_
        refine j_callViT (y := I_X6_at) (As := [.int (-1 : Int32)]) cv_6_52 ⟨Nat.le_of_ble_eq_true rfl, Nat.le_of_ble_eq_true rfl⟩ k_0 rfl (Nat.le_of_ble_eq_true rfl) dX6_at_29 (c_X6_finding l w (-1 : Int32) S) ?_
        exact j_iret (y := I_X6_at) rfl dX6_at_32 rfl
theorem c_X6_at (l : Launch) (w : Wd) (x1 : Int32) (x2 : Int32) (x3 : Int32) (S : St)  : ∀ v, f_X6_at x1 x2 x3 S = some v → CtS l w I_X6_at [.ref (w.2.1 + 0), .int x1, .int x2, .int x3] S v.2 (some (.int v.1)) := fun v h => J.ct (av := [.ref (w.2.1 + 0), .int x1, .int x2, .int x3]) (Nat.le_of_ble_eq_true rfl) pn_6 (m_X6_at l w x1 x2 x3 S ) h
abbrev I_X6_back : MI := (yX6_back, cX6_back, 1, some .int, { frames := 3, cells := 0, slots := 0, locals := 103 })
theorem dX6_back_0 : decode cX6_back 0 = .ok (.aload_n 0, 1) := by decide +kernel
theorem dX6_back_1 : decode cX6_back 1 = .ok (.getfield 19, 3) := by decide +kernel
theorem dX6_back_4 : decode cX6_back 4 = .ok (.ifCond .ne 10, 3) := by decide +kernel
theorem dX6_back_7 : decode cX6_back 7 = .ok (.aload_n 0, 1) := by decide +kernel
theorem dX6_back_8 : decode cX6_back 8 = .ok (.bipush (-6), 2) := by decide +kernel
theorem dX6_back_10 : decode cX6_back 10 = .ok (.invokevirtual 52, 3) := by decide +kernel
theorem dX6_back_13 : decode cX6_back 13 = .ok (.ireturn, 1) := by decide +kernel
theorem dX6_back_14 : decode cX6_back 14 = .ok (.aload_n 0, 1) := by decide +kernel
theorem dX6_back_15 : decode cX6_back 15 = .ok (.getfield 10, 3) := by decide +kernel
theorem dX6_back_18 : decode cX6_back 18 = .ok (.aload_n 0, 1) := by decide +kernel
theorem dX6_back_19 : decode cX6_back 19 = .ok (.getfield 16, 3) := by decide +kernel
theorem dX6_back_22 : decode cX6_back 22 = .ok (.invokevirtual 292, 3) := by decide +kernel
theorem dX6_back_25 : decode cX6_back 25 = .ok (.aload_n 0, 1) := by decide +kernel
theorem dX6_back_26 : decode cX6_back 26 = .ok (.getfield 40, 3) := by decide +kernel
theorem dX6_back_29 : decode cX6_back 29 = .ok (.invokevirtual 69, 3) := by decide +kernel
theorem dX6_back_32 : decode cX6_back 32 = .ok (.aload_n 0, 1) := by decide +kernel
theorem dX6_back_33 : decode cX6_back 33 = .ok (.getfield 10, 3) := by decide +kernel
theorem dX6_back_36 : decode cX6_back 36 = .ok (.getfield 104, 3) := by decide +kernel
theorem dX6_back_39 : decode cX6_back 39 = .ok (.ireturn, 1) := by decide +kernel
theorem cv_6_292_b : CV RX6 292 1 0 I_X0_become_b := ⟨⟨⟨gm 765 (by decide +kernel) rfl, gm 768 (by decide +kernel) rfl, gm 38 (by decide +kernel) rfl, mh_0.1, mh_0.2, by decide +kernel⟩, gm 766 (by decide +kernel) rfl, gm 767 (by decide +kernel) rfl⟩, ⟨_, _, rfl⟩, rfl, rfl⟩
def f_X6_back  (S : St) : Option (Int32 × St) := if (rd S 0 2) = 0 then (some (((f_X6_finding (-6 : Int32) S).1), (f_X6_finding (-6 : Int32) S).2)) else ((f_X0_become_b S).bind fun v22 => (some ((rd (f_X1_forget v22) 1 4), (f_X1_forget v22))))
set_option maxRecDepth 100000 in
set_option maxHeartbeats 4000000 in
theorem m_X6_back (l : Launch) (w : Wd)  (S : St)  : J l w I_X6_back 0 [(0, .ref (w.2.1 + 0))] [] S (fun b => (some (.int b.1), b.2)) (f_X6_back S) := by
  unfold f_X6_back
  refine j_aload_n (y := I_X6_back) 0 dX6_back_0 rfl rfl ?_
  refine j_getI (y := I_X6_back) fl_6_19 k_0 rfl dX6_back_1 ?_
  refine j_if_ne (y := I_X6_back) 14 dX6_back_4 (by decide) (fun h4 => ?_) (fun h4 => ?_)
  · refine j_aload_n (y := I_X6_back) 0 dX6_back_14 rfl rfl ?_
    refine j_getR (y := I_X6_back) (j := 1) fl_6_10 k_0 rfl rfl dX6_back_15 ?_
    refine j_aload_n (y := I_X6_back) 0 dX6_back_18 rfl rfl ?_
    refine j_getR (y := I_X6_back) (j := 44) fl_6_16 k_0 rfl rfl dX6_back_19 ?_
    refine j_callVvS (y := I_X6_back) (As := [.ref (w.2.1 + 44)]) cv_6_292_b ⟨Nat.le_of_ble_eq_true rfl, Nat.le_of_ble_eq_true rfl⟩ k_1 rfl (Nat.le_of_ble_eq_true rfl) dX6_back_22 (c_X0_become_b l w S) (fun v22 h22 => ?_)
    refine j_aload_n (y := I_X6_back) 0 dX6_back_25 rfl rfl ?_
    refine j_getR (y := I_X6_back) (j := 101) fl_6_40 k_0 rfl rfl dX6_back_26 ?_
    refine j_callVvT (y := I_X6_back) (As := []) cv_6_69 ⟨Nat.le_of_ble_eq_true rfl, Nat.le_of_ble_eq_true rfl⟩ k_101 rfl (Nat.le_of_ble_eq_true rfl) dX6_back_29 (c_X1_forget l w v22) ?_
    refine j_aload_n (y := I_X6_back) 0 dX6_back_32 rfl rfl ?_
    refine j_getR (y := I_X6_back) (j := 1) fl_6_10 k_0 rfl rfl dX6_back_33 ?_
    refine j_getI (y := I_X6_back) fl_6_104 k_1 rfl dX6_back_36 ?_
    exact j_iret (y := I_X6_back) rfl dX6_back_39 rfl
  · refine j_aload_n (y := I_X6_back) 0 dX6_back_7 rfl rfl ?_
    refine j_bipush (y := I_X6_back) (v := -6) dX6_back_8 (by decide) ?_
    refine j_callViT (y := I_X6_back) (As := [.int (-6 : Int32)]) cv_6_52 ⟨Nat.le_of_ble_eq_true rfl, Nat.le_of_ble_eq_true rfl⟩ k_0 rfl (Nat.le_of_ble_eq_true rfl) dX6_back_10 (c_X6_finding l w (-6 : Int32) S) ?_
    exact j_iret (y := I_X6_back) rfl dX6_back_13 rfl
theorem c_X6_back (l : Launch) (w : Wd)  (S : St)  : ∀ v, f_X6_back S = some v → CtS l w I_X6_back [.ref (w.2.1 + 0)] S v.2 (some (.int v.1)) := fun v h => J.ct (av := [.ref (w.2.1 + 0)]) (Nat.le_of_ble_eq_true rfl) pn_6 (m_X6_back l w  S ) h
abbrev I_X6_best : MI := (yX6_best, cX6_best, 1, some .int, { frames := 4, cells := 0, slots := 0, locals := 90 })
theorem dX6_best_0 : decode cX6_best 0 = .ok (.aload_n 0, 1) := by decide +kernel
theorem dX6_best_1 : decode cX6_best 1 = .ok (.getfield 40, 3) := by decide +kernel
theorem dX6_best_4 : decode cX6_best 4 = .ok (.getfield 267, 3) := by decide +kernel
theorem dX6_best_7 : decode cX6_best 7 = .ok (.ifCond .eq 11, 3) := by decide +kernel
theorem dX6_best_10 : decode cX6_best 10 = .ok (.aload_n 0, 1) := by decide +kernel
theorem dX6_best_11 : decode cX6_best 11 = .ok (.getfield 40, 3) := by decide +kernel
theorem dX6_best_14 : decode cX6_best 14 = .ok (.getfield 270, 3) := by decide +kernel
theorem dX6_best_17 : decode cX6_best 17 = .ok (.ireturn, 1) := by decide +kernel
theorem dX6_best_18 : decode cX6_best 18 = .ok (.aload_n 0, 1) := by decide +kernel
theorem dX6_best_19 : decode cX6_best 19 = .ok (.getfield 40, 3) := by decide +kernel
theorem dX6_best_22 : decode cX6_best 22 = .ok (.aload_n 0, 1) := by decide +kernel
theorem dX6_best_23 : decode cX6_best 23 = .ok (.getfield 10, 3) := by decide +kernel
theorem dX6_best_26 : decode cX6_best 26 = .ok (.invokevirtual 273, 3) := by decide +kernel
theorem dX6_best_29 : decode cX6_best 29 = .ok (.aload_n 0, 1) := by decide +kernel
theorem dX6_best_30 : decode cX6_best 30 = .ok (.getfield 10, 3) := by decide +kernel
theorem dX6_best_33 : decode cX6_best 33 = .ok (.getfield 56, 3) := by decide +kernel
theorem dX6_best_36 : decode cX6_best 36 = .ok (.ifCond .eq 13, 3) := by decide +kernel
theorem dX6_best_39 : decode cX6_best 39 = .ok (.aload_n 0, 1) := by decide +kernel
theorem dX6_best_40 : decode cX6_best 40 = .ok (.getfield 40, 3) := by decide +kernel
theorem dX6_best_43 : decode cX6_best 43 = .ok (.getfield 276, 3) := by decide +kernel
theorem dX6_best_46 : decode cX6_best 46 = .ok (.ifCond .ne 10, 3) := by decide +kernel
theorem dX6_best_49 : decode cX6_best 49 = .ok (.aload_n 0, 1) := by decide +kernel
theorem dX6_best_50 : decode cX6_best 50 = .ok (.bipush (-6), 2) := by decide +kernel
theorem dX6_best_52 : decode cX6_best 52 = .ok (.invokevirtual 52, 3) := by decide +kernel
theorem dX6_best_55 : decode cX6_best 55 = .ok (.ireturn, 1) := by decide +kernel
theorem dX6_best_56 : decode cX6_best 56 = .ok (.aload_n 0, 1) := by decide +kernel
theorem dX6_best_57 : decode cX6_best 57 = .ok (.getfield 40, 3) := by decide +kernel
theorem dX6_best_60 : decode cX6_best 60 = .ok (.invokevirtual 279, 3) := by decide +kernel
theorem dX6_best_63 : decode cX6_best 63 = .ok (.sipush 5000, 3) := by decide +kernel
theorem dX6_best_66 : decode cX6_best 66 = .ok (.if_icmp .le 10, 3) := by decide +kernel
theorem dX6_best_69 : decode cX6_best 69 = .ok (.aload_n 0, 1) := by decide +kernel
theorem dX6_best_70 : decode cX6_best 70 = .ok (.bipush (-8), 2) := by decide +kernel
theorem dX6_best_72 : decode cX6_best 72 = .ok (.invokevirtual 52, 3) := by decide +kernel
theorem dX6_best_75 : decode cX6_best 75 = .ok (.ireturn, 1) := by decide +kernel
theorem dX6_best_76 : decode cX6_best 76 = .ok (.aload_n 0, 1) := by decide +kernel
theorem dX6_best_77 : decode cX6_best 77 = .ok (.getfield 33, 3) := by decide +kernel
theorem dX6_best_80 : decode cX6_best 80 = .ok (.aload_n 0, 1) := by decide +kernel
theorem dX6_best_81 : decode cX6_best 81 = .ok (.getfield 10, 3) := by decide +kernel
theorem dX6_best_84 : decode cX6_best 84 = .ok (.invokevirtual 259, 3) := by decide +kernel
theorem dX6_best_87 : decode cX6_best 87 = .ok (.aload_n 0, 1) := by decide +kernel
theorem dX6_best_88 : decode cX6_best 88 = .ok (.getfield 40, 3) := by decide +kernel
theorem dX6_best_91 : decode cX6_best 91 = .ok (.aload_n 0, 1) := by decide +kernel
theorem dX6_best_92 : decode cX6_best 92 = .ok (.getfield 10, 3) := by decide +kernel
theorem dX6_best_95 : decode cX6_best 95 = .ok (.aload_n 0, 1) := by decide +kernel
theorem dX6_best_96 : decode cX6_best 96 = .ok (.getfield 33, 3) := by decide +kernel
theorem dX6_best_99 : decode cX6_best 99 = .ok (.invokevirtual 282, 3) := by decide +kernel
theorem dX6_best_102 : decode cX6_best 102 = .ok (.aload_n 0, 1) := by decide +kernel
theorem dX6_best_103 : decode cX6_best 103 = .ok (.getfield 40, 3) := by decide +kernel
theorem dX6_best_106 : decode cX6_best 106 = .ok (.invokevirtual 286, 3) := by decide +kernel
theorem dX6_best_109 : decode cX6_best 109 = .ok (.aload_n 0, 1) := by decide +kernel
theorem dX6_best_110 : decode cX6_best 110 = .ok (.getfield 40, 3) := by decide +kernel
theorem dX6_best_113 : decode cX6_best 113 = .ok (.getfield 270, 3) := by decide +kernel
theorem dX6_best_116 : decode cX6_best 116 = .ok (.ireturn, 1) := by decide +kernel
theorem cv_6_259 : CV RX6 259 1 3 I_X3_readTable := ⟨⟨⟨gm 701 (by decide +kernel) rfl, gm 704 (by decide +kernel) rfl, gm 42 (by decide +kernel) rfl, mh_3.1, mh_3.2, by decide +kernel⟩, gm 702 (by decide +kernel) rfl, gm 703 (by decide +kernel) rfl⟩, ⟨_, _, rfl⟩, rfl, rfl⟩
theorem cv_6_273 : CV RX6 273 1 1 I_X1_gather := ⟨⟨⟨gm 722 (by decide +kernel) rfl, gm 725 (by decide +kernel) rfl, gm 43 (by decide +kernel) rfl, mh_1.1, mh_1.2, by decide +kernel⟩, gm 723 (by decide +kernel) rfl, gm 724 (by decide +kernel) rfl⟩, ⟨_, _, rfl⟩, rfl, rfl⟩
theorem cv_6_279 : CV RX6 279 0 1 I_X1_countGivings := ⟨⟨⟨gm 731 (by decide +kernel) rfl, gm 734 (by decide +kernel) rfl, gm 43 (by decide +kernel) rfl, mh_1.1, mh_1.2, by decide +kernel⟩, gm 732 (by decide +kernel) rfl, gm 733 (by decide +kernel) rfl⟩, ⟨_, _, rfl⟩, rfl, rfl⟩
theorem cv_6_282 : CV RX6 282 2 1 I_X1_weighSorts := ⟨⟨⟨gm 735 (by decide +kernel) rfl, gm 738 (by decide +kernel) rfl, gm 43 (by decide +kernel) rfl, mh_1.1, mh_1.2, by decide +kernel⟩, gm 736 (by decide +kernel) rfl, gm 737 (by decide +kernel) rfl⟩, ⟨_, _, rfl⟩, rfl, rfl⟩
theorem cv_6_286 : CV RX6 286 0 1 I_X1_choose := ⟨⟨⟨gm 741 (by decide +kernel) rfl, gm 744 (by decide +kernel) rfl, gm 43 (by decide +kernel) rfl, mh_1.1, mh_1.2, by decide +kernel⟩, gm 742 (by decide +kernel) rfl, gm 743 (by decide +kernel) rfl⟩, ⟨_, _, rfl⟩, rfl, rfl⟩
def f_X6_best  (S : St) : Option (Int32 × St) := if (rd S 101 0) = 0 then ((f_X1_gather S).bind fun v26 => (if (rd v26 1 1) = 0 then (some (((f_X6_finding (-6 : Int32) v26).1), (f_X6_finding (-6 : Int32) v26).2)) else (if (rd v26 101 2) = 0 then (some (((f_X6_finding (-6 : Int32) v26).1), (f_X6_finding (-6 : Int32) v26).2)) else ((f_X1_countGivings v26).bind fun v60 => (if (5000 : Int32) < v60 then (some (((f_X6_finding (-8 : Int32) v26).1), (f_X6_finding (-8 : Int32) v26).2)) else ((f_X3_readTable v26).bind fun v84 => ((f_X1_weighSorts v84).bind fun v99 => ((f_X1_choose v99).bind fun v106 => (some ((rd v106 101 1), v106)))))))))) else (some ((rd S 101 1), S))
set_option maxRecDepth 100000 in
set_option maxHeartbeats 4000000 in
theorem m_X6_best (l : Launch) (w : Wd)  (S : St)  : J l w I_X6_best 0 [(0, .ref (w.2.1 + 0))] [] S (fun b => (some (.int b.1), b.2)) (f_X6_best S) := by
  unfold f_X6_best
  refine j_aload_n (y := I_X6_best) 0 dX6_best_0 rfl rfl ?_
  refine j_getR (y := I_X6_best) (j := 101) fl_6_40 k_0 rfl rfl dX6_best_1 ?_
  refine j_getI (y := I_X6_best) fl_6_267 k_101 rfl dX6_best_4 ?_
  refine j_if_eq (y := I_X6_best) 18 dX6_best_7 (by decide) (fun h7 => ?_) (fun h7 => ?_)
  · refine j_aload_n (y := I_X6_best) 0 dX6_best_18 rfl rfl ?_
    refine j_getR (y := I_X6_best) (j := 101) fl_6_40 k_0 rfl rfl dX6_best_19 ?_
    refine j_aload_n (y := I_X6_best) 0 dX6_best_22 rfl rfl ?_
    refine j_getR (y := I_X6_best) (j := 1) fl_6_10 k_0 rfl rfl dX6_best_23 ?_
    refine j_callVvS (y := I_X6_best) (As := [.ref (w.2.1 + 1)]) cv_6_273 ⟨Nat.le_of_ble_eq_true rfl, Nat.le_of_ble_eq_true rfl⟩ k_101 rfl (Nat.le_of_ble_eq_true rfl) dX6_best_26 (c_X1_gather l w S) (fun v26 h26 => ?_)
    refine j_aload_n (y := I_X6_best) 0 dX6_best_29 rfl rfl ?_
    refine j_getR (y := I_X6_best) (j := 1) fl_6_10 k_0 rfl rfl dX6_best_30 ?_
    refine j_getI (y := I_X6_best) fl_6_56 k_1 rfl dX6_best_33 ?_
    refine j_if_eq (y := I_X6_best) 49 dX6_best_36 (by decide) (fun h36 => ?_) (fun h36 => ?_)
    · refine j_aload_n (y := I_X6_best) 0 dX6_best_49 rfl rfl ?_
      refine j_bipush (y := I_X6_best) (v := -6) dX6_best_50 (by decide) ?_
      refine j_callViT (y := I_X6_best) (As := [.int (-6 : Int32)]) cv_6_52 ⟨Nat.le_of_ble_eq_true rfl, Nat.le_of_ble_eq_true rfl⟩ k_0 rfl (Nat.le_of_ble_eq_true rfl) dX6_best_52 (c_X6_finding l w (-6 : Int32) v26) ?_
      exact j_iret (y := I_X6_best) rfl dX6_best_55 rfl
    · refine j_aload_n (y := I_X6_best) 0 dX6_best_39 rfl rfl ?_
      refine j_getR (y := I_X6_best) (j := 101) fl_6_40 k_0 rfl rfl dX6_best_40 ?_
      refine j_getI (y := I_X6_best) fl_6_276 k_101 rfl dX6_best_43 ?_
      refine j_if_ne (y := I_X6_best) 56 dX6_best_46 (by decide) (fun h46 => ?_) (fun h46 => ?_)
      · refine j_aload_n (y := I_X6_best) 0 dX6_best_56 rfl rfl ?_
        refine j_getR (y := I_X6_best) (j := 101) fl_6_40 k_0 rfl rfl dX6_best_57 ?_
        refine j_callViR (y := I_X6_best) (As := []) cv_6_279 ⟨Nat.le_of_ble_eq_true rfl, Nat.le_of_ble_eq_true rfl⟩ k_101 rfl (Nat.le_of_ble_eq_true rfl) dX6_best_60 (c_X1_countGivings l w v26) (fun v60 h60 => ?_)
        refine j_sipush (y := I_X6_best) (v := 5000) dX6_best_63 (by decide) ?_
        refine j_icmp_le (y := I_X6_best) 76 dX6_best_66 (by decide) (fun h66 => ?_) (fun h66 => ?_)
        · refine j_aload_n (y := I_X6_best) 0 dX6_best_76 rfl rfl ?_
          refine j_getR (y := I_X6_best) (j := 96) fl_6_33 k_0 rfl rfl dX6_best_77 ?_
          refine j_aload_n (y := I_X6_best) 0 dX6_best_80 rfl rfl ?_
          refine j_getR (y := I_X6_best) (j := 1) fl_6_10 k_0 rfl rfl dX6_best_81 ?_
          refine j_callVvS (y := I_X6_best) (As := [.ref (w.2.1 + 1)]) cv_6_259 ⟨Nat.le_of_ble_eq_true rfl, Nat.le_of_ble_eq_true rfl⟩ k_96 rfl (Nat.le_of_ble_eq_true rfl) dX6_best_84 (c_X3_readTable l w v26) (fun v84 h84 => ?_)
          refine j_aload_n (y := I_X6_best) 0 dX6_best_87 rfl rfl ?_
          refine j_getR (y := I_X6_best) (j := 101) fl_6_40 k_0 rfl rfl dX6_best_88 ?_
          refine j_aload_n (y := I_X6_best) 0 dX6_best_91 rfl rfl ?_
          refine j_getR (y := I_X6_best) (j := 1) fl_6_10 k_0 rfl rfl dX6_best_92 ?_
          refine j_aload_n (y := I_X6_best) 0 dX6_best_95 rfl rfl ?_
          refine j_getR (y := I_X6_best) (j := 96) fl_6_33 k_0 rfl rfl dX6_best_96 ?_
          refine j_callVvS (y := I_X6_best) (As := [.ref (w.2.1 + 1), .ref (w.2.1 + 96)]) cv_6_282 ⟨Nat.le_of_ble_eq_true rfl, Nat.le_of_ble_eq_true rfl⟩ k_101 rfl (Nat.le_of_ble_eq_true rfl) dX6_best_99 (c_X1_weighSorts l w v84) (fun v99 h99 => ?_)
          refine j_aload_n (y := I_X6_best) 0 dX6_best_102 rfl rfl ?_
          refine j_getR (y := I_X6_best) (j := 101) fl_6_40 k_0 rfl rfl dX6_best_103 ?_
          refine j_callVvS (y := I_X6_best) (As := []) cv_6_286 ⟨Nat.le_of_ble_eq_true rfl, Nat.le_of_ble_eq_true rfl⟩ k_101 rfl (Nat.le_of_ble_eq_true rfl) dX6_best_106 (c_X1_choose l w v99) (fun v106 h106 => ?_)
          refine j_aload_n (y := I_X6_best) 0 dX6_best_109 rfl rfl ?_
          refine j_getR (y := I_X6_best) (j := 101) fl_6_40 k_0 rfl rfl dX6_best_110 ?_
          refine j_getI (y := I_X6_best) fl_6_270 k_101 rfl dX6_best_113 ?_
          exact j_iret (y := I_X6_best) rfl dX6_best_116 rfl
        · refine j_aload_n (y := I_X6_best) 0 dX6_best_69 rfl rfl ?_
          refine j_bipush (y := I_X6_best) (v := -8) dX6_best_70 (by decide) ?_
          refine j_callViT (y := I_X6_best) (As := [.int (-8 : Int32)]) cv_6_52 ⟨Nat.le_of_ble_eq_true rfl, Nat.le_of_ble_eq_true rfl⟩ k_0 rfl (Nat.le_of_ble_eq_true rfl) dX6_best_72 (c_X6_finding l w (-8 : Int32) v26) ?_
          exact j_iret (y := I_X6_best) rfl dX6_best_75 rfl
      · refine j_aload_n (y := I_X6_best) 0 dX6_best_49 rfl rfl ?_
        refine j_bipush (y := I_X6_best) (v := -6) dX6_best_50 (by decide) ?_
        refine j_callViT (y := I_X6_best) (As := [.int (-6 : Int32)]) cv_6_52 ⟨Nat.le_of_ble_eq_true rfl, Nat.le_of_ble_eq_true rfl⟩ k_0 rfl (Nat.le_of_ble_eq_true rfl) dX6_best_52 (c_X6_finding l w (-6 : Int32) v26) ?_
        exact j_iret (y := I_X6_best) rfl dX6_best_55 rfl
  · refine j_aload_n (y := I_X6_best) 0 dX6_best_10 rfl rfl ?_
    refine j_getR (y := I_X6_best) (j := 101) fl_6_40 k_0 rfl rfl dX6_best_11 ?_
    refine j_getI (y := I_X6_best) fl_6_270 k_101 rfl dX6_best_14 ?_
    exact j_iret (y := I_X6_best) rfl dX6_best_17 rfl
theorem c_X6_best (l : Launch) (w : Wd)  (S : St)  : ∀ v, f_X6_best S = some v → CtS l w I_X6_best [.ref (w.2.1 + 0)] S v.2 (some (.int v.1)) := fun v h => J.ct (av := [.ref (w.2.1 + 0)]) (Nat.le_of_ble_eq_true rfl) pn_6 (m_X6_best l w  S ) h
abbrev I_X6_isSort : MI := (yX6_isSort, cX6_isSort, 2, some .boolean, { frames := 1, cells := 0, slots := 0, locals := 22 })
theorem dX6_isSort_0 : decode cX6_isSort 0 = .ok (.iload_n 1, 1) := by decide +kernel
theorem dX6_isSort_1 : decode cX6_isSort 1 = .ok (.iconst 0, 1) := by decide +kernel
theorem dX6_isSort_2 : decode cX6_isSort 2 = .ok (.aload_n 0, 1) := by decide +kernel
theorem dX6_isSort_3 : decode cX6_isSort 3 = .ok (.getfield 10, 3) := by decide +kernel
theorem dX6_isSort_6 : decode cX6_isSort 6 = .ok (.getfield 56, 3) := by decide +kernel
theorem dX6_isSort_9 : decode cX6_isSort 9 = .ok (.iconst 1, 1) := by decide +kernel
theorem dX6_isSort_10 : decode cX6_isSort 10 = .ok (.isub, 1) := by decide +kernel
theorem dX6_isSort_11 : decode cX6_isSort 11 = .ok (.invokestatic 48, 3) := by decide +kernel
theorem dX6_isSort_14 : decode cX6_isSort 14 = .ok (.ireturn, 1) := by decide +kernel
def f_X6_isSort (x1 : Int32) (S : St) : Bool := (f_X6_within x1 (0 : Int32) ((rd S 1 1) - (1 : Int32)))
set_option maxRecDepth 100000 in
set_option maxHeartbeats 4000000 in
theorem m_X6_isSort (l : Launch) (w : Wd) (x1 : Int32) (S : St)  : J l w I_X6_isSort 0 [(0, .ref (w.2.1 + 0)), (1, .int x1)] [] S (fun b => (some (.int (b2i b)), S)) (some (f_X6_isSort x1 S)) := by
  unfold f_X6_isSort
  refine j_iload_n (y := I_X6_isSort) 1 dX6_isSort_0 rfl rfl ?_
  refine j_iconst (y := I_X6_isSort) (v := 0) dX6_isSort_1 (by decide) ?_
  refine j_aload_n (y := I_X6_isSort) 0 dX6_isSort_2 rfl rfl ?_
  refine j_getR (y := I_X6_isSort) (j := 1) fl_6_10 k_0 rfl rfl dX6_isSort_3 ?_
  refine j_getI (y := I_X6_isSort) fl_6_56 k_1 rfl dX6_isSort_6 ?_
  refine j_iconst (y := I_X6_isSort) (v := 1) dX6_isSort_9 (by decide) ?_
  refine j_isub (y := I_X6_isSort) dX6_isSort_10 ?_
  refine j_callSzT (y := I_X6_isSort) (As := [.int x1, .int (0 : Int32), .int ((rd S 1 1) - (1 : Int32))]) cv_6_48 ⟨Nat.le_of_ble_eq_true rfl, Nat.le_of_ble_eq_true rfl⟩ rfl (Nat.le_of_ble_eq_true rfl) dX6_isSort_11 (c_X6_within l w x1 (0 : Int32) ((rd S 1 1) - (1 : Int32)) S) ?_
  exact j_zret (y := I_X6_isSort) (q := (f_X6_within x1 (0 : Int32) ((rd S 1 1) - (1 : Int32)))) rfl rfl dX6_isSort_14 rfl
theorem c_X6_isSort (l : Launch) (w : Wd) (x1 : Int32) (S : St)  : CtS l w I_X6_isSort [.ref (w.2.1 + 0), .int x1] S S (some (.int (b2i (f_X6_isSort x1 S)))) := J.ct (av := [.ref (w.2.1 + 0), .int x1]) (Nat.le_of_ble_eq_true rfl) pn_6 (m_X6_isSort l w x1 S ) rfl
abbrev I_X6_namedSheet : MI := (yX6_namedSheet, cX6_namedSheet, 1, some (.object "OrchardBook$Sheet"), { frames := 2, cells := 0, slots := 0, locals := 42 })
theorem dX6_namedSheet_0 : decode cX6_namedSheet 0 = .ok (.aload_n 0, 1) := by decide +kernel
theorem dX6_namedSheet_1 : decode cX6_namedSheet 1 = .ok (.getfield 10, 3) := by decide +kernel
theorem dX6_namedSheet_4 : decode cX6_namedSheet 4 = .ok (.getfield 179, 3) := by decide +kernel
theorem dX6_namedSheet_7 : decode cX6_namedSheet 7 = .ok (.invokestatic 146, 3) := by decide +kernel
theorem dX6_namedSheet_10 : decode cX6_namedSheet 10 = .ok (.ifCond .eq 18, 3) := by decide +kernel
theorem dX6_namedSheet_13 : decode cX6_namedSheet 13 = .ok (.aload_n 0, 1) := by decide +kernel
theorem dX6_namedSheet_14 : decode cX6_namedSheet 14 = .ok (.getfield 25, 3) := by decide +kernel
theorem dX6_namedSheet_17 : decode cX6_namedSheet 17 = .ok (.aload_n 0, 1) := by decide +kernel
theorem dX6_namedSheet_18 : decode cX6_namedSheet 18 = .ok (.getfield 10, 3) := by decide +kernel
theorem dX6_namedSheet_21 : decode cX6_namedSheet 21 = .ok (.getfield 179, 3) := by decide +kernel
theorem dX6_namedSheet_24 : decode cX6_namedSheet 24 = .ok (.aaload, 1) := by decide +kernel
theorem dX6_namedSheet_25 : decode cX6_namedSheet 25 = .ok (.goto 4, 3) := by decide +kernel
theorem dX6_namedSheet_28 : decode cX6_namedSheet 28 = .ok (.aconst_null, 1) := by decide +kernel
theorem dX6_namedSheet_29 : decode cX6_namedSheet 29 = .ok (.areturn, 1) := by decide +kernel
theorem cv_6_146 : CS RX6 146 1 I_X6_isSheet := ⟨⟨⟨gm 437 (by decide +kernel) rfl, gm 439 (by decide +kernel) rfl, gm 37 (by decide +kernel) rfl, mh_6.1, mh_6.2, by decide +kernel⟩, gm 438 (by decide +kernel) rfl⟩, rfl, rfl⟩
def f_X6_namedSheet  (S : St) : Option (Option Nat) := if (f_X6_isSheet (rd S 1 10)) = true then (if inb (rd S 1 10) 4 = true then (some (some (88 + 2 * ix (rd S 1 10)))) else none) else (some none)
set_option maxRecDepth 100000 in
set_option maxHeartbeats 4000000 in
theorem m_X6_namedSheet (l : Launch) (w : Wd)  (S : St)  : J l w I_X6_namedSheet 0 [(0, .ref (w.2.1 + 0))] [] S (fun b => (some (va_rf (Option.map (fun j => w.2.1 + j) b)), S)) (f_X6_namedSheet S) := by
  unfold f_X6_namedSheet
  refine j_aload_n (y := I_X6_namedSheet) 0 dX6_namedSheet_0 rfl rfl ?_
  refine j_getR (y := I_X6_namedSheet) (j := 1) fl_6_10 k_0 rfl rfl dX6_namedSheet_1 ?_
  refine j_getI (y := I_X6_namedSheet) fl_6_179 k_1 rfl dX6_namedSheet_4 ?_
  refine j_callSzT (y := I_X6_namedSheet) (As := [.int (rd S 1 10)]) cv_6_146 ⟨Nat.le_of_ble_eq_true rfl, Nat.le_of_ble_eq_true rfl⟩ rfl (Nat.le_of_ble_eq_true rfl) dX6_namedSheet_7 (c_X6_isSheet l w (rd S 1 10) S) ?_
  refine j_if_eqB (y := I_X6_namedSheet) 28 dX6_namedSheet_10 (by decide) (fun h10 => ?_) (fun h10 => ?_)
  · refine j_null (y := I_X6_namedSheet) dX6_namedSheet_28 ?_
    exact j_aret (y := I_X6_namedSheet) rfl dX6_namedSheet_29 (Or.inl ⟨_, rfl⟩) (Or.inl rfl) rfl
  · refine j_aload_n (y := I_X6_namedSheet) 0 dX6_namedSheet_13 rfl rfl ?_
    refine j_getR (y := I_X6_namedSheet) (j := 87) fl_6_25 k_0 rfl rfl dX6_namedSheet_14 ?_
    refine j_aload_n (y := I_X6_namedSheet) 0 dX6_namedSheet_17 rfl rfl ?_
    refine j_getR (y := I_X6_namedSheet) (j := 1) fl_6_10 k_0 rfl rfl dX6_namedSheet_18 ?_
    refine j_getI (y := I_X6_namedSheet) fl_6_179 k_1 rfl dX6_namedSheet_21 ?_
    refine j_aald (y := I_X6_namedSheet) (j := (88 + 2 * ix (rd S 1 10))) (tt := 2) k_87 rfl (rho_87 _) dX6_namedSheet_24 (fun h24 => ?_)
    refine j_goto (y := I_X6_namedSheet) 29 dX6_namedSheet_25 (by decide) ?_
    exact j_aret (y := I_X6_namedSheet) rfl dX6_namedSheet_29 (Or.inl ⟨_, rfl⟩) (Or.inr ⟨_, rfl⟩) rfl
theorem c_X6_namedSheet (l : Launch) (w : Wd)  (S : St)  : ∀ v, f_X6_namedSheet S = some v → CtS l w I_X6_namedSheet [.ref (w.2.1 + 0)] S S (some (va_rf (Option.map (fun j => w.2.1 + j) v))) := fun v h => J.ct (av := [.ref (w.2.1 + 0)]) (Nat.le_of_ble_eq_true rfl) pn_6 (m_X6_namedSheet l w  S ) h
theorem hq_X6_namedSheet (S : St) (v : Option Nat) (h : f_X6_namedSheet S = some v) : ∀ u, v = some u → kd u = KdSheet := by
  intro u hu
  unfold f_X6_namedSheet at h
  repeat (split at h)
  all_goals (first | (cases h; done) | (cases h; cases hu; done) | (cases h; cases hu; exact kd_Sh _ (inb_lt (by assumption))))
abbrev I_X6_blooms : MI := (yX6_blooms, cX6_blooms, 2, some .int, { frames := 5, cells := 0, slots := 0, locals := 112 })
theorem dX6_blooms_0 : decode cX6_blooms 0 = .ok (.aload_n 0, 1) := by decide +kernel
theorem dX6_blooms_1 : decode cX6_blooms 1 = .ok (.iload_n 1, 1) := by decide +kernel
theorem dX6_blooms_2 : decode cX6_blooms 2 = .ok (.invokevirtual 72, 3) := by decide +kernel
theorem dX6_blooms_5 : decode cX6_blooms 5 = .ok (.ifCond .ne 9, 3) := by decide +kernel
theorem dX6_blooms_8 : decode cX6_blooms 8 = .ok (.aload_n 0, 1) := by decide +kernel
theorem dX6_blooms_9 : decode cX6_blooms 9 = .ok (.iconst (-1), 1) := by decide +kernel
theorem dX6_blooms_10 : decode cX6_blooms 10 = .ok (.invokevirtual 52, 3) := by decide +kernel
theorem dX6_blooms_13 : decode cX6_blooms 13 = .ok (.ireturn, 1) := by decide +kernel
theorem dX6_blooms_14 : decode cX6_blooms 14 = .ok (.aload_n 0, 1) := by decide +kernel
theorem dX6_blooms_15 : decode cX6_blooms 15 = .ok (.getfield 33, 3) := by decide +kernel
theorem dX6_blooms_18 : decode cX6_blooms 18 = .ok (.aload_n 0, 1) := by decide +kernel
theorem dX6_blooms_19 : decode cX6_blooms 19 = .ok (.getfield 10, 3) := by decide +kernel
theorem dX6_blooms_22 : decode cX6_blooms 22 = .ok (.aload_n 0, 1) := by decide +kernel
theorem dX6_blooms_23 : decode cX6_blooms 23 = .ok (.invokevirtual 185, 3) := by decide +kernel
theorem dX6_blooms_26 : decode cX6_blooms 26 = .ok (.invokevirtual 193, 3) := by decide +kernel
theorem dX6_blooms_29 : decode cX6_blooms 29 = .ok (.aload_n 0, 1) := by decide +kernel
theorem dX6_blooms_30 : decode cX6_blooms 30 = .ok (.getfield 33, 3) := by decide +kernel
theorem dX6_blooms_33 : decode cX6_blooms 33 = .ok (.iload_n 1, 1) := by decide +kernel
theorem dX6_blooms_34 : decode cX6_blooms 34 = .ok (.invokevirtual 200, 3) := by decide +kernel
theorem dX6_blooms_37 : decode cX6_blooms 37 = .ok (.ifCond .eq 15, 3) := by decide +kernel
theorem dX6_blooms_40 : decode cX6_blooms 40 = .ok (.aload_n 0, 1) := by decide +kernel
theorem dX6_blooms_41 : decode cX6_blooms 41 = .ok (.getfield 33, 3) := by decide +kernel
theorem dX6_blooms_44 : decode cX6_blooms 44 = .ok (.getfield 203, 3) := by decide +kernel
theorem dX6_blooms_47 : decode cX6_blooms 47 = .ok (.iload_n 1, 1) := by decide +kernel
theorem dX6_blooms_48 : decode cX6_blooms 48 = .ok (.iaload, 1) := by decide +kernel
theorem dX6_blooms_49 : decode cX6_blooms 49 = .ok (.goto 9, 3) := by decide +kernel
theorem dX6_blooms_52 : decode cX6_blooms 52 = .ok (.aload_n 0, 1) := by decide +kernel
theorem dX6_blooms_53 : decode cX6_blooms 53 = .ok (.bipush (-6), 2) := by decide +kernel
theorem dX6_blooms_55 : decode cX6_blooms 55 = .ok (.invokevirtual 52, 3) := by decide +kernel
theorem dX6_blooms_58 : decode cX6_blooms 58 = .ok (.ireturn, 1) := by decide +kernel
theorem cv_6_185 : CV RX6 185 0 6 I_X6_namedSheet := ⟨⟨⟨gm 488 (by decide +kernel) rfl, gm 491 (by decide +kernel) rfl, gm 37 (by decide +kernel) rfl, mh_6.1, mh_6.2, by decide +kernel⟩, gm 490 (by decide +kernel) rfl, gm 2 (by decide +kernel) rfl⟩, ⟨_, _, rfl⟩, rfl, rfl⟩
theorem cv_6_193 : CV RX6 193 2 3 I_X3_readYear := ⟨⟨⟨gm 524 (by decide +kernel) rfl, gm 527 (by decide +kernel) rfl, gm 42 (by decide +kernel) rfl, mh_3.1, mh_3.2, by decide +kernel⟩, gm 525 (by decide +kernel) rfl, gm 526 (by decide +kernel) rfl⟩, ⟨_, _, rfl⟩, rfl, rfl⟩
theorem cv_6_200 : CV RX6 200 1 3 I_X3_hasBloom := ⟨⟨⟨gm 537 (by decide +kernel) rfl, gm 540 (by decide +kernel) rfl, gm 42 (by decide +kernel) rfl, mh_3.1, mh_3.2, by decide +kernel⟩, gm 538 (by decide +kernel) rfl, gm 539 (by decide +kernel) rfl⟩, ⟨_, _, rfl⟩, rfl, rfl⟩
theorem cv_6_72 : CV RX6 72 1 6 I_X6_isSort := ⟨⟨⟨gm 347 (by decide +kernel) rfl, gm 350 (by decide +kernel) rfl, gm 37 (by decide +kernel) rfl, mh_6.1, mh_6.2, by decide +kernel⟩, gm 349 (by decide +kernel) rfl, gm 1 (by decide +kernel) rfl⟩, ⟨_, _, rfl⟩, rfl, rfl⟩
def f_X6_blooms (x1 : Int32) (S : St) : Option (Int32 × St) := if (f_X6_isSort x1 S) = true then ((f_X6_namedSheet S).bind fun v23 => ((f_X3_readYear v23 S).bind fun v26 => ((f_X3_hasBloom x1 v26).bind fun v34 => (if v34 = true then (if inb x1 6 = true then (some ((rd v26 99 (ix x1)), v26)) else none) else (some (((f_X6_finding (-6 : Int32) v26).1), (f_X6_finding (-6 : Int32) v26).2)))))) else (some (((f_X6_finding (-1 : Int32) S).1), (f_X6_finding (-1 : Int32) S).2))
set_option maxRecDepth 100000 in
set_option maxHeartbeats 4000000 in
theorem m_X6_blooms (l : Launch) (w : Wd) (x1 : Int32) (S : St)  : J l w I_X6_blooms 0 [(0, .ref (w.2.1 + 0)), (1, .int x1)] [] S (fun b => (some (.int b.1), b.2)) (f_X6_blooms x1 S) := by
  unfold f_X6_blooms
  refine j_aload_n (y := I_X6_blooms) 0 dX6_blooms_0 rfl rfl ?_
  refine j_iload_n (y := I_X6_blooms) 1 dX6_blooms_1 rfl rfl ?_
  refine j_callVzT (y := I_X6_blooms) (As := [.int x1]) cv_6_72 ⟨Nat.le_of_ble_eq_true rfl, Nat.le_of_ble_eq_true rfl⟩ k_0 rfl (Nat.le_of_ble_eq_true rfl) dX6_blooms_2 (c_X6_isSort l w x1 S) ?_
  refine j_if_neB (y := I_X6_blooms) 14 dX6_blooms_5 (by decide) (fun h5 => ?_) (fun h5 => ?_)
  · refine j_aload_n (y := I_X6_blooms) 0 dX6_blooms_14 rfl rfl ?_
    refine j_getR (y := I_X6_blooms) (j := 96) fl_6_33 k_0 rfl rfl dX6_blooms_15 ?_
    refine j_aload_n (y := I_X6_blooms) 0 dX6_blooms_18 rfl rfl ?_
    refine j_getR (y := I_X6_blooms) (j := 1) fl_6_10 k_0 rfl rfl dX6_blooms_19 ?_
    refine j_aload_n (y := I_X6_blooms) 0 dX6_blooms_22 rfl rfl ?_
    refine j_callVqR (y := I_X6_blooms) (As := []) cv_6_185 ⟨Nat.le_of_ble_eq_true rfl, Nat.le_of_ble_eq_true rfl⟩ k_0 rfl (Nat.le_of_ble_eq_true rfl) dX6_blooms_23 (c_X6_namedSheet l w S) (fun v23 h23 => ?_)
    refine j_callVvS (y := I_X6_blooms) (As := [.ref (w.2.1 + 1), va_rf (Option.map (fun j => w.2.1 + j) v23)]) cv_6_193 ⟨Nat.le_of_ble_eq_true rfl, Nat.le_of_ble_eq_true rfl⟩ k_96 rfl (Nat.le_of_ble_eq_true rfl) dX6_blooms_26 (c_X3_readYear l w v23 S (hq_X6_namedSheet S v23 h23)) (fun v26 h26 => ?_)
    refine j_aload_n (y := I_X6_blooms) 0 dX6_blooms_29 rfl rfl ?_
    refine j_getR (y := I_X6_blooms) (j := 96) fl_6_33 k_0 rfl rfl dX6_blooms_30 ?_
    refine j_iload_n (y := I_X6_blooms) 1 dX6_blooms_33 rfl rfl ?_
    refine j_callVzR (y := I_X6_blooms) (As := [.int x1]) cv_6_200 ⟨Nat.le_of_ble_eq_true rfl, Nat.le_of_ble_eq_true rfl⟩ k_96 rfl (Nat.le_of_ble_eq_true rfl) dX6_blooms_34 (c_X3_hasBloom l w x1 v26) (fun v34 h34 => ?_)
    refine j_if_eqB (y := I_X6_blooms) 52 dX6_blooms_37 (by decide) (fun h37 => ?_) (fun h37 => ?_)
    · refine j_aload_n (y := I_X6_blooms) 0 dX6_blooms_52 rfl rfl ?_
      refine j_bipush (y := I_X6_blooms) (v := -6) dX6_blooms_53 (by decide) ?_
      refine j_callViT (y := I_X6_blooms) (As := [.int (-6 : Int32)]) cv_6_52 ⟨Nat.le_of_ble_eq_true rfl, Nat.le_of_ble_eq_true rfl⟩ k_0 rfl (Nat.le_of_ble_eq_true rfl) dX6_blooms_55 (c_X6_finding l w (-6 : Int32) v26) ?_
      exact j_iret (y := I_X6_blooms) rfl dX6_blooms_58 rfl
    · refine j_aload_n (y := I_X6_blooms) 0 dX6_blooms_40 rfl rfl ?_
      refine j_getR (y := I_X6_blooms) (j := 96) fl_6_33 k_0 rfl rfl dX6_blooms_41 ?_
      refine j_getR (y := I_X6_blooms) (j := 99) fl_6_203 k_96 rfl rfl dX6_blooms_44 ?_
      refine j_iload_n (y := I_X6_blooms) 1 dX6_blooms_47 rfl rfl ?_
      refine j_iald (y := I_X6_blooms) k_99 dX6_blooms_48 (fun h48 => ?_)
      refine j_goto (y := I_X6_blooms) 58 dX6_blooms_49 (by decide) ?_
      exact j_iret (y := I_X6_blooms) rfl dX6_blooms_58 rfl
  · refine j_aload_n (y := I_X6_blooms) 0 dX6_blooms_8 rfl rfl ?_
    refine j_iconst (y := I_X6_blooms) (v := -1) dX6_blooms_9 (by decide) ?_
    refine j_callViT (y := I_X6_blooms) (As := [.int (-1 : Int32)]) cv_6_52 ⟨Nat.le_of_ble_eq_true rfl, Nat.le_of_ble_eq_true rfl⟩ k_0 rfl (Nat.le_of_ble_eq_true rfl) dX6_blooms_10 (c_X6_finding l w (-1 : Int32) S) ?_
    exact j_iret (y := I_X6_blooms) rfl dX6_blooms_13 rfl
theorem c_X6_blooms (l : Launch) (w : Wd) (x1 : Int32) (S : St)  : ∀ v, f_X6_blooms x1 S = some v → CtS l w I_X6_blooms [.ref (w.2.1 + 0), .int x1] S v.2 (some (.int v.1)) := fun v h => J.ct (av := [.ref (w.2.1 + 0), .int x1]) (Nat.le_of_ble_eq_true rfl) pn_6 (m_X6_blooms l w x1 S ) h
abbrev I_X6_copy : MI := (yX6_copy, cX6_copy, 8, some .int, { frames := 2, cells := 0, slots := 0, locals := 60 })
theorem dX6_copy_0 : decode cX6_copy 0 = .ok (.iload_n 1, 1) := by decide +kernel
theorem dX6_copy_1 : decode cX6_copy 1 = .ok (.invokestatic 146, 3) := by decide +kernel
theorem dX6_copy_4 : decode cX6_copy 4 = .ok (.ifCond .eq 10, 3) := by decide +kernel
theorem dX6_copy_7 : decode cX6_copy 7 = .ok (.iload_n 3, 1) := by decide +kernel
theorem dX6_copy_8 : decode cX6_copy 8 = .ok (.invokestatic 146, 3) := by decide +kernel
theorem dX6_copy_11 : decode cX6_copy 11 = .ok (.ifCond .ne 9, 3) := by decide +kernel
theorem dX6_copy_14 : decode cX6_copy 14 = .ok (.aload_n 0, 1) := by decide +kernel
theorem dX6_copy_15 : decode cX6_copy 15 = .ok (.iconst (-1), 1) := by decide +kernel
theorem dX6_copy_16 : decode cX6_copy 16 = .ok (.invokevirtual 52, 3) := by decide +kernel
theorem dX6_copy_19 : decode cX6_copy 19 = .ok (.ireturn, 1) := by decide +kernel
theorem dX6_copy_20 : decode cX6_copy 20 = .ok (.aload_n 0, 1) := by decide +kernel
theorem dX6_copy_21 : decode cX6_copy 21 = .ok (.getfield 25, 3) := by decide +kernel
theorem dX6_copy_24 : decode cX6_copy 24 = .ok (.iload_n 1, 1) := by decide +kernel
theorem dX6_copy_25 : decode cX6_copy 25 = .ok (.aaload, 1) := by decide +kernel
theorem dX6_copy_26 : decode cX6_copy 26 = .ok (.astore 6, 2) := by decide +kernel
theorem dX6_copy_28 : decode cX6_copy 28 = .ok (.aload_n 0, 1) := by decide +kernel
theorem dX6_copy_29 : decode cX6_copy 29 = .ok (.getfield 25, 3) := by decide +kernel
theorem dX6_copy_32 : decode cX6_copy 32 = .ok (.iload_n 3, 1) := by decide +kernel
theorem dX6_copy_33 : decode cX6_copy 33 = .ok (.aaload, 1) := by decide +kernel
theorem dX6_copy_34 : decode cX6_copy 34 = .ok (.astore 7, 2) := by decide +kernel
theorem dX6_copy_36 : decode cX6_copy 36 = .ok (.aload 6, 2) := by decide +kernel
theorem dX6_copy_38 : decode cX6_copy 38 = .ok (.invokevirtual 155, 3) := by decide +kernel
theorem dX6_copy_41 : decode cX6_copy 41 = .ok (.ifCond .ne 11, 3) := by decide +kernel
theorem dX6_copy_44 : decode cX6_copy 44 = .ok (.aload 7, 2) := by decide +kernel
theorem dX6_copy_46 : decode cX6_copy 46 = .ok (.invokevirtual 155, 3) := by decide +kernel
theorem dX6_copy_49 : decode cX6_copy 49 = .ok (.ifCond .eq 10, 3) := by decide +kernel
theorem dX6_copy_52 : decode cX6_copy 52 = .ok (.aload_n 0, 1) := by decide +kernel
theorem dX6_copy_53 : decode cX6_copy 53 = .ok (.bipush (-2), 2) := by decide +kernel
theorem dX6_copy_55 : decode cX6_copy 55 = .ok (.invokevirtual 52, 3) := by decide +kernel
theorem dX6_copy_58 : decode cX6_copy 58 = .ok (.ireturn, 1) := by decide +kernel
theorem dX6_copy_59 : decode cX6_copy 59 = .ok (.aload 6, 2) := by decide +kernel
theorem dX6_copy_61 : decode cX6_copy 61 = .ok (.getfield 164, 3) := by decide +kernel
theorem dX6_copy_64 : decode cX6_copy 64 = .ok (.aload 7, 2) := by decide +kernel
theorem dX6_copy_66 : decode cX6_copy 66 = .ok (.getfield 164, 3) := by decide +kernel
theorem dX6_copy_69 : decode cX6_copy 69 = .ok (.if_icmp .eq 10, 3) := by decide +kernel
theorem dX6_copy_72 : decode cX6_copy 72 = .ok (.aload_n 0, 1) := by decide +kernel
theorem dX6_copy_73 : decode cX6_copy 73 = .ok (.bipush (-4), 2) := by decide +kernel
theorem dX6_copy_75 : decode cX6_copy 75 = .ok (.invokevirtual 52, 3) := by decide +kernel
theorem dX6_copy_78 : decode cX6_copy 78 = .ok (.ireturn, 1) := by decide +kernel
theorem dX6_copy_79 : decode cX6_copy 79 = .ok (.aload 6, 2) := by decide +kernel
theorem dX6_copy_81 : decode cX6_copy 81 = .ok (.iload_n 2, 1) := by decide +kernel
theorem dX6_copy_82 : decode cX6_copy 82 = .ok (.iload 5, 2) := by decide +kernel
theorem dX6_copy_84 : decode cX6_copy 84 = .ok (.invokevirtual 165, 3) := by decide +kernel
theorem dX6_copy_87 : decode cX6_copy 87 = .ok (.ifCond .eq 15, 3) := by decide +kernel
theorem dX6_copy_90 : decode cX6_copy 90 = .ok (.aload 7, 2) := by decide +kernel
theorem dX6_copy_92 : decode cX6_copy 92 = .ok (.iload 4, 2) := by decide +kernel
theorem dX6_copy_94 : decode cX6_copy 94 = .ok (.iload 5, 2) := by decide +kernel
theorem dX6_copy_96 : decode cX6_copy 96 = .ok (.invokevirtual 165, 3) := by decide +kernel
theorem dX6_copy_99 : decode cX6_copy 99 = .ok (.ifCond .ne 9, 3) := by decide +kernel
theorem dX6_copy_102 : decode cX6_copy 102 = .ok (.aload_n 0, 1) := by decide +kernel
theorem dX6_copy_103 : decode cX6_copy 103 = .ok (.iconst (-1), 1) := by decide +kernel
theorem dX6_copy_104 : decode cX6_copy 104 = .ok (.invokevirtual 52, 3) := by decide +kernel
theorem dX6_copy_107 : decode cX6_copy 107 = .ok (.ireturn, 1) := by decide +kernel
theorem dX6_copy_108 : decode cX6_copy 108 = .ok (.aload 6, 2) := by decide +kernel
theorem dX6_copy_110 : decode cX6_copy 110 = .ok (.getfield 169, 3) := by decide +kernel
theorem dX6_copy_113 : decode cX6_copy 113 = .ok (.iload_n 2, 1) := by decide +kernel
theorem dX6_copy_114 : decode cX6_copy 114 = .ok (.aload 7, 2) := by decide +kernel
theorem dX6_copy_116 : decode cX6_copy 116 = .ok (.getfield 169, 3) := by decide +kernel
theorem dX6_copy_119 : decode cX6_copy 119 = .ok (.iload 4, 2) := by decide +kernel
theorem dX6_copy_121 : decode cX6_copy 121 = .ok (.iload 5, 2) := by decide +kernel
theorem dX6_copy_123 : decode cX6_copy 123 = .ok (.invokestatic 173, 3) := by decide +kernel
theorem dX6_copy_126 : decode cX6_copy 126 = .ok (.iload 5, 2) := by decide +kernel
theorem dX6_copy_128 : decode cX6_copy 128 = .ok (.ireturn, 1) := by decide +kernel
theorem cv_6_155 : CV RX6 155 0 4 I_X4_isMissing := ⟨⟨⟨gm 448 (by decide +kernel) rfl, gm 451 (by decide +kernel) rfl, gm 41 (by decide +kernel) rfl, mh_4.1, mh_4.2, by decide +kernel⟩, gm 449 (by decide +kernel) rfl, gm 450 (by decide +kernel) rfl⟩, ⟨_, _, rfl⟩, rfl, rfl⟩
theorem cv_6_165 : CV RX6 165 2 4 I_X4_hasRun := ⟨⟨⟨gm 470 (by decide +kernel) rfl, gm 473 (by decide +kernel) rfl, gm 41 (by decide +kernel) rfl, mh_4.1, mh_4.2, by decide +kernel⟩, gm 471 (by decide +kernel) rfl, gm 472 (by decide +kernel) rfl⟩, ⟨_, _, rfl⟩, rfl, rfl⟩
def f_X6_copy (x1 : Int32) (x2 : Int32) (x3 : Int32) (x4 : Int32) (x5 : Int32) (S : St) : Option (Int32 × St) := if (f_X6_isSheet x1) = true then (if (f_X6_isSheet x3) = true then (if inb x1 4 = true then (if inb x3 4 = true then (if (f_X4_isMissing (88 + 2 * ix x1) S) = true then (some (((f_X6_finding (-2 : Int32) S).1), (f_X6_finding (-2 : Int32) S).2)) else (if (f_X4_isMissing (88 + 2 * ix x3) S) = true then (some (((f_X6_finding (-2 : Int32) S).1), (f_X6_finding (-2 : Int32) S).2)) else (if (rd S (88 + 2 * ix x1) 0) = (rd S (88 + 2 * ix x3) 0) then (if (f_X4_hasRun (88 + 2 * ix x1) x2 x5 S) = true then (if (f_X4_hasRun (88 + 2 * ix x3) x4 x5 S) = true then (if cpok x2 x4 x5 50 50 = true then (some (x5, (cpI S ((88 + 2 * ix x1) + 1) ((88 + 2 * ix x3) + 1) (ix x2) (ix x4) (ix x5)))) else none) else (some (((f_X6_finding (-1 : Int32) S).1), (f_X6_finding (-1 : Int32) S).2))) else (some (((f_X6_finding (-1 : Int32) S).1), (f_X6_finding (-1 : Int32) S).2))) else (some (((f_X6_finding (-4 : Int32) S).1), (f_X6_finding (-4 : Int32) S).2))))) else none) else none) else (some (((f_X6_finding (-1 : Int32) S).1), (f_X6_finding (-1 : Int32) S).2))) else (some (((f_X6_finding (-1 : Int32) S).1), (f_X6_finding (-1 : Int32) S).2))
set_option maxRecDepth 100000 in
set_option maxHeartbeats 4000000 in
theorem m_X6_copy (l : Launch) (w : Wd) (x1 : Int32) (x2 : Int32) (x3 : Int32) (x4 : Int32) (x5 : Int32) (S : St)  : J l w I_X6_copy 0 [(0, .ref (w.2.1 + 0)), (1, .int x1), (2, .int x2), (3, .int x3), (4, .int x4), (5, .int x5)] [] S (fun b => (some (.int b.1), b.2)) (f_X6_copy x1 x2 x3 x4 x5 S) := by
  unfold f_X6_copy
  refine j_iload_n (y := I_X6_copy) 1 dX6_copy_0 rfl rfl ?_
  refine j_callSzT (y := I_X6_copy) (As := [.int x1]) cv_6_146 ⟨Nat.le_of_ble_eq_true rfl, Nat.le_of_ble_eq_true rfl⟩ rfl (Nat.le_of_ble_eq_true rfl) dX6_copy_1 (c_X6_isSheet l w x1 S) ?_
  refine j_if_eqB (y := I_X6_copy) 14 dX6_copy_4 (by decide) (fun h4 => ?_) (fun h4 => ?_)
  · refine j_aload_n (y := I_X6_copy) 0 dX6_copy_14 rfl rfl ?_
    refine j_iconst (y := I_X6_copy) (v := -1) dX6_copy_15 (by decide) ?_
    refine j_callViT (y := I_X6_copy) (As := [.int (-1 : Int32)]) cv_6_52 ⟨Nat.le_of_ble_eq_true rfl, Nat.le_of_ble_eq_true rfl⟩ k_0 rfl (Nat.le_of_ble_eq_true rfl) dX6_copy_16 (c_X6_finding l w (-1 : Int32) S) ?_
    exact j_iret (y := I_X6_copy) rfl dX6_copy_19 rfl
  · refine j_iload_n (y := I_X6_copy) 3 dX6_copy_7 rfl rfl ?_
    refine j_callSzT (y := I_X6_copy) (As := [.int x3]) cv_6_146 ⟨Nat.le_of_ble_eq_true rfl, Nat.le_of_ble_eq_true rfl⟩ rfl (Nat.le_of_ble_eq_true rfl) dX6_copy_8 (c_X6_isSheet l w x3 S) ?_
    refine j_if_neB (y := I_X6_copy) 20 dX6_copy_11 (by decide) (fun h11 => ?_) (fun h11 => ?_)
    · refine j_aload_n (y := I_X6_copy) 0 dX6_copy_20 rfl rfl ?_
      refine j_getR (y := I_X6_copy) (j := 87) fl_6_25 k_0 rfl rfl dX6_copy_21 ?_
      refine j_iload_n (y := I_X6_copy) 1 dX6_copy_24 rfl rfl ?_
      refine j_aald (y := I_X6_copy) (j := (88 + 2 * ix x1)) (tt := 2) k_87 rfl (rho_87 _) dX6_copy_25 (fun h25 => ?_)
      refine j_astore (y := I_X6_copy) (ls' := [(6, .ref (w.2.1 + (88 + 2 * ix x1))), (0, .ref (w.2.1 + 0)), (1, .int x1), (2, .int x2), (3, .int x3), (4, .int x4), (5, .int x5)]) dX6_copy_26 (by decide) rfl ?_
      refine j_aload_n (y := I_X6_copy) 1 dX6_copy_28 rfl rfl ?_
      refine j_getR (y := I_X6_copy) (j := 87) fl_6_25 k_0 rfl rfl dX6_copy_29 ?_
      refine j_iload_n (y := I_X6_copy) 4 dX6_copy_32 rfl rfl ?_
      refine j_aald (y := I_X6_copy) (j := (88 + 2 * ix x3)) (tt := 2) k_87 rfl (rho_87 _) dX6_copy_33 (fun h33 => ?_)
      refine j_astore (y := I_X6_copy) (ls' := [(7, .ref (w.2.1 + (88 + 2 * ix x3))), (6, .ref (w.2.1 + (88 + 2 * ix x1))), (0, .ref (w.2.1 + 0)), (1, .int x1), (2, .int x2), (3, .int x3), (4, .int x4), (5, .int x5)]) dX6_copy_34 (by decide) rfl ?_
      refine j_aload (y := I_X6_copy) 1 dX6_copy_36 rfl ?_
      refine j_callVzT (y := I_X6_copy) (As := []) cv_6_155 ⟨Nat.le_of_ble_eq_true rfl, Nat.le_of_ble_eq_true rfl⟩ (kd_Sh _ (inb_lt h25)) rfl (Nat.le_of_ble_eq_true rfl) dX6_copy_38 (c_X4_isMissing l w (88 + 2 * ix x1) S (kd_Sh _ (inb_lt h25))) ?_
      refine j_if_neB (y := I_X6_copy) 52 dX6_copy_41 (by decide) (fun h41 => ?_) (fun h41 => ?_)
      · refine j_aload_n (y := I_X6_copy) 2 dX6_copy_52 rfl rfl ?_
        refine j_bipush (y := I_X6_copy) (v := -2) dX6_copy_53 (by decide) ?_
        refine j_callViT (y := I_X6_copy) (As := [.int (-2 : Int32)]) cv_6_52 ⟨Nat.le_of_ble_eq_true rfl, Nat.le_of_ble_eq_true rfl⟩ k_0 rfl (Nat.le_of_ble_eq_true rfl) dX6_copy_55 (c_X6_finding l w (-2 : Int32) S) ?_
        exact j_iret (y := I_X6_copy) rfl dX6_copy_58 rfl
      · refine j_aload (y := I_X6_copy) 0 dX6_copy_44 rfl ?_
        refine j_callVzT (y := I_X6_copy) (As := []) cv_6_155 ⟨Nat.le_of_ble_eq_true rfl, Nat.le_of_ble_eq_true rfl⟩ (kd_Sh _ (inb_lt h33)) rfl (Nat.le_of_ble_eq_true rfl) dX6_copy_46 (c_X4_isMissing l w (88 + 2 * ix x3) S (kd_Sh _ (inb_lt h33))) ?_
        refine j_if_eqB (y := I_X6_copy) 59 dX6_copy_49 (by decide) (fun h49 => ?_) (fun h49 => ?_)
        · refine j_aload (y := I_X6_copy) 1 dX6_copy_59 rfl ?_
          refine j_getI (y := I_X6_copy) fl_6_164 (kd_Sh _ (inb_lt h25)) rfl dX6_copy_61 ?_
          refine j_aload (y := I_X6_copy) 0 dX6_copy_64 rfl ?_
          refine j_getI (y := I_X6_copy) fl_6_164 (kd_Sh _ (inb_lt h33)) rfl dX6_copy_66 ?_
          refine j_icmp_eq (y := I_X6_copy) 79 dX6_copy_69 (by decide) (fun h69 => ?_) (fun h69 => ?_)
          · refine j_aload (y := I_X6_copy) 1 dX6_copy_79 rfl ?_
            refine j_iload_n (y := I_X6_copy) 4 dX6_copy_81 rfl rfl ?_
            refine j_iload (y := I_X6_copy) 7 dX6_copy_82 rfl ?_
            refine j_callVzT (y := I_X6_copy) (As := [.int x2, .int x5]) cv_6_165 ⟨Nat.le_of_ble_eq_true rfl, Nat.le_of_ble_eq_true rfl⟩ (kd_Sh _ (inb_lt h25)) rfl (Nat.le_of_ble_eq_true rfl) dX6_copy_84 (c_X4_hasRun l w (88 + 2 * ix x1) x2 x5 S (kd_Sh _ (inb_lt h25))) ?_
            refine j_if_eqB (y := I_X6_copy) 102 dX6_copy_87 (by decide) (fun h87 => ?_) (fun h87 => ?_)
            · refine j_aload_n (y := I_X6_copy) 2 dX6_copy_102 rfl rfl ?_
              refine j_iconst (y := I_X6_copy) (v := -1) dX6_copy_103 (by decide) ?_
              refine j_callViT (y := I_X6_copy) (As := [.int (-1 : Int32)]) cv_6_52 ⟨Nat.le_of_ble_eq_true rfl, Nat.le_of_ble_eq_true rfl⟩ k_0 rfl (Nat.le_of_ble_eq_true rfl) dX6_copy_104 (c_X6_finding l w (-1 : Int32) S) ?_
              exact j_iret (y := I_X6_copy) rfl dX6_copy_107 rfl
            · refine j_aload (y := I_X6_copy) 0 dX6_copy_90 rfl ?_
              refine j_iload (y := I_X6_copy) 6 dX6_copy_92 rfl ?_
              refine j_iload (y := I_X6_copy) 7 dX6_copy_94 rfl ?_
              refine j_callVzT (y := I_X6_copy) (As := [.int x4, .int x5]) cv_6_165 ⟨Nat.le_of_ble_eq_true rfl, Nat.le_of_ble_eq_true rfl⟩ (kd_Sh _ (inb_lt h33)) rfl (Nat.le_of_ble_eq_true rfl) dX6_copy_96 (c_X4_hasRun l w (88 + 2 * ix x3) x4 x5 S (kd_Sh _ (inb_lt h33))) ?_
              refine j_if_neB (y := I_X6_copy) 108 dX6_copy_99 (by decide) (fun h99 => ?_) (fun h99 => ?_)
              · refine j_aload (y := I_X6_copy) 1 dX6_copy_108 rfl ?_
                refine j_getR (y := I_X6_copy) (j := ((88 + 2 * ix x1) + 1)) fl_6_169 (kd_Sh _ (inb_lt h25)) rfl rfl dX6_copy_110 ?_
                refine j_iload_n (y := I_X6_copy) 4 dX6_copy_113 rfl rfl ?_
                refine j_aload (y := I_X6_copy) 0 dX6_copy_114 rfl ?_
                refine j_getR (y := I_X6_copy) (j := ((88 + 2 * ix x3) + 1)) fl_6_169 (kd_Sh _ (inb_lt h33)) rfl rfl dX6_copy_116 ?_
                refine j_iload (y := I_X6_copy) 6 dX6_copy_119 rfl ?_
                refine j_iload (y := I_X6_copy) 7 dX6_copy_121 rfl ?_
                refine j_cpI (y := I_X6_copy) (gm 474 (by decide +kernel) rfl) (gm 476 (by decide +kernel) rfl) (gm 475 (by decide +kernel) rfl) (gm 46 (by decide +kernel) rfl) (kd_SheetA (kd_Sh _ (inb_lt h25))) (kd_SheetA (kd_Sh _ (inb_lt h33))) ⟨kd_ltA (kd_SheetA (kd_Sh _ (inb_lt h25))) (i := 0) (by decide), kd_ltA (kd_SheetA (kd_Sh _ (inb_lt h33))) (i := 0) (by decide)⟩ (Nat.le_of_ble_eq_true rfl) (Nat.le_of_ble_eq_true rfl) dX6_copy_123 ?_
                refine j_iload (y := I_X6_copy) 7 dX6_copy_126 rfl ?_
                exact j_iret (y := I_X6_copy) rfl dX6_copy_128 rfl
              · refine j_aload_n (y := I_X6_copy) 2 dX6_copy_102 rfl rfl ?_
                refine j_iconst (y := I_X6_copy) (v := -1) dX6_copy_103 (by decide) ?_
                refine j_callViT (y := I_X6_copy) (As := [.int (-1 : Int32)]) cv_6_52 ⟨Nat.le_of_ble_eq_true rfl, Nat.le_of_ble_eq_true rfl⟩ k_0 rfl (Nat.le_of_ble_eq_true rfl) dX6_copy_104 (c_X6_finding l w (-1 : Int32) S) ?_
                exact j_iret (y := I_X6_copy) rfl dX6_copy_107 rfl
          · refine j_aload_n (y := I_X6_copy) 2 dX6_copy_72 rfl rfl ?_
            refine j_bipush (y := I_X6_copy) (v := -4) dX6_copy_73 (by decide) ?_
            refine j_callViT (y := I_X6_copy) (As := [.int (-4 : Int32)]) cv_6_52 ⟨Nat.le_of_ble_eq_true rfl, Nat.le_of_ble_eq_true rfl⟩ k_0 rfl (Nat.le_of_ble_eq_true rfl) dX6_copy_75 (c_X6_finding l w (-4 : Int32) S) ?_
            exact j_iret (y := I_X6_copy) rfl dX6_copy_78 rfl
        · refine j_aload_n (y := I_X6_copy) 2 dX6_copy_52 rfl rfl ?_
          refine j_bipush (y := I_X6_copy) (v := -2) dX6_copy_53 (by decide) ?_
          refine j_callViT (y := I_X6_copy) (As := [.int (-2 : Int32)]) cv_6_52 ⟨Nat.le_of_ble_eq_true rfl, Nat.le_of_ble_eq_true rfl⟩ k_0 rfl (Nat.le_of_ble_eq_true rfl) dX6_copy_55 (c_X6_finding l w (-2 : Int32) S) ?_
          exact j_iret (y := I_X6_copy) rfl dX6_copy_58 rfl
    · refine j_aload_n (y := I_X6_copy) 0 dX6_copy_14 rfl rfl ?_
      refine j_iconst (y := I_X6_copy) (v := -1) dX6_copy_15 (by decide) ?_
      refine j_callViT (y := I_X6_copy) (As := [.int (-1 : Int32)]) cv_6_52 ⟨Nat.le_of_ble_eq_true rfl, Nat.le_of_ble_eq_true rfl⟩ k_0 rfl (Nat.le_of_ble_eq_true rfl) dX6_copy_16 (c_X6_finding l w (-1 : Int32) S) ?_
      exact j_iret (y := I_X6_copy) rfl dX6_copy_19 rfl
theorem c_X6_copy (l : Launch) (w : Wd) (x1 : Int32) (x2 : Int32) (x3 : Int32) (x4 : Int32) (x5 : Int32) (S : St)  : ∀ v, f_X6_copy x1 x2 x3 x4 x5 S = some v → CtS l w I_X6_copy [.ref (w.2.1 + 0), .int x1, .int x2, .int x3, .int x4, .int x5] S v.2 (some (.int v.1)) := fun v h => J.ct (av := [.ref (w.2.1 + 0), .int x1, .int x2, .int x3, .int x4, .int x5]) (Nat.le_of_ble_eq_true rfl) pn_6 (m_X6_copy l w x1 x2 x3 x4 x5 S ) h
abbrev I_X6_cut : MI := (yX6_cut, cX6_cut, 4, some .int, { frames := 2, cells := 0, slots := 0, locals := 42 })
theorem dX6_cut_0 : decode cX6_cut 0 = .ok (.iload_n 1, 1) := by decide +kernel
theorem dX6_cut_1 : decode cX6_cut 1 = .ok (.invokestatic 83, 3) := by decide +kernel
theorem dX6_cut_4 : decode cX6_cut 4 = .ok (.ifCond .eq 13, 3) := by decide +kernel
theorem dX6_cut_7 : decode cX6_cut 7 = .ok (.iload_n 2, 1) := by decide +kernel
theorem dX6_cut_8 : decode cX6_cut 8 = .ok (.iconst 0, 1) := by decide +kernel
theorem dX6_cut_9 : decode cX6_cut 9 = .ok (.bipush 9, 2) := by decide +kernel
theorem dX6_cut_11 : decode cX6_cut 11 = .ok (.invokestatic 48, 3) := by decide +kernel
theorem dX6_cut_14 : decode cX6_cut 14 = .ok (.ifCond .ne 9, 3) := by decide +kernel
theorem dX6_cut_17 : decode cX6_cut 17 = .ok (.aload_n 0, 1) := by decide +kernel
theorem dX6_cut_18 : decode cX6_cut 18 = .ok (.iconst (-1), 1) := by decide +kernel
theorem dX6_cut_19 : decode cX6_cut 19 = .ok (.invokevirtual 52, 3) := by decide +kernel
theorem dX6_cut_22 : decode cX6_cut 22 = .ok (.ireturn, 1) := by decide +kernel
theorem dX6_cut_23 : decode cX6_cut 23 = .ok (.aload_n 0, 1) := by decide +kernel
theorem dX6_cut_24 : decode cX6_cut 24 = .ok (.getfield 10, 3) := by decide +kernel
theorem dX6_cut_27 : decode cX6_cut 27 = .ok (.getfield 86, 3) := by decide +kernel
theorem dX6_cut_30 : decode cX6_cut 30 = .ok (.iload_n 1, 1) := by decide +kernel
theorem dX6_cut_31 : decode cX6_cut 31 = .ok (.aaload, 1) := by decide +kernel
theorem dX6_cut_32 : decode cX6_cut 32 = .ok (.astore_n 3, 1) := by decide +kernel
theorem dX6_cut_33 : decode cX6_cut 33 = .ok (.aload_n 3, 1) := by decide +kernel
theorem dX6_cut_34 : decode cX6_cut 34 = .ok (.invokevirtual 123, 3) := by decide +kernel
theorem dX6_cut_37 : decode cX6_cut 37 = .ok (.ifCond .ne 12, 3) := by decide +kernel
theorem dX6_cut_40 : decode cX6_cut 40 = .ok (.aload_n 0, 1) := by decide +kernel
theorem dX6_cut_41 : decode cX6_cut 41 = .ok (.aload_n 3, 1) := by decide +kernel
theorem dX6_cut_42 : decode cX6_cut 42 = .ok (.invokevirtual 134, 3) := by decide +kernel
theorem dX6_cut_45 : decode cX6_cut 45 = .ok (.invokevirtual 52, 3) := by decide +kernel
theorem dX6_cut_48 : decode cX6_cut 48 = .ok (.ireturn, 1) := by decide +kernel
theorem dX6_cut_49 : decode cX6_cut 49 = .ok (.aload_n 3, 1) := by decide +kernel
theorem dX6_cut_50 : decode cX6_cut 50 = .ok (.iconst 0, 1) := by decide +kernel
theorem dX6_cut_51 : decode cX6_cut 51 = .ok (.aload_n 3, 1) := by decide +kernel
theorem dX6_cut_52 : decode cX6_cut 52 = .ok (.getfield 137, 3) := by decide +kernel
theorem dX6_cut_55 : decode cX6_cut 55 = .ok (.iload_n 2, 1) := by decide +kernel
theorem dX6_cut_56 : decode cX6_cut 56 = .ok (.isub, 1) := by decide +kernel
theorem dX6_cut_57 : decode cX6_cut 57 = .ok (.invokestatic 140, 3) := by decide +kernel
theorem dX6_cut_60 : decode cX6_cut 60 = .ok (.putfield 137, 3) := by decide +kernel
theorem dX6_cut_63 : decode cX6_cut 63 = .ok (.aload_n 3, 1) := by decide +kernel
theorem dX6_cut_64 : decode cX6_cut 64 = .ok (.getfield 137, 3) := by decide +kernel
theorem dX6_cut_67 : decode cX6_cut 67 = .ok (.ireturn, 1) := by decide +kernel
theorem cv_6_134 : CV RX6 134 0 2 I_X2_whyNoTree := ⟨⟨⟨gm 428 (by decide +kernel) rfl, gm 431 (by decide +kernel) rfl, gm 40 (by decide +kernel) rfl, mh_2.1, mh_2.2, by decide +kernel⟩, gm 429 (by decide +kernel) rfl, gm 430 (by decide +kernel) rfl⟩, ⟨_, _, rfl⟩, rfl, rfl⟩
def f_X6_cut (x1 : Int32) (x2 : Int32) (S : St) : Option (Int32 × St) := if (f_X6_isPlace x1) = true then (if (f_X6_within x2 (0 : Int32) (9 : Int32)) = true then (if inb x1 12 = true then (if (f_X2_isTree (20 + 2 * ix x1) S) = true then (some ((rd (wr S (20 + 2 * ix x1) 6 (mxI (0 : Int32) ((rd S (20 + 2 * ix x1) 6) - x2))) (20 + 2 * ix x1) 6), (wr S (20 + 2 * ix x1) 6 (mxI (0 : Int32) ((rd S (20 + 2 * ix x1) 6) - x2))))) else (some (((f_X6_finding (f_X2_whyNoTree (20 + 2 * ix x1) S) S).1), (f_X6_finding (f_X2_whyNoTree (20 + 2 * ix x1) S) S).2))) else none) else (some (((f_X6_finding (-1 : Int32) S).1), (f_X6_finding (-1 : Int32) S).2))) else (some (((f_X6_finding (-1 : Int32) S).1), (f_X6_finding (-1 : Int32) S).2))
set_option maxRecDepth 100000 in
set_option maxHeartbeats 4000000 in
theorem m_X6_cut (l : Launch) (w : Wd) (x1 : Int32) (x2 : Int32) (S : St)  : J l w I_X6_cut 0 [(0, .ref (w.2.1 + 0)), (1, .int x1), (2, .int x2)] [] S (fun b => (some (.int b.1), b.2)) (f_X6_cut x1 x2 S) := by
  unfold f_X6_cut
  refine j_iload_n (y := I_X6_cut) 1 dX6_cut_0 rfl rfl ?_
  refine j_callSzT (y := I_X6_cut) (As := [.int x1]) cv_6_83 ⟨Nat.le_of_ble_eq_true rfl, Nat.le_of_ble_eq_true rfl⟩ rfl (Nat.le_of_ble_eq_true rfl) dX6_cut_1 (c_X6_isPlace l w x1 S) ?_
  refine j_if_eqB (y := I_X6_cut) 17 dX6_cut_4 (by decide) (fun h4 => ?_) (fun h4 => ?_)
  · refine j_aload_n (y := I_X6_cut) 0 dX6_cut_17 rfl rfl ?_
    refine j_iconst (y := I_X6_cut) (v := -1) dX6_cut_18 (by decide) ?_
    refine j_callViT (y := I_X6_cut) (As := [.int (-1 : Int32)]) cv_6_52 ⟨Nat.le_of_ble_eq_true rfl, Nat.le_of_ble_eq_true rfl⟩ k_0 rfl (Nat.le_of_ble_eq_true rfl) dX6_cut_19 (c_X6_finding l w (-1 : Int32) S) ?_
    exact j_iret (y := I_X6_cut) rfl dX6_cut_22 rfl
  · refine j_iload_n (y := I_X6_cut) 2 dX6_cut_7 rfl rfl ?_
    refine j_iconst (y := I_X6_cut) (v := 0) dX6_cut_8 (by decide) ?_
    refine j_bipush (y := I_X6_cut) (v := 9) dX6_cut_9 (by decide) ?_
    refine j_callSzT (y := I_X6_cut) (As := [.int x2, .int (0 : Int32), .int (9 : Int32)]) cv_6_48 ⟨Nat.le_of_ble_eq_true rfl, Nat.le_of_ble_eq_true rfl⟩ rfl (Nat.le_of_ble_eq_true rfl) dX6_cut_11 (c_X6_within l w x2 (0 : Int32) (9 : Int32) S) ?_
    refine j_if_neB (y := I_X6_cut) 23 dX6_cut_14 (by decide) (fun h14 => ?_) (fun h14 => ?_)
    · refine j_aload_n (y := I_X6_cut) 0 dX6_cut_23 rfl rfl ?_
      refine j_getR (y := I_X6_cut) (j := 1) fl_6_10 k_0 rfl rfl dX6_cut_24 ?_
      refine j_getR (y := I_X6_cut) (j := 3) fl_6_86 k_1 rfl rfl dX6_cut_27 ?_
      refine j_iload_n (y := I_X6_cut) 1 dX6_cut_30 rfl rfl ?_
      refine j_aald (y := I_X6_cut) (j := (20 + 2 * ix x1)) (tt := 1) k_3 rfl (rho_3 _) dX6_cut_31 (fun h31 => ?_)
      refine j_astore_n (y := I_X6_cut) (ls' := [(3, .ref (w.2.1 + (20 + 2 * ix x1))), (0, .ref (w.2.1 + 0)), (1, .int x1), (2, .int x2)]) dX6_cut_32 rfl (by decide) rfl ?_
      refine j_aload_n (y := I_X6_cut) 0 dX6_cut_33 rfl rfl ?_
      refine j_callVzT (y := I_X6_cut) (As := []) cv_6_123 ⟨Nat.le_of_ble_eq_true rfl, Nat.le_of_ble_eq_true rfl⟩ (kd_Pl _ (inb_lt h31)) rfl (Nat.le_of_ble_eq_true rfl) dX6_cut_34 (c_X2_isTree l w (20 + 2 * ix x1) S (kd_Pl _ (inb_lt h31))) ?_
      refine j_if_neB (y := I_X6_cut) 49 dX6_cut_37 (by decide) (fun h37 => ?_) (fun h37 => ?_)
      · refine j_aload_n (y := I_X6_cut) 0 dX6_cut_49 rfl rfl ?_
        refine j_iconst (y := I_X6_cut) (v := 0) dX6_cut_50 (by decide) ?_
        refine j_aload_n (y := I_X6_cut) 0 dX6_cut_51 rfl rfl ?_
        refine j_getI (y := I_X6_cut) fl_6_137 (kd_Pl _ (inb_lt h31)) rfl dX6_cut_52 ?_
        refine j_iload_n (y := I_X6_cut) 3 dX6_cut_55 rfl rfl ?_
        refine j_isub (y := I_X6_cut) dX6_cut_56 ?_
        refine j_mmax (y := I_X6_cut) (gm 432 (by decide +kernel) rfl) (Nat.le_of_ble_eq_true rfl) (Nat.le_of_ble_eq_true rfl) dX6_cut_57 ?_
        refine j_putI (y := I_X6_cut) fp_6_137 (kd_Pl _ (inb_lt h31)) rfl rfl rfl dX6_cut_60 ?_
        refine j_aload_n (y := I_X6_cut) 0 dX6_cut_63 rfl rfl ?_
        refine j_getI (y := I_X6_cut) fl_6_137 (kd_Pl _ (inb_lt h31)) rfl dX6_cut_64 ?_
        exact j_iret (y := I_X6_cut) rfl dX6_cut_67 rfl
      · refine j_aload_n (y := I_X6_cut) 1 dX6_cut_40 rfl rfl ?_
        refine j_aload_n (y := I_X6_cut) 0 dX6_cut_41 rfl rfl ?_
        refine j_callViT (y := I_X6_cut) (As := []) cv_6_134 ⟨Nat.le_of_ble_eq_true rfl, Nat.le_of_ble_eq_true rfl⟩ (kd_Pl _ (inb_lt h31)) rfl (Nat.le_of_ble_eq_true rfl) dX6_cut_42 (c_X2_whyNoTree l w (20 + 2 * ix x1) S (kd_Pl _ (inb_lt h31))) ?_
        refine j_callViT (y := I_X6_cut) (As := [.int (f_X2_whyNoTree (20 + 2 * ix x1) S)]) cv_6_52 ⟨Nat.le_of_ble_eq_true rfl, Nat.le_of_ble_eq_true rfl⟩ k_0 rfl (Nat.le_of_ble_eq_true rfl) dX6_cut_45 (c_X6_finding l w (f_X2_whyNoTree (20 + 2 * ix x1) S) S) ?_
        exact j_iret (y := I_X6_cut) rfl dX6_cut_48 rfl
    · refine j_aload_n (y := I_X6_cut) 0 dX6_cut_17 rfl rfl ?_
      refine j_iconst (y := I_X6_cut) (v := -1) dX6_cut_18 (by decide) ?_
      refine j_callViT (y := I_X6_cut) (As := [.int (-1 : Int32)]) cv_6_52 ⟨Nat.le_of_ble_eq_true rfl, Nat.le_of_ble_eq_true rfl⟩ k_0 rfl (Nat.le_of_ble_eq_true rfl) dX6_cut_19 (c_X6_finding l w (-1 : Int32) S) ?_
      exact j_iret (y := I_X6_cut) rfl dX6_cut_22 rfl
theorem c_X6_cut (l : Launch) (w : Wd) (x1 : Int32) (x2 : Int32) (S : St)  : ∀ v, f_X6_cut x1 x2 S = some v → CtS l w I_X6_cut [.ref (w.2.1 + 0), .int x1, .int x2] S v.2 (some (.int v.1)) := fun v h => J.ct (av := [.ref (w.2.1 + 0), .int x1, .int x2]) (Nat.le_of_ble_eq_true rfl) pn_6 (m_X6_cut l w x1 x2 S ) h
abbrev I_X6_distance : MI := (yX6_distance, cX6_distance, 3, some .int, { frames := 1, cells := 0, slots := 0, locals := 22 })
theorem dX6_distance_0 : decode cX6_distance 0 = .ok (.iload_n 1, 1) := by decide +kernel
theorem dX6_distance_1 : decode cX6_distance 1 = .ok (.iconst 1, 1) := by decide +kernel
theorem dX6_distance_2 : decode cX6_distance 2 = .ok (.bipush 15, 2) := by decide +kernel
theorem dX6_distance_4 : decode cX6_distance 4 = .ok (.invokestatic 48, 3) := by decide +kernel
theorem dX6_distance_7 : decode cX6_distance 7 = .ok (.ifCond .ne 9, 3) := by decide +kernel
theorem dX6_distance_10 : decode cX6_distance 10 = .ok (.aload_n 0, 1) := by decide +kernel
theorem dX6_distance_11 : decode cX6_distance 11 = .ok (.iconst (-1), 1) := by decide +kernel
theorem dX6_distance_12 : decode cX6_distance 12 = .ok (.invokevirtual 52, 3) := by decide +kernel
theorem dX6_distance_15 : decode cX6_distance 15 = .ok (.ireturn, 1) := by decide +kernel
theorem dX6_distance_16 : decode cX6_distance 16 = .ok (.aload_n 0, 1) := by decide +kernel
theorem dX6_distance_17 : decode cX6_distance 17 = .ok (.getfield 10, 3) := by decide +kernel
theorem dX6_distance_20 : decode cX6_distance 20 = .ok (.getfield 101, 3) := by decide +kernel
theorem dX6_distance_23 : decode cX6_distance 23 = .ok (.istore_n 2, 1) := by decide +kernel
theorem dX6_distance_24 : decode cX6_distance 24 = .ok (.aload_n 0, 1) := by decide +kernel
theorem dX6_distance_25 : decode cX6_distance 25 = .ok (.getfield 10, 3) := by decide +kernel
theorem dX6_distance_28 : decode cX6_distance 28 = .ok (.iload_n 1, 1) := by decide +kernel
theorem dX6_distance_29 : decode cX6_distance 29 = .ok (.putfield 101, 3) := by decide +kernel
theorem dX6_distance_32 : decode cX6_distance 32 = .ok (.aload_n 0, 1) := by decide +kernel
theorem dX6_distance_33 : decode cX6_distance 33 = .ok (.getfield 40, 3) := by decide +kernel
theorem dX6_distance_36 : decode cX6_distance 36 = .ok (.invokevirtual 69, 3) := by decide +kernel
theorem dX6_distance_39 : decode cX6_distance 39 = .ok (.iload_n 2, 1) := by decide +kernel
theorem dX6_distance_40 : decode cX6_distance 40 = .ok (.ireturn, 1) := by decide +kernel
def f_X6_distance (x1 : Int32) (S : St) : Int32 × St := if (f_X6_within x1 (1 : Int32) (15 : Int32)) = true then (((rd S 1 3), (f_X1_forget (wr S 1 3 x1)))) else ((((f_X6_finding (-1 : Int32) S).1), (f_X6_finding (-1 : Int32) S).2))
set_option maxRecDepth 100000 in
set_option maxHeartbeats 4000000 in
theorem m_X6_distance (l : Launch) (w : Wd) (x1 : Int32) (S : St)  : J l w I_X6_distance 0 [(0, .ref (w.2.1 + 0)), (1, .int x1)] [] S (fun b => (some (.int b.1), b.2)) (some (f_X6_distance x1 S)) := by
  unfold f_X6_distance
  refine j_iload_n (y := I_X6_distance) 1 dX6_distance_0 rfl rfl ?_
  refine j_iconst (y := I_X6_distance) (v := 1) dX6_distance_1 (by decide) ?_
  refine j_bipush (y := I_X6_distance) (v := 15) dX6_distance_2 (by decide) ?_
  refine j_callSzT (y := I_X6_distance) (As := [.int x1, .int (1 : Int32), .int (15 : Int32)]) cv_6_48 ⟨Nat.le_of_ble_eq_true rfl, Nat.le_of_ble_eq_true rfl⟩ rfl (Nat.le_of_ble_eq_true rfl) dX6_distance_4 (c_X6_within l w x1 (1 : Int32) (15 : Int32) S) ?_
  refine j_si ?_
  refine j_if_neB (y := I_X6_distance) 16 dX6_distance_7 (by decide) (fun h7 => ?_) (fun h7 => ?_)
  · refine j_aload_n (y := I_X6_distance) 0 dX6_distance_16 rfl rfl ?_
    refine j_getR (y := I_X6_distance) (j := 1) fl_6_10 k_0 rfl rfl dX6_distance_17 ?_
    refine j_getI (y := I_X6_distance) fl_6_101 k_1 rfl dX6_distance_20 ?_
    refine j_istore_n (y := I_X6_distance) (ls' := [(2, .int (rd S 1 3)), (0, .ref (w.2.1 + 0)), (1, .int x1)]) dX6_distance_23 rfl (by decide) rfl ?_
    refine j_aload_n (y := I_X6_distance) 1 dX6_distance_24 rfl rfl ?_
    refine j_getR (y := I_X6_distance) (j := 1) fl_6_10 k_0 rfl rfl dX6_distance_25 ?_
    refine j_iload_n (y := I_X6_distance) 2 dX6_distance_28 rfl rfl ?_
    refine j_putI (y := I_X6_distance) fp_6_101 k_1 rfl rfl rfl dX6_distance_29 ?_
    refine j_aload_n (y := I_X6_distance) 1 dX6_distance_32 rfl rfl ?_
    refine j_getR (y := I_X6_distance) (j := 101) fl_6_40 k_0 rfl rfl dX6_distance_33 ?_
    refine j_callVvT (y := I_X6_distance) (As := []) cv_6_69 ⟨Nat.le_of_ble_eq_true rfl, Nat.le_of_ble_eq_true rfl⟩ k_101 rfl (Nat.le_of_ble_eq_true rfl) dX6_distance_36 (c_X1_forget l w (wr S 1 3 x1)) ?_
    refine j_iload_n (y := I_X6_distance) 0 dX6_distance_39 rfl rfl ?_
    exact j_iret (y := I_X6_distance) rfl dX6_distance_40 rfl
  · refine j_aload_n (y := I_X6_distance) 0 dX6_distance_10 rfl rfl ?_
    refine j_iconst (y := I_X6_distance) (v := -1) dX6_distance_11 (by decide) ?_
    refine j_callViT (y := I_X6_distance) (As := [.int (-1 : Int32)]) cv_6_52 ⟨Nat.le_of_ble_eq_true rfl, Nat.le_of_ble_eq_true rfl⟩ k_0 rfl (Nat.le_of_ble_eq_true rfl) dX6_distance_12 (c_X6_finding l w (-1 : Int32) S) ?_
    exact j_iret (y := I_X6_distance) rfl dX6_distance_15 rfl
theorem c_X6_distance (l : Launch) (w : Wd) (x1 : Int32) (S : St)  : CtS l w I_X6_distance [.ref (w.2.1 + 0), .int x1] S (f_X6_distance x1 S).2 (some (.int (f_X6_distance x1 S).1)) := J.ct (av := [.ref (w.2.1 + 0), .int x1]) (Nat.le_of_ble_eq_true rfl) pn_6 (m_X6_distance l w x1 S ) rfl
abbrev I_X6_frost : MI := (yX6_frost, cX6_frost, 4, some .int, { frames := 2, cells := 0, slots := 0, locals := 42 })
theorem dX6_frost_0 : decode cX6_frost 0 = .ok (.iload_n 1, 1) := by decide +kernel
theorem dX6_frost_1 : decode cX6_frost 1 = .ok (.invokestatic 182, 3) := by decide +kernel
theorem dX6_frost_4 : decode cX6_frost 4 = .ok (.ifCond .eq 23, 3) := by decide +kernel
theorem dX6_frost_7 : decode cX6_frost 7 = .ok (.iload_n 2, 1) := by decide +kernel
theorem dX6_frost_8 : decode cX6_frost 8 = .ok (.iconst 0, 1) := by decide +kernel
theorem dX6_frost_9 : decode cX6_frost 9 = .ok (.bipush 6, 2) := by decide +kernel
theorem dX6_frost_11 : decode cX6_frost 11 = .ok (.invokestatic 48, 3) := by decide +kernel
theorem dX6_frost_14 : decode cX6_frost 14 = .ok (.ifCond .eq 13, 3) := by decide +kernel
theorem dX6_frost_17 : decode cX6_frost 17 = .ok (.iload_n 3, 1) := by decide +kernel
theorem dX6_frost_18 : decode cX6_frost 18 = .ok (.iconst 0, 1) := by decide +kernel
theorem dX6_frost_19 : decode cX6_frost 19 = .ok (.bipush 100, 2) := by decide +kernel
theorem dX6_frost_21 : decode cX6_frost 21 = .ok (.invokestatic 48, 3) := by decide +kernel
theorem dX6_frost_24 : decode cX6_frost 24 = .ok (.ifCond .ne 9, 3) := by decide +kernel
theorem dX6_frost_27 : decode cX6_frost 27 = .ok (.aload_n 0, 1) := by decide +kernel
theorem dX6_frost_28 : decode cX6_frost 28 = .ok (.iconst (-1), 1) := by decide +kernel
theorem dX6_frost_29 : decode cX6_frost 29 = .ok (.invokevirtual 52, 3) := by decide +kernel
theorem dX6_frost_32 : decode cX6_frost 32 = .ok (.ireturn, 1) := by decide +kernel
theorem dX6_frost_33 : decode cX6_frost 33 = .ok (.iload_n 1, 1) := by decide +kernel
theorem dX6_frost_34 : decode cX6_frost 34 = .ok (.aload_n 0, 1) := by decide +kernel
theorem dX6_frost_35 : decode cX6_frost 35 = .ok (.getfield 10, 3) := by decide +kernel
theorem dX6_frost_38 : decode cX6_frost 38 = .ok (.getfield 206, 3) := by decide +kernel
theorem dX6_frost_41 : decode cX6_frost 41 = .ok (.if_icmp .ge 10, 3) := by decide +kernel
theorem dX6_frost_44 : decode cX6_frost 44 = .ok (.aload_n 0, 1) := by decide +kernel
theorem dX6_frost_45 : decode cX6_frost 45 = .ok (.bipush (-7), 2) := by decide +kernel
theorem dX6_frost_47 : decode cX6_frost 47 = .ok (.invokevirtual 52, 3) := by decide +kernel
theorem dX6_frost_50 : decode cX6_frost 50 = .ok (.ireturn, 1) := by decide +kernel
theorem dX6_frost_51 : decode cX6_frost 51 = .ok (.aload_n 0, 1) := by decide +kernel
theorem dX6_frost_52 : decode cX6_frost 52 = .ok (.getfield 10, 3) := by decide +kernel
theorem dX6_frost_55 : decode cX6_frost 55 = .ok (.getfield 209, 3) := by decide +kernel
theorem dX6_frost_58 : decode cX6_frost 58 = .ok (.iload_n 1, 1) := by decide +kernel
theorem dX6_frost_59 : decode cX6_frost 59 = .ok (.iload_n 2, 1) := by decide +kernel
theorem dX6_frost_60 : decode cX6_frost 60 = .ok (.iastore, 1) := by decide +kernel
theorem dX6_frost_61 : decode cX6_frost 61 = .ok (.aload_n 0, 1) := by decide +kernel
theorem dX6_frost_62 : decode cX6_frost 62 = .ok (.getfield 10, 3) := by decide +kernel
theorem dX6_frost_65 : decode cX6_frost 65 = .ok (.getfield 212, 3) := by decide +kernel
theorem dX6_frost_68 : decode cX6_frost 68 = .ok (.iload_n 1, 1) := by decide +kernel
theorem dX6_frost_69 : decode cX6_frost 69 = .ok (.iload_n 3, 1) := by decide +kernel
theorem dX6_frost_70 : decode cX6_frost 70 = .ok (.iastore, 1) := by decide +kernel
theorem dX6_frost_71 : decode cX6_frost 71 = .ok (.iconst 1, 1) := by decide +kernel
theorem dX6_frost_72 : decode cX6_frost 72 = .ok (.ireturn, 1) := by decide +kernel
theorem cv_6_182 : CS RX6 182 1 I_X6_isDay := ⟨⟨⟨gm 485 (by decide +kernel) rfl, gm 487 (by decide +kernel) rfl, gm 37 (by decide +kernel) rfl, mh_6.1, mh_6.2, by decide +kernel⟩, gm 486 (by decide +kernel) rfl⟩, rfl, rfl⟩
def f_X6_frost (x1 : Int32) (x2 : Int32) (x3 : Int32) (S : St) : Option (Int32 × St) := if (f_X6_isDay x1) = true then (if (f_X6_within x2 (0 : Int32) (6 : Int32)) = true then (if (f_X6_within x3 (0 : Int32) (100 : Int32)) = true then (if x1 < (rd S 1 5) then (some (((f_X6_finding (-7 : Int32) S).1), (f_X6_finding (-7 : Int32) S).2)) else (if inb x1 50 = true then (if inb x1 50 = true then (some ((1 : Int32), (wr (wr S 5 (ix x1) x2) 6 (ix x1) x3))) else none) else none)) else (some (((f_X6_finding (-1 : Int32) S).1), (f_X6_finding (-1 : Int32) S).2))) else (some (((f_X6_finding (-1 : Int32) S).1), (f_X6_finding (-1 : Int32) S).2))) else (some (((f_X6_finding (-1 : Int32) S).1), (f_X6_finding (-1 : Int32) S).2))
set_option maxRecDepth 100000 in
set_option maxHeartbeats 4000000 in
theorem m_X6_frost (l : Launch) (w : Wd) (x1 : Int32) (x2 : Int32) (x3 : Int32) (S : St)  : J l w I_X6_frost 0 [(0, .ref (w.2.1 + 0)), (1, .int x1), (2, .int x2), (3, .int x3)] [] S (fun b => (some (.int b.1), b.2)) (f_X6_frost x1 x2 x3 S) := by
  unfold f_X6_frost
  refine j_iload_n (y := I_X6_frost) 1 dX6_frost_0 rfl rfl ?_
  refine j_callSzT (y := I_X6_frost) (As := [.int x1]) cv_6_182 ⟨Nat.le_of_ble_eq_true rfl, Nat.le_of_ble_eq_true rfl⟩ rfl (Nat.le_of_ble_eq_true rfl) dX6_frost_1 (c_X6_isDay l w x1 S) ?_
  refine j_if_eqB (y := I_X6_frost) 27 dX6_frost_4 (by decide) (fun h4 => ?_) (fun h4 => ?_)
  · refine j_aload_n (y := I_X6_frost) 0 dX6_frost_27 rfl rfl ?_
    refine j_iconst (y := I_X6_frost) (v := -1) dX6_frost_28 (by decide) ?_
    refine j_callViT (y := I_X6_frost) (As := [.int (-1 : Int32)]) cv_6_52 ⟨Nat.le_of_ble_eq_true rfl, Nat.le_of_ble_eq_true rfl⟩ k_0 rfl (Nat.le_of_ble_eq_true rfl) dX6_frost_29 (c_X6_finding l w (-1 : Int32) S) ?_
    exact j_iret (y := I_X6_frost) rfl dX6_frost_32 rfl
  · refine j_iload_n (y := I_X6_frost) 2 dX6_frost_7 rfl rfl ?_
    refine j_iconst (y := I_X6_frost) (v := 0) dX6_frost_8 (by decide) ?_
    refine j_bipush (y := I_X6_frost) (v := 6) dX6_frost_9 (by decide) ?_
    refine j_callSzT (y := I_X6_frost) (As := [.int x2, .int (0 : Int32), .int (6 : Int32)]) cv_6_48 ⟨Nat.le_of_ble_eq_true rfl, Nat.le_of_ble_eq_true rfl⟩ rfl (Nat.le_of_ble_eq_true rfl) dX6_frost_11 (c_X6_within l w x2 (0 : Int32) (6 : Int32) S) ?_
    refine j_if_eqB (y := I_X6_frost) 27 dX6_frost_14 (by decide) (fun h14 => ?_) (fun h14 => ?_)
    · refine j_aload_n (y := I_X6_frost) 0 dX6_frost_27 rfl rfl ?_
      refine j_iconst (y := I_X6_frost) (v := -1) dX6_frost_28 (by decide) ?_
      refine j_callViT (y := I_X6_frost) (As := [.int (-1 : Int32)]) cv_6_52 ⟨Nat.le_of_ble_eq_true rfl, Nat.le_of_ble_eq_true rfl⟩ k_0 rfl (Nat.le_of_ble_eq_true rfl) dX6_frost_29 (c_X6_finding l w (-1 : Int32) S) ?_
      exact j_iret (y := I_X6_frost) rfl dX6_frost_32 rfl
    · refine j_iload_n (y := I_X6_frost) 3 dX6_frost_17 rfl rfl ?_
      refine j_iconst (y := I_X6_frost) (v := 0) dX6_frost_18 (by decide) ?_
      refine j_bipush (y := I_X6_frost) (v := 100) dX6_frost_19 (by decide) ?_
      refine j_callSzT (y := I_X6_frost) (As := [.int x3, .int (0 : Int32), .int (100 : Int32)]) cv_6_48 ⟨Nat.le_of_ble_eq_true rfl, Nat.le_of_ble_eq_true rfl⟩ rfl (Nat.le_of_ble_eq_true rfl) dX6_frost_21 (c_X6_within l w x3 (0 : Int32) (100 : Int32) S) ?_
      refine j_if_neB (y := I_X6_frost) 33 dX6_frost_24 (by decide) (fun h24 => ?_) (fun h24 => ?_)
      · refine j_iload_n (y := I_X6_frost) 1 dX6_frost_33 rfl rfl ?_
        refine j_aload_n (y := I_X6_frost) 0 dX6_frost_34 rfl rfl ?_
        refine j_getR (y := I_X6_frost) (j := 1) fl_6_10 k_0 rfl rfl dX6_frost_35 ?_
        refine j_getI (y := I_X6_frost) fl_6_206 k_1 rfl dX6_frost_38 ?_
        refine j_icmp_ge (y := I_X6_frost) 51 dX6_frost_41 (by decide) (fun h41 => ?_) (fun h41 => ?_)
        · refine j_aload_n (y := I_X6_frost) 0 dX6_frost_51 rfl rfl ?_
          refine j_getR (y := I_X6_frost) (j := 1) fl_6_10 k_0 rfl rfl dX6_frost_52 ?_
          refine j_getR (y := I_X6_frost) (j := 5) fl_6_209 k_1 rfl rfl dX6_frost_55 ?_
          refine j_iload_n (y := I_X6_frost) 1 dX6_frost_58 rfl rfl ?_
          refine j_iload_n (y := I_X6_frost) 2 dX6_frost_59 rfl rfl ?_
          refine j_iast (y := I_X6_frost) k_5 dX6_frost_60 (fun h60 => ?_)
          refine j_aload_n (y := I_X6_frost) 0 dX6_frost_61 rfl rfl ?_
          refine j_getR (y := I_X6_frost) (j := 1) fl_6_10 k_0 rfl rfl dX6_frost_62 ?_
          refine j_getR (y := I_X6_frost) (j := 6) fl_6_212 k_1 rfl rfl dX6_frost_65 ?_
          refine j_iload_n (y := I_X6_frost) 1 dX6_frost_68 rfl rfl ?_
          refine j_iload_n (y := I_X6_frost) 3 dX6_frost_69 rfl rfl ?_
          refine j_iast (y := I_X6_frost) k_6 dX6_frost_70 (fun h70 => ?_)
          refine j_iconst (y := I_X6_frost) (v := 1) dX6_frost_71 (by decide) ?_
          exact j_iret (y := I_X6_frost) rfl dX6_frost_72 rfl
        · refine j_aload_n (y := I_X6_frost) 0 dX6_frost_44 rfl rfl ?_
          refine j_bipush (y := I_X6_frost) (v := -7) dX6_frost_45 (by decide) ?_
          refine j_callViT (y := I_X6_frost) (As := [.int (-7 : Int32)]) cv_6_52 ⟨Nat.le_of_ble_eq_true rfl, Nat.le_of_ble_eq_true rfl⟩ k_0 rfl (Nat.le_of_ble_eq_true rfl) dX6_frost_47 (c_X6_finding l w (-7 : Int32) S) ?_
          exact j_iret (y := I_X6_frost) rfl dX6_frost_50 rfl
      · refine j_aload_n (y := I_X6_frost) 0 dX6_frost_27 rfl rfl ?_
        refine j_iconst (y := I_X6_frost) (v := -1) dX6_frost_28 (by decide) ?_
        refine j_callViT (y := I_X6_frost) (As := [.int (-1 : Int32)]) cv_6_52 ⟨Nat.le_of_ble_eq_true rfl, Nat.le_of_ble_eq_true rfl⟩ k_0 rfl (Nat.le_of_ble_eq_true rfl) dX6_frost_29 (c_X6_finding l w (-1 : Int32) S) ?_
        exact j_iret (y := I_X6_frost) rfl dX6_frost_32 rfl
theorem c_X6_frost (l : Launch) (w : Wd) (x1 : Int32) (x2 : Int32) (x3 : Int32) (S : St)  : ∀ v, f_X6_frost x1 x2 x3 S = some v → CtS l w I_X6_frost [.ref (w.2.1 + 0), .int x1, .int x2, .int x3] S v.2 (some (.int v.1)) := fun v h => J.ct (av := [.ref (w.2.1 + 0), .int x1, .int x2, .int x3]) (Nat.le_of_ble_eq_true rfl) pn_6 (m_X6_frost l w x1 x2 x3 S ) h
abbrev I_X6_fruits : MI := (yX6_fruits, cX6_fruits, 4, some .int, { frames := 2, cells := 0, slots := 0, locals := 42 })
theorem dX6_fruits_0 : decode cX6_fruits 0 = .ok (.iload_n 1, 1) := by decide +kernel
theorem dX6_fruits_1 : decode cX6_fruits 1 = .ok (.invokestatic 83, 3) := by decide +kernel
theorem dX6_fruits_4 : decode cX6_fruits 4 = .ok (.ifCond .eq 10, 3) := by decide +kernel
theorem dX6_fruits_7 : decode cX6_fruits 7 = .ok (.iload_n 2, 1) := by decide +kernel
theorem dX6_fruits_8 : decode cX6_fruits 8 = .ok (.invokestatic 215, 3) := by decide +kernel
theorem dX6_fruits_11 : decode cX6_fruits 11 = .ok (.ifCond .ne 9, 3) := by decide +kernel
theorem dX6_fruits_14 : decode cX6_fruits 14 = .ok (.aload_n 0, 1) := by decide +kernel
theorem dX6_fruits_15 : decode cX6_fruits 15 = .ok (.iconst (-1), 1) := by decide +kernel
theorem dX6_fruits_16 : decode cX6_fruits 16 = .ok (.invokevirtual 52, 3) := by decide +kernel
theorem dX6_fruits_19 : decode cX6_fruits 19 = .ok (.ireturn, 1) := by decide +kernel
theorem dX6_fruits_20 : decode cX6_fruits 20 = .ok (.aload_n 0, 1) := by decide +kernel
theorem dX6_fruits_21 : decode cX6_fruits 21 = .ok (.getfield 10, 3) := by decide +kernel
theorem dX6_fruits_24 : decode cX6_fruits 24 = .ok (.getfield 86, 3) := by decide +kernel
theorem dX6_fruits_27 : decode cX6_fruits 27 = .ok (.iload_n 1, 1) := by decide +kernel
theorem dX6_fruits_28 : decode cX6_fruits 28 = .ok (.aaload, 1) := by decide +kernel
theorem dX6_fruits_29 : decode cX6_fruits 29 = .ok (.astore_n 3, 1) := by decide +kernel
theorem dX6_fruits_30 : decode cX6_fruits 30 = .ok (.aload_n 3, 1) := by decide +kernel
theorem dX6_fruits_31 : decode cX6_fruits 31 = .ok (.invokevirtual 123, 3) := by decide +kernel
theorem dX6_fruits_34 : decode cX6_fruits 34 = .ok (.ifCond .ne 12, 3) := by decide +kernel
theorem dX6_fruits_37 : decode cX6_fruits 37 = .ok (.aload_n 0, 1) := by decide +kernel
theorem dX6_fruits_38 : decode cX6_fruits 38 = .ok (.aload_n 3, 1) := by decide +kernel
theorem dX6_fruits_39 : decode cX6_fruits 39 = .ok (.invokevirtual 134, 3) := by decide +kernel
theorem dX6_fruits_42 : decode cX6_fruits 42 = .ok (.invokevirtual 52, 3) := by decide +kernel
theorem dX6_fruits_45 : decode cX6_fruits 45 = .ok (.ireturn, 1) := by decide +kernel
theorem dX6_fruits_46 : decode cX6_fruits 46 = .ok (.iload_n 2, 1) := by decide +kernel
theorem dX6_fruits_47 : decode cX6_fruits 47 = .ok (.aload_n 3, 1) := by decide +kernel
theorem dX6_fruits_48 : decode cX6_fruits 48 = .ok (.invokevirtual 218, 3) := by decide +kernel
theorem dX6_fruits_51 : decode cX6_fruits 51 = .ok (.if_icmp .ge 12, 3) := by decide +kernel
theorem dX6_fruits_54 : decode cX6_fruits 54 = .ok (.aload_n 3, 1) := by decide +kernel
theorem dX6_fruits_55 : decode cX6_fruits 55 = .ok (.getfield 235, 3) := by decide +kernel
theorem dX6_fruits_58 : decode cX6_fruits 58 = .ok (.iload_n 2, 1) := by decide +kernel
theorem dX6_fruits_59 : decode cX6_fruits 59 = .ok (.iaload, 1) := by decide +kernel
theorem dX6_fruits_60 : decode cX6_fruits 60 = .ok (.goto 9, 3) := by decide +kernel
theorem dX6_fruits_63 : decode cX6_fruits 63 = .ok (.aload_n 0, 1) := by decide +kernel
theorem dX6_fruits_64 : decode cX6_fruits 64 = .ok (.bipush (-4), 2) := by decide +kernel
theorem dX6_fruits_66 : decode cX6_fruits 66 = .ok (.invokevirtual 52, 3) := by decide +kernel
theorem dX6_fruits_69 : decode cX6_fruits 69 = .ok (.ireturn, 1) := by decide +kernel
theorem cv_6_215 : CS RX6 215 1 I_X6_isPart := ⟨⟨⟨gm 549 (by decide +kernel) rfl, gm 551 (by decide +kernel) rfl, gm 37 (by decide +kernel) rfl, mh_6.1, mh_6.2, by decide +kernel⟩, gm 550 (by decide +kernel) rfl⟩, rfl, rfl⟩
theorem cv_6_218 : CV RX6 218 0 2 I_X2_partCount := ⟨⟨⟨gm 552 (by decide +kernel) rfl, gm 555 (by decide +kernel) rfl, gm 40 (by decide +kernel) rfl, mh_2.1, mh_2.2, by decide +kernel⟩, gm 553 (by decide +kernel) rfl, gm 554 (by decide +kernel) rfl⟩, ⟨_, _, rfl⟩, rfl, rfl⟩
def f_X6_fruits (x1 : Int32) (x2 : Int32) (S : St) : Option (Int32 × St) := if (f_X6_isPlace x1) = true then (if (f_X6_isPart x2) = true then (if inb x1 12 = true then (if (f_X2_isTree (20 + 2 * ix x1) S) = true then (if x2 < (f_X2_partCount (20 + 2 * ix x1) S) then (if inb x2 2 = true then (some ((rd S ((20 + 2 * ix x1) + 1) (ix x2)), S)) else none) else (some (((f_X6_finding (-4 : Int32) S).1), (f_X6_finding (-4 : Int32) S).2))) else (some (((f_X6_finding (f_X2_whyNoTree (20 + 2 * ix x1) S) S).1), (f_X6_finding (f_X2_whyNoTree (20 + 2 * ix x1) S) S).2))) else none) else (some (((f_X6_finding (-1 : Int32) S).1), (f_X6_finding (-1 : Int32) S).2))) else (some (((f_X6_finding (-1 : Int32) S).1), (f_X6_finding (-1 : Int32) S).2))
set_option maxRecDepth 100000 in
set_option maxHeartbeats 4000000 in
theorem m_X6_fruits (l : Launch) (w : Wd) (x1 : Int32) (x2 : Int32) (S : St)  : J l w I_X6_fruits 0 [(0, .ref (w.2.1 + 0)), (1, .int x1), (2, .int x2)] [] S (fun b => (some (.int b.1), b.2)) (f_X6_fruits x1 x2 S) := by
  unfold f_X6_fruits
  refine j_iload_n (y := I_X6_fruits) 1 dX6_fruits_0 rfl rfl ?_
  refine j_callSzT (y := I_X6_fruits) (As := [.int x1]) cv_6_83 ⟨Nat.le_of_ble_eq_true rfl, Nat.le_of_ble_eq_true rfl⟩ rfl (Nat.le_of_ble_eq_true rfl) dX6_fruits_1 (c_X6_isPlace l w x1 S) ?_
  refine j_if_eqB (y := I_X6_fruits) 14 dX6_fruits_4 (by decide) (fun h4 => ?_) (fun h4 => ?_)
  · refine j_aload_n (y := I_X6_fruits) 0 dX6_fruits_14 rfl rfl ?_
    refine j_iconst (y := I_X6_fruits) (v := -1) dX6_fruits_15 (by decide) ?_
    refine j_callViT (y := I_X6_fruits) (As := [.int (-1 : Int32)]) cv_6_52 ⟨Nat.le_of_ble_eq_true rfl, Nat.le_of_ble_eq_true rfl⟩ k_0 rfl (Nat.le_of_ble_eq_true rfl) dX6_fruits_16 (c_X6_finding l w (-1 : Int32) S) ?_
    exact j_iret (y := I_X6_fruits) rfl dX6_fruits_19 rfl
  · refine j_iload_n (y := I_X6_fruits) 2 dX6_fruits_7 rfl rfl ?_
    refine j_callSzT (y := I_X6_fruits) (As := [.int x2]) cv_6_215 ⟨Nat.le_of_ble_eq_true rfl, Nat.le_of_ble_eq_true rfl⟩ rfl (Nat.le_of_ble_eq_true rfl) dX6_fruits_8 (c_X6_isPart l w x2 S) ?_
    refine j_if_neB (y := I_X6_fruits) 20 dX6_fruits_11 (by decide) (fun h11 => ?_) (fun h11 => ?_)
    · refine j_aload_n (y := I_X6_fruits) 0 dX6_fruits_20 rfl rfl ?_
      refine j_getR (y := I_X6_fruits) (j := 1) fl_6_10 k_0 rfl rfl dX6_fruits_21 ?_
      refine j_getR (y := I_X6_fruits) (j := 3) fl_6_86 k_1 rfl rfl dX6_fruits_24 ?_
      refine j_iload_n (y := I_X6_fruits) 1 dX6_fruits_27 rfl rfl ?_
      refine j_aald (y := I_X6_fruits) (j := (20 + 2 * ix x1)) (tt := 1) k_3 rfl (rho_3 _) dX6_fruits_28 (fun h28 => ?_)
      refine j_astore_n (y := I_X6_fruits) (ls' := [(3, .ref (w.2.1 + (20 + 2 * ix x1))), (0, .ref (w.2.1 + 0)), (1, .int x1), (2, .int x2)]) dX6_fruits_29 rfl (by decide) rfl ?_
      refine j_aload_n (y := I_X6_fruits) 0 dX6_fruits_30 rfl rfl ?_
      refine j_callVzT (y := I_X6_fruits) (As := []) cv_6_123 ⟨Nat.le_of_ble_eq_true rfl, Nat.le_of_ble_eq_true rfl⟩ (kd_Pl _ (inb_lt h28)) rfl (Nat.le_of_ble_eq_true rfl) dX6_fruits_31 (c_X2_isTree l w (20 + 2 * ix x1) S (kd_Pl _ (inb_lt h28))) ?_
      refine j_if_neB (y := I_X6_fruits) 46 dX6_fruits_34 (by decide) (fun h34 => ?_) (fun h34 => ?_)
      · refine j_iload_n (y := I_X6_fruits) 3 dX6_fruits_46 rfl rfl ?_
        refine j_aload_n (y := I_X6_fruits) 0 dX6_fruits_47 rfl rfl ?_
        refine j_callViT (y := I_X6_fruits) (As := []) cv_6_218 ⟨Nat.le_of_ble_eq_true rfl, Nat.le_of_ble_eq_true rfl⟩ (kd_Pl _ (inb_lt h28)) rfl (Nat.le_of_ble_eq_true rfl) dX6_fruits_48 (c_X2_partCount l w (20 + 2 * ix x1) S (kd_Pl _ (inb_lt h28))) ?_
        refine j_icmp_ge (y := I_X6_fruits) 63 dX6_fruits_51 (by decide) (fun h51 => ?_) (fun h51 => ?_)
        · refine j_aload_n (y := I_X6_fruits) 1 dX6_fruits_63 rfl rfl ?_
          refine j_bipush (y := I_X6_fruits) (v := -4) dX6_fruits_64 (by decide) ?_
          refine j_callViT (y := I_X6_fruits) (As := [.int (-4 : Int32)]) cv_6_52 ⟨Nat.le_of_ble_eq_true rfl, Nat.le_of_ble_eq_true rfl⟩ k_0 rfl (Nat.le_of_ble_eq_true rfl) dX6_fruits_66 (c_X6_finding l w (-4 : Int32) S) ?_
          exact j_iret (y := I_X6_fruits) rfl dX6_fruits_69 rfl
        · refine j_aload_n (y := I_X6_fruits) 0 dX6_fruits_54 rfl rfl ?_
          refine j_getR (y := I_X6_fruits) (j := ((20 + 2 * ix x1) + 1)) fl_6_235 (kd_Pl _ (inb_lt h28)) rfl rfl dX6_fruits_55 ?_
          refine j_iload_n (y := I_X6_fruits) 3 dX6_fruits_58 rfl rfl ?_
          refine j_iald (y := I_X6_fruits) (kd_PlaceA (kd_Pl _ (inb_lt h28))) dX6_fruits_59 (fun h59 => ?_)
          refine j_goto (y := I_X6_fruits) 69 dX6_fruits_60 (by decide) ?_
          exact j_iret (y := I_X6_fruits) rfl dX6_fruits_69 rfl
      · refine j_aload_n (y := I_X6_fruits) 1 dX6_fruits_37 rfl rfl ?_
        refine j_aload_n (y := I_X6_fruits) 0 dX6_fruits_38 rfl rfl ?_
        refine j_callViT (y := I_X6_fruits) (As := []) cv_6_134 ⟨Nat.le_of_ble_eq_true rfl, Nat.le_of_ble_eq_true rfl⟩ (kd_Pl _ (inb_lt h28)) rfl (Nat.le_of_ble_eq_true rfl) dX6_fruits_39 (c_X2_whyNoTree l w (20 + 2 * ix x1) S (kd_Pl _ (inb_lt h28))) ?_
        refine j_callViT (y := I_X6_fruits) (As := [.int (f_X2_whyNoTree (20 + 2 * ix x1) S)]) cv_6_52 ⟨Nat.le_of_ble_eq_true rfl, Nat.le_of_ble_eq_true rfl⟩ k_0 rfl (Nat.le_of_ble_eq_true rfl) dX6_fruits_42 (c_X6_finding l w (f_X2_whyNoTree (20 + 2 * ix x1) S) S) ?_
        exact j_iret (y := I_X6_fruits) rfl dX6_fruits_45 rfl
    · refine j_aload_n (y := I_X6_fruits) 0 dX6_fruits_14 rfl rfl ?_
      refine j_iconst (y := I_X6_fruits) (v := -1) dX6_fruits_15 (by decide) ?_
      refine j_callViT (y := I_X6_fruits) (As := [.int (-1 : Int32)]) cv_6_52 ⟨Nat.le_of_ble_eq_true rfl, Nat.le_of_ble_eq_true rfl⟩ k_0 rfl (Nat.le_of_ble_eq_true rfl) dX6_fruits_16 (c_X6_finding l w (-1 : Int32) S) ?_
      exact j_iret (y := I_X6_fruits) rfl dX6_fruits_19 rfl
theorem c_X6_fruits (l : Launch) (w : Wd) (x1 : Int32) (x2 : Int32) (S : St)  : ∀ v, f_X6_fruits x1 x2 S = some v → CtS l w I_X6_fruits [.ref (w.2.1 + 0), .int x1, .int x2] S v.2 (some (.int v.1)) := fun v h => J.ct (av := [.ref (w.2.1 + 0), .int x1, .int x2]) (Nat.le_of_ble_eq_true rfl) pn_6 (m_X6_fruits l w x1 x2 S ) h
abbrev I_X6_given : MI := (yX6_given, cX6_given, 2, some .int, { frames := 2, cells := 0, slots := 0, locals := 42 })
theorem dX6_given_0 : decode cX6_given 0 = .ok (.aload_n 0, 1) := by decide +kernel
theorem dX6_given_1 : decode cX6_given 1 = .ok (.getfield 40, 3) := by decide +kernel
theorem dX6_given_4 : decode cX6_given 4 = .ok (.getfield 267, 3) := by decide +kernel
theorem dX6_given_7 : decode cX6_given 7 = .ok (.ifCond .ne 10, 3) := by decide +kernel
theorem dX6_given_10 : decode cX6_given 10 = .ok (.aload_n 0, 1) := by decide +kernel
theorem dX6_given_11 : decode cX6_given 11 = .ok (.bipush (-6), 2) := by decide +kernel
theorem dX6_given_13 : decode cX6_given 13 = .ok (.invokevirtual 52, 3) := by decide +kernel
theorem dX6_given_16 : decode cX6_given 16 = .ok (.ireturn, 1) := by decide +kernel
theorem dX6_given_17 : decode cX6_given 17 = .ok (.iload_n 1, 1) := by decide +kernel
theorem dX6_given_18 : decode cX6_given 18 = .ok (.invokestatic 83, 3) := by decide +kernel
theorem dX6_given_21 : decode cX6_given 21 = .ok (.ifCond .eq 19, 3) := by decide +kernel
theorem dX6_given_24 : decode cX6_given 24 = .ok (.aload_n 0, 1) := by decide +kernel
theorem dX6_given_25 : decode cX6_given 25 = .ok (.getfield 10, 3) := by decide +kernel
theorem dX6_given_28 : decode cX6_given 28 = .ok (.getfield 86, 3) := by decide +kernel
theorem dX6_given_31 : decode cX6_given 31 = .ok (.iload_n 1, 1) := by decide +kernel
theorem dX6_given_32 : decode cX6_given 32 = .ok (.aaload, 1) := by decide +kernel
theorem dX6_given_33 : decode cX6_given 33 = .ok (.getfield 90, 3) := by decide +kernel
theorem dX6_given_36 : decode cX6_given 36 = .ok (.iconst 1, 1) := by decide +kernel
theorem dX6_given_37 : decode cX6_given 37 = .ok (.if_icmp .eq 9, 3) := by decide +kernel
theorem dX6_given_40 : decode cX6_given 40 = .ok (.aload_n 0, 1) := by decide +kernel
theorem dX6_given_41 : decode cX6_given 41 = .ok (.iconst (-1), 1) := by decide +kernel
theorem dX6_given_42 : decode cX6_given 42 = .ok (.invokevirtual 52, 3) := by decide +kernel
theorem dX6_given_45 : decode cX6_given 45 = .ok (.ireturn, 1) := by decide +kernel
theorem dX6_given_46 : decode cX6_given 46 = .ok (.aload_n 0, 1) := by decide +kernel
theorem dX6_given_47 : decode cX6_given 47 = .ok (.getfield 40, 3) := by decide +kernel
theorem dX6_given_50 : decode cX6_given 50 = .ok (.getfield 289, 3) := by decide +kernel
theorem dX6_given_53 : decode cX6_given 53 = .ok (.iload_n 1, 1) := by decide +kernel
theorem dX6_given_54 : decode cX6_given 54 = .ok (.iaload, 1) := by decide +kernel
theorem dX6_given_55 : decode cX6_given 55 = .ok (.ireturn, 1) := by decide +kernel
def f_X6_given (x1 : Int32) (S : St) : Option (Int32 × St) := if (rd S 101 0) = 0 then (some (((f_X6_finding (-6 : Int32) S).1), (f_X6_finding (-6 : Int32) S).2)) else (if (f_X6_isPlace x1) = true then (if inb x1 12 = true then (if (rd S (20 + 2 * ix x1) 2) = (1 : Int32) then (if inb x1 12 = true then (some ((rd S 104 (ix x1)), S)) else none) else (some (((f_X6_finding (-1 : Int32) S).1), (f_X6_finding (-1 : Int32) S).2))) else none) else (some (((f_X6_finding (-1 : Int32) S).1), (f_X6_finding (-1 : Int32) S).2)))
set_option maxRecDepth 100000 in
set_option maxHeartbeats 4000000 in
theorem m_X6_given (l : Launch) (w : Wd) (x1 : Int32) (S : St)  : J l w I_X6_given 0 [(0, .ref (w.2.1 + 0)), (1, .int x1)] [] S (fun b => (some (.int b.1), b.2)) (f_X6_given x1 S) := by
  unfold f_X6_given
  refine j_aload_n (y := I_X6_given) 0 dX6_given_0 rfl rfl ?_
  refine j_getR (y := I_X6_given) (j := 101) fl_6_40 k_0 rfl rfl dX6_given_1 ?_
  refine j_getI (y := I_X6_given) fl_6_267 k_101 rfl dX6_given_4 ?_
  refine j_if_ne (y := I_X6_given) 17 dX6_given_7 (by decide) (fun h7 => ?_) (fun h7 => ?_)
  · refine j_iload_n (y := I_X6_given) 1 dX6_given_17 rfl rfl ?_
    refine j_callSzT (y := I_X6_given) (As := [.int x1]) cv_6_83 ⟨Nat.le_of_ble_eq_true rfl, Nat.le_of_ble_eq_true rfl⟩ rfl (Nat.le_of_ble_eq_true rfl) dX6_given_18 (c_X6_isPlace l w x1 S) ?_
    refine j_if_eqB (y := I_X6_given) 40 dX6_given_21 (by decide) (fun h21 => ?_) (fun h21 => ?_)
    · refine j_aload_n (y := I_X6_given) 0 dX6_given_40 rfl rfl ?_
      refine j_iconst (y := I_X6_given) (v := -1) dX6_given_41 (by decide) ?_
      refine j_callViT (y := I_X6_given) (As := [.int (-1 : Int32)]) cv_6_52 ⟨Nat.le_of_ble_eq_true rfl, Nat.le_of_ble_eq_true rfl⟩ k_0 rfl (Nat.le_of_ble_eq_true rfl) dX6_given_42 (c_X6_finding l w (-1 : Int32) S) ?_
      exact j_iret (y := I_X6_given) rfl dX6_given_45 rfl
    · refine j_aload_n (y := I_X6_given) 0 dX6_given_24 rfl rfl ?_
      refine j_getR (y := I_X6_given) (j := 1) fl_6_10 k_0 rfl rfl dX6_given_25 ?_
      refine j_getR (y := I_X6_given) (j := 3) fl_6_86 k_1 rfl rfl dX6_given_28 ?_
      refine j_iload_n (y := I_X6_given) 1 dX6_given_31 rfl rfl ?_
      refine j_aald (y := I_X6_given) (j := (20 + 2 * ix x1)) (tt := 1) k_3 rfl (rho_3 _) dX6_given_32 (fun h32 => ?_)
      refine j_getI (y := I_X6_given) fl_6_90 (kd_Pl _ (inb_lt h32)) rfl dX6_given_33 ?_
      refine j_iconst (y := I_X6_given) (v := 1) dX6_given_36 (by decide) ?_
      refine j_icmp_eq (y := I_X6_given) 46 dX6_given_37 (by decide) (fun h37 => ?_) (fun h37 => ?_)
      · refine j_aload_n (y := I_X6_given) 0 dX6_given_46 rfl rfl ?_
        refine j_getR (y := I_X6_given) (j := 101) fl_6_40 k_0 rfl rfl dX6_given_47 ?_
        refine j_getR (y := I_X6_given) (j := 104) fl_6_289 k_101 rfl rfl dX6_given_50 ?_
        refine j_iload_n (y := I_X6_given) 1 dX6_given_53 rfl rfl ?_
        refine j_iald (y := I_X6_given) k_104 dX6_given_54 (fun h54 => ?_)
        exact j_iret (y := I_X6_given) rfl dX6_given_55 rfl
      · refine j_aload_n (y := I_X6_given) 0 dX6_given_40 rfl rfl ?_
        refine j_iconst (y := I_X6_given) (v := -1) dX6_given_41 (by decide) ?_
        refine j_callViT (y := I_X6_given) (As := [.int (-1 : Int32)]) cv_6_52 ⟨Nat.le_of_ble_eq_true rfl, Nat.le_of_ble_eq_true rfl⟩ k_0 rfl (Nat.le_of_ble_eq_true rfl) dX6_given_42 (c_X6_finding l w (-1 : Int32) S) ?_
        exact j_iret (y := I_X6_given) rfl dX6_given_45 rfl
  · refine j_aload_n (y := I_X6_given) 0 dX6_given_10 rfl rfl ?_
    refine j_bipush (y := I_X6_given) (v := -6) dX6_given_11 (by decide) ?_
    refine j_callViT (y := I_X6_given) (As := [.int (-6 : Int32)]) cv_6_52 ⟨Nat.le_of_ble_eq_true rfl, Nat.le_of_ble_eq_true rfl⟩ k_0 rfl (Nat.le_of_ble_eq_true rfl) dX6_given_13 (c_X6_finding l w (-6 : Int32) S) ?_
    exact j_iret (y := I_X6_given) rfl dX6_given_16 rfl
theorem c_X6_given (l : Launch) (w : Wd) (x1 : Int32) (S : St)  : ∀ v, f_X6_given x1 S = some v → CtS l w I_X6_given [.ref (w.2.1 + 0), .int x1] S v.2 (some (.int v.1)) := fun v h => J.ct (av := [.ref (w.2.1 + 0), .int x1]) (Nat.le_of_ble_eq_true rfl) pn_6 (m_X6_given l w x1 S ) h
abbrev I_X6_go : MI := (yX6_go, cX6_go, 4, some .int, { frames := 6, cells := 0, slots := 0, locals := 146 })
theorem dX6_go_0 : decode cX6_go 0 = .ok (.iload_n 1, 1) := by decide +kernel
theorem dX6_go_1 : decode cX6_go 1 = .ok (.iconst 1, 1) := by decide +kernel
theorem dX6_go_2 : decode cX6_go 2 = .ok (.bipush 50, 2) := by decide +kernel
theorem dX6_go_4 : decode cX6_go 4 = .ok (.invokestatic 48, 3) := by decide +kernel
theorem dX6_go_7 : decode cX6_go 7 = .ok (.ifCond .ne 9, 3) := by decide +kernel
theorem dX6_go_10 : decode cX6_go 10 = .ok (.aload_n 0, 1) := by decide +kernel
theorem dX6_go_11 : decode cX6_go 11 = .ok (.iconst (-1), 1) := by decide +kernel
theorem dX6_go_12 : decode cX6_go 12 = .ok (.invokevirtual 52, 3) := by decide +kernel
theorem dX6_go_15 : decode cX6_go 15 = .ok (.ireturn, 1) := by decide +kernel
theorem dX6_go_16 : decode cX6_go 16 = .ok (.aload_n 0, 1) := by decide +kernel
theorem dX6_go_17 : decode cX6_go 17 = .ok (.getfield 33, 3) := by decide +kernel
theorem dX6_go_20 : decode cX6_go 20 = .ok (.aload_n 0, 1) := by decide +kernel
theorem dX6_go_21 : decode cX6_go 21 = .ok (.getfield 10, 3) := by decide +kernel
theorem dX6_go_24 : decode cX6_go 24 = .ok (.aload_n 0, 1) := by decide +kernel
theorem dX6_go_25 : decode cX6_go 25 = .ok (.invokevirtual 185, 3) := by decide +kernel
theorem dX6_go_28 : decode cX6_go 28 = .ok (.invokevirtual 193, 3) := by decide +kernel
theorem dX6_go_31 : decode cX6_go 31 = .ok (.iload_n 1, 1) := by decide +kernel
theorem dX6_go_32 : decode cX6_go 32 = .ok (.bipush 50, 2) := by decide +kernel
theorem dX6_go_34 : decode cX6_go 34 = .ok (.aload_n 0, 1) := by decide +kernel
theorem dX6_go_35 : decode cX6_go 35 = .ok (.getfield 10, 3) := by decide +kernel
theorem dX6_go_38 : decode cX6_go 38 = .ok (.getfield 206, 3) := by decide +kernel
theorem dX6_go_41 : decode cX6_go 41 = .ok (.isub, 1) := by decide +kernel
theorem dX6_go_42 : decode cX6_go 42 = .ok (.invokestatic 225, 3) := by decide +kernel
theorem dX6_go_45 : decode cX6_go 45 = .ok (.istore_n 2, 1) := by decide +kernel
theorem dX6_go_46 : decode cX6_go 46 = .ok (.iconst 0, 1) := by decide +kernel
theorem dX6_go_47 : decode cX6_go 47 = .ok (.istore_n 3, 1) := by decide +kernel
theorem dX6_go_48 : decode cX6_go 48 = .ok (.iload_n 3, 1) := by decide +kernel
theorem dX6_go_49 : decode cX6_go 49 = .ok (.iload_n 2, 1) := by decide +kernel
theorem dX6_go_50 : decode cX6_go 50 = .ok (.if_icmp .ge 20, 3) := by decide +kernel
theorem dX6_go_53 : decode cX6_go 53 = .ok (.aload_n 0, 1) := by decide +kernel
theorem dX6_go_54 : decode cX6_go 54 = .ok (.getfield 10, 3) := by decide +kernel
theorem dX6_go_57 : decode cX6_go 57 = .ok (.aload_n 0, 1) := by decide +kernel
theorem dX6_go_58 : decode cX6_go 58 = .ok (.getfield 33, 3) := by decide +kernel
theorem dX6_go_61 : decode cX6_go 61 = .ok (.invokevirtual 228, 3) := by decide +kernel
theorem dX6_go_64 : decode cX6_go 64 = .ok (.iinc 3 1, 3) := by decide +kernel
theorem dX6_go_67 : decode cX6_go 67 = .ok (.goto (-19), 3) := by decide +kernel
theorem dX6_go_70 : decode cX6_go 70 = .ok (.aload_n 0, 1) := by decide +kernel
theorem dX6_go_71 : decode cX6_go 71 = .ok (.getfield 10, 3) := by decide +kernel
theorem dX6_go_74 : decode cX6_go 74 = .ok (.getfield 206, 3) := by decide +kernel
theorem dX6_go_77 : decode cX6_go 77 = .ok (.bipush 50, 2) := by decide +kernel
theorem dX6_go_79 : decode cX6_go 79 = .ok (.if_icmp .lt 10, 3) := by decide +kernel
theorem dX6_go_82 : decode cX6_go 82 = .ok (.aload_n 0, 1) := by decide +kernel
theorem dX6_go_83 : decode cX6_go 83 = .ok (.getfield 10, 3) := by decide +kernel
theorem dX6_go_86 : decode cX6_go 86 = .ok (.invokevirtual 232, 3) := by decide +kernel
theorem dX6_go_89 : decode cX6_go 89 = .ok (.iload_n 2, 1) := by decide +kernel
theorem dX6_go_90 : decode cX6_go 90 = .ok (.ireturn, 1) := by decide +kernel
theorem cv_6_228 : CV RX6 228 1 0 I_X0_doDay := ⟨⟨⟨gm 587 (by decide +kernel) rfl, gm 590 (by decide +kernel) rfl, gm 38 (by decide +kernel) rfl, mh_0.1, mh_0.2, by decide +kernel⟩, gm 588 (by decide +kernel) rfl, gm 589 (by decide +kernel) rfl⟩, ⟨_, _, rfl⟩, rfl, rfl⟩
theorem cv_6_232 : CV RX6 232 0 0 I_X0_endYear := ⟨⟨⟨gm 647 (by decide +kernel) rfl, gm 650 (by decide +kernel) rfl, gm 38 (by decide +kernel) rfl, mh_0.1, mh_0.2, by decide +kernel⟩, gm 648 (by decide +kernel) rfl, gm 649 (by decide +kernel) rfl⟩, ⟨_, _, rfl⟩, rfl, rfl⟩
def f_X6_go_L48 (fuel : Nat) (K : Int32 → St → Option (Int32 × St)) (a48_2 : Int32) (a48_3 : Int32) (S48 : St) : Option (Int32 × St) := match fuel with
  | 0 => none
  | n + 1 => if a48_3 < a48_2 then ((f_X0_doDay S48).bind fun v61 => (f_X6_go_L48 n K a48_2 (a48_3 + (1 : Int32)) v61)) else (K a48_2 S48)
def f_X6_go (x1 : Int32) (S : St) : Option (Int32 × St) := if (f_X6_within x1 (1 : Int32) (50 : Int32)) = true then ((f_X6_namedSheet S).bind fun v25 => ((f_X3_readYear v25 S).bind fun v28 => (f_X6_go_L48 6000 (fun e70_2 T70 => (if (rd T70 1 5) < (50 : Int32) then (some (e70_2, T70)) else ((f_X0_endYear T70).bind fun v86 => (some (e70_2, v86))))) (mnI x1 ((50 : Int32) - (rd v28 1 5))) (0 : Int32) v28))) else (some (((f_X6_finding (-1 : Int32) S).1), (f_X6_finding (-1 : Int32) S).2))
set_option maxRecDepth 100000 in
theorem jl_X6_go_48 (l : Launch) (w : Wd) (K : Int32 → St → Option (Int32 × St)) (n : Nat) : ∀ (a48_2 : Int32) (a48_3 : Int32) (S48 : St), (∀ (e70_2 : Int32) (S' : St) , J l w I_X6_go 70 [(0, .ref (w.2.1 + 0)), (2, .int e70_2)] [] S' (fun b => (some (.int b.1), b.2)) (K e70_2 S')) → J l w I_X6_go 48 [(0, .ref (w.2.1 + 0)), (2, .int a48_2), (3, .int a48_3)] [] S48 (fun b => (some (.int b.1), b.2)) (f_X6_go_L48 n K a48_2 a48_3 S48) := by
  induction n with
  | zero =>
    intro a48_2 a48_3 S48 hK b h
    simp only [f_X6_go_L48] at h
    cases h
  | succ n ih =>
    intro a48_2 a48_3 S48 hK
    rw [f_X6_go_L48]
    refine j_iload_n (y := I_X6_go) 2 dX6_go_48 rfl rfl ?_
    refine j_iload_n (y := I_X6_go) 1 dX6_go_49 rfl rfl ?_
    refine j_icmp_ge (y := I_X6_go) 70 dX6_go_50 (by decide) (fun h50 => ?_) (fun h50 => ?_)
    · refine j_sub [0, 1] rfl ?_
      exact hK a48_2 S48
    · refine j_aload_n (y := I_X6_go) 0 dX6_go_53 rfl rfl ?_
      refine j_getR (y := I_X6_go) (j := 1) fl_6_10 k_0 rfl rfl dX6_go_54 ?_
      refine j_aload_n (y := I_X6_go) 0 dX6_go_57 rfl rfl ?_
      refine j_getR (y := I_X6_go) (j := 96) fl_6_33 k_0 rfl rfl dX6_go_58 ?_
      refine j_callVvS (y := I_X6_go) (As := [.ref (w.2.1 + 96)]) cv_6_228 ⟨Nat.le_of_ble_eq_true rfl, Nat.le_of_ble_eq_true rfl⟩ k_1 rfl (Nat.le_of_ble_eq_true rfl) dX6_go_61 (c_X0_doDay l w S48) (fun v61 h61 => ?_)
      refine j_iinc (y := I_X6_go) 2 (ls' := [(3, .int (a48_3 + (1 : Int32))), (0, .ref (w.2.1 + 0)), (2, .int a48_2)]) dX6_go_64 rfl (ii _ _ (by decide) _) (by decide) rfl ?_
      refine j_goto (y := I_X6_go) 48 dX6_go_67 (by decide) ?_
      refine j_sub [1, 2, 0] rfl ?_
      exact ih a48_2 (a48_3 + (1 : Int32)) v61 hK
set_option maxRecDepth 100000 in
set_option maxHeartbeats 4000000 in
theorem m_X6_go (l : Launch) (w : Wd) (x1 : Int32) (S : St)  : J l w I_X6_go 0 [(0, .ref (w.2.1 + 0)), (1, .int x1)] [] S (fun b => (some (.int b.1), b.2)) (f_X6_go x1 S) := by
  unfold f_X6_go
  refine j_iload_n (y := I_X6_go) 1 dX6_go_0 rfl rfl ?_
  refine j_iconst (y := I_X6_go) (v := 1) dX6_go_1 (by decide) ?_
  refine j_bipush (y := I_X6_go) (v := 50) dX6_go_2 (by decide) ?_
  refine j_callSzT (y := I_X6_go) (As := [.int x1, .int (1 : Int32), .int (50 : Int32)]) cv_6_48 ⟨Nat.le_of_ble_eq_true rfl, Nat.le_of_ble_eq_true rfl⟩ rfl (Nat.le_of_ble_eq_true rfl) dX6_go_4 (c_X6_within l w x1 (1 : Int32) (50 : Int32) S) ?_
  refine j_if_neB (y := I_X6_go) 16 dX6_go_7 (by decide) (fun h7 => ?_) (fun h7 => ?_)
  · refine j_aload_n (y := I_X6_go) 0 dX6_go_16 rfl rfl ?_
    refine j_getR (y := I_X6_go) (j := 96) fl_6_33 k_0 rfl rfl dX6_go_17 ?_
    refine j_aload_n (y := I_X6_go) 0 dX6_go_20 rfl rfl ?_
    refine j_getR (y := I_X6_go) (j := 1) fl_6_10 k_0 rfl rfl dX6_go_21 ?_
    refine j_aload_n (y := I_X6_go) 0 dX6_go_24 rfl rfl ?_
    refine j_callVqR (y := I_X6_go) (As := []) cv_6_185 ⟨Nat.le_of_ble_eq_true rfl, Nat.le_of_ble_eq_true rfl⟩ k_0 rfl (Nat.le_of_ble_eq_true rfl) dX6_go_25 (c_X6_namedSheet l w S) (fun v25 h25 => ?_)
    refine j_callVvS (y := I_X6_go) (As := [.ref (w.2.1 + 1), va_rf (Option.map (fun j => w.2.1 + j) v25)]) cv_6_193 ⟨Nat.le_of_ble_eq_true rfl, Nat.le_of_ble_eq_true rfl⟩ k_96 rfl (Nat.le_of_ble_eq_true rfl) dX6_go_28 (c_X3_readYear l w v25 S (hq_X6_namedSheet S v25 h25)) (fun v28 h28 => ?_)
    refine j_iload_n (y := I_X6_go) 1 dX6_go_31 rfl rfl ?_
    refine j_bipush (y := I_X6_go) (v := 50) dX6_go_32 (by decide) ?_
    refine j_aload_n (y := I_X6_go) 0 dX6_go_34 rfl rfl ?_
    refine j_getR (y := I_X6_go) (j := 1) fl_6_10 k_0 rfl rfl dX6_go_35 ?_
    refine j_getI (y := I_X6_go) fl_6_206 k_1 rfl dX6_go_38 ?_
    refine j_isub (y := I_X6_go) dX6_go_41 ?_
    refine j_mmin (y := I_X6_go) (gm 586 (by decide +kernel) rfl) (Nat.le_of_ble_eq_true rfl) (Nat.le_of_ble_eq_true rfl) dX6_go_42 ?_
    refine j_istore_n (y := I_X6_go) (ls' := [(2, .int (mnI x1 ((50 : Int32) - (rd v28 1 5)))), (0, .ref (w.2.1 + 0)), (1, .int x1)]) dX6_go_45 rfl (by decide) rfl ?_
    refine j_iconst (y := I_X6_go) (v := 0) dX6_go_46 (by decide) ?_
    refine j_istore_n (y := I_X6_go) (ls' := [(3, .int (0 : Int32)), (2, .int (mnI x1 ((50 : Int32) - (rd v28 1 5)))), (0, .ref (w.2.1 + 0)), (1, .int x1)]) dX6_go_47 rfl (by decide) rfl ?_
    refine j_sub [2, 1, 0] rfl ?_
    refine jl_X6_go_48 l w _ 6000 (mnI x1 ((50 : Int32) - (rd v28 1 5))) (0 : Int32) v28  (fun e70_2 T70 => ?_)
    refine j_aload_n (y := I_X6_go) 0 dX6_go_70 rfl rfl ?_
    refine j_getR (y := I_X6_go) (j := 1) fl_6_10 k_0 rfl rfl dX6_go_71 ?_
    refine j_getI (y := I_X6_go) fl_6_206 k_1 rfl dX6_go_74 ?_
    refine j_bipush (y := I_X6_go) (v := 50) dX6_go_77 (by decide) ?_
    refine j_icmp_lt (y := I_X6_go) 89 dX6_go_79 (by decide) (fun h79 => ?_) (fun h79 => ?_)
    · refine j_iload_n (y := I_X6_go) 1 dX6_go_89 rfl rfl ?_
      exact j_iret (y := I_X6_go) rfl dX6_go_90 rfl
    · refine j_aload_n (y := I_X6_go) 0 dX6_go_82 rfl rfl ?_
      refine j_getR (y := I_X6_go) (j := 1) fl_6_10 k_0 rfl rfl dX6_go_83 ?_
      refine j_callVvS (y := I_X6_go) (As := []) cv_6_232 ⟨Nat.le_of_ble_eq_true rfl, Nat.le_of_ble_eq_true rfl⟩ k_1 rfl (Nat.le_of_ble_eq_true rfl) dX6_go_86 (c_X0_endYear l w T70) (fun v86 h86 => ?_)
      refine j_iload_n (y := I_X6_go) 1 dX6_go_89 rfl rfl ?_
      exact j_iret (y := I_X6_go) rfl dX6_go_90 rfl
  · refine j_aload_n (y := I_X6_go) 0 dX6_go_10 rfl rfl ?_
    refine j_iconst (y := I_X6_go) (v := -1) dX6_go_11 (by decide) ?_
    refine j_callViT (y := I_X6_go) (As := [.int (-1 : Int32)]) cv_6_52 ⟨Nat.le_of_ble_eq_true rfl, Nat.le_of_ble_eq_true rfl⟩ k_0 rfl (Nat.le_of_ble_eq_true rfl) dX6_go_12 (c_X6_finding l w (-1 : Int32) S) ?_
    exact j_iret (y := I_X6_go) rfl dX6_go_15 rfl
theorem c_X6_go (l : Launch) (w : Wd) (x1 : Int32) (S : St)  : ∀ v, f_X6_go x1 S = some v → CtS l w I_X6_go [.ref (w.2.1 + 0), .int x1] S v.2 (some (.int v.1)) := fun v h => J.ct (av := [.ref (w.2.1 + 0), .int x1]) (Nat.le_of_ble_eq_true rfl) pn_6 (m_X6_go l w x1 S ) h
abbrev I_X6_hours : MI := (yX6_hours, cX6_hours, 3, some .int, { frames := 1, cells := 0, slots := 0, locals := 22 })
theorem dX6_hours_0 : decode cX6_hours 0 = .ok (.iload_n 1, 1) := by decide +kernel
theorem dX6_hours_1 : decode cX6_hours 1 = .ok (.iconst 0, 1) := by decide +kernel
theorem dX6_hours_2 : decode cX6_hours 2 = .ok (.sipush 1000, 3) := by decide +kernel
theorem dX6_hours_5 : decode cX6_hours 5 = .ok (.invokestatic 48, 3) := by decide +kernel
theorem dX6_hours_8 : decode cX6_hours 8 = .ok (.ifCond .ne 9, 3) := by decide +kernel
theorem dX6_hours_11 : decode cX6_hours 11 = .ok (.aload_n 0, 1) := by decide +kernel
theorem dX6_hours_12 : decode cX6_hours 12 = .ok (.iconst (-1), 1) := by decide +kernel
theorem dX6_hours_13 : decode cX6_hours 13 = .ok (.invokevirtual 52, 3) := by decide +kernel
theorem dX6_hours_16 : decode cX6_hours 16 = .ok (.ireturn, 1) := by decide +kernel
theorem dX6_hours_17 : decode cX6_hours 17 = .ok (.aload_n 0, 1) := by decide +kernel
theorem dX6_hours_18 : decode cX6_hours 18 = .ok (.getfield 10, 3) := by decide +kernel
theorem dX6_hours_21 : decode cX6_hours 21 = .ok (.getfield 241, 3) := by decide +kernel
theorem dX6_hours_24 : decode cX6_hours 24 = .ok (.istore_n 2, 1) := by decide +kernel
theorem dX6_hours_25 : decode cX6_hours 25 = .ok (.aload_n 0, 1) := by decide +kernel
theorem dX6_hours_26 : decode cX6_hours 26 = .ok (.getfield 10, 3) := by decide +kernel
theorem dX6_hours_29 : decode cX6_hours 29 = .ok (.iload_n 1, 1) := by decide +kernel
theorem dX6_hours_30 : decode cX6_hours 30 = .ok (.putfield 241, 3) := by decide +kernel
theorem dX6_hours_33 : decode cX6_hours 33 = .ok (.iload_n 2, 1) := by decide +kernel
theorem dX6_hours_34 : decode cX6_hours 34 = .ok (.ireturn, 1) := by decide +kernel
def f_X6_hours (x1 : Int32) (S : St) : Int32 × St := if (f_X6_within x1 (0 : Int32) (1000 : Int32)) = true then (((rd S 1 9), (wr S 1 9 x1))) else ((((f_X6_finding (-1 : Int32) S).1), (f_X6_finding (-1 : Int32) S).2))
set_option maxRecDepth 100000 in
set_option maxHeartbeats 4000000 in
theorem m_X6_hours (l : Launch) (w : Wd) (x1 : Int32) (S : St)  : J l w I_X6_hours 0 [(0, .ref (w.2.1 + 0)), (1, .int x1)] [] S (fun b => (some (.int b.1), b.2)) (some (f_X6_hours x1 S)) := by
  unfold f_X6_hours
  refine j_iload_n (y := I_X6_hours) 1 dX6_hours_0 rfl rfl ?_
  refine j_iconst (y := I_X6_hours) (v := 0) dX6_hours_1 (by decide) ?_
  refine j_sipush (y := I_X6_hours) (v := 1000) dX6_hours_2 (by decide) ?_
  refine j_callSzT (y := I_X6_hours) (As := [.int x1, .int (0 : Int32), .int (1000 : Int32)]) cv_6_48 ⟨Nat.le_of_ble_eq_true rfl, Nat.le_of_ble_eq_true rfl⟩ rfl (Nat.le_of_ble_eq_true rfl) dX6_hours_5 (c_X6_within l w x1 (0 : Int32) (1000 : Int32) S) ?_
  refine j_si ?_
  refine j_if_neB (y := I_X6_hours) 17 dX6_hours_8 (by decide) (fun h8 => ?_) (fun h8 => ?_)
  · refine j_aload_n (y := I_X6_hours) 0 dX6_hours_17 rfl rfl ?_
    refine j_getR (y := I_X6_hours) (j := 1) fl_6_10 k_0 rfl rfl dX6_hours_18 ?_
    refine j_getI (y := I_X6_hours) fl_6_241 k_1 rfl dX6_hours_21 ?_
    refine j_istore_n (y := I_X6_hours) (ls' := [(2, .int (rd S 1 9)), (0, .ref (w.2.1 + 0)), (1, .int x1)]) dX6_hours_24 rfl (by decide) rfl ?_
    refine j_aload_n (y := I_X6_hours) 1 dX6_hours_25 rfl rfl ?_
    refine j_getR (y := I_X6_hours) (j := 1) fl_6_10 k_0 rfl rfl dX6_hours_26 ?_
    refine j_iload_n (y := I_X6_hours) 2 dX6_hours_29 rfl rfl ?_
    refine j_putI (y := I_X6_hours) fp_6_241 k_1 rfl rfl rfl dX6_hours_30 ?_
    refine j_iload_n (y := I_X6_hours) 0 dX6_hours_33 rfl rfl ?_
    exact j_iret (y := I_X6_hours) rfl dX6_hours_34 rfl
  · refine j_aload_n (y := I_X6_hours) 0 dX6_hours_11 rfl rfl ?_
    refine j_iconst (y := I_X6_hours) (v := -1) dX6_hours_12 (by decide) ?_
    refine j_callViT (y := I_X6_hours) (As := [.int (-1 : Int32)]) cv_6_52 ⟨Nat.le_of_ble_eq_true rfl, Nat.le_of_ble_eq_true rfl⟩ k_0 rfl (Nat.le_of_ble_eq_true rfl) dX6_hours_13 (c_X6_finding l w (-1 : Int32) S) ?_
    exact j_iret (y := I_X6_hours) rfl dX6_hours_16 rfl
theorem c_X6_hours (l : Launch) (w : Wd) (x1 : Int32) (S : St)  : CtS l w I_X6_hours [.ref (w.2.1 + 0), .int x1] S (f_X6_hours x1 S).2 (some (.int (f_X6_hours x1 S).1)) := J.ct (av := [.ref (w.2.1 + 0), .int x1]) (Nat.le_of_ble_eq_true rfl) pn_6 (m_X6_hours l w x1 S ) rfl
abbrev I_X6_keep : MI := (yX6_keep, cX6_keep, 1, some .int, { frames := 3, cells := 0, slots := 0, locals := 103 })
theorem dX6_keep_0 : decode cX6_keep 0 = .ok (.aload_n 0, 1) := by decide +kernel
theorem dX6_keep_1 : decode cX6_keep 1 = .ok (.getfield 16, 3) := by decide +kernel
theorem dX6_keep_4 : decode cX6_keep 4 = .ok (.aload_n 0, 1) := by decide +kernel
theorem dX6_keep_5 : decode cX6_keep 5 = .ok (.getfield 10, 3) := by decide +kernel
theorem dX6_keep_8 : decode cX6_keep 8 = .ok (.invokevirtual 292, 3) := by decide +kernel
theorem dX6_keep_11 : decode cX6_keep 11 = .ok (.aload_n 0, 1) := by decide +kernel
theorem dX6_keep_12 : decode cX6_keep 12 = .ok (.iconst 1, 1) := by decide +kernel
theorem dX6_keep_13 : decode cX6_keep 13 = .ok (.putfield 19, 3) := by decide +kernel
theorem dX6_keep_16 : decode cX6_keep 16 = .ok (.aload_n 0, 1) := by decide +kernel
theorem dX6_keep_17 : decode cX6_keep 17 = .ok (.getfield 10, 3) := by decide +kernel
theorem dX6_keep_20 : decode cX6_keep 20 = .ok (.getfield 104, 3) := by decide +kernel
theorem dX6_keep_23 : decode cX6_keep 23 = .ok (.ireturn, 1) := by decide +kernel
theorem cv_6_292_a : CV RX6 292 1 0 I_X0_become_a := ⟨⟨⟨gm 765 (by decide +kernel) rfl, gm 768 (by decide +kernel) rfl, gm 38 (by decide +kernel) rfl, mh_0.1, mh_0.2, by decide +kernel⟩, gm 766 (by decide +kernel) rfl, gm 767 (by decide +kernel) rfl⟩, ⟨_, _, rfl⟩, rfl, rfl⟩
def f_X6_keep  (S : St) : Option (Int32 × St) := (f_X0_become_a S).bind fun v8 => (some ((rd (wr v8 0 2 (1 : Int32)) 1 4), (wr v8 0 2 (1 : Int32))))
set_option maxRecDepth 100000 in
set_option maxHeartbeats 4000000 in
theorem m_X6_keep (l : Launch) (w : Wd)  (S : St)  : J l w I_X6_keep 0 [(0, .ref (w.2.1 + 0))] [] S (fun b => (some (.int b.1), b.2)) (f_X6_keep S) := by
  unfold f_X6_keep
  refine j_aload_n (y := I_X6_keep) 0 dX6_keep_0 rfl rfl ?_
  refine j_getR (y := I_X6_keep) (j := 44) fl_6_16 k_0 rfl rfl dX6_keep_1 ?_
  refine j_aload_n (y := I_X6_keep) 0 dX6_keep_4 rfl rfl ?_
  refine j_getR (y := I_X6_keep) (j := 1) fl_6_10 k_0 rfl rfl dX6_keep_5 ?_
  refine j_callVvS (y := I_X6_keep) (As := [.ref (w.2.1 + 1)]) cv_6_292_a ⟨Nat.le_of_ble_eq_true rfl, Nat.le_of_ble_eq_true rfl⟩ k_44 rfl (Nat.le_of_ble_eq_true rfl) dX6_keep_8 (c_X0_become_a l w S) (fun v8 h8 => ?_)
  refine j_aload_n (y := I_X6_keep) 0 dX6_keep_11 rfl rfl ?_
  refine j_iconst (y := I_X6_keep) (v := 1) dX6_keep_12 (by decide) ?_
  refine j_putI (y := I_X6_keep) fp_6_19 k_0 rfl rfl rfl dX6_keep_13 ?_
  refine j_aload_n (y := I_X6_keep) 0 dX6_keep_16 rfl rfl ?_
  refine j_getR (y := I_X6_keep) (j := 1) fl_6_10 k_0 rfl rfl dX6_keep_17 ?_
  refine j_getI (y := I_X6_keep) fl_6_104 k_1 rfl dX6_keep_20 ?_
  exact j_iret (y := I_X6_keep) rfl dX6_keep_23 rfl
theorem c_X6_keep (l : Launch) (w : Wd)  (S : St)  : ∀ v, f_X6_keep S = some v → CtS l w I_X6_keep [.ref (w.2.1 + 0)] S v.2 (some (.int v.1)) := fun v h => J.ct (av := [.ref (w.2.1 + 0)]) (Nat.le_of_ble_eq_true rfl) pn_6 (m_X6_keep l w  S ) h
abbrev I_X6_lone : MI := (yX6_lone, cX6_lone, 3, some .int, { frames := 4, cells := 0, slots := 0, locals := 93 })
theorem dX6_lone_0 : decode cX6_lone 0 = .ok (.iload_n 1, 1) := by decide +kernel
theorem dX6_lone_1 : decode cX6_lone 1 = .ok (.invokestatic 83, 3) := by decide +kernel
theorem dX6_lone_4 : decode cX6_lone 4 = .ok (.ifCond .ne 9, 3) := by decide +kernel
theorem dX6_lone_7 : decode cX6_lone 7 = .ok (.aload_n 0, 1) := by decide +kernel
theorem dX6_lone_8 : decode cX6_lone 8 = .ok (.iconst (-1), 1) := by decide +kernel
theorem dX6_lone_9 : decode cX6_lone 9 = .ok (.invokevirtual 52, 3) := by decide +kernel
theorem dX6_lone_12 : decode cX6_lone 12 = .ok (.ireturn, 1) := by decide +kernel
theorem dX6_lone_13 : decode cX6_lone 13 = .ok (.aload_n 0, 1) := by decide +kernel
theorem dX6_lone_14 : decode cX6_lone 14 = .ok (.getfield 10, 3) := by decide +kernel
theorem dX6_lone_17 : decode cX6_lone 17 = .ok (.getfield 86, 3) := by decide +kernel
theorem dX6_lone_20 : decode cX6_lone 20 = .ok (.iload_n 1, 1) := by decide +kernel
theorem dX6_lone_21 : decode cX6_lone 21 = .ok (.aaload, 1) := by decide +kernel
theorem dX6_lone_22 : decode cX6_lone 22 = .ok (.astore_n 2, 1) := by decide +kernel
theorem dX6_lone_23 : decode cX6_lone 23 = .ok (.aload_n 2, 1) := by decide +kernel
theorem dX6_lone_24 : decode cX6_lone 24 = .ok (.invokevirtual 123, 3) := by decide +kernel
theorem dX6_lone_27 : decode cX6_lone 27 = .ok (.ifCond .ne 12, 3) := by decide +kernel
theorem dX6_lone_30 : decode cX6_lone 30 = .ok (.aload_n 0, 1) := by decide +kernel
theorem dX6_lone_31 : decode cX6_lone 31 = .ok (.aload_n 2, 1) := by decide +kernel
theorem dX6_lone_32 : decode cX6_lone 32 = .ok (.invokevirtual 134, 3) := by decide +kernel
theorem dX6_lone_35 : decode cX6_lone 35 = .ok (.invokevirtual 52, 3) := by decide +kernel
theorem dX6_lone_38 : decode cX6_lone 38 = .ok (.ireturn, 1) := by decide +kernel
theorem dX6_lone_39 : decode cX6_lone 39 = .ok (.aload_n 0, 1) := by decide +kernel
theorem dX6_lone_40 : decode cX6_lone 40 = .ok (.getfield 33, 3) := by decide +kernel
theorem dX6_lone_43 : decode cX6_lone 43 = .ok (.aload_n 0, 1) := by decide +kernel
theorem dX6_lone_44 : decode cX6_lone 44 = .ok (.getfield 10, 3) := by decide +kernel
theorem dX6_lone_47 : decode cX6_lone 47 = .ok (.invokevirtual 259, 3) := by decide +kernel
theorem dX6_lone_50 : decode cX6_lone 50 = .ok (.aload_n 0, 1) := by decide +kernel
theorem dX6_lone_51 : decode cX6_lone 51 = .ok (.getfield 10, 3) := by decide +kernel
theorem dX6_lone_54 : decode cX6_lone 54 = .ok (.aload_n 0, 1) := by decide +kernel
theorem dX6_lone_55 : decode cX6_lone 55 = .ok (.getfield 33, 3) := by decide +kernel
theorem dX6_lone_58 : decode cX6_lone 58 = .ok (.iload_n 1, 1) := by decide +kernel
theorem dX6_lone_59 : decode cX6_lone 59 = .ok (.invokevirtual 263, 3) := by decide +kernel
theorem dX6_lone_62 : decode cX6_lone 62 = .ok (.ifCond .eq 7, 3) := by decide +kernel
theorem dX6_lone_65 : decode cX6_lone 65 = .ok (.iconst 0, 1) := by decide +kernel
theorem dX6_lone_66 : decode cX6_lone 66 = .ok (.goto 4, 3) := by decide +kernel
theorem dX6_lone_69 : decode cX6_lone 69 = .ok (.iconst 1, 1) := by decide +kernel
theorem dX6_lone_70 : decode cX6_lone 70 = .ok (.ireturn, 1) := by decide +kernel
theorem cv_6_263 : CV RX6 263 2 0 I_X0_couldHavePartner := ⟨⟨⟨gm 705 (by decide +kernel) rfl, gm 708 (by decide +kernel) rfl, gm 38 (by decide +kernel) rfl, mh_0.1, mh_0.2, by decide +kernel⟩, gm 706 (by decide +kernel) rfl, gm 707 (by decide +kernel) rfl⟩, ⟨_, _, rfl⟩, rfl, rfl⟩
def f_X6_lone (x1 : Int32) (S : St) : Option (Int32 × St) := if (f_X6_isPlace x1) = true then (if inb x1 12 = true then (if (f_X2_isTree (20 + 2 * ix x1) S) = true then ((f_X3_readTable S).bind fun v47 => ((f_X0_couldHavePartner x1 v47).bind fun v59 => (if v59 = true then (some ((0 : Int32), v47)) else (some ((1 : Int32), v47))))) else (some (((f_X6_finding (f_X2_whyNoTree (20 + 2 * ix x1) S) S).1), (f_X6_finding (f_X2_whyNoTree (20 + 2 * ix x1) S) S).2))) else none) else (some (((f_X6_finding (-1 : Int32) S).1), (f_X6_finding (-1 : Int32) S).2))
set_option maxRecDepth 100000 in
set_option maxHeartbeats 4000000 in
theorem m_X6_lone (l : Launch) (w : Wd) (x1 : Int32) (S : St)  : J l w I_X6_lone 0 [(0, .ref (w.2.1 + 0)), (1, .int x1)] [] S (fun b => (some (.int b.1), b.2)) (f_X6_lone x1 S) := by
  unfold f_X6_lone
  refine j_iload_n (y := I_X6_lone) 1 dX6_lone_0 rfl rfl ?_
  refine j_callSzT (y := I_X6_lone) (As := [.int x1]) cv_6_83 ⟨Nat.le_of_ble_eq_true rfl, Nat.le_of_ble_eq_true rfl⟩ rfl (Nat.le_of_ble_eq_true rfl) dX6_lone_1 (c_X6_isPlace l w x1 S) ?_
  refine j_if_neB (y := I_X6_lone) 13 dX6_lone_4 (by decide) (fun h4 => ?_) (fun h4 => ?_)
  · refine j_aload_n (y := I_X6_lone) 0 dX6_lone_13 rfl rfl ?_
    refine j_getR (y := I_X6_lone) (j := 1) fl_6_10 k_0 rfl rfl dX6_lone_14 ?_
    refine j_getR (y := I_X6_lone) (j := 3) fl_6_86 k_1 rfl rfl dX6_lone_17 ?_
    refine j_iload_n (y := I_X6_lone) 1 dX6_lone_20 rfl rfl ?_
    refine j_aald (y := I_X6_lone) (j := (20 + 2 * ix x1)) (tt := 1) k_3 rfl (rho_3 _) dX6_lone_21 (fun h21 => ?_)
    refine j_astore_n (y := I_X6_lone) (ls' := [(2, .ref (w.2.1 + (20 + 2 * ix x1))), (0, .ref (w.2.1 + 0)), (1, .int x1)]) dX6_lone_22 rfl (by decide) rfl ?_
    refine j_aload_n (y := I_X6_lone) 0 dX6_lone_23 rfl rfl ?_
    refine j_callVzT (y := I_X6_lone) (As := []) cv_6_123 ⟨Nat.le_of_ble_eq_true rfl, Nat.le_of_ble_eq_true rfl⟩ (kd_Pl _ (inb_lt h21)) rfl (Nat.le_of_ble_eq_true rfl) dX6_lone_24 (c_X2_isTree l w (20 + 2 * ix x1) S (kd_Pl _ (inb_lt h21))) ?_
    refine j_if_neB (y := I_X6_lone) 39 dX6_lone_27 (by decide) (fun h27 => ?_) (fun h27 => ?_)
    · refine j_aload_n (y := I_X6_lone) 1 dX6_lone_39 rfl rfl ?_
      refine j_getR (y := I_X6_lone) (j := 96) fl_6_33 k_0 rfl rfl dX6_lone_40 ?_
      refine j_aload_n (y := I_X6_lone) 1 dX6_lone_43 rfl rfl ?_
      refine j_getR (y := I_X6_lone) (j := 1) fl_6_10 k_0 rfl rfl dX6_lone_44 ?_
      refine j_callVvS (y := I_X6_lone) (As := [.ref (w.2.1 + 1)]) cv_6_259 ⟨Nat.le_of_ble_eq_true rfl, Nat.le_of_ble_eq_true rfl⟩ k_96 rfl (Nat.le_of_ble_eq_true rfl) dX6_lone_47 (c_X3_readTable l w S) (fun v47 h47 => ?_)
      refine j_aload_n (y := I_X6_lone) 1 dX6_lone_50 rfl rfl ?_
      refine j_getR (y := I_X6_lone) (j := 1) fl_6_10 k_0 rfl rfl dX6_lone_51 ?_
      refine j_aload_n (y := I_X6_lone) 1 dX6_lone_54 rfl rfl ?_
      refine j_getR (y := I_X6_lone) (j := 96) fl_6_33 k_0 rfl rfl dX6_lone_55 ?_
      refine j_iload_n (y := I_X6_lone) 2 dX6_lone_58 rfl rfl ?_
      refine j_callVzR (y := I_X6_lone) (As := [.ref (w.2.1 + 96), .int x1]) cv_6_263 ⟨Nat.le_of_ble_eq_true rfl, Nat.le_of_ble_eq_true rfl⟩ k_1 rfl (Nat.le_of_ble_eq_true rfl) dX6_lone_59 (c_X0_couldHavePartner l w x1 v47) (fun v59 h59 => ?_)
      refine j_if_eqB (y := I_X6_lone) 69 dX6_lone_62 (by decide) (fun h62 => ?_) (fun h62 => ?_)
      · refine j_iconst (y := I_X6_lone) (v := 1) dX6_lone_69 (by decide) ?_
        exact j_iret (y := I_X6_lone) rfl dX6_lone_70 rfl
      · refine j_iconst (y := I_X6_lone) (v := 0) dX6_lone_65 (by decide) ?_
        refine j_goto (y := I_X6_lone) 70 dX6_lone_66 (by decide) ?_
        exact j_iret (y := I_X6_lone) rfl dX6_lone_70 rfl
    · refine j_aload_n (y := I_X6_lone) 1 dX6_lone_30 rfl rfl ?_
      refine j_aload_n (y := I_X6_lone) 0 dX6_lone_31 rfl rfl ?_
      refine j_callViT (y := I_X6_lone) (As := []) cv_6_134 ⟨Nat.le_of_ble_eq_true rfl, Nat.le_of_ble_eq_true rfl⟩ (kd_Pl _ (inb_lt h21)) rfl (Nat.le_of_ble_eq_true rfl) dX6_lone_32 (c_X2_whyNoTree l w (20 + 2 * ix x1) S (kd_Pl _ (inb_lt h21))) ?_
      refine j_callViT (y := I_X6_lone) (As := [.int (f_X2_whyNoTree (20 + 2 * ix x1) S)]) cv_6_52 ⟨Nat.le_of_ble_eq_true rfl, Nat.le_of_ble_eq_true rfl⟩ k_0 rfl (Nat.le_of_ble_eq_true rfl) dX6_lone_35 (c_X6_finding l w (f_X2_whyNoTree (20 + 2 * ix x1) S) S) ?_
      exact j_iret (y := I_X6_lone) rfl dX6_lone_38 rfl
  · refine j_aload_n (y := I_X6_lone) 0 dX6_lone_7 rfl rfl ?_
    refine j_iconst (y := I_X6_lone) (v := -1) dX6_lone_8 (by decide) ?_
    refine j_callViT (y := I_X6_lone) (As := [.int (-1 : Int32)]) cv_6_52 ⟨Nat.le_of_ble_eq_true rfl, Nat.le_of_ble_eq_true rfl⟩ k_0 rfl (Nat.le_of_ble_eq_true rfl) dX6_lone_9 (c_X6_finding l w (-1 : Int32) S) ?_
    exact j_iret (y := I_X6_lone) rfl dX6_lone_12 rfl
theorem c_X6_lone (l : Launch) (w : Wd) (x1 : Int32) (S : St)  : ∀ v, f_X6_lone x1 S = some v → CtS l w I_X6_lone [.ref (w.2.1 + 0), .int x1] S v.2 (some (.int v.1)) := fun v h => J.ct (av := [.ref (w.2.1 + 0), .int x1]) (Nat.le_of_ble_eq_true rfl) pn_6 (m_X6_lone l w x1 S ) h
abbrev I_X6_name : MI := (yX6_name, cX6_name, 2, some .int, { frames := 2, cells := 0, slots := 0, locals := 42 })
theorem dX6_name_0 : decode cX6_name 0 = .ok (.iload_n 1, 1) := by decide +kernel
theorem dX6_name_1 : decode cX6_name 1 = .ok (.iconst (-1), 1) := by decide +kernel
theorem dX6_name_2 : decode cX6_name 2 = .ok (.if_icmp .eq 16, 3) := by decide +kernel
theorem dX6_name_5 : decode cX6_name 5 = .ok (.iload_n 1, 1) := by decide +kernel
theorem dX6_name_6 : decode cX6_name 6 = .ok (.invokestatic 146, 3) := by decide +kernel
theorem dX6_name_9 : decode cX6_name 9 = .ok (.ifCond .ne 9, 3) := by decide +kernel
theorem dX6_name_12 : decode cX6_name 12 = .ok (.aload_n 0, 1) := by decide +kernel
theorem dX6_name_13 : decode cX6_name 13 = .ok (.iconst (-1), 1) := by decide +kernel
theorem dX6_name_14 : decode cX6_name 14 = .ok (.invokevirtual 52, 3) := by decide +kernel
theorem dX6_name_17 : decode cX6_name 17 = .ok (.ireturn, 1) := by decide +kernel
theorem dX6_name_18 : decode cX6_name 18 = .ok (.aload_n 0, 1) := by decide +kernel
theorem dX6_name_19 : decode cX6_name 19 = .ok (.getfield 10, 3) := by decide +kernel
theorem dX6_name_22 : decode cX6_name 22 = .ok (.iload_n 1, 1) := by decide +kernel
theorem dX6_name_23 : decode cX6_name 23 = .ok (.putfield 179, 3) := by decide +kernel
theorem dX6_name_26 : decode cX6_name 26 = .ok (.iconst 1, 1) := by decide +kernel
theorem dX6_name_27 : decode cX6_name 27 = .ok (.ireturn, 1) := by decide +kernel
def f_X6_name (x1 : Int32) (S : St) : Int32 × St := if x1 = (-1 : Int32) then (((1 : Int32), (wr S 1 10 x1))) else (if (f_X6_isSheet x1) = true then (((1 : Int32), (wr S 1 10 x1))) else ((((f_X6_finding (-1 : Int32) S).1), (f_X6_finding (-1 : Int32) S).2)))
set_option maxRecDepth 100000 in
set_option maxHeartbeats 4000000 in
theorem m_X6_name (l : Launch) (w : Wd) (x1 : Int32) (S : St)  : J l w I_X6_name 0 [(0, .ref (w.2.1 + 0)), (1, .int x1)] [] S (fun b => (some (.int b.1), b.2)) (some (f_X6_name x1 S)) := by
  unfold f_X6_name
  refine j_iload_n (y := I_X6_name) 1 dX6_name_0 rfl rfl ?_
  refine j_iconst (y := I_X6_name) (v := -1) dX6_name_1 (by decide) ?_
  refine j_si ?_
  refine j_icmp_eq (y := I_X6_name) 18 dX6_name_2 (by decide) (fun h2 => ?_) (fun h2 => ?_)
  · refine j_aload_n (y := I_X6_name) 0 dX6_name_18 rfl rfl ?_
    refine j_getR (y := I_X6_name) (j := 1) fl_6_10 k_0 rfl rfl dX6_name_19 ?_
    refine j_iload_n (y := I_X6_name) 1 dX6_name_22 rfl rfl ?_
    refine j_putI (y := I_X6_name) fp_6_179 k_1 rfl rfl rfl dX6_name_23 ?_
    refine j_iconst (y := I_X6_name) (v := 1) dX6_name_26 (by decide) ?_
    exact j_iret (y := I_X6_name) rfl dX6_name_27 rfl
  · refine j_iload_n (y := I_X6_name) 1 dX6_name_5 rfl rfl ?_
    refine j_callSzT (y := I_X6_name) (As := [.int x1]) cv_6_146 ⟨Nat.le_of_ble_eq_true rfl, Nat.le_of_ble_eq_true rfl⟩ rfl (Nat.le_of_ble_eq_true rfl) dX6_name_6 (c_X6_isSheet l w x1 S) ?_
    refine j_si ?_
    refine j_if_neB (y := I_X6_name) 18 dX6_name_9 (by decide) (fun h9 => ?_) (fun h9 => ?_)
    · refine j_aload_n (y := I_X6_name) 0 dX6_name_18 rfl rfl ?_
      refine j_getR (y := I_X6_name) (j := 1) fl_6_10 k_0 rfl rfl dX6_name_19 ?_
      refine j_iload_n (y := I_X6_name) 1 dX6_name_22 rfl rfl ?_
      refine j_putI (y := I_X6_name) fp_6_179 k_1 rfl rfl rfl dX6_name_23 ?_
      refine j_iconst (y := I_X6_name) (v := 1) dX6_name_26 (by decide) ?_
      exact j_iret (y := I_X6_name) rfl dX6_name_27 rfl
    · refine j_aload_n (y := I_X6_name) 0 dX6_name_12 rfl rfl ?_
      refine j_iconst (y := I_X6_name) (v := -1) dX6_name_13 (by decide) ?_
      refine j_callViT (y := I_X6_name) (As := [.int (-1 : Int32)]) cv_6_52 ⟨Nat.le_of_ble_eq_true rfl, Nat.le_of_ble_eq_true rfl⟩ k_0 rfl (Nat.le_of_ble_eq_true rfl) dX6_name_14 (c_X6_finding l w (-1 : Int32) S) ?_
      exact j_iret (y := I_X6_name) rfl dX6_name_17 rfl
theorem c_X6_name (l : Launch) (w : Wd) (x1 : Int32) (S : St)  : CtS l w I_X6_name [.ref (w.2.1 + 0), .int x1] S (f_X6_name x1 S).2 (some (.int (f_X6_name x1 S).1)) := J.ct (av := [.ref (w.2.1 + 0), .int x1]) (Nat.le_of_ble_eq_true rfl) pn_6 (m_X6_name l w x1 S ) rfl
abbrev I_X6_of : MI := (yX6_of, cX6_of, 4, some .int, { frames := 3, cells := 0, slots := 0, locals := 65 })
theorem dX6_of_0 : decode cX6_of 0 = .ok (.iload_n 1, 1) := by decide +kernel
theorem dX6_of_1 : decode cX6_of 1 = .ok (.invokestatic 83, 3) := by decide +kernel
theorem dX6_of_4 : decode cX6_of 4 = .ok (.ifCond .eq 13, 3) := by decide +kernel
theorem dX6_of_7 : decode cX6_of 7 = .ok (.iload_n 2, 1) := by decide +kernel
theorem dX6_of_8 : decode cX6_of 8 = .ok (.iconst 0, 1) := by decide +kernel
theorem dX6_of_9 : decode cX6_of 9 = .ok (.bipush 7, 2) := by decide +kernel
theorem dX6_of_11 : decode cX6_of 11 = .ok (.invokestatic 48, 3) := by decide +kernel
theorem dX6_of_14 : decode cX6_of 14 = .ok (.ifCond .ne 9, 3) := by decide +kernel
theorem dX6_of_17 : decode cX6_of 17 = .ok (.aload_n 0, 1) := by decide +kernel
theorem dX6_of_18 : decode cX6_of 18 = .ok (.iconst (-1), 1) := by decide +kernel
theorem dX6_of_19 : decode cX6_of 19 = .ok (.invokevirtual 52, 3) := by decide +kernel
theorem dX6_of_22 : decode cX6_of 22 = .ok (.ireturn, 1) := by decide +kernel
theorem dX6_of_23 : decode cX6_of 23 = .ok (.aload_n 0, 1) := by decide +kernel
theorem dX6_of_24 : decode cX6_of 24 = .ok (.getfield 10, 3) := by decide +kernel
theorem dX6_of_27 : decode cX6_of 27 = .ok (.getfield 86, 3) := by decide +kernel
theorem dX6_of_30 : decode cX6_of 30 = .ok (.iload_n 1, 1) := by decide +kernel
theorem dX6_of_31 : decode cX6_of 31 = .ok (.aaload, 1) := by decide +kernel
theorem dX6_of_32 : decode cX6_of 32 = .ok (.astore_n 3, 1) := by decide +kernel
theorem dX6_of_33 : decode cX6_of 33 = .ok (.iload_n 2, 1) := by decide +kernel
theorem dX6_of_34 : decode cX6_of 34 = .ok (.ifCond .ne 8, 3) := by decide +kernel
theorem dX6_of_37 : decode cX6_of 37 = .ok (.aload_n 3, 1) := by decide +kernel
theorem dX6_of_38 : decode cX6_of 38 = .ok (.getfield 90, 3) := by decide +kernel
theorem dX6_of_41 : decode cX6_of 41 = .ok (.ireturn, 1) := by decide +kernel
theorem dX6_of_42 : decode cX6_of 42 = .ok (.aload_n 3, 1) := by decide +kernel
theorem dX6_of_43 : decode cX6_of 43 = .ok (.getfield 90, 3) := by decide +kernel
theorem dX6_of_46 : decode cX6_of 46 = .ok (.ifCond .ne 10, 3) := by decide +kernel
theorem dX6_of_49 : decode cX6_of 49 = .ok (.aload_n 0, 1) := by decide +kernel
theorem dX6_of_50 : decode cX6_of 50 = .ok (.bipush (-6), 2) := by decide +kernel
theorem dX6_of_52 : decode cX6_of 52 = .ok (.invokevirtual 52, 3) := by decide +kernel
theorem dX6_of_55 : decode cX6_of 55 = .ok (.ireturn, 1) := by decide +kernel
theorem dX6_of_56 : decode cX6_of 56 = .ok (.aload_n 3, 1) := by decide +kernel
theorem dX6_of_57 : decode cX6_of 57 = .ok (.getfield 90, 3) := by decide +kernel
theorem dX6_of_60 : decode cX6_of 60 = .ok (.iconst 5, 1) := by decide +kernel
theorem dX6_of_61 : decode cX6_of 61 = .ok (.if_icmp .ne 22, 3) := by decide +kernel
theorem dX6_of_64 : decode cX6_of 64 = .ok (.iload_n 2, 1) := by decide +kernel
theorem dX6_of_65 : decode cX6_of 65 = .ok (.iconst 1, 1) := by decide +kernel
theorem dX6_of_66 : decode cX6_of 66 = .ok (.if_icmp .ne 10, 3) := by decide +kernel
theorem dX6_of_69 : decode cX6_of 69 = .ok (.aload_n 3, 1) := by decide +kernel
theorem dX6_of_70 : decode cX6_of 70 = .ok (.getfield 127, 3) := by decide +kernel
theorem dX6_of_73 : decode cX6_of 73 = .ok (.goto 9, 3) := by decide +kernel
theorem dX6_of_76 : decode cX6_of 76 = .ok (.aload_n 0, 1) := by decide +kernel
theorem dX6_of_77 : decode cX6_of 77 = .ok (.bipush (-4), 2) := by decide +kernel
theorem dX6_of_79 : decode cX6_of 79 = .ok (.invokevirtual 52, 3) := by decide +kernel
theorem dX6_of_82 : decode cX6_of 82 = .ok (.ireturn, 1) := by decide +kernel
theorem dX6_of_83 : decode cX6_of 83 = .ok (.aload_n 0, 1) := by decide +kernel
theorem dX6_of_84 : decode cX6_of 84 = .ok (.getfield 10, 3) := by decide +kernel
theorem dX6_of_87 : decode cX6_of 87 = .ok (.aload_n 3, 1) := by decide +kernel
theorem dX6_of_88 : decode cX6_of 88 = .ok (.iload_n 2, 1) := by decide +kernel
theorem dX6_of_89 : decode cX6_of 89 = .ok (.invokevirtual 130, 3) := by decide +kernel
theorem dX6_of_92 : decode cX6_of 92 = .ok (.ireturn, 1) := by decide +kernel
theorem cv_6_130 : CV RX6 130 2 0 I_X0_tellTree := ⟨⟨⟨gm 406 (by decide +kernel) rfl, gm 409 (by decide +kernel) rfl, gm 38 (by decide +kernel) rfl, mh_0.1, mh_0.2, by decide +kernel⟩, gm 407 (by decide +kernel) rfl, gm 408 (by decide +kernel) rfl⟩, ⟨_, _, rfl⟩, rfl, rfl⟩
def f_X6_of (x1 : Int32) (x2 : Int32) (S : St) : Option (Int32 × St) := if (f_X6_isPlace x1) = true then (if (f_X6_within x2 (0 : Int32) (7 : Int32)) = true then (if inb x1 12 = true then (if x2 = 0 then (some ((rd S (20 + 2 * ix x1) 2), S)) else (if (rd S (20 + 2 * ix x1) 2) = 0 then (some (((f_X6_finding (-6 : Int32) S).1), (f_X6_finding (-6 : Int32) S).2)) else (if (rd S (20 + 2 * ix x1) 2) = (5 : Int32) then (if x2 = (1 : Int32) then (some ((rd S (20 + 2 * ix x1) 8), S)) else (some (((f_X6_finding (-4 : Int32) S).1), (f_X6_finding (-4 : Int32) S).2))) else ((f_X0_tellTree (20 + 2 * ix x1) x2 S).bind fun v89 => (some (v89, S)))))) else none) else (some (((f_X6_finding (-1 : Int32) S).1), (f_X6_finding (-1 : Int32) S).2))) else (some (((f_X6_finding (-1 : Int32) S).1), (f_X6_finding (-1 : Int32) S).2))
set_option maxRecDepth 100000 in
set_option maxHeartbeats 4000000 in
theorem m_X6_of (l : Launch) (w : Wd) (x1 : Int32) (x2 : Int32) (S : St)  : J l w I_X6_of 0 [(0, .ref (w.2.1 + 0)), (1, .int x1), (2, .int x2)] [] S (fun b => (some (.int b.1), b.2)) (f_X6_of x1 x2 S) := by
  unfold f_X6_of
  refine j_iload_n (y := I_X6_of) 1 dX6_of_0 rfl rfl ?_
  refine j_callSzT (y := I_X6_of) (As := [.int x1]) cv_6_83 ⟨Nat.le_of_ble_eq_true rfl, Nat.le_of_ble_eq_true rfl⟩ rfl (Nat.le_of_ble_eq_true rfl) dX6_of_1 (c_X6_isPlace l w x1 S) ?_
  refine j_if_eqB (y := I_X6_of) 17 dX6_of_4 (by decide) (fun h4 => ?_) (fun h4 => ?_)
  · refine j_aload_n (y := I_X6_of) 0 dX6_of_17 rfl rfl ?_
    refine j_iconst (y := I_X6_of) (v := -1) dX6_of_18 (by decide) ?_
    refine j_callViT (y := I_X6_of) (As := [.int (-1 : Int32)]) cv_6_52 ⟨Nat.le_of_ble_eq_true rfl, Nat.le_of_ble_eq_true rfl⟩ k_0 rfl (Nat.le_of_ble_eq_true rfl) dX6_of_19 (c_X6_finding l w (-1 : Int32) S) ?_
    exact j_iret (y := I_X6_of) rfl dX6_of_22 rfl
  · refine j_iload_n (y := I_X6_of) 2 dX6_of_7 rfl rfl ?_
    refine j_iconst (y := I_X6_of) (v := 0) dX6_of_8 (by decide) ?_
    refine j_bipush (y := I_X6_of) (v := 7) dX6_of_9 (by decide) ?_
    refine j_callSzT (y := I_X6_of) (As := [.int x2, .int (0 : Int32), .int (7 : Int32)]) cv_6_48 ⟨Nat.le_of_ble_eq_true rfl, Nat.le_of_ble_eq_true rfl⟩ rfl (Nat.le_of_ble_eq_true rfl) dX6_of_11 (c_X6_within l w x2 (0 : Int32) (7 : Int32) S) ?_
    refine j_if_neB (y := I_X6_of) 23 dX6_of_14 (by decide) (fun h14 => ?_) (fun h14 => ?_)
    · refine j_aload_n (y := I_X6_of) 0 dX6_of_23 rfl rfl ?_
      refine j_getR (y := I_X6_of) (j := 1) fl_6_10 k_0 rfl rfl dX6_of_24 ?_
      refine j_getR (y := I_X6_of) (j := 3) fl_6_86 k_1 rfl rfl dX6_of_27 ?_
      refine j_iload_n (y := I_X6_of) 1 dX6_of_30 rfl rfl ?_
      refine j_aald (y := I_X6_of) (j := (20 + 2 * ix x1)) (tt := 1) k_3 rfl (rho_3 _) dX6_of_31 (fun h31 => ?_)
      refine j_astore_n (y := I_X6_of) (ls' := [(3, .ref (w.2.1 + (20 + 2 * ix x1))), (0, .ref (w.2.1 + 0)), (1, .int x1), (2, .int x2)]) dX6_of_32 rfl (by decide) rfl ?_
      refine j_iload_n (y := I_X6_of) 3 dX6_of_33 rfl rfl ?_
      refine j_if_ne (y := I_X6_of) 42 dX6_of_34 (by decide) (fun h34 => ?_) (fun h34 => ?_)
      · refine j_aload_n (y := I_X6_of) 0 dX6_of_42 rfl rfl ?_
        refine j_getI (y := I_X6_of) fl_6_90 (kd_Pl _ (inb_lt h31)) rfl dX6_of_43 ?_
        refine j_if_ne (y := I_X6_of) 56 dX6_of_46 (by decide) (fun h46 => ?_) (fun h46 => ?_)
        · refine j_aload_n (y := I_X6_of) 0 dX6_of_56 rfl rfl ?_
          refine j_getI (y := I_X6_of) fl_6_90 (kd_Pl _ (inb_lt h31)) rfl dX6_of_57 ?_
          refine j_iconst (y := I_X6_of) (v := 5) dX6_of_60 (by decide) ?_
          refine j_icmp_ne (y := I_X6_of) 83 dX6_of_61 (by decide) (fun h61 => ?_) (fun h61 => ?_)
          · refine j_aload_n (y := I_X6_of) 1 dX6_of_83 rfl rfl ?_
            refine j_getR (y := I_X6_of) (j := 1) fl_6_10 k_0 rfl rfl dX6_of_84 ?_
            refine j_aload_n (y := I_X6_of) 0 dX6_of_87 rfl rfl ?_
            refine j_iload_n (y := I_X6_of) 3 dX6_of_88 rfl rfl ?_
            refine j_callViR (y := I_X6_of) (As := [.ref (w.2.1 + (20 + 2 * ix x1)), .int x2]) cv_6_130 ⟨Nat.le_of_ble_eq_true rfl, Nat.le_of_ble_eq_true rfl⟩ k_1 rfl (Nat.le_of_ble_eq_true rfl) dX6_of_89 (c_X0_tellTree l w (20 + 2 * ix x1) x2 S (kd_Pl _ (inb_lt h31))) (fun v89 h89 => ?_)
            exact j_iret (y := I_X6_of) rfl dX6_of_92 rfl
          · refine j_iload_n (y := I_X6_of) 3 dX6_of_64 rfl rfl ?_
            refine j_iconst (y := I_X6_of) (v := 1) dX6_of_65 (by decide) ?_
            refine j_icmp_ne (y := I_X6_of) 76 dX6_of_66 (by decide) (fun h66 => ?_) (fun h66 => ?_)
            · refine j_aload_n (y := I_X6_of) 1 dX6_of_76 rfl rfl ?_
              refine j_bipush (y := I_X6_of) (v := -4) dX6_of_77 (by decide) ?_
              refine j_callViT (y := I_X6_of) (As := [.int (-4 : Int32)]) cv_6_52 ⟨Nat.le_of_ble_eq_true rfl, Nat.le_of_ble_eq_true rfl⟩ k_0 rfl (Nat.le_of_ble_eq_true rfl) dX6_of_79 (c_X6_finding l w (-4 : Int32) S) ?_
              exact j_iret (y := I_X6_of) rfl dX6_of_82 rfl
            · refine j_aload_n (y := I_X6_of) 0 dX6_of_69 rfl rfl ?_
              refine j_getI (y := I_X6_of) fl_6_127 (kd_Pl _ (inb_lt h31)) rfl dX6_of_70 ?_
              refine j_goto (y := I_X6_of) 82 dX6_of_73 (by decide) ?_
              exact j_iret (y := I_X6_of) rfl dX6_of_82 rfl
        · refine j_aload_n (y := I_X6_of) 1 dX6_of_49 rfl rfl ?_
          refine j_bipush (y := I_X6_of) (v := -6) dX6_of_50 (by decide) ?_
          refine j_callViT (y := I_X6_of) (As := [.int (-6 : Int32)]) cv_6_52 ⟨Nat.le_of_ble_eq_true rfl, Nat.le_of_ble_eq_true rfl⟩ k_0 rfl (Nat.le_of_ble_eq_true rfl) dX6_of_52 (c_X6_finding l w (-6 : Int32) S) ?_
          exact j_iret (y := I_X6_of) rfl dX6_of_55 rfl
      · refine j_aload_n (y := I_X6_of) 0 dX6_of_37 rfl rfl ?_
        refine j_getI (y := I_X6_of) fl_6_90 (kd_Pl _ (inb_lt h31)) rfl dX6_of_38 ?_
        exact j_iret (y := I_X6_of) rfl dX6_of_41 rfl
    · refine j_aload_n (y := I_X6_of) 0 dX6_of_17 rfl rfl ?_
      refine j_iconst (y := I_X6_of) (v := -1) dX6_of_18 (by decide) ?_
      refine j_callViT (y := I_X6_of) (As := [.int (-1 : Int32)]) cv_6_52 ⟨Nat.le_of_ble_eq_true rfl, Nat.le_of_ble_eq_true rfl⟩ k_0 rfl (Nat.le_of_ble_eq_true rfl) dX6_of_19 (c_X6_finding l w (-1 : Int32) S) ?_
      exact j_iret (y := I_X6_of) rfl dX6_of_22 rfl
theorem c_X6_of (l : Launch) (w : Wd) (x1 : Int32) (x2 : Int32) (S : St)  : ∀ v, f_X6_of x1 x2 S = some v → CtS l w I_X6_of [.ref (w.2.1 + 0), .int x1, .int x2] S v.2 (some (.int v.1)) := fun v h => J.ct (av := [.ref (w.2.1 + 0), .int x1, .int x2]) (Nat.le_of_ble_eq_true rfl) pn_6 (m_X6_of l w x1 x2 S ) h
abbrev I_X6_partners : MI := (yX6_partners, cX6_partners, 5, some .int, { frames := 5, cells := 0, slots := 0, locals := 112 })
theorem dX6_partners_0 : decode cX6_partners 0 = .ok (.iload_n 1, 1) := by decide +kernel
theorem dX6_partners_1 : decode cX6_partners 1 = .ok (.invokestatic 83, 3) := by decide +kernel
theorem dX6_partners_4 : decode cX6_partners 4 = .ok (.ifCond .eq 17, 3) := by decide +kernel
theorem dX6_partners_7 : decode cX6_partners 7 = .ok (.iload_n 2, 1) := by decide +kernel
theorem dX6_partners_8 : decode cX6_partners 8 = .ok (.invokestatic 215, 3) := by decide +kernel
theorem dX6_partners_11 : decode cX6_partners 11 = .ok (.ifCond .eq 10, 3) := by decide +kernel
theorem dX6_partners_14 : decode cX6_partners 14 = .ok (.iload_n 3, 1) := by decide +kernel
theorem dX6_partners_15 : decode cX6_partners 15 = .ok (.invokestatic 182, 3) := by decide +kernel
theorem dX6_partners_18 : decode cX6_partners 18 = .ok (.ifCond .ne 9, 3) := by decide +kernel
theorem dX6_partners_21 : decode cX6_partners 21 = .ok (.aload_n 0, 1) := by decide +kernel
theorem dX6_partners_22 : decode cX6_partners 22 = .ok (.iconst (-1), 1) := by decide +kernel
theorem dX6_partners_23 : decode cX6_partners 23 = .ok (.invokevirtual 52, 3) := by decide +kernel
theorem dX6_partners_26 : decode cX6_partners 26 = .ok (.ireturn, 1) := by decide +kernel
theorem dX6_partners_27 : decode cX6_partners 27 = .ok (.aload_n 0, 1) := by decide +kernel
theorem dX6_partners_28 : decode cX6_partners 28 = .ok (.getfield 10, 3) := by decide +kernel
theorem dX6_partners_31 : decode cX6_partners 31 = .ok (.getfield 86, 3) := by decide +kernel
theorem dX6_partners_34 : decode cX6_partners 34 = .ok (.iload_n 1, 1) := by decide +kernel
theorem dX6_partners_35 : decode cX6_partners 35 = .ok (.aaload, 1) := by decide +kernel
theorem dX6_partners_36 : decode cX6_partners 36 = .ok (.astore 4, 2) := by decide +kernel
theorem dX6_partners_38 : decode cX6_partners 38 = .ok (.aload 4, 2) := by decide +kernel
theorem dX6_partners_40 : decode cX6_partners 40 = .ok (.invokevirtual 123, 3) := by decide +kernel
theorem dX6_partners_43 : decode cX6_partners 43 = .ok (.ifCond .ne 13, 3) := by decide +kernel
theorem dX6_partners_46 : decode cX6_partners 46 = .ok (.aload_n 0, 1) := by decide +kernel
theorem dX6_partners_47 : decode cX6_partners 47 = .ok (.aload 4, 2) := by decide +kernel
theorem dX6_partners_49 : decode cX6_partners 49 = .ok (.invokevirtual 134, 3) := by decide +kernel
theorem dX6_partners_52 : decode cX6_partners 52 = .ok (.invokevirtual 52, 3) := by decide +kernel
theorem dX6_partners_55 : decode cX6_partners 55 = .ok (.ireturn, 1) := by decide +kernel
theorem dX6_partners_56 : decode cX6_partners 56 = .ok (.iload_n 2, 1) := by decide +kernel
theorem dX6_partners_57 : decode cX6_partners 57 = .ok (.aload 4, 2) := by decide +kernel
theorem dX6_partners_59 : decode cX6_partners 59 = .ok (.invokevirtual 218, 3) := by decide +kernel
theorem dX6_partners_62 : decode cX6_partners 62 = .ok (.if_icmp .lt 10, 3) := by decide +kernel
theorem dX6_partners_65 : decode cX6_partners 65 = .ok (.aload_n 0, 1) := by decide +kernel
theorem dX6_partners_66 : decode cX6_partners 66 = .ok (.bipush (-4), 2) := by decide +kernel
theorem dX6_partners_68 : decode cX6_partners 68 = .ok (.invokevirtual 52, 3) := by decide +kernel
theorem dX6_partners_71 : decode cX6_partners 71 = .ok (.ireturn, 1) := by decide +kernel
theorem dX6_partners_72 : decode cX6_partners 72 = .ok (.aload_n 0, 1) := by decide +kernel
theorem dX6_partners_73 : decode cX6_partners 73 = .ok (.getfield 33, 3) := by decide +kernel
theorem dX6_partners_76 : decode cX6_partners 76 = .ok (.aload_n 0, 1) := by decide +kernel
theorem dX6_partners_77 : decode cX6_partners 77 = .ok (.getfield 10, 3) := by decide +kernel
theorem dX6_partners_80 : decode cX6_partners 80 = .ok (.aload_n 0, 1) := by decide +kernel
theorem dX6_partners_81 : decode cX6_partners 81 = .ok (.invokevirtual 185, 3) := by decide +kernel
theorem dX6_partners_84 : decode cX6_partners 84 = .ok (.invokevirtual 193, 3) := by decide +kernel
theorem dX6_partners_87 : decode cX6_partners 87 = .ok (.aload_n 0, 1) := by decide +kernel
theorem dX6_partners_88 : decode cX6_partners 88 = .ok (.getfield 10, 3) := by decide +kernel
theorem dX6_partners_91 : decode cX6_partners 91 = .ok (.aload_n 0, 1) := by decide +kernel
theorem dX6_partners_92 : decode cX6_partners 92 = .ok (.getfield 33, 3) := by decide +kernel
theorem dX6_partners_95 : decode cX6_partners 95 = .ok (.iload_n 1, 1) := by decide +kernel
theorem dX6_partners_96 : decode cX6_partners 96 = .ok (.iload_n 2, 1) := by decide +kernel
theorem dX6_partners_97 : decode cX6_partners 97 = .ok (.iload_n 3, 1) := by decide +kernel
theorem dX6_partners_98 : decode cX6_partners 98 = .ok (.invokevirtual 221, 3) := by decide +kernel
theorem dX6_partners_101 : decode cX6_partners 101 = .ok (.ireturn, 1) := by decide +kernel
theorem cv_6_221 : CV RX6 221 4 0 I_X0_countPartners := ⟨⟨⟨gm 557 (by decide +kernel) rfl, gm 560 (by decide +kernel) rfl, gm 38 (by decide +kernel) rfl, mh_0.1, mh_0.2, by decide +kernel⟩, gm 558 (by decide +kernel) rfl, gm 559 (by decide +kernel) rfl⟩, ⟨_, _, rfl⟩, rfl, rfl⟩
def f_X6_partners (x1 : Int32) (x2 : Int32) (x3 : Int32) (S : St) : Option (Int32 × St) := if (f_X6_isPlace x1) = true then (if (f_X6_isPart x2) = true then (if (f_X6_isDay x3) = true then (if inb x1 12 = true then (if (f_X2_isTree (20 + 2 * ix x1) S) = true then (if x2 < (f_X2_partCount (20 + 2 * ix x1) S) then ((f_X6_namedSheet S).bind fun v81 => ((f_X3_readYear v81 S).bind fun v84 => ((f_X0_countPartners x1 x2 x3 v84).bind fun v98 => (some (v98, v84))))) else (some (((f_X6_finding (-4 : Int32) S).1), (f_X6_finding (-4 : Int32) S).2))) else (some (((f_X6_finding (f_X2_whyNoTree (20 + 2 * ix x1) S) S).1), (f_X6_finding (f_X2_whyNoTree (20 + 2 * ix x1) S) S).2))) else none) else (some (((f_X6_finding (-1 : Int32) S).1), (f_X6_finding (-1 : Int32) S).2))) else (some (((f_X6_finding (-1 : Int32) S).1), (f_X6_finding (-1 : Int32) S).2))) else (some (((f_X6_finding (-1 : Int32) S).1), (f_X6_finding (-1 : Int32) S).2))
set_option maxRecDepth 100000 in
set_option maxHeartbeats 4000000 in
theorem m_X6_partners (l : Launch) (w : Wd) (x1 : Int32) (x2 : Int32) (x3 : Int32) (S : St)  : J l w I_X6_partners 0 [(0, .ref (w.2.1 + 0)), (1, .int x1), (2, .int x2), (3, .int x3)] [] S (fun b => (some (.int b.1), b.2)) (f_X6_partners x1 x2 x3 S) := by
  unfold f_X6_partners
  refine j_iload_n (y := I_X6_partners) 1 dX6_partners_0 rfl rfl ?_
  refine j_callSzT (y := I_X6_partners) (As := [.int x1]) cv_6_83 ⟨Nat.le_of_ble_eq_true rfl, Nat.le_of_ble_eq_true rfl⟩ rfl (Nat.le_of_ble_eq_true rfl) dX6_partners_1 (c_X6_isPlace l w x1 S) ?_
  refine j_if_eqB (y := I_X6_partners) 21 dX6_partners_4 (by decide) (fun h4 => ?_) (fun h4 => ?_)
  · refine j_aload_n (y := I_X6_partners) 0 dX6_partners_21 rfl rfl ?_
    refine j_iconst (y := I_X6_partners) (v := -1) dX6_partners_22 (by decide) ?_
    refine j_callViT (y := I_X6_partners) (As := [.int (-1 : Int32)]) cv_6_52 ⟨Nat.le_of_ble_eq_true rfl, Nat.le_of_ble_eq_true rfl⟩ k_0 rfl (Nat.le_of_ble_eq_true rfl) dX6_partners_23 (c_X6_finding l w (-1 : Int32) S) ?_
    exact j_iret (y := I_X6_partners) rfl dX6_partners_26 rfl
  · refine j_iload_n (y := I_X6_partners) 2 dX6_partners_7 rfl rfl ?_
    refine j_callSzT (y := I_X6_partners) (As := [.int x2]) cv_6_215 ⟨Nat.le_of_ble_eq_true rfl, Nat.le_of_ble_eq_true rfl⟩ rfl (Nat.le_of_ble_eq_true rfl) dX6_partners_8 (c_X6_isPart l w x2 S) ?_
    refine j_if_eqB (y := I_X6_partners) 21 dX6_partners_11 (by decide) (fun h11 => ?_) (fun h11 => ?_)
    · refine j_aload_n (y := I_X6_partners) 0 dX6_partners_21 rfl rfl ?_
      refine j_iconst (y := I_X6_partners) (v := -1) dX6_partners_22 (by decide) ?_
      refine j_callViT (y := I_X6_partners) (As := [.int (-1 : Int32)]) cv_6_52 ⟨Nat.le_of_ble_eq_true rfl, Nat.le_of_ble_eq_true rfl⟩ k_0 rfl (Nat.le_of_ble_eq_true rfl) dX6_partners_23 (c_X6_finding l w (-1 : Int32) S) ?_
      exact j_iret (y := I_X6_partners) rfl dX6_partners_26 rfl
    · refine j_iload_n (y := I_X6_partners) 3 dX6_partners_14 rfl rfl ?_
      refine j_callSzT (y := I_X6_partners) (As := [.int x3]) cv_6_182 ⟨Nat.le_of_ble_eq_true rfl, Nat.le_of_ble_eq_true rfl⟩ rfl (Nat.le_of_ble_eq_true rfl) dX6_partners_15 (c_X6_isDay l w x3 S) ?_
      refine j_if_neB (y := I_X6_partners) 27 dX6_partners_18 (by decide) (fun h18 => ?_) (fun h18 => ?_)
      · refine j_aload_n (y := I_X6_partners) 0 dX6_partners_27 rfl rfl ?_
        refine j_getR (y := I_X6_partners) (j := 1) fl_6_10 k_0 rfl rfl dX6_partners_28 ?_
        refine j_getR (y := I_X6_partners) (j := 3) fl_6_86 k_1 rfl rfl dX6_partners_31 ?_
        refine j_iload_n (y := I_X6_partners) 1 dX6_partners_34 rfl rfl ?_
        refine j_aald (y := I_X6_partners) (j := (20 + 2 * ix x1)) (tt := 1) k_3 rfl (rho_3 _) dX6_partners_35 (fun h35 => ?_)
        refine j_astore (y := I_X6_partners) (ls' := [(4, .ref (w.2.1 + (20 + 2 * ix x1))), (0, .ref (w.2.1 + 0)), (1, .int x1), (2, .int x2), (3, .int x3)]) dX6_partners_36 (by decide) rfl ?_
        refine j_aload (y := I_X6_partners) 0 dX6_partners_38 rfl ?_
        refine j_callVzT (y := I_X6_partners) (As := []) cv_6_123 ⟨Nat.le_of_ble_eq_true rfl, Nat.le_of_ble_eq_true rfl⟩ (kd_Pl _ (inb_lt h35)) rfl (Nat.le_of_ble_eq_true rfl) dX6_partners_40 (c_X2_isTree l w (20 + 2 * ix x1) S (kd_Pl _ (inb_lt h35))) ?_
        refine j_if_neB (y := I_X6_partners) 56 dX6_partners_43 (by decide) (fun h43 => ?_) (fun h43 => ?_)
        · refine j_iload_n (y := I_X6_partners) 3 dX6_partners_56 rfl rfl ?_
          refine j_aload (y := I_X6_partners) 0 dX6_partners_57 rfl ?_
          refine j_callViT (y := I_X6_partners) (As := []) cv_6_218 ⟨Nat.le_of_ble_eq_true rfl, Nat.le_of_ble_eq_true rfl⟩ (kd_Pl _ (inb_lt h35)) rfl (Nat.le_of_ble_eq_true rfl) dX6_partners_59 (c_X2_partCount l w (20 + 2 * ix x1) S (kd_Pl _ (inb_lt h35))) ?_
          refine j_icmp_lt (y := I_X6_partners) 72 dX6_partners_62 (by decide) (fun h62 => ?_) (fun h62 => ?_)
          · refine j_aload_n (y := I_X6_partners) 1 dX6_partners_72 rfl rfl ?_
            refine j_getR (y := I_X6_partners) (j := 96) fl_6_33 k_0 rfl rfl dX6_partners_73 ?_
            refine j_aload_n (y := I_X6_partners) 1 dX6_partners_76 rfl rfl ?_
            refine j_getR (y := I_X6_partners) (j := 1) fl_6_10 k_0 rfl rfl dX6_partners_77 ?_
            refine j_aload_n (y := I_X6_partners) 1 dX6_partners_80 rfl rfl ?_
            refine j_callVqR (y := I_X6_partners) (As := []) cv_6_185 ⟨Nat.le_of_ble_eq_true rfl, Nat.le_of_ble_eq_true rfl⟩ k_0 rfl (Nat.le_of_ble_eq_true rfl) dX6_partners_81 (c_X6_namedSheet l w S) (fun v81 h81 => ?_)
            refine j_callVvS (y := I_X6_partners) (As := [.ref (w.2.1 + 1), va_rf (Option.map (fun j => w.2.1 + j) v81)]) cv_6_193 ⟨Nat.le_of_ble_eq_true rfl, Nat.le_of_ble_eq_true rfl⟩ k_96 rfl (Nat.le_of_ble_eq_true rfl) dX6_partners_84 (c_X3_readYear l w v81 S (hq_X6_namedSheet S v81 h81)) (fun v84 h84 => ?_)
            refine j_aload_n (y := I_X6_partners) 1 dX6_partners_87 rfl rfl ?_
            refine j_getR (y := I_X6_partners) (j := 1) fl_6_10 k_0 rfl rfl dX6_partners_88 ?_
            refine j_aload_n (y := I_X6_partners) 1 dX6_partners_91 rfl rfl ?_
            refine j_getR (y := I_X6_partners) (j := 96) fl_6_33 k_0 rfl rfl dX6_partners_92 ?_
            refine j_iload_n (y := I_X6_partners) 2 dX6_partners_95 rfl rfl ?_
            refine j_iload_n (y := I_X6_partners) 3 dX6_partners_96 rfl rfl ?_
            refine j_iload_n (y := I_X6_partners) 4 dX6_partners_97 rfl rfl ?_
            refine j_callViR (y := I_X6_partners) (As := [.ref (w.2.1 + 96), .int x1, .int x2, .int x3]) cv_6_221 ⟨Nat.le_of_ble_eq_true rfl, Nat.le_of_ble_eq_true rfl⟩ k_1 rfl (Nat.le_of_ble_eq_true rfl) dX6_partners_98 (c_X0_countPartners l w x1 x2 x3 v84) (fun v98 h98 => ?_)
            exact j_iret (y := I_X6_partners) rfl dX6_partners_101 rfl
          · refine j_aload_n (y := I_X6_partners) 1 dX6_partners_65 rfl rfl ?_
            refine j_bipush (y := I_X6_partners) (v := -4) dX6_partners_66 (by decide) ?_
            refine j_callViT (y := I_X6_partners) (As := [.int (-4 : Int32)]) cv_6_52 ⟨Nat.le_of_ble_eq_true rfl, Nat.le_of_ble_eq_true rfl⟩ k_0 rfl (Nat.le_of_ble_eq_true rfl) dX6_partners_68 (c_X6_finding l w (-4 : Int32) S) ?_
            exact j_iret (y := I_X6_partners) rfl dX6_partners_71 rfl
        · refine j_aload_n (y := I_X6_partners) 1 dX6_partners_46 rfl rfl ?_
          refine j_aload (y := I_X6_partners) 0 dX6_partners_47 rfl ?_
          refine j_callViT (y := I_X6_partners) (As := []) cv_6_134 ⟨Nat.le_of_ble_eq_true rfl, Nat.le_of_ble_eq_true rfl⟩ (kd_Pl _ (inb_lt h35)) rfl (Nat.le_of_ble_eq_true rfl) dX6_partners_49 (c_X2_whyNoTree l w (20 + 2 * ix x1) S (kd_Pl _ (inb_lt h35))) ?_
          refine j_callViT (y := I_X6_partners) (As := [.int (f_X2_whyNoTree (20 + 2 * ix x1) S)]) cv_6_52 ⟨Nat.le_of_ble_eq_true rfl, Nat.le_of_ble_eq_true rfl⟩ k_0 rfl (Nat.le_of_ble_eq_true rfl) dX6_partners_52 (c_X6_finding l w (f_X2_whyNoTree (20 + 2 * ix x1) S) S) ?_
          exact j_iret (y := I_X6_partners) rfl dX6_partners_55 rfl
      · refine j_aload_n (y := I_X6_partners) 0 dX6_partners_21 rfl rfl ?_
        refine j_iconst (y := I_X6_partners) (v := -1) dX6_partners_22 (by decide) ?_
        refine j_callViT (y := I_X6_partners) (As := [.int (-1 : Int32)]) cv_6_52 ⟨Nat.le_of_ble_eq_true rfl, Nat.le_of_ble_eq_true rfl⟩ k_0 rfl (Nat.le_of_ble_eq_true rfl) dX6_partners_23 (c_X6_finding l w (-1 : Int32) S) ?_
        exact j_iret (y := I_X6_partners) rfl dX6_partners_26 rfl
theorem c_X6_partners (l : Launch) (w : Wd) (x1 : Int32) (x2 : Int32) (x3 : Int32) (S : St)  : ∀ v, f_X6_partners x1 x2 x3 S = some v → CtS l w I_X6_partners [.ref (w.2.1 + 0), .int x1, .int x2, .int x3] S v.2 (some (.int v.1)) := fun v h => J.ct (av := [.ref (w.2.1 + 0), .int x1, .int x2, .int x3]) (Nat.le_of_ble_eq_true rfl) pn_6 (m_X6_partners l w x1 x2 x3 S ) h
abbrev I_X6_plant : MI := (yX6_plant, cX6_plant, 5, some .int, { frames := 2, cells := 0, slots := 0, locals := 44 })
theorem dX6_plant_0 : decode cX6_plant 0 = .ok (.iload_n 1, 1) := by decide +kernel
theorem dX6_plant_1 : decode cX6_plant 1 = .ok (.invokestatic 83, 3) := by decide +kernel
theorem dX6_plant_4 : decode cX6_plant 4 = .ok (.ifCond .eq 20, 3) := by decide +kernel
theorem dX6_plant_7 : decode cX6_plant 7 = .ok (.iload_n 2, 1) := by decide +kernel
theorem dX6_plant_8 : decode cX6_plant 8 = .ok (.iconst 1, 1) := by decide +kernel
theorem dX6_plant_9 : decode cX6_plant 9 = .ok (.iconst 4, 1) := by decide +kernel
theorem dX6_plant_10 : decode cX6_plant 10 = .ok (.invokestatic 48, 3) := by decide +kernel
theorem dX6_plant_13 : decode cX6_plant 13 = .ok (.ifCond .eq 11, 3) := by decide +kernel
theorem dX6_plant_16 : decode cX6_plant 16 = .ok (.aload_n 0, 1) := by decide +kernel
theorem dX6_plant_17 : decode cX6_plant 17 = .ok (.iload_n 3, 1) := by decide +kernel
theorem dX6_plant_18 : decode cX6_plant 18 = .ok (.invokevirtual 72, 3) := by decide +kernel
theorem dX6_plant_21 : decode cX6_plant 21 = .ok (.ifCond .ne 9, 3) := by decide +kernel
theorem dX6_plant_24 : decode cX6_plant 24 = .ok (.aload_n 0, 1) := by decide +kernel
theorem dX6_plant_25 : decode cX6_plant 25 = .ok (.iconst (-1), 1) := by decide +kernel
theorem dX6_plant_26 : decode cX6_plant 26 = .ok (.invokevirtual 52, 3) := by decide +kernel
theorem dX6_plant_29 : decode cX6_plant 29 = .ok (.ireturn, 1) := by decide +kernel
theorem dX6_plant_30 : decode cX6_plant 30 = .ok (.iload_n 2, 1) := by decide +kernel
theorem dX6_plant_31 : decode cX6_plant 31 = .ok (.iconst 2, 1) := by decide +kernel
theorem dX6_plant_32 : decode cX6_plant 32 = .ok (.if_icmp .ne 18, 3) := by decide +kernel
theorem dX6_plant_35 : decode cX6_plant 35 = .ok (.aload_n 0, 1) := by decide +kernel
theorem dX6_plant_36 : decode cX6_plant 36 = .ok (.iload 4, 2) := by decide +kernel
theorem dX6_plant_38 : decode cX6_plant 38 = .ok (.invokevirtual 72, 3) := by decide +kernel
theorem dX6_plant_41 : decode cX6_plant 41 = .ok (.ifCond .ne 9, 3) := by decide +kernel
theorem dX6_plant_44 : decode cX6_plant 44 = .ok (.aload_n 0, 1) := by decide +kernel
theorem dX6_plant_45 : decode cX6_plant 45 = .ok (.iconst (-1), 1) := by decide +kernel
theorem dX6_plant_46 : decode cX6_plant 46 = .ok (.invokevirtual 52, 3) := by decide +kernel
theorem dX6_plant_49 : decode cX6_plant 49 = .ok (.ireturn, 1) := by decide +kernel
theorem dX6_plant_50 : decode cX6_plant 50 = .ok (.aload_n 0, 1) := by decide +kernel
theorem dX6_plant_51 : decode cX6_plant 51 = .ok (.getfield 10, 3) := by decide +kernel
theorem dX6_plant_54 : decode cX6_plant 54 = .ok (.getfield 86, 3) := by decide +kernel
theorem dX6_plant_57 : decode cX6_plant 57 = .ok (.iload_n 1, 1) := by decide +kernel
theorem dX6_plant_58 : decode cX6_plant 58 = .ok (.aaload, 1) := by decide +kernel
theorem dX6_plant_59 : decode cX6_plant 59 = .ok (.getfield 90, 3) := by decide +kernel
theorem dX6_plant_62 : decode cX6_plant 62 = .ok (.ifCond .eq 10, 3) := by decide +kernel
theorem dX6_plant_65 : decode cX6_plant 65 = .ok (.aload_n 0, 1) := by decide +kernel
theorem dX6_plant_66 : decode cX6_plant 66 = .ok (.bipush (-7), 2) := by decide +kernel
theorem dX6_plant_68 : decode cX6_plant 68 = .ok (.invokevirtual 52, 3) := by decide +kernel
theorem dX6_plant_71 : decode cX6_plant 71 = .ok (.ireturn, 1) := by decide +kernel
theorem dX6_plant_72 : decode cX6_plant 72 = .ok (.aload_n 0, 1) := by decide +kernel
theorem dX6_plant_73 : decode cX6_plant 73 = .ok (.getfield 10, 3) := by decide +kernel
theorem dX6_plant_76 : decode cX6_plant 76 = .ok (.getfield 86, 3) := by decide +kernel
theorem dX6_plant_79 : decode cX6_plant 79 = .ok (.iload_n 1, 1) := by decide +kernel
theorem dX6_plant_80 : decode cX6_plant 80 = .ok (.aaload, 1) := by decide +kernel
theorem dX6_plant_81 : decode cX6_plant 81 = .ok (.iload_n 2, 1) := by decide +kernel
theorem dX6_plant_82 : decode cX6_plant 82 = .ok (.iload_n 3, 1) := by decide +kernel
theorem dX6_plant_83 : decode cX6_plant 83 = .ok (.iload 4, 2) := by decide +kernel
theorem dX6_plant_85 : decode cX6_plant 85 = .ok (.aload_n 0, 1) := by decide +kernel
theorem dX6_plant_86 : decode cX6_plant 86 = .ok (.getfield 10, 3) := by decide +kernel
theorem dX6_plant_89 : decode cX6_plant 89 = .ok (.getfield 104, 3) := by decide +kernel
theorem dX6_plant_92 : decode cX6_plant 92 = .ok (.invokevirtual 107, 3) := by decide +kernel
theorem dX6_plant_95 : decode cX6_plant 95 = .ok (.aload_n 0, 1) := by decide +kernel
theorem dX6_plant_96 : decode cX6_plant 96 = .ok (.getfield 40, 3) := by decide +kernel
theorem dX6_plant_99 : decode cX6_plant 99 = .ok (.invokevirtual 69, 3) := by decide +kernel
theorem dX6_plant_102 : decode cX6_plant 102 = .ok (.iconst 1, 1) := by decide +kernel
theorem dX6_plant_103 : decode cX6_plant 103 = .ok (.ireturn, 1) := by decide +kernel
theorem cv_6_107 : CV RX6 107 4 2 I_X2_becomeTree := ⟨⟨⟨gm 374 (by decide +kernel) rfl, gm 377 (by decide +kernel) rfl, gm 40 (by decide +kernel) rfl, mh_2.1, mh_2.2, by decide +kernel⟩, gm 375 (by decide +kernel) rfl, gm 376 (by decide +kernel) rfl⟩, ⟨_, _, rfl⟩, rfl, rfl⟩
def f_X6_plant_J50 (j50_1 : Int32) (j50_2 : Int32) (j50_3 : Int32) (j50_4 : Int32) (S50 : St) : Option (Int32 × St) := if inb j50_1 12 = true then (if (rd S50 (20 + 2 * ix j50_1) 2) = 0 then (if inb j50_1 12 = true then ((f_X2_becomeTree (20 + 2 * ix j50_1) j50_2 j50_3 j50_4 (rd S50 1 4) S50).bind fun v92 => (some ((1 : Int32), (f_X1_forget v92)))) else none) else (some (((f_X6_finding (-7 : Int32) S50).1), (f_X6_finding (-7 : Int32) S50).2))) else none
def f_X6_plant (x1 : Int32) (x2 : Int32) (x3 : Int32) (x4 : Int32) (S : St) : Option (Int32 × St) := if (f_X6_isPlace x1) = true then (if (f_X6_within x2 (1 : Int32) (4 : Int32)) = true then (if (f_X6_isSort x3 S) = true then (if x2 = (2 : Int32) then (if (f_X6_isSort x4 S) = true then (f_X6_plant_J50 x1 x2 x3 x4 S) else (some (((f_X6_finding (-1 : Int32) S).1), (f_X6_finding (-1 : Int32) S).2))) else (f_X6_plant_J50 x1 x2 x3 x4 S)) else (some (((f_X6_finding (-1 : Int32) S).1), (f_X6_finding (-1 : Int32) S).2))) else (some (((f_X6_finding (-1 : Int32) S).1), (f_X6_finding (-1 : Int32) S).2))) else (some (((f_X6_finding (-1 : Int32) S).1), (f_X6_finding (-1 : Int32) S).2))
set_option maxRecDepth 100000 in
theorem jj_X6_plant_50 (l : Launch) (w : Wd) (j50_1 : Int32) (j50_2 : Int32) (j50_3 : Int32) (j50_4 : Int32) (S50 : St)  : J l w I_X6_plant 50 [(0, .ref (w.2.1 + 0)), (1, .int j50_1), (2, .int j50_2), (3, .int j50_3), (4, .int j50_4)] [] S50 (fun b => (some (.int b.1), b.2)) (f_X6_plant_J50 j50_1 j50_2 j50_3 j50_4 S50) := by
  unfold f_X6_plant_J50
  refine j_aload_n (y := I_X6_plant) 0 dX6_plant_50 rfl rfl ?_
  refine j_getR (y := I_X6_plant) (j := 1) fl_6_10 k_0 rfl rfl dX6_plant_51 ?_
  refine j_getR (y := I_X6_plant) (j := 3) fl_6_86 k_1 rfl rfl dX6_plant_54 ?_
  refine j_iload_n (y := I_X6_plant) 1 dX6_plant_57 rfl rfl ?_
  refine j_aald (y := I_X6_plant) (j := (20 + 2 * ix j50_1)) (tt := 1) k_3 rfl (rho_3 _) dX6_plant_58 (fun h58 => ?_)
  refine j_getI (y := I_X6_plant) fl_6_90 (kd_Pl _ (inb_lt h58)) rfl dX6_plant_59 ?_
  refine j_if_eq (y := I_X6_plant) 72 dX6_plant_62 (by decide) (fun h62 => ?_) (fun h62 => ?_)
  · refine j_aload_n (y := I_X6_plant) 0 dX6_plant_72 rfl rfl ?_
    refine j_getR (y := I_X6_plant) (j := 1) fl_6_10 k_0 rfl rfl dX6_plant_73 ?_
    refine j_getR (y := I_X6_plant) (j := 3) fl_6_86 k_1 rfl rfl dX6_plant_76 ?_
    refine j_iload_n (y := I_X6_plant) 1 dX6_plant_79 rfl rfl ?_
    refine j_aald (y := I_X6_plant) (j := (20 + 2 * ix j50_1)) (tt := 1) k_3 rfl (rho_3 _) dX6_plant_80 (fun h80 => ?_)
    refine j_iload_n (y := I_X6_plant) 2 dX6_plant_81 rfl rfl ?_
    refine j_iload_n (y := I_X6_plant) 3 dX6_plant_82 rfl rfl ?_
    refine j_iload (y := I_X6_plant) 4 dX6_plant_83 rfl ?_
    refine j_aload_n (y := I_X6_plant) 0 dX6_plant_85 rfl rfl ?_
    refine j_getR (y := I_X6_plant) (j := 1) fl_6_10 k_0 rfl rfl dX6_plant_86 ?_
    refine j_getI (y := I_X6_plant) fl_6_104 k_1 rfl dX6_plant_89 ?_
    refine j_callVvS (y := I_X6_plant) (As := [.int j50_2, .int j50_3, .int j50_4, .int (rd S50 1 4)]) cv_6_107 ⟨Nat.le_of_ble_eq_true rfl, Nat.le_of_ble_eq_true rfl⟩ (kd_Pl _ (inb_lt h80)) rfl (Nat.le_of_ble_eq_true rfl) dX6_plant_92 (c_X2_becomeTree l w (20 + 2 * ix j50_1) j50_2 j50_3 j50_4 (rd S50 1 4) S50 (kd_Pl _ (inb_lt h80))) (fun v92 h92 => ?_)
    refine j_aload_n (y := I_X6_plant) 0 dX6_plant_95 rfl rfl ?_
    refine j_getR (y := I_X6_plant) (j := 101) fl_6_40 k_0 rfl rfl dX6_plant_96 ?_
    refine j_callVvT (y := I_X6_plant) (As := []) cv_6_69 ⟨Nat.le_of_ble_eq_true rfl, Nat.le_of_ble_eq_true rfl⟩ k_101 rfl (Nat.le_of_ble_eq_true rfl) dX6_plant_99 (c_X1_forget l w v92) ?_
    refine j_iconst (y := I_X6_plant) (v := 1) dX6_plant_102 (by decide) ?_
    exact j_iret (y := I_X6_plant) rfl dX6_plant_103 rfl
  · refine j_aload_n (y := I_X6_plant) 0 dX6_plant_65 rfl rfl ?_
    refine j_bipush (y := I_X6_plant) (v := -7) dX6_plant_66 (by decide) ?_
    refine j_callViT (y := I_X6_plant) (As := [.int (-7 : Int32)]) cv_6_52 ⟨Nat.le_of_ble_eq_true rfl, Nat.le_of_ble_eq_true rfl⟩ k_0 rfl (Nat.le_of_ble_eq_true rfl) dX6_plant_68 (c_X6_finding l w (-7 : Int32) S50) ?_
    exact j_iret (y := I_X6_plant) rfl dX6_plant_71 rfl
set_option maxRecDepth 100000 in
set_option maxHeartbeats 4000000 in
theorem m_X6_plant (l : Launch) (w : Wd) (x1 : Int32) (x2 : Int32) (x3 : Int32) (x4 : Int32) (S : St)  : J l w I_X6_plant 0 [(0, .ref (w.2.1 + 0)), (1, .int x1), (2, .int x2), (3, .int x3), (4, .int x4)] [] S (fun b => (some (.int b.1), b.2)) (f_X6_plant x1 x2 x3 x4 S) := by
  unfold f_X6_plant
  refine j_iload_n (y := I_X6_plant) 1 dX6_plant_0 rfl rfl ?_
  refine j_callSzT (y := I_X6_plant) (As := [.int x1]) cv_6_83 ⟨Nat.le_of_ble_eq_true rfl, Nat.le_of_ble_eq_true rfl⟩ rfl (Nat.le_of_ble_eq_true rfl) dX6_plant_1 (c_X6_isPlace l w x1 S) ?_
  refine j_if_eqB (y := I_X6_plant) 24 dX6_plant_4 (by decide) (fun h4 => ?_) (fun h4 => ?_)
  · refine j_aload_n (y := I_X6_plant) 0 dX6_plant_24 rfl rfl ?_
    refine j_iconst (y := I_X6_plant) (v := -1) dX6_plant_25 (by decide) ?_
    refine j_callViT (y := I_X6_plant) (As := [.int (-1 : Int32)]) cv_6_52 ⟨Nat.le_of_ble_eq_true rfl, Nat.le_of_ble_eq_true rfl⟩ k_0 rfl (Nat.le_of_ble_eq_true rfl) dX6_plant_26 (c_X6_finding l w (-1 : Int32) S) ?_
    exact j_iret (y := I_X6_plant) rfl dX6_plant_29 rfl
  · refine j_iload_n (y := I_X6_plant) 2 dX6_plant_7 rfl rfl ?_
    refine j_iconst (y := I_X6_plant) (v := 1) dX6_plant_8 (by decide) ?_
    refine j_iconst (y := I_X6_plant) (v := 4) dX6_plant_9 (by decide) ?_
    refine j_callSzT (y := I_X6_plant) (As := [.int x2, .int (1 : Int32), .int (4 : Int32)]) cv_6_48 ⟨Nat.le_of_ble_eq_true rfl, Nat.le_of_ble_eq_true rfl⟩ rfl (Nat.le_of_ble_eq_true rfl) dX6_plant_10 (c_X6_within l w x2 (1 : Int32) (4 : Int32) S) ?_
    refine j_if_eqB (y := I_X6_plant) 24 dX6_plant_13 (by decide) (fun h13 => ?_) (fun h13 => ?_)
    · refine j_aload_n (y := I_X6_plant) 0 dX6_plant_24 rfl rfl ?_
      refine j_iconst (y := I_X6_plant) (v := -1) dX6_plant_25 (by decide) ?_
      refine j_callViT (y := I_X6_plant) (As := [.int (-1 : Int32)]) cv_6_52 ⟨Nat.le_of_ble_eq_true rfl, Nat.le_of_ble_eq_true rfl⟩ k_0 rfl (Nat.le_of_ble_eq_true rfl) dX6_plant_26 (c_X6_finding l w (-1 : Int32) S) ?_
      exact j_iret (y := I_X6_plant) rfl dX6_plant_29 rfl
    · refine j_aload_n (y := I_X6_plant) 0 dX6_plant_16 rfl rfl ?_
      refine j_iload_n (y := I_X6_plant) 3 dX6_plant_17 rfl rfl ?_
      refine j_callVzT (y := I_X6_plant) (As := [.int x3]) cv_6_72 ⟨Nat.le_of_ble_eq_true rfl, Nat.le_of_ble_eq_true rfl⟩ k_0 rfl (Nat.le_of_ble_eq_true rfl) dX6_plant_18 (c_X6_isSort l w x3 S) ?_
      refine j_if_neB (y := I_X6_plant) 30 dX6_plant_21 (by decide) (fun h21 => ?_) (fun h21 => ?_)
      · refine j_iload_n (y := I_X6_plant) 2 dX6_plant_30 rfl rfl ?_
        refine j_iconst (y := I_X6_plant) (v := 2) dX6_plant_31 (by decide) ?_
        refine j_icmp_ne (y := I_X6_plant) 50 dX6_plant_32 (by decide) (fun h32 => ?_) (fun h32 => ?_)
        · refine j_sub [0, 1, 2, 3, 4] rfl ?_
          exact jj_X6_plant_50 l w x1 x2 x3 x4 S
        · refine j_aload_n (y := I_X6_plant) 0 dX6_plant_35 rfl rfl ?_
          refine j_iload (y := I_X6_plant) 4 dX6_plant_36 rfl ?_
          refine j_callVzT (y := I_X6_plant) (As := [.int x4]) cv_6_72 ⟨Nat.le_of_ble_eq_true rfl, Nat.le_of_ble_eq_true rfl⟩ k_0 rfl (Nat.le_of_ble_eq_true rfl) dX6_plant_38 (c_X6_isSort l w x4 S) ?_
          refine j_if_neB (y := I_X6_plant) 50 dX6_plant_41 (by decide) (fun h41 => ?_) (fun h41 => ?_)
          · refine j_sub [0, 1, 2, 3, 4] rfl ?_
            exact jj_X6_plant_50 l w x1 x2 x3 x4 S
          · refine j_aload_n (y := I_X6_plant) 0 dX6_plant_44 rfl rfl ?_
            refine j_iconst (y := I_X6_plant) (v := -1) dX6_plant_45 (by decide) ?_
            refine j_callViT (y := I_X6_plant) (As := [.int (-1 : Int32)]) cv_6_52 ⟨Nat.le_of_ble_eq_true rfl, Nat.le_of_ble_eq_true rfl⟩ k_0 rfl (Nat.le_of_ble_eq_true rfl) dX6_plant_46 (c_X6_finding l w (-1 : Int32) S) ?_
            exact j_iret (y := I_X6_plant) rfl dX6_plant_49 rfl
      · refine j_aload_n (y := I_X6_plant) 0 dX6_plant_24 rfl rfl ?_
        refine j_iconst (y := I_X6_plant) (v := -1) dX6_plant_25 (by decide) ?_
        refine j_callViT (y := I_X6_plant) (As := [.int (-1 : Int32)]) cv_6_52 ⟨Nat.le_of_ble_eq_true rfl, Nat.le_of_ble_eq_true rfl⟩ k_0 rfl (Nat.le_of_ble_eq_true rfl) dX6_plant_26 (c_X6_finding l w (-1 : Int32) S) ?_
        exact j_iret (y := I_X6_plant) rfl dX6_plant_29 rfl
theorem c_X6_plant (l : Launch) (w : Wd) (x1 : Int32) (x2 : Int32) (x3 : Int32) (x4 : Int32) (S : St)  : ∀ v, f_X6_plant x1 x2 x3 x4 S = some v → CtS l w I_X6_plant [.ref (w.2.1 + 0), .int x1, .int x2, .int x3, .int x4] S v.2 (some (.int v.1)) := fun v h => J.ct (av := [.ref (w.2.1 + 0), .int x1, .int x2, .int x3, .int x4]) (Nat.le_of_ble_eq_true rfl) pn_6 (m_X6_plant l w x1 x2 x3 x4 S ) h
abbrev I_X6_pull : MI := (yX6_pull, cX6_pull, 5, some .int, { frames := 2, cells := 0, slots := 0, locals := 42 })
theorem dX6_pull_0 : decode cX6_pull 0 = .ok (.iload_n 1, 1) := by decide +kernel
theorem dX6_pull_1 : decode cX6_pull 1 = .ok (.invokestatic 83, 3) := by decide +kernel
theorem dX6_pull_4 : decode cX6_pull 4 = .ok (.ifCond .eq 13, 3) := by decide +kernel
theorem dX6_pull_7 : decode cX6_pull 7 = .ok (.iload_n 2, 1) := by decide +kernel
theorem dX6_pull_8 : decode cX6_pull 8 = .ok (.iconst 0, 1) := by decide +kernel
theorem dX6_pull_9 : decode cX6_pull 9 = .ok (.bipush 9, 2) := by decide +kernel
theorem dX6_pull_11 : decode cX6_pull 11 = .ok (.invokestatic 48, 3) := by decide +kernel
theorem dX6_pull_14 : decode cX6_pull 14 = .ok (.ifCond .ne 9, 3) := by decide +kernel
theorem dX6_pull_17 : decode cX6_pull 17 = .ok (.aload_n 0, 1) := by decide +kernel
theorem dX6_pull_18 : decode cX6_pull 18 = .ok (.iconst (-1), 1) := by decide +kernel
theorem dX6_pull_19 : decode cX6_pull 19 = .ok (.invokevirtual 52, 3) := by decide +kernel
theorem dX6_pull_22 : decode cX6_pull 22 = .ok (.ireturn, 1) := by decide +kernel
theorem dX6_pull_23 : decode cX6_pull 23 = .ok (.aload_n 0, 1) := by decide +kernel
theorem dX6_pull_24 : decode cX6_pull 24 = .ok (.getfield 10, 3) := by decide +kernel
theorem dX6_pull_27 : decode cX6_pull 27 = .ok (.getfield 86, 3) := by decide +kernel
theorem dX6_pull_30 : decode cX6_pull 30 = .ok (.iload_n 1, 1) := by decide +kernel
theorem dX6_pull_31 : decode cX6_pull 31 = .ok (.aaload, 1) := by decide +kernel
theorem dX6_pull_32 : decode cX6_pull 32 = .ok (.astore_n 3, 1) := by decide +kernel
theorem dX6_pull_33 : decode cX6_pull 33 = .ok (.aload_n 3, 1) := by decide +kernel
theorem dX6_pull_34 : decode cX6_pull 34 = .ok (.getfield 90, 3) := by decide +kernel
theorem dX6_pull_37 : decode cX6_pull 37 = .ok (.istore 4, 2) := by decide +kernel
theorem dX6_pull_39 : decode cX6_pull 39 = .ok (.aload_n 0, 1) := by decide +kernel
theorem dX6_pull_40 : decode cX6_pull 40 = .ok (.getfield 10, 3) := by decide +kernel
theorem dX6_pull_43 : decode cX6_pull 43 = .ok (.getfield 111, 3) := by decide +kernel
theorem dX6_pull_46 : decode cX6_pull 46 = .ok (.iconst 5, 1) := by decide +kernel
theorem dX6_pull_47 : decode cX6_pull 47 = .ok (.dup2, 1) := by decide +kernel
theorem dX6_pull_48 : decode cX6_pull 48 = .ok (.laload, 1) := by decide +kernel
theorem dX6_pull_49 : decode cX6_pull 49 = .ok (.aload_n 3, 1) := by decide +kernel
theorem dX6_pull_50 : decode cX6_pull 50 = .ok (.invokevirtual 115, 3) := by decide +kernel
theorem dX6_pull_53 : decode cX6_pull 53 = .ok (.i2l, 1) := by decide +kernel
theorem dX6_pull_54 : decode cX6_pull 54 = .ok (.ladd, 1) := by decide +kernel
theorem dX6_pull_55 : decode cX6_pull 55 = .ok (.lastore, 1) := by decide +kernel
theorem dX6_pull_56 : decode cX6_pull 56 = .ok (.aload_n 3, 1) := by decide +kernel
theorem dX6_pull_57 : decode cX6_pull 57 = .ok (.iload_n 2, 1) := by decide +kernel
theorem dX6_pull_58 : decode cX6_pull 58 = .ok (.invokevirtual 119, 3) := by decide +kernel
theorem dX6_pull_61 : decode cX6_pull 61 = .ok (.aload_n 0, 1) := by decide +kernel
theorem dX6_pull_62 : decode cX6_pull 62 = .ok (.getfield 40, 3) := by decide +kernel
theorem dX6_pull_65 : decode cX6_pull 65 = .ok (.invokevirtual 69, 3) := by decide +kernel
theorem dX6_pull_68 : decode cX6_pull 68 = .ok (.iload 4, 2) := by decide +kernel
theorem dX6_pull_70 : decode cX6_pull 70 = .ok (.ireturn, 1) := by decide +kernel
theorem cv_6_115 : CV RX6 115 0 2 I_X2_fruitCount := ⟨⟨⟨gm 386 (by decide +kernel) rfl, gm 389 (by decide +kernel) rfl, gm 40 (by decide +kernel) rfl, mh_2.1, mh_2.2, by decide +kernel⟩, gm 387 (by decide +kernel) rfl, gm 388 (by decide +kernel) rfl⟩, ⟨_, _, rfl⟩, rfl, rfl⟩
theorem cv_6_119 : CV RX6 119 1 2 I_X2_becomeGap := ⟨⟨⟨gm 390 (by decide +kernel) rfl, gm 393 (by decide +kernel) rfl, gm 40 (by decide +kernel) rfl, mh_2.1, mh_2.2, by decide +kernel⟩, gm 391 (by decide +kernel) rfl, gm 392 (by decide +kernel) rfl⟩, ⟨_, _, rfl⟩, rfl, rfl⟩
def f_X6_pull (x1 : Int32) (x2 : Int32) (S : St) : Option (Int32 × St) := if (f_X6_isPlace x1) = true then (if (f_X6_within x2 (0 : Int32) (9 : Int32)) = true then (if inb x1 12 = true then ((f_X2_fruitCount (20 + 2 * ix x1) S).bind fun v50 => ((f_X2_becomeGap (20 + 2 * ix x1) x2 (wrL S 7 (ix (5 : Int32)) ((rdL S 7 (ix (5 : Int32))) + v50.toInt64))).bind fun v58 => (some ((rd S (20 + 2 * ix x1) 2), (f_X1_forget v58))))) else none) else (some (((f_X6_finding (-1 : Int32) S).1), (f_X6_finding (-1 : Int32) S).2))) else (some (((f_X6_finding (-1 : Int32) S).1), (f_X6_finding (-1 : Int32) S).2))
set_option maxRecDepth 100000 in
set_option maxHeartbeats 4000000 in
theorem m_X6_pull (l : Launch) (w : Wd) (x1 : Int32) (x2 : Int32) (S : St)  : J l w I_X6_pull 0 [(0, .ref (w.2.1 + 0)), (1, .int x1), (2, .int x2)] [] S (fun b => (some (.int b.1), b.2)) (f_X6_pull x1 x2 S) := by
  unfold f_X6_pull
  refine j_iload_n (y := I_X6_pull) 1 dX6_pull_0 rfl rfl ?_
  refine j_callSzT (y := I_X6_pull) (As := [.int x1]) cv_6_83 ⟨Nat.le_of_ble_eq_true rfl, Nat.le_of_ble_eq_true rfl⟩ rfl (Nat.le_of_ble_eq_true rfl) dX6_pull_1 (c_X6_isPlace l w x1 S) ?_
  refine j_if_eqB (y := I_X6_pull) 17 dX6_pull_4 (by decide) (fun h4 => ?_) (fun h4 => ?_)
  · refine j_aload_n (y := I_X6_pull) 0 dX6_pull_17 rfl rfl ?_
    refine j_iconst (y := I_X6_pull) (v := -1) dX6_pull_18 (by decide) ?_
    refine j_callViT (y := I_X6_pull) (As := [.int (-1 : Int32)]) cv_6_52 ⟨Nat.le_of_ble_eq_true rfl, Nat.le_of_ble_eq_true rfl⟩ k_0 rfl (Nat.le_of_ble_eq_true rfl) dX6_pull_19 (c_X6_finding l w (-1 : Int32) S) ?_
    exact j_iret (y := I_X6_pull) rfl dX6_pull_22 rfl
  · refine j_iload_n (y := I_X6_pull) 2 dX6_pull_7 rfl rfl ?_
    refine j_iconst (y := I_X6_pull) (v := 0) dX6_pull_8 (by decide) ?_
    refine j_bipush (y := I_X6_pull) (v := 9) dX6_pull_9 (by decide) ?_
    refine j_callSzT (y := I_X6_pull) (As := [.int x2, .int (0 : Int32), .int (9 : Int32)]) cv_6_48 ⟨Nat.le_of_ble_eq_true rfl, Nat.le_of_ble_eq_true rfl⟩ rfl (Nat.le_of_ble_eq_true rfl) dX6_pull_11 (c_X6_within l w x2 (0 : Int32) (9 : Int32) S) ?_
    refine j_if_neB (y := I_X6_pull) 23 dX6_pull_14 (by decide) (fun h14 => ?_) (fun h14 => ?_)
    · refine j_aload_n (y := I_X6_pull) 0 dX6_pull_23 rfl rfl ?_
      refine j_getR (y := I_X6_pull) (j := 1) fl_6_10 k_0 rfl rfl dX6_pull_24 ?_
      refine j_getR (y := I_X6_pull) (j := 3) fl_6_86 k_1 rfl rfl dX6_pull_27 ?_
      refine j_iload_n (y := I_X6_pull) 1 dX6_pull_30 rfl rfl ?_
      refine j_aald (y := I_X6_pull) (j := (20 + 2 * ix x1)) (tt := 1) k_3 rfl (rho_3 _) dX6_pull_31 (fun h31 => ?_)
      refine j_astore_n (y := I_X6_pull) (ls' := [(3, .ref (w.2.1 + (20 + 2 * ix x1))), (0, .ref (w.2.1 + 0)), (1, .int x1), (2, .int x2)]) dX6_pull_32 rfl (by decide) rfl ?_
      refine j_aload_n (y := I_X6_pull) 0 dX6_pull_33 rfl rfl ?_
      refine j_getI (y := I_X6_pull) fl_6_90 (kd_Pl _ (inb_lt h31)) rfl dX6_pull_34 ?_
      refine j_istore (y := I_X6_pull) (ls' := [(4, .int (rd S (20 + 2 * ix x1) 2)), (3, .ref (w.2.1 + (20 + 2 * ix x1))), (0, .ref (w.2.1 + 0)), (1, .int x1), (2, .int x2)]) dX6_pull_37 (by decide) rfl ?_
      refine j_aload_n (y := I_X6_pull) 2 dX6_pull_39 rfl rfl ?_
      refine j_getR (y := I_X6_pull) (j := 1) fl_6_10 k_0 rfl rfl dX6_pull_40 ?_
      refine j_getR (y := I_X6_pull) (j := 7) fl_6_111 k_1 rfl rfl dX6_pull_43 ?_
      refine j_iconst (y := I_X6_pull) (v := 5) dX6_pull_46 (by decide) ?_
      refine j_dup2 (y := I_X6_pull) dX6_pull_47 rfl rfl ?_
      refine j_laldL (y := I_X6_pull) k_7 (by decide) dX6_pull_48 ?_
      refine j_aload_n (y := I_X6_pull) 1 dX6_pull_49 rfl rfl ?_
      refine j_callViR (y := I_X6_pull) (As := []) cv_6_115 ⟨Nat.le_of_ble_eq_true rfl, Nat.le_of_ble_eq_true rfl⟩ (kd_Pl _ (inb_lt h31)) rfl (Nat.le_of_ble_eq_true rfl) dX6_pull_50 (c_X2_fruitCount l w (20 + 2 * ix x1) S (kd_Pl _ (inb_lt h31))) (fun v50 h50 => ?_)
      refine j_i2l (y := I_X6_pull) dX6_pull_53 ?_
      refine j_ladd (y := I_X6_pull) dX6_pull_54 ?_
      refine j_lastL (y := I_X6_pull) k_7 (by decide) dX6_pull_55 ?_
      refine j_aload_n (y := I_X6_pull) 1 dX6_pull_56 rfl rfl ?_
      refine j_iload_n (y := I_X6_pull) 4 dX6_pull_57 rfl rfl ?_
      refine j_callVvS (y := I_X6_pull) (As := [.int x2]) cv_6_119 ⟨Nat.le_of_ble_eq_true rfl, Nat.le_of_ble_eq_true rfl⟩ (kd_Pl _ (inb_lt h31)) rfl (Nat.le_of_ble_eq_true rfl) dX6_pull_58 (c_X2_becomeGap l w (20 + 2 * ix x1) x2 (wrL S 7 (ix (5 : Int32)) ((rdL S 7 (ix (5 : Int32))) + v50.toInt64)) (kd_Pl _ (inb_lt h31))) (fun v58 h58 => ?_)
      refine j_aload_n (y := I_X6_pull) 2 dX6_pull_61 rfl rfl ?_
      refine j_getR (y := I_X6_pull) (j := 101) fl_6_40 k_0 rfl rfl dX6_pull_62 ?_
      refine j_callVvT (y := I_X6_pull) (As := []) cv_6_69 ⟨Nat.le_of_ble_eq_true rfl, Nat.le_of_ble_eq_true rfl⟩ k_101 rfl (Nat.le_of_ble_eq_true rfl) dX6_pull_65 (c_X1_forget l w v58) ?_
      refine j_iload (y := I_X6_pull) 0 dX6_pull_68 rfl ?_
      exact j_iret (y := I_X6_pull) rfl dX6_pull_70 rfl
    · refine j_aload_n (y := I_X6_pull) 0 dX6_pull_17 rfl rfl ?_
      refine j_iconst (y := I_X6_pull) (v := -1) dX6_pull_18 (by decide) ?_
      refine j_callViT (y := I_X6_pull) (As := [.int (-1 : Int32)]) cv_6_52 ⟨Nat.le_of_ble_eq_true rfl, Nat.le_of_ble_eq_true rfl⟩ k_0 rfl (Nat.le_of_ble_eq_true rfl) dX6_pull_19 (c_X6_finding l w (-1 : Int32) S) ?_
      exact j_iret (y := I_X6_pull) rfl dX6_pull_22 rfl
theorem c_X6_pull (l : Launch) (w : Wd) (x1 : Int32) (x2 : Int32) (S : St)  : ∀ v, f_X6_pull x1 x2 S = some v → CtS l w I_X6_pull [.ref (w.2.1 + 0), .int x1, .int x2] S v.2 (some (.int v.1)) := fun v h => J.ct (av := [.ref (w.2.1 + 0), .int x1, .int x2]) (Nat.le_of_ble_eq_true rfl) pn_6 (m_X6_pull l w x1 x2 S ) h
abbrev I_X6_put : MI := (yX6_put, cX6_put, 4, some .int, { frames := 2, cells := 0, slots := 0, locals := 42 })
theorem dX6_put_0 : decode cX6_put 0 = .ok (.iload_n 1, 1) := by decide +kernel
theorem dX6_put_1 : decode cX6_put 1 = .ok (.invokestatic 146, 3) := by decide +kernel
theorem dX6_put_4 : decode cX6_put 4 = .ok (.ifCond .ne 9, 3) := by decide +kernel
theorem dX6_put_7 : decode cX6_put 7 = .ok (.aload_n 0, 1) := by decide +kernel
theorem dX6_put_8 : decode cX6_put 8 = .ok (.iconst (-1), 1) := by decide +kernel
theorem dX6_put_9 : decode cX6_put 9 = .ok (.invokevirtual 52, 3) := by decide +kernel
theorem dX6_put_12 : decode cX6_put 12 = .ok (.ireturn, 1) := by decide +kernel
theorem dX6_put_13 : decode cX6_put 13 = .ok (.aload_n 0, 1) := by decide +kernel
theorem dX6_put_14 : decode cX6_put 14 = .ok (.getfield 25, 3) := by decide +kernel
theorem dX6_put_17 : decode cX6_put 17 = .ok (.iload_n 1, 1) := by decide +kernel
theorem dX6_put_18 : decode cX6_put 18 = .ok (.aaload, 1) := by decide +kernel
theorem dX6_put_19 : decode cX6_put 19 = .ok (.invokevirtual 155, 3) := by decide +kernel
theorem dX6_put_22 : decode cX6_put 22 = .ok (.ifCond .eq 10, 3) := by decide +kernel
theorem dX6_put_25 : decode cX6_put 25 = .ok (.aload_n 0, 1) := by decide +kernel
theorem dX6_put_26 : decode cX6_put 26 = .ok (.bipush (-2), 2) := by decide +kernel
theorem dX6_put_28 : decode cX6_put 28 = .ok (.invokevirtual 52, 3) := by decide +kernel
theorem dX6_put_31 : decode cX6_put 31 = .ok (.ireturn, 1) := by decide +kernel
theorem dX6_put_32 : decode cX6_put 32 = .ok (.aload_n 0, 1) := by decide +kernel
theorem dX6_put_33 : decode cX6_put 33 = .ok (.getfield 25, 3) := by decide +kernel
theorem dX6_put_36 : decode cX6_put 36 = .ok (.iload_n 1, 1) := by decide +kernel
theorem dX6_put_37 : decode cX6_put 37 = .ok (.aaload, 1) := by decide +kernel
theorem dX6_put_38 : decode cX6_put 38 = .ok (.iload_n 2, 1) := by decide +kernel
theorem dX6_put_39 : decode cX6_put 39 = .ok (.invokevirtual 158, 3) := by decide +kernel
theorem dX6_put_42 : decode cX6_put 42 = .ok (.ifCond .ne 9, 3) := by decide +kernel
theorem dX6_put_45 : decode cX6_put 45 = .ok (.aload_n 0, 1) := by decide +kernel
theorem dX6_put_46 : decode cX6_put 46 = .ok (.iconst (-1), 1) := by decide +kernel
theorem dX6_put_47 : decode cX6_put 47 = .ok (.invokevirtual 52, 3) := by decide +kernel
theorem dX6_put_50 : decode cX6_put 50 = .ok (.ireturn, 1) := by decide +kernel
theorem dX6_put_51 : decode cX6_put 51 = .ok (.aload_n 0, 1) := by decide +kernel
theorem dX6_put_52 : decode cX6_put 52 = .ok (.getfield 25, 3) := by decide +kernel
theorem dX6_put_55 : decode cX6_put 55 = .ok (.iload_n 1, 1) := by decide +kernel
theorem dX6_put_56 : decode cX6_put 56 = .ok (.aaload, 1) := by decide +kernel
theorem dX6_put_57 : decode cX6_put 57 = .ok (.iload_n 2, 1) := by decide +kernel
theorem dX6_put_58 : decode cX6_put 58 = .ok (.iload_n 3, 1) := by decide +kernel
theorem dX6_put_59 : decode cX6_put 59 = .ok (.invokevirtual 161, 3) := by decide +kernel
theorem dX6_put_62 : decode cX6_put 62 = .ok (.iconst 0, 1) := by decide +kernel
theorem dX6_put_63 : decode cX6_put 63 = .ok (.ireturn, 1) := by decide +kernel
theorem cv_6_158 : CV RX6 158 1 4 I_X4_has := ⟨⟨⟨gm 452 (by decide +kernel) rfl, gm 455 (by decide +kernel) rfl, gm 41 (by decide +kernel) rfl, mh_4.1, mh_4.2, by decide +kernel⟩, gm 453 (by decide +kernel) rfl, gm 454 (by decide +kernel) rfl⟩, ⟨_, _, rfl⟩, rfl, rfl⟩
theorem cv_6_161 : CV RX6 161 2 4 I_X4_write := ⟨⟨⟨gm 456 (by decide +kernel) rfl, gm 459 (by decide +kernel) rfl, gm 41 (by decide +kernel) rfl, mh_4.1, mh_4.2, by decide +kernel⟩, gm 457 (by decide +kernel) rfl, gm 458 (by decide +kernel) rfl⟩, ⟨_, _, rfl⟩, rfl, rfl⟩
def f_X6_put (x1 : Int32) (x2 : Int32) (x3 : Int32) (S : St) : Option (Int32 × St) := if (f_X6_isSheet x1) = true then (if inb x1 4 = true then (if (f_X4_isMissing (88 + 2 * ix x1) S) = true then (some (((f_X6_finding (-2 : Int32) S).1), (f_X6_finding (-2 : Int32) S).2)) else (if inb x1 4 = true then (if (f_X4_has (88 + 2 * ix x1) x2 S) = true then (if inb x1 4 = true then ((f_X4_write (88 + 2 * ix x1) x2 x3 S).bind fun v59 => (some ((0 : Int32), v59))) else none) else (some (((f_X6_finding (-1 : Int32) S).1), (f_X6_finding (-1 : Int32) S).2))) else none)) else none) else (some (((f_X6_finding (-1 : Int32) S).1), (f_X6_finding (-1 : Int32) S).2))
set_option maxRecDepth 100000 in
set_option maxHeartbeats 4000000 in
theorem m_X6_put (l : Launch) (w : Wd) (x1 : Int32) (x2 : Int32) (x3 : Int32) (S : St)  : J l w I_X6_put 0 [(0, .ref (w.2.1 + 0)), (1, .int x1), (2, .int x2), (3, .int x3)] [] S (fun b => (some (.int b.1), b.2)) (f_X6_put x1 x2 x3 S) := by
  unfold f_X6_put
  refine j_iload_n (y := I_X6_put) 1 dX6_put_0 rfl rfl ?_
  refine j_callSzT (y := I_X6_put) (As := [.int x1]) cv_6_146 ⟨Nat.le_of_ble_eq_true rfl, Nat.le_of_ble_eq_true rfl⟩ rfl (Nat.le_of_ble_eq_true rfl) dX6_put_1 (c_X6_isSheet l w x1 S) ?_
  refine j_if_neB (y := I_X6_put) 13 dX6_put_4 (by decide) (fun h4 => ?_) (fun h4 => ?_)
  · refine j_aload_n (y := I_X6_put) 0 dX6_put_13 rfl rfl ?_
    refine j_getR (y := I_X6_put) (j := 87) fl_6_25 k_0 rfl rfl dX6_put_14 ?_
    refine j_iload_n (y := I_X6_put) 1 dX6_put_17 rfl rfl ?_
    refine j_aald (y := I_X6_put) (j := (88 + 2 * ix x1)) (tt := 2) k_87 rfl (rho_87 _) dX6_put_18 (fun h18 => ?_)
    refine j_callVzT (y := I_X6_put) (As := []) cv_6_155 ⟨Nat.le_of_ble_eq_true rfl, Nat.le_of_ble_eq_true rfl⟩ (kd_Sh _ (inb_lt h18)) rfl (Nat.le_of_ble_eq_true rfl) dX6_put_19 (c_X4_isMissing l w (88 + 2 * ix x1) S (kd_Sh _ (inb_lt h18))) ?_
    refine j_if_eqB (y := I_X6_put) 32 dX6_put_22 (by decide) (fun h22 => ?_) (fun h22 => ?_)
    · refine j_aload_n (y := I_X6_put) 0 dX6_put_32 rfl rfl ?_
      refine j_getR (y := I_X6_put) (j := 87) fl_6_25 k_0 rfl rfl dX6_put_33 ?_
      refine j_iload_n (y := I_X6_put) 1 dX6_put_36 rfl rfl ?_
      refine j_aald (y := I_X6_put) (j := (88 + 2 * ix x1)) (tt := 2) k_87 rfl (rho_87 _) dX6_put_37 (fun h37 => ?_)
      refine j_iload_n (y := I_X6_put) 2 dX6_put_38 rfl rfl ?_
      refine j_callVzT (y := I_X6_put) (As := [.int x2]) cv_6_158 ⟨Nat.le_of_ble_eq_true rfl, Nat.le_of_ble_eq_true rfl⟩ (kd_Sh _ (inb_lt h37)) rfl (Nat.le_of_ble_eq_true rfl) dX6_put_39 (c_X4_has l w (88 + 2 * ix x1) x2 S (kd_Sh _ (inb_lt h37))) ?_
      refine j_if_neB (y := I_X6_put) 51 dX6_put_42 (by decide) (fun h42 => ?_) (fun h42 => ?_)
      · refine j_aload_n (y := I_X6_put) 0 dX6_put_51 rfl rfl ?_
        refine j_getR (y := I_X6_put) (j := 87) fl_6_25 k_0 rfl rfl dX6_put_52 ?_
        refine j_iload_n (y := I_X6_put) 1 dX6_put_55 rfl rfl ?_
        refine j_aald (y := I_X6_put) (j := (88 + 2 * ix x1)) (tt := 2) k_87 rfl (rho_87 _) dX6_put_56 (fun h56 => ?_)
        refine j_iload_n (y := I_X6_put) 2 dX6_put_57 rfl rfl ?_
        refine j_iload_n (y := I_X6_put) 3 dX6_put_58 rfl rfl ?_
        refine j_callVvS (y := I_X6_put) (As := [.int x2, .int x3]) cv_6_161 ⟨Nat.le_of_ble_eq_true rfl, Nat.le_of_ble_eq_true rfl⟩ (kd_Sh _ (inb_lt h56)) rfl (Nat.le_of_ble_eq_true rfl) dX6_put_59 (c_X4_write l w (88 + 2 * ix x1) x2 x3 S (kd_Sh _ (inb_lt h56))) (fun v59 h59 => ?_)
        refine j_iconst (y := I_X6_put) (v := 0) dX6_put_62 (by decide) ?_
        exact j_iret (y := I_X6_put) rfl dX6_put_63 rfl
      · refine j_aload_n (y := I_X6_put) 0 dX6_put_45 rfl rfl ?_
        refine j_iconst (y := I_X6_put) (v := -1) dX6_put_46 (by decide) ?_
        refine j_callViT (y := I_X6_put) (As := [.int (-1 : Int32)]) cv_6_52 ⟨Nat.le_of_ble_eq_true rfl, Nat.le_of_ble_eq_true rfl⟩ k_0 rfl (Nat.le_of_ble_eq_true rfl) dX6_put_47 (c_X6_finding l w (-1 : Int32) S) ?_
        exact j_iret (y := I_X6_put) rfl dX6_put_50 rfl
    · refine j_aload_n (y := I_X6_put) 0 dX6_put_25 rfl rfl ?_
      refine j_bipush (y := I_X6_put) (v := -2) dX6_put_26 (by decide) ?_
      refine j_callViT (y := I_X6_put) (As := [.int (-2 : Int32)]) cv_6_52 ⟨Nat.le_of_ble_eq_true rfl, Nat.le_of_ble_eq_true rfl⟩ k_0 rfl (Nat.le_of_ble_eq_true rfl) dX6_put_28 (c_X6_finding l w (-2 : Int32) S) ?_
      exact j_iret (y := I_X6_put) rfl dX6_put_31 rfl
  · refine j_aload_n (y := I_X6_put) 0 dX6_put_7 rfl rfl ?_
    refine j_iconst (y := I_X6_put) (v := -1) dX6_put_8 (by decide) ?_
    refine j_callViT (y := I_X6_put) (As := [.int (-1 : Int32)]) cv_6_52 ⟨Nat.le_of_ble_eq_true rfl, Nat.le_of_ble_eq_true rfl⟩ k_0 rfl (Nat.le_of_ble_eq_true rfl) dX6_put_9 (c_X6_finding l w (-1 : Int32) S) ?_
    exact j_iret (y := I_X6_put) rfl dX6_put_12 rfl
theorem c_X6_put (l : Launch) (w : Wd) (x1 : Int32) (x2 : Int32) (x3 : Int32) (S : St)  : ∀ v, f_X6_put x1 x2 x3 S = some v → CtS l w I_X6_put [.ref (w.2.1 + 0), .int x1, .int x2, .int x3] S v.2 (some (.int v.1)) := fun v h => J.ct (av := [.ref (w.2.1 + 0), .int x1, .int x2, .int x3]) (Nat.le_of_ble_eq_true rfl) pn_6 (m_X6_put l w x1 x2 x3 S ) h
abbrev I_X6_sheet : MI := (yX6_sheet, cX6_sheet, 4, some .int, { frames := 2, cells := 0, slots := 0, locals := 42 })
theorem dX6_sheet_0 : decode cX6_sheet 0 = .ok (.iload_n 1, 1) := by decide +kernel
theorem dX6_sheet_1 : decode cX6_sheet 1 = .ok (.invokestatic 146, 3) := by decide +kernel
theorem dX6_sheet_4 : decode cX6_sheet 4 = .ok (.ifCond .eq 12, 3) := by decide +kernel
theorem dX6_sheet_7 : decode cX6_sheet 7 = .ok (.iload_n 2, 1) := by decide +kernel
theorem dX6_sheet_8 : decode cX6_sheet 8 = .ok (.iconst 0, 1) := by decide +kernel
theorem dX6_sheet_9 : decode cX6_sheet 9 = .ok (.iconst 2, 1) := by decide +kernel
theorem dX6_sheet_10 : decode cX6_sheet 10 = .ok (.invokestatic 48, 3) := by decide +kernel
theorem dX6_sheet_13 : decode cX6_sheet 13 = .ok (.ifCond .ne 9, 3) := by decide +kernel
theorem dX6_sheet_16 : decode cX6_sheet 16 = .ok (.aload_n 0, 1) := by decide +kernel
theorem dX6_sheet_17 : decode cX6_sheet 17 = .ok (.iconst (-1), 1) := by decide +kernel
theorem dX6_sheet_18 : decode cX6_sheet 18 = .ok (.invokevirtual 52, 3) := by decide +kernel
theorem dX6_sheet_21 : decode cX6_sheet 21 = .ok (.ireturn, 1) := by decide +kernel
theorem dX6_sheet_22 : decode cX6_sheet 22 = .ok (.iload_n 3, 1) := by decide +kernel
theorem dX6_sheet_23 : decode cX6_sheet 23 = .ok (.ifCond .ge 10, 3) := by decide +kernel
theorem dX6_sheet_26 : decode cX6_sheet 26 = .ok (.aload_n 0, 1) := by decide +kernel
theorem dX6_sheet_27 : decode cX6_sheet 27 = .ok (.bipush (-3), 2) := by decide +kernel
theorem dX6_sheet_29 : decode cX6_sheet 29 = .ok (.invokevirtual 52, 3) := by decide +kernel
theorem dX6_sheet_32 : decode cX6_sheet 32 = .ok (.ireturn, 1) := by decide +kernel
theorem dX6_sheet_33 : decode cX6_sheet 33 = .ok (.iload_n 3, 1) := by decide +kernel
theorem dX6_sheet_34 : decode cX6_sheet 34 = .ok (.bipush 50, 2) := by decide +kernel
theorem dX6_sheet_36 : decode cX6_sheet 36 = .ok (.if_icmp .le 9, 3) := by decide +kernel
theorem dX6_sheet_39 : decode cX6_sheet 39 = .ok (.aload_n 0, 1) := by decide +kernel
theorem dX6_sheet_40 : decode cX6_sheet 40 = .ok (.iconst (-1), 1) := by decide +kernel
theorem dX6_sheet_41 : decode cX6_sheet 41 = .ok (.invokevirtual 52, 3) := by decide +kernel
theorem dX6_sheet_44 : decode cX6_sheet 44 = .ok (.ireturn, 1) := by decide +kernel
theorem dX6_sheet_45 : decode cX6_sheet 45 = .ok (.aload_n 0, 1) := by decide +kernel
theorem dX6_sheet_46 : decode cX6_sheet 46 = .ok (.getfield 25, 3) := by decide +kernel
theorem dX6_sheet_49 : decode cX6_sheet 49 = .ok (.iload_n 1, 1) := by decide +kernel
theorem dX6_sheet_50 : decode cX6_sheet 50 = .ok (.aaload, 1) := by decide +kernel
theorem dX6_sheet_51 : decode cX6_sheet 51 = .ok (.iload_n 2, 1) := by decide +kernel
theorem dX6_sheet_52 : decode cX6_sheet 52 = .ok (.iload_n 3, 1) := by decide +kernel
theorem dX6_sheet_53 : decode cX6_sheet 53 = .ok (.invokevirtual 149, 3) := by decide +kernel
theorem dX6_sheet_56 : decode cX6_sheet 56 = .ok (.aload_n 0, 1) := by decide +kernel
theorem dX6_sheet_57 : decode cX6_sheet 57 = .ok (.getfield 25, 3) := by decide +kernel
theorem dX6_sheet_60 : decode cX6_sheet 60 = .ok (.iload_n 1, 1) := by decide +kernel
theorem dX6_sheet_61 : decode cX6_sheet 61 = .ok (.aaload, 1) := by decide +kernel
theorem dX6_sheet_62 : decode cX6_sheet 62 = .ok (.getfield 152, 3) := by decide +kernel
theorem dX6_sheet_65 : decode cX6_sheet 65 = .ok (.ireturn, 1) := by decide +kernel
theorem cv_6_149 : CV RX6 149 2 4 I_X4_begin := ⟨⟨⟨gm 440 (by decide +kernel) rfl, gm 443 (by decide +kernel) rfl, gm 41 (by decide +kernel) rfl, mh_4.1, mh_4.2, by decide +kernel⟩, gm 441 (by decide +kernel) rfl, gm 442 (by decide +kernel) rfl⟩, ⟨_, _, rfl⟩, rfl, rfl⟩
def f_X6_sheet (x1 : Int32) (x2 : Int32) (x3 : Int32) (S : St) : Option (Int32 × St) := if (f_X6_isSheet x1) = true then (if (f_X6_within x2 (0 : Int32) (2 : Int32)) = true then (if x3 < 0 then (some (((f_X6_finding (-3 : Int32) S).1), (f_X6_finding (-3 : Int32) S).2)) else (if (50 : Int32) < x3 then (some (((f_X6_finding (-1 : Int32) S).1), (f_X6_finding (-1 : Int32) S).2)) else (if inb x1 4 = true then ((f_X4_begin (88 + 2 * ix x1) x2 x3 S).bind fun v53 => (if inb x1 4 = true then (some ((rd v53 (88 + 2 * ix x1) 1), v53)) else none)) else none))) else (some (((f_X6_finding (-1 : Int32) S).1), (f_X6_finding (-1 : Int32) S).2))) else (some (((f_X6_finding (-1 : Int32) S).1), (f_X6_finding (-1 : Int32) S).2))
set_option maxRecDepth 100000 in
set_option maxHeartbeats 4000000 in
theorem m_X6_sheet (l : Launch) (w : Wd) (x1 : Int32) (x2 : Int32) (x3 : Int32) (S : St)  : J l w I_X6_sheet 0 [(0, .ref (w.2.1 + 0)), (1, .int x1), (2, .int x2), (3, .int x3)] [] S (fun b => (some (.int b.1), b.2)) (f_X6_sheet x1 x2 x3 S) := by
  unfold f_X6_sheet
  refine j_iload_n (y := I_X6_sheet) 1 dX6_sheet_0 rfl rfl ?_
  refine j_callSzT (y := I_X6_sheet) (As := [.int x1]) cv_6_146 ⟨Nat.le_of_ble_eq_true rfl, Nat.le_of_ble_eq_true rfl⟩ rfl (Nat.le_of_ble_eq_true rfl) dX6_sheet_1 (c_X6_isSheet l w x1 S) ?_
  refine j_if_eqB (y := I_X6_sheet) 16 dX6_sheet_4 (by decide) (fun h4 => ?_) (fun h4 => ?_)
  · refine j_aload_n (y := I_X6_sheet) 0 dX6_sheet_16 rfl rfl ?_
    refine j_iconst (y := I_X6_sheet) (v := -1) dX6_sheet_17 (by decide) ?_
    refine j_callViT (y := I_X6_sheet) (As := [.int (-1 : Int32)]) cv_6_52 ⟨Nat.le_of_ble_eq_true rfl, Nat.le_of_ble_eq_true rfl⟩ k_0 rfl (Nat.le_of_ble_eq_true rfl) dX6_sheet_18 (c_X6_finding l w (-1 : Int32) S) ?_
    exact j_iret (y := I_X6_sheet) rfl dX6_sheet_21 rfl
  · refine j_iload_n (y := I_X6_sheet) 2 dX6_sheet_7 rfl rfl ?_
    refine j_iconst (y := I_X6_sheet) (v := 0) dX6_sheet_8 (by decide) ?_
    refine j_iconst (y := I_X6_sheet) (v := 2) dX6_sheet_9 (by decide) ?_
    refine j_callSzT (y := I_X6_sheet) (As := [.int x2, .int (0 : Int32), .int (2 : Int32)]) cv_6_48 ⟨Nat.le_of_ble_eq_true rfl, Nat.le_of_ble_eq_true rfl⟩ rfl (Nat.le_of_ble_eq_true rfl) dX6_sheet_10 (c_X6_within l w x2 (0 : Int32) (2 : Int32) S) ?_
    refine j_if_neB (y := I_X6_sheet) 22 dX6_sheet_13 (by decide) (fun h13 => ?_) (fun h13 => ?_)
    · refine j_iload_n (y := I_X6_sheet) 3 dX6_sheet_22 rfl rfl ?_
      refine j_if_ge (y := I_X6_sheet) 33 dX6_sheet_23 (by decide) (fun h23 => ?_) (fun h23 => ?_)
      · refine j_iload_n (y := I_X6_sheet) 3 dX6_sheet_33 rfl rfl ?_
        refine j_bipush (y := I_X6_sheet) (v := 50) dX6_sheet_34 (by decide) ?_
        refine j_icmp_le (y := I_X6_sheet) 45 dX6_sheet_36 (by decide) (fun h36 => ?_) (fun h36 => ?_)
        · refine j_aload_n (y := I_X6_sheet) 0 dX6_sheet_45 rfl rfl ?_
          refine j_getR (y := I_X6_sheet) (j := 87) fl_6_25 k_0 rfl rfl dX6_sheet_46 ?_
          refine j_iload_n (y := I_X6_sheet) 1 dX6_sheet_49 rfl rfl ?_
          refine j_aald (y := I_X6_sheet) (j := (88 + 2 * ix x1)) (tt := 2) k_87 rfl (rho_87 _) dX6_sheet_50 (fun h50 => ?_)
          refine j_iload_n (y := I_X6_sheet) 2 dX6_sheet_51 rfl rfl ?_
          refine j_iload_n (y := I_X6_sheet) 3 dX6_sheet_52 rfl rfl ?_
          refine j_callVvS (y := I_X6_sheet) (As := [.int x2, .int x3]) cv_6_149 ⟨Nat.le_of_ble_eq_true rfl, Nat.le_of_ble_eq_true rfl⟩ (kd_Sh _ (inb_lt h50)) rfl (Nat.le_of_ble_eq_true rfl) dX6_sheet_53 (c_X4_begin l w (88 + 2 * ix x1) x2 x3 S (kd_Sh _ (inb_lt h50))) (fun v53 h53 => ?_)
          refine j_aload_n (y := I_X6_sheet) 0 dX6_sheet_56 rfl rfl ?_
          refine j_getR (y := I_X6_sheet) (j := 87) fl_6_25 k_0 rfl rfl dX6_sheet_57 ?_
          refine j_iload_n (y := I_X6_sheet) 1 dX6_sheet_60 rfl rfl ?_
          refine j_aald (y := I_X6_sheet) (j := (88 + 2 * ix x1)) (tt := 2) k_87 rfl (rho_87 _) dX6_sheet_61 (fun h61 => ?_)
          refine j_getI (y := I_X6_sheet) fl_6_152 (kd_Sh _ (inb_lt h61)) rfl dX6_sheet_62 ?_
          exact j_iret (y := I_X6_sheet) rfl dX6_sheet_65 rfl
        · refine j_aload_n (y := I_X6_sheet) 0 dX6_sheet_39 rfl rfl ?_
          refine j_iconst (y := I_X6_sheet) (v := -1) dX6_sheet_40 (by decide) ?_
          refine j_callViT (y := I_X6_sheet) (As := [.int (-1 : Int32)]) cv_6_52 ⟨Nat.le_of_ble_eq_true rfl, Nat.le_of_ble_eq_true rfl⟩ k_0 rfl (Nat.le_of_ble_eq_true rfl) dX6_sheet_41 (c_X6_finding l w (-1 : Int32) S) ?_
          exact j_iret (y := I_X6_sheet) rfl dX6_sheet_44 rfl
      · refine j_aload_n (y := I_X6_sheet) 0 dX6_sheet_26 rfl rfl ?_
        refine j_bipush (y := I_X6_sheet) (v := -3) dX6_sheet_27 (by decide) ?_
        refine j_callViT (y := I_X6_sheet) (As := [.int (-3 : Int32)]) cv_6_52 ⟨Nat.le_of_ble_eq_true rfl, Nat.le_of_ble_eq_true rfl⟩ k_0 rfl (Nat.le_of_ble_eq_true rfl) dX6_sheet_29 (c_X6_finding l w (-3 : Int32) S) ?_
        exact j_iret (y := I_X6_sheet) rfl dX6_sheet_32 rfl
    · refine j_aload_n (y := I_X6_sheet) 0 dX6_sheet_16 rfl rfl ?_
      refine j_iconst (y := I_X6_sheet) (v := -1) dX6_sheet_17 (by decide) ?_
      refine j_callViT (y := I_X6_sheet) (As := [.int (-1 : Int32)]) cv_6_52 ⟨Nat.le_of_ble_eq_true rfl, Nat.le_of_ble_eq_true rfl⟩ k_0 rfl (Nat.le_of_ble_eq_true rfl) dX6_sheet_18 (c_X6_finding l w (-1 : Int32) S) ?_
      exact j_iret (y := I_X6_sheet) rfl dX6_sheet_21 rfl
theorem c_X6_sheet (l : Launch) (w : Wd) (x1 : Int32) (x2 : Int32) (x3 : Int32) (S : St)  : ∀ v, f_X6_sheet x1 x2 x3 S = some v → CtS l w I_X6_sheet [.ref (w.2.1 + 0), .int x1, .int x2, .int x3] S v.2 (some (.int v.1)) := fun v h => J.ct (av := [.ref (w.2.1 + 0), .int x1, .int x2, .int x3]) (Nat.le_of_ble_eq_true rfl) pn_6 (m_X6_sheet l w x1 x2 x3 S ) h
abbrev I_X6_sort : MI := (yX6_sort, cX6_sort, 7, some .int, { frames := 1, cells := 0, slots := 0, locals := 26 })
theorem dX6_sort_0 : decode cX6_sort 0 = .ok (.iload_n 1, 1) := by decide +kernel
theorem dX6_sort_1 : decode cX6_sort 1 = .ok (.iconst 0, 1) := by decide +kernel
theorem dX6_sort_2 : decode cX6_sort 2 = .ok (.sipush 2000, 3) := by decide +kernel
theorem dX6_sort_5 : decode cX6_sort 5 = .ok (.invokestatic 48, 3) := by decide +kernel
theorem dX6_sort_8 : decode cX6_sort 8 = .ok (.ifCond .eq 24, 3) := by decide +kernel
theorem dX6_sort_11 : decode cX6_sort 11 = .ok (.iload_n 2, 1) := by decide +kernel
theorem dX6_sort_12 : decode cX6_sort 12 = .ok (.iconst 1, 1) := by decide +kernel
theorem dX6_sort_13 : decode cX6_sort 13 = .ok (.bipush 9, 2) := by decide +kernel
theorem dX6_sort_15 : decode cX6_sort 15 = .ok (.invokestatic 48, 3) := by decide +kernel
theorem dX6_sort_18 : decode cX6_sort 18 = .ok (.ifCond .eq 14, 3) := by decide +kernel
theorem dX6_sort_21 : decode cX6_sort 21 = .ok (.iload_n 3, 1) := by decide +kernel
theorem dX6_sort_22 : decode cX6_sort 22 = .ok (.iconst 0, 1) := by decide +kernel
theorem dX6_sort_23 : decode cX6_sort 23 = .ok (.sipush 2000, 3) := by decide +kernel
theorem dX6_sort_26 : decode cX6_sort 26 = .ok (.invokestatic 48, 3) := by decide +kernel
theorem dX6_sort_29 : decode cX6_sort 29 = .ok (.ifCond .ne 9, 3) := by decide +kernel
theorem dX6_sort_32 : decode cX6_sort 32 = .ok (.aload_n 0, 1) := by decide +kernel
theorem dX6_sort_33 : decode cX6_sort 33 = .ok (.iconst (-1), 1) := by decide +kernel
theorem dX6_sort_34 : decode cX6_sort 34 = .ok (.invokevirtual 52, 3) := by decide +kernel
theorem dX6_sort_37 : decode cX6_sort 37 = .ok (.ireturn, 1) := by decide +kernel
theorem dX6_sort_38 : decode cX6_sort 38 = .ok (.iload 4, 2) := by decide +kernel
theorem dX6_sort_40 : decode cX6_sort 40 = .ok (.iconst 1, 1) := by decide +kernel
theorem dX6_sort_41 : decode cX6_sort 41 = .ok (.bipush 60, 2) := by decide +kernel
theorem dX6_sort_43 : decode cX6_sort 43 = .ok (.invokestatic 48, 3) := by decide +kernel
theorem dX6_sort_46 : decode cX6_sort 46 = .ok (.ifCond .eq 14, 3) := by decide +kernel
theorem dX6_sort_49 : decode cX6_sort 49 = .ok (.iload 5, 2) := by decide +kernel
theorem dX6_sort_51 : decode cX6_sort 51 = .ok (.iconst 0, 1) := by decide +kernel
theorem dX6_sort_52 : decode cX6_sort 52 = .ok (.bipush 9, 2) := by decide +kernel
theorem dX6_sort_54 : decode cX6_sort 54 = .ok (.invokestatic 48, 3) := by decide +kernel
theorem dX6_sort_57 : decode cX6_sort 57 = .ok (.ifCond .ne 9, 3) := by decide +kernel
theorem dX6_sort_60 : decode cX6_sort 60 = .ok (.aload_n 0, 1) := by decide +kernel
theorem dX6_sort_61 : decode cX6_sort 61 = .ok (.iconst (-1), 1) := by decide +kernel
theorem dX6_sort_62 : decode cX6_sort 62 = .ok (.invokevirtual 52, 3) := by decide +kernel
theorem dX6_sort_65 : decode cX6_sort 65 = .ok (.ireturn, 1) := by decide +kernel
theorem dX6_sort_66 : decode cX6_sort 66 = .ok (.aload_n 0, 1) := by decide +kernel
theorem dX6_sort_67 : decode cX6_sort 67 = .ok (.getfield 10, 3) := by decide +kernel
theorem dX6_sort_70 : decode cX6_sort 70 = .ok (.getfield 56, 3) := by decide +kernel
theorem dX6_sort_73 : decode cX6_sort 73 = .ok (.bipush 6, 2) := by decide +kernel
theorem dX6_sort_75 : decode cX6_sort 75 = .ok (.if_icmp .lt 10, 3) := by decide +kernel
theorem dX6_sort_78 : decode cX6_sort 78 = .ok (.aload_n 0, 1) := by decide +kernel
theorem dX6_sort_79 : decode cX6_sort 79 = .ok (.bipush (-5), 2) := by decide +kernel
theorem dX6_sort_81 : decode cX6_sort 81 = .ok (.invokevirtual 52, 3) := by decide +kernel
theorem dX6_sort_84 : decode cX6_sort 84 = .ok (.ireturn, 1) := by decide +kernel
theorem dX6_sort_85 : decode cX6_sort 85 = .ok (.aload_n 0, 1) := by decide +kernel
theorem dX6_sort_86 : decode cX6_sort 86 = .ok (.getfield 10, 3) := by decide +kernel
theorem dX6_sort_89 : decode cX6_sort 89 = .ok (.getfield 56, 3) := by decide +kernel
theorem dX6_sort_92 : decode cX6_sort 92 = .ok (.istore 6, 2) := by decide +kernel
theorem dX6_sort_94 : decode cX6_sort 94 = .ok (.aload_n 0, 1) := by decide +kernel
theorem dX6_sort_95 : decode cX6_sort 95 = .ok (.getfield 10, 3) := by decide +kernel
theorem dX6_sort_98 : decode cX6_sort 98 = .ok (.getfield 59, 3) := by decide +kernel
theorem dX6_sort_101 : decode cX6_sort 101 = .ok (.iload 6, 2) := by decide +kernel
theorem dX6_sort_103 : decode cX6_sort 103 = .ok (.aaload, 1) := by decide +kernel
theorem dX6_sort_104 : decode cX6_sort 104 = .ok (.iload_n 1, 1) := by decide +kernel
theorem dX6_sort_105 : decode cX6_sort 105 = .ok (.iload_n 2, 1) := by decide +kernel
theorem dX6_sort_106 : decode cX6_sort 106 = .ok (.iload_n 3, 1) := by decide +kernel
theorem dX6_sort_107 : decode cX6_sort 107 = .ok (.iload 4, 2) := by decide +kernel
theorem dX6_sort_109 : decode cX6_sort 109 = .ok (.iload 5, 2) := by decide +kernel
theorem dX6_sort_111 : decode cX6_sort 111 = .ok (.invokevirtual 63, 3) := by decide +kernel
theorem dX6_sort_114 : decode cX6_sort 114 = .ok (.aload_n 0, 1) := by decide +kernel
theorem dX6_sort_115 : decode cX6_sort 115 = .ok (.getfield 10, 3) := by decide +kernel
theorem dX6_sort_118 : decode cX6_sort 118 = .ok (.iload 6, 2) := by decide +kernel
theorem dX6_sort_120 : decode cX6_sort 120 = .ok (.iconst 1, 1) := by decide +kernel
theorem dX6_sort_121 : decode cX6_sort 121 = .ok (.iadd, 1) := by decide +kernel
theorem dX6_sort_122 : decode cX6_sort 122 = .ok (.putfield 56, 3) := by decide +kernel
theorem dX6_sort_125 : decode cX6_sort 125 = .ok (.aload_n 0, 1) := by decide +kernel
theorem dX6_sort_126 : decode cX6_sort 126 = .ok (.getfield 40, 3) := by decide +kernel
theorem dX6_sort_129 : decode cX6_sort 129 = .ok (.invokevirtual 69, 3) := by decide +kernel
theorem dX6_sort_132 : decode cX6_sort 132 = .ok (.iload 6, 2) := by decide +kernel
theorem dX6_sort_134 : decode cX6_sort 134 = .ok (.ireturn, 1) := by decide +kernel
theorem cv_6_63 : CV RX6 63 5 5 I_X5_begin := ⟨⟨⟨gm 335 (by decide +kernel) rfl, gm 338 (by decide +kernel) rfl, gm 39 (by decide +kernel) rfl, mh_5.1, mh_5.2, by decide +kernel⟩, gm 336 (by decide +kernel) rfl, gm 337 (by decide +kernel) rfl⟩, ⟨_, _, rfl⟩, rfl, rfl⟩
def f_X6_sort (x1 : Int32) (x2 : Int32) (x3 : Int32) (x4 : Int32) (x5 : Int32) (S : St) : Option (Int32 × St) := if (f_X6_within x1 (0 : Int32) (2000 : Int32)) = true then (if (f_X6_within x2 (1 : Int32) (9 : Int32)) = true then (if (f_X6_within x3 (0 : Int32) (2000 : Int32)) = true then (if (f_X6_within x4 (1 : Int32) (60 : Int32)) = true then (if (f_X6_within x5 (0 : Int32) (9 : Int32)) = true then (if (rd S 1 1) < (6 : Int32) then (if inb (rd S 1 1) 6 = true then ((f_X5_begin (8 + 2 * ix (rd S 1 1)) x1 x2 x3 x4 x5 S).bind fun v111 => (some ((rd S 1 1), (f_X1_forget (wr v111 1 1 ((rd S 1 1) + (1 : Int32))))))) else none) else (some (((f_X6_finding (-5 : Int32) S).1), (f_X6_finding (-5 : Int32) S).2))) else (some (((f_X6_finding (-1 : Int32) S).1), (f_X6_finding (-1 : Int32) S).2))) else (some (((f_X6_finding (-1 : Int32) S).1), (f_X6_finding (-1 : Int32) S).2))) else (some (((f_X6_finding (-1 : Int32) S).1), (f_X6_finding (-1 : Int32) S).2))) else (some (((f_X6_finding (-1 : Int32) S).1), (f_X6_finding (-1 : Int32) S).2))) else (some (((f_X6_finding (-1 : Int32) S).1), (f_X6_finding (-1 : Int32) S).2))
set_option maxRecDepth 100000 in
set_option maxHeartbeats 4000000 in
theorem m_X6_sort (l : Launch) (w : Wd) (x1 : Int32) (x2 : Int32) (x3 : Int32) (x4 : Int32) (x5 : Int32) (S : St)  : J l w I_X6_sort 0 [(0, .ref (w.2.1 + 0)), (1, .int x1), (2, .int x2), (3, .int x3), (4, .int x4), (5, .int x5)] [] S (fun b => (some (.int b.1), b.2)) (f_X6_sort x1 x2 x3 x4 x5 S) := by
  unfold f_X6_sort
  refine j_iload_n (y := I_X6_sort) 1 dX6_sort_0 rfl rfl ?_
  refine j_iconst (y := I_X6_sort) (v := 0) dX6_sort_1 (by decide) ?_
  refine j_sipush (y := I_X6_sort) (v := 2000) dX6_sort_2 (by decide) ?_
  refine j_callSzT (y := I_X6_sort) (As := [.int x1, .int (0 : Int32), .int (2000 : Int32)]) cv_6_48 ⟨Nat.le_of_ble_eq_true rfl, Nat.le_of_ble_eq_true rfl⟩ rfl (Nat.le_of_ble_eq_true rfl) dX6_sort_5 (c_X6_within l w x1 (0 : Int32) (2000 : Int32) S) ?_
  refine j_if_eqB (y := I_X6_sort) 32 dX6_sort_8 (by decide) (fun h8 => ?_) (fun h8 => ?_)
  · refine j_aload_n (y := I_X6_sort) 0 dX6_sort_32 rfl rfl ?_
    refine j_iconst (y := I_X6_sort) (v := -1) dX6_sort_33 (by decide) ?_
    refine j_callViT (y := I_X6_sort) (As := [.int (-1 : Int32)]) cv_6_52 ⟨Nat.le_of_ble_eq_true rfl, Nat.le_of_ble_eq_true rfl⟩ k_0 rfl (Nat.le_of_ble_eq_true rfl) dX6_sort_34 (c_X6_finding l w (-1 : Int32) S) ?_
    exact j_iret (y := I_X6_sort) rfl dX6_sort_37 rfl
  · refine j_iload_n (y := I_X6_sort) 2 dX6_sort_11 rfl rfl ?_
    refine j_iconst (y := I_X6_sort) (v := 1) dX6_sort_12 (by decide) ?_
    refine j_bipush (y := I_X6_sort) (v := 9) dX6_sort_13 (by decide) ?_
    refine j_callSzT (y := I_X6_sort) (As := [.int x2, .int (1 : Int32), .int (9 : Int32)]) cv_6_48 ⟨Nat.le_of_ble_eq_true rfl, Nat.le_of_ble_eq_true rfl⟩ rfl (Nat.le_of_ble_eq_true rfl) dX6_sort_15 (c_X6_within l w x2 (1 : Int32) (9 : Int32) S) ?_
    refine j_if_eqB (y := I_X6_sort) 32 dX6_sort_18 (by decide) (fun h18 => ?_) (fun h18 => ?_)
    · refine j_aload_n (y := I_X6_sort) 0 dX6_sort_32 rfl rfl ?_
      refine j_iconst (y := I_X6_sort) (v := -1) dX6_sort_33 (by decide) ?_
      refine j_callViT (y := I_X6_sort) (As := [.int (-1 : Int32)]) cv_6_52 ⟨Nat.le_of_ble_eq_true rfl, Nat.le_of_ble_eq_true rfl⟩ k_0 rfl (Nat.le_of_ble_eq_true rfl) dX6_sort_34 (c_X6_finding l w (-1 : Int32) S) ?_
      exact j_iret (y := I_X6_sort) rfl dX6_sort_37 rfl
    · refine j_iload_n (y := I_X6_sort) 3 dX6_sort_21 rfl rfl ?_
      refine j_iconst (y := I_X6_sort) (v := 0) dX6_sort_22 (by decide) ?_
      refine j_sipush (y := I_X6_sort) (v := 2000) dX6_sort_23 (by decide) ?_
      refine j_callSzT (y := I_X6_sort) (As := [.int x3, .int (0 : Int32), .int (2000 : Int32)]) cv_6_48 ⟨Nat.le_of_ble_eq_true rfl, Nat.le_of_ble_eq_true rfl⟩ rfl (Nat.le_of_ble_eq_true rfl) dX6_sort_26 (c_X6_within l w x3 (0 : Int32) (2000 : Int32) S) ?_
      refine j_if_neB (y := I_X6_sort) 38 dX6_sort_29 (by decide) (fun h29 => ?_) (fun h29 => ?_)
      · refine j_iload (y := I_X6_sort) 4 dX6_sort_38 rfl ?_
        refine j_iconst (y := I_X6_sort) (v := 1) dX6_sort_40 (by decide) ?_
        refine j_bipush (y := I_X6_sort) (v := 60) dX6_sort_41 (by decide) ?_
        refine j_callSzT (y := I_X6_sort) (As := [.int x4, .int (1 : Int32), .int (60 : Int32)]) cv_6_48 ⟨Nat.le_of_ble_eq_true rfl, Nat.le_of_ble_eq_true rfl⟩ rfl (Nat.le_of_ble_eq_true rfl) dX6_sort_43 (c_X6_within l w x4 (1 : Int32) (60 : Int32) S) ?_
        refine j_if_eqB (y := I_X6_sort) 60 dX6_sort_46 (by decide) (fun h46 => ?_) (fun h46 => ?_)
        · refine j_aload_n (y := I_X6_sort) 0 dX6_sort_60 rfl rfl ?_
          refine j_iconst (y := I_X6_sort) (v := -1) dX6_sort_61 (by decide) ?_
          refine j_callViT (y := I_X6_sort) (As := [.int (-1 : Int32)]) cv_6_52 ⟨Nat.le_of_ble_eq_true rfl, Nat.le_of_ble_eq_true rfl⟩ k_0 rfl (Nat.le_of_ble_eq_true rfl) dX6_sort_62 (c_X6_finding l w (-1 : Int32) S) ?_
          exact j_iret (y := I_X6_sort) rfl dX6_sort_65 rfl
        · refine j_iload (y := I_X6_sort) 5 dX6_sort_49 rfl ?_
          refine j_iconst (y := I_X6_sort) (v := 0) dX6_sort_51 (by decide) ?_
          refine j_bipush (y := I_X6_sort) (v := 9) dX6_sort_52 (by decide) ?_
          refine j_callSzT (y := I_X6_sort) (As := [.int x5, .int (0 : Int32), .int (9 : Int32)]) cv_6_48 ⟨Nat.le_of_ble_eq_true rfl, Nat.le_of_ble_eq_true rfl⟩ rfl (Nat.le_of_ble_eq_true rfl) dX6_sort_54 (c_X6_within l w x5 (0 : Int32) (9 : Int32) S) ?_
          refine j_if_neB (y := I_X6_sort) 66 dX6_sort_57 (by decide) (fun h57 => ?_) (fun h57 => ?_)
          · refine j_aload_n (y := I_X6_sort) 0 dX6_sort_66 rfl rfl ?_
            refine j_getR (y := I_X6_sort) (j := 1) fl_6_10 k_0 rfl rfl dX6_sort_67 ?_
            refine j_getI (y := I_X6_sort) fl_6_56 k_1 rfl dX6_sort_70 ?_
            refine j_bipush (y := I_X6_sort) (v := 6) dX6_sort_73 (by decide) ?_
            refine j_icmp_lt (y := I_X6_sort) 85 dX6_sort_75 (by decide) (fun h75 => ?_) (fun h75 => ?_)
            · refine j_aload_n (y := I_X6_sort) 0 dX6_sort_85 rfl rfl ?_
              refine j_getR (y := I_X6_sort) (j := 1) fl_6_10 k_0 rfl rfl dX6_sort_86 ?_
              refine j_getI (y := I_X6_sort) fl_6_56 k_1 rfl dX6_sort_89 ?_
              refine j_istore (y := I_X6_sort) (ls' := [(6, .int (rd S 1 1)), (0, .ref (w.2.1 + 0)), (1, .int x1), (2, .int x2), (3, .int x3), (4, .int x4), (5, .int x5)]) dX6_sort_92 (by decide) rfl ?_
              refine j_aload_n (y := I_X6_sort) 1 dX6_sort_94 rfl rfl ?_
              refine j_getR (y := I_X6_sort) (j := 1) fl_6_10 k_0 rfl rfl dX6_sort_95 ?_
              refine j_getR (y := I_X6_sort) (j := 2) fl_6_59 k_1 rfl rfl dX6_sort_98 ?_
              refine j_iload (y := I_X6_sort) 0 dX6_sort_101 rfl ?_
              refine j_aald (y := I_X6_sort) (j := (8 + 2 * ix (rd S 1 1))) (tt := 0) k_2 rfl (rho_2 _) dX6_sort_103 (fun h103 => ?_)
              refine j_iload_n (y := I_X6_sort) 2 dX6_sort_104 rfl rfl ?_
              refine j_iload_n (y := I_X6_sort) 3 dX6_sort_105 rfl rfl ?_
              refine j_iload_n (y := I_X6_sort) 4 dX6_sort_106 rfl rfl ?_
              refine j_iload (y := I_X6_sort) 5 dX6_sort_107 rfl ?_
              refine j_iload (y := I_X6_sort) 6 dX6_sort_109 rfl ?_
              refine j_callVvS (y := I_X6_sort) (As := [.int x1, .int x2, .int x3, .int x4, .int x5]) cv_6_63 ⟨Nat.le_of_ble_eq_true rfl, Nat.le_of_ble_eq_true rfl⟩ (kd_So _ (inb_lt h103)) rfl (Nat.le_of_ble_eq_true rfl) dX6_sort_111 (c_X5_begin l w (8 + 2 * ix (rd S 1 1)) x1 x2 x3 x4 x5 S (kd_So _ (inb_lt h103))) (fun v111 h111 => ?_)
              refine j_aload_n (y := I_X6_sort) 1 dX6_sort_114 rfl rfl ?_
              refine j_getR (y := I_X6_sort) (j := 1) fl_6_10 k_0 rfl rfl dX6_sort_115 ?_
              refine j_iload (y := I_X6_sort) 0 dX6_sort_118 rfl ?_
              refine j_iconst (y := I_X6_sort) (v := 1) dX6_sort_120 (by decide) ?_
              refine j_iadd (y := I_X6_sort) dX6_sort_121 ?_
              refine j_putI (y := I_X6_sort) fp_6_56 k_1 rfl rfl rfl dX6_sort_122 ?_
              refine j_aload_n (y := I_X6_sort) 1 dX6_sort_125 rfl rfl ?_
              refine j_getR (y := I_X6_sort) (j := 101) fl_6_40 k_0 rfl rfl dX6_sort_126 ?_
              refine j_callVvT (y := I_X6_sort) (As := []) cv_6_69 ⟨Nat.le_of_ble_eq_true rfl, Nat.le_of_ble_eq_true rfl⟩ k_101 rfl (Nat.le_of_ble_eq_true rfl) dX6_sort_129 (c_X1_forget l w (wr v111 1 1 ((rd S 1 1) + (1 : Int32)))) ?_
              refine j_iload (y := I_X6_sort) 0 dX6_sort_132 rfl ?_
              exact j_iret (y := I_X6_sort) rfl dX6_sort_134 rfl
            · refine j_aload_n (y := I_X6_sort) 0 dX6_sort_78 rfl rfl ?_
              refine j_bipush (y := I_X6_sort) (v := -5) dX6_sort_79 (by decide) ?_
              refine j_callViT (y := I_X6_sort) (As := [.int (-5 : Int32)]) cv_6_52 ⟨Nat.le_of_ble_eq_true rfl, Nat.le_of_ble_eq_true rfl⟩ k_0 rfl (Nat.le_of_ble_eq_true rfl) dX6_sort_81 (c_X6_finding l w (-5 : Int32) S) ?_
              exact j_iret (y := I_X6_sort) rfl dX6_sort_84 rfl
          · refine j_aload_n (y := I_X6_sort) 0 dX6_sort_60 rfl rfl ?_
            refine j_iconst (y := I_X6_sort) (v := -1) dX6_sort_61 (by decide) ?_
            refine j_callViT (y := I_X6_sort) (As := [.int (-1 : Int32)]) cv_6_52 ⟨Nat.le_of_ble_eq_true rfl, Nat.le_of_ble_eq_true rfl⟩ k_0 rfl (Nat.le_of_ble_eq_true rfl) dX6_sort_62 (c_X6_finding l w (-1 : Int32) S) ?_
            exact j_iret (y := I_X6_sort) rfl dX6_sort_65 rfl
      · refine j_aload_n (y := I_X6_sort) 0 dX6_sort_32 rfl rfl ?_
        refine j_iconst (y := I_X6_sort) (v := -1) dX6_sort_33 (by decide) ?_
        refine j_callViT (y := I_X6_sort) (As := [.int (-1 : Int32)]) cv_6_52 ⟨Nat.le_of_ble_eq_true rfl, Nat.le_of_ble_eq_true rfl⟩ k_0 rfl (Nat.le_of_ble_eq_true rfl) dX6_sort_34 (c_X6_finding l w (-1 : Int32) S) ?_
        exact j_iret (y := I_X6_sort) rfl dX6_sort_37 rfl
theorem c_X6_sort (l : Launch) (w : Wd) (x1 : Int32) (x2 : Int32) (x3 : Int32) (x4 : Int32) (x5 : Int32) (S : St)  : ∀ v, f_X6_sort x1 x2 x3 x4 x5 S = some v → CtS l w I_X6_sort [.ref (w.2.1 + 0), .int x1, .int x2, .int x3, .int x4, .int x5] S v.2 (some (.int v.1)) := fun v h => J.ct (av := [.ref (w.2.1 + 0), .int x1, .int x2, .int x3, .int x4, .int x5]) (Nat.le_of_ble_eq_true rfl) pn_6 (m_X6_sort l w x1 x2 x3 x4 x5 S ) h
abbrev I_X6_store : MI := (yX6_store, cX6_store, 2, some .int, { frames := 2, cells := 0, slots := 0, locals := 43 })
theorem dX6_store_0 : decode cX6_store 0 = .ok (.aload_n 0, 1) := by decide +kernel
theorem dX6_store_1 : decode cX6_store 1 = .ok (.iload_n 1, 1) := by decide +kernel
theorem dX6_store_2 : decode cX6_store 2 = .ok (.invokevirtual 72, 3) := by decide +kernel
theorem dX6_store_5 : decode cX6_store 5 = .ok (.ifCond .ne 9, 3) := by decide +kernel
theorem dX6_store_8 : decode cX6_store 8 = .ok (.aload_n 0, 1) := by decide +kernel
theorem dX6_store_9 : decode cX6_store 9 = .ok (.iconst (-1), 1) := by decide +kernel
theorem dX6_store_10 : decode cX6_store 10 = .ok (.invokevirtual 52, 3) := by decide +kernel
theorem dX6_store_13 : decode cX6_store 13 = .ok (.ireturn, 1) := by decide +kernel
theorem dX6_store_14 : decode cX6_store 14 = .ok (.aload_n 0, 1) := by decide +kernel
theorem dX6_store_15 : decode cX6_store 15 = .ok (.getfield 10, 3) := by decide +kernel
theorem dX6_store_18 : decode cX6_store 18 = .ok (.getfield 59, 3) := by decide +kernel
theorem dX6_store_21 : decode cX6_store 21 = .ok (.iload_n 1, 1) := by decide +kernel
theorem dX6_store_22 : decode cX6_store 22 = .ok (.aaload, 1) := by decide +kernel
theorem dX6_store_23 : decode cX6_store 23 = .ok (.getfield 244, 3) := by decide +kernel
theorem dX6_store_26 : decode cX6_store 26 = .ok (.ireturn, 1) := by decide +kernel
def f_X6_store (x1 : Int32) (S : St) : Option (Int32 × St) := if (f_X6_isSort x1 S) = true then (if inb x1 6 = true then (some ((rd S (8 + 2 * ix x1) 6), S)) else none) else (some (((f_X6_finding (-1 : Int32) S).1), (f_X6_finding (-1 : Int32) S).2))
set_option maxRecDepth 100000 in
set_option maxHeartbeats 4000000 in
theorem m_X6_store (l : Launch) (w : Wd) (x1 : Int32) (S : St)  : J l w I_X6_store 0 [(0, .ref (w.2.1 + 0)), (1, .int x1)] [] S (fun b => (some (.int b.1), b.2)) (f_X6_store x1 S) := by
  unfold f_X6_store
  refine j_aload_n (y := I_X6_store) 0 dX6_store_0 rfl rfl ?_
  refine j_iload_n (y := I_X6_store) 1 dX6_store_1 rfl rfl ?_
  refine j_callVzT (y := I_X6_store) (As := [.int x1]) cv_6_72 ⟨Nat.le_of_ble_eq_true rfl, Nat.le_of_ble_eq_true rfl⟩ k_0 rfl (Nat.le_of_ble_eq_true rfl) dX6_store_2 (c_X6_isSort l w x1 S) ?_
  refine j_if_neB (y := I_X6_store) 14 dX6_store_5 (by decide) (fun h5 => ?_) (fun h5 => ?_)
  · refine j_aload_n (y := I_X6_store) 0 dX6_store_14 rfl rfl ?_
    refine j_getR (y := I_X6_store) (j := 1) fl_6_10 k_0 rfl rfl dX6_store_15 ?_
    refine j_getR (y := I_X6_store) (j := 2) fl_6_59 k_1 rfl rfl dX6_store_18 ?_
    refine j_iload_n (y := I_X6_store) 1 dX6_store_21 rfl rfl ?_
    refine j_aald (y := I_X6_store) (j := (8 + 2 * ix x1)) (tt := 0) k_2 rfl (rho_2 _) dX6_store_22 (fun h22 => ?_)
    refine j_getI (y := I_X6_store) fl_6_244 (kd_So _ (inb_lt h22)) rfl dX6_store_23 ?_
    exact j_iret (y := I_X6_store) rfl dX6_store_26 rfl
  · refine j_aload_n (y := I_X6_store) 0 dX6_store_8 rfl rfl ?_
    refine j_iconst (y := I_X6_store) (v := -1) dX6_store_9 (by decide) ?_
    refine j_callViT (y := I_X6_store) (As := [.int (-1 : Int32)]) cv_6_52 ⟨Nat.le_of_ble_eq_true rfl, Nat.le_of_ble_eq_true rfl⟩ k_0 rfl (Nat.le_of_ble_eq_true rfl) dX6_store_10 (c_X6_finding l w (-1 : Int32) S) ?_
    exact j_iret (y := I_X6_store) rfl dX6_store_13 rfl
theorem c_X6_store (l : Launch) (w : Wd) (x1 : Int32) (S : St)  : ∀ v, f_X6_store x1 S = some v → CtS l w I_X6_store [.ref (w.2.1 + 0), .int x1] S v.2 (some (.int v.1)) := fun v h => J.ct (av := [.ref (w.2.1 + 0), .int x1]) (Nat.le_of_ble_eq_true rfl) pn_6 (m_X6_store l w x1 S ) h
abbrev I_X6_sum : MI := (yX6_sum, cX6_sum, 2, some .int, { frames := 5, cells := 0, slots := 0, locals := 112 })
theorem dX6_sum_0 : decode cX6_sum 0 = .ok (.iload_n 1, 1) := by decide +kernel
theorem dX6_sum_1 : decode cX6_sum 1 = .ok (.invokestatic 182, 3) := by decide +kernel
theorem dX6_sum_4 : decode cX6_sum 4 = .ok (.ifCond .ne 9, 3) := by decide +kernel
theorem dX6_sum_7 : decode cX6_sum 7 = .ok (.aload_n 0, 1) := by decide +kernel
theorem dX6_sum_8 : decode cX6_sum 8 = .ok (.iconst (-1), 1) := by decide +kernel
theorem dX6_sum_9 : decode cX6_sum 9 = .ok (.invokevirtual 52, 3) := by decide +kernel
theorem dX6_sum_12 : decode cX6_sum 12 = .ok (.ireturn, 1) := by decide +kernel
theorem dX6_sum_13 : decode cX6_sum 13 = .ok (.aload_n 0, 1) := by decide +kernel
theorem dX6_sum_14 : decode cX6_sum 14 = .ok (.getfield 33, 3) := by decide +kernel
theorem dX6_sum_17 : decode cX6_sum 17 = .ok (.aload_n 0, 1) := by decide +kernel
theorem dX6_sum_18 : decode cX6_sum 18 = .ok (.getfield 10, 3) := by decide +kernel
theorem dX6_sum_21 : decode cX6_sum 21 = .ok (.aload_n 0, 1) := by decide +kernel
theorem dX6_sum_22 : decode cX6_sum 22 = .ok (.invokevirtual 185, 3) := by decide +kernel
theorem dX6_sum_25 : decode cX6_sum 25 = .ok (.invokevirtual 193, 3) := by decide +kernel
theorem dX6_sum_28 : decode cX6_sum 28 = .ok (.aload_n 0, 1) := by decide +kernel
theorem dX6_sum_29 : decode cX6_sum 29 = .ok (.getfield 33, 3) := by decide +kernel
theorem dX6_sum_32 : decode cX6_sum 32 = .ok (.getfield 197, 3) := by decide +kernel
theorem dX6_sum_35 : decode cX6_sum 35 = .ok (.iload_n 1, 1) := by decide +kernel
theorem dX6_sum_36 : decode cX6_sum 36 = .ok (.iconst 1, 1) := by decide +kernel
theorem dX6_sum_37 : decode cX6_sum 37 = .ok (.iadd, 1) := by decide +kernel
theorem dX6_sum_38 : decode cX6_sum 38 = .ok (.iaload, 1) := by decide +kernel
theorem dX6_sum_39 : decode cX6_sum 39 = .ok (.ireturn, 1) := by decide +kernel
def f_X6_sum (x1 : Int32) (S : St) : Option (Int32 × St) := if (f_X6_isDay x1) = true then ((f_X6_namedSheet S).bind fun v22 => ((f_X3_readYear v22 S).bind fun v25 => (if inb (x1 + (1 : Int32)) 51 = true then (some ((rd v25 98 (ix (x1 + (1 : Int32)))), v25)) else none))) else (some (((f_X6_finding (-1 : Int32) S).1), (f_X6_finding (-1 : Int32) S).2))
set_option maxRecDepth 100000 in
set_option maxHeartbeats 4000000 in
theorem m_X6_sum (l : Launch) (w : Wd) (x1 : Int32) (S : St)  : J l w I_X6_sum 0 [(0, .ref (w.2.1 + 0)), (1, .int x1)] [] S (fun b => (some (.int b.1), b.2)) (f_X6_sum x1 S) := by
  unfold f_X6_sum
  refine j_iload_n (y := I_X6_sum) 1 dX6_sum_0 rfl rfl ?_
  refine j_callSzT (y := I_X6_sum) (As := [.int x1]) cv_6_182 ⟨Nat.le_of_ble_eq_true rfl, Nat.le_of_ble_eq_true rfl⟩ rfl (Nat.le_of_ble_eq_true rfl) dX6_sum_1 (c_X6_isDay l w x1 S) ?_
  refine j_if_neB (y := I_X6_sum) 13 dX6_sum_4 (by decide) (fun h4 => ?_) (fun h4 => ?_)
  · refine j_aload_n (y := I_X6_sum) 0 dX6_sum_13 rfl rfl ?_
    refine j_getR (y := I_X6_sum) (j := 96) fl_6_33 k_0 rfl rfl dX6_sum_14 ?_
    refine j_aload_n (y := I_X6_sum) 0 dX6_sum_17 rfl rfl ?_
    refine j_getR (y := I_X6_sum) (j := 1) fl_6_10 k_0 rfl rfl dX6_sum_18 ?_
    refine j_aload_n (y := I_X6_sum) 0 dX6_sum_21 rfl rfl ?_
    refine j_callVqR (y := I_X6_sum) (As := []) cv_6_185 ⟨Nat.le_of_ble_eq_true rfl, Nat.le_of_ble_eq_true rfl⟩ k_0 rfl (Nat.le_of_ble_eq_true rfl) dX6_sum_22 (c_X6_namedSheet l w S) (fun v22 h22 => ?_)
    refine j_callVvS (y := I_X6_sum) (As := [.ref (w.2.1 + 1), va_rf (Option.map (fun j => w.2.1 + j) v22)]) cv_6_193 ⟨Nat.le_of_ble_eq_true rfl, Nat.le_of_ble_eq_true rfl⟩ k_96 rfl (Nat.le_of_ble_eq_true rfl) dX6_sum_25 (c_X3_readYear l w v22 S (hq_X6_namedSheet S v22 h22)) (fun v25 h25 => ?_)
    refine j_aload_n (y := I_X6_sum) 0 dX6_sum_28 rfl rfl ?_
    refine j_getR (y := I_X6_sum) (j := 96) fl_6_33 k_0 rfl rfl dX6_sum_29 ?_
    refine j_getR (y := I_X6_sum) (j := 98) fl_6_197 k_96 rfl rfl dX6_sum_32 ?_
    refine j_iload_n (y := I_X6_sum) 1 dX6_sum_35 rfl rfl ?_
    refine j_iconst (y := I_X6_sum) (v := 1) dX6_sum_36 (by decide) ?_
    refine j_iadd (y := I_X6_sum) dX6_sum_37 ?_
    refine j_iald (y := I_X6_sum) k_98 dX6_sum_38 (fun h38 => ?_)
    exact j_iret (y := I_X6_sum) rfl dX6_sum_39 rfl
  · refine j_aload_n (y := I_X6_sum) 0 dX6_sum_7 rfl rfl ?_
    refine j_iconst (y := I_X6_sum) (v := -1) dX6_sum_8 (by decide) ?_
    refine j_callViT (y := I_X6_sum) (As := [.int (-1 : Int32)]) cv_6_52 ⟨Nat.le_of_ble_eq_true rfl, Nat.le_of_ble_eq_true rfl⟩ k_0 rfl (Nat.le_of_ble_eq_true rfl) dX6_sum_9 (c_X6_finding l w (-1 : Int32) S) ?_
    exact j_iret (y := I_X6_sum) rfl dX6_sum_12 rfl
theorem c_X6_sum (l : Launch) (w : Wd) (x1 : Int32) (S : St)  : ∀ v, f_X6_sum x1 S = some v → CtS l w I_X6_sum [.ref (w.2.1 + 0), .int x1] S v.2 (some (.int v.1)) := fun v h => J.ct (av := [.ref (w.2.1 + 0), .int x1]) (Nat.le_of_ble_eq_true rfl) pn_6 (m_X6_sum l w x1 S ) h
abbrev I_X6_take : MI := (yX6_take, cX6_take, 4, some .int, { frames := 2, cells := 0, slots := 0, locals := 49 })
theorem dX6_take_0 : decode cX6_take 0 = .ok (.aload_n 0, 1) := by decide +kernel
theorem dX6_take_1 : decode cX6_take 1 = .ok (.iload_n 1, 1) := by decide +kernel
theorem dX6_take_2 : decode cX6_take 2 = .ok (.invokevirtual 72, 3) := by decide +kernel
theorem dX6_take_5 : decode cX6_take 5 = .ok (.ifCond .eq 7, 3) := by decide +kernel
theorem dX6_take_8 : decode cX6_take 8 = .ok (.iload_n 2, 1) := by decide +kernel
theorem dX6_take_9 : decode cX6_take 9 = .ok (.ifCond .ge 9, 3) := by decide +kernel
theorem dX6_take_12 : decode cX6_take 12 = .ok (.aload_n 0, 1) := by decide +kernel
theorem dX6_take_13 : decode cX6_take 13 = .ok (.iconst (-1), 1) := by decide +kernel
theorem dX6_take_14 : decode cX6_take 14 = .ok (.invokevirtual 52, 3) := by decide +kernel
theorem dX6_take_17 : decode cX6_take 17 = .ok (.ireturn, 1) := by decide +kernel
theorem dX6_take_18 : decode cX6_take 18 = .ok (.aload_n 0, 1) := by decide +kernel
theorem dX6_take_19 : decode cX6_take 19 = .ok (.getfield 10, 3) := by decide +kernel
theorem dX6_take_22 : decode cX6_take 22 = .ok (.getfield 59, 3) := by decide +kernel
theorem dX6_take_25 : decode cX6_take 25 = .ok (.iload_n 1, 1) := by decide +kernel
theorem dX6_take_26 : decode cX6_take 26 = .ok (.aaload, 1) := by decide +kernel
theorem dX6_take_27 : decode cX6_take 27 = .ok (.iload_n 2, 1) := by decide +kernel
theorem dX6_take_28 : decode cX6_take 28 = .ok (.aload_n 0, 1) := by decide +kernel
theorem dX6_take_29 : decode cX6_take 29 = .ok (.getfield 10, 3) := by decide +kernel
theorem dX6_take_32 : decode cX6_take 32 = .ok (.getfield 247, 3) := by decide +kernel
theorem dX6_take_35 : decode cX6_take 35 = .ok (.invokevirtual 250, 3) := by decide +kernel
theorem dX6_take_38 : decode cX6_take 38 = .ok (.istore_n 3, 1) := by decide +kernel
theorem dX6_take_39 : decode cX6_take 39 = .ok (.aload_n 0, 1) := by decide +kernel
theorem dX6_take_40 : decode cX6_take 40 = .ok (.getfield 10, 3) := by decide +kernel
theorem dX6_take_43 : decode cX6_take 43 = .ok (.getfield 111, 3) := by decide +kernel
theorem dX6_take_46 : decode cX6_take 46 = .ok (.bipush 8, 2) := by decide +kernel
theorem dX6_take_48 : decode cX6_take 48 = .ok (.dup2, 1) := by decide +kernel
theorem dX6_take_49 : decode cX6_take 49 = .ok (.laload, 1) := by decide +kernel
theorem dX6_take_50 : decode cX6_take 50 = .ok (.iload_n 3, 1) := by decide +kernel
theorem dX6_take_51 : decode cX6_take 51 = .ok (.i2l, 1) := by decide +kernel
theorem dX6_take_52 : decode cX6_take 52 = .ok (.ladd, 1) := by decide +kernel
theorem dX6_take_53 : decode cX6_take 53 = .ok (.lastore, 1) := by decide +kernel
theorem dX6_take_54 : decode cX6_take 54 = .ok (.iload_n 3, 1) := by decide +kernel
theorem dX6_take_55 : decode cX6_take 55 = .ok (.ireturn, 1) := by decide +kernel
theorem cv_6_250 : CV RX6 250 2 5 I_X5_takeOldest := ⟨⟨⟨gm 686 (by decide +kernel) rfl, gm 689 (by decide +kernel) rfl, gm 39 (by decide +kernel) rfl, mh_5.1, mh_5.2, by decide +kernel⟩, gm 687 (by decide +kernel) rfl, gm 688 (by decide +kernel) rfl⟩, ⟨_, _, rfl⟩, rfl, rfl⟩
def f_X6_take (x1 : Int32) (x2 : Int32) (S : St) : Option (Int32 × St) := if (f_X6_isSort x1 S) = true then (if x2 < 0 then (some (((f_X6_finding (-1 : Int32) S).1), (f_X6_finding (-1 : Int32) S).2)) else (if inb x1 6 = true then ((f_X5_takeOldest (8 + 2 * ix x1) x2 (rd S 1 11) S).bind fun v35 => (some (v35.1, (wrL v35.2 7 (ix (8 : Int32)) ((rdL v35.2 7 (ix (8 : Int32))) + v35.1.toInt64))))) else none)) else (some (((f_X6_finding (-1 : Int32) S).1), (f_X6_finding (-1 : Int32) S).2))
set_option maxRecDepth 100000 in
set_option maxHeartbeats 4000000 in
theorem m_X6_take (l : Launch) (w : Wd) (x1 : Int32) (x2 : Int32) (S : St)  : J l w I_X6_take 0 [(0, .ref (w.2.1 + 0)), (1, .int x1), (2, .int x2)] [] S (fun b => (some (.int b.1), b.2)) (f_X6_take x1 x2 S) := by
  unfold f_X6_take
  refine j_aload_n (y := I_X6_take) 0 dX6_take_0 rfl rfl ?_
  refine j_iload_n (y := I_X6_take) 1 dX6_take_1 rfl rfl ?_
  refine j_callVzT (y := I_X6_take) (As := [.int x1]) cv_6_72 ⟨Nat.le_of_ble_eq_true rfl, Nat.le_of_ble_eq_true rfl⟩ k_0 rfl (Nat.le_of_ble_eq_true rfl) dX6_take_2 (c_X6_isSort l w x1 S) ?_
  refine j_if_eqB (y := I_X6_take) 12 dX6_take_5 (by decide) (fun h5 => ?_) (fun h5 => ?_)
  · refine j_aload_n (y := I_X6_take) 0 dX6_take_12 rfl rfl ?_
    refine j_iconst (y := I_X6_take) (v := -1) dX6_take_13 (by decide) ?_
    refine j_callViT (y := I_X6_take) (As := [.int (-1 : Int32)]) cv_6_52 ⟨Nat.le_of_ble_eq_true rfl, Nat.le_of_ble_eq_true rfl⟩ k_0 rfl (Nat.le_of_ble_eq_true rfl) dX6_take_14 (c_X6_finding l w (-1 : Int32) S) ?_
    exact j_iret (y := I_X6_take) rfl dX6_take_17 rfl
  · refine j_iload_n (y := I_X6_take) 2 dX6_take_8 rfl rfl ?_
    refine j_if_ge (y := I_X6_take) 18 dX6_take_9 (by decide) (fun h9 => ?_) (fun h9 => ?_)
    · refine j_aload_n (y := I_X6_take) 0 dX6_take_18 rfl rfl ?_
      refine j_getR (y := I_X6_take) (j := 1) fl_6_10 k_0 rfl rfl dX6_take_19 ?_
      refine j_getR (y := I_X6_take) (j := 2) fl_6_59 k_1 rfl rfl dX6_take_22 ?_
      refine j_iload_n (y := I_X6_take) 1 dX6_take_25 rfl rfl ?_
      refine j_aald (y := I_X6_take) (j := (8 + 2 * ix x1)) (tt := 0) k_2 rfl (rho_2 _) dX6_take_26 (fun h26 => ?_)
      refine j_iload_n (y := I_X6_take) 2 dX6_take_27 rfl rfl ?_
      refine j_aload_n (y := I_X6_take) 0 dX6_take_28 rfl rfl ?_
      refine j_getR (y := I_X6_take) (j := 1) fl_6_10 k_0 rfl rfl dX6_take_29 ?_
      refine j_getI (y := I_X6_take) fl_6_247 k_1 rfl dX6_take_32 ?_
      refine j_callViS (y := I_X6_take) (As := [.int x2, .int (rd S 1 11)]) cv_6_250 ⟨Nat.le_of_ble_eq_true rfl, Nat.le_of_ble_eq_true rfl⟩ (kd_So _ (inb_lt h26)) rfl (Nat.le_of_ble_eq_true rfl) dX6_take_35 (c_X5_takeOldest l w (8 + 2 * ix x1) x2 (rd S 1 11) S (kd_So _ (inb_lt h26))) (fun v35 h35 => ?_)
      refine j_istore_n (y := I_X6_take) (ls' := [(3, .int v35.1), (0, .ref (w.2.1 + 0)), (1, .int x1), (2, .int x2)]) dX6_take_38 rfl (by decide) rfl ?_
      refine j_aload_n (y := I_X6_take) 1 dX6_take_39 rfl rfl ?_
      refine j_getR (y := I_X6_take) (j := 1) fl_6_10 k_0 rfl rfl dX6_take_40 ?_
      refine j_getR (y := I_X6_take) (j := 7) fl_6_111 k_1 rfl rfl dX6_take_43 ?_
      refine j_bipush (y := I_X6_take) (v := 8) dX6_take_46 (by decide) ?_
      refine j_dup2 (y := I_X6_take) dX6_take_48 rfl rfl ?_
      refine j_laldL (y := I_X6_take) k_7 (by decide) dX6_take_49 ?_
      refine j_iload_n (y := I_X6_take) 0 dX6_take_50 rfl rfl ?_
      refine j_i2l (y := I_X6_take) dX6_take_51 ?_
      refine j_ladd (y := I_X6_take) dX6_take_52 ?_
      refine j_lastL (y := I_X6_take) k_7 (by decide) dX6_take_53 ?_
      refine j_iload_n (y := I_X6_take) 0 dX6_take_54 rfl rfl ?_
      exact j_iret (y := I_X6_take) rfl dX6_take_55 rfl
    · refine j_aload_n (y := I_X6_take) 0 dX6_take_12 rfl rfl ?_
      refine j_iconst (y := I_X6_take) (v := -1) dX6_take_13 (by decide) ?_
      refine j_callViT (y := I_X6_take) (As := [.int (-1 : Int32)]) cv_6_52 ⟨Nat.le_of_ble_eq_true rfl, Nat.le_of_ble_eq_true rfl⟩ k_0 rfl (Nat.le_of_ble_eq_true rfl) dX6_take_14 (c_X6_finding l w (-1 : Int32) S) ?_
      exact j_iret (y := I_X6_take) rfl dX6_take_17 rfl
theorem c_X6_take (l : Launch) (w : Wd) (x1 : Int32) (x2 : Int32) (S : St)  : ∀ v, f_X6_take x1 x2 S = some v → CtS l w I_X6_take [.ref (w.2.1 + 0), .int x1, .int x2] S v.2 (some (.int v.1)) := fun v h => J.ct (av := [.ref (w.2.1 + 0), .int x1, .int x2]) (Nat.le_of_ble_eq_true rfl) pn_6 (m_X6_take l w x1 x2 S ) h
abbrev I_X6_takes : MI := (yX6_takes, cX6_takes, 5, some .int, { frames := 2, cells := 0, slots := 0, locals := 43 })
theorem dX6_takes_0 : decode cX6_takes 0 = .ok (.aload_n 0, 1) := by decide +kernel
theorem dX6_takes_1 : decode cX6_takes 1 = .ok (.iload_n 1, 1) := by decide +kernel
theorem dX6_takes_2 : decode cX6_takes 2 = .ok (.invokevirtual 72, 3) := by decide +kernel
theorem dX6_takes_5 : decode cX6_takes 5 = .ok (.ifCond .eq 11, 3) := by decide +kernel
theorem dX6_takes_8 : decode cX6_takes 8 = .ok (.aload_n 0, 1) := by decide +kernel
theorem dX6_takes_9 : decode cX6_takes 9 = .ok (.iload_n 2, 1) := by decide +kernel
theorem dX6_takes_10 : decode cX6_takes 10 = .ok (.invokevirtual 72, 3) := by decide +kernel
theorem dX6_takes_13 : decode cX6_takes 13 = .ok (.ifCond .ne 9, 3) := by decide +kernel
theorem dX6_takes_16 : decode cX6_takes 16 = .ok (.aload_n 0, 1) := by decide +kernel
theorem dX6_takes_17 : decode cX6_takes 17 = .ok (.iconst (-1), 1) := by decide +kernel
theorem dX6_takes_18 : decode cX6_takes 18 = .ok (.invokevirtual 52, 3) := by decide +kernel
theorem dX6_takes_21 : decode cX6_takes 21 = .ok (.ireturn, 1) := by decide +kernel
theorem dX6_takes_22 : decode cX6_takes 22 = .ok (.aload_n 0, 1) := by decide +kernel
theorem dX6_takes_23 : decode cX6_takes 23 = .ok (.getfield 10, 3) := by decide +kernel
theorem dX6_takes_26 : decode cX6_takes 26 = .ok (.getfield 59, 3) := by decide +kernel
theorem dX6_takes_29 : decode cX6_takes 29 = .ok (.iload_n 1, 1) := by decide +kernel
theorem dX6_takes_30 : decode cX6_takes 30 = .ok (.aaload, 1) := by decide +kernel
theorem dX6_takes_31 : decode cX6_takes 31 = .ok (.iload_n 2, 1) := by decide +kernel
theorem dX6_takes_32 : decode cX6_takes 32 = .ok (.invokevirtual 76, 3) := by decide +kernel
theorem dX6_takes_35 : decode cX6_takes 35 = .ok (.iload_n 3, 1) := by decide +kernel
theorem dX6_takes_36 : decode cX6_takes 36 = .ok (.if_icmp .eq 7, 3) := by decide +kernel
theorem dX6_takes_39 : decode cX6_takes 39 = .ok (.iconst 1, 1) := by decide +kernel
theorem dX6_takes_40 : decode cX6_takes 40 = .ok (.goto 4, 3) := by decide +kernel
theorem dX6_takes_43 : decode cX6_takes 43 = .ok (.iconst 0, 1) := by decide +kernel
theorem dX6_takes_44 : decode cX6_takes 44 = .ok (.istore 4, 2) := by decide +kernel
theorem dX6_takes_46 : decode cX6_takes 46 = .ok (.aload_n 0, 1) := by decide +kernel
theorem dX6_takes_47 : decode cX6_takes 47 = .ok (.getfield 10, 3) := by decide +kernel
theorem dX6_takes_50 : decode cX6_takes 50 = .ok (.getfield 59, 3) := by decide +kernel
theorem dX6_takes_53 : decode cX6_takes 53 = .ok (.iload_n 1, 1) := by decide +kernel
theorem dX6_takes_54 : decode cX6_takes 54 = .ok (.aaload, 1) := by decide +kernel
theorem dX6_takes_55 : decode cX6_takes 55 = .ok (.iload_n 2, 1) := by decide +kernel
theorem dX6_takes_56 : decode cX6_takes 56 = .ok (.iload_n 3, 1) := by decide +kernel
theorem dX6_takes_57 : decode cX6_takes 57 = .ok (.invokevirtual 79, 3) := by decide +kernel
theorem dX6_takes_60 : decode cX6_takes 60 = .ok (.aload_n 0, 1) := by decide +kernel
theorem dX6_takes_61 : decode cX6_takes 61 = .ok (.getfield 40, 3) := by decide +kernel
theorem dX6_takes_64 : decode cX6_takes 64 = .ok (.invokevirtual 69, 3) := by decide +kernel
theorem dX6_takes_67 : decode cX6_takes 67 = .ok (.iload 4, 2) := by decide +kernel
theorem dX6_takes_69 : decode cX6_takes 69 = .ok (.ifCond .eq 7, 3) := by decide +kernel
theorem dX6_takes_72 : decode cX6_takes 72 = .ok (.iconst 1, 1) := by decide +kernel
theorem dX6_takes_73 : decode cX6_takes 73 = .ok (.goto 4, 3) := by decide +kernel
theorem dX6_takes_76 : decode cX6_takes 76 = .ok (.iconst 0, 1) := by decide +kernel
theorem dX6_takes_77 : decode cX6_takes 77 = .ok (.ireturn, 1) := by decide +kernel
theorem cv_6_76 : CV RX6 76 1 5 I_X5_accepts := ⟨⟨⟨gm 351 (by decide +kernel) rfl, gm 354 (by decide +kernel) rfl, gm 39 (by decide +kernel) rfl, mh_5.1, mh_5.2, by decide +kernel⟩, gm 352 (by decide +kernel) rfl, gm 353 (by decide +kernel) rfl⟩, ⟨_, _, rfl⟩, rfl, rfl⟩
theorem cv_6_79 : CV RX6 79 2 5 I_X5_setAccepts := ⟨⟨⟨gm 355 (by decide +kernel) rfl, gm 358 (by decide +kernel) rfl, gm 39 (by decide +kernel) rfl, mh_5.1, mh_5.2, by decide +kernel⟩, gm 356 (by decide +kernel) rfl, gm 357 (by decide +kernel) rfl⟩, ⟨_, _, rfl⟩, rfl, rfl⟩
def f_X6_takes_J44 (j44_1 : Int32) (j44_2 : Int32) (j44_3 : Bool) (j44s_0 : Int32) (S44 : St) : Option (Int32 × St) := if inb j44_1 6 = true then (if j44s_0 = 0 then (some ((0 : Int32), (f_X1_forget (f_X5_setAccepts (8 + 2 * ix j44_1) j44_2 j44_3 S44)))) else (some ((1 : Int32), (f_X1_forget (f_X5_setAccepts (8 + 2 * ix j44_1) j44_2 j44_3 S44))))) else none
def f_X6_takes (x1 : Int32) (x2 : Int32) (x3 : Bool) (S : St) : Option (Int32 × St) := if (f_X6_isSort x1 S) = true then (if (f_X6_isSort x2 S) = true then (if inb x1 6 = true then (if (b2i (f_X5_accepts (8 + 2 * ix x1) x2 S)) = (b2i x3) then (f_X6_takes_J44 x1 x2 x3 (0 : Int32) S) else (f_X6_takes_J44 x1 x2 x3 (1 : Int32) S)) else none) else (some (((f_X6_finding (-1 : Int32) S).1), (f_X6_finding (-1 : Int32) S).2))) else (some (((f_X6_finding (-1 : Int32) S).1), (f_X6_finding (-1 : Int32) S).2))
set_option maxRecDepth 100000 in
theorem jj_X6_takes_44 (l : Launch) (w : Wd) (j44_1 : Int32) (j44_2 : Int32) (j44_3 : Bool) (j44s_0 : Int32) (S44 : St)  : J l w I_X6_takes 44 [(0, .ref (w.2.1 + 0)), (1, .int j44_1), (2, .int j44_2), (3, .int (b2i j44_3))] [.int j44s_0] S44 (fun b => (some (.int b.1), b.2)) (f_X6_takes_J44 j44_1 j44_2 j44_3 j44s_0 S44) := by
  unfold f_X6_takes_J44
  refine j_istore (y := I_X6_takes) (ls' := [(4, .int j44s_0), (0, .ref (w.2.1 + 0)), (1, .int j44_1), (2, .int j44_2), (3, .int (b2i j44_3))]) dX6_takes_44 (by decide) rfl ?_
  refine j_aload_n (y := I_X6_takes) 1 dX6_takes_46 rfl rfl ?_
  refine j_getR (y := I_X6_takes) (j := 1) fl_6_10 k_0 rfl rfl dX6_takes_47 ?_
  refine j_getR (y := I_X6_takes) (j := 2) fl_6_59 k_1 rfl rfl dX6_takes_50 ?_
  refine j_iload_n (y := I_X6_takes) 2 dX6_takes_53 rfl rfl ?_
  refine j_aald (y := I_X6_takes) (j := (8 + 2 * ix j44_1)) (tt := 0) k_2 rfl (rho_2 _) dX6_takes_54 (fun h54 => ?_)
  refine j_iload_n (y := I_X6_takes) 3 dX6_takes_55 rfl rfl ?_
  refine j_iload_n (y := I_X6_takes) 4 dX6_takes_56 rfl rfl ?_
  refine j_callVvT (y := I_X6_takes) (As := [.int j44_2, .int (b2i j44_3)]) cv_6_79 ⟨Nat.le_of_ble_eq_true rfl, Nat.le_of_ble_eq_true rfl⟩ (kd_So _ (inb_lt h54)) rfl (Nat.le_of_ble_eq_true rfl) dX6_takes_57 (c_X5_setAccepts l w (8 + 2 * ix j44_1) j44_2 j44_3 S44 (kd_So _ (inb_lt h54))) ?_
  refine j_aload_n (y := I_X6_takes) 1 dX6_takes_60 rfl rfl ?_
  refine j_getR (y := I_X6_takes) (j := 101) fl_6_40 k_0 rfl rfl dX6_takes_61 ?_
  refine j_callVvT (y := I_X6_takes) (As := []) cv_6_69 ⟨Nat.le_of_ble_eq_true rfl, Nat.le_of_ble_eq_true rfl⟩ k_101 rfl (Nat.le_of_ble_eq_true rfl) dX6_takes_64 (c_X1_forget l w (f_X5_setAccepts (8 + 2 * ix j44_1) j44_2 j44_3 S44)) ?_
  refine j_iload (y := I_X6_takes) 0 dX6_takes_67 rfl ?_
  refine j_if_eq (y := I_X6_takes) 76 dX6_takes_69 (by decide) (fun h69 => ?_) (fun h69 => ?_)
  · refine j_iconst (y := I_X6_takes) (v := 0) dX6_takes_76 (by decide) ?_
    exact j_iret (y := I_X6_takes) rfl dX6_takes_77 rfl
  · refine j_iconst (y := I_X6_takes) (v := 1) dX6_takes_72 (by decide) ?_
    refine j_goto (y := I_X6_takes) 77 dX6_takes_73 (by decide) ?_
    exact j_iret (y := I_X6_takes) rfl dX6_takes_77 rfl
set_option maxRecDepth 100000 in
set_option maxHeartbeats 4000000 in
theorem m_X6_takes (l : Launch) (w : Wd) (x1 : Int32) (x2 : Int32) (x3 : Bool) (S : St)  : J l w I_X6_takes 0 [(0, .ref (w.2.1 + 0)), (1, .int x1), (2, .int x2), (3, .int (b2i x3))] [] S (fun b => (some (.int b.1), b.2)) (f_X6_takes x1 x2 x3 S) := by
  unfold f_X6_takes
  refine j_aload_n (y := I_X6_takes) 0 dX6_takes_0 rfl rfl ?_
  refine j_iload_n (y := I_X6_takes) 1 dX6_takes_1 rfl rfl ?_
  refine j_callVzT (y := I_X6_takes) (As := [.int x1]) cv_6_72 ⟨Nat.le_of_ble_eq_true rfl, Nat.le_of_ble_eq_true rfl⟩ k_0 rfl (Nat.le_of_ble_eq_true rfl) dX6_takes_2 (c_X6_isSort l w x1 S) ?_
  refine j_if_eqB (y := I_X6_takes) 16 dX6_takes_5 (by decide) (fun h5 => ?_) (fun h5 => ?_)
  · refine j_aload_n (y := I_X6_takes) 0 dX6_takes_16 rfl rfl ?_
    refine j_iconst (y := I_X6_takes) (v := -1) dX6_takes_17 (by decide) ?_
    refine j_callViT (y := I_X6_takes) (As := [.int (-1 : Int32)]) cv_6_52 ⟨Nat.le_of_ble_eq_true rfl, Nat.le_of_ble_eq_true rfl⟩ k_0 rfl (Nat.le_of_ble_eq_true rfl) dX6_takes_18 (c_X6_finding l w (-1 : Int32) S) ?_
    exact j_iret (y := I_X6_takes) rfl dX6_takes_21 rfl
  · refine j_aload_n (y := I_X6_takes) 0 dX6_takes_8 rfl rfl ?_
    refine j_iload_n (y := I_X6_takes) 2 dX6_takes_9 rfl rfl ?_
    refine j_callVzT (y := I_X6_takes) (As := [.int x2]) cv_6_72 ⟨Nat.le_of_ble_eq_true rfl, Nat.le_of_ble_eq_true rfl⟩ k_0 rfl (Nat.le_of_ble_eq_true rfl) dX6_takes_10 (c_X6_isSort l w x2 S) ?_
    refine j_if_neB (y := I_X6_takes) 22 dX6_takes_13 (by decide) (fun h13 => ?_) (fun h13 => ?_)
    · refine j_aload_n (y := I_X6_takes) 0 dX6_takes_22 rfl rfl ?_
      refine j_getR (y := I_X6_takes) (j := 1) fl_6_10 k_0 rfl rfl dX6_takes_23 ?_
      refine j_getR (y := I_X6_takes) (j := 2) fl_6_59 k_1 rfl rfl dX6_takes_26 ?_
      refine j_iload_n (y := I_X6_takes) 1 dX6_takes_29 rfl rfl ?_
      refine j_aald (y := I_X6_takes) (j := (8 + 2 * ix x1)) (tt := 0) k_2 rfl (rho_2 _) dX6_takes_30 (fun h30 => ?_)
      refine j_iload_n (y := I_X6_takes) 2 dX6_takes_31 rfl rfl ?_
      refine j_callVzT (y := I_X6_takes) (As := [.int x2]) cv_6_76 ⟨Nat.le_of_ble_eq_true rfl, Nat.le_of_ble_eq_true rfl⟩ (kd_So _ (inb_lt h30)) rfl (Nat.le_of_ble_eq_true rfl) dX6_takes_32 (c_X5_accepts l w (8 + 2 * ix x1) x2 S (kd_So _ (inb_lt h30))) ?_
      refine j_iload_n (y := I_X6_takes) 3 dX6_takes_35 rfl rfl ?_
      refine j_icmp_eq (y := I_X6_takes) 43 dX6_takes_36 (by decide) (fun h36 => ?_) (fun h36 => ?_)
      · refine j_iconst (y := I_X6_takes) (v := 0) dX6_takes_43 (by decide) ?_
        refine j_sub [0, 1, 2, 3] rfl ?_
        exact jj_X6_takes_44 l w x1 x2 x3 (0 : Int32) S
      · refine j_iconst (y := I_X6_takes) (v := 1) dX6_takes_39 (by decide) ?_
        refine j_goto (y := I_X6_takes) 44 dX6_takes_40 (by decide) ?_
        refine j_sub [0, 1, 2, 3] rfl ?_
        exact jj_X6_takes_44 l w x1 x2 x3 (1 : Int32) S
    · refine j_aload_n (y := I_X6_takes) 0 dX6_takes_16 rfl rfl ?_
      refine j_iconst (y := I_X6_takes) (v := -1) dX6_takes_17 (by decide) ?_
      refine j_callViT (y := I_X6_takes) (As := [.int (-1 : Int32)]) cv_6_52 ⟨Nat.le_of_ble_eq_true rfl, Nat.le_of_ble_eq_true rfl⟩ k_0 rfl (Nat.le_of_ble_eq_true rfl) dX6_takes_18 (c_X6_finding l w (-1 : Int32) S) ?_
      exact j_iret (y := I_X6_takes) rfl dX6_takes_21 rfl
theorem c_X6_takes (l : Launch) (w : Wd) (x1 : Int32) (x2 : Int32) (x3 : Bool) (S : St)  : ∀ v, f_X6_takes x1 x2 x3 S = some v → CtS l w I_X6_takes [.ref (w.2.1 + 0), .int x1, .int x2, .int (b2i x3)] S v.2 (some (.int v.1)) := fun v h => J.ct (av := [.ref (w.2.1 + 0), .int x1, .int x2, .int (b2i x3)]) (Nat.le_of_ble_eq_true rfl) pn_6 (m_X6_takes l w x1 x2 x3 S ) h
abbrev I_X6_thin : MI := (yX6_thin, cX6_thin, 5, some .int, { frames := 2, cells := 0, slots := 0, locals := 45 })
theorem dX6_thin_0 : decode cX6_thin 0 = .ok (.iload_n 1, 1) := by decide +kernel
theorem dX6_thin_1 : decode cX6_thin 1 = .ok (.invokestatic 83, 3) := by decide +kernel
theorem dX6_thin_4 : decode cX6_thin 4 = .ok (.ifCond .eq 7, 3) := by decide +kernel
theorem dX6_thin_7 : decode cX6_thin 7 = .ok (.iload_n 2, 1) := by decide +kernel
theorem dX6_thin_8 : decode cX6_thin 8 = .ok (.ifCond .ge 9, 3) := by decide +kernel
theorem dX6_thin_11 : decode cX6_thin 11 = .ok (.aload_n 0, 1) := by decide +kernel
theorem dX6_thin_12 : decode cX6_thin 12 = .ok (.iconst (-1), 1) := by decide +kernel
theorem dX6_thin_13 : decode cX6_thin 13 = .ok (.invokevirtual 52, 3) := by decide +kernel
theorem dX6_thin_16 : decode cX6_thin 16 = .ok (.ireturn, 1) := by decide +kernel
theorem dX6_thin_17 : decode cX6_thin 17 = .ok (.aload_n 0, 1) := by decide +kernel
theorem dX6_thin_18 : decode cX6_thin 18 = .ok (.getfield 10, 3) := by decide +kernel
theorem dX6_thin_21 : decode cX6_thin 21 = .ok (.getfield 86, 3) := by decide +kernel
theorem dX6_thin_24 : decode cX6_thin 24 = .ok (.iload_n 1, 1) := by decide +kernel
theorem dX6_thin_25 : decode cX6_thin 25 = .ok (.aaload, 1) := by decide +kernel
theorem dX6_thin_26 : decode cX6_thin 26 = .ok (.astore_n 3, 1) := by decide +kernel
theorem dX6_thin_27 : decode cX6_thin 27 = .ok (.aload_n 3, 1) := by decide +kernel
theorem dX6_thin_28 : decode cX6_thin 28 = .ok (.invokevirtual 123, 3) := by decide +kernel
theorem dX6_thin_31 : decode cX6_thin 31 = .ok (.ifCond .ne 12, 3) := by decide +kernel
theorem dX6_thin_34 : decode cX6_thin 34 = .ok (.aload_n 0, 1) := by decide +kernel
theorem dX6_thin_35 : decode cX6_thin 35 = .ok (.aload_n 3, 1) := by decide +kernel
theorem dX6_thin_36 : decode cX6_thin 36 = .ok (.invokevirtual 134, 3) := by decide +kernel
theorem dX6_thin_39 : decode cX6_thin 39 = .ok (.invokevirtual 52, 3) := by decide +kernel
theorem dX6_thin_42 : decode cX6_thin 42 = .ok (.ireturn, 1) := by decide +kernel
theorem dX6_thin_43 : decode cX6_thin 43 = .ok (.aload_n 3, 1) := by decide +kernel
theorem dX6_thin_44 : decode cX6_thin 44 = .ok (.iload_n 2, 1) := by decide +kernel
theorem dX6_thin_45 : decode cX6_thin 45 = .ok (.invokevirtual 238, 3) := by decide +kernel
theorem dX6_thin_48 : decode cX6_thin 48 = .ok (.istore 4, 2) := by decide +kernel
theorem dX6_thin_50 : decode cX6_thin 50 = .ok (.aload_n 0, 1) := by decide +kernel
theorem dX6_thin_51 : decode cX6_thin 51 = .ok (.getfield 10, 3) := by decide +kernel
theorem dX6_thin_54 : decode cX6_thin 54 = .ok (.getfield 111, 3) := by decide +kernel
theorem dX6_thin_57 : decode cX6_thin 57 = .ok (.iconst 1, 1) := by decide +kernel
theorem dX6_thin_58 : decode cX6_thin 58 = .ok (.dup2, 1) := by decide +kernel
theorem dX6_thin_59 : decode cX6_thin 59 = .ok (.laload, 1) := by decide +kernel
theorem dX6_thin_60 : decode cX6_thin 60 = .ok (.iload 4, 2) := by decide +kernel
theorem dX6_thin_62 : decode cX6_thin 62 = .ok (.i2l, 1) := by decide +kernel
theorem dX6_thin_63 : decode cX6_thin 63 = .ok (.ladd, 1) := by decide +kernel
theorem dX6_thin_64 : decode cX6_thin 64 = .ok (.lastore, 1) := by decide +kernel
theorem dX6_thin_65 : decode cX6_thin 65 = .ok (.iload 4, 2) := by decide +kernel
theorem dX6_thin_67 : decode cX6_thin 67 = .ok (.ireturn, 1) := by decide +kernel
theorem cv_6_238 : CV RX6 238 1 2 I_X2_thinTo := ⟨⟨⟨gm 669 (by decide +kernel) rfl, gm 672 (by decide +kernel) rfl, gm 40 (by decide +kernel) rfl, mh_2.1, mh_2.2, by decide +kernel⟩, gm 670 (by decide +kernel) rfl, gm 671 (by decide +kernel) rfl⟩, ⟨_, _, rfl⟩, rfl, rfl⟩
def f_X6_thin (x1 : Int32) (x2 : Int32) (S : St) : Option (Int32 × St) := if (f_X6_isPlace x1) = true then (if x2 < 0 then (some (((f_X6_finding (-1 : Int32) S).1), (f_X6_finding (-1 : Int32) S).2)) else (if inb x1 12 = true then (if (f_X2_isTree (20 + 2 * ix x1) S) = true then ((f_X2_thinTo (20 + 2 * ix x1) x2 S).bind fun v45 => (some (v45.1, (wrL v45.2 7 (ix (1 : Int32)) ((rdL v45.2 7 (ix (1 : Int32))) + v45.1.toInt64))))) else (some (((f_X6_finding (f_X2_whyNoTree (20 + 2 * ix x1) S) S).1), (f_X6_finding (f_X2_whyNoTree (20 + 2 * ix x1) S) S).2))) else none)) else (some (((f_X6_finding (-1 : Int32) S).1), (f_X6_finding (-1 : Int32) S).2))
set_option maxRecDepth 100000 in
set_option maxHeartbeats 4000000 in
theorem m_X6_thin (l : Launch) (w : Wd) (x1 : Int32) (x2 : Int32) (S : St)  : J l w I_X6_thin 0 [(0, .ref (w.2.1 + 0)), (1, .int x1), (2, .int x2)] [] S (fun b => (some (.int b.1), b.2)) (f_X6_thin x1 x2 S) := by
  unfold f_X6_thin
  refine j_iload_n (y := I_X6_thin) 1 dX6_thin_0 rfl rfl ?_
  refine j_callSzT (y := I_X6_thin) (As := [.int x1]) cv_6_83 ⟨Nat.le_of_ble_eq_true rfl, Nat.le_of_ble_eq_true rfl⟩ rfl (Nat.le_of_ble_eq_true rfl) dX6_thin_1 (c_X6_isPlace l w x1 S) ?_
  refine j_if_eqB (y := I_X6_thin) 11 dX6_thin_4 (by decide) (fun h4 => ?_) (fun h4 => ?_)
  · refine j_aload_n (y := I_X6_thin) 0 dX6_thin_11 rfl rfl ?_
    refine j_iconst (y := I_X6_thin) (v := -1) dX6_thin_12 (by decide) ?_
    refine j_callViT (y := I_X6_thin) (As := [.int (-1 : Int32)]) cv_6_52 ⟨Nat.le_of_ble_eq_true rfl, Nat.le_of_ble_eq_true rfl⟩ k_0 rfl (Nat.le_of_ble_eq_true rfl) dX6_thin_13 (c_X6_finding l w (-1 : Int32) S) ?_
    exact j_iret (y := I_X6_thin) rfl dX6_thin_16 rfl
  · refine j_iload_n (y := I_X6_thin) 2 dX6_thin_7 rfl rfl ?_
    refine j_if_ge (y := I_X6_thin) 17 dX6_thin_8 (by decide) (fun h8 => ?_) (fun h8 => ?_)
    · refine j_aload_n (y := I_X6_thin) 0 dX6_thin_17 rfl rfl ?_
      refine j_getR (y := I_X6_thin) (j := 1) fl_6_10 k_0 rfl rfl dX6_thin_18 ?_
      refine j_getR (y := I_X6_thin) (j := 3) fl_6_86 k_1 rfl rfl dX6_thin_21 ?_
      refine j_iload_n (y := I_X6_thin) 1 dX6_thin_24 rfl rfl ?_
      refine j_aald (y := I_X6_thin) (j := (20 + 2 * ix x1)) (tt := 1) k_3 rfl (rho_3 _) dX6_thin_25 (fun h25 => ?_)
      refine j_astore_n (y := I_X6_thin) (ls' := [(3, .ref (w.2.1 + (20 + 2 * ix x1))), (0, .ref (w.2.1 + 0)), (1, .int x1), (2, .int x2)]) dX6_thin_26 rfl (by decide) rfl ?_
      refine j_aload_n (y := I_X6_thin) 0 dX6_thin_27 rfl rfl ?_
      refine j_callVzT (y := I_X6_thin) (As := []) cv_6_123 ⟨Nat.le_of_ble_eq_true rfl, Nat.le_of_ble_eq_true rfl⟩ (kd_Pl _ (inb_lt h25)) rfl (Nat.le_of_ble_eq_true rfl) dX6_thin_28 (c_X2_isTree l w (20 + 2 * ix x1) S (kd_Pl _ (inb_lt h25))) ?_
      refine j_if_neB (y := I_X6_thin) 43 dX6_thin_31 (by decide) (fun h31 => ?_) (fun h31 => ?_)
      · refine j_aload_n (y := I_X6_thin) 0 dX6_thin_43 rfl rfl ?_
        refine j_iload_n (y := I_X6_thin) 3 dX6_thin_44 rfl rfl ?_
        refine j_callViS (y := I_X6_thin) (As := [.int x2]) cv_6_238 ⟨Nat.le_of_ble_eq_true rfl, Nat.le_of_ble_eq_true rfl⟩ (kd_Pl _ (inb_lt h25)) rfl (Nat.le_of_ble_eq_true rfl) dX6_thin_45 (c_X2_thinTo l w (20 + 2 * ix x1) x2 S (kd_Pl _ (inb_lt h25))) (fun v45 h45 => ?_)
        refine j_istore (y := I_X6_thin) (ls' := [(4, .int v45.1), (3, .ref (w.2.1 + (20 + 2 * ix x1))), (0, .ref (w.2.1 + 0)), (1, .int x1), (2, .int x2)]) dX6_thin_48 (by decide) rfl ?_
        refine j_aload_n (y := I_X6_thin) 2 dX6_thin_50 rfl rfl ?_
        refine j_getR (y := I_X6_thin) (j := 1) fl_6_10 k_0 rfl rfl dX6_thin_51 ?_
        refine j_getR (y := I_X6_thin) (j := 7) fl_6_111 k_1 rfl rfl dX6_thin_54 ?_
        refine j_iconst (y := I_X6_thin) (v := 1) dX6_thin_57 (by decide) ?_
        refine j_dup2 (y := I_X6_thin) dX6_thin_58 rfl rfl ?_
        refine j_laldL (y := I_X6_thin) k_7 (by decide) dX6_thin_59 ?_
        refine j_iload (y := I_X6_thin) 0 dX6_thin_60 rfl ?_
        refine j_i2l (y := I_X6_thin) dX6_thin_62 ?_
        refine j_ladd (y := I_X6_thin) dX6_thin_63 ?_
        refine j_lastL (y := I_X6_thin) k_7 (by decide) dX6_thin_64 ?_
        refine j_iload (y := I_X6_thin) 0 dX6_thin_65 rfl ?_
        exact j_iret (y := I_X6_thin) rfl dX6_thin_67 rfl
      · refine j_aload_n (y := I_X6_thin) 1 dX6_thin_34 rfl rfl ?_
        refine j_aload_n (y := I_X6_thin) 0 dX6_thin_35 rfl rfl ?_
        refine j_callViT (y := I_X6_thin) (As := []) cv_6_134 ⟨Nat.le_of_ble_eq_true rfl, Nat.le_of_ble_eq_true rfl⟩ (kd_Pl _ (inb_lt h25)) rfl (Nat.le_of_ble_eq_true rfl) dX6_thin_36 (c_X2_whyNoTree l w (20 + 2 * ix x1) S (kd_Pl _ (inb_lt h25))) ?_
        refine j_callViT (y := I_X6_thin) (As := [.int (f_X2_whyNoTree (20 + 2 * ix x1) S)]) cv_6_52 ⟨Nat.le_of_ble_eq_true rfl, Nat.le_of_ble_eq_true rfl⟩ k_0 rfl (Nat.le_of_ble_eq_true rfl) dX6_thin_39 (c_X6_finding l w (f_X2_whyNoTree (20 + 2 * ix x1) S) S) ?_
        exact j_iret (y := I_X6_thin) rfl dX6_thin_42 rfl
    · refine j_aload_n (y := I_X6_thin) 0 dX6_thin_11 rfl rfl ?_
      refine j_iconst (y := I_X6_thin) (v := -1) dX6_thin_12 (by decide) ?_
      refine j_callViT (y := I_X6_thin) (As := [.int (-1 : Int32)]) cv_6_52 ⟨Nat.le_of_ble_eq_true rfl, Nat.le_of_ble_eq_true rfl⟩ k_0 rfl (Nat.le_of_ble_eq_true rfl) dX6_thin_13 (c_X6_finding l w (-1 : Int32) S) ?_
      exact j_iret (y := I_X6_thin) rfl dX6_thin_16 rfl
theorem c_X6_thin (l : Launch) (w : Wd) (x1 : Int32) (x2 : Int32) (S : St)  : ∀ v, f_X6_thin x1 x2 S = some v → CtS l w I_X6_thin [.ref (w.2.1 + 0), .int x1, .int x2] S v.2 (some (.int v.1)) := fun v h => J.ct (av := [.ref (w.2.1 + 0), .int x1, .int x2]) (Nat.le_of_ble_eq_true rfl) pn_6 (m_X6_thin l w x1 x2 S ) h
abbrev I_X6_told : MI := (yX6_told, cX6_told, 2, some .int, { frames := 1, cells := 0, slots := 0, locals := 21 })
theorem dX6_told_0 : decode cX6_told 0 = .ok (.iload_n 1, 1) := by decide +kernel
theorem dX6_told_1 : decode cX6_told 1 = .ok (.tableswitch 88 0 4 #[35, 43, 51, 59, 64], 35) := by decide +kernel
theorem dX6_told_36 : decode cX6_told 36 = .ok (.aload_n 0, 1) := by decide +kernel
theorem dX6_told_37 : decode cX6_told 37 = .ok (.getfield 10, 3) := by decide +kernel
theorem dX6_told_40 : decode cX6_told 40 = .ok (.getfield 104, 3) := by decide +kernel
theorem dX6_told_43 : decode cX6_told 43 = .ok (.ireturn, 1) := by decide +kernel
theorem dX6_told_44 : decode cX6_told 44 = .ok (.aload_n 0, 1) := by decide +kernel
theorem dX6_told_45 : decode cX6_told 45 = .ok (.getfield 10, 3) := by decide +kernel
theorem dX6_told_48 : decode cX6_told 48 = .ok (.getfield 206, 3) := by decide +kernel
theorem dX6_told_51 : decode cX6_told 51 = .ok (.ireturn, 1) := by decide +kernel
theorem dX6_told_52 : decode cX6_told 52 = .ok (.aload_n 0, 1) := by decide +kernel
theorem dX6_told_53 : decode cX6_told 53 = .ok (.getfield 10, 3) := by decide +kernel
theorem dX6_told_56 : decode cX6_told 56 = .ok (.getfield 56, 3) := by decide +kernel
theorem dX6_told_59 : decode cX6_told 59 = .ok (.ireturn, 1) := by decide +kernel
theorem dX6_told_60 : decode cX6_told 60 = .ok (.aload_n 0, 1) := by decide +kernel
theorem dX6_told_61 : decode cX6_told 61 = .ok (.getfield 44, 3) := by decide +kernel
theorem dX6_told_64 : decode cX6_told 64 = .ok (.ireturn, 1) := by decide +kernel
theorem dX6_told_65 : decode cX6_told 65 = .ok (.aload_n 0, 1) := by decide +kernel
theorem dX6_told_66 : decode cX6_told 66 = .ok (.getfield 10, 3) := by decide +kernel
theorem dX6_told_69 : decode cX6_told 69 = .ok (.getfield 179, 3) := by decide +kernel
theorem dX6_told_72 : decode cX6_told 72 = .ok (.iconst (-1), 1) := by decide +kernel
theorem dX6_told_73 : decode cX6_told 73 = .ok (.if_icmp .ne 8, 3) := by decide +kernel
theorem dX6_told_76 : decode cX6_told 76 = .ok (.bipush (-100), 2) := by decide +kernel
theorem dX6_told_78 : decode cX6_told 78 = .ok (.goto 10, 3) := by decide +kernel
theorem dX6_told_81 : decode cX6_told 81 = .ok (.aload_n 0, 1) := by decide +kernel
theorem dX6_told_82 : decode cX6_told 82 = .ok (.getfield 10, 3) := by decide +kernel
theorem dX6_told_85 : decode cX6_told 85 = .ok (.getfield 179, 3) := by decide +kernel
theorem dX6_told_88 : decode cX6_told 88 = .ok (.ireturn, 1) := by decide +kernel
theorem dX6_told_89 : decode cX6_told 89 = .ok (.aload_n 0, 1) := by decide +kernel
theorem dX6_told_90 : decode cX6_told 90 = .ok (.iconst (-1), 1) := by decide +kernel
theorem dX6_told_91 : decode cX6_told 91 = .ok (.invokevirtual 52, 3) := by decide +kernel
theorem dX6_told_94 : decode cX6_told 94 = .ok (.ireturn, 1) := by decide +kernel
def f_X6_told (x1 : Int32) (S : St) : Int32 × St := if x1 = (0 : Int32) then (((rd S 1 4), S)) else (if x1 = (1 : Int32) then (((rd S 1 5), S)) else (if x1 = (2 : Int32) then (((rd S 1 1), S)) else (if x1 = (3 : Int32) then (((rd S 0 6), S)) else (if x1 = (4 : Int32) then (if (rd S 1 10) = (-1 : Int32) then (((-100 : Int32), S)) else (((rd S 1 10), S))) else ((((f_X6_finding (-1 : Int32) S).1), (f_X6_finding (-1 : Int32) S).2))))))
set_option maxRecDepth 100000 in
set_option maxHeartbeats 4000000 in
theorem m_X6_told (l : Launch) (w : Wd) (x1 : Int32) (S : St)  : J l w I_X6_told 0 [(0, .ref (w.2.1 + 0)), (1, .int x1)] [] S (fun b => (some (.int b.1), b.2)) (some (f_X6_told x1 S)) := by
  unfold f_X6_told
  refine j_iload_n (y := I_X6_told) 1 dX6_told_0 rfl rfl ?_
  refine j_si ?_
  refine j_ite (y := I_X6_told) (fun h1_0 => ?_) (fun h1_0 => ?_)
  · refine j_tabIn (y := I_X6_told) 36 dX6_told_1 (by rw [h1_0]; decide) (by rw [h1_0]; decide) (by rw [h1_0]; rfl) (by decide) ?_
    refine j_aload_n (y := I_X6_told) 0 dX6_told_36 rfl rfl ?_
    refine j_getR (y := I_X6_told) (j := 1) fl_6_10 k_0 rfl rfl dX6_told_37 ?_
    refine j_getI (y := I_X6_told) fl_6_104 k_1 rfl dX6_told_40 ?_
    exact j_iret (y := I_X6_told) rfl dX6_told_43 rfl
  · skip
    refine j_si ?_
    refine j_ite (y := I_X6_told) (fun h1_1 => ?_) (fun h1_1 => ?_)
    · refine j_tabIn (y := I_X6_told) 44 dX6_told_1 (by rw [h1_1]; decide) (by rw [h1_1]; decide) (by rw [h1_1]; rfl) (by decide) ?_
      refine j_aload_n (y := I_X6_told) 0 dX6_told_44 rfl rfl ?_
      refine j_getR (y := I_X6_told) (j := 1) fl_6_10 k_0 rfl rfl dX6_told_45 ?_
      refine j_getI (y := I_X6_told) fl_6_206 k_1 rfl dX6_told_48 ?_
      exact j_iret (y := I_X6_told) rfl dX6_told_51 rfl
    · skip
      refine j_si ?_
      refine j_ite (y := I_X6_told) (fun h1_2 => ?_) (fun h1_2 => ?_)
      · refine j_tabIn (y := I_X6_told) 52 dX6_told_1 (by rw [h1_2]; decide) (by rw [h1_2]; decide) (by rw [h1_2]; rfl) (by decide) ?_
        refine j_aload_n (y := I_X6_told) 0 dX6_told_52 rfl rfl ?_
        refine j_getR (y := I_X6_told) (j := 1) fl_6_10 k_0 rfl rfl dX6_told_53 ?_
        refine j_getI (y := I_X6_told) fl_6_56 k_1 rfl dX6_told_56 ?_
        exact j_iret (y := I_X6_told) rfl dX6_told_59 rfl
      · skip
        refine j_si ?_
        refine j_ite (y := I_X6_told) (fun h1_3 => ?_) (fun h1_3 => ?_)
        · refine j_tabIn (y := I_X6_told) 60 dX6_told_1 (by rw [h1_3]; decide) (by rw [h1_3]; decide) (by rw [h1_3]; rfl) (by decide) ?_
          refine j_aload_n (y := I_X6_told) 0 dX6_told_60 rfl rfl ?_
          refine j_getI (y := I_X6_told) fl_6_44 k_0 rfl dX6_told_61 ?_
          exact j_iret (y := I_X6_told) rfl dX6_told_64 rfl
        · skip
          refine j_si ?_
          refine j_ite (y := I_X6_told) (fun h1_4 => ?_) (fun h1_4 => ?_)
          · refine j_tabIn (y := I_X6_told) 65 dX6_told_1 (by rw [h1_4]; decide) (by rw [h1_4]; decide) (by rw [h1_4]; rfl) (by decide) ?_
            refine j_aload_n (y := I_X6_told) 0 dX6_told_65 rfl rfl ?_
            refine j_getR (y := I_X6_told) (j := 1) fl_6_10 k_0 rfl rfl dX6_told_66 ?_
            refine j_getI (y := I_X6_told) fl_6_179 k_1 rfl dX6_told_69 ?_
            refine j_iconst (y := I_X6_told) (v := -1) dX6_told_72 (by decide) ?_
            refine j_si ?_
            refine j_icmp_ne (y := I_X6_told) 81 dX6_told_73 (by decide) (fun h73 => ?_) (fun h73 => ?_)
            · refine j_aload_n (y := I_X6_told) 0 dX6_told_81 rfl rfl ?_
              refine j_getR (y := I_X6_told) (j := 1) fl_6_10 k_0 rfl rfl dX6_told_82 ?_
              refine j_getI (y := I_X6_told) fl_6_179 k_1 rfl dX6_told_85 ?_
              exact j_iret (y := I_X6_told) rfl dX6_told_88 rfl
            · refine j_bipush (y := I_X6_told) (v := -100) dX6_told_76 (by decide) ?_
              refine j_goto (y := I_X6_told) 88 dX6_told_78 (by decide) ?_
              exact j_iret (y := I_X6_told) rfl dX6_told_88 rfl
          · skip
            have e0 : (x1).toInt ≠ 0 := fun e => h1_0 (Int32.toInt_inj.mp (e.trans (by decide)))
            have e1 : (x1).toInt ≠ 1 := fun e => h1_1 (Int32.toInt_inj.mp (e.trans (by decide)))
            have e2 : (x1).toInt ≠ 2 := fun e => h1_2 (Int32.toInt_inj.mp (e.trans (by decide)))
            have e3 : (x1).toInt ≠ 3 := fun e => h1_3 (Int32.toInt_inj.mp (e.trans (by decide)))
            have e4 : (x1).toInt ≠ 4 := fun e => h1_4 (Int32.toInt_inj.mp (e.trans (by decide)))
            refine j_tabOut (y := I_X6_told) 89 dX6_told_1 (by omega) (by decide) ?_
            refine j_aload_n (y := I_X6_told) 0 dX6_told_89 rfl rfl ?_
            refine j_iconst (y := I_X6_told) (v := -1) dX6_told_90 (by decide) ?_
            refine j_callViT (y := I_X6_told) (As := [.int (-1 : Int32)]) cv_6_52 ⟨Nat.le_of_ble_eq_true rfl, Nat.le_of_ble_eq_true rfl⟩ k_0 rfl (Nat.le_of_ble_eq_true rfl) dX6_told_91 (c_X6_finding l w (-1 : Int32) S) ?_
            exact j_iret (y := I_X6_told) rfl dX6_told_94 rfl
theorem c_X6_told (l : Launch) (w : Wd) (x1 : Int32) (S : St)  : CtS l w I_X6_told [.ref (w.2.1 + 0), .int x1] S (f_X6_told x1 S).2 (some (.int (f_X6_told x1 S).1)) := J.ct (av := [.ref (w.2.1 + 0), .int x1]) (Nat.le_of_ble_eq_true rfl) pn_6 (m_X6_told l w x1 S ) rfl
abbrev I_X6_warmth : MI := (yX6_warmth, cX6_warmth, 2, some .int, { frames := 4, cells := 0, slots := 0, locals := 89 })
theorem dX6_warmth_0 : decode cX6_warmth 0 = .ok (.iload_n 1, 1) := by decide +kernel
theorem dX6_warmth_1 : decode cX6_warmth 1 = .ok (.invokestatic 182, 3) := by decide +kernel
theorem dX6_warmth_4 : decode cX6_warmth 4 = .ok (.ifCond .ne 9, 3) := by decide +kernel
theorem dX6_warmth_7 : decode cX6_warmth 7 = .ok (.aload_n 0, 1) := by decide +kernel
theorem dX6_warmth_8 : decode cX6_warmth 8 = .ok (.iconst (-1), 1) := by decide +kernel
theorem dX6_warmth_9 : decode cX6_warmth 9 = .ok (.invokevirtual 52, 3) := by decide +kernel
theorem dX6_warmth_12 : decode cX6_warmth 12 = .ok (.ireturn, 1) := by decide +kernel
theorem dX6_warmth_13 : decode cX6_warmth 13 = .ok (.aload_n 0, 1) := by decide +kernel
theorem dX6_warmth_14 : decode cX6_warmth 14 = .ok (.getfield 33, 3) := by decide +kernel
theorem dX6_warmth_17 : decode cX6_warmth 17 = .ok (.aload_n 0, 1) := by decide +kernel
theorem dX6_warmth_18 : decode cX6_warmth 18 = .ok (.getfield 10, 3) := by decide +kernel
theorem dX6_warmth_21 : decode cX6_warmth 21 = .ok (.aload_n 0, 1) := by decide +kernel
theorem dX6_warmth_22 : decode cX6_warmth 22 = .ok (.invokevirtual 185, 3) := by decide +kernel
theorem dX6_warmth_25 : decode cX6_warmth 25 = .ok (.iload_n 1, 1) := by decide +kernel
theorem dX6_warmth_26 : decode cX6_warmth 26 = .ok (.invokevirtual 189, 3) := by decide +kernel
theorem dX6_warmth_29 : decode cX6_warmth 29 = .ok (.ireturn, 1) := by decide +kernel
theorem cv_6_189 : CV RX6 189 3 3 I_X3_warmthNow := ⟨⟨⟨gm 492 (by decide +kernel) rfl, gm 495 (by decide +kernel) rfl, gm 42 (by decide +kernel) rfl, mh_3.1, mh_3.2, by decide +kernel⟩, gm 493 (by decide +kernel) rfl, gm 494 (by decide +kernel) rfl⟩, ⟨_, _, rfl⟩, rfl, rfl⟩
def f_X6_warmth (x1 : Int32) (S : St) : Option (Int32 × St) := if (f_X6_isDay x1) = true then ((f_X6_namedSheet S).bind fun v22 => ((f_X3_warmthNow v22 x1 S).bind fun v26 => (some (v26, S)))) else (some (((f_X6_finding (-1 : Int32) S).1), (f_X6_finding (-1 : Int32) S).2))
set_option maxRecDepth 100000 in
set_option maxHeartbeats 4000000 in
theorem m_X6_warmth (l : Launch) (w : Wd) (x1 : Int32) (S : St)  : J l w I_X6_warmth 0 [(0, .ref (w.2.1 + 0)), (1, .int x1)] [] S (fun b => (some (.int b.1), b.2)) (f_X6_warmth x1 S) := by
  unfold f_X6_warmth
  refine j_iload_n (y := I_X6_warmth) 1 dX6_warmth_0 rfl rfl ?_
  refine j_callSzT (y := I_X6_warmth) (As := [.int x1]) cv_6_182 ⟨Nat.le_of_ble_eq_true rfl, Nat.le_of_ble_eq_true rfl⟩ rfl (Nat.le_of_ble_eq_true rfl) dX6_warmth_1 (c_X6_isDay l w x1 S) ?_
  refine j_if_neB (y := I_X6_warmth) 13 dX6_warmth_4 (by decide) (fun h4 => ?_) (fun h4 => ?_)
  · refine j_aload_n (y := I_X6_warmth) 0 dX6_warmth_13 rfl rfl ?_
    refine j_getR (y := I_X6_warmth) (j := 96) fl_6_33 k_0 rfl rfl dX6_warmth_14 ?_
    refine j_aload_n (y := I_X6_warmth) 0 dX6_warmth_17 rfl rfl ?_
    refine j_getR (y := I_X6_warmth) (j := 1) fl_6_10 k_0 rfl rfl dX6_warmth_18 ?_
    refine j_aload_n (y := I_X6_warmth) 0 dX6_warmth_21 rfl rfl ?_
    refine j_callVqR (y := I_X6_warmth) (As := []) cv_6_185 ⟨Nat.le_of_ble_eq_true rfl, Nat.le_of_ble_eq_true rfl⟩ k_0 rfl (Nat.le_of_ble_eq_true rfl) dX6_warmth_22 (c_X6_namedSheet l w S) (fun v22 h22 => ?_)
    refine j_iload_n (y := I_X6_warmth) 1 dX6_warmth_25 rfl rfl ?_
    refine j_callViR (y := I_X6_warmth) (As := [.ref (w.2.1 + 1), va_rf (Option.map (fun j => w.2.1 + j) v22), .int x1]) cv_6_189 ⟨Nat.le_of_ble_eq_true rfl, Nat.le_of_ble_eq_true rfl⟩ k_96 rfl (Nat.le_of_ble_eq_true rfl) dX6_warmth_26 (c_X3_warmthNow l w v22 x1 S (hq_X6_namedSheet S v22 h22)) (fun v26 h26 => ?_)
    exact j_iret (y := I_X6_warmth) rfl dX6_warmth_29 rfl
  · refine j_aload_n (y := I_X6_warmth) 0 dX6_warmth_7 rfl rfl ?_
    refine j_iconst (y := I_X6_warmth) (v := -1) dX6_warmth_8 (by decide) ?_
    refine j_callViT (y := I_X6_warmth) (As := [.int (-1 : Int32)]) cv_6_52 ⟨Nat.le_of_ble_eq_true rfl, Nat.le_of_ble_eq_true rfl⟩ k_0 rfl (Nat.le_of_ble_eq_true rfl) dX6_warmth_9 (c_X6_finding l w (-1 : Int32) S) ?_
    exact j_iret (y := I_X6_warmth) rfl dX6_warmth_12 rfl
theorem c_X6_warmth (l : Launch) (w : Wd) (x1 : Int32) (S : St)  : ∀ v, f_X6_warmth x1 S = some v → CtS l w I_X6_warmth [.ref (w.2.1 + 0), .int x1] S v.2 (some (.int v.1)) := fun v h => J.ct (av := [.ref (w.2.1 + 0), .int x1]) (Nat.le_of_ble_eq_true rfl) pn_6 (m_X6_warmth l w x1 S ) h
