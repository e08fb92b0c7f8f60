abbrev I_X1_countPairs : MI := (yX1_countPairs, cX1_countPairs, 6, none, { frames := 0, cells := 0, slots := 0, locals := 0 })
theorem dX1_countPairs_0 : decode cX1_countPairs 0 = .ok (.iload_n 1, 1) := by decide +kernel
theorem dX1_countPairs_1 : decode cX1_countPairs 1 = .ok (.istore_n 2, 1) := by decide +kernel
theorem dX1_countPairs_2 : decode cX1_countPairs 2 = .ok (.iload_n 2, 1) := by decide +kernel
theorem dX1_countPairs_3 : decode cX1_countPairs 3 = .ok (.aload_n 0, 1) := by decide +kernel
theorem dX1_countPairs_4 : decode cX1_countPairs 4 = .ok (.getfield 41, 3) := by decide +kernel
theorem dX1_countPairs_7 : decode cX1_countPairs 7 = .ok (.if_icmp .ge 84, 3) := by decide +kernel
theorem dX1_countPairs_10 : decode cX1_countPairs 10 = .ok (.aload_n 0, 1) := by decide +kernel
theorem dX1_countPairs_11 : decode cX1_countPairs 11 = .ok (.getfield 24, 3) := by decide +kernel
theorem dX1_countPairs_14 : decode cX1_countPairs 14 = .ok (.iload_n 2, 1) := by decide +kernel
theorem dX1_countPairs_15 : decode cX1_countPairs 15 = .ok (.iaload, 1) := by decide +kernel
theorem dX1_countPairs_16 : decode cX1_countPairs 16 = .ok (.istore_n 3, 1) := by decide +kernel
theorem dX1_countPairs_17 : decode cX1_countPairs 17 = .ok (.aload_n 0, 1) := by decide +kernel
theorem dX1_countPairs_18 : decode cX1_countPairs 18 = .ok (.getfield 21, 3) := by decide +kernel
theorem dX1_countPairs_21 : decode cX1_countPairs 21 = .ok (.iload_n 2, 1) := by decide +kernel
theorem dX1_countPairs_22 : decode cX1_countPairs 22 = .ok (.iaload, 1) := by decide +kernel
theorem dX1_countPairs_23 : decode cX1_countPairs 23 = .ok (.bipush 6, 2) := by decide +kernel
theorem dX1_countPairs_25 : decode cX1_countPairs 25 = .ok (.imul, 1) := by decide +kernel
theorem dX1_countPairs_26 : decode cX1_countPairs 26 = .ok (.istore 4, 2) := by decide +kernel
theorem dX1_countPairs_28 : decode cX1_countPairs 28 = .ok (.iconst 0, 1) := by decide +kernel
theorem dX1_countPairs_29 : decode cX1_countPairs 29 = .ok (.istore 5, 2) := by decide +kernel
theorem dX1_countPairs_31 : decode cX1_countPairs 31 = .ok (.iload 5, 2) := by decide +kernel
theorem dX1_countPairs_33 : decode cX1_countPairs 33 = .ok (.iload_n 2, 1) := by decide +kernel
theorem dX1_countPairs_34 : decode cX1_countPairs 34 = .ok (.if_icmp .ge 42, 3) := by decide +kernel
theorem dX1_countPairs_37 : decode cX1_countPairs 37 = .ok (.aload_n 0, 1) := by decide +kernel
theorem dX1_countPairs_38 : decode cX1_countPairs 38 = .ok (.getfield 15, 3) := by decide +kernel
theorem dX1_countPairs_41 : decode cX1_countPairs 41 = .ok (.iload_n 2, 1) := by decide +kernel
theorem dX1_countPairs_42 : decode cX1_countPairs 42 = .ok (.iaload, 1) := by decide +kernel
theorem dX1_countPairs_43 : decode cX1_countPairs 43 = .ok (.iload 5, 2) := by decide +kernel
theorem dX1_countPairs_45 : decode cX1_countPairs 45 = .ok (.ishr, 1) := by decide +kernel
theorem dX1_countPairs_46 : decode cX1_countPairs 46 = .ok (.iconst 1, 1) := by decide +kernel
theorem dX1_countPairs_47 : decode cX1_countPairs 47 = .ok (.iand, 1) := by decide +kernel
theorem dX1_countPairs_48 : decode cX1_countPairs 48 = .ok (.iconst 1, 1) := by decide +kernel
theorem dX1_countPairs_49 : decode cX1_countPairs 49 = .ok (.if_icmp .ne 21, 3) := by decide +kernel
theorem dX1_countPairs_52 : decode cX1_countPairs 52 = .ok (.iload_n 3, 1) := by decide +kernel
theorem dX1_countPairs_53 : decode cX1_countPairs 53 = .ok (.aload_n 0, 1) := by decide +kernel
theorem dX1_countPairs_54 : decode cX1_countPairs 54 = .ok (.getfield 27, 3) := by decide +kernel
theorem dX1_countPairs_57 : decode cX1_countPairs 57 = .ok (.iload 4, 2) := by decide +kernel
theorem dX1_countPairs_59 : decode cX1_countPairs 59 = .ok (.aload_n 0, 1) := by decide +kernel
theorem dX1_countPairs_60 : decode cX1_countPairs 60 = .ok (.getfield 21, 3) := by decide +kernel
theorem dX1_countPairs_63 : decode cX1_countPairs 63 = .ok (.iload 5, 2) := by decide +kernel
theorem dX1_countPairs_65 : decode cX1_countPairs 65 = .ok (.iaload, 1) := by decide +kernel
theorem dX1_countPairs_66 : decode cX1_countPairs 66 = .ok (.iadd, 1) := by decide +kernel
theorem dX1_countPairs_67 : decode cX1_countPairs 67 = .ok (.iaload, 1) := by decide +kernel
theorem dX1_countPairs_68 : decode cX1_countPairs 68 = .ok (.iadd, 1) := by decide +kernel
theorem dX1_countPairs_69 : decode cX1_countPairs 69 = .ok (.istore_n 3, 1) := by decide +kernel
theorem dX1_countPairs_70 : decode cX1_countPairs 70 = .ok (.iinc 5 1, 3) := by decide +kernel
theorem dX1_countPairs_73 : decode cX1_countPairs 73 = .ok (.goto (-42), 3) := by decide +kernel
theorem dX1_countPairs_76 : decode cX1_countPairs 76 = .ok (.aload_n 0, 1) := by decide +kernel
theorem dX1_countPairs_77 : decode cX1_countPairs 77 = .ok (.getfield 24, 3) := by decide +kernel
theorem dX1_countPairs_80 : decode cX1_countPairs 80 = .ok (.iload_n 2, 1) := by decide +kernel
theorem dX1_countPairs_81 : decode cX1_countPairs 81 = .ok (.iconst 1, 1) := by decide +kernel
theorem dX1_countPairs_82 : decode cX1_countPairs 82 = .ok (.iadd, 1) := by decide +kernel
theorem dX1_countPairs_83 : decode cX1_countPairs 83 = .ok (.iload_n 3, 1) := by decide +kernel
theorem dX1_countPairs_84 : decode cX1_countPairs 84 = .ok (.iastore, 1) := by decide +kernel
theorem dX1_countPairs_85 : decode cX1_countPairs 85 = .ok (.iinc 2 1, 3) := by decide +kernel
theorem dX1_countPairs_88 : decode cX1_countPairs 88 = .ok (.goto (-86), 3) := by decide +kernel
theorem dX1_countPairs_91 : decode cX1_countPairs 91 = .ok (.return_, 1) := by decide +kernel
def f_X1_countPairs_L31 (fuel : Nat) (K : Int32 → Int32 → St → Option (St)) (a31_2 : Int32) (a31_3 : Int32) (a31_4 : Int32) (a31_5 : Int32) (S31 : St) : Option (St) := match fuel with
  | 0 => none
  | n + 1 => if a31_5 < a31_2 then (if inb a31_2 12 = true then (if (((rd S31 103 (ix a31_2)) >>> (a31_5 &&& 31)) &&& (1 : Int32)) = (1 : Int32) then (if inb a31_5 12 = true then (if inb (a31_4 + (rd S31 105 (ix a31_5))) 36 = true then (f_X1_countPairs_L31 n K a31_2 (a31_3 + (rd S31 107 (ix (a31_4 + (rd S31 105 (ix a31_5)))))) a31_4 (a31_5 + (1 : Int32)) S31) else none) else none) else (f_X1_countPairs_L31 n K a31_2 a31_3 a31_4 (a31_5 + (1 : Int32)) S31)) else none) else (K a31_2 a31_3 S31)
def f_X1_countPairs_L2 (fuel : Nat) (K : St → Option (St)) (a2_2 : Int32) (S2 : St) : Option (St) := match fuel with
  | 0 => none
  | n + 1 => if a2_2 < (rd S2 101 2) then (if inb a2_2 13 = true then (if inb a2_2 12 = true then (f_X1_countPairs_L31 6000 (fun e76_2 e76_3 T76 => (if inb (e76_2 + (1 : Int32)) 13 = true then (f_X1_countPairs_L2 n K (e76_2 + (1 : Int32)) (wr T76 106 (ix (e76_2 + (1 : Int32))) e76_3)) else none)) a2_2 (rd S2 106 (ix a2_2)) ((rd S2 105 (ix a2_2)) * (6 : Int32)) (0 : Int32) S2) else none) else none) else (K S2)
def f_X1_countPairs (x1 : Int32) (S : St) : Option (St) := f_X1_countPairs_L2 6000 (fun T91 => (some T91)) x1 S
set_option maxRecDepth 100000 in
theorem jl_X1_countPairs_31 (l : Launch) (w : Wd) (K : Int32 → Int32 → St → Option (St)) (n : Nat) : ∀ (a31_2 : Int32) (a31_3 : Int32) (a31_4 : Int32) (a31_5 : Int32) (S31 : St), (∀ (e76_2 : Int32) (e76_3 : Int32) (S' : St) , J l w I_X1_countPairs 76 [(0, .ref (w.2.1 + 101)), (2, .int e76_2), (3, .int e76_3)] [] S' (fun b => (none, b)) (K e76_2 e76_3 S')) → J l w I_X1_countPairs 31 [(0, .ref (w.2.1 + 101)), (2, .int a31_2), (3, .int a31_3), (4, .int a31_4), (5, .int a31_5)] [] S31 (fun b => (none, b)) (f_X1_countPairs_L31 n K a31_2 a31_3 a31_4 a31_5 S31) := by
  induction n with
  | zero =>
    intro a31_2 a31_3 a31_4 a31_5 S31 hK b h
    simp only [f_X1_countPairs_L31] at h
    cases h
  | succ n ih =>
    intro a31_2 a31_3 a31_4 a31_5 S31 hK
    rw [f_X1_countPairs_L31]
    refine j_iload (y := I_X1_countPairs) 4 dX1_countPairs_31 rfl ?_
    refine j_iload_n (y := I_X1_countPairs) 1 dX1_countPairs_33 rfl rfl ?_
    refine j_icmp_ge (y := I_X1_countPairs) 76 dX1_countPairs_34 (by decide) (fun h34 => ?_) (fun h34 => ?_)
    · refine j_sub [0, 1, 2] rfl ?_
      exact hK a31_2 a31_3 S31
    · refine j_aload_n (y := I_X1_countPairs) 0 dX1_countPairs_37 rfl rfl ?_
      refine j_getR (y := I_X1_countPairs) (j := 103) fl_1_15 k_101 rfl rfl dX1_countPairs_38 ?_
      refine j_iload_n (y := I_X1_countPairs) 1 dX1_countPairs_41 rfl rfl ?_
      refine j_iald (y := I_X1_countPairs) k_103 dX1_countPairs_42 (fun h42 => ?_)
      refine j_iload (y := I_X1_countPairs) 4 dX1_countPairs_43 rfl ?_
      refine j_ishr (y := I_X1_countPairs) dX1_countPairs_45 ?_
      refine j_iconst (y := I_X1_countPairs) (v := 1) dX1_countPairs_46 (by decide) ?_
      refine j_iand (y := I_X1_countPairs) dX1_countPairs_47 ?_
      refine j_iconst (y := I_X1_countPairs) (v := 1) dX1_countPairs_48 (by decide) ?_
      refine j_icmp_ne (y := I_X1_countPairs) 70 dX1_countPairs_49 (by decide) (fun h49 => ?_) (fun h49 => ?_)
      · refine j_iinc (y := I_X1_countPairs) 4 (ls' := [(5, .int (a31_5 + (1 : Int32))), (0, .ref (w.2.1 + 101)), (2, .int a31_2), (3, .int a31_3), (4, .int a31_4)]) dX1_countPairs_70 rfl (ii _ _ (by decide) _) (by decide) rfl ?_
        refine j_goto (y := I_X1_countPairs) 31 dX1_countPairs_73 (by decide) ?_
        refine j_sub [1, 2, 3, 4, 0] rfl ?_
        exact ih a31_2 a31_3 a31_4 (a31_5 + (1 : Int32)) S31 hK
      · refine j_iload_n (y := I_X1_countPairs) 2 dX1_countPairs_52 rfl rfl ?_
        refine j_aload_n (y := I_X1_countPairs) 0 dX1_countPairs_53 rfl rfl ?_
        refine j_getR (y := I_X1_countPairs) (j := 107) fl_1_27 k_101 rfl rfl dX1_countPairs_54 ?_
        refine j_iload (y := I_X1_countPairs) 3 dX1_countPairs_57 rfl ?_
        refine j_aload_n (y := I_X1_countPairs) 0 dX1_countPairs_59 rfl rfl ?_
        refine j_getR (y := I_X1_countPairs) (j := 105) fl_1_21 k_101 rfl rfl dX1_countPairs_60 ?_
        refine j_iload (y := I_X1_countPairs) 4 dX1_countPairs_63 rfl ?_
        refine j_iald (y := I_X1_countPairs) k_105 dX1_countPairs_65 (fun h65 => ?_)
        refine j_iadd (y := I_X1_countPairs) dX1_countPairs_66 ?_
        refine j_iald (y := I_X1_countPairs) k_107 dX1_countPairs_67 (fun h67 => ?_)
        refine j_iadd (y := I_X1_countPairs) dX1_countPairs_68 ?_
        refine j_istore_n (y := I_X1_countPairs) (ls' := [(3, .int (a31_3 + (rd S31 107 (ix (a31_4 + (rd S31 105 (ix a31_5))))))), (0, .ref (w.2.1 + 101)), (2, .int a31_2), (4, .int a31_4), (5, .int a31_5)]) dX1_countPairs_69 rfl (by decide) rfl ?_
        refine j_iinc (y := I_X1_countPairs) 4 (ls' := [(5, .int (a31_5 + (1 : Int32))), (3, .int (a31_3 + (rd S31 107 (ix (a31_4 + (rd S31 105 (ix a31_5))))))), (0, .ref (w.2.1 + 101)), (2, .int a31_2), (4, .int a31_4)]) dX1_countPairs_70 rfl (ii _ _ (by decide) _) (by decide) rfl ?_
        refine j_goto (y := I_X1_countPairs) 31 dX1_countPairs_73 (by decide) ?_
        refine j_sub [2, 3, 1, 4, 0] rfl ?_
        exact ih a31_2 (a31_3 + (rd S31 107 (ix (a31_4 + (rd S31 105 (ix a31_5)))))) a31_4 (a31_5 + (1 : Int32)) S31 hK
set_option maxRecDepth 100000 in
theorem jl_X1_countPairs_2 (l : Launch) (w : Wd) (K : St → Option (St)) (n : Nat) : ∀ (a2_2 : Int32) (S2 : St), (∀  (S' : St) , J l w I_X1_countPairs 91 [] [] S' (fun b => (none, b)) (K  S')) → J l w I_X1_countPairs 2 [(0, .ref (w.2.1 + 101)), (2, .int a2_2)] [] S2 (fun b => (none, b)) (f_X1_countPairs_L2 n K a2_2 S2) := by
  induction n with
  | zero =>
    intro a2_2 S2 hK b h
    simp only [f_X1_countPairs_L2] at h
    cases h
  | succ n ih =>
    intro a2_2 S2 hK
    rw [f_X1_countPairs_L2]
    refine j_iload_n (y := I_X1_countPairs) 1 dX1_countPairs_2 rfl rfl ?_
    refine j_aload_n (y := I_X1_countPairs) 0 dX1_countPairs_3 rfl rfl ?_
    refine j_getI (y := I_X1_countPairs) fl_1_41 k_101 rfl dX1_countPairs_4 ?_
    refine j_icmp_ge (y := I_X1_countPairs) 91 dX1_countPairs_7 (by decide) (fun h7 => ?_) (fun h7 => ?_)
    · refine j_sub [] rfl ?_
      exact hK S2
    · refine j_aload_n (y := I_X1_countPairs) 0 dX1_countPairs_10 rfl rfl ?_
      refine j_getR (y := I_X1_countPairs) (j := 106) fl_1_24 k_101 rfl rfl dX1_countPairs_11 ?_
      refine j_iload_n (y := I_X1_countPairs) 1 dX1_countPairs_14 rfl rfl ?_
      refine j_iald (y := I_X1_countPairs) k_106 dX1_countPairs_15 (fun h15 => ?_)
      refine j_istore_n (y := I_X1_countPairs) (ls' := [(3, .int (rd S2 106 (ix a2_2))), (0, .ref (w.2.1 + 101)), (2, .int a2_2)]) dX1_countPairs_16 rfl (by decide) rfl ?_
      refine j_aload_n (y := I_X1_countPairs) 1 dX1_countPairs_17 rfl rfl ?_
      refine j_getR (y := I_X1_countPairs) (j := 105) fl_1_21 k_101 rfl rfl dX1_countPairs_18 ?_
      refine j_iload_n (y := I_X1_countPairs) 2 dX1_countPairs_21 rfl rfl ?_
      refine j_iald (y := I_X1_countPairs) k_105 dX1_countPairs_22 (fun h22 => ?_)
      refine j_bipush (y := I_X1_countPairs) (v := 6) dX1_countPairs_23 (by decide) ?_
      refine j_imul (y := I_X1_countPairs) dX1_countPairs_25 ?_
      refine j_istore (y := I_X1_countPairs) (ls' := [(4, .int ((rd S2 105 (ix a2_2)) * (6 : Int32))), (3, .int (rd S2 106 (ix a2_2))), (0, .ref (w.2.1 + 101)), (2, .int a2_2)]) dX1_countPairs_26 (by decide) rfl ?_
      refine j_iconst (y := I_X1_countPairs) (v := 0) dX1_countPairs_28 (by decide) ?_
      refine j_istore (y := I_X1_countPairs) (ls' := [(5, .int (0 : Int32)), (4, .int ((rd S2 105 (ix a2_2)) * (6 : Int32))), (3, .int (rd S2 106 (ix a2_2))), (0, .ref (w.2.1 + 101)), (2, .int a2_2)]) dX1_countPairs_29 (by decide) rfl ?_
      refine j_sub [3, 4, 2, 1, 0] rfl ?_
      refine jl_X1_countPairs_31 l w _ 6000 a2_2 (rd S2 106 (ix a2_2)) ((rd S2 105 (ix a2_2)) * (6 : Int32)) (0 : Int32) S2  (fun e76_2 e76_3 T76 => ?_)
      refine j_aload_n (y := I_X1_countPairs) 0 dX1_countPairs_76 rfl rfl ?_
      refine j_getR (y := I_X1_countPairs) (j := 106) fl_1_24 k_101 rfl rfl dX1_countPairs_77 ?_
      refine j_iload_n (y := I_X1_countPairs) 1 dX1_countPairs_80 rfl rfl ?_
      refine j_iconst (y := I_X1_countPairs) (v := 1) dX1_countPairs_81 (by decide) ?_
      refine j_iadd (y := I_X1_countPairs) dX1_countPairs_82 ?_
      refine j_iload_n (y := I_X1_countPairs) 2 dX1_countPairs_83 rfl rfl ?_
      refine j_iast (y := I_X1_countPairs) k_106 dX1_countPairs_84 (fun h84 => ?_)
      refine j_iinc (y := I_X1_countPairs) 1 (ls' := [(2, .int (e76_2 + (1 : Int32))), (0, .ref (w.2.1 + 101)), (3, .int e76_3)]) dX1_countPairs_85 rfl (ii _ _ (by decide) _) (by decide) rfl ?_
      refine j_goto (y := I_X1_countPairs) 2 dX1_countPairs_88 (by decide) ?_
      refine j_sub [1, 0] rfl ?_
      exact ih (e76_2 + (1 : Int32)) (wr T76 106 (ix (e76_2 + (1 : Int32))) e76_3) hK
set_option maxRecDepth 100000 in
set_option maxHeartbeats 4000000 in
theorem m_X1_countPairs (l : Launch) (w : Wd) (x1 : Int32) (S : St)  : J l w I_X1_countPairs 0 [(0, .ref (w.2.1 + 101)), (1, .int x1)] [] S (fun b => (none, b)) (f_X1_countPairs x1 S) := by
  unfold f_X1_countPairs
  refine j_iload_n (y := I_X1_countPairs) 1 dX1_countPairs_0 rfl rfl ?_
  refine j_istore_n (y := I_X1_countPairs) (ls' := [(2, .int x1), (0, .ref (w.2.1 + 101)), (1, .int x1)]) dX1_countPairs_1 rfl (by decide) rfl ?_
  refine j_sub [1, 0] rfl ?_
  refine jl_X1_countPairs_2 l w _ 6000 x1 S  (fun T91 => ?_)
  exact j_vret (y := I_X1_countPairs) rfl dX1_countPairs_91 rfl
theorem c_X1_countPairs (l : Launch) (w : Wd) (x1 : Int32) (S : St)  : ∀ v, f_X1_countPairs x1 S = some v → CtS l w I_X1_countPairs [.ref (w.2.1 + 101), .int x1] S v none := fun v h => J.ct (av := [.ref (w.2.1 + 101), .int x1]) (Nat.le_of_ble_eq_true rfl) pn_1 (m_X1_countPairs l w x1 S ) h
abbrev I_X1_tellTried : MI := (yX1_tellTried, cX1_tellTried, 2, none, { frames := 0, cells := 0, slots := 0, locals := 0 })
theorem dX1_tellTried_0 : decode cX1_tellTried 0 = .ok (.iconst 0, 1) := by decide +kernel
theorem dX1_tellTried_1 : decode cX1_tellTried 1 = .ok (.istore_n 1, 1) := by decide +kernel
theorem dX1_tellTried_2 : decode cX1_tellTried 2 = .ok (.iload_n 1, 1) := by decide +kernel
theorem dX1_tellTried_3 : decode cX1_tellTried 3 = .ok (.aload_n 0, 1) := by decide +kernel
theorem dX1_tellTried_4 : decode cX1_tellTried 4 = .ok (.getfield 41, 3) := by decide +kernel
theorem dX1_tellTried_7 : decode cX1_tellTried 7 = .ok (.if_icmp .ge 26, 3) := by decide +kernel
theorem dX1_tellTried_10 : decode cX1_tellTried 10 = .ok (.aload_n 0, 1) := by decide +kernel
theorem dX1_tellTried_11 : decode cX1_tellTried 11 = .ok (.getfield 18, 3) := by decide +kernel
theorem dX1_tellTried_14 : decode cX1_tellTried 14 = .ok (.aload_n 0, 1) := by decide +kernel
theorem dX1_tellTried_15 : decode cX1_tellTried 15 = .ok (.getfield 9, 3) := by decide +kernel
theorem dX1_tellTried_18 : decode cX1_tellTried 18 = .ok (.iload_n 1, 1) := by decide +kernel
theorem dX1_tellTried_19 : decode cX1_tellTried 19 = .ok (.iaload, 1) := by decide +kernel
theorem dX1_tellTried_20 : decode cX1_tellTried 20 = .ok (.aload_n 0, 1) := by decide +kernel
theorem dX1_tellTried_21 : decode cX1_tellTried 21 = .ok (.getfield 21, 3) := by decide +kernel
theorem dX1_tellTried_24 : decode cX1_tellTried 24 = .ok (.iload_n 1, 1) := by decide +kernel
theorem dX1_tellTried_25 : decode cX1_tellTried 25 = .ok (.iaload, 1) := by decide +kernel
theorem dX1_tellTried_26 : decode cX1_tellTried 26 = .ok (.iastore, 1) := by decide +kernel
theorem dX1_tellTried_27 : decode cX1_tellTried 27 = .ok (.iinc 1 1, 3) := by decide +kernel
theorem dX1_tellTried_30 : decode cX1_tellTried 30 = .ok (.goto (-28), 3) := by decide +kernel
theorem dX1_tellTried_33 : decode cX1_tellTried 33 = .ok (.return_, 1) := by decide +kernel
def f_X1_tellTried_L2 (fuel : Nat) (K : St → Option (St)) (a2_1 : Int32) (S2 : St) : Option (St) := match fuel with
  | 0 => none
  | n + 1 => if a2_1 < (rd S2 101 2) then (if inb a2_1 12 = true then (if inb a2_1 12 = true then (if inb (rd S2 102 (ix a2_1)) 12 = true then (f_X1_tellTried_L2 n K (a2_1 + (1 : Int32)) (wr S2 104 (ix (rd S2 102 (ix a2_1))) (rd S2 105 (ix a2_1)))) else none) else none) else none) else (K S2)
def f_X1_tellTried  (S : St) : Option (St) := f_X1_tellTried_L2 6000 (fun T33 => (some T33)) (0 : Int32) S
set_option maxRecDepth 100000 in
theorem jl_X1_tellTried_2 (l : Launch) (w : Wd) (K : St → Option (St)) (n : Nat) : ∀ (a2_1 : Int32) (S2 : St), (∀  (S' : St) , J l w I_X1_tellTried 33 [] [] S' (fun b => (none, b)) (K  S')) → J l w I_X1_tellTried 2 [(0, .ref (w.2.1 + 101)), (1, .int a2_1)] [] S2 (fun b => (none, b)) (f_X1_tellTried_L2 n K a2_1 S2) := by
  induction n with
  | zero =>
    intro a2_1 S2 hK b h
    simp only [f_X1_tellTried_L2] at h
    cases h
  | succ n ih =>
    intro a2_1 S2 hK
    rw [f_X1_tellTried_L2]
    refine j_iload_n (y := I_X1_tellTried) 1 dX1_tellTried_2 rfl rfl ?_
    refine j_aload_n (y := I_X1_tellTried) 0 dX1_tellTried_3 rfl rfl ?_
    refine j_getI (y := I_X1_tellTried) fl_1_41 k_101 rfl dX1_tellTried_4 ?_
    refine j_icmp_ge (y := I_X1_tellTried) 33 dX1_tellTried_7 (by decide) (fun h7 => ?_) (fun h7 => ?_)
    · refine j_sub [] rfl ?_
      exact hK S2
    · refine j_aload_n (y := I_X1_tellTried) 0 dX1_tellTried_10 rfl rfl ?_
      refine j_getR (y := I_X1_tellTried) (j := 104) fl_1_18 k_101 rfl rfl dX1_tellTried_11 ?_
      refine j_aload_n (y := I_X1_tellTried) 0 dX1_tellTried_14 rfl rfl ?_
      refine j_getR (y := I_X1_tellTried) (j := 102) fl_1_9 k_101 rfl rfl dX1_tellTried_15 ?_
      refine j_iload_n (y := I_X1_tellTried) 1 dX1_tellTried_18 rfl rfl ?_
      refine j_iald (y := I_X1_tellTried) k_102 dX1_tellTried_19 (fun h19 => ?_)
      refine j_aload_n (y := I_X1_tellTried) 0 dX1_tellTried_20 rfl rfl ?_
      refine j_getR (y := I_X1_tellTried) (j := 105) fl_1_21 k_101 rfl rfl dX1_tellTried_21 ?_
      refine j_iload_n (y := I_X1_tellTried) 1 dX1_tellTried_24 rfl rfl ?_
      refine j_iald (y := I_X1_tellTried) k_105 dX1_tellTried_25 (fun h25 => ?_)
      refine j_iast (y := I_X1_tellTried) k_104 dX1_tellTried_26 (fun h26 => ?_)
      refine j_iinc (y := I_X1_tellTried) 1 (ls' := [(1, .int (a2_1 + (1 : Int32))), (0, .ref (w.2.1 + 101))]) dX1_tellTried_27 rfl (ii _ _ (by decide) _) (by decide) rfl ?_
      refine j_goto (y := I_X1_tellTried) 2 dX1_tellTried_30 (by decide) ?_
      refine j_sub [1, 0] rfl ?_
      exact ih (a2_1 + (1 : Int32)) (wr S2 104 (ix (rd S2 102 (ix a2_1))) (rd S2 105 (ix a2_1))) hK
set_option maxRecDepth 100000 in
set_option maxHeartbeats 4000000 in
theorem m_X1_tellTried (l : Launch) (w : Wd)  (S : St)  : J l w I_X1_tellTried 0 [(0, .ref (w.2.1 + 101))] [] S (fun b => (none, b)) (f_X1_tellTried S) := by
  unfold f_X1_tellTried
  refine j_iconst (y := I_X1_tellTried) (v := 0) dX1_tellTried_0 (by decide) ?_
  refine j_istore_n (y := I_X1_tellTried) (ls' := [(1, .int (0 : Int32)), (0, .ref (w.2.1 + 101))]) dX1_tellTried_1 rfl (by decide) rfl ?_
  refine j_sub [1, 0] rfl ?_
  refine jl_X1_tellTried_2 l w _ 6000 (0 : Int32) S  (fun T33 => ?_)
  exact j_vret (y := I_X1_tellTried) rfl dX1_tellTried_33 rfl
theorem c_X1_tellTried (l : Launch) (w : Wd)  (S : St)  : ∀ v, f_X1_tellTried S = some v → CtS l w I_X1_tellTried [.ref (w.2.1 + 101)] S v none := fun v h => J.ct (av := [.ref (w.2.1 + 101)]) (Nat.le_of_ble_eq_true rfl) pn_1 (m_X1_tellTried l w  S ) h
abbrev I_X1_tryNext : MI := (yX1_tryNext, cX1_tryNext, 2, some .int, { frames := 0, cells := 0, slots := 0, locals := 0 })
theorem dX1_tryNext_0 : decode cX1_tryNext 0 = .ok (.aload_n 0, 1) := by decide +kernel
theorem dX1_tryNext_1 : decode cX1_tryNext 1 = .ok (.getfield 41, 3) := by decide +kernel
theorem dX1_tryNext_4 : decode cX1_tryNext 4 = .ok (.iconst 1, 1) := by decide +kernel
theorem dX1_tryNext_5 : decode cX1_tryNext 5 = .ok (.isub, 1) := by decide +kernel
theorem dX1_tryNext_6 : decode cX1_tryNext 6 = .ok (.istore_n 1, 1) := by decide +kernel
theorem dX1_tryNext_7 : decode cX1_tryNext 7 = .ok (.iload_n 1, 1) := by decide +kernel
theorem dX1_tryNext_8 : decode cX1_tryNext 8 = .ok (.ifCond .lt 43, 3) := by decide +kernel
theorem dX1_tryNext_11 : decode cX1_tryNext 11 = .ok (.aload_n 0, 1) := by decide +kernel
theorem dX1_tryNext_12 : decode cX1_tryNext 12 = .ok (.getfield 21, 3) := by decide +kernel
theorem dX1_tryNext_15 : decode cX1_tryNext 15 = .ok (.iload_n 1, 1) := by decide +kernel
theorem dX1_tryNext_16 : decode cX1_tryNext 16 = .ok (.iaload, 1) := by decide +kernel
theorem dX1_tryNext_17 : decode cX1_tryNext 17 = .ok (.iconst 1, 1) := by decide +kernel
theorem dX1_tryNext_18 : decode cX1_tryNext 18 = .ok (.iadd, 1) := by decide +kernel
theorem dX1_tryNext_19 : decode cX1_tryNext 19 = .ok (.aload_n 0, 1) := by decide +kernel
theorem dX1_tryNext_20 : decode cX1_tryNext 20 = .ok (.getfield 40, 3) := by decide +kernel
theorem dX1_tryNext_23 : decode cX1_tryNext 23 = .ok (.if_icmp .ge 15, 3) := by decide +kernel
theorem dX1_tryNext_26 : decode cX1_tryNext 26 = .ok (.aload_n 0, 1) := by decide +kernel
theorem dX1_tryNext_27 : decode cX1_tryNext 27 = .ok (.getfield 21, 3) := by decide +kernel
theorem dX1_tryNext_30 : decode cX1_tryNext 30 = .ok (.iload_n 1, 1) := by decide +kernel
theorem dX1_tryNext_31 : decode cX1_tryNext 31 = .ok (.dup2, 1) := by decide +kernel
theorem dX1_tryNext_32 : decode cX1_tryNext 32 = .ok (.iaload, 1) := by decide +kernel
theorem dX1_tryNext_33 : decode cX1_tryNext 33 = .ok (.iconst 1, 1) := by decide +kernel
theorem dX1_tryNext_34 : decode cX1_tryNext 34 = .ok (.iadd, 1) := by decide +kernel
theorem dX1_tryNext_35 : decode cX1_tryNext 35 = .ok (.iastore, 1) := by decide +kernel
theorem dX1_tryNext_36 : decode cX1_tryNext 36 = .ok (.iload_n 1, 1) := by decide +kernel
theorem dX1_tryNext_37 : decode cX1_tryNext 37 = .ok (.ireturn, 1) := by decide +kernel
theorem dX1_tryNext_38 : decode cX1_tryNext 38 = .ok (.aload_n 0, 1) := by decide +kernel
theorem dX1_tryNext_39 : decode cX1_tryNext 39 = .ok (.getfield 21, 3) := by decide +kernel
theorem dX1_tryNext_42 : decode cX1_tryNext 42 = .ok (.iload_n 1, 1) := by decide +kernel
theorem dX1_tryNext_43 : decode cX1_tryNext 43 = .ok (.iconst 0, 1) := by decide +kernel
theorem dX1_tryNext_44 : decode cX1_tryNext 44 = .ok (.iastore, 1) := by decide +kernel
theorem dX1_tryNext_45 : decode cX1_tryNext 45 = .ok (.iinc 1 (-1), 3) := by decide +kernel
theorem dX1_tryNext_48 : decode cX1_tryNext 48 = .ok (.goto (-41), 3) := by decide +kernel
theorem dX1_tryNext_51 : decode cX1_tryNext 51 = .ok (.iconst (-1), 1) := by decide +kernel
theorem dX1_tryNext_52 : decode cX1_tryNext 52 = .ok (.ireturn, 1) := by decide +kernel
def f_X1_tryNext_L7 (fuel : Nat) (K : St → Option (Int32 × St)) (a7_1 : Int32) (S7 : St) : Option (Int32 × St) := match fuel with
  | 0 => none
  | n + 1 => if a7_1 < 0 then (K S7) else (if inb a7_1 12 = true then (if ((rd S7 105 (ix a7_1)) + (1 : Int32)) < (rd S7 101 3) then (if inb a7_1 12 = true then (if inb a7_1 12 = true then (some (a7_1, (wr S7 105 (ix a7_1) ((rd S7 105 (ix a7_1)) + (1 : Int32))))) else none) else none) else (if inb a7_1 12 = true then (f_X1_tryNext_L7 n K (a7_1 + (-1 : Int32)) (wr S7 105 (ix a7_1) (0 : Int32))) else none)) else none)
def f_X1_tryNext  (S : St) : Option (Int32 × St) := f_X1_tryNext_L7 6000 (fun T51 => (some ((-1 : Int32), T51))) ((rd S 101 2) - (1 : Int32)) S
set_option maxRecDepth 100000 in
theorem jl_X1_tryNext_7 (l : Launch) (w : Wd) (K : St → Option (Int32 × St)) (n : Nat) : ∀ (a7_1 : Int32) (S7 : St), (∀  (S' : St) , J l w I_X1_tryNext 51 [] [] S' (fun b => (some (.int b.1), b.2)) (K  S')) → J l w I_X1_tryNext 7 [(0, .ref (w.2.1 + 101)), (1, .int a7_1)] [] S7 (fun b => (some (.int b.1), b.2)) (f_X1_tryNext_L7 n K a7_1 S7) := by
  induction n with
  | zero =>
    intro a7_1 S7 hK b h
    simp only [f_X1_tryNext_L7] at h
    cases h
  | succ n ih =>
    intro a7_1 S7 hK
    rw [f_X1_tryNext_L7]
    refine j_iload_n (y := I_X1_tryNext) 1 dX1_tryNext_7 rfl rfl ?_
    refine j_if_lt (y := I_X1_tryNext) 51 dX1_tryNext_8 (by decide) (fun h8 => ?_) (fun h8 => ?_)
    · refine j_sub [] rfl ?_
      exact hK S7
    · refine j_aload_n (y := I_X1_tryNext) 0 dX1_tryNext_11 rfl rfl ?_
      refine j_getR (y := I_X1_tryNext) (j := 105) fl_1_21 k_101 rfl rfl dX1_tryNext_12 ?_
      refine j_iload_n (y := I_X1_tryNext) 1 dX1_tryNext_15 rfl rfl ?_
      refine j_iald (y := I_X1_tryNext) k_105 dX1_tryNext_16 (fun h16 => ?_)
      refine j_iconst (y := I_X1_tryNext) (v := 1) dX1_tryNext_17 (by decide) ?_
      refine j_iadd (y := I_X1_tryNext) dX1_tryNext_18 ?_
      refine j_aload_n (y := I_X1_tryNext) 0 dX1_tryNext_19 rfl rfl ?_
      refine j_getI (y := I_X1_tryNext) fl_1_40 k_101 rfl dX1_tryNext_20 ?_
      refine j_icmp_ge (y := I_X1_tryNext) 38 dX1_tryNext_23 (by decide) (fun h23 => ?_) (fun h23 => ?_)
      · refine j_aload_n (y := I_X1_tryNext) 0 dX1_tryNext_38 rfl rfl ?_
        refine j_getR (y := I_X1_tryNext) (j := 105) fl_1_21 k_101 rfl rfl dX1_tryNext_39 ?_
        refine j_iload_n (y := I_X1_tryNext) 1 dX1_tryNext_42 rfl rfl ?_
        refine j_iconst (y := I_X1_tryNext) (v := 0) dX1_tryNext_43 (by decide) ?_
        refine j_iast (y := I_X1_tryNext) k_105 dX1_tryNext_44 (fun h44 => ?_)
        refine j_iinc (y := I_X1_tryNext) 1 (ls' := [(1, .int (a7_1 + (-1 : Int32))), (0, .ref (w.2.1 + 101))]) dX1_tryNext_45 rfl (ii _ _ (by decide) _) (by decide) rfl ?_
        refine j_goto (y := I_X1_tryNext) 7 dX1_tryNext_48 (by decide) ?_
        refine j_sub [1, 0] rfl ?_
        exact ih (a7_1 + (-1 : Int32)) (wr S7 105 (ix a7_1) (0 : Int32)) hK
      · refine j_aload_n (y := I_X1_tryNext) 0 dX1_tryNext_26 rfl rfl ?_
        refine j_getR (y := I_X1_tryNext) (j := 105) fl_1_21 k_101 rfl rfl dX1_tryNext_27 ?_
        refine j_iload_n (y := I_X1_tryNext) 1 dX1_tryNext_30 rfl rfl ?_
        refine j_dup2 (y := I_X1_tryNext) dX1_tryNext_31 rfl rfl ?_
        refine j_iald (y := I_X1_tryNext) k_105 dX1_tryNext_32 (fun h32 => ?_)
        refine j_iconst (y := I_X1_tryNext) (v := 1) dX1_tryNext_33 (by decide) ?_
        refine j_iadd (y := I_X1_tryNext) dX1_tryNext_34 ?_
        refine j_iast (y := I_X1_tryNext) k_105 dX1_tryNext_35 (fun h35 => ?_)
        refine j_iload_n (y := I_X1_tryNext) 1 dX1_tryNext_36 rfl rfl ?_
        exact j_iret (y := I_X1_tryNext) rfl dX1_tryNext_37 rfl
set_option maxRecDepth 100000 in
set_option maxHeartbeats 4000000 in
theorem m_X1_tryNext (l : Launch) (w : Wd)  (S : St)  : J l w I_X1_tryNext 0 [(0, .ref (w.2.1 + 101))] [] S (fun b => (some (.int b.1), b.2)) (f_X1_tryNext S) := by
  unfold f_X1_tryNext
  refine j_aload_n (y := I_X1_tryNext) 0 dX1_tryNext_0 rfl rfl ?_
  refine j_getI (y := I_X1_tryNext) fl_1_41 k_101 rfl dX1_tryNext_1 ?_
  refine j_iconst (y := I_X1_tryNext) (v := 1) dX1_tryNext_4 (by decide) ?_
  refine j_isub (y := I_X1_tryNext) dX1_tryNext_5 ?_
  refine j_istore_n (y := I_X1_tryNext) (ls' := [(1, .int ((rd S 101 2) - (1 : Int32))), (0, .ref (w.2.1 + 101))]) dX1_tryNext_6 rfl (by decide) rfl ?_
  refine j_sub [1, 0] rfl ?_
  refine jl_X1_tryNext_7 l w _ 6000 ((rd S 101 2) - (1 : Int32)) S  (fun T51 => ?_)
  refine j_iconst (y := I_X1_tryNext) (v := -1) dX1_tryNext_51 (by decide) ?_
  exact j_iret (y := I_X1_tryNext) rfl dX1_tryNext_52 rfl
theorem c_X1_tryNext (l : Launch) (w : Wd)  (S : St)  : ∀ v, f_X1_tryNext S = some v → CtS l w I_X1_tryNext [.ref (w.2.1 + 101)] S v.2 (some (.int v.1)) := fun v h => J.ct (av := [.ref (w.2.1 + 101)]) (Nat.le_of_ble_eq_true rfl) pn_1 (m_X1_tryNext l w  S ) h
abbrev I_X1_choose : MI := (yX1_choose, cX1_choose, 3, none, { frames := 1, cells := 0, slots := 0, locals := 25 })
theorem dX1_choose_0 : decode cX1_choose 0 = .ok (.iconst 0, 1) := by decide +kernel
theorem dX1_choose_1 : decode cX1_choose 1 = .ok (.istore_n 1, 1) := by decide +kernel
theorem dX1_choose_2 : decode cX1_choose 2 = .ok (.iload_n 1, 1) := by decide +kernel
theorem dX1_choose_3 : decode cX1_choose 3 = .ok (.aload_n 0, 1) := by decide +kernel
theorem dX1_choose_4 : decode cX1_choose 4 = .ok (.getfield 41, 3) := by decide +kernel
theorem dX1_choose_7 : decode cX1_choose 7 = .ok (.if_icmp .ge 16, 3) := by decide +kernel
theorem dX1_choose_10 : decode cX1_choose 10 = .ok (.aload_n 0, 1) := by decide +kernel
theorem dX1_choose_11 : decode cX1_choose 11 = .ok (.getfield 21, 3) := by decide +kernel
theorem dX1_choose_14 : decode cX1_choose 14 = .ok (.iload_n 1, 1) := by decide +kernel
theorem dX1_choose_15 : decode cX1_choose 15 = .ok (.iconst 0, 1) := by decide +kernel
theorem dX1_choose_16 : decode cX1_choose 16 = .ok (.iastore, 1) := by decide +kernel
theorem dX1_choose_17 : decode cX1_choose 17 = .ok (.iinc 1 1, 3) := by decide +kernel
theorem dX1_choose_20 : decode cX1_choose 20 = .ok (.goto (-18), 3) := by decide +kernel
theorem dX1_choose_23 : decode cX1_choose 23 = .ok (.aload_n 0, 1) := by decide +kernel
theorem dX1_choose_24 : decode cX1_choose 24 = .ok (.iconst (-1), 1) := by decide +kernel
theorem dX1_choose_25 : decode cX1_choose 25 = .ok (.putfield 61, 3) := by decide +kernel
theorem dX1_choose_28 : decode cX1_choose 28 = .ok (.iconst 0, 1) := by decide +kernel
theorem dX1_choose_29 : decode cX1_choose 29 = .ok (.istore_n 1, 1) := by decide +kernel
theorem dX1_choose_30 : decode cX1_choose 30 = .ok (.iconst 0, 1) := by decide +kernel
theorem dX1_choose_31 : decode cX1_choose 31 = .ok (.istore_n 2, 1) := by decide +kernel
theorem dX1_choose_32 : decode cX1_choose 32 = .ok (.iload_n 2, 1) := by decide +kernel
theorem dX1_choose_33 : decode cX1_choose 33 = .ok (.sipush 5000, 3) := by decide +kernel
theorem dX1_choose_36 : decode cX1_choose 36 = .ok (.if_icmp .gt 56, 3) := by decide +kernel
theorem dX1_choose_39 : decode cX1_choose 39 = .ok (.iload_n 1, 1) := by decide +kernel
theorem dX1_choose_40 : decode cX1_choose 40 = .ok (.ifCond .lt 52, 3) := by decide +kernel
theorem dX1_choose_43 : decode cX1_choose 43 = .ok (.aload_n 0, 1) := by decide +kernel
theorem dX1_choose_44 : decode cX1_choose 44 = .ok (.iload_n 1, 1) := by decide +kernel
theorem dX1_choose_45 : decode cX1_choose 45 = .ok (.invokevirtual 64, 3) := by decide +kernel
theorem dX1_choose_48 : decode cX1_choose 48 = .ok (.aload_n 0, 1) := by decide +kernel
theorem dX1_choose_49 : decode cX1_choose 49 = .ok (.getfield 24, 3) := by decide +kernel
theorem dX1_choose_52 : decode cX1_choose 52 = .ok (.aload_n 0, 1) := by decide +kernel
theorem dX1_choose_53 : decode cX1_choose 53 = .ok (.getfield 41, 3) := by decide +kernel
theorem dX1_choose_56 : decode cX1_choose 56 = .ok (.iaload, 1) := by decide +kernel
theorem dX1_choose_57 : decode cX1_choose 57 = .ok (.aload_n 0, 1) := by decide +kernel
theorem dX1_choose_58 : decode cX1_choose 58 = .ok (.getfield 61, 3) := by decide +kernel
theorem dX1_choose_61 : decode cX1_choose 61 = .ok (.if_icmp .le 20, 3) := by decide +kernel
theorem dX1_choose_64 : decode cX1_choose 64 = .ok (.aload_n 0, 1) := by decide +kernel
theorem dX1_choose_65 : decode cX1_choose 65 = .ok (.aload_n 0, 1) := by decide +kernel
theorem dX1_choose_66 : decode cX1_choose 66 = .ok (.getfield 24, 3) := by decide +kernel
theorem dX1_choose_69 : decode cX1_choose 69 = .ok (.aload_n 0, 1) := by decide +kernel
theorem dX1_choose_70 : decode cX1_choose 70 = .ok (.getfield 41, 3) := by decide +kernel
theorem dX1_choose_73 : decode cX1_choose 73 = .ok (.iaload, 1) := by decide +kernel
theorem dX1_choose_74 : decode cX1_choose 74 = .ok (.putfield 61, 3) := by decide +kernel
theorem dX1_choose_77 : decode cX1_choose 77 = .ok (.aload_n 0, 1) := by decide +kernel
theorem dX1_choose_78 : decode cX1_choose 78 = .ok (.invokevirtual 68, 3) := by decide +kernel
theorem dX1_choose_81 : decode cX1_choose 81 = .ok (.aload_n 0, 1) := by decide +kernel
theorem dX1_choose_82 : decode cX1_choose 82 = .ok (.invokevirtual 71, 3) := by decide +kernel
theorem dX1_choose_85 : decode cX1_choose 85 = .ok (.istore_n 1, 1) := by decide +kernel
theorem dX1_choose_86 : decode cX1_choose 86 = .ok (.iinc 2 1, 3) := by decide +kernel
theorem dX1_choose_89 : decode cX1_choose 89 = .ok (.goto (-57), 3) := by decide +kernel
theorem dX1_choose_92 : decode cX1_choose 92 = .ok (.aload_n 0, 1) := by decide +kernel
theorem dX1_choose_93 : decode cX1_choose 93 = .ok (.iconst 1, 1) := by decide +kernel
theorem dX1_choose_94 : decode cX1_choose 94 = .ok (.putfield 30, 3) := by decide +kernel
theorem dX1_choose_97 : decode cX1_choose 97 = .ok (.return_, 1) := by decide +kernel
theorem cv_1_64 : CV RX1 64 1 1 I_X1_countPairs := ⟨⟨⟨gm 745 (by decide +kernel) rfl, gm 748 (by decide +kernel) rfl, gm 43 (by decide +kernel) rfl, mh_1.1, mh_1.2, by decide +kernel⟩, gm 746 (by decide +kernel) rfl, gm 747 (by decide +kernel) rfl⟩, ⟨_, _, rfl⟩, rfl, rfl⟩
theorem cv_1_68 : CV RX1 68 0 1 I_X1_tellTried := ⟨⟨⟨gm 749 (by decide +kernel) rfl, gm 752 (by decide +kernel) rfl, gm 43 (by decide +kernel) rfl, mh_1.1, mh_1.2, by decide +kernel⟩, gm 750 (by decide +kernel) rfl, gm 751 (by decide +kernel) rfl⟩, ⟨_, _, rfl⟩, rfl, rfl⟩
theorem cv_1_71 : CV RX1 71 0 1 I_X1_tryNext := ⟨⟨⟨gm 753 (by decide +kernel) rfl, gm 756 (by decide +kernel) rfl, gm 43 (by decide +kernel) rfl, mh_1.1, mh_1.2, by decide +kernel⟩, gm 754 (by decide +kernel) rfl, gm 755 (by decide +kernel) rfl⟩, ⟨_, _, rfl⟩, rfl, rfl⟩
def f_X1_choose_L2 (fuel : Nat) (K : St → Option (St)) (a2_1 : Int32) (S2 : St) : Option (St) := match fuel with
  | 0 => none
  | n + 1 => if a2_1 < (rd S2 101 2) then (if inb a2_1 12 = true then (f_X1_choose_L2 n K (a2_1 + (1 : Int32)) (wr S2 105 (ix a2_1) (0 : Int32))) else none) else (K S2)
def f_X1_choose_L32 (fuel : Nat) (K : St → Option (St)) (a32_1 : Int32) (a32_2 : Int32) (S32 : St) : Option (St) := match fuel with
  | 0 => none
  | n + 1 => if (5000 : Int32) < a32_2 then (K S32) else (if a32_1 < 0 then (K S32) else ((f_X1_countPairs a32_1 S32).bind fun v45 => (if inb (rd v45 101 2) 13 = true then (if (rd v45 101 1) < (rd v45 106 (ix (rd v45 101 2))) then (if inb (rd v45 101 2) 13 = true then ((f_X1_tellTried (wr v45 101 1 (rd v45 106 (ix (rd v45 101 2))))).bind fun v78 => ((f_X1_tryNext v78).bind fun v82 => (f_X1_choose_L32 n K v82.1 (a32_2 + (1 : Int32)) v82.2))) else none) else ((f_X1_tryNext v45).bind fun v82 => (f_X1_choose_L32 n K v82.1 (a32_2 + (1 : Int32)) v82.2))) else none)))
def f_X1_choose  (S : St) : Option (St) := f_X1_choose_L2 6000 (fun T23 => (f_X1_choose_L32 6000 (fun T92 => (some (wr T92 101 0 (1 : Int32)))) (0 : Int32) (0 : Int32) (wr T23 101 1 (-1 : Int32)))) (0 : Int32) S
set_option maxRecDepth 100000 in
theorem jl_X1_choose_2 (l : Launch) (w : Wd) (K : St → Option (St)) (n : Nat) : ∀ (a2_1 : Int32) (S2 : St), (∀  (S' : St) , J l w I_X1_choose 23 [(0, .ref (w.2.1 + 101))] [] S' (fun b => (none, b)) (K  S')) → J l w I_X1_choose 2 [(0, .ref (w.2.1 + 101)), (1, .int a2_1)] [] S2 (fun b => (none, b)) (f_X1_choose_L2 n K a2_1 S2) := by
  induction n with
  | zero =>
    intro a2_1 S2 hK b h
    simp only [f_X1_choose_L2] at h
    cases h
  | succ n ih =>
    intro a2_1 S2 hK
    rw [f_X1_choose_L2]
    refine j_iload_n (y := I_X1_choose) 1 dX1_choose_2 rfl rfl ?_
    refine j_aload_n (y := I_X1_choose) 0 dX1_choose_3 rfl rfl ?_
    refine j_getI (y := I_X1_choose) fl_1_41 k_101 rfl dX1_choose_4 ?_
    refine j_icmp_ge (y := I_X1_choose) 23 dX1_choose_7 (by decide) (fun h7 => ?_) (fun h7 => ?_)
    · refine j_sub [0] rfl ?_
      exact hK S2
    · refine j_aload_n (y := I_X1_choose) 0 dX1_choose_10 rfl rfl ?_
      refine j_getR (y := I_X1_choose) (j := 105) fl_1_21 k_101 rfl rfl dX1_choose_11 ?_
      refine j_iload_n (y := I_X1_choose) 1 dX1_choose_14 rfl rfl ?_
      refine j_iconst (y := I_X1_choose) (v := 0) dX1_choose_15 (by decide) ?_
      refine j_iast (y := I_X1_choose) k_105 dX1_choose_16 (fun h16 => ?_)
      refine j_iinc (y := I_X1_choose) 1 (ls' := [(1, .int (a2_1 + (1 : Int32))), (0, .ref (w.2.1 + 101))]) dX1_choose_17 rfl (ii _ _ (by decide) _) (by decide) rfl ?_
      refine j_goto (y := I_X1_choose) 2 dX1_choose_20 (by decide) ?_
      refine j_sub [1, 0] rfl ?_
      exact ih (a2_1 + (1 : Int32)) (wr S2 105 (ix a2_1) (0 : Int32)) hK
set_option maxRecDepth 100000 in
theorem jl_X1_choose_32 (l : Launch) (w : Wd) (K : St → Option (St)) (n : Nat) : ∀ (a32_1 : Int32) (a32_2 : Int32) (S32 : St), (∀  (S' : St) , J l w I_X1_choose 92 [(0, .ref (w.2.1 + 101))] [] S' (fun b => (none, b)) (K  S')) → J l w I_X1_choose 32 [(0, .ref (w.2.1 + 101)), (1, .int a32_1), (2, .int a32_2)] [] S32 (fun b => (none, b)) (f_X1_choose_L32 n K a32_1 a32_2 S32) := by
  induction n with
  | zero =>
    intro a32_1 a32_2 S32 hK b h
    simp only [f_X1_choose_L32] at h
    cases h
  | succ n ih =>
    intro a32_1 a32_2 S32 hK
    rw [f_X1_choose_L32]
    refine j_iload_n (y := I_X1_choose) 2 dX1_choose_32 rfl rfl ?_
    refine j_sipush (y := I_X1_choose) (v := 5000) dX1_choose_33 (by decide) ?_
    refine j_icmp_gt (y := I_X1_choose) 92 dX1_choose_36 (by decide) (fun h36 => ?_) (fun h36 => ?_)
    · refine j_sub [0] rfl ?_
      exact hK S32
    · refine j_iload_n (y := I_X1_choose) 1 dX1_choose_39 rfl rfl ?_
      refine j_if_lt (y := I_X1_choose) 92 dX1_choose_40 (by decide) (fun h40 => ?_) (fun h40 => ?_)
      · refine j_sub [0] rfl ?_
        exact hK S32
      · refine j_aload_n (y := I_X1_choose) 0 dX1_choose_43 rfl rfl ?_
        refine j_iload_n (y := I_X1_choose) 1 dX1_choose_44 rfl rfl ?_
        refine j_callVvS (y := I_X1_choose) (As := [.int a32_1]) cv_1_64 ⟨Nat.le_of_ble_eq_true rfl, Nat.le_of_ble_eq_true rfl⟩ k_101 rfl (Nat.le_of_ble_eq_true rfl) dX1_choose_45 (c_X1_countPairs l w a32_1 S32) (fun v45 h45 => ?_)
        refine j_aload_n (y := I_X1_choose) 0 dX1_choose_48 rfl rfl ?_
        refine j_getR (y := I_X1_choose) (j := 106) fl_1_24 k_101 rfl rfl dX1_choose_49 ?_
        refine j_aload_n (y := I_X1_choose) 0 dX1_choose_52 rfl rfl ?_
        refine j_getI (y := I_X1_choose) fl_1_41 k_101 rfl dX1_choose_53 ?_
        refine j_iald (y := I_X1_choose) k_106 dX1_choose_56 (fun h56 => ?_)
        refine j_aload_n (y := I_X1_choose) 0 dX1_choose_57 rfl rfl ?_
        refine j_getI (y := I_X1_choose) fl_1_61 k_101 rfl dX1_choose_58 ?_
        refine j_icmp_le (y := I_X1_choose) 81 dX1_choose_61 (by decide) (fun h61 => ?_) (fun h61 => ?_)
        · refine j_aload_n (y := I_X1_choose) 0 dX1_choose_81 rfl rfl ?_
          refine j_callViS (y := I_X1_choose) (As := []) cv_1_71 ⟨Nat.le_of_ble_eq_true rfl, Nat.le_of_ble_eq_true rfl⟩ k_101 rfl (Nat.le_of_ble_eq_true rfl) dX1_choose_82 (c_X1_tryNext l w v45) (fun v82 h82 => ?_)
          refine j_istore_n (y := I_X1_choose) (ls' := [(1, .int v82.1), (0, .ref (w.2.1 + 101)), (2, .int a32_2)]) dX1_choose_85 rfl (by decide) rfl ?_
          refine j_iinc (y := I_X1_choose) 2 (ls' := [(2, .int (a32_2 + (1 : Int32))), (1, .int v82.1), (0, .ref (w.2.1 + 101))]) dX1_choose_86 rfl (ii _ _ (by decide) _) (by decide) rfl ?_
          refine j_goto (y := I_X1_choose) 32 dX1_choose_89 (by decide) ?_
          refine j_sub [2, 1, 0] rfl ?_
          exact ih v82.1 (a32_2 + (1 : Int32)) v82.2 hK
        · refine j_aload_n (y := I_X1_choose) 0 dX1_choose_64 rfl rfl ?_
          refine j_aload_n (y := I_X1_choose) 0 dX1_choose_65 rfl rfl ?_
          refine j_getR (y := I_X1_choose) (j := 106) fl_1_24 k_101 rfl rfl dX1_choose_66 ?_
          refine j_aload_n (y := I_X1_choose) 0 dX1_choose_69 rfl rfl ?_
          refine j_getI (y := I_X1_choose) fl_1_41 k_101 rfl dX1_choose_70 ?_
          refine j_iald (y := I_X1_choose) k_106 dX1_choose_73 (fun h73 => ?_)
          refine j_putI (y := I_X1_choose) fp_1_61 k_101 rfl rfl rfl dX1_choose_74 ?_
          refine j_aload_n (y := I_X1_choose) 0 dX1_choose_77 rfl rfl ?_
          refine j_callVvS (y := I_X1_choose) (As := []) cv_1_68 ⟨Nat.le_of_ble_eq_true rfl, Nat.le_of_ble_eq_true rfl⟩ k_101 rfl (Nat.le_of_ble_eq_true rfl) dX1_choose_78 (c_X1_tellTried l w (wr v45 101 1 (rd v45 106 (ix (rd v45 101 2))))) (fun v78 h78 => ?_)
          refine j_aload_n (y := I_X1_choose) 0 dX1_choose_81 rfl rfl ?_
          refine j_callViS (y := I_X1_choose) (As := []) cv_1_71 ⟨Nat.le_of_ble_eq_true rfl, Nat.le_of_ble_eq_true rfl⟩ k_101 rfl (Nat.le_of_ble_eq_true rfl) dX1_choose_82 (c_X1_tryNext l w v78) (fun v82 h82 => ?_)
          refine j_istore_n (y := I_X1_choose) (ls' := [(1, .int v82.1), (0, .ref (w.2.1 + 101)), (2, .int a32_2)]) dX1_choose_85 rfl (by decide) rfl ?_
          refine j_iinc (y := I_X1_choose) 2 (ls' := [(2, .int (a32_2 + (1 : Int32))), (1, .int v82.1), (0, .ref (w.2.1 + 101))]) dX1_choose_86 rfl (ii _ _ (by decide) _) (by decide) rfl ?_
          refine j_goto (y := I_X1_choose) 32 dX1_choose_89 (by decide) ?_
          refine j_sub [2, 1, 0] rfl ?_
          exact ih v82.1 (a32_2 + (1 : Int32)) v82.2 hK
set_option maxRecDepth 100000 in
set_option maxHeartbeats 4000000 in
theorem m_X1_choose (l : Launch) (w : Wd)  (S : St)  : J l w I_X1_choose 0 [(0, .ref (w.2.1 + 101))] [] S (fun b => (none, b)) (f_X1_choose S) := by
  unfold f_X1_choose
  refine j_iconst (y := I_X1_choose) (v := 0) dX1_choose_0 (by decide) ?_
  refine j_istore_n (y := I_X1_choose) (ls' := [(1, .int (0 : Int32)), (0, .ref (w.2.1 + 101))]) dX1_choose_1 rfl (by decide) rfl ?_
  refine j_sub [1, 0] rfl ?_
  refine jl_X1_choose_2 l w _ 6000 (0 : Int32) S  (fun T23 => ?_)
  refine j_aload_n (y := I_X1_choose) 0 dX1_choose_23 rfl rfl ?_
  refine j_iconst (y := I_X1_choose) (v := -1) dX1_choose_24 (by decide) ?_
  refine j_putI (y := I_X1_choose) fp_1_61 k_101 rfl rfl rfl dX1_choose_25 ?_
  refine j_iconst (y := I_X1_choose) (v := 0) dX1_choose_28 (by decide) ?_
  refine j_istore_n (y := I_X1_choose) (ls' := [(1, .int (0 : Int32)), (0, .ref (w.2.1 + 101))]) dX1_choose_29 rfl (by decide) rfl ?_
  refine j_iconst (y := I_X1_choose) (v := 0) dX1_choose_30 (by decide) ?_
  refine j_istore_n (y := I_X1_choose) (ls' := [(2, .int (0 : Int32)), (1, .int (0 : Int32)), (0, .ref (w.2.1 + 101))]) dX1_choose_31 rfl (by decide) rfl ?_
  refine j_sub [2, 1, 0] rfl ?_
  refine jl_X1_choose_32 l w _ 6000 (0 : Int32) (0 : Int32) (wr T23 101 1 (-1 : Int32))  (fun T92 => ?_)
  refine j_aload_n (y := I_X1_choose) 0 dX1_choose_92 rfl rfl ?_
  refine j_iconst (y := I_X1_choose) (v := 1) dX1_choose_93 (by decide) ?_
  refine j_putI (y := I_X1_choose) fp_1_30 k_101 rfl rfl rfl dX1_choose_94 ?_
  exact j_vret (y := I_X1_choose) rfl dX1_choose_97 rfl
theorem c_X1_choose (l : Launch) (w : Wd)  (S : St)  : ∀ v, f_X1_choose S = some v → CtS l w I_X1_choose [.ref (w.2.1 + 101)] S v none := fun v h => J.ct (av := [.ref (w.2.1 + 101)]) (Nat.le_of_ble_eq_true rfl) pn_1 (m_X1_choose l w  S ) h
abbrev I_X1_countGivings : MI := (yX1_countGivings, cX1_countGivings, 3, some .int, { frames := 0, cells := 0, slots := 0, locals := 0 })
theorem dX1_countGivings_0 : decode cX1_countGivings 0 = .ok (.iconst 1, 1) := by decide +kernel
theorem dX1_countGivings_1 : decode cX1_countGivings 1 = .ok (.istore_n 1, 1) := by decide +kernel
theorem dX1_countGivings_2 : decode cX1_countGivings 2 = .ok (.iconst 0, 1) := by decide +kernel
theorem dX1_countGivings_3 : decode cX1_countGivings 3 = .ok (.istore_n 2, 1) := by decide +kernel
theorem dX1_countGivings_4 : decode cX1_countGivings 4 = .ok (.iload_n 2, 1) := by decide +kernel
theorem dX1_countGivings_5 : decode cX1_countGivings 5 = .ok (.aload_n 0, 1) := by decide +kernel
theorem dX1_countGivings_6 : decode cX1_countGivings 6 = .ok (.getfield 41, 3) := by decide +kernel
theorem dX1_countGivings_9 : decode cX1_countGivings 9 = .ok (.if_icmp .ge 23, 3) := by decide +kernel
theorem dX1_countGivings_12 : decode cX1_countGivings 12 = .ok (.iload_n 1, 1) := by decide +kernel
theorem dX1_countGivings_13 : decode cX1_countGivings 13 = .ok (.sipush 5000, 3) := by decide +kernel
theorem dX1_countGivings_16 : decode cX1_countGivings 16 = .ok (.if_icmp .gt 16, 3) := by decide +kernel
theorem dX1_countGivings_19 : decode cX1_countGivings 19 = .ok (.iload_n 1, 1) := by decide +kernel
theorem dX1_countGivings_20 : decode cX1_countGivings 20 = .ok (.aload_n 0, 1) := by decide +kernel
theorem dX1_countGivings_21 : decode cX1_countGivings 21 = .ok (.getfield 40, 3) := by decide +kernel
theorem dX1_countGivings_24 : decode cX1_countGivings 24 = .ok (.imul, 1) := by decide +kernel
theorem dX1_countGivings_25 : decode cX1_countGivings 25 = .ok (.istore_n 1, 1) := by decide +kernel
theorem dX1_countGivings_26 : decode cX1_countGivings 26 = .ok (.iinc 2 1, 3) := by decide +kernel
theorem dX1_countGivings_29 : decode cX1_countGivings 29 = .ok (.goto (-25), 3) := by decide +kernel
theorem dX1_countGivings_32 : decode cX1_countGivings 32 = .ok (.iload_n 1, 1) := by decide +kernel
theorem dX1_countGivings_33 : decode cX1_countGivings 33 = .ok (.ireturn, 1) := by decide +kernel
def f_X1_countGivings_L4 (fuel : Nat) (K : Int32 → Option (Int32)) (a4_1 : Int32) (a4_2 : Int32) (S : St) : Option (Int32) := match fuel with
  | 0 => none
  | n + 1 => if a4_2 < (rd S 101 2) then (if (5000 : Int32) < a4_1 then (K a4_1) else (f_X1_countGivings_L4 n K (a4_1 * (rd S 101 3)) (a4_2 + (1 : Int32)) S)) else (K a4_1)
def f_X1_countGivings  (S : St) : Option (Int32) := f_X1_countGivings_L4 6000 (fun e32_1 => (some e32_1)) (1 : Int32) (0 : Int32) S
set_option maxRecDepth 100000 in
theorem jl_X1_countGivings_4 (l : Launch) (w : Wd) (S : St) (K : Int32 → Option (Int32)) (n : Nat) : ∀ (a4_1 : Int32) (a4_2 : Int32), (∀ (e32_1 : Int32) , J l w I_X1_countGivings 32 [(1, .int e32_1)] [] S (fun b => (some (.int b), S)) (K e32_1)) → J l w I_X1_countGivings 4 [(0, .ref (w.2.1 + 101)), (1, .int a4_1), (2, .int a4_2)] [] S (fun b => (some (.int b), S)) (f_X1_countGivings_L4 n K a4_1 a4_2 S) := by
  induction n with
  | zero =>
    intro a4_1 a4_2 hK b h
    simp only [f_X1_countGivings_L4] at h
    cases h
  | succ n ih =>
    intro a4_1 a4_2 hK
    rw [f_X1_countGivings_L4]
    refine j_iload_n (y := I_X1_countGivings) 2 dX1_countGivings_4 rfl rfl ?_
    refine j_aload_n (y := I_X1_countGivings) 0 dX1_countGivings_5 rfl rfl ?_
    refine j_getI (y := I_X1_countGivings) fl_1_41 k_101 rfl dX1_countGivings_6 ?_
    refine j_icmp_ge (y := I_X1_countGivings) 32 dX1_countGivings_9 (by decide) (fun h9 => ?_) (fun h9 => ?_)
    · refine j_sub [1] rfl ?_
      exact hK a4_1
    · refine j_iload_n (y := I_X1_countGivings) 1 dX1_countGivings_12 rfl rfl ?_
      refine j_sipush (y := I_X1_countGivings) (v := 5000) dX1_countGivings_13 (by decide) ?_
      refine j_icmp_gt (y := I_X1_countGivings) 32 dX1_countGivings_16 (by decide) (fun h16 => ?_) (fun h16 => ?_)
      · refine j_sub [1] rfl ?_
        exact hK a4_1
      · refine j_iload_n (y := I_X1_countGivings) 1 dX1_countGivings_19 rfl rfl ?_
        refine j_aload_n (y := I_X1_countGivings) 0 dX1_countGivings_20 rfl rfl ?_
        refine j_getI (y := I_X1_countGivings) fl_1_40 k_101 rfl dX1_countGivings_21 ?_
        refine j_imul (y := I_X1_countGivings) dX1_countGivings_24 ?_
        refine j_istore_n (y := I_X1_countGivings) (ls' := [(1, .int (a4_1 * (rd S 101 3))), (0, .ref (w.2.1 + 101)), (2, .int a4_2)]) dX1_countGivings_25 rfl (by decide) rfl ?_
        refine j_iinc (y := I_X1_countGivings) 2 (ls' := [(2, .int (a4_2 + (1 : Int32))), (1, .int (a4_1 * (rd S 101 3))), (0, .ref (w.2.1 + 101))]) dX1_countGivings_26 rfl (ii _ _ (by decide) _) (by decide) rfl ?_
        refine j_goto (y := I_X1_countGivings) 4 dX1_countGivings_29 (by decide) ?_
        refine j_sub [2, 1, 0] rfl ?_
        exact ih (a4_1 * (rd S 101 3)) (a4_2 + (1 : Int32)) hK
set_option maxRecDepth 100000 in
set_option maxHeartbeats 4000000 in
theorem m_X1_countGivings (l : Launch) (w : Wd)  (S : St)  : J l w I_X1_countGivings 0 [(0, .ref (w.2.1 + 101))] [] S (fun b => (some (.int b), S)) (f_X1_countGivings S) := by
  unfold f_X1_countGivings
  refine j_iconst (y := I_X1_countGivings) (v := 1) dX1_countGivings_0 (by decide) ?_
  refine j_istore_n (y := I_X1_countGivings) (ls' := [(1, .int (1 : Int32)), (0, .ref (w.2.1 + 101))]) dX1_countGivings_1 rfl (by decide) rfl ?_
  refine j_iconst (y := I_X1_countGivings) (v := 0) dX1_countGivings_2 (by decide) ?_
  refine j_istore_n (y := I_X1_countGivings) (ls' := [(2, .int (0 : Int32)), (1, .int (1 : Int32)), (0, .ref (w.2.1 + 101))]) dX1_countGivings_3 rfl (by decide) rfl ?_
  refine j_sub [2, 1, 0] rfl ?_
  refine jl_X1_countGivings_4 l w S _ 6000 (1 : Int32) (0 : Int32)   (fun e32_1 => ?_)
  refine j_iload_n (y := I_X1_countGivings) 0 dX1_countGivings_32 rfl rfl ?_
  exact j_iret (y := I_X1_countGivings) rfl dX1_countGivings_33 rfl
theorem c_X1_countGivings (l : Launch) (w : Wd)  (S : St)  : ∀ v, f_X1_countGivings S = some v → CtS l w I_X1_countGivings [.ref (w.2.1 + 101)] S S (some (.int v)) := fun v h => J.ct (av := [.ref (w.2.1 + 101)]) (Nat.le_of_ble_eq_true rfl) pn_1 (m_X1_countGivings l w  S ) h
abbrev I_X1_forget : MI := (yX1_forget, cX1_forget, 1, none, { frames := 0, cells := 0, slots := 0, locals := 0 })
theorem dX1_forget_0 : decode cX1_forget 0 = .ok (.aload_n 0, 1) := by decide +kernel
theorem dX1_forget_1 : decode cX1_forget 1 = .ok (.iconst 0, 1) := by decide +kernel
theorem dX1_forget_2 : decode cX1_forget 2 = .ok (.putfield 30, 3) := by decide +kernel
theorem dX1_forget_5 : decode cX1_forget 5 = .ok (.return_, 1) := by decide +kernel
def f_X1_forget  (S : St) : St := (wr S 101 0 (0 : Int32))
set_option maxRecDepth 100000 in
set_option maxHeartbeats 4000000 in
theorem m_X1_forget (l : Launch) (w : Wd)  (S : St)  : J l w I_X1_forget 0 [(0, .ref (w.2.1 + 101))] [] S (fun b => (none, b)) (some (f_X1_forget S)) := by
  unfold f_X1_forget
  refine j_aload_n (y := I_X1_forget) 0 dX1_forget_0 rfl rfl ?_
  refine j_iconst (y := I_X1_forget) (v := 0) dX1_forget_1 (by decide) ?_
  refine j_putI (y := I_X1_forget) fp_1_30 k_101 rfl rfl rfl dX1_forget_2 ?_
  exact j_vret (y := I_X1_forget) rfl dX1_forget_5 rfl
theorem c_X1_forget (l : Launch) (w : Wd)  (S : St)  : CtS l w I_X1_forget [.ref (w.2.1 + 101)] S (f_X1_forget S) none := J.ct (av := [.ref (w.2.1 + 101)]) (Nat.le_of_ble_eq_true rfl) pn_1 (m_X1_forget l w  S ) rfl
abbrev I_X1_nearEarlier : MI := (yX1_nearEarlier, cX1_nearEarlier, 5, some .int, { frames := 2, cells := 0, slots := 0, locals := 44 })
theorem dX1_nearEarlier_0 : decode cX1_nearEarlier 0 = .ok (.iconst 0, 1) := by decide +kernel
theorem dX1_nearEarlier_1 : decode cX1_nearEarlier 1 = .ok (.istore_n 3, 1) := by decide +kernel
theorem dX1_nearEarlier_2 : decode cX1_nearEarlier 2 = .ok (.iconst 0, 1) := by decide +kernel
theorem dX1_nearEarlier_3 : decode cX1_nearEarlier 3 = .ok (.istore 4, 2) := by decide +kernel
theorem dX1_nearEarlier_5 : decode cX1_nearEarlier 5 = .ok (.iload 4, 2) := by decide +kernel
theorem dX1_nearEarlier_7 : decode cX1_nearEarlier 7 = .ok (.aload_n 0, 1) := by decide +kernel
theorem dX1_nearEarlier_8 : decode cX1_nearEarlier 8 = .ok (.getfield 41, 3) := by decide +kernel
theorem dX1_nearEarlier_11 : decode cX1_nearEarlier 11 = .ok (.if_icmp .ge 31, 3) := by decide +kernel
theorem dX1_nearEarlier_14 : decode cX1_nearEarlier 14 = .ok (.aload_n 1, 1) := by decide +kernel
theorem dX1_nearEarlier_15 : decode cX1_nearEarlier 15 = .ok (.iload_n 2, 1) := by decide +kernel
theorem dX1_nearEarlier_16 : decode cX1_nearEarlier 16 = .ok (.aload_n 0, 1) := by decide +kernel
theorem dX1_nearEarlier_17 : decode cX1_nearEarlier 17 = .ok (.getfield 9, 3) := by decide +kernel
theorem dX1_nearEarlier_20 : decode cX1_nearEarlier 20 = .ok (.iload 4, 2) := by decide +kernel
theorem dX1_nearEarlier_22 : decode cX1_nearEarlier 22 = .ok (.iaload, 1) := by decide +kernel
theorem dX1_nearEarlier_23 : decode cX1_nearEarlier 23 = .ok (.invokevirtual 57, 3) := by decide +kernel
theorem dX1_nearEarlier_26 : decode cX1_nearEarlier 26 = .ok (.ifCond .eq 10, 3) := by decide +kernel
theorem dX1_nearEarlier_29 : decode cX1_nearEarlier 29 = .ok (.iload_n 3, 1) := by decide +kernel
theorem dX1_nearEarlier_30 : decode cX1_nearEarlier 30 = .ok (.iconst 1, 1) := by decide +kernel
theorem dX1_nearEarlier_31 : decode cX1_nearEarlier 31 = .ok (.iload 4, 2) := by decide +kernel
theorem dX1_nearEarlier_33 : decode cX1_nearEarlier 33 = .ok (.ishl, 1) := by decide +kernel
theorem dX1_nearEarlier_34 : decode cX1_nearEarlier 34 = .ok (.ior, 1) := by decide +kernel
theorem dX1_nearEarlier_35 : decode cX1_nearEarlier 35 = .ok (.istore_n 3, 1) := by decide +kernel
theorem dX1_nearEarlier_36 : decode cX1_nearEarlier 36 = .ok (.iinc 4 1, 3) := by decide +kernel
theorem dX1_nearEarlier_39 : decode cX1_nearEarlier 39 = .ok (.goto (-34), 3) := by decide +kernel
theorem dX1_nearEarlier_42 : decode cX1_nearEarlier 42 = .ok (.iload_n 3, 1) := by decide +kernel
theorem dX1_nearEarlier_43 : decode cX1_nearEarlier 43 = .ok (.ireturn, 1) := by decide +kernel
theorem cv_1_57 : CV RX1 57 2 0 I_X0_isNear := ⟨⟨⟨gm 730 (by decide +kernel) rfl, gm 577 (by decide +kernel) rfl, gm 38 (by decide +kernel) rfl, mh_0.1, mh_0.2, by decide +kernel⟩, gm 575 (by decide +kernel) rfl, gm 576 (by decide +kernel) rfl⟩, ⟨_, _, rfl⟩, rfl, rfl⟩
def f_X1_nearEarlier_L5 (fuel : Nat) (K : Int32 → Option (Int32)) (a5_2 : Int32) (a5_3 : Int32) (a5_4 : Int32) (S : St) : Option (Int32) := match fuel with
  | 0 => none
  | n + 1 => if a5_4 < (rd S 101 2) then (if inb a5_4 12 = true then ((f_X0_isNear a5_2 (rd S 102 (ix a5_4)) S).bind fun v23 => (if v23 = true then (f_X1_nearEarlier_L5 n K a5_2 (a5_3 ||| ((1 : Int32) <<< (a5_4 &&& 31))) (a5_4 + (1 : Int32)) S) else (f_X1_nearEarlier_L5 n K a5_2 a5_3 (a5_4 + (1 : Int32)) S))) else none) else (K a5_3)
def f_X1_nearEarlier (x2 : Int32) (S : St) : Option (Int32) := f_X1_nearEarlier_L5 6000 (fun e42_3 => (some e42_3)) x2 (0 : Int32) (0 : Int32) S
set_option maxRecDepth 100000 in
theorem jl_X1_nearEarlier_5 (l : Launch) (w : Wd) (S : St) (K : Int32 → Option (Int32)) (n : Nat) : ∀ (a5_2 : Int32) (a5_3 : Int32) (a5_4 : Int32), (∀ (e42_3 : Int32) , J l w I_X1_nearEarlier 42 [(3, .int e42_3)] [] S (fun b => (some (.int b), S)) (K e42_3)) → J l w I_X1_nearEarlier 5 [(0, .ref (w.2.1 + 101)), (1, .ref (w.2.1 + 1)), (2, .int a5_2), (3, .int a5_3), (4, .int a5_4)] [] S (fun b => (some (.int b), S)) (f_X1_nearEarlier_L5 n K a5_2 a5_3 a5_4 S) := by
  induction n with
  | zero =>
    intro a5_2 a5_3 a5_4 hK b h
    simp only [f_X1_nearEarlier_L5] at h
    cases h
  | succ n ih =>
    intro a5_2 a5_3 a5_4 hK
    rw [f_X1_nearEarlier_L5]
    refine j_iload (y := I_X1_nearEarlier) 4 dX1_nearEarlier_5 rfl ?_
    refine j_aload_n (y := I_X1_nearEarlier) 0 dX1_nearEarlier_7 rfl rfl ?_
    refine j_getI (y := I_X1_nearEarlier) fl_1_41 k_101 rfl dX1_nearEarlier_8 ?_
    refine j_icmp_ge (y := I_X1_nearEarlier) 42 dX1_nearEarlier_11 (by decide) (fun h11 => ?_) (fun h11 => ?_)
    · refine j_sub [3] rfl ?_
      exact hK a5_3
    · refine j_aload_n (y := I_X1_nearEarlier) 1 dX1_nearEarlier_14 rfl rfl ?_
      refine j_iload_n (y := I_X1_nearEarlier) 2 dX1_nearEarlier_15 rfl rfl ?_
      refine j_aload_n (y := I_X1_nearEarlier) 0 dX1_nearEarlier_16 rfl rfl ?_
      refine j_getR (y := I_X1_nearEarlier) (j := 102) fl_1_9 k_101 rfl rfl dX1_nearEarlier_17 ?_
      refine j_iload (y := I_X1_nearEarlier) 4 dX1_nearEarlier_20 rfl ?_
      refine j_iald (y := I_X1_nearEarlier) k_102 dX1_nearEarlier_22 (fun h22 => ?_)
      refine j_callVzR (y := I_X1_nearEarlier) (As := [.int a5_2, .int (rd S 102 (ix a5_4))]) cv_1_57 ⟨Nat.le_of_ble_eq_true rfl, Nat.le_of_ble_eq_true rfl⟩ k_1 rfl (Nat.le_of_ble_eq_true rfl) dX1_nearEarlier_23 (c_X0_isNear l w a5_2 (rd S 102 (ix a5_4)) S) (fun v23 h23 => ?_)
      refine j_if_eqB (y := I_X1_nearEarlier) 36 dX1_nearEarlier_26 (by decide) (fun h26 => ?_) (fun h26 => ?_)
      · refine j_iinc (y := I_X1_nearEarlier) 4 (ls' := [(4, .int (a5_4 + (1 : Int32))), (0, .ref (w.2.1 + 101)), (1, .ref (w.2.1 + 1)), (2, .int a5_2), (3, .int a5_3)]) dX1_nearEarlier_36 rfl (ii _ _ (by decide) _) (by decide) rfl ?_
        refine j_goto (y := I_X1_nearEarlier) 5 dX1_nearEarlier_39 (by decide) ?_
        refine j_sub [1, 2, 3, 4, 0] rfl ?_
        exact ih a5_2 a5_3 (a5_4 + (1 : Int32)) hK
      · refine j_iload_n (y := I_X1_nearEarlier) 3 dX1_nearEarlier_29 rfl rfl ?_
        refine j_iconst (y := I_X1_nearEarlier) (v := 1) dX1_nearEarlier_30 (by decide) ?_
        refine j_iload (y := I_X1_nearEarlier) 4 dX1_nearEarlier_31 rfl ?_
        refine j_ishl (y := I_X1_nearEarlier) dX1_nearEarlier_33 ?_
        refine j_ior (y := I_X1_nearEarlier) dX1_nearEarlier_34 ?_
        refine j_istore_n (y := I_X1_nearEarlier) (ls' := [(3, .int (a5_3 ||| ((1 : Int32) <<< (a5_4 &&& 31)))), (0, .ref (w.2.1 + 101)), (1, .ref (w.2.1 + 1)), (2, .int a5_2), (4, .int a5_4)]) dX1_nearEarlier_35 rfl (by decide) rfl ?_
        refine j_iinc (y := I_X1_nearEarlier) 4 (ls' := [(4, .int (a5_4 + (1 : Int32))), (3, .int (a5_3 ||| ((1 : Int32) <<< (a5_4 &&& 31)))), (0, .ref (w.2.1 + 101)), (1, .ref (w.2.1 + 1)), (2, .int a5_2)]) dX1_nearEarlier_36 rfl (ii _ _ (by decide) _) (by decide) rfl ?_
        refine j_goto (y := I_X1_nearEarlier) 5 dX1_nearEarlier_39 (by decide) ?_
        refine j_sub [2, 3, 4, 1, 0] rfl ?_
        exact ih a5_2 (a5_3 ||| ((1 : Int32) <<< (a5_4 &&& 31))) (a5_4 + (1 : Int32)) hK
set_option maxRecDepth 100000 in
set_option maxHeartbeats 4000000 in
theorem m_X1_nearEarlier (l : Launch) (w : Wd) (x2 : Int32) (S : St)  : J l w I_X1_nearEarlier 0 [(0, .ref (w.2.1 + 101)), (1, .ref (w.2.1 + 1)), (2, .int x2)] [] S (fun b => (some (.int b), S)) (f_X1_nearEarlier x2 S) := by
  unfold f_X1_nearEarlier
  refine j_iconst (y := I_X1_nearEarlier) (v := 0) dX1_nearEarlier_0 (by decide) ?_
  refine j_istore_n (y := I_X1_nearEarlier) (ls' := [(3, .int (0 : Int32)), (0, .ref (w.2.1 + 101)), (1, .ref (w.2.1 + 1)), (2, .int x2)]) dX1_nearEarlier_1 rfl (by decide) rfl ?_
  refine j_iconst (y := I_X1_nearEarlier) (v := 0) dX1_nearEarlier_2 (by decide) ?_
  refine j_istore (y := I_X1_nearEarlier) (ls' := [(4, .int (0 : Int32)), (3, .int (0 : Int32)), (0, .ref (w.2.1 + 101)), (1, .ref (w.2.1 + 1)), (2, .int x2)]) dX1_nearEarlier_3 (by decide) rfl ?_
  refine j_sub [2, 3, 4, 1, 0] rfl ?_
  refine jl_X1_nearEarlier_5 l w S _ 6000 x2 (0 : Int32) (0 : Int32)   (fun e42_3 => ?_)
  refine j_iload_n (y := I_X1_nearEarlier) 0 dX1_nearEarlier_42 rfl rfl ?_
  exact j_iret (y := I_X1_nearEarlier) rfl dX1_nearEarlier_43 rfl
theorem c_X1_nearEarlier (l : Launch) (w : Wd) (x2 : Int32) (S : St)  : ∀ v, f_X1_nearEarlier x2 S = some v → CtS l w I_X1_nearEarlier [.ref (w.2.1 + 101), .ref (w.2.1 + 1), .int x2] S S (some (.int v)) := fun v h => J.ct (av := [.ref (w.2.1 + 101), .ref (w.2.1 + 1), .int x2]) (Nat.le_of_ble_eq_true rfl) pn_1 (m_X1_nearEarlier l w x2 S ) h
abbrev I_X1_gather : MI := (yX1_gather, cX1_gather, 3, none, { frames := 3, cells := 0, slots := 0, locals := 68 })
theorem dX1_gather_0 : decode cX1_gather 0 = .ok (.aload_n 0, 1) := by decide +kernel
theorem dX1_gather_1 : decode cX1_gather 1 = .ok (.aload_n 1, 1) := by decide +kernel
theorem dX1_gather_2 : decode cX1_gather 2 = .ok (.getfield 34, 3) := by decide +kernel
theorem dX1_gather_5 : decode cX1_gather 5 = .ok (.putfield 40, 3) := by decide +kernel
theorem dX1_gather_8 : decode cX1_gather 8 = .ok (.aload_n 0, 1) := by decide +kernel
theorem dX1_gather_9 : decode cX1_gather 9 = .ok (.iconst 0, 1) := by decide +kernel
theorem dX1_gather_10 : decode cX1_gather 10 = .ok (.putfield 41, 3) := by decide +kernel
theorem dX1_gather_13 : decode cX1_gather 13 = .ok (.iconst 0, 1) := by decide +kernel
theorem dX1_gather_14 : decode cX1_gather 14 = .ok (.istore_n 2, 1) := by decide +kernel
theorem dX1_gather_15 : decode cX1_gather 15 = .ok (.iload_n 2, 1) := by decide +kernel
theorem dX1_gather_16 : decode cX1_gather 16 = .ok (.bipush 12, 2) := by decide +kernel
theorem dX1_gather_18 : decode cX1_gather 18 = .ok (.if_icmp .ge 57, 3) := by decide +kernel
theorem dX1_gather_21 : decode cX1_gather 21 = .ok (.aload_n 1, 1) := by decide +kernel
theorem dX1_gather_22 : decode cX1_gather 22 = .ok (.getfield 44, 3) := by decide +kernel
theorem dX1_gather_25 : decode cX1_gather 25 = .ok (.iload_n 2, 1) := by decide +kernel
theorem dX1_gather_26 : decode cX1_gather 26 = .ok (.aaload, 1) := by decide +kernel
theorem dX1_gather_27 : decode cX1_gather 27 = .ok (.getfield 48, 3) := by decide +kernel
theorem dX1_gather_30 : decode cX1_gather 30 = .ok (.iconst 1, 1) := by decide +kernel
theorem dX1_gather_31 : decode cX1_gather 31 = .ok (.if_icmp .ne 38, 3) := by decide +kernel
theorem dX1_gather_34 : decode cX1_gather 34 = .ok (.aload_n 0, 1) := by decide +kernel
theorem dX1_gather_35 : decode cX1_gather 35 = .ok (.getfield 9, 3) := by decide +kernel
theorem dX1_gather_38 : decode cX1_gather 38 = .ok (.aload_n 0, 1) := by decide +kernel
theorem dX1_gather_39 : decode cX1_gather 39 = .ok (.getfield 41, 3) := by decide +kernel
theorem dX1_gather_42 : decode cX1_gather 42 = .ok (.iload_n 2, 1) := by decide +kernel
theorem dX1_gather_43 : decode cX1_gather 43 = .ok (.iastore, 1) := by decide +kernel
theorem dX1_gather_44 : decode cX1_gather 44 = .ok (.aload_n 0, 1) := by decide +kernel
theorem dX1_gather_45 : decode cX1_gather 45 = .ok (.getfield 15, 3) := by decide +kernel
theorem dX1_gather_48 : decode cX1_gather 48 = .ok (.aload_n 0, 1) := by decide +kernel
theorem dX1_gather_49 : decode cX1_gather 49 = .ok (.getfield 41, 3) := by decide +kernel
theorem dX1_gather_52 : decode cX1_gather 52 = .ok (.aload_n 0, 1) := by decide +kernel
theorem dX1_gather_53 : decode cX1_gather 53 = .ok (.aload_n 1, 1) := by decide +kernel
theorem dX1_gather_54 : decode cX1_gather 54 = .ok (.iload_n 2, 1) := by decide +kernel
theorem dX1_gather_55 : decode cX1_gather 55 = .ok (.invokevirtual 53, 3) := by decide +kernel
theorem dX1_gather_58 : decode cX1_gather 58 = .ok (.iastore, 1) := by decide +kernel
theorem dX1_gather_59 : decode cX1_gather 59 = .ok (.aload_n 0, 1) := by decide +kernel
theorem dX1_gather_60 : decode cX1_gather 60 = .ok (.dup, 1) := by decide +kernel
theorem dX1_gather_61 : decode cX1_gather 61 = .ok (.getfield 41, 3) := by decide +kernel
theorem dX1_gather_64 : decode cX1_gather 64 = .ok (.iconst 1, 1) := by decide +kernel
theorem dX1_gather_65 : decode cX1_gather 65 = .ok (.iadd, 1) := by decide +kernel
theorem dX1_gather_66 : decode cX1_gather 66 = .ok (.putfield 41, 3) := by decide +kernel
theorem dX1_gather_69 : decode cX1_gather 69 = .ok (.iinc 2 1, 3) := by decide +kernel
theorem dX1_gather_72 : decode cX1_gather 72 = .ok (.goto (-57), 3) := by decide +kernel
theorem dX1_gather_75 : decode cX1_gather 75 = .ok (.return_, 1) := by decide +kernel
theorem cv_1_53 : CV RX1 53 2 1 I_X1_nearEarlier := ⟨⟨⟨gm 726 (by decide +kernel) rfl, gm 729 (by decide +kernel) rfl, gm 43 (by decide +kernel) rfl, mh_1.1, mh_1.2, by decide +kernel⟩, gm 727 (by decide +kernel) rfl, gm 728 (by decide +kernel) rfl⟩, ⟨_, _, rfl⟩, rfl, rfl⟩
def f_X1_gather_L15 (fuel : Nat) (K : St → Option (St)) (a15_2 : Int32) (S15 : St) : Option (St) := match fuel with
  | 0 => none
  | n + 1 => if a15_2 < (12 : Int32) then (if inb a15_2 12 = true then (if (rd S15 (20 + 2 * ix a15_2) 2) = (1 : Int32) then (if inb (rd S15 101 2) 12 = true then ((f_X1_nearEarlier a15_2 (wr S15 102 (ix (rd S15 101 2)) a15_2)).bind fun v55 => (if inb (rd (wr S15 102 (ix (rd S15 101 2)) a15_2) 101 2) 12 = true then (f_X1_gather_L15 n K (a15_2 + (1 : Int32)) (wr (wr (wr S15 102 (ix (rd S15 101 2)) a15_2) 103 (ix (rd (wr S15 102 (ix (rd S15 101 2)) a15_2) 101 2)) v55) 101 2 ((rd (wr (wr S15 102 (ix (rd S15 101 2)) a15_2) 103 (ix (rd (wr S15 102 (ix (rd S15 101 2)) a15_2) 101 2)) v55) 101 2) + (1 : Int32)))) else none)) else none) else (f_X1_gather_L15 n K (a15_2 + (1 : Int32)) S15)) else none) else (K S15)
def f_X1_gather  (S : St) : Option (St) := f_X1_gather_L15 6000 (fun T75 => (some T75)) (0 : Int32) (wr (wr S 101 3 (rd S 1 1)) 101 2 (0 : Int32))
set_option maxRecDepth 100000 in
theorem jl_X1_gather_15 (l : Launch) (w : Wd) (K : St → Option (St)) (n : Nat) : ∀ (a15_2 : Int32) (S15 : St), (∀  (S' : St) , J l w I_X1_gather 75 [] [] S' (fun b => (none, b)) (K  S')) → J l w I_X1_gather 15 [(0, .ref (w.2.1 + 101)), (1, .ref (w.2.1 + 1)), (2, .int a15_2)] [] S15 (fun b => (none, b)) (f_X1_gather_L15 n K a15_2 S15) := by
  induction n with
  | zero =>
    intro a15_2 S15 hK b h
    simp only [f_X1_gather_L15] at h
    cases h
  | succ n ih =>
    intro a15_2 S15 hK
    rw [f_X1_gather_L15]
    refine j_iload_n (y := I_X1_gather) 2 dX1_gather_15 rfl rfl ?_
    refine j_bipush (y := I_X1_gather) (v := 12) dX1_gather_16 (by decide) ?_
    refine j_icmp_ge (y := I_X1_gather) 75 dX1_gather_18 (by decide) (fun h18 => ?_) (fun h18 => ?_)
    · refine j_sub [] rfl ?_
      exact hK S15
    · refine j_aload_n (y := I_X1_gather) 1 dX1_gather_21 rfl rfl ?_
      refine j_getR (y := I_X1_gather) (j := 3) fl_1_44 k_1 rfl rfl dX1_gather_22 ?_
      refine j_iload_n (y := I_X1_gather) 2 dX1_gather_25 rfl rfl ?_
      refine j_aald (y := I_X1_gather) (j := (20 + 2 * ix a15_2)) (tt := 1) k_3 rfl (rho_3 _) dX1_gather_26 (fun h26 => ?_)
      refine j_getI (y := I_X1_gather) fl_1_48 (kd_Pl _ (inb_lt h26)) rfl dX1_gather_27 ?_
      refine j_iconst (y := I_X1_gather) (v := 1) dX1_gather_30 (by decide) ?_
      refine j_icmp_ne (y := I_X1_gather) 69 dX1_gather_31 (by decide) (fun h31 => ?_) (fun h31 => ?_)
      · refine j_iinc (y := I_X1_gather) 2 (ls' := [(2, .int (a15_2 + (1 : Int32))), (0, .ref (w.2.1 + 101)), (1, .ref (w.2.1 + 1))]) dX1_gather_69 rfl (ii _ _ (by decide) _) (by decide) rfl ?_
        refine j_goto (y := I_X1_gather) 15 dX1_gather_72 (by decide) ?_
        refine j_sub [1, 2, 0] rfl ?_
        exact ih (a15_2 + (1 : Int32)) S15 hK
      · refine j_aload_n (y := I_X1_gather) 0 dX1_gather_34 rfl rfl ?_
        refine j_getR (y := I_X1_gather) (j := 102) fl_1_9 k_101 rfl rfl dX1_gather_35 ?_
        refine j_aload_n (y := I_X1_gather) 0 dX1_gather_38 rfl rfl ?_
        refine j_getI (y := I_X1_gather) fl_1_41 k_101 rfl dX1_gather_39 ?_
        refine j_iload_n (y := I_X1_gather) 2 dX1_gather_42 rfl rfl ?_
        refine j_iast (y := I_X1_gather) k_102 dX1_gather_43 (fun h43 => ?_)
        refine j_aload_n (y := I_X1_gather) 0 dX1_gather_44 rfl rfl ?_
        refine j_getR (y := I_X1_gather) (j := 103) fl_1_15 k_101 rfl rfl dX1_gather_45 ?_
        refine j_aload_n (y := I_X1_gather) 0 dX1_gather_48 rfl rfl ?_
        refine j_getI (y := I_X1_gather) fl_1_41 k_101 rfl dX1_gather_49 ?_
        refine j_aload_n (y := I_X1_gather) 0 dX1_gather_52 rfl rfl ?_
        refine j_aload_n (y := I_X1_gather) 1 dX1_gather_53 rfl rfl ?_
        refine j_iload_n (y := I_X1_gather) 2 dX1_gather_54 rfl rfl ?_
        refine j_callViR (y := I_X1_gather) (As := [.ref (w.2.1 + 1), .int a15_2]) cv_1_53 ⟨Nat.le_of_ble_eq_true rfl, Nat.le_of_ble_eq_true rfl⟩ k_101 rfl (Nat.le_of_ble_eq_true rfl) dX1_gather_55 (c_X1_nearEarlier l w a15_2 (wr S15 102 (ix (rd S15 101 2)) a15_2)) (fun v55 h55 => ?_)
        refine j_iast (y := I_X1_gather) k_103 dX1_gather_58 (fun h58 => ?_)
        refine j_aload_n (y := I_X1_gather) 0 dX1_gather_59 rfl rfl ?_
        refine j_dup (y := I_X1_gather) dX1_gather_60 rfl ?_
        refine j_getI (y := I_X1_gather) fl_1_41 k_101 rfl dX1_gather_61 ?_
        refine j_iconst (y := I_X1_gather) (v := 1) dX1_gather_64 (by decide) ?_
        refine j_iadd (y := I_X1_gather) dX1_gather_65 ?_
        refine j_putI (y := I_X1_gather) fp_1_41 k_101 rfl rfl rfl dX1_gather_66 ?_
        refine j_iinc (y := I_X1_gather) 2 (ls' := [(2, .int (a15_2 + (1 : Int32))), (0, .ref (w.2.1 + 101)), (1, .ref (w.2.1 + 1))]) dX1_gather_69 rfl (ii _ _ (by decide) _) (by decide) rfl ?_
        refine j_goto (y := I_X1_gather) 15 dX1_gather_72 (by decide) ?_
        refine j_sub [1, 2, 0] rfl ?_
        exact ih (a15_2 + (1 : Int32)) (wr (wr (wr S15 102 (ix (rd S15 101 2)) a15_2) 103 (ix (rd (wr S15 102 (ix (rd S15 101 2)) a15_2) 101 2)) v55) 101 2 ((rd (wr (wr S15 102 (ix (rd S15 101 2)) a15_2) 103 (ix (rd (wr S15 102 (ix (rd S15 101 2)) a15_2) 101 2)) v55) 101 2) + (1 : Int32))) hK
set_option maxRecDepth 100000 in
set_option maxHeartbeats 4000000 in
theorem m_X1_gather (l : Launch) (w : Wd)  (S : St)  : J l w I_X1_gather 0 [(0, .ref (w.2.1 + 101)), (1, .ref (w.2.1 + 1))] [] S (fun b => (none, b)) (f_X1_gather S) := by
  unfold f_X1_gather
  refine j_aload_n (y := I_X1_gather) 0 dX1_gather_0 rfl rfl ?_
  refine j_aload_n (y := I_X1_gather) 1 dX1_gather_1 rfl rfl ?_
  refine j_getI (y := I_X1_gather) fl_1_34 k_1 rfl dX1_gather_2 ?_
  refine j_putI (y := I_X1_gather) fp_1_40 k_101 rfl rfl rfl dX1_gather_5 ?_
  refine j_aload_n (y := I_X1_gather) 0 dX1_gather_8 rfl rfl ?_
  refine j_iconst (y := I_X1_gather) (v := 0) dX1_gather_9 (by decide) ?_
  refine j_putI (y := I_X1_gather) fp_1_41 k_101 rfl rfl rfl dX1_gather_10 ?_
  refine j_iconst (y := I_X1_gather) (v := 0) dX1_gather_13 (by decide) ?_
  refine j_istore_n (y := I_X1_gather) (ls' := [(2, .int (0 : Int32)), (0, .ref (w.2.1 + 101)), (1, .ref (w.2.1 + 1))]) dX1_gather_14 rfl (by decide) rfl ?_
  refine j_sub [1, 2, 0] rfl ?_
  refine jl_X1_gather_15 l w _ 6000 (0 : Int32) (wr (wr S 101 3 (rd S 1 1)) 101 2 (0 : Int32))  (fun T75 => ?_)
  exact j_vret (y := I_X1_gather) rfl dX1_gather_75 rfl
theorem c_X1_gather (l : Launch) (w : Wd)  (S : St)  : ∀ v, f_X1_gather S = some v → CtS l w I_X1_gather [.ref (w.2.1 + 101), .ref (w.2.1 + 1)] S v none := fun v h => J.ct (av := [.ref (w.2.1 + 101), .ref (w.2.1 + 1)]) (Nat.le_of_ble_eq_true rfl) pn_1 (m_X1_gather l w  S ) h
abbrev I_X1_weighSorts : MI := (yX1_weighSorts, cX1_weighSorts, 6, none, { frames := 2, cells := 0, slots := 0, locals := 43 })
theorem dX1_weighSorts_0 : decode cX1_weighSorts 0 = .ok (.iconst 0, 1) := by decide +kernel
theorem dX1_weighSorts_1 : decode cX1_weighSorts 1 = .ok (.istore_n 3, 1) := by decide +kernel
theorem dX1_weighSorts_2 : decode cX1_weighSorts 2 = .ok (.iload_n 3, 1) := by decide +kernel
theorem dX1_weighSorts_3 : decode cX1_weighSorts 3 = .ok (.aload_n 0, 1) := by decide +kernel
theorem dX1_weighSorts_4 : decode cX1_weighSorts 4 = .ok (.getfield 40, 3) := by decide +kernel
theorem dX1_weighSorts_7 : decode cX1_weighSorts 7 = .ok (.if_icmp .ge 96, 3) := by decide +kernel
theorem dX1_weighSorts_10 : decode cX1_weighSorts 10 = .ok (.iconst 0, 1) := by decide +kernel
theorem dX1_weighSorts_11 : decode cX1_weighSorts 11 = .ok (.istore 4, 2) := by decide +kernel
theorem dX1_weighSorts_13 : decode cX1_weighSorts 13 = .ok (.iload 4, 2) := by decide +kernel
theorem dX1_weighSorts_15 : decode cX1_weighSorts 15 = .ok (.aload_n 0, 1) := by decide +kernel
theorem dX1_weighSorts_16 : decode cX1_weighSorts 16 = .ok (.getfield 40, 3) := by decide +kernel
theorem dX1_weighSorts_19 : decode cX1_weighSorts 19 = .ok (.if_icmp .ge 78, 3) := by decide +kernel
theorem dX1_weighSorts_22 : decode cX1_weighSorts 22 = .ok (.aload_n 1, 1) := by decide +kernel
theorem dX1_weighSorts_23 : decode cX1_weighSorts 23 = .ok (.getfield 75, 3) := by decide +kernel
theorem dX1_weighSorts_26 : decode cX1_weighSorts 26 = .ok (.iload_n 3, 1) := by decide +kernel
theorem dX1_weighSorts_27 : decode cX1_weighSorts 27 = .ok (.aaload, 1) := by decide +kernel
theorem dX1_weighSorts_28 : decode cX1_weighSorts 28 = .ok (.iload 4, 2) := by decide +kernel
theorem dX1_weighSorts_30 : decode cX1_weighSorts 30 = .ok (.invokevirtual 79, 3) := by decide +kernel
theorem dX1_weighSorts_33 : decode cX1_weighSorts 33 = .ok (.ifCond .eq 7, 3) := by decide +kernel
theorem dX1_weighSorts_36 : decode cX1_weighSorts 36 = .ok (.iconst 1, 1) := by decide +kernel
theorem dX1_weighSorts_37 : decode cX1_weighSorts 37 = .ok (.goto 4, 3) := by decide +kernel
theorem dX1_weighSorts_40 : decode cX1_weighSorts 40 = .ok (.iconst 0, 1) := by decide +kernel
theorem dX1_weighSorts_41 : decode cX1_weighSorts 41 = .ok (.aload_n 1, 1) := by decide +kernel
theorem dX1_weighSorts_42 : decode cX1_weighSorts 42 = .ok (.getfield 75, 3) := by decide +kernel
theorem dX1_weighSorts_45 : decode cX1_weighSorts 45 = .ok (.iload 4, 2) := by decide +kernel
theorem dX1_weighSorts_47 : decode cX1_weighSorts 47 = .ok (.aaload, 1) := by decide +kernel
theorem dX1_weighSorts_48 : decode cX1_weighSorts 48 = .ok (.iload_n 3, 1) := by decide +kernel
theorem dX1_weighSorts_49 : decode cX1_weighSorts 49 = .ok (.invokevirtual 79, 3) := by decide +kernel
theorem dX1_weighSorts_52 : decode cX1_weighSorts 52 = .ok (.ifCond .eq 7, 3) := by decide +kernel
theorem dX1_weighSorts_55 : decode cX1_weighSorts 55 = .ok (.iconst 1, 1) := by decide +kernel
theorem dX1_weighSorts_56 : decode cX1_weighSorts 56 = .ok (.goto 4, 3) := by decide +kernel
theorem dX1_weighSorts_59 : decode cX1_weighSorts 59 = .ok (.iconst 0, 1) := by decide +kernel
theorem dX1_weighSorts_60 : decode cX1_weighSorts 60 = .ok (.iadd, 1) := by decide +kernel
theorem dX1_weighSorts_61 : decode cX1_weighSorts 61 = .ok (.istore 5, 2) := by decide +kernel
theorem dX1_weighSorts_63 : decode cX1_weighSorts 63 = .ok (.aload_n 0, 1) := by decide +kernel
theorem dX1_weighSorts_64 : decode cX1_weighSorts 64 = .ok (.getfield 27, 3) := by decide +kernel
theorem dX1_weighSorts_67 : decode cX1_weighSorts 67 = .ok (.iload_n 3, 1) := by decide +kernel
theorem dX1_weighSorts_68 : decode cX1_weighSorts 68 = .ok (.bipush 6, 2) := by decide +kernel
theorem dX1_weighSorts_70 : decode cX1_weighSorts 70 = .ok (.imul, 1) := by decide +kernel
theorem dX1_weighSorts_71 : decode cX1_weighSorts 71 = .ok (.iload 4, 2) := by decide +kernel
theorem dX1_weighSorts_73 : decode cX1_weighSorts 73 = .ok (.iadd, 1) := by decide +kernel
theorem dX1_weighSorts_74 : decode cX1_weighSorts 74 = .ok (.aload_n 2, 1) := by decide +kernel
theorem dX1_weighSorts_75 : decode cX1_weighSorts 75 = .ok (.iload_n 3, 1) := by decide +kernel
theorem dX1_weighSorts_76 : decode cX1_weighSorts 76 = .ok (.iload 4, 2) := by decide +kernel
theorem dX1_weighSorts_78 : decode cX1_weighSorts 78 = .ok (.invokevirtual 85, 3) := by decide +kernel
theorem dX1_weighSorts_81 : decode cX1_weighSorts 81 = .ok (.ifCond .eq 8, 3) := by decide +kernel
theorem dX1_weighSorts_84 : decode cX1_weighSorts 84 = .ok (.iload 5, 2) := by decide +kernel
theorem dX1_weighSorts_86 : decode cX1_weighSorts 86 = .ok (.goto 4, 3) := by decide +kernel
theorem dX1_weighSorts_89 : decode cX1_weighSorts 89 = .ok (.iconst 0, 1) := by decide +kernel
theorem dX1_weighSorts_90 : decode cX1_weighSorts 90 = .ok (.iastore, 1) := by decide +kernel
theorem dX1_weighSorts_91 : decode cX1_weighSorts 91 = .ok (.iinc 4 1, 3) := by decide +kernel
theorem dX1_weighSorts_94 : decode cX1_weighSorts 94 = .ok (.goto (-81), 3) := by decide +kernel
theorem dX1_weighSorts_97 : decode cX1_weighSorts 97 = .ok (.iinc 3 1, 3) := by decide +kernel
theorem dX1_weighSorts_100 : decode cX1_weighSorts 100 = .ok (.goto (-98), 3) := by decide +kernel
theorem dX1_weighSorts_103 : decode cX1_weighSorts 103 = .ok (.return_, 1) := by decide +kernel
theorem cv_1_79 : CV RX1 79 1 5 I_X5_accepts := ⟨⟨⟨gm 739 (by decide +kernel) rfl, gm 354 (by decide +kernel) rfl, gm 39 (by decide +kernel) rfl, mh_5.1, mh_5.2, by decide +kernel⟩, gm 352 (by decide +kernel) rfl, gm 353 (by decide +kernel) rfl⟩, ⟨_, _, rfl⟩, rfl, rfl⟩
theorem cv_1_85 : CV RX1 85 2 3 I_X3_bloomTogether := ⟨⟨⟨gm 740 (by decide +kernel) rfl, gm 716 (by decide +kernel) rfl, gm 42 (by decide +kernel) rfl, mh_3.1, mh_3.2, by decide +kernel⟩, gm 714 (by decide +kernel) rfl, gm 715 (by decide +kernel) rfl⟩, ⟨_, _, rfl⟩, rfl, rfl⟩
def f_X1_weighSorts_L13 (fuel : Nat) (K : Int32 → St → Option (St)) (a13_3 : Int32) (a13_4 : Int32) (S13 : St) : Option (St) := match fuel with
  | 0 => none
  | n + 1 => if a13_4 < (rd S13 101 3) then (if inb a13_3 6 = true then (if (f_X5_accepts (8 + 2 * ix a13_3) a13_4 S13) = true then (if inb a13_4 6 = true then (if (f_X5_accepts (8 + 2 * ix a13_4) a13_3 S13) = true then ((f_X3_bloomTogether a13_3 a13_4 S13).bind fun v78 => (if v78 = true then (if inb ((a13_3 * (6 : Int32)) + a13_4) 36 = true then (f_X1_weighSorts_L13 n K a13_3 (a13_4 + (1 : Int32)) (wr S13 107 (ix ((a13_3 * (6 : Int32)) + a13_4)) ((1 : Int32) + (1 : Int32)))) else none) else (if inb ((a13_3 * (6 : Int32)) + a13_4) 36 = true then (f_X1_weighSorts_L13 n K a13_3 (a13_4 + (1 : Int32)) (wr S13 107 (ix ((a13_3 * (6 : Int32)) + a13_4)) (0 : Int32))) else none))) else ((f_X3_bloomTogether a13_3 a13_4 S13).bind fun v78 => (if v78 = true then (if inb ((a13_3 * (6 : Int32)) + a13_4) 36 = true then (f_X1_weighSorts_L13 n K a13_3 (a13_4 + (1 : Int32)) (wr S13 107 (ix ((a13_3 * (6 : Int32)) + a13_4)) ((1 : Int32) + (0 : Int32)))) else none) else (if inb ((a13_3 * (6 : Int32)) + a13_4) 36 = true then (f_X1_weighSorts_L13 n K a13_3 (a13_4 + (1 : Int32)) (wr S13 107 (ix ((a13_3 * (6 : Int32)) + a13_4)) (0 : Int32))) else none)))) else none) else (if inb a13_4 6 = true then (if (f_X5_accepts (8 + 2 * ix a13_4) a13_3 S13) = true then ((f_X3_bloomTogether a13_3 a13_4 S13).bind fun v78 => (if v78 = true then (if inb ((a13_3 * (6 : Int32)) + a13_4) 36 = true then (f_X1_weighSorts_L13 n K a13_3 (a13_4 + (1 : Int32)) (wr S13 107 (ix ((a13_3 * (6 : Int32)) + a13_4)) ((0 : Int32) + (1 : Int32)))) else none) else (if inb ((a13_3 * (6 : Int32)) + a13_4) 36 = true then (f_X1_weighSorts_L13 n K a13_3 (a13_4 + (1 : Int32)) (wr S13 107 (ix ((a13_3 * (6 : Int32)) + a13_4)) (0 : Int32))) else none))) else ((f_X3_bloomTogether a13_3 a13_4 S13).bind fun v78 => (if v78 = true then (if inb ((a13_3 * (6 : Int32)) + a13_4) 36 = true then (f_X1_weighSorts_L13 n K a13_3 (a13_4 + (1 : Int32)) (wr S13 107 (ix ((a13_3 * (6 : Int32)) + a13_4)) ((0 : Int32) + (0 : Int32)))) else none) else (if inb ((a13_3 * (6 : Int32)) + a13_4) 36 = true then (f_X1_weighSorts_L13 n K a13_3 (a13_4 + (1 : Int32)) (wr S13 107 (ix ((a13_3 * (6 : Int32)) + a13_4)) (0 : Int32))) else none)))) else none)) else none) else (K a13_3 S13)
def f_X1_weighSorts_L2 (fuel : Nat) (K : St → Option (St)) (a2_3 : Int32) (S2 : St) : Option (St) := match fuel with
  | 0 => none
  | n + 1 => if a2_3 < (rd S2 101 3) then (f_X1_weighSorts_L13 6000 (fun e97_3 T97 => (f_X1_weighSorts_L2 n K (e97_3 + (1 : Int32)) T97)) a2_3 (0 : Int32) S2) else (K S2)
def f_X1_weighSorts  (S : St) : Option (St) := f_X1_weighSorts_L2 6000 (fun T103 => (some T103)) (0 : Int32) S
set_option maxRecDepth 100000 in
theorem jl_X1_weighSorts_13 (l : Launch) (w : Wd) (K : Int32 → St → Option (St)) (n : Nat) : ∀ (a13_3 : Int32) (a13_4 : Int32) (S13 : St), (∀ (e97_3 : Int32) (S' : St) , J l w I_X1_weighSorts 97 [(0, .ref (w.2.1 + 101)), (1, .ref (w.2.1 + 1)), (2, .ref (w.2.1 + 96)), (3, .int e97_3)] [] S' (fun b => (none, b)) (K e97_3 S')) → J l w I_X1_weighSorts 13 [(0, .ref (w.2.1 + 101)), (1, .ref (w.2.1 + 1)), (2, .ref (w.2.1 + 96)), (3, .int a13_3), (4, .int a13_4)] [] S13 (fun b => (none, b)) (f_X1_weighSorts_L13 n K a13_3 a13_4 S13) := by
  induction n with
  | zero =>
    intro a13_3 a13_4 S13 hK b h
    simp only [f_X1_weighSorts_L13] at h
    cases h
  | succ n ih =>
    intro a13_3 a13_4 S13 hK
    rw [f_X1_weighSorts_L13]
    refine j_iload (y := I_X1_weighSorts) 4 dX1_weighSorts_13 rfl ?_
    refine j_aload_n (y := I_X1_weighSorts) 0 dX1_weighSorts_15 rfl rfl ?_
    refine j_getI (y := I_X1_weighSorts) fl_1_40 k_101 rfl dX1_weighSorts_16 ?_
    refine j_icmp_ge (y := I_X1_weighSorts) 97 dX1_weighSorts_19 (by decide) (fun h19 => ?_) (fun h19 => ?_)
    · refine j_sub [0, 1, 2, 3] rfl ?_
      exact hK a13_3 S13
    · refine j_aload_n (y := I_X1_weighSorts) 1 dX1_weighSorts_22 rfl rfl ?_
      refine j_getR (y := I_X1_weighSorts) (j := 2) fl_1_75 k_1 rfl rfl dX1_weighSorts_23 ?_
      refine j_iload_n (y := I_X1_weighSorts) 3 dX1_weighSorts_26 rfl rfl ?_
      refine j_aald (y := I_X1_weighSorts) (j := (8 + 2 * ix a13_3)) (tt := 0) k_2 rfl (rho_2 _) dX1_weighSorts_27 (fun h27 => ?_)
      refine j_iload (y := I_X1_weighSorts) 4 dX1_weighSorts_28 rfl ?_
      refine j_callVzT (y := I_X1_weighSorts) (As := [.int a13_4]) cv_1_79 ⟨Nat.le_of_ble_eq_true rfl, Nat.le_of_ble_eq_true rfl⟩ (kd_So _ (inb_lt h27)) rfl (Nat.le_of_ble_eq_true rfl) dX1_weighSorts_30 (c_X5_accepts l w (8 + 2 * ix a13_3) a13_4 S13 (kd_So _ (inb_lt h27))) ?_
      refine j_if_eqB (y := I_X1_weighSorts) 40 dX1_weighSorts_33 (by decide) (fun h33 => ?_) (fun h33 => ?_)
      · refine j_iconst (y := I_X1_weighSorts) (v := 0) dX1_weighSorts_40 (by decide) ?_
        refine j_aload_n (y := I_X1_weighSorts) 1 dX1_weighSorts_41 rfl rfl ?_
        refine j_getR (y := I_X1_weighSorts) (j := 2) fl_1_75 k_1 rfl rfl dX1_weighSorts_42 ?_
        refine j_iload (y := I_X1_weighSorts) 4 dX1_weighSorts_45 rfl ?_
        refine j_aald (y := I_X1_weighSorts) (j := (8 + 2 * ix a13_4)) (tt := 0) k_2 rfl (rho_2 _) dX1_weighSorts_47 (fun h47 => ?_)
        refine j_iload_n (y := I_X1_weighSorts) 3 dX1_weighSorts_48 rfl rfl ?_
        refine j_callVzT (y := I_X1_weighSorts) (As := [.int a13_3]) cv_1_79 ⟨Nat.le_of_ble_eq_true rfl, Nat.le_of_ble_eq_true rfl⟩ (kd_So _ (inb_lt h47)) rfl (Nat.le_of_ble_eq_true rfl) dX1_weighSorts_49 (c_X5_accepts l w (8 + 2 * ix a13_4) a13_3 S13 (kd_So _ (inb_lt h47))) ?_
        refine j_if_eqB (y := I_X1_weighSorts) 59 dX1_weighSorts_52 (by decide) (fun h52 => ?_) (fun h52 => ?_)
        · refine j_iconst (y := I_X1_weighSorts) (v := 0) dX1_weighSorts_59 (by decide) ?_
          refine j_iadd (y := I_X1_weighSorts) dX1_weighSorts_60 ?_
          refine j_istore (y := I_X1_weighSorts) (ls' := [(5, .int ((0 : Int32) + (0 : Int32))), (0, .ref (w.2.1 + 101)), (1, .ref (w.2.1 + 1)), (2, .ref (w.2.1 + 96)), (3, .int a13_3), (4, .int a13_4)]) dX1_weighSorts_61 (by decide) rfl ?_
          refine j_aload_n (y := I_X1_weighSorts) 1 dX1_weighSorts_63 rfl rfl ?_
          refine j_getR (y := I_X1_weighSorts) (j := 107) fl_1_27 k_101 rfl rfl dX1_weighSorts_64 ?_
          refine j_iload_n (y := I_X1_weighSorts) 4 dX1_weighSorts_67 rfl rfl ?_
          refine j_bipush (y := I_X1_weighSorts) (v := 6) dX1_weighSorts_68 (by decide) ?_
          refine j_imul (y := I_X1_weighSorts) dX1_weighSorts_70 ?_
          refine j_iload (y := I_X1_weighSorts) 5 dX1_weighSorts_71 rfl ?_
          refine j_iadd (y := I_X1_weighSorts) dX1_weighSorts_73 ?_
          refine j_aload_n (y := I_X1_weighSorts) 3 dX1_weighSorts_74 rfl rfl ?_
          refine j_iload_n (y := I_X1_weighSorts) 4 dX1_weighSorts_75 rfl rfl ?_
          refine j_iload (y := I_X1_weighSorts) 5 dX1_weighSorts_76 rfl ?_
          refine j_callVzR (y := I_X1_weighSorts) (As := [.int a13_3, .int a13_4]) cv_1_85 ⟨Nat.le_of_ble_eq_true rfl, Nat.le_of_ble_eq_true rfl⟩ k_96 rfl (Nat.le_of_ble_eq_true rfl) dX1_weighSorts_78 (c_X3_bloomTogether l w a13_3 a13_4 S13) (fun v78 h78 => ?_)
          refine j_if_eqB (y := I_X1_weighSorts) 89 dX1_weighSorts_81 (by decide) (fun h81 => ?_) (fun h81 => ?_)
          · refine j_iconst (y := I_X1_weighSorts) (v := 0) dX1_weighSorts_89 (by decide) ?_
            refine j_iast (y := I_X1_weighSorts) k_107 dX1_weighSorts_90 (fun h90 => ?_)
            refine j_iinc (y := I_X1_weighSorts) 5 (ls' := [(4, .int (a13_4 + (1 : Int32))), (5, .int ((0 : Int32) + (0 : Int32))), (0, .ref (w.2.1 + 101)), (1, .ref (w.2.1 + 1)), (2, .ref (w.2.1 + 96)), (3, .int a13_3)]) dX1_weighSorts_91 rfl (ii _ _ (by decide) _) (by decide) rfl ?_
            refine j_goto (y := I_X1_weighSorts) 13 dX1_weighSorts_94 (by decide) ?_
            refine j_sub [2, 3, 4, 5, 0] rfl ?_
            exact ih a13_3 (a13_4 + (1 : Int32)) (wr S13 107 (ix ((a13_3 * (6 : Int32)) + a13_4)) (0 : Int32)) hK
          · refine j_iload (y := I_X1_weighSorts) 0 dX1_weighSorts_84 rfl ?_
            refine j_goto (y := I_X1_weighSorts) 90 dX1_weighSorts_86 (by decide) ?_
            refine j_iast (y := I_X1_weighSorts) k_107 dX1_weighSorts_90 (fun h90 => ?_)
            refine j_iinc (y := I_X1_weighSorts) 5 (ls' := [(4, .int (a13_4 + (1 : Int32))), (5, .int ((0 : Int32) + (0 : Int32))), (0, .ref (w.2.1 + 101)), (1, .ref (w.2.1 + 1)), (2, .ref (w.2.1 + 96)), (3, .int a13_3)]) dX1_weighSorts_91 rfl (ii _ _ (by decide) _) (by decide) rfl ?_
            refine j_goto (y := I_X1_weighSorts) 13 dX1_weighSorts_94 (by decide) ?_
            refine j_sub [2, 3, 4, 5, 0] rfl ?_
            exact ih a13_3 (a13_4 + (1 : Int32)) (wr S13 107 (ix ((a13_3 * (6 : Int32)) + a13_4)) ((0 : Int32) + (0 : Int32))) hK
        · refine j_iconst (y := I_X1_weighSorts) (v := 1) dX1_weighSorts_55 (by decide) ?_
          refine j_goto (y := I_X1_weighSorts) 60 dX1_weighSorts_56 (by decide) ?_
          refine j_iadd (y := I_X1_weighSorts) dX1_weighSorts_60 ?_
          refine j_istore (y := I_X1_weighSorts) (ls' := [(5, .int ((0 : Int32) + (1 : Int32))), (0, .ref (w.2.1 + 101)), (1, .ref (w.2.1 + 1)), (2, .ref (w.2.1 + 96)), (3, .int a13_3), (4, .int a13_4)]) dX1_weighSorts_61 (by decide) rfl ?_
          refine j_aload_n (y := I_X1_weighSorts) 1 dX1_weighSorts_63 rfl rfl ?_
          refine j_getR (y := I_X1_weighSorts) (j := 107) fl_1_27 k_101 rfl rfl dX1_weighSorts_64 ?_
          refine j_iload_n (y := I_X1_weighSorts) 4 dX1_weighSorts_67 rfl rfl ?_
          refine j_bipush (y := I_X1_weighSorts) (v := 6) dX1_weighSorts_68 (by decide) ?_
          refine j_imul (y := I_X1_weighSorts) dX1_weighSorts_70 ?_
          refine j_iload (y := I_X1_weighSorts) 5 dX1_weighSorts_71 rfl ?_
          refine j_iadd (y := I_X1_weighSorts) dX1_weighSorts_73 ?_
          refine j_aload_n (y := I_X1_weighSorts) 3 dX1_weighSorts_74 rfl rfl ?_
          refine j_iload_n (y := I_X1_weighSorts) 4 dX1_weighSorts_75 rfl rfl ?_
          refine j_iload (y := I_X1_weighSorts) 5 dX1_weighSorts_76 rfl ?_
          refine j_callVzR (y := I_X1_weighSorts) (As := [.int a13_3, .int a13_4]) cv_1_85 ⟨Nat.le_of_ble_eq_true rfl, Nat.le_of_ble_eq_true rfl⟩ k_96 rfl (Nat.le_of_ble_eq_true rfl) dX1_weighSorts_78 (c_X3_bloomTogether l w a13_3 a13_4 S13) (fun v78 h78 => ?_)
          refine j_if_eqB (y := I_X1_weighSorts) 89 dX1_weighSorts_81 (by decide) (fun h81 => ?_) (fun h81 => ?_)
          · refine j_iconst (y := I_X1_weighSorts) (v := 0) dX1_weighSorts_89 (by decide) ?_
            refine j_iast (y := I_X1_weighSorts) k_107 dX1_weighSorts_90 (fun h90 => ?_)
            refine j_iinc (y := I_X1_weighSorts) 5 (ls' := [(4, .int (a13_4 + (1 : Int32))), (5, .int ((0 : Int32) + (1 : Int32))), (0, .ref (w.2.1 + 101)), (1, .ref (w.2.1 + 1)), (2, .ref (w.2.1 + 96)), (3, .int a13_3)]) dX1_weighSorts_91 rfl (ii _ _ (by decide) _) (by decide) rfl ?_
            refine j_goto (y := I_X1_weighSorts) 13 dX1_weighSorts_94 (by decide) ?_
            refine j_sub [2, 3, 4, 5, 0] rfl ?_
            exact ih a13_3 (a13_4 + (1 : Int32)) (wr S13 107 (ix ((a13_3 * (6 : Int32)) + a13_4)) (0 : Int32)) hK
          · refine j_iload (y := I_X1_weighSorts) 0 dX1_weighSorts_84 rfl ?_
            refine j_goto (y := I_X1_weighSorts) 90 dX1_weighSorts_86 (by decide) ?_
            refine j_iast (y := I_X1_weighSorts) k_107 dX1_weighSorts_90 (fun h90 => ?_)
            refine j_iinc (y := I_X1_weighSorts) 5 (ls' := [(4, .int (a13_4 + (1 : Int32))), (5, .int ((0 : Int32) + (1 : Int32))), (0, .ref (w.2.1 + 101)), (1, .ref (w.2.1 + 1)), (2, .ref (w.2.1 + 96)), (3, .int a13_3)]) dX1_weighSorts_91 rfl (ii _ _ (by decide) _) (by decide) rfl ?_
            refine j_goto (y := I_X1_weighSorts) 13 dX1_weighSorts_94 (by decide) ?_
            refine j_sub [2, 3, 4, 5, 0] rfl ?_
            exact ih a13_3 (a13_4 + (1 : Int32)) (wr S13 107 (ix ((a13_3 * (6 : Int32)) + a13_4)) ((0 : Int32) + (1 : Int32))) hK
      · refine j_iconst (y := I_X1_weighSorts) (v := 1) dX1_weighSorts_36 (by decide) ?_
        refine j_goto (y := I_X1_weighSorts) 41 dX1_weighSorts_37 (by decide) ?_
        refine j_aload_n (y := I_X1_weighSorts) 1 dX1_weighSorts_41 rfl rfl ?_
        refine j_getR (y := I_X1_weighSorts) (j := 2) fl_1_75 k_1 rfl rfl dX1_weighSorts_42 ?_
        refine j_iload (y := I_X1_weighSorts) 4 dX1_weighSorts_45 rfl ?_
        refine j_aald (y := I_X1_weighSorts) (j := (8 + 2 * ix a13_4)) (tt := 0) k_2 rfl (rho_2 _) dX1_weighSorts_47 (fun h47 => ?_)
        refine j_iload_n (y := I_X1_weighSorts) 3 dX1_weighSorts_48 rfl rfl ?_
        refine j_callVzT (y := I_X1_weighSorts) (As := [.int a13_3]) cv_1_79 ⟨Nat.le_of_ble_eq_true rfl, Nat.le_of_ble_eq_true rfl⟩ (kd_So _ (inb_lt h47)) rfl (Nat.le_of_ble_eq_true rfl) dX1_weighSorts_49 (c_X5_accepts l w (8 + 2 * ix a13_4) a13_3 S13 (kd_So _ (inb_lt h47))) ?_
        refine j_if_eqB (y := I_X1_weighSorts) 59 dX1_weighSorts_52 (by decide) (fun h52 => ?_) (fun h52 => ?_)
        · refine j_iconst (y := I_X1_weighSorts) (v := 0) dX1_weighSorts_59 (by decide) ?_
          refine j_iadd (y := I_X1_weighSorts) dX1_weighSorts_60 ?_
          refine j_istore (y := I_X1_weighSorts) (ls' := [(5, .int ((1 : Int32) + (0 : Int32))), (0, .ref (w.2.1 + 101)), (1, .ref (w.2.1 + 1)), (2, .ref (w.2.1 + 96)), (3, .int a13_3), (4, .int a13_4)]) dX1_weighSorts_61 (by decide) rfl ?_
          refine j_aload_n (y := I_X1_weighSorts) 1 dX1_weighSorts_63 rfl rfl ?_
          refine j_getR (y := I_X1_weighSorts) (j := 107) fl_1_27 k_101 rfl rfl dX1_weighSorts_64 ?_
          refine j_iload_n (y := I_X1_weighSorts) 4 dX1_weighSorts_67 rfl rfl ?_
          refine j_bipush (y := I_X1_weighSorts) (v := 6) dX1_weighSorts_68 (by decide) ?_
          refine j_imul (y := I_X1_weighSorts) dX1_weighSorts_70 ?_
          refine j_iload (y := I_X1_weighSorts) 5 dX1_weighSorts_71 rfl ?_
          refine j_iadd (y := I_X1_weighSorts) dX1_weighSorts_73 ?_
          refine j_aload_n (y := I_X1_weighSorts) 3 dX1_weighSorts_74 rfl rfl ?_
          refine j_iload_n (y := I_X1_weighSorts) 4 dX1_weighSorts_75 rfl rfl ?_
          refine j_iload (y := I_X1_weighSorts) 5 dX1_weighSorts_76 rfl ?_
          refine j_callVzR (y := I_X1_weighSorts) (As := [.int a13_3, .int a13_4]) cv_1_85 ⟨Nat.le_of_ble_eq_true rfl, Nat.le_of_ble_eq_true rfl⟩ k_96 rfl (Nat.le_of_ble_eq_true rfl) dX1_weighSorts_78 (c_X3_bloomTogether l w a13_3 a13_4 S13) (fun v78 h78 => ?_)
          refine j_if_eqB (y := I_X1_weighSorts) 89 dX1_weighSorts_81 (by decide) (fun h81 => ?_) (fun h81 => ?_)
          · refine j_iconst (y := I_X1_weighSorts) (v := 0) dX1_weighSorts_89 (by decide) ?_
            refine j_iast (y := I_X1_weighSorts) k_107 dX1_weighSorts_90 (fun h90 => ?_)
            refine j_iinc (y := I_X1_weighSorts) 5 (ls' := [(4, .int (a13_4 + (1 : Int32))), (5, .int ((1 : Int32) + (0 : Int32))), (0, .ref (w.2.1 + 101)), (1, .ref (w.2.1 + 1)), (2, .ref (w.2.1 + 96)), (3, .int a13_3)]) dX1_weighSorts_91 rfl (ii _ _ (by decide) _) (by decide) rfl ?_
            refine j_goto (y := I_X1_weighSorts) 13 dX1_weighSorts_94 (by decide) ?_
            refine j_sub [2, 3, 4, 5, 0] rfl ?_
            exact ih a13_3 (a13_4 + (1 : Int32)) (wr S13 107 (ix ((a13_3 * (6 : Int32)) + a13_4)) (0 : Int32)) hK
          · refine j_iload (y := I_X1_weighSorts) 0 dX1_weighSorts_84 rfl ?_
            refine j_goto (y := I_X1_weighSorts) 90 dX1_weighSorts_86 (by decide) ?_
            refine j_iast (y := I_X1_weighSorts) k_107 dX1_weighSorts_90 (fun h90 => ?_)
            refine j_iinc (y := I_X1_weighSorts) 5 (ls' := [(4, .int (a13_4 + (1 : Int32))), (5, .int ((1 : Int32) + (0 : Int32))), (0, .ref (w.2.1 + 101)), (1, .ref (w.2.1 + 1)), (2, .ref (w.2.1 + 96)), (3, .int a13_3)]) dX1_weighSorts_91 rfl (ii _ _ (by decide) _) (by decide) rfl ?_
            refine j_goto (y := I_X1_weighSorts) 13 dX1_weighSorts_94 (by decide) ?_
            refine j_sub [2, 3, 4, 5, 0] rfl ?_
            exact ih a13_3 (a13_4 + (1 : Int32)) (wr S13 107 (ix ((a13_3 * (6 : Int32)) + a13_4)) ((1 : Int32) + (0 : Int32))) hK
        · refine j_iconst (y := I_X1_weighSorts) (v := 1) dX1_weighSorts_55 (by decide) ?_
          refine j_goto (y := I_X1_weighSorts) 60 dX1_weighSorts_56 (by decide) ?_
          refine j_iadd (y := I_X1_weighSorts) dX1_weighSorts_60 ?_
          refine j_istore (y := I_X1_weighSorts) (ls' := [(5, .int ((1 : Int32) + (1 : Int32))), (0, .ref (w.2.1 + 101)), (1, .ref (w.2.1 + 1)), (2, .ref (w.2.1 + 96)), (3, .int a13_3), (4, .int a13_4)]) dX1_weighSorts_61 (by decide) rfl ?_
          refine j_aload_n (y := I_X1_weighSorts) 1 dX1_weighSorts_63 rfl rfl ?_
          refine j_getR (y := I_X1_weighSorts) (j := 107) fl_1_27 k_101 rfl rfl dX1_weighSorts_64 ?_
          refine j_iload_n (y := I_X1_weighSorts) 4 dX1_weighSorts_67 rfl rfl ?_
          refine j_bipush (y := I_X1_weighSorts) (v := 6) dX1_weighSorts_68 (by decide) ?_
          refine j_imul (y := I_X1_weighSorts) dX1_weighSorts_70 ?_
          refine j_iload (y := I_X1_weighSorts) 5 dX1_weighSorts_71 rfl ?_
          refine j_iadd (y := I_X1_weighSorts) dX1_weighSorts_73 ?_
          refine j_aload_n (y := I_X1_weighSorts) 3 dX1_weighSorts_74 rfl rfl ?_
          refine j_iload_n (y := I_X1_weighSorts) 4 dX1_weighSorts_75 rfl rfl ?_
          refine j_iload (y := I_X1_weighSorts) 5 dX1_weighSorts_76 rfl ?_
          refine j_callVzR (y := I_X1_weighSorts) (As := [.int a13_3, .int a13_4]) cv_1_85 ⟨Nat.le_of_ble_eq_true rfl, Nat.le_of_ble_eq_true rfl⟩ k_96 rfl (Nat.le_of_ble_eq_true rfl) dX1_weighSorts_78 (c_X3_bloomTogether l w a13_3 a13_4 S13) (fun v78 h78 => ?_)
          refine j_if_eqB (y := I_X1_weighSorts) 89 dX1_weighSorts_81 (by decide) (fun h81 => ?_) (fun h81 => ?_)
          · refine j_iconst (y := I_X1_weighSorts) (v := 0) dX1_weighSorts_89 (by decide) ?_
            refine j_iast (y := I_X1_weighSorts) k_107 dX1_weighSorts_90 (fun h90 => ?_)
            refine j_iinc (y := I_X1_weighSorts) 5 (ls' := [(4, .int (a13_4 + (1 : Int32))), (5, .int ((1 : Int32) + (1 : Int32))), (0, .ref (w.2.1 + 101)), (1, .ref (w.2.1 + 1)), (2, .ref (w.2.1 + 96)), (3, .int a13_3)]) dX1_weighSorts_91 rfl (ii _ _ (by decide) _) (by decide) rfl ?_
            refine j_goto (y := I_X1_weighSorts) 13 dX1_weighSorts_94 (by decide) ?_
            refine j_sub [2, 3, 4, 5, 0] rfl ?_
            exact ih a13_3 (a13_4 + (1 : Int32)) (wr S13 107 (ix ((a13_3 * (6 : Int32)) + a13_4)) (0 : Int32)) hK
          · refine j_iload (y := I_X1_weighSorts) 0 dX1_weighSorts_84 rfl ?_
            refine j_goto (y := I_X1_weighSorts) 90 dX1_weighSorts_86 (by decide) ?_
            refine j_iast (y := I_X1_weighSorts) k_107 dX1_weighSorts_90 (fun h90 => ?_)
            refine j_iinc (y := I_X1_weighSorts) 5 (ls' := [(4, .int (a13_4 + (1 : Int32))), (5, .int ((1 : Int32) + (1 : Int32))), (0, .ref (w.2.1 + 101)), (1, .ref (w.2.1 + 1)), (2, .ref (w.2.1 + 96)), (3, .int a13_3)]) dX1_weighSorts_91 rfl (ii _ _ (by decide) _) (by decide) rfl ?_
            refine j_goto (y := I_X1_weighSorts) 13 dX1_weighSorts_94 (by decide) ?_
            refine j_sub [2, 3, 4, 5, 0] rfl ?_
            exact ih a13_3 (a13_4 + (1 : Int32)) (wr S13 107 (ix ((a13_3 * (6 : Int32)) + a13_4)) ((1 : Int32) + (1 : Int32))) hK
set_option maxRecDepth 100000 in
theorem jl_X1_weighSorts_2 (l : Launch) (w : Wd) (K : St → Option (St)) (n : Nat) : ∀ (a2_3 : Int32) (S2 : St), (∀  (S' : St) , J l w I_X1_weighSorts 103 [] [] S' (fun b => (none, b)) (K  S')) → J l w I_X1_weighSorts 2 [(0, .ref (w.2.1 + 101)), (1, .ref (w.2.1 + 1)), (2, .ref (w.2.1 + 96)), (3, .int a2_3)] [] S2 (fun b => (none, b)) (f_X1_weighSorts_L2 n K a2_3 S2) := by
  induction n with
  | zero =>
    intro a2_3 S2 hK b h
    simp only [f_X1_weighSorts_L2] at h
    cases h
  | succ n ih =>
    intro a2_3 S2 hK
    rw [f_X1_weighSorts_L2]
    refine j_iload_n (y := I_X1_weighSorts) 3 dX1_weighSorts_2 rfl rfl ?_
    refine j_aload_n (y := I_X1_weighSorts) 0 dX1_weighSorts_3 rfl rfl ?_
    refine j_getI (y := I_X1_weighSorts) fl_1_40 k_101 rfl dX1_weighSorts_4 ?_
    refine j_icmp_ge (y := I_X1_weighSorts) 103 dX1_weighSorts_7 (by decide) (fun h7 => ?_) (fun h7 => ?_)
    · refine j_sub [] rfl ?_
      exact hK S2
    · refine j_iconst (y := I_X1_weighSorts) (v := 0) dX1_weighSorts_10 (by decide) ?_
      refine j_istore (y := I_X1_weighSorts) (ls' := [(4, .int (0 : Int32)), (0, .ref (w.2.1 + 101)), (1, .ref (w.2.1 + 1)), (2, .ref (w.2.1 + 96)), (3, .int a2_3)]) dX1_weighSorts_11 (by decide) rfl ?_
      refine j_sub [1, 2, 3, 4, 0] rfl ?_
      refine jl_X1_weighSorts_13 l w _ 6000 a2_3 (0 : Int32) S2  (fun e97_3 T97 => ?_)
      refine j_iinc (y := I_X1_weighSorts) 3 (ls' := [(3, .int (e97_3 + (1 : Int32))), (0, .ref (w.2.1 + 101)), (1, .ref (w.2.1 + 1)), (2, .ref (w.2.1 + 96))]) dX1_weighSorts_97 rfl (ii _ _ (by decide) _) (by decide) rfl ?_
      refine j_goto (y := I_X1_weighSorts) 2 dX1_weighSorts_100 (by decide) ?_
      refine j_sub [1, 2, 3, 0] rfl ?_
      exact ih (e97_3 + (1 : Int32)) T97 hK
set_option maxRecDepth 100000 in
set_option maxHeartbeats 4000000 in
theorem m_X1_weighSorts (l : Launch) (w : Wd)  (S : St)  : J l w I_X1_weighSorts 0 [(0, .ref (w.2.1 + 101)), (1, .ref (w.2.1 + 1)), (2, .ref (w.2.1 + 96))] [] S (fun b => (none, b)) (f_X1_weighSorts S) := by
  unfold f_X1_weighSorts
  refine j_iconst (y := I_X1_weighSorts) (v := 0) dX1_weighSorts_0 (by decide) ?_
  refine j_istore_n (y := I_X1_weighSorts) (ls' := [(3, .int (0 : Int32)), (0, .ref (w.2.1 + 101)), (1, .ref (w.2.1 + 1)), (2, .ref (w.2.1 + 96))]) dX1_weighSorts_1 rfl (by decide) rfl ?_
  refine j_sub [1, 2, 3, 0] rfl ?_
  refine jl_X1_weighSorts_2 l w _ 6000 (0 : Int32) S  (fun T103 => ?_)
  exact j_vret (y := I_X1_weighSorts) rfl dX1_weighSorts_103 rfl
theorem c_X1_weighSorts (l : Launch) (w : Wd)  (S : St)  : ∀ v, f_X1_weighSorts S = some v → CtS l w I_X1_weighSorts [.ref (w.2.1 + 101), .ref (w.2.1 + 1), .ref (w.2.1 + 96)] S v none := fun v h => J.ct (av := [.ref (w.2.1 + 101), .ref (w.2.1 + 1), .ref (w.2.1 + 96)]) (Nat.le_of_ble_eq_true rfl) pn_1 (m_X1_weighSorts l w  S ) h
