abbrev I_X5_become : MI := (yX5_become, cX5_become, 2, none, { frames := 1, cells := 0, slots := 0, locals := 60 })
theorem dX5_become_0 : decode cX5_become 0 = .ok (.aload_n 0, 1) := by decide +kernel
theorem dX5_become_1 : decode cX5_become 1 = .ok (.aload_n 1, 1) := by decide +kernel
theorem dX5_become_2 : decode cX5_become 2 = .ok (.getfield 15, 3) := by decide +kernel
theorem dX5_become_5 : decode cX5_become 5 = .ok (.putfield 15, 3) := by decide +kernel
theorem dX5_become_8 : decode cX5_become 8 = .ok (.aload_n 0, 1) := by decide +kernel
theorem dX5_become_9 : decode cX5_become 9 = .ok (.aload_n 1, 1) := by decide +kernel
theorem dX5_become_10 : decode cX5_become 10 = .ok (.getfield 19, 3) := by decide +kernel
theorem dX5_become_13 : decode cX5_become 13 = .ok (.putfield 19, 3) := by decide +kernel
theorem dX5_become_16 : decode cX5_become 16 = .ok (.aload_n 0, 1) := by decide +kernel
theorem dX5_become_17 : decode cX5_become 17 = .ok (.aload_n 1, 1) := by decide +kernel
theorem dX5_become_18 : decode cX5_become 18 = .ok (.getfield 22, 3) := by decide +kernel
theorem dX5_become_21 : decode cX5_become 21 = .ok (.putfield 22, 3) := by decide +kernel
theorem dX5_become_24 : decode cX5_become 24 = .ok (.aload_n 0, 1) := by decide +kernel
theorem dX5_become_25 : decode cX5_become 25 = .ok (.aload_n 1, 1) := by decide +kernel
theorem dX5_become_26 : decode cX5_become 26 = .ok (.getfield 25, 3) := by decide +kernel
theorem dX5_become_29 : decode cX5_become 29 = .ok (.putfield 25, 3) := by decide +kernel
theorem dX5_become_32 : decode cX5_become 32 = .ok (.aload_n 0, 1) := by decide +kernel
theorem dX5_become_33 : decode cX5_become 33 = .ok (.aload_n 1, 1) := by decide +kernel
theorem dX5_become_34 : decode cX5_become 34 = .ok (.getfield 28, 3) := by decide +kernel
theorem dX5_become_37 : decode cX5_become 37 = .ok (.putfield 28, 3) := by decide +kernel
theorem dX5_become_40 : decode cX5_become 40 = .ok (.aload_n 0, 1) := by decide +kernel
theorem dX5_become_41 : decode cX5_become 41 = .ok (.aload_n 1, 1) := by decide +kernel
theorem dX5_become_42 : decode cX5_become 42 = .ok (.getfield 31, 3) := by decide +kernel
theorem dX5_become_45 : decode cX5_become 45 = .ok (.putfield 31, 3) := by decide +kernel
theorem dX5_become_48 : decode cX5_become 48 = .ok (.aload_n 0, 1) := by decide +kernel
theorem dX5_become_49 : decode cX5_become 49 = .ok (.aload_n 1, 1) := by decide +kernel
theorem dX5_become_50 : decode cX5_become 50 = .ok (.getfield 34, 3) := by decide +kernel
theorem dX5_become_53 : decode cX5_become 53 = .ok (.putfield 34, 3) := by decide +kernel
theorem dX5_become_56 : decode cX5_become 56 = .ok (.aload_n 1, 1) := by decide +kernel
theorem dX5_become_57 : decode cX5_become 57 = .ok (.getfield 9, 3) := by decide +kernel
theorem dX5_become_60 : decode cX5_become 60 = .ok (.iconst 0, 1) := by decide +kernel
theorem dX5_become_61 : decode cX5_become 61 = .ok (.aload_n 0, 1) := by decide +kernel
theorem dX5_become_62 : decode cX5_become 62 = .ok (.getfield 9, 3) := by decide +kernel
theorem dX5_become_65 : decode cX5_become 65 = .ok (.iconst 0, 1) := by decide +kernel
theorem dX5_become_66 : decode cX5_become 66 = .ok (.bipush 60, 2) := by decide +kernel
theorem dX5_become_68 : decode cX5_become 68 = .ok (.invokestatic 37, 3) := by decide +kernel
theorem dX5_become_71 : decode cX5_become 71 = .ok (.return_, 1) := by decide +kernel
def f_X5_become (t : Nat) (u1 : Nat) (S : St) : Option (St) := if cpok (0 : Int32) (0 : Int32) (60 : Int32) 60 60 = true then (some (cpI (wr (wr (wr (wr (wr (wr (wr S t 0 (rd S u1 0)) t 1 (rd (wr S t 0 (rd S u1 0)) u1 1)) t 2 (rd (wr (wr S t 0 (rd S u1 0)) t 1 (rd (wr S t 0 (rd S u1 0)) u1 1)) u1 2)) t 3 (rd (wr (wr (wr S t 0 (rd S u1 0)) t 1 (rd (wr S t 0 (rd S u1 0)) u1 1)) t 2 (rd (wr (wr S t 0 (rd S u1 0)) t 1 (rd (wr S t 0 (rd S u1 0)) u1 1)) u1 2)) u1 3)) t 4 (rd (wr (wr (wr (wr S t 0 (rd S u1 0)) t 1 (rd (wr S t 0 (rd S u1 0)) u1 1)) t 2 (rd (wr (wr S t 0 (rd S u1 0)) t 1 (rd (wr S t 0 (rd S u1 0)) u1 1)) u1 2)) t 3 (rd (wr (wr (wr S t 0 (rd S u1 0)) t 1 (rd (wr S t 0 (rd S u1 0)) u1 1)) t 2 (rd (wr (wr S t 0 (rd S u1 0)) t 1 (rd (wr S t 0 (rd S u1 0)) u1 1)) u1 2)) u1 3)) u1 4)) t 5 (rd (wr (wr (wr (wr (wr S t 0 (rd S u1 0)) t 1 (rd (wr S t 0 (rd S u1 0)) u1 1)) t 2 (rd (wr (wr S t 0 (rd S u1 0)) t 1 (rd (wr S t 0 (rd S u1 0)) u1 1)) u1 2)) t 3 (rd (wr (wr (wr S t 0 (rd S u1 0)) t 1 (rd (wr S t 0 (rd S u1 0)) u1 1)) t 2 (rd (wr (wr S t 0 (rd S u1 0)) t 1 (rd (wr S t 0 (rd S u1 0)) u1 1)) u1 2)) u1 3)) t 4 (rd (wr (wr (wr (wr S t 0 (rd S u1 0)) t 1 (rd (wr S t 0 (rd S u1 0)) u1 1)) t 2 (rd (wr (wr S t 0 (rd S u1 0)) t 1 (rd (wr S t 0 (rd S u1 0)) u1 1)) u1 2)) t 3 (rd (wr (wr (wr S t 0 (rd S u1 0)) t 1 (rd (wr S t 0 (rd S u1 0)) u1 1)) t 2 (rd (wr (wr S t 0 (rd S u1 0)) t 1 (rd (wr S t 0 (rd S u1 0)) u1 1)) u1 2)) u1 3)) u1 4)) u1 5)) t 6 (rd (wr (wr (wr (wr (wr (wr S t 0 (rd S u1 0)) t 1 (rd (wr S t 0 (rd S u1 0)) u1 1)) t 2 (rd (wr (wr S t 0 (rd S u1 0)) t 1 (rd (wr S t 0 (rd S u1 0)) u1 1)) u1 2)) t 3 (rd (wr (wr (wr S t 0 (rd S u1 0)) t 1 (rd (wr S t 0 (rd S u1 0)) u1 1)) t 2 (rd (wr (wr S t 0 (rd S u1 0)) t 1 (rd (wr S t 0 (rd S u1 0)) u1 1)) u1 2)) u1 3)) t 4 (rd (wr (wr (wr (wr S t 0 (rd S u1 0)) t 1 (rd (wr S t 0 (rd S u1 0)) u1 1)) t 2 (rd (wr (wr S t 0 (rd S u1 0)) t 1 (rd (wr S t 0 (rd S u1 0)) u1 1)) u1 2)) t 3 (rd (wr (wr (wr S t 0 (rd S u1 0)) t 1 (rd (wr S t 0 (rd S u1 0)) u1 1)) t 2 (rd (wr (wr S t 0 (rd S u1 0)) t 1 (rd (wr S t 0 (rd S u1 0)) u1 1)) u1 2)) u1 3)) u1 4)) t 5 (rd (wr (wr (wr (wr (wr S t 0 (rd S u1 0)) t 1 (rd (wr S t 0 (rd S u1 0)) u1 1)) t 2 (rd (wr (wr S t 0 (rd S u1 0)) t 1 (rd (wr S t 0 (rd S u1 0)) u1 1)) u1 2)) t 3 (rd (wr (wr (wr S t 0 (rd S u1 0)) t 1 (rd (wr S t 0 (rd S u1 0)) u1 1)) t 2 (rd (wr (wr S t 0 (rd S u1 0)) t 1 (rd (wr S t 0 (rd S u1 0)) u1 1)) u1 2)) u1 3)) t 4 (rd (wr (wr (wr (wr S t 0 (rd S u1 0)) t 1 (rd (wr S t 0 (rd S u1 0)) u1 1)) t 2 (rd (wr (wr S t 0 (rd S u1 0)) t 1 (rd (wr S t 0 (rd S u1 0)) u1 1)) u1 2)) t 3 (rd (wr (wr (wr S t 0 (rd S u1 0)) t 1 (rd (wr S t 0 (rd S u1 0)) u1 1)) t 2 (rd (wr (wr S t 0 (rd S u1 0)) t 1 (rd (wr S t 0 (rd S u1 0)) u1 1)) u1 2)) u1 3)) u1 4)) u1 5)) u1 6)) (u1 + 1) (t + 1) (ix (0 : Int32)) (ix (0 : Int32)) (ix (60 : Int32)))) else none
set_option maxRecDepth 100000 in
set_option maxHeartbeats 4000000 in
theorem m_X5_become (l : Launch) (w : Wd) (t : Nat) (u1 : Nat) (S : St) (ht : kd t = KdSort) (hu1 : kd u1 = KdSort) : J l w I_X5_become 0 [(0, .ref (w.2.1 + t)), (1, .ref (w.2.1 + u1))] [] S (fun b => (none, b)) (f_X5_become t u1 S) := by
  unfold f_X5_become
  refine j_aload_n (y := I_X5_become) 0 dX5_become_0 rfl rfl ?_
  refine j_aload_n (y := I_X5_become) 1 dX5_become_1 rfl rfl ?_
  refine j_getI (y := I_X5_become) fl_5_15 hu1 rfl dX5_become_2 ?_
  refine j_putI (y := I_X5_become) fp_5_15 ht rfl rfl rfl dX5_become_5 ?_
  refine j_aload_n (y := I_X5_become) 0 dX5_become_8 rfl rfl ?_
  refine j_aload_n (y := I_X5_become) 1 dX5_become_9 rfl rfl ?_
  refine j_getI (y := I_X5_become) fl_5_19 hu1 rfl dX5_become_10 ?_
  refine j_putI (y := I_X5_become) fp_5_19 ht rfl rfl rfl dX5_become_13 ?_
  refine j_aload_n (y := I_X5_become) 0 dX5_become_16 rfl rfl ?_
  refine j_aload_n (y := I_X5_become) 1 dX5_become_17 rfl rfl ?_
  refine j_getI (y := I_X5_become) fl_5_22 hu1 rfl dX5_become_18 ?_
  refine j_putI (y := I_X5_become) fp_5_22 ht rfl rfl rfl dX5_become_21 ?_
  refine j_aload_n (y := I_X5_become) 0 dX5_become_24 rfl rfl ?_
  refine j_aload_n (y := I_X5_become) 1 dX5_become_25 rfl rfl ?_
  refine j_getI (y := I_X5_become) fl_5_25 hu1 rfl dX5_become_26 ?_
  refine j_putI (y := I_X5_become) fp_5_25 ht rfl rfl rfl dX5_become_29 ?_
  refine j_aload_n (y := I_X5_become) 0 dX5_become_32 rfl rfl ?_
  refine j_aload_n (y := I_X5_become) 1 dX5_become_33 rfl rfl ?_
  refine j_getI (y := I_X5_become) fl_5_28 hu1 rfl dX5_become_34 ?_
  refine j_putI (y := I_X5_become) fp_5_28 ht rfl rfl rfl dX5_become_37 ?_
  refine j_aload_n (y := I_X5_become) 0 dX5_become_40 rfl rfl ?_
  refine j_aload_n (y := I_X5_become) 1 dX5_become_41 rfl rfl ?_
  refine j_getI (y := I_X5_become) fl_5_31 hu1 rfl dX5_become_42 ?_
  refine j_putI (y := I_X5_become) fp_5_31 ht rfl rfl rfl dX5_become_45 ?_
  refine j_aload_n (y := I_X5_become) 0 dX5_become_48 rfl rfl ?_
  refine j_aload_n (y := I_X5_become) 1 dX5_become_49 rfl rfl ?_
  refine j_getI (y := I_X5_become) fl_5_34 hu1 rfl dX5_become_50 ?_
  refine j_putI (y := I_X5_become) fp_5_34 ht rfl rfl rfl dX5_become_53 ?_
  refine j_aload_n (y := I_X5_become) 1 dX5_become_56 rfl rfl ?_
  refine j_getR (y := I_X5_become) (j := (u1 + 1)) fl_5_9 hu1 rfl rfl dX5_become_57 ?_
  refine j_iconst (y := I_X5_become) (v := 0) dX5_become_60 (by decide) ?_
  refine j_aload_n (y := I_X5_become) 0 dX5_become_61 rfl rfl ?_
  refine j_getR (y := I_X5_become) (j := (t + 1)) fl_5_9 ht rfl rfl dX5_become_62 ?_
  refine j_iconst (y := I_X5_become) (v := 0) dX5_become_65 (by decide) ?_
  refine j_bipush (y := I_X5_become) (v := 60) dX5_become_66 (by decide) ?_
  refine j_cpI (y := I_X5_become) (gm 773 (by decide +kernel) rfl) (gm 476 (by decide +kernel) rfl) (gm 475 (by decide +kernel) rfl) (gm 46 (by decide +kernel) rfl) (kd_SortA hu1) (kd_SortA ht) ⟨kd_ltA (kd_SortA hu1) (i := 0) (by decide), kd_ltA (kd_SortA ht) (i := 0) (by decide)⟩ (Nat.le_of_ble_eq_true rfl) (Nat.le_of_ble_eq_true rfl) dX5_become_68 ?_
  exact j_vret (y := I_X5_become) rfl dX5_become_71 rfl
theorem c_X5_become (l : Launch) (w : Wd) (t : Nat) (u1 : Nat) (S : St) (ht : kd t = KdSort) (hu1 : kd u1 = KdSort) : ∀ v, f_X5_become t u1 S = some v → CtS l w I_X5_become [.ref (w.2.1 + t), .ref (w.2.1 + u1)] S v none := fun v h => J.ct (av := [.ref (w.2.1 + t), .ref (w.2.1 + u1)]) (Nat.le_of_ble_eq_true rfl) pn_5 (m_X5_become l w t u1 S ht hu1) h
abbrev I_X2_become : MI := (yX2_become, cX2_become, 2, none, { frames := 1, cells := 0, slots := 0, locals := 60 })
theorem dX2_become_0 : decode cX2_become 0 = .ok (.aload_n 0, 1) := by decide +kernel
theorem dX2_become_1 : decode cX2_become 1 = .ok (.aload_n 1, 1) := by decide +kernel
theorem dX2_become_2 : decode cX2_become 2 = .ok (.getfield 43, 3) := by decide +kernel
theorem dX2_become_5 : decode cX2_become 5 = .ok (.putfield 43, 3) := by decide +kernel
theorem dX2_become_8 : decode cX2_become 8 = .ok (.aload_n 0, 1) := by decide +kernel
theorem dX2_become_9 : decode cX2_become 9 = .ok (.aload_n 1, 1) := by decide +kernel
theorem dX2_become_10 : decode cX2_become 10 = .ok (.getfield 46, 3) := by decide +kernel
theorem dX2_become_13 : decode cX2_become 13 = .ok (.putfield 46, 3) := by decide +kernel
theorem dX2_become_16 : decode cX2_become 16 = .ok (.aload_n 0, 1) := by decide +kernel
theorem dX2_become_17 : decode cX2_become 17 = .ok (.aload_n 1, 1) := by decide +kernel
theorem dX2_become_18 : decode cX2_become 18 = .ok (.getfield 15, 3) := by decide +kernel
theorem dX2_become_21 : decode cX2_become 21 = .ok (.putfield 15, 3) := by decide +kernel
theorem dX2_become_24 : decode cX2_become 24 = .ok (.aload_n 0, 1) := by decide +kernel
theorem dX2_become_25 : decode cX2_become 25 = .ok (.aload_n 1, 1) := by decide +kernel
theorem dX2_become_26 : decode cX2_become 26 = .ok (.getfield 19, 3) := by decide +kernel
theorem dX2_become_29 : decode cX2_become 29 = .ok (.putfield 19, 3) := by decide +kernel
theorem dX2_become_32 : decode cX2_become 32 = .ok (.aload_n 0, 1) := by decide +kernel
theorem dX2_become_33 : decode cX2_become 33 = .ok (.aload_n 1, 1) := by decide +kernel
theorem dX2_become_34 : decode cX2_become 34 = .ok (.getfield 22, 3) := by decide +kernel
theorem dX2_become_37 : decode cX2_become 37 = .ok (.putfield 22, 3) := by decide +kernel
theorem dX2_become_40 : decode cX2_become 40 = .ok (.aload_n 0, 1) := by decide +kernel
theorem dX2_become_41 : decode cX2_become 41 = .ok (.aload_n 1, 1) := by decide +kernel
theorem dX2_become_42 : decode cX2_become 42 = .ok (.getfield 25, 3) := by decide +kernel
theorem dX2_become_45 : decode cX2_become 45 = .ok (.putfield 25, 3) := by decide +kernel
theorem dX2_become_48 : decode cX2_become 48 = .ok (.aload_n 0, 1) := by decide +kernel
theorem dX2_become_49 : decode cX2_become 49 = .ok (.aload_n 1, 1) := by decide +kernel
theorem dX2_become_50 : decode cX2_become 50 = .ok (.getfield 28, 3) := by decide +kernel
theorem dX2_become_53 : decode cX2_become 53 = .ok (.putfield 28, 3) := by decide +kernel
theorem dX2_become_56 : decode cX2_become 56 = .ok (.aload_n 0, 1) := by decide +kernel
theorem dX2_become_57 : decode cX2_become 57 = .ok (.aload_n 1, 1) := by decide +kernel
theorem dX2_become_58 : decode cX2_become 58 = .ok (.getfield 31, 3) := by decide +kernel
theorem dX2_become_61 : decode cX2_become 61 = .ok (.putfield 31, 3) := by decide +kernel
theorem dX2_become_64 : decode cX2_become 64 = .ok (.aload_n 0, 1) := by decide +kernel
theorem dX2_become_65 : decode cX2_become 65 = .ok (.aload_n 1, 1) := by decide +kernel
theorem dX2_become_66 : decode cX2_become 66 = .ok (.getfield 34, 3) := by decide +kernel
theorem dX2_become_69 : decode cX2_become 69 = .ok (.putfield 34, 3) := by decide +kernel
theorem dX2_become_72 : decode cX2_become 72 = .ok (.aload_n 0, 1) := by decide +kernel
theorem dX2_become_73 : decode cX2_become 73 = .ok (.aload_n 1, 1) := by decide +kernel
theorem dX2_become_74 : decode cX2_become 74 = .ok (.getfield 37, 3) := by decide +kernel
theorem dX2_become_77 : decode cX2_become 77 = .ok (.putfield 37, 3) := by decide +kernel
theorem dX2_become_80 : decode cX2_become 80 = .ok (.aload_n 1, 1) := by decide +kernel
theorem dX2_become_81 : decode cX2_become 81 = .ok (.getfield 9, 3) := by decide +kernel
theorem dX2_become_84 : decode cX2_become 84 = .ok (.iconst 0, 1) := by decide +kernel
theorem dX2_become_85 : decode cX2_become 85 = .ok (.aload_n 0, 1) := by decide +kernel
theorem dX2_become_86 : decode cX2_become 86 = .ok (.getfield 9, 3) := by decide +kernel
theorem dX2_become_89 : decode cX2_become 89 = .ok (.iconst 0, 1) := by decide +kernel
theorem dX2_become_90 : decode cX2_become 90 = .ok (.iconst 2, 1) := by decide +kernel
theorem dX2_become_91 : decode cX2_become 91 = .ok (.invokestatic 49, 3) := by decide +kernel
theorem dX2_become_94 : decode cX2_become 94 = .ok (.return_, 1) := by decide +kernel
def f_X2_become (t : Nat) (u1 : Nat) (S : St) : Option (St) := if cpok (0 : Int32) (0 : Int32) (2 : Int32) 2 2 = true then (some (cpI (wr (wr (wr (wr (wr (wr (wr (wr (wr (wr S t 0 (rd S u1 0)) t 1 (rd (wr S t 0 (rd S u1 0)) u1 1)) t 2 (rd (wr (wr S t 0 (rd S u1 0)) t 1 (rd (wr S t 0 (rd S u1 0)) u1 1)) u1 2)) t 3 (rd (wr (wr (wr S t 0 (rd S u1 0)) t 1 (rd (wr S t 0 (rd S u1 0)) u1 1)) t 2 (rd (wr (wr S t 0 (rd S u1 0)) t 1 (rd (wr S t 0 (rd S u1 0)) u1 1)) u1 2)) u1 3)) t 4 (rd (wr (wr (wr (wr S t 0 (rd S u1 0)) t 1 (rd (wr S t 0 (rd S u1 0)) u1 1)) t 2 (rd (wr (wr S t 0 (rd S u1 0)) t 1 (rd (wr S t 0 (rd S u1 0)) u1 1)) u1 2)) t 3 (rd (wr (wr (wr S t 0 (rd S u1 0)) t 1 (rd (wr S t 0 (rd S u1 0)) u1 1)) t 2 (rd (wr (wr S t 0 (rd S u1 0)) t 1 (rd (wr S t 0 (rd S u1 0)) u1 1)) u1 2)) u1 3)) u1 4)) t 5 (rd (wr (wr (wr (wr (wr S t 0 (rd S u1 0)) t 1 (rd (wr S t 0 (rd S u1 0)) u1 1)) t 2 (rd (wr (wr S t 0 (rd S u1 0)) t 1 (rd (wr S t 0 (rd S u1 0)) u1 1)) u1 2)) t 3 (rd (wr (wr (wr S t 0 (rd S u1 0)) t 1 (rd (wr S t 0 (rd S u1 0)) u1 1)) t 2 (rd (wr (wr S t 0 (rd S u1 0)) t 1 (rd (wr S t 0 (rd S u1 0)) u1 1)) u1 2)) u1 3)) t 4 (rd (wr (wr (wr (wr S t 0 (rd S u1 0)) t 1 (rd (wr S t 0 (rd S u1 0)) u1 1)) t 2 (rd (wr (wr S t 0 (rd S u1 0)) t 1 (rd (wr S t 0 (rd S u1 0)) u1 1)) u1 2)) t 3 (rd (wr (wr (wr S t 0 (rd S u1 0)) t 1 (rd (wr S t 0 (rd S u1 0)) u1 1)) t 2 (rd (wr (wr S t 0 (rd S u1 0)) t 1 (rd (wr S t 0 (rd S u1 0)) u1 1)) u1 2)) u1 3)) u1 4)) u1 5)) t 6 (rd (wr (wr (wr (wr (wr (wr S t 0 (rd S u1 0)) t 1 (rd (wr S t 0 (rd S u1 0)) u1 1)) t 2 (rd (wr (wr S t 0 (rd S u1 0)) t 1 (rd (wr S t 0 (rd S u1 0)) u1 1)) u1 2)) t 3 (rd (wr (wr (wr S t 0 (rd S u1 0)) t 1 (rd (wr S t 0 (rd S u1 0)) u1 1)) t 2 (rd (wr (wr S t 0 (rd S u1 0)) t 1 (rd (wr S t 0 (rd S u1 0)) u1 1)) u1 2)) u1 3)) t 4 (rd (wr (wr (wr (wr S t 0 (rd S u1 0)) t 1 (rd (wr S t 0 (rd S u1 0)) u1 1)) t 2 (rd (wr (wr S t 0 (rd S u1 0)) t 1 (rd (wr S t 0 (rd S u1 0)) u1 1)) u1 2)) t 3 (rd (wr (wr (wr S t 0 (rd S u1 0)) t 1 (rd (wr S t 0 (rd S u1 0)) u1 1)) t 2 (rd (wr (wr S t 0 (rd S u1 0)) t 1 (rd (wr S t 0 (rd S u1 0)) u1 1)) u1 2)) u1 3)) u1 4)) t 5 (rd (wr (wr (wr (wr (wr S t 0 (rd S u1 0)) t 1 (rd (wr S t 0 (rd S u1 0)) u1 1)) t 2 (rd (wr (wr S t 0 (rd S u1 0)) t 1 (rd (wr S t 0 (rd S u1 0)) u1 1)) u1 2)) t 3 (rd (wr (wr (wr S t 0 (rd S u1 0)) t 1 (rd (wr S t 0 (rd S u1 0)) u1 1)) t 2 (rd (wr (wr S t 0 (rd S u1 0)) t 1 (rd (wr S t 0 (rd S u1 0)) u1 1)) u1 2)) u1 3)) t 4 (rd (wr (wr (wr (wr S t 0 (rd S u1 0)) t 1 (rd (wr S t 0 (rd S u1 0)) u1 1)) t 2 (rd (wr (wr S t 0 (rd S u1 0)) t 1 (rd (wr S t 0 (rd S u1 0)) u1 1)) u1 2)) t 3 (rd (wr (wr (wr S t 0 (rd S u1 0)) t 1 (rd (wr S t 0 (rd S u1 0)) u1 1)) t 2 (rd (wr (wr S t 0 (rd S u1 0)) t 1 (rd (wr S t 0 (rd S u1 0)) u1 1)) u1 2)) u1 3)) u1 4)) u1 5)) u1 6)) t 7 (rd (wr (wr (wr (wr (wr (wr (wr S t 0 (rd S u1 0)) t 1 (rd (wr S t 0 (rd S u1 0)) u1 1)) t 2 (rd (wr (wr S t 0 (rd S u1 0)) t 1 (rd (wr S t 0 (rd S u1 0)) u1 1)) u1 2)) t 3 (rd (wr (wr (wr S t 0 (rd S u1 0)) t 1 (rd (wr S t 0 (rd S u1 0)) u1 1)) t 2 (rd (wr (wr S t 0 (rd S u1 0)) t 1 (rd (wr S t 0 (rd S u1 0)) u1 1)) u1 2)) u1 3)) t 4 (rd (wr (wr (wr (wr S t 0 (rd S u1 0)) t 1 (rd (wr S t 0 (rd S u1 0)) u1 1)) t 2 (rd (wr (wr S t 0 (rd S u1 0)) t 1 (rd (wr S t 0 (rd S u1 0)) u1 1)) u1 2)) t 3 (rd (wr (wr (wr S t 0 (rd S u1 0)) t 1 (rd (wr S t 0 (rd S u1 0)) u1 1)) t 2 (rd (wr (wr S t 0 (rd S u1 0)) t 1 (rd (wr S t 0 (rd S u1 0)) u1 1)) u1 2)) u1 3)) u1 4)) t 5 (rd (wr (wr (wr (wr (wr S t 0 (rd S u1 0)) t 1 (rd (wr S t 0 (rd S u1 0)) u1 1)) t 2 (rd (wr (wr S t 0 (rd S u1 0)) t 1 (rd (wr S t 0 (rd S u1 0)) u1 1)) u1 2)) t 3 (rd (wr (wr (wr S t 0 (rd S u1 0)) t 1 (rd (wr S t 0 (rd S u1 0)) u1 1)) t 2 (rd (wr (wr S t 0 (rd S u1 0)) t 1 (rd (wr S t 0 (rd S u1 0)) u1 1)) u1 2)) u1 3)) t 4 (rd (wr (wr (wr (wr S t 0 (rd S u1 0)) t 1 (rd (wr S t 0 (rd S u1 0)) u1 1)) t 2 (rd (wr (wr S t 0 (rd S u1 0)) t 1 (rd (wr S t 0 (rd S u1 0)) u1 1)) u1 2)) t 3 (rd (wr (wr (wr S t 0 (rd S u1 0)) t 1 (rd (wr S t 0 (rd S u1 0)) u1 1)) t 2 (rd (wr (wr S t 0 (rd S u1 0)) t 1 (rd (wr S t 0 (rd S u1 0)) u1 1)) u1 2)) u1 3)) u1 4)) u1 5)) t 6 (rd (wr (wr (wr (wr (wr (wr S t 0 (rd S u1 0)) t 1 (rd (wr S t 0 (rd S u1 0)) u1 1)) t 2 (rd (wr (wr S t 0 (rd S u1 0)) t 1 (rd (wr S t 0 (rd S u1 0)) u1 1)) u1 2)) t 3 (rd (wr (wr (wr S t 0 (rd S u1 0)) t 1 (rd (wr S t 0 (rd S u1 0)) u1 1)) t 2 (rd (wr (wr S t 0 (rd S u1 0)) t 1 (rd (wr S t 0 (rd S u1 0)) u1 1)) u1 2)) u1 3)) t 4 (rd (wr (wr (wr (wr S t 0 (rd S u1 0)) t 1 (rd (wr S t 0 (rd S u1 0)) u1 1)) t 2 (rd (wr (wr S t 0 (rd S u1 0)) t 1 (rd (wr S t 0 (rd S u1 0)) u1 1)) u1 2)) t 3 (rd (wr (wr (wr S t 0 (rd S u1 0)) t 1 (rd (wr S t 0 (rd S u1 0)) u1 1)) t 2 (rd (wr (wr S t 0 (rd S u1 0)) t 1 (rd (wr S t 0 (rd S u1 0)) u1 1)) u1 2)) u1 3)) u1 4)) t 5 (rd (wr (wr (wr (wr (wr S t 0 (rd S u1 0)) t 1 (rd (wr S t 0 (rd S u1 0)) u1 1)) t 2 (rd (wr (wr S t 0 (rd S u1 0)) t 1 (rd (wr S t 0 (rd S u1 0)) u1 1)) u1 2)) t 3 (rd (wr (wr (wr S t 0 (rd S u1 0)) t 1 (rd (wr S t 0 (rd S u1 0)) u1 1)) t 2 (rd (wr (wr S t 0 (rd S u1 0)) t 1 (rd (wr S t 0 (rd S u1 0)) u1 1)) u1 2)) u1 3)) t 4 (rd (wr (wr (wr (wr S t 0 (rd S u1 0)) t 1 (rd (wr S t 0 (rd S u1 0)) u1 1)) t 2 (rd (wr (wr S t 0 (rd S u1 0)) t 1 (rd (wr S t 0 (rd S u1 0)) u1 1)) u1 2)) t 3 (rd (wr (wr (wr S t 0 (rd S u1 0)) t 1 (rd (wr S t 0 (rd S u1 0)) u1 1)) t 2 (rd (wr (wr S t 0 (rd S u1 0)) t 1 (rd (wr S t 0 (rd S u1 0)) u1 1)) u1 2)) u1 3)) u1 4)) u1 5)) u1 6)) u1 7)) t 8 (rd (wr (wr (wr (wr (wr (wr (wr (wr S t 0 (rd S u1 0)) t 1 (rd (wr S t 0 (rd S u1 0)) u1 1)) t 2 (rd (wr (wr S t 0 (rd S u1 0)) t 1 (rd (wr S t 0 (rd S u1 0)) u1 1)) u1 2)) t 3 (rd (wr (wr (wr S t 0 (rd S u1 0)) t 1 (rd (wr S t 0 (rd S u1 0)) u1 1)) t 2 (rd (wr (wr S t 0 (rd S u1 0)) t 1 (rd (wr S t 0 (rd S u1 0)) u1 1)) u1 2)) u1 3)) t 4 (rd (wr (wr (wr (wr S t 0 (rd S u1 0)) t 1 (rd (wr S t 0 (rd S u1 0)) u1 1)) t 2 (rd (wr (wr S t 0 (rd S u1 0)) t 1 (rd (wr S t 0 (rd S u1 0)) u1 1)) u1 2)) t 3 (rd (wr (wr (wr S t 0 (rd S u1 0)) t 1 (rd (wr S t 0 (rd S u1 0)) u1 1)) t 2 (rd (wr (wr S t 0 (rd S u1 0)) t 1 (rd (wr S t 0 (rd S u1 0)) u1 1)) u1 2)) u1 3)) u1 4)) t 5 (rd (wr (wr (wr (wr (wr S t 0 (rd S u1 0)) t 1 (rd (wr S t 0 (rd S u1 0)) u1 1)) t 2 (rd (wr (wr S t 0 (rd S u1 0)) t 1 (rd (wr S t 0 (rd S u1 0)) u1 1)) u1 2)) t 3 (rd (wr (wr (wr S t 0 (rd S u1 0)) t 1 (rd (wr S t 0 (rd S u1 0)) u1 1)) t 2 (rd (wr (wr S t 0 (rd S u1 0)) t 1 (rd (wr S t 0 (rd S u1 0)) u1 1)) u1 2)) u1 3)) t 4 (rd (wr (wr (wr (wr S t 0 (rd S u1 0)) t 1 (rd (wr S t 0 (rd S u1 0)) u1 1)) t 2 (rd (wr (wr S t 0 (rd S u1 0)) t 1 (rd (wr S t 0 (rd S u1 0)) u1 1)) u1 2)) t 3 (rd (wr (wr (wr S t 0 (rd S u1 0)) t 1 (rd (wr S t 0 (rd S u1 0)) u1 1)) t 2 (rd (wr (wr S t 0 (rd S u1 0)) t 1 (rd (wr S t 0 (rd S u1 0)) u1 1)) u1 2)) u1 3)) u1 4)) u1 5)) t 6 (rd (wr (wr (wr (wr (wr (wr S t 0 (rd S u1 0)) t 1 (rd (wr S t 0 (rd S u1 0)) u1 1)) t 2 (rd (wr (wr S t 0 (rd S u1 0)) t 1 (rd (wr S t 0 (rd S u1 0)) u1 1)) u1 2)) t 3 (rd (wr (wr (wr S t 0 (rd S u1 0)) t 1 (rd (wr S t 0 (rd S u1 0)) u1 1)) t 2 (rd (wr (wr S t 0 (rd S u1 0)) t 1 (rd (wr S t 0 (rd S u1 0)) u1 1)) u1 2)) u1 3)) t 4 (rd (wr (wr (wr (wr S t 0 (rd S u1 0)) t 1 (rd (wr S t 0 (rd S u1 0)) u1 1)) t 2 (rd (wr (wr S t 0 (rd S u1 0)) t 1 (rd (wr S t 0 (rd S u1 0)) u1 1)) u1 2)) t 3 (rd (wr (wr (wr S t 0 (rd S u1 0)) t 1 (rd (wr S t 0 (rd S u1 0)) u1 1)) t 2 (rd (wr (wr S t 0 (rd S u1 0)) t 1 (rd (wr S t 0 (rd S u1 0)) u1 1)) u1 2)) u1 3)) u1 4)) t 5 (rd (wr (wr (wr (wr (wr S t 0 (rd S u1 0)) t 1 (rd (wr S t 0 (rd S u1 0)) u1 1)) t 2 (rd (wr (wr S t 0 (rd S u1 0)) t 1 (rd (wr S t 0 (rd S u1 0)) u1 1)) u1 2)) t 3 (rd (wr (wr (wr S t 0 (rd S u1 0)) t 1 (rd (wr S t 0 (rd S u1 0)) u1 1)) t 2 (rd (wr (wr S t 0 (rd S u1 0)) t 1 (rd (wr S t 0 (rd S u1 0)) u1 1)) u1 2)) u1 3)) t 4 (rd (wr (wr (wr (wr S t 0 (rd S u1 0)) t 1 (rd (wr S t 0 (rd S u1 0)) u1 1)) t 2 (rd (wr (wr S t 0 (rd S u1 0)) t 1 (rd (wr S t 0 (rd S u1 0)) u1 1)) u1 2)) t 3 (rd (wr (wr (wr S t 0 (rd S u1 0)) t 1 (rd (wr S t 0 (rd S u1 0)) u1 1)) t 2 (rd (wr (wr S t 0 (rd S u1 0)) t 1 (rd (wr S t 0 (rd S u1 0)) u1 1)) u1 2)) u1 3)) u1 4)) u1 5)) u1 6)) t 7 (rd (wr (wr (wr (wr (wr (wr (wr S t 0 (rd S u1 0)) t 1 (rd (wr S t 0 (rd S u1 0)) u1 1)) t 2 (rd (wr (wr S t 0 (rd S u1 0)) t 1 (rd (wr S t 0 (rd S u1 0)) u1 1)) u1 2)) t 3 (rd (wr (wr (wr S t 0 (rd S u1 0)) t 1 (rd (wr S t 0 (rd S u1 0)) u1 1)) t 2 (rd (wr (wr S t 0 (rd S u1 0)) t 1 (rd (wr S t 0 (rd S u1 0)) u1 1)) u1 2)) u1 3)) t 4 (rd (wr (wr (wr (wr S t 0 (rd S u1 0)) t 1 (rd (wr S t 0 (rd S u1 0)) u1 1)) t 2 (rd (wr (wr S t 0 (rd S u1 0)) t 1 (rd (wr S t 0 (rd S u1 0)) u1 1)) u1 2)) t 3 (rd (wr (wr (wr S t 0 (rd S u1 0)) t 1 (rd (wr S t 0 (rd S u1 0)) u1 1)) t 2 (rd (wr (wr S t 0 (rd S u1 0)) t 1 (rd (wr S t 0 (rd S u1 0)) u1 1)) u1 2)) u1 3)) u1 4)) t 5 (rd (wr (wr (wr (wr (wr S t 0 (rd S u1 0)) t 1 (rd (wr S t 0 (rd S u1 0)) u1 1)) t 2 (rd (wr (wr S t 0 (rd S u1 0)) t 1 (rd (wr S t 0 (rd S u1 0)) u1 1)) u1 2)) t 3 (rd (wr (wr (wr S t 0 (rd S u1 0)) t 1 (rd (wr S t 0 (rd S u1 0)) u1 1)) t 2 (rd (wr (wr S t 0 (rd S u1 0)) t 1 (rd (wr S t 0 (rd S u1 0)) u1 1)) u1 2)) u1 3)) t 4 (rd (wr (wr (wr (wr S t 0 (rd S u1 0)) t 1 (rd (wr S t 0 (rd S u1 0)) u1 1)) t 2 (rd (wr (wr S t 0 (rd S u1 0)) t 1 (rd (wr S t 0 (rd S u1 0)) u1 1)) u1 2)) t 3 (rd (wr (wr (wr S t 0 (rd S u1 0)) t 1 (rd (wr S t 0 (rd S u1 0)) u1 1)) t 2 (rd (wr (wr S t 0 (rd S u1 0)) t 1 (rd (wr S t 0 (rd S u1 0)) u1 1)) u1 2)) u1 3)) u1 4)) u1 5)) t 6 (rd (wr (wr (wr (wr (wr (wr S t 0 (rd S u1 0)) t 1 (rd (wr S t 0 (rd S u1 0)) u1 1)) t 2 (rd (wr (wr S t 0 (rd S u1 0)) t 1 (rd (wr S t 0 (rd S u1 0)) u1 1)) u1 2)) t 3 (rd (wr (wr (wr S t 0 (rd S u1 0)) t 1 (rd (wr S t 0 (rd S u1 0)) u1 1)) t 2 (rd (wr (wr S t 0 (rd S u1 0)) t 1 (rd (wr S t 0 (rd S u1 0)) u1 1)) u1 2)) u1 3)) t 4 (rd (wr (wr (wr (wr S t 0 (rd S u1 0)) t 1 (rd (wr S t 0 (rd S u1 0)) u1 1)) t 2 (rd (wr (wr S t 0 (rd S u1 0)) t 1 (rd (wr S t 0 (rd S u1 0)) u1 1)) u1 2)) t 3 (rd (wr (wr (wr S t 0 (rd S u1 0)) t 1 (rd (wr S t 0 (rd S u1 0)) u1 1)) t 2 (rd (wr (wr S t 0 (rd S u1 0)) t 1 (rd (wr S t 0 (rd S u1 0)) u1 1)) u1 2)) u1 3)) u1 4)) t 5 (rd (wr (wr (wr (wr (wr S t 0 (rd S u1 0)) t 1 (rd (wr S t 0 (rd S u1 0)) u1 1)) t 2 (rd (wr (wr S t 0 (rd S u1 0)) t 1 (rd (wr S t 0 (rd S u1 0)) u1 1)) u1 2)) t 3 (rd (wr (wr (wr S t 0 (rd S u1 0)) t 1 (rd (wr S t 0 (rd S u1 0)) u1 1)) t 2 (rd (wr (wr S t 0 (rd S u1 0)) t 1 (rd (wr S t 0 (rd S u1 0)) u1 1)) u1 2)) u1 3)) t 4 (rd (wr (wr (wr (wr S t 0 (rd S u1 0)) t 1 (rd (wr S t 0 (rd S u1 0)) u1 1)) t 2 (rd (wr (wr S t 0 (rd S u1 0)) t 1 (rd (wr S t 0 (rd S u1 0)) u1 1)) u1 2)) t 3 (rd (wr (wr (wr S t 0 (rd S u1 0)) t 1 (rd (wr S t 0 (rd S u1 0)) u1 1)) t 2 (rd (wr (wr S t 0 (rd S u1 0)) t 1 (rd (wr S t 0 (rd S u1 0)) u1 1)) u1 2)) u1 3)) u1 4)) u1 5)) u1 6)) u1 7)) u1 8)) t 9 (rd (wr (wr (wr (wr (wr (wr (wr (wr (wr S t 0 (rd S u1 0)) t 1 (rd (wr S t 0 (rd S u1 0)) u1 1)) t 2 (rd (wr (wr S t 0 (rd S u1 0)) t 1 (rd (wr S t 0 (rd S u1 0)) u1 1)) u1 2)) t 3 (rd (wr (wr (wr S t 0 (rd S u1 0)) t 1 (rd (wr S t 0 (rd S u1 0)) u1 1)) t 2 (rd (wr (wr S t 0 (rd S u1 0)) t 1 (rd (wr S t 0 (rd S u1 0)) u1 1)) u1 2)) u1 3)) t 4 (rd (wr (wr (wr (wr S t 0 (rd S u1 0)) t 1 (rd (wr S t 0 (rd S u1 0)) u1 1)) t 2 (rd (wr (wr S t 0 (rd S u1 0)) t 1 (rd (wr S t 0 (rd S u1 0)) u1 1)) u1 2)) t 3 (rd (wr (wr (wr S t 0 (rd S u1 0)) t 1 (rd (wr S t 0 (rd S u1 0)) u1 1)) t 2 (rd (wr (wr S t 0 (rd S u1 0)) t 1 (rd (wr S t 0 (rd S u1 0)) u1 1)) u1 2)) u1 3)) u1 4)) t 5 (rd (wr (wr (wr (wr (wr S t 0 (rd S u1 0)) t 1 (rd (wr S t 0 (rd S u1 0)) u1 1)) t 2 (rd (wr (wr S t 0 (rd S u1 0)) t 1 (rd (wr S t 0 (rd S u1 0)) u1 1)) u1 2)) t 3 (rd (wr (wr (wr S t 0 (rd S u1 0)) t 1 (rd (wr S t 0 (rd S u1 0)) u1 1)) t 2 (rd (wr (wr S t 0 (rd S u1 0)) t 1 (rd (wr S t 0 (rd S u1 0)) u1 1)) u1 2)) u1 3)) t 4 (rd (wr (wr (wr (wr S t 0 (rd S u1 0)) t 1 (rd (wr S t 0 (rd S u1 0)) u1 1)) t 2 (rd (wr (wr S t 0 (rd S u1 0)) t 1 (rd (wr S t 0 (rd S u1 0)) u1 1)) u1 2)) t 3 (rd (wr (wr (wr S t 0 (rd S u1 0)) t 1 (rd (wr S t 0 (rd S u1 0)) u1 1)) t 2 (rd (wr (wr S t 0 (rd S u1 0)) t 1 (rd (wr S t 0 (rd S u1 0)) u1 1)) u1 2)) u1 3)) u1 4)) u1 5)) t 6 (rd (wr (wr (wr (wr (wr (wr S t 0 (rd S u1 0)) t 1 (rd (wr S t 0 (rd S u1 0)) u1 1)) t 2 (rd (wr (wr S t 0 (rd S u1 0)) t 1 (rd (wr S t 0 (rd S u1 0)) u1 1)) u1 2)) t 3 (rd (wr (wr (wr S t 0 (rd S u1 0)) t 1 (rd (wr S t 0 (rd S u1 0)) u1 1)) t 2 (rd (wr (wr S t 0 (rd S u1 0)) t 1 (rd (wr S t 0 (rd S u1 0)) u1 1)) u1 2)) u1 3)) t 4 (rd (wr (wr (wr (wr S t 0 (rd S u1 0)) t 1 (rd (wr S t 0 (rd S u1 0)) u1 1)) t 2 (rd (wr (wr S t 0 (rd S u1 0)) t 1 (rd (wr S t 0 (rd S u1 0)) u1 1)) u1 2)) t 3 (rd (wr (wr (wr S t 0 (rd S u1 0)) t 1 (rd (wr S t 0 (rd S u1 0)) u1 1)) t 2 (rd (wr (wr S t 0 (rd S u1 0)) t 1 (rd (wr S t 0 (rd S u1 0)) u1 1)) u1 2)) u1 3)) u1 4)) t 5 (rd (wr (wr (wr (wr (wr S t 0 (rd S u1 0)) t 1 (rd (wr S t 0 (rd S u1 0)) u1 1)) t 2 (rd (wr (wr S t 0 (rd S u1 0)) t 1 (rd (wr S t 0 (rd S u1 0)) u1 1)) u1 2)) t 3 (rd (wr (wr (wr S t 0 (rd S u1 0)) t 1 (rd (wr S t 0 (rd S u1 0)) u1 1)) t 2 (rd (wr (wr S t 0 (rd S u1 0)) t 1 (rd (wr S t 0 (rd S u1 0)) u1 1)) u1 2)) u1 3)) t 4 (rd (wr (wr (wr (wr S t 0 (rd S u1 0)) t 1 (rd (wr S t 0 (rd S u1 0)) u1 1)) t 2 (rd (wr (wr S t 0 (rd S u1 0)) t 1 (rd (wr S t 0 (rd S u1 0)) u1 1)) u1 2)) t 3 (rd (wr (wr (wr S t 0 (rd S u1 0)) t 1 (rd (wr S t 0 (rd S u1 0)) u1 1)) t 2 (rd (wr (wr S t 0 (rd S u1 0)) t 1 (rd (wr S t 0 (rd S u1 0)) u1 1)) u1 2)) u1 3)) u1 4)) u1 5)) u1 6)) t 7 (rd (wr (wr (wr (wr (wr (wr (wr S t 0 (rd S u1 0)) t 1 (rd (wr S t 0 (rd S u1 0)) u1 1)) t 2 (rd (wr (wr S t 0 (rd S u1 0)) t 1 (rd (wr S t 0 (rd S u1 0)) u1 1)) u1 2)) t 3 (rd (wr (wr (wr S t 0 (rd S u1 0)) t 1 (rd (wr S t 0 (rd S u1 0)) u1 1)) t 2 (rd (wr (wr S t 0 (rd S u1 0)) t 1 (rd (wr S t 0 (rd S u1 0)) u1 1)) u1 2)) u1 3)) t 4 (rd (wr (wr (wr (wr S t 0 (rd S u1 0)) t 1 (rd (wr S t 0 (rd S u1 0)) u1 1)) t 2 (rd (wr (wr S t 0 (rd S u1 0)) t 1 (rd (wr S t 0 (rd S u1 0)) u1 1)) u1 2)) t 3 (rd (wr (wr (wr S t 0 (rd S u1 0)) t 1 (rd (wr S t 0 (rd S u1 0)) u1 1)) t 2 (rd (wr (wr S t 0 (rd S u1 0)) t 1 (rd (wr S t 0 (rd S u1 0)) u1 1)) u1 2)) u1 3)) u1 4)) t 5 (rd (wr (wr (wr (wr (wr S t 0 (rd S u1 0)) t 1 (rd (wr S t 0 (rd S u1 0)) u1 1)) t 2 (rd (wr (wr S t 0 (rd S u1 0)) t 1 (rd (wr S t 0 (rd S u1 0)) u1 1)) u1 2)) t 3 (rd (wr (wr (wr S t 0 (rd S u1 0)) t 1 (rd (wr S t 0 (rd S u1 0)) u1 1)) t 2 (rd (wr (wr S t 0 (rd S u1 0)) t 1 (rd (wr S t 0 (rd S u1 0)) u1 1)) u1 2)) u1 3)) t 4 (rd (wr (wr (wr (wr S t 0 (rd S u1 0)) t 1 (rd (wr S t 0 (rd S u1 0)) u1 1)) t 2 (rd (wr (wr S t 0 (rd S u1 0)) t 1 (rd (wr S t 0 (rd S u1 0)) u1 1)) u1 2)) t 3 (rd (wr (wr (wr S t 0 (rd S u1 0)) t 1 (rd (wr S t 0 (rd S u1 0)) u1 1)) t 2 (rd (wr (wr S t 0 (rd S u1 0)) t 1 (rd (wr S t 0 (rd S u1 0)) u1 1)) u1 2)) u1 3)) u1 4)) u1 5)) t 6 (rd (wr (wr (wr (wr (wr (wr S t 0 (rd S u1 0)) t 1 (rd (wr S t 0 (rd S u1 0)) u1 1)) t 2 (rd (wr (wr S t 0 (rd S u1 0)) t 1 (rd (wr S t 0 (rd S u1 0)) u1 1)) u1 2)) t 3 (rd (wr (wr (wr S t 0 (rd S u1 0)) t 1 (rd (wr S t 0 (rd S u1 0)) u1 1)) t 2 (rd (wr (wr S t 0 (rd S u1 0)) t 1 (rd (wr S t 0 (rd S u1 0)) u1 1)) u1 2)) u1 3)) t 4 (rd (wr (wr (wr (wr S t 0 (rd S u1 0)) t 1 (rd (wr S t 0 (rd S u1 0)) u1 1)) t 2 (rd (wr (wr S t 0 (rd S u1 0)) t 1 (rd (wr S t 0 (rd S u1 0)) u1 1)) u1 2)) t 3 (rd (wr (wr (wr S t 0 (rd S u1 0)) t 1 (rd (wr S t 0 (rd S u1 0)) u1 1)) t 2 (rd (wr (wr S t 0 (rd S u1 0)) t 1 (rd (wr S t 0 (rd S u1 0)) u1 1)) u1 2)) u1 3)) u1 4)) t 5 (rd (wr (wr (wr (wr (wr S t 0 (rd S u1 0)) t 1 (rd (wr S t 0 (rd S u1 0)) u1 1)) t 2 (rd (wr (wr S t 0 (rd S u1 0)) t 1 (rd (wr S t 0 (rd S u1 0)) u1 1)) u1 2)) t 3 (rd (wr (wr (wr S t 0 (rd S u1 0)) t 1 (rd (wr S t 0 (rd S u1 0)) u1 1)) t 2 (rd (wr (wr S t 0 (rd S u1 0)) t 1 (rd (wr S t 0 (rd S u1 0)) u1 1)) u1 2)) u1 3)) t 4 (rd (wr (wr (wr (wr S t 0 (rd S u1 0)) t 1 (rd (wr S t 0 (rd S u1 0)) u1 1)) t 2 (rd (wr (wr S t 0 (rd S u1 0)) t 1 (rd (wr S t 0 (rd S u1 0)) u1 1)) u1 2)) t 3 (rd (wr (wr (wr S t 0 (rd S u1 0)) t 1 (rd (wr S t 0 (rd S u1 0)) u1 1)) t 2 (rd (wr (wr S t 0 (rd S u1 0)) t 1 (rd (wr S t 0 (rd S u1 0)) u1 1)) u1 2)) u1 3)) u1 4)) u1 5)) u1 6)) u1 7)) t 8 (rd (wr (wr (wr (wr (wr (wr (wr (wr S t 0 (rd S u1 0)) t 1 (rd (wr S t 0 (rd S u1 0)) u1 1)) t 2 (rd (wr (wr S t 0 (rd S u1 0)) t 1 (rd (wr S t 0 (rd S u1 0)) u1 1)) u1 2)) t 3 (rd (wr (wr (wr S t 0 (rd S u1 0)) t 1 (rd (wr S t 0 (rd S u1 0)) u1 1)) t 2 (rd (wr (wr S t 0 (rd S u1 0)) t 1 (rd (wr S t 0 (rd S u1 0)) u1 1)) u1 2)) u1 3)) t 4 (rd (wr (wr (wr (wr S t 0 (rd S u1 0)) t 1 (rd (wr S t 0 (rd S u1 0)) u1 1)) t 2 (rd (wr (wr S t 0 (rd S u1 0)) t 1 (rd (wr S t 0 (rd S u1 0)) u1 1)) u1 2)) t 3 (rd (wr (wr (wr S t 0 (rd S u1 0)) t 1 (rd (wr S t 0 (rd S u1 0)) u1 1)) t 2 (rd (wr (wr S t 0 (rd S u1 0)) t 1 (rd (wr S t 0 (rd S u1 0)) u1 1)) u1 2)) u1 3)) u1 4)) t 5 (rd (wr (wr (wr (wr (wr S t 0 (rd S u1 0)) t 1 (rd (wr S t 0 (rd S u1 0)) u1 1)) t 2 (rd (wr (wr S t 0 (rd S u1 0)) t 1 (rd (wr S t 0 (rd S u1 0)) u1 1)) u1 2)) t 3 (rd (wr (wr (wr S t 0 (rd S u1 0)) t 1 (rd (wr S t 0 (rd S u1 0)) u1 1)) t 2 (rd (wr (wr S t 0 (rd S u1 0)) t 1 (rd (wr S t 0 (rd S u1 0)) u1 1)) u1 2)) u1 3)) t 4 (rd (wr (wr (wr (wr S t 0 (rd S u1 0)) t 1 (rd (wr S t 0 (rd S u1 0)) u1 1)) t 2 (rd (wr (wr S t 0 (rd S u1 0)) t 1 (rd (wr S t 0 (rd S u1 0)) u1 1)) u1 2)) t 3 (rd (wr (wr (wr S t 0 (rd S u1 0)) t 1 (rd (wr S t 0 (rd S u1 0)) u1 1)) t 2 (rd (wr (wr S t 0 (rd S u1 0)) t 1 (rd (wr S t 0 (rd S u1 0)) u1 1)) u1 2)) u1 3)) u1 4)) u1 5)) t 6 (rd (wr (wr (wr (wr (wr (wr S t 0 (rd S u1 0)) t 1 (rd (wr S t 0 (rd S u1 0)) u1 1)) t 2 (rd (wr (wr S t 0 (rd S u1 0)) t 1 (rd (wr S t 0 (rd S u1 0)) u1 1)) u1 2)) t 3 (rd (wr (wr (wr S t 0 (rd S u1 0)) t 1 (rd (wr S t 0 (rd S u1 0)) u1 1)) t 2 (rd (wr (wr S t 0 (rd S u1 0)) t 1 (rd (wr S t 0 (rd S u1 0)) u1 1)) u1 2)) u1 3)) t 4 (rd (wr (wr (wr (wr S t 0 (rd S u1 0)) t 1 (rd (wr S t 0 (rd S u1 0)) u1 1)) t 2 (rd (wr (wr S t 0 (rd S u1 0)) t 1 (rd (wr S t 0 (rd S u1 0)) u1 1)) u1 2)) t 3 (rd (wr (wr (wr S t 0 (rd S u1 0)) t 1 (rd (wr S t 0 (rd S u1 0)) u1 1)) t 2 (rd (wr (wr S t 0 (rd S u1 0)) t 1 (rd (wr S t 0 (rd S u1 0)) u1 1)) u1 2)) u1 3)) u1 4)) t 5 (rd (wr (wr (wr (wr (wr S t 0 (rd S u1 0)) t 1 (rd (wr S t 0 (rd S u1 0)) u1 1)) t 2 (rd (wr (wr S t 0 (rd S u1 0)) t 1 (rd (wr S t 0 (rd S u1 0)) u1 1)) u1 2)) t 3 (rd (wr (wr (wr S t 0 (rd S u1 0)) t 1 (rd (wr S t 0 (rd S u1 0)) u1 1)) t 2 (rd (wr (wr S t 0 (rd S u1 0)) t 1 (rd (wr S t 0 (rd S u1 0)) u1 1)) u1 2)) u1 3)) t 4 (rd (wr (wr (wr (wr S t 0 (rd S u1 0)) t 1 (rd (wr S t 0 (rd S u1 0)) u1 1)) t 2 (rd (wr (wr S t 0 (rd S u1 0)) t 1 (rd (wr S t 0 (rd S u1 0)) u1 1)) u1 2)) t 3 (rd (wr (wr (wr S t 0 (rd S u1 0)) t 1 (rd (wr S t 0 (rd S u1 0)) u1 1)) t 2 (rd (wr (wr S t 0 (rd S u1 0)) t 1 (rd (wr S t 0 (rd S u1 0)) u1 1)) u1 2)) u1 3)) u1 4)) u1 5)) u1 6)) t 7 (rd (wr (wr (wr (wr (wr (wr (wr S t 0 (rd S u1 0)) t 1 (rd (wr S t 0 (rd S u1 0)) u1 1)) t 2 (rd (wr (wr S t 0 (rd S u1 0)) t 1 (rd (wr S t 0 (rd S u1 0)) u1 1)) u1 2)) t 3 (rd (wr (wr (wr S t 0 (rd S u1 0)) t 1 (rd (wr S t 0 (rd S u1 0)) u1 1)) t 2 (rd (wr (wr S t 0 (rd S u1 0)) t 1 (rd (wr S t 0 (rd S u1 0)) u1 1)) u1 2)) u1 3)) t 4 (rd (wr (wr (wr (wr S t 0 (rd S u1 0)) t 1 (rd (wr S t 0 (rd S u1 0)) u1 1)) t 2 (rd (wr (wr S t 0 (rd S u1 0)) t 1 (rd (wr S t 0 (rd S u1 0)) u1 1)) u1 2)) t 3 (rd (wr (wr (wr S t 0 (rd S u1 0)) t 1 (rd (wr S t 0 (rd S u1 0)) u1 1)) t 2 (rd (wr (wr S t 0 (rd S u1 0)) t 1 (rd (wr S t 0 (rd S u1 0)) u1 1)) u1 2)) u1 3)) u1 4)) t 5 (rd (wr (wr (wr (wr (wr S t 0 (rd S u1 0)) t 1 (rd (wr S t 0 (rd S u1 0)) u1 1)) t 2 (rd (wr (wr S t 0 (rd S u1 0)) t 1 (rd (wr S t 0 (rd S u1 0)) u1 1)) u1 2)) t 3 (rd (wr (wr (wr S t 0 (rd S u1 0)) t 1 (rd (wr S t 0 (rd S u1 0)) u1 1)) t 2 (rd (wr (wr S t 0 (rd S u1 0)) t 1 (rd (wr S t 0 (rd S u1 0)) u1 1)) u1 2)) u1 3)) t 4 (rd (wr (wr (wr (wr S t 0 (rd S u1 0)) t 1 (rd (wr S t 0 (rd S u1 0)) u1 1)) t 2 (rd (wr (wr S t 0 (rd S u1 0)) t 1 (rd (wr S t 0 (rd S u1 0)) u1 1)) u1 2)) t 3 (rd (wr (wr (wr S t 0 (rd S u1 0)) t 1 (rd (wr S t 0 (rd S u1 0)) u1 1)) t 2 (rd (wr (wr S t 0 (rd S u1 0)) t 1 (rd (wr S t 0 (rd S u1 0)) u1 1)) u1 2)) u1 3)) u1 4)) u1 5)) t 6 (rd (wr (wr (wr (wr (wr (wr S t 0 (rd S u1 0)) t 1 (rd (wr S t 0 (rd S u1 0)) u1 1)) t 2 (rd (wr (wr S t 0 (rd S u1 0)) t 1 (rd (wr S t 0 (rd S u1 0)) u1 1)) u1 2)) t 3 (rd (wr (wr (wr S t 0 (rd S u1 0)) t 1 (rd (wr S t 0 (rd S u1 0)) u1 1)) t 2 (rd (wr (wr S t 0 (rd S u1 0)) t 1 (rd (wr S t 0 (rd S u1 0)) u1 1)) u1 2)) u1 3)) t 4 (rd (wr (wr (wr (wr S t 0 (rd S u1 0)) t 1 (rd (wr S t 0 (rd S u1 0)) u1 1)) t 2 (rd (wr (wr S t 0 (rd S u1 0)) t 1 (rd (wr S t 0 (rd S u1 0)) u1 1)) u1 2)) t 3 (rd (wr (wr (wr S t 0 (rd S u1 0)) t 1 (rd (wr S t 0 (rd S u1 0)) u1 1)) t 2 (rd (wr (wr S t 0 (rd S u1 0)) t 1 (rd (wr S t 0 (rd S u1 0)) u1 1)) u1 2)) u1 3)) u1 4)) t 5 (rd (wr (wr (wr (wr (wr S t 0 (rd S u1 0)) t 1 (rd (wr S t 0 (rd S u1 0)) u1 1)) t 2 (rd (wr (wr S t 0 (rd S u1 0)) t 1 (rd (wr S t 0 (rd S u1 0)) u1 1)) u1 2)) t 3 (rd (wr (wr (wr S t 0 (rd S u1 0)) t 1 (rd (wr S t 0 (rd S u1 0)) u1 1)) t 2 (rd (wr (wr S t 0 (rd S u1 0)) t 1 (rd (wr S t 0 (rd S u1 0)) u1 1)) u1 2)) u1 3)) t 4 (rd (wr (wr (wr (wr S t 0 (rd S u1 0)) t 1 (rd (wr S t 0 (rd S u1 0)) u1 1)) t 2 (rd (wr (wr S t 0 (rd S u1 0)) t 1 (rd (wr S t 0 (rd S u1 0)) u1 1)) u1 2)) t 3 (rd (wr (wr (wr S t 0 (rd S u1 0)) t 1 (rd (wr S t 0 (rd S u1 0)) u1 1)) t 2 (rd (wr (wr S t 0 (rd S u1 0)) t 1 (rd (wr S t 0 (rd S u1 0)) u1 1)) u1 2)) u1 3)) u1 4)) u1 5)) u1 6)) u1 7)) u1 8)) u1 9)) (u1 + 1) (t + 1) (ix (0 : Int32)) (ix (0 : Int32)) (ix (2 : Int32)))) else none
set_option maxRecDepth 100000 in
set_option maxHeartbeats 4000000 in
theorem m_X2_become (l : Launch) (w : Wd) (t : Nat) (u1 : Nat) (S : St) (ht : kd t = KdPlace) (hu1 : kd u1 = KdPlace) : J l w I_X2_become 0 [(0, .ref (w.2.1 + t)), (1, .ref (w.2.1 + u1))] [] S (fun b => (none, b)) (f_X2_become t u1 S) := by
  unfold f_X2_become
  refine j_aload_n (y := I_X2_become) 0 dX2_become_0 rfl rfl ?_
  refine j_aload_n (y := I_X2_become) 1 dX2_become_1 rfl rfl ?_
  refine j_getI (y := I_X2_become) fl_2_43 hu1 rfl dX2_become_2 ?_
  refine j_putI (y := I_X2_become) fp_2_43 ht rfl rfl rfl dX2_become_5 ?_
  refine j_aload_n (y := I_X2_become) 0 dX2_become_8 rfl rfl ?_
  refine j_aload_n (y := I_X2_become) 1 dX2_become_9 rfl rfl ?_
  refine j_getI (y := I_X2_become) fl_2_46 hu1 rfl dX2_become_10 ?_
  refine j_putI (y := I_X2_become) fp_2_46 ht rfl rfl rfl dX2_become_13 ?_
  refine j_aload_n (y := I_X2_become) 0 dX2_become_16 rfl rfl ?_
  refine j_aload_n (y := I_X2_become) 1 dX2_become_17 rfl rfl ?_
  refine j_getI (y := I_X2_become) fl_2_15 hu1 rfl dX2_become_18 ?_
  refine j_putI (y := I_X2_become) fp_2_15 ht rfl rfl rfl dX2_become_21 ?_
  refine j_aload_n (y := I_X2_become) 0 dX2_become_24 rfl rfl ?_
  refine j_aload_n (y := I_X2_become) 1 dX2_become_25 rfl rfl ?_
  refine j_getI (y := I_X2_become) fl_2_19 hu1 rfl dX2_become_26 ?_
  refine j_putI (y := I_X2_become) fp_2_19 ht rfl rfl rfl dX2_become_29 ?_
  refine j_aload_n (y := I_X2_become) 0 dX2_become_32 rfl rfl ?_
  refine j_aload_n (y := I_X2_become) 1 dX2_become_33 rfl rfl ?_
  refine j_getI (y := I_X2_become) fl_2_22 hu1 rfl dX2_become_34 ?_
  refine j_putI (y := I_X2_become) fp_2_22 ht rfl rfl rfl dX2_become_37 ?_
  refine j_aload_n (y := I_X2_become) 0 dX2_become_40 rfl rfl ?_
  refine j_aload_n (y := I_X2_become) 1 dX2_become_41 rfl rfl ?_
  refine j_getI (y := I_X2_become) fl_2_25 hu1 rfl dX2_become_42 ?_
  refine j_putI (y := I_X2_become) fp_2_25 ht rfl rfl rfl dX2_become_45 ?_
  refine j_aload_n (y := I_X2_become) 0 dX2_become_48 rfl rfl ?_
  refine j_aload_n (y := I_X2_become) 1 dX2_become_49 rfl rfl ?_
  refine j_getI (y := I_X2_become) fl_2_28 hu1 rfl dX2_become_50 ?_
  refine j_putI (y := I_X2_become) fp_2_28 ht rfl rfl rfl dX2_become_53 ?_
  refine j_aload_n (y := I_X2_become) 0 dX2_become_56 rfl rfl ?_
  refine j_aload_n (y := I_X2_become) 1 dX2_become_57 rfl rfl ?_
  refine j_getI (y := I_X2_become) fl_2_31 hu1 rfl dX2_become_58 ?_
  refine j_putI (y := I_X2_become) fp_2_31 ht rfl rfl rfl dX2_become_61 ?_
  refine j_aload_n (y := I_X2_become) 0 dX2_become_64 rfl rfl ?_
  refine j_aload_n (y := I_X2_become) 1 dX2_become_65 rfl rfl ?_
  refine j_getI (y := I_X2_become) fl_2_34 hu1 rfl dX2_become_66 ?_
  refine j_putI (y := I_X2_become) fp_2_34 ht rfl rfl rfl dX2_become_69 ?_
  refine j_aload_n (y := I_X2_become) 0 dX2_become_72 rfl rfl ?_
  refine j_aload_n (y := I_X2_become) 1 dX2_become_73 rfl rfl ?_
  refine j_getI (y := I_X2_become) fl_2_37 hu1 rfl dX2_become_74 ?_
  refine j_putI (y := I_X2_become) fp_2_37 ht rfl rfl rfl dX2_become_77 ?_
  refine j_aload_n (y := I_X2_become) 1 dX2_become_80 rfl rfl ?_
  refine j_getR (y := I_X2_become) (j := (u1 + 1)) fl_2_9 hu1 rfl rfl dX2_become_81 ?_
  refine j_iconst (y := I_X2_become) (v := 0) dX2_become_84 (by decide) ?_
  refine j_aload_n (y := I_X2_become) 0 dX2_become_85 rfl rfl ?_
  refine j_getR (y := I_X2_become) (j := (t + 1)) fl_2_9 ht rfl rfl dX2_become_86 ?_
  refine j_iconst (y := I_X2_become) (v := 0) dX2_become_89 (by decide) ?_
  refine j_iconst (y := I_X2_become) (v := 2) dX2_become_90 (by decide) ?_
  refine j_cpI (y := I_X2_become) (gm 778 (by decide +kernel) rfl) (gm 476 (by decide +kernel) rfl) (gm 475 (by decide +kernel) rfl) (gm 46 (by decide +kernel) rfl) (kd_PlaceA hu1) (kd_PlaceA ht) ⟨kd_ltA (kd_PlaceA hu1) (i := 0) (by decide), kd_ltA (kd_PlaceA ht) (i := 0) (by decide)⟩ (Nat.le_of_ble_eq_true rfl) (Nat.le_of_ble_eq_true rfl) dX2_become_91 ?_
  exact j_vret (y := I_X2_become) rfl dX2_become_94 rfl
theorem c_X2_become (l : Launch) (w : Wd) (t : Nat) (u1 : Nat) (S : St) (ht : kd t = KdPlace) (hu1 : kd u1 = KdPlace) : ∀ v, f_X2_become t u1 S = some v → CtS l w I_X2_become [.ref (w.2.1 + t), .ref (w.2.1 + u1)] S v none := fun v h => J.ct (av := [.ref (w.2.1 + t), .ref (w.2.1 + u1)]) (Nat.le_of_ble_eq_true rfl) pn_2 (m_X2_become l w t u1 S ht hu1) h
abbrev I_X2_isTree : MI := (yX2_isTree, cX2_isTree, 1, some .boolean, { frames := 0, cells := 0, slots := 0, locals := 0 })
theorem dX2_isTree_0 : decode cX2_isTree 0 = .ok (.aload_n 0, 1) := by decide +kernel
theorem dX2_isTree_1 : decode cX2_isTree 1 = .ok (.getfield 15, 3) := by decide +kernel
theorem dX2_isTree_4 : decode cX2_isTree 4 = .ok (.iconst 1, 1) := by decide +kernel
theorem dX2_isTree_5 : decode cX2_isTree 5 = .ok (.if_icmp .lt 15, 3) := by decide +kernel
theorem dX2_isTree_8 : decode cX2_isTree 8 = .ok (.aload_n 0, 1) := by decide +kernel
theorem dX2_isTree_9 : decode cX2_isTree 9 = .ok (.getfield 15, 3) := by decide +kernel
theorem dX2_isTree_12 : decode cX2_isTree 12 = .ok (.iconst 4, 1) := by decide +kernel
theorem dX2_isTree_13 : decode cX2_isTree 13 = .ok (.if_icmp .gt 7, 3) := by decide +kernel
theorem dX2_isTree_16 : decode cX2_isTree 16 = .ok (.iconst 1, 1) := by decide +kernel
theorem dX2_isTree_17 : decode cX2_isTree 17 = .ok (.goto 4, 3) := by decide +kernel
theorem dX2_isTree_20 : decode cX2_isTree 20 = .ok (.iconst 0, 1) := by decide +kernel
theorem dX2_isTree_21 : decode cX2_isTree 21 = .ok (.ireturn, 1) := by decide +kernel
def f_X2_isTree (t : Nat) (S : St) : Bool := if (rd S t 2) < (1 : Int32) then (false) else (if (4 : Int32) < (rd S t 2) then (false) else (true))
set_option maxRecDepth 100000 in
set_option maxHeartbeats 4000000 in
theorem m_X2_isTree (l : Launch) (w : Wd) (t : Nat) (S : St) (ht : kd t = KdPlace) : J l w I_X2_isTree 0 [(0, .ref (w.2.1 + t))] [] S (fun b => (some (.int (b2i b)), S)) (some (f_X2_isTree t S)) := by
  unfold f_X2_isTree
  refine j_aload_n (y := I_X2_isTree) 0 dX2_isTree_0 rfl rfl ?_
  refine j_getI (y := I_X2_isTree) fl_2_15 ht rfl dX2_isTree_1 ?_
  refine j_iconst (y := I_X2_isTree) (v := 1) dX2_isTree_4 (by decide) ?_
  refine j_si ?_
  refine j_icmp_lt (y := I_X2_isTree) 20 dX2_isTree_5 (by decide) (fun h5 => ?_) (fun h5 => ?_)
  · refine j_iconst (y := I_X2_isTree) (v := 0) dX2_isTree_20 (by decide) ?_
    exact j_zret (y := I_X2_isTree) (q := false) rfl rfl dX2_isTree_21 rfl
  · refine j_aload_n (y := I_X2_isTree) 0 dX2_isTree_8 rfl rfl ?_
    refine j_getI (y := I_X2_isTree) fl_2_15 ht rfl dX2_isTree_9 ?_
    refine j_iconst (y := I_X2_isTree) (v := 4) dX2_isTree_12 (by decide) ?_
    refine j_si ?_
    refine j_icmp_gt (y := I_X2_isTree) 20 dX2_isTree_13 (by decide) (fun h13 => ?_) (fun h13 => ?_)
    · refine j_iconst (y := I_X2_isTree) (v := 0) dX2_isTree_20 (by decide) ?_
      exact j_zret (y := I_X2_isTree) (q := false) rfl rfl dX2_isTree_21 rfl
    · refine j_iconst (y := I_X2_isTree) (v := 1) dX2_isTree_16 (by decide) ?_
      refine j_goto (y := I_X2_isTree) 21 dX2_isTree_17 (by decide) ?_
      exact j_zret (y := I_X2_isTree) (q := true) rfl rfl dX2_isTree_21 rfl
theorem c_X2_isTree (l : Launch) (w : Wd) (t : Nat) (S : St) (ht : kd t = KdPlace) : CtS l w I_X2_isTree [.ref (w.2.1 + t)] S S (some (.int (b2i (f_X2_isTree t S)))) := J.ct (av := [.ref (w.2.1 + t)]) (Nat.le_of_ble_eq_true rfl) pn_2 (m_X2_isTree l w t S ht) rfl
abbrev I_X2_partCount : MI := (yX2_partCount, cX2_partCount, 1, some .int, { frames := 1, cells := 0, slots := 0, locals := 20 })
theorem dX2_partCount_0 : decode cX2_partCount 0 = .ok (.aload_n 0, 1) := by decide +kernel
theorem dX2_partCount_1 : decode cX2_partCount 1 = .ok (.invokevirtual 55, 3) := by decide +kernel
theorem dX2_partCount_4 : decode cX2_partCount 4 = .ok (.ifCond .ne 5, 3) := by decide +kernel
theorem dX2_partCount_7 : decode cX2_partCount 7 = .ok (.iconst 0, 1) := by decide +kernel
theorem dX2_partCount_8 : decode cX2_partCount 8 = .ok (.ireturn, 1) := by decide +kernel
theorem dX2_partCount_9 : decode cX2_partCount 9 = .ok (.aload_n 0, 1) := by decide +kernel
theorem dX2_partCount_10 : decode cX2_partCount 10 = .ok (.getfield 15, 3) := by decide +kernel
theorem dX2_partCount_13 : decode cX2_partCount 13 = .ok (.iconst 2, 1) := by decide +kernel
theorem dX2_partCount_14 : decode cX2_partCount 14 = .ok (.if_icmp .ne 7, 3) := by decide +kernel
theorem dX2_partCount_17 : decode cX2_partCount 17 = .ok (.iconst 2, 1) := by decide +kernel
theorem dX2_partCount_18 : decode cX2_partCount 18 = .ok (.goto 4, 3) := by decide +kernel
theorem dX2_partCount_21 : decode cX2_partCount 21 = .ok (.iconst 1, 1) := by decide +kernel
theorem dX2_partCount_22 : decode cX2_partCount 22 = .ok (.ireturn, 1) := by decide +kernel
theorem cv_2_55 : CV RX2 55 0 2 I_X2_isTree := ⟨⟨⟨gm 556 (by decide +kernel) rfl, gm 401 (by decide +kernel) rfl, gm 40 (by decide +kernel) rfl, mh_2.1, mh_2.2, by decide +kernel⟩, gm 399 (by decide +kernel) rfl, gm 400 (by decide +kernel) rfl⟩, ⟨_, _, rfl⟩, rfl, rfl⟩
def f_X2_partCount (t : Nat) (S : St) : Int32 := if (f_X2_isTree t S) = true then (if (rd S t 2) = (2 : Int32) then ((2 : Int32)) else ((1 : Int32))) else ((0 : Int32))
set_option maxRecDepth 100000 in
set_option maxHeartbeats 4000000 in
theorem m_X2_partCount (l : Launch) (w : Wd) (t : Nat) (S : St) (ht : kd t = KdPlace) : J l w I_X2_partCount 0 [(0, .ref (w.2.1 + t))] [] S (fun b => (some (.int b), S)) (some (f_X2_partCount t S)) := by
  unfold f_X2_partCount
  refine j_aload_n (y := I_X2_partCount) 0 dX2_partCount_0 rfl rfl ?_
  refine j_callVzT (y := I_X2_partCount) (As := []) cv_2_55 ⟨Nat.le_of_ble_eq_true rfl, Nat.le_of_ble_eq_true rfl⟩ ht rfl (Nat.le_of_ble_eq_true rfl) dX2_partCount_1 (c_X2_isTree l w t S ht) ?_
  refine j_si ?_
  refine j_if_neB (y := I_X2_partCount) 9 dX2_partCount_4 (by decide) (fun h4 => ?_) (fun h4 => ?_)
  · refine j_aload_n (y := I_X2_partCount) 0 dX2_partCount_9 rfl rfl ?_
    refine j_getI (y := I_X2_partCount) fl_2_15 ht rfl dX2_partCount_10 ?_
    refine j_iconst (y := I_X2_partCount) (v := 2) dX2_partCount_13 (by decide) ?_
    refine j_si ?_
    refine j_icmp_ne (y := I_X2_partCount) 21 dX2_partCount_14 (by decide) (fun h14 => ?_) (fun h14 => ?_)
    · refine j_iconst (y := I_X2_partCount) (v := 1) dX2_partCount_21 (by decide) ?_
      exact j_iret (y := I_X2_partCount) rfl dX2_partCount_22 rfl
    · refine j_iconst (y := I_X2_partCount) (v := 2) dX2_partCount_17 (by decide) ?_
      refine j_goto (y := I_X2_partCount) 22 dX2_partCount_18 (by decide) ?_
      exact j_iret (y := I_X2_partCount) rfl dX2_partCount_22 rfl
  · refine j_iconst (y := I_X2_partCount) (v := 0) dX2_partCount_7 (by decide) ?_
    exact j_iret (y := I_X2_partCount) rfl dX2_partCount_8 rfl
theorem c_X2_partCount (l : Launch) (w : Wd) (t : Nat) (S : St) (ht : kd t = KdPlace) : CtS l w I_X2_partCount [.ref (w.2.1 + t)] S S (some (.int (f_X2_partCount t S))) := J.ct (av := [.ref (w.2.1 + t)]) (Nat.le_of_ble_eq_true rfl) pn_2 (m_X2_partCount l w t S ht) rfl
abbrev I_X2_sortOf : MI := (yX2_sortOf, cX2_sortOf, 2, some .int, { frames := 0, cells := 0, slots := 0, locals := 0 })
theorem dX2_sortOf_0 : decode cX2_sortOf 0 = .ok (.iload_n 1, 1) := by decide +kernel
theorem dX2_sortOf_1 : decode cX2_sortOf 1 = .ok (.ifCond .ne 10, 3) := by decide +kernel
theorem dX2_sortOf_4 : decode cX2_sortOf 4 = .ok (.aload_n 0, 1) := by decide +kernel
theorem dX2_sortOf_5 : decode cX2_sortOf 5 = .ok (.getfield 19, 3) := by decide +kernel
theorem dX2_sortOf_8 : decode cX2_sortOf 8 = .ok (.goto 7, 3) := by decide +kernel
theorem dX2_sortOf_11 : decode cX2_sortOf 11 = .ok (.aload_n 0, 1) := by decide +kernel
theorem dX2_sortOf_12 : decode cX2_sortOf 12 = .ok (.getfield 22, 3) := by decide +kernel
theorem dX2_sortOf_15 : decode cX2_sortOf 15 = .ok (.ireturn, 1) := by decide +kernel
def f_X2_sortOf (t : Nat) (x1 : Int32) (S : St) : Int32 := if x1 = 0 then ((rd S t 3)) else ((rd S t 4))
set_option maxRecDepth 100000 in
set_option maxHeartbeats 4000000 in
theorem m_X2_sortOf (l : Launch) (w : Wd) (t : Nat) (x1 : Int32) (S : St) (ht : kd t = KdPlace) : J l w I_X2_sortOf 0 [(0, .ref (w.2.1 + t)), (1, .int x1)] [] S (fun b => (some (.int b), S)) (some (f_X2_sortOf t x1 S)) := by
  unfold f_X2_sortOf
  refine j_iload_n (y := I_X2_sortOf) 1 dX2_sortOf_0 rfl rfl ?_
  refine j_si ?_
  refine j_if_ne (y := I_X2_sortOf) 11 dX2_sortOf_1 (by decide) (fun h1 => ?_) (fun h1 => ?_)
  · refine j_aload_n (y := I_X2_sortOf) 0 dX2_sortOf_11 rfl rfl ?_
    refine j_getI (y := I_X2_sortOf) fl_2_22 ht rfl dX2_sortOf_12 ?_
    exact j_iret (y := I_X2_sortOf) rfl dX2_sortOf_15 rfl
  · refine j_aload_n (y := I_X2_sortOf) 0 dX2_sortOf_4 rfl rfl ?_
    refine j_getI (y := I_X2_sortOf) fl_2_19 ht rfl dX2_sortOf_5 ?_
    refine j_goto (y := I_X2_sortOf) 15 dX2_sortOf_8 (by decide) ?_
    exact j_iret (y := I_X2_sortOf) rfl dX2_sortOf_15 rfl
theorem c_X2_sortOf (l : Launch) (w : Wd) (t : Nat) (x1 : Int32) (S : St) (ht : kd t = KdPlace) : CtS l w I_X2_sortOf [.ref (w.2.1 + t), .int x1] S S (some (.int (f_X2_sortOf t x1 S))) := J.ct (av := [.ref (w.2.1 + t), .int x1]) (Nat.le_of_ble_eq_true rfl) pn_2 (m_X2_sortOf l w t x1 S ht) rfl
abbrev I_X5_accepts : MI := (yX5_accepts, cX5_accepts, 2, some .boolean, { frames := 0, cells := 0, slots := 0, locals := 0 })
theorem dX5_accepts_0 : decode cX5_accepts 0 = .ok (.aload_n 0, 1) := by decide +kernel
theorem dX5_accepts_1 : decode cX5_accepts 1 = .ok (.getfield 31, 3) := by decide +kernel
theorem dX5_accepts_4 : decode cX5_accepts 4 = .ok (.iload_n 1, 1) := by decide +kernel
theorem dX5_accepts_5 : decode cX5_accepts 5 = .ok (.ishr, 1) := by decide +kernel
theorem dX5_accepts_6 : decode cX5_accepts 6 = .ok (.iconst 1, 1) := by decide +kernel
theorem dX5_accepts_7 : decode cX5_accepts 7 = .ok (.iand, 1) := by decide +kernel
theorem dX5_accepts_8 : decode cX5_accepts 8 = .ok (.iconst 1, 1) := by decide +kernel
theorem dX5_accepts_9 : decode cX5_accepts 9 = .ok (.if_icmp .ne 7, 3) := by decide +kernel
theorem dX5_accepts_12 : decode cX5_accepts 12 = .ok (.iconst 1, 1) := by decide +kernel
theorem dX5_accepts_13 : decode cX5_accepts 13 = .ok (.goto 4, 3) := by decide +kernel
theorem dX5_accepts_16 : decode cX5_accepts 16 = .ok (.iconst 0, 1) := by decide +kernel
theorem dX5_accepts_17 : decode cX5_accepts 17 = .ok (.ireturn, 1) := by decide +kernel
def f_X5_accepts (t : Nat) (x1 : Int32) (S : St) : Bool := if (((rd S t 5) >>> (x1 &&& 31)) &&& (1 : Int32)) = (1 : Int32) then (true) else (false)
set_option maxRecDepth 100000 in
set_option maxHeartbeats 4000000 in
theorem m_X5_accepts (l : Launch) (w : Wd) (t : Nat) (x1 : Int32) (S : St) (ht : kd t = KdSort) : J l w I_X5_accepts 0 [(0, .ref (w.2.1 + t)), (1, .int x1)] [] S (fun b => (some (.int (b2i b)), S)) (some (f_X5_accepts t x1 S)) := by
  unfold f_X5_accepts
  refine j_aload_n (y := I_X5_accepts) 0 dX5_accepts_0 rfl rfl ?_
  refine j_getI (y := I_X5_accepts) fl_5_31 ht rfl dX5_accepts_1 ?_
  refine j_iload_n (y := I_X5_accepts) 1 dX5_accepts_4 rfl rfl ?_
  refine j_ishr (y := I_X5_accepts) dX5_accepts_5 ?_
  refine j_iconst (y := I_X5_accepts) (v := 1) dX5_accepts_6 (by decide) ?_
  refine j_iand (y := I_X5_accepts) dX5_accepts_7 ?_
  refine j_iconst (y := I_X5_accepts) (v := 1) dX5_accepts_8 (by decide) ?_
  refine j_si ?_
  refine j_icmp_ne (y := I_X5_accepts) 16 dX5_accepts_9 (by decide) (fun h9 => ?_) (fun h9 => ?_)
  · refine j_iconst (y := I_X5_accepts) (v := 0) dX5_accepts_16 (by decide) ?_
    exact j_zret (y := I_X5_accepts) (q := false) rfl rfl dX5_accepts_17 rfl
  · refine j_iconst (y := I_X5_accepts) (v := 1) dX5_accepts_12 (by decide) ?_
    refine j_goto (y := I_X5_accepts) 17 dX5_accepts_13 (by decide) ?_
    exact j_zret (y := I_X5_accepts) (q := true) rfl rfl dX5_accepts_17 rfl
theorem c_X5_accepts (l : Launch) (w : Wd) (t : Nat) (x1 : Int32) (S : St) (ht : kd t = KdSort) : CtS l w I_X5_accepts [.ref (w.2.1 + t), .int x1] S S (some (.int (b2i (f_X5_accepts t x1 S)))) := J.ct (av := [.ref (w.2.1 + t), .int x1]) (Nat.le_of_ble_eq_true rfl) pn_5 (m_X5_accepts l w t x1 S ht) rfl
abbrev I_X5_spoil : MI := (yX5_spoil, cX5_spoil, 4, some .int, { frames := 1, cells := 0, slots := 0, locals := 22 })
theorem dX5_spoil_0 : decode cX5_spoil 0 = .ok (.iload_n 1, 1) := by decide +kernel
theorem dX5_spoil_1 : decode cX5_spoil 1 = .ok (.aload_n 0, 1) := by decide +kernel
theorem dX5_spoil_2 : decode cX5_spoil 2 = .ok (.getfield 25, 3) := by decide +kernel
theorem dX5_spoil_5 : decode cX5_spoil 5 = .ok (.isub, 1) := by decide +kernel
theorem dX5_spoil_6 : decode cX5_spoil 6 = .ok (.bipush 60, 2) := by decide +kernel
theorem dX5_spoil_8 : decode cX5_spoil 8 = .ok (.invokestatic 43, 3) := by decide +kernel
theorem dX5_spoil_11 : decode cX5_spoil 11 = .ok (.istore_n 2, 1) := by decide +kernel
theorem dX5_spoil_12 : decode cX5_spoil 12 = .ok (.aload_n 0, 1) := by decide +kernel
theorem dX5_spoil_13 : decode cX5_spoil 13 = .ok (.getfield 9, 3) := by decide +kernel
theorem dX5_spoil_16 : decode cX5_spoil 16 = .ok (.iload_n 2, 1) := by decide +kernel
theorem dX5_spoil_17 : decode cX5_spoil 17 = .ok (.iaload, 1) := by decide +kernel
theorem dX5_spoil_18 : decode cX5_spoil 18 = .ok (.istore_n 3, 1) := by decide +kernel
theorem dX5_spoil_19 : decode cX5_spoil 19 = .ok (.aload_n 0, 1) := by decide +kernel
theorem dX5_spoil_20 : decode cX5_spoil 20 = .ok (.getfield 9, 3) := by decide +kernel
theorem dX5_spoil_23 : decode cX5_spoil 23 = .ok (.iload_n 2, 1) := by decide +kernel
theorem dX5_spoil_24 : decode cX5_spoil 24 = .ok (.iconst 0, 1) := by decide +kernel
theorem dX5_spoil_25 : decode cX5_spoil 25 = .ok (.iastore, 1) := by decide +kernel
theorem dX5_spoil_26 : decode cX5_spoil 26 = .ok (.aload_n 0, 1) := by decide +kernel
theorem dX5_spoil_27 : decode cX5_spoil 27 = .ok (.dup, 1) := by decide +kernel
theorem dX5_spoil_28 : decode cX5_spoil 28 = .ok (.getfield 34, 3) := by decide +kernel
theorem dX5_spoil_31 : decode cX5_spoil 31 = .ok (.iload_n 3, 1) := by decide +kernel
theorem dX5_spoil_32 : decode cX5_spoil 32 = .ok (.isub, 1) := by decide +kernel
theorem dX5_spoil_33 : decode cX5_spoil 33 = .ok (.putfield 34, 3) := by decide +kernel
theorem dX5_spoil_36 : decode cX5_spoil 36 = .ok (.iload_n 3, 1) := by decide +kernel
theorem dX5_spoil_37 : decode cX5_spoil 37 = .ok (.ireturn, 1) := by decide +kernel
def f_X5_spoil (t : Nat) (x1 : Int32) (S : St) : Option (Int32 × St) := if inb (fmI (x1 - (rd S t 3)) (60 : Int32)) 60 = true then (if inb (fmI (x1 - (rd S t 3)) (60 : Int32)) 60 = true then (some ((rd S (t + 1) (ix (fmI (x1 - (rd S t 3)) (60 : Int32)))), (wr (wr S (t + 1) (ix (fmI (x1 - (rd S t 3)) (60 : Int32))) (0 : Int32)) t 6 ((rd (wr S (t + 1) (ix (fmI (x1 - (rd S t 3)) (60 : Int32))) (0 : Int32)) t 6) - (rd S (t + 1) (ix (fmI (x1 - (rd S t 3)) (60 : Int32)))))))) else none) else none
set_option maxRecDepth 100000 in
set_option maxHeartbeats 4000000 in
theorem m_X5_spoil (l : Launch) (w : Wd) (t : Nat) (x1 : Int32) (S : St) (ht : kd t = KdSort) : J l w I_X5_spoil 0 [(0, .ref (w.2.1 + t)), (1, .int x1)] [] S (fun b => (some (.int b.1), b.2)) (f_X5_spoil t x1 S) := by
  unfold f_X5_spoil
  refine j_iload_n (y := I_X5_spoil) 1 dX5_spoil_0 rfl rfl ?_
  refine j_aload_n (y := I_X5_spoil) 0 dX5_spoil_1 rfl rfl ?_
  refine j_getI (y := I_X5_spoil) fl_5_25 ht rfl dX5_spoil_2 ?_
  refine j_isub (y := I_X5_spoil) dX5_spoil_5 ?_
  refine j_bipush (y := I_X5_spoil) (v := 60) dX5_spoil_6 (by decide) ?_
  refine j_mfloor (y := I_X5_spoil) (gm 599 (by decide +kernel) rfl) (by decide) (Nat.le_of_ble_eq_true rfl) (Nat.le_of_ble_eq_true rfl) dX5_spoil_8 ?_
  refine j_istore_n (y := I_X5_spoil) (ls' := [(2, .int (fmI (x1 - (rd S t 3)) (60 : Int32))), (0, .ref (w.2.1 + t)), (1, .int x1)]) dX5_spoil_11 rfl (by decide) rfl ?_
  refine j_aload_n (y := I_X5_spoil) 1 dX5_spoil_12 rfl rfl ?_
  refine j_getR (y := I_X5_spoil) (j := (t + 1)) fl_5_9 ht rfl rfl dX5_spoil_13 ?_
  refine j_iload_n (y := I_X5_spoil) 0 dX5_spoil_16 rfl rfl ?_
  refine j_iald (y := I_X5_spoil) (kd_SortA ht) dX5_spoil_17 (fun h17 => ?_)
  refine j_istore_n (y := I_X5_spoil) (ls' := [(3, .int (rd S (t + 1) (ix (fmI (x1 - (rd S t 3)) (60 : Int32))))), (2, .int (fmI (x1 - (rd S t 3)) (60 : Int32))), (0, .ref (w.2.1 + t)), (1, .int x1)]) dX5_spoil_18 rfl (by decide) rfl ?_
  refine j_aload_n (y := I_X5_spoil) 2 dX5_spoil_19 rfl rfl ?_
  refine j_getR (y := I_X5_spoil) (j := (t + 1)) fl_5_9 ht rfl rfl dX5_spoil_20 ?_
  refine j_iload_n (y := I_X5_spoil) 1 dX5_spoil_23 rfl rfl ?_
  refine j_iconst (y := I_X5_spoil) (v := 0) dX5_spoil_24 (by decide) ?_
  refine j_iast (y := I_X5_spoil) (kd_SortA ht) dX5_spoil_25 (fun h25 => ?_)
  refine j_aload_n (y := I_X5_spoil) 2 dX5_spoil_26 rfl rfl ?_
  refine j_dup (y := I_X5_spoil) dX5_spoil_27 rfl ?_
  refine j_getI (y := I_X5_spoil) fl_5_34 ht rfl dX5_spoil_28 ?_
  refine j_iload_n (y := I_X5_spoil) 0 dX5_spoil_31 rfl rfl ?_
  refine j_isub (y := I_X5_spoil) dX5_spoil_32 ?_
  refine j_putI (y := I_X5_spoil) fp_5_34 ht rfl rfl rfl dX5_spoil_33 ?_
  refine j_iload_n (y := I_X5_spoil) 0 dX5_spoil_36 rfl rfl ?_
  exact j_iret (y := I_X5_spoil) rfl dX5_spoil_37 rfl
theorem c_X5_spoil (l : Launch) (w : Wd) (t : Nat) (x1 : Int32) (S : St) (ht : kd t = KdSort) : ∀ v, f_X5_spoil t x1 S = some v → CtS l w I_X5_spoil [.ref (w.2.1 + t), .int x1] S v.2 (some (.int v.1)) := fun v h => J.ct (av := [.ref (w.2.1 + t), .int x1]) (Nat.le_of_ble_eq_true rfl) pn_5 (m_X5_spoil l w t x1 S ht) h
abbrev I_X2_shareOfBuds : MI := (yX2_shareOfBuds, cX2_shareOfBuds, 3, some .int, { frames := 0, cells := 0, slots := 0, locals := 0 })
theorem dX2_shareOfBuds_0 : decode cX2_shareOfBuds 0 = .ok (.aload_n 0, 1) := by decide +kernel
theorem dX2_shareOfBuds_1 : decode cX2_shareOfBuds 1 = .ok (.getfield 15, 3) := by decide +kernel
theorem dX2_shareOfBuds_4 : decode cX2_shareOfBuds 4 = .ok (.iconst 2, 1) := by decide +kernel
theorem dX2_shareOfBuds_5 : decode cX2_shareOfBuds 5 = .ok (.if_icmp .eq 5, 3) := by decide +kernel
theorem dX2_shareOfBuds_8 : decode cX2_shareOfBuds 8 = .ok (.iload_n 2, 1) := by decide +kernel
theorem dX2_shareOfBuds_9 : decode cX2_shareOfBuds 9 = .ok (.ireturn, 1) := by decide +kernel
theorem dX2_shareOfBuds_10 : decode cX2_shareOfBuds 10 = .ok (.iload_n 1, 1) := by decide +kernel
theorem dX2_shareOfBuds_11 : decode cX2_shareOfBuds 11 = .ok (.ifCond .ne 9, 3) := by decide +kernel
theorem dX2_shareOfBuds_14 : decode cX2_shareOfBuds 14 = .ok (.iload_n 2, 1) := by decide +kernel
theorem dX2_shareOfBuds_15 : decode cX2_shareOfBuds 15 = .ok (.iconst 2, 1) := by decide +kernel
theorem dX2_shareOfBuds_16 : decode cX2_shareOfBuds 16 = .ok (.idiv, 1) := by decide +kernel
theorem dX2_shareOfBuds_17 : decode cX2_shareOfBuds 17 = .ok (.goto 8, 3) := by decide +kernel
theorem dX2_shareOfBuds_20 : decode cX2_shareOfBuds 20 = .ok (.iload_n 2, 1) := by decide +kernel
theorem dX2_shareOfBuds_21 : decode cX2_shareOfBuds 21 = .ok (.iload_n 2, 1) := by decide +kernel
theorem dX2_shareOfBuds_22 : decode cX2_shareOfBuds 22 = .ok (.iconst 2, 1) := by decide +kernel
theorem dX2_shareOfBuds_23 : decode cX2_shareOfBuds 23 = .ok (.idiv, 1) := by decide +kernel
theorem dX2_shareOfBuds_24 : decode cX2_shareOfBuds 24 = .ok (.isub, 1) := by decide +kernel
theorem dX2_shareOfBuds_25 : decode cX2_shareOfBuds 25 = .ok (.ireturn, 1) := by decide +kernel
def f_X2_shareOfBuds (t : Nat) (x1 : Int32) (x2 : Int32) (S : St) : Int32 := if (rd S t 2) = (2 : Int32) then (if x1 = 0 then ((x2 / (2 : Int32))) else ((x2 - (x2 / (2 : Int32))))) else (x2)
set_option maxRecDepth 100000 in
set_option maxHeartbeats 4000000 in
theorem m_X2_shareOfBuds (l : Launch) (w : Wd) (t : Nat) (x1 : Int32) (x2 : Int32) (S : St) (ht : kd t = KdPlace) : J l w I_X2_shareOfBuds 0 [(0, .ref (w.2.1 + t)), (1, .int x1), (2, .int x2)] [] S (fun b => (some (.int b), S)) (some (f_X2_shareOfBuds t x1 x2 S)) := by
  unfold f_X2_shareOfBuds
  refine j_aload_n (y := I_X2_shareOfBuds) 0 dX2_shareOfBuds_0 rfl rfl ?_
  refine j_getI (y := I_X2_shareOfBuds) fl_2_15 ht rfl dX2_shareOfBuds_1 ?_
  refine j_iconst (y := I_X2_shareOfBuds) (v := 2) dX2_shareOfBuds_4 (by decide) ?_
  refine j_si ?_
  refine j_icmp_eq (y := I_X2_shareOfBuds) 10 dX2_shareOfBuds_5 (by decide) (fun h5 => ?_) (fun h5 => ?_)
  · refine j_iload_n (y := I_X2_shareOfBuds) 1 dX2_shareOfBuds_10 rfl rfl ?_
    refine j_si ?_
    refine j_if_ne (y := I_X2_shareOfBuds) 20 dX2_shareOfBuds_11 (by decide) (fun h11 => ?_) (fun h11 => ?_)
    · refine j_iload_n (y := I_X2_shareOfBuds) 2 dX2_shareOfBuds_20 rfl rfl ?_
      refine j_iload_n (y := I_X2_shareOfBuds) 2 dX2_shareOfBuds_21 rfl rfl ?_
      refine j_iconst (y := I_X2_shareOfBuds) (v := 2) dX2_shareOfBuds_22 (by decide) ?_
      refine j_idivL (y := I_X2_shareOfBuds) dX2_shareOfBuds_23 (by decide) ?_
      refine j_isub (y := I_X2_shareOfBuds) dX2_shareOfBuds_24 ?_
      exact j_iret (y := I_X2_shareOfBuds) rfl dX2_shareOfBuds_25 rfl
    · refine j_iload_n (y := I_X2_shareOfBuds) 2 dX2_shareOfBuds_14 rfl rfl ?_
      refine j_iconst (y := I_X2_shareOfBuds) (v := 2) dX2_shareOfBuds_15 (by decide) ?_
      refine j_idivL (y := I_X2_shareOfBuds) dX2_shareOfBuds_16 (by decide) ?_
      refine j_goto (y := I_X2_shareOfBuds) 25 dX2_shareOfBuds_17 (by decide) ?_
      exact j_iret (y := I_X2_shareOfBuds) rfl dX2_shareOfBuds_25 rfl
  · refine j_iload_n (y := I_X2_shareOfBuds) 2 dX2_shareOfBuds_8 rfl rfl ?_
    exact j_iret (y := I_X2_shareOfBuds) rfl dX2_shareOfBuds_9 rfl
theorem c_X2_shareOfBuds (l : Launch) (w : Wd) (t : Nat) (x1 : Int32) (x2 : Int32) (S : St) (ht : kd t = KdPlace) : CtS l w I_X2_shareOfBuds [.ref (w.2.1 + t), .int x1, .int x2] S S (some (.int (f_X2_shareOfBuds t x1 x2 S))) := J.ct (av := [.ref (w.2.1 + t), .int x1, .int x2]) (Nat.le_of_ble_eq_true rfl) pn_2 (m_X2_shareOfBuds l w t x1 x2 S ht) rfl
abbrev I_X2_heightIn : MI := (yX2_heightIn, cX2_heightIn, 2, some .int, { frames := 1, cells := 0, slots := 0, locals := 21 })
theorem dX2_heightIn_0 : decode cX2_heightIn 0 = .ok (.iload_n 1, 1) := by decide +kernel
theorem dX2_heightIn_1 : decode cX2_heightIn 1 = .ok (.aload_n 0, 1) := by decide +kernel
theorem dX2_heightIn_2 : decode cX2_heightIn 2 = .ok (.getfield 25, 3) := by decide +kernel
theorem dX2_heightIn_5 : decode cX2_heightIn 5 = .ok (.isub, 1) := by decide +kernel
theorem dX2_heightIn_6 : decode cX2_heightIn 6 = .ok (.aload_n 0, 1) := by decide +kernel
theorem dX2_heightIn_7 : decode cX2_heightIn 7 = .ok (.getfield 15, 3) := by decide +kernel
theorem dX2_heightIn_10 : decode cX2_heightIn 10 = .ok (.iconst 3, 1) := by decide +kernel
theorem dX2_heightIn_11 : decode cX2_heightIn 11 = .ok (.if_icmp .ne 7, 3) := by decide +kernel
theorem dX2_heightIn_14 : decode cX2_heightIn 14 = .ok (.iconst 1, 1) := by decide +kernel
theorem dX2_heightIn_15 : decode cX2_heightIn 15 = .ok (.goto 5, 3) := by decide +kernel
theorem dX2_heightIn_18 : decode cX2_heightIn 18 = .ok (.bipush 6, 2) := by decide +kernel
theorem dX2_heightIn_20 : decode cX2_heightIn 20 = .ok (.invokestatic 59, 3) := by decide +kernel
theorem dX2_heightIn_23 : decode cX2_heightIn 23 = .ok (.ireturn, 1) := by decide +kernel
def f_X2_heightIn (t : Nat) (x1 : Int32) (S : St) : Int32 := if (rd S t 2) = (3 : Int32) then ((mnI (x1 - (rd S t 5)) (1 : Int32))) else ((mnI (x1 - (rd S t 5)) (6 : Int32)))
set_option maxRecDepth 100000 in
set_option maxHeartbeats 4000000 in
theorem m_X2_heightIn (l : Launch) (w : Wd) (t : Nat) (x1 : Int32) (S : St) (ht : kd t = KdPlace) : J l w I_X2_heightIn 0 [(0, .ref (w.2.1 + t)), (1, .int x1)] [] S (fun b => (some (.int b), S)) (some (f_X2_heightIn t x1 S)) := by
  unfold f_X2_heightIn
  refine j_iload_n (y := I_X2_heightIn) 1 dX2_heightIn_0 rfl rfl ?_
  refine j_aload_n (y := I_X2_heightIn) 0 dX2_heightIn_1 rfl rfl ?_
  refine j_getI (y := I_X2_heightIn) fl_2_25 ht rfl dX2_heightIn_2 ?_
  refine j_isub (y := I_X2_heightIn) dX2_heightIn_5 ?_
  refine j_aload_n (y := I_X2_heightIn) 0 dX2_heightIn_6 rfl rfl ?_
  refine j_getI (y := I_X2_heightIn) fl_2_15 ht rfl dX2_heightIn_7 ?_
  refine j_iconst (y := I_X2_heightIn) (v := 3) dX2_heightIn_10 (by decide) ?_
  refine j_si ?_
  refine j_icmp_ne (y := I_X2_heightIn) 18 dX2_heightIn_11 (by decide) (fun h11 => ?_) (fun h11 => ?_)
  · refine j_bipush (y := I_X2_heightIn) (v := 6) dX2_heightIn_18 (by decide) ?_
    refine j_mmin (y := I_X2_heightIn) (gm 414 (by decide +kernel) rfl) (Nat.le_of_ble_eq_true rfl) (Nat.le_of_ble_eq_true rfl) dX2_heightIn_20 ?_
    exact j_iret (y := I_X2_heightIn) rfl dX2_heightIn_23 rfl
  · refine j_iconst (y := I_X2_heightIn) (v := 1) dX2_heightIn_14 (by decide) ?_
    refine j_goto (y := I_X2_heightIn) 20 dX2_heightIn_15 (by decide) ?_
    refine j_mmin (y := I_X2_heightIn) (gm 414 (by decide +kernel) rfl) (Nat.le_of_ble_eq_true rfl) (Nat.le_of_ble_eq_true rfl) dX2_heightIn_20 ?_
    exact j_iret (y := I_X2_heightIn) rfl dX2_heightIn_23 rfl
theorem c_X2_heightIn (l : Launch) (w : Wd) (t : Nat) (x1 : Int32) (S : St) (ht : kd t = KdPlace) : CtS l w I_X2_heightIn [.ref (w.2.1 + t), .int x1] S S (some (.int (f_X2_heightIn t x1 S))) := J.ct (av := [.ref (w.2.1 + t), .int x1]) (Nat.le_of_ble_eq_true rfl) pn_2 (m_X2_heightIn l w t x1 S ht) rfl
abbrev I_X6_upQuotient : MI := (yX6_upQuotient, cX6_upQuotient, 2, some .int, { frames := 0, cells := 0, slots := 0, locals := 0 })
theorem dX6_upQuotient_0 : decode cX6_upQuotient 0 = .ok (.iload_n 1, 1) := by decide +kernel
theorem dX6_upQuotient_1 : decode cX6_upQuotient 1 = .ok (.ifCond .gt 7, 3) := by decide +kernel
theorem dX6_upQuotient_4 : decode cX6_upQuotient 4 = .ok (.iconst 0, 1) := by decide +kernel
theorem dX6_upQuotient_5 : decode cX6_upQuotient 5 = .ok (.goto 10, 3) := by decide +kernel
theorem dX6_upQuotient_8 : decode cX6_upQuotient 8 = .ok (.iload_n 0, 1) := by decide +kernel
theorem dX6_upQuotient_9 : decode cX6_upQuotient 9 = .ok (.iload_n 1, 1) := by decide +kernel
theorem dX6_upQuotient_10 : decode cX6_upQuotient 10 = .ok (.iadd, 1) := by decide +kernel
theorem dX6_upQuotient_11 : decode cX6_upQuotient 11 = .ok (.iconst 1, 1) := by decide +kernel
theorem dX6_upQuotient_12 : decode cX6_upQuotient 12 = .ok (.isub, 1) := by decide +kernel
theorem dX6_upQuotient_13 : decode cX6_upQuotient 13 = .ok (.iload_n 1, 1) := by decide +kernel
theorem dX6_upQuotient_14 : decode cX6_upQuotient 14 = .ok (.idiv, 1) := by decide +kernel
theorem dX6_upQuotient_15 : decode cX6_upQuotient 15 = .ok (.ireturn, 1) := by decide +kernel
def f_X6_upQuotient (x0 : Int32) (x1 : Int32)  : Option (Int32) := if 0 < x1 then (if x1 = 0 then none else (some (((x0 + x1) - (1 : Int32)) / x1))) else (some (0 : Int32))
set_option maxRecDepth 100000 in
set_option maxHeartbeats 4000000 in
theorem m_X6_upQuotient (l : Launch) (w : Wd) (x0 : Int32) (x1 : Int32) (S : St)  : J l w I_X6_upQuotient 0 [(0, .int x0), (1, .int x1)] [] S (fun b => (some (.int b), S)) (f_X6_upQuotient x0 x1) := by
  unfold f_X6_upQuotient
  refine j_iload_n (y := I_X6_upQuotient) 1 dX6_upQuotient_0 rfl rfl ?_
  refine j_if_gt (y := I_X6_upQuotient) 8 dX6_upQuotient_1 (by decide) (fun h1 => ?_) (fun h1 => ?_)
  · refine j_iload_n (y := I_X6_upQuotient) 0 dX6_upQuotient_8 rfl rfl ?_
    refine j_iload_n (y := I_X6_upQuotient) 1 dX6_upQuotient_9 rfl rfl ?_
    refine j_iadd (y := I_X6_upQuotient) dX6_upQuotient_10 ?_
    refine j_iconst (y := I_X6_upQuotient) (v := 1) dX6_upQuotient_11 (by decide) ?_
    refine j_isub (y := I_X6_upQuotient) dX6_upQuotient_12 ?_
    refine j_iload_n (y := I_X6_upQuotient) 1 dX6_upQuotient_13 rfl rfl ?_
    refine j_idiv (y := I_X6_upQuotient) dX6_upQuotient_14 (fun h14 => ?_)
    exact j_iret (y := I_X6_upQuotient) rfl dX6_upQuotient_15 rfl
  · refine j_iconst (y := I_X6_upQuotient) (v := 0) dX6_upQuotient_4 (by decide) ?_
    refine j_goto (y := I_X6_upQuotient) 15 dX6_upQuotient_5 (by decide) ?_
    exact j_iret (y := I_X6_upQuotient) rfl dX6_upQuotient_15 rfl
theorem c_X6_upQuotient (l : Launch) (w : Wd) (x0 : Int32) (x1 : Int32) (S : St)  : ∀ v, f_X6_upQuotient x0 x1 = some v → CtS l w I_X6_upQuotient [.int x0, .int x1] S S (some (.int v)) := fun v h => J.ct (av := [.int x0, .int x1]) (Nat.le_of_ble_eq_true rfl) pn_6 (m_X6_upQuotient l w x0 x1 S ) h
abbrev I_X5_bring : MI := (yX5_bring, cX5_bring, 3, none, { frames := 0, cells := 0, slots := 0, locals := 0 })
theorem dX5_bring_0 : decode cX5_bring 0 = .ok (.aload_n 0, 1) := by decide +kernel
theorem dX5_bring_1 : decode cX5_bring 1 = .ok (.getfield 9, 3) := by decide +kernel
theorem dX5_bring_4 : decode cX5_bring 4 = .ok (.iload_n 2, 1) := by decide +kernel
theorem dX5_bring_5 : decode cX5_bring 5 = .ok (.dup2, 1) := by decide +kernel
theorem dX5_bring_6 : decode cX5_bring 6 = .ok (.iaload, 1) := by decide +kernel
theorem dX5_bring_7 : decode cX5_bring 7 = .ok (.iload_n 1, 1) := by decide +kernel
theorem dX5_bring_8 : decode cX5_bring 8 = .ok (.iadd, 1) := by decide +kernel
theorem dX5_bring_9 : decode cX5_bring 9 = .ok (.iastore, 1) := by decide +kernel
theorem dX5_bring_10 : decode cX5_bring 10 = .ok (.aload_n 0, 1) := by decide +kernel
theorem dX5_bring_11 : decode cX5_bring 11 = .ok (.dup, 1) := by decide +kernel
theorem dX5_bring_12 : decode cX5_bring 12 = .ok (.getfield 34, 3) := by decide +kernel
theorem dX5_bring_15 : decode cX5_bring 15 = .ok (.iload_n 1, 1) := by decide +kernel
theorem dX5_bring_16 : decode cX5_bring 16 = .ok (.iadd, 1) := by decide +kernel
theorem dX5_bring_17 : decode cX5_bring 17 = .ok (.putfield 34, 3) := by decide +kernel
theorem dX5_bring_20 : decode cX5_bring 20 = .ok (.return_, 1) := by decide +kernel
def f_X5_bring (t : Nat) (x1 : Int32) (x2 : Int32) (S : St) : Option (St) := if inb x2 60 = true then (if inb x2 60 = true then (some (wr (wr S (t + 1) (ix x2) ((rd S (t + 1) (ix x2)) + x1)) t 6 ((rd (wr S (t + 1) (ix x2) ((rd S (t + 1) (ix x2)) + x1)) t 6) + x1))) else none) else none
set_option maxRecDepth 100000 in
set_option maxHeartbeats 4000000 in
theorem m_X5_bring (l : Launch) (w : Wd) (t : Nat) (x1 : Int32) (x2 : Int32) (S : St) (ht : kd t = KdSort) : J l w I_X5_bring 0 [(0, .ref (w.2.1 + t)), (1, .int x1), (2, .int x2)] [] S (fun b => (none, b)) (f_X5_bring t x1 x2 S) := by
  unfold f_X5_bring
  refine j_aload_n (y := I_X5_bring) 0 dX5_bring_0 rfl rfl ?_
  refine j_getR (y := I_X5_bring) (j := (t + 1)) fl_5_9 ht rfl rfl dX5_bring_1 ?_
  refine j_iload_n (y := I_X5_bring) 2 dX5_bring_4 rfl rfl ?_
  refine j_dup2 (y := I_X5_bring) dX5_bring_5 rfl rfl ?_
  refine j_iald (y := I_X5_bring) (kd_SortA ht) dX5_bring_6 (fun h6 => ?_)
  refine j_iload_n (y := I_X5_bring) 1 dX5_bring_7 rfl rfl ?_
  refine j_iadd (y := I_X5_bring) dX5_bring_8 ?_
  refine j_iast (y := I_X5_bring) (kd_SortA ht) dX5_bring_9 (fun h9 => ?_)
  refine j_aload_n (y := I_X5_bring) 0 dX5_bring_10 rfl rfl ?_
  refine j_dup (y := I_X5_bring) dX5_bring_11 rfl ?_
  refine j_getI (y := I_X5_bring) fl_5_34 ht rfl dX5_bring_12 ?_
  refine j_iload_n (y := I_X5_bring) 1 dX5_bring_15 rfl rfl ?_
  refine j_iadd (y := I_X5_bring) dX5_bring_16 ?_
  refine j_putI (y := I_X5_bring) fp_5_34 ht rfl rfl rfl dX5_bring_17 ?_
  exact j_vret (y := I_X5_bring) rfl dX5_bring_20 rfl
theorem c_X5_bring (l : Launch) (w : Wd) (t : Nat) (x1 : Int32) (x2 : Int32) (S : St) (ht : kd t = KdSort) : ∀ v, f_X5_bring t x1 x2 S = some v → CtS l w I_X5_bring [.ref (w.2.1 + t), .int x1, .int x2] S v none := fun v h => J.ct (av := [.ref (w.2.1 + t), .int x1, .int x2]) (Nat.le_of_ble_eq_true rfl) pn_5 (m_X5_bring l w t x1 x2 S ht) h
abbrev I_X2_fruitCount : MI := (yX2_fruitCount, cX2_fruitCount, 1, some .int, { frames := 0, cells := 0, slots := 0, locals := 0 })
theorem dX2_fruitCount_0 : decode cX2_fruitCount 0 = .ok (.aload_n 0, 1) := by decide +kernel
theorem dX2_fruitCount_1 : decode cX2_fruitCount 1 = .ok (.getfield 9, 3) := by decide +kernel
theorem dX2_fruitCount_4 : decode cX2_fruitCount 4 = .ok (.iconst 0, 1) := by decide +kernel
theorem dX2_fruitCount_5 : decode cX2_fruitCount 5 = .ok (.iaload, 1) := by decide +kernel
theorem dX2_fruitCount_6 : decode cX2_fruitCount 6 = .ok (.aload_n 0, 1) := by decide +kernel
theorem dX2_fruitCount_7 : decode cX2_fruitCount 7 = .ok (.getfield 9, 3) := by decide +kernel
theorem dX2_fruitCount_10 : decode cX2_fruitCount 10 = .ok (.iconst 1, 1) := by decide +kernel
theorem dX2_fruitCount_11 : decode cX2_fruitCount 11 = .ok (.iaload, 1) := by decide +kernel
theorem dX2_fruitCount_12 : decode cX2_fruitCount 12 = .ok (.iadd, 1) := by decide +kernel
theorem dX2_fruitCount_13 : decode cX2_fruitCount 13 = .ok (.ireturn, 1) := by decide +kernel
def f_X2_fruitCount (t : Nat) (S : St) : Option (Int32) := some ((rd S (t + 1) (ix (0 : Int32))) + (rd S (t + 1) (ix (1 : Int32))))
set_option maxRecDepth 100000 in
set_option maxHeartbeats 4000000 in
theorem m_X2_fruitCount (l : Launch) (w : Wd) (t : Nat) (S : St) (ht : kd t = KdPlace) : J l w I_X2_fruitCount 0 [(0, .ref (w.2.1 + t))] [] S (fun b => (some (.int b), S)) (f_X2_fruitCount t S) := by
  unfold f_X2_fruitCount
  refine j_aload_n (y := I_X2_fruitCount) 0 dX2_fruitCount_0 rfl rfl ?_
  refine j_getR (y := I_X2_fruitCount) (j := (t + 1)) fl_2_9 ht rfl rfl dX2_fruitCount_1 ?_
  refine j_iconst (y := I_X2_fruitCount) (v := 0) dX2_fruitCount_4 (by decide) ?_
  refine j_ialdL (y := I_X2_fruitCount) (kd_PlaceA ht) (by decide) dX2_fruitCount_5 ?_
  refine j_aload_n (y := I_X2_fruitCount) 0 dX2_fruitCount_6 rfl rfl ?_
  refine j_getR (y := I_X2_fruitCount) (j := (t + 1)) fl_2_9 ht rfl rfl dX2_fruitCount_7 ?_
  refine j_iconst (y := I_X2_fruitCount) (v := 1) dX2_fruitCount_10 (by decide) ?_
  refine j_ialdL (y := I_X2_fruitCount) (kd_PlaceA ht) (by decide) dX2_fruitCount_11 ?_
  refine j_iadd (y := I_X2_fruitCount) dX2_fruitCount_12 ?_
  exact j_iret (y := I_X2_fruitCount) rfl dX2_fruitCount_13 rfl
theorem c_X2_fruitCount (l : Launch) (w : Wd) (t : Nat) (S : St) (ht : kd t = KdPlace) : ∀ v, f_X2_fruitCount t S = some v → CtS l w I_X2_fruitCount [.ref (w.2.1 + t)] S S (some (.int v)) := fun v h => J.ct (av := [.ref (w.2.1 + t)]) (Nat.le_of_ble_eq_true rfl) pn_2 (m_X2_fruitCount l w t S ht) h
abbrev I_X2_clearFruits : MI := (yX2_clearFruits, cX2_clearFruits, 1, none, { frames := 0, cells := 0, slots := 0, locals := 0 })
theorem dX2_clearFruits_0 : decode cX2_clearFruits 0 = .ok (.aload_n 0, 1) := by decide +kernel
theorem dX2_clearFruits_1 : decode cX2_clearFruits 1 = .ok (.getfield 9, 3) := by decide +kernel
theorem dX2_clearFruits_4 : decode cX2_clearFruits 4 = .ok (.iconst 0, 1) := by decide +kernel
theorem dX2_clearFruits_5 : decode cX2_clearFruits 5 = .ok (.iconst 0, 1) := by decide +kernel
theorem dX2_clearFruits_6 : decode cX2_clearFruits 6 = .ok (.iastore, 1) := by decide +kernel
theorem dX2_clearFruits_7 : decode cX2_clearFruits 7 = .ok (.aload_n 0, 1) := by decide +kernel
theorem dX2_clearFruits_8 : decode cX2_clearFruits 8 = .ok (.getfield 9, 3) := by decide +kernel
theorem dX2_clearFruits_11 : decode cX2_clearFruits 11 = .ok (.iconst 1, 1) := by decide +kernel
theorem dX2_clearFruits_12 : decode cX2_clearFruits 12 = .ok (.iconst 0, 1) := by decide +kernel
theorem dX2_clearFruits_13 : decode cX2_clearFruits 13 = .ok (.iastore, 1) := by decide +kernel
theorem dX2_clearFruits_14 : decode cX2_clearFruits 14 = .ok (.return_, 1) := by decide +kernel
def f_X2_clearFruits (t : Nat) (S : St) : Option (St) := some (wr (wr S (t + 1) (ix (0 : Int32)) (0 : Int32)) (t + 1) (ix (1 : Int32)) (0 : Int32))
set_option maxRecDepth 100000 in
set_option maxHeartbeats 4000000 in
theorem m_X2_clearFruits (l : Launch) (w : Wd) (t : Nat) (S : St) (ht : kd t = KdPlace) : J l w I_X2_clearFruits 0 [(0, .ref (w.2.1 + t))] [] S (fun b => (none, b)) (f_X2_clearFruits t S) := by
  unfold f_X2_clearFruits
  refine j_aload_n (y := I_X2_clearFruits) 0 dX2_clearFruits_0 rfl rfl ?_
  refine j_getR (y := I_X2_clearFruits) (j := (t + 1)) fl_2_9 ht rfl rfl dX2_clearFruits_1 ?_
  refine j_iconst (y := I_X2_clearFruits) (v := 0) dX2_clearFruits_4 (by decide) ?_
  refine j_iconst (y := I_X2_clearFruits) (v := 0) dX2_clearFruits_5 (by decide) ?_
  refine j_iastL (y := I_X2_clearFruits) (kd_PlaceA ht) (by decide) dX2_clearFruits_6 ?_
  refine j_aload_n (y := I_X2_clearFruits) 0 dX2_clearFruits_7 rfl rfl ?_
  refine j_getR (y := I_X2_clearFruits) (j := (t + 1)) fl_2_9 ht rfl rfl dX2_clearFruits_8 ?_
  refine j_iconst (y := I_X2_clearFruits) (v := 1) dX2_clearFruits_11 (by decide) ?_
  refine j_iconst (y := I_X2_clearFruits) (v := 0) dX2_clearFruits_12 (by decide) ?_
  refine j_iastL (y := I_X2_clearFruits) (kd_PlaceA ht) (by decide) dX2_clearFruits_13 ?_
  exact j_vret (y := I_X2_clearFruits) rfl dX2_clearFruits_14 rfl
theorem c_X2_clearFruits (l : Launch) (w : Wd) (t : Nat) (S : St) (ht : kd t = KdPlace) : ∀ v, f_X2_clearFruits t S = some v → CtS l w I_X2_clearFruits [.ref (w.2.1 + t)] S v none := fun v h => J.ct (av := [.ref (w.2.1 + t)]) (Nat.le_of_ble_eq_true rfl) pn_2 (m_X2_clearFruits l w t S ht) h
abbrev I_X2_becomeGap : MI := (yX2_becomeGap, cX2_becomeGap, 2, none, { frames := 1, cells := 0, slots := 0, locals := 20 })
theorem dX2_becomeGap_0 : decode cX2_becomeGap 0 = .ok (.aload_n 0, 1) := by decide +kernel
theorem dX2_becomeGap_1 : decode cX2_becomeGap 1 = .ok (.iload_n 1, 1) := by decide +kernel
theorem dX2_becomeGap_2 : decode cX2_becomeGap 2 = .ok (.ifCond .ne 7, 3) := by decide +kernel
theorem dX2_becomeGap_5 : decode cX2_becomeGap 5 = .ok (.iconst 0, 1) := by decide +kernel
theorem dX2_becomeGap_6 : decode cX2_becomeGap 6 = .ok (.goto 4, 3) := by decide +kernel
theorem dX2_becomeGap_9 : decode cX2_becomeGap 9 = .ok (.iconst 5, 1) := by decide +kernel
theorem dX2_becomeGap_10 : decode cX2_becomeGap 10 = .ok (.putfield 15, 3) := by decide +kernel
theorem dX2_becomeGap_13 : decode cX2_becomeGap 13 = .ok (.aload_n 0, 1) := by decide +kernel
theorem dX2_becomeGap_14 : decode cX2_becomeGap 14 = .ok (.iload_n 1, 1) := by decide +kernel
theorem dX2_becomeGap_15 : decode cX2_becomeGap 15 = .ok (.putfield 34, 3) := by decide +kernel
theorem dX2_becomeGap_18 : decode cX2_becomeGap 18 = .ok (.aload_n 0, 1) := by decide +kernel
theorem dX2_becomeGap_19 : decode cX2_becomeGap 19 = .ok (.invokevirtual 40, 3) := by decide +kernel
theorem dX2_becomeGap_22 : decode cX2_becomeGap 22 = .ok (.return_, 1) := by decide +kernel
theorem cv_2_40 : CV RX2 40 0 2 I_X2_clearFruits := ⟨⟨⟨gm 378 (by decide +kernel) rfl, gm 381 (by decide +kernel) rfl, gm 40 (by decide +kernel) rfl, mh_2.1, mh_2.2, by decide +kernel⟩, gm 379 (by decide +kernel) rfl, gm 380 (by decide +kernel) rfl⟩, ⟨_, _, rfl⟩, rfl, rfl⟩
def f_X2_becomeGap_J10 (j10_0 : Nat) (j10_1 : Int32) (j10s_0 : Int32) (j10s_1 : Nat) (S10 : St) : Option (St) := (f_X2_clearFruits j10_0 (wr (wr S10 j10s_1 2 j10s_0) j10_0 8 j10_1)).bind fun v19 => (some v19)
def f_X2_becomeGap (t : Nat) (x1 : Int32) (S : St) : Option (St) := if x1 = 0 then (f_X2_becomeGap_J10 t x1 (0 : Int32) t S) else (f_X2_becomeGap_J10 t x1 (5 : Int32) t S)
set_option maxRecDepth 100000 in
theorem jj_X2_becomeGap_10 (l : Launch) (w : Wd) (j10_0 : Nat) (j10_1 : Int32) (j10s_0 : Int32) (j10s_1 : Nat) (S10 : St) (hj10_0 : kd j10_0 = KdPlace) (hj10s_1 : kd j10s_1 = KdPlace) : J l w I_X2_becomeGap 10 [(0, .ref (w.2.1 + j10_0)), (1, .int j10_1)] [.int j10s_0, .ref (w.2.1 + j10s_1)] S10 (fun b => (none, b)) (f_X2_becomeGap_J10 j10_0 j10_1 j10s_0 j10s_1 S10) := by
  unfold f_X2_becomeGap_J10
  refine j_putI (y := I_X2_becomeGap) fp_2_15 hj10s_1 rfl rfl rfl dX2_becomeGap_10 ?_
  refine j_aload_n (y := I_X2_becomeGap) 0 dX2_becomeGap_13 rfl rfl ?_
  refine j_iload_n (y := I_X2_becomeGap) 1 dX2_becomeGap_14 rfl rfl ?_
  refine j_putI (y := I_X2_becomeGap) fp_2_34 hj10_0 rfl rfl rfl dX2_becomeGap_15 ?_
  refine j_aload_n (y := I_X2_becomeGap) 0 dX2_becomeGap_18 rfl rfl ?_
  refine j_callVvS (y := I_X2_becomeGap) (As := []) cv_2_40 ⟨Nat.le_of_ble_eq_true rfl, Nat.le_of_ble_eq_true rfl⟩ hj10_0 rfl (Nat.le_of_ble_eq_true rfl) dX2_becomeGap_19 (c_X2_clearFruits l w j10_0 (wr (wr S10 j10s_1 2 j10s_0) j10_0 8 j10_1) hj10_0) (fun v19 h19 => ?_)
  exact j_vret (y := I_X2_becomeGap) rfl dX2_becomeGap_22 rfl
set_option maxRecDepth 100000 in
set_option maxHeartbeats 4000000 in
theorem m_X2_becomeGap (l : Launch) (w : Wd) (t : Nat) (x1 : Int32) (S : St) (ht : kd t = KdPlace) : J l w I_X2_becomeGap 0 [(0, .ref (w.2.1 + t)), (1, .int x1)] [] S (fun b => (none, b)) (f_X2_becomeGap t x1 S) := by
  unfold f_X2_becomeGap
  refine j_aload_n (y := I_X2_becomeGap) 0 dX2_becomeGap_0 rfl rfl ?_
  refine j_iload_n (y := I_X2_becomeGap) 1 dX2_becomeGap_1 rfl rfl ?_
  refine j_if_ne (y := I_X2_becomeGap) 9 dX2_becomeGap_2 (by decide) (fun h2 => ?_) (fun h2 => ?_)
  · refine j_iconst (y := I_X2_becomeGap) (v := 5) dX2_becomeGap_9 (by decide) ?_
    refine j_sub [0, 1] rfl ?_
    exact jj_X2_becomeGap_10 l w t x1 (5 : Int32) t S ht ht
  · refine j_iconst (y := I_X2_becomeGap) (v := 0) dX2_becomeGap_5 (by decide) ?_
    refine j_goto (y := I_X2_becomeGap) 10 dX2_becomeGap_6 (by decide) ?_
    refine j_sub [0, 1] rfl ?_
    exact jj_X2_becomeGap_10 l w t x1 (0 : Int32) t S ht ht
theorem c_X2_becomeGap (l : Launch) (w : Wd) (t : Nat) (x1 : Int32) (S : St) (ht : kd t = KdPlace) : ∀ v, f_X2_becomeGap t x1 S = some v → CtS l w I_X2_becomeGap [.ref (w.2.1 + t), .int x1] S v none := fun v h => J.ct (av := [.ref (w.2.1 + t), .int x1]) (Nat.le_of_ble_eq_true rfl) pn_2 (m_X2_becomeGap l w t x1 S ht) h
abbrev I_X2_endYear : MI := (yX2_endYear, cX2_endYear, 1, none, { frames := 2, cells := 0, slots := 0, locals := 41 })
theorem dX2_endYear_0 : decode cX2_endYear 0 = .ok (.aload_n 0, 1) := by decide +kernel
theorem dX2_endYear_1 : decode cX2_endYear 1 = .ok (.invokevirtual 55, 3) := by decide +kernel
theorem dX2_endYear_4 : decode cX2_endYear 4 = .ok (.ifCond .eq 38, 3) := by decide +kernel
theorem dX2_endYear_7 : decode cX2_endYear 7 = .ok (.aload_n 0, 1) := by decide +kernel
theorem dX2_endYear_8 : decode cX2_endYear 8 = .ok (.aload_n 0, 1) := by decide +kernel
theorem dX2_endYear_9 : decode cX2_endYear 9 = .ok (.getfield 37, 3) := by decide +kernel
theorem dX2_endYear_12 : decode cX2_endYear 12 = .ok (.putfield 31, 3) := by decide +kernel
theorem dX2_endYear_15 : decode cX2_endYear 15 = .ok (.aload_n 0, 1) := by decide +kernel
theorem dX2_endYear_16 : decode cX2_endYear 16 = .ok (.iconst 0, 1) := by decide +kernel
theorem dX2_endYear_17 : decode cX2_endYear 17 = .ok (.putfield 37, 3) := by decide +kernel
theorem dX2_endYear_20 : decode cX2_endYear 20 = .ok (.aload_n 0, 1) := by decide +kernel
theorem dX2_endYear_21 : decode cX2_endYear 21 = .ok (.bipush 9, 2) := by decide +kernel
theorem dX2_endYear_23 : decode cX2_endYear 23 = .ok (.aload_n 0, 1) := by decide +kernel
theorem dX2_endYear_24 : decode cX2_endYear 24 = .ok (.getfield 28, 3) := by decide +kernel
theorem dX2_endYear_27 : decode cX2_endYear 27 = .ok (.iconst 1, 1) := by decide +kernel
theorem dX2_endYear_28 : decode cX2_endYear 28 = .ok (.iadd, 1) := by decide +kernel
theorem dX2_endYear_29 : decode cX2_endYear 29 = .ok (.invokestatic 59, 3) := by decide +kernel
theorem dX2_endYear_32 : decode cX2_endYear 32 = .ok (.putfield 28, 3) := by decide +kernel
theorem dX2_endYear_35 : decode cX2_endYear 35 = .ok (.aload_n 0, 1) := by decide +kernel
theorem dX2_endYear_36 : decode cX2_endYear 36 = .ok (.invokevirtual 40, 3) := by decide +kernel
theorem dX2_endYear_39 : decode cX2_endYear 39 = .ok (.goto 21, 3) := by decide +kernel
theorem dX2_endYear_42 : decode cX2_endYear 42 = .ok (.aload_n 0, 1) := by decide +kernel
theorem dX2_endYear_43 : decode cX2_endYear 43 = .ok (.getfield 15, 3) := by decide +kernel
theorem dX2_endYear_46 : decode cX2_endYear 46 = .ok (.iconst 5, 1) := by decide +kernel
theorem dX2_endYear_47 : decode cX2_endYear 47 = .ok (.if_icmp .ne 13, 3) := by decide +kernel
theorem dX2_endYear_50 : decode cX2_endYear 50 = .ok (.aload_n 0, 1) := by decide +kernel
theorem dX2_endYear_51 : decode cX2_endYear 51 = .ok (.aload_n 0, 1) := by decide +kernel
theorem dX2_endYear_52 : decode cX2_endYear 52 = .ok (.getfield 34, 3) := by decide +kernel
theorem dX2_endYear_55 : decode cX2_endYear 55 = .ok (.iconst 1, 1) := by decide +kernel
theorem dX2_endYear_56 : decode cX2_endYear 56 = .ok (.isub, 1) := by decide +kernel
theorem dX2_endYear_57 : decode cX2_endYear 57 = .ok (.invokevirtual 68, 3) := by decide +kernel
theorem dX2_endYear_60 : decode cX2_endYear 60 = .ok (.return_, 1) := by decide +kernel
theorem cv_2_68 : CV RX2 68 1 2 I_X2_becomeGap := ⟨⟨⟨gm 660 (by decide +kernel) rfl, gm 393 (by decide +kernel) rfl, gm 40 (by decide +kernel) rfl, mh_2.1, mh_2.2, by decide +kernel⟩, gm 391 (by decide +kernel) rfl, gm 392 (by decide +kernel) rfl⟩, ⟨_, _, rfl⟩, rfl, rfl⟩
def f_X2_endYear (t : Nat) (S : St) : Option (St) := if (f_X2_isTree t S) = true then ((f_X2_clearFruits t (wr (wr (wr S t 7 (rd S t 9)) t 9 (0 : Int32)) t 6 (mnI (9 : Int32) ((rd (wr (wr S t 7 (rd S t 9)) t 9 (0 : Int32)) t 6) + (1 : Int32))))).bind fun v36 => (some v36)) else (if (rd S t 2) = (5 : Int32) then ((f_X2_becomeGap t ((rd S t 8) - (1 : Int32)) S).bind fun v57 => (some v57)) else (some S))
set_option maxRecDepth 100000 in
set_option maxHeartbeats 4000000 in
theorem m_X2_endYear (l : Launch) (w : Wd) (t : Nat) (S : St) (ht : kd t = KdPlace) : J l w I_X2_endYear 0 [(0, .ref (w.2.1 + t))] [] S (fun b => (none, b)) (f_X2_endYear t S) := by
  unfold f_X2_endYear
  refine j_aload_n (y := I_X2_endYear) 0 dX2_endYear_0 rfl rfl ?_
  refine j_callVzT (y := I_X2_endYear) (As := []) cv_2_55 ⟨Nat.le_of_ble_eq_true rfl, Nat.le_of_ble_eq_true rfl⟩ ht rfl (Nat.le_of_ble_eq_true rfl) dX2_endYear_1 (c_X2_isTree l w t S ht) ?_
  refine j_if_eqB (y := I_X2_endYear) 42 dX2_endYear_4 (by decide) (fun h4 => ?_) (fun h4 => ?_)
  · refine j_aload_n (y := I_X2_endYear) 0 dX2_endYear_42 rfl rfl ?_
    refine j_getI (y := I_X2_endYear) fl_2_15 ht rfl dX2_endYear_43 ?_
    refine j_iconst (y := I_X2_endYear) (v := 5) dX2_endYear_46 (by decide) ?_
    refine j_icmp_ne (y := I_X2_endYear) 60 dX2_endYear_47 (by decide) (fun h47 => ?_) (fun h47 => ?_)
    · exact j_vret (y := I_X2_endYear) rfl dX2_endYear_60 rfl
    · refine j_aload_n (y := I_X2_endYear) 0 dX2_endYear_50 rfl rfl ?_
      refine j_aload_n (y := I_X2_endYear) 0 dX2_endYear_51 rfl rfl ?_
      refine j_getI (y := I_X2_endYear) fl_2_34 ht rfl dX2_endYear_52 ?_
      refine j_iconst (y := I_X2_endYear) (v := 1) dX2_endYear_55 (by decide) ?_
      refine j_isub (y := I_X2_endYear) dX2_endYear_56 ?_
      refine j_callVvS (y := I_X2_endYear) (As := [.int ((rd S t 8) - (1 : Int32))]) cv_2_68 ⟨Nat.le_of_ble_eq_true rfl, Nat.le_of_ble_eq_true rfl⟩ ht rfl (Nat.le_of_ble_eq_true rfl) dX2_endYear_57 (c_X2_becomeGap l w t ((rd S t 8) - (1 : Int32)) S ht) (fun v57 h57 => ?_)
      exact j_vret (y := I_X2_endYear) rfl dX2_endYear_60 rfl
  · refine j_aload_n (y := I_X2_endYear) 0 dX2_endYear_7 rfl rfl ?_
    refine j_aload_n (y := I_X2_endYear) 0 dX2_endYear_8 rfl rfl ?_
    refine j_getI (y := I_X2_endYear) fl_2_37 ht rfl dX2_endYear_9 ?_
    refine j_putI (y := I_X2_endYear) fp_2_31 ht rfl rfl rfl dX2_endYear_12 ?_
    refine j_aload_n (y := I_X2_endYear) 0 dX2_endYear_15 rfl rfl ?_
    refine j_iconst (y := I_X2_endYear) (v := 0) dX2_endYear_16 (by decide) ?_
    refine j_putI (y := I_X2_endYear) fp_2_37 ht rfl rfl rfl dX2_endYear_17 ?_
    refine j_aload_n (y := I_X2_endYear) 0 dX2_endYear_20 rfl rfl ?_
    refine j_bipush (y := I_X2_endYear) (v := 9) dX2_endYear_21 (by decide) ?_
    refine j_aload_n (y := I_X2_endYear) 0 dX2_endYear_23 rfl rfl ?_
    refine j_getI (y := I_X2_endYear) fl_2_28 ht rfl dX2_endYear_24 ?_
    refine j_iconst (y := I_X2_endYear) (v := 1) dX2_endYear_27 (by decide) ?_
    refine j_iadd (y := I_X2_endYear) dX2_endYear_28 ?_
    refine j_mmin (y := I_X2_endYear) (gm 414 (by decide +kernel) rfl) (Nat.le_of_ble_eq_true rfl) (Nat.le_of_ble_eq_true rfl) dX2_endYear_29 ?_
    refine j_putI (y := I_X2_endYear) fp_2_28 ht rfl rfl rfl dX2_endYear_32 ?_
    refine j_aload_n (y := I_X2_endYear) 0 dX2_endYear_35 rfl rfl ?_
    refine j_callVvS (y := I_X2_endYear) (As := []) cv_2_40 ⟨Nat.le_of_ble_eq_true rfl, Nat.le_of_ble_eq_true rfl⟩ ht rfl (Nat.le_of_ble_eq_true rfl) dX2_endYear_36 (c_X2_clearFruits l w t (wr (wr (wr S t 7 (rd S t 9)) t 9 (0 : Int32)) t 6 (mnI (9 : Int32) ((rd (wr (wr S t 7 (rd S t 9)) t 9 (0 : Int32)) t 6) + (1 : Int32)))) ht) (fun v36 h36 => ?_)
    refine j_goto (y := I_X2_endYear) 60 dX2_endYear_39 (by decide) ?_
    exact j_vret (y := I_X2_endYear) rfl dX2_endYear_60 rfl
theorem c_X2_endYear (l : Launch) (w : Wd) (t : Nat) (S : St) (ht : kd t = KdPlace) : ∀ v, f_X2_endYear t S = some v → CtS l w I_X2_endYear [.ref (w.2.1 + t)] S v none := fun v h => J.ct (av := [.ref (w.2.1 + t)]) (Nat.le_of_ble_eq_true rfl) pn_2 (m_X2_endYear l w t S ht) h
abbrev I_X2_becomeTree : MI := (yX2_becomeTree, cX2_becomeTree, 5, none, { frames := 1, cells := 0, slots := 0, locals := 20 })
theorem dX2_becomeTree_0 : decode cX2_becomeTree 0 = .ok (.aload_n 0, 1) := by decide +kernel
theorem dX2_becomeTree_1 : decode cX2_becomeTree 1 = .ok (.iload_n 1, 1) := by decide +kernel
theorem dX2_becomeTree_2 : decode cX2_becomeTree 2 = .ok (.putfield 15, 3) := by decide +kernel
theorem dX2_becomeTree_5 : decode cX2_becomeTree 5 = .ok (.aload_n 0, 1) := by decide +kernel
theorem dX2_becomeTree_6 : decode cX2_becomeTree 6 = .ok (.iload_n 2, 1) := by decide +kernel
theorem dX2_becomeTree_7 : decode cX2_becomeTree 7 = .ok (.putfield 19, 3) := by decide +kernel
theorem dX2_becomeTree_10 : decode cX2_becomeTree 10 = .ok (.aload_n 0, 1) := by decide +kernel
theorem dX2_becomeTree_11 : decode cX2_becomeTree 11 = .ok (.iload_n 1, 1) := by decide +kernel
theorem dX2_becomeTree_12 : decode cX2_becomeTree 12 = .ok (.iconst 2, 1) := by decide +kernel
theorem dX2_becomeTree_13 : decode cX2_becomeTree 13 = .ok (.if_icmp .ne 7, 3) := by decide +kernel
theorem dX2_becomeTree_16 : decode cX2_becomeTree 16 = .ok (.iload_n 3, 1) := by decide +kernel
theorem dX2_becomeTree_17 : decode cX2_becomeTree 17 = .ok (.goto 5, 3) := by decide +kernel
theorem dX2_becomeTree_20 : decode cX2_becomeTree 20 = .ok (.bipush (-100), 2) := by decide +kernel
theorem dX2_becomeTree_22 : decode cX2_becomeTree 22 = .ok (.putfield 22, 3) := by decide +kernel
theorem dX2_becomeTree_25 : decode cX2_becomeTree 25 = .ok (.aload_n 0, 1) := by decide +kernel
theorem dX2_becomeTree_26 : decode cX2_becomeTree 26 = .ok (.iload 4, 2) := by decide +kernel
theorem dX2_becomeTree_28 : decode cX2_becomeTree 28 = .ok (.putfield 25, 3) := by decide +kernel
theorem dX2_becomeTree_31 : decode cX2_becomeTree 31 = .ok (.aload_n 0, 1) := by decide +kernel
theorem dX2_becomeTree_32 : decode cX2_becomeTree 32 = .ok (.iconst 3, 1) := by decide +kernel
theorem dX2_becomeTree_33 : decode cX2_becomeTree 33 = .ok (.putfield 28, 3) := by decide +kernel
theorem dX2_becomeTree_36 : decode cX2_becomeTree 36 = .ok (.aload_n 0, 1) := by decide +kernel
theorem dX2_becomeTree_37 : decode cX2_becomeTree 37 = .ok (.iconst 0, 1) := by decide +kernel
theorem dX2_becomeTree_38 : decode cX2_becomeTree 38 = .ok (.putfield 31, 3) := by decide +kernel
theorem dX2_becomeTree_41 : decode cX2_becomeTree 41 = .ok (.aload_n 0, 1) := by decide +kernel
theorem dX2_becomeTree_42 : decode cX2_becomeTree 42 = .ok (.iconst 0, 1) := by decide +kernel
theorem dX2_becomeTree_43 : decode cX2_becomeTree 43 = .ok (.putfield 34, 3) := by decide +kernel
theorem dX2_becomeTree_46 : decode cX2_becomeTree 46 = .ok (.aload_n 0, 1) := by decide +kernel
theorem dX2_becomeTree_47 : decode cX2_becomeTree 47 = .ok (.iconst 0, 1) := by decide +kernel
theorem dX2_becomeTree_48 : decode cX2_becomeTree 48 = .ok (.putfield 37, 3) := by decide +kernel
theorem dX2_becomeTree_51 : decode cX2_becomeTree 51 = .ok (.aload_n 0, 1) := by decide +kernel
theorem dX2_becomeTree_52 : decode cX2_becomeTree 52 = .ok (.invokevirtual 40, 3) := by decide +kernel
theorem dX2_becomeTree_55 : decode cX2_becomeTree 55 = .ok (.return_, 1) := by decide +kernel
def f_X2_becomeTree_J22 (j22_0 : Nat) (j22_4 : Int32) (j22s_0 : Int32) (j22s_1 : Nat) (S22 : St) : Option (St) := (f_X2_clearFruits j22_0 (wr (wr (wr (wr (wr (wr S22 j22s_1 4 j22s_0) j22_0 5 j22_4) j22_0 6 (3 : Int32)) j22_0 7 (0 : Int32)) j22_0 8 (0 : Int32)) j22_0 9 (0 : Int32))).bind fun v52 => (some v52)
def f_X2_becomeTree (t : Nat) (x1 : Int32) (x2 : Int32) (x3 : Int32) (x4 : Int32) (S : St) : Option (St) := if x1 = (2 : Int32) then (f_X2_becomeTree_J22 t x4 x3 t (wr (wr S t 2 x1) t 3 x2)) else (f_X2_becomeTree_J22 t x4 (-100 : Int32) t (wr (wr S t 2 x1) t 3 x2))
set_option maxRecDepth 100000 in
theorem jj_X2_becomeTree_22 (l : Launch) (w : Wd) (j22_0 : Nat) (j22_4 : Int32) (j22s_0 : Int32) (j22s_1 : Nat) (S22 : St) (hj22_0 : kd j22_0 = KdPlace) (hj22s_1 : kd j22s_1 = KdPlace) : J l w I_X2_becomeTree 22 [(0, .ref (w.2.1 + j22_0)), (4, .int j22_4)] [.int j22s_0, .ref (w.2.1 + j22s_1)] S22 (fun b => (none, b)) (f_X2_becomeTree_J22 j22_0 j22_4 j22s_0 j22s_1 S22) := by
  unfold f_X2_becomeTree_J22
  refine j_putI (y := I_X2_becomeTree) fp_2_22 hj22s_1 rfl rfl rfl dX2_becomeTree_22 ?_
  refine j_aload_n (y := I_X2_becomeTree) 0 dX2_becomeTree_25 rfl rfl ?_
  refine j_iload (y := I_X2_becomeTree) 1 dX2_becomeTree_26 rfl ?_
  refine j_putI (y := I_X2_becomeTree) fp_2_25 hj22_0 rfl rfl rfl dX2_becomeTree_28 ?_
  refine j_aload_n (y := I_X2_becomeTree) 0 dX2_becomeTree_31 rfl rfl ?_
  refine j_iconst (y := I_X2_becomeTree) (v := 3) dX2_becomeTree_32 (by decide) ?_
  refine j_putI (y := I_X2_becomeTree) fp_2_28 hj22_0 rfl rfl rfl dX2_becomeTree_33 ?_
  refine j_aload_n (y := I_X2_becomeTree) 0 dX2_becomeTree_36 rfl rfl ?_
  refine j_iconst (y := I_X2_becomeTree) (v := 0) dX2_becomeTree_37 (by decide) ?_
  refine j_putI (y := I_X2_becomeTree) fp_2_31 hj22_0 rfl rfl rfl dX2_becomeTree_38 ?_
  refine j_aload_n (y := I_X2_becomeTree) 0 dX2_becomeTree_41 rfl rfl ?_
  refine j_iconst (y := I_X2_becomeTree) (v := 0) dX2_becomeTree_42 (by decide) ?_
  refine j_putI (y := I_X2_becomeTree) fp_2_34 hj22_0 rfl rfl rfl dX2_becomeTree_43 ?_
  refine j_aload_n (y := I_X2_becomeTree) 0 dX2_becomeTree_46 rfl rfl ?_
  refine j_iconst (y := I_X2_becomeTree) (v := 0) dX2_becomeTree_47 (by decide) ?_
  refine j_putI (y := I_X2_becomeTree) fp_2_37 hj22_0 rfl rfl rfl dX2_becomeTree_48 ?_
  refine j_aload_n (y := I_X2_becomeTree) 0 dX2_becomeTree_51 rfl rfl ?_
  refine j_callVvS (y := I_X2_becomeTree) (As := []) cv_2_40 ⟨Nat.le_of_ble_eq_true rfl, Nat.le_of_ble_eq_true rfl⟩ hj22_0 rfl (Nat.le_of_ble_eq_true rfl) dX2_becomeTree_52 (c_X2_clearFruits l w j22_0 (wr (wr (wr (wr (wr (wr S22 j22s_1 4 j22s_0) j22_0 5 j22_4) j22_0 6 (3 : Int32)) j22_0 7 (0 : Int32)) j22_0 8 (0 : Int32)) j22_0 9 (0 : Int32)) hj22_0) (fun v52 h52 => ?_)
  exact j_vret (y := I_X2_becomeTree) rfl dX2_becomeTree_55 rfl
set_option maxRecDepth 100000 in
set_option maxHeartbeats 4000000 in
theorem m_X2_becomeTree (l : Launch) (w : Wd) (t : Nat) (x1 : Int32) (x2 : Int32) (x3 : Int32) (x4 : Int32) (S : St) (ht : kd t = KdPlace) : J l w I_X2_becomeTree 0 [(0, .ref (w.2.1 + t)), (1, .int x1), (2, .int x2), (3, .int x3), (4, .int x4)] [] S (fun b => (none, b)) (f_X2_becomeTree t x1 x2 x3 x4 S) := by
  unfold f_X2_becomeTree
  refine j_aload_n (y := I_X2_becomeTree) 0 dX2_becomeTree_0 rfl rfl ?_
  refine j_iload_n (y := I_X2_becomeTree) 1 dX2_becomeTree_1 rfl rfl ?_
  refine j_putI (y := I_X2_becomeTree) fp_2_15 ht rfl rfl rfl dX2_becomeTree_2 ?_
  refine j_aload_n (y := I_X2_becomeTree) 0 dX2_becomeTree_5 rfl rfl ?_
  refine j_iload_n (y := I_X2_becomeTree) 2 dX2_becomeTree_6 rfl rfl ?_
  refine j_putI (y := I_X2_becomeTree) fp_2_19 ht rfl rfl rfl dX2_becomeTree_7 ?_
  refine j_aload_n (y := I_X2_becomeTree) 0 dX2_becomeTree_10 rfl rfl ?_
  refine j_iload_n (y := I_X2_becomeTree) 1 dX2_becomeTree_11 rfl rfl ?_
  refine j_iconst (y := I_X2_becomeTree) (v := 2) dX2_becomeTree_12 (by decide) ?_
  refine j_icmp_ne (y := I_X2_becomeTree) 20 dX2_becomeTree_13 (by decide) (fun h13 => ?_) (fun h13 => ?_)
  · refine j_bipush (y := I_X2_becomeTree) (v := -100) dX2_becomeTree_20 (by decide) ?_
    refine j_sub [0, 4] rfl ?_
    exact jj_X2_becomeTree_22 l w t x4 (-100 : Int32) t (wr (wr S t 2 x1) t 3 x2) ht ht
  · refine j_iload_n (y := I_X2_becomeTree) 3 dX2_becomeTree_16 rfl rfl ?_
    refine j_goto (y := I_X2_becomeTree) 22 dX2_becomeTree_17 (by decide) ?_
    refine j_sub [0, 4] rfl ?_
    exact jj_X2_becomeTree_22 l w t x4 x3 t (wr (wr S t 2 x1) t 3 x2) ht ht
theorem c_X2_becomeTree (l : Launch) (w : Wd) (t : Nat) (x1 : Int32) (x2 : Int32) (x3 : Int32) (x4 : Int32) (S : St) (ht : kd t = KdPlace) : ∀ v, f_X2_becomeTree t x1 x2 x3 x4 S = some v → CtS l w I_X2_becomeTree [.ref (w.2.1 + t), .int x1, .int x2, .int x3, .int x4] S v none := fun v h => J.ct (av := [.ref (w.2.1 + t), .int x1, .int x2, .int x3, .int x4]) (Nat.le_of_ble_eq_true rfl) pn_2 (m_X2_becomeTree l w t x1 x2 x3 x4 S ht) h
abbrev I_X2_thinTo : MI := (yX2_thinTo, cX2_thinTo, 5, some .int, { frames := 1, cells := 0, slots := 0, locals := 21 })
theorem dX2_thinTo_0 : decode cX2_thinTo 0 = .ok (.iconst 0, 1) := by decide +kernel
theorem dX2_thinTo_1 : decode cX2_thinTo 1 = .ok (.istore_n 2, 1) := by decide +kernel
theorem dX2_thinTo_2 : decode cX2_thinTo 2 = .ok (.iconst 0, 1) := by decide +kernel
theorem dX2_thinTo_3 : decode cX2_thinTo 3 = .ok (.istore_n 3, 1) := by decide +kernel
theorem dX2_thinTo_4 : decode cX2_thinTo 4 = .ok (.iload_n 3, 1) := by decide +kernel
theorem dX2_thinTo_5 : decode cX2_thinTo 5 = .ok (.iconst 2, 1) := by decide +kernel
theorem dX2_thinTo_6 : decode cX2_thinTo 6 = .ok (.if_icmp .ge 39, 3) := by decide +kernel
theorem dX2_thinTo_9 : decode cX2_thinTo 9 = .ok (.iconst 0, 1) := by decide +kernel
theorem dX2_thinTo_10 : decode cX2_thinTo 10 = .ok (.aload_n 0, 1) := by decide +kernel
theorem dX2_thinTo_11 : decode cX2_thinTo 11 = .ok (.getfield 9, 3) := by decide +kernel
theorem dX2_thinTo_14 : decode cX2_thinTo 14 = .ok (.iload_n 3, 1) := by decide +kernel
theorem dX2_thinTo_15 : decode cX2_thinTo 15 = .ok (.iaload, 1) := by decide +kernel
theorem dX2_thinTo_16 : decode cX2_thinTo 16 = .ok (.iload_n 1, 1) := by decide +kernel
theorem dX2_thinTo_17 : decode cX2_thinTo 17 = .ok (.isub, 1) := by decide +kernel
theorem dX2_thinTo_18 : decode cX2_thinTo 18 = .ok (.invokestatic 65, 3) := by decide +kernel
theorem dX2_thinTo_21 : decode cX2_thinTo 21 = .ok (.istore 4, 2) := by decide +kernel
theorem dX2_thinTo_23 : decode cX2_thinTo 23 = .ok (.aload_n 0, 1) := by decide +kernel
theorem dX2_thinTo_24 : decode cX2_thinTo 24 = .ok (.getfield 9, 3) := by decide +kernel
theorem dX2_thinTo_27 : decode cX2_thinTo 27 = .ok (.iload_n 3, 1) := by decide +kernel
theorem dX2_thinTo_28 : decode cX2_thinTo 28 = .ok (.dup2, 1) := by decide +kernel
theorem dX2_thinTo_29 : decode cX2_thinTo 29 = .ok (.iaload, 1) := by decide +kernel
theorem dX2_thinTo_30 : decode cX2_thinTo 30 = .ok (.iload 4, 2) := by decide +kernel
theorem dX2_thinTo_32 : decode cX2_thinTo 32 = .ok (.isub, 1) := by decide +kernel
theorem dX2_thinTo_33 : decode cX2_thinTo 33 = .ok (.iastore, 1) := by decide +kernel
theorem dX2_thinTo_34 : decode cX2_thinTo 34 = .ok (.iload_n 2, 1) := by decide +kernel
theorem dX2_thinTo_35 : decode cX2_thinTo 35 = .ok (.iload 4, 2) := by decide +kernel
theorem dX2_thinTo_37 : decode cX2_thinTo 37 = .ok (.iadd, 1) := by decide +kernel
theorem dX2_thinTo_38 : decode cX2_thinTo 38 = .ok (.istore_n 2, 1) := by decide +kernel
theorem dX2_thinTo_39 : decode cX2_thinTo 39 = .ok (.iinc 3 1, 3) := by decide +kernel
theorem dX2_thinTo_42 : decode cX2_thinTo 42 = .ok (.goto (-38), 3) := by decide +kernel
theorem dX2_thinTo_45 : decode cX2_thinTo 45 = .ok (.aload_n 0, 1) := by decide +kernel
theorem dX2_thinTo_46 : decode cX2_thinTo 46 = .ok (.dup, 1) := by decide +kernel
theorem dX2_thinTo_47 : decode cX2_thinTo 47 = .ok (.getfield 37, 3) := by decide +kernel
theorem dX2_thinTo_50 : decode cX2_thinTo 50 = .ok (.iload_n 2, 1) := by decide +kernel
theorem dX2_thinTo_51 : decode cX2_thinTo 51 = .ok (.isub, 1) := by decide +kernel
theorem dX2_thinTo_52 : decode cX2_thinTo 52 = .ok (.putfield 37, 3) := by decide +kernel
theorem dX2_thinTo_55 : decode cX2_thinTo 55 = .ok (.iload_n 2, 1) := by decide +kernel
theorem dX2_thinTo_56 : decode cX2_thinTo 56 = .ok (.ireturn, 1) := by decide +kernel
def f_X2_thinTo_L4 (fuel : Nat) (K : Nat → Int32 → St → Option (Int32 × St)) (a4_0 : Nat) (a4_1 : Int32) (a4_2 : Int32) (a4_3 : Int32) (S4 : St) : Option (Int32 × St) := match fuel with
  | 0 => none
  | n + 1 => if a4_3 < (2 : Int32) then (if inb a4_3 2 = true then (if inb a4_3 2 = true then (if inb a4_3 2 = true then (f_X2_thinTo_L4 n K a4_0 a4_1 (a4_2 + (mxI (0 : Int32) ((rd S4 (a4_0 + 1) (ix a4_3)) - a4_1))) (a4_3 + (1 : Int32)) (wr S4 (a4_0 + 1) (ix a4_3) ((rd S4 (a4_0 + 1) (ix a4_3)) - (mxI (0 : Int32) ((rd S4 (a4_0 + 1) (ix a4_3)) - a4_1))))) else none) else none) else none) else (K a4_0 a4_2 S4)
def f_X2_thinTo (t : Nat) (x1 : Int32) (S : St) : Option (Int32 × St) := f_X2_thinTo_L4 6000 (fun e45_0 e45_2 T45 => (some (e45_2, (wr T45 e45_0 9 ((rd T45 e45_0 9) - e45_2))))) t x1 (0 : Int32) (0 : Int32) S
set_option maxRecDepth 100000 in
theorem jl_X2_thinTo_4 (l : Launch) (w : Wd) (K : Nat → Int32 → St → Option (Int32 × St)) (n : Nat) : ∀ (a4_0 : Nat) (a4_1 : Int32) (a4_2 : Int32) (a4_3 : Int32) (S4 : St) (ha4_0 : kd a4_0 = KdPlace), (∀ (e45_0 : Nat) (e45_2 : Int32) (S' : St) (he45_0 : kd e45_0 = KdPlace), J l w I_X2_thinTo 45 [(0, .ref (w.2.1 + e45_0)), (2, .int e45_2)] [] S' (fun b => (some (.int b.1), b.2)) (K e45_0 e45_2 S')) → J l w I_X2_thinTo 4 [(0, .ref (w.2.1 + a4_0)), (1, .int a4_1), (2, .int a4_2), (3, .int a4_3)] [] S4 (fun b => (some (.int b.1), b.2)) (f_X2_thinTo_L4 n K a4_0 a4_1 a4_2 a4_3 S4) := by
  induction n with
  | zero =>
    intro a4_0 a4_1 a4_2 a4_3 S4 ha4_0 hK b h
    simp only [f_X2_thinTo_L4] at h
    cases h
  | succ n ih =>
    intro a4_0 a4_1 a4_2 a4_3 S4 ha4_0 hK
    rw [f_X2_thinTo_L4]
    refine j_iload_n (y := I_X2_thinTo) 3 dX2_thinTo_4 rfl rfl ?_
    refine j_iconst (y := I_X2_thinTo) (v := 2) dX2_thinTo_5 (by decide) ?_
    refine j_icmp_ge (y := I_X2_thinTo) 45 dX2_thinTo_6 (by decide) (fun h6 => ?_) (fun h6 => ?_)
    · refine j_sub [0, 2] rfl ?_
      exact hK a4_0 a4_2 S4 ha4_0
    · refine j_iconst (y := I_X2_thinTo) (v := 0) dX2_thinTo_9 (by decide) ?_
      refine j_aload_n (y := I_X2_thinTo) 0 dX2_thinTo_10 rfl rfl ?_
      refine j_getR (y := I_X2_thinTo) (j := (a4_0 + 1)) fl_2_9 ha4_0 rfl rfl dX2_thinTo_11 ?_
      refine j_iload_n (y := I_X2_thinTo) 3 dX2_thinTo_14 rfl rfl ?_
      refine j_iald (y := I_X2_thinTo) (kd_PlaceA ha4_0) dX2_thinTo_15 (fun h15 => ?_)
      refine j_iload_n (y := I_X2_thinTo) 1 dX2_thinTo_16 rfl rfl ?_
      refine j_isub (y := I_X2_thinTo) dX2_thinTo_17 ?_
      refine j_mmax (y := I_X2_thinTo) (gm 673 (by decide +kernel) rfl) (Nat.le_of_ble_eq_true rfl) (Nat.le_of_ble_eq_true rfl) dX2_thinTo_18 ?_
      refine j_istore (y := I_X2_thinTo) (ls' := [(4, .int (mxI (0 : Int32) ((rd S4 (a4_0 + 1) (ix a4_3)) - a4_1))), (0, .ref (w.2.1 + a4_0)), (1, .int a4_1), (2, .int a4_2), (3, .int a4_3)]) dX2_thinTo_21 (by decide) rfl ?_
      refine j_aload_n (y := I_X2_thinTo) 1 dX2_thinTo_23 rfl rfl ?_
      refine j_getR (y := I_X2_thinTo) (j := (a4_0 + 1)) fl_2_9 ha4_0 rfl rfl dX2_thinTo_24 ?_
      refine j_iload_n (y := I_X2_thinTo) 4 dX2_thinTo_27 rfl rfl ?_
      refine j_dup2 (y := I_X2_thinTo) dX2_thinTo_28 rfl rfl ?_
      refine j_iald (y := I_X2_thinTo) (kd_PlaceA ha4_0) dX2_thinTo_29 (fun h29 => ?_)
      refine j_iload (y := I_X2_thinTo) 0 dX2_thinTo_30 rfl ?_
      refine j_isub (y := I_X2_thinTo) dX2_thinTo_32 ?_
      refine j_iast (y := I_X2_thinTo) (kd_PlaceA ha4_0) dX2_thinTo_33 (fun h33 => ?_)
      refine j_iload_n (y := I_X2_thinTo) 3 dX2_thinTo_34 rfl rfl ?_
      refine j_iload (y := I_X2_thinTo) 0 dX2_thinTo_35 rfl ?_
      refine j_iadd (y := I_X2_thinTo) dX2_thinTo_37 ?_
      refine j_istore_n (y := I_X2_thinTo) (ls' := [(2, .int (a4_2 + (mxI (0 : Int32) ((rd S4 (a4_0 + 1) (ix a4_3)) - a4_1)))), (4, .int (mxI (0 : Int32) ((rd S4 (a4_0 + 1) (ix a4_3)) - a4_1))), (0, .ref (w.2.1 + a4_0)), (1, .int a4_1), (3, .int a4_3)]) dX2_thinTo_38 rfl (by decide) rfl ?_
      refine j_iinc (y := I_X2_thinTo) 4 (ls' := [(3, .int (a4_3 + (1 : Int32))), (2, .int (a4_2 + (mxI (0 : Int32) ((rd S4 (a4_0 + 1) (ix a4_3)) - a4_1)))), (4, .int (mxI (0 : Int32) ((rd S4 (a4_0 + 1) (ix a4_3)) - a4_1))), (0, .ref (w.2.1 + a4_0)), (1, .int a4_1)]) dX2_thinTo_39 rfl (ii _ _ (by decide) _) (by decide) rfl ?_
      refine j_goto (y := I_X2_thinTo) 4 dX2_thinTo_42 (by decide) ?_
      refine j_sub [3, 4, 1, 0] rfl ?_
      exact ih a4_0 a4_1 (a4_2 + (mxI (0 : Int32) ((rd S4 (a4_0 + 1) (ix a4_3)) - a4_1))) (a4_3 + (1 : Int32)) (wr S4 (a4_0 + 1) (ix a4_3) ((rd S4 (a4_0 + 1) (ix a4_3)) - (mxI (0 : Int32) ((rd S4 (a4_0 + 1) (ix a4_3)) - a4_1)))) ha4_0 hK
set_option maxRecDepth 100000 in
set_option maxHeartbeats 4000000 in
theorem m_X2_thinTo (l : Launch) (w : Wd) (t : Nat) (x1 : Int32) (S : St) (ht : kd t = KdPlace) : J l w I_X2_thinTo 0 [(0, .ref (w.2.1 + t)), (1, .int x1)] [] S (fun b => (some (.int b.1), b.2)) (f_X2_thinTo t x1 S) := by
  unfold f_X2_thinTo
  refine j_iconst (y := I_X2_thinTo) (v := 0) dX2_thinTo_0 (by decide) ?_
  refine j_istore_n (y := I_X2_thinTo) (ls' := [(2, .int (0 : Int32)), (0, .ref (w.2.1 + t)), (1, .int x1)]) dX2_thinTo_1 rfl (by decide) rfl ?_
  refine j_iconst (y := I_X2_thinTo) (v := 0) dX2_thinTo_2 (by decide) ?_
  refine j_istore_n (y := I_X2_thinTo) (ls' := [(3, .int (0 : Int32)), (2, .int (0 : Int32)), (0, .ref (w.2.1 + t)), (1, .int x1)]) dX2_thinTo_3 rfl (by decide) rfl ?_
  refine j_sub [2, 3, 1, 0] rfl ?_
  refine jl_X2_thinTo_4 l w _ 6000 t x1 (0 : Int32) (0 : Int32) S ht (fun e45_0 e45_2 T45 he45_0 => ?_)
  refine j_aload_n (y := I_X2_thinTo) 0 dX2_thinTo_45 rfl rfl ?_
  refine j_dup (y := I_X2_thinTo) dX2_thinTo_46 rfl ?_
  refine j_getI (y := I_X2_thinTo) fl_2_37 he45_0 rfl dX2_thinTo_47 ?_
  refine j_iload_n (y := I_X2_thinTo) 1 dX2_thinTo_50 rfl rfl ?_
  refine j_isub (y := I_X2_thinTo) dX2_thinTo_51 ?_
  refine j_putI (y := I_X2_thinTo) fp_2_37 he45_0 rfl rfl rfl dX2_thinTo_52 ?_
  refine j_iload_n (y := I_X2_thinTo) 1 dX2_thinTo_55 rfl rfl ?_
  exact j_iret (y := I_X2_thinTo) rfl dX2_thinTo_56 rfl
theorem c_X2_thinTo (l : Launch) (w : Wd) (t : Nat) (x1 : Int32) (S : St) (ht : kd t = KdPlace) : ∀ v, f_X2_thinTo t x1 S = some v → CtS l w I_X2_thinTo [.ref (w.2.1 + t), .int x1] S v.2 (some (.int v.1)) := fun v h => J.ct (av := [.ref (w.2.1 + t), .int x1]) (Nat.le_of_ble_eq_true rfl) pn_2 (m_X2_thinTo l w t x1 S ht) h
abbrev I_X2_whyNoTree : MI := (yX2_whyNoTree, cX2_whyNoTree, 1, some .int, { frames := 0, cells := 0, slots := 0, locals := 0 })
theorem dX2_whyNoTree_0 : decode cX2_whyNoTree 0 = .ok (.aload_n 0, 1) := by decide +kernel
theorem dX2_whyNoTree_1 : decode cX2_whyNoTree 1 = .ok (.getfield 15, 3) := by decide +kernel
theorem dX2_whyNoTree_4 : decode cX2_whyNoTree 4 = .ok (.ifCond .ne 8, 3) := by decide +kernel
theorem dX2_whyNoTree_7 : decode cX2_whyNoTree 7 = .ok (.bipush (-6), 2) := by decide +kernel
theorem dX2_whyNoTree_9 : decode cX2_whyNoTree 9 = .ok (.goto 5, 3) := by decide +kernel
theorem dX2_whyNoTree_12 : decode cX2_whyNoTree 12 = .ok (.bipush (-4), 2) := by decide +kernel
theorem dX2_whyNoTree_14 : decode cX2_whyNoTree 14 = .ok (.ireturn, 1) := by decide +kernel
def f_X2_whyNoTree (t : Nat) (S : St) : Int32 := if (rd S t 2) = 0 then ((-6 : Int32)) else ((-4 : Int32))
set_option maxRecDepth 100000 in
set_option maxHeartbeats 4000000 in
theorem m_X2_whyNoTree (l : Launch) (w : Wd) (t : Nat) (S : St) (ht : kd t = KdPlace) : J l w I_X2_whyNoTree 0 [(0, .ref (w.2.1 + t))] [] S (fun b => (some (.int b), S)) (some (f_X2_whyNoTree t S)) := by
  unfold f_X2_whyNoTree
  refine j_aload_n (y := I_X2_whyNoTree) 0 dX2_whyNoTree_0 rfl rfl ?_
  refine j_getI (y := I_X2_whyNoTree) fl_2_15 ht rfl dX2_whyNoTree_1 ?_
  refine j_si ?_
  refine j_if_ne (y := I_X2_whyNoTree) 12 dX2_whyNoTree_4 (by decide) (fun h4 => ?_) (fun h4 => ?_)
  · refine j_bipush (y := I_X2_whyNoTree) (v := -4) dX2_whyNoTree_12 (by decide) ?_
    exact j_iret (y := I_X2_whyNoTree) rfl dX2_whyNoTree_14 rfl
  · refine j_bipush (y := I_X2_whyNoTree) (v := -6) dX2_whyNoTree_7 (by decide) ?_
    refine j_goto (y := I_X2_whyNoTree) 14 dX2_whyNoTree_9 (by decide) ?_
    exact j_iret (y := I_X2_whyNoTree) rfl dX2_whyNoTree_14 rfl
theorem c_X2_whyNoTree (l : Launch) (w : Wd) (t : Nat) (S : St) (ht : kd t = KdPlace) : CtS l w I_X2_whyNoTree [.ref (w.2.1 + t)] S S (some (.int (f_X2_whyNoTree t S))) := J.ct (av := [.ref (w.2.1 + t)]) (Nat.le_of_ble_eq_true rfl) pn_2 (m_X2_whyNoTree l w t S ht) rfl
abbrev I_X5_begin : MI := (yX5_begin, cX5_begin, 7, none, { frames := 0, cells := 0, slots := 0, locals := 0 })
theorem dX5_begin_0 : decode cX5_begin 0 = .ok (.aload_n 0, 1) := by decide +kernel
theorem dX5_begin_1 : decode cX5_begin 1 = .ok (.iload_n 1, 1) := by decide +kernel
theorem dX5_begin_2 : decode cX5_begin 2 = .ok (.putfield 15, 3) := by decide +kernel
theorem dX5_begin_5 : decode cX5_begin 5 = .ok (.aload_n 0, 1) := by decide +kernel
theorem dX5_begin_6 : decode cX5_begin 6 = .ok (.iload_n 2, 1) := by decide +kernel
theorem dX5_begin_7 : decode cX5_begin 7 = .ok (.putfield 19, 3) := by decide +kernel
theorem dX5_begin_10 : decode cX5_begin 10 = .ok (.aload_n 0, 1) := by decide +kernel
theorem dX5_begin_11 : decode cX5_begin 11 = .ok (.iload_n 3, 1) := by decide +kernel
theorem dX5_begin_12 : decode cX5_begin 12 = .ok (.putfield 22, 3) := by decide +kernel
theorem dX5_begin_15 : decode cX5_begin 15 = .ok (.aload_n 0, 1) := by decide +kernel
theorem dX5_begin_16 : decode cX5_begin 16 = .ok (.iload 4, 2) := by decide +kernel
theorem dX5_begin_18 : decode cX5_begin 18 = .ok (.putfield 25, 3) := by decide +kernel
theorem dX5_begin_21 : decode cX5_begin 21 = .ok (.aload_n 0, 1) := by decide +kernel
theorem dX5_begin_22 : decode cX5_begin 22 = .ok (.iload 5, 2) := by decide +kernel
theorem dX5_begin_24 : decode cX5_begin 24 = .ok (.putfield 28, 3) := by decide +kernel
theorem dX5_begin_27 : decode cX5_begin 27 = .ok (.aload_n 0, 1) := by decide +kernel
theorem dX5_begin_28 : decode cX5_begin 28 = .ok (.iconst 0, 1) := by decide +kernel
theorem dX5_begin_29 : decode cX5_begin 29 = .ok (.putfield 31, 3) := by decide +kernel
theorem dX5_begin_32 : decode cX5_begin 32 = .ok (.aload_n 0, 1) := by decide +kernel
theorem dX5_begin_33 : decode cX5_begin 33 = .ok (.iconst 0, 1) := by decide +kernel
theorem dX5_begin_34 : decode cX5_begin 34 = .ok (.putfield 34, 3) := by decide +kernel
theorem dX5_begin_37 : decode cX5_begin 37 = .ok (.iconst 0, 1) := by decide +kernel
theorem dX5_begin_38 : decode cX5_begin 38 = .ok (.istore 6, 2) := by decide +kernel
theorem dX5_begin_40 : decode cX5_begin 40 = .ok (.iload 6, 2) := by decide +kernel
theorem dX5_begin_42 : decode cX5_begin 42 = .ok (.bipush 60, 2) := by decide +kernel
theorem dX5_begin_44 : decode cX5_begin 44 = .ok (.if_icmp .ge 17, 3) := by decide +kernel
theorem dX5_begin_47 : decode cX5_begin 47 = .ok (.aload_n 0, 1) := by decide +kernel
theorem dX5_begin_48 : decode cX5_begin 48 = .ok (.getfield 9, 3) := by decide +kernel
theorem dX5_begin_51 : decode cX5_begin 51 = .ok (.iload 6, 2) := by decide +kernel
theorem dX5_begin_53 : decode cX5_begin 53 = .ok (.iconst 0, 1) := by decide +kernel
theorem dX5_begin_54 : decode cX5_begin 54 = .ok (.iastore, 1) := by decide +kernel
theorem dX5_begin_55 : decode cX5_begin 55 = .ok (.iinc 6 1, 3) := by decide +kernel
theorem dX5_begin_58 : decode cX5_begin 58 = .ok (.goto (-18), 3) := by decide +kernel
theorem dX5_begin_61 : decode cX5_begin 61 = .ok (.return_, 1) := by decide +kernel
def f_X5_begin_L40 (fuel : Nat) (K : St → Option (St)) (a40_0 : Nat) (a40_6 : Int32) (S40 : St) : Option (St) := match fuel with
  | 0 => none
  | n + 1 => if a40_6 < (60 : Int32) then (if inb a40_6 60 = true then (f_X5_begin_L40 n K a40_0 (a40_6 + (1 : Int32)) (wr S40 (a40_0 + 1) (ix a40_6) (0 : Int32))) else none) else (K S40)
def f_X5_begin (t : Nat) (x1 : Int32) (x2 : Int32) (x3 : Int32) (x4 : Int32) (x5 : Int32) (S : St) : Option (St) := f_X5_begin_L40 6000 (fun T61 => (some T61)) t (0 : Int32) (wr (wr (wr (wr (wr (wr (wr S t 0 x1) t 1 x2) t 2 x3) t 3 x4) t 4 x5) t 5 (0 : Int32)) t 6 (0 : Int32))
set_option maxRecDepth 100000 in
theorem jl_X5_begin_40 (l : Launch) (w : Wd) (K : St → Option (St)) (n : Nat) : ∀ (a40_0 : Nat) (a40_6 : Int32) (S40 : St) (ha40_0 : kd a40_0 = KdSort), (∀  (S' : St) , J l w I_X5_begin 61 [] [] S' (fun b => (none, b)) (K  S')) → J l w I_X5_begin 40 [(0, .ref (w.2.1 + a40_0)), (6, .int a40_6)] [] S40 (fun b => (none, b)) (f_X5_begin_L40 n K a40_0 a40_6 S40) := by
  induction n with
  | zero =>
    intro a40_0 a40_6 S40 ha40_0 hK b h
    simp only [f_X5_begin_L40] at h
    cases h
  | succ n ih =>
    intro a40_0 a40_6 S40 ha40_0 hK
    rw [f_X5_begin_L40]
    refine j_iload (y := I_X5_begin) 1 dX5_begin_40 rfl ?_
    refine j_bipush (y := I_X5_begin) (v := 60) dX5_begin_42 (by decide) ?_
    refine j_icmp_ge (y := I_X5_begin) 61 dX5_begin_44 (by decide) (fun h44 => ?_) (fun h44 => ?_)
    · refine j_sub [] rfl ?_
      exact hK S40
    · refine j_aload_n (y := I_X5_begin) 0 dX5_begin_47 rfl rfl ?_
      refine j_getR (y := I_X5_begin) (j := (a40_0 + 1)) fl_5_9 ha40_0 rfl rfl dX5_begin_48 ?_
      refine j_iload (y := I_X5_begin) 1 dX5_begin_51 rfl ?_
      refine j_iconst (y := I_X5_begin) (v := 0) dX5_begin_53 (by decide) ?_
      refine j_iast (y := I_X5_begin) (kd_SortA ha40_0) dX5_begin_54 (fun h54 => ?_)
      refine j_iinc (y := I_X5_begin) 1 (ls' := [(6, .int (a40_6 + (1 : Int32))), (0, .ref (w.2.1 + a40_0))]) dX5_begin_55 rfl (ii _ _ (by decide) _) (by decide) rfl ?_
      refine j_goto (y := I_X5_begin) 40 dX5_begin_58 (by decide) ?_
      refine j_sub [1, 0] rfl ?_
      exact ih a40_0 (a40_6 + (1 : Int32)) (wr S40 (a40_0 + 1) (ix a40_6) (0 : Int32)) ha40_0 hK
set_option maxRecDepth 100000 in
set_option maxHeartbeats 4000000 in
theorem m_X5_begin (l : Launch) (w : Wd) (t : Nat) (x1 : Int32) (x2 : Int32) (x3 : Int32) (x4 : Int32) (x5 : Int32) (S : St) (ht : kd t = KdSort) : J l w I_X5_begin 0 [(0, .ref (w.2.1 + t)), (1, .int x1), (2, .int x2), (3, .int x3), (4, .int x4), (5, .int x5)] [] S (fun b => (none, b)) (f_X5_begin t x1 x2 x3 x4 x5 S) := by
  unfold f_X5_begin
  refine j_aload_n (y := I_X5_begin) 0 dX5_begin_0 rfl rfl ?_
  refine j_iload_n (y := I_X5_begin) 1 dX5_begin_1 rfl rfl ?_
  refine j_putI (y := I_X5_begin) fp_5_15 ht rfl rfl rfl dX5_begin_2 ?_
  refine j_aload_n (y := I_X5_begin) 0 dX5_begin_5 rfl rfl ?_
  refine j_iload_n (y := I_X5_begin) 2 dX5_begin_6 rfl rfl ?_
  refine j_putI (y := I_X5_begin) fp_5_19 ht rfl rfl rfl dX5_begin_7 ?_
  refine j_aload_n (y := I_X5_begin) 0 dX5_begin_10 rfl rfl ?_
  refine j_iload_n (y := I_X5_begin) 3 dX5_begin_11 rfl rfl ?_
  refine j_putI (y := I_X5_begin) fp_5_22 ht rfl rfl rfl dX5_begin_12 ?_
  refine j_aload_n (y := I_X5_begin) 0 dX5_begin_15 rfl rfl ?_
  refine j_iload (y := I_X5_begin) 4 dX5_begin_16 rfl ?_
  refine j_putI (y := I_X5_begin) fp_5_25 ht rfl rfl rfl dX5_begin_18 ?_
  refine j_aload_n (y := I_X5_begin) 0 dX5_begin_21 rfl rfl ?_
  refine j_iload (y := I_X5_begin) 5 dX5_begin_22 rfl ?_
  refine j_putI (y := I_X5_begin) fp_5_28 ht rfl rfl rfl dX5_begin_24 ?_
  refine j_aload_n (y := I_X5_begin) 0 dX5_begin_27 rfl rfl ?_
  refine j_iconst (y := I_X5_begin) (v := 0) dX5_begin_28 (by decide) ?_
  refine j_putI (y := I_X5_begin) fp_5_31 ht rfl rfl rfl dX5_begin_29 ?_
  refine j_aload_n (y := I_X5_begin) 0 dX5_begin_32 rfl rfl ?_
  refine j_iconst (y := I_X5_begin) (v := 0) dX5_begin_33 (by decide) ?_
  refine j_putI (y := I_X5_begin) fp_5_34 ht rfl rfl rfl dX5_begin_34 ?_
  refine j_iconst (y := I_X5_begin) (v := 0) dX5_begin_37 (by decide) ?_
  refine j_istore (y := I_X5_begin) (ls' := [(6, .int (0 : Int32)), (0, .ref (w.2.1 + t)), (1, .int x1), (2, .int x2), (3, .int x3), (4, .int x4), (5, .int x5)]) dX5_begin_38 (by decide) rfl ?_
  refine j_sub [1, 0] rfl ?_
  refine jl_X5_begin_40 l w _ 6000 t (0 : Int32) (wr (wr (wr (wr (wr (wr (wr S t 0 x1) t 1 x2) t 2 x3) t 3 x4) t 4 x5) t 5 (0 : Int32)) t 6 (0 : Int32)) ht (fun T61 => ?_)
  exact j_vret (y := I_X5_begin) rfl dX5_begin_61 rfl
theorem c_X5_begin (l : Launch) (w : Wd) (t : Nat) (x1 : Int32) (x2 : Int32) (x3 : Int32) (x4 : Int32) (x5 : Int32) (S : St) (ht : kd t = KdSort) : ∀ v, f_X5_begin t x1 x2 x3 x4 x5 S = some v → CtS l w I_X5_begin [.ref (w.2.1 + t), .int x1, .int x2, .int x3, .int x4, .int x5] S v none := fun v h => J.ct (av := [.ref (w.2.1 + t), .int x1, .int x2, .int x3, .int x4, .int x5]) (Nat.le_of_ble_eq_true rfl) pn_5 (m_X5_begin l w t x1 x2 x3 x4 x5 S ht) h
abbrev I_X5_setAccepts : MI := (yX5_setAccepts, cX5_setAccepts, 4, none, { frames := 0, cells := 0, slots := 0, locals := 0 })
theorem dX5_setAccepts_0 : decode cX5_setAccepts 0 = .ok (.iconst 1, 1) := by decide +kernel
theorem dX5_setAccepts_1 : decode cX5_setAccepts 1 = .ok (.iload_n 1, 1) := by decide +kernel
theorem dX5_setAccepts_2 : decode cX5_setAccepts 2 = .ok (.ishl, 1) := by decide +kernel
theorem dX5_setAccepts_3 : decode cX5_setAccepts 3 = .ok (.istore_n 3, 1) := by decide +kernel
theorem dX5_setAccepts_4 : decode cX5_setAccepts 4 = .ok (.aload_n 0, 1) := by decide +kernel
theorem dX5_setAccepts_5 : decode cX5_setAccepts 5 = .ok (.iload_n 2, 1) := by decide +kernel
theorem dX5_setAccepts_6 : decode cX5_setAccepts 6 = .ok (.ifCond .eq 12, 3) := by decide +kernel
theorem dX5_setAccepts_9 : decode cX5_setAccepts 9 = .ok (.aload_n 0, 1) := by decide +kernel
theorem dX5_setAccepts_10 : decode cX5_setAccepts 10 = .ok (.getfield 31, 3) := by decide +kernel
theorem dX5_setAccepts_13 : decode cX5_setAccepts 13 = .ok (.iload_n 3, 1) := by decide +kernel
theorem dX5_setAccepts_14 : decode cX5_setAccepts 14 = .ok (.ior, 1) := by decide +kernel
theorem dX5_setAccepts_15 : decode cX5_setAccepts 15 = .ok (.goto 11, 3) := by decide +kernel
theorem dX5_setAccepts_18 : decode cX5_setAccepts 18 = .ok (.aload_n 0, 1) := by decide +kernel
theorem dX5_setAccepts_19 : decode cX5_setAccepts 19 = .ok (.getfield 31, 3) := by decide +kernel
theorem dX5_setAccepts_22 : decode cX5_setAccepts 22 = .ok (.iload_n 3, 1) := by decide +kernel
theorem dX5_setAccepts_23 : decode cX5_setAccepts 23 = .ok (.iconst (-1), 1) := by decide +kernel
theorem dX5_setAccepts_24 : decode cX5_setAccepts 24 = .ok (.ixor, 1) := by decide +kernel
theorem dX5_setAccepts_25 : decode cX5_setAccepts 25 = .ok (.iand, 1) := by decide +kernel
theorem dX5_setAccepts_26 : decode cX5_setAccepts 26 = .ok (.putfield 31, 3) := by decide +kernel
theorem dX5_setAccepts_29 : decode cX5_setAccepts 29 = .ok (.return_, 1) := by decide +kernel
def f_X5_setAccepts (t : Nat) (x1 : Int32) (x2 : Bool) (S : St) : St := if x2 = true then ((wr S t 5 ((rd S t 5) ||| ((1 : Int32) <<< (x1 &&& 31))))) else ((wr S t 5 ((rd S t 5) &&& (((1 : Int32) <<< (x1 &&& 31)) ^^^ (-1 : Int32)))))
set_option maxRecDepth 100000 in
set_option maxHeartbeats 4000000 in
theorem m_X5_setAccepts (l : Launch) (w : Wd) (t : Nat) (x1 : Int32) (x2 : Bool) (S : St) (ht : kd t = KdSort) : J l w I_X5_setAccepts 0 [(0, .ref (w.2.1 + t)), (1, .int x1), (2, .int (b2i x2))] [] S (fun b => (none, b)) (some (f_X5_setAccepts t x1 x2 S)) := by
  unfold f_X5_setAccepts
  refine j_iconst (y := I_X5_setAccepts) (v := 1) dX5_setAccepts_0 (by decide) ?_
  refine j_iload_n (y := I_X5_setAccepts) 1 dX5_setAccepts_1 rfl rfl ?_
  refine j_ishl (y := I_X5_setAccepts) dX5_setAccepts_2 ?_
  refine j_istore_n (y := I_X5_setAccepts) (ls' := [(3, .int ((1 : Int32) <<< (x1 &&& 31))), (0, .ref (w.2.1 + t)), (1, .int x1), (2, .int (b2i x2))]) dX5_setAccepts_3 rfl (by decide) rfl ?_
  refine j_aload_n (y := I_X5_setAccepts) 1 dX5_setAccepts_4 rfl rfl ?_
  refine j_iload_n (y := I_X5_setAccepts) 3 dX5_setAccepts_5 rfl rfl ?_
  refine j_si ?_
  refine j_if_eqB (y := I_X5_setAccepts) 18 dX5_setAccepts_6 (by decide) (fun h6 => ?_) (fun h6 => ?_)
  · refine j_aload_n (y := I_X5_setAccepts) 1 dX5_setAccepts_18 rfl rfl ?_
    refine j_getI (y := I_X5_setAccepts) fl_5_31 ht rfl dX5_setAccepts_19 ?_
    refine j_iload_n (y := I_X5_setAccepts) 0 dX5_setAccepts_22 rfl rfl ?_
    refine j_iconst (y := I_X5_setAccepts) (v := -1) dX5_setAccepts_23 (by decide) ?_
    refine j_ixor (y := I_X5_setAccepts) dX5_setAccepts_24 ?_
    refine j_iand (y := I_X5_setAccepts) dX5_setAccepts_25 ?_
    refine j_putI (y := I_X5_setAccepts) fp_5_31 ht rfl rfl rfl dX5_setAccepts_26 ?_
    exact j_vret (y := I_X5_setAccepts) rfl dX5_setAccepts_29 rfl
  · refine j_aload_n (y := I_X5_setAccepts) 1 dX5_setAccepts_9 rfl rfl ?_
    refine j_getI (y := I_X5_setAccepts) fl_5_31 ht rfl dX5_setAccepts_10 ?_
    refine j_iload_n (y := I_X5_setAccepts) 0 dX5_setAccepts_13 rfl rfl ?_
    refine j_ior (y := I_X5_setAccepts) dX5_setAccepts_14 ?_
    refine j_goto (y := I_X5_setAccepts) 26 dX5_setAccepts_15 (by decide) ?_
    refine j_putI (y := I_X5_setAccepts) fp_5_31 ht rfl rfl rfl dX5_setAccepts_26 ?_
    exact j_vret (y := I_X5_setAccepts) rfl dX5_setAccepts_29 rfl
theorem c_X5_setAccepts (l : Launch) (w : Wd) (t : Nat) (x1 : Int32) (x2 : Bool) (S : St) (ht : kd t = KdSort) : CtS l w I_X5_setAccepts [.ref (w.2.1 + t), .int x1, .int (b2i x2)] S (f_X5_setAccepts t x1 x2 S) none := J.ct (av := [.ref (w.2.1 + t), .int x1, .int (b2i x2)]) (Nat.le_of_ble_eq_true rfl) pn_5 (m_X5_setAccepts l w t x1 x2 S ht) rfl
abbrev I_X5_takeOldest : MI := (yX5_takeOldest, cX5_takeOldest, 8, some .int, { frames := 1, cells := 0, slots := 0, locals := 22 })
theorem dX5_takeOldest_0 : decode cX5_takeOldest 0 = .ok (.iload_n 1, 1) := by decide +kernel
theorem dX5_takeOldest_1 : decode cX5_takeOldest 1 = .ok (.aload_n 0, 1) := by decide +kernel
theorem dX5_takeOldest_2 : decode cX5_takeOldest 2 = .ok (.getfield 34, 3) := by decide +kernel
theorem dX5_takeOldest_5 : decode cX5_takeOldest 5 = .ok (.invokestatic 49, 3) := by decide +kernel
theorem dX5_takeOldest_8 : decode cX5_takeOldest 8 = .ok (.istore_n 3, 1) := by decide +kernel
theorem dX5_takeOldest_9 : decode cX5_takeOldest 9 = .ok (.iload_n 3, 1) := by decide +kernel
theorem dX5_takeOldest_10 : decode cX5_takeOldest 10 = .ok (.istore 4, 2) := by decide +kernel
theorem dX5_takeOldest_12 : decode cX5_takeOldest 12 = .ok (.aload_n 0, 1) := by decide +kernel
theorem dX5_takeOldest_13 : decode cX5_takeOldest 13 = .ok (.getfield 25, 3) := by decide +kernel
theorem dX5_takeOldest_16 : decode cX5_takeOldest 16 = .ok (.istore 5, 2) := by decide +kernel
theorem dX5_takeOldest_18 : decode cX5_takeOldest 18 = .ok (.iload 5, 2) := by decide +kernel
theorem dX5_takeOldest_20 : decode cX5_takeOldest 20 = .ok (.iconst 1, 1) := by decide +kernel
theorem dX5_takeOldest_21 : decode cX5_takeOldest 21 = .ok (.if_icmp .lt 54, 3) := by decide +kernel
theorem dX5_takeOldest_24 : decode cX5_takeOldest 24 = .ok (.iload_n 3, 1) := by decide +kernel
theorem dX5_takeOldest_25 : decode cX5_takeOldest 25 = .ok (.ifCond .le 50, 3) := by decide +kernel
theorem dX5_takeOldest_28 : decode cX5_takeOldest 28 = .ok (.iload_n 2, 1) := by decide +kernel
theorem dX5_takeOldest_29 : decode cX5_takeOldest 29 = .ok (.iload 5, 2) := by decide +kernel
theorem dX5_takeOldest_31 : decode cX5_takeOldest 31 = .ok (.isub, 1) := by decide +kernel
theorem dX5_takeOldest_32 : decode cX5_takeOldest 32 = .ok (.bipush 60, 2) := by decide +kernel
theorem dX5_takeOldest_34 : decode cX5_takeOldest 34 = .ok (.invokestatic 43, 3) := by decide +kernel
theorem dX5_takeOldest_37 : decode cX5_takeOldest 37 = .ok (.istore 6, 2) := by decide +kernel
theorem dX5_takeOldest_39 : decode cX5_takeOldest 39 = .ok (.iload_n 3, 1) := by decide +kernel
theorem dX5_takeOldest_40 : decode cX5_takeOldest 40 = .ok (.aload_n 0, 1) := by decide +kernel
theorem dX5_takeOldest_41 : decode cX5_takeOldest 41 = .ok (.getfield 9, 3) := by decide +kernel
theorem dX5_takeOldest_44 : decode cX5_takeOldest 44 = .ok (.iload 6, 2) := by decide +kernel
theorem dX5_takeOldest_46 : decode cX5_takeOldest 46 = .ok (.iaload, 1) := by decide +kernel
theorem dX5_takeOldest_47 : decode cX5_takeOldest 47 = .ok (.invokestatic 49, 3) := by decide +kernel
theorem dX5_takeOldest_50 : decode cX5_takeOldest 50 = .ok (.istore 7, 2) := by decide +kernel
theorem dX5_takeOldest_52 : decode cX5_takeOldest 52 = .ok (.aload_n 0, 1) := by decide +kernel
theorem dX5_takeOldest_53 : decode cX5_takeOldest 53 = .ok (.getfield 9, 3) := by decide +kernel
theorem dX5_takeOldest_56 : decode cX5_takeOldest 56 = .ok (.iload 6, 2) := by decide +kernel
theorem dX5_takeOldest_58 : decode cX5_takeOldest 58 = .ok (.dup2, 1) := by decide +kernel
theorem dX5_takeOldest_59 : decode cX5_takeOldest 59 = .ok (.iaload, 1) := by decide +kernel
theorem dX5_takeOldest_60 : decode cX5_takeOldest 60 = .ok (.iload 7, 2) := by decide +kernel
theorem dX5_takeOldest_62 : decode cX5_takeOldest 62 = .ok (.isub, 1) := by decide +kernel
theorem dX5_takeOldest_63 : decode cX5_takeOldest 63 = .ok (.iastore, 1) := by decide +kernel
theorem dX5_takeOldest_64 : decode cX5_takeOldest 64 = .ok (.iload_n 3, 1) := by decide +kernel
theorem dX5_takeOldest_65 : decode cX5_takeOldest 65 = .ok (.iload 7, 2) := by decide +kernel
theorem dX5_takeOldest_67 : decode cX5_takeOldest 67 = .ok (.isub, 1) := by decide +kernel
theorem dX5_takeOldest_68 : decode cX5_takeOldest 68 = .ok (.istore_n 3, 1) := by decide +kernel
theorem dX5_takeOldest_69 : decode cX5_takeOldest 69 = .ok (.iinc 5 (-1), 3) := by decide +kernel
theorem dX5_takeOldest_72 : decode cX5_takeOldest 72 = .ok (.goto (-54), 3) := by decide +kernel
theorem dX5_takeOldest_75 : decode cX5_takeOldest 75 = .ok (.aload_n 0, 1) := by decide +kernel
theorem dX5_takeOldest_76 : decode cX5_takeOldest 76 = .ok (.dup, 1) := by decide +kernel
theorem dX5_takeOldest_77 : decode cX5_takeOldest 77 = .ok (.getfield 34, 3) := by decide +kernel
theorem dX5_takeOldest_80 : decode cX5_takeOldest 80 = .ok (.iload 4, 2) := by decide +kernel
theorem dX5_takeOldest_82 : decode cX5_takeOldest 82 = .ok (.isub, 1) := by decide +kernel
theorem dX5_takeOldest_83 : decode cX5_takeOldest 83 = .ok (.putfield 34, 3) := by decide +kernel
theorem dX5_takeOldest_86 : decode cX5_takeOldest 86 = .ok (.iload 4, 2) := by decide +kernel
theorem dX5_takeOldest_88 : decode cX5_takeOldest 88 = .ok (.ireturn, 1) := by decide +kernel
def f_X5_takeOldest_L18 (fuel : Nat) (K : Nat → Int32 → St → Option (Int32 × St)) (a18_0 : Nat) (a18_2 : Int32) (a18_3 : Int32) (a18_4 : Int32) (a18_5 : Int32) (S18 : St) : Option (Int32 × St) := match fuel with
  | 0 => none
  | n + 1 => if a18_5 < (1 : Int32) then (K a18_0 a18_4 S18) else (if 0 < a18_3 then (if inb (fmI (a18_2 - a18_5) (60 : Int32)) 60 = true then (if inb (fmI (a18_2 - a18_5) (60 : Int32)) 60 = true then (if inb (fmI (a18_2 - a18_5) (60 : Int32)) 60 = true then (f_X5_takeOldest_L18 n K a18_0 a18_2 (a18_3 - (mnI a18_3 (rd S18 (a18_0 + 1) (ix (fmI (a18_2 - a18_5) (60 : Int32)))))) a18_4 (a18_5 + (-1 : Int32)) (wr S18 (a18_0 + 1) (ix (fmI (a18_2 - a18_5) (60 : Int32))) ((rd S18 (a18_0 + 1) (ix (fmI (a18_2 - a18_5) (60 : Int32)))) - (mnI a18_3 (rd S18 (a18_0 + 1) (ix (fmI (a18_2 - a18_5) (60 : Int32)))))))) else none) else none) else none) else (K a18_0 a18_4 S18))
def f_X5_takeOldest_J75 (j75_0 : Nat) (j75_4 : Int32) (S75 : St) : Option (Int32 × St) := some (j75_4, (wr S75 j75_0 6 ((rd S75 j75_0 6) - j75_4)))
def f_X5_takeOldest (t : Nat) (x1 : Int32) (x2 : Int32) (S : St) : Option (Int32 × St) := f_X5_takeOldest_L18 6000 (fun e75_0 e75_4 T75 => (f_X5_takeOldest_J75 e75_0 e75_4 T75)) t x2 (mnI x1 (rd S t 6)) (mnI x1 (rd S t 6)) (rd S t 3) S
set_option maxRecDepth 100000 in
theorem jl_X5_takeOldest_18 (l : Launch) (w : Wd) (K : Nat → Int32 → St → Option (Int32 × St)) (n : Nat) : ∀ (a18_0 : Nat) (a18_2 : Int32) (a18_3 : Int32) (a18_4 : Int32) (a18_5 : Int32) (S18 : St) (ha18_0 : kd a18_0 = KdSort), (∀ (e75_0 : Nat) (e75_4 : Int32) (S' : St) (he75_0 : kd e75_0 = KdSort), J l w I_X5_takeOldest 75 [(0, .ref (w.2.1 + e75_0)), (4, .int e75_4)] [] S' (fun b => (some (.int b.1), b.2)) (K e75_0 e75_4 S')) → J l w I_X5_takeOldest 18 [(0, .ref (w.2.1 + a18_0)), (2, .int a18_2), (3, .int a18_3), (4, .int a18_4), (5, .int a18_5)] [] S18 (fun b => (some (.int b.1), b.2)) (f_X5_takeOldest_L18 n K a18_0 a18_2 a18_3 a18_4 a18_5 S18) := by
  induction n with
  | zero =>
    intro a18_0 a18_2 a18_3 a18_4 a18_5 S18 ha18_0 hK b h
    simp only [f_X5_takeOldest_L18] at h
    cases h
  | succ n ih =>
    intro a18_0 a18_2 a18_3 a18_4 a18_5 S18 ha18_0 hK
    rw [f_X5_takeOldest_L18]
    refine j_iload (y := I_X5_takeOldest) 4 dX5_takeOldest_18 rfl ?_
    refine j_iconst (y := I_X5_takeOldest) (v := 1) dX5_takeOldest_20 (by decide) ?_
    refine j_icmp_lt (y := I_X5_takeOldest) 75 dX5_takeOldest_21 (by decide) (fun h21 => ?_) (fun h21 => ?_)
    · refine j_sub [0, 3] rfl ?_
      exact hK a18_0 a18_4 S18 ha18_0
    · refine j_iload_n (y := I_X5_takeOldest) 2 dX5_takeOldest_24 rfl rfl ?_
      refine j_if_le (y := I_X5_takeOldest) 75 dX5_takeOldest_25 (by decide) (fun h25 => ?_) (fun h25 => ?_)
      · refine j_sub [0, 3] rfl ?_
        exact hK a18_0 a18_4 S18 ha18_0
      · refine j_iload_n (y := I_X5_takeOldest) 1 dX5_takeOldest_28 rfl rfl ?_
        refine j_iload (y := I_X5_takeOldest) 4 dX5_takeOldest_29 rfl ?_
        refine j_isub (y := I_X5_takeOldest) dX5_takeOldest_31 ?_
        refine j_bipush (y := I_X5_takeOldest) (v := 60) dX5_takeOldest_32 (by decide) ?_
        refine j_mfloor (y := I_X5_takeOldest) (gm 599 (by decide +kernel) rfl) (by decide) (Nat.le_of_ble_eq_true rfl) (Nat.le_of_ble_eq_true rfl) dX5_takeOldest_34 ?_
        refine j_istore (y := I_X5_takeOldest) (ls' := [(6, .int (fmI (a18_2 - a18_5) (60 : Int32))), (0, .ref (w.2.1 + a18_0)), (2, .int a18_2), (3, .int a18_3), (4, .int a18_4), (5, .int a18_5)]) dX5_takeOldest_37 (by decide) rfl ?_
        refine j_iload_n (y := I_X5_takeOldest) 3 dX5_takeOldest_39 rfl rfl ?_
        refine j_aload_n (y := I_X5_takeOldest) 1 dX5_takeOldest_40 rfl rfl ?_
        refine j_getR (y := I_X5_takeOldest) (j := (a18_0 + 1)) fl_5_9 ha18_0 rfl rfl dX5_takeOldest_41 ?_
        refine j_iload (y := I_X5_takeOldest) 0 dX5_takeOldest_44 rfl ?_
        refine j_iald (y := I_X5_takeOldest) (kd_SortA ha18_0) dX5_takeOldest_46 (fun h46 => ?_)
        refine j_mmin (y := I_X5_takeOldest) (gm 690 (by decide +kernel) rfl) (Nat.le_of_ble_eq_true rfl) (Nat.le_of_ble_eq_true rfl) dX5_takeOldest_47 ?_
        refine j_istore (y := I_X5_takeOldest) (ls' := [(7, .int (mnI a18_3 (rd S18 (a18_0 + 1) (ix (fmI (a18_2 - a18_5) (60 : Int32)))))), (6, .int (fmI (a18_2 - a18_5) (60 : Int32))), (0, .ref (w.2.1 + a18_0)), (2, .int a18_2), (3, .int a18_3), (4, .int a18_4), (5, .int a18_5)]) dX5_takeOldest_50 (by decide) rfl ?_
        refine j_aload_n (y := I_X5_takeOldest) 2 dX5_takeOldest_52 rfl rfl ?_
        refine j_getR (y := I_X5_takeOldest) (j := (a18_0 + 1)) fl_5_9 ha18_0 rfl rfl dX5_takeOldest_53 ?_
        refine j_iload (y := I_X5_takeOldest) 1 dX5_takeOldest_56 rfl ?_
        refine j_dup2 (y := I_X5_takeOldest) dX5_takeOldest_58 rfl rfl ?_
        refine j_iald (y := I_X5_takeOldest) (kd_SortA ha18_0) dX5_takeOldest_59 (fun h59 => ?_)
        refine j_iload (y := I_X5_takeOldest) 0 dX5_takeOldest_60 rfl ?_
        refine j_isub (y := I_X5_takeOldest) dX5_takeOldest_62 ?_
        refine j_iast (y := I_X5_takeOldest) (kd_SortA ha18_0) dX5_takeOldest_63 (fun h63 => ?_)
        refine j_iload_n (y := I_X5_takeOldest) 4 dX5_takeOldest_64 rfl rfl ?_
        refine j_iload (y := I_X5_takeOldest) 0 dX5_takeOldest_65 rfl ?_
        refine j_isub (y := I_X5_takeOldest) dX5_takeOldest_67 ?_
        refine j_istore_n (y := I_X5_takeOldest) (ls' := [(3, .int (a18_3 - (mnI a18_3 (rd S18 (a18_0 + 1) (ix (fmI (a18_2 - a18_5) (60 : Int32))))))), (7, .int (mnI a18_3 (rd S18 (a18_0 + 1) (ix (fmI (a18_2 - a18_5) (60 : Int32)))))), (6, .int (fmI (a18_2 - a18_5) (60 : Int32))), (0, .ref (w.2.1 + a18_0)), (2, .int a18_2), (4, .int a18_4), (5, .int a18_5)]) dX5_takeOldest_68 rfl (by decide) rfl ?_
        refine j_iinc (y := I_X5_takeOldest) 6 (ls' := [(5, .int (a18_5 + (-1 : Int32))), (3, .int (a18_3 - (mnI a18_3 (rd S18 (a18_0 + 1) (ix (fmI (a18_2 - a18_5) (60 : Int32))))))), (7, .int (mnI a18_3 (rd S18 (a18_0 + 1) (ix (fmI (a18_2 - a18_5) (60 : Int32)))))), (6, .int (fmI (a18_2 - a18_5) (60 : Int32))), (0, .ref (w.2.1 + a18_0)), (2, .int a18_2), (4, .int a18_4)]) dX5_takeOldest_69 rfl (ii _ _ (by decide) _) (by decide) rfl ?_
        refine j_goto (y := I_X5_takeOldest) 18 dX5_takeOldest_72 (by decide) ?_
        refine j_sub [4, 5, 1, 6, 0] rfl ?_
        exact ih a18_0 a18_2 (a18_3 - (mnI a18_3 (rd S18 (a18_0 + 1) (ix (fmI (a18_2 - a18_5) (60 : Int32)))))) a18_4 (a18_5 + (-1 : Int32)) (wr S18 (a18_0 + 1) (ix (fmI (a18_2 - a18_5) (60 : Int32))) ((rd S18 (a18_0 + 1) (ix (fmI (a18_2 - a18_5) (60 : Int32)))) - (mnI a18_3 (rd S18 (a18_0 + 1) (ix (fmI (a18_2 - a18_5) (60 : Int32))))))) ha18_0 hK
set_option maxRecDepth 100000 in
theorem jj_X5_takeOldest_75 (l : Launch) (w : Wd) (j75_0 : Nat) (j75_4 : Int32) (S75 : St) (hj75_0 : kd j75_0 = KdSort) : J l w I_X5_takeOldest 75 [(0, .ref (w.2.1 + j75_0)), (4, .int j75_4)] [] S75 (fun b => (some (.int b.1), b.2)) (f_X5_takeOldest_J75 j75_0 j75_4 S75) := by
  unfold f_X5_takeOldest_J75
  refine j_aload_n (y := I_X5_takeOldest) 0 dX5_takeOldest_75 rfl rfl ?_
  refine j_dup (y := I_X5_takeOldest) dX5_takeOldest_76 rfl ?_
  refine j_getI (y := I_X5_takeOldest) fl_5_34 hj75_0 rfl dX5_takeOldest_77 ?_
  refine j_iload (y := I_X5_takeOldest) 1 dX5_takeOldest_80 rfl ?_
  refine j_isub (y := I_X5_takeOldest) dX5_takeOldest_82 ?_
  refine j_putI (y := I_X5_takeOldest) fp_5_34 hj75_0 rfl rfl rfl dX5_takeOldest_83 ?_
  refine j_iload (y := I_X5_takeOldest) 1 dX5_takeOldest_86 rfl ?_
  exact j_iret (y := I_X5_takeOldest) rfl dX5_takeOldest_88 rfl
set_option maxRecDepth 100000 in
set_option maxHeartbeats 4000000 in
theorem m_X5_takeOldest (l : Launch) (w : Wd) (t : Nat) (x1 : Int32) (x2 : Int32) (S : St) (ht : kd t = KdSort) : J l w I_X5_takeOldest 0 [(0, .ref (w.2.1 + t)), (1, .int x1), (2, .int x2)] [] S (fun b => (some (.int b.1), b.2)) (f_X5_takeOldest t x1 x2 S) := by
  unfold f_X5_takeOldest
  refine j_iload_n (y := I_X5_takeOldest) 1 dX5_takeOldest_0 rfl rfl ?_
  refine j_aload_n (y := I_X5_takeOldest) 0 dX5_takeOldest_1 rfl rfl ?_
  refine j_getI (y := I_X5_takeOldest) fl_5_34 ht rfl dX5_takeOldest_2 ?_
  refine j_mmin (y := I_X5_takeOldest) (gm 690 (by decide +kernel) rfl) (Nat.le_of_ble_eq_true rfl) (Nat.le_of_ble_eq_true rfl) dX5_takeOldest_5 ?_
  refine j_istore_n (y := I_X5_takeOldest) (ls' := [(3, .int (mnI x1 (rd S t 6))), (0, .ref (w.2.1 + t)), (1, .int x1), (2, .int x2)]) dX5_takeOldest_8 rfl (by decide) rfl ?_
  refine j_iload_n (y := I_X5_takeOldest) 0 dX5_takeOldest_9 rfl rfl ?_
  refine j_istore (y := I_X5_takeOldest) (ls' := [(4, .int (mnI x1 (rd S t 6))), (3, .int (mnI x1 (rd S t 6))), (0, .ref (w.2.1 + t)), (1, .int x1), (2, .int x2)]) dX5_takeOldest_10 (by decide) rfl ?_
  refine j_aload_n (y := I_X5_takeOldest) 2 dX5_takeOldest_12 rfl rfl ?_
  refine j_getI (y := I_X5_takeOldest) fl_5_25 ht rfl dX5_takeOldest_13 ?_
  refine j_istore (y := I_X5_takeOldest) (ls' := [(5, .int (rd S t 3)), (4, .int (mnI x1 (rd S t 6))), (3, .int (mnI x1 (rd S t 6))), (0, .ref (w.2.1 + t)), (1, .int x1), (2, .int x2)]) dX5_takeOldest_16 (by decide) rfl ?_
  refine j_sub [3, 5, 2, 1, 0] rfl ?_
  refine jl_X5_takeOldest_18 l w _ 6000 t x2 (mnI x1 (rd S t 6)) (mnI x1 (rd S t 6)) (rd S t 3) S ht (fun e75_0 e75_4 T75 he75_0 => ?_)
  refine j_sub [0, 1] rfl ?_
  exact jj_X5_takeOldest_75 l w e75_0 e75_4 T75 he75_0
theorem c_X5_takeOldest (l : Launch) (w : Wd) (t : Nat) (x1 : Int32) (x2 : Int32) (S : St) (ht : kd t = KdSort) : ∀ v, f_X5_takeOldest t x1 x2 S = some v → CtS l w I_X5_takeOldest [.ref (w.2.1 + t), .int x1, .int x2] S v.2 (some (.int v.1)) := fun v h => J.ct (av := [.ref (w.2.1 + t), .int x1, .int x2]) (Nat.le_of_ble_eq_true rfl) pn_5 (m_X5_takeOldest l w t x1 x2 S ht) h
abbrev I_X6_within : MI := (yX6_within, cX6_within, 3, some .boolean, { frames := 0, cells := 0, slots := 0, locals := 0 })
theorem dX6_within_0 : decode cX6_within 0 = .ok (.iload_n 0, 1) := by decide +kernel
theorem dX6_within_1 : decode cX6_within 1 = .ok (.iload_n 1, 1) := by decide +kernel
theorem dX6_within_2 : decode cX6_within 2 = .ok (.if_icmp .lt 12, 3) := by decide +kernel
theorem dX6_within_5 : decode cX6_within 5 = .ok (.iload_n 0, 1) := by decide +kernel
theorem dX6_within_6 : decode cX6_within 6 = .ok (.iload_n 2, 1) := by decide +kernel
theorem dX6_within_7 : decode cX6_within 7 = .ok (.if_icmp .gt 7, 3) := by decide +kernel
theorem dX6_within_10 : decode cX6_within 10 = .ok (.iconst 1, 1) := by decide +kernel
theorem dX6_within_11 : decode cX6_within 11 = .ok (.goto 4, 3) := by decide +kernel
theorem dX6_within_14 : decode cX6_within 14 = .ok (.iconst 0, 1) := by decide +kernel
theorem dX6_within_15 : decode cX6_within 15 = .ok (.ireturn, 1) := by decide +kernel
def f_X6_within (x0 : Int32) (x1 : Int32) (x2 : Int32)  : Bool := if x0 < x1 then (false) else (if x2 < x0 then (false) else (true))
set_option maxRecDepth 100000 in
set_option maxHeartbeats 4000000 in
theorem m_X6_within (l : Launch) (w : Wd) (x0 : Int32) (x1 : Int32) (x2 : Int32) (S : St)  : J l w I_X6_within 0 [(0, .int x0), (1, .int x1), (2, .int x2)] [] S (fun b => (some (.int (b2i b)), S)) (some (f_X6_within x0 x1 x2)) := by
  unfold f_X6_within
  refine j_iload_n (y := I_X6_within) 0 dX6_within_0 rfl rfl ?_
  refine j_iload_n (y := I_X6_within) 1 dX6_within_1 rfl rfl ?_
  refine j_si ?_
  refine j_icmp_lt (y := I_X6_within) 14 dX6_within_2 (by decide) (fun h2 => ?_) (fun h2 => ?_)
  · refine j_iconst (y := I_X6_within) (v := 0) dX6_within_14 (by decide) ?_
    exact j_zret (y := I_X6_within) (q := false) rfl rfl dX6_within_15 rfl
  · refine j_iload_n (y := I_X6_within) 0 dX6_within_5 rfl rfl ?_
    refine j_iload_n (y := I_X6_within) 2 dX6_within_6 rfl rfl ?_
    refine j_si ?_
    refine j_icmp_gt (y := I_X6_within) 14 dX6_within_7 (by decide) (fun h7 => ?_) (fun h7 => ?_)
    · refine j_iconst (y := I_X6_within) (v := 0) dX6_within_14 (by decide) ?_
      exact j_zret (y := I_X6_within) (q := false) rfl rfl dX6_within_15 rfl
    · refine j_iconst (y := I_X6_within) (v := 1) dX6_within_10 (by decide) ?_
      refine j_goto (y := I_X6_within) 15 dX6_within_11 (by decide) ?_
      exact j_zret (y := I_X6_within) (q := true) rfl rfl dX6_within_15 rfl
theorem c_X6_within (l : Launch) (w : Wd) (x0 : Int32) (x1 : Int32) (x2 : Int32) (S : St)  : CtS l w I_X6_within [.int x0, .int x1, .int x2] S S (some (.int (b2i (f_X6_within x0 x1 x2)))) := J.ct (av := [.int x0, .int x1, .int x2]) (Nat.le_of_ble_eq_true rfl) pn_6 (m_X6_within l w x0 x1 x2 S ) rfl
abbrev I_X6_isPlace : MI := (yX6_isPlace, cX6_isPlace, 1, some .boolean, { frames := 1, cells := 0, slots := 0, locals := 22 })
theorem dX6_isPlace_0 : decode cX6_isPlace 0 = .ok (.iload_n 0, 1) := by decide +kernel
theorem dX6_isPlace_1 : decode cX6_isPlace 1 = .ok (.iconst 0, 1) := by decide +kernel
theorem dX6_isPlace_2 : decode cX6_isPlace 2 = .ok (.bipush 11, 2) := by decide +kernel
theorem dX6_isPlace_4 : decode cX6_isPlace 4 = .ok (.invokestatic 48, 3) := by decide +kernel
theorem dX6_isPlace_7 : decode cX6_isPlace 7 = .ok (.ireturn, 1) := by decide +kernel
theorem cv_6_48 : CS RX6 48 3 I_X6_within := ⟨⟨⟨gm 328 (by decide +kernel) rfl, gm 330 (by decide +kernel) rfl, gm 37 (by decide +kernel) rfl, mh_6.1, mh_6.2, by decide +kernel⟩, gm 329 (by decide +kernel) rfl⟩, rfl, rfl⟩
def f_X6_isPlace (x0 : Int32)  : Bool := (f_X6_within x0 (0 : Int32) (11 : Int32))
set_option maxRecDepth 100000 in
set_option maxHeartbeats 4000000 in
theorem m_X6_isPlace (l : Launch) (w : Wd) (x0 : Int32) (S : St)  : J l w I_X6_isPlace 0 [(0, .int x0)] [] S (fun b => (some (.int (b2i b)), S)) (some (f_X6_isPlace x0)) := by
  unfold f_X6_isPlace
  refine j_iload_n (y := I_X6_isPlace) 0 dX6_isPlace_0 rfl rfl ?_
  refine j_iconst (y := I_X6_isPlace) (v := 0) dX6_isPlace_1 (by decide) ?_
  refine j_bipush (y := I_X6_isPlace) (v := 11) dX6_isPlace_2 (by decide) ?_
  refine j_callSzT (y := I_X6_isPlace) (As := [.int x0, .int (0 : Int32), .int (11 : Int32)]) cv_6_48 ⟨Nat.le_of_ble_eq_true rfl, Nat.le_of_ble_eq_true rfl⟩ rfl (Nat.le_of_ble_eq_true rfl) dX6_isPlace_4 (c_X6_within l w x0 (0 : Int32) (11 : Int32) S) ?_
  exact j_zret (y := I_X6_isPlace) (q := (f_X6_within x0 (0 : Int32) (11 : Int32))) rfl rfl dX6_isPlace_7 rfl
theorem c_X6_isPlace (l : Launch) (w : Wd) (x0 : Int32) (S : St)  : CtS l w I_X6_isPlace [.int x0] S S (some (.int (b2i (f_X6_isPlace x0)))) := J.ct (av := [.int x0]) (Nat.le_of_ble_eq_true rfl) pn_6 (m_X6_isPlace l w x0 S ) rfl
abbrev I_X6_isSheet : MI := (yX6_isSheet, cX6_isSheet, 1, some .boolean, { frames := 1, cells := 0, slots := 0, locals := 22 })
theorem dX6_isSheet_0 : decode cX6_isSheet 0 = .ok (.iload_n 0, 1) := by decide +kernel
theorem dX6_isSheet_1 : decode cX6_isSheet 1 = .ok (.iconst 0, 1) := by decide +kernel
theorem dX6_isSheet_2 : decode cX6_isSheet 2 = .ok (.iconst 3, 1) := by decide +kernel
theorem dX6_isSheet_3 : decode cX6_isSheet 3 = .ok (.invokestatic 48, 3) := by decide +kernel
theorem dX6_isSheet_6 : decode cX6_isSheet 6 = .ok (.ireturn, 1) := by decide +kernel
def f_X6_isSheet (x0 : Int32)  : Bool := (f_X6_within x0 (0 : Int32) (3 : Int32))
set_option maxRecDepth 100000 in
set_option maxHeartbeats 4000000 in
theorem m_X6_isSheet (l : Launch) (w : Wd) (x0 : Int32) (S : St)  : J l w I_X6_isSheet 0 [(0, .int x0)] [] S (fun b => (some (.int (b2i b)), S)) (some (f_X6_isSheet x0)) := by
  unfold f_X6_isSheet
  refine j_iload_n (y := I_X6_isSheet) 0 dX6_isSheet_0 rfl rfl ?_
  refine j_iconst (y := I_X6_isSheet) (v := 0) dX6_isSheet_1 (by decide) ?_
  refine j_iconst (y := I_X6_isSheet) (v := 3) dX6_isSheet_2 (by decide) ?_
  refine j_callSzT (y := I_X6_isSheet) (As := [.int x0, .int (0 : Int32), .int (3 : Int32)]) cv_6_48 ⟨Nat.le_of_ble_eq_true rfl, Nat.le_of_ble_eq_true rfl⟩ rfl (Nat.le_of_ble_eq_true rfl) dX6_isSheet_3 (c_X6_within l w x0 (0 : Int32) (3 : Int32) S) ?_
  exact j_zret (y := I_X6_isSheet) (q := (f_X6_within x0 (0 : Int32) (3 : Int32))) rfl rfl dX6_isSheet_6 rfl
theorem c_X6_isSheet (l : Launch) (w : Wd) (x0 : Int32) (S : St)  : CtS l w I_X6_isSheet [.int x0] S S (some (.int (b2i (f_X6_isSheet x0)))) := J.ct (av := [.int x0]) (Nat.le_of_ble_eq_true rfl) pn_6 (m_X6_isSheet l w x0 S ) rfl
abbrev I_X6_isDay : MI := (yX6_isDay, cX6_isDay, 1, some .boolean, { frames := 1, cells := 0, slots := 0, locals := 22 })
theorem dX6_isDay_0 : decode cX6_isDay 0 = .ok (.iload_n 0, 1) := by decide +kernel
theorem dX6_isDay_1 : decode cX6_isDay 1 = .ok (.iconst 0, 1) := by decide +kernel
theorem dX6_isDay_2 : decode cX6_isDay 2 = .ok (.bipush 49, 2) := by decide +kernel
theorem dX6_isDay_4 : decode cX6_isDay 4 = .ok (.invokestatic 48, 3) := by decide +kernel
theorem dX6_isDay_7 : decode cX6_isDay 7 = .ok (.ireturn, 1) := by decide +kernel
def f_X6_isDay (x0 : Int32)  : Bool := (f_X6_within x0 (0 : Int32) (49 : Int32))
set_option maxRecDepth 100000 in
set_option maxHeartbeats 4000000 in
theorem m_X6_isDay (l : Launch) (w : Wd) (x0 : Int32) (S : St)  : J l w I_X6_isDay 0 [(0, .int x0)] [] S (fun b => (some (.int (b2i b)), S)) (some (f_X6_isDay x0)) := by
  unfold f_X6_isDay
  refine j_iload_n (y := I_X6_isDay) 0 dX6_isDay_0 rfl rfl ?_
  refine j_iconst (y := I_X6_isDay) (v := 0) dX6_isDay_1 (by decide) ?_
  refine j_bipush (y := I_X6_isDay) (v := 49) dX6_isDay_2 (by decide) ?_
  refine j_callSzT (y := I_X6_isDay) (As := [.int x0, .int (0 : Int32), .int (49 : Int32)]) cv_6_48 ⟨Nat.le_of_ble_eq_true rfl, Nat.le_of_ble_eq_true rfl⟩ rfl (Nat.le_of_ble_eq_true rfl) dX6_isDay_4 (c_X6_within l w x0 (0 : Int32) (49 : Int32) S) ?_
  exact j_zret (y := I_X6_isDay) (q := (f_X6_within x0 (0 : Int32) (49 : Int32))) rfl rfl dX6_isDay_7 rfl
theorem c_X6_isDay (l : Launch) (w : Wd) (x0 : Int32) (S : St)  : CtS l w I_X6_isDay [.int x0] S S (some (.int (b2i (f_X6_isDay x0)))) := J.ct (av := [.int x0]) (Nat.le_of_ble_eq_true rfl) pn_6 (m_X6_isDay l w x0 S ) rfl
abbrev I_X6_isPart : MI := (yX6_isPart, cX6_isPart, 1, some .boolean, { frames := 1, cells := 0, slots := 0, locals := 22 })
theorem dX6_isPart_0 : decode cX6_isPart 0 = .ok (.iload_n 0, 1) := by decide +kernel
theorem dX6_isPart_1 : decode cX6_isPart 1 = .ok (.iconst 0, 1) := by decide +kernel
theorem dX6_isPart_2 : decode cX6_isPart 2 = .ok (.iconst 1, 1) := by decide +kernel
theorem dX6_isPart_3 : decode cX6_isPart 3 = .ok (.invokestatic 48, 3) := by decide +kernel
theorem dX6_isPart_6 : decode cX6_isPart 6 = .ok (.ireturn, 1) := by decide +kernel
def f_X6_isPart (x0 : Int32)  : Bool := (f_X6_within x0 (0 : Int32) (1 : Int32))
set_option maxRecDepth 100000 in
set_option maxHeartbeats 4000000 in
theorem m_X6_isPart (l : Launch) (w : Wd) (x0 : Int32) (S : St)  : J l w I_X6_isPart 0 [(0, .int x0)] [] S (fun b => (some (.int (b2i b)), S)) (some (f_X6_isPart x0)) := by
  unfold f_X6_isPart
  refine j_iload_n (y := I_X6_isPart) 0 dX6_isPart_0 rfl rfl ?_
  refine j_iconst (y := I_X6_isPart) (v := 0) dX6_isPart_1 (by decide) ?_
  refine j_iconst (y := I_X6_isPart) (v := 1) dX6_isPart_2 (by decide) ?_
  refine j_callSzT (y := I_X6_isPart) (As := [.int x0, .int (0 : Int32), .int (1 : Int32)]) cv_6_48 ⟨Nat.le_of_ble_eq_true rfl, Nat.le_of_ble_eq_true rfl⟩ rfl (Nat.le_of_ble_eq_true rfl) dX6_isPart_3 (c_X6_within l w x0 (0 : Int32) (1 : Int32) S) ?_
  exact j_zret (y := I_X6_isPart) (q := (f_X6_within x0 (0 : Int32) (1 : Int32))) rfl rfl dX6_isPart_6 rfl
theorem c_X6_isPart (l : Launch) (w : Wd) (x0 : Int32) (S : St)  : CtS l w I_X6_isPart [.int x0] S S (some (.int (b2i (f_X6_isPart x0)))) := J.ct (av := [.int x0]) (Nat.le_of_ble_eq_true rfl) pn_6 (m_X6_isPart l w x0 S ) rfl
