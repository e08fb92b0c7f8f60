theorem oi_i : Cond.instanceMethod Lib.objectInit ∈ gw := gm 53 (by decide +kernel) rfl
theorem oi_c : Cond.code Lib.objectInit ⟨#[0xb1]⟩ 1 none ∈ gw := gm 54 (by decide +kernel) rfl
theorem ac_int : Cond.arrayClass .int ∈ gw := gm 102 (by decide +kernel) rfl
theorem ac_long : Cond.arrayClass .long ∈ gw := gm 103 (by decide +kernel) rfl
theorem ac_boolean : Cond.arrayClass .boolean ∈ gw := gm 852 (by decide +kernel) rfl
theorem dX5_init_0 : decode cX5_init 0 = .ok (.aload_n 0, 1) := by decide +kernel
theorem dX5_init_1 : decode cX5_init 1 = .ok (.invokespecial 3, 3) := by decide +kernel
theorem dX5_init_4 : decode cX5_init 4 = .ok (.aload_n 0, 1) := by decide +kernel
theorem dX5_init_5 : decode cX5_init 5 = .ok (.bipush 60, 2) := by decide +kernel
theorem dX5_init_7 : decode cX5_init 7 = .ok (.newarray .int, 2) := by decide +kernel
theorem dX5_init_9 : decode cX5_init 9 = .ok (.putfield 9, 3) := by decide +kernel
theorem dX5_init_12 : decode cX5_init 12 = .ok (.return_, 1) := by decide +kernel
abbrev I_X5_init : MI := (yX5_init, cX5_init, 1, none, { frames := 1, cells := 1, slots := 60, locals := 20 })
theorem fi_5_9 : FP RX5 9 5 7 true (.array .int) := ⟨_, _, _, tyX5, rfl, iX5, by decide, gm 84 (by decide +kernel) rfl, tyX5_ok, nmX5, rfl, (fun h => rfl), rfl⟩
set_option maxRecDepth 100000 in
theorem c_X5_init (l : Launch) (w : Wd) (t n : Nat) (ρ : Rf) (S : St) (ht : kd t = KdSort) (htn : t < n) (hk : kd n = Kints 60) (h0 : ∀ j, S.1 n j = 0) : Ct l w I_X5_init [.ref (w.2.1 + t)] n ρ S (n + 1, up2 ρ t 7 (some n), S, 1, 60) none := by
  refine Ct.of (Nat.le_of_ble_eq_true rfl) pn_5 ?_
  refine g_aload_n (y := I_X5_init) 0 dX5_init_0 rfl rfl ?_
  refine g_objInit (y := I_X5_init) (gm 69 (by decide +kernel) rfl) oi_i oi_c (Nat.le_of_ble_eq_true rfl) (Nat.le_of_ble_eq_true rfl) dX5_init_1 ?_
  refine g_aload_n (y := I_X5_init) 0 dX5_init_4 rfl rfl ?_
  refine g_bipush (y := I_X5_init) (v := 60) dX5_init_5 (by decide) ?_
  refine g_newI (y := I_X5_init) ac_int hk h0 (by decide) (by decide) (by decide) (Nat.le_of_ble_eq_true rfl) (Nat.le_of_ble_eq_true rfl) dX5_init_7 ?_
  refine g_putR (y := I_X5_init) fi_5_9 rfl ht rfl (by omega) rfl rfl dX5_init_9 ?_
  exact g_vret (y := I_X5_init) rfl dX5_init_12
theorem dX2_init_0 : decode cX2_init 0 = .ok (.aload_n 0, 1) := by decide +kernel
theorem dX2_init_1 : decode cX2_init 1 = .ok (.invokespecial 3, 3) := by decide +kernel
theorem dX2_init_4 : decode cX2_init 4 = .ok (.aload_n 0, 1) := by decide +kernel
theorem dX2_init_5 : decode cX2_init 5 = .ok (.iconst 2, 1) := by decide +kernel
theorem dX2_init_6 : decode cX2_init 6 = .ok (.newarray .int, 2) := by decide +kernel
theorem dX2_init_8 : decode cX2_init 8 = .ok (.putfield 9, 3) := by decide +kernel
theorem dX2_init_11 : decode cX2_init 11 = .ok (.return_, 1) := by decide +kernel
abbrev I_X2_init : MI := (yX2_init, cX2_init, 1, none, { frames := 1, cells := 1, slots := 2, locals := 20 })
theorem fi_2_9 : FP RX2 9 2 10 true (.array .int) := ⟨_, _, _, tyX2, rfl, iX2, by decide, gm 134 (by decide +kernel) rfl, tyX2_ok, nmX2, rfl, (fun h => rfl), rfl⟩
set_option maxRecDepth 100000 in
theorem c_X2_init (l : Launch) (w : Wd) (t n : Nat) (ρ : Rf) (S : St) (ht : kd t = KdPlace) (htn : t < n) (hk : kd n = Kints 2) (h0 : ∀ j, S.1 n j = 0) : Ct l w I_X2_init [.ref (w.2.1 + t)] n ρ S (n + 1, up2 ρ t 10 (some n), S, 1, 2) none := by
  refine Ct.of (Nat.le_of_ble_eq_true rfl) pn_2 ?_
  refine g_aload_n (y := I_X2_init) 0 dX2_init_0 rfl rfl ?_
  refine g_objInit (y := I_X2_init) (gm 108 (by decide +kernel) rfl) oi_i oi_c (Nat.le_of_ble_eq_true rfl) (Nat.le_of_ble_eq_true rfl) dX2_init_1 ?_
  refine g_aload_n (y := I_X2_init) 0 dX2_init_4 rfl rfl ?_
  refine g_iconst (y := I_X2_init) (v := 2) dX2_init_5 (by decide) ?_
  refine g_newI (y := I_X2_init) ac_int hk h0 (by decide) (by decide) (by decide) (Nat.le_of_ble_eq_true rfl) (Nat.le_of_ble_eq_true rfl) dX2_init_6 ?_
  refine g_putR (y := I_X2_init) fi_2_9 rfl ht rfl (by omega) rfl rfl dX2_init_8 ?_
  exact g_vret (y := I_X2_init) rfl dX2_init_11
theorem dX4_init_0 : decode cX4_init 0 = .ok (.aload_n 0, 1) := by decide +kernel
theorem dX4_init_1 : decode cX4_init 1 = .ok (.invokespecial 3, 3) := by decide +kernel
theorem dX4_init_4 : decode cX4_init 4 = .ok (.aload_n 0, 1) := by decide +kernel
theorem dX4_init_5 : decode cX4_init 5 = .ok (.bipush 50, 2) := by decide +kernel
theorem dX4_init_7 : decode cX4_init 7 = .ok (.newarray .int, 2) := by decide +kernel
theorem dX4_init_9 : decode cX4_init 9 = .ok (.putfield 9, 3) := by decide +kernel
theorem dX4_init_12 : decode cX4_init 12 = .ok (.return_, 1) := by decide +kernel
abbrev I_X4_init : MI := (yX4_init, cX4_init, 1, none, { frames := 1, cells := 1, slots := 50, locals := 20 })
theorem fi_4_9 : FP RX4 9 4 2 true (.array .int) := ⟨_, _, _, tyX4, rfl, iX4, by decide, gm 230 (by decide +kernel) rfl, tyX4_ok, nmX4, rfl, (fun h => rfl), rfl⟩
set_option maxRecDepth 100000 in
theorem c_X4_init (l : Launch) (w : Wd) (t n : Nat) (ρ : Rf) (S : St) (ht : kd t = KdSheet) (htn : t < n) (hk : kd n = Kints 50) (h0 : ∀ j, S.1 n j = 0) : Ct l w I_X4_init [.ref (w.2.1 + t)] n ρ S (n + 1, up2 ρ t 2 (some n), S, 1, 50) none := by
  refine Ct.of (Nat.le_of_ble_eq_true rfl) pn_4 ?_
  refine g_aload_n (y := I_X4_init) 0 dX4_init_0 rfl rfl ?_
  refine g_objInit (y := I_X4_init) (gm 225 (by decide +kernel) rfl) oi_i oi_c (Nat.le_of_ble_eq_true rfl) (Nat.le_of_ble_eq_true rfl) dX4_init_1 ?_
  refine g_aload_n (y := I_X4_init) 0 dX4_init_4 rfl rfl ?_
  refine g_bipush (y := I_X4_init) (v := 50) dX4_init_5 (by decide) ?_
  refine g_newI (y := I_X4_init) ac_int hk h0 (by decide) (by decide) (by decide) (Nat.le_of_ble_eq_true rfl) (Nat.le_of_ble_eq_true rfl) dX4_init_7 ?_
  refine g_putR (y := I_X4_init) fi_4_9 rfl ht rfl (by omega) rfl rfl dX4_init_9 ?_
  exact g_vret (y := I_X4_init) rfl dX4_init_12
theorem dX0_init_0 : decode cX0_init 0 = .ok (.aload_n 0, 1) := by decide +kernel
theorem dX0_init_1 : decode cX0_init 1 = .ok (.invokespecial 3, 3) := by decide +kernel
theorem dX0_init_4 : decode cX0_init 4 = .ok (.aload_n 0, 1) := by decide +kernel
theorem dX0_init_5 : decode cX0_init 5 = .ok (.bipush 6, 2) := by decide +kernel
theorem dX0_init_7 : decode cX0_init 7 = .ok (.anewarray 9, 3) := by decide +kernel
theorem dX0_init_10 : decode cX0_init 10 = .ok (.putfield 11, 3) := by decide +kernel
theorem dX0_init_13 : decode cX0_init 13 = .ok (.aload_n 0, 1) := by decide +kernel
theorem dX0_init_14 : decode cX0_init 14 = .ok (.iconst 0, 1) := by decide +kernel
theorem dX0_init_15 : decode cX0_init 15 = .ok (.putfield 17, 3) := by decide +kernel
theorem dX0_init_18 : decode cX0_init 18 = .ok (.aload_n 0, 1) := by decide +kernel
theorem dX0_init_19 : decode cX0_init 19 = .ok (.bipush 12, 2) := by decide +kernel
theorem dX0_init_21 : decode cX0_init 21 = .ok (.anewarray 21, 3) := by decide +kernel
theorem dX0_init_24 : decode cX0_init 24 = .ok (.putfield 23, 3) := by decide +kernel
theorem dX0_init_27 : decode cX0_init 27 = .ok (.aload_n 0, 1) := by decide +kernel
theorem dX0_init_28 : decode cX0_init 28 = .ok (.iconst 3, 1) := by decide +kernel
theorem dX0_init_29 : decode cX0_init 29 = .ok (.putfield 27, 3) := by decide +kernel
theorem dX0_init_32 : decode cX0_init 32 = .ok (.aload_n 0, 1) := by decide +kernel
theorem dX0_init_33 : decode cX0_init 33 = .ok (.iconst 0, 1) := by decide +kernel
theorem dX0_init_34 : decode cX0_init 34 = .ok (.putfield 30, 3) := by decide +kernel
theorem dX0_init_37 : decode cX0_init 37 = .ok (.aload_n 0, 1) := by decide +kernel
theorem dX0_init_38 : decode cX0_init 38 = .ok (.iconst 0, 1) := by decide +kernel
theorem dX0_init_39 : decode cX0_init 39 = .ok (.putfield 33, 3) := by decide +kernel
theorem dX0_init_42 : decode cX0_init 42 = .ok (.aload_n 0, 1) := by decide +kernel
theorem dX0_init_43 : decode cX0_init 43 = .ok (.bipush 50, 2) := by decide +kernel
theorem dX0_init_45 : decode cX0_init 45 = .ok (.newarray .int, 2) := by decide +kernel
theorem dX0_init_47 : decode cX0_init 47 = .ok (.putfield 36, 3) := by decide +kernel
theorem dX0_init_50 : decode cX0_init 50 = .ok (.aload_n 0, 1) := by decide +kernel
theorem dX0_init_51 : decode cX0_init 51 = .ok (.bipush 50, 2) := by decide +kernel
theorem dX0_init_53 : decode cX0_init 53 = .ok (.newarray .int, 2) := by decide +kernel
theorem dX0_init_55 : decode cX0_init 55 = .ok (.putfield 40, 3) := by decide +kernel
theorem dX0_init_58 : decode cX0_init 58 = .ok (.aload_n 0, 1) := by decide +kernel
theorem dX0_init_59 : decode cX0_init 59 = .ok (.bipush 50, 2) := by decide +kernel
theorem dX0_init_61 : decode cX0_init 61 = .ok (.newarray .int, 2) := by decide +kernel
theorem dX0_init_63 : decode cX0_init 63 = .ok (.putfield 43, 3) := by decide +kernel
theorem dX0_init_66 : decode cX0_init 66 = .ok (.aload_n 0, 1) := by decide +kernel
theorem dX0_init_67 : decode cX0_init 67 = .ok (.iconst 0, 1) := by decide +kernel
theorem dX0_init_68 : decode cX0_init 68 = .ok (.putfield 46, 3) := by decide +kernel
theorem dX0_init_71 : decode cX0_init 71 = .ok (.aload_n 0, 1) := by decide +kernel
theorem dX0_init_72 : decode cX0_init 72 = .ok (.iconst (-1), 1) := by decide +kernel
theorem dX0_init_73 : decode cX0_init 73 = .ok (.putfield 49, 3) := by decide +kernel
theorem dX0_init_76 : decode cX0_init 76 = .ok (.aload_n 0, 1) := by decide +kernel
theorem dX0_init_77 : decode cX0_init 77 = .ok (.iconst 0, 1) := by decide +kernel
theorem dX0_init_78 : decode cX0_init 78 = .ok (.putfield 52, 3) := by decide +kernel
theorem dX0_init_81 : decode cX0_init 81 = .ok (.aload_n 0, 1) := by decide +kernel
theorem dX0_init_82 : decode cX0_init 82 = .ok (.bipush 10, 2) := by decide +kernel
theorem dX0_init_84 : decode cX0_init 84 = .ok (.newarray .long, 2) := by decide +kernel
theorem dX0_init_86 : decode cX0_init 86 = .ok (.putfield 55, 3) := by decide +kernel
theorem dX0_init_89 : decode cX0_init 89 = .ok (.iconst 0, 1) := by decide +kernel
theorem dX0_init_90 : decode cX0_init 90 = .ok (.istore_n 1, 1) := by decide +kernel
theorem dX0_init_91 : decode cX0_init 91 = .ok (.iload_n 1, 1) := by decide +kernel
theorem dX0_init_92 : decode cX0_init 92 = .ok (.bipush 6, 2) := by decide +kernel
theorem dX0_init_94 : decode cX0_init 94 = .ok (.if_icmp .ge 22, 3) := by decide +kernel
theorem dX0_init_97 : decode cX0_init 97 = .ok (.aload_n 0, 1) := by decide +kernel
theorem dX0_init_98 : decode cX0_init 98 = .ok (.getfield 11, 3) := by decide +kernel
theorem dX0_init_101 : decode cX0_init 101 = .ok (.iload_n 1, 1) := by decide +kernel
theorem dX0_init_102 : decode cX0_init 102 = .ok (.new 9, 3) := by decide +kernel
theorem dX0_init_105 : decode cX0_init 105 = .ok (.dup, 1) := by decide +kernel
theorem dX0_init_106 : decode cX0_init 106 = .ok (.invokespecial 59, 3) := by decide +kernel
theorem dX0_init_109 : decode cX0_init 109 = .ok (.aastore, 1) := by decide +kernel
theorem dX0_init_110 : decode cX0_init 110 = .ok (.iinc 1 1, 3) := by decide +kernel
theorem dX0_init_113 : decode cX0_init 113 = .ok (.goto (-22), 3) := by decide +kernel
theorem dX0_init_116 : decode cX0_init 116 = .ok (.iconst 0, 1) := by decide +kernel
theorem dX0_init_117 : decode cX0_init 117 = .ok (.istore_n 1, 1) := by decide +kernel
theorem dX0_init_118 : decode cX0_init 118 = .ok (.iload_n 1, 1) := by decide +kernel
theorem dX0_init_119 : decode cX0_init 119 = .ok (.bipush 12, 2) := by decide +kernel
theorem dX0_init_121 : decode cX0_init 121 = .ok (.if_icmp .ge 32, 3) := by decide +kernel
theorem dX0_init_124 : decode cX0_init 124 = .ok (.aload_n 0, 1) := by decide +kernel
theorem dX0_init_125 : decode cX0_init 125 = .ok (.getfield 23, 3) := by decide +kernel
theorem dX0_init_128 : decode cX0_init 128 = .ok (.iload_n 1, 1) := by decide +kernel
theorem dX0_init_129 : decode cX0_init 129 = .ok (.new 21, 3) := by decide +kernel
theorem dX0_init_132 : decode cX0_init 132 = .ok (.dup, 1) := by decide +kernel
theorem dX0_init_133 : decode cX0_init 133 = .ok (.invokespecial 60, 3) := by decide +kernel
theorem dX0_init_136 : decode cX0_init 136 = .ok (.aastore, 1) := by decide +kernel
theorem dX0_init_137 : decode cX0_init 137 = .ok (.aload_n 0, 1) := by decide +kernel
theorem dX0_init_138 : decode cX0_init 138 = .ok (.getfield 23, 3) := by decide +kernel
theorem dX0_init_141 : decode cX0_init 141 = .ok (.iload_n 1, 1) := by decide +kernel
theorem dX0_init_142 : decode cX0_init 142 = .ok (.aaload, 1) := by decide +kernel
theorem dX0_init_143 : decode cX0_init 143 = .ok (.iload_n 1, 1) := by decide +kernel
theorem dX0_init_144 : decode cX0_init 144 = .ok (.putfield 61, 3) := by decide +kernel
theorem dX0_init_147 : decode cX0_init 147 = .ok (.iinc 1 1, 3) := by decide +kernel
theorem dX0_init_150 : decode cX0_init 150 = .ok (.goto (-32), 3) := by decide +kernel
theorem dX0_init_153 : decode cX0_init 153 = .ok (.return_, 1) := by decide +kernel
theorem fi_0_11 : FP RX0 11 0 0 true (.array (.object "OrchardBook$Sort")) := ⟨_, _, _, tyX0, rfl, iX0, by decide, gm 160 (by decide +kernel) rfl, tyX0_ok, nmX0, rfl, (fun h => rfl), rfl⟩
theorem fi_0_17 : FP RX0 17 0 1 false (.int) := ⟨_, _, _, tyX0, rfl, iX0, by decide, gm 164 (by decide +kernel) rfl, tyX0_ok, nmX0, rfl, (fun h => by cases h), rfl⟩
theorem fi_0_23 : FP RX0 23 0 2 true (.array (.object "OrchardBook$Place")) := ⟨_, _, _, tyX0, rfl, iX0, by decide, gm 168 (by decide +kernel) rfl, tyX0_ok, nmX0, rfl, (fun h => rfl), rfl⟩
theorem fi_0_27 : FP RX0 27 0 3 false (.int) := ⟨_, _, _, tyX0, rfl, iX0, by decide, gm 171 (by decide +kernel) rfl, tyX0_ok, nmX0, rfl, (fun h => by cases h), rfl⟩
theorem fi_0_30 : FP RX0 30 0 4 false (.int) := ⟨_, _, _, tyX0, rfl, iX0, by decide, gm 173 (by decide +kernel) rfl, tyX0_ok, nmX0, rfl, (fun h => by cases h), rfl⟩
theorem fi_0_33 : FP RX0 33 0 5 false (.int) := ⟨_, _, _, tyX0, rfl, iX0, by decide, gm 175 (by decide +kernel) rfl, tyX0_ok, nmX0, rfl, (fun h => by cases h), rfl⟩
theorem fi_0_36 : FP RX0 36 0 6 true (.array .int) := ⟨_, _, _, tyX0, rfl, iX0, by decide, gm 178 (by decide +kernel) rfl, tyX0_ok, nmX0, rfl, (fun h => rfl), rfl⟩
theorem fi_0_40 : FP RX0 40 0 7 true (.array .int) := ⟨_, _, _, tyX0, rfl, iX0, by decide, gm 180 (by decide +kernel) rfl, tyX0_ok, nmX0, rfl, (fun h => rfl), rfl⟩
theorem fi_0_43 : FP RX0 43 0 8 true (.array .int) := ⟨_, _, _, tyX0, rfl, iX0, by decide, gm 182 (by decide +kernel) rfl, tyX0_ok, nmX0, rfl, (fun h => rfl), rfl⟩
theorem fi_0_46 : FP RX0 46 0 9 false (.int) := ⟨_, _, _, tyX0, rfl, iX0, by decide, gm 184 (by decide +kernel) rfl, tyX0_ok, nmX0, rfl, (fun h => by cases h), rfl⟩
theorem fi_0_49 : FP RX0 49 0 10 false (.int) := ⟨_, _, _, tyX0, rfl, iX0, by decide, gm 186 (by decide +kernel) rfl, tyX0_ok, nmX0, rfl, (fun h => by cases h), rfl⟩
theorem fi_0_52 : FP RX0 52 0 11 false (.int) := ⟨_, _, _, tyX0, rfl, iX0, by decide, gm 188 (by decide +kernel) rfl, tyX0_ok, nmX0, rfl, (fun h => by cases h), rfl⟩
theorem fi_0_55 : FP RX0 55 0 12 true (.array .long) := ⟨_, _, _, tyX0, rfl, iX0, by decide, gm 190 (by decide +kernel) rfl, tyX0_ok, nmX0, rfl, (fun h => rfl), rfl⟩
theorem fj_0_11 : FL RX0 11 0 0 := ⟨_, _, _, rfl, iX0, by decide, gm 160 (by decide +kernel) rfl⟩
theorem nw_0_9 : NW RX0 9 5 8 [false, false, false, false, false, false, false, true] := ⟨_, _, tyX5, rfl, iX5, tyX5_ok, gm 61 (by decide +kernel) rfl, gm 65 (by decide +kernel) rfl, gm 39 (by decide +kernel) rfl, rfl, by decide +kernel⟩
theorem fj_0_23 : FL RX0 23 0 2 := ⟨_, _, _, rfl, iX0, by decide, gm 168 (by decide +kernel) rfl⟩
theorem nw_0_21 : NW RX0 21 2 11 [false, false, false, false, false, false, false, false, false, false, true] := ⟨_, _, tyX2, rfl, iX2, tyX2_ok, gm 63 (by decide +kernel) rfl, gm 104 (by decide +kernel) rfl, gm 40 (by decide +kernel) rfl, rfl, by decide +kernel⟩
theorem fi_0_61 : FP RX0 61 2 0 false (.int) := ⟨_, _, _, tyX2, rfl, iX2, by decide, gm 109 (by decide +kernel) rfl, tyX2_ok, nmX2, rfl, (fun h => by cases h), rfl⟩
abbrev I_X0_init_1 : MI := (yX0_init, cX0_init, 2, none, { frames := 2, cells := 42, slots := 742, locals := 40 })
def r_X0_init_1 : Rf := (up2 (up2 (up2 (up2 (up2 (up2 (up2 (up2 (up2 (up2 (up2 (up2 (up2 (up2 (up2 (up2 (up2 (up2 (up2 (up2 (up2 (up2 (up2 (up2 (up2 (up2 (up2 (up2 (up2 (up2 (up2 (up2 (up2 (up2 (up2 (up2 (up2 (up2 (up2 (up2 (up2 (up2 rho0 1 0 (some 2)) 1 2 (some 3)) 1 6 (some 4)) 1 7 (some 5)) 1 8 (some 6)) 1 12 (some 7)) 8 7 (some 9)) 2 (ix (0 : Int32)) (some 8)) 10 7 (some 11)) 2 (ix (1 : Int32)) (some 10)) 12 7 (some 13)) 2 (ix (2 : Int32)) (some 12)) 14 7 (some 15)) 2 (ix (3 : Int32)) (some 14)) 16 7 (some 17)) 2 (ix (4 : Int32)) (some 16)) 18 7 (some 19)) 2 (ix (5 : Int32)) (some 18)) 20 10 (some 21)) 3 (ix (0 : Int32)) (some 20)) 22 10 (some 23)) 3 (ix (1 : Int32)) (some 22)) 24 10 (some 25)) 3 (ix (2 : Int32)) (some 24)) 26 10 (some 27)) 3 (ix (3 : Int32)) (some 26)) 28 10 (some 29)) 3 (ix (4 : Int32)) (some 28)) 30 10 (some 31)) 3 (ix (5 : Int32)) (some 30)) 32 10 (some 33)) 3 (ix (6 : Int32)) (some 32)) 34 10 (some 35)) 3 (ix (7 : Int32)) (some 34)) 36 10 (some 37)) 3 (ix (8 : Int32)) (some 36)) 38 10 (some 39)) 3 (ix (9 : Int32)) (some 38)) 40 10 (some 41)) 3 (ix (10 : Int32)) (some 40)) 42 10 (some 43)) 3 (ix (11 : Int32)) (some 42))
def s_X0_init_1 : St := (wr (wr (wr (wr (wr (wr (wr (wr (wr (wr (wr (wr (wr (wr (wr (wr (wr (wr (wr St0 1 1 (0 : Int32)) 1 3 (3 : Int32)) 1 4 (0 : Int32)) 1 5 (0 : Int32)) 1 9 (0 : Int32)) 1 10 (-1 : Int32)) 1 11 (0 : Int32)) 20 0 (0 : Int32)) 22 0 (1 : Int32)) 24 0 (2 : Int32)) 26 0 (3 : Int32)) 28 0 (4 : Int32)) 30 0 (5 : Int32)) 32 0 (6 : Int32)) 34 0 (7 : Int32)) 36 0 (8 : Int32)) 38 0 (9 : Int32)) 40 0 (10 : Int32)) 42 0 (11 : Int32))
set_option maxRecDepth 100000 in
set_option maxHeartbeats 4000000 in
theorem c_X0_init_1 (l : Launch) (w : Wd) : Ct l w I_X0_init_1 [.ref (w.2.1 + 1)] 2 rho0 St0 (44, r_X0_init_1, s_X0_init_1, 42, 742) none := by
  refine Ct.of (Nat.le_of_ble_eq_true rfl) pn_0 ?_
  refine g_aload_n (y := I_X0_init_1) 0 dX0_init_0 rfl rfl ?_
  refine g_objInit (y := I_X0_init_1) (gm 60 (by decide +kernel) rfl) oi_i oi_c (Nat.le_of_ble_eq_true rfl) (Nat.le_of_ble_eq_true rfl) dX0_init_1 ?_
  refine g_aload_n (y := I_X0_init_1) 0 dX0_init_4 rfl rfl ?_
  refine g_bipush (y := I_X0_init_1) (v := 6) dX0_init_5 (by decide) ?_
  refine g_newQ (y := I_X0_init_1) (t := 0) (CC := "OrchardBook$Sort") (gm 61 (by decide +kernel) rfl) (fun _ h => h.2.1) (show kd 2 = _ from rfl) rfl (fun _ => rfl) (by decide) (by decide) (by decide) (Nat.le_of_ble_eq_true rfl) (Nat.le_of_ble_eq_true rfl) dX0_init_7 ?_
  refine g_lit (n' := 3) (k' := 1) (z' := 6) rfl rfl rfl ?_
  refine g_putR (y := I_X0_init_1) fi_0_11 rfl (show kd 1 = _ from rfl) rfl (by decide) rfl rfl dX0_init_10 ?_
  refine g_aload_n (y := I_X0_init_1) 0 dX0_init_13 rfl rfl ?_
  refine g_iconst (y := I_X0_init_1) (v := 0) dX0_init_14 (by decide) ?_
  refine g_putI (y := I_X0_init_1) fi_0_17 (show kd 1 = _ from rfl) rfl (by decide) rfl rfl dX0_init_15 ?_
  refine g_aload_n (y := I_X0_init_1) 0 dX0_init_18 rfl rfl ?_
  refine g_bipush (y := I_X0_init_1) (v := 12) dX0_init_19 (by decide) ?_
  refine g_newQ (y := I_X0_init_1) (t := 1) (CC := "OrchardBook$Place") (gm 63 (by decide +kernel) rfl) (fun _ h => h.2.2.1) (show kd 3 = _ from rfl) rfl (fun _ => rfl) (by decide) (by decide) (by decide) (Nat.le_of_ble_eq_true rfl) (Nat.le_of_ble_eq_true rfl) dX0_init_21 ?_
  refine g_lit (n' := 4) (k' := 2) (z' := 18) rfl rfl rfl ?_
  refine g_putR (y := I_X0_init_1) fi_0_23 rfl (show kd 1 = _ from rfl) rfl (by decide) rfl rfl dX0_init_24 ?_
  refine g_aload_n (y := I_X0_init_1) 0 dX0_init_27 rfl rfl ?_
  refine g_iconst (y := I_X0_init_1) (v := 3) dX0_init_28 (by decide) ?_
  refine g_putI (y := I_X0_init_1) fi_0_27 (show kd 1 = _ from rfl) rfl (by decide) rfl rfl dX0_init_29 ?_
  refine g_aload_n (y := I_X0_init_1) 0 dX0_init_32 rfl rfl ?_
  refine g_iconst (y := I_X0_init_1) (v := 0) dX0_init_33 (by decide) ?_
  refine g_putI (y := I_X0_init_1) fi_0_30 (show kd 1 = _ from rfl) rfl (by decide) rfl rfl dX0_init_34 ?_
  refine g_aload_n (y := I_X0_init_1) 0 dX0_init_37 rfl rfl ?_
  refine g_iconst (y := I_X0_init_1) (v := 0) dX0_init_38 (by decide) ?_
  refine g_putI (y := I_X0_init_1) fi_0_33 (show kd 1 = _ from rfl) rfl (by decide) rfl rfl dX0_init_39 ?_
  refine g_aload_n (y := I_X0_init_1) 0 dX0_init_42 rfl rfl ?_
  refine g_bipush (y := I_X0_init_1) (v := 50) dX0_init_43 (by decide) ?_
  refine g_newI (y := I_X0_init_1) ac_int (show kd 4 = _ from rfl) (fun _ => rfl) (by decide) (by decide) (by decide) (Nat.le_of_ble_eq_true rfl) (Nat.le_of_ble_eq_true rfl) dX0_init_45 ?_
  refine g_lit (n' := 5) (k' := 3) (z' := 68) rfl rfl rfl ?_
  refine g_putR (y := I_X0_init_1) fi_0_36 rfl (show kd 1 = _ from rfl) rfl (by decide) rfl rfl dX0_init_47 ?_
  refine g_aload_n (y := I_X0_init_1) 0 dX0_init_50 rfl rfl ?_
  refine g_bipush (y := I_X0_init_1) (v := 50) dX0_init_51 (by decide) ?_
  refine g_newI (y := I_X0_init_1) ac_int (show kd 5 = _ from rfl) (fun _ => rfl) (by decide) (by decide) (by decide) (Nat.le_of_ble_eq_true rfl) (Nat.le_of_ble_eq_true rfl) dX0_init_53 ?_
  refine g_lit (n' := 6) (k' := 4) (z' := 118) rfl rfl rfl ?_
  refine g_putR (y := I_X0_init_1) fi_0_40 rfl (show kd 1 = _ from rfl) rfl (by decide) rfl rfl dX0_init_55 ?_
  refine g_aload_n (y := I_X0_init_1) 0 dX0_init_58 rfl rfl ?_
  refine g_bipush (y := I_X0_init_1) (v := 50) dX0_init_59 (by decide) ?_
  refine g_newI (y := I_X0_init_1) ac_int (show kd 6 = _ from rfl) (fun _ => rfl) (by decide) (by decide) (by decide) (Nat.le_of_ble_eq_true rfl) (Nat.le_of_ble_eq_true rfl) dX0_init_61 ?_
  refine g_lit (n' := 7) (k' := 5) (z' := 168) rfl rfl rfl ?_
  refine g_putR (y := I_X0_init_1) fi_0_43 rfl (show kd 1 = _ from rfl) rfl (by decide) rfl rfl dX0_init_63 ?_
  refine g_aload_n (y := I_X0_init_1) 0 dX0_init_66 rfl rfl ?_
  refine g_iconst (y := I_X0_init_1) (v := 0) dX0_init_67 (by decide) ?_
  refine g_putI (y := I_X0_init_1) fi_0_46 (show kd 1 = _ from rfl) rfl (by decide) rfl rfl dX0_init_68 ?_
  refine g_aload_n (y := I_X0_init_1) 0 dX0_init_71 rfl rfl ?_
  refine g_iconst (y := I_X0_init_1) (v := -1) dX0_init_72 (by decide) ?_
  refine g_putI (y := I_X0_init_1) fi_0_49 (show kd 1 = _ from rfl) rfl (by decide) rfl rfl dX0_init_73 ?_
  refine g_aload_n (y := I_X0_init_1) 0 dX0_init_76 rfl rfl ?_
  refine g_iconst (y := I_X0_init_1) (v := 0) dX0_init_77 (by decide) ?_
  refine g_putI (y := I_X0_init_1) fi_0_52 (show kd 1 = _ from rfl) rfl (by decide) rfl rfl dX0_init_78 ?_
  refine g_aload_n (y := I_X0_init_1) 0 dX0_init_81 rfl rfl ?_
  refine g_bipush (y := I_X0_init_1) (v := 10) dX0_init_82 (by decide) ?_
  refine g_newL (y := I_X0_init_1) ac_long (show kd 7 = _ from rfl) (fun _ => rfl) (by decide) (by decide) (by decide) (Nat.le_of_ble_eq_true rfl) (Nat.le_of_ble_eq_true rfl) dX0_init_84 ?_
  refine g_lit (n' := 8) (k' := 6) (z' := 178) rfl rfl rfl ?_
  refine g_putR (y := I_X0_init_1) fi_0_55 rfl (show kd 1 = _ from rfl) rfl (by decide) rfl rfl dX0_init_86 ?_
  refine g_iconst (y := I_X0_init_1) (v := 0) dX0_init_89 (by decide) ?_
  refine g_istore_n (y := I_X0_init_1) (ls' := [(1, .int (0 : Int32)), (0, .ref (w.2.1 + 1))]) dX0_init_90 rfl (by decide) rfl ?_
  refine g_iload_n (y := I_X0_init_1) 0 dX0_init_91 rfl rfl ?_
  refine g_bipush (y := I_X0_init_1) (v := 6) dX0_init_92 (by decide) ?_
  refine g_icmp_ge (y := I_X0_init_1) 116 dX0_init_94 (by decide) (fun h => absurd h (by decide)) (fun _ => ?_)
  refine g_aload_n (y := I_X0_init_1) 1 dX0_init_97 rfl rfl ?_
  refine g_get (y := I_X0_init_1) (v := .ref (w.2.1 + 2)) fj_0_11 (show kd 1 = _ from rfl) (b := true) rfl (by decide) rfl dX0_init_98 ?_
  refine g_iload_n (y := I_X0_init_1) 0 dX0_init_101 rfl rfl ?_
  refine g_new (y := I_X0_init_1) nw_0_9 (show kd 8 = _ from rfl) (fun _ => rfl) (fun _ => rfl) (Nat.le_of_ble_eq_true rfl) (Nat.le_of_ble_eq_true rfl) dX0_init_102 ?_
  refine g_lit (n' := 9) (k' := 7) (z' := 186) rfl rfl rfl ?_
  refine g_dup (y := I_X0_init_1) dX0_init_105 rfl ?_
  refine g_callIN (y := I_X0_init_1) (y' := I_X5_init) (As := []) (host := "OrchardBook") ⟨by decide +kernel, gm 68 (by decide +kernel) rfl, gm 39 (by decide +kernel) rfl, mh_5.1, mh_5.2, by decide +kernel⟩ rfl (gm 67 (by decide +kernel) rfl) rfl ⟨Nat.le_of_ble_eq_true rfl, Nat.le_of_ble_eq_true rfl⟩ rfl rfl rfl (Nat.le_of_ble_eq_true rfl) ⟨Nat.le_of_ble_eq_true rfl, Nat.le_of_ble_eq_true rfl⟩ (by decide) rfl dX0_init_106 (c_X5_init l w 8 9 _ _ (show kd 8 = _ from rfl) (by decide) (show kd 9 = _ from rfl) (fun _ => rfl)) ?_
  refine g_lit (n' := 10) (k' := 8) (z' := 246) rfl rfl rfl ?_
  refine g_aast (y := I_X0_init_1) (tt := 0) (show kd 2 = _ from rfl) (by decide) (show kd 8 = _ from rfl) (by decide) rfl rfl (by decide) dX0_init_109 ?_
  refine g_iinc (y := I_X0_init_1) 0 (v := 1) (ls' := [(1, .int (1 : Int32)), (0, .ref (w.2.1 + 1))]) dX0_init_110 rfl (by decide) (by decide) rfl ?_
  refine g_goto (y := I_X0_init_1) 91 dX0_init_113 (by decide) ?_
  refine g_iload_n (y := I_X0_init_1) 0 dX0_init_91 rfl rfl ?_
  refine g_bipush (y := I_X0_init_1) (v := 6) dX0_init_92 (by decide) ?_
  refine g_icmp_ge (y := I_X0_init_1) 116 dX0_init_94 (by decide) (fun h => absurd h (by decide)) (fun _ => ?_)
  refine g_aload_n (y := I_X0_init_1) 1 dX0_init_97 rfl rfl ?_
  refine g_get (y := I_X0_init_1) (v := .ref (w.2.1 + 2)) fj_0_11 (show kd 1 = _ from rfl) (b := true) rfl (by decide) rfl dX0_init_98 ?_
  refine g_iload_n (y := I_X0_init_1) 0 dX0_init_101 rfl rfl ?_
  refine g_new (y := I_X0_init_1) nw_0_9 (show kd 10 = _ from rfl) (fun _ => rfl) (fun _ => rfl) (Nat.le_of_ble_eq_true rfl) (Nat.le_of_ble_eq_true rfl) dX0_init_102 ?_
  refine g_lit (n' := 11) (k' := 9) (z' := 254) rfl rfl rfl ?_
  refine g_dup (y := I_X0_init_1) dX0_init_105 rfl ?_
  refine g_callIN (y := I_X0_init_1) (y' := I_X5_init) (As := []) (host := "OrchardBook") ⟨by decide +kernel, gm 68 (by decide +kernel) rfl, gm 39 (by decide +kernel) rfl, mh_5.1, mh_5.2, by decide +kernel⟩ rfl (gm 67 (by decide +kernel) rfl) rfl ⟨Nat.le_of_ble_eq_true rfl, Nat.le_of_ble_eq_true rfl⟩ rfl rfl rfl (Nat.le_of_ble_eq_true rfl) ⟨Nat.le_of_ble_eq_true rfl, Nat.le_of_ble_eq_true rfl⟩ (by decide) rfl dX0_init_106 (c_X5_init l w 10 11 _ _ (show kd 10 = _ from rfl) (by decide) (show kd 11 = _ from rfl) (fun _ => rfl)) ?_
  refine g_lit (n' := 12) (k' := 10) (z' := 314) rfl rfl rfl ?_
  refine g_aast (y := I_X0_init_1) (tt := 0) (show kd 2 = _ from rfl) (by decide) (show kd 10 = _ from rfl) (by decide) rfl rfl (by decide) dX0_init_109 ?_
  refine g_iinc (y := I_X0_init_1) 0 (v := 2) (ls' := [(1, .int (2 : Int32)), (0, .ref (w.2.1 + 1))]) dX0_init_110 rfl (by decide) (by decide) rfl ?_
  refine g_goto (y := I_X0_init_1) 91 dX0_init_113 (by decide) ?_
  refine g_iload_n (y := I_X0_init_1) 0 dX0_init_91 rfl rfl ?_
  refine g_bipush (y := I_X0_init_1) (v := 6) dX0_init_92 (by decide) ?_
  refine g_icmp_ge (y := I_X0_init_1) 116 dX0_init_94 (by decide) (fun h => absurd h (by decide)) (fun _ => ?_)
  refine g_aload_n (y := I_X0_init_1) 1 dX0_init_97 rfl rfl ?_
  refine g_get (y := I_X0_init_1) (v := .ref (w.2.1 + 2)) fj_0_11 (show kd 1 = _ from rfl) (b := true) rfl (by decide) rfl dX0_init_98 ?_
  refine g_iload_n (y := I_X0_init_1) 0 dX0_init_101 rfl rfl ?_
  refine g_new (y := I_X0_init_1) nw_0_9 (show kd 12 = _ from rfl) (fun _ => rfl) (fun _ => rfl) (Nat.le_of_ble_eq_true rfl) (Nat.le_of_ble_eq_true rfl) dX0_init_102 ?_
  refine g_lit (n' := 13) (k' := 11) (z' := 322) rfl rfl rfl ?_
  refine g_dup (y := I_X0_init_1) dX0_init_105 rfl ?_
  refine g_callIN (y := I_X0_init_1) (y' := I_X5_init) (As := []) (host := "OrchardBook") ⟨by decide +kernel, gm 68 (by decide +kernel) rfl, gm 39 (by decide +kernel) rfl, mh_5.1, mh_5.2, by decide +kernel⟩ rfl (gm 67 (by decide +kernel) rfl) rfl ⟨Nat.le_of_ble_eq_true rfl, Nat.le_of_ble_eq_true rfl⟩ rfl rfl rfl (Nat.le_of_ble_eq_true rfl) ⟨Nat.le_of_ble_eq_true rfl, Nat.le_of_ble_eq_true rfl⟩ (by decide) rfl dX0_init_106 (c_X5_init l w 12 13 _ _ (show kd 12 = _ from rfl) (by decide) (show kd 13 = _ from rfl) (fun _ => rfl)) ?_
  refine g_lit (n' := 14) (k' := 12) (z' := 382) rfl rfl rfl ?_
  refine g_aast (y := I_X0_init_1) (tt := 0) (show kd 2 = _ from rfl) (by decide) (show kd 12 = _ from rfl) (by decide) rfl rfl (by decide) dX0_init_109 ?_
  refine g_iinc (y := I_X0_init_1) 0 (v := 3) (ls' := [(1, .int (3 : Int32)), (0, .ref (w.2.1 + 1))]) dX0_init_110 rfl (by decide) (by decide) rfl ?_
  refine g_goto (y := I_X0_init_1) 91 dX0_init_113 (by decide) ?_
  refine g_iload_n (y := I_X0_init_1) 0 dX0_init_91 rfl rfl ?_
  refine g_bipush (y := I_X0_init_1) (v := 6) dX0_init_92 (by decide) ?_
  refine g_icmp_ge (y := I_X0_init_1) 116 dX0_init_94 (by decide) (fun h => absurd h (by decide)) (fun _ => ?_)
  refine g_aload_n (y := I_X0_init_1) 1 dX0_init_97 rfl rfl ?_
  refine g_get (y := I_X0_init_1) (v := .ref (w.2.1 + 2)) fj_0_11 (show kd 1 = _ from rfl) (b := true) rfl (by decide) rfl dX0_init_98 ?_
  refine g_iload_n (y := I_X0_init_1) 0 dX0_init_101 rfl rfl ?_
  refine g_new (y := I_X0_init_1) nw_0_9 (show kd 14 = _ from rfl) (fun _ => rfl) (fun _ => rfl) (Nat.le_of_ble_eq_true rfl) (Nat.le_of_ble_eq_true rfl) dX0_init_102 ?_
  refine g_lit (n' := 15) (k' := 13) (z' := 390) rfl rfl rfl ?_
  refine g_dup (y := I_X0_init_1) dX0_init_105 rfl ?_
  refine g_callIN (y := I_X0_init_1) (y' := I_X5_init) (As := []) (host := "OrchardBook") ⟨by decide +kernel, gm 68 (by decide +kernel) rfl, gm 39 (by decide +kernel) rfl, mh_5.1, mh_5.2, by decide +kernel⟩ rfl (gm 67 (by decide +kernel) rfl) rfl ⟨Nat.le_of_ble_eq_true rfl, Nat.le_of_ble_eq_true rfl⟩ rfl rfl rfl (Nat.le_of_ble_eq_true rfl) ⟨Nat.le_of_ble_eq_true rfl, Nat.le_of_ble_eq_true rfl⟩ (by decide) rfl dX0_init_106 (c_X5_init l w 14 15 _ _ (show kd 14 = _ from rfl) (by decide) (show kd 15 = _ from rfl) (fun _ => rfl)) ?_
  refine g_lit (n' := 16) (k' := 14) (z' := 450) rfl rfl rfl ?_
  refine g_aast (y := I_X0_init_1) (tt := 0) (show kd 2 = _ from rfl) (by decide) (show kd 14 = _ from rfl) (by decide) rfl rfl (by decide) dX0_init_109 ?_
  refine g_iinc (y := I_X0_init_1) 0 (v := 4) (ls' := [(1, .int (4 : Int32)), (0, .ref (w.2.1 + 1))]) dX0_init_110 rfl (by decide) (by decide) rfl ?_
  refine g_goto (y := I_X0_init_1) 91 dX0_init_113 (by decide) ?_
  refine g_iload_n (y := I_X0_init_1) 0 dX0_init_91 rfl rfl ?_
  refine g_bipush (y := I_X0_init_1) (v := 6) dX0_init_92 (by decide) ?_
  refine g_icmp_ge (y := I_X0_init_1) 116 dX0_init_94 (by decide) (fun h => absurd h (by decide)) (fun _ => ?_)
  refine g_aload_n (y := I_X0_init_1) 1 dX0_init_97 rfl rfl ?_
  refine g_get (y := I_X0_init_1) (v := .ref (w.2.1 + 2)) fj_0_11 (show kd 1 = _ from rfl) (b := true) rfl (by decide) rfl dX0_init_98 ?_
  refine g_iload_n (y := I_X0_init_1) 0 dX0_init_101 rfl rfl ?_
  refine g_new (y := I_X0_init_1) nw_0_9 (show kd 16 = _ from rfl) (fun _ => rfl) (fun _ => rfl) (Nat.le_of_ble_eq_true rfl) (Nat.le_of_ble_eq_true rfl) dX0_init_102 ?_
  refine g_lit (n' := 17) (k' := 15) (z' := 458) rfl rfl rfl ?_
  refine g_dup (y := I_X0_init_1) dX0_init_105 rfl ?_
  refine g_callIN (y := I_X0_init_1) (y' := I_X5_init) (As := []) (host := "OrchardBook") ⟨by decide +kernel, gm 68 (by decide +kernel) rfl, gm 39 (by decide +kernel) rfl, mh_5.1, mh_5.2, by decide +kernel⟩ rfl (gm 67 (by decide +kernel) rfl) rfl ⟨Nat.le_of_ble_eq_true rfl, Nat.le_of_ble_eq_true rfl⟩ rfl rfl rfl (Nat.le_of_ble_eq_true rfl) ⟨Nat.le_of_ble_eq_true rfl, Nat.le_of_ble_eq_true rfl⟩ (by decide) rfl dX0_init_106 (c_X5_init l w 16 17 _ _ (show kd 16 = _ from rfl) (by decide) (show kd 17 = _ from rfl) (fun _ => rfl)) ?_
  refine g_lit (n' := 18) (k' := 16) (z' := 518) rfl rfl rfl ?_
  refine g_aast (y := I_X0_init_1) (tt := 0) (show kd 2 = _ from rfl) (by decide) (show kd 16 = _ from rfl) (by decide) rfl rfl (by decide) dX0_init_109 ?_
  refine g_iinc (y := I_X0_init_1) 0 (v := 5) (ls' := [(1, .int (5 : Int32)), (0, .ref (w.2.1 + 1))]) dX0_init_110 rfl (by decide) (by decide) rfl ?_
  refine g_goto (y := I_X0_init_1) 91 dX0_init_113 (by decide) ?_
  refine g_iload_n (y := I_X0_init_1) 0 dX0_init_91 rfl rfl ?_
  refine g_bipush (y := I_X0_init_1) (v := 6) dX0_init_92 (by decide) ?_
  refine g_icmp_ge (y := I_X0_init_1) 116 dX0_init_94 (by decide) (fun h => absurd h (by decide)) (fun _ => ?_)
  refine g_aload_n (y := I_X0_init_1) 1 dX0_init_97 rfl rfl ?_
  refine g_get (y := I_X0_init_1) (v := .ref (w.2.1 + 2)) fj_0_11 (show kd 1 = _ from rfl) (b := true) rfl (by decide) rfl dX0_init_98 ?_
  refine g_iload_n (y := I_X0_init_1) 0 dX0_init_101 rfl rfl ?_
  refine g_new (y := I_X0_init_1) nw_0_9 (show kd 18 = _ from rfl) (fun _ => rfl) (fun _ => rfl) (Nat.le_of_ble_eq_true rfl) (Nat.le_of_ble_eq_true rfl) dX0_init_102 ?_
  refine g_lit (n' := 19) (k' := 17) (z' := 526) rfl rfl rfl ?_
  refine g_dup (y := I_X0_init_1) dX0_init_105 rfl ?_
  refine g_callIN (y := I_X0_init_1) (y' := I_X5_init) (As := []) (host := "OrchardBook") ⟨by decide +kernel, gm 68 (by decide +kernel) rfl, gm 39 (by decide +kernel) rfl, mh_5.1, mh_5.2, by decide +kernel⟩ rfl (gm 67 (by decide +kernel) rfl) rfl ⟨Nat.le_of_ble_eq_true rfl, Nat.le_of_ble_eq_true rfl⟩ rfl rfl rfl (Nat.le_of_ble_eq_true rfl) ⟨Nat.le_of_ble_eq_true rfl, Nat.le_of_ble_eq_true rfl⟩ (by decide) rfl dX0_init_106 (c_X5_init l w 18 19 _ _ (show kd 18 = _ from rfl) (by decide) (show kd 19 = _ from rfl) (fun _ => rfl)) ?_
  refine g_lit (n' := 20) (k' := 18) (z' := 586) rfl rfl rfl ?_
  refine g_aast (y := I_X0_init_1) (tt := 0) (show kd 2 = _ from rfl) (by decide) (show kd 18 = _ from rfl) (by decide) rfl rfl (by decide) dX0_init_109 ?_
  refine g_iinc (y := I_X0_init_1) 0 (v := 6) (ls' := [(1, .int (6 : Int32)), (0, .ref (w.2.1 + 1))]) dX0_init_110 rfl (by decide) (by decide) rfl ?_
  refine g_goto (y := I_X0_init_1) 91 dX0_init_113 (by decide) ?_
  refine g_iload_n (y := I_X0_init_1) 0 dX0_init_91 rfl rfl ?_
  refine g_bipush (y := I_X0_init_1) (v := 6) dX0_init_92 (by decide) ?_
  refine g_icmp_ge (y := I_X0_init_1) 116 dX0_init_94 (by decide) (fun _ => ?_) (fun h => absurd (by decide) h)
  refine g_iconst (y := I_X0_init_1) (v := 0) dX0_init_116 (by decide) ?_
  refine g_istore_n (y := I_X0_init_1) (ls' := [(1, .int (0 : Int32)), (0, .ref (w.2.1 + 1))]) dX0_init_117 rfl (by decide) rfl ?_
  refine g_iload_n (y := I_X0_init_1) 0 dX0_init_118 rfl rfl ?_
  refine g_bipush (y := I_X0_init_1) (v := 12) dX0_init_119 (by decide) ?_
  refine g_icmp_ge (y := I_X0_init_1) 153 dX0_init_121 (by decide) (fun h => absurd h (by decide)) (fun _ => ?_)
  refine g_aload_n (y := I_X0_init_1) 1 dX0_init_124 rfl rfl ?_
  refine g_get (y := I_X0_init_1) (v := .ref (w.2.1 + 3)) fj_0_23 (show kd 1 = _ from rfl) (b := true) rfl (by decide) rfl dX0_init_125 ?_
  refine g_iload_n (y := I_X0_init_1) 0 dX0_init_128 rfl rfl ?_
  refine g_new (y := I_X0_init_1) nw_0_21 (show kd 20 = _ from rfl) (fun _ => rfl) (fun _ => rfl) (Nat.le_of_ble_eq_true rfl) (Nat.le_of_ble_eq_true rfl) dX0_init_129 ?_
  refine g_lit (n' := 21) (k' := 19) (z' := 597) rfl rfl rfl ?_
  refine g_dup (y := I_X0_init_1) dX0_init_132 rfl ?_
  refine g_callIN (y := I_X0_init_1) (y' := I_X2_init) (As := []) (host := "OrchardBook") ⟨by decide +kernel, gm 107 (by decide +kernel) rfl, gm 40 (by decide +kernel) rfl, mh_2.1, mh_2.2, by decide +kernel⟩ rfl (gm 106 (by decide +kernel) rfl) rfl ⟨Nat.le_of_ble_eq_true rfl, Nat.le_of_ble_eq_true rfl⟩ rfl rfl rfl (Nat.le_of_ble_eq_true rfl) ⟨Nat.le_of_ble_eq_true rfl, Nat.le_of_ble_eq_true rfl⟩ (by decide) rfl dX0_init_133 (c_X2_init l w 20 21 _ _ (show kd 20 = _ from rfl) (by decide) (show kd 21 = _ from rfl) (fun _ => rfl)) ?_
  refine g_lit (n' := 22) (k' := 20) (z' := 599) rfl rfl rfl ?_
  refine g_aast (y := I_X0_init_1) (tt := 1) (show kd 3 = _ from rfl) (by decide) (show kd 20 = _ from rfl) (by decide) rfl rfl (by decide) dX0_init_136 ?_
  refine g_aload_n (y := I_X0_init_1) 1 dX0_init_137 rfl rfl ?_
  refine g_get (y := I_X0_init_1) (v := .ref (w.2.1 + 3)) fj_0_23 (show kd 1 = _ from rfl) (b := true) rfl (by decide) rfl dX0_init_138 ?_
  refine g_iload_n (y := I_X0_init_1) 0 dX0_init_141 rfl rfl ?_
  refine g_aald (y := I_X0_init_1) (j := 20) (tt := 1) (show kd 3 = _ from rfl) (by decide) (by decide) rfl rfl dX0_init_142 ?_
  refine g_iload_n (y := I_X0_init_1) 0 dX0_init_143 rfl rfl ?_
  refine g_putI (y := I_X0_init_1) fi_0_61 (show kd 20 = _ from rfl) rfl (by decide) rfl rfl dX0_init_144 ?_
  refine g_iinc (y := I_X0_init_1) 0 (v := 1) (ls' := [(1, .int (1 : Int32)), (0, .ref (w.2.1 + 1))]) dX0_init_147 rfl (by decide) (by decide) rfl ?_
  refine g_goto (y := I_X0_init_1) 118 dX0_init_150 (by decide) ?_
  refine g_iload_n (y := I_X0_init_1) 0 dX0_init_118 rfl rfl ?_
  refine g_bipush (y := I_X0_init_1) (v := 12) dX0_init_119 (by decide) ?_
  refine g_icmp_ge (y := I_X0_init_1) 153 dX0_init_121 (by decide) (fun h => absurd h (by decide)) (fun _ => ?_)
  refine g_aload_n (y := I_X0_init_1) 1 dX0_init_124 rfl rfl ?_
  refine g_get (y := I_X0_init_1) (v := .ref (w.2.1 + 3)) fj_0_23 (show kd 1 = _ from rfl) (b := true) rfl (by decide) rfl dX0_init_125 ?_
  refine g_iload_n (y := I_X0_init_1) 0 dX0_init_128 rfl rfl ?_
  refine g_new (y := I_X0_init_1) nw_0_21 (show kd 22 = _ from rfl) (fun _ => rfl) (fun _ => rfl) (Nat.le_of_ble_eq_true rfl) (Nat.le_of_ble_eq_true rfl) dX0_init_129 ?_
  refine g_lit (n' := 23) (k' := 21) (z' := 610) rfl rfl rfl ?_
  refine g_dup (y := I_X0_init_1) dX0_init_132 rfl ?_
  refine g_callIN (y := I_X0_init_1) (y' := I_X2_init) (As := []) (host := "OrchardBook") ⟨by decide +kernel, gm 107 (by decide +kernel) rfl, gm 40 (by decide +kernel) rfl, mh_2.1, mh_2.2, by decide +kernel⟩ rfl (gm 106 (by decide +kernel) rfl) rfl ⟨Nat.le_of_ble_eq_true rfl, Nat.le_of_ble_eq_true rfl⟩ rfl rfl rfl (Nat.le_of_ble_eq_true rfl) ⟨Nat.le_of_ble_eq_true rfl, Nat.le_of_ble_eq_true rfl⟩ (by decide) rfl dX0_init_133 (c_X2_init l w 22 23 _ _ (show kd 22 = _ from rfl) (by decide) (show kd 23 = _ from rfl) (fun _ => rfl)) ?_
  refine g_lit (n' := 24) (k' := 22) (z' := 612) rfl rfl rfl ?_
  refine g_aast (y := I_X0_init_1) (tt := 1) (show kd 3 = _ from rfl) (by decide) (show kd 22 = _ from rfl) (by decide) rfl rfl (by decide) dX0_init_136 ?_
  refine g_aload_n (y := I_X0_init_1) 1 dX0_init_137 rfl rfl ?_
  refine g_get (y := I_X0_init_1) (v := .ref (w.2.1 + 3)) fj_0_23 (show kd 1 = _ from rfl) (b := true) rfl (by decide) rfl dX0_init_138 ?_
  refine g_iload_n (y := I_X0_init_1) 0 dX0_init_141 rfl rfl ?_
  refine g_aald (y := I_X0_init_1) (j := 22) (tt := 1) (show kd 3 = _ from rfl) (by decide) (by decide) rfl rfl dX0_init_142 ?_
  refine g_iload_n (y := I_X0_init_1) 0 dX0_init_143 rfl rfl ?_
  refine g_putI (y := I_X0_init_1) fi_0_61 (show kd 22 = _ from rfl) rfl (by decide) rfl rfl dX0_init_144 ?_
  refine g_iinc (y := I_X0_init_1) 0 (v := 2) (ls' := [(1, .int (2 : Int32)), (0, .ref (w.2.1 + 1))]) dX0_init_147 rfl (by decide) (by decide) rfl ?_
  refine g_goto (y := I_X0_init_1) 118 dX0_init_150 (by decide) ?_
  refine g_iload_n (y := I_X0_init_1) 0 dX0_init_118 rfl rfl ?_
  refine g_bipush (y := I_X0_init_1) (v := 12) dX0_init_119 (by decide) ?_
  refine g_icmp_ge (y := I_X0_init_1) 153 dX0_init_121 (by decide) (fun h => absurd h (by decide)) (fun _ => ?_)
  refine g_aload_n (y := I_X0_init_1) 1 dX0_init_124 rfl rfl ?_
  refine g_get (y := I_X0_init_1) (v := .ref (w.2.1 + 3)) fj_0_23 (show kd 1 = _ from rfl) (b := true) rfl (by decide) rfl dX0_init_125 ?_
  refine g_iload_n (y := I_X0_init_1) 0 dX0_init_128 rfl rfl ?_
  refine g_new (y := I_X0_init_1) nw_0_21 (show kd 24 = _ from rfl) (fun _ => rfl) (fun _ => rfl) (Nat.le_of_ble_eq_true rfl) (Nat.le_of_ble_eq_true rfl) dX0_init_129 ?_
  refine g_lit (n' := 25) (k' := 23) (z' := 623) rfl rfl rfl ?_
  refine g_dup (y := I_X0_init_1) dX0_init_132 rfl ?_
  refine g_callIN (y := I_X0_init_1) (y' := I_X2_init) (As := []) (host := "OrchardBook") ⟨by decide +kernel, gm 107 (by decide +kernel) rfl, gm 40 (by decide +kernel) rfl, mh_2.1, mh_2.2, by decide +kernel⟩ rfl (gm 106 (by decide +kernel) rfl) rfl ⟨Nat.le_of_ble_eq_true rfl, Nat.le_of_ble_eq_true rfl⟩ rfl rfl rfl (Nat.le_of_ble_eq_true rfl) ⟨Nat.le_of_ble_eq_true rfl, Nat.le_of_ble_eq_true rfl⟩ (by decide) rfl dX0_init_133 (c_X2_init l w 24 25 _ _ (show kd 24 = _ from rfl) (by decide) (show kd 25 = _ from rfl) (fun _ => rfl)) ?_
  refine g_lit (n' := 26) (k' := 24) (z' := 625) rfl rfl rfl ?_
  refine g_aast (y := I_X0_init_1) (tt := 1) (show kd 3 = _ from rfl) (by decide) (show kd 24 = _ from rfl) (by decide) rfl rfl (by decide) dX0_init_136 ?_
  refine g_aload_n (y := I_X0_init_1) 1 dX0_init_137 rfl rfl ?_
  refine g_get (y := I_X0_init_1) (v := .ref (w.2.1 + 3)) fj_0_23 (show kd 1 = _ from rfl) (b := true) rfl (by decide) rfl dX0_init_138 ?_
  refine g_iload_n (y := I_X0_init_1) 0 dX0_init_141 rfl rfl ?_
  refine g_aald (y := I_X0_init_1) (j := 24) (tt := 1) (show kd 3 = _ from rfl) (by decide) (by decide) rfl rfl dX0_init_142 ?_
  refine g_iload_n (y := I_X0_init_1) 0 dX0_init_143 rfl rfl ?_
  refine g_putI (y := I_X0_init_1) fi_0_61 (show kd 24 = _ from rfl) rfl (by decide) rfl rfl dX0_init_144 ?_
  refine g_iinc (y := I_X0_init_1) 0 (v := 3) (ls' := [(1, .int (3 : Int32)), (0, .ref (w.2.1 + 1))]) dX0_init_147 rfl (by decide) (by decide) rfl ?_
  refine g_goto (y := I_X0_init_1) 118 dX0_init_150 (by decide) ?_
  refine g_iload_n (y := I_X0_init_1) 0 dX0_init_118 rfl rfl ?_
  refine g_bipush (y := I_X0_init_1) (v := 12) dX0_init_119 (by decide) ?_
  refine g_icmp_ge (y := I_X0_init_1) 153 dX0_init_121 (by decide) (fun h => absurd h (by decide)) (fun _ => ?_)
  refine g_aload_n (y := I_X0_init_1) 1 dX0_init_124 rfl rfl ?_
  refine g_get (y := I_X0_init_1) (v := .ref (w.2.1 + 3)) fj_0_23 (show kd 1 = _ from rfl) (b := true) rfl (by decide) rfl dX0_init_125 ?_
  refine g_iload_n (y := I_X0_init_1) 0 dX0_init_128 rfl rfl ?_
  refine g_new (y := I_X0_init_1) nw_0_21 (show kd 26 = _ from rfl) (fun _ => rfl) (fun _ => rfl) (Nat.le_of_ble_eq_true rfl) (Nat.le_of_ble_eq_true rfl) dX0_init_129 ?_
  refine g_lit (n' := 27) (k' := 25) (z' := 636) rfl rfl rfl ?_
  refine g_dup (y := I_X0_init_1) dX0_init_132 rfl ?_
  refine g_callIN (y := I_X0_init_1) (y' := I_X2_init) (As := []) (host := "OrchardBook") ⟨by decide +kernel, gm 107 (by decide +kernel) rfl, gm 40 (by decide +kernel) rfl, mh_2.1, mh_2.2, by decide +kernel⟩ rfl (gm 106 (by decide +kernel) rfl) rfl ⟨Nat.le_of_ble_eq_true rfl, Nat.le_of_ble_eq_true rfl⟩ rfl rfl rfl (Nat.le_of_ble_eq_true rfl) ⟨Nat.le_of_ble_eq_true rfl, Nat.le_of_ble_eq_true rfl⟩ (by decide) rfl dX0_init_133 (c_X2_init l w 26 27 _ _ (show kd 26 = _ from rfl) (by decide) (show kd 27 = _ from rfl) (fun _ => rfl)) ?_
  refine g_lit (n' := 28) (k' := 26) (z' := 638) rfl rfl rfl ?_
  refine g_aast (y := I_X0_init_1) (tt := 1) (show kd 3 = _ from rfl) (by decide) (show kd 26 = _ from rfl) (by decide) rfl rfl (by decide) dX0_init_136 ?_
  refine g_aload_n (y := I_X0_init_1) 1 dX0_init_137 rfl rfl ?_
  refine g_get (y := I_X0_init_1) (v := .ref (w.2.1 + 3)) fj_0_23 (show kd 1 = _ from rfl) (b := true) rfl (by decide) rfl dX0_init_138 ?_
  refine g_iload_n (y := I_X0_init_1) 0 dX0_init_141 rfl rfl ?_
  refine g_aald (y := I_X0_init_1) (j := 26) (tt := 1) (show kd 3 = _ from rfl) (by decide) (by decide) rfl rfl dX0_init_142 ?_
  refine g_iload_n (y := I_X0_init_1) 0 dX0_init_143 rfl rfl ?_
  refine g_putI (y := I_X0_init_1) fi_0_61 (show kd 26 = _ from rfl) rfl (by decide) rfl rfl dX0_init_144 ?_
  refine g_iinc (y := I_X0_init_1) 0 (v := 4) (ls' := [(1, .int (4 : Int32)), (0, .ref (w.2.1 + 1))]) dX0_init_147 rfl (by decide) (by decide) rfl ?_
  refine g_goto (y := I_X0_init_1) 118 dX0_init_150 (by decide) ?_
  refine g_iload_n (y := I_X0_init_1) 0 dX0_init_118 rfl rfl ?_
  refine g_bipush (y := I_X0_init_1) (v := 12) dX0_init_119 (by decide) ?_
  refine g_icmp_ge (y := I_X0_init_1) 153 dX0_init_121 (by decide) (fun h => absurd h (by decide)) (fun _ => ?_)
  refine g_aload_n (y := I_X0_init_1) 1 dX0_init_124 rfl rfl ?_
  refine g_get (y := I_X0_init_1) (v := .ref (w.2.1 + 3)) fj_0_23 (show kd 1 = _ from rfl) (b := true) rfl (by decide) rfl dX0_init_125 ?_
  refine g_iload_n (y := I_X0_init_1) 0 dX0_init_128 rfl rfl ?_
  refine g_new (y := I_X0_init_1) nw_0_21 (show kd 28 = _ from rfl) (fun _ => rfl) (fun _ => rfl) (Nat.le_of_ble_eq_true rfl) (Nat.le_of_ble_eq_true rfl) dX0_init_129 ?_
  refine g_lit (n' := 29) (k' := 27) (z' := 649) rfl rfl rfl ?_
  refine g_dup (y := I_X0_init_1) dX0_init_132 rfl ?_
  refine g_callIN (y := I_X0_init_1) (y' := I_X2_init) (As := []) (host := "OrchardBook") ⟨by decide +kernel, gm 107 (by decide +kernel) rfl, gm 40 (by decide +kernel) rfl, mh_2.1, mh_2.2, by decide +kernel⟩ rfl (gm 106 (by decide +kernel) rfl) rfl ⟨Nat.le_of_ble_eq_true rfl, Nat.le_of_ble_eq_true rfl⟩ rfl rfl rfl (Nat.le_of_ble_eq_true rfl) ⟨Nat.le_of_ble_eq_true rfl, Nat.le_of_ble_eq_true rfl⟩ (by decide) rfl dX0_init_133 (c_X2_init l w 28 29 _ _ (show kd 28 = _ from rfl) (by decide) (show kd 29 = _ from rfl) (fun _ => rfl)) ?_
  refine g_lit (n' := 30) (k' := 28) (z' := 651) rfl rfl rfl ?_
  refine g_aast (y := I_X0_init_1) (tt := 1) (show kd 3 = _ from rfl) (by decide) (show kd 28 = _ from rfl) (by decide) rfl rfl (by decide) dX0_init_136 ?_
  refine g_aload_n (y := I_X0_init_1) 1 dX0_init_137 rfl rfl ?_
  refine g_get (y := I_X0_init_1) (v := .ref (w.2.1 + 3)) fj_0_23 (show kd 1 = _ from rfl) (b := true) rfl (by decide) rfl dX0_init_138 ?_
  refine g_iload_n (y := I_X0_init_1) 0 dX0_init_141 rfl rfl ?_
  refine g_aald (y := I_X0_init_1) (j := 28) (tt := 1) (show kd 3 = _ from rfl) (by decide) (by decide) rfl rfl dX0_init_142 ?_
  refine g_iload_n (y := I_X0_init_1) 0 dX0_init_143 rfl rfl ?_
  refine g_putI (y := I_X0_init_1) fi_0_61 (show kd 28 = _ from rfl) rfl (by decide) rfl rfl dX0_init_144 ?_
  refine g_iinc (y := I_X0_init_1) 0 (v := 5) (ls' := [(1, .int (5 : Int32)), (0, .ref (w.2.1 + 1))]) dX0_init_147 rfl (by decide) (by decide) rfl ?_
  refine g_goto (y := I_X0_init_1) 118 dX0_init_150 (by decide) ?_
  refine g_iload_n (y := I_X0_init_1) 0 dX0_init_118 rfl rfl ?_
  refine g_bipush (y := I_X0_init_1) (v := 12) dX0_init_119 (by decide) ?_
  refine g_icmp_ge (y := I_X0_init_1) 153 dX0_init_121 (by decide) (fun h => absurd h (by decide)) (fun _ => ?_)
  refine g_aload_n (y := I_X0_init_1) 1 dX0_init_124 rfl rfl ?_
  refine g_get (y := I_X0_init_1) (v := .ref (w.2.1 + 3)) fj_0_23 (show kd 1 = _ from rfl) (b := true) rfl (by decide) rfl dX0_init_125 ?_
  refine g_iload_n (y := I_X0_init_1) 0 dX0_init_128 rfl rfl ?_
  refine g_new (y := I_X0_init_1) nw_0_21 (show kd 30 = _ from rfl) (fun _ => rfl) (fun _ => rfl) (Nat.le_of_ble_eq_true rfl) (Nat.le_of_ble_eq_true rfl) dX0_init_129 ?_
  refine g_lit (n' := 31) (k' := 29) (z' := 662) rfl rfl rfl ?_
  refine g_dup (y := I_X0_init_1) dX0_init_132 rfl ?_
  refine g_callIN (y := I_X0_init_1) (y' := I_X2_init) (As := []) (host := "OrchardBook") ⟨by decide +kernel, gm 107 (by decide +kernel) rfl, gm 40 (by decide +kernel) rfl, mh_2.1, mh_2.2, by decide +kernel⟩ rfl (gm 106 (by decide +kernel) rfl) rfl ⟨Nat.le_of_ble_eq_true rfl, Nat.le_of_ble_eq_true rfl⟩ rfl rfl rfl (Nat.le_of_ble_eq_true rfl) ⟨Nat.le_of_ble_eq_true rfl, Nat.le_of_ble_eq_true rfl⟩ (by decide) rfl dX0_init_133 (c_X2_init l w 30 31 _ _ (show kd 30 = _ from rfl) (by decide) (show kd 31 = _ from rfl) (fun _ => rfl)) ?_
  refine g_lit (n' := 32) (k' := 30) (z' := 664) rfl rfl rfl ?_
  refine g_aast (y := I_X0_init_1) (tt := 1) (show kd 3 = _ from rfl) (by decide) (show kd 30 = _ from rfl) (by decide) rfl rfl (by decide) dX0_init_136 ?_
  refine g_aload_n (y := I_X0_init_1) 1 dX0_init_137 rfl rfl ?_
  refine g_get (y := I_X0_init_1) (v := .ref (w.2.1 + 3)) fj_0_23 (show kd 1 = _ from rfl) (b := true) rfl (by decide) rfl dX0_init_138 ?_
  refine g_iload_n (y := I_X0_init_1) 0 dX0_init_141 rfl rfl ?_
  refine g_aald (y := I_X0_init_1) (j := 30) (tt := 1) (show kd 3 = _ from rfl) (by decide) (by decide) rfl rfl dX0_init_142 ?_
  refine g_iload_n (y := I_X0_init_1) 0 dX0_init_143 rfl rfl ?_
  refine g_putI (y := I_X0_init_1) fi_0_61 (show kd 30 = _ from rfl) rfl (by decide) rfl rfl dX0_init_144 ?_
  refine g_iinc (y := I_X0_init_1) 0 (v := 6) (ls' := [(1, .int (6 : Int32)), (0, .ref (w.2.1 + 1))]) dX0_init_147 rfl (by decide) (by decide) rfl ?_
  refine g_goto (y := I_X0_init_1) 118 dX0_init_150 (by decide) ?_
  refine g_iload_n (y := I_X0_init_1) 0 dX0_init_118 rfl rfl ?_
  refine g_bipush (y := I_X0_init_1) (v := 12) dX0_init_119 (by decide) ?_
  refine g_icmp_ge (y := I_X0_init_1) 153 dX0_init_121 (by decide) (fun h => absurd h (by decide)) (fun _ => ?_)
  refine g_aload_n (y := I_X0_init_1) 1 dX0_init_124 rfl rfl ?_
  refine g_get (y := I_X0_init_1) (v := .ref (w.2.1 + 3)) fj_0_23 (show kd 1 = _ from rfl) (b := true) rfl (by decide) rfl dX0_init_125 ?_
  refine g_iload_n (y := I_X0_init_1) 0 dX0_init_128 rfl rfl ?_
  refine g_new (y := I_X0_init_1) nw_0_21 (show kd 32 = _ from rfl) (fun _ => rfl) (fun _ => rfl) (Nat.le_of_ble_eq_true rfl) (Nat.le_of_ble_eq_true rfl) dX0_init_129 ?_
  refine g_lit (n' := 33) (k' := 31) (z' := 675) rfl rfl rfl ?_
  refine g_dup (y := I_X0_init_1) dX0_init_132 rfl ?_
  refine g_callIN (y := I_X0_init_1) (y' := I_X2_init) (As := []) (host := "OrchardBook") ⟨by decide +kernel, gm 107 (by decide +kernel) rfl, gm 40 (by decide +kernel) rfl, mh_2.1, mh_2.2, by decide +kernel⟩ rfl (gm 106 (by decide +kernel) rfl) rfl ⟨Nat.le_of_ble_eq_true rfl, Nat.le_of_ble_eq_true rfl⟩ rfl rfl rfl (Nat.le_of_ble_eq_true rfl) ⟨Nat.le_of_ble_eq_true rfl, Nat.le_of_ble_eq_true rfl⟩ (by decide) rfl dX0_init_133 (c_X2_init l w 32 33 _ _ (show kd 32 = _ from rfl) (by decide) (show kd 33 = _ from rfl) (fun _ => rfl)) ?_
  refine g_lit (n' := 34) (k' := 32) (z' := 677) rfl rfl rfl ?_
  refine g_aast (y := I_X0_init_1) (tt := 1) (show kd 3 = _ from rfl) (by decide) (show kd 32 = _ from rfl) (by decide) rfl rfl (by decide) dX0_init_136 ?_
  refine g_aload_n (y := I_X0_init_1) 1 dX0_init_137 rfl rfl ?_
  refine g_get (y := I_X0_init_1) (v := .ref (w.2.1 + 3)) fj_0_23 (show kd 1 = _ from rfl) (b := true) rfl (by decide) rfl dX0_init_138 ?_
  refine g_iload_n (y := I_X0_init_1) 0 dX0_init_141 rfl rfl ?_
  refine g_aald (y := I_X0_init_1) (j := 32) (tt := 1) (show kd 3 = _ from rfl) (by decide) (by decide) rfl rfl dX0_init_142 ?_
  refine g_iload_n (y := I_X0_init_1) 0 dX0_init_143 rfl rfl ?_
  refine g_putI (y := I_X0_init_1) fi_0_61 (show kd 32 = _ from rfl) rfl (by decide) rfl rfl dX0_init_144 ?_
  refine g_iinc (y := I_X0_init_1) 0 (v := 7) (ls' := [(1, .int (7 : Int32)), (0, .ref (w.2.1 + 1))]) dX0_init_147 rfl (by decide) (by decide) rfl ?_
  refine g_goto (y := I_X0_init_1) 118 dX0_init_150 (by decide) ?_
  refine g_iload_n (y := I_X0_init_1) 0 dX0_init_118 rfl rfl ?_
  refine g_bipush (y := I_X0_init_1) (v := 12) dX0_init_119 (by decide) ?_
  refine g_icmp_ge (y := I_X0_init_1) 153 dX0_init_121 (by decide) (fun h => absurd h (by decide)) (fun _ => ?_)
  refine g_aload_n (y := I_X0_init_1) 1 dX0_init_124 rfl rfl ?_
  refine g_get (y := I_X0_init_1) (v := .ref (w.2.1 + 3)) fj_0_23 (show kd 1 = _ from rfl) (b := true) rfl (by decide) rfl dX0_init_125 ?_
  refine g_iload_n (y := I_X0_init_1) 0 dX0_init_128 rfl rfl ?_
  refine g_new (y := I_X0_init_1) nw_0_21 (show kd 34 = _ from rfl) (fun _ => rfl) (fun _ => rfl) (Nat.le_of_ble_eq_true rfl) (Nat.le_of_ble_eq_true rfl) dX0_init_129 ?_
  refine g_lit (n' := 35) (k' := 33) (z' := 688) rfl rfl rfl ?_
  refine g_dup (y := I_X0_init_1) dX0_init_132 rfl ?_
  refine g_callIN (y := I_X0_init_1) (y' := I_X2_init) (As := []) (host := "OrchardBook") ⟨by decide +kernel, gm 107 (by decide +kernel) rfl, gm 40 (by decide +kernel) rfl, mh_2.1, mh_2.2, by decide +kernel⟩ rfl (gm 106 (by decide +kernel) rfl) rfl ⟨Nat.le_of_ble_eq_true rfl, Nat.le_of_ble_eq_true rfl⟩ rfl rfl rfl (Nat.le_of_ble_eq_true rfl) ⟨Nat.le_of_ble_eq_true rfl, Nat.le_of_ble_eq_true rfl⟩ (by decide) rfl dX0_init_133 (c_X2_init l w 34 35 _ _ (show kd 34 = _ from rfl) (by decide) (show kd 35 = _ from rfl) (fun _ => rfl)) ?_
  refine g_lit (n' := 36) (k' := 34) (z' := 690) rfl rfl rfl ?_
  refine g_aast (y := I_X0_init_1) (tt := 1) (show kd 3 = _ from rfl) (by decide) (show kd 34 = _ from rfl) (by decide) rfl rfl (by decide) dX0_init_136 ?_
  refine g_aload_n (y := I_X0_init_1) 1 dX0_init_137 rfl rfl ?_
  refine g_get (y := I_X0_init_1) (v := .ref (w.2.1 + 3)) fj_0_23 (show kd 1 = _ from rfl) (b := true) rfl (by decide) rfl dX0_init_138 ?_
  refine g_iload_n (y := I_X0_init_1) 0 dX0_init_141 rfl rfl ?_
  refine g_aald (y := I_X0_init_1) (j := 34) (tt := 1) (show kd 3 = _ from rfl) (by decide) (by decide) rfl rfl dX0_init_142 ?_
  refine g_iload_n (y := I_X0_init_1) 0 dX0_init_143 rfl rfl ?_
  refine g_putI (y := I_X0_init_1) fi_0_61 (show kd 34 = _ from rfl) rfl (by decide) rfl rfl dX0_init_144 ?_
  refine g_iinc (y := I_X0_init_1) 0 (v := 8) (ls' := [(1, .int (8 : Int32)), (0, .ref (w.2.1 + 1))]) dX0_init_147 rfl (by decide) (by decide) rfl ?_
  refine g_goto (y := I_X0_init_1) 118 dX0_init_150 (by decide) ?_
  refine g_iload_n (y := I_X0_init_1) 0 dX0_init_118 rfl rfl ?_
  refine g_bipush (y := I_X0_init_1) (v := 12) dX0_init_119 (by decide) ?_
  refine g_icmp_ge (y := I_X0_init_1) 153 dX0_init_121 (by decide) (fun h => absurd h (by decide)) (fun _ => ?_)
  refine g_aload_n (y := I_X0_init_1) 1 dX0_init_124 rfl rfl ?_
  refine g_get (y := I_X0_init_1) (v := .ref (w.2.1 + 3)) fj_0_23 (show kd 1 = _ from rfl) (b := true) rfl (by decide) rfl dX0_init_125 ?_
  refine g_iload_n (y := I_X0_init_1) 0 dX0_init_128 rfl rfl ?_
  refine g_new (y := I_X0_init_1) nw_0_21 (show kd 36 = _ from rfl) (fun _ => rfl) (fun _ => rfl) (Nat.le_of_ble_eq_true rfl) (Nat.le_of_ble_eq_true rfl) dX0_init_129 ?_
  refine g_lit (n' := 37) (k' := 35) (z' := 701) rfl rfl rfl ?_
  refine g_dup (y := I_X0_init_1) dX0_init_132 rfl ?_
  refine g_callIN (y := I_X0_init_1) (y' := I_X2_init) (As := []) (host := "OrchardBook") ⟨by decide +kernel, gm 107 (by decide +kernel) rfl, gm 40 (by decide +kernel) rfl, mh_2.1, mh_2.2, by decide +kernel⟩ rfl (gm 106 (by decide +kernel) rfl) rfl ⟨Nat.le_of_ble_eq_true rfl, Nat.le_of_ble_eq_true rfl⟩ rfl rfl rfl (Nat.le_of_ble_eq_true rfl) ⟨Nat.le_of_ble_eq_true rfl, Nat.le_of_ble_eq_true rfl⟩ (by decide) rfl dX0_init_133 (c_X2_init l w 36 37 _ _ (show kd 36 = _ from rfl) (by decide) (show kd 37 = _ from rfl) (fun _ => rfl)) ?_
  refine g_lit (n' := 38) (k' := 36) (z' := 703) rfl rfl rfl ?_
  refine g_aast (y := I_X0_init_1) (tt := 1) (show kd 3 = _ from rfl) (by decide) (show kd 36 = _ from rfl) (by decide) rfl rfl (by decide) dX0_init_136 ?_
  refine g_aload_n (y := I_X0_init_1) 1 dX0_init_137 rfl rfl ?_
  refine g_get (y := I_X0_init_1) (v := .ref (w.2.1 + 3)) fj_0_23 (show kd 1 = _ from rfl) (b := true) rfl (by decide) rfl dX0_init_138 ?_
  refine g_iload_n (y := I_X0_init_1) 0 dX0_init_141 rfl rfl ?_
  refine g_aald (y := I_X0_init_1) (j := 36) (tt := 1) (show kd 3 = _ from rfl) (by decide) (by decide) rfl rfl dX0_init_142 ?_
  refine g_iload_n (y := I_X0_init_1) 0 dX0_init_143 rfl rfl ?_
  refine g_putI (y := I_X0_init_1) fi_0_61 (show kd 36 = _ from rfl) rfl (by decide) rfl rfl dX0_init_144 ?_
  refine g_iinc (y := I_X0_init_1) 0 (v := 9) (ls' := [(1, .int (9 : Int32)), (0, .ref (w.2.1 + 1))]) dX0_init_147 rfl (by decide) (by decide) rfl ?_
  refine g_goto (y := I_X0_init_1) 118 dX0_init_150 (by decide) ?_
  refine g_iload_n (y := I_X0_init_1) 0 dX0_init_118 rfl rfl ?_
  refine g_bipush (y := I_X0_init_1) (v := 12) dX0_init_119 (by decide) ?_
  refine g_icmp_ge (y := I_X0_init_1) 153 dX0_init_121 (by decide) (fun h => absurd h (by decide)) (fun _ => ?_)
  refine g_aload_n (y := I_X0_init_1) 1 dX0_init_124 rfl rfl ?_
  refine g_get (y := I_X0_init_1) (v := .ref (w.2.1 + 3)) fj_0_23 (show kd 1 = _ from rfl) (b := true) rfl (by decide) rfl dX0_init_125 ?_
  refine g_iload_n (y := I_X0_init_1) 0 dX0_init_128 rfl rfl ?_
  refine g_new (y := I_X0_init_1) nw_0_21 (show kd 38 = _ from rfl) (fun _ => rfl) (fun _ => rfl) (Nat.le_of_ble_eq_true rfl) (Nat.le_of_ble_eq_true rfl) dX0_init_129 ?_
  refine g_lit (n' := 39) (k' := 37) (z' := 714) rfl rfl rfl ?_
  refine g_dup (y := I_X0_init_1) dX0_init_132 rfl ?_
  refine g_callIN (y := I_X0_init_1) (y' := I_X2_init) (As := []) (host := "OrchardBook") ⟨by decide +kernel, gm 107 (by decide +kernel) rfl, gm 40 (by decide +kernel) rfl, mh_2.1, mh_2.2, by decide +kernel⟩ rfl (gm 106 (by decide +kernel) rfl) rfl ⟨Nat.le_of_ble_eq_true rfl, Nat.le_of_ble_eq_true rfl⟩ rfl rfl rfl (Nat.le_of_ble_eq_true rfl) ⟨Nat.le_of_ble_eq_true rfl, Nat.le_of_ble_eq_true rfl⟩ (by decide) rfl dX0_init_133 (c_X2_init l w 38 39 _ _ (show kd 38 = _ from rfl) (by decide) (show kd 39 = _ from rfl) (fun _ => rfl)) ?_
  refine g_lit (n' := 40) (k' := 38) (z' := 716) rfl rfl rfl ?_
  refine g_aast (y := I_X0_init_1) (tt := 1) (show kd 3 = _ from rfl) (by decide) (show kd 38 = _ from rfl) (by decide) rfl rfl (by decide) dX0_init_136 ?_
  refine g_aload_n (y := I_X0_init_1) 1 dX0_init_137 rfl rfl ?_
  refine g_get (y := I_X0_init_1) (v := .ref (w.2.1 + 3)) fj_0_23 (show kd 1 = _ from rfl) (b := true) rfl (by decide) rfl dX0_init_138 ?_
  refine g_iload_n (y := I_X0_init_1) 0 dX0_init_141 rfl rfl ?_
  refine g_aald (y := I_X0_init_1) (j := 38) (tt := 1) (show kd 3 = _ from rfl) (by decide) (by decide) rfl rfl dX0_init_142 ?_
  refine g_iload_n (y := I_X0_init_1) 0 dX0_init_143 rfl rfl ?_
  refine g_putI (y := I_X0_init_1) fi_0_61 (show kd 38 = _ from rfl) rfl (by decide) rfl rfl dX0_init_144 ?_
  refine g_iinc (y := I_X0_init_1) 0 (v := 10) (ls' := [(1, .int (10 : Int32)), (0, .ref (w.2.1 + 1))]) dX0_init_147 rfl (by decide) (by decide) rfl ?_
  refine g_goto (y := I_X0_init_1) 118 dX0_init_150 (by decide) ?_
  refine g_iload_n (y := I_X0_init_1) 0 dX0_init_118 rfl rfl ?_
  refine g_bipush (y := I_X0_init_1) (v := 12) dX0_init_119 (by decide) ?_
  refine g_icmp_ge (y := I_X0_init_1) 153 dX0_init_121 (by decide) (fun h => absurd h (by decide)) (fun _ => ?_)
  refine g_aload_n (y := I_X0_init_1) 1 dX0_init_124 rfl rfl ?_
  refine g_get (y := I_X0_init_1) (v := .ref (w.2.1 + 3)) fj_0_23 (show kd 1 = _ from rfl) (b := true) rfl (by decide) rfl dX0_init_125 ?_
  refine g_iload_n (y := I_X0_init_1) 0 dX0_init_128 rfl rfl ?_
  refine g_new (y := I_X0_init_1) nw_0_21 (show kd 40 = _ from rfl) (fun _ => rfl) (fun _ => rfl) (Nat.le_of_ble_eq_true rfl) (Nat.le_of_ble_eq_true rfl) dX0_init_129 ?_
  refine g_lit (n' := 41) (k' := 39) (z' := 727) rfl rfl rfl ?_
  refine g_dup (y := I_X0_init_1) dX0_init_132 rfl ?_
  refine g_callIN (y := I_X0_init_1) (y' := I_X2_init) (As := []) (host := "OrchardBook") ⟨by decide +kernel, gm 107 (by decide +kernel) rfl, gm 40 (by decide +kernel) rfl, mh_2.1, mh_2.2, by decide +kernel⟩ rfl (gm 106 (by decide +kernel) rfl) rfl ⟨Nat.le_of_ble_eq_true rfl, Nat.le_of_ble_eq_true rfl⟩ rfl rfl rfl (Nat.le_of_ble_eq_true rfl) ⟨Nat.le_of_ble_eq_true rfl, Nat.le_of_ble_eq_true rfl⟩ (by decide) rfl dX0_init_133 (c_X2_init l w 40 41 _ _ (show kd 40 = _ from rfl) (by decide) (show kd 41 = _ from rfl) (fun _ => rfl)) ?_
  refine g_lit (n' := 42) (k' := 40) (z' := 729) rfl rfl rfl ?_
  refine g_aast (y := I_X0_init_1) (tt := 1) (show kd 3 = _ from rfl) (by decide) (show kd 40 = _ from rfl) (by decide) rfl rfl (by decide) dX0_init_136 ?_
  refine g_aload_n (y := I_X0_init_1) 1 dX0_init_137 rfl rfl ?_
  refine g_get (y := I_X0_init_1) (v := .ref (w.2.1 + 3)) fj_0_23 (show kd 1 = _ from rfl) (b := true) rfl (by decide) rfl dX0_init_138 ?_
  refine g_iload_n (y := I_X0_init_1) 0 dX0_init_141 rfl rfl ?_
  refine g_aald (y := I_X0_init_1) (j := 40) (tt := 1) (show kd 3 = _ from rfl) (by decide) (by decide) rfl rfl dX0_init_142 ?_
  refine g_iload_n (y := I_X0_init_1) 0 dX0_init_143 rfl rfl ?_
  refine g_putI (y := I_X0_init_1) fi_0_61 (show kd 40 = _ from rfl) rfl (by decide) rfl rfl dX0_init_144 ?_
  refine g_iinc (y := I_X0_init_1) 0 (v := 11) (ls' := [(1, .int (11 : Int32)), (0, .ref (w.2.1 + 1))]) dX0_init_147 rfl (by decide) (by decide) rfl ?_
  refine g_goto (y := I_X0_init_1) 118 dX0_init_150 (by decide) ?_
  refine g_iload_n (y := I_X0_init_1) 0 dX0_init_118 rfl rfl ?_
  refine g_bipush (y := I_X0_init_1) (v := 12) dX0_init_119 (by decide) ?_
  refine g_icmp_ge (y := I_X0_init_1) 153 dX0_init_121 (by decide) (fun h => absurd h (by decide)) (fun _ => ?_)
  refine g_aload_n (y := I_X0_init_1) 1 dX0_init_124 rfl rfl ?_
  refine g_get (y := I_X0_init_1) (v := .ref (w.2.1 + 3)) fj_0_23 (show kd 1 = _ from rfl) (b := true) rfl (by decide) rfl dX0_init_125 ?_
  refine g_iload_n (y := I_X0_init_1) 0 dX0_init_128 rfl rfl ?_
  refine g_new (y := I_X0_init_1) nw_0_21 (show kd 42 = _ from rfl) (fun _ => rfl) (fun _ => rfl) (Nat.le_of_ble_eq_true rfl) (Nat.le_of_ble_eq_true rfl) dX0_init_129 ?_
  refine g_lit (n' := 43) (k' := 41) (z' := 740) rfl rfl rfl ?_
  refine g_dup (y := I_X0_init_1) dX0_init_132 rfl ?_
  refine g_callIN (y := I_X0_init_1) (y' := I_X2_init) (As := []) (host := "OrchardBook") ⟨by decide +kernel, gm 107 (by decide +kernel) rfl, gm 40 (by decide +kernel) rfl, mh_2.1, mh_2.2, by decide +kernel⟩ rfl (gm 106 (by decide +kernel) rfl) rfl ⟨Nat.le_of_ble_eq_true rfl, Nat.le_of_ble_eq_true rfl⟩ rfl rfl rfl (Nat.le_of_ble_eq_true rfl) ⟨Nat.le_of_ble_eq_true rfl, Nat.le_of_ble_eq_true rfl⟩ (by decide) rfl dX0_init_133 (c_X2_init l w 42 43 _ _ (show kd 42 = _ from rfl) (by decide) (show kd 43 = _ from rfl) (fun _ => rfl)) ?_
  refine g_lit (n' := 44) (k' := 42) (z' := 742) rfl rfl rfl ?_
  refine g_aast (y := I_X0_init_1) (tt := 1) (show kd 3 = _ from rfl) (by decide) (show kd 42 = _ from rfl) (by decide) rfl rfl (by decide) dX0_init_136 ?_
  refine g_aload_n (y := I_X0_init_1) 1 dX0_init_137 rfl rfl ?_
  refine g_get (y := I_X0_init_1) (v := .ref (w.2.1 + 3)) fj_0_23 (show kd 1 = _ from rfl) (b := true) rfl (by decide) rfl dX0_init_138 ?_
  refine g_iload_n (y := I_X0_init_1) 0 dX0_init_141 rfl rfl ?_
  refine g_aald (y := I_X0_init_1) (j := 42) (tt := 1) (show kd 3 = _ from rfl) (by decide) (by decide) rfl rfl dX0_init_142 ?_
  refine g_iload_n (y := I_X0_init_1) 0 dX0_init_143 rfl rfl ?_
  refine g_putI (y := I_X0_init_1) fi_0_61 (show kd 42 = _ from rfl) rfl (by decide) rfl rfl dX0_init_144 ?_
  refine g_iinc (y := I_X0_init_1) 0 (v := 12) (ls' := [(1, .int (12 : Int32)), (0, .ref (w.2.1 + 1))]) dX0_init_147 rfl (by decide) (by decide) rfl ?_
  refine g_goto (y := I_X0_init_1) 118 dX0_init_150 (by decide) ?_
  refine g_iload_n (y := I_X0_init_1) 0 dX0_init_118 rfl rfl ?_
  refine g_bipush (y := I_X0_init_1) (v := 12) dX0_init_119 (by decide) ?_
  refine g_icmp_ge (y := I_X0_init_1) 153 dX0_init_121 (by decide) (fun _ => ?_) (fun h => absurd (by decide) h)
  exact g_vret (y := I_X0_init_1) rfl dX0_init_153
abbrev I_X0_init_44 : MI := (yX0_init, cX0_init, 2, none, { frames := 2, cells := 42, slots := 742, locals := 40 })
def r_X0_init_44 : Rf := (up2 (up2 (up2 (up2 (up2 (up2 (up2 (up2 (up2 (up2 (up2 (up2 (up2 (up2 (up2 (up2 (up2 (up2 (up2 (up2 (up2 (up2 (up2 (up2 (up2 (up2 (up2 (up2 (up2 (up2 (up2 (up2 (up2 (up2 (up2 (up2 (up2 (up2 (up2 (up2 (up2 (up2 (up2 r_X0_init_1 0 0 (some 1)) 44 0 (some 45)) 44 2 (some 46)) 44 6 (some 47)) 44 7 (some 48)) 44 8 (some 49)) 44 12 (some 50)) 51 7 (some 52)) 45 (ix (0 : Int32)) (some 51)) 53 7 (some 54)) 45 (ix (1 : Int32)) (some 53)) 55 7 (some 56)) 45 (ix (2 : Int32)) (some 55)) 57 7 (some 58)) 45 (ix (3 : Int32)) (some 57)) 59 7 (some 60)) 45 (ix (4 : Int32)) (some 59)) 61 7 (some 62)) 45 (ix (5 : Int32)) (some 61)) 63 10 (some 64)) 46 (ix (0 : Int32)) (some 63)) 65 10 (some 66)) 46 (ix (1 : Int32)) (some 65)) 67 10 (some 68)) 46 (ix (2 : Int32)) (some 67)) 69 10 (some 70)) 46 (ix (3 : Int32)) (some 69)) 71 10 (some 72)) 46 (ix (4 : Int32)) (some 71)) 73 10 (some 74)) 46 (ix (5 : Int32)) (some 73)) 75 10 (some 76)) 46 (ix (6 : Int32)) (some 75)) 77 10 (some 78)) 46 (ix (7 : Int32)) (some 77)) 79 10 (some 80)) 46 (ix (8 : Int32)) (some 79)) 81 10 (some 82)) 46 (ix (9 : Int32)) (some 81)) 83 10 (some 84)) 46 (ix (10 : Int32)) (some 83)) 85 10 (some 86)) 46 (ix (11 : Int32)) (some 85))
def s_X0_init_44 : St := (wr (wr (wr (wr (wr (wr (wr (wr (wr (wr (wr (wr (wr (wr (wr (wr (wr (wr (wr s_X0_init_1 44 1 (0 : Int32)) 44 3 (3 : Int32)) 44 4 (0 : Int32)) 44 5 (0 : Int32)) 44 9 (0 : Int32)) 44 10 (-1 : Int32)) 44 11 (0 : Int32)) 63 0 (0 : Int32)) 65 0 (1 : Int32)) 67 0 (2 : Int32)) 69 0 (3 : Int32)) 71 0 (4 : Int32)) 73 0 (5 : Int32)) 75 0 (6 : Int32)) 77 0 (7 : Int32)) 79 0 (8 : Int32)) 81 0 (9 : Int32)) 83 0 (10 : Int32)) 85 0 (11 : Int32))
set_option maxRecDepth 100000 in
set_option maxHeartbeats 4000000 in
theorem c_X0_init_44 (l : Launch) (w : Wd) : Ct l w I_X0_init_44 [.ref (w.2.1 + 44)] 45 (up2 r_X0_init_1 0 0 (some 1)) s_X0_init_1 (87, r_X0_init_44, s_X0_init_44, 42, 742) none := by
  refine Ct.of (Nat.le_of_ble_eq_true rfl) pn_0 ?_
  refine g_aload_n (y := I_X0_init_44) 0 dX0_init_0 rfl rfl ?_
  refine g_objInit (y := I_X0_init_44) (gm 60 (by decide +kernel) rfl) oi_i oi_c (Nat.le_of_ble_eq_true rfl) (Nat.le_of_ble_eq_true rfl) dX0_init_1 ?_
  refine g_aload_n (y := I_X0_init_44) 0 dX0_init_4 rfl rfl ?_
  refine g_bipush (y := I_X0_init_44) (v := 6) dX0_init_5 (by decide) ?_
  refine g_newQ (y := I_X0_init_44) (t := 0) (CC := "OrchardBook$Sort") (gm 61 (by decide +kernel) rfl) (fun _ h => h.2.1) (show kd 45 = _ from rfl) rfl (fun _ => rfl) (by decide) (by decide) (by decide) (Nat.le_of_ble_eq_true rfl) (Nat.le_of_ble_eq_true rfl) dX0_init_7 ?_
  refine g_lit (n' := 46) (k' := 1) (z' := 6) rfl rfl rfl ?_
  refine g_putR (y := I_X0_init_44) fi_0_11 rfl (show kd 44 = _ from rfl) rfl (by decide) rfl rfl dX0_init_10 ?_
  refine g_aload_n (y := I_X0_init_44) 0 dX0_init_13 rfl rfl ?_
  refine g_iconst (y := I_X0_init_44) (v := 0) dX0_init_14 (by decide) ?_
  refine g_putI (y := I_X0_init_44) fi_0_17 (show kd 44 = _ from rfl) rfl (by decide) rfl rfl dX0_init_15 ?_
  refine g_aload_n (y := I_X0_init_44) 0 dX0_init_18 rfl rfl ?_
  refine g_bipush (y := I_X0_init_44) (v := 12) dX0_init_19 (by decide) ?_
  refine g_newQ (y := I_X0_init_44) (t := 1) (CC := "OrchardBook$Place") (gm 63 (by decide +kernel) rfl) (fun _ h => h.2.2.1) (show kd 46 = _ from rfl) rfl (fun _ => rfl) (by decide) (by decide) (by decide) (Nat.le_of_ble_eq_true rfl) (Nat.le_of_ble_eq_true rfl) dX0_init_21 ?_
  refine g_lit (n' := 47) (k' := 2) (z' := 18) rfl rfl rfl ?_
  refine g_putR (y := I_X0_init_44) fi_0_23 rfl (show kd 44 = _ from rfl) rfl (by decide) rfl rfl dX0_init_24 ?_
  refine g_aload_n (y := I_X0_init_44) 0 dX0_init_27 rfl rfl ?_
  refine g_iconst (y := I_X0_init_44) (v := 3) dX0_init_28 (by decide) ?_
  refine g_putI (y := I_X0_init_44) fi_0_27 (show kd 44 = _ from rfl) rfl (by decide) rfl rfl dX0_init_29 ?_
  refine g_aload_n (y := I_X0_init_44) 0 dX0_init_32 rfl rfl ?_
  refine g_iconst (y := I_X0_init_44) (v := 0) dX0_init_33 (by decide) ?_
  refine g_putI (y := I_X0_init_44) fi_0_30 (show kd 44 = _ from rfl) rfl (by decide) rfl rfl dX0_init_34 ?_
  refine g_aload_n (y := I_X0_init_44) 0 dX0_init_37 rfl rfl ?_
  refine g_iconst (y := I_X0_init_44) (v := 0) dX0_init_38 (by decide) ?_
  refine g_putI (y := I_X0_init_44) fi_0_33 (show kd 44 = _ from rfl) rfl (by decide) rfl rfl dX0_init_39 ?_
  refine g_aload_n (y := I_X0_init_44) 0 dX0_init_42 rfl rfl ?_
  refine g_bipush (y := I_X0_init_44) (v := 50) dX0_init_43 (by decide) ?_
  refine g_newI (y := I_X0_init_44) ac_int (show kd 47 = _ from rfl) (fun _ => rfl) (by decide) (by decide) (by decide) (Nat.le_of_ble_eq_true rfl) (Nat.le_of_ble_eq_true rfl) dX0_init_45 ?_
  refine g_lit (n' := 48) (k' := 3) (z' := 68) rfl rfl rfl ?_
  refine g_putR (y := I_X0_init_44) fi_0_36 rfl (show kd 44 = _ from rfl) rfl (by decide) rfl rfl dX0_init_47 ?_
  refine g_aload_n (y := I_X0_init_44) 0 dX0_init_50 rfl rfl ?_
  refine g_bipush (y := I_X0_init_44) (v := 50) dX0_init_51 (by decide) ?_
  refine g_newI (y := I_X0_init_44) ac_int (show kd 48 = _ from rfl) (fun _ => rfl) (by decide) (by decide) (by decide) (Nat.le_of_ble_eq_true rfl) (Nat.le_of_ble_eq_true rfl) dX0_init_53 ?_
  refine g_lit (n' := 49) (k' := 4) (z' := 118) rfl rfl rfl ?_
  refine g_putR (y := I_X0_init_44) fi_0_40 rfl (show kd 44 = _ from rfl) rfl (by decide) rfl rfl dX0_init_55 ?_
  refine g_aload_n (y := I_X0_init_44) 0 dX0_init_58 rfl rfl ?_
  refine g_bipush (y := I_X0_init_44) (v := 50) dX0_init_59 (by decide) ?_
  refine g_newI (y := I_X0_init_44) ac_int (show kd 49 = _ from rfl) (fun _ => rfl) (by decide) (by decide) (by decide) (Nat.le_of_ble_eq_true rfl) (Nat.le_of_ble_eq_true rfl) dX0_init_61 ?_
  refine g_lit (n' := 50) (k' := 5) (z' := 168) rfl rfl rfl ?_
  refine g_putR (y := I_X0_init_44) fi_0_43 rfl (show kd 44 = _ from rfl) rfl (by decide) rfl rfl dX0_init_63 ?_
  refine g_aload_n (y := I_X0_init_44) 0 dX0_init_66 rfl rfl ?_
  refine g_iconst (y := I_X0_init_44) (v := 0) dX0_init_67 (by decide) ?_
  refine g_putI (y := I_X0_init_44) fi_0_46 (show kd 44 = _ from rfl) rfl (by decide) rfl rfl dX0_init_68 ?_
  refine g_aload_n (y := I_X0_init_44) 0 dX0_init_71 rfl rfl ?_
  refine g_iconst (y := I_X0_init_44) (v := -1) dX0_init_72 (by decide) ?_
  refine g_putI (y := I_X0_init_44) fi_0_49 (show kd 44 = _ from rfl) rfl (by decide) rfl rfl dX0_init_73 ?_
  refine g_aload_n (y := I_X0_init_44) 0 dX0_init_76 rfl rfl ?_
  refine g_iconst (y := I_X0_init_44) (v := 0) dX0_init_77 (by decide) ?_
  refine g_putI (y := I_X0_init_44) fi_0_52 (show kd 44 = _ from rfl) rfl (by decide) rfl rfl dX0_init_78 ?_
  refine g_aload_n (y := I_X0_init_44) 0 dX0_init_81 rfl rfl ?_
  refine g_bipush (y := I_X0_init_44) (v := 10) dX0_init_82 (by decide) ?_
  refine g_newL (y := I_X0_init_44) ac_long (show kd 50 = _ from rfl) (fun _ => rfl) (by decide) (by decide) (by decide) (Nat.le_of_ble_eq_true rfl) (Nat.le_of_ble_eq_true rfl) dX0_init_84 ?_
  refine g_lit (n' := 51) (k' := 6) (z' := 178) rfl rfl rfl ?_
  refine g_putR (y := I_X0_init_44) fi_0_55 rfl (show kd 44 = _ from rfl) rfl (by decide) rfl rfl dX0_init_86 ?_
  refine g_iconst (y := I_X0_init_44) (v := 0) dX0_init_89 (by decide) ?_
  refine g_istore_n (y := I_X0_init_44) (ls' := [(1, .int (0 : Int32)), (0, .ref (w.2.1 + 44))]) dX0_init_90 rfl (by decide) rfl ?_
  refine g_iload_n (y := I_X0_init_44) 0 dX0_init_91 rfl rfl ?_
  refine g_bipush (y := I_X0_init_44) (v := 6) dX0_init_92 (by decide) ?_
  refine g_icmp_ge (y := I_X0_init_44) 116 dX0_init_94 (by decide) (fun h => absurd h (by decide)) (fun _ => ?_)
  refine g_aload_n (y := I_X0_init_44) 1 dX0_init_97 rfl rfl ?_
  refine g_get (y := I_X0_init_44) (v := .ref (w.2.1 + 45)) fj_0_11 (show kd 44 = _ from rfl) (b := true) rfl (by decide) rfl dX0_init_98 ?_
  refine g_iload_n (y := I_X0_init_44) 0 dX0_init_101 rfl rfl ?_
  refine g_new (y := I_X0_init_44) nw_0_9 (show kd 51 = _ from rfl) (fun _ => rfl) (fun _ => rfl) (Nat.le_of_ble_eq_true rfl) (Nat.le_of_ble_eq_true rfl) dX0_init_102 ?_
  refine g_lit (n' := 52) (k' := 7) (z' := 186) rfl rfl rfl ?_
  refine g_dup (y := I_X0_init_44) dX0_init_105 rfl ?_
  refine g_callIN (y := I_X0_init_44) (y' := I_X5_init) (As := []) (host := "OrchardBook") ⟨by decide +kernel, gm 68 (by decide +kernel) rfl, gm 39 (by decide +kernel) rfl, mh_5.1, mh_5.2, by decide +kernel⟩ rfl (gm 67 (by decide +kernel) rfl) rfl ⟨Nat.le_of_ble_eq_true rfl, Nat.le_of_ble_eq_true rfl⟩ rfl rfl rfl (Nat.le_of_ble_eq_true rfl) ⟨Nat.le_of_ble_eq_true rfl, Nat.le_of_ble_eq_true rfl⟩ (by decide) rfl dX0_init_106 (c_X5_init l w 51 52 _ _ (show kd 51 = _ from rfl) (by decide) (show kd 52 = _ from rfl) (fun _ => rfl)) ?_
  refine g_lit (n' := 53) (k' := 8) (z' := 246) rfl rfl rfl ?_
  refine g_aast (y := I_X0_init_44) (tt := 0) (show kd 45 = _ from rfl) (by decide) (show kd 51 = _ from rfl) (by decide) rfl rfl (by decide) dX0_init_109 ?_
  refine g_iinc (y := I_X0_init_44) 0 (v := 1) (ls' := [(1, .int (1 : Int32)), (0, .ref (w.2.1 + 44))]) dX0_init_110 rfl (by decide) (by decide) rfl ?_
  refine g_goto (y := I_X0_init_44) 91 dX0_init_113 (by decide) ?_
  refine g_iload_n (y := I_X0_init_44) 0 dX0_init_91 rfl rfl ?_
  refine g_bipush (y := I_X0_init_44) (v := 6) dX0_init_92 (by decide) ?_
  refine g_icmp_ge (y := I_X0_init_44) 116 dX0_init_94 (by decide) (fun h => absurd h (by decide)) (fun _ => ?_)
  refine g_aload_n (y := I_X0_init_44) 1 dX0_init_97 rfl rfl ?_
  refine g_get (y := I_X0_init_44) (v := .ref (w.2.1 + 45)) fj_0_11 (show kd 44 = _ from rfl) (b := true) rfl (by decide) rfl dX0_init_98 ?_
  refine g_iload_n (y := I_X0_init_44) 0 dX0_init_101 rfl rfl ?_
  refine g_new (y := I_X0_init_44) nw_0_9 (show kd 53 = _ from rfl) (fun _ => rfl) (fun _ => rfl) (Nat.le_of_ble_eq_true rfl) (Nat.le_of_ble_eq_true rfl) dX0_init_102 ?_
  refine g_lit (n' := 54) (k' := 9) (z' := 254) rfl rfl rfl ?_
  refine g_dup (y := I_X0_init_44) dX0_init_105 rfl ?_
  refine g_callIN (y := I_X0_init_44) (y' := I_X5_init) (As := []) (host := "OrchardBook") ⟨by decide +kernel, gm 68 (by decide +kernel) rfl, gm 39 (by decide +kernel) rfl, mh_5.1, mh_5.2, by decide +kernel⟩ rfl (gm 67 (by decide +kernel) rfl) rfl ⟨Nat.le_of_ble_eq_true rfl, Nat.le_of_ble_eq_true rfl⟩ rfl rfl rfl (Nat.le_of_ble_eq_true rfl) ⟨Nat.le_of_ble_eq_true rfl, Nat.le_of_ble_eq_true rfl⟩ (by decide) rfl dX0_init_106 (c_X5_init l w 53 54 _ _ (show kd 53 = _ from rfl) (by decide) (show kd 54 = _ from rfl) (fun _ => rfl)) ?_
  refine g_lit (n' := 55) (k' := 10) (z' := 314) rfl rfl rfl ?_
  refine g_aast (y := I_X0_init_44) (tt := 0) (show kd 45 = _ from rfl) (by decide) (show kd 53 = _ from rfl) (by decide) rfl rfl (by decide) dX0_init_109 ?_
  refine g_iinc (y := I_X0_init_44) 0 (v := 2) (ls' := [(1, .int (2 : Int32)), (0, .ref (w.2.1 + 44))]) dX0_init_110 rfl (by decide) (by decide) rfl ?_
  refine g_goto (y := I_X0_init_44) 91 dX0_init_113 (by decide) ?_
  refine g_iload_n (y := I_X0_init_44) 0 dX0_init_91 rfl rfl ?_
  refine g_bipush (y := I_X0_init_44) (v := 6) dX0_init_92 (by decide) ?_
  refine g_icmp_ge (y := I_X0_init_44) 116 dX0_init_94 (by decide) (fun h => absurd h (by decide)) (fun _ => ?_)
  refine g_aload_n (y := I_X0_init_44) 1 dX0_init_97 rfl rfl ?_
  refine g_get (y := I_X0_init_44) (v := .ref (w.2.1 + 45)) fj_0_11 (show kd 44 = _ from rfl) (b := true) rfl (by decide) rfl dX0_init_98 ?_
  refine g_iload_n (y := I_X0_init_44) 0 dX0_init_101 rfl rfl ?_
  refine g_new (y := I_X0_init_44) nw_0_9 (show kd 55 = _ from rfl) (fun _ => rfl) (fun _ => rfl) (Nat.le_of_ble_eq_true rfl) (Nat.le_of_ble_eq_true rfl) dX0_init_102 ?_
  refine g_lit (n' := 56) (k' := 11) (z' := 322) rfl rfl rfl ?_
  refine g_dup (y := I_X0_init_44) dX0_init_105 rfl ?_
  refine g_callIN (y := I_X0_init_44) (y' := I_X5_init) (As := []) (host := "OrchardBook") ⟨by decide +kernel, gm 68 (by decide +kernel) rfl, gm 39 (by decide +kernel) rfl, mh_5.1, mh_5.2, by decide +kernel⟩ rfl (gm 67 (by decide +kernel) rfl) rfl ⟨Nat.le_of_ble_eq_true rfl, Nat.le_of_ble_eq_true rfl⟩ rfl rfl rfl (Nat.le_of_ble_eq_true rfl) ⟨Nat.le_of_ble_eq_true rfl, Nat.le_of_ble_eq_true rfl⟩ (by decide) rfl dX0_init_106 (c_X5_init l w 55 56 _ _ (show kd 55 = _ from rfl) (by decide) (show kd 56 = _ from rfl) (fun _ => rfl)) ?_
  refine g_lit (n' := 57) (k' := 12) (z' := 382) rfl rfl rfl ?_
  refine g_aast (y := I_X0_init_44) (tt := 0) (show kd 45 = _ from rfl) (by decide) (show kd 55 = _ from rfl) (by decide) rfl rfl (by decide) dX0_init_109 ?_
  refine g_iinc (y := I_X0_init_44) 0 (v := 3) (ls' := [(1, .int (3 : Int32)), (0, .ref (w.2.1 + 44))]) dX0_init_110 rfl (by decide) (by decide) rfl ?_
  refine g_goto (y := I_X0_init_44) 91 dX0_init_113 (by decide) ?_
  refine g_iload_n (y := I_X0_init_44) 0 dX0_init_91 rfl rfl ?_
  refine g_bipush (y := I_X0_init_44) (v := 6) dX0_init_92 (by decide) ?_
  refine g_icmp_ge (y := I_X0_init_44) 116 dX0_init_94 (by decide) (fun h => absurd h (by decide)) (fun _ => ?_)
  refine g_aload_n (y := I_X0_init_44) 1 dX0_init_97 rfl rfl ?_
  refine g_get (y := I_X0_init_44) (v := .ref (w.2.1 + 45)) fj_0_11 (show kd 44 = _ from rfl) (b := true) rfl (by decide) rfl dX0_init_98 ?_
  refine g_iload_n (y := I_X0_init_44) 0 dX0_init_101 rfl rfl ?_
  refine g_new (y := I_X0_init_44) nw_0_9 (show kd 57 = _ from rfl) (fun _ => rfl) (fun _ => rfl) (Nat.le_of_ble_eq_true rfl) (Nat.le_of_ble_eq_true rfl) dX0_init_102 ?_
  refine g_lit (n' := 58) (k' := 13) (z' := 390) rfl rfl rfl ?_
  refine g_dup (y := I_X0_init_44) dX0_init_105 rfl ?_
  refine g_callIN (y := I_X0_init_44) (y' := I_X5_init) (As := []) (host := "OrchardBook") ⟨by decide +kernel, gm 68 (by decide +kernel) rfl, gm 39 (by decide +kernel) rfl, mh_5.1, mh_5.2, by decide +kernel⟩ rfl (gm 67 (by decide +kernel) rfl) rfl ⟨Nat.le_of_ble_eq_true rfl, Nat.le_of_ble_eq_true rfl⟩ rfl rfl rfl (Nat.le_of_ble_eq_true rfl) ⟨Nat.le_of_ble_eq_true rfl, Nat.le_of_ble_eq_true rfl⟩ (by decide) rfl dX0_init_106 (c_X5_init l w 57 58 _ _ (show kd 57 = _ from rfl) (by decide) (show kd 58 = _ from rfl) (fun _ => rfl)) ?_
  refine g_lit (n' := 59) (k' := 14) (z' := 450) rfl rfl rfl ?_
  refine g_aast (y := I_X0_init_44) (tt := 0) (show kd 45 = _ from rfl) (by decide) (show kd 57 = _ from rfl) (by decide) rfl rfl (by decide) dX0_init_109 ?_
  refine g_iinc (y := I_X0_init_44) 0 (v := 4) (ls' := [(1, .int (4 : Int32)), (0, .ref (w.2.1 + 44))]) dX0_init_110 rfl (by decide) (by decide) rfl ?_
  refine g_goto (y := I_X0_init_44) 91 dX0_init_113 (by decide) ?_
  refine g_iload_n (y := I_X0_init_44) 0 dX0_init_91 rfl rfl ?_
  refine g_bipush (y := I_X0_init_44) (v := 6) dX0_init_92 (by decide) ?_
  refine g_icmp_ge (y := I_X0_init_44) 116 dX0_init_94 (by decide) (fun h => absurd h (by decide)) (fun _ => ?_)
  refine g_aload_n (y := I_X0_init_44) 1 dX0_init_97 rfl rfl ?_
  refine g_get (y := I_X0_init_44) (v := .ref (w.2.1 + 45)) fj_0_11 (show kd 44 = _ from rfl) (b := true) rfl (by decide) rfl dX0_init_98 ?_
  refine g_iload_n (y := I_X0_init_44) 0 dX0_init_101 rfl rfl ?_
  refine g_new (y := I_X0_init_44) nw_0_9 (show kd 59 = _ from rfl) (fun _ => rfl) (fun _ => rfl) (Nat.le_of_ble_eq_true rfl) (Nat.le_of_ble_eq_true rfl) dX0_init_102 ?_
  refine g_lit (n' := 60) (k' := 15) (z' := 458) rfl rfl rfl ?_
  refine g_dup (y := I_X0_init_44) dX0_init_105 rfl ?_
  refine g_callIN (y := I_X0_init_44) (y' := I_X5_init) (As := []) (host := "OrchardBook") ⟨by decide +kernel, gm 68 (by decide +kernel) rfl, gm 39 (by decide +kernel) rfl, mh_5.1, mh_5.2, by decide +kernel⟩ rfl (gm 67 (by decide +kernel) rfl) rfl ⟨Nat.le_of_ble_eq_true rfl, Nat.le_of_ble_eq_true rfl⟩ rfl rfl rfl (Nat.le_of_ble_eq_true rfl) ⟨Nat.le_of_ble_eq_true rfl, Nat.le_of_ble_eq_true rfl⟩ (by decide) rfl dX0_init_106 (c_X5_init l w 59 60 _ _ (show kd 59 = _ from rfl) (by decide) (show kd 60 = _ from rfl) (fun _ => rfl)) ?_
  refine g_lit (n' := 61) (k' := 16) (z' := 518) rfl rfl rfl ?_
  refine g_aast (y := I_X0_init_44) (tt := 0) (show kd 45 = _ from rfl) (by decide) (show kd 59 = _ from rfl) (by decide) rfl rfl (by decide) dX0_init_109 ?_
  refine g_iinc (y := I_X0_init_44) 0 (v := 5) (ls' := [(1, .int (5 : Int32)), (0, .ref (w.2.1 + 44))]) dX0_init_110 rfl (by decide) (by decide) rfl ?_
  refine g_goto (y := I_X0_init_44) 91 dX0_init_113 (by decide) ?_
  refine g_iload_n (y := I_X0_init_44) 0 dX0_init_91 rfl rfl ?_
  refine g_bipush (y := I_X0_init_44) (v := 6) dX0_init_92 (by decide) ?_
  refine g_icmp_ge (y := I_X0_init_44) 116 dX0_init_94 (by decide) (fun h => absurd h (by decide)) (fun _ => ?_)
  refine g_aload_n (y := I_X0_init_44) 1 dX0_init_97 rfl rfl ?_
  refine g_get (y := I_X0_init_44) (v := .ref (w.2.1 + 45)) fj_0_11 (show kd 44 = _ from rfl) (b := true) rfl (by decide) rfl dX0_init_98 ?_
  refine g_iload_n (y := I_X0_init_44) 0 dX0_init_101 rfl rfl ?_
  refine g_new (y := I_X0_init_44) nw_0_9 (show kd 61 = _ from rfl) (fun _ => rfl) (fun _ => rfl) (Nat.le_of_ble_eq_true rfl) (Nat.le_of_ble_eq_true rfl) dX0_init_102 ?_
  refine g_lit (n' := 62) (k' := 17) (z' := 526) rfl rfl rfl ?_
  refine g_dup (y := I_X0_init_44) dX0_init_105 rfl ?_
  refine g_callIN (y := I_X0_init_44) (y' := I_X5_init) (As := []) (host := "OrchardBook") ⟨by decide +kernel, gm 68 (by decide +kernel) rfl, gm 39 (by decide +kernel) rfl, mh_5.1, mh_5.2, by decide +kernel⟩ rfl (gm 67 (by decide +kernel) rfl) rfl ⟨Nat.le_of_ble_eq_true rfl, Nat.le_of_ble_eq_true rfl⟩ rfl rfl rfl (Nat.le_of_ble_eq_true rfl) ⟨Nat.le_of_ble_eq_true rfl, Nat.le_of_ble_eq_true rfl⟩ (by decide) rfl dX0_init_106 (c_X5_init l w 61 62 _ _ (show kd 61 = _ from rfl) (by decide) (show kd 62 = _ from rfl) (fun _ => rfl)) ?_
  refine g_lit (n' := 63) (k' := 18) (z' := 586) rfl rfl rfl ?_
  refine g_aast (y := I_X0_init_44) (tt := 0) (show kd 45 = _ from rfl) (by decide) (show kd 61 = _ from rfl) (by decide) rfl rfl (by decide) dX0_init_109 ?_
  refine g_iinc (y := I_X0_init_44) 0 (v := 6) (ls' := [(1, .int (6 : Int32)), (0, .ref (w.2.1 + 44))]) dX0_init_110 rfl (by decide) (by decide) rfl ?_
  refine g_goto (y := I_X0_init_44) 91 dX0_init_113 (by decide) ?_
  refine g_iload_n (y := I_X0_init_44) 0 dX0_init_91 rfl rfl ?_
  refine g_bipush (y := I_X0_init_44) (v := 6) dX0_init_92 (by decide) ?_
  refine g_icmp_ge (y := I_X0_init_44) 116 dX0_init_94 (by decide) (fun _ => ?_) (fun h => absurd (by decide) h)
  refine g_iconst (y := I_X0_init_44) (v := 0) dX0_init_116 (by decide) ?_
  refine g_istore_n (y := I_X0_init_44) (ls' := [(1, .int (0 : Int32)), (0, .ref (w.2.1 + 44))]) dX0_init_117 rfl (by decide) rfl ?_
  refine g_iload_n (y := I_X0_init_44) 0 dX0_init_118 rfl rfl ?_
  refine g_bipush (y := I_X0_init_44) (v := 12) dX0_init_119 (by decide) ?_
  refine g_icmp_ge (y := I_X0_init_44) 153 dX0_init_121 (by decide) (fun h => absurd h (by decide)) (fun _ => ?_)
  refine g_aload_n (y := I_X0_init_44) 1 dX0_init_124 rfl rfl ?_
  refine g_get (y := I_X0_init_44) (v := .ref (w.2.1 + 46)) fj_0_23 (show kd 44 = _ from rfl) (b := true) rfl (by decide) rfl dX0_init_125 ?_
  refine g_iload_n (y := I_X0_init_44) 0 dX0_init_128 rfl rfl ?_
  refine g_new (y := I_X0_init_44) nw_0_21 (show kd 63 = _ from rfl) (fun _ => rfl) (fun _ => rfl) (Nat.le_of_ble_eq_true rfl) (Nat.le_of_ble_eq_true rfl) dX0_init_129 ?_
  refine g_lit (n' := 64) (k' := 19) (z' := 597) rfl rfl rfl ?_
  refine g_dup (y := I_X0_init_44) dX0_init_132 rfl ?_
  refine g_callIN (y := I_X0_init_44) (y' := I_X2_init) (As := []) (host := "OrchardBook") ⟨by decide +kernel, gm 107 (by decide +kernel) rfl, gm 40 (by decide +kernel) rfl, mh_2.1, mh_2.2, by decide +kernel⟩ rfl (gm 106 (by decide +kernel) rfl) rfl ⟨Nat.le_of_ble_eq_true rfl, Nat.le_of_ble_eq_true rfl⟩ rfl rfl rfl (Nat.le_of_ble_eq_true rfl) ⟨Nat.le_of_ble_eq_true rfl, Nat.le_of_ble_eq_true rfl⟩ (by decide) rfl dX0_init_133 (c_X2_init l w 63 64 _ _ (show kd 63 = _ from rfl) (by decide) (show kd 64 = _ from rfl) (fun _ => rfl)) ?_
  refine g_lit (n' := 65) (k' := 20) (z' := 599) rfl rfl rfl ?_
  refine g_aast (y := I_X0_init_44) (tt := 1) (show kd 46 = _ from rfl) (by decide) (show kd 63 = _ from rfl) (by decide) rfl rfl (by decide) dX0_init_136 ?_
  refine g_aload_n (y := I_X0_init_44) 1 dX0_init_137 rfl rfl ?_
  refine g_get (y := I_X0_init_44) (v := .ref (w.2.1 + 46)) fj_0_23 (show kd 44 = _ from rfl) (b := true) rfl (by decide) rfl dX0_init_138 ?_
  refine g_iload_n (y := I_X0_init_44) 0 dX0_init_141 rfl rfl ?_
  refine g_aald (y := I_X0_init_44) (j := 63) (tt := 1) (show kd 46 = _ from rfl) (by decide) (by decide) rfl rfl dX0_init_142 ?_
  refine g_iload_n (y := I_X0_init_44) 0 dX0_init_143 rfl rfl ?_
  refine g_putI (y := I_X0_init_44) fi_0_61 (show kd 63 = _ from rfl) rfl (by decide) rfl rfl dX0_init_144 ?_
  refine g_iinc (y := I_X0_init_44) 0 (v := 1) (ls' := [(1, .int (1 : Int32)), (0, .ref (w.2.1 + 44))]) dX0_init_147 rfl (by decide) (by decide) rfl ?_
  refine g_goto (y := I_X0_init_44) 118 dX0_init_150 (by decide) ?_
  refine g_iload_n (y := I_X0_init_44) 0 dX0_init_118 rfl rfl ?_
  refine g_bipush (y := I_X0_init_44) (v := 12) dX0_init_119 (by decide) ?_
  refine g_icmp_ge (y := I_X0_init_44) 153 dX0_init_121 (by decide) (fun h => absurd h (by decide)) (fun _ => ?_)
  refine g_aload_n (y := I_X0_init_44) 1 dX0_init_124 rfl rfl ?_
  refine g_get (y := I_X0_init_44) (v := .ref (w.2.1 + 46)) fj_0_23 (show kd 44 = _ from rfl) (b := true) rfl (by decide) rfl dX0_init_125 ?_
  refine g_iload_n (y := I_X0_init_44) 0 dX0_init_128 rfl rfl ?_
  refine g_new (y := I_X0_init_44) nw_0_21 (show kd 65 = _ from rfl) (fun _ => rfl) (fun _ => rfl) (Nat.le_of_ble_eq_true rfl) (Nat.le_of_ble_eq_true rfl) dX0_init_129 ?_
  refine g_lit (n' := 66) (k' := 21) (z' := 610) rfl rfl rfl ?_
  refine g_dup (y := I_X0_init_44) dX0_init_132 rfl ?_
  refine g_callIN (y := I_X0_init_44) (y' := I_X2_init) (As := []) (host := "OrchardBook") ⟨by decide +kernel, gm 107 (by decide +kernel) rfl, gm 40 (by decide +kernel) rfl, mh_2.1, mh_2.2, by decide +kernel⟩ rfl (gm 106 (by decide +kernel) rfl) rfl ⟨Nat.le_of_ble_eq_true rfl, Nat.le_of_ble_eq_true rfl⟩ rfl rfl rfl (Nat.le_of_ble_eq_true rfl) ⟨Nat.le_of_ble_eq_true rfl, Nat.le_of_ble_eq_true rfl⟩ (by decide) rfl dX0_init_133 (c_X2_init l w 65 66 _ _ (show kd 65 = _ from rfl) (by decide) (show kd 66 = _ from rfl) (fun _ => rfl)) ?_
  refine g_lit (n' := 67) (k' := 22) (z' := 612) rfl rfl rfl ?_
  refine g_aast (y := I_X0_init_44) (tt := 1) (show kd 46 = _ from rfl) (by decide) (show kd 65 = _ from rfl) (by decide) rfl rfl (by decide) dX0_init_136 ?_
  refine g_aload_n (y := I_X0_init_44) 1 dX0_init_137 rfl rfl ?_
  refine g_get (y := I_X0_init_44) (v := .ref (w.2.1 + 46)) fj_0_23 (show kd 44 = _ from rfl) (b := true) rfl (by decide) rfl dX0_init_138 ?_
  refine g_iload_n (y := I_X0_init_44) 0 dX0_init_141 rfl rfl ?_
  refine g_aald (y := I_X0_init_44) (j := 65) (tt := 1) (show kd 46 = _ from rfl) (by decide) (by decide) rfl rfl dX0_init_142 ?_
  refine g_iload_n (y := I_X0_init_44) 0 dX0_init_143 rfl rfl ?_
  refine g_putI (y := I_X0_init_44) fi_0_61 (show kd 65 = _ from rfl) rfl (by decide) rfl rfl dX0_init_144 ?_
  refine g_iinc (y := I_X0_init_44) 0 (v := 2) (ls' := [(1, .int (2 : Int32)), (0, .ref (w.2.1 + 44))]) dX0_init_147 rfl (by decide) (by decide) rfl ?_
  refine g_goto (y := I_X0_init_44) 118 dX0_init_150 (by decide) ?_
  refine g_iload_n (y := I_X0_init_44) 0 dX0_init_118 rfl rfl ?_
  refine g_bipush (y := I_X0_init_44) (v := 12) dX0_init_119 (by decide) ?_
  refine g_icmp_ge (y := I_X0_init_44) 153 dX0_init_121 (by decide) (fun h => absurd h (by decide)) (fun _ => ?_)
  refine g_aload_n (y := I_X0_init_44) 1 dX0_init_124 rfl rfl ?_
  refine g_get (y := I_X0_init_44) (v := .ref (w.2.1 + 46)) fj_0_23 (show kd 44 = _ from rfl) (b := true) rfl (by decide) rfl dX0_init_125 ?_
  refine g_iload_n (y := I_X0_init_44) 0 dX0_init_128 rfl rfl ?_
  refine g_new (y := I_X0_init_44) nw_0_21 (show kd 67 = _ from rfl) (fun _ => rfl) (fun _ => rfl) (Nat.le_of_ble_eq_true rfl) (Nat.le_of_ble_eq_true rfl) dX0_init_129 ?_
  refine g_lit (n' := 68) (k' := 23) (z' := 623) rfl rfl rfl ?_
  refine g_dup (y := I_X0_init_44) dX0_init_132 rfl ?_
  refine g_callIN (y := I_X0_init_44) (y' := I_X2_init) (As := []) (host := "OrchardBook") ⟨by decide +kernel, gm 107 (by decide +kernel) rfl, gm 40 (by decide +kernel) rfl, mh_2.1, mh_2.2, by decide +kernel⟩ rfl (gm 106 (by decide +kernel) rfl) rfl ⟨Nat.le_of_ble_eq_true rfl, Nat.le_of_ble_eq_true rfl⟩ rfl rfl rfl (Nat.le_of_ble_eq_true rfl) ⟨Nat.le_of_ble_eq_true rfl, Nat.le_of_ble_eq_true rfl⟩ (by decide) rfl dX0_init_133 (c_X2_init l w 67 68 _ _ (show kd 67 = _ from rfl) (by decide) (show kd 68 = _ from rfl) (fun _ => rfl)) ?_
  refine g_lit (n' := 69) (k' := 24) (z' := 625) rfl rfl rfl ?_
  refine g_aast (y := I_X0_init_44) (tt := 1) (show kd 46 = _ from rfl) (by decide) (show kd 67 = _ from rfl) (by decide) rfl rfl (by decide) dX0_init_136 ?_
  refine g_aload_n (y := I_X0_init_44) 1 dX0_init_137 rfl rfl ?_
  refine g_get (y := I_X0_init_44) (v := .ref (w.2.1 + 46)) fj_0_23 (show kd 44 = _ from rfl) (b := true) rfl (by decide) rfl dX0_init_138 ?_
  refine g_iload_n (y := I_X0_init_44) 0 dX0_init_141 rfl rfl ?_
  refine g_aald (y := I_X0_init_44) (j := 67) (tt := 1) (show kd 46 = _ from rfl) (by decide) (by decide) rfl rfl dX0_init_142 ?_
  refine g_iload_n (y := I_X0_init_44) 0 dX0_init_143 rfl rfl ?_
  refine g_putI (y := I_X0_init_44) fi_0_61 (show kd 67 = _ from rfl) rfl (by decide) rfl rfl dX0_init_144 ?_
  refine g_iinc (y := I_X0_init_44) 0 (v := 3) (ls' := [(1, .int (3 : Int32)), (0, .ref (w.2.1 + 44))]) dX0_init_147 rfl (by decide) (by decide) rfl ?_
  refine g_goto (y := I_X0_init_44) 118 dX0_init_150 (by decide) ?_
  refine g_iload_n (y := I_X0_init_44) 0 dX0_init_118 rfl rfl ?_
  refine g_bipush (y := I_X0_init_44) (v := 12) dX0_init_119 (by decide) ?_
  refine g_icmp_ge (y := I_X0_init_44) 153 dX0_init_121 (by decide) (fun h => absurd h (by decide)) (fun _ => ?_)
  refine g_aload_n (y := I_X0_init_44) 1 dX0_init_124 rfl rfl ?_
  refine g_get (y := I_X0_init_44) (v := .ref (w.2.1 + 46)) fj_0_23 (show kd 44 = _ from rfl) (b := true) rfl (by decide) rfl dX0_init_125 ?_
  refine g_iload_n (y := I_X0_init_44) 0 dX0_init_128 rfl rfl ?_
  refine g_new (y := I_X0_init_44) nw_0_21 (show kd 69 = _ from rfl) (fun _ => rfl) (fun _ => rfl) (Nat.le_of_ble_eq_true rfl) (Nat.le_of_ble_eq_true rfl) dX0_init_129 ?_
  refine g_lit (n' := 70) (k' := 25) (z' := 636) rfl rfl rfl ?_
  refine g_dup (y := I_X0_init_44) dX0_init_132 rfl ?_
  refine g_callIN (y := I_X0_init_44) (y' := I_X2_init) (As := []) (host := "OrchardBook") ⟨by decide +kernel, gm 107 (by decide +kernel) rfl, gm 40 (by decide +kernel) rfl, mh_2.1, mh_2.2, by decide +kernel⟩ rfl (gm 106 (by decide +kernel) rfl) rfl ⟨Nat.le_of_ble_eq_true rfl, Nat.le_of_ble_eq_true rfl⟩ rfl rfl rfl (Nat.le_of_ble_eq_true rfl) ⟨Nat.le_of_ble_eq_true rfl, Nat.le_of_ble_eq_true rfl⟩ (by decide) rfl dX0_init_133 (c_X2_init l w 69 70 _ _ (show kd 69 = _ from rfl) (by decide) (show kd 70 = _ from rfl) (fun _ => rfl)) ?_
  refine g_lit (n' := 71) (k' := 26) (z' := 638) rfl rfl rfl ?_
  refine g_aast (y := I_X0_init_44) (tt := 1) (show kd 46 = _ from rfl) (by decide) (show kd 69 = _ from rfl) (by decide) rfl rfl (by decide) dX0_init_136 ?_
  refine g_aload_n (y := I_X0_init_44) 1 dX0_init_137 rfl rfl ?_
  refine g_get (y := I_X0_init_44) (v := .ref (w.2.1 + 46)) fj_0_23 (show kd 44 = _ from rfl) (b := true) rfl (by decide) rfl dX0_init_138 ?_
  refine g_iload_n (y := I_X0_init_44) 0 dX0_init_141 rfl rfl ?_
  refine g_aald (y := I_X0_init_44) (j := 69) (tt := 1) (show kd 46 = _ from rfl) (by decide) (by decide) rfl rfl dX0_init_142 ?_
  refine g_iload_n (y := I_X0_init_44) 0 dX0_init_143 rfl rfl ?_
  refine g_putI (y := I_X0_init_44) fi_0_61 (show kd 69 = _ from rfl) rfl (by decide) rfl rfl dX0_init_144 ?_
  refine g_iinc (y := I_X0_init_44) 0 (v := 4) (ls' := [(1, .int (4 : Int32)), (0, .ref (w.2.1 + 44))]) dX0_init_147 rfl (by decide) (by decide) rfl ?_
  refine g_goto (y := I_X0_init_44) 118 dX0_init_150 (by decide) ?_
  refine g_iload_n (y := I_X0_init_44) 0 dX0_init_118 rfl rfl ?_
  refine g_bipush (y := I_X0_init_44) (v := 12) dX0_init_119 (by decide) ?_
  refine g_icmp_ge (y := I_X0_init_44) 153 dX0_init_121 (by decide) (fun h => absurd h (by decide)) (fun _ => ?_)
  refine g_aload_n (y := I_X0_init_44) 1 dX0_init_124 rfl rfl ?_
  refine g_get (y := I_X0_init_44) (v := .ref (w.2.1 + 46)) fj_0_23 (show kd 44 = _ from rfl) (b := true) rfl (by decide) rfl dX0_init_125 ?_
  refine g_iload_n (y := I_X0_init_44) 0 dX0_init_128 rfl rfl ?_
  refine g_new (y := I_X0_init_44) nw_0_21 (show kd 71 = _ from rfl) (fun _ => rfl) (fun _ => rfl) (Nat.le_of_ble_eq_true rfl) (Nat.le_of_ble_eq_true rfl) dX0_init_129 ?_
  refine g_lit (n' := 72) (k' := 27) (z' := 649) rfl rfl rfl ?_
  refine g_dup (y := I_X0_init_44) dX0_init_132 rfl ?_
  refine g_callIN (y := I_X0_init_44) (y' := I_X2_init) (As := []) (host := "OrchardBook") ⟨by decide +kernel, gm 107 (by decide +kernel) rfl, gm 40 (by decide +kernel) rfl, mh_2.1, mh_2.2, by decide +kernel⟩ rfl (gm 106 (by decide +kernel) rfl) rfl ⟨Nat.le_of_ble_eq_true rfl, Nat.le_of_ble_eq_true rfl⟩ rfl rfl rfl (Nat.le_of_ble_eq_true rfl) ⟨Nat.le_of_ble_eq_true rfl, Nat.le_of_ble_eq_true rfl⟩ (by decide) rfl dX0_init_133 (c_X2_init l w 71 72 _ _ (show kd 71 = _ from rfl) (by decide) (show kd 72 = _ from rfl) (fun _ => rfl)) ?_
  refine g_lit (n' := 73) (k' := 28) (z' := 651) rfl rfl rfl ?_
  refine g_aast (y := I_X0_init_44) (tt := 1) (show kd 46 = _ from rfl) (by decide) (show kd 71 = _ from rfl) (by decide) rfl rfl (by decide) dX0_init_136 ?_
  refine g_aload_n (y := I_X0_init_44) 1 dX0_init_137 rfl rfl ?_
  refine g_get (y := I_X0_init_44) (v := .ref (w.2.1 + 46)) fj_0_23 (show kd 44 = _ from rfl) (b := true) rfl (by decide) rfl dX0_init_138 ?_
  refine g_iload_n (y := I_X0_init_44) 0 dX0_init_141 rfl rfl ?_
  refine g_aald (y := I_X0_init_44) (j := 71) (tt := 1) (show kd 46 = _ from rfl) (by decide) (by decide) rfl rfl dX0_init_142 ?_
  refine g_iload_n (y := I_X0_init_44) 0 dX0_init_143 rfl rfl ?_
  refine g_putI (y := I_X0_init_44) fi_0_61 (show kd 71 = _ from rfl) rfl (by decide) rfl rfl dX0_init_144 ?_
  refine g_iinc (y := I_X0_init_44) 0 (v := 5) (ls' := [(1, .int (5 : Int32)), (0, .ref (w.2.1 + 44))]) dX0_init_147 rfl (by decide) (by decide) rfl ?_
  refine g_goto (y := I_X0_init_44) 118 dX0_init_150 (by decide) ?_
  refine g_iload_n (y := I_X0_init_44) 0 dX0_init_118 rfl rfl ?_
  refine g_bipush (y := I_X0_init_44) (v := 12) dX0_init_119 (by decide) ?_
  refine g_icmp_ge (y := I_X0_init_44) 153 dX0_init_121 (by decide) (fun h => absurd h (by decide)) (fun _ => ?_)
  refine g_aload_n (y := I_X0_init_44) 1 dX0_init_124 rfl rfl ?_
  refine g_get (y := I_X0_init_44) (v := .ref (w.2.1 + 46)) fj_0_23 (show kd 44 = _ from rfl) (b := true) rfl (by decide) rfl dX0_init_125 ?_
  refine g_iload_n (y := I_X0_init_44) 0 dX0_init_128 rfl rfl ?_
  refine g_new (y := I_X0_init_44) nw_0_21 (show kd 73 = _ from rfl) (fun _ => rfl) (fun _ => rfl) (Nat.le_of_ble_eq_true rfl) (Nat.le_of_ble_eq_true rfl) dX0_init_129 ?_
  refine g_lit (n' := 74) (k' := 29) (z' := 662) rfl rfl rfl ?_
  refine g_dup (y := I_X0_init_44) dX0_init_132 rfl ?_
  refine g_callIN (y := I_X0_init_44) (y' := I_X2_init) (As := []) (host := "OrchardBook") ⟨by decide +kernel, gm 107 (by decide +kernel) rfl, gm 40 (by decide +kernel) rfl, mh_2.1, mh_2.2, by decide +kernel⟩ rfl (gm 106 (by decide +kernel) rfl) rfl ⟨Nat.le_of_ble_eq_true rfl, Nat.le_of_ble_eq_true rfl⟩ rfl rfl rfl (Nat.le_of_ble_eq_true rfl) ⟨Nat.le_of_ble_eq_true rfl, Nat.le_of_ble_eq_true rfl⟩ (by decide) rfl dX0_init_133 (c_X2_init l w 73 74 _ _ (show kd 73 = _ from rfl) (by decide) (show kd 74 = _ from rfl) (fun _ => rfl)) ?_
  refine g_lit (n' := 75) (k' := 30) (z' := 664) rfl rfl rfl ?_
  refine g_aast (y := I_X0_init_44) (tt := 1) (show kd 46 = _ from rfl) (by decide) (show kd 73 = _ from rfl) (by decide) rfl rfl (by decide) dX0_init_136 ?_
  refine g_aload_n (y := I_X0_init_44) 1 dX0_init_137 rfl rfl ?_
  refine g_get (y := I_X0_init_44) (v := .ref (w.2.1 + 46)) fj_0_23 (show kd 44 = _ from rfl) (b := true) rfl (by decide) rfl dX0_init_138 ?_
  refine g_iload_n (y := I_X0_init_44) 0 dX0_init_141 rfl rfl ?_
  refine g_aald (y := I_X0_init_44) (j := 73) (tt := 1) (show kd 46 = _ from rfl) (by decide) (by decide) rfl rfl dX0_init_142 ?_
  refine g_iload_n (y := I_X0_init_44) 0 dX0_init_143 rfl rfl ?_
  refine g_putI (y := I_X0_init_44) fi_0_61 (show kd 73 = _ from rfl) rfl (by decide) rfl rfl dX0_init_144 ?_
  refine g_iinc (y := I_X0_init_44) 0 (v := 6) (ls' := [(1, .int (6 : Int32)), (0, .ref (w.2.1 + 44))]) dX0_init_147 rfl (by decide) (by decide) rfl ?_
  refine g_goto (y := I_X0_init_44) 118 dX0_init_150 (by decide) ?_
  refine g_iload_n (y := I_X0_init_44) 0 dX0_init_118 rfl rfl ?_
  refine g_bipush (y := I_X0_init_44) (v := 12) dX0_init_119 (by decide) ?_
  refine g_icmp_ge (y := I_X0_init_44) 153 dX0_init_121 (by decide) (fun h => absurd h (by decide)) (fun _ => ?_)
  refine g_aload_n (y := I_X0_init_44) 1 dX0_init_124 rfl rfl ?_
  refine g_get (y := I_X0_init_44) (v := .ref (w.2.1 + 46)) fj_0_23 (show kd 44 = _ from rfl) (b := true) rfl (by decide) rfl dX0_init_125 ?_
  refine g_iload_n (y := I_X0_init_44) 0 dX0_init_128 rfl rfl ?_
  refine g_new (y := I_X0_init_44) nw_0_21 (show kd 75 = _ from rfl) (fun _ => rfl) (fun _ => rfl) (Nat.le_of_ble_eq_true rfl) (Nat.le_of_ble_eq_true rfl) dX0_init_129 ?_
  refine g_lit (n' := 76) (k' := 31) (z' := 675) rfl rfl rfl ?_
  refine g_dup (y := I_X0_init_44) dX0_init_132 rfl ?_
  refine g_callIN (y := I_X0_init_44) (y' := I_X2_init) (As := []) (host := "OrchardBook") ⟨by decide +kernel, gm 107 (by decide +kernel) rfl, gm 40 (by decide +kernel) rfl, mh_2.1, mh_2.2, by decide +kernel⟩ rfl (gm 106 (by decide +kernel) rfl) rfl ⟨Nat.le_of_ble_eq_true rfl, Nat.le_of_ble_eq_true rfl⟩ rfl rfl rfl (Nat.le_of_ble_eq_true rfl) ⟨Nat.le_of_ble_eq_true rfl, Nat.le_of_ble_eq_true rfl⟩ (by decide) rfl dX0_init_133 (c_X2_init l w 75 76 _ _ (show kd 75 = _ from rfl) (by decide) (show kd 76 = _ from rfl) (fun _ => rfl)) ?_
  refine g_lit (n' := 77) (k' := 32) (z' := 677) rfl rfl rfl ?_
  refine g_aast (y := I_X0_init_44) (tt := 1) (show kd 46 = _ from rfl) (by decide) (show kd 75 = _ from rfl) (by decide) rfl rfl (by decide) dX0_init_136 ?_
  refine g_aload_n (y := I_X0_init_44) 1 dX0_init_137 rfl rfl ?_
  refine g_get (y := I_X0_init_44) (v := .ref (w.2.1 + 46)) fj_0_23 (show kd 44 = _ from rfl) (b := true) rfl (by decide) rfl dX0_init_138 ?_
  refine g_iload_n (y := I_X0_init_44) 0 dX0_init_141 rfl rfl ?_
  refine g_aald (y := I_X0_init_44) (j := 75) (tt := 1) (show kd 46 = _ from rfl) (by decide) (by decide) rfl rfl dX0_init_142 ?_
  refine g_iload_n (y := I_X0_init_44) 0 dX0_init_143 rfl rfl ?_
  refine g_putI (y := I_X0_init_44) fi_0_61 (show kd 75 = _ from rfl) rfl (by decide) rfl rfl dX0_init_144 ?_
  refine g_iinc (y := I_X0_init_44) 0 (v := 7) (ls' := [(1, .int (7 : Int32)), (0, .ref (w.2.1 + 44))]) dX0_init_147 rfl (by decide) (by decide) rfl ?_
  refine g_goto (y := I_X0_init_44) 118 dX0_init_150 (by decide) ?_
  refine g_iload_n (y := I_X0_init_44) 0 dX0_init_118 rfl rfl ?_
  refine g_bipush (y := I_X0_init_44) (v := 12) dX0_init_119 (by decide) ?_
  refine g_icmp_ge (y := I_X0_init_44) 153 dX0_init_121 (by decide) (fun h => absurd h (by decide)) (fun _ => ?_)
  refine g_aload_n (y := I_X0_init_44) 1 dX0_init_124 rfl rfl ?_
  refine g_get (y := I_X0_init_44) (v := .ref (w.2.1 + 46)) fj_0_23 (show kd 44 = _ from rfl) (b := true) rfl (by decide) rfl dX0_init_125 ?_
  refine g_iload_n (y := I_X0_init_44) 0 dX0_init_128 rfl rfl ?_
  refine g_new (y := I_X0_init_44) nw_0_21 (show kd 77 = _ from rfl) (fun _ => rfl) (fun _ => rfl) (Nat.le_of_ble_eq_true rfl) (Nat.le_of_ble_eq_true rfl) dX0_init_129 ?_
  refine g_lit (n' := 78) (k' := 33) (z' := 688) rfl rfl rfl ?_
  refine g_dup (y := I_X0_init_44) dX0_init_132 rfl ?_
  refine g_callIN (y := I_X0_init_44) (y' := I_X2_init) (As := []) (host := "OrchardBook") ⟨by decide +kernel, gm 107 (by decide +kernel) rfl, gm 40 (by decide +kernel) rfl, mh_2.1, mh_2.2, by decide +kernel⟩ rfl (gm 106 (by decide +kernel) rfl) rfl ⟨Nat.le_of_ble_eq_true rfl, Nat.le_of_ble_eq_true rfl⟩ rfl rfl rfl (Nat.le_of_ble_eq_true rfl) ⟨Nat.le_of_ble_eq_true rfl, Nat.le_of_ble_eq_true rfl⟩ (by decide) rfl dX0_init_133 (c_X2_init l w 77 78 _ _ (show kd 77 = _ from rfl) (by decide) (show kd 78 = _ from rfl) (fun _ => rfl)) ?_
  refine g_lit (n' := 79) (k' := 34) (z' := 690) rfl rfl rfl ?_
  refine g_aast (y := I_X0_init_44) (tt := 1) (show kd 46 = _ from rfl) (by decide) (show kd 77 = _ from rfl) (by decide) rfl rfl (by decide) dX0_init_136 ?_
  refine g_aload_n (y := I_X0_init_44) 1 dX0_init_137 rfl rfl ?_
  refine g_get (y := I_X0_init_44) (v := .ref (w.2.1 + 46)) fj_0_23 (show kd 44 = _ from rfl) (b := true) rfl (by decide) rfl dX0_init_138 ?_
  refine g_iload_n (y := I_X0_init_44) 0 dX0_init_141 rfl rfl ?_
  refine g_aald (y := I_X0_init_44) (j := 77) (tt := 1) (show kd 46 = _ from rfl) (by decide) (by decide) rfl rfl dX0_init_142 ?_
  refine g_iload_n (y := I_X0_init_44) 0 dX0_init_143 rfl rfl ?_
  refine g_putI (y := I_X0_init_44) fi_0_61 (show kd 77 = _ from rfl) rfl (by decide) rfl rfl dX0_init_144 ?_
  refine g_iinc (y := I_X0_init_44) 0 (v := 8) (ls' := [(1, .int (8 : Int32)), (0, .ref (w.2.1 + 44))]) dX0_init_147 rfl (by decide) (by decide) rfl ?_
  refine g_goto (y := I_X0_init_44) 118 dX0_init_150 (by decide) ?_
  refine g_iload_n (y := I_X0_init_44) 0 dX0_init_118 rfl rfl ?_
  refine g_bipush (y := I_X0_init_44) (v := 12) dX0_init_119 (by decide) ?_
  refine g_icmp_ge (y := I_X0_init_44) 153 dX0_init_121 (by decide) (fun h => absurd h (by decide)) (fun _ => ?_)
  refine g_aload_n (y := I_X0_init_44) 1 dX0_init_124 rfl rfl ?_
  refine g_get (y := I_X0_init_44) (v := .ref (w.2.1 + 46)) fj_0_23 (show kd 44 = _ from rfl) (b := true) rfl (by decide) rfl dX0_init_125 ?_
  refine g_iload_n (y := I_X0_init_44) 0 dX0_init_128 rfl rfl ?_
  refine g_new (y := I_X0_init_44) nw_0_21 (show kd 79 = _ from rfl) (fun _ => rfl) (fun _ => rfl) (Nat.le_of_ble_eq_true rfl) (Nat.le_of_ble_eq_true rfl) dX0_init_129 ?_
  refine g_lit (n' := 80) (k' := 35) (z' := 701) rfl rfl rfl ?_
  refine g_dup (y := I_X0_init_44) dX0_init_132 rfl ?_
  refine g_callIN (y := I_X0_init_44) (y' := I_X2_init) (As := []) (host := "OrchardBook") ⟨by decide +kernel, gm 107 (by decide +kernel) rfl, gm 40 (by decide +kernel) rfl, mh_2.1, mh_2.2, by decide +kernel⟩ rfl (gm 106 (by decide +kernel) rfl) rfl ⟨Nat.le_of_ble_eq_true rfl, Nat.le_of_ble_eq_true rfl⟩ rfl rfl rfl (Nat.le_of_ble_eq_true rfl) ⟨Nat.le_of_ble_eq_true rfl, Nat.le_of_ble_eq_true rfl⟩ (by decide) rfl dX0_init_133 (c_X2_init l w 79 80 _ _ (show kd 79 = _ from rfl) (by decide) (show kd 80 = _ from rfl) (fun _ => rfl)) ?_
  refine g_lit (n' := 81) (k' := 36) (z' := 703) rfl rfl rfl ?_
  refine g_aast (y := I_X0_init_44) (tt := 1) (show kd 46 = _ from rfl) (by decide) (show kd 79 = _ from rfl) (by decide) rfl rfl (by decide) dX0_init_136 ?_
  refine g_aload_n (y := I_X0_init_44) 1 dX0_init_137 rfl rfl ?_
  refine g_get (y := I_X0_init_44) (v := .ref (w.2.1 + 46)) fj_0_23 (show kd 44 = _ from rfl) (b := true) rfl (by decide) rfl dX0_init_138 ?_
  refine g_iload_n (y := I_X0_init_44) 0 dX0_init_141 rfl rfl ?_
  refine g_aald (y := I_X0_init_44) (j := 79) (tt := 1) (show kd 46 = _ from rfl) (by decide) (by decide) rfl rfl dX0_init_142 ?_
  refine g_iload_n (y := I_X0_init_44) 0 dX0_init_143 rfl rfl ?_
  refine g_putI (y := I_X0_init_44) fi_0_61 (show kd 79 = _ from rfl) rfl (by decide) rfl rfl dX0_init_144 ?_
  refine g_iinc (y := I_X0_init_44) 0 (v := 9) (ls' := [(1, .int (9 : Int32)), (0, .ref (w.2.1 + 44))]) dX0_init_147 rfl (by decide) (by decide) rfl ?_
  refine g_goto (y := I_X0_init_44) 118 dX0_init_150 (by decide) ?_
  refine g_iload_n (y := I_X0_init_44) 0 dX0_init_118 rfl rfl ?_
  refine g_bipush (y := I_X0_init_44) (v := 12) dX0_init_119 (by decide) ?_
  refine g_icmp_ge (y := I_X0_init_44) 153 dX0_init_121 (by decide) (fun h => absurd h (by decide)) (fun _ => ?_)
  refine g_aload_n (y := I_X0_init_44) 1 dX0_init_124 rfl rfl ?_
  refine g_get (y := I_X0_init_44) (v := .ref (w.2.1 + 46)) fj_0_23 (show kd 44 = _ from rfl) (b := true) rfl (by decide) rfl dX0_init_125 ?_
  refine g_iload_n (y := I_X0_init_44) 0 dX0_init_128 rfl rfl ?_
  refine g_new (y := I_X0_init_44) nw_0_21 (show kd 81 = _ from rfl) (fun _ => rfl) (fun _ => rfl) (Nat.le_of_ble_eq_true rfl) (Nat.le_of_ble_eq_true rfl) dX0_init_129 ?_
  refine g_lit (n' := 82) (k' := 37) (z' := 714) rfl rfl rfl ?_
  refine g_dup (y := I_X0_init_44) dX0_init_132 rfl ?_
  refine g_callIN (y := I_X0_init_44) (y' := I_X2_init) (As := []) (host := "OrchardBook") ⟨by decide +kernel, gm 107 (by decide +kernel) rfl, gm 40 (by decide +kernel) rfl, mh_2.1, mh_2.2, by decide +kernel⟩ rfl (gm 106 (by decide +kernel) rfl) rfl ⟨Nat.le_of_ble_eq_true rfl, Nat.le_of_ble_eq_true rfl⟩ rfl rfl rfl (Nat.le_of_ble_eq_true rfl) ⟨Nat.le_of_ble_eq_true rfl, Nat.le_of_ble_eq_true rfl⟩ (by decide) rfl dX0_init_133 (c_X2_init l w 81 82 _ _ (show kd 81 = _ from rfl) (by decide) (show kd 82 = _ from rfl) (fun _ => rfl)) ?_
  refine g_lit (n' := 83) (k' := 38) (z' := 716) rfl rfl rfl ?_
  refine g_aast (y := I_X0_init_44) (tt := 1) (show kd 46 = _ from rfl) (by decide) (show kd 81 = _ from rfl) (by decide) rfl rfl (by decide) dX0_init_136 ?_
  refine g_aload_n (y := I_X0_init_44) 1 dX0_init_137 rfl rfl ?_
  refine g_get (y := I_X0_init_44) (v := .ref (w.2.1 + 46)) fj_0_23 (show kd 44 = _ from rfl) (b := true) rfl (by decide) rfl dX0_init_138 ?_
  refine g_iload_n (y := I_X0_init_44) 0 dX0_init_141 rfl rfl ?_
  refine g_aald (y := I_X0_init_44) (j := 81) (tt := 1) (show kd 46 = _ from rfl) (by decide) (by decide) rfl rfl dX0_init_142 ?_
  refine g_iload_n (y := I_X0_init_44) 0 dX0_init_143 rfl rfl ?_
  refine g_putI (y := I_X0_init_44) fi_0_61 (show kd 81 = _ from rfl) rfl (by decide) rfl rfl dX0_init_144 ?_
  refine g_iinc (y := I_X0_init_44) 0 (v := 10) (ls' := [(1, .int (10 : Int32)), (0, .ref (w.2.1 + 44))]) dX0_init_147 rfl (by decide) (by decide) rfl ?_
  refine g_goto (y := I_X0_init_44) 118 dX0_init_150 (by decide) ?_
  refine g_iload_n (y := I_X0_init_44) 0 dX0_init_118 rfl rfl ?_
  refine g_bipush (y := I_X0_init_44) (v := 12) dX0_init_119 (by decide) ?_
  refine g_icmp_ge (y := I_X0_init_44) 153 dX0_init_121 (by decide) (fun h => absurd h (by decide)) (fun _ => ?_)
  refine g_aload_n (y := I_X0_init_44) 1 dX0_init_124 rfl rfl ?_
  refine g_get (y := I_X0_init_44) (v := .ref (w.2.1 + 46)) fj_0_23 (show kd 44 = _ from rfl) (b := true) rfl (by decide) rfl dX0_init_125 ?_
  refine g_iload_n (y := I_X0_init_44) 0 dX0_init_128 rfl rfl ?_
  refine g_new (y := I_X0_init_44) nw_0_21 (show kd 83 = _ from rfl) (fun _ => rfl) (fun _ => rfl) (Nat.le_of_ble_eq_true rfl) (Nat.le_of_ble_eq_true rfl) dX0_init_129 ?_
  refine g_lit (n' := 84) (k' := 39) (z' := 727) rfl rfl rfl ?_
  refine g_dup (y := I_X0_init_44) dX0_init_132 rfl ?_
  refine g_callIN (y := I_X0_init_44) (y' := I_X2_init) (As := []) (host := "OrchardBook") ⟨by decide +kernel, gm 107 (by decide +kernel) rfl, gm 40 (by decide +kernel) rfl, mh_2.1, mh_2.2, by decide +kernel⟩ rfl (gm 106 (by decide +kernel) rfl) rfl ⟨Nat.le_of_ble_eq_true rfl, Nat.le_of_ble_eq_true rfl⟩ rfl rfl rfl (Nat.le_of_ble_eq_true rfl) ⟨Nat.le_of_ble_eq_true rfl, Nat.le_of_ble_eq_true rfl⟩ (by decide) rfl dX0_init_133 (c_X2_init l w 83 84 _ _ (show kd 83 = _ from rfl) (by decide) (show kd 84 = _ from rfl) (fun _ => rfl)) ?_
  refine g_lit (n' := 85) (k' := 40) (z' := 729) rfl rfl rfl ?_
  refine g_aast (y := I_X0_init_44) (tt := 1) (show kd 46 = _ from rfl) (by decide) (show kd 83 = _ from rfl) (by decide) rfl rfl (by decide) dX0_init_136 ?_
  refine g_aload_n (y := I_X0_init_44) 1 dX0_init_137 rfl rfl ?_
  refine g_get (y := I_X0_init_44) (v := .ref (w.2.1 + 46)) fj_0_23 (show kd 44 = _ from rfl) (b := true) rfl (by decide) rfl dX0_init_138 ?_
  refine g_iload_n (y := I_X0_init_44) 0 dX0_init_141 rfl rfl ?_
  refine g_aald (y := I_X0_init_44) (j := 83) (tt := 1) (show kd 46 = _ from rfl) (by decide) (by decide) rfl rfl dX0_init_142 ?_
  refine g_iload_n (y := I_X0_init_44) 0 dX0_init_143 rfl rfl ?_
  refine g_putI (y := I_X0_init_44) fi_0_61 (show kd 83 = _ from rfl) rfl (by decide) rfl rfl dX0_init_144 ?_
  refine g_iinc (y := I_X0_init_44) 0 (v := 11) (ls' := [(1, .int (11 : Int32)), (0, .ref (w.2.1 + 44))]) dX0_init_147 rfl (by decide) (by decide) rfl ?_
  refine g_goto (y := I_X0_init_44) 118 dX0_init_150 (by decide) ?_
  refine g_iload_n (y := I_X0_init_44) 0 dX0_init_118 rfl rfl ?_
  refine g_bipush (y := I_X0_init_44) (v := 12) dX0_init_119 (by decide) ?_
  refine g_icmp_ge (y := I_X0_init_44) 153 dX0_init_121 (by decide) (fun h => absurd h (by decide)) (fun _ => ?_)
  refine g_aload_n (y := I_X0_init_44) 1 dX0_init_124 rfl rfl ?_
  refine g_get (y := I_X0_init_44) (v := .ref (w.2.1 + 46)) fj_0_23 (show kd 44 = _ from rfl) (b := true) rfl (by decide) rfl dX0_init_125 ?_
  refine g_iload_n (y := I_X0_init_44) 0 dX0_init_128 rfl rfl ?_
  refine g_new (y := I_X0_init_44) nw_0_21 (show kd 85 = _ from rfl) (fun _ => rfl) (fun _ => rfl) (Nat.le_of_ble_eq_true rfl) (Nat.le_of_ble_eq_true rfl) dX0_init_129 ?_
  refine g_lit (n' := 86) (k' := 41) (z' := 740) rfl rfl rfl ?_
  refine g_dup (y := I_X0_init_44) dX0_init_132 rfl ?_
  refine g_callIN (y := I_X0_init_44) (y' := I_X2_init) (As := []) (host := "OrchardBook") ⟨by decide +kernel, gm 107 (by decide +kernel) rfl, gm 40 (by decide +kernel) rfl, mh_2.1, mh_2.2, by decide +kernel⟩ rfl (gm 106 (by decide +kernel) rfl) rfl ⟨Nat.le_of_ble_eq_true rfl, Nat.le_of_ble_eq_true rfl⟩ rfl rfl rfl (Nat.le_of_ble_eq_true rfl) ⟨Nat.le_of_ble_eq_true rfl, Nat.le_of_ble_eq_true rfl⟩ (by decide) rfl dX0_init_133 (c_X2_init l w 85 86 _ _ (show kd 85 = _ from rfl) (by decide) (show kd 86 = _ from rfl) (fun _ => rfl)) ?_
  refine g_lit (n' := 87) (k' := 42) (z' := 742) rfl rfl rfl ?_
  refine g_aast (y := I_X0_init_44) (tt := 1) (show kd 46 = _ from rfl) (by decide) (show kd 85 = _ from rfl) (by decide) rfl rfl (by decide) dX0_init_136 ?_
  refine g_aload_n (y := I_X0_init_44) 1 dX0_init_137 rfl rfl ?_
  refine g_get (y := I_X0_init_44) (v := .ref (w.2.1 + 46)) fj_0_23 (show kd 44 = _ from rfl) (b := true) rfl (by decide) rfl dX0_init_138 ?_
  refine g_iload_n (y := I_X0_init_44) 0 dX0_init_141 rfl rfl ?_
  refine g_aald (y := I_X0_init_44) (j := 85) (tt := 1) (show kd 46 = _ from rfl) (by decide) (by decide) rfl rfl dX0_init_142 ?_
  refine g_iload_n (y := I_X0_init_44) 0 dX0_init_143 rfl rfl ?_
  refine g_putI (y := I_X0_init_44) fi_0_61 (show kd 85 = _ from rfl) rfl (by decide) rfl rfl dX0_init_144 ?_
  refine g_iinc (y := I_X0_init_44) 0 (v := 12) (ls' := [(1, .int (12 : Int32)), (0, .ref (w.2.1 + 44))]) dX0_init_147 rfl (by decide) (by decide) rfl ?_
  refine g_goto (y := I_X0_init_44) 118 dX0_init_150 (by decide) ?_
  refine g_iload_n (y := I_X0_init_44) 0 dX0_init_118 rfl rfl ?_
  refine g_bipush (y := I_X0_init_44) (v := 12) dX0_init_119 (by decide) ?_
  refine g_icmp_ge (y := I_X0_init_44) 153 dX0_init_121 (by decide) (fun _ => ?_) (fun h => absurd (by decide) h)
  exact g_vret (y := I_X0_init_44) rfl dX0_init_153
theorem dX3_init_0 : decode cX3_init 0 = .ok (.aload_n 0, 1) := by decide +kernel
theorem dX3_init_1 : decode cX3_init 1 = .ok (.invokespecial 3, 3) := by decide +kernel
theorem dX3_init_4 : decode cX3_init 4 = .ok (.aload_n 0, 1) := by decide +kernel
theorem dX3_init_5 : decode cX3_init 5 = .ok (.bipush 50, 2) := by decide +kernel
theorem dX3_init_7 : decode cX3_init 7 = .ok (.newarray .int, 2) := by decide +kernel
theorem dX3_init_9 : decode cX3_init 9 = .ok (.putfield 9, 3) := by decide +kernel
theorem dX3_init_12 : decode cX3_init 12 = .ok (.aload_n 0, 1) := by decide +kernel
theorem dX3_init_13 : decode cX3_init 13 = .ok (.bipush 51, 2) := by decide +kernel
theorem dX3_init_15 : decode cX3_init 15 = .ok (.newarray .int, 2) := by decide +kernel
theorem dX3_init_17 : decode cX3_init 17 = .ok (.putfield 15, 3) := by decide +kernel
theorem dX3_init_20 : decode cX3_init 20 = .ok (.aload_n 0, 1) := by decide +kernel
theorem dX3_init_21 : decode cX3_init 21 = .ok (.bipush 6, 2) := by decide +kernel
theorem dX3_init_23 : decode cX3_init 23 = .ok (.newarray .int, 2) := by decide +kernel
theorem dX3_init_25 : decode cX3_init 25 = .ok (.putfield 18, 3) := by decide +kernel
theorem dX3_init_28 : decode cX3_init 28 = .ok (.aload_n 0, 1) := by decide +kernel
theorem dX3_init_29 : decode cX3_init 29 = .ok (.bipush 6, 2) := by decide +kernel
theorem dX3_init_31 : decode cX3_init 31 = .ok (.newarray .int, 2) := by decide +kernel
theorem dX3_init_33 : decode cX3_init 33 = .ok (.putfield 21, 3) := by decide +kernel
theorem dX3_init_36 : decode cX3_init 36 = .ok (.return_, 1) := by decide +kernel
theorem fi_3_9 : FP RX3 9 3 0 true (.array .int) := ⟨_, _, _, tyX3, rfl, iX3, by decide, gm 245 (by decide +kernel) rfl, tyX3_ok, nmX3, rfl, (fun h => rfl), rfl⟩
theorem fi_3_15 : FP RX3 15 3 1 true (.array .int) := ⟨_, _, _, tyX3, rfl, iX3, by decide, gm 247 (by decide +kernel) rfl, tyX3_ok, nmX3, rfl, (fun h => rfl), rfl⟩
theorem fi_3_18 : FP RX3 18 3 2 true (.array .int) := ⟨_, _, _, tyX3, rfl, iX3, by decide, gm 249 (by decide +kernel) rfl, tyX3_ok, nmX3, rfl, (fun h => rfl), rfl⟩
theorem fi_3_21 : FP RX3 21 3 3 true (.array .int) := ⟨_, _, _, tyX3, rfl, iX3, by decide, gm 251 (by decide +kernel) rfl, tyX3_ok, nmX3, rfl, (fun h => rfl), rfl⟩
abbrev I_X3_init_96 : MI := (yX3_init, cX3_init, 1, none, { frames := 1, cells := 4, slots := 113, locals := 20 })
def r_X3_init_96 : Rf := (up2 (up2 (up2 (up2 (up2 (up2 (up2 (up2 (up2 (up2 (up2 (up2 (up2 (up2 r_X0_init_44 0 1 (some 44)) 0 3 (some 87)) 88 2 (some 89)) 87 (ix (0 : Int32)) (some 88)) 90 2 (some 91)) 87 (ix (1 : Int32)) (some 90)) 92 2 (some 93)) 87 (ix (2 : Int32)) (some 92)) 94 2 (some 95)) 87 (ix (3 : Int32)) (some 94)) 96 0 (some 97)) 96 1 (some 98)) 96 2 (some 99)) 96 3 (some 100))
def s_X3_init_96 : St := (wr s_X0_init_44 0 2 (0 : Int32))
set_option maxRecDepth 100000 in
set_option maxHeartbeats 4000000 in
theorem c_X3_init_96 (l : Launch) (w : Wd) : Ct l w I_X3_init_96 [.ref (w.2.1 + 96)] 97 (up2 (up2 (up2 (up2 (up2 (up2 (up2 (up2 (up2 (up2 r_X0_init_44 0 1 (some 44)) 0 3 (some 87)) 88 2 (some 89)) 87 (ix (0 : Int32)) (some 88)) 90 2 (some 91)) 87 (ix (1 : Int32)) (some 90)) 92 2 (some 93)) 87 (ix (2 : Int32)) (some 92)) 94 2 (some 95)) 87 (ix (3 : Int32)) (some 94)) (wr s_X0_init_44 0 2 (0 : Int32)) (101, r_X3_init_96, s_X3_init_96, 4, 113) none := by
  refine Ct.of (Nat.le_of_ble_eq_true rfl) pn_3 ?_
  refine g_aload_n (y := I_X3_init_96) 0 dX3_init_0 rfl rfl ?_
  refine g_objInit (y := I_X3_init_96) (gm 244 (by decide +kernel) rfl) oi_i oi_c (Nat.le_of_ble_eq_true rfl) (Nat.le_of_ble_eq_true rfl) dX3_init_1 ?_
  refine g_aload_n (y := I_X3_init_96) 0 dX3_init_4 rfl rfl ?_
  refine g_bipush (y := I_X3_init_96) (v := 50) dX3_init_5 (by decide) ?_
  refine g_newI (y := I_X3_init_96) ac_int (show kd 97 = _ from rfl) (fun _ => rfl) (by decide) (by decide) (by decide) (Nat.le_of_ble_eq_true rfl) (Nat.le_of_ble_eq_true rfl) dX3_init_7 ?_
  refine g_lit (n' := 98) (k' := 1) (z' := 50) rfl rfl rfl ?_
  refine g_putR (y := I_X3_init_96) fi_3_9 rfl (show kd 96 = _ from rfl) rfl (by decide) rfl rfl dX3_init_9 ?_
  refine g_aload_n (y := I_X3_init_96) 0 dX3_init_12 rfl rfl ?_
  refine g_bipush (y := I_X3_init_96) (v := 51) dX3_init_13 (by decide) ?_
  refine g_newI (y := I_X3_init_96) ac_int (show kd 98 = _ from rfl) (fun _ => rfl) (by decide) (by decide) (by decide) (Nat.le_of_ble_eq_true rfl) (Nat.le_of_ble_eq_true rfl) dX3_init_15 ?_
  refine g_lit (n' := 99) (k' := 2) (z' := 101) rfl rfl rfl ?_
  refine g_putR (y := I_X3_init_96) fi_3_15 rfl (show kd 96 = _ from rfl) rfl (by decide) rfl rfl dX3_init_17 ?_
  refine g_aload_n (y := I_X3_init_96) 0 dX3_init_20 rfl rfl ?_
  refine g_bipush (y := I_X3_init_96) (v := 6) dX3_init_21 (by decide) ?_
  refine g_newI (y := I_X3_init_96) ac_int (show kd 99 = _ from rfl) (fun _ => rfl) (by decide) (by decide) (by decide) (Nat.le_of_ble_eq_true rfl) (Nat.le_of_ble_eq_true rfl) dX3_init_23 ?_
  refine g_lit (n' := 100) (k' := 3) (z' := 107) rfl rfl rfl ?_
  refine g_putR (y := I_X3_init_96) fi_3_18 rfl (show kd 96 = _ from rfl) rfl (by decide) rfl rfl dX3_init_25 ?_
  refine g_aload_n (y := I_X3_init_96) 0 dX3_init_28 rfl rfl ?_
  refine g_bipush (y := I_X3_init_96) (v := 6) dX3_init_29 (by decide) ?_
  refine g_newI (y := I_X3_init_96) ac_int (show kd 100 = _ from rfl) (fun _ => rfl) (by decide) (by decide) (by decide) (Nat.le_of_ble_eq_true rfl) (Nat.le_of_ble_eq_true rfl) dX3_init_31 ?_
  refine g_lit (n' := 101) (k' := 4) (z' := 113) rfl rfl rfl ?_
  refine g_putR (y := I_X3_init_96) fi_3_21 rfl (show kd 96 = _ from rfl) rfl (by decide) rfl rfl dX3_init_33 ?_
  exact g_vret (y := I_X3_init_96) rfl dX3_init_36
theorem dX1_init_0 : decode cX1_init 0 = .ok (.aload_n 0, 1) := by decide +kernel
theorem dX1_init_1 : decode cX1_init 1 = .ok (.invokespecial 3, 3) := by decide +kernel
theorem dX1_init_4 : decode cX1_init 4 = .ok (.aload_n 0, 1) := by decide +kernel
theorem dX1_init_5 : decode cX1_init 5 = .ok (.bipush 12, 2) := by decide +kernel
theorem dX1_init_7 : decode cX1_init 7 = .ok (.newarray .int, 2) := by decide +kernel
theorem dX1_init_9 : decode cX1_init 9 = .ok (.putfield 9, 3) := by decide +kernel
theorem dX1_init_12 : decode cX1_init 12 = .ok (.aload_n 0, 1) := by decide +kernel
theorem dX1_init_13 : decode cX1_init 13 = .ok (.bipush 12, 2) := by decide +kernel
theorem dX1_init_15 : decode cX1_init 15 = .ok (.newarray .int, 2) := by decide +kernel
theorem dX1_init_17 : decode cX1_init 17 = .ok (.putfield 15, 3) := by decide +kernel
theorem dX1_init_20 : decode cX1_init 20 = .ok (.aload_n 0, 1) := by decide +kernel
theorem dX1_init_21 : decode cX1_init 21 = .ok (.bipush 12, 2) := by decide +kernel
theorem dX1_init_23 : decode cX1_init 23 = .ok (.newarray .int, 2) := by decide +kernel
theorem dX1_init_25 : decode cX1_init 25 = .ok (.putfield 18, 3) := by decide +kernel
theorem dX1_init_28 : decode cX1_init 28 = .ok (.aload_n 0, 1) := by decide +kernel
theorem dX1_init_29 : decode cX1_init 29 = .ok (.bipush 12, 2) := by decide +kernel
theorem dX1_init_31 : decode cX1_init 31 = .ok (.newarray .int, 2) := by decide +kernel
theorem dX1_init_33 : decode cX1_init 33 = .ok (.putfield 21, 3) := by decide +kernel
theorem dX1_init_36 : decode cX1_init 36 = .ok (.aload_n 0, 1) := by decide +kernel
theorem dX1_init_37 : decode cX1_init 37 = .ok (.bipush 13, 2) := by decide +kernel
theorem dX1_init_39 : decode cX1_init 39 = .ok (.newarray .int, 2) := by decide +kernel
theorem dX1_init_41 : decode cX1_init 41 = .ok (.putfield 24, 3) := by decide +kernel
theorem dX1_init_44 : decode cX1_init 44 = .ok (.aload_n 0, 1) := by decide +kernel
theorem dX1_init_45 : decode cX1_init 45 = .ok (.bipush 36, 2) := by decide +kernel
theorem dX1_init_47 : decode cX1_init 47 = .ok (.newarray .int, 2) := by decide +kernel
theorem dX1_init_49 : decode cX1_init 49 = .ok (.putfield 27, 3) := by decide +kernel
theorem dX1_init_52 : decode cX1_init 52 = .ok (.return_, 1) := by decide +kernel
theorem fi_1_9 : FP RX1 9 1 4 true (.array .int) := ⟨_, _, _, tyX1, rfl, iX1, by decide, gm 274 (by decide +kernel) rfl, tyX1_ok, nmX1, rfl, (fun h => rfl), rfl⟩
theorem fi_1_15 : FP RX1 15 1 5 true (.array .int) := ⟨_, _, _, tyX1, rfl, iX1, by decide, gm 275 (by decide +kernel) rfl, tyX1_ok, nmX1, rfl, (fun h => rfl), rfl⟩
theorem fi_1_18 : FP RX1 18 1 6 true (.array .int) := ⟨_, _, _, tyX1, rfl, iX1, by decide, gm 276 (by decide +kernel) rfl, tyX1_ok, nmX1, rfl, (fun h => rfl), rfl⟩
theorem fi_1_21 : FP RX1 21 1 7 true (.array .int) := ⟨_, _, _, tyX1, rfl, iX1, by decide, gm 278 (by decide +kernel) rfl, tyX1_ok, nmX1, rfl, (fun h => rfl), rfl⟩
theorem fi_1_24 : FP RX1 24 1 8 true (.array .int) := ⟨_, _, _, tyX1, rfl, iX1, by decide, gm 279 (by decide +kernel) rfl, tyX1_ok, nmX1, rfl, (fun h => rfl), rfl⟩
theorem fi_1_27 : FP RX1 27 1 9 true (.array .int) := ⟨_, _, _, tyX1, rfl, iX1, by decide, gm 280 (by decide +kernel) rfl, tyX1_ok, nmX1, rfl, (fun h => rfl), rfl⟩
abbrev I_X1_init_101 : MI := (yX1_init, cX1_init, 1, none, { frames := 1, cells := 6, slots := 97, locals := 20 })
def r_X1_init_101 : Rf := (up2 (up2 (up2 (up2 (up2 (up2 (up2 r_X3_init_96 0 4 (some 96)) 101 4 (some 102)) 101 5 (some 103)) 101 6 (some 104)) 101 7 (some 105)) 101 8 (some 106)) 101 9 (some 107))
def s_X1_init_101 : St := s_X3_init_96
set_option maxRecDepth 100000 in
set_option maxHeartbeats 4000000 in
theorem c_X1_init_101 (l : Launch) (w : Wd) : Ct l w I_X1_init_101 [.ref (w.2.1 + 101)] 102 (up2 r_X3_init_96 0 4 (some 96)) s_X3_init_96 (108, r_X1_init_101, s_X1_init_101, 6, 97) none := by
  refine Ct.of (Nat.le_of_ble_eq_true rfl) pn_1 ?_
  refine g_aload_n (y := I_X1_init_101) 0 dX1_init_0 rfl rfl ?_
  refine g_objInit (y := I_X1_init_101) (gm 266 (by decide +kernel) rfl) oi_i oi_c (Nat.le_of_ble_eq_true rfl) (Nat.le_of_ble_eq_true rfl) dX1_init_1 ?_
  refine g_aload_n (y := I_X1_init_101) 0 dX1_init_4 rfl rfl ?_
  refine g_bipush (y := I_X1_init_101) (v := 12) dX1_init_5 (by decide) ?_
  refine g_newI (y := I_X1_init_101) ac_int (show kd 102 = _ from rfl) (fun _ => rfl) (by decide) (by decide) (by decide) (Nat.le_of_ble_eq_true rfl) (Nat.le_of_ble_eq_true rfl) dX1_init_7 ?_
  refine g_lit (n' := 103) (k' := 1) (z' := 12) rfl rfl rfl ?_
  refine g_putR (y := I_X1_init_101) fi_1_9 rfl (show kd 101 = _ from rfl) rfl (by decide) rfl rfl dX1_init_9 ?_
  refine g_aload_n (y := I_X1_init_101) 0 dX1_init_12 rfl rfl ?_
  refine g_bipush (y := I_X1_init_101) (v := 12) dX1_init_13 (by decide) ?_
  refine g_newI (y := I_X1_init_101) ac_int (show kd 103 = _ from rfl) (fun _ => rfl) (by decide) (by decide) (by decide) (Nat.le_of_ble_eq_true rfl) (Nat.le_of_ble_eq_true rfl) dX1_init_15 ?_
  refine g_lit (n' := 104) (k' := 2) (z' := 24) rfl rfl rfl ?_
  refine g_putR (y := I_X1_init_101) fi_1_15 rfl (show kd 101 = _ from rfl) rfl (by decide) rfl rfl dX1_init_17 ?_
  refine g_aload_n (y := I_X1_init_101) 0 dX1_init_20 rfl rfl ?_
  refine g_bipush (y := I_X1_init_101) (v := 12) dX1_init_21 (by decide) ?_
  refine g_newI (y := I_X1_init_101) ac_int (show kd 104 = _ from rfl) (fun _ => rfl) (by decide) (by decide) (by decide) (Nat.le_of_ble_eq_true rfl) (Nat.le_of_ble_eq_true rfl) dX1_init_23 ?_
  refine g_lit (n' := 105) (k' := 3) (z' := 36) rfl rfl rfl ?_
  refine g_putR (y := I_X1_init_101) fi_1_18 rfl (show kd 101 = _ from rfl) rfl (by decide) rfl rfl dX1_init_25 ?_
  refine g_aload_n (y := I_X1_init_101) 0 dX1_init_28 rfl rfl ?_
  refine g_bipush (y := I_X1_init_101) (v := 12) dX1_init_29 (by decide) ?_
  refine g_newI (y := I_X1_init_101) ac_int (show kd 105 = _ from rfl) (fun _ => rfl) (by decide) (by decide) (by decide) (Nat.le_of_ble_eq_true rfl) (Nat.le_of_ble_eq_true rfl) dX1_init_31 ?_
  refine g_lit (n' := 106) (k' := 4) (z' := 48) rfl rfl rfl ?_
  refine g_putR (y := I_X1_init_101) fi_1_21 rfl (show kd 101 = _ from rfl) rfl (by decide) rfl rfl dX1_init_33 ?_
  refine g_aload_n (y := I_X1_init_101) 0 dX1_init_36 rfl rfl ?_
  refine g_bipush (y := I_X1_init_101) (v := 13) dX1_init_37 (by decide) ?_
  refine g_newI (y := I_X1_init_101) ac_int (show kd 106 = _ from rfl) (fun _ => rfl) (by decide) (by decide) (by decide) (Nat.le_of_ble_eq_true rfl) (Nat.le_of_ble_eq_true rfl) dX1_init_39 ?_
  refine g_lit (n' := 107) (k' := 5) (z' := 61) rfl rfl rfl ?_
  refine g_putR (y := I_X1_init_101) fi_1_24 rfl (show kd 101 = _ from rfl) rfl (by decide) rfl rfl dX1_init_41 ?_
  refine g_aload_n (y := I_X1_init_101) 0 dX1_init_44 rfl rfl ?_
  refine g_bipush (y := I_X1_init_101) (v := 36) dX1_init_45 (by decide) ?_
  refine g_newI (y := I_X1_init_101) ac_int (show kd 107 = _ from rfl) (fun _ => rfl) (by decide) (by decide) (by decide) (Nat.le_of_ble_eq_true rfl) (Nat.le_of_ble_eq_true rfl) dX1_init_47 ?_
  refine g_lit (n' := 108) (k' := 6) (z' := 97) rfl rfl rfl ?_
  refine g_putR (y := I_X1_init_101) fi_1_27 rfl (show kd 101 = _ from rfl) rfl (by decide) rfl rfl dX1_init_49 ?_
  exact g_vret (y := I_X1_init_101) rfl dX1_init_52
theorem dX6_init_0 : decode cX6_init 0 = .ok (.aload_n 0, 1) := by decide +kernel
theorem dX6_init_1 : decode cX6_init 1 = .ok (.invokespecial 1, 3) := by decide +kernel
theorem dX6_init_4 : decode cX6_init 4 = .ok (.aload_n 0, 1) := by decide +kernel
theorem dX6_init_5 : decode cX6_init 5 = .ok (.new 7, 3) := by decide +kernel
theorem dX6_init_8 : decode cX6_init 8 = .ok (.dup, 1) := by decide +kernel
theorem dX6_init_9 : decode cX6_init 9 = .ok (.invokespecial 9, 3) := by decide +kernel
theorem dX6_init_12 : decode cX6_init 12 = .ok (.putfield 10, 3) := by decide +kernel
theorem dX6_init_15 : decode cX6_init 15 = .ok (.aload_n 0, 1) := by decide +kernel
theorem dX6_init_16 : decode cX6_init 16 = .ok (.new 7, 3) := by decide +kernel
theorem dX6_init_19 : decode cX6_init 19 = .ok (.dup, 1) := by decide +kernel
theorem dX6_init_20 : decode cX6_init 20 = .ok (.invokespecial 9, 3) := by decide +kernel
theorem dX6_init_23 : decode cX6_init 23 = .ok (.putfield 16, 3) := by decide +kernel
theorem dX6_init_26 : decode cX6_init 26 = .ok (.aload_n 0, 1) := by decide +kernel
theorem dX6_init_27 : decode cX6_init 27 = .ok (.iconst 0, 1) := by decide +kernel
theorem dX6_init_28 : decode cX6_init 28 = .ok (.putfield 19, 3) := by decide +kernel
theorem dX6_init_31 : decode cX6_init 31 = .ok (.aload_n 0, 1) := by decide +kernel
theorem dX6_init_32 : decode cX6_init 32 = .ok (.iconst 4, 1) := by decide +kernel
theorem dX6_init_33 : decode cX6_init 33 = .ok (.anewarray 23, 3) := by decide +kernel
theorem dX6_init_36 : decode cX6_init 36 = .ok (.putfield 25, 3) := by decide +kernel
theorem dX6_init_39 : decode cX6_init 39 = .ok (.iconst 0, 1) := by decide +kernel
theorem dX6_init_40 : decode cX6_init 40 = .ok (.istore_n 1, 1) := by decide +kernel
theorem dX6_init_41 : decode cX6_init 41 = .ok (.iload_n 1, 1) := by decide +kernel
theorem dX6_init_42 : decode cX6_init 42 = .ok (.iconst 4, 1) := by decide +kernel
theorem dX6_init_43 : decode cX6_init 43 = .ok (.if_icmp .ge 22, 3) := by decide +kernel
theorem dX6_init_46 : decode cX6_init 46 = .ok (.aload_n 0, 1) := by decide +kernel
theorem dX6_init_47 : decode cX6_init 47 = .ok (.getfield 25, 3) := by decide +kernel
theorem dX6_init_50 : decode cX6_init 50 = .ok (.iload_n 1, 1) := by decide +kernel
theorem dX6_init_51 : decode cX6_init 51 = .ok (.new 23, 3) := by decide +kernel
theorem dX6_init_54 : decode cX6_init 54 = .ok (.dup, 1) := by decide +kernel
theorem dX6_init_55 : decode cX6_init 55 = .ok (.invokespecial 29, 3) := by decide +kernel
theorem dX6_init_58 : decode cX6_init 58 = .ok (.aastore, 1) := by decide +kernel
theorem dX6_init_59 : decode cX6_init 59 = .ok (.iinc 1 1, 3) := by decide +kernel
theorem dX6_init_62 : decode cX6_init 62 = .ok (.goto (-21), 3) := by decide +kernel
theorem dX6_init_65 : decode cX6_init 65 = .ok (.aload_n 0, 1) := by decide +kernel
theorem dX6_init_66 : decode cX6_init 66 = .ok (.new 30, 3) := by decide +kernel
theorem dX6_init_69 : decode cX6_init 69 = .ok (.dup, 1) := by decide +kernel
theorem dX6_init_70 : decode cX6_init 70 = .ok (.invokespecial 32, 3) := by decide +kernel
theorem dX6_init_73 : decode cX6_init 73 = .ok (.putfield 33, 3) := by decide +kernel
theorem dX6_init_76 : decode cX6_init 76 = .ok (.aload_n 0, 1) := by decide +kernel
theorem dX6_init_77 : decode cX6_init 77 = .ok (.new 37, 3) := by decide +kernel
theorem dX6_init_80 : decode cX6_init 80 = .ok (.dup, 1) := by decide +kernel
theorem dX6_init_81 : decode cX6_init 81 = .ok (.invokespecial 39, 3) := by decide +kernel
theorem dX6_init_84 : decode cX6_init 84 = .ok (.putfield 40, 3) := by decide +kernel
theorem dX6_init_87 : decode cX6_init 87 = .ok (.aload_n 0, 1) := by decide +kernel
theorem dX6_init_88 : decode cX6_init 88 = .ok (.iconst 0, 1) := by decide +kernel
theorem dX6_init_89 : decode cX6_init 89 = .ok (.putfield 44, 3) := by decide +kernel
theorem dX6_init_92 : decode cX6_init 92 = .ok (.return_, 1) := by decide +kernel
theorem nw_6_7 : NW RX6 7 0 13 [true, false, true, false, false, false, true, true, true, false, false, false, true] := ⟨_, _, tyX0, rfl, iX0, tyX0_ok, gm 55 (by decide +kernel) rfl, gm 56 (by decide +kernel) rfl, gm 38 (by decide +kernel) rfl, rfl, by decide +kernel⟩
theorem fi_6_10 : FP RX6 10 6 0 true (.object "OrchardBook$Book") := ⟨_, _, _, tyX6, rfl, iX6, by decide, gm 302 (by decide +kernel) rfl, tyX6_ok, nmX6, rfl, (fun h => rfl), rfl⟩
theorem fi_6_16 : FP RX6 16 6 1 true (.object "OrchardBook$Book") := ⟨_, _, _, tyX6, rfl, iX6, by decide, gm 303 (by decide +kernel) rfl, tyX6_ok, nmX6, rfl, (fun h => rfl), rfl⟩
theorem fi_6_19 : FP RX6 19 6 2 false (.boolean) := ⟨_, _, _, tyX6, rfl, iX6, by decide, gm 304 (by decide +kernel) rfl, tyX6_ok, nmX6, rfl, (fun h => by cases h), rfl⟩
theorem fi_6_25 : FP RX6 25 6 3 true (.array (.object "OrchardBook$Sheet")) := ⟨_, _, _, tyX6, rfl, iX6, by decide, gm 305 (by decide +kernel) rfl, tyX6_ok, nmX6, rfl, (fun h => rfl), rfl⟩
theorem fj_6_25 : FL RX6 25 6 3 := ⟨_, _, _, rfl, iX6, by decide, gm 305 (by decide +kernel) rfl⟩
theorem nw_6_23 : NW RX6 23 4 3 [false, false, true] := ⟨_, _, tyX4, rfl, iX4, tyX4_ok, gm 219 (by decide +kernel) rfl, gm 221 (by decide +kernel) rfl, gm 41 (by decide +kernel) rfl, rfl, by decide +kernel⟩
theorem nw_6_30 : NW RX6 30 3 4 [true, true, true, true] := ⟨_, _, tyX3, rfl, iX3, tyX3_ok, gm 239 (by decide +kernel) rfl, gm 240 (by decide +kernel) rfl, gm 42 (by decide +kernel) rfl, rfl, by decide +kernel⟩
theorem fi_6_33 : FP RX6 33 6 4 true (.object "OrchardBook$Season") := ⟨_, _, _, tyX6, rfl, iX6, by decide, gm 306 (by decide +kernel) rfl, tyX6_ok, nmX6, rfl, (fun h => rfl), rfl⟩
theorem nw_6_37 : NW RX6 37 1 10 [false, false, false, false, true, true, true, true, true, true] := ⟨_, _, tyX1, rfl, iX1, tyX1_ok, gm 261 (by decide +kernel) rfl, gm 262 (by decide +kernel) rfl, gm 43 (by decide +kernel) rfl, rfl, by decide +kernel⟩
theorem fi_6_40 : FP RX6 40 6 5 true (.object "OrchardBook$Laying") := ⟨_, _, _, tyX6, rfl, iX6, by decide, gm 307 (by decide +kernel) rfl, tyX6_ok, nmX6, rfl, (fun h => rfl), rfl⟩
theorem fi_6_44 : FP RX6 44 6 6 false (.int) := ⟨_, _, _, tyX6, rfl, iX6, by decide, gm 308 (by decide +kernel) rfl, tyX6_ok, nmX6, rfl, (fun h => by cases h), rfl⟩
abbrev I_X6_init_0 : MI := (yX6_init, cX6_init, 2, none, { frames := 3, cells := 107, slots := 1950, locals := 61 })
def r_X6_init_0 : Rf := (up2 r_X1_init_101 0 5 (some 101))
def s_X6_init_0 : St := (wr s_X1_init_101 0 6 (0 : Int32))
set_option maxRecDepth 100000 in
set_option maxHeartbeats 4000000 in
theorem c_X6_init_0 (l : Launch) (w : Wd) : Ct l w I_X6_init_0 [.ref (w.2.1 + 0)] 1 rho0 St0 (108, r_X6_init_0, s_X6_init_0, 107, 1950) none := by
  refine Ct.of (Nat.le_of_ble_eq_true rfl) pn_6 ?_
  refine g_aload_n (y := I_X6_init_0) 0 dX6_init_0 rfl rfl ?_
  refine g_objInit (y := I_X6_init_0) (gm 52 (by decide +kernel) rfl) oi_i oi_c (Nat.le_of_ble_eq_true rfl) (Nat.le_of_ble_eq_true rfl) dX6_init_1 ?_
  refine g_aload_n (y := I_X6_init_0) 0 dX6_init_4 rfl rfl ?_
  refine g_new (y := I_X6_init_0) nw_6_7 (show kd 1 = _ from rfl) (fun _ => rfl) (fun _ => rfl) (Nat.le_of_ble_eq_true rfl) (Nat.le_of_ble_eq_true rfl) dX6_init_5 ?_
  refine g_lit (n' := 2) (k' := 1) (z' := 13) rfl rfl rfl ?_
  refine g_dup (y := I_X6_init_0) dX6_init_8 rfl ?_
  refine g_callI (y := I_X6_init_0) (y' := I_X0_init_1) (As := []) ⟨⟨gm 57 (by decide +kernel) rfl, gm 59 (by decide +kernel) rfl, gm 38 (by decide +kernel) rfl, mh_0.1, mh_0.2, by decide +kernel⟩, rfl, gm 58 (by decide +kernel) rfl⟩ rfl ⟨Nat.le_of_ble_eq_true rfl, Nat.le_of_ble_eq_true rfl⟩ rfl rfl rfl (Nat.le_of_ble_eq_true rfl) ⟨Nat.le_of_ble_eq_true rfl, Nat.le_of_ble_eq_true rfl⟩ (by decide) rfl dX6_init_9 (c_X0_init_1 l w) ?_
  refine g_lit (n' := 44) (k' := 43) (z' := 755) rfl rfl rfl ?_
  refine g_putR (y := I_X6_init_0) fi_6_10 rfl (show kd 0 = _ from rfl) rfl (by decide) rfl rfl dX6_init_12 ?_
  refine g_aload_n (y := I_X6_init_0) 0 dX6_init_15 rfl rfl ?_
  refine g_new (y := I_X6_init_0) nw_6_7 (show kd 44 = _ from rfl) (fun _ => rfl) (fun _ => rfl) (Nat.le_of_ble_eq_true rfl) (Nat.le_of_ble_eq_true rfl) dX6_init_16 ?_
  refine g_lit (n' := 45) (k' := 44) (z' := 768) rfl rfl rfl ?_
  refine g_dup (y := I_X6_init_0) dX6_init_19 rfl ?_
  refine g_callI (y := I_X6_init_0) (y' := I_X0_init_44) (As := []) ⟨⟨gm 57 (by decide +kernel) rfl, gm 59 (by decide +kernel) rfl, gm 38 (by decide +kernel) rfl, mh_0.1, mh_0.2, by decide +kernel⟩, rfl, gm 58 (by decide +kernel) rfl⟩ rfl ⟨Nat.le_of_ble_eq_true rfl, Nat.le_of_ble_eq_true rfl⟩ rfl rfl rfl (Nat.le_of_ble_eq_true rfl) ⟨Nat.le_of_ble_eq_true rfl, Nat.le_of_ble_eq_true rfl⟩ (by decide) rfl dX6_init_20 (c_X0_init_44 l w) ?_
  refine g_lit (n' := 87) (k' := 86) (z' := 1510) rfl rfl rfl ?_
  refine g_putR (y := I_X6_init_0) fi_6_16 rfl (show kd 0 = _ from rfl) rfl (by decide) rfl rfl dX6_init_23 ?_
  refine g_aload_n (y := I_X6_init_0) 0 dX6_init_26 rfl rfl ?_
  refine g_iconst (y := I_X6_init_0) (v := 0) dX6_init_27 (by decide) ?_
  refine g_putI (y := I_X6_init_0) fi_6_19 (show kd 0 = _ from rfl) rfl (by decide) rfl rfl dX6_init_28 ?_
  refine g_aload_n (y := I_X6_init_0) 0 dX6_init_31 rfl rfl ?_
  refine g_iconst (y := I_X6_init_0) (v := 4) dX6_init_32 (by decide) ?_
  refine g_newQ (y := I_X6_init_0) (t := 2) (CC := "OrchardBook$Sheet") (gm 219 (by decide +kernel) rfl) (fun _ h => h.2.2.2.1) (show kd 87 = _ from rfl) rfl (fun _ => rfl) (by decide) (by decide) (by decide) (Nat.le_of_ble_eq_true rfl) (Nat.le_of_ble_eq_true rfl) dX6_init_33 ?_
  refine g_lit (n' := 88) (k' := 87) (z' := 1514) rfl rfl rfl ?_
  refine g_putR (y := I_X6_init_0) fi_6_25 rfl (show kd 0 = _ from rfl) rfl (by decide) rfl rfl dX6_init_36 ?_
  refine g_iconst (y := I_X6_init_0) (v := 0) dX6_init_39 (by decide) ?_
  refine g_istore_n (y := I_X6_init_0) (ls' := [(1, .int (0 : Int32)), (0, .ref (w.2.1 + 0))]) dX6_init_40 rfl (by decide) rfl ?_
  refine g_iload_n (y := I_X6_init_0) 0 dX6_init_41 rfl rfl ?_
  refine g_iconst (y := I_X6_init_0) (v := 4) dX6_init_42 (by decide) ?_
  refine g_icmp_ge (y := I_X6_init_0) 65 dX6_init_43 (by decide) (fun h => absurd h (by decide)) (fun _ => ?_)
  refine g_aload_n (y := I_X6_init_0) 1 dX6_init_46 rfl rfl ?_
  refine g_get (y := I_X6_init_0) (v := .ref (w.2.1 + 87)) fj_6_25 (show kd 0 = _ from rfl) (b := true) rfl (by decide) rfl dX6_init_47 ?_
  refine g_iload_n (y := I_X6_init_0) 0 dX6_init_50 rfl rfl ?_
  refine g_new (y := I_X6_init_0) nw_6_23 (show kd 88 = _ from rfl) (fun _ => rfl) (fun _ => rfl) (Nat.le_of_ble_eq_true rfl) (Nat.le_of_ble_eq_true rfl) dX6_init_51 ?_
  refine g_lit (n' := 89) (k' := 88) (z' := 1517) rfl rfl rfl ?_
  refine g_dup (y := I_X6_init_0) dX6_init_54 rfl ?_
  refine g_callIN (y := I_X6_init_0) (y' := I_X4_init) (As := []) (host := "OrchardBook") ⟨by decide +kernel, gm 224 (by decide +kernel) rfl, gm 41 (by decide +kernel) rfl, mh_4.1, mh_4.2, by decide +kernel⟩ rfl (gm 223 (by decide +kernel) rfl) rfl ⟨Nat.le_of_ble_eq_true rfl, Nat.le_of_ble_eq_true rfl⟩ rfl rfl rfl (Nat.le_of_ble_eq_true rfl) ⟨Nat.le_of_ble_eq_true rfl, Nat.le_of_ble_eq_true rfl⟩ (by decide) rfl dX6_init_55 (c_X4_init l w 88 89 _ _ (show kd 88 = _ from rfl) (by decide) (show kd 89 = _ from rfl) (fun _ => rfl)) ?_
  refine g_lit (n' := 90) (k' := 89) (z' := 1567) rfl rfl rfl ?_
  refine g_aast (y := I_X6_init_0) (tt := 2) (show kd 87 = _ from rfl) (by decide) (show kd 88 = _ from rfl) (by decide) rfl rfl (by decide) dX6_init_58 ?_
  refine g_iinc (y := I_X6_init_0) 0 (v := 1) (ls' := [(1, .int (1 : Int32)), (0, .ref (w.2.1 + 0))]) dX6_init_59 rfl (by decide) (by decide) rfl ?_
  refine g_goto (y := I_X6_init_0) 41 dX6_init_62 (by decide) ?_
  refine g_iload_n (y := I_X6_init_0) 0 dX6_init_41 rfl rfl ?_
  refine g_iconst (y := I_X6_init_0) (v := 4) dX6_init_42 (by decide) ?_
  refine g_icmp_ge (y := I_X6_init_0) 65 dX6_init_43 (by decide) (fun h => absurd h (by decide)) (fun _ => ?_)
  refine g_aload_n (y := I_X6_init_0) 1 dX6_init_46 rfl rfl ?_
  refine g_get (y := I_X6_init_0) (v := .ref (w.2.1 + 87)) fj_6_25 (show kd 0 = _ from rfl) (b := true) rfl (by decide) rfl dX6_init_47 ?_
  refine g_iload_n (y := I_X6_init_0) 0 dX6_init_50 rfl rfl ?_
  refine g_new (y := I_X6_init_0) nw_6_23 (show kd 90 = _ from rfl) (fun _ => rfl) (fun _ => rfl) (Nat.le_of_ble_eq_true rfl) (Nat.le_of_ble_eq_true rfl) dX6_init_51 ?_
  refine g_lit (n' := 91) (k' := 90) (z' := 1570) rfl rfl rfl ?_
  refine g_dup (y := I_X6_init_0) dX6_init_54 rfl ?_
  refine g_callIN (y := I_X6_init_0) (y' := I_X4_init) (As := []) (host := "OrchardBook") ⟨by decide +kernel, gm 224 (by decide +kernel) rfl, gm 41 (by decide +kernel) rfl, mh_4.1, mh_4.2, by decide +kernel⟩ rfl (gm 223 (by decide +kernel) rfl) rfl ⟨Nat.le_of_ble_eq_true rfl, Nat.le_of_ble_eq_true rfl⟩ rfl rfl rfl (Nat.le_of_ble_eq_true rfl) ⟨Nat.le_of_ble_eq_true rfl, Nat.le_of_ble_eq_true rfl⟩ (by decide) rfl dX6_init_55 (c_X4_init l w 90 91 _ _ (show kd 90 = _ from rfl) (by decide) (show kd 91 = _ from rfl) (fun _ => rfl)) ?_
  refine g_lit (n' := 92) (k' := 91) (z' := 1620) rfl rfl rfl ?_
  refine g_aast (y := I_X6_init_0) (tt := 2) (show kd 87 = _ from rfl) (by decide) (show kd 90 = _ from rfl) (by decide) rfl rfl (by decide) dX6_init_58 ?_
  refine g_iinc (y := I_X6_init_0) 0 (v := 2) (ls' := [(1, .int (2 : Int32)), (0, .ref (w.2.1 + 0))]) dX6_init_59 rfl (by decide) (by decide) rfl ?_
  refine g_goto (y := I_X6_init_0) 41 dX6_init_62 (by decide) ?_
  refine g_iload_n (y := I_X6_init_0) 0 dX6_init_41 rfl rfl ?_
  refine g_iconst (y := I_X6_init_0) (v := 4) dX6_init_42 (by decide) ?_
  refine g_icmp_ge (y := I_X6_init_0) 65 dX6_init_43 (by decide) (fun h => absurd h (by decide)) (fun _ => ?_)
  refine g_aload_n (y := I_X6_init_0) 1 dX6_init_46 rfl rfl ?_
  refine g_get (y := I_X6_init_0) (v := .ref (w.2.1 + 87)) fj_6_25 (show kd 0 = _ from rfl) (b := true) rfl (by decide) rfl dX6_init_47 ?_
  refine g_iload_n (y := I_X6_init_0) 0 dX6_init_50 rfl rfl ?_
  refine g_new (y := I_X6_init_0) nw_6_23 (show kd 92 = _ from rfl) (fun _ => rfl) (fun _ => rfl) (Nat.le_of_ble_eq_true rfl) (Nat.le_of_ble_eq_true rfl) dX6_init_51 ?_
  refine g_lit (n' := 93) (k' := 92) (z' := 1623) rfl rfl rfl ?_
  refine g_dup (y := I_X6_init_0) dX6_init_54 rfl ?_
  refine g_callIN (y := I_X6_init_0) (y' := I_X4_init) (As := []) (host := "OrchardBook") ⟨by decide +kernel, gm 224 (by decide +kernel) rfl, gm 41 (by decide +kernel) rfl, mh_4.1, mh_4.2, by decide +kernel⟩ rfl (gm 223 (by decide +kernel) rfl) rfl ⟨Nat.le_of_ble_eq_true rfl, Nat.le_of_ble_eq_true rfl⟩ rfl rfl rfl (Nat.le_of_ble_eq_true rfl) ⟨Nat.le_of_ble_eq_true rfl, Nat.le_of_ble_eq_true rfl⟩ (by decide) rfl dX6_init_55 (c_X4_init l w 92 93 _ _ (show kd 92 = _ from rfl) (by decide) (show kd 93 = _ from rfl) (fun _ => rfl)) ?_
  refine g_lit (n' := 94) (k' := 93) (z' := 1673) rfl rfl rfl ?_
  refine g_aast (y := I_X6_init_0) (tt := 2) (show kd 87 = _ from rfl) (by decide) (show kd 92 = _ from rfl) (by decide) rfl rfl (by decide) dX6_init_58 ?_
  refine g_iinc (y := I_X6_init_0) 0 (v := 3) (ls' := [(1, .int (3 : Int32)), (0, .ref (w.2.1 + 0))]) dX6_init_59 rfl (by decide) (by decide) rfl ?_
  refine g_goto (y := I_X6_init_0) 41 dX6_init_62 (by decide) ?_
  refine g_iload_n (y := I_X6_init_0) 0 dX6_init_41 rfl rfl ?_
  refine g_iconst (y := I_X6_init_0) (v := 4) dX6_init_42 (by decide) ?_
  refine g_icmp_ge (y := I_X6_init_0) 65 dX6_init_43 (by decide) (fun h => absurd h (by decide)) (fun _ => ?_)
  refine g_aload_n (y := I_X6_init_0) 1 dX6_init_46 rfl rfl ?_
  refine g_get (y := I_X6_init_0) (v := .ref (w.2.1 + 87)) fj_6_25 (show kd 0 = _ from rfl) (b := true) rfl (by decide) rfl dX6_init_47 ?_
  refine g_iload_n (y := I_X6_init_0) 0 dX6_init_50 rfl rfl ?_
  refine g_new (y := I_X6_init_0) nw_6_23 (show kd 94 = _ from rfl) (fun _ => rfl) (fun _ => rfl) (Nat.le_of_ble_eq_true rfl) (Nat.le_of_ble_eq_true rfl) dX6_init_51 ?_
  refine g_lit (n' := 95) (k' := 94) (z' := 1676) rfl rfl rfl ?_
  refine g_dup (y := I_X6_init_0) dX6_init_54 rfl ?_
  refine g_callIN (y := I_X6_init_0) (y' := I_X4_init) (As := []) (host := "OrchardBook") ⟨by decide +kernel, gm 224 (by decide +kernel) rfl, gm 41 (by decide +kernel) rfl, mh_4.1, mh_4.2, by decide +kernel⟩ rfl (gm 223 (by decide +kernel) rfl) rfl ⟨Nat.le_of_ble_eq_true rfl, Nat.le_of_ble_eq_true rfl⟩ rfl rfl rfl (Nat.le_of_ble_eq_true rfl) ⟨Nat.le_of_ble_eq_true rfl, Nat.le_of_ble_eq_true rfl⟩ (by decide) rfl dX6_init_55 (c_X4_init l w 94 95 _ _ (show kd 94 = _ from rfl) (by decide) (show kd 95 = _ from rfl) (fun _ => rfl)) ?_
  refine g_lit (n' := 96) (k' := 95) (z' := 1726) rfl rfl rfl ?_
  refine g_aast (y := I_X6_init_0) (tt := 2) (show kd 87 = _ from rfl) (by decide) (show kd 94 = _ from rfl) (by decide) rfl rfl (by decide) dX6_init_58 ?_
  refine g_iinc (y := I_X6_init_0) 0 (v := 4) (ls' := [(1, .int (4 : Int32)), (0, .ref (w.2.1 + 0))]) dX6_init_59 rfl (by decide) (by decide) rfl ?_
  refine g_goto (y := I_X6_init_0) 41 dX6_init_62 (by decide) ?_
  refine g_iload_n (y := I_X6_init_0) 0 dX6_init_41 rfl rfl ?_
  refine g_iconst (y := I_X6_init_0) (v := 4) dX6_init_42 (by decide) ?_
  refine g_icmp_ge (y := I_X6_init_0) 65 dX6_init_43 (by decide) (fun _ => ?_) (fun h => absurd (by decide) h)
  refine g_aload_n (y := I_X6_init_0) 1 dX6_init_65 rfl rfl ?_
  refine g_new (y := I_X6_init_0) nw_6_30 (show kd 96 = _ from rfl) (fun _ => rfl) (fun _ => rfl) (Nat.le_of_ble_eq_true rfl) (Nat.le_of_ble_eq_true rfl) dX6_init_66 ?_
  refine g_lit (n' := 97) (k' := 96) (z' := 1730) rfl rfl rfl ?_
  refine g_dup (y := I_X6_init_0) dX6_init_69 rfl ?_
  refine g_callIN (y := I_X6_init_0) (y' := I_X3_init_96) (As := []) (host := "OrchardBook") ⟨by decide +kernel, gm 243 (by decide +kernel) rfl, gm 42 (by decide +kernel) rfl, mh_3.1, mh_3.2, by decide +kernel⟩ rfl (gm 242 (by decide +kernel) rfl) rfl ⟨Nat.le_of_ble_eq_true rfl, Nat.le_of_ble_eq_true rfl⟩ rfl rfl rfl (Nat.le_of_ble_eq_true rfl) ⟨Nat.le_of_ble_eq_true rfl, Nat.le_of_ble_eq_true rfl⟩ (by decide) rfl dX6_init_70 (c_X3_init_96 l w) ?_
  refine g_lit (n' := 101) (k' := 100) (z' := 1843) rfl rfl rfl ?_
  refine g_putR (y := I_X6_init_0) fi_6_33 rfl (show kd 0 = _ from rfl) rfl (by decide) rfl rfl dX6_init_73 ?_
  refine g_aload_n (y := I_X6_init_0) 1 dX6_init_76 rfl rfl ?_
  refine g_new (y := I_X6_init_0) nw_6_37 (show kd 101 = _ from rfl) (fun _ => rfl) (fun _ => rfl) (Nat.le_of_ble_eq_true rfl) (Nat.le_of_ble_eq_true rfl) dX6_init_77 ?_
  refine g_lit (n' := 102) (k' := 101) (z' := 1853) rfl rfl rfl ?_
  refine g_dup (y := I_X6_init_0) dX6_init_80 rfl ?_
  refine g_callIN (y := I_X6_init_0) (y' := I_X1_init_101) (As := []) (host := "OrchardBook") ⟨by decide +kernel, gm 265 (by decide +kernel) rfl, gm 43 (by decide +kernel) rfl, mh_1.1, mh_1.2, by decide +kernel⟩ rfl (gm 264 (by decide +kernel) rfl) rfl ⟨Nat.le_of_ble_eq_true rfl, Nat.le_of_ble_eq_true rfl⟩ rfl rfl rfl (Nat.le_of_ble_eq_true rfl) ⟨Nat.le_of_ble_eq_true rfl, Nat.le_of_ble_eq_true rfl⟩ (by decide) rfl dX6_init_81 (c_X1_init_101 l w) ?_
  refine g_lit (n' := 108) (k' := 107) (z' := 1950) rfl rfl rfl ?_
  refine g_putR (y := I_X6_init_0) fi_6_40 rfl (show kd 0 = _ from rfl) rfl (by decide) rfl rfl dX6_init_84 ?_
  refine g_aload_n (y := I_X6_init_0) 1 dX6_init_87 rfl rfl ?_
  refine g_iconst (y := I_X6_init_0) (v := 0) dX6_init_88 (by decide) ?_
  refine g_putI (y := I_X6_init_0) fi_6_44 (show kd 0 = _ from rfl) rfl (by decide) rfl rfl dX6_init_89 ?_
  exact g_vret (y := I_X6_init_0) rfl dX6_init_92
theorem dX7_init_0 : decode cX7_init 0 = .ok (.aload_n 0, 1) := by decide +kernel
theorem dX7_init_1 : decode cX7_init 1 = .ok (.invokespecial 1, 3) := by decide +kernel
theorem dX7_init_4 : decode cX7_init 4 = .ok (.aload_n 0, 1) := by decide +kernel
theorem dX7_init_5 : decode cX7_init 5 = .ok (.sipush 788, 3) := by decide +kernel
theorem dX7_init_8 : decode cX7_init 8 = .ok (.newarray .int, 2) := by decide +kernel
theorem dX7_init_10 : decode cX7_init 10 = .ok (.putfield 7, 3) := by decide +kernel
theorem dX7_init_13 : decode cX7_init 13 = .ok (.aload_n 0, 1) := by decide +kernel
theorem dX7_init_14 : decode cX7_init 14 = .ok (.sipush 788, 3) := by decide +kernel
theorem dX7_init_17 : decode cX7_init 17 = .ok (.newarray .int, 2) := by decide +kernel
theorem dX7_init_19 : decode cX7_init 19 = .ok (.putfield 13, 3) := by decide +kernel
theorem dX7_init_22 : decode cX7_init 22 = .ok (.aload_n 0, 1) := by decide +kernel
theorem dX7_init_23 : decode cX7_init 23 = .ok (.bipush 10, 2) := by decide +kernel
theorem dX7_init_25 : decode cX7_init 25 = .ok (.newarray .long, 2) := by decide +kernel
theorem dX7_init_27 : decode cX7_init 27 = .ok (.putfield 16, 3) := by decide +kernel
theorem dX7_init_30 : decode cX7_init 30 = .ok (.aload_n 0, 1) := by decide +kernel
theorem dX7_init_31 : decode cX7_init 31 = .ok (.bipush 10, 2) := by decide +kernel
theorem dX7_init_33 : decode cX7_init 33 = .ok (.newarray .long, 2) := by decide +kernel
theorem dX7_init_35 : decode cX7_init 35 = .ok (.putfield 20, 3) := by decide +kernel
theorem dX7_init_38 : decode cX7_init 38 = .ok (.aload_n 0, 1) := by decide +kernel
theorem dX7_init_39 : decode cX7_init 39 = .ok (.iconst 4, 1) := by decide +kernel
theorem dX7_init_40 : decode cX7_init 40 = .ok (.newarray .int, 2) := by decide +kernel
theorem dX7_init_42 : decode cX7_init 42 = .ok (.putfield 23, 3) := by decide +kernel
theorem dX7_init_45 : decode cX7_init 45 = .ok (.aload_n 0, 1) := by decide +kernel
theorem dX7_init_46 : decode cX7_init 46 = .ok (.iconst 4, 1) := by decide +kernel
theorem dX7_init_47 : decode cX7_init 47 = .ok (.newarray .int, 2) := by decide +kernel
theorem dX7_init_49 : decode cX7_init 49 = .ok (.putfield 26, 3) := by decide +kernel
theorem dX7_init_52 : decode cX7_init 52 = .ok (.aload_n 0, 1) := by decide +kernel
theorem dX7_init_53 : decode cX7_init 53 = .ok (.sipush 200, 3) := by decide +kernel
theorem dX7_init_56 : decode cX7_init 56 = .ok (.newarray .int, 2) := by decide +kernel
theorem dX7_init_58 : decode cX7_init 58 = .ok (.putfield 29, 3) := by decide +kernel
theorem dX7_init_61 : decode cX7_init 61 = .ok (.aload_n 0, 1) := by decide +kernel
theorem dX7_init_62 : decode cX7_init 62 = .ok (.bipush 12, 2) := by decide +kernel
theorem dX7_init_64 : decode cX7_init 64 = .ok (.newarray .int, 2) := by decide +kernel
theorem dX7_init_66 : decode cX7_init 66 = .ok (.putfield 32, 3) := by decide +kernel
theorem dX7_init_69 : decode cX7_init 69 = .ok (.aload_n 0, 1) := by decide +kernel
theorem dX7_init_70 : decode cX7_init 70 = .ok (.bipush 50, 2) := by decide +kernel
theorem dX7_init_72 : decode cX7_init 72 = .ok (.newarray .int, 2) := by decide +kernel
theorem dX7_init_74 : decode cX7_init 74 = .ok (.putfield 35, 3) := by decide +kernel
theorem dX7_init_77 : decode cX7_init 77 = .ok (.aload_n 0, 1) := by decide +kernel
theorem dX7_init_78 : decode cX7_init 78 = .ok (.bipush 24, 2) := by decide +kernel
theorem dX7_init_80 : decode cX7_init 80 = .ok (.newarray .int, 2) := by decide +kernel
theorem dX7_init_82 : decode cX7_init 82 = .ok (.putfield 38, 3) := by decide +kernel
theorem dX7_init_85 : decode cX7_init 85 = .ok (.aload_n 0, 1) := by decide +kernel
theorem dX7_init_86 : decode cX7_init 86 = .ok (.bipush 24, 2) := by decide +kernel
theorem dX7_init_88 : decode cX7_init 88 = .ok (.newarray .int, 2) := by decide +kernel
theorem dX7_init_90 : decode cX7_init 90 = .ok (.putfield 41, 3) := by decide +kernel
theorem dX7_init_93 : decode cX7_init 93 = .ok (.aload_n 0, 1) := by decide +kernel
theorem dX7_init_94 : decode cX7_init 94 = .ok (.bipush 24, 2) := by decide +kernel
theorem dX7_init_96 : decode cX7_init 96 = .ok (.newarray .boolean, 2) := by decide +kernel
theorem dX7_init_98 : decode cX7_init 98 = .ok (.putfield 44, 3) := by decide +kernel
theorem dX7_init_101 : decode cX7_init 101 = .ok (.aload_n 0, 1) := by decide +kernel
theorem dX7_init_102 : decode cX7_init 102 = .ok (.bipush 12, 2) := by decide +kernel
theorem dX7_init_104 : decode cX7_init 104 = .ok (.newarray .int, 2) := by decide +kernel
theorem dX7_init_106 : decode cX7_init 106 = .ok (.putfield 48, 3) := by decide +kernel
theorem dX7_init_109 : decode cX7_init 109 = .ok (.aload_n 0, 1) := by decide +kernel
theorem dX7_init_110 : decode cX7_init 110 = .ok (.bipush 12, 2) := by decide +kernel
theorem dX7_init_112 : decode cX7_init 112 = .ok (.newarray .int, 2) := by decide +kernel
theorem dX7_init_114 : decode cX7_init 114 = .ok (.putfield 51, 3) := by decide +kernel
theorem dX7_init_117 : decode cX7_init 117 = .ok (.aload_n 0, 1) := by decide +kernel
theorem dX7_init_118 : decode cX7_init 118 = .ok (.bipush 36, 2) := by decide +kernel
theorem dX7_init_120 : decode cX7_init 120 = .ok (.newarray .boolean, 2) := by decide +kernel
theorem dX7_init_122 : decode cX7_init 122 = .ok (.putfield 54, 3) := by decide +kernel
theorem dX7_init_125 : decode cX7_init 125 = .ok (.aload_n 0, 1) := by decide +kernel
theorem dX7_init_126 : decode cX7_init 126 = .ok (.sipush 144, 3) := by decide +kernel
theorem dX7_init_129 : decode cX7_init 129 = .ok (.newarray .boolean, 2) := by decide +kernel
theorem dX7_init_131 : decode cX7_init 131 = .ok (.putfield 57, 3) := by decide +kernel
theorem dX7_init_134 : decode cX7_init 134 = .ok (.iconst 0, 1) := by decide +kernel
theorem dX7_init_135 : decode cX7_init 135 = .ok (.istore_n 1, 1) := by decide +kernel
theorem dX7_init_136 : decode cX7_init 136 = .ok (.iload_n 1, 1) := by decide +kernel
theorem dX7_init_137 : decode cX7_init 137 = .ok (.bipush 12, 2) := by decide +kernel
theorem dX7_init_139 : decode cX7_init 139 = .ok (.if_icmp .ge 22, 3) := by decide +kernel
theorem dX7_init_142 : decode cX7_init 142 = .ok (.aload_n 0, 1) := by decide +kernel
theorem dX7_init_143 : decode cX7_init 143 = .ok (.getfield 7, 3) := by decide +kernel
theorem dX7_init_146 : decode cX7_init 146 = .ok (.bipush 66, 2) := by decide +kernel
theorem dX7_init_148 : decode cX7_init 148 = .ok (.bipush 11, 2) := by decide +kernel
theorem dX7_init_150 : decode cX7_init 150 = .ok (.iload_n 1, 1) := by decide +kernel
theorem dX7_init_151 : decode cX7_init 151 = .ok (.imul, 1) := by decide +kernel
theorem dX7_init_152 : decode cX7_init 152 = .ok (.iadd, 1) := by decide +kernel
theorem dX7_init_153 : decode cX7_init 153 = .ok (.iload_n 1, 1) := by decide +kernel
theorem dX7_init_154 : decode cX7_init 154 = .ok (.iastore, 1) := by decide +kernel
theorem dX7_init_155 : decode cX7_init 155 = .ok (.iinc 1 1, 3) := by decide +kernel
theorem dX7_init_158 : decode cX7_init 158 = .ok (.goto (-22), 3) := by decide +kernel
theorem dX7_init_161 : decode cX7_init 161 = .ok (.aload_n 0, 1) := by decide +kernel
theorem dX7_init_162 : decode cX7_init 162 = .ok (.getfield 7, 3) := by decide +kernel
theorem dX7_init_165 : decode cX7_init 165 = .ok (.sipush 783, 3) := by decide +kernel
theorem dX7_init_168 : decode cX7_init 168 = .ok (.iconst 3, 1) := by decide +kernel
theorem dX7_init_169 : decode cX7_init 169 = .ok (.iastore, 1) := by decide +kernel
theorem dX7_init_170 : decode cX7_init 170 = .ok (.aload_n 0, 1) := by decide +kernel
theorem dX7_init_171 : decode cX7_init 171 = .ok (.getfield 7, 3) := by decide +kernel
theorem dX7_init_174 : decode cX7_init 174 = .ok (.sipush 786, 3) := by decide +kernel
theorem dX7_init_177 : decode cX7_init 177 = .ok (.iconst (-1), 1) := by decide +kernel
theorem dX7_init_178 : decode cX7_init 178 = .ok (.iastore, 1) := by decide +kernel
theorem dX7_init_179 : decode cX7_init 179 = .ok (.return_, 1) := by decide +kernel
theorem fi_7_7 : FP RX7 7 7 0 true (.array .int) := ⟨_, _, _, tyX7, rfl, iX7, by decide, gm 794 (by decide +kernel) rfl, tyX7_ok, nmX7, rfl, (fun h => rfl), rfl⟩
theorem fi_7_13 : FP RX7 13 7 1 true (.array .int) := ⟨_, _, _, tyX7, rfl, iX7, by decide, gm 795 (by decide +kernel) rfl, tyX7_ok, nmX7, rfl, (fun h => rfl), rfl⟩
theorem fi_7_16 : FP RX7 16 7 2 true (.array .long) := ⟨_, _, _, tyX7, rfl, iX7, by decide, gm 796 (by decide +kernel) rfl, tyX7_ok, nmX7, rfl, (fun h => rfl), rfl⟩
theorem fi_7_20 : FP RX7 20 7 3 true (.array .long) := ⟨_, _, _, tyX7, rfl, iX7, by decide, gm 797 (by decide +kernel) rfl, tyX7_ok, nmX7, rfl, (fun h => rfl), rfl⟩
theorem fi_7_23 : FP RX7 23 7 5 true (.array .int) := ⟨_, _, _, tyX7, rfl, iX7, by decide, gm 799 (by decide +kernel) rfl, tyX7_ok, nmX7, rfl, (fun h => rfl), rfl⟩
theorem fi_7_26 : FP RX7 26 7 6 true (.array .int) := ⟨_, _, _, tyX7, rfl, iX7, by decide, gm 800 (by decide +kernel) rfl, tyX7_ok, nmX7, rfl, (fun h => rfl), rfl⟩
theorem fi_7_29 : FP RX7 29 7 7 true (.array .int) := ⟨_, _, _, tyX7, rfl, iX7, by decide, gm 801 (by decide +kernel) rfl, tyX7_ok, nmX7, rfl, (fun h => rfl), rfl⟩
theorem fi_7_32 : FP RX7 32 7 8 true (.array .int) := ⟨_, _, _, tyX7, rfl, iX7, by decide, gm 802 (by decide +kernel) rfl, tyX7_ok, nmX7, rfl, (fun h => rfl), rfl⟩
theorem fi_7_35 : FP RX7 35 7 11 true (.array .int) := ⟨_, _, _, tyX7, rfl, iX7, by decide, gm 805 (by decide +kernel) rfl, tyX7_ok, nmX7, rfl, (fun h => rfl), rfl⟩
theorem fi_7_38 : FP RX7 38 7 12 true (.array .int) := ⟨_, _, _, tyX7, rfl, iX7, by decide, gm 806 (by decide +kernel) rfl, tyX7_ok, nmX7, rfl, (fun h => rfl), rfl⟩
theorem fi_7_41 : FP RX7 41 7 13 true (.array .int) := ⟨_, _, _, tyX7, rfl, iX7, by decide, gm 807 (by decide +kernel) rfl, tyX7_ok, nmX7, rfl, (fun h => rfl), rfl⟩
theorem fi_7_44 : FP RX7 44 7 14 true (.array .boolean) := ⟨_, _, _, tyX7, rfl, iX7, by decide, gm 808 (by decide +kernel) rfl, tyX7_ok, nmX7, rfl, (fun h => rfl), rfl⟩
theorem fi_7_48 : FP RX7 48 7 15 true (.array .int) := ⟨_, _, _, tyX7, rfl, iX7, by decide, gm 809 (by decide +kernel) rfl, tyX7_ok, nmX7, rfl, (fun h => rfl), rfl⟩
theorem fi_7_51 : FP RX7 51 7 16 true (.array .int) := ⟨_, _, _, tyX7, rfl, iX7, by decide, gm 810 (by decide +kernel) rfl, tyX7_ok, nmX7, rfl, (fun h => rfl), rfl⟩
theorem fi_7_54 : FP RX7 54 7 17 true (.array .boolean) := ⟨_, _, _, tyX7, rfl, iX7, by decide, gm 811 (by decide +kernel) rfl, tyX7_ok, nmX7, rfl, (fun h => rfl), rfl⟩
theorem fi_7_57 : FP RX7 57 7 18 true (.array .boolean) := ⟨_, _, _, tyX7, rfl, iX7, by decide, gm 812 (by decide +kernel) rfl, tyX7_ok, nmX7, rfl, (fun h => rfl), rfl⟩
theorem fj_7_7 : FL RX7 7 7 0 := ⟨_, _, _, rfl, iX7, by decide, gm 794 (by decide +kernel) rfl⟩
abbrev I_X7_init_108 : MI := (yX7_init, cX7_init, 2, none, { frames := 1, cells := 16, slots := 2142, locals := 20 })
def r_X7_init_108 : Rf := (up2 (up2 (up2 (up2 (up2 (up2 (up2 (up2 (up2 (up2 (up2 (up2 (up2 (up2 (up2 (up2 r_X6_init_0 108 0 (some 109)) 108 1 (some 110)) 108 2 (some 111)) 108 3 (some 112)) 108 5 (some 113)) 108 6 (some 114)) 108 7 (some 115)) 108 8 (some 116)) 108 11 (some 117)) 108 12 (some 118)) 108 13 (some 119)) 108 14 (some 120)) 108 15 (some 121)) 108 16 (some 122)) 108 17 (some 123)) 108 18 (some 124))
def s_X7_init_108 : St := (wr (wr (wr (wr (wr (wr (wr (wr (wr (wr (wr (wr (wr (wr s_X6_init_0 109 (ix (66 : Int32)) (0 : Int32)) 109 (ix (77 : Int32)) (1 : Int32)) 109 (ix (88 : Int32)) (2 : Int32)) 109 (ix (99 : Int32)) (3 : Int32)) 109 (ix (110 : Int32)) (4 : Int32)) 109 (ix (121 : Int32)) (5 : Int32)) 109 (ix (132 : Int32)) (6 : Int32)) 109 (ix (143 : Int32)) (7 : Int32)) 109 (ix (154 : Int32)) (8 : Int32)) 109 (ix (165 : Int32)) (9 : Int32)) 109 (ix (176 : Int32)) (10 : Int32)) 109 (ix (187 : Int32)) (11 : Int32)) 109 (ix (783 : Int32)) (3 : Int32)) 109 (ix (786 : Int32)) (-1 : Int32))
set_option maxRecDepth 100000 in
set_option maxHeartbeats 4000000 in
theorem c_X7_init_108 (l : Launch) (w : Wd) : Ct l w I_X7_init_108 [.ref (w.2.1 + 108)] 109 r_X6_init_0 s_X6_init_0 (125, r_X7_init_108, s_X7_init_108, 16, 2142) none := by
  refine Ct.of (Nat.le_of_ble_eq_true rfl) pn_7 ?_
  refine g_aload_n (y := I_X7_init_108) 0 dX7_init_0 rfl rfl ?_
  refine g_objInit (y := I_X7_init_108) (gm 793 (by decide +kernel) rfl) oi_i oi_c (Nat.le_of_ble_eq_true rfl) (Nat.le_of_ble_eq_true rfl) dX7_init_1 ?_
  refine g_aload_n (y := I_X7_init_108) 0 dX7_init_4 rfl rfl ?_
  refine g_sipush (y := I_X7_init_108) (v := 788) dX7_init_5 (by decide) ?_
  refine g_newI (y := I_X7_init_108) ac_int (show kd 109 = _ from rfl) (fun _ => rfl) (by decide) (by decide) (by decide) (Nat.le_of_ble_eq_true rfl) (Nat.le_of_ble_eq_true rfl) dX7_init_8 ?_
  refine g_lit (n' := 110) (k' := 1) (z' := 788) rfl rfl rfl ?_
  refine g_putR (y := I_X7_init_108) fi_7_7 rfl (show kd 108 = _ from rfl) rfl (by decide) rfl rfl dX7_init_10 ?_
  refine g_aload_n (y := I_X7_init_108) 0 dX7_init_13 rfl rfl ?_
  refine g_sipush (y := I_X7_init_108) (v := 788) dX7_init_14 (by decide) ?_
  refine g_newI (y := I_X7_init_108) ac_int (show kd 110 = _ from rfl) (fun _ => rfl) (by decide) (by decide) (by decide) (Nat.le_of_ble_eq_true rfl) (Nat.le_of_ble_eq_true rfl) dX7_init_17 ?_
  refine g_lit (n' := 111) (k' := 2) (z' := 1576) rfl rfl rfl ?_
  refine g_putR (y := I_X7_init_108) fi_7_13 rfl (show kd 108 = _ from rfl) rfl (by decide) rfl rfl dX7_init_19 ?_
  refine g_aload_n (y := I_X7_init_108) 0 dX7_init_22 rfl rfl ?_
  refine g_bipush (y := I_X7_init_108) (v := 10) dX7_init_23 (by decide) ?_
  refine g_newL (y := I_X7_init_108) ac_long (show kd 111 = _ from rfl) (fun _ => rfl) (by decide) (by decide) (by decide) (Nat.le_of_ble_eq_true rfl) (Nat.le_of_ble_eq_true rfl) dX7_init_25 ?_
  refine g_lit (n' := 112) (k' := 3) (z' := 1586) rfl rfl rfl ?_
  refine g_putR (y := I_X7_init_108) fi_7_16 rfl (show kd 108 = _ from rfl) rfl (by decide) rfl rfl dX7_init_27 ?_
  refine g_aload_n (y := I_X7_init_108) 0 dX7_init_30 rfl rfl ?_
  refine g_bipush (y := I_X7_init_108) (v := 10) dX7_init_31 (by decide) ?_
  refine g_newL (y := I_X7_init_108) ac_long (show kd 112 = _ from rfl) (fun _ => rfl) (by decide) (by decide) (by decide) (Nat.le_of_ble_eq_true rfl) (Nat.le_of_ble_eq_true rfl) dX7_init_33 ?_
  refine g_lit (n' := 113) (k' := 4) (z' := 1596) rfl rfl rfl ?_
  refine g_putR (y := I_X7_init_108) fi_7_20 rfl (show kd 108 = _ from rfl) rfl (by decide) rfl rfl dX7_init_35 ?_
  refine g_aload_n (y := I_X7_init_108) 0 dX7_init_38 rfl rfl ?_
  refine g_iconst (y := I_X7_init_108) (v := 4) dX7_init_39 (by decide) ?_
  refine g_newI (y := I_X7_init_108) ac_int (show kd 113 = _ from rfl) (fun _ => rfl) (by decide) (by decide) (by decide) (Nat.le_of_ble_eq_true rfl) (Nat.le_of_ble_eq_true rfl) dX7_init_40 ?_
  refine g_lit (n' := 114) (k' := 5) (z' := 1600) rfl rfl rfl ?_
  refine g_putR (y := I_X7_init_108) fi_7_23 rfl (show kd 108 = _ from rfl) rfl (by decide) rfl rfl dX7_init_42 ?_
  refine g_aload_n (y := I_X7_init_108) 0 dX7_init_45 rfl rfl ?_
  refine g_iconst (y := I_X7_init_108) (v := 4) dX7_init_46 (by decide) ?_
  refine g_newI (y := I_X7_init_108) ac_int (show kd 114 = _ from rfl) (fun _ => rfl) (by decide) (by decide) (by decide) (Nat.le_of_ble_eq_true rfl) (Nat.le_of_ble_eq_true rfl) dX7_init_47 ?_
  refine g_lit (n' := 115) (k' := 6) (z' := 1604) rfl rfl rfl ?_
  refine g_putR (y := I_X7_init_108) fi_7_26 rfl (show kd 108 = _ from rfl) rfl (by decide) rfl rfl dX7_init_49 ?_
  refine g_aload_n (y := I_X7_init_108) 0 dX7_init_52 rfl rfl ?_
  refine g_sipush (y := I_X7_init_108) (v := 200) dX7_init_53 (by decide) ?_
  refine g_newI (y := I_X7_init_108) ac_int (show kd 115 = _ from rfl) (fun _ => rfl) (by decide) (by decide) (by decide) (Nat.le_of_ble_eq_true rfl) (Nat.le_of_ble_eq_true rfl) dX7_init_56 ?_
  refine g_lit (n' := 116) (k' := 7) (z' := 1804) rfl rfl rfl ?_
  refine g_putR (y := I_X7_init_108) fi_7_29 rfl (show kd 108 = _ from rfl) rfl (by decide) rfl rfl dX7_init_58 ?_
  refine g_aload_n (y := I_X7_init_108) 0 dX7_init_61 rfl rfl ?_
  refine g_bipush (y := I_X7_init_108) (v := 12) dX7_init_62 (by decide) ?_
  refine g_newI (y := I_X7_init_108) ac_int (show kd 116 = _ from rfl) (fun _ => rfl) (by decide) (by decide) (by decide) (Nat.le_of_ble_eq_true rfl) (Nat.le_of_ble_eq_true rfl) dX7_init_64 ?_
  refine g_lit (n' := 117) (k' := 8) (z' := 1816) rfl rfl rfl ?_
  refine g_putR (y := I_X7_init_108) fi_7_32 rfl (show kd 108 = _ from rfl) rfl (by decide) rfl rfl dX7_init_66 ?_
  refine g_aload_n (y := I_X7_init_108) 0 dX7_init_69 rfl rfl ?_
  refine g_bipush (y := I_X7_init_108) (v := 50) dX7_init_70 (by decide) ?_
  refine g_newI (y := I_X7_init_108) ac_int (show kd 117 = _ from rfl) (fun _ => rfl) (by decide) (by decide) (by decide) (Nat.le_of_ble_eq_true rfl) (Nat.le_of_ble_eq_true rfl) dX7_init_72 ?_
  refine g_lit (n' := 118) (k' := 9) (z' := 1866) rfl rfl rfl ?_
  refine g_putR (y := I_X7_init_108) fi_7_35 rfl (show kd 108 = _ from rfl) rfl (by decide) rfl rfl dX7_init_74 ?_
  refine g_aload_n (y := I_X7_init_108) 0 dX7_init_77 rfl rfl ?_
  refine g_bipush (y := I_X7_init_108) (v := 24) dX7_init_78 (by decide) ?_
  refine g_newI (y := I_X7_init_108) ac_int (show kd 118 = _ from rfl) (fun _ => rfl) (by decide) (by decide) (by decide) (Nat.le_of_ble_eq_true rfl) (Nat.le_of_ble_eq_true rfl) dX7_init_80 ?_
  refine g_lit (n' := 119) (k' := 10) (z' := 1890) rfl rfl rfl ?_
  refine g_putR (y := I_X7_init_108) fi_7_38 rfl (show kd 108 = _ from rfl) rfl (by decide) rfl rfl dX7_init_82 ?_
  refine g_aload_n (y := I_X7_init_108) 0 dX7_init_85 rfl rfl ?_
  refine g_bipush (y := I_X7_init_108) (v := 24) dX7_init_86 (by decide) ?_
  refine g_newI (y := I_X7_init_108) ac_int (show kd 119 = _ from rfl) (fun _ => rfl) (by decide) (by decide) (by decide) (Nat.le_of_ble_eq_true rfl) (Nat.le_of_ble_eq_true rfl) dX7_init_88 ?_
  refine g_lit (n' := 120) (k' := 11) (z' := 1914) rfl rfl rfl ?_
  refine g_putR (y := I_X7_init_108) fi_7_41 rfl (show kd 108 = _ from rfl) rfl (by decide) rfl rfl dX7_init_90 ?_
  refine g_aload_n (y := I_X7_init_108) 0 dX7_init_93 rfl rfl ?_
  refine g_bipush (y := I_X7_init_108) (v := 24) dX7_init_94 (by decide) ?_
  refine g_newZ (y := I_X7_init_108) ac_boolean (show kd 120 = _ from rfl) (fun _ => rfl) (by decide) (by decide) (by decide) (Nat.le_of_ble_eq_true rfl) (Nat.le_of_ble_eq_true rfl) dX7_init_96 ?_
  refine g_lit (n' := 121) (k' := 12) (z' := 1938) rfl rfl rfl ?_
  refine g_putR (y := I_X7_init_108) fi_7_44 rfl (show kd 108 = _ from rfl) rfl (by decide) rfl rfl dX7_init_98 ?_
  refine g_aload_n (y := I_X7_init_108) 0 dX7_init_101 rfl rfl ?_
  refine g_bipush (y := I_X7_init_108) (v := 12) dX7_init_102 (by decide) ?_
  refine g_newI (y := I_X7_init_108) ac_int (show kd 121 = _ from rfl) (fun _ => rfl) (by decide) (by decide) (by decide) (Nat.le_of_ble_eq_true rfl) (Nat.le_of_ble_eq_true rfl) dX7_init_104 ?_
  refine g_lit (n' := 122) (k' := 13) (z' := 1950) rfl rfl rfl ?_
  refine g_putR (y := I_X7_init_108) fi_7_48 rfl (show kd 108 = _ from rfl) rfl (by decide) rfl rfl dX7_init_106 ?_
  refine g_aload_n (y := I_X7_init_108) 0 dX7_init_109 rfl rfl ?_
  refine g_bipush (y := I_X7_init_108) (v := 12) dX7_init_110 (by decide) ?_
  refine g_newI (y := I_X7_init_108) ac_int (show kd 122 = _ from rfl) (fun _ => rfl) (by decide) (by decide) (by decide) (Nat.le_of_ble_eq_true rfl) (Nat.le_of_ble_eq_true rfl) dX7_init_112 ?_
  refine g_lit (n' := 123) (k' := 14) (z' := 1962) rfl rfl rfl ?_
  refine g_putR (y := I_X7_init_108) fi_7_51 rfl (show kd 108 = _ from rfl) rfl (by decide) rfl rfl dX7_init_114 ?_
  refine g_aload_n (y := I_X7_init_108) 0 dX7_init_117 rfl rfl ?_
  refine g_bipush (y := I_X7_init_108) (v := 36) dX7_init_118 (by decide) ?_
  refine g_newZ (y := I_X7_init_108) ac_boolean (show kd 123 = _ from rfl) (fun _ => rfl) (by decide) (by decide) (by decide) (Nat.le_of_ble_eq_true rfl) (Nat.le_of_ble_eq_true rfl) dX7_init_120 ?_
  refine g_lit (n' := 124) (k' := 15) (z' := 1998) rfl rfl rfl ?_
  refine g_putR (y := I_X7_init_108) fi_7_54 rfl (show kd 108 = _ from rfl) rfl (by decide) rfl rfl dX7_init_122 ?_
  refine g_aload_n (y := I_X7_init_108) 0 dX7_init_125 rfl rfl ?_
  refine g_sipush (y := I_X7_init_108) (v := 144) dX7_init_126 (by decide) ?_
  refine g_newZ (y := I_X7_init_108) ac_boolean (show kd 124 = _ from rfl) (fun _ => rfl) (by decide) (by decide) (by decide) (Nat.le_of_ble_eq_true rfl) (Nat.le_of_ble_eq_true rfl) dX7_init_129 ?_
  refine g_lit (n' := 125) (k' := 16) (z' := 2142) rfl rfl rfl ?_
  refine g_putR (y := I_X7_init_108) fi_7_57 rfl (show kd 108 = _ from rfl) rfl (by decide) rfl rfl dX7_init_131 ?_
  refine g_iconst (y := I_X7_init_108) (v := 0) dX7_init_134 (by decide) ?_
  refine g_istore_n (y := I_X7_init_108) (ls' := [(1, .int (0 : Int32)), (0, .ref (w.2.1 + 108))]) dX7_init_135 rfl (by decide) rfl ?_
  refine g_iload_n (y := I_X7_init_108) 0 dX7_init_136 rfl rfl ?_
  refine g_bipush (y := I_X7_init_108) (v := 12) dX7_init_137 (by decide) ?_
  refine g_icmp_ge (y := I_X7_init_108) 161 dX7_init_139 (by decide) (fun h => absurd h (by decide)) (fun _ => ?_)
  refine g_aload_n (y := I_X7_init_108) 1 dX7_init_142 rfl rfl ?_
  refine g_get (y := I_X7_init_108) (v := .ref (w.2.1 + 109)) fj_7_7 (show kd 108 = _ from rfl) (b := true) rfl (by decide) rfl dX7_init_143 ?_
  refine g_bipush (y := I_X7_init_108) (v := 66) dX7_init_146 (by decide) ?_
  refine g_bipush (y := I_X7_init_108) (v := 11) dX7_init_148 (by decide) ?_
  refine g_iload_n (y := I_X7_init_108) 0 dX7_init_150 rfl rfl ?_
  refine g_imul (y := I_X7_init_108) dX7_init_151 ?_
  refine g_st (st' := [.int (0 : Int32), .int (66 : Int32), .ref (w.2.1 + 109)]) (by rfl) ?_
  refine g_iadd (y := I_X7_init_108) dX7_init_152 ?_
  refine g_st (st' := [.int (66 : Int32), .ref (w.2.1 + 109)]) (by rfl) ?_
  refine g_iload_n (y := I_X7_init_108) 0 dX7_init_153 rfl rfl ?_
  refine g_iast (y := I_X7_init_108) (show kd 109 = _ from rfl) (by decide) (by decide) dX7_init_154 ?_
  refine g_iinc (y := I_X7_init_108) 0 (v := 1) (ls' := [(1, .int (1 : Int32)), (0, .ref (w.2.1 + 108))]) dX7_init_155 rfl (by decide) (by decide) rfl ?_
  refine g_goto (y := I_X7_init_108) 136 dX7_init_158 (by decide) ?_
  refine g_iload_n (y := I_X7_init_108) 0 dX7_init_136 rfl rfl ?_
  refine g_bipush (y := I_X7_init_108) (v := 12) dX7_init_137 (by decide) ?_
  refine g_icmp_ge (y := I_X7_init_108) 161 dX7_init_139 (by decide) (fun h => absurd h (by decide)) (fun _ => ?_)
  refine g_aload_n (y := I_X7_init_108) 1 dX7_init_142 rfl rfl ?_
  refine g_get (y := I_X7_init_108) (v := .ref (w.2.1 + 109)) fj_7_7 (show kd 108 = _ from rfl) (b := true) rfl (by decide) rfl dX7_init_143 ?_
  refine g_bipush (y := I_X7_init_108) (v := 66) dX7_init_146 (by decide) ?_
  refine g_bipush (y := I_X7_init_108) (v := 11) dX7_init_148 (by decide) ?_
  refine g_iload_n (y := I_X7_init_108) 0 dX7_init_150 rfl rfl ?_
  refine g_imul (y := I_X7_init_108) dX7_init_151 ?_
  refine g_st (st' := [.int (11 : Int32), .int (66 : Int32), .ref (w.2.1 + 109)]) (by rfl) ?_
  refine g_iadd (y := I_X7_init_108) dX7_init_152 ?_
  refine g_st (st' := [.int (77 : Int32), .ref (w.2.1 + 109)]) (by rfl) ?_
  refine g_iload_n (y := I_X7_init_108) 0 dX7_init_153 rfl rfl ?_
  refine g_iast (y := I_X7_init_108) (show kd 109 = _ from rfl) (by decide) (by decide) dX7_init_154 ?_
  refine g_iinc (y := I_X7_init_108) 0 (v := 2) (ls' := [(1, .int (2 : Int32)), (0, .ref (w.2.1 + 108))]) dX7_init_155 rfl (by decide) (by decide) rfl ?_
  refine g_goto (y := I_X7_init_108) 136 dX7_init_158 (by decide) ?_
  refine g_iload_n (y := I_X7_init_108) 0 dX7_init_136 rfl rfl ?_
  refine g_bipush (y := I_X7_init_108) (v := 12) dX7_init_137 (by decide) ?_
  refine g_icmp_ge (y := I_X7_init_108) 161 dX7_init_139 (by decide) (fun h => absurd h (by decide)) (fun _ => ?_)
  refine g_aload_n (y := I_X7_init_108) 1 dX7_init_142 rfl rfl ?_
  refine g_get (y := I_X7_init_108) (v := .ref (w.2.1 + 109)) fj_7_7 (show kd 108 = _ from rfl) (b := true) rfl (by decide) rfl dX7_init_143 ?_
  refine g_bipush (y := I_X7_init_108) (v := 66) dX7_init_146 (by decide) ?_
  refine g_bipush (y := I_X7_init_108) (v := 11) dX7_init_148 (by decide) ?_
  refine g_iload_n (y := I_X7_init_108) 0 dX7_init_150 rfl rfl ?_
  refine g_imul (y := I_X7_init_108) dX7_init_151 ?_
  refine g_st (st' := [.int (22 : Int32), .int (66 : Int32), .ref (w.2.1 + 109)]) (by rfl) ?_
  refine g_iadd (y := I_X7_init_108) dX7_init_152 ?_
  refine g_st (st' := [.int (88 : Int32), .ref (w.2.1 + 109)]) (by rfl) ?_
  refine g_iload_n (y := I_X7_init_108) 0 dX7_init_153 rfl rfl ?_
  refine g_iast (y := I_X7_init_108) (show kd 109 = _ from rfl) (by decide) (by decide) dX7_init_154 ?_
  refine g_iinc (y := I_X7_init_108) 0 (v := 3) (ls' := [(1, .int (3 : Int32)), (0, .ref (w.2.1 + 108))]) dX7_init_155 rfl (by decide) (by decide) rfl ?_
  refine g_goto (y := I_X7_init_108) 136 dX7_init_158 (by decide) ?_
  refine g_iload_n (y := I_X7_init_108) 0 dX7_init_136 rfl rfl ?_
  refine g_bipush (y := I_X7_init_108) (v := 12) dX7_init_137 (by decide) ?_
  refine g_icmp_ge (y := I_X7_init_108) 161 dX7_init_139 (by decide) (fun h => absurd h (by decide)) (fun _ => ?_)
  refine g_aload_n (y := I_X7_init_108) 1 dX7_init_142 rfl rfl ?_
  refine g_get (y := I_X7_init_108) (v := .ref (w.2.1 + 109)) fj_7_7 (show kd 108 = _ from rfl) (b := true) rfl (by decide) rfl dX7_init_143 ?_
  refine g_bipush (y := I_X7_init_108) (v := 66) dX7_init_146 (by decide) ?_
  refine g_bipush (y := I_X7_init_108) (v := 11) dX7_init_148 (by decide) ?_
  refine g_iload_n (y := I_X7_init_108) 0 dX7_init_150 rfl rfl ?_
  refine g_imul (y := I_X7_init_108) dX7_init_151 ?_
  refine g_st (st' := [.int (33 : Int32), .int (66 : Int32), .ref (w.2.1 + 109)]) (by rfl) ?_
  refine g_iadd (y := I_X7_init_108) dX7_init_152 ?_
  refine g_st (st' := [.int (99 : Int32), .ref (w.2.1 + 109)]) (by rfl) ?_
  refine g_iload_n (y := I_X7_init_108) 0 dX7_init_153 rfl rfl ?_
  refine g_iast (y := I_X7_init_108) (show kd 109 = _ from rfl) (by decide) (by decide) dX7_init_154 ?_
  refine g_iinc (y := I_X7_init_108) 0 (v := 4) (ls' := [(1, .int (4 : Int32)), (0, .ref (w.2.1 + 108))]) dX7_init_155 rfl (by decide) (by decide) rfl ?_
  refine g_goto (y := I_X7_init_108) 136 dX7_init_158 (by decide) ?_
  refine g_iload_n (y := I_X7_init_108) 0 dX7_init_136 rfl rfl ?_
  refine g_bipush (y := I_X7_init_108) (v := 12) dX7_init_137 (by decide) ?_
  refine g_icmp_ge (y := I_X7_init_108) 161 dX7_init_139 (by decide) (fun h => absurd h (by decide)) (fun _ => ?_)
  refine g_aload_n (y := I_X7_init_108) 1 dX7_init_142 rfl rfl ?_
  refine g_get (y := I_X7_init_108) (v := .ref (w.2.1 + 109)) fj_7_7 (show kd 108 = _ from rfl) (b := true) rfl (by decide) rfl dX7_init_143 ?_
  refine g_bipush (y := I_X7_init_108) (v := 66) dX7_init_146 (by decide) ?_
  refine g_bipush (y := I_X7_init_108) (v := 11) dX7_init_148 (by decide) ?_
  refine g_iload_n (y := I_X7_init_108) 0 dX7_init_150 rfl rfl ?_
  refine g_imul (y := I_X7_init_108) dX7_init_151 ?_
  refine g_st (st' := [.int (44 : Int32), .int (66 : Int32), .ref (w.2.1 + 109)]) (by rfl) ?_
  refine g_iadd (y := I_X7_init_108) dX7_init_152 ?_
  refine g_st (st' := [.int (110 : Int32), .ref (w.2.1 + 109)]) (by rfl) ?_
  refine g_iload_n (y := I_X7_init_108) 0 dX7_init_153 rfl rfl ?_
  refine g_iast (y := I_X7_init_108) (show kd 109 = _ from rfl) (by decide) (by decide) dX7_init_154 ?_
  refine g_iinc (y := I_X7_init_108) 0 (v := 5) (ls' := [(1, .int (5 : Int32)), (0, .ref (w.2.1 + 108))]) dX7_init_155 rfl (by decide) (by decide) rfl ?_
  refine g_goto (y := I_X7_init_108) 136 dX7_init_158 (by decide) ?_
  refine g_iload_n (y := I_X7_init_108) 0 dX7_init_136 rfl rfl ?_
  refine g_bipush (y := I_X7_init_108) (v := 12) dX7_init_137 (by decide) ?_
  refine g_icmp_ge (y := I_X7_init_108) 161 dX7_init_139 (by decide) (fun h => absurd h (by decide)) (fun _ => ?_)
  refine g_aload_n (y := I_X7_init_108) 1 dX7_init_142 rfl rfl ?_
  refine g_get (y := I_X7_init_108) (v := .ref (w.2.1 + 109)) fj_7_7 (show kd 108 = _ from rfl) (b := true) rfl (by decide) rfl dX7_init_143 ?_
  refine g_bipush (y := I_X7_init_108) (v := 66) dX7_init_146 (by decide) ?_
  refine g_bipush (y := I_X7_init_108) (v := 11) dX7_init_148 (by decide) ?_
  refine g_iload_n (y := I_X7_init_108) 0 dX7_init_150 rfl rfl ?_
  refine g_imul (y := I_X7_init_108) dX7_init_151 ?_
  refine g_st (st' := [.int (55 : Int32), .int (66 : Int32), .ref (w.2.1 + 109)]) (by rfl) ?_
  refine g_iadd (y := I_X7_init_108) dX7_init_152 ?_
  refine g_st (st' := [.int (121 : Int32), .ref (w.2.1 + 109)]) (by rfl) ?_
  refine g_iload_n (y := I_X7_init_108) 0 dX7_init_153 rfl rfl ?_
  refine g_iast (y := I_X7_init_108) (show kd 109 = _ from rfl) (by decide) (by decide) dX7_init_154 ?_
  refine g_iinc (y := I_X7_init_108) 0 (v := 6) (ls' := [(1, .int (6 : Int32)), (0, .ref (w.2.1 + 108))]) dX7_init_155 rfl (by decide) (by decide) rfl ?_
  refine g_goto (y := I_X7_init_108) 136 dX7_init_158 (by decide) ?_
  refine g_iload_n (y := I_X7_init_108) 0 dX7_init_136 rfl rfl ?_
  refine g_bipush (y := I_X7_init_108) (v := 12) dX7_init_137 (by decide) ?_
  refine g_icmp_ge (y := I_X7_init_108) 161 dX7_init_139 (by decide) (fun h => absurd h (by decide)) (fun _ => ?_)
  refine g_aload_n (y := I_X7_init_108) 1 dX7_init_142 rfl rfl ?_
  refine g_get (y := I_X7_init_108) (v := .ref (w.2.1 + 109)) fj_7_7 (show kd 108 = _ from rfl) (b := true) rfl (by decide) rfl dX7_init_143 ?_
  refine g_bipush (y := I_X7_init_108) (v := 66) dX7_init_146 (by decide) ?_
  refine g_bipush (y := I_X7_init_108) (v := 11) dX7_init_148 (by decide) ?_
  refine g_iload_n (y := I_X7_init_108) 0 dX7_init_150 rfl rfl ?_
  refine g_imul (y := I_X7_init_108) dX7_init_151 ?_
  refine g_st (st' := [.int (66 : Int32), .int (66 : Int32), .ref (w.2.1 + 109)]) (by rfl) ?_
  refine g_iadd (y := I_X7_init_108) dX7_init_152 ?_
  refine g_st (st' := [.int (132 : Int32), .ref (w.2.1 + 109)]) (by rfl) ?_
  refine g_iload_n (y := I_X7_init_108) 0 dX7_init_153 rfl rfl ?_
  refine g_iast (y := I_X7_init_108) (show kd 109 = _ from rfl) (by decide) (by decide) dX7_init_154 ?_
  refine g_iinc (y := I_X7_init_108) 0 (v := 7) (ls' := [(1, .int (7 : Int32)), (0, .ref (w.2.1 + 108))]) dX7_init_155 rfl (by decide) (by decide) rfl ?_
  refine g_goto (y := I_X7_init_108) 136 dX7_init_158 (by decide) ?_
  refine g_iload_n (y := I_X7_init_108) 0 dX7_init_136 rfl rfl ?_
  refine g_bipush (y := I_X7_init_108) (v := 12) dX7_init_137 (by decide) ?_
  refine g_icmp_ge (y := I_X7_init_108) 161 dX7_init_139 (by decide) (fun h => absurd h (by decide)) (fun _ => ?_)
  refine g_aload_n (y := I_X7_init_108) 1 dX7_init_142 rfl rfl ?_
  refine g_get (y := I_X7_init_108) (v := .ref (w.2.1 + 109)) fj_7_7 (show kd 108 = _ from rfl) (b := true) rfl (by decide) rfl dX7_init_143 ?_
  refine g_bipush (y := I_X7_init_108) (v := 66) dX7_init_146 (by decide) ?_
  refine g_bipush (y := I_X7_init_108) (v := 11) dX7_init_148 (by decide) ?_
  refine g_iload_n (y := I_X7_init_108) 0 dX7_init_150 rfl rfl ?_
  refine g_imul (y := I_X7_init_108) dX7_init_151 ?_
  refine g_st (st' := [.int (77 : Int32), .int (66 : Int32), .ref (w.2.1 + 109)]) (by rfl) ?_
  refine g_iadd (y := I_X7_init_108) dX7_init_152 ?_
  refine g_st (st' := [.int (143 : Int32), .ref (w.2.1 + 109)]) (by rfl) ?_
  refine g_iload_n (y := I_X7_init_108) 0 dX7_init_153 rfl rfl ?_
  refine g_iast (y := I_X7_init_108) (show kd 109 = _ from rfl) (by decide) (by decide) dX7_init_154 ?_
  refine g_iinc (y := I_X7_init_108) 0 (v := 8) (ls' := [(1, .int (8 : Int32)), (0, .ref (w.2.1 + 108))]) dX7_init_155 rfl (by decide) (by decide) rfl ?_
  refine g_goto (y := I_X7_init_108) 136 dX7_init_158 (by decide) ?_
  refine g_iload_n (y := I_X7_init_108) 0 dX7_init_136 rfl rfl ?_
  refine g_bipush (y := I_X7_init_108) (v := 12) dX7_init_137 (by decide) ?_
  refine g_icmp_ge (y := I_X7_init_108) 161 dX7_init_139 (by decide) (fun h => absurd h (by decide)) (fun _ => ?_)
  refine g_aload_n (y := I_X7_init_108) 1 dX7_init_142 rfl rfl ?_
  refine g_get (y := I_X7_init_108) (v := .ref (w.2.1 + 109)) fj_7_7 (show kd 108 = _ from rfl) (b := true) rfl (by decide) rfl dX7_init_143 ?_
  refine g_bipush (y := I_X7_init_108) (v := 66) dX7_init_146 (by decide) ?_
  refine g_bipush (y := I_X7_init_108) (v := 11) dX7_init_148 (by decide) ?_
  refine g_iload_n (y := I_X7_init_108) 0 dX7_init_150 rfl rfl ?_
  refine g_imul (y := I_X7_init_108) dX7_init_151 ?_
  refine g_st (st' := [.int (88 : Int32), .int (66 : Int32), .ref (w.2.1 + 109)]) (by rfl) ?_
  refine g_iadd (y := I_X7_init_108) dX7_init_152 ?_
  refine g_st (st' := [.int (154 : Int32), .ref (w.2.1 + 109)]) (by rfl) ?_
  refine g_iload_n (y := I_X7_init_108) 0 dX7_init_153 rfl rfl ?_
  refine g_iast (y := I_X7_init_108) (show kd 109 = _ from rfl) (by decide) (by decide) dX7_init_154 ?_
  refine g_iinc (y := I_X7_init_108) 0 (v := 9) (ls' := [(1, .int (9 : Int32)), (0, .ref (w.2.1 + 108))]) dX7_init_155 rfl (by decide) (by decide) rfl ?_
  refine g_goto (y := I_X7_init_108) 136 dX7_init_158 (by decide) ?_
  refine g_iload_n (y := I_X7_init_108) 0 dX7_init_136 rfl rfl ?_
  refine g_bipush (y := I_X7_init_108) (v := 12) dX7_init_137 (by decide) ?_
  refine g_icmp_ge (y := I_X7_init_108) 161 dX7_init_139 (by decide) (fun h => absurd h (by decide)) (fun _ => ?_)
  refine g_aload_n (y := I_X7_init_108) 1 dX7_init_142 rfl rfl ?_
  refine g_get (y := I_X7_init_108) (v := .ref (w.2.1 + 109)) fj_7_7 (show kd 108 = _ from rfl) (b := true) rfl (by decide) rfl dX7_init_143 ?_
  refine g_bipush (y := I_X7_init_108) (v := 66) dX7_init_146 (by decide) ?_
  refine g_bipush (y := I_X7_init_108) (v := 11) dX7_init_148 (by decide) ?_
  refine g_iload_n (y := I_X7_init_108) 0 dX7_init_150 rfl rfl ?_
  refine g_imul (y := I_X7_init_108) dX7_init_151 ?_
  refine g_st (st' := [.int (99 : Int32), .int (66 : Int32), .ref (w.2.1 + 109)]) (by rfl) ?_
  refine g_iadd (y := I_X7_init_108) dX7_init_152 ?_
  refine g_st (st' := [.int (165 : Int32), .ref (w.2.1 + 109)]) (by rfl) ?_
  refine g_iload_n (y := I_X7_init_108) 0 dX7_init_153 rfl rfl ?_
  refine g_iast (y := I_X7_init_108) (show kd 109 = _ from rfl) (by decide) (by decide) dX7_init_154 ?_
  refine g_iinc (y := I_X7_init_108) 0 (v := 10) (ls' := [(1, .int (10 : Int32)), (0, .ref (w.2.1 + 108))]) dX7_init_155 rfl (by decide) (by decide) rfl ?_
  refine g_goto (y := I_X7_init_108) 136 dX7_init_158 (by decide) ?_
  refine g_iload_n (y := I_X7_init_108) 0 dX7_init_136 rfl rfl ?_
  refine g_bipush (y := I_X7_init_108) (v := 12) dX7_init_137 (by decide) ?_
  refine g_icmp_ge (y := I_X7_init_108) 161 dX7_init_139 (by decide) (fun h => absurd h (by decide)) (fun _ => ?_)
  refine g_aload_n (y := I_X7_init_108) 1 dX7_init_142 rfl rfl ?_
  refine g_get (y := I_X7_init_108) (v := .ref (w.2.1 + 109)) fj_7_7 (show kd 108 = _ from rfl) (b := true) rfl (by decide) rfl dX7_init_143 ?_
  refine g_bipush (y := I_X7_init_108) (v := 66) dX7_init_146 (by decide) ?_
  refine g_bipush (y := I_X7_init_108) (v := 11) dX7_init_148 (by decide) ?_
  refine g_iload_n (y := I_X7_init_108) 0 dX7_init_150 rfl rfl ?_
  refine g_imul (y := I_X7_init_108) dX7_init_151 ?_
  refine g_st (st' := [.int (110 : Int32), .int (66 : Int32), .ref (w.2.1 + 109)]) (by rfl) ?_
  refine g_iadd (y := I_X7_init_108) dX7_init_152 ?_
  refine g_st (st' := [.int (176 : Int32), .ref (w.2.1 + 109)]) (by rfl) ?_
  refine g_iload_n (y := I_X7_init_108) 0 dX7_init_153 rfl rfl ?_
  refine g_iast (y := I_X7_init_108) (show kd 109 = _ from rfl) (by decide) (by decide) dX7_init_154 ?_
  refine g_iinc (y := I_X7_init_108) 0 (v := 11) (ls' := [(1, .int (11 : Int32)), (0, .ref (w.2.1 + 108))]) dX7_init_155 rfl (by decide) (by decide) rfl ?_
  refine g_goto (y := I_X7_init_108) 136 dX7_init_158 (by decide) ?_
  refine g_iload_n (y := I_X7_init_108) 0 dX7_init_136 rfl rfl ?_
  refine g_bipush (y := I_X7_init_108) (v := 12) dX7_init_137 (by decide) ?_
  refine g_icmp_ge (y := I_X7_init_108) 161 dX7_init_139 (by decide) (fun h => absurd h (by decide)) (fun _ => ?_)
  refine g_aload_n (y := I_X7_init_108) 1 dX7_init_142 rfl rfl ?_
  refine g_get (y := I_X7_init_108) (v := .ref (w.2.1 + 109)) fj_7_7 (show kd 108 = _ from rfl) (b := true) rfl (by decide) rfl dX7_init_143 ?_
  refine g_bipush (y := I_X7_init_108) (v := 66) dX7_init_146 (by decide) ?_
  refine g_bipush (y := I_X7_init_108) (v := 11) dX7_init_148 (by decide) ?_
  refine g_iload_n (y := I_X7_init_108) 0 dX7_init_150 rfl rfl ?_
  refine g_imul (y := I_X7_init_108) dX7_init_151 ?_
  refine g_st (st' := [.int (121 : Int32), .int (66 : Int32), .ref (w.2.1 + 109)]) (by rfl) ?_
  refine g_iadd (y := I_X7_init_108) dX7_init_152 ?_
  refine g_st (st' := [.int (187 : Int32), .ref (w.2.1 + 109)]) (by rfl) ?_
  refine g_iload_n (y := I_X7_init_108) 0 dX7_init_153 rfl rfl ?_
  refine g_iast (y := I_X7_init_108) (show kd 109 = _ from rfl) (by decide) (by decide) dX7_init_154 ?_
  refine g_iinc (y := I_X7_init_108) 0 (v := 12) (ls' := [(1, .int (12 : Int32)), (0, .ref (w.2.1 + 108))]) dX7_init_155 rfl (by decide) (by decide) rfl ?_
  refine g_goto (y := I_X7_init_108) 136 dX7_init_158 (by decide) ?_
  refine g_iload_n (y := I_X7_init_108) 0 dX7_init_136 rfl rfl ?_
  refine g_bipush (y := I_X7_init_108) (v := 12) dX7_init_137 (by decide) ?_
  refine g_icmp_ge (y := I_X7_init_108) 161 dX7_init_139 (by decide) (fun _ => ?_) (fun h => absurd (by decide) h)
  refine g_aload_n (y := I_X7_init_108) 1 dX7_init_161 rfl rfl ?_
  refine g_get (y := I_X7_init_108) (v := .ref (w.2.1 + 109)) fj_7_7 (show kd 108 = _ from rfl) (b := true) rfl (by decide) rfl dX7_init_162 ?_
  refine g_sipush (y := I_X7_init_108) (v := 783) dX7_init_165 (by decide) ?_
  refine g_iconst (y := I_X7_init_108) (v := 3) dX7_init_168 (by decide) ?_
  refine g_iast (y := I_X7_init_108) (show kd 109 = _ from rfl) (by decide) (by decide) dX7_init_169 ?_
  refine g_aload_n (y := I_X7_init_108) 1 dX7_init_170 rfl rfl ?_
  refine g_get (y := I_X7_init_108) (v := .ref (w.2.1 + 109)) fj_7_7 (show kd 108 = _ from rfl) (b := true) rfl (by decide) rfl dX7_init_171 ?_
  refine g_sipush (y := I_X7_init_108) (v := 786) dX7_init_174 (by decide) ?_
  refine g_iconst (y := I_X7_init_108) (v := -1) dX7_init_177 (by decide) ?_
  refine g_iast (y := I_X7_init_108) (show kd 109 = _ from rfl) (by decide) (by decide) dX7_init_178 ?_
  exact g_vret (y := I_X7_init_108) rfl dX7_init_179
