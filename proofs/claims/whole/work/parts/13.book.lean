abbrev I_X0_become_a : MI := (yX0_become, cX0_become, 3, none, { frames := 2, cells := 0, slots := 0, locals := 81 })
theorem dX0_become_0 : decode cX0_become 0 = .ok (.iconst 0, 1) := by decide +kernel
theorem dX0_become_1 : decode cX0_become 1 = .ok (.istore_n 2, 1) := by decide +kernel
theorem dX0_become_2 : decode cX0_become 2 = .ok (.iload_n 2, 1) := by decide +kernel
theorem dX0_become_3 : decode cX0_become 3 = .ok (.bipush 6, 2) := by decide +kernel
theorem dX0_become_5 : decode cX0_become 5 = .ok (.if_icmp .ge 24, 3) := by decide +kernel
theorem dX0_become_8 : decode cX0_become 8 = .ok (.aload_n 0, 1) := by decide +kernel
theorem dX0_become_9 : decode cX0_become 9 = .ok (.getfield 11, 3) := by decide +kernel
theorem dX0_become_12 : decode cX0_become 12 = .ok (.iload_n 2, 1) := by decide +kernel
theorem dX0_become_13 : decode cX0_become 13 = .ok (.aaload, 1) := by decide +kernel
theorem dX0_become_14 : decode cX0_become 14 = .ok (.aload_n 1, 1) := by decide +kernel
theorem dX0_become_15 : decode cX0_become 15 = .ok (.getfield 11, 3) := by decide +kernel
theorem dX0_become_18 : decode cX0_become 18 = .ok (.iload_n 2, 1) := by decide +kernel
theorem dX0_become_19 : decode cX0_become 19 = .ok (.aaload, 1) := by decide +kernel
theorem dX0_become_20 : decode cX0_become 20 = .ok (.invokevirtual 64, 3) := by decide +kernel
theorem dX0_become_23 : decode cX0_become 23 = .ok (.iinc 2 1, 3) := by decide +kernel
theorem dX0_become_26 : decode cX0_become 26 = .ok (.goto (-24), 3) := by decide +kernel
theorem dX0_become_29 : decode cX0_become 29 = .ok (.aload_n 0, 1) := by decide +kernel
theorem dX0_become_30 : decode cX0_become 30 = .ok (.aload_n 1, 1) := by decide +kernel
theorem dX0_become_31 : decode cX0_become 31 = .ok (.getfield 17, 3) := by decide +kernel
theorem dX0_become_34 : decode cX0_become 34 = .ok (.putfield 17, 3) := by decide +kernel
theorem dX0_become_37 : decode cX0_become 37 = .ok (.iconst 0, 1) := by decide +kernel
theorem dX0_become_38 : decode cX0_become 38 = .ok (.istore_n 2, 1) := by decide +kernel
theorem dX0_become_39 : decode cX0_become 39 = .ok (.iload_n 2, 1) := by decide +kernel
theorem dX0_become_40 : decode cX0_become 40 = .ok (.bipush 12, 2) := by decide +kernel
theorem dX0_become_42 : decode cX0_become 42 = .ok (.if_icmp .ge 24, 3) := by decide +kernel
theorem dX0_become_45 : decode cX0_become 45 = .ok (.aload_n 0, 1) := by decide +kernel
theorem dX0_become_46 : decode cX0_become 46 = .ok (.getfield 23, 3) := by decide +kernel
theorem dX0_become_49 : decode cX0_become 49 = .ok (.iload_n 2, 1) := by decide +kernel
theorem dX0_become_50 : decode cX0_become 50 = .ok (.aaload, 1) := by decide +kernel
theorem dX0_become_51 : decode cX0_become 51 = .ok (.aload_n 1, 1) := by decide +kernel
theorem dX0_become_52 : decode cX0_become 52 = .ok (.getfield 23, 3) := by decide +kernel
theorem dX0_become_55 : decode cX0_become 55 = .ok (.iload_n 2, 1) := by decide +kernel
theorem dX0_become_56 : decode cX0_become 56 = .ok (.aaload, 1) := by decide +kernel
theorem dX0_become_57 : decode cX0_become 57 = .ok (.invokevirtual 68, 3) := by decide +kernel
theorem dX0_become_60 : decode cX0_become 60 = .ok (.iinc 2 1, 3) := by decide +kernel
theorem dX0_become_63 : decode cX0_become 63 = .ok (.goto (-24), 3) := by decide +kernel
theorem dX0_become_66 : decode cX0_become 66 = .ok (.aload_n 0, 1) := by decide +kernel
theorem dX0_become_67 : decode cX0_become 67 = .ok (.aload_n 1, 1) := by decide +kernel
theorem dX0_become_68 : decode cX0_become 68 = .ok (.getfield 27, 3) := by decide +kernel
theorem dX0_become_71 : decode cX0_become 71 = .ok (.putfield 27, 3) := by decide +kernel
theorem dX0_become_74 : decode cX0_become 74 = .ok (.aload_n 0, 1) := by decide +kernel
theorem dX0_become_75 : decode cX0_become 75 = .ok (.aload_n 1, 1) := by decide +kernel
theorem dX0_become_76 : decode cX0_become 76 = .ok (.getfield 30, 3) := by decide +kernel
theorem dX0_become_79 : decode cX0_become 79 = .ok (.putfield 30, 3) := by decide +kernel
theorem dX0_become_82 : decode cX0_become 82 = .ok (.aload_n 0, 1) := by decide +kernel
theorem dX0_become_83 : decode cX0_become 83 = .ok (.aload_n 1, 1) := by decide +kernel
theorem dX0_become_84 : decode cX0_become 84 = .ok (.getfield 33, 3) := by decide +kernel
theorem dX0_become_87 : decode cX0_become 87 = .ok (.putfield 33, 3) := by decide +kernel
theorem dX0_become_90 : decode cX0_become 90 = .ok (.aload_n 1, 1) := by decide +kernel
theorem dX0_become_91 : decode cX0_become 91 = .ok (.getfield 36, 3) := by decide +kernel
theorem dX0_become_94 : decode cX0_become 94 = .ok (.iconst 0, 1) := by decide +kernel
theorem dX0_become_95 : decode cX0_become 95 = .ok (.aload_n 0, 1) := by decide +kernel
theorem dX0_become_96 : decode cX0_become 96 = .ok (.getfield 36, 3) := by decide +kernel
theorem dX0_become_99 : decode cX0_become 99 = .ok (.iconst 0, 1) := by decide +kernel
theorem dX0_become_100 : decode cX0_become 100 = .ok (.bipush 50, 2) := by decide +kernel
theorem dX0_become_102 : decode cX0_become 102 = .ok (.invokestatic 71, 3) := by decide +kernel
theorem dX0_become_105 : decode cX0_become 105 = .ok (.aload_n 1, 1) := by decide +kernel
theorem dX0_become_106 : decode cX0_become 106 = .ok (.getfield 40, 3) := by decide +kernel
theorem dX0_become_109 : decode cX0_become 109 = .ok (.iconst 0, 1) := by decide +kernel
theorem dX0_become_110 : decode cX0_become 110 = .ok (.aload_n 0, 1) := by decide +kernel
theorem dX0_become_111 : decode cX0_become 111 = .ok (.getfield 40, 3) := by decide +kernel
theorem dX0_become_114 : decode cX0_become 114 = .ok (.iconst 0, 1) := by decide +kernel
theorem dX0_become_115 : decode cX0_become 115 = .ok (.bipush 50, 2) := by decide +kernel
theorem dX0_become_117 : decode cX0_become 117 = .ok (.invokestatic 71, 3) := by decide +kernel
theorem dX0_become_120 : decode cX0_become 120 = .ok (.aload_n 1, 1) := by decide +kernel
theorem dX0_become_121 : decode cX0_become 121 = .ok (.getfield 43, 3) := by decide +kernel
theorem dX0_become_124 : decode cX0_become 124 = .ok (.iconst 0, 1) := by decide +kernel
theorem dX0_become_125 : decode cX0_become 125 = .ok (.aload_n 0, 1) := by decide +kernel
theorem dX0_become_126 : decode cX0_become 126 = .ok (.getfield 43, 3) := by decide +kernel
theorem dX0_become_129 : decode cX0_become 129 = .ok (.iconst 0, 1) := by decide +kernel
theorem dX0_become_130 : decode cX0_become 130 = .ok (.bipush 50, 2) := by decide +kernel
theorem dX0_become_132 : decode cX0_become 132 = .ok (.invokestatic 71, 3) := by decide +kernel
theorem dX0_become_135 : decode cX0_become 135 = .ok (.aload_n 0, 1) := by decide +kernel
theorem dX0_become_136 : decode cX0_become 136 = .ok (.aload_n 1, 1) := by decide +kernel
theorem dX0_become_137 : decode cX0_become 137 = .ok (.getfield 46, 3) := by decide +kernel
theorem dX0_become_140 : decode cX0_become 140 = .ok (.putfield 46, 3) := by decide +kernel
theorem dX0_become_143 : decode cX0_become 143 = .ok (.aload_n 0, 1) := by decide +kernel
theorem dX0_become_144 : decode cX0_become 144 = .ok (.aload_n 1, 1) := by decide +kernel
theorem dX0_become_145 : decode cX0_become 145 = .ok (.getfield 49, 3) := by decide +kernel
theorem dX0_become_148 : decode cX0_become 148 = .ok (.putfield 49, 3) := by decide +kernel
theorem dX0_become_151 : decode cX0_become 151 = .ok (.aload_n 0, 1) := by decide +kernel
theorem dX0_become_152 : decode cX0_become 152 = .ok (.aload_n 1, 1) := by decide +kernel
theorem dX0_become_153 : decode cX0_become 153 = .ok (.getfield 52, 3) := by decide +kernel
theorem dX0_become_156 : decode cX0_become 156 = .ok (.putfield 52, 3) := by decide +kernel
theorem dX0_become_159 : decode cX0_become 159 = .ok (.aload_n 1, 1) := by decide +kernel
theorem dX0_become_160 : decode cX0_become 160 = .ok (.getfield 55, 3) := by decide +kernel
theorem dX0_become_163 : decode cX0_become 163 = .ok (.iconst 0, 1) := by decide +kernel
theorem dX0_become_164 : decode cX0_become 164 = .ok (.aload_n 0, 1) := by decide +kernel
theorem dX0_become_165 : decode cX0_become 165 = .ok (.getfield 55, 3) := by decide +kernel
theorem dX0_become_168 : decode cX0_become 168 = .ok (.iconst 0, 1) := by decide +kernel
theorem dX0_become_169 : decode cX0_become 169 = .ok (.bipush 10, 2) := by decide +kernel
theorem dX0_become_171 : decode cX0_become 171 = .ok (.invokestatic 71, 3) := by decide +kernel
theorem dX0_become_174 : decode cX0_become 174 = .ok (.return_, 1) := by decide +kernel
theorem cv_0_64 : CV RX0 64 1 5 I_X5_become := ⟨⟨⟨gm 769 (by decide +kernel) rfl, gm 772 (by decide +kernel) rfl, gm 39 (by decide +kernel) rfl, mh_5.1, mh_5.2, by decide +kernel⟩, gm 770 (by decide +kernel) rfl, gm 771 (by decide +kernel) rfl⟩, ⟨_, _, rfl⟩, rfl, rfl⟩
theorem cv_0_68 : CV RX0 68 1 2 I_X2_become := ⟨⟨⟨gm 774 (by decide +kernel) rfl, gm 777 (by decide +kernel) rfl, gm 40 (by decide +kernel) rfl, mh_2.1, mh_2.2, by decide +kernel⟩, gm 775 (by decide +kernel) rfl, gm 776 (by decide +kernel) rfl⟩, ⟨_, _, rfl⟩, rfl, rfl⟩
def f_X0_become_a_L2 (fuel : Nat) (K : St → Option (St)) (a2_2 : Int32) (S2 : St) : Option (St) := match fuel with
  | 0 => none
  | n + 1 => if a2_2 < (6 : Int32) then (if inb a2_2 6 = true then (if inb a2_2 6 = true then ((f_X5_become (51 + 2 * ix a2_2) (8 + 2 * ix a2_2) S2).bind fun v20 => (f_X0_become_a_L2 n K (a2_2 + (1 : Int32)) v20)) else none) else none) else (K S2)
def f_X0_become_a_L39 (fuel : Nat) (K : St → Option (St)) (a39_2 : Int32) (S39 : St) : Option (St) := match fuel with
  | 0 => none
  | n + 1 => if a39_2 < (12 : Int32) then (if inb a39_2 12 = true then (if inb a39_2 12 = true then ((f_X2_become (63 + 2 * ix a39_2) (20 + 2 * ix a39_2) S39).bind fun v57 => (f_X0_become_a_L39 n K (a39_2 + (1 : Int32)) v57)) else none) else none) else (K S39)
def f_X0_become_a  (S : St) : Option (St) := f_X0_become_a_L2 6000 (fun T29 => (f_X0_become_a_L39 6000 (fun T66 => (if cpok (0 : Int32) (0 : Int32) (50 : Int32) 50 50 = true then (if cpok (0 : Int32) (0 : Int32) (50 : Int32) 50 50 = true then (if cpok (0 : Int32) (0 : Int32) (50 : Int32) 50 50 = true then (if cpok (0 : Int32) (0 : Int32) (10 : Int32) 10 10 = true then (some (cpL (wr (wr (wr (cpI (cpI (cpI (wr (wr (wr T66 44 3 (rd T66 1 3)) 44 4 (rd (wr T66 44 3 (rd T66 1 3)) 1 4)) 44 5 (rd (wr (wr T66 44 3 (rd T66 1 3)) 44 4 (rd (wr T66 44 3 (rd T66 1 3)) 1 4)) 1 5)) 4 47 (ix (0 : Int32)) (ix (0 : Int32)) (ix (50 : Int32))) 5 48 (ix (0 : Int32)) (ix (0 : Int32)) (ix (50 : Int32))) 6 49 (ix (0 : Int32)) (ix (0 : Int32)) (ix (50 : Int32))) 44 9 (rd (cpI (cpI (cpI (wr (wr (wr T66 44 3 (rd T66 1 3)) 44 4 (rd (wr T66 44 3 (rd T66 1 3)) 1 4)) 44 5 (rd (wr (wr T66 44 3 (rd T66 1 3)) 44 4 (rd (wr T66 44 3 (rd T66 1 3)) 1 4)) 1 5)) 4 47 (ix (0 : Int32)) (ix (0 : Int32)) (ix (50 : Int32))) 5 48 (ix (0 : Int32)) (ix (0 : Int32)) (ix (50 : Int32))) 6 49 (ix (0 : Int32)) (ix (0 : Int32)) (ix (50 : Int32))) 1 9)) 44 10 (rd (wr (cpI (cpI (cpI (wr (wr (wr T66 44 3 (rd T66 1 3)) 44 4 (rd (wr T66 44 3 (rd T66 1 3)) 1 4)) 44 5 (rd (wr (wr T66 44 3 (rd T66 1 3)) 44 4 (rd (wr T66 44 3 (rd T66 1 3)) 1 4)) 1 5)) 4 47 (ix (0 : Int32)) (ix (0 : Int32)) (ix (50 : Int32))) 5 48 (ix (0 : Int32)) (ix (0 : Int32)) (ix (50 : Int32))) 6 49 (ix (0 : Int32)) (ix (0 : Int32)) (ix (50 : Int32))) 44 9 (rd (cpI (cpI (cpI (wr (wr (wr T66 44 3 (rd T66 1 3)) 44 4 (rd (wr T66 44 3 (rd T66 1 3)) 1 4)) 44 5 (rd (wr (wr T66 44 3 (rd T66 1 3)) 44 4 (rd (wr T66 44 3 (rd T66 1 3)) 1 4)) 1 5)) 4 47 (ix (0 : Int32)) (ix (0 : Int32)) (ix (50 : Int32))) 5 48 (ix (0 : Int32)) (ix (0 : Int32)) (ix (50 : Int32))) 6 49 (ix (0 : Int32)) (ix (0 : Int32)) (ix (50 : Int32))) 1 9)) 1 10)) 44 11 (rd (wr (wr (cpI (cpI (cpI (wr (wr (wr T66 44 3 (rd T66 1 3)) 44 4 (rd (wr T66 44 3 (rd T66 1 3)) 1 4)) 44 5 (rd (wr (wr T66 44 3 (rd T66 1 3)) 44 4 (rd (wr T66 44 3 (rd T66 1 3)) 1 4)) 1 5)) 4 47 (ix (0 : Int32)) (ix (0 : Int32)) (ix (50 : Int32))) 5 48 (ix (0 : Int32)) (ix (0 : Int32)) (ix (50 : Int32))) 6 49 (ix (0 : Int32)) (ix (0 : Int32)) (ix (50 : Int32))) 44 9 (rd (cpI (cpI (cpI (wr (wr (wr T66 44 3 (rd T66 1 3)) 44 4 (rd (wr T66 44 3 (rd T66 1 3)) 1 4)) 44 5 (rd (wr (wr T66 44 3 (rd T66 1 3)) 44 4 (rd (wr T66 44 3 (rd T66 1 3)) 1 4)) 1 5)) 4 47 (ix (0 : Int32)) (ix (0 : Int32)) (ix (50 : Int32))) 5 48 (ix (0 : Int32)) (ix (0 : Int32)) (ix (50 : Int32))) 6 49 (ix (0 : Int32)) (ix (0 : Int32)) (ix (50 : Int32))) 1 9)) 44 10 (rd (wr (cpI (cpI (cpI (wr (wr (wr T66 44 3 (rd T66 1 3)) 44 4 (rd (wr T66 44 3 (rd T66 1 3)) 1 4)) 44 5 (rd (wr (wr T66 44 3 (rd T66 1 3)) 44 4 (rd (wr T66 44 3 (rd T66 1 3)) 1 4)) 1 5)) 4 47 (ix (0 : Int32)) (ix (0 : Int32)) (ix (50 : Int32))) 5 48 (ix (0 : Int32)) (ix (0 : Int32)) (ix (50 : Int32))) 6 49 (ix (0 : Int32)) (ix (0 : Int32)) (ix (50 : Int32))) 44 9 (rd (cpI (cpI (cpI (wr (wr (wr T66 44 3 (rd T66 1 3)) 44 4 (rd (wr T66 44 3 (rd T66 1 3)) 1 4)) 44 5 (rd (wr (wr T66 44 3 (rd T66 1 3)) 44 4 (rd (wr T66 44 3 (rd T66 1 3)) 1 4)) 1 5)) 4 47 (ix (0 : Int32)) (ix (0 : Int32)) (ix (50 : Int32))) 5 48 (ix (0 : Int32)) (ix (0 : Int32)) (ix (50 : Int32))) 6 49 (ix (0 : Int32)) (ix (0 : Int32)) (ix (50 : Int32))) 1 9)) 1 10)) 1 11)) 7 50 (ix (0 : Int32)) (ix (0 : Int32)) (ix (10 : Int32)))) else none) else none) else none) else none)) (0 : Int32) (wr T29 44 1 (rd T29 1 1)))) (0 : Int32) S
set_option maxRecDepth 100000 in
theorem jl_X0_become_a_2 (l : Launch) (w : Wd) (K : St → Option (St)) (n : Nat) : ∀ (a2_2 : Int32) (S2 : St), (∀  (S' : St) , J l w I_X0_become_a 29 [(0, .ref (w.2.1 + 44)), (1, .ref (w.2.1 + 1))] [] S' (fun b => (none, b)) (K  S')) → J l w I_X0_become_a 2 [(0, .ref (w.2.1 + 44)), (1, .ref (w.2.1 + 1)), (2, .int a2_2)] [] S2 (fun b => (none, b)) (f_X0_become_a_L2 n K a2_2 S2) := by
  induction n with
  | zero =>
    intro a2_2 S2 hK b h
    simp only [f_X0_become_a_L2] at h
    cases h
  | succ n ih =>
    intro a2_2 S2 hK
    rw [f_X0_become_a_L2]
    refine j_iload_n (y := I_X0_become_a) 2 dX0_become_2 rfl rfl ?_
    refine j_bipush (y := I_X0_become_a) (v := 6) dX0_become_3 (by decide) ?_
    refine j_icmp_ge (y := I_X0_become_a) 29 dX0_become_5 (by decide) (fun h5 => ?_) (fun h5 => ?_)
    · refine j_sub [0, 1] rfl ?_
      exact hK S2
    · refine j_aload_n (y := I_X0_become_a) 0 dX0_become_8 rfl rfl ?_
      refine j_getR (y := I_X0_become_a) (j := 45) fl_0_11 k_44 rfl rfl dX0_become_9 ?_
      refine j_iload_n (y := I_X0_become_a) 2 dX0_become_12 rfl rfl ?_
      refine j_aald (y := I_X0_become_a) (j := (51 + 2 * ix a2_2)) (tt := 0) k_45 rfl (rho_45 _) dX0_become_13 (fun h13 => ?_)
      refine j_aload_n (y := I_X0_become_a) 1 dX0_become_14 rfl rfl ?_
      refine j_getR (y := I_X0_become_a) (j := 2) fl_0_11 k_1 rfl rfl dX0_become_15 ?_
      refine j_iload_n (y := I_X0_become_a) 2 dX0_become_18 rfl rfl ?_
      refine j_aald (y := I_X0_become_a) (j := (8 + 2 * ix a2_2)) (tt := 0) k_2 rfl (rho_2 _) dX0_become_19 (fun h19 => ?_)
      refine j_callVvS (y := I_X0_become_a) (As := [.ref (w.2.1 + (8 + 2 * ix a2_2))]) cv_0_64 ⟨Nat.le_of_ble_eq_true rfl, Nat.le_of_ble_eq_true rfl⟩ (kd_SoK _ (inb_lt h13)) rfl (Nat.le_of_ble_eq_true rfl) dX0_become_20 (c_X5_become l w (51 + 2 * ix a2_2) (8 + 2 * ix a2_2) S2 (kd_SoK _ (inb_lt h13)) (kd_So _ (inb_lt h19))) (fun v20 h20 => ?_)
      refine j_iinc (y := I_X0_become_a) 2 (ls' := [(2, .int (a2_2 + (1 : Int32))), (0, .ref (w.2.1 + 44)), (1, .ref (w.2.1 + 1))]) dX0_become_23 rfl (ii _ _ (by decide) _) (by decide) rfl ?_
      refine j_goto (y := I_X0_become_a) 2 dX0_become_26 (by decide) ?_
      refine j_sub [1, 2, 0] rfl ?_
      exact ih (a2_2 + (1 : Int32)) v20 hK
set_option maxRecDepth 100000 in
theorem jl_X0_become_a_39 (l : Launch) (w : Wd) (K : St → Option (St)) (n : Nat) : ∀ (a39_2 : Int32) (S39 : St), (∀  (S' : St) , J l w I_X0_become_a 66 [(0, .ref (w.2.1 + 44)), (1, .ref (w.2.1 + 1))] [] S' (fun b => (none, b)) (K  S')) → J l w I_X0_become_a 39 [(0, .ref (w.2.1 + 44)), (1, .ref (w.2.1 + 1)), (2, .int a39_2)] [] S39 (fun b => (none, b)) (f_X0_become_a_L39 n K a39_2 S39) := by
  induction n with
  | zero =>
    intro a39_2 S39 hK b h
    simp only [f_X0_become_a_L39] at h
    cases h
  | succ n ih =>
    intro a39_2 S39 hK
    rw [f_X0_become_a_L39]
    refine j_iload_n (y := I_X0_become_a) 2 dX0_become_39 rfl rfl ?_
    refine j_bipush (y := I_X0_become_a) (v := 12) dX0_become_40 (by decide) ?_
    refine j_icmp_ge (y := I_X0_become_a) 66 dX0_become_42 (by decide) (fun h42 => ?_) (fun h42 => ?_)
    · refine j_sub [0, 1] rfl ?_
      exact hK S39
    · refine j_aload_n (y := I_X0_become_a) 0 dX0_become_45 rfl rfl ?_
      refine j_getR (y := I_X0_become_a) (j := 46) fl_0_23 k_44 rfl rfl dX0_become_46 ?_
      refine j_iload_n (y := I_X0_become_a) 2 dX0_become_49 rfl rfl ?_
      refine j_aald (y := I_X0_become_a) (j := (63 + 2 * ix a39_2)) (tt := 1) k_46 rfl (rho_46 _) dX0_become_50 (fun h50 => ?_)
      refine j_aload_n (y := I_X0_become_a) 1 dX0_become_51 rfl rfl ?_
      refine j_getR (y := I_X0_become_a) (j := 3) fl_0_23 k_1 rfl rfl dX0_become_52 ?_
      refine j_iload_n (y := I_X0_become_a) 2 dX0_become_55 rfl rfl ?_
      refine j_aald (y := I_X0_become_a) (j := (20 + 2 * ix a39_2)) (tt := 1) k_3 rfl (rho_3 _) dX0_become_56 (fun h56 => ?_)
      refine j_callVvS (y := I_X0_become_a) (As := [.ref (w.2.1 + (20 + 2 * ix a39_2))]) cv_0_68 ⟨Nat.le_of_ble_eq_true rfl, Nat.le_of_ble_eq_true rfl⟩ (kd_PlK _ (inb_lt h50)) rfl (Nat.le_of_ble_eq_true rfl) dX0_become_57 (c_X2_become l w (63 + 2 * ix a39_2) (20 + 2 * ix a39_2) S39 (kd_PlK _ (inb_lt h50)) (kd_Pl _ (inb_lt h56))) (fun v57 h57 => ?_)
      refine j_iinc (y := I_X0_become_a) 2 (ls' := [(2, .int (a39_2 + (1 : Int32))), (0, .ref (w.2.1 + 44)), (1, .ref (w.2.1 + 1))]) dX0_become_60 rfl (ii _ _ (by decide) _) (by decide) rfl ?_
      refine j_goto (y := I_X0_become_a) 39 dX0_become_63 (by decide) ?_
      refine j_sub [1, 2, 0] rfl ?_
      exact ih (a39_2 + (1 : Int32)) v57 hK
set_option maxRecDepth 100000 in
set_option maxHeartbeats 4000000 in
theorem m_X0_become_a (l : Launch) (w : Wd)  (S : St)  : J l w I_X0_become_a 0 [(0, .ref (w.2.1 + 44)), (1, .ref (w.2.1 + 1))] [] S (fun b => (none, b)) (f_X0_become_a S) := by
  unfold f_X0_become_a
  refine j_iconst (y := I_X0_become_a) (v := 0) dX0_become_0 (by decide) ?_
  refine j_istore_n (y := I_X0_become_a) (ls' := [(2, .int (0 : Int32)), (0, .ref (w.2.1 + 44)), (1, .ref (w.2.1 + 1))]) dX0_become_1 rfl (by decide) rfl ?_
  refine j_sub [1, 2, 0] rfl ?_
  refine jl_X0_become_a_2 l w _ 6000 (0 : Int32) S  (fun T29 => ?_)
  refine j_aload_n (y := I_X0_become_a) 0 dX0_become_29 rfl rfl ?_
  refine j_aload_n (y := I_X0_become_a) 1 dX0_become_30 rfl rfl ?_
  refine j_getI (y := I_X0_become_a) fl_0_17 k_1 rfl dX0_become_31 ?_
  refine j_putI (y := I_X0_become_a) fp_0_17 k_44 rfl rfl rfl dX0_become_34 ?_
  refine j_iconst (y := I_X0_become_a) (v := 0) dX0_become_37 (by decide) ?_
  refine j_istore_n (y := I_X0_become_a) (ls' := [(2, .int (0 : Int32)), (0, .ref (w.2.1 + 44)), (1, .ref (w.2.1 + 1))]) dX0_become_38 rfl (by decide) rfl ?_
  refine j_sub [1, 2, 0] rfl ?_
  refine jl_X0_become_a_39 l w _ 6000 (0 : Int32) (wr T29 44 1 (rd T29 1 1))  (fun T66 => ?_)
  refine j_aload_n (y := I_X0_become_a) 0 dX0_become_66 rfl rfl ?_
  refine j_aload_n (y := I_X0_become_a) 1 dX0_become_67 rfl rfl ?_
  refine j_getI (y := I_X0_become_a) fl_0_27 k_1 rfl dX0_become_68 ?_
  refine j_putI (y := I_X0_become_a) fp_0_27 k_44 rfl rfl rfl dX0_become_71 ?_
  refine j_aload_n (y := I_X0_become_a) 0 dX0_become_74 rfl rfl ?_
  refine j_aload_n (y := I_X0_become_a) 1 dX0_become_75 rfl rfl ?_
  refine j_getI (y := I_X0_become_a) fl_0_30 k_1 rfl dX0_become_76 ?_
  refine j_putI (y := I_X0_become_a) fp_0_30 k_44 rfl rfl rfl dX0_become_79 ?_
  refine j_aload_n (y := I_X0_become_a) 0 dX0_become_82 rfl rfl ?_
  refine j_aload_n (y := I_X0_become_a) 1 dX0_become_83 rfl rfl ?_
  refine j_getI (y := I_X0_become_a) fl_0_33 k_1 rfl dX0_become_84 ?_
  refine j_putI (y := I_X0_become_a) fp_0_33 k_44 rfl rfl rfl dX0_become_87 ?_
  refine j_aload_n (y := I_X0_become_a) 1 dX0_become_90 rfl rfl ?_
  refine j_getR (y := I_X0_become_a) (j := 4) fl_0_36 k_1 rfl rfl dX0_become_91 ?_
  refine j_iconst (y := I_X0_become_a) (v := 0) dX0_become_94 (by decide) ?_
  refine j_aload_n (y := I_X0_become_a) 0 dX0_become_95 rfl rfl ?_
  refine j_getR (y := I_X0_become_a) (j := 47) fl_0_36 k_44 rfl rfl dX0_become_96 ?_
  refine j_iconst (y := I_X0_become_a) (v := 0) dX0_become_99 (by decide) ?_
  refine j_bipush (y := I_X0_become_a) (v := 50) dX0_become_100 (by decide) ?_
  refine j_cpI (y := I_X0_become_a) (gm 779 (by decide +kernel) rfl) (gm 476 (by decide +kernel) rfl) (gm 475 (by decide +kernel) rfl) (gm 46 (by decide +kernel) rfl) k_4 k_47 ⟨by decide, by decide⟩ (Nat.le_of_ble_eq_true rfl) (Nat.le_of_ble_eq_true rfl) dX0_become_102 ?_
  refine j_aload_n (y := I_X0_become_a) 1 dX0_become_105 rfl rfl ?_
  refine j_getR (y := I_X0_become_a) (j := 5) fl_0_40 k_1 rfl rfl dX0_become_106 ?_
  refine j_iconst (y := I_X0_become_a) (v := 0) dX0_become_109 (by decide) ?_
  refine j_aload_n (y := I_X0_become_a) 0 dX0_become_110 rfl rfl ?_
  refine j_getR (y := I_X0_become_a) (j := 48) fl_0_40 k_44 rfl rfl dX0_become_111 ?_
  refine j_iconst (y := I_X0_become_a) (v := 0) dX0_become_114 (by decide) ?_
  refine j_bipush (y := I_X0_become_a) (v := 50) dX0_become_115 (by decide) ?_
  refine j_cpI (y := I_X0_become_a) (gm 779 (by decide +kernel) rfl) (gm 476 (by decide +kernel) rfl) (gm 475 (by decide +kernel) rfl) (gm 46 (by decide +kernel) rfl) k_5 k_48 ⟨by decide, by decide⟩ (Nat.le_of_ble_eq_true rfl) (Nat.le_of_ble_eq_true rfl) dX0_become_117 ?_
  refine j_aload_n (y := I_X0_become_a) 1 dX0_become_120 rfl rfl ?_
  refine j_getR (y := I_X0_become_a) (j := 6) fl_0_43 k_1 rfl rfl dX0_become_121 ?_
  refine j_iconst (y := I_X0_become_a) (v := 0) dX0_become_124 (by decide) ?_
  refine j_aload_n (y := I_X0_become_a) 0 dX0_become_125 rfl rfl ?_
  refine j_getR (y := I_X0_become_a) (j := 49) fl_0_43 k_44 rfl rfl dX0_become_126 ?_
  refine j_iconst (y := I_X0_become_a) (v := 0) dX0_become_129 (by decide) ?_
  refine j_bipush (y := I_X0_become_a) (v := 50) dX0_become_130 (by decide) ?_
  refine j_cpI (y := I_X0_become_a) (gm 779 (by decide +kernel) rfl) (gm 476 (by decide +kernel) rfl) (gm 475 (by decide +kernel) rfl) (gm 46 (by decide +kernel) rfl) k_6 k_49 ⟨by decide, by decide⟩ (Nat.le_of_ble_eq_true rfl) (Nat.le_of_ble_eq_true rfl) dX0_become_132 ?_
  refine j_aload_n (y := I_X0_become_a) 0 dX0_become_135 rfl rfl ?_
  refine j_aload_n (y := I_X0_become_a) 1 dX0_become_136 rfl rfl ?_
  refine j_getI (y := I_X0_become_a) fl_0_46 k_1 rfl dX0_become_137 ?_
  refine j_putI (y := I_X0_become_a) fp_0_46 k_44 rfl rfl rfl dX0_become_140 ?_
  refine j_aload_n (y := I_X0_become_a) 0 dX0_become_143 rfl rfl ?_
  refine j_aload_n (y := I_X0_become_a) 1 dX0_become_144 rfl rfl ?_
  refine j_getI (y := I_X0_become_a) fl_0_49 k_1 rfl dX0_become_145 ?_
  refine j_putI (y := I_X0_become_a) fp_0_49 k_44 rfl rfl rfl dX0_become_148 ?_
  refine j_aload_n (y := I_X0_become_a) 0 dX0_become_151 rfl rfl ?_
  refine j_aload_n (y := I_X0_become_a) 1 dX0_become_152 rfl rfl ?_
  refine j_getI (y := I_X0_become_a) fl_0_52 k_1 rfl dX0_become_153 ?_
  refine j_putI (y := I_X0_become_a) fp_0_52 k_44 rfl rfl rfl dX0_become_156 ?_
  refine j_aload_n (y := I_X0_become_a) 1 dX0_become_159 rfl rfl ?_
  refine j_getR (y := I_X0_become_a) (j := 7) fl_0_55 k_1 rfl rfl dX0_become_160 ?_
  refine j_iconst (y := I_X0_become_a) (v := 0) dX0_become_163 (by decide) ?_
  refine j_aload_n (y := I_X0_become_a) 0 dX0_become_164 rfl rfl ?_
  refine j_getR (y := I_X0_become_a) (j := 50) fl_0_55 k_44 rfl rfl dX0_become_165 ?_
  refine j_iconst (y := I_X0_become_a) (v := 0) dX0_become_168 (by decide) ?_
  refine j_bipush (y := I_X0_become_a) (v := 10) dX0_become_169 (by decide) ?_
  refine j_cpL (y := I_X0_become_a) (gm 779 (by decide +kernel) rfl) (gm 476 (by decide +kernel) rfl) (gm 475 (by decide +kernel) rfl) (gm 46 (by decide +kernel) rfl) k_7 k_50 ⟨by decide, by decide⟩ (Nat.le_of_ble_eq_true rfl) (Nat.le_of_ble_eq_true rfl) dX0_become_171 ?_
  exact j_vret (y := I_X0_become_a) rfl dX0_become_174 rfl
theorem c_X0_become_a (l : Launch) (w : Wd)  (S : St)  : ∀ v, f_X0_become_a S = some v → CtS l w I_X0_become_a [.ref (w.2.1 + 44), .ref (w.2.1 + 1)] S v none := fun v h => J.ct (av := [.ref (w.2.1 + 44), .ref (w.2.1 + 1)]) (Nat.le_of_ble_eq_true rfl) pn_0 (m_X0_become_a l w  S ) h
abbrev I_X0_become_b : MI := (yX0_become, cX0_become, 3, none, { frames := 2, cells := 0, slots := 0, locals := 81 })
def f_X0_become_b_L2 (fuel : Nat) (K : St → Option (St)) (a2_2 : Int32) (S2 : St) : Option (St) := match fuel with
  | 0 => none
  | n + 1 => if a2_2 < (6 : Int32) then (if inb a2_2 6 = true then (if inb a2_2 6 = true then ((f_X5_become (8 + 2 * ix a2_2) (51 + 2 * ix a2_2) S2).bind fun v20 => (f_X0_become_b_L2 n K (a2_2 + (1 : Int32)) v20)) else none) else none) else (K S2)
def f_X0_become_b_L39 (fuel : Nat) (K : St → Option (St)) (a39_2 : Int32) (S39 : St) : Option (St) := match fuel with
  | 0 => none
  | n + 1 => if a39_2 < (12 : Int32) then (if inb a39_2 12 = true then (if inb a39_2 12 = true then ((f_X2_become (20 + 2 * ix a39_2) (63 + 2 * ix a39_2) S39).bind fun v57 => (f_X0_become_b_L39 n K (a39_2 + (1 : Int32)) v57)) else none) else none) else (K S39)
def f_X0_become_b  (S : St) : Option (St) := f_X0_become_b_L2 6000 (fun T29 => (f_X0_become_b_L39 6000 (fun T66 => (if cpok (0 : Int32) (0 : Int32) (50 : Int32) 50 50 = true then (if cpok (0 : Int32) (0 : Int32) (50 : Int32) 50 50 = true then (if cpok (0 : Int32) (0 : Int32) (50 : Int32) 50 50 = true then (if cpok (0 : Int32) (0 : Int32) (10 : Int32) 10 10 = true then (some (cpL (wr (wr (wr (cpI (cpI (cpI (wr (wr (wr T66 1 3 (rd T66 44 3)) 1 4 (rd (wr T66 1 3 (rd T66 44 3)) 44 4)) 1 5 (rd (wr (wr T66 1 3 (rd T66 44 3)) 1 4 (rd (wr T66 1 3 (rd T66 44 3)) 44 4)) 44 5)) 47 4 (ix (0 : Int32)) (ix (0 : Int32)) (ix (50 : Int32))) 48 5 (ix (0 : Int32)) (ix (0 : Int32)) (ix (50 : Int32))) 49 6 (ix (0 : Int32)) (ix (0 : Int32)) (ix (50 : Int32))) 1 9 (rd (cpI (cpI (cpI (wr (wr (wr T66 1 3 (rd T66 44 3)) 1 4 (rd (wr T66 1 3 (rd T66 44 3)) 44 4)) 1 5 (rd (wr (wr T66 1 3 (rd T66 44 3)) 1 4 (rd (wr T66 1 3 (rd T66 44 3)) 44 4)) 44 5)) 47 4 (ix (0 : Int32)) (ix (0 : Int32)) (ix (50 : Int32))) 48 5 (ix (0 : Int32)) (ix (0 : Int32)) (ix (50 : Int32))) 49 6 (ix (0 : Int32)) (ix (0 : Int32)) (ix (50 : Int32))) 44 9)) 1 10 (rd (wr (cpI (cpI (cpI (wr (wr (wr T66 1 3 (rd T66 44 3)) 1 4 (rd (wr T66 1 3 (rd T66 44 3)) 44 4)) 1 5 (rd (wr (wr T66 1 3 (rd T66 44 3)) 1 4 (rd (wr T66 1 3 (rd T66 44 3)) 44 4)) 44 5)) 47 4 (ix (0 : Int32)) (ix (0 : Int32)) (ix (50 : Int32))) 48 5 (ix (0 : Int32)) (ix (0 : Int32)) (ix (50 : Int32))) 49 6 (ix (0 : Int32)) (ix (0 : Int32)) (ix (50 : Int32))) 1 9 (rd (cpI (cpI (cpI (wr (wr (wr T66 1 3 (rd T66 44 3)) 1 4 (rd (wr T66 1 3 (rd T66 44 3)) 44 4)) 1 5 (rd (wr (wr T66 1 3 (rd T66 44 3)) 1 4 (rd (wr T66 1 3 (rd T66 44 3)) 44 4)) 44 5)) 47 4 (ix (0 : Int32)) (ix (0 : Int32)) (ix (50 : Int32))) 48 5 (ix (0 : Int32)) (ix (0 : Int32)) (ix (50 : Int32))) 49 6 (ix (0 : Int32)) (ix (0 : Int32)) (ix (50 : Int32))) 44 9)) 44 10)) 1 11 (rd (wr (wr (cpI (cpI (cpI (wr (wr (wr T66 1 3 (rd T66 44 3)) 1 4 (rd (wr T66 1 3 (rd T66 44 3)) 44 4)) 1 5 (rd (wr (wr T66 1 3 (rd T66 44 3)) 1 4 (rd (wr T66 1 3 (rd T66 44 3)) 44 4)) 44 5)) 47 4 (ix (0 : Int32)) (ix (0 : Int32)) (ix (50 : Int32))) 48 5 (ix (0 : Int32)) (ix (0 : Int32)) (ix (50 : Int32))) 49 6 (ix (0 : Int32)) (ix (0 : Int32)) (ix (50 : Int32))) 1 9 (rd (cpI (cpI (cpI (wr (wr (wr T66 1 3 (rd T66 44 3)) 1 4 (rd (wr T66 1 3 (rd T66 44 3)) 44 4)) 1 5 (rd (wr (wr T66 1 3 (rd T66 44 3)) 1 4 (rd (wr T66 1 3 (rd T66 44 3)) 44 4)) 44 5)) 47 4 (ix (0 : Int32)) (ix (0 : Int32)) (ix (50 : Int32))) 48 5 (ix (0 : Int32)) (ix (0 : Int32)) (ix (50 : Int32))) 49 6 (ix (0 : Int32)) (ix (0 : Int32)) (ix (50 : Int32))) 44 9)) 1 10 (rd (wr (cpI (cpI (cpI (wr (wr (wr T66 1 3 (rd T66 44 3)) 1 4 (rd (wr T66 1 3 (rd T66 44 3)) 44 4)) 1 5 (rd (wr (wr T66 1 3 (rd T66 44 3)) 1 4 (rd (wr T66 1 3 (rd T66 44 3)) 44 4)) 44 5)) 47 4 (ix (0 : Int32)) (ix (0 : Int32)) (ix (50 : Int32))) 48 5 (ix (0 : Int32)) (ix (0 : Int32)) (ix (50 : Int32))) 49 6 (ix (0 : Int32)) (ix (0 : Int32)) (ix (50 : Int32))) 1 9 (rd (cpI (cpI (cpI (wr (wr (wr T66 1 3 (rd T66 44 3)) 1 4 (rd (wr T66 1 3 (rd T66 44 3)) 44 4)) 1 5 (rd (wr (wr T66 1 3 (rd T66 44 3)) 1 4 (rd (wr T66 1 3 (rd T66 44 3)) 44 4)) 44 5)) 47 4 (ix (0 : Int32)) (ix (0 : Int32)) (ix (50 : Int32))) 48 5 (ix (0 : Int32)) (ix (0 : Int32)) (ix (50 : Int32))) 49 6 (ix (0 : Int32)) (ix (0 : Int32)) (ix (50 : Int32))) 44 9)) 44 10)) 44 11)) 50 7 (ix (0 : Int32)) (ix (0 : Int32)) (ix (10 : Int32)))) else none) else none) else none) else none)) (0 : Int32) (wr T29 1 1 (rd T29 44 1)))) (0 : Int32) S
set_option maxRecDepth 100000 in
theorem jl_X0_become_b_2 (l : Launch) (w : Wd) (K : St → Option (St)) (n : Nat) : ∀ (a2_2 : Int32) (S2 : St), (∀  (S' : St) , J l w I_X0_become_b 29 [(0, .ref (w.2.1 + 1)), (1, .ref (w.2.1 + 44))] [] S' (fun b => (none, b)) (K  S')) → J l w I_X0_become_b 2 [(0, .ref (w.2.1 + 1)), (1, .ref (w.2.1 + 44)), (2, .int a2_2)] [] S2 (fun b => (none, b)) (f_X0_become_b_L2 n K a2_2 S2) := by
  induction n with
  | zero =>
    intro a2_2 S2 hK b h
    simp only [f_X0_become_b_L2] at h
    cases h
  | succ n ih =>
    intro a2_2 S2 hK
    rw [f_X0_become_b_L2]
    refine j_iload_n (y := I_X0_become_b) 2 dX0_become_2 rfl rfl ?_
    refine j_bipush (y := I_X0_become_b) (v := 6) dX0_become_3 (by decide) ?_
    refine j_icmp_ge (y := I_X0_become_b) 29 dX0_become_5 (by decide) (fun h5 => ?_) (fun h5 => ?_)
    · refine j_sub [0, 1] rfl ?_
      exact hK S2
    · refine j_aload_n (y := I_X0_become_b) 0 dX0_become_8 rfl rfl ?_
      refine j_getR (y := I_X0_become_b) (j := 2) fl_0_11 k_1 rfl rfl dX0_become_9 ?_
      refine j_iload_n (y := I_X0_become_b) 2 dX0_become_12 rfl rfl ?_
      refine j_aald (y := I_X0_become_b) (j := (8 + 2 * ix a2_2)) (tt := 0) k_2 rfl (rho_2 _) dX0_become_13 (fun h13 => ?_)
      refine j_aload_n (y := I_X0_become_b) 1 dX0_become_14 rfl rfl ?_
      refine j_getR (y := I_X0_become_b) (j := 45) fl_0_11 k_44 rfl rfl dX0_become_15 ?_
      refine j_iload_n (y := I_X0_become_b) 2 dX0_become_18 rfl rfl ?_
      refine j_aald (y := I_X0_become_b) (j := (51 + 2 * ix a2_2)) (tt := 0) k_45 rfl (rho_45 _) dX0_become_19 (fun h19 => ?_)
      refine j_callVvS (y := I_X0_become_b) (As := [.ref (w.2.1 + (51 + 2 * ix a2_2))]) cv_0_64 ⟨Nat.le_of_ble_eq_true rfl, Nat.le_of_ble_eq_true rfl⟩ (kd_So _ (inb_lt h13)) rfl (Nat.le_of_ble_eq_true rfl) dX0_become_20 (c_X5_become l w (8 + 2 * ix a2_2) (51 + 2 * ix a2_2) S2 (kd_So _ (inb_lt h13)) (kd_SoK _ (inb_lt h19))) (fun v20 h20 => ?_)
      refine j_iinc (y := I_X0_become_b) 2 (ls' := [(2, .int (a2_2 + (1 : Int32))), (0, .ref (w.2.1 + 1)), (1, .ref (w.2.1 + 44))]) dX0_become_23 rfl (ii _ _ (by decide) _) (by decide) rfl ?_
      refine j_goto (y := I_X0_become_b) 2 dX0_become_26 (by decide) ?_
      refine j_sub [1, 2, 0] rfl ?_
      exact ih (a2_2 + (1 : Int32)) v20 hK
set_option maxRecDepth 100000 in
theorem jl_X0_become_b_39 (l : Launch) (w : Wd) (K : St → Option (St)) (n : Nat) : ∀ (a39_2 : Int32) (S39 : St), (∀  (S' : St) , J l w I_X0_become_b 66 [(0, .ref (w.2.1 + 1)), (1, .ref (w.2.1 + 44))] [] S' (fun b => (none, b)) (K  S')) → J l w I_X0_become_b 39 [(0, .ref (w.2.1 + 1)), (1, .ref (w.2.1 + 44)), (2, .int a39_2)] [] S39 (fun b => (none, b)) (f_X0_become_b_L39 n K a39_2 S39) := by
  induction n with
  | zero =>
    intro a39_2 S39 hK b h
    simp only [f_X0_become_b_L39] at h
    cases h
  | succ n ih =>
    intro a39_2 S39 hK
    rw [f_X0_become_b_L39]
    refine j_iload_n (y := I_X0_become_b) 2 dX0_become_39 rfl rfl ?_
    refine j_bipush (y := I_X0_become_b) (v := 12) dX0_become_40 (by decide) ?_
    refine j_icmp_ge (y := I_X0_become_b) 66 dX0_become_42 (by decide) (fun h42 => ?_) (fun h42 => ?_)
    · refine j_sub [0, 1] rfl ?_
      exact hK S39
    · refine j_aload_n (y := I_X0_become_b) 0 dX0_become_45 rfl rfl ?_
      refine j_getR (y := I_X0_become_b) (j := 3) fl_0_23 k_1 rfl rfl dX0_become_46 ?_
      refine j_iload_n (y := I_X0_become_b) 2 dX0_become_49 rfl rfl ?_
      refine j_aald (y := I_X0_become_b) (j := (20 + 2 * ix a39_2)) (tt := 1) k_3 rfl (rho_3 _) dX0_become_50 (fun h50 => ?_)
      refine j_aload_n (y := I_X0_become_b) 1 dX0_become_51 rfl rfl ?_
      refine j_getR (y := I_X0_become_b) (j := 46) fl_0_23 k_44 rfl rfl dX0_become_52 ?_
      refine j_iload_n (y := I_X0_become_b) 2 dX0_become_55 rfl rfl ?_
      refine j_aald (y := I_X0_become_b) (j := (63 + 2 * ix a39_2)) (tt := 1) k_46 rfl (rho_46 _) dX0_become_56 (fun h56 => ?_)
      refine j_callVvS (y := I_X0_become_b) (As := [.ref (w.2.1 + (63 + 2 * ix a39_2))]) cv_0_68 ⟨Nat.le_of_ble_eq_true rfl, Nat.le_of_ble_eq_true rfl⟩ (kd_Pl _ (inb_lt h50)) rfl (Nat.le_of_ble_eq_true rfl) dX0_become_57 (c_X2_become l w (20 + 2 * ix a39_2) (63 + 2 * ix a39_2) S39 (kd_Pl _ (inb_lt h50)) (kd_PlK _ (inb_lt h56))) (fun v57 h57 => ?_)
      refine j_iinc (y := I_X0_become_b) 2 (ls' := [(2, .int (a39_2 + (1 : Int32))), (0, .ref (w.2.1 + 1)), (1, .ref (w.2.1 + 44))]) dX0_become_60 rfl (ii _ _ (by decide) _) (by decide) rfl ?_
      refine j_goto (y := I_X0_become_b) 39 dX0_become_63 (by decide) ?_
      refine j_sub [1, 2, 0] rfl ?_
      exact ih (a39_2 + (1 : Int32)) v57 hK
set_option maxRecDepth 100000 in
set_option maxHeartbeats 4000000 in
theorem m_X0_become_b (l : Launch) (w : Wd)  (S : St)  : J l w I_X0_become_b 0 [(0, .ref (w.2.1 + 1)), (1, .ref (w.2.1 + 44))] [] S (fun b => (none, b)) (f_X0_become_b S) := by
  unfold f_X0_become_b
  refine j_iconst (y := I_X0_become_b) (v := 0) dX0_become_0 (by decide) ?_
  refine j_istore_n (y := I_X0_become_b) (ls' := [(2, .int (0 : Int32)), (0, .ref (w.2.1 + 1)), (1, .ref (w.2.1 + 44))]) dX0_become_1 rfl (by decide) rfl ?_
  refine j_sub [1, 2, 0] rfl ?_
  refine jl_X0_become_b_2 l w _ 6000 (0 : Int32) S  (fun T29 => ?_)
  refine j_aload_n (y := I_X0_become_b) 0 dX0_become_29 rfl rfl ?_
  refine j_aload_n (y := I_X0_become_b) 1 dX0_become_30 rfl rfl ?_
  refine j_getI (y := I_X0_become_b) fl_0_17 k_44 rfl dX0_become_31 ?_
  refine j_putI (y := I_X0_become_b) fp_0_17 k_1 rfl rfl rfl dX0_become_34 ?_
  refine j_iconst (y := I_X0_become_b) (v := 0) dX0_become_37 (by decide) ?_
  refine j_istore_n (y := I_X0_become_b) (ls' := [(2, .int (0 : Int32)), (0, .ref (w.2.1 + 1)), (1, .ref (w.2.1 + 44))]) dX0_become_38 rfl (by decide) rfl ?_
  refine j_sub [1, 2, 0] rfl ?_
  refine jl_X0_become_b_39 l w _ 6000 (0 : Int32) (wr T29 1 1 (rd T29 44 1))  (fun T66 => ?_)
  refine j_aload_n (y := I_X0_become_b) 0 dX0_become_66 rfl rfl ?_
  refine j_aload_n (y := I_X0_become_b) 1 dX0_become_67 rfl rfl ?_
  refine j_getI (y := I_X0_become_b) fl_0_27 k_44 rfl dX0_become_68 ?_
  refine j_putI (y := I_X0_become_b) fp_0_27 k_1 rfl rfl rfl dX0_become_71 ?_
  refine j_aload_n (y := I_X0_become_b) 0 dX0_become_74 rfl rfl ?_
  refine j_aload_n (y := I_X0_become_b) 1 dX0_become_75 rfl rfl ?_
  refine j_getI (y := I_X0_become_b) fl_0_30 k_44 rfl dX0_become_76 ?_
  refine j_putI (y := I_X0_become_b) fp_0_30 k_1 rfl rfl rfl dX0_become_79 ?_
  refine j_aload_n (y := I_X0_become_b) 0 dX0_become_82 rfl rfl ?_
  refine j_aload_n (y := I_X0_become_b) 1 dX0_become_83 rfl rfl ?_
  refine j_getI (y := I_X0_become_b) fl_0_33 k_44 rfl dX0_become_84 ?_
  refine j_putI (y := I_X0_become_b) fp_0_33 k_1 rfl rfl rfl dX0_become_87 ?_
  refine j_aload_n (y := I_X0_become_b) 1 dX0_become_90 rfl rfl ?_
  refine j_getR (y := I_X0_become_b) (j := 47) fl_0_36 k_44 rfl rfl dX0_become_91 ?_
  refine j_iconst (y := I_X0_become_b) (v := 0) dX0_become_94 (by decide) ?_
  refine j_aload_n (y := I_X0_become_b) 0 dX0_become_95 rfl rfl ?_
  refine j_getR (y := I_X0_become_b) (j := 4) fl_0_36 k_1 rfl rfl dX0_become_96 ?_
  refine j_iconst (y := I_X0_become_b) (v := 0) dX0_become_99 (by decide) ?_
  refine j_bipush (y := I_X0_become_b) (v := 50) dX0_become_100 (by decide) ?_
  refine j_cpI (y := I_X0_become_b) (gm 779 (by decide +kernel) rfl) (gm 476 (by decide +kernel) rfl) (gm 475 (by decide +kernel) rfl) (gm 46 (by decide +kernel) rfl) k_47 k_4 ⟨by decide, by decide⟩ (Nat.le_of_ble_eq_true rfl) (Nat.le_of_ble_eq_true rfl) dX0_become_102 ?_
  refine j_aload_n (y := I_X0_become_b) 1 dX0_become_105 rfl rfl ?_
  refine j_getR (y := I_X0_become_b) (j := 48) fl_0_40 k_44 rfl rfl dX0_become_106 ?_
  refine j_iconst (y := I_X0_become_b) (v := 0) dX0_become_109 (by decide) ?_
  refine j_aload_n (y := I_X0_become_b) 0 dX0_become_110 rfl rfl ?_
  refine j_getR (y := I_X0_become_b) (j := 5) fl_0_40 k_1 rfl rfl dX0_become_111 ?_
  refine j_iconst (y := I_X0_become_b) (v := 0) dX0_become_114 (by decide) ?_
  refine j_bipush (y := I_X0_become_b) (v := 50) dX0_become_115 (by decide) ?_
  refine j_cpI (y := I_X0_become_b) (gm 779 (by decide +kernel) rfl) (gm 476 (by decide +kernel) rfl) (gm 475 (by decide +kernel) rfl) (gm 46 (by decide +kernel) rfl) k_48 k_5 ⟨by decide, by decide⟩ (Nat.le_of_ble_eq_true rfl) (Nat.le_of_ble_eq_true rfl) dX0_become_117 ?_
  refine j_aload_n (y := I_X0_become_b) 1 dX0_become_120 rfl rfl ?_
  refine j_getR (y := I_X0_become_b) (j := 49) fl_0_43 k_44 rfl rfl dX0_become_121 ?_
  refine j_iconst (y := I_X0_become_b) (v := 0) dX0_become_124 (by decide) ?_
  refine j_aload_n (y := I_X0_become_b) 0 dX0_become_125 rfl rfl ?_
  refine j_getR (y := I_X0_become_b) (j := 6) fl_0_43 k_1 rfl rfl dX0_become_126 ?_
  refine j_iconst (y := I_X0_become_b) (v := 0) dX0_become_129 (by decide) ?_
  refine j_bipush (y := I_X0_become_b) (v := 50) dX0_become_130 (by decide) ?_
  refine j_cpI (y := I_X0_become_b) (gm 779 (by decide +kernel) rfl) (gm 476 (by decide +kernel) rfl) (gm 475 (by decide +kernel) rfl) (gm 46 (by decide +kernel) rfl) k_49 k_6 ⟨by decide, by decide⟩ (Nat.le_of_ble_eq_true rfl) (Nat.le_of_ble_eq_true rfl) dX0_become_132 ?_
  refine j_aload_n (y := I_X0_become_b) 0 dX0_become_135 rfl rfl ?_
  refine j_aload_n (y := I_X0_become_b) 1 dX0_become_136 rfl rfl ?_
  refine j_getI (y := I_X0_become_b) fl_0_46 k_44 rfl dX0_become_137 ?_
  refine j_putI (y := I_X0_become_b) fp_0_46 k_1 rfl rfl rfl dX0_become_140 ?_
  refine j_aload_n (y := I_X0_become_b) 0 dX0_become_143 rfl rfl ?_
  refine j_aload_n (y := I_X0_become_b) 1 dX0_become_144 rfl rfl ?_
  refine j_getI (y := I_X0_become_b) fl_0_49 k_44 rfl dX0_become_145 ?_
  refine j_putI (y := I_X0_become_b) fp_0_49 k_1 rfl rfl rfl dX0_become_148 ?_
  refine j_aload_n (y := I_X0_become_b) 0 dX0_become_151 rfl rfl ?_
  refine j_aload_n (y := I_X0_become_b) 1 dX0_become_152 rfl rfl ?_
  refine j_getI (y := I_X0_become_b) fl_0_52 k_44 rfl dX0_become_153 ?_
  refine j_putI (y := I_X0_become_b) fp_0_52 k_1 rfl rfl rfl dX0_become_156 ?_
  refine j_aload_n (y := I_X0_become_b) 1 dX0_become_159 rfl rfl ?_
  refine j_getR (y := I_X0_become_b) (j := 50) fl_0_55 k_44 rfl rfl dX0_become_160 ?_
  refine j_iconst (y := I_X0_become_b) (v := 0) dX0_become_163 (by decide) ?_
  refine j_aload_n (y := I_X0_become_b) 0 dX0_become_164 rfl rfl ?_
  refine j_getR (y := I_X0_become_b) (j := 7) fl_0_55 k_1 rfl rfl dX0_become_165 ?_
  refine j_iconst (y := I_X0_become_b) (v := 0) dX0_become_168 (by decide) ?_
  refine j_bipush (y := I_X0_become_b) (v := 10) dX0_become_169 (by decide) ?_
  refine j_cpL (y := I_X0_become_b) (gm 779 (by decide +kernel) rfl) (gm 476 (by decide +kernel) rfl) (gm 475 (by decide +kernel) rfl) (gm 46 (by decide +kernel) rfl) k_50 k_7 ⟨by decide, by decide⟩ (Nat.le_of_ble_eq_true rfl) (Nat.le_of_ble_eq_true rfl) dX0_become_171 ?_
  exact j_vret (y := I_X0_become_b) rfl dX0_become_174 rfl
theorem c_X0_become_b (l : Launch) (w : Wd)  (S : St)  : ∀ v, f_X0_become_b S = some v → CtS l w I_X0_become_b [.ref (w.2.1 + 1), .ref (w.2.1 + 44)] S v none := fun v h => J.ct (av := [.ref (w.2.1 + 1), .ref (w.2.1 + 44)]) (Nat.le_of_ble_eq_true rfl) pn_0 (m_X0_become_b l w  S ) h
abbrev I_X0_budsOf : MI := (yX0_budsOf, cX0_budsOf, 3, some .int, { frames := 1, cells := 0, slots := 0, locals := 21 })
theorem dX0_budsOf_0 : decode cX0_budsOf 0 = .ok (.aload_n 0, 1) := by decide +kernel
theorem dX0_budsOf_1 : decode cX0_budsOf 1 = .ok (.getfield 30, 3) := by decide +kernel
theorem dX0_budsOf_4 : decode cX0_budsOf 4 = .ok (.aload_n 1, 1) := by decide +kernel
theorem dX0_budsOf_5 : decode cX0_budsOf 5 = .ok (.getfield 83, 3) := by decide +kernel
theorem dX0_budsOf_8 : decode cX0_budsOf 8 = .ok (.isub, 1) := by decide +kernel
theorem dX0_budsOf_9 : decode cX0_budsOf 9 = .ok (.aload_n 0, 1) := by decide +kernel
theorem dX0_budsOf_10 : decode cX0_budsOf 10 = .ok (.getfield 11, 3) := by decide +kernel
theorem dX0_budsOf_13 : decode cX0_budsOf 13 = .ok (.aload_n 1, 1) := by decide +kernel
theorem dX0_budsOf_14 : decode cX0_budsOf 14 = .ok (.getfield 77, 3) := by decide +kernel
theorem dX0_budsOf_17 : decode cX0_budsOf 17 = .ok (.aaload, 1) := by decide +kernel
theorem dX0_budsOf_18 : decode cX0_budsOf 18 = .ok (.getfield 100, 3) := by decide +kernel
theorem dX0_budsOf_21 : decode cX0_budsOf 21 = .ok (.if_icmp .ge 5, 3) := by decide +kernel
theorem dX0_budsOf_24 : decode cX0_budsOf 24 = .ok (.iconst 0, 1) := by decide +kernel
theorem dX0_budsOf_25 : decode cX0_budsOf 25 = .ok (.ireturn, 1) := by decide +kernel
theorem dX0_budsOf_26 : decode cX0_budsOf 26 = .ok (.iconst 0, 1) := by decide +kernel
theorem dX0_budsOf_27 : decode cX0_budsOf 27 = .ok (.bipush 20, 2) := by decide +kernel
theorem dX0_budsOf_29 : decode cX0_budsOf 29 = .ok (.aload_n 1, 1) := by decide +kernel
theorem dX0_budsOf_30 : decode cX0_budsOf 30 = .ok (.getfield 86, 3) := by decide +kernel
theorem dX0_budsOf_33 : decode cX0_budsOf 33 = .ok (.imul, 1) := by decide +kernel
theorem dX0_budsOf_34 : decode cX0_budsOf 34 = .ok (.aload_n 1, 1) := by decide +kernel
theorem dX0_budsOf_35 : decode cX0_budsOf 35 = .ok (.getfield 89, 3) := by decide +kernel
theorem dX0_budsOf_38 : decode cX0_budsOf 38 = .ok (.iconst 2, 1) := by decide +kernel
theorem dX0_budsOf_39 : decode cX0_budsOf 39 = .ok (.idiv, 1) := by decide +kernel
theorem dX0_budsOf_40 : decode cX0_budsOf 40 = .ok (.isub, 1) := by decide +kernel
theorem dX0_budsOf_41 : decode cX0_budsOf 41 = .ok (.invokestatic 103, 3) := by decide +kernel
theorem dX0_budsOf_44 : decode cX0_budsOf 44 = .ok (.istore_n 2, 1) := by decide +kernel
theorem dX0_budsOf_45 : decode cX0_budsOf 45 = .ok (.aload_n 1, 1) := by decide +kernel
theorem dX0_budsOf_46 : decode cX0_budsOf 46 = .ok (.getfield 109, 3) := by decide +kernel
theorem dX0_budsOf_49 : decode cX0_budsOf 49 = .ok (.iconst 3, 1) := by decide +kernel
theorem dX0_budsOf_50 : decode cX0_budsOf 50 = .ok (.if_icmp .ne 11, 3) := by decide +kernel
theorem dX0_budsOf_53 : decode cX0_budsOf 53 = .ok (.iload_n 2, 1) := by decide +kernel
theorem dX0_budsOf_54 : decode cX0_budsOf 54 = .ok (.iload_n 2, 1) := by decide +kernel
theorem dX0_budsOf_55 : decode cX0_budsOf 55 = .ok (.iconst 2, 1) := by decide +kernel
theorem dX0_budsOf_56 : decode cX0_budsOf 56 = .ok (.idiv, 1) := by decide +kernel
theorem dX0_budsOf_57 : decode cX0_budsOf 57 = .ok (.iadd, 1) := by decide +kernel
theorem dX0_budsOf_58 : decode cX0_budsOf 58 = .ok (.goto 4, 3) := by decide +kernel
theorem dX0_budsOf_61 : decode cX0_budsOf 61 = .ok (.iload_n 2, 1) := by decide +kernel
theorem dX0_budsOf_62 : decode cX0_budsOf 62 = .ok (.ireturn, 1) := by decide +kernel
def f_X0_budsOf (u1 : Nat) (S : St) : Option (Int32) := if inb (rd S u1 3) 6 = true then (if ((rd S 1 4) - (rd S u1 5)) < (rd S (8 + 2 * ix (rd S u1 3)) 4) then (some (0 : Int32)) else (if (rd S u1 2) = (3 : Int32) then (some ((mxI (0 : Int32) (((20 : Int32) * (rd S u1 6)) - ((rd S u1 7) / (2 : Int32)))) + ((mxI (0 : Int32) (((20 : Int32) * (rd S u1 6)) - ((rd S u1 7) / (2 : Int32)))) / (2 : Int32)))) else (some (mxI (0 : Int32) (((20 : Int32) * (rd S u1 6)) - ((rd S u1 7) / (2 : Int32))))))) else none
set_option maxRecDepth 100000 in
set_option maxHeartbeats 4000000 in
theorem m_X0_budsOf (l : Launch) (w : Wd) (u1 : Nat) (S : St) (hu1 : kd u1 = KdPlace) : J l w I_X0_budsOf 0 [(0, .ref (w.2.1 + 1)), (1, .ref (w.2.1 + u1))] [] S (fun b => (some (.int b), S)) (f_X0_budsOf u1 S) := by
  unfold f_X0_budsOf
  refine j_aload_n (y := I_X0_budsOf) 0 dX0_budsOf_0 rfl rfl ?_
  refine j_getI (y := I_X0_budsOf) fl_0_30 k_1 rfl dX0_budsOf_1 ?_
  refine j_aload_n (y := I_X0_budsOf) 1 dX0_budsOf_4 rfl rfl ?_
  refine j_getI (y := I_X0_budsOf) fl_0_83 hu1 rfl dX0_budsOf_5 ?_
  refine j_isub (y := I_X0_budsOf) dX0_budsOf_8 ?_
  refine j_aload_n (y := I_X0_budsOf) 0 dX0_budsOf_9 rfl rfl ?_
  refine j_getR (y := I_X0_budsOf) (j := 2) fl_0_11 k_1 rfl rfl dX0_budsOf_10 ?_
  refine j_aload_n (y := I_X0_budsOf) 1 dX0_budsOf_13 rfl rfl ?_
  refine j_getI (y := I_X0_budsOf) fl_0_77 hu1 rfl dX0_budsOf_14 ?_
  refine j_aald (y := I_X0_budsOf) (j := (8 + 2 * ix (rd S u1 3))) (tt := 0) k_2 rfl (rho_2 _) dX0_budsOf_17 (fun h17 => ?_)
  refine j_getI (y := I_X0_budsOf) fl_0_100 (kd_So _ (inb_lt h17)) rfl dX0_budsOf_18 ?_
  refine j_icmp_ge (y := I_X0_budsOf) 26 dX0_budsOf_21 (by decide) (fun h21 => ?_) (fun h21 => ?_)
  · refine j_iconst (y := I_X0_budsOf) (v := 0) dX0_budsOf_26 (by decide) ?_
    refine j_bipush (y := I_X0_budsOf) (v := 20) dX0_budsOf_27 (by decide) ?_
    refine j_aload_n (y := I_X0_budsOf) 1 dX0_budsOf_29 rfl rfl ?_
    refine j_getI (y := I_X0_budsOf) fl_0_86 hu1 rfl dX0_budsOf_30 ?_
    refine j_imul (y := I_X0_budsOf) dX0_budsOf_33 ?_
    refine j_aload_n (y := I_X0_budsOf) 1 dX0_budsOf_34 rfl rfl ?_
    refine j_getI (y := I_X0_budsOf) fl_0_89 hu1 rfl dX0_budsOf_35 ?_
    refine j_iconst (y := I_X0_budsOf) (v := 2) dX0_budsOf_38 (by decide) ?_
    refine j_idivL (y := I_X0_budsOf) dX0_budsOf_39 (by decide) ?_
    refine j_isub (y := I_X0_budsOf) dX0_budsOf_40 ?_
    refine j_mmax (y := I_X0_budsOf) (gm 421 (by decide +kernel) rfl) (Nat.le_of_ble_eq_true rfl) (Nat.le_of_ble_eq_true rfl) dX0_budsOf_41 ?_
    refine j_istore_n (y := I_X0_budsOf) (ls' := [(2, .int (mxI (0 : Int32) (((20 : Int32) * (rd S u1 6)) - ((rd S u1 7) / (2 : Int32))))), (0, .ref (w.2.1 + 1)), (1, .ref (w.2.1 + u1))]) dX0_budsOf_44 rfl (by decide) rfl ?_
    refine j_aload_n (y := I_X0_budsOf) 2 dX0_budsOf_45 rfl rfl ?_
    refine j_getI (y := I_X0_budsOf) fl_0_109 hu1 rfl dX0_budsOf_46 ?_
    refine j_iconst (y := I_X0_budsOf) (v := 3) dX0_budsOf_49 (by decide) ?_
    refine j_icmp_ne (y := I_X0_budsOf) 61 dX0_budsOf_50 (by decide) (fun h50 => ?_) (fun h50 => ?_)
    · refine j_iload_n (y := I_X0_budsOf) 0 dX0_budsOf_61 rfl rfl ?_
      exact j_iret (y := I_X0_budsOf) rfl dX0_budsOf_62 rfl
    · refine j_iload_n (y := I_X0_budsOf) 0 dX0_budsOf_53 rfl rfl ?_
      refine j_iload_n (y := I_X0_budsOf) 0 dX0_budsOf_54 rfl rfl ?_
      refine j_iconst (y := I_X0_budsOf) (v := 2) dX0_budsOf_55 (by decide) ?_
      refine j_idivL (y := I_X0_budsOf) dX0_budsOf_56 (by decide) ?_
      refine j_iadd (y := I_X0_budsOf) dX0_budsOf_57 ?_
      refine j_goto (y := I_X0_budsOf) 62 dX0_budsOf_58 (by decide) ?_
      exact j_iret (y := I_X0_budsOf) rfl dX0_budsOf_62 rfl
  · refine j_iconst (y := I_X0_budsOf) (v := 0) dX0_budsOf_24 (by decide) ?_
    exact j_iret (y := I_X0_budsOf) rfl dX0_budsOf_25 rfl
theorem c_X0_budsOf (l : Launch) (w : Wd) (u1 : Nat) (S : St) (hu1 : kd u1 = KdPlace) : ∀ v, f_X0_budsOf u1 S = some v → CtS l w I_X0_budsOf [.ref (w.2.1 + 1), .ref (w.2.1 + u1)] S S (some (.int v)) := fun v h => J.ct (av := [.ref (w.2.1 + 1), .ref (w.2.1 + u1)]) (Nat.le_of_ble_eq_true rfl) pn_0 (m_X0_budsOf l w u1 S hu1) h
abbrev I_X0_isNear : MI := (yX0_isNear, cX0_isNear, 5, some .boolean, { frames := 1, cells := 0, slots := 0, locals := 20 })
theorem dX0_isNear_0 : decode cX0_isNear 0 = .ok (.aload_n 0, 1) := by decide +kernel
theorem dX0_isNear_1 : decode cX0_isNear 1 = .ok (.getfield 23, 3) := by decide +kernel
theorem dX0_isNear_4 : decode cX0_isNear 4 = .ok (.iload_n 1, 1) := by decide +kernel
theorem dX0_isNear_5 : decode cX0_isNear 5 = .ok (.aaload, 1) := by decide +kernel
theorem dX0_isNear_6 : decode cX0_isNear 6 = .ok (.getfield 61, 3) := by decide +kernel
theorem dX0_isNear_9 : decode cX0_isNear 9 = .ok (.aload_n 0, 1) := by decide +kernel
theorem dX0_isNear_10 : decode cX0_isNear 10 = .ok (.getfield 23, 3) := by decide +kernel
theorem dX0_isNear_13 : decode cX0_isNear 13 = .ok (.iload_n 2, 1) := by decide +kernel
theorem dX0_isNear_14 : decode cX0_isNear 14 = .ok (.aaload, 1) := by decide +kernel
theorem dX0_isNear_15 : decode cX0_isNear 15 = .ok (.getfield 61, 3) := by decide +kernel
theorem dX0_isNear_18 : decode cX0_isNear 18 = .ok (.isub, 1) := by decide +kernel
theorem dX0_isNear_19 : decode cX0_isNear 19 = .ok (.invokestatic 112, 3) := by decide +kernel
theorem dX0_isNear_22 : decode cX0_isNear 22 = .ok (.istore_n 3, 1) := by decide +kernel
theorem dX0_isNear_23 : decode cX0_isNear 23 = .ok (.aload_n 0, 1) := by decide +kernel
theorem dX0_isNear_24 : decode cX0_isNear 24 = .ok (.getfield 23, 3) := by decide +kernel
theorem dX0_isNear_27 : decode cX0_isNear 27 = .ok (.iload_n 1, 1) := by decide +kernel
theorem dX0_isNear_28 : decode cX0_isNear 28 = .ok (.aaload, 1) := by decide +kernel
theorem dX0_isNear_29 : decode cX0_isNear 29 = .ok (.getfield 115, 3) := by decide +kernel
theorem dX0_isNear_32 : decode cX0_isNear 32 = .ok (.aload_n 0, 1) := by decide +kernel
theorem dX0_isNear_33 : decode cX0_isNear 33 = .ok (.getfield 23, 3) := by decide +kernel
theorem dX0_isNear_36 : decode cX0_isNear 36 = .ok (.iload_n 2, 1) := by decide +kernel
theorem dX0_isNear_37 : decode cX0_isNear 37 = .ok (.aaload, 1) := by decide +kernel
theorem dX0_isNear_38 : decode cX0_isNear 38 = .ok (.getfield 115, 3) := by decide +kernel
theorem dX0_isNear_41 : decode cX0_isNear 41 = .ok (.isub, 1) := by decide +kernel
theorem dX0_isNear_42 : decode cX0_isNear 42 = .ok (.invokestatic 112, 3) := by decide +kernel
theorem dX0_isNear_45 : decode cX0_isNear 45 = .ok (.istore 4, 2) := by decide +kernel
theorem dX0_isNear_47 : decode cX0_isNear 47 = .ok (.iload_n 3, 1) := by decide +kernel
theorem dX0_isNear_48 : decode cX0_isNear 48 = .ok (.aload_n 0, 1) := by decide +kernel
theorem dX0_isNear_49 : decode cX0_isNear 49 = .ok (.getfield 27, 3) := by decide +kernel
theorem dX0_isNear_52 : decode cX0_isNear 52 = .ok (.if_icmp .gt 16, 3) := by decide +kernel
theorem dX0_isNear_55 : decode cX0_isNear 55 = .ok (.iload 4, 2) := by decide +kernel
theorem dX0_isNear_57 : decode cX0_isNear 57 = .ok (.aload_n 0, 1) := by decide +kernel
theorem dX0_isNear_58 : decode cX0_isNear 58 = .ok (.getfield 27, 3) := by decide +kernel
theorem dX0_isNear_61 : decode cX0_isNear 61 = .ok (.if_icmp .gt 7, 3) := by decide +kernel
theorem dX0_isNear_64 : decode cX0_isNear 64 = .ok (.iconst 1, 1) := by decide +kernel
theorem dX0_isNear_65 : decode cX0_isNear 65 = .ok (.goto 4, 3) := by decide +kernel
theorem dX0_isNear_68 : decode cX0_isNear 68 = .ok (.iconst 0, 1) := by decide +kernel
theorem dX0_isNear_69 : decode cX0_isNear 69 = .ok (.ireturn, 1) := by decide +kernel
def f_X0_isNear (x1 : Int32) (x2 : Int32) (S : St) : Option (Bool) := if inb x1 12 = true then (if inb x2 12 = true then (if inb x1 12 = true then (if inb x2 12 = true then (if (rd S 1 3) < (abI ((rd S (20 + 2 * ix x1) 0) - (rd S (20 + 2 * ix x2) 0))) then (some false) else (if (rd S 1 3) < (abI ((rd S (20 + 2 * ix x1) 1) - (rd S (20 + 2 * ix x2) 1))) then (some false) else (some true))) else none) else none) else none) else none
set_option maxRecDepth 100000 in
set_option maxHeartbeats 4000000 in
theorem m_X0_isNear (l : Launch) (w : Wd) (x1 : Int32) (x2 : Int32) (S : St)  : J l w I_X0_isNear 0 [(0, .ref (w.2.1 + 1)), (1, .int x1), (2, .int x2)] [] S (fun b => (some (.int (b2i b)), S)) (f_X0_isNear x1 x2 S) := by
  unfold f_X0_isNear
  refine j_aload_n (y := I_X0_isNear) 0 dX0_isNear_0 rfl rfl ?_
  refine j_getR (y := I_X0_isNear) (j := 3) fl_0_23 k_1 rfl rfl dX0_isNear_1 ?_
  refine j_iload_n (y := I_X0_isNear) 1 dX0_isNear_4 rfl rfl ?_
  refine j_aald (y := I_X0_isNear) (j := (20 + 2 * ix x1)) (tt := 1) k_3 rfl (rho_3 _) dX0_isNear_5 (fun h5 => ?_)
  refine j_getI (y := I_X0_isNear) fl_0_61 (kd_Pl _ (inb_lt h5)) rfl dX0_isNear_6 ?_
  refine j_aload_n (y := I_X0_isNear) 0 dX0_isNear_9 rfl rfl ?_
  refine j_getR (y := I_X0_isNear) (j := 3) fl_0_23 k_1 rfl rfl dX0_isNear_10 ?_
  refine j_iload_n (y := I_X0_isNear) 2 dX0_isNear_13 rfl rfl ?_
  refine j_aald (y := I_X0_isNear) (j := (20 + 2 * ix x2)) (tt := 1) k_3 rfl (rho_3 _) dX0_isNear_14 (fun h14 => ?_)
  refine j_getI (y := I_X0_isNear) fl_0_61 (kd_Pl _ (inb_lt h14)) rfl dX0_isNear_15 ?_
  refine j_isub (y := I_X0_isNear) dX0_isNear_18 ?_
  refine j_mabs (y := I_X0_isNear) (gm 578 (by decide +kernel) rfl) (Nat.le_of_ble_eq_true rfl) (Nat.le_of_ble_eq_true rfl) dX0_isNear_19 ?_
  refine j_istore_n (y := I_X0_isNear) (ls' := [(3, .int (abI ((rd S (20 + 2 * ix x1) 0) - (rd S (20 + 2 * ix x2) 0)))), (0, .ref (w.2.1 + 1)), (1, .int x1), (2, .int x2)]) dX0_isNear_22 rfl (by decide) rfl ?_
  refine j_aload_n (y := I_X0_isNear) 1 dX0_isNear_23 rfl rfl ?_
  refine j_getR (y := I_X0_isNear) (j := 3) fl_0_23 k_1 rfl rfl dX0_isNear_24 ?_
  refine j_iload_n (y := I_X0_isNear) 2 dX0_isNear_27 rfl rfl ?_
  refine j_aald (y := I_X0_isNear) (j := (20 + 2 * ix x1)) (tt := 1) k_3 rfl (rho_3 _) dX0_isNear_28 (fun h28 => ?_)
  refine j_getI (y := I_X0_isNear) fl_0_115 (kd_Pl _ (inb_lt h28)) rfl dX0_isNear_29 ?_
  refine j_aload_n (y := I_X0_isNear) 1 dX0_isNear_32 rfl rfl ?_
  refine j_getR (y := I_X0_isNear) (j := 3) fl_0_23 k_1 rfl rfl dX0_isNear_33 ?_
  refine j_iload_n (y := I_X0_isNear) 3 dX0_isNear_36 rfl rfl ?_
  refine j_aald (y := I_X0_isNear) (j := (20 + 2 * ix x2)) (tt := 1) k_3 rfl (rho_3 _) dX0_isNear_37 (fun h37 => ?_)
  refine j_getI (y := I_X0_isNear) fl_0_115 (kd_Pl _ (inb_lt h37)) rfl dX0_isNear_38 ?_
  refine j_isub (y := I_X0_isNear) dX0_isNear_41 ?_
  refine j_mabs (y := I_X0_isNear) (gm 578 (by decide +kernel) rfl) (Nat.le_of_ble_eq_true rfl) (Nat.le_of_ble_eq_true rfl) dX0_isNear_42 ?_
  refine j_istore (y := I_X0_isNear) (ls' := [(4, .int (abI ((rd S (20 + 2 * ix x1) 1) - (rd S (20 + 2 * ix x2) 1)))), (3, .int (abI ((rd S (20 + 2 * ix x1) 0) - (rd S (20 + 2 * ix x2) 0)))), (0, .ref (w.2.1 + 1)), (1, .int x1), (2, .int x2)]) dX0_isNear_45 (by decide) rfl ?_
  refine j_iload_n (y := I_X0_isNear) 1 dX0_isNear_47 rfl rfl ?_
  refine j_aload_n (y := I_X0_isNear) 2 dX0_isNear_48 rfl rfl ?_
  refine j_getI (y := I_X0_isNear) fl_0_27 k_1 rfl dX0_isNear_49 ?_
  refine j_icmp_gt (y := I_X0_isNear) 68 dX0_isNear_52 (by decide) (fun h52 => ?_) (fun h52 => ?_)
  · refine j_iconst (y := I_X0_isNear) (v := 0) dX0_isNear_68 (by decide) ?_
    exact j_zret (y := I_X0_isNear) (q := false) rfl rfl dX0_isNear_69 rfl
  · refine j_iload (y := I_X0_isNear) 0 dX0_isNear_55 rfl ?_
    refine j_aload_n (y := I_X0_isNear) 2 dX0_isNear_57 rfl rfl ?_
    refine j_getI (y := I_X0_isNear) fl_0_27 k_1 rfl dX0_isNear_58 ?_
    refine j_icmp_gt (y := I_X0_isNear) 68 dX0_isNear_61 (by decide) (fun h61 => ?_) (fun h61 => ?_)
    · refine j_iconst (y := I_X0_isNear) (v := 0) dX0_isNear_68 (by decide) ?_
      exact j_zret (y := I_X0_isNear) (q := false) rfl rfl dX0_isNear_69 rfl
    · refine j_iconst (y := I_X0_isNear) (v := 1) dX0_isNear_64 (by decide) ?_
      refine j_goto (y := I_X0_isNear) 69 dX0_isNear_65 (by decide) ?_
      exact j_zret (y := I_X0_isNear) (q := true) rfl rfl dX0_isNear_69 rfl
theorem c_X0_isNear (l : Launch) (w : Wd) (x1 : Int32) (x2 : Int32) (S : St)  : ∀ v, f_X0_isNear x1 x2 S = some v → CtS l w I_X0_isNear [.ref (w.2.1 + 1), .int x1, .int x2] S S (some (.int (b2i v))) := fun v h => J.ct (av := [.ref (w.2.1 + 1), .int x1, .int x2]) (Nat.le_of_ble_eq_true rfl) pn_0 (m_X0_isNear l w x1 x2 S ) h
abbrev I_X0_fitsAnyPart : MI := (yX0_fitsAnyPart, cX0_fitsAnyPart, 6, some .boolean, { frames := 2, cells := 0, slots := 0, locals := 43 })
theorem dX0_fitsAnyPart_0 : decode cX0_fitsAnyPart 0 = .ok (.iconst 0, 1) := by decide +kernel
theorem dX0_fitsAnyPart_1 : decode cX0_fitsAnyPart 1 = .ok (.istore 4, 2) := by decide +kernel
theorem dX0_fitsAnyPart_3 : decode cX0_fitsAnyPart 3 = .ok (.iload 4, 2) := by decide +kernel
theorem dX0_fitsAnyPart_5 : decode cX0_fitsAnyPart 5 = .ok (.aload_n 3, 1) := by decide +kernel
theorem dX0_fitsAnyPart_6 : decode cX0_fitsAnyPart 6 = .ok (.invokevirtual 138, 3) := by decide +kernel
theorem dX0_fitsAnyPart_9 : decode cX0_fitsAnyPart 9 = .ok (.if_icmp .ge 43, 3) := by decide +kernel
theorem dX0_fitsAnyPart_12 : decode cX0_fitsAnyPart 12 = .ok (.aload_n 3, 1) := by decide +kernel
theorem dX0_fitsAnyPart_13 : decode cX0_fitsAnyPart 13 = .ok (.iload 4, 2) := by decide +kernel
theorem dX0_fitsAnyPart_15 : decode cX0_fitsAnyPart 15 = .ok (.invokevirtual 125, 3) := by decide +kernel
theorem dX0_fitsAnyPart_18 : decode cX0_fitsAnyPart 18 = .ok (.istore 5, 2) := by decide +kernel
theorem dX0_fitsAnyPart_20 : decode cX0_fitsAnyPart 20 = .ok (.aload_n 0, 1) := by decide +kernel
theorem dX0_fitsAnyPart_21 : decode cX0_fitsAnyPart 21 = .ok (.getfield 11, 3) := by decide +kernel
theorem dX0_fitsAnyPart_24 : decode cX0_fitsAnyPart 24 = .ok (.iload_n 2, 1) := by decide +kernel
theorem dX0_fitsAnyPart_25 : decode cX0_fitsAnyPart 25 = .ok (.aaload, 1) := by decide +kernel
theorem dX0_fitsAnyPart_26 : decode cX0_fitsAnyPart 26 = .ok (.iload 5, 2) := by decide +kernel
theorem dX0_fitsAnyPart_28 : decode cX0_fitsAnyPart 28 = .ok (.invokevirtual 144, 3) := by decide +kernel
theorem dX0_fitsAnyPart_31 : decode cX0_fitsAnyPart 31 = .ok (.ifCond .eq 15, 3) := by decide +kernel
theorem dX0_fitsAnyPart_34 : decode cX0_fitsAnyPart 34 = .ok (.aload_n 1, 1) := by decide +kernel
theorem dX0_fitsAnyPart_35 : decode cX0_fitsAnyPart 35 = .ok (.iload_n 2, 1) := by decide +kernel
theorem dX0_fitsAnyPart_36 : decode cX0_fitsAnyPart 36 = .ok (.iload 5, 2) := by decide +kernel
theorem dX0_fitsAnyPart_38 : decode cX0_fitsAnyPart 38 = .ok (.invokevirtual 152, 3) := by decide +kernel
theorem dX0_fitsAnyPart_41 : decode cX0_fitsAnyPart 41 = .ok (.ifCond .eq 5, 3) := by decide +kernel
theorem dX0_fitsAnyPart_44 : decode cX0_fitsAnyPart 44 = .ok (.iconst 1, 1) := by decide +kernel
theorem dX0_fitsAnyPart_45 : decode cX0_fitsAnyPart 45 = .ok (.ireturn, 1) := by decide +kernel
theorem dX0_fitsAnyPart_46 : decode cX0_fitsAnyPart 46 = .ok (.iinc 4 1, 3) := by decide +kernel
theorem dX0_fitsAnyPart_49 : decode cX0_fitsAnyPart 49 = .ok (.goto (-46), 3) := by decide +kernel
theorem dX0_fitsAnyPart_52 : decode cX0_fitsAnyPart 52 = .ok (.iconst 0, 1) := by decide +kernel
theorem dX0_fitsAnyPart_53 : decode cX0_fitsAnyPart 53 = .ok (.ireturn, 1) := by decide +kernel
theorem cv_0_125 : CV RX0 125 1 2 I_X2_sortOf := ⟨⟨⟨gm 565 (by decide +kernel) rfl, gm 568 (by decide +kernel) rfl, gm 40 (by decide +kernel) rfl, mh_2.1, mh_2.2, by decide +kernel⟩, gm 566 (by decide +kernel) rfl, gm 567 (by decide +kernel) rfl⟩, ⟨_, _, rfl⟩, rfl, rfl⟩
theorem cv_0_138 : CV RX0 138 0 2 I_X2_partCount := ⟨⟨⟨gm 573 (by decide +kernel) rfl, gm 555 (by decide +kernel) rfl, gm 40 (by decide +kernel) rfl, mh_2.1, mh_2.2, by decide +kernel⟩, gm 553 (by decide +kernel) rfl, gm 554 (by decide +kernel) rfl⟩, ⟨_, _, rfl⟩, rfl, rfl⟩
theorem cv_0_144 : CV RX0 144 1 5 I_X5_accepts := ⟨⟨⟨gm 581 (by decide +kernel) rfl, gm 354 (by decide +kernel) rfl, gm 39 (by decide +kernel) rfl, mh_5.1, mh_5.2, by decide +kernel⟩, gm 352 (by decide +kernel) rfl, gm 353 (by decide +kernel) rfl⟩, ⟨_, _, rfl⟩, rfl, rfl⟩
theorem cv_0_152 : CV RX0 152 2 3 I_X3_bloomTogether := ⟨⟨⟨gm 713 (by decide +kernel) rfl, gm 716 (by decide +kernel) rfl, gm 42 (by decide +kernel) rfl, mh_3.1, mh_3.2, by decide +kernel⟩, gm 714 (by decide +kernel) rfl, gm 715 (by decide +kernel) rfl⟩, ⟨_, _, rfl⟩, rfl, rfl⟩
def f_X0_fitsAnyPart_L3 (fuel : Nat) (K : Option (Bool)) (a3_2 : Int32) (a3_3 : Nat) (a3_4 : Int32) (S : St) : Option (Bool) := match fuel with
  | 0 => none
  | n + 1 => if a3_4 < (f_X2_partCount a3_3 S) then (if inb a3_2 6 = true then (if (f_X5_accepts (8 + 2 * ix a3_2) (f_X2_sortOf a3_3 a3_4 S) S) = true then ((f_X3_bloomTogether a3_2 (f_X2_sortOf a3_3 a3_4 S) S).bind fun v38 => (if v38 = true then (some true) else (f_X0_fitsAnyPart_L3 n K a3_2 a3_3 (a3_4 + (1 : Int32)) S))) else (f_X0_fitsAnyPart_L3 n K a3_2 a3_3 (a3_4 + (1 : Int32)) S)) else none) else (K)
def f_X0_fitsAnyPart (x2 : Int32) (u3 : Nat) (S : St) : Option (Bool) := f_X0_fitsAnyPart_L3 6000 (some false) x2 u3 (0 : Int32) S
set_option maxRecDepth 100000 in
theorem jl_X0_fitsAnyPart_3 (l : Launch) (w : Wd) (S : St) (K : Option (Bool)) (n : Nat) : ∀ (a3_2 : Int32) (a3_3 : Nat) (a3_4 : Int32) (ha3_3 : kd a3_3 = KdPlace), ( J l w I_X0_fitsAnyPart 52 [] [] S (fun b => (some (.int (b2i b)), S)) (K )) → J l w I_X0_fitsAnyPart 3 [(0, .ref (w.2.1 + 1)), (1, .ref (w.2.1 + 96)), (2, .int a3_2), (3, .ref (w.2.1 + a3_3)), (4, .int a3_4)] [] S (fun b => (some (.int (b2i b)), S)) (f_X0_fitsAnyPart_L3 n K a3_2 a3_3 a3_4 S) := by
  induction n with
  | zero =>
    intro a3_2 a3_3 a3_4 ha3_3 hK b h
    simp only [f_X0_fitsAnyPart_L3] at h
    cases h
  | succ n ih =>
    intro a3_2 a3_3 a3_4 ha3_3 hK
    rw [f_X0_fitsAnyPart_L3]
    refine j_iload (y := I_X0_fitsAnyPart) 4 dX0_fitsAnyPart_3 rfl ?_
    refine j_aload_n (y := I_X0_fitsAnyPart) 3 dX0_fitsAnyPart_5 rfl rfl ?_
    refine j_callViT (y := I_X0_fitsAnyPart) (As := []) cv_0_138 ⟨Nat.le_of_ble_eq_true rfl, Nat.le_of_ble_eq_true rfl⟩ ha3_3 rfl (Nat.le_of_ble_eq_true rfl) dX0_fitsAnyPart_6 (c_X2_partCount l w a3_3 S ha3_3) ?_
    refine j_icmp_ge (y := I_X0_fitsAnyPart) 52 dX0_fitsAnyPart_9 (by decide) (fun h9 => ?_) (fun h9 => ?_)
    · refine j_sub [] rfl ?_
      exact hK
    · refine j_aload_n (y := I_X0_fitsAnyPart) 3 dX0_fitsAnyPart_12 rfl rfl ?_
      refine j_iload (y := I_X0_fitsAnyPart) 4 dX0_fitsAnyPart_13 rfl ?_
      refine j_callViT (y := I_X0_fitsAnyPart) (As := [.int a3_4]) cv_0_125 ⟨Nat.le_of_ble_eq_true rfl, Nat.le_of_ble_eq_true rfl⟩ ha3_3 rfl (Nat.le_of_ble_eq_true rfl) dX0_fitsAnyPart_15 (c_X2_sortOf l w a3_3 a3_4 S ha3_3) ?_
      refine j_istore (y := I_X0_fitsAnyPart) (ls' := [(5, .int (f_X2_sortOf a3_3 a3_4 S)), (0, .ref (w.2.1 + 1)), (1, .ref (w.2.1 + 96)), (2, .int a3_2), (3, .ref (w.2.1 + a3_3)), (4, .int a3_4)]) dX0_fitsAnyPart_18 (by decide) rfl ?_
      refine j_aload_n (y := I_X0_fitsAnyPart) 1 dX0_fitsAnyPart_20 rfl rfl ?_
      refine j_getR (y := I_X0_fitsAnyPart) (j := 2) fl_0_11 k_1 rfl rfl dX0_fitsAnyPart_21 ?_
      refine j_iload_n (y := I_X0_fitsAnyPart) 3 dX0_fitsAnyPart_24 rfl rfl ?_
      refine j_aald (y := I_X0_fitsAnyPart) (j := (8 + 2 * ix a3_2)) (tt := 0) k_2 rfl (rho_2 _) dX0_fitsAnyPart_25 (fun h25 => ?_)
      refine j_iload (y := I_X0_fitsAnyPart) 0 dX0_fitsAnyPart_26 rfl ?_
      refine j_callVzT (y := I_X0_fitsAnyPart) (As := [.int (f_X2_sortOf a3_3 a3_4 S)]) cv_0_144 ⟨Nat.le_of_ble_eq_true rfl, Nat.le_of_ble_eq_true rfl⟩ (kd_So _ (inb_lt h25)) rfl (Nat.le_of_ble_eq_true rfl) dX0_fitsAnyPart_28 (c_X5_accepts l w (8 + 2 * ix a3_2) (f_X2_sortOf a3_3 a3_4 S) S (kd_So _ (inb_lt h25))) ?_
      refine j_if_eqB (y := I_X0_fitsAnyPart) 46 dX0_fitsAnyPart_31 (by decide) (fun h31 => ?_) (fun h31 => ?_)
      · refine j_iinc (y := I_X0_fitsAnyPart) 5 (ls' := [(4, .int (a3_4 + (1 : Int32))), (5, .int (f_X2_sortOf a3_3 a3_4 S)), (0, .ref (w.2.1 + 1)), (1, .ref (w.2.1 + 96)), (2, .int a3_2), (3, .ref (w.2.1 + a3_3))]) dX0_fitsAnyPart_46 rfl (ii _ _ (by decide) _) (by decide) rfl ?_
        refine j_goto (y := I_X0_fitsAnyPart) 3 dX0_fitsAnyPart_49 (by decide) ?_
        refine j_sub [2, 3, 4, 5, 0] rfl ?_
        exact ih a3_2 a3_3 (a3_4 + (1 : Int32)) ha3_3 hK
      · refine j_aload_n (y := I_X0_fitsAnyPart) 2 dX0_fitsAnyPart_34 rfl rfl ?_
        refine j_iload_n (y := I_X0_fitsAnyPart) 3 dX0_fitsAnyPart_35 rfl rfl ?_
        refine j_iload (y := I_X0_fitsAnyPart) 0 dX0_fitsAnyPart_36 rfl ?_
        refine j_callVzR (y := I_X0_fitsAnyPart) (As := [.int a3_2, .int (f_X2_sortOf a3_3 a3_4 S)]) cv_0_152 ⟨Nat.le_of_ble_eq_true rfl, Nat.le_of_ble_eq_true rfl⟩ k_96 rfl (Nat.le_of_ble_eq_true rfl) dX0_fitsAnyPart_38 (c_X3_bloomTogether l w a3_2 (f_X2_sortOf a3_3 a3_4 S) S) (fun v38 h38 => ?_)
        refine j_if_eqB (y := I_X0_fitsAnyPart) 46 dX0_fitsAnyPart_41 (by decide) (fun h41 => ?_) (fun h41 => ?_)
        · refine j_iinc (y := I_X0_fitsAnyPart) 5 (ls' := [(4, .int (a3_4 + (1 : Int32))), (5, .int (f_X2_sortOf a3_3 a3_4 S)), (0, .ref (w.2.1 + 1)), (1, .ref (w.2.1 + 96)), (2, .int a3_2), (3, .ref (w.2.1 + a3_3))]) dX0_fitsAnyPart_46 rfl (ii _ _ (by decide) _) (by decide) rfl ?_
          refine j_goto (y := I_X0_fitsAnyPart) 3 dX0_fitsAnyPart_49 (by decide) ?_
          refine j_sub [2, 3, 4, 5, 0] rfl ?_
          exact ih a3_2 a3_3 (a3_4 + (1 : Int32)) ha3_3 hK
        · refine j_iconst (y := I_X0_fitsAnyPart) (v := 1) dX0_fitsAnyPart_44 (by decide) ?_
          exact j_zret (y := I_X0_fitsAnyPart) (q := true) rfl rfl dX0_fitsAnyPart_45 rfl
set_option maxRecDepth 100000 in
set_option maxHeartbeats 4000000 in
theorem m_X0_fitsAnyPart (l : Launch) (w : Wd) (x2 : Int32) (u3 : Nat) (S : St) (hu3 : kd u3 = KdPlace) : J l w I_X0_fitsAnyPart 0 [(0, .ref (w.2.1 + 1)), (1, .ref (w.2.1 + 96)), (2, .int x2), (3, .ref (w.2.1 + u3))] [] S (fun b => (some (.int (b2i b)), S)) (f_X0_fitsAnyPart x2 u3 S) := by
  unfold f_X0_fitsAnyPart
  refine j_iconst (y := I_X0_fitsAnyPart) (v := 0) dX0_fitsAnyPart_0 (by decide) ?_
  refine j_istore (y := I_X0_fitsAnyPart) (ls' := [(4, .int (0 : Int32)), (0, .ref (w.2.1 + 1)), (1, .ref (w.2.1 + 96)), (2, .int x2), (3, .ref (w.2.1 + u3))]) dX0_fitsAnyPart_1 (by decide) rfl ?_
  refine j_sub [1, 2, 3, 4, 0] rfl ?_
  refine jl_X0_fitsAnyPart_3 l w S _ 6000 x2 u3 (0 : Int32)  hu3 ?_
  refine j_iconst (y := I_X0_fitsAnyPart) (v := 0) dX0_fitsAnyPart_52 (by decide) ?_
  exact j_zret (y := I_X0_fitsAnyPart) (q := false) rfl rfl dX0_fitsAnyPart_53 rfl
theorem c_X0_fitsAnyPart (l : Launch) (w : Wd) (x2 : Int32) (u3 : Nat) (S : St) (hu3 : kd u3 = KdPlace) : ∀ v, f_X0_fitsAnyPart x2 u3 S = some v → CtS l w I_X0_fitsAnyPart [.ref (w.2.1 + 1), .ref (w.2.1 + 96), .int x2, .ref (w.2.1 + u3)] S S (some (.int (b2i v))) := fun v h => J.ct (av := [.ref (w.2.1 + 1), .ref (w.2.1 + 96), .int x2, .ref (w.2.1 + u3)]) (Nat.le_of_ble_eq_true rfl) pn_0 (m_X0_fitsAnyPart l w x2 u3 S hu3) h
abbrev I_X0_couldHavePartner : MI := (yX0_couldHavePartner, cX0_couldHavePartner, 6, some .boolean, { frames := 3, cells := 0, slots := 0, locals := 68 })
theorem dX0_couldHavePartner_0 : decode cX0_couldHavePartner 0 = .ok (.aload_n 0, 1) := by decide +kernel
theorem dX0_couldHavePartner_1 : decode cX0_couldHavePartner 1 = .ok (.getfield 23, 3) := by decide +kernel
theorem dX0_couldHavePartner_4 : decode cX0_couldHavePartner 4 = .ok (.iload_n 2, 1) := by decide +kernel
theorem dX0_couldHavePartner_5 : decode cX0_couldHavePartner 5 = .ok (.aaload, 1) := by decide +kernel
theorem dX0_couldHavePartner_6 : decode cX0_couldHavePartner 6 = .ok (.astore_n 3, 1) := by decide +kernel
theorem dX0_couldHavePartner_7 : decode cX0_couldHavePartner 7 = .ok (.iconst 0, 1) := by decide +kernel
theorem dX0_couldHavePartner_8 : decode cX0_couldHavePartner 8 = .ok (.istore 4, 2) := by decide +kernel
theorem dX0_couldHavePartner_10 : decode cX0_couldHavePartner 10 = .ok (.iload 4, 2) := by decide +kernel
theorem dX0_couldHavePartner_12 : decode cX0_couldHavePartner 12 = .ok (.aload_n 3, 1) := by decide +kernel
theorem dX0_couldHavePartner_13 : decode cX0_couldHavePartner 13 = .ok (.invokevirtual 138, 3) := by decide +kernel
theorem dX0_couldHavePartner_16 : decode cX0_couldHavePartner 16 = .ok (.if_icmp .ge 58, 3) := by decide +kernel
theorem dX0_couldHavePartner_19 : decode cX0_couldHavePartner 19 = .ok (.iconst 0, 1) := by decide +kernel
theorem dX0_couldHavePartner_20 : decode cX0_couldHavePartner 20 = .ok (.istore 5, 2) := by decide +kernel
theorem dX0_couldHavePartner_22 : decode cX0_couldHavePartner 22 = .ok (.iload 5, 2) := by decide +kernel
theorem dX0_couldHavePartner_24 : decode cX0_couldHavePartner 24 = .ok (.bipush 12, 2) := by decide +kernel
theorem dX0_couldHavePartner_26 : decode cX0_couldHavePartner 26 = .ok (.if_icmp .ge 42, 3) := by decide +kernel
theorem dX0_couldHavePartner_29 : decode cX0_couldHavePartner 29 = .ok (.aload_n 0, 1) := by decide +kernel
theorem dX0_couldHavePartner_30 : decode cX0_couldHavePartner 30 = .ok (.iload_n 2, 1) := by decide +kernel
theorem dX0_couldHavePartner_31 : decode cX0_couldHavePartner 31 = .ok (.iload 5, 2) := by decide +kernel
theorem dX0_couldHavePartner_33 : decode cX0_couldHavePartner 33 = .ok (.invokevirtual 141, 3) := by decide +kernel
theorem dX0_couldHavePartner_36 : decode cX0_couldHavePartner 36 = .ok (.ifCond .eq 26, 3) := by decide +kernel
theorem dX0_couldHavePartner_39 : decode cX0_couldHavePartner 39 = .ok (.aload_n 0, 1) := by decide +kernel
theorem dX0_couldHavePartner_40 : decode cX0_couldHavePartner 40 = .ok (.aload_n 1, 1) := by decide +kernel
theorem dX0_couldHavePartner_41 : decode cX0_couldHavePartner 41 = .ok (.aload_n 3, 1) := by decide +kernel
theorem dX0_couldHavePartner_42 : decode cX0_couldHavePartner 42 = .ok (.iload 4, 2) := by decide +kernel
theorem dX0_couldHavePartner_44 : decode cX0_couldHavePartner 44 = .ok (.invokevirtual 125, 3) := by decide +kernel
theorem dX0_couldHavePartner_47 : decode cX0_couldHavePartner 47 = .ok (.aload_n 0, 1) := by decide +kernel
theorem dX0_couldHavePartner_48 : decode cX0_couldHavePartner 48 = .ok (.getfield 23, 3) := by decide +kernel
theorem dX0_couldHavePartner_51 : decode cX0_couldHavePartner 51 = .ok (.iload 5, 2) := by decide +kernel
theorem dX0_couldHavePartner_53 : decode cX0_couldHavePartner 53 = .ok (.aaload, 1) := by decide +kernel
theorem dX0_couldHavePartner_54 : decode cX0_couldHavePartner 54 = .ok (.invokevirtual 148, 3) := by decide +kernel
theorem dX0_couldHavePartner_57 : decode cX0_couldHavePartner 57 = .ok (.ifCond .eq 5, 3) := by decide +kernel
theorem dX0_couldHavePartner_60 : decode cX0_couldHavePartner 60 = .ok (.iconst 1, 1) := by decide +kernel
theorem dX0_couldHavePartner_61 : decode cX0_couldHavePartner 61 = .ok (.ireturn, 1) := by decide +kernel
theorem dX0_couldHavePartner_62 : decode cX0_couldHavePartner 62 = .ok (.iinc 5 1, 3) := by decide +kernel
theorem dX0_couldHavePartner_65 : decode cX0_couldHavePartner 65 = .ok (.goto (-43), 3) := by decide +kernel
theorem dX0_couldHavePartner_68 : decode cX0_couldHavePartner 68 = .ok (.iinc 4 1, 3) := by decide +kernel
theorem dX0_couldHavePartner_71 : decode cX0_couldHavePartner 71 = .ok (.goto (-61), 3) := by decide +kernel
theorem dX0_couldHavePartner_74 : decode cX0_couldHavePartner 74 = .ok (.iconst 0, 1) := by decide +kernel
theorem dX0_couldHavePartner_75 : decode cX0_couldHavePartner 75 = .ok (.ireturn, 1) := by decide +kernel
theorem cv_0_141 : CV RX0 141 2 0 I_X0_isNear := ⟨⟨⟨gm 574 (by decide +kernel) rfl, gm 577 (by decide +kernel) rfl, gm 38 (by decide +kernel) rfl, mh_0.1, mh_0.2, by decide +kernel⟩, gm 575 (by decide +kernel) rfl, gm 576 (by decide +kernel) rfl⟩, ⟨_, _, rfl⟩, rfl, rfl⟩
theorem cv_0_148 : CV RX0 148 3 0 I_X0_fitsAnyPart := ⟨⟨⟨gm 709 (by decide +kernel) rfl, gm 712 (by decide +kernel) rfl, gm 38 (by decide +kernel) rfl, mh_0.1, mh_0.2, by decide +kernel⟩, gm 710 (by decide +kernel) rfl, gm 711 (by decide +kernel) rfl⟩, ⟨_, _, rfl⟩, rfl, rfl⟩
def f_X0_couldHavePartner_L22 (fuel : Nat) (K : Int32 → Nat → Int32 → Option (Bool)) (a22_2 : Int32) (a22_3 : Nat) (a22_4 : Int32) (a22_5 : Int32) (S : St) : Option (Bool) := match fuel with
  | 0 => none
  | n + 1 => if a22_5 < (12 : Int32) then ((f_X0_isNear a22_2 a22_5 S).bind fun v33 => (if v33 = true then (if inb a22_5 12 = true then ((f_X0_fitsAnyPart (f_X2_sortOf a22_3 a22_4 S) (20 + 2 * ix a22_5) S).bind fun v54 => (if v54 = true then (some true) else (f_X0_couldHavePartner_L22 n K a22_2 a22_3 a22_4 (a22_5 + (1 : Int32)) S))) else none) else (f_X0_couldHavePartner_L22 n K a22_2 a22_3 a22_4 (a22_5 + (1 : Int32)) S))) else (K a22_2 a22_3 a22_4)
def f_X0_couldHavePartner_L10 (fuel : Nat) (K : Option (Bool)) (a10_2 : Int32) (a10_3 : Nat) (a10_4 : Int32) (S : St) : Option (Bool) := match fuel with
  | 0 => none
  | n + 1 => if a10_4 < (f_X2_partCount a10_3 S) then (f_X0_couldHavePartner_L22 6000 (fun e68_2 e68_3 e68_4 => (f_X0_couldHavePartner_L10 n K e68_2 e68_3 (e68_4 + (1 : Int32)) S)) a10_2 a10_3 a10_4 (0 : Int32) S) else (K)
def f_X0_couldHavePartner (x2 : Int32) (S : St) : Option (Bool) := if inb x2 12 = true then (f_X0_couldHavePartner_L10 6000 (some false) x2 (20 + 2 * ix x2) (0 : Int32) S) else none
set_option maxRecDepth 100000 in
theorem jl_X0_couldHavePartner_22 (l : Launch) (w : Wd) (S : St) (K : Int32 → Nat → Int32 → Option (Bool)) (n : Nat) : ∀ (a22_2 : Int32) (a22_3 : Nat) (a22_4 : Int32) (a22_5 : Int32) (ha22_3 : kd a22_3 = KdPlace), (∀ (e68_2 : Int32) (e68_3 : Nat) (e68_4 : Int32) (he68_3 : kd e68_3 = KdPlace), J l w I_X0_couldHavePartner 68 [(0, .ref (w.2.1 + 1)), (1, .ref (w.2.1 + 96)), (2, .int e68_2), (3, .ref (w.2.1 + e68_3)), (4, .int e68_4)] [] S (fun b => (some (.int (b2i b)), S)) (K e68_2 e68_3 e68_4)) → J l w I_X0_couldHavePartner 22 [(0, .ref (w.2.1 + 1)), (1, .ref (w.2.1 + 96)), (2, .int a22_2), (3, .ref (w.2.1 + a22_3)), (4, .int a22_4), (5, .int a22_5)] [] S (fun b => (some (.int (b2i b)), S)) (f_X0_couldHavePartner_L22 n K a22_2 a22_3 a22_4 a22_5 S) := by
  induction n with
  | zero =>
    intro a22_2 a22_3 a22_4 a22_5 ha22_3 hK b h
    simp only [f_X0_couldHavePartner_L22] at h
    cases h
  | succ n ih =>
    intro a22_2 a22_3 a22_4 a22_5 ha22_3 hK
    rw [f_X0_couldHavePartner_L22]
    refine j_iload (y := I_X0_couldHavePartner) 5 dX0_couldHavePartner_22 rfl ?_
    refine j_bipush (y := I_X0_couldHavePartner) (v := 12) dX0_couldHavePartner_24 (by decide) ?_
    refine j_icmp_ge (y := I_X0_couldHavePartner) 68 dX0_couldHavePartner_26 (by decide) (fun h26 => ?_) (fun h26 => ?_)
    · refine j_sub [0, 1, 2, 3, 4] rfl ?_
      exact hK a22_2 a22_3 a22_4 ha22_3
    · refine j_aload_n (y := I_X0_couldHavePartner) 0 dX0_couldHavePartner_29 rfl rfl ?_
      refine j_iload_n (y := I_X0_couldHavePartner) 2 dX0_couldHavePartner_30 rfl rfl ?_
      refine j_iload (y := I_X0_couldHavePartner) 5 dX0_couldHavePartner_31 rfl ?_
      refine j_callVzR (y := I_X0_couldHavePartner) (As := [.int a22_2, .int a22_5]) cv_0_141 ⟨Nat.le_of_ble_eq_true rfl, Nat.le_of_ble_eq_true rfl⟩ k_1 rfl (Nat.le_of_ble_eq_true rfl) dX0_couldHavePartner_33 (c_X0_isNear l w a22_2 a22_5 S) (fun v33 h33 => ?_)
      refine j_if_eqB (y := I_X0_couldHavePartner) 62 dX0_couldHavePartner_36 (by decide) (fun h36 => ?_) (fun h36 => ?_)
      · refine j_iinc (y := I_X0_couldHavePartner) 5 (ls' := [(5, .int (a22_5 + (1 : Int32))), (0, .ref (w.2.1 + 1)), (1, .ref (w.2.1 + 96)), (2, .int a22_2), (3, .ref (w.2.1 + a22_3)), (4, .int a22_4)]) dX0_couldHavePartner_62 rfl (ii _ _ (by decide) _) (by decide) rfl ?_
        refine j_goto (y := I_X0_couldHavePartner) 22 dX0_couldHavePartner_65 (by decide) ?_
        refine j_sub [1, 2, 3, 4, 5, 0] rfl ?_
        exact ih a22_2 a22_3 a22_4 (a22_5 + (1 : Int32)) ha22_3 hK
      · refine j_aload_n (y := I_X0_couldHavePartner) 0 dX0_couldHavePartner_39 rfl rfl ?_
        refine j_aload_n (y := I_X0_couldHavePartner) 1 dX0_couldHavePartner_40 rfl rfl ?_
        refine j_aload_n (y := I_X0_couldHavePartner) 3 dX0_couldHavePartner_41 rfl rfl ?_
        refine j_iload (y := I_X0_couldHavePartner) 4 dX0_couldHavePartner_42 rfl ?_
        refine j_callViT (y := I_X0_couldHavePartner) (As := [.int a22_4]) cv_0_125 ⟨Nat.le_of_ble_eq_true rfl, Nat.le_of_ble_eq_true rfl⟩ ha22_3 rfl (Nat.le_of_ble_eq_true rfl) dX0_couldHavePartner_44 (c_X2_sortOf l w a22_3 a22_4 S ha22_3) ?_
        refine j_aload_n (y := I_X0_couldHavePartner) 0 dX0_couldHavePartner_47 rfl rfl ?_
        refine j_getR (y := I_X0_couldHavePartner) (j := 3) fl_0_23 k_1 rfl rfl dX0_couldHavePartner_48 ?_
        refine j_iload (y := I_X0_couldHavePartner) 5 dX0_couldHavePartner_51 rfl ?_
        refine j_aald (y := I_X0_couldHavePartner) (j := (20 + 2 * ix a22_5)) (tt := 1) k_3 rfl (rho_3 _) dX0_couldHavePartner_53 (fun h53 => ?_)
        refine j_callVzR (y := I_X0_couldHavePartner) (As := [.ref (w.2.1 + 96), .int (f_X2_sortOf a22_3 a22_4 S), .ref (w.2.1 + (20 + 2 * ix a22_5))]) cv_0_148 ⟨Nat.le_of_ble_eq_true rfl, Nat.le_of_ble_eq_true rfl⟩ k_1 rfl (Nat.le_of_ble_eq_true rfl) dX0_couldHavePartner_54 (c_X0_fitsAnyPart l w (f_X2_sortOf a22_3 a22_4 S) (20 + 2 * ix a22_5) S (kd_Pl _ (inb_lt h53))) (fun v54 h54 => ?_)
        refine j_if_eqB (y := I_X0_couldHavePartner) 62 dX0_couldHavePartner_57 (by decide) (fun h57 => ?_) (fun h57 => ?_)
        · refine j_iinc (y := I_X0_couldHavePartner) 5 (ls' := [(5, .int (a22_5 + (1 : Int32))), (0, .ref (w.2.1 + 1)), (1, .ref (w.2.1 + 96)), (2, .int a22_2), (3, .ref (w.2.1 + a22_3)), (4, .int a22_4)]) dX0_couldHavePartner_62 rfl (ii _ _ (by decide) _) (by decide) rfl ?_
          refine j_goto (y := I_X0_couldHavePartner) 22 dX0_couldHavePartner_65 (by decide) ?_
          refine j_sub [1, 2, 3, 4, 5, 0] rfl ?_
          exact ih a22_2 a22_3 a22_4 (a22_5 + (1 : Int32)) ha22_3 hK
        · refine j_iconst (y := I_X0_couldHavePartner) (v := 1) dX0_couldHavePartner_60 (by decide) ?_
          exact j_zret (y := I_X0_couldHavePartner) (q := true) rfl rfl dX0_couldHavePartner_61 rfl
set_option maxRecDepth 100000 in
theorem jl_X0_couldHavePartner_10 (l : Launch) (w : Wd) (S : St) (K : Option (Bool)) (n : Nat) : ∀ (a10_2 : Int32) (a10_3 : Nat) (a10_4 : Int32) (ha10_3 : kd a10_3 = KdPlace), ( J l w I_X0_couldHavePartner 74 [] [] S (fun b => (some (.int (b2i b)), S)) (K )) → J l w I_X0_couldHavePartner 10 [(0, .ref (w.2.1 + 1)), (1, .ref (w.2.1 + 96)), (2, .int a10_2), (3, .ref (w.2.1 + a10_3)), (4, .int a10_4)] [] S (fun b => (some (.int (b2i b)), S)) (f_X0_couldHavePartner_L10 n K a10_2 a10_3 a10_4 S) := by
  induction n with
  | zero =>
    intro a10_2 a10_3 a10_4 ha10_3 hK b h
    simp only [f_X0_couldHavePartner_L10] at h
    cases h
  | succ n ih =>
    intro a10_2 a10_3 a10_4 ha10_3 hK
    rw [f_X0_couldHavePartner_L10]
    refine j_iload (y := I_X0_couldHavePartner) 4 dX0_couldHavePartner_10 rfl ?_
    refine j_aload_n (y := I_X0_couldHavePartner) 3 dX0_couldHavePartner_12 rfl rfl ?_
    refine j_callViT (y := I_X0_couldHavePartner) (As := []) cv_0_138 ⟨Nat.le_of_ble_eq_true rfl, Nat.le_of_ble_eq_true rfl⟩ ha10_3 rfl (Nat.le_of_ble_eq_true rfl) dX0_couldHavePartner_13 (c_X2_partCount l w a10_3 S ha10_3) ?_
    refine j_icmp_ge (y := I_X0_couldHavePartner) 74 dX0_couldHavePartner_16 (by decide) (fun h16 => ?_) (fun h16 => ?_)
    · refine j_sub [] rfl ?_
      exact hK
    · refine j_iconst (y := I_X0_couldHavePartner) (v := 0) dX0_couldHavePartner_19 (by decide) ?_
      refine j_istore (y := I_X0_couldHavePartner) (ls' := [(5, .int (0 : Int32)), (0, .ref (w.2.1 + 1)), (1, .ref (w.2.1 + 96)), (2, .int a10_2), (3, .ref (w.2.1 + a10_3)), (4, .int a10_4)]) dX0_couldHavePartner_20 (by decide) rfl ?_
      refine j_sub [1, 2, 3, 4, 5, 0] rfl ?_
      refine jl_X0_couldHavePartner_22 l w S _ 6000 a10_2 a10_3 a10_4 (0 : Int32)  ha10_3 (fun e68_2 e68_3 e68_4 he68_3 => ?_)
      refine j_iinc (y := I_X0_couldHavePartner) 4 (ls' := [(4, .int (e68_4 + (1 : Int32))), (0, .ref (w.2.1 + 1)), (1, .ref (w.2.1 + 96)), (2, .int e68_2), (3, .ref (w.2.1 + e68_3))]) dX0_couldHavePartner_68 rfl (ii _ _ (by decide) _) (by decide) rfl ?_
      refine j_goto (y := I_X0_couldHavePartner) 10 dX0_couldHavePartner_71 (by decide) ?_
      refine j_sub [1, 2, 3, 4, 0] rfl ?_
      exact ih e68_2 e68_3 (e68_4 + (1 : Int32)) he68_3 hK
set_option maxRecDepth 100000 in
set_option maxHeartbeats 4000000 in
theorem m_X0_couldHavePartner (l : Launch) (w : Wd) (x2 : Int32) (S : St)  : J l w I_X0_couldHavePartner 0 [(0, .ref (w.2.1 + 1)), (1, .ref (w.2.1 + 96)), (2, .int x2)] [] S (fun b => (some (.int (b2i b)), S)) (f_X0_couldHavePartner x2 S) := by
  unfold f_X0_couldHavePartner
  refine j_aload_n (y := I_X0_couldHavePartner) 0 dX0_couldHavePartner_0 rfl rfl ?_
  refine j_getR (y := I_X0_couldHavePartner) (j := 3) fl_0_23 k_1 rfl rfl dX0_couldHavePartner_1 ?_
  refine j_iload_n (y := I_X0_couldHavePartner) 2 dX0_couldHavePartner_4 rfl rfl ?_
  refine j_aald (y := I_X0_couldHavePartner) (j := (20 + 2 * ix x2)) (tt := 1) k_3 rfl (rho_3 _) dX0_couldHavePartner_5 (fun h5 => ?_)
  refine j_astore_n (y := I_X0_couldHavePartner) (ls' := [(3, .ref (w.2.1 + (20 + 2 * ix x2))), (0, .ref (w.2.1 + 1)), (1, .ref (w.2.1 + 96)), (2, .int x2)]) dX0_couldHavePartner_6 rfl (by decide) rfl ?_
  refine j_iconst (y := I_X0_couldHavePartner) (v := 0) dX0_couldHavePartner_7 (by decide) ?_
  refine j_istore (y := I_X0_couldHavePartner) (ls' := [(4, .int (0 : Int32)), (3, .ref (w.2.1 + (20 + 2 * ix x2))), (0, .ref (w.2.1 + 1)), (1, .ref (w.2.1 + 96)), (2, .int x2)]) dX0_couldHavePartner_8 (by decide) rfl ?_
  refine j_sub [2, 3, 4, 1, 0] rfl ?_
  refine jl_X0_couldHavePartner_10 l w S _ 6000 x2 (20 + 2 * ix x2) (0 : Int32)  (kd_Pl _ (inb_lt h5)) ?_
  refine j_iconst (y := I_X0_couldHavePartner) (v := 0) dX0_couldHavePartner_74 (by decide) ?_
  exact j_zret (y := I_X0_couldHavePartner) (q := false) rfl rfl dX0_couldHavePartner_75 rfl
theorem c_X0_couldHavePartner (l : Launch) (w : Wd) (x2 : Int32) (S : St)  : ∀ v, f_X0_couldHavePartner x2 S = some v → CtS l w I_X0_couldHavePartner [.ref (w.2.1 + 1), .ref (w.2.1 + 96), .int x2] S S (some (.int (b2i v))) := fun v h => J.ct (av := [.ref (w.2.1 + 1), .ref (w.2.1 + 96), .int x2]) (Nat.le_of_ble_eq_true rfl) pn_0 (m_X0_couldHavePartner l w x2 S ) h
abbrev I_X0_isOpen : MI := (yX0_isOpen, cX0_isOpen, 5, some .boolean, { frames := 2, cells := 0, slots := 0, locals := 43 })
theorem dX0_isOpen_0 : decode cX0_isOpen 0 = .ok (.aload_n 1, 1) := by decide +kernel
theorem dX0_isOpen_1 : decode cX0_isOpen 1 = .ok (.aload_n 2, 1) := by decide +kernel
theorem dX0_isOpen_2 : decode cX0_isOpen 2 = .ok (.iload_n 3, 1) := by decide +kernel
theorem dX0_isOpen_3 : decode cX0_isOpen 3 = .ok (.invokevirtual 125, 3) := by decide +kernel
theorem dX0_isOpen_6 : decode cX0_isOpen 6 = .ok (.iload 4, 2) := by decide +kernel
theorem dX0_isOpen_8 : decode cX0_isOpen 8 = .ok (.invokevirtual 128, 3) := by decide +kernel
theorem dX0_isOpen_11 : decode cX0_isOpen 11 = .ok (.ifCond .eq 15, 3) := by decide +kernel
theorem dX0_isOpen_14 : decode cX0_isOpen 14 = .ok (.aload_n 0, 1) := by decide +kernel
theorem dX0_isOpen_15 : decode cX0_isOpen 15 = .ok (.aload_n 2, 1) := by decide +kernel
theorem dX0_isOpen_16 : decode cX0_isOpen 16 = .ok (.invokevirtual 96, 3) := by decide +kernel
theorem dX0_isOpen_19 : decode cX0_isOpen 19 = .ok (.ifCond .le 7, 3) := by decide +kernel
theorem dX0_isOpen_22 : decode cX0_isOpen 22 = .ok (.iconst 1, 1) := by decide +kernel
theorem dX0_isOpen_23 : decode cX0_isOpen 23 = .ok (.goto 4, 3) := by decide +kernel
theorem dX0_isOpen_26 : decode cX0_isOpen 26 = .ok (.iconst 0, 1) := by decide +kernel
theorem dX0_isOpen_27 : decode cX0_isOpen 27 = .ok (.ireturn, 1) := by decide +kernel
theorem cv_0_128 : CV RX0 128 2 3 I_X3_isInBloom := ⟨⟨⟨gm 569 (by decide +kernel) rfl, gm 572 (by decide +kernel) rfl, gm 42 (by decide +kernel) rfl, mh_3.1, mh_3.2, by decide +kernel⟩, gm 570 (by decide +kernel) rfl, gm 571 (by decide +kernel) rfl⟩, ⟨_, _, rfl⟩, rfl, rfl⟩
theorem cv_0_96 : CV RX0 96 1 0 I_X0_budsOf := ⟨⟨⟨gm 417 (by decide +kernel) rfl, gm 420 (by decide +kernel) rfl, gm 38 (by decide +kernel) rfl, mh_0.1, mh_0.2, by decide +kernel⟩, gm 418 (by decide +kernel) rfl, gm 419 (by decide +kernel) rfl⟩, ⟨_, _, rfl⟩, rfl, rfl⟩
def f_X0_isOpen (u2 : Nat) (x3 : Int32) (x4 : Int32) (S : St) : Option (Bool) := (f_X3_isInBloom (f_X2_sortOf u2 x3 S) x4 S).bind fun v8 => (if v8 = true then ((f_X0_budsOf u2 S).bind fun v16 => (if 0 < v16 then (some true) else (some false))) else (some false))
set_option maxRecDepth 100000 in
set_option maxHeartbeats 4000000 in
theorem m_X0_isOpen (l : Launch) (w : Wd) (u2 : Nat) (x3 : Int32) (x4 : Int32) (S : St) (hu2 : kd u2 = KdPlace) : J l w I_X0_isOpen 0 [(0, .ref (w.2.1 + 1)), (1, .ref (w.2.1 + 96)), (2, .ref (w.2.1 + u2)), (3, .int x3), (4, .int x4)] [] S (fun b => (some (.int (b2i b)), S)) (f_X0_isOpen u2 x3 x4 S) := by
  unfold f_X0_isOpen
  refine j_aload_n (y := I_X0_isOpen) 1 dX0_isOpen_0 rfl rfl ?_
  refine j_aload_n (y := I_X0_isOpen) 2 dX0_isOpen_1 rfl rfl ?_
  refine j_iload_n (y := I_X0_isOpen) 3 dX0_isOpen_2 rfl rfl ?_
  refine j_callViT (y := I_X0_isOpen) (As := [.int x3]) cv_0_125 ⟨Nat.le_of_ble_eq_true rfl, Nat.le_of_ble_eq_true rfl⟩ hu2 rfl (Nat.le_of_ble_eq_true rfl) dX0_isOpen_3 (c_X2_sortOf l w u2 x3 S hu2) ?_
  refine j_iload (y := I_X0_isOpen) 4 dX0_isOpen_6 rfl ?_
  refine j_callVzR (y := I_X0_isOpen) (As := [.int (f_X2_sortOf u2 x3 S), .int x4]) cv_0_128 ⟨Nat.le_of_ble_eq_true rfl, Nat.le_of_ble_eq_true rfl⟩ k_96 rfl (Nat.le_of_ble_eq_true rfl) dX0_isOpen_8 (c_X3_isInBloom l w (f_X2_sortOf u2 x3 S) x4 S) (fun v8 h8 => ?_)
  refine j_if_eqB (y := I_X0_isOpen) 26 dX0_isOpen_11 (by decide) (fun h11 => ?_) (fun h11 => ?_)
  · refine j_iconst (y := I_X0_isOpen) (v := 0) dX0_isOpen_26 (by decide) ?_
    exact j_zret (y := I_X0_isOpen) (q := false) rfl rfl dX0_isOpen_27 rfl
  · refine j_aload_n (y := I_X0_isOpen) 0 dX0_isOpen_14 rfl rfl ?_
    refine j_aload_n (y := I_X0_isOpen) 2 dX0_isOpen_15 rfl rfl ?_
    refine j_callViR (y := I_X0_isOpen) (As := [.ref (w.2.1 + u2)]) cv_0_96 ⟨Nat.le_of_ble_eq_true rfl, Nat.le_of_ble_eq_true rfl⟩ k_1 rfl (Nat.le_of_ble_eq_true rfl) dX0_isOpen_16 (c_X0_budsOf l w u2 S hu2) (fun v16 h16 => ?_)
    refine j_if_le (y := I_X0_isOpen) 26 dX0_isOpen_19 (by decide) (fun h19 => ?_) (fun h19 => ?_)
    · refine j_iconst (y := I_X0_isOpen) (v := 0) dX0_isOpen_26 (by decide) ?_
      exact j_zret (y := I_X0_isOpen) (q := false) rfl rfl dX0_isOpen_27 rfl
    · refine j_iconst (y := I_X0_isOpen) (v := 1) dX0_isOpen_22 (by decide) ?_
      refine j_goto (y := I_X0_isOpen) 27 dX0_isOpen_23 (by decide) ?_
      exact j_zret (y := I_X0_isOpen) (q := true) rfl rfl dX0_isOpen_27 rfl
theorem c_X0_isOpen (l : Launch) (w : Wd) (u2 : Nat) (x3 : Int32) (x4 : Int32) (S : St) (hu2 : kd u2 = KdPlace) : ∀ v, f_X0_isOpen u2 x3 x4 S = some v → CtS l w I_X0_isOpen [.ref (w.2.1 + 1), .ref (w.2.1 + 96), .ref (w.2.1 + u2), .int x3, .int x4] S S (some (.int (b2i v))) := fun v h => J.ct (av := [.ref (w.2.1 + 1), .ref (w.2.1 + 96), .ref (w.2.1 + u2), .int x3, .int x4]) (Nat.le_of_ble_eq_true rfl) pn_0 (m_X0_isOpen l w u2 x3 x4 S hu2) h
abbrev I_X0_countPartners : MI := (yX0_countPartners, cX0_countPartners, 11, some .int, { frames := 3, cells := 0, slots := 0, locals := 67 })
theorem dX0_countPartners_0 : decode cX0_countPartners 0 = .ok (.aload_n 0, 1) := by decide +kernel
theorem dX0_countPartners_1 : decode cX0_countPartners 1 = .ok (.getfield 23, 3) := by decide +kernel
theorem dX0_countPartners_4 : decode cX0_countPartners 4 = .ok (.iload_n 2, 1) := by decide +kernel
theorem dX0_countPartners_5 : decode cX0_countPartners 5 = .ok (.aaload, 1) := by decide +kernel
theorem dX0_countPartners_6 : decode cX0_countPartners 6 = .ok (.astore 5, 2) := by decide +kernel
theorem dX0_countPartners_8 : decode cX0_countPartners 8 = .ok (.aload_n 0, 1) := by decide +kernel
theorem dX0_countPartners_9 : decode cX0_countPartners 9 = .ok (.aload_n 1, 1) := by decide +kernel
theorem dX0_countPartners_10 : decode cX0_countPartners 10 = .ok (.aload 5, 2) := by decide +kernel
theorem dX0_countPartners_12 : decode cX0_countPartners 12 = .ok (.iload_n 3, 1) := by decide +kernel
theorem dX0_countPartners_13 : decode cX0_countPartners 13 = .ok (.iload 4, 2) := by decide +kernel
theorem dX0_countPartners_15 : decode cX0_countPartners 15 = .ok (.invokevirtual 134, 3) := by decide +kernel
theorem dX0_countPartners_18 : decode cX0_countPartners 18 = .ok (.ifCond .ne 5, 3) := by decide +kernel
theorem dX0_countPartners_21 : decode cX0_countPartners 21 = .ok (.iconst 0, 1) := by decide +kernel
theorem dX0_countPartners_22 : decode cX0_countPartners 22 = .ok (.ireturn, 1) := by decide +kernel
theorem dX0_countPartners_23 : decode cX0_countPartners 23 = .ok (.aload_n 0, 1) := by decide +kernel
theorem dX0_countPartners_24 : decode cX0_countPartners 24 = .ok (.getfield 11, 3) := by decide +kernel
theorem dX0_countPartners_27 : decode cX0_countPartners 27 = .ok (.aload 5, 2) := by decide +kernel
theorem dX0_countPartners_29 : decode cX0_countPartners 29 = .ok (.iload_n 3, 1) := by decide +kernel
theorem dX0_countPartners_30 : decode cX0_countPartners 30 = .ok (.invokevirtual 125, 3) := by decide +kernel
theorem dX0_countPartners_33 : decode cX0_countPartners 33 = .ok (.aaload, 1) := by decide +kernel
theorem dX0_countPartners_34 : decode cX0_countPartners 34 = .ok (.astore 6, 2) := by decide +kernel
theorem dX0_countPartners_36 : decode cX0_countPartners 36 = .ok (.iconst 0, 1) := by decide +kernel
theorem dX0_countPartners_37 : decode cX0_countPartners 37 = .ok (.istore 7, 2) := by decide +kernel
theorem dX0_countPartners_39 : decode cX0_countPartners 39 = .ok (.iconst 0, 1) := by decide +kernel
theorem dX0_countPartners_40 : decode cX0_countPartners 40 = .ok (.istore 8, 2) := by decide +kernel
theorem dX0_countPartners_42 : decode cX0_countPartners 42 = .ok (.iload 8, 2) := by decide +kernel
theorem dX0_countPartners_44 : decode cX0_countPartners 44 = .ok (.bipush 12, 2) := by decide +kernel
theorem dX0_countPartners_46 : decode cX0_countPartners 46 = .ok (.if_icmp .ge 79, 3) := by decide +kernel
theorem dX0_countPartners_49 : decode cX0_countPartners 49 = .ok (.aload_n 0, 1) := by decide +kernel
theorem dX0_countPartners_50 : decode cX0_countPartners 50 = .ok (.getfield 23, 3) := by decide +kernel
theorem dX0_countPartners_53 : decode cX0_countPartners 53 = .ok (.iload 8, 2) := by decide +kernel
theorem dX0_countPartners_55 : decode cX0_countPartners 55 = .ok (.aaload, 1) := by decide +kernel
theorem dX0_countPartners_56 : decode cX0_countPartners 56 = .ok (.astore 9, 2) := by decide +kernel
theorem dX0_countPartners_58 : decode cX0_countPartners 58 = .ok (.iconst 0, 1) := by decide +kernel
theorem dX0_countPartners_59 : decode cX0_countPartners 59 = .ok (.istore 10, 2) := by decide +kernel
theorem dX0_countPartners_61 : decode cX0_countPartners 61 = .ok (.iload 10, 2) := by decide +kernel
theorem dX0_countPartners_63 : decode cX0_countPartners 63 = .ok (.aload 9, 2) := by decide +kernel
theorem dX0_countPartners_65 : decode cX0_countPartners 65 = .ok (.invokevirtual 138, 3) := by decide +kernel
theorem dX0_countPartners_68 : decode cX0_countPartners 68 = .ok (.if_icmp .ge 51, 3) := by decide +kernel
theorem dX0_countPartners_71 : decode cX0_countPartners 71 = .ok (.aload_n 0, 1) := by decide +kernel
theorem dX0_countPartners_72 : decode cX0_countPartners 72 = .ok (.iload_n 2, 1) := by decide +kernel
theorem dX0_countPartners_73 : decode cX0_countPartners 73 = .ok (.iload 8, 2) := by decide +kernel
theorem dX0_countPartners_75 : decode cX0_countPartners 75 = .ok (.invokevirtual 141, 3) := by decide +kernel
theorem dX0_countPartners_78 : decode cX0_countPartners 78 = .ok (.ifCond .eq 41, 3) := by decide +kernel
theorem dX0_countPartners_81 : decode cX0_countPartners 81 = .ok (.aload 6, 2) := by decide +kernel
theorem dX0_countPartners_83 : decode cX0_countPartners 83 = .ok (.aload 9, 2) := by decide +kernel
theorem dX0_countPartners_85 : decode cX0_countPartners 85 = .ok (.iload 10, 2) := by decide +kernel
theorem dX0_countPartners_87 : decode cX0_countPartners 87 = .ok (.invokevirtual 125, 3) := by decide +kernel
theorem dX0_countPartners_90 : decode cX0_countPartners 90 = .ok (.invokevirtual 144, 3) := by decide +kernel
theorem dX0_countPartners_93 : decode cX0_countPartners 93 = .ok (.ifCond .eq 20, 3) := by decide +kernel
theorem dX0_countPartners_96 : decode cX0_countPartners 96 = .ok (.aload_n 0, 1) := by decide +kernel
theorem dX0_countPartners_97 : decode cX0_countPartners 97 = .ok (.aload_n 1, 1) := by decide +kernel
theorem dX0_countPartners_98 : decode cX0_countPartners 98 = .ok (.aload 9, 2) := by decide +kernel
theorem dX0_countPartners_100 : decode cX0_countPartners 100 = .ok (.iload 10, 2) := by decide +kernel
theorem dX0_countPartners_102 : decode cX0_countPartners 102 = .ok (.iload 4, 2) := by decide +kernel
theorem dX0_countPartners_104 : decode cX0_countPartners 104 = .ok (.invokevirtual 134, 3) := by decide +kernel
theorem dX0_countPartners_107 : decode cX0_countPartners 107 = .ok (.ifCond .eq 6, 3) := by decide +kernel
theorem dX0_countPartners_110 : decode cX0_countPartners 110 = .ok (.iinc 7 1, 3) := by decide +kernel
theorem dX0_countPartners_113 : decode cX0_countPartners 113 = .ok (.iinc 10 1, 3) := by decide +kernel
theorem dX0_countPartners_116 : decode cX0_countPartners 116 = .ok (.goto (-55), 3) := by decide +kernel
theorem dX0_countPartners_119 : decode cX0_countPartners 119 = .ok (.iinc 8 1, 3) := by decide +kernel
theorem dX0_countPartners_122 : decode cX0_countPartners 122 = .ok (.goto (-80), 3) := by decide +kernel
theorem dX0_countPartners_125 : decode cX0_countPartners 125 = .ok (.iload 7, 2) := by decide +kernel
theorem dX0_countPartners_127 : decode cX0_countPartners 127 = .ok (.ireturn, 1) := by decide +kernel
theorem cv_0_134 : CV RX0 134 4 0 I_X0_isOpen := ⟨⟨⟨gm 561 (by decide +kernel) rfl, gm 564 (by decide +kernel) rfl, gm 38 (by decide +kernel) rfl, mh_0.1, mh_0.2, by decide +kernel⟩, gm 562 (by decide +kernel) rfl, gm 563 (by decide +kernel) rfl⟩, ⟨_, _, rfl⟩, rfl, rfl⟩
def f_X0_countPartners_L61 (fuel : Nat) (K : Int32 → Int32 → Nat → Int32 → Int32 → Option (Int32)) (a61_2 : Int32) (a61_4 : Int32) (a61_6 : Nat) (a61_7 : Int32) (a61_8 : Int32) (a61_9 : Nat) (a61_10 : Int32) (S : St) : Option (Int32) := match fuel with
  | 0 => none
  | n + 1 => if a61_10 < (f_X2_partCount a61_9 S) then ((f_X0_isNear a61_2 a61_8 S).bind fun v75 => (if v75 = true then (if (f_X5_accepts a61_6 (f_X2_sortOf a61_9 a61_10 S) S) = true then ((f_X0_isOpen a61_9 a61_10 a61_4 S).bind fun v104 => (if v104 = true then (f_X0_countPartners_L61 n K a61_2 a61_4 a61_6 (a61_7 + (1 : Int32)) a61_8 a61_9 (a61_10 + (1 : Int32)) S) else (f_X0_countPartners_L61 n K a61_2 a61_4 a61_6 a61_7 a61_8 a61_9 (a61_10 + (1 : Int32)) S))) else (f_X0_countPartners_L61 n K a61_2 a61_4 a61_6 a61_7 a61_8 a61_9 (a61_10 + (1 : Int32)) S)) else (K a61_2 a61_4 a61_6 a61_7 a61_8))) else (K a61_2 a61_4 a61_6 a61_7 a61_8)
def f_X0_countPartners_L42 (fuel : Nat) (K : Int32 → Option (Int32)) (a42_2 : Int32) (a42_4 : Int32) (a42_6 : Nat) (a42_7 : Int32) (a42_8 : Int32) (S : St) : Option (Int32) := match fuel with
  | 0 => none
  | n + 1 => if a42_8 < (12 : Int32) then (if inb a42_8 12 = true then (f_X0_countPartners_L61 6000 (fun e119_2 e119_4 e119_6 e119_7 e119_8 => (f_X0_countPartners_L42 n K e119_2 e119_4 e119_6 e119_7 (e119_8 + (1 : Int32)) S)) a42_2 a42_4 a42_6 a42_7 a42_8 (20 + 2 * ix a42_8) (0 : Int32) S) else none) else (K a42_7)
def f_X0_countPartners (x2 : Int32) (x3 : Int32) (x4 : Int32) (S : St) : Option (Int32) := if inb x2 12 = true then ((f_X0_isOpen (20 + 2 * ix x2) x3 x4 S).bind fun v15 => (if v15 = true then (if inb (f_X2_sortOf (20 + 2 * ix x2) x3 S) 6 = true then (f_X0_countPartners_L42 6000 (fun e125_7 => (some e125_7)) x2 x4 (8 + 2 * ix (f_X2_sortOf (20 + 2 * ix x2) x3 S)) (0 : Int32) (0 : Int32) S) else none) else (some (0 : Int32)))) else none
set_option maxRecDepth 100000 in
theorem jl_X0_countPartners_61 (l : Launch) (w : Wd) (S : St) (K : Int32 → Int32 → Nat → Int32 → Int32 → Option (Int32)) (n : Nat) : ∀ (a61_2 : Int32) (a61_4 : Int32) (a61_6 : Nat) (a61_7 : Int32) (a61_8 : Int32) (a61_9 : Nat) (a61_10 : Int32) (ha61_6 : kd a61_6 = KdSort) (ha61_9 : kd a61_9 = KdPlace), (∀ (e119_2 : Int32) (e119_4 : Int32) (e119_6 : Nat) (e119_7 : Int32) (e119_8 : Int32) (he119_6 : kd e119_6 = KdSort), J l w I_X0_countPartners 119 [(0, .ref (w.2.1 + 1)), (1, .ref (w.2.1 + 96)), (2, .int e119_2), (4, .int e119_4), (6, .ref (w.2.1 + e119_6)), (7, .int e119_7), (8, .int e119_8)] [] S (fun b => (some (.int b), S)) (K e119_2 e119_4 e119_6 e119_7 e119_8)) → J l w I_X0_countPartners 61 [(0, .ref (w.2.1 + 1)), (1, .ref (w.2.1 + 96)), (2, .int a61_2), (4, .int a61_4), (6, .ref (w.2.1 + a61_6)), (7, .int a61_7), (8, .int a61_8), (9, .ref (w.2.1 + a61_9)), (10, .int a61_10)] [] S (fun b => (some (.int b), S)) (f_X0_countPartners_L61 n K a61_2 a61_4 a61_6 a61_7 a61_8 a61_9 a61_10 S) := by
  induction n with
  | zero =>
    intro a61_2 a61_4 a61_6 a61_7 a61_8 a61_9 a61_10 ha61_6 ha61_9 hK b h
    simp only [f_X0_countPartners_L61] at h
    cases h
  | succ n ih =>
    intro a61_2 a61_4 a61_6 a61_7 a61_8 a61_9 a61_10 ha61_6 ha61_9 hK
    rw [f_X0_countPartners_L61]
    refine j_iload (y := I_X0_countPartners) 8 dX0_countPartners_61 rfl ?_
    refine j_aload (y := I_X0_countPartners) 7 dX0_countPartners_63 rfl ?_
    refine j_callViT (y := I_X0_countPartners) (As := []) cv_0_138 ⟨Nat.le_of_ble_eq_true rfl, Nat.le_of_ble_eq_true rfl⟩ ha61_9 rfl (Nat.le_of_ble_eq_true rfl) dX0_countPartners_65 (c_X2_partCount l w a61_9 S ha61_9) ?_
    refine j_icmp_ge (y := I_X0_countPartners) 119 dX0_countPartners_68 (by decide) (fun h68 => ?_) (fun h68 => ?_)
    · refine j_sub [0, 1, 2, 3, 4, 5, 6] rfl ?_
      exact hK a61_2 a61_4 a61_6 a61_7 a61_8 ha61_6
    · refine j_aload_n (y := I_X0_countPartners) 0 dX0_countPartners_71 rfl rfl ?_
      refine j_iload_n (y := I_X0_countPartners) 2 dX0_countPartners_72 rfl rfl ?_
      refine j_iload (y := I_X0_countPartners) 6 dX0_countPartners_73 rfl ?_
      refine j_callVzR (y := I_X0_countPartners) (As := [.int a61_2, .int a61_8]) cv_0_141 ⟨Nat.le_of_ble_eq_true rfl, Nat.le_of_ble_eq_true rfl⟩ k_1 rfl (Nat.le_of_ble_eq_true rfl) dX0_countPartners_75 (c_X0_isNear l w a61_2 a61_8 S) (fun v75 h75 => ?_)
      refine j_if_eqB (y := I_X0_countPartners) 119 dX0_countPartners_78 (by decide) (fun h78 => ?_) (fun h78 => ?_)
      · refine j_sub [0, 1, 2, 3, 4, 5, 6] rfl ?_
        exact hK a61_2 a61_4 a61_6 a61_7 a61_8 ha61_6
      · refine j_aload (y := I_X0_countPartners) 4 dX0_countPartners_81 rfl ?_
        refine j_aload (y := I_X0_countPartners) 7 dX0_countPartners_83 rfl ?_
        refine j_iload (y := I_X0_countPartners) 8 dX0_countPartners_85 rfl ?_
        refine j_callViT (y := I_X0_countPartners) (As := [.int a61_10]) cv_0_125 ⟨Nat.le_of_ble_eq_true rfl, Nat.le_of_ble_eq_true rfl⟩ ha61_9 rfl (Nat.le_of_ble_eq_true rfl) dX0_countPartners_87 (c_X2_sortOf l w a61_9 a61_10 S ha61_9) ?_
        refine j_callVzT (y := I_X0_countPartners) (As := [.int (f_X2_sortOf a61_9 a61_10 S)]) cv_0_144 ⟨Nat.le_of_ble_eq_true rfl, Nat.le_of_ble_eq_true rfl⟩ ha61_6 rfl (Nat.le_of_ble_eq_true rfl) dX0_countPartners_90 (c_X5_accepts l w a61_6 (f_X2_sortOf a61_9 a61_10 S) S ha61_6) ?_
        refine j_if_eqB (y := I_X0_countPartners) 113 dX0_countPartners_93 (by decide) (fun h93 => ?_) (fun h93 => ?_)
        · refine j_iinc (y := I_X0_countPartners) 8 (ls' := [(10, .int (a61_10 + (1 : Int32))), (0, .ref (w.2.1 + 1)), (1, .ref (w.2.1 + 96)), (2, .int a61_2), (4, .int a61_4), (6, .ref (w.2.1 + a61_6)), (7, .int a61_7), (8, .int a61_8), (9, .ref (w.2.1 + a61_9))]) dX0_countPartners_113 rfl (ii _ _ (by decide) _) (by decide) rfl ?_
          refine j_goto (y := I_X0_countPartners) 61 dX0_countPartners_116 (by decide) ?_
          refine j_sub [1, 2, 3, 4, 5, 6, 7, 8, 0] rfl ?_
          exact ih a61_2 a61_4 a61_6 a61_7 a61_8 a61_9 (a61_10 + (1 : Int32)) ha61_6 ha61_9 hK
        · refine j_aload_n (y := I_X0_countPartners) 0 dX0_countPartners_96 rfl rfl ?_
          refine j_aload_n (y := I_X0_countPartners) 1 dX0_countPartners_97 rfl rfl ?_
          refine j_aload (y := I_X0_countPartners) 7 dX0_countPartners_98 rfl ?_
          refine j_iload (y := I_X0_countPartners) 8 dX0_countPartners_100 rfl ?_
          refine j_iload (y := I_X0_countPartners) 3 dX0_countPartners_102 rfl ?_
          refine j_callVzR (y := I_X0_countPartners) (As := [.ref (w.2.1 + 96), .ref (w.2.1 + a61_9), .int a61_10, .int a61_4]) cv_0_134 ⟨Nat.le_of_ble_eq_true rfl, Nat.le_of_ble_eq_true rfl⟩ k_1 rfl (Nat.le_of_ble_eq_true rfl) dX0_countPartners_104 (c_X0_isOpen l w a61_9 a61_10 a61_4 S ha61_9) (fun v104 h104 => ?_)
          refine j_if_eqB (y := I_X0_countPartners) 113 dX0_countPartners_107 (by decide) (fun h107 => ?_) (fun h107 => ?_)
          · refine j_iinc (y := I_X0_countPartners) 8 (ls' := [(10, .int (a61_10 + (1 : Int32))), (0, .ref (w.2.1 + 1)), (1, .ref (w.2.1 + 96)), (2, .int a61_2), (4, .int a61_4), (6, .ref (w.2.1 + a61_6)), (7, .int a61_7), (8, .int a61_8), (9, .ref (w.2.1 + a61_9))]) dX0_countPartners_113 rfl (ii _ _ (by decide) _) (by decide) rfl ?_
            refine j_goto (y := I_X0_countPartners) 61 dX0_countPartners_116 (by decide) ?_
            refine j_sub [1, 2, 3, 4, 5, 6, 7, 8, 0] rfl ?_
            exact ih a61_2 a61_4 a61_6 a61_7 a61_8 a61_9 (a61_10 + (1 : Int32)) ha61_6 ha61_9 hK
          · refine j_iinc (y := I_X0_countPartners) 5 (ls' := [(7, .int (a61_7 + (1 : Int32))), (0, .ref (w.2.1 + 1)), (1, .ref (w.2.1 + 96)), (2, .int a61_2), (4, .int a61_4), (6, .ref (w.2.1 + a61_6)), (8, .int a61_8), (9, .ref (w.2.1 + a61_9)), (10, .int a61_10)]) dX0_countPartners_110 rfl (ii _ _ (by decide) _) (by decide) rfl ?_
            refine j_iinc (y := I_X0_countPartners) 8 (ls' := [(10, .int (a61_10 + (1 : Int32))), (7, .int (a61_7 + (1 : Int32))), (0, .ref (w.2.1 + 1)), (1, .ref (w.2.1 + 96)), (2, .int a61_2), (4, .int a61_4), (6, .ref (w.2.1 + a61_6)), (8, .int a61_8), (9, .ref (w.2.1 + a61_9))]) dX0_countPartners_113 rfl (ii _ _ (by decide) _) (by decide) rfl ?_
            refine j_goto (y := I_X0_countPartners) 61 dX0_countPartners_116 (by decide) ?_
            refine j_sub [2, 3, 4, 5, 6, 1, 7, 8, 0] rfl ?_
            exact ih a61_2 a61_4 a61_6 (a61_7 + (1 : Int32)) a61_8 a61_9 (a61_10 + (1 : Int32)) ha61_6 ha61_9 hK
set_option maxRecDepth 100000 in
theorem jl_X0_countPartners_42 (l : Launch) (w : Wd) (S : St) (K : Int32 → Option (Int32)) (n : Nat) : ∀ (a42_2 : Int32) (a42_4 : Int32) (a42_6 : Nat) (a42_7 : Int32) (a42_8 : Int32) (ha42_6 : kd a42_6 = KdSort), (∀ (e125_7 : Int32) , J l w I_X0_countPartners 125 [(7, .int e125_7)] [] S (fun b => (some (.int b), S)) (K e125_7)) → J l w I_X0_countPartners 42 [(0, .ref (w.2.1 + 1)), (1, .ref (w.2.1 + 96)), (2, .int a42_2), (4, .int a42_4), (6, .ref (w.2.1 + a42_6)), (7, .int a42_7), (8, .int a42_8)] [] S (fun b => (some (.int b), S)) (f_X0_countPartners_L42 n K a42_2 a42_4 a42_6 a42_7 a42_8 S) := by
  induction n with
  | zero =>
    intro a42_2 a42_4 a42_6 a42_7 a42_8 ha42_6 hK b h
    simp only [f_X0_countPartners_L42] at h
    cases h
  | succ n ih =>
    intro a42_2 a42_4 a42_6 a42_7 a42_8 ha42_6 hK
    rw [f_X0_countPartners_L42]
    refine j_iload (y := I_X0_countPartners) 6 dX0_countPartners_42 rfl ?_
    refine j_bipush (y := I_X0_countPartners) (v := 12) dX0_countPartners_44 (by decide) ?_
    refine j_icmp_ge (y := I_X0_countPartners) 125 dX0_countPartners_46 (by decide) (fun h46 => ?_) (fun h46 => ?_)
    · refine j_sub [5] rfl ?_
      exact hK a42_7
    · refine j_aload_n (y := I_X0_countPartners) 0 dX0_countPartners_49 rfl rfl ?_
      refine j_getR (y := I_X0_countPartners) (j := 3) fl_0_23 k_1 rfl rfl dX0_countPartners_50 ?_
      refine j_iload (y := I_X0_countPartners) 6 dX0_countPartners_53 rfl ?_
      refine j_aald (y := I_X0_countPartners) (j := (20 + 2 * ix a42_8)) (tt := 1) k_3 rfl (rho_3 _) dX0_countPartners_55 (fun h55 => ?_)
      refine j_astore (y := I_X0_countPartners) (ls' := [(9, .ref (w.2.1 + (20 + 2 * ix a42_8))), (0, .ref (w.2.1 + 1)), (1, .ref (w.2.1 + 96)), (2, .int a42_2), (4, .int a42_4), (6, .ref (w.2.1 + a42_6)), (7, .int a42_7), (8, .int a42_8)]) dX0_countPartners_56 (by decide) rfl ?_
      refine j_iconst (y := I_X0_countPartners) (v := 0) dX0_countPartners_58 (by decide) ?_
      refine j_istore (y := I_X0_countPartners) (ls' := [(10, .int (0 : Int32)), (9, .ref (w.2.1 + (20 + 2 * ix a42_8))), (0, .ref (w.2.1 + 1)), (1, .ref (w.2.1 + 96)), (2, .int a42_2), (4, .int a42_4), (6, .ref (w.2.1 + a42_6)), (7, .int a42_7), (8, .int a42_8)]) dX0_countPartners_59 (by decide) rfl ?_
      refine j_sub [2, 3, 4, 5, 6, 7, 8, 1, 0] rfl ?_
      refine jl_X0_countPartners_61 l w S _ 6000 a42_2 a42_4 a42_6 a42_7 a42_8 (20 + 2 * ix a42_8) (0 : Int32)  ha42_6 (kd_Pl _ (inb_lt h55)) (fun e119_2 e119_4 e119_6 e119_7 e119_8 he119_6 => ?_)
      refine j_iinc (y := I_X0_countPartners) 6 (ls' := [(8, .int (e119_8 + (1 : Int32))), (0, .ref (w.2.1 + 1)), (1, .ref (w.2.1 + 96)), (2, .int e119_2), (4, .int e119_4), (6, .ref (w.2.1 + e119_6)), (7, .int e119_7)]) dX0_countPartners_119 rfl (ii _ _ (by decide) _) (by decide) rfl ?_
      refine j_goto (y := I_X0_countPartners) 42 dX0_countPartners_122 (by decide) ?_
      refine j_sub [1, 2, 3, 4, 5, 6, 0] rfl ?_
      exact ih e119_2 e119_4 e119_6 e119_7 (e119_8 + (1 : Int32)) he119_6 hK
set_option maxRecDepth 100000 in
set_option maxHeartbeats 4000000 in
theorem m_X0_countPartners (l : Launch) (w : Wd) (x2 : Int32) (x3 : Int32) (x4 : Int32) (S : St)  : J l w I_X0_countPartners 0 [(0, .ref (w.2.1 + 1)), (1, .ref (w.2.1 + 96)), (2, .int x2), (3, .int x3), (4, .int x4)] [] S (fun b => (some (.int b), S)) (f_X0_countPartners x2 x3 x4 S) := by
  unfold f_X0_countPartners
  refine j_aload_n (y := I_X0_countPartners) 0 dX0_countPartners_0 rfl rfl ?_
  refine j_getR (y := I_X0_countPartners) (j := 3) fl_0_23 k_1 rfl rfl dX0_countPartners_1 ?_
  refine j_iload_n (y := I_X0_countPartners) 2 dX0_countPartners_4 rfl rfl ?_
  refine j_aald (y := I_X0_countPartners) (j := (20 + 2 * ix x2)) (tt := 1) k_3 rfl (rho_3 _) dX0_countPartners_5 (fun h5 => ?_)
  refine j_astore (y := I_X0_countPartners) (ls' := [(5, .ref (w.2.1 + (20 + 2 * ix x2))), (0, .ref (w.2.1 + 1)), (1, .ref (w.2.1 + 96)), (2, .int x2), (3, .int x3), (4, .int x4)]) dX0_countPartners_6 (by decide) rfl ?_
  refine j_aload_n (y := I_X0_countPartners) 1 dX0_countPartners_8 rfl rfl ?_
  refine j_aload_n (y := I_X0_countPartners) 2 dX0_countPartners_9 rfl rfl ?_
  refine j_aload (y := I_X0_countPartners) 0 dX0_countPartners_10 rfl ?_
  refine j_iload_n (y := I_X0_countPartners) 4 dX0_countPartners_12 rfl rfl ?_
  refine j_iload (y := I_X0_countPartners) 5 dX0_countPartners_13 rfl ?_
  refine j_callVzR (y := I_X0_countPartners) (As := [.ref (w.2.1 + 96), .ref (w.2.1 + (20 + 2 * ix x2)), .int x3, .int x4]) cv_0_134 ⟨Nat.le_of_ble_eq_true rfl, Nat.le_of_ble_eq_true rfl⟩ k_1 rfl (Nat.le_of_ble_eq_true rfl) dX0_countPartners_15 (c_X0_isOpen l w (20 + 2 * ix x2) x3 x4 S (kd_Pl _ (inb_lt h5))) (fun v15 h15 => ?_)
  refine j_if_neB (y := I_X0_countPartners) 23 dX0_countPartners_18 (by decide) (fun h18 => ?_) (fun h18 => ?_)
  · refine j_aload_n (y := I_X0_countPartners) 1 dX0_countPartners_23 rfl rfl ?_
    refine j_getR (y := I_X0_countPartners) (j := 2) fl_0_11 k_1 rfl rfl dX0_countPartners_24 ?_
    refine j_aload (y := I_X0_countPartners) 0 dX0_countPartners_27 rfl ?_
    refine j_iload_n (y := I_X0_countPartners) 4 dX0_countPartners_29 rfl rfl ?_
    refine j_callViT (y := I_X0_countPartners) (As := [.int x3]) cv_0_125 ⟨Nat.le_of_ble_eq_true rfl, Nat.le_of_ble_eq_true rfl⟩ (kd_Pl _ (inb_lt h5)) rfl (Nat.le_of_ble_eq_true rfl) dX0_countPartners_30 (c_X2_sortOf l w (20 + 2 * ix x2) x3 S (kd_Pl _ (inb_lt h5))) ?_
    refine j_aald (y := I_X0_countPartners) (j := (8 + 2 * ix (f_X2_sortOf (20 + 2 * ix x2) x3 S))) (tt := 0) k_2 rfl (rho_2 _) dX0_countPartners_33 (fun h33 => ?_)
    refine j_astore (y := I_X0_countPartners) (ls' := [(6, .ref (w.2.1 + (8 + 2 * ix (f_X2_sortOf (20 + 2 * ix x2) x3 S)))), (5, .ref (w.2.1 + (20 + 2 * ix x2))), (0, .ref (w.2.1 + 1)), (1, .ref (w.2.1 + 96)), (2, .int x2), (3, .int x3), (4, .int x4)]) dX0_countPartners_34 (by decide) rfl ?_
    refine j_iconst (y := I_X0_countPartners) (v := 0) dX0_countPartners_36 (by decide) ?_
    refine j_istore (y := I_X0_countPartners) (ls' := [(7, .int (0 : Int32)), (6, .ref (w.2.1 + (8 + 2 * ix (f_X2_sortOf (20 + 2 * ix x2) x3 S)))), (5, .ref (w.2.1 + (20 + 2 * ix x2))), (0, .ref (w.2.1 + 1)), (1, .ref (w.2.1 + 96)), (2, .int x2), (3, .int x3), (4, .int x4)]) dX0_countPartners_37 (by decide) rfl ?_
    refine j_iconst (y := I_X0_countPartners) (v := 0) dX0_countPartners_39 (by decide) ?_
    refine j_istore (y := I_X0_countPartners) (ls' := [(8, .int (0 : Int32)), (7, .int (0 : Int32)), (6, .ref (w.2.1 + (8 + 2 * ix (f_X2_sortOf (20 + 2 * ix x2) x3 S)))), (5, .ref (w.2.1 + (20 + 2 * ix x2))), (0, .ref (w.2.1 + 1)), (1, .ref (w.2.1 + 96)), (2, .int x2), (3, .int x3), (4, .int x4)]) dX0_countPartners_40 (by decide) rfl ?_
    refine j_sub [4, 5, 6, 8, 2, 1, 0] rfl ?_
    refine jl_X0_countPartners_42 l w S _ 6000 x2 x4 (8 + 2 * ix (f_X2_sortOf (20 + 2 * ix x2) x3 S)) (0 : Int32) (0 : Int32)  (kd_So _ (inb_lt h33)) (fun e125_7 => ?_)
    refine j_iload (y := I_X0_countPartners) 0 dX0_countPartners_125 rfl ?_
    exact j_iret (y := I_X0_countPartners) rfl dX0_countPartners_127 rfl
  · refine j_iconst (y := I_X0_countPartners) (v := 0) dX0_countPartners_21 (by decide) ?_
    exact j_iret (y := I_X0_countPartners) rfl dX0_countPartners_22 rfl
theorem c_X0_countPartners (l : Launch) (w : Wd) (x2 : Int32) (x3 : Int32) (x4 : Int32) (S : St)  : ∀ v, f_X0_countPartners x2 x3 x4 S = some v → CtS l w I_X0_countPartners [.ref (w.2.1 + 1), .ref (w.2.1 + 96), .int x2, .int x3, .int x4] S S (some (.int v)) := fun v h => J.ct (av := [.ref (w.2.1 + 1), .ref (w.2.1 + 96), .int x2, .int x3, .int x4]) (Nat.le_of_ble_eq_true rfl) pn_0 (m_X0_countPartners l w x2 x3 x4 S ) h
abbrev I_X0_spoilStore : MI := (yX0_spoilStore, cX0_spoilStore, 2, none, { frames := 2, cells := 0, slots := 0, locals := 45 })
theorem dX0_spoilStore_0 : decode cX0_spoilStore 0 = .ok (.iconst 0, 1) := by decide +kernel
theorem dX0_spoilStore_1 : decode cX0_spoilStore 1 = .ok (.istore_n 1, 1) := by decide +kernel
theorem dX0_spoilStore_2 : decode cX0_spoilStore 2 = .ok (.iload_n 1, 1) := by decide +kernel
theorem dX0_spoilStore_3 : decode cX0_spoilStore 3 = .ok (.aload_n 0, 1) := by decide +kernel
theorem dX0_spoilStore_4 : decode cX0_spoilStore 4 = .ok (.getfield 17, 3) := by decide +kernel
theorem dX0_spoilStore_7 : decode cX0_spoilStore 7 = .ok (.if_icmp .ge 33, 3) := by decide +kernel
theorem dX0_spoilStore_10 : decode cX0_spoilStore 10 = .ok (.aload_n 0, 1) := by decide +kernel
theorem dX0_spoilStore_11 : decode cX0_spoilStore 11 = .ok (.getfield 55, 3) := by decide +kernel
theorem dX0_spoilStore_14 : decode cX0_spoilStore 14 = .ok (.bipush 7, 2) := by decide +kernel
theorem dX0_spoilStore_16 : decode cX0_spoilStore 16 = .ok (.dup2, 1) := by decide +kernel
theorem dX0_spoilStore_17 : decode cX0_spoilStore 17 = .ok (.laload, 1) := by decide +kernel
theorem dX0_spoilStore_18 : decode cX0_spoilStore 18 = .ok (.aload_n 0, 1) := by decide +kernel
theorem dX0_spoilStore_19 : decode cX0_spoilStore 19 = .ok (.getfield 11, 3) := by decide +kernel
theorem dX0_spoilStore_22 : decode cX0_spoilStore 22 = .ok (.iload_n 1, 1) := by decide +kernel
theorem dX0_spoilStore_23 : decode cX0_spoilStore 23 = .ok (.aaload, 1) := by decide +kernel
theorem dX0_spoilStore_24 : decode cX0_spoilStore 24 = .ok (.aload_n 0, 1) := by decide +kernel
theorem dX0_spoilStore_25 : decode cX0_spoilStore 25 = .ok (.getfield 52, 3) := by decide +kernel
theorem dX0_spoilStore_28 : decode cX0_spoilStore 28 = .ok (.invokevirtual 171, 3) := by decide +kernel
theorem dX0_spoilStore_31 : decode cX0_spoilStore 31 = .ok (.i2l, 1) := by decide +kernel
theorem dX0_spoilStore_32 : decode cX0_spoilStore 32 = .ok (.ladd, 1) := by decide +kernel
theorem dX0_spoilStore_33 : decode cX0_spoilStore 33 = .ok (.lastore, 1) := by decide +kernel
theorem dX0_spoilStore_34 : decode cX0_spoilStore 34 = .ok (.iinc 1 1, 3) := by decide +kernel
theorem dX0_spoilStore_37 : decode cX0_spoilStore 37 = .ok (.goto (-35), 3) := by decide +kernel
theorem dX0_spoilStore_40 : decode cX0_spoilStore 40 = .ok (.return_, 1) := by decide +kernel
theorem cv_0_171 : CV RX0 171 1 5 I_X5_spoil := ⟨⟨⟨gm 595 (by decide +kernel) rfl, gm 598 (by decide +kernel) rfl, gm 39 (by decide +kernel) rfl, mh_5.1, mh_5.2, by decide +kernel⟩, gm 596 (by decide +kernel) rfl, gm 597 (by decide +kernel) rfl⟩, ⟨_, _, rfl⟩, rfl, rfl⟩
def f_X0_spoilStore_L2 (fuel : Nat) (K : St → Option (St)) (a2_1 : Int32) (S2 : St) : Option (St) := match fuel with
  | 0 => none
  | n + 1 => if a2_1 < (rd S2 1 1) then (if inb a2_1 6 = true then ((f_X5_spoil (8 + 2 * ix a2_1) (rd S2 1 11) S2).bind fun v28 => (f_X0_spoilStore_L2 n K (a2_1 + (1 : Int32)) (wrL v28.2 7 (ix (7 : Int32)) ((rdL S2 7 (ix (7 : Int32))) + v28.1.toInt64)))) else none) else (K S2)
def f_X0_spoilStore  (S : St) : Option (St) := f_X0_spoilStore_L2 6000 (fun T40 => (some T40)) (0 : Int32) S
set_option maxRecDepth 100000 in
theorem jl_X0_spoilStore_2 (l : Launch) (w : Wd) (K : St → Option (St)) (n : Nat) : ∀ (a2_1 : Int32) (S2 : St), (∀  (S' : St) , J l w I_X0_spoilStore 40 [] [] S' (fun b => (none, b)) (K  S')) → J l w I_X0_spoilStore 2 [(0, .ref (w.2.1 + 1)), (1, .int a2_1)] [] S2 (fun b => (none, b)) (f_X0_spoilStore_L2 n K a2_1 S2) := by
  induction n with
  | zero =>
    intro a2_1 S2 hK b h
    simp only [f_X0_spoilStore_L2] at h
    cases h
  | succ n ih =>
    intro a2_1 S2 hK
    rw [f_X0_spoilStore_L2]
    refine j_iload_n (y := I_X0_spoilStore) 1 dX0_spoilStore_2 rfl rfl ?_
    refine j_aload_n (y := I_X0_spoilStore) 0 dX0_spoilStore_3 rfl rfl ?_
    refine j_getI (y := I_X0_spoilStore) fl_0_17 k_1 rfl dX0_spoilStore_4 ?_
    refine j_icmp_ge (y := I_X0_spoilStore) 40 dX0_spoilStore_7 (by decide) (fun h7 => ?_) (fun h7 => ?_)
    · refine j_sub [] rfl ?_
      exact hK S2
    · refine j_aload_n (y := I_X0_spoilStore) 0 dX0_spoilStore_10 rfl rfl ?_
      refine j_getR (y := I_X0_spoilStore) (j := 7) fl_0_55 k_1 rfl rfl dX0_spoilStore_11 ?_
      refine j_bipush (y := I_X0_spoilStore) (v := 7) dX0_spoilStore_14 (by decide) ?_
      refine j_dup2 (y := I_X0_spoilStore) dX0_spoilStore_16 rfl rfl ?_
      refine j_laldL (y := I_X0_spoilStore) k_7 (by decide) dX0_spoilStore_17 ?_
      refine j_aload_n (y := I_X0_spoilStore) 0 dX0_spoilStore_18 rfl rfl ?_
      refine j_getR (y := I_X0_spoilStore) (j := 2) fl_0_11 k_1 rfl rfl dX0_spoilStore_19 ?_
      refine j_iload_n (y := I_X0_spoilStore) 1 dX0_spoilStore_22 rfl rfl ?_
      refine j_aald (y := I_X0_spoilStore) (j := (8 + 2 * ix a2_1)) (tt := 0) k_2 rfl (rho_2 _) dX0_spoilStore_23 (fun h23 => ?_)
      refine j_aload_n (y := I_X0_spoilStore) 0 dX0_spoilStore_24 rfl rfl ?_
      refine j_getI (y := I_X0_spoilStore) fl_0_52 k_1 rfl dX0_spoilStore_25 ?_
      refine j_callViS (y := I_X0_spoilStore) (As := [.int (rd S2 1 11)]) cv_0_171 ⟨Nat.le_of_ble_eq_true rfl, Nat.le_of_ble_eq_true rfl⟩ (kd_So _ (inb_lt h23)) rfl (Nat.le_of_ble_eq_true rfl) dX0_spoilStore_28 (c_X5_spoil l w (8 + 2 * ix a2_1) (rd S2 1 11) S2 (kd_So _ (inb_lt h23))) (fun v28 h28 => ?_)
      refine j_i2l (y := I_X0_spoilStore) dX0_spoilStore_31 ?_
      refine j_ladd (y := I_X0_spoilStore) dX0_spoilStore_32 ?_
      refine j_lastL (y := I_X0_spoilStore) k_7 (by decide) dX0_spoilStore_33 ?_
      refine j_iinc (y := I_X0_spoilStore) 1 (ls' := [(1, .int (a2_1 + (1 : Int32))), (0, .ref (w.2.1 + 1))]) dX0_spoilStore_34 rfl (ii _ _ (by decide) _) (by decide) rfl ?_
      refine j_goto (y := I_X0_spoilStore) 2 dX0_spoilStore_37 (by decide) ?_
      refine j_sub [1, 0] rfl ?_
      exact ih (a2_1 + (1 : Int32)) (wrL v28.2 7 (ix (7 : Int32)) ((rdL S2 7 (ix (7 : Int32))) + v28.1.toInt64)) hK
set_option maxRecDepth 100000 in
set_option maxHeartbeats 4000000 in
theorem m_X0_spoilStore (l : Launch) (w : Wd)  (S : St)  : J l w I_X0_spoilStore 0 [(0, .ref (w.2.1 + 1))] [] S (fun b => (none, b)) (f_X0_spoilStore S) := by
  unfold f_X0_spoilStore
  refine j_iconst (y := I_X0_spoilStore) (v := 0) dX0_spoilStore_0 (by decide) ?_
  refine j_istore_n (y := I_X0_spoilStore) (ls' := [(1, .int (0 : Int32)), (0, .ref (w.2.1 + 1))]) dX0_spoilStore_1 rfl (by decide) rfl ?_
  refine j_sub [1, 0] rfl ?_
  refine jl_X0_spoilStore_2 l w _ 6000 (0 : Int32) S  (fun T40 => ?_)
  exact j_vret (y := I_X0_spoilStore) rfl dX0_spoilStore_40 rfl
theorem c_X0_spoilStore (l : Launch) (w : Wd)  (S : St)  : ∀ v, f_X0_spoilStore S = some v → CtS l w I_X0_spoilStore [.ref (w.2.1 + 1)] S v none := fun v h => J.ct (av := [.ref (w.2.1 + 1)]) (Nat.le_of_ble_eq_true rfl) pn_0 (m_X0_spoilStore l w  S ) h
abbrev I_X0_flowersLeft : MI := (yX0_flowersLeft, cX0_flowersLeft, 6, some .int, { frames := 2, cells := 0, slots := 0, locals := 43 })
theorem dX0_flowersLeft_0 : decode cX0_flowersLeft 0 = .ok (.aload_n 0, 1) := by decide +kernel
theorem dX0_flowersLeft_1 : decode cX0_flowersLeft 1 = .ok (.getfield 11, 3) := by decide +kernel
theorem dX0_flowersLeft_4 : decode cX0_flowersLeft 4 = .ok (.aload_n 1, 1) := by decide +kernel
theorem dX0_flowersLeft_5 : decode cX0_flowersLeft 5 = .ok (.iload_n 2, 1) := by decide +kernel
theorem dX0_flowersLeft_6 : decode cX0_flowersLeft 6 = .ok (.invokevirtual 125, 3) := by decide +kernel
theorem dX0_flowersLeft_9 : decode cX0_flowersLeft 9 = .ok (.aaload, 1) := by decide +kernel
theorem dX0_flowersLeft_10 : decode cX0_flowersLeft 10 = .ok (.getfield 191, 3) := by decide +kernel
theorem dX0_flowersLeft_13 : decode cX0_flowersLeft 13 = .ok (.istore 4, 2) := by decide +kernel
theorem dX0_flowersLeft_15 : decode cX0_flowersLeft 15 = .ok (.iload 4, 2) := by decide +kernel
theorem dX0_flowersLeft_17 : decode cX0_flowersLeft 17 = .ok (.ifCond .gt 5, 3) := by decide +kernel
theorem dX0_flowersLeft_20 : decode cX0_flowersLeft 20 = .ok (.iconst 0, 1) := by decide +kernel
theorem dX0_flowersLeft_21 : decode cX0_flowersLeft 21 = .ok (.ireturn, 1) := by decide +kernel
theorem dX0_flowersLeft_22 : decode cX0_flowersLeft 22 = .ok (.aload_n 1, 1) := by decide +kernel
theorem dX0_flowersLeft_23 : decode cX0_flowersLeft 23 = .ok (.iload_n 2, 1) := by decide +kernel
theorem dX0_flowersLeft_24 : decode cX0_flowersLeft 24 = .ok (.aload_n 0, 1) := by decide +kernel
theorem dX0_flowersLeft_25 : decode cX0_flowersLeft 25 = .ok (.aload_n 1, 1) := by decide +kernel
theorem dX0_flowersLeft_26 : decode cX0_flowersLeft 26 = .ok (.invokevirtual 96, 3) := by decide +kernel
theorem dX0_flowersLeft_29 : decode cX0_flowersLeft 29 = .ok (.invokevirtual 194, 3) := by decide +kernel
theorem dX0_flowersLeft_32 : decode cX0_flowersLeft 32 = .ok (.iload 4, 2) := by decide +kernel
theorem dX0_flowersLeft_34 : decode cX0_flowersLeft 34 = .ok (.idiv, 1) := by decide +kernel
theorem dX0_flowersLeft_35 : decode cX0_flowersLeft 35 = .ok (.istore 5, 2) := by decide +kernel
theorem dX0_flowersLeft_37 : decode cX0_flowersLeft 37 = .ok (.aload_n 1, 1) := by decide +kernel
theorem dX0_flowersLeft_38 : decode cX0_flowersLeft 38 = .ok (.aload_n 0, 1) := by decide +kernel
theorem dX0_flowersLeft_39 : decode cX0_flowersLeft 39 = .ok (.getfield 30, 3) := by decide +kernel
theorem dX0_flowersLeft_42 : decode cX0_flowersLeft 42 = .ok (.invokevirtual 92, 3) := by decide +kernel
theorem dX0_flowersLeft_45 : decode cX0_flowersLeft 45 = .ok (.aload_n 0, 1) := by decide +kernel
theorem dX0_flowersLeft_46 : decode cX0_flowersLeft 46 = .ok (.getfield 40, 3) := by decide +kernel
theorem dX0_flowersLeft_49 : decode cX0_flowersLeft 49 = .ok (.iload_n 3, 1) := by decide +kernel
theorem dX0_flowersLeft_50 : decode cX0_flowersLeft 50 = .ok (.iaload, 1) := by decide +kernel
theorem dX0_flowersLeft_51 : decode cX0_flowersLeft 51 = .ok (.if_icmp .le 6, 3) := by decide +kernel
theorem dX0_flowersLeft_54 : decode cX0_flowersLeft 54 = .ok (.iload 5, 2) := by decide +kernel
theorem dX0_flowersLeft_56 : decode cX0_flowersLeft 56 = .ok (.ireturn, 1) := by decide +kernel
theorem dX0_flowersLeft_57 : decode cX0_flowersLeft 57 = .ok (.iload 5, 2) := by decide +kernel
theorem dX0_flowersLeft_59 : decode cX0_flowersLeft 59 = .ok (.iload 5, 2) := by decide +kernel
theorem dX0_flowersLeft_61 : decode cX0_flowersLeft 61 = .ok (.aload_n 0, 1) := by decide +kernel
theorem dX0_flowersLeft_62 : decode cX0_flowersLeft 62 = .ok (.getfield 43, 3) := by decide +kernel
theorem dX0_flowersLeft_65 : decode cX0_flowersLeft 65 = .ok (.iload_n 3, 1) := by decide +kernel
theorem dX0_flowersLeft_66 : decode cX0_flowersLeft 66 = .ok (.iaload, 1) := by decide +kernel
theorem dX0_flowersLeft_67 : decode cX0_flowersLeft 67 = .ok (.imul, 1) := by decide +kernel
theorem dX0_flowersLeft_68 : decode cX0_flowersLeft 68 = .ok (.bipush 100, 2) := by decide +kernel
theorem dX0_flowersLeft_70 : decode cX0_flowersLeft 70 = .ok (.invokestatic 197, 3) := by decide +kernel
theorem dX0_flowersLeft_73 : decode cX0_flowersLeft 73 = .ok (.isub, 1) := by decide +kernel
theorem dX0_flowersLeft_74 : decode cX0_flowersLeft 74 = .ok (.ireturn, 1) := by decide +kernel
theorem cv_0_194 : CV RX0 194 2 2 I_X2_shareOfBuds := ⟨⟨⟨gm 611 (by decide +kernel) rfl, gm 614 (by decide +kernel) rfl, gm 40 (by decide +kernel) rfl, mh_2.1, mh_2.2, by decide +kernel⟩, gm 612 (by decide +kernel) rfl, gm 613 (by decide +kernel) rfl⟩, ⟨_, _, rfl⟩, rfl, rfl⟩
theorem cv_0_197 : CN RX0 197 2 I_X6_upQuotient "OrchardBook" := ⟨⟨by decide +kernel, gm 617 (by decide +kernel) rfl, gm 37 (by decide +kernel) rfl, mh_6.1, mh_6.2, by decide +kernel⟩, gm 616 (by decide +kernel) rfl, rfl, rfl⟩
theorem cv_0_92 : CV RX0 92 1 2 I_X2_heightIn := ⟨⟨⟨gm 410 (by decide +kernel) rfl, gm 413 (by decide +kernel) rfl, gm 40 (by decide +kernel) rfl, mh_2.1, mh_2.2, by decide +kernel⟩, gm 411 (by decide +kernel) rfl, gm 412 (by decide +kernel) rfl⟩, ⟨_, _, rfl⟩, rfl, rfl⟩
def f_X0_flowersLeft (u1 : Nat) (x2 : Int32) (x3 : Int32) (S : St) : Option (Int32) := if inb (f_X2_sortOf u1 x2 S) 6 = true then (if 0 < (rd S (8 + 2 * ix (f_X2_sortOf u1 x2 S)) 1) then ((f_X0_budsOf u1 S).bind fun v26 => (if (rd S (8 + 2 * ix (f_X2_sortOf u1 x2 S)) 1) = 0 then none else (if inb x3 50 = true then (if (rd S 5 (ix x3)) < (f_X2_heightIn u1 (rd S 1 4) S) then (some ((f_X2_shareOfBuds u1 x2 v26 S) / (rd S (8 + 2 * ix (f_X2_sortOf u1 x2 S)) 1))) else (if inb x3 50 = true then ((f_X6_upQuotient (((f_X2_shareOfBuds u1 x2 v26 S) / (rd S (8 + 2 * ix (f_X2_sortOf u1 x2 S)) 1)) * (rd S 6 (ix x3))) (100 : Int32)).bind fun v70 => (some (((f_X2_shareOfBuds u1 x2 v26 S) / (rd S (8 + 2 * ix (f_X2_sortOf u1 x2 S)) 1)) - v70))) else none)) else none))) else (some (0 : Int32))) else none
set_option maxRecDepth 100000 in
set_option maxHeartbeats 4000000 in
theorem m_X0_flowersLeft (l : Launch) (w : Wd) (u1 : Nat) (x2 : Int32) (x3 : Int32) (S : St) (hu1 : kd u1 = KdPlace) : J l w I_X0_flowersLeft 0 [(0, .ref (w.2.1 + 1)), (1, .ref (w.2.1 + u1)), (2, .int x2), (3, .int x3)] [] S (fun b => (some (.int b), S)) (f_X0_flowersLeft u1 x2 x3 S) := by
  unfold f_X0_flowersLeft
  refine j_aload_n (y := I_X0_flowersLeft) 0 dX0_flowersLeft_0 rfl rfl ?_
  refine j_getR (y := I_X0_flowersLeft) (j := 2) fl_0_11 k_1 rfl rfl dX0_flowersLeft_1 ?_
  refine j_aload_n (y := I_X0_flowersLeft) 1 dX0_flowersLeft_4 rfl rfl ?_
  refine j_iload_n (y := I_X0_flowersLeft) 2 dX0_flowersLeft_5 rfl rfl ?_
  refine j_callViT (y := I_X0_flowersLeft) (As := [.int x2]) cv_0_125 ⟨Nat.le_of_ble_eq_true rfl, Nat.le_of_ble_eq_true rfl⟩ hu1 rfl (Nat.le_of_ble_eq_true rfl) dX0_flowersLeft_6 (c_X2_sortOf l w u1 x2 S hu1) ?_
  refine j_aald (y := I_X0_flowersLeft) (j := (8 + 2 * ix (f_X2_sortOf u1 x2 S))) (tt := 0) k_2 rfl (rho_2 _) dX0_flowersLeft_9 (fun h9 => ?_)
  refine j_getI (y := I_X0_flowersLeft) fl_0_191 (kd_So _ (inb_lt h9)) rfl dX0_flowersLeft_10 ?_
  refine j_istore (y := I_X0_flowersLeft) (ls' := [(4, .int (rd S (8 + 2 * ix (f_X2_sortOf u1 x2 S)) 1)), (0, .ref (w.2.1 + 1)), (1, .ref (w.2.1 + u1)), (2, .int x2), (3, .int x3)]) dX0_flowersLeft_13 (by decide) rfl ?_
  refine j_iload (y := I_X0_flowersLeft) 0 dX0_flowersLeft_15 rfl ?_
  refine j_if_gt (y := I_X0_flowersLeft) 22 dX0_flowersLeft_17 (by decide) (fun h17 => ?_) (fun h17 => ?_)
  · refine j_aload_n (y := I_X0_flowersLeft) 2 dX0_flowersLeft_22 rfl rfl ?_
    refine j_iload_n (y := I_X0_flowersLeft) 3 dX0_flowersLeft_23 rfl rfl ?_
    refine j_aload_n (y := I_X0_flowersLeft) 1 dX0_flowersLeft_24 rfl rfl ?_
    refine j_aload_n (y := I_X0_flowersLeft) 2 dX0_flowersLeft_25 rfl rfl ?_
    refine j_callViR (y := I_X0_flowersLeft) (As := [.ref (w.2.1 + u1)]) cv_0_96 ⟨Nat.le_of_ble_eq_true rfl, Nat.le_of_ble_eq_true rfl⟩ k_1 rfl (Nat.le_of_ble_eq_true rfl) dX0_flowersLeft_26 (c_X0_budsOf l w u1 S hu1) (fun v26 h26 => ?_)
    refine j_callViT (y := I_X0_flowersLeft) (As := [.int x2, .int v26]) cv_0_194 ⟨Nat.le_of_ble_eq_true rfl, Nat.le_of_ble_eq_true rfl⟩ hu1 rfl (Nat.le_of_ble_eq_true rfl) dX0_flowersLeft_29 (c_X2_shareOfBuds l w u1 x2 v26 S hu1) ?_
    refine j_iload (y := I_X0_flowersLeft) 0 dX0_flowersLeft_32 rfl ?_
    refine j_idiv (y := I_X0_flowersLeft) dX0_flowersLeft_34 (fun h34 => ?_)
    refine j_istore (y := I_X0_flowersLeft) (ls' := [(5, .int ((f_X2_shareOfBuds u1 x2 v26 S) / (rd S (8 + 2 * ix (f_X2_sortOf u1 x2 S)) 1))), (4, .int (rd S (8 + 2 * ix (f_X2_sortOf u1 x2 S)) 1)), (0, .ref (w.2.1 + 1)), (1, .ref (w.2.1 + u1)), (2, .int x2), (3, .int x3)]) dX0_flowersLeft_35 (by decide) rfl ?_
    refine j_aload_n (y := I_X0_flowersLeft) 3 dX0_flowersLeft_37 rfl rfl ?_
    refine j_aload_n (y := I_X0_flowersLeft) 2 dX0_flowersLeft_38 rfl rfl ?_
    refine j_getI (y := I_X0_flowersLeft) fl_0_30 k_1 rfl dX0_flowersLeft_39 ?_
    refine j_callViT (y := I_X0_flowersLeft) (As := [.int (rd S 1 4)]) cv_0_92 ⟨Nat.le_of_ble_eq_true rfl, Nat.le_of_ble_eq_true rfl⟩ hu1 rfl (Nat.le_of_ble_eq_true rfl) dX0_flowersLeft_42 (c_X2_heightIn l w u1 (rd S 1 4) S hu1) ?_
    refine j_aload_n (y := I_X0_flowersLeft) 2 dX0_flowersLeft_45 rfl rfl ?_
    refine j_getR (y := I_X0_flowersLeft) (j := 5) fl_0_40 k_1 rfl rfl dX0_flowersLeft_46 ?_
    refine j_iload_n (y := I_X0_flowersLeft) 5 dX0_flowersLeft_49 rfl rfl ?_
    refine j_iald (y := I_X0_flowersLeft) k_5 dX0_flowersLeft_50 (fun h50 => ?_)
    refine j_icmp_le (y := I_X0_flowersLeft) 57 dX0_flowersLeft_51 (by decide) (fun h51 => ?_) (fun h51 => ?_)
    · refine j_iload (y := I_X0_flowersLeft) 0 dX0_flowersLeft_57 rfl ?_
      refine j_iload (y := I_X0_flowersLeft) 0 dX0_flowersLeft_59 rfl ?_
      refine j_aload_n (y := I_X0_flowersLeft) 2 dX0_flowersLeft_61 rfl rfl ?_
      refine j_getR (y := I_X0_flowersLeft) (j := 6) fl_0_43 k_1 rfl rfl dX0_flowersLeft_62 ?_
      refine j_iload_n (y := I_X0_flowersLeft) 5 dX0_flowersLeft_65 rfl rfl ?_
      refine j_iald (y := I_X0_flowersLeft) k_6 dX0_flowersLeft_66 (fun h66 => ?_)
      refine j_imul (y := I_X0_flowersLeft) dX0_flowersLeft_67 ?_
      refine j_bipush (y := I_X0_flowersLeft) (v := 100) dX0_flowersLeft_68 (by decide) ?_
      refine j_callNiR (y := I_X0_flowersLeft) (As := [.int (((f_X2_shareOfBuds u1 x2 v26 S) / (rd S (8 + 2 * ix (f_X2_sortOf u1 x2 S)) 1)) * (rd S 6 (ix x3))), .int (100 : Int32)]) cv_0_197 ⟨Nat.le_of_ble_eq_true rfl, Nat.le_of_ble_eq_true rfl⟩ rfl (Nat.le_of_ble_eq_true rfl) dX0_flowersLeft_70 (c_X6_upQuotient l w (((f_X2_shareOfBuds u1 x2 v26 S) / (rd S (8 + 2 * ix (f_X2_sortOf u1 x2 S)) 1)) * (rd S 6 (ix x3))) (100 : Int32) S) (fun v70 h70 => ?_)
      refine j_isub (y := I_X0_flowersLeft) dX0_flowersLeft_73 ?_
      exact j_iret (y := I_X0_flowersLeft) rfl dX0_flowersLeft_74 rfl
    · refine j_iload (y := I_X0_flowersLeft) 0 dX0_flowersLeft_54 rfl ?_
      exact j_iret (y := I_X0_flowersLeft) rfl dX0_flowersLeft_56 rfl
  · refine j_iconst (y := I_X0_flowersLeft) (v := 0) dX0_flowersLeft_20 (by decide) ?_
    exact j_iret (y := I_X0_flowersLeft) rfl dX0_flowersLeft_21 rfl
theorem c_X0_flowersLeft (l : Launch) (w : Wd) (u1 : Nat) (x2 : Int32) (x3 : Int32) (S : St) (hu1 : kd u1 = KdPlace) : ∀ v, f_X0_flowersLeft u1 x2 x3 S = some v → CtS l w I_X0_flowersLeft [.ref (w.2.1 + 1), .ref (w.2.1 + u1), .int x2, .int x3] S S (some (.int v)) := fun v h => J.ct (av := [.ref (w.2.1 + 1), .ref (w.2.1 + u1), .int x2, .int x3]) (Nat.le_of_ble_eq_true rfl) pn_0 (m_X0_flowersLeft l w u1 x2 x3 S hu1) h
abbrev I_X0_setFruits : MI := (yX0_setFruits, cX0_setFruits, 8, none, { frames := 4, cells := 0, slots := 0, locals := 97 })
theorem dX0_setFruits_0 : decode cX0_setFruits 0 = .ok (.iconst 0, 1) := by decide +kernel
theorem dX0_setFruits_1 : decode cX0_setFruits 1 = .ok (.istore_n 3, 1) := by decide +kernel
theorem dX0_setFruits_2 : decode cX0_setFruits 2 = .ok (.iload_n 3, 1) := by decide +kernel
theorem dX0_setFruits_3 : decode cX0_setFruits 3 = .ok (.bipush 12, 2) := by decide +kernel
theorem dX0_setFruits_5 : decode cX0_setFruits 5 = .ok (.if_icmp .ge 113, 3) := by decide +kernel
theorem dX0_setFruits_8 : decode cX0_setFruits 8 = .ok (.aload_n 0, 1) := by decide +kernel
theorem dX0_setFruits_9 : decode cX0_setFruits 9 = .ok (.getfield 23, 3) := by decide +kernel
theorem dX0_setFruits_12 : decode cX0_setFruits 12 = .ok (.iload_n 3, 1) := by decide +kernel
theorem dX0_setFruits_13 : decode cX0_setFruits 13 = .ok (.aaload, 1) := by decide +kernel
theorem dX0_setFruits_14 : decode cX0_setFruits 14 = .ok (.astore 4, 2) := by decide +kernel
theorem dX0_setFruits_16 : decode cX0_setFruits 16 = .ok (.iconst 0, 1) := by decide +kernel
theorem dX0_setFruits_17 : decode cX0_setFruits 17 = .ok (.istore 5, 2) := by decide +kernel
theorem dX0_setFruits_19 : decode cX0_setFruits 19 = .ok (.iload 5, 2) := by decide +kernel
theorem dX0_setFruits_21 : decode cX0_setFruits 21 = .ok (.aload 4, 2) := by decide +kernel
theorem dX0_setFruits_23 : decode cX0_setFruits 23 = .ok (.invokevirtual 138, 3) := by decide +kernel
theorem dX0_setFruits_26 : decode cX0_setFruits 26 = .ok (.if_icmp .ge 86, 3) := by decide +kernel
theorem dX0_setFruits_29 : decode cX0_setFruits 29 = .ok (.aload 4, 2) := by decide +kernel
theorem dX0_setFruits_31 : decode cX0_setFruits 31 = .ok (.getfield 109, 3) := by decide +kernel
theorem dX0_setFruits_34 : decode cX0_setFruits 34 = .ok (.iconst 4, 1) := by decide +kernel
theorem dX0_setFruits_35 : decode cX0_setFruits 35 = .ok (.if_icmp .eq 77, 3) := by decide +kernel
theorem dX0_setFruits_38 : decode cX0_setFruits 38 = .ok (.aload_n 0, 1) := by decide +kernel
theorem dX0_setFruits_39 : decode cX0_setFruits 39 = .ok (.aload_n 1, 1) := by decide +kernel
theorem dX0_setFruits_40 : decode cX0_setFruits 40 = .ok (.iload_n 3, 1) := by decide +kernel
theorem dX0_setFruits_41 : decode cX0_setFruits 41 = .ok (.iload 5, 2) := by decide +kernel
theorem dX0_setFruits_43 : decode cX0_setFruits 43 = .ok (.iload_n 2, 1) := by decide +kernel
theorem dX0_setFruits_44 : decode cX0_setFruits 44 = .ok (.invokevirtual 174, 3) := by decide +kernel
theorem dX0_setFruits_47 : decode cX0_setFruits 47 = .ok (.istore 6, 2) := by decide +kernel
theorem dX0_setFruits_49 : decode cX0_setFruits 49 = .ok (.aload_n 0, 1) := by decide +kernel
theorem dX0_setFruits_50 : decode cX0_setFruits 50 = .ok (.aload 4, 2) := by decide +kernel
theorem dX0_setFruits_52 : decode cX0_setFruits 52 = .ok (.iload 5, 2) := by decide +kernel
theorem dX0_setFruits_54 : decode cX0_setFruits 54 = .ok (.iload_n 2, 1) := by decide +kernel
theorem dX0_setFruits_55 : decode cX0_setFruits 55 = .ok (.invokevirtual 178, 3) := by decide +kernel
theorem dX0_setFruits_58 : decode cX0_setFruits 58 = .ok (.iconst 3, 1) := by decide +kernel
theorem dX0_setFruits_59 : decode cX0_setFruits 59 = .ok (.iload 6, 2) := by decide +kernel
theorem dX0_setFruits_61 : decode cX0_setFruits 61 = .ok (.invokestatic 182, 3) := by decide +kernel
theorem dX0_setFruits_64 : decode cX0_setFruits 64 = .ok (.imul, 1) := by decide +kernel
theorem dX0_setFruits_65 : decode cX0_setFruits 65 = .ok (.iconst 3, 1) := by decide +kernel
theorem dX0_setFruits_66 : decode cX0_setFruits 66 = .ok (.idiv, 1) := by decide +kernel
theorem dX0_setFruits_67 : decode cX0_setFruits 67 = .ok (.istore 7, 2) := by decide +kernel
theorem dX0_setFruits_69 : decode cX0_setFruits 69 = .ok (.aload 4, 2) := by decide +kernel
theorem dX0_setFruits_71 : decode cX0_setFruits 71 = .ok (.getfield 185, 3) := by decide +kernel
theorem dX0_setFruits_74 : decode cX0_setFruits 74 = .ok (.iload 5, 2) := by decide +kernel
theorem dX0_setFruits_76 : decode cX0_setFruits 76 = .ok (.dup2, 1) := by decide +kernel
theorem dX0_setFruits_77 : decode cX0_setFruits 77 = .ok (.iaload, 1) := by decide +kernel
theorem dX0_setFruits_78 : decode cX0_setFruits 78 = .ok (.iload 7, 2) := by decide +kernel
theorem dX0_setFruits_80 : decode cX0_setFruits 80 = .ok (.iadd, 1) := by decide +kernel
theorem dX0_setFruits_81 : decode cX0_setFruits 81 = .ok (.iastore, 1) := by decide +kernel
theorem dX0_setFruits_82 : decode cX0_setFruits 82 = .ok (.aload 4, 2) := by decide +kernel
theorem dX0_setFruits_84 : decode cX0_setFruits 84 = .ok (.dup, 1) := by decide +kernel
theorem dX0_setFruits_85 : decode cX0_setFruits 85 = .ok (.getfield 188, 3) := by decide +kernel
theorem dX0_setFruits_88 : decode cX0_setFruits 88 = .ok (.iload 7, 2) := by decide +kernel
theorem dX0_setFruits_90 : decode cX0_setFruits 90 = .ok (.iadd, 1) := by decide +kernel
theorem dX0_setFruits_91 : decode cX0_setFruits 91 = .ok (.putfield 188, 3) := by decide +kernel
theorem dX0_setFruits_94 : decode cX0_setFruits 94 = .ok (.aload_n 0, 1) := by decide +kernel
theorem dX0_setFruits_95 : decode cX0_setFruits 95 = .ok (.getfield 55, 3) := by decide +kernel
theorem dX0_setFruits_98 : decode cX0_setFruits 98 = .ok (.iconst 0, 1) := by decide +kernel
theorem dX0_setFruits_99 : decode cX0_setFruits 99 = .ok (.dup2, 1) := by decide +kernel
theorem dX0_setFruits_100 : decode cX0_setFruits 100 = .ok (.laload, 1) := by decide +kernel
theorem dX0_setFruits_101 : decode cX0_setFruits 101 = .ok (.iload 7, 2) := by decide +kernel
theorem dX0_setFruits_103 : decode cX0_setFruits 103 = .ok (.i2l, 1) := by decide +kernel
theorem dX0_setFruits_104 : decode cX0_setFruits 104 = .ok (.ladd, 1) := by decide +kernel
theorem dX0_setFruits_105 : decode cX0_setFruits 105 = .ok (.lastore, 1) := by decide +kernel
theorem dX0_setFruits_106 : decode cX0_setFruits 106 = .ok (.iinc 5 1, 3) := by decide +kernel
theorem dX0_setFruits_109 : decode cX0_setFruits 109 = .ok (.goto (-90), 3) := by decide +kernel
theorem dX0_setFruits_112 : decode cX0_setFruits 112 = .ok (.iinc 3 1, 3) := by decide +kernel
theorem dX0_setFruits_115 : decode cX0_setFruits 115 = .ok (.goto (-113), 3) := by decide +kernel
theorem dX0_setFruits_118 : decode cX0_setFruits 118 = .ok (.return_, 1) := by decide +kernel
theorem cv_0_174 : CV RX0 174 4 0 I_X0_countPartners := ⟨⟨⟨gm 606 (by decide +kernel) rfl, gm 560 (by decide +kernel) rfl, gm 38 (by decide +kernel) rfl, mh_0.1, mh_0.2, by decide +kernel⟩, gm 558 (by decide +kernel) rfl, gm 559 (by decide +kernel) rfl⟩, ⟨_, _, rfl⟩, rfl, rfl⟩
theorem cv_0_178 : CV RX0 178 3 0 I_X0_flowersLeft := ⟨⟨⟨gm 607 (by decide +kernel) rfl, gm 610 (by decide +kernel) rfl, gm 38 (by decide +kernel) rfl, mh_0.1, mh_0.2, by decide +kernel⟩, gm 608 (by decide +kernel) rfl, gm 609 (by decide +kernel) rfl⟩, ⟨_, _, rfl⟩, rfl, rfl⟩
def f_X0_setFruits_L19 (fuel : Nat) (K : Int32 → Int32 → St → Option (St)) (a19_2 : Int32) (a19_3 : Int32) (a19_4 : Nat) (a19_5 : Int32) (S19 : St) : Option (St) := match fuel with
  | 0 => none
  | n + 1 => if a19_5 < (f_X2_partCount a19_4 S19) then (if (rd S19 a19_4 2) = (4 : Int32) then (K a19_2 a19_3 S19) else ((f_X0_countPartners a19_3 a19_5 a19_2 S19).bind fun v44 => ((f_X0_flowersLeft a19_4 a19_5 a19_2 S19).bind fun v55 => (if inb a19_5 2 = true then (if inb a19_5 2 = true then (f_X0_setFruits_L19 n K a19_2 a19_3 a19_4 (a19_5 + (1 : Int32)) (wrL (wr (wr S19 (a19_4 + 1) (ix a19_5) ((rd S19 (a19_4 + 1) (ix a19_5)) + ((v55 * (mnI (3 : Int32) v44)) / (3 : Int32)))) a19_4 9 ((rd (wr S19 (a19_4 + 1) (ix a19_5) ((rd S19 (a19_4 + 1) (ix a19_5)) + ((v55 * (mnI (3 : Int32) v44)) / (3 : Int32)))) a19_4 9) + ((v55 * (mnI (3 : Int32) v44)) / (3 : Int32)))) 7 (ix (0 : Int32)) ((rdL (wr (wr S19 (a19_4 + 1) (ix a19_5) ((rd S19 (a19_4 + 1) (ix a19_5)) + ((v55 * (mnI (3 : Int32) v44)) / (3 : Int32)))) a19_4 9 ((rd (wr S19 (a19_4 + 1) (ix a19_5) ((rd S19 (a19_4 + 1) (ix a19_5)) + ((v55 * (mnI (3 : Int32) v44)) / (3 : Int32)))) a19_4 9) + ((v55 * (mnI (3 : Int32) v44)) / (3 : Int32)))) 7 (ix (0 : Int32))) + (((v55 * (mnI (3 : Int32) v44)) / (3 : Int32)).toInt64)))) else none) else none)))) else (K a19_2 a19_3 S19)
def f_X0_setFruits_L2 (fuel : Nat) (K : St → Option (St)) (a2_2 : Int32) (a2_3 : Int32) (S2 : St) : Option (St) := match fuel with
  | 0 => none
  | n + 1 => if a2_3 < (12 : Int32) then (if inb a2_3 12 = true then (f_X0_setFruits_L19 6000 (fun e112_2 e112_3 T112 => (f_X0_setFruits_L2 n K e112_2 (e112_3 + (1 : Int32)) T112)) a2_2 a2_3 (20 + 2 * ix a2_3) (0 : Int32) S2) else none) else (K S2)
def f_X0_setFruits (x2 : Int32) (S : St) : Option (St) := f_X0_setFruits_L2 6000 (fun T118 => (some T118)) x2 (0 : Int32) S
set_option maxRecDepth 100000 in
theorem jl_X0_setFruits_19 (l : Launch) (w : Wd) (K : Int32 → Int32 → St → Option (St)) (n : Nat) : ∀ (a19_2 : Int32) (a19_3 : Int32) (a19_4 : Nat) (a19_5 : Int32) (S19 : St) (ha19_4 : kd a19_4 = KdPlace), (∀ (e112_2 : Int32) (e112_3 : Int32) (S' : St) , J l w I_X0_setFruits 112 [(0, .ref (w.2.1 + 1)), (1, .ref (w.2.1 + 96)), (2, .int e112_2), (3, .int e112_3)] [] S' (fun b => (none, b)) (K e112_2 e112_3 S')) → J l w I_X0_setFruits 19 [(0, .ref (w.2.1 + 1)), (1, .ref (w.2.1 + 96)), (2, .int a19_2), (3, .int a19_3), (4, .ref (w.2.1 + a19_4)), (5, .int a19_5)] [] S19 (fun b => (none, b)) (f_X0_setFruits_L19 n K a19_2 a19_3 a19_4 a19_5 S19) := by
  induction n with
  | zero =>
    intro a19_2 a19_3 a19_4 a19_5 S19 ha19_4 hK b h
    simp only [f_X0_setFruits_L19] at h
    cases h
  | succ n ih =>
    intro a19_2 a19_3 a19_4 a19_5 S19 ha19_4 hK
    rw [f_X0_setFruits_L19]
    refine j_iload (y := I_X0_setFruits) 5 dX0_setFruits_19 rfl ?_
    refine j_aload (y := I_X0_setFruits) 4 dX0_setFruits_21 rfl ?_
    refine j_callViT (y := I_X0_setFruits) (As := []) cv_0_138 ⟨Nat.le_of_ble_eq_true rfl, Nat.le_of_ble_eq_true rfl⟩ ha19_4 rfl (Nat.le_of_ble_eq_true rfl) dX0_setFruits_23 (c_X2_partCount l w a19_4 S19 ha19_4) ?_
    refine j_icmp_ge (y := I_X0_setFruits) 112 dX0_setFruits_26 (by decide) (fun h26 => ?_) (fun h26 => ?_)
    · refine j_sub [0, 1, 2, 3] rfl ?_
      exact hK a19_2 a19_3 S19
    · refine j_aload (y := I_X0_setFruits) 4 dX0_setFruits_29 rfl ?_
      refine j_getI (y := I_X0_setFruits) fl_0_109 ha19_4 rfl dX0_setFruits_31 ?_
      refine j_iconst (y := I_X0_setFruits) (v := 4) dX0_setFruits_34 (by decide) ?_
      refine j_icmp_eq (y := I_X0_setFruits) 112 dX0_setFruits_35 (by decide) (fun h35 => ?_) (fun h35 => ?_)
      · refine j_sub [0, 1, 2, 3] rfl ?_
        exact hK a19_2 a19_3 S19
      · refine j_aload_n (y := I_X0_setFruits) 0 dX0_setFruits_38 rfl rfl ?_
        refine j_aload_n (y := I_X0_setFruits) 1 dX0_setFruits_39 rfl rfl ?_
        refine j_iload_n (y := I_X0_setFruits) 3 dX0_setFruits_40 rfl rfl ?_
        refine j_iload (y := I_X0_setFruits) 5 dX0_setFruits_41 rfl ?_
        refine j_iload_n (y := I_X0_setFruits) 2 dX0_setFruits_43 rfl rfl ?_
        refine j_callViR (y := I_X0_setFruits) (As := [.ref (w.2.1 + 96), .int a19_3, .int a19_5, .int a19_2]) cv_0_174 ⟨Nat.le_of_ble_eq_true rfl, Nat.le_of_ble_eq_true rfl⟩ k_1 rfl (Nat.le_of_ble_eq_true rfl) dX0_setFruits_44 (c_X0_countPartners l w a19_3 a19_5 a19_2 S19) (fun v44 h44 => ?_)
        refine j_istore (y := I_X0_setFruits) (ls' := [(6, .int v44), (0, .ref (w.2.1 + 1)), (1, .ref (w.2.1 + 96)), (2, .int a19_2), (3, .int a19_3), (4, .ref (w.2.1 + a19_4)), (5, .int a19_5)]) dX0_setFruits_47 (by decide) rfl ?_
        refine j_aload_n (y := I_X0_setFruits) 1 dX0_setFruits_49 rfl rfl ?_
        refine j_aload (y := I_X0_setFruits) 5 dX0_setFruits_50 rfl ?_
        refine j_iload (y := I_X0_setFruits) 6 dX0_setFruits_52 rfl ?_
        refine j_iload_n (y := I_X0_setFruits) 3 dX0_setFruits_54 rfl rfl ?_
        refine j_callViR (y := I_X0_setFruits) (As := [.ref (w.2.1 + a19_4), .int a19_5, .int a19_2]) cv_0_178 ⟨Nat.le_of_ble_eq_true rfl, Nat.le_of_ble_eq_true rfl⟩ k_1 rfl (Nat.le_of_ble_eq_true rfl) dX0_setFruits_55 (c_X0_flowersLeft l w a19_4 a19_5 a19_2 S19 ha19_4) (fun v55 h55 => ?_)
        refine j_iconst (y := I_X0_setFruits) (v := 3) dX0_setFruits_58 (by decide) ?_
        refine j_iload (y := I_X0_setFruits) 0 dX0_setFruits_59 rfl ?_
        refine j_mmin (y := I_X0_setFruits) (gm 618 (by decide +kernel) rfl) (Nat.le_of_ble_eq_true rfl) (Nat.le_of_ble_eq_true rfl) dX0_setFruits_61 ?_
        refine j_imul (y := I_X0_setFruits) dX0_setFruits_64 ?_
        refine j_iconst (y := I_X0_setFruits) (v := 3) dX0_setFruits_65 (by decide) ?_
        refine j_idivL (y := I_X0_setFruits) dX0_setFruits_66 (by decide) ?_
        refine j_istore (y := I_X0_setFruits) (ls' := [(7, .int ((v55 * (mnI (3 : Int32) v44)) / (3 : Int32))), (6, .int v44), (0, .ref (w.2.1 + 1)), (1, .ref (w.2.1 + 96)), (2, .int a19_2), (3, .int a19_3), (4, .ref (w.2.1 + a19_4)), (5, .int a19_5)]) dX0_setFruits_67 (by decide) rfl ?_
        refine j_aload (y := I_X0_setFruits) 6 dX0_setFruits_69 rfl ?_
        refine j_getR (y := I_X0_setFruits) (j := (a19_4 + 1)) fl_0_185 ha19_4 rfl rfl dX0_setFruits_71 ?_
        refine j_iload (y := I_X0_setFruits) 7 dX0_setFruits_74 rfl ?_
        refine j_dup2 (y := I_X0_setFruits) dX0_setFruits_76 rfl rfl ?_
        refine j_iald (y := I_X0_setFruits) (kd_PlaceA ha19_4) dX0_setFruits_77 (fun h77 => ?_)
        refine j_iload (y := I_X0_setFruits) 0 dX0_setFruits_78 rfl ?_
        refine j_iadd (y := I_X0_setFruits) dX0_setFruits_80 ?_
        refine j_iast (y := I_X0_setFruits) (kd_PlaceA ha19_4) dX0_setFruits_81 (fun h81 => ?_)
        refine j_aload (y := I_X0_setFruits) 6 dX0_setFruits_82 rfl ?_
        refine j_dup (y := I_X0_setFruits) dX0_setFruits_84 rfl ?_
        refine j_getI (y := I_X0_setFruits) fl_0_188 ha19_4 rfl dX0_setFruits_85 ?_
        refine j_iload (y := I_X0_setFruits) 0 dX0_setFruits_88 rfl ?_
        refine j_iadd (y := I_X0_setFruits) dX0_setFruits_90 ?_
        refine j_putI (y := I_X0_setFruits) fp_0_188 ha19_4 rfl rfl rfl dX0_setFruits_91 ?_
        refine j_aload_n (y := I_X0_setFruits) 2 dX0_setFruits_94 rfl rfl ?_
        refine j_getR (y := I_X0_setFruits) (j := 7) fl_0_55 k_1 rfl rfl dX0_setFruits_95 ?_
        refine j_iconst (y := I_X0_setFruits) (v := 0) dX0_setFruits_98 (by decide) ?_
        refine j_dup2 (y := I_X0_setFruits) dX0_setFruits_99 rfl rfl ?_
        refine j_laldL (y := I_X0_setFruits) k_7 (by decide) dX0_setFruits_100 ?_
        refine j_iload (y := I_X0_setFruits) 0 dX0_setFruits_101 rfl ?_
        refine j_i2l (y := I_X0_setFruits) dX0_setFruits_103 ?_
        refine j_ladd (y := I_X0_setFruits) dX0_setFruits_104 ?_
        refine j_lastL (y := I_X0_setFruits) k_7 (by decide) dX0_setFruits_105 ?_
        refine j_iinc (y := I_X0_setFruits) 7 (ls' := [(5, .int (a19_5 + (1 : Int32))), (7, .int ((v55 * (mnI (3 : Int32) v44)) / (3 : Int32))), (6, .int v44), (0, .ref (w.2.1 + 1)), (1, .ref (w.2.1 + 96)), (2, .int a19_2), (3, .int a19_3), (4, .ref (w.2.1 + a19_4))]) dX0_setFruits_106 rfl (ii _ _ (by decide) _) (by decide) rfl ?_
        refine j_goto (y := I_X0_setFruits) 19 dX0_setFruits_109 (by decide) ?_
        refine j_sub [3, 4, 5, 6, 7, 0] rfl ?_
        exact ih a19_2 a19_3 a19_4 (a19_5 + (1 : Int32)) (wrL (wr (wr S19 (a19_4 + 1) (ix a19_5) ((rd S19 (a19_4 + 1) (ix a19_5)) + ((v55 * (mnI (3 : Int32) v44)) / (3 : Int32)))) a19_4 9 ((rd (wr S19 (a19_4 + 1) (ix a19_5) ((rd S19 (a19_4 + 1) (ix a19_5)) + ((v55 * (mnI (3 : Int32) v44)) / (3 : Int32)))) a19_4 9) + ((v55 * (mnI (3 : Int32) v44)) / (3 : Int32)))) 7 (ix (0 : Int32)) ((rdL (wr (wr S19 (a19_4 + 1) (ix a19_5) ((rd S19 (a19_4 + 1) (ix a19_5)) + ((v55 * (mnI (3 : Int32) v44)) / (3 : Int32)))) a19_4 9 ((rd (wr S19 (a19_4 + 1) (ix a19_5) ((rd S19 (a19_4 + 1) (ix a19_5)) + ((v55 * (mnI (3 : Int32) v44)) / (3 : Int32)))) a19_4 9) + ((v55 * (mnI (3 : Int32) v44)) / (3 : Int32)))) 7 (ix (0 : Int32))) + (((v55 * (mnI (3 : Int32) v44)) / (3 : Int32)).toInt64))) ha19_4 hK
set_option maxRecDepth 100000 in
theorem jl_X0_setFruits_2 (l : Launch) (w : Wd) (K : St → Option (St)) (n : Nat) : ∀ (a2_2 : Int32) (a2_3 : Int32) (S2 : St), (∀  (S' : St) , J l w I_X0_setFruits 118 [] [] S' (fun b => (none, b)) (K  S')) → J l w I_X0_setFruits 2 [(0, .ref (w.2.1 + 1)), (1, .ref (w.2.1 + 96)), (2, .int a2_2), (3, .int a2_3)] [] S2 (fun b => (none, b)) (f_X0_setFruits_L2 n K a2_2 a2_3 S2) := by
  induction n with
  | zero =>
    intro a2_2 a2_3 S2 hK b h
    simp only [f_X0_setFruits_L2] at h
    cases h
  | succ n ih =>
    intro a2_2 a2_3 S2 hK
    rw [f_X0_setFruits_L2]
    refine j_iload_n (y := I_X0_setFruits) 3 dX0_setFruits_2 rfl rfl ?_
    refine j_bipush (y := I_X0_setFruits) (v := 12) dX0_setFruits_3 (by decide) ?_
    refine j_icmp_ge (y := I_X0_setFruits) 118 dX0_setFruits_5 (by decide) (fun h5 => ?_) (fun h5 => ?_)
    · refine j_sub [] rfl ?_
      exact hK S2
    · refine j_aload_n (y := I_X0_setFruits) 0 dX0_setFruits_8 rfl rfl ?_
      refine j_getR (y := I_X0_setFruits) (j := 3) fl_0_23 k_1 rfl rfl dX0_setFruits_9 ?_
      refine j_iload_n (y := I_X0_setFruits) 3 dX0_setFruits_12 rfl rfl ?_
      refine j_aald (y := I_X0_setFruits) (j := (20 + 2 * ix a2_3)) (tt := 1) k_3 rfl (rho_3 _) dX0_setFruits_13 (fun h13 => ?_)
      refine j_astore (y := I_X0_setFruits) (ls' := [(4, .ref (w.2.1 + (20 + 2 * ix a2_3))), (0, .ref (w.2.1 + 1)), (1, .ref (w.2.1 + 96)), (2, .int a2_2), (3, .int a2_3)]) dX0_setFruits_14 (by decide) rfl ?_
      refine j_iconst (y := I_X0_setFruits) (v := 0) dX0_setFruits_16 (by decide) ?_
      refine j_istore (y := I_X0_setFruits) (ls' := [(5, .int (0 : Int32)), (4, .ref (w.2.1 + (20 + 2 * ix a2_3))), (0, .ref (w.2.1 + 1)), (1, .ref (w.2.1 + 96)), (2, .int a2_2), (3, .int a2_3)]) dX0_setFruits_17 (by decide) rfl ?_
      refine j_sub [2, 3, 4, 5, 1, 0] rfl ?_
      refine jl_X0_setFruits_19 l w _ 6000 a2_2 a2_3 (20 + 2 * ix a2_3) (0 : Int32) S2 (kd_Pl _ (inb_lt h13)) (fun e112_2 e112_3 T112 => ?_)
      refine j_iinc (y := I_X0_setFruits) 3 (ls' := [(3, .int (e112_3 + (1 : Int32))), (0, .ref (w.2.1 + 1)), (1, .ref (w.2.1 + 96)), (2, .int e112_2)]) dX0_setFruits_112 rfl (ii _ _ (by decide) _) (by decide) rfl ?_
      refine j_goto (y := I_X0_setFruits) 2 dX0_setFruits_115 (by decide) ?_
      refine j_sub [1, 2, 3, 0] rfl ?_
      exact ih e112_2 (e112_3 + (1 : Int32)) T112 hK
set_option maxRecDepth 100000 in
set_option maxHeartbeats 4000000 in
theorem m_X0_setFruits (l : Launch) (w : Wd) (x2 : Int32) (S : St)  : J l w I_X0_setFruits 0 [(0, .ref (w.2.1 + 1)), (1, .ref (w.2.1 + 96)), (2, .int x2)] [] S (fun b => (none, b)) (f_X0_setFruits x2 S) := by
  unfold f_X0_setFruits
  refine j_iconst (y := I_X0_setFruits) (v := 0) dX0_setFruits_0 (by decide) ?_
  refine j_istore_n (y := I_X0_setFruits) (ls' := [(3, .int (0 : Int32)), (0, .ref (w.2.1 + 1)), (1, .ref (w.2.1 + 96)), (2, .int x2)]) dX0_setFruits_1 rfl (by decide) rfl ?_
  refine j_sub [1, 2, 3, 0] rfl ?_
  refine jl_X0_setFruits_2 l w _ 6000 x2 (0 : Int32) S  (fun T118 => ?_)
  exact j_vret (y := I_X0_setFruits) rfl dX0_setFruits_118 rfl
theorem c_X0_setFruits (l : Launch) (w : Wd) (x2 : Int32) (S : St)  : ∀ v, f_X0_setFruits x2 S = some v → CtS l w I_X0_setFruits [.ref (w.2.1 + 1), .ref (w.2.1 + 96), .int x2] S v none := fun v h => J.ct (av := [.ref (w.2.1 + 1), .ref (w.2.1 + 96), .int x2]) (Nat.le_of_ble_eq_true rfl) pn_0 (m_X0_setFruits l w x2 S ) h
abbrev I_X0_fruitsInStore : MI := (yX0_fruitsInStore, cX0_fruitsInStore, 3, some .int, { frames := 0, cells := 0, slots := 0, locals := 0 })
theorem dX0_fruitsInStore_0 : decode cX0_fruitsInStore 0 = .ok (.iconst 0, 1) := by decide +kernel
theorem dX0_fruitsInStore_1 : decode cX0_fruitsInStore 1 = .ok (.istore_n 1, 1) := by decide +kernel
theorem dX0_fruitsInStore_2 : decode cX0_fruitsInStore 2 = .ok (.iconst 0, 1) := by decide +kernel
theorem dX0_fruitsInStore_3 : decode cX0_fruitsInStore 3 = .ok (.istore_n 2, 1) := by decide +kernel
theorem dX0_fruitsInStore_4 : decode cX0_fruitsInStore 4 = .ok (.iload_n 2, 1) := by decide +kernel
theorem dX0_fruitsInStore_5 : decode cX0_fruitsInStore 5 = .ok (.aload_n 0, 1) := by decide +kernel
theorem dX0_fruitsInStore_6 : decode cX0_fruitsInStore 6 = .ok (.getfield 17, 3) := by decide +kernel
theorem dX0_fruitsInStore_9 : decode cX0_fruitsInStore 9 = .ok (.if_icmp .ge 21, 3) := by decide +kernel
theorem dX0_fruitsInStore_12 : decode cX0_fruitsInStore 12 = .ok (.iload_n 1, 1) := by decide +kernel
theorem dX0_fruitsInStore_13 : decode cX0_fruitsInStore 13 = .ok (.aload_n 0, 1) := by decide +kernel
theorem dX0_fruitsInStore_14 : decode cX0_fruitsInStore 14 = .ok (.getfield 11, 3) := by decide +kernel
theorem dX0_fruitsInStore_17 : decode cX0_fruitsInStore 17 = .ok (.iload_n 2, 1) := by decide +kernel
theorem dX0_fruitsInStore_18 : decode cX0_fruitsInStore 18 = .ok (.aaload, 1) := by decide +kernel
theorem dX0_fruitsInStore_19 : decode cX0_fruitsInStore 19 = .ok (.getfield 122, 3) := by decide +kernel
theorem dX0_fruitsInStore_22 : decode cX0_fruitsInStore 22 = .ok (.iadd, 1) := by decide +kernel
theorem dX0_fruitsInStore_23 : decode cX0_fruitsInStore 23 = .ok (.istore_n 1, 1) := by decide +kernel
theorem dX0_fruitsInStore_24 : decode cX0_fruitsInStore 24 = .ok (.iinc 2 1, 3) := by decide +kernel
theorem dX0_fruitsInStore_27 : decode cX0_fruitsInStore 27 = .ok (.goto (-23), 3) := by decide +kernel
theorem dX0_fruitsInStore_30 : decode cX0_fruitsInStore 30 = .ok (.iload_n 1, 1) := by decide +kernel
theorem dX0_fruitsInStore_31 : decode cX0_fruitsInStore 31 = .ok (.ireturn, 1) := by decide +kernel
def f_X0_fruitsInStore_L4 (fuel : Nat) (K : Int32 → Option (Int32)) (a4_1 : Int32) (a4_2 : Int32) (S : St) : Option (Int32) := match fuel with
  | 0 => none
  | n + 1 => if a4_2 < (rd S 1 1) then (if inb a4_2 6 = true then (f_X0_fruitsInStore_L4 n K (a4_1 + (rd S (8 + 2 * ix a4_2) 6)) (a4_2 + (1 : Int32)) S) else none) else (K a4_1)
def f_X0_fruitsInStore  (S : St) : Option (Int32) := f_X0_fruitsInStore_L4 6000 (fun e30_1 => (some e30_1)) (0 : Int32) (0 : Int32) S
set_option maxRecDepth 100000 in
theorem jl_X0_fruitsInStore_4 (l : Launch) (w : Wd) (S : St) (K : Int32 → Option (Int32)) (n : Nat) : ∀ (a4_1 : Int32) (a4_2 : Int32), (∀ (e30_1 : Int32) , J l w I_X0_fruitsInStore 30 [(1, .int e30_1)] [] S (fun b => (some (.int b), S)) (K e30_1)) → J l w I_X0_fruitsInStore 4 [(0, .ref (w.2.1 + 1)), (1, .int a4_1), (2, .int a4_2)] [] S (fun b => (some (.int b), S)) (f_X0_fruitsInStore_L4 n K a4_1 a4_2 S) := by
  induction n with
  | zero =>
    intro a4_1 a4_2 hK b h
    simp only [f_X0_fruitsInStore_L4] at h
    cases h
  | succ n ih =>
    intro a4_1 a4_2 hK
    rw [f_X0_fruitsInStore_L4]
    refine j_iload_n (y := I_X0_fruitsInStore) 2 dX0_fruitsInStore_4 rfl rfl ?_
    refine j_aload_n (y := I_X0_fruitsInStore) 0 dX0_fruitsInStore_5 rfl rfl ?_
    refine j_getI (y := I_X0_fruitsInStore) fl_0_17 k_1 rfl dX0_fruitsInStore_6 ?_
    refine j_icmp_ge (y := I_X0_fruitsInStore) 30 dX0_fruitsInStore_9 (by decide) (fun h9 => ?_) (fun h9 => ?_)
    · refine j_sub [1] rfl ?_
      exact hK a4_1
    · refine j_iload_n (y := I_X0_fruitsInStore) 1 dX0_fruitsInStore_12 rfl rfl ?_
      refine j_aload_n (y := I_X0_fruitsInStore) 0 dX0_fruitsInStore_13 rfl rfl ?_
      refine j_getR (y := I_X0_fruitsInStore) (j := 2) fl_0_11 k_1 rfl rfl dX0_fruitsInStore_14 ?_
      refine j_iload_n (y := I_X0_fruitsInStore) 2 dX0_fruitsInStore_17 rfl rfl ?_
      refine j_aald (y := I_X0_fruitsInStore) (j := (8 + 2 * ix a4_2)) (tt := 0) k_2 rfl (rho_2 _) dX0_fruitsInStore_18 (fun h18 => ?_)
      refine j_getI (y := I_X0_fruitsInStore) fl_0_122 (kd_So _ (inb_lt h18)) rfl dX0_fruitsInStore_19 ?_
      refine j_iadd (y := I_X0_fruitsInStore) dX0_fruitsInStore_22 ?_
      refine j_istore_n (y := I_X0_fruitsInStore) (ls' := [(1, .int (a4_1 + (rd S (8 + 2 * ix a4_2) 6))), (0, .ref (w.2.1 + 1)), (2, .int a4_2)]) dX0_fruitsInStore_23 rfl (by decide) rfl ?_
      refine j_iinc (y := I_X0_fruitsInStore) 2 (ls' := [(2, .int (a4_2 + (1 : Int32))), (1, .int (a4_1 + (rd S (8 + 2 * ix a4_2) 6))), (0, .ref (w.2.1 + 1))]) dX0_fruitsInStore_24 rfl (ii _ _ (by decide) _) (by decide) rfl ?_
      refine j_goto (y := I_X0_fruitsInStore) 4 dX0_fruitsInStore_27 (by decide) ?_
      refine j_sub [2, 1, 0] rfl ?_
      exact ih (a4_1 + (rd S (8 + 2 * ix a4_2) 6)) (a4_2 + (1 : Int32)) hK
set_option maxRecDepth 100000 in
set_option maxHeartbeats 4000000 in
theorem m_X0_fruitsInStore (l : Launch) (w : Wd)  (S : St)  : J l w I_X0_fruitsInStore 0 [(0, .ref (w.2.1 + 1))] [] S (fun b => (some (.int b), S)) (f_X0_fruitsInStore S) := by
  unfold f_X0_fruitsInStore
  refine j_iconst (y := I_X0_fruitsInStore) (v := 0) dX0_fruitsInStore_0 (by decide) ?_
  refine j_istore_n (y := I_X0_fruitsInStore) (ls' := [(1, .int (0 : Int32)), (0, .ref (w.2.1 + 1))]) dX0_fruitsInStore_1 rfl (by decide) rfl ?_
  refine j_iconst (y := I_X0_fruitsInStore) (v := 0) dX0_fruitsInStore_2 (by decide) ?_
  refine j_istore_n (y := I_X0_fruitsInStore) (ls' := [(2, .int (0 : Int32)), (1, .int (0 : Int32)), (0, .ref (w.2.1 + 1))]) dX0_fruitsInStore_3 rfl (by decide) rfl ?_
  refine j_sub [2, 1, 0] rfl ?_
  refine jl_X0_fruitsInStore_4 l w S _ 6000 (0 : Int32) (0 : Int32)   (fun e30_1 => ?_)
  refine j_iload_n (y := I_X0_fruitsInStore) 0 dX0_fruitsInStore_30 rfl rfl ?_
  exact j_iret (y := I_X0_fruitsInStore) rfl dX0_fruitsInStore_31 rfl
theorem c_X0_fruitsInStore (l : Launch) (w : Wd)  (S : St)  : ∀ v, f_X0_fruitsInStore S = some v → CtS l w I_X0_fruitsInStore [.ref (w.2.1 + 1)] S S (some (.int v)) := fun v h => J.ct (av := [.ref (w.2.1 + 1)]) (Nat.le_of_ble_eq_true rfl) pn_0 (m_X0_fruitsInStore l w  S ) h
abbrev I_X0_isRipe : MI := (yX0_isRipe, cX0_isRipe, 6, some .boolean, { frames := 1, cells := 0, slots := 0, locals := 24 })
theorem dX0_isRipe_0 : decode cX0_isRipe 0 = .ok (.aload_n 2, 1) := by decide +kernel
theorem dX0_isRipe_1 : decode cX0_isRipe 1 = .ok (.iload_n 3, 1) := by decide +kernel
theorem dX0_isRipe_2 : decode cX0_isRipe 2 = .ok (.invokevirtual 125, 3) := by decide +kernel
theorem dX0_isRipe_5 : decode cX0_isRipe 5 = .ok (.istore 5, 2) := by decide +kernel
theorem dX0_isRipe_7 : decode cX0_isRipe 7 = .ok (.aload_n 1, 1) := by decide +kernel
theorem dX0_isRipe_8 : decode cX0_isRipe 8 = .ok (.iload 5, 2) := by decide +kernel
theorem dX0_isRipe_10 : decode cX0_isRipe 10 = .ok (.aload_n 0, 1) := by decide +kernel
theorem dX0_isRipe_11 : decode cX0_isRipe 11 = .ok (.getfield 11, 3) := by decide +kernel
theorem dX0_isRipe_14 : decode cX0_isRipe 14 = .ok (.iload 5, 2) := by decide +kernel
theorem dX0_isRipe_16 : decode cX0_isRipe 16 = .ok (.aaload, 1) := by decide +kernel
theorem dX0_isRipe_17 : decode cX0_isRipe 17 = .ok (.getfield 200, 3) := by decide +kernel
theorem dX0_isRipe_20 : decode cX0_isRipe 20 = .ok (.iload 4, 2) := by decide +kernel
theorem dX0_isRipe_22 : decode cX0_isRipe 22 = .ok (.invokevirtual 203, 3) := by decide +kernel
theorem dX0_isRipe_25 : decode cX0_isRipe 25 = .ok (.ireturn, 1) := by decide +kernel
theorem cv_0_203 : CV RX0 203 3 3 I_X3_isRipe := ⟨⟨⟨gm 635 (by decide +kernel) rfl, gm 638 (by decide +kernel) rfl, gm 42 (by decide +kernel) rfl, mh_3.1, mh_3.2, by decide +kernel⟩, gm 636 (by decide +kernel) rfl, gm 637 (by decide +kernel) rfl⟩, ⟨_, _, rfl⟩, rfl, rfl⟩
def f_X0_isRipe (u2 : Nat) (x3 : Int32) (x4 : Int32) (S : St) : Option (Bool) := if inb (f_X2_sortOf u2 x3 S) 6 = true then ((f_X3_isRipe (f_X2_sortOf u2 x3 S) (rd S (8 + 2 * ix (f_X2_sortOf u2 x3 S)) 2) x4 S).bind fun v22 => (some v22)) else none
set_option maxRecDepth 100000 in
set_option maxHeartbeats 4000000 in
theorem m_X0_isRipe (l : Launch) (w : Wd) (u2 : Nat) (x3 : Int32) (x4 : Int32) (S : St) (hu2 : kd u2 = KdPlace) : J l w I_X0_isRipe 0 [(0, .ref (w.2.1 + 1)), (1, .ref (w.2.1 + 96)), (2, .ref (w.2.1 + u2)), (3, .int x3), (4, .int x4)] [] S (fun b => (some (.int (b2i b)), S)) (f_X0_isRipe u2 x3 x4 S) := by
  unfold f_X0_isRipe
  refine j_aload_n (y := I_X0_isRipe) 2 dX0_isRipe_0 rfl rfl ?_
  refine j_iload_n (y := I_X0_isRipe) 3 dX0_isRipe_1 rfl rfl ?_
  refine j_callViT (y := I_X0_isRipe) (As := [.int x3]) cv_0_125 ⟨Nat.le_of_ble_eq_true rfl, Nat.le_of_ble_eq_true rfl⟩ hu2 rfl (Nat.le_of_ble_eq_true rfl) dX0_isRipe_2 (c_X2_sortOf l w u2 x3 S hu2) ?_
  refine j_istore (y := I_X0_isRipe) (ls' := [(5, .int (f_X2_sortOf u2 x3 S)), (0, .ref (w.2.1 + 1)), (1, .ref (w.2.1 + 96)), (2, .ref (w.2.1 + u2)), (3, .int x3), (4, .int x4)]) dX0_isRipe_5 (by decide) rfl ?_
  refine j_aload_n (y := I_X0_isRipe) 2 dX0_isRipe_7 rfl rfl ?_
  refine j_iload (y := I_X0_isRipe) 0 dX0_isRipe_8 rfl ?_
  refine j_aload_n (y := I_X0_isRipe) 1 dX0_isRipe_10 rfl rfl ?_
  refine j_getR (y := I_X0_isRipe) (j := 2) fl_0_11 k_1 rfl rfl dX0_isRipe_11 ?_
  refine j_iload (y := I_X0_isRipe) 0 dX0_isRipe_14 rfl ?_
  refine j_aald (y := I_X0_isRipe) (j := (8 + 2 * ix (f_X2_sortOf u2 x3 S))) (tt := 0) k_2 rfl (rho_2 _) dX0_isRipe_16 (fun h16 => ?_)
  refine j_getI (y := I_X0_isRipe) fl_0_200 (kd_So _ (inb_lt h16)) rfl dX0_isRipe_17 ?_
  refine j_iload (y := I_X0_isRipe) 5 dX0_isRipe_20 rfl ?_
  refine j_callVzR (y := I_X0_isRipe) (As := [.int (f_X2_sortOf u2 x3 S), .int (rd S (8 + 2 * ix (f_X2_sortOf u2 x3 S)) 2), .int x4]) cv_0_203 ⟨Nat.le_of_ble_eq_true rfl, Nat.le_of_ble_eq_true rfl⟩ k_96 rfl (Nat.le_of_ble_eq_true rfl) dX0_isRipe_22 (c_X3_isRipe l w (f_X2_sortOf u2 x3 S) (rd S (8 + 2 * ix (f_X2_sortOf u2 x3 S)) 2) x4 S) (fun v22 h22 => ?_)
  exact j_zret (y := I_X0_isRipe) (q := v22) rfl rfl dX0_isRipe_25 rfl
theorem c_X0_isRipe (l : Launch) (w : Wd) (u2 : Nat) (x3 : Int32) (x4 : Int32) (S : St) (hu2 : kd u2 = KdPlace) : ∀ v, f_X0_isRipe u2 x3 x4 S = some v → CtS l w I_X0_isRipe [.ref (w.2.1 + 1), .ref (w.2.1 + 96), .ref (w.2.1 + u2), .int x3, .int x4] S S (some (.int (b2i v))) := fun v h => J.ct (av := [.ref (w.2.1 + 1), .ref (w.2.1 + 96), .ref (w.2.1 + u2), .int x3, .int x4]) (Nat.le_of_ble_eq_true rfl) pn_0 (m_X0_isRipe l w u2 x3 x4 S hu2) h
abbrev I_X0_fullestRipe : MI := (yX0_fullestRipe, cX0_fullestRipe, 8, some .int, { frames := 2, cells := 0, slots := 0, locals := 49 })
theorem dX0_fullestRipe_0 : decode cX0_fullestRipe 0 = .ok (.iconst (-1), 1) := by decide +kernel
theorem dX0_fullestRipe_1 : decode cX0_fullestRipe 1 = .ok (.istore_n 3, 1) := by decide +kernel
theorem dX0_fullestRipe_2 : decode cX0_fullestRipe 2 = .ok (.iconst 0, 1) := by decide +kernel
theorem dX0_fullestRipe_3 : decode cX0_fullestRipe 3 = .ok (.istore 4, 2) := by decide +kernel
theorem dX0_fullestRipe_5 : decode cX0_fullestRipe 5 = .ok (.iconst 0, 1) := by decide +kernel
theorem dX0_fullestRipe_6 : decode cX0_fullestRipe 6 = .ok (.istore 5, 2) := by decide +kernel
theorem dX0_fullestRipe_8 : decode cX0_fullestRipe 8 = .ok (.iload 5, 2) := by decide +kernel
theorem dX0_fullestRipe_10 : decode cX0_fullestRipe 10 = .ok (.bipush 12, 2) := by decide +kernel
theorem dX0_fullestRipe_12 : decode cX0_fullestRipe 12 = .ok (.if_icmp .ge 81, 3) := by decide +kernel
theorem dX0_fullestRipe_15 : decode cX0_fullestRipe 15 = .ok (.aload_n 0, 1) := by decide +kernel
theorem dX0_fullestRipe_16 : decode cX0_fullestRipe 16 = .ok (.getfield 23, 3) := by decide +kernel
theorem dX0_fullestRipe_19 : decode cX0_fullestRipe 19 = .ok (.iload 5, 2) := by decide +kernel
theorem dX0_fullestRipe_21 : decode cX0_fullestRipe 21 = .ok (.aaload, 1) := by decide +kernel
theorem dX0_fullestRipe_22 : decode cX0_fullestRipe 22 = .ok (.astore 6, 2) := by decide +kernel
theorem dX0_fullestRipe_24 : decode cX0_fullestRipe 24 = .ok (.iconst 0, 1) := by decide +kernel
theorem dX0_fullestRipe_25 : decode cX0_fullestRipe 25 = .ok (.istore 7, 2) := by decide +kernel
theorem dX0_fullestRipe_27 : decode cX0_fullestRipe 27 = .ok (.iload 7, 2) := by decide +kernel
theorem dX0_fullestRipe_29 : decode cX0_fullestRipe 29 = .ok (.aload 6, 2) := by decide +kernel
theorem dX0_fullestRipe_31 : decode cX0_fullestRipe 31 = .ok (.invokevirtual 138, 3) := by decide +kernel
theorem dX0_fullestRipe_34 : decode cX0_fullestRipe 34 = .ok (.if_icmp .ge 53, 3) := by decide +kernel
theorem dX0_fullestRipe_37 : decode cX0_fullestRipe 37 = .ok (.aload 6, 2) := by decide +kernel
theorem dX0_fullestRipe_39 : decode cX0_fullestRipe 39 = .ok (.getfield 185, 3) := by decide +kernel
theorem dX0_fullestRipe_42 : decode cX0_fullestRipe 42 = .ok (.iload 7, 2) := by decide +kernel
theorem dX0_fullestRipe_44 : decode cX0_fullestRipe 44 = .ok (.iaload, 1) := by decide +kernel
theorem dX0_fullestRipe_45 : decode cX0_fullestRipe 45 = .ok (.iload 4, 2) := by decide +kernel
theorem dX0_fullestRipe_47 : decode cX0_fullestRipe 47 = .ok (.if_icmp .le 34, 3) := by decide +kernel
theorem dX0_fullestRipe_50 : decode cX0_fullestRipe 50 = .ok (.aload_n 0, 1) := by decide +kernel
theorem dX0_fullestRipe_51 : decode cX0_fullestRipe 51 = .ok (.aload_n 1, 1) := by decide +kernel
theorem dX0_fullestRipe_52 : decode cX0_fullestRipe 52 = .ok (.aload 6, 2) := by decide +kernel
theorem dX0_fullestRipe_54 : decode cX0_fullestRipe 54 = .ok (.iload 7, 2) := by decide +kernel
theorem dX0_fullestRipe_56 : decode cX0_fullestRipe 56 = .ok (.iload_n 2, 1) := by decide +kernel
theorem dX0_fullestRipe_57 : decode cX0_fullestRipe 57 = .ok (.invokevirtual 218, 3) := by decide +kernel
theorem dX0_fullestRipe_60 : decode cX0_fullestRipe 60 = .ok (.ifCond .eq 21, 3) := by decide +kernel
theorem dX0_fullestRipe_63 : decode cX0_fullestRipe 63 = .ok (.aload 6, 2) := by decide +kernel
theorem dX0_fullestRipe_65 : decode cX0_fullestRipe 65 = .ok (.getfield 185, 3) := by decide +kernel
theorem dX0_fullestRipe_68 : decode cX0_fullestRipe 68 = .ok (.iload 7, 2) := by decide +kernel
theorem dX0_fullestRipe_70 : decode cX0_fullestRipe 70 = .ok (.iaload, 1) := by decide +kernel
theorem dX0_fullestRipe_71 : decode cX0_fullestRipe 71 = .ok (.istore 4, 2) := by decide +kernel
theorem dX0_fullestRipe_73 : decode cX0_fullestRipe 73 = .ok (.iload 5, 2) := by decide +kernel
theorem dX0_fullestRipe_75 : decode cX0_fullestRipe 75 = .ok (.iconst 2, 1) := by decide +kernel
theorem dX0_fullestRipe_76 : decode cX0_fullestRipe 76 = .ok (.imul, 1) := by decide +kernel
theorem dX0_fullestRipe_77 : decode cX0_fullestRipe 77 = .ok (.iload 7, 2) := by decide +kernel
theorem dX0_fullestRipe_79 : decode cX0_fullestRipe 79 = .ok (.iadd, 1) := by decide +kernel
theorem dX0_fullestRipe_80 : decode cX0_fullestRipe 80 = .ok (.istore_n 3, 1) := by decide +kernel
theorem dX0_fullestRipe_81 : decode cX0_fullestRipe 81 = .ok (.iinc 7 1, 3) := by decide +kernel
theorem dX0_fullestRipe_84 : decode cX0_fullestRipe 84 = .ok (.goto (-57), 3) := by decide +kernel
theorem dX0_fullestRipe_87 : decode cX0_fullestRipe 87 = .ok (.iinc 5 1, 3) := by decide +kernel
theorem dX0_fullestRipe_90 : decode cX0_fullestRipe 90 = .ok (.goto (-82), 3) := by decide +kernel
theorem dX0_fullestRipe_93 : decode cX0_fullestRipe 93 = .ok (.iload_n 3, 1) := by decide +kernel
theorem dX0_fullestRipe_94 : decode cX0_fullestRipe 94 = .ok (.ireturn, 1) := by decide +kernel
theorem cv_0_218 : CV RX0 218 4 0 I_X0_isRipe := ⟨⟨⟨gm 631 (by decide +kernel) rfl, gm 634 (by decide +kernel) rfl, gm 38 (by decide +kernel) rfl, mh_0.1, mh_0.2, by decide +kernel⟩, gm 632 (by decide +kernel) rfl, gm 633 (by decide +kernel) rfl⟩, ⟨_, _, rfl⟩, rfl, rfl⟩
def f_X0_fullestRipe_L27 (fuel : Nat) (K : Int32 → Int32 → Int32 → Int32 → Option (Int32)) (a27_2 : Int32) (a27_3 : Int32) (a27_4 : Int32) (a27_5 : Int32) (a27_6 : Nat) (a27_7 : Int32) (S : St) : Option (Int32) := match fuel with
  | 0 => none
  | n + 1 => if a27_7 < (f_X2_partCount a27_6 S) then (if inb a27_7 2 = true then (if a27_4 < (rd S (a27_6 + 1) (ix a27_7)) then ((f_X0_isRipe a27_6 a27_7 a27_2 S).bind fun v57 => (if v57 = true then (if inb a27_7 2 = true then (f_X0_fullestRipe_L27 n K a27_2 ((a27_5 * (2 : Int32)) + a27_7) (rd S (a27_6 + 1) (ix a27_7)) a27_5 a27_6 (a27_7 + (1 : Int32)) S) else none) else (f_X0_fullestRipe_L27 n K a27_2 a27_3 a27_4 a27_5 a27_6 (a27_7 + (1 : Int32)) S))) else (f_X0_fullestRipe_L27 n K a27_2 a27_3 a27_4 a27_5 a27_6 (a27_7 + (1 : Int32)) S)) else none) else (K a27_2 a27_3 a27_4 a27_5)
def f_X0_fullestRipe_L8 (fuel : Nat) (K : Int32 → Option (Int32)) (a8_2 : Int32) (a8_3 : Int32) (a8_4 : Int32) (a8_5 : Int32) (S : St) : Option (Int32) := match fuel with
  | 0 => none
  | n + 1 => if a8_5 < (12 : Int32) then (if inb a8_5 12 = true then (f_X0_fullestRipe_L27 6000 (fun e87_2 e87_3 e87_4 e87_5 => (f_X0_fullestRipe_L8 n K e87_2 e87_3 e87_4 (e87_5 + (1 : Int32)) S)) a8_2 a8_3 a8_4 a8_5 (20 + 2 * ix a8_5) (0 : Int32) S) else none) else (K a8_3)
def f_X0_fullestRipe (x2 : Int32) (S : St) : Option (Int32) := f_X0_fullestRipe_L8 6000 (fun e93_3 => (some e93_3)) x2 (-1 : Int32) (0 : Int32) (0 : Int32) S
set_option maxRecDepth 100000 in
theorem jl_X0_fullestRipe_27 (l : Launch) (w : Wd) (S : St) (K : Int32 → Int32 → Int32 → Int32 → Option (Int32)) (n : Nat) : ∀ (a27_2 : Int32) (a27_3 : Int32) (a27_4 : Int32) (a27_5 : Int32) (a27_6 : Nat) (a27_7 : Int32) (ha27_6 : kd a27_6 = KdPlace), (∀ (e87_2 : Int32) (e87_3 : Int32) (e87_4 : Int32) (e87_5 : Int32) , J l w I_X0_fullestRipe 87 [(0, .ref (w.2.1 + 1)), (1, .ref (w.2.1 + 96)), (2, .int e87_2), (3, .int e87_3), (4, .int e87_4), (5, .int e87_5)] [] S (fun b => (some (.int b), S)) (K e87_2 e87_3 e87_4 e87_5)) → J l w I_X0_fullestRipe 27 [(0, .ref (w.2.1 + 1)), (1, .ref (w.2.1 + 96)), (2, .int a27_2), (3, .int a27_3), (4, .int a27_4), (5, .int a27_5), (6, .ref (w.2.1 + a27_6)), (7, .int a27_7)] [] S (fun b => (some (.int b), S)) (f_X0_fullestRipe_L27 n K a27_2 a27_3 a27_4 a27_5 a27_6 a27_7 S) := by
  induction n with
  | zero =>
    intro a27_2 a27_3 a27_4 a27_5 a27_6 a27_7 ha27_6 hK b h
    simp only [f_X0_fullestRipe_L27] at h
    cases h
  | succ n ih =>
    intro a27_2 a27_3 a27_4 a27_5 a27_6 a27_7 ha27_6 hK
    rw [f_X0_fullestRipe_L27]
    refine j_iload (y := I_X0_fullestRipe) 7 dX0_fullestRipe_27 rfl ?_
    refine j_aload (y := I_X0_fullestRipe) 6 dX0_fullestRipe_29 rfl ?_
    refine j_callViT (y := I_X0_fullestRipe) (As := []) cv_0_138 ⟨Nat.le_of_ble_eq_true rfl, Nat.le_of_ble_eq_true rfl⟩ ha27_6 rfl (Nat.le_of_ble_eq_true rfl) dX0_fullestRipe_31 (c_X2_partCount l w a27_6 S ha27_6) ?_
    refine j_icmp_ge (y := I_X0_fullestRipe) 87 dX0_fullestRipe_34 (by decide) (fun h34 => ?_) (fun h34 => ?_)
    · refine j_sub [0, 1, 2, 3, 4, 5] rfl ?_
      exact hK a27_2 a27_3 a27_4 a27_5
    · refine j_aload (y := I_X0_fullestRipe) 6 dX0_fullestRipe_37 rfl ?_
      refine j_getR (y := I_X0_fullestRipe) (j := (a27_6 + 1)) fl_0_185 ha27_6 rfl rfl dX0_fullestRipe_39 ?_
      refine j_iload (y := I_X0_fullestRipe) 7 dX0_fullestRipe_42 rfl ?_
      refine j_iald (y := I_X0_fullestRipe) (kd_PlaceA ha27_6) dX0_fullestRipe_44 (fun h44 => ?_)
      refine j_iload (y := I_X0_fullestRipe) 4 dX0_fullestRipe_45 rfl ?_
      refine j_icmp_le (y := I_X0_fullestRipe) 81 dX0_fullestRipe_47 (by decide) (fun h47 => ?_) (fun h47 => ?_)
      · refine j_iinc (y := I_X0_fullestRipe) 7 (ls' := [(7, .int (a27_7 + (1 : Int32))), (0, .ref (w.2.1 + 1)), (1, .ref (w.2.1 + 96)), (2, .int a27_2), (3, .int a27_3), (4, .int a27_4), (5, .int a27_5), (6, .ref (w.2.1 + a27_6))]) dX0_fullestRipe_81 rfl (ii _ _ (by decide) _) (by decide) rfl ?_
        refine j_goto (y := I_X0_fullestRipe) 27 dX0_fullestRipe_84 (by decide) ?_
        refine j_sub [1, 2, 3, 4, 5, 6, 7, 0] rfl ?_
        exact ih a27_2 a27_3 a27_4 a27_5 a27_6 (a27_7 + (1 : Int32)) ha27_6 hK
      · refine j_aload_n (y := I_X0_fullestRipe) 0 dX0_fullestRipe_50 rfl rfl ?_
        refine j_aload_n (y := I_X0_fullestRipe) 1 dX0_fullestRipe_51 rfl rfl ?_
        refine j_aload (y := I_X0_fullestRipe) 6 dX0_fullestRipe_52 rfl ?_
        refine j_iload (y := I_X0_fullestRipe) 7 dX0_fullestRipe_54 rfl ?_
        refine j_iload_n (y := I_X0_fullestRipe) 2 dX0_fullestRipe_56 rfl rfl ?_
        refine j_callVzR (y := I_X0_fullestRipe) (As := [.ref (w.2.1 + 96), .ref (w.2.1 + a27_6), .int a27_7, .int a27_2]) cv_0_218 ⟨Nat.le_of_ble_eq_true rfl, Nat.le_of_ble_eq_true rfl⟩ k_1 rfl (Nat.le_of_ble_eq_true rfl) dX0_fullestRipe_57 (c_X0_isRipe l w a27_6 a27_7 a27_2 S ha27_6) (fun v57 h57 => ?_)
        refine j_if_eqB (y := I_X0_fullestRipe) 81 dX0_fullestRipe_60 (by decide) (fun h60 => ?_) (fun h60 => ?_)
        · refine j_iinc (y := I_X0_fullestRipe) 7 (ls' := [(7, .int (a27_7 + (1 : Int32))), (0, .ref (w.2.1 + 1)), (1, .ref (w.2.1 + 96)), (2, .int a27_2), (3, .int a27_3), (4, .int a27_4), (5, .int a27_5), (6, .ref (w.2.1 + a27_6))]) dX0_fullestRipe_81 rfl (ii _ _ (by decide) _) (by decide) rfl ?_
          refine j_goto (y := I_X0_fullestRipe) 27 dX0_fullestRipe_84 (by decide) ?_
          refine j_sub [1, 2, 3, 4, 5, 6, 7, 0] rfl ?_
          exact ih a27_2 a27_3 a27_4 a27_5 a27_6 (a27_7 + (1 : Int32)) ha27_6 hK
        · refine j_aload (y := I_X0_fullestRipe) 6 dX0_fullestRipe_63 rfl ?_
          refine j_getR (y := I_X0_fullestRipe) (j := (a27_6 + 1)) fl_0_185 ha27_6 rfl rfl dX0_fullestRipe_65 ?_
          refine j_iload (y := I_X0_fullestRipe) 7 dX0_fullestRipe_68 rfl ?_
          refine j_iald (y := I_X0_fullestRipe) (kd_PlaceA ha27_6) dX0_fullestRipe_70 (fun h70 => ?_)
          refine j_istore (y := I_X0_fullestRipe) (ls' := [(4, .int (rd S (a27_6 + 1) (ix a27_7))), (0, .ref (w.2.1 + 1)), (1, .ref (w.2.1 + 96)), (2, .int a27_2), (3, .int a27_3), (5, .int a27_5), (6, .ref (w.2.1 + a27_6)), (7, .int a27_7)]) dX0_fullestRipe_71 (by decide) rfl ?_
          refine j_iload (y := I_X0_fullestRipe) 5 dX0_fullestRipe_73 rfl ?_
          refine j_iconst (y := I_X0_fullestRipe) (v := 2) dX0_fullestRipe_75 (by decide) ?_
          refine j_imul (y := I_X0_fullestRipe) dX0_fullestRipe_76 ?_
          refine j_iload (y := I_X0_fullestRipe) 7 dX0_fullestRipe_77 rfl ?_
          refine j_iadd (y := I_X0_fullestRipe) dX0_fullestRipe_79 ?_
          refine j_istore_n (y := I_X0_fullestRipe) (ls' := [(3, .int ((a27_5 * (2 : Int32)) + a27_7)), (4, .int (rd S (a27_6 + 1) (ix a27_7))), (0, .ref (w.2.1 + 1)), (1, .ref (w.2.1 + 96)), (2, .int a27_2), (5, .int a27_5), (6, .ref (w.2.1 + a27_6)), (7, .int a27_7)]) dX0_fullestRipe_80 rfl (by decide) rfl ?_
          refine j_iinc (y := I_X0_fullestRipe) 7 (ls' := [(7, .int (a27_7 + (1 : Int32))), (3, .int ((a27_5 * (2 : Int32)) + a27_7)), (4, .int (rd S (a27_6 + 1) (ix a27_7))), (0, .ref (w.2.1 + 1)), (1, .ref (w.2.1 + 96)), (2, .int a27_2), (5, .int a27_5), (6, .ref (w.2.1 + a27_6))]) dX0_fullestRipe_81 rfl (ii _ _ (by decide) _) (by decide) rfl ?_
          refine j_goto (y := I_X0_fullestRipe) 27 dX0_fullestRipe_84 (by decide) ?_
          refine j_sub [3, 4, 5, 1, 2, 6, 7, 0] rfl ?_
          exact ih a27_2 ((a27_5 * (2 : Int32)) + a27_7) (rd S (a27_6 + 1) (ix a27_7)) a27_5 a27_6 (a27_7 + (1 : Int32)) ha27_6 hK
set_option maxRecDepth 100000 in
theorem jl_X0_fullestRipe_8 (l : Launch) (w : Wd) (S : St) (K : Int32 → Option (Int32)) (n : Nat) : ∀ (a8_2 : Int32) (a8_3 : Int32) (a8_4 : Int32) (a8_5 : Int32), (∀ (e93_3 : Int32) , J l w I_X0_fullestRipe 93 [(3, .int e93_3)] [] S (fun b => (some (.int b), S)) (K e93_3)) → J l w I_X0_fullestRipe 8 [(0, .ref (w.2.1 + 1)), (1, .ref (w.2.1 + 96)), (2, .int a8_2), (3, .int a8_3), (4, .int a8_4), (5, .int a8_5)] [] S (fun b => (some (.int b), S)) (f_X0_fullestRipe_L8 n K a8_2 a8_3 a8_4 a8_5 S) := by
  induction n with
  | zero =>
    intro a8_2 a8_3 a8_4 a8_5 hK b h
    simp only [f_X0_fullestRipe_L8] at h
    cases h
  | succ n ih =>
    intro a8_2 a8_3 a8_4 a8_5 hK
    rw [f_X0_fullestRipe_L8]
    refine j_iload (y := I_X0_fullestRipe) 5 dX0_fullestRipe_8 rfl ?_
    refine j_bipush (y := I_X0_fullestRipe) (v := 12) dX0_fullestRipe_10 (by decide) ?_
    refine j_icmp_ge (y := I_X0_fullestRipe) 93 dX0_fullestRipe_12 (by decide) (fun h12 => ?_) (fun h12 => ?_)
    · refine j_sub [3] rfl ?_
      exact hK a8_3
    · refine j_aload_n (y := I_X0_fullestRipe) 0 dX0_fullestRipe_15 rfl rfl ?_
      refine j_getR (y := I_X0_fullestRipe) (j := 3) fl_0_23 k_1 rfl rfl dX0_fullestRipe_16 ?_
      refine j_iload (y := I_X0_fullestRipe) 5 dX0_fullestRipe_19 rfl ?_
      refine j_aald (y := I_X0_fullestRipe) (j := (20 + 2 * ix a8_5)) (tt := 1) k_3 rfl (rho_3 _) dX0_fullestRipe_21 (fun h21 => ?_)
      refine j_astore (y := I_X0_fullestRipe) (ls' := [(6, .ref (w.2.1 + (20 + 2 * ix a8_5))), (0, .ref (w.2.1 + 1)), (1, .ref (w.2.1 + 96)), (2, .int a8_2), (3, .int a8_3), (4, .int a8_4), (5, .int a8_5)]) dX0_fullestRipe_22 (by decide) rfl ?_
      refine j_iconst (y := I_X0_fullestRipe) (v := 0) dX0_fullestRipe_24 (by decide) ?_
      refine j_istore (y := I_X0_fullestRipe) (ls' := [(7, .int (0 : Int32)), (6, .ref (w.2.1 + (20 + 2 * ix a8_5))), (0, .ref (w.2.1 + 1)), (1, .ref (w.2.1 + 96)), (2, .int a8_2), (3, .int a8_3), (4, .int a8_4), (5, .int a8_5)]) dX0_fullestRipe_25 (by decide) rfl ?_
      refine j_sub [2, 3, 4, 5, 6, 7, 1, 0] rfl ?_
      refine jl_X0_fullestRipe_27 l w S _ 6000 a8_2 a8_3 a8_4 a8_5 (20 + 2 * ix a8_5) (0 : Int32)  (kd_Pl _ (inb_lt h21)) (fun e87_2 e87_3 e87_4 e87_5 => ?_)
      refine j_iinc (y := I_X0_fullestRipe) 5 (ls' := [(5, .int (e87_5 + (1 : Int32))), (0, .ref (w.2.1 + 1)), (1, .ref (w.2.1 + 96)), (2, .int e87_2), (3, .int e87_3), (4, .int e87_4)]) dX0_fullestRipe_87 rfl (ii _ _ (by decide) _) (by decide) rfl ?_
      refine j_goto (y := I_X0_fullestRipe) 8 dX0_fullestRipe_90 (by decide) ?_
      refine j_sub [1, 2, 3, 4, 5, 0] rfl ?_
      exact ih e87_2 e87_3 e87_4 (e87_5 + (1 : Int32)) hK
set_option maxRecDepth 100000 in
set_option maxHeartbeats 4000000 in
theorem m_X0_fullestRipe (l : Launch) (w : Wd) (x2 : Int32) (S : St)  : J l w I_X0_fullestRipe 0 [(0, .ref (w.2.1 + 1)), (1, .ref (w.2.1 + 96)), (2, .int x2)] [] S (fun b => (some (.int b), S)) (f_X0_fullestRipe x2 S) := by
  unfold f_X0_fullestRipe
  refine j_iconst (y := I_X0_fullestRipe) (v := -1) dX0_fullestRipe_0 (by decide) ?_
  refine j_istore_n (y := I_X0_fullestRipe) (ls' := [(3, .int (-1 : Int32)), (0, .ref (w.2.1 + 1)), (1, .ref (w.2.1 + 96)), (2, .int x2)]) dX0_fullestRipe_1 rfl (by decide) rfl ?_
  refine j_iconst (y := I_X0_fullestRipe) (v := 0) dX0_fullestRipe_2 (by decide) ?_
  refine j_istore (y := I_X0_fullestRipe) (ls' := [(4, .int (0 : Int32)), (3, .int (-1 : Int32)), (0, .ref (w.2.1 + 1)), (1, .ref (w.2.1 + 96)), (2, .int x2)]) dX0_fullestRipe_3 (by decide) rfl ?_
  refine j_iconst (y := I_X0_fullestRipe) (v := 0) dX0_fullestRipe_5 (by decide) ?_
  refine j_istore (y := I_X0_fullestRipe) (ls' := [(5, .int (0 : Int32)), (4, .int (0 : Int32)), (3, .int (-1 : Int32)), (0, .ref (w.2.1 + 1)), (1, .ref (w.2.1 + 96)), (2, .int x2)]) dX0_fullestRipe_6 (by decide) rfl ?_
  refine j_sub [3, 4, 5, 2, 1, 0] rfl ?_
  refine jl_X0_fullestRipe_8 l w S _ 6000 x2 (-1 : Int32) (0 : Int32) (0 : Int32)   (fun e93_3 => ?_)
  refine j_iload_n (y := I_X0_fullestRipe) 0 dX0_fullestRipe_93 rfl rfl ?_
  exact j_iret (y := I_X0_fullestRipe) rfl dX0_fullestRipe_94 rfl
theorem c_X0_fullestRipe (l : Launch) (w : Wd) (x2 : Int32) (S : St)  : ∀ v, f_X0_fullestRipe x2 S = some v → CtS l w I_X0_fullestRipe [.ref (w.2.1 + 1), .ref (w.2.1 + 96), .int x2] S S (some (.int v)) := fun v h => J.ct (av := [.ref (w.2.1 + 1), .ref (w.2.1 + 96), .int x2]) (Nat.le_of_ble_eq_true rfl) pn_0 (m_X0_fullestRipe l w x2 S ) h
abbrev I_X0_pickFruits : MI := (yX0_pickFruits, cX0_pickFruits, 9, none, { frames := 3, cells := 0, slots := 0, locals := 76 })
theorem dX0_pickFruits_0 : decode cX0_pickFruits 0 = .ok (.aload_n 0, 1) := by decide +kernel
theorem dX0_pickFruits_1 : decode cX0_pickFruits 1 = .ok (.getfield 46, 3) := by decide +kernel
theorem dX0_pickFruits_4 : decode cX0_pickFruits 4 = .ok (.sipush 1000, 3) := by decide +kernel
theorem dX0_pickFruits_7 : decode cX0_pickFruits 7 = .ok (.aload_n 0, 1) := by decide +kernel
theorem dX0_pickFruits_8 : decode cX0_pickFruits 8 = .ok (.invokevirtual 207, 3) := by decide +kernel
theorem dX0_pickFruits_11 : decode cX0_pickFruits 11 = .ok (.isub, 1) := by decide +kernel
theorem dX0_pickFruits_12 : decode cX0_pickFruits 12 = .ok (.invokestatic 182, 3) := by decide +kernel
theorem dX0_pickFruits_15 : decode cX0_pickFruits 15 = .ok (.istore_n 3, 1) := by decide +kernel
theorem dX0_pickFruits_16 : decode cX0_pickFruits 16 = .ok (.iconst 0, 1) := by decide +kernel
theorem dX0_pickFruits_17 : decode cX0_pickFruits 17 = .ok (.istore 4, 2) := by decide +kernel
theorem dX0_pickFruits_19 : decode cX0_pickFruits 19 = .ok (.iload 4, 2) := by decide +kernel
theorem dX0_pickFruits_21 : decode cX0_pickFruits 21 = .ok (.bipush 24, 2) := by decide +kernel
theorem dX0_pickFruits_23 : decode cX0_pickFruits 23 = .ok (.if_icmp .ge 109, 3) := by decide +kernel
theorem dX0_pickFruits_26 : decode cX0_pickFruits 26 = .ok (.iload_n 3, 1) := by decide +kernel
theorem dX0_pickFruits_27 : decode cX0_pickFruits 27 = .ok (.ifCond .le 105, 3) := by decide +kernel
theorem dX0_pickFruits_30 : decode cX0_pickFruits 30 = .ok (.aload_n 0, 1) := by decide +kernel
theorem dX0_pickFruits_31 : decode cX0_pickFruits 31 = .ok (.aload_n 1, 1) := by decide +kernel
theorem dX0_pickFruits_32 : decode cX0_pickFruits 32 = .ok (.iload_n 2, 1) := by decide +kernel
theorem dX0_pickFruits_33 : decode cX0_pickFruits 33 = .ok (.invokevirtual 210, 3) := by decide +kernel
theorem dX0_pickFruits_36 : decode cX0_pickFruits 36 = .ok (.istore 5, 2) := by decide +kernel
theorem dX0_pickFruits_38 : decode cX0_pickFruits 38 = .ok (.iload 5, 2) := by decide +kernel
theorem dX0_pickFruits_40 : decode cX0_pickFruits 40 = .ok (.ifCond .ge 4, 3) := by decide +kernel
theorem dX0_pickFruits_43 : decode cX0_pickFruits 43 = .ok (.return_, 1) := by decide +kernel
theorem dX0_pickFruits_44 : decode cX0_pickFruits 44 = .ok (.aload_n 0, 1) := by decide +kernel
theorem dX0_pickFruits_45 : decode cX0_pickFruits 45 = .ok (.getfield 23, 3) := by decide +kernel
theorem dX0_pickFruits_48 : decode cX0_pickFruits 48 = .ok (.iload 5, 2) := by decide +kernel
theorem dX0_pickFruits_50 : decode cX0_pickFruits 50 = .ok (.iconst 2, 1) := by decide +kernel
theorem dX0_pickFruits_51 : decode cX0_pickFruits 51 = .ok (.idiv, 1) := by decide +kernel
theorem dX0_pickFruits_52 : decode cX0_pickFruits 52 = .ok (.aaload, 1) := by decide +kernel
theorem dX0_pickFruits_53 : decode cX0_pickFruits 53 = .ok (.astore 6, 2) := by decide +kernel
theorem dX0_pickFruits_55 : decode cX0_pickFruits 55 = .ok (.iload 5, 2) := by decide +kernel
theorem dX0_pickFruits_57 : decode cX0_pickFruits 57 = .ok (.iconst 2, 1) := by decide +kernel
theorem dX0_pickFruits_58 : decode cX0_pickFruits 58 = .ok (.irem, 1) := by decide +kernel
theorem dX0_pickFruits_59 : decode cX0_pickFruits 59 = .ok (.istore 7, 2) := by decide +kernel
theorem dX0_pickFruits_61 : decode cX0_pickFruits 61 = .ok (.iload_n 3, 1) := by decide +kernel
theorem dX0_pickFruits_62 : decode cX0_pickFruits 62 = .ok (.aload 6, 2) := by decide +kernel
theorem dX0_pickFruits_64 : decode cX0_pickFruits 64 = .ok (.getfield 185, 3) := by decide +kernel
theorem dX0_pickFruits_67 : decode cX0_pickFruits 67 = .ok (.iload 7, 2) := by decide +kernel
theorem dX0_pickFruits_69 : decode cX0_pickFruits 69 = .ok (.iaload, 1) := by decide +kernel
theorem dX0_pickFruits_70 : decode cX0_pickFruits 70 = .ok (.invokestatic 182, 3) := by decide +kernel
theorem dX0_pickFruits_73 : decode cX0_pickFruits 73 = .ok (.istore 8, 2) := by decide +kernel
theorem dX0_pickFruits_75 : decode cX0_pickFruits 75 = .ok (.aload 6, 2) := by decide +kernel
theorem dX0_pickFruits_77 : decode cX0_pickFruits 77 = .ok (.getfield 185, 3) := by decide +kernel
theorem dX0_pickFruits_80 : decode cX0_pickFruits 80 = .ok (.iload 7, 2) := by decide +kernel
theorem dX0_pickFruits_82 : decode cX0_pickFruits 82 = .ok (.dup2, 1) := by decide +kernel
theorem dX0_pickFruits_83 : decode cX0_pickFruits 83 = .ok (.iaload, 1) := by decide +kernel
theorem dX0_pickFruits_84 : decode cX0_pickFruits 84 = .ok (.iload 8, 2) := by decide +kernel
theorem dX0_pickFruits_86 : decode cX0_pickFruits 86 = .ok (.isub, 1) := by decide +kernel
theorem dX0_pickFruits_87 : decode cX0_pickFruits 87 = .ok (.iastore, 1) := by decide +kernel
theorem dX0_pickFruits_88 : decode cX0_pickFruits 88 = .ok (.aload_n 0, 1) := by decide +kernel
theorem dX0_pickFruits_89 : decode cX0_pickFruits 89 = .ok (.getfield 11, 3) := by decide +kernel
theorem dX0_pickFruits_92 : decode cX0_pickFruits 92 = .ok (.aload 6, 2) := by decide +kernel
theorem dX0_pickFruits_94 : decode cX0_pickFruits 94 = .ok (.iload 7, 2) := by decide +kernel
theorem dX0_pickFruits_96 : decode cX0_pickFruits 96 = .ok (.invokevirtual 125, 3) := by decide +kernel
theorem dX0_pickFruits_99 : decode cX0_pickFruits 99 = .ok (.aaload, 1) := by decide +kernel
theorem dX0_pickFruits_100 : decode cX0_pickFruits 100 = .ok (.iload 8, 2) := by decide +kernel
theorem dX0_pickFruits_102 : decode cX0_pickFruits 102 = .ok (.aload_n 0, 1) := by decide +kernel
theorem dX0_pickFruits_103 : decode cX0_pickFruits 103 = .ok (.getfield 52, 3) := by decide +kernel
theorem dX0_pickFruits_106 : decode cX0_pickFruits 106 = .ok (.invokevirtual 214, 3) := by decide +kernel
theorem dX0_pickFruits_109 : decode cX0_pickFruits 109 = .ok (.aload_n 0, 1) := by decide +kernel
theorem dX0_pickFruits_110 : decode cX0_pickFruits 110 = .ok (.getfield 55, 3) := by decide +kernel
theorem dX0_pickFruits_113 : decode cX0_pickFruits 113 = .ok (.iconst 2, 1) := by decide +kernel
theorem dX0_pickFruits_114 : decode cX0_pickFruits 114 = .ok (.dup2, 1) := by decide +kernel
theorem dX0_pickFruits_115 : decode cX0_pickFruits 115 = .ok (.laload, 1) := by decide +kernel
theorem dX0_pickFruits_116 : decode cX0_pickFruits 116 = .ok (.iload 8, 2) := by decide +kernel
theorem dX0_pickFruits_118 : decode cX0_pickFruits 118 = .ok (.i2l, 1) := by decide +kernel
theorem dX0_pickFruits_119 : decode cX0_pickFruits 119 = .ok (.ladd, 1) := by decide +kernel
theorem dX0_pickFruits_120 : decode cX0_pickFruits 120 = .ok (.lastore, 1) := by decide +kernel
theorem dX0_pickFruits_121 : decode cX0_pickFruits 121 = .ok (.iload_n 3, 1) := by decide +kernel
theorem dX0_pickFruits_122 : decode cX0_pickFruits 122 = .ok (.iload 8, 2) := by decide +kernel
theorem dX0_pickFruits_124 : decode cX0_pickFruits 124 = .ok (.isub, 1) := by decide +kernel
theorem dX0_pickFruits_125 : decode cX0_pickFruits 125 = .ok (.istore_n 3, 1) := by decide +kernel
theorem dX0_pickFruits_126 : decode cX0_pickFruits 126 = .ok (.iinc 4 1, 3) := by decide +kernel
theorem dX0_pickFruits_129 : decode cX0_pickFruits 129 = .ok (.goto (-110), 3) := by decide +kernel
theorem dX0_pickFruits_132 : decode cX0_pickFruits 132 = .ok (.return_, 1) := by decide +kernel
theorem cv_0_207 : CV RX0 207 0 0 I_X0_fruitsInStore := ⟨⟨⟨gm 623 (by decide +kernel) rfl, gm 626 (by decide +kernel) rfl, gm 38 (by decide +kernel) rfl, mh_0.1, mh_0.2, by decide +kernel⟩, gm 624 (by decide +kernel) rfl, gm 625 (by decide +kernel) rfl⟩, ⟨_, _, rfl⟩, rfl, rfl⟩
theorem cv_0_210 : CV RX0 210 2 0 I_X0_fullestRipe := ⟨⟨⟨gm 627 (by decide +kernel) rfl, gm 630 (by decide +kernel) rfl, gm 38 (by decide +kernel) rfl, mh_0.1, mh_0.2, by decide +kernel⟩, gm 628 (by decide +kernel) rfl, gm 629 (by decide +kernel) rfl⟩, ⟨_, _, rfl⟩, rfl, rfl⟩
theorem cv_0_214 : CV RX0 214 2 5 I_X5_bring := ⟨⟨⟨gm 639 (by decide +kernel) rfl, gm 642 (by decide +kernel) rfl, gm 39 (by decide +kernel) rfl, mh_5.1, mh_5.2, by decide +kernel⟩, gm 640 (by decide +kernel) rfl, gm 641 (by decide +kernel) rfl⟩, ⟨_, _, rfl⟩, rfl, rfl⟩
def f_X0_pickFruits_L19 (fuel : Nat) (K : St → Option (St)) (a19_2 : Int32) (a19_3 : Int32) (a19_4 : Int32) (S19 : St) : Option (St) := match fuel with
  | 0 => none
  | n + 1 => if a19_4 < (24 : Int32) then (if 0 < a19_3 then ((f_X0_fullestRipe a19_2 S19).bind fun v33 => (if v33 < 0 then (some S19) else (if inb (v33 / (2 : Int32)) 12 = true then (if inb (v33 - v33 / (2 : Int32) * (2 : Int32)) 2 = true then (if inb (v33 - v33 / (2 : Int32) * (2 : Int32)) 2 = true then (if inb (v33 - v33 / (2 : Int32) * (2 : Int32)) 2 = true then (if inb (f_X2_sortOf (20 + 2 * ix (v33 / (2 : Int32))) (v33 - v33 / (2 : Int32) * (2 : Int32)) (wr S19 ((20 + 2 * ix (v33 / (2 : Int32))) + 1) (ix (v33 - v33 / (2 : Int32) * (2 : Int32))) ((rd S19 ((20 + 2 * ix (v33 / (2 : Int32))) + 1) (ix (v33 - v33 / (2 : Int32) * (2 : Int32)))) - (mnI a19_3 (rd S19 ((20 + 2 * ix (v33 / (2 : Int32))) + 1) (ix (v33 - v33 / (2 : Int32) * (2 : Int32)))))))) 6 = true then ((f_X5_bring (8 + 2 * ix (f_X2_sortOf (20 + 2 * ix (v33 / (2 : Int32))) (v33 - v33 / (2 : Int32) * (2 : Int32)) (wr S19 ((20 + 2 * ix (v33 / (2 : Int32))) + 1) (ix (v33 - v33 / (2 : Int32) * (2 : Int32))) ((rd S19 ((20 + 2 * ix (v33 / (2 : Int32))) + 1) (ix (v33 - v33 / (2 : Int32) * (2 : Int32)))) - (mnI a19_3 (rd S19 ((20 + 2 * ix (v33 / (2 : Int32))) + 1) (ix (v33 - v33 / (2 : Int32) * (2 : Int32))))))))) (mnI a19_3 (rd S19 ((20 + 2 * ix (v33 / (2 : Int32))) + 1) (ix (v33 - v33 / (2 : Int32) * (2 : Int32))))) (rd (wr S19 ((20 + 2 * ix (v33 / (2 : Int32))) + 1) (ix (v33 - v33 / (2 : Int32) * (2 : Int32))) ((rd S19 ((20 + 2 * ix (v33 / (2 : Int32))) + 1) (ix (v33 - v33 / (2 : Int32) * (2 : Int32)))) - (mnI a19_3 (rd S19 ((20 + 2 * ix (v33 / (2 : Int32))) + 1) (ix (v33 - v33 / (2 : Int32) * (2 : Int32))))))) 1 11) (wr S19 ((20 + 2 * ix (v33 / (2 : Int32))) + 1) (ix (v33 - v33 / (2 : Int32) * (2 : Int32))) ((rd S19 ((20 + 2 * ix (v33 / (2 : Int32))) + 1) (ix (v33 - v33 / (2 : Int32) * (2 : Int32)))) - (mnI a19_3 (rd S19 ((20 + 2 * ix (v33 / (2 : Int32))) + 1) (ix (v33 - v33 / (2 : Int32) * (2 : Int32)))))))).bind fun v106 => (f_X0_pickFruits_L19 n K a19_2 (a19_3 - (mnI a19_3 (rd S19 ((20 + 2 * ix (v33 / (2 : Int32))) + 1) (ix (v33 - v33 / (2 : Int32) * (2 : Int32)))))) (a19_4 + (1 : Int32)) (wrL v106 7 (ix (2 : Int32)) ((rdL v106 7 (ix (2 : Int32))) + ((mnI a19_3 (rd S19 ((20 + 2 * ix (v33 / (2 : Int32))) + 1) (ix (v33 - v33 / (2 : Int32) * (2 : Int32))))).toInt64))))) else none) else none) else none) else none) else none))) else (K S19)) else (K S19)
def f_X0_pickFruits (x2 : Int32) (S : St) : Option (St) := (f_X0_fruitsInStore S).bind fun v8 => (f_X0_pickFruits_L19 6000 (fun T132 => (some T132)) x2 (mnI (rd S 1 9) ((1000 : Int32) - v8)) (0 : Int32) S)
set_option maxRecDepth 100000 in
theorem jl_X0_pickFruits_19 (l : Launch) (w : Wd) (K : St → Option (St)) (n : Nat) : ∀ (a19_2 : Int32) (a19_3 : Int32) (a19_4 : Int32) (S19 : St), (∀  (S' : St) , J l w I_X0_pickFruits 132 [] [] S' (fun b => (none, b)) (K  S')) → J l w I_X0_pickFruits 19 [(0, .ref (w.2.1 + 1)), (1, .ref (w.2.1 + 96)), (2, .int a19_2), (3, .int a19_3), (4, .int a19_4)] [] S19 (fun b => (none, b)) (f_X0_pickFruits_L19 n K a19_2 a19_3 a19_4 S19) := by
  induction n with
  | zero =>
    intro a19_2 a19_3 a19_4 S19 hK b h
    simp only [f_X0_pickFruits_L19] at h
    cases h
  | succ n ih =>
    intro a19_2 a19_3 a19_4 S19 hK
    rw [f_X0_pickFruits_L19]
    refine j_iload (y := I_X0_pickFruits) 4 dX0_pickFruits_19 rfl ?_
    refine j_bipush (y := I_X0_pickFruits) (v := 24) dX0_pickFruits_21 (by decide) ?_
    refine j_icmp_ge (y := I_X0_pickFruits) 132 dX0_pickFruits_23 (by decide) (fun h23 => ?_) (fun h23 => ?_)
    · refine j_sub [] rfl ?_
      exact hK S19
    · refine j_iload_n (y := I_X0_pickFruits) 3 dX0_pickFruits_26 rfl rfl ?_
      refine j_if_le (y := I_X0_pickFruits) 132 dX0_pickFruits_27 (by decide) (fun h27 => ?_) (fun h27 => ?_)
      · refine j_sub [] rfl ?_
        exact hK S19
      · refine j_aload_n (y := I_X0_pickFruits) 0 dX0_pickFruits_30 rfl rfl ?_
        refine j_aload_n (y := I_X0_pickFruits) 1 dX0_pickFruits_31 rfl rfl ?_
        refine j_iload_n (y := I_X0_pickFruits) 2 dX0_pickFruits_32 rfl rfl ?_
        refine j_callViR (y := I_X0_pickFruits) (As := [.ref (w.2.1 + 96), .int a19_2]) cv_0_210 ⟨Nat.le_of_ble_eq_true rfl, Nat.le_of_ble_eq_true rfl⟩ k_1 rfl (Nat.le_of_ble_eq_true rfl) dX0_pickFruits_33 (c_X0_fullestRipe l w a19_2 S19) (fun v33 h33 => ?_)
        refine j_istore (y := I_X0_pickFruits) (ls' := [(5, .int v33), (0, .ref (w.2.1 + 1)), (1, .ref (w.2.1 + 96)), (2, .int a19_2), (3, .int a19_3), (4, .int a19_4)]) dX0_pickFruits_36 (by decide) rfl ?_
        refine j_iload (y := I_X0_pickFruits) 0 dX0_pickFruits_38 rfl ?_
        refine j_if_ge (y := I_X0_pickFruits) 44 dX0_pickFruits_40 (by decide) (fun h40 => ?_) (fun h40 => ?_)
        · refine j_aload_n (y := I_X0_pickFruits) 1 dX0_pickFruits_44 rfl rfl ?_
          refine j_getR (y := I_X0_pickFruits) (j := 3) fl_0_23 k_1 rfl rfl dX0_pickFruits_45 ?_
          refine j_iload (y := I_X0_pickFruits) 0 dX0_pickFruits_48 rfl ?_
          refine j_iconst (y := I_X0_pickFruits) (v := 2) dX0_pickFruits_50 (by decide) ?_
          refine j_idivL (y := I_X0_pickFruits) dX0_pickFruits_51 (by decide) ?_
          refine j_aald (y := I_X0_pickFruits) (j := (20 + 2 * ix (v33 / (2 : Int32)))) (tt := 1) k_3 rfl (rho_3 _) dX0_pickFruits_52 (fun h52 => ?_)
          refine j_astore (y := I_X0_pickFruits) (ls' := [(6, .ref (w.2.1 + (20 + 2 * ix (v33 / (2 : Int32))))), (5, .int v33), (0, .ref (w.2.1 + 1)), (1, .ref (w.2.1 + 96)), (2, .int a19_2), (3, .int a19_3), (4, .int a19_4)]) dX0_pickFruits_53 (by decide) rfl ?_
          refine j_iload (y := I_X0_pickFruits) 1 dX0_pickFruits_55 rfl ?_
          refine j_iconst (y := I_X0_pickFruits) (v := 2) dX0_pickFruits_57 (by decide) ?_
          refine j_iremL (y := I_X0_pickFruits) dX0_pickFruits_58 (by decide) ?_
          refine j_istore (y := I_X0_pickFruits) (ls' := [(7, .int (v33 - v33 / (2 : Int32) * (2 : Int32))), (6, .ref (w.2.1 + (20 + 2 * ix (v33 / (2 : Int32))))), (5, .int v33), (0, .ref (w.2.1 + 1)), (1, .ref (w.2.1 + 96)), (2, .int a19_2), (3, .int a19_3), (4, .int a19_4)]) dX0_pickFruits_59 (by decide) rfl ?_
          refine j_iload_n (y := I_X0_pickFruits) 6 dX0_pickFruits_61 rfl rfl ?_
          refine j_aload (y := I_X0_pickFruits) 1 dX0_pickFruits_62 rfl ?_
          refine j_getR (y := I_X0_pickFruits) (j := ((20 + 2 * ix (v33 / (2 : Int32))) + 1)) fl_0_185 (kd_Pl _ (inb_lt h52)) rfl rfl dX0_pickFruits_64 ?_
          refine j_iload (y := I_X0_pickFruits) 0 dX0_pickFruits_67 rfl ?_
          refine j_iald (y := I_X0_pickFruits) (kd_PlaceA (kd_Pl _ (inb_lt h52))) dX0_pickFruits_69 (fun h69 => ?_)
          refine j_mmin (y := I_X0_pickFruits) (gm 618 (by decide +kernel) rfl) (Nat.le_of_ble_eq_true rfl) (Nat.le_of_ble_eq_true rfl) dX0_pickFruits_70 ?_
          refine j_istore (y := I_X0_pickFruits) (ls' := [(8, .int (mnI a19_3 (rd S19 ((20 + 2 * ix (v33 / (2 : Int32))) + 1) (ix (v33 - v33 / (2 : Int32) * (2 : Int32)))))), (7, .int (v33 - v33 / (2 : Int32) * (2 : Int32))), (6, .ref (w.2.1 + (20 + 2 * ix (v33 / (2 : Int32))))), (5, .int v33), (0, .ref (w.2.1 + 1)), (1, .ref (w.2.1 + 96)), (2, .int a19_2), (3, .int a19_3), (4, .int a19_4)]) dX0_pickFruits_73 (by decide) rfl ?_
          refine j_aload (y := I_X0_pickFruits) 2 dX0_pickFruits_75 rfl ?_
          refine j_getR (y := I_X0_pickFruits) (j := ((20 + 2 * ix (v33 / (2 : Int32))) + 1)) fl_0_185 (kd_Pl _ (inb_lt h52)) rfl rfl dX0_pickFruits_77 ?_
          refine j_iload (y := I_X0_pickFruits) 1 dX0_pickFruits_80 rfl ?_
          refine j_dup2 (y := I_X0_pickFruits) dX0_pickFruits_82 rfl rfl ?_
          refine j_iald (y := I_X0_pickFruits) (kd_PlaceA (kd_Pl _ (inb_lt h52))) dX0_pickFruits_83 (fun h83 => ?_)
          refine j_iload (y := I_X0_pickFruits) 0 dX0_pickFruits_84 rfl ?_
          refine j_isub (y := I_X0_pickFruits) dX0_pickFruits_86 ?_
          refine j_iast (y := I_X0_pickFruits) (kd_PlaceA (kd_Pl _ (inb_lt h52))) dX0_pickFruits_87 (fun h87 => ?_)
          refine j_aload_n (y := I_X0_pickFruits) 4 dX0_pickFruits_88 rfl rfl ?_
          refine j_getR (y := I_X0_pickFruits) (j := 2) fl_0_11 k_1 rfl rfl dX0_pickFruits_89 ?_
          refine j_aload (y := I_X0_pickFruits) 2 dX0_pickFruits_92 rfl ?_
          refine j_iload (y := I_X0_pickFruits) 1 dX0_pickFruits_94 rfl ?_
          refine j_callViT (y := I_X0_pickFruits) (As := [.int (v33 - v33 / (2 : Int32) * (2 : Int32))]) cv_0_125 ⟨Nat.le_of_ble_eq_true rfl, Nat.le_of_ble_eq_true rfl⟩ (kd_Pl _ (inb_lt h52)) rfl (Nat.le_of_ble_eq_true rfl) dX0_pickFruits_96 (c_X2_sortOf l w (20 + 2 * ix (v33 / (2 : Int32))) (v33 - v33 / (2 : Int32) * (2 : Int32)) (wr S19 ((20 + 2 * ix (v33 / (2 : Int32))) + 1) (ix (v33 - v33 / (2 : Int32) * (2 : Int32))) ((rd S19 ((20 + 2 * ix (v33 / (2 : Int32))) + 1) (ix (v33 - v33 / (2 : Int32) * (2 : Int32)))) - (mnI a19_3 (rd S19 ((20 + 2 * ix (v33 / (2 : Int32))) + 1) (ix (v33 - v33 / (2 : Int32) * (2 : Int32))))))) (kd_Pl _ (inb_lt h52))) ?_
          refine j_aald (y := I_X0_pickFruits) (j := (8 + 2 * ix (f_X2_sortOf (20 + 2 * ix (v33 / (2 : Int32))) (v33 - v33 / (2 : Int32) * (2 : Int32)) (wr S19 ((20 + 2 * ix (v33 / (2 : Int32))) + 1) (ix (v33 - v33 / (2 : Int32) * (2 : Int32))) ((rd S19 ((20 + 2 * ix (v33 / (2 : Int32))) + 1) (ix (v33 - v33 / (2 : Int32) * (2 : Int32)))) - (mnI a19_3 (rd S19 ((20 + 2 * ix (v33 / (2 : Int32))) + 1) (ix (v33 - v33 / (2 : Int32) * (2 : Int32)))))))))) (tt := 0) k_2 rfl (rho_2 _) dX0_pickFruits_99 (fun h99 => ?_)
          refine j_iload (y := I_X0_pickFruits) 0 dX0_pickFruits_100 rfl ?_
          refine j_aload_n (y := I_X0_pickFruits) 4 dX0_pickFruits_102 rfl rfl ?_
          refine j_getI (y := I_X0_pickFruits) fl_0_52 k_1 rfl dX0_pickFruits_103 ?_
          refine j_callVvS (y := I_X0_pickFruits) (As := [.int (mnI a19_3 (rd S19 ((20 + 2 * ix (v33 / (2 : Int32))) + 1) (ix (v33 - v33 / (2 : Int32) * (2 : Int32))))), .int (rd (wr S19 ((20 + 2 * ix (v33 / (2 : Int32))) + 1) (ix (v33 - v33 / (2 : Int32) * (2 : Int32))) ((rd S19 ((20 + 2 * ix (v33 / (2 : Int32))) + 1) (ix (v33 - v33 / (2 : Int32) * (2 : Int32)))) - (mnI a19_3 (rd S19 ((20 + 2 * ix (v33 / (2 : Int32))) + 1) (ix (v33 - v33 / (2 : Int32) * (2 : Int32))))))) 1 11)]) cv_0_214 ⟨Nat.le_of_ble_eq_true rfl, Nat.le_of_ble_eq_true rfl⟩ (kd_So _ (inb_lt h99)) rfl (Nat.le_of_ble_eq_true rfl) dX0_pickFruits_106 (c_X5_bring l w (8 + 2 * ix (f_X2_sortOf (20 + 2 * ix (v33 / (2 : Int32))) (v33 - v33 / (2 : Int32) * (2 : Int32)) (wr S19 ((20 + 2 * ix (v33 / (2 : Int32))) + 1) (ix (v33 - v33 / (2 : Int32) * (2 : Int32))) ((rd S19 ((20 + 2 * ix (v33 / (2 : Int32))) + 1) (ix (v33 - v33 / (2 : Int32) * (2 : Int32)))) - (mnI a19_3 (rd S19 ((20 + 2 * ix (v33 / (2 : Int32))) + 1) (ix (v33 - v33 / (2 : Int32) * (2 : Int32))))))))) (mnI a19_3 (rd S19 ((20 + 2 * ix (v33 / (2 : Int32))) + 1) (ix (v33 - v33 / (2 : Int32) * (2 : Int32))))) (rd (wr S19 ((20 + 2 * ix (v33 / (2 : Int32))) + 1) (ix (v33 - v33 / (2 : Int32) * (2 : Int32))) ((rd S19 ((20 + 2 * ix (v33 / (2 : Int32))) + 1) (ix (v33 - v33 / (2 : Int32) * (2 : Int32)))) - (mnI a19_3 (rd S19 ((20 + 2 * ix (v33 / (2 : Int32))) + 1) (ix (v33 - v33 / (2 : Int32) * (2 : Int32))))))) 1 11) (wr S19 ((20 + 2 * ix (v33 / (2 : Int32))) + 1) (ix (v33 - v33 / (2 : Int32) * (2 : Int32))) ((rd S19 ((20 + 2 * ix (v33 / (2 : Int32))) + 1) (ix (v33 - v33 / (2 : Int32) * (2 : Int32)))) - (mnI a19_3 (rd S19 ((20 + 2 * ix (v33 / (2 : Int32))) + 1) (ix (v33 - v33 / (2 : Int32) * (2 : Int32))))))) (kd_So _ (inb_lt h99))) (fun v106 h106 => ?_)
          refine j_aload_n (y := I_X0_pickFruits) 4 dX0_pickFruits_109 rfl rfl ?_
          refine j_getR (y := I_X0_pickFruits) (j := 7) fl_0_55 k_1 rfl rfl dX0_pickFruits_110 ?_
          refine j_iconst (y := I_X0_pickFruits) (v := 2) dX0_pickFruits_113 (by decide) ?_
          refine j_dup2 (y := I_X0_pickFruits) dX0_pickFruits_114 rfl rfl ?_
          refine j_laldL (y := I_X0_pickFruits) k_7 (by decide) dX0_pickFruits_115 ?_
          refine j_iload (y := I_X0_pickFruits) 0 dX0_pickFruits_116 rfl ?_
          refine j_i2l (y := I_X0_pickFruits) dX0_pickFruits_118 ?_
          refine j_ladd (y := I_X0_pickFruits) dX0_pickFruits_119 ?_
          refine j_lastL (y := I_X0_pickFruits) k_7 (by decide) dX0_pickFruits_120 ?_
          refine j_iload_n (y := I_X0_pickFruits) 7 dX0_pickFruits_121 rfl rfl ?_
          refine j_iload (y := I_X0_pickFruits) 0 dX0_pickFruits_122 rfl ?_
          refine j_isub (y := I_X0_pickFruits) dX0_pickFruits_124 ?_
          refine j_istore_n (y := I_X0_pickFruits) (ls' := [(3, .int (a19_3 - (mnI a19_3 (rd S19 ((20 + 2 * ix (v33 / (2 : Int32))) + 1) (ix (v33 - v33 / (2 : Int32) * (2 : Int32))))))), (8, .int (mnI a19_3 (rd S19 ((20 + 2 * ix (v33 / (2 : Int32))) + 1) (ix (v33 - v33 / (2 : Int32) * (2 : Int32)))))), (7, .int (v33 - v33 / (2 : Int32) * (2 : Int32))), (6, .ref (w.2.1 + (20 + 2 * ix (v33 / (2 : Int32))))), (5, .int v33), (0, .ref (w.2.1 + 1)), (1, .ref (w.2.1 + 96)), (2, .int a19_2), (4, .int a19_4)]) dX0_pickFruits_125 rfl (by decide) rfl ?_
          refine j_iinc (y := I_X0_pickFruits) 8 (ls' := [(4, .int (a19_4 + (1 : Int32))), (3, .int (a19_3 - (mnI a19_3 (rd S19 ((20 + 2 * ix (v33 / (2 : Int32))) + 1) (ix (v33 - v33 / (2 : Int32) * (2 : Int32))))))), (8, .int (mnI a19_3 (rd S19 ((20 + 2 * ix (v33 / (2 : Int32))) + 1) (ix (v33 - v33 / (2 : Int32) * (2 : Int32)))))), (7, .int (v33 - v33 / (2 : Int32) * (2 : Int32))), (6, .ref (w.2.1 + (20 + 2 * ix (v33 / (2 : Int32))))), (5, .int v33), (0, .ref (w.2.1 + 1)), (1, .ref (w.2.1 + 96)), (2, .int a19_2)]) dX0_pickFruits_126 rfl (ii _ _ (by decide) _) (by decide) rfl ?_
          refine j_goto (y := I_X0_pickFruits) 19 dX0_pickFruits_129 (by decide) ?_
          refine j_sub [6, 7, 8, 1, 0] rfl ?_
          exact ih a19_2 (a19_3 - (mnI a19_3 (rd S19 ((20 + 2 * ix (v33 / (2 : Int32))) + 1) (ix (v33 - v33 / (2 : Int32) * (2 : Int32)))))) (a19_4 + (1 : Int32)) (wrL v106 7 (ix (2 : Int32)) ((rdL v106 7 (ix (2 : Int32))) + ((mnI a19_3 (rd S19 ((20 + 2 * ix (v33 / (2 : Int32))) + 1) (ix (v33 - v33 / (2 : Int32) * (2 : Int32))))).toInt64))) hK
        · exact j_vret (y := I_X0_pickFruits) rfl dX0_pickFruits_43 rfl
set_option maxRecDepth 100000 in
set_option maxHeartbeats 4000000 in
theorem m_X0_pickFruits (l : Launch) (w : Wd) (x2 : Int32) (S : St)  : J l w I_X0_pickFruits 0 [(0, .ref (w.2.1 + 1)), (1, .ref (w.2.1 + 96)), (2, .int x2)] [] S (fun b => (none, b)) (f_X0_pickFruits x2 S) := by
  unfold f_X0_pickFruits
  refine j_aload_n (y := I_X0_pickFruits) 0 dX0_pickFruits_0 rfl rfl ?_
  refine j_getI (y := I_X0_pickFruits) fl_0_46 k_1 rfl dX0_pickFruits_1 ?_
  refine j_sipush (y := I_X0_pickFruits) (v := 1000) dX0_pickFruits_4 (by decide) ?_
  refine j_aload_n (y := I_X0_pickFruits) 0 dX0_pickFruits_7 rfl rfl ?_
  refine j_callViR (y := I_X0_pickFruits) (As := []) cv_0_207 ⟨Nat.le_of_ble_eq_true rfl, Nat.le_of_ble_eq_true rfl⟩ k_1 rfl (Nat.le_of_ble_eq_true rfl) dX0_pickFruits_8 (c_X0_fruitsInStore l w S) (fun v8 h8 => ?_)
  refine j_isub (y := I_X0_pickFruits) dX0_pickFruits_11 ?_
  refine j_mmin (y := I_X0_pickFruits) (gm 618 (by decide +kernel) rfl) (Nat.le_of_ble_eq_true rfl) (Nat.le_of_ble_eq_true rfl) dX0_pickFruits_12 ?_
  refine j_istore_n (y := I_X0_pickFruits) (ls' := [(3, .int (mnI (rd S 1 9) ((1000 : Int32) - v8))), (0, .ref (w.2.1 + 1)), (1, .ref (w.2.1 + 96)), (2, .int x2)]) dX0_pickFruits_15 rfl (by decide) rfl ?_
  refine j_iconst (y := I_X0_pickFruits) (v := 0) dX0_pickFruits_16 (by decide) ?_
  refine j_istore (y := I_X0_pickFruits) (ls' := [(4, .int (0 : Int32)), (3, .int (mnI (rd S 1 9) ((1000 : Int32) - v8))), (0, .ref (w.2.1 + 1)), (1, .ref (w.2.1 + 96)), (2, .int x2)]) dX0_pickFruits_17 (by decide) rfl ?_
  refine j_sub [2, 3, 4, 1, 0] rfl ?_
  refine jl_X0_pickFruits_19 l w _ 6000 x2 (mnI (rd S 1 9) ((1000 : Int32) - v8)) (0 : Int32) S  (fun T132 => ?_)
  exact j_vret (y := I_X0_pickFruits) rfl dX0_pickFruits_132 rfl
theorem c_X0_pickFruits (l : Launch) (w : Wd) (x2 : Int32) (S : St)  : ∀ v, f_X0_pickFruits x2 S = some v → CtS l w I_X0_pickFruits [.ref (w.2.1 + 1), .ref (w.2.1 + 96), .int x2] S v none := fun v h => J.ct (av := [.ref (w.2.1 + 1), .ref (w.2.1 + 96), .int x2]) (Nat.le_of_ble_eq_true rfl) pn_0 (m_X0_pickFruits l w x2 S ) h
abbrev I_X0_dropFruits : MI := (yX0_dropFruits, cX0_dropFruits, 7, none, { frames := 2, cells := 0, slots := 0, locals := 49 })
theorem dX0_dropFruits_0 : decode cX0_dropFruits 0 = .ok (.iconst 0, 1) := by decide +kernel
theorem dX0_dropFruits_1 : decode cX0_dropFruits 1 = .ok (.istore_n 3, 1) := by decide +kernel
theorem dX0_dropFruits_2 : decode cX0_dropFruits 2 = .ok (.iload_n 3, 1) := by decide +kernel
theorem dX0_dropFruits_3 : decode cX0_dropFruits 3 = .ok (.bipush 12, 2) := by decide +kernel
theorem dX0_dropFruits_5 : decode cX0_dropFruits 5 = .ok (.if_icmp .ge 89, 3) := by decide +kernel
theorem dX0_dropFruits_8 : decode cX0_dropFruits 8 = .ok (.aload_n 0, 1) := by decide +kernel
theorem dX0_dropFruits_9 : decode cX0_dropFruits 9 = .ok (.getfield 23, 3) := by decide +kernel
theorem dX0_dropFruits_12 : decode cX0_dropFruits 12 = .ok (.iload_n 3, 1) := by decide +kernel
theorem dX0_dropFruits_13 : decode cX0_dropFruits 13 = .ok (.aaload, 1) := by decide +kernel
theorem dX0_dropFruits_14 : decode cX0_dropFruits 14 = .ok (.astore 4, 2) := by decide +kernel
theorem dX0_dropFruits_16 : decode cX0_dropFruits 16 = .ok (.iconst 0, 1) := by decide +kernel
theorem dX0_dropFruits_17 : decode cX0_dropFruits 17 = .ok (.istore 5, 2) := by decide +kernel
theorem dX0_dropFruits_19 : decode cX0_dropFruits 19 = .ok (.iload 5, 2) := by decide +kernel
theorem dX0_dropFruits_21 : decode cX0_dropFruits 21 = .ok (.aload 4, 2) := by decide +kernel
theorem dX0_dropFruits_23 : decode cX0_dropFruits 23 = .ok (.invokevirtual 138, 3) := by decide +kernel
theorem dX0_dropFruits_26 : decode cX0_dropFruits 26 = .ok (.if_icmp .ge 62, 3) := by decide +kernel
theorem dX0_dropFruits_29 : decode cX0_dropFruits 29 = .ok (.aload_n 0, 1) := by decide +kernel
theorem dX0_dropFruits_30 : decode cX0_dropFruits 30 = .ok (.aload_n 1, 1) := by decide +kernel
theorem dX0_dropFruits_31 : decode cX0_dropFruits 31 = .ok (.aload 4, 2) := by decide +kernel
theorem dX0_dropFruits_33 : decode cX0_dropFruits 33 = .ok (.iload 5, 2) := by decide +kernel
theorem dX0_dropFruits_35 : decode cX0_dropFruits 35 = .ok (.iload_n 2, 1) := by decide +kernel
theorem dX0_dropFruits_36 : decode cX0_dropFruits 36 = .ok (.invokevirtual 218, 3) := by decide +kernel
theorem dX0_dropFruits_39 : decode cX0_dropFruits 39 = .ok (.ifCond .eq 43, 3) := by decide +kernel
theorem dX0_dropFruits_42 : decode cX0_dropFruits 42 = .ok (.aload 4, 2) := by decide +kernel
theorem dX0_dropFruits_44 : decode cX0_dropFruits 44 = .ok (.getfield 185, 3) := by decide +kernel
theorem dX0_dropFruits_47 : decode cX0_dropFruits 47 = .ok (.iload 5, 2) := by decide +kernel
theorem dX0_dropFruits_49 : decode cX0_dropFruits 49 = .ok (.iaload, 1) := by decide +kernel
theorem dX0_dropFruits_50 : decode cX0_dropFruits 50 = .ok (.bipush 10, 2) := by decide +kernel
theorem dX0_dropFruits_52 : decode cX0_dropFruits 52 = .ok (.invokestatic 197, 3) := by decide +kernel
theorem dX0_dropFruits_55 : decode cX0_dropFruits 55 = .ok (.istore 6, 2) := by decide +kernel
theorem dX0_dropFruits_57 : decode cX0_dropFruits 57 = .ok (.aload 4, 2) := by decide +kernel
theorem dX0_dropFruits_59 : decode cX0_dropFruits 59 = .ok (.getfield 185, 3) := by decide +kernel
theorem dX0_dropFruits_62 : decode cX0_dropFruits 62 = .ok (.iload 5, 2) := by decide +kernel
theorem dX0_dropFruits_64 : decode cX0_dropFruits 64 = .ok (.dup2, 1) := by decide +kernel
theorem dX0_dropFruits_65 : decode cX0_dropFruits 65 = .ok (.iaload, 1) := by decide +kernel
theorem dX0_dropFruits_66 : decode cX0_dropFruits 66 = .ok (.iload 6, 2) := by decide +kernel
theorem dX0_dropFruits_68 : decode cX0_dropFruits 68 = .ok (.isub, 1) := by decide +kernel
theorem dX0_dropFruits_69 : decode cX0_dropFruits 69 = .ok (.iastore, 1) := by decide +kernel
theorem dX0_dropFruits_70 : decode cX0_dropFruits 70 = .ok (.aload_n 0, 1) := by decide +kernel
theorem dX0_dropFruits_71 : decode cX0_dropFruits 71 = .ok (.getfield 55, 3) := by decide +kernel
theorem dX0_dropFruits_74 : decode cX0_dropFruits 74 = .ok (.iconst 3, 1) := by decide +kernel
theorem dX0_dropFruits_75 : decode cX0_dropFruits 75 = .ok (.dup2, 1) := by decide +kernel
theorem dX0_dropFruits_76 : decode cX0_dropFruits 76 = .ok (.laload, 1) := by decide +kernel
theorem dX0_dropFruits_77 : decode cX0_dropFruits 77 = .ok (.iload 6, 2) := by decide +kernel
theorem dX0_dropFruits_79 : decode cX0_dropFruits 79 = .ok (.i2l, 1) := by decide +kernel
theorem dX0_dropFruits_80 : decode cX0_dropFruits 80 = .ok (.ladd, 1) := by decide +kernel
theorem dX0_dropFruits_81 : decode cX0_dropFruits 81 = .ok (.lastore, 1) := by decide +kernel
theorem dX0_dropFruits_82 : decode cX0_dropFruits 82 = .ok (.iinc 5 1, 3) := by decide +kernel
theorem dX0_dropFruits_85 : decode cX0_dropFruits 85 = .ok (.goto (-66), 3) := by decide +kernel
theorem dX0_dropFruits_88 : decode cX0_dropFruits 88 = .ok (.iinc 3 1, 3) := by decide +kernel
theorem dX0_dropFruits_91 : decode cX0_dropFruits 91 = .ok (.goto (-89), 3) := by decide +kernel
theorem dX0_dropFruits_94 : decode cX0_dropFruits 94 = .ok (.return_, 1) := by decide +kernel
def f_X0_dropFruits_L19 (fuel : Nat) (K : Int32 → Int32 → St → Option (St)) (a19_2 : Int32) (a19_3 : Int32) (a19_4 : Nat) (a19_5 : Int32) (S19 : St) : Option (St) := match fuel with
  | 0 => none
  | n + 1 => if a19_5 < (f_X2_partCount a19_4 S19) then ((f_X0_isRipe a19_4 a19_5 a19_2 S19).bind fun v36 => (if v36 = true then (if inb a19_5 2 = true then ((f_X6_upQuotient (rd S19 (a19_4 + 1) (ix a19_5)) (10 : Int32)).bind fun v52 => (if inb a19_5 2 = true then (if inb a19_5 2 = true then (f_X0_dropFruits_L19 n K a19_2 a19_3 a19_4 (a19_5 + (1 : Int32)) (wrL (wr S19 (a19_4 + 1) (ix a19_5) ((rd S19 (a19_4 + 1) (ix a19_5)) - v52)) 7 (ix (3 : Int32)) ((rdL (wr S19 (a19_4 + 1) (ix a19_5) ((rd S19 (a19_4 + 1) (ix a19_5)) - v52)) 7 (ix (3 : Int32))) + v52.toInt64))) else none) else none)) else none) else (f_X0_dropFruits_L19 n K a19_2 a19_3 a19_4 (a19_5 + (1 : Int32)) S19))) else (K a19_2 a19_3 S19)
def f_X0_dropFruits_L2 (fuel : Nat) (K : St → Option (St)) (a2_2 : Int32) (a2_3 : Int32) (S2 : St) : Option (St) := match fuel with
  | 0 => none
  | n + 1 => if a2_3 < (12 : Int32) then (if inb a2_3 12 = true then (f_X0_dropFruits_L19 6000 (fun e88_2 e88_3 T88 => (f_X0_dropFruits_L2 n K e88_2 (e88_3 + (1 : Int32)) T88)) a2_2 a2_3 (20 + 2 * ix a2_3) (0 : Int32) S2) else none) else (K S2)
def f_X0_dropFruits (x2 : Int32) (S : St) : Option (St) := f_X0_dropFruits_L2 6000 (fun T94 => (some T94)) x2 (0 : Int32) S
set_option maxRecDepth 100000 in
theorem jl_X0_dropFruits_19 (l : Launch) (w : Wd) (K : Int32 → Int32 → St → Option (St)) (n : Nat) : ∀ (a19_2 : Int32) (a19_3 : Int32) (a19_4 : Nat) (a19_5 : Int32) (S19 : St) (ha19_4 : kd a19_4 = KdPlace), (∀ (e88_2 : Int32) (e88_3 : Int32) (S' : St) , J l w I_X0_dropFruits 88 [(0, .ref (w.2.1 + 1)), (1, .ref (w.2.1 + 96)), (2, .int e88_2), (3, .int e88_3)] [] S' (fun b => (none, b)) (K e88_2 e88_3 S')) → J l w I_X0_dropFruits 19 [(0, .ref (w.2.1 + 1)), (1, .ref (w.2.1 + 96)), (2, .int a19_2), (3, .int a19_3), (4, .ref (w.2.1 + a19_4)), (5, .int a19_5)] [] S19 (fun b => (none, b)) (f_X0_dropFruits_L19 n K a19_2 a19_3 a19_4 a19_5 S19) := by
  induction n with
  | zero =>
    intro a19_2 a19_3 a19_4 a19_5 S19 ha19_4 hK b h
    simp only [f_X0_dropFruits_L19] at h
    cases h
  | succ n ih =>
    intro a19_2 a19_3 a19_4 a19_5 S19 ha19_4 hK
    rw [f_X0_dropFruits_L19]
    refine j_iload (y := I_X0_dropFruits) 5 dX0_dropFruits_19 rfl ?_
    refine j_aload (y := I_X0_dropFruits) 4 dX0_dropFruits_21 rfl ?_
    refine j_callViT (y := I_X0_dropFruits) (As := []) cv_0_138 ⟨Nat.le_of_ble_eq_true rfl, Nat.le_of_ble_eq_true rfl⟩ ha19_4 rfl (Nat.le_of_ble_eq_true rfl) dX0_dropFruits_23 (c_X2_partCount l w a19_4 S19 ha19_4) ?_
    refine j_icmp_ge (y := I_X0_dropFruits) 88 dX0_dropFruits_26 (by decide) (fun h26 => ?_) (fun h26 => ?_)
    · refine j_sub [0, 1, 2, 3] rfl ?_
      exact hK a19_2 a19_3 S19
    · refine j_aload_n (y := I_X0_dropFruits) 0 dX0_dropFruits_29 rfl rfl ?_
      refine j_aload_n (y := I_X0_dropFruits) 1 dX0_dropFruits_30 rfl rfl ?_
      refine j_aload (y := I_X0_dropFruits) 4 dX0_dropFruits_31 rfl ?_
      refine j_iload (y := I_X0_dropFruits) 5 dX0_dropFruits_33 rfl ?_
      refine j_iload_n (y := I_X0_dropFruits) 2 dX0_dropFruits_35 rfl rfl ?_
      refine j_callVzR (y := I_X0_dropFruits) (As := [.ref (w.2.1 + 96), .ref (w.2.1 + a19_4), .int a19_5, .int a19_2]) cv_0_218 ⟨Nat.le_of_ble_eq_true rfl, Nat.le_of_ble_eq_true rfl⟩ k_1 rfl (Nat.le_of_ble_eq_true rfl) dX0_dropFruits_36 (c_X0_isRipe l w a19_4 a19_5 a19_2 S19 ha19_4) (fun v36 h36 => ?_)
      refine j_if_eqB (y := I_X0_dropFruits) 82 dX0_dropFruits_39 (by decide) (fun h39 => ?_) (fun h39 => ?_)
      · refine j_iinc (y := I_X0_dropFruits) 5 (ls' := [(5, .int (a19_5 + (1 : Int32))), (0, .ref (w.2.1 + 1)), (1, .ref (w.2.1 + 96)), (2, .int a19_2), (3, .int a19_3), (4, .ref (w.2.1 + a19_4))]) dX0_dropFruits_82 rfl (ii _ _ (by decide) _) (by decide) rfl ?_
        refine j_goto (y := I_X0_dropFruits) 19 dX0_dropFruits_85 (by decide) ?_
        refine j_sub [1, 2, 3, 4, 5, 0] rfl ?_
        exact ih a19_2 a19_3 a19_4 (a19_5 + (1 : Int32)) S19 ha19_4 hK
      · refine j_aload (y := I_X0_dropFruits) 4 dX0_dropFruits_42 rfl ?_
        refine j_getR (y := I_X0_dropFruits) (j := (a19_4 + 1)) fl_0_185 ha19_4 rfl rfl dX0_dropFruits_44 ?_
        refine j_iload (y := I_X0_dropFruits) 5 dX0_dropFruits_47 rfl ?_
        refine j_iald (y := I_X0_dropFruits) (kd_PlaceA ha19_4) dX0_dropFruits_49 (fun h49 => ?_)
        refine j_bipush (y := I_X0_dropFruits) (v := 10) dX0_dropFruits_50 (by decide) ?_
        refine j_callNiR (y := I_X0_dropFruits) (As := [.int (rd S19 (a19_4 + 1) (ix a19_5)), .int (10 : Int32)]) cv_0_197 ⟨Nat.le_of_ble_eq_true rfl, Nat.le_of_ble_eq_true rfl⟩ rfl (Nat.le_of_ble_eq_true rfl) dX0_dropFruits_52 (c_X6_upQuotient l w (rd S19 (a19_4 + 1) (ix a19_5)) (10 : Int32) S19) (fun v52 h52 => ?_)
        refine j_istore (y := I_X0_dropFruits) (ls' := [(6, .int v52), (0, .ref (w.2.1 + 1)), (1, .ref (w.2.1 + 96)), (2, .int a19_2), (3, .int a19_3), (4, .ref (w.2.1 + a19_4)), (5, .int a19_5)]) dX0_dropFruits_55 (by decide) rfl ?_
        refine j_aload (y := I_X0_dropFruits) 5 dX0_dropFruits_57 rfl ?_
        refine j_getR (y := I_X0_dropFruits) (j := (a19_4 + 1)) fl_0_185 ha19_4 rfl rfl dX0_dropFruits_59 ?_
        refine j_iload (y := I_X0_dropFruits) 6 dX0_dropFruits_62 rfl ?_
        refine j_dup2 (y := I_X0_dropFruits) dX0_dropFruits_64 rfl rfl ?_
        refine j_iald (y := I_X0_dropFruits) (kd_PlaceA ha19_4) dX0_dropFruits_65 (fun h65 => ?_)
        refine j_iload (y := I_X0_dropFruits) 0 dX0_dropFruits_66 rfl ?_
        refine j_isub (y := I_X0_dropFruits) dX0_dropFruits_68 ?_
        refine j_iast (y := I_X0_dropFruits) (kd_PlaceA ha19_4) dX0_dropFruits_69 (fun h69 => ?_)
        refine j_aload_n (y := I_X0_dropFruits) 1 dX0_dropFruits_70 rfl rfl ?_
        refine j_getR (y := I_X0_dropFruits) (j := 7) fl_0_55 k_1 rfl rfl dX0_dropFruits_71 ?_
        refine j_iconst (y := I_X0_dropFruits) (v := 3) dX0_dropFruits_74 (by decide) ?_
        refine j_dup2 (y := I_X0_dropFruits) dX0_dropFruits_75 rfl rfl ?_
        refine j_laldL (y := I_X0_dropFruits) k_7 (by decide) dX0_dropFruits_76 ?_
        refine j_iload (y := I_X0_dropFruits) 0 dX0_dropFruits_77 rfl ?_
        refine j_i2l (y := I_X0_dropFruits) dX0_dropFruits_79 ?_
        refine j_ladd (y := I_X0_dropFruits) dX0_dropFruits_80 ?_
        refine j_lastL (y := I_X0_dropFruits) k_7 (by decide) dX0_dropFruits_81 ?_
        refine j_iinc (y := I_X0_dropFruits) 6 (ls' := [(5, .int (a19_5 + (1 : Int32))), (6, .int v52), (0, .ref (w.2.1 + 1)), (1, .ref (w.2.1 + 96)), (2, .int a19_2), (3, .int a19_3), (4, .ref (w.2.1 + a19_4))]) dX0_dropFruits_82 rfl (ii _ _ (by decide) _) (by decide) rfl ?_
        refine j_goto (y := I_X0_dropFruits) 19 dX0_dropFruits_85 (by decide) ?_
        refine j_sub [2, 3, 4, 5, 6, 0] rfl ?_
        exact ih a19_2 a19_3 a19_4 (a19_5 + (1 : Int32)) (wrL (wr S19 (a19_4 + 1) (ix a19_5) ((rd S19 (a19_4 + 1) (ix a19_5)) - v52)) 7 (ix (3 : Int32)) ((rdL (wr S19 (a19_4 + 1) (ix a19_5) ((rd S19 (a19_4 + 1) (ix a19_5)) - v52)) 7 (ix (3 : Int32))) + v52.toInt64)) ha19_4 hK
set_option maxRecDepth 100000 in
theorem jl_X0_dropFruits_2 (l : Launch) (w : Wd) (K : St → Option (St)) (n : Nat) : ∀ (a2_2 : Int32) (a2_3 : Int32) (S2 : St), (∀  (S' : St) , J l w I_X0_dropFruits 94 [] [] S' (fun b => (none, b)) (K  S')) → J l w I_X0_dropFruits 2 [(0, .ref (w.2.1 + 1)), (1, .ref (w.2.1 + 96)), (2, .int a2_2), (3, .int a2_3)] [] S2 (fun b => (none, b)) (f_X0_dropFruits_L2 n K a2_2 a2_3 S2) := by
  induction n with
  | zero =>
    intro a2_2 a2_3 S2 hK b h
    simp only [f_X0_dropFruits_L2] at h
    cases h
  | succ n ih =>
    intro a2_2 a2_3 S2 hK
    rw [f_X0_dropFruits_L2]
    refine j_iload_n (y := I_X0_dropFruits) 3 dX0_dropFruits_2 rfl rfl ?_
    refine j_bipush (y := I_X0_dropFruits) (v := 12) dX0_dropFruits_3 (by decide) ?_
    refine j_icmp_ge (y := I_X0_dropFruits) 94 dX0_dropFruits_5 (by decide) (fun h5 => ?_) (fun h5 => ?_)
    · refine j_sub [] rfl ?_
      exact hK S2
    · refine j_aload_n (y := I_X0_dropFruits) 0 dX0_dropFruits_8 rfl rfl ?_
      refine j_getR (y := I_X0_dropFruits) (j := 3) fl_0_23 k_1 rfl rfl dX0_dropFruits_9 ?_
      refine j_iload_n (y := I_X0_dropFruits) 3 dX0_dropFruits_12 rfl rfl ?_
      refine j_aald (y := I_X0_dropFruits) (j := (20 + 2 * ix a2_3)) (tt := 1) k_3 rfl (rho_3 _) dX0_dropFruits_13 (fun h13 => ?_)
      refine j_astore (y := I_X0_dropFruits) (ls' := [(4, .ref (w.2.1 + (20 + 2 * ix a2_3))), (0, .ref (w.2.1 + 1)), (1, .ref (w.2.1 + 96)), (2, .int a2_2), (3, .int a2_3)]) dX0_dropFruits_14 (by decide) rfl ?_
      refine j_iconst (y := I_X0_dropFruits) (v := 0) dX0_dropFruits_16 (by decide) ?_
      refine j_istore (y := I_X0_dropFruits) (ls' := [(5, .int (0 : Int32)), (4, .ref (w.2.1 + (20 + 2 * ix a2_3))), (0, .ref (w.2.1 + 1)), (1, .ref (w.2.1 + 96)), (2, .int a2_2), (3, .int a2_3)]) dX0_dropFruits_17 (by decide) rfl ?_
      refine j_sub [2, 3, 4, 5, 1, 0] rfl ?_
      refine jl_X0_dropFruits_19 l w _ 6000 a2_2 a2_3 (20 + 2 * ix a2_3) (0 : Int32) S2 (kd_Pl _ (inb_lt h13)) (fun e88_2 e88_3 T88 => ?_)
      refine j_iinc (y := I_X0_dropFruits) 3 (ls' := [(3, .int (e88_3 + (1 : Int32))), (0, .ref (w.2.1 + 1)), (1, .ref (w.2.1 + 96)), (2, .int e88_2)]) dX0_dropFruits_88 rfl (ii _ _ (by decide) _) (by decide) rfl ?_
      refine j_goto (y := I_X0_dropFruits) 2 dX0_dropFruits_91 (by decide) ?_
      refine j_sub [1, 2, 3, 0] rfl ?_
      exact ih e88_2 (e88_3 + (1 : Int32)) T88 hK
set_option maxRecDepth 100000 in
set_option maxHeartbeats 4000000 in
theorem m_X0_dropFruits (l : Launch) (w : Wd) (x2 : Int32) (S : St)  : J l w I_X0_dropFruits 0 [(0, .ref (w.2.1 + 1)), (1, .ref (w.2.1 + 96)), (2, .int x2)] [] S (fun b => (none, b)) (f_X0_dropFruits x2 S) := by
  unfold f_X0_dropFruits
  refine j_iconst (y := I_X0_dropFruits) (v := 0) dX0_dropFruits_0 (by decide) ?_
  refine j_istore_n (y := I_X0_dropFruits) (ls' := [(3, .int (0 : Int32)), (0, .ref (w.2.1 + 1)), (1, .ref (w.2.1 + 96)), (2, .int x2)]) dX0_dropFruits_1 rfl (by decide) rfl ?_
  refine j_sub [1, 2, 3, 0] rfl ?_
  refine jl_X0_dropFruits_2 l w _ 6000 x2 (0 : Int32) S  (fun T94 => ?_)
  exact j_vret (y := I_X0_dropFruits) rfl dX0_dropFruits_94 rfl
theorem c_X0_dropFruits (l : Launch) (w : Wd) (x2 : Int32) (S : St)  : ∀ v, f_X0_dropFruits x2 S = some v → CtS l w I_X0_dropFruits [.ref (w.2.1 + 1), .ref (w.2.1 + 96), .int x2] S v none := fun v h => J.ct (av := [.ref (w.2.1 + 1), .ref (w.2.1 + 96), .int x2]) (Nat.le_of_ble_eq_true rfl) pn_0 (m_X0_dropFruits l w x2 S ) h
abbrev I_X0_doDay : MI := (yX0_doDay, cX0_doDay, 3, none, { frames := 5, cells := 0, slots := 0, locals := 124 })
theorem dX0_doDay_0 : decode cX0_doDay 0 = .ok (.aload_n 0, 1) := by decide +kernel
theorem dX0_doDay_1 : decode cX0_doDay 1 = .ok (.getfield 33, 3) := by decide +kernel
theorem dX0_doDay_4 : decode cX0_doDay 4 = .ok (.bipush 50, 2) := by decide +kernel
theorem dX0_doDay_6 : decode cX0_doDay 6 = .ok (.if_icmp .lt 4, 3) := by decide +kernel
theorem dX0_doDay_9 : decode cX0_doDay 9 = .ok (.return_, 1) := by decide +kernel
theorem dX0_doDay_10 : decode cX0_doDay 10 = .ok (.aload_n 0, 1) := by decide +kernel
theorem dX0_doDay_11 : decode cX0_doDay 11 = .ok (.getfield 33, 3) := by decide +kernel
theorem dX0_doDay_14 : decode cX0_doDay 14 = .ok (.istore_n 2, 1) := by decide +kernel
theorem dX0_doDay_15 : decode cX0_doDay 15 = .ok (.aload_n 0, 1) := by decide +kernel
theorem dX0_doDay_16 : decode cX0_doDay 16 = .ok (.getfield 36, 3) := by decide +kernel
theorem dX0_doDay_19 : decode cX0_doDay 19 = .ok (.iload_n 2, 1) := by decide +kernel
theorem dX0_doDay_20 : decode cX0_doDay 20 = .ok (.aload_n 1, 1) := by decide +kernel
theorem dX0_doDay_21 : decode cX0_doDay 21 = .ok (.getfield 155, 3) := by decide +kernel
theorem dX0_doDay_24 : decode cX0_doDay 24 = .ok (.iload_n 2, 1) := by decide +kernel
theorem dX0_doDay_25 : decode cX0_doDay 25 = .ok (.iaload, 1) := by decide +kernel
theorem dX0_doDay_26 : decode cX0_doDay 26 = .ok (.iastore, 1) := by decide +kernel
theorem dX0_doDay_27 : decode cX0_doDay 27 = .ok (.aload_n 0, 1) := by decide +kernel
theorem dX0_doDay_28 : decode cX0_doDay 28 = .ok (.invokevirtual 158, 3) := by decide +kernel
theorem dX0_doDay_31 : decode cX0_doDay 31 = .ok (.aload_n 0, 1) := by decide +kernel
theorem dX0_doDay_32 : decode cX0_doDay 32 = .ok (.aload_n 1, 1) := by decide +kernel
theorem dX0_doDay_33 : decode cX0_doDay 33 = .ok (.iload_n 2, 1) := by decide +kernel
theorem dX0_doDay_34 : decode cX0_doDay 34 = .ok (.invokevirtual 161, 3) := by decide +kernel
theorem dX0_doDay_37 : decode cX0_doDay 37 = .ok (.aload_n 0, 1) := by decide +kernel
theorem dX0_doDay_38 : decode cX0_doDay 38 = .ok (.aload_n 1, 1) := by decide +kernel
theorem dX0_doDay_39 : decode cX0_doDay 39 = .ok (.iload_n 2, 1) := by decide +kernel
theorem dX0_doDay_40 : decode cX0_doDay 40 = .ok (.invokevirtual 165, 3) := by decide +kernel
theorem dX0_doDay_43 : decode cX0_doDay 43 = .ok (.aload_n 0, 1) := by decide +kernel
theorem dX0_doDay_44 : decode cX0_doDay 44 = .ok (.aload_n 1, 1) := by decide +kernel
theorem dX0_doDay_45 : decode cX0_doDay 45 = .ok (.iload_n 2, 1) := by decide +kernel
theorem dX0_doDay_46 : decode cX0_doDay 46 = .ok (.invokevirtual 168, 3) := by decide +kernel
theorem dX0_doDay_49 : decode cX0_doDay 49 = .ok (.aload_n 0, 1) := by decide +kernel
theorem dX0_doDay_50 : decode cX0_doDay 50 = .ok (.aload_n 0, 1) := by decide +kernel
theorem dX0_doDay_51 : decode cX0_doDay 51 = .ok (.getfield 52, 3) := by decide +kernel
theorem dX0_doDay_54 : decode cX0_doDay 54 = .ok (.iconst 1, 1) := by decide +kernel
theorem dX0_doDay_55 : decode cX0_doDay 55 = .ok (.iadd, 1) := by decide +kernel
theorem dX0_doDay_56 : decode cX0_doDay 56 = .ok (.bipush 60, 2) := by decide +kernel
theorem dX0_doDay_58 : decode cX0_doDay 58 = .ok (.irem, 1) := by decide +kernel
theorem dX0_doDay_59 : decode cX0_doDay 59 = .ok (.putfield 52, 3) := by decide +kernel
theorem dX0_doDay_62 : decode cX0_doDay 62 = .ok (.aload_n 0, 1) := by decide +kernel
theorem dX0_doDay_63 : decode cX0_doDay 63 = .ok (.iload_n 2, 1) := by decide +kernel
theorem dX0_doDay_64 : decode cX0_doDay 64 = .ok (.iconst 1, 1) := by decide +kernel
theorem dX0_doDay_65 : decode cX0_doDay 65 = .ok (.iadd, 1) := by decide +kernel
theorem dX0_doDay_66 : decode cX0_doDay 66 = .ok (.putfield 33, 3) := by decide +kernel
theorem dX0_doDay_69 : decode cX0_doDay 69 = .ok (.return_, 1) := by decide +kernel
theorem cv_0_158 : CV RX0 158 0 0 I_X0_spoilStore := ⟨⟨⟨gm 591 (by decide +kernel) rfl, gm 594 (by decide +kernel) rfl, gm 38 (by decide +kernel) rfl, mh_0.1, mh_0.2, by decide +kernel⟩, gm 592 (by decide +kernel) rfl, gm 593 (by decide +kernel) rfl⟩, ⟨_, _, rfl⟩, rfl, rfl⟩
theorem cv_0_161 : CV RX0 161 2 0 I_X0_setFruits := ⟨⟨⟨gm 602 (by decide +kernel) rfl, gm 605 (by decide +kernel) rfl, gm 38 (by decide +kernel) rfl, mh_0.1, mh_0.2, by decide +kernel⟩, gm 603 (by decide +kernel) rfl, gm 604 (by decide +kernel) rfl⟩, ⟨_, _, rfl⟩, rfl, rfl⟩
theorem cv_0_165 : CV RX0 165 2 0 I_X0_pickFruits := ⟨⟨⟨gm 619 (by decide +kernel) rfl, gm 622 (by decide +kernel) rfl, gm 38 (by decide +kernel) rfl, mh_0.1, mh_0.2, by decide +kernel⟩, gm 620 (by decide +kernel) rfl, gm 621 (by decide +kernel) rfl⟩, ⟨_, _, rfl⟩, rfl, rfl⟩
theorem cv_0_168 : CV RX0 168 2 0 I_X0_dropFruits := ⟨⟨⟨gm 643 (by decide +kernel) rfl, gm 646 (by decide +kernel) rfl, gm 38 (by decide +kernel) rfl, mh_0.1, mh_0.2, by decide +kernel⟩, gm 644 (by decide +kernel) rfl, gm 645 (by decide +kernel) rfl⟩, ⟨_, _, rfl⟩, rfl, rfl⟩
def f_X0_doDay  (S : St) : Option (St) := if (rd S 1 5) < (50 : Int32) then (if inb (rd S 1 5) 50 = true then (if inb (rd S 1 5) 50 = true then ((f_X0_spoilStore (wr S 4 (ix (rd S 1 5)) (rd S 97 (ix (rd S 1 5))))).bind fun v28 => ((f_X0_setFruits (rd S 1 5) v28).bind fun v34 => ((f_X0_pickFruits (rd S 1 5) v34).bind fun v40 => ((f_X0_dropFruits (rd S 1 5) v40).bind fun v46 => (some (wr (wr v46 1 11 (((rd v46 1 11) + (1 : Int32)) - ((rd v46 1 11) + (1 : Int32)) / (60 : Int32) * (60 : Int32))) 1 5 ((rd S 1 5) + (1 : Int32)))))))) else none) else none) else (some S)
set_option maxRecDepth 100000 in
set_option maxHeartbeats 4000000 in
theorem m_X0_doDay (l : Launch) (w : Wd)  (S : St)  : J l w I_X0_doDay 0 [(0, .ref (w.2.1 + 1)), (1, .ref (w.2.1 + 96))] [] S (fun b => (none, b)) (f_X0_doDay S) := by
  unfold f_X0_doDay
  refine j_aload_n (y := I_X0_doDay) 0 dX0_doDay_0 rfl rfl ?_
  refine j_getI (y := I_X0_doDay) fl_0_33 k_1 rfl dX0_doDay_1 ?_
  refine j_bipush (y := I_X0_doDay) (v := 50) dX0_doDay_4 (by decide) ?_
  refine j_icmp_lt (y := I_X0_doDay) 10 dX0_doDay_6 (by decide) (fun h6 => ?_) (fun h6 => ?_)
  · refine j_aload_n (y := I_X0_doDay) 0 dX0_doDay_10 rfl rfl ?_
    refine j_getI (y := I_X0_doDay) fl_0_33 k_1 rfl dX0_doDay_11 ?_
    refine j_istore_n (y := I_X0_doDay) (ls' := [(2, .int (rd S 1 5)), (0, .ref (w.2.1 + 1)), (1, .ref (w.2.1 + 96))]) dX0_doDay_14 rfl (by decide) rfl ?_
    refine j_aload_n (y := I_X0_doDay) 1 dX0_doDay_15 rfl rfl ?_
    refine j_getR (y := I_X0_doDay) (j := 4) fl_0_36 k_1 rfl rfl dX0_doDay_16 ?_
    refine j_iload_n (y := I_X0_doDay) 0 dX0_doDay_19 rfl rfl ?_
    refine j_aload_n (y := I_X0_doDay) 2 dX0_doDay_20 rfl rfl ?_
    refine j_getR (y := I_X0_doDay) (j := 97) fl_0_155 k_96 rfl rfl dX0_doDay_21 ?_
    refine j_iload_n (y := I_X0_doDay) 0 dX0_doDay_24 rfl rfl ?_
    refine j_iald (y := I_X0_doDay) k_97 dX0_doDay_25 (fun h25 => ?_)
    refine j_iast (y := I_X0_doDay) k_4 dX0_doDay_26 (fun h26 => ?_)
    refine j_aload_n (y := I_X0_doDay) 1 dX0_doDay_27 rfl rfl ?_
    refine j_callVvS (y := I_X0_doDay) (As := []) cv_0_158 ⟨Nat.le_of_ble_eq_true rfl, Nat.le_of_ble_eq_true rfl⟩ k_1 rfl (Nat.le_of_ble_eq_true rfl) dX0_doDay_28 (c_X0_spoilStore l w (wr S 4 (ix (rd S 1 5)) (rd S 97 (ix (rd S 1 5))))) (fun v28 h28 => ?_)
    refine j_aload_n (y := I_X0_doDay) 1 dX0_doDay_31 rfl rfl ?_
    refine j_aload_n (y := I_X0_doDay) 2 dX0_doDay_32 rfl rfl ?_
    refine j_iload_n (y := I_X0_doDay) 0 dX0_doDay_33 rfl rfl ?_
    refine j_callVvS (y := I_X0_doDay) (As := [.ref (w.2.1 + 96), .int (rd S 1 5)]) cv_0_161 ⟨Nat.le_of_ble_eq_true rfl, Nat.le_of_ble_eq_true rfl⟩ k_1 rfl (Nat.le_of_ble_eq_true rfl) dX0_doDay_34 (c_X0_setFruits l w (rd S 1 5) v28) (fun v34 h34 => ?_)
    refine j_aload_n (y := I_X0_doDay) 1 dX0_doDay_37 rfl rfl ?_
    refine j_aload_n (y := I_X0_doDay) 2 dX0_doDay_38 rfl rfl ?_
    refine j_iload_n (y := I_X0_doDay) 0 dX0_doDay_39 rfl rfl ?_
    refine j_callVvS (y := I_X0_doDay) (As := [.ref (w.2.1 + 96), .int (rd S 1 5)]) cv_0_165 ⟨Nat.le_of_ble_eq_true rfl, Nat.le_of_ble_eq_true rfl⟩ k_1 rfl (Nat.le_of_ble_eq_true rfl) dX0_doDay_40 (c_X0_pickFruits l w (rd S 1 5) v34) (fun v40 h40 => ?_)
    refine j_aload_n (y := I_X0_doDay) 1 dX0_doDay_43 rfl rfl ?_
    refine j_aload_n (y := I_X0_doDay) 2 dX0_doDay_44 rfl rfl ?_
    refine j_iload_n (y := I_X0_doDay) 0 dX0_doDay_45 rfl rfl ?_
    refine j_callVvS (y := I_X0_doDay) (As := [.ref (w.2.1 + 96), .int (rd S 1 5)]) cv_0_168 ⟨Nat.le_of_ble_eq_true rfl, Nat.le_of_ble_eq_true rfl⟩ k_1 rfl (Nat.le_of_ble_eq_true rfl) dX0_doDay_46 (c_X0_dropFruits l w (rd S 1 5) v40) (fun v46 h46 => ?_)
    refine j_aload_n (y := I_X0_doDay) 1 dX0_doDay_49 rfl rfl ?_
    refine j_aload_n (y := I_X0_doDay) 1 dX0_doDay_50 rfl rfl ?_
    refine j_getI (y := I_X0_doDay) fl_0_52 k_1 rfl dX0_doDay_51 ?_
    refine j_iconst (y := I_X0_doDay) (v := 1) dX0_doDay_54 (by decide) ?_
    refine j_iadd (y := I_X0_doDay) dX0_doDay_55 ?_
    refine j_bipush (y := I_X0_doDay) (v := 60) dX0_doDay_56 (by decide) ?_
    refine j_iremL (y := I_X0_doDay) dX0_doDay_58 (by decide) ?_
    refine j_putI (y := I_X0_doDay) fp_0_52 k_1 rfl rfl rfl dX0_doDay_59 ?_
    refine j_aload_n (y := I_X0_doDay) 1 dX0_doDay_62 rfl rfl ?_
    refine j_iload_n (y := I_X0_doDay) 0 dX0_doDay_63 rfl rfl ?_
    refine j_iconst (y := I_X0_doDay) (v := 1) dX0_doDay_64 (by decide) ?_
    refine j_iadd (y := I_X0_doDay) dX0_doDay_65 ?_
    refine j_putI (y := I_X0_doDay) fp_0_33 k_1 rfl rfl rfl dX0_doDay_66 ?_
    exact j_vret (y := I_X0_doDay) rfl dX0_doDay_69 rfl
  · exact j_vret (y := I_X0_doDay) rfl dX0_doDay_9 rfl
theorem c_X0_doDay (l : Launch) (w : Wd)  (S : St)  : ∀ v, f_X0_doDay S = some v → CtS l w I_X0_doDay [.ref (w.2.1 + 1), .ref (w.2.1 + 96)] S v none := fun v h => J.ct (av := [.ref (w.2.1 + 1), .ref (w.2.1 + 96)]) (Nat.le_of_ble_eq_true rfl) pn_0 (m_X0_doDay l w  S ) h
abbrev I_X0_fruitsOnTrees : MI := (yX0_fruitsOnTrees, cX0_fruitsOnTrees, 3, some .int, { frames := 1, cells := 0, slots := 0, locals := 20 })
theorem dX0_fruitsOnTrees_0 : decode cX0_fruitsOnTrees 0 = .ok (.iconst 0, 1) := by decide +kernel
theorem dX0_fruitsOnTrees_1 : decode cX0_fruitsOnTrees 1 = .ok (.istore_n 1, 1) := by decide +kernel
theorem dX0_fruitsOnTrees_2 : decode cX0_fruitsOnTrees 2 = .ok (.iconst 0, 1) := by decide +kernel
theorem dX0_fruitsOnTrees_3 : decode cX0_fruitsOnTrees 3 = .ok (.istore_n 2, 1) := by decide +kernel
theorem dX0_fruitsOnTrees_4 : decode cX0_fruitsOnTrees 4 = .ok (.iload_n 2, 1) := by decide +kernel
theorem dX0_fruitsOnTrees_5 : decode cX0_fruitsOnTrees 5 = .ok (.bipush 12, 2) := by decide +kernel
theorem dX0_fruitsOnTrees_7 : decode cX0_fruitsOnTrees 7 = .ok (.if_icmp .ge 21, 3) := by decide +kernel
theorem dX0_fruitsOnTrees_10 : decode cX0_fruitsOnTrees 10 = .ok (.iload_n 1, 1) := by decide +kernel
theorem dX0_fruitsOnTrees_11 : decode cX0_fruitsOnTrees 11 = .ok (.aload_n 0, 1) := by decide +kernel
theorem dX0_fruitsOnTrees_12 : decode cX0_fruitsOnTrees 12 = .ok (.getfield 23, 3) := by decide +kernel
theorem dX0_fruitsOnTrees_15 : decode cX0_fruitsOnTrees 15 = .ok (.iload_n 2, 1) := by decide +kernel
theorem dX0_fruitsOnTrees_16 : decode cX0_fruitsOnTrees 16 = .ok (.aaload, 1) := by decide +kernel
theorem dX0_fruitsOnTrees_17 : decode cX0_fruitsOnTrees 17 = .ok (.invokevirtual 118, 3) := by decide +kernel
theorem dX0_fruitsOnTrees_20 : decode cX0_fruitsOnTrees 20 = .ok (.iadd, 1) := by decide +kernel
theorem dX0_fruitsOnTrees_21 : decode cX0_fruitsOnTrees 21 = .ok (.istore_n 1, 1) := by decide +kernel
theorem dX0_fruitsOnTrees_22 : decode cX0_fruitsOnTrees 22 = .ok (.iinc 2 1, 3) := by decide +kernel
theorem dX0_fruitsOnTrees_25 : decode cX0_fruitsOnTrees 25 = .ok (.goto (-21), 3) := by decide +kernel
theorem dX0_fruitsOnTrees_28 : decode cX0_fruitsOnTrees 28 = .ok (.iload_n 1, 1) := by decide +kernel
theorem dX0_fruitsOnTrees_29 : decode cX0_fruitsOnTrees 29 = .ok (.ireturn, 1) := by decide +kernel
theorem cv_0_118 : CV RX0 118 0 2 I_X2_fruitCount := ⟨⟨⟨gm 655 (by decide +kernel) rfl, gm 389 (by decide +kernel) rfl, gm 40 (by decide +kernel) rfl, mh_2.1, mh_2.2, by decide +kernel⟩, gm 387 (by decide +kernel) rfl, gm 388 (by decide +kernel) rfl⟩, ⟨_, _, rfl⟩, rfl, rfl⟩
def f_X0_fruitsOnTrees_L4 (fuel : Nat) (K : Int32 → Option (Int32)) (a4_1 : Int32) (a4_2 : Int32) (S : St) : Option (Int32) := match fuel with
  | 0 => none
  | n + 1 => if a4_2 < (12 : Int32) then (if inb a4_2 12 = true then ((f_X2_fruitCount (20 + 2 * ix a4_2) S).bind fun v17 => (f_X0_fruitsOnTrees_L4 n K (a4_1 + v17) (a4_2 + (1 : Int32)) S)) else none) else (K a4_1)
def f_X0_fruitsOnTrees  (S : St) : Option (Int32) := f_X0_fruitsOnTrees_L4 6000 (fun e28_1 => (some e28_1)) (0 : Int32) (0 : Int32) S
set_option maxRecDepth 100000 in
theorem jl_X0_fruitsOnTrees_4 (l : Launch) (w : Wd) (S : St) (K : Int32 → Option (Int32)) (n : Nat) : ∀ (a4_1 : Int32) (a4_2 : Int32), (∀ (e28_1 : Int32) , J l w I_X0_fruitsOnTrees 28 [(1, .int e28_1)] [] S (fun b => (some (.int b), S)) (K e28_1)) → J l w I_X0_fruitsOnTrees 4 [(0, .ref (w.2.1 + 1)), (1, .int a4_1), (2, .int a4_2)] [] S (fun b => (some (.int b), S)) (f_X0_fruitsOnTrees_L4 n K a4_1 a4_2 S) := by
  induction n with
  | zero =>
    intro a4_1 a4_2 hK b h
    simp only [f_X0_fruitsOnTrees_L4] at h
    cases h
  | succ n ih =>
    intro a4_1 a4_2 hK
    rw [f_X0_fruitsOnTrees_L4]
    refine j_iload_n (y := I_X0_fruitsOnTrees) 2 dX0_fruitsOnTrees_4 rfl rfl ?_
    refine j_bipush (y := I_X0_fruitsOnTrees) (v := 12) dX0_fruitsOnTrees_5 (by decide) ?_
    refine j_icmp_ge (y := I_X0_fruitsOnTrees) 28 dX0_fruitsOnTrees_7 (by decide) (fun h7 => ?_) (fun h7 => ?_)
    · refine j_sub [1] rfl ?_
      exact hK a4_1
    · refine j_iload_n (y := I_X0_fruitsOnTrees) 1 dX0_fruitsOnTrees_10 rfl rfl ?_
      refine j_aload_n (y := I_X0_fruitsOnTrees) 0 dX0_fruitsOnTrees_11 rfl rfl ?_
      refine j_getR (y := I_X0_fruitsOnTrees) (j := 3) fl_0_23 k_1 rfl rfl dX0_fruitsOnTrees_12 ?_
      refine j_iload_n (y := I_X0_fruitsOnTrees) 2 dX0_fruitsOnTrees_15 rfl rfl ?_
      refine j_aald (y := I_X0_fruitsOnTrees) (j := (20 + 2 * ix a4_2)) (tt := 1) k_3 rfl (rho_3 _) dX0_fruitsOnTrees_16 (fun h16 => ?_)
      refine j_callViR (y := I_X0_fruitsOnTrees) (As := []) cv_0_118 ⟨Nat.le_of_ble_eq_true rfl, Nat.le_of_ble_eq_true rfl⟩ (kd_Pl _ (inb_lt h16)) rfl (Nat.le_of_ble_eq_true rfl) dX0_fruitsOnTrees_17 (c_X2_fruitCount l w (20 + 2 * ix a4_2) S (kd_Pl _ (inb_lt h16))) (fun v17 h17 => ?_)
      refine j_iadd (y := I_X0_fruitsOnTrees) dX0_fruitsOnTrees_20 ?_
      refine j_istore_n (y := I_X0_fruitsOnTrees) (ls' := [(1, .int (a4_1 + v17)), (0, .ref (w.2.1 + 1)), (2, .int a4_2)]) dX0_fruitsOnTrees_21 rfl (by decide) rfl ?_
      refine j_iinc (y := I_X0_fruitsOnTrees) 2 (ls' := [(2, .int (a4_2 + (1 : Int32))), (1, .int (a4_1 + v17)), (0, .ref (w.2.1 + 1))]) dX0_fruitsOnTrees_22 rfl (ii _ _ (by decide) _) (by decide) rfl ?_
      refine j_goto (y := I_X0_fruitsOnTrees) 4 dX0_fruitsOnTrees_25 (by decide) ?_
      refine j_sub [2, 1, 0] rfl ?_
      exact ih (a4_1 + v17) (a4_2 + (1 : Int32)) hK
set_option maxRecDepth 100000 in
set_option maxHeartbeats 4000000 in
theorem m_X0_fruitsOnTrees (l : Launch) (w : Wd)  (S : St)  : J l w I_X0_fruitsOnTrees 0 [(0, .ref (w.2.1 + 1))] [] S (fun b => (some (.int b), S)) (f_X0_fruitsOnTrees S) := by
  unfold f_X0_fruitsOnTrees
  refine j_iconst (y := I_X0_fruitsOnTrees) (v := 0) dX0_fruitsOnTrees_0 (by decide) ?_
  refine j_istore_n (y := I_X0_fruitsOnTrees) (ls' := [(1, .int (0 : Int32)), (0, .ref (w.2.1 + 1))]) dX0_fruitsOnTrees_1 rfl (by decide) rfl ?_
  refine j_iconst (y := I_X0_fruitsOnTrees) (v := 0) dX0_fruitsOnTrees_2 (by decide) ?_
  refine j_istore_n (y := I_X0_fruitsOnTrees) (ls' := [(2, .int (0 : Int32)), (1, .int (0 : Int32)), (0, .ref (w.2.1 + 1))]) dX0_fruitsOnTrees_3 rfl (by decide) rfl ?_
  refine j_sub [2, 1, 0] rfl ?_
  refine jl_X0_fruitsOnTrees_4 l w S _ 6000 (0 : Int32) (0 : Int32)   (fun e28_1 => ?_)
  refine j_iload_n (y := I_X0_fruitsOnTrees) 0 dX0_fruitsOnTrees_28 rfl rfl ?_
  exact j_iret (y := I_X0_fruitsOnTrees) rfl dX0_fruitsOnTrees_29 rfl
theorem c_X0_fruitsOnTrees (l : Launch) (w : Wd)  (S : St)  : ∀ v, f_X0_fruitsOnTrees S = some v → CtS l w I_X0_fruitsOnTrees [.ref (w.2.1 + 1)] S S (some (.int v)) := fun v h => J.ct (av := [.ref (w.2.1 + 1)]) (Nat.le_of_ble_eq_true rfl) pn_0 (m_X0_fruitsOnTrees l w  S ) h
abbrev I_X0_endYear : MI := (yX0_endYear, cX0_endYear, 2, none, { frames := 3, cells := 0, slots := 0, locals := 61 })
theorem dX0_endYear_0 : decode cX0_endYear 0 = .ok (.aload_n 0, 1) := by decide +kernel
theorem dX0_endYear_1 : decode cX0_endYear 1 = .ok (.getfield 55, 3) := by decide +kernel
theorem dX0_endYear_4 : decode cX0_endYear 4 = .ok (.iconst 4, 1) := by decide +kernel
theorem dX0_endYear_5 : decode cX0_endYear 5 = .ok (.dup2, 1) := by decide +kernel
theorem dX0_endYear_6 : decode cX0_endYear 6 = .ok (.laload, 1) := by decide +kernel
theorem dX0_endYear_7 : decode cX0_endYear 7 = .ok (.aload_n 0, 1) := by decide +kernel
theorem dX0_endYear_8 : decode cX0_endYear 8 = .ok (.invokevirtual 220, 3) := by decide +kernel
theorem dX0_endYear_11 : decode cX0_endYear 11 = .ok (.i2l, 1) := by decide +kernel
theorem dX0_endYear_12 : decode cX0_endYear 12 = .ok (.ladd, 1) := by decide +kernel
theorem dX0_endYear_13 : decode cX0_endYear 13 = .ok (.lastore, 1) := by decide +kernel
theorem dX0_endYear_14 : decode cX0_endYear 14 = .ok (.iconst 0, 1) := by decide +kernel
theorem dX0_endYear_15 : decode cX0_endYear 15 = .ok (.istore_n 1, 1) := by decide +kernel
theorem dX0_endYear_16 : decode cX0_endYear 16 = .ok (.iload_n 1, 1) := by decide +kernel
theorem dX0_endYear_17 : decode cX0_endYear 17 = .ok (.bipush 12, 2) := by decide +kernel
theorem dX0_endYear_19 : decode cX0_endYear 19 = .ok (.if_icmp .ge 18, 3) := by decide +kernel
theorem dX0_endYear_22 : decode cX0_endYear 22 = .ok (.aload_n 0, 1) := by decide +kernel
theorem dX0_endYear_23 : decode cX0_endYear 23 = .ok (.getfield 23, 3) := by decide +kernel
theorem dX0_endYear_26 : decode cX0_endYear 26 = .ok (.iload_n 1, 1) := by decide +kernel
theorem dX0_endYear_27 : decode cX0_endYear 27 = .ok (.aaload, 1) := by decide +kernel
theorem dX0_endYear_28 : decode cX0_endYear 28 = .ok (.invokevirtual 223, 3) := by decide +kernel
theorem dX0_endYear_31 : decode cX0_endYear 31 = .ok (.iinc 1 1, 3) := by decide +kernel
theorem dX0_endYear_34 : decode cX0_endYear 34 = .ok (.goto (-18), 3) := by decide +kernel
theorem dX0_endYear_37 : decode cX0_endYear 37 = .ok (.iconst 0, 1) := by decide +kernel
theorem dX0_endYear_38 : decode cX0_endYear 38 = .ok (.istore_n 1, 1) := by decide +kernel
theorem dX0_endYear_39 : decode cX0_endYear 39 = .ok (.iload_n 1, 1) := by decide +kernel
theorem dX0_endYear_40 : decode cX0_endYear 40 = .ok (.bipush 50, 2) := by decide +kernel
theorem dX0_endYear_42 : decode cX0_endYear 42 = .ok (.if_icmp .ge 16, 3) := by decide +kernel
theorem dX0_endYear_45 : decode cX0_endYear 45 = .ok (.aload_n 0, 1) := by decide +kernel
theorem dX0_endYear_46 : decode cX0_endYear 46 = .ok (.getfield 43, 3) := by decide +kernel
theorem dX0_endYear_49 : decode cX0_endYear 49 = .ok (.iload_n 1, 1) := by decide +kernel
theorem dX0_endYear_50 : decode cX0_endYear 50 = .ok (.iconst 0, 1) := by decide +kernel
theorem dX0_endYear_51 : decode cX0_endYear 51 = .ok (.iastore, 1) := by decide +kernel
theorem dX0_endYear_52 : decode cX0_endYear 52 = .ok (.iinc 1 1, 3) := by decide +kernel
theorem dX0_endYear_55 : decode cX0_endYear 55 = .ok (.goto (-16), 3) := by decide +kernel
theorem dX0_endYear_58 : decode cX0_endYear 58 = .ok (.aload_n 0, 1) := by decide +kernel
theorem dX0_endYear_59 : decode cX0_endYear 59 = .ok (.iconst (-1), 1) := by decide +kernel
theorem dX0_endYear_60 : decode cX0_endYear 60 = .ok (.putfield 49, 3) := by decide +kernel
theorem dX0_endYear_63 : decode cX0_endYear 63 = .ok (.aload_n 0, 1) := by decide +kernel
theorem dX0_endYear_64 : decode cX0_endYear 64 = .ok (.dup, 1) := by decide +kernel
theorem dX0_endYear_65 : decode cX0_endYear 65 = .ok (.getfield 30, 3) := by decide +kernel
theorem dX0_endYear_68 : decode cX0_endYear 68 = .ok (.iconst 1, 1) := by decide +kernel
theorem dX0_endYear_69 : decode cX0_endYear 69 = .ok (.iadd, 1) := by decide +kernel
theorem dX0_endYear_70 : decode cX0_endYear 70 = .ok (.putfield 30, 3) := by decide +kernel
theorem dX0_endYear_73 : decode cX0_endYear 73 = .ok (.aload_n 0, 1) := by decide +kernel
theorem dX0_endYear_74 : decode cX0_endYear 74 = .ok (.iconst 0, 1) := by decide +kernel
theorem dX0_endYear_75 : decode cX0_endYear 75 = .ok (.putfield 33, 3) := by decide +kernel
theorem dX0_endYear_78 : decode cX0_endYear 78 = .ok (.return_, 1) := by decide +kernel
theorem cv_0_220 : CV RX0 220 0 0 I_X0_fruitsOnTrees := ⟨⟨⟨gm 651 (by decide +kernel) rfl, gm 654 (by decide +kernel) rfl, gm 38 (by decide +kernel) rfl, mh_0.1, mh_0.2, by decide +kernel⟩, gm 652 (by decide +kernel) rfl, gm 653 (by decide +kernel) rfl⟩, ⟨_, _, rfl⟩, rfl, rfl⟩
theorem cv_0_223 : CV RX0 223 0 2 I_X2_endYear := ⟨⟨⟨gm 656 (by decide +kernel) rfl, gm 659 (by decide +kernel) rfl, gm 40 (by decide +kernel) rfl, mh_2.1, mh_2.2, by decide +kernel⟩, gm 657 (by decide +kernel) rfl, gm 658 (by decide +kernel) rfl⟩, ⟨_, _, rfl⟩, rfl, rfl⟩
def f_X0_endYear_L16 (fuel : Nat) (K : St → Option (St)) (a16_1 : Int32) (S16 : St) : Option (St) := match fuel with
  | 0 => none
  | n + 1 => if a16_1 < (12 : Int32) then (if inb a16_1 12 = true then ((f_X2_endYear (20 + 2 * ix a16_1) S16).bind fun v28 => (f_X0_endYear_L16 n K (a16_1 + (1 : Int32)) v28)) else none) else (K S16)
def f_X0_endYear_L39 (fuel : Nat) (K : St → Option (St)) (a39_1 : Int32) (S39 : St) : Option (St) := match fuel with
  | 0 => none
  | n + 1 => if a39_1 < (50 : Int32) then (if inb a39_1 50 = true then (f_X0_endYear_L39 n K (a39_1 + (1 : Int32)) (wr S39 6 (ix a39_1) (0 : Int32))) else none) else (K S39)
def f_X0_endYear  (S : St) : Option (St) := (f_X0_fruitsOnTrees S).bind fun v8 => (f_X0_endYear_L16 6000 (fun T37 => (f_X0_endYear_L39 6000 (fun T58 => (some (wr (wr (wr T58 1 10 (-1 : Int32)) 1 4 ((rd (wr T58 1 10 (-1 : Int32)) 1 4) + (1 : Int32))) 1 5 (0 : Int32)))) (0 : Int32) T37)) (0 : Int32) (wrL S 7 (ix (4 : Int32)) ((rdL S 7 (ix (4 : Int32))) + v8.toInt64)))
set_option maxRecDepth 100000 in
theorem jl_X0_endYear_16 (l : Launch) (w : Wd) (K : St → Option (St)) (n : Nat) : ∀ (a16_1 : Int32) (S16 : St), (∀  (S' : St) , J l w I_X0_endYear 37 [(0, .ref (w.2.1 + 1))] [] S' (fun b => (none, b)) (K  S')) → J l w I_X0_endYear 16 [(0, .ref (w.2.1 + 1)), (1, .int a16_1)] [] S16 (fun b => (none, b)) (f_X0_endYear_L16 n K a16_1 S16) := by
  induction n with
  | zero =>
    intro a16_1 S16 hK b h
    simp only [f_X0_endYear_L16] at h
    cases h
  | succ n ih =>
    intro a16_1 S16 hK
    rw [f_X0_endYear_L16]
    refine j_iload_n (y := I_X0_endYear) 1 dX0_endYear_16 rfl rfl ?_
    refine j_bipush (y := I_X0_endYear) (v := 12) dX0_endYear_17 (by decide) ?_
    refine j_icmp_ge (y := I_X0_endYear) 37 dX0_endYear_19 (by decide) (fun h19 => ?_) (fun h19 => ?_)
    · refine j_sub [0] rfl ?_
      exact hK S16
    · refine j_aload_n (y := I_X0_endYear) 0 dX0_endYear_22 rfl rfl ?_
      refine j_getR (y := I_X0_endYear) (j := 3) fl_0_23 k_1 rfl rfl dX0_endYear_23 ?_
      refine j_iload_n (y := I_X0_endYear) 1 dX0_endYear_26 rfl rfl ?_
      refine j_aald (y := I_X0_endYear) (j := (20 + 2 * ix a16_1)) (tt := 1) k_3 rfl (rho_3 _) dX0_endYear_27 (fun h27 => ?_)
      refine j_callVvS (y := I_X0_endYear) (As := []) cv_0_223 ⟨Nat.le_of_ble_eq_true rfl, Nat.le_of_ble_eq_true rfl⟩ (kd_Pl _ (inb_lt h27)) rfl (Nat.le_of_ble_eq_true rfl) dX0_endYear_28 (c_X2_endYear l w (20 + 2 * ix a16_1) S16 (kd_Pl _ (inb_lt h27))) (fun v28 h28 => ?_)
      refine j_iinc (y := I_X0_endYear) 1 (ls' := [(1, .int (a16_1 + (1 : Int32))), (0, .ref (w.2.1 + 1))]) dX0_endYear_31 rfl (ii _ _ (by decide) _) (by decide) rfl ?_
      refine j_goto (y := I_X0_endYear) 16 dX0_endYear_34 (by decide) ?_
      refine j_sub [1, 0] rfl ?_
      exact ih (a16_1 + (1 : Int32)) v28 hK
set_option maxRecDepth 100000 in
theorem jl_X0_endYear_39 (l : Launch) (w : Wd) (K : St → Option (St)) (n : Nat) : ∀ (a39_1 : Int32) (S39 : St), (∀  (S' : St) , J l w I_X0_endYear 58 [(0, .ref (w.2.1 + 1))] [] S' (fun b => (none, b)) (K  S')) → J l w I_X0_endYear 39 [(0, .ref (w.2.1 + 1)), (1, .int a39_1)] [] S39 (fun b => (none, b)) (f_X0_endYear_L39 n K a39_1 S39) := by
  induction n with
  | zero =>
    intro a39_1 S39 hK b h
    simp only [f_X0_endYear_L39] at h
    cases h
  | succ n ih =>
    intro a39_1 S39 hK
    rw [f_X0_endYear_L39]
    refine j_iload_n (y := I_X0_endYear) 1 dX0_endYear_39 rfl rfl ?_
    refine j_bipush (y := I_X0_endYear) (v := 50) dX0_endYear_40 (by decide) ?_
    refine j_icmp_ge (y := I_X0_endYear) 58 dX0_endYear_42 (by decide) (fun h42 => ?_) (fun h42 => ?_)
    · refine j_sub [0] rfl ?_
      exact hK S39
    · refine j_aload_n (y := I_X0_endYear) 0 dX0_endYear_45 rfl rfl ?_
      refine j_getR (y := I_X0_endYear) (j := 6) fl_0_43 k_1 rfl rfl dX0_endYear_46 ?_
      refine j_iload_n (y := I_X0_endYear) 1 dX0_endYear_49 rfl rfl ?_
      refine j_iconst (y := I_X0_endYear) (v := 0) dX0_endYear_50 (by decide) ?_
      refine j_iast (y := I_X0_endYear) k_6 dX0_endYear_51 (fun h51 => ?_)
      refine j_iinc (y := I_X0_endYear) 1 (ls' := [(1, .int (a39_1 + (1 : Int32))), (0, .ref (w.2.1 + 1))]) dX0_endYear_52 rfl (ii _ _ (by decide) _) (by decide) rfl ?_
      refine j_goto (y := I_X0_endYear) 39 dX0_endYear_55 (by decide) ?_
      refine j_sub [1, 0] rfl ?_
      exact ih (a39_1 + (1 : Int32)) (wr S39 6 (ix a39_1) (0 : Int32)) hK
set_option maxRecDepth 100000 in
set_option maxHeartbeats 4000000 in
theorem m_X0_endYear (l : Launch) (w : Wd)  (S : St)  : J l w I_X0_endYear 0 [(0, .ref (w.2.1 + 1))] [] S (fun b => (none, b)) (f_X0_endYear S) := by
  unfold f_X0_endYear
  refine j_aload_n (y := I_X0_endYear) 0 dX0_endYear_0 rfl rfl ?_
  refine j_getR (y := I_X0_endYear) (j := 7) fl_0_55 k_1 rfl rfl dX0_endYear_1 ?_
  refine j_iconst (y := I_X0_endYear) (v := 4) dX0_endYear_4 (by decide) ?_
  refine j_dup2 (y := I_X0_endYear) dX0_endYear_5 rfl rfl ?_
  refine j_laldL (y := I_X0_endYear) k_7 (by decide) dX0_endYear_6 ?_
  refine j_aload_n (y := I_X0_endYear) 0 dX0_endYear_7 rfl rfl ?_
  refine j_callViR (y := I_X0_endYear) (As := []) cv_0_220 ⟨Nat.le_of_ble_eq_true rfl, Nat.le_of_ble_eq_true rfl⟩ k_1 rfl (Nat.le_of_ble_eq_true rfl) dX0_endYear_8 (c_X0_fruitsOnTrees l w S) (fun v8 h8 => ?_)
  refine j_i2l (y := I_X0_endYear) dX0_endYear_11 ?_
  refine j_ladd (y := I_X0_endYear) dX0_endYear_12 ?_
  refine j_lastL (y := I_X0_endYear) k_7 (by decide) dX0_endYear_13 ?_
  refine j_iconst (y := I_X0_endYear) (v := 0) dX0_endYear_14 (by decide) ?_
  refine j_istore_n (y := I_X0_endYear) (ls' := [(1, .int (0 : Int32)), (0, .ref (w.2.1 + 1))]) dX0_endYear_15 rfl (by decide) rfl ?_
  refine j_sub [1, 0] rfl ?_
  refine jl_X0_endYear_16 l w _ 6000 (0 : Int32) (wrL S 7 (ix (4 : Int32)) ((rdL S 7 (ix (4 : Int32))) + v8.toInt64))  (fun T37 => ?_)
  refine j_iconst (y := I_X0_endYear) (v := 0) dX0_endYear_37 (by decide) ?_
  refine j_istore_n (y := I_X0_endYear) (ls' := [(1, .int (0 : Int32)), (0, .ref (w.2.1 + 1))]) dX0_endYear_38 rfl (by decide) rfl ?_
  refine j_sub [1, 0] rfl ?_
  refine jl_X0_endYear_39 l w _ 6000 (0 : Int32) T37  (fun T58 => ?_)
  refine j_aload_n (y := I_X0_endYear) 0 dX0_endYear_58 rfl rfl ?_
  refine j_iconst (y := I_X0_endYear) (v := -1) dX0_endYear_59 (by decide) ?_
  refine j_putI (y := I_X0_endYear) fp_0_49 k_1 rfl rfl rfl dX0_endYear_60 ?_
  refine j_aload_n (y := I_X0_endYear) 0 dX0_endYear_63 rfl rfl ?_
  refine j_dup (y := I_X0_endYear) dX0_endYear_64 rfl ?_
  refine j_getI (y := I_X0_endYear) fl_0_30 k_1 rfl dX0_endYear_65 ?_
  refine j_iconst (y := I_X0_endYear) (v := 1) dX0_endYear_68 (by decide) ?_
  refine j_iadd (y := I_X0_endYear) dX0_endYear_69 ?_
  refine j_putI (y := I_X0_endYear) fp_0_30 k_1 rfl rfl rfl dX0_endYear_70 ?_
  refine j_aload_n (y := I_X0_endYear) 0 dX0_endYear_73 rfl rfl ?_
  refine j_iconst (y := I_X0_endYear) (v := 0) dX0_endYear_74 (by decide) ?_
  refine j_putI (y := I_X0_endYear) fp_0_33 k_1 rfl rfl rfl dX0_endYear_75 ?_
  exact j_vret (y := I_X0_endYear) rfl dX0_endYear_78 rfl
theorem c_X0_endYear (l : Launch) (w : Wd)  (S : St)  : ∀ v, f_X0_endYear S = some v → CtS l w I_X0_endYear [.ref (w.2.1 + 1)] S v none := fun v h => J.ct (av := [.ref (w.2.1 + 1)]) (Nat.le_of_ble_eq_true rfl) pn_0 (m_X0_endYear l w  S ) h
abbrev I_X0_tellTree : MI := (yX0_tellTree, cX0_tellTree, 3, some .int, { frames := 2, cells := 0, slots := 0, locals := 43 })
theorem dX0_tellTree_0 : decode cX0_tellTree 0 = .ok (.iload_n 2, 1) := by decide +kernel
theorem dX0_tellTree_1 : decode cX0_tellTree 1 = .ok (.tableswitch 73 1 6 #[39, 44, 49, 54, 59, 64], 39) := by decide +kernel
theorem dX0_tellTree_40 : decode cX0_tellTree 40 = .ok (.aload_n 1, 1) := by decide +kernel
theorem dX0_tellTree_41 : decode cX0_tellTree 41 = .ok (.getfield 77, 3) := by decide +kernel
theorem dX0_tellTree_44 : decode cX0_tellTree 44 = .ok (.ireturn, 1) := by decide +kernel
theorem dX0_tellTree_45 : decode cX0_tellTree 45 = .ok (.aload_n 1, 1) := by decide +kernel
theorem dX0_tellTree_46 : decode cX0_tellTree 46 = .ok (.getfield 80, 3) := by decide +kernel
theorem dX0_tellTree_49 : decode cX0_tellTree 49 = .ok (.ireturn, 1) := by decide +kernel
theorem dX0_tellTree_50 : decode cX0_tellTree 50 = .ok (.aload_n 1, 1) := by decide +kernel
theorem dX0_tellTree_51 : decode cX0_tellTree 51 = .ok (.getfield 83, 3) := by decide +kernel
theorem dX0_tellTree_54 : decode cX0_tellTree 54 = .ok (.ireturn, 1) := by decide +kernel
theorem dX0_tellTree_55 : decode cX0_tellTree 55 = .ok (.aload_n 1, 1) := by decide +kernel
theorem dX0_tellTree_56 : decode cX0_tellTree 56 = .ok (.getfield 86, 3) := by decide +kernel
theorem dX0_tellTree_59 : decode cX0_tellTree 59 = .ok (.ireturn, 1) := by decide +kernel
theorem dX0_tellTree_60 : decode cX0_tellTree 60 = .ok (.aload_n 1, 1) := by decide +kernel
theorem dX0_tellTree_61 : decode cX0_tellTree 61 = .ok (.getfield 89, 3) := by decide +kernel
theorem dX0_tellTree_64 : decode cX0_tellTree 64 = .ok (.ireturn, 1) := by decide +kernel
theorem dX0_tellTree_65 : decode cX0_tellTree 65 = .ok (.aload_n 1, 1) := by decide +kernel
theorem dX0_tellTree_66 : decode cX0_tellTree 66 = .ok (.aload_n 0, 1) := by decide +kernel
theorem dX0_tellTree_67 : decode cX0_tellTree 67 = .ok (.getfield 30, 3) := by decide +kernel
theorem dX0_tellTree_70 : decode cX0_tellTree 70 = .ok (.invokevirtual 92, 3) := by decide +kernel
theorem dX0_tellTree_73 : decode cX0_tellTree 73 = .ok (.ireturn, 1) := by decide +kernel
theorem dX0_tellTree_74 : decode cX0_tellTree 74 = .ok (.aload_n 0, 1) := by decide +kernel
theorem dX0_tellTree_75 : decode cX0_tellTree 75 = .ok (.aload_n 1, 1) := by decide +kernel
theorem dX0_tellTree_76 : decode cX0_tellTree 76 = .ok (.invokevirtual 96, 3) := by decide +kernel
theorem dX0_tellTree_79 : decode cX0_tellTree 79 = .ok (.ireturn, 1) := by decide +kernel
def f_X0_tellTree (u1 : Nat) (x2 : Int32) (S : St) : Option (Int32) := if x2 = (1 : Int32) then (some (rd S u1 3)) else (if x2 = (2 : Int32) then (some (rd S u1 4)) else (if x2 = (3 : Int32) then (some (rd S u1 5)) else (if x2 = (4 : Int32) then (some (rd S u1 6)) else (if x2 = (5 : Int32) then (some (rd S u1 7)) else (if x2 = (6 : Int32) then (some (f_X2_heightIn u1 (rd S 1 4) S)) else ((f_X0_budsOf u1 S).bind fun v76 => (some v76)))))))
set_option maxRecDepth 100000 in
set_option maxHeartbeats 4000000 in
theorem m_X0_tellTree (l : Launch) (w : Wd) (u1 : Nat) (x2 : Int32) (S : St) (hu1 : kd u1 = KdPlace) : J l w I_X0_tellTree 0 [(0, .ref (w.2.1 + 1)), (1, .ref (w.2.1 + u1)), (2, .int x2)] [] S (fun b => (some (.int b), S)) (f_X0_tellTree u1 x2 S) := by
  unfold f_X0_tellTree
  refine j_iload_n (y := I_X0_tellTree) 2 dX0_tellTree_0 rfl rfl ?_
  refine j_ite (y := I_X0_tellTree) (fun h1_1 => ?_) (fun h1_1 => ?_)
  · refine j_tabIn (y := I_X0_tellTree) 40 dX0_tellTree_1 (by rw [h1_1]; decide) (by rw [h1_1]; decide) (by rw [h1_1]; rfl) (by decide) ?_
    refine j_aload_n (y := I_X0_tellTree) 1 dX0_tellTree_40 rfl rfl ?_
    refine j_getI (y := I_X0_tellTree) fl_0_77 hu1 rfl dX0_tellTree_41 ?_
    exact j_iret (y := I_X0_tellTree) rfl dX0_tellTree_44 rfl
  · skip
    refine j_ite (y := I_X0_tellTree) (fun h1_2 => ?_) (fun h1_2 => ?_)
    · refine j_tabIn (y := I_X0_tellTree) 45 dX0_tellTree_1 (by rw [h1_2]; decide) (by rw [h1_2]; decide) (by rw [h1_2]; rfl) (by decide) ?_
      refine j_aload_n (y := I_X0_tellTree) 1 dX0_tellTree_45 rfl rfl ?_
      refine j_getI (y := I_X0_tellTree) fl_0_80 hu1 rfl dX0_tellTree_46 ?_
      exact j_iret (y := I_X0_tellTree) rfl dX0_tellTree_49 rfl
    · skip
      refine j_ite (y := I_X0_tellTree) (fun h1_3 => ?_) (fun h1_3 => ?_)
      · refine j_tabIn (y := I_X0_tellTree) 50 dX0_tellTree_1 (by rw [h1_3]; decide) (by rw [h1_3]; decide) (by rw [h1_3]; rfl) (by decide) ?_
        refine j_aload_n (y := I_X0_tellTree) 1 dX0_tellTree_50 rfl rfl ?_
        refine j_getI (y := I_X0_tellTree) fl_0_83 hu1 rfl dX0_tellTree_51 ?_
        exact j_iret (y := I_X0_tellTree) rfl dX0_tellTree_54 rfl
      · skip
        refine j_ite (y := I_X0_tellTree) (fun h1_4 => ?_) (fun h1_4 => ?_)
        · refine j_tabIn (y := I_X0_tellTree) 55 dX0_tellTree_1 (by rw [h1_4]; decide) (by rw [h1_4]; decide) (by rw [h1_4]; rfl) (by decide) ?_
          refine j_aload_n (y := I_X0_tellTree) 1 dX0_tellTree_55 rfl rfl ?_
          refine j_getI (y := I_X0_tellTree) fl_0_86 hu1 rfl dX0_tellTree_56 ?_
          exact j_iret (y := I_X0_tellTree) rfl dX0_tellTree_59 rfl
        · skip
          refine j_ite (y := I_X0_tellTree) (fun h1_5 => ?_) (fun h1_5 => ?_)
          · refine j_tabIn (y := I_X0_tellTree) 60 dX0_tellTree_1 (by rw [h1_5]; decide) (by rw [h1_5]; decide) (by rw [h1_5]; rfl) (by decide) ?_
            refine j_aload_n (y := I_X0_tellTree) 1 dX0_tellTree_60 rfl rfl ?_
            refine j_getI (y := I_X0_tellTree) fl_0_89 hu1 rfl dX0_tellTree_61 ?_
            exact j_iret (y := I_X0_tellTree) rfl dX0_tellTree_64 rfl
          · skip
            refine j_ite (y := I_X0_tellTree) (fun h1_6 => ?_) (fun h1_6 => ?_)
            · refine j_tabIn (y := I_X0_tellTree) 65 dX0_tellTree_1 (by rw [h1_6]; decide) (by rw [h1_6]; decide) (by rw [h1_6]; rfl) (by decide) ?_
              refine j_aload_n (y := I_X0_tellTree) 1 dX0_tellTree_65 rfl rfl ?_
              refine j_aload_n (y := I_X0_tellTree) 0 dX0_tellTree_66 rfl rfl ?_
              refine j_getI (y := I_X0_tellTree) fl_0_30 k_1 rfl dX0_tellTree_67 ?_
              refine j_callViT (y := I_X0_tellTree) (As := [.int (rd S 1 4)]) cv_0_92 ⟨Nat.le_of_ble_eq_true rfl, Nat.le_of_ble_eq_true rfl⟩ hu1 rfl (Nat.le_of_ble_eq_true rfl) dX0_tellTree_70 (c_X2_heightIn l w u1 (rd S 1 4) S hu1) ?_
              exact j_iret (y := I_X0_tellTree) rfl dX0_tellTree_73 rfl
            · skip
              have e1 : (x2).toInt ≠ 1 := fun e => h1_1 (Int32.toInt_inj.mp (e.trans (by decide)))
              have e2 : (x2).toInt ≠ 2 := fun e => h1_2 (Int32.toInt_inj.mp (e.trans (by decide)))
              have e3 : (x2).toInt ≠ 3 := fun e => h1_3 (Int32.toInt_inj.mp (e.trans (by decide)))
              have e4 : (x2).toInt ≠ 4 := fun e => h1_4 (Int32.toInt_inj.mp (e.trans (by decide)))
              have e5 : (x2).toInt ≠ 5 := fun e => h1_5 (Int32.toInt_inj.mp (e.trans (by decide)))
              have e6 : (x2).toInt ≠ 6 := fun e => h1_6 (Int32.toInt_inj.mp (e.trans (by decide)))
              refine j_tabOut (y := I_X0_tellTree) 74 dX0_tellTree_1 (by omega) (by decide) ?_
              refine j_aload_n (y := I_X0_tellTree) 0 dX0_tellTree_74 rfl rfl ?_
              refine j_aload_n (y := I_X0_tellTree) 1 dX0_tellTree_75 rfl rfl ?_
              refine j_callViR (y := I_X0_tellTree) (As := [.ref (w.2.1 + u1)]) cv_0_96 ⟨Nat.le_of_ble_eq_true rfl, Nat.le_of_ble_eq_true rfl⟩ k_1 rfl (Nat.le_of_ble_eq_true rfl) dX0_tellTree_76 (c_X0_budsOf l w u1 S hu1) (fun v76 h76 => ?_)
              exact j_iret (y := I_X0_tellTree) rfl dX0_tellTree_79 rfl
theorem c_X0_tellTree (l : Launch) (w : Wd) (u1 : Nat) (x2 : Int32) (S : St) (hu1 : kd u1 = KdPlace) : ∀ v, f_X0_tellTree u1 x2 S = some v → CtS l w I_X0_tellTree [.ref (w.2.1 + 1), .ref (w.2.1 + u1), .int x2] S S (some (.int v)) := fun v h => J.ct (av := [.ref (w.2.1 + 1), .ref (w.2.1 + u1), .int x2]) (Nat.le_of_ble_eq_true rfl) pn_0 (m_X0_tellTree l w u1 x2 S hu1) h
