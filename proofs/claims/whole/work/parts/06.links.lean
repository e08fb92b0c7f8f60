theorem mw_ini : Cond.initialized "java/lang/Math" ∈ gw := gm 45 (by decide +kernel) rfl
theorem mw_max : Cond.static Lib.Math.max.name ∈ gw ∧ Cond.code Lib.Math.max.name Lib.Math.max.code 2 (some .int) ∈ gw := ⟨gm 422 (by decide +kernel) rfl, gm 423 (by decide +kernel) rfl⟩
theorem mw_min : Cond.static Lib.Math.min.name ∈ gw ∧ Cond.code Lib.Math.min.name Lib.Math.min.code 2 (some .int) ∈ gw := ⟨gm 415 (by decide +kernel) rfl, gm 416 (by decide +kernel) rfl⟩
theorem mw_abs : Cond.static Lib.Math.abs.name ∈ gw ∧ Cond.code Lib.Math.abs.name Lib.Math.abs.code 1 (some .int) ∈ gw := ⟨gm 579 (by decide +kernel) rfl, gm 580 (by decide +kernel) rfl⟩
theorem ii (n : Int) (c : Int32) (h : Int32.ofInt n = c) (x : Int32) : x + Int32.ofInt n = x + c := by rw [h]
theorem fit_b2i (q : Bool) : fits .boolean (.int (b2i q)) = true := by cases q <;> rfl
theorem j_si {l : Launch} {w : Wd} {y : MI} {pc : Nat} {ls : List (Nat × Value)} {st : List Value} {β : Type} {R : β → Option Value × St} {S : St} {c : Prop} {ic : Decidable c} {a b : β} (h : J l w y pc ls st S R (if c then some a else some b)) : J l w y pc ls st S R (some (if c then a else b)) := by
  intro v hv
  refine h v ?_
  by_cases hc : c
  · rw [if_pos hc] at hv ⊢; exact hv
  · rw [if_neg hc] at hv ⊢; exact hv
theorem j_aload_nq {l : Launch} {w : Wd} {y : MI} {pc : Nat} {ls : List (Nat × Value)} {st : List Value} {β : Type} {R : β → Option Value × St} {X : Option β} {S : St} (kp : Nat) {q : Fin 4} {i : Nat} {x : Option Nat} (d : decode y.2.1 pc = .ok (.aload_n q, 1)) (hi : (q : Nat) = i) (hk : ls[kp]? = some (i, va_rf x)) (k : J l w y (pc + 1) ls (va_rf x :: st) S R X) : J l w y pc ls st S R X := by
  cases x with
  | none => exact j_aload_nN kp d hi hk k
  | some a => exact j_aload_n kp d hi hk k
def mxI (x z : Int32) : Int32 := if x < z then z else x
def mnI (x z : Int32) : Int32 := if z < x then z else x
def abI (x : Int32) : Int32 := if 0 ≤ x then x else 0 - x
section MathRules
variable {l : Launch} {w : Wd} {y : MI} {pc idx : Nat} {ls : List (Nat × Value)} {st : List Value} {β : Type} {R : β → Option Value × St} {X : Option β} {S : St} {x z : Int32}
theorem j_mmax (h1 : Cond.methodLink y.1.cls idx Lib.Math.max.name ∈ gw) (hfr : 1 ≤ y.2.2.2.2.frames) (hlo : (st.map fun v => v.category).sum + 13 ≤ y.2.2.2.2.locals) (d : decode y.2.1 pc = .ok (.invokestatic idx, 3)) (k : J l w y (pc + 3) ls (.int (mxI x z) :: st) S R X) : J l w y pc ls (.int z :: .int x :: st) S R X := fun b hb p e s m args below meth c H locs Ls C hR hS hl => va_mmax C.1 C.2.1 (C.2.2.1.trans hl.1.symm) C.2.2.2.1 (C.2.2.2.2.1 _ h1) (C.2.2.2.2.1 _ mw_max.1) (C.2.2.2.2.1 _ mw_ini) (C.2.2.2.2.1 _ mw_max.2) hfr hlo (Nat.zero_le _) (Nat.zero_le _) d (k b hb p e s m args below meth c H locs Ls C hR hS hl)
theorem j_mmin (h1 : Cond.methodLink y.1.cls idx Lib.Math.min.name ∈ gw) (hfr : 1 ≤ y.2.2.2.2.frames) (hlo : (st.map fun v => v.category).sum + 13 ≤ y.2.2.2.2.locals) (d : decode y.2.1 pc = .ok (.invokestatic idx, 3)) (k : J l w y (pc + 3) ls (.int (mnI x z) :: st) S R X) : J l w y pc ls (.int z :: .int x :: st) S R X := fun b hb p e s m args below meth c H locs Ls C hR hS hl => va_mmin C.1 C.2.1 (C.2.2.1.trans hl.1.symm) C.2.2.2.1 (C.2.2.2.2.1 _ h1) (C.2.2.2.2.1 _ mw_min.1) (C.2.2.2.2.1 _ mw_ini) (C.2.2.2.2.1 _ mw_min.2) hfr hlo (Nat.zero_le _) (Nat.zero_le _) d (k b hb p e s m args below meth c H locs Ls C hR hS hl)
theorem j_mabs (h1 : Cond.methodLink y.1.cls idx Lib.Math.abs.name ∈ gw) (hfr : 1 ≤ y.2.2.2.2.frames) (hlo : (st.map fun v => v.category).sum + 13 ≤ y.2.2.2.2.locals) (d : decode y.2.1 pc = .ok (.invokestatic idx, 3)) (k : J l w y (pc + 3) ls (.int (abI x) :: st) S R X) : J l w y pc ls (.int x :: st) S R X := fun b hb p e s m args below meth c H locs Ls C hR hS hl => va_mabs C.1 C.2.1 (C.2.2.1.trans hl.1.symm) C.2.2.2.1 (C.2.2.2.2.1 _ h1) (C.2.2.2.2.1 _ mw_abs.1) (C.2.2.2.2.1 _ mw_ini) (C.2.2.2.2.1 _ mw_abs.2) hfr hlo (Nat.zero_le _) (Nat.zero_le _) d (k b hb p e s m args below meth c H locs Ls C hR hS hl)
end MathRules

theorem iX0 : ∀ q ∈ u_ws RX0 TX0 13, q ∈ gw := by decide +kernel
theorem iX1 : ∀ q ∈ u_ws RX1 TX1 10, q ∈ gw := by decide +kernel
theorem iX2 : ∀ q ∈ u_ws RX2 TX2 11, q ∈ gw := by decide +kernel
theorem iX3 : ∀ q ∈ u_ws RX3 TX3 4, q ∈ gw := by decide +kernel
theorem iX4 : ∀ q ∈ u_ws RX4 TX4 3, q ∈ gw := by decide +kernel
theorem iX5 : ∀ q ∈ u_ws RX5 TX5 8, q ∈ gw := by decide +kernel
theorem iX6 : ∀ q ∈ u_ws RX6 TX6 7, q ∈ gw := by decide +kernel
theorem iX7 : ∀ q ∈ u_ws RX7 TX7 19, q ∈ gw := by decide +kernel
theorem pn_0 : plainName RX0 = true := by decide +kernel
theorem mh_0 : RX0 ≠ "java/lang/invoke/MethodHandle" ∧ RX0 ≠ "java/lang/invoke/VarHandle" := by decide +kernel
theorem pn_1 : plainName RX1 = true := by decide +kernel
theorem mh_1 : RX1 ≠ "java/lang/invoke/MethodHandle" ∧ RX1 ≠ "java/lang/invoke/VarHandle" := by decide +kernel
theorem pn_2 : plainName RX2 = true := by decide +kernel
theorem mh_2 : RX2 ≠ "java/lang/invoke/MethodHandle" ∧ RX2 ≠ "java/lang/invoke/VarHandle" := by decide +kernel
theorem pn_3 : plainName RX3 = true := by decide +kernel
theorem mh_3 : RX3 ≠ "java/lang/invoke/MethodHandle" ∧ RX3 ≠ "java/lang/invoke/VarHandle" := by decide +kernel
theorem pn_4 : plainName RX4 = true := by decide +kernel
theorem mh_4 : RX4 ≠ "java/lang/invoke/MethodHandle" ∧ RX4 ≠ "java/lang/invoke/VarHandle" := by decide +kernel
theorem pn_5 : plainName RX5 = true := by decide +kernel
theorem mh_5 : RX5 ≠ "java/lang/invoke/MethodHandle" ∧ RX5 ≠ "java/lang/invoke/VarHandle" := by decide +kernel
theorem pn_6 : plainName RX6 = true := by decide +kernel
theorem mh_6 : RX6 ≠ "java/lang/invoke/MethodHandle" ∧ RX6 ≠ "java/lang/invoke/VarHandle" := by decide +kernel
theorem pn_7 : plainName RX7 = true := by decide +kernel
theorem mh_7 : RX7 ≠ "java/lang/invoke/MethodHandle" ∧ RX7 ≠ "java/lang/invoke/VarHandle" := by decide +kernel
theorem k_0 : kd 0 = KdFace := rfl
theorem k_1 : kd 1 = KdBook := rfl
theorem k_2 : kd 2 = .inr (3, 6) := rfl
theorem k_3 : kd 3 = .inr (4, 12) := rfl
theorem k_4 : kd 4 = Kints 50 := rfl
theorem k_5 : kd 5 = Kints 50 := rfl
theorem k_6 : kd 6 = Kints 50 := rfl
theorem k_7 : kd 7 = Klongs 10 := rfl
theorem k_44 : kd 44 = KdBook := rfl
theorem k_45 : kd 45 = .inr (3, 6) := rfl
theorem k_46 : kd 46 = .inr (4, 12) := rfl
theorem k_47 : kd 47 = Kints 50 := rfl
theorem k_48 : kd 48 = Kints 50 := rfl
theorem k_49 : kd 49 = Kints 50 := rfl
theorem k_50 : kd 50 = Klongs 10 := rfl
theorem k_87 : kd 87 = .inr (5, 4) := rfl
theorem k_96 : kd 96 = KdSeason := rfl
theorem k_97 : kd 97 = Kints 50 := rfl
theorem k_98 : kd 98 = Kints 51 := rfl
theorem k_99 : kd 99 = Kints 6 := rfl
theorem k_100 : kd 100 = Kints 6 := rfl
theorem k_101 : kd 101 = KdLaying := rfl
theorem k_102 : kd 102 = Kints 12 := rfl
theorem k_103 : kd 103 = Kints 12 := rfl
theorem k_104 : kd 104 = Kints 12 := rfl
theorem k_105 : kd 105 = Kints 12 := rfl
theorem k_106 : kd 106 = Kints 13 := rfl
theorem k_107 : kd 107 = Kints 36 := rfl
theorem k_108 : kd 108 = KdModel := rfl
theorem k_109 : kd 109 = Kints 788 := rfl
theorem k_110 : kd 110 = Kints 788 := rfl
theorem k_111 : kd 111 = Klongs 10 := rfl
theorem k_112 : kd 112 = Klongs 10 := rfl
theorem k_113 : kd 113 = Kints 4 := rfl
theorem k_114 : kd 114 = Kints 4 := rfl
theorem k_115 : kd 115 = Kints 200 := rfl
theorem k_116 : kd 116 = Kints 12 := rfl
theorem k_117 : kd 117 = Kints 50 := rfl
theorem k_118 : kd 118 = Kints 24 := rfl
theorem k_119 : kd 119 = Kints 24 := rfl
theorem k_120 : kd 120 = Kbools 24 := rfl
theorem k_121 : kd 121 = Kints 12 := rfl
theorem k_122 : kd 122 = Kints 12 := rfl
theorem k_123 : kd 123 = Kbools 36 := rfl
theorem k_124 : kd 124 = Kbools 144 := rfl
theorem fl_6_10 : FL RX6 10 6 0 := ⟨_, _, _, rfl, iX6, by decide, gm 302 (by decide +kernel) rfl⟩
theorem fl_6_16 : FL RX6 16 6 1 := ⟨_, _, _, rfl, iX6, by decide, gm 303 (by decide +kernel) rfl⟩
theorem fl_6_19 : FL RX6 19 6 2 := ⟨_, _, _, rfl, iX6, by decide, gm 304 (by decide +kernel) rfl⟩
theorem fl_6_25 : FL RX6 25 6 3 := ⟨_, _, _, rfl, iX6, by decide, gm 305 (by decide +kernel) rfl⟩
theorem fl_6_33 : FL RX6 33 6 4 := ⟨_, _, _, rfl, iX6, by decide, gm 306 (by decide +kernel) rfl⟩
theorem fl_6_40 : FL RX6 40 6 5 := ⟨_, _, _, rfl, iX6, by decide, gm 307 (by decide +kernel) rfl⟩
theorem fl_6_44 : FL RX6 44 6 6 := ⟨_, _, _, rfl, iX6, by decide, gm 308 (by decide +kernel) rfl⟩
theorem fl_6_56 : FL RX6 56 0 1 := ⟨_, _, _, rfl, iX0, by decide, gm 165 (by decide +kernel) rfl⟩
theorem fl_6_59 : FL RX6 59 0 0 := ⟨_, _, _, rfl, iX0, by decide, gm 161 (by decide +kernel) rfl⟩
theorem fl_6_86 : FL RX6 86 0 2 := ⟨_, _, _, rfl, iX0, by decide, gm 170 (by decide +kernel) rfl⟩
theorem fl_6_90 : FL RX6 90 2 2 := ⟨_, _, _, rfl, iX2, by decide, gm 117 (by decide +kernel) rfl⟩
theorem fl_6_101 : FL RX6 101 0 3 := ⟨_, _, _, rfl, iX0, by decide, gm 172 (by decide +kernel) rfl⟩
theorem fl_6_104 : FL RX6 104 0 4 := ⟨_, _, _, rfl, iX0, by decide, gm 174 (by decide +kernel) rfl⟩
theorem fl_6_111 : FL RX6 111 0 12 := ⟨_, _, _, rfl, iX0, by decide, gm 191 (by decide +kernel) rfl⟩
theorem fl_6_127 : FL RX6 127 2 8 := ⟨_, _, _, rfl, iX2, by decide, gm 131 (by decide +kernel) rfl⟩
theorem fl_6_137 : FL RX6 137 2 6 := ⟨_, _, _, rfl, iX2, by decide, gm 127 (by decide +kernel) rfl⟩
theorem fl_6_152 : FL RX6 152 4 1 := ⟨_, _, _, rfl, iX4, by decide, gm 229 (by decide +kernel) rfl⟩
theorem fl_6_164 : FL RX6 164 4 0 := ⟨_, _, _, rfl, iX4, by decide, gm 227 (by decide +kernel) rfl⟩
theorem fl_6_169 : FL RX6 169 4 2 := ⟨_, _, _, rfl, iX4, by decide, gm 231 (by decide +kernel) rfl⟩
theorem fl_6_179 : FL RX6 179 0 10 := ⟨_, _, _, rfl, iX0, by decide, gm 187 (by decide +kernel) rfl⟩
theorem fl_6_197 : FL RX6 197 3 1 := ⟨_, _, _, rfl, iX3, by decide, gm 248 (by decide +kernel) rfl⟩
theorem fl_6_203 : FL RX6 203 3 2 := ⟨_, _, _, rfl, iX3, by decide, gm 250 (by decide +kernel) rfl⟩
theorem fl_6_206 : FL RX6 206 0 5 := ⟨_, _, _, rfl, iX0, by decide, gm 177 (by decide +kernel) rfl⟩
theorem fl_6_209 : FL RX6 209 0 7 := ⟨_, _, _, rfl, iX0, by decide, gm 181 (by decide +kernel) rfl⟩
theorem fl_6_212 : FL RX6 212 0 8 := ⟨_, _, _, rfl, iX0, by decide, gm 183 (by decide +kernel) rfl⟩
theorem fl_6_235 : FL RX6 235 2 10 := ⟨_, _, _, rfl, iX2, by decide, gm 136 (by decide +kernel) rfl⟩
theorem fl_6_241 : FL RX6 241 0 9 := ⟨_, _, _, rfl, iX0, by decide, gm 185 (by decide +kernel) rfl⟩
theorem fl_6_244 : FL RX6 244 5 6 := ⟨_, _, _, rfl, iX5, by decide, gm 83 (by decide +kernel) rfl⟩
theorem fl_6_247 : FL RX6 247 0 11 := ⟨_, _, _, rfl, iX0, by decide, gm 189 (by decide +kernel) rfl⟩
theorem fl_6_267 : FL RX6 267 1 0 := ⟨_, _, _, rfl, iX1, by decide, gm 268 (by decide +kernel) rfl⟩
theorem fl_6_270 : FL RX6 270 1 1 := ⟨_, _, _, rfl, iX1, by decide, gm 270 (by decide +kernel) rfl⟩
theorem fl_6_276 : FL RX6 276 1 2 := ⟨_, _, _, rfl, iX1, by decide, gm 272 (by decide +kernel) rfl⟩
theorem fl_6_289 : FL RX6 289 1 6 := ⟨_, _, _, rfl, iX1, by decide, gm 277 (by decide +kernel) rfl⟩
theorem fl_0_11 : FL RX0 11 0 0 := ⟨_, _, _, rfl, iX0, by decide, gm 160 (by decide +kernel) rfl⟩
theorem fl_0_17 : FL RX0 17 0 1 := ⟨_, _, _, rfl, iX0, by decide, gm 164 (by decide +kernel) rfl⟩
theorem fl_0_23 : FL RX0 23 0 2 := ⟨_, _, _, rfl, iX0, by decide, gm 168 (by decide +kernel) rfl⟩
theorem fl_0_27 : FL RX0 27 0 3 := ⟨_, _, _, rfl, iX0, by decide, gm 171 (by decide +kernel) rfl⟩
theorem fl_0_30 : FL RX0 30 0 4 := ⟨_, _, _, rfl, iX0, by decide, gm 173 (by decide +kernel) rfl⟩
theorem fl_0_33 : FL RX0 33 0 5 := ⟨_, _, _, rfl, iX0, by decide, gm 175 (by decide +kernel) rfl⟩
theorem fl_0_36 : FL RX0 36 0 6 := ⟨_, _, _, rfl, iX0, by decide, gm 178 (by decide +kernel) rfl⟩
theorem fl_0_40 : FL RX0 40 0 7 := ⟨_, _, _, rfl, iX0, by decide, gm 180 (by decide +kernel) rfl⟩
theorem fl_0_43 : FL RX0 43 0 8 := ⟨_, _, _, rfl, iX0, by decide, gm 182 (by decide +kernel) rfl⟩
theorem fl_0_46 : FL RX0 46 0 9 := ⟨_, _, _, rfl, iX0, by decide, gm 184 (by decide +kernel) rfl⟩
theorem fl_0_49 : FL RX0 49 0 10 := ⟨_, _, _, rfl, iX0, by decide, gm 186 (by decide +kernel) rfl⟩
theorem fl_0_52 : FL RX0 52 0 11 := ⟨_, _, _, rfl, iX0, by decide, gm 188 (by decide +kernel) rfl⟩
theorem fl_0_55 : FL RX0 55 0 12 := ⟨_, _, _, rfl, iX0, by decide, gm 190 (by decide +kernel) rfl⟩
theorem fl_0_61 : FL RX0 61 2 0 := ⟨_, _, _, rfl, iX2, by decide, gm 109 (by decide +kernel) rfl⟩
theorem fl_0_77 : FL RX0 77 2 3 := ⟨_, _, _, rfl, iX2, by decide, gm 120 (by decide +kernel) rfl⟩
theorem fl_0_80 : FL RX0 80 2 4 := ⟨_, _, _, rfl, iX2, by decide, gm 122 (by decide +kernel) rfl⟩
theorem fl_0_83 : FL RX0 83 2 5 := ⟨_, _, _, rfl, iX2, by decide, gm 124 (by decide +kernel) rfl⟩
theorem fl_0_86 : FL RX0 86 2 6 := ⟨_, _, _, rfl, iX2, by decide, gm 126 (by decide +kernel) rfl⟩
theorem fl_0_89 : FL RX0 89 2 7 := ⟨_, _, _, rfl, iX2, by decide, gm 129 (by decide +kernel) rfl⟩
theorem fl_0_100 : FL RX0 100 5 4 := ⟨_, _, _, rfl, iX5, by decide, gm 79 (by decide +kernel) rfl⟩
theorem fl_0_109 : FL RX0 109 2 2 := ⟨_, _, _, rfl, iX2, by decide, gm 118 (by decide +kernel) rfl⟩
theorem fl_0_115 : FL RX0 115 2 1 := ⟨_, _, _, rfl, iX2, by decide, gm 114 (by decide +kernel) rfl⟩
theorem fl_0_122 : FL RX0 122 5 6 := ⟨_, _, _, rfl, iX5, by decide, gm 82 (by decide +kernel) rfl⟩
theorem fl_0_155 : FL RX0 155 3 0 := ⟨_, _, _, rfl, iX3, by decide, gm 246 (by decide +kernel) rfl⟩
theorem fl_0_185 : FL RX0 185 2 10 := ⟨_, _, _, rfl, iX2, by decide, gm 135 (by decide +kernel) rfl⟩
theorem fl_0_188 : FL RX0 188 2 9 := ⟨_, _, _, rfl, iX2, by decide, gm 133 (by decide +kernel) rfl⟩
theorem fl_0_191 : FL RX0 191 5 1 := ⟨_, _, _, rfl, iX5, by decide, gm 74 (by decide +kernel) rfl⟩
theorem fl_0_200 : FL RX0 200 5 2 := ⟨_, _, _, rfl, iX5, by decide, gm 76 (by decide +kernel) rfl⟩
theorem fl_1_9 : FL RX1 9 1 4 := ⟨_, _, _, rfl, iX1, by decide, gm 274 (by decide +kernel) rfl⟩
theorem fl_1_15 : FL RX1 15 1 5 := ⟨_, _, _, rfl, iX1, by decide, gm 275 (by decide +kernel) rfl⟩
theorem fl_1_18 : FL RX1 18 1 6 := ⟨_, _, _, rfl, iX1, by decide, gm 276 (by decide +kernel) rfl⟩
theorem fl_1_21 : FL RX1 21 1 7 := ⟨_, _, _, rfl, iX1, by decide, gm 278 (by decide +kernel) rfl⟩
theorem fl_1_24 : FL RX1 24 1 8 := ⟨_, _, _, rfl, iX1, by decide, gm 279 (by decide +kernel) rfl⟩
theorem fl_1_27 : FL RX1 27 1 9 := ⟨_, _, _, rfl, iX1, by decide, gm 280 (by decide +kernel) rfl⟩
theorem fl_1_34 : FL RX1 34 0 1 := ⟨_, _, _, rfl, iX0, by decide, gm 166 (by decide +kernel) rfl⟩
theorem fl_1_40 : FL RX1 40 1 3 := ⟨_, _, _, rfl, iX1, by decide, gm 273 (by decide +kernel) rfl⟩
theorem fl_1_41 : FL RX1 41 1 2 := ⟨_, _, _, rfl, iX1, by decide, gm 271 (by decide +kernel) rfl⟩
theorem fl_1_44 : FL RX1 44 0 2 := ⟨_, _, _, rfl, iX0, by decide, gm 169 (by decide +kernel) rfl⟩
theorem fl_1_48 : FL RX1 48 2 2 := ⟨_, _, _, rfl, iX2, by decide, gm 116 (by decide +kernel) rfl⟩
theorem fl_1_61 : FL RX1 61 1 1 := ⟨_, _, _, rfl, iX1, by decide, gm 269 (by decide +kernel) rfl⟩
theorem fl_1_75 : FL RX1 75 0 0 := ⟨_, _, _, rfl, iX0, by decide, gm 163 (by decide +kernel) rfl⟩
theorem fl_2_9 : FL RX2 9 2 10 := ⟨_, _, _, rfl, iX2, by decide, gm 134 (by decide +kernel) rfl⟩
theorem fl_2_15 : FL RX2 15 2 2 := ⟨_, _, _, rfl, iX2, by decide, gm 115 (by decide +kernel) rfl⟩
theorem fl_2_19 : FL RX2 19 2 3 := ⟨_, _, _, rfl, iX2, by decide, gm 119 (by decide +kernel) rfl⟩
theorem fl_2_22 : FL RX2 22 2 4 := ⟨_, _, _, rfl, iX2, by decide, gm 121 (by decide +kernel) rfl⟩
theorem fl_2_25 : FL RX2 25 2 5 := ⟨_, _, _, rfl, iX2, by decide, gm 123 (by decide +kernel) rfl⟩
theorem fl_2_28 : FL RX2 28 2 6 := ⟨_, _, _, rfl, iX2, by decide, gm 125 (by decide +kernel) rfl⟩
theorem fl_2_31 : FL RX2 31 2 7 := ⟨_, _, _, rfl, iX2, by decide, gm 128 (by decide +kernel) rfl⟩
theorem fl_2_34 : FL RX2 34 2 8 := ⟨_, _, _, rfl, iX2, by decide, gm 130 (by decide +kernel) rfl⟩
theorem fl_2_37 : FL RX2 37 2 9 := ⟨_, _, _, rfl, iX2, by decide, gm 132 (by decide +kernel) rfl⟩
theorem fl_2_43 : FL RX2 43 2 0 := ⟨_, _, _, rfl, iX2, by decide, gm 110 (by decide +kernel) rfl⟩
theorem fl_2_46 : FL RX2 46 2 1 := ⟨_, _, _, rfl, iX2, by decide, gm 112 (by decide +kernel) rfl⟩
theorem fl_3_9 : FL RX3 9 3 0 := ⟨_, _, _, rfl, iX3, by decide, gm 245 (by decide +kernel) rfl⟩
theorem fl_3_15 : FL RX3 15 3 1 := ⟨_, _, _, rfl, iX3, by decide, gm 247 (by decide +kernel) rfl⟩
theorem fl_3_18 : FL RX3 18 3 2 := ⟨_, _, _, rfl, iX3, by decide, gm 249 (by decide +kernel) rfl⟩
theorem fl_3_21 : FL RX3 21 3 3 := ⟨_, _, _, rfl, iX3, by decide, gm 251 (by decide +kernel) rfl⟩
theorem fl_3_24 : FL RX3 24 0 5 := ⟨_, _, _, rfl, iX0, by decide, gm 176 (by decide +kernel) rfl⟩
theorem fl_3_30 : FL RX3 30 0 6 := ⟨_, _, _, rfl, iX0, by decide, gm 179 (by decide +kernel) rfl⟩
theorem fl_3_54 : FL RX3 54 0 1 := ⟨_, _, _, rfl, iX0, by decide, gm 167 (by decide +kernel) rfl⟩
theorem fl_3_57 : FL RX3 57 0 0 := ⟨_, _, _, rfl, iX0, by decide, gm 162 (by decide +kernel) rfl⟩
theorem fl_3_61 : FL RX3 61 5 0 := ⟨_, _, _, rfl, iX5, by decide, gm 71 (by decide +kernel) rfl⟩
theorem fl_3_66 : FL RX3 66 5 1 := ⟨_, _, _, rfl, iX5, by decide, gm 73 (by decide +kernel) rfl⟩
theorem fl_4_9 : FL RX4 9 4 2 := ⟨_, _, _, rfl, iX4, by decide, gm 230 (by decide +kernel) rfl⟩
theorem fl_4_15 : FL RX4 15 4 0 := ⟨_, _, _, rfl, iX4, by decide, gm 226 (by decide +kernel) rfl⟩
theorem fl_4_19 : FL RX4 19 4 1 := ⟨_, _, _, rfl, iX4, by decide, gm 228 (by decide +kernel) rfl⟩
theorem fl_5_9 : FL RX5 9 5 7 := ⟨_, _, _, rfl, iX5, by decide, gm 84 (by decide +kernel) rfl⟩
theorem fl_5_15 : FL RX5 15 5 0 := ⟨_, _, _, rfl, iX5, by decide, gm 70 (by decide +kernel) rfl⟩
theorem fl_5_19 : FL RX5 19 5 1 := ⟨_, _, _, rfl, iX5, by decide, gm 72 (by decide +kernel) rfl⟩
theorem fl_5_22 : FL RX5 22 5 2 := ⟨_, _, _, rfl, iX5, by decide, gm 75 (by decide +kernel) rfl⟩
theorem fl_5_25 : FL RX5 25 5 3 := ⟨_, _, _, rfl, iX5, by decide, gm 77 (by decide +kernel) rfl⟩
theorem fl_5_28 : FL RX5 28 5 4 := ⟨_, _, _, rfl, iX5, by decide, gm 78 (by decide +kernel) rfl⟩
theorem fl_5_31 : FL RX5 31 5 5 := ⟨_, _, _, rfl, iX5, by decide, gm 80 (by decide +kernel) rfl⟩
theorem fl_5_34 : FL RX5 34 5 6 := ⟨_, _, _, rfl, iX5, by decide, gm 81 (by decide +kernel) rfl⟩
theorem fl_7_7 : FL RX7 7 7 0 := ⟨_, _, _, rfl, iX7, by decide, gm 794 (by decide +kernel) rfl⟩
theorem fl_7_13 : FL RX7 13 7 1 := ⟨_, _, _, rfl, iX7, by decide, gm 795 (by decide +kernel) rfl⟩
theorem fl_7_16 : FL RX7 16 7 2 := ⟨_, _, _, rfl, iX7, by decide, gm 796 (by decide +kernel) rfl⟩
theorem fl_7_20 : FL RX7 20 7 3 := ⟨_, _, _, rfl, iX7, by decide, gm 797 (by decide +kernel) rfl⟩
theorem fl_7_23 : FL RX7 23 7 5 := ⟨_, _, _, rfl, iX7, by decide, gm 799 (by decide +kernel) rfl⟩
theorem fl_7_26 : FL RX7 26 7 6 := ⟨_, _, _, rfl, iX7, by decide, gm 800 (by decide +kernel) rfl⟩
theorem fl_7_29 : FL RX7 29 7 7 := ⟨_, _, _, rfl, iX7, by decide, gm 801 (by decide +kernel) rfl⟩
theorem fl_7_32 : FL RX7 32 7 8 := ⟨_, _, _, rfl, iX7, by decide, gm 802 (by decide +kernel) rfl⟩
theorem fl_7_35 : FL RX7 35 7 11 := ⟨_, _, _, rfl, iX7, by decide, gm 805 (by decide +kernel) rfl⟩
theorem fl_7_38 : FL RX7 38 7 12 := ⟨_, _, _, rfl, iX7, by decide, gm 806 (by decide +kernel) rfl⟩
theorem fl_7_41 : FL RX7 41 7 13 := ⟨_, _, _, rfl, iX7, by decide, gm 807 (by decide +kernel) rfl⟩
theorem fl_7_44 : FL RX7 44 7 14 := ⟨_, _, _, rfl, iX7, by decide, gm 808 (by decide +kernel) rfl⟩
theorem fl_7_48 : FL RX7 48 7 15 := ⟨_, _, _, rfl, iX7, by decide, gm 809 (by decide +kernel) rfl⟩
theorem fl_7_51 : FL RX7 51 7 16 := ⟨_, _, _, rfl, iX7, by decide, gm 810 (by decide +kernel) rfl⟩
theorem fl_7_54 : FL RX7 54 7 17 := ⟨_, _, _, rfl, iX7, by decide, gm 811 (by decide +kernel) rfl⟩
theorem fl_7_57 : FL RX7 57 7 18 := ⟨_, _, _, rfl, iX7, by decide, gm 812 (by decide +kernel) rfl⟩
theorem fl_7_60 : FL RX7 60 7 10 := ⟨_, _, _, rfl, iX7, by decide, gm 804 (by decide +kernel) rfl⟩
theorem fl_7_76 : FL RX7 76 7 9 := ⟨_, _, _, rfl, iX7, by decide, gm 803 (by decide +kernel) rfl⟩
theorem fl_7_203 : FL RX7 203 7 4 := ⟨_, _, _, rfl, iX7, by decide, gm 798 (by decide +kernel) rfl⟩
theorem fp_6_19 : FP RX6 19 6 2 false .boolean := ⟨_, _, _, tyX6, rfl, iX6, by decide, gm 304 (by decide +kernel) rfl, tyX6_ok, nmX6, rfl, (fun h => by cases h), rfl⟩
theorem fp_6_44 : FP RX6 44 6 6 false .int := ⟨_, _, _, tyX6, rfl, iX6, by decide, gm 308 (by decide +kernel) rfl, tyX6_ok, nmX6, rfl, (fun h => by cases h), rfl⟩
theorem fp_6_56 : FP RX6 56 0 1 false .int := ⟨_, _, _, tyX0, rfl, iX0, by decide, gm 165 (by decide +kernel) rfl, tyX0_ok, nmX0, rfl, (fun h => by cases h), rfl⟩
theorem fp_6_95 : FP RX6 95 2 0 false .int := ⟨_, _, _, tyX2, rfl, iX2, by decide, gm 111 (by decide +kernel) rfl, tyX2_ok, nmX2, rfl, (fun h => by cases h), rfl⟩
theorem fp_6_98 : FP RX6 98 2 1 false .int := ⟨_, _, _, tyX2, rfl, iX2, by decide, gm 113 (by decide +kernel) rfl, tyX2_ok, nmX2, rfl, (fun h => by cases h), rfl⟩
theorem fp_6_101 : FP RX6 101 0 3 false .int := ⟨_, _, _, tyX0, rfl, iX0, by decide, gm 172 (by decide +kernel) rfl, tyX0_ok, nmX0, rfl, (fun h => by cases h), rfl⟩
theorem fp_6_137 : FP RX6 137 2 6 false .int := ⟨_, _, _, tyX2, rfl, iX2, by decide, gm 127 (by decide +kernel) rfl, tyX2_ok, nmX2, rfl, (fun h => by cases h), rfl⟩
theorem fp_6_179 : FP RX6 179 0 10 false .int := ⟨_, _, _, tyX0, rfl, iX0, by decide, gm 187 (by decide +kernel) rfl, tyX0_ok, nmX0, rfl, (fun h => by cases h), rfl⟩
theorem fp_6_241 : FP RX6 241 0 9 false .int := ⟨_, _, _, tyX0, rfl, iX0, by decide, gm 185 (by decide +kernel) rfl, tyX0_ok, nmX0, rfl, (fun h => by cases h), rfl⟩
theorem fp_0_17 : FP RX0 17 0 1 false .int := ⟨_, _, _, tyX0, rfl, iX0, by decide, gm 164 (by decide +kernel) rfl, tyX0_ok, nmX0, rfl, (fun h => by cases h), rfl⟩
theorem fp_0_27 : FP RX0 27 0 3 false .int := ⟨_, _, _, tyX0, rfl, iX0, by decide, gm 171 (by decide +kernel) rfl, tyX0_ok, nmX0, rfl, (fun h => by cases h), rfl⟩
theorem fp_0_30 : FP RX0 30 0 4 false .int := ⟨_, _, _, tyX0, rfl, iX0, by decide, gm 173 (by decide +kernel) rfl, tyX0_ok, nmX0, rfl, (fun h => by cases h), rfl⟩
theorem fp_0_33 : FP RX0 33 0 5 false .int := ⟨_, _, _, tyX0, rfl, iX0, by decide, gm 175 (by decide +kernel) rfl, tyX0_ok, nmX0, rfl, (fun h => by cases h), rfl⟩
theorem fp_0_46 : FP RX0 46 0 9 false .int := ⟨_, _, _, tyX0, rfl, iX0, by decide, gm 184 (by decide +kernel) rfl, tyX0_ok, nmX0, rfl, (fun h => by cases h), rfl⟩
theorem fp_0_49 : FP RX0 49 0 10 false .int := ⟨_, _, _, tyX0, rfl, iX0, by decide, gm 186 (by decide +kernel) rfl, tyX0_ok, nmX0, rfl, (fun h => by cases h), rfl⟩
theorem fp_0_52 : FP RX0 52 0 11 false .int := ⟨_, _, _, tyX0, rfl, iX0, by decide, gm 188 (by decide +kernel) rfl, tyX0_ok, nmX0, rfl, (fun h => by cases h), rfl⟩
theorem fp_0_188 : FP RX0 188 2 9 false .int := ⟨_, _, _, tyX2, rfl, iX2, by decide, gm 133 (by decide +kernel) rfl, tyX2_ok, nmX2, rfl, (fun h => by cases h), rfl⟩
theorem fp_1_30 : FP RX1 30 1 0 false .boolean := ⟨_, _, _, tyX1, rfl, iX1, by decide, gm 267 (by decide +kernel) rfl, tyX1_ok, nmX1, rfl, (fun h => by cases h), rfl⟩
theorem fp_1_40 : FP RX1 40 1 3 false .int := ⟨_, _, _, tyX1, rfl, iX1, by decide, gm 273 (by decide +kernel) rfl, tyX1_ok, nmX1, rfl, (fun h => by cases h), rfl⟩
theorem fp_1_41 : FP RX1 41 1 2 false .int := ⟨_, _, _, tyX1, rfl, iX1, by decide, gm 271 (by decide +kernel) rfl, tyX1_ok, nmX1, rfl, (fun h => by cases h), rfl⟩
theorem fp_1_61 : FP RX1 61 1 1 false .int := ⟨_, _, _, tyX1, rfl, iX1, by decide, gm 269 (by decide +kernel) rfl, tyX1_ok, nmX1, rfl, (fun h => by cases h), rfl⟩
theorem fp_2_15 : FP RX2 15 2 2 false .int := ⟨_, _, _, tyX2, rfl, iX2, by decide, gm 115 (by decide +kernel) rfl, tyX2_ok, nmX2, rfl, (fun h => by cases h), rfl⟩
theorem fp_2_19 : FP RX2 19 2 3 false .int := ⟨_, _, _, tyX2, rfl, iX2, by decide, gm 119 (by decide +kernel) rfl, tyX2_ok, nmX2, rfl, (fun h => by cases h), rfl⟩
theorem fp_2_22 : FP RX2 22 2 4 false .int := ⟨_, _, _, tyX2, rfl, iX2, by decide, gm 121 (by decide +kernel) rfl, tyX2_ok, nmX2, rfl, (fun h => by cases h), rfl⟩
theorem fp_2_25 : FP RX2 25 2 5 false .int := ⟨_, _, _, tyX2, rfl, iX2, by decide, gm 123 (by decide +kernel) rfl, tyX2_ok, nmX2, rfl, (fun h => by cases h), rfl⟩
theorem fp_2_28 : FP RX2 28 2 6 false .int := ⟨_, _, _, tyX2, rfl, iX2, by decide, gm 125 (by decide +kernel) rfl, tyX2_ok, nmX2, rfl, (fun h => by cases h), rfl⟩
theorem fp_2_31 : FP RX2 31 2 7 false .int := ⟨_, _, _, tyX2, rfl, iX2, by decide, gm 128 (by decide +kernel) rfl, tyX2_ok, nmX2, rfl, (fun h => by cases h), rfl⟩
theorem fp_2_34 : FP RX2 34 2 8 false .int := ⟨_, _, _, tyX2, rfl, iX2, by decide, gm 130 (by decide +kernel) rfl, tyX2_ok, nmX2, rfl, (fun h => by cases h), rfl⟩
theorem fp_2_37 : FP RX2 37 2 9 false .int := ⟨_, _, _, tyX2, rfl, iX2, by decide, gm 132 (by decide +kernel) rfl, tyX2_ok, nmX2, rfl, (fun h => by cases h), rfl⟩
theorem fp_2_43 : FP RX2 43 2 0 false .int := ⟨_, _, _, tyX2, rfl, iX2, by decide, gm 110 (by decide +kernel) rfl, tyX2_ok, nmX2, rfl, (fun h => by cases h), rfl⟩
theorem fp_2_46 : FP RX2 46 2 1 false .int := ⟨_, _, _, tyX2, rfl, iX2, by decide, gm 112 (by decide +kernel) rfl, tyX2_ok, nmX2, rfl, (fun h => by cases h), rfl⟩
theorem fp_4_15 : FP RX4 15 4 0 false .int := ⟨_, _, _, tyX4, rfl, iX4, by decide, gm 226 (by decide +kernel) rfl, tyX4_ok, nmX4, rfl, (fun h => by cases h), rfl⟩
theorem fp_4_19 : FP RX4 19 4 1 false .int := ⟨_, _, _, tyX4, rfl, iX4, by decide, gm 228 (by decide +kernel) rfl, tyX4_ok, nmX4, rfl, (fun h => by cases h), rfl⟩
theorem fp_5_15 : FP RX5 15 5 0 false .int := ⟨_, _, _, tyX5, rfl, iX5, by decide, gm 70 (by decide +kernel) rfl, tyX5_ok, nmX5, rfl, (fun h => by cases h), rfl⟩
theorem fp_5_19 : FP RX5 19 5 1 false .int := ⟨_, _, _, tyX5, rfl, iX5, by decide, gm 72 (by decide +kernel) rfl, tyX5_ok, nmX5, rfl, (fun h => by cases h), rfl⟩
theorem fp_5_22 : FP RX5 22 5 2 false .int := ⟨_, _, _, tyX5, rfl, iX5, by decide, gm 75 (by decide +kernel) rfl, tyX5_ok, nmX5, rfl, (fun h => by cases h), rfl⟩
theorem fp_5_25 : FP RX5 25 5 3 false .int := ⟨_, _, _, tyX5, rfl, iX5, by decide, gm 77 (by decide +kernel) rfl, tyX5_ok, nmX5, rfl, (fun h => by cases h), rfl⟩
theorem fp_5_28 : FP RX5 28 5 4 false .int := ⟨_, _, _, tyX5, rfl, iX5, by decide, gm 78 (by decide +kernel) rfl, tyX5_ok, nmX5, rfl, (fun h => by cases h), rfl⟩
theorem fp_5_31 : FP RX5 31 5 5 false .int := ⟨_, _, _, tyX5, rfl, iX5, by decide, gm 80 (by decide +kernel) rfl, tyX5_ok, nmX5, rfl, (fun h => by cases h), rfl⟩
theorem fp_5_34 : FP RX5 34 5 6 false .int := ⟨_, _, _, tyX5, rfl, iX5, by decide, gm 81 (by decide +kernel) rfl, tyX5_ok, nmX5, rfl, (fun h => by cases h), rfl⟩
theorem fp_7_60 : FP RX7 60 7 10 false .int := ⟨_, _, _, tyX7, rfl, iX7, by decide, gm 804 (by decide +kernel) rfl, tyX7_ok, nmX7, rfl, (fun h => by cases h), rfl⟩
theorem fp_7_76 : FP RX7 76 7 9 false .boolean := ⟨_, _, _, tyX7, rfl, iX7, by decide, gm 803 (by decide +kernel) rfl, tyX7_ok, nmX7, rfl, (fun h => by cases h), rfl⟩
theorem fp_7_203 : FP RX7 203 7 4 false .boolean := ⟨_, _, _, tyX7, rfl, iX7, by decide, gm 798 (by decide +kernel) rfl, tyX7_ok, nmX7, rfl, (fun h => by cases h), rfl⟩
