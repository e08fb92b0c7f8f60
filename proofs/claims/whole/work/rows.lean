section
-- ===== PART A: goes FIRST, ahead of the names: the tables' words, and 'selects' of the private methods out of them =====
/-- a private method of a class that the tables say can be made, by its rows of tables_1 -/
def lw_okq (q : MethodName × Nat) : Prop := (q.1.cls ≠ "java/lang/invoke/MethodHandle" ∧ q.1.cls ≠ "java/lang/invoke/VarHandle") ∧ Cond.instantiable q.1.cls q.2 ∈ tables_1 ∧ Cond.privateMethod q.1 ∈ tables_1 ∧ Cond.instanceMethod q.1 ∈ tables_1
theorem lw_p0 : lw_okq (⟨"OrchardBook", "finding", "(I)I"⟩, 7) := ⟨⟨by decide +kernel, by decide +kernel⟩, List.mem_of_getElem? (i := 12) (by decide +kernel), List.mem_of_getElem? (i := 296) (by decide +kernel), List.mem_of_getElem? (i := 297) (by decide +kernel)⟩
theorem lw_p1 : lw_okq (⟨"OrchardBook", "isSort", "(I)Z"⟩, 7) := ⟨⟨by decide +kernel, by decide +kernel⟩, List.mem_of_getElem? (i := 12) (by decide +kernel), List.mem_of_getElem? (i := 312) (by decide +kernel), List.mem_of_getElem? (i := 313) (by decide +kernel)⟩
theorem lw_p2 : lw_okq (⟨"OrchardBook", "namedSheet", "()LOrchardBook$Sheet;"⟩, 7) := ⟨⟨by decide +kernel, by decide +kernel⟩, List.mem_of_getElem? (i := 12) (by decide +kernel), List.mem_of_getElem? (i := 453) (by decide +kernel), List.mem_of_getElem? (i := 454) (by decide +kernel)⟩
theorem lw_p3 : lw_okq (⟨"OrchardBookModel", "found", "(I)I"⟩, 19) := ⟨⟨by decide +kernel, by decide +kernel⟩, List.mem_of_getElem? (i := 753) (by decide +kernel), List.mem_of_getElem? (i := 825) (by decide +kernel), List.mem_of_getElem? (i := 826) (by decide +kernel)⟩
theorem lw_p4 : lw_okq (⟨"OrchardBookModel", "isSort", "(I)Z"⟩, 19) := ⟨⟨by decide +kernel, by decide +kernel⟩, List.mem_of_getElem? (i := 753) (by decide +kernel), List.mem_of_getElem? (i := 833) (by decide +kernel), List.mem_of_getElem? (i := 834) (by decide +kernel)⟩
theorem lw_p5 : lw_okq (⟨"OrchardBookModel", "does", "(II)Z"⟩, 19) := ⟨⟨by decide +kernel, by decide +kernel⟩, List.mem_of_getElem? (i := 753) (by decide +kernel), List.mem_of_getElem? (i := 837) (by decide +kernel), List.mem_of_getElem? (i := 838) (by decide +kernel)⟩
theorem lw_p6 : lw_okq (⟨"OrchardBookModel", "get", "(II)I"⟩, 19) := ⟨⟨by decide +kernel, by decide +kernel⟩, List.mem_of_getElem? (i := 753) (by decide +kernel), List.mem_of_getElem? (i := 848) (by decide +kernel), List.mem_of_getElem? (i := 849) (by decide +kernel)⟩
theorem lw_p7 : lw_okq (⟨"OrchardBookModel", "lay", "(III)V"⟩, 19) := ⟨⟨by decide +kernel, by decide +kernel⟩, List.mem_of_getElem? (i := 753) (by decide +kernel), List.mem_of_getElem? (i := 852) (by decide +kernel), List.mem_of_getElem? (i := 853) (by decide +kernel)⟩
theorem lw_p8 : lw_okq (⟨"OrchardBookModel", "heightOf", "(I)I"⟩, 19) := ⟨⟨by decide +kernel, by decide +kernel⟩, List.mem_of_getElem? (i := 753) (by decide +kernel), List.mem_of_getElem? (i := 876) (by decide +kernel), List.mem_of_getElem? (i := 877) (by decide +kernel)⟩
theorem lw_p9 : lw_okq (⟨"OrchardBookModel", "age", "(I)I"⟩, 19) := ⟨⟨by decide +kernel, by decide +kernel⟩, List.mem_of_getElem? (i := 753) (by decide +kernel), List.mem_of_getElem? (i := 880) (by decide +kernel), List.mem_of_getElem? (i := 881) (by decide +kernel)⟩
theorem lw_p10 : lw_okq (⟨"OrchardBookModel", "budsOf", "(I)I"⟩, 19) := ⟨⟨by decide +kernel, by decide +kernel⟩, List.mem_of_getElem? (i := 753) (by decide +kernel), List.mem_of_getElem? (i := 884) (by decide +kernel), List.mem_of_getElem? (i := 885) (by decide +kernel)⟩
theorem lw_p11 : lw_okq (⟨"OrchardBookModel", "sortOf", "(II)I"⟩, 19) := ⟨⟨by decide +kernel, by decide +kernel⟩, List.mem_of_getElem? (i := 753) (by decide +kernel), List.mem_of_getElem? (i := 888) (by decide +kernel), List.mem_of_getElem? (i := 889) (by decide +kernel)⟩
theorem lw_p12 : lw_okq (⟨"OrchardBookModel", "lacks", "(I)I"⟩, 19) := ⟨⟨by decide +kernel, by decide +kernel⟩, List.mem_of_getElem? (i := 753) (by decide +kernel), List.mem_of_getElem? (i := 896) (by decide +kernel), List.mem_of_getElem? (i := 897) (by decide +kernel)⟩
theorem lw_p13 : lw_okq (⟨"OrchardBookModel", "warm", "(I)I"⟩, 19) := ⟨⟨by decide +kernel, by decide +kernel⟩, List.mem_of_getElem? (i := 753) (by decide +kernel), List.mem_of_getElem? (i := 932) (by decide +kernel), List.mem_of_getElem? (i := 933) (by decide +kernel)⟩
theorem lw_p14 : lw_okq (⟨"OrchardBookModel", "stands", "(I)I"⟩, 19) := ⟨⟨by decide +kernel, by decide +kernel⟩, List.mem_of_getElem? (i := 753) (by decide +kernel), List.mem_of_getElem? (i := 936) (by decide +kernel), List.mem_of_getElem? (i := 937) (by decide +kernel)⟩
theorem lw_p15 : lw_okq (⟨"OrchardBookModel", "told0", "(II)I"⟩, 19) := ⟨⟨by decide +kernel, by decide +kernel⟩, List.mem_of_getElem? (i := 753) (by decide +kernel), List.mem_of_getElem? (i := 940) (by decide +kernel), List.mem_of_getElem? (i := 941) (by decide +kernel)⟩
def lw_privs_1 : List (MethodName × Nat) := [(⟨"OrchardBook", "finding", "(I)I"⟩, 7), (⟨"OrchardBook", "isSort", "(I)Z"⟩, 7), (⟨"OrchardBook", "namedSheet", "()LOrchardBook$Sheet;"⟩, 7), (⟨"OrchardBookModel", "found", "(I)I"⟩, 19), (⟨"OrchardBookModel", "isSort", "(I)Z"⟩, 19), (⟨"OrchardBookModel", "does", "(II)Z"⟩, 19), (⟨"OrchardBookModel", "get", "(II)I"⟩, 19), (⟨"OrchardBookModel", "lay", "(III)V"⟩, 19), (⟨"OrchardBookModel", "heightOf", "(I)I"⟩, 19), (⟨"OrchardBookModel", "age", "(I)I"⟩, 19), (⟨"OrchardBookModel", "budsOf", "(I)I"⟩, 19), (⟨"OrchardBookModel", "sortOf", "(II)I"⟩, 19), (⟨"OrchardBookModel", "lacks", "(I)I"⟩, 19), (⟨"OrchardBookModel", "warm", "(I)I"⟩, 19), (⟨"OrchardBookModel", "stands", "(I)I"⟩, 19), (⟨"OrchardBookModel", "told0", "(II)I"⟩, 19)]
theorem lw_r1 : ∀ q ∈ lw_privs_1, lw_okq q := List.forall_mem_cons.mpr ⟨lw_p0, List.forall_mem_cons.mpr ⟨lw_p1, List.forall_mem_cons.mpr ⟨lw_p2, List.forall_mem_cons.mpr ⟨lw_p3, List.forall_mem_cons.mpr ⟨lw_p4, List.forall_mem_cons.mpr ⟨lw_p5, List.forall_mem_cons.mpr ⟨lw_p6, List.forall_mem_cons.mpr ⟨lw_p7, List.forall_mem_cons.mpr ⟨lw_p8, List.forall_mem_cons.mpr ⟨lw_p9, List.forall_mem_cons.mpr ⟨lw_p10, List.forall_mem_cons.mpr ⟨lw_p11, List.forall_mem_cons.mpr ⟨lw_p12, List.forall_mem_cons.mpr ⟨lw_p13, List.forall_mem_cons.mpr ⟨lw_p14, List.forall_mem_cons.mpr ⟨lw_p15, fun _ h => absurd h List.not_mem_nil⟩⟩⟩⟩⟩⟩⟩⟩⟩⟩⟩⟩⟩⟩⟩⟩
theorem lw_p16 : lw_okq (⟨"OrchardBookModel", "firstDay", "(IZ)I"⟩, 19) := ⟨⟨by decide +kernel, by decide +kernel⟩, List.mem_of_getElem? (i := 753) (by decide +kernel), List.mem_of_getElem? (i := 954) (by decide +kernel), List.mem_of_getElem? (i := 955) (by decide +kernel)⟩
theorem lw_p17 : lw_okq (⟨"OrchardBookModel", "lacksPart", "(II)I"⟩, 19) := ⟨⟨by decide +kernel, by decide +kernel⟩, List.mem_of_getElem? (i := 753) (by decide +kernel), List.mem_of_getElem? (i := 966) (by decide +kernel), List.mem_of_getElem? (i := 967) (by decide +kernel)⟩
theorem lw_p18 : lw_okq (⟨"OrchardBookModel", "isPart", "(I)Z"⟩, 19) := ⟨⟨by decide +kernel, by decide +kernel⟩, List.mem_of_getElem? (i := 753) (by decide +kernel), List.mem_of_getElem? (i := 970) (by decide +kernel), List.mem_of_getElem? (i := 971) (by decide +kernel)⟩
theorem lw_p19 : lw_okq (⟨"OrchardBookModel", "isTree", "(I)Z"⟩, 19) := ⟨⟨by decide +kernel, by decide +kernel⟩, List.mem_of_getElem? (i := 753) (by decide +kernel), List.mem_of_getElem? (i := 974) (by decide +kernel), List.mem_of_getElem? (i := 975) (by decide +kernel)⟩
theorem lw_p20 : lw_okq (⟨"OrchardBookModel", "partnersOf", "(II)I"⟩, 19) := ⟨⟨by decide +kernel, by decide +kernel⟩, List.mem_of_getElem? (i := 753) (by decide +kernel), List.mem_of_getElem? (i := 978) (by decide +kernel), List.mem_of_getElem? (i := 979) (by decide +kernel)⟩
theorem lw_p21 : lw_okq (⟨"OrchardBookModel", "isOpen", "(II)Z"⟩, 19) := ⟨⟨by decide +kernel, by decide +kernel⟩, List.mem_of_getElem? (i := 753) (by decide +kernel), List.mem_of_getElem? (i := 982) (by decide +kernel), List.mem_of_getElem? (i := 983) (by decide +kernel)⟩
theorem lw_p22 : lw_okq (⟨"OrchardBookModel", "sortOfPart", "(I)I"⟩, 19) := ⟨⟨by decide +kernel, by decide +kernel⟩, List.mem_of_getElem? (i := 753) (by decide +kernel), List.mem_of_getElem? (i := 986) (by decide +kernel), List.mem_of_getElem? (i := 987) (by decide +kernel)⟩
theorem lw_p23 : lw_okq (⟨"OrchardBookModel", "blossoms", "(IIZ)Z"⟩, 19) := ⟨⟨by decide +kernel, by decide +kernel⟩, List.mem_of_getElem? (i := 753) (by decide +kernel), List.mem_of_getElem? (i := 990) (by decide +kernel), List.mem_of_getElem? (i := 991) (by decide +kernel)⟩
theorem lw_p24 : lw_okq (⟨"OrchardBookModel", "isNear", "(II)Z"⟩, 19) := ⟨⟨by decide +kernel, by decide +kernel⟩, List.mem_of_getElem? (i := 753) (by decide +kernel), List.mem_of_getElem? (i := 994) (by decide +kernel), List.mem_of_getElem? (i := 995) (by decide +kernel)⟩
theorem lw_p25 : lw_okq (⟨"OrchardBookModel", "fruitsOf", "(I)I"⟩, 19) := ⟨⟨by decide +kernel, by decide +kernel⟩, List.mem_of_getElem? (i := 753) (by decide +kernel), List.mem_of_getElem? (i := 1002) (by decide +kernel), List.mem_of_getElem? (i := 1003) (by decide +kernel)⟩
theorem lw_p26 : lw_okq (⟨"OrchardBookModel", "grow", "(II)V"⟩, 19) := ⟨⟨by decide +kernel, by decide +kernel⟩, List.mem_of_getElem? (i := 753) (by decide +kernel), List.mem_of_getElem? (i := 1010) (by decide +kernel), List.mem_of_getElem? (i := 1011) (by decide +kernel)⟩
theorem lw_p27 : lw_okq (⟨"OrchardBookModel", "inStore", "(I)I"⟩, 19) := ⟨⟨by decide +kernel, by decide +kernel⟩, List.mem_of_getElem? (i := 753) (by decide +kernel), List.mem_of_getElem? (i := 1022) (by decide +kernel), List.mem_of_getElem? (i := 1023) (by decide +kernel)⟩
theorem lw_p28 : lw_okq (⟨"OrchardBookModel", "day", "()V"⟩, 19) := ⟨⟨by decide +kernel, by decide +kernel⟩, List.mem_of_getElem? (i := 753) (by decide +kernel), List.mem_of_getElem? (i := 1037) (by decide +kernel), List.mem_of_getElem? (i := 1038) (by decide +kernel)⟩
theorem lw_p29 : lw_okq (⟨"OrchardBookModel", "sets", "(II)V"⟩, 19) := ⟨⟨by decide +kernel, by decide +kernel⟩, List.mem_of_getElem? (i := 753) (by decide +kernel), List.mem_of_getElem? (i := 1041) (by decide +kernel), List.mem_of_getElem? (i := 1042) (by decide +kernel)⟩
theorem lw_p30 : lw_okq (⟨"OrchardBookModel", "ripens", "(II)Z"⟩, 19) := ⟨⟨by decide +kernel, by decide +kernel⟩, List.mem_of_getElem? (i := 753) (by decide +kernel), List.mem_of_getElem? (i := 1045) (by decide +kernel), List.mem_of_getElem? (i := 1046) (by decide +kernel)⟩
theorem lw_p31 : lw_okq (⟨"OrchardBookModel", "pick", "(I)V"⟩, 19) := ⟨⟨by decide +kernel, by decide +kernel⟩, List.mem_of_getElem? (i := 753) (by decide +kernel), List.mem_of_getElem? (i := 1049) (by decide +kernel), List.mem_of_getElem? (i := 1050) (by decide +kernel)⟩
def lw_privs_2 : List (MethodName × Nat) := [(⟨"OrchardBookModel", "firstDay", "(IZ)I"⟩, 19), (⟨"OrchardBookModel", "lacksPart", "(II)I"⟩, 19), (⟨"OrchardBookModel", "isPart", "(I)Z"⟩, 19), (⟨"OrchardBookModel", "isTree", "(I)Z"⟩, 19), (⟨"OrchardBookModel", "partnersOf", "(II)I"⟩, 19), (⟨"OrchardBookModel", "isOpen", "(II)Z"⟩, 19), (⟨"OrchardBookModel", "sortOfPart", "(I)I"⟩, 19), (⟨"OrchardBookModel", "blossoms", "(IIZ)Z"⟩, 19), (⟨"OrchardBookModel", "isNear", "(II)Z"⟩, 19), (⟨"OrchardBookModel", "fruitsOf", "(I)I"⟩, 19), (⟨"OrchardBookModel", "grow", "(II)V"⟩, 19), (⟨"OrchardBookModel", "inStore", "(I)I"⟩, 19), (⟨"OrchardBookModel", "day", "()V"⟩, 19), (⟨"OrchardBookModel", "sets", "(II)V"⟩, 19), (⟨"OrchardBookModel", "ripens", "(II)Z"⟩, 19), (⟨"OrchardBookModel", "pick", "(I)V"⟩, 19)]
theorem lw_r2 : ∀ q ∈ lw_privs_2, lw_okq q := List.forall_mem_cons.mpr ⟨lw_p16, List.forall_mem_cons.mpr ⟨lw_p17, List.forall_mem_cons.mpr ⟨lw_p18, List.forall_mem_cons.mpr ⟨lw_p19, List.forall_mem_cons.mpr ⟨lw_p20, List.forall_mem_cons.mpr ⟨lw_p21, List.forall_mem_cons.mpr ⟨lw_p22, List.forall_mem_cons.mpr ⟨lw_p23, List.forall_mem_cons.mpr ⟨lw_p24, List.forall_mem_cons.mpr ⟨lw_p25, List.forall_mem_cons.mpr ⟨lw_p26, List.forall_mem_cons.mpr ⟨lw_p27, List.forall_mem_cons.mpr ⟨lw_p28, List.forall_mem_cons.mpr ⟨lw_p29, List.forall_mem_cons.mpr ⟨lw_p30, List.forall_mem_cons.mpr ⟨lw_p31, fun _ h => absurd h List.not_mem_nil⟩⟩⟩⟩⟩⟩⟩⟩⟩⟩⟩⟩⟩⟩⟩⟩
theorem lw_p32 : lw_okq (⟨"OrchardBookModel", "inAll", "()I"⟩, 19) := ⟨⟨by decide +kernel, by decide +kernel⟩, List.mem_of_getElem? (i := 753) (by decide +kernel), List.mem_of_getElem? (i := 1053) (by decide +kernel), List.mem_of_getElem? (i := 1054) (by decide +kernel)⟩
theorem lw_p33 : lw_okq (⟨"OrchardBookModel", "ends", "()V"⟩, 19) := ⟨⟨by decide +kernel, by decide +kernel⟩, List.mem_of_getElem? (i := 753) (by decide +kernel), List.mem_of_getElem? (i := 1057) (by decide +kernel), List.mem_of_getElem? (i := 1058) (by decide +kernel)⟩
theorem lw_p34 : lw_okq (⟨"OrchardBookModel", "fits", "(II)Z"⟩, 19) := ⟨⟨by decide +kernel, by decide +kernel⟩, List.mem_of_getElem? (i := 753) (by decide +kernel), List.mem_of_getElem? (i := 1069) (by decide +kernel), List.mem_of_getElem? (i := 1070) (by decide +kernel)⟩
theorem lw_p35 : lw_okq (⟨"OrchardBookModel", "together", "(II)Z"⟩, 19) := ⟨⟨by decide +kernel, by decide +kernel⟩, List.mem_of_getElem? (i := 753) (by decide +kernel), List.mem_of_getElem? (i := 1073) (by decide +kernel), List.mem_of_getElem? (i := 1074) (by decide +kernel)⟩
def lw_privs_3 : List (MethodName × Nat) := [(⟨"OrchardBookModel", "inAll", "()I"⟩, 19), (⟨"OrchardBookModel", "ends", "()V"⟩, 19), (⟨"OrchardBookModel", "fits", "(II)Z"⟩, 19), (⟨"OrchardBookModel", "together", "(II)Z"⟩, 19)]
theorem lw_r3 : ∀ q ∈ lw_privs_3, lw_okq q := List.forall_mem_cons.mpr ⟨lw_p32, List.forall_mem_cons.mpr ⟨lw_p33, List.forall_mem_cons.mpr ⟨lw_p34, List.forall_mem_cons.mpr ⟨lw_p35, fun _ h => absurd h List.not_mem_nil⟩⟩⟩⟩
def lw_privs : List (MethodName × Nat) := lw_privs_1 ++ (lw_privs_2 ++ (lw_privs_3))
def lw_tbl : List Cond := k2_sels lw_privs ++ tables_1
theorem lw_privs_ok : ∀ q ∈ lw_privs, lw_okq q := by
  show ∀ q ∈ lw_privs_1 ++ (lw_privs_2 ++ (lw_privs_3)), lw_okq q
  exact List.forall_mem_append.mpr ⟨lw_r1, List.forall_mem_append.mpr ⟨lw_r2, lw_r3⟩⟩
def RX0 : String := "OrchardBook$Book"
def TX0 : u_T := fun k => match k with
  | 0 => ("OrchardBook$Book", "sorts", "[LOrchardBook$Sort;", true)
  | 1 => ("OrchardBook$Book", "sortCount", "I", false)
  | 2 => ("OrchardBook$Book", "places", "[LOrchardBook$Place;", true)
  | 3 => ("OrchardBook$Book", "reach", "I", false)
  | 4 => ("OrchardBook$Book", "year", "I", false)
  | 5 => ("OrchardBook$Book", "done", "I", false)
  | 6 => ("OrchardBook$Book", "doneWarmth", "[I", true)
  | 7 => ("OrchardBook$Book", "frostHeight", "[I", true)
  | 8 => ("OrchardBook$Book", "frostShare", "[I", true)
  | 9 => ("OrchardBook$Book", "pickHours", "I", false)
  | 10 => ("OrchardBook$Book", "named", "I", false)
  | 11 => ("OrchardBook$Book", "slot", "I", false)
  | _ => ("OrchardBook$Book", "totals", "[J", true)
def tyX0 : Nat → FieldType := fun k => match k with
  | 0 => .array (.object "OrchardBook$Sort")
  | 1 => .int
  | 2 => .array (.object "OrchardBook$Place")
  | 3 => .int
  | 4 => .int
  | 5 => .int
  | 6 => .array .int
  | 7 => .array .int
  | 8 => .array .int
  | 9 => .int
  | 10 => .int
  | 11 => .int
  | _ => .array .long
abbrev wsX00 : List Cond := u_ws RX0 TX0 13
theorem nmX0 : ∀ a, a < 13 → ∀ b, b < 13 → a ≠ b → (TX0 a).2.1 ≠ (TX0 b).2.1 := by decide +kernel
theorem tyX0_ok : ∀ k, k < 13 → parseFieldDescriptor (TX0 k).2.2.1 = some (tyX0 k) := by decide +kernel
abbrev cX0_init : ByteArray := prog_2_method_1_code
def yX0_init : MethodName := ⟨RX0, "<init>", "()V"⟩
abbrev cX0_become : ByteArray := prog_2_method_2_code
def yX0_become : MethodName := ⟨RX0, "become", "(LOrchardBook$Book;)V"⟩
abbrev cX0_tellTree : ByteArray := prog_2_method_3_code
def yX0_tellTree : MethodName := ⟨RX0, "tellTree", "(LOrchardBook$Place;I)I"⟩
abbrev cX0_budsOf : ByteArray := prog_2_method_4_code
def yX0_budsOf : MethodName := ⟨RX0, "budsOf", "(LOrchardBook$Place;)I"⟩
abbrev cX0_isNear : ByteArray := prog_2_method_5_code
def yX0_isNear : MethodName := ⟨RX0, "isNear", "(II)Z"⟩
abbrev cX0_fruitsOnTrees : ByteArray := prog_2_method_6_code
def yX0_fruitsOnTrees : MethodName := ⟨RX0, "fruitsOnTrees", "()I"⟩
abbrev cX0_fruitsInStore : ByteArray := prog_2_method_7_code
def yX0_fruitsInStore : MethodName := ⟨RX0, "fruitsInStore", "()I"⟩
abbrev cX0_isOpen : ByteArray := prog_2_method_8_code
def yX0_isOpen : MethodName := ⟨RX0, "isOpen", "(LOrchardBook$Season;LOrchardBook$Place;II)Z"⟩
abbrev cX0_countPartners : ByteArray := prog_2_method_9_code
def yX0_countPartners : MethodName := ⟨RX0, "countPartners", "(LOrchardBook$Season;III)I"⟩
abbrev cX0_couldHavePartner : ByteArray := prog_2_method_10_code
def yX0_couldHavePartner : MethodName := ⟨RX0, "couldHavePartner", "(LOrchardBook$Season;I)Z"⟩
abbrev cX0_fitsAnyPart : ByteArray := prog_2_method_11_code
def yX0_fitsAnyPart : MethodName := ⟨RX0, "fitsAnyPart", "(LOrchardBook$Season;ILOrchardBook$Place;)Z"⟩
abbrev cX0_doDay : ByteArray := prog_2_method_12_code
def yX0_doDay : MethodName := ⟨RX0, "doDay", "(LOrchardBook$Season;)V"⟩
abbrev cX0_spoilStore : ByteArray := prog_2_method_13_code
def yX0_spoilStore : MethodName := ⟨RX0, "spoilStore", "()V"⟩
abbrev cX0_setFruits : ByteArray := prog_2_method_14_code
def yX0_setFruits : MethodName := ⟨RX0, "setFruits", "(LOrchardBook$Season;I)V"⟩
abbrev cX0_flowersLeft : ByteArray := prog_2_method_15_code
def yX0_flowersLeft : MethodName := ⟨RX0, "flowersLeft", "(LOrchardBook$Place;II)I"⟩
abbrev cX0_isRipe : ByteArray := prog_2_method_16_code
def yX0_isRipe : MethodName := ⟨RX0, "isRipe", "(LOrchardBook$Season;LOrchardBook$Place;II)Z"⟩
abbrev cX0_pickFruits : ByteArray := prog_2_method_17_code
def yX0_pickFruits : MethodName := ⟨RX0, "pickFruits", "(LOrchardBook$Season;I)V"⟩
abbrev cX0_fullestRipe : ByteArray := prog_2_method_18_code
def yX0_fullestRipe : MethodName := ⟨RX0, "fullestRipe", "(LOrchardBook$Season;I)I"⟩
abbrev cX0_dropFruits : ByteArray := prog_2_method_19_code
def yX0_dropFruits : MethodName := ⟨RX0, "dropFruits", "(LOrchardBook$Season;I)V"⟩
abbrev cX0_endYear : ByteArray := prog_2_method_20_code
def yX0_endYear : MethodName := ⟨RX0, "endYear", "()V"⟩
def RX1 : String := "OrchardBook$Laying"
def TX1 : u_T := fun k => match k with
  | 0 => ("OrchardBook$Laying", "isTold", "Z", false)
  | 1 => ("OrchardBook$Laying", "most", "I", false)
  | 2 => ("OrchardBook$Laying", "treeCount", "I", false)
  | 3 => ("OrchardBook$Laying", "sortCount", "I", false)
  | 4 => ("OrchardBook$Laying", "trees", "[I", true)
  | 5 => ("OrchardBook$Laying", "nearBits", "[I", true)
  | 6 => ("OrchardBook$Laying", "told", "[I", true)
  | 7 => ("OrchardBook$Laying", "tried", "[I", true)
  | 8 => ("OrchardBook$Laying", "pairsAmong", "[I", true)
  | _ => ("OrchardBook$Laying", "worth", "[I", true)
def tyX1 : Nat → FieldType := fun k => match k with
  | 0 => .boolean
  | 1 => .int
  | 2 => .int
  | 3 => .int
  | 4 => .array .int
  | 5 => .array .int
  | 6 => .array .int
  | 7 => .array .int
  | 8 => .array .int
  | _ => .array .int
abbrev wsX10 : List Cond := u_ws RX1 TX1 10
theorem nmX1 : ∀ a, a < 10 → ∀ b, b < 10 → a ≠ b → (TX1 a).2.1 ≠ (TX1 b).2.1 := by decide +kernel
theorem tyX1_ok : ∀ k, k < 10 → parseFieldDescriptor (TX1 k).2.2.1 = some (tyX1 k) := by decide +kernel
abbrev cX1_init : ByteArray := prog_3_method_1_code
def yX1_init : MethodName := ⟨RX1, "<init>", "()V"⟩
abbrev cX1_forget : ByteArray := prog_3_method_2_code
def yX1_forget : MethodName := ⟨RX1, "forget", "()V"⟩
abbrev cX1_gather : ByteArray := prog_3_method_3_code
def yX1_gather : MethodName := ⟨RX1, "gather", "(LOrchardBook$Book;)V"⟩
abbrev cX1_nearEarlier : ByteArray := prog_3_method_4_code
def yX1_nearEarlier : MethodName := ⟨RX1, "nearEarlier", "(LOrchardBook$Book;I)I"⟩
abbrev cX1_countGivings : ByteArray := prog_3_method_5_code
def yX1_countGivings : MethodName := ⟨RX1, "countGivings", "()I"⟩
abbrev cX1_choose : ByteArray := prog_3_method_6_code
def yX1_choose : MethodName := ⟨RX1, "choose", "()V"⟩
abbrev cX1_weighSorts : ByteArray := prog_3_method_7_code
def yX1_weighSorts : MethodName := ⟨RX1, "weighSorts", "(LOrchardBook$Book;LOrchardBook$Season;)V"⟩
abbrev cX1_countPairs : ByteArray := prog_3_method_8_code
def yX1_countPairs : MethodName := ⟨RX1, "countPairs", "(I)V"⟩
abbrev cX1_tellTried : ByteArray := prog_3_method_9_code
def yX1_tellTried : MethodName := ⟨RX1, "tellTried", "()V"⟩
abbrev cX1_tryNext : ByteArray := prog_3_method_10_code
def yX1_tryNext : MethodName := ⟨RX1, "tryNext", "()I"⟩
def RX2 : String := "OrchardBook$Place"
def TX2 : u_T := fun k => match k with
  | 0 => ("OrchardBook$Place", "x", "I", false)
  | 1 => ("OrchardBook$Place", "y", "I", false)
  | 2 => ("OrchardBook$Place", "kind", "I", false)
  | 3 => ("OrchardBook$Place", "mainSort", "I", false)
  | 4 => ("OrchardBook$Place", "otherSort", "I", false)
  | 5 => ("OrchardBook$Place", "planted", "I", false)
  | 6 => ("OrchardBook$Place", "wood", "I", false)
  | 7 => ("OrchardBook$Place", "load", "I", false)
  | 8 => ("OrchardBook$Place", "gapYears", "I", false)
  | 9 => ("OrchardBook$Place", "netSet", "I", false)
  | _ => ("OrchardBook$Place", "fruitsOn", "[I", true)
def tyX2 : Nat → FieldType := fun k => match k with
  | 0 => .int
  | 1 => .int
  | 2 => .int
  | 3 => .int
  | 4 => .int
  | 5 => .int
  | 6 => .int
  | 7 => .int
  | 8 => .int
  | 9 => .int
  | _ => .array .int
abbrev wsX20 : List Cond := u_ws RX2 TX2 11
theorem nmX2 : ∀ a, a < 11 → ∀ b, b < 11 → a ≠ b → (TX2 a).2.1 ≠ (TX2 b).2.1 := by decide +kernel
theorem tyX2_ok : ∀ k, k < 11 → parseFieldDescriptor (TX2 k).2.2.1 = some (tyX2 k) := by decide +kernel
abbrev cX2_init : ByteArray := prog_4_method_1_code
def yX2_init : MethodName := ⟨RX2, "<init>", "()V"⟩
abbrev cX2_becomeTree : ByteArray := prog_4_method_2_code
def yX2_becomeTree : MethodName := ⟨RX2, "becomeTree", "(IIII)V"⟩
abbrev cX2_becomeGap : ByteArray := prog_4_method_3_code
def yX2_becomeGap : MethodName := ⟨RX2, "becomeGap", "(I)V"⟩
abbrev cX2_become : ByteArray := prog_4_method_4_code
def yX2_become : MethodName := ⟨RX2, "become", "(LOrchardBook$Place;)V"⟩
abbrev cX2_isTree : ByteArray := prog_4_method_5_code
def yX2_isTree : MethodName := ⟨RX2, "isTree", "()Z"⟩
abbrev cX2_whyNoTree : ByteArray := prog_4_method_6_code
def yX2_whyNoTree : MethodName := ⟨RX2, "whyNoTree", "()I"⟩
abbrev cX2_partCount : ByteArray := prog_4_method_7_code
def yX2_partCount : MethodName := ⟨RX2, "partCount", "()I"⟩
abbrev cX2_sortOf : ByteArray := prog_4_method_8_code
def yX2_sortOf : MethodName := ⟨RX2, "sortOf", "(I)I"⟩
abbrev cX2_heightIn : ByteArray := prog_4_method_9_code
def yX2_heightIn : MethodName := ⟨RX2, "heightIn", "(I)I"⟩
abbrev cX2_shareOfBuds : ByteArray := prog_4_method_10_code
def yX2_shareOfBuds : MethodName := ⟨RX2, "shareOfBuds", "(II)I"⟩
abbrev cX2_fruitCount : ByteArray := prog_4_method_11_code
def yX2_fruitCount : MethodName := ⟨RX2, "fruitCount", "()I"⟩
abbrev cX2_clearFruits : ByteArray := prog_4_method_12_code
def yX2_clearFruits : MethodName := ⟨RX2, "clearFruits", "()V"⟩
abbrev cX2_thinTo : ByteArray := prog_4_method_13_code
def yX2_thinTo : MethodName := ⟨RX2, "thinTo", "(I)I"⟩
abbrev cX2_endYear : ByteArray := prog_4_method_14_code
def yX2_endYear : MethodName := ⟨RX2, "endYear", "()V"⟩
def RX3 : String := "OrchardBook$Season"
def TX3 : u_T := fun k => match k with
  | 0 => ("OrchardBook$Season", "heat", "[I", true)
  | 1 => ("OrchardBook$Season", "sums", "[I", true)
  | 2 => ("OrchardBook$Season", "firstDay", "[I", true)
  | _ => ("OrchardBook$Season", "lastDay", "[I", true)
def tyX3 : Nat → FieldType := fun k => match k with
  | 0 => .array .int
  | 1 => .array .int
  | 2 => .array .int
  | _ => .array .int
abbrev wsX30 : List Cond := u_ws RX3 TX3 4
theorem nmX3 : ∀ a, a < 4 → ∀ b, b < 4 → a ≠ b → (TX3 a).2.1 ≠ (TX3 b).2.1 := by decide +kernel
theorem tyX3_ok : ∀ k, k < 4 → parseFieldDescriptor (TX3 k).2.2.1 = some (tyX3 k) := by decide +kernel
abbrev cX3_init : ByteArray := prog_5_method_1_code
def yX3_init : MethodName := ⟨RX3, "<init>", "()V"⟩
abbrev cX3_tableWarmth : ByteArray := prog_5_method_2_code
def yX3_tableWarmth : MethodName := ⟨RX3, "tableWarmth", "(I)I"⟩
abbrev cX3_warmthNow : ByteArray := prog_5_method_3_code
def yX3_warmthNow : MethodName := ⟨RX3, "warmthNow", "(LOrchardBook$Book;LOrchardBook$Sheet;I)I"⟩
abbrev cX3_readYear : ByteArray := prog_5_method_4_code
def yX3_readYear : MethodName := ⟨RX3, "readYear", "(LOrchardBook$Book;LOrchardBook$Sheet;)V"⟩
abbrev cX3_readTable : ByteArray := prog_5_method_5_code
def yX3_readTable : MethodName := ⟨RX3, "readTable", "(LOrchardBook$Book;)V"⟩
abbrev cX3_findBlooms : ByteArray := prog_5_method_6_code
def yX3_findBlooms : MethodName := ⟨RX3, "findBlooms", "(LOrchardBook$Book;)V"⟩
abbrev cX3_hasBloom : ByteArray := prog_5_method_7_code
def yX3_hasBloom : MethodName := ⟨RX3, "hasBloom", "(I)Z"⟩
abbrev cX3_isInBloom : ByteArray := prog_5_method_8_code
def yX3_isInBloom : MethodName := ⟨RX3, "isInBloom", "(II)Z"⟩
abbrev cX3_bloomTogether : ByteArray := prog_5_method_9_code
def yX3_bloomTogether : MethodName := ⟨RX3, "bloomTogether", "(II)Z"⟩
abbrev cX3_isRipe : ByteArray := prog_5_method_10_code
def yX3_isRipe : MethodName := ⟨RX3, "isRipe", "(III)Z"⟩
def RX4 : String := "OrchardBook$Sheet"
def TX4 : u_T := fun k => match k with
  | 0 => ("OrchardBook$Sheet", "kind", "I", false)
  | 1 => ("OrchardBook$Sheet", "size", "I", false)
  | _ => ("OrchardBook$Sheet", "numbers", "[I", true)
def tyX4 : Nat → FieldType := fun k => match k with
  | 0 => .int
  | 1 => .int
  | _ => .array .int
abbrev wsX40 : List Cond := u_ws RX4 TX4 3
theorem nmX4 : ∀ a, a < 3 → ∀ b, b < 3 → a ≠ b → (TX4 a).2.1 ≠ (TX4 b).2.1 := by decide +kernel
theorem tyX4_ok : ∀ k, k < 3 → parseFieldDescriptor (TX4 k).2.2.1 = some (tyX4 k) := by decide +kernel
abbrev cX4_init : ByteArray := prog_6_method_1_code
def yX4_init : MethodName := ⟨RX4, "<init>", "()V"⟩
abbrev cX4_begin : ByteArray := prog_6_method_2_code
def yX4_begin : MethodName := ⟨RX4, "begin", "(II)V"⟩
abbrev cX4_isMissing : ByteArray := prog_6_method_3_code
def yX4_isMissing : MethodName := ⟨RX4, "isMissing", "()Z"⟩
abbrev cX4_has : ByteArray := prog_6_method_4_code
def yX4_has : MethodName := ⟨RX4, "has", "(I)Z"⟩
abbrev cX4_hasRun : ByteArray := prog_6_method_5_code
def yX4_hasRun : MethodName := ⟨RX4, "hasRun", "(II)Z"⟩
abbrev cX4_write : ByteArray := prog_6_method_6_code
def yX4_write : MethodName := ⟨RX4, "write", "(II)V"⟩
abbrev cX4_isNan : ByteArray := prog_6_method_7_code
def yX4_isNan : MethodName := ⟨RX4, "isNan", "(I)Z"⟩
abbrev cX4_isNumber : ByteArray := prog_6_method_8_code
def yX4_isNumber : MethodName := ⟨RX4, "isNumber", "(I)Z"⟩
abbrev cX4_warmthAt : ByteArray := prog_6_method_9_code
def yX4_warmthAt : MethodName := ⟨RX4, "warmthAt", "(I)I"⟩
abbrev cX4_boundedAt : ByteArray := prog_6_method_10_code
def yX4_boundedAt : MethodName := ⟨RX4, "boundedAt", "(I)I"⟩
abbrev cX4_wholeOfFloat : ByteArray := prog_6_method_11_code
def yX4_wholeOfFloat : MethodName := ⟨RX4, "wholeOfFloat", "(I)I"⟩
def RX5 : String := "OrchardBook$Sort"
def TX5 : u_T := fun k => match k with
  | 0 => ("OrchardBook$Sort", "need", "I", false)
  | 1 => ("OrchardBook$Sort", "length", "I", false)
  | 2 => ("OrchardBook$Sort", "ripening", "I", false)
  | 3 => ("OrchardBook$Sort", "keeping", "I", false)
  | 4 => ("OrchardBook$Sort", "first", "I", false)
  | 5 => ("OrchardBook$Sort", "acceptedBits", "I", false)
  | 6 => ("OrchardBook$Sort", "stored", "I", false)
  | _ => ("OrchardBook$Sort", "stock", "[I", true)
def tyX5 : Nat → FieldType := fun k => match k with
  | 0 => .int
  | 1 => .int
  | 2 => .int
  | 3 => .int
  | 4 => .int
  | 5 => .int
  | 6 => .int
  | _ => .array .int
abbrev wsX50 : List Cond := u_ws RX5 TX5 8
theorem nmX5 : ∀ a, a < 8 → ∀ b, b < 8 → a ≠ b → (TX5 a).2.1 ≠ (TX5 b).2.1 := by decide +kernel
theorem tyX5_ok : ∀ k, k < 8 → parseFieldDescriptor (TX5 k).2.2.1 = some (tyX5 k) := by decide +kernel
abbrev cX5_init : ByteArray := prog_7_method_1_code
def yX5_init : MethodName := ⟨RX5, "<init>", "()V"⟩
abbrev cX5_begin : ByteArray := prog_7_method_2_code
def yX5_begin : MethodName := ⟨RX5, "begin", "(IIIII)V"⟩
abbrev cX5_become : ByteArray := prog_7_method_3_code
def yX5_become : MethodName := ⟨RX5, "become", "(LOrchardBook$Sort;)V"⟩
abbrev cX5_accepts : ByteArray := prog_7_method_4_code
def yX5_accepts : MethodName := ⟨RX5, "accepts", "(I)Z"⟩
abbrev cX5_setAccepts : ByteArray := prog_7_method_5_code
def yX5_setAccepts : MethodName := ⟨RX5, "setAccepts", "(IZ)V"⟩
abbrev cX5_bring : ByteArray := prog_7_method_6_code
def yX5_bring : MethodName := ⟨RX5, "bring", "(II)V"⟩
abbrev cX5_spoil : ByteArray := prog_7_method_7_code
def yX5_spoil : MethodName := ⟨RX5, "spoil", "(I)I"⟩
abbrev cX5_takeOldest : ByteArray := prog_7_method_8_code
def yX5_takeOldest : MethodName := ⟨RX5, "takeOldest", "(II)I"⟩
def RX6 : String := "OrchardBook"
def TX6 : u_T := fun k => match k with
  | 0 => ("OrchardBook", "book", "LOrchardBook$Book;", true)
  | 1 => ("OrchardBook", "kept", "LOrchardBook$Book;", true)
  | 2 => ("OrchardBook", "isKept", "Z", false)
  | 3 => ("OrchardBook", "sheets", "[LOrchardBook$Sheet;", true)
  | 4 => ("OrchardBook", "season", "LOrchardBook$Season;", true)
  | 5 => ("OrchardBook", "laying", "LOrchardBook$Laying;", true)
  | _ => ("OrchardBook", "findings", "I", false)
def tyX6 : Nat → FieldType := fun k => match k with
  | 0 => .object "OrchardBook$Book"
  | 1 => .object "OrchardBook$Book"
  | 2 => .boolean
  | 3 => .array (.object "OrchardBook$Sheet")
  | 4 => .object "OrchardBook$Season"
  | 5 => .object "OrchardBook$Laying"
  | _ => .int
abbrev wsX60 : List Cond := u_ws RX6 TX6 7
theorem nmX6 : ∀ a, a < 7 → ∀ b, b < 7 → a ≠ b → (TX6 a).2.1 ≠ (TX6 b).2.1 := by decide +kernel
theorem tyX6_ok : ∀ k, k < 7 → parseFieldDescriptor (TX6 k).2.2.1 = some (tyX6 k) := by decide +kernel
abbrev cX6_init : ByteArray := prog_1_method_1_code
def yX6_init : MethodName := ⟨RX6, "<init>", "()V"⟩
abbrev cX6_sort : ByteArray := prog_1_method_2_code
def yX6_sort : MethodName := ⟨RX6, "sort", "(IIIII)I"⟩
abbrev cX6_takes : ByteArray := prog_1_method_3_code
def yX6_takes : MethodName := ⟨RX6, "takes", "(IIZ)I"⟩
abbrev cX6_at : ByteArray := prog_1_method_4_code
def yX6_at : MethodName := ⟨RX6, "at", "(III)I"⟩
abbrev cX6_distance : ByteArray := prog_1_method_5_code
def yX6_distance : MethodName := ⟨RX6, "distance", "(I)I"⟩
abbrev cX6_plant : ByteArray := prog_1_method_6_code
def yX6_plant : MethodName := ⟨RX6, "plant", "(IIII)I"⟩
abbrev cX6_pull : ByteArray := prog_1_method_7_code
def yX6_pull : MethodName := ⟨RX6, "pull", "(II)I"⟩
abbrev cX6_as : ByteArray := prog_1_method_8_code
def yX6_as : MethodName := ⟨RX6, "as", "(II)I"⟩
abbrev cX6_of : ByteArray := prog_1_method_9_code
def yX6_of : MethodName := ⟨RX6, "of", "(II)I"⟩
abbrev cX6_cut : ByteArray := prog_1_method_10_code
def yX6_cut : MethodName := ⟨RX6, "cut", "(II)I"⟩
abbrev cX6_sheet : ByteArray := prog_1_method_11_code
def yX6_sheet : MethodName := ⟨RX6, "sheet", "(III)I"⟩
abbrev cX6_put : ByteArray := prog_1_method_12_code
def yX6_put : MethodName := ⟨RX6, "put", "(III)I"⟩
abbrev cX6_copy : ByteArray := prog_1_method_13_code
def yX6_copy : MethodName := ⟨RX6, "copy", "(IIIII)I"⟩
abbrev cX6_name : ByteArray := prog_1_method_14_code
def yX6_name : MethodName := ⟨RX6, "name", "(I)I"⟩
abbrev cX6_warmth : ByteArray := prog_1_method_15_code
def yX6_warmth : MethodName := ⟨RX6, "warmth", "(I)I"⟩
abbrev cX6_sum : ByteArray := prog_1_method_16_code
def yX6_sum : MethodName := ⟨RX6, "sum", "(I)I"⟩
abbrev cX6_blooms : ByteArray := prog_1_method_17_code
def yX6_blooms : MethodName := ⟨RX6, "blooms", "(I)I"⟩
abbrev cX6_frost : ByteArray := prog_1_method_18_code
def yX6_frost : MethodName := ⟨RX6, "frost", "(III)I"⟩
abbrev cX6_partners : ByteArray := prog_1_method_19_code
def yX6_partners : MethodName := ⟨RX6, "partners", "(III)I"⟩
abbrev cX6_go : ByteArray := prog_1_method_20_code
def yX6_go : MethodName := ⟨RX6, "go", "(I)I"⟩
abbrev cX6_fruits : ByteArray := prog_1_method_21_code
def yX6_fruits : MethodName := ⟨RX6, "fruits", "(II)I"⟩
abbrev cX6_thin : ByteArray := prog_1_method_22_code
def yX6_thin : MethodName := ⟨RX6, "thin", "(II)I"⟩
abbrev cX6_hours : ByteArray := prog_1_method_23_code
def yX6_hours : MethodName := ⟨RX6, "hours", "(I)I"⟩
abbrev cX6_store : ByteArray := prog_1_method_24_code
def yX6_store : MethodName := ⟨RX6, "store", "(I)I"⟩
abbrev cX6_take : ByteArray := prog_1_method_25_code
def yX6_take : MethodName := ⟨RX6, "take", "(II)I"⟩
abbrev cX6_all : ByteArray := prog_1_method_26_code
def yX6_all : MethodName := ⟨RX6, "all", "(I)J"⟩
abbrev cX6_lone : ByteArray := prog_1_method_27_code
def yX6_lone : MethodName := ⟨RX6, "lone", "(I)I"⟩
abbrev cX6_best : ByteArray := prog_1_method_28_code
def yX6_best : MethodName := ⟨RX6, "best", "()I"⟩
abbrev cX6_given : ByteArray := prog_1_method_29_code
def yX6_given : MethodName := ⟨RX6, "given", "(I)I"⟩
abbrev cX6_keep : ByteArray := prog_1_method_30_code
def yX6_keep : MethodName := ⟨RX6, "keep", "()I"⟩
abbrev cX6_back : ByteArray := prog_1_method_31_code
def yX6_back : MethodName := ⟨RX6, "back", "()I"⟩
abbrev cX6_told : ByteArray := prog_1_method_32_code
def yX6_told : MethodName := ⟨RX6, "told", "(I)I"⟩
abbrev cX6_finding : ByteArray := prog_1_method_33_code
def yX6_finding : MethodName := ⟨RX6, "finding", "(I)I"⟩
abbrev cX6_within : ByteArray := prog_1_method_34_code
def yX6_within : MethodName := ⟨RX6, "within", "(III)Z"⟩
abbrev cX6_isPlace : ByteArray := prog_1_method_35_code
def yX6_isPlace : MethodName := ⟨RX6, "isPlace", "(I)Z"⟩
abbrev cX6_isPart : ByteArray := prog_1_method_36_code
def yX6_isPart : MethodName := ⟨RX6, "isPart", "(I)Z"⟩
abbrev cX6_isDay : ByteArray := prog_1_method_37_code
def yX6_isDay : MethodName := ⟨RX6, "isDay", "(I)Z"⟩
abbrev cX6_isSheet : ByteArray := prog_1_method_38_code
def yX6_isSheet : MethodName := ⟨RX6, "isSheet", "(I)Z"⟩
abbrev cX6_isSort : ByteArray := prog_1_method_39_code
def yX6_isSort : MethodName := ⟨RX6, "isSort", "(I)Z"⟩
abbrev cX6_namedSheet : ByteArray := prog_1_method_40_code
def yX6_namedSheet : MethodName := ⟨RX6, "namedSheet", "()LOrchardBook$Sheet;"⟩
abbrev cX6_upQuotient : ByteArray := prog_1_method_41_code
def yX6_upQuotient : MethodName := ⟨RX6, "upQuotient", "(II)I"⟩
def RX7 : String := "OrchardBookModel"
def TX7 : u_T := fun k => match k with
  | 0 => ("OrchardBookModel", "now", "[I", true)
  | 1 => ("OrchardBookModel", "kept", "[I", true)
  | 2 => ("OrchardBookModel", "sums", "[J", true)
  | 3 => ("OrchardBookModel", "keptSums", "[J", true)
  | 4 => ("OrchardBookModel", "hasKept", "Z", false)
  | 5 => ("OrchardBookModel", "sheetKind", "[I", true)
  | 6 => ("OrchardBookModel", "sheetSize", "[I", true)
  | 7 => ("OrchardBookModel", "sheets", "[I", true)
  | 8 => ("OrchardBookModel", "giving", "[I", true)
  | 9 => ("OrchardBookModel", "isGiven", "Z", false)
  | 10 => ("OrchardBookModel", "findings", "I", false)
  | 11 => ("OrchardBookModel", "carried", "[I", true)
  | 12 => ("OrchardBookModel", "buds", "[I", true)
  | 13 => ("OrchardBookModel", "partners", "[I", true)
  | 14 => ("OrchardBookModel", "isRipe", "[Z", true)
  | 15 => ("OrchardBookModel", "trees", "[I", true)
  | 16 => ("OrchardBookModel", "trial", "[I", true)
  | 17 => ("OrchardBookModel", "pairs", "[Z", true)
  | _ => ("OrchardBookModel", "nears", "[Z", true)
def tyX7 : Nat → FieldType := fun k => match k with
  | 0 => .array .int
  | 1 => .array .int
  | 2 => .array .long
  | 3 => .array .long
  | 4 => .boolean
  | 5 => .array .int
  | 6 => .array .int
  | 7 => .array .int
  | 8 => .array .int
  | 9 => .boolean
  | 10 => .int
  | 11 => .array .int
  | 12 => .array .int
  | 13 => .array .int
  | 14 => .array .boolean
  | 15 => .array .int
  | 16 => .array .int
  | 17 => .array .boolean
  | _ => .array .boolean
abbrev wsX70 : List Cond := u_ws RX7 TX7 19
theorem nmX7 : ∀ a, a < 19 → ∀ b, b < 19 → a ≠ b → (TX7 a).2.1 ≠ (TX7 b).2.1 := by decide +kernel
theorem tyX7_ok : ∀ k, k < 19 → parseFieldDescriptor (TX7 k).2.2.1 = some (tyX7 k) := by decide +kernel
abbrev cX7_init : ByteArray := prog_9_method_1_code
def yX7_init : MethodName := ⟨RX7, "<init>", "()V"⟩
abbrev cX7_in : ByteArray := prog_9_method_3_code
def yX7_in : MethodName := ⟨RX7, "in", "(III)Z"⟩
abbrev cX7_found : ByteArray := prog_9_method_4_code
def yX7_found : MethodName := ⟨RX7, "found", "(I)I"⟩
abbrev cX7_isSort : ByteArray := prog_9_method_5_code
def yX7_isSort : MethodName := ⟨RX7, "isSort", "(I)Z"⟩
abbrev cX7_isPlace : ByteArray := prog_9_method_6_code
def yX7_isPlace : MethodName := ⟨RX7, "isPlace", "(I)Z"⟩
abbrev cX7_isDay : ByteArray := prog_9_method_7_code
def yX7_isDay : MethodName := ⟨RX7, "isDay", "(I)Z"⟩
abbrev cX7_sortOf : ByteArray := prog_9_method_8_code
def yX7_sortOf : MethodName := ⟨RX7, "sortOf", "(II)I"⟩
abbrev cX7_get : ByteArray := prog_9_method_9_code
def yX7_get : MethodName := ⟨RX7, "get", "(II)I"⟩
abbrev cX7_lay : ByteArray := prog_9_method_10_code
def yX7_lay : MethodName := ⟨RX7, "lay", "(III)V"⟩
abbrev cX7_isTree : ByteArray := prog_9_method_11_code
def yX7_isTree : MethodName := ⟨RX7, "isTree", "(I)Z"⟩
abbrev cX7_does : ByteArray := prog_9_method_12_code
def yX7_does : MethodName := ⟨RX7, "does", "(II)Z"⟩
abbrev cX7_sort : ByteArray := prog_9_method_13_code
def yX7_sort : MethodName := ⟨RX7, "sort", "(IIIII)I"⟩
abbrev cX7_takes : ByteArray := prog_9_method_14_code
def yX7_takes : MethodName := ⟨RX7, "takes", "(IIZ)I"⟩
abbrev cX7_at : ByteArray := prog_9_method_15_code
def yX7_at : MethodName := ⟨RX7, "at", "(III)I"⟩
abbrev cX7_distance : ByteArray := prog_9_method_16_code
def yX7_distance : MethodName := ⟨RX7, "distance", "(I)I"⟩
abbrev cX7_plant : ByteArray := prog_9_method_17_code
def yX7_plant : MethodName := ⟨RX7, "plant", "(IIII)I"⟩
abbrev cX7_pull : ByteArray := prog_9_method_18_code
def yX7_pull : MethodName := ⟨RX7, "pull", "(II)I"⟩
abbrev cX7_as : ByteArray := prog_9_method_19_code
def yX7_as : MethodName := ⟨RX7, "as", "(II)I"⟩
abbrev cX7_age : ByteArray := prog_9_method_20_code
def yX7_age : MethodName := ⟨RX7, "age", "(I)I"⟩
abbrev cX7_heightOf : ByteArray := prog_9_method_21_code
def yX7_heightOf : MethodName := ⟨RX7, "heightOf", "(I)I"⟩
abbrev cX7_budsOf : ByteArray := prog_9_method_22_code
def yX7_budsOf : MethodName := ⟨RX7, "budsOf", "(I)I"⟩
abbrev cX7_of : ByteArray := prog_9_method_23_code
def yX7_of : MethodName := ⟨RX7, "of", "(II)I"⟩
abbrev cX7_lacks : ByteArray := prog_9_method_24_code
def yX7_lacks : MethodName := ⟨RX7, "lacks", "(I)I"⟩
abbrev cX7_cut : ByteArray := prog_9_method_25_code
def yX7_cut : MethodName := ⟨RX7, "cut", "(II)I"⟩
abbrev cX7_isSheet : ByteArray := prog_9_method_26_code
def yX7_isSheet : MethodName := ⟨RX7, "isSheet", "(I)Z"⟩
abbrev cX7_sheet : ByteArray := prog_9_method_27_code
def yX7_sheet : MethodName := ⟨RX7, "sheet", "(III)I"⟩
abbrev cX7_isNone : ByteArray := prog_9_method_28_code
def yX7_isNone : MethodName := ⟨RX7, "isNone", "(I)Z"⟩
abbrev cX7_put : ByteArray := prog_9_method_29_code
def yX7_put : MethodName := ⟨RX7, "put", "(III)I"⟩
abbrev cX7_copy : ByteArray := prog_9_method_30_code
def yX7_copy : MethodName := ⟨RX7, "copy", "(IIIII)I"⟩
abbrev cX7_name : ByteArray := prog_9_method_31_code
def yX7_name : MethodName := ⟨RX7, "name", "(I)I"⟩
abbrev cX7_told0 : ByteArray := prog_9_method_32_code
def yX7_told0 : MethodName := ⟨RX7, "told0", "(II)I"⟩
abbrev cX7_stands : ByteArray := prog_9_method_33_code
def yX7_stands : MethodName := ⟨RX7, "stands", "(I)I"⟩
abbrev cX7_warm : ByteArray := prog_9_method_34_code
def yX7_warm : MethodName := ⟨RX7, "warm", "(I)I"⟩
abbrev cX7_warmth : ByteArray := prog_9_method_35_code
def yX7_warmth : MethodName := ⟨RX7, "warmth", "(I)I"⟩
abbrev cX7_sum : ByteArray := prog_9_method_36_code
def yX7_sum : MethodName := ⟨RX7, "sum", "(I)I"⟩
abbrev cX7_firstDay : ByteArray := prog_9_method_37_code
def yX7_firstDay : MethodName := ⟨RX7, "firstDay", "(IZ)I"⟩
abbrev cX7_blooms : ByteArray := prog_9_method_38_code
def yX7_blooms : MethodName := ⟨RX7, "blooms", "(I)I"⟩
abbrev cX7_frost : ByteArray := prog_9_method_39_code
def yX7_frost : MethodName := ⟨RX7, "frost", "(III)I"⟩
abbrev cX7_isPart : ByteArray := prog_9_method_40_code
def yX7_isPart : MethodName := ⟨RX7, "isPart", "(I)Z"⟩
abbrev cX7_sortOfPart : ByteArray := prog_9_method_41_code
def yX7_sortOfPart : MethodName := ⟨RX7, "sortOfPart", "(I)I"⟩
abbrev cX7_blossoms : ByteArray := prog_9_method_42_code
def yX7_blossoms : MethodName := ⟨RX7, "blossoms", "(IIZ)Z"⟩
abbrev cX7_isOpen : ByteArray := prog_9_method_43_code
def yX7_isOpen : MethodName := ⟨RX7, "isOpen", "(II)Z"⟩
abbrev cX7_isNear : ByteArray := prog_9_method_44_code
def yX7_isNear : MethodName := ⟨RX7, "isNear", "(II)Z"⟩
abbrev cX7_partnersOf : ByteArray := prog_9_method_45_code
def yX7_partnersOf : MethodName := ⟨RX7, "partnersOf", "(II)I"⟩
abbrev cX7_lacksPart : ByteArray := prog_9_method_46_code
def yX7_lacksPart : MethodName := ⟨RX7, "lacksPart", "(II)I"⟩
abbrev cX7_partners : ByteArray := prog_9_method_47_code
def yX7_partners : MethodName := ⟨RX7, "partners", "(III)I"⟩
abbrev cX7_fruitsOf : ByteArray := prog_9_method_48_code
def yX7_fruitsOf : MethodName := ⟨RX7, "fruitsOf", "(I)I"⟩
abbrev cX7_grow : ByteArray := prog_9_method_49_code
def yX7_grow : MethodName := ⟨RX7, "grow", "(II)V"⟩
abbrev cX7_fruits : ByteArray := prog_9_method_50_code
def yX7_fruits : MethodName := ⟨RX7, "fruits", "(II)I"⟩
abbrev cX7_thin : ByteArray := prog_9_method_51_code
def yX7_thin : MethodName := ⟨RX7, "thin", "(II)I"⟩
abbrev cX7_hours : ByteArray := prog_9_method_52_code
def yX7_hours : MethodName := ⟨RX7, "hours", "(I)I"⟩
abbrev cX7_cell : ByteArray := prog_9_method_53_code
def yX7_cell : MethodName := ⟨RX7, "cell", "(II)I"⟩
abbrev cX7_inStore : ByteArray := prog_9_method_54_code
def yX7_inStore : MethodName := ⟨RX7, "inStore", "(I)I"⟩
abbrev cX7_inAll : ByteArray := prog_9_method_55_code
def yX7_inAll : MethodName := ⟨RX7, "inAll", "()I"⟩
abbrev cX7_store : ByteArray := prog_9_method_56_code
def yX7_store : MethodName := ⟨RX7, "store", "(I)I"⟩
abbrev cX7_take : ByteArray := prog_9_method_57_code
def yX7_take : MethodName := ⟨RX7, "take", "(II)I"⟩
abbrev cX7_day : ByteArray := prog_9_method_58_code
def yX7_day : MethodName := ⟨RX7, "day", "()V"⟩
abbrev cX7_sets : ByteArray := prog_9_method_59_code
def yX7_sets : MethodName := ⟨RX7, "sets", "(II)V"⟩
abbrev cX7_ripens : ByteArray := prog_9_method_60_code
def yX7_ripens : MethodName := ⟨RX7, "ripens", "(II)Z"⟩
abbrev cX7_pick : ByteArray := prog_9_method_61_code
def yX7_pick : MethodName := ⟨RX7, "pick", "(I)V"⟩
abbrev cX7_ends : ByteArray := prog_9_method_62_code
def yX7_ends : MethodName := ⟨RX7, "ends", "()V"⟩
abbrev cX7_go : ByteArray := prog_9_method_63_code
def yX7_go : MethodName := ⟨RX7, "go", "(I)I"⟩
abbrev cX7_all : ByteArray := prog_9_method_64_code
def yX7_all : MethodName := ⟨RX7, "all", "(I)J"⟩
abbrev cX7_together : ByteArray := prog_9_method_65_code
def yX7_together : MethodName := ⟨RX7, "together", "(II)Z"⟩
abbrev cX7_fits : ByteArray := prog_9_method_66_code
def yX7_fits : MethodName := ⟨RX7, "fits", "(II)Z"⟩
abbrev cX7_lone : ByteArray := prog_9_method_67_code
def yX7_lone : MethodName := ⟨RX7, "lone", "(I)I"⟩
abbrev cX7_best : ByteArray := prog_9_method_68_code
def yX7_best : MethodName := ⟨RX7, "best", "()I"⟩
abbrev cX7_given : ByteArray := prog_9_method_69_code
def yX7_given : MethodName := ⟨RX7, "given", "(I)I"⟩
abbrev cX7_keep : ByteArray := prog_9_method_70_code
def yX7_keep : MethodName := ⟨RX7, "keep", "()I"⟩
abbrev cX7_back : ByteArray := prog_9_method_71_code
def yX7_back : MethodName := ⟨RX7, "back", "()I"⟩
abbrev cX7_told : ByteArray := prog_9_method_72_code
def yX7_told : MethodName := ⟨RX7, "told", "(I)I"⟩
def RJ9 : String := "java/lang/Math"
abbrev cJ9_floorMod_7cf53 : ByteArray := prog_10_method_50_code
def yJ9_floorMod_7cf53 : MethodName := ⟨RJ9, "floorMod", "(II)I"⟩
abbrev cJ9_abs_0f7a4 : ByteArray := prog_10_method_59_code
def yJ9_abs_0f7a4 : MethodName := ⟨RJ9, "abs", "(I)I"⟩
abbrev cJ9_max_7cf53 : ByteArray := prog_10_method_65_code
def yJ9_max_7cf53 : MethodName := ⟨RJ9, "max", "(II)I"⟩
abbrev cJ9_min_7cf53 : ByteArray := prog_10_method_69_code
def yJ9_min_7cf53 : MethodName := ⟨RJ9, "min", "(II)I"⟩
def RJ10 : String := "java/lang/System"
def RL : String := "OrchardBookLaw"
abbrev vwCl : List vw_C := [(RX0, TX0, 13), (RX1, TX1, 10), (RX2, TX2, 11), (RX3, TX3, 4), (RX4, TX4, 3), (RX5, TX5, 8), (RX6, TX6, 7), (RX7, TX7, 19)]
end
section
-- THE WORLD: cells in the order in which they are made: cell i lies at h0 + i
abbrev Kd : Type := (Nat × List Bool) ⊕ (Nat × Nat)
abbrev St : Type := (Nat → Nat → Int32) × (Nat → Nat → Int64)
abbrev Rf : Type := Nat → Nat → Option Nat
abbrev Wd : Type := va_G × Nat × (Nat → ClassId)
abbrev MI : Type := MethodName × ByteArray × Nat × Option FieldType × Room
abbrev WP : Type := Nat × Rf × St × Nat × Nat
def up1 {α : Type} (f : Nat → α) (k : Nat) (v : α) : Nat → α := fun j => if j = k then v else f j
def up2 {α : Type} (f : Nat → Nat → α) (i k : Nat) (v : α) : Nat → Nat → α := fun i' => if i' = i then (fun k' => if k' = k then v else f i k') else f i'
def upA {α : Type} (f : Nat → Nat → α) (i : Nat) (g : Nat → α) : Nat → Nat → α := fun i' => if i' = i then g else f i'
def rd (S : St) (i k : Nat) : Int32 := S.1 i k
def rdL (S : St) (i k : Nat) : Int64 := S.2 i k
def wr (S : St) (i k : Nat) (v : Int32) : St := (up2 S.1 i k v, S.2)
def wrL (S : St) (i k : Nat) (v : Int64) : St := (S.1, up2 S.2 i k v)
def cpI (S : St) (i j sp dp n : Nat) : St := (upA S.1 j (va_cpy (S.1 i) (S.1 j) sp dp n), S.2)
def cpL (S : St) (i j sp dp n : Nat) : St := (S.1, upA S.2 j (va_cpy (S.2 i) (S.2 j) sp dp n))
def ix (i : Int32) : Nat := i.toNatClampNeg
def inb (i : Int32) (n : Nat) : Bool := decide (0 ≤ i) && decide (i.toNatClampNeg < n)
theorem inb_in {i : Int32} {n : Nat} (h : inb i n = true) : vp_in i n := by
  simp only [inb, Bool.and_eq_true, decide_eq_true_eq] at h
  intro q
  rcases q with q | q
  · exact absurd q (Int32.not_lt.mpr h.1)
  · omega
theorem inb_lt {i : Int32} {n : Nat} (h : inb i n = true) : ix i < n := by
  simp only [inb, Bool.and_eq_true, decide_eq_true_eq] at h
  exact h.2
-- the kinds of the cells, by number
def kF (n : Nat) : List Bool := List.replicate n false
abbrev KdBook : Kd := .inl (0, [true, false, true, false, false, false, true, true, true, false, false, false, true])
abbrev KdLaying : Kd := .inl (1, [false, false, false, false, true, true, true, true, true, true])
abbrev KdPlace : Kd := .inl (2, [false, false, false, false, false, false, false, false, false, false, true])
abbrev KdSeason : Kd := .inl (3, [true, true, true, true])
abbrev KdSheet : Kd := .inl (4, [false, false, true])
abbrev KdSort : Kd := .inl (5, [false, false, false, false, false, false, false, true])
abbrev KdFace : Kd := .inl (6, [true, true, false, true, true, true, false])
abbrev KdModel : Kd := .inl (7, [true, true, true, true, false, true, true, true, true, false, false, true, true, true, true, true, true, true, true])
abbrev Kints (n : Nat) : Kd := .inr (0, n)
abbrev Kbools (n : Nat) : Kd := .inr (1, n)
abbrev Klongs (n : Nat) : Kd := .inr (2, n)
def kdBook (i : Nat) : Kd := if i = 0 then KdBook else if i = 1 then .inr (3, 6) else if i = 2 then .inr (4, 12) else if i < 6 then Kints 50 else if i = 6 then Klongs 10 else if i < 19 then (if i % 2 = 1 then KdSort else Kints 60) else (if i % 2 = 1 then KdPlace else Kints 2)
def kdTail (i : Nat) : Kd := match i with
  | 0 => .inr (5, 4)
  | 1 => KdSheet | 2 => Kints 50 | 3 => KdSheet | 4 => Kints 50 | 5 => KdSheet | 6 => Kints 50 | 7 => KdSheet | 8 => Kints 50
  | 9 => KdSeason | 10 => Kints 50 | 11 => Kints 51 | 12 => Kints 6 | 13 => Kints 6
  | 14 => KdLaying | 15 => Kints 12 | 16 => Kints 12 | 17 => Kints 12 | 18 => Kints 12 | 19 => Kints 13 | 20 => Kints 36
  | 21 => KdModel | 22 => Kints 788 | 23 => Kints 788 | 24 => Klongs 10 | 25 => Klongs 10 | 26 => Kints 4 | 27 => Kints 4 | 28 => Kints 200 | 29 => Kints 12 | 30 => Kints 50
  | 31 => Kints 24 | 32 => Kints 24 | 33 => Kbools 24 | 34 => Kints 12 | 35 => Kints 12 | 36 => Kbools 36 | 37 => Kbools 144
  | _ => Kints 0
def kd (i : Nat) : Kd := if i = 0 then KdFace else if i < 44 then kdBook (i - 1) else if i < 87 then kdBook (i - 44) else kdTail (i - 87)
-- the references, once all is made
def rkO (ci a k : Nat) : Option Nat := match ci with
  | 0 => (match k with | 0 => some (a + 1) | 2 => some (a + 2) | 6 => some (a + 3) | 7 => some (a + 4) | 8 => some (a + 5) | 12 => some (a + 6) | _ => none)
  | 1 => some (a + (k - 3))
  | 2 => some (a + 1)
  | 3 => some (a + (k + 1))
  | 4 => some (a + 1)
  | 5 => some (a + 1)
  | 6 => (match k with | 0 => some 1 | 1 => some 44 | 3 => some 87 | 4 => some 96 | 5 => some 101 | _ => none)
  | _ => (match k with | 0 => some (a + 1) | 1 => some (a + 2) | 2 => some (a + 3) | 3 => some (a + 4) | 5 => some (a + 5) | 6 => some (a + 6) | 7 => some (a + 7) | 8 => some (a + 8) | 11 => some (a + 9) | 12 => some (a + 10) | 13 => some (a + 11) | 14 => some (a + 12) | 15 => some (a + 13) | 16 => some (a + 14) | 17 => some (a + 15) | 18 => some (a + 16) | _ => none)
def rkA (t a k : Nat) : Option Nat := match t with
  | 3 => some (a + 6 + 2 * k)
  | 4 => some (a + 17 + 2 * k)
  | _ => some (a + 1 + 2 * k)
def rho (a k : Nat) : Option Nat := match kd a with
  | .inl c => rkO c.1 a k
  | .inr c => rkA c.1 a k
abbrev NN : Nat := 125
-- a cell as the heap has it
def fv (w : Wd) (S : St) (ρ : Rf) (i k : Nat) (b : Bool) : Value := if b then va_rf ((ρ i k).map (fun j => w.2.1 + j)) else .int (S.1 i k)
def flds (w : Wd) (S : St) (ρ : Rf) (i : Nat) (fl : List Bool) : List Value := fl.mapIdx (fun k b => fv w S ρ i k b)
def arc (w : Wd) (S : St) (ρ : Rf) (i t n : Nat) : vp_A := match t with
  | 0 => (n, .inl (S.1 i))
  | 1 => (n, .inl (S.1 i))
  | 2 => (n, .inr (.inl (S.2 i)))
  | _ => (n, .inr (.inr (.inr (.inr (fun j => (ρ i j).map (fun q => w.2.1 + q))))))
def cel (w : Wd) (S : St) (ρ : Rf) (i : Nat) : va_E := match kd i with
  | .inl c => .inr (c.1, flds w S ρ i c.2)
  | .inr c => .inl (w.2.2 c.1, arc w S ρ i c.1 c.2)
def wls (w : Wd) (n : Nat) (S : St) (ρ : Rf) : va_W := (List.range n).map (fun i => (w.2.1 + i, cel w S ρ i))
theorem wls_at {w : Wd} {n : Nat} {S : St} {ρ : Rf} {i : Nat} (h : i < n) : (wls w n S ρ)[i]? = some (w.2.1 + i, cel w S ρ i) := by
  simp [wls, h]
theorem wls_lt {w : Wd} {n : Nat} {S : St} {ρ : Rf} {i : Nat} {q : Nat × va_E} (h : (wls w n S ρ)[i]? = some q) : i < n ∧ q = (w.2.1 + i, cel w S ρ i) := by
  have hl : i < n := by
    have := (List.getElem?_eq_some_iff.mp h).1
    simpa [wls] using this
  refine ⟨hl, ?_⟩
  rw [wls_at hl] at h
  exact (Option.some.inj h).symm
theorem cel_o {w : Wd} {S : St} {ρ : Rf} {i ci : Nat} {fl : List Bool} (h : kd i = .inl (ci, fl)) : cel w S ρ i = .inr (ci, flds w S ρ i fl) := by
  simp [cel, h]
theorem cel_a {w : Wd} {S : St} {ρ : Rf} {i t n : Nat} (h : kd i = .inr (t, n)) : cel w S ρ i = .inl (w.2.2 t, arc w S ρ i t n) := by
  simp [cel, h]
abbrev Ad (w : Wd) : Nat → Prop := fun q => w.2.1 ≤ q
theorem wls_D {w : Wd} {n : Nat} {S : St} {ρ : Rf} : va_D (Ad w) (wls w n S ρ) := by
  refine ⟨fun i j p q hi hj hpq => ?_, fun k q hk => ?_⟩
  · obtain ⟨-, rfl⟩ := wls_lt hi
    obtain ⟨-, rfl⟩ := wls_lt hj
    have : w.2.1 + i = w.2.1 + j := hpq
    omega
  · obtain ⟨-, rfl⟩ := wls_lt hk
    exact Nat.le_add_right _ _
def Rep (w : Wd) (n : Nat) (ρ : Rf) (S : St) (H : Heap) : Prop := va_P w.1 vwCl (wls w n S ρ) H
abbrev tys (w : Wd) : List (ClassId × FieldType) := [(w.2.2 0, .int), (w.2.2 1, .boolean), (w.2.2 2, .long), (w.2.2 3, .object RX5), (w.2.2 4, .object RX2), (w.2.2 5, .object RX4)]
def nestL : List (String × Nat × MethodName × String) := [(RX6, 29, yX4_init, "OrchardBook"), (RX6, 32, yX3_init, "OrchardBook"), (RX6, 39, yX1_init, "OrchardBook"), (RX0, 197, yX6_upQuotient, "OrchardBook"), (RX0, 59, yX5_init, "OrchardBook"), (RX0, 60, yX2_init, "OrchardBook")]
def KK (w : Wd) (U : State) : Prop := va_K w.1 vwCl (tys w) U ∧ va_AO RX5 U ∧ va_AO RX2 U ∧ va_AO RX4 U ∧ ∀ q ∈ nestL, va_Nw (.methodLinkNest q.1 q.2.1 q.2.2.1 q.2.2.2) U
theorem KK.warm {w : Wd} {u U : State} (hW : u.WarmedH U.vm) (h : KK w u) : KK w U := ⟨va_K.moved hW.alike h.1, h.2.1.moved hW.alike, h.2.2.1.moved hW.alike, h.2.2.2.1.moved hW.alike, fun q hq => (h.2.2.2.2 q hq).warmM hW⟩
theorem KK.same {w : Wd} {u U : State} (hv : u.vm = U.vm) (h : KK w u) : KK w U := ⟨va_K.moved (by rw [hv]; exact Vm.Alike.refl _) h.1, h.2.1.moved (by rw [hv]; exact Vm.Alike.refl _), h.2.2.1.moved (by rw [hv]; exact Vm.Alike.refl _), h.2.2.2.1.moved (by rw [hv]; exact Vm.Alike.refl _), fun q hq => (h.2.2.2.2 q hq).same rfl hv⟩
/-- a list of cells that are the same but for one -/
theorem wls_set {w : Wd} {n : Nat} {S S' : St} {ρ ρ' : Rf} {i : Nat} {e : va_E} (hi : i < n) (he : e = cel w S' ρ' i) (ho : ∀ j, j ≠ i → cel w S' ρ' j = cel w S ρ j) : (wls w n S ρ).set i (w.2.1 + i, e) = wls w n S' ρ' := by
  subst he
  apply List.ext_getElem?
  intro k
  by_cases hk : k < n
  · by_cases hki : i = k
    · subst hki
      rw [List.getElem?_set_self (by simpa [wls] using hi), wls_at hk]
    · rw [List.getElem?_set_ne hki, wls_at hk, wls_at hk, ho k (fun h => hki h.symm)]
  · rw [List.getElem?_eq_none (by simp [wls]; omega), List.getElem?_eq_none (by simp [wls]; omega)]
theorem wls_push {w : Wd} {n : Nat} {S : St} {ρ : Rf} {e : va_E} (he : e = cel w S ρ n) : wls w n S ρ ++ [(w.2.1 + n, e)] = wls w (n + 1) S ρ := by
  subst he
  simp [wls, List.range_succ]
theorem up2_ne {α : Type} {f : Nat → Nat → α} {i j k : Nat} {v : α} (h : j ≠ i) : up2 f i k v j = f j := by simp [up2, h]
theorem up2_eq {α : Type} {f : Nat → Nat → α} {i k k' : Nat} {v : α} : up2 f i k v i k' = if k' = k then v else f i k' := by simp [up2]
theorem upA_ne {α : Type} {f : Nat → Nat → α} {i j : Nat} {g : Nat → α} (h : j ≠ i) : upA f i g j = f j := by simp [upA, h]
theorem upA_eq {α : Type} {f : Nat → Nat → α} {i : Nat} {g : Nat → α} : upA f i g i = g := by simp [upA]
theorem fv_cong {w : Wd} {S S' : St} {ρ ρ' : Rf} {i k : Nat} {b : Bool} (h1 : S'.1 i k = S.1 i k) (h2 : ρ' i k = ρ i k) : fv w S' ρ' i k b = fv w S ρ i k b := by simp [fv, h1, h2]
theorem cel_cong {w : Wd} {S S' : St} {ρ ρ' : Rf} {j : Nat} (h1 : S'.1 j = S.1 j) (h2 : S'.2 j = S.2 j) (h3 : ρ' j = ρ j) : cel w S' ρ' j = cel w S ρ j := by
  unfold cel
  cases kd j with
  | inl c => simp only [flds, fv, h1, h3]
  | inr c =>
    obtain ⟨t, n⟩ := c
    match t with
    | 0 => simp only [arc, h1]
    | 1 => simp only [arc, h1]
    | 2 => simp only [arc, h2]
    | t + 3 => simp only [arc, h3]
theorem flds_at {w : Wd} {S : St} {ρ : Rf} {i k : Nat} {fl : List Bool} {b : Bool} (h : fl[k]? = some b) : (flds w S ρ i fl)[k]? = some (fv w S ρ i k b) := by
  simp [flds, List.getElem?_mapIdx, h]
theorem flds_set {w : Wd} {S S' : St} {ρ ρ' : Rf} {i k : Nat} {fl : List Bool} {b : Bool} {v : Value} (h : fl[k]? = some b) (hv : v = fv w S' ρ' i k b) (ho : ∀ j b', j ≠ k → fv w S' ρ' i j b' = fv w S ρ i j b') : (flds w S ρ i fl).set k v = flds w S' ρ' i fl := by
  subst hv
  have hl : k < fl.length := (List.getElem?_eq_some_iff.mp h).1
  apply List.ext_getElem?
  intro j
  by_cases hj : j < fl.length
  · obtain ⟨b', hb'⟩ : ∃ b', fl[j]? = some b' := ⟨fl[j], List.getElem?_eq_getElem hj⟩
    by_cases hjk : k = j
    · subst hjk
      rw [List.getElem?_set_self (by simpa [flds] using hl), flds_at h]
    · rw [List.getElem?_set_ne hjk, flds_at hb', flds_at hb', ho j b' (fun h => hjk h.symm)]
  · rw [List.getElem?_eq_none (by simp [flds]; omega), List.getElem?_eq_none (by simp [flds]; omega)]
theorem flds_len {w : Wd} {S : St} {ρ : Rf} {i : Nat} {fl : List Bool} : (flds w S ρ i fl).length = fl.length := by simp [flds]
end
section

def gw : List Cond := lw_tbl.filter goodWord
theorem gm {q : Cond} (i : Nat) (h : lw_tbl[i]? = some q) (hg : goodWord q = true) : q ∈ gw := List.mem_filter.mpr ⟨List.mem_of_getElem? h, hg⟩
def Cx (p : Program) (s : State) (m : MethodId) (args : Array Value) (meth : Method) (c : Code) (y : MI) (w : Wd) : Prop :=
  p.tables.exec = Jvm.exec ∧ c.code = y.2.1 ∧ c.maxLocals = y.2.2.1 ∧ s.vm.findClass y.1.cls = some m.cls ∧ (∀ q ∈ gw, q.before args s = true) ∧ meth.sig.returnType = y.2.2.2.1 ∧ meth.locks = false ∧ meth.name = y.1.name ∧ KK w s ∧ w.2.1 ≤ s.heap.size
def Qp (w : Wd) (P : WP) (r : Option Value) : Array Value → State → Outcome → State → Prop := fun _ st o t => o = .returned r ∧ Rep w P.1 P.2.1 P.2.2.1 t.heap ∧ KK w t ∧ va_F (Ad w) st t
def RepG (w : Wd) (P : WP) (s : State) (H : Heap) : Prop := Rep w P.1 P.2.1 P.2.2.1 H ∧ s.heap.size + P.2.2.2.1 = w.2.1 + P.1
def G (l : Launch) (w : Wd) (y : MI) (pc : Nat) (ls : List (Nat × Value)) (st : List Value) (P P' : WP) (r : Option Value) : Prop :=
  ∀ (p : Program) (e : Env) (s : State) (m : MethodId) (args : Array Value) (below : List Frame) (meth : Method) (c : Code) (H : Heap) (locs : List Loc) (Ls : Array Slot), Cx p s m args meth c y w → RepG w P s H → va_S (Ad w) s.heap H locs → lv_has Ls y.2.2.1 ls → W p l e y.2.2.2.2 s m args below meth c H locs P.2.2.2.1 P.2.2.2.2 (MQ below (Qp w P' r) args s P'.2.2.2.1 P'.2.2.2.2 (Ad w)) (F0 m pc Ls st)
abbrev pt (S : St) : WP := (NN, rho, S, 0, 0)
/-- from this point the method ends as the pure program X says -/
def J {β : Type} (l : Launch) (w : Wd) (y : MI) (pc : Nat) (ls : List (Nat × Value)) (st : List Value) (S : St) (R : β → Option Value × St) (X : Option β) : Prop := ∀ b, X = some b → G l w y pc ls st (pt S) (pt (R b).2) (R b).1
def b2i (b : Bool) : Int32 := match b with | true => 1 | false => 0
def wsY (y : MI) : List Cond := .code y.1 y.2.1 y.2.2.1 y.2.2.2.1 :: gw
/-- a method's contract: with these arguments from this world it comes to that one, with this answer -/
def Ct (l : Launch) (w : Wd) (y : MI) (av : List Value) (n : Nat) (ρ : Rf) (S : St) (P' : WP) (r : Option Value) : Prop := Met l y.1 (wsY y) y.2.2.2.2 (va_Pc av (fun U => U.heap.size = w.2.1 + n ∧ Rep w n ρ S U.heap ∧ KK w U)) (Qp w P' r) P'.2.2.2.1 P'.2.2.2.2 (Ad w)
abbrev CtS (l : Launch) (w : Wd) (y : MI) (av : List Value) (S S' : St) (r : Option Value) : Prop := Ct l w y av NN rho S (pt S') r
theorem lw_good : gw.all goodWord = true := List.all_eq_true.mpr fun q h => (List.mem_filter.mp h).2
theorem lw_goodIn {x y : MI} (h : Cond.code y.1 y.2.1 y.2.2.1 y.2.2.2.1 ∈ gw) : GoodIn (wsY x) (wsY y) := by
  intro q hq
  have hm : q ∈ gw := by
    rcases List.mem_cons.mp hq with rfl | hq
    · exact h
    · exact hq
  exact ⟨List.mem_cons_of_mem _ hm, good_of_word (List.all_eq_true.mp lw_good q hm)⟩
theorem lw_goodIn' {y : MI} (h : Cond.code y.1 y.2.1 y.2.2.1 y.2.2.2.1 ∈ gw) : GoodIn gw (wsY y) := by
  intro q hq
  have hm : q ∈ gw := by
    rcases List.mem_cons.mp hq with rfl | hq
    · exact h
    · exact hq
  exact ⟨hm, good_of_word (List.all_eq_true.mp lw_good q hm)⟩
theorem Ct.of {l : Launch} {w : Wd} {y : MI} {av : List Value} {n : Nat} {ρ : Rf} {S : St} {P' : WP} {r : Option Value} (hlen : (lg_sl av).length ≤ y.2.2.1) (hpl : plainName y.1.cls = true) (h : G l w y 0 (lv_args 0 av) [] (n, ρ, S, 0, 0) P' r) : Ct l w y av n ρ S P' r := by
  refine Met.ofW (cc := y.2.1) (maxL := y.2.2.1) (ret := y.2.2.2.1) hpl rfl ?_
  intro p e s m args below meth c s₁ B hml hv
  obtain ⟨rfl, hz, hR, hK⟩ := hv
  have hts := atoms_spec (ws := wsY y) B.pre
  have hl := lv_entry av (n := y.2.2.1) hlen
  rw [lg_entry_eq]
  exact h p e s m _ below meth c s.heap [] _ ⟨B.exec, B.bytes, hml, findClass_of_methodNamed B.named, fun q hq => hts q (List.mem_cons_of_mem _ hq), B.returns, B.notSynchronized, (name_of_methodNamed B.named B.method).1, hK, by rw [hz]; omega⟩ ⟨hR, by show s.heap.size + 0 = _; rw [hz]; rfl⟩ va_S.rf hl
theorem Cx.fix {p : Program} {s : State} {m : MethodId} {args : Array Value} {meth : Method} {c : Code} {y : MI} {w : Wd} (C : Cx p s m args meth c y w) : CallFix p m c y.2.1 y.2.2.1 s args gw y.1.cls := ⟨C.1, C.2.1, C.2.2.1, C.2.2.2.1, C.2.2.2.2.1⟩
theorem pre_blind {w : Wd} {av : List Value} {n : Nat} {ρ : Rf} {S : St} : FrameBlind (va_Pc av (fun U => U.heap.size = w.2.1 + n ∧ Rep w n ρ S U.heap ∧ KK w U)) := by
  intro a U g mk q
  obtain ⟨q0, q3, q1, q2⟩ := q
  exact ⟨q0, q3, q1, KK.same (u := U) (U := U.calling g mk a) rfl q2⟩
section Rules
variable {l : Launch} {w : Wd} {y : MI} {pc : Nat} {ls : List (Nat × Value)} {st : List Value} {P P' : WP} {r : Option Value} {β : Type} {R : β → Option Value × St} {X : Option β} {S : St}
theorem g_size {p : Program} {e : Env} {s : State} {m : MethodId} {args : Array Value} {below : List Frame} {meth : Method} {c : Code} {H : Heap} {locs : List Loc} {n : Nat} {ρ : Rf} {S : St} {k z : Nat} {T : State} {RR : Room} (hT : T.heap = H) (Y : Stand p l e RR s m args below meth c T locs k z) (hR : RepG w (n, ρ, S, k, z) s H) (hn : 0 < n) : H.size = w.2.1 + n := by
  have h1 : T.heap.size ≤ s.heap.size + k := Y.same.2.2.1
  have h2 : s.heap.size + k = w.2.1 + n := hR.2
  have h3 := (hR.1 (n - 1) _ (wls_at (by omega))).lt
  have h4 : w.2.1 + (n - 1) < H.size := h3
  rw [hT] at h1
  omega
theorem g_sized {p : Program} {e : Env} {s : State} {m : MethodId} {args : Array Value} {below : List Frame} {meth : Method} {c : Code} {H : Heap} {locs : List Loc} {n : Nat} {ρ : Rf} {S : St} {k z : Nat} {RR : Room} {Q : State → Prop} {g : JFrame} (hR : RepG w (n, ρ, S, k, z) s H) (hn : 0 < n) (h : H.size = w.2.1 + n → W p l e RR s m args below meth c H locs k z Q g) : W p l e RR s m args below meth c H locs k z Q g := fun T hT Y => h (g_size hT Y hR hn) T hT Y
/-- behind a call -/
theorem g_run {p : Program} {e : Env} {s : State} {m : MethodId} {args : Array Value} {below : List Frame} {meth : Method} {c : Code} {H : Heap} {locs : List Loc} {Ls : Array Slot} {n n' : Nat} {ρ' : Rf} {S' : St} {k z mc ms : Nat} {st0 rest : List Value} {r0 : Option Value} {a : Array Value}
    (C : Cx p s m args meth c y w) (hz : s.heap.size + k = w.2.1 + n) (hnn : n' = n + mc) (hS : va_S (Ad w) s.heap H locs) (hl : lv_has Ls y.2.2.1 ls)
    (hr : va_Run p l e y.2.2.2.2 s m args below meth c H locs k z mc ms (F0 m pc Ls st0) rest (Qp w (n', ρ', S', mc, ms) r0 a) (Ad w))
    (kk : G l w y (pc + 3) ls (r0.toList ++ rest) (n', ρ', S', k + mc, z + ms) P' r) :
    W p l e y.2.2.2.2 s m args below meth c H locs k z (MQ below (Qp w P' r) args s P'.2.2.2.1 P'.2.2.2.2 (Ad w)) (F0 m pc Ls st0) := by
  intro T hT Y
  obtain ⟨v, st₀, t, T', L, h0, X', hL, e1, e2, ⟨hv, hRt, hKt, hF⟩, go⟩ := hr T hT Y
  cases hv
  have hS' : va_S (Ad w) s.heap T'.heap (locs ++ L) := by
    refine ⟨?_, ?_, ?_⟩
    · rw [e1]; exact Nat.le_trans hS.1 (by rw [← h0]; exact hF.1)
    · intro q h1 h2
      rw [e1, hF.2 q (by rw [h0]; exact Nat.lt_of_lt_of_le h1 hS.1) h2, h0]
      exact hS.2.1 q h1 h2
    · intro q hq
      rcases List.mem_append.mp hq with h | h
      · exact hS.2.2 q h
      · exact hL q h
  obtain ⟨t2, a1, b1⟩ := kk p e s m args below meth c T'.heap (locs ++ L) Ls C ⟨by rw [e1]; exact hRt, by show s.heap.size + (k + mc) = w.2.1 + n'; omega⟩ hS' hl T' rfl X'
  exact ⟨t2, go t2 a1, b1⟩
/-- the words of a call: link, code; and the room -/
def CW (own : String) (idx n : Nat) (y' : MI) : Prop := Cond.methodLink own idx y'.1 ∈ gw ∧ Cond.code y'.1 y'.2.1 y'.2.2.1 y'.2.2.2.1 ∈ gw ∧ Cond.initialized y'.1.cls ∈ gw ∧ (y'.1.cls ≠ "java/lang/invoke/MethodHandle" ∧ y'.1.cls ≠ "java/lang/invoke/VarHandle" ∧ (parseMethodDescriptor y'.1.desc).map (fun d => d.parameters.length) = some n)
def CWN (own : String) (idx n : Nat) (y' : MI) (host : String) : Prop := (own, idx, y'.1, host) ∈ nestL ∧ Cond.code y'.1 y'.2.1 y'.2.2.1 y'.2.2.2.1 ∈ gw ∧ Cond.initialized y'.1.cls ∈ gw ∧ (y'.1.cls ≠ "java/lang/invoke/MethodHandle" ∧ y'.1.cls ≠ "java/lang/invoke/VarHandle" ∧ (parseMethodDescriptor y'.1.desc).map (fun d => d.parameters.length) = some n)
def CWV (own : String) (idx n : Nat) (y' : MI) : Prop := CW own idx n y' ∧ Cond.instanceMethod y'.1 ∈ gw ∧ Cond.selects y'.1.cls y'.1 y'.1 ∈ gw
def CWS (own : String) (idx n : Nat) (y' : MI) : Prop := CW own idx n y' ∧ Cond.static y'.1 ∈ gw
def CWI (own : String) (idx n : Nat) (y' : MI) : Prop := CW own idx n y' ∧ y'.1.name = "<init>" ∧ Cond.instanceMethod y'.1 ∈ gw
def RM (y y' : MI) : Prop := y'.2.2.2.2.frames + 1 ≤ y.2.2.2.2.frames ∧ 8 + (y'.2.2.1 + 11) + y'.2.2.2.2.locals ≤ y.2.2.2.2.locals
theorem cB_of {p : Program} {s : State} {m : MethodId} {args : Array Value} {meth : Method} {c : Code} {idx n mc ms : Nat} {y' : MI} (C : Cx p s m args meth c y w) (h : CW y.1.cls idx n y') (hR : RM y y') (hrc : y'.2.2.2.2.cells = mc) (hrs : y'.2.2.2.2.slots = ms) : CallB y.2.2.2.2 s args y.1.cls idx y'.1 y'.2.1 y'.2.2.1 y'.2.2.2.1 (wsY y') y'.2.2.2.2 mc ms n :=
  callB_of n C.2.2.2.2.1 (lw_goodIn' h.2.1) rfl hrc hrs (C.2.2.2.2.1 _ h.2.2.1) (C.2.2.2.2.1 _ h.1) h.2.2.2 hR
theorem g_callV {n n' ci idx na t : Nat} {ρ ρ' : Rf} {S S' : St} {k z mc ms : Nat} {y' : MI} {As : List Value} {r0 : Option Value} {fl : List Bool} {TT : u_T} {NT : Nat}
    (hc : CWV y.1.cls idx na y') (hM : RM y y') (hk : kd t = .inl (ci, fl)) (hcl : vwCl[ci]? = some (y'.1.cls, TT, NT)) (ht : t < n) (hrc : y'.2.2.2.2.cells = mc) (hrs : y'.2.2.2.2.slots = ms) (hn : As.length = na) (hst : (st.map fun v => v.category).sum ≤ 8) (hf : k + mc ≤ y.2.2.2.2.cells ∧ z + ms ≤ y.2.2.2.2.slots) (h0n : 0 < n) (hnn : n' = n + mc)
    (d : decode y.2.1 pc = .ok (.invokevirtual idx, 3)) (hC : Ct l w y' (.ref (w.2.1 + t) :: As) n ρ S (n', ρ', S', mc, ms) r0)
    (kk : G l w y (pc + 3) ls (r0.toList ++ st) (n', ρ', S', k + mc, z + ms) P' r) : G l w y pc ls (As.reverse ++ .ref (w.2.1 + t) :: st) (n, ρ, S, k, z) P' r := by
  intro p e s m args below meth c H locs Ls C hR hS hl
  refine g_sized hR h0n (fun hz => ?_)
  refine g_run C hR.2 hnn hS hl (va_runV (As := As) (C := y'.1.cls) C.fix hC ⟨cB_of C hc.1 hM hrc hrs, C.2.2.2.2.1 _ hc.2.1, C.2.2.2.2.1 _ hc.2.2⟩ ⟨pre_blind, ?_, ?_⟩ rfl hn hl.1 rfl (lv_room hst) d hf) kk
  · exact va_recv (q := (y'.1.cls, TT, NT)) C.2.2.2.2.2.2.2.2.1.1 hR.1 hcl (q0 := t) (by rw [wls_at ht, cel_o hk])
  · intro U hU hW
    exact ⟨rfl, by rw [hU]; exact hz, by rw [hU]; exact hR.1, KK.warm hW C.2.2.2.2.2.2.2.2.1⟩
theorem g_callS {n n' idx na : Nat} {ρ ρ' : Rf} {S S' : St} {k z mc ms : Nat} {y' : MI} {As : List Value} {r0 : Option Value}
    (hc : CWS y.1.cls idx na y') (hM : RM y y') (hrc : y'.2.2.2.2.cells = mc) (hrs : y'.2.2.2.2.slots = ms) (hn : As.length = na) (hst : (st.map fun v => v.category).sum ≤ 8) (hf : k + mc ≤ y.2.2.2.2.cells ∧ z + ms ≤ y.2.2.2.2.slots) (h0n : 0 < n) (hnn : n' = n + mc)
    (d : decode y.2.1 pc = .ok (.invokestatic idx, 3)) (hC : Ct l w y' As n ρ S (n', ρ', S', mc, ms) r0)
    (kk : G l w y (pc + 3) ls (r0.toList ++ st) (n', ρ', S', k + mc, z + ms) P' r) : G l w y pc ls (As.reverse ++ st) (n, ρ, S, k, z) P' r := by
  intro p e s m args below meth c H locs Ls C hR hS hl
  refine g_sized hR h0n (fun hz => ?_)
  refine g_run C hR.2 hnn hS hl (va_runS (As := As) C.fix hC ⟨cB_of C hc.1 hM hrc hrs, C.2.2.2.2.1 _ hc.2⟩ ⟨pre_blind, ?_⟩ rfl hn hl.1 rfl (lv_room hst) d hf) kk
  intro U hU hW
  exact ⟨rfl, by rw [hU]; exact hz, by rw [hU]; exact hR.1, KK.warm hW C.2.2.2.2.2.2.2.2.1⟩
theorem cN_of {p : Program} {s : State} {m : MethodId} {args : Array Value} {meth : Method} {c : Code} {idx n mc ms : Nat} {y' : MI} {host : String} (C : Cx p s m args meth c y w) (h : CWN y.1.cls idx n y' host) (hR : RM y y') (hrc : y'.2.2.2.2.cells = mc) (hrs : y'.2.2.2.2.slots = ms) : va_CN y.2.2.2.2 s args y.1.cls idx y'.1 host y'.2.1 y'.2.2.1 y'.2.2.2.1 (wsY y') y'.2.2.2.2 mc ms n :=
  va_cnB n C.2.2.2.2.1 (lw_goodIn' h.2.1) rfl hrc hrs (C.2.2.2.2.2.2.2.2.1.2.2.2.2 _ h.1) (C.2.2.2.2.1 _ h.2.2.1) h.2.2.2 hR
theorem g_callSN {n n' idx na : Nat} {ρ ρ' : Rf} {S S' : St} {k z mc ms : Nat} {y' : MI} {As : List Value} {r0 : Option Value} {host : String}
    (hc : CWN y.1.cls idx na y' host) (hs : Cond.static y'.1 ∈ gw) (hM : RM y y') (hrc : y'.2.2.2.2.cells = mc) (hrs : y'.2.2.2.2.slots = ms) (hn : As.length = na) (hst : (st.map fun v => v.category).sum ≤ 8) (hf : k + mc ≤ y.2.2.2.2.cells ∧ z + ms ≤ y.2.2.2.2.slots) (h0n : 0 < n) (hnn : n' = n + mc)
    (d : decode y.2.1 pc = .ok (.invokestatic idx, 3)) (hC : Ct l w y' As n ρ S (n', ρ', S', mc, ms) r0)
    (kk : G l w y (pc + 3) ls (r0.toList ++ st) (n', ρ', S', k + mc, z + ms) P' r) : G l w y pc ls (As.reverse ++ st) (n, ρ, S, k, z) P' r := by
  intro p e s m args below meth c H locs Ls C hR hS hl
  refine g_sized hR h0n (fun hz => ?_)
  refine g_run C hR.2 hnn hS hl (va_runSN (As := As) C.fix hC ⟨cN_of C hc hM hrc hrs, C.2.2.2.2.1 _ hs, trivial⟩ ⟨pre_blind, ?_⟩ rfl hn hl.1 rfl (lv_room hst) d hf) kk
  intro U hU hW
  exact ⟨rfl, by rw [hU]; exact hz, by rw [hU]; exact hR.1, KK.warm hW C.2.2.2.2.2.2.2.2.1⟩
theorem g_callI {n n' idx na t : Nat} {ρ ρ' : Rf} {S S' : St} {k z mc ms : Nat} {y' : MI} {As : List Value} 
    (hc : CWI y.1.cls idx na y') (hret : y'.2.2.2.1 = none) (hM : RM y y') (hrc : y'.2.2.2.2.cells = mc) (hrs : y'.2.2.2.2.slots = ms) (hn : As.length = na) (hst : (st.map fun v => v.category).sum ≤ 8) (hf : k + mc ≤ y.2.2.2.2.cells ∧ z + ms ≤ y.2.2.2.2.slots) (h0n : 0 < n) (hnn : n' = n + mc)
    (d : decode y.2.1 pc = .ok (.invokespecial idx, 3)) (hC : Ct l w y' (.ref (w.2.1 + t) :: As) n ρ S (n', ρ', S', mc, ms) none)
    (kk : G l w y (pc + 3) ls st (n', ρ', S', k + mc, z + ms) P' r) : G l w y pc ls (As.reverse ++ .ref (w.2.1 + t) :: st) (n, ρ, S, k, z) P' r := by
  intro p e s m args below meth c H locs Ls C hR hS hl
  have hB := cB_of C hc.1 hM hrc hrs
  rw [hret] at hB
  refine g_sized hR h0n (fun hz => ?_)
  refine g_run C hR.2 hnn hS hl (va_runI (As := As) C.fix hC ⟨hB, hc.2.1, C.2.2.2.2.1 _ hc.2.2⟩ ⟨pre_blind, ?_⟩ rfl hn hl.1 rfl (lv_room hst) d hf) kk
  intro U hU hW
  exact ⟨rfl, by rw [hU]; exact hz, by rw [hU]; exact hR.1, KK.warm hW C.2.2.2.2.2.2.2.2.1⟩
theorem g_callIN {n n' idx na t : Nat} {ρ ρ' : Rf} {S S' : St} {k z mc ms : Nat} {y' : MI} {As : List Value} {host : String}
    (hc : CWN y.1.cls idx na y' host) (hi : y'.1.name = "<init>") (hs : Cond.instanceMethod y'.1 ∈ gw) (hret : y'.2.2.2.1 = none) (hM : RM y y') (hrc : y'.2.2.2.2.cells = mc) (hrs : y'.2.2.2.2.slots = ms) (hn : As.length = na) (hst : (st.map fun v => v.category).sum ≤ 8) (hf : k + mc ≤ y.2.2.2.2.cells ∧ z + ms ≤ y.2.2.2.2.slots) (h0n : 0 < n) (hnn : n' = n + mc)
    (d : decode y.2.1 pc = .ok (.invokespecial idx, 3)) (hC : Ct l w y' (.ref (w.2.1 + t) :: As) n ρ S (n', ρ', S', mc, ms) none)
    (kk : G l w y (pc + 3) ls st (n', ρ', S', k + mc, z + ms) P' r) : G l w y pc ls (As.reverse ++ .ref (w.2.1 + t) :: st) (n, ρ, S, k, z) P' r := by
  intro p e s m args below meth c H locs Ls C hR hS hl
  have hB := cN_of C hc hM hrc hrs
  rw [hret] at hB
  refine g_sized hR h0n (fun hz => ?_)
  refine g_run C hR.2 hnn hS hl (va_runIN (As := As) C.fix hC ⟨hB, hi, C.2.2.2.2.1 _ hs⟩ ⟨pre_blind, ?_⟩ rfl hn hl.1 rfl (lv_room hst) d hf) kk
  intro U hU hW
  exact ⟨rfl, by rw [hU]; exact hz, by rw [hU]; exact hR.1, KK.warm hW C.2.2.2.2.2.2.2.2.1⟩

theorem g_iconst {n : Int} {v : Int32} (d : decode y.2.1 pc = .ok (.iconst n, 1)) (hv : Int32.ofInt n = v) (k : G l w y (pc + 1) ls (.int v :: st) P P' r) : G l w y pc ls st P P' r := fun p e s m args below meth c H locs Ls C hR hS hl => lv_iconst C.1 C.2.1 d hv (k p e s m args below meth c H locs Ls C hR hS hl)
theorem j_iconst {n : Int} {v : Int32} (d : decode y.2.1 pc = .ok (.iconst n, 1)) (hv : Int32.ofInt n = v) (k : J l w y (pc + 1) ls (.int v :: st) S R X) : J l w y pc ls st S R X := fun b hb => g_iconst d hv (k b hb)
theorem g_bipush {n : Int} {v : Int32} (d : decode y.2.1 pc = .ok (.bipush n, 2)) (hv : (Int8.ofInt n).toInt32 = v) (k : G l w y (pc + 2) ls (.int v :: st) P P' r) : G l w y pc ls st P P' r := fun p e s m args below meth c H locs Ls C hR hS hl => lv_bipush C.1 C.2.1 d hv (k p e s m args below meth c H locs Ls C hR hS hl)
theorem j_bipush {n : Int} {v : Int32} (d : decode y.2.1 pc = .ok (.bipush n, 2)) (hv : (Int8.ofInt n).toInt32 = v) (k : J l w y (pc + 2) ls (.int v :: st) S R X) : J l w y pc ls st S R X := fun b hb => g_bipush d hv (k b hb)
theorem g_sipush {n : Int} {v : Int32} (d : decode y.2.1 pc = .ok (.sipush n, 3)) (hv : (Int16.ofInt n).toInt32 = v) (k : G l w y (pc + 3) ls (.int v :: st) P P' r) : G l w y pc ls st P P' r := fun p e s m args below meth c H locs Ls C hR hS hl => lv_sipush C.1 C.2.1 d hv (k p e s m args below meth c H locs Ls C hR hS hl)
theorem j_sipush {n : Int} {v : Int32} (d : decode y.2.1 pc = .ok (.sipush n, 3)) (hv : (Int16.ofInt n).toInt32 = v) (k : J l w y (pc + 3) ls (.int v :: st) S R X) : J l w y pc ls st S R X := fun b hb => g_sipush d hv (k b hb)
theorem g_ldc {n : Nat} {v : Int32} (d : decode y.2.1 pc = .ok (.ldc n, 2)) (hv : Cond.constant y.1.cls n v ∈ gw) (k : G l w y (pc + 2) ls (.int v :: st) P P' r) : G l w y pc ls st P P' r := fun p e s m args below meth c H locs Ls C hR hS hl => lv_ldc C.1 C.2.1 C.2.2.2.1 (C.2.2.2.2.1 _ hv) d (k p e s m args below meth c H locs Ls C hR hS hl)
theorem j_ldc {n : Nat} {v : Int32} (d : decode y.2.1 pc = .ok (.ldc n, 2)) (hv : Cond.constant y.1.cls n v ∈ gw) (k : J l w y (pc + 2) ls (.int v :: st) S R X) : J l w y pc ls st S R X := fun b hb => g_ldc d hv (k b hb)
theorem g_ldc2 {n : Nat} {v : Int64} (d : decode y.2.1 pc = .ok (.ldc2_w n, 3)) (hv : Cond.constantLong y.1.cls n v ∈ gw) (k : G l w y (pc + 3) ls (.long v :: st) P P' r) : G l w y pc ls st P P' r := fun p e s m args below meth c H locs Ls C hR hS hl => lv_ldc2 C.1 C.2.1 C.2.2.2.1 (C.2.2.2.2.1 _ hv) d (k p e s m args below meth c H locs Ls C hR hS hl)
theorem j_ldc2 {n : Nat} {v : Int64} (d : decode y.2.1 pc = .ok (.ldc2_w n, 3)) (hv : Cond.constantLong y.1.cls n v ∈ gw) (k : J l w y (pc + 3) ls (.long v :: st) S R X) : J l w y pc ls st S R X := fun b hb => g_ldc2 d hv (k b hb)
theorem g_lconst {n : Fin 2} {v : Int64} (d : decode y.2.1 pc = .ok (.lconst n, 1)) (hv : Int64.ofNat (n : Nat) = v) (k : G l w y (pc + 1) ls (.long v :: st) P P' r) : G l w y pc ls st P P' r := fun p e s m args below meth c H locs Ls C hR hS hl => lv_lconst C.1 C.2.1 d hv (k p e s m args below meth c H locs Ls C hR hS hl)
theorem j_lconst {n : Fin 2} {v : Int64} (d : decode y.2.1 pc = .ok (.lconst n, 1)) (hv : Int64.ofNat (n : Nat) = v) (k : J l w y (pc + 1) ls (.long v :: st) S R X) : J l w y pc ls st S R X := fun b hb => g_lconst d hv (k b hb)
theorem g_null (d : decode y.2.1 pc = .ok (.aconst_null, 1)) (k : G l w y (pc + 1) ls (.null :: st) P P' r) : G l w y pc ls st P P' r := fun p e s m args below meth c H locs Ls C hR hS hl => lv_null C.1 C.2.1 d (k p e s m args below meth c H locs Ls C hR hS hl)
theorem j_null (d : decode y.2.1 pc = .ok (.aconst_null, 1)) (k : J l w y (pc + 1) ls (.null :: st) S R X) : J l w y pc ls st S R X := fun b hb => g_null d (k b hb)
theorem g_iload_n (kp : Nat) {q : Fin 4} {i : Nat} {x : Int32} (d : decode y.2.1 pc = .ok (.iload_n q, 1)) (hi : (q : Nat) = i) (hk : ls[kp]? = some (i, .int x)) (k : G l w y (pc + 1) ls (.int x :: st) P P' r) : G l w y pc ls st P P' r := fun p e s m args below meth c H locs Ls C hR hS hl => lv_iload_n C.1 C.2.1 d hi (lv_at hl kp hk) (k p e s m args below meth c H locs Ls C hR hS hl)
theorem j_iload_n (kp : Nat) {q : Fin 4} {i : Nat} {x : Int32} (d : decode y.2.1 pc = .ok (.iload_n q, 1)) (hi : (q : Nat) = i) (hk : ls[kp]? = some (i, .int x)) (k : J l w y (pc + 1) ls (.int x :: st) S R X) : J l w y pc ls st S R X := fun b hb => g_iload_n kp d hi hk (k b hb)
theorem g_iload (kp : Nat) {i : Nat} {x : Int32} (d : decode y.2.1 pc = .ok (.iload i, 2)) (hk : ls[kp]? = some (i, .int x)) (k : G l w y (pc + 2) ls (.int x :: st) P P' r) : G l w y pc ls st P P' r := fun p e s m args below meth c H locs Ls C hR hS hl => lv_iload C.1 C.2.1 d (lv_at hl kp hk) (k p e s m args below meth c H locs Ls C hR hS hl)
theorem j_iload (kp : Nat) {i : Nat} {x : Int32} (d : decode y.2.1 pc = .ok (.iload i, 2)) (hk : ls[kp]? = some (i, .int x)) (k : J l w y (pc + 2) ls (.int x :: st) S R X) : J l w y pc ls st S R X := fun b hb => g_iload kp d hk (k b hb)
theorem g_lload_n (kp : Nat) {q : Fin 4} {i : Nat} {x : Int64} (d : decode y.2.1 pc = .ok (.lload_n q, 1)) (hi : (q : Nat) = i) (hk : ls[kp]? = some (i, .long x)) (k : G l w y (pc + 1) ls (.long x :: st) P P' r) : G l w y pc ls st P P' r := fun p e s m args below meth c H locs Ls C hR hS hl => lv_lload_n C.1 C.2.1 d hi (lv_at hl kp hk) (k p e s m args below meth c H locs Ls C hR hS hl)
theorem j_lload_n (kp : Nat) {q : Fin 4} {i : Nat} {x : Int64} (d : decode y.2.1 pc = .ok (.lload_n q, 1)) (hi : (q : Nat) = i) (hk : ls[kp]? = some (i, .long x)) (k : J l w y (pc + 1) ls (.long x :: st) S R X) : J l w y pc ls st S R X := fun b hb => g_lload_n kp d hi hk (k b hb)
theorem g_lload (kp : Nat) {i : Nat} {x : Int64} (d : decode y.2.1 pc = .ok (.lload i, 2)) (hk : ls[kp]? = some (i, .long x)) (k : G l w y (pc + 2) ls (.long x :: st) P P' r) : G l w y pc ls st P P' r := fun p e s m args below meth c H locs Ls C hR hS hl => lv_lload C.1 C.2.1 d (lv_at hl kp hk) (k p e s m args below meth c H locs Ls C hR hS hl)
theorem j_lload (kp : Nat) {i : Nat} {x : Int64} (d : decode y.2.1 pc = .ok (.lload i, 2)) (hk : ls[kp]? = some (i, .long x)) (k : J l w y (pc + 2) ls (.long x :: st) S R X) : J l w y pc ls st S R X := fun b hb => g_lload kp d hk (k b hb)
theorem g_aload_n (kp : Nat) {q : Fin 4} {i : Nat} {x : Nat} (d : decode y.2.1 pc = .ok (.aload_n q, 1)) (hi : (q : Nat) = i) (hk : ls[kp]? = some (i, .ref x)) (k : G l w y (pc + 1) ls (.ref x :: st) P P' r) : G l w y pc ls st P P' r := fun p e s m args below meth c H locs Ls C hR hS hl => lv_aload_n C.1 C.2.1 d hi (lv_at hl kp hk) (k p e s m args below meth c H locs Ls C hR hS hl)
theorem j_aload_n (kp : Nat) {q : Fin 4} {i : Nat} {x : Nat} (d : decode y.2.1 pc = .ok (.aload_n q, 1)) (hi : (q : Nat) = i) (hk : ls[kp]? = some (i, .ref x)) (k : J l w y (pc + 1) ls (.ref x :: st) S R X) : J l w y pc ls st S R X := fun b hb => g_aload_n kp d hi hk (k b hb)
theorem g_aload (kp : Nat) {i : Nat} {x : Nat} (d : decode y.2.1 pc = .ok (.aload i, 2)) (hk : ls[kp]? = some (i, .ref x)) (k : G l w y (pc + 2) ls (.ref x :: st) P P' r) : G l w y pc ls st P P' r := fun p e s m args below meth c H locs Ls C hR hS hl => lv_aload C.1 C.2.1 d (lv_at hl kp hk) (k p e s m args below meth c H locs Ls C hR hS hl)
theorem j_aload (kp : Nat) {i : Nat} {x : Nat} (d : decode y.2.1 pc = .ok (.aload i, 2)) (hk : ls[kp]? = some (i, .ref x)) (k : J l w y (pc + 2) ls (.ref x :: st) S R X) : J l w y pc ls st S R X := fun b hb => g_aload kp d hk (k b hb)
theorem g_aload_nN (kp : Nat) {q : Fin 4} {i : Nat} (d : decode y.2.1 pc = .ok (.aload_n q, 1)) (hi : (q : Nat) = i) (hk : ls[kp]? = some (i, .null)) (k : G l w y (pc + 1) ls (.null :: st) P P' r) : G l w y pc ls st P P' r := fun p e s m args below meth c H locs Ls C hR hS hl => lv_aload_nN C.1 C.2.1 d hi (lv_at hl kp hk) (k p e s m args below meth c H locs Ls C hR hS hl)
theorem j_aload_nN (kp : Nat) {q : Fin 4} {i : Nat} (d : decode y.2.1 pc = .ok (.aload_n q, 1)) (hi : (q : Nat) = i) (hk : ls[kp]? = some (i, .null)) (k : J l w y (pc + 1) ls (.null :: st) S R X) : J l w y pc ls st S R X := fun b hb => g_aload_nN kp d hi hk (k b hb)
theorem g_iadd {x z : Int32} (d : decode y.2.1 pc = .ok (.iadd, 1)) (k : G l w y (pc + 1) ls (.int (x + z) :: st) P P' r) : G l w y pc ls (.int z :: .int x :: st) P P' r := fun p e s m args below meth c H locs Ls C hR hS hl => lv_iadd C.1 C.2.1 d (k p e s m args below meth c H locs Ls C hR hS hl)
theorem j_iadd {x z : Int32} (d : decode y.2.1 pc = .ok (.iadd, 1)) (k : J l w y (pc + 1) ls (.int (x + z) :: st) S R X) : J l w y pc ls (.int z :: .int x :: st) S R X := fun b hb => g_iadd d (k b hb)
theorem g_isub {x z : Int32} (d : decode y.2.1 pc = .ok (.isub, 1)) (k : G l w y (pc + 1) ls (.int (x - z) :: st) P P' r) : G l w y pc ls (.int z :: .int x :: st) P P' r := fun p e s m args below meth c H locs Ls C hR hS hl => lv_isub C.1 C.2.1 d (k p e s m args below meth c H locs Ls C hR hS hl)
theorem j_isub {x z : Int32} (d : decode y.2.1 pc = .ok (.isub, 1)) (k : J l w y (pc + 1) ls (.int (x - z) :: st) S R X) : J l w y pc ls (.int z :: .int x :: st) S R X := fun b hb => g_isub d (k b hb)
theorem g_imul {x z : Int32} (d : decode y.2.1 pc = .ok (.imul, 1)) (k : G l w y (pc + 1) ls (.int (x * z) :: st) P P' r) : G l w y pc ls (.int z :: .int x :: st) P P' r := fun p e s m args below meth c H locs Ls C hR hS hl => lv_imul C.1 C.2.1 d (k p e s m args below meth c H locs Ls C hR hS hl)
theorem j_imul {x z : Int32} (d : decode y.2.1 pc = .ok (.imul, 1)) (k : J l w y (pc + 1) ls (.int (x * z) :: st) S R X) : J l w y pc ls (.int z :: .int x :: st) S R X := fun b hb => g_imul d (k b hb)
theorem g_iand {x z : Int32} (d : decode y.2.1 pc = .ok (.iand, 1)) (k : G l w y (pc + 1) ls (.int (x &&& z) :: st) P P' r) : G l w y pc ls (.int z :: .int x :: st) P P' r := fun p e s m args below meth c H locs Ls C hR hS hl => lv_iand C.1 C.2.1 d (k p e s m args below meth c H locs Ls C hR hS hl)
theorem j_iand {x z : Int32} (d : decode y.2.1 pc = .ok (.iand, 1)) (k : J l w y (pc + 1) ls (.int (x &&& z) :: st) S R X) : J l w y pc ls (.int z :: .int x :: st) S R X := fun b hb => g_iand d (k b hb)
theorem g_ior {x z : Int32} (d : decode y.2.1 pc = .ok (.ior, 1)) (k : G l w y (pc + 1) ls (.int (x ||| z) :: st) P P' r) : G l w y pc ls (.int z :: .int x :: st) P P' r := fun p e s m args below meth c H locs Ls C hR hS hl => lv_ior C.1 C.2.1 d (k p e s m args below meth c H locs Ls C hR hS hl)
theorem j_ior {x z : Int32} (d : decode y.2.1 pc = .ok (.ior, 1)) (k : J l w y (pc + 1) ls (.int (x ||| z) :: st) S R X) : J l w y pc ls (.int z :: .int x :: st) S R X := fun b hb => g_ior d (k b hb)
theorem g_ixor {x z : Int32} (d : decode y.2.1 pc = .ok (.ixor, 1)) (k : G l w y (pc + 1) ls (.int (x ^^^ z) :: st) P P' r) : G l w y pc ls (.int z :: .int x :: st) P P' r := fun p e s m args below meth c H locs Ls C hR hS hl => lv_ixor C.1 C.2.1 d (k p e s m args below meth c H locs Ls C hR hS hl)
theorem j_ixor {x z : Int32} (d : decode y.2.1 pc = .ok (.ixor, 1)) (k : J l w y (pc + 1) ls (.int (x ^^^ z) :: st) S R X) : J l w y pc ls (.int z :: .int x :: st) S R X := fun b hb => g_ixor d (k b hb)
theorem g_ishl {x z : Int32} (d : decode y.2.1 pc = .ok (.ishl, 1)) (k : G l w y (pc + 1) ls (.int (x <<< (z &&& 31)) :: st) P P' r) : G l w y pc ls (.int z :: .int x :: st) P P' r := fun p e s m args below meth c H locs Ls C hR hS hl => lv_ishl C.1 C.2.1 d (k p e s m args below meth c H locs Ls C hR hS hl)
theorem j_ishl {x z : Int32} (d : decode y.2.1 pc = .ok (.ishl, 1)) (k : J l w y (pc + 1) ls (.int (x <<< (z &&& 31)) :: st) S R X) : J l w y pc ls (.int z :: .int x :: st) S R X := fun b hb => g_ishl d (k b hb)
theorem g_ishr {x z : Int32} (d : decode y.2.1 pc = .ok (.ishr, 1)) (k : G l w y (pc + 1) ls (.int (x >>> (z &&& 31)) :: st) P P' r) : G l w y pc ls (.int z :: .int x :: st) P P' r := fun p e s m args below meth c H locs Ls C hR hS hl => lv_ishr C.1 C.2.1 d (k p e s m args below meth c H locs Ls C hR hS hl)
theorem j_ishr {x z : Int32} (d : decode y.2.1 pc = .ok (.ishr, 1)) (k : J l w y (pc + 1) ls (.int (x >>> (z &&& 31)) :: st) S R X) : J l w y pc ls (.int z :: .int x :: st) S R X := fun b hb => g_ishr d (k b hb)
theorem g_iushr {x z : Int32} (d : decode y.2.1 pc = .ok (.iushr, 1)) (k : G l w y (pc + 1) ls (.int (x.toUInt32 >>> (z.toUInt32 &&& Int32.toUInt32 31)).toInt32 :: st) P P' r) : G l w y pc ls (.int z :: .int x :: st) P P' r := fun p e s m args below meth c H locs Ls C hR hS hl => lv_iushr C.1 C.2.1 d rfl (k p e s m args below meth c H locs Ls C hR hS hl)
theorem j_iushr {x z : Int32} (d : decode y.2.1 pc = .ok (.iushr, 1)) (k : J l w y (pc + 1) ls (.int (x.toUInt32 >>> (z.toUInt32 &&& Int32.toUInt32 31)).toInt32 :: st) S R X) : J l w y pc ls (.int z :: .int x :: st) S R X := fun b hb => g_iushr d (k b hb)
theorem g_ineg {x : Int32} (d : decode y.2.1 pc = .ok (.ineg, 1)) (k : G l w y (pc + 1) ls (.int (-x) :: st) P P' r) : G l w y pc ls (.int x :: st) P P' r := fun p e s m args below meth c H locs Ls C hR hS hl => lv_ineg C.1 C.2.1 d (k p e s m args below meth c H locs Ls C hR hS hl)
theorem j_ineg {x : Int32} (d : decode y.2.1 pc = .ok (.ineg, 1)) (k : J l w y (pc + 1) ls (.int (-x) :: st) S R X) : J l w y pc ls (.int x :: st) S R X := fun b hb => g_ineg d (k b hb)
theorem g_i2l {x : Int32} (d : decode y.2.1 pc = .ok (.i2l, 1)) (k : G l w y (pc + 1) ls (.long x.toInt64 :: st) P P' r) : G l w y pc ls (.int x :: st) P P' r := fun p e s m args below meth c H locs Ls C hR hS hl => lv_i2l C.1 C.2.1 d rfl (k p e s m args below meth c H locs Ls C hR hS hl)
theorem j_i2l {x : Int32} (d : decode y.2.1 pc = .ok (.i2l, 1)) (k : J l w y (pc + 1) ls (.long x.toInt64 :: st) S R X) : J l w y pc ls (.int x :: st) S R X := fun b hb => g_i2l d (k b hb)
theorem g_i2s {x : Int32} (d : decode y.2.1 pc = .ok (.i2s, 1)) (k : G l w y (pc + 1) ls (.int x.toInt16.toInt32 :: st) P P' r) : G l w y pc ls (.int x :: st) P P' r := fun p e s m args below meth c H locs Ls C hR hS hl => lv_i2s C.1 C.2.1 d rfl (k p e s m args below meth c H locs Ls C hR hS hl)
theorem j_i2s {x : Int32} (d : decode y.2.1 pc = .ok (.i2s, 1)) (k : J l w y (pc + 1) ls (.int x.toInt16.toInt32 :: st) S R X) : J l w y pc ls (.int x :: st) S R X := fun b hb => g_i2s d (k b hb)
theorem g_ladd {x z : Int64} (d : decode y.2.1 pc = .ok (.ladd, 1)) (k : G l w y (pc + 1) ls (.long (x + z) :: st) P P' r) : G l w y pc ls (.long z :: .long x :: st) P P' r := fun p e s m args below meth c H locs Ls C hR hS hl => lv_ladd C.1 C.2.1 d (k p e s m args below meth c H locs Ls C hR hS hl)
theorem j_ladd {x z : Int64} (d : decode y.2.1 pc = .ok (.ladd, 1)) (k : J l w y (pc + 1) ls (.long (x + z) :: st) S R X) : J l w y pc ls (.long z :: .long x :: st) S R X := fun b hb => g_ladd d (k b hb)
theorem g_lmul {x z : Int64} (d : decode y.2.1 pc = .ok (.lmul, 1)) (k : G l w y (pc + 1) ls (.long (x * z) :: st) P P' r) : G l w y pc ls (.long z :: .long x :: st) P P' r := fun p e s m args below meth c H locs Ls C hR hS hl => lv_lmul C.1 C.2.1 d (k p e s m args below meth c H locs Ls C hR hS hl)
theorem j_lmul {x z : Int64} (d : decode y.2.1 pc = .ok (.lmul, 1)) (k : J l w y (pc + 1) ls (.long (x * z) :: st) S R X) : J l w y pc ls (.long z :: .long x :: st) S R X := fun b hb => g_lmul d (k b hb)
theorem g_lcmp {x z : Int64} (d : decode y.2.1 pc = .ok (.lcmp, 1)) (k : G l w y (pc + 1) ls (.int (lg_cmp x z) :: st) P P' r) : G l w y pc ls (.long z :: .long x :: st) P P' r := fun p e s m args below meth c H locs Ls C hR hS hl => W.lcmp C.1 C.2.1 d (k p e s m args below meth c H locs Ls C hR hS hl)
theorem j_lcmp {x z : Int64} (d : decode y.2.1 pc = .ok (.lcmp, 1)) (k : J l w y (pc + 1) ls (.int (lg_cmp x z) :: st) S R X) : J l w y pc ls (.long z :: .long x :: st) S R X := fun b hb => g_lcmp d (k b hb)
theorem g_idivL {x z : Int32} (d : decode y.2.1 pc = .ok (.idiv, 1)) (hz : ¬ z = 0) (k : G l w y (pc + 1) ls (.int (x / z) :: st) P P' r) : G l w y pc ls (.int z :: .int x :: st) P P' r := fun p e s m args below meth c H locs Ls C hR hS hl => lv_idiv C.1 C.2.1 d hz (k p e s m args below meth c H locs Ls C hR hS hl)
theorem j_idivL {x z : Int32} (d : decode y.2.1 pc = .ok (.idiv, 1)) (hz : ¬ z = 0) (k : J l w y (pc + 1) ls (.int (x / z) :: st) S R X) : J l w y pc ls (.int z :: .int x :: st) S R X := fun b hb => g_idivL d hz (k b hb)
theorem g_iremL {x z : Int32} (d : decode y.2.1 pc = .ok (.irem, 1)) (hz : ¬ z = 0) (k : G l w y (pc + 1) ls (.int (x - x / z * z) :: st) P P' r) : G l w y pc ls (.int z :: .int x :: st) P P' r := fun p e s m args below meth c H locs Ls C hR hS hl => lv_irem C.1 C.2.1 d hz (k p e s m args below meth c H locs Ls C hR hS hl)
theorem j_iremL {x z : Int32} (d : decode y.2.1 pc = .ok (.irem, 1)) (hz : ¬ z = 0) (k : J l w y (pc + 1) ls (.int (x - x / z * z) :: st) S R X) : J l w y pc ls (.int z :: .int x :: st) S R X := fun b hb => g_iremL d hz (k b hb)
theorem g_dup {v : Value} (d : decode y.2.1 pc = .ok (.dup, 1)) (hv : v.category = 1) (k : G l w y (pc + 1) ls (v :: v :: st) P P' r) : G l w y pc ls (v :: st) P P' r := fun p e s m args below meth c H locs Ls C hR hS hl => lv_dup C.1 C.2.1 d hv (k p e s m args below meth c H locs Ls C hR hS hl)
theorem j_dup {v : Value} (d : decode y.2.1 pc = .ok (.dup, 1)) (hv : v.category = 1) (k : J l w y (pc + 1) ls (v :: v :: st) S R X) : J l w y pc ls (v :: st) S R X := fun b hb => g_dup d hv (k b hb)
theorem g_dup2 {v u : Value} (d : decode y.2.1 pc = .ok (.dup2, 1)) (hv : v.category = 1) (hu : u.category = 1) (k : G l w y (pc + 1) ls (v :: u :: v :: u :: st) P P' r) : G l w y pc ls (v :: u :: st) P P' r := fun p e s m args below meth c H locs Ls C hR hS hl => lv_dup2_11 C.1 C.2.1 d hv hu (k p e s m args below meth c H locs Ls C hR hS hl)
theorem j_dup2 {v u : Value} (d : decode y.2.1 pc = .ok (.dup2, 1)) (hv : v.category = 1) (hu : u.category = 1) (k : J l w y (pc + 1) ls (v :: u :: v :: u :: st) S R X) : J l w y pc ls (v :: u :: st) S R X := fun b hb => g_dup2 d hv hu (k b hb)
theorem g_goto {off : Int} (tgt : Nat) (d : decode y.2.1 pc = .ok (.goto off, 3)) (ht : (pc : Int) + off = (tgt : Int)) (k : G l w y tgt ls st P P' r) : G l w y pc ls st P P' r := fun p e s m args below meth c H locs Ls C hR hS hl => lv_goto C.1 C.2.1 d ht (k p e s m args below meth c H locs Ls C hR hS hl)
theorem j_goto {off : Int} (tgt : Nat) (d : decode y.2.1 pc = .ok (.goto off, 3)) (ht : (pc : Int) + off = (tgt : Int)) (k : J l w y tgt ls st S R X) : J l w y pc ls st S R X := fun b hb => g_goto tgt d ht (k b hb)
theorem g_ifnullN {off : Int} (tgt : Nat) (d : decode y.2.1 pc = .ok (.ifnull off, 3)) (ht : (pc : Int) + off = (tgt : Int)) (k : G l w y tgt ls st P P' r) : G l w y pc ls (.null :: st) P P' r := fun p e s m args below meth c H locs Ls C hR hS hl => lv_ifnullN C.1 C.2.1 d ht (k p e s m args below meth c H locs Ls C hR hS hl)
theorem j_ifnullN {off : Int} (tgt : Nat) (d : decode y.2.1 pc = .ok (.ifnull off, 3)) (ht : (pc : Int) + off = (tgt : Int)) (k : J l w y tgt ls st S R X) : J l w y pc ls (.null :: st) S R X := fun b hb => g_ifnullN tgt d ht (k b hb)
theorem g_ifnullR {off : Int} {t : Nat} (d : decode y.2.1 pc = .ok (.ifnull off, 3)) (k : G l w y (pc + 3) ls st P P' r) : G l w y pc ls (.ref t :: st) P P' r := fun p e s m args below meth c H locs Ls C hR hS hl => lv_ifnull C.1 C.2.1 d (k p e s m args below meth c H locs Ls C hR hS hl)
theorem j_ifnullR {off : Int} {t : Nat} (d : decode y.2.1 pc = .ok (.ifnull off, 3)) (k : J l w y (pc + 3) ls st S R X) : J l w y pc ls (.ref t :: st) S R X := fun b hb => g_ifnullR d (k b hb)
theorem g_istore_n {q : Fin 4} {i : Nat} {x : Int32} {ls' : List (Nat × Value)} (d : decode y.2.1 pc = .ok (.istore_n q, 1)) (hi : (q : Nat) = i) (hn : i < y.2.2.1) (hf : (i, .int x) :: ls.filter (fun q => !(q.1 == i) && !(q.1 + 1 == i && q.2.category == 2)) = ls') (k : G l w y (pc + 1) ls' st P P' r) : G l w y pc ls (.int x :: st) P P' r := fun p e s m args below meth c H locs Ls C hR hS hl => lv_istore_n C.1 C.2.1 d hi hl hn hf (fun Ls1 hl1 => k p e s m args below meth c H locs Ls1 C hR hS hl1)
theorem j_istore_n {q : Fin 4} {i : Nat} {x : Int32} {ls' : List (Nat × Value)} (d : decode y.2.1 pc = .ok (.istore_n q, 1)) (hi : (q : Nat) = i) (hn : i < y.2.2.1) (hf : (i, .int x) :: ls.filter (fun q => !(q.1 == i) && !(q.1 + 1 == i && q.2.category == 2)) = ls') (k : J l w y (pc + 1) ls' st S R X) : J l w y pc ls (.int x :: st) S R X := fun b hb => g_istore_n d hi hn hf (k b hb)
theorem g_istore {i : Nat} {x : Int32} {ls' : List (Nat × Value)} (d : decode y.2.1 pc = .ok (.istore i, 2)) (hn : i < y.2.2.1) (hf : (i, .int x) :: ls.filter (fun q => !(q.1 == i) && !(q.1 + 1 == i && q.2.category == 2)) = ls') (k : G l w y (pc + 2) ls' st P P' r) : G l w y pc ls (.int x :: st) P P' r := fun p e s m args below meth c H locs Ls C hR hS hl => lv_istore C.1 C.2.1 d hl hn hf (fun Ls1 hl1 => k p e s m args below meth c H locs Ls1 C hR hS hl1)
theorem j_istore {i : Nat} {x : Int32} {ls' : List (Nat × Value)} (d : decode y.2.1 pc = .ok (.istore i, 2)) (hn : i < y.2.2.1) (hf : (i, .int x) :: ls.filter (fun q => !(q.1 == i) && !(q.1 + 1 == i && q.2.category == 2)) = ls') (k : J l w y (pc + 2) ls' st S R X) : J l w y pc ls (.int x :: st) S R X := fun b hb => g_istore d hn hf (k b hb)
theorem g_astore_n {q : Fin 4} {i : Nat} {x : Nat} {ls' : List (Nat × Value)} (d : decode y.2.1 pc = .ok (.astore_n q, 1)) (hi : (q : Nat) = i) (hn : i < y.2.2.1) (hf : (i, .ref x) :: ls.filter (fun q => !(q.1 == i) && !(q.1 + 1 == i && q.2.category == 2)) = ls') (k : G l w y (pc + 1) ls' st P P' r) : G l w y pc ls (.ref x :: st) P P' r := fun p e s m args below meth c H locs Ls C hR hS hl => lv_astore_n C.1 C.2.1 d hi hl hn hf (fun Ls1 hl1 => k p e s m args below meth c H locs Ls1 C hR hS hl1)
theorem j_astore_n {q : Fin 4} {i : Nat} {x : Nat} {ls' : List (Nat × Value)} (d : decode y.2.1 pc = .ok (.astore_n q, 1)) (hi : (q : Nat) = i) (hn : i < y.2.2.1) (hf : (i, .ref x) :: ls.filter (fun q => !(q.1 == i) && !(q.1 + 1 == i && q.2.category == 2)) = ls') (k : J l w y (pc + 1) ls' st S R X) : J l w y pc ls (.ref x :: st) S R X := fun b hb => g_astore_n d hi hn hf (k b hb)
theorem g_astore {i : Nat} {x : Nat} {ls' : List (Nat × Value)} (d : decode y.2.1 pc = .ok (.astore i, 2)) (hn : i < y.2.2.1) (hf : (i, .ref x) :: ls.filter (fun q => !(q.1 == i) && !(q.1 + 1 == i && q.2.category == 2)) = ls') (k : G l w y (pc + 2) ls' st P P' r) : G l w y pc ls (.ref x :: st) P P' r := fun p e s m args below meth c H locs Ls C hR hS hl => lv_astore C.1 C.2.1 d hl hn hf (fun Ls1 hl1 => k p e s m args below meth c H locs Ls1 C hR hS hl1)
theorem j_astore {i : Nat} {x : Nat} {ls' : List (Nat × Value)} (d : decode y.2.1 pc = .ok (.astore i, 2)) (hn : i < y.2.2.1) (hf : (i, .ref x) :: ls.filter (fun q => !(q.1 == i) && !(q.1 + 1 == i && q.2.category == 2)) = ls') (k : J l w y (pc + 2) ls' st S R X) : J l w y pc ls (.ref x :: st) S R X := fun b hb => g_astore d hn hf (k b hb)
theorem g_astore_nN {q : Fin 4} {i : Nat}  {ls' : List (Nat × Value)} (d : decode y.2.1 pc = .ok (.astore_n q, 1)) (hi : (q : Nat) = i) (hn : i < y.2.2.1) (hf : (i, .null) :: ls.filter (fun q => !(q.1 == i) && !(q.1 + 1 == i && q.2.category == 2)) = ls') (k : G l w y (pc + 1) ls' st P P' r) : G l w y pc ls (.null :: st) P P' r := fun p e s m args below meth c H locs Ls C hR hS hl => lv_astore_nN C.1 C.2.1 d hi hl hn hf (fun Ls1 hl1 => k p e s m args below meth c H locs Ls1 C hR hS hl1)
theorem j_astore_nN {q : Fin 4} {i : Nat}  {ls' : List (Nat × Value)} (d : decode y.2.1 pc = .ok (.astore_n q, 1)) (hi : (q : Nat) = i) (hn : i < y.2.2.1) (hf : (i, .null) :: ls.filter (fun q => !(q.1 == i) && !(q.1 + 1 == i && q.2.category == 2)) = ls') (k : J l w y (pc + 1) ls' st S R X) : J l w y pc ls (.null :: st) S R X := fun b hb => g_astore_nN d hi hn hf (k b hb)
theorem g_astoreN {i : Nat}  {ls' : List (Nat × Value)} (d : decode y.2.1 pc = .ok (.astore i, 2)) (hn : i < y.2.2.1) (hf : (i, .null) :: ls.filter (fun q => !(q.1 == i) && !(q.1 + 1 == i && q.2.category == 2)) = ls') (k : G l w y (pc + 2) ls' st P P' r) : G l w y pc ls (.null :: st) P P' r := fun p e s m args below meth c H locs Ls C hR hS hl => lv_astoreN C.1 C.2.1 d hl hn hf (fun Ls1 hl1 => k p e s m args below meth c H locs Ls1 C hR hS hl1)
theorem j_astoreN {i : Nat}  {ls' : List (Nat × Value)} (d : decode y.2.1 pc = .ok (.astore i, 2)) (hn : i < y.2.2.1) (hf : (i, .null) :: ls.filter (fun q => !(q.1 == i) && !(q.1 + 1 == i && q.2.category == 2)) = ls') (k : J l w y (pc + 2) ls' st S R X) : J l w y pc ls (.null :: st) S R X := fun b hb => g_astoreN d hn hf (k b hb)
theorem g_lstore_n {q : Fin 4} {i : Nat} {x : Int64} {ls' : List (Nat × Value)} (d : decode y.2.1 pc = .ok (.lstore_n q, 1)) (hi : (q : Nat) = i) (hn : i + 1 < y.2.2.1) (hf : (i, .long x) :: ls.filter (fun q => !(q.1 == i) && (!(q.1 == i + 1) && !(q.1 + 1 == i && q.2.category == 2))) = ls') (k : G l w y (pc + 1) ls' st P P' r) : G l w y pc ls (.long x :: st) P P' r := fun p e s m args below meth c H locs Ls C hR hS hl => lv_lstore_n C.1 C.2.1 d hi hl hn hf (fun Ls1 hl1 => k p e s m args below meth c H locs Ls1 C hR hS hl1)
theorem j_lstore_n {q : Fin 4} {i : Nat} {x : Int64} {ls' : List (Nat × Value)} (d : decode y.2.1 pc = .ok (.lstore_n q, 1)) (hi : (q : Nat) = i) (hn : i + 1 < y.2.2.1) (hf : (i, .long x) :: ls.filter (fun q => !(q.1 == i) && (!(q.1 == i + 1) && !(q.1 + 1 == i && q.2.category == 2))) = ls') (k : J l w y (pc + 1) ls' st S R X) : J l w y pc ls (.long x :: st) S R X := fun b hb => g_lstore_n d hi hn hf (k b hb)
theorem g_lstore {i : Nat} {x : Int64} {ls' : List (Nat × Value)} (d : decode y.2.1 pc = .ok (.lstore i, 2)) (hn : i + 1 < y.2.2.1) (hf : (i, .long x) :: ls.filter (fun q => !(q.1 == i) && (!(q.1 == i + 1) && !(q.1 + 1 == i && q.2.category == 2))) = ls') (k : G l w y (pc + 2) ls' st P P' r) : G l w y pc ls (.long x :: st) P P' r := fun p e s m args below meth c H locs Ls C hR hS hl => lv_lstore C.1 C.2.1 d hl hn hf (fun Ls1 hl1 => k p e s m args below meth c H locs Ls1 C hR hS hl1)
theorem j_lstore {i : Nat} {x : Int64} {ls' : List (Nat × Value)} (d : decode y.2.1 pc = .ok (.lstore i, 2)) (hn : i + 1 < y.2.2.1) (hf : (i, .long x) :: ls.filter (fun q => !(q.1 == i) && (!(q.1 == i + 1) && !(q.1 + 1 == i && q.2.category == 2))) = ls') (k : J l w y (pc + 2) ls' st S R X) : J l w y pc ls (.long x :: st) S R X := fun b hb => g_lstore d hn hf (k b hb)
theorem g_iinc (kp : Nat) {i : Nat} {n : Int} {x v : Int32} {ls' : List (Nat × Value)} (d : decode y.2.1 pc = .ok (.iinc i n, 3)) (hk : ls[kp]? = some (i, .int x)) (hv : x + Int32.ofInt n = v) (hn : i < y.2.2.1) (hf : (i, .int v) :: ls.filter (fun q => !(q.1 == i) && !(q.1 + 1 == i && q.2.category == 2)) = ls') (k : G l w y (pc + 3) ls' st P P' r) : G l w y pc ls st P P' r := fun p e s m args below meth c H locs Ls C hR hS hl => lv_iinc C.1 C.2.1 d hl hk hv hn hf (fun Ls1 hl1 => k p e s m args below meth c H locs Ls1 C hR hS hl1)
theorem j_iinc (kp : Nat) {i : Nat} {n : Int} {x v : Int32} {ls' : List (Nat × Value)} (d : decode y.2.1 pc = .ok (.iinc i n, 3)) (hk : ls[kp]? = some (i, .int x)) (hv : x + Int32.ofInt n = v) (hn : i < y.2.2.1) (hf : (i, .int v) :: ls.filter (fun q => !(q.1 == i) && !(q.1 + 1 == i && q.2.category == 2)) = ls') (k : J l w y (pc + 3) ls' st S R X) : J l w y pc ls st S R X := fun b hb => g_iinc kp d hk hv hn hf (k b hb)
theorem g_sub {ls' : List (Nat × Value)} (ks : List Nat) (h : lv_pick ls ks = ls') (k : G l w y pc ls' st P P' r) : G l w y pc ls st P P' r := fun p e s m args below meth c H locs Ls C hR hS hl => k p e s m args below meth c H locs Ls C hR hS (lv_sub hl ks h)
theorem j_sub {ls' : List (Nat × Value)} (ks : List Nat) (h : lv_pick ls ks = ls') (k : J l w y pc ls' st S R X) : J l w y pc ls st S R X := fun b hb => g_sub ks h (k b hb)
theorem j_ite {A B : Option β} {q : Prop} {iq : Decidable q} (h1 : q → J l w y pc ls st S R A) (h2 : ¬ q → J l w y pc ls st S R B) : J l w y pc ls st S R (if q then A else B) := by
  intro b hb
  by_cases h : q
  · rw [if_pos h] at hb; exact h1 h b hb
  · rw [if_neg h] at hb; exact h2 h b hb
theorem g_icmp_eq {off : Int} (tgt : Nat) {x z : Int32} (d : decode y.2.1 pc = .ok (.if_icmp .eq off, 3)) (ht : (pc : Int) + off = (tgt : Int)) (kt : x = z → G l w y tgt ls st P P' r) (kf : ¬ x = z → G l w y (pc + 3) ls st P P' r) : G l w y pc ls (.int z :: .int x :: st) P P' r := fun p e s m args below meth c H locs Ls C hR hS hl => lv_icmp_eq C.1 C.2.1 d ht (fun h => kt h p e s m args below meth c H locs Ls C hR hS hl) (fun h => kf h p e s m args below meth c H locs Ls C hR hS hl)
theorem j_icmp_eq {off : Int} (tgt : Nat) {x z : Int32} (d : decode y.2.1 pc = .ok (.if_icmp .eq off, 3)) (ht : (pc : Int) + off = (tgt : Int)) {A B : Option β} (kt : x = z → J l w y tgt ls st S R A) (kf : ¬ x = z → J l w y (pc + 3) ls st S R B) : J l w y pc ls (.int z :: .int x :: st) S R (if x = z then A else B) := fun b hb => by
  by_cases h : x = z
  · rw [if_pos h] at hb
    exact g_icmp_eq tgt d ht (fun h2 => kt h b hb) (fun h2 => absurd h h2)
  · rw [if_neg h] at hb
    exact g_icmp_eq tgt d ht (fun h2 => absurd h2 h) (fun h2 => kf h b hb)
theorem g_icmp_ne {off : Int} (tgt : Nat) {x z : Int32} (d : decode y.2.1 pc = .ok (.if_icmp .ne off, 3)) (ht : (pc : Int) + off = (tgt : Int)) (kt : ¬ x = z → G l w y tgt ls st P P' r) (kf : x = z → G l w y (pc + 3) ls st P P' r) : G l w y pc ls (.int z :: .int x :: st) P P' r := fun p e s m args below meth c H locs Ls C hR hS hl => lv_icmp_ne C.1 C.2.1 d ht (fun h => kt h p e s m args below meth c H locs Ls C hR hS hl) (fun h => kf h p e s m args below meth c H locs Ls C hR hS hl)
theorem j_icmp_ne {off : Int} (tgt : Nat) {x z : Int32} (d : decode y.2.1 pc = .ok (.if_icmp .ne off, 3)) (ht : (pc : Int) + off = (tgt : Int)) {A B : Option β} (kt : ¬ x = z → J l w y tgt ls st S R B) (kf : x = z → J l w y (pc + 3) ls st S R A) : J l w y pc ls (.int z :: .int x :: st) S R (if x = z then A else B) := fun b hb => by
  by_cases h : x = z
  · rw [if_pos h] at hb
    exact g_icmp_ne tgt d ht (fun h2 => absurd h (h2)) (fun h2 => kf h b hb)
  · rw [if_neg h] at hb
    exact g_icmp_ne tgt d ht (fun h2 => kt h b hb) (fun h2 => absurd (h2) h)
theorem g_icmp_lt {off : Int} (tgt : Nat) {x z : Int32} (d : decode y.2.1 pc = .ok (.if_icmp .lt off, 3)) (ht : (pc : Int) + off = (tgt : Int)) (kt : x < z → G l w y tgt ls st P P' r) (kf : ¬ x < z → G l w y (pc + 3) ls st P P' r) : G l w y pc ls (.int z :: .int x :: st) P P' r := fun p e s m args below meth c H locs Ls C hR hS hl => lv_icmp_lt C.1 C.2.1 d ht (fun h => kt h p e s m args below meth c H locs Ls C hR hS hl) (fun h => kf h p e s m args below meth c H locs Ls C hR hS hl)
theorem j_icmp_lt {off : Int} (tgt : Nat) {x z : Int32} (d : decode y.2.1 pc = .ok (.if_icmp .lt off, 3)) (ht : (pc : Int) + off = (tgt : Int)) {A B : Option β} (kt : x < z → J l w y tgt ls st S R A) (kf : ¬ x < z → J l w y (pc + 3) ls st S R B) : J l w y pc ls (.int z :: .int x :: st) S R (if x < z then A else B) := fun b hb => by
  by_cases h : x < z
  · rw [if_pos h] at hb
    exact g_icmp_lt tgt d ht (fun h2 => kt h b hb) (fun h2 => absurd h h2)
  · rw [if_neg h] at hb
    exact g_icmp_lt tgt d ht (fun h2 => absurd h2 h) (fun h2 => kf h b hb)
theorem g_icmp_ge {off : Int} (tgt : Nat) {x z : Int32} (d : decode y.2.1 pc = .ok (.if_icmp .ge off, 3)) (ht : (pc : Int) + off = (tgt : Int)) (kt : z ≤ x → G l w y tgt ls st P P' r) (kf : ¬ z ≤ x → G l w y (pc + 3) ls st P P' r) : G l w y pc ls (.int z :: .int x :: st) P P' r := fun p e s m args below meth c H locs Ls C hR hS hl => lv_icmp_ge C.1 C.2.1 d ht (fun h => kt h p e s m args below meth c H locs Ls C hR hS hl) (fun h => kf h p e s m args below meth c H locs Ls C hR hS hl)
theorem j_icmp_ge {off : Int} (tgt : Nat) {x z : Int32} (d : decode y.2.1 pc = .ok (.if_icmp .ge off, 3)) (ht : (pc : Int) + off = (tgt : Int)) {A B : Option β} (kt : ¬ x < z → J l w y tgt ls st S R B) (kf : x < z → J l w y (pc + 3) ls st S R A) : J l w y pc ls (.int z :: .int x :: st) S R (if x < z then A else B) := fun b hb => by
  by_cases h : x < z
  · rw [if_pos h] at hb
    exact g_icmp_ge tgt d ht (fun h2 => absurd h (Int32.not_lt.mpr h2)) (fun h2 => kf h b hb)
  · rw [if_neg h] at hb
    exact g_icmp_ge tgt d ht (fun h2 => kt h b hb) (fun h2 => absurd (Int32.not_le.mp h2) h)
theorem g_icmp_gt {off : Int} (tgt : Nat) {x z : Int32} (d : decode y.2.1 pc = .ok (.if_icmp .gt off, 3)) (ht : (pc : Int) + off = (tgt : Int)) (kt : z < x → G l w y tgt ls st P P' r) (kf : ¬ z < x → G l w y (pc + 3) ls st P P' r) : G l w y pc ls (.int z :: .int x :: st) P P' r := fun p e s m args below meth c H locs Ls C hR hS hl => lv_icmp_gt C.1 C.2.1 d ht (fun h => kt h p e s m args below meth c H locs Ls C hR hS hl) (fun h => kf h p e s m args below meth c H locs Ls C hR hS hl)
theorem j_icmp_gt {off : Int} (tgt : Nat) {x z : Int32} (d : decode y.2.1 pc = .ok (.if_icmp .gt off, 3)) (ht : (pc : Int) + off = (tgt : Int)) {A B : Option β} (kt : z < x → J l w y tgt ls st S R A) (kf : ¬ z < x → J l w y (pc + 3) ls st S R B) : J l w y pc ls (.int z :: .int x :: st) S R (if z < x then A else B) := fun b hb => by
  by_cases h : z < x
  · rw [if_pos h] at hb
    exact g_icmp_gt tgt d ht (fun h2 => kt h b hb) (fun h2 => absurd h h2)
  · rw [if_neg h] at hb
    exact g_icmp_gt tgt d ht (fun h2 => absurd h2 h) (fun h2 => kf h b hb)
theorem g_icmp_le {off : Int} (tgt : Nat) {x z : Int32} (d : decode y.2.1 pc = .ok (.if_icmp .le off, 3)) (ht : (pc : Int) + off = (tgt : Int)) (kt : x ≤ z → G l w y tgt ls st P P' r) (kf : ¬ x ≤ z → G l w y (pc + 3) ls st P P' r) : G l w y pc ls (.int z :: .int x :: st) P P' r := fun p e s m args below meth c H locs Ls C hR hS hl => lv_icmp_le C.1 C.2.1 d ht (fun h => kt h p e s m args below meth c H locs Ls C hR hS hl) (fun h => kf h p e s m args below meth c H locs Ls C hR hS hl)
theorem j_icmp_le {off : Int} (tgt : Nat) {x z : Int32} (d : decode y.2.1 pc = .ok (.if_icmp .le off, 3)) (ht : (pc : Int) + off = (tgt : Int)) {A B : Option β} (kt : ¬ z < x → J l w y tgt ls st S R B) (kf : z < x → J l w y (pc + 3) ls st S R A) : J l w y pc ls (.int z :: .int x :: st) S R (if z < x then A else B) := fun b hb => by
  by_cases h : z < x
  · rw [if_pos h] at hb
    exact g_icmp_le tgt d ht (fun h2 => absurd h (Int32.not_lt.mpr h2)) (fun h2 => kf h b hb)
  · rw [if_neg h] at hb
    exact g_icmp_le tgt d ht (fun h2 => kt h b hb) (fun h2 => absurd (Int32.not_le.mp h2) h)
theorem g_if_eq {off : Int} (tgt : Nat) {x : Int32} (d : decode y.2.1 pc = .ok (.ifCond .eq off, 3)) (ht : (pc : Int) + off = (tgt : Int)) (kt : x = 0 → G l w y tgt ls st P P' r) (kf : ¬ x = 0 → G l w y (pc + 3) ls st P P' r) : G l w y pc ls (.int x :: st) P P' r := fun p e s m args below meth c H locs Ls C hR hS hl => lv_if_eq C.1 C.2.1 d ht (fun h => kt h p e s m args below meth c H locs Ls C hR hS hl) (fun h => kf h p e s m args below meth c H locs Ls C hR hS hl)
theorem j_if_eq {off : Int} (tgt : Nat) {x : Int32} (d : decode y.2.1 pc = .ok (.ifCond .eq off, 3)) (ht : (pc : Int) + off = (tgt : Int)) {A B : Option β} (kt : x = 0 → J l w y tgt ls st S R A) (kf : ¬ x = 0 → J l w y (pc + 3) ls st S R B) : J l w y pc ls (.int x :: st) S R (if x = 0 then A else B) := fun b hb => by
  by_cases h : x = 0
  · rw [if_pos h] at hb
    exact g_if_eq tgt d ht (fun h2 => kt h b hb) (fun h2 => absurd h h2)
  · rw [if_neg h] at hb
    exact g_if_eq tgt d ht (fun h2 => absurd h2 h) (fun h2 => kf h b hb)
theorem g_if_ne {off : Int} (tgt : Nat) {x : Int32} (d : decode y.2.1 pc = .ok (.ifCond .ne off, 3)) (ht : (pc : Int) + off = (tgt : Int)) (kt : ¬ x = 0 → G l w y tgt ls st P P' r) (kf : x = 0 → G l w y (pc + 3) ls st P P' r) : G l w y pc ls (.int x :: st) P P' r := fun p e s m args below meth c H locs Ls C hR hS hl => lv_if_ne C.1 C.2.1 d ht (fun h => kt h p e s m args below meth c H locs Ls C hR hS hl) (fun h => kf h p e s m args below meth c H locs Ls C hR hS hl)
theorem j_if_ne {off : Int} (tgt : Nat) {x : Int32} (d : decode y.2.1 pc = .ok (.ifCond .ne off, 3)) (ht : (pc : Int) + off = (tgt : Int)) {A B : Option β} (kt : ¬ x = 0 → J l w y tgt ls st S R B) (kf : x = 0 → J l w y (pc + 3) ls st S R A) : J l w y pc ls (.int x :: st) S R (if x = 0 then A else B) := fun b hb => by
  by_cases h : x = 0
  · rw [if_pos h] at hb
    exact g_if_ne tgt d ht (fun h2 => absurd h (h2)) (fun h2 => kf h b hb)
  · rw [if_neg h] at hb
    exact g_if_ne tgt d ht (fun h2 => kt h b hb) (fun h2 => absurd (h2) h)
theorem g_if_lt {off : Int} (tgt : Nat) {x : Int32} (d : decode y.2.1 pc = .ok (.ifCond .lt off, 3)) (ht : (pc : Int) + off = (tgt : Int)) (kt : x < 0 → G l w y tgt ls st P P' r) (kf : ¬ x < 0 → G l w y (pc + 3) ls st P P' r) : G l w y pc ls (.int x :: st) P P' r := fun p e s m args below meth c H locs Ls C hR hS hl => lv_if_lt C.1 C.2.1 d ht (fun h => kt h p e s m args below meth c H locs Ls C hR hS hl) (fun h => kf h p e s m args below meth c H locs Ls C hR hS hl)
theorem j_if_lt {off : Int} (tgt : Nat) {x : Int32} (d : decode y.2.1 pc = .ok (.ifCond .lt off, 3)) (ht : (pc : Int) + off = (tgt : Int)) {A B : Option β} (kt : x < 0 → J l w y tgt ls st S R A) (kf : ¬ x < 0 → J l w y (pc + 3) ls st S R B) : J l w y pc ls (.int x :: st) S R (if x < 0 then A else B) := fun b hb => by
  by_cases h : x < 0
  · rw [if_pos h] at hb
    exact g_if_lt tgt d ht (fun h2 => kt h b hb) (fun h2 => absurd h h2)
  · rw [if_neg h] at hb
    exact g_if_lt tgt d ht (fun h2 => absurd h2 h) (fun h2 => kf h b hb)
theorem g_if_ge {off : Int} (tgt : Nat) {x : Int32} (d : decode y.2.1 pc = .ok (.ifCond .ge off, 3)) (ht : (pc : Int) + off = (tgt : Int)) (kt : 0 ≤ x → G l w y tgt ls st P P' r) (kf : ¬ 0 ≤ x → G l w y (pc + 3) ls st P P' r) : G l w y pc ls (.int x :: st) P P' r := fun p e s m args below meth c H locs Ls C hR hS hl => lv_if_ge C.1 C.2.1 d ht (fun h => kt h p e s m args below meth c H locs Ls C hR hS hl) (fun h => kf h p e s m args below meth c H locs Ls C hR hS hl)
theorem j_if_ge {off : Int} (tgt : Nat) {x : Int32} (d : decode y.2.1 pc = .ok (.ifCond .ge off, 3)) (ht : (pc : Int) + off = (tgt : Int)) {A B : Option β} (kt : ¬ x < 0 → J l w y tgt ls st S R B) (kf : x < 0 → J l w y (pc + 3) ls st S R A) : J l w y pc ls (.int x :: st) S R (if x < 0 then A else B) := fun b hb => by
  by_cases h : x < 0
  · rw [if_pos h] at hb
    exact g_if_ge tgt d ht (fun h2 => absurd h (Int32.not_lt.mpr h2)) (fun h2 => kf h b hb)
  · rw [if_neg h] at hb
    exact g_if_ge tgt d ht (fun h2 => kt h b hb) (fun h2 => absurd (Int32.not_le.mp h2) h)
theorem g_if_gt {off : Int} (tgt : Nat) {x : Int32} (d : decode y.2.1 pc = .ok (.ifCond .gt off, 3)) (ht : (pc : Int) + off = (tgt : Int)) (kt : 0 < x → G l w y tgt ls st P P' r) (kf : ¬ 0 < x → G l w y (pc + 3) ls st P P' r) : G l w y pc ls (.int x :: st) P P' r := fun p e s m args below meth c H locs Ls C hR hS hl => lv_if_gt C.1 C.2.1 d ht (fun h => kt h p e s m args below meth c H locs Ls C hR hS hl) (fun h => kf h p e s m args below meth c H locs Ls C hR hS hl)
theorem j_if_gt {off : Int} (tgt : Nat) {x : Int32} (d : decode y.2.1 pc = .ok (.ifCond .gt off, 3)) (ht : (pc : Int) + off = (tgt : Int)) {A B : Option β} (kt : 0 < x → J l w y tgt ls st S R A) (kf : ¬ 0 < x → J l w y (pc + 3) ls st S R B) : J l w y pc ls (.int x :: st) S R (if 0 < x then A else B) := fun b hb => by
  by_cases h : 0 < x
  · rw [if_pos h] at hb
    exact g_if_gt tgt d ht (fun h2 => kt h b hb) (fun h2 => absurd h h2)
  · rw [if_neg h] at hb
    exact g_if_gt tgt d ht (fun h2 => absurd h2 h) (fun h2 => kf h b hb)
theorem g_if_le {off : Int} (tgt : Nat) {x : Int32} (d : decode y.2.1 pc = .ok (.ifCond .le off, 3)) (ht : (pc : Int) + off = (tgt : Int)) (kt : x ≤ 0 → G l w y tgt ls st P P' r) (kf : ¬ x ≤ 0 → G l w y (pc + 3) ls st P P' r) : G l w y pc ls (.int x :: st) P P' r := fun p e s m args below meth c H locs Ls C hR hS hl => lv_if_le C.1 C.2.1 d ht (fun h => kt h p e s m args below meth c H locs Ls C hR hS hl) (fun h => kf h p e s m args below meth c H locs Ls C hR hS hl)
theorem j_if_le {off : Int} (tgt : Nat) {x : Int32} (d : decode y.2.1 pc = .ok (.ifCond .le off, 3)) (ht : (pc : Int) + off = (tgt : Int)) {A B : Option β} (kt : ¬ 0 < x → J l w y tgt ls st S R B) (kf : 0 < x → J l w y (pc + 3) ls st S R A) : J l w y pc ls (.int x :: st) S R (if 0 < x then A else B) := fun b hb => by
  by_cases h : 0 < x
  · rw [if_pos h] at hb
    exact g_if_le tgt d ht (fun h2 => absurd h (Int32.not_lt.mpr h2)) (fun h2 => kf h b hb)
  · rw [if_neg h] at hb
    exact g_if_le tgt d ht (fun h2 => kt h b hb) (fun h2 => absurd (Int32.not_le.mp h2) h)
theorem b2i_0 {q : Bool} : b2i q = 0 ↔ ¬ q = true := by cases q <;> decide
theorem j_if_eqB {off : Int} (tgt : Nat) {q : Bool} (d : decode y.2.1 pc = .ok (.ifCond .eq off, 3)) (ht : (pc : Int) + off = (tgt : Int)) {A B : Option β} (kt : ¬ q = true → J l w y tgt ls st S R B) (kf : q = true → J l w y (pc + 3) ls st S R A) : J l w y pc ls (.int (b2i q) :: st) S R (if q = true then A else B) := fun b hb => by
  by_cases h : q = true
  · rw [if_pos h] at hb
    exact g_if_eq tgt d ht (fun h2 => absurd h (b2i_0.mp h2)) (fun h2 => kf h b hb)
  · rw [if_neg h] at hb
    exact g_if_eq tgt d ht (fun h2 => kt h b hb) (fun h2 => absurd (b2i_0.mpr h) h2)
theorem j_if_neB {off : Int} (tgt : Nat) {q : Bool} (d : decode y.2.1 pc = .ok (.ifCond .ne off, 3)) (ht : (pc : Int) + off = (tgt : Int)) {A B : Option β} (kt : q = true → J l w y tgt ls st S R A) (kf : ¬ q = true → J l w y (pc + 3) ls st S R B) : J l w y pc ls (.int (b2i q) :: st) S R (if q = true then A else B) := fun b hb => by
  by_cases h : q = true
  · rw [if_pos h] at hb
    exact g_if_ne tgt d ht (fun h2 => kt h b hb) (fun h2 => absurd h (b2i_0.mp h2))
  · rw [if_neg h] at hb
    exact g_if_ne tgt d ht (fun h2 => absurd (b2i_0.mpr h) h2) (fun h2 => kf h b hb)
end Rules
end
section
theorem kd_ge {t : Nat} (h : NN ≤ t) : kd t = Kints 0 := by
  have h1 : ¬ t = 0 := by have : (125 : Nat) ≤ t := h; omega
  have h2 : ¬ t < 44 := by have : (125 : Nat) ≤ t := h; omega
  have h3 : ¬ t < 87 := by have : (125 : Nat) ≤ t := h; omega
  obtain ⟨q, hq⟩ : ∃ q, t - 87 = q + 38 := ⟨t - 125, by have : (125 : Nat) ≤ t := h; omega⟩
  simp only [kd, h1, h2, h3, if_false, hq]
  rfl
theorem kd_lt {t : Nat} {c : Nat × List Bool} (h : kd t = .inl c) : t < NN := by
  rcases Nat.lt_or_ge t NN with q | q
  · exact q
  · rw [kd_ge q] at h; cases h
theorem kd_ltA {t tt n i : Nat} (h : kd t = .inr (tt, n)) (hi : i < n) : t < NN := by
  rcases Nat.lt_or_ge t NN with q | q
  · exact q
  · rw [kd_ge q] at h
    cases h
    omega
theorem rho_o {t ci k : Nat} {fl : List Bool} (h : kd t = .inl (ci, fl)) : rho t k = rkO ci t k := by simp only [rho, h]
theorem rho_a {t tt n k : Nat} (h : kd t = .inr (tt, n)) : rho t k = rkA tt t k := by simp only [rho, h]
/-- the words of a field: which class's, its slot -/
def FL (own : String) (idx ci k : Nat) : Prop := ∃ (C : String) (T : u_T) (N : Nat), vwCl[ci]? = some (C, T, N) ∧ (∀ q ∈ u_ws C T N, q ∈ gw) ∧ k < N ∧ Cond.fieldLink own idx (T k).1 (T k).2.1 (T k).2.2.1 ∈ gw
def FP (own : String) (idx ci k : Nat) (fin : Bool) (ty : FieldType) : Prop := ∃ (C : String) (T : u_T) (N : Nat) (ty0 : Nat → FieldType), vwCl[ci]? = some (C, T, N) ∧ (∀ q ∈ u_ws C T N, q ∈ gw) ∧ k < N ∧ Cond.fieldLink own idx (T k).1 (T k).2.1 (T k).2.2.1 ∈ gw ∧ (∀ j, j < N → parseFieldDescriptor (T j).2.2.1 = some (ty0 j)) ∧ (∀ a, a < N → ∀ b, b < N → a ≠ b → (T a).2.1 ≠ (T b).2.1) ∧ (T k).2.2.2 = fin ∧ (fin = true → (T k).1 = own) ∧ ty0 k = ty
section Heap
variable {l : Launch} {w : Wd} {y : MI} {pc : Nat} {ls : List (Nat × Value)} {st : List Value} {P P' : WP} {r : Option Value} {β : Type} {R : β → Option Value × St} {X : Option β} {S : St} {n k z : Nat} {ρ : Rf}
theorem g_get {t ci f idx : Nat} {fl : List Bool} {b : Bool} {v : Value} (hF : FL y.1.cls idx ci f) (hk : kd t = .inl (ci, fl)) (hb : fl[f]? = some b) (ht : t < n) (hv : fv w S ρ t f b = v) (d : decode y.2.1 pc = .ok (.getfield idx, 3))
    (kk : G l w y (pc + 3) ls (v :: st) (n, ρ, S, k, z) P' r) : G l w y pc ls (.ref (w.2.1 + t) :: st) (n, ρ, S, k, z) P' r := by
  intro p e s m args below meth c H locs Ls C hR hS hl
  obtain ⟨CC, T, N, h1, h2, h3, h4⟩ := hF
  exact va_get (D := w.1) (ci := ci) (v := v) (C := CC) (T := T) (N := N) C.1 C.2.1 C.2.2.2.2.1 h2 C.2.2.2.1 C.2.2.2.2.2.2.2.2.1.1 hR.1 t (by rw [wls_at ht, cel_o hk]) h1 f h3 (C.2.2.2.2.1 _ h4) (fun _ q => q) (by rw [flds_at hb, hv]) d (kk p e s m args below meth c H locs Ls C hR hS hl)
theorem j_getI {t ci f idx : Nat} {fl : List Bool} (hF : FL y.1.cls idx ci f) (hk : kd t = .inl (ci, fl)) (hb : fl[f]? = some false) (d : decode y.2.1 pc = .ok (.getfield idx, 3))
    (kk : J l w y (pc + 3) ls (.int (rd S t f) :: st) S R X) : J l w y pc ls (.ref (w.2.1 + t) :: st) S R X := fun b h => g_get hF hk hb (kd_lt hk) rfl d (kk b h)
theorem j_getR {t ci f idx j : Nat} {fl : List Bool} (hF : FL y.1.cls idx ci f) (hk : kd t = .inl (ci, fl)) (hb : fl[f]? = some true) (hj : rkO ci t f = some j) (d : decode y.2.1 pc = .ok (.getfield idx, 3))
    (kk : J l w y (pc + 3) ls (.ref (w.2.1 + j) :: st) S R X) : J l w y pc ls (.ref (w.2.1 + t) :: st) S R X := fun b h => g_get hF hk hb (kd_lt hk) (by simp only [fv, if_true, rho_o hk, hj, Option.map_some, va_rf]) d (kk b h)
theorem g_putI {t ci f idx : Nat} {fl : List Bool} {v : Int32} {ty : FieldType} (hF : FP y.1.cls idx ci f false ty) (hk : kd t = .inl (ci, fl)) (hb : fl[f]? = some false) (ht : t < n) (hn : narrow ty (.int v) = .int v) (hfit : fits ty (.int v) = true) (d : decode y.2.1 pc = .ok (.putfield idx, 3))
    (kk : G l w y (pc + 3) ls st (n, ρ, wr S t f v, k, z) P' r) : G l w y pc ls (.int v :: .ref (w.2.1 + t) :: st) (n, ρ, S, k, z) P' r := by
  intro p e s m args below meth c H locs Ls C hR hS hl
  obtain ⟨CC, T, N, ty0, h1, h2, h3, h4, h5, h6, h7, h8, h9⟩ := hF
  have hset : (wls w n S ρ).set t (w.2.1 + t, .inr (ci, (flds w S ρ t fl).set f (.int v))) = wls w n (wr S t f v) ρ := by
    refine wls_set ht ?_ (fun j hj => cel_cong (by simp [wr, up2_ne hj]) rfl rfl)
    rw [flds_set (S' := wr S t f v) (ρ' := ρ) hb (by simp [fv, wr, up2_eq]) (fun j b' hj => fv_cong (by simp [wr, up2_eq, hj]) rfl), cel_o hk]
  refine va_put (D := w.1) (ci := ci) (C := CC) (T := T) (N := N) C.1 C.2.1 C.2.2.2.2.1 h2 ty0 h5 h6 C.2.2.2.1 C.2.2.2.2.2.2.2.2.1.1 hR.1 wls_D hS t (by rw [wls_at ht, cel_o hk]) h1 f h3 (C.2.2.2.2.1 _ h4) (fun _ q => q) h7 (by rw [h5 f h3, h9]) hn hfit (by rw [flds_len]; exact (List.getElem?_eq_some_iff.mp hb).1) d (fun H1 locs1 hP1 _ hS1 => ?_)
  rw [hset] at hP1
  exact kk p e s m args below meth c H1 locs1 Ls C ⟨hP1, hR.2⟩ hS1 hl
theorem g_putR {t ci f idx j : Nat} {fl : List Bool} {ty : FieldType} (hF : FP y.1.cls idx ci f true ty) (hin : y.1.name = "<init>") (hk : kd t = .inl (ci, fl)) (hb : fl[f]? = some true) (ht : t < n) (hn : narrow ty (.ref (w.2.1 + j)) = .ref (w.2.1 + j)) (hfit : fits ty (.ref (w.2.1 + j)) = true) (d : decode y.2.1 pc = .ok (.putfield idx, 3))
    (kk : G l w y (pc + 3) ls st (n, up2 ρ t f (some j), S, k, z) P' r) : G l w y pc ls (.ref (w.2.1 + j) :: .ref (w.2.1 + t) :: st) (n, ρ, S, k, z) P' r := by
  intro p e s m args below meth c H locs Ls C hR hS hl
  obtain ⟨CC, T, N, ty0, h1, h2, h3, h4, h5, h6, h7, h8, h9⟩ := hF
  have hset : (wls w n S ρ).set t (w.2.1 + t, .inr (ci, (flds w S ρ t fl).set f (.ref (w.2.1 + j)))) = wls w n S (up2 ρ t f (some j)) := by
    refine wls_set ht ?_ (fun q hq => cel_cong rfl rfl (up2_ne hq))
    rw [flds_set (S' := S) (ρ' := up2 ρ t f (some j)) hb (by simp [fv, up2_eq, va_rf]) (fun q b' hq => fv_cong rfl (by simp [up2_eq, hq])), cel_o hk]
  refine va_putF (D := w.1) (ci := ci) (C := CC) (T := T) (N := N) C.1 C.2.1 C.2.2.2.2.1 h2 ty0 h5 h6 C.2.2.2.1 C.2.2.2.2.2.2.2.2.1.1 hR.1 wls_D hS t (by rw [wls_at ht, cel_o hk]) h1 f h3 (C.2.2.2.2.1 _ h4) (fun _ q => q) h7 (by rw [C.2.2.2.2.2.2.2.1, hin]) (h8 rfl) (by rw [h5 f h3, h9]) hn hfit (by rw [flds_len]; exact (List.getElem?_eq_some_iff.mp hb).1) d (fun H1 locs1 hP1 _ hS1 => ?_)
  rw [hset] at hP1
  exact kk p e s m args below meth c H1 locs1 Ls C ⟨hP1, hR.2⟩ hS1 hl
theorem j_putI {t ci f idx : Nat} {fl : List Bool} {v : Int32} {ty : FieldType} (hF : FP y.1.cls idx ci f false ty) (hk : kd t = .inl (ci, fl)) (hb : fl[f]? = some false) (hn : narrow ty (.int v) = .int v) (hfit : fits ty (.int v) = true) (d : decode y.2.1 pc = .ok (.putfield idx, 3))
    (kk : J l w y (pc + 3) ls st (wr S t f v) R X) : J l w y pc ls (.int v :: .ref (w.2.1 + t) :: st) S R X := fun b h => g_putI hF hk hb (kd_lt hk) hn hfit d (kk b h)
-- arrays
theorem arc_0 {i m : Nat} : arc w S ρ i 0 m = (m, .inl (S.1 i)) := rfl
theorem arc_1 {i m : Nat} : arc w S ρ i 1 m = (m, .inl (S.1 i)) := rfl
theorem arc_2 {i m : Nat} : arc w S ρ i 2 m = (m, .inr (.inl (S.2 i))) := rfl
theorem arc_3 {i m t : Nat} : arc w S ρ i (t + 3) m = (m, .inr (.inr (.inr (.inr (fun j => (ρ i j).map (fun q => w.2.1 + q)))))) := rfl
theorem g_iald {t m : Nat} {i : Int32} (hk : kd t = .inr (0, m)) (ht : t < n) (hi : inb i m = true) (d : decode y.2.1 pc = .ok (.iaload, 1))
    (kk : G l w y (pc + 1) ls (.int (rd S t (ix i)) :: st) (n, ρ, S, k, z) P' r) : G l w y pc ls (.int i :: .ref (w.2.1 + t) :: st) (n, ρ, S, k, z) P' r := by
  intro p e s m' args below meth c H locs Ls C hR hS hl
  exact va_iald (f := S.1 t) C.1 C.2.1 C.2.2.2.2.2.2.2.2.1.1 hR.1 t 0 (by rw [wls_at ht, cel_a hk, arc_0]) rfl (inb_in hi) d (kk p e s m' args below meth c H locs Ls C hR hS hl)
theorem g_zald {t m : Nat} {i : Int32} (hk : kd t = .inr (1, m)) (ht : t < n) (hi : inb i m = true) (d : decode y.2.1 pc = .ok (.baload, 1))
    (kk : G l w y (pc + 1) ls (.int (rd S t (ix i)) :: st) (n, ρ, S, k, z) P' r) : G l w y pc ls (.int i :: .ref (w.2.1 + t) :: st) (n, ρ, S, k, z) P' r := by
  intro p e s m' args below meth c H locs Ls C hR hS hl
  exact va_zald (f := S.1 t) C.1 C.2.1 C.2.2.2.2.2.2.2.2.1.1 hR.1 t 1 (by rw [wls_at ht, cel_a hk, arc_1]) rfl (inb_in hi) d (kk p e s m' args below meth c H locs Ls C hR hS hl)
theorem g_lald {t m : Nat} {i : Int32} (hk : kd t = .inr (2, m)) (ht : t < n) (hi : inb i m = true) (d : decode y.2.1 pc = .ok (.laload, 1))
    (kk : G l w y (pc + 1) ls (.long (rdL S t (ix i)) :: st) (n, ρ, S, k, z) P' r) : G l w y pc ls (.int i :: .ref (w.2.1 + t) :: st) (n, ρ, S, k, z) P' r := by
  intro p e s m' args below meth c H locs Ls C hR hS hl
  exact va_lald (f := S.2 t) C.1 C.2.1 C.2.2.2.2.2.2.2.2.1.1 hR.1 t 2 (by rw [wls_at ht, cel_a hk, arc_2]) rfl (inb_in hi) d (kk p e s m' args below meth c H locs Ls C hR hS hl)
theorem g_aald {t m tt j : Nat} {i : Int32} {CC : String} (hk : kd t = .inr (tt + 3, m)) (ht : t < n) (hi : inb i m = true) (hty : (tys w)[tt + 3]? = some (w.2.2 (tt + 3), .object CC)) (hj : ρ t (ix i) = some j) (d : decode y.2.1 pc = .ok (.aaload, 1))
    (kk : G l w y (pc + 1) ls (.ref (w.2.1 + j) :: st) (n, ρ, S, k, z) P' r) : G l w y pc ls (.int i :: .ref (w.2.1 + t) :: st) (n, ρ, S, k, z) P' r := by
  intro p e s m' args below meth c H locs Ls C hR hS hl
  refine va_aldq C.1 C.2.1 C.2.2.2.2.2.2.2.2.1.1 hR.1 t (tt + 3) (by rw [wls_at ht, cel_a hk, arc_3]) hty (inb_in hi) d ?_
  have e1 : va_rf ((ρ t i.toNatClampNeg).map (fun q => w.2.1 + q)) = .ref (w.2.1 + j) := by
    have : ρ t i.toNatClampNeg = some j := hj
    rw [this]; rfl
  rw [e1]
  exact kk p e s m' args below meth c H locs Ls C hR hS hl
theorem upd_up2 {f : Nat → Nat → Int32} {t q : Nat} {v : Int32} : upd (f t) q v = up2 f t q v t := by
  funext j
  simp only [upd, up2, if_true]
theorem g_iast {t m : Nat} {i x : Int32} (hk : kd t = .inr (0, m)) (ht : t < n) (hi : inb i m = true) (d : decode y.2.1 pc = .ok (.iastore, 1))
    (kk : G l w y (pc + 1) ls st (n, ρ, wr S t (ix i) x, k, z) P' r) : G l w y pc ls (.int x :: .int i :: .ref (w.2.1 + t) :: st) (n, ρ, S, k, z) P' r := by
  intro p e s m' args below meth c H locs Ls C hR hS hl
  have hset : (wls w n S ρ).set t (w.2.1 + t, .inl (w.2.2 0, m, .inl (upd (S.1 t) i.toNatClampNeg x))) = wls w n (wr S t (ix i) x) ρ := by
    refine wls_set ht ?_ (fun j hj => cel_cong (by simp [wr, up2_ne hj]) rfl rfl)
    rw [cel_a hk, arc_0]
    simp only [wr, ix, upd_up2]
  refine va_iast C.1 C.2.1 C.2.2.2.2.2.2.2.2.1.1 hR.1 wls_D hS t 0 (by rw [wls_at ht, cel_a hk, arc_0]) rfl (inb_in hi) d (fun H1 locs1 hP1 _ hS1 => ?_)
  rw [hset] at hP1
  exact kk p e s m' args below meth c H1 locs1 Ls C ⟨hP1, hR.2⟩ hS1 hl
theorem g_zast {t m : Nat} {i x : Int32} (hk : kd t = .inr (1, m)) (ht : t < n) (hi : inb i m = true) (hx : vp_nar .boolean x = x) (d : decode y.2.1 pc = .ok (.bastore, 1))
    (kk : G l w y (pc + 1) ls st (n, ρ, wr S t (ix i) x, k, z) P' r) : G l w y pc ls (.int x :: .int i :: .ref (w.2.1 + t) :: st) (n, ρ, S, k, z) P' r := by
  intro p e s m' args below meth c H locs Ls C hR hS hl
  have hset : (wls w n S ρ).set t (w.2.1 + t, .inl (w.2.2 1, m, .inl (upd (S.1 t) i.toNatClampNeg (vp_nar .boolean x)))) = wls w n (wr S t (ix i) x) ρ := by
    refine wls_set ht ?_ (fun j hj => cel_cong (by simp [wr, up2_ne hj]) rfl rfl)
    rw [cel_a hk, arc_1, hx]
    simp only [wr, ix, upd_up2]
  refine va_zast C.1 C.2.1 C.2.2.2.2.2.2.2.2.1.1 hR.1 wls_D hS t 1 (by rw [wls_at ht, cel_a hk, arc_1]) rfl (inb_in hi) d (fun H1 locs1 hP1 _ hS1 => ?_)
  rw [hset] at hP1
  exact kk p e s m' args below meth c H1 locs1 Ls C ⟨hP1, hR.2⟩ hS1 hl
theorem updL_up2 {f : Nat → Nat → Int64} {t q : Nat} {v : Int64} : vp_updL (f t) q v = up2 f t q v t := by
  funext j
  simp only [vp_updL, up2, if_true]
theorem g_last {t m : Nat} {i : Int32} {x : Int64} (hk : kd t = .inr (2, m)) (ht : t < n) (hi : inb i m = true) (d : decode y.2.1 pc = .ok (.lastore, 1))
    (kk : G l w y (pc + 1) ls st (n, ρ, wrL S t (ix i) x, k, z) P' r) : G l w y pc ls (.long x :: .int i :: .ref (w.2.1 + t) :: st) (n, ρ, S, k, z) P' r := by
  intro p e s m' args below meth c H locs Ls C hR hS hl
  have hset : (wls w n S ρ).set t (w.2.1 + t, .inl (w.2.2 2, m, .inr (.inl (vp_updL (S.2 t) i.toNatClampNeg x)))) = wls w n (wrL S t (ix i) x) ρ := by
    refine wls_set ht ?_ (fun j hj => cel_cong rfl (by simp [wrL, up2_ne hj]) rfl)
    rw [cel_a hk, arc_2]
    simp only [wrL, ix, updL_up2]
  refine va_last C.1 C.2.1 C.2.2.2.2.2.2.2.2.1.1 hR.1 wls_D hS t 2 (by rw [wls_at ht, cel_a hk, arc_2]) rfl (inb_in hi) d (fun H1 locs1 hP1 _ hS1 => ?_)
  rw [hset] at hP1
  exact kk p e s m' args below meth c H1 locs1 Ls C ⟨hP1, hR.2⟩ hS1 hl
end Heap
end
section
theorem vp_nar_b2i (q : Bool) : vp_nar .boolean (b2i q) = b2i q := by cases q <;> rfl
theorem nar_b2i (q : Bool) : narrow .boolean (.int (b2i q)) = .int (b2i q) := by cases q <;> rfl
def cpok (sp dp n : Int32) (n0 n1 : Nat) : Bool := decide (¬ sp < 0) && decide (¬ dp < 0) && decide (¬ n < 0) && decide (ix sp + ix n ≤ n0) && decide (ix dp + ix n ≤ n1)
/-- a call's words with the receiver's class -/
def CV (own : String) (idx na ci : Nat) (y' : MI) : Prop := CWV own idx na y' ∧ (∃ (TT : u_T) (NT : Nat), vwCl[ci]? = some (y'.1.cls, TT, NT)) ∧ y'.2.2.2.2.cells = 0 ∧ y'.2.2.2.2.slots = 0
def CS (own : String) (idx na : Nat) (y' : MI) : Prop := CWS own idx na y' ∧ y'.2.2.2.2.cells = 0 ∧ y'.2.2.2.2.slots = 0
def CN (own : String) (idx na : Nat) (y' : MI) (host : String) : Prop := CWN own idx na y' host ∧ Cond.static y'.1 ∈ gw ∧ y'.2.2.2.2.cells = 0 ∧ y'.2.2.2.2.slots = 0
section JRules
variable {l : Launch} {w : Wd} {y y' : MI} {pc idx na ci t : Nat} {ls : List (Nat × Value)} {st : List Value} {β : Type} {R : β → Option Value × St} {X : Option β} {S S' : St} {fl : List Bool} {As : List Value} {host : String}
theorem chk {q : Bool} {A : Option β} {b : β} (h : (if q = true then A else none) = some b) : q = true ∧ A = some b := by
  by_cases hq : q = true
  · rw [if_pos hq] at h; exact ⟨hq, h⟩
  · rw [if_neg hq] at h; cases h
theorem bnd {γ : Type} {F : Option γ} {K : γ → Option β} {b : β} (h : F.bind K = some b) : ∃ c, F = some c ∧ K c = some b := by
  cases F with
  | none => cases h
  | some c => exact ⟨c, rfl, h⟩
theorem j_idiv {x v : Int32} {A : Option β} (d : decode y.2.1 pc = .ok (.idiv, 1)) (kk : ¬ v = 0 → J l w y (pc + 1) ls (.int (x / v) :: st) S R A) : J l w y pc ls (.int v :: .int x :: st) S R (if v = 0 then none else A) := by
  intro b h
  by_cases hv : v = 0
  · rw [if_pos hv] at h; cases h
  · rw [if_neg hv] at h; exact g_idivL d hv (kk hv b h)
theorem j_irem {x v : Int32} {A : Option β} (d : decode y.2.1 pc = .ok (.irem, 1)) (kk : ¬ v = 0 → J l w y (pc + 1) ls (.int (x - x / v * v) :: st) S R A) : J l w y pc ls (.int v :: .int x :: st) S R (if v = 0 then none else A) := by
  intro b h
  by_cases hv : v = 0
  · rw [if_pos hv] at h; cases h
  · rw [if_neg hv] at h; exact g_iremL d hv (kk hv b h)
theorem j_iret {v : Int32} {b : β} (hr : y.2.2.2.1 = some .int) (d : decode y.2.1 pc = .ok (.ireturn, 1)) (hb : R b = (some (.int v), S)) : J l w y pc ls [.int v] S R (some b) := by
  intro b' h p e s m args below meth c H locs Ls C hR hS hl
  cases h
  rw [hb]
  exact W.iret (v := v) C.1 C.2.1 (C.2.2.2.2.2.1.trans hr) (fun t ht hW => ⟨rfl, by rw [ht]; exact hR.1, KK.warm hW C.2.2.2.2.2.2.2.2.1, hS.F ht⟩) hS.2.2 d C.2.2.2.2.2.2.1
theorem j_zret {v : Int32} {b : β} {q : Bool} (hv : v = b2i q) (hr : y.2.2.2.1 = some .boolean) (d : decode y.2.1 pc = .ok (.ireturn, 1)) (hb : R b = (some (.int (b2i q)), S)) : J l w y pc ls [.int v] S R (some b) := by
  subst hv
  intro b' h p e s m args below meth c H locs Ls C hR hS hl
  cases h
  rw [hb]
  exact W.zret (v := b2i q) C.1 C.2.1 (C.2.2.2.2.2.1.trans hr) (nar_b2i q) (fun t ht hW => ⟨rfl, by rw [ht]; exact hR.1, KK.warm hW C.2.2.2.2.2.2.2.2.1, hS.F ht⟩) hS.2.2 d C.2.2.2.2.2.2.1
theorem j_lret {v : Int64} {b : β} (hr : y.2.2.2.1 = some .long) (d : decode y.2.1 pc = .ok (.lreturn, 1)) (hb : R b = (some (.long v), S)) : J l w y pc ls [.long v] S R (some b) := by
  intro b' h p e s m args below meth c H locs Ls C hR hS hl
  cases h
  rw [hb]
  exact W.lret (v := v) C.1 C.2.1 (C.2.2.2.2.2.1.trans hr) (fun t ht hW => ⟨rfl, by rw [ht]; exact hR.1, KK.warm hW C.2.2.2.2.2.2.2.2.1, hS.F ht⟩) hS.2.2 d C.2.2.2.2.2.2.1
theorem j_vret {b : β} (hr : y.2.2.2.1 = none) (d : decode y.2.1 pc = .ok (.return_, 1)) (hb : R b = (none, S)) : J l w y pc ls [] S R (some b) := by
  intro b' h p e s m args below meth c H locs Ls C hR hS hl
  cases h
  rw [hb]
  exact W.vret C.1 C.2.1 (C.2.2.2.2.2.1.trans hr) (fun t ht hW => ⟨rfl, by rw [ht]; exact hR.1, KK.warm hW C.2.2.2.2.2.2.2.2.1, hS.F ht⟩) hS.2.2 d C.2.2.2.2.2.2.1
theorem j_cpI {i j n0 n1 : Nat} {sp dp n : Int32} {A : Option β} (hm : Cond.methodLink y.1.cls idx arraycopyName ∈ gw) (hnat : Cond.native arraycopyName ∈ gw) (hstat : Cond.static arraycopyName ∈ gw) (hini : Cond.initialized "java/lang/System" ∈ gw) (hi : kd i = .inr (0, n0)) (hj : kd j = .inr (0, n1)) (hij : i < NN ∧ j < NN) (hfr : 1 ≤ y.2.2.2.2.frames) (hlo : (st.map fun v => v.category).sum + (nativeFrameWords "java/lang/System" "arraycopy" 5 + 11) ≤ y.2.2.2.2.locals) (d : decode y.2.1 pc = .ok (.invokestatic idx, 3))
    (kk : J l w y (pc + 3) ls st (cpI S i j (ix sp) (ix dp) (ix n)) R A) : J l w y pc ls (.int n :: .int dp :: .ref (w.2.1 + j) :: .int sp :: .ref (w.2.1 + i) :: st) S R (if cpok sp dp n n0 n1 = true then A else none) := by
  intro b hb p e s m args below meth c H locs Ls C hR hS hl
  obtain ⟨hq, hb⟩ := chk hb
  simp only [cpok, Bool.and_eq_true, decide_eq_true_eq] at hq
  obtain ⟨⟨⟨⟨q1, q2⟩, q3⟩, q4⟩, q5⟩ := hq
  refine va_copyi (f := S.1 i) (g := S.1 j) (ty := .int) C.1 C.2.1 (C.2.2.1.trans hl.1.symm) C.2.2.2.1 (C.2.2.2.2.1 _ hm) (C.2.2.2.2.1 _ hnat) (C.2.2.2.2.1 _ hstat) (C.2.2.2.2.1 _ hini) C.2.2.2.2.2.2.2.2.1.1 hR.1 wls_D hS i j 0 0 (by rw [wls_at hij.1, cel_a hi]; rfl) (by rw [wls_at hij.2, cel_a hj]; rfl) rfl rfl rfl q1 q2 q3 q4 q5 (fun _ _ => rfl) hfr hlo d (fun H1 locs1 hP1 _ hS1 => ?_)
  have hset : (wls w NN S rho).set j (w.2.1 + j, .inl (w.2.2 0, n1, .inl (va_cpy (S.1 i) (S.1 j) sp.toNatClampNeg dp.toNatClampNeg n.toNatClampNeg))) = wls w NN (cpI S i j (ix sp) (ix dp) (ix n)) rho := by
    refine wls_set hij.2 ?_ (fun q hq => cel_cong (by simp [cpI, upA_ne hq]) rfl rfl)
    rw [cel_a hj, arc_0]
    simp only [cpI, ix, upA_eq]
  rw [hset] at hP1
  exact kk b hb p e s m args below meth c H1 locs1 Ls C ⟨hP1, hR.2⟩ hS1 hl
theorem j_cpL {i j n0 n1 : Nat} {sp dp n : Int32} {A : Option β} (hm : Cond.methodLink y.1.cls idx arraycopyName ∈ gw) (hnat : Cond.native arraycopyName ∈ gw) (hstat : Cond.static arraycopyName ∈ gw) (hini : Cond.initialized "java/lang/System" ∈ gw) (hi : kd i = .inr (2, n0)) (hj : kd j = .inr (2, n1)) (hij : i < NN ∧ j < NN) (hfr : 1 ≤ y.2.2.2.2.frames) (hlo : (st.map fun v => v.category).sum + (nativeFrameWords "java/lang/System" "arraycopy" 5 + 11) ≤ y.2.2.2.2.locals) (d : decode y.2.1 pc = .ok (.invokestatic idx, 3))
    (kk : J l w y (pc + 3) ls st (cpL S i j (ix sp) (ix dp) (ix n)) R A) : J l w y pc ls (.int n :: .int dp :: .ref (w.2.1 + j) :: .int sp :: .ref (w.2.1 + i) :: st) S R (if cpok sp dp n n0 n1 = true then A else none) := by
  intro b hb p e s m args below meth c H locs Ls C hR hS hl
  obtain ⟨hq, hb⟩ := chk hb
  simp only [cpok, Bool.and_eq_true, decide_eq_true_eq] at hq
  obtain ⟨⟨⟨⟨q1, q2⟩, q3⟩, q4⟩, q5⟩ := hq
  refine va_copyl (f := S.2 i) (g := S.2 j) (ty := .long) C.1 C.2.1 (C.2.2.1.trans hl.1.symm) C.2.2.2.1 (C.2.2.2.2.1 _ hm) (C.2.2.2.2.1 _ hnat) (C.2.2.2.2.1 _ hstat) (C.2.2.2.2.1 _ hini) C.2.2.2.2.2.2.2.2.1.1 hR.1 wls_D hS i j 2 2 (by rw [wls_at hij.1, cel_a hi]; rfl) (by rw [wls_at hij.2, cel_a hj]; rfl) rfl rfl rfl q1 q2 q3 q4 q5 (fun _ _ => rfl) hfr hlo d (fun H1 locs1 hP1 _ hS1 => ?_)
  have hset : (wls w NN S rho).set j (w.2.1 + j, .inl (w.2.2 2, n1, .inr (.inl (va_cpy (S.2 i) (S.2 j) sp.toNatClampNeg dp.toNatClampNeg n.toNatClampNeg)))) = wls w NN (cpL S i j (ix sp) (ix dp) (ix n)) rho := by
    refine wls_set hij.2 ?_ (fun q hq => cel_cong rfl (by simp [cpL, upA_ne hq]) rfl)
    rw [cel_a hj, arc_2]
    simp only [cpL, ix, upA_eq]
  rw [hset] at hP1
  exact kk b hb p e s m args below meth c H1 locs1 Ls C ⟨hP1, hR.2⟩ hS1 hl
theorem j_aret {v : Value} {b : β} {rt : FieldType} (hr : y.2.2.2.1 = some rt) (d : decode y.2.1 pc = .ok (.areturn, 1)) (hrt : (∃ n, rt = .object n) ∨ ∃ t, rt = .array t) (hv : v = .null ∨ ∃ a, v = .ref a) (hb : R b = (some v, S)) : J l w y pc ls [v] S R (some b) := by
  intro b' h p e s m args below meth c H locs Ls C hR hS hl
  cases h
  rw [hb]
  exact W.aret (v := v) C.1 C.2.1 (C.2.2.2.2.2.1.trans hr) hrt hv (fun t ht hW => ⟨rfl, by rw [ht]; exact hR.1, KK.warm hW C.2.2.2.2.2.2.2.2.1, hS.F ht⟩) hS.2.2 d C.2.2.2.2.2.2.1

theorem j_iald {m : Nat} {i : Int32} {A : Option β} (hk : kd t = .inr (0, m)) (d : decode y.2.1 pc = .ok (.iaload, 1)) (kk : inb i m = true → J l w y (pc + 1) ls (.int (rd S t (ix i)) :: st) S R A) : J l w y pc ls (.int i :: .ref (w.2.1 + t) :: st) S R (if inb i m = true then A else none) := fun b h => g_iald hk (kd_ltA hk (inb_lt (chk h).1)) (chk h).1 d (kk (chk h).1 b (chk h).2)
theorem j_ialdL {m : Nat} {i : Int32} (hk : kd t = .inr (0, m)) (hi : inb i m = true) (d : decode y.2.1 pc = .ok (.iaload, 1)) (kk : J l w y (pc + 1) ls (.int (rd S t (ix i)) :: st) S R X) : J l w y pc ls (.int i :: .ref (w.2.1 + t) :: st) S R X := fun b h => g_iald hk (kd_ltA hk (inb_lt hi)) hi d (kk b h)
theorem j_zald {m : Nat} {i : Int32} {A : Option β} (hk : kd t = .inr (1, m)) (d : decode y.2.1 pc = .ok (.baload, 1)) (kk : inb i m = true → J l w y (pc + 1) ls (.int (rd S t (ix i)) :: st) S R A) : J l w y pc ls (.int i :: .ref (w.2.1 + t) :: st) S R (if inb i m = true then A else none) := fun b h => g_zald hk (kd_ltA hk (inb_lt (chk h).1)) (chk h).1 d (kk (chk h).1 b (chk h).2)
theorem j_zaldL {m : Nat} {i : Int32} (hk : kd t = .inr (1, m)) (hi : inb i m = true) (d : decode y.2.1 pc = .ok (.baload, 1)) (kk : J l w y (pc + 1) ls (.int (rd S t (ix i)) :: st) S R X) : J l w y pc ls (.int i :: .ref (w.2.1 + t) :: st) S R X := fun b h => g_zald hk (kd_ltA hk (inb_lt hi)) hi d (kk b h)
theorem j_lald {m : Nat} {i : Int32} {A : Option β} (hk : kd t = .inr (2, m)) (d : decode y.2.1 pc = .ok (.laload, 1)) (kk : inb i m = true → J l w y (pc + 1) ls (.long (rdL S t (ix i)) :: st) S R A) : J l w y pc ls (.int i :: .ref (w.2.1 + t) :: st) S R (if inb i m = true then A else none) := fun b h => g_lald hk (kd_ltA hk (inb_lt (chk h).1)) (chk h).1 d (kk (chk h).1 b (chk h).2)
theorem j_laldL {m : Nat} {i : Int32} (hk : kd t = .inr (2, m)) (hi : inb i m = true) (d : decode y.2.1 pc = .ok (.laload, 1)) (kk : J l w y (pc + 1) ls (.long (rdL S t (ix i)) :: st) S R X) : J l w y pc ls (.int i :: .ref (w.2.1 + t) :: st) S R X := fun b h => g_lald hk (kd_ltA hk (inb_lt hi)) hi d (kk b h)
theorem j_aald {m tt j : Nat} {i : Int32} {A : Option β} {CC : String} (hk : kd t = .inr (tt + 3, m)) (hty : (tys w)[tt + 3]? = some (w.2.2 (tt + 3), .object CC)) (hj : rho t (ix i) = some j) (d : decode y.2.1 pc = .ok (.aaload, 1)) (kk : inb i m = true → J l w y (pc + 1) ls (.ref (w.2.1 + j) :: st) S R A) : J l w y pc ls (.int i :: .ref (w.2.1 + t) :: st) S R (if inb i m = true then A else none) := fun b h => g_aald hk (kd_ltA hk (inb_lt (chk h).1)) (chk h).1 hty hj d (kk (chk h).1 b (chk h).2)
theorem j_iast {m : Nat} {i : Int32} {x : Int32} {A : Option β} (hk : kd t = .inr (0, m)) (d : decode y.2.1 pc = .ok (.iastore, 1)) (kk : inb i m = true → J l w y (pc + 1) ls st (wr S t (ix i) x) R A) : J l w y pc ls (.int x :: .int i :: .ref (w.2.1 + t) :: st) S R (if inb i m = true then A else none) := fun b h => g_iast hk (kd_ltA hk (inb_lt (chk h).1)) (chk h).1 d (kk (chk h).1 b (chk h).2)
theorem j_iastL {m : Nat} {i : Int32} {x : Int32} (hk : kd t = .inr (0, m)) (hi : inb i m = true) (d : decode y.2.1 pc = .ok (.iastore, 1)) (kk : J l w y (pc + 1) ls st (wr S t (ix i) x) R X) : J l w y pc ls (.int x :: .int i :: .ref (w.2.1 + t) :: st) S R X := fun b h => g_iast hk (kd_ltA hk (inb_lt hi)) hi d (kk b h)
theorem j_zast {m : Nat} {i : Int32} {x : Int32} {A : Option β} (hk : kd t = .inr (1, m)) (hx : vp_nar .boolean x = x) (d : decode y.2.1 pc = .ok (.bastore, 1)) (kk : inb i m = true → J l w y (pc + 1) ls st (wr S t (ix i) x) R A) : J l w y pc ls (.int x :: .int i :: .ref (w.2.1 + t) :: st) S R (if inb i m = true then A else none) := fun b h => g_zast hk (kd_ltA hk (inb_lt (chk h).1)) (chk h).1 hx d (kk (chk h).1 b (chk h).2)
theorem j_zastL {m : Nat} {i : Int32} {x : Int32} (hk : kd t = .inr (1, m)) (hi : inb i m = true) (hx : vp_nar .boolean x = x) (d : decode y.2.1 pc = .ok (.bastore, 1)) (kk : J l w y (pc + 1) ls st (wr S t (ix i) x) R X) : J l w y pc ls (.int x :: .int i :: .ref (w.2.1 + t) :: st) S R X := fun b h => g_zast hk (kd_ltA hk (inb_lt hi)) hi hx d (kk b h)
theorem j_last {m : Nat} {i : Int32} {x : Int64} {A : Option β} (hk : kd t = .inr (2, m)) (d : decode y.2.1 pc = .ok (.lastore, 1)) (kk : inb i m = true → J l w y (pc + 1) ls st (wrL S t (ix i) x) R A) : J l w y pc ls (.long x :: .int i :: .ref (w.2.1 + t) :: st) S R (if inb i m = true then A else none) := fun b h => g_last hk (kd_ltA hk (inb_lt (chk h).1)) (chk h).1 d (kk (chk h).1 b (chk h).2)
theorem j_lastL {m : Nat} {i : Int32} {x : Int64} (hk : kd t = .inr (2, m)) (hi : inb i m = true) (d : decode y.2.1 pc = .ok (.lastore, 1)) (kk : J l w y (pc + 1) ls st (wrL S t (ix i) x) R X) : J l w y pc ls (.long x :: .int i :: .ref (w.2.1 + t) :: st) S R X := fun b h => g_last hk (kd_ltA hk (inb_lt hi)) hi d (kk b h)
theorem j_callViT {v : Int32} (hc : CV y.1.cls idx na ci y') (hM : RM y y') (hk : kd t = .inl (ci, fl)) (hn : As.length = na) (hst : (st.map fun v => v.category).sum ≤ 8) (d : decode y.2.1 pc = .ok (.invokevirtual idx, 3)) (hC : CtS l w y' (.ref (w.2.1 + t) :: As) S S' (some (.int (v)))) (kk : J l w y (pc + 3) ls (.int (v) :: st) S' R X) : J l w y pc ls (As.reverse ++ .ref (w.2.1 + t) :: st) S R X := fun b h => hc.2.1.elim fun TT hc' => hc'.elim fun NT hcl => g_callV hc.1 hM hk hcl (kd_lt hk) hc.2.2.1 hc.2.2.2 hn hst ⟨Nat.zero_le _, Nat.zero_le _⟩ (by decide) rfl d (hC) (kk b h)
theorem j_callViR {F : Option Int32} {K : Int32 → Option β} (hc : CV y.1.cls idx na ci y') (hM : RM y y') (hk : kd t = .inl (ci, fl)) (hn : As.length = na) (hst : (st.map fun v => v.category).sum ≤ 8) (d : decode y.2.1 pc = .ok (.invokevirtual idx, 3)) (hC : ∀ v, F = some v → CtS l w y' (.ref (w.2.1 + t) :: As) S S (some (.int (v)))) (kk : ∀ v, F = some v → J l w y (pc + 3) ls (.int (v) :: st) S R (K v)) : J l w y pc ls (As.reverse ++ .ref (w.2.1 + t) :: st) S R (F.bind K) := fun b h => by
  obtain ⟨v, h1, h2⟩ := bnd h
  exact hc.2.1.elim fun TT hc' => hc'.elim fun NT hcl => g_callV hc.1 hM hk hcl (kd_lt hk) hc.2.2.1 hc.2.2.2 hn hst ⟨Nat.zero_le _, Nat.zero_le _⟩ (by decide) rfl d (hC v h1) (kk v h1 b h2)
theorem j_callViS {F : Option (Int32 × St)} {K : Int32 × St → Option β} (hc : CV y.1.cls idx na ci y') (hM : RM y y') (hk : kd t = .inl (ci, fl)) (hn : As.length = na) (hst : (st.map fun v => v.category).sum ≤ 8) (d : decode y.2.1 pc = .ok (.invokevirtual idx, 3)) (hC : ∀ v, F = some v → CtS l w y' (.ref (w.2.1 + t) :: As) S v.2 (some (.int (v.1)))) (kk : ∀ v, F = some v → J l w y (pc + 3) ls (.int (v.1) :: st) v.2 R (K v)) : J l w y pc ls (As.reverse ++ .ref (w.2.1 + t) :: st) S R (F.bind K) := fun b h => by
  obtain ⟨v, h1, h2⟩ := bnd h
  exact hc.2.1.elim fun TT hc' => hc'.elim fun NT hcl => g_callV hc.1 hM hk hcl (kd_lt hk) hc.2.2.1 hc.2.2.2 hn hst ⟨Nat.zero_le _, Nat.zero_le _⟩ (by decide) rfl d (hC v h1) (kk v h1 b h2)
theorem j_callVzT {v : Bool} (hc : CV y.1.cls idx na ci y') (hM : RM y y') (hk : kd t = .inl (ci, fl)) (hn : As.length = na) (hst : (st.map fun v => v.category).sum ≤ 8) (d : decode y.2.1 pc = .ok (.invokevirtual idx, 3)) (hC : CtS l w y' (.ref (w.2.1 + t) :: As) S S' (some (.int (b2i (v))))) (kk : J l w y (pc + 3) ls (.int (b2i (v)) :: st) S' R X) : J l w y pc ls (As.reverse ++ .ref (w.2.1 + t) :: st) S R X := fun b h => hc.2.1.elim fun TT hc' => hc'.elim fun NT hcl => g_callV hc.1 hM hk hcl (kd_lt hk) hc.2.2.1 hc.2.2.2 hn hst ⟨Nat.zero_le _, Nat.zero_le _⟩ (by decide) rfl d (hC) (kk b h)
theorem j_callVzR {F : Option Bool} {K : Bool → Option β} (hc : CV y.1.cls idx na ci y') (hM : RM y y') (hk : kd t = .inl (ci, fl)) (hn : As.length = na) (hst : (st.map fun v => v.category).sum ≤ 8) (d : decode y.2.1 pc = .ok (.invokevirtual idx, 3)) (hC : ∀ v, F = some v → CtS l w y' (.ref (w.2.1 + t) :: As) S S (some (.int (b2i (v))))) (kk : ∀ v, F = some v → J l w y (pc + 3) ls (.int (b2i (v)) :: st) S R (K v)) : J l w y pc ls (As.reverse ++ .ref (w.2.1 + t) :: st) S R (F.bind K) := fun b h => by
  obtain ⟨v, h1, h2⟩ := bnd h
  exact hc.2.1.elim fun TT hc' => hc'.elim fun NT hcl => g_callV hc.1 hM hk hcl (kd_lt hk) hc.2.2.1 hc.2.2.2 hn hst ⟨Nat.zero_le _, Nat.zero_le _⟩ (by decide) rfl d (hC v h1) (kk v h1 b h2)
theorem j_callVzS {F : Option (Bool × St)} {K : Bool × St → Option β} (hc : CV y.1.cls idx na ci y') (hM : RM y y') (hk : kd t = .inl (ci, fl)) (hn : As.length = na) (hst : (st.map fun v => v.category).sum ≤ 8) (d : decode y.2.1 pc = .ok (.invokevirtual idx, 3)) (hC : ∀ v, F = some v → CtS l w y' (.ref (w.2.1 + t) :: As) S v.2 (some (.int (b2i (v.1))))) (kk : ∀ v, F = some v → J l w y (pc + 3) ls (.int (b2i (v.1)) :: st) v.2 R (K v)) : J l w y pc ls (As.reverse ++ .ref (w.2.1 + t) :: st) S R (F.bind K) := fun b h => by
  obtain ⟨v, h1, h2⟩ := bnd h
  exact hc.2.1.elim fun TT hc' => hc'.elim fun NT hcl => g_callV hc.1 hM hk hcl (kd_lt hk) hc.2.2.1 hc.2.2.2 hn hst ⟨Nat.zero_le _, Nat.zero_le _⟩ (by decide) rfl d (hC v h1) (kk v h1 b h2)
theorem j_callVlT {v : Int64} (hc : CV y.1.cls idx na ci y') (hM : RM y y') (hk : kd t = .inl (ci, fl)) (hn : As.length = na) (hst : (st.map fun v => v.category).sum ≤ 8) (d : decode y.2.1 pc = .ok (.invokevirtual idx, 3)) (hC : CtS l w y' (.ref (w.2.1 + t) :: As) S S' (some (.long (v)))) (kk : J l w y (pc + 3) ls (.long (v) :: st) S' R X) : J l w y pc ls (As.reverse ++ .ref (w.2.1 + t) :: st) S R X := fun b h => hc.2.1.elim fun TT hc' => hc'.elim fun NT hcl => g_callV hc.1 hM hk hcl (kd_lt hk) hc.2.2.1 hc.2.2.2 hn hst ⟨Nat.zero_le _, Nat.zero_le _⟩ (by decide) rfl d (hC) (kk b h)
theorem j_callVlR {F : Option Int64} {K : Int64 → Option β} (hc : CV y.1.cls idx na ci y') (hM : RM y y') (hk : kd t = .inl (ci, fl)) (hn : As.length = na) (hst : (st.map fun v => v.category).sum ≤ 8) (d : decode y.2.1 pc = .ok (.invokevirtual idx, 3)) (hC : ∀ v, F = some v → CtS l w y' (.ref (w.2.1 + t) :: As) S S (some (.long (v)))) (kk : ∀ v, F = some v → J l w y (pc + 3) ls (.long (v) :: st) S R (K v)) : J l w y pc ls (As.reverse ++ .ref (w.2.1 + t) :: st) S R (F.bind K) := fun b h => by
  obtain ⟨v, h1, h2⟩ := bnd h
  exact hc.2.1.elim fun TT hc' => hc'.elim fun NT hcl => g_callV hc.1 hM hk hcl (kd_lt hk) hc.2.2.1 hc.2.2.2 hn hst ⟨Nat.zero_le _, Nat.zero_le _⟩ (by decide) rfl d (hC v h1) (kk v h1 b h2)
theorem j_callVlS {F : Option (Int64 × St)} {K : Int64 × St → Option β} (hc : CV y.1.cls idx na ci y') (hM : RM y y') (hk : kd t = .inl (ci, fl)) (hn : As.length = na) (hst : (st.map fun v => v.category).sum ≤ 8) (d : decode y.2.1 pc = .ok (.invokevirtual idx, 3)) (hC : ∀ v, F = some v → CtS l w y' (.ref (w.2.1 + t) :: As) S v.2 (some (.long (v.1)))) (kk : ∀ v, F = some v → J l w y (pc + 3) ls (.long (v.1) :: st) v.2 R (K v)) : J l w y pc ls (As.reverse ++ .ref (w.2.1 + t) :: st) S R (F.bind K) := fun b h => by
  obtain ⟨v, h1, h2⟩ := bnd h
  exact hc.2.1.elim fun TT hc' => hc'.elim fun NT hcl => g_callV hc.1 hM hk hcl (kd_lt hk) hc.2.2.1 hc.2.2.2 hn hst ⟨Nat.zero_le _, Nat.zero_le _⟩ (by decide) rfl d (hC v h1) (kk v h1 b h2)
theorem j_callVqT {v : (Option Nat)} (hc : CV y.1.cls idx na ci y') (hM : RM y y') (hk : kd t = .inl (ci, fl)) (hn : As.length = na) (hst : (st.map fun v => v.category).sum ≤ 8) (d : decode y.2.1 pc = .ok (.invokevirtual idx, 3)) (hC : CtS l w y' (.ref (w.2.1 + t) :: As) S S' (some (va_rf ((v).map (fun j => w.2.1 + j))))) (kk : J l w y (pc + 3) ls (va_rf ((v).map (fun j => w.2.1 + j)) :: st) S' R X) : J l w y pc ls (As.reverse ++ .ref (w.2.1 + t) :: st) S R X := fun b h => hc.2.1.elim fun TT hc' => hc'.elim fun NT hcl => g_callV hc.1 hM hk hcl (kd_lt hk) hc.2.2.1 hc.2.2.2 hn hst ⟨Nat.zero_le _, Nat.zero_le _⟩ (by decide) rfl d (hC) (kk b h)
theorem j_callVqR {F : Option (Option Nat)} {K : (Option Nat) → Option β} (hc : CV y.1.cls idx na ci y') (hM : RM y y') (hk : kd t = .inl (ci, fl)) (hn : As.length = na) (hst : (st.map fun v => v.category).sum ≤ 8) (d : decode y.2.1 pc = .ok (.invokevirtual idx, 3)) (hC : ∀ v, F = some v → CtS l w y' (.ref (w.2.1 + t) :: As) S S (some (va_rf ((v).map (fun j => w.2.1 + j))))) (kk : ∀ v, F = some v → J l w y (pc + 3) ls (va_rf ((v).map (fun j => w.2.1 + j)) :: st) S R (K v)) : J l w y pc ls (As.reverse ++ .ref (w.2.1 + t) :: st) S R (F.bind K) := fun b h => by
  obtain ⟨v, h1, h2⟩ := bnd h
  exact hc.2.1.elim fun TT hc' => hc'.elim fun NT hcl => g_callV hc.1 hM hk hcl (kd_lt hk) hc.2.2.1 hc.2.2.2 hn hst ⟨Nat.zero_le _, Nat.zero_le _⟩ (by decide) rfl d (hC v h1) (kk v h1 b h2)
theorem j_callVqS {F : Option ((Option Nat) × St)} {K : (Option Nat) × St → Option β} (hc : CV y.1.cls idx na ci y') (hM : RM y y') (hk : kd t = .inl (ci, fl)) (hn : As.length = na) (hst : (st.map fun v => v.category).sum ≤ 8) (d : decode y.2.1 pc = .ok (.invokevirtual idx, 3)) (hC : ∀ v, F = some v → CtS l w y' (.ref (w.2.1 + t) :: As) S v.2 (some (va_rf ((v.1).map (fun j => w.2.1 + j))))) (kk : ∀ v, F = some v → J l w y (pc + 3) ls (va_rf ((v.1).map (fun j => w.2.1 + j)) :: st) v.2 R (K v)) : J l w y pc ls (As.reverse ++ .ref (w.2.1 + t) :: st) S R (F.bind K) := fun b h => by
  obtain ⟨v, h1, h2⟩ := bnd h
  exact hc.2.1.elim fun TT hc' => hc'.elim fun NT hcl => g_callV hc.1 hM hk hcl (kd_lt hk) hc.2.2.1 hc.2.2.2 hn hst ⟨Nat.zero_le _, Nat.zero_le _⟩ (by decide) rfl d (hC v h1) (kk v h1 b h2)
theorem j_callVvT (hc : CV y.1.cls idx na ci y') (hM : RM y y') (hk : kd t = .inl (ci, fl)) (hn : As.length = na) (hst : (st.map fun v => v.category).sum ≤ 8) (d : decode y.2.1 pc = .ok (.invokevirtual idx, 3)) (hC : CtS l w y' (.ref (w.2.1 + t) :: As) S S' none) (kk : J l w y (pc + 3) ls st S' R X) : J l w y pc ls (As.reverse ++ .ref (w.2.1 + t) :: st) S R X := fun b h => hc.2.1.elim fun TT hc' => hc'.elim fun NT hcl => g_callV hc.1 hM hk hcl (kd_lt hk) hc.2.2.1 hc.2.2.2 hn hst ⟨Nat.zero_le _, Nat.zero_le _⟩ (by decide) rfl d (hC) (kk b h)
theorem j_callVvS {F : Option St} {K : St → Option β} (hc : CV y.1.cls idx na ci y') (hM : RM y y') (hk : kd t = .inl (ci, fl)) (hn : As.length = na) (hst : (st.map fun v => v.category).sum ≤ 8) (d : decode y.2.1 pc = .ok (.invokevirtual idx, 3)) (hC : ∀ v, F = some v → CtS l w y' (.ref (w.2.1 + t) :: As) S v none) (kk : ∀ v, F = some v → J l w y (pc + 3) ls st v R (K v)) : J l w y pc ls (As.reverse ++ .ref (w.2.1 + t) :: st) S R (F.bind K) := fun b h => by
  obtain ⟨v, h1, h2⟩ := bnd h
  exact hc.2.1.elim fun TT hc' => hc'.elim fun NT hcl => g_callV hc.1 hM hk hcl (kd_lt hk) hc.2.2.1 hc.2.2.2 hn hst ⟨Nat.zero_le _, Nat.zero_le _⟩ (by decide) rfl d (hC v h1) (kk v h1 b h2)
theorem j_callSiT {v : Int32} (hc : CS y.1.cls idx na y') (hM : RM y y') (hn : As.length = na) (hst : (st.map fun v => v.category).sum ≤ 8) (d : decode y.2.1 pc = .ok (.invokestatic idx, 3)) (hC : CtS l w y' As S S' (some (.int (v)))) (kk : J l w y (pc + 3) ls (.int (v) :: st) S' R X) : J l w y pc ls (As.reverse ++ st) S R X := fun b h => g_callS hc.1 hM hc.2.1 hc.2.2 hn hst ⟨Nat.zero_le _, Nat.zero_le _⟩ (by decide) rfl d (hC) (kk b h)
theorem j_callSiR {F : Option Int32} {K : Int32 → Option β} (hc : CS y.1.cls idx na y') (hM : RM y y') (hn : As.length = na) (hst : (st.map fun v => v.category).sum ≤ 8) (d : decode y.2.1 pc = .ok (.invokestatic idx, 3)) (hC : ∀ v, F = some v → CtS l w y' As S S (some (.int (v)))) (kk : ∀ v, F = some v → J l w y (pc + 3) ls (.int (v) :: st) S R (K v)) : J l w y pc ls (As.reverse ++ st) S R (F.bind K) := fun b h => by
  obtain ⟨v, h1, h2⟩ := bnd h
  exact g_callS hc.1 hM hc.2.1 hc.2.2 hn hst ⟨Nat.zero_le _, Nat.zero_le _⟩ (by decide) rfl d (hC v h1) (kk v h1 b h2)
theorem j_callSiS {F : Option (Int32 × St)} {K : Int32 × St → Option β} (hc : CS y.1.cls idx na y') (hM : RM y y') (hn : As.length = na) (hst : (st.map fun v => v.category).sum ≤ 8) (d : decode y.2.1 pc = .ok (.invokestatic idx, 3)) (hC : ∀ v, F = some v → CtS l w y' As S v.2 (some (.int (v.1)))) (kk : ∀ v, F = some v → J l w y (pc + 3) ls (.int (v.1) :: st) v.2 R (K v)) : J l w y pc ls (As.reverse ++ st) S R (F.bind K) := fun b h => by
  obtain ⟨v, h1, h2⟩ := bnd h
  exact g_callS hc.1 hM hc.2.1 hc.2.2 hn hst ⟨Nat.zero_le _, Nat.zero_le _⟩ (by decide) rfl d (hC v h1) (kk v h1 b h2)
theorem j_callSzT {v : Bool} (hc : CS y.1.cls idx na y') (hM : RM y y') (hn : As.length = na) (hst : (st.map fun v => v.category).sum ≤ 8) (d : decode y.2.1 pc = .ok (.invokestatic idx, 3)) (hC : CtS l w y' As S S' (some (.int (b2i (v))))) (kk : J l w y (pc + 3) ls (.int (b2i (v)) :: st) S' R X) : J l w y pc ls (As.reverse ++ st) S R X := fun b h => g_callS hc.1 hM hc.2.1 hc.2.2 hn hst ⟨Nat.zero_le _, Nat.zero_le _⟩ (by decide) rfl d (hC) (kk b h)
theorem j_callSzR {F : Option Bool} {K : Bool → Option β} (hc : CS y.1.cls idx na y') (hM : RM y y') (hn : As.length = na) (hst : (st.map fun v => v.category).sum ≤ 8) (d : decode y.2.1 pc = .ok (.invokestatic idx, 3)) (hC : ∀ v, F = some v → CtS l w y' As S S (some (.int (b2i (v))))) (kk : ∀ v, F = some v → J l w y (pc + 3) ls (.int (b2i (v)) :: st) S R (K v)) : J l w y pc ls (As.reverse ++ st) S R (F.bind K) := fun b h => by
  obtain ⟨v, h1, h2⟩ := bnd h
  exact g_callS hc.1 hM hc.2.1 hc.2.2 hn hst ⟨Nat.zero_le _, Nat.zero_le _⟩ (by decide) rfl d (hC v h1) (kk v h1 b h2)
theorem j_callSzS {F : Option (Bool × St)} {K : Bool × St → Option β} (hc : CS y.1.cls idx na y') (hM : RM y y') (hn : As.length = na) (hst : (st.map fun v => v.category).sum ≤ 8) (d : decode y.2.1 pc = .ok (.invokestatic idx, 3)) (hC : ∀ v, F = some v → CtS l w y' As S v.2 (some (.int (b2i (v.1))))) (kk : ∀ v, F = some v → J l w y (pc + 3) ls (.int (b2i (v.1)) :: st) v.2 R (K v)) : J l w y pc ls (As.reverse ++ st) S R (F.bind K) := fun b h => by
  obtain ⟨v, h1, h2⟩ := bnd h
  exact g_callS hc.1 hM hc.2.1 hc.2.2 hn hst ⟨Nat.zero_le _, Nat.zero_le _⟩ (by decide) rfl d (hC v h1) (kk v h1 b h2)
theorem j_callSlT {v : Int64} (hc : CS y.1.cls idx na y') (hM : RM y y') (hn : As.length = na) (hst : (st.map fun v => v.category).sum ≤ 8) (d : decode y.2.1 pc = .ok (.invokestatic idx, 3)) (hC : CtS l w y' As S S' (some (.long (v)))) (kk : J l w y (pc + 3) ls (.long (v) :: st) S' R X) : J l w y pc ls (As.reverse ++ st) S R X := fun b h => g_callS hc.1 hM hc.2.1 hc.2.2 hn hst ⟨Nat.zero_le _, Nat.zero_le _⟩ (by decide) rfl d (hC) (kk b h)
theorem j_callSlR {F : Option Int64} {K : Int64 → Option β} (hc : CS y.1.cls idx na y') (hM : RM y y') (hn : As.length = na) (hst : (st.map fun v => v.category).sum ≤ 8) (d : decode y.2.1 pc = .ok (.invokestatic idx, 3)) (hC : ∀ v, F = some v → CtS l w y' As S S (some (.long (v)))) (kk : ∀ v, F = some v → J l w y (pc + 3) ls (.long (v) :: st) S R (K v)) : J l w y pc ls (As.reverse ++ st) S R (F.bind K) := fun b h => by
  obtain ⟨v, h1, h2⟩ := bnd h
  exact g_callS hc.1 hM hc.2.1 hc.2.2 hn hst ⟨Nat.zero_le _, Nat.zero_le _⟩ (by decide) rfl d (hC v h1) (kk v h1 b h2)
theorem j_callSlS {F : Option (Int64 × St)} {K : Int64 × St → Option β} (hc : CS y.1.cls idx na y') (hM : RM y y') (hn : As.length = na) (hst : (st.map fun v => v.category).sum ≤ 8) (d : decode y.2.1 pc = .ok (.invokestatic idx, 3)) (hC : ∀ v, F = some v → CtS l w y' As S v.2 (some (.long (v.1)))) (kk : ∀ v, F = some v → J l w y (pc + 3) ls (.long (v.1) :: st) v.2 R (K v)) : J l w y pc ls (As.reverse ++ st) S R (F.bind K) := fun b h => by
  obtain ⟨v, h1, h2⟩ := bnd h
  exact g_callS hc.1 hM hc.2.1 hc.2.2 hn hst ⟨Nat.zero_le _, Nat.zero_le _⟩ (by decide) rfl d (hC v h1) (kk v h1 b h2)
theorem j_callSqT {v : (Option Nat)} (hc : CS y.1.cls idx na y') (hM : RM y y') (hn : As.length = na) (hst : (st.map fun v => v.category).sum ≤ 8) (d : decode y.2.1 pc = .ok (.invokestatic idx, 3)) (hC : CtS l w y' As S S' (some (va_rf ((v).map (fun j => w.2.1 + j))))) (kk : J l w y (pc + 3) ls (va_rf ((v).map (fun j => w.2.1 + j)) :: st) S' R X) : J l w y pc ls (As.reverse ++ st) S R X := fun b h => g_callS hc.1 hM hc.2.1 hc.2.2 hn hst ⟨Nat.zero_le _, Nat.zero_le _⟩ (by decide) rfl d (hC) (kk b h)
theorem j_callSqR {F : Option (Option Nat)} {K : (Option Nat) → Option β} (hc : CS y.1.cls idx na y') (hM : RM y y') (hn : As.length = na) (hst : (st.map fun v => v.category).sum ≤ 8) (d : decode y.2.1 pc = .ok (.invokestatic idx, 3)) (hC : ∀ v, F = some v → CtS l w y' As S S (some (va_rf ((v).map (fun j => w.2.1 + j))))) (kk : ∀ v, F = some v → J l w y (pc + 3) ls (va_rf ((v).map (fun j => w.2.1 + j)) :: st) S R (K v)) : J l w y pc ls (As.reverse ++ st) S R (F.bind K) := fun b h => by
  obtain ⟨v, h1, h2⟩ := bnd h
  exact g_callS hc.1 hM hc.2.1 hc.2.2 hn hst ⟨Nat.zero_le _, Nat.zero_le _⟩ (by decide) rfl d (hC v h1) (kk v h1 b h2)
theorem j_callSqS {F : Option ((Option Nat) × St)} {K : (Option Nat) × St → Option β} (hc : CS y.1.cls idx na y') (hM : RM y y') (hn : As.length = na) (hst : (st.map fun v => v.category).sum ≤ 8) (d : decode y.2.1 pc = .ok (.invokestatic idx, 3)) (hC : ∀ v, F = some v → CtS l w y' As S v.2 (some (va_rf ((v.1).map (fun j => w.2.1 + j))))) (kk : ∀ v, F = some v → J l w y (pc + 3) ls (va_rf ((v.1).map (fun j => w.2.1 + j)) :: st) v.2 R (K v)) : J l w y pc ls (As.reverse ++ st) S R (F.bind K) := fun b h => by
  obtain ⟨v, h1, h2⟩ := bnd h
  exact g_callS hc.1 hM hc.2.1 hc.2.2 hn hst ⟨Nat.zero_le _, Nat.zero_le _⟩ (by decide) rfl d (hC v h1) (kk v h1 b h2)
theorem j_callSvT (hc : CS y.1.cls idx na y') (hM : RM y y') (hn : As.length = na) (hst : (st.map fun v => v.category).sum ≤ 8) (d : decode y.2.1 pc = .ok (.invokestatic idx, 3)) (hC : CtS l w y' As S S' none) (kk : J l w y (pc + 3) ls st S' R X) : J l w y pc ls (As.reverse ++ st) S R X := fun b h => g_callS hc.1 hM hc.2.1 hc.2.2 hn hst ⟨Nat.zero_le _, Nat.zero_le _⟩ (by decide) rfl d (hC) (kk b h)
theorem j_callSvS {F : Option St} {K : St → Option β} (hc : CS y.1.cls idx na y') (hM : RM y y') (hn : As.length = na) (hst : (st.map fun v => v.category).sum ≤ 8) (d : decode y.2.1 pc = .ok (.invokestatic idx, 3)) (hC : ∀ v, F = some v → CtS l w y' As S v none) (kk : ∀ v, F = some v → J l w y (pc + 3) ls st v R (K v)) : J l w y pc ls (As.reverse ++ st) S R (F.bind K) := fun b h => by
  obtain ⟨v, h1, h2⟩ := bnd h
  exact g_callS hc.1 hM hc.2.1 hc.2.2 hn hst ⟨Nat.zero_le _, Nat.zero_le _⟩ (by decide) rfl d (hC v h1) (kk v h1 b h2)
theorem j_callNiT {v : Int32} (hc : CN y.1.cls idx na y' host) (hM : RM y y') (hn : As.length = na) (hst : (st.map fun v => v.category).sum ≤ 8) (d : decode y.2.1 pc = .ok (.invokestatic idx, 3)) (hC : CtS l w y' As S S' (some (.int (v)))) (kk : J l w y (pc + 3) ls (.int (v) :: st) S' R X) : J l w y pc ls (As.reverse ++ st) S R X := fun b h => g_callSN hc.1 hc.2.1 hM hc.2.2.1 hc.2.2.2 hn hst ⟨Nat.zero_le _, Nat.zero_le _⟩ (by decide) rfl d (hC) (kk b h)
theorem j_callNiR {F : Option Int32} {K : Int32 → Option β} (hc : CN y.1.cls idx na y' host) (hM : RM y y') (hn : As.length = na) (hst : (st.map fun v => v.category).sum ≤ 8) (d : decode y.2.1 pc = .ok (.invokestatic idx, 3)) (hC : ∀ v, F = some v → CtS l w y' As S S (some (.int (v)))) (kk : ∀ v, F = some v → J l w y (pc + 3) ls (.int (v) :: st) S R (K v)) : J l w y pc ls (As.reverse ++ st) S R (F.bind K) := fun b h => by
  obtain ⟨v, h1, h2⟩ := bnd h
  exact g_callSN hc.1 hc.2.1 hM hc.2.2.1 hc.2.2.2 hn hst ⟨Nat.zero_le _, Nat.zero_le _⟩ (by decide) rfl d (hC v h1) (kk v h1 b h2)
theorem j_callNiS {F : Option (Int32 × St)} {K : Int32 × St → Option β} (hc : CN y.1.cls idx na y' host) (hM : RM y y') (hn : As.length = na) (hst : (st.map fun v => v.category).sum ≤ 8) (d : decode y.2.1 pc = .ok (.invokestatic idx, 3)) (hC : ∀ v, F = some v → CtS l w y' As S v.2 (some (.int (v.1)))) (kk : ∀ v, F = some v → J l w y (pc + 3) ls (.int (v.1) :: st) v.2 R (K v)) : J l w y pc ls (As.reverse ++ st) S R (F.bind K) := fun b h => by
  obtain ⟨v, h1, h2⟩ := bnd h
  exact g_callSN hc.1 hc.2.1 hM hc.2.2.1 hc.2.2.2 hn hst ⟨Nat.zero_le _, Nat.zero_le _⟩ (by decide) rfl d (hC v h1) (kk v h1 b h2)
theorem j_callNzT {v : Bool} (hc : CN y.1.cls idx na y' host) (hM : RM y y') (hn : As.length = na) (hst : (st.map fun v => v.category).sum ≤ 8) (d : decode y.2.1 pc = .ok (.invokestatic idx, 3)) (hC : CtS l w y' As S S' (some (.int (b2i (v))))) (kk : J l w y (pc + 3) ls (.int (b2i (v)) :: st) S' R X) : J l w y pc ls (As.reverse ++ st) S R X := fun b h => g_callSN hc.1 hc.2.1 hM hc.2.2.1 hc.2.2.2 hn hst ⟨Nat.zero_le _, Nat.zero_le _⟩ (by decide) rfl d (hC) (kk b h)
theorem j_callNzR {F : Option Bool} {K : Bool → Option β} (hc : CN y.1.cls idx na y' host) (hM : RM y y') (hn : As.length = na) (hst : (st.map fun v => v.category).sum ≤ 8) (d : decode y.2.1 pc = .ok (.invokestatic idx, 3)) (hC : ∀ v, F = some v → CtS l w y' As S S (some (.int (b2i (v))))) (kk : ∀ v, F = some v → J l w y (pc + 3) ls (.int (b2i (v)) :: st) S R (K v)) : J l w y pc ls (As.reverse ++ st) S R (F.bind K) := fun b h => by
  obtain ⟨v, h1, h2⟩ := bnd h
  exact g_callSN hc.1 hc.2.1 hM hc.2.2.1 hc.2.2.2 hn hst ⟨Nat.zero_le _, Nat.zero_le _⟩ (by decide) rfl d (hC v h1) (kk v h1 b h2)
theorem j_callNzS {F : Option (Bool × St)} {K : Bool × St → Option β} (hc : CN y.1.cls idx na y' host) (hM : RM y y') (hn : As.length = na) (hst : (st.map fun v => v.category).sum ≤ 8) (d : decode y.2.1 pc = .ok (.invokestatic idx, 3)) (hC : ∀ v, F = some v → CtS l w y' As S v.2 (some (.int (b2i (v.1))))) (kk : ∀ v, F = some v → J l w y (pc + 3) ls (.int (b2i (v.1)) :: st) v.2 R (K v)) : J l w y pc ls (As.reverse ++ st) S R (F.bind K) := fun b h => by
  obtain ⟨v, h1, h2⟩ := bnd h
  exact g_callSN hc.1 hc.2.1 hM hc.2.2.1 hc.2.2.2 hn hst ⟨Nat.zero_le _, Nat.zero_le _⟩ (by decide) rfl d (hC v h1) (kk v h1 b h2)
theorem j_callNlT {v : Int64} (hc : CN y.1.cls idx na y' host) (hM : RM y y') (hn : As.length = na) (hst : (st.map fun v => v.category).sum ≤ 8) (d : decode y.2.1 pc = .ok (.invokestatic idx, 3)) (hC : CtS l w y' As S S' (some (.long (v)))) (kk : J l w y (pc + 3) ls (.long (v) :: st) S' R X) : J l w y pc ls (As.reverse ++ st) S R X := fun b h => g_callSN hc.1 hc.2.1 hM hc.2.2.1 hc.2.2.2 hn hst ⟨Nat.zero_le _, Nat.zero_le _⟩ (by decide) rfl d (hC) (kk b h)
theorem j_callNlR {F : Option Int64} {K : Int64 → Option β} (hc : CN y.1.cls idx na y' host) (hM : RM y y') (hn : As.length = na) (hst : (st.map fun v => v.category).sum ≤ 8) (d : decode y.2.1 pc = .ok (.invokestatic idx, 3)) (hC : ∀ v, F = some v → CtS l w y' As S S (some (.long (v)))) (kk : ∀ v, F = some v → J l w y (pc + 3) ls (.long (v) :: st) S R (K v)) : J l w y pc ls (As.reverse ++ st) S R (F.bind K) := fun b h => by
  obtain ⟨v, h1, h2⟩ := bnd h
  exact g_callSN hc.1 hc.2.1 hM hc.2.2.1 hc.2.2.2 hn hst ⟨Nat.zero_le _, Nat.zero_le _⟩ (by decide) rfl d (hC v h1) (kk v h1 b h2)
theorem j_callNlS {F : Option (Int64 × St)} {K : Int64 × St → Option β} (hc : CN y.1.cls idx na y' host) (hM : RM y y') (hn : As.length = na) (hst : (st.map fun v => v.category).sum ≤ 8) (d : decode y.2.1 pc = .ok (.invokestatic idx, 3)) (hC : ∀ v, F = some v → CtS l w y' As S v.2 (some (.long (v.1)))) (kk : ∀ v, F = some v → J l w y (pc + 3) ls (.long (v.1) :: st) v.2 R (K v)) : J l w y pc ls (As.reverse ++ st) S R (F.bind K) := fun b h => by
  obtain ⟨v, h1, h2⟩ := bnd h
  exact g_callSN hc.1 hc.2.1 hM hc.2.2.1 hc.2.2.2 hn hst ⟨Nat.zero_le _, Nat.zero_le _⟩ (by decide) rfl d (hC v h1) (kk v h1 b h2)
theorem j_callNqT {v : (Option Nat)} (hc : CN y.1.cls idx na y' host) (hM : RM y y') (hn : As.length = na) (hst : (st.map fun v => v.category).sum ≤ 8) (d : decode y.2.1 pc = .ok (.invokestatic idx, 3)) (hC : CtS l w y' As S S' (some (va_rf ((v).map (fun j => w.2.1 + j))))) (kk : J l w y (pc + 3) ls (va_rf ((v).map (fun j => w.2.1 + j)) :: st) S' R X) : J l w y pc ls (As.reverse ++ st) S R X := fun b h => g_callSN hc.1 hc.2.1 hM hc.2.2.1 hc.2.2.2 hn hst ⟨Nat.zero_le _, Nat.zero_le _⟩ (by decide) rfl d (hC) (kk b h)
theorem j_callNqR {F : Option (Option Nat)} {K : (Option Nat) → Option β} (hc : CN y.1.cls idx na y' host) (hM : RM y y') (hn : As.length = na) (hst : (st.map fun v => v.category).sum ≤ 8) (d : decode y.2.1 pc = .ok (.invokestatic idx, 3)) (hC : ∀ v, F = some v → CtS l w y' As S S (some (va_rf ((v).map (fun j => w.2.1 + j))))) (kk : ∀ v, F = some v → J l w y (pc + 3) ls (va_rf ((v).map (fun j => w.2.1 + j)) :: st) S R (K v)) : J l w y pc ls (As.reverse ++ st) S R (F.bind K) := fun b h => by
  obtain ⟨v, h1, h2⟩ := bnd h
  exact g_callSN hc.1 hc.2.1 hM hc.2.2.1 hc.2.2.2 hn hst ⟨Nat.zero_le _, Nat.zero_le _⟩ (by decide) rfl d (hC v h1) (kk v h1 b h2)
theorem j_callNqS {F : Option ((Option Nat) × St)} {K : (Option Nat) × St → Option β} (hc : CN y.1.cls idx na y' host) (hM : RM y y') (hn : As.length = na) (hst : (st.map fun v => v.category).sum ≤ 8) (d : decode y.2.1 pc = .ok (.invokestatic idx, 3)) (hC : ∀ v, F = some v → CtS l w y' As S v.2 (some (va_rf ((v.1).map (fun j => w.2.1 + j))))) (kk : ∀ v, F = some v → J l w y (pc + 3) ls (va_rf ((v.1).map (fun j => w.2.1 + j)) :: st) v.2 R (K v)) : J l w y pc ls (As.reverse ++ st) S R (F.bind K) := fun b h => by
  obtain ⟨v, h1, h2⟩ := bnd h
  exact g_callSN hc.1 hc.2.1 hM hc.2.2.1 hc.2.2.2 hn hst ⟨Nat.zero_le _, Nat.zero_le _⟩ (by decide) rfl d (hC v h1) (kk v h1 b h2)
theorem j_callNvT (hc : CN y.1.cls idx na y' host) (hM : RM y y') (hn : As.length = na) (hst : (st.map fun v => v.category).sum ≤ 8) (d : decode y.2.1 pc = .ok (.invokestatic idx, 3)) (hC : CtS l w y' As S S' none) (kk : J l w y (pc + 3) ls st S' R X) : J l w y pc ls (As.reverse ++ st) S R X := fun b h => g_callSN hc.1 hc.2.1 hM hc.2.2.1 hc.2.2.2 hn hst ⟨Nat.zero_le _, Nat.zero_le _⟩ (by decide) rfl d (hC) (kk b h)
theorem j_callNvS {F : Option St} {K : St → Option β} (hc : CN y.1.cls idx na y' host) (hM : RM y y') (hn : As.length = na) (hst : (st.map fun v => v.category).sum ≤ 8) (d : decode y.2.1 pc = .ok (.invokestatic idx, 3)) (hC : ∀ v, F = some v → CtS l w y' As S v none) (kk : ∀ v, F = some v → J l w y (pc + 3) ls st v R (K v)) : J l w y pc ls (As.reverse ++ st) S R (F.bind K) := fun b h => by
  obtain ⟨v, h1, h2⟩ := bnd h
  exact g_callSN hc.1 hc.2.1 hM hc.2.2.1 hc.2.2.2 hn hst ⟨Nat.zero_le _, Nat.zero_le _⟩ (by decide) rfl d (hC v h1) (kk v h1 b h2)
theorem j_tabIn {dflt lo hi off : Int} {offs : Array Int} {len : Nat} (tgt : Nat) {x : Int32} (d : decode y.2.1 pc = .ok (.tableswitch dflt lo hi offs, len)) (h1 : ¬ x.toInt < lo) (h2 : ¬ hi < x.toInt) (ho : offs[(x.toInt - lo).toNat]? = some off) (ht : (pc : Int) + off = (tgt : Int)) (kk : J l w y tgt ls st S R X) : J l w y pc ls (.int x :: st) S R X := fun b h p e s m args below meth c H locs Ls C hR hS hl => lv_tableIn C.1 C.2.1 d h1 h2 ho ht (kk b h p e s m args below meth c H locs Ls C hR hS hl)
theorem j_tabOut {dflt lo hi : Int} {offs : Array Int} {len : Nat} (tgt : Nat) {x : Int32} (d : decode y.2.1 pc = .ok (.tableswitch dflt lo hi offs, len)) (h1 : x.toInt < lo ∨ hi < x.toInt) (ht : (pc : Int) + dflt = (tgt : Int)) (kk : J l w y tgt ls st S R X) : J l w y pc ls (.int x :: st) S R X := fun b h p e s m args below meth c H locs Ls C hR hS hl => lv_tableOut C.1 C.2.1 d h1 ht (kk b h p e s m args below meth c H locs Ls C hR hS hl)
theorem J.ct {av : List Value} (hlen : (lg_sl av).length ≤ y.2.2.1) (hpl : plainName y.1.cls = true) (h : J l w y 0 (lv_args 0 av) [] S R X) {b : β} (hb : X = some b) : CtS l w y av S (R b).2 (R b).1 := Ct.of hlen hpl (h b hb)
theorem kd_pl1 : ∀ t, t < 125 → kd t = KdPlace → kd (t + 1) = Kints 2 := by decide +kernel
theorem kd_so1 : ∀ t, t < 125 → kd t = KdSort → kd (t + 1) = Kints 60 := by decide +kernel
theorem kd_sh1 : ∀ t, t < 125 → kd t = KdSheet → kd (t + 1) = Kints 50 := by decide +kernel
theorem kd_PlaceA {t : Nat} (h : kd t = KdPlace) : kd (t + 1) = Kints 2 := kd_pl1 t (kd_lt h) h
theorem kd_SortA {t : Nat} (h : kd t = KdSort) : kd (t + 1) = Kints 60 := kd_so1 t (kd_lt h) h
theorem kd_SheetA {t : Nat} (h : kd t = KdSheet) : kd (t + 1) = Kints 50 := kd_sh1 t (kd_lt h) h
theorem kd_Pl : ∀ i, i < 12 → kd (20 + 2 * i) = KdPlace := by decide +kernel
theorem kd_So : ∀ i, i < 6 → kd (8 + 2 * i) = KdSort := by decide +kernel
theorem kd_PlK : ∀ i, i < 12 → kd (63 + 2 * i) = KdPlace := by decide +kernel
theorem kd_SoK : ∀ i, i < 6 → kd (51 + 2 * i) = KdSort := by decide +kernel
theorem kd_Sh : ∀ i, i < 4 → kd (88 + 2 * i) = KdSheet := by decide +kernel
theorem rho_2 (k : Nat) : rho 2 k = some (8 + 2 * k) := rfl
theorem rho_3 (k : Nat) : rho 3 k = some (20 + 2 * k) := rfl
theorem rho_45 (k : Nat) : rho 45 k = some (51 + 2 * k) := rfl
theorem rho_46 (k : Nat) : rho 46 k = some (63 + 2 * k) := rfl
theorem rho_87 (k : Nat) : rho 87 k = some (88 + 2 * k) := rfl
end JRules
end
section
theorem mw_ini : Cond.initialized "java/lang/Math" ∈ gw := gm 45 (by decide +kernel) rfl
theorem mw_max : Cond.static Lib.Math.max.name ∈ gw ∧ Cond.code Lib.Math.max.name Lib.Math.max.code 2 (some .int) ∈ gw := ⟨gm 422 (by decide +kernel) rfl, gm 423 (by decide +kernel) rfl⟩
theorem mw_min : Cond.static Lib.Math.min.name ∈ gw ∧ Cond.code Lib.Math.min.name Lib.Math.min.code 2 (some .int) ∈ gw := ⟨gm 415 (by decide +kernel) rfl, gm 416 (by decide +kernel) rfl⟩
theorem mw_abs : Cond.static Lib.Math.abs.name ∈ gw ∧ Cond.code Lib.Math.abs.name Lib.Math.abs.code 1 (some .int) ∈ gw := ⟨gm 579 (by decide +kernel) rfl, gm 580 (by decide +kernel) rfl⟩
theorem ii (n : Int) (c : Int32) (h : Int32.ofInt n = c) (x : Int32) : x + Int32.ofInt n = x + c := by rw [h]
theorem fit_b2i (q : Bool) : fits .boolean (.int (b2i q)) = true := by cases q <;> rfl
theorem j_si {l : Launch} {w : Wd} {y : MI} {pc : Nat} {ls : List (Nat × Value)} {st : List Value} {β : Type} {R : β → Option Value × St} {S : St} {c : Prop} {ic : Decidable c} {a b : β} (h : J l w y pc ls st S R (if c then some a else some b)) : J l w y pc ls st S R (some (if c then a else b)) := by
  intro v hv
  refine h v ?_
  by_cases hc : c
  · rw [if_pos hc] at hv ⊢; exact hv
  · rw [if_neg hc] at hv ⊢; exact hv
theorem j_aload_nq {l : Launch} {w : Wd} {y : MI} {pc : Nat} {ls : List (Nat × Value)} {st : List Value} {β : Type} {R : β → Option Value × St} {X : Option β} {S : St} (kp : Nat) {q : Fin 4} {i : Nat} {x : Option Nat} (d : decode y.2.1 pc = .ok (.aload_n q, 1)) (hi : (q : Nat) = i) (hk : ls[kp]? = some (i, va_rf x)) (k : J l w y (pc + 1) ls (va_rf x :: st) S R X) : J l w y pc ls st S R X := by
  cases x with
  | none => exact j_aload_nN kp d hi hk k
  | some a => exact j_aload_n kp d hi hk k
def mxI (x z : Int32) : Int32 := if x < z then z else x
def mnI (x z : Int32) : Int32 := if z < x then z else x
def abI (x : Int32) : Int32 := if 0 ≤ x then x else 0 - x
section MathRules
variable {l : Launch} {w : Wd} {y : MI} {pc idx : Nat} {ls : List (Nat × Value)} {st : List Value} {β : Type} {R : β → Option Value × St} {X : Option β} {S : St} {x z : Int32}
theorem j_mmax (h1 : Cond.methodLink y.1.cls idx Lib.Math.max.name ∈ gw) (hfr : 1 ≤ y.2.2.2.2.frames) (hlo : (st.map fun v => v.category).sum + 13 ≤ y.2.2.2.2.locals) (d : decode y.2.1 pc = .ok (.invokestatic idx, 3)) (k : J l w y (pc + 3) ls (.int (mxI x z) :: st) S R X) : J l w y pc ls (.int z :: .int x :: st) S R X := fun b hb p e s m args below meth c H locs Ls C hR hS hl => va_mmax C.1 C.2.1 (C.2.2.1.trans hl.1.symm) C.2.2.2.1 (C.2.2.2.2.1 _ h1) (C.2.2.2.2.1 _ mw_max.1) (C.2.2.2.2.1 _ mw_ini) (C.2.2.2.2.1 _ mw_max.2) hfr hlo (Nat.zero_le _) (Nat.zero_le _) d (k b hb p e s m args below meth c H locs Ls C hR hS hl)
theorem j_mmin (h1 : Cond.methodLink y.1.cls idx Lib.Math.min.name ∈ gw) (hfr : 1 ≤ y.2.2.2.2.frames) (hlo : (st.map fun v => v.category).sum + 13 ≤ y.2.2.2.2.locals) (d : decode y.2.1 pc = .ok (.invokestatic idx, 3)) (k : J l w y (pc + 3) ls (.int (mnI x z) :: st) S R X) : J l w y pc ls (.int z :: .int x :: st) S R X := fun b hb p e s m args below meth c H locs Ls C hR hS hl => va_mmin C.1 C.2.1 (C.2.2.1.trans hl.1.symm) C.2.2.2.1 (C.2.2.2.2.1 _ h1) (C.2.2.2.2.1 _ mw_min.1) (C.2.2.2.2.1 _ mw_ini) (C.2.2.2.2.1 _ mw_min.2) hfr hlo (Nat.zero_le _) (Nat.zero_le _) d (k b hb p e s m args below meth c H locs Ls C hR hS hl)
theorem j_mabs (h1 : Cond.methodLink y.1.cls idx Lib.Math.abs.name ∈ gw) (hfr : 1 ≤ y.2.2.2.2.frames) (hlo : (st.map fun v => v.category).sum + 13 ≤ y.2.2.2.2.locals) (d : decode y.2.1 pc = .ok (.invokestatic idx, 3)) (k : J l w y (pc + 3) ls (.int (abI x) :: st) S R X) : J l w y pc ls (.int x :: st) S R X := fun b hb p e s m args below meth c H locs Ls C hR hS hl => va_mabs C.1 C.2.1 (C.2.2.1.trans hl.1.symm) C.2.2.2.1 (C.2.2.2.2.1 _ h1) (C.2.2.2.2.1 _ mw_abs.1) (C.2.2.2.2.1 _ mw_ini) (C.2.2.2.2.1 _ mw_abs.2) hfr hlo (Nat.zero_le _) (Nat.zero_le _) d (k b hb p e s m args below meth c H locs Ls C hR hS hl)
end MathRules

theorem iX0 : ∀ q ∈ u_ws RX0 TX0 13, q ∈ gw := by decide +kernel
theorem iX1 : ∀ q ∈ u_ws RX1 TX1 10, q ∈ gw := by decide +kernel
theorem iX2 : ∀ q ∈ u_ws RX2 TX2 11, q ∈ gw := by decide +kernel
theorem iX3 : ∀ q ∈ u_ws RX3 TX3 4, q ∈ gw := by decide +kernel
theorem iX4 : ∀ q ∈ u_ws RX4 TX4 3, q ∈ gw := by decide +kernel
theorem iX5 : ∀ q ∈ u_ws RX5 TX5 8, q ∈ gw := by decide +kernel
theorem iX6 : ∀ q ∈ u_ws RX6 TX6 7, q ∈ gw := by decide +kernel
theorem iX7 : ∀ q ∈ u_ws RX7 TX7 19, q ∈ gw := by decide +kernel
theorem pn_0 : plainName RX0 = true := by decide +kernel
theorem mh_0 : RX0 ≠ "java/lang/invoke/MethodHandle" ∧ RX0 ≠ "java/lang/invoke/VarHandle" := by decide +kernel
theorem pn_1 : plainName RX1 = true := by decide +kernel
theorem mh_1 : RX1 ≠ "java/lang/invoke/MethodHandle" ∧ RX1 ≠ "java/lang/invoke/VarHandle" := by decide +kernel
theorem pn_2 : plainName RX2 = true := by decide +kernel
theorem mh_2 : RX2 ≠ "java/lang/invoke/MethodHandle" ∧ RX2 ≠ "java/lang/invoke/VarHandle" := by decide +kernel
theorem pn_3 : plainName RX3 = true := by decide +kernel
theorem mh_3 : RX3 ≠ "java/lang/invoke/MethodHandle" ∧ RX3 ≠ "java/lang/invoke/VarHandle" := by decide +kernel
theorem pn_4 : plainName RX4 = true := by decide +kernel
theorem mh_4 : RX4 ≠ "java/lang/invoke/MethodHandle" ∧ RX4 ≠ "java/lang/invoke/VarHandle" := by decide +kernel
theorem pn_5 : plainName RX5 = true := by decide +kernel
theorem mh_5 : RX5 ≠ "java/lang/invoke/MethodHandle" ∧ RX5 ≠ "java/lang/invoke/VarHandle" := by decide +kernel
theorem pn_6 : plainName RX6 = true := by decide +kernel
theorem mh_6 : RX6 ≠ "java/lang/invoke/MethodHandle" ∧ RX6 ≠ "java/lang/invoke/VarHandle" := by decide +kernel
theorem pn_7 : plainName RX7 = true := by decide +kernel
theorem mh_7 : RX7 ≠ "java/lang/invoke/MethodHandle" ∧ RX7 ≠ "java/lang/invoke/VarHandle" := by decide +kernel
theorem k_0 : kd 0 = KdFace := rfl
theorem k_1 : kd 1 = KdBook := rfl
theorem k_2 : kd 2 = .inr (3, 6) := rfl
theorem k_3 : kd 3 = .inr (4, 12) := rfl
theorem k_4 : kd 4 = Kints 50 := rfl
theorem k_5 : kd 5 = Kints 50 := rfl
theorem k_6 : kd 6 = Kints 50 := rfl
theorem k_7 : kd 7 = Klongs 10 := rfl
theorem k_44 : kd 44 = KdBook := rfl
theorem k_45 : kd 45 = .inr (3, 6) := rfl
theorem k_46 : kd 46 = .inr (4, 12) := rfl
theorem k_47 : kd 47 = Kints 50 := rfl
theorem k_48 : kd 48 = Kints 50 := rfl
theorem k_49 : kd 49 = Kints 50 := rfl
theorem k_50 : kd 50 = Klongs 10 := rfl
theorem k_87 : kd 87 = .inr (5, 4) := rfl
theorem k_96 : kd 96 = KdSeason := rfl
theorem k_97 : kd 97 = Kints 50 := rfl
theorem k_98 : kd 98 = Kints 51 := rfl
theorem k_99 : kd 99 = Kints 6 := rfl
theorem k_100 : kd 100 = Kints 6 := rfl
theorem k_101 : kd 101 = KdLaying := rfl
theorem k_102 : kd 102 = Kints 12 := rfl
theorem k_103 : kd 103 = Kints 12 := rfl
theorem k_104 : kd 104 = Kints 12 := rfl
theorem k_105 : kd 105 = Kints 12 := rfl
theorem k_106 : kd 106 = Kints 13 := rfl
theorem k_107 : kd 107 = Kints 36 := rfl
theorem k_108 : kd 108 = KdModel := rfl
theorem k_109 : kd 109 = Kints 788 := rfl
theorem k_110 : kd 110 = Kints 788 := rfl
theorem k_111 : kd 111 = Klongs 10 := rfl
theorem k_112 : kd 112 = Klongs 10 := rfl
theorem k_113 : kd 113 = Kints 4 := rfl
theorem k_114 : kd 114 = Kints 4 := rfl
theorem k_115 : kd 115 = Kints 200 := rfl
theorem k_116 : kd 116 = Kints 12 := rfl
theorem k_117 : kd 117 = Kints 50 := rfl
theorem k_118 : kd 118 = Kints 24 := rfl
theorem k_119 : kd 119 = Kints 24 := rfl
theorem k_120 : kd 120 = Kbools 24 := rfl
theorem k_121 : kd 121 = Kints 12 := rfl
theorem k_122 : kd 122 = Kints 12 := rfl
theorem k_123 : kd 123 = Kbools 36 := rfl
theorem k_124 : kd 124 = Kbools 144 := rfl
theorem fl_6_10 : FL RX6 10 6 0 := ⟨_, _, _, rfl, iX6, by decide, gm 302 (by decide +kernel) rfl⟩
theorem fl_6_16 : FL RX6 16 6 1 := ⟨_, _, _, rfl, iX6, by decide, gm 303 (by decide +kernel) rfl⟩
theorem fl_6_19 : FL RX6 19 6 2 := ⟨_, _, _, rfl, iX6, by decide, gm 304 (by decide +kernel) rfl⟩
theorem fl_6_25 : FL RX6 25 6 3 := ⟨_, _, _, rfl, iX6, by decide, gm 305 (by decide +kernel) rfl⟩
theorem fl_6_33 : FL RX6 33 6 4 := ⟨_, _, _, rfl, iX6, by decide, gm 306 (by decide +kernel) rfl⟩
theorem fl_6_40 : FL RX6 40 6 5 := ⟨_, _, _, rfl, iX6, by decide, gm 307 (by decide +kernel) rfl⟩
theorem fl_6_44 : FL RX6 44 6 6 := ⟨_, _, _, rfl, iX6, by decide, gm 308 (by decide +kernel) rfl⟩
theorem fl_6_56 : FL RX6 56 0 1 := ⟨_, _, _, rfl, iX0, by decide, gm 165 (by decide +kernel) rfl⟩
theorem fl_6_59 : FL RX6 59 0 0 := ⟨_, _, _, rfl, iX0, by decide, gm 161 (by decide +kernel) rfl⟩
theorem fl_6_86 : FL RX6 86 0 2 := ⟨_, _, _, rfl, iX0, by decide, gm 170 (by decide +kernel) rfl⟩
theorem fl_6_90 : FL RX6 90 2 2 := ⟨_, _, _, rfl, iX2, by decide, gm 117 (by decide +kernel) rfl⟩
theorem fl_6_101 : FL RX6 101 0 3 := ⟨_, _, _, rfl, iX0, by decide, gm 172 (by decide +kernel) rfl⟩
theorem fl_6_104 : FL RX6 104 0 4 := ⟨_, _, _, rfl, iX0, by decide, gm 174 (by decide +kernel) rfl⟩
theorem fl_6_111 : FL RX6 111 0 12 := ⟨_, _, _, rfl, iX0, by decide, gm 191 (by decide +kernel) rfl⟩
theorem fl_6_127 : FL RX6 127 2 8 := ⟨_, _, _, rfl, iX2, by decide, gm 131 (by decide +kernel) rfl⟩
theorem fl_6_137 : FL RX6 137 2 6 := ⟨_, _, _, rfl, iX2, by decide, gm 127 (by decide +kernel) rfl⟩
theorem fl_6_152 : FL RX6 152 4 1 := ⟨_, _, _, rfl, iX4, by decide, gm 229 (by decide +kernel) rfl⟩
theorem fl_6_164 : FL RX6 164 4 0 := ⟨_, _, _, rfl, iX4, by decide, gm 227 (by decide +kernel) rfl⟩
theorem fl_6_169 : FL RX6 169 4 2 := ⟨_, _, _, rfl, iX4, by decide, gm 231 (by decide +kernel) rfl⟩
theorem fl_6_179 : FL RX6 179 0 10 := ⟨_, _, _, rfl, iX0, by decide, gm 187 (by decide +kernel) rfl⟩
theorem fl_6_197 : FL RX6 197 3 1 := ⟨_, _, _, rfl, iX3, by decide, gm 248 (by decide +kernel) rfl⟩
theorem fl_6_203 : FL RX6 203 3 2 := ⟨_, _, _, rfl, iX3, by decide, gm 250 (by decide +kernel) rfl⟩
theorem fl_6_206 : FL RX6 206 0 5 := ⟨_, _, _, rfl, iX0, by decide, gm 177 (by decide +kernel) rfl⟩
theorem fl_6_209 : FL RX6 209 0 7 := ⟨_, _, _, rfl, iX0, by decide, gm 181 (by decide +kernel) rfl⟩
theorem fl_6_212 : FL RX6 212 0 8 := ⟨_, _, _, rfl, iX0, by decide, gm 183 (by decide +kernel) rfl⟩
theorem fl_6_235 : FL RX6 235 2 10 := ⟨_, _, _, rfl, iX2, by decide, gm 136 (by decide +kernel) rfl⟩
theorem fl_6_241 : FL RX6 241 0 9 := ⟨_, _, _, rfl, iX0, by decide, gm 185 (by decide +kernel) rfl⟩
theorem fl_6_244 : FL RX6 244 5 6 := ⟨_, _, _, rfl, iX5, by decide, gm 83 (by decide +kernel) rfl⟩
theorem fl_6_247 : FL RX6 247 0 11 := ⟨_, _, _, rfl, iX0, by decide, gm 189 (by decide +kernel) rfl⟩
theorem fl_6_267 : FL RX6 267 1 0 := ⟨_, _, _, rfl, iX1, by decide, gm 268 (by decide +kernel) rfl⟩
theorem fl_6_270 : FL RX6 270 1 1 := ⟨_, _, _, rfl, iX1, by decide, gm 270 (by decide +kernel) rfl⟩
theorem fl_6_276 : FL RX6 276 1 2 := ⟨_, _, _, rfl, iX1, by decide, gm 272 (by decide +kernel) rfl⟩
theorem fl_6_289 : FL RX6 289 1 6 := ⟨_, _, _, rfl, iX1, by decide, gm 277 (by decide +kernel) rfl⟩
theorem fl_0_11 : FL RX0 11 0 0 := ⟨_, _, _, rfl, iX0, by decide, gm 160 (by decide +kernel) rfl⟩
theorem fl_0_17 : FL RX0 17 0 1 := ⟨_, _, _, rfl, iX0, by decide, gm 164 (by decide +kernel) rfl⟩
theorem fl_0_23 : FL RX0 23 0 2 := ⟨_, _, _, rfl, iX0, by decide, gm 168 (by decide +kernel) rfl⟩
theorem fl_0_27 : FL RX0 27 0 3 := ⟨_, _, _, rfl, iX0, by decide, gm 171 (by decide +kernel) rfl⟩
theorem fl_0_30 : FL RX0 30 0 4 := ⟨_, _, _, rfl, iX0, by decide, gm 173 (by decide +kernel) rfl⟩
theorem fl_0_33 : FL RX0 33 0 5 := ⟨_, _, _, rfl, iX0, by decide, gm 175 (by decide +kernel) rfl⟩
theorem fl_0_36 : FL RX0 36 0 6 := ⟨_, _, _, rfl, iX0, by decide, gm 178 (by decide +kernel) rfl⟩
theorem fl_0_40 : FL RX0 40 0 7 := ⟨_, _, _, rfl, iX0, by decide, gm 180 (by decide +kernel) rfl⟩
theorem fl_0_43 : FL RX0 43 0 8 := ⟨_, _, _, rfl, iX0, by decide, gm 182 (by decide +kernel) rfl⟩
theorem fl_0_46 : FL RX0 46 0 9 := ⟨_, _, _, rfl, iX0, by decide, gm 184 (by decide +kernel) rfl⟩
theorem fl_0_49 : FL RX0 49 0 10 := ⟨_, _, _, rfl, iX0, by decide, gm 186 (by decide +kernel) rfl⟩
theorem fl_0_52 : FL RX0 52 0 11 := ⟨_, _, _, rfl, iX0, by decide, gm 188 (by decide +kernel) rfl⟩
theorem fl_0_55 : FL RX0 55 0 12 := ⟨_, _, _, rfl, iX0, by decide, gm 190 (by decide +kernel) rfl⟩
theorem fl_0_61 : FL RX0 61 2 0 := ⟨_, _, _, rfl, iX2, by decide, gm 109 (by decide +kernel) rfl⟩
theorem fl_0_77 : FL RX0 77 2 3 := ⟨_, _, _, rfl, iX2, by decide, gm 120 (by decide +kernel) rfl⟩
theorem fl_0_80 : FL RX0 80 2 4 := ⟨_, _, _, rfl, iX2, by decide, gm 122 (by decide +kernel) rfl⟩
theorem fl_0_83 : FL RX0 83 2 5 := ⟨_, _, _, rfl, iX2, by decide, gm 124 (by decide +kernel) rfl⟩
theorem fl_0_86 : FL RX0 86 2 6 := ⟨_, _, _, rfl, iX2, by decide, gm 126 (by decide +kernel) rfl⟩
theorem fl_0_89 : FL RX0 89 2 7 := ⟨_, _, _, rfl, iX2, by decide, gm 129 (by decide +kernel) rfl⟩
theorem fl_0_100 : FL RX0 100 5 4 := ⟨_, _, _, rfl, iX5, by decide, gm 79 (by decide +kernel) rfl⟩
theorem fl_0_109 : FL RX0 109 2 2 := ⟨_, _, _, rfl, iX2, by decide, gm 118 (by decide +kernel) rfl⟩
theorem fl_0_115 : FL RX0 115 2 1 := ⟨_, _, _, rfl, iX2, by decide, gm 114 (by decide +kernel) rfl⟩
theorem fl_0_122 : FL RX0 122 5 6 := ⟨_, _, _, rfl, iX5, by decide, gm 82 (by decide +kernel) rfl⟩
theorem fl_0_155 : FL RX0 155 3 0 := ⟨_, _, _, rfl, iX3, by decide, gm 246 (by decide +kernel) rfl⟩
theorem fl_0_185 : FL RX0 185 2 10 := ⟨_, _, _, rfl, iX2, by decide, gm 135 (by decide +kernel) rfl⟩
theorem fl_0_188 : FL RX0 188 2 9 := ⟨_, _, _, rfl, iX2, by decide, gm 133 (by decide +kernel) rfl⟩
theorem fl_0_191 : FL RX0 191 5 1 := ⟨_, _, _, rfl, iX5, by decide, gm 74 (by decide +kernel) rfl⟩
theorem fl_0_200 : FL RX0 200 5 2 := ⟨_, _, _, rfl, iX5, by decide, gm 76 (by decide +kernel) rfl⟩
theorem fl_1_9 : FL RX1 9 1 4 := ⟨_, _, _, rfl, iX1, by decide, gm 274 (by decide +kernel) rfl⟩
theorem fl_1_15 : FL RX1 15 1 5 := ⟨_, _, _, rfl, iX1, by decide, gm 275 (by decide +kernel) rfl⟩
theorem fl_1_18 : FL RX1 18 1 6 := ⟨_, _, _, rfl, iX1, by decide, gm 276 (by decide +kernel) rfl⟩
theorem fl_1_21 : FL RX1 21 1 7 := ⟨_, _, _, rfl, iX1, by decide, gm 278 (by decide +kernel) rfl⟩
theorem fl_1_24 : FL RX1 24 1 8 := ⟨_, _, _, rfl, iX1, by decide, gm 279 (by decide +kernel) rfl⟩
theorem fl_1_27 : FL RX1 27 1 9 := ⟨_, _, _, rfl, iX1, by decide, gm 280 (by decide +kernel) rfl⟩
theorem fl_1_34 : FL RX1 34 0 1 := ⟨_, _, _, rfl, iX0, by decide, gm 166 (by decide +kernel) rfl⟩
theorem fl_1_40 : FL RX1 40 1 3 := ⟨_, _, _, rfl, iX1, by decide, gm 273 (by decide +kernel) rfl⟩
theorem fl_1_41 : FL RX1 41 1 2 := ⟨_, _, _, rfl, iX1, by decide, gm 271 (by decide +kernel) rfl⟩
theorem fl_1_44 : FL RX1 44 0 2 := ⟨_, _, _, rfl, iX0, by decide, gm 169 (by decide +kernel) rfl⟩
theorem fl_1_48 : FL RX1 48 2 2 := ⟨_, _, _, rfl, iX2, by decide, gm 116 (by decide +kernel) rfl⟩
theorem fl_1_61 : FL RX1 61 1 1 := ⟨_, _, _, rfl, iX1, by decide, gm 269 (by decide +kernel) rfl⟩
theorem fl_1_75 : FL RX1 75 0 0 := ⟨_, _, _, rfl, iX0, by decide, gm 163 (by decide +kernel) rfl⟩
theorem fl_2_9 : FL RX2 9 2 10 := ⟨_, _, _, rfl, iX2, by decide, gm 134 (by decide +kernel) rfl⟩
theorem fl_2_15 : FL RX2 15 2 2 := ⟨_, _, _, rfl, iX2, by decide, gm 115 (by decide +kernel) rfl⟩
theorem fl_2_19 : FL RX2 19 2 3 := ⟨_, _, _, rfl, iX2, by decide, gm 119 (by decide +kernel) rfl⟩
theorem fl_2_22 : FL RX2 22 2 4 := ⟨_, _, _, rfl, iX2, by decide, gm 121 (by decide +kernel) rfl⟩
theorem fl_2_25 : FL RX2 25 2 5 := ⟨_, _, _, rfl, iX2, by decide, gm 123 (by decide +kernel) rfl⟩
theorem fl_2_28 : FL RX2 28 2 6 := ⟨_, _, _, rfl, iX2, by decide, gm 125 (by decide +kernel) rfl⟩
theorem fl_2_31 : FL RX2 31 2 7 := ⟨_, _, _, rfl, iX2, by decide, gm 128 (by decide +kernel) rfl⟩
theorem fl_2_34 : FL RX2 34 2 8 := ⟨_, _, _, rfl, iX2, by decide, gm 130 (by decide +kernel) rfl⟩
theorem fl_2_37 : FL RX2 37 2 9 := ⟨_, _, _, rfl, iX2, by decide, gm 132 (by decide +kernel) rfl⟩
theorem fl_2_43 : FL RX2 43 2 0 := ⟨_, _, _, rfl, iX2, by decide, gm 110 (by decide +kernel) rfl⟩
theorem fl_2_46 : FL RX2 46 2 1 := ⟨_, _, _, rfl, iX2, by decide, gm 112 (by decide +kernel) rfl⟩
theorem fl_3_9 : FL RX3 9 3 0 := ⟨_, _, _, rfl, iX3, by decide, gm 245 (by decide +kernel) rfl⟩
theorem fl_3_15 : FL RX3 15 3 1 := ⟨_, _, _, rfl, iX3, by decide, gm 247 (by decide +kernel) rfl⟩
theorem fl_3_18 : FL RX3 18 3 2 := ⟨_, _, _, rfl, iX3, by decide, gm 249 (by decide +kernel) rfl⟩
theorem fl_3_21 : FL RX3 21 3 3 := ⟨_, _, _, rfl, iX3, by decide, gm 251 (by decide +kernel) rfl⟩
theorem fl_3_24 : FL RX3 24 0 5 := ⟨_, _, _, rfl, iX0, by decide, gm 176 (by decide +kernel) rfl⟩
theorem fl_3_30 : FL RX3 30 0 6 := ⟨_, _, _, rfl, iX0, by decide, gm 179 (by decide +kernel) rfl⟩
theorem fl_3_54 : FL RX3 54 0 1 := ⟨_, _, _, rfl, iX0, by decide, gm 167 (by decide +kernel) rfl⟩
theorem fl_3_57 : FL RX3 57 0 0 := ⟨_, _, _, rfl, iX0, by decide, gm 162 (by decide +kernel) rfl⟩
theorem fl_3_61 : FL RX3 61 5 0 := ⟨_, _, _, rfl, iX5, by decide, gm 71 (by decide +kernel) rfl⟩
theorem fl_3_66 : FL RX3 66 5 1 := ⟨_, _, _, rfl, iX5, by decide, gm 73 (by decide +kernel) rfl⟩
theorem fl_4_9 : FL RX4 9 4 2 := ⟨_, _, _, rfl, iX4, by decide, gm 230 (by decide +kernel) rfl⟩
theorem fl_4_15 : FL RX4 15 4 0 := ⟨_, _, _, rfl, iX4, by decide, gm 226 (by decide +kernel) rfl⟩
theorem fl_4_19 : FL RX4 19 4 1 := ⟨_, _, _, rfl, iX4, by decide, gm 228 (by decide +kernel) rfl⟩
theorem fl_5_9 : FL RX5 9 5 7 := ⟨_, _, _, rfl, iX5, by decide, gm 84 (by decide +kernel) rfl⟩
theorem fl_5_15 : FL RX5 15 5 0 := ⟨_, _, _, rfl, iX5, by decide, gm 70 (by decide +kernel) rfl⟩
theorem fl_5_19 : FL RX5 19 5 1 := ⟨_, _, _, rfl, iX5, by decide, gm 72 (by decide +kernel) rfl⟩
theorem fl_5_22 : FL RX5 22 5 2 := ⟨_, _, _, rfl, iX5, by decide, gm 75 (by decide +kernel) rfl⟩
theorem fl_5_25 : FL RX5 25 5 3 := ⟨_, _, _, rfl, iX5, by decide, gm 77 (by decide +kernel) rfl⟩
theorem fl_5_28 : FL RX5 28 5 4 := ⟨_, _, _, rfl, iX5, by decide, gm 78 (by decide +kernel) rfl⟩
theorem fl_5_31 : FL RX5 31 5 5 := ⟨_, _, _, rfl, iX5, by decide, gm 80 (by decide +kernel) rfl⟩
theorem fl_5_34 : FL RX5 34 5 6 := ⟨_, _, _, rfl, iX5, by decide, gm 81 (by decide +kernel) rfl⟩
theorem fl_7_7 : FL RX7 7 7 0 := ⟨_, _, _, rfl, iX7, by decide, gm 794 (by decide +kernel) rfl⟩
theorem fl_7_13 : FL RX7 13 7 1 := ⟨_, _, _, rfl, iX7, by decide, gm 795 (by decide +kernel) rfl⟩
theorem fl_7_16 : FL RX7 16 7 2 := ⟨_, _, _, rfl, iX7, by decide, gm 796 (by decide +kernel) rfl⟩
theorem fl_7_20 : FL RX7 20 7 3 := ⟨_, _, _, rfl, iX7, by decide, gm 797 (by decide +kernel) rfl⟩
theorem fl_7_23 : FL RX7 23 7 5 := ⟨_, _, _, rfl, iX7, by decide, gm 799 (by decide +kernel) rfl⟩
theorem fl_7_26 : FL RX7 26 7 6 := ⟨_, _, _, rfl, iX7, by decide, gm 800 (by decide +kernel) rfl⟩
theorem fl_7_29 : FL RX7 29 7 7 := ⟨_, _, _, rfl, iX7, by decide, gm 801 (by decide +kernel) rfl⟩
theorem fl_7_32 : FL RX7 32 7 8 := ⟨_, _, _, rfl, iX7, by decide, gm 802 (by decide +kernel) rfl⟩
theorem fl_7_35 : FL RX7 35 7 11 := ⟨_, _, _, rfl, iX7, by decide, gm 805 (by decide +kernel) rfl⟩
theorem fl_7_38 : FL RX7 38 7 12 := ⟨_, _, _, rfl, iX7, by decide, gm 806 (by decide +kernel) rfl⟩
theorem fl_7_41 : FL RX7 41 7 13 := ⟨_, _, _, rfl, iX7, by decide, gm 807 (by decide +kernel) rfl⟩
theorem fl_7_44 : FL RX7 44 7 14 := ⟨_, _, _, rfl, iX7, by decide, gm 808 (by decide +kernel) rfl⟩
theorem fl_7_48 : FL RX7 48 7 15 := ⟨_, _, _, rfl, iX7, by decide, gm 809 (by decide +kernel) rfl⟩
theorem fl_7_51 : FL RX7 51 7 16 := ⟨_, _, _, rfl, iX7, by decide, gm 810 (by decide +kernel) rfl⟩
theorem fl_7_54 : FL RX7 54 7 17 := ⟨_, _, _, rfl, iX7, by decide, gm 811 (by decide +kernel) rfl⟩
theorem fl_7_57 : FL RX7 57 7 18 := ⟨_, _, _, rfl, iX7, by decide, gm 812 (by decide +kernel) rfl⟩
theorem fl_7_60 : FL RX7 60 7 10 := ⟨_, _, _, rfl, iX7, by decide, gm 804 (by decide +kernel) rfl⟩
theorem fl_7_76 : FL RX7 76 7 9 := ⟨_, _, _, rfl, iX7, by decide, gm 803 (by decide +kernel) rfl⟩
theorem fl_7_203 : FL RX7 203 7 4 := ⟨_, _, _, rfl, iX7, by decide, gm 798 (by decide +kernel) rfl⟩
theorem fp_6_19 : FP RX6 19 6 2 false .boolean := ⟨_, _, _, tyX6, rfl, iX6, by decide, gm 304 (by decide +kernel) rfl, tyX6_ok, nmX6, rfl, (fun h => by cases h), rfl⟩
theorem fp_6_44 : FP RX6 44 6 6 false .int := ⟨_, _, _, tyX6, rfl, iX6, by decide, gm 308 (by decide +kernel) rfl, tyX6_ok, nmX6, rfl, (fun h => by cases h), rfl⟩
theorem fp_6_56 : FP RX6 56 0 1 false .int := ⟨_, _, _, tyX0, rfl, iX0, by decide, gm 165 (by decide +kernel) rfl, tyX0_ok, nmX0, rfl, (fun h => by cases h), rfl⟩
theorem fp_6_95 : FP RX6 95 2 0 false .int := ⟨_, _, _, tyX2, rfl, iX2, by decide, gm 111 (by decide +kernel) rfl, tyX2_ok, nmX2, rfl, (fun h => by cases h), rfl⟩
theorem fp_6_98 : FP RX6 98 2 1 false .int := ⟨_, _, _, tyX2, rfl, iX2, by decide, gm 113 (by decide +kernel) rfl, tyX2_ok, nmX2, rfl, (fun h => by cases h), rfl⟩
theorem fp_6_101 : FP RX6 101 0 3 false .int := ⟨_, _, _, tyX0, rfl, iX0, by decide, gm 172 (by decide +kernel) rfl, tyX0_ok, nmX0, rfl, (fun h => by cases h), rfl⟩
theorem fp_6_137 : FP RX6 137 2 6 false .int := ⟨_, _, _, tyX2, rfl, iX2, by decide, gm 127 (by decide +kernel) rfl, tyX2_ok, nmX2, rfl, (fun h => by cases h), rfl⟩
theorem fp_6_179 : FP RX6 179 0 10 false .int := ⟨_, _, _, tyX0, rfl, iX0, by decide, gm 187 (by decide +kernel) rfl, tyX0_ok, nmX0, rfl, (fun h => by cases h), rfl⟩
theorem fp_6_241 : FP RX6 241 0 9 false .int := ⟨_, _, _, tyX0, rfl, iX0, by decide, gm 185 (by decide +kernel) rfl, tyX0_ok, nmX0, rfl, (fun h => by cases h), rfl⟩
theorem fp_0_17 : FP RX0 17 0 1 false .int := ⟨_, _, _, tyX0, rfl, iX0, by decide, gm 164 (by decide +kernel) rfl, tyX0_ok, nmX0, rfl, (fun h => by cases h), rfl⟩
theorem fp_0_27 : FP RX0 27 0 3 false .int := ⟨_, _, _, tyX0, rfl, iX0, by decide, gm 171 (by decide +kernel) rfl, tyX0_ok, nmX0, rfl, (fun h => by cases h), rfl⟩
theorem fp_0_30 : FP RX0 30 0 4 false .int := ⟨_, _, _, tyX0, rfl, iX0, by decide, gm 173 (by decide +kernel) rfl, tyX0_ok, nmX0, rfl, (fun h => by cases h), rfl⟩
theorem fp_0_33 : FP RX0 33 0 5 false .int := ⟨_, _, _, tyX0, rfl, iX0, by decide, gm 175 (by decide +kernel) rfl, tyX0_ok, nmX0, rfl, (fun h => by cases h), rfl⟩
theorem fp_0_46 : FP RX0 46 0 9 false .int := ⟨_, _, _, tyX0, rfl, iX0, by decide, gm 184 (by decide +kernel) rfl, tyX0_ok, nmX0, rfl, (fun h => by cases h), rfl⟩
theorem fp_0_49 : FP RX0 49 0 10 false .int := ⟨_, _, _, tyX0, rfl, iX0, by decide, gm 186 (by decide +kernel) rfl, tyX0_ok, nmX0, rfl, (fun h => by cases h), rfl⟩
theorem fp_0_52 : FP RX0 52 0 11 false .int := ⟨_, _, _, tyX0, rfl, iX0, by decide, gm 188 (by decide +kernel) rfl, tyX0_ok, nmX0, rfl, (fun h => by cases h), rfl⟩
theorem fp_0_188 : FP RX0 188 2 9 false .int := ⟨_, _, _, tyX2, rfl, iX2, by decide, gm 133 (by decide +kernel) rfl, tyX2_ok, nmX2, rfl, (fun h => by cases h), rfl⟩
theorem fp_1_30 : FP RX1 30 1 0 false .boolean := ⟨_, _, _, tyX1, rfl, iX1, by decide, gm 267 (by decide +kernel) rfl, tyX1_ok, nmX1, rfl, (fun h => by cases h), rfl⟩
theorem fp_1_40 : FP RX1 40 1 3 false .int := ⟨_, _, _, tyX1, rfl, iX1, by decide, gm 273 (by decide +kernel) rfl, tyX1_ok, nmX1, rfl, (fun h => by cases h), rfl⟩
theorem fp_1_41 : FP RX1 41 1 2 false .int := ⟨_, _, _, tyX1, rfl, iX1, by decide, gm 271 (by decide +kernel) rfl, tyX1_ok, nmX1, rfl, (fun h => by cases h), rfl⟩
theorem fp_1_61 : FP RX1 61 1 1 false .int := ⟨_, _, _, tyX1, rfl, iX1, by decide, gm 269 (by decide +kernel) rfl, tyX1_ok, nmX1, rfl, (fun h => by cases h), rfl⟩
theorem fp_2_15 : FP RX2 15 2 2 false .int := ⟨_, _, _, tyX2, rfl, iX2, by decide, gm 115 (by decide +kernel) rfl, tyX2_ok, nmX2, rfl, (fun h => by cases h), rfl⟩
theorem fp_2_19 : FP RX2 19 2 3 false .int := ⟨_, _, _, tyX2, rfl, iX2, by decide, gm 119 (by decide +kernel) rfl, tyX2_ok, nmX2, rfl, (fun h => by cases h), rfl⟩
theorem fp_2_22 : FP RX2 22 2 4 false .int := ⟨_, _, _, tyX2, rfl, iX2, by decide, gm 121 (by decide +kernel) rfl, tyX2_ok, nmX2, rfl, (fun h => by cases h), rfl⟩
theorem fp_2_25 : FP RX2 25 2 5 false .int := ⟨_, _, _, tyX2, rfl, iX2, by decide, gm 123 (by decide +kernel) rfl, tyX2_ok, nmX2, rfl, (fun h => by cases h), rfl⟩
theorem fp_2_28 : FP RX2 28 2 6 false .int := ⟨_, _, _, tyX2, rfl, iX2, by decide, gm 125 (by decide +kernel) rfl, tyX2_ok, nmX2, rfl, (fun h => by cases h), rfl⟩
theorem fp_2_31 : FP RX2 31 2 7 false .int := ⟨_, _, _, tyX2, rfl, iX2, by decide, gm 128 (by decide +kernel) rfl, tyX2_ok, nmX2, rfl, (fun h => by cases h), rfl⟩
theorem fp_2_34 : FP RX2 34 2 8 false .int := ⟨_, _, _, tyX2, rfl, iX2, by decide, gm 130 (by decide +kernel) rfl, tyX2_ok, nmX2, rfl, (fun h => by cases h), rfl⟩
theorem fp_2_37 : FP RX2 37 2 9 false .int := ⟨_, _, _, tyX2, rfl, iX2, by decide, gm 132 (by decide +kernel) rfl, tyX2_ok, nmX2, rfl, (fun h => by cases h), rfl⟩
theorem fp_2_43 : FP RX2 43 2 0 false .int := ⟨_, _, _, tyX2, rfl, iX2, by decide, gm 110 (by decide +kernel) rfl, tyX2_ok, nmX2, rfl, (fun h => by cases h), rfl⟩
theorem fp_2_46 : FP RX2 46 2 1 false .int := ⟨_, _, _, tyX2, rfl, iX2, by decide, gm 112 (by decide +kernel) rfl, tyX2_ok, nmX2, rfl, (fun h => by cases h), rfl⟩
theorem fp_4_15 : FP RX4 15 4 0 false .int := ⟨_, _, _, tyX4, rfl, iX4, by decide, gm 226 (by decide +kernel) rfl, tyX4_ok, nmX4, rfl, (fun h => by cases h), rfl⟩
theorem fp_4_19 : FP RX4 19 4 1 false .int := ⟨_, _, _, tyX4, rfl, iX4, by decide, gm 228 (by decide +kernel) rfl, tyX4_ok, nmX4, rfl, (fun h => by cases h), rfl⟩
theorem fp_5_15 : FP RX5 15 5 0 false .int := ⟨_, _, _, tyX5, rfl, iX5, by decide, gm 70 (by decide +kernel) rfl, tyX5_ok, nmX5, rfl, (fun h => by cases h), rfl⟩
theorem fp_5_19 : FP RX5 19 5 1 false .int := ⟨_, _, _, tyX5, rfl, iX5, by decide, gm 72 (by decide +kernel) rfl, tyX5_ok, nmX5, rfl, (fun h => by cases h), rfl⟩
theorem fp_5_22 : FP RX5 22 5 2 false .int := ⟨_, _, _, tyX5, rfl, iX5, by decide, gm 75 (by decide +kernel) rfl, tyX5_ok, nmX5, rfl, (fun h => by cases h), rfl⟩
theorem fp_5_25 : FP RX5 25 5 3 false .int := ⟨_, _, _, tyX5, rfl, iX5, by decide, gm 77 (by decide +kernel) rfl, tyX5_ok, nmX5, rfl, (fun h => by cases h), rfl⟩
theorem fp_5_28 : FP RX5 28 5 4 false .int := ⟨_, _, _, tyX5, rfl, iX5, by decide, gm 78 (by decide +kernel) rfl, tyX5_ok, nmX5, rfl, (fun h => by cases h), rfl⟩
theorem fp_5_31 : FP RX5 31 5 5 false .int := ⟨_, _, _, tyX5, rfl, iX5, by decide, gm 80 (by decide +kernel) rfl, tyX5_ok, nmX5, rfl, (fun h => by cases h), rfl⟩
theorem fp_5_34 : FP RX5 34 5 6 false .int := ⟨_, _, _, tyX5, rfl, iX5, by decide, gm 81 (by decide +kernel) rfl, tyX5_ok, nmX5, rfl, (fun h => by cases h), rfl⟩
theorem fp_7_60 : FP RX7 60 7 10 false .int := ⟨_, _, _, tyX7, rfl, iX7, by decide, gm 804 (by decide +kernel) rfl, tyX7_ok, nmX7, rfl, (fun h => by cases h), rfl⟩
theorem fp_7_76 : FP RX7 76 7 9 false .boolean := ⟨_, _, _, tyX7, rfl, iX7, by decide, gm 803 (by decide +kernel) rfl, tyX7_ok, nmX7, rfl, (fun h => by cases h), rfl⟩
theorem fp_7_203 : FP RX7 203 7 4 false .boolean := ⟨_, _, _, tyX7, rfl, iX7, by decide, gm 798 (by decide +kernel) rfl, tyX7_ok, nmX7, rfl, (fun h => by cases h), rfl⟩
end
section
theorem dJ9_floorMod_7cf53_0 : decode cJ9_floorMod_7cf53 0 = .ok (.iload_n 0, 1) := by decide +kernel
theorem dJ9_floorMod_7cf53_1 : decode cJ9_floorMod_7cf53 1 = .ok (.iload_n 1, 1) := by decide +kernel
theorem dJ9_floorMod_7cf53_2 : decode cJ9_floorMod_7cf53 2 = .ok (.irem, 1) := by decide +kernel
theorem dJ9_floorMod_7cf53_3 : decode cJ9_floorMod_7cf53 3 = .ok (.istore_n 2, 1) := by decide +kernel
theorem dJ9_floorMod_7cf53_4 : decode cJ9_floorMod_7cf53 4 = .ok (.iload_n 0, 1) := by decide +kernel
theorem dJ9_floorMod_7cf53_5 : decode cJ9_floorMod_7cf53 5 = .ok (.iload_n 1, 1) := by decide +kernel
theorem dJ9_floorMod_7cf53_6 : decode cJ9_floorMod_7cf53 6 = .ok (.ixor, 1) := by decide +kernel
theorem dJ9_floorMod_7cf53_7 : decode cJ9_floorMod_7cf53 7 = .ok (.ifCond .ge 11, 3) := by decide +kernel
theorem dJ9_floorMod_7cf53_10 : decode cJ9_floorMod_7cf53 10 = .ok (.iload_n 2, 1) := by decide +kernel
theorem dJ9_floorMod_7cf53_11 : decode cJ9_floorMod_7cf53 11 = .ok (.ifCond .eq 7, 3) := by decide +kernel
theorem dJ9_floorMod_7cf53_14 : decode cJ9_floorMod_7cf53 14 = .ok (.iload_n 2, 1) := by decide +kernel
theorem dJ9_floorMod_7cf53_15 : decode cJ9_floorMod_7cf53 15 = .ok (.iload_n 1, 1) := by decide +kernel
theorem dJ9_floorMod_7cf53_16 : decode cJ9_floorMod_7cf53 16 = .ok (.iadd, 1) := by decide +kernel
theorem dJ9_floorMod_7cf53_17 : decode cJ9_floorMod_7cf53 17 = .ok (.ireturn, 1) := by decide +kernel
theorem dJ9_floorMod_7cf53_18 : decode cJ9_floorMod_7cf53 18 = .ok (.iload_n 2, 1) := by decide +kernel
theorem dJ9_floorMod_7cf53_19 : decode cJ9_floorMod_7cf53 19 = .ok (.ireturn, 1) := by decide +kernel
/-- Math.floorMod of two ints, as its bytes tell it -/
def fmI (x z : Int32) : Int32 := if x ^^^ z < 0 then (if x - x / z * z = 0 then x - x / z * z else x - x / z * z + z) else x - x / z * z
theorem fm_noRow0 : (NativeRow.find? natives yJ9_floorMod_7cf53.cls yJ9_floorMod_7cf53.name yJ9_floorMod_7cf53.desc).isNone = true := by decide +kernel
theorem fm_noRow (p : Program) : NativeRow.find? p.tables.natives yJ9_floorMod_7cf53.cls yJ9_floorMod_7cf53.name yJ9_floorMod_7cf53.desc = none := by
  cases p <;> exact Option.isNone_iff_eq_none.mp fm_noRow0
def fmSpec (a z : Int32) : Spec := { pre := .and (.code yJ9_floorMod_7cf53 cJ9_floorMod_7cf53 3 (some .int)) (.and (.count 2) (.and (.isInt (.arg 0)) (.and (.isInt (.arg 1)) (.and (.eq (.arg 0) (.int a)) (.eq (.arg 1) (.int z)))))), post := .and .returned (.eq .result (.int (fmI a z))), changes := some [] }
theorem fm_meets (l : Launch) {a z : Int32} (hz : ¬ z = 0) : MeetsLoose l yJ9_floorMod_7cf53 (fmSpec a z) := by
  refine MeetsLoose.of_body_ov (code := cJ9_floorMod_7cf53) (maxLocals := 3) (ret := some .int) fm_noRow ?_ ?_
  · intro args s h
    simp only [fmSpec, Cond.before_and, Bool.and_eq_true] at h
    exact h.1
  · intro p e s m args below meth c s₁ B
    have hpre := B.pre
    simp only [fmSpec, Cond.before_and, Bool.and_eq_true] at hpre
    obtain ⟨x, y, rfl⟩ := Cond.two_ints hpre.2.1 hpre.2.2.1 hpre.2.2.2.1
    have hx : x = a := by
      have := hpre.2.2.2.2.1
      simpa [Cond.before, Cond.holds, Cond.value, Term.eval] using this
    have hy : y = z := by
      have := hpre.2.2.2.2.2
      simpa [Cond.before, Cond.holds, Cond.value, Term.eval] using this
    subst hx
    subst hy
    have hloc : argsToLocals #[.int x, .int y] 3 = #[.val (.int x), .val (.int y), .unset] := rfl
    obtain ⟨fs, hfs⟩ := handOver_isSome (s := s₁) (some (.int (fmI x y))) B.hears₁
    refine ⟨s₁.setFrames fs, .returned (some (.int (fmI x y))), ?_, B.here.running, B.ended hfs (by intro h; cases h), ?_, State.sameBut_nil.mpr ?_⟩
    · unfold entryFrame; rw [hloc]
      refine Steps.instrAtOv (c := _) (by simpa using B.here) ?_
      simp [jvm, wpRun, exec, B.here.top, B.exec, B.bytes, dJ9_floorMod_7cf53_0]
      refine Steps.instrAtOv (c := _) (by simpa using B.here) ?_
      simp [jvm, wpRun, exec, B.here.top, B.exec, B.bytes, dJ9_floorMod_7cf53_1]
      refine Steps.instrAtOv (c := _) (by simpa using B.here) ?_
      simp [jvm, wpRun, exec, B.here.top, B.exec, B.bytes, dJ9_floorMod_7cf53_2, hz]
      refine Steps.instrAtOv (c := _) (by simpa using B.here) ?_
      simp [jvm, wpRun, exec, B.here.top, B.exec, B.bytes, dJ9_floorMod_7cf53_3, storeLocals, storeSelf, setAt, Value.category]
      refine Steps.instrAtOv (c := _) (by simpa using B.here) ?_
      simp [jvm, wpRun, exec, B.here.top, B.exec, B.bytes, dJ9_floorMod_7cf53_4]
      refine Steps.instrAtOv (c := _) (by simpa using B.here) ?_
      simp [jvm, wpRun, exec, B.here.top, B.exec, B.bytes, dJ9_floorMod_7cf53_5]
      refine Steps.instrAtOv (c := _) (by simpa using B.here) ?_
      simp [jvm, wpRun, exec, B.here.top, B.exec, B.bytes, dJ9_floorMod_7cf53_6]
      by_cases h1 : 0 ≤ x ^^^ y
      · have hf : fmI x y = x - x / y * y := by unfold fmI; rw [if_neg (Int32.not_lt.mpr h1)]
        rw [hf] at hfs
        refine Steps.instrAtOv (c := _) (by simpa using B.here) ?_
        simp [jvm, wpRun, exec, B.here.top, B.exec, B.bytes, dJ9_floorMod_7cf53_7, Op.ifCond.holds, h1]
        refine Steps.instrAtOv (c := _) (by simpa using B.here) ?_
        simp [jvm, wpRun, exec, B.here.top, B.exec, B.bytes, dJ9_floorMod_7cf53_18]
        refine Steps.instrAtOv (c := _) (by simpa using B.here) ?_
        simp [jvm, wpRun, exec, B.here.top, B.exec, B.bytes, dJ9_floorMod_7cf53_19, B.method₁, B.returns, narrow]
        intro acts
        rw [ret_to B.frames₁ B.method₁ B.notSynchronized rfl rfl hfs]
        exact Steps.refl _
      · have h2 : x ^^^ y < 0 := Int32.not_le.mp h1
        refine Steps.instrAtOv (c := _) (by simpa using B.here) ?_
        simp [jvm, wpRun, exec, B.here.top, B.exec, B.bytes, dJ9_floorMod_7cf53_7, Op.ifCond.holds, h1]
        refine Steps.instrAtOv (c := _) (by simpa using B.here) ?_
        simp [jvm, wpRun, exec, B.here.top, B.exec, B.bytes, dJ9_floorMod_7cf53_10]
        by_cases h3 : x - x / y * y = 0
        · have hf : fmI x y = x - x / y * y := by unfold fmI; rw [if_pos h2, if_pos h3]
          rw [hf, h3] at hfs
          refine Steps.instrAtOv (c := _) (by simpa using B.here) ?_
          simp [jvm, wpRun, exec, B.here.top, B.exec, B.bytes, dJ9_floorMod_7cf53_11, Op.ifCond.holds, h3]
          refine Steps.instrAtOv (c := _) (by simpa using B.here) ?_
          simp [jvm, wpRun, exec, B.here.top, B.exec, B.bytes, dJ9_floorMod_7cf53_18]
          refine Steps.instrAtOv (c := _) (by simpa using B.here) ?_
          simp [jvm, wpRun, exec, B.here.top, B.exec, B.bytes, dJ9_floorMod_7cf53_19, B.method₁, B.returns, narrow]
          intro acts
          rw [ret_to B.frames₁ B.method₁ B.notSynchronized rfl rfl hfs]
          exact Steps.refl _
        · have hf : fmI x y = x - x / y * y + y := by unfold fmI; rw [if_pos h2, if_neg h3]
          rw [hf] at hfs
          refine Steps.instrAtOv (c := _) (by simpa using B.here) ?_
          simp [jvm, wpRun, exec, B.here.top, B.exec, B.bytes, dJ9_floorMod_7cf53_11, Op.ifCond.holds, h3]
          refine Steps.instrAtOv (c := _) (by simpa using B.here) ?_
          simp [jvm, wpRun, exec, B.here.top, B.exec, B.bytes, dJ9_floorMod_7cf53_14]
          refine Steps.instrAtOv (c := _) (by simpa using B.here) ?_
          simp [jvm, wpRun, exec, B.here.top, B.exec, B.bytes, dJ9_floorMod_7cf53_15]
          refine Steps.instrAtOv (c := _) (by simpa using B.here) ?_
          simp [jvm, wpRun, exec, B.here.top, B.exec, B.bytes, dJ9_floorMod_7cf53_16]
          refine Steps.instrAtOv (c := _) (by simpa using B.here) ?_
          simp [jvm, wpRun, exec, B.here.top, B.exec, B.bytes, dJ9_floorMod_7cf53_17, B.method₁, B.returns, narrow]
          intro acts
          rw [ret_to B.frames₁ B.method₁ B.notSynchronized rfl rfl hfs]
          exact Steps.refl _
    · simp [fmSpec, Cond.after, Cond.holds, Cond.value, Term.eval]
    · rw [State.frames_setFrames _ B.cur₁, B.back]
theorem mw_fm : Cond.static yJ9_floorMod_7cf53 ∈ gw ∧ Cond.code yJ9_floorMod_7cf53 cJ9_floorMod_7cf53 3 (some .int) ∈ gw := ⟨gm 600 (by decide +kernel) rfl, gm 601 (by decide +kernel) rfl⟩
theorem j_mfloor {l : Launch} {w : Wd} {y : MI} {pc idx : Nat} {ls : List (Nat × Value)} {st : List Value} {β : Type} {R : β → Option Value × St} {X : Option β} {S : St} {x z : Int32} (h1 : Cond.methodLink y.1.cls idx yJ9_floorMod_7cf53 ∈ gw) (hz : ¬ z = 0) (hfr : 1 ≤ y.2.2.2.2.frames) (hlo : (st.map fun v => v.category).sum + 14 ≤ y.2.2.2.2.locals) (d : decode y.2.1 pc = .ok (.invokestatic idx, 3)) (k : J l w y (pc + 3) ls (.int (fmI x z) :: st) S R X) : J l w y pc ls (.int z :: .int x :: st) S R X := by
  intro b hb p e s m args below meth c H locs Ls C hR hS hl T hT Y
  have hcode := C.2.2.2.2.1 _ mw_fm.2
  obtain ⟨v, vm', X', ⟨first, t, hpost⟩, hstep⟩ := Y.staticByContractV C.1 C.2.2.2.1 (C.2.2.2.2.1 _ h1) (C.2.2.2.2.1 _ mw_fm.1) (C.2.2.2.2.1 _ mw_ini) hcode (by decide) (fm_meets l (a := x) (z := z) hz) rfl rfl rfl rfl
    (fun args' first o s₂ h => by
      simp only [fmSpec, Cond.after_and, Bool.and_eq_true] at h
      cases o with
      | returned r => exact ⟨r, rfl⟩
      | threw y => simp [Cond.after, Cond.holds, Cond.value] at h)
    (g := F0 m pc Ls (.int z :: .int x :: st)) rfl (hl.1.trans C.2.2.1.symm) (argsL := [.int x, .int z]) (rest := st)
    (fun sig hs => by
      have h : parseMethodDescriptor "(II)I" = some { parameters := [.int, .int], returnType := some .int } := by decide +kernel
      rw [show yJ9_floorMod_7cf53.desc = "(II)I" from rfl, h] at hs
      rw [← Option.some.inj hs]; rfl)
    rfl (by rw [C.2.1]; exact d)
    (fun vm' hW => by
      simp only [fmSpec, Cond.before_and, Bool.and_eq_true]
      refine ⟨?_, rfl, rfl, rfl, ?_, ?_⟩
      · have q := hcode
        rw [← Cond.code_setVm hW.alike] at q
        simp only [Cond.before, Cond.holds, Cond.value, State.methodNamed?, State.vm_setVm] at q ⊢
        exact q
      · simp [Cond.before, Cond.holds, Cond.value, Term.eval]
      · simp [Cond.before, Cond.holds, Cond.value, Term.eval])
    hfr (by show 2 * 0 + (st.map fun v => v.category).sum + (3 + 11) + 0 ≤ _; omega) (Nat.zero_le _) (Nat.zero_le _)
  have hv : v = some (.int (fmI x z)) := by
    rcases v with _ | q
    · simp [fmSpec, Cond.after, Cond.holds, Cond.value, Term.eval] at hpost
    · cases q <;> simp [fmSpec, Cond.after, Cond.holds, Cond.value, Term.eval] at hpost
      rw [hpost]
  subst hv
  obtain ⟨t2, a1, b1⟩ := k b hb p e s m args below meth c H locs Ls C hR hS hl (T.setVm vm') hT X'
  exact ⟨t2, hstep t2 a1, b1⟩
end
section
-- what is made: objects, arrays
section Made
variable {l : Launch} {w : Wd} {y : MI} {pc : Nat} {ls : List (Nat × Value)} {st : List Value} {P' : WP} {r : Option Value} {S : St} {n k z : Nat} {ρ : Rf}
/-- the cell that comes next -/
theorem made_at {p : Program} {e : Env} {s : State} {m : MethodId} {args : Array Value} {below : List Frame} {meth : Method} {c : Code} {H1 : Heap} {locs : List Loc} {T : State} {RR : Room} {q z' : Nat} {E : va_E} (hz : s.heap.size + k = w.2.1 + n) (hT : T.heap = H1) (Y : Stand p l e RR s m args below meth c T locs (k + 1) z') (hP : va_P w.1 vwCl (wls w n S ρ ++ [(q, E)]) H1) (hD : va_D (Ad w) (wls w n S ρ ++ [(q, E)])) : q = w.2.1 + n := by
  have hlen : (wls w n S ρ).length = n := by simp [wls]
  have hat : (wls w n S ρ ++ [(q, E)])[n]? = some (q, E) := by
    rw [List.getElem?_append_right (by omega), hlen, Nat.sub_self]; rfl
  have h1 : T.heap.size ≤ s.heap.size + (k + 1) := Y.same.2.2.1
  have h2 : q < H1.size := (hP n _ hat).lt
  have h3 : w.2.1 ≤ q := hD.2 n _ hat
  rw [hT] at h1
  rcases Nat.lt_or_ge q (w.2.1 + n) with h | h
  · have h4 : (wls w n S ρ ++ [(q, E)])[q - w.2.1]? = some (w.2.1 + (q - w.2.1), cel w S ρ (q - w.2.1)) := by
      rw [List.getElem?_append_left (by omega), wls_at (by omega)]
    have := hD.1 n (q - w.2.1) _ _ hat h4 (by show q = w.2.1 + (q - w.2.1); omega)
    omega
  · omega
def NW (own : String) (idx ci N : Nat) (fl : List Bool) : Prop := ∃ (C : String) (T : u_T) (ty : Nat → FieldType), vwCl[ci]? = some (C, T, N) ∧ (∀ q ∈ u_ws C T N, q ∈ gw) ∧ (∀ j, j < N → parseFieldDescriptor (T j).2.2.1 = some (ty j)) ∧ Cond.classLink own idx C ∈ gw ∧ Cond.instantiable C N ∈ gw ∧ Cond.initialized C ∈ gw ∧ fl.length = N ∧ (∀ j, j < N → defaultValue (ty j) = if fl.getD j false = true then .null else .int 0)
theorem g_new {idx ci N : Nat} {fl : List Bool} (hW : NW y.1.cls idx ci N fl) (hk : kd n = .inl (ci, fl)) (h0 : ∀ j, S.1 n j = 0) (h1 : ∀ j, ρ n j = none) (hc : k + 1 ≤ y.2.2.2.2.cells) (hs : z + N ≤ y.2.2.2.2.slots) (d : decode y.2.1 pc = .ok (.new idx, 3))
    (kk : G l w y (pc + 3) ls (.ref (w.2.1 + n) :: st) (n + 1, ρ, S, k + 1, z + N) P' r) : G l w y pc ls st (n, ρ, S, k, z) P' r := by
  intro p e s m args below meth c H locs Ls C hR hS hl
  obtain ⟨CC, T, ty, g1, g2, g3, g4, g5, g6, g7, g8⟩ := hW
  refine va_new (ci := ci) (fs := flds w S ρ n fl) (C := CC) (T := T) (N := N) C.1 C.2.1 C.2.2.2.2.1 g2 ty g3 C.2.2.2.1 (C.2.2.2.2.1 _ g4) (C.2.2.2.2.1 _ g5) (C.2.2.2.2.1 _ g6) C.2.2.2.2.2.2.2.2.1.1 hR.1 wls_D hS (fun q hq => Nat.le_trans C.2.2.2.2.2.2.2.2.2 hq) g1 ?_ hc hs d (fun q H1 hP1 hD1 hS1 => ?_)
  · intro j hj
    rw [g8 j hj]
    have hj2 : j < fl.length := by omega
    have e1 : fl[j]? = some fl[j] := List.getElem?_eq_getElem hj2
    have e2 : fl.getD j false = fl[j] := by rw [List.getD_eq_getElem?_getD, e1]; rfl
    rw [e2]
    show _ = (flds w S ρ n fl).getD j .null
    rw [List.getD_eq_getElem?_getD, flds_at e1]
    simp only [Option.getD_some, fv, h0, h1, Option.map_none, va_rf]
  · intro T hT Y
    have hq := made_at hR.2 hT Y hP1 hD1
    subst hq
    rw [wls_push (by rw [cel_o hk])] at hP1
    exact kk p e s m args below meth c H1 locs Ls C ⟨hP1, by have := hR.2; show s.heap.size + (k + 1) = w.2.1 + (n + 1); have h9 : s.heap.size + k = w.2.1 + n := this; omega⟩ hS1 hl T hT Y
theorem ra_eq {U : State} {cA cB : ClassId} {ty : FieldType} (h1 : va_RA U cA ty) (h2 : va_RA U cB ty) : cA = cB := by
  cases ty with
  | object C =>
    obtain ⟨kA, comp, a1, a2, a3, a4⟩ := h1
    obtain ⟨kB, comp2, b1, b2, b3, b4⟩ := h2
    exact Option.some.inj (a4.symm.trans b4)
  | _ => exact Option.some.inj (Eq.trans (Eq.symm h1) h2)
theorem tys_last {D : va_G} {tl : List (ClassId × FieldType)} {U : State} {cA cB : ClassId} {ty : FieldType} (h : va_K D vwCl (tl ++ [(cA, ty)]) U) {t : Nat} (ht : tl[t]? = some (cB, ty)) : cA = cB := by
  have h1 := (h.2 tl.length (cA, ty) (by rw [List.getElem?_append_right (Nat.le_refl _), Nat.sub_self]; rfl)).2
  have h2 := (h.2 t (cB, ty) (by rw [List.getElem?_append_left (List.getElem?_eq_some_iff.mp ht).1]; exact ht)).2
  exact ra_eq h1 h2
theorem g_newa {t N : Nat} {x : Int32} {at_ : ArrayType} {ty : FieldType} {a0 : vp_A} (hty : newarray.typeOf at_ = ty) (har : Cond.arrayClass ty ∈ gw) (hk : kd n = .inr (t, N)) (htt : (tys w)[t]? = some (w.2.2 t, ty)) (ha : arc w S ρ n t N = a0) (hv : ∀ cA : ClassId, vp_cell cA a0 = arrV cA N (fun _ => defaultValue ty)) (hx : ¬ x < 0) (hN : x.toNatClampNeg = N) (hb : N * componentBytes ty ≤ 536870912) (hc : k + 1 ≤ y.2.2.2.2.cells) (hs : z + N ≤ y.2.2.2.2.slots) (d : decode y.2.1 pc = .ok (.newarray at_, 2))
    (kk : G l w y (pc + 2) ls (.ref (w.2.1 + n) :: st) (n + 1, ρ, S, k + 1, z + N) P' r) : G l w y pc ls (.int x :: st) (n, ρ, S, k, z) P' r := by
  intro p e s m args below meth c H locs Ls C hR hS hl
  refine va_newa (a0 := a0) C.1 C.2.1 (by rw [hty]; exact C.2.2.2.2.1 _ har) hty C.2.2.2.2.2.2.2.2.1.1 hR.1 wls_D hS (fun q hq => Nat.le_trans C.2.2.2.2.2.2.2.2.2 hq) hv hx hN hb hc hs d (fun q cA H1 hK1 hP1 hD1 hS1 => ?_)
  intro T hT Y
  have hq := made_at hR.2 hT Y hP1 hD1
  have hA : cA = w.2.2 t := tys_last hK1 htt
  subst hq
  rw [wls_push (by rw [cel_a hk, ha, hA])] at hP1
  exact kk p e s m args below meth c H1 locs Ls C ⟨hP1, by have h9 : s.heap.size + k = w.2.1 + n := hR.2; show s.heap.size + (k + 1) = w.2.1 + (n + 1); omega⟩ hS1 hl T hT Y
theorem mk_zero {cA : ClassId} {N : Nat} {f : Nat → Int32} (h : ∀ j, f j = 0) : vp_cell cA (N, .inl f) = arrV cA N (fun _ => .int 0) := by
  rw [vp_cell_i]
  have : f = fun _ => 0 := funext h
  rw [this]
theorem mk_zeroL {cA : ClassId} {N : Nat} {f : Nat → Int64} (h : ∀ j, f j = 0) : vp_cell cA (N, .inr (.inl f)) = arrV cA N (fun _ => .long 0) := by
  rw [vp_cell_l]
  have : f = fun _ => 0 := funext h
  rw [this]
theorem g_newI {N : Nat} {x : Int32} (har : Cond.arrayClass .int ∈ gw) (hk : kd n = .inr (0, N)) (h0 : ∀ j, S.1 n j = 0) (hx : ¬ x < 0) (hN : x.toNatClampNeg = N) (hb : N ≤ 1000) (hc : k + 1 ≤ y.2.2.2.2.cells) (hs : z + N ≤ y.2.2.2.2.slots) (d : decode y.2.1 pc = .ok (.newarray .int, 2))
    (kk : G l w y (pc + 2) ls (.ref (w.2.1 + n) :: st) (n + 1, ρ, S, k + 1, z + N) P' r) : G l w y pc ls (.int x :: st) (n, ρ, S, k, z) P' r :=
  g_newa (t := 0) (ty := .int) rfl har hk rfl rfl (fun _ => mk_zero h0) hx hN (by show N * 4 ≤ _; omega) hc hs d kk
theorem g_newZ {N : Nat} {x : Int32} (har : Cond.arrayClass .boolean ∈ gw) (hk : kd n = .inr (1, N)) (h0 : ∀ j, S.1 n j = 0) (hx : ¬ x < 0) (hN : x.toNatClampNeg = N) (hb : N ≤ 1000) (hc : k + 1 ≤ y.2.2.2.2.cells) (hs : z + N ≤ y.2.2.2.2.slots) (d : decode y.2.1 pc = .ok (.newarray .boolean, 2))
    (kk : G l w y (pc + 2) ls (.ref (w.2.1 + n) :: st) (n + 1, ρ, S, k + 1, z + N) P' r) : G l w y pc ls (.int x :: st) (n, ρ, S, k, z) P' r :=
  g_newa (t := 1) (ty := .boolean) rfl har hk rfl rfl (fun _ => mk_zero h0) hx hN (by show N * 1 ≤ _; omega) hc hs d kk
theorem g_newL {N : Nat} {x : Int32} (har : Cond.arrayClass .long ∈ gw) (hk : kd n = .inr (2, N)) (h0 : ∀ j, S.2 n j = 0) (hx : ¬ x < 0) (hN : x.toNatClampNeg = N) (hb : N ≤ 1000) (hc : k + 1 ≤ y.2.2.2.2.cells) (hs : z + N ≤ y.2.2.2.2.slots) (d : decode y.2.1 pc = .ok (.newarray .long, 2))
    (kk : G l w y (pc + 2) ls (.ref (w.2.1 + n) :: st) (n + 1, ρ, S, k + 1, z + N) P' r) : G l w y pc ls (.int x :: st) (n, ρ, S, k, z) P' r :=
  g_newa (t := 2) (ty := .long) rfl har hk rfl rfl (fun _ => mk_zeroL h0) hx hN (by show N * 8 ≤ _; omega) hc hs d kk
theorem g_newQ {t N idx : Nat} {x : Int32} {CC : String} (hcl : Cond.classLink y.1.cls idx CC ∈ gw) (hao : ∀ U : State, KK w U → va_AO CC U) (hk : kd n = .inr (t + 3, N)) (htt : (tys w)[t + 3]? = some (w.2.2 (t + 3), .object CC)) (h0 : ∀ j, ρ n j = none) (hx : ¬ x < 0) (hN : x.toNatClampNeg = N) (hb : N * 4 ≤ 536870912) (hc : k + 1 ≤ y.2.2.2.2.cells) (hs : z + N ≤ y.2.2.2.2.slots) (d : decode y.2.1 pc = .ok (.anewarray idx, 3))
    (kk : G l w y (pc + 3) ls (.ref (w.2.1 + n) :: st) (n + 1, ρ, S, k + 1, z + N) P' r) : G l w y pc ls (.int x :: st) (n, ρ, S, k, z) P' r := by
  intro p e s m args below meth c H locs Ls C hR hS hl
  refine va_newq C.1 C.2.1 C.2.2.2.1 (C.2.2.2.2.1 _ hcl) (hao s C.2.2.2.2.2.2.2.2.1) C.2.2.2.2.2.2.2.2.1.1 hR.1 wls_D hS (fun q hq => Nat.le_trans C.2.2.2.2.2.2.2.2.2 hq) hx hN hb hc hs d (fun q cA H1 hK1 hP1 hD1 hS1 => ?_)
  intro T hT Y
  have hq := made_at hR.2 hT Y hP1 hD1
  have hA : cA = w.2.2 (t + 3) := tys_last hK1 htt
  subst hq
  rw [wls_push (by rw [cel_a hk, arc_3, hA]; simp [h0])] at hP1
  exact kk p e s m args below meth c H1 locs Ls C ⟨hP1, by have h9 : s.heap.size + k = w.2.1 + n := hR.2; show s.heap.size + (k + 1) = w.2.1 + (n + 1); omega⟩ hS1 hl T hT Y
theorem g_aast {t N tt j ci : Nat} {i : Int32} {fl : List Bool} {rc : vw_C} (hk : kd t = .inr (tt + 3, N)) (ht : t < n) (hj : kd j = .inl (ci, fl)) (hjn : j < n) (hcl : vwCl[ci]? = some rc) (htt : (tys w)[tt + 3]? = some (w.2.2 (tt + 3), .object rc.1)) (hi : inb i N = true) (d : decode y.2.1 pc = .ok (.aastore, 1))
    (kk : G l w y (pc + 1) ls st (n, up2 ρ t (ix i) (some j), S, k, z) P' r) : G l w y pc ls (.ref (w.2.1 + j) :: .int i :: .ref (w.2.1 + t) :: st) (n, ρ, S, k, z) P' r := by
  intro p e s m args below meth c H locs Ls C hR hS hl
  have hset : (wls w n S ρ).set t (w.2.1 + t, .inl (w.2.2 (tt + 3), N, .inr (.inr (.inr (.inr (va_up (fun j => (ρ t j).map (fun q => w.2.1 + q)) i.toNatClampNeg (some (w.2.1 + j)))))))) = wls w n S (up2 ρ t (ix i) (some j)) := by
    refine wls_set ht ?_ (fun q hq => cel_cong rfl rfl (up2_ne hq))
    rw [cel_a hk, arc_3]
    congr 5
    congr 4
    funext q
    simp only [va_up, up2_eq, ix]
    by_cases hq : q = i.toNatClampNeg
    · simp [hq]
    · simp [hq]
  refine va_astq (r := rc) C.1 C.2.1 C.2.2.2.2.2.2.2.2.1.1 hR.1 wls_D hS t (tt + 3) j ci (by rw [wls_at ht, cel_a hk, arc_3]) htt (by rw [wls_at hjn, cel_o hj]) hcl (inb_in hi) d (fun H1 locs1 hP1 _ hS1 => ?_)
  rw [hset] at hP1
  exact kk p e s m args below meth c H1 locs1 Ls C ⟨hP1, hR.2⟩ hS1 hl
theorem g_objInit {idx t : Nat} (hl1 : Cond.methodLink y.1.cls idx Lib.objectInit ∈ gw) (hi : Cond.instanceMethod Lib.objectInit ∈ gw) (hco : Cond.code Lib.objectInit ⟨#[0xb1]⟩ 1 none ∈ gw) (hfr : 1 ≤ y.2.2.2.2.frames) (hlo : (st.map fun v => v.category).sum + 12 ≤ y.2.2.2.2.locals) (d : decode y.2.1 pc = .ok (.invokespecial idx, 3))
    (kk : G l w y (pc + 3) ls st (n, ρ, S, k, z) P' r) : G l w y pc ls (.ref (w.2.1 + t) :: st) (n, ρ, S, k, z) P' r := by
  intro p e s m args below meth c H locs Ls C hR hS hl
  refine W.objInit (idx := idx) C.1 C.2.1 C.2.2.2.1 (C.2.2.2.2.1 _ hl1) (C.2.2.2.2.1 _ hi) (C.2.2.2.2.1 _ hco) (g := F0 m pc Ls (.ref (w.2.1 + t) :: st)) rfl (hl.1.trans C.2.2.1.symm) rfl d hfr (by show 2 * 0 + _ + 12 ≤ _; omega) ?_
  exact kk p e s m args below meth c H locs Ls C hR hS hl
theorem g_vret (hr : y.2.2.2.1 = none) (d : decode y.2.1 pc = .ok (.return_, 1)) : G l w y pc ls [] (n, ρ, S, k, z) (n, ρ, S, k, z) none := by
  intro p e s m args below meth c H locs Ls C hR hS hl
  exact W.vret C.1 C.2.1 (C.2.2.2.2.2.1.trans hr) (fun t ht hW => ⟨rfl, by rw [ht]; exact hR.1, KK.warm hW C.2.2.2.2.2.2.2.2.1, hS.F ht⟩) hS.2.2 d C.2.2.2.2.2.2.1
end Made
theorem g_lit {l : Launch} {w : Wd} {y : MI} {pc : Nat} {ls : List (Nat × Value)} {st : List Value} {P' : WP} {r : Option Value} {S : St} {n k z n' k' z' : Nat} {ρ : Rf} (h1 : n = n') (h2 : k = k') (h3 : z = z') (kk : G l w y pc ls st (n', ρ, S, k', z') P' r) : G l w y pc ls st (n, ρ, S, k, z) P' r := by
  subst h1; subst h2; subst h3; exact kk
theorem g_st {l : Launch} {w : Wd} {y : MI} {pc : Nat} {ls : List (Nat × Value)} {st st' : List Value} {P P' : WP} {r : Option Value} (h1 : st = st') (kk : G l w y pc ls st' P P' r) : G l w y pc ls st P P' r := by
  subst h1; exact kk
theorem g_lo {l : Launch} {w : Wd} {y : MI} {pc : Nat} {ls ls' : List (Nat × Value)} {st : List Value} {P P' : WP} {r : Option Value} (h1 : ls = ls') (kk : G l w y pc ls' st P P' r) : G l w y pc ls st P P' r := by
  subst h1; exact kk
def rho0 : Rf := fun _ _ => none
def St0 : St := (fun _ _ => 0, fun _ _ => 0)
end
section
theorem oi_i : Cond.instanceMethod Lib.objectInit ∈ gw := gm 53 (by decide +kernel) rfl
theorem oi_c : Cond.code Lib.objectInit ⟨#[0xb1]⟩ 1 none ∈ gw := gm 54 (by decide +kernel) rfl
theorem ac_int : Cond.arrayClass .int ∈ gw := gm 102 (by decide +kernel) rfl
theorem ac_long : Cond.arrayClass .long ∈ gw := gm 103 (by decide +kernel) rfl
theorem ac_boolean : Cond.arrayClass .boolean ∈ gw := gm 852 (by decide +kernel) rfl
theorem dX5_init_0 : decode cX5_init 0 = .ok (.aload_n 0, 1) := by decide +kernel
theorem dX5_init_1 : decode cX5_init 1 = .ok (.invokespecial 3, 3) := by decide +kernel
theorem dX5_init_4 : decode cX5_init 4 = .ok (.aload_n 0, 1) := by decide +kernel
theorem dX5_init_5 : decode cX5_init 5 = .ok (.bipush 60, 2) := by decide +kernel
theorem dX5_init_7 : decode cX5_init 7 = .ok (.newarray .int, 2) := by decide +kernel
theorem dX5_init_9 : decode cX5_init 9 = .ok (.putfield 9, 3) := by decide +kernel
theorem dX5_init_12 : decode cX5_init 12 = .ok (.return_, 1) := by decide +kernel
abbrev I_X5_init : MI := (yX5_init, cX5_init, 1, none, { frames := 1, cells := 1, slots := 60, locals := 20 })
theorem fi_5_9 : FP RX5 9 5 7 true (.array .int) := ⟨_, _, _, tyX5, rfl, iX5, by decide, gm 84 (by decide +kernel) rfl, tyX5_ok, nmX5, rfl, (fun h => rfl), rfl⟩
set_option maxRecDepth 100000 in
theorem c_X5_init (l : Launch) (w : Wd) (t n : Nat) (ρ : Rf) (S : St) (ht : kd t = KdSort) (htn : t < n) (hk : kd n = Kints 60) (h0 : ∀ j, S.1 n j = 0) : Ct l w I_X5_init [.ref (w.2.1 + t)] n ρ S (n + 1, up2 ρ t 7 (some n), S, 1, 60) none := by
  refine Ct.of (Nat.le_of_ble_eq_true rfl) pn_5 ?_
  refine g_aload_n (y := I_X5_init) 0 dX5_init_0 rfl rfl ?_
  refine g_objInit (y := I_X5_init) (gm 69 (by decide +kernel) rfl) oi_i oi_c (Nat.le_of_ble_eq_true rfl) (Nat.le_of_ble_eq_true rfl) dX5_init_1 ?_
  refine g_aload_n (y := I_X5_init) 0 dX5_init_4 rfl rfl ?_
  refine g_bipush (y := I_X5_init) (v := 60) dX5_init_5 (by decide) ?_
  refine g_newI (y := I_X5_init) ac_int hk h0 (by decide) (by decide) (by decide) (Nat.le_of_ble_eq_true rfl) (Nat.le_of_ble_eq_true rfl) dX5_init_7 ?_
  refine g_putR (y := I_X5_init) fi_5_9 rfl ht rfl (by omega) rfl rfl dX5_init_9 ?_
  exact g_vret (y := I_X5_init) rfl dX5_init_12
theorem dX2_init_0 : decode cX2_init 0 = .ok (.aload_n 0, 1) := by decide +kernel
theorem dX2_init_1 : decode cX2_init 1 = .ok (.invokespecial 3, 3) := by decide +kernel
theorem dX2_init_4 : decode cX2_init 4 = .ok (.aload_n 0, 1) := by decide +kernel
theorem dX2_init_5 : decode cX2_init 5 = .ok (.iconst 2, 1) := by decide +kernel
theorem dX2_init_6 : decode cX2_init 6 = .ok (.newarray .int, 2) := by decide +kernel
theorem dX2_init_8 : decode cX2_init 8 = .ok (.putfield 9, 3) := by decide +kernel
theorem dX2_init_11 : decode cX2_init 11 = .ok (.return_, 1) := by decide +kernel
abbrev I_X2_init : MI := (yX2_init, cX2_init, 1, none, { frames := 1, cells := 1, slots := 2, locals := 20 })
theorem fi_2_9 : FP RX2 9 2 10 true (.array .int) := ⟨_, _, _, tyX2, rfl, iX2, by decide, gm 134 (by decide +kernel) rfl, tyX2_ok, nmX2, rfl, (fun h => rfl), rfl⟩
set_option maxRecDepth 100000 in
theorem c_X2_init (l : Launch) (w : Wd) (t n : Nat) (ρ : Rf) (S : St) (ht : kd t = KdPlace) (htn : t < n) (hk : kd n = Kints 2) (h0 : ∀ j, S.1 n j = 0) : Ct l w I_X2_init [.ref (w.2.1 + t)] n ρ S (n + 1, up2 ρ t 10 (some n), S, 1, 2) none := by
  refine Ct.of (Nat.le_of_ble_eq_true rfl) pn_2 ?_
  refine g_aload_n (y := I_X2_init) 0 dX2_init_0 rfl rfl ?_
  refine g_objInit (y := I_X2_init) (gm 108 (by decide +kernel) rfl) oi_i oi_c (Nat.le_of_ble_eq_true rfl) (Nat.le_of_ble_eq_true rfl) dX2_init_1 ?_
  refine g_aload_n (y := I_X2_init) 0 dX2_init_4 rfl rfl ?_
  refine g_iconst (y := I_X2_init) (v := 2) dX2_init_5 (by decide) ?_
  refine g_newI (y := I_X2_init) ac_int hk h0 (by decide) (by decide) (by decide) (Nat.le_of_ble_eq_true rfl) (Nat.le_of_ble_eq_true rfl) dX2_init_6 ?_
  refine g_putR (y := I_X2_init) fi_2_9 rfl ht rfl (by omega) rfl rfl dX2_init_8 ?_
  exact g_vret (y := I_X2_init) rfl dX2_init_11
theorem dX4_init_0 : decode cX4_init 0 = .ok (.aload_n 0, 1) := by decide +kernel
theorem dX4_init_1 : decode cX4_init 1 = .ok (.invokespecial 3, 3) := by decide +kernel
theorem dX4_init_4 : decode cX4_init 4 = .ok (.aload_n 0, 1) := by decide +kernel
theorem dX4_init_5 : decode cX4_init 5 = .ok (.bipush 50, 2) := by decide +kernel
theorem dX4_init_7 : decode cX4_init 7 = .ok (.newarray .int, 2) := by decide +kernel
theorem dX4_init_9 : decode cX4_init 9 = .ok (.putfield 9, 3) := by decide +kernel
theorem dX4_init_12 : decode cX4_init 12 = .ok (.return_, 1) := by decide +kernel
abbrev I_X4_init : MI := (yX4_init, cX4_init, 1, none, { frames := 1, cells := 1, slots := 50, locals := 20 })
theorem fi_4_9 : FP RX4 9 4 2 true (.array .int) := ⟨_, _, _, tyX4, rfl, iX4, by decide, gm 230 (by decide +kernel) rfl, tyX4_ok, nmX4, rfl, (fun h => rfl), rfl⟩
set_option maxRecDepth 100000 in
theorem c_X4_init (l : Launch) (w : Wd) (t n : Nat) (ρ : Rf) (S : St) (ht : kd t = KdSheet) (htn : t < n) (hk : kd n = Kints 50) (h0 : ∀ j, S.1 n j = 0) : Ct l w I_X4_init [.ref (w.2.1 + t)] n ρ S (n + 1, up2 ρ t 2 (some n), S, 1, 50) none := by
  refine Ct.of (Nat.le_of_ble_eq_true rfl) pn_4 ?_
  refine g_aload_n (y := I_X4_init) 0 dX4_init_0 rfl rfl ?_
  refine g_objInit (y := I_X4_init) (gm 225 (by decide +kernel) rfl) oi_i oi_c (Nat.le_of_ble_eq_true rfl) (Nat.le_of_ble_eq_true rfl) dX4_init_1 ?_
  refine g_aload_n (y := I_X4_init) 0 dX4_init_4 rfl rfl ?_
  refine g_bipush (y := I_X4_init) (v := 50) dX4_init_5 (by decide) ?_
  refine g_newI (y := I_X4_init) ac_int hk h0 (by decide) (by decide) (by decide) (Nat.le_of_ble_eq_true rfl) (Nat.le_of_ble_eq_true rfl) dX4_init_7 ?_
  refine g_putR (y := I_X4_init) fi_4_9 rfl ht rfl (by omega) rfl rfl dX4_init_9 ?_
  exact g_vret (y := I_X4_init) rfl dX4_init_12
theorem dX0_init_0 : decode cX0_init 0 = .ok (.aload_n 0, 1) := by decide +kernel
theorem dX0_init_1 : decode cX0_init 1 = .ok (.invokespecial 3, 3) := by decide +kernel
theorem dX0_init_4 : decode cX0_init 4 = .ok (.aload_n 0, 1) := by decide +kernel
theorem dX0_init_5 : decode cX0_init 5 = .ok (.bipush 6, 2) := by decide +kernel
theorem dX0_init_7 : decode cX0_init 7 = .ok (.anewarray 9, 3) := by decide +kernel
theorem dX0_init_10 : decode cX0_init 10 = .ok (.putfield 11, 3) := by decide +kernel
theorem dX0_init_13 : decode cX0_init 13 = .ok (.aload_n 0, 1) := by decide +kernel
theorem dX0_init_14 : decode cX0_init 14 = .ok (.iconst 0, 1) := by decide +kernel
theorem dX0_init_15 : decode cX0_init 15 = .ok (.putfield 17, 3) := by decide +kernel
theorem dX0_init_18 : decode cX0_init 18 = .ok (.aload_n 0, 1) := by decide +kernel
theorem dX0_init_19 : decode cX0_init 19 = .ok (.bipush 12, 2) := by decide +kernel
theorem dX0_init_21 : decode cX0_init 21 = .ok (.anewarray 21, 3) := by decide +kernel
theorem dX0_init_24 : decode cX0_init 24 = .ok (.putfield 23, 3) := by decide +kernel
theorem dX0_init_27 : decode cX0_init 27 = .ok (.aload_n 0, 1) := by decide +kernel
theorem dX0_init_28 : decode cX0_init 28 = .ok (.iconst 3, 1) := by decide +kernel
theorem dX0_init_29 : decode cX0_init 29 = .ok (.putfield 27, 3) := by decide +kernel
theorem dX0_init_32 : decode cX0_init 32 = .ok (.aload_n 0, 1) := by decide +kernel
theorem dX0_init_33 : decode cX0_init 33 = .ok (.iconst 0, 1) := by decide +kernel
theorem dX0_init_34 : decode cX0_init 34 = .ok (.putfield 30, 3) := by decide +kernel
theorem dX0_init_37 : decode cX0_init 37 = .ok (.aload_n 0, 1) := by decide +kernel
theorem dX0_init_38 : decode cX0_init 38 = .ok (.iconst 0, 1) := by decide +kernel
theorem dX0_init_39 : decode cX0_init 39 = .ok (.putfield 33, 3) := by decide +kernel
theorem dX0_init_42 : decode cX0_init 42 = .ok (.aload_n 0, 1) := by decide +kernel
theorem dX0_init_43 : decode cX0_init 43 = .ok (.bipush 50, 2) := by decide +kernel
theorem dX0_init_45 : decode cX0_init 45 = .ok (.newarray .int, 2) := by decide +kernel
theorem dX0_init_47 : decode cX0_init 47 = .ok (.putfield 36, 3) := by decide +kernel
theorem dX0_init_50 : decode cX0_init 50 = .ok (.aload_n 0, 1) := by decide +kernel
theorem dX0_init_51 : decode cX0_init 51 = .ok (.bipush 50, 2) := by decide +kernel
theorem dX0_init_53 : decode cX0_init 53 = .ok (.newarray .int, 2) := by decide +kernel
theorem dX0_init_55 : decode cX0_init 55 = .ok (.putfield 40, 3) := by decide +kernel
theorem dX0_init_58 : decode cX0_init 58 = .ok (.aload_n 0, 1) := by decide +kernel
theorem dX0_init_59 : decode cX0_init 59 = .ok (.bipush 50, 2) := by decide +kernel
theorem dX0_init_61 : decode cX0_init 61 = .ok (.newarray .int, 2) := by decide +kernel
theorem dX0_init_63 : decode cX0_init 63 = .ok (.putfield 43, 3) := by decide +kernel
theorem dX0_init_66 : decode cX0_init 66 = .ok (.aload_n 0, 1) := by decide +kernel
theorem dX0_init_67 : decode cX0_init 67 = .ok (.iconst 0, 1) := by decide +kernel
theorem dX0_init_68 : decode cX0_init 68 = .ok (.putfield 46, 3) := by decide +kernel
theorem dX0_init_71 : decode cX0_init 71 = .ok (.aload_n 0, 1) := by decide +kernel
theorem dX0_init_72 : decode cX0_init 72 = .ok (.iconst (-1), 1) := by decide +kernel
theorem dX0_init_73 : decode cX0_init 73 = .ok (.putfield 49, 3) := by decide +kernel
theorem dX0_init_76 : decode cX0_init 76 = .ok (.aload_n 0, 1) := by decide +kernel
theorem dX0_init_77 : decode cX0_init 77 = .ok (.iconst 0, 1) := by decide +kernel
theorem dX0_init_78 : decode cX0_init 78 = .ok (.putfield 52, 3) := by decide +kernel
theorem dX0_init_81 : decode cX0_init 81 = .ok (.aload_n 0, 1) := by decide +kernel
theorem dX0_init_82 : decode cX0_init 82 = .ok (.bipush 10, 2) := by decide +kernel
theorem dX0_init_84 : decode cX0_init 84 = .ok (.newarray .long, 2) := by decide +kernel
theorem dX0_init_86 : decode cX0_init 86 = .ok (.putfield 55, 3) := by decide +kernel
theorem dX0_init_89 : decode cX0_init 89 = .ok (.iconst 0, 1) := by decide +kernel
theorem dX0_init_90 : decode cX0_init 90 = .ok (.istore_n 1, 1) := by decide +kernel
theorem dX0_init_91 : decode cX0_init 91 = .ok (.iload_n 1, 1) := by decide +kernel
theorem dX0_init_92 : decode cX0_init 92 = .ok (.bipush 6, 2) := by decide +kernel
theorem dX0_init_94 : decode cX0_init 94 = .ok (.if_icmp .ge 22, 3) := by decide +kernel
theorem dX0_init_97 : decode cX0_init 97 = .ok (.aload_n 0, 1) := by decide +kernel
theorem dX0_init_98 : decode cX0_init 98 = .ok (.getfield 11, 3) := by decide +kernel
theorem dX0_init_101 : decode cX0_init 101 = .ok (.iload_n 1, 1) := by decide +kernel
theorem dX0_init_102 : decode cX0_init 102 = .ok (.new 9, 3) := by decide +kernel
theorem dX0_init_105 : decode cX0_init 105 = .ok (.dup, 1) := by decide +kernel
theorem dX0_init_106 : decode cX0_init 106 = .ok (.invokespecial 59, 3) := by decide +kernel
theorem dX0_init_109 : decode cX0_init 109 = .ok (.aastore, 1) := by decide +kernel
theorem dX0_init_110 : decode cX0_init 110 = .ok (.iinc 1 1, 3) := by decide +kernel
theorem dX0_init_113 : decode cX0_init 113 = .ok (.goto (-22), 3) := by decide +kernel
theorem dX0_init_116 : decode cX0_init 116 = .ok (.iconst 0, 1) := by decide +kernel
theorem dX0_init_117 : decode cX0_init 117 = .ok (.istore_n 1, 1) := by decide +kernel
theorem dX0_init_118 : decode cX0_init 118 = .ok (.iload_n 1, 1) := by decide +kernel
theorem dX0_init_119 : decode cX0_init 119 = .ok (.bipush 12, 2) := by decide +kernel
theorem dX0_init_121 : decode cX0_init 121 = .ok (.if_icmp .ge 32, 3) := by decide +kernel
theorem dX0_init_124 : decode cX0_init 124 = .ok (.aload_n 0, 1) := by decide +kernel
theorem dX0_init_125 : decode cX0_init 125 = .ok (.getfield 23, 3) := by decide +kernel
theorem dX0_init_128 : decode cX0_init 128 = .ok (.iload_n 1, 1) := by decide +kernel
theorem dX0_init_129 : decode cX0_init 129 = .ok (.new 21, 3) := by decide +kernel
theorem dX0_init_132 : decode cX0_init 132 = .ok (.dup, 1) := by decide +kernel
theorem dX0_init_133 : decode cX0_init 133 = .ok (.invokespecial 60, 3) := by decide +kernel
theorem dX0_init_136 : decode cX0_init 136 = .ok (.aastore, 1) := by decide +kernel
theorem dX0_init_137 : decode cX0_init 137 = .ok (.aload_n 0, 1) := by decide +kernel
theorem dX0_init_138 : decode cX0_init 138 = .ok (.getfield 23, 3) := by decide +kernel
theorem dX0_init_141 : decode cX0_init 141 = .ok (.iload_n 1, 1) := by decide +kernel
theorem dX0_init_142 : decode cX0_init 142 = .ok (.aaload, 1) := by decide +kernel
theorem dX0_init_143 : decode cX0_init 143 = .ok (.iload_n 1, 1) := by decide +kernel
theorem dX0_init_144 : decode cX0_init 144 = .ok (.putfield 61, 3) := by decide +kernel
theorem dX0_init_147 : decode cX0_init 147 = .ok (.iinc 1 1, 3) := by decide +kernel
theorem dX0_init_150 : decode cX0_init 150 = .ok (.goto (-32), 3) := by decide +kernel
theorem dX0_init_153 : decode cX0_init 153 = .ok (.return_, 1) := by decide +kernel
theorem fi_0_11 : FP RX0 11 0 0 true (.array (.object "OrchardBook$Sort")) := ⟨_, _, _, tyX0, rfl, iX0, by decide, gm 160 (by decide +kernel) rfl, tyX0_ok, nmX0, rfl, (fun h => rfl), rfl⟩
theorem fi_0_17 : FP RX0 17 0 1 false (.int) := ⟨_, _, _, tyX0, rfl, iX0, by decide, gm 164 (by decide +kernel) rfl, tyX0_ok, nmX0, rfl, (fun h => by cases h), rfl⟩
theorem fi_0_23 : FP RX0 23 0 2 true (.array (.object "OrchardBook$Place")) := ⟨_, _, _, tyX0, rfl, iX0, by decide, gm 168 (by decide +kernel) rfl, tyX0_ok, nmX0, rfl, (fun h => rfl), rfl⟩
theorem fi_0_27 : FP RX0 27 0 3 false (.int) := ⟨_, _, _, tyX0, rfl, iX0, by decide, gm 171 (by decide +kernel) rfl, tyX0_ok, nmX0, rfl, (fun h => by cases h), rfl⟩
theorem fi_0_30 : FP RX0 30 0 4 false (.int) := ⟨_, _, _, tyX0, rfl, iX0, by decide, gm 173 (by decide +kernel) rfl, tyX0_ok, nmX0, rfl, (fun h => by cases h), rfl⟩
theorem fi_0_33 : FP RX0 33 0 5 false (.int) := ⟨_, _, _, tyX0, rfl, iX0, by decide, gm 175 (by decide +kernel) rfl, tyX0_ok, nmX0, rfl, (fun h => by cases h), rfl⟩
theorem fi_0_36 : FP RX0 36 0 6 true (.array .int) := ⟨_, _, _, tyX0, rfl, iX0, by decide, gm 178 (by decide +kernel) rfl, tyX0_ok, nmX0, rfl, (fun h => rfl), rfl⟩
theorem fi_0_40 : FP RX0 40 0 7 true (.array .int) := ⟨_, _, _, tyX0, rfl, iX0, by decide, gm 180 (by decide +kernel) rfl, tyX0_ok, nmX0, rfl, (fun h => rfl), rfl⟩
theorem fi_0_43 : FP RX0 43 0 8 true (.array .int) := ⟨_, _, _, tyX0, rfl, iX0, by decide, gm 182 (by decide +kernel) rfl, tyX0_ok, nmX0, rfl, (fun h => rfl), rfl⟩
theorem fi_0_46 : FP RX0 46 0 9 false (.int) := ⟨_, _, _, tyX0, rfl, iX0, by decide, gm 184 (by decide +kernel) rfl, tyX0_ok, nmX0, rfl, (fun h => by cases h), rfl⟩
theorem fi_0_49 : FP RX0 49 0 10 false (.int) := ⟨_, _, _, tyX0, rfl, iX0, by decide, gm 186 (by decide +kernel) rfl, tyX0_ok, nmX0, rfl, (fun h => by cases h), rfl⟩
theorem fi_0_52 : FP RX0 52 0 11 false (.int) := ⟨_, _, _, tyX0, rfl, iX0, by decide, gm 188 (by decide +kernel) rfl, tyX0_ok, nmX0, rfl, (fun h => by cases h), rfl⟩
theorem fi_0_55 : FP RX0 55 0 12 true (.array .long) := ⟨_, _, _, tyX0, rfl, iX0, by decide, gm 190 (by decide +kernel) rfl, tyX0_ok, nmX0, rfl, (fun h => rfl), rfl⟩
theorem fj_0_11 : FL RX0 11 0 0 := ⟨_, _, _, rfl, iX0, by decide, gm 160 (by decide +kernel) rfl⟩
theorem nw_0_9 : NW RX0 9 5 8 [false, false, false, false, false, false, false, true] := ⟨_, _, tyX5, rfl, iX5, tyX5_ok, gm 61 (by decide +kernel) rfl, gm 65 (by decide +kernel) rfl, gm 39 (by decide +kernel) rfl, rfl, by decide +kernel⟩
theorem fj_0_23 : FL RX0 23 0 2 := ⟨_, _, _, rfl, iX0, by decide, gm 168 (by decide +kernel) rfl⟩
theorem nw_0_21 : NW RX0 21 2 11 [false, false, false, false, false, false, false, false, false, false, true] := ⟨_, _, tyX2, rfl, iX2, tyX2_ok, gm 63 (by decide +kernel) rfl, gm 104 (by decide +kernel) rfl, gm 40 (by decide +kernel) rfl, rfl, by decide +kernel⟩
theorem fi_0_61 : FP RX0 61 2 0 false (.int) := ⟨_, _, _, tyX2, rfl, iX2, by decide, gm 109 (by decide +kernel) rfl, tyX2_ok, nmX2, rfl, (fun h => by cases h), rfl⟩
abbrev I_X0_init_1 : MI := (yX0_init, cX0_init, 2, none, { frames := 2, cells := 42, slots := 742, locals := 40 })
def r_X0_init_1 : Rf := (up2 (up2 (up2 (up2 (up2 (up2 (up2 (up2 (up2 (up2 (up2 (up2 (up2 (up2 (up2 (up2 (up2 (up2 (up2 (up2 (up2 (up2 (up2 (up2 (up2 (up2 (up2 (up2 (up2 (up2 (up2 (up2 (up2 (up2 (up2 (up2 (up2 (up2 (up2 (up2 (up2 (up2 rho0 1 0 (some 2)) 1 2 (some 3)) 1 6 (some 4)) 1 7 (some 5)) 1 8 (some 6)) 1 12 (some 7)) 8 7 (some 9)) 2 (ix (0 : Int32)) (some 8)) 10 7 (some 11)) 2 (ix (1 : Int32)) (some 10)) 12 7 (some 13)) 2 (ix (2 : Int32)) (some 12)) 14 7 (some 15)) 2 (ix (3 : Int32)) (some 14)) 16 7 (some 17)) 2 (ix (4 : Int32)) (some 16)) 18 7 (some 19)) 2 (ix (5 : Int32)) (some 18)) 20 10 (some 21)) 3 (ix (0 : Int32)) (some 20)) 22 10 (some 23)) 3 (ix (1 : Int32)) (some 22)) 24 10 (some 25)) 3 (ix (2 : Int32)) (some 24)) 26 10 (some 27)) 3 (ix (3 : Int32)) (some 26)) 28 10 (some 29)) 3 (ix (4 : Int32)) (some 28)) 30 10 (some 31)) 3 (ix (5 : Int32)) (some 30)) 32 10 (some 33)) 3 (ix (6 : Int32)) (some 32)) 34 10 (some 35)) 3 (ix (7 : Int32)) (some 34)) 36 10 (some 37)) 3 (ix (8 : Int32)) (some 36)) 38 10 (some 39)) 3 (ix (9 : Int32)) (some 38)) 40 10 (some 41)) 3 (ix (10 : Int32)) (some 40)) 42 10 (some 43)) 3 (ix (11 : Int32)) (some 42))
def s_X0_init_1 : St := (wr (wr (wr (wr (wr (wr (wr (wr (wr (wr (wr (wr (wr (wr (wr (wr (wr (wr (wr St0 1 1 (0 : Int32)) 1 3 (3 : Int32)) 1 4 (0 : Int32)) 1 5 (0 : Int32)) 1 9 (0 : Int32)) 1 10 (-1 : Int32)) 1 11 (0 : Int32)) 20 0 (0 : Int32)) 22 0 (1 : Int32)) 24 0 (2 : Int32)) 26 0 (3 : Int32)) 28 0 (4 : Int32)) 30 0 (5 : Int32)) 32 0 (6 : Int32)) 34 0 (7 : Int32)) 36 0 (8 : Int32)) 38 0 (9 : Int32)) 40 0 (10 : Int32)) 42 0 (11 : Int32))
set_option maxRecDepth 100000 in
set_option maxHeartbeats 4000000 in
theorem c_X0_init_1 (l : Launch) (w : Wd) : Ct l w I_X0_init_1 [.ref (w.2.1 + 1)] 2 rho0 St0 (44, r_X0_init_1, s_X0_init_1, 42, 742) none := by
  refine Ct.of (Nat.le_of_ble_eq_true rfl) pn_0 ?_
  refine g_aload_n (y := I_X0_init_1) 0 dX0_init_0 rfl rfl ?_
  refine g_objInit (y := I_X0_init_1) (gm 60 (by decide +kernel) rfl) oi_i oi_c (Nat.le_of_ble_eq_true rfl) (Nat.le_of_ble_eq_true rfl) dX0_init_1 ?_
  refine g_aload_n (y := I_X0_init_1) 0 dX0_init_4 rfl rfl ?_
  refine g_bipush (y := I_X0_init_1) (v := 6) dX0_init_5 (by decide) ?_
  refine g_newQ (y := I_X0_init_1) (t := 0) (CC := "OrchardBook$Sort") (gm 61 (by decide +kernel) rfl) (fun _ h => h.2.1) (show kd 2 = _ from rfl) rfl (fun _ => rfl) (by decide) (by decide) (by decide) (Nat.le_of_ble_eq_true rfl) (Nat.le_of_ble_eq_true rfl) dX0_init_7 ?_
  refine g_lit (n' := 3) (k' := 1) (z' := 6) rfl rfl rfl ?_
  refine g_putR (y := I_X0_init_1) fi_0_11 rfl (show kd 1 = _ from rfl) rfl (by decide) rfl rfl dX0_init_10 ?_
  refine g_aload_n (y := I_X0_init_1) 0 dX0_init_13 rfl rfl ?_
  refine g_iconst (y := I_X0_init_1) (v := 0) dX0_init_14 (by decide) ?_
  refine g_putI (y := I_X0_init_1) fi_0_17 (show kd 1 = _ from rfl) rfl (by decide) rfl rfl dX0_init_15 ?_
  refine g_aload_n (y := I_X0_init_1) 0 dX0_init_18 rfl rfl ?_
  refine g_bipush (y := I_X0_init_1) (v := 12) dX0_init_19 (by decide) ?_
  refine g_newQ (y := I_X0_init_1) (t := 1) (CC := "OrchardBook$Place") (gm 63 (by decide +kernel) rfl) (fun _ h => h.2.2.1) (show kd 3 = _ from rfl) rfl (fun _ => rfl) (by decide) (by decide) (by decide) (Nat.le_of_ble_eq_true rfl) (Nat.le_of_ble_eq_true rfl) dX0_init_21 ?_
  refine g_lit (n' := 4) (k' := 2) (z' := 18) rfl rfl rfl ?_
  refine g_putR (y := I_X0_init_1) fi_0_23 rfl (show kd 1 = _ from rfl) rfl (by decide) rfl rfl dX0_init_24 ?_
  refine g_aload_n (y := I_X0_init_1) 0 dX0_init_27 rfl rfl ?_
  refine g_iconst (y := I_X0_init_1) (v := 3) dX0_init_28 (by decide) ?_
  refine g_putI (y := I_X0_init_1) fi_0_27 (show kd 1 = _ from rfl) rfl (by decide) rfl rfl dX0_init_29 ?_
  refine g_aload_n (y := I_X0_init_1) 0 dX0_init_32 rfl rfl ?_
  refine g_iconst (y := I_X0_init_1) (v := 0) dX0_init_33 (by decide) ?_
  refine g_putI (y := I_X0_init_1) fi_0_30 (show kd 1 = _ from rfl) rfl (by decide) rfl rfl dX0_init_34 ?_
  refine g_aload_n (y := I_X0_init_1) 0 dX0_init_37 rfl rfl ?_
  refine g_iconst (y := I_X0_init_1) (v := 0) dX0_init_38 (by decide) ?_
  refine g_putI (y := I_X0_init_1) fi_0_33 (show kd 1 = _ from rfl) rfl (by decide) rfl rfl dX0_init_39 ?_
  refine g_aload_n (y := I_X0_init_1) 0 dX0_init_42 rfl rfl ?_
  refine g_bipush (y := I_X0_init_1) (v := 50) dX0_init_43 (by decide) ?_
  refine g_newI (y := I_X0_init_1) ac_int (show kd 4 = _ from rfl) (fun _ => rfl) (by decide) (by decide) (by decide) (Nat.le_of_ble_eq_true rfl) (Nat.le_of_ble_eq_true rfl) dX0_init_45 ?_
  refine g_lit (n' := 5) (k' := 3) (z' := 68) rfl rfl rfl ?_
  refine g_putR (y := I_X0_init_1) fi_0_36 rfl (show kd 1 = _ from rfl) rfl (by decide) rfl rfl dX0_init_47 ?_
  refine g_aload_n (y := I_X0_init_1) 0 dX0_init_50 rfl rfl ?_
  refine g_bipush (y := I_X0_init_1) (v := 50) dX0_init_51 (by decide) ?_
  refine g_newI (y := I_X0_init_1) ac_int (show kd 5 = _ from rfl) (fun _ => rfl) (by decide) (by decide) (by decide) (Nat.le_of_ble_eq_true rfl) (Nat.le_of_ble_eq_true rfl) dX0_init_53 ?_
  refine g_lit (n' := 6) (k' := 4) (z' := 118) rfl rfl rfl ?_
  refine g_putR (y := I_X0_init_1) fi_0_40 rfl (show kd 1 = _ from rfl) rfl (by decide) rfl rfl dX0_init_55 ?_
  refine g_aload_n (y := I_X0_init_1) 0 dX0_init_58 rfl rfl ?_
  refine g_bipush (y := I_X0_init_1) (v := 50) dX0_init_59 (by decide) ?_
  refine g_newI (y := I_X0_init_1) ac_int (show kd 6 = _ from rfl) (fun _ => rfl) (by decide) (by decide) (by decide) (Nat.le_of_ble_eq_true rfl) (Nat.le_of_ble_eq_true rfl) dX0_init_61 ?_
  refine g_lit (n' := 7) (k' := 5) (z' := 168) rfl rfl rfl ?_
  refine g_putR (y := I_X0_init_1) fi_0_43 rfl (show kd 1 = _ from rfl) rfl (by decide) rfl rfl dX0_init_63 ?_
  refine g_aload_n (y := I_X0_init_1) 0 dX0_init_66 rfl rfl ?_
  refine g_iconst (y := I_X0_init_1) (v := 0) dX0_init_67 (by decide) ?_
  refine g_putI (y := I_X0_init_1) fi_0_46 (show kd 1 = _ from rfl) rfl (by decide) rfl rfl dX0_init_68 ?_
  refine g_aload_n (y := I_X0_init_1) 0 dX0_init_71 rfl rfl ?_
  refine g_iconst (y := I_X0_init_1) (v := -1) dX0_init_72 (by decide) ?_
  refine g_putI (y := I_X0_init_1) fi_0_49 (show kd 1 = _ from rfl) rfl (by decide) rfl rfl dX0_init_73 ?_
  refine g_aload_n (y := I_X0_init_1) 0 dX0_init_76 rfl rfl ?_
  refine g_iconst (y := I_X0_init_1) (v := 0) dX0_init_77 (by decide) ?_
  refine g_putI (y := I_X0_init_1) fi_0_52 (show kd 1 = _ from rfl) rfl (by decide) rfl rfl dX0_init_78 ?_
  refine g_aload_n (y := I_X0_init_1) 0 dX0_init_81 rfl rfl ?_
  refine g_bipush (y := I_X0_init_1) (v := 10) dX0_init_82 (by decide) ?_
  refine g_newL (y := I_X0_init_1) ac_long (show kd 7 = _ from rfl) (fun _ => rfl) (by decide) (by decide) (by decide) (Nat.le_of_ble_eq_true rfl) (Nat.le_of_ble_eq_true rfl) dX0_init_84 ?_
  refine g_lit (n' := 8) (k' := 6) (z' := 178) rfl rfl rfl ?_
  refine g_putR (y := I_X0_init_1) fi_0_55 rfl (show kd 1 = _ from rfl) rfl (by decide) rfl rfl dX0_init_86 ?_
  refine g_iconst (y := I_X0_init_1) (v := 0) dX0_init_89 (by decide) ?_
  refine g_istore_n (y := I_X0_init_1) (ls' := [(1, .int (0 : Int32)), (0, .ref (w.2.1 + 1))]) dX0_init_90 rfl (by decide) rfl ?_
  refine g_iload_n (y := I_X0_init_1) 0 dX0_init_91 rfl rfl ?_
  refine g_bipush (y := I_X0_init_1) (v := 6) dX0_init_92 (by decide) ?_
  refine g_icmp_ge (y := I_X0_init_1) 116 dX0_init_94 (by decide) (fun h => absurd h (by decide)) (fun _ => ?_)
  refine g_aload_n (y := I_X0_init_1) 1 dX0_init_97 rfl rfl ?_
  refine g_get (y := I_X0_init_1) (v := .ref (w.2.1 + 2)) fj_0_11 (show kd 1 = _ from rfl) (b := true) rfl (by decide) rfl dX0_init_98 ?_
  refine g_iload_n (y := I_X0_init_1) 0 dX0_init_101 rfl rfl ?_
  refine g_new (y := I_X0_init_1) nw_0_9 (show kd 8 = _ from rfl) (fun _ => rfl) (fun _ => rfl) (Nat.le_of_ble_eq_true rfl) (Nat.le_of_ble_eq_true rfl) dX0_init_102 ?_
  refine g_lit (n' := 9) (k' := 7) (z' := 186) rfl rfl rfl ?_
  refine g_dup (y := I_X0_init_1) dX0_init_105 rfl ?_
  refine g_callIN (y := I_X0_init_1) (y' := I_X5_init) (As := []) (host := "OrchardBook") ⟨by decide +kernel, gm 68 (by decide +kernel) rfl, gm 39 (by decide +kernel) rfl, mh_5.1, mh_5.2, by decide +kernel⟩ rfl (gm 67 (by decide +kernel) rfl) rfl ⟨Nat.le_of_ble_eq_true rfl, Nat.le_of_ble_eq_true rfl⟩ rfl rfl rfl (Nat.le_of_ble_eq_true rfl) ⟨Nat.le_of_ble_eq_true rfl, Nat.le_of_ble_eq_true rfl⟩ (by decide) rfl dX0_init_106 (c_X5_init l w 8 9 _ _ (show kd 8 = _ from rfl) (by decide) (show kd 9 = _ from rfl) (fun _ => rfl)) ?_
  refine g_lit (n' := 10) (k' := 8) (z' := 246) rfl rfl rfl ?_
  refine g_aast (y := I_X0_init_1) (tt := 0) (show kd 2 = _ from rfl) (by decide) (show kd 8 = _ from rfl) (by decide) rfl rfl (by decide) dX0_init_109 ?_
  refine g_iinc (y := I_X0_init_1) 0 (v := 1) (ls' := [(1, .int (1 : Int32)), (0, .ref (w.2.1 + 1))]) dX0_init_110 rfl (by decide) (by decide) rfl ?_
  refine g_goto (y := I_X0_init_1) 91 dX0_init_113 (by decide) ?_
  refine g_iload_n (y := I_X0_init_1) 0 dX0_init_91 rfl rfl ?_
  refine g_bipush (y := I_X0_init_1) (v := 6) dX0_init_92 (by decide) ?_
  refine g_icmp_ge (y := I_X0_init_1) 116 dX0_init_94 (by decide) (fun h => absurd h (by decide)) (fun _ => ?_)
  refine g_aload_n (y := I_X0_init_1) 1 dX0_init_97 rfl rfl ?_
  refine g_get (y := I_X0_init_1) (v := .ref (w.2.1 + 2)) fj_0_11 (show kd 1 = _ from rfl) (b := true) rfl (by decide) rfl dX0_init_98 ?_
  refine g_iload_n (y := I_X0_init_1) 0 dX0_init_101 rfl rfl ?_
  refine g_new (y := I_X0_init_1) nw_0_9 (show kd 10 = _ from rfl) (fun _ => rfl) (fun _ => rfl) (Nat.le_of_ble_eq_true rfl) (Nat.le_of_ble_eq_true rfl) dX0_init_102 ?_
  refine g_lit (n' := 11) (k' := 9) (z' := 254) rfl rfl rfl ?_
  refine g_dup (y := I_X0_init_1) dX0_init_105 rfl ?_
  refine g_callIN (y := I_X0_init_1) (y' := I_X5_init) (As := []) (host := "OrchardBook") ⟨by decide +kernel, gm 68 (by decide +kernel) rfl, gm 39 (by decide +kernel) rfl, mh_5.1, mh_5.2, by decide +kernel⟩ rfl (gm 67 (by decide +kernel) rfl) rfl ⟨Nat.le_of_ble_eq_true rfl, Nat.le_of_ble_eq_true rfl⟩ rfl rfl rfl (Nat.le_of_ble_eq_true rfl) ⟨Nat.le_of_ble_eq_true rfl, Nat.le_of_ble_eq_true rfl⟩ (by decide) rfl dX0_init_106 (c_X5_init l w 10 11 _ _ (show kd 10 = _ from rfl) (by decide) (show kd 11 = _ from rfl) (fun _ => rfl)) ?_
  refine g_lit (n' := 12) (k' := 10) (z' := 314) rfl rfl rfl ?_
  refine g_aast (y := I_X0_init_1) (tt := 0) (show kd 2 = _ from rfl) (by decide) (show kd 10 = _ from rfl) (by decide) rfl rfl (by decide) dX0_init_109 ?_
  refine g_iinc (y := I_X0_init_1) 0 (v := 2) (ls' := [(1, .int (2 : Int32)), (0, .ref (w.2.1 + 1))]) dX0_init_110 rfl (by decide) (by decide) rfl ?_
  refine g_goto (y := I_X0_init_1) 91 dX0_init_113 (by decide) ?_
  refine g_iload_n (y := I_X0_init_1) 0 dX0_init_91 rfl rfl ?_
  refine g_bipush (y := I_X0_init_1) (v := 6) dX0_init_92 (by decide) ?_
  refine g_icmp_ge (y := I_X0_init_1) 116 dX0_init_94 (by decide) (fun h => absurd h (by decide)) (fun _ => ?_)
  refine g_aload_n (y := I_X0_init_1) 1 dX0_init_97 rfl rfl ?_
  refine g_get (y := I_X0_init_1) (v := .ref (w.2.1 + 2)) fj_0_11 (show kd 1 = _ from rfl) (b := true) rfl (by decide) rfl dX0_init_98 ?_
  refine g_iload_n (y := I_X0_init_1) 0 dX0_init_101 rfl rfl ?_
  refine g_new (y := I_X0_init_1) nw_0_9 (show kd 12 = _ from rfl) (fun _ => rfl) (fun _ => rfl) (Nat.le_of_ble_eq_true rfl) (Nat.le_of_ble_eq_true rfl) dX0_init_102 ?_
  refine g_lit (n' := 13) (k' := 11) (z' := 322) rfl rfl rfl ?_
  refine g_dup (y := I_X0_init_1) dX0_init_105 rfl ?_
  refine g_callIN (y := I_X0_init_1) (y' := I_X5_init) (As := []) (host := "OrchardBook") ⟨by decide +kernel, gm 68 (by decide +kernel) rfl, gm 39 (by decide +kernel) rfl, mh_5.1, mh_5.2, by decide +kernel⟩ rfl (gm 67 (by decide +kernel) rfl) rfl ⟨Nat.le_of_ble_eq_true rfl, Nat.le_of_ble_eq_true rfl⟩ rfl rfl rfl (Nat.le_of_ble_eq_true rfl) ⟨Nat.le_of_ble_eq_true rfl, Nat.le_of_ble_eq_true rfl⟩ (by decide) rfl dX0_init_106 (c_X5_init l w 12 13 _ _ (show kd 12 = _ from rfl) (by decide) (show kd 13 = _ from rfl) (fun _ => rfl)) ?_
  refine g_lit (n' := 14) (k' := 12) (z' := 382) rfl rfl rfl ?_
  refine g_aast (y := I_X0_init_1) (tt := 0) (show kd 2 = _ from rfl) (by decide) (show kd 12 = _ from rfl) (by decide) rfl rfl (by decide) dX0_init_109 ?_
  refine g_iinc (y := I_X0_init_1) 0 (v := 3) (ls' := [(1, .int (3 : Int32)), (0, .ref (w.2.1 + 1))]) dX0_init_110 rfl (by decide) (by decide) rfl ?_
  refine g_goto (y := I_X0_init_1) 91 dX0_init_113 (by decide) ?_
  refine g_iload_n (y := I_X0_init_1) 0 dX0_init_91 rfl rfl ?_
  refine g_bipush (y := I_X0_init_1) (v := 6) dX0_init_92 (by decide) ?_
  refine g_icmp_ge (y := I_X0_init_1) 116 dX0_init_94 (by decide) (fun h => absurd h (by decide)) (fun _ => ?_)
  refine g_aload_n (y := I_X0_init_1) 1 dX0_init_97 rfl rfl ?_
  refine g_get (y := I_X0_init_1) (v := .ref (w.2.1 + 2)) fj_0_11 (show kd 1 = _ from rfl) (b := true) rfl (by decide) rfl dX0_init_98 ?_
  refine g_iload_n (y := I_X0_init_1) 0 dX0_init_101 rfl rfl ?_
  refine g_new (y := I_X0_init_1) nw_0_9 (show kd 14 = _ from rfl) (fun _ => rfl) (fun _ => rfl) (Nat.le_of_ble_eq_true rfl) (Nat.le_of_ble_eq_true rfl) dX0_init_102 ?_
  refine g_lit (n' := 15) (k' := 13) (z' := 390) rfl rfl rfl ?_
  refine g_dup (y := I_X0_init_1) dX0_init_105 rfl ?_
  refine g_callIN (y := I_X0_init_1) (y' := I_X5_init) (As := []) (host := "OrchardBook") ⟨by decide +kernel, gm 68 (by decide +kernel) rfl, gm 39 (by decide +kernel) rfl, mh_5.1, mh_5.2, by decide +kernel⟩ rfl (gm 67 (by decide +kernel) rfl) rfl ⟨Nat.le_of_ble_eq_true rfl, Nat.le_of_ble_eq_true rfl⟩ rfl rfl rfl (Nat.le_of_ble_eq_true rfl) ⟨Nat.le_of_ble_eq_true rfl, Nat.le_of_ble_eq_true rfl⟩ (by decide) rfl dX0_init_106 (c_X5_init l w 14 15 _ _ (show kd 14 = _ from rfl) (by decide) (show kd 15 = _ from rfl) (fun _ => rfl)) ?_
  refine g_lit (n' := 16) (k' := 14) (z' := 450) rfl rfl rfl ?_
  refine g_aast (y := I_X0_init_1) (tt := 0) (show kd 2 = _ from rfl) (by decide) (show kd 14 = _ from rfl) (by decide) rfl rfl (by decide) dX0_init_109 ?_
  refine g_iinc (y := I_X0_init_1) 0 (v := 4) (ls' := [(1, .int (4 : Int32)), (0, .ref (w.2.1 + 1))]) dX0_init_110 rfl (by decide) (by decide) rfl ?_
  refine g_goto (y := I_X0_init_1) 91 dX0_init_113 (by decide) ?_
  refine g_iload_n (y := I_X0_init_1) 0 dX0_init_91 rfl rfl ?_
  refine g_bipush (y := I_X0_init_1) (v := 6) dX0_init_92 (by decide) ?_
  refine g_icmp_ge (y := I_X0_init_1) 116 dX0_init_94 (by decide) (fun h => absurd h (by decide)) (fun _ => ?_)
  refine g_aload_n (y := I_X0_init_1) 1 dX0_init_97 rfl rfl ?_
  refine g_get (y := I_X0_init_1) (v := .ref (w.2.1 + 2)) fj_0_11 (show kd 1 = _ from rfl) (b := true) rfl (by decide) rfl dX0_init_98 ?_
  refine g_iload_n (y := I_X0_init_1) 0 dX0_init_101 rfl rfl ?_
  refine g_new (y := I_X0_init_1) nw_0_9 (show kd 16 = _ from rfl) (fun _ => rfl) (fun _ => rfl) (Nat.le_of_ble_eq_true rfl) (Nat.le_of_ble_eq_true rfl) dX0_init_102 ?_
  refine g_lit (n' := 17) (k' := 15) (z' := 458) rfl rfl rfl ?_
  refine g_dup (y := I_X0_init_1) dX0_init_105 rfl ?_
  refine g_callIN (y := I_X0_init_1) (y' := I_X5_init) (As := []) (host := "OrchardBook") ⟨by decide +kernel, gm 68 (by decide +kernel) rfl, gm 39 (by decide +kernel) rfl, mh_5.1, mh_5.2, by decide +kernel⟩ rfl (gm 67 (by decide +kernel) rfl) rfl ⟨Nat.le_of_ble_eq_true rfl, Nat.le_of_ble_eq_true rfl⟩ rfl rfl rfl (Nat.le_of_ble_eq_true rfl) ⟨Nat.le_of_ble_eq_true rfl, Nat.le_of_ble_eq_true rfl⟩ (by decide) rfl dX0_init_106 (c_X5_init l w 16 17 _ _ (show kd 16 = _ from rfl) (by decide) (show kd 17 = _ from rfl) (fun _ => rfl)) ?_
  refine g_lit (n' := 18) (k' := 16) (z' := 518) rfl rfl rfl ?_
  refine g_aast (y := I_X0_init_1) (tt := 0) (show kd 2 = _ from rfl) (by decide) (show kd 16 = _ from rfl) (by decide) rfl rfl (by decide) dX0_init_109 ?_
  refine g_iinc (y := I_X0_init_1) 0 (v := 5) (ls' := [(1, .int (5 : Int32)), (0, .ref (w.2.1 + 1))]) dX0_init_110 rfl (by decide) (by decide) rfl ?_
  refine g_goto (y := I_X0_init_1) 91 dX0_init_113 (by decide) ?_
  refine g_iload_n (y := I_X0_init_1) 0 dX0_init_91 rfl rfl ?_
  refine g_bipush (y := I_X0_init_1) (v := 6) dX0_init_92 (by decide) ?_
  refine g_icmp_ge (y := I_X0_init_1) 116 dX0_init_94 (by decide) (fun h => absurd h (by decide)) (fun _ => ?_)
  refine g_aload_n (y := I_X0_init_1) 1 dX0_init_97 rfl rfl ?_
  refine g_get (y := I_X0_init_1) (v := .ref (w.2.1 + 2)) fj_0_11 (show kd 1 = _ from rfl) (b := true) rfl (by decide) rfl dX0_init_98 ?_
  refine g_iload_n (y := I_X0_init_1) 0 dX0_init_101 rfl rfl ?_
  refine g_new (y := I_X0_init_1) nw_0_9 (show kd 18 = _ from rfl) (fun _ => rfl) (fun _ => rfl) (Nat.le_of_ble_eq_true rfl) (Nat.le_of_ble_eq_true rfl) dX0_init_102 ?_
  refine g_lit (n' := 19) (k' := 17) (z' := 526) rfl rfl rfl ?_
  refine g_dup (y := I_X0_init_1) dX0_init_105 rfl ?_
  refine g_callIN (y := I_X0_init_1) (y' := I_X5_init) (As := []) (host := "OrchardBook") ⟨by decide +kernel, gm 68 (by decide +kernel) rfl, gm 39 (by decide +kernel) rfl, mh_5.1, mh_5.2, by decide +kernel⟩ rfl (gm 67 (by decide +kernel) rfl) rfl ⟨Nat.le_of_ble_eq_true rfl, Nat.le_of_ble_eq_true rfl⟩ rfl rfl rfl (Nat.le_of_ble_eq_true rfl) ⟨Nat.le_of_ble_eq_true rfl, Nat.le_of_ble_eq_true rfl⟩ (by decide) rfl dX0_init_106 (c_X5_init l w 18 19 _ _ (show kd 18 = _ from rfl) (by decide) (show kd 19 = _ from rfl) (fun _ => rfl)) ?_
  refine g_lit (n' := 20) (k' := 18) (z' := 586) rfl rfl rfl ?_
  refine g_aast (y := I_X0_init_1) (tt := 0) (show kd 2 = _ from rfl) (by decide) (show kd 18 = _ from rfl) (by decide) rfl rfl (by decide) dX0_init_109 ?_
  refine g_iinc (y := I_X0_init_1) 0 (v := 6) (ls' := [(1, .int (6 : Int32)), (0, .ref (w.2.1 + 1))]) dX0_init_110 rfl (by decide) (by decide) rfl ?_
  refine g_goto (y := I_X0_init_1) 91 dX0_init_113 (by decide) ?_
  refine g_iload_n (y := I_X0_init_1) 0 dX0_init_91 rfl rfl ?_
  refine g_bipush (y := I_X0_init_1) (v := 6) dX0_init_92 (by decide) ?_
  refine g_icmp_ge (y := I_X0_init_1) 116 dX0_init_94 (by decide) (fun _ => ?_) (fun h => absurd (by decide) h)
  refine g_iconst (y := I_X0_init_1) (v := 0) dX0_init_116 (by decide) ?_
  refine g_istore_n (y := I_X0_init_1) (ls' := [(1, .int (0 : Int32)), (0, .ref (w.2.1 + 1))]) dX0_init_117 rfl (by decide) rfl ?_
  refine g_iload_n (y := I_X0_init_1) 0 dX0_init_118 rfl rfl ?_
  refine g_bipush (y := I_X0_init_1) (v := 12) dX0_init_119 (by decide) ?_
  refine g_icmp_ge (y := I_X0_init_1) 153 dX0_init_121 (by decide) (fun h => absurd h (by decide)) (fun _ => ?_)
  refine g_aload_n (y := I_X0_init_1) 1 dX0_init_124 rfl rfl ?_
  refine g_get (y := I_X0_init_1) (v := .ref (w.2.1 + 3)) fj_0_23 (show kd 1 = _ from rfl) (b := true) rfl (by decide) rfl dX0_init_125 ?_
  refine g_iload_n (y := I_X0_init_1) 0 dX0_init_128 rfl rfl ?_
  refine g_new (y := I_X0_init_1) nw_0_21 (show kd 20 = _ from rfl) (fun _ => rfl) (fun _ => rfl) (Nat.le_of_ble_eq_true rfl) (Nat.le_of_ble_eq_true rfl) dX0_init_129 ?_
  refine g_lit (n' := 21) (k' := 19) (z' := 597) rfl rfl rfl ?_
  refine g_dup (y := I_X0_init_1) dX0_init_132 rfl ?_
  refine g_callIN (y := I_X0_init_1) (y' := I_X2_init) (As := []) (host := "OrchardBook") ⟨by decide +kernel, gm 107 (by decide +kernel) rfl, gm 40 (by decide +kernel) rfl, mh_2.1, mh_2.2, by decide +kernel⟩ rfl (gm 106 (by decide +kernel) rfl) rfl ⟨Nat.le_of_ble_eq_true rfl, Nat.le_of_ble_eq_true rfl⟩ rfl rfl rfl (Nat.le_of_ble_eq_true rfl) ⟨Nat.le_of_ble_eq_true rfl, Nat.le_of_ble_eq_true rfl⟩ (by decide) rfl dX0_init_133 (c_X2_init l w 20 21 _ _ (show kd 20 = _ from rfl) (by decide) (show kd 21 = _ from rfl) (fun _ => rfl)) ?_
  refine g_lit (n' := 22) (k' := 20) (z' := 599) rfl rfl rfl ?_
  refine g_aast (y := I_X0_init_1) (tt := 1) (show kd 3 = _ from rfl) (by decide) (show kd 20 = _ from rfl) (by decide) rfl rfl (by decide) dX0_init_136 ?_
  refine g_aload_n (y := I_X0_init_1) 1 dX0_init_137 rfl rfl ?_
  refine g_get (y := I_X0_init_1) (v := .ref (w.2.1 + 3)) fj_0_23 (show kd 1 = _ from rfl) (b := true) rfl (by decide) rfl dX0_init_138 ?_
  refine g_iload_n (y := I_X0_init_1) 0 dX0_init_141 rfl rfl ?_
  refine g_aald (y := I_X0_init_1) (j := 20) (tt := 1) (show kd 3 = _ from rfl) (by decide) (by decide) rfl rfl dX0_init_142 ?_
  refine g_iload_n (y := I_X0_init_1) 0 dX0_init_143 rfl rfl ?_
  refine g_putI (y := I_X0_init_1) fi_0_61 (show kd 20 = _ from rfl) rfl (by decide) rfl rfl dX0_init_144 ?_
  refine g_iinc (y := I_X0_init_1) 0 (v := 1) (ls' := [(1, .int (1 : Int32)), (0, .ref (w.2.1 + 1))]) dX0_init_147 rfl (by decide) (by decide) rfl ?_
  refine g_goto (y := I_X0_init_1) 118 dX0_init_150 (by decide) ?_
  refine g_iload_n (y := I_X0_init_1) 0 dX0_init_118 rfl rfl ?_
  refine g_bipush (y := I_X0_init_1) (v := 12) dX0_init_119 (by decide) ?_
  refine g_icmp_ge (y := I_X0_init_1) 153 dX0_init_121 (by decide) (fun h => absurd h (by decide)) (fun _ => ?_)
  refine g_aload_n (y := I_X0_init_1) 1 dX0_init_124 rfl rfl ?_
  refine g_get (y := I_X0_init_1) (v := .ref (w.2.1 + 3)) fj_0_23 (show kd 1 = _ from rfl) (b := true) rfl (by decide) rfl dX0_init_125 ?_
  refine g_iload_n (y := I_X0_init_1) 0 dX0_init_128 rfl rfl ?_
  refine g_new (y := I_X0_init_1) nw_0_21 (show kd 22 = _ from rfl) (fun _ => rfl) (fun _ => rfl) (Nat.le_of_ble_eq_true rfl) (Nat.le_of_ble_eq_true rfl) dX0_init_129 ?_
  refine g_lit (n' := 23) (k' := 21) (z' := 610) rfl rfl rfl ?_
  refine g_dup (y := I_X0_init_1) dX0_init_132 rfl ?_
  refine g_callIN (y := I_X0_init_1) (y' := I_X2_init) (As := []) (host := "OrchardBook") ⟨by decide +kernel, gm 107 (by decide +kernel) rfl, gm 40 (by decide +kernel) rfl, mh_2.1, mh_2.2, by decide +kernel⟩ rfl (gm 106 (by decide +kernel) rfl) rfl ⟨Nat.le_of_ble_eq_true rfl, Nat.le_of_ble_eq_true rfl⟩ rfl rfl rfl (Nat.le_of_ble_eq_true rfl) ⟨Nat.le_of_ble_eq_true rfl, Nat.le_of_ble_eq_true rfl⟩ (by decide) rfl dX0_init_133 (c_X2_init l w 22 23 _ _ (show kd 22 = _ from rfl) (by decide) (show kd 23 = _ from rfl) (fun _ => rfl)) ?_
  refine g_lit (n' := 24) (k' := 22) (z' := 612) rfl rfl rfl ?_
  refine g_aast (y := I_X0_init_1) (tt := 1) (show kd 3 = _ from rfl) (by decide) (show kd 22 = _ from rfl) (by decide) rfl rfl (by decide) dX0_init_136 ?_
  refine g_aload_n (y := I_X0_init_1) 1 dX0_init_137 rfl rfl ?_
  refine g_get (y := I_X0_init_1) (v := .ref (w.2.1 + 3)) fj_0_23 (show kd 1 = _ from rfl) (b := true) rfl (by decide) rfl dX0_init_138 ?_
  refine g_iload_n (y := I_X0_init_1) 0 dX0_init_141 rfl rfl ?_
  refine g_aald (y := I_X0_init_1) (j := 22) (tt := 1) (show kd 3 = _ from rfl) (by decide) (by decide) rfl rfl dX0_init_142 ?_
  refine g_iload_n (y := I_X0_init_1) 0 dX0_init_143 rfl rfl ?_
  refine g_putI (y := I_X0_init_1) fi_0_61 (show kd 22 = _ from rfl) rfl (by decide) rfl rfl dX0_init_144 ?_
  refine g_iinc (y := I_X0_init_1) 0 (v := 2) (ls' := [(1, .int (2 : Int32)), (0, .ref (w.2.1 + 1))]) dX0_init_147 rfl (by decide) (by decide) rfl ?_
  refine g_goto (y := I_X0_init_1) 118 dX0_init_150 (by decide) ?_
  refine g_iload_n (y := I_X0_init_1) 0 dX0_init_118 rfl rfl ?_
  refine g_bipush (y := I_X0_init_1) (v := 12) dX0_init_119 (by decide) ?_
  refine g_icmp_ge (y := I_X0_init_1) 153 dX0_init_121 (by decide) (fun h => absurd h (by decide)) (fun _ => ?_)
  refine g_aload_n (y := I_X0_init_1) 1 dX0_init_124 rfl rfl ?_
  refine g_get (y := I_X0_init_1) (v := .ref (w.2.1 + 3)) fj_0_23 (show kd 1 = _ from rfl) (b := true) rfl (by decide) rfl dX0_init_125 ?_
  refine g_iload_n (y := I_X0_init_1) 0 dX0_init_128 rfl rfl ?_
  refine g_new (y := I_X0_init_1) nw_0_21 (show kd 24 = _ from rfl) (fun _ => rfl) (fun _ => rfl) (Nat.le_of_ble_eq_true rfl) (Nat.le_of_ble_eq_true rfl) dX0_init_129 ?_
  refine g_lit (n' := 25) (k' := 23) (z' := 623) rfl rfl rfl ?_
  refine g_dup (y := I_X0_init_1) dX0_init_132 rfl ?_
  refine g_callIN (y := I_X0_init_1) (y' := I_X2_init) (As := []) (host := "OrchardBook") ⟨by decide +kernel, gm 107 (by decide +kernel) rfl, gm 40 (by decide +kernel) rfl, mh_2.1, mh_2.2, by decide +kernel⟩ rfl (gm 106 (by decide +kernel) rfl) rfl ⟨Nat.le_of_ble_eq_true rfl, Nat.le_of_ble_eq_true rfl⟩ rfl rfl rfl (Nat.le_of_ble_eq_true rfl) ⟨Nat.le_of_ble_eq_true rfl, Nat.le_of_ble_eq_true rfl⟩ (by decide) rfl dX0_init_133 (c_X2_init l w 24 25 _ _ (show kd 24 = _ from rfl) (by decide) (show kd 25 = _ from rfl) (fun _ => rfl)) ?_
  refine g_lit (n' := 26) (k' := 24) (z' := 625) rfl rfl rfl ?_
  refine g_aast (y := I_X0_init_1) (tt := 1) (show kd 3 = _ from rfl) (by decide) (show kd 24 = _ from rfl) (by decide) rfl rfl (by decide) dX0_init_136 ?_
  refine g_aload_n (y := I_X0_init_1) 1 dX0_init_137 rfl rfl ?_
  refine g_get (y := I_X0_init_1) (v := .ref (w.2.1 + 3)) fj_0_23 (show kd 1 = _ from rfl) (b := true) rfl (by decide) rfl dX0_init_138 ?_
  refine g_iload_n (y := I_X0_init_1) 0 dX0_init_141 rfl rfl ?_
  refine g_aald (y := I_X0_init_1) (j := 24) (tt := 1) (show kd 3 = _ from rfl) (by decide) (by decide) rfl rfl dX0_init_142 ?_
  refine g_iload_n (y := I_X0_init_1) 0 dX0_init_143 rfl rfl ?_
  refine g_putI (y := I_X0_init_1) fi_0_61 (show kd 24 = _ from rfl) rfl (by decide) rfl rfl dX0_init_144 ?_
  refine g_iinc (y := I_X0_init_1) 0 (v := 3) (ls' := [(1, .int (3 : Int32)), (0, .ref (w.2.1 + 1))]) dX0_init_147 rfl (by decide) (by decide) rfl ?_
  refine g_goto (y := I_X0_init_1) 118 dX0_init_150 (by decide) ?_
  refine g_iload_n (y := I_X0_init_1) 0 dX0_init_118 rfl rfl ?_
  refine g_bipush (y := I_X0_init_1) (v := 12) dX0_init_119 (by decide) ?_
  refine g_icmp_ge (y := I_X0_init_1) 153 dX0_init_121 (by decide) (fun h => absurd h (by decide)) (fun _ => ?_)
  refine g_aload_n (y := I_X0_init_1) 1 dX0_init_124 rfl rfl ?_
  refine g_get (y := I_X0_init_1) (v := .ref (w.2.1 + 3)) fj_0_23 (show kd 1 = _ from rfl) (b := true) rfl (by decide) rfl dX0_init_125 ?_
  refine g_iload_n (y := I_X0_init_1) 0 dX0_init_128 rfl rfl ?_
  refine g_new (y := I_X0_init_1) nw_0_21 (show kd 26 = _ from rfl) (fun _ => rfl) (fun _ => rfl) (Nat.le_of_ble_eq_true rfl) (Nat.le_of_ble_eq_true rfl) dX0_init_129 ?_
  refine g_lit (n' := 27) (k' := 25) (z' := 636) rfl rfl rfl ?_
  refine g_dup (y := I_X0_init_1) dX0_init_132 rfl ?_
  refine g_callIN (y := I_X0_init_1) (y' := I_X2_init) (As := []) (host := "OrchardBook") ⟨by decide +kernel, gm 107 (by decide +kernel) rfl, gm 40 (by decide +kernel) rfl, mh_2.1, mh_2.2, by decide +kernel⟩ rfl (gm 106 (by decide +kernel) rfl) rfl ⟨Nat.le_of_ble_eq_true rfl, Nat.le_of_ble_eq_true rfl⟩ rfl rfl rfl (Nat.le_of_ble_eq_true rfl) ⟨Nat.le_of_ble_eq_true rfl, Nat.le_of_ble_eq_true rfl⟩ (by decide) rfl dX0_init_133 (c_X2_init l w 26 27 _ _ (show kd 26 = _ from rfl) (by decide) (show kd 27 = _ from rfl) (fun _ => rfl)) ?_
  refine g_lit (n' := 28) (k' := 26) (z' := 638) rfl rfl rfl ?_
  refine g_aast (y := I_X0_init_1) (tt := 1) (show kd 3 = _ from rfl) (by decide) (show kd 26 = _ from rfl) (by decide) rfl rfl (by decide) dX0_init_136 ?_
  refine g_aload_n (y := I_X0_init_1) 1 dX0_init_137 rfl rfl ?_
  refine g_get (y := I_X0_init_1) (v := .ref (w.2.1 + 3)) fj_0_23 (show kd 1 = _ from rfl) (b := true) rfl (by decide) rfl dX0_init_138 ?_
  refine g_iload_n (y := I_X0_init_1) 0 dX0_init_141 rfl rfl ?_
  refine g_aald (y := I_X0_init_1) (j := 26) (tt := 1) (show kd 3 = _ from rfl) (by decide) (by decide) rfl rfl dX0_init_142 ?_
  refine g_iload_n (y := I_X0_init_1) 0 dX0_init_143 rfl rfl ?_
  refine g_putI (y := I_X0_init_1) fi_0_61 (show kd 26 = _ from rfl) rfl (by decide) rfl rfl dX0_init_144 ?_
  refine g_iinc (y := I_X0_init_1) 0 (v := 4) (ls' := [(1, .int (4 : Int32)), (0, .ref (w.2.1 + 1))]) dX0_init_147 rfl (by decide) (by decide) rfl ?_
  refine g_goto (y := I_X0_init_1) 118 dX0_init_150 (by decide) ?_
  refine g_iload_n (y := I_X0_init_1) 0 dX0_init_118 rfl rfl ?_
  refine g_bipush (y := I_X0_init_1) (v := 12) dX0_init_119 (by decide) ?_
  refine g_icmp_ge (y := I_X0_init_1) 153 dX0_init_121 (by decide) (fun h => absurd h (by decide)) (fun _ => ?_)
  refine g_aload_n (y := I_X0_init_1) 1 dX0_init_124 rfl rfl ?_
  refine g_get (y := I_X0_init_1) (v := .ref (w.2.1 + 3)) fj_0_23 (show kd 1 = _ from rfl) (b := true) rfl (by decide) rfl dX0_init_125 ?_
  refine g_iload_n (y := I_X0_init_1) 0 dX0_init_128 rfl rfl ?_
  refine g_new (y := I_X0_init_1) nw_0_21 (show kd 28 = _ from rfl) (fun _ => rfl) (fun _ => rfl) (Nat.le_of_ble_eq_true rfl) (Nat.le_of_ble_eq_true rfl) dX0_init_129 ?_
  refine g_lit (n' := 29) (k' := 27) (z' := 649) rfl rfl rfl ?_
  refine g_dup (y := I_X0_init_1) dX0_init_132 rfl ?_
  refine g_callIN (y := I_X0_init_1) (y' := I_X2_init) (As := []) (host := "OrchardBook") ⟨by decide +kernel, gm 107 (by decide +kernel) rfl, gm 40 (by decide +kernel) rfl, mh_2.1, mh_2.2, by decide +kernel⟩ rfl (gm 106 (by decide +kernel) rfl) rfl ⟨Nat.le_of_ble_eq_true rfl, Nat.le_of_ble_eq_true rfl⟩ rfl rfl rfl (Nat.le_of_ble_eq_true rfl) ⟨Nat.le_of_ble_eq_true rfl, Nat.le_of_ble_eq_true rfl⟩ (by decide) rfl dX0_init_133 (c_X2_init l w 28 29 _ _ (show kd 28 = _ from rfl) (by decide) (show kd 29 = _ from rfl) (fun _ => rfl)) ?_
  refine g_lit (n' := 30) (k' := 28) (z' := 651) rfl rfl rfl ?_
  refine g_aast (y := I_X0_init_1) (tt := 1) (show kd 3 = _ from rfl) (by decide) (show kd 28 = _ from rfl) (by decide) rfl rfl (by decide) dX0_init_136 ?_
  refine g_aload_n (y := I_X0_init_1) 1 dX0_init_137 rfl rfl ?_
  refine g_get (y := I_X0_init_1) (v := .ref (w.2.1 + 3)) fj_0_23 (show kd 1 = _ from rfl) (b := true) rfl (by decide) rfl dX0_init_138 ?_
  refine g_iload_n (y := I_X0_init_1) 0 dX0_init_141 rfl rfl ?_
  refine g_aald (y := I_X0_init_1) (j := 28) (tt := 1) (show kd 3 = _ from rfl) (by decide) (by decide) rfl rfl dX0_init_142 ?_
  refine g_iload_n (y := I_X0_init_1) 0 dX0_init_143 rfl rfl ?_
  refine g_putI (y := I_X0_init_1) fi_0_61 (show kd 28 = _ from rfl) rfl (by decide) rfl rfl dX0_init_144 ?_
  refine g_iinc (y := I_X0_init_1) 0 (v := 5) (ls' := [(1, .int (5 : Int32)), (0, .ref (w.2.1 + 1))]) dX0_init_147 rfl (by decide) (by decide) rfl ?_
  refine g_goto (y := I_X0_init_1) 118 dX0_init_150 (by decide) ?_
  refine g_iload_n (y := I_X0_init_1) 0 dX0_init_118 rfl rfl ?_
  refine g_bipush (y := I_X0_init_1) (v := 12) dX0_init_119 (by decide) ?_
  refine g_icmp_ge (y := I_X0_init_1) 153 dX0_init_121 (by decide) (fun h => absurd h (by decide)) (fun _ => ?_)
  refine g_aload_n (y := I_X0_init_1) 1 dX0_init_124 rfl rfl ?_
  refine g_get (y := I_X0_init_1) (v := .ref (w.2.1 + 3)) fj_0_23 (show kd 1 = _ from rfl) (b := true) rfl (by decide) rfl dX0_init_125 ?_
  refine g_iload_n (y := I_X0_init_1) 0 dX0_init_128 rfl rfl ?_
  refine g_new (y := I_X0_init_1) nw_0_21 (show kd 30 = _ from rfl) (fun _ => rfl) (fun _ => rfl) (Nat.le_of_ble_eq_true rfl) (Nat.le_of_ble_eq_true rfl) dX0_init_129 ?_
  refine g_lit (n' := 31) (k' := 29) (z' := 662) rfl rfl rfl ?_
  refine g_dup (y := I_X0_init_1) dX0_init_132 rfl ?_
  refine g_callIN (y := I_X0_init_1) (y' := I_X2_init) (As := []) (host := "OrchardBook") ⟨by decide +kernel, gm 107 (by decide +kernel) rfl, gm 40 (by decide +kernel) rfl, mh_2.1, mh_2.2, by decide +kernel⟩ rfl (gm 106 (by decide +kernel) rfl) rfl ⟨Nat.le_of_ble_eq_true rfl, Nat.le_of_ble_eq_true rfl⟩ rfl rfl rfl (Nat.le_of_ble_eq_true rfl) ⟨Nat.le_of_ble_eq_true rfl, Nat.le_of_ble_eq_true rfl⟩ (by decide) rfl dX0_init_133 (c_X2_init l w 30 31 _ _ (show kd 30 = _ from rfl) (by decide) (show kd 31 = _ from rfl) (fun _ => rfl)) ?_
  refine g_lit (n' := 32) (k' := 30) (z' := 664) rfl rfl rfl ?_
  refine g_aast (y := I_X0_init_1) (tt := 1) (show kd 3 = _ from rfl) (by decide) (show kd 30 = _ from rfl) (by decide) rfl rfl (by decide) dX0_init_136 ?_
  refine g_aload_n (y := I_X0_init_1) 1 dX0_init_137 rfl rfl ?_
  refine g_get (y := I_X0_init_1) (v := .ref (w.2.1 + 3)) fj_0_23 (show kd 1 = _ from rfl) (b := true) rfl (by decide) rfl dX0_init_138 ?_
  refine g_iload_n (y := I_X0_init_1) 0 dX0_init_141 rfl rfl ?_
  refine g_aald (y := I_X0_init_1) (j := 30) (tt := 1) (show kd 3 = _ from rfl) (by decide) (by decide) rfl rfl dX0_init_142 ?_
  refine g_iload_n (y := I_X0_init_1) 0 dX0_init_143 rfl rfl ?_
  refine g_putI (y := I_X0_init_1) fi_0_61 (show kd 30 = _ from rfl) rfl (by decide) rfl rfl dX0_init_144 ?_
  refine g_iinc (y := I_X0_init_1) 0 (v := 6) (ls' := [(1, .int (6 : Int32)), (0, .ref (w.2.1 + 1))]) dX0_init_147 rfl (by decide) (by decide) rfl ?_
  refine g_goto (y := I_X0_init_1) 118 dX0_init_150 (by decide) ?_
  refine g_iload_n (y := I_X0_init_1) 0 dX0_init_118 rfl rfl ?_
  refine g_bipush (y := I_X0_init_1) (v := 12) dX0_init_119 (by decide) ?_
  refine g_icmp_ge (y := I_X0_init_1) 153 dX0_init_121 (by decide) (fun h => absurd h (by decide)) (fun _ => ?_)
  refine g_aload_n (y := I_X0_init_1) 1 dX0_init_124 rfl rfl ?_
  refine g_get (y := I_X0_init_1) (v := .ref (w.2.1 + 3)) fj_0_23 (show kd 1 = _ from rfl) (b := true) rfl (by decide) rfl dX0_init_125 ?_
  refine g_iload_n (y := I_X0_init_1) 0 dX0_init_128 rfl rfl ?_
  refine g_new (y := I_X0_init_1) nw_0_21 (show kd 32 = _ from rfl) (fun _ => rfl) (fun _ => rfl) (Nat.le_of_ble_eq_true rfl) (Nat.le_of_ble_eq_true rfl) dX0_init_129 ?_
  refine g_lit (n' := 33) (k' := 31) (z' := 675) rfl rfl rfl ?_
  refine g_dup (y := I_X0_init_1) dX0_init_132 rfl ?_
  refine g_callIN (y := I_X0_init_1) (y' := I_X2_init) (As := []) (host := "OrchardBook") ⟨by decide +kernel, gm 107 (by decide +kernel) rfl, gm 40 (by decide +kernel) rfl, mh_2.1, mh_2.2, by decide +kernel⟩ rfl (gm 106 (by decide +kernel) rfl) rfl ⟨Nat.le_of_ble_eq_true rfl, Nat.le_of_ble_eq_true rfl⟩ rfl rfl rfl (Nat.le_of_ble_eq_true rfl) ⟨Nat.le_of_ble_eq_true rfl, Nat.le_of_ble_eq_true rfl⟩ (by decide) rfl dX0_init_133 (c_X2_init l w 32 33 _ _ (show kd 32 = _ from rfl) (by decide) (show kd 33 = _ from rfl) (fun _ => rfl)) ?_
  refine g_lit (n' := 34) (k' := 32) (z' := 677) rfl rfl rfl ?_
  refine g_aast (y := I_X0_init_1) (tt := 1) (show kd 3 = _ from rfl) (by decide) (show kd 32 = _ from rfl) (by decide) rfl rfl (by decide) dX0_init_136 ?_
  refine g_aload_n (y := I_X0_init_1) 1 dX0_init_137 rfl rfl ?_
  refine g_get (y := I_X0_init_1) (v := .ref (w.2.1 + 3)) fj_0_23 (show kd 1 = _ from rfl) (b := true) rfl (by decide) rfl dX0_init_138 ?_
  refine g_iload_n (y := I_X0_init_1) 0 dX0_init_141 rfl rfl ?_
  refine g_aald (y := I_X0_init_1) (j := 32) (tt := 1) (show kd 3 = _ from rfl) (by decide) (by decide) rfl rfl dX0_init_142 ?_
  refine g_iload_n (y := I_X0_init_1) 0 dX0_init_143 rfl rfl ?_
  refine g_putI (y := I_X0_init_1) fi_0_61 (show kd 32 = _ from rfl) rfl (by decide) rfl rfl dX0_init_144 ?_
  refine g_iinc (y := I_X0_init_1) 0 (v := 7) (ls' := [(1, .int (7 : Int32)), (0, .ref (w.2.1 + 1))]) dX0_init_147 rfl (by decide) (by decide) rfl ?_
  refine g_goto (y := I_X0_init_1) 118 dX0_init_150 (by decide) ?_
  refine g_iload_n (y := I_X0_init_1) 0 dX0_init_118 rfl rfl ?_
  refine g_bipush (y := I_X0_init_1) (v := 12) dX0_init_119 (by decide) ?_
  refine g_icmp_ge (y := I_X0_init_1) 153 dX0_init_121 (by decide) (fun h => absurd h (by decide)) (fun _ => ?_)
  refine g_aload_n (y := I_X0_init_1) 1 dX0_init_124 rfl rfl ?_
  refine g_get (y := I_X0_init_1) (v := .ref (w.2.1 + 3)) fj_0_23 (show kd 1 = _ from rfl) (b := true) rfl (by decide) rfl dX0_init_125 ?_
  refine g_iload_n (y := I_X0_init_1) 0 dX0_init_128 rfl rfl ?_
  refine g_new (y := I_X0_init_1) nw_0_21 (show kd 34 = _ from rfl) (fun _ => rfl) (fun _ => rfl) (Nat.le_of_ble_eq_true rfl) (Nat.le_of_ble_eq_true rfl) dX0_init_129 ?_
  refine g_lit (n' := 35) (k' := 33) (z' := 688) rfl rfl rfl ?_
  refine g_dup (y := I_X0_init_1) dX0_init_132 rfl ?_
  refine g_callIN (y := I_X0_init_1) (y' := I_X2_init) (As := []) (host := "OrchardBook") ⟨by decide +kernel, gm 107 (by decide +kernel) rfl, gm 40 (by decide +kernel) rfl, mh_2.1, mh_2.2, by decide +kernel⟩ rfl (gm 106 (by decide +kernel) rfl) rfl ⟨Nat.le_of_ble_eq_true rfl, Nat.le_of_ble_eq_true rfl⟩ rfl rfl rfl (Nat.le_of_ble_eq_true rfl) ⟨Nat.le_of_ble_eq_true rfl, Nat.le_of_ble_eq_true rfl⟩ (by decide) rfl dX0_init_133 (c_X2_init l w 34 35 _ _ (show kd 34 = _ from rfl) (by decide) (show kd 35 = _ from rfl) (fun _ => rfl)) ?_
  refine g_lit (n' := 36) (k' := 34) (z' := 690) rfl rfl rfl ?_
  refine g_aast (y := I_X0_init_1) (tt := 1) (show kd 3 = _ from rfl) (by decide) (show kd 34 = _ from rfl) (by decide) rfl rfl (by decide) dX0_init_136 ?_
  refine g_aload_n (y := I_X0_init_1) 1 dX0_init_137 rfl rfl ?_
  refine g_get (y := I_X0_init_1) (v := .ref (w.2.1 + 3)) fj_0_23 (show kd 1 = _ from rfl) (b := true) rfl (by decide) rfl dX0_init_138 ?_
  refine g_iload_n (y := I_X0_init_1) 0 dX0_init_141 rfl rfl ?_
  refine g_aald (y := I_X0_init_1) (j := 34) (tt := 1) (show kd 3 = _ from rfl) (by decide) (by decide) rfl rfl dX0_init_142 ?_
  refine g_iload_n (y := I_X0_init_1) 0 dX0_init_143 rfl rfl ?_
  refine g_putI (y := I_X0_init_1) fi_0_61 (show kd 34 = _ from rfl) rfl (by decide) rfl rfl dX0_init_144 ?_
  refine g_iinc (y := I_X0_init_1) 0 (v := 8) (ls' := [(1, .int (8 : Int32)), (0, .ref (w.2.1 + 1))]) dX0_init_147 rfl (by decide) (by decide) rfl ?_
  refine g_goto (y := I_X0_init_1) 118 dX0_init_150 (by decide) ?_
  refine g_iload_n (y := I_X0_init_1) 0 dX0_init_118 rfl rfl ?_
  refine g_bipush (y := I_X0_init_1) (v := 12) dX0_init_119 (by decide) ?_
  refine g_icmp_ge (y := I_X0_init_1) 153 dX0_init_121 (by decide) (fun h => absurd h (by decide)) (fun _ => ?_)
  refine g_aload_n (y := I_X0_init_1) 1 dX0_init_124 rfl rfl ?_
  refine g_get (y := I_X0_init_1) (v := .ref (w.2.1 + 3)) fj_0_23 (show kd 1 = _ from rfl) (b := true) rfl (by decide) rfl dX0_init_125 ?_
  refine g_iload_n (y := I_X0_init_1) 0 dX0_init_128 rfl rfl ?_
  refine g_new (y := I_X0_init_1) nw_0_21 (show kd 36 = _ from rfl) (fun _ => rfl) (fun _ => rfl) (Nat.le_of_ble_eq_true rfl) (Nat.le_of_ble_eq_true rfl) dX0_init_129 ?_
  refine g_lit (n' := 37) (k' := 35) (z' := 701) rfl rfl rfl ?_
  refine g_dup (y := I_X0_init_1) dX0_init_132 rfl ?_
  refine g_callIN (y := I_X0_init_1) (y' := I_X2_init) (As := []) (host := "OrchardBook") ⟨by decide +kernel, gm 107 (by decide +kernel) rfl, gm 40 (by decide +kernel) rfl, mh_2.1, mh_2.2, by decide +kernel⟩ rfl (gm 106 (by decide +kernel) rfl) rfl ⟨Nat.le_of_ble_eq_true rfl, Nat.le_of_ble_eq_true rfl⟩ rfl rfl rfl (Nat.le_of_ble_eq_true rfl) ⟨Nat.le_of_ble_eq_true rfl, Nat.le_of_ble_eq_true rfl⟩ (by decide) rfl dX0_init_133 (c_X2_init l w 36 37 _ _ (show kd 36 = _ from rfl) (by decide) (show kd 37 = _ from rfl) (fun _ => rfl)) ?_
  refine g_lit (n' := 38) (k' := 36) (z' := 703) rfl rfl rfl ?_
  refine g_aast (y := I_X0_init_1) (tt := 1) (show kd 3 = _ from rfl) (by decide) (show kd 36 = _ from rfl) (by decide) rfl rfl (by decide) dX0_init_136 ?_
  refine g_aload_n (y := I_X0_init_1) 1 dX0_init_137 rfl rfl ?_
  refine g_get (y := I_X0_init_1) (v := .ref (w.2.1 + 3)) fj_0_23 (show kd 1 = _ from rfl) (b := true) rfl (by decide) rfl dX0_init_138 ?_
  refine g_iload_n (y := I_X0_init_1) 0 dX0_init_141 rfl rfl ?_
  refine g_aald (y := I_X0_init_1) (j := 36) (tt := 1) (show kd 3 = _ from rfl) (by decide) (by decide) rfl rfl dX0_init_142 ?_
  refine g_iload_n (y := I_X0_init_1) 0 dX0_init_143 rfl rfl ?_
  refine g_putI (y := I_X0_init_1) fi_0_61 (show kd 36 = _ from rfl) rfl (by decide) rfl rfl dX0_init_144 ?_
  refine g_iinc (y := I_X0_init_1) 0 (v := 9) (ls' := [(1, .int (9 : Int32)), (0, .ref (w.2.1 + 1))]) dX0_init_147 rfl (by decide) (by decide) rfl ?_
  refine g_goto (y := I_X0_init_1) 118 dX0_init_150 (by decide) ?_
  refine g_iload_n (y := I_X0_init_1) 0 dX0_init_118 rfl rfl ?_
  refine g_bipush (y := I_X0_init_1) (v := 12) dX0_init_119 (by decide) ?_
  refine g_icmp_ge (y := I_X0_init_1) 153 dX0_init_121 (by decide) (fun h => absurd h (by decide)) (fun _ => ?_)
  refine g_aload_n (y := I_X0_init_1) 1 dX0_init_124 rfl rfl ?_
  refine g_get (y := I_X0_init_1) (v := .ref (w.2.1 + 3)) fj_0_23 (show kd 1 = _ from rfl) (b := true) rfl (by decide) rfl dX0_init_125 ?_
  refine g_iload_n (y := I_X0_init_1) 0 dX0_init_128 rfl rfl ?_
  refine g_new (y := I_X0_init_1) nw_0_21 (show kd 38 = _ from rfl) (fun _ => rfl) (fun _ => rfl) (Nat.le_of_ble_eq_true rfl) (Nat.le_of_ble_eq_true rfl) dX0_init_129 ?_
  refine g_lit (n' := 39) (k' := 37) (z' := 714) rfl rfl rfl ?_
  refine g_dup (y := I_X0_init_1) dX0_init_132 rfl ?_
  refine g_callIN (y := I_X0_init_1) (y' := I_X2_init) (As := []) (host := "OrchardBook") ⟨by decide +kernel, gm 107 (by decide +kernel) rfl, gm 40 (by decide +kernel) rfl, mh_2.1, mh_2.2, by decide +kernel⟩ rfl (gm 106 (by decide +kernel) rfl) rfl ⟨Nat.le_of_ble_eq_true rfl, Nat.le_of_ble_eq_true rfl⟩ rfl rfl rfl (Nat.le_of_ble_eq_true rfl) ⟨Nat.le_of_ble_eq_true rfl, Nat.le_of_ble_eq_true rfl⟩ (by decide) rfl dX0_init_133 (c_X2_init l w 38 39 _ _ (show kd 38 = _ from rfl) (by decide) (show kd 39 = _ from rfl) (fun _ => rfl)) ?_
  refine g_lit (n' := 40) (k' := 38) (z' := 716) rfl rfl rfl ?_
  refine g_aast (y := I_X0_init_1) (tt := 1) (show kd 3 = _ from rfl) (by decide) (show kd 38 = _ from rfl) (by decide) rfl rfl (by decide) dX0_init_136 ?_
  refine g_aload_n (y := I_X0_init_1) 1 dX0_init_137 rfl rfl ?_
  refine g_get (y := I_X0_init_1) (v := .ref (w.2.1 + 3)) fj_0_23 (show kd 1 = _ from rfl) (b := true) rfl (by decide) rfl dX0_init_138 ?_
  refine g_iload_n (y := I_X0_init_1) 0 dX0_init_141 rfl rfl ?_
  refine g_aald (y := I_X0_init_1) (j := 38) (tt := 1) (show kd 3 = _ from rfl) (by decide) (by decide) rfl rfl dX0_init_142 ?_
  refine g_iload_n (y := I_X0_init_1) 0 dX0_init_143 rfl rfl ?_
  refine g_putI (y := I_X0_init_1) fi_0_61 (show kd 38 = _ from rfl) rfl (by decide) rfl rfl dX0_init_144 ?_
  refine g_iinc (y := I_X0_init_1) 0 (v := 10) (ls' := [(1, .int (10 : Int32)), (0, .ref (w.2.1 + 1))]) dX0_init_147 rfl (by decide) (by decide) rfl ?_
  refine g_goto (y := I_X0_init_1) 118 dX0_init_150 (by decide) ?_
  refine g_iload_n (y := I_X0_init_1) 0 dX0_init_118 rfl rfl ?_
  refine g_bipush (y := I_X0_init_1) (v := 12) dX0_init_119 (by decide) ?_
  refine g_icmp_ge (y := I_X0_init_1) 153 dX0_init_121 (by decide) (fun h => absurd h (by decide)) (fun _ => ?_)
  refine g_aload_n (y := I_X0_init_1) 1 dX0_init_124 rfl rfl ?_
  refine g_get (y := I_X0_init_1) (v := .ref (w.2.1 + 3)) fj_0_23 (show kd 1 = _ from rfl) (b := true) rfl (by decide) rfl dX0_init_125 ?_
  refine g_iload_n (y := I_X0_init_1) 0 dX0_init_128 rfl rfl ?_
  refine g_new (y := I_X0_init_1) nw_0_21 (show kd 40 = _ from rfl) (fun _ => rfl) (fun _ => rfl) (Nat.le_of_ble_eq_true rfl) (Nat.le_of_ble_eq_true rfl) dX0_init_129 ?_
  refine g_lit (n' := 41) (k' := 39) (z' := 727) rfl rfl rfl ?_
  refine g_dup (y := I_X0_init_1) dX0_init_132 rfl ?_
  refine g_callIN (y := I_X0_init_1) (y' := I_X2_init) (As := []) (host := "OrchardBook") ⟨by decide +kernel, gm 107 (by decide +kernel) rfl, gm 40 (by decide +kernel) rfl, mh_2.1, mh_2.2, by decide +kernel⟩ rfl (gm 106 (by decide +kernel) rfl) rfl ⟨Nat.le_of_ble_eq_true rfl, Nat.le_of_ble_eq_true rfl⟩ rfl rfl rfl (Nat.le_of_ble_eq_true rfl) ⟨Nat.le_of_ble_eq_true rfl, Nat.le_of_ble_eq_true rfl⟩ (by decide) rfl dX0_init_133 (c_X2_init l w 40 41 _ _ (show kd 40 = _ from rfl) (by decide) (show kd 41 = _ from rfl) (fun _ => rfl)) ?_
  refine g_lit (n' := 42) (k' := 40) (z' := 729) rfl rfl rfl ?_
  refine g_aast (y := I_X0_init_1) (tt := 1) (show kd 3 = _ from rfl) (by decide) (show kd 40 = _ from rfl) (by decide) rfl rfl (by decide) dX0_init_136 ?_
  refine g_aload_n (y := I_X0_init_1) 1 dX0_init_137 rfl rfl ?_
  refine g_get (y := I_X0_init_1) (v := .ref (w.2.1 + 3)) fj_0_23 (show kd 1 = _ from rfl) (b := true) rfl (by decide) rfl dX0_init_138 ?_
  refine g_iload_n (y := I_X0_init_1) 0 dX0_init_141 rfl rfl ?_
  refine g_aald (y := I_X0_init_1) (j := 40) (tt := 1) (show kd 3 = _ from rfl) (by decide) (by decide) rfl rfl dX0_init_142 ?_
  refine g_iload_n (y := I_X0_init_1) 0 dX0_init_143 rfl rfl ?_
  refine g_putI (y := I_X0_init_1) fi_0_61 (show kd 40 = _ from rfl) rfl (by decide) rfl rfl dX0_init_144 ?_
  refine g_iinc (y := I_X0_init_1) 0 (v := 11) (ls' := [(1, .int (11 : Int32)), (0, .ref (w.2.1 + 1))]) dX0_init_147 rfl (by decide) (by decide) rfl ?_
  refine g_goto (y := I_X0_init_1) 118 dX0_init_150 (by decide) ?_
  refine g_iload_n (y := I_X0_init_1) 0 dX0_init_118 rfl rfl ?_
  refine g_bipush (y := I_X0_init_1) (v := 12) dX0_init_119 (by decide) ?_
  refine g_icmp_ge (y := I_X0_init_1) 153 dX0_init_121 (by decide) (fun h => absurd h (by decide)) (fun _ => ?_)
  refine g_aload_n (y := I_X0_init_1) 1 dX0_init_124 rfl rfl ?_
  refine g_get (y := I_X0_init_1) (v := .ref (w.2.1 + 3)) fj_0_23 (show kd 1 = _ from rfl) (b := true) rfl (by decide) rfl dX0_init_125 ?_
  refine g_iload_n (y := I_X0_init_1) 0 dX0_init_128 rfl rfl ?_
  refine g_new (y := I_X0_init_1) nw_0_21 (show kd 42 = _ from rfl) (fun _ => rfl) (fun _ => rfl) (Nat.le_of_ble_eq_true rfl) (Nat.le_of_ble_eq_true rfl) dX0_init_129 ?_
  refine g_lit (n' := 43) (k' := 41) (z' := 740) rfl rfl rfl ?_
  refine g_dup (y := I_X0_init_1) dX0_init_132 rfl ?_
  refine g_callIN (y := I_X0_init_1) (y' := I_X2_init) (As := []) (host := "OrchardBook") ⟨by decide +kernel, gm 107 (by decide +kernel) rfl, gm 40 (by decide +kernel) rfl, mh_2.1, mh_2.2, by decide +kernel⟩ rfl (gm 106 (by decide +kernel) rfl) rfl ⟨Nat.le_of_ble_eq_true rfl, Nat.le_of_ble_eq_true rfl⟩ rfl rfl rfl (Nat.le_of_ble_eq_true rfl) ⟨Nat.le_of_ble_eq_true rfl, Nat.le_of_ble_eq_true rfl⟩ (by decide) rfl dX0_init_133 (c_X2_init l w 42 43 _ _ (show kd 42 = _ from rfl) (by decide) (show kd 43 = _ from rfl) (fun _ => rfl)) ?_
  refine g_lit (n' := 44) (k' := 42) (z' := 742) rfl rfl rfl ?_
  refine g_aast (y := I_X0_init_1) (tt := 1) (show kd 3 = _ from rfl) (by decide) (show kd 42 = _ from rfl) (by decide) rfl rfl (by decide) dX0_init_136 ?_
  refine g_aload_n (y := I_X0_init_1) 1 dX0_init_137 rfl rfl ?_
  refine g_get (y := I_X0_init_1) (v := .ref (w.2.1 + 3)) fj_0_23 (show kd 1 = _ from rfl) (b := true) rfl (by decide) rfl dX0_init_138 ?_
  refine g_iload_n (y := I_X0_init_1) 0 dX0_init_141 rfl rfl ?_
  refine g_aald (y := I_X0_init_1) (j := 42) (tt := 1) (show kd 3 = _ from rfl) (by decide) (by decide) rfl rfl dX0_init_142 ?_
  refine g_iload_n (y := I_X0_init_1) 0 dX0_init_143 rfl rfl ?_
  refine g_putI (y := I_X0_init_1) fi_0_61 (show kd 42 = _ from rfl) rfl (by decide) rfl rfl dX0_init_144 ?_
  refine g_iinc (y := I_X0_init_1) 0 (v := 12) (ls' := [(1, .int (12 : Int32)), (0, .ref (w.2.1 + 1))]) dX0_init_147 rfl (by decide) (by decide) rfl ?_
  refine g_goto (y := I_X0_init_1) 118 dX0_init_150 (by decide) ?_
  refine g_iload_n (y := I_X0_init_1) 0 dX0_init_118 rfl rfl ?_
  refine g_bipush (y := I_X0_init_1) (v := 12) dX0_init_119 (by decide) ?_
  refine g_icmp_ge (y := I_X0_init_1) 153 dX0_init_121 (by decide) (fun _ => ?_) (fun h => absurd (by decide) h)
  exact g_vret (y := I_X0_init_1) rfl dX0_init_153
abbrev I_X0_init_44 : MI := (yX0_init, cX0_init, 2, none, { frames := 2, cells := 42, slots := 742, locals := 40 })
def r_X0_init_44 : Rf := (up2 (up2 (up2 (up2 (up2 (up2 (up2 (up2 (up2 (up2 (up2 (up2 (up2 (up2 (up2 (up2 (up2 (up2 (up2 (up2 (up2 (up2 (up2 (up2 (up2 (up2 (up2 (up2 (up2 (up2 (up2 (up2 (up2 (up2 (up2 (up2 (up2 (up2 (up2 (up2 (up2 (up2 (up2 r_X0_init_1 0 0 (some 1)) 44 0 (some 45)) 44 2 (some 46)) 44 6 (some 47)) 44 7 (some 48)) 44 8 (some 49)) 44 12 (some 50)) 51 7 (some 52)) 45 (ix (0 : Int32)) (some 51)) 53 7 (some 54)) 45 (ix (1 : Int32)) (some 53)) 55 7 (some 56)) 45 (ix (2 : Int32)) (some 55)) 57 7 (some 58)) 45 (ix (3 : Int32)) (some 57)) 59 7 (some 60)) 45 (ix (4 : Int32)) (some 59)) 61 7 (some 62)) 45 (ix (5 : Int32)) (some 61)) 63 10 (some 64)) 46 (ix (0 : Int32)) (some 63)) 65 10 (some 66)) 46 (ix (1 : Int32)) (some 65)) 67 10 (some 68)) 46 (ix (2 : Int32)) (some 67)) 69 10 (some 70)) 46 (ix (3 : Int32)) (some 69)) 71 10 (some 72)) 46 (ix (4 : Int32)) (some 71)) 73 10 (some 74)) 46 (ix (5 : Int32)) (some 73)) 75 10 (some 76)) 46 (ix (6 : Int32)) (some 75)) 77 10 (some 78)) 46 (ix (7 : Int32)) (some 77)) 79 10 (some 80)) 46 (ix (8 : Int32)) (some 79)) 81 10 (some 82)) 46 (ix (9 : Int32)) (some 81)) 83 10 (some 84)) 46 (ix (10 : Int32)) (some 83)) 85 10 (some 86)) 46 (ix (11 : Int32)) (some 85))
def s_X0_init_44 : St := (wr (wr (wr (wr (wr (wr (wr (wr (wr (wr (wr (wr (wr (wr (wr (wr (wr (wr (wr s_X0_init_1 44 1 (0 : Int32)) 44 3 (3 : Int32)) 44 4 (0 : Int32)) 44 5 (0 : Int32)) 44 9 (0 : Int32)) 44 10 (-1 : Int32)) 44 11 (0 : Int32)) 63 0 (0 : Int32)) 65 0 (1 : Int32)) 67 0 (2 : Int32)) 69 0 (3 : Int32)) 71 0 (4 : Int32)) 73 0 (5 : Int32)) 75 0 (6 : Int32)) 77 0 (7 : Int32)) 79 0 (8 : Int32)) 81 0 (9 : Int32)) 83 0 (10 : Int32)) 85 0 (11 : Int32))
set_option maxRecDepth 100000 in
set_option maxHeartbeats 4000000 in
theorem c_X0_init_44 (l : Launch) (w : Wd) : Ct l w I_X0_init_44 [.ref (w.2.1 + 44)] 45 (up2 r_X0_init_1 0 0 (some 1)) s_X0_init_1 (87, r_X0_init_44, s_X0_init_44, 42, 742) none := by
  refine Ct.of (Nat.le_of_ble_eq_true rfl) pn_0 ?_
  refine g_aload_n (y := I_X0_init_44) 0 dX0_init_0 rfl rfl ?_
  refine g_objInit (y := I_X0_init_44) (gm 60 (by decide +kernel) rfl) oi_i oi_c (Nat.le_of_ble_eq_true rfl) (Nat.le_of_ble_eq_true rfl) dX0_init_1 ?_
  refine g_aload_n (y := I_X0_init_44) 0 dX0_init_4 rfl rfl ?_
  refine g_bipush (y := I_X0_init_44) (v := 6) dX0_init_5 (by decide) ?_
  refine g_newQ (y := I_X0_init_44) (t := 0) (CC := "OrchardBook$Sort") (gm 61 (by decide +kernel) rfl) (fun _ h => h.2.1) (show kd 45 = _ from rfl) rfl (fun _ => rfl) (by decide) (by decide) (by decide) (Nat.le_of_ble_eq_true rfl) (Nat.le_of_ble_eq_true rfl) dX0_init_7 ?_
  refine g_lit (n' := 46) (k' := 1) (z' := 6) rfl rfl rfl ?_
  refine g_putR (y := I_X0_init_44) fi_0_11 rfl (show kd 44 = _ from rfl) rfl (by decide) rfl rfl dX0_init_10 ?_
  refine g_aload_n (y := I_X0_init_44) 0 dX0_init_13 rfl rfl ?_
  refine g_iconst (y := I_X0_init_44) (v := 0) dX0_init_14 (by decide) ?_
  refine g_putI (y := I_X0_init_44) fi_0_17 (show kd 44 = _ from rfl) rfl (by decide) rfl rfl dX0_init_15 ?_
  refine g_aload_n (y := I_X0_init_44) 0 dX0_init_18 rfl rfl ?_
  refine g_bipush (y := I_X0_init_44) (v := 12) dX0_init_19 (by decide) ?_
  refine g_newQ (y := I_X0_init_44) (t := 1) (CC := "OrchardBook$Place") (gm 63 (by decide +kernel) rfl) (fun _ h => h.2.2.1) (show kd 46 = _ from rfl) rfl (fun _ => rfl) (by decide) (by decide) (by decide) (Nat.le_of_ble_eq_true rfl) (Nat.le_of_ble_eq_true rfl) dX0_init_21 ?_
  refine g_lit (n' := 47) (k' := 2) (z' := 18) rfl rfl rfl ?_
  refine g_putR (y := I_X0_init_44) fi_0_23 rfl (show kd 44 = _ from rfl) rfl (by decide) rfl rfl dX0_init_24 ?_
  refine g_aload_n (y := I_X0_init_44) 0 dX0_init_27 rfl rfl ?_
  refine g_iconst (y := I_X0_init_44) (v := 3) dX0_init_28 (by decide) ?_
  refine g_putI (y := I_X0_init_44) fi_0_27 (show kd 44 = _ from rfl) rfl (by decide) rfl rfl dX0_init_29 ?_
  refine g_aload_n (y := I_X0_init_44) 0 dX0_init_32 rfl rfl ?_
  refine g_iconst (y := I_X0_init_44) (v := 0) dX0_init_33 (by decide) ?_
  refine g_putI (y := I_X0_init_44) fi_0_30 (show kd 44 = _ from rfl) rfl (by decide) rfl rfl dX0_init_34 ?_
  refine g_aload_n (y := I_X0_init_44) 0 dX0_init_37 rfl rfl ?_
  refine g_iconst (y := I_X0_init_44) (v := 0) dX0_init_38 (by decide) ?_
  refine g_putI (y := I_X0_init_44) fi_0_33 (show kd 44 = _ from rfl) rfl (by decide) rfl rfl dX0_init_39 ?_
  refine g_aload_n (y := I_X0_init_44) 0 dX0_init_42 rfl rfl ?_
  refine g_bipush (y := I_X0_init_44) (v := 50) dX0_init_43 (by decide) ?_
  refine g_newI (y := I_X0_init_44) ac_int (show kd 47 = _ from rfl) (fun _ => rfl) (by decide) (by decide) (by decide) (Nat.le_of_ble_eq_true rfl) (Nat.le_of_ble_eq_true rfl) dX0_init_45 ?_
  refine g_lit (n' := 48) (k' := 3) (z' := 68) rfl rfl rfl ?_
  refine g_putR (y := I_X0_init_44) fi_0_36 rfl (show kd 44 = _ from rfl) rfl (by decide) rfl rfl dX0_init_47 ?_
  refine g_aload_n (y := I_X0_init_44) 0 dX0_init_50 rfl rfl ?_
  refine g_bipush (y := I_X0_init_44) (v := 50) dX0_init_51 (by decide) ?_
  refine g_newI (y := I_X0_init_44) ac_int (show kd 48 = _ from rfl) (fun _ => rfl) (by decide) (by decide) (by decide) (Nat.le_of_ble_eq_true rfl) (Nat.le_of_ble_eq_true rfl) dX0_init_53 ?_
  refine g_lit (n' := 49) (k' := 4) (z' := 118) rfl rfl rfl ?_
  refine g_putR (y := I_X0_init_44) fi_0_40 rfl (show kd 44 = _ from rfl) rfl (by decide) rfl rfl dX0_init_55 ?_
  refine g_aload_n (y := I_X0_init_44) 0 dX0_init_58 rfl rfl ?_
  refine g_bipush (y := I_X0_init_44) (v := 50) dX0_init_59 (by decide) ?_
  refine g_newI (y := I_X0_init_44) ac_int (show kd 49 = _ from rfl) (fun _ => rfl) (by decide) (by decide) (by decide) (Nat.le_of_ble_eq_true rfl) (Nat.le_of_ble_eq_true rfl) dX0_init_61 ?_
  refine g_lit (n' := 50) (k' := 5) (z' := 168) rfl rfl rfl ?_
  refine g_putR (y := I_X0_init_44) fi_0_43 rfl (show kd 44 = _ from rfl) rfl (by decide) rfl rfl dX0_init_63 ?_
  refine g_aload_n (y := I_X0_init_44) 0 dX0_init_66 rfl rfl ?_
  refine g_iconst (y := I_X0_init_44) (v := 0) dX0_init_67 (by decide) ?_
  refine g_putI (y := I_X0_init_44) fi_0_46 (show kd 44 = _ from rfl) rfl (by decide) rfl rfl dX0_init_68 ?_
  refine g_aload_n (y := I_X0_init_44) 0 dX0_init_71 rfl rfl ?_
  refine g_iconst (y := I_X0_init_44) (v := -1) dX0_init_72 (by decide) ?_
  refine g_putI (y := I_X0_init_44) fi_0_49 (show kd 44 = _ from rfl) rfl (by decide) rfl rfl dX0_init_73 ?_
  refine g_aload_n (y := I_X0_init_44) 0 dX0_init_76 rfl rfl ?_
  refine g_iconst (y := I_X0_init_44) (v := 0) dX0_init_77 (by decide) ?_
  refine g_putI (y := I_X0_init_44) fi_0_52 (show kd 44 = _ from rfl) rfl (by decide) rfl rfl dX0_init_78 ?_
  refine g_aload_n (y := I_X0_init_44) 0 dX0_init_81 rfl rfl ?_
  refine g_bipush (y := I_X0_init_44) (v := 10) dX0_init_82 (by decide) ?_
  refine g_newL (y := I_X0_init_44) ac_long (show kd 50 = _ from rfl) (fun _ => rfl) (by decide) (by decide) (by decide) (Nat.le_of_ble_eq_true rfl) (Nat.le_of_ble_eq_true rfl) dX0_init_84 ?_
  refine g_lit (n' := 51) (k' := 6) (z' := 178) rfl rfl rfl ?_
  refine g_putR (y := I_X0_init_44) fi_0_55 rfl (show kd 44 = _ from rfl) rfl (by decide) rfl rfl dX0_init_86 ?_
  refine g_iconst (y := I_X0_init_44) (v := 0) dX0_init_89 (by decide) ?_
  refine g_istore_n (y := I_X0_init_44) (ls' := [(1, .int (0 : Int32)), (0, .ref (w.2.1 + 44))]) dX0_init_90 rfl (by decide) rfl ?_
  refine g_iload_n (y := I_X0_init_44) 0 dX0_init_91 rfl rfl ?_
  refine g_bipush (y := I_X0_init_44) (v := 6) dX0_init_92 (by decide) ?_
  refine g_icmp_ge (y := I_X0_init_44) 116 dX0_init_94 (by decide) (fun h => absurd h (by decide)) (fun _ => ?_)
  refine g_aload_n (y := I_X0_init_44) 1 dX0_init_97 rfl rfl ?_
  refine g_get (y := I_X0_init_44) (v := .ref (w.2.1 + 45)) fj_0_11 (show kd 44 = _ from rfl) (b := true) rfl (by decide) rfl dX0_init_98 ?_
  refine g_iload_n (y := I_X0_init_44) 0 dX0_init_101 rfl rfl ?_
  refine g_new (y := I_X0_init_44) nw_0_9 (show kd 51 = _ from rfl) (fun _ => rfl) (fun _ => rfl) (Nat.le_of_ble_eq_true rfl) (Nat.le_of_ble_eq_true rfl) dX0_init_102 ?_
  refine g_lit (n' := 52) (k' := 7) (z' := 186) rfl rfl rfl ?_
  refine g_dup (y := I_X0_init_44) dX0_init_105 rfl ?_
  refine g_callIN (y := I_X0_init_44) (y' := I_X5_init) (As := []) (host := "OrchardBook") ⟨by decide +kernel, gm 68 (by decide +kernel) rfl, gm 39 (by decide +kernel) rfl, mh_5.1, mh_5.2, by decide +kernel⟩ rfl (gm 67 (by decide +kernel) rfl) rfl ⟨Nat.le_of_ble_eq_true rfl, Nat.le_of_ble_eq_true rfl⟩ rfl rfl rfl (Nat.le_of_ble_eq_true rfl) ⟨Nat.le_of_ble_eq_true rfl, Nat.le_of_ble_eq_true rfl⟩ (by decide) rfl dX0_init_106 (c_X5_init l w 51 52 _ _ (show kd 51 = _ from rfl) (by decide) (show kd 52 = _ from rfl) (fun _ => rfl)) ?_
  refine g_lit (n' := 53) (k' := 8) (z' := 246) rfl rfl rfl ?_
  refine g_aast (y := I_X0_init_44) (tt := 0) (show kd 45 = _ from rfl) (by decide) (show kd 51 = _ from rfl) (by decide) rfl rfl (by decide) dX0_init_109 ?_
  refine g_iinc (y := I_X0_init_44) 0 (v := 1) (ls' := [(1, .int (1 : Int32)), (0, .ref (w.2.1 + 44))]) dX0_init_110 rfl (by decide) (by decide) rfl ?_
  refine g_goto (y := I_X0_init_44) 91 dX0_init_113 (by decide) ?_
  refine g_iload_n (y := I_X0_init_44) 0 dX0_init_91 rfl rfl ?_
  refine g_bipush (y := I_X0_init_44) (v := 6) dX0_init_92 (by decide) ?_
  refine g_icmp_ge (y := I_X0_init_44) 116 dX0_init_94 (by decide) (fun h => absurd h (by decide)) (fun _ => ?_)
  refine g_aload_n (y := I_X0_init_44) 1 dX0_init_97 rfl rfl ?_
  refine g_get (y := I_X0_init_44) (v := .ref (w.2.1 + 45)) fj_0_11 (show kd 44 = _ from rfl) (b := true) rfl (by decide) rfl dX0_init_98 ?_
  refine g_iload_n (y := I_X0_init_44) 0 dX0_init_101 rfl rfl ?_
  refine g_new (y := I_X0_init_44) nw_0_9 (show kd 53 = _ from rfl) (fun _ => rfl) (fun _ => rfl) (Nat.le_of_ble_eq_true rfl) (Nat.le_of_ble_eq_true rfl) dX0_init_102 ?_
  refine g_lit (n' := 54) (k' := 9) (z' := 254) rfl rfl rfl ?_
  refine g_dup (y := I_X0_init_44) dX0_init_105 rfl ?_
  refine g_callIN (y := I_X0_init_44) (y' := I_X5_init) (As := []) (host := "OrchardBook") ⟨by decide +kernel, gm 68 (by decide +kernel) rfl, gm 39 (by decide +kernel) rfl, mh_5.1, mh_5.2, by decide +kernel⟩ rfl (gm 67 (by decide +kernel) rfl) rfl ⟨Nat.le_of_ble_eq_true rfl, Nat.le_of_ble_eq_true rfl⟩ rfl rfl rfl (Nat.le_of_ble_eq_true rfl) ⟨Nat.le_of_ble_eq_true rfl, Nat.le_of_ble_eq_true rfl⟩ (by decide) rfl dX0_init_106 (c_X5_init l w 53 54 _ _ (show kd 53 = _ from rfl) (by decide) (show kd 54 = _ from rfl) (fun _ => rfl)) ?_
  refine g_lit (n' := 55) (k' := 10) (z' := 314) rfl rfl rfl ?_
  refine g_aast (y := I_X0_init_44) (tt := 0) (show kd 45 = _ from rfl) (by decide) (show kd 53 = _ from rfl) (by decide) rfl rfl (by decide) dX0_init_109 ?_
  refine g_iinc (y := I_X0_init_44) 0 (v := 2) (ls' := [(1, .int (2 : Int32)), (0, .ref (w.2.1 + 44))]) dX0_init_110 rfl (by decide) (by decide) rfl ?_
  refine g_goto (y := I_X0_init_44) 91 dX0_init_113 (by decide) ?_
  refine g_iload_n (y := I_X0_init_44) 0 dX0_init_91 rfl rfl ?_
  refine g_bipush (y := I_X0_init_44) (v := 6) dX0_init_92 (by decide) ?_
  refine g_icmp_ge (y := I_X0_init_44) 116 dX0_init_94 (by decide) (fun h => absurd h (by decide)) (fun _ => ?_)
  refine g_aload_n (y := I_X0_init_44) 1 dX0_init_97 rfl rfl ?_
  refine g_get (y := I_X0_init_44) (v := .ref (w.2.1 + 45)) fj_0_11 (show kd 44 = _ from rfl) (b := true) rfl (by decide) rfl dX0_init_98 ?_
  refine g_iload_n (y := I_X0_init_44) 0 dX0_init_101 rfl rfl ?_
  refine g_new (y := I_X0_init_44) nw_0_9 (show kd 55 = _ from rfl) (fun _ => rfl) (fun _ => rfl) (Nat.le_of_ble_eq_true rfl) (Nat.le_of_ble_eq_true rfl) dX0_init_102 ?_
  refine g_lit (n' := 56) (k' := 11) (z' := 322) rfl rfl rfl ?_
  refine g_dup (y := I_X0_init_44) dX0_init_105 rfl ?_
  refine g_callIN (y := I_X0_init_44) (y' := I_X5_init) (As := []) (host := "OrchardBook") ⟨by decide +kernel, gm 68 (by decide +kernel) rfl, gm 39 (by decide +kernel) rfl, mh_5.1, mh_5.2, by decide +kernel⟩ rfl (gm 67 (by decide +kernel) rfl) rfl ⟨Nat.le_of_ble_eq_true rfl, Nat.le_of_ble_eq_true rfl⟩ rfl rfl rfl (Nat.le_of_ble_eq_true rfl) ⟨Nat.le_of_ble_eq_true rfl, Nat.le_of_ble_eq_true rfl⟩ (by decide) rfl dX0_init_106 (c_X5_init l w 55 56 _ _ (show kd 55 = _ from rfl) (by decide) (show kd 56 = _ from rfl) (fun _ => rfl)) ?_
  refine g_lit (n' := 57) (k' := 12) (z' := 382) rfl rfl rfl ?_
  refine g_aast (y := I_X0_init_44) (tt := 0) (show kd 45 = _ from rfl) (by decide) (show kd 55 = _ from rfl) (by decide) rfl rfl (by decide) dX0_init_109 ?_
  refine g_iinc (y := I_X0_init_44) 0 (v := 3) (ls' := [(1, .int (3 : Int32)), (0, .ref (w.2.1 + 44))]) dX0_init_110 rfl (by decide) (by decide) rfl ?_
  refine g_goto (y := I_X0_init_44) 91 dX0_init_113 (by decide) ?_
  refine g_iload_n (y := I_X0_init_44) 0 dX0_init_91 rfl rfl ?_
  refine g_bipush (y := I_X0_init_44) (v := 6) dX0_init_92 (by decide) ?_
  refine g_icmp_ge (y := I_X0_init_44) 116 dX0_init_94 (by decide) (fun h => absurd h (by decide)) (fun _ => ?_)
  refine g_aload_n (y := I_X0_init_44) 1 dX0_init_97 rfl rfl ?_
  refine g_get (y := I_X0_init_44) (v := .ref (w.2.1 + 45)) fj_0_11 (show kd 44 = _ from rfl) (b := true) rfl (by decide) rfl dX0_init_98 ?_
  refine g_iload_n (y := I_X0_init_44) 0 dX0_init_101 rfl rfl ?_
  refine g_new (y := I_X0_init_44) nw_0_9 (show kd 57 = _ from rfl) (fun _ => rfl) (fun _ => rfl) (Nat.le_of_ble_eq_true rfl) (Nat.le_of_ble_eq_true rfl) dX0_init_102 ?_
  refine g_lit (n' := 58) (k' := 13) (z' := 390) rfl rfl rfl ?_
  refine g_dup (y := I_X0_init_44) dX0_init_105 rfl ?_
  refine g_callIN (y := I_X0_init_44) (y' := I_X5_init) (As := []) (host := "OrchardBook") ⟨by decide +kernel, gm 68 (by decide +kernel) rfl, gm 39 (by decide +kernel) rfl, mh_5.1, mh_5.2, by decide +kernel⟩ rfl (gm 67 (by decide +kernel) rfl) rfl ⟨Nat.le_of_ble_eq_true rfl, Nat.le_of_ble_eq_true rfl⟩ rfl rfl rfl (Nat.le_of_ble_eq_true rfl) ⟨Nat.le_of_ble_eq_true rfl, Nat.le_of_ble_eq_true rfl⟩ (by decide) rfl dX0_init_106 (c_X5_init l w 57 58 _ _ (show kd 57 = _ from rfl) (by decide) (show kd 58 = _ from rfl) (fun _ => rfl)) ?_
  refine g_lit (n' := 59) (k' := 14) (z' := 450) rfl rfl rfl ?_
  refine g_aast (y := I_X0_init_44) (tt := 0) (show kd 45 = _ from rfl) (by decide) (show kd 57 = _ from rfl) (by decide) rfl rfl (by decide) dX0_init_109 ?_
  refine g_iinc (y := I_X0_init_44) 0 (v := 4) (ls' := [(1, .int (4 : Int32)), (0, .ref (w.2.1 + 44))]) dX0_init_110 rfl (by decide) (by decide) rfl ?_
  refine g_goto (y := I_X0_init_44) 91 dX0_init_113 (by decide) ?_
  refine g_iload_n (y := I_X0_init_44) 0 dX0_init_91 rfl rfl ?_
  refine g_bipush (y := I_X0_init_44) (v := 6) dX0_init_92 (by decide) ?_
  refine g_icmp_ge (y := I_X0_init_44) 116 dX0_init_94 (by decide) (fun h => absurd h (by decide)) (fun _ => ?_)
  refine g_aload_n (y := I_X0_init_44) 1 dX0_init_97 rfl rfl ?_
  refine g_get (y := I_X0_init_44) (v := .ref (w.2.1 + 45)) fj_0_11 (show kd 44 = _ from rfl) (b := true) rfl (by decide) rfl dX0_init_98 ?_
  refine g_iload_n (y := I_X0_init_44) 0 dX0_init_101 rfl rfl ?_
  refine g_new (y := I_X0_init_44) nw_0_9 (show kd 59 = _ from rfl) (fun _ => rfl) (fun _ => rfl) (Nat.le_of_ble_eq_true rfl) (Nat.le_of_ble_eq_true rfl) dX0_init_102 ?_
  refine g_lit (n' := 60) (k' := 15) (z' := 458) rfl rfl rfl ?_
  refine g_dup (y := I_X0_init_44) dX0_init_105 rfl ?_
  refine g_callIN (y := I_X0_init_44) (y' := I_X5_init) (As := []) (host := "OrchardBook") ⟨by decide +kernel, gm 68 (by decide +kernel) rfl, gm 39 (by decide +kernel) rfl, mh_5.1, mh_5.2, by decide +kernel⟩ rfl (gm 67 (by decide +kernel) rfl) rfl ⟨Nat.le_of_ble_eq_true rfl, Nat.le_of_ble_eq_true rfl⟩ rfl rfl rfl (Nat.le_of_ble_eq_true rfl) ⟨Nat.le_of_ble_eq_true rfl, Nat.le_of_ble_eq_true rfl⟩ (by decide) rfl dX0_init_106 (c_X5_init l w 59 60 _ _ (show kd 59 = _ from rfl) (by decide) (show kd 60 = _ from rfl) (fun _ => rfl)) ?_
  refine g_lit (n' := 61) (k' := 16) (z' := 518) rfl rfl rfl ?_
  refine g_aast (y := I_X0_init_44) (tt := 0) (show kd 45 = _ from rfl) (by decide) (show kd 59 = _ from rfl) (by decide) rfl rfl (by decide) dX0_init_109 ?_
  refine g_iinc (y := I_X0_init_44) 0 (v := 5) (ls' := [(1, .int (5 : Int32)), (0, .ref (w.2.1 + 44))]) dX0_init_110 rfl (by decide) (by decide) rfl ?_
  refine g_goto (y := I_X0_init_44) 91 dX0_init_113 (by decide) ?_
  refine g_iload_n (y := I_X0_init_44) 0 dX0_init_91 rfl rfl ?_
  refine g_bipush (y := I_X0_init_44) (v := 6) dX0_init_92 (by decide) ?_
  refine g_icmp_ge (y := I_X0_init_44) 116 dX0_init_94 (by decide) (fun h => absurd h (by decide)) (fun _ => ?_)
  refine g_aload_n (y := I_X0_init_44) 1 dX0_init_97 rfl rfl ?_
  refine g_get (y := I_X0_init_44) (v := .ref (w.2.1 + 45)) fj_0_11 (show kd 44 = _ from rfl) (b := true) rfl (by decide) rfl dX0_init_98 ?_
  refine g_iload_n (y := I_X0_init_44) 0 dX0_init_101 rfl rfl ?_
  refine g_new (y := I_X0_init_44) nw_0_9 (show kd 61 = _ from rfl) (fun _ => rfl) (fun _ => rfl) (Nat.le_of_ble_eq_true rfl) (Nat.le_of_ble_eq_true rfl) dX0_init_102 ?_
  refine g_lit (n' := 62) (k' := 17) (z' := 526) rfl rfl rfl ?_
  refine g_dup (y := I_X0_init_44) dX0_init_105 rfl ?_
  refine g_callIN (y := I_X0_init_44) (y' := I_X5_init) (As := []) (host := "OrchardBook") ⟨by decide +kernel, gm 68 (by decide +kernel) rfl, gm 39 (by decide +kernel) rfl, mh_5.1, mh_5.2, by decide +kernel⟩ rfl (gm 67 (by decide +kernel) rfl) rfl ⟨Nat.le_of_ble_eq_true rfl, Nat.le_of_ble_eq_true rfl⟩ rfl rfl rfl (Nat.le_of_ble_eq_true rfl) ⟨Nat.le_of_ble_eq_true rfl, Nat.le_of_ble_eq_true rfl⟩ (by decide) rfl dX0_init_106 (c_X5_init l w 61 62 _ _ (show kd 61 = _ from rfl) (by decide) (show kd 62 = _ from rfl) (fun _ => rfl)) ?_
  refine g_lit (n' := 63) (k' := 18) (z' := 586) rfl rfl rfl ?_
  refine g_aast (y := I_X0_init_44) (tt := 0) (show kd 45 = _ from rfl) (by decide) (show kd 61 = _ from rfl) (by decide) rfl rfl (by decide) dX0_init_109 ?_
  refine g_iinc (y := I_X0_init_44) 0 (v := 6) (ls' := [(1, .int (6 : Int32)), (0, .ref (w.2.1 + 44))]) dX0_init_110 rfl (by decide) (by decide) rfl ?_
  refine g_goto (y := I_X0_init_44) 91 dX0_init_113 (by decide) ?_
  refine g_iload_n (y := I_X0_init_44) 0 dX0_init_91 rfl rfl ?_
  refine g_bipush (y := I_X0_init_44) (v := 6) dX0_init_92 (by decide) ?_
  refine g_icmp_ge (y := I_X0_init_44) 116 dX0_init_94 (by decide) (fun _ => ?_) (fun h => absurd (by decide) h)
  refine g_iconst (y := I_X0_init_44) (v := 0) dX0_init_116 (by decide) ?_
  refine g_istore_n (y := I_X0_init_44) (ls' := [(1, .int (0 : Int32)), (0, .ref (w.2.1 + 44))]) dX0_init_117 rfl (by decide) rfl ?_
  refine g_iload_n (y := I_X0_init_44) 0 dX0_init_118 rfl rfl ?_
  refine g_bipush (y := I_X0_init_44) (v := 12) dX0_init_119 (by decide) ?_
  refine g_icmp_ge (y := I_X0_init_44) 153 dX0_init_121 (by decide) (fun h => absurd h (by decide)) (fun _ => ?_)
  refine g_aload_n (y := I_X0_init_44) 1 dX0_init_124 rfl rfl ?_
  refine g_get (y := I_X0_init_44) (v := .ref (w.2.1 + 46)) fj_0_23 (show kd 44 = _ from rfl) (b := true) rfl (by decide) rfl dX0_init_125 ?_
  refine g_iload_n (y := I_X0_init_44) 0 dX0_init_128 rfl rfl ?_
  refine g_new (y := I_X0_init_44) nw_0_21 (show kd 63 = _ from rfl) (fun _ => rfl) (fun _ => rfl) (Nat.le_of_ble_eq_true rfl) (Nat.le_of_ble_eq_true rfl) dX0_init_129 ?_
  refine g_lit (n' := 64) (k' := 19) (z' := 597) rfl rfl rfl ?_
  refine g_dup (y := I_X0_init_44) dX0_init_132 rfl ?_
  refine g_callIN (y := I_X0_init_44) (y' := I_X2_init) (As := []) (host := "OrchardBook") ⟨by decide +kernel, gm 107 (by decide +kernel) rfl, gm 40 (by decide +kernel) rfl, mh_2.1, mh_2.2, by decide +kernel⟩ rfl (gm 106 (by decide +kernel) rfl) rfl ⟨Nat.le_of_ble_eq_true rfl, Nat.le_of_ble_eq_true rfl⟩ rfl rfl rfl (Nat.le_of_ble_eq_true rfl) ⟨Nat.le_of_ble_eq_true rfl, Nat.le_of_ble_eq_true rfl⟩ (by decide) rfl dX0_init_133 (c_X2_init l w 63 64 _ _ (show kd 63 = _ from rfl) (by decide) (show kd 64 = _ from rfl) (fun _ => rfl)) ?_
  refine g_lit (n' := 65) (k' := 20) (z' := 599) rfl rfl rfl ?_
  refine g_aast (y := I_X0_init_44) (tt := 1) (show kd 46 = _ from rfl) (by decide) (show kd 63 = _ from rfl) (by decide) rfl rfl (by decide) dX0_init_136 ?_
  refine g_aload_n (y := I_X0_init_44) 1 dX0_init_137 rfl rfl ?_
  refine g_get (y := I_X0_init_44) (v := .ref (w.2.1 + 46)) fj_0_23 (show kd 44 = _ from rfl) (b := true) rfl (by decide) rfl dX0_init_138 ?_
  refine g_iload_n (y := I_X0_init_44) 0 dX0_init_141 rfl rfl ?_
  refine g_aald (y := I_X0_init_44) (j := 63) (tt := 1) (show kd 46 = _ from rfl) (by decide) (by decide) rfl rfl dX0_init_142 ?_
  refine g_iload_n (y := I_X0_init_44) 0 dX0_init_143 rfl rfl ?_
  refine g_putI (y := I_X0_init_44) fi_0_61 (show kd 63 = _ from rfl) rfl (by decide) rfl rfl dX0_init_144 ?_
  refine g_iinc (y := I_X0_init_44) 0 (v := 1) (ls' := [(1, .int (1 : Int32)), (0, .ref (w.2.1 + 44))]) dX0_init_147 rfl (by decide) (by decide) rfl ?_
  refine g_goto (y := I_X0_init_44) 118 dX0_init_150 (by decide) ?_
  refine g_iload_n (y := I_X0_init_44) 0 dX0_init_118 rfl rfl ?_
  refine g_bipush (y := I_X0_init_44) (v := 12) dX0_init_119 (by decide) ?_
  refine g_icmp_ge (y := I_X0_init_44) 153 dX0_init_121 (by decide) (fun h => absurd h (by decide)) (fun _ => ?_)
  refine g_aload_n (y := I_X0_init_44) 1 dX0_init_124 rfl rfl ?_
  refine g_get (y := I_X0_init_44) (v := .ref (w.2.1 + 46)) fj_0_23 (show kd 44 = _ from rfl) (b := true) rfl (by decide) rfl dX0_init_125 ?_
  refine g_iload_n (y := I_X0_init_44) 0 dX0_init_128 rfl rfl ?_
  refine g_new (y := I_X0_init_44) nw_0_21 (show kd 65 = _ from rfl) (fun _ => rfl) (fun _ => rfl) (Nat.le_of_ble_eq_true rfl) (Nat.le_of_ble_eq_true rfl) dX0_init_129 ?_
  refine g_lit (n' := 66) (k' := 21) (z' := 610) rfl rfl rfl ?_
  refine g_dup (y := I_X0_init_44) dX0_init_132 rfl ?_
  refine g_callIN (y := I_X0_init_44) (y' := I_X2_init) (As := []) (host := "OrchardBook") ⟨by decide +kernel, gm 107 (by decide +kernel) rfl, gm 40 (by decide +kernel) rfl, mh_2.1, mh_2.2, by decide +kernel⟩ rfl (gm 106 (by decide +kernel) rfl) rfl ⟨Nat.le_of_ble_eq_true rfl, Nat.le_of_ble_eq_true rfl⟩ rfl rfl rfl (Nat.le_of_ble_eq_true rfl) ⟨Nat.le_of_ble_eq_true rfl, Nat.le_of_ble_eq_true rfl⟩ (by decide) rfl dX0_init_133 (c_X2_init l w 65 66 _ _ (show kd 65 = _ from rfl) (by decide) (show kd 66 = _ from rfl) (fun _ => rfl)) ?_
  refine g_lit (n' := 67) (k' := 22) (z' := 612) rfl rfl rfl ?_
  refine g_aast (y := I_X0_init_44) (tt := 1) (show kd 46 = _ from rfl) (by decide) (show kd 65 = _ from rfl) (by decide) rfl rfl (by decide) dX0_init_136 ?_
  refine g_aload_n (y := I_X0_init_44) 1 dX0_init_137 rfl rfl ?_
  refine g_get (y := I_X0_init_44) (v := .ref (w.2.1 + 46)) fj_0_23 (show kd 44 = _ from rfl) (b := true) rfl (by decide) rfl dX0_init_138 ?_
  refine g_iload_n (y := I_X0_init_44) 0 dX0_init_141 rfl rfl ?_
  refine g_aald (y := I_X0_init_44) (j := 65) (tt := 1) (show kd 46 = _ from rfl) (by decide) (by decide) rfl rfl dX0_init_142 ?_
  refine g_iload_n (y := I_X0_init_44) 0 dX0_init_143 rfl rfl ?_
  refine g_putI (y := I_X0_init_44) fi_0_61 (show kd 65 = _ from rfl) rfl (by decide) rfl rfl dX0_init_144 ?_
  refine g_iinc (y := I_X0_init_44) 0 (v := 2) (ls' := [(1, .int (2 : Int32)), (0, .ref (w.2.1 + 44))]) dX0_init_147 rfl (by decide) (by decide) rfl ?_
  refine g_goto (y := I_X0_init_44) 118 dX0_init_150 (by decide) ?_
  refine g_iload_n (y := I_X0_init_44) 0 dX0_init_118 rfl rfl ?_
  refine g_bipush (y := I_X0_init_44) (v := 12) dX0_init_119 (by decide) ?_
  refine g_icmp_ge (y := I_X0_init_44) 153 dX0_init_121 (by decide) (fun h => absurd h (by decide)) (fun _ => ?_)
  refine g_aload_n (y := I_X0_init_44) 1 dX0_init_124 rfl rfl ?_
  refine g_get (y := I_X0_init_44) (v := .ref (w.2.1 + 46)) fj_0_23 (show kd 44 = _ from rfl) (b := true) rfl (by decide) rfl dX0_init_125 ?_
  refine g_iload_n (y := I_X0_init_44) 0 dX0_init_128 rfl rfl ?_
  refine g_new (y := I_X0_init_44) nw_0_21 (show kd 67 = _ from rfl) (fun _ => rfl) (fun _ => rfl) (Nat.le_of_ble_eq_true rfl) (Nat.le_of_ble_eq_true rfl) dX0_init_129 ?_
  refine g_lit (n' := 68) (k' := 23) (z' := 623) rfl rfl rfl ?_
  refine g_dup (y := I_X0_init_44) dX0_init_132 rfl ?_
  refine g_callIN (y := I_X0_init_44) (y' := I_X2_init) (As := []) (host := "OrchardBook") ⟨by decide +kernel, gm 107 (by decide +kernel) rfl, gm 40 (by decide +kernel) rfl, mh_2.1, mh_2.2, by decide +kernel⟩ rfl (gm 106 (by decide +kernel) rfl) rfl ⟨Nat.le_of_ble_eq_true rfl, Nat.le_of_ble_eq_true rfl⟩ rfl rfl rfl (Nat.le_of_ble_eq_true rfl) ⟨Nat.le_of_ble_eq_true rfl, Nat.le_of_ble_eq_true rfl⟩ (by decide) rfl dX0_init_133 (c_X2_init l w 67 68 _ _ (show kd 67 = _ from rfl) (by decide) (show kd 68 = _ from rfl) (fun _ => rfl)) ?_
  refine g_lit (n' := 69) (k' := 24) (z' := 625) rfl rfl rfl ?_
  refine g_aast (y := I_X0_init_44) (tt := 1) (show kd 46 = _ from rfl) (by decide) (show kd 67 = _ from rfl) (by decide) rfl rfl (by decide) dX0_init_136 ?_
  refine g_aload_n (y := I_X0_init_44) 1 dX0_init_137 rfl rfl ?_
  refine g_get (y := I_X0_init_44) (v := .ref (w.2.1 + 46)) fj_0_23 (show kd 44 = _ from rfl) (b := true) rfl (by decide) rfl dX0_init_138 ?_
  refine g_iload_n (y := I_X0_init_44) 0 dX0_init_141 rfl rfl ?_
  refine g_aald (y := I_X0_init_44) (j := 67) (tt := 1) (show kd 46 = _ from rfl) (by decide) (by decide) rfl rfl dX0_init_142 ?_
  refine g_iload_n (y := I_X0_init_44) 0 dX0_init_143 rfl rfl ?_
  refine g_putI (y := I_X0_init_44) fi_0_61 (show kd 67 = _ from rfl) rfl (by decide) rfl rfl dX0_init_144 ?_
  refine g_iinc (y := I_X0_init_44) 0 (v := 3) (ls' := [(1, .int (3 : Int32)), (0, .ref (w.2.1 + 44))]) dX0_init_147 rfl (by decide) (by decide) rfl ?_
  refine g_goto (y := I_X0_init_44) 118 dX0_init_150 (by decide) ?_
  refine g_iload_n (y := I_X0_init_44) 0 dX0_init_118 rfl rfl ?_
  refine g_bipush (y := I_X0_init_44) (v := 12) dX0_init_119 (by decide) ?_
  refine g_icmp_ge (y := I_X0_init_44) 153 dX0_init_121 (by decide) (fun h => absurd h (by decide)) (fun _ => ?_)
  refine g_aload_n (y := I_X0_init_44) 1 dX0_init_124 rfl rfl ?_
  refine g_get (y := I_X0_init_44) (v := .ref (w.2.1 + 46)) fj_0_23 (show kd 44 = _ from rfl) (b := true) rfl (by decide) rfl dX0_init_125 ?_
  refine g_iload_n (y := I_X0_init_44) 0 dX0_init_128 rfl rfl ?_
  refine g_new (y := I_X0_init_44) nw_0_21 (show kd 69 = _ from rfl) (fun _ => rfl) (fun _ => rfl) (Nat.le_of_ble_eq_true rfl) (Nat.le_of_ble_eq_true rfl) dX0_init_129 ?_
  refine g_lit (n' := 70) (k' := 25) (z' := 636) rfl rfl rfl ?_
  refine g_dup (y := I_X0_init_44) dX0_init_132 rfl ?_
  refine g_callIN (y := I_X0_init_44) (y' := I_X2_init) (As := []) (host := "OrchardBook") ⟨by decide +kernel, gm 107 (by decide +kernel) rfl, gm 40 (by decide +kernel) rfl, mh_2.1, mh_2.2, by decide +kernel⟩ rfl (gm 106 (by decide +kernel) rfl) rfl ⟨Nat.le_of_ble_eq_true rfl, Nat.le_of_ble_eq_true rfl⟩ rfl rfl rfl (Nat.le_of_ble_eq_true rfl) ⟨Nat.le_of_ble_eq_true rfl, Nat.le_of_ble_eq_true rfl⟩ (by decide) rfl dX0_init_133 (c_X2_init l w 69 70 _ _ (show kd 69 = _ from rfl) (by decide) (show kd 70 = _ from rfl) (fun _ => rfl)) ?_
  refine g_lit (n' := 71) (k' := 26) (z' := 638) rfl rfl rfl ?_
  refine g_aast (y := I_X0_init_44) (tt := 1) (show kd 46 = _ from rfl) (by decide) (show kd 69 = _ from rfl) (by decide) rfl rfl (by decide) dX0_init_136 ?_
  refine g_aload_n (y := I_X0_init_44) 1 dX0_init_137 rfl rfl ?_
  refine g_get (y := I_X0_init_44) (v := .ref (w.2.1 + 46)) fj_0_23 (show kd 44 = _ from rfl) (b := true) rfl (by decide) rfl dX0_init_138 ?_
  refine g_iload_n (y := I_X0_init_44) 0 dX0_init_141 rfl rfl ?_
  refine g_aald (y := I_X0_init_44) (j := 69) (tt := 1) (show kd 46 = _ from rfl) (by decide) (by decide) rfl rfl dX0_init_142 ?_
  refine g_iload_n (y := I_X0_init_44) 0 dX0_init_143 rfl rfl ?_
  refine g_putI (y := I_X0_init_44) fi_0_61 (show kd 69 = _ from rfl) rfl (by decide) rfl rfl dX0_init_144 ?_
  refine g_iinc (y := I_X0_init_44) 0 (v := 4) (ls' := [(1, .int (4 : Int32)), (0, .ref (w.2.1 + 44))]) dX0_init_147 rfl (by decide) (by decide) rfl ?_
  refine g_goto (y := I_X0_init_44) 118 dX0_init_150 (by decide) ?_
  refine g_iload_n (y := I_X0_init_44) 0 dX0_init_118 rfl rfl ?_
  refine g_bipush (y := I_X0_init_44) (v := 12) dX0_init_119 (by decide) ?_
  refine g_icmp_ge (y := I_X0_init_44) 153 dX0_init_121 (by decide) (fun h => absurd h (by decide)) (fun _ => ?_)
  refine g_aload_n (y := I_X0_init_44) 1 dX0_init_124 rfl rfl ?_
  refine g_get (y := I_X0_init_44) (v := .ref (w.2.1 + 46)) fj_0_23 (show kd 44 = _ from rfl) (b := true) rfl (by decide) rfl dX0_init_125 ?_
  refine g_iload_n (y := I_X0_init_44) 0 dX0_init_128 rfl rfl ?_
  refine g_new (y := I_X0_init_44) nw_0_21 (show kd 71 = _ from rfl) (fun _ => rfl) (fun _ => rfl) (Nat.le_of_ble_eq_true rfl) (Nat.le_of_ble_eq_true rfl) dX0_init_129 ?_
  refine g_lit (n' := 72) (k' := 27) (z' := 649) rfl rfl rfl ?_
  refine g_dup (y := I_X0_init_44) dX0_init_132 rfl ?_
  refine g_callIN (y := I_X0_init_44) (y' := I_X2_init) (As := []) (host := "OrchardBook") ⟨by decide +kernel, gm 107 (by decide +kernel) rfl, gm 40 (by decide +kernel) rfl, mh_2.1, mh_2.2, by decide +kernel⟩ rfl (gm 106 (by decide +kernel) rfl) rfl ⟨Nat.le_of_ble_eq_true rfl, Nat.le_of_ble_eq_true rfl⟩ rfl rfl rfl (Nat.le_of_ble_eq_true rfl) ⟨Nat.le_of_ble_eq_true rfl, Nat.le_of_ble_eq_true rfl⟩ (by decide) rfl dX0_init_133 (c_X2_init l w 71 72 _ _ (show kd 71 = _ from rfl) (by decide) (show kd 72 = _ from rfl) (fun _ => rfl)) ?_
  refine g_lit (n' := 73) (k' := 28) (z' := 651) rfl rfl rfl ?_
  refine g_aast (y := I_X0_init_44) (tt := 1) (show kd 46 = _ from rfl) (by decide) (show kd 71 = _ from rfl) (by decide) rfl rfl (by decide) dX0_init_136 ?_
  refine g_aload_n (y := I_X0_init_44) 1 dX0_init_137 rfl rfl ?_
  refine g_get (y := I_X0_init_44) (v := .ref (w.2.1 + 46)) fj_0_23 (show kd 44 = _ from rfl) (b := true) rfl (by decide) rfl dX0_init_138 ?_
  refine g_iload_n (y := I_X0_init_44) 0 dX0_init_141 rfl rfl ?_
  refine g_aald (y := I_X0_init_44) (j := 71) (tt := 1) (show kd 46 = _ from rfl) (by decide) (by decide) rfl rfl dX0_init_142 ?_
  refine g_iload_n (y := I_X0_init_44) 0 dX0_init_143 rfl rfl ?_
  refine g_putI (y := I_X0_init_44) fi_0_61 (show kd 71 = _ from rfl) rfl (by decide) rfl rfl dX0_init_144 ?_
  refine g_iinc (y := I_X0_init_44) 0 (v := 5) (ls' := [(1, .int (5 : Int32)), (0, .ref (w.2.1 + 44))]) dX0_init_147 rfl (by decide) (by decide) rfl ?_
  refine g_goto (y := I_X0_init_44) 118 dX0_init_150 (by decide) ?_
  refine g_iload_n (y := I_X0_init_44) 0 dX0_init_118 rfl rfl ?_
  refine g_bipush (y := I_X0_init_44) (v := 12) dX0_init_119 (by decide) ?_
  refine g_icmp_ge (y := I_X0_init_44) 153 dX0_init_121 (by decide) (fun h => absurd h (by decide)) (fun _ => ?_)
  refine g_aload_n (y := I_X0_init_44) 1 dX0_init_124 rfl rfl ?_
  refine g_get (y := I_X0_init_44) (v := .ref (w.2.1 + 46)) fj_0_23 (show kd 44 = _ from rfl) (b := true) rfl (by decide) rfl dX0_init_125 ?_
  refine g_iload_n (y := I_X0_init_44) 0 dX0_init_128 rfl rfl ?_
  refine g_new (y := I_X0_init_44) nw_0_21 (show kd 73 = _ from rfl) (fun _ => rfl) (fun _ => rfl) (Nat.le_of_ble_eq_true rfl) (Nat.le_of_ble_eq_true rfl) dX0_init_129 ?_
  refine g_lit (n' := 74) (k' := 29) (z' := 662) rfl rfl rfl ?_
  refine g_dup (y := I_X0_init_44) dX0_init_132 rfl ?_
  refine g_callIN (y := I_X0_init_44) (y' := I_X2_init) (As := []) (host := "OrchardBook") ⟨by decide +kernel, gm 107 (by decide +kernel) rfl, gm 40 (by decide +kernel) rfl, mh_2.1, mh_2.2, by decide +kernel⟩ rfl (gm 106 (by decide +kernel) rfl) rfl ⟨Nat.le_of_ble_eq_true rfl, Nat.le_of_ble_eq_true rfl⟩ rfl rfl rfl (Nat.le_of_ble_eq_true rfl) ⟨Nat.le_of_ble_eq_true rfl, Nat.le_of_ble_eq_true rfl⟩ (by decide) rfl dX0_init_133 (c_X2_init l w 73 74 _ _ (show kd 73 = _ from rfl) (by decide) (show kd 74 = _ from rfl) (fun _ => rfl)) ?_
  refine g_lit (n' := 75) (k' := 30) (z' := 664) rfl rfl rfl ?_
  refine g_aast (y := I_X0_init_44) (tt := 1) (show kd 46 = _ from rfl) (by decide) (show kd 73 = _ from rfl) (by decide) rfl rfl (by decide) dX0_init_136 ?_
  refine g_aload_n (y := I_X0_init_44) 1 dX0_init_137 rfl rfl ?_
  refine g_get (y := I_X0_init_44) (v := .ref (w.2.1 + 46)) fj_0_23 (show kd 44 = _ from rfl) (b := true) rfl (by decide) rfl dX0_init_138 ?_
  refine g_iload_n (y := I_X0_init_44) 0 dX0_init_141 rfl rfl ?_
  refine g_aald (y := I_X0_init_44) (j := 73) (tt := 1) (show kd 46 = _ from rfl) (by decide) (by decide) rfl rfl dX0_init_142 ?_
  refine g_iload_n (y := I_X0_init_44) 0 dX0_init_143 rfl rfl ?_
  refine g_putI (y := I_X0_init_44) fi_0_61 (show kd 73 = _ from rfl) rfl (by decide) rfl rfl dX0_init_144 ?_
  refine g_iinc (y := I_X0_init_44) 0 (v := 6) (ls' := [(1, .int (6 : Int32)), (0, .ref (w.2.1 + 44))]) dX0_init_147 rfl (by decide) (by decide) rfl ?_
  refine g_goto (y := I_X0_init_44) 118 dX0_init_150 (by decide) ?_
  refine g_iload_n (y := I_X0_init_44) 0 dX0_init_118 rfl rfl ?_
  refine g_bipush (y := I_X0_init_44) (v := 12) dX0_init_119 (by decide) ?_
  refine g_icmp_ge (y := I_X0_init_44) 153 dX0_init_121 (by decide) (fun h => absurd h (by decide)) (fun _ => ?_)
  refine g_aload_n (y := I_X0_init_44) 1 dX0_init_124 rfl rfl ?_
  refine g_get (y := I_X0_init_44) (v := .ref (w.2.1 + 46)) fj_0_23 (show kd 44 = _ from rfl) (b := true) rfl (by decide) rfl dX0_init_125 ?_
  refine g_iload_n (y := I_X0_init_44) 0 dX0_init_128 rfl rfl ?_
  refine g_new (y := I_X0_init_44) nw_0_21 (show kd 75 = _ from rfl) (fun _ => rfl) (fun _ => rfl) (Nat.le_of_ble_eq_true rfl) (Nat.le_of_ble_eq_true rfl) dX0_init_129 ?_
  refine g_lit (n' := 76) (k' := 31) (z' := 675) rfl rfl rfl ?_
  refine g_dup (y := I_X0_init_44) dX0_init_132 rfl ?_
  refine g_callIN (y := I_X0_init_44) (y' := I_X2_init) (As := []) (host := "OrchardBook") ⟨by decide +kernel, gm 107 (by decide +kernel) rfl, gm 40 (by decide +kernel) rfl, mh_2.1, mh_2.2, by decide +kernel⟩ rfl (gm 106 (by decide +kernel) rfl) rfl ⟨Nat.le_of_ble_eq_true rfl, Nat.le_of_ble_eq_true rfl⟩ rfl rfl rfl (Nat.le_of_ble_eq_true rfl) ⟨Nat.le_of_ble_eq_true rfl, Nat.le_of_ble_eq_true rfl⟩ (by decide) rfl dX0_init_133 (c_X2_init l w 75 76 _ _ (show kd 75 = _ from rfl) (by decide) (show kd 76 = _ from rfl) (fun _ => rfl)) ?_
  refine g_lit (n' := 77) (k' := 32) (z' := 677) rfl rfl rfl ?_
  refine g_aast (y := I_X0_init_44) (tt := 1) (show kd 46 = _ from rfl) (by decide) (show kd 75 = _ from rfl) (by decide) rfl rfl (by decide) dX0_init_136 ?_
  refine g_aload_n (y := I_X0_init_44) 1 dX0_init_137 rfl rfl ?_
  refine g_get (y := I_X0_init_44) (v := .ref (w.2.1 + 46)) fj_0_23 (show kd 44 = _ from rfl) (b := true) rfl (by decide) rfl dX0_init_138 ?_
  refine g_iload_n (y := I_X0_init_44) 0 dX0_init_141 rfl rfl ?_
  refine g_aald (y := I_X0_init_44) (j := 75) (tt := 1) (show kd 46 = _ from rfl) (by decide) (by decide) rfl rfl dX0_init_142 ?_
  refine g_iload_n (y := I_X0_init_44) 0 dX0_init_143 rfl rfl ?_
  refine g_putI (y := I_X0_init_44) fi_0_61 (show kd 75 = _ from rfl) rfl (by decide) rfl rfl dX0_init_144 ?_
  refine g_iinc (y := I_X0_init_44) 0 (v := 7) (ls' := [(1, .int (7 : Int32)), (0, .ref (w.2.1 + 44))]) dX0_init_147 rfl (by decide) (by decide) rfl ?_
  refine g_goto (y := I_X0_init_44) 118 dX0_init_150 (by decide) ?_
  refine g_iload_n (y := I_X0_init_44) 0 dX0_init_118 rfl rfl ?_
  refine g_bipush (y := I_X0_init_44) (v := 12) dX0_init_119 (by decide) ?_
  refine g_icmp_ge (y := I_X0_init_44) 153 dX0_init_121 (by decide) (fun h => absurd h (by decide)) (fun _ => ?_)
  refine g_aload_n (y := I_X0_init_44) 1 dX0_init_124 rfl rfl ?_
  refine g_get (y := I_X0_init_44) (v := .ref (w.2.1 + 46)) fj_0_23 (show kd 44 = _ from rfl) (b := true) rfl (by decide) rfl dX0_init_125 ?_
  refine g_iload_n (y := I_X0_init_44) 0 dX0_init_128 rfl rfl ?_
  refine g_new (y := I_X0_init_44) nw_0_21 (show kd 77 = _ from rfl) (fun _ => rfl) (fun _ => rfl) (Nat.le_of_ble_eq_true rfl) (Nat.le_of_ble_eq_true rfl) dX0_init_129 ?_
  refine g_lit (n' := 78) (k' := 33) (z' := 688) rfl rfl rfl ?_
  refine g_dup (y := I_X0_init_44) dX0_init_132 rfl ?_
  refine g_callIN (y := I_X0_init_44) (y' := I_X2_init) (As := []) (host := "OrchardBook") ⟨by decide +kernel, gm 107 (by decide +kernel) rfl, gm 40 (by decide +kernel) rfl, mh_2.1, mh_2.2, by decide +kernel⟩ rfl (gm 106 (by decide +kernel) rfl) rfl ⟨Nat.le_of_ble_eq_true rfl, Nat.le_of_ble_eq_true rfl⟩ rfl rfl rfl (Nat.le_of_ble_eq_true rfl) ⟨Nat.le_of_ble_eq_true rfl, Nat.le_of_ble_eq_true rfl⟩ (by decide) rfl dX0_init_133 (c_X2_init l w 77 78 _ _ (show kd 77 = _ from rfl) (by decide) (show kd 78 = _ from rfl) (fun _ => rfl)) ?_
  refine g_lit (n' := 79) (k' := 34) (z' := 690) rfl rfl rfl ?_
  refine g_aast (y := I_X0_init_44) (tt := 1) (show kd 46 = _ from rfl) (by decide) (show kd 77 = _ from rfl) (by decide) rfl rfl (by decide) dX0_init_136 ?_
  refine g_aload_n (y := I_X0_init_44) 1 dX0_init_137 rfl rfl ?_
  refine g_get (y := I_X0_init_44) (v := .ref (w.2.1 + 46)) fj_0_23 (show kd 44 = _ from rfl) (b := true) rfl (by decide) rfl dX0_init_138 ?_
  refine g_iload_n (y := I_X0_init_44) 0 dX0_init_141 rfl rfl ?_
  refine g_aald (y := I_X0_init_44) (j := 77) (tt := 1) (show kd 46 = _ from rfl) (by decide) (by decide) rfl rfl dX0_init_142 ?_
  refine g_iload_n (y := I_X0_init_44) 0 dX0_init_143 rfl rfl ?_
  refine g_putI (y := I_X0_init_44) fi_0_61 (show kd 77 = _ from rfl) rfl (by decide) rfl rfl dX0_init_144 ?_
  refine g_iinc (y := I_X0_init_44) 0 (v := 8) (ls' := [(1, .int (8 : Int32)), (0, .ref (w.2.1 + 44))]) dX0_init_147 rfl (by decide) (by decide) rfl ?_
  refine g_goto (y := I_X0_init_44) 118 dX0_init_150 (by decide) ?_
  refine g_iload_n (y := I_X0_init_44) 0 dX0_init_118 rfl rfl ?_
  refine g_bipush (y := I_X0_init_44) (v := 12) dX0_init_119 (by decide) ?_
  refine g_icmp_ge (y := I_X0_init_44) 153 dX0_init_121 (by decide) (fun h => absurd h (by decide)) (fun _ => ?_)
  refine g_aload_n (y := I_X0_init_44) 1 dX0_init_124 rfl rfl ?_
  refine g_get (y := I_X0_init_44) (v := .ref (w.2.1 + 46)) fj_0_23 (show kd 44 = _ from rfl) (b := true) rfl (by decide) rfl dX0_init_125 ?_
  refine g_iload_n (y := I_X0_init_44) 0 dX0_init_128 rfl rfl ?_
  refine g_new (y := I_X0_init_44) nw_0_21 (show kd 79 = _ from rfl) (fun _ => rfl) (fun _ => rfl) (Nat.le_of_ble_eq_true rfl) (Nat.le_of_ble_eq_true rfl) dX0_init_129 ?_
  refine g_lit (n' := 80) (k' := 35) (z' := 701) rfl rfl rfl ?_
  refine g_dup (y := I_X0_init_44) dX0_init_132 rfl ?_
  refine g_callIN (y := I_X0_init_44) (y' := I_X2_init) (As := []) (host := "OrchardBook") ⟨by decide +kernel, gm 107 (by decide +kernel) rfl, gm 40 (by decide +kernel) rfl, mh_2.1, mh_2.2, by decide +kernel⟩ rfl (gm 106 (by decide +kernel) rfl) rfl ⟨Nat.le_of_ble_eq_true rfl, Nat.le_of_ble_eq_true rfl⟩ rfl rfl rfl (Nat.le_of_ble_eq_true rfl) ⟨Nat.le_of_ble_eq_true rfl, Nat.le_of_ble_eq_true rfl⟩ (by decide) rfl dX0_init_133 (c_X2_init l w 79 80 _ _ (show kd 79 = _ from rfl) (by decide) (show kd 80 = _ from rfl) (fun _ => rfl)) ?_
  refine g_lit (n' := 81) (k' := 36) (z' := 703) rfl rfl rfl ?_
  refine g_aast (y := I_X0_init_44) (tt := 1) (show kd 46 = _ from rfl) (by decide) (show kd 79 = _ from rfl) (by decide) rfl rfl (by decide) dX0_init_136 ?_
  refine g_aload_n (y := I_X0_init_44) 1 dX0_init_137 rfl rfl ?_
  refine g_get (y := I_X0_init_44) (v := .ref (w.2.1 + 46)) fj_0_23 (show kd 44 = _ from rfl) (b := true) rfl (by decide) rfl dX0_init_138 ?_
  refine g_iload_n (y := I_X0_init_44) 0 dX0_init_141 rfl rfl ?_
  refine g_aald (y := I_X0_init_44) (j := 79) (tt := 1) (show kd 46 = _ from rfl) (by decide) (by decide) rfl rfl dX0_init_142 ?_
  refine g_iload_n (y := I_X0_init_44) 0 dX0_init_143 rfl rfl ?_
  refine g_putI (y := I_X0_init_44) fi_0_61 (show kd 79 = _ from rfl) rfl (by decide) rfl rfl dX0_init_144 ?_
  refine g_iinc (y := I_X0_init_44) 0 (v := 9) (ls' := [(1, .int (9 : Int32)), (0, .ref (w.2.1 + 44))]) dX0_init_147 rfl (by decide) (by decide) rfl ?_
  refine g_goto (y := I_X0_init_44) 118 dX0_init_150 (by decide) ?_
  refine g_iload_n (y := I_X0_init_44) 0 dX0_init_118 rfl rfl ?_
  refine g_bipush (y := I_X0_init_44) (v := 12) dX0_init_119 (by decide) ?_
  refine g_icmp_ge (y := I_X0_init_44) 153 dX0_init_121 (by decide) (fun h => absurd h (by decide)) (fun _ => ?_)
  refine g_aload_n (y := I_X0_init_44) 1 dX0_init_124 rfl rfl ?_
  refine g_get (y := I_X0_init_44) (v := .ref (w.2.1 + 46)) fj_0_23 (show kd 44 = _ from rfl) (b := true) rfl (by decide) rfl dX0_init_125 ?_
  refine g_iload_n (y := I_X0_init_44) 0 dX0_init_128 rfl rfl ?_
  refine g_new (y := I_X0_init_44) nw_0_21 (show kd 81 = _ from rfl) (fun _ => rfl) (fun _ => rfl) (Nat.le_of_ble_eq_true rfl) (Nat.le_of_ble_eq_true rfl) dX0_init_129 ?_
  refine g_lit (n' := 82) (k' := 37) (z' := 714) rfl rfl rfl ?_
  refine g_dup (y := I_X0_init_44) dX0_init_132 rfl ?_
  refine g_callIN (y := I_X0_init_44) (y' := I_X2_init) (As := []) (host := "OrchardBook") ⟨by decide +kernel, gm 107 (by decide +kernel) rfl, gm 40 (by decide +kernel) rfl, mh_2.1, mh_2.2, by decide +kernel⟩ rfl (gm 106 (by decide +kernel) rfl) rfl ⟨Nat.le_of_ble_eq_true rfl, Nat.le_of_ble_eq_true rfl⟩ rfl rfl rfl (Nat.le_of_ble_eq_true rfl) ⟨Nat.le_of_ble_eq_true rfl, Nat.le_of_ble_eq_true rfl⟩ (by decide) rfl dX0_init_133 (c_X2_init l w 81 82 _ _ (show kd 81 = _ from rfl) (by decide) (show kd 82 = _ from rfl) (fun _ => rfl)) ?_
  refine g_lit (n' := 83) (k' := 38) (z' := 716) rfl rfl rfl ?_
  refine g_aast (y := I_X0_init_44) (tt := 1) (show kd 46 = _ from rfl) (by decide) (show kd 81 = _ from rfl) (by decide) rfl rfl (by decide) dX0_init_136 ?_
  refine g_aload_n (y := I_X0_init_44) 1 dX0_init_137 rfl rfl ?_
  refine g_get (y := I_X0_init_44) (v := .ref (w.2.1 + 46)) fj_0_23 (show kd 44 = _ from rfl) (b := true) rfl (by decide) rfl dX0_init_138 ?_
  refine g_iload_n (y := I_X0_init_44) 0 dX0_init_141 rfl rfl ?_
  refine g_aald (y := I_X0_init_44) (j := 81) (tt := 1) (show kd 46 = _ from rfl) (by decide) (by decide) rfl rfl dX0_init_142 ?_
  refine g_iload_n (y := I_X0_init_44) 0 dX0_init_143 rfl rfl ?_
  refine g_putI (y := I_X0_init_44) fi_0_61 (show kd 81 = _ from rfl) rfl (by decide) rfl rfl dX0_init_144 ?_
  refine g_iinc (y := I_X0_init_44) 0 (v := 10) (ls' := [(1, .int (10 : Int32)), (0, .ref (w.2.1 + 44))]) dX0_init_147 rfl (by decide) (by decide) rfl ?_
  refine g_goto (y := I_X0_init_44) 118 dX0_init_150 (by decide) ?_
  refine g_iload_n (y := I_X0_init_44) 0 dX0_init_118 rfl rfl ?_
  refine g_bipush (y := I_X0_init_44) (v := 12) dX0_init_119 (by decide) ?_
  refine g_icmp_ge (y := I_X0_init_44) 153 dX0_init_121 (by decide) (fun h => absurd h (by decide)) (fun _ => ?_)
  refine g_aload_n (y := I_X0_init_44) 1 dX0_init_124 rfl rfl ?_
  refine g_get (y := I_X0_init_44) (v := .ref (w.2.1 + 46)) fj_0_23 (show kd 44 = _ from rfl) (b := true) rfl (by decide) rfl dX0_init_125 ?_
  refine g_iload_n (y := I_X0_init_44) 0 dX0_init_128 rfl rfl ?_
  refine g_new (y := I_X0_init_44) nw_0_21 (show kd 83 = _ from rfl) (fun _ => rfl) (fun _ => rfl) (Nat.le_of_ble_eq_true rfl) (Nat.le_of_ble_eq_true rfl) dX0_init_129 ?_
  refine g_lit (n' := 84) (k' := 39) (z' := 727) rfl rfl rfl ?_
  refine g_dup (y := I_X0_init_44) dX0_init_132 rfl ?_
  refine g_callIN (y := I_X0_init_44) (y' := I_X2_init) (As := []) (host := "OrchardBook") ⟨by decide +kernel, gm 107 (by decide +kernel) rfl, gm 40 (by decide +kernel) rfl, mh_2.1, mh_2.2, by decide +kernel⟩ rfl (gm 106 (by decide +kernel) rfl) rfl ⟨Nat.le_of_ble_eq_true rfl, Nat.le_of_ble_eq_true rfl⟩ rfl rfl rfl (Nat.le_of_ble_eq_true rfl) ⟨Nat.le_of_ble_eq_true rfl, Nat.le_of_ble_eq_true rfl⟩ (by decide) rfl dX0_init_133 (c_X2_init l w 83 84 _ _ (show kd 83 = _ from rfl) (by decide) (show kd 84 = _ from rfl) (fun _ => rfl)) ?_
  refine g_lit (n' := 85) (k' := 40) (z' := 729) rfl rfl rfl ?_
  refine g_aast (y := I_X0_init_44) (tt := 1) (show kd 46 = _ from rfl) (by decide) (show kd 83 = _ from rfl) (by decide) rfl rfl (by decide) dX0_init_136 ?_
  refine g_aload_n (y := I_X0_init_44) 1 dX0_init_137 rfl rfl ?_
  refine g_get (y := I_X0_init_44) (v := .ref (w.2.1 + 46)) fj_0_23 (show kd 44 = _ from rfl) (b := true) rfl (by decide) rfl dX0_init_138 ?_
  refine g_iload_n (y := I_X0_init_44) 0 dX0_init_141 rfl rfl ?_
  refine g_aald (y := I_X0_init_44) (j := 83) (tt := 1) (show kd 46 = _ from rfl) (by decide) (by decide) rfl rfl dX0_init_142 ?_
  refine g_iload_n (y := I_X0_init_44) 0 dX0_init_143 rfl rfl ?_
  refine g_putI (y := I_X0_init_44) fi_0_61 (show kd 83 = _ from rfl) rfl (by decide) rfl rfl dX0_init_144 ?_
  refine g_iinc (y := I_X0_init_44) 0 (v := 11) (ls' := [(1, .int (11 : Int32)), (0, .ref (w.2.1 + 44))]) dX0_init_147 rfl (by decide) (by decide) rfl ?_
  refine g_goto (y := I_X0_init_44) 118 dX0_init_150 (by decide) ?_
  refine g_iload_n (y := I_X0_init_44) 0 dX0_init_118 rfl rfl ?_
  refine g_bipush (y := I_X0_init_44) (v := 12) dX0_init_119 (by decide) ?_
  refine g_icmp_ge (y := I_X0_init_44) 153 dX0_init_121 (by decide) (fun h => absurd h (by decide)) (fun _ => ?_)
  refine g_aload_n (y := I_X0_init_44) 1 dX0_init_124 rfl rfl ?_
  refine g_get (y := I_X0_init_44) (v := .ref (w.2.1 + 46)) fj_0_23 (show kd 44 = _ from rfl) (b := true) rfl (by decide) rfl dX0_init_125 ?_
  refine g_iload_n (y := I_X0_init_44) 0 dX0_init_128 rfl rfl ?_
  refine g_new (y := I_X0_init_44) nw_0_21 (show kd 85 = _ from rfl) (fun _ => rfl) (fun _ => rfl) (Nat.le_of_ble_eq_true rfl) (Nat.le_of_ble_eq_true rfl) dX0_init_129 ?_
  refine g_lit (n' := 86) (k' := 41) (z' := 740) rfl rfl rfl ?_
  refine g_dup (y := I_X0_init_44) dX0_init_132 rfl ?_
  refine g_callIN (y := I_X0_init_44) (y' := I_X2_init) (As := []) (host := "OrchardBook") ⟨by decide +kernel, gm 107 (by decide +kernel) rfl, gm 40 (by decide +kernel) rfl, mh_2.1, mh_2.2, by decide +kernel⟩ rfl (gm 106 (by decide +kernel) rfl) rfl ⟨Nat.le_of_ble_eq_true rfl, Nat.le_of_ble_eq_true rfl⟩ rfl rfl rfl (Nat.le_of_ble_eq_true rfl) ⟨Nat.le_of_ble_eq_true rfl, Nat.le_of_ble_eq_true rfl⟩ (by decide) rfl dX0_init_133 (c_X2_init l w 85 86 _ _ (show kd 85 = _ from rfl) (by decide) (show kd 86 = _ from rfl) (fun _ => rfl)) ?_
  refine g_lit (n' := 87) (k' := 42) (z' := 742) rfl rfl rfl ?_
  refine g_aast (y := I_X0_init_44) (tt := 1) (show kd 46 = _ from rfl) (by decide) (show kd 85 = _ from rfl) (by decide) rfl rfl (by decide) dX0_init_136 ?_
  refine g_aload_n (y := I_X0_init_44) 1 dX0_init_137 rfl rfl ?_
  refine g_get (y := I_X0_init_44) (v := .ref (w.2.1 + 46)) fj_0_23 (show kd 44 = _ from rfl) (b := true) rfl (by decide) rfl dX0_init_138 ?_
  refine g_iload_n (y := I_X0_init_44) 0 dX0_init_141 rfl rfl ?_
  refine g_aald (y := I_X0_init_44) (j := 85) (tt := 1) (show kd 46 = _ from rfl) (by decide) (by decide) rfl rfl dX0_init_142 ?_
  refine g_iload_n (y := I_X0_init_44) 0 dX0_init_143 rfl rfl ?_
  refine g_putI (y := I_X0_init_44) fi_0_61 (show kd 85 = _ from rfl) rfl (by decide) rfl rfl dX0_init_144 ?_
  refine g_iinc (y := I_X0_init_44) 0 (v := 12) (ls' := [(1, .int (12 : Int32)), (0, .ref (w.2.1 + 44))]) dX0_init_147 rfl (by decide) (by decide) rfl ?_
  refine g_goto (y := I_X0_init_44) 118 dX0_init_150 (by decide) ?_
  refine g_iload_n (y := I_X0_init_44) 0 dX0_init_118 rfl rfl ?_
  refine g_bipush (y := I_X0_init_44) (v := 12) dX0_init_119 (by decide) ?_
  refine g_icmp_ge (y := I_X0_init_44) 153 dX0_init_121 (by decide) (fun _ => ?_) (fun h => absurd (by decide) h)
  exact g_vret (y := I_X0_init_44) rfl dX0_init_153
theorem dX3_init_0 : decode cX3_init 0 = .ok (.aload_n 0, 1) := by decide +kernel
theorem dX3_init_1 : decode cX3_init 1 = .ok (.invokespecial 3, 3) := by decide +kernel
theorem dX3_init_4 : decode cX3_init 4 = .ok (.aload_n 0, 1) := by decide +kernel
theorem dX3_init_5 : decode cX3_init 5 = .ok (.bipush 50, 2) := by decide +kernel
theorem dX3_init_7 : decode cX3_init 7 = .ok (.newarray .int, 2) := by decide +kernel
theorem dX3_init_9 : decode cX3_init 9 = .ok (.putfield 9, 3) := by decide +kernel
theorem dX3_init_12 : decode cX3_init 12 = .ok (.aload_n 0, 1) := by decide +kernel
theorem dX3_init_13 : decode cX3_init 13 = .ok (.bipush 51, 2) := by decide +kernel
theorem dX3_init_15 : decode cX3_init 15 = .ok (.newarray .int, 2) := by decide +kernel
theorem dX3_init_17 : decode cX3_init 17 = .ok (.putfield 15, 3) := by decide +kernel
theorem dX3_init_20 : decode cX3_init 20 = .ok (.aload_n 0, 1) := by decide +kernel
theorem dX3_init_21 : decode cX3_init 21 = .ok (.bipush 6, 2) := by decide +kernel
theorem dX3_init_23 : decode cX3_init 23 = .ok (.newarray .int, 2) := by decide +kernel
theorem dX3_init_25 : decode cX3_init 25 = .ok (.putfield 18, 3) := by decide +kernel
theorem dX3_init_28 : decode cX3_init 28 = .ok (.aload_n 0, 1) := by decide +kernel
theorem dX3_init_29 : decode cX3_init 29 = .ok (.bipush 6, 2) := by decide +kernel
theorem dX3_init_31 : decode cX3_init 31 = .ok (.newarray .int, 2) := by decide +kernel
theorem dX3_init_33 : decode cX3_init 33 = .ok (.putfield 21, 3) := by decide +kernel
theorem dX3_init_36 : decode cX3_init 36 = .ok (.return_, 1) := by decide +kernel
theorem fi_3_9 : FP RX3 9 3 0 true (.array .int) := ⟨_, _, _, tyX3, rfl, iX3, by decide, gm 245 (by decide +kernel) rfl, tyX3_ok, nmX3, rfl, (fun h => rfl), rfl⟩
theorem fi_3_15 : FP RX3 15 3 1 true (.array .int) := ⟨_, _, _, tyX3, rfl, iX3, by decide, gm 247 (by decide +kernel) rfl, tyX3_ok, nmX3, rfl, (fun h => rfl), rfl⟩
theorem fi_3_18 : FP RX3 18 3 2 true (.array .int) := ⟨_, _, _, tyX3, rfl, iX3, by decide, gm 249 (by decide +kernel) rfl, tyX3_ok, nmX3, rfl, (fun h => rfl), rfl⟩
theorem fi_3_21 : FP RX3 21 3 3 true (.array .int) := ⟨_, _, _, tyX3, rfl, iX3, by decide, gm 251 (by decide +kernel) rfl, tyX3_ok, nmX3, rfl, (fun h => rfl), rfl⟩
abbrev I_X3_init_96 : MI := (yX3_init, cX3_init, 1, none, { frames := 1, cells := 4, slots := 113, locals := 20 })
def r_X3_init_96 : Rf := (up2 (up2 (up2 (up2 (up2 (up2 (up2 (up2 (up2 (up2 (up2 (up2 (up2 (up2 r_X0_init_44 0 1 (some 44)) 0 3 (some 87)) 88 2 (some 89)) 87 (ix (0 : Int32)) (some 88)) 90 2 (some 91)) 87 (ix (1 : Int32)) (some 90)) 92 2 (some 93)) 87 (ix (2 : Int32)) (some 92)) 94 2 (some 95)) 87 (ix (3 : Int32)) (some 94)) 96 0 (some 97)) 96 1 (some 98)) 96 2 (some 99)) 96 3 (some 100))
def s_X3_init_96 : St := (wr s_X0_init_44 0 2 (0 : Int32))
set_option maxRecDepth 100000 in
set_option maxHeartbeats 4000000 in
theorem c_X3_init_96 (l : Launch) (w : Wd) : Ct l w I_X3_init_96 [.ref (w.2.1 + 96)] 97 (up2 (up2 (up2 (up2 (up2 (up2 (up2 (up2 (up2 (up2 r_X0_init_44 0 1 (some 44)) 0 3 (some 87)) 88 2 (some 89)) 87 (ix (0 : Int32)) (some 88)) 90 2 (some 91)) 87 (ix (1 : Int32)) (some 90)) 92 2 (some 93)) 87 (ix (2 : Int32)) (some 92)) 94 2 (some 95)) 87 (ix (3 : Int32)) (some 94)) (wr s_X0_init_44 0 2 (0 : Int32)) (101, r_X3_init_96, s_X3_init_96, 4, 113) none := by
  refine Ct.of (Nat.le_of_ble_eq_true rfl) pn_3 ?_
  refine g_aload_n (y := I_X3_init_96) 0 dX3_init_0 rfl rfl ?_
  refine g_objInit (y := I_X3_init_96) (gm 244 (by decide +kernel) rfl) oi_i oi_c (Nat.le_of_ble_eq_true rfl) (Nat.le_of_ble_eq_true rfl) dX3_init_1 ?_
  refine g_aload_n (y := I_X3_init_96) 0 dX3_init_4 rfl rfl ?_
  refine g_bipush (y := I_X3_init_96) (v := 50) dX3_init_5 (by decide) ?_
  refine g_newI (y := I_X3_init_96) ac_int (show kd 97 = _ from rfl) (fun _ => rfl) (by decide) (by decide) (by decide) (Nat.le_of_ble_eq_true rfl) (Nat.le_of_ble_eq_true rfl) dX3_init_7 ?_
  refine g_lit (n' := 98) (k' := 1) (z' := 50) rfl rfl rfl ?_
  refine g_putR (y := I_X3_init_96) fi_3_9 rfl (show kd 96 = _ from rfl) rfl (by decide) rfl rfl dX3_init_9 ?_
  refine g_aload_n (y := I_X3_init_96) 0 dX3_init_12 rfl rfl ?_
  refine g_bipush (y := I_X3_init_96) (v := 51) dX3_init_13 (by decide) ?_
  refine g_newI (y := I_X3_init_96) ac_int (show kd 98 = _ from rfl) (fun _ => rfl) (by decide) (by decide) (by decide) (Nat.le_of_ble_eq_true rfl) (Nat.le_of_ble_eq_true rfl) dX3_init_15 ?_
  refine g_lit (n' := 99) (k' := 2) (z' := 101) rfl rfl rfl ?_
  refine g_putR (y := I_X3_init_96) fi_3_15 rfl (show kd 96 = _ from rfl) rfl (by decide) rfl rfl dX3_init_17 ?_
  refine g_aload_n (y := I_X3_init_96) 0 dX3_init_20 rfl rfl ?_
  refine g_bipush (y := I_X3_init_96) (v := 6) dX3_init_21 (by decide) ?_
  refine g_newI (y := I_X3_init_96) ac_int (show kd 99 = _ from rfl) (fun _ => rfl) (by decide) (by decide) (by decide) (Nat.le_of_ble_eq_true rfl) (Nat.le_of_ble_eq_true rfl) dX3_init_23 ?_
  refine g_lit (n' := 100) (k' := 3) (z' := 107) rfl rfl rfl ?_
  refine g_putR (y := I_X3_init_96) fi_3_18 rfl (show kd 96 = _ from rfl) rfl (by decide) rfl rfl dX3_init_25 ?_
  refine g_aload_n (y := I_X3_init_96) 0 dX3_init_28 rfl rfl ?_
  refine g_bipush (y := I_X3_init_96) (v := 6) dX3_init_29 (by decide) ?_
  refine g_newI (y := I_X3_init_96) ac_int (show kd 100 = _ from rfl) (fun _ => rfl) (by decide) (by decide) (by decide) (Nat.le_of_ble_eq_true rfl) (Nat.le_of_ble_eq_true rfl) dX3_init_31 ?_
  refine g_lit (n' := 101) (k' := 4) (z' := 113) rfl rfl rfl ?_
  refine g_putR (y := I_X3_init_96) fi_3_21 rfl (show kd 96 = _ from rfl) rfl (by decide) rfl rfl dX3_init_33 ?_
  exact g_vret (y := I_X3_init_96) rfl dX3_init_36
theorem dX1_init_0 : decode cX1_init 0 = .ok (.aload_n 0, 1) := by decide +kernel
theorem dX1_init_1 : decode cX1_init 1 = .ok (.invokespecial 3, 3) := by decide +kernel
theorem dX1_init_4 : decode cX1_init 4 = .ok (.aload_n 0, 1) := by decide +kernel
theorem dX1_init_5 : decode cX1_init 5 = .ok (.bipush 12, 2) := by decide +kernel
theorem dX1_init_7 : decode cX1_init 7 = .ok (.newarray .int, 2) := by decide +kernel
theorem dX1_init_9 : decode cX1_init 9 = .ok (.putfield 9, 3) := by decide +kernel
theorem dX1_init_12 : decode cX1_init 12 = .ok (.aload_n 0, 1) := by decide +kernel
theorem dX1_init_13 : decode cX1_init 13 = .ok (.bipush 12, 2) := by decide +kernel
theorem dX1_init_15 : decode cX1_init 15 = .ok (.newarray .int, 2) := by decide +kernel
theorem dX1_init_17 : decode cX1_init 17 = .ok (.putfield 15, 3) := by decide +kernel
theorem dX1_init_20 : decode cX1_init 20 = .ok (.aload_n 0, 1) := by decide +kernel
theorem dX1_init_21 : decode cX1_init 21 = .ok (.bipush 12, 2) := by decide +kernel
theorem dX1_init_23 : decode cX1_init 23 = .ok (.newarray .int, 2) := by decide +kernel
theorem dX1_init_25 : decode cX1_init 25 = .ok (.putfield 18, 3) := by decide +kernel
theorem dX1_init_28 : decode cX1_init 28 = .ok (.aload_n 0, 1) := by decide +kernel
theorem dX1_init_29 : decode cX1_init 29 = .ok (.bipush 12, 2) := by decide +kernel
theorem dX1_init_31 : decode cX1_init 31 = .ok (.newarray .int, 2) := by decide +kernel
theorem dX1_init_33 : decode cX1_init 33 = .ok (.putfield 21, 3) := by decide +kernel
theorem dX1_init_36 : decode cX1_init 36 = .ok (.aload_n 0, 1) := by decide +kernel
theorem dX1_init_37 : decode cX1_init 37 = .ok (.bipush 13, 2) := by decide +kernel
theorem dX1_init_39 : decode cX1_init 39 = .ok (.newarray .int, 2) := by decide +kernel
theorem dX1_init_41 : decode cX1_init 41 = .ok (.putfield 24, 3) := by decide +kernel
theorem dX1_init_44 : decode cX1_init 44 = .ok (.aload_n 0, 1) := by decide +kernel
theorem dX1_init_45 : decode cX1_init 45 = .ok (.bipush 36, 2) := by decide +kernel
theorem dX1_init_47 : decode cX1_init 47 = .ok (.newarray .int, 2) := by decide +kernel
theorem dX1_init_49 : decode cX1_init 49 = .ok (.putfield 27, 3) := by decide +kernel
theorem dX1_init_52 : decode cX1_init 52 = .ok (.return_, 1) := by decide +kernel
theorem fi_1_9 : FP RX1 9 1 4 true (.array .int) := ⟨_, _, _, tyX1, rfl, iX1, by decide, gm 274 (by decide +kernel) rfl, tyX1_ok, nmX1, rfl, (fun h => rfl), rfl⟩
theorem fi_1_15 : FP RX1 15 1 5 true (.array .int) := ⟨_, _, _, tyX1, rfl, iX1, by decide, gm 275 (by decide +kernel) rfl, tyX1_ok, nmX1, rfl, (fun h => rfl), rfl⟩
theorem fi_1_18 : FP RX1 18 1 6 true (.array .int) := ⟨_, _, _, tyX1, rfl, iX1, by decide, gm 276 (by decide +kernel) rfl, tyX1_ok, nmX1, rfl, (fun h => rfl), rfl⟩
theorem fi_1_21 : FP RX1 21 1 7 true (.array .int) := ⟨_, _, _, tyX1, rfl, iX1, by decide, gm 278 (by decide +kernel) rfl, tyX1_ok, nmX1, rfl, (fun h => rfl), rfl⟩
theorem fi_1_24 : FP RX1 24 1 8 true (.array .int) := ⟨_, _, _, tyX1, rfl, iX1, by decide, gm 279 (by decide +kernel) rfl, tyX1_ok, nmX1, rfl, (fun h => rfl), rfl⟩
theorem fi_1_27 : FP RX1 27 1 9 true (.array .int) := ⟨_, _, _, tyX1, rfl, iX1, by decide, gm 280 (by decide +kernel) rfl, tyX1_ok, nmX1, rfl, (fun h => rfl), rfl⟩
abbrev I_X1_init_101 : MI := (yX1_init, cX1_init, 1, none, { frames := 1, cells := 6, slots := 97, locals := 20 })
def r_X1_init_101 : Rf := (up2 (up2 (up2 (up2 (up2 (up2 (up2 r_X3_init_96 0 4 (some 96)) 101 4 (some 102)) 101 5 (some 103)) 101 6 (some 104)) 101 7 (some 105)) 101 8 (some 106)) 101 9 (some 107))
def s_X1_init_101 : St := s_X3_init_96
set_option maxRecDepth 100000 in
set_option maxHeartbeats 4000000 in
theorem c_X1_init_101 (l : Launch) (w : Wd) : Ct l w I_X1_init_101 [.ref (w.2.1 + 101)] 102 (up2 r_X3_init_96 0 4 (some 96)) s_X3_init_96 (108, r_X1_init_101, s_X1_init_101, 6, 97) none := by
  refine Ct.of (Nat.le_of_ble_eq_true rfl) pn_1 ?_
  refine g_aload_n (y := I_X1_init_101) 0 dX1_init_0 rfl rfl ?_
  refine g_objInit (y := I_X1_init_101) (gm 266 (by decide +kernel) rfl) oi_i oi_c (Nat.le_of_ble_eq_true rfl) (Nat.le_of_ble_eq_true rfl) dX1_init_1 ?_
  refine g_aload_n (y := I_X1_init_101) 0 dX1_init_4 rfl rfl ?_
  refine g_bipush (y := I_X1_init_101) (v := 12) dX1_init_5 (by decide) ?_
  refine g_newI (y := I_X1_init_101) ac_int (show kd 102 = _ from rfl) (fun _ => rfl) (by decide) (by decide) (by decide) (Nat.le_of_ble_eq_true rfl) (Nat.le_of_ble_eq_true rfl) dX1_init_7 ?_
  refine g_lit (n' := 103) (k' := 1) (z' := 12) rfl rfl rfl ?_
  refine g_putR (y := I_X1_init_101) fi_1_9 rfl (show kd 101 = _ from rfl) rfl (by decide) rfl rfl dX1_init_9 ?_
  refine g_aload_n (y := I_X1_init_101) 0 dX1_init_12 rfl rfl ?_
  refine g_bipush (y := I_X1_init_101) (v := 12) dX1_init_13 (by decide) ?_
  refine g_newI (y := I_X1_init_101) ac_int (show kd 103 = _ from rfl) (fun _ => rfl) (by decide) (by decide) (by decide) (Nat.le_of_ble_eq_true rfl) (Nat.le_of_ble_eq_true rfl) dX1_init_15 ?_
  refine g_lit (n' := 104) (k' := 2) (z' := 24) rfl rfl rfl ?_
  refine g_putR (y := I_X1_init_101) fi_1_15 rfl (show kd 101 = _ from rfl) rfl (by decide) rfl rfl dX1_init_17 ?_
  refine g_aload_n (y := I_X1_init_101) 0 dX1_init_20 rfl rfl ?_
  refine g_bipush (y := I_X1_init_101) (v := 12) dX1_init_21 (by decide) ?_
  refine g_newI (y := I_X1_init_101) ac_int (show kd 104 = _ from rfl) (fun _ => rfl) (by decide) (by decide) (by decide) (Nat.le_of_ble_eq_true rfl) (Nat.le_of_ble_eq_true rfl) dX1_init_23 ?_
  refine g_lit (n' := 105) (k' := 3) (z' := 36) rfl rfl rfl ?_
  refine g_putR (y := I_X1_init_101) fi_1_18 rfl (show kd 101 = _ from rfl) rfl (by decide) rfl rfl dX1_init_25 ?_
  refine g_aload_n (y := I_X1_init_101) 0 dX1_init_28 rfl rfl ?_
  refine g_bipush (y := I_X1_init_101) (v := 12) dX1_init_29 (by decide) ?_
  refine g_newI (y := I_X1_init_101) ac_int (show kd 105 = _ from rfl) (fun _ => rfl) (by decide) (by decide) (by decide) (Nat.le_of_ble_eq_true rfl) (Nat.le_of_ble_eq_true rfl) dX1_init_31 ?_
  refine g_lit (n' := 106) (k' := 4) (z' := 48) rfl rfl rfl ?_
  refine g_putR (y := I_X1_init_101) fi_1_21 rfl (show kd 101 = _ from rfl) rfl (by decide) rfl rfl dX1_init_33 ?_
  refine g_aload_n (y := I_X1_init_101) 0 dX1_init_36 rfl rfl ?_
  refine g_bipush (y := I_X1_init_101) (v := 13) dX1_init_37 (by decide) ?_
  refine g_newI (y := I_X1_init_101) ac_int (show kd 106 = _ from rfl) (fun _ => rfl) (by decide) (by decide) (by decide) (Nat.le_of_ble_eq_true rfl) (Nat.le_of_ble_eq_true rfl) dX1_init_39 ?_
  refine g_lit (n' := 107) (k' := 5) (z' := 61) rfl rfl rfl ?_
  refine g_putR (y := I_X1_init_101) fi_1_24 rfl (show kd 101 = _ from rfl) rfl (by decide) rfl rfl dX1_init_41 ?_
  refine g_aload_n (y := I_X1_init_101) 0 dX1_init_44 rfl rfl ?_
  refine g_bipush (y := I_X1_init_101) (v := 36) dX1_init_45 (by decide) ?_
  refine g_newI (y := I_X1_init_101) ac_int (show kd 107 = _ from rfl) (fun _ => rfl) (by decide) (by decide) (by decide) (Nat.le_of_ble_eq_true rfl) (Nat.le_of_ble_eq_true rfl) dX1_init_47 ?_
  refine g_lit (n' := 108) (k' := 6) (z' := 97) rfl rfl rfl ?_
  refine g_putR (y := I_X1_init_101) fi_1_27 rfl (show kd 101 = _ from rfl) rfl (by decide) rfl rfl dX1_init_49 ?_
  exact g_vret (y := I_X1_init_101) rfl dX1_init_52
theorem dX6_init_0 : decode cX6_init 0 = .ok (.aload_n 0, 1) := by decide +kernel
theorem dX6_init_1 : decode cX6_init 1 = .ok (.invokespecial 1, 3) := by decide +kernel
theorem dX6_init_4 : decode cX6_init 4 = .ok (.aload_n 0, 1) := by decide +kernel
theorem dX6_init_5 : decode cX6_init 5 = .ok (.new 7, 3) := by decide +kernel
theorem dX6_init_8 : decode cX6_init 8 = .ok (.dup, 1) := by decide +kernel
theorem dX6_init_9 : decode cX6_init 9 = .ok (.invokespecial 9, 3) := by decide +kernel
theorem dX6_init_12 : decode cX6_init 12 = .ok (.putfield 10, 3) := by decide +kernel
theorem dX6_init_15 : decode cX6_init 15 = .ok (.aload_n 0, 1) := by decide +kernel
theorem dX6_init_16 : decode cX6_init 16 = .ok (.new 7, 3) := by decide +kernel
theorem dX6_init_19 : decode cX6_init 19 = .ok (.dup, 1) := by decide +kernel
theorem dX6_init_20 : decode cX6_init 20 = .ok (.invokespecial 9, 3) := by decide +kernel
theorem dX6_init_23 : decode cX6_init 23 = .ok (.putfield 16, 3) := by decide +kernel
theorem dX6_init_26 : decode cX6_init 26 = .ok (.aload_n 0, 1) := by decide +kernel
theorem dX6_init_27 : decode cX6_init 27 = .ok (.iconst 0, 1) := by decide +kernel
theorem dX6_init_28 : decode cX6_init 28 = .ok (.putfield 19, 3) := by decide +kernel
theorem dX6_init_31 : decode cX6_init 31 = .ok (.aload_n 0, 1) := by decide +kernel
theorem dX6_init_32 : decode cX6_init 32 = .ok (.iconst 4, 1) := by decide +kernel
theorem dX6_init_33 : decode cX6_init 33 = .ok (.anewarray 23, 3) := by decide +kernel
theorem dX6_init_36 : decode cX6_init 36 = .ok (.putfield 25, 3) := by decide +kernel
theorem dX6_init_39 : decode cX6_init 39 = .ok (.iconst 0, 1) := by decide +kernel
theorem dX6_init_40 : decode cX6_init 40 = .ok (.istore_n 1, 1) := by decide +kernel
theorem dX6_init_41 : decode cX6_init 41 = .ok (.iload_n 1, 1) := by decide +kernel
theorem dX6_init_42 : decode cX6_init 42 = .ok (.iconst 4, 1) := by decide +kernel
theorem dX6_init_43 : decode cX6_init 43 = .ok (.if_icmp .ge 22, 3) := by decide +kernel
theorem dX6_init_46 : decode cX6_init 46 = .ok (.aload_n 0, 1) := by decide +kernel
theorem dX6_init_47 : decode cX6_init 47 = .ok (.getfield 25, 3) := by decide +kernel
theorem dX6_init_50 : decode cX6_init 50 = .ok (.iload_n 1, 1) := by decide +kernel
theorem dX6_init_51 : decode cX6_init 51 = .ok (.new 23, 3) := by decide +kernel
theorem dX6_init_54 : decode cX6_init 54 = .ok (.dup, 1) := by decide +kernel
theorem dX6_init_55 : decode cX6_init 55 = .ok (.invokespecial 29, 3) := by decide +kernel
theorem dX6_init_58 : decode cX6_init 58 = .ok (.aastore, 1) := by decide +kernel
theorem dX6_init_59 : decode cX6_init 59 = .ok (.iinc 1 1, 3) := by decide +kernel
theorem dX6_init_62 : decode cX6_init 62 = .ok (.goto (-21), 3) := by decide +kernel
theorem dX6_init_65 : decode cX6_init 65 = .ok (.aload_n 0, 1) := by decide +kernel
theorem dX6_init_66 : decode cX6_init 66 = .ok (.new 30, 3) := by decide +kernel
theorem dX6_init_69 : decode cX6_init 69 = .ok (.dup, 1) := by decide +kernel
theorem dX6_init_70 : decode cX6_init 70 = .ok (.invokespecial 32, 3) := by decide +kernel
theorem dX6_init_73 : decode cX6_init 73 = .ok (.putfield 33, 3) := by decide +kernel
theorem dX6_init_76 : decode cX6_init 76 = .ok (.aload_n 0, 1) := by decide +kernel
theorem dX6_init_77 : decode cX6_init 77 = .ok (.new 37, 3) := by decide +kernel
theorem dX6_init_80 : decode cX6_init 80 = .ok (.dup, 1) := by decide +kernel
theorem dX6_init_81 : decode cX6_init 81 = .ok (.invokespecial 39, 3) := by decide +kernel
theorem dX6_init_84 : decode cX6_init 84 = .ok (.putfield 40, 3) := by decide +kernel
theorem dX6_init_87 : decode cX6_init 87 = .ok (.aload_n 0, 1) := by decide +kernel
theorem dX6_init_88 : decode cX6_init 88 = .ok (.iconst 0, 1) := by decide +kernel
theorem dX6_init_89 : decode cX6_init 89 = .ok (.putfield 44, 3) := by decide +kernel
theorem dX6_init_92 : decode cX6_init 92 = .ok (.return_, 1) := by decide +kernel
theorem nw_6_7 : NW RX6 7 0 13 [true, false, true, false, false, false, true, true, true, false, false, false, true] := ⟨_, _, tyX0, rfl, iX0, tyX0_ok, gm 55 (by decide +kernel) rfl, gm 56 (by decide +kernel) rfl, gm 38 (by decide +kernel) rfl, rfl, by decide +kernel⟩
theorem fi_6_10 : FP RX6 10 6 0 true (.object "OrchardBook$Book") := ⟨_, _, _, tyX6, rfl, iX6, by decide, gm 302 (by decide +kernel) rfl, tyX6_ok, nmX6, rfl, (fun h => rfl), rfl⟩
theorem fi_6_16 : FP RX6 16 6 1 true (.object "OrchardBook$Book") := ⟨_, _, _, tyX6, rfl, iX6, by decide, gm 303 (by decide +kernel) rfl, tyX6_ok, nmX6, rfl, (fun h => rfl), rfl⟩
theorem fi_6_19 : FP RX6 19 6 2 false (.boolean) := ⟨_, _, _, tyX6, rfl, iX6, by decide, gm 304 (by decide +kernel) rfl, tyX6_ok, nmX6, rfl, (fun h => by cases h), rfl⟩
theorem fi_6_25 : FP RX6 25 6 3 true (.array (.object "OrchardBook$Sheet")) := ⟨_, _, _, tyX6, rfl, iX6, by decide, gm 305 (by decide +kernel) rfl, tyX6_ok, nmX6, rfl, (fun h => rfl), rfl⟩
theorem fj_6_25 : FL RX6 25 6 3 := ⟨_, _, _, rfl, iX6, by decide, gm 305 (by decide +kernel) rfl⟩
theorem nw_6_23 : NW RX6 23 4 3 [false, false, true] := ⟨_, _, tyX4, rfl, iX4, tyX4_ok, gm 219 (by decide +kernel) rfl, gm 221 (by decide +kernel) rfl, gm 41 (by decide +kernel) rfl, rfl, by decide +kernel⟩
theorem nw_6_30 : NW RX6 30 3 4 [true, true, true, true] := ⟨_, _, tyX3, rfl, iX3, tyX3_ok, gm 239 (by decide +kernel) rfl, gm 240 (by decide +kernel) rfl, gm 42 (by decide +kernel) rfl, rfl, by decide +kernel⟩
theorem fi_6_33 : FP RX6 33 6 4 true (.object "OrchardBook$Season") := ⟨_, _, _, tyX6, rfl, iX6, by decide, gm 306 (by decide +kernel) rfl, tyX6_ok, nmX6, rfl, (fun h => rfl), rfl⟩
theorem nw_6_37 : NW RX6 37 1 10 [false, false, false, false, true, true, true, true, true, true] := ⟨_, _, tyX1, rfl, iX1, tyX1_ok, gm 261 (by decide +kernel) rfl, gm 262 (by decide +kernel) rfl, gm 43 (by decide +kernel) rfl, rfl, by decide +kernel⟩
theorem fi_6_40 : FP RX6 40 6 5 true (.object "OrchardBook$Laying") := ⟨_, _, _, tyX6, rfl, iX6, by decide, gm 307 (by decide +kernel) rfl, tyX6_ok, nmX6, rfl, (fun h => rfl), rfl⟩
theorem fi_6_44 : FP RX6 44 6 6 false (.int) := ⟨_, _, _, tyX6, rfl, iX6, by decide, gm 308 (by decide +kernel) rfl, tyX6_ok, nmX6, rfl, (fun h => by cases h), rfl⟩
abbrev I_X6_init_0 : MI := (yX6_init, cX6_init, 2, none, { frames := 3, cells := 107, slots := 1950, locals := 61 })
def r_X6_init_0 : Rf := (up2 r_X1_init_101 0 5 (some 101))
def s_X6_init_0 : St := (wr s_X1_init_101 0 6 (0 : Int32))
set_option maxRecDepth 100000 in
set_option maxHeartbeats 4000000 in
theorem c_X6_init_0 (l : Launch) (w : Wd) : Ct l w I_X6_init_0 [.ref (w.2.1 + 0)] 1 rho0 St0 (108, r_X6_init_0, s_X6_init_0, 107, 1950) none := by
  refine Ct.of (Nat.le_of_ble_eq_true rfl) pn_6 ?_
  refine g_aload_n (y := I_X6_init_0) 0 dX6_init_0 rfl rfl ?_
  refine g_objInit (y := I_X6_init_0) (gm 52 (by decide +kernel) rfl) oi_i oi_c (Nat.le_of_ble_eq_true rfl) (Nat.le_of_ble_eq_true rfl) dX6_init_1 ?_
  refine g_aload_n (y := I_X6_init_0) 0 dX6_init_4 rfl rfl ?_
  refine g_new (y := I_X6_init_0) nw_6_7 (show kd 1 = _ from rfl) (fun _ => rfl) (fun _ => rfl) (Nat.le_of_ble_eq_true rfl) (Nat.le_of_ble_eq_true rfl) dX6_init_5 ?_
  refine g_lit (n' := 2) (k' := 1) (z' := 13) rfl rfl rfl ?_
  refine g_dup (y := I_X6_init_0) dX6_init_8 rfl ?_
  refine g_callI (y := I_X6_init_0) (y' := I_X0_init_1) (As := []) ⟨⟨gm 57 (by decide +kernel) rfl, gm 59 (by decide +kernel) rfl, gm 38 (by decide +kernel) rfl, mh_0.1, mh_0.2, by decide +kernel⟩, rfl, gm 58 (by decide +kernel) rfl⟩ rfl ⟨Nat.le_of_ble_eq_true rfl, Nat.le_of_ble_eq_true rfl⟩ rfl rfl rfl (Nat.le_of_ble_eq_true rfl) ⟨Nat.le_of_ble_eq_true rfl, Nat.le_of_ble_eq_true rfl⟩ (by decide) rfl dX6_init_9 (c_X0_init_1 l w) ?_
  refine g_lit (n' := 44) (k' := 43) (z' := 755) rfl rfl rfl ?_
  refine g_putR (y := I_X6_init_0) fi_6_10 rfl (show kd 0 = _ from rfl) rfl (by decide) rfl rfl dX6_init_12 ?_
  refine g_aload_n (y := I_X6_init_0) 0 dX6_init_15 rfl rfl ?_
  refine g_new (y := I_X6_init_0) nw_6_7 (show kd 44 = _ from rfl) (fun _ => rfl) (fun _ => rfl) (Nat.le_of_ble_eq_true rfl) (Nat.le_of_ble_eq_true rfl) dX6_init_16 ?_
  refine g_lit (n' := 45) (k' := 44) (z' := 768) rfl rfl rfl ?_
  refine g_dup (y := I_X6_init_0) dX6_init_19 rfl ?_
  refine g_callI (y := I_X6_init_0) (y' := I_X0_init_44) (As := []) ⟨⟨gm 57 (by decide +kernel) rfl, gm 59 (by decide +kernel) rfl, gm 38 (by decide +kernel) rfl, mh_0.1, mh_0.2, by decide +kernel⟩, rfl, gm 58 (by decide +kernel) rfl⟩ rfl ⟨Nat.le_of_ble_eq_true rfl, Nat.le_of_ble_eq_true rfl⟩ rfl rfl rfl (Nat.le_of_ble_eq_true rfl) ⟨Nat.le_of_ble_eq_true rfl, Nat.le_of_ble_eq_true rfl⟩ (by decide) rfl dX6_init_20 (c_X0_init_44 l w) ?_
  refine g_lit (n' := 87) (k' := 86) (z' := 1510) rfl rfl rfl ?_
  refine g_putR (y := I_X6_init_0) fi_6_16 rfl (show kd 0 = _ from rfl) rfl (by decide) rfl rfl dX6_init_23 ?_
  refine g_aload_n (y := I_X6_init_0) 0 dX6_init_26 rfl rfl ?_
  refine g_iconst (y := I_X6_init_0) (v := 0) dX6_init_27 (by decide) ?_
  refine g_putI (y := I_X6_init_0) fi_6_19 (show kd 0 = _ from rfl) rfl (by decide) rfl rfl dX6_init_28 ?_
  refine g_aload_n (y := I_X6_init_0) 0 dX6_init_31 rfl rfl ?_
  refine g_iconst (y := I_X6_init_0) (v := 4) dX6_init_32 (by decide) ?_
  refine g_newQ (y := I_X6_init_0) (t := 2) (CC := "OrchardBook$Sheet") (gm 219 (by decide +kernel) rfl) (fun _ h => h.2.2.2.1) (show kd 87 = _ from rfl) rfl (fun _ => rfl) (by decide) (by decide) (by decide) (Nat.le_of_ble_eq_true rfl) (Nat.le_of_ble_eq_true rfl) dX6_init_33 ?_
  refine g_lit (n' := 88) (k' := 87) (z' := 1514) rfl rfl rfl ?_
  refine g_putR (y := I_X6_init_0) fi_6_25 rfl (show kd 0 = _ from rfl) rfl (by decide) rfl rfl dX6_init_36 ?_
  refine g_iconst (y := I_X6_init_0) (v := 0) dX6_init_39 (by decide) ?_
  refine g_istore_n (y := I_X6_init_0) (ls' := [(1, .int (0 : Int32)), (0, .ref (w.2.1 + 0))]) dX6_init_40 rfl (by decide) rfl ?_
  refine g_iload_n (y := I_X6_init_0) 0 dX6_init_41 rfl rfl ?_
  refine g_iconst (y := I_X6_init_0) (v := 4) dX6_init_42 (by decide) ?_
  refine g_icmp_ge (y := I_X6_init_0) 65 dX6_init_43 (by decide) (fun h => absurd h (by decide)) (fun _ => ?_)
  refine g_aload_n (y := I_X6_init_0) 1 dX6_init_46 rfl rfl ?_
  refine g_get (y := I_X6_init_0) (v := .ref (w.2.1 + 87)) fj_6_25 (show kd 0 = _ from rfl) (b := true) rfl (by decide) rfl dX6_init_47 ?_
  refine g_iload_n (y := I_X6_init_0) 0 dX6_init_50 rfl rfl ?_
  refine g_new (y := I_X6_init_0) nw_6_23 (show kd 88 = _ from rfl) (fun _ => rfl) (fun _ => rfl) (Nat.le_of_ble_eq_true rfl) (Nat.le_of_ble_eq_true rfl) dX6_init_51 ?_
  refine g_lit (n' := 89) (k' := 88) (z' := 1517) rfl rfl rfl ?_
  refine g_dup (y := I_X6_init_0) dX6_init_54 rfl ?_
  refine g_callIN (y := I_X6_init_0) (y' := I_X4_init) (As := []) (host := "OrchardBook") ⟨by decide +kernel, gm 224 (by decide +kernel) rfl, gm 41 (by decide +kernel) rfl, mh_4.1, mh_4.2, by decide +kernel⟩ rfl (gm 223 (by decide +kernel) rfl) rfl ⟨Nat.le_of_ble_eq_true rfl, Nat.le_of_ble_eq_true rfl⟩ rfl rfl rfl (Nat.le_of_ble_eq_true rfl) ⟨Nat.le_of_ble_eq_true rfl, Nat.le_of_ble_eq_true rfl⟩ (by decide) rfl dX6_init_55 (c_X4_init l w 88 89 _ _ (show kd 88 = _ from rfl) (by decide) (show kd 89 = _ from rfl) (fun _ => rfl)) ?_
  refine g_lit (n' := 90) (k' := 89) (z' := 1567) rfl rfl rfl ?_
  refine g_aast (y := I_X6_init_0) (tt := 2) (show kd 87 = _ from rfl) (by decide) (show kd 88 = _ from rfl) (by decide) rfl rfl (by decide) dX6_init_58 ?_
  refine g_iinc (y := I_X6_init_0) 0 (v := 1) (ls' := [(1, .int (1 : Int32)), (0, .ref (w.2.1 + 0))]) dX6_init_59 rfl (by decide) (by decide) rfl ?_
  refine g_goto (y := I_X6_init_0) 41 dX6_init_62 (by decide) ?_
  refine g_iload_n (y := I_X6_init_0) 0 dX6_init_41 rfl rfl ?_
  refine g_iconst (y := I_X6_init_0) (v := 4) dX6_init_42 (by decide) ?_
  refine g_icmp_ge (y := I_X6_init_0) 65 dX6_init_43 (by decide) (fun h => absurd h (by decide)) (fun _ => ?_)
  refine g_aload_n (y := I_X6_init_0) 1 dX6_init_46 rfl rfl ?_
  refine g_get (y := I_X6_init_0) (v := .ref (w.2.1 + 87)) fj_6_25 (show kd 0 = _ from rfl) (b := true) rfl (by decide) rfl dX6_init_47 ?_
  refine g_iload_n (y := I_X6_init_0) 0 dX6_init_50 rfl rfl ?_
  refine g_new (y := I_X6_init_0) nw_6_23 (show kd 90 = _ from rfl) (fun _ => rfl) (fun _ => rfl) (Nat.le_of_ble_eq_true rfl) (Nat.le_of_ble_eq_true rfl) dX6_init_51 ?_
  refine g_lit (n' := 91) (k' := 90) (z' := 1570) rfl rfl rfl ?_
  refine g_dup (y := I_X6_init_0) dX6_init_54 rfl ?_
  refine g_callIN (y := I_X6_init_0) (y' := I_X4_init) (As := []) (host := "OrchardBook") ⟨by decide +kernel, gm 224 (by decide +kernel) rfl, gm 41 (by decide +kernel) rfl, mh_4.1, mh_4.2, by decide +kernel⟩ rfl (gm 223 (by decide +kernel) rfl) rfl ⟨Nat.le_of_ble_eq_true rfl, Nat.le_of_ble_eq_true rfl⟩ rfl rfl rfl (Nat.le_of_ble_eq_true rfl) ⟨Nat.le_of_ble_eq_true rfl, Nat.le_of_ble_eq_true rfl⟩ (by decide) rfl dX6_init_55 (c_X4_init l w 90 91 _ _ (show kd 90 = _ from rfl) (by decide) (show kd 91 = _ from rfl) (fun _ => rfl)) ?_
  refine g_lit (n' := 92) (k' := 91) (z' := 1620) rfl rfl rfl ?_
  refine g_aast (y := I_X6_init_0) (tt := 2) (show kd 87 = _ from rfl) (by decide) (show kd 90 = _ from rfl) (by decide) rfl rfl (by decide) dX6_init_58 ?_
  refine g_iinc (y := I_X6_init_0) 0 (v := 2) (ls' := [(1, .int (2 : Int32)), (0, .ref (w.2.1 + 0))]) dX6_init_59 rfl (by decide) (by decide) rfl ?_
  refine g_goto (y := I_X6_init_0) 41 dX6_init_62 (by decide) ?_
  refine g_iload_n (y := I_X6_init_0) 0 dX6_init_41 rfl rfl ?_
  refine g_iconst (y := I_X6_init_0) (v := 4) dX6_init_42 (by decide) ?_
  refine g_icmp_ge (y := I_X6_init_0) 65 dX6_init_43 (by decide) (fun h => absurd h (by decide)) (fun _ => ?_)
  refine g_aload_n (y := I_X6_init_0) 1 dX6_init_46 rfl rfl ?_
  refine g_get (y := I_X6_init_0) (v := .ref (w.2.1 + 87)) fj_6_25 (show kd 0 = _ from rfl) (b := true) rfl (by decide) rfl dX6_init_47 ?_
  refine g_iload_n (y := I_X6_init_0) 0 dX6_init_50 rfl rfl ?_
  refine g_new (y := I_X6_init_0) nw_6_23 (show kd 92 = _ from rfl) (fun _ => rfl) (fun _ => rfl) (Nat.le_of_ble_eq_true rfl) (Nat.le_of_ble_eq_true rfl) dX6_init_51 ?_
  refine g_lit (n' := 93) (k' := 92) (z' := 1623) rfl rfl rfl ?_
  refine g_dup (y := I_X6_init_0) dX6_init_54 rfl ?_
  refine g_callIN (y := I_X6_init_0) (y' := I_X4_init) (As := []) (host := "OrchardBook") ⟨by decide +kernel, gm 224 (by decide +kernel) rfl, gm 41 (by decide +kernel) rfl, mh_4.1, mh_4.2, by decide +kernel⟩ rfl (gm 223 (by decide +kernel) rfl) rfl ⟨Nat.le_of_ble_eq_true rfl, Nat.le_of_ble_eq_true rfl⟩ rfl rfl rfl (Nat.le_of_ble_eq_true rfl) ⟨Nat.le_of_ble_eq_true rfl, Nat.le_of_ble_eq_true rfl⟩ (by decide) rfl dX6_init_55 (c_X4_init l w 92 93 _ _ (show kd 92 = _ from rfl) (by decide) (show kd 93 = _ from rfl) (fun _ => rfl)) ?_
  refine g_lit (n' := 94) (k' := 93) (z' := 1673) rfl rfl rfl ?_
  refine g_aast (y := I_X6_init_0) (tt := 2) (show kd 87 = _ from rfl) (by decide) (show kd 92 = _ from rfl) (by decide) rfl rfl (by decide) dX6_init_58 ?_
  refine g_iinc (y := I_X6_init_0) 0 (v := 3) (ls' := [(1, .int (3 : Int32)), (0, .ref (w.2.1 + 0))]) dX6_init_59 rfl (by decide) (by decide) rfl ?_
  refine g_goto (y := I_X6_init_0) 41 dX6_init_62 (by decide) ?_
  refine g_iload_n (y := I_X6_init_0) 0 dX6_init_41 rfl rfl ?_
  refine g_iconst (y := I_X6_init_0) (v := 4) dX6_init_42 (by decide) ?_
  refine g_icmp_ge (y := I_X6_init_0) 65 dX6_init_43 (by decide) (fun h => absurd h (by decide)) (fun _ => ?_)
  refine g_aload_n (y := I_X6_init_0) 1 dX6_init_46 rfl rfl ?_
  refine g_get (y := I_X6_init_0) (v := .ref (w.2.1 + 87)) fj_6_25 (show kd 0 = _ from rfl) (b := true) rfl (by decide) rfl dX6_init_47 ?_
  refine g_iload_n (y := I_X6_init_0) 0 dX6_init_50 rfl rfl ?_
  refine g_new (y := I_X6_init_0) nw_6_23 (show kd 94 = _ from rfl) (fun _ => rfl) (fun _ => rfl) (Nat.le_of_ble_eq_true rfl) (Nat.le_of_ble_eq_true rfl) dX6_init_51 ?_
  refine g_lit (n' := 95) (k' := 94) (z' := 1676) rfl rfl rfl ?_
  refine g_dup (y := I_X6_init_0) dX6_init_54 rfl ?_
  refine g_callIN (y := I_X6_init_0) (y' := I_X4_init) (As := []) (host := "OrchardBook") ⟨by decide +kernel, gm 224 (by decide +kernel) rfl, gm 41 (by decide +kernel) rfl, mh_4.1, mh_4.2, by decide +kernel⟩ rfl (gm 223 (by decide +kernel) rfl) rfl ⟨Nat.le_of_ble_eq_true rfl, Nat.le_of_ble_eq_true rfl⟩ rfl rfl rfl (Nat.le_of_ble_eq_true rfl) ⟨Nat.le_of_ble_eq_true rfl, Nat.le_of_ble_eq_true rfl⟩ (by decide) rfl dX6_init_55 (c_X4_init l w 94 95 _ _ (show kd 94 = _ from rfl) (by decide) (show kd 95 = _ from rfl) (fun _ => rfl)) ?_
  refine g_lit (n' := 96) (k' := 95) (z' := 1726) rfl rfl rfl ?_
  refine g_aast (y := I_X6_init_0) (tt := 2) (show kd 87 = _ from rfl) (by decide) (show kd 94 = _ from rfl) (by decide) rfl rfl (by decide) dX6_init_58 ?_
  refine g_iinc (y := I_X6_init_0) 0 (v := 4) (ls' := [(1, .int (4 : Int32)), (0, .ref (w.2.1 + 0))]) dX6_init_59 rfl (by decide) (by decide) rfl ?_
  refine g_goto (y := I_X6_init_0) 41 dX6_init_62 (by decide) ?_
  refine g_iload_n (y := I_X6_init_0) 0 dX6_init_41 rfl rfl ?_
  refine g_iconst (y := I_X6_init_0) (v := 4) dX6_init_42 (by decide) ?_
  refine g_icmp_ge (y := I_X6_init_0) 65 dX6_init_43 (by decide) (fun _ => ?_) (fun h => absurd (by decide) h)
  refine g_aload_n (y := I_X6_init_0) 1 dX6_init_65 rfl rfl ?_
  refine g_new (y := I_X6_init_0) nw_6_30 (show kd 96 = _ from rfl) (fun _ => rfl) (fun _ => rfl) (Nat.le_of_ble_eq_true rfl) (Nat.le_of_ble_eq_true rfl) dX6_init_66 ?_
  refine g_lit (n' := 97) (k' := 96) (z' := 1730) rfl rfl rfl ?_
  refine g_dup (y := I_X6_init_0) dX6_init_69 rfl ?_
  refine g_callIN (y := I_X6_init_0) (y' := I_X3_init_96) (As := []) (host := "OrchardBook") ⟨by decide +kernel, gm 243 (by decide +kernel) rfl, gm 42 (by decide +kernel) rfl, mh_3.1, mh_3.2, by decide +kernel⟩ rfl (gm 242 (by decide +kernel) rfl) rfl ⟨Nat.le_of_ble_eq_true rfl, Nat.le_of_ble_eq_true rfl⟩ rfl rfl rfl (Nat.le_of_ble_eq_true rfl) ⟨Nat.le_of_ble_eq_true rfl, Nat.le_of_ble_eq_true rfl⟩ (by decide) rfl dX6_init_70 (c_X3_init_96 l w) ?_
  refine g_lit (n' := 101) (k' := 100) (z' := 1843) rfl rfl rfl ?_
  refine g_putR (y := I_X6_init_0) fi_6_33 rfl (show kd 0 = _ from rfl) rfl (by decide) rfl rfl dX6_init_73 ?_
  refine g_aload_n (y := I_X6_init_0) 1 dX6_init_76 rfl rfl ?_
  refine g_new (y := I_X6_init_0) nw_6_37 (show kd 101 = _ from rfl) (fun _ => rfl) (fun _ => rfl) (Nat.le_of_ble_eq_true rfl) (Nat.le_of_ble_eq_true rfl) dX6_init_77 ?_
  refine g_lit (n' := 102) (k' := 101) (z' := 1853) rfl rfl rfl ?_
  refine g_dup (y := I_X6_init_0) dX6_init_80 rfl ?_
  refine g_callIN (y := I_X6_init_0) (y' := I_X1_init_101) (As := []) (host := "OrchardBook") ⟨by decide +kernel, gm 265 (by decide +kernel) rfl, gm 43 (by decide +kernel) rfl, mh_1.1, mh_1.2, by decide +kernel⟩ rfl (gm 264 (by decide +kernel) rfl) rfl ⟨Nat.le_of_ble_eq_true rfl, Nat.le_of_ble_eq_true rfl⟩ rfl rfl rfl (Nat.le_of_ble_eq_true rfl) ⟨Nat.le_of_ble_eq_true rfl, Nat.le_of_ble_eq_true rfl⟩ (by decide) rfl dX6_init_81 (c_X1_init_101 l w) ?_
  refine g_lit (n' := 108) (k' := 107) (z' := 1950) rfl rfl rfl ?_
  refine g_putR (y := I_X6_init_0) fi_6_40 rfl (show kd 0 = _ from rfl) rfl (by decide) rfl rfl dX6_init_84 ?_
  refine g_aload_n (y := I_X6_init_0) 1 dX6_init_87 rfl rfl ?_
  refine g_iconst (y := I_X6_init_0) (v := 0) dX6_init_88 (by decide) ?_
  refine g_putI (y := I_X6_init_0) fi_6_44 (show kd 0 = _ from rfl) rfl (by decide) rfl rfl dX6_init_89 ?_
  exact g_vret (y := I_X6_init_0) rfl dX6_init_92
theorem dX7_init_0 : decode cX7_init 0 = .ok (.aload_n 0, 1) := by decide +kernel
theorem dX7_init_1 : decode cX7_init 1 = .ok (.invokespecial 1, 3) := by decide +kernel
theorem dX7_init_4 : decode cX7_init 4 = .ok (.aload_n 0, 1) := by decide +kernel
theorem dX7_init_5 : decode cX7_init 5 = .ok (.sipush 788, 3) := by decide +kernel
theorem dX7_init_8 : decode cX7_init 8 = .ok (.newarray .int, 2) := by decide +kernel
theorem dX7_init_10 : decode cX7_init 10 = .ok (.putfield 7, 3) := by decide +kernel
theorem dX7_init_13 : decode cX7_init 13 = .ok (.aload_n 0, 1) := by decide +kernel
theorem dX7_init_14 : decode cX7_init 14 = .ok (.sipush 788, 3) := by decide +kernel
theorem dX7_init_17 : decode cX7_init 17 = .ok (.newarray .int, 2) := by decide +kernel
theorem dX7_init_19 : decode cX7_init 19 = .ok (.putfield 13, 3) := by decide +kernel
theorem dX7_init_22 : decode cX7_init 22 = .ok (.aload_n 0, 1) := by decide +kernel
theorem dX7_init_23 : decode cX7_init 23 = .ok (.bipush 10, 2) := by decide +kernel
theorem dX7_init_25 : decode cX7_init 25 = .ok (.newarray .long, 2) := by decide +kernel
theorem dX7_init_27 : decode cX7_init 27 = .ok (.putfield 16, 3) := by decide +kernel
theorem dX7_init_30 : decode cX7_init 30 = .ok (.aload_n 0, 1) := by decide +kernel
theorem dX7_init_31 : decode cX7_init 31 = .ok (.bipush 10, 2) := by decide +kernel
theorem dX7_init_33 : decode cX7_init 33 = .ok (.newarray .long, 2) := by decide +kernel
theorem dX7_init_35 : decode cX7_init 35 = .ok (.putfield 20, 3) := by decide +kernel
theorem dX7_init_38 : decode cX7_init 38 = .ok (.aload_n 0, 1) := by decide +kernel
theorem dX7_init_39 : decode cX7_init 39 = .ok (.iconst 4, 1) := by decide +kernel
theorem dX7_init_40 : decode cX7_init 40 = .ok (.newarray .int, 2) := by decide +kernel
theorem dX7_init_42 : decode cX7_init 42 = .ok (.putfield 23, 3) := by decide +kernel
theorem dX7_init_45 : decode cX7_init 45 = .ok (.aload_n 0, 1) := by decide +kernel
theorem dX7_init_46 : decode cX7_init 46 = .ok (.iconst 4, 1) := by decide +kernel
theorem dX7_init_47 : decode cX7_init 47 = .ok (.newarray .int, 2) := by decide +kernel
theorem dX7_init_49 : decode cX7_init 49 = .ok (.putfield 26, 3) := by decide +kernel
theorem dX7_init_52 : decode cX7_init 52 = .ok (.aload_n 0, 1) := by decide +kernel
theorem dX7_init_53 : decode cX7_init 53 = .ok (.sipush 200, 3) := by decide +kernel
theorem dX7_init_56 : decode cX7_init 56 = .ok (.newarray .int, 2) := by decide +kernel
theorem dX7_init_58 : decode cX7_init 58 = .ok (.putfield 29, 3) := by decide +kernel
theorem dX7_init_61 : decode cX7_init 61 = .ok (.aload_n 0, 1) := by decide +kernel
theorem dX7_init_62 : decode cX7_init 62 = .ok (.bipush 12, 2) := by decide +kernel
theorem dX7_init_64 : decode cX7_init 64 = .ok (.newarray .int, 2) := by decide +kernel
theorem dX7_init_66 : decode cX7_init 66 = .ok (.putfield 32, 3) := by decide +kernel
theorem dX7_init_69 : decode cX7_init 69 = .ok (.aload_n 0, 1) := by decide +kernel
theorem dX7_init_70 : decode cX7_init 70 = .ok (.bipush 50, 2) := by decide +kernel
theorem dX7_init_72 : decode cX7_init 72 = .ok (.newarray .int, 2) := by decide +kernel
theorem dX7_init_74 : decode cX7_init 74 = .ok (.putfield 35, 3) := by decide +kernel
theorem dX7_init_77 : decode cX7_init 77 = .ok (.aload_n 0, 1) := by decide +kernel
theorem dX7_init_78 : decode cX7_init 78 = .ok (.bipush 24, 2) := by decide +kernel
theorem dX7_init_80 : decode cX7_init 80 = .ok (.newarray .int, 2) := by decide +kernel
theorem dX7_init_82 : decode cX7_init 82 = .ok (.putfield 38, 3) := by decide +kernel
theorem dX7_init_85 : decode cX7_init 85 = .ok (.aload_n 0, 1) := by decide +kernel
theorem dX7_init_86 : decode cX7_init 86 = .ok (.bipush 24, 2) := by decide +kernel
theorem dX7_init_88 : decode cX7_init 88 = .ok (.newarray .int, 2) := by decide +kernel
theorem dX7_init_90 : decode cX7_init 90 = .ok (.putfield 41, 3) := by decide +kernel
theorem dX7_init_93 : decode cX7_init 93 = .ok (.aload_n 0, 1) := by decide +kernel
theorem dX7_init_94 : decode cX7_init 94 = .ok (.bipush 24, 2) := by decide +kernel
theorem dX7_init_96 : decode cX7_init 96 = .ok (.newarray .boolean, 2) := by decide +kernel
theorem dX7_init_98 : decode cX7_init 98 = .ok (.putfield 44, 3) := by decide +kernel
theorem dX7_init_101 : decode cX7_init 101 = .ok (.aload_n 0, 1) := by decide +kernel
theorem dX7_init_102 : decode cX7_init 102 = .ok (.bipush 12, 2) := by decide +kernel
theorem dX7_init_104 : decode cX7_init 104 = .ok (.newarray .int, 2) := by decide +kernel
theorem dX7_init_106 : decode cX7_init 106 = .ok (.putfield 48, 3) := by decide +kernel
theorem dX7_init_109 : decode cX7_init 109 = .ok (.aload_n 0, 1) := by decide +kernel
theorem dX7_init_110 : decode cX7_init 110 = .ok (.bipush 12, 2) := by decide +kernel
theorem dX7_init_112 : decode cX7_init 112 = .ok (.newarray .int, 2) := by decide +kernel
theorem dX7_init_114 : decode cX7_init 114 = .ok (.putfield 51, 3) := by decide +kernel
theorem dX7_init_117 : decode cX7_init 117 = .ok (.aload_n 0, 1) := by decide +kernel
theorem dX7_init_118 : decode cX7_init 118 = .ok (.bipush 36, 2) := by decide +kernel
theorem dX7_init_120 : decode cX7_init 120 = .ok (.newarray .boolean, 2) := by decide +kernel
theorem dX7_init_122 : decode cX7_init 122 = .ok (.putfield 54, 3) := by decide +kernel
theorem dX7_init_125 : decode cX7_init 125 = .ok (.aload_n 0, 1) := by decide +kernel
theorem dX7_init_126 : decode cX7_init 126 = .ok (.sipush 144, 3) := by decide +kernel
theorem dX7_init_129 : decode cX7_init 129 = .ok (.newarray .boolean, 2) := by decide +kernel
theorem dX7_init_131 : decode cX7_init 131 = .ok (.putfield 57, 3) := by decide +kernel
theorem dX7_init_134 : decode cX7_init 134 = .ok (.iconst 0, 1) := by decide +kernel
theorem dX7_init_135 : decode cX7_init 135 = .ok (.istore_n 1, 1) := by decide +kernel
theorem dX7_init_136 : decode cX7_init 136 = .ok (.iload_n 1, 1) := by decide +kernel
theorem dX7_init_137 : decode cX7_init 137 = .ok (.bipush 12, 2) := by decide +kernel
theorem dX7_init_139 : decode cX7_init 139 = .ok (.if_icmp .ge 22, 3) := by decide +kernel
theorem dX7_init_142 : decode cX7_init 142 = .ok (.aload_n 0, 1) := by decide +kernel
theorem dX7_init_143 : decode cX7_init 143 = .ok (.getfield 7, 3) := by decide +kernel
theorem dX7_init_146 : decode cX7_init 146 = .ok (.bipush 66, 2) := by decide +kernel
theorem dX7_init_148 : decode cX7_init 148 = .ok (.bipush 11, 2) := by decide +kernel
theorem dX7_init_150 : decode cX7_init 150 = .ok (.iload_n 1, 1) := by decide +kernel
theorem dX7_init_151 : decode cX7_init 151 = .ok (.imul, 1) := by decide +kernel
theorem dX7_init_152 : decode cX7_init 152 = .ok (.iadd, 1) := by decide +kernel
theorem dX7_init_153 : decode cX7_init 153 = .ok (.iload_n 1, 1) := by decide +kernel
theorem dX7_init_154 : decode cX7_init 154 = .ok (.iastore, 1) := by decide +kernel
theorem dX7_init_155 : decode cX7_init 155 = .ok (.iinc 1 1, 3) := by decide +kernel
theorem dX7_init_158 : decode cX7_init 158 = .ok (.goto (-22), 3) := by decide +kernel
theorem dX7_init_161 : decode cX7_init 161 = .ok (.aload_n 0, 1) := by decide +kernel
theorem dX7_init_162 : decode cX7_init 162 = .ok (.getfield 7, 3) := by decide +kernel
theorem dX7_init_165 : decode cX7_init 165 = .ok (.sipush 783, 3) := by decide +kernel
theorem dX7_init_168 : decode cX7_init 168 = .ok (.iconst 3, 1) := by decide +kernel
theorem dX7_init_169 : decode cX7_init 169 = .ok (.iastore, 1) := by decide +kernel
theorem dX7_init_170 : decode cX7_init 170 = .ok (.aload_n 0, 1) := by decide +kernel
theorem dX7_init_171 : decode cX7_init 171 = .ok (.getfield 7, 3) := by decide +kernel
theorem dX7_init_174 : decode cX7_init 174 = .ok (.sipush 786, 3) := by decide +kernel
theorem dX7_init_177 : decode cX7_init 177 = .ok (.iconst (-1), 1) := by decide +kernel
theorem dX7_init_178 : decode cX7_init 178 = .ok (.iastore, 1) := by decide +kernel
theorem dX7_init_179 : decode cX7_init 179 = .ok (.return_, 1) := by decide +kernel
theorem fi_7_7 : FP RX7 7 7 0 true (.array .int) := ⟨_, _, _, tyX7, rfl, iX7, by decide, gm 794 (by decide +kernel) rfl, tyX7_ok, nmX7, rfl, (fun h => rfl), rfl⟩
theorem fi_7_13 : FP RX7 13 7 1 true (.array .int) := ⟨_, _, _, tyX7, rfl, iX7, by decide, gm 795 (by decide +kernel) rfl, tyX7_ok, nmX7, rfl, (fun h => rfl), rfl⟩
theorem fi_7_16 : FP RX7 16 7 2 true (.array .long) := ⟨_, _, _, tyX7, rfl, iX7, by decide, gm 796 (by decide +kernel) rfl, tyX7_ok, nmX7, rfl, (fun h => rfl), rfl⟩
theorem fi_7_20 : FP RX7 20 7 3 true (.array .long) := ⟨_, _, _, tyX7, rfl, iX7, by decide, gm 797 (by decide +kernel) rfl, tyX7_ok, nmX7, rfl, (fun h => rfl), rfl⟩
theorem fi_7_23 : FP RX7 23 7 5 true (.array .int) := ⟨_, _, _, tyX7, rfl, iX7, by decide, gm 799 (by decide +kernel) rfl, tyX7_ok, nmX7, rfl, (fun h => rfl), rfl⟩
theorem fi_7_26 : FP RX7 26 7 6 true (.array .int) := ⟨_, _, _, tyX7, rfl, iX7, by decide, gm 800 (by decide +kernel) rfl, tyX7_ok, nmX7, rfl, (fun h => rfl), rfl⟩
theorem fi_7_29 : FP RX7 29 7 7 true (.array .int) := ⟨_, _, _, tyX7, rfl, iX7, by decide, gm 801 (by decide +kernel) rfl, tyX7_ok, nmX7, rfl, (fun h => rfl), rfl⟩
theorem fi_7_32 : FP RX7 32 7 8 true (.array .int) := ⟨_, _, _, tyX7, rfl, iX7, by decide, gm 802 (by decide +kernel) rfl, tyX7_ok, nmX7, rfl, (fun h => rfl), rfl⟩
theorem fi_7_35 : FP RX7 35 7 11 true (.array .int) := ⟨_, _, _, tyX7, rfl, iX7, by decide, gm 805 (by decide +kernel) rfl, tyX7_ok, nmX7, rfl, (fun h => rfl), rfl⟩
theorem fi_7_38 : FP RX7 38 7 12 true (.array .int) := ⟨_, _, _, tyX7, rfl, iX7, by decide, gm 806 (by decide +kernel) rfl, tyX7_ok, nmX7, rfl, (fun h => rfl), rfl⟩
theorem fi_7_41 : FP RX7 41 7 13 true (.array .int) := ⟨_, _, _, tyX7, rfl, iX7, by decide, gm 807 (by decide +kernel) rfl, tyX7_ok, nmX7, rfl, (fun h => rfl), rfl⟩
theorem fi_7_44 : FP RX7 44 7 14 true (.array .boolean) := ⟨_, _, _, tyX7, rfl, iX7, by decide, gm 808 (by decide +kernel) rfl, tyX7_ok, nmX7, rfl, (fun h => rfl), rfl⟩
theorem fi_7_48 : FP RX7 48 7 15 true (.array .int) := ⟨_, _, _, tyX7, rfl, iX7, by decide, gm 809 (by decide +kernel) rfl, tyX7_ok, nmX7, rfl, (fun h => rfl), rfl⟩
theorem fi_7_51 : FP RX7 51 7 16 true (.array .int) := ⟨_, _, _, tyX7, rfl, iX7, by decide, gm 810 (by decide +kernel) rfl, tyX7_ok, nmX7, rfl, (fun h => rfl), rfl⟩
theorem fi_7_54 : FP RX7 54 7 17 true (.array .boolean) := ⟨_, _, _, tyX7, rfl, iX7, by decide, gm 811 (by decide +kernel) rfl, tyX7_ok, nmX7, rfl, (fun h => rfl), rfl⟩
theorem fi_7_57 : FP RX7 57 7 18 true (.array .boolean) := ⟨_, _, _, tyX7, rfl, iX7, by decide, gm 812 (by decide +kernel) rfl, tyX7_ok, nmX7, rfl, (fun h => rfl), rfl⟩
theorem fj_7_7 : FL RX7 7 7 0 := ⟨_, _, _, rfl, iX7, by decide, gm 794 (by decide +kernel) rfl⟩
abbrev I_X7_init_108 : MI := (yX7_init, cX7_init, 2, none, { frames := 1, cells := 16, slots := 2142, locals := 20 })
def r_X7_init_108 : Rf := (up2 (up2 (up2 (up2 (up2 (up2 (up2 (up2 (up2 (up2 (up2 (up2 (up2 (up2 (up2 (up2 r_X6_init_0 108 0 (some 109)) 108 1 (some 110)) 108 2 (some 111)) 108 3 (some 112)) 108 5 (some 113)) 108 6 (some 114)) 108 7 (some 115)) 108 8 (some 116)) 108 11 (some 117)) 108 12 (some 118)) 108 13 (some 119)) 108 14 (some 120)) 108 15 (some 121)) 108 16 (some 122)) 108 17 (some 123)) 108 18 (some 124))
def s_X7_init_108 : St := (wr (wr (wr (wr (wr (wr (wr (wr (wr (wr (wr (wr (wr (wr s_X6_init_0 109 (ix (66 : Int32)) (0 : Int32)) 109 (ix (77 : Int32)) (1 : Int32)) 109 (ix (88 : Int32)) (2 : Int32)) 109 (ix (99 : Int32)) (3 : Int32)) 109 (ix (110 : Int32)) (4 : Int32)) 109 (ix (121 : Int32)) (5 : Int32)) 109 (ix (132 : Int32)) (6 : Int32)) 109 (ix (143 : Int32)) (7 : Int32)) 109 (ix (154 : Int32)) (8 : Int32)) 109 (ix (165 : Int32)) (9 : Int32)) 109 (ix (176 : Int32)) (10 : Int32)) 109 (ix (187 : Int32)) (11 : Int32)) 109 (ix (783 : Int32)) (3 : Int32)) 109 (ix (786 : Int32)) (-1 : Int32))
set_option maxRecDepth 100000 in
set_option maxHeartbeats 4000000 in
theorem c_X7_init_108 (l : Launch) (w : Wd) : Ct l w I_X7_init_108 [.ref (w.2.1 + 108)] 109 r_X6_init_0 s_X6_init_0 (125, r_X7_init_108, s_X7_init_108, 16, 2142) none := by
  refine Ct.of (Nat.le_of_ble_eq_true rfl) pn_7 ?_
  refine g_aload_n (y := I_X7_init_108) 0 dX7_init_0 rfl rfl ?_
  refine g_objInit (y := I_X7_init_108) (gm 793 (by decide +kernel) rfl) oi_i oi_c (Nat.le_of_ble_eq_true rfl) (Nat.le_of_ble_eq_true rfl) dX7_init_1 ?_
  refine g_aload_n (y := I_X7_init_108) 0 dX7_init_4 rfl rfl ?_
  refine g_sipush (y := I_X7_init_108) (v := 788) dX7_init_5 (by decide) ?_
  refine g_newI (y := I_X7_init_108) ac_int (show kd 109 = _ from rfl) (fun _ => rfl) (by decide) (by decide) (by decide) (Nat.le_of_ble_eq_true rfl) (Nat.le_of_ble_eq_true rfl) dX7_init_8 ?_
  refine g_lit (n' := 110) (k' := 1) (z' := 788) rfl rfl rfl ?_
  refine g_putR (y := I_X7_init_108) fi_7_7 rfl (show kd 108 = _ from rfl) rfl (by decide) rfl rfl dX7_init_10 ?_
  refine g_aload_n (y := I_X7_init_108) 0 dX7_init_13 rfl rfl ?_
  refine g_sipush (y := I_X7_init_108) (v := 788) dX7_init_14 (by decide) ?_
  refine g_newI (y := I_X7_init_108) ac_int (show kd 110 = _ from rfl) (fun _ => rfl) (by decide) (by decide) (by decide) (Nat.le_of_ble_eq_true rfl) (Nat.le_of_ble_eq_true rfl) dX7_init_17 ?_
  refine g_lit (n' := 111) (k' := 2) (z' := 1576) rfl rfl rfl ?_
  refine g_putR (y := I_X7_init_108) fi_7_13 rfl (show kd 108 = _ from rfl) rfl (by decide) rfl rfl dX7_init_19 ?_
  refine g_aload_n (y := I_X7_init_108) 0 dX7_init_22 rfl rfl ?_
  refine g_bipush (y := I_X7_init_108) (v := 10) dX7_init_23 (by decide) ?_
  refine g_newL (y := I_X7_init_108) ac_long (show kd 111 = _ from rfl) (fun _ => rfl) (by decide) (by decide) (by decide) (Nat.le_of_ble_eq_true rfl) (Nat.le_of_ble_eq_true rfl) dX7_init_25 ?_
  refine g_lit (n' := 112) (k' := 3) (z' := 1586) rfl rfl rfl ?_
  refine g_putR (y := I_X7_init_108) fi_7_16 rfl (show kd 108 = _ from rfl) rfl (by decide) rfl rfl dX7_init_27 ?_
  refine g_aload_n (y := I_X7_init_108) 0 dX7_init_30 rfl rfl ?_
  refine g_bipush (y := I_X7_init_108) (v := 10) dX7_init_31 (by decide) ?_
  refine g_newL (y := I_X7_init_108) ac_long (show kd 112 = _ from rfl) (fun _ => rfl) (by decide) (by decide) (by decide) (Nat.le_of_ble_eq_true rfl) (Nat.le_of_ble_eq_true rfl) dX7_init_33 ?_
  refine g_lit (n' := 113) (k' := 4) (z' := 1596) rfl rfl rfl ?_
  refine g_putR (y := I_X7_init_108) fi_7_20 rfl (show kd 108 = _ from rfl) rfl (by decide) rfl rfl dX7_init_35 ?_
  refine g_aload_n (y := I_X7_init_108) 0 dX7_init_38 rfl rfl ?_
  refine g_iconst (y := I_X7_init_108) (v := 4) dX7_init_39 (by decide) ?_
  refine g_newI (y := I_X7_init_108) ac_int (show kd 113 = _ from rfl) (fun _ => rfl) (by decide) (by decide) (by decide) (Nat.le_of_ble_eq_true rfl) (Nat.le_of_ble_eq_true rfl) dX7_init_40 ?_
  refine g_lit (n' := 114) (k' := 5) (z' := 1600) rfl rfl rfl ?_
  refine g_putR (y := I_X7_init_108) fi_7_23 rfl (show kd 108 = _ from rfl) rfl (by decide) rfl rfl dX7_init_42 ?_
  refine g_aload_n (y := I_X7_init_108) 0 dX7_init_45 rfl rfl ?_
  refine g_iconst (y := I_X7_init_108) (v := 4) dX7_init_46 (by decide) ?_
  refine g_newI (y := I_X7_init_108) ac_int (show kd 114 = _ from rfl) (fun _ => rfl) (by decide) (by decide) (by decide) (Nat.le_of_ble_eq_true rfl) (Nat.le_of_ble_eq_true rfl) dX7_init_47 ?_
  refine g_lit (n' := 115) (k' := 6) (z' := 1604) rfl rfl rfl ?_
  refine g_putR (y := I_X7_init_108) fi_7_26 rfl (show kd 108 = _ from rfl) rfl (by decide) rfl rfl dX7_init_49 ?_
  refine g_aload_n (y := I_X7_init_108) 0 dX7_init_52 rfl rfl ?_
  refine g_sipush (y := I_X7_init_108) (v := 200) dX7_init_53 (by decide) ?_
  refine g_newI (y := I_X7_init_108) ac_int (show kd 115 = _ from rfl) (fun _ => rfl) (by decide) (by decide) (by decide) (Nat.le_of_ble_eq_true rfl) (Nat.le_of_ble_eq_true rfl) dX7_init_56 ?_
  refine g_lit (n' := 116) (k' := 7) (z' := 1804) rfl rfl rfl ?_
  refine g_putR (y := I_X7_init_108) fi_7_29 rfl (show kd 108 = _ from rfl) rfl (by decide) rfl rfl dX7_init_58 ?_
  refine g_aload_n (y := I_X7_init_108) 0 dX7_init_61 rfl rfl ?_
  refine g_bipush (y := I_X7_init_108) (v := 12) dX7_init_62 (by decide) ?_
  refine g_newI (y := I_X7_init_108) ac_int (show kd 116 = _ from rfl) (fun _ => rfl) (by decide) (by decide) (by decide) (Nat.le_of_ble_eq_true rfl) (Nat.le_of_ble_eq_true rfl) dX7_init_64 ?_
  refine g_lit (n' := 117) (k' := 8) (z' := 1816) rfl rfl rfl ?_
  refine g_putR (y := I_X7_init_108) fi_7_32 rfl (show kd 108 = _ from rfl) rfl (by decide) rfl rfl dX7_init_66 ?_
  refine g_aload_n (y := I_X7_init_108) 0 dX7_init_69 rfl rfl ?_
  refine g_bipush (y := I_X7_init_108) (v := 50) dX7_init_70 (by decide) ?_
  refine g_newI (y := I_X7_init_108) ac_int (show kd 117 = _ from rfl) (fun _ => rfl) (by decide) (by decide) (by decide) (Nat.le_of_ble_eq_true rfl) (Nat.le_of_ble_eq_true rfl) dX7_init_72 ?_
  refine g_lit (n' := 118) (k' := 9) (z' := 1866) rfl rfl rfl ?_
  refine g_putR (y := I_X7_init_108) fi_7_35 rfl (show kd 108 = _ from rfl) rfl (by decide) rfl rfl dX7_init_74 ?_
  refine g_aload_n (y := I_X7_init_108) 0 dX7_init_77 rfl rfl ?_
  refine g_bipush (y := I_X7_init_108) (v := 24) dX7_init_78 (by decide) ?_
  refine g_newI (y := I_X7_init_108) ac_int (show kd 118 = _ from rfl) (fun _ => rfl) (by decide) (by decide) (by decide) (Nat.le_of_ble_eq_true rfl) (Nat.le_of_ble_eq_true rfl) dX7_init_80 ?_
  refine g_lit (n' := 119) (k' := 10) (z' := 1890) rfl rfl rfl ?_
  refine g_putR (y := I_X7_init_108) fi_7_38 rfl (show kd 108 = _ from rfl) rfl (by decide) rfl rfl dX7_init_82 ?_
  refine g_aload_n (y := I_X7_init_108) 0 dX7_init_85 rfl rfl ?_
  refine g_bipush (y := I_X7_init_108) (v := 24) dX7_init_86 (by decide) ?_
  refine g_newI (y := I_X7_init_108) ac_int (show kd 119 = _ from rfl) (fun _ => rfl) (by decide) (by decide) (by decide) (Nat.le_of_ble_eq_true rfl) (Nat.le_of_ble_eq_true rfl) dX7_init_88 ?_
  refine g_lit (n' := 120) (k' := 11) (z' := 1914) rfl rfl rfl ?_
  refine g_putR (y := I_X7_init_108) fi_7_41 rfl (show kd 108 = _ from rfl) rfl (by decide) rfl rfl dX7_init_90 ?_
  refine g_aload_n (y := I_X7_init_108) 0 dX7_init_93 rfl rfl ?_
  refine g_bipush (y := I_X7_init_108) (v := 24) dX7_init_94 (by decide) ?_
  refine g_newZ (y := I_X7_init_108) ac_boolean (show kd 120 = _ from rfl) (fun _ => rfl) (by decide) (by decide) (by decide) (Nat.le_of_ble_eq_true rfl) (Nat.le_of_ble_eq_true rfl) dX7_init_96 ?_
  refine g_lit (n' := 121) (k' := 12) (z' := 1938) rfl rfl rfl ?_
  refine g_putR (y := I_X7_init_108) fi_7_44 rfl (show kd 108 = _ from rfl) rfl (by decide) rfl rfl dX7_init_98 ?_
  refine g_aload_n (y := I_X7_init_108) 0 dX7_init_101 rfl rfl ?_
  refine g_bipush (y := I_X7_init_108) (v := 12) dX7_init_102 (by decide) ?_
  refine g_newI (y := I_X7_init_108) ac_int (show kd 121 = _ from rfl) (fun _ => rfl) (by decide) (by decide) (by decide) (Nat.le_of_ble_eq_true rfl) (Nat.le_of_ble_eq_true rfl) dX7_init_104 ?_
  refine g_lit (n' := 122) (k' := 13) (z' := 1950) rfl rfl rfl ?_
  refine g_putR (y := I_X7_init_108) fi_7_48 rfl (show kd 108 = _ from rfl) rfl (by decide) rfl rfl dX7_init_106 ?_
  refine g_aload_n (y := I_X7_init_108) 0 dX7_init_109 rfl rfl ?_
  refine g_bipush (y := I_X7_init_108) (v := 12) dX7_init_110 (by decide) ?_
  refine g_newI (y := I_X7_init_108) ac_int (show kd 122 = _ from rfl) (fun _ => rfl) (by decide) (by decide) (by decide) (Nat.le_of_ble_eq_true rfl) (Nat.le_of_ble_eq_true rfl) dX7_init_112 ?_
  refine g_lit (n' := 123) (k' := 14) (z' := 1962) rfl rfl rfl ?_
  refine g_putR (y := I_X7_init_108) fi_7_51 rfl (show kd 108 = _ from rfl) rfl (by decide) rfl rfl dX7_init_114 ?_
  refine g_aload_n (y := I_X7_init_108) 0 dX7_init_117 rfl rfl ?_
  refine g_bipush (y := I_X7_init_108) (v := 36) dX7_init_118 (by decide) ?_
  refine g_newZ (y := I_X7_init_108) ac_boolean (show kd 123 = _ from rfl) (fun _ => rfl) (by decide) (by decide) (by decide) (Nat.le_of_ble_eq_true rfl) (Nat.le_of_ble_eq_true rfl) dX7_init_120 ?_
  refine g_lit (n' := 124) (k' := 15) (z' := 1998) rfl rfl rfl ?_
  refine g_putR (y := I_X7_init_108) fi_7_54 rfl (show kd 108 = _ from rfl) rfl (by decide) rfl rfl dX7_init_122 ?_
  refine g_aload_n (y := I_X7_init_108) 0 dX7_init_125 rfl rfl ?_
  refine g_sipush (y := I_X7_init_108) (v := 144) dX7_init_126 (by decide) ?_
  refine g_newZ (y := I_X7_init_108) ac_boolean (show kd 124 = _ from rfl) (fun _ => rfl) (by decide) (by decide) (by decide) (Nat.le_of_ble_eq_true rfl) (Nat.le_of_ble_eq_true rfl) dX7_init_129 ?_
  refine g_lit (n' := 125) (k' := 16) (z' := 2142) rfl rfl rfl ?_
  refine g_putR (y := I_X7_init_108) fi_7_57 rfl (show kd 108 = _ from rfl) rfl (by decide) rfl rfl dX7_init_131 ?_
  refine g_iconst (y := I_X7_init_108) (v := 0) dX7_init_134 (by decide) ?_
  refine g_istore_n (y := I_X7_init_108) (ls' := [(1, .int (0 : Int32)), (0, .ref (w.2.1 + 108))]) dX7_init_135 rfl (by decide) rfl ?_
  refine g_iload_n (y := I_X7_init_108) 0 dX7_init_136 rfl rfl ?_
  refine g_bipush (y := I_X7_init_108) (v := 12) dX7_init_137 (by decide) ?_
  refine g_icmp_ge (y := I_X7_init_108) 161 dX7_init_139 (by decide) (fun h => absurd h (by decide)) (fun _ => ?_)
  refine g_aload_n (y := I_X7_init_108) 1 dX7_init_142 rfl rfl ?_
  refine g_get (y := I_X7_init_108) (v := .ref (w.2.1 + 109)) fj_7_7 (show kd 108 = _ from rfl) (b := true) rfl (by decide) rfl dX7_init_143 ?_
  refine g_bipush (y := I_X7_init_108) (v := 66) dX7_init_146 (by decide) ?_
  refine g_bipush (y := I_X7_init_108) (v := 11) dX7_init_148 (by decide) ?_
  refine g_iload_n (y := I_X7_init_108) 0 dX7_init_150 rfl rfl ?_
  refine g_imul (y := I_X7_init_108) dX7_init_151 ?_
  refine g_st (st' := [.int (0 : Int32), .int (66 : Int32), .ref (w.2.1 + 109)]) (by rfl) ?_
  refine g_iadd (y := I_X7_init_108) dX7_init_152 ?_
  refine g_st (st' := [.int (66 : Int32), .ref (w.2.1 + 109)]) (by rfl) ?_
  refine g_iload_n (y := I_X7_init_108) 0 dX7_init_153 rfl rfl ?_
  refine g_iast (y := I_X7_init_108) (show kd 109 = _ from rfl) (by decide) (by decide) dX7_init_154 ?_
  refine g_iinc (y := I_X7_init_108) 0 (v := 1) (ls' := [(1, .int (1 : Int32)), (0, .ref (w.2.1 + 108))]) dX7_init_155 rfl (by decide) (by decide) rfl ?_
  refine g_goto (y := I_X7_init_108) 136 dX7_init_158 (by decide) ?_
  refine g_iload_n (y := I_X7_init_108) 0 dX7_init_136 rfl rfl ?_
  refine g_bipush (y := I_X7_init_108) (v := 12) dX7_init_137 (by decide) ?_
  refine g_icmp_ge (y := I_X7_init_108) 161 dX7_init_139 (by decide) (fun h => absurd h (by decide)) (fun _ => ?_)
  refine g_aload_n (y := I_X7_init_108) 1 dX7_init_142 rfl rfl ?_
  refine g_get (y := I_X7_init_108) (v := .ref (w.2.1 + 109)) fj_7_7 (show kd 108 = _ from rfl) (b := true) rfl (by decide) rfl dX7_init_143 ?_
  refine g_bipush (y := I_X7_init_108) (v := 66) dX7_init_146 (by decide) ?_
  refine g_bipush (y := I_X7_init_108) (v := 11) dX7_init_148 (by decide) ?_
  refine g_iload_n (y := I_X7_init_108) 0 dX7_init_150 rfl rfl ?_
  refine g_imul (y := I_X7_init_108) dX7_init_151 ?_
  refine g_st (st' := [.int (11 : Int32), .int (66 : Int32), .ref (w.2.1 + 109)]) (by rfl) ?_
  refine g_iadd (y := I_X7_init_108) dX7_init_152 ?_
  refine g_st (st' := [.int (77 : Int32), .ref (w.2.1 + 109)]) (by rfl) ?_
  refine g_iload_n (y := I_X7_init_108) 0 dX7_init_153 rfl rfl ?_
  refine g_iast (y := I_X7_init_108) (show kd 109 = _ from rfl) (by decide) (by decide) dX7_init_154 ?_
  refine g_iinc (y := I_X7_init_108) 0 (v := 2) (ls' := [(1, .int (2 : Int32)), (0, .ref (w.2.1 + 108))]) dX7_init_155 rfl (by decide) (by decide) rfl ?_
  refine g_goto (y := I_X7_init_108) 136 dX7_init_158 (by decide) ?_
  refine g_iload_n (y := I_X7_init_108) 0 dX7_init_136 rfl rfl ?_
  refine g_bipush (y := I_X7_init_108) (v := 12) dX7_init_137 (by decide) ?_
  refine g_icmp_ge (y := I_X7_init_108) 161 dX7_init_139 (by decide) (fun h => absurd h (by decide)) (fun _ => ?_)
  refine g_aload_n (y := I_X7_init_108) 1 dX7_init_142 rfl rfl ?_
  refine g_get (y := I_X7_init_108) (v := .ref (w.2.1 + 109)) fj_7_7 (show kd 108 = _ from rfl) (b := true) rfl (by decide) rfl dX7_init_143 ?_
  refine g_bipush (y := I_X7_init_108) (v := 66) dX7_init_146 (by decide) ?_
  refine g_bipush (y := I_X7_init_108) (v := 11) dX7_init_148 (by decide) ?_
  refine g_iload_n (y := I_X7_init_108) 0 dX7_init_150 rfl rfl ?_
  refine g_imul (y := I_X7_init_108) dX7_init_151 ?_
  refine g_st (st' := [.int (22 : Int32), .int (66 : Int32), .ref (w.2.1 + 109)]) (by rfl) ?_
  refine g_iadd (y := I_X7_init_108) dX7_init_152 ?_
  refine g_st (st' := [.int (88 : Int32), .ref (w.2.1 + 109)]) (by rfl) ?_
  refine g_iload_n (y := I_X7_init_108) 0 dX7_init_153 rfl rfl ?_
  refine g_iast (y := I_X7_init_108) (show kd 109 = _ from rfl) (by decide) (by decide) dX7_init_154 ?_
  refine g_iinc (y := I_X7_init_108) 0 (v := 3) (ls' := [(1, .int (3 : Int32)), (0, .ref (w.2.1 + 108))]) dX7_init_155 rfl (by decide) (by decide) rfl ?_
  refine g_goto (y := I_X7_init_108) 136 dX7_init_158 (by decide) ?_
  refine g_iload_n (y := I_X7_init_108) 0 dX7_init_136 rfl rfl ?_
  refine g_bipush (y := I_X7_init_108) (v := 12) dX7_init_137 (by decide) ?_
  refine g_icmp_ge (y := I_X7_init_108) 161 dX7_init_139 (by decide) (fun h => absurd h (by decide)) (fun _ => ?_)
  refine g_aload_n (y := I_X7_init_108) 1 dX7_init_142 rfl rfl ?_
  refine g_get (y := I_X7_init_108) (v := .ref (w.2.1 + 109)) fj_7_7 (show kd 108 = _ from rfl) (b := true) rfl (by decide) rfl dX7_init_143 ?_
  refine g_bipush (y := I_X7_init_108) (v := 66) dX7_init_146 (by decide) ?_
  refine g_bipush (y := I_X7_init_108) (v := 11) dX7_init_148 (by decide) ?_
  refine g_iload_n (y := I_X7_init_108) 0 dX7_init_150 rfl rfl ?_
  refine g_imul (y := I_X7_init_108) dX7_init_151 ?_
  refine g_st (st' := [.int (33 : Int32), .int (66 : Int32), .ref (w.2.1 + 109)]) (by rfl) ?_
  refine g_iadd (y := I_X7_init_108) dX7_init_152 ?_
  refine g_st (st' := [.int (99 : Int32), .ref (w.2.1 + 109)]) (by rfl) ?_
  refine g_iload_n (y := I_X7_init_108) 0 dX7_init_153 rfl rfl ?_
  refine g_iast (y := I_X7_init_108) (show kd 109 = _ from rfl) (by decide) (by decide) dX7_init_154 ?_
  refine g_iinc (y := I_X7_init_108) 0 (v := 4) (ls' := [(1, .int (4 : Int32)), (0, .ref (w.2.1 + 108))]) dX7_init_155 rfl (by decide) (by decide) rfl ?_
  refine g_goto (y := I_X7_init_108) 136 dX7_init_158 (by decide) ?_
  refine g_iload_n (y := I_X7_init_108) 0 dX7_init_136 rfl rfl ?_
  refine g_bipush (y := I_X7_init_108) (v := 12) dX7_init_137 (by decide) ?_
  refine g_icmp_ge (y := I_X7_init_108) 161 dX7_init_139 (by decide) (fun h => absurd h (by decide)) (fun _ => ?_)
  refine g_aload_n (y := I_X7_init_108) 1 dX7_init_142 rfl rfl ?_
  refine g_get (y := I_X7_init_108) (v := .ref (w.2.1 + 109)) fj_7_7 (show kd 108 = _ from rfl) (b := true) rfl (by decide) rfl dX7_init_143 ?_
  refine g_bipush (y := I_X7_init_108) (v := 66) dX7_init_146 (by decide) ?_
  refine g_bipush (y := I_X7_init_108) (v := 11) dX7_init_148 (by decide) ?_
  refine g_iload_n (y := I_X7_init_108) 0 dX7_init_150 rfl rfl ?_
  refine g_imul (y := I_X7_init_108) dX7_init_151 ?_
  refine g_st (st' := [.int (44 : Int32), .int (66 : Int32), .ref (w.2.1 + 109)]) (by rfl) ?_
  refine g_iadd (y := I_X7_init_108) dX7_init_152 ?_
  refine g_st (st' := [.int (110 : Int32), .ref (w.2.1 + 109)]) (by rfl) ?_
  refine g_iload_n (y := I_X7_init_108) 0 dX7_init_153 rfl rfl ?_
  refine g_iast (y := I_X7_init_108) (show kd 109 = _ from rfl) (by decide) (by decide) dX7_init_154 ?_
  refine g_iinc (y := I_X7_init_108) 0 (v := 5) (ls' := [(1, .int (5 : Int32)), (0, .ref (w.2.1 + 108))]) dX7_init_155 rfl (by decide) (by decide) rfl ?_
  refine g_goto (y := I_X7_init_108) 136 dX7_init_158 (by decide) ?_
  refine g_iload_n (y := I_X7_init_108) 0 dX7_init_136 rfl rfl ?_
  refine g_bipush (y := I_X7_init_108) (v := 12) dX7_init_137 (by decide) ?_
  refine g_icmp_ge (y := I_X7_init_108) 161 dX7_init_139 (by decide) (fun h => absurd h (by decide)) (fun _ => ?_)
  refine g_aload_n (y := I_X7_init_108) 1 dX7_init_142 rfl rfl ?_
  refine g_get (y := I_X7_init_108) (v := .ref (w.2.1 + 109)) fj_7_7 (show kd 108 = _ from rfl) (b := true) rfl (by decide) rfl dX7_init_143 ?_
  refine g_bipush (y := I_X7_init_108) (v := 66) dX7_init_146 (by decide) ?_
  refine g_bipush (y := I_X7_init_108) (v := 11) dX7_init_148 (by decide) ?_
  refine g_iload_n (y := I_X7_init_108) 0 dX7_init_150 rfl rfl ?_
  refine g_imul (y := I_X7_init_108) dX7_init_151 ?_
  refine g_st (st' := [.int (55 : Int32), .int (66 : Int32), .ref (w.2.1 + 109)]) (by rfl) ?_
  refine g_iadd (y := I_X7_init_108) dX7_init_152 ?_
  refine g_st (st' := [.int (121 : Int32), .ref (w.2.1 + 109)]) (by rfl) ?_
  refine g_iload_n (y := I_X7_init_108) 0 dX7_init_153 rfl rfl ?_
  refine g_iast (y := I_X7_init_108) (show kd 109 = _ from rfl) (by decide) (by decide) dX7_init_154 ?_
  refine g_iinc (y := I_X7_init_108) 0 (v := 6) (ls' := [(1, .int (6 : Int32)), (0, .ref (w.2.1 + 108))]) dX7_init_155 rfl (by decide) (by decide) rfl ?_
  refine g_goto (y := I_X7_init_108) 136 dX7_init_158 (by decide) ?_
  refine g_iload_n (y := I_X7_init_108) 0 dX7_init_136 rfl rfl ?_
  refine g_bipush (y := I_X7_init_108) (v := 12) dX7_init_137 (by decide) ?_
  refine g_icmp_ge (y := I_X7_init_108) 161 dX7_init_139 (by decide) (fun h => absurd h (by decide)) (fun _ => ?_)
  refine g_aload_n (y := I_X7_init_108) 1 dX7_init_142 rfl rfl ?_
  refine g_get (y := I_X7_init_108) (v := .ref (w.2.1 + 109)) fj_7_7 (show kd 108 = _ from rfl) (b := true) rfl (by decide) rfl dX7_init_143 ?_
  refine g_bipush (y := I_X7_init_108) (v := 66) dX7_init_146 (by decide) ?_
  refine g_bipush (y := I_X7_init_108) (v := 11) dX7_init_148 (by decide) ?_
  refine g_iload_n (y := I_X7_init_108) 0 dX7_init_150 rfl rfl ?_
  refine g_imul (y := I_X7_init_108) dX7_init_151 ?_
  refine g_st (st' := [.int (66 : Int32), .int (66 : Int32), .ref (w.2.1 + 109)]) (by rfl) ?_
  refine g_iadd (y := I_X7_init_108) dX7_init_152 ?_
  refine g_st (st' := [.int (132 : Int32), .ref (w.2.1 + 109)]) (by rfl) ?_
  refine g_iload_n (y := I_X7_init_108) 0 dX7_init_153 rfl rfl ?_
  refine g_iast (y := I_X7_init_108) (show kd 109 = _ from rfl) (by decide) (by decide) dX7_init_154 ?_
  refine g_iinc (y := I_X7_init_108) 0 (v := 7) (ls' := [(1, .int (7 : Int32)), (0, .ref (w.2.1 + 108))]) dX7_init_155 rfl (by decide) (by decide) rfl ?_
  refine g_goto (y := I_X7_init_108) 136 dX7_init_158 (by decide) ?_
  refine g_iload_n (y := I_X7_init_108) 0 dX7_init_136 rfl rfl ?_
  refine g_bipush (y := I_X7_init_108) (v := 12) dX7_init_137 (by decide) ?_
  refine g_icmp_ge (y := I_X7_init_108) 161 dX7_init_139 (by decide) (fun h => absurd h (by decide)) (fun _ => ?_)
  refine g_aload_n (y := I_X7_init_108) 1 dX7_init_142 rfl rfl ?_
  refine g_get (y := I_X7_init_108) (v := .ref (w.2.1 + 109)) fj_7_7 (show kd 108 = _ from rfl) (b := true) rfl (by decide) rfl dX7_init_143 ?_
  refine g_bipush (y := I_X7_init_108) (v := 66) dX7_init_146 (by decide) ?_
  refine g_bipush (y := I_X7_init_108) (v := 11) dX7_init_148 (by decide) ?_
  refine g_iload_n (y := I_X7_init_108) 0 dX7_init_150 rfl rfl ?_
  refine g_imul (y := I_X7_init_108) dX7_init_151 ?_
  refine g_st (st' := [.int (77 : Int32), .int (66 : Int32), .ref (w.2.1 + 109)]) (by rfl) ?_
  refine g_iadd (y := I_X7_init_108) dX7_init_152 ?_
  refine g_st (st' := [.int (143 : Int32), .ref (w.2.1 + 109)]) (by rfl) ?_
  refine g_iload_n (y := I_X7_init_108) 0 dX7_init_153 rfl rfl ?_
  refine g_iast (y := I_X7_init_108) (show kd 109 = _ from rfl) (by decide) (by decide) dX7_init_154 ?_
  refine g_iinc (y := I_X7_init_108) 0 (v := 8) (ls' := [(1, .int (8 : Int32)), (0, .ref (w.2.1 + 108))]) dX7_init_155 rfl (by decide) (by decide) rfl ?_
  refine g_goto (y := I_X7_init_108) 136 dX7_init_158 (by decide) ?_
  refine g_iload_n (y := I_X7_init_108) 0 dX7_init_136 rfl rfl ?_
  refine g_bipush (y := I_X7_init_108) (v := 12) dX7_init_137 (by decide) ?_
  refine g_icmp_ge (y := I_X7_init_108) 161 dX7_init_139 (by decide) (fun h => absurd h (by decide)) (fun _ => ?_)
  refine g_aload_n (y := I_X7_init_108) 1 dX7_init_142 rfl rfl ?_
  refine g_get (y := I_X7_init_108) (v := .ref (w.2.1 + 109)) fj_7_7 (show kd 108 = _ from rfl) (b := true) rfl (by decide) rfl dX7_init_143 ?_
  refine g_bipush (y := I_X7_init_108) (v := 66) dX7_init_146 (by decide) ?_
  refine g_bipush (y := I_X7_init_108) (v := 11) dX7_init_148 (by decide) ?_
  refine g_iload_n (y := I_X7_init_108) 0 dX7_init_150 rfl rfl ?_
  refine g_imul (y := I_X7_init_108) dX7_init_151 ?_
  refine g_st (st' := [.int (88 : Int32), .int (66 : Int32), .ref (w.2.1 + 109)]) (by rfl) ?_
  refine g_iadd (y := I_X7_init_108) dX7_init_152 ?_
  refine g_st (st' := [.int (154 : Int32), .ref (w.2.1 + 109)]) (by rfl) ?_
  refine g_iload_n (y := I_X7_init_108) 0 dX7_init_153 rfl rfl ?_
  refine g_iast (y := I_X7_init_108) (show kd 109 = _ from rfl) (by decide) (by decide) dX7_init_154 ?_
  refine g_iinc (y := I_X7_init_108) 0 (v := 9) (ls' := [(1, .int (9 : Int32)), (0, .ref (w.2.1 + 108))]) dX7_init_155 rfl (by decide) (by decide) rfl ?_
  refine g_goto (y := I_X7_init_108) 136 dX7_init_158 (by decide) ?_
  refine g_iload_n (y := I_X7_init_108) 0 dX7_init_136 rfl rfl ?_
  refine g_bipush (y := I_X7_init_108) (v := 12) dX7_init_137 (by decide) ?_
  refine g_icmp_ge (y := I_X7_init_108) 161 dX7_init_139 (by decide) (fun h => absurd h (by decide)) (fun _ => ?_)
  refine g_aload_n (y := I_X7_init_108) 1 dX7_init_142 rfl rfl ?_
  refine g_get (y := I_X7_init_108) (v := .ref (w.2.1 + 109)) fj_7_7 (show kd 108 = _ from rfl) (b := true) rfl (by decide) rfl dX7_init_143 ?_
  refine g_bipush (y := I_X7_init_108) (v := 66) dX7_init_146 (by decide) ?_
  refine g_bipush (y := I_X7_init_108) (v := 11) dX7_init_148 (by decide) ?_
  refine g_iload_n (y := I_X7_init_108) 0 dX7_init_150 rfl rfl ?_
  refine g_imul (y := I_X7_init_108) dX7_init_151 ?_
  refine g_st (st' := [.int (99 : Int32), .int (66 : Int32), .ref (w.2.1 + 109)]) (by rfl) ?_
  refine g_iadd (y := I_X7_init_108) dX7_init_152 ?_
  refine g_st (st' := [.int (165 : Int32), .ref (w.2.1 + 109)]) (by rfl) ?_
  refine g_iload_n (y := I_X7_init_108) 0 dX7_init_153 rfl rfl ?_
  refine g_iast (y := I_X7_init_108) (show kd 109 = _ from rfl) (by decide) (by decide) dX7_init_154 ?_
  refine g_iinc (y := I_X7_init_108) 0 (v := 10) (ls' := [(1, .int (10 : Int32)), (0, .ref (w.2.1 + 108))]) dX7_init_155 rfl (by decide) (by decide) rfl ?_
  refine g_goto (y := I_X7_init_108) 136 dX7_init_158 (by decide) ?_
  refine g_iload_n (y := I_X7_init_108) 0 dX7_init_136 rfl rfl ?_
  refine g_bipush (y := I_X7_init_108) (v := 12) dX7_init_137 (by decide) ?_
  refine g_icmp_ge (y := I_X7_init_108) 161 dX7_init_139 (by decide) (fun h => absurd h (by decide)) (fun _ => ?_)
  refine g_aload_n (y := I_X7_init_108) 1 dX7_init_142 rfl rfl ?_
  refine g_get (y := I_X7_init_108) (v := .ref (w.2.1 + 109)) fj_7_7 (show kd 108 = _ from rfl) (b := true) rfl (by decide) rfl dX7_init_143 ?_
  refine g_bipush (y := I_X7_init_108) (v := 66) dX7_init_146 (by decide) ?_
  refine g_bipush (y := I_X7_init_108) (v := 11) dX7_init_148 (by decide) ?_
  refine g_iload_n (y := I_X7_init_108) 0 dX7_init_150 rfl rfl ?_
  refine g_imul (y := I_X7_init_108) dX7_init_151 ?_
  refine g_st (st' := [.int (110 : Int32), .int (66 : Int32), .ref (w.2.1 + 109)]) (by rfl) ?_
  refine g_iadd (y := I_X7_init_108) dX7_init_152 ?_
  refine g_st (st' := [.int (176 : Int32), .ref (w.2.1 + 109)]) (by rfl) ?_
  refine g_iload_n (y := I_X7_init_108) 0 dX7_init_153 rfl rfl ?_
  refine g_iast (y := I_X7_init_108) (show kd 109 = _ from rfl) (by decide) (by decide) dX7_init_154 ?_
  refine g_iinc (y := I_X7_init_108) 0 (v := 11) (ls' := [(1, .int (11 : Int32)), (0, .ref (w.2.1 + 108))]) dX7_init_155 rfl (by decide) (by decide) rfl ?_
  refine g_goto (y := I_X7_init_108) 136 dX7_init_158 (by decide) ?_
  refine g_iload_n (y := I_X7_init_108) 0 dX7_init_136 rfl rfl ?_
  refine g_bipush (y := I_X7_init_108) (v := 12) dX7_init_137 (by decide) ?_
  refine g_icmp_ge (y := I_X7_init_108) 161 dX7_init_139 (by decide) (fun h => absurd h (by decide)) (fun _ => ?_)
  refine g_aload_n (y := I_X7_init_108) 1 dX7_init_142 rfl rfl ?_
  refine g_get (y := I_X7_init_108) (v := .ref (w.2.1 + 109)) fj_7_7 (show kd 108 = _ from rfl) (b := true) rfl (by decide) rfl dX7_init_143 ?_
  refine g_bipush (y := I_X7_init_108) (v := 66) dX7_init_146 (by decide) ?_
  refine g_bipush (y := I_X7_init_108) (v := 11) dX7_init_148 (by decide) ?_
  refine g_iload_n (y := I_X7_init_108) 0 dX7_init_150 rfl rfl ?_
  refine g_imul (y := I_X7_init_108) dX7_init_151 ?_
  refine g_st (st' := [.int (121 : Int32), .int (66 : Int32), .ref (w.2.1 + 109)]) (by rfl) ?_
  refine g_iadd (y := I_X7_init_108) dX7_init_152 ?_
  refine g_st (st' := [.int (187 : Int32), .ref (w.2.1 + 109)]) (by rfl) ?_
  refine g_iload_n (y := I_X7_init_108) 0 dX7_init_153 rfl rfl ?_
  refine g_iast (y := I_X7_init_108) (show kd 109 = _ from rfl) (by decide) (by decide) dX7_init_154 ?_
  refine g_iinc (y := I_X7_init_108) 0 (v := 12) (ls' := [(1, .int (12 : Int32)), (0, .ref (w.2.1 + 108))]) dX7_init_155 rfl (by decide) (by decide) rfl ?_
  refine g_goto (y := I_X7_init_108) 136 dX7_init_158 (by decide) ?_
  refine g_iload_n (y := I_X7_init_108) 0 dX7_init_136 rfl rfl ?_
  refine g_bipush (y := I_X7_init_108) (v := 12) dX7_init_137 (by decide) ?_
  refine g_icmp_ge (y := I_X7_init_108) 161 dX7_init_139 (by decide) (fun _ => ?_) (fun h => absurd (by decide) h)
  refine g_aload_n (y := I_X7_init_108) 1 dX7_init_161 rfl rfl ?_
  refine g_get (y := I_X7_init_108) (v := .ref (w.2.1 + 109)) fj_7_7 (show kd 108 = _ from rfl) (b := true) rfl (by decide) rfl dX7_init_162 ?_
  refine g_sipush (y := I_X7_init_108) (v := 783) dX7_init_165 (by decide) ?_
  refine g_iconst (y := I_X7_init_108) (v := 3) dX7_init_168 (by decide) ?_
  refine g_iast (y := I_X7_init_108) (show kd 109 = _ from rfl) (by decide) (by decide) dX7_init_169 ?_
  refine g_aload_n (y := I_X7_init_108) 1 dX7_init_170 rfl rfl ?_
  refine g_get (y := I_X7_init_108) (v := .ref (w.2.1 + 109)) fj_7_7 (show kd 108 = _ from rfl) (b := true) rfl (by decide) rfl dX7_init_171 ?_
  refine g_sipush (y := I_X7_init_108) (v := 786) dX7_init_174 (by decide) ?_
  refine g_iconst (y := I_X7_init_108) (v := -1) dX7_init_177 (by decide) ?_
  refine g_iast (y := I_X7_init_108) (show kd 109 = _ from rfl) (by decide) (by decide) dX7_init_178 ?_
  exact g_vret (y := I_X7_init_108) rfl dX7_init_179
end
