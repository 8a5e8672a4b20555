/-- a private method of a class that the tables say can be made, by its rows of tables_1 -/
def lw_okq (q : MethodName × Nat) : Prop := (q.1.cls ≠ "java/lang/invoke/MethodHandle" ∧ q.1.cls ≠ "java/lang/invoke/VarHandle") ∧ Cond.instantiable q.1.cls q.2 ∈ tables_1 ∧ Cond.privateMethod q.1 ∈ tables_1 ∧ Cond.instanceMethod q.1 ∈ tables_1
theorem lw_p0 : lw_okq (⟨"BootsTurnHome$Reader", "readItem", "([CII)I"⟩, 4) := ⟨⟨by decide +kernel, by decide +kernel⟩, List.mem_of_getElem? (i := 28) (by decide +kernel), List.mem_of_getElem? (i := 277) (by decide +kernel), List.mem_of_getElem? (i := 278) (by decide +kernel)⟩
theorem lw_p1 : lw_okq (⟨"BootsTurnHome$Reader", "takeItem", "(C)Z"⟩, 4) := ⟨⟨by decide +kernel, by decide +kernel⟩, List.mem_of_getElem? (i := 28) (by decide +kernel), List.mem_of_getElem? (i := 293) (by decide +kernel), List.mem_of_getElem? (i := 294) (by decide +kernel)⟩
theorem lw_p2 : lw_okq (⟨"BootsTurnHome$Reader", "takeHome", "()Z"⟩, 4) := ⟨⟨by decide +kernel, by decide +kernel⟩, List.mem_of_getElem? (i := 28) (by decide +kernel), List.mem_of_getElem? (i := 297) (by decide +kernel), List.mem_of_getElem? (i := 298) (by decide +kernel)⟩
theorem lw_p3 : lw_okq (⟨"BootsTurnHome$Reader", "takeMan", "()Z"⟩, 4) := ⟨⟨by decide +kernel, by decide +kernel⟩, List.mem_of_getElem? (i := 28) (by decide +kernel), List.mem_of_getElem? (i := 308) (by decide +kernel), List.mem_of_getElem? (i := 309) (by decide +kernel)⟩
theorem lw_p4 : lw_okq (⟨"BootsTurnHome$Reader", "takeFar", "()Z"⟩, 4) := ⟨⟨by decide +kernel, by decide +kernel⟩, List.mem_of_getElem? (i := 28) (by decide +kernel), List.mem_of_getElem? (i := 323) (by decide +kernel), List.mem_of_getElem? (i := 324) (by decide +kernel)⟩
theorem lw_p5 : lw_okq (⟨"BootsTurnHome", "takeWhatWasRead", "()V"⟩, 12) := ⟨⟨by decide +kernel, by decide +kernel⟩, List.mem_of_getElem? (i := 20) (by decide +kernel), List.mem_of_getElem? (i := 327) (by decide +kernel), List.mem_of_getElem? (i := 328) (by decide +kernel)⟩
theorem lw_p6 : lw_okq (⟨"BootsTurnHome", "isMan", "(I)Z"⟩, 12) := ⟨⟨by decide +kernel, by decide +kernel⟩, List.mem_of_getElem? (i := 20) (by decide +kernel), List.mem_of_getElem? (i := 410) (by decide +kernel), List.mem_of_getElem? (i := 411) (by decide +kernel)⟩
theorem lw_p7 : lw_okq (⟨"BootsTurnHome$Pile", "dropLowest", "()V"⟩, 2) := ⟨⟨by decide +kernel, by decide +kernel⟩, List.mem_of_getElem? (i := 169) (by decide +kernel), List.mem_of_getElem? (i := 484) (by decide +kernel), List.mem_of_getElem? (i := 485) (by decide +kernel)⟩
theorem lw_p8 : lw_okq (⟨"BootsTurnHome", "spotAfter", "(IIIII)I"⟩, 12) := ⟨⟨by decide +kernel, by decide +kernel⟩, List.mem_of_getElem? (i := 20) (by decide +kernel), List.mem_of_getElem? (i := 578) (by decide +kernel), List.mem_of_getElem? (i := 579) (by decide +kernel)⟩
theorem lw_p9 : lw_okq (⟨"BootsTurnHome$Guide", "leads", "(IIII)Z"⟩, 4) := ⟨⟨by decide +kernel, by decide +kernel⟩, List.mem_of_getElem? (i := 189) (by decide +kernel), List.mem_of_getElem? (i := 600) (by decide +kernel), List.mem_of_getElem? (i := 601) (by decide +kernel)⟩
theorem lw_p10 : lw_okq (⟨"BootsTurnHome$Dealer", "dealTo", "(IIILBootsTurnHome$Land;LBootsTurnHome$Column;)V"⟩, 3) := ⟨⟨by decide +kernel, by decide +kernel⟩, List.mem_of_getElem? (i := 209) (by decide +kernel), List.mem_of_getElem? (i := 615) (by decide +kernel), List.mem_of_getElem? (i := 616) (by decide +kernel)⟩
theorem lw_p11 : lw_okq (⟨"BootsTurnHome$Sight", "allows", "(III)Z"⟩, 4) := ⟨⟨by decide +kernel, by decide +kernel⟩, List.mem_of_getElem? (i := 149) (by decide +kernel), List.mem_of_getElem? (i := 648) (by decide +kernel), List.mem_of_getElem? (i := 649) (by decide +kernel)⟩
theorem lw_p12 : lw_okq (⟨"BootsTurnHome", "spotBehindStorm", "(II)I"⟩, 12) := ⟨⟨by decide +kernel, by decide +kernel⟩, List.mem_of_getElem? (i := 20) (by decide +kernel), List.mem_of_getElem? (i := 671) (by decide +kernel), List.mem_of_getElem? (i := 672) (by decide +kernel)⟩
theorem lw_p13 : lw_okq (⟨"BootsTurnHome", "weightOf", "(II)I"⟩, 12) := ⟨⟨by decide +kernel, by decide +kernel⟩, List.mem_of_getElem? (i := 20) (by decide +kernel), List.mem_of_getElem? (i := 676) (by decide +kernel), List.mem_of_getElem? (i := 677) (by decide +kernel)⟩
theorem lw_p14 : lw_okq (⟨"BootsTurnHomeModel", "puts", "(IIIIII)V"⟩, 19) := ⟨⟨by decide +kernel, by decide +kernel⟩, List.mem_of_getElem? (i := 711) (by decide +kernel), List.mem_of_getElem? (i := 717) (by decide +kernel), List.mem_of_getElem? (i := 718) (by decide +kernel)⟩
theorem lw_p15 : lw_okq (⟨"BootsTurnHomeModel", "tells", "(III)V"⟩, 19) := ⟨⟨by decide +kernel, by decide +kernel⟩, List.mem_of_getElem? (i := 711) (by decide +kernel), List.mem_of_getElem? (i := 721) (by decide +kernel), List.mem_of_getElem? (i := 722) (by decide +kernel)⟩
def lw_privs_1 : List (MethodName × Nat) := [(⟨"BootsTurnHome$Reader", "readItem", "([CII)I"⟩, 4), (⟨"BootsTurnHome$Reader", "takeItem", "(C)Z"⟩, 4), (⟨"BootsTurnHome$Reader", "takeHome", "()Z"⟩, 4), (⟨"BootsTurnHome$Reader", "takeMan", "()Z"⟩, 4), (⟨"BootsTurnHome$Reader", "takeFar", "()Z"⟩, 4), (⟨"BootsTurnHome", "takeWhatWasRead", "()V"⟩, 12), (⟨"BootsTurnHome", "isMan", "(I)Z"⟩, 12), (⟨"BootsTurnHome$Pile", "dropLowest", "()V"⟩, 2), (⟨"BootsTurnHome", "spotAfter", "(IIIII)I"⟩, 12), (⟨"BootsTurnHome$Guide", "leads", "(IIII)Z"⟩, 4), (⟨"BootsTurnHome$Dealer", "dealTo", "(IIILBootsTurnHome$Land;LBootsTurnHome$Column;)V"⟩, 3), (⟨"BootsTurnHome$Sight", "allows", "(III)Z"⟩, 4), (⟨"BootsTurnHome", "spotBehindStorm", "(II)I"⟩, 12), (⟨"BootsTurnHome", "weightOf", "(II)I"⟩, 12), (⟨"BootsTurnHomeModel", "puts", "(IIIIII)V"⟩, 19), (⟨"BootsTurnHomeModel", "tells", "(III)V"⟩, 19)]
theorem lw_r1 : ∀ q ∈ lw_privs_1, lw_okq q := List.forall_mem_cons.mpr ⟨lw_p0, List.forall_mem_cons.mpr ⟨lw_p1, List.forall_mem_cons.mpr ⟨lw_p2, List.forall_mem_cons.mpr ⟨lw_p3, List.forall_mem_cons.mpr ⟨lw_p4, List.forall_mem_cons.mpr ⟨lw_p5, List.forall_mem_cons.mpr ⟨lw_p6, List.forall_mem_cons.mpr ⟨lw_p7, List.forall_mem_cons.mpr ⟨lw_p8, List.forall_mem_cons.mpr ⟨lw_p9, List.forall_mem_cons.mpr ⟨lw_p10, List.forall_mem_cons.mpr ⟨lw_p11, List.forall_mem_cons.mpr ⟨lw_p12, List.forall_mem_cons.mpr ⟨lw_p13, List.forall_mem_cons.mpr ⟨lw_p14, List.forall_mem_cons.mpr ⟨lw_p15, fun _ h => absurd h List.not_mem_nil⟩⟩⟩⟩⟩⟩⟩⟩⟩⟩⟩⟩⟩⟩⟩⟩
theorem lw_p16 : lw_okq (⟨"BootsTurnHomeModel", "stands", "()V"⟩, 19) := ⟨⟨by decide +kernel, by decide +kernel⟩, List.mem_of_getElem? (i := 711) (by decide +kernel), List.mem_of_getElem? (i := 725) (by decide +kernel), List.mem_of_getElem? (i := 726) (by decide +kernel)⟩
theorem lw_p17 : lw_okq (⟨"BootsTurnHomeModel", "reads", "()Z"⟩, 19) := ⟨⟨by decide +kernel, by decide +kernel⟩, List.mem_of_getElem? (i := 711) (by decide +kernel), List.mem_of_getElem? (i := 804) (by decide +kernel), List.mem_of_getElem? (i := 805) (by decide +kernel)⟩
theorem lw_p18 : lw_okq (⟨"BootsTurnHomeModel", "next", "()I"⟩, 19) := ⟨⟨by decide +kernel, by decide +kernel⟩, List.mem_of_getElem? (i := 711) (by decide +kernel), List.mem_of_getElem? (i := 808) (by decide +kernel), List.mem_of_getElem? (i := 809) (by decide +kernel)⟩
theorem lw_p19 : lw_okq (⟨"BootsTurnHomeModel", "item", "(I)V"⟩, 19) := ⟨⟨by decide +kernel, by decide +kernel⟩, List.mem_of_getElem? (i := 711) (by decide +kernel), List.mem_of_getElem? (i := 812) (by decide +kernel), List.mem_of_getElem? (i := 813) (by decide +kernel)⟩
theorem lw_p20 : lw_okq (⟨"BootsTurnHomeModel", "number", "(II)I"⟩, 19) := ⟨⟨by decide +kernel, by decide +kernel⟩, List.mem_of_getElem? (i := 711) (by decide +kernel), List.mem_of_getElem? (i := 816) (by decide +kernel), List.mem_of_getElem? (i := 817) (by decide +kernel)⟩
theorem lw_p21 : lw_okq (⟨"BootsTurnHomeModel", "more", "(II)I"⟩, 19) := ⟨⟨by decide +kernel, by decide +kernel⟩, List.mem_of_getElem? (i := 711) (by decide +kernel), List.mem_of_getElem? (i := 822) (by decide +kernel), List.mem_of_getElem? (i := 823) (by decide +kernel)⟩
theorem lw_p22 : lw_okq (⟨"BootsTurnHomeModel", "men", "()I"⟩, 19) := ⟨⟨by decide +kernel, by decide +kernel⟩, List.mem_of_getElem? (i := 711) (by decide +kernel), List.mem_of_getElem? (i := 830) (by decide +kernel), List.mem_of_getElem? (i := 831) (by decide +kernel)⟩
theorem lw_p23 : lw_okq (⟨"BootsTurnHomeModel", "isMan", "(I)Z"⟩, 19) := ⟨⟨by decide +kernel, by decide +kernel⟩, List.mem_of_getElem? (i := 711) (by decide +kernel), List.mem_of_getElem? (i := 838) (by decide +kernel), List.mem_of_getElem? (i := 839) (by decide +kernel)⟩
theorem lw_p24 : lw_okq (⟨"BootsTurnHomeModel", "isLost", "(II)Z"⟩, 19) := ⟨⟨by decide +kernel, by decide +kernel⟩, List.mem_of_getElem? (i := 711) (by decide +kernel), List.mem_of_getElem? (i := 843) (by decide +kernel), List.mem_of_getElem? (i := 844) (by decide +kernel)⟩
theorem lw_p25 : lw_okq (⟨"BootsTurnHomeModel", "isHome", "(II)Z"⟩, 19) := ⟨⟨by decide +kernel, by decide +kernel⟩, List.mem_of_getElem? (i := 711) (by decide +kernel), List.mem_of_getElem? (i := 853) (by decide +kernel), List.mem_of_getElem? (i := 854) (by decide +kernel)⟩
theorem lw_p26 : lw_okq (⟨"BootsTurnHomeModel", "known", "()V"⟩, 19) := ⟨⟨by decide +kernel, by decide +kernel⟩, List.mem_of_getElem? (i := 711) (by decide +kernel), List.mem_of_getElem? (i := 882) (by decide +kernel), List.mem_of_getElem? (i := 883) (by decide +kernel)⟩
theorem lw_p27 : lw_okq (⟨"BootsTurnHomeModel", "copies", "(II)V"⟩, 19) := ⟨⟨by decide +kernel, by decide +kernel⟩, List.mem_of_getElem? (i := 711) (by decide +kernel), List.mem_of_getElem? (i := 886) (by decide +kernel), List.mem_of_getElem? (i := 887) (by decide +kernel)⟩
theorem lw_p28 : lw_okq (⟨"BootsTurnHomeModel", "orders", "(III)V"⟩, 19) := ⟨⟨by decide +kernel, by decide +kernel⟩, List.mem_of_getElem? (i := 711) (by decide +kernel), List.mem_of_getElem? (i := 890) (by decide +kernel), List.mem_of_getElem? (i := 891) (by decide +kernel)⟩
theorem lw_p29 : lw_okq (⟨"BootsTurnHomeModel", "picks", "(II)V"⟩, 19) := ⟨⟨by decide +kernel, by decide +kernel⟩, List.mem_of_getElem? (i := 711) (by decide +kernel), List.mem_of_getElem? (i := 894) (by decide +kernel), List.mem_of_getElem? (i := 895) (by decide +kernel)⟩
theorem lw_p30 : lw_okq (⟨"BootsTurnHomeModel", "goes", "(IIII)V"⟩, 19) := ⟨⟨by decide +kernel, by decide +kernel⟩, List.mem_of_getElem? (i := 711) (by decide +kernel), List.mem_of_getElem? (i := 898) (by decide +kernel), List.mem_of_getElem? (i := 899) (by decide +kernel)⟩
theorem lw_p31 : lw_okq (⟨"BootsTurnHomeModel", "marches", "(II)V"⟩, 19) := ⟨⟨by decide +kernel, by decide +kernel⟩, List.mem_of_getElem? (i := 711) (by decide +kernel), List.mem_of_getElem? (i := 902) (by decide +kernel), List.mem_of_getElem? (i := 903) (by decide +kernel)⟩
def lw_privs_2 : List (MethodName × Nat) := [(⟨"BootsTurnHomeModel", "stands", "()V"⟩, 19), (⟨"BootsTurnHomeModel", "reads", "()Z"⟩, 19), (⟨"BootsTurnHomeModel", "next", "()I"⟩, 19), (⟨"BootsTurnHomeModel", "item", "(I)V"⟩, 19), (⟨"BootsTurnHomeModel", "number", "(II)I"⟩, 19), (⟨"BootsTurnHomeModel", "more", "(II)I"⟩, 19), (⟨"BootsTurnHomeModel", "men", "()I"⟩, 19), (⟨"BootsTurnHomeModel", "isMan", "(I)Z"⟩, 19), (⟨"BootsTurnHomeModel", "isLost", "(II)Z"⟩, 19), (⟨"BootsTurnHomeModel", "isHome", "(II)Z"⟩, 19), (⟨"BootsTurnHomeModel", "known", "()V"⟩, 19), (⟨"BootsTurnHomeModel", "copies", "(II)V"⟩, 19), (⟨"BootsTurnHomeModel", "orders", "(III)V"⟩, 19), (⟨"BootsTurnHomeModel", "picks", "(II)V"⟩, 19), (⟨"BootsTurnHomeModel", "goes", "(IIII)V"⟩, 19), (⟨"BootsTurnHomeModel", "marches", "(II)V"⟩, 19)]
theorem lw_r2 : ∀ q ∈ lw_privs_2, lw_okq q := List.forall_mem_cons.mpr ⟨lw_p16, List.forall_mem_cons.mpr ⟨lw_p17, List.forall_mem_cons.mpr ⟨lw_p18, List.forall_mem_cons.mpr ⟨lw_p19, List.forall_mem_cons.mpr ⟨lw_p20, List.forall_mem_cons.mpr ⟨lw_p21, List.forall_mem_cons.mpr ⟨lw_p22, List.forall_mem_cons.mpr ⟨lw_p23, List.forall_mem_cons.mpr ⟨lw_p24, List.forall_mem_cons.mpr ⟨lw_p25, List.forall_mem_cons.mpr ⟨lw_p26, List.forall_mem_cons.mpr ⟨lw_p27, List.forall_mem_cons.mpr ⟨lw_p28, List.forall_mem_cons.mpr ⟨lw_p29, List.forall_mem_cons.mpr ⟨lw_p30, List.forall_mem_cons.mpr ⟨lw_p31, fun _ h => absurd h List.not_mem_nil⟩⟩⟩⟩⟩⟩⟩⟩⟩⟩⟩⟩⟩⟩⟩⟩
theorem lw_p32 : lw_okq (⟨"BootsTurnHomeModel", "halts", "(IIII)V"⟩, 19) := ⟨⟨by decide +kernel, by decide +kernel⟩, List.mem_of_getElem? (i := 711) (by decide +kernel), List.mem_of_getElem? (i := 911) (by decide +kernel), List.mem_of_getElem? (i := 912) (by decide +kernel)⟩
theorem lw_p33 : lw_okq (⟨"BootsTurnHomeModel", "lost", "(I)I"⟩, 19) := ⟨⟨by decide +kernel, by decide +kernel⟩, List.mem_of_getElem? (i := 711) (by decide +kernel), List.mem_of_getElem? (i := 915) (by decide +kernel), List.mem_of_getElem? (i := 916) (by decide +kernel)⟩
theorem lw_p34 : lw_okq (⟨"BootsTurnHomeModel", "brings", "(IIIII)Z"⟩, 19) := ⟨⟨by decide +kernel, by decide +kernel⟩, List.mem_of_getElem? (i := 711) (by decide +kernel), List.mem_of_getElem? (i := 955) (by decide +kernel), List.mem_of_getElem? (i := 956) (by decide +kernel)⟩
theorem lw_p35 : lw_okq (⟨"BootsTurnHomeModel", "gives", "()Z"⟩, 19) := ⟨⟨by decide +kernel, by decide +kernel⟩, List.mem_of_getElem? (i := 711) (by decide +kernel), List.mem_of_getElem? (i := 964) (by decide +kernel), List.mem_of_getElem? (i := 965) (by decide +kernel)⟩
theorem lw_p36 : lw_okq (⟨"BootsTurnHomeModel", "isSo", "(III)Z"⟩, 19) := ⟨⟨by decide +kernel, by decide +kernel⟩, List.mem_of_getElem? (i := 711) (by decide +kernel), List.mem_of_getElem? (i := 984) (by decide +kernel), List.mem_of_getElem? (i := 985) (by decide +kernel)⟩
def lw_privs_3 : List (MethodName × Nat) := [(⟨"BootsTurnHomeModel", "halts", "(IIII)V"⟩, 19), (⟨"BootsTurnHomeModel", "lost", "(I)I"⟩, 19), (⟨"BootsTurnHomeModel", "brings", "(IIIII)Z"⟩, 19), (⟨"BootsTurnHomeModel", "gives", "()Z"⟩, 19), (⟨"BootsTurnHomeModel", "isSo", "(III)Z"⟩, 19)]
theorem lw_r3 : ∀ q ∈ lw_privs_3, lw_okq q := List.forall_mem_cons.mpr ⟨lw_p32, List.forall_mem_cons.mpr ⟨lw_p33, List.forall_mem_cons.mpr ⟨lw_p34, List.forall_mem_cons.mpr ⟨lw_p35, List.forall_mem_cons.mpr ⟨lw_p36, fun _ h => absurd h List.not_mem_nil⟩⟩⟩⟩⟩
def lw_privs : List (MethodName × Nat) := lw_privs_1 ++ (lw_privs_2 ++ (lw_privs_3))
def lw_tbl : List Cond := k2_sels lw_privs ++ tables_1
theorem lw_privs_ok : ∀ q ∈ lw_privs, lw_okq q := by
  show ∀ q ∈ lw_privs_1 ++ (lw_privs_2 ++ (lw_privs_3)), lw_okq q
  exact List.forall_mem_append.mpr ⟨lw_r1, List.forall_mem_append.mpr ⟨lw_r2, lw_r3⟩⟩
def RX0 : String := "BootsTurnHome$Column"
def TX0 : u_T := fun k => match k with
  | 0 => ("BootsTurnHome$Column", "spot", "[I", true)
  | 1 => ("BootsTurnHome$Column", "right", "[I", true)
  | 2 => ("BootsTurnHome$Column", "tiedBits", "I", false)
  | _ => ("BootsTurnHome$Column", "given", "I", false)
def tyX0 : Nat → FieldType := fun k => match k with
  | 0 => .array .int
  | 1 => .array .int
  | 2 => .int
  | _ => .int
abbrev wsX00 : List Cond := u_ws RX0 TX0 4
theorem nmX0 : ∀ a, a < 4 → ∀ b, b < 4 → a ≠ b → (TX0 a).2.1 ≠ (TX0 b).2.1 := by decide +kernel
theorem tyX0_ok : ∀ k, k < 4 → parseFieldDescriptor (TX0 k).2.2.1 = some (tyX0 k) := by decide +kernel
abbrev cX0_init : ByteArray := prog_2_method_1_code
def yX0_init : MethodName := ⟨RX0, "<init>", "()V"⟩
abbrev cX0_copyFrom : ByteArray := prog_2_method_2_code
def yX0_copyFrom : MethodName := ⟨RX0, "copyFrom", "(LBootsTurnHome$Column;)V"⟩
abbrev cX0_obey : ByteArray := prog_2_method_3_code
def yX0_obey : MethodName := ⟨RX0, "obey", "(IILBootsTurnHome$Land;)V"⟩
abbrev cX0_pullOn : ByteArray := prog_2_method_4_code
def yX0_pullOn : MethodName := ⟨RX0, "pullOn", "(ILBootsTurnHome$Land;)I"⟩
abbrev cX0_isTied : ByteArray := prog_2_method_5_code
def yX0_isTied : MethodName := ⟨RX0, "isTied", "(I)Z"⟩
abbrev cX0_changeTie : ByteArray := prog_2_method_6_code
def yX0_changeTie : MethodName := ⟨RX0, "changeTie", "(I)V"⟩
abbrev cX0_tiedMen : ByteArray := prog_2_method_7_code
def yX0_tiedMen : MethodName := ⟨RX0, "tiedMen", "()I"⟩
abbrev cX0_isLost : ByteArray := prog_2_method_8_code
def yX0_isLost : MethodName := ⟨RX0, "isLost", "(ILBootsTurnHome$Land;)Z"⟩
abbrev cX0_lostMen : ByteArray := prog_2_method_9_code
def yX0_lostMen : MethodName := ⟨RX0, "lostMen", "(LBootsTurnHome$Land;)I"⟩
abbrev cX0_isAtHome : ByteArray := prog_2_method_10_code
def yX0_isAtHome : MethodName := ⟨RX0, "isAtHome", "(ILBootsTurnHome$Land;)Z"⟩
abbrev cX0_isAnybodyAtHome : ByteArray := prog_2_method_11_code
def yX0_isAnybodyAtHome : MethodName := ⟨RX0, "isAnybodyAtHome", "(LBootsTurnHome$Land;)Z"⟩
abbrev cX0_menLooking : ByteArray := prog_2_method_12_code
def yX0_menLooking : MethodName := ⟨RX0, "menLooking", "(ILBootsTurnHome$Land;)I"⟩
def RX1 : String := "BootsTurnHome$Dealer"
def TX1 : u_T := fun k => match k with
  | 0 => ("BootsTurnHome$Dealer", "best", "[I", true)
  | 1 => ("BootsTurnHome$Dealer", "most", "I", false)
  | _ => ("BootsTurnHome$Dealer", "gets", "[I", true)
def tyX1 : Nat → FieldType := fun k => match k with
  | 0 => .array .int
  | 1 => .int
  | _ => .array .int
abbrev wsX10 : List Cond := u_ws RX1 TX1 3
theorem nmX1 : ∀ a, a < 3 → ∀ b, b < 3 → a ≠ b → (TX1 a).2.1 ≠ (TX1 b).2.1 := by decide +kernel
theorem tyX1_ok : ∀ k, k < 3 → parseFieldDescriptor (TX1 k).2.2.1 = some (tyX1 k) := by decide +kernel
abbrev cX1_init : ByteArray := prog_3_method_1_code
def yX1_init : MethodName := ⟨RX1, "<init>", "()V"⟩
abbrev cX1_deal : ByteArray := prog_3_method_2_code
def yX1_deal : MethodName := ⟨RX1, "deal", "(LBootsTurnHome$Land;LBootsTurnHome$Column;)V"⟩
abbrev cX1_dealTo : ByteArray := prog_3_method_3_code
def yX1_dealTo : MethodName := ⟨RX1, "dealTo", "(IIILBootsTurnHome$Land;LBootsTurnHome$Column;)V"⟩
def RX2 : String := "BootsTurnHome$Guide"
def TX2 : u_T := fun k => match k with
  | 0 => ("BootsTurnHome$Guide", "found", "[I", true)
  | 1 => ("BootsTurnHome$Guide", "goal", "I", false)
  | 2 => ("BootsTurnHome$Guide", "pull", "I", false)
  | _ => ("BootsTurnHome$Guide", "kind", "I", false)
def tyX2 : Nat → FieldType := fun k => match k with
  | 0 => .array .int
  | 1 => .int
  | 2 => .int
  | _ => .int
abbrev wsX20 : List Cond := u_ws RX2 TX2 4
theorem nmX2 : ∀ a, a < 4 → ∀ b, b < 4 → a ≠ b → (TX2 a).2.1 ≠ (TX2 b).2.1 := by decide +kernel
theorem tyX2_ok : ∀ k, k < 4 → parseFieldDescriptor (TX2 k).2.2.1 = some (tyX2 k) := by decide +kernel
abbrev cX2_init : ByteArray := prog_4_method_1_code
def yX2_init : MethodName := ⟨RX2, "<init>", "()V"⟩
abbrev cX2_setOut : ByteArray := prog_4_method_2_code
def yX2_setOut : MethodName := ⟨RX2, "setOut", "(III)V"⟩
abbrev cX2_fewestOrders : ByteArray := prog_4_method_3_code
def yX2_fewestOrders : MethodName := ⟨RX2, "fewestOrders", "(II)I"⟩
abbrev cX2_leads : ByteArray := prog_4_method_4_code
def yX2_leads : MethodName := ⟨RX2, "leads", "(IIII)Z"⟩
def RX3 : String := "BootsTurnHome$Land"
def TX3 : u_T := fun k => match k with
  | 0 => ("BootsTurnHome$Land", "homes", "I", false)
  | 1 => ("BootsTurnHome$Land", "men", "I", false)
  | 2 => ("BootsTurnHome$Land", "far", "I", false)
  | 3 => ("BootsTurnHome$Land", "homeCell", "[I", true)
  | 4 => ("BootsTurnHome$Land", "left", "[I", true)
  | _ => ("BootsTurnHome$Land", "kind", "[I", true)
def tyX3 : Nat → FieldType := fun k => match k with
  | 0 => .int
  | 1 => .int
  | 2 => .int
  | 3 => .array .int
  | 4 => .array .int
  | _ => .array .int
abbrev wsX30 : List Cond := u_ws RX3 TX3 6
theorem nmX3 : ∀ a, a < 6 → ∀ b, b < 6 → a ≠ b → (TX3 a).2.1 ≠ (TX3 b).2.1 := by decide +kernel
theorem tyX3_ok : ∀ k, k < 6 → parseFieldDescriptor (TX3 k).2.2.1 = some (tyX3 k) := by decide +kernel
abbrev cX3_init : ByteArray := prog_5_method_1_code
def yX3_init : MethodName := ⟨RX3, "<init>", "()V"⟩
abbrev cX3_copyFrom : ByteArray := prog_5_method_2_code
def yX3_copyFrom : MethodName := ⟨RX3, "copyFrom", "(LBootsTurnHome$Land;)V"⟩
def RX4 : String := "BootsTurnHome$Pile"
def TX4 : u_T := fun k => match k with
  | 0 => ("BootsTurnHome$Pile", "columns", "[LBootsTurnHome$Column;", true)
  | _ => ("BootsTurnHome$Pile", "held", "I", false)
def tyX4 : Nat → FieldType := fun k => match k with
  | 0 => .array (.object "BootsTurnHome$Column")
  | _ => .int
abbrev wsX40 : List Cond := u_ws RX4 TX4 2
theorem nmX4 : ∀ a, a < 2 → ∀ b, b < 2 → a ≠ b → (TX4 a).2.1 ≠ (TX4 b).2.1 := by decide +kernel
theorem tyX4_ok : ∀ k, k < 2 → parseFieldDescriptor (TX4 k).2.2.1 = some (tyX4 k) := by decide +kernel
abbrev cX4_init : ByteArray := prog_6_method_1_code
def yX4_init : MethodName := ⟨RX4, "<init>", "(I)V"⟩
abbrev cX4_put : ByteArray := prog_6_method_2_code
def yX4_put : MethodName := ⟨RX4, "put", "(LBootsTurnHome$Column;)V"⟩
abbrev cX4_takeInto : ByteArray := prog_6_method_3_code
def yX4_takeInto : MethodName := ⟨RX4, "takeInto", "(LBootsTurnHome$Column;)V"⟩
abbrev cX4_dropLowest : ByteArray := prog_6_method_4_code
def yX4_dropLowest : MethodName := ⟨RX4, "dropLowest", "()V"⟩
def RX5 : String := "BootsTurnHome$Reader"
def TX5 : u_T := fun k => match k with
  | 0 => ("BootsTurnHome$Reader", "land", "LBootsTurnHome$Land;", true)
  | 1 => ("BootsTurnHome$Reader", "column", "LBootsTurnHome$Column;", true)
  | 2 => ("BootsTurnHome$Reader", "row", "LBootsTurnHome$Row;", true)
  | _ => ("BootsTurnHome$Reader", "numbers", "[I", true)
def tyX5 : Nat → FieldType := fun k => match k with
  | 0 => .object "BootsTurnHome$Land"
  | 1 => .object "BootsTurnHome$Column"
  | 2 => .object "BootsTurnHome$Row"
  | _ => .array .int
abbrev wsX50 : List Cond := u_ws RX5 TX5 4
theorem nmX5 : ∀ a, a < 4 → ∀ b, b < 4 → a ≠ b → (TX5 a).2.1 ≠ (TX5 b).2.1 := by decide +kernel
theorem tyX5_ok : ∀ k, k < 4 → parseFieldDescriptor (TX5 k).2.2.1 = some (tyX5 k) := by decide +kernel
abbrev cX5_init : ByteArray := prog_7_method_1_code
def yX5_init : MethodName := ⟨RX5, "<init>", "()V"⟩
abbrev cX5_hasHomeAndMan : ByteArray := prog_7_method_2_code
def yX5_hasHomeAndMan : MethodName := ⟨RX5, "hasHomeAndMan", "()Z"⟩
abbrev cX5_readAll : ByteArray := prog_7_method_3_code
def yX5_readAll : MethodName := ⟨RX5, "readAll", "([CI)I"⟩
abbrev cX5_readItem : ByteArray := prog_7_method_4_code
def yX5_readItem : MethodName := ⟨RX5, "readItem", "([CII)I"⟩
abbrev cX5_numbersBehind : ByteArray := prog_7_method_5_code
def yX5_numbersBehind : MethodName := ⟨RX5, "numbersBehind", "(C)I"⟩
abbrev cX5_figuresAt : ByteArray := prog_7_method_6_code
def yX5_figuresAt : MethodName := ⟨RX5, "figuresAt", "([CII)I"⟩
abbrev cX5_numberAt : ByteArray := prog_7_method_7_code
def yX5_numberAt : MethodName := ⟨RX5, "numberAt", "([CII)I"⟩
abbrev cX5_takeItem : ByteArray := prog_7_method_8_code
def yX5_takeItem : MethodName := ⟨RX5, "takeItem", "(C)Z"⟩
abbrev cX5_takeHome : ByteArray := prog_7_method_9_code
def yX5_takeHome : MethodName := ⟨RX5, "takeHome", "()Z"⟩
abbrev cX5_takeMan : ByteArray := prog_7_method_10_code
def yX5_takeMan : MethodName := ⟨RX5, "takeMan", "()Z"⟩
abbrev cX5_takeFar : ByteArray := prog_7_method_11_code
def yX5_takeFar : MethodName := ⟨RX5, "takeFar", "()Z"⟩
def RX6 : String := "BootsTurnHome$Row"
def TX6 : u_T := fun k => match k with
  | 0 => ("BootsTurnHome$Row", "turn", "[I", true)
  | 1 => ("BootsTurnHome$Row", "steps", "[I", true)
  | _ => ("BootsTurnHome$Row", "length", "I", false)
def tyX6 : Nat → FieldType := fun k => match k with
  | 0 => .array .int
  | 1 => .array .int
  | _ => .int
abbrev wsX60 : List Cond := u_ws RX6 TX6 3
theorem nmX6 : ∀ a, a < 3 → ∀ b, b < 3 → a ≠ b → (TX6 a).2.1 ≠ (TX6 b).2.1 := by decide +kernel
theorem tyX6_ok : ∀ k, k < 3 → parseFieldDescriptor (TX6 k).2.2.1 = some (tyX6 k) := by decide +kernel
abbrev cX6_init : ByteArray := prog_8_method_1_code
def yX6_init : MethodName := ⟨RX6, "<init>", "()V"⟩
abbrev cX6_add : ByteArray := prog_8_method_2_code
def yX6_add : MethodName := ⟨RX6, "add", "(II)Z"⟩
abbrev cX6_asTold : ByteArray := prog_8_method_3_code
def yX6_asTold : MethodName := ⟨RX6, "asTold", "(I)I"⟩
abbrev cX6_copyFrom : ByteArray := prog_8_method_4_code
def yX6_copyFrom : MethodName := ⟨RX6, "copyFrom", "(LBootsTurnHome$Row;)V"⟩
def RX7 : String := "BootsTurnHome$Sight"
def TX7 : u_T := fun k => match k with
  | 0 => ("BootsTurnHome$Sight", "whose", "[I", true)
  | 1 => ("BootsTurnHome$Sight", "when", "[I", true)
  | 2 => ("BootsTurnHome$Sight", "way", "[I", true)
  | _ => ("BootsTurnHome$Sight", "held", "I", false)
def tyX7 : Nat → FieldType := fun k => match k with
  | 0 => .array .int
  | 1 => .array .int
  | 2 => .array .int
  | _ => .int
abbrev wsX70 : List Cond := u_ws RX7 TX7 4
theorem nmX7 : ∀ a, a < 4 → ∀ b, b < 4 → a ≠ b → (TX7 a).2.1 ≠ (TX7 b).2.1 := by decide +kernel
theorem tyX7_ok : ∀ k, k < 4 → parseFieldDescriptor (TX7 k).2.2.1 = some (tyX7 k) := by decide +kernel
abbrev cX7_init : ByteArray := prog_9_method_1_code
def yX7_init : MethodName := ⟨RX7, "<init>", "()V"⟩
abbrev cX7_add : ByteArray := prog_9_method_2_code
def yX7_add : MethodName := ⟨RX7, "add", "(III)Z"⟩
abbrev cX7_fits : ByteArray := prog_9_method_3_code
def yX7_fits : MethodName := ⟨RX7, "fits", "(IIILBootsTurnHome$Row;)Z"⟩
abbrev cX7_allows : ByteArray := prog_9_method_4_code
def yX7_allows : MethodName := ⟨RX7, "allows", "(III)Z"⟩
def RX8 : String := "BootsTurnHome$Ways"
def TX8 : u_T := fun k => match k with
  | _ => ("", "", "", false)
def tyX8 : Nat → FieldType := fun k => match k with
  | _ => .int
abbrev wsX80 : List Cond := u_ws RX8 TX8 0
theorem nmX8 : ∀ a, a < 0 → ∀ b, b < 0 → a ≠ b → (TX8 a).2.1 ≠ (TX8 b).2.1 := by decide +kernel
theorem tyX8_ok : ∀ k, k < 0 → parseFieldDescriptor (TX8 k).2.2.1 = some (tyX8 k) := by decide +kernel
abbrev cX8_cellAt : ByteArray := prog_10_method_2_code
def yX8_cellAt : MethodName := ⟨RX8, "cellAt", "(II)I"⟩
abbrev cX8_columnOf : ByteArray := prog_10_method_3_code
def yX8_columnOf : MethodName := ⟨RX8, "columnOf", "(I)I"⟩
abbrev cX8_rowOf : ByteArray := prog_10_method_4_code
def yX8_rowOf : MethodName := ⟨RX8, "rowOf", "(I)I"⟩
abbrev cX8_spotAt : ByteArray := prog_10_method_5_code
def yX8_spotAt : MethodName := ⟨RX8, "spotAt", "(III)I"⟩
abbrev cX8_cellOf : ByteArray := prog_10_method_6_code
def yX8_cellOf : MethodName := ⟨RX8, "cellOf", "(I)I"⟩
abbrev cX8_lookOf : ByteArray := prog_10_method_7_code
def yX8_lookOf : MethodName := ⟨RX8, "lookOf", "(I)I"⟩
abbrev cX8_partOf : ByteArray := prog_10_method_8_code
def yX8_partOf : MethodName := ⟨RX8, "partOf", "(II)I"⟩
abbrev cX8_apart : ByteArray := prog_10_method_9_code
def yX8_apart : MethodName := ⟨RX8, "apart", "(II)I"⟩
abbrev cX8_wayTo : ByteArray := prog_10_method_10_code
def yX8_wayTo : MethodName := ⟨RX8, "wayTo", "(II)I"⟩
abbrev cX8_ordered : ByteArray := prog_10_method_11_code
def yX8_ordered : MethodName := ⟨RX8, "ordered", "(IIIIII)I"⟩
abbrev cX8_marched : ByteArray := prog_10_method_12_code
def yX8_marched : MethodName := ⟨RX8, "marched", "(III)I"⟩
abbrev cX8_halted : ByteArray := prog_10_method_13_code
def yX8_halted : MethodName := ⟨RX8, "halted", "(IIII)I"⟩
abbrev cX8_shorterTurn : ByteArray := prog_10_method_14_code
def yX8_shorterTurn : MethodName := ⟨RX8, "shorterTurn", "(II)I"⟩
abbrev cX8_eighthsToRight : ByteArray := prog_10_method_15_code
def yX8_eighthsToRight : MethodName := ⟨RX8, "eighthsToRight", "(III)I"⟩
abbrev cX8_atMost : ByteArray := prog_10_method_16_code
def yX8_atMost : MethodName := ⟨RX8, "atMost", "(II)I"⟩
abbrev cX8_contrary : ByteArray := prog_10_method_17_code
def yX8_contrary : MethodName := ⟨RX8, "contrary", "(I)I"⟩
def RX9 : String := "BootsTurnHome"
def TX9 : u_T := fun k => match k with
  | 0 => ("BootsTurnHome", "letters", "[C", true)
  | 1 => ("BootsTurnHome", "length", "I", false)
  | 2 => ("BootsTurnHome", "reader", "LBootsTurnHome$Reader;", true)
  | 3 => ("BootsTurnHome", "land", "LBootsTurnHome$Land;", true)
  | 4 => ("BootsTurnHome", "column", "LBootsTurnHome$Column;", true)
  | 5 => ("BootsTurnHome", "trial", "LBootsTurnHome$Column;", true)
  | 6 => ("BootsTurnHome", "row", "LBootsTurnHome$Row;", true)
  | 7 => ("BootsTurnHome", "sight", "LBootsTurnHome$Sight;", true)
  | 8 => ("BootsTurnHome", "undoable", "LBootsTurnHome$Pile;", true)
  | 9 => ("BootsTurnHome", "kept", "LBootsTurnHome$Pile;", true)
  | 10 => ("BootsTurnHome", "guide", "LBootsTurnHome$Guide;", true)
  | _ => ("BootsTurnHome", "dealer", "LBootsTurnHome$Dealer;", true)
def tyX9 : Nat → FieldType := fun k => match k with
  | 0 => .array .char
  | 1 => .int
  | 2 => .object "BootsTurnHome$Reader"
  | 3 => .object "BootsTurnHome$Land"
  | 4 => .object "BootsTurnHome$Column"
  | 5 => .object "BootsTurnHome$Column"
  | 6 => .object "BootsTurnHome$Row"
  | 7 => .object "BootsTurnHome$Sight"
  | 8 => .object "BootsTurnHome$Pile"
  | 9 => .object "BootsTurnHome$Pile"
  | 10 => .object "BootsTurnHome$Guide"
  | _ => .object "BootsTurnHome$Dealer"
abbrev wsX90 : List Cond := u_ws RX9 TX9 12
theorem nmX9 : ∀ a, a < 12 → ∀ b, b < 12 → a ≠ b → (TX9 a).2.1 ≠ (TX9 b).2.1 := by decide +kernel
theorem tyX9_ok : ∀ k, k < 12 → parseFieldDescriptor (TX9 k).2.2.1 = some (tyX9 k) := by decide +kernel
abbrev cX9_init : ByteArray := prog_1_method_1_code
def yX9_init : MethodName := ⟨RX9, "<init>", "()V"⟩
abbrev cX9_write : ByteArray := prog_1_method_2_code
def yX9_write : MethodName := ⟨RX9, "write", "(I)I"⟩
abbrev cX9_wipe : ByteArray := prog_1_method_3_code
def yX9_wipe : MethodName := ⟨RX9, "wipe", "()I"⟩
abbrev cX9_fault : ByteArray := prog_1_method_4_code
def yX9_fault : MethodName := ⟨RX9, "fault", "()I"⟩
abbrev cX9_lay : ByteArray := prog_1_method_5_code
def yX9_lay : MethodName := ⟨RX9, "lay", "()I"⟩
abbrev cX9_man : ByteArray := prog_1_method_6_code
def yX9_man : MethodName := ⟨RX9, "man", "(II)I"⟩
abbrev cX9_home : ByteArray := prog_1_method_7_code
def yX9_home : MethodName := ⟨RX9, "home", "(II)I"⟩
abbrev cX9_told : ByteArray := prog_1_method_8_code
def yX9_told : MethodName := ⟨RX9, "told", "(I)I"⟩
abbrev cX9_toward : ByteArray := prog_1_method_9_code
def yX9_toward : MethodName := ⟨RX9, "toward", "(IIII)I"⟩
abbrev cX9_order : ByteArray := prog_1_method_10_code
def yX9_order : MethodName := ⟨RX9, "order", "(II)I"⟩
abbrev cX9_tie : ByteArray := prog_1_method_11_code
def yX9_tie : MethodName := ⟨RX9, "tie", "(IZ)I"⟩
abbrev cX9_swap : ByteArray := prog_1_method_12_code
def yX9_swap : MethodName := ⟨RX9, "swap", "(II)I"⟩
abbrev cX9_undo : ByteArray := prog_1_method_13_code
def yX9_undo : MethodName := ⟨RX9, "undo", "()I"⟩
abbrev cX9_tell : ByteArray := prog_1_method_14_code
def yX9_tell : MethodName := ⟨RX9, "tell", "(II)I"⟩
abbrev cX9_noRow : ByteArray := prog_1_method_15_code
def yX9_noRow : MethodName := ⟨RX9, "noRow", "()I"⟩
abbrev cX9_behind : ByteArray := prog_1_method_16_code
def yX9_behind : MethodName := ⟨RX9, "behind", "(III)I"⟩
abbrev cX9_strayed : ByteArray := prog_1_method_17_code
def yX9_strayed : MethodName := ⟨RX9, "strayed", "()I"⟩
abbrev cX9_bring : ByteArray := prog_1_method_18_code
def yX9_bring : MethodName := ⟨RX9, "bring", "(IIII)I"⟩
abbrev cX9_pairs : ByteArray := prog_1_method_19_code
def yX9_pairs : MethodName := ⟨RX9, "pairs", "(I)I"⟩
abbrev cX9_homeward : ByteArray := prog_1_method_20_code
def yX9_homeward : MethodName := ⟨RX9, "homeward", "(I)I"⟩
abbrev cX9_seen : ByteArray := prog_1_method_21_code
def yX9_seen : MethodName := ⟨RX9, "seen", "(III)I"⟩
abbrev cX9_forget : ByteArray := prog_1_method_22_code
def yX9_forget : MethodName := ⟨RX9, "forget", "()I"⟩
abbrev cX9_villages : ByteArray := prog_1_method_23_code
def yX9_villages : MethodName := ⟨RX9, "villages", "(II)I"⟩
abbrev cX9_strays : ByteArray := prog_1_method_24_code
def yX9_strays : MethodName := ⟨RX9, "strays", "(I)I"⟩
abbrev cX9_lean : ByteArray := prog_1_method_25_code
def yX9_lean : MethodName := ⟨RX9, "lean", "(I)I"⟩
abbrev cX9_storms : ByteArray := prog_1_method_26_code
def yX9_storms : MethodName := ⟨RX9, "storms", "(IIIII)I"⟩
abbrev cX9_march : ByteArray := prog_1_method_27_code
def yX9_march : MethodName := ⟨RX9, "march", "(III)I"⟩
abbrev cX9_keep : ByteArray := prog_1_method_28_code
def yX9_keep : MethodName := ⟨RX9, "keep", "()I"⟩
abbrev cX9_back : ByteArray := prog_1_method_29_code
def yX9_back : MethodName := ⟨RX9, "back", "()I"⟩
abbrev cX9_count : ByteArray := prog_1_method_30_code
def yX9_count : MethodName := ⟨RX9, "count", "(I)I"⟩
abbrev cX9_takeWhatWasRead : ByteArray := prog_1_method_31_code
def yX9_takeWhatWasRead : MethodName := ⟨RX9, "takeWhatWasRead", "()V"⟩
abbrev cX9_spotAfter : ByteArray := prog_1_method_32_code
def yX9_spotAfter : MethodName := ⟨RX9, "spotAfter", "(IIIII)I"⟩
abbrev cX9_spotBehindStorm : ByteArray := prog_1_method_33_code
def yX9_spotBehindStorm : MethodName := ⟨RX9, "spotBehindStorm", "(II)I"⟩
abbrev cX9_weightOf : ByteArray := prog_1_method_34_code
def yX9_weightOf : MethodName := ⟨RX9, "weightOf", "(II)I"⟩
abbrev cX9_isMan : ByteArray := prog_1_method_35_code
def yX9_isMan : MethodName := ⟨RX9, "isMan", "(I)Z"⟩
abbrev cX9_isCell : ByteArray := prog_1_method_36_code
def yX9_isCell : MethodName := ⟨RX9, "isCell", "(II)Z"⟩
abbrev cX9_isOrder : ByteArray := prog_1_method_37_code
def yX9_isOrder : MethodName := ⟨RX9, "isOrder", "(II)Z"⟩
abbrev cX9_isWithin : ByteArray := prog_1_method_38_code
def yX9_isWithin : MethodName := ⟨RX9, "isWithin", "(III)Z"⟩
abbrev cX9_asNumber : ByteArray := prog_1_method_39_code
def yX9_asNumber : MethodName := ⟨RX9, "asNumber", "(Z)I"⟩
abbrev cX9_sharedDivisor : ByteArray := prog_1_method_40_code
def yX9_sharedDivisor : MethodName := ⟨RX9, "sharedDivisor", "(II)I"⟩
abbrev cX9_drawOf : ByteArray := prog_1_method_41_code
def yX9_drawOf : MethodName := ⟨RX9, "drawOf", "(II)I"⟩
def RX10 : String := "BootsTurnHomeModel"
def TX10 : u_T := fun k => match k with
  | 0 => ("BootsTurnHomeModel", "land", "[I", true)
  | 1 => ("BootsTurnHomeModel", "slot", "[I", true)
  | 2 => ("BootsTurnHomeModel", "acts", "I", false)
  | 3 => ("BootsTurnHomeModel", "keeps", "I", false)
  | 4 => ("BootsTurnHomeModel", "length", "I", false)
  | 5 => ("BootsTurnHomeModel", "text", "[B", true)
  | 6 => ("BootsTurnHomeModel", "at", "I", false)
  | 7 => ("BootsTurnHomeModel", "begin", "I", false)
  | 8 => ("BootsTurnHomeModel", "isWrong", "Z", false)
  | 9 => ("BootsTurnHomeModel", "seens", "I", false)
  | 10 => ("BootsTurnHomeModel", "sawWho", "[I", true)
  | 11 => ("BootsTurnHomeModel", "sawTime", "[I", true)
  | 12 => ("BootsTurnHomeModel", "sawWay", "[I", true)
  | 13 => ("BootsTurnHomeModel", "x", "I", false)
  | 14 => ("BootsTurnHomeModel", "y", "I", false)
  | 15 => ("BootsTurnHomeModel", "face", "I", false)
  | 16 => ("BootsTurnHomeModel", "given", "I", false)
  | 17 => ("BootsTurnHomeModel", "gets", "[I", true)
  | _ => ("BootsTurnHomeModel", "best", "[I", true)
def tyX10 : Nat → FieldType := fun k => match k with
  | 0 => .array .int
  | 1 => .array .int
  | 2 => .int
  | 3 => .int
  | 4 => .int
  | 5 => .array .byte
  | 6 => .int
  | 7 => .int
  | 8 => .boolean
  | 9 => .int
  | 10 => .array .int
  | 11 => .array .int
  | 12 => .array .int
  | 13 => .int
  | 14 => .int
  | 15 => .int
  | 16 => .int
  | 17 => .array .int
  | _ => .array .int
abbrev wsX100 : List Cond := u_ws RX10 TX10 19
theorem nmX10 : ∀ a, a < 19 → ∀ b, b < 19 → a ≠ b → (TX10 a).2.1 ≠ (TX10 b).2.1 := by decide +kernel
theorem tyX10_ok : ∀ k, k < 19 → parseFieldDescriptor (TX10 k).2.2.1 = some (tyX10 k) := by decide +kernel
abbrev cX10_init : ByteArray := prog_12_method_1_code
def yX10_init : MethodName := ⟨RX10, "<init>", "()V"⟩
abbrev cX10_in : ByteArray := prog_12_method_2_code
def yX10_in : MethodName := ⟨RX10, "in", "(JJJ)Z"⟩
abbrev cX10_has : ByteArray := prog_12_method_3_code
def yX10_has : MethodName := ⟨RX10, "has", "(II)Z"⟩
abbrev cX10_puts : ByteArray := prog_12_method_4_code
def yX10_puts : MethodName := ⟨RX10, "puts", "(IIIIII)V"⟩
abbrev cX10_tells : ByteArray := prog_12_method_5_code
def yX10_tells : MethodName := ⟨RX10, "tells", "(III)V"⟩
abbrev cX10_stands : ByteArray := prog_12_method_6_code
def yX10_stands : MethodName := ⟨RX10, "stands", "()V"⟩
abbrev cX10_copies : ByteArray := prog_12_method_7_code
def yX10_copies : MethodName := ⟨RX10, "copies", "(II)V"⟩
abbrev cX10_men : ByteArray := prog_12_method_8_code
def yX10_men : MethodName := ⟨RX10, "men", "()I"⟩
abbrev cX10_isMan : ByteArray := prog_12_method_9_code
def yX10_isMan : MethodName := ⟨RX10, "isMan", "(I)Z"⟩
abbrev cX10_write : ByteArray := prog_12_method_10_code
def yX10_write : MethodName := ⟨RX10, "write", "(I)I"⟩
abbrev cX10_wipe : ByteArray := prog_12_method_11_code
def yX10_wipe : MethodName := ⟨RX10, "wipe", "()I"⟩
abbrev cX10_next : ByteArray := prog_12_method_12_code
def yX10_next : MethodName := ⟨RX10, "next", "()I"⟩
abbrev cX10_number : ByteArray := prog_12_method_13_code
def yX10_number : MethodName := ⟨RX10, "number", "(II)I"⟩
abbrev cX10_more : ByteArray := prog_12_method_14_code
def yX10_more : MethodName := ⟨RX10, "more", "(II)I"⟩
abbrev cX10_item : ByteArray := prog_12_method_15_code
def yX10_item : MethodName := ⟨RX10, "item", "(I)V"⟩
abbrev cX10_reads : ByteArray := prog_12_method_16_code
def yX10_reads : MethodName := ⟨RX10, "reads", "()Z"⟩
abbrev cX10_fault : ByteArray := prog_12_method_17_code
def yX10_fault : MethodName := ⟨RX10, "fault", "()I"⟩
abbrev cX10_lay : ByteArray := prog_12_method_18_code
def yX10_lay : MethodName := ⟨RX10, "lay", "()I"⟩
abbrev cX10_apart : ByteArray := prog_12_method_19_code
def yX10_apart : MethodName := ⟨RX10, "apart", "(II)I"⟩
abbrev cX10_larger : ByteArray := prog_12_method_20_code
def yX10_larger : MethodName := ⟨RX10, "larger", "(II)I"⟩
abbrev cX10_isLost : ByteArray := prog_12_method_21_code
def yX10_isLost : MethodName := ⟨RX10, "isLost", "(II)Z"⟩
abbrev cX10_isHome : ByteArray := prog_12_method_22_code
def yX10_isHome : MethodName := ⟨RX10, "isHome", "(II)Z"⟩
abbrev cX10_lost : ByteArray := prog_12_method_23_code
def yX10_lost : MethodName := ⟨RX10, "lost", "(I)I"⟩
abbrev cX10_man : ByteArray := prog_12_method_24_code
def yX10_man : MethodName := ⟨RX10, "man", "(II)I"⟩
abbrev cX10_home : ByteArray := prog_12_method_25_code
def yX10_home : MethodName := ⟨RX10, "home", "(II)I"⟩
abbrev cX10_told : ByteArray := prog_12_method_26_code
def yX10_told : MethodName := ⟨RX10, "told", "(I)I"⟩
abbrev cX10_way : ByteArray := prog_12_method_27_code
def yX10_way : MethodName := ⟨RX10, "way", "(IIII)I"⟩
abbrev cX10_toward : ByteArray := prog_12_method_28_code
def yX10_toward : MethodName := ⟨RX10, "toward", "(IIII)I"⟩
abbrev cX10_marches : ByteArray := prog_12_method_29_code
def yX10_marches : MethodName := ⟨RX10, "marches", "(II)V"⟩
abbrev cX10_halts : ByteArray := prog_12_method_30_code
def yX10_halts : MethodName := ⟨RX10, "halts", "(IIII)V"⟩
abbrev cX10_picks : ByteArray := prog_12_method_31_code
def yX10_picks : MethodName := ⟨RX10, "picks", "(II)V"⟩
abbrev cX10_goes : ByteArray := prog_12_method_32_code
def yX10_goes : MethodName := ⟨RX10, "goes", "(IIII)V"⟩
abbrev cX10_orders : ByteArray := prog_12_method_33_code
def yX10_orders : MethodName := ⟨RX10, "orders", "(III)V"⟩
abbrev cX10_known : ByteArray := prog_12_method_34_code
def yX10_known : MethodName := ⟨RX10, "known", "()V"⟩
abbrev cX10_isOrder : ByteArray := prog_12_method_35_code
def yX10_isOrder : MethodName := ⟨RX10, "isOrder", "(II)Z"⟩
abbrev cX10_order : ByteArray := prog_12_method_36_code
def yX10_order : MethodName := ⟨RX10, "order", "(II)I"⟩
abbrev cX10_bits : ByteArray := prog_12_method_37_code
def yX10_bits : MethodName := ⟨RX10, "bits", "(I)I"⟩
abbrev cX10_tie : ByteArray := prog_12_method_38_code
def yX10_tie : MethodName := ⟨RX10, "tie", "(IZ)I"⟩
abbrev cX10_swap : ByteArray := prog_12_method_39_code
def yX10_swap : MethodName := ⟨RX10, "swap", "(II)I"⟩
abbrev cX10_undo : ByteArray := prog_12_method_40_code
def yX10_undo : MethodName := ⟨RX10, "undo", "()I"⟩
abbrev cX10_tell : ByteArray := prog_12_method_41_code
def yX10_tell : MethodName := ⟨RX10, "tell", "(II)I"⟩
abbrev cX10_noRow : ByteArray := prog_12_method_42_code
def yX10_noRow : MethodName := ⟨RX10, "noRow", "()I"⟩
abbrev cX10_behind : ByteArray := prog_12_method_43_code
def yX10_behind : MethodName := ⟨RX10, "behind", "(III)I"⟩
abbrev cX10_strayed : ByteArray := prog_12_method_44_code
def yX10_strayed : MethodName := ⟨RX10, "strayed", "()I"⟩
abbrev cX10_brings : ByteArray := prog_12_method_45_code
def yX10_brings : MethodName := ⟨RX10, "brings", "(IIIII)Z"⟩
abbrev cX10_bring : ByteArray := prog_12_method_46_code
def yX10_bring : MethodName := ⟨RX10, "bring", "(IIII)I"⟩
abbrev cX10_gives : ByteArray := prog_12_method_47_code
def yX10_gives : MethodName := ⟨RX10, "gives", "()Z"⟩
abbrev cX10_pairs : ByteArray := prog_12_method_48_code
def yX10_pairs : MethodName := ⟨RX10, "pairs", "(I)I"⟩
abbrev cX10_homeward : ByteArray := prog_12_method_49_code
def yX10_homeward : MethodName := ⟨RX10, "homeward", "(I)I"⟩
abbrev cX10_seen : ByteArray := prog_12_method_50_code
def yX10_seen : MethodName := ⟨RX10, "seen", "(III)I"⟩
abbrev cX10_forget : ByteArray := prog_12_method_51_code
def yX10_forget : MethodName := ⟨RX10, "forget", "()I"⟩
abbrev cX10_isSo : ByteArray := prog_12_method_52_code
def yX10_isSo : MethodName := ⟨RX10, "isSo", "(III)Z"⟩
abbrev cX10_villages : ByteArray := prog_12_method_53_code
def yX10_villages : MethodName := ⟨RX10, "villages", "(II)I"⟩
abbrev cX10_strays : ByteArray := prog_12_method_54_code
def yX10_strays : MethodName := ⟨RX10, "strays", "(I)I"⟩
abbrev cX10_lean : ByteArray := prog_12_method_55_code
def yX10_lean : MethodName := ⟨RX10, "lean", "(I)I"⟩
abbrev cX10_storms : ByteArray := prog_12_method_56_code
def yX10_storms : MethodName := ⟨RX10, "storms", "(IIIII)I"⟩
abbrev cX10_march : ByteArray := prog_12_method_57_code
def yX10_march : MethodName := ⟨RX10, "march", "(III)I"⟩
abbrev cX10_keep : ByteArray := prog_12_method_58_code
def yX10_keep : MethodName := ⟨RX10, "keep", "()I"⟩
abbrev cX10_back : ByteArray := prog_12_method_59_code
def yX10_back : MethodName := ⟨RX10, "back", "()I"⟩
abbrev cX10_count : ByteArray := prog_12_method_60_code
def yX10_count : MethodName := ⟨RX10, "count", "(I)I"⟩
def RJ6 : String := "java/lang/Integer"
def TJ6 : u_T := fun k => match k with
  | _ => ("", "", "", false)
def tyJ6 : Nat → FieldType := fun k => match k with
  | _ => .int
abbrev wsJ60 : List Cond := u_ws RJ6 TJ6 0
theorem nmJ6 : ∀ a, a < 0 → ∀ b, b < 0 → a ≠ b → (TJ6 a).2.1 ≠ (TJ6 b).2.1 := by decide +kernel
theorem tyJ6_ok : ∀ k, k < 0 → parseFieldDescriptor (TJ6 k).2.2.1 = some (tyJ6 k) := by decide +kernel
abbrev cJ6_bitCount_0f7a4 : ByteArray := prog_13_method_49_code
def yJ6_bitCount_0f7a4 : MethodName := ⟨RJ6, "bitCount", "(I)I"⟩
def RJ9 : String := "java/lang/Math"
def TJ9 : u_T := fun k => match k with
  | _ => ("", "", "", false)
def tyJ9 : Nat → FieldType := fun k => match k with
  | _ => .int
abbrev wsJ90 : List Cond := u_ws RJ9 TJ9 0
theorem nmJ9 : ∀ a, a < 0 → ∀ b, b < 0 → a ≠ b → (TJ9 a).2.1 ≠ (TJ9 b).2.1 := by decide +kernel
theorem tyJ9_ok : ∀ k, k < 0 → parseFieldDescriptor (TJ9 k).2.2.1 = some (tyJ9 k) := by decide +kernel
abbrev cJ9_abs_0f7a4 : ByteArray := prog_14_method_59_code
def yJ9_abs_0f7a4 : MethodName := ⟨RJ9, "abs", "(I)I"⟩
abbrev cJ9_max_7cf53 : ByteArray := prog_14_method_65_code
def yJ9_max_7cf53 : MethodName := ⟨RJ9, "max", "(II)I"⟩
abbrev cJ9_min_7cf53 : ByteArray := prog_14_method_69_code
def yJ9_min_7cf53 : MethodName := ⟨RJ9, "min", "(II)I"⟩
def RJ0 : String := "java/lang/String"
def TJ0 : u_T := fun k => match k with
  | _ => ("", "", "", false)
def tyJ0 : Nat → FieldType := fun k => match k with
  | _ => .int
abbrev wsJ00 : List Cond := u_ws RJ0 TJ0 0
theorem nmJ0 : ∀ a, a < 0 → ∀ b, b < 0 → a ≠ b → (TJ0 a).2.1 ≠ (TJ0 b).2.1 := by decide +kernel
theorem tyJ0_ok : ∀ k, k < 0 → parseFieldDescriptor (TJ0 k).2.2.1 = some (tyJ0 k) := by decide +kernel
abbrev cJ0_toCharArray_70df3 : ByteArray := prog_15_method_129_code
def yJ0_toCharArray_70df3 : MethodName := ⟨RJ0, "toCharArray", "()[C"⟩
abbrev cJ0_isLatin1_aae02 : ByteArray := prog_15_method_154_code
def yJ0_isLatin1_aae02 : MethodName := ⟨RJ0, "isLatin1", "()Z"⟩
abbrev cJ0_checkBoundsOffCount_cabcc : ByteArray := prog_15_method_157_code
def yJ0_checkBoundsOffCount_cabcc : MethodName := ⟨RJ0, "checkBoundsOffCount", "(III)I"⟩
def RJ1 : String := "java/lang/StringLatin1"
def TJ1 : u_T := fun k => match k with
  | _ => ("", "", "", false)
def tyJ1 : Nat → FieldType := fun k => match k with
  | _ => .int
abbrev wsJ10 : List Cond := u_ws RJ1 TJ1 0
theorem nmJ1 : ∀ a, a < 0 → ∀ b, b < 0 → a ≠ b → (TJ1 a).2.1 ≠ (TJ1 b).2.1 := by decide +kernel
theorem tyJ1_ok : ∀ k, k < 0 → parseFieldDescriptor (TJ1 k).2.2.1 = some (tyJ1 k) := by decide +kernel
abbrev cJ1_toChars_9d188 : ByteArray := prog_16_method_9_code
def yJ1_toChars_9d188 : MethodName := ⟨RJ1, "toChars", "([B)[C"⟩
abbrev cJ1_inflate_03870 : ByteArray := prog_16_method_49_code
def yJ1_inflate_03870 : MethodName := ⟨RJ1, "inflate", "([BI[CII)V"⟩
def RJ2 : String := "java/lang/StringUTF16"
def TJ2 : u_T := fun k => match k with
  | _ => ("", "", "", false)
def tyJ2 : Nat → FieldType := fun k => match k with
  | _ => .int
abbrev wsJ20 : List Cond := u_ws RJ2 TJ2 0
theorem nmJ2 : ∀ a, a < 0 → ∀ b, b < 0 → a ≠ b → (TJ2 a).2.1 ≠ (TJ2 b).2.1 := by decide +kernel
theorem tyJ2_ok : ∀ k, k < 0 → parseFieldDescriptor (TJ2 k).2.2.1 = some (tyJ2 k) := by decide +kernel
abbrev cJ2_getChar_3b067 : ByteArray := prog_17_method_5_code
def yJ2_getChar_3b067 : MethodName := ⟨RJ2, "getChar", "([BI)C"⟩
abbrev cJ2_length_9d52b : ByteArray := prog_17_method_6_code
def yJ2_length_9d52b : MethodName := ⟨RJ2, "length", "([B)I"⟩
abbrev cJ2_toChars_9d188 : ByteArray := prog_17_method_13_code
def yJ2_toChars_9d188 : MethodName := ⟨RJ2, "toChars", "([B)[C"⟩
abbrev cJ2_getChars_a1a8b : ByteArray := prog_17_method_26_code
def yJ2_getChars_a1a8b : MethodName := ⟨RJ2, "getChars", "([BII[CI)V"⟩
abbrev cJ2_checkBoundsOffCount_d044e : ByteArray := prog_17_method_94_code
def yJ2_checkBoundsOffCount_d044e : MethodName := ⟨RJ2, "checkBoundsOffCount", "(II[B)V"⟩
def RJ10 : String := "java/lang/System"
def TJ10 : u_T := fun k => match k with
  | _ => ("", "", "", false)
def tyJ10 : Nat → FieldType := fun k => match k with
  | _ => .int
abbrev wsJ100 : List Cond := u_ws RJ10 TJ10 0
theorem nmJ10 : ∀ a, a < 0 → ∀ b, b < 0 → a ≠ b → (TJ10 a).2.1 ≠ (TJ10 b).2.1 := by decide +kernel
theorem tyJ10_ok : ∀ k, k < 0 → parseFieldDescriptor (TJ10 k).2.2.1 = some (tyJ10 k) := by decide +kernel
def RJ3 : String := "jdk/internal/util/Preconditions"
def TJ3 : u_T := fun k => match k with
  | _ => ("", "", "", false)
def tyJ3 : Nat → FieldType := fun k => match k with
  | _ => .int
abbrev wsJ30 : List Cond := u_ws RJ3 TJ3 0
theorem nmJ3 : ∀ a, a < 0 → ∀ b, b < 0 → a ≠ b → (TJ3 a).2.1 ≠ (TJ3 b).2.1 := by decide +kernel
theorem tyJ3_ok : ∀ k, k < 0 → parseFieldDescriptor (TJ3 k).2.2.1 = some (tyJ3 k) := by decide +kernel
abbrev cJ3_checkFromIndexSize_8c36e : ByteArray := prog_19_method_13_code
def yJ3_checkFromIndexSize_8c36e : MethodName := ⟨RJ3, "checkFromIndexSize", "(IIILjava/util/function/BiFunction;)I"⟩
def RL : String := "BootsTurnHomeLaw"
abbrev cL_law : ByteArray := code
def yL_law : MethodName := ⟨RL, "law", "([I)Z"⟩
abbrev classes : List vw_C := [(RX0, TX0, 4), (RX1, TX1, 3), (RX2, TX2, 4), (RX3, TX3, 6), (RX4, TX4, 2), (RX5, TX5, 4), (RX6, TX6, 3), (RX7, TX7, 4), (RX0, TX0, 4), (RX9, TX9, 12), (RX10, TX10, 19)]
def z_nest : List Cond := [Cond.methodLinkNest RX9 15 yX5_init RX9, Cond.methodLinkNest RX5 11 yX3_init RX9, Cond.methodLinkNest RX5 20 yX0_init RX9, Cond.methodLinkNest RX5 27 yX6_init RX9, Cond.methodLinkNest RX9 22 yX3_init RX9, Cond.methodLinkNest RX9 29 yX0_init RX9, Cond.methodLinkNest RX9 39 yX6_init RX9, Cond.methodLinkNest RX9 46 yX7_init RX9, Cond.methodLinkNest RX4 21 yX0_init RX9, Cond.methodLinkNest RX9 65 yX2_init RX9, Cond.methodLinkNest RX9 72 yX1_init RX9, Cond.methodLinkNest RX5 67 yX9_isWithin RX9, Cond.methodLinkNest RX5 88 yX9_isCell RX9, Cond.methodLinkNest RX5 78 yX9_isOrder RX9, Cond.methodLinkNest RX8 51 yX9_isCell RX9, Cond.methodLinkNest RX0 79 yX9_asNumber RX9, Cond.methodLinkNest RX1 45 yX9_asNumber RX9]
