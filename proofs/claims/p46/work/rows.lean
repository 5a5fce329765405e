section
-- ===== PART A: goes FIRST, ahead of the names: the tables' words, and 'selects' of the private methods out of them =====
/-- a private method of a class that the tables say can be made, by its rows of tables_1 -/
def lw_okq (q : MethodName × Nat) : Prop := (q.1.cls ≠ "java/lang/invoke/MethodHandle" ∧ q.1.cls ≠ "java/lang/invoke/VarHandle") ∧ Cond.instantiable q.1.cls q.2 ∈ tables_1 ∧ Cond.privateMethod q.1 ∈ tables_1 ∧ Cond.instanceMethod q.1 ∈ tables_1
theorem lw_p0 : lw_okq (⟨"java/util/ArrayList", "add", "(Ljava/lang/Object;[Ljava/lang/Object;I)V"⟩, 3) := ⟨⟨by decide +kernel, by decide +kernel⟩, List.mem_of_getElem? (i := 44) (by decide +kernel), List.mem_of_getElem? (i := 277) (by decide +kernel), List.mem_of_getElem? (i := 278) (by decide +kernel)⟩
theorem lw_p1 : lw_okq (⟨"java/util/ArrayList", "grow", "()[Ljava/lang/Object;"⟩, 3) := ⟨⟨by decide +kernel, by decide +kernel⟩, List.mem_of_getElem? (i := 44) (by decide +kernel), List.mem_of_getElem? (i := 281) (by decide +kernel), List.mem_of_getElem? (i := 282) (by decide +kernel)⟩
theorem lw_p2 : lw_okq (⟨"java/util/ArrayList", "grow", "(I)[Ljava/lang/Object;"⟩, 3) := ⟨⟨by decide +kernel, by decide +kernel⟩, List.mem_of_getElem? (i := 44) (by decide +kernel), List.mem_of_getElem? (i := 285) (by decide +kernel), List.mem_of_getElem? (i := 286) (by decide +kernel)⟩
theorem lw_p3 : lw_okq (⟨"PinnaceView", "nodeAt", "(I)LPinnaceView$Node;"⟩, 6) := ⟨⟨by decide +kernel, by decide +kernel⟩, List.mem_of_getElem? (i := 27) (by decide +kernel), List.mem_of_getElem? (i := 479) (by decide +kernel), List.mem_of_getElem? (i := 480) (by decide +kernel)⟩
theorem lw_p4 : lw_okq (⟨"java/lang/Throwable", "fillInStackTrace", "(I)Ljava/lang/Throwable;"⟩, 6) := ⟨⟨by decide +kernel, by decide +kernel⟩, List.mem_of_getElem? (i := 543) (by decide +kernel), List.mem_of_getElem? (i := 541) (by decide +kernel), List.mem_of_getElem? (i := 542) (by decide +kernel)⟩
theorem lw_p5 : lw_okq (⟨"PinnaceView", "forgetWhatWasWorkedOut", "()V"⟩, 6) := ⟨⟨by decide +kernel, by decide +kernel⟩, List.mem_of_getElem? (i := 27) (by decide +kernel), List.mem_of_getElem? (i := 607) (by decide +kernel), List.mem_of_getElem? (i := 608) (by decide +kernel)⟩
theorem lw_p6 : lw_okq (⟨"PinnaceView$Tree", "detach", "(LPinnaceView$Node;)V"⟩, 3) := ⟨⟨by decide +kernel, by decide +kernel⟩, List.mem_of_getElem? (i := 38) (by decide +kernel), List.mem_of_getElem? (i := 620) (by decide +kernel), List.mem_of_getElem? (i := 621) (by decide +kernel)⟩
theorem lw_p7 : lw_okq (⟨"java/util/ArrayList", "fastRemove", "([Ljava/lang/Object;I)V"⟩, 3) := ⟨⟨by decide +kernel, by decide +kernel⟩, List.mem_of_getElem? (i := 44) (by decide +kernel), List.mem_of_getElem? (i := 634) (by decide +kernel), List.mem_of_getElem? (i := 635) (by decide +kernel)⟩
theorem lw_p8 : lw_okq (⟨"PinnaceView$Tree", "listAnew", "()V"⟩, 3) := ⟨⟨by decide +kernel, by decide +kernel⟩, List.mem_of_getElem? (i := 38) (by decide +kernel), List.mem_of_getElem? (i := 642) (by decide +kernel), List.mem_of_getElem? (i := 643) (by decide +kernel)⟩
theorem lw_p9 : lw_okq (⟨"java/util/ArrayList", "rangeCheckForAdd", "(I)V"⟩, 3) := ⟨⟨by decide +kernel, by decide +kernel⟩, List.mem_of_getElem? (i := 44) (by decide +kernel), List.mem_of_getElem? (i := 682) (by decide +kernel), List.mem_of_getElem? (i := 683) (by decide +kernel)⟩
theorem lw_p10 : lw_okq (⟨"PinnaceView", "ruleAt", "(I)LPinnaceView$Rule;"⟩, 6) := ⟨⟨by decide +kernel, by decide +kernel⟩, List.mem_of_getElem? (i := 27) (by decide +kernel), List.mem_of_getElem? (i := 755) (by decide +kernel), List.mem_of_getElem? (i := 756) (by decide +kernel)⟩
theorem lw_p11 : lw_okq (⟨"PinnaceView", "laidOut", "(II)LPinnaceView$Layout;"⟩, 6) := ⟨⟨by decide +kernel, by decide +kernel⟩, List.mem_of_getElem? (i := 27) (by decide +kernel), List.mem_of_getElem? (i := 825) (by decide +kernel), List.mem_of_getElem? (i := 826) (by decide +kernel)⟩
theorem lw_p12 : lw_okq (⟨"PinnaceView", "freshenStyles", "()V"⟩, 6) := ⟨⟨by decide +kernel, by decide +kernel⟩, List.mem_of_getElem? (i := 27) (by decide +kernel), List.mem_of_getElem? (i := 829) (by decide +kernel), List.mem_of_getElem? (i := 830) (by decide +kernel)⟩
theorem lw_p13 : lw_okq (⟨"PinnaceView$Styles", "findRules", "(LPinnaceView$Node;Ljava/util/ArrayList;I)V"⟩, 3) := ⟨⟨by decide +kernel, by decide +kernel⟩, List.mem_of_getElem? (i := 340) (by decide +kernel), List.mem_of_getElem? (i := 844) (by decide +kernel), List.mem_of_getElem? (i := 845) (by decide +kernel)⟩
theorem lw_p14 : lw_okq (⟨"PinnaceView$Rule", "fits", "(ILPinnaceView$Node;)Z"⟩, 10) := ⟨⟨by decide +kernel, by decide +kernel⟩, List.mem_of_getElem? (i := 704) (by decide +kernel), List.mem_of_getElem? (i := 859) (by decide +kernel), List.mem_of_getElem? (i := 860) (by decide +kernel)⟩
theorem lw_p15 : lw_okq (⟨"PinnaceView$Styles", "settle", "(LPinnaceView$Node;ILjava/util/ArrayList;)V"⟩, 3) := ⟨⟨by decide +kernel, by decide +kernel⟩, List.mem_of_getElem? (i := 340) (by decide +kernel), List.mem_of_getElem? (i := 866) (by decide +kernel), List.mem_of_getElem? (i := 867) (by decide +kernel)⟩
def lw_privs_1 : List (MethodName × Nat) := [(⟨"java/util/ArrayList", "add", "(Ljava/lang/Object;[Ljava/lang/Object;I)V"⟩, 3), (⟨"java/util/ArrayList", "grow", "()[Ljava/lang/Object;"⟩, 3), (⟨"java/util/ArrayList", "grow", "(I)[Ljava/lang/Object;"⟩, 3), (⟨"PinnaceView", "nodeAt", "(I)LPinnaceView$Node;"⟩, 6), (⟨"java/lang/Throwable", "fillInStackTrace", "(I)Ljava/lang/Throwable;"⟩, 6), (⟨"PinnaceView", "forgetWhatWasWorkedOut", "()V"⟩, 6), (⟨"PinnaceView$Tree", "detach", "(LPinnaceView$Node;)V"⟩, 3), (⟨"java/util/ArrayList", "fastRemove", "([Ljava/lang/Object;I)V"⟩, 3), (⟨"PinnaceView$Tree", "listAnew", "()V"⟩, 3), (⟨"java/util/ArrayList", "rangeCheckForAdd", "(I)V"⟩, 3), (⟨"PinnaceView", "ruleAt", "(I)LPinnaceView$Rule;"⟩, 6), (⟨"PinnaceView", "laidOut", "(II)LPinnaceView$Layout;"⟩, 6), (⟨"PinnaceView", "freshenStyles", "()V"⟩, 6), (⟨"PinnaceView$Styles", "findRules", "(LPinnaceView$Node;Ljava/util/ArrayList;I)V"⟩, 3), (⟨"PinnaceView$Rule", "fits", "(ILPinnaceView$Node;)Z"⟩, 10), (⟨"PinnaceView$Styles", "settle", "(LPinnaceView$Node;ILjava/util/ArrayList;)V"⟩, 3)]
theorem lw_r1 : ∀ q ∈ lw_privs_1, lw_okq q := List.forall_mem_cons.mpr ⟨lw_p0, List.forall_mem_cons.mpr ⟨lw_p1, List.forall_mem_cons.mpr ⟨lw_p2, List.forall_mem_cons.mpr ⟨lw_p3, List.forall_mem_cons.mpr ⟨lw_p4, List.forall_mem_cons.mpr ⟨lw_p5, List.forall_mem_cons.mpr ⟨lw_p6, List.forall_mem_cons.mpr ⟨lw_p7, List.forall_mem_cons.mpr ⟨lw_p8, List.forall_mem_cons.mpr ⟨lw_p9, List.forall_mem_cons.mpr ⟨lw_p10, List.forall_mem_cons.mpr ⟨lw_p11, List.forall_mem_cons.mpr ⟨lw_p12, List.forall_mem_cons.mpr ⟨lw_p13, List.forall_mem_cons.mpr ⟨lw_p14, List.forall_mem_cons.mpr ⟨lw_p15, fun _ h => absurd h List.not_mem_nil⟩⟩⟩⟩⟩⟩⟩⟩⟩⟩⟩⟩⟩⟩⟩⟩
theorem lw_p16 : lw_okq (⟨"PinnaceView$Page", "prepare", "(Ljava/util/ArrayList;)V"⟩, 6) := ⟨⟨by decide +kernel, by decide +kernel⟩, List.mem_of_getElem? (i := 334) (by decide +kernel), List.mem_of_getElem? (i := 892) (by decide +kernel), List.mem_of_getElem? (i := 893) (by decide +kernel)⟩
theorem lw_p17 : lw_okq (⟨"PinnaceView$Page", "sortFor", "(LPinnaceView$Node;)I"⟩, 6) := ⟨⟨by decide +kernel, by decide +kernel⟩, List.mem_of_getElem? (i := 334) (by decide +kernel), List.mem_of_getElem? (i := 899) (by decide +kernel), List.mem_of_getElem? (i := 900) (by decide +kernel)⟩
theorem lw_p18 : lw_okq (⟨"PinnaceView$Page", "findWishes", "(Ljava/util/ArrayList;)V"⟩, 6) := ⟨⟨by decide +kernel, by decide +kernel⟩, List.mem_of_getElem? (i := 334) (by decide +kernel), List.mem_of_getElem? (i := 911) (by decide +kernel), List.mem_of_getElem? (i := 912) (by decide +kernel)⟩
theorem lw_p19 : lw_okq (⟨"PinnaceView$Page", "findWish", "(LPinnaceView$Node;Ljava/util/ArrayList;)V"⟩, 6) := ⟨⟨by decide +kernel, by decide +kernel⟩, List.mem_of_getElem? (i := 334) (by decide +kernel), List.mem_of_getElem? (i := 915) (by decide +kernel), List.mem_of_getElem? (i := 916) (by decide +kernel)⟩
theorem lw_p20 : lw_okq (⟨"PinnaceView$Page", "widthOr", "(LPinnaceView$Node;I)I"⟩, 6) := ⟨⟨by decide +kernel, by decide +kernel⟩, List.mem_of_getElem? (i := 334) (by decide +kernel), List.mem_of_getElem? (i := 919) (by decide +kernel), List.mem_of_getElem? (i := 920) (by decide +kernel)⟩
theorem lw_p21 : lw_okq (⟨"PinnaceView$Page", "addToWish", "(LPinnaceView$Node;LPinnaceView$Flow;)V"⟩, 6) := ⟨⟨by decide +kernel, by decide +kernel⟩, List.mem_of_getElem? (i := 334) (by decide +kernel), List.mem_of_getElem? (i := 924) (by decide +kernel), List.mem_of_getElem? (i := 925) (by decide +kernel)⟩
theorem lw_p22 : lw_okq (⟨"PinnaceView$Page", "fill", "(LPinnaceView$Node;Ljava/util/ArrayList;I)V"⟩, 6) := ⟨⟨by decide +kernel, by decide +kernel⟩, List.mem_of_getElem? (i := 334) (by decide +kernel), List.mem_of_getElem? (i := 936) (by decide +kernel), List.mem_of_getElem? (i := 937) (by decide +kernel)⟩
theorem lw_p23 : lw_okq (⟨"PinnaceView$Page", "putFlow", "(LPinnaceView$Node;Ljava/util/ArrayList;I)V"⟩, 6) := ⟨⟨by decide +kernel, by decide +kernel⟩, List.mem_of_getElem? (i := 334) (by decide +kernel), List.mem_of_getElem? (i := 940) (by decide +kernel), List.mem_of_getElem? (i := 941) (by decide +kernel)⟩
theorem lw_p24 : lw_okq (⟨"PinnaceView$Page", "putLines", "(LPinnaceView$Node;)V"⟩, 6) := ⟨⟨by decide +kernel, by decide +kernel⟩, List.mem_of_getElem? (i := 334) (by decide +kernel), List.mem_of_getElem? (i := 949) (by decide +kernel), List.mem_of_getElem? (i := 950) (by decide +kernel)⟩
theorem lw_p25 : lw_okq (⟨"PinnaceView$Floats", "look", "(LPinnaceView$Node;I)V"⟩, 10) := ⟨⟨by decide +kernel, by decide +kernel⟩, List.mem_of_getElem? (i := 359) (by decide +kernel), List.mem_of_getElem? (i := 961) (by decide +kernel), List.mem_of_getElem? (i := 962) (by decide +kernel)⟩
theorem lw_p26 : lw_okq (⟨"PinnaceView$Page", "putBlock", "(LPinnaceView$Node;LPinnaceView$Node;Ljava/util/ArrayList;I)V"⟩, 6) := ⟨⟨by decide +kernel, by decide +kernel⟩, List.mem_of_getElem? (i := 334) (by decide +kernel), List.mem_of_getElem? (i := 980) (by decide +kernel), List.mem_of_getElem? (i := 981) (by decide +kernel)⟩
theorem lw_p27 : lw_okq (⟨"PinnaceView$Page", "putFloat", "(LPinnaceView$Node;LPinnaceView$Node;Ljava/util/ArrayList;I)V"⟩, 6) := ⟨⟨by decide +kernel, by decide +kernel⟩, List.mem_of_getElem? (i := 334) (by decide +kernel), List.mem_of_getElem? (i := 988) (by decide +kernel), List.mem_of_getElem? (i := 989) (by decide +kernel)⟩
theorem lw_p28 : lw_okq (⟨"PinnaceView$Page", "shift", "(Ljava/util/ArrayList;)V"⟩, 6) := ⟨⟨by decide +kernel, by decide +kernel⟩, List.mem_of_getElem? (i := 334) (by decide +kernel), List.mem_of_getElem? (i := 1001) (by decide +kernel), List.mem_of_getElem? (i := 1002) (by decide +kernel)⟩
theorem lw_p29 : lw_okq (⟨"PinnaceView", "digestOfPlace", "(JLPinnaceView$Node;)J"⟩, 6) := ⟨⟨by decide +kernel, by decide +kernel⟩, List.mem_of_getElem? (i := 27) (by decide +kernel), List.mem_of_getElem? (i := 1083) (by decide +kernel), List.mem_of_getElem? (i := 1084) (by decide +kernel)⟩
theorem lw_p30 : lw_okq (⟨"PinnaceView", "digestOfStyles", "(JLPinnaceView$Node;)J"⟩, 6) := ⟨⟨by decide +kernel, by decide +kernel⟩, List.mem_of_getElem? (i := 27) (by decide +kernel), List.mem_of_getElem? (i := 1104) (by decide +kernel), List.mem_of_getElem? (i := 1105) (by decide +kernel)⟩
theorem lw_p31 : lw_okq (⟨"PinnaceView", "digestOfWords", "(JLPinnaceView$Node;)J"⟩, 6) := ⟨⟨by decide +kernel, by decide +kernel⟩, List.mem_of_getElem? (i := 27) (by decide +kernel), List.mem_of_getElem? (i := 1109) (by decide +kernel), List.mem_of_getElem? (i := 1110) (by decide +kernel)⟩
def lw_privs_2 : List (MethodName × Nat) := [(⟨"PinnaceView$Page", "prepare", "(Ljava/util/ArrayList;)V"⟩, 6), (⟨"PinnaceView$Page", "sortFor", "(LPinnaceView$Node;)I"⟩, 6), (⟨"PinnaceView$Page", "findWishes", "(Ljava/util/ArrayList;)V"⟩, 6), (⟨"PinnaceView$Page", "findWish", "(LPinnaceView$Node;Ljava/util/ArrayList;)V"⟩, 6), (⟨"PinnaceView$Page", "widthOr", "(LPinnaceView$Node;I)I"⟩, 6), (⟨"PinnaceView$Page", "addToWish", "(LPinnaceView$Node;LPinnaceView$Flow;)V"⟩, 6), (⟨"PinnaceView$Page", "fill", "(LPinnaceView$Node;Ljava/util/ArrayList;I)V"⟩, 6), (⟨"PinnaceView$Page", "putFlow", "(LPinnaceView$Node;Ljava/util/ArrayList;I)V"⟩, 6), (⟨"PinnaceView$Page", "putLines", "(LPinnaceView$Node;)V"⟩, 6), (⟨"PinnaceView$Floats", "look", "(LPinnaceView$Node;I)V"⟩, 10), (⟨"PinnaceView$Page", "putBlock", "(LPinnaceView$Node;LPinnaceView$Node;Ljava/util/ArrayList;I)V"⟩, 6), (⟨"PinnaceView$Page", "putFloat", "(LPinnaceView$Node;LPinnaceView$Node;Ljava/util/ArrayList;I)V"⟩, 6), (⟨"PinnaceView$Page", "shift", "(Ljava/util/ArrayList;)V"⟩, 6), (⟨"PinnaceView", "digestOfPlace", "(JLPinnaceView$Node;)J"⟩, 6), (⟨"PinnaceView", "digestOfStyles", "(JLPinnaceView$Node;)J"⟩, 6), (⟨"PinnaceView", "digestOfWords", "(JLPinnaceView$Node;)J"⟩, 6)]
theorem lw_r2 : ∀ q ∈ lw_privs_2, lw_okq q := List.forall_mem_cons.mpr ⟨lw_p16, List.forall_mem_cons.mpr ⟨lw_p17, List.forall_mem_cons.mpr ⟨lw_p18, List.forall_mem_cons.mpr ⟨lw_p19, List.forall_mem_cons.mpr ⟨lw_p20, List.forall_mem_cons.mpr ⟨lw_p21, List.forall_mem_cons.mpr ⟨lw_p22, List.forall_mem_cons.mpr ⟨lw_p23, List.forall_mem_cons.mpr ⟨lw_p24, List.forall_mem_cons.mpr ⟨lw_p25, List.forall_mem_cons.mpr ⟨lw_p26, List.forall_mem_cons.mpr ⟨lw_p27, List.forall_mem_cons.mpr ⟨lw_p28, List.forall_mem_cons.mpr ⟨lw_p29, List.forall_mem_cons.mpr ⟨lw_p30, List.forall_mem_cons.mpr ⟨lw_p31, fun _ h => absurd h List.not_mem_nil⟩⟩⟩⟩⟩⟩⟩⟩⟩⟩⟩⟩⟩⟩⟩⟩
def lw_privs : List (MethodName × Nat) := lw_privs_1 ++ (lw_privs_2)
def lw_tbl : List Cond := k2_sels lw_privs ++ tables_1
theorem lw_privs_ok : ∀ q ∈ lw_privs, lw_okq q := by
  show ∀ q ∈ lw_privs_1 ++ (lw_privs_2), lw_okq q
  exact List.forall_mem_append.mpr ⟨lw_r1, lw_r2⟩
/-- the streams that the claim lets the run draw from -/
abbrev lw_cs : List Choice := [Jvm.Choice.named "NaN.bits"]
theorem lw_bits : nanBits ∈ lw_cs := by first | decide | exact List.mem_cons_self | simp [lw_cs, nanBits]
-- ===== end of PART A; then your names; then what follows =====
def RX0 : String := "PinnaceView$Floats"
def TX0 : u_T := fun k => match k with
  | 0 => ("PinnaceView$Floats", "rooms", "[I", true)
  | 1 => ("PinnaceView$Floats", "sides", "[I", true)
  | 2 => ("PinnaceView$Floats", "lefts", "[I", true)
  | 3 => ("PinnaceView$Floats", "rights", "[I", true)
  | 4 => ("PinnaceView$Floats", "tops", "[I", true)
  | 5 => ("PinnaceView$Floats", "bottoms", "[I", true)
  | 6 => ("PinnaceView$Floats", "count", "I", false)
  | 7 => ("PinnaceView$Floats", "spanBegin", "I", false)
  | 8 => ("PinnaceView$Floats", "spanEnd", "I", false)
  | _ => ("PinnaceView$Floats", "nextBottom", "I", false)
def tyX0 : Nat → FieldType := fun k => match k with
  | 0 => .array .int
  | 1 => .array .int
  | 2 => .array .int
  | 3 => .array .int
  | 4 => .array .int
  | 5 => .array .int
  | 6 => .int
  | 7 => .int
  | 8 => .int
  | _ => .int
abbrev wsX00 : List Cond := u_ws RX0 TX0 10
theorem nmX0 : ∀ a, a < 10 → ∀ b, b < 10 → a ≠ b → (TX0 a).2.1 ≠ (TX0 b).2.1 := by decide +kernel
theorem tyX0_ok : ∀ k, k < 10 → parseFieldDescriptor (TX0 k).2.2.1 = some (tyX0 k) := by decide +kernel
abbrev cX0_init : ByteArray := prog_2_method_1_code
def yX0_init : MethodName := ⟨RX0, "<init>", "()V"⟩
abbrev cX0_clear : ByteArray := prog_2_method_2_code
def yX0_clear : MethodName := ⟨RX0, "clear", "()V"⟩
abbrev cX0_put : ByteArray := prog_2_method_3_code
def yX0_put : MethodName := ⟨RX0, "put", "(IIIIII)V"⟩
abbrev cX0_belowBottoms : ByteArray := prog_2_method_4_code
def yX0_belowBottoms : MethodName := ⟨RX0, "belowBottoms", "(III)I"⟩
abbrev cX0_belowTops : ByteArray := prog_2_method_5_code
def yX0_belowTops : MethodName := ⟨RX0, "belowTops", "(II)I"⟩
abbrev cX0_findRoom : ByteArray := prog_2_method_6_code
def yX0_findRoom : MethodName := ⟨RX0, "findRoom", "(ILPinnaceView$Node;I)I"⟩
abbrev cX0_look : ByteArray := prog_2_method_7_code
def yX0_look : MethodName := ⟨RX0, "look", "(LPinnaceView$Node;I)V"⟩
def RX1 : String := "PinnaceView$Flow"
def TX1 : u_T := fun k => match k with
  | 0 => ("PinnaceView$Flow", "room", "I", false)
  | 1 => ("PinnaceView$Flow", "cursor", "I", false)
  | 2 => ("PinnaceView$Flow", "gap", "I", false)
  | 3 => ("PinnaceView$Flow", "wish", "I", false)
  | _ => ("PinnaceView$Flow", "waiting", "I", false)
def tyX1 : Nat → FieldType := fun k => match k with
  | 0 => .int
  | 1 => .int
  | 2 => .int
  | 3 => .int
  | _ => .int
abbrev wsX10 : List Cond := u_ws RX1 TX1 5
theorem nmX1 : ∀ a, a < 5 → ∀ b, b < 5 → a ≠ b → (TX1 a).2.1 ≠ (TX1 b).2.1 := by decide +kernel
theorem tyX1_ok : ∀ k, k < 5 → parseFieldDescriptor (TX1 k).2.2.1 = some (tyX1 k) := by decide +kernel
abbrev cX1_init : ByteArray := prog_3_method_1_code
def yX1_init : MethodName := ⟨RX1, "<init>", "()V"⟩
def RX2 : String := "PinnaceView$Layout"
def TX2 : u_T := fun k => match k with
  | 0 => ("PinnaceView$Layout", "sort", "I", false)
  | 1 => ("PinnaceView$Layout", "home", "LPinnaceView$Node;", false)
  | 2 => ("PinnaceView$Layout", "inset", "I", false)
  | 3 => ("PinnaceView$Layout", "edge", "I", false)
  | 4 => ("PinnaceView$Layout", "isScrolling", "Z", false)
  | 5 => ("PinnaceView$Layout", "left", "I", false)
  | 6 => ("PinnaceView$Layout", "top", "I", false)
  | 7 => ("PinnaceView$Layout", "wide", "I", false)
  | 8 => ("PinnaceView$Layout", "high", "I", false)
  | 9 => ("PinnaceView$Layout", "reach", "I", false)
  | 10 => ("PinnaceView$Layout", "lineCount", "I", false)
  | 11 => ("PinnaceView$Layout", "shiftX", "I", false)
  | 12 => ("PinnaceView$Layout", "shiftY", "I", false)
  | 13 => ("PinnaceView$Layout", "movedUp", "I", false)
  | 14 => ("PinnaceView$Layout", "wordLefts", "[I", true)
  | _ => ("PinnaceView$Layout", "wordTops", "[I", true)
def tyX2 : Nat → FieldType := fun k => match k with
  | 0 => .int
  | 1 => .object "PinnaceView$Node"
  | 2 => .int
  | 3 => .int
  | 4 => .boolean
  | 5 => .int
  | 6 => .int
  | 7 => .int
  | 8 => .int
  | 9 => .int
  | 10 => .int
  | 11 => .int
  | 12 => .int
  | 13 => .int
  | 14 => .array .int
  | _ => .array .int
abbrev wsX20 : List Cond := u_ws RX2 TX2 16
theorem nmX2 : ∀ a, a < 16 → ∀ b, b < 16 → a ≠ b → (TX2 a).2.1 ≠ (TX2 b).2.1 := by decide +kernel
theorem tyX2_ok : ∀ k, k < 16 → parseFieldDescriptor (TX2 k).2.2.1 = some (tyX2 k) := by decide +kernel
abbrev cX2_init : ByteArray := prog_4_method_1_code
def yX2_init : MethodName := ⟨RX2, "<init>", "(I)V"⟩
abbrev cX2_isBox : ByteArray := prog_4_method_2_code
def yX2_isBox : MethodName := ⟨RX2, "isBox", "()Z"⟩
abbrev cX2_borderX : ByteArray := prog_4_method_3_code
def yX2_borderX : MethodName := ⟨RX2, "borderX", "()I"⟩
abbrev cX2_borderY : ByteArray := prog_4_method_4_code
def yX2_borderY : MethodName := ⟨RX2, "borderY", "()I"⟩
abbrev cX2_borderWide : ByteArray := prog_4_method_5_code
def yX2_borderWide : MethodName := ⟨RX2, "borderWide", "()I"⟩
abbrev cX2_borderHigh : ByteArray := prog_4_method_6_code
def yX2_borderHigh : MethodName := ⟨RX2, "borderHigh", "()I"⟩
abbrev cX2_reachOrNone : ByteArray := prog_4_method_7_code
def yX2_reachOrNone : MethodName := ⟨RX2, "reachOrNone", "()I"⟩
abbrev cX2_linesOrNone : ByteArray := prog_4_method_8_code
def yX2_linesOrNone : MethodName := ⟨RX2, "linesOrNone", "()I"⟩
abbrev cX2_highWithEdges : ByteArray := prog_4_method_9_code
def yX2_highWithEdges : MethodName := ⟨RX2, "highWithEdges", "()I"⟩
abbrev cX2_hasInBorder : ByteArray := prog_4_method_10_code
def yX2_hasInBorder : MethodName := ⟨RX2, "hasInBorder", "(II)Z"⟩
abbrev cX2_cutsOffAt : ByteArray := prog_4_method_11_code
def yX2_cutsOffAt : MethodName := ⟨RX2, "cutsOffAt", "(II)Z"⟩
abbrev cX2_setWord : ByteArray := prog_4_method_12_code
def yX2_setWord : MethodName := ⟨RX2, "setWord", "(III)V"⟩
abbrev cX2_wordLeft : ByteArray := prog_4_method_13_code
def yX2_wordLeft : MethodName := ⟨RX2, "wordLeft", "(I)I"⟩
abbrev cX2_wordTop : ByteArray := prog_4_method_14_code
def yX2_wordTop : MethodName := ⟨RX2, "wordTop", "(I)I"⟩
abbrev cX2_isWithin : ByteArray := prog_4_method_15_code
def yX2_isWithin : MethodName := ⟨RX2, "isWithin", "(III)Z"⟩
def RX3 : String := "PinnaceView$Node"
def TX3 : u_T := fun k => match k with
  | 0 => ("PinnaceView$Node", "number", "I", true)
  | 1 => ("PinnaceView$Node", "isText", "Z", true)
  | 2 => ("PinnaceView$Node", "tag", "I", true)
  | 3 => ("PinnaceView$Node", "children", "Ljava/util/ArrayList;", true)
  | 4 => ("PinnaceView$Node", "letters", "[I", true)
  | 5 => ("PinnaceView$Node", "declared", "[I", true)
  | 6 => ("PinnaceView$Node", "layout", "LPinnaceView$Layout;", true)
  | 7 => ("PinnaceView$Node", "flow", "LPinnaceView$Flow;", true)
  | 8 => ("PinnaceView$Node", "parent", "LPinnaceView$Node;", false)
  | 9 => ("PinnaceView$Node", "words", "I", false)
  | 10 => ("PinnaceView$Node", "name", "I", false)
  | 11 => ("PinnaceView$Node", "classes", "I", false)
  | 12 => ("PinnaceView$Node", "offset", "I", false)
  | _ => ("PinnaceView$Node", "isGone", "Z", false)
def tyX3 : Nat → FieldType := fun k => match k with
  | 0 => .int
  | 1 => .boolean
  | 2 => .int
  | 3 => .object "java/util/ArrayList"
  | 4 => .array .int
  | 5 => .array .int
  | 6 => .object "PinnaceView$Layout"
  | 7 => .object "PinnaceView$Flow"
  | 8 => .object "PinnaceView$Node"
  | 9 => .int
  | 10 => .int
  | 11 => .int
  | 12 => .int
  | _ => .boolean
abbrev wsX30 : List Cond := u_ws RX3 TX3 14
theorem nmX3 : ∀ a, a < 14 → ∀ b, b < 14 → a ≠ b → (TX3 a).2.1 ≠ (TX3 b).2.1 := by decide +kernel
theorem tyX3_ok : ∀ k, k < 14 → parseFieldDescriptor (TX3 k).2.2.1 = some (tyX3 k) := by decide +kernel
abbrev cX3_init : ByteArray := prog_5_method_1_code
def yX3_init : MethodName := ⟨RX3, "<init>", "(IZI)V"⟩
abbrev cX3_hasClass : ByteArray := prog_5_method_2_code
def yX3_hasClass : MethodName := ⟨RX3, "hasClass", "(I)Z"⟩
abbrev cX3_hasWord : ByteArray := prog_5_method_3_code
def yX3_hasWord : MethodName := ⟨RX3, "hasWord", "(I)Z"⟩
abbrev cX3_lettersOf : ByteArray := prog_5_method_4_code
def yX3_lettersOf : MethodName := ⟨RX3, "lettersOf", "(I)I"⟩
abbrev cX3_declaredOf : ByteArray := prog_5_method_5_code
def yX3_declaredOf : MethodName := ⟨RX3, "declaredOf", "(I)I"⟩
abbrev cX3_setDeclared : ByteArray := prog_5_method_6_code
def yX3_setDeclared : MethodName := ⟨RX3, "setDeclared", "(II)V"⟩
abbrev cX3_ancestors : ByteArray := prog_5_method_7_code
def yX3_ancestors : MethodName := ⟨RX3, "ancestors", "()I"⟩
abbrev cX3_isOrIsIn : ByteArray := prog_5_method_8_code
def yX3_isOrIsIn : MethodName := ⟨RX3, "isOrIsIn", "(LPinnaceView$Node;)Z"⟩
abbrev cX3_placeAmongSiblings : ByteArray := prog_5_method_9_code
def yX3_placeAmongSiblings : MethodName := ⟨RX3, "placeAmongSiblings", "()I"⟩
def RX4 : String := "PinnaceView$Page"
def TX4 : u_T := fun k => match k with
  | 0 => ("PinnaceView$Page", "styles", "LPinnaceView$Styles;", true)
  | 1 => ("PinnaceView$Page", "floats", "LPinnaceView$Floats;", true)
  | 2 => ("PinnaceView$Page", "waiting", "LPinnaceView$Waiting;", true)
  | 3 => ("PinnaceView$Page", "laidWidth", "I", false)
  | 4 => ("PinnaceView$Page", "lineCount", "I", false)
  | _ => ("PinnaceView$Page", "widthOfLines", "I", false)
def tyX4 : Nat → FieldType := fun k => match k with
  | 0 => .object "PinnaceView$Styles"
  | 1 => .object "PinnaceView$Floats"
  | 2 => .object "PinnaceView$Waiting"
  | 3 => .int
  | 4 => .int
  | _ => .int
abbrev wsX40 : List Cond := u_ws RX4 TX4 6
theorem nmX4 : ∀ a, a < 6 → ∀ b, b < 6 → a ≠ b → (TX4 a).2.1 ≠ (TX4 b).2.1 := by decide +kernel
theorem tyX4_ok : ∀ k, k < 6 → parseFieldDescriptor (TX4 k).2.2.1 = some (tyX4 k) := by decide +kernel
abbrev cX4_init : ByteArray := prog_6_method_1_code
def yX4_init : MethodName := ⟨RX4, "<init>", "()V"⟩
abbrev cX4_layOut : ByteArray := prog_6_method_2_code
def yX4_layOut : MethodName := ⟨RX4, "layOut", "(LPinnaceView$Tree;I)V"⟩
abbrev cX4_isAt : ByteArray := prog_6_method_3_code
def yX4_isAt : MethodName := ⟨RX4, "isAt", "(LPinnaceView$Node;II)Z"⟩
abbrev cX4_isCutAt : ByteArray := prog_6_method_4_code
def yX4_isCutAt : MethodName := ⟨RX4, "isCutAt", "(LPinnaceView$Node;II)Z"⟩
abbrev cX4_wordsSeen : ByteArray := prog_6_method_5_code
def yX4_wordsSeen : MethodName := ⟨RX4, "wordsSeen", "(LPinnaceView$Node;)I"⟩
abbrev cX4_prepare : ByteArray := prog_6_method_6_code
def yX4_prepare : MethodName := ⟨RX4, "prepare", "(Ljava/util/ArrayList;)V"⟩
abbrev cX4_sortFor : ByteArray := prog_6_method_7_code
def yX4_sortFor : MethodName := ⟨RX4, "sortFor", "(LPinnaceView$Node;)I"⟩
abbrev cX4_homeFor : ByteArray := prog_6_method_8_code
def yX4_homeFor : MethodName := ⟨RX4, "homeFor", "(LPinnaceView$Node;)LPinnaceView$Node;"⟩
abbrev cX4_findWishes : ByteArray := prog_6_method_9_code
def yX4_findWishes : MethodName := ⟨RX4, "findWishes", "(Ljava/util/ArrayList;)V"⟩
abbrev cX4_findWish : ByteArray := prog_6_method_10_code
def yX4_findWish : MethodName := ⟨RX4, "findWish", "(LPinnaceView$Node;Ljava/util/ArrayList;)V"⟩
abbrev cX4_addToWish : ByteArray := prog_6_method_11_code
def yX4_addToWish : MethodName := ⟨RX4, "addToWish", "(LPinnaceView$Node;LPinnaceView$Flow;)V"⟩
abbrev cX4_widthOr : ByteArray := prog_6_method_12_code
def yX4_widthOr : MethodName := ⟨RX4, "widthOr", "(LPinnaceView$Node;I)I"⟩
abbrev cX4_fill : ByteArray := prog_6_method_13_code
def yX4_fill : MethodName := ⟨RX4, "fill", "(LPinnaceView$Node;Ljava/util/ArrayList;I)V"⟩
abbrev cX4_putFlow : ByteArray := prog_6_method_14_code
def yX4_putFlow : MethodName := ⟨RX4, "putFlow", "(LPinnaceView$Node;Ljava/util/ArrayList;I)V"⟩
abbrev cX4_putBlock : ByteArray := prog_6_method_15_code
def yX4_putBlock : MethodName := ⟨RX4, "putBlock", "(LPinnaceView$Node;LPinnaceView$Node;Ljava/util/ArrayList;I)V"⟩
abbrev cX4_putFloat : ByteArray := prog_6_method_16_code
def yX4_putFloat : MethodName := ⟨RX4, "putFloat", "(LPinnaceView$Node;LPinnaceView$Node;Ljava/util/ArrayList;I)V"⟩
abbrev cX4_putLines : ByteArray := prog_6_method_17_code
def yX4_putLines : MethodName := ⟨RX4, "putLines", "(LPinnaceView$Node;)V"⟩
abbrev cX4_shift : ByteArray := prog_6_method_18_code
def yX4_shift : MethodName := ⟨RX4, "shift", "(Ljava/util/ArrayList;)V"⟩
def RX5 : String := "PinnaceView$Rule"
def TX5 : u_T := fun k => match k with
  | 0 => ("PinnaceView$Rule", "property", "I", true)
  | 1 => ("PinnaceView$Rule", "value", "I", true)
  | 2 => ("PinnaceView$Rule", "isStrong", "Z", true)
  | 3 => ("PinnaceView$Rule", "tags", "[I", true)
  | 4 => ("PinnaceView$Rule", "classBits", "[I", true)
  | 5 => ("PinnaceView$Rule", "names", "[I", true)
  | 6 => ("PinnaceView$Rule", "areClose", "[Z", true)
  | 7 => ("PinnaceView$Rule", "parts", "I", false)
  | 8 => ("PinnaceView$Rule", "weight", "I", false)
  | _ => ("PinnaceView$Rule", "isOn", "Z", false)
def tyX5 : Nat → FieldType := fun k => match k with
  | 0 => .int
  | 1 => .int
  | 2 => .boolean
  | 3 => .array .int
  | 4 => .array .int
  | 5 => .array .int
  | 6 => .array .boolean
  | 7 => .int
  | 8 => .int
  | _ => .boolean
abbrev wsX50 : List Cond := u_ws RX5 TX5 10
theorem nmX5 : ∀ a, a < 10 → ∀ b, b < 10 → a ≠ b → (TX5 a).2.1 ≠ (TX5 b).2.1 := by decide +kernel
theorem tyX5_ok : ∀ k, k < 10 → parseFieldDescriptor (TX5 k).2.2.1 = some (tyX5 k) := by decide +kernel
abbrev cX5_init : ByteArray := prog_7_method_1_code
def yX5_init : MethodName := ⟨RX5, "<init>", "(IIZ)V"⟩
abbrev cX5_takePart : ByteArray := prog_7_method_2_code
def yX5_takePart : MethodName := ⟨RX5, "takePart", "(IIIZ)V"⟩
abbrev cX5_selects : ByteArray := prog_7_method_3_code
def yX5_selects : MethodName := ⟨RX5, "selects", "(LPinnaceView$Node;)Z"⟩
abbrev cX5_fitsUpTo : ByteArray := prog_7_method_4_code
def yX5_fitsUpTo : MethodName := ⟨RX5, "fitsUpTo", "(LPinnaceView$Rule;ILPinnaceView$Node;)Z"⟩
abbrev cX5_fits : ByteArray := prog_7_method_5_code
def yX5_fits : MethodName := ⟨RX5, "fits", "(ILPinnaceView$Node;)Z"⟩
def RX6 : String := "PinnaceView$Styles"
def TX6 : u_T := fun k => match k with
  | 0 => ("PinnaceView$Styles", "values", "[[I", true)
  | 1 => ("PinnaceView$Styles", "reasons", "[[I", true)
  | _ => ("PinnaceView$Styles", "areFresh", "Z", false)
def tyX6 : Nat → FieldType := fun k => match k with
  | 0 => .array (.array .int)
  | 1 => .array (.array .int)
  | _ => .boolean
abbrev wsX60 : List Cond := u_ws RX6 TX6 3
theorem nmX6 : ∀ a, a < 3 → ∀ b, b < 3 → a ≠ b → (TX6 a).2.1 ≠ (TX6 b).2.1 := by decide +kernel
theorem tyX6_ok : ∀ k, k < 3 → parseFieldDescriptor (TX6 k).2.2.1 = some (tyX6 k) := by decide +kernel
abbrev cX6_init : ByteArray := prog_8_method_1_code
def yX6_init : MethodName := ⟨RX6, "<init>", "()V"⟩
abbrev cX6_of : ByteArray := prog_8_method_2_code
def yX6_of : MethodName := ⟨RX6, "of", "(LPinnaceView$Node;I)I"⟩
abbrev cX6_reasonOf : ByteArray := prog_8_method_3_code
def yX6_reasonOf : MethodName := ⟨RX6, "reasonOf", "(LPinnaceView$Node;I)I"⟩
abbrev cX6_differFor : ByteArray := prog_8_method_4_code
def yX6_differFor : MethodName := ⟨RX6, "differFor", "(LPinnaceView$Node;LPinnaceView$Styles;)Z"⟩
abbrev cX6_workOut : ByteArray := prog_8_method_5_code
def yX6_workOut : MethodName := ⟨RX6, "workOut", "(Ljava/util/ArrayList;Ljava/util/ArrayList;I)V"⟩
abbrev cX6_isKept : ByteArray := prog_8_method_6_code
def yX6_isKept : MethodName := ⟨RX6, "isKept", "(LPinnaceView$Node;I)Z"⟩
abbrev cX6_findRules : ByteArray := prog_8_method_7_code
def yX6_findRules : MethodName := ⟨RX6, "findRules", "(LPinnaceView$Node;Ljava/util/ArrayList;I)V"⟩
abbrev cX6_comesAheadOf : ByteArray := prog_8_method_8_code
def yX6_comesAheadOf : MethodName := ⟨RX6, "comesAheadOf", "(LPinnaceView$Rule;ILjava/util/ArrayList;)Z"⟩
abbrev cX6_settle : ByteArray := prog_8_method_9_code
def yX6_settle : MethodName := ⟨RX6, "settle", "(LPinnaceView$Node;ILjava/util/ArrayList;)V"⟩
def RX7 : String := "PinnaceView$Tree"
def TX7 : u_T := fun k => match k with
  | 0 => ("PinnaceView$Tree", "nodes", "Ljava/util/ArrayList;", true)
  | 1 => ("PinnaceView$Tree", "order", "Ljava/util/ArrayList;", true)
  | _ => ("PinnaceView$Tree", "root", "LPinnaceView$Node;", true)
def tyX7 : Nat → FieldType := fun k => match k with
  | 0 => .object "java/util/ArrayList"
  | 1 => .object "java/util/ArrayList"
  | _ => .object "PinnaceView$Node"
abbrev wsX70 : List Cond := u_ws RX7 TX7 3
theorem nmX7 : ∀ a, a < 3 → ∀ b, b < 3 → a ≠ b → (TX7 a).2.1 ≠ (TX7 b).2.1 := by decide +kernel
theorem tyX7_ok : ∀ k, k < 3 → parseFieldDescriptor (TX7 k).2.2.1 = some (tyX7 k) := by decide +kernel
abbrev cX7_init : ByteArray := prog_9_method_1_code
def yX7_init : MethodName := ⟨RX7, "<init>", "()V"⟩
abbrev cX7_withRoot : ByteArray := prog_9_method_2_code
def yX7_withRoot : MethodName := ⟨RX7, "withRoot", "()LPinnaceView$Tree;"⟩
abbrev cX7_holds : ByteArray := prog_9_method_3_code
def yX7_holds : MethodName := ⟨RX7, "holds", "(I)Z"⟩
abbrev cX7_hasRoomIn : ByteArray := prog_9_method_4_code
def yX7_hasRoomIn : MethodName := ⟨RX7, "hasRoomIn", "(LPinnaceView$Node;)Z"⟩
abbrev cX7_append : ByteArray := prog_9_method_5_code
def yX7_append : MethodName := ⟨RX7, "append", "(LPinnaceView$Node;ZI)I"⟩
abbrev cX7_remove : ByteArray := prog_9_method_6_code
def yX7_remove : MethodName := ⟨RX7, "remove", "(LPinnaceView$Node;)I"⟩
abbrev cX7_canMove : ByteArray := prog_9_method_7_code
def yX7_canMove : MethodName := ⟨RX7, "canMove", "(LPinnaceView$Node;LPinnaceView$Node;I)Z"⟩
abbrev cX7_putInto : ByteArray := prog_9_method_8_code
def yX7_putInto : MethodName := ⟨RX7, "putInto", "(LPinnaceView$Node;LPinnaceView$Node;I)V"⟩
abbrev cX7_detach : ByteArray := prog_9_method_9_code
def yX7_detach : MethodName := ⟨RX7, "detach", "(LPinnaceView$Node;)V"⟩
abbrev cX7_listAnew : ByteArray := prog_9_method_10_code
def yX7_listAnew : MethodName := ⟨RX7, "listAnew", "()V"⟩
abbrev cX7_listFrom : ByteArray := prog_9_method_11_code
def yX7_listFrom : MethodName := ⟨RX7, "listFrom", "(LPinnaceView$Node;Ljava/util/ArrayList;I)V"⟩
abbrev cX7_markGone : ByteArray := prog_9_method_12_code
def yX7_markGone : MethodName := ⟨RX7, "markGone", "(LPinnaceView$Node;I)V"⟩
abbrev cX7_levelsBelow : ByteArray := prog_9_method_13_code
def yX7_levelsBelow : MethodName := ⟨RX7, "levelsBelow", "(LPinnaceView$Node;I)I"⟩
def RX8 : String := "PinnaceView$Waiting"
def TX8 : u_T := fun k => match k with
  | 0 => ("PinnaceView$Waiting", "texts", "[LPinnaceView$Node;", true)
  | 1 => ("PinnaceView$Waiting", "words", "[I", true)
  | 2 => ("PinnaceView$Waiting", "widths", "[I", true)
  | 3 => ("PinnaceView$Waiting", "fonts", "[I", true)
  | 4 => ("PinnaceView$Waiting", "count", "I", false)
  | 5 => ("PinnaceView$Waiting", "lineWide", "I", false)
  | _ => ("PinnaceView$Waiting", "lineFont", "I", false)
def tyX8 : Nat → FieldType := fun k => match k with
  | 0 => .array (.object "PinnaceView$Node")
  | 1 => .array .int
  | 2 => .array .int
  | 3 => .array .int
  | 4 => .int
  | 5 => .int
  | _ => .int
abbrev wsX80 : List Cond := u_ws RX8 TX8 7
theorem nmX8 : ∀ a, a < 7 → ∀ b, b < 7 → a ≠ b → (TX8 a).2.1 ≠ (TX8 b).2.1 := by decide +kernel
theorem tyX8_ok : ∀ k, k < 7 → parseFieldDescriptor (TX8 k).2.2.1 = some (tyX8 k) := by decide +kernel
abbrev cX8_init : ByteArray := prog_10_method_1_code
def yX8_init : MethodName := ⟨RX8, "<init>", "()V"⟩
abbrev cX8_clear : ByteArray := prog_10_method_2_code
def yX8_clear : MethodName := ⟨RX8, "clear", "()V"⟩
abbrev cX8_add : ByteArray := prog_10_method_3_code
def yX8_add : MethodName := ⟨RX8, "add", "(LPinnaceView$Node;I)V"⟩
abbrev cX8_widthOf : ByteArray := prog_10_method_4_code
def yX8_widthOf : MethodName := ⟨RX8, "widthOf", "(I)I"⟩
abbrev cX8_takeLine : ByteArray := prog_10_method_5_code
def yX8_takeLine : MethodName := ⟨RX8, "takeLine", "(II)I"⟩
abbrev cX8_setLine : ByteArray := prog_10_method_6_code
def yX8_setLine : MethodName := ⟨RX8, "setLine", "(IIII)V"⟩
def RX9 : String := "PinnaceView"
def TX9 : u_T := fun k => match k with
  | 0 => ("PinnaceView", "tree", "LPinnaceView$Tree;", true)
  | 1 => ("PinnaceView", "ruleList", "Ljava/util/ArrayList;", true)
  | 2 => ("PinnaceView", "page", "LPinnaceView$Page;", true)
  | 3 => ("PinnaceView", "styles", "LPinnaceView$Styles;", true)
  | 4 => ("PinnaceView", "stylesIfTurned", "LPinnaceView$Styles;", true)
  | _ => ("PinnaceView", "view", "I", false)
def tyX9 : Nat → FieldType := fun k => match k with
  | 0 => .object "PinnaceView$Tree"
  | 1 => .object "java/util/ArrayList"
  | 2 => .object "PinnaceView$Page"
  | 3 => .object "PinnaceView$Styles"
  | 4 => .object "PinnaceView$Styles"
  | _ => .int
abbrev wsX90 : List Cond := u_ws RX9 TX9 6
theorem nmX9 : ∀ a, a < 6 → ∀ b, b < 6 → a ≠ b → (TX9 a).2.1 ≠ (TX9 b).2.1 := by decide +kernel
theorem tyX9_ok : ∀ k, k < 6 → parseFieldDescriptor (TX9 k).2.2.1 = some (tyX9 k) := by decide +kernel
abbrev cX9_init : ByteArray := prog_1_method_1_code
def yX9_init : MethodName := ⟨RX9, "<init>", "()V"⟩
abbrev cX9_addElement : ByteArray := prog_1_method_2_code
def yX9_addElement : MethodName := ⟨RX9, "addElement", "(II)I"⟩
abbrev cX9_addText : ByteArray := prog_1_method_3_code
def yX9_addText : MethodName := ⟨RX9, "addText", "(I)I"⟩
abbrev cX9_addWord : ByteArray := prog_1_method_4_code
def yX9_addWord : MethodName := ⟨RX9, "addWord", "(II)I"⟩
abbrev cX9_takeAway : ByteArray := prog_1_method_5_code
def yX9_takeAway : MethodName := ⟨RX9, "takeAway", "(I)I"⟩
abbrev cX9_move : ByteArray := prog_1_method_6_code
def yX9_move : MethodName := ⟨RX9, "move", "(III)I"⟩
abbrev cX9_setClass : ByteArray := prog_1_method_7_code
def yX9_setClass : MethodName := ⟨RX9, "setClass", "(IIZ)Z"⟩
abbrev cX9_setName : ByteArray := prog_1_method_8_code
def yX9_setName : MethodName := ⟨RX9, "setName", "(II)I"⟩
abbrev cX9_addRule : ByteArray := prog_1_method_9_code
def yX9_addRule : MethodName := ⟨RX9, "addRule", "(IIZ)I"⟩
abbrev cX9_addPart : ByteArray := prog_1_method_10_code
def yX9_addPart : MethodName := ⟨RX9, "addPart", "(IIIIZ)I"⟩
abbrev cX9_turn : ByteArray := prog_1_method_11_code
def yX9_turn : MethodName := ⟨RX9, "turn", "(I)Z"⟩
abbrev cX9_declare : ByteArray := prog_1_method_12_code
def yX9_declare : MethodName := ⟨RX9, "declare", "(III)I"⟩
abbrev cX9_setView : ByteArray := prog_1_method_13_code
def yX9_setView : MethodName := ⟨RX9, "setView", "(I)I"⟩
abbrev cX9_scroll : ByteArray := prog_1_method_14_code
def yX9_scroll : MethodName := ⟨RX9, "scroll", "(II)I"⟩
abbrev cX9_added : ByteArray := prog_1_method_15_code
def yX9_added : MethodName := ⟨RX9, "added", "()I"⟩
abbrev cX9_nodes : ByteArray := prog_1_method_16_code
def yX9_nodes : MethodName := ⟨RX9, "nodes", "()I"⟩
abbrev cX9_isThere : ByteArray := prog_1_method_17_code
def yX9_isThere : MethodName := ⟨RX9, "isThere", "(I)Z"⟩
abbrev cX9_isText : ByteArray := prog_1_method_18_code
def yX9_isText : MethodName := ⟨RX9, "isText", "(I)Z"⟩
abbrev cX9_parent : ByteArray := prog_1_method_19_code
def yX9_parent : MethodName := ⟨RX9, "parent", "(I)I"⟩
abbrev cX9_size : ByteArray := prog_1_method_20_code
def yX9_size : MethodName := ⟨RX9, "size", "(I)I"⟩
abbrev cX9_childAt : ByteArray := prog_1_method_21_code
def yX9_childAt : MethodName := ⟨RX9, "childAt", "(II)I"⟩
abbrev cX9_rules : ByteArray := prog_1_method_22_code
def yX9_rules : MethodName := ⟨RX9, "rules", "()I"⟩
abbrev cX9_weight : ByteArray := prog_1_method_23_code
def yX9_weight : MethodName := ⟨RX9, "weight", "(I)I"⟩
abbrev cX9_matches : ByteArray := prog_1_method_24_code
def yX9_matches : MethodName := ⟨RX9, "matches", "(II)Z"⟩
abbrev cX9_matched : ByteArray := prog_1_method_25_code
def yX9_matched : MethodName := ⟨RX9, "matched", "(I)I"⟩
abbrev cX9_styleOf : ByteArray := prog_1_method_26_code
def yX9_styleOf : MethodName := ⟨RX9, "styleOf", "(II)I"⟩
abbrev cX9_because : ByteArray := prog_1_method_27_code
def yX9_because : MethodName := ⟨RX9, "because", "(II)I"⟩
abbrev cX9_sortOf : ByteArray := prog_1_method_28_code
def yX9_sortOf : MethodName := ⟨RX9, "sortOf", "(I)I"⟩
abbrev cX9_xOf : ByteArray := prog_1_method_29_code
def yX9_xOf : MethodName := ⟨RX9, "xOf", "(I)I"⟩
abbrev cX9_wideOf : ByteArray := prog_1_method_31_code
def yX9_wideOf : MethodName := ⟨RX9, "wideOf", "(I)I"⟩
abbrev cX9_highOf : ByteArray := prog_1_method_32_code
def yX9_highOf : MethodName := ⟨RX9, "highOf", "(I)I"⟩
abbrev cX9_reachOf : ByteArray := prog_1_method_33_code
def yX9_reachOf : MethodName := ⟨RX9, "reachOf", "(I)I"⟩
abbrev cX9_scrolled : ByteArray := prog_1_method_34_code
def yX9_scrolled : MethodName := ⟨RX9, "scrolled", "(I)I"⟩
abbrev cX9_lines : ByteArray := prog_1_method_35_code
def yX9_lines : MethodName := ⟨RX9, "lines", "(I)I"⟩
abbrev cX9_pageHeight : ByteArray := prog_1_method_38_code
def yX9_pageHeight : MethodName := ⟨RX9, "pageHeight", "()I"⟩
abbrev cX9_hit : ByteArray := prog_1_method_39_code
def yX9_hit : MethodName := ⟨RX9, "hit", "(II)I"⟩
abbrev cX9_seen : ByteArray := prog_1_method_40_code
def yX9_seen : MethodName := ⟨RX9, "seen", "(I)I"⟩
abbrev cX9_meanLine : ByteArray := prog_1_method_41_code
def yX9_meanLine : MethodName := ⟨RX9, "meanLine", "()D"⟩
abbrev cX9_heightIn : ByteArray := prog_1_method_42_code
def yX9_heightIn : MethodName := ⟨RX9, "heightIn", "(I)I"⟩
abbrev cX9_changedBy : ByteArray := prog_1_method_43_code
def yX9_changedBy : MethodName := ⟨RX9, "changedBy", "(I)I"⟩
abbrev cX9_digest : ByteArray := prog_1_method_44_code
def yX9_digest : MethodName := ⟨RX9, "digest", "()J"⟩
abbrev cX9_digestOfPlace : ByteArray := prog_1_method_45_code
def yX9_digestOfPlace : MethodName := ⟨RX9, "digestOfPlace", "(JLPinnaceView$Node;)J"⟩
abbrev cX9_digestOfBox : ByteArray := prog_1_method_46_code
def yX9_digestOfBox : MethodName := ⟨RX9, "digestOfBox", "(JLPinnaceView$Node;)J"⟩
abbrev cX9_digestOfStyles : ByteArray := prog_1_method_47_code
def yX9_digestOfStyles : MethodName := ⟨RX9, "digestOfStyles", "(JLPinnaceView$Node;)J"⟩
abbrev cX9_digestOfWords : ByteArray := prog_1_method_48_code
def yX9_digestOfWords : MethodName := ⟨RX9, "digestOfWords", "(JLPinnaceView$Node;)J"⟩
abbrev cX9_nodeAt : ByteArray := prog_1_method_49_code
def yX9_nodeAt : MethodName := ⟨RX9, "nodeAt", "(I)LPinnaceView$Node;"⟩
abbrev cX9_ruleAt : ByteArray := prog_1_method_50_code
def yX9_ruleAt : MethodName := ⟨RX9, "ruleAt", "(I)LPinnaceView$Rule;"⟩
abbrev cX9_forgetWhatWasWorkedOut : ByteArray := prog_1_method_51_code
def yX9_forgetWhatWasWorkedOut : MethodName := ⟨RX9, "forgetWhatWasWorkedOut", "()V"⟩
abbrev cX9_freshenStyles : ByteArray := prog_1_method_52_code
def yX9_freshenStyles : MethodName := ⟨RX9, "freshenStyles", "()V"⟩
abbrev cX9_laidOut : ByteArray := prog_1_method_53_code
def yX9_laidOut : MethodName := ⟨RX9, "laidOut", "(II)LPinnaceView$Layout;"⟩
abbrev cX9_isProperty : ByteArray := prog_1_method_54_code
def yX9_isProperty : MethodName := ⟨RX9, "isProperty", "(I)Z"⟩
abbrev cX9_isValueOf : ByteArray := prog_1_method_55_code
def yX9_isValueOf : MethodName := ⟨RX9, "isValueOf", "(II)Z"⟩
abbrev cX9_isInherited : ByteArray := prog_1_method_56_code
def yX9_isInherited : MethodName := ⟨RX9, "isInherited", "(I)Z"⟩
abbrev cX9_isViewWidth : ByteArray := prog_1_method_57_code
def yX9_isViewWidth : MethodName := ⟨RX9, "isViewWidth", "(I)Z"⟩
def RJ9 : String := "java/lang/Math"
def TJ9 : u_T := fun k => match k with
  | _ => ("", "", "", false)
def tyJ9 : Nat → FieldType := fun k => match k with
  | _ => .int
theorem nmJ9 : ∀ a, a < 0 → ∀ b, b < 0 → a ≠ b → (TJ9 a).2.1 ≠ (TJ9 b).2.1 := by decide +kernel
theorem tyJ9_ok : ∀ k, k < 0 → parseFieldDescriptor (TJ9 k).2.2.1 = some (tyJ9 k) := by decide +kernel
abbrev cJ9_max_7cf53 : ByteArray := prog_25_method_65_code
def yJ9_max_7cf53 : MethodName := ⟨RJ9, "max", "(II)I"⟩
abbrev cJ9_min_7cf53 : ByteArray := prog_25_method_69_code
def yJ9_min_7cf53 : MethodName := ⟨RJ9, "min", "(II)I"⟩
def RJ10 : String := "java/lang/System"
def TJ10 : u_T := fun k => match k with
  | _ => ("", "", "", false)
def tyJ10 : Nat → FieldType := fun k => match k with
  | _ => .int
theorem nmJ10 : ∀ a, a < 0 → ∀ b, b < 0 → a ≠ b → (TJ10 a).2.1 ≠ (TJ10 b).2.1 := by decide +kernel
theorem tyJ10_ok : ∀ k, k < 0 → parseFieldDescriptor (TJ10 k).2.2.1 = some (tyJ10 k) := by decide +kernel
def RJxa1e45 : String := "java/util/AbstractCollection"
def TJxa1e45 : u_T := fun k => match k with
  | _ => ("", "", "", false)
def tyJxa1e45 : Nat → FieldType := fun k => match k with
  | _ => .int
theorem nmJxa1e45 : ∀ a, a < 0 → ∀ b, b < 0 → a ≠ b → (TJxa1e45 a).2.1 ≠ (TJxa1e45 b).2.1 := by decide +kernel
theorem tyJxa1e45_ok : ∀ k, k < 0 → parseFieldDescriptor (TJxa1e45 k).2.2.1 = some (tyJxa1e45 k) := by decide +kernel
abbrev cJxa1e45_init_da8c8 : ByteArray := prog_30_method_1_code
def yJxa1e45_init_da8c8 : MethodName := ⟨RJxa1e45, "<init>", "()V"⟩
def RJxc12de : String := "java/util/AbstractList"
def TJxc12de : u_T := fun k => match k with
  | _ => ("", "", "", false)
def tyJxc12de : Nat → FieldType := fun k => match k with
  | _ => .int
theorem nmJxc12de : ∀ a, a < 0 → ∀ b, b < 0 → a ≠ b → (TJxc12de a).2.1 ≠ (TJxc12de b).2.1 := by decide +kernel
theorem tyJxc12de_ok : ∀ k, k < 0 → parseFieldDescriptor (TJxc12de k).2.2.1 = some (tyJxc12de k) := by decide +kernel
abbrev cJxc12de_init_da8c8 : ByteArray := prog_31_method_1_code
def yJxc12de_init_da8c8 : MethodName := ⟨RJxc12de, "<init>", "()V"⟩
def RJx4a65c : String := "java/util/ArrayList"
def TJx4a65c : u_T := fun k => match k with
  | 0 => ("java/util/AbstractList", "modCount", "I", false)
  | 1 => ("java/util/ArrayList", "elementData", "[Ljava/lang/Object;", false)
  | _ => ("java/util/ArrayList", "size", "I", false)
def tyJx4a65c : Nat → FieldType := fun k => match k with
  | 0 => .int
  | 1 => .array (.object "java/lang/Object")
  | _ => .int
abbrev wsJx4a65c0 : List Cond := u_ws RJx4a65c TJx4a65c 3
theorem nmJx4a65c : ∀ a, a < 3 → ∀ b, b < 3 → a ≠ b → (TJx4a65c a).2.1 ≠ (TJx4a65c b).2.1 := by decide +kernel
theorem tyJx4a65c_ok : ∀ k, k < 3 → parseFieldDescriptor (TJx4a65c k).2.2.1 = some (tyJx4a65c k) := by decide +kernel
abbrev cJx4a65c_init_da8c8 : ByteArray := prog_32_method_2_code
def yJx4a65c_init_da8c8 : MethodName := ⟨RJx4a65c, "<init>", "()V"⟩
abbrev cJx4a65c_grow_92f84 : ByteArray := prog_32_method_6_code
def yJx4a65c_grow_92f84 : MethodName := ⟨RJx4a65c, "grow", "(I)[Ljava/lang/Object;"⟩
abbrev cJx4a65c_grow_d5877 : ByteArray := prog_32_method_7_code
def yJx4a65c_grow_d5877 : MethodName := ⟨RJx4a65c, "grow", "()[Ljava/lang/Object;"⟩
abbrev cJx4a65c_size_8abf5 : ByteArray := prog_32_method_8_code
def yJx4a65c_size_8abf5 : MethodName := ⟨RJx4a65c, "size", "()I"⟩
abbrev cJx4a65c_elementData_915e3 : ByteArray := prog_32_method_18_code
def yJx4a65c_elementData_915e3 : MethodName := ⟨RJx4a65c, "elementData", "(I)Ljava/lang/Object;"⟩
abbrev cJx4a65c_get_915e3 : ByteArray := prog_32_method_20_code
def yJx4a65c_get_915e3 : MethodName := ⟨RJx4a65c, "get", "(I)Ljava/lang/Object;"⟩
abbrev cJx4a65c_add_72be8 : ByteArray := prog_32_method_24_code
def yJx4a65c_add_72be8 : MethodName := ⟨RJx4a65c, "add", "(Ljava/lang/Object;[Ljava/lang/Object;I)V"⟩
abbrev cJx4a65c_add_9ea2d : ByteArray := prog_32_method_25_code
def yJx4a65c_add_9ea2d : MethodName := ⟨RJx4a65c, "add", "(Ljava/lang/Object;)Z"⟩
abbrev cJx4a65c_add_7a177 : ByteArray := prog_32_method_26_code
def yJx4a65c_add_7a177 : MethodName := ⟨RJx4a65c, "add", "(ILjava/lang/Object;)V"⟩
abbrev cJx4a65c_remove_915e3 : ByteArray := prog_32_method_29_code
def yJx4a65c_remove_915e3 : MethodName := ⟨RJx4a65c, "remove", "(I)Ljava/lang/Object;"⟩
abbrev cJx4a65c_fastRemove_b59b0 : ByteArray := prog_32_method_39_code
def yJx4a65c_fastRemove_b59b0 : MethodName := ⟨RJx4a65c, "fastRemove", "([Ljava/lang/Object;I)V"⟩
abbrev cJx4a65c_clear_da8c8 : ByteArray := prog_32_method_40_code
def yJx4a65c_clear_da8c8 : MethodName := ⟨RJx4a65c, "clear", "()V"⟩
abbrev cJx4a65c_rangeCheckForAdd_d00df : ByteArray := prog_32_method_45_code
def yJx4a65c_rangeCheckForAdd_d00df : MethodName := ⟨RJx4a65c, "rangeCheckForAdd", "(I)V"⟩
def RJ7 : String := "java/util/Arrays"
def TJ7 : u_T := fun k => match k with
  | _ => ("", "", "", false)
def tyJ7 : Nat → FieldType := fun k => match k with
  | _ => .int
theorem nmJ7 : ∀ a, a < 0 → ∀ b, b < 0 → a ≠ b → (TJ7 a).2.1 ≠ (TJ7 b).2.1 := by decide +kernel
theorem tyJ7_ok : ∀ k, k < 0 → parseFieldDescriptor (TJ7 k).2.2.1 = some (tyJ7 k) := by decide +kernel
abbrev cJ7_fill_53178 : ByteArray := prog_33_method_103_code
def yJ7_fill_53178 : MethodName := ⟨RJ7, "fill", "([II)V"⟩
abbrev cJ7_copyOf_1904c : ByteArray := prog_33_method_119_code
def yJ7_copyOf_1904c : MethodName := ⟨RJ7, "copyOf", "([Ljava/lang/Object;I)[Ljava/lang/Object;"⟩
abbrev cJ7_copyOf_6403c : ByteArray := prog_33_method_120_code
def yJ7_copyOf_6403c : MethodName := ⟨RJ7, "copyOf", "([Ljava/lang/Object;ILjava/lang/Class;)[Ljava/lang/Object;"⟩
def RJ15 : String := "java/util/Objects"
def TJ15 : u_T := fun k => match k with
  | _ => ("", "", "", false)
def tyJ15 : Nat → FieldType := fun k => match k with
  | _ => .int
theorem nmJ15 : ∀ a, a < 0 → ∀ b, b < 0 → a ≠ b → (TJ15 a).2.1 ≠ (TJ15 b).2.1 := by decide +kernel
theorem tyJ15_ok : ∀ k, k < 0 → parseFieldDescriptor (TJ15 k).2.2.1 = some (tyJ15 k) := by decide +kernel
abbrev cJ15_checkIndex_7cf53 : ByteArray := prog_36_method_17_code
def yJ15_checkIndex_7cf53 : MethodName := ⟨RJ15, "checkIndex", "(II)I"⟩
def RJ8 : String := "jdk/internal/util/ArraysSupport"
def TJ8 : u_T := fun k => match k with
  | _ => ("", "", "", false)
def tyJ8 : Nat → FieldType := fun k => match k with
  | _ => .int
theorem nmJ8 : ∀ a, a < 0 → ∀ b, b < 0 → a ≠ b → (TJ8 a).2.1 ≠ (TJ8 b).2.1 := by decide +kernel
theorem tyJ8_ok : ∀ k, k < 0 → parseFieldDescriptor (TJ8 k).2.2.1 = some (tyJ8 k) := by decide +kernel
abbrev cJ8_newLength_cabcc : ByteArray := prog_39_method_27_code
def yJ8_newLength_cabcc : MethodName := ⟨RJ8, "newLength", "(III)I"⟩
abbrev cJ8_hugeLength_7cf53 : ByteArray := prog_39_method_28_code
def yJ8_hugeLength_7cf53 : MethodName := ⟨RJ8, "hugeLength", "(II)I"⟩
def RJ3 : String := "jdk/internal/util/Preconditions"
def TJ3 : u_T := fun k => match k with
  | _ => ("", "", "", false)
def tyJ3 : Nat → FieldType := fun k => match k with
  | _ => .int
theorem nmJ3 : ∀ a, a < 0 → ∀ b, b < 0 → a ≠ b → (TJ3 a).2.1 ≠ (TJ3 b).2.1 := by decide +kernel
theorem tyJ3_ok : ∀ k, k < 0 → parseFieldDescriptor (TJ3 k).2.2.1 = some (tyJ3 k) := by decide +kernel
abbrev cJ3_checkIndex_8e157 : ByteArray := prog_40_method_11_code
def yJ3_checkIndex_8e157 : MethodName := ⟨RJ3, "checkIndex", "(IILjava/util/function/BiFunction;)I"⟩
def RL : String := "PinnaceViewLaw"
abbrev cL_below : ByteArray := method_2_code
def yL_below : MethodName := ⟨RL, "below", "(II)I"⟩
abbrev cL_cell : ByteArray := method_3_code
def yL_cell : MethodName := ⟨RL, "cell", "([II)I"⟩
abbrev cL_build : ByteArray := method_4_code
def yL_build : MethodName := ⟨RL, "build", "(LPinnaceView;[II)[[I"⟩
abbrev cL_isSound : ByteArray := method_5_code
def yL_isSound : MethodName := ⟨RL, "isSound", "(LPinnaceView;)Z"⟩
abbrev cL_law : ByteArray := code
def yL_law : MethodName := ⟨RL, "law", "([I)Z"⟩
end
section
def wsL_law0_r1 : List Cond := [Cond.classLink RL 22 RX9, Cond.instantiable RX9 6, Cond.initialized RX9, Cond.arrayClass .int, Cond.methodLink RL 104 yX9_init, Cond.instanceMethod yX9_init, Cond.code yX9_init cX9_init 1 none, Cond.methodLink RX9 1 objectInit, Cond.instanceMethod objectInit, Cond.code objectInit ⟨#[0xb1]⟩ 1 none, Cond.fieldLink RX9 13 "PinnaceView" "tree" "LPinnaceView$Tree;", Cond.classLink RX9 19 RJx4a65c, Cond.instantiable RJx4a65c 3, Cond.initialized RJx4a65c, Cond.fieldLink RX9 22 "PinnaceView" "ruleList" "Ljava/util/ArrayList;", Cond.classLink RX9 26 RX4, Cond.instantiable RX4 6, Cond.initialized RX4, Cond.fieldLink RX9 29 "PinnaceView" "page" "LPinnaceView$Page;", Cond.fieldLink RX9 33 "PinnaceView$Page" "styles" "LPinnaceView$Styles;", Cond.fieldLink RX9 37 "PinnaceView" "styles" "LPinnaceView$Styles;", Cond.classLink RX9 38 RX6, Cond.instantiable RX6 3, Cond.initialized RX6]
def wsL_law0_r2 : List Cond := [Cond.fieldLink RX9 41 "PinnaceView" "stylesIfTurned" "LPinnaceView$Styles;", Cond.fieldLink RX9 44 "PinnaceView" "view" "I", Cond.methodLink RX9 7 yX7_withRoot, Cond.static yX7_withRoot, Cond.initialized RX7, Cond.code yX7_withRoot cX7_withRoot 1 (some (.object "PinnaceView$Tree")), Cond.classLink RX7 13 RX7, Cond.instantiable RX7 3, Cond.fieldLink RX7 12 "PinnaceView$Tree" "nodes" "Ljava/util/ArrayList;", Cond.fieldLink RX7 26 "PinnaceView$Tree" "root" "LPinnaceView$Node;", Cond.fieldLink RX7 18 "PinnaceView$Tree" "order" "Ljava/util/ArrayList;", Cond.methodLink RX7 30 yX7_init, Cond.instanceMethod yX7_init, Cond.code yX7_init cX7_init 1 none, Cond.methodLink RX7 3 objectInit, Cond.classLink RX7 9 RJx4a65c, Cond.classLink RX7 21 RX3, Cond.instantiable RX3 14, Cond.initialized RX3, Cond.methodLink RX7 11 yJx4a65c_init_da8c8, Cond.instanceMethod yJx4a65c_init_da8c8, Cond.code yJx4a65c_init_da8c8 cJx4a65c_init_da8c8 1 none, Cond.fieldLink RJx4a65c 39 "java/util/ArrayList" "DEFAULTCAPACITY_EMPTY_ELEMENTDATA" "[Ljava/lang/Object;", Cond.fieldLink RJx4a65c 9 "java/util/ArrayList" "elementData" "[Ljava/lang/Object;"]
def wsL_law0_r3 : List Cond := [Cond.methodLink RJx4a65c 1 yJxc12de_init_da8c8, Cond.instanceMethod yJxc12de_init_da8c8, Cond.initialized RJxc12de, Cond.code yJxc12de_init_da8c8 cJxc12de_init_da8c8 1 none, Cond.fieldLink RJxc12de 7 "java/util/AbstractList" "modCount" "I", Cond.methodLink RJxc12de 1 yJxa1e45_init_da8c8, Cond.instanceMethod yJxa1e45_init_da8c8, Cond.initialized RJxa1e45, Cond.code yJxa1e45_init_da8c8 cJxa1e45_init_da8c8 1 none, Cond.methodLink RJxa1e45 1 objectInit, Cond.methodLink RX7 23 yX3_init, Cond.instanceMethod yX3_init, Cond.code yX3_init cX3_init 5 none, Cond.methodLink RX3 3 objectInit, Cond.classLink RX3 9 RJx4a65c, Cond.fieldLink RX3 12 "PinnaceView$Node" "children" "Ljava/util/ArrayList;", Cond.classLink RX3 18 RX1, Cond.instantiable RX1 5, Cond.initialized RX1, Cond.fieldLink RX3 21 "PinnaceView$Node" "flow" "LPinnaceView$Flow;", Cond.fieldLink RX3 25 "PinnaceView$Node" "parent" "LPinnaceView$Node;", Cond.fieldLink RX3 29 "PinnaceView$Node" "words" "I", Cond.fieldLink RX3 33 "PinnaceView$Node" "name" "I", Cond.fieldLink RX3 36 "PinnaceView$Node" "classes" "I"]
def wsL_law0_r4 : List Cond := [Cond.fieldLink RX3 39 "PinnaceView$Node" "offset" "I", Cond.fieldLink RX3 42 "PinnaceView$Node" "isGone" "Z", Cond.fieldLink RX3 46 "PinnaceView$Node" "number" "I", Cond.fieldLink RX3 49 "PinnaceView$Node" "isText" "Z", Cond.fieldLink RX3 52 "PinnaceView$Node" "tag" "I", Cond.fieldLink RX3 55 "PinnaceView$Node" "letters" "[I", Cond.fieldLink RX3 59 "PinnaceView$Node" "declared" "[I", Cond.classLink RX3 62 RX2, Cond.instantiable RX2 16, Cond.initialized RX2, Cond.fieldLink RX3 67 "PinnaceView$Node" "layout" "LPinnaceView$Layout;", Cond.methodLink RX3 11 yJx4a65c_init_da8c8, Cond.instanceMethod yX1_init, Cond.code yX1_init cX1_init 1 none, Cond.methodLink RX1 1 objectInit, Cond.fieldLink RX1 7 "PinnaceView$Flow" "room" "I", Cond.fieldLink RX1 13 "PinnaceView$Flow" "cursor" "I", Cond.fieldLink RX1 16 "PinnaceView$Flow" "gap" "I", Cond.fieldLink RX1 19 "PinnaceView$Flow" "wish" "I", Cond.fieldLink RX1 22 "PinnaceView$Flow" "waiting" "I", Cond.methodLink RX3 64 yX2_init, Cond.instanceMethod yX2_init, Cond.code yX2_init cX2_init 2 none, Cond.methodLink RX2 3 objectInit]
def wsL_law0_r5 : List Cond := [Cond.fieldLink RX2 9 "PinnaceView$Layout" "sort" "I", Cond.fieldLink RX2 15 "PinnaceView$Layout" "home" "LPinnaceView$Node;", Cond.fieldLink RX2 19 "PinnaceView$Layout" "inset" "I", Cond.fieldLink RX2 22 "PinnaceView$Layout" "edge" "I", Cond.fieldLink RX2 25 "PinnaceView$Layout" "isScrolling" "Z", Cond.fieldLink RX2 29 "PinnaceView$Layout" "left" "I", Cond.fieldLink RX2 32 "PinnaceView$Layout" "top" "I", Cond.fieldLink RX2 35 "PinnaceView$Layout" "wide" "I", Cond.fieldLink RX2 38 "PinnaceView$Layout" "high" "I", Cond.fieldLink RX2 41 "PinnaceView$Layout" "reach" "I", Cond.fieldLink RX2 44 "PinnaceView$Layout" "lineCount" "I", Cond.fieldLink RX2 47 "PinnaceView$Layout" "shiftX" "I", Cond.fieldLink RX2 50 "PinnaceView$Layout" "shiftY" "I", Cond.fieldLink RX2 53 "PinnaceView$Layout" "movedUp" "I", Cond.methodLink RX2 56 Lib.Math.max.name, Cond.static Lib.Math.max.name, Cond.initialized "java/lang/Math", Cond.code Lib.Math.max.name Lib.Math.max.code 2 (some .int), Cond.fieldLink RX2 62 "PinnaceView$Layout" "wordLefts" "[I", Cond.fieldLink RX2 66 "PinnaceView$Layout" "wordTops" "[I", Cond.methodLink RX7 31 yJx4a65c_add_9ea2d, Cond.instanceMethod yJx4a65c_add_9ea2d, Cond.selects RJx4a65c yJx4a65c_add_9ea2d yJx4a65c_add_9ea2d, Cond.code yJx4a65c_add_9ea2d cJx4a65c_add_9ea2d 2 (some .boolean)]
def wsL_law0_r6 : List Cond := [Cond.fieldLink RJx4a65c 63 "java/util/ArrayList" "modCount" "I", Cond.sameField "java/util/ArrayList" "java/util/AbstractList" "modCount" "I", Cond.fieldLink RJx4a65c 48 "java/util/ArrayList" "size" "I", Cond.methodLink RJx4a65c 131 yJx4a65c_add_72be8, Cond.instanceMethod yJx4a65c_add_72be8, Cond.selects RJx4a65c yJx4a65c_add_72be8 yJx4a65c_add_72be8, Cond.code yJx4a65c_add_72be8 cJx4a65c_add_72be8 4 none, Cond.methodLink RJx4a65c 129 yJx4a65c_grow_d5877, Cond.instanceMethod yJx4a65c_grow_d5877, Cond.selects RJx4a65c yJx4a65c_grow_d5877 yJx4a65c_grow_d5877, Cond.code yJx4a65c_grow_d5877 cJx4a65c_grow_d5877 1 (some (.array (.object "java/lang/Object"))), Cond.methodLink RJx4a65c 69 yJx4a65c_grow_92f84, Cond.instanceMethod yJx4a65c_grow_92f84, Cond.selects RJx4a65c yJx4a65c_grow_92f84 yJx4a65c_grow_92f84, Cond.code yJx4a65c_grow_92f84 cJx4a65c_grow_92f84 4 (some (.array (.object "java/lang/Object"))), Cond.methodLink RJx4a65c 79 Lib.Math.max.name, Cond.classLink RJx4a65c 7 "java/lang/Object", Cond.methodLink RJx4a65c 73 yJ8_newLength_cabcc, Cond.static yJ8_newLength_cabcc, Cond.initialized RJ8, Cond.code yJ8_newLength_cabcc cJ8_newLength_cabcc 4 (some .int), Cond.methodLink RJ8 194 Lib.Math.max.name, Cond.constant RJ8 200 (2147483639), Cond.methodLink RJ8 201 yJ8_hugeLength_7cf53]
def wsL_law0_r7 : List Cond := [Cond.static yJ8_hugeLength_7cf53, Cond.code yJ8_hugeLength_7cf53 cJ8_hugeLength_7cf53 3 (some .int), Cond.methodLink RJx4a65c 66 yJ7_copyOf_1904c, Cond.static yJ7_copyOf_1904c, Cond.initialized RJ7, Cond.code yJ7_copyOf_1904c cJ7_copyOf_1904c 2 (some (.array (.object "java/lang/Object"))), Cond.methodLink RJ7 86 ⟨"java/lang/Object", "getClass", "()Ljava/lang/Class;"⟩, Cond.selects "[Ljava/lang/Object;" ⟨"java/lang/Object", "getClass", "()Ljava/lang/Class;"⟩ ⟨"java/lang/Object", "getClass", "()Ljava/lang/Class;"⟩, Cond.instanceMethod ⟨"java/lang/Object", "getClass", "()Ljava/lang/Class;"⟩, Cond.native ⟨"java/lang/Object", "getClass", "()Ljava/lang/Class;"⟩, Cond.methodLink RJ7 300 yJ7_copyOf_6403c, Cond.static yJ7_copyOf_6403c, Cond.code yJ7_copyOf_6403c cJ7_copyOf_6403c 4 (some (.array (.object "java/lang/Object"))), Cond.classLink RJ7 110 "[Ljava/lang/Object;", Cond.classLink RJ7 2 "java/lang/Object", Cond.methodLink RJ7 304 Lib.Math.min.name, Cond.static Lib.Math.min.name, Cond.code Lib.Math.min.name Lib.Math.min.code 2 (some .int), Cond.methodLink RJ7 150 arraycopyName, Cond.native arraycopyName, Cond.static arraycopyName, Cond.initialized "java/lang/System", Cond.methodLink RX9 21 yJx4a65c_init_da8c8, Cond.instanceMethod yX4_init]
def wsL_law0_r8 : List Cond := [Cond.code yX4_init cX4_init 1 none, Cond.methodLink RX4 3 objectInit, Cond.classLink RX4 9 RX6, Cond.fieldLink RX4 12 "PinnaceView$Page" "styles" "LPinnaceView$Styles;", Cond.classLink RX4 18 RX0, Cond.instantiable RX0 10, Cond.initialized RX0, Cond.fieldLink RX4 21 "PinnaceView$Page" "floats" "LPinnaceView$Floats;", Cond.classLink RX4 25 RX8, Cond.instantiable RX8 7, Cond.initialized RX8, Cond.fieldLink RX4 28 "PinnaceView$Page" "waiting" "LPinnaceView$Waiting;", Cond.fieldLink RX4 32 "PinnaceView$Page" "laidWidth" "I", Cond.fieldLink RX4 36 "PinnaceView$Page" "lineCount" "I", Cond.fieldLink RX4 39 "PinnaceView$Page" "widthOfLines" "I", Cond.instanceMethod yX6_init, Cond.code yX6_init cX6_init 1 none, Cond.methodLink RX6 3 objectInit, Cond.classLink RX6 9 "[[I", Cond.fieldLink RX6 11 "PinnaceView$Styles" "values" "[[I", Cond.fieldLink RX6 16 "PinnaceView$Styles" "reasons" "[[I", Cond.fieldLink RX6 19 "PinnaceView$Styles" "areFresh" "Z", Cond.instanceMethod yX0_init, Cond.code yX0_init cX0_init 1 none]
def wsL_law0_r9 : List Cond := [Cond.methodLink RX0 3 objectInit, Cond.fieldLink RX0 9 "PinnaceView$Floats" "rooms" "[I", Cond.fieldLink RX0 15 "PinnaceView$Floats" "sides" "[I", Cond.fieldLink RX0 18 "PinnaceView$Floats" "lefts" "[I", Cond.fieldLink RX0 21 "PinnaceView$Floats" "rights" "[I", Cond.fieldLink RX0 24 "PinnaceView$Floats" "tops" "[I", Cond.fieldLink RX0 27 "PinnaceView$Floats" "bottoms" "[I", Cond.fieldLink RX0 30 "PinnaceView$Floats" "count" "I", Cond.fieldLink RX0 34 "PinnaceView$Floats" "spanBegin" "I", Cond.fieldLink RX0 37 "PinnaceView$Floats" "spanEnd" "I", Cond.fieldLink RX0 40 "PinnaceView$Floats" "nextBottom" "I", Cond.instanceMethod yX8_init, Cond.code yX8_init cX8_init 1 none, Cond.methodLink RX8 3 objectInit, Cond.classLink RX8 11 RX3, Cond.fieldLink RX8 13 "PinnaceView$Waiting" "texts" "[LPinnaceView$Node;", Cond.fieldLink RX8 17 "PinnaceView$Waiting" "words" "[I", Cond.fieldLink RX8 21 "PinnaceView$Waiting" "widths" "[I", Cond.fieldLink RX8 24 "PinnaceView$Waiting" "fonts" "[I", Cond.fieldLink RX8 27 "PinnaceView$Waiting" "count" "I", Cond.fieldLink RX8 31 "PinnaceView$Waiting" "lineWide" "I", Cond.fieldLink RX8 34 "PinnaceView$Waiting" "lineFont" "I", Cond.methodLink RL 11 yL_cell, Cond.static yL_cell]
def wsL_law0_r10 : List Cond := [Cond.initialized RL, Cond.code yL_cell cL_cell 2 (some .int), Cond.constant RL 8 (790386105), Cond.methodLink RL 17 yL_below, Cond.static yL_below, Cond.code yL_below cL_below 2 (some .int), Cond.constant RL 7 (2147483647), Cond.methodLink RL 105 yL_build, Cond.static yL_build, Cond.code yL_build cL_build 9 (some (.array (.array .int))), Cond.classLink RL 9 "[I", Cond.methodLink RL 21 yX9_addText, Cond.instanceMethod yX9_addText, Cond.selects RX9 yX9_addText yX9_addText, Cond.code yX9_addText cX9_addText 3 (some .int), Cond.classLink RX9 58 "java/lang/IllegalArgumentException", Cond.initialized "java/lang/IllegalArgumentException", Cond.classLink RX9 69 "java/lang/IllegalStateException", Cond.initialized "java/lang/IllegalStateException", Cond.fieldLink RX9 52 "PinnaceView$Node" "isText" "Z", Cond.methodLink RX9 48 yX9_nodeAt, Cond.instanceMethod yX9_nodeAt, Cond.selects RX9 yX9_nodeAt yX9_nodeAt, Cond.code yX9_nodeAt cX9_nodeAt 2 (some (.object "PinnaceView$Node"))]
def wsL_law0_r11 : List Cond := [Cond.classLink RX9 138 "java/lang/IndexOutOfBoundsException", Cond.initialized "java/lang/IndexOutOfBoundsException", Cond.fieldLink RX9 198 "PinnaceView$Tree" "nodes" "Ljava/util/ArrayList;", Cond.classLink RX9 53 "PinnaceView$Node", Cond.methodLink RX9 204 yX7_holds, Cond.instanceMethod yX7_holds, Cond.selects RX7 yX7_holds yX7_holds, Cond.code yX7_holds cX7_holds 2 (some .boolean), Cond.classLink RX7 21 "PinnaceView$Node", Cond.fieldLink RX7 43 "PinnaceView$Node" "isGone" "Z", Cond.methodLink RX7 35 yJx4a65c_size_8abf5, Cond.instanceMethod yJx4a65c_size_8abf5, Cond.selects RJx4a65c yJx4a65c_size_8abf5 yJx4a65c_size_8abf5, Cond.code yJx4a65c_size_8abf5 cJx4a65c_size_8abf5 1 (some .int), Cond.methodLink RX7 39 yJx4a65c_get_915e3, Cond.instanceMethod yJx4a65c_get_915e3, Cond.selects RJx4a65c yJx4a65c_get_915e3 yJx4a65c_get_915e3, Cond.code yJx4a65c_get_915e3 cJx4a65c_get_915e3 2 (some (.object "java/lang/Object")), Cond.methodLink RJx4a65c 118 yJ15_checkIndex_7cf53, Cond.static yJ15_checkIndex_7cf53, Cond.initialized RJ15, Cond.code yJ15_checkIndex_7cf53 cJ15_checkIndex_7cf53 2 (some .int), Cond.methodLink RJ15 105 yJ3_checkIndex_8e157, Cond.static yJ3_checkIndex_8e157]
def wsL_law0_r12 : List Cond := [Cond.initialized RJ3, Cond.code yJ3_checkIndex_8e157 cJ3_checkIndex_8e157 3 (some .int), Cond.methodLink RJx4a65c 123 yJx4a65c_elementData_915e3, Cond.instanceMethod yJx4a65c_elementData_915e3, Cond.selects RJx4a65c yJx4a65c_elementData_915e3 yJx4a65c_elementData_915e3, Cond.code yJx4a65c_elementData_915e3 cJx4a65c_elementData_915e3 2 (some (.object "java/lang/Object")), Cond.methodLink RX9 212 yJx4a65c_get_915e3, Cond.methodLink RX9 65 yX7_hasRoomIn, Cond.instanceMethod yX7_hasRoomIn, Cond.selects RX7 yX7_hasRoomIn yX7_hasRoomIn, Cond.code yX7_hasRoomIn cX7_hasRoomIn 2 (some .boolean), Cond.methodLink RX7 47 yX3_ancestors, Cond.instanceMethod yX3_ancestors, Cond.selects RX3 yX3_ancestors yX3_ancestors, Cond.code yX3_ancestors cX3_ancestors 3 (some .int), Cond.methodLink RX9 74 yX9_forgetWhatWasWorkedOut, Cond.instanceMethod yX9_forgetWhatWasWorkedOut, Cond.selects RX9 yX9_forgetWhatWasWorkedOut yX9_forgetWhatWasWorkedOut, Cond.code yX9_forgetWhatWasWorkedOut cX9_forgetWhatWasWorkedOut 1 none, Cond.fieldLink RX9 347 "PinnaceView$Styles" "areFresh" "Z", Cond.fieldLink RX9 350 "PinnaceView$Page" "laidWidth" "I", Cond.methodLink RX9 77 yX7_append, Cond.instanceMethod yX7_append, Cond.selects RX7 yX7_append yX7_append]
def wsL_law0_r13 : List Cond := [Cond.code yX7_append cX7_append 5 (some .int), Cond.fieldLink RX7 50 "PinnaceView$Node" "parent" "LPinnaceView$Node;", Cond.fieldLink RX7 53 "PinnaceView$Node" "children" "Ljava/util/ArrayList;", Cond.fieldLink RX7 59 "PinnaceView$Node" "number" "I", Cond.methodLink RX7 56 yX7_listAnew, Cond.instanceMethod yX7_listAnew, Cond.selects RX7 yX7_listAnew yX7_listAnew, Cond.code yX7_listAnew cX7_listAnew 1 none, Cond.methodLink RX7 91 yJx4a65c_clear_da8c8, Cond.instanceMethod yJx4a65c_clear_da8c8, Cond.selects RJx4a65c yJx4a65c_clear_da8c8 yJx4a65c_clear_da8c8, Cond.code yJx4a65c_clear_da8c8 cJx4a65c_clear_da8c8 4 none, Cond.methodLink RX7 94 yX7_listFrom, Cond.static yX7_listFrom, Cond.code yX7_listFrom cX7_listFrom 4 none, Cond.methodLink RL 27 yX9_addElement, Cond.instanceMethod yX9_addElement, Cond.selects RX9 yX9_addElement yX9_addElement, Cond.code yX9_addElement cX9_addElement 4 (some .int), Cond.methodLink RL 30 yX9_setName, Cond.instanceMethod yX9_setName, Cond.selects RX9 yX9_setName yX9_setName, Cond.code yX9_setName cX9_setName 5 (some .int), Cond.fieldLink RX9 132 "PinnaceView$Node" "name" "I"]
def wsL_law0_r14 : List Cond := [Cond.methodLink RL 33 yX9_setClass, Cond.instanceMethod yX9_setClass, Cond.selects RX9 yX9_setClass yX9_setClass, Cond.code yX9_setClass cX9_setClass 7 (some .boolean), Cond.fieldLink RX9 127 "PinnaceView$Node" "classes" "I", Cond.methodLink RX9 123 yX3_hasClass, Cond.instanceMethod yX3_hasClass, Cond.selects RX3 yX3_hasClass yX3_hasClass, Cond.code yX3_hasClass cX3_hasClass 2 (some .boolean), Cond.methodLink RL 75 yX9_size, Cond.instanceMethod yX9_size, Cond.selects RX9 yX9_size yX9_size, Cond.code yX9_size cX9_size 3 (some .int), Cond.fieldLink RX9 85 "PinnaceView$Node" "words" "I", Cond.fieldLink RX9 114 "PinnaceView$Node" "children" "Ljava/util/ArrayList;", Cond.methodLink RX9 117 yJx4a65c_size_8abf5, Cond.methodLink RL 109 yX9_addWord, Cond.instanceMethod yX9_addWord, Cond.selects RX9 yX9_addWord yX9_addWord, Cond.code yX9_addWord cX9_addWord 4 (some .int), Cond.fieldLink RX9 88 "PinnaceView$Node" "letters" "[I", Cond.methodLink RL 112 yX9_declare, Cond.instanceMethod yX9_declare, Cond.selects RX9 yX9_declare yX9_declare]
def wsL_law0_r15 : List Cond := [Cond.code yX9_declare cX9_declare 7 (some .int), Cond.methodLink RX9 135 yX9_isProperty, Cond.static yX9_isProperty, Cond.code yX9_isProperty cX9_isProperty 1 (some .boolean), Cond.methodLink RX9 143 yX9_isValueOf, Cond.static yX9_isValueOf, Cond.code yX9_isValueOf cX9_isValueOf 2 (some .boolean), Cond.fieldLink RX9 357 "PinnaceView" "LEAST_VALUES" "[I", Cond.fieldLink RX9 360 "PinnaceView" "GREATEST_VALUES" "[I", Cond.methodLink RX9 180 yX3_declaredOf, Cond.instanceMethod yX3_declaredOf, Cond.selects RX3 yX3_declaredOf yX3_declaredOf, Cond.code yX3_declaredOf cX3_declaredOf 2 (some .int), Cond.methodLink RX9 184 yX3_setDeclared, Cond.instanceMethod yX3_setDeclared, Cond.selects RX3 yX3_setDeclared yX3_setDeclared, Cond.code yX3_setDeclared cX3_setDeclared 3 none, Cond.methodLink RL 116 yX9_addRule, Cond.instanceMethod yX9_addRule, Cond.selects RX9 yX9_addRule yX9_addRule, Cond.code yX9_addRule cX9_addRule 4 (some .int), Cond.classLink RX9 151 RX5, Cond.instantiable RX5 10, Cond.initialized RX5]
def wsL_law0_r16 : List Cond := [Cond.methodLink RX9 153 yX5_init, Cond.instanceMethod yX5_init, Cond.code yX5_init cX5_init 4 none, Cond.methodLink RX5 3 objectInit, Cond.fieldLink RX5 9 "PinnaceView$Rule" "tags" "[I", Cond.fieldLink RX5 15 "PinnaceView$Rule" "classBits" "[I", Cond.fieldLink RX5 18 "PinnaceView$Rule" "names" "[I", Cond.arrayClass .boolean, Cond.fieldLink RX5 21 "PinnaceView$Rule" "areClose" "[Z", Cond.fieldLink RX5 25 "PinnaceView$Rule" "parts" "I", Cond.fieldLink RX5 29 "PinnaceView$Rule" "weight" "I", Cond.fieldLink RX5 32 "PinnaceView$Rule" "isOn" "Z", Cond.fieldLink RX5 36 "PinnaceView$Rule" "property" "I", Cond.fieldLink RX5 39 "PinnaceView$Rule" "value" "I", Cond.fieldLink RX5 42 "PinnaceView$Rule" "isStrong" "Z", Cond.methodLink RX9 156 yJx4a65c_add_9ea2d, Cond.methodLink RL 120 yX9_addPart, Cond.instanceMethod yX9_addPart, Cond.selects RX9 yX9_addPart yX9_addPart, Cond.code yX9_addPart cX9_addPart 9 (some .int), Cond.fieldLink RX9 166 "PinnaceView$Rule" "parts" "I", Cond.methodLink RX9 160 yX9_ruleAt, Cond.instanceMethod yX9_ruleAt, Cond.selects RX9 yX9_ruleAt yX9_ruleAt]
def wsL_law0_r17 : List Cond := [Cond.code yX9_ruleAt cX9_ruleAt 2 (some (.object "PinnaceView$Rule")), Cond.classLink RX9 151 "PinnaceView$Rule", Cond.methodLink RX9 171 yX5_takePart, Cond.instanceMethod yX5_takePart, Cond.selects RX5 yX5_takePart yX5_takePart, Cond.code yX5_takePart cX5_takePart 5 none, Cond.methodLink RL 124 yX9_scroll, Cond.instanceMethod yX9_scroll, Cond.selects RX9 yX9_scroll yX9_scroll, Cond.code yX9_scroll cX9_scroll 5 (some .int), Cond.fieldLink RX9 195 "PinnaceView$Node" "offset" "I", Cond.methodLink RL 127 yL_isSound, Cond.static yL_isSound, Cond.code yL_isSound cL_isSound 7 (some .boolean), Cond.methodLink RL 37 yX9_added, Cond.instanceMethod yX9_added, Cond.selects RX9 yX9_added yX9_added, Cond.code yX9_added cX9_added 1 (some .int), Cond.methodLink RL 41 yX9_isThere, Cond.instanceMethod yX9_isThere, Cond.selects RX9 yX9_isThere yX9_isThere, Cond.code yX9_isThere cX9_isThere 2 (some .boolean), Cond.methodLink RL 45 yX9_sortOf, Cond.instanceMethod yX9_sortOf]
def wsL_law0_r18 : List Cond := [Cond.selects RX9 yX9_sortOf yX9_sortOf, Cond.code yX9_sortOf cX9_sortOf 2 (some .int), Cond.fieldLink RX9 236 "PinnaceView$Layout" "sort" "I", Cond.methodLink RX9 232 yX9_laidOut, Cond.instanceMethod yX9_laidOut, Cond.selects RX9 yX9_laidOut yX9_laidOut, Cond.code yX9_laidOut cX9_laidOut 4 (some (.object "PinnaceView$Layout")), Cond.fieldLink RX9 339 "PinnaceView$Node" "layout" "LPinnaceView$Layout;", Cond.methodLink RX9 222 yX9_freshenStyles, Cond.instanceMethod yX9_freshenStyles, Cond.selects RX9 yX9_freshenStyles yX9_freshenStyles, Cond.code yX9_freshenStyles cX9_freshenStyles 1 none, Cond.fieldLink RX9 201 "PinnaceView$Tree" "order" "Ljava/util/ArrayList;", Cond.methodLink RX9 294 yX6_workOut, Cond.instanceMethod yX6_workOut, Cond.selects RX6 yX6_workOut yX6_workOut, Cond.code yX6_workOut cX6_workOut 7 none, Cond.classLink RX6 24 "PinnaceView$Node", Cond.methodLink RX6 37 yJx4a65c_size_8abf5, Cond.methodLink RX6 43 yJx4a65c_get_915e3, Cond.methodLink RX6 29 yX6_isKept, Cond.static yX6_isKept, Cond.code yX6_isKept cX6_isKept 2 (some .boolean), Cond.fieldLink RX6 23 "PinnaceView$Node" "number" "I"]
def wsL_law0_r19 : List Cond := [Cond.methodLink RX6 47 yX6_findRules, Cond.instanceMethod yX6_findRules, Cond.selects RX6 yX6_findRules yX6_findRules, Cond.code yX6_findRules cX6_findRules 8 none, Cond.classLink RX6 65 "PinnaceView$Rule", Cond.fieldLink RX6 67 "PinnaceView$Rule" "isOn" "Z", Cond.fieldLink RX6 70 "PinnaceView$Rule" "property" "I", Cond.methodLink RX6 59 yJ7_fill_53178, Cond.static yJ7_fill_53178, Cond.code yJ7_fill_53178 cJ7_fill_53178 4 none, Cond.methodLink RX6 73 yX5_selects, Cond.instanceMethod yX5_selects, Cond.selects RX5 yX5_selects yX5_selects, Cond.code yX5_selects cX5_selects 2 (some .boolean), Cond.fieldLink RX5 45 "PinnaceView$Node" "isText" "Z", Cond.methodLink RX5 50 yX5_fitsUpTo, Cond.static yX5_fitsUpTo, Cond.code yX5_fitsUpTo cX5_fitsUpTo 4 (some .boolean), Cond.fieldLink RX5 58 "PinnaceView$Node" "parent" "LPinnaceView$Node;", Cond.methodLink RX5 54 yX5_fits, Cond.instanceMethod yX5_fits, Cond.selects RX5 yX5_fits yX5_fits, Cond.code yX5_fits cX5_fits 6 (some .boolean), Cond.fieldLink RX5 62 "PinnaceView$Node" "tag" "I"]
def wsL_law0_r20 : List Cond := [Cond.fieldLink RX5 65 "PinnaceView$Node" "classes" "I", Cond.fieldLink RX5 68 "PinnaceView$Node" "name" "I", Cond.methodLink RX6 77 yX6_comesAheadOf, Cond.static yX6_comesAheadOf, Cond.code yX6_comesAheadOf cX6_comesAheadOf 4 (some .boolean), Cond.fieldLink RX6 81 "PinnaceView$Rule" "isStrong" "Z", Cond.fieldLink RX6 84 "PinnaceView$Rule" "weight" "I", Cond.methodLink RX6 51 yX6_settle, Cond.instanceMethod yX6_settle, Cond.selects RX6 yX6_settle yX6_settle, Cond.code yX6_settle cX6_settle 9 none, Cond.fieldLink RX6 87 "PinnaceView$Rule" "value" "I", Cond.fieldLink RX6 97 "PinnaceView$Node" "parent" "LPinnaceView$Node;", Cond.methodLink RX6 90 yX3_declaredOf, Cond.static yX9_isInherited, Cond.code yX9_isInherited cX9_isInherited 1 (some .boolean), Cond.methodLink RX6 33 yX6_of, Cond.instanceMethod yX6_of, Cond.selects RX6 yX6_of yX6_of, Cond.code yX6_of cX6_of 5 (some .int), Cond.methodLink RX9 353 yX4_layOut, Cond.instanceMethod yX4_layOut, Cond.selects RX4 yX4_layOut yX4_layOut, Cond.code yX4_layOut cX4_layOut 4 none]
def wsL_law0_r21 : List Cond := [Cond.fieldLink RX4 46 "PinnaceView$Tree" "order" "Ljava/util/ArrayList;", Cond.fieldLink RX4 59 "PinnaceView$Tree" "root" "LPinnaceView$Node;", Cond.fieldLink RX4 63 "PinnaceView$Node" "layout" "LPinnaceView$Layout;", Cond.fieldLink RX4 69 "PinnaceView$Layout" "edge" "I", Cond.fieldLink RX4 74 "PinnaceView$Layout" "left" "I", Cond.fieldLink RX4 77 "PinnaceView$Layout" "top" "I", Cond.fieldLink RX4 84 "PinnaceView$Layout" "wide" "I", Cond.fieldLink RX4 87 "PinnaceView$Node" "flow" "LPinnaceView$Flow;", Cond.fieldLink RX4 91 "PinnaceView$Node" "number" "I", Cond.fieldLink RX4 94 "PinnaceView$Flow" "room" "I", Cond.methodLink RX4 42 yX0_clear, Cond.instanceMethod yX0_clear, Cond.selects RX0 yX0_clear yX0_clear, Cond.code yX0_clear cX0_clear 1 none, Cond.methodLink RX4 45 yX8_clear, Cond.instanceMethod yX8_clear, Cond.selects RX8 yX8_clear yX8_clear, Cond.code yX8_clear cX8_clear 1 none, Cond.methodLink RX4 52 yX4_prepare, Cond.instanceMethod yX4_prepare, Cond.selects RX4 yX4_prepare yX4_prepare, Cond.code yX4_prepare cX4_prepare 5 none, Cond.classLink RX4 64 "PinnaceView$Node", Cond.fieldLink RX4 116 "PinnaceView$Layout" "sort" "I"]
def wsL_law0_r22 : List Cond := [Cond.fieldLink RX4 161 "PinnaceView$Layout" "home" "LPinnaceView$Node;", Cond.fieldLink RX4 164 "PinnaceView$Layout" "inset" "I", Cond.fieldLink RX4 171 "PinnaceView$Layout" "isScrolling" "Z", Cond.methodLink RX4 143 yJx4a65c_size_8abf5, Cond.methodLink RX4 149 yJx4a65c_get_915e3, Cond.methodLink RX4 153 yX4_sortFor, Cond.instanceMethod yX4_sortFor, Cond.selects RX4 yX4_sortFor yX4_sortFor, Cond.code yX4_sortFor cX4_sortFor 2 (some .int), Cond.fieldLink RX4 133 "PinnaceView$Node" "parent" "LPinnaceView$Node;", Cond.fieldLink RX4 175 "PinnaceView$Node" "isText" "Z", Cond.methodLink RX4 110 yX6_of, Cond.methodLink RX4 157 yX4_homeFor, Cond.static yX4_homeFor, Cond.code yX4_homeFor cX4_homeFor 1 (some (.object "PinnaceView$Node")), Cond.methodLink RX4 167 yX2_isBox, Cond.instanceMethod yX2_isBox, Cond.selects RX2 yX2_isBox yX2_isBox, Cond.code yX2_isBox cX2_isBox 1 (some .boolean), Cond.methodLink RX4 56 yX4_findWishes, Cond.instanceMethod yX4_findWishes, Cond.selects RX4 yX4_findWishes yX4_findWishes, Cond.code yX4_findWishes cX4_findWishes 3 none, Cond.methodLink RX4 178 yX4_findWish]
def wsL_law0_r23 : List Cond := [Cond.instanceMethod yX4_findWish, Cond.selects RX4 yX4_findWish yX4_findWish, Cond.code yX4_findWish cX4_findWish 6 none, Cond.fieldLink RX4 182 "PinnaceView$Flow" "wish" "I", Cond.fieldLink RX4 185 "PinnaceView$Flow" "waiting" "I", Cond.methodLink RX4 187 Lib.Math.max.name, Cond.methodLink RX4 80 yX4_widthOr, Cond.instanceMethod yX4_widthOr, Cond.selects RX4 yX4_widthOr yX4_widthOr, Cond.code yX4_widthOr cX4_widthOr 4 (some .int), Cond.methodLink RX4 193 yX4_addToWish, Cond.instanceMethod yX4_addToWish, Cond.selects RX4 yX4_addToWish yX4_addToWish, Cond.code yX4_addToWish cX4_addToWish 5 none, Cond.fieldLink RX4 113 "PinnaceView$Node" "words" "I", Cond.methodLink RX4 123 yX3_lettersOf, Cond.instanceMethod yX3_lettersOf, Cond.selects RX3 yX3_lettersOf yX3_lettersOf, Cond.code yX3_lettersOf cX3_lettersOf 2 (some .int), Cond.methodLink RX3 71 yX3_hasWord, Cond.instanceMethod yX3_hasWord, Cond.selects RX3 yX3_hasWord yX3_hasWord, Cond.code yX3_hasWord cX3_hasWord 2 (some .boolean), Cond.methodLink RX4 99 yX4_fill]
def wsL_law0_r24 : List Cond := [Cond.instanceMethod yX4_fill, Cond.selects RX4 yX4_fill yX4_fill, Cond.code yX4_fill cX4_fill 7 none, Cond.fieldLink RX4 197 "PinnaceView$Flow" "cursor" "I", Cond.fieldLink RX4 200 "PinnaceView$Flow" "gap" "I", Cond.fieldLink RX4 203 "PinnaceView$Layout" "lineCount" "I", Cond.fieldLink RX4 215 "PinnaceView$Layout" "reach" "I", Cond.fieldLink RX4 218 "PinnaceView$Layout" "high" "I", Cond.methodLink RX4 204 yX4_putFlow, Cond.instanceMethod yX4_putFlow, Cond.selects RX4 yX4_putFlow yX4_putFlow, Cond.methodLink RX4 207 yX4_putLines, Cond.instanceMethod yX4_putLines, Cond.selects RX4 yX4_putLines yX4_putLines, Cond.code yX4_putLines cX4_putLines 10 none, Cond.fieldLink RX4 252 "PinnaceView$Waiting" "count" "I", Cond.fieldLink RX4 245 "PinnaceView$Floats" "spanEnd" "I", Cond.fieldLink RX4 242 "PinnaceView$Floats" "spanBegin" "I", Cond.fieldLink RX4 261 "PinnaceView$Waiting" "lineWide" "I", Cond.fieldLink RX4 268 "PinnaceView$Waiting" "lineFont" "I", Cond.methodLink RX4 255 yX8_widthOf, Cond.instanceMethod yX8_widthOf, Cond.selects RX8 yX8_widthOf yX8_widthOf, Cond.code yX8_widthOf cX8_widthOf 2 (some .int)]
def wsL_law0_r25 : List Cond := [Cond.methodLink RX4 238 yX0_findRoom, Cond.instanceMethod yX0_findRoom, Cond.selects RX0 yX0_findRoom yX0_findRoom, Cond.code yX0_findRoom cX0_findRoom 6 (some .int), Cond.methodLink RX0 49 yX0_look, Cond.instanceMethod yX0_look, Cond.selects RX0 yX0_look yX0_look, Cond.code yX0_look cX0_look 4 none, Cond.fieldLink RX0 53 "PinnaceView$Node" "layout" "LPinnaceView$Layout;", Cond.fieldLink RX0 59 "PinnaceView$Layout" "left" "I", Cond.fieldLink RX0 64 "PinnaceView$Layout" "wide" "I", Cond.fieldLink RX0 67 "PinnaceView$Node" "flow" "LPinnaceView$Flow;", Cond.fieldLink RX0 71 "PinnaceView$Flow" "room" "I", Cond.methodLink RX0 76 Lib.Math.min.name, Cond.methodLink RX0 43 Lib.Math.max.name, Cond.methodLink RX4 258 yX8_takeLine, Cond.instanceMethod yX8_takeLine, Cond.selects RX8 yX8_takeLine yX8_takeLine, Cond.code yX8_takeLine cX8_takeLine 5 (some .int), Cond.methodLink RX8 43 Lib.Math.max.name, Cond.methodLink RX4 264 yX8_setLine, Cond.instanceMethod yX8_setLine, Cond.selects RX8 yX8_setLine yX8_setLine, Cond.code yX8_setLine cX8_setLine 7 none]
def wsL_law0_r26 : List Cond := [Cond.fieldLink RX8 49 "PinnaceView$Node" "layout" "LPinnaceView$Layout;", Cond.methodLink RX8 53 yX2_setWord, Cond.instanceMethod yX2_setWord, Cond.selects RX2 yX2_setWord yX2_setWord, Cond.code yX2_setWord cX2_setWord 4 none, Cond.methodLink RX4 211 yX0_belowBottoms, Cond.instanceMethod yX0_belowBottoms, Cond.selects RX0 yX0_belowBottoms yX0_belowBottoms, Cond.code yX0_belowBottoms cX0_belowBottoms 6 (some .int), Cond.code yX4_putBlock cX4_putBlock 8 none, Cond.code yX4_putFloat cX4_putFloat 12 none, Cond.methodLink RX4 232 Lib.Math.min.name, Cond.methodLink RX4 235 yX0_belowTops, Cond.instanceMethod yX0_belowTops, Cond.selects RX0 yX0_belowTops yX0_belowTops, Cond.code yX0_belowTops cX0_belowTops 5 (some .int), Cond.methodLink RX4 248 yX0_put, Cond.instanceMethod yX0_put, Cond.selects RX0 yX0_put yX0_put, Cond.code yX0_put cX0_put 7 none, Cond.code yX4_putFlow cX4_putFlow 7 none, Cond.methodLink RX4 221 yX8_add, Cond.instanceMethod yX8_add, Cond.selects RX8 yX8_add yX8_add]
def wsL_law0_r27 : List Cond := [Cond.code yX8_add cX8_add 4 none, Cond.fieldLink RX8 37 "PinnaceView$Node" "words" "I", Cond.methodLink RX8 39 yX3_lettersOf, Cond.methodLink RX4 225 yX4_putBlock, Cond.instanceMethod yX4_putBlock, Cond.selects RX4 yX4_putBlock yX4_putBlock, Cond.methodLink RX4 229 yX4_putFloat, Cond.instanceMethod yX4_putFloat, Cond.selects RX4 yX4_putFloat yX4_putFloat, Cond.methodLink RX4 103 yX4_shift, Cond.instanceMethod yX4_shift, Cond.selects RX4 yX4_shift yX4_shift, Cond.code yX4_shift cX4_shift 5 none, Cond.fieldLink RX4 271 "PinnaceView$Layout" "shiftX" "I", Cond.fieldLink RX4 274 "PinnaceView$Layout" "shiftY" "I", Cond.fieldLink RX4 277 "PinnaceView$Node" "offset" "I", Cond.fieldLink RX4 280 "PinnaceView$Layout" "movedUp" "I", Cond.methodLink RL 48 yX9_isText, Cond.instanceMethod yX9_isText, Cond.selects RX9 yX9_isText yX9_isText, Cond.code yX9_isText cX9_isText 2 (some .boolean), Cond.methodLink RL 51 yX9_wideOf, Cond.instanceMethod yX9_wideOf, Cond.selects RX9 yX9_wideOf yX9_wideOf]
def wsL_law0_r28 : List Cond := [Cond.code yX9_wideOf cX9_wideOf 2 (some .int), Cond.methodLink RX9 247 yX2_borderWide, Cond.instanceMethod yX2_borderWide, Cond.selects RX2 yX2_borderWide yX2_borderWide, Cond.code yX2_borderWide cX2_borderWide 1 (some .int), Cond.methodLink RX2 69 yX2_isBox, Cond.methodLink RL 54 yX9_highOf, Cond.instanceMethod yX9_highOf, Cond.selects RX9 yX9_highOf yX9_highOf, Cond.code yX9_highOf cX9_highOf 2 (some .int), Cond.methodLink RX9 250 yX2_borderHigh, Cond.instanceMethod yX2_borderHigh, Cond.selects RX2 yX2_borderHigh yX2_borderHigh, Cond.code yX2_borderHigh cX2_borderHigh 1 (some .int), Cond.methodLink RL 57 yX9_reachOf, Cond.instanceMethod yX9_reachOf, Cond.selects RX9 yX9_reachOf yX9_reachOf, Cond.code yX9_reachOf cX9_reachOf 2 (some .int), Cond.methodLink RX9 253 yX2_reachOrNone, Cond.instanceMethod yX2_reachOrNone, Cond.selects RX2 yX2_reachOrNone yX2_reachOrNone, Cond.code yX2_reachOrNone cX2_reachOrNone 1 (some .int), Cond.methodLink RL 60 yX9_xOf, Cond.instanceMethod yX9_xOf]
def wsL_law0_r29 : List Cond := [Cond.selects RX9 yX9_xOf yX9_xOf, Cond.code yX9_xOf cX9_xOf 2 (some .int), Cond.methodLink RX9 241 yX2_borderX, Cond.instanceMethod yX2_borderX, Cond.selects RX2 yX2_borderX yX2_borderX, Cond.code yX2_borderX cX2_borderX 1 (some .int), Cond.methodLink RL 63 yX9_lines, Cond.instanceMethod yX9_lines, Cond.selects RX9 yX9_lines yX9_lines, Cond.code yX9_lines cX9_lines 2 (some .int), Cond.methodLink RX9 259 yX2_linesOrNone, Cond.instanceMethod yX2_linesOrNone, Cond.selects RX2 yX2_linesOrNone yX2_linesOrNone, Cond.code yX2_linesOrNone cX2_linesOrNone 1 (some .int), Cond.methodLink RL 66 yX9_scrolled, Cond.instanceMethod yX9_scrolled, Cond.selects RX9 yX9_scrolled yX9_scrolled, Cond.code yX9_scrolled cX9_scrolled 2 (some .int), Cond.fieldLink RX9 256 "PinnaceView$Layout" "movedUp" "I", Cond.methodLink RL 69 yX9_parent, Cond.instanceMethod yX9_parent, Cond.selects RX9 yX9_parent yX9_parent, Cond.code yX9_parent cX9_parent 3 (some .int), Cond.fieldLink RX9 94 "PinnaceView$Node" "parent" "LPinnaceView$Node;"]
def wsL_law0_r30 : List Cond := [Cond.fieldLink RX9 207 "PinnaceView$Node" "number" "I", Cond.methodLink RL 72 yX9_seen, Cond.instanceMethod yX9_seen, Cond.selects RX9 yX9_seen yX9_seen, Cond.code yX9_seen cX9_seen 3 (some .int), Cond.methodLink RX9 285 yX4_wordsSeen, Cond.instanceMethod yX4_wordsSeen, Cond.selects RX4 yX4_wordsSeen yX4_wordsSeen, Cond.code yX4_wordsSeen cX4_wordsSeen 4 (some .int), Cond.methodLink RX4 119 yX2_wordLeft, Cond.instanceMethod yX2_wordLeft, Cond.selects RX2 yX2_wordLeft yX2_wordLeft, Cond.code yX2_wordLeft cX2_wordLeft 3 (some .int), Cond.methodLink RX4 130 yX2_wordTop, Cond.instanceMethod yX2_wordTop, Cond.selects RX2 yX2_wordTop yX2_wordTop, Cond.code yX2_wordTop cX2_wordTop 3 (some .int), Cond.methodLink RX4 139 yX4_isCutAt, Cond.instanceMethod yX4_isCutAt, Cond.selects RX4 yX4_isCutAt yX4_isCutAt, Cond.code yX4_isCutAt cX4_isCutAt 5 (some .boolean), Cond.methodLink RX4 136 yX2_cutsOffAt, Cond.instanceMethod yX2_cutsOffAt, Cond.selects RX2 yX2_cutsOffAt yX2_cutsOffAt]
def wsL_law0_r31 : List Cond := [Cond.code yX2_cutsOffAt cX2_cutsOffAt 4 (some .boolean), Cond.methodLink RX2 80 yX2_isWithin, Cond.static yX2_isWithin, Cond.code yX2_isWithin cX2_isWithin 3 (some .boolean), Cond.methodLink RL 78 yX9_childAt, Cond.instanceMethod yX9_childAt, Cond.selects RX9 yX9_childAt yX9_childAt, Cond.code yX9_childAt cX9_childAt 4 (some .int), Cond.methodLink RL 81 yX9_styleOf, Cond.instanceMethod yX9_styleOf, Cond.selects RX9 yX9_styleOf yX9_styleOf, Cond.code yX9_styleOf cX9_styleOf 4 (some .int), Cond.methodLink RX9 225 yX6_of, Cond.methodLink RL 84 yX9_because, Cond.instanceMethod yX9_because, Cond.selects RX9 yX9_because yX9_because, Cond.code yX9_because cX9_because 4 (some .int), Cond.methodLink RX9 229 yX6_reasonOf, Cond.instanceMethod yX6_reasonOf, Cond.selects RX6 yX6_reasonOf yX6_reasonOf, Cond.code yX6_reasonOf cX6_reasonOf 3 (some .int), Cond.methodLink RL 87 yX9_rules, Cond.instanceMethod yX9_rules, Cond.selects RX9 yX9_rules yX9_rules]
def wsL_law0_r32 : List Cond := [Cond.code yX9_rules cX9_rules 1 (some .int), Cond.methodLink RL 90 yX9_matches, Cond.instanceMethod yX9_matches, Cond.selects RX9 yX9_matches yX9_matches, Cond.code yX9_matches cX9_matches 4 (some .boolean), Cond.methodLink RX9 219 yX5_selects, Cond.methodLink RL 94 yX9_nodes, Cond.instanceMethod yX9_nodes, Cond.selects RX9 yX9_nodes yX9_nodes, Cond.code yX9_nodes cX9_nodes 1 (some .int), Cond.methodLink RL 97 yX9_pageHeight, Cond.instanceMethod yX9_pageHeight, Cond.selects RX9 yX9_pageHeight yX9_pageHeight, Cond.code yX9_pageHeight cX9_pageHeight 1 (some .int), Cond.methodLink RX9 273 yX2_highWithEdges, Cond.instanceMethod yX2_highWithEdges, Cond.selects RX2 yX2_highWithEdges yX2_highWithEdges, Cond.code yX2_highWithEdges cX2_highWithEdges 1 (some .int), Cond.methodLink RL 100 yX9_meanLine, Cond.instanceMethod yX9_meanLine, Cond.selects RX9 yX9_meanLine yX9_meanLine, Cond.code yX9_meanLine cX9_meanLine 1 (some .double), Cond.fieldLink RX9 288 "PinnaceView$Page" "lineCount" "I", Cond.fieldLink RX9 291 "PinnaceView$Page" "widthOfLines" "I"]
def wsL_law0_r33 : List Cond := [Cond.methodLink RL 131 yX9_digest, Cond.instanceMethod yX9_digest, Cond.selects RX9 yX9_digest yX9_digest, Cond.code yX9_digest cX9_digest 5 (some .long), Cond.constantLong RX9 302 (58030), Cond.constantLong RX9 304 (31), Cond.methodLink RX9 306 yX9_added, Cond.methodLink RX9 309 yX9_nodes, Cond.methodLink RX9 311 yX9_rules, Cond.methodLink RX9 314 yX9_isThere, Cond.methodLink RX9 317 yX9_digestOfPlace, Cond.instanceMethod yX9_digestOfPlace, Cond.selects RX9 yX9_digestOfPlace yX9_digestOfPlace, Cond.code yX9_digestOfPlace cX9_digestOfPlace 6 (some .long), Cond.methodLink RX9 335 yX9_parent, Cond.methodLink RX9 337 yX9_size, Cond.methodLink RX9 321 yX9_digestOfBox, Cond.static yX9_digestOfBox, Cond.code yX9_digestOfBox cX9_digestOfBox 5 (some .long), Cond.methodLink RX9 244 yX2_borderY, Cond.instanceMethod yX2_borderY, Cond.selects RX2 yX2_borderY yX2_borderY, Cond.code yX2_borderY cX2_borderY 1 (some .int), Cond.methodLink RX9 324 yX9_digestOfStyles]
def wsL_law0_r34 : List Cond := [Cond.instanceMethod yX9_digestOfStyles, Cond.selects RX9 yX9_digestOfStyles yX9_digestOfStyles, Cond.code yX9_digestOfStyles cX9_digestOfStyles 7 (some .long), Cond.methodLink RX9 327 yX9_digestOfWords, Cond.instanceMethod yX9_digestOfWords, Cond.selects RX9 yX9_digestOfWords yX9_digestOfWords, Cond.code yX9_digestOfWords cX9_digestOfWords 7 (some .long), Cond.methodLink RX9 267 yX2_wordLeft, Cond.methodLink RX9 270 yX2_wordTop, Cond.methodLink RX9 330 yX9_weight, Cond.instanceMethod yX9_weight, Cond.selects RX9 yX9_weight yX9_weight, Cond.code yX9_weight cX9_weight 2 (some .int), Cond.fieldLink RX9 216 "PinnaceView$Rule" "weight" "I", Cond.methodLink RX9 332 yX9_matched, Cond.instanceMethod yX9_matched, Cond.selects RX9 yX9_matched yX9_matched, Cond.code yX9_matched cX9_matched 5 (some .int), Cond.methodLink RL 135 yX9_heightIn, Cond.instanceMethod yX9_heightIn, Cond.selects RX9 yX9_heightIn yX9_heightIn, Cond.code yX9_heightIn cX9_heightIn 2 (some .int), Cond.methodLink RX9 188 yX9_isViewWidth, Cond.static yX9_isViewWidth]
def wsL_law0_r35 : List Cond := [Cond.code yX9_isViewWidth cX9_isViewWidth 1 (some .boolean), Cond.methodLink RL 138 yX9_changedBy, Cond.instanceMethod yX9_changedBy, Cond.selects RX9 yX9_changedBy yX9_changedBy, Cond.code yX9_changedBy cX9_changedBy 4 (some .int), Cond.methodLink RX9 298 yX6_differFor, Cond.instanceMethod yX6_differFor, Cond.selects RX6 yX6_differFor yX6_differFor, Cond.code yX6_differFor cX6_differFor 4 (some .boolean), Cond.methodLink RL 141 yX9_hit, Cond.instanceMethod yX9_hit, Cond.selects RX9 yX9_hit yX9_hit, Cond.code yX9_hit cX9_hit 6 (some .int), Cond.methodLink RX9 276 yX4_isAt, Cond.instanceMethod yX4_isAt, Cond.selects RX4 yX4_isAt yX4_isAt, Cond.code yX4_isAt cX4_isAt 7 (some .boolean), Cond.methodLink RX4 106 yX2_hasInBorder, Cond.instanceMethod yX2_hasInBorder, Cond.selects RX2 yX2_hasInBorder yX2_hasInBorder, Cond.code yX2_hasInBorder cX2_hasInBorder 3 (some .boolean), Cond.methodLink RX2 73 yX2_borderX, Cond.methodLink RX2 77 yX2_borderWide, Cond.methodLink RX2 84 yX2_borderY]
def wsL_law0_r36 : List Cond := [Cond.methodLink RX2 87 yX2_borderHigh, Cond.methodLink RX4 126 yX2_isWithin, Cond.methodLink RX9 280 yX4_isCutAt, Cond.methodLink RL 144 yX9_setView, Cond.instanceMethod yX9_setView, Cond.selects RX9 yX9_setView yX9_setView, Cond.code yX9_setView cX9_setView 3 (some .int), Cond.methodLink RL 147 yX9_move, Cond.instanceMethod yX9_move, Cond.selects RX9 yX9_move yX9_move, Cond.code yX9_move cX9_move 6 (some .int), Cond.methodLink RX9 104 yX7_canMove, Cond.instanceMethod yX7_canMove, Cond.selects RX7 yX7_canMove yX7_canMove, Cond.code yX7_canMove cX7_canMove 5 (some .boolean), Cond.fieldLink RX7 71 "PinnaceView$Node" "isText" "Z", Cond.methodLink RX7 74 yX3_isOrIsIn, Cond.instanceMethod yX3_isOrIsIn, Cond.selects RX3 yX3_isOrIsIn yX3_isOrIsIn, Cond.code yX3_isOrIsIn cX3_isOrIsIn 3 (some .boolean), Cond.methodLink RX7 78 yX7_levelsBelow, Cond.static yX7_levelsBelow, Cond.code yX7_levelsBelow cX7_levelsBelow 4 (some .int), Cond.methodLink RX7 98 Lib.Math.max.name]
def wsL_law0_r37 : List Cond := [Cond.methodLink RX9 110 yX7_putInto, Cond.instanceMethod yX7_putInto, Cond.selects RX7 yX7_putInto yX7_putInto, Cond.code yX7_putInto cX7_putInto 4 none, Cond.methodLink RX7 63 yX7_detach, Cond.instanceMethod yX7_detach, Cond.selects RX7 yX7_detach yX7_detach, Cond.code yX7_detach cX7_detach 3 none, Cond.methodLink RX7 85 yX3_placeAmongSiblings, Cond.instanceMethod yX3_placeAmongSiblings, Cond.selects RX3 yX3_placeAmongSiblings yX3_placeAmongSiblings, Cond.code yX3_placeAmongSiblings cX3_placeAmongSiblings 2 (some .int), Cond.methodLink RX3 75 yJx4a65c_size_8abf5, Cond.methodLink RX3 79 yJx4a65c_get_915e3, Cond.methodLink RX7 88 yJx4a65c_remove_915e3, Cond.instanceMethod yJx4a65c_remove_915e3, Cond.selects RJx4a65c yJx4a65c_remove_915e3 yJx4a65c_remove_915e3, Cond.code yJx4a65c_remove_915e3 cJx4a65c_remove_915e3 4 (some (.object "java/lang/Object")), Cond.methodLink RJx4a65c 144 yJx4a65c_fastRemove_b59b0, Cond.instanceMethod yJx4a65c_fastRemove_b59b0, Cond.selects RJx4a65c yJx4a65c_fastRemove_b59b0 yJx4a65c_fastRemove_b59b0, Cond.code yJx4a65c_fastRemove_b59b0 cJx4a65c_fastRemove_b59b0 4 none, Cond.methodLink RJx4a65c 112 arraycopyName, Cond.methodLink RX7 82 yJx4a65c_add_7a177]
def wsL_law0_r38 : List Cond := [Cond.instanceMethod yJx4a65c_add_7a177, Cond.selects RJx4a65c yJx4a65c_add_7a177 yJx4a65c_add_7a177, Cond.code yJx4a65c_add_7a177 cJx4a65c_add_7a177 5 none, Cond.methodLink RJx4a65c 135 yJx4a65c_rangeCheckForAdd_d00df, Cond.instanceMethod yJx4a65c_rangeCheckForAdd_d00df, Cond.selects RJx4a65c yJx4a65c_rangeCheckForAdd_d00df yJx4a65c_rangeCheckForAdd_d00df, Cond.code yJx4a65c_rangeCheckForAdd_d00df cJx4a65c_rangeCheckForAdd_d00df 2 none, Cond.methodLink RL 150 yX9_turn, Cond.instanceMethod yX9_turn, Cond.selects RX9 yX9_turn yX9_turn, Cond.code yX9_turn cX9_turn 3 (some .boolean), Cond.fieldLink RX9 175 "PinnaceView$Rule" "isOn" "Z", Cond.methodLink RL 153 yX9_takeAway, Cond.instanceMethod yX9_takeAway, Cond.selects RX9 yX9_takeAway yX9_takeAway, Cond.code yX9_takeAway cX9_takeAway 3 (some .int), Cond.methodLink RX9 100 yX7_remove, Cond.instanceMethod yX7_remove, Cond.selects RX7 yX7_remove yX7_remove, Cond.code yX7_remove cX7_remove 3 (some .int), Cond.methodLink RX7 67 yX7_markGone, Cond.static yX7_markGone, Cond.code yX7_markGone cX7_markGone 3 none]
def wsL_law0 : List Cond := (wsL_law0_r1 ++ (wsL_law0_r2 ++ (wsL_law0_r3 ++ (wsL_law0_r4 ++ (wsL_law0_r5 ++ (wsL_law0_r6 ++ (wsL_law0_r7 ++ (wsL_law0_r8 ++ (wsL_law0_r9 ++ (wsL_law0_r10 ++ (wsL_law0_r11 ++ (wsL_law0_r12 ++ (wsL_law0_r13 ++ (wsL_law0_r14 ++ (wsL_law0_r15 ++ (wsL_law0_r16 ++ (wsL_law0_r17 ++ (wsL_law0_r18 ++ (wsL_law0_r19 ++ (wsL_law0_r20 ++ (wsL_law0_r21 ++ (wsL_law0_r22 ++ (wsL_law0_r23 ++ (wsL_law0_r24 ++ (wsL_law0_r25 ++ (wsL_law0_r26 ++ (wsL_law0_r27 ++ (wsL_law0_r28 ++ (wsL_law0_r29 ++ (wsL_law0_r30 ++ (wsL_law0_r31 ++ (wsL_law0_r32 ++ (wsL_law0_r33 ++ (wsL_law0_r34 ++ (wsL_law0_r35 ++ (wsL_law0_r36 ++ (wsL_law0_r37 ++ wsL_law0_r38))))))))))))))))))))))))))))))))))))) ++ wsX90 ++ wsJx4a65c0 ++ wsX40 ++ wsX60 ++ wsX70 ++ wsX30 ++ wsX10 ++ wsX20 ++ wsX00 ++ wsX80 ++ wsX50 ++ ([] : List Cond)
/-- every word that the methods need, in one list -/
abbrev WA : List Cond := wsL_law0

theorem goodA_app {a b : List Cond} (ha : ∀ w ∈ a, goodWord w = true) (hb : ∀ w ∈ b, goodWord w = true) : ∀ w ∈ a ++ b, goodWord w = true := fun w h => (List.mem_append.mp h).elim (ha w) (hb w)
theorem inA_r1 : ∀ w ∈ wsL_law0_r1, w ∈ WA := fun _ h => List.mem_append_left _ (List.mem_append_left _ (List.mem_append_left _ (List.mem_append_left _ (List.mem_append_left _ (List.mem_append_left _ (List.mem_append_left _ (List.mem_append_left _ (List.mem_append_left _ (List.mem_append_left _ (List.mem_append_left _ (List.mem_append_left _ (List.mem_append_left _ h))))))))))))
theorem gdA_r1 : ∀ w ∈ wsL_law0_r1, goodWord w = true := List.all_eq_true.mp (by decide +kernel)
theorem wm0 : Cond.classLink RL 22 RX9 ∈ WA := inA_r1 _ (List.mem_of_getElem? (i := 0) rfl)
theorem wm1 : Cond.instantiable RX9 6 ∈ WA := inA_r1 _ (List.mem_of_getElem? (i := 1) rfl)
theorem wm2 : Cond.initialized RX9 ∈ WA := inA_r1 _ (List.mem_of_getElem? (i := 2) rfl)
theorem wm3 : Cond.arrayClass .int ∈ WA := inA_r1 _ (List.mem_of_getElem? (i := 3) rfl)
theorem wm4 : Cond.methodLink RL 104 yX9_init ∈ WA := inA_r1 _ (List.mem_of_getElem? (i := 4) rfl)
theorem wm5 : Cond.instanceMethod yX9_init ∈ WA := inA_r1 _ (List.mem_of_getElem? (i := 5) rfl)
theorem wm6 : Cond.code yX9_init cX9_init 1 none ∈ WA := inA_r1 _ (List.mem_of_getElem? (i := 6) rfl)
theorem wm7 : Cond.methodLink RX9 1 objectInit ∈ WA := inA_r1 _ (List.mem_of_getElem? (i := 7) rfl)
theorem wm8 : Cond.instanceMethod objectInit ∈ WA := inA_r1 _ (List.mem_of_getElem? (i := 8) rfl)
theorem wm9 : Cond.code objectInit ⟨#[0xb1]⟩ 1 none ∈ WA := inA_r1 _ (List.mem_of_getElem? (i := 9) rfl)
theorem wm10 : Cond.fieldLink RX9 13 "PinnaceView" "tree" "LPinnaceView$Tree;" ∈ WA := inA_r1 _ (List.mem_of_getElem? (i := 10) rfl)
theorem wm11 : Cond.classLink RX9 19 RJx4a65c ∈ WA := inA_r1 _ (List.mem_of_getElem? (i := 11) rfl)
theorem wm12 : Cond.instantiable RJx4a65c 3 ∈ WA := inA_r1 _ (List.mem_of_getElem? (i := 12) rfl)
theorem wm13 : Cond.initialized RJx4a65c ∈ WA := inA_r1 _ (List.mem_of_getElem? (i := 13) rfl)
theorem wm14 : Cond.fieldLink RX9 22 "PinnaceView" "ruleList" "Ljava/util/ArrayList;" ∈ WA := inA_r1 _ (List.mem_of_getElem? (i := 14) rfl)
theorem wm15 : Cond.classLink RX9 26 RX4 ∈ WA := inA_r1 _ (List.mem_of_getElem? (i := 15) rfl)
theorem wm16 : Cond.instantiable RX4 6 ∈ WA := inA_r1 _ (List.mem_of_getElem? (i := 16) rfl)
theorem wm17 : Cond.initialized RX4 ∈ WA := inA_r1 _ (List.mem_of_getElem? (i := 17) rfl)
theorem wm18 : Cond.fieldLink RX9 29 "PinnaceView" "page" "LPinnaceView$Page;" ∈ WA := inA_r1 _ (List.mem_of_getElem? (i := 18) rfl)
theorem wm19 : Cond.fieldLink RX9 33 "PinnaceView$Page" "styles" "LPinnaceView$Styles;" ∈ WA := inA_r1 _ (List.mem_of_getElem? (i := 19) rfl)
theorem wm20 : Cond.fieldLink RX9 37 "PinnaceView" "styles" "LPinnaceView$Styles;" ∈ WA := inA_r1 _ (List.mem_of_getElem? (i := 20) rfl)
theorem wm21 : Cond.classLink RX9 38 RX6 ∈ WA := inA_r1 _ (List.mem_of_getElem? (i := 21) rfl)
theorem wm22 : Cond.instantiable RX6 3 ∈ WA := inA_r1 _ (List.mem_of_getElem? (i := 22) rfl)
theorem wm23 : Cond.initialized RX6 ∈ WA := inA_r1 _ (List.mem_of_getElem? (i := 23) rfl)
theorem inA_r2 : ∀ w ∈ wsL_law0_r2, w ∈ WA := fun _ h => List.mem_append_left _ (List.mem_append_left _ (List.mem_append_left _ (List.mem_append_left _ (List.mem_append_left _ (List.mem_append_left _ (List.mem_append_left _ (List.mem_append_left _ (List.mem_append_left _ (List.mem_append_left _ (List.mem_append_left _ (List.mem_append_left _ (List.mem_append_right _ (List.mem_append_left _ h)))))))))))))
theorem gdA_r2 : ∀ w ∈ wsL_law0_r2, goodWord w = true := List.all_eq_true.mp (by decide +kernel)
theorem wm24 : Cond.fieldLink RX9 41 "PinnaceView" "stylesIfTurned" "LPinnaceView$Styles;" ∈ WA := inA_r2 _ (List.mem_of_getElem? (i := 0) rfl)
theorem wm25 : Cond.fieldLink RX9 44 "PinnaceView" "view" "I" ∈ WA := inA_r2 _ (List.mem_of_getElem? (i := 1) rfl)
theorem wm26 : Cond.methodLink RX9 7 yX7_withRoot ∈ WA := inA_r2 _ (List.mem_of_getElem? (i := 2) rfl)
theorem wm27 : Cond.static yX7_withRoot ∈ WA := inA_r2 _ (List.mem_of_getElem? (i := 3) rfl)
theorem wm28 : Cond.initialized RX7 ∈ WA := inA_r2 _ (List.mem_of_getElem? (i := 4) rfl)
theorem wm29 : Cond.code yX7_withRoot cX7_withRoot 1 (some (.object "PinnaceView$Tree")) ∈ WA := inA_r2 _ (List.mem_of_getElem? (i := 5) rfl)
theorem wm30 : Cond.classLink RX7 13 RX7 ∈ WA := inA_r2 _ (List.mem_of_getElem? (i := 6) rfl)
theorem wm31 : Cond.instantiable RX7 3 ∈ WA := inA_r2 _ (List.mem_of_getElem? (i := 7) rfl)
theorem wm32 : Cond.fieldLink RX7 12 "PinnaceView$Tree" "nodes" "Ljava/util/ArrayList;" ∈ WA := inA_r2 _ (List.mem_of_getElem? (i := 8) rfl)
theorem wm33 : Cond.fieldLink RX7 26 "PinnaceView$Tree" "root" "LPinnaceView$Node;" ∈ WA := inA_r2 _ (List.mem_of_getElem? (i := 9) rfl)
theorem wm34 : Cond.fieldLink RX7 18 "PinnaceView$Tree" "order" "Ljava/util/ArrayList;" ∈ WA := inA_r2 _ (List.mem_of_getElem? (i := 10) rfl)
theorem wm35 : Cond.methodLink RX7 30 yX7_init ∈ WA := inA_r2 _ (List.mem_of_getElem? (i := 11) rfl)
theorem wm36 : Cond.instanceMethod yX7_init ∈ WA := inA_r2 _ (List.mem_of_getElem? (i := 12) rfl)
theorem wm37 : Cond.code yX7_init cX7_init 1 none ∈ WA := inA_r2 _ (List.mem_of_getElem? (i := 13) rfl)
theorem wm38 : Cond.methodLink RX7 3 objectInit ∈ WA := inA_r2 _ (List.mem_of_getElem? (i := 14) rfl)
theorem wm39 : Cond.classLink RX7 9 RJx4a65c ∈ WA := inA_r2 _ (List.mem_of_getElem? (i := 15) rfl)
theorem wm40 : Cond.classLink RX7 21 RX3 ∈ WA := inA_r2 _ (List.mem_of_getElem? (i := 16) rfl)
theorem wm41 : Cond.instantiable RX3 14 ∈ WA := inA_r2 _ (List.mem_of_getElem? (i := 17) rfl)
theorem wm42 : Cond.initialized RX3 ∈ WA := inA_r2 _ (List.mem_of_getElem? (i := 18) rfl)
theorem wm43 : Cond.methodLink RX7 11 yJx4a65c_init_da8c8 ∈ WA := inA_r2 _ (List.mem_of_getElem? (i := 19) rfl)
theorem wm44 : Cond.instanceMethod yJx4a65c_init_da8c8 ∈ WA := inA_r2 _ (List.mem_of_getElem? (i := 20) rfl)
theorem wm45 : Cond.code yJx4a65c_init_da8c8 cJx4a65c_init_da8c8 1 none ∈ WA := inA_r2 _ (List.mem_of_getElem? (i := 21) rfl)
theorem wm46 : Cond.fieldLink RJx4a65c 39 "java/util/ArrayList" "DEFAULTCAPACITY_EMPTY_ELEMENTDATA" "[Ljava/lang/Object;" ∈ WA := inA_r2 _ (List.mem_of_getElem? (i := 22) rfl)
theorem wm47 : Cond.fieldLink RJx4a65c 9 "java/util/ArrayList" "elementData" "[Ljava/lang/Object;" ∈ WA := inA_r2 _ (List.mem_of_getElem? (i := 23) rfl)
theorem inA_r3 : ∀ w ∈ wsL_law0_r3, w ∈ WA := fun _ h => List.mem_append_left _ (List.mem_append_left _ (List.mem_append_left _ (List.mem_append_left _ (List.mem_append_left _ (List.mem_append_left _ (List.mem_append_left _ (List.mem_append_left _ (List.mem_append_left _ (List.mem_append_left _ (List.mem_append_left _ (List.mem_append_left _ (List.mem_append_right _ (List.mem_append_right _ (List.mem_append_left _ h))))))))))))))
theorem gdA_r3 : ∀ w ∈ wsL_law0_r3, goodWord w = true := List.all_eq_true.mp (by decide +kernel)
theorem wm48 : Cond.methodLink RJx4a65c 1 yJxc12de_init_da8c8 ∈ WA := inA_r3 _ (List.mem_of_getElem? (i := 0) rfl)
theorem wm49 : Cond.instanceMethod yJxc12de_init_da8c8 ∈ WA := inA_r3 _ (List.mem_of_getElem? (i := 1) rfl)
theorem wm50 : Cond.initialized RJxc12de ∈ WA := inA_r3 _ (List.mem_of_getElem? (i := 2) rfl)
theorem wm51 : Cond.code yJxc12de_init_da8c8 cJxc12de_init_da8c8 1 none ∈ WA := inA_r3 _ (List.mem_of_getElem? (i := 3) rfl)
theorem wm52 : Cond.fieldLink RJxc12de 7 "java/util/AbstractList" "modCount" "I" ∈ WA := inA_r3 _ (List.mem_of_getElem? (i := 4) rfl)
theorem wm53 : Cond.methodLink RJxc12de 1 yJxa1e45_init_da8c8 ∈ WA := inA_r3 _ (List.mem_of_getElem? (i := 5) rfl)
theorem wm54 : Cond.instanceMethod yJxa1e45_init_da8c8 ∈ WA := inA_r3 _ (List.mem_of_getElem? (i := 6) rfl)
theorem wm55 : Cond.initialized RJxa1e45 ∈ WA := inA_r3 _ (List.mem_of_getElem? (i := 7) rfl)
theorem wm56 : Cond.code yJxa1e45_init_da8c8 cJxa1e45_init_da8c8 1 none ∈ WA := inA_r3 _ (List.mem_of_getElem? (i := 8) rfl)
theorem wm57 : Cond.methodLink RJxa1e45 1 objectInit ∈ WA := inA_r3 _ (List.mem_of_getElem? (i := 9) rfl)
theorem wm58 : Cond.methodLink RX7 23 yX3_init ∈ WA := inA_r3 _ (List.mem_of_getElem? (i := 10) rfl)
theorem wm59 : Cond.instanceMethod yX3_init ∈ WA := inA_r3 _ (List.mem_of_getElem? (i := 11) rfl)
theorem wm60 : Cond.code yX3_init cX3_init 5 none ∈ WA := inA_r3 _ (List.mem_of_getElem? (i := 12) rfl)
theorem wm61 : Cond.methodLink RX3 3 objectInit ∈ WA := inA_r3 _ (List.mem_of_getElem? (i := 13) rfl)
theorem wm62 : Cond.classLink RX3 9 RJx4a65c ∈ WA := inA_r3 _ (List.mem_of_getElem? (i := 14) rfl)
theorem wm63 : Cond.fieldLink RX3 12 "PinnaceView$Node" "children" "Ljava/util/ArrayList;" ∈ WA := inA_r3 _ (List.mem_of_getElem? (i := 15) rfl)
theorem wm64 : Cond.classLink RX3 18 RX1 ∈ WA := inA_r3 _ (List.mem_of_getElem? (i := 16) rfl)
theorem wm65 : Cond.instantiable RX1 5 ∈ WA := inA_r3 _ (List.mem_of_getElem? (i := 17) rfl)
theorem wm66 : Cond.initialized RX1 ∈ WA := inA_r3 _ (List.mem_of_getElem? (i := 18) rfl)
theorem wm67 : Cond.fieldLink RX3 21 "PinnaceView$Node" "flow" "LPinnaceView$Flow;" ∈ WA := inA_r3 _ (List.mem_of_getElem? (i := 19) rfl)
theorem wm68 : Cond.fieldLink RX3 25 "PinnaceView$Node" "parent" "LPinnaceView$Node;" ∈ WA := inA_r3 _ (List.mem_of_getElem? (i := 20) rfl)
theorem wm69 : Cond.fieldLink RX3 29 "PinnaceView$Node" "words" "I" ∈ WA := inA_r3 _ (List.mem_of_getElem? (i := 21) rfl)
theorem wm70 : Cond.fieldLink RX3 33 "PinnaceView$Node" "name" "I" ∈ WA := inA_r3 _ (List.mem_of_getElem? (i := 22) rfl)
theorem wm71 : Cond.fieldLink RX3 36 "PinnaceView$Node" "classes" "I" ∈ WA := inA_r3 _ (List.mem_of_getElem? (i := 23) rfl)
theorem inA_r4 : ∀ w ∈ wsL_law0_r4, w ∈ WA := fun _ h => List.mem_append_left _ (List.mem_append_left _ (List.mem_append_left _ (List.mem_append_left _ (List.mem_append_left _ (List.mem_append_left _ (List.mem_append_left _ (List.mem_append_left _ (List.mem_append_left _ (List.mem_append_left _ (List.mem_append_left _ (List.mem_append_left _ (List.mem_append_right _ (List.mem_append_right _ (List.mem_append_right _ (List.mem_append_left _ h)))))))))))))))
theorem gdA_r4 : ∀ w ∈ wsL_law0_r4, goodWord w = true := List.all_eq_true.mp (by decide +kernel)
theorem wm72 : Cond.fieldLink RX3 39 "PinnaceView$Node" "offset" "I" ∈ WA := inA_r4 _ (List.mem_of_getElem? (i := 0) rfl)
theorem wm73 : Cond.fieldLink RX3 42 "PinnaceView$Node" "isGone" "Z" ∈ WA := inA_r4 _ (List.mem_of_getElem? (i := 1) rfl)
theorem wm74 : Cond.fieldLink RX3 46 "PinnaceView$Node" "number" "I" ∈ WA := inA_r4 _ (List.mem_of_getElem? (i := 2) rfl)
theorem wm75 : Cond.fieldLink RX3 49 "PinnaceView$Node" "isText" "Z" ∈ WA := inA_r4 _ (List.mem_of_getElem? (i := 3) rfl)
theorem wm76 : Cond.fieldLink RX3 52 "PinnaceView$Node" "tag" "I" ∈ WA := inA_r4 _ (List.mem_of_getElem? (i := 4) rfl)
theorem wm77 : Cond.fieldLink RX3 55 "PinnaceView$Node" "letters" "[I" ∈ WA := inA_r4 _ (List.mem_of_getElem? (i := 5) rfl)
theorem wm78 : Cond.fieldLink RX3 59 "PinnaceView$Node" "declared" "[I" ∈ WA := inA_r4 _ (List.mem_of_getElem? (i := 6) rfl)
theorem wm79 : Cond.classLink RX3 62 RX2 ∈ WA := inA_r4 _ (List.mem_of_getElem? (i := 7) rfl)
theorem wm80 : Cond.instantiable RX2 16 ∈ WA := inA_r4 _ (List.mem_of_getElem? (i := 8) rfl)
theorem wm81 : Cond.initialized RX2 ∈ WA := inA_r4 _ (List.mem_of_getElem? (i := 9) rfl)
theorem wm82 : Cond.fieldLink RX3 67 "PinnaceView$Node" "layout" "LPinnaceView$Layout;" ∈ WA := inA_r4 _ (List.mem_of_getElem? (i := 10) rfl)
theorem wm83 : Cond.methodLink RX3 11 yJx4a65c_init_da8c8 ∈ WA := inA_r4 _ (List.mem_of_getElem? (i := 11) rfl)
theorem wm84 : Cond.instanceMethod yX1_init ∈ WA := inA_r4 _ (List.mem_of_getElem? (i := 12) rfl)
theorem wm85 : Cond.code yX1_init cX1_init 1 none ∈ WA := inA_r4 _ (List.mem_of_getElem? (i := 13) rfl)
theorem wm86 : Cond.methodLink RX1 1 objectInit ∈ WA := inA_r4 _ (List.mem_of_getElem? (i := 14) rfl)
theorem wm87 : Cond.fieldLink RX1 7 "PinnaceView$Flow" "room" "I" ∈ WA := inA_r4 _ (List.mem_of_getElem? (i := 15) rfl)
theorem wm88 : Cond.fieldLink RX1 13 "PinnaceView$Flow" "cursor" "I" ∈ WA := inA_r4 _ (List.mem_of_getElem? (i := 16) rfl)
theorem wm89 : Cond.fieldLink RX1 16 "PinnaceView$Flow" "gap" "I" ∈ WA := inA_r4 _ (List.mem_of_getElem? (i := 17) rfl)
theorem wm90 : Cond.fieldLink RX1 19 "PinnaceView$Flow" "wish" "I" ∈ WA := inA_r4 _ (List.mem_of_getElem? (i := 18) rfl)
theorem wm91 : Cond.fieldLink RX1 22 "PinnaceView$Flow" "waiting" "I" ∈ WA := inA_r4 _ (List.mem_of_getElem? (i := 19) rfl)
theorem wm92 : Cond.methodLink RX3 64 yX2_init ∈ WA := inA_r4 _ (List.mem_of_getElem? (i := 20) rfl)
theorem wm93 : Cond.instanceMethod yX2_init ∈ WA := inA_r4 _ (List.mem_of_getElem? (i := 21) rfl)
theorem wm94 : Cond.code yX2_init cX2_init 2 none ∈ WA := inA_r4 _ (List.mem_of_getElem? (i := 22) rfl)
theorem wm95 : Cond.methodLink RX2 3 objectInit ∈ WA := inA_r4 _ (List.mem_of_getElem? (i := 23) rfl)
theorem inA_r5 : ∀ w ∈ wsL_law0_r5, w ∈ WA := fun _ h => List.mem_append_left _ (List.mem_append_left _ (List.mem_append_left _ (List.mem_append_left _ (List.mem_append_left _ (List.mem_append_left _ (List.mem_append_left _ (List.mem_append_left _ (List.mem_append_left _ (List.mem_append_left _ (List.mem_append_left _ (List.mem_append_left _ (List.mem_append_right _ (List.mem_append_right _ (List.mem_append_right _ (List.mem_append_right _ (List.mem_append_left _ h))))))))))))))))
theorem gdA_r5 : ∀ w ∈ wsL_law0_r5, goodWord w = true := List.all_eq_true.mp (by decide +kernel)
theorem wm96 : Cond.fieldLink RX2 9 "PinnaceView$Layout" "sort" "I" ∈ WA := inA_r5 _ (List.mem_of_getElem? (i := 0) rfl)
theorem wm97 : Cond.fieldLink RX2 15 "PinnaceView$Layout" "home" "LPinnaceView$Node;" ∈ WA := inA_r5 _ (List.mem_of_getElem? (i := 1) rfl)
theorem wm98 : Cond.fieldLink RX2 19 "PinnaceView$Layout" "inset" "I" ∈ WA := inA_r5 _ (List.mem_of_getElem? (i := 2) rfl)
theorem wm99 : Cond.fieldLink RX2 22 "PinnaceView$Layout" "edge" "I" ∈ WA := inA_r5 _ (List.mem_of_getElem? (i := 3) rfl)
theorem wm100 : Cond.fieldLink RX2 25 "PinnaceView$Layout" "isScrolling" "Z" ∈ WA := inA_r5 _ (List.mem_of_getElem? (i := 4) rfl)
theorem wm101 : Cond.fieldLink RX2 29 "PinnaceView$Layout" "left" "I" ∈ WA := inA_r5 _ (List.mem_of_getElem? (i := 5) rfl)
theorem wm102 : Cond.fieldLink RX2 32 "PinnaceView$Layout" "top" "I" ∈ WA := inA_r5 _ (List.mem_of_getElem? (i := 6) rfl)
theorem wm103 : Cond.fieldLink RX2 35 "PinnaceView$Layout" "wide" "I" ∈ WA := inA_r5 _ (List.mem_of_getElem? (i := 7) rfl)
theorem wm104 : Cond.fieldLink RX2 38 "PinnaceView$Layout" "high" "I" ∈ WA := inA_r5 _ (List.mem_of_getElem? (i := 8) rfl)
theorem wm105 : Cond.fieldLink RX2 41 "PinnaceView$Layout" "reach" "I" ∈ WA := inA_r5 _ (List.mem_of_getElem? (i := 9) rfl)
theorem wm106 : Cond.fieldLink RX2 44 "PinnaceView$Layout" "lineCount" "I" ∈ WA := inA_r5 _ (List.mem_of_getElem? (i := 10) rfl)
theorem wm107 : Cond.fieldLink RX2 47 "PinnaceView$Layout" "shiftX" "I" ∈ WA := inA_r5 _ (List.mem_of_getElem? (i := 11) rfl)
theorem wm108 : Cond.fieldLink RX2 50 "PinnaceView$Layout" "shiftY" "I" ∈ WA := inA_r5 _ (List.mem_of_getElem? (i := 12) rfl)
theorem wm109 : Cond.fieldLink RX2 53 "PinnaceView$Layout" "movedUp" "I" ∈ WA := inA_r5 _ (List.mem_of_getElem? (i := 13) rfl)
theorem wm110 : Cond.methodLink RX2 56 Lib.Math.max.name ∈ WA := inA_r5 _ (List.mem_of_getElem? (i := 14) rfl)
theorem wm111 : Cond.static Lib.Math.max.name ∈ WA := inA_r5 _ (List.mem_of_getElem? (i := 15) rfl)
theorem wm112 : Cond.initialized "java/lang/Math" ∈ WA := inA_r5 _ (List.mem_of_getElem? (i := 16) rfl)
theorem wm113 : Cond.code Lib.Math.max.name Lib.Math.max.code 2 (some .int) ∈ WA := inA_r5 _ (List.mem_of_getElem? (i := 17) rfl)
theorem wm114 : Cond.fieldLink RX2 62 "PinnaceView$Layout" "wordLefts" "[I" ∈ WA := inA_r5 _ (List.mem_of_getElem? (i := 18) rfl)
theorem wm115 : Cond.fieldLink RX2 66 "PinnaceView$Layout" "wordTops" "[I" ∈ WA := inA_r5 _ (List.mem_of_getElem? (i := 19) rfl)
theorem wm116 : Cond.methodLink RX7 31 yJx4a65c_add_9ea2d ∈ WA := inA_r5 _ (List.mem_of_getElem? (i := 20) rfl)
theorem wm117 : Cond.instanceMethod yJx4a65c_add_9ea2d ∈ WA := inA_r5 _ (List.mem_of_getElem? (i := 21) rfl)
theorem wm118 : Cond.selects RJx4a65c yJx4a65c_add_9ea2d yJx4a65c_add_9ea2d ∈ WA := inA_r5 _ (List.mem_of_getElem? (i := 22) rfl)
theorem wm119 : Cond.code yJx4a65c_add_9ea2d cJx4a65c_add_9ea2d 2 (some .boolean) ∈ WA := inA_r5 _ (List.mem_of_getElem? (i := 23) rfl)
theorem inA_r6 : ∀ w ∈ wsL_law0_r6, w ∈ WA := fun _ h => List.mem_append_left _ (List.mem_append_left _ (List.mem_append_left _ (List.mem_append_left _ (List.mem_append_left _ (List.mem_append_left _ (List.mem_append_left _ (List.mem_append_left _ (List.mem_append_left _ (List.mem_append_left _ (List.mem_append_left _ (List.mem_append_left _ (List.mem_append_right _ (List.mem_append_right _ (List.mem_append_right _ (List.mem_append_right _ (List.mem_append_right _ (List.mem_append_left _ h)))))))))))))))))
theorem gdA_r6 : ∀ w ∈ wsL_law0_r6, goodWord w = true := List.all_eq_true.mp (by decide +kernel)
theorem wm120 : Cond.fieldLink RJx4a65c 63 "java/util/ArrayList" "modCount" "I" ∈ WA := inA_r6 _ (List.mem_of_getElem? (i := 0) rfl)
theorem wm121 : Cond.sameField "java/util/ArrayList" "java/util/AbstractList" "modCount" "I" ∈ WA := inA_r6 _ (List.mem_of_getElem? (i := 1) rfl)
theorem wm122 : Cond.fieldLink RJx4a65c 48 "java/util/ArrayList" "size" "I" ∈ WA := inA_r6 _ (List.mem_of_getElem? (i := 2) rfl)
theorem wm123 : Cond.methodLink RJx4a65c 131 yJx4a65c_add_72be8 ∈ WA := inA_r6 _ (List.mem_of_getElem? (i := 3) rfl)
theorem wm124 : Cond.instanceMethod yJx4a65c_add_72be8 ∈ WA := inA_r6 _ (List.mem_of_getElem? (i := 4) rfl)
theorem wm125 : Cond.selects RJx4a65c yJx4a65c_add_72be8 yJx4a65c_add_72be8 ∈ WA := inA_r6 _ (List.mem_of_getElem? (i := 5) rfl)
theorem wm126 : Cond.code yJx4a65c_add_72be8 cJx4a65c_add_72be8 4 none ∈ WA := inA_r6 _ (List.mem_of_getElem? (i := 6) rfl)
theorem wm127 : Cond.methodLink RJx4a65c 129 yJx4a65c_grow_d5877 ∈ WA := inA_r6 _ (List.mem_of_getElem? (i := 7) rfl)
theorem wm128 : Cond.instanceMethod yJx4a65c_grow_d5877 ∈ WA := inA_r6 _ (List.mem_of_getElem? (i := 8) rfl)
theorem wm129 : Cond.selects RJx4a65c yJx4a65c_grow_d5877 yJx4a65c_grow_d5877 ∈ WA := inA_r6 _ (List.mem_of_getElem? (i := 9) rfl)
theorem wm130 : Cond.code yJx4a65c_grow_d5877 cJx4a65c_grow_d5877 1 (some (.array (.object "java/lang/Object"))) ∈ WA := inA_r6 _ (List.mem_of_getElem? (i := 10) rfl)
theorem wm131 : Cond.methodLink RJx4a65c 69 yJx4a65c_grow_92f84 ∈ WA := inA_r6 _ (List.mem_of_getElem? (i := 11) rfl)
theorem wm132 : Cond.instanceMethod yJx4a65c_grow_92f84 ∈ WA := inA_r6 _ (List.mem_of_getElem? (i := 12) rfl)
theorem wm133 : Cond.selects RJx4a65c yJx4a65c_grow_92f84 yJx4a65c_grow_92f84 ∈ WA := inA_r6 _ (List.mem_of_getElem? (i := 13) rfl)
theorem wm134 : Cond.code yJx4a65c_grow_92f84 cJx4a65c_grow_92f84 4 (some (.array (.object "java/lang/Object"))) ∈ WA := inA_r6 _ (List.mem_of_getElem? (i := 14) rfl)
theorem wm135 : Cond.methodLink RJx4a65c 79 Lib.Math.max.name ∈ WA := inA_r6 _ (List.mem_of_getElem? (i := 15) rfl)
theorem wm136 : Cond.classLink RJx4a65c 7 "java/lang/Object" ∈ WA := inA_r6 _ (List.mem_of_getElem? (i := 16) rfl)
theorem wm137 : Cond.methodLink RJx4a65c 73 yJ8_newLength_cabcc ∈ WA := inA_r6 _ (List.mem_of_getElem? (i := 17) rfl)
theorem wm138 : Cond.static yJ8_newLength_cabcc ∈ WA := inA_r6 _ (List.mem_of_getElem? (i := 18) rfl)
theorem wm139 : Cond.initialized RJ8 ∈ WA := inA_r6 _ (List.mem_of_getElem? (i := 19) rfl)
theorem wm140 : Cond.code yJ8_newLength_cabcc cJ8_newLength_cabcc 4 (some .int) ∈ WA := inA_r6 _ (List.mem_of_getElem? (i := 20) rfl)
theorem wm141 : Cond.methodLink RJ8 194 Lib.Math.max.name ∈ WA := inA_r6 _ (List.mem_of_getElem? (i := 21) rfl)
theorem wm142 : Cond.constant RJ8 200 (2147483639) ∈ WA := inA_r6 _ (List.mem_of_getElem? (i := 22) rfl)
theorem wm143 : Cond.methodLink RJ8 201 yJ8_hugeLength_7cf53 ∈ WA := inA_r6 _ (List.mem_of_getElem? (i := 23) rfl)
theorem inA_r7 : ∀ w ∈ wsL_law0_r7, w ∈ WA := fun _ h => List.mem_append_left _ (List.mem_append_left _ (List.mem_append_left _ (List.mem_append_left _ (List.mem_append_left _ (List.mem_append_left _ (List.mem_append_left _ (List.mem_append_left _ (List.mem_append_left _ (List.mem_append_left _ (List.mem_append_left _ (List.mem_append_left _ (List.mem_append_right _ (List.mem_append_right _ (List.mem_append_right _ (List.mem_append_right _ (List.mem_append_right _ (List.mem_append_right _ (List.mem_append_left _ h))))))))))))))))))
theorem gdA_r7 : ∀ w ∈ wsL_law0_r7, goodWord w = true := List.all_eq_true.mp (by decide +kernel)
theorem wm144 : Cond.static yJ8_hugeLength_7cf53 ∈ WA := inA_r7 _ (List.mem_of_getElem? (i := 0) rfl)
theorem wm145 : Cond.code yJ8_hugeLength_7cf53 cJ8_hugeLength_7cf53 3 (some .int) ∈ WA := inA_r7 _ (List.mem_of_getElem? (i := 1) rfl)
theorem wm146 : Cond.methodLink RJx4a65c 66 yJ7_copyOf_1904c ∈ WA := inA_r7 _ (List.mem_of_getElem? (i := 2) rfl)
theorem wm147 : Cond.static yJ7_copyOf_1904c ∈ WA := inA_r7 _ (List.mem_of_getElem? (i := 3) rfl)
theorem wm148 : Cond.initialized RJ7 ∈ WA := inA_r7 _ (List.mem_of_getElem? (i := 4) rfl)
theorem wm149 : Cond.code yJ7_copyOf_1904c cJ7_copyOf_1904c 2 (some (.array (.object "java/lang/Object"))) ∈ WA := inA_r7 _ (List.mem_of_getElem? (i := 5) rfl)
theorem wm150 : Cond.methodLink RJ7 86 ⟨"java/lang/Object", "getClass", "()Ljava/lang/Class;"⟩ ∈ WA := inA_r7 _ (List.mem_of_getElem? (i := 6) rfl)
theorem wm151 : Cond.selects "[Ljava/lang/Object;" ⟨"java/lang/Object", "getClass", "()Ljava/lang/Class;"⟩ ⟨"java/lang/Object", "getClass", "()Ljava/lang/Class;"⟩ ∈ WA := inA_r7 _ (List.mem_of_getElem? (i := 7) rfl)
theorem wm152 : Cond.instanceMethod ⟨"java/lang/Object", "getClass", "()Ljava/lang/Class;"⟩ ∈ WA := inA_r7 _ (List.mem_of_getElem? (i := 8) rfl)
theorem wm153 : Cond.native ⟨"java/lang/Object", "getClass", "()Ljava/lang/Class;"⟩ ∈ WA := inA_r7 _ (List.mem_of_getElem? (i := 9) rfl)
theorem wm154 : Cond.methodLink RJ7 300 yJ7_copyOf_6403c ∈ WA := inA_r7 _ (List.mem_of_getElem? (i := 10) rfl)
theorem wm155 : Cond.static yJ7_copyOf_6403c ∈ WA := inA_r7 _ (List.mem_of_getElem? (i := 11) rfl)
theorem wm156 : Cond.code yJ7_copyOf_6403c cJ7_copyOf_6403c 4 (some (.array (.object "java/lang/Object"))) ∈ WA := inA_r7 _ (List.mem_of_getElem? (i := 12) rfl)
theorem wm157 : Cond.classLink RJ7 110 "[Ljava/lang/Object;" ∈ WA := inA_r7 _ (List.mem_of_getElem? (i := 13) rfl)
theorem wm158 : Cond.classLink RJ7 2 "java/lang/Object" ∈ WA := inA_r7 _ (List.mem_of_getElem? (i := 14) rfl)
theorem wm159 : Cond.methodLink RJ7 304 Lib.Math.min.name ∈ WA := inA_r7 _ (List.mem_of_getElem? (i := 15) rfl)
theorem wm160 : Cond.static Lib.Math.min.name ∈ WA := inA_r7 _ (List.mem_of_getElem? (i := 16) rfl)
theorem wm161 : Cond.code Lib.Math.min.name Lib.Math.min.code 2 (some .int) ∈ WA := inA_r7 _ (List.mem_of_getElem? (i := 17) rfl)
theorem wm162 : Cond.methodLink RJ7 150 arraycopyName ∈ WA := inA_r7 _ (List.mem_of_getElem? (i := 18) rfl)
theorem wm163 : Cond.native arraycopyName ∈ WA := inA_r7 _ (List.mem_of_getElem? (i := 19) rfl)
theorem wm164 : Cond.static arraycopyName ∈ WA := inA_r7 _ (List.mem_of_getElem? (i := 20) rfl)
theorem wm165 : Cond.initialized "java/lang/System" ∈ WA := inA_r7 _ (List.mem_of_getElem? (i := 21) rfl)
theorem wm166 : Cond.methodLink RX9 21 yJx4a65c_init_da8c8 ∈ WA := inA_r7 _ (List.mem_of_getElem? (i := 22) rfl)
theorem wm167 : Cond.instanceMethod yX4_init ∈ WA := inA_r7 _ (List.mem_of_getElem? (i := 23) rfl)
theorem inA_r8 : ∀ w ∈ wsL_law0_r8, w ∈ WA := fun _ h => List.mem_append_left _ (List.mem_append_left _ (List.mem_append_left _ (List.mem_append_left _ (List.mem_append_left _ (List.mem_append_left _ (List.mem_append_left _ (List.mem_append_left _ (List.mem_append_left _ (List.mem_append_left _ (List.mem_append_left _ (List.mem_append_left _ (List.mem_append_right _ (List.mem_append_right _ (List.mem_append_right _ (List.mem_append_right _ (List.mem_append_right _ (List.mem_append_right _ (List.mem_append_right _ (List.mem_append_left _ h)))))))))))))))))))
theorem gdA_r8 : ∀ w ∈ wsL_law0_r8, goodWord w = true := List.all_eq_true.mp (by decide +kernel)
theorem wm168 : Cond.code yX4_init cX4_init 1 none ∈ WA := inA_r8 _ (List.mem_of_getElem? (i := 0) rfl)
theorem wm169 : Cond.methodLink RX4 3 objectInit ∈ WA := inA_r8 _ (List.mem_of_getElem? (i := 1) rfl)
theorem wm170 : Cond.classLink RX4 9 RX6 ∈ WA := inA_r8 _ (List.mem_of_getElem? (i := 2) rfl)
theorem wm171 : Cond.fieldLink RX4 12 "PinnaceView$Page" "styles" "LPinnaceView$Styles;" ∈ WA := inA_r8 _ (List.mem_of_getElem? (i := 3) rfl)
theorem wm172 : Cond.classLink RX4 18 RX0 ∈ WA := inA_r8 _ (List.mem_of_getElem? (i := 4) rfl)
theorem wm173 : Cond.instantiable RX0 10 ∈ WA := inA_r8 _ (List.mem_of_getElem? (i := 5) rfl)
theorem wm174 : Cond.initialized RX0 ∈ WA := inA_r8 _ (List.mem_of_getElem? (i := 6) rfl)
theorem wm175 : Cond.fieldLink RX4 21 "PinnaceView$Page" "floats" "LPinnaceView$Floats;" ∈ WA := inA_r8 _ (List.mem_of_getElem? (i := 7) rfl)
theorem wm176 : Cond.classLink RX4 25 RX8 ∈ WA := inA_r8 _ (List.mem_of_getElem? (i := 8) rfl)
theorem wm177 : Cond.instantiable RX8 7 ∈ WA := inA_r8 _ (List.mem_of_getElem? (i := 9) rfl)
theorem wm178 : Cond.initialized RX8 ∈ WA := inA_r8 _ (List.mem_of_getElem? (i := 10) rfl)
theorem wm179 : Cond.fieldLink RX4 28 "PinnaceView$Page" "waiting" "LPinnaceView$Waiting;" ∈ WA := inA_r8 _ (List.mem_of_getElem? (i := 11) rfl)
theorem wm180 : Cond.fieldLink RX4 32 "PinnaceView$Page" "laidWidth" "I" ∈ WA := inA_r8 _ (List.mem_of_getElem? (i := 12) rfl)
theorem wm181 : Cond.fieldLink RX4 36 "PinnaceView$Page" "lineCount" "I" ∈ WA := inA_r8 _ (List.mem_of_getElem? (i := 13) rfl)
theorem wm182 : Cond.fieldLink RX4 39 "PinnaceView$Page" "widthOfLines" "I" ∈ WA := inA_r8 _ (List.mem_of_getElem? (i := 14) rfl)
theorem wm183 : Cond.instanceMethod yX6_init ∈ WA := inA_r8 _ (List.mem_of_getElem? (i := 15) rfl)
theorem wm184 : Cond.code yX6_init cX6_init 1 none ∈ WA := inA_r8 _ (List.mem_of_getElem? (i := 16) rfl)
theorem wm185 : Cond.methodLink RX6 3 objectInit ∈ WA := inA_r8 _ (List.mem_of_getElem? (i := 17) rfl)
theorem wm186 : Cond.classLink RX6 9 "[[I" ∈ WA := inA_r8 _ (List.mem_of_getElem? (i := 18) rfl)
theorem wm187 : Cond.fieldLink RX6 11 "PinnaceView$Styles" "values" "[[I" ∈ WA := inA_r8 _ (List.mem_of_getElem? (i := 19) rfl)
theorem wm188 : Cond.fieldLink RX6 16 "PinnaceView$Styles" "reasons" "[[I" ∈ WA := inA_r8 _ (List.mem_of_getElem? (i := 20) rfl)
theorem wm189 : Cond.fieldLink RX6 19 "PinnaceView$Styles" "areFresh" "Z" ∈ WA := inA_r8 _ (List.mem_of_getElem? (i := 21) rfl)
theorem wm190 : Cond.instanceMethod yX0_init ∈ WA := inA_r8 _ (List.mem_of_getElem? (i := 22) rfl)
theorem wm191 : Cond.code yX0_init cX0_init 1 none ∈ WA := inA_r8 _ (List.mem_of_getElem? (i := 23) rfl)
theorem inA_r9 : ∀ w ∈ wsL_law0_r9, w ∈ WA := fun _ h => List.mem_append_left _ (List.mem_append_left _ (List.mem_append_left _ (List.mem_append_left _ (List.mem_append_left _ (List.mem_append_left _ (List.mem_append_left _ (List.mem_append_left _ (List.mem_append_left _ (List.mem_append_left _ (List.mem_append_left _ (List.mem_append_left _ (List.mem_append_right _ (List.mem_append_right _ (List.mem_append_right _ (List.mem_append_right _ (List.mem_append_right _ (List.mem_append_right _ (List.mem_append_right _ (List.mem_append_right _ (List.mem_append_left _ h))))))))))))))))))))
theorem gdA_r9 : ∀ w ∈ wsL_law0_r9, goodWord w = true := List.all_eq_true.mp (by decide +kernel)
theorem wm192 : Cond.methodLink RX0 3 objectInit ∈ WA := inA_r9 _ (List.mem_of_getElem? (i := 0) rfl)
theorem wm193 : Cond.fieldLink RX0 9 "PinnaceView$Floats" "rooms" "[I" ∈ WA := inA_r9 _ (List.mem_of_getElem? (i := 1) rfl)
theorem wm194 : Cond.fieldLink RX0 15 "PinnaceView$Floats" "sides" "[I" ∈ WA := inA_r9 _ (List.mem_of_getElem? (i := 2) rfl)
theorem wm195 : Cond.fieldLink RX0 18 "PinnaceView$Floats" "lefts" "[I" ∈ WA := inA_r9 _ (List.mem_of_getElem? (i := 3) rfl)
theorem wm196 : Cond.fieldLink RX0 21 "PinnaceView$Floats" "rights" "[I" ∈ WA := inA_r9 _ (List.mem_of_getElem? (i := 4) rfl)
theorem wm197 : Cond.fieldLink RX0 24 "PinnaceView$Floats" "tops" "[I" ∈ WA := inA_r9 _ (List.mem_of_getElem? (i := 5) rfl)
theorem wm198 : Cond.fieldLink RX0 27 "PinnaceView$Floats" "bottoms" "[I" ∈ WA := inA_r9 _ (List.mem_of_getElem? (i := 6) rfl)
theorem wm199 : Cond.fieldLink RX0 30 "PinnaceView$Floats" "count" "I" ∈ WA := inA_r9 _ (List.mem_of_getElem? (i := 7) rfl)
theorem wm200 : Cond.fieldLink RX0 34 "PinnaceView$Floats" "spanBegin" "I" ∈ WA := inA_r9 _ (List.mem_of_getElem? (i := 8) rfl)
theorem wm201 : Cond.fieldLink RX0 37 "PinnaceView$Floats" "spanEnd" "I" ∈ WA := inA_r9 _ (List.mem_of_getElem? (i := 9) rfl)
theorem wm202 : Cond.fieldLink RX0 40 "PinnaceView$Floats" "nextBottom" "I" ∈ WA := inA_r9 _ (List.mem_of_getElem? (i := 10) rfl)
theorem wm203 : Cond.instanceMethod yX8_init ∈ WA := inA_r9 _ (List.mem_of_getElem? (i := 11) rfl)
theorem wm204 : Cond.code yX8_init cX8_init 1 none ∈ WA := inA_r9 _ (List.mem_of_getElem? (i := 12) rfl)
theorem wm205 : Cond.methodLink RX8 3 objectInit ∈ WA := inA_r9 _ (List.mem_of_getElem? (i := 13) rfl)
theorem wm206 : Cond.classLink RX8 11 RX3 ∈ WA := inA_r9 _ (List.mem_of_getElem? (i := 14) rfl)
theorem wm207 : Cond.fieldLink RX8 13 "PinnaceView$Waiting" "texts" "[LPinnaceView$Node;" ∈ WA := inA_r9 _ (List.mem_of_getElem? (i := 15) rfl)
theorem wm208 : Cond.fieldLink RX8 17 "PinnaceView$Waiting" "words" "[I" ∈ WA := inA_r9 _ (List.mem_of_getElem? (i := 16) rfl)
theorem wm209 : Cond.fieldLink RX8 21 "PinnaceView$Waiting" "widths" "[I" ∈ WA := inA_r9 _ (List.mem_of_getElem? (i := 17) rfl)
theorem wm210 : Cond.fieldLink RX8 24 "PinnaceView$Waiting" "fonts" "[I" ∈ WA := inA_r9 _ (List.mem_of_getElem? (i := 18) rfl)
theorem wm211 : Cond.fieldLink RX8 27 "PinnaceView$Waiting" "count" "I" ∈ WA := inA_r9 _ (List.mem_of_getElem? (i := 19) rfl)
theorem wm212 : Cond.fieldLink RX8 31 "PinnaceView$Waiting" "lineWide" "I" ∈ WA := inA_r9 _ (List.mem_of_getElem? (i := 20) rfl)
theorem wm213 : Cond.fieldLink RX8 34 "PinnaceView$Waiting" "lineFont" "I" ∈ WA := inA_r9 _ (List.mem_of_getElem? (i := 21) rfl)
theorem wm214 : Cond.methodLink RL 11 yL_cell ∈ WA := inA_r9 _ (List.mem_of_getElem? (i := 22) rfl)
theorem wm215 : Cond.static yL_cell ∈ WA := inA_r9 _ (List.mem_of_getElem? (i := 23) rfl)
theorem inA_r10 : ∀ w ∈ wsL_law0_r10, w ∈ WA := fun _ h => List.mem_append_left _ (List.mem_append_left _ (List.mem_append_left _ (List.mem_append_left _ (List.mem_append_left _ (List.mem_append_left _ (List.mem_append_left _ (List.mem_append_left _ (List.mem_append_left _ (List.mem_append_left _ (List.mem_append_left _ (List.mem_append_left _ (List.mem_append_right _ (List.mem_append_right _ (List.mem_append_right _ (List.mem_append_right _ (List.mem_append_right _ (List.mem_append_right _ (List.mem_append_right _ (List.mem_append_right _ (List.mem_append_right _ (List.mem_append_left _ h)))))))))))))))))))))
theorem gdA_r10 : ∀ w ∈ wsL_law0_r10, goodWord w = true := List.all_eq_true.mp (by decide +kernel)
theorem wm216 : Cond.initialized RL ∈ WA := inA_r10 _ (List.mem_of_getElem? (i := 0) rfl)
theorem wm217 : Cond.code yL_cell cL_cell 2 (some .int) ∈ WA := inA_r10 _ (List.mem_of_getElem? (i := 1) rfl)
theorem wm218 : Cond.constant RL 8 (790386105) ∈ WA := inA_r10 _ (List.mem_of_getElem? (i := 2) rfl)
theorem wm219 : Cond.methodLink RL 17 yL_below ∈ WA := inA_r10 _ (List.mem_of_getElem? (i := 3) rfl)
theorem wm220 : Cond.static yL_below ∈ WA := inA_r10 _ (List.mem_of_getElem? (i := 4) rfl)
theorem wm221 : Cond.code yL_below cL_below 2 (some .int) ∈ WA := inA_r10 _ (List.mem_of_getElem? (i := 5) rfl)
theorem wm222 : Cond.constant RL 7 (2147483647) ∈ WA := inA_r10 _ (List.mem_of_getElem? (i := 6) rfl)
theorem wm223 : Cond.methodLink RL 105 yL_build ∈ WA := inA_r10 _ (List.mem_of_getElem? (i := 7) rfl)
theorem wm224 : Cond.static yL_build ∈ WA := inA_r10 _ (List.mem_of_getElem? (i := 8) rfl)
theorem wm225 : Cond.code yL_build cL_build 9 (some (.array (.array .int))) ∈ WA := inA_r10 _ (List.mem_of_getElem? (i := 9) rfl)
theorem wm226 : Cond.classLink RL 9 "[I" ∈ WA := inA_r10 _ (List.mem_of_getElem? (i := 10) rfl)
theorem wm227 : Cond.methodLink RL 21 yX9_addText ∈ WA := inA_r10 _ (List.mem_of_getElem? (i := 11) rfl)
theorem wm228 : Cond.instanceMethod yX9_addText ∈ WA := inA_r10 _ (List.mem_of_getElem? (i := 12) rfl)
theorem wm229 : Cond.selects RX9 yX9_addText yX9_addText ∈ WA := inA_r10 _ (List.mem_of_getElem? (i := 13) rfl)
theorem wm230 : Cond.code yX9_addText cX9_addText 3 (some .int) ∈ WA := inA_r10 _ (List.mem_of_getElem? (i := 14) rfl)
theorem wm231 : Cond.classLink RX9 58 "java/lang/IllegalArgumentException" ∈ WA := inA_r10 _ (List.mem_of_getElem? (i := 15) rfl)
theorem wm232 : Cond.initialized "java/lang/IllegalArgumentException" ∈ WA := inA_r10 _ (List.mem_of_getElem? (i := 16) rfl)
theorem wm233 : Cond.classLink RX9 69 "java/lang/IllegalStateException" ∈ WA := inA_r10 _ (List.mem_of_getElem? (i := 17) rfl)
theorem wm234 : Cond.initialized "java/lang/IllegalStateException" ∈ WA := inA_r10 _ (List.mem_of_getElem? (i := 18) rfl)
theorem wm235 : Cond.fieldLink RX9 52 "PinnaceView$Node" "isText" "Z" ∈ WA := inA_r10 _ (List.mem_of_getElem? (i := 19) rfl)
theorem wm236 : Cond.methodLink RX9 48 yX9_nodeAt ∈ WA := inA_r10 _ (List.mem_of_getElem? (i := 20) rfl)
theorem wm237 : Cond.instanceMethod yX9_nodeAt ∈ WA := inA_r10 _ (List.mem_of_getElem? (i := 21) rfl)
theorem wm238 : Cond.selects RX9 yX9_nodeAt yX9_nodeAt ∈ WA := inA_r10 _ (List.mem_of_getElem? (i := 22) rfl)
theorem wm239 : Cond.code yX9_nodeAt cX9_nodeAt 2 (some (.object "PinnaceView$Node")) ∈ WA := inA_r10 _ (List.mem_of_getElem? (i := 23) rfl)
theorem inA_r11 : ∀ w ∈ wsL_law0_r11, w ∈ WA := fun _ h => List.mem_append_left _ (List.mem_append_left _ (List.mem_append_left _ (List.mem_append_left _ (List.mem_append_left _ (List.mem_append_left _ (List.mem_append_left _ (List.mem_append_left _ (List.mem_append_left _ (List.mem_append_left _ (List.mem_append_left _ (List.mem_append_left _ (List.mem_append_right _ (List.mem_append_right _ (List.mem_append_right _ (List.mem_append_right _ (List.mem_append_right _ (List.mem_append_right _ (List.mem_append_right _ (List.mem_append_right _ (List.mem_append_right _ (List.mem_append_right _ (List.mem_append_left _ h))))))))))))))))))))))
theorem gdA_r11 : ∀ w ∈ wsL_law0_r11, goodWord w = true := List.all_eq_true.mp (by decide +kernel)
theorem wm240 : Cond.classLink RX9 138 "java/lang/IndexOutOfBoundsException" ∈ WA := inA_r11 _ (List.mem_of_getElem? (i := 0) rfl)
theorem wm241 : Cond.initialized "java/lang/IndexOutOfBoundsException" ∈ WA := inA_r11 _ (List.mem_of_getElem? (i := 1) rfl)
theorem wm242 : Cond.fieldLink RX9 198 "PinnaceView$Tree" "nodes" "Ljava/util/ArrayList;" ∈ WA := inA_r11 _ (List.mem_of_getElem? (i := 2) rfl)
theorem wm243 : Cond.classLink RX9 53 "PinnaceView$Node" ∈ WA := inA_r11 _ (List.mem_of_getElem? (i := 3) rfl)
theorem wm244 : Cond.methodLink RX9 204 yX7_holds ∈ WA := inA_r11 _ (List.mem_of_getElem? (i := 4) rfl)
theorem wm245 : Cond.instanceMethod yX7_holds ∈ WA := inA_r11 _ (List.mem_of_getElem? (i := 5) rfl)
theorem wm246 : Cond.selects RX7 yX7_holds yX7_holds ∈ WA := inA_r11 _ (List.mem_of_getElem? (i := 6) rfl)
theorem wm247 : Cond.code yX7_holds cX7_holds 2 (some .boolean) ∈ WA := inA_r11 _ (List.mem_of_getElem? (i := 7) rfl)
theorem wm248 : Cond.classLink RX7 21 "PinnaceView$Node" ∈ WA := inA_r11 _ (List.mem_of_getElem? (i := 8) rfl)
theorem wm249 : Cond.fieldLink RX7 43 "PinnaceView$Node" "isGone" "Z" ∈ WA := inA_r11 _ (List.mem_of_getElem? (i := 9) rfl)
theorem wm250 : Cond.methodLink RX7 35 yJx4a65c_size_8abf5 ∈ WA := inA_r11 _ (List.mem_of_getElem? (i := 10) rfl)
theorem wm251 : Cond.instanceMethod yJx4a65c_size_8abf5 ∈ WA := inA_r11 _ (List.mem_of_getElem? (i := 11) rfl)
theorem wm252 : Cond.selects RJx4a65c yJx4a65c_size_8abf5 yJx4a65c_size_8abf5 ∈ WA := inA_r11 _ (List.mem_of_getElem? (i := 12) rfl)
theorem wm253 : Cond.code yJx4a65c_size_8abf5 cJx4a65c_size_8abf5 1 (some .int) ∈ WA := inA_r11 _ (List.mem_of_getElem? (i := 13) rfl)
theorem wm254 : Cond.methodLink RX7 39 yJx4a65c_get_915e3 ∈ WA := inA_r11 _ (List.mem_of_getElem? (i := 14) rfl)
theorem wm255 : Cond.instanceMethod yJx4a65c_get_915e3 ∈ WA := inA_r11 _ (List.mem_of_getElem? (i := 15) rfl)
theorem wm256 : Cond.selects RJx4a65c yJx4a65c_get_915e3 yJx4a65c_get_915e3 ∈ WA := inA_r11 _ (List.mem_of_getElem? (i := 16) rfl)
theorem wm257 : Cond.code yJx4a65c_get_915e3 cJx4a65c_get_915e3 2 (some (.object "java/lang/Object")) ∈ WA := inA_r11 _ (List.mem_of_getElem? (i := 17) rfl)
theorem wm258 : Cond.methodLink RJx4a65c 118 yJ15_checkIndex_7cf53 ∈ WA := inA_r11 _ (List.mem_of_getElem? (i := 18) rfl)
theorem wm259 : Cond.static yJ15_checkIndex_7cf53 ∈ WA := inA_r11 _ (List.mem_of_getElem? (i := 19) rfl)
theorem wm260 : Cond.initialized RJ15 ∈ WA := inA_r11 _ (List.mem_of_getElem? (i := 20) rfl)
theorem wm261 : Cond.code yJ15_checkIndex_7cf53 cJ15_checkIndex_7cf53 2 (some .int) ∈ WA := inA_r11 _ (List.mem_of_getElem? (i := 21) rfl)
theorem wm262 : Cond.methodLink RJ15 105 yJ3_checkIndex_8e157 ∈ WA := inA_r11 _ (List.mem_of_getElem? (i := 22) rfl)
theorem wm263 : Cond.static yJ3_checkIndex_8e157 ∈ WA := inA_r11 _ (List.mem_of_getElem? (i := 23) rfl)
theorem inA_r12 : ∀ w ∈ wsL_law0_r12, w ∈ WA := fun _ h => List.mem_append_left _ (List.mem_append_left _ (List.mem_append_left _ (List.mem_append_left _ (List.mem_append_left _ (List.mem_append_left _ (List.mem_append_left _ (List.mem_append_left _ (List.mem_append_left _ (List.mem_append_left _ (List.mem_append_left _ (List.mem_append_left _ (List.mem_append_right _ (List.mem_append_right _ (List.mem_append_right _ (List.mem_append_right _ (List.mem_append_right _ (List.mem_append_right _ (List.mem_append_right _ (List.mem_append_right _ (List.mem_append_right _ (List.mem_append_right _ (List.mem_append_right _ (List.mem_append_left _ h)))))))))))))))))))))))
theorem gdA_r12 : ∀ w ∈ wsL_law0_r12, goodWord w = true := List.all_eq_true.mp (by decide +kernel)
theorem wm264 : Cond.initialized RJ3 ∈ WA := inA_r12 _ (List.mem_of_getElem? (i := 0) rfl)
theorem wm265 : Cond.code yJ3_checkIndex_8e157 cJ3_checkIndex_8e157 3 (some .int) ∈ WA := inA_r12 _ (List.mem_of_getElem? (i := 1) rfl)
theorem wm266 : Cond.methodLink RJx4a65c 123 yJx4a65c_elementData_915e3 ∈ WA := inA_r12 _ (List.mem_of_getElem? (i := 2) rfl)
theorem wm267 : Cond.instanceMethod yJx4a65c_elementData_915e3 ∈ WA := inA_r12 _ (List.mem_of_getElem? (i := 3) rfl)
theorem wm268 : Cond.selects RJx4a65c yJx4a65c_elementData_915e3 yJx4a65c_elementData_915e3 ∈ WA := inA_r12 _ (List.mem_of_getElem? (i := 4) rfl)
theorem wm269 : Cond.code yJx4a65c_elementData_915e3 cJx4a65c_elementData_915e3 2 (some (.object "java/lang/Object")) ∈ WA := inA_r12 _ (List.mem_of_getElem? (i := 5) rfl)
theorem wm270 : Cond.methodLink RX9 212 yJx4a65c_get_915e3 ∈ WA := inA_r12 _ (List.mem_of_getElem? (i := 6) rfl)
theorem wm271 : Cond.methodLink RX9 65 yX7_hasRoomIn ∈ WA := inA_r12 _ (List.mem_of_getElem? (i := 7) rfl)
theorem wm272 : Cond.instanceMethod yX7_hasRoomIn ∈ WA := inA_r12 _ (List.mem_of_getElem? (i := 8) rfl)
theorem wm273 : Cond.selects RX7 yX7_hasRoomIn yX7_hasRoomIn ∈ WA := inA_r12 _ (List.mem_of_getElem? (i := 9) rfl)
theorem wm274 : Cond.code yX7_hasRoomIn cX7_hasRoomIn 2 (some .boolean) ∈ WA := inA_r12 _ (List.mem_of_getElem? (i := 10) rfl)
theorem wm275 : Cond.methodLink RX7 47 yX3_ancestors ∈ WA := inA_r12 _ (List.mem_of_getElem? (i := 11) rfl)
theorem wm276 : Cond.instanceMethod yX3_ancestors ∈ WA := inA_r12 _ (List.mem_of_getElem? (i := 12) rfl)
theorem wm277 : Cond.selects RX3 yX3_ancestors yX3_ancestors ∈ WA := inA_r12 _ (List.mem_of_getElem? (i := 13) rfl)
theorem wm278 : Cond.code yX3_ancestors cX3_ancestors 3 (some .int) ∈ WA := inA_r12 _ (List.mem_of_getElem? (i := 14) rfl)
theorem wm279 : Cond.methodLink RX9 74 yX9_forgetWhatWasWorkedOut ∈ WA := inA_r12 _ (List.mem_of_getElem? (i := 15) rfl)
theorem wm280 : Cond.instanceMethod yX9_forgetWhatWasWorkedOut ∈ WA := inA_r12 _ (List.mem_of_getElem? (i := 16) rfl)
theorem wm281 : Cond.selects RX9 yX9_forgetWhatWasWorkedOut yX9_forgetWhatWasWorkedOut ∈ WA := inA_r12 _ (List.mem_of_getElem? (i := 17) rfl)
theorem wm282 : Cond.code yX9_forgetWhatWasWorkedOut cX9_forgetWhatWasWorkedOut 1 none ∈ WA := inA_r12 _ (List.mem_of_getElem? (i := 18) rfl)
theorem wm283 : Cond.fieldLink RX9 347 "PinnaceView$Styles" "areFresh" "Z" ∈ WA := inA_r12 _ (List.mem_of_getElem? (i := 19) rfl)
theorem wm284 : Cond.fieldLink RX9 350 "PinnaceView$Page" "laidWidth" "I" ∈ WA := inA_r12 _ (List.mem_of_getElem? (i := 20) rfl)
theorem wm285 : Cond.methodLink RX9 77 yX7_append ∈ WA := inA_r12 _ (List.mem_of_getElem? (i := 21) rfl)
theorem wm286 : Cond.instanceMethod yX7_append ∈ WA := inA_r12 _ (List.mem_of_getElem? (i := 22) rfl)
theorem wm287 : Cond.selects RX7 yX7_append yX7_append ∈ WA := inA_r12 _ (List.mem_of_getElem? (i := 23) rfl)
theorem inA_r13 : ∀ w ∈ wsL_law0_r13, w ∈ WA := fun _ h => List.mem_append_left _ (List.mem_append_left _ (List.mem_append_left _ (List.mem_append_left _ (List.mem_append_left _ (List.mem_append_left _ (List.mem_append_left _ (List.mem_append_left _ (List.mem_append_left _ (List.mem_append_left _ (List.mem_append_left _ (List.mem_append_left _ (List.mem_append_right _ (List.mem_append_right _ (List.mem_append_right _ (List.mem_append_right _ (List.mem_append_right _ (List.mem_append_right _ (List.mem_append_right _ (List.mem_append_right _ (List.mem_append_right _ (List.mem_append_right _ (List.mem_append_right _ (List.mem_append_right _ (List.mem_append_left _ h))))))))))))))))))))))))
theorem gdA_r13 : ∀ w ∈ wsL_law0_r13, goodWord w = true := List.all_eq_true.mp (by decide +kernel)
theorem wm288 : Cond.code yX7_append cX7_append 5 (some .int) ∈ WA := inA_r13 _ (List.mem_of_getElem? (i := 0) rfl)
theorem wm289 : Cond.fieldLink RX7 50 "PinnaceView$Node" "parent" "LPinnaceView$Node;" ∈ WA := inA_r13 _ (List.mem_of_getElem? (i := 1) rfl)
theorem wm290 : Cond.fieldLink RX7 53 "PinnaceView$Node" "children" "Ljava/util/ArrayList;" ∈ WA := inA_r13 _ (List.mem_of_getElem? (i := 2) rfl)
theorem wm291 : Cond.fieldLink RX7 59 "PinnaceView$Node" "number" "I" ∈ WA := inA_r13 _ (List.mem_of_getElem? (i := 3) rfl)
theorem wm292 : Cond.methodLink RX7 56 yX7_listAnew ∈ WA := inA_r13 _ (List.mem_of_getElem? (i := 4) rfl)
theorem wm293 : Cond.instanceMethod yX7_listAnew ∈ WA := inA_r13 _ (List.mem_of_getElem? (i := 5) rfl)
theorem wm294 : Cond.selects RX7 yX7_listAnew yX7_listAnew ∈ WA := inA_r13 _ (List.mem_of_getElem? (i := 6) rfl)
theorem wm295 : Cond.code yX7_listAnew cX7_listAnew 1 none ∈ WA := inA_r13 _ (List.mem_of_getElem? (i := 7) rfl)
theorem wm296 : Cond.methodLink RX7 91 yJx4a65c_clear_da8c8 ∈ WA := inA_r13 _ (List.mem_of_getElem? (i := 8) rfl)
theorem wm297 : Cond.instanceMethod yJx4a65c_clear_da8c8 ∈ WA := inA_r13 _ (List.mem_of_getElem? (i := 9) rfl)
theorem wm298 : Cond.selects RJx4a65c yJx4a65c_clear_da8c8 yJx4a65c_clear_da8c8 ∈ WA := inA_r13 _ (List.mem_of_getElem? (i := 10) rfl)
theorem wm299 : Cond.code yJx4a65c_clear_da8c8 cJx4a65c_clear_da8c8 4 none ∈ WA := inA_r13 _ (List.mem_of_getElem? (i := 11) rfl)
theorem wm300 : Cond.methodLink RX7 94 yX7_listFrom ∈ WA := inA_r13 _ (List.mem_of_getElem? (i := 12) rfl)
theorem wm301 : Cond.static yX7_listFrom ∈ WA := inA_r13 _ (List.mem_of_getElem? (i := 13) rfl)
theorem wm302 : Cond.code yX7_listFrom cX7_listFrom 4 none ∈ WA := inA_r13 _ (List.mem_of_getElem? (i := 14) rfl)
theorem wm303 : Cond.methodLink RL 27 yX9_addElement ∈ WA := inA_r13 _ (List.mem_of_getElem? (i := 15) rfl)
theorem wm304 : Cond.instanceMethod yX9_addElement ∈ WA := inA_r13 _ (List.mem_of_getElem? (i := 16) rfl)
theorem wm305 : Cond.selects RX9 yX9_addElement yX9_addElement ∈ WA := inA_r13 _ (List.mem_of_getElem? (i := 17) rfl)
theorem wm306 : Cond.code yX9_addElement cX9_addElement 4 (some .int) ∈ WA := inA_r13 _ (List.mem_of_getElem? (i := 18) rfl)
theorem wm307 : Cond.methodLink RL 30 yX9_setName ∈ WA := inA_r13 _ (List.mem_of_getElem? (i := 19) rfl)
theorem wm308 : Cond.instanceMethod yX9_setName ∈ WA := inA_r13 _ (List.mem_of_getElem? (i := 20) rfl)
theorem wm309 : Cond.selects RX9 yX9_setName yX9_setName ∈ WA := inA_r13 _ (List.mem_of_getElem? (i := 21) rfl)
theorem wm310 : Cond.code yX9_setName cX9_setName 5 (some .int) ∈ WA := inA_r13 _ (List.mem_of_getElem? (i := 22) rfl)
theorem wm311 : Cond.fieldLink RX9 132 "PinnaceView$Node" "name" "I" ∈ WA := inA_r13 _ (List.mem_of_getElem? (i := 23) rfl)
theorem inA_r14 : ∀ w ∈ wsL_law0_r14, w ∈ WA := fun _ h => List.mem_append_left _ (List.mem_append_left _ (List.mem_append_left _ (List.mem_append_left _ (List.mem_append_left _ (List.mem_append_left _ (List.mem_append_left _ (List.mem_append_left _ (List.mem_append_left _ (List.mem_append_left _ (List.mem_append_left _ (List.mem_append_left _ (List.mem_append_right _ (List.mem_append_right _ (List.mem_append_right _ (List.mem_append_right _ (List.mem_append_right _ (List.mem_append_right _ (List.mem_append_right _ (List.mem_append_right _ (List.mem_append_right _ (List.mem_append_right _ (List.mem_append_right _ (List.mem_append_right _ (List.mem_append_right _ (List.mem_append_left _ h)))))))))))))))))))))))))
theorem gdA_r14 : ∀ w ∈ wsL_law0_r14, goodWord w = true := List.all_eq_true.mp (by decide +kernel)
theorem wm312 : Cond.methodLink RL 33 yX9_setClass ∈ WA := inA_r14 _ (List.mem_of_getElem? (i := 0) rfl)
theorem wm313 : Cond.instanceMethod yX9_setClass ∈ WA := inA_r14 _ (List.mem_of_getElem? (i := 1) rfl)
theorem wm314 : Cond.selects RX9 yX9_setClass yX9_setClass ∈ WA := inA_r14 _ (List.mem_of_getElem? (i := 2) rfl)
theorem wm315 : Cond.code yX9_setClass cX9_setClass 7 (some .boolean) ∈ WA := inA_r14 _ (List.mem_of_getElem? (i := 3) rfl)
theorem wm316 : Cond.fieldLink RX9 127 "PinnaceView$Node" "classes" "I" ∈ WA := inA_r14 _ (List.mem_of_getElem? (i := 4) rfl)
theorem wm317 : Cond.methodLink RX9 123 yX3_hasClass ∈ WA := inA_r14 _ (List.mem_of_getElem? (i := 5) rfl)
theorem wm318 : Cond.instanceMethod yX3_hasClass ∈ WA := inA_r14 _ (List.mem_of_getElem? (i := 6) rfl)
theorem wm319 : Cond.selects RX3 yX3_hasClass yX3_hasClass ∈ WA := inA_r14 _ (List.mem_of_getElem? (i := 7) rfl)
theorem wm320 : Cond.code yX3_hasClass cX3_hasClass 2 (some .boolean) ∈ WA := inA_r14 _ (List.mem_of_getElem? (i := 8) rfl)
theorem wm321 : Cond.methodLink RL 75 yX9_size ∈ WA := inA_r14 _ (List.mem_of_getElem? (i := 9) rfl)
theorem wm322 : Cond.instanceMethod yX9_size ∈ WA := inA_r14 _ (List.mem_of_getElem? (i := 10) rfl)
theorem wm323 : Cond.selects RX9 yX9_size yX9_size ∈ WA := inA_r14 _ (List.mem_of_getElem? (i := 11) rfl)
theorem wm324 : Cond.code yX9_size cX9_size 3 (some .int) ∈ WA := inA_r14 _ (List.mem_of_getElem? (i := 12) rfl)
theorem wm325 : Cond.fieldLink RX9 85 "PinnaceView$Node" "words" "I" ∈ WA := inA_r14 _ (List.mem_of_getElem? (i := 13) rfl)
theorem wm326 : Cond.fieldLink RX9 114 "PinnaceView$Node" "children" "Ljava/util/ArrayList;" ∈ WA := inA_r14 _ (List.mem_of_getElem? (i := 14) rfl)
theorem wm327 : Cond.methodLink RX9 117 yJx4a65c_size_8abf5 ∈ WA := inA_r14 _ (List.mem_of_getElem? (i := 15) rfl)
theorem wm328 : Cond.methodLink RL 109 yX9_addWord ∈ WA := inA_r14 _ (List.mem_of_getElem? (i := 16) rfl)
theorem wm329 : Cond.instanceMethod yX9_addWord ∈ WA := inA_r14 _ (List.mem_of_getElem? (i := 17) rfl)
theorem wm330 : Cond.selects RX9 yX9_addWord yX9_addWord ∈ WA := inA_r14 _ (List.mem_of_getElem? (i := 18) rfl)
theorem wm331 : Cond.code yX9_addWord cX9_addWord 4 (some .int) ∈ WA := inA_r14 _ (List.mem_of_getElem? (i := 19) rfl)
theorem wm332 : Cond.fieldLink RX9 88 "PinnaceView$Node" "letters" "[I" ∈ WA := inA_r14 _ (List.mem_of_getElem? (i := 20) rfl)
theorem wm333 : Cond.methodLink RL 112 yX9_declare ∈ WA := inA_r14 _ (List.mem_of_getElem? (i := 21) rfl)
theorem wm334 : Cond.instanceMethod yX9_declare ∈ WA := inA_r14 _ (List.mem_of_getElem? (i := 22) rfl)
theorem wm335 : Cond.selects RX9 yX9_declare yX9_declare ∈ WA := inA_r14 _ (List.mem_of_getElem? (i := 23) rfl)
theorem inA_r15 : ∀ w ∈ wsL_law0_r15, w ∈ WA := fun _ h => List.mem_append_left _ (List.mem_append_left _ (List.mem_append_left _ (List.mem_append_left _ (List.mem_append_left _ (List.mem_append_left _ (List.mem_append_left _ (List.mem_append_left _ (List.mem_append_left _ (List.mem_append_left _ (List.mem_append_left _ (List.mem_append_left _ (List.mem_append_right _ (List.mem_append_right _ (List.mem_append_right _ (List.mem_append_right _ (List.mem_append_right _ (List.mem_append_right _ (List.mem_append_right _ (List.mem_append_right _ (List.mem_append_right _ (List.mem_append_right _ (List.mem_append_right _ (List.mem_append_right _ (List.mem_append_right _ (List.mem_append_right _ (List.mem_append_left _ h))))))))))))))))))))))))))
theorem gdA_r15 : ∀ w ∈ wsL_law0_r15, goodWord w = true := List.all_eq_true.mp (by decide +kernel)
theorem wm336 : Cond.code yX9_declare cX9_declare 7 (some .int) ∈ WA := inA_r15 _ (List.mem_of_getElem? (i := 0) rfl)
theorem wm337 : Cond.methodLink RX9 135 yX9_isProperty ∈ WA := inA_r15 _ (List.mem_of_getElem? (i := 1) rfl)
theorem wm338 : Cond.static yX9_isProperty ∈ WA := inA_r15 _ (List.mem_of_getElem? (i := 2) rfl)
theorem wm339 : Cond.code yX9_isProperty cX9_isProperty 1 (some .boolean) ∈ WA := inA_r15 _ (List.mem_of_getElem? (i := 3) rfl)
theorem wm340 : Cond.methodLink RX9 143 yX9_isValueOf ∈ WA := inA_r15 _ (List.mem_of_getElem? (i := 4) rfl)
theorem wm341 : Cond.static yX9_isValueOf ∈ WA := inA_r15 _ (List.mem_of_getElem? (i := 5) rfl)
theorem wm342 : Cond.code yX9_isValueOf cX9_isValueOf 2 (some .boolean) ∈ WA := inA_r15 _ (List.mem_of_getElem? (i := 6) rfl)
theorem wm343 : Cond.fieldLink RX9 357 "PinnaceView" "LEAST_VALUES" "[I" ∈ WA := inA_r15 _ (List.mem_of_getElem? (i := 7) rfl)
theorem wm344 : Cond.fieldLink RX9 360 "PinnaceView" "GREATEST_VALUES" "[I" ∈ WA := inA_r15 _ (List.mem_of_getElem? (i := 8) rfl)
theorem wm345 : Cond.methodLink RX9 180 yX3_declaredOf ∈ WA := inA_r15 _ (List.mem_of_getElem? (i := 9) rfl)
theorem wm346 : Cond.instanceMethod yX3_declaredOf ∈ WA := inA_r15 _ (List.mem_of_getElem? (i := 10) rfl)
theorem wm347 : Cond.selects RX3 yX3_declaredOf yX3_declaredOf ∈ WA := inA_r15 _ (List.mem_of_getElem? (i := 11) rfl)
theorem wm348 : Cond.code yX3_declaredOf cX3_declaredOf 2 (some .int) ∈ WA := inA_r15 _ (List.mem_of_getElem? (i := 12) rfl)
theorem wm349 : Cond.methodLink RX9 184 yX3_setDeclared ∈ WA := inA_r15 _ (List.mem_of_getElem? (i := 13) rfl)
theorem wm350 : Cond.instanceMethod yX3_setDeclared ∈ WA := inA_r15 _ (List.mem_of_getElem? (i := 14) rfl)
theorem wm351 : Cond.selects RX3 yX3_setDeclared yX3_setDeclared ∈ WA := inA_r15 _ (List.mem_of_getElem? (i := 15) rfl)
theorem wm352 : Cond.code yX3_setDeclared cX3_setDeclared 3 none ∈ WA := inA_r15 _ (List.mem_of_getElem? (i := 16) rfl)
theorem wm353 : Cond.methodLink RL 116 yX9_addRule ∈ WA := inA_r15 _ (List.mem_of_getElem? (i := 17) rfl)
theorem wm354 : Cond.instanceMethod yX9_addRule ∈ WA := inA_r15 _ (List.mem_of_getElem? (i := 18) rfl)
theorem wm355 : Cond.selects RX9 yX9_addRule yX9_addRule ∈ WA := inA_r15 _ (List.mem_of_getElem? (i := 19) rfl)
theorem wm356 : Cond.code yX9_addRule cX9_addRule 4 (some .int) ∈ WA := inA_r15 _ (List.mem_of_getElem? (i := 20) rfl)
theorem wm357 : Cond.classLink RX9 151 RX5 ∈ WA := inA_r15 _ (List.mem_of_getElem? (i := 21) rfl)
theorem wm358 : Cond.instantiable RX5 10 ∈ WA := inA_r15 _ (List.mem_of_getElem? (i := 22) rfl)
theorem wm359 : Cond.initialized RX5 ∈ WA := inA_r15 _ (List.mem_of_getElem? (i := 23) rfl)
theorem inA_r16 : ∀ w ∈ wsL_law0_r16, w ∈ WA := fun _ h => List.mem_append_left _ (List.mem_append_left _ (List.mem_append_left _ (List.mem_append_left _ (List.mem_append_left _ (List.mem_append_left _ (List.mem_append_left _ (List.mem_append_left _ (List.mem_append_left _ (List.mem_append_left _ (List.mem_append_left _ (List.mem_append_left _ (List.mem_append_right _ (List.mem_append_right _ (List.mem_append_right _ (List.mem_append_right _ (List.mem_append_right _ (List.mem_append_right _ (List.mem_append_right _ (List.mem_append_right _ (List.mem_append_right _ (List.mem_append_right _ (List.mem_append_right _ (List.mem_append_right _ (List.mem_append_right _ (List.mem_append_right _ (List.mem_append_right _ (List.mem_append_left _ h)))))))))))))))))))))))))))
theorem gdA_r16 : ∀ w ∈ wsL_law0_r16, goodWord w = true := List.all_eq_true.mp (by decide +kernel)
theorem wm360 : Cond.methodLink RX9 153 yX5_init ∈ WA := inA_r16 _ (List.mem_of_getElem? (i := 0) rfl)
theorem wm361 : Cond.instanceMethod yX5_init ∈ WA := inA_r16 _ (List.mem_of_getElem? (i := 1) rfl)
theorem wm362 : Cond.code yX5_init cX5_init 4 none ∈ WA := inA_r16 _ (List.mem_of_getElem? (i := 2) rfl)
theorem wm363 : Cond.methodLink RX5 3 objectInit ∈ WA := inA_r16 _ (List.mem_of_getElem? (i := 3) rfl)
theorem wm364 : Cond.fieldLink RX5 9 "PinnaceView$Rule" "tags" "[I" ∈ WA := inA_r16 _ (List.mem_of_getElem? (i := 4) rfl)
theorem wm365 : Cond.fieldLink RX5 15 "PinnaceView$Rule" "classBits" "[I" ∈ WA := inA_r16 _ (List.mem_of_getElem? (i := 5) rfl)
theorem wm366 : Cond.fieldLink RX5 18 "PinnaceView$Rule" "names" "[I" ∈ WA := inA_r16 _ (List.mem_of_getElem? (i := 6) rfl)
theorem wm367 : Cond.arrayClass .boolean ∈ WA := inA_r16 _ (List.mem_of_getElem? (i := 7) rfl)
theorem wm368 : Cond.fieldLink RX5 21 "PinnaceView$Rule" "areClose" "[Z" ∈ WA := inA_r16 _ (List.mem_of_getElem? (i := 8) rfl)
theorem wm369 : Cond.fieldLink RX5 25 "PinnaceView$Rule" "parts" "I" ∈ WA := inA_r16 _ (List.mem_of_getElem? (i := 9) rfl)
theorem wm370 : Cond.fieldLink RX5 29 "PinnaceView$Rule" "weight" "I" ∈ WA := inA_r16 _ (List.mem_of_getElem? (i := 10) rfl)
theorem wm371 : Cond.fieldLink RX5 32 "PinnaceView$Rule" "isOn" "Z" ∈ WA := inA_r16 _ (List.mem_of_getElem? (i := 11) rfl)
theorem wm372 : Cond.fieldLink RX5 36 "PinnaceView$Rule" "property" "I" ∈ WA := inA_r16 _ (List.mem_of_getElem? (i := 12) rfl)
theorem wm373 : Cond.fieldLink RX5 39 "PinnaceView$Rule" "value" "I" ∈ WA := inA_r16 _ (List.mem_of_getElem? (i := 13) rfl)
theorem wm374 : Cond.fieldLink RX5 42 "PinnaceView$Rule" "isStrong" "Z" ∈ WA := inA_r16 _ (List.mem_of_getElem? (i := 14) rfl)
theorem wm375 : Cond.methodLink RX9 156 yJx4a65c_add_9ea2d ∈ WA := inA_r16 _ (List.mem_of_getElem? (i := 15) rfl)
theorem wm376 : Cond.methodLink RL 120 yX9_addPart ∈ WA := inA_r16 _ (List.mem_of_getElem? (i := 16) rfl)
theorem wm377 : Cond.instanceMethod yX9_addPart ∈ WA := inA_r16 _ (List.mem_of_getElem? (i := 17) rfl)
theorem wm378 : Cond.selects RX9 yX9_addPart yX9_addPart ∈ WA := inA_r16 _ (List.mem_of_getElem? (i := 18) rfl)
theorem wm379 : Cond.code yX9_addPart cX9_addPart 9 (some .int) ∈ WA := inA_r16 _ (List.mem_of_getElem? (i := 19) rfl)
theorem wm380 : Cond.fieldLink RX9 166 "PinnaceView$Rule" "parts" "I" ∈ WA := inA_r16 _ (List.mem_of_getElem? (i := 20) rfl)
theorem wm381 : Cond.methodLink RX9 160 yX9_ruleAt ∈ WA := inA_r16 _ (List.mem_of_getElem? (i := 21) rfl)
theorem wm382 : Cond.instanceMethod yX9_ruleAt ∈ WA := inA_r16 _ (List.mem_of_getElem? (i := 22) rfl)
theorem wm383 : Cond.selects RX9 yX9_ruleAt yX9_ruleAt ∈ WA := inA_r16 _ (List.mem_of_getElem? (i := 23) rfl)
theorem inA_r17 : ∀ w ∈ wsL_law0_r17, w ∈ WA := fun _ h => List.mem_append_left _ (List.mem_append_left _ (List.mem_append_left _ (List.mem_append_left _ (List.mem_append_left _ (List.mem_append_left _ (List.mem_append_left _ (List.mem_append_left _ (List.mem_append_left _ (List.mem_append_left _ (List.mem_append_left _ (List.mem_append_left _ (List.mem_append_right _ (List.mem_append_right _ (List.mem_append_right _ (List.mem_append_right _ (List.mem_append_right _ (List.mem_append_right _ (List.mem_append_right _ (List.mem_append_right _ (List.mem_append_right _ (List.mem_append_right _ (List.mem_append_right _ (List.mem_append_right _ (List.mem_append_right _ (List.mem_append_right _ (List.mem_append_right _ (List.mem_append_right _ (List.mem_append_left _ h))))))))))))))))))))))))))))
theorem gdA_r17 : ∀ w ∈ wsL_law0_r17, goodWord w = true := List.all_eq_true.mp (by decide +kernel)
theorem wm384 : Cond.code yX9_ruleAt cX9_ruleAt 2 (some (.object "PinnaceView$Rule")) ∈ WA := inA_r17 _ (List.mem_of_getElem? (i := 0) rfl)
theorem wm385 : Cond.classLink RX9 151 "PinnaceView$Rule" ∈ WA := inA_r17 _ (List.mem_of_getElem? (i := 1) rfl)
theorem wm386 : Cond.methodLink RX9 171 yX5_takePart ∈ WA := inA_r17 _ (List.mem_of_getElem? (i := 2) rfl)
theorem wm387 : Cond.instanceMethod yX5_takePart ∈ WA := inA_r17 _ (List.mem_of_getElem? (i := 3) rfl)
theorem wm388 : Cond.selects RX5 yX5_takePart yX5_takePart ∈ WA := inA_r17 _ (List.mem_of_getElem? (i := 4) rfl)
theorem wm389 : Cond.code yX5_takePart cX5_takePart 5 none ∈ WA := inA_r17 _ (List.mem_of_getElem? (i := 5) rfl)
theorem wm390 : Cond.methodLink RL 124 yX9_scroll ∈ WA := inA_r17 _ (List.mem_of_getElem? (i := 6) rfl)
theorem wm391 : Cond.instanceMethod yX9_scroll ∈ WA := inA_r17 _ (List.mem_of_getElem? (i := 7) rfl)
theorem wm392 : Cond.selects RX9 yX9_scroll yX9_scroll ∈ WA := inA_r17 _ (List.mem_of_getElem? (i := 8) rfl)
theorem wm393 : Cond.code yX9_scroll cX9_scroll 5 (some .int) ∈ WA := inA_r17 _ (List.mem_of_getElem? (i := 9) rfl)
theorem wm394 : Cond.fieldLink RX9 195 "PinnaceView$Node" "offset" "I" ∈ WA := inA_r17 _ (List.mem_of_getElem? (i := 10) rfl)
theorem wm395 : Cond.methodLink RL 127 yL_isSound ∈ WA := inA_r17 _ (List.mem_of_getElem? (i := 11) rfl)
theorem wm396 : Cond.static yL_isSound ∈ WA := inA_r17 _ (List.mem_of_getElem? (i := 12) rfl)
theorem wm397 : Cond.code yL_isSound cL_isSound 7 (some .boolean) ∈ WA := inA_r17 _ (List.mem_of_getElem? (i := 13) rfl)
theorem wm398 : Cond.methodLink RL 37 yX9_added ∈ WA := inA_r17 _ (List.mem_of_getElem? (i := 14) rfl)
theorem wm399 : Cond.instanceMethod yX9_added ∈ WA := inA_r17 _ (List.mem_of_getElem? (i := 15) rfl)
theorem wm400 : Cond.selects RX9 yX9_added yX9_added ∈ WA := inA_r17 _ (List.mem_of_getElem? (i := 16) rfl)
theorem wm401 : Cond.code yX9_added cX9_added 1 (some .int) ∈ WA := inA_r17 _ (List.mem_of_getElem? (i := 17) rfl)
theorem wm402 : Cond.methodLink RL 41 yX9_isThere ∈ WA := inA_r17 _ (List.mem_of_getElem? (i := 18) rfl)
theorem wm403 : Cond.instanceMethod yX9_isThere ∈ WA := inA_r17 _ (List.mem_of_getElem? (i := 19) rfl)
theorem wm404 : Cond.selects RX9 yX9_isThere yX9_isThere ∈ WA := inA_r17 _ (List.mem_of_getElem? (i := 20) rfl)
theorem wm405 : Cond.code yX9_isThere cX9_isThere 2 (some .boolean) ∈ WA := inA_r17 _ (List.mem_of_getElem? (i := 21) rfl)
theorem wm406 : Cond.methodLink RL 45 yX9_sortOf ∈ WA := inA_r17 _ (List.mem_of_getElem? (i := 22) rfl)
theorem wm407 : Cond.instanceMethod yX9_sortOf ∈ WA := inA_r17 _ (List.mem_of_getElem? (i := 23) rfl)
theorem inA_r18 : ∀ w ∈ wsL_law0_r18, w ∈ WA := fun _ h => List.mem_append_left _ (List.mem_append_left _ (List.mem_append_left _ (List.mem_append_left _ (List.mem_append_left _ (List.mem_append_left _ (List.mem_append_left _ (List.mem_append_left _ (List.mem_append_left _ (List.mem_append_left _ (List.mem_append_left _ (List.mem_append_left _ (List.mem_append_right _ (List.mem_append_right _ (List.mem_append_right _ (List.mem_append_right _ (List.mem_append_right _ (List.mem_append_right _ (List.mem_append_right _ (List.mem_append_right _ (List.mem_append_right _ (List.mem_append_right _ (List.mem_append_right _ (List.mem_append_right _ (List.mem_append_right _ (List.mem_append_right _ (List.mem_append_right _ (List.mem_append_right _ (List.mem_append_right _ (List.mem_append_left _ h)))))))))))))))))))))))))))))
theorem gdA_r18 : ∀ w ∈ wsL_law0_r18, goodWord w = true := List.all_eq_true.mp (by decide +kernel)
theorem wm408 : Cond.selects RX9 yX9_sortOf yX9_sortOf ∈ WA := inA_r18 _ (List.mem_of_getElem? (i := 0) rfl)
theorem wm409 : Cond.code yX9_sortOf cX9_sortOf 2 (some .int) ∈ WA := inA_r18 _ (List.mem_of_getElem? (i := 1) rfl)
theorem wm410 : Cond.fieldLink RX9 236 "PinnaceView$Layout" "sort" "I" ∈ WA := inA_r18 _ (List.mem_of_getElem? (i := 2) rfl)
theorem wm411 : Cond.methodLink RX9 232 yX9_laidOut ∈ WA := inA_r18 _ (List.mem_of_getElem? (i := 3) rfl)
theorem wm412 : Cond.instanceMethod yX9_laidOut ∈ WA := inA_r18 _ (List.mem_of_getElem? (i := 4) rfl)
theorem wm413 : Cond.selects RX9 yX9_laidOut yX9_laidOut ∈ WA := inA_r18 _ (List.mem_of_getElem? (i := 5) rfl)
theorem wm414 : Cond.code yX9_laidOut cX9_laidOut 4 (some (.object "PinnaceView$Layout")) ∈ WA := inA_r18 _ (List.mem_of_getElem? (i := 6) rfl)
theorem wm415 : Cond.fieldLink RX9 339 "PinnaceView$Node" "layout" "LPinnaceView$Layout;" ∈ WA := inA_r18 _ (List.mem_of_getElem? (i := 7) rfl)
theorem wm416 : Cond.methodLink RX9 222 yX9_freshenStyles ∈ WA := inA_r18 _ (List.mem_of_getElem? (i := 8) rfl)
theorem wm417 : Cond.instanceMethod yX9_freshenStyles ∈ WA := inA_r18 _ (List.mem_of_getElem? (i := 9) rfl)
theorem wm418 : Cond.selects RX9 yX9_freshenStyles yX9_freshenStyles ∈ WA := inA_r18 _ (List.mem_of_getElem? (i := 10) rfl)
theorem wm419 : Cond.code yX9_freshenStyles cX9_freshenStyles 1 none ∈ WA := inA_r18 _ (List.mem_of_getElem? (i := 11) rfl)
theorem wm420 : Cond.fieldLink RX9 201 "PinnaceView$Tree" "order" "Ljava/util/ArrayList;" ∈ WA := inA_r18 _ (List.mem_of_getElem? (i := 12) rfl)
theorem wm421 : Cond.methodLink RX9 294 yX6_workOut ∈ WA := inA_r18 _ (List.mem_of_getElem? (i := 13) rfl)
theorem wm422 : Cond.instanceMethod yX6_workOut ∈ WA := inA_r18 _ (List.mem_of_getElem? (i := 14) rfl)
theorem wm423 : Cond.selects RX6 yX6_workOut yX6_workOut ∈ WA := inA_r18 _ (List.mem_of_getElem? (i := 15) rfl)
theorem wm424 : Cond.code yX6_workOut cX6_workOut 7 none ∈ WA := inA_r18 _ (List.mem_of_getElem? (i := 16) rfl)
theorem wm425 : Cond.classLink RX6 24 "PinnaceView$Node" ∈ WA := inA_r18 _ (List.mem_of_getElem? (i := 17) rfl)
theorem wm426 : Cond.methodLink RX6 37 yJx4a65c_size_8abf5 ∈ WA := inA_r18 _ (List.mem_of_getElem? (i := 18) rfl)
theorem wm427 : Cond.methodLink RX6 43 yJx4a65c_get_915e3 ∈ WA := inA_r18 _ (List.mem_of_getElem? (i := 19) rfl)
theorem wm428 : Cond.methodLink RX6 29 yX6_isKept ∈ WA := inA_r18 _ (List.mem_of_getElem? (i := 20) rfl)
theorem wm429 : Cond.static yX6_isKept ∈ WA := inA_r18 _ (List.mem_of_getElem? (i := 21) rfl)
theorem wm430 : Cond.code yX6_isKept cX6_isKept 2 (some .boolean) ∈ WA := inA_r18 _ (List.mem_of_getElem? (i := 22) rfl)
theorem wm431 : Cond.fieldLink RX6 23 "PinnaceView$Node" "number" "I" ∈ WA := inA_r18 _ (List.mem_of_getElem? (i := 23) rfl)
theorem inA_r19 : ∀ w ∈ wsL_law0_r19, w ∈ WA := fun _ h => List.mem_append_left _ (List.mem_append_left _ (List.mem_append_left _ (List.mem_append_left _ (List.mem_append_left _ (List.mem_append_left _ (List.mem_append_left _ (List.mem_append_left _ (List.mem_append_left _ (List.mem_append_left _ (List.mem_append_left _ (List.mem_append_left _ (List.mem_append_right _ (List.mem_append_right _ (List.mem_append_right _ (List.mem_append_right _ (List.mem_append_right _ (List.mem_append_right _ (List.mem_append_right _ (List.mem_append_right _ (List.mem_append_right _ (List.mem_append_right _ (List.mem_append_right _ (List.mem_append_right _ (List.mem_append_right _ (List.mem_append_right _ (List.mem_append_right _ (List.mem_append_right _ (List.mem_append_right _ (List.mem_append_right _ (List.mem_append_left _ h))))))))))))))))))))))))))))))
theorem gdA_r19 : ∀ w ∈ wsL_law0_r19, goodWord w = true := List.all_eq_true.mp (by decide +kernel)
theorem wm432 : Cond.methodLink RX6 47 yX6_findRules ∈ WA := inA_r19 _ (List.mem_of_getElem? (i := 0) rfl)
theorem wm433 : Cond.instanceMethod yX6_findRules ∈ WA := inA_r19 _ (List.mem_of_getElem? (i := 1) rfl)
theorem wm434 : Cond.selects RX6 yX6_findRules yX6_findRules ∈ WA := inA_r19 _ (List.mem_of_getElem? (i := 2) rfl)
theorem wm435 : Cond.code yX6_findRules cX6_findRules 8 none ∈ WA := inA_r19 _ (List.mem_of_getElem? (i := 3) rfl)
theorem wm436 : Cond.classLink RX6 65 "PinnaceView$Rule" ∈ WA := inA_r19 _ (List.mem_of_getElem? (i := 4) rfl)
theorem wm437 : Cond.fieldLink RX6 67 "PinnaceView$Rule" "isOn" "Z" ∈ WA := inA_r19 _ (List.mem_of_getElem? (i := 5) rfl)
theorem wm438 : Cond.fieldLink RX6 70 "PinnaceView$Rule" "property" "I" ∈ WA := inA_r19 _ (List.mem_of_getElem? (i := 6) rfl)
theorem wm439 : Cond.methodLink RX6 59 yJ7_fill_53178 ∈ WA := inA_r19 _ (List.mem_of_getElem? (i := 7) rfl)
theorem wm440 : Cond.static yJ7_fill_53178 ∈ WA := inA_r19 _ (List.mem_of_getElem? (i := 8) rfl)
theorem wm441 : Cond.code yJ7_fill_53178 cJ7_fill_53178 4 none ∈ WA := inA_r19 _ (List.mem_of_getElem? (i := 9) rfl)
theorem wm442 : Cond.methodLink RX6 73 yX5_selects ∈ WA := inA_r19 _ (List.mem_of_getElem? (i := 10) rfl)
theorem wm443 : Cond.instanceMethod yX5_selects ∈ WA := inA_r19 _ (List.mem_of_getElem? (i := 11) rfl)
theorem wm444 : Cond.selects RX5 yX5_selects yX5_selects ∈ WA := inA_r19 _ (List.mem_of_getElem? (i := 12) rfl)
theorem wm445 : Cond.code yX5_selects cX5_selects 2 (some .boolean) ∈ WA := inA_r19 _ (List.mem_of_getElem? (i := 13) rfl)
theorem wm446 : Cond.fieldLink RX5 45 "PinnaceView$Node" "isText" "Z" ∈ WA := inA_r19 _ (List.mem_of_getElem? (i := 14) rfl)
theorem wm447 : Cond.methodLink RX5 50 yX5_fitsUpTo ∈ WA := inA_r19 _ (List.mem_of_getElem? (i := 15) rfl)
theorem wm448 : Cond.static yX5_fitsUpTo ∈ WA := inA_r19 _ (List.mem_of_getElem? (i := 16) rfl)
theorem wm449 : Cond.code yX5_fitsUpTo cX5_fitsUpTo 4 (some .boolean) ∈ WA := inA_r19 _ (List.mem_of_getElem? (i := 17) rfl)
theorem wm450 : Cond.fieldLink RX5 58 "PinnaceView$Node" "parent" "LPinnaceView$Node;" ∈ WA := inA_r19 _ (List.mem_of_getElem? (i := 18) rfl)
theorem wm451 : Cond.methodLink RX5 54 yX5_fits ∈ WA := inA_r19 _ (List.mem_of_getElem? (i := 19) rfl)
theorem wm452 : Cond.instanceMethod yX5_fits ∈ WA := inA_r19 _ (List.mem_of_getElem? (i := 20) rfl)
theorem wm453 : Cond.selects RX5 yX5_fits yX5_fits ∈ WA := inA_r19 _ (List.mem_of_getElem? (i := 21) rfl)
theorem wm454 : Cond.code yX5_fits cX5_fits 6 (some .boolean) ∈ WA := inA_r19 _ (List.mem_of_getElem? (i := 22) rfl)
theorem wm455 : Cond.fieldLink RX5 62 "PinnaceView$Node" "tag" "I" ∈ WA := inA_r19 _ (List.mem_of_getElem? (i := 23) rfl)
theorem inA_r20 : ∀ w ∈ wsL_law0_r20, w ∈ WA := fun _ h => List.mem_append_left _ (List.mem_append_left _ (List.mem_append_left _ (List.mem_append_left _ (List.mem_append_left _ (List.mem_append_left _ (List.mem_append_left _ (List.mem_append_left _ (List.mem_append_left _ (List.mem_append_left _ (List.mem_append_left _ (List.mem_append_left _ (List.mem_append_right _ (List.mem_append_right _ (List.mem_append_right _ (List.mem_append_right _ (List.mem_append_right _ (List.mem_append_right _ (List.mem_append_right _ (List.mem_append_right _ (List.mem_append_right _ (List.mem_append_right _ (List.mem_append_right _ (List.mem_append_right _ (List.mem_append_right _ (List.mem_append_right _ (List.mem_append_right _ (List.mem_append_right _ (List.mem_append_right _ (List.mem_append_right _ (List.mem_append_right _ (List.mem_append_left _ h)))))))))))))))))))))))))))))))
theorem gdA_r20 : ∀ w ∈ wsL_law0_r20, goodWord w = true := List.all_eq_true.mp (by decide +kernel)
theorem wm456 : Cond.fieldLink RX5 65 "PinnaceView$Node" "classes" "I" ∈ WA := inA_r20 _ (List.mem_of_getElem? (i := 0) rfl)
theorem wm457 : Cond.fieldLink RX5 68 "PinnaceView$Node" "name" "I" ∈ WA := inA_r20 _ (List.mem_of_getElem? (i := 1) rfl)
theorem wm458 : Cond.methodLink RX6 77 yX6_comesAheadOf ∈ WA := inA_r20 _ (List.mem_of_getElem? (i := 2) rfl)
theorem wm459 : Cond.static yX6_comesAheadOf ∈ WA := inA_r20 _ (List.mem_of_getElem? (i := 3) rfl)
theorem wm460 : Cond.code yX6_comesAheadOf cX6_comesAheadOf 4 (some .boolean) ∈ WA := inA_r20 _ (List.mem_of_getElem? (i := 4) rfl)
theorem wm461 : Cond.fieldLink RX6 81 "PinnaceView$Rule" "isStrong" "Z" ∈ WA := inA_r20 _ (List.mem_of_getElem? (i := 5) rfl)
theorem wm462 : Cond.fieldLink RX6 84 "PinnaceView$Rule" "weight" "I" ∈ WA := inA_r20 _ (List.mem_of_getElem? (i := 6) rfl)
theorem wm463 : Cond.methodLink RX6 51 yX6_settle ∈ WA := inA_r20 _ (List.mem_of_getElem? (i := 7) rfl)
theorem wm464 : Cond.instanceMethod yX6_settle ∈ WA := inA_r20 _ (List.mem_of_getElem? (i := 8) rfl)
theorem wm465 : Cond.selects RX6 yX6_settle yX6_settle ∈ WA := inA_r20 _ (List.mem_of_getElem? (i := 9) rfl)
theorem wm466 : Cond.code yX6_settle cX6_settle 9 none ∈ WA := inA_r20 _ (List.mem_of_getElem? (i := 10) rfl)
theorem wm467 : Cond.fieldLink RX6 87 "PinnaceView$Rule" "value" "I" ∈ WA := inA_r20 _ (List.mem_of_getElem? (i := 11) rfl)
theorem wm468 : Cond.fieldLink RX6 97 "PinnaceView$Node" "parent" "LPinnaceView$Node;" ∈ WA := inA_r20 _ (List.mem_of_getElem? (i := 12) rfl)
theorem wm469 : Cond.methodLink RX6 90 yX3_declaredOf ∈ WA := inA_r20 _ (List.mem_of_getElem? (i := 13) rfl)
theorem wm470 : Cond.static yX9_isInherited ∈ WA := inA_r20 _ (List.mem_of_getElem? (i := 14) rfl)
theorem wm471 : Cond.code yX9_isInherited cX9_isInherited 1 (some .boolean) ∈ WA := inA_r20 _ (List.mem_of_getElem? (i := 15) rfl)
theorem wm472 : Cond.methodLink RX6 33 yX6_of ∈ WA := inA_r20 _ (List.mem_of_getElem? (i := 16) rfl)
theorem wm473 : Cond.instanceMethod yX6_of ∈ WA := inA_r20 _ (List.mem_of_getElem? (i := 17) rfl)
theorem wm474 : Cond.selects RX6 yX6_of yX6_of ∈ WA := inA_r20 _ (List.mem_of_getElem? (i := 18) rfl)
theorem wm475 : Cond.code yX6_of cX6_of 5 (some .int) ∈ WA := inA_r20 _ (List.mem_of_getElem? (i := 19) rfl)
theorem wm476 : Cond.methodLink RX9 353 yX4_layOut ∈ WA := inA_r20 _ (List.mem_of_getElem? (i := 20) rfl)
theorem wm477 : Cond.instanceMethod yX4_layOut ∈ WA := inA_r20 _ (List.mem_of_getElem? (i := 21) rfl)
theorem wm478 : Cond.selects RX4 yX4_layOut yX4_layOut ∈ WA := inA_r20 _ (List.mem_of_getElem? (i := 22) rfl)
theorem wm479 : Cond.code yX4_layOut cX4_layOut 4 none ∈ WA := inA_r20 _ (List.mem_of_getElem? (i := 23) rfl)
theorem inA_r21 : ∀ w ∈ wsL_law0_r21, w ∈ WA := fun _ h => List.mem_append_left _ (List.mem_append_left _ (List.mem_append_left _ (List.mem_append_left _ (List.mem_append_left _ (List.mem_append_left _ (List.mem_append_left _ (List.mem_append_left _ (List.mem_append_left _ (List.mem_append_left _ (List.mem_append_left _ (List.mem_append_left _ (List.mem_append_right _ (List.mem_append_right _ (List.mem_append_right _ (List.mem_append_right _ (List.mem_append_right _ (List.mem_append_right _ (List.mem_append_right _ (List.mem_append_right _ (List.mem_append_right _ (List.mem_append_right _ (List.mem_append_right _ (List.mem_append_right _ (List.mem_append_right _ (List.mem_append_right _ (List.mem_append_right _ (List.mem_append_right _ (List.mem_append_right _ (List.mem_append_right _ (List.mem_append_right _ (List.mem_append_right _ (List.mem_append_left _ h))))))))))))))))))))))))))))))))
theorem gdA_r21 : ∀ w ∈ wsL_law0_r21, goodWord w = true := List.all_eq_true.mp (by decide +kernel)
theorem wm480 : Cond.fieldLink RX4 46 "PinnaceView$Tree" "order" "Ljava/util/ArrayList;" ∈ WA := inA_r21 _ (List.mem_of_getElem? (i := 0) rfl)
theorem wm481 : Cond.fieldLink RX4 59 "PinnaceView$Tree" "root" "LPinnaceView$Node;" ∈ WA := inA_r21 _ (List.mem_of_getElem? (i := 1) rfl)
theorem wm482 : Cond.fieldLink RX4 63 "PinnaceView$Node" "layout" "LPinnaceView$Layout;" ∈ WA := inA_r21 _ (List.mem_of_getElem? (i := 2) rfl)
theorem wm483 : Cond.fieldLink RX4 69 "PinnaceView$Layout" "edge" "I" ∈ WA := inA_r21 _ (List.mem_of_getElem? (i := 3) rfl)
theorem wm484 : Cond.fieldLink RX4 74 "PinnaceView$Layout" "left" "I" ∈ WA := inA_r21 _ (List.mem_of_getElem? (i := 4) rfl)
theorem wm485 : Cond.fieldLink RX4 77 "PinnaceView$Layout" "top" "I" ∈ WA := inA_r21 _ (List.mem_of_getElem? (i := 5) rfl)
theorem wm486 : Cond.fieldLink RX4 84 "PinnaceView$Layout" "wide" "I" ∈ WA := inA_r21 _ (List.mem_of_getElem? (i := 6) rfl)
theorem wm487 : Cond.fieldLink RX4 87 "PinnaceView$Node" "flow" "LPinnaceView$Flow;" ∈ WA := inA_r21 _ (List.mem_of_getElem? (i := 7) rfl)
theorem wm488 : Cond.fieldLink RX4 91 "PinnaceView$Node" "number" "I" ∈ WA := inA_r21 _ (List.mem_of_getElem? (i := 8) rfl)
theorem wm489 : Cond.fieldLink RX4 94 "PinnaceView$Flow" "room" "I" ∈ WA := inA_r21 _ (List.mem_of_getElem? (i := 9) rfl)
theorem wm490 : Cond.methodLink RX4 42 yX0_clear ∈ WA := inA_r21 _ (List.mem_of_getElem? (i := 10) rfl)
theorem wm491 : Cond.instanceMethod yX0_clear ∈ WA := inA_r21 _ (List.mem_of_getElem? (i := 11) rfl)
theorem wm492 : Cond.selects RX0 yX0_clear yX0_clear ∈ WA := inA_r21 _ (List.mem_of_getElem? (i := 12) rfl)
theorem wm493 : Cond.code yX0_clear cX0_clear 1 none ∈ WA := inA_r21 _ (List.mem_of_getElem? (i := 13) rfl)
theorem wm494 : Cond.methodLink RX4 45 yX8_clear ∈ WA := inA_r21 _ (List.mem_of_getElem? (i := 14) rfl)
theorem wm495 : Cond.instanceMethod yX8_clear ∈ WA := inA_r21 _ (List.mem_of_getElem? (i := 15) rfl)
theorem wm496 : Cond.selects RX8 yX8_clear yX8_clear ∈ WA := inA_r21 _ (List.mem_of_getElem? (i := 16) rfl)
theorem wm497 : Cond.code yX8_clear cX8_clear 1 none ∈ WA := inA_r21 _ (List.mem_of_getElem? (i := 17) rfl)
theorem wm498 : Cond.methodLink RX4 52 yX4_prepare ∈ WA := inA_r21 _ (List.mem_of_getElem? (i := 18) rfl)
theorem wm499 : Cond.instanceMethod yX4_prepare ∈ WA := inA_r21 _ (List.mem_of_getElem? (i := 19) rfl)
theorem wm500 : Cond.selects RX4 yX4_prepare yX4_prepare ∈ WA := inA_r21 _ (List.mem_of_getElem? (i := 20) rfl)
theorem wm501 : Cond.code yX4_prepare cX4_prepare 5 none ∈ WA := inA_r21 _ (List.mem_of_getElem? (i := 21) rfl)
theorem wm502 : Cond.classLink RX4 64 "PinnaceView$Node" ∈ WA := inA_r21 _ (List.mem_of_getElem? (i := 22) rfl)
theorem wm503 : Cond.fieldLink RX4 116 "PinnaceView$Layout" "sort" "I" ∈ WA := inA_r21 _ (List.mem_of_getElem? (i := 23) rfl)
theorem inA_r22 : ∀ w ∈ wsL_law0_r22, w ∈ WA := fun _ h => List.mem_append_left _ (List.mem_append_left _ (List.mem_append_left _ (List.mem_append_left _ (List.mem_append_left _ (List.mem_append_left _ (List.mem_append_left _ (List.mem_append_left _ (List.mem_append_left _ (List.mem_append_left _ (List.mem_append_left _ (List.mem_append_left _ (List.mem_append_right _ (List.mem_append_right _ (List.mem_append_right _ (List.mem_append_right _ (List.mem_append_right _ (List.mem_append_right _ (List.mem_append_right _ (List.mem_append_right _ (List.mem_append_right _ (List.mem_append_right _ (List.mem_append_right _ (List.mem_append_right _ (List.mem_append_right _ (List.mem_append_right _ (List.mem_append_right _ (List.mem_append_right _ (List.mem_append_right _ (List.mem_append_right _ (List.mem_append_right _ (List.mem_append_right _ (List.mem_append_right _ (List.mem_append_left _ h)))))))))))))))))))))))))))))))))
theorem gdA_r22 : ∀ w ∈ wsL_law0_r22, goodWord w = true := List.all_eq_true.mp (by decide +kernel)
theorem wm504 : Cond.fieldLink RX4 161 "PinnaceView$Layout" "home" "LPinnaceView$Node;" ∈ WA := inA_r22 _ (List.mem_of_getElem? (i := 0) rfl)
theorem wm505 : Cond.fieldLink RX4 164 "PinnaceView$Layout" "inset" "I" ∈ WA := inA_r22 _ (List.mem_of_getElem? (i := 1) rfl)
theorem wm506 : Cond.fieldLink RX4 171 "PinnaceView$Layout" "isScrolling" "Z" ∈ WA := inA_r22 _ (List.mem_of_getElem? (i := 2) rfl)
theorem wm507 : Cond.methodLink RX4 143 yJx4a65c_size_8abf5 ∈ WA := inA_r22 _ (List.mem_of_getElem? (i := 3) rfl)
theorem wm508 : Cond.methodLink RX4 149 yJx4a65c_get_915e3 ∈ WA := inA_r22 _ (List.mem_of_getElem? (i := 4) rfl)
theorem wm509 : Cond.methodLink RX4 153 yX4_sortFor ∈ WA := inA_r22 _ (List.mem_of_getElem? (i := 5) rfl)
theorem wm510 : Cond.instanceMethod yX4_sortFor ∈ WA := inA_r22 _ (List.mem_of_getElem? (i := 6) rfl)
theorem wm511 : Cond.selects RX4 yX4_sortFor yX4_sortFor ∈ WA := inA_r22 _ (List.mem_of_getElem? (i := 7) rfl)
theorem wm512 : Cond.code yX4_sortFor cX4_sortFor 2 (some .int) ∈ WA := inA_r22 _ (List.mem_of_getElem? (i := 8) rfl)
theorem wm513 : Cond.fieldLink RX4 133 "PinnaceView$Node" "parent" "LPinnaceView$Node;" ∈ WA := inA_r22 _ (List.mem_of_getElem? (i := 9) rfl)
theorem wm514 : Cond.fieldLink RX4 175 "PinnaceView$Node" "isText" "Z" ∈ WA := inA_r22 _ (List.mem_of_getElem? (i := 10) rfl)
theorem wm515 : Cond.methodLink RX4 110 yX6_of ∈ WA := inA_r22 _ (List.mem_of_getElem? (i := 11) rfl)
theorem wm516 : Cond.methodLink RX4 157 yX4_homeFor ∈ WA := inA_r22 _ (List.mem_of_getElem? (i := 12) rfl)
theorem wm517 : Cond.static yX4_homeFor ∈ WA := inA_r22 _ (List.mem_of_getElem? (i := 13) rfl)
theorem wm518 : Cond.code yX4_homeFor cX4_homeFor 1 (some (.object "PinnaceView$Node")) ∈ WA := inA_r22 _ (List.mem_of_getElem? (i := 14) rfl)
theorem wm519 : Cond.methodLink RX4 167 yX2_isBox ∈ WA := inA_r22 _ (List.mem_of_getElem? (i := 15) rfl)
theorem wm520 : Cond.instanceMethod yX2_isBox ∈ WA := inA_r22 _ (List.mem_of_getElem? (i := 16) rfl)
theorem wm521 : Cond.selects RX2 yX2_isBox yX2_isBox ∈ WA := inA_r22 _ (List.mem_of_getElem? (i := 17) rfl)
theorem wm522 : Cond.code yX2_isBox cX2_isBox 1 (some .boolean) ∈ WA := inA_r22 _ (List.mem_of_getElem? (i := 18) rfl)
theorem wm523 : Cond.methodLink RX4 56 yX4_findWishes ∈ WA := inA_r22 _ (List.mem_of_getElem? (i := 19) rfl)
theorem wm524 : Cond.instanceMethod yX4_findWishes ∈ WA := inA_r22 _ (List.mem_of_getElem? (i := 20) rfl)
theorem wm525 : Cond.selects RX4 yX4_findWishes yX4_findWishes ∈ WA := inA_r22 _ (List.mem_of_getElem? (i := 21) rfl)
theorem wm526 : Cond.code yX4_findWishes cX4_findWishes 3 none ∈ WA := inA_r22 _ (List.mem_of_getElem? (i := 22) rfl)
theorem wm527 : Cond.methodLink RX4 178 yX4_findWish ∈ WA := inA_r22 _ (List.mem_of_getElem? (i := 23) rfl)
theorem inA_r23 : ∀ w ∈ wsL_law0_r23, w ∈ WA := fun _ h => List.mem_append_left _ (List.mem_append_left _ (List.mem_append_left _ (List.mem_append_left _ (List.mem_append_left _ (List.mem_append_left _ (List.mem_append_left _ (List.mem_append_left _ (List.mem_append_left _ (List.mem_append_left _ (List.mem_append_left _ (List.mem_append_left _ (List.mem_append_right _ (List.mem_append_right _ (List.mem_append_right _ (List.mem_append_right _ (List.mem_append_right _ (List.mem_append_right _ (List.mem_append_right _ (List.mem_append_right _ (List.mem_append_right _ (List.mem_append_right _ (List.mem_append_right _ (List.mem_append_right _ (List.mem_append_right _ (List.mem_append_right _ (List.mem_append_right _ (List.mem_append_right _ (List.mem_append_right _ (List.mem_append_right _ (List.mem_append_right _ (List.mem_append_right _ (List.mem_append_right _ (List.mem_append_right _ (List.mem_append_left _ h))))))))))))))))))))))))))))))))))
theorem gdA_r23 : ∀ w ∈ wsL_law0_r23, goodWord w = true := List.all_eq_true.mp (by decide +kernel)
theorem wm528 : Cond.instanceMethod yX4_findWish ∈ WA := inA_r23 _ (List.mem_of_getElem? (i := 0) rfl)
theorem wm529 : Cond.selects RX4 yX4_findWish yX4_findWish ∈ WA := inA_r23 _ (List.mem_of_getElem? (i := 1) rfl)
theorem wm530 : Cond.code yX4_findWish cX4_findWish 6 none ∈ WA := inA_r23 _ (List.mem_of_getElem? (i := 2) rfl)
theorem wm531 : Cond.fieldLink RX4 182 "PinnaceView$Flow" "wish" "I" ∈ WA := inA_r23 _ (List.mem_of_getElem? (i := 3) rfl)
theorem wm532 : Cond.fieldLink RX4 185 "PinnaceView$Flow" "waiting" "I" ∈ WA := inA_r23 _ (List.mem_of_getElem? (i := 4) rfl)
theorem wm533 : Cond.methodLink RX4 187 Lib.Math.max.name ∈ WA := inA_r23 _ (List.mem_of_getElem? (i := 5) rfl)
theorem wm534 : Cond.methodLink RX4 80 yX4_widthOr ∈ WA := inA_r23 _ (List.mem_of_getElem? (i := 6) rfl)
theorem wm535 : Cond.instanceMethod yX4_widthOr ∈ WA := inA_r23 _ (List.mem_of_getElem? (i := 7) rfl)
theorem wm536 : Cond.selects RX4 yX4_widthOr yX4_widthOr ∈ WA := inA_r23 _ (List.mem_of_getElem? (i := 8) rfl)
theorem wm537 : Cond.code yX4_widthOr cX4_widthOr 4 (some .int) ∈ WA := inA_r23 _ (List.mem_of_getElem? (i := 9) rfl)
theorem wm538 : Cond.methodLink RX4 193 yX4_addToWish ∈ WA := inA_r23 _ (List.mem_of_getElem? (i := 10) rfl)
theorem wm539 : Cond.instanceMethod yX4_addToWish ∈ WA := inA_r23 _ (List.mem_of_getElem? (i := 11) rfl)
theorem wm540 : Cond.selects RX4 yX4_addToWish yX4_addToWish ∈ WA := inA_r23 _ (List.mem_of_getElem? (i := 12) rfl)
theorem wm541 : Cond.code yX4_addToWish cX4_addToWish 5 none ∈ WA := inA_r23 _ (List.mem_of_getElem? (i := 13) rfl)
theorem wm542 : Cond.fieldLink RX4 113 "PinnaceView$Node" "words" "I" ∈ WA := inA_r23 _ (List.mem_of_getElem? (i := 14) rfl)
theorem wm543 : Cond.methodLink RX4 123 yX3_lettersOf ∈ WA := inA_r23 _ (List.mem_of_getElem? (i := 15) rfl)
theorem wm544 : Cond.instanceMethod yX3_lettersOf ∈ WA := inA_r23 _ (List.mem_of_getElem? (i := 16) rfl)
theorem wm545 : Cond.selects RX3 yX3_lettersOf yX3_lettersOf ∈ WA := inA_r23 _ (List.mem_of_getElem? (i := 17) rfl)
theorem wm546 : Cond.code yX3_lettersOf cX3_lettersOf 2 (some .int) ∈ WA := inA_r23 _ (List.mem_of_getElem? (i := 18) rfl)
theorem wm547 : Cond.methodLink RX3 71 yX3_hasWord ∈ WA := inA_r23 _ (List.mem_of_getElem? (i := 19) rfl)
theorem wm548 : Cond.instanceMethod yX3_hasWord ∈ WA := inA_r23 _ (List.mem_of_getElem? (i := 20) rfl)
theorem wm549 : Cond.selects RX3 yX3_hasWord yX3_hasWord ∈ WA := inA_r23 _ (List.mem_of_getElem? (i := 21) rfl)
theorem wm550 : Cond.code yX3_hasWord cX3_hasWord 2 (some .boolean) ∈ WA := inA_r23 _ (List.mem_of_getElem? (i := 22) rfl)
theorem wm551 : Cond.methodLink RX4 99 yX4_fill ∈ WA := inA_r23 _ (List.mem_of_getElem? (i := 23) rfl)
theorem inA_r24 : ∀ w ∈ wsL_law0_r24, w ∈ WA := fun _ h => List.mem_append_left _ (List.mem_append_left _ (List.mem_append_left _ (List.mem_append_left _ (List.mem_append_left _ (List.mem_append_left _ (List.mem_append_left _ (List.mem_append_left _ (List.mem_append_left _ (List.mem_append_left _ (List.mem_append_left _ (List.mem_append_left _ (List.mem_append_right _ (List.mem_append_right _ (List.mem_append_right _ (List.mem_append_right _ (List.mem_append_right _ (List.mem_append_right _ (List.mem_append_right _ (List.mem_append_right _ (List.mem_append_right _ (List.mem_append_right _ (List.mem_append_right _ (List.mem_append_right _ (List.mem_append_right _ (List.mem_append_right _ (List.mem_append_right _ (List.mem_append_right _ (List.mem_append_right _ (List.mem_append_right _ (List.mem_append_right _ (List.mem_append_right _ (List.mem_append_right _ (List.mem_append_right _ (List.mem_append_right _ (List.mem_append_left _ h)))))))))))))))))))))))))))))))))))
theorem gdA_r24 : ∀ w ∈ wsL_law0_r24, goodWord w = true := List.all_eq_true.mp (by decide +kernel)
theorem wm552 : Cond.instanceMethod yX4_fill ∈ WA := inA_r24 _ (List.mem_of_getElem? (i := 0) rfl)
theorem wm553 : Cond.selects RX4 yX4_fill yX4_fill ∈ WA := inA_r24 _ (List.mem_of_getElem? (i := 1) rfl)
theorem wm554 : Cond.code yX4_fill cX4_fill 7 none ∈ WA := inA_r24 _ (List.mem_of_getElem? (i := 2) rfl)
theorem wm555 : Cond.fieldLink RX4 197 "PinnaceView$Flow" "cursor" "I" ∈ WA := inA_r24 _ (List.mem_of_getElem? (i := 3) rfl)
theorem wm556 : Cond.fieldLink RX4 200 "PinnaceView$Flow" "gap" "I" ∈ WA := inA_r24 _ (List.mem_of_getElem? (i := 4) rfl)
theorem wm557 : Cond.fieldLink RX4 203 "PinnaceView$Layout" "lineCount" "I" ∈ WA := inA_r24 _ (List.mem_of_getElem? (i := 5) rfl)
theorem wm558 : Cond.fieldLink RX4 215 "PinnaceView$Layout" "reach" "I" ∈ WA := inA_r24 _ (List.mem_of_getElem? (i := 6) rfl)
theorem wm559 : Cond.fieldLink RX4 218 "PinnaceView$Layout" "high" "I" ∈ WA := inA_r24 _ (List.mem_of_getElem? (i := 7) rfl)
theorem wm560 : Cond.methodLink RX4 204 yX4_putFlow ∈ WA := inA_r24 _ (List.mem_of_getElem? (i := 8) rfl)
theorem wm561 : Cond.instanceMethod yX4_putFlow ∈ WA := inA_r24 _ (List.mem_of_getElem? (i := 9) rfl)
theorem wm562 : Cond.selects RX4 yX4_putFlow yX4_putFlow ∈ WA := inA_r24 _ (List.mem_of_getElem? (i := 10) rfl)
theorem wm563 : Cond.methodLink RX4 207 yX4_putLines ∈ WA := inA_r24 _ (List.mem_of_getElem? (i := 11) rfl)
theorem wm564 : Cond.instanceMethod yX4_putLines ∈ WA := inA_r24 _ (List.mem_of_getElem? (i := 12) rfl)
theorem wm565 : Cond.selects RX4 yX4_putLines yX4_putLines ∈ WA := inA_r24 _ (List.mem_of_getElem? (i := 13) rfl)
theorem wm566 : Cond.code yX4_putLines cX4_putLines 10 none ∈ WA := inA_r24 _ (List.mem_of_getElem? (i := 14) rfl)
theorem wm567 : Cond.fieldLink RX4 252 "PinnaceView$Waiting" "count" "I" ∈ WA := inA_r24 _ (List.mem_of_getElem? (i := 15) rfl)
theorem wm568 : Cond.fieldLink RX4 245 "PinnaceView$Floats" "spanEnd" "I" ∈ WA := inA_r24 _ (List.mem_of_getElem? (i := 16) rfl)
theorem wm569 : Cond.fieldLink RX4 242 "PinnaceView$Floats" "spanBegin" "I" ∈ WA := inA_r24 _ (List.mem_of_getElem? (i := 17) rfl)
theorem wm570 : Cond.fieldLink RX4 261 "PinnaceView$Waiting" "lineWide" "I" ∈ WA := inA_r24 _ (List.mem_of_getElem? (i := 18) rfl)
theorem wm571 : Cond.fieldLink RX4 268 "PinnaceView$Waiting" "lineFont" "I" ∈ WA := inA_r24 _ (List.mem_of_getElem? (i := 19) rfl)
theorem wm572 : Cond.methodLink RX4 255 yX8_widthOf ∈ WA := inA_r24 _ (List.mem_of_getElem? (i := 20) rfl)
theorem wm573 : Cond.instanceMethod yX8_widthOf ∈ WA := inA_r24 _ (List.mem_of_getElem? (i := 21) rfl)
theorem wm574 : Cond.selects RX8 yX8_widthOf yX8_widthOf ∈ WA := inA_r24 _ (List.mem_of_getElem? (i := 22) rfl)
theorem wm575 : Cond.code yX8_widthOf cX8_widthOf 2 (some .int) ∈ WA := inA_r24 _ (List.mem_of_getElem? (i := 23) rfl)
theorem inA_r25 : ∀ w ∈ wsL_law0_r25, w ∈ WA := fun _ h => List.mem_append_left _ (List.mem_append_left _ (List.mem_append_left _ (List.mem_append_left _ (List.mem_append_left _ (List.mem_append_left _ (List.mem_append_left _ (List.mem_append_left _ (List.mem_append_left _ (List.mem_append_left _ (List.mem_append_left _ (List.mem_append_left _ (List.mem_append_right _ (List.mem_append_right _ (List.mem_append_right _ (List.mem_append_right _ (List.mem_append_right _ (List.mem_append_right _ (List.mem_append_right _ (List.mem_append_right _ (List.mem_append_right _ (List.mem_append_right _ (List.mem_append_right _ (List.mem_append_right _ (List.mem_append_right _ (List.mem_append_right _ (List.mem_append_right _ (List.mem_append_right _ (List.mem_append_right _ (List.mem_append_right _ (List.mem_append_right _ (List.mem_append_right _ (List.mem_append_right _ (List.mem_append_right _ (List.mem_append_right _ (List.mem_append_right _ (List.mem_append_left _ h))))))))))))))))))))))))))))))))))))
theorem gdA_r25 : ∀ w ∈ wsL_law0_r25, goodWord w = true := List.all_eq_true.mp (by decide +kernel)
theorem wm576 : Cond.methodLink RX4 238 yX0_findRoom ∈ WA := inA_r25 _ (List.mem_of_getElem? (i := 0) rfl)
theorem wm577 : Cond.instanceMethod yX0_findRoom ∈ WA := inA_r25 _ (List.mem_of_getElem? (i := 1) rfl)
theorem wm578 : Cond.selects RX0 yX0_findRoom yX0_findRoom ∈ WA := inA_r25 _ (List.mem_of_getElem? (i := 2) rfl)
theorem wm579 : Cond.code yX0_findRoom cX0_findRoom 6 (some .int) ∈ WA := inA_r25 _ (List.mem_of_getElem? (i := 3) rfl)
theorem wm580 : Cond.methodLink RX0 49 yX0_look ∈ WA := inA_r25 _ (List.mem_of_getElem? (i := 4) rfl)
theorem wm581 : Cond.instanceMethod yX0_look ∈ WA := inA_r25 _ (List.mem_of_getElem? (i := 5) rfl)
theorem wm582 : Cond.selects RX0 yX0_look yX0_look ∈ WA := inA_r25 _ (List.mem_of_getElem? (i := 6) rfl)
theorem wm583 : Cond.code yX0_look cX0_look 4 none ∈ WA := inA_r25 _ (List.mem_of_getElem? (i := 7) rfl)
theorem wm584 : Cond.fieldLink RX0 53 "PinnaceView$Node" "layout" "LPinnaceView$Layout;" ∈ WA := inA_r25 _ (List.mem_of_getElem? (i := 8) rfl)
theorem wm585 : Cond.fieldLink RX0 59 "PinnaceView$Layout" "left" "I" ∈ WA := inA_r25 _ (List.mem_of_getElem? (i := 9) rfl)
theorem wm586 : Cond.fieldLink RX0 64 "PinnaceView$Layout" "wide" "I" ∈ WA := inA_r25 _ (List.mem_of_getElem? (i := 10) rfl)
theorem wm587 : Cond.fieldLink RX0 67 "PinnaceView$Node" "flow" "LPinnaceView$Flow;" ∈ WA := inA_r25 _ (List.mem_of_getElem? (i := 11) rfl)
theorem wm588 : Cond.fieldLink RX0 71 "PinnaceView$Flow" "room" "I" ∈ WA := inA_r25 _ (List.mem_of_getElem? (i := 12) rfl)
theorem wm589 : Cond.methodLink RX0 76 Lib.Math.min.name ∈ WA := inA_r25 _ (List.mem_of_getElem? (i := 13) rfl)
theorem wm590 : Cond.methodLink RX0 43 Lib.Math.max.name ∈ WA := inA_r25 _ (List.mem_of_getElem? (i := 14) rfl)
theorem wm591 : Cond.methodLink RX4 258 yX8_takeLine ∈ WA := inA_r25 _ (List.mem_of_getElem? (i := 15) rfl)
theorem wm592 : Cond.instanceMethod yX8_takeLine ∈ WA := inA_r25 _ (List.mem_of_getElem? (i := 16) rfl)
theorem wm593 : Cond.selects RX8 yX8_takeLine yX8_takeLine ∈ WA := inA_r25 _ (List.mem_of_getElem? (i := 17) rfl)
theorem wm594 : Cond.code yX8_takeLine cX8_takeLine 5 (some .int) ∈ WA := inA_r25 _ (List.mem_of_getElem? (i := 18) rfl)
theorem wm595 : Cond.methodLink RX8 43 Lib.Math.max.name ∈ WA := inA_r25 _ (List.mem_of_getElem? (i := 19) rfl)
theorem wm596 : Cond.methodLink RX4 264 yX8_setLine ∈ WA := inA_r25 _ (List.mem_of_getElem? (i := 20) rfl)
theorem wm597 : Cond.instanceMethod yX8_setLine ∈ WA := inA_r25 _ (List.mem_of_getElem? (i := 21) rfl)
theorem wm598 : Cond.selects RX8 yX8_setLine yX8_setLine ∈ WA := inA_r25 _ (List.mem_of_getElem? (i := 22) rfl)
theorem wm599 : Cond.code yX8_setLine cX8_setLine 7 none ∈ WA := inA_r25 _ (List.mem_of_getElem? (i := 23) rfl)
theorem inA_r26 : ∀ w ∈ wsL_law0_r26, w ∈ WA := fun _ h => List.mem_append_left _ (List.mem_append_left _ (List.mem_append_left _ (List.mem_append_left _ (List.mem_append_left _ (List.mem_append_left _ (List.mem_append_left _ (List.mem_append_left _ (List.mem_append_left _ (List.mem_append_left _ (List.mem_append_left _ (List.mem_append_left _ (List.mem_append_right _ (List.mem_append_right _ (List.mem_append_right _ (List.mem_append_right _ (List.mem_append_right _ (List.mem_append_right _ (List.mem_append_right _ (List.mem_append_right _ (List.mem_append_right _ (List.mem_append_right _ (List.mem_append_right _ (List.mem_append_right _ (List.mem_append_right _ (List.mem_append_right _ (List.mem_append_right _ (List.mem_append_right _ (List.mem_append_right _ (List.mem_append_right _ (List.mem_append_right _ (List.mem_append_right _ (List.mem_append_right _ (List.mem_append_right _ (List.mem_append_right _ (List.mem_append_right _ (List.mem_append_right _ (List.mem_append_left _ h)))))))))))))))))))))))))))))))))))))
theorem gdA_r26 : ∀ w ∈ wsL_law0_r26, goodWord w = true := List.all_eq_true.mp (by decide +kernel)
theorem wm600 : Cond.fieldLink RX8 49 "PinnaceView$Node" "layout" "LPinnaceView$Layout;" ∈ WA := inA_r26 _ (List.mem_of_getElem? (i := 0) rfl)
theorem wm601 : Cond.methodLink RX8 53 yX2_setWord ∈ WA := inA_r26 _ (List.mem_of_getElem? (i := 1) rfl)
theorem wm602 : Cond.instanceMethod yX2_setWord ∈ WA := inA_r26 _ (List.mem_of_getElem? (i := 2) rfl)
theorem wm603 : Cond.selects RX2 yX2_setWord yX2_setWord ∈ WA := inA_r26 _ (List.mem_of_getElem? (i := 3) rfl)
theorem wm604 : Cond.code yX2_setWord cX2_setWord 4 none ∈ WA := inA_r26 _ (List.mem_of_getElem? (i := 4) rfl)
theorem wm605 : Cond.methodLink RX4 211 yX0_belowBottoms ∈ WA := inA_r26 _ (List.mem_of_getElem? (i := 5) rfl)
theorem wm606 : Cond.instanceMethod yX0_belowBottoms ∈ WA := inA_r26 _ (List.mem_of_getElem? (i := 6) rfl)
theorem wm607 : Cond.selects RX0 yX0_belowBottoms yX0_belowBottoms ∈ WA := inA_r26 _ (List.mem_of_getElem? (i := 7) rfl)
theorem wm608 : Cond.code yX0_belowBottoms cX0_belowBottoms 6 (some .int) ∈ WA := inA_r26 _ (List.mem_of_getElem? (i := 8) rfl)
theorem wm609 : Cond.code yX4_putBlock cX4_putBlock 8 none ∈ WA := inA_r26 _ (List.mem_of_getElem? (i := 9) rfl)
theorem wm610 : Cond.code yX4_putFloat cX4_putFloat 12 none ∈ WA := inA_r26 _ (List.mem_of_getElem? (i := 10) rfl)
theorem wm611 : Cond.methodLink RX4 232 Lib.Math.min.name ∈ WA := inA_r26 _ (List.mem_of_getElem? (i := 11) rfl)
theorem wm612 : Cond.methodLink RX4 235 yX0_belowTops ∈ WA := inA_r26 _ (List.mem_of_getElem? (i := 12) rfl)
theorem wm613 : Cond.instanceMethod yX0_belowTops ∈ WA := inA_r26 _ (List.mem_of_getElem? (i := 13) rfl)
theorem wm614 : Cond.selects RX0 yX0_belowTops yX0_belowTops ∈ WA := inA_r26 _ (List.mem_of_getElem? (i := 14) rfl)
theorem wm615 : Cond.code yX0_belowTops cX0_belowTops 5 (some .int) ∈ WA := inA_r26 _ (List.mem_of_getElem? (i := 15) rfl)
theorem wm616 : Cond.methodLink RX4 248 yX0_put ∈ WA := inA_r26 _ (List.mem_of_getElem? (i := 16) rfl)
theorem wm617 : Cond.instanceMethod yX0_put ∈ WA := inA_r26 _ (List.mem_of_getElem? (i := 17) rfl)
theorem wm618 : Cond.selects RX0 yX0_put yX0_put ∈ WA := inA_r26 _ (List.mem_of_getElem? (i := 18) rfl)
theorem wm619 : Cond.code yX0_put cX0_put 7 none ∈ WA := inA_r26 _ (List.mem_of_getElem? (i := 19) rfl)
theorem wm620 : Cond.code yX4_putFlow cX4_putFlow 7 none ∈ WA := inA_r26 _ (List.mem_of_getElem? (i := 20) rfl)
theorem wm621 : Cond.methodLink RX4 221 yX8_add ∈ WA := inA_r26 _ (List.mem_of_getElem? (i := 21) rfl)
theorem wm622 : Cond.instanceMethod yX8_add ∈ WA := inA_r26 _ (List.mem_of_getElem? (i := 22) rfl)
theorem wm623 : Cond.selects RX8 yX8_add yX8_add ∈ WA := inA_r26 _ (List.mem_of_getElem? (i := 23) rfl)
theorem inA_r27 : ∀ w ∈ wsL_law0_r27, w ∈ WA := fun _ h => List.mem_append_left _ (List.mem_append_left _ (List.mem_append_left _ (List.mem_append_left _ (List.mem_append_left _ (List.mem_append_left _ (List.mem_append_left _ (List.mem_append_left _ (List.mem_append_left _ (List.mem_append_left _ (List.mem_append_left _ (List.mem_append_left _ (List.mem_append_right _ (List.mem_append_right _ (List.mem_append_right _ (List.mem_append_right _ (List.mem_append_right _ (List.mem_append_right _ (List.mem_append_right _ (List.mem_append_right _ (List.mem_append_right _ (List.mem_append_right _ (List.mem_append_right _ (List.mem_append_right _ (List.mem_append_right _ (List.mem_append_right _ (List.mem_append_right _ (List.mem_append_right _ (List.mem_append_right _ (List.mem_append_right _ (List.mem_append_right _ (List.mem_append_right _ (List.mem_append_right _ (List.mem_append_right _ (List.mem_append_right _ (List.mem_append_right _ (List.mem_append_right _ (List.mem_append_right _ (List.mem_append_left _ h))))))))))))))))))))))))))))))))))))))
theorem gdA_r27 : ∀ w ∈ wsL_law0_r27, goodWord w = true := List.all_eq_true.mp (by decide +kernel)
theorem wm624 : Cond.code yX8_add cX8_add 4 none ∈ WA := inA_r27 _ (List.mem_of_getElem? (i := 0) rfl)
theorem wm625 : Cond.fieldLink RX8 37 "PinnaceView$Node" "words" "I" ∈ WA := inA_r27 _ (List.mem_of_getElem? (i := 1) rfl)
theorem wm626 : Cond.methodLink RX8 39 yX3_lettersOf ∈ WA := inA_r27 _ (List.mem_of_getElem? (i := 2) rfl)
theorem wm627 : Cond.methodLink RX4 225 yX4_putBlock ∈ WA := inA_r27 _ (List.mem_of_getElem? (i := 3) rfl)
theorem wm628 : Cond.instanceMethod yX4_putBlock ∈ WA := inA_r27 _ (List.mem_of_getElem? (i := 4) rfl)
theorem wm629 : Cond.selects RX4 yX4_putBlock yX4_putBlock ∈ WA := inA_r27 _ (List.mem_of_getElem? (i := 5) rfl)
theorem wm630 : Cond.methodLink RX4 229 yX4_putFloat ∈ WA := inA_r27 _ (List.mem_of_getElem? (i := 6) rfl)
theorem wm631 : Cond.instanceMethod yX4_putFloat ∈ WA := inA_r27 _ (List.mem_of_getElem? (i := 7) rfl)
theorem wm632 : Cond.selects RX4 yX4_putFloat yX4_putFloat ∈ WA := inA_r27 _ (List.mem_of_getElem? (i := 8) rfl)
theorem wm633 : Cond.methodLink RX4 103 yX4_shift ∈ WA := inA_r27 _ (List.mem_of_getElem? (i := 9) rfl)
theorem wm634 : Cond.instanceMethod yX4_shift ∈ WA := inA_r27 _ (List.mem_of_getElem? (i := 10) rfl)
theorem wm635 : Cond.selects RX4 yX4_shift yX4_shift ∈ WA := inA_r27 _ (List.mem_of_getElem? (i := 11) rfl)
theorem wm636 : Cond.code yX4_shift cX4_shift 5 none ∈ WA := inA_r27 _ (List.mem_of_getElem? (i := 12) rfl)
theorem wm637 : Cond.fieldLink RX4 271 "PinnaceView$Layout" "shiftX" "I" ∈ WA := inA_r27 _ (List.mem_of_getElem? (i := 13) rfl)
theorem wm638 : Cond.fieldLink RX4 274 "PinnaceView$Layout" "shiftY" "I" ∈ WA := inA_r27 _ (List.mem_of_getElem? (i := 14) rfl)
theorem wm639 : Cond.fieldLink RX4 277 "PinnaceView$Node" "offset" "I" ∈ WA := inA_r27 _ (List.mem_of_getElem? (i := 15) rfl)
theorem wm640 : Cond.fieldLink RX4 280 "PinnaceView$Layout" "movedUp" "I" ∈ WA := inA_r27 _ (List.mem_of_getElem? (i := 16) rfl)
theorem wm641 : Cond.methodLink RL 48 yX9_isText ∈ WA := inA_r27 _ (List.mem_of_getElem? (i := 17) rfl)
theorem wm642 : Cond.instanceMethod yX9_isText ∈ WA := inA_r27 _ (List.mem_of_getElem? (i := 18) rfl)
theorem wm643 : Cond.selects RX9 yX9_isText yX9_isText ∈ WA := inA_r27 _ (List.mem_of_getElem? (i := 19) rfl)
theorem wm644 : Cond.code yX9_isText cX9_isText 2 (some .boolean) ∈ WA := inA_r27 _ (List.mem_of_getElem? (i := 20) rfl)
theorem wm645 : Cond.methodLink RL 51 yX9_wideOf ∈ WA := inA_r27 _ (List.mem_of_getElem? (i := 21) rfl)
theorem wm646 : Cond.instanceMethod yX9_wideOf ∈ WA := inA_r27 _ (List.mem_of_getElem? (i := 22) rfl)
theorem wm647 : Cond.selects RX9 yX9_wideOf yX9_wideOf ∈ WA := inA_r27 _ (List.mem_of_getElem? (i := 23) rfl)
theorem inA_r28 : ∀ w ∈ wsL_law0_r28, w ∈ WA := fun _ h => List.mem_append_left _ (List.mem_append_left _ (List.mem_append_left _ (List.mem_append_left _ (List.mem_append_left _ (List.mem_append_left _ (List.mem_append_left _ (List.mem_append_left _ (List.mem_append_left _ (List.mem_append_left _ (List.mem_append_left _ (List.mem_append_left _ (List.mem_append_right _ (List.mem_append_right _ (List.mem_append_right _ (List.mem_append_right _ (List.mem_append_right _ (List.mem_append_right _ (List.mem_append_right _ (List.mem_append_right _ (List.mem_append_right _ (List.mem_append_right _ (List.mem_append_right _ (List.mem_append_right _ (List.mem_append_right _ (List.mem_append_right _ (List.mem_append_right _ (List.mem_append_right _ (List.mem_append_right _ (List.mem_append_right _ (List.mem_append_right _ (List.mem_append_right _ (List.mem_append_right _ (List.mem_append_right _ (List.mem_append_right _ (List.mem_append_right _ (List.mem_append_right _ (List.mem_append_right _ (List.mem_append_right _ (List.mem_append_left _ h)))))))))))))))))))))))))))))))))))))))
theorem gdA_r28 : ∀ w ∈ wsL_law0_r28, goodWord w = true := List.all_eq_true.mp (by decide +kernel)
theorem wm648 : Cond.code yX9_wideOf cX9_wideOf 2 (some .int) ∈ WA := inA_r28 _ (List.mem_of_getElem? (i := 0) rfl)
theorem wm649 : Cond.methodLink RX9 247 yX2_borderWide ∈ WA := inA_r28 _ (List.mem_of_getElem? (i := 1) rfl)
theorem wm650 : Cond.instanceMethod yX2_borderWide ∈ WA := inA_r28 _ (List.mem_of_getElem? (i := 2) rfl)
theorem wm651 : Cond.selects RX2 yX2_borderWide yX2_borderWide ∈ WA := inA_r28 _ (List.mem_of_getElem? (i := 3) rfl)
theorem wm652 : Cond.code yX2_borderWide cX2_borderWide 1 (some .int) ∈ WA := inA_r28 _ (List.mem_of_getElem? (i := 4) rfl)
theorem wm653 : Cond.methodLink RX2 69 yX2_isBox ∈ WA := inA_r28 _ (List.mem_of_getElem? (i := 5) rfl)
theorem wm654 : Cond.methodLink RL 54 yX9_highOf ∈ WA := inA_r28 _ (List.mem_of_getElem? (i := 6) rfl)
theorem wm655 : Cond.instanceMethod yX9_highOf ∈ WA := inA_r28 _ (List.mem_of_getElem? (i := 7) rfl)
theorem wm656 : Cond.selects RX9 yX9_highOf yX9_highOf ∈ WA := inA_r28 _ (List.mem_of_getElem? (i := 8) rfl)
theorem wm657 : Cond.code yX9_highOf cX9_highOf 2 (some .int) ∈ WA := inA_r28 _ (List.mem_of_getElem? (i := 9) rfl)
theorem wm658 : Cond.methodLink RX9 250 yX2_borderHigh ∈ WA := inA_r28 _ (List.mem_of_getElem? (i := 10) rfl)
theorem wm659 : Cond.instanceMethod yX2_borderHigh ∈ WA := inA_r28 _ (List.mem_of_getElem? (i := 11) rfl)
theorem wm660 : Cond.selects RX2 yX2_borderHigh yX2_borderHigh ∈ WA := inA_r28 _ (List.mem_of_getElem? (i := 12) rfl)
theorem wm661 : Cond.code yX2_borderHigh cX2_borderHigh 1 (some .int) ∈ WA := inA_r28 _ (List.mem_of_getElem? (i := 13) rfl)
theorem wm662 : Cond.methodLink RL 57 yX9_reachOf ∈ WA := inA_r28 _ (List.mem_of_getElem? (i := 14) rfl)
theorem wm663 : Cond.instanceMethod yX9_reachOf ∈ WA := inA_r28 _ (List.mem_of_getElem? (i := 15) rfl)
theorem wm664 : Cond.selects RX9 yX9_reachOf yX9_reachOf ∈ WA := inA_r28 _ (List.mem_of_getElem? (i := 16) rfl)
theorem wm665 : Cond.code yX9_reachOf cX9_reachOf 2 (some .int) ∈ WA := inA_r28 _ (List.mem_of_getElem? (i := 17) rfl)
theorem wm666 : Cond.methodLink RX9 253 yX2_reachOrNone ∈ WA := inA_r28 _ (List.mem_of_getElem? (i := 18) rfl)
theorem wm667 : Cond.instanceMethod yX2_reachOrNone ∈ WA := inA_r28 _ (List.mem_of_getElem? (i := 19) rfl)
theorem wm668 : Cond.selects RX2 yX2_reachOrNone yX2_reachOrNone ∈ WA := inA_r28 _ (List.mem_of_getElem? (i := 20) rfl)
theorem wm669 : Cond.code yX2_reachOrNone cX2_reachOrNone 1 (some .int) ∈ WA := inA_r28 _ (List.mem_of_getElem? (i := 21) rfl)
theorem wm670 : Cond.methodLink RL 60 yX9_xOf ∈ WA := inA_r28 _ (List.mem_of_getElem? (i := 22) rfl)
theorem wm671 : Cond.instanceMethod yX9_xOf ∈ WA := inA_r28 _ (List.mem_of_getElem? (i := 23) rfl)
theorem inA_r29 : ∀ w ∈ wsL_law0_r29, w ∈ WA := fun _ h => List.mem_append_left _ (List.mem_append_left _ (List.mem_append_left _ (List.mem_append_left _ (List.mem_append_left _ (List.mem_append_left _ (List.mem_append_left _ (List.mem_append_left _ (List.mem_append_left _ (List.mem_append_left _ (List.mem_append_left _ (List.mem_append_left _ (List.mem_append_right _ (List.mem_append_right _ (List.mem_append_right _ (List.mem_append_right _ (List.mem_append_right _ (List.mem_append_right _ (List.mem_append_right _ (List.mem_append_right _ (List.mem_append_right _ (List.mem_append_right _ (List.mem_append_right _ (List.mem_append_right _ (List.mem_append_right _ (List.mem_append_right _ (List.mem_append_right _ (List.mem_append_right _ (List.mem_append_right _ (List.mem_append_right _ (List.mem_append_right _ (List.mem_append_right _ (List.mem_append_right _ (List.mem_append_right _ (List.mem_append_right _ (List.mem_append_right _ (List.mem_append_right _ (List.mem_append_right _ (List.mem_append_right _ (List.mem_append_right _ (List.mem_append_left _ h))))))))))))))))))))))))))))))))))))))))
theorem gdA_r29 : ∀ w ∈ wsL_law0_r29, goodWord w = true := List.all_eq_true.mp (by decide +kernel)
theorem wm672 : Cond.selects RX9 yX9_xOf yX9_xOf ∈ WA := inA_r29 _ (List.mem_of_getElem? (i := 0) rfl)
theorem wm673 : Cond.code yX9_xOf cX9_xOf 2 (some .int) ∈ WA := inA_r29 _ (List.mem_of_getElem? (i := 1) rfl)
theorem wm674 : Cond.methodLink RX9 241 yX2_borderX ∈ WA := inA_r29 _ (List.mem_of_getElem? (i := 2) rfl)
theorem wm675 : Cond.instanceMethod yX2_borderX ∈ WA := inA_r29 _ (List.mem_of_getElem? (i := 3) rfl)
theorem wm676 : Cond.selects RX2 yX2_borderX yX2_borderX ∈ WA := inA_r29 _ (List.mem_of_getElem? (i := 4) rfl)
theorem wm677 : Cond.code yX2_borderX cX2_borderX 1 (some .int) ∈ WA := inA_r29 _ (List.mem_of_getElem? (i := 5) rfl)
theorem wm678 : Cond.methodLink RL 63 yX9_lines ∈ WA := inA_r29 _ (List.mem_of_getElem? (i := 6) rfl)
theorem wm679 : Cond.instanceMethod yX9_lines ∈ WA := inA_r29 _ (List.mem_of_getElem? (i := 7) rfl)
theorem wm680 : Cond.selects RX9 yX9_lines yX9_lines ∈ WA := inA_r29 _ (List.mem_of_getElem? (i := 8) rfl)
theorem wm681 : Cond.code yX9_lines cX9_lines 2 (some .int) ∈ WA := inA_r29 _ (List.mem_of_getElem? (i := 9) rfl)
theorem wm682 : Cond.methodLink RX9 259 yX2_linesOrNone ∈ WA := inA_r29 _ (List.mem_of_getElem? (i := 10) rfl)
theorem wm683 : Cond.instanceMethod yX2_linesOrNone ∈ WA := inA_r29 _ (List.mem_of_getElem? (i := 11) rfl)
theorem wm684 : Cond.selects RX2 yX2_linesOrNone yX2_linesOrNone ∈ WA := inA_r29 _ (List.mem_of_getElem? (i := 12) rfl)
theorem wm685 : Cond.code yX2_linesOrNone cX2_linesOrNone 1 (some .int) ∈ WA := inA_r29 _ (List.mem_of_getElem? (i := 13) rfl)
theorem wm686 : Cond.methodLink RL 66 yX9_scrolled ∈ WA := inA_r29 _ (List.mem_of_getElem? (i := 14) rfl)
theorem wm687 : Cond.instanceMethod yX9_scrolled ∈ WA := inA_r29 _ (List.mem_of_getElem? (i := 15) rfl)
theorem wm688 : Cond.selects RX9 yX9_scrolled yX9_scrolled ∈ WA := inA_r29 _ (List.mem_of_getElem? (i := 16) rfl)
theorem wm689 : Cond.code yX9_scrolled cX9_scrolled 2 (some .int) ∈ WA := inA_r29 _ (List.mem_of_getElem? (i := 17) rfl)
theorem wm690 : Cond.fieldLink RX9 256 "PinnaceView$Layout" "movedUp" "I" ∈ WA := inA_r29 _ (List.mem_of_getElem? (i := 18) rfl)
theorem wm691 : Cond.methodLink RL 69 yX9_parent ∈ WA := inA_r29 _ (List.mem_of_getElem? (i := 19) rfl)
theorem wm692 : Cond.instanceMethod yX9_parent ∈ WA := inA_r29 _ (List.mem_of_getElem? (i := 20) rfl)
theorem wm693 : Cond.selects RX9 yX9_parent yX9_parent ∈ WA := inA_r29 _ (List.mem_of_getElem? (i := 21) rfl)
theorem wm694 : Cond.code yX9_parent cX9_parent 3 (some .int) ∈ WA := inA_r29 _ (List.mem_of_getElem? (i := 22) rfl)
theorem wm695 : Cond.fieldLink RX9 94 "PinnaceView$Node" "parent" "LPinnaceView$Node;" ∈ WA := inA_r29 _ (List.mem_of_getElem? (i := 23) rfl)
theorem inA_r30 : ∀ w ∈ wsL_law0_r30, w ∈ WA := fun _ h => List.mem_append_left _ (List.mem_append_left _ (List.mem_append_left _ (List.mem_append_left _ (List.mem_append_left _ (List.mem_append_left _ (List.mem_append_left _ (List.mem_append_left _ (List.mem_append_left _ (List.mem_append_left _ (List.mem_append_left _ (List.mem_append_left _ (List.mem_append_right _ (List.mem_append_right _ (List.mem_append_right _ (List.mem_append_right _ (List.mem_append_right _ (List.mem_append_right _ (List.mem_append_right _ (List.mem_append_right _ (List.mem_append_right _ (List.mem_append_right _ (List.mem_append_right _ (List.mem_append_right _ (List.mem_append_right _ (List.mem_append_right _ (List.mem_append_right _ (List.mem_append_right _ (List.mem_append_right _ (List.mem_append_right _ (List.mem_append_right _ (List.mem_append_right _ (List.mem_append_right _ (List.mem_append_right _ (List.mem_append_right _ (List.mem_append_right _ (List.mem_append_right _ (List.mem_append_right _ (List.mem_append_right _ (List.mem_append_right _ (List.mem_append_right _ (List.mem_append_left _ h)))))))))))))))))))))))))))))))))))))))))
theorem gdA_r30 : ∀ w ∈ wsL_law0_r30, goodWord w = true := List.all_eq_true.mp (by decide +kernel)
theorem wm696 : Cond.fieldLink RX9 207 "PinnaceView$Node" "number" "I" ∈ WA := inA_r30 _ (List.mem_of_getElem? (i := 0) rfl)
theorem wm697 : Cond.methodLink RL 72 yX9_seen ∈ WA := inA_r30 _ (List.mem_of_getElem? (i := 1) rfl)
theorem wm698 : Cond.instanceMethod yX9_seen ∈ WA := inA_r30 _ (List.mem_of_getElem? (i := 2) rfl)
theorem wm699 : Cond.selects RX9 yX9_seen yX9_seen ∈ WA := inA_r30 _ (List.mem_of_getElem? (i := 3) rfl)
theorem wm700 : Cond.code yX9_seen cX9_seen 3 (some .int) ∈ WA := inA_r30 _ (List.mem_of_getElem? (i := 4) rfl)
theorem wm701 : Cond.methodLink RX9 285 yX4_wordsSeen ∈ WA := inA_r30 _ (List.mem_of_getElem? (i := 5) rfl)
theorem wm702 : Cond.instanceMethod yX4_wordsSeen ∈ WA := inA_r30 _ (List.mem_of_getElem? (i := 6) rfl)
theorem wm703 : Cond.selects RX4 yX4_wordsSeen yX4_wordsSeen ∈ WA := inA_r30 _ (List.mem_of_getElem? (i := 7) rfl)
theorem wm704 : Cond.code yX4_wordsSeen cX4_wordsSeen 4 (some .int) ∈ WA := inA_r30 _ (List.mem_of_getElem? (i := 8) rfl)
theorem wm705 : Cond.methodLink RX4 119 yX2_wordLeft ∈ WA := inA_r30 _ (List.mem_of_getElem? (i := 9) rfl)
theorem wm706 : Cond.instanceMethod yX2_wordLeft ∈ WA := inA_r30 _ (List.mem_of_getElem? (i := 10) rfl)
theorem wm707 : Cond.selects RX2 yX2_wordLeft yX2_wordLeft ∈ WA := inA_r30 _ (List.mem_of_getElem? (i := 11) rfl)
theorem wm708 : Cond.code yX2_wordLeft cX2_wordLeft 3 (some .int) ∈ WA := inA_r30 _ (List.mem_of_getElem? (i := 12) rfl)
theorem wm709 : Cond.methodLink RX4 130 yX2_wordTop ∈ WA := inA_r30 _ (List.mem_of_getElem? (i := 13) rfl)
theorem wm710 : Cond.instanceMethod yX2_wordTop ∈ WA := inA_r30 _ (List.mem_of_getElem? (i := 14) rfl)
theorem wm711 : Cond.selects RX2 yX2_wordTop yX2_wordTop ∈ WA := inA_r30 _ (List.mem_of_getElem? (i := 15) rfl)
theorem wm712 : Cond.code yX2_wordTop cX2_wordTop 3 (some .int) ∈ WA := inA_r30 _ (List.mem_of_getElem? (i := 16) rfl)
theorem wm713 : Cond.methodLink RX4 139 yX4_isCutAt ∈ WA := inA_r30 _ (List.mem_of_getElem? (i := 17) rfl)
theorem wm714 : Cond.instanceMethod yX4_isCutAt ∈ WA := inA_r30 _ (List.mem_of_getElem? (i := 18) rfl)
theorem wm715 : Cond.selects RX4 yX4_isCutAt yX4_isCutAt ∈ WA := inA_r30 _ (List.mem_of_getElem? (i := 19) rfl)
theorem wm716 : Cond.code yX4_isCutAt cX4_isCutAt 5 (some .boolean) ∈ WA := inA_r30 _ (List.mem_of_getElem? (i := 20) rfl)
theorem wm717 : Cond.methodLink RX4 136 yX2_cutsOffAt ∈ WA := inA_r30 _ (List.mem_of_getElem? (i := 21) rfl)
theorem wm718 : Cond.instanceMethod yX2_cutsOffAt ∈ WA := inA_r30 _ (List.mem_of_getElem? (i := 22) rfl)
theorem wm719 : Cond.selects RX2 yX2_cutsOffAt yX2_cutsOffAt ∈ WA := inA_r30 _ (List.mem_of_getElem? (i := 23) rfl)
theorem inA_r31 : ∀ w ∈ wsL_law0_r31, w ∈ WA := fun _ h => List.mem_append_left _ (List.mem_append_left _ (List.mem_append_left _ (List.mem_append_left _ (List.mem_append_left _ (List.mem_append_left _ (List.mem_append_left _ (List.mem_append_left _ (List.mem_append_left _ (List.mem_append_left _ (List.mem_append_left _ (List.mem_append_left _ (List.mem_append_right _ (List.mem_append_right _ (List.mem_append_right _ (List.mem_append_right _ (List.mem_append_right _ (List.mem_append_right _ (List.mem_append_right _ (List.mem_append_right _ (List.mem_append_right _ (List.mem_append_right _ (List.mem_append_right _ (List.mem_append_right _ (List.mem_append_right _ (List.mem_append_right _ (List.mem_append_right _ (List.mem_append_right _ (List.mem_append_right _ (List.mem_append_right _ (List.mem_append_right _ (List.mem_append_right _ (List.mem_append_right _ (List.mem_append_right _ (List.mem_append_right _ (List.mem_append_right _ (List.mem_append_right _ (List.mem_append_right _ (List.mem_append_right _ (List.mem_append_right _ (List.mem_append_right _ (List.mem_append_right _ (List.mem_append_left _ h))))))))))))))))))))))))))))))))))))))))))
theorem gdA_r31 : ∀ w ∈ wsL_law0_r31, goodWord w = true := List.all_eq_true.mp (by decide +kernel)
theorem wm720 : Cond.code yX2_cutsOffAt cX2_cutsOffAt 4 (some .boolean) ∈ WA := inA_r31 _ (List.mem_of_getElem? (i := 0) rfl)
theorem wm721 : Cond.methodLink RX2 80 yX2_isWithin ∈ WA := inA_r31 _ (List.mem_of_getElem? (i := 1) rfl)
theorem wm722 : Cond.static yX2_isWithin ∈ WA := inA_r31 _ (List.mem_of_getElem? (i := 2) rfl)
theorem wm723 : Cond.code yX2_isWithin cX2_isWithin 3 (some .boolean) ∈ WA := inA_r31 _ (List.mem_of_getElem? (i := 3) rfl)
theorem wm724 : Cond.methodLink RL 78 yX9_childAt ∈ WA := inA_r31 _ (List.mem_of_getElem? (i := 4) rfl)
theorem wm725 : Cond.instanceMethod yX9_childAt ∈ WA := inA_r31 _ (List.mem_of_getElem? (i := 5) rfl)
theorem wm726 : Cond.selects RX9 yX9_childAt yX9_childAt ∈ WA := inA_r31 _ (List.mem_of_getElem? (i := 6) rfl)
theorem wm727 : Cond.code yX9_childAt cX9_childAt 4 (some .int) ∈ WA := inA_r31 _ (List.mem_of_getElem? (i := 7) rfl)
theorem wm728 : Cond.methodLink RL 81 yX9_styleOf ∈ WA := inA_r31 _ (List.mem_of_getElem? (i := 8) rfl)
theorem wm729 : Cond.instanceMethod yX9_styleOf ∈ WA := inA_r31 _ (List.mem_of_getElem? (i := 9) rfl)
theorem wm730 : Cond.selects RX9 yX9_styleOf yX9_styleOf ∈ WA := inA_r31 _ (List.mem_of_getElem? (i := 10) rfl)
theorem wm731 : Cond.code yX9_styleOf cX9_styleOf 4 (some .int) ∈ WA := inA_r31 _ (List.mem_of_getElem? (i := 11) rfl)
theorem wm732 : Cond.methodLink RX9 225 yX6_of ∈ WA := inA_r31 _ (List.mem_of_getElem? (i := 12) rfl)
theorem wm733 : Cond.methodLink RL 84 yX9_because ∈ WA := inA_r31 _ (List.mem_of_getElem? (i := 13) rfl)
theorem wm734 : Cond.instanceMethod yX9_because ∈ WA := inA_r31 _ (List.mem_of_getElem? (i := 14) rfl)
theorem wm735 : Cond.selects RX9 yX9_because yX9_because ∈ WA := inA_r31 _ (List.mem_of_getElem? (i := 15) rfl)
theorem wm736 : Cond.code yX9_because cX9_because 4 (some .int) ∈ WA := inA_r31 _ (List.mem_of_getElem? (i := 16) rfl)
theorem wm737 : Cond.methodLink RX9 229 yX6_reasonOf ∈ WA := inA_r31 _ (List.mem_of_getElem? (i := 17) rfl)
theorem wm738 : Cond.instanceMethod yX6_reasonOf ∈ WA := inA_r31 _ (List.mem_of_getElem? (i := 18) rfl)
theorem wm739 : Cond.selects RX6 yX6_reasonOf yX6_reasonOf ∈ WA := inA_r31 _ (List.mem_of_getElem? (i := 19) rfl)
theorem wm740 : Cond.code yX6_reasonOf cX6_reasonOf 3 (some .int) ∈ WA := inA_r31 _ (List.mem_of_getElem? (i := 20) rfl)
theorem wm741 : Cond.methodLink RL 87 yX9_rules ∈ WA := inA_r31 _ (List.mem_of_getElem? (i := 21) rfl)
theorem wm742 : Cond.instanceMethod yX9_rules ∈ WA := inA_r31 _ (List.mem_of_getElem? (i := 22) rfl)
theorem wm743 : Cond.selects RX9 yX9_rules yX9_rules ∈ WA := inA_r31 _ (List.mem_of_getElem? (i := 23) rfl)
theorem inA_r32 : ∀ w ∈ wsL_law0_r32, w ∈ WA := fun _ h => List.mem_append_left _ (List.mem_append_left _ (List.mem_append_left _ (List.mem_append_left _ (List.mem_append_left _ (List.mem_append_left _ (List.mem_append_left _ (List.mem_append_left _ (List.mem_append_left _ (List.mem_append_left _ (List.mem_append_left _ (List.mem_append_left _ (List.mem_append_right _ (List.mem_append_right _ (List.mem_append_right _ (List.mem_append_right _ (List.mem_append_right _ (List.mem_append_right _ (List.mem_append_right _ (List.mem_append_right _ (List.mem_append_right _ (List.mem_append_right _ (List.mem_append_right _ (List.mem_append_right _ (List.mem_append_right _ (List.mem_append_right _ (List.mem_append_right _ (List.mem_append_right _ (List.mem_append_right _ (List.mem_append_right _ (List.mem_append_right _ (List.mem_append_right _ (List.mem_append_right _ (List.mem_append_right _ (List.mem_append_right _ (List.mem_append_right _ (List.mem_append_right _ (List.mem_append_right _ (List.mem_append_right _ (List.mem_append_right _ (List.mem_append_right _ (List.mem_append_right _ (List.mem_append_right _ (List.mem_append_left _ h)))))))))))))))))))))))))))))))))))))))))))
theorem gdA_r32 : ∀ w ∈ wsL_law0_r32, goodWord w = true := List.all_eq_true.mp (by decide +kernel)
theorem wm744 : Cond.code yX9_rules cX9_rules 1 (some .int) ∈ WA := inA_r32 _ (List.mem_of_getElem? (i := 0) rfl)
theorem wm745 : Cond.methodLink RL 90 yX9_matches ∈ WA := inA_r32 _ (List.mem_of_getElem? (i := 1) rfl)
theorem wm746 : Cond.instanceMethod yX9_matches ∈ WA := inA_r32 _ (List.mem_of_getElem? (i := 2) rfl)
theorem wm747 : Cond.selects RX9 yX9_matches yX9_matches ∈ WA := inA_r32 _ (List.mem_of_getElem? (i := 3) rfl)
theorem wm748 : Cond.code yX9_matches cX9_matches 4 (some .boolean) ∈ WA := inA_r32 _ (List.mem_of_getElem? (i := 4) rfl)
theorem wm749 : Cond.methodLink RX9 219 yX5_selects ∈ WA := inA_r32 _ (List.mem_of_getElem? (i := 5) rfl)
theorem wm750 : Cond.methodLink RL 94 yX9_nodes ∈ WA := inA_r32 _ (List.mem_of_getElem? (i := 6) rfl)
theorem wm751 : Cond.instanceMethod yX9_nodes ∈ WA := inA_r32 _ (List.mem_of_getElem? (i := 7) rfl)
theorem wm752 : Cond.selects RX9 yX9_nodes yX9_nodes ∈ WA := inA_r32 _ (List.mem_of_getElem? (i := 8) rfl)
theorem wm753 : Cond.code yX9_nodes cX9_nodes 1 (some .int) ∈ WA := inA_r32 _ (List.mem_of_getElem? (i := 9) rfl)
theorem wm754 : Cond.methodLink RL 97 yX9_pageHeight ∈ WA := inA_r32 _ (List.mem_of_getElem? (i := 10) rfl)
theorem wm755 : Cond.instanceMethod yX9_pageHeight ∈ WA := inA_r32 _ (List.mem_of_getElem? (i := 11) rfl)
theorem wm756 : Cond.selects RX9 yX9_pageHeight yX9_pageHeight ∈ WA := inA_r32 _ (List.mem_of_getElem? (i := 12) rfl)
theorem wm757 : Cond.code yX9_pageHeight cX9_pageHeight 1 (some .int) ∈ WA := inA_r32 _ (List.mem_of_getElem? (i := 13) rfl)
theorem wm758 : Cond.methodLink RX9 273 yX2_highWithEdges ∈ WA := inA_r32 _ (List.mem_of_getElem? (i := 14) rfl)
theorem wm759 : Cond.instanceMethod yX2_highWithEdges ∈ WA := inA_r32 _ (List.mem_of_getElem? (i := 15) rfl)
theorem wm760 : Cond.selects RX2 yX2_highWithEdges yX2_highWithEdges ∈ WA := inA_r32 _ (List.mem_of_getElem? (i := 16) rfl)
theorem wm761 : Cond.code yX2_highWithEdges cX2_highWithEdges 1 (some .int) ∈ WA := inA_r32 _ (List.mem_of_getElem? (i := 17) rfl)
theorem wm762 : Cond.methodLink RL 100 yX9_meanLine ∈ WA := inA_r32 _ (List.mem_of_getElem? (i := 18) rfl)
theorem wm763 : Cond.instanceMethod yX9_meanLine ∈ WA := inA_r32 _ (List.mem_of_getElem? (i := 19) rfl)
theorem wm764 : Cond.selects RX9 yX9_meanLine yX9_meanLine ∈ WA := inA_r32 _ (List.mem_of_getElem? (i := 20) rfl)
theorem wm765 : Cond.code yX9_meanLine cX9_meanLine 1 (some .double) ∈ WA := inA_r32 _ (List.mem_of_getElem? (i := 21) rfl)
theorem wm766 : Cond.fieldLink RX9 288 "PinnaceView$Page" "lineCount" "I" ∈ WA := inA_r32 _ (List.mem_of_getElem? (i := 22) rfl)
theorem wm767 : Cond.fieldLink RX9 291 "PinnaceView$Page" "widthOfLines" "I" ∈ WA := inA_r32 _ (List.mem_of_getElem? (i := 23) rfl)
theorem inA_r33 : ∀ w ∈ wsL_law0_r33, w ∈ WA := fun _ h => List.mem_append_left _ (List.mem_append_left _ (List.mem_append_left _ (List.mem_append_left _ (List.mem_append_left _ (List.mem_append_left _ (List.mem_append_left _ (List.mem_append_left _ (List.mem_append_left _ (List.mem_append_left _ (List.mem_append_left _ (List.mem_append_left _ (List.mem_append_right _ (List.mem_append_right _ (List.mem_append_right _ (List.mem_append_right _ (List.mem_append_right _ (List.mem_append_right _ (List.mem_append_right _ (List.mem_append_right _ (List.mem_append_right _ (List.mem_append_right _ (List.mem_append_right _ (List.mem_append_right _ (List.mem_append_right _ (List.mem_append_right _ (List.mem_append_right _ (List.mem_append_right _ (List.mem_append_right _ (List.mem_append_right _ (List.mem_append_right _ (List.mem_append_right _ (List.mem_append_right _ (List.mem_append_right _ (List.mem_append_right _ (List.mem_append_right _ (List.mem_append_right _ (List.mem_append_right _ (List.mem_append_right _ (List.mem_append_right _ (List.mem_append_right _ (List.mem_append_right _ (List.mem_append_right _ (List.mem_append_right _ (List.mem_append_left _ h))))))))))))))))))))))))))))))))))))))))))))
theorem gdA_r33 : ∀ w ∈ wsL_law0_r33, goodWord w = true := List.all_eq_true.mp (by decide +kernel)
theorem wm768 : Cond.methodLink RL 131 yX9_digest ∈ WA := inA_r33 _ (List.mem_of_getElem? (i := 0) rfl)
theorem wm769 : Cond.instanceMethod yX9_digest ∈ WA := inA_r33 _ (List.mem_of_getElem? (i := 1) rfl)
theorem wm770 : Cond.selects RX9 yX9_digest yX9_digest ∈ WA := inA_r33 _ (List.mem_of_getElem? (i := 2) rfl)
theorem wm771 : Cond.code yX9_digest cX9_digest 5 (some .long) ∈ WA := inA_r33 _ (List.mem_of_getElem? (i := 3) rfl)
theorem wm772 : Cond.constantLong RX9 302 (58030) ∈ WA := inA_r33 _ (List.mem_of_getElem? (i := 4) rfl)
theorem wm773 : Cond.constantLong RX9 304 (31) ∈ WA := inA_r33 _ (List.mem_of_getElem? (i := 5) rfl)
theorem wm774 : Cond.methodLink RX9 306 yX9_added ∈ WA := inA_r33 _ (List.mem_of_getElem? (i := 6) rfl)
theorem wm775 : Cond.methodLink RX9 309 yX9_nodes ∈ WA := inA_r33 _ (List.mem_of_getElem? (i := 7) rfl)
theorem wm776 : Cond.methodLink RX9 311 yX9_rules ∈ WA := inA_r33 _ (List.mem_of_getElem? (i := 8) rfl)
theorem wm777 : Cond.methodLink RX9 314 yX9_isThere ∈ WA := inA_r33 _ (List.mem_of_getElem? (i := 9) rfl)
theorem wm778 : Cond.methodLink RX9 317 yX9_digestOfPlace ∈ WA := inA_r33 _ (List.mem_of_getElem? (i := 10) rfl)
theorem wm779 : Cond.instanceMethod yX9_digestOfPlace ∈ WA := inA_r33 _ (List.mem_of_getElem? (i := 11) rfl)
theorem wm780 : Cond.selects RX9 yX9_digestOfPlace yX9_digestOfPlace ∈ WA := inA_r33 _ (List.mem_of_getElem? (i := 12) rfl)
theorem wm781 : Cond.code yX9_digestOfPlace cX9_digestOfPlace 6 (some .long) ∈ WA := inA_r33 _ (List.mem_of_getElem? (i := 13) rfl)
theorem wm782 : Cond.methodLink RX9 335 yX9_parent ∈ WA := inA_r33 _ (List.mem_of_getElem? (i := 14) rfl)
theorem wm783 : Cond.methodLink RX9 337 yX9_size ∈ WA := inA_r33 _ (List.mem_of_getElem? (i := 15) rfl)
theorem wm784 : Cond.methodLink RX9 321 yX9_digestOfBox ∈ WA := inA_r33 _ (List.mem_of_getElem? (i := 16) rfl)
theorem wm785 : Cond.static yX9_digestOfBox ∈ WA := inA_r33 _ (List.mem_of_getElem? (i := 17) rfl)
theorem wm786 : Cond.code yX9_digestOfBox cX9_digestOfBox 5 (some .long) ∈ WA := inA_r33 _ (List.mem_of_getElem? (i := 18) rfl)
theorem wm787 : Cond.methodLink RX9 244 yX2_borderY ∈ WA := inA_r33 _ (List.mem_of_getElem? (i := 19) rfl)
theorem wm788 : Cond.instanceMethod yX2_borderY ∈ WA := inA_r33 _ (List.mem_of_getElem? (i := 20) rfl)
theorem wm789 : Cond.selects RX2 yX2_borderY yX2_borderY ∈ WA := inA_r33 _ (List.mem_of_getElem? (i := 21) rfl)
theorem wm790 : Cond.code yX2_borderY cX2_borderY 1 (some .int) ∈ WA := inA_r33 _ (List.mem_of_getElem? (i := 22) rfl)
theorem wm791 : Cond.methodLink RX9 324 yX9_digestOfStyles ∈ WA := inA_r33 _ (List.mem_of_getElem? (i := 23) rfl)
theorem inA_r34 : ∀ w ∈ wsL_law0_r34, w ∈ WA := fun _ h => List.mem_append_left _ (List.mem_append_left _ (List.mem_append_left _ (List.mem_append_left _ (List.mem_append_left _ (List.mem_append_left _ (List.mem_append_left _ (List.mem_append_left _ (List.mem_append_left _ (List.mem_append_left _ (List.mem_append_left _ (List.mem_append_left _ (List.mem_append_right _ (List.mem_append_right _ (List.mem_append_right _ (List.mem_append_right _ (List.mem_append_right _ (List.mem_append_right _ (List.mem_append_right _ (List.mem_append_right _ (List.mem_append_right _ (List.mem_append_right _ (List.mem_append_right _ (List.mem_append_right _ (List.mem_append_right _ (List.mem_append_right _ (List.mem_append_right _ (List.mem_append_right _ (List.mem_append_right _ (List.mem_append_right _ (List.mem_append_right _ (List.mem_append_right _ (List.mem_append_right _ (List.mem_append_right _ (List.mem_append_right _ (List.mem_append_right _ (List.mem_append_right _ (List.mem_append_right _ (List.mem_append_right _ (List.mem_append_right _ (List.mem_append_right _ (List.mem_append_right _ (List.mem_append_right _ (List.mem_append_right _ (List.mem_append_right _ (List.mem_append_left _ h)))))))))))))))))))))))))))))))))))))))))))))
theorem gdA_r34 : ∀ w ∈ wsL_law0_r34, goodWord w = true := List.all_eq_true.mp (by decide +kernel)
theorem wm792 : Cond.instanceMethod yX9_digestOfStyles ∈ WA := inA_r34 _ (List.mem_of_getElem? (i := 0) rfl)
theorem wm793 : Cond.selects RX9 yX9_digestOfStyles yX9_digestOfStyles ∈ WA := inA_r34 _ (List.mem_of_getElem? (i := 1) rfl)
theorem wm794 : Cond.code yX9_digestOfStyles cX9_digestOfStyles 7 (some .long) ∈ WA := inA_r34 _ (List.mem_of_getElem? (i := 2) rfl)
theorem wm795 : Cond.methodLink RX9 327 yX9_digestOfWords ∈ WA := inA_r34 _ (List.mem_of_getElem? (i := 3) rfl)
theorem wm796 : Cond.instanceMethod yX9_digestOfWords ∈ WA := inA_r34 _ (List.mem_of_getElem? (i := 4) rfl)
theorem wm797 : Cond.selects RX9 yX9_digestOfWords yX9_digestOfWords ∈ WA := inA_r34 _ (List.mem_of_getElem? (i := 5) rfl)
theorem wm798 : Cond.code yX9_digestOfWords cX9_digestOfWords 7 (some .long) ∈ WA := inA_r34 _ (List.mem_of_getElem? (i := 6) rfl)
theorem wm799 : Cond.methodLink RX9 267 yX2_wordLeft ∈ WA := inA_r34 _ (List.mem_of_getElem? (i := 7) rfl)
theorem wm800 : Cond.methodLink RX9 270 yX2_wordTop ∈ WA := inA_r34 _ (List.mem_of_getElem? (i := 8) rfl)
theorem wm801 : Cond.methodLink RX9 330 yX9_weight ∈ WA := inA_r34 _ (List.mem_of_getElem? (i := 9) rfl)
theorem wm802 : Cond.instanceMethod yX9_weight ∈ WA := inA_r34 _ (List.mem_of_getElem? (i := 10) rfl)
theorem wm803 : Cond.selects RX9 yX9_weight yX9_weight ∈ WA := inA_r34 _ (List.mem_of_getElem? (i := 11) rfl)
theorem wm804 : Cond.code yX9_weight cX9_weight 2 (some .int) ∈ WA := inA_r34 _ (List.mem_of_getElem? (i := 12) rfl)
theorem wm805 : Cond.fieldLink RX9 216 "PinnaceView$Rule" "weight" "I" ∈ WA := inA_r34 _ (List.mem_of_getElem? (i := 13) rfl)
theorem wm806 : Cond.methodLink RX9 332 yX9_matched ∈ WA := inA_r34 _ (List.mem_of_getElem? (i := 14) rfl)
theorem wm807 : Cond.instanceMethod yX9_matched ∈ WA := inA_r34 _ (List.mem_of_getElem? (i := 15) rfl)
theorem wm808 : Cond.selects RX9 yX9_matched yX9_matched ∈ WA := inA_r34 _ (List.mem_of_getElem? (i := 16) rfl)
theorem wm809 : Cond.code yX9_matched cX9_matched 5 (some .int) ∈ WA := inA_r34 _ (List.mem_of_getElem? (i := 17) rfl)
theorem wm810 : Cond.methodLink RL 135 yX9_heightIn ∈ WA := inA_r34 _ (List.mem_of_getElem? (i := 18) rfl)
theorem wm811 : Cond.instanceMethod yX9_heightIn ∈ WA := inA_r34 _ (List.mem_of_getElem? (i := 19) rfl)
theorem wm812 : Cond.selects RX9 yX9_heightIn yX9_heightIn ∈ WA := inA_r34 _ (List.mem_of_getElem? (i := 20) rfl)
theorem wm813 : Cond.code yX9_heightIn cX9_heightIn 2 (some .int) ∈ WA := inA_r34 _ (List.mem_of_getElem? (i := 21) rfl)
theorem wm814 : Cond.methodLink RX9 188 yX9_isViewWidth ∈ WA := inA_r34 _ (List.mem_of_getElem? (i := 22) rfl)
theorem wm815 : Cond.static yX9_isViewWidth ∈ WA := inA_r34 _ (List.mem_of_getElem? (i := 23) rfl)
theorem inA_r35 : ∀ w ∈ wsL_law0_r35, w ∈ WA := fun _ h => List.mem_append_left _ (List.mem_append_left _ (List.mem_append_left _ (List.mem_append_left _ (List.mem_append_left _ (List.mem_append_left _ (List.mem_append_left _ (List.mem_append_left _ (List.mem_append_left _ (List.mem_append_left _ (List.mem_append_left _ (List.mem_append_left _ (List.mem_append_right _ (List.mem_append_right _ (List.mem_append_right _ (List.mem_append_right _ (List.mem_append_right _ (List.mem_append_right _ (List.mem_append_right _ (List.mem_append_right _ (List.mem_append_right _ (List.mem_append_right _ (List.mem_append_right _ (List.mem_append_right _ (List.mem_append_right _ (List.mem_append_right _ (List.mem_append_right _ (List.mem_append_right _ (List.mem_append_right _ (List.mem_append_right _ (List.mem_append_right _ (List.mem_append_right _ (List.mem_append_right _ (List.mem_append_right _ (List.mem_append_right _ (List.mem_append_right _ (List.mem_append_right _ (List.mem_append_right _ (List.mem_append_right _ (List.mem_append_right _ (List.mem_append_right _ (List.mem_append_right _ (List.mem_append_right _ (List.mem_append_right _ (List.mem_append_right _ (List.mem_append_right _ (List.mem_append_left _ h))))))))))))))))))))))))))))))))))))))))))))))
theorem gdA_r35 : ∀ w ∈ wsL_law0_r35, goodWord w = true := List.all_eq_true.mp (by decide +kernel)
theorem wm816 : Cond.code yX9_isViewWidth cX9_isViewWidth 1 (some .boolean) ∈ WA := inA_r35 _ (List.mem_of_getElem? (i := 0) rfl)
theorem wm817 : Cond.methodLink RL 138 yX9_changedBy ∈ WA := inA_r35 _ (List.mem_of_getElem? (i := 1) rfl)
theorem wm818 : Cond.instanceMethod yX9_changedBy ∈ WA := inA_r35 _ (List.mem_of_getElem? (i := 2) rfl)
theorem wm819 : Cond.selects RX9 yX9_changedBy yX9_changedBy ∈ WA := inA_r35 _ (List.mem_of_getElem? (i := 3) rfl)
theorem wm820 : Cond.code yX9_changedBy cX9_changedBy 4 (some .int) ∈ WA := inA_r35 _ (List.mem_of_getElem? (i := 4) rfl)
theorem wm821 : Cond.methodLink RX9 298 yX6_differFor ∈ WA := inA_r35 _ (List.mem_of_getElem? (i := 5) rfl)
theorem wm822 : Cond.instanceMethod yX6_differFor ∈ WA := inA_r35 _ (List.mem_of_getElem? (i := 6) rfl)
theorem wm823 : Cond.selects RX6 yX6_differFor yX6_differFor ∈ WA := inA_r35 _ (List.mem_of_getElem? (i := 7) rfl)
theorem wm824 : Cond.code yX6_differFor cX6_differFor 4 (some .boolean) ∈ WA := inA_r35 _ (List.mem_of_getElem? (i := 8) rfl)
theorem wm825 : Cond.methodLink RL 141 yX9_hit ∈ WA := inA_r35 _ (List.mem_of_getElem? (i := 9) rfl)
theorem wm826 : Cond.instanceMethod yX9_hit ∈ WA := inA_r35 _ (List.mem_of_getElem? (i := 10) rfl)
theorem wm827 : Cond.selects RX9 yX9_hit yX9_hit ∈ WA := inA_r35 _ (List.mem_of_getElem? (i := 11) rfl)
theorem wm828 : Cond.code yX9_hit cX9_hit 6 (some .int) ∈ WA := inA_r35 _ (List.mem_of_getElem? (i := 12) rfl)
theorem wm829 : Cond.methodLink RX9 276 yX4_isAt ∈ WA := inA_r35 _ (List.mem_of_getElem? (i := 13) rfl)
theorem wm830 : Cond.instanceMethod yX4_isAt ∈ WA := inA_r35 _ (List.mem_of_getElem? (i := 14) rfl)
theorem wm831 : Cond.selects RX4 yX4_isAt yX4_isAt ∈ WA := inA_r35 _ (List.mem_of_getElem? (i := 15) rfl)
theorem wm832 : Cond.code yX4_isAt cX4_isAt 7 (some .boolean) ∈ WA := inA_r35 _ (List.mem_of_getElem? (i := 16) rfl)
theorem wm833 : Cond.methodLink RX4 106 yX2_hasInBorder ∈ WA := inA_r35 _ (List.mem_of_getElem? (i := 17) rfl)
theorem wm834 : Cond.instanceMethod yX2_hasInBorder ∈ WA := inA_r35 _ (List.mem_of_getElem? (i := 18) rfl)
theorem wm835 : Cond.selects RX2 yX2_hasInBorder yX2_hasInBorder ∈ WA := inA_r35 _ (List.mem_of_getElem? (i := 19) rfl)
theorem wm836 : Cond.code yX2_hasInBorder cX2_hasInBorder 3 (some .boolean) ∈ WA := inA_r35 _ (List.mem_of_getElem? (i := 20) rfl)
theorem wm837 : Cond.methodLink RX2 73 yX2_borderX ∈ WA := inA_r35 _ (List.mem_of_getElem? (i := 21) rfl)
theorem wm838 : Cond.methodLink RX2 77 yX2_borderWide ∈ WA := inA_r35 _ (List.mem_of_getElem? (i := 22) rfl)
theorem wm839 : Cond.methodLink RX2 84 yX2_borderY ∈ WA := inA_r35 _ (List.mem_of_getElem? (i := 23) rfl)
theorem inA_r36 : ∀ w ∈ wsL_law0_r36, w ∈ WA := fun _ h => List.mem_append_left _ (List.mem_append_left _ (List.mem_append_left _ (List.mem_append_left _ (List.mem_append_left _ (List.mem_append_left _ (List.mem_append_left _ (List.mem_append_left _ (List.mem_append_left _ (List.mem_append_left _ (List.mem_append_left _ (List.mem_append_left _ (List.mem_append_right _ (List.mem_append_right _ (List.mem_append_right _ (List.mem_append_right _ (List.mem_append_right _ (List.mem_append_right _ (List.mem_append_right _ (List.mem_append_right _ (List.mem_append_right _ (List.mem_append_right _ (List.mem_append_right _ (List.mem_append_right _ (List.mem_append_right _ (List.mem_append_right _ (List.mem_append_right _ (List.mem_append_right _ (List.mem_append_right _ (List.mem_append_right _ (List.mem_append_right _ (List.mem_append_right _ (List.mem_append_right _ (List.mem_append_right _ (List.mem_append_right _ (List.mem_append_right _ (List.mem_append_right _ (List.mem_append_right _ (List.mem_append_right _ (List.mem_append_right _ (List.mem_append_right _ (List.mem_append_right _ (List.mem_append_right _ (List.mem_append_right _ (List.mem_append_right _ (List.mem_append_right _ (List.mem_append_right _ (List.mem_append_left _ h)))))))))))))))))))))))))))))))))))))))))))))))
theorem gdA_r36 : ∀ w ∈ wsL_law0_r36, goodWord w = true := List.all_eq_true.mp (by decide +kernel)
theorem wm840 : Cond.methodLink RX2 87 yX2_borderHigh ∈ WA := inA_r36 _ (List.mem_of_getElem? (i := 0) rfl)
theorem wm841 : Cond.methodLink RX4 126 yX2_isWithin ∈ WA := inA_r36 _ (List.mem_of_getElem? (i := 1) rfl)
theorem wm842 : Cond.methodLink RX9 280 yX4_isCutAt ∈ WA := inA_r36 _ (List.mem_of_getElem? (i := 2) rfl)
theorem wm843 : Cond.methodLink RL 144 yX9_setView ∈ WA := inA_r36 _ (List.mem_of_getElem? (i := 3) rfl)
theorem wm844 : Cond.instanceMethod yX9_setView ∈ WA := inA_r36 _ (List.mem_of_getElem? (i := 4) rfl)
theorem wm845 : Cond.selects RX9 yX9_setView yX9_setView ∈ WA := inA_r36 _ (List.mem_of_getElem? (i := 5) rfl)
theorem wm846 : Cond.code yX9_setView cX9_setView 3 (some .int) ∈ WA := inA_r36 _ (List.mem_of_getElem? (i := 6) rfl)
theorem wm847 : Cond.methodLink RL 147 yX9_move ∈ WA := inA_r36 _ (List.mem_of_getElem? (i := 7) rfl)
theorem wm848 : Cond.instanceMethod yX9_move ∈ WA := inA_r36 _ (List.mem_of_getElem? (i := 8) rfl)
theorem wm849 : Cond.selects RX9 yX9_move yX9_move ∈ WA := inA_r36 _ (List.mem_of_getElem? (i := 9) rfl)
theorem wm850 : Cond.code yX9_move cX9_move 6 (some .int) ∈ WA := inA_r36 _ (List.mem_of_getElem? (i := 10) rfl)
theorem wm851 : Cond.methodLink RX9 104 yX7_canMove ∈ WA := inA_r36 _ (List.mem_of_getElem? (i := 11) rfl)
theorem wm852 : Cond.instanceMethod yX7_canMove ∈ WA := inA_r36 _ (List.mem_of_getElem? (i := 12) rfl)
theorem wm853 : Cond.selects RX7 yX7_canMove yX7_canMove ∈ WA := inA_r36 _ (List.mem_of_getElem? (i := 13) rfl)
theorem wm854 : Cond.code yX7_canMove cX7_canMove 5 (some .boolean) ∈ WA := inA_r36 _ (List.mem_of_getElem? (i := 14) rfl)
theorem wm855 : Cond.fieldLink RX7 71 "PinnaceView$Node" "isText" "Z" ∈ WA := inA_r36 _ (List.mem_of_getElem? (i := 15) rfl)
theorem wm856 : Cond.methodLink RX7 74 yX3_isOrIsIn ∈ WA := inA_r36 _ (List.mem_of_getElem? (i := 16) rfl)
theorem wm857 : Cond.instanceMethod yX3_isOrIsIn ∈ WA := inA_r36 _ (List.mem_of_getElem? (i := 17) rfl)
theorem wm858 : Cond.selects RX3 yX3_isOrIsIn yX3_isOrIsIn ∈ WA := inA_r36 _ (List.mem_of_getElem? (i := 18) rfl)
theorem wm859 : Cond.code yX3_isOrIsIn cX3_isOrIsIn 3 (some .boolean) ∈ WA := inA_r36 _ (List.mem_of_getElem? (i := 19) rfl)
theorem wm860 : Cond.methodLink RX7 78 yX7_levelsBelow ∈ WA := inA_r36 _ (List.mem_of_getElem? (i := 20) rfl)
theorem wm861 : Cond.static yX7_levelsBelow ∈ WA := inA_r36 _ (List.mem_of_getElem? (i := 21) rfl)
theorem wm862 : Cond.code yX7_levelsBelow cX7_levelsBelow 4 (some .int) ∈ WA := inA_r36 _ (List.mem_of_getElem? (i := 22) rfl)
theorem wm863 : Cond.methodLink RX7 98 Lib.Math.max.name ∈ WA := inA_r36 _ (List.mem_of_getElem? (i := 23) rfl)
theorem inA_r37 : ∀ w ∈ wsL_law0_r37, w ∈ WA := fun _ h => List.mem_append_left _ (List.mem_append_left _ (List.mem_append_left _ (List.mem_append_left _ (List.mem_append_left _ (List.mem_append_left _ (List.mem_append_left _ (List.mem_append_left _ (List.mem_append_left _ (List.mem_append_left _ (List.mem_append_left _ (List.mem_append_left _ (List.mem_append_right _ (List.mem_append_right _ (List.mem_append_right _ (List.mem_append_right _ (List.mem_append_right _ (List.mem_append_right _ (List.mem_append_right _ (List.mem_append_right _ (List.mem_append_right _ (List.mem_append_right _ (List.mem_append_right _ (List.mem_append_right _ (List.mem_append_right _ (List.mem_append_right _ (List.mem_append_right _ (List.mem_append_right _ (List.mem_append_right _ (List.mem_append_right _ (List.mem_append_right _ (List.mem_append_right _ (List.mem_append_right _ (List.mem_append_right _ (List.mem_append_right _ (List.mem_append_right _ (List.mem_append_right _ (List.mem_append_right _ (List.mem_append_right _ (List.mem_append_right _ (List.mem_append_right _ (List.mem_append_right _ (List.mem_append_right _ (List.mem_append_right _ (List.mem_append_right _ (List.mem_append_right _ (List.mem_append_right _ (List.mem_append_right _ (List.mem_append_left _ h))))))))))))))))))))))))))))))))))))))))))))))))
theorem gdA_r37 : ∀ w ∈ wsL_law0_r37, goodWord w = true := List.all_eq_true.mp (by decide +kernel)
theorem wm864 : Cond.methodLink RX9 110 yX7_putInto ∈ WA := inA_r37 _ (List.mem_of_getElem? (i := 0) rfl)
theorem wm865 : Cond.instanceMethod yX7_putInto ∈ WA := inA_r37 _ (List.mem_of_getElem? (i := 1) rfl)
theorem wm866 : Cond.selects RX7 yX7_putInto yX7_putInto ∈ WA := inA_r37 _ (List.mem_of_getElem? (i := 2) rfl)
theorem wm867 : Cond.code yX7_putInto cX7_putInto 4 none ∈ WA := inA_r37 _ (List.mem_of_getElem? (i := 3) rfl)
theorem wm868 : Cond.methodLink RX7 63 yX7_detach ∈ WA := inA_r37 _ (List.mem_of_getElem? (i := 4) rfl)
theorem wm869 : Cond.instanceMethod yX7_detach ∈ WA := inA_r37 _ (List.mem_of_getElem? (i := 5) rfl)
theorem wm870 : Cond.selects RX7 yX7_detach yX7_detach ∈ WA := inA_r37 _ (List.mem_of_getElem? (i := 6) rfl)
theorem wm871 : Cond.code yX7_detach cX7_detach 3 none ∈ WA := inA_r37 _ (List.mem_of_getElem? (i := 7) rfl)
theorem wm872 : Cond.methodLink RX7 85 yX3_placeAmongSiblings ∈ WA := inA_r37 _ (List.mem_of_getElem? (i := 8) rfl)
theorem wm873 : Cond.instanceMethod yX3_placeAmongSiblings ∈ WA := inA_r37 _ (List.mem_of_getElem? (i := 9) rfl)
theorem wm874 : Cond.selects RX3 yX3_placeAmongSiblings yX3_placeAmongSiblings ∈ WA := inA_r37 _ (List.mem_of_getElem? (i := 10) rfl)
theorem wm875 : Cond.code yX3_placeAmongSiblings cX3_placeAmongSiblings 2 (some .int) ∈ WA := inA_r37 _ (List.mem_of_getElem? (i := 11) rfl)
theorem wm876 : Cond.methodLink RX3 75 yJx4a65c_size_8abf5 ∈ WA := inA_r37 _ (List.mem_of_getElem? (i := 12) rfl)
theorem wm877 : Cond.methodLink RX3 79 yJx4a65c_get_915e3 ∈ WA := inA_r37 _ (List.mem_of_getElem? (i := 13) rfl)
theorem wm878 : Cond.methodLink RX7 88 yJx4a65c_remove_915e3 ∈ WA := inA_r37 _ (List.mem_of_getElem? (i := 14) rfl)
theorem wm879 : Cond.instanceMethod yJx4a65c_remove_915e3 ∈ WA := inA_r37 _ (List.mem_of_getElem? (i := 15) rfl)
theorem wm880 : Cond.selects RJx4a65c yJx4a65c_remove_915e3 yJx4a65c_remove_915e3 ∈ WA := inA_r37 _ (List.mem_of_getElem? (i := 16) rfl)
theorem wm881 : Cond.code yJx4a65c_remove_915e3 cJx4a65c_remove_915e3 4 (some (.object "java/lang/Object")) ∈ WA := inA_r37 _ (List.mem_of_getElem? (i := 17) rfl)
theorem wm882 : Cond.methodLink RJx4a65c 144 yJx4a65c_fastRemove_b59b0 ∈ WA := inA_r37 _ (List.mem_of_getElem? (i := 18) rfl)
theorem wm883 : Cond.instanceMethod yJx4a65c_fastRemove_b59b0 ∈ WA := inA_r37 _ (List.mem_of_getElem? (i := 19) rfl)
theorem wm884 : Cond.selects RJx4a65c yJx4a65c_fastRemove_b59b0 yJx4a65c_fastRemove_b59b0 ∈ WA := inA_r37 _ (List.mem_of_getElem? (i := 20) rfl)
theorem wm885 : Cond.code yJx4a65c_fastRemove_b59b0 cJx4a65c_fastRemove_b59b0 4 none ∈ WA := inA_r37 _ (List.mem_of_getElem? (i := 21) rfl)
theorem wm886 : Cond.methodLink RJx4a65c 112 arraycopyName ∈ WA := inA_r37 _ (List.mem_of_getElem? (i := 22) rfl)
theorem wm887 : Cond.methodLink RX7 82 yJx4a65c_add_7a177 ∈ WA := inA_r37 _ (List.mem_of_getElem? (i := 23) rfl)
theorem inA_r38 : ∀ w ∈ wsL_law0_r38, w ∈ WA := fun _ h => List.mem_append_left _ (List.mem_append_left _ (List.mem_append_left _ (List.mem_append_left _ (List.mem_append_left _ (List.mem_append_left _ (List.mem_append_left _ (List.mem_append_left _ (List.mem_append_left _ (List.mem_append_left _ (List.mem_append_left _ (List.mem_append_left _ (List.mem_append_right _ (List.mem_append_right _ (List.mem_append_right _ (List.mem_append_right _ (List.mem_append_right _ (List.mem_append_right _ (List.mem_append_right _ (List.mem_append_right _ (List.mem_append_right _ (List.mem_append_right _ (List.mem_append_right _ (List.mem_append_right _ (List.mem_append_right _ (List.mem_append_right _ (List.mem_append_right _ (List.mem_append_right _ (List.mem_append_right _ (List.mem_append_right _ (List.mem_append_right _ (List.mem_append_right _ (List.mem_append_right _ (List.mem_append_right _ (List.mem_append_right _ (List.mem_append_right _ (List.mem_append_right _ (List.mem_append_right _ (List.mem_append_right _ (List.mem_append_right _ (List.mem_append_right _ (List.mem_append_right _ (List.mem_append_right _ (List.mem_append_right _ (List.mem_append_right _ (List.mem_append_right _ (List.mem_append_right _ (List.mem_append_right _ (List.mem_append_right _ (h)))))))))))))))))))))))))))))))))))))))))))))))))
theorem gdA_r38 : ∀ w ∈ wsL_law0_r38, goodWord w = true := List.all_eq_true.mp (by decide +kernel)
theorem wm888 : Cond.instanceMethod yJx4a65c_add_7a177 ∈ WA := inA_r38 _ (List.mem_of_getElem? (i := 0) rfl)
theorem wm889 : Cond.selects RJx4a65c yJx4a65c_add_7a177 yJx4a65c_add_7a177 ∈ WA := inA_r38 _ (List.mem_of_getElem? (i := 1) rfl)
theorem wm890 : Cond.code yJx4a65c_add_7a177 cJx4a65c_add_7a177 5 none ∈ WA := inA_r38 _ (List.mem_of_getElem? (i := 2) rfl)
theorem wm891 : Cond.methodLink RJx4a65c 135 yJx4a65c_rangeCheckForAdd_d00df ∈ WA := inA_r38 _ (List.mem_of_getElem? (i := 3) rfl)
theorem wm892 : Cond.instanceMethod yJx4a65c_rangeCheckForAdd_d00df ∈ WA := inA_r38 _ (List.mem_of_getElem? (i := 4) rfl)
theorem wm893 : Cond.selects RJx4a65c yJx4a65c_rangeCheckForAdd_d00df yJx4a65c_rangeCheckForAdd_d00df ∈ WA := inA_r38 _ (List.mem_of_getElem? (i := 5) rfl)
theorem wm894 : Cond.code yJx4a65c_rangeCheckForAdd_d00df cJx4a65c_rangeCheckForAdd_d00df 2 none ∈ WA := inA_r38 _ (List.mem_of_getElem? (i := 6) rfl)
theorem wm895 : Cond.methodLink RL 150 yX9_turn ∈ WA := inA_r38 _ (List.mem_of_getElem? (i := 7) rfl)
theorem wm896 : Cond.instanceMethod yX9_turn ∈ WA := inA_r38 _ (List.mem_of_getElem? (i := 8) rfl)
theorem wm897 : Cond.selects RX9 yX9_turn yX9_turn ∈ WA := inA_r38 _ (List.mem_of_getElem? (i := 9) rfl)
theorem wm898 : Cond.code yX9_turn cX9_turn 3 (some .boolean) ∈ WA := inA_r38 _ (List.mem_of_getElem? (i := 10) rfl)
theorem wm899 : Cond.fieldLink RX9 175 "PinnaceView$Rule" "isOn" "Z" ∈ WA := inA_r38 _ (List.mem_of_getElem? (i := 11) rfl)
theorem wm900 : Cond.methodLink RL 153 yX9_takeAway ∈ WA := inA_r38 _ (List.mem_of_getElem? (i := 12) rfl)
theorem wm901 : Cond.instanceMethod yX9_takeAway ∈ WA := inA_r38 _ (List.mem_of_getElem? (i := 13) rfl)
theorem wm902 : Cond.selects RX9 yX9_takeAway yX9_takeAway ∈ WA := inA_r38 _ (List.mem_of_getElem? (i := 14) rfl)
theorem wm903 : Cond.code yX9_takeAway cX9_takeAway 3 (some .int) ∈ WA := inA_r38 _ (List.mem_of_getElem? (i := 15) rfl)
theorem wm904 : Cond.methodLink RX9 100 yX7_remove ∈ WA := inA_r38 _ (List.mem_of_getElem? (i := 16) rfl)
theorem wm905 : Cond.instanceMethod yX7_remove ∈ WA := inA_r38 _ (List.mem_of_getElem? (i := 17) rfl)
theorem wm906 : Cond.selects RX7 yX7_remove yX7_remove ∈ WA := inA_r38 _ (List.mem_of_getElem? (i := 18) rfl)
theorem wm907 : Cond.code yX7_remove cX7_remove 3 (some .int) ∈ WA := inA_r38 _ (List.mem_of_getElem? (i := 19) rfl)
theorem wm908 : Cond.methodLink RX7 67 yX7_markGone ∈ WA := inA_r38 _ (List.mem_of_getElem? (i := 20) rfl)
theorem wm909 : Cond.static yX7_markGone ∈ WA := inA_r38 _ (List.mem_of_getElem? (i := 21) rfl)
theorem wm910 : Cond.code yX7_markGone cX7_markGone 3 none ∈ WA := inA_r38 _ (List.mem_of_getElem? (i := 22) rfl)
theorem inF_X9 : ∀ w ∈ wsX90, w ∈ WA := fun _ h => List.mem_append_left _ (List.mem_append_left _ (List.mem_append_left _ (List.mem_append_left _ (List.mem_append_left _ (List.mem_append_left _ (List.mem_append_left _ (List.mem_append_left _ (List.mem_append_left _ (List.mem_append_left _ (List.mem_append_left _ (List.mem_append_right _ h)))))))))))
theorem gdF_X9 : ∀ w ∈ wsX90, goodWord w = true := List.all_eq_true.mp (by decide +kernel)
theorem inF_Jx4a65c : ∀ w ∈ wsJx4a65c0, w ∈ WA := fun _ h => List.mem_append_left _ (List.mem_append_left _ (List.mem_append_left _ (List.mem_append_left _ (List.mem_append_left _ (List.mem_append_left _ (List.mem_append_left _ (List.mem_append_left _ (List.mem_append_left _ (List.mem_append_left _ (List.mem_append_right _ h))))))))))
theorem gdF_Jx4a65c : ∀ w ∈ wsJx4a65c0, goodWord w = true := List.all_eq_true.mp (by decide +kernel)
theorem inF_X4 : ∀ w ∈ wsX40, w ∈ WA := fun _ h => List.mem_append_left _ (List.mem_append_left _ (List.mem_append_left _ (List.mem_append_left _ (List.mem_append_left _ (List.mem_append_left _ (List.mem_append_left _ (List.mem_append_left _ (List.mem_append_left _ (List.mem_append_right _ h)))))))))
theorem gdF_X4 : ∀ w ∈ wsX40, goodWord w = true := List.all_eq_true.mp (by decide +kernel)
theorem inF_X6 : ∀ w ∈ wsX60, w ∈ WA := fun _ h => List.mem_append_left _ (List.mem_append_left _ (List.mem_append_left _ (List.mem_append_left _ (List.mem_append_left _ (List.mem_append_left _ (List.mem_append_left _ (List.mem_append_left _ (List.mem_append_right _ h))))))))
theorem gdF_X6 : ∀ w ∈ wsX60, goodWord w = true := List.all_eq_true.mp (by decide +kernel)
theorem inF_X7 : ∀ w ∈ wsX70, w ∈ WA := fun _ h => List.mem_append_left _ (List.mem_append_left _ (List.mem_append_left _ (List.mem_append_left _ (List.mem_append_left _ (List.mem_append_left _ (List.mem_append_left _ (List.mem_append_right _ h)))))))
theorem gdF_X7 : ∀ w ∈ wsX70, goodWord w = true := List.all_eq_true.mp (by decide +kernel)
theorem inF_X3 : ∀ w ∈ wsX30, w ∈ WA := fun _ h => List.mem_append_left _ (List.mem_append_left _ (List.mem_append_left _ (List.mem_append_left _ (List.mem_append_left _ (List.mem_append_left _ (List.mem_append_right _ h))))))
theorem gdF_X3 : ∀ w ∈ wsX30, goodWord w = true := List.all_eq_true.mp (by decide +kernel)
theorem inF_X1 : ∀ w ∈ wsX10, w ∈ WA := fun _ h => List.mem_append_left _ (List.mem_append_left _ (List.mem_append_left _ (List.mem_append_left _ (List.mem_append_left _ (List.mem_append_right _ h)))))
theorem gdF_X1 : ∀ w ∈ wsX10, goodWord w = true := List.all_eq_true.mp (by decide +kernel)
theorem inF_X2 : ∀ w ∈ wsX20, w ∈ WA := fun _ h => List.mem_append_left _ (List.mem_append_left _ (List.mem_append_left _ (List.mem_append_left _ (List.mem_append_right _ h))))
theorem gdF_X2 : ∀ w ∈ wsX20, goodWord w = true := List.all_eq_true.mp (by decide +kernel)
theorem inF_X0 : ∀ w ∈ wsX00, w ∈ WA := fun _ h => List.mem_append_left _ (List.mem_append_left _ (List.mem_append_left _ (List.mem_append_right _ h)))
theorem gdF_X0 : ∀ w ∈ wsX00, goodWord w = true := List.all_eq_true.mp (by decide +kernel)
theorem inF_X8 : ∀ w ∈ wsX80, w ∈ WA := fun _ h => List.mem_append_left _ (List.mem_append_left _ (List.mem_append_right _ h))
theorem gdF_X8 : ∀ w ∈ wsX80, goodWord w = true := List.all_eq_true.mp (by decide +kernel)
theorem inF_X5 : ∀ w ∈ wsX50, w ∈ WA := fun _ h => List.mem_append_left _ (List.mem_append_right _ h)
theorem gdF_X5 : ∀ w ∈ wsX50, goodWord w = true := List.all_eq_true.mp (by decide +kernel)
theorem WA_good0 : ∀ w ∈ WA, goodWord w = true := goodA_app (goodA_app (goodA_app (goodA_app (goodA_app (goodA_app (goodA_app (goodA_app (goodA_app (goodA_app (goodA_app (goodA_app (goodA_app gdA_r1 (goodA_app gdA_r2 (goodA_app gdA_r3 (goodA_app gdA_r4 (goodA_app gdA_r5 (goodA_app gdA_r6 (goodA_app gdA_r7 (goodA_app gdA_r8 (goodA_app gdA_r9 (goodA_app gdA_r10 (goodA_app gdA_r11 (goodA_app gdA_r12 (goodA_app gdA_r13 (goodA_app gdA_r14 (goodA_app gdA_r15 (goodA_app gdA_r16 (goodA_app gdA_r17 (goodA_app gdA_r18 (goodA_app gdA_r19 (goodA_app gdA_r20 (goodA_app gdA_r21 (goodA_app gdA_r22 (goodA_app gdA_r23 (goodA_app gdA_r24 (goodA_app gdA_r25 (goodA_app gdA_r26 (goodA_app gdA_r27 (goodA_app gdA_r28 (goodA_app gdA_r29 (goodA_app gdA_r30 (goodA_app gdA_r31 (goodA_app gdA_r32 (goodA_app gdA_r33 (goodA_app gdA_r34 (goodA_app gdA_r35 (goodA_app gdA_r36 (goodA_app gdA_r37 (gdA_r38)))))))))))))))))))))))))))))))))))))) gdF_X9) gdF_Jx4a65c) gdF_X4) gdF_X6) gdF_X7) gdF_X3) gdF_X1) gdF_X2) gdF_X0) gdF_X8) gdF_X5) (fun _ h => absurd h List.not_mem_nil)
theorem WA_good : ∀ w ∈ WA, (w.onTables && w.keeps) = true ∨ ∃ ty, w = .arrayClass ty := fun w h => good_of_word (WA_good0 w h)
theorem gVA {own C : String} {idx : Nat} {y : MethodName} {b : ByteArray} {n : Nat} {ret : Option FieldType} (h1 : Cond.methodLink own idx y ∈ WA) (h2 : Cond.instanceMethod y ∈ WA) (h3 : Cond.selects C y y ∈ WA) (h4 : Cond.initialized C ∈ WA) (h5 : Cond.code y b n ret ∈ WA) : GoodIn WA (wsV own idx C y (.code y b n ret :: WA)) := by
  have k : ∀ w ∈ wsV own idx C y (.code y b n ret :: WA), w ∈ WA := by
    intro w hw
    rcases List.mem_append.mp hw with h | h
    · rcases List.mem_cons.mp h with rfl | h
      · exact h1
      rcases List.mem_cons.mp h with rfl | h
      · exact h2
      rcases List.mem_cons.mp h with rfl | h
      · exact h3
      rcases List.mem_cons.mp h with rfl | h
      · exact h4
      exact absurd h List.not_mem_nil
    · rcases List.mem_cons.mp h with rfl | h
      · exact h5
      · exact h
  exact fun w hw => ⟨k w hw, WA_good w (k w hw)⟩
theorem gSA {own : String} {idx : Nat} {y : MethodName} {b : ByteArray} {n : Nat} {ret : Option FieldType} (h1 : Cond.methodLink own idx y ∈ WA) (h2 : Cond.static y ∈ WA) (h4 : Cond.initialized y.cls ∈ WA) (h5 : Cond.code y b n ret ∈ WA) : GoodIn WA (va_wsS own idx y (.code y b n ret :: WA)) := by
  have k : ∀ w ∈ va_wsS own idx y (.code y b n ret :: WA), w ∈ WA := by
    intro w hw
    rcases List.mem_append.mp hw with h | h
    · rcases List.mem_cons.mp h with rfl | h
      · exact h1
      rcases List.mem_cons.mp h with rfl | h
      · exact h2
      rcases List.mem_cons.mp h with rfl | h
      · exact h4
      exact absurd h List.not_mem_nil
    · rcases List.mem_cons.mp h with rfl | h
      · exact h5
      · exact h
  exact fun w hw => ⟨k w hw, WA_good w (k w hw)⟩
theorem gNA {y : MethodName} {b : ByteArray} {n : Nat} {ret : Option FieldType} (h5 : Cond.code y b n ret ∈ WA) : GoodIn WA (.code y b n ret :: WA) := fun w hw => by
  rcases List.mem_cons.mp hw with rfl | h
  · exact ⟨h5, WA_good _ h5⟩
  · exact ⟨h, WA_good _ h⟩
end
section
theorem dX0_init_0 : decode cX0_init 0 = .ok (.aload_n 0, 1) := by decide +kernel
theorem dX0_init_1 : decode cX0_init 1 = .ok (.invokespecial 3, 3) := by decide +kernel
theorem dX0_init_4 : decode cX0_init 4 = .ok (.aload_n 0, 1) := by decide +kernel
theorem dX0_init_5 : decode cX0_init 5 = .ok (.bipush 40, 2) := by decide +kernel
theorem dX0_init_7 : decode cX0_init 7 = .ok (.newarray .int, 2) := by decide +kernel
theorem dX0_init_9 : decode cX0_init 9 = .ok (.putfield 9, 3) := by decide +kernel
theorem dX0_init_12 : decode cX0_init 12 = .ok (.aload_n 0, 1) := by decide +kernel
theorem dX0_init_13 : decode cX0_init 13 = .ok (.bipush 40, 2) := by decide +kernel
theorem dX0_init_15 : decode cX0_init 15 = .ok (.newarray .int, 2) := by decide +kernel
theorem dX0_init_17 : decode cX0_init 17 = .ok (.putfield 15, 3) := by decide +kernel
theorem dX0_init_20 : decode cX0_init 20 = .ok (.aload_n 0, 1) := by decide +kernel
theorem dX0_init_21 : decode cX0_init 21 = .ok (.bipush 40, 2) := by decide +kernel
theorem dX0_init_23 : decode cX0_init 23 = .ok (.newarray .int, 2) := by decide +kernel
theorem dX0_init_25 : decode cX0_init 25 = .ok (.putfield 18, 3) := by decide +kernel
theorem dX0_init_28 : decode cX0_init 28 = .ok (.aload_n 0, 1) := by decide +kernel
theorem dX0_init_29 : decode cX0_init 29 = .ok (.bipush 40, 2) := by decide +kernel
theorem dX0_init_31 : decode cX0_init 31 = .ok (.newarray .int, 2) := by decide +kernel
theorem dX0_init_33 : decode cX0_init 33 = .ok (.putfield 21, 3) := by decide +kernel
theorem dX0_init_36 : decode cX0_init 36 = .ok (.aload_n 0, 1) := by decide +kernel
theorem dX0_init_37 : decode cX0_init 37 = .ok (.bipush 40, 2) := by decide +kernel
theorem dX0_init_39 : decode cX0_init 39 = .ok (.newarray .int, 2) := by decide +kernel
theorem dX0_init_41 : decode cX0_init 41 = .ok (.putfield 24, 3) := by decide +kernel
theorem dX0_init_44 : decode cX0_init 44 = .ok (.aload_n 0, 1) := by decide +kernel
theorem dX0_init_45 : decode cX0_init 45 = .ok (.bipush 40, 2) := by decide +kernel
theorem dX0_init_47 : decode cX0_init 47 = .ok (.newarray .int, 2) := by decide +kernel
theorem dX0_init_49 : decode cX0_init 49 = .ok (.putfield 27, 3) := by decide +kernel
theorem dX0_init_52 : decode cX0_init 52 = .ok (.aload_n 0, 1) := by decide +kernel
theorem dX0_init_53 : decode cX0_init 53 = .ok (.iconst 0, 1) := by decide +kernel
theorem dX0_init_54 : decode cX0_init 54 = .ok (.putfield 30, 3) := by decide +kernel
theorem dX0_init_57 : decode cX0_init 57 = .ok (.aload_n 0, 1) := by decide +kernel
theorem dX0_init_58 : decode cX0_init 58 = .ok (.iconst 0, 1) := by decide +kernel
theorem dX0_init_59 : decode cX0_init 59 = .ok (.putfield 34, 3) := by decide +kernel
theorem dX0_init_62 : decode cX0_init 62 = .ok (.aload_n 0, 1) := by decide +kernel
theorem dX0_init_63 : decode cX0_init 63 = .ok (.iconst 0, 1) := by decide +kernel
theorem dX0_init_64 : decode cX0_init 64 = .ok (.putfield 37, 3) := by decide +kernel
theorem dX0_init_67 : decode cX0_init 67 = .ok (.aload_n 0, 1) := by decide +kernel
theorem dX0_init_68 : decode cX0_init 68 = .ok (.iconst 0, 1) := by decide +kernel
theorem dX0_init_69 : decode cX0_init 69 = .ok (.putfield 40, 3) := by decide +kernel
theorem dX0_init_72 : decode cX0_init 72 = .ok (.return_, 1) := by decide +kernel
theorem dX0_clear_0 : decode cX0_clear 0 = .ok (.aload_n 0, 1) := by decide +kernel
theorem dX0_clear_1 : decode cX0_clear 1 = .ok (.iconst 0, 1) := by decide +kernel
theorem dX0_clear_2 : decode cX0_clear 2 = .ok (.putfield 30, 3) := by decide +kernel
theorem dX0_clear_5 : decode cX0_clear 5 = .ok (.return_, 1) := by decide +kernel
theorem dX0_put_0 : decode cX0_put 0 = .ok (.aload_n 0, 1) := by decide +kernel
theorem dX0_put_1 : decode cX0_put 1 = .ok (.getfield 30, 3) := by decide +kernel
theorem dX0_put_4 : decode cX0_put 4 = .ok (.ifCond .lt 12, 3) := by decide +kernel
theorem dX0_put_7 : decode cX0_put 7 = .ok (.aload_n 0, 1) := by decide +kernel
theorem dX0_put_8 : decode cX0_put 8 = .ok (.getfield 30, 3) := by decide +kernel
theorem dX0_put_11 : decode cX0_put 11 = .ok (.bipush 40, 2) := by decide +kernel
theorem dX0_put_13 : decode cX0_put 13 = .ok (.if_icmp .lt 4, 3) := by decide +kernel
theorem dX0_put_16 : decode cX0_put 16 = .ok (.return_, 1) := by decide +kernel
theorem dX0_put_17 : decode cX0_put 17 = .ok (.aload_n 0, 1) := by decide +kernel
theorem dX0_put_18 : decode cX0_put 18 = .ok (.getfield 9, 3) := by decide +kernel
theorem dX0_put_21 : decode cX0_put 21 = .ok (.aload_n 0, 1) := by decide +kernel
theorem dX0_put_22 : decode cX0_put 22 = .ok (.getfield 30, 3) := by decide +kernel
theorem dX0_put_25 : decode cX0_put 25 = .ok (.iload_n 1, 1) := by decide +kernel
theorem dX0_put_26 : decode cX0_put 26 = .ok (.iastore, 1) := by decide +kernel
theorem dX0_put_27 : decode cX0_put 27 = .ok (.aload_n 0, 1) := by decide +kernel
theorem dX0_put_28 : decode cX0_put 28 = .ok (.getfield 15, 3) := by decide +kernel
theorem dX0_put_31 : decode cX0_put 31 = .ok (.aload_n 0, 1) := by decide +kernel
theorem dX0_put_32 : decode cX0_put 32 = .ok (.getfield 30, 3) := by decide +kernel
theorem dX0_put_35 : decode cX0_put 35 = .ok (.iload_n 2, 1) := by decide +kernel
theorem dX0_put_36 : decode cX0_put 36 = .ok (.iastore, 1) := by decide +kernel
theorem dX0_put_37 : decode cX0_put 37 = .ok (.aload_n 0, 1) := by decide +kernel
theorem dX0_put_38 : decode cX0_put 38 = .ok (.getfield 18, 3) := by decide +kernel
theorem dX0_put_41 : decode cX0_put 41 = .ok (.aload_n 0, 1) := by decide +kernel
theorem dX0_put_42 : decode cX0_put 42 = .ok (.getfield 30, 3) := by decide +kernel
theorem dX0_put_45 : decode cX0_put 45 = .ok (.iload_n 3, 1) := by decide +kernel
theorem dX0_put_46 : decode cX0_put 46 = .ok (.iastore, 1) := by decide +kernel
theorem dX0_put_47 : decode cX0_put 47 = .ok (.aload_n 0, 1) := by decide +kernel
theorem dX0_put_48 : decode cX0_put 48 = .ok (.getfield 21, 3) := by decide +kernel
theorem dX0_put_51 : decode cX0_put 51 = .ok (.aload_n 0, 1) := by decide +kernel
theorem dX0_put_52 : decode cX0_put 52 = .ok (.getfield 30, 3) := by decide +kernel
theorem dX0_put_55 : decode cX0_put 55 = .ok (.iload_n 3, 1) := by decide +kernel
theorem dX0_put_56 : decode cX0_put 56 = .ok (.iload 5, 2) := by decide +kernel
theorem dX0_put_58 : decode cX0_put 58 = .ok (.iadd, 1) := by decide +kernel
theorem dX0_put_59 : decode cX0_put 59 = .ok (.iastore, 1) := by decide +kernel
theorem dX0_put_60 : decode cX0_put 60 = .ok (.aload_n 0, 1) := by decide +kernel
theorem dX0_put_61 : decode cX0_put 61 = .ok (.getfield 24, 3) := by decide +kernel
theorem dX0_put_64 : decode cX0_put 64 = .ok (.aload_n 0, 1) := by decide +kernel
theorem dX0_put_65 : decode cX0_put 65 = .ok (.getfield 30, 3) := by decide +kernel
theorem dX0_put_68 : decode cX0_put 68 = .ok (.iload 4, 2) := by decide +kernel
theorem dX0_put_70 : decode cX0_put 70 = .ok (.iastore, 1) := by decide +kernel
theorem dX0_put_71 : decode cX0_put 71 = .ok (.aload_n 0, 1) := by decide +kernel
theorem dX0_put_72 : decode cX0_put 72 = .ok (.getfield 27, 3) := by decide +kernel
theorem dX0_put_75 : decode cX0_put 75 = .ok (.aload_n 0, 1) := by decide +kernel
theorem dX0_put_76 : decode cX0_put 76 = .ok (.getfield 30, 3) := by decide +kernel
theorem dX0_put_79 : decode cX0_put 79 = .ok (.iload 4, 2) := by decide +kernel
theorem dX0_put_81 : decode cX0_put 81 = .ok (.iload 6, 2) := by decide +kernel
theorem dX0_put_83 : decode cX0_put 83 = .ok (.iadd, 1) := by decide +kernel
theorem dX0_put_84 : decode cX0_put 84 = .ok (.iastore, 1) := by decide +kernel
theorem dX0_put_85 : decode cX0_put 85 = .ok (.aload_n 0, 1) := by decide +kernel
theorem dX0_put_86 : decode cX0_put 86 = .ok (.dup, 1) := by decide +kernel
theorem dX0_put_87 : decode cX0_put 87 = .ok (.getfield 30, 3) := by decide +kernel
theorem dX0_put_90 : decode cX0_put 90 = .ok (.iconst 1, 1) := by decide +kernel
theorem dX0_put_91 : decode cX0_put 91 = .ok (.iadd, 1) := by decide +kernel
theorem dX0_put_92 : decode cX0_put 92 = .ok (.putfield 30, 3) := by decide +kernel
theorem dX0_put_95 : decode cX0_put 95 = .ok (.return_, 1) := by decide +kernel
theorem dX0_belowBottoms_0 : decode cX0_belowBottoms 0 = .ok (.iload_n 3, 1) := by decide +kernel
theorem dX0_belowBottoms_1 : decode cX0_belowBottoms 1 = .ok (.istore 4, 2) := by decide +kernel
theorem dX0_belowBottoms_3 : decode cX0_belowBottoms 3 = .ok (.iconst 0, 1) := by decide +kernel
theorem dX0_belowBottoms_4 : decode cX0_belowBottoms 4 = .ok (.istore 5, 2) := by decide +kernel
theorem dX0_belowBottoms_6 : decode cX0_belowBottoms 6 = .ok (.iload 5, 2) := by decide +kernel
theorem dX0_belowBottoms_8 : decode cX0_belowBottoms 8 = .ok (.aload_n 0, 1) := by decide +kernel
theorem dX0_belowBottoms_9 : decode cX0_belowBottoms 9 = .ok (.getfield 30, 3) := by decide +kernel
theorem dX0_belowBottoms_12 : decode cX0_belowBottoms 12 = .ok (.if_icmp .ge 53, 3) := by decide +kernel
theorem dX0_belowBottoms_15 : decode cX0_belowBottoms 15 = .ok (.iload 5, 2) := by decide +kernel
theorem dX0_belowBottoms_17 : decode cX0_belowBottoms 17 = .ok (.bipush 40, 2) := by decide +kernel
theorem dX0_belowBottoms_19 : decode cX0_belowBottoms 19 = .ok (.if_icmp .ge 46, 3) := by decide +kernel
theorem dX0_belowBottoms_22 : decode cX0_belowBottoms 22 = .ok (.aload_n 0, 1) := by decide +kernel
theorem dX0_belowBottoms_23 : decode cX0_belowBottoms 23 = .ok (.getfield 9, 3) := by decide +kernel
theorem dX0_belowBottoms_26 : decode cX0_belowBottoms 26 = .ok (.iload 5, 2) := by decide +kernel
theorem dX0_belowBottoms_28 : decode cX0_belowBottoms 28 = .ok (.iaload, 1) := by decide +kernel
theorem dX0_belowBottoms_29 : decode cX0_belowBottoms 29 = .ok (.iload_n 1, 1) := by decide +kernel
theorem dX0_belowBottoms_30 : decode cX0_belowBottoms 30 = .ok (.if_icmp .ne 29, 3) := by decide +kernel
theorem dX0_belowBottoms_33 : decode cX0_belowBottoms 33 = .ok (.aload_n 0, 1) := by decide +kernel
theorem dX0_belowBottoms_34 : decode cX0_belowBottoms 34 = .ok (.getfield 15, 3) := by decide +kernel
theorem dX0_belowBottoms_37 : decode cX0_belowBottoms 37 = .ok (.iload 5, 2) := by decide +kernel
theorem dX0_belowBottoms_39 : decode cX0_belowBottoms 39 = .ok (.iaload, 1) := by decide +kernel
theorem dX0_belowBottoms_40 : decode cX0_belowBottoms 40 = .ok (.iload_n 2, 1) := by decide +kernel
theorem dX0_belowBottoms_41 : decode cX0_belowBottoms 41 = .ok (.iand, 1) := by decide +kernel
theorem dX0_belowBottoms_42 : decode cX0_belowBottoms 42 = .ok (.ifCond .eq 17, 3) := by decide +kernel
theorem dX0_belowBottoms_45 : decode cX0_belowBottoms 45 = .ok (.iload 4, 2) := by decide +kernel
theorem dX0_belowBottoms_47 : decode cX0_belowBottoms 47 = .ok (.aload_n 0, 1) := by decide +kernel
theorem dX0_belowBottoms_48 : decode cX0_belowBottoms 48 = .ok (.getfield 27, 3) := by decide +kernel
theorem dX0_belowBottoms_51 : decode cX0_belowBottoms 51 = .ok (.iload 5, 2) := by decide +kernel
theorem dX0_belowBottoms_53 : decode cX0_belowBottoms 53 = .ok (.iaload, 1) := by decide +kernel
theorem dX0_belowBottoms_54 : decode cX0_belowBottoms 54 = .ok (.invokestatic 43, 3) := by decide +kernel
theorem dX0_belowBottoms_57 : decode cX0_belowBottoms 57 = .ok (.istore 4, 2) := by decide +kernel
theorem dX0_belowBottoms_59 : decode cX0_belowBottoms 59 = .ok (.iinc 5 1, 3) := by decide +kernel
theorem dX0_belowBottoms_62 : decode cX0_belowBottoms 62 = .ok (.goto (-56), 3) := by decide +kernel
theorem dX0_belowBottoms_65 : decode cX0_belowBottoms 65 = .ok (.iload 4, 2) := by decide +kernel
theorem dX0_belowBottoms_67 : decode cX0_belowBottoms 67 = .ok (.ireturn, 1) := by decide +kernel
theorem dX0_belowTops_0 : decode cX0_belowTops 0 = .ok (.iload_n 2, 1) := by decide +kernel
theorem dX0_belowTops_1 : decode cX0_belowTops 1 = .ok (.istore_n 3, 1) := by decide +kernel
theorem dX0_belowTops_2 : decode cX0_belowTops 2 = .ok (.iconst 0, 1) := by decide +kernel
theorem dX0_belowTops_3 : decode cX0_belowTops 3 = .ok (.istore 4, 2) := by decide +kernel
theorem dX0_belowTops_5 : decode cX0_belowTops 5 = .ok (.iload 4, 2) := by decide +kernel
theorem dX0_belowTops_7 : decode cX0_belowTops 7 = .ok (.aload_n 0, 1) := by decide +kernel
theorem dX0_belowTops_8 : decode cX0_belowTops 8 = .ok (.getfield 30, 3) := by decide +kernel
theorem dX0_belowTops_11 : decode cX0_belowTops 11 = .ok (.if_icmp .ge 39, 3) := by decide +kernel
theorem dX0_belowTops_14 : decode cX0_belowTops 14 = .ok (.iload 4, 2) := by decide +kernel
theorem dX0_belowTops_16 : decode cX0_belowTops 16 = .ok (.bipush 40, 2) := by decide +kernel
theorem dX0_belowTops_18 : decode cX0_belowTops 18 = .ok (.if_icmp .ge 32, 3) := by decide +kernel
theorem dX0_belowTops_21 : decode cX0_belowTops 21 = .ok (.aload_n 0, 1) := by decide +kernel
theorem dX0_belowTops_22 : decode cX0_belowTops 22 = .ok (.getfield 9, 3) := by decide +kernel
theorem dX0_belowTops_25 : decode cX0_belowTops 25 = .ok (.iload 4, 2) := by decide +kernel
theorem dX0_belowTops_27 : decode cX0_belowTops 27 = .ok (.iaload, 1) := by decide +kernel
theorem dX0_belowTops_28 : decode cX0_belowTops 28 = .ok (.iload_n 1, 1) := by decide +kernel
theorem dX0_belowTops_29 : decode cX0_belowTops 29 = .ok (.if_icmp .ne 15, 3) := by decide +kernel
theorem dX0_belowTops_32 : decode cX0_belowTops 32 = .ok (.iload_n 3, 1) := by decide +kernel
theorem dX0_belowTops_33 : decode cX0_belowTops 33 = .ok (.aload_n 0, 1) := by decide +kernel
theorem dX0_belowTops_34 : decode cX0_belowTops 34 = .ok (.getfield 24, 3) := by decide +kernel
theorem dX0_belowTops_37 : decode cX0_belowTops 37 = .ok (.iload 4, 2) := by decide +kernel
theorem dX0_belowTops_39 : decode cX0_belowTops 39 = .ok (.iaload, 1) := by decide +kernel
theorem dX0_belowTops_40 : decode cX0_belowTops 40 = .ok (.invokestatic 43, 3) := by decide +kernel
theorem dX0_belowTops_43 : decode cX0_belowTops 43 = .ok (.istore_n 3, 1) := by decide +kernel
theorem dX0_belowTops_44 : decode cX0_belowTops 44 = .ok (.iinc 4 1, 3) := by decide +kernel
theorem dX0_belowTops_47 : decode cX0_belowTops 47 = .ok (.goto (-42), 3) := by decide +kernel
theorem dX0_belowTops_50 : decode cX0_belowTops 50 = .ok (.iload_n 3, 1) := by decide +kernel
theorem dX0_belowTops_51 : decode cX0_belowTops 51 = .ok (.ireturn, 1) := by decide +kernel
theorem dX0_findRoom_0 : decode cX0_findRoom 0 = .ok (.iload_n 3, 1) := by decide +kernel
theorem dX0_findRoom_1 : decode cX0_findRoom 1 = .ok (.istore 4, 2) := by decide +kernel
theorem dX0_findRoom_3 : decode cX0_findRoom 3 = .ok (.aload_n 0, 1) := by decide +kernel
theorem dX0_findRoom_4 : decode cX0_findRoom 4 = .ok (.aload_n 2, 1) := by decide +kernel
theorem dX0_findRoom_5 : decode cX0_findRoom 5 = .ok (.iload 4, 2) := by decide +kernel
theorem dX0_findRoom_7 : decode cX0_findRoom 7 = .ok (.invokevirtual 49, 3) := by decide +kernel
theorem dX0_findRoom_10 : decode cX0_findRoom 10 = .ok (.iconst 0, 1) := by decide +kernel
theorem dX0_findRoom_11 : decode cX0_findRoom 11 = .ok (.istore 5, 2) := by decide +kernel
theorem dX0_findRoom_13 : decode cX0_findRoom 13 = .ok (.iload 5, 2) := by decide +kernel
theorem dX0_findRoom_15 : decode cX0_findRoom 15 = .ok (.bipush 40, 2) := by decide +kernel
theorem dX0_findRoom_17 : decode cX0_findRoom 17 = .ok (.if_icmp .ge 44, 3) := by decide +kernel
theorem dX0_findRoom_20 : decode cX0_findRoom 20 = .ok (.iload_n 1, 1) := by decide +kernel
theorem dX0_findRoom_21 : decode cX0_findRoom 21 = .ok (.aload_n 0, 1) := by decide +kernel
theorem dX0_findRoom_22 : decode cX0_findRoom 22 = .ok (.getfield 37, 3) := by decide +kernel
theorem dX0_findRoom_25 : decode cX0_findRoom 25 = .ok (.aload_n 0, 1) := by decide +kernel
theorem dX0_findRoom_26 : decode cX0_findRoom 26 = .ok (.getfield 34, 3) := by decide +kernel
theorem dX0_findRoom_29 : decode cX0_findRoom 29 = .ok (.isub, 1) := by decide +kernel
theorem dX0_findRoom_30 : decode cX0_findRoom 30 = .ok (.if_icmp .le 31, 3) := by decide +kernel
theorem dX0_findRoom_33 : decode cX0_findRoom 33 = .ok (.aload_n 0, 1) := by decide +kernel
theorem dX0_findRoom_34 : decode cX0_findRoom 34 = .ok (.getfield 40, 3) := by decide +kernel
theorem dX0_findRoom_37 : decode cX0_findRoom 37 = .ok (.iload 4, 2) := by decide +kernel
theorem dX0_findRoom_39 : decode cX0_findRoom 39 = .ok (.if_icmp .le 22, 3) := by decide +kernel
theorem dX0_findRoom_42 : decode cX0_findRoom 42 = .ok (.aload_n 0, 1) := by decide +kernel
theorem dX0_findRoom_43 : decode cX0_findRoom 43 = .ok (.getfield 40, 3) := by decide +kernel
theorem dX0_findRoom_46 : decode cX0_findRoom 46 = .ok (.istore 4, 2) := by decide +kernel
theorem dX0_findRoom_48 : decode cX0_findRoom 48 = .ok (.aload_n 0, 1) := by decide +kernel
theorem dX0_findRoom_49 : decode cX0_findRoom 49 = .ok (.aload_n 2, 1) := by decide +kernel
theorem dX0_findRoom_50 : decode cX0_findRoom 50 = .ok (.iload 4, 2) := by decide +kernel
theorem dX0_findRoom_52 : decode cX0_findRoom 52 = .ok (.invokevirtual 49, 3) := by decide +kernel
theorem dX0_findRoom_55 : decode cX0_findRoom 55 = .ok (.iinc 5 1, 3) := by decide +kernel
theorem dX0_findRoom_58 : decode cX0_findRoom 58 = .ok (.goto (-45), 3) := by decide +kernel
theorem dX0_findRoom_61 : decode cX0_findRoom 61 = .ok (.iload 4, 2) := by decide +kernel
theorem dX0_findRoom_63 : decode cX0_findRoom 63 = .ok (.ireturn, 1) := by decide +kernel
theorem dX0_look_0 : decode cX0_look 0 = .ok (.aload_n 0, 1) := by decide +kernel
theorem dX0_look_1 : decode cX0_look 1 = .ok (.aload_n 1, 1) := by decide +kernel
theorem dX0_look_2 : decode cX0_look 2 = .ok (.getfield 53, 3) := by decide +kernel
theorem dX0_look_5 : decode cX0_look 5 = .ok (.getfield 59, 3) := by decide +kernel
theorem dX0_look_8 : decode cX0_look 8 = .ok (.putfield 34, 3) := by decide +kernel
theorem dX0_look_11 : decode cX0_look 11 = .ok (.aload_n 0, 1) := by decide +kernel
theorem dX0_look_12 : decode cX0_look 12 = .ok (.aload_n 1, 1) := by decide +kernel
theorem dX0_look_13 : decode cX0_look 13 = .ok (.getfield 53, 3) := by decide +kernel
theorem dX0_look_16 : decode cX0_look 16 = .ok (.getfield 59, 3) := by decide +kernel
theorem dX0_look_19 : decode cX0_look 19 = .ok (.aload_n 1, 1) := by decide +kernel
theorem dX0_look_20 : decode cX0_look 20 = .ok (.getfield 53, 3) := by decide +kernel
theorem dX0_look_23 : decode cX0_look 23 = .ok (.getfield 64, 3) := by decide +kernel
theorem dX0_look_26 : decode cX0_look 26 = .ok (.iadd, 1) := by decide +kernel
theorem dX0_look_27 : decode cX0_look 27 = .ok (.putfield 37, 3) := by decide +kernel
theorem dX0_look_30 : decode cX0_look 30 = .ok (.aload_n 0, 1) := by decide +kernel
theorem dX0_look_31 : decode cX0_look 31 = .ok (.iload_n 2, 1) := by decide +kernel
theorem dX0_look_32 : decode cX0_look 32 = .ok (.putfield 40, 3) := by decide +kernel
theorem dX0_look_35 : decode cX0_look 35 = .ok (.iconst 0, 1) := by decide +kernel
theorem dX0_look_36 : decode cX0_look 36 = .ok (.istore_n 3, 1) := by decide +kernel
theorem dX0_look_37 : decode cX0_look 37 = .ok (.iload_n 3, 1) := by decide +kernel
theorem dX0_look_38 : decode cX0_look 38 = .ok (.aload_n 0, 1) := by decide +kernel
theorem dX0_look_39 : decode cX0_look 39 = .ok (.getfield 30, 3) := by decide +kernel
theorem dX0_look_42 : decode cX0_look 42 = .ok (.if_icmp .ge 132, 3) := by decide +kernel
theorem dX0_look_45 : decode cX0_look 45 = .ok (.iload_n 3, 1) := by decide +kernel
theorem dX0_look_46 : decode cX0_look 46 = .ok (.bipush 40, 2) := by decide +kernel
theorem dX0_look_48 : decode cX0_look 48 = .ok (.if_icmp .ge 126, 3) := by decide +kernel
theorem dX0_look_51 : decode cX0_look 51 = .ok (.aload_n 0, 1) := by decide +kernel
theorem dX0_look_52 : decode cX0_look 52 = .ok (.getfield 9, 3) := by decide +kernel
theorem dX0_look_55 : decode cX0_look 55 = .ok (.iload_n 3, 1) := by decide +kernel
theorem dX0_look_56 : decode cX0_look 56 = .ok (.iaload, 1) := by decide +kernel
theorem dX0_look_57 : decode cX0_look 57 = .ok (.aload_n 1, 1) := by decide +kernel
theorem dX0_look_58 : decode cX0_look 58 = .ok (.getfield 67, 3) := by decide +kernel
theorem dX0_look_61 : decode cX0_look 61 = .ok (.getfield 71, 3) := by decide +kernel
theorem dX0_look_64 : decode cX0_look 64 = .ok (.if_icmp .ne 104, 3) := by decide +kernel
theorem dX0_look_67 : decode cX0_look 67 = .ok (.iload_n 2, 1) := by decide +kernel
theorem dX0_look_68 : decode cX0_look 68 = .ok (.aload_n 0, 1) := by decide +kernel
theorem dX0_look_69 : decode cX0_look 69 = .ok (.getfield 24, 3) := by decide +kernel
theorem dX0_look_72 : decode cX0_look 72 = .ok (.iload_n 3, 1) := by decide +kernel
theorem dX0_look_73 : decode cX0_look 73 = .ok (.iaload, 1) := by decide +kernel
theorem dX0_look_74 : decode cX0_look 74 = .ok (.if_icmp .lt 94, 3) := by decide +kernel
theorem dX0_look_77 : decode cX0_look 77 = .ok (.iload_n 2, 1) := by decide +kernel
theorem dX0_look_78 : decode cX0_look 78 = .ok (.aload_n 0, 1) := by decide +kernel
theorem dX0_look_79 : decode cX0_look 79 = .ok (.getfield 27, 3) := by decide +kernel
theorem dX0_look_82 : decode cX0_look 82 = .ok (.iload_n 3, 1) := by decide +kernel
theorem dX0_look_83 : decode cX0_look 83 = .ok (.iaload, 1) := by decide +kernel
theorem dX0_look_84 : decode cX0_look 84 = .ok (.if_icmp .ge 84, 3) := by decide +kernel
theorem dX0_look_87 : decode cX0_look 87 = .ok (.aload_n 0, 1) := by decide +kernel
theorem dX0_look_88 : decode cX0_look 88 = .ok (.aload_n 0, 1) := by decide +kernel
theorem dX0_look_89 : decode cX0_look 89 = .ok (.getfield 40, 3) := by decide +kernel
theorem dX0_look_92 : decode cX0_look 92 = .ok (.iload_n 2, 1) := by decide +kernel
theorem dX0_look_93 : decode cX0_look 93 = .ok (.if_icmp .ne 12, 3) := by decide +kernel
theorem dX0_look_96 : decode cX0_look 96 = .ok (.aload_n 0, 1) := by decide +kernel
theorem dX0_look_97 : decode cX0_look 97 = .ok (.getfield 27, 3) := by decide +kernel
theorem dX0_look_100 : decode cX0_look 100 = .ok (.iload_n 3, 1) := by decide +kernel
theorem dX0_look_101 : decode cX0_look 101 = .ok (.iaload, 1) := by decide +kernel
theorem dX0_look_102 : decode cX0_look 102 = .ok (.goto 16, 3) := by decide +kernel
theorem dX0_look_105 : decode cX0_look 105 = .ok (.aload_n 0, 1) := by decide +kernel
theorem dX0_look_106 : decode cX0_look 106 = .ok (.getfield 40, 3) := by decide +kernel
theorem dX0_look_109 : decode cX0_look 109 = .ok (.aload_n 0, 1) := by decide +kernel
theorem dX0_look_110 : decode cX0_look 110 = .ok (.getfield 27, 3) := by decide +kernel
theorem dX0_look_113 : decode cX0_look 113 = .ok (.iload_n 3, 1) := by decide +kernel
theorem dX0_look_114 : decode cX0_look 114 = .ok (.iaload, 1) := by decide +kernel
theorem dX0_look_115 : decode cX0_look 115 = .ok (.invokestatic 76, 3) := by decide +kernel
theorem dX0_look_118 : decode cX0_look 118 = .ok (.putfield 40, 3) := by decide +kernel
theorem dX0_look_121 : decode cX0_look 121 = .ok (.aload_n 0, 1) := by decide +kernel
theorem dX0_look_122 : decode cX0_look 122 = .ok (.getfield 15, 3) := by decide +kernel
theorem dX0_look_125 : decode cX0_look 125 = .ok (.iload_n 3, 1) := by decide +kernel
theorem dX0_look_126 : decode cX0_look 126 = .ok (.iaload, 1) := by decide +kernel
theorem dX0_look_127 : decode cX0_look 127 = .ok (.iconst 1, 1) := by decide +kernel
theorem dX0_look_128 : decode cX0_look 128 = .ok (.if_icmp .ne 23, 3) := by decide +kernel
theorem dX0_look_131 : decode cX0_look 131 = .ok (.aload_n 0, 1) := by decide +kernel
theorem dX0_look_132 : decode cX0_look 132 = .ok (.aload_n 0, 1) := by decide +kernel
theorem dX0_look_133 : decode cX0_look 133 = .ok (.getfield 34, 3) := by decide +kernel
theorem dX0_look_136 : decode cX0_look 136 = .ok (.aload_n 0, 1) := by decide +kernel
theorem dX0_look_137 : decode cX0_look 137 = .ok (.getfield 21, 3) := by decide +kernel
theorem dX0_look_140 : decode cX0_look 140 = .ok (.iload_n 3, 1) := by decide +kernel
theorem dX0_look_141 : decode cX0_look 141 = .ok (.iaload, 1) := by decide +kernel
theorem dX0_look_142 : decode cX0_look 142 = .ok (.invokestatic 43, 3) := by decide +kernel
theorem dX0_look_145 : decode cX0_look 145 = .ok (.putfield 34, 3) := by decide +kernel
theorem dX0_look_148 : decode cX0_look 148 = .ok (.goto 20, 3) := by decide +kernel
theorem dX0_look_151 : decode cX0_look 151 = .ok (.aload_n 0, 1) := by decide +kernel
theorem dX0_look_152 : decode cX0_look 152 = .ok (.aload_n 0, 1) := by decide +kernel
theorem dX0_look_153 : decode cX0_look 153 = .ok (.getfield 37, 3) := by decide +kernel
theorem dX0_look_156 : decode cX0_look 156 = .ok (.aload_n 0, 1) := by decide +kernel
theorem dX0_look_157 : decode cX0_look 157 = .ok (.getfield 18, 3) := by decide +kernel
theorem dX0_look_160 : decode cX0_look 160 = .ok (.iload_n 3, 1) := by decide +kernel
theorem dX0_look_161 : decode cX0_look 161 = .ok (.iaload, 1) := by decide +kernel
theorem dX0_look_162 : decode cX0_look 162 = .ok (.invokestatic 76, 3) := by decide +kernel
theorem dX0_look_165 : decode cX0_look 165 = .ok (.putfield 37, 3) := by decide +kernel
theorem dX0_look_168 : decode cX0_look 168 = .ok (.iinc 3 1, 3) := by decide +kernel
theorem dX0_look_171 : decode cX0_look 171 = .ok (.goto (-134), 3) := by decide +kernel
theorem dX0_look_174 : decode cX0_look 174 = .ok (.return_, 1) := by decide +kernel
theorem dX1_init_0 : decode cX1_init 0 = .ok (.aload_n 0, 1) := by decide +kernel
theorem dX1_init_1 : decode cX1_init 1 = .ok (.invokespecial 1, 3) := by decide +kernel
theorem dX1_init_4 : decode cX1_init 4 = .ok (.aload_n 0, 1) := by decide +kernel
theorem dX1_init_5 : decode cX1_init 5 = .ok (.iconst 0, 1) := by decide +kernel
theorem dX1_init_6 : decode cX1_init 6 = .ok (.putfield 7, 3) := by decide +kernel
theorem dX1_init_9 : decode cX1_init 9 = .ok (.aload_n 0, 1) := by decide +kernel
theorem dX1_init_10 : decode cX1_init 10 = .ok (.iconst 0, 1) := by decide +kernel
theorem dX1_init_11 : decode cX1_init 11 = .ok (.putfield 13, 3) := by decide +kernel
theorem dX1_init_14 : decode cX1_init 14 = .ok (.aload_n 0, 1) := by decide +kernel
theorem dX1_init_15 : decode cX1_init 15 = .ok (.iconst 0, 1) := by decide +kernel
theorem dX1_init_16 : decode cX1_init 16 = .ok (.putfield 16, 3) := by decide +kernel
theorem dX1_init_19 : decode cX1_init 19 = .ok (.aload_n 0, 1) := by decide +kernel
theorem dX1_init_20 : decode cX1_init 20 = .ok (.iconst 0, 1) := by decide +kernel
theorem dX1_init_21 : decode cX1_init 21 = .ok (.putfield 19, 3) := by decide +kernel
theorem dX1_init_24 : decode cX1_init 24 = .ok (.aload_n 0, 1) := by decide +kernel
theorem dX1_init_25 : decode cX1_init 25 = .ok (.iconst 0, 1) := by decide +kernel
theorem dX1_init_26 : decode cX1_init 26 = .ok (.putfield 22, 3) := by decide +kernel
theorem dX1_init_29 : decode cX1_init 29 = .ok (.return_, 1) := by decide +kernel
theorem dX2_init_0 : decode cX2_init 0 = .ok (.aload_n 0, 1) := by decide +kernel
theorem dX2_init_1 : decode cX2_init 1 = .ok (.invokespecial 3, 3) := by decide +kernel
theorem dX2_init_4 : decode cX2_init 4 = .ok (.aload_n 0, 1) := by decide +kernel
theorem dX2_init_5 : decode cX2_init 5 = .ok (.iconst 0, 1) := by decide +kernel
theorem dX2_init_6 : decode cX2_init 6 = .ok (.putfield 9, 3) := by decide +kernel
theorem dX2_init_9 : decode cX2_init 9 = .ok (.aload_n 0, 1) := by decide +kernel
theorem dX2_init_10 : decode cX2_init 10 = .ok (.aconst_null, 1) := by decide +kernel
theorem dX2_init_11 : decode cX2_init 11 = .ok (.putfield 15, 3) := by decide +kernel
theorem dX2_init_14 : decode cX2_init 14 = .ok (.aload_n 0, 1) := by decide +kernel
theorem dX2_init_15 : decode cX2_init 15 = .ok (.iconst 0, 1) := by decide +kernel
theorem dX2_init_16 : decode cX2_init 16 = .ok (.putfield 19, 3) := by decide +kernel
theorem dX2_init_19 : decode cX2_init 19 = .ok (.aload_n 0, 1) := by decide +kernel
theorem dX2_init_20 : decode cX2_init 20 = .ok (.iconst 0, 1) := by decide +kernel
theorem dX2_init_21 : decode cX2_init 21 = .ok (.putfield 22, 3) := by decide +kernel
theorem dX2_init_24 : decode cX2_init 24 = .ok (.aload_n 0, 1) := by decide +kernel
theorem dX2_init_25 : decode cX2_init 25 = .ok (.iconst 0, 1) := by decide +kernel
theorem dX2_init_26 : decode cX2_init 26 = .ok (.putfield 25, 3) := by decide +kernel
theorem dX2_init_29 : decode cX2_init 29 = .ok (.aload_n 0, 1) := by decide +kernel
theorem dX2_init_30 : decode cX2_init 30 = .ok (.iconst 0, 1) := by decide +kernel
theorem dX2_init_31 : decode cX2_init 31 = .ok (.putfield 29, 3) := by decide +kernel
theorem dX2_init_34 : decode cX2_init 34 = .ok (.aload_n 0, 1) := by decide +kernel
theorem dX2_init_35 : decode cX2_init 35 = .ok (.iconst 0, 1) := by decide +kernel
theorem dX2_init_36 : decode cX2_init 36 = .ok (.putfield 32, 3) := by decide +kernel
theorem dX2_init_39 : decode cX2_init 39 = .ok (.aload_n 0, 1) := by decide +kernel
theorem dX2_init_40 : decode cX2_init 40 = .ok (.iconst 0, 1) := by decide +kernel
theorem dX2_init_41 : decode cX2_init 41 = .ok (.putfield 35, 3) := by decide +kernel
theorem dX2_init_44 : decode cX2_init 44 = .ok (.aload_n 0, 1) := by decide +kernel
theorem dX2_init_45 : decode cX2_init 45 = .ok (.iconst 0, 1) := by decide +kernel
theorem dX2_init_46 : decode cX2_init 46 = .ok (.putfield 38, 3) := by decide +kernel
theorem dX2_init_49 : decode cX2_init 49 = .ok (.aload_n 0, 1) := by decide +kernel
theorem dX2_init_50 : decode cX2_init 50 = .ok (.iconst 0, 1) := by decide +kernel
theorem dX2_init_51 : decode cX2_init 51 = .ok (.putfield 41, 3) := by decide +kernel
theorem dX2_init_54 : decode cX2_init 54 = .ok (.aload_n 0, 1) := by decide +kernel
theorem dX2_init_55 : decode cX2_init 55 = .ok (.iconst 0, 1) := by decide +kernel
theorem dX2_init_56 : decode cX2_init 56 = .ok (.putfield 44, 3) := by decide +kernel
theorem dX2_init_59 : decode cX2_init 59 = .ok (.aload_n 0, 1) := by decide +kernel
theorem dX2_init_60 : decode cX2_init 60 = .ok (.iconst 0, 1) := by decide +kernel
theorem dX2_init_61 : decode cX2_init 61 = .ok (.putfield 47, 3) := by decide +kernel
theorem dX2_init_64 : decode cX2_init 64 = .ok (.aload_n 0, 1) := by decide +kernel
theorem dX2_init_65 : decode cX2_init 65 = .ok (.iconst 0, 1) := by decide +kernel
theorem dX2_init_66 : decode cX2_init 66 = .ok (.putfield 50, 3) := by decide +kernel
theorem dX2_init_69 : decode cX2_init 69 = .ok (.aload_n 0, 1) := by decide +kernel
theorem dX2_init_70 : decode cX2_init 70 = .ok (.iconst 0, 1) := by decide +kernel
theorem dX2_init_71 : decode cX2_init 71 = .ok (.putfield 53, 3) := by decide +kernel
theorem dX2_init_74 : decode cX2_init 74 = .ok (.aload_n 0, 1) := by decide +kernel
theorem dX2_init_75 : decode cX2_init 75 = .ok (.iconst 0, 1) := by decide +kernel
theorem dX2_init_76 : decode cX2_init 76 = .ok (.iload_n 1, 1) := by decide +kernel
theorem dX2_init_77 : decode cX2_init 77 = .ok (.invokestatic 56, 3) := by decide +kernel
theorem dX2_init_80 : decode cX2_init 80 = .ok (.newarray .int, 2) := by decide +kernel
theorem dX2_init_82 : decode cX2_init 82 = .ok (.putfield 62, 3) := by decide +kernel
theorem dX2_init_85 : decode cX2_init 85 = .ok (.aload_n 0, 1) := by decide +kernel
theorem dX2_init_86 : decode cX2_init 86 = .ok (.iconst 0, 1) := by decide +kernel
theorem dX2_init_87 : decode cX2_init 87 = .ok (.iload_n 1, 1) := by decide +kernel
theorem dX2_init_88 : decode cX2_init 88 = .ok (.invokestatic 56, 3) := by decide +kernel
theorem dX2_init_91 : decode cX2_init 91 = .ok (.newarray .int, 2) := by decide +kernel
theorem dX2_init_93 : decode cX2_init 93 = .ok (.putfield 66, 3) := by decide +kernel
theorem dX2_init_96 : decode cX2_init 96 = .ok (.return_, 1) := by decide +kernel
theorem dX2_isBox_0 : decode cX2_isBox 0 = .ok (.aload_n 0, 1) := by decide +kernel
theorem dX2_isBox_1 : decode cX2_isBox 1 = .ok (.getfield 9, 3) := by decide +kernel
theorem dX2_isBox_4 : decode cX2_isBox 4 = .ok (.iconst 3, 1) := by decide +kernel
theorem dX2_isBox_5 : decode cX2_isBox 5 = .ok (.if_icmp .eq 11, 3) := by decide +kernel
theorem dX2_isBox_8 : decode cX2_isBox 8 = .ok (.aload_n 0, 1) := by decide +kernel
theorem dX2_isBox_9 : decode cX2_isBox 9 = .ok (.getfield 9, 3) := by decide +kernel
theorem dX2_isBox_12 : decode cX2_isBox 12 = .ok (.iconst 4, 1) := by decide +kernel
theorem dX2_isBox_13 : decode cX2_isBox 13 = .ok (.if_icmp .ne 7, 3) := by decide +kernel
theorem dX2_isBox_16 : decode cX2_isBox 16 = .ok (.iconst 1, 1) := by decide +kernel
theorem dX2_isBox_17 : decode cX2_isBox 17 = .ok (.goto 4, 3) := by decide +kernel
theorem dX2_isBox_20 : decode cX2_isBox 20 = .ok (.iconst 0, 1) := by decide +kernel
theorem dX2_isBox_21 : decode cX2_isBox 21 = .ok (.ireturn, 1) := by decide +kernel
theorem dX2_borderX_0 : decode cX2_borderX 0 = .ok (.aload_n 0, 1) := by decide +kernel
theorem dX2_borderX_1 : decode cX2_borderX 1 = .ok (.invokevirtual 69, 3) := by decide +kernel
theorem dX2_borderX_4 : decode cX2_borderX 4 = .ok (.ifCond .eq 20, 3) := by decide +kernel
theorem dX2_borderX_7 : decode cX2_borderX 7 = .ok (.aload_n 0, 1) := by decide +kernel
theorem dX2_borderX_8 : decode cX2_borderX 8 = .ok (.getfield 29, 3) := by decide +kernel
theorem dX2_borderX_11 : decode cX2_borderX 11 = .ok (.aload_n 0, 1) := by decide +kernel
theorem dX2_borderX_12 : decode cX2_borderX 12 = .ok (.getfield 19, 3) := by decide +kernel
theorem dX2_borderX_15 : decode cX2_borderX 15 = .ok (.isub, 1) := by decide +kernel
theorem dX2_borderX_16 : decode cX2_borderX 16 = .ok (.aload_n 0, 1) := by decide +kernel
theorem dX2_borderX_17 : decode cX2_borderX 17 = .ok (.getfield 47, 3) := by decide +kernel
theorem dX2_borderX_20 : decode cX2_borderX 20 = .ok (.iadd, 1) := by decide +kernel
theorem dX2_borderX_21 : decode cX2_borderX 21 = .ok (.goto 6, 3) := by decide +kernel
theorem dX2_borderX_24 : decode cX2_borderX 24 = .ok (.sipush (-9999), 3) := by decide +kernel
theorem dX2_borderX_27 : decode cX2_borderX 27 = .ok (.ireturn, 1) := by decide +kernel
theorem dX2_borderY_0 : decode cX2_borderY 0 = .ok (.aload_n 0, 1) := by decide +kernel
theorem dX2_borderY_1 : decode cX2_borderY 1 = .ok (.invokevirtual 69, 3) := by decide +kernel
theorem dX2_borderY_4 : decode cX2_borderY 4 = .ok (.ifCond .eq 20, 3) := by decide +kernel
theorem dX2_borderY_7 : decode cX2_borderY 7 = .ok (.aload_n 0, 1) := by decide +kernel
theorem dX2_borderY_8 : decode cX2_borderY 8 = .ok (.getfield 32, 3) := by decide +kernel
theorem dX2_borderY_11 : decode cX2_borderY 11 = .ok (.aload_n 0, 1) := by decide +kernel
theorem dX2_borderY_12 : decode cX2_borderY 12 = .ok (.getfield 19, 3) := by decide +kernel
theorem dX2_borderY_15 : decode cX2_borderY 15 = .ok (.isub, 1) := by decide +kernel
theorem dX2_borderY_16 : decode cX2_borderY 16 = .ok (.aload_n 0, 1) := by decide +kernel
theorem dX2_borderY_17 : decode cX2_borderY 17 = .ok (.getfield 50, 3) := by decide +kernel
theorem dX2_borderY_20 : decode cX2_borderY 20 = .ok (.iadd, 1) := by decide +kernel
theorem dX2_borderY_21 : decode cX2_borderY 21 = .ok (.goto 6, 3) := by decide +kernel
theorem dX2_borderY_24 : decode cX2_borderY 24 = .ok (.sipush (-9999), 3) := by decide +kernel
theorem dX2_borderY_27 : decode cX2_borderY 27 = .ok (.ireturn, 1) := by decide +kernel
theorem dX2_borderWide_0 : decode cX2_borderWide 0 = .ok (.aload_n 0, 1) := by decide +kernel
theorem dX2_borderWide_1 : decode cX2_borderWide 1 = .ok (.invokevirtual 69, 3) := by decide +kernel
theorem dX2_borderWide_4 : decode cX2_borderWide 4 = .ok (.ifCond .eq 17, 3) := by decide +kernel
theorem dX2_borderWide_7 : decode cX2_borderWide 7 = .ok (.aload_n 0, 1) := by decide +kernel
theorem dX2_borderWide_8 : decode cX2_borderWide 8 = .ok (.getfield 35, 3) := by decide +kernel
theorem dX2_borderWide_11 : decode cX2_borderWide 11 = .ok (.iconst 2, 1) := by decide +kernel
theorem dX2_borderWide_12 : decode cX2_borderWide 12 = .ok (.aload_n 0, 1) := by decide +kernel
theorem dX2_borderWide_13 : decode cX2_borderWide 13 = .ok (.getfield 19, 3) := by decide +kernel
theorem dX2_borderWide_16 : decode cX2_borderWide 16 = .ok (.imul, 1) := by decide +kernel
theorem dX2_borderWide_17 : decode cX2_borderWide 17 = .ok (.iadd, 1) := by decide +kernel
theorem dX2_borderWide_18 : decode cX2_borderWide 18 = .ok (.goto 4, 3) := by decide +kernel
theorem dX2_borderWide_21 : decode cX2_borderWide 21 = .ok (.iconst (-1), 1) := by decide +kernel
theorem dX2_borderWide_22 : decode cX2_borderWide 22 = .ok (.ireturn, 1) := by decide +kernel
theorem dX2_borderHigh_0 : decode cX2_borderHigh 0 = .ok (.aload_n 0, 1) := by decide +kernel
theorem dX2_borderHigh_1 : decode cX2_borderHigh 1 = .ok (.invokevirtual 69, 3) := by decide +kernel
theorem dX2_borderHigh_4 : decode cX2_borderHigh 4 = .ok (.ifCond .eq 17, 3) := by decide +kernel
theorem dX2_borderHigh_7 : decode cX2_borderHigh 7 = .ok (.aload_n 0, 1) := by decide +kernel
theorem dX2_borderHigh_8 : decode cX2_borderHigh 8 = .ok (.getfield 38, 3) := by decide +kernel
theorem dX2_borderHigh_11 : decode cX2_borderHigh 11 = .ok (.iconst 2, 1) := by decide +kernel
theorem dX2_borderHigh_12 : decode cX2_borderHigh 12 = .ok (.aload_n 0, 1) := by decide +kernel
theorem dX2_borderHigh_13 : decode cX2_borderHigh 13 = .ok (.getfield 19, 3) := by decide +kernel
theorem dX2_borderHigh_16 : decode cX2_borderHigh 16 = .ok (.imul, 1) := by decide +kernel
theorem dX2_borderHigh_17 : decode cX2_borderHigh 17 = .ok (.iadd, 1) := by decide +kernel
theorem dX2_borderHigh_18 : decode cX2_borderHigh 18 = .ok (.goto 4, 3) := by decide +kernel
theorem dX2_borderHigh_21 : decode cX2_borderHigh 21 = .ok (.iconst (-1), 1) := by decide +kernel
theorem dX2_borderHigh_22 : decode cX2_borderHigh 22 = .ok (.ireturn, 1) := by decide +kernel
theorem dX2_reachOrNone_0 : decode cX2_reachOrNone 0 = .ok (.aload_n 0, 1) := by decide +kernel
theorem dX2_reachOrNone_1 : decode cX2_reachOrNone 1 = .ok (.invokevirtual 69, 3) := by decide +kernel
theorem dX2_reachOrNone_4 : decode cX2_reachOrNone 4 = .ok (.ifCond .eq 10, 3) := by decide +kernel
theorem dX2_reachOrNone_7 : decode cX2_reachOrNone 7 = .ok (.aload_n 0, 1) := by decide +kernel
theorem dX2_reachOrNone_8 : decode cX2_reachOrNone 8 = .ok (.getfield 41, 3) := by decide +kernel
theorem dX2_reachOrNone_11 : decode cX2_reachOrNone 11 = .ok (.goto 4, 3) := by decide +kernel
theorem dX2_reachOrNone_14 : decode cX2_reachOrNone 14 = .ok (.iconst (-1), 1) := by decide +kernel
theorem dX2_reachOrNone_15 : decode cX2_reachOrNone 15 = .ok (.ireturn, 1) := by decide +kernel
theorem dX2_linesOrNone_0 : decode cX2_linesOrNone 0 = .ok (.aload_n 0, 1) := by decide +kernel
theorem dX2_linesOrNone_1 : decode cX2_linesOrNone 1 = .ok (.invokevirtual 69, 3) := by decide +kernel
theorem dX2_linesOrNone_4 : decode cX2_linesOrNone 4 = .ok (.ifCond .eq 10, 3) := by decide +kernel
theorem dX2_linesOrNone_7 : decode cX2_linesOrNone 7 = .ok (.aload_n 0, 1) := by decide +kernel
theorem dX2_linesOrNone_8 : decode cX2_linesOrNone 8 = .ok (.getfield 44, 3) := by decide +kernel
theorem dX2_linesOrNone_11 : decode cX2_linesOrNone 11 = .ok (.goto 4, 3) := by decide +kernel
theorem dX2_linesOrNone_14 : decode cX2_linesOrNone 14 = .ok (.iconst 0, 1) := by decide +kernel
theorem dX2_linesOrNone_15 : decode cX2_linesOrNone 15 = .ok (.ireturn, 1) := by decide +kernel
theorem dX2_highWithEdges_0 : decode cX2_highWithEdges 0 = .ok (.aload_n 0, 1) := by decide +kernel
theorem dX2_highWithEdges_1 : decode cX2_highWithEdges 1 = .ok (.getfield 38, 3) := by decide +kernel
theorem dX2_highWithEdges_4 : decode cX2_highWithEdges 4 = .ok (.iconst 2, 1) := by decide +kernel
theorem dX2_highWithEdges_5 : decode cX2_highWithEdges 5 = .ok (.aload_n 0, 1) := by decide +kernel
theorem dX2_highWithEdges_6 : decode cX2_highWithEdges 6 = .ok (.getfield 22, 3) := by decide +kernel
theorem dX2_highWithEdges_9 : decode cX2_highWithEdges 9 = .ok (.imul, 1) := by decide +kernel
theorem dX2_highWithEdges_10 : decode cX2_highWithEdges 10 = .ok (.iadd, 1) := by decide +kernel
theorem dX2_highWithEdges_11 : decode cX2_highWithEdges 11 = .ok (.ireturn, 1) := by decide +kernel
theorem dX2_hasInBorder_0 : decode cX2_hasInBorder 0 = .ok (.aload_n 0, 1) := by decide +kernel
theorem dX2_hasInBorder_1 : decode cX2_hasInBorder 1 = .ok (.invokevirtual 69, 3) := by decide +kernel
theorem dX2_hasInBorder_4 : decode cX2_hasInBorder 4 = .ok (.ifCond .eq 37, 3) := by decide +kernel
theorem dX2_hasInBorder_7 : decode cX2_hasInBorder 7 = .ok (.iload_n 1, 1) := by decide +kernel
theorem dX2_hasInBorder_8 : decode cX2_hasInBorder 8 = .ok (.aload_n 0, 1) := by decide +kernel
theorem dX2_hasInBorder_9 : decode cX2_hasInBorder 9 = .ok (.invokevirtual 73, 3) := by decide +kernel
theorem dX2_hasInBorder_12 : decode cX2_hasInBorder 12 = .ok (.aload_n 0, 1) := by decide +kernel
theorem dX2_hasInBorder_13 : decode cX2_hasInBorder 13 = .ok (.invokevirtual 77, 3) := by decide +kernel
theorem dX2_hasInBorder_16 : decode cX2_hasInBorder 16 = .ok (.invokestatic 80, 3) := by decide +kernel
theorem dX2_hasInBorder_19 : decode cX2_hasInBorder 19 = .ok (.ifCond .eq 22, 3) := by decide +kernel
theorem dX2_hasInBorder_22 : decode cX2_hasInBorder 22 = .ok (.iload_n 2, 1) := by decide +kernel
theorem dX2_hasInBorder_23 : decode cX2_hasInBorder 23 = .ok (.aload_n 0, 1) := by decide +kernel
theorem dX2_hasInBorder_24 : decode cX2_hasInBorder 24 = .ok (.invokevirtual 84, 3) := by decide +kernel
theorem dX2_hasInBorder_27 : decode cX2_hasInBorder 27 = .ok (.aload_n 0, 1) := by decide +kernel
theorem dX2_hasInBorder_28 : decode cX2_hasInBorder 28 = .ok (.invokevirtual 87, 3) := by decide +kernel
theorem dX2_hasInBorder_31 : decode cX2_hasInBorder 31 = .ok (.invokestatic 80, 3) := by decide +kernel
theorem dX2_hasInBorder_34 : decode cX2_hasInBorder 34 = .ok (.ifCond .eq 7, 3) := by decide +kernel
theorem dX2_hasInBorder_37 : decode cX2_hasInBorder 37 = .ok (.iconst 1, 1) := by decide +kernel
theorem dX2_hasInBorder_38 : decode cX2_hasInBorder 38 = .ok (.goto 4, 3) := by decide +kernel
theorem dX2_hasInBorder_41 : decode cX2_hasInBorder 41 = .ok (.iconst 0, 1) := by decide +kernel
theorem dX2_hasInBorder_42 : decode cX2_hasInBorder 42 = .ok (.ireturn, 1) := by decide +kernel
theorem dX2_cutsOffAt_0 : decode cX2_cutsOffAt 0 = .ok (.iload_n 1, 1) := by decide +kernel
theorem dX2_cutsOffAt_1 : decode cX2_cutsOffAt 1 = .ok (.aload_n 0, 1) := by decide +kernel
theorem dX2_cutsOffAt_2 : decode cX2_cutsOffAt 2 = .ok (.getfield 29, 3) := by decide +kernel
theorem dX2_cutsOffAt_5 : decode cX2_cutsOffAt 5 = .ok (.aload_n 0, 1) := by decide +kernel
theorem dX2_cutsOffAt_6 : decode cX2_cutsOffAt 6 = .ok (.getfield 47, 3) := by decide +kernel
theorem dX2_cutsOffAt_9 : decode cX2_cutsOffAt 9 = .ok (.iadd, 1) := by decide +kernel
theorem dX2_cutsOffAt_10 : decode cX2_cutsOffAt 10 = .ok (.aload_n 0, 1) := by decide +kernel
theorem dX2_cutsOffAt_11 : decode cX2_cutsOffAt 11 = .ok (.getfield 35, 3) := by decide +kernel
theorem dX2_cutsOffAt_14 : decode cX2_cutsOffAt 14 = .ok (.invokestatic 80, 3) := by decide +kernel
theorem dX2_cutsOffAt_17 : decode cX2_cutsOffAt 17 = .ok (.ifCond .eq 27, 3) := by decide +kernel
theorem dX2_cutsOffAt_20 : decode cX2_cutsOffAt 20 = .ok (.iload_n 2, 1) := by decide +kernel
theorem dX2_cutsOffAt_21 : decode cX2_cutsOffAt 21 = .ok (.aload_n 0, 1) := by decide +kernel
theorem dX2_cutsOffAt_22 : decode cX2_cutsOffAt 22 = .ok (.getfield 32, 3) := by decide +kernel
theorem dX2_cutsOffAt_25 : decode cX2_cutsOffAt 25 = .ok (.aload_n 0, 1) := by decide +kernel
theorem dX2_cutsOffAt_26 : decode cX2_cutsOffAt 26 = .ok (.getfield 50, 3) := by decide +kernel
theorem dX2_cutsOffAt_29 : decode cX2_cutsOffAt 29 = .ok (.iadd, 1) := by decide +kernel
theorem dX2_cutsOffAt_30 : decode cX2_cutsOffAt 30 = .ok (.aload_n 0, 1) := by decide +kernel
theorem dX2_cutsOffAt_31 : decode cX2_cutsOffAt 31 = .ok (.getfield 38, 3) := by decide +kernel
theorem dX2_cutsOffAt_34 : decode cX2_cutsOffAt 34 = .ok (.invokestatic 80, 3) := by decide +kernel
theorem dX2_cutsOffAt_37 : decode cX2_cutsOffAt 37 = .ok (.ifCond .eq 7, 3) := by decide +kernel
theorem dX2_cutsOffAt_40 : decode cX2_cutsOffAt 40 = .ok (.iconst 1, 1) := by decide +kernel
theorem dX2_cutsOffAt_41 : decode cX2_cutsOffAt 41 = .ok (.goto 4, 3) := by decide +kernel
theorem dX2_cutsOffAt_44 : decode cX2_cutsOffAt 44 = .ok (.iconst 0, 1) := by decide +kernel
theorem dX2_cutsOffAt_45 : decode cX2_cutsOffAt 45 = .ok (.istore_n 3, 1) := by decide +kernel
theorem dX2_cutsOffAt_46 : decode cX2_cutsOffAt 46 = .ok (.aload_n 0, 1) := by decide +kernel
theorem dX2_cutsOffAt_47 : decode cX2_cutsOffAt 47 = .ok (.getfield 25, 3) := by decide +kernel
theorem dX2_cutsOffAt_50 : decode cX2_cutsOffAt 50 = .ok (.ifCond .eq 11, 3) := by decide +kernel
theorem dX2_cutsOffAt_53 : decode cX2_cutsOffAt 53 = .ok (.iload_n 3, 1) := by decide +kernel
theorem dX2_cutsOffAt_54 : decode cX2_cutsOffAt 54 = .ok (.ifCond .ne 7, 3) := by decide +kernel
theorem dX2_cutsOffAt_57 : decode cX2_cutsOffAt 57 = .ok (.iconst 1, 1) := by decide +kernel
theorem dX2_cutsOffAt_58 : decode cX2_cutsOffAt 58 = .ok (.goto 4, 3) := by decide +kernel
theorem dX2_cutsOffAt_61 : decode cX2_cutsOffAt 61 = .ok (.iconst 0, 1) := by decide +kernel
theorem dX2_cutsOffAt_62 : decode cX2_cutsOffAt 62 = .ok (.ireturn, 1) := by decide +kernel
theorem dX2_setWord_0 : decode cX2_setWord 0 = .ok (.iload_n 1, 1) := by decide +kernel
theorem dX2_setWord_1 : decode cX2_setWord 1 = .ok (.ifCond .lt 35, 3) := by decide +kernel
theorem dX2_setWord_4 : decode cX2_setWord 4 = .ok (.iload_n 1, 1) := by decide +kernel
theorem dX2_setWord_5 : decode cX2_setWord 5 = .ok (.aload_n 0, 1) := by decide +kernel
theorem dX2_setWord_6 : decode cX2_setWord 6 = .ok (.getfield 62, 3) := by decide +kernel
theorem dX2_setWord_9 : decode cX2_setWord 9 = .ok (.arraylength, 1) := by decide +kernel
theorem dX2_setWord_10 : decode cX2_setWord 10 = .ok (.if_icmp .ge 26, 3) := by decide +kernel
theorem dX2_setWord_13 : decode cX2_setWord 13 = .ok (.iload_n 1, 1) := by decide +kernel
theorem dX2_setWord_14 : decode cX2_setWord 14 = .ok (.aload_n 0, 1) := by decide +kernel
theorem dX2_setWord_15 : decode cX2_setWord 15 = .ok (.getfield 66, 3) := by decide +kernel
theorem dX2_setWord_18 : decode cX2_setWord 18 = .ok (.arraylength, 1) := by decide +kernel
theorem dX2_setWord_19 : decode cX2_setWord 19 = .ok (.if_icmp .ge 17, 3) := by decide +kernel
theorem dX2_setWord_22 : decode cX2_setWord 22 = .ok (.aload_n 0, 1) := by decide +kernel
theorem dX2_setWord_23 : decode cX2_setWord 23 = .ok (.getfield 62, 3) := by decide +kernel
theorem dX2_setWord_26 : decode cX2_setWord 26 = .ok (.iload_n 1, 1) := by decide +kernel
theorem dX2_setWord_27 : decode cX2_setWord 27 = .ok (.iload_n 2, 1) := by decide +kernel
theorem dX2_setWord_28 : decode cX2_setWord 28 = .ok (.iastore, 1) := by decide +kernel
theorem dX2_setWord_29 : decode cX2_setWord 29 = .ok (.aload_n 0, 1) := by decide +kernel
theorem dX2_setWord_30 : decode cX2_setWord 30 = .ok (.getfield 66, 3) := by decide +kernel
theorem dX2_setWord_33 : decode cX2_setWord 33 = .ok (.iload_n 1, 1) := by decide +kernel
theorem dX2_setWord_34 : decode cX2_setWord 34 = .ok (.iload_n 3, 1) := by decide +kernel
theorem dX2_setWord_35 : decode cX2_setWord 35 = .ok (.iastore, 1) := by decide +kernel
theorem dX2_setWord_36 : decode cX2_setWord 36 = .ok (.return_, 1) := by decide +kernel
theorem dX2_wordLeft_0 : decode cX2_wordLeft 0 = .ok (.aload_n 0, 1) := by decide +kernel
theorem dX2_wordLeft_1 : decode cX2_wordLeft 1 = .ok (.getfield 9, 3) := by decide +kernel
theorem dX2_wordLeft_4 : decode cX2_wordLeft 4 = .ok (.iconst 1, 1) := by decide +kernel
theorem dX2_wordLeft_5 : decode cX2_wordLeft 5 = .ok (.if_icmp .ne 20, 3) := by decide +kernel
theorem dX2_wordLeft_8 : decode cX2_wordLeft 8 = .ok (.iload_n 1, 1) := by decide +kernel
theorem dX2_wordLeft_9 : decode cX2_wordLeft 9 = .ok (.ifCond .lt 16, 3) := by decide +kernel
theorem dX2_wordLeft_12 : decode cX2_wordLeft 12 = .ok (.iload_n 1, 1) := by decide +kernel
theorem dX2_wordLeft_13 : decode cX2_wordLeft 13 = .ok (.aload_n 0, 1) := by decide +kernel
theorem dX2_wordLeft_14 : decode cX2_wordLeft 14 = .ok (.getfield 62, 3) := by decide +kernel
theorem dX2_wordLeft_17 : decode cX2_wordLeft 17 = .ok (.arraylength, 1) := by decide +kernel
theorem dX2_wordLeft_18 : decode cX2_wordLeft 18 = .ok (.if_icmp .ge 7, 3) := by decide +kernel
theorem dX2_wordLeft_21 : decode cX2_wordLeft 21 = .ok (.iconst 1, 1) := by decide +kernel
theorem dX2_wordLeft_22 : decode cX2_wordLeft 22 = .ok (.goto 4, 3) := by decide +kernel
theorem dX2_wordLeft_25 : decode cX2_wordLeft 25 = .ok (.iconst 0, 1) := by decide +kernel
theorem dX2_wordLeft_26 : decode cX2_wordLeft 26 = .ok (.istore_n 2, 1) := by decide +kernel
theorem dX2_wordLeft_27 : decode cX2_wordLeft 27 = .ok (.iload_n 2, 1) := by decide +kernel
theorem dX2_wordLeft_28 : decode cX2_wordLeft 28 = .ok (.ifCond .eq 17, 3) := by decide +kernel
theorem dX2_wordLeft_31 : decode cX2_wordLeft 31 = .ok (.aload_n 0, 1) := by decide +kernel
theorem dX2_wordLeft_32 : decode cX2_wordLeft 32 = .ok (.getfield 62, 3) := by decide +kernel
theorem dX2_wordLeft_35 : decode cX2_wordLeft 35 = .ok (.iload_n 1, 1) := by decide +kernel
theorem dX2_wordLeft_36 : decode cX2_wordLeft 36 = .ok (.iaload, 1) := by decide +kernel
theorem dX2_wordLeft_37 : decode cX2_wordLeft 37 = .ok (.aload_n 0, 1) := by decide +kernel
theorem dX2_wordLeft_38 : decode cX2_wordLeft 38 = .ok (.getfield 47, 3) := by decide +kernel
theorem dX2_wordLeft_41 : decode cX2_wordLeft 41 = .ok (.iadd, 1) := by decide +kernel
theorem dX2_wordLeft_42 : decode cX2_wordLeft 42 = .ok (.goto 6, 3) := by decide +kernel
theorem dX2_wordLeft_45 : decode cX2_wordLeft 45 = .ok (.sipush (-9999), 3) := by decide +kernel
theorem dX2_wordLeft_48 : decode cX2_wordLeft 48 = .ok (.ireturn, 1) := by decide +kernel
theorem dX2_wordTop_0 : decode cX2_wordTop 0 = .ok (.aload_n 0, 1) := by decide +kernel
theorem dX2_wordTop_1 : decode cX2_wordTop 1 = .ok (.getfield 9, 3) := by decide +kernel
theorem dX2_wordTop_4 : decode cX2_wordTop 4 = .ok (.iconst 1, 1) := by decide +kernel
theorem dX2_wordTop_5 : decode cX2_wordTop 5 = .ok (.if_icmp .ne 20, 3) := by decide +kernel
theorem dX2_wordTop_8 : decode cX2_wordTop 8 = .ok (.iload_n 1, 1) := by decide +kernel
theorem dX2_wordTop_9 : decode cX2_wordTop 9 = .ok (.ifCond .lt 16, 3) := by decide +kernel
theorem dX2_wordTop_12 : decode cX2_wordTop 12 = .ok (.iload_n 1, 1) := by decide +kernel
theorem dX2_wordTop_13 : decode cX2_wordTop 13 = .ok (.aload_n 0, 1) := by decide +kernel
theorem dX2_wordTop_14 : decode cX2_wordTop 14 = .ok (.getfield 66, 3) := by decide +kernel
theorem dX2_wordTop_17 : decode cX2_wordTop 17 = .ok (.arraylength, 1) := by decide +kernel
theorem dX2_wordTop_18 : decode cX2_wordTop 18 = .ok (.if_icmp .ge 7, 3) := by decide +kernel
theorem dX2_wordTop_21 : decode cX2_wordTop 21 = .ok (.iconst 1, 1) := by decide +kernel
theorem dX2_wordTop_22 : decode cX2_wordTop 22 = .ok (.goto 4, 3) := by decide +kernel
theorem dX2_wordTop_25 : decode cX2_wordTop 25 = .ok (.iconst 0, 1) := by decide +kernel
theorem dX2_wordTop_26 : decode cX2_wordTop 26 = .ok (.istore_n 2, 1) := by decide +kernel
theorem dX2_wordTop_27 : decode cX2_wordTop 27 = .ok (.iload_n 2, 1) := by decide +kernel
theorem dX2_wordTop_28 : decode cX2_wordTop 28 = .ok (.ifCond .eq 17, 3) := by decide +kernel
theorem dX2_wordTop_31 : decode cX2_wordTop 31 = .ok (.aload_n 0, 1) := by decide +kernel
theorem dX2_wordTop_32 : decode cX2_wordTop 32 = .ok (.getfield 66, 3) := by decide +kernel
theorem dX2_wordTop_35 : decode cX2_wordTop 35 = .ok (.iload_n 1, 1) := by decide +kernel
theorem dX2_wordTop_36 : decode cX2_wordTop 36 = .ok (.iaload, 1) := by decide +kernel
theorem dX2_wordTop_37 : decode cX2_wordTop 37 = .ok (.aload_n 0, 1) := by decide +kernel
theorem dX2_wordTop_38 : decode cX2_wordTop 38 = .ok (.getfield 50, 3) := by decide +kernel
theorem dX2_wordTop_41 : decode cX2_wordTop 41 = .ok (.iadd, 1) := by decide +kernel
theorem dX2_wordTop_42 : decode cX2_wordTop 42 = .ok (.goto 6, 3) := by decide +kernel
theorem dX2_wordTop_45 : decode cX2_wordTop 45 = .ok (.sipush (-9999), 3) := by decide +kernel
theorem dX2_wordTop_48 : decode cX2_wordTop 48 = .ok (.ireturn, 1) := by decide +kernel
theorem dX2_isWithin_0 : decode cX2_isWithin 0 = .ok (.iload_n 0, 1) := by decide +kernel
theorem dX2_isWithin_1 : decode cX2_isWithin 1 = .ok (.iload_n 1, 1) := by decide +kernel
theorem dX2_isWithin_2 : decode cX2_isWithin 2 = .ok (.if_icmp .lt 14, 3) := by decide +kernel
theorem dX2_isWithin_5 : decode cX2_isWithin 5 = .ok (.iload_n 0, 1) := by decide +kernel
theorem dX2_isWithin_6 : decode cX2_isWithin 6 = .ok (.iload_n 1, 1) := by decide +kernel
theorem dX2_isWithin_7 : decode cX2_isWithin 7 = .ok (.iload_n 2, 1) := by decide +kernel
theorem dX2_isWithin_8 : decode cX2_isWithin 8 = .ok (.iadd, 1) := by decide +kernel
theorem dX2_isWithin_9 : decode cX2_isWithin 9 = .ok (.if_icmp .ge 7, 3) := by decide +kernel
theorem dX2_isWithin_12 : decode cX2_isWithin 12 = .ok (.iconst 1, 1) := by decide +kernel
theorem dX2_isWithin_13 : decode cX2_isWithin 13 = .ok (.goto 4, 3) := by decide +kernel
theorem dX2_isWithin_16 : decode cX2_isWithin 16 = .ok (.iconst 0, 1) := by decide +kernel
theorem dX2_isWithin_17 : decode cX2_isWithin 17 = .ok (.ireturn, 1) := by decide +kernel
theorem dX3_init_0 : decode cX3_init 0 = .ok (.aload_n 0, 1) := by decide +kernel
theorem dX3_init_1 : decode cX3_init 1 = .ok (.invokespecial 3, 3) := by decide +kernel
theorem dX3_init_4 : decode cX3_init 4 = .ok (.aload_n 0, 1) := by decide +kernel
theorem dX3_init_5 : decode cX3_init 5 = .ok (.new 9, 3) := by decide +kernel
theorem dX3_init_8 : decode cX3_init 8 = .ok (.dup, 1) := by decide +kernel
theorem dX3_init_9 : decode cX3_init 9 = .ok (.invokespecial 11, 3) := by decide +kernel
theorem dX3_init_12 : decode cX3_init 12 = .ok (.putfield 12, 3) := by decide +kernel
theorem dX3_init_15 : decode cX3_init 15 = .ok (.aload_n 0, 1) := by decide +kernel
theorem dX3_init_16 : decode cX3_init 16 = .ok (.new 18, 3) := by decide +kernel
theorem dX3_init_19 : decode cX3_init 19 = .ok (.dup, 1) := by decide +kernel
theorem dX3_init_20 : decode cX3_init 20 = .ok (.invokespecial 20, 3) := by decide +kernel
theorem dX3_init_23 : decode cX3_init 23 = .ok (.putfield 21, 3) := by decide +kernel
theorem dX3_init_26 : decode cX3_init 26 = .ok (.aload_n 0, 1) := by decide +kernel
theorem dX3_init_27 : decode cX3_init 27 = .ok (.aconst_null, 1) := by decide +kernel
theorem dX3_init_28 : decode cX3_init 28 = .ok (.putfield 25, 3) := by decide +kernel
theorem dX3_init_31 : decode cX3_init 31 = .ok (.aload_n 0, 1) := by decide +kernel
theorem dX3_init_32 : decode cX3_init 32 = .ok (.iconst 0, 1) := by decide +kernel
theorem dX3_init_33 : decode cX3_init 33 = .ok (.putfield 29, 3) := by decide +kernel
theorem dX3_init_36 : decode cX3_init 36 = .ok (.aload_n 0, 1) := by decide +kernel
theorem dX3_init_37 : decode cX3_init 37 = .ok (.iconst 0, 1) := by decide +kernel
theorem dX3_init_38 : decode cX3_init 38 = .ok (.putfield 33, 3) := by decide +kernel
theorem dX3_init_41 : decode cX3_init 41 = .ok (.aload_n 0, 1) := by decide +kernel
theorem dX3_init_42 : decode cX3_init 42 = .ok (.iconst 0, 1) := by decide +kernel
theorem dX3_init_43 : decode cX3_init 43 = .ok (.putfield 36, 3) := by decide +kernel
theorem dX3_init_46 : decode cX3_init 46 = .ok (.aload_n 0, 1) := by decide +kernel
theorem dX3_init_47 : decode cX3_init 47 = .ok (.iconst 0, 1) := by decide +kernel
theorem dX3_init_48 : decode cX3_init 48 = .ok (.putfield 39, 3) := by decide +kernel
theorem dX3_init_51 : decode cX3_init 51 = .ok (.aload_n 0, 1) := by decide +kernel
theorem dX3_init_52 : decode cX3_init 52 = .ok (.iconst 0, 1) := by decide +kernel
theorem dX3_init_53 : decode cX3_init 53 = .ok (.putfield 42, 3) := by decide +kernel
theorem dX3_init_56 : decode cX3_init 56 = .ok (.aload_n 0, 1) := by decide +kernel
theorem dX3_init_57 : decode cX3_init 57 = .ok (.iload_n 1, 1) := by decide +kernel
theorem dX3_init_58 : decode cX3_init 58 = .ok (.putfield 46, 3) := by decide +kernel
theorem dX3_init_61 : decode cX3_init 61 = .ok (.aload_n 0, 1) := by decide +kernel
theorem dX3_init_62 : decode cX3_init 62 = .ok (.iload_n 2, 1) := by decide +kernel
theorem dX3_init_63 : decode cX3_init 63 = .ok (.putfield 49, 3) := by decide +kernel
theorem dX3_init_66 : decode cX3_init 66 = .ok (.aload_n 0, 1) := by decide +kernel
theorem dX3_init_67 : decode cX3_init 67 = .ok (.iload_n 3, 1) := by decide +kernel
theorem dX3_init_68 : decode cX3_init 68 = .ok (.putfield 52, 3) := by decide +kernel
theorem dX3_init_71 : decode cX3_init 71 = .ok (.aload_n 0, 1) := by decide +kernel
theorem dX3_init_72 : decode cX3_init 72 = .ok (.iload_n 2, 1) := by decide +kernel
theorem dX3_init_73 : decode cX3_init 73 = .ok (.ifCond .eq 8, 3) := by decide +kernel
theorem dX3_init_76 : decode cX3_init 76 = .ok (.bipush 20, 2) := by decide +kernel
theorem dX3_init_78 : decode cX3_init 78 = .ok (.goto 4, 3) := by decide +kernel
theorem dX3_init_81 : decode cX3_init 81 = .ok (.iconst 0, 1) := by decide +kernel
theorem dX3_init_82 : decode cX3_init 82 = .ok (.newarray .int, 2) := by decide +kernel
theorem dX3_init_84 : decode cX3_init 84 = .ok (.putfield 55, 3) := by decide +kernel
theorem dX3_init_87 : decode cX3_init 87 = .ok (.aload_n 0, 1) := by decide +kernel
theorem dX3_init_88 : decode cX3_init 88 = .ok (.iload_n 2, 1) := by decide +kernel
theorem dX3_init_89 : decode cX3_init 89 = .ok (.ifCond .eq 7, 3) := by decide +kernel
theorem dX3_init_92 : decode cX3_init 92 = .ok (.iconst 0, 1) := by decide +kernel
theorem dX3_init_93 : decode cX3_init 93 = .ok (.goto 5, 3) := by decide +kernel
theorem dX3_init_96 : decode cX3_init 96 = .ok (.bipush 14, 2) := by decide +kernel
theorem dX3_init_98 : decode cX3_init 98 = .ok (.newarray .int, 2) := by decide +kernel
theorem dX3_init_100 : decode cX3_init 100 = .ok (.putfield 59, 3) := by decide +kernel
theorem dX3_init_103 : decode cX3_init 103 = .ok (.iconst 0, 1) := by decide +kernel
theorem dX3_init_104 : decode cX3_init 104 = .ok (.istore 4, 2) := by decide +kernel
theorem dX3_init_106 : decode cX3_init 106 = .ok (.iload 4, 2) := by decide +kernel
theorem dX3_init_108 : decode cX3_init 108 = .ok (.aload_n 0, 1) := by decide +kernel
theorem dX3_init_109 : decode cX3_init 109 = .ok (.getfield 59, 3) := by decide +kernel
theorem dX3_init_112 : decode cX3_init 112 = .ok (.arraylength, 1) := by decide +kernel
theorem dX3_init_113 : decode cX3_init 113 = .ok (.if_icmp .ge 19, 3) := by decide +kernel
theorem dX3_init_116 : decode cX3_init 116 = .ok (.aload_n 0, 1) := by decide +kernel
theorem dX3_init_117 : decode cX3_init 117 = .ok (.getfield 59, 3) := by decide +kernel
theorem dX3_init_120 : decode cX3_init 120 = .ok (.iload 4, 2) := by decide +kernel
theorem dX3_init_122 : decode cX3_init 122 = .ok (.sipush 9998, 3) := by decide +kernel
theorem dX3_init_125 : decode cX3_init 125 = .ok (.iastore, 1) := by decide +kernel
theorem dX3_init_126 : decode cX3_init 126 = .ok (.iinc 4 1, 3) := by decide +kernel
theorem dX3_init_129 : decode cX3_init 129 = .ok (.goto (-23), 3) := by decide +kernel
theorem dX3_init_132 : decode cX3_init 132 = .ok (.aload_n 0, 1) := by decide +kernel
theorem dX3_init_133 : decode cX3_init 133 = .ok (.new 62, 3) := by decide +kernel
theorem dX3_init_136 : decode cX3_init 136 = .ok (.dup, 1) := by decide +kernel
theorem dX3_init_137 : decode cX3_init 137 = .ok (.iload_n 2, 1) := by decide +kernel
theorem dX3_init_138 : decode cX3_init 138 = .ok (.ifCond .eq 8, 3) := by decide +kernel
theorem dX3_init_141 : decode cX3_init 141 = .ok (.bipush 20, 2) := by decide +kernel
theorem dX3_init_143 : decode cX3_init 143 = .ok (.goto 4, 3) := by decide +kernel
theorem dX3_init_146 : decode cX3_init 146 = .ok (.iconst 0, 1) := by decide +kernel
theorem dX3_init_147 : decode cX3_init 147 = .ok (.invokespecial 64, 3) := by decide +kernel
theorem dX3_init_150 : decode cX3_init 150 = .ok (.putfield 67, 3) := by decide +kernel
theorem dX3_init_153 : decode cX3_init 153 = .ok (.return_, 1) := by decide +kernel
theorem dX3_hasClass_0 : decode cX3_hasClass 0 = .ok (.iload_n 1, 1) := by decide +kernel
theorem dX3_hasClass_1 : decode cX3_hasClass 1 = .ok (.ifCond .lt 25, 3) := by decide +kernel
theorem dX3_hasClass_4 : decode cX3_hasClass 4 = .ok (.iload_n 1, 1) := by decide +kernel
theorem dX3_hasClass_5 : decode cX3_hasClass 5 = .ok (.bipush 7, 2) := by decide +kernel
theorem dX3_hasClass_7 : decode cX3_hasClass 7 = .ok (.if_icmp .gt 19, 3) := by decide +kernel
theorem dX3_hasClass_10 : decode cX3_hasClass 10 = .ok (.aload_n 0, 1) := by decide +kernel
theorem dX3_hasClass_11 : decode cX3_hasClass 11 = .ok (.getfield 36, 3) := by decide +kernel
theorem dX3_hasClass_14 : decode cX3_hasClass 14 = .ok (.iload_n 1, 1) := by decide +kernel
theorem dX3_hasClass_15 : decode cX3_hasClass 15 = .ok (.ishr, 1) := by decide +kernel
theorem dX3_hasClass_16 : decode cX3_hasClass 16 = .ok (.iconst 1, 1) := by decide +kernel
theorem dX3_hasClass_17 : decode cX3_hasClass 17 = .ok (.iand, 1) := by decide +kernel
theorem dX3_hasClass_18 : decode cX3_hasClass 18 = .ok (.iconst 1, 1) := by decide +kernel
theorem dX3_hasClass_19 : decode cX3_hasClass 19 = .ok (.if_icmp .ne 7, 3) := by decide +kernel
theorem dX3_hasClass_22 : decode cX3_hasClass 22 = .ok (.iconst 1, 1) := by decide +kernel
theorem dX3_hasClass_23 : decode cX3_hasClass 23 = .ok (.goto 4, 3) := by decide +kernel
theorem dX3_hasClass_26 : decode cX3_hasClass 26 = .ok (.iconst 0, 1) := by decide +kernel
theorem dX3_hasClass_27 : decode cX3_hasClass 27 = .ok (.ireturn, 1) := by decide +kernel
theorem dX3_hasWord_0 : decode cX3_hasWord 0 = .ok (.aload_n 0, 1) := by decide +kernel
theorem dX3_hasWord_1 : decode cX3_hasWord 1 = .ok (.getfield 49, 3) := by decide +kernel
theorem dX3_hasWord_4 : decode cX3_hasWord 4 = .ok (.ifCond .eq 28, 3) := by decide +kernel
theorem dX3_hasWord_7 : decode cX3_hasWord 7 = .ok (.iload_n 1, 1) := by decide +kernel
theorem dX3_hasWord_8 : decode cX3_hasWord 8 = .ok (.ifCond .lt 24, 3) := by decide +kernel
theorem dX3_hasWord_11 : decode cX3_hasWord 11 = .ok (.iload_n 1, 1) := by decide +kernel
theorem dX3_hasWord_12 : decode cX3_hasWord 12 = .ok (.aload_n 0, 1) := by decide +kernel
theorem dX3_hasWord_13 : decode cX3_hasWord 13 = .ok (.getfield 29, 3) := by decide +kernel
theorem dX3_hasWord_16 : decode cX3_hasWord 16 = .ok (.if_icmp .ge 16, 3) := by decide +kernel
theorem dX3_hasWord_19 : decode cX3_hasWord 19 = .ok (.iload_n 1, 1) := by decide +kernel
theorem dX3_hasWord_20 : decode cX3_hasWord 20 = .ok (.aload_n 0, 1) := by decide +kernel
theorem dX3_hasWord_21 : decode cX3_hasWord 21 = .ok (.getfield 55, 3) := by decide +kernel
theorem dX3_hasWord_24 : decode cX3_hasWord 24 = .ok (.arraylength, 1) := by decide +kernel
theorem dX3_hasWord_25 : decode cX3_hasWord 25 = .ok (.if_icmp .ge 7, 3) := by decide +kernel
theorem dX3_hasWord_28 : decode cX3_hasWord 28 = .ok (.iconst 1, 1) := by decide +kernel
theorem dX3_hasWord_29 : decode cX3_hasWord 29 = .ok (.goto 4, 3) := by decide +kernel
theorem dX3_hasWord_32 : decode cX3_hasWord 32 = .ok (.iconst 0, 1) := by decide +kernel
theorem dX3_hasWord_33 : decode cX3_hasWord 33 = .ok (.ireturn, 1) := by decide +kernel
theorem dX3_lettersOf_0 : decode cX3_lettersOf 0 = .ok (.aload_n 0, 1) := by decide +kernel
theorem dX3_lettersOf_1 : decode cX3_lettersOf 1 = .ok (.iload_n 1, 1) := by decide +kernel
theorem dX3_lettersOf_2 : decode cX3_lettersOf 2 = .ok (.invokevirtual 71, 3) := by decide +kernel
theorem dX3_lettersOf_5 : decode cX3_lettersOf 5 = .ok (.ifCond .eq 12, 3) := by decide +kernel
theorem dX3_lettersOf_8 : decode cX3_lettersOf 8 = .ok (.aload_n 0, 1) := by decide +kernel
theorem dX3_lettersOf_9 : decode cX3_lettersOf 9 = .ok (.getfield 55, 3) := by decide +kernel
theorem dX3_lettersOf_12 : decode cX3_lettersOf 12 = .ok (.iload_n 1, 1) := by decide +kernel
theorem dX3_lettersOf_13 : decode cX3_lettersOf 13 = .ok (.iaload, 1) := by decide +kernel
theorem dX3_lettersOf_14 : decode cX3_lettersOf 14 = .ok (.goto 4, 3) := by decide +kernel
theorem dX3_lettersOf_17 : decode cX3_lettersOf 17 = .ok (.iconst 0, 1) := by decide +kernel
theorem dX3_lettersOf_18 : decode cX3_lettersOf 18 = .ok (.ireturn, 1) := by decide +kernel
theorem dX3_declaredOf_0 : decode cX3_declaredOf 0 = .ok (.iload_n 1, 1) := by decide +kernel
theorem dX3_declaredOf_1 : decode cX3_declaredOf 1 = .ok (.ifCond .lt 21, 3) := by decide +kernel
theorem dX3_declaredOf_4 : decode cX3_declaredOf 4 = .ok (.iload_n 1, 1) := by decide +kernel
theorem dX3_declaredOf_5 : decode cX3_declaredOf 5 = .ok (.aload_n 0, 1) := by decide +kernel
theorem dX3_declaredOf_6 : decode cX3_declaredOf 6 = .ok (.getfield 59, 3) := by decide +kernel
theorem dX3_declaredOf_9 : decode cX3_declaredOf 9 = .ok (.arraylength, 1) := by decide +kernel
theorem dX3_declaredOf_10 : decode cX3_declaredOf 10 = .ok (.if_icmp .ge 12, 3) := by decide +kernel
theorem dX3_declaredOf_13 : decode cX3_declaredOf 13 = .ok (.aload_n 0, 1) := by decide +kernel
theorem dX3_declaredOf_14 : decode cX3_declaredOf 14 = .ok (.getfield 59, 3) := by decide +kernel
theorem dX3_declaredOf_17 : decode cX3_declaredOf 17 = .ok (.iload_n 1, 1) := by decide +kernel
theorem dX3_declaredOf_18 : decode cX3_declaredOf 18 = .ok (.iaload, 1) := by decide +kernel
theorem dX3_declaredOf_19 : decode cX3_declaredOf 19 = .ok (.goto 6, 3) := by decide +kernel
theorem dX3_declaredOf_22 : decode cX3_declaredOf 22 = .ok (.sipush 9998, 3) := by decide +kernel
theorem dX3_declaredOf_25 : decode cX3_declaredOf 25 = .ok (.ireturn, 1) := by decide +kernel
theorem dX3_setDeclared_0 : decode cX3_setDeclared 0 = .ok (.iload_n 1, 1) := by decide +kernel
theorem dX3_setDeclared_1 : decode cX3_setDeclared 1 = .ok (.ifCond .lt 19, 3) := by decide +kernel
theorem dX3_setDeclared_4 : decode cX3_setDeclared 4 = .ok (.iload_n 1, 1) := by decide +kernel
theorem dX3_setDeclared_5 : decode cX3_setDeclared 5 = .ok (.aload_n 0, 1) := by decide +kernel
theorem dX3_setDeclared_6 : decode cX3_setDeclared 6 = .ok (.getfield 59, 3) := by decide +kernel
theorem dX3_setDeclared_9 : decode cX3_setDeclared 9 = .ok (.arraylength, 1) := by decide +kernel
theorem dX3_setDeclared_10 : decode cX3_setDeclared 10 = .ok (.if_icmp .ge 10, 3) := by decide +kernel
theorem dX3_setDeclared_13 : decode cX3_setDeclared 13 = .ok (.aload_n 0, 1) := by decide +kernel
theorem dX3_setDeclared_14 : decode cX3_setDeclared 14 = .ok (.getfield 59, 3) := by decide +kernel
theorem dX3_setDeclared_17 : decode cX3_setDeclared 17 = .ok (.iload_n 1, 1) := by decide +kernel
theorem dX3_setDeclared_18 : decode cX3_setDeclared 18 = .ok (.iload_n 2, 1) := by decide +kernel
theorem dX3_setDeclared_19 : decode cX3_setDeclared 19 = .ok (.iastore, 1) := by decide +kernel
theorem dX3_setDeclared_20 : decode cX3_setDeclared 20 = .ok (.return_, 1) := by decide +kernel
theorem dX3_ancestors_0 : decode cX3_ancestors 0 = .ok (.iconst 0, 1) := by decide +kernel
theorem dX3_ancestors_1 : decode cX3_ancestors 1 = .ok (.istore_n 1, 1) := by decide +kernel
theorem dX3_ancestors_2 : decode cX3_ancestors 2 = .ok (.aload_n 0, 1) := by decide +kernel
theorem dX3_ancestors_3 : decode cX3_ancestors 3 = .ok (.getfield 25, 3) := by decide +kernel
theorem dX3_ancestors_6 : decode cX3_ancestors 6 = .ok (.astore_n 2, 1) := by decide +kernel
theorem dX3_ancestors_7 : decode cX3_ancestors 7 = .ok (.aload_n 2, 1) := by decide +kernel
theorem dX3_ancestors_8 : decode cX3_ancestors 8 = .ok (.ifnull 14, 3) := by decide +kernel
theorem dX3_ancestors_11 : decode cX3_ancestors 11 = .ok (.iinc 1 1, 3) := by decide +kernel
theorem dX3_ancestors_14 : decode cX3_ancestors 14 = .ok (.aload_n 2, 1) := by decide +kernel
theorem dX3_ancestors_15 : decode cX3_ancestors 15 = .ok (.getfield 25, 3) := by decide +kernel
theorem dX3_ancestors_18 : decode cX3_ancestors 18 = .ok (.astore_n 2, 1) := by decide +kernel
theorem dX3_ancestors_19 : decode cX3_ancestors 19 = .ok (.goto (-12), 3) := by decide +kernel
theorem dX3_ancestors_22 : decode cX3_ancestors 22 = .ok (.iload_n 1, 1) := by decide +kernel
theorem dX3_ancestors_23 : decode cX3_ancestors 23 = .ok (.ireturn, 1) := by decide +kernel
theorem dX3_isOrIsIn_0 : decode cX3_isOrIsIn 0 = .ok (.aload_n 0, 1) := by decide +kernel
theorem dX3_isOrIsIn_1 : decode cX3_isOrIsIn 1 = .ok (.astore_n 2, 1) := by decide +kernel
theorem dX3_isOrIsIn_2 : decode cX3_isOrIsIn 2 = .ok (.aload_n 2, 1) := by decide +kernel
theorem dX3_isOrIsIn_3 : decode cX3_isOrIsIn 3 = .ok (.ifnull 18, 3) := by decide +kernel
theorem dX3_isOrIsIn_6 : decode cX3_isOrIsIn 6 = .ok (.aload_n 2, 1) := by decide +kernel
theorem dX3_isOrIsIn_7 : decode cX3_isOrIsIn 7 = .ok (.aload_n 1, 1) := by decide +kernel
theorem dX3_isOrIsIn_8 : decode cX3_isOrIsIn 8 = .ok (.if_acmp .ne 5, 3) := by decide +kernel
theorem dX3_isOrIsIn_11 : decode cX3_isOrIsIn 11 = .ok (.iconst 1, 1) := by decide +kernel
theorem dX3_isOrIsIn_12 : decode cX3_isOrIsIn 12 = .ok (.ireturn, 1) := by decide +kernel
theorem dX3_isOrIsIn_13 : decode cX3_isOrIsIn 13 = .ok (.aload_n 2, 1) := by decide +kernel
theorem dX3_isOrIsIn_14 : decode cX3_isOrIsIn 14 = .ok (.getfield 25, 3) := by decide +kernel
theorem dX3_isOrIsIn_17 : decode cX3_isOrIsIn 17 = .ok (.astore_n 2, 1) := by decide +kernel
theorem dX3_isOrIsIn_18 : decode cX3_isOrIsIn 18 = .ok (.goto (-16), 3) := by decide +kernel
theorem dX3_isOrIsIn_21 : decode cX3_isOrIsIn 21 = .ok (.iconst 0, 1) := by decide +kernel
theorem dX3_isOrIsIn_22 : decode cX3_isOrIsIn 22 = .ok (.ireturn, 1) := by decide +kernel
theorem dX3_placeAmongSiblings_0 : decode cX3_placeAmongSiblings 0 = .ok (.aload_n 0, 1) := by decide +kernel
theorem dX3_placeAmongSiblings_1 : decode cX3_placeAmongSiblings 1 = .ok (.getfield 25, 3) := by decide +kernel
theorem dX3_placeAmongSiblings_4 : decode cX3_placeAmongSiblings 4 = .ok (.ifnull 42, 3) := by decide +kernel
theorem dX3_placeAmongSiblings_7 : decode cX3_placeAmongSiblings 7 = .ok (.iconst 0, 1) := by decide +kernel
theorem dX3_placeAmongSiblings_8 : decode cX3_placeAmongSiblings 8 = .ok (.istore_n 1, 1) := by decide +kernel
theorem dX3_placeAmongSiblings_9 : decode cX3_placeAmongSiblings 9 = .ok (.iload_n 1, 1) := by decide +kernel
theorem dX3_placeAmongSiblings_10 : decode cX3_placeAmongSiblings 10 = .ok (.aload_n 0, 1) := by decide +kernel
theorem dX3_placeAmongSiblings_11 : decode cX3_placeAmongSiblings 11 = .ok (.getfield 25, 3) := by decide +kernel
theorem dX3_placeAmongSiblings_14 : decode cX3_placeAmongSiblings 14 = .ok (.getfield 12, 3) := by decide +kernel
theorem dX3_placeAmongSiblings_17 : decode cX3_placeAmongSiblings 17 = .ok (.invokevirtual 75, 3) := by decide +kernel
theorem dX3_placeAmongSiblings_20 : decode cX3_placeAmongSiblings 20 = .ok (.if_icmp .ge 26, 3) := by decide +kernel
theorem dX3_placeAmongSiblings_23 : decode cX3_placeAmongSiblings 23 = .ok (.aload_n 0, 1) := by decide +kernel
theorem dX3_placeAmongSiblings_24 : decode cX3_placeAmongSiblings 24 = .ok (.getfield 25, 3) := by decide +kernel
theorem dX3_placeAmongSiblings_27 : decode cX3_placeAmongSiblings 27 = .ok (.getfield 12, 3) := by decide +kernel
theorem dX3_placeAmongSiblings_30 : decode cX3_placeAmongSiblings 30 = .ok (.iload_n 1, 1) := by decide +kernel
theorem dX3_placeAmongSiblings_31 : decode cX3_placeAmongSiblings 31 = .ok (.invokevirtual 79, 3) := by decide +kernel
theorem dX3_placeAmongSiblings_34 : decode cX3_placeAmongSiblings 34 = .ok (.aload_n 0, 1) := by decide +kernel
theorem dX3_placeAmongSiblings_35 : decode cX3_placeAmongSiblings 35 = .ok (.if_acmp .ne 5, 3) := by decide +kernel
theorem dX3_placeAmongSiblings_38 : decode cX3_placeAmongSiblings 38 = .ok (.iload_n 1, 1) := by decide +kernel
theorem dX3_placeAmongSiblings_39 : decode cX3_placeAmongSiblings 39 = .ok (.ireturn, 1) := by decide +kernel
theorem dX3_placeAmongSiblings_40 : decode cX3_placeAmongSiblings 40 = .ok (.iinc 1 1, 3) := by decide +kernel
theorem dX3_placeAmongSiblings_43 : decode cX3_placeAmongSiblings 43 = .ok (.goto (-34), 3) := by decide +kernel
theorem dX3_placeAmongSiblings_46 : decode cX3_placeAmongSiblings 46 = .ok (.iconst (-1), 1) := by decide +kernel
theorem dX3_placeAmongSiblings_47 : decode cX3_placeAmongSiblings 47 = .ok (.ireturn, 1) := by decide +kernel
theorem dX4_init_0 : decode cX4_init 0 = .ok (.aload_n 0, 1) := by decide +kernel
theorem dX4_init_1 : decode cX4_init 1 = .ok (.invokespecial 3, 3) := by decide +kernel
theorem dX4_init_4 : decode cX4_init 4 = .ok (.aload_n 0, 1) := by decide +kernel
theorem dX4_init_5 : decode cX4_init 5 = .ok (.new 9, 3) := by decide +kernel
theorem dX4_init_8 : decode cX4_init 8 = .ok (.dup, 1) := by decide +kernel
theorem dX4_init_9 : decode cX4_init 9 = .ok (.invokespecial 11, 3) := by decide +kernel
theorem dX4_init_12 : decode cX4_init 12 = .ok (.putfield 12, 3) := by decide +kernel
theorem dX4_init_15 : decode cX4_init 15 = .ok (.aload_n 0, 1) := by decide +kernel
theorem dX4_init_16 : decode cX4_init 16 = .ok (.new 18, 3) := by decide +kernel
theorem dX4_init_19 : decode cX4_init 19 = .ok (.dup, 1) := by decide +kernel
theorem dX4_init_20 : decode cX4_init 20 = .ok (.invokespecial 20, 3) := by decide +kernel
theorem dX4_init_23 : decode cX4_init 23 = .ok (.putfield 21, 3) := by decide +kernel
theorem dX4_init_26 : decode cX4_init 26 = .ok (.aload_n 0, 1) := by decide +kernel
theorem dX4_init_27 : decode cX4_init 27 = .ok (.new 25, 3) := by decide +kernel
theorem dX4_init_30 : decode cX4_init 30 = .ok (.dup, 1) := by decide +kernel
theorem dX4_init_31 : decode cX4_init 31 = .ok (.invokespecial 27, 3) := by decide +kernel
theorem dX4_init_34 : decode cX4_init 34 = .ok (.putfield 28, 3) := by decide +kernel
theorem dX4_init_37 : decode cX4_init 37 = .ok (.aload_n 0, 1) := by decide +kernel
theorem dX4_init_38 : decode cX4_init 38 = .ok (.iconst 0, 1) := by decide +kernel
theorem dX4_init_39 : decode cX4_init 39 = .ok (.putfield 32, 3) := by decide +kernel
theorem dX4_init_42 : decode cX4_init 42 = .ok (.aload_n 0, 1) := by decide +kernel
theorem dX4_init_43 : decode cX4_init 43 = .ok (.iconst 0, 1) := by decide +kernel
theorem dX4_init_44 : decode cX4_init 44 = .ok (.putfield 36, 3) := by decide +kernel
theorem dX4_init_47 : decode cX4_init 47 = .ok (.aload_n 0, 1) := by decide +kernel
theorem dX4_init_48 : decode cX4_init 48 = .ok (.iconst 0, 1) := by decide +kernel
theorem dX4_init_49 : decode cX4_init 49 = .ok (.putfield 39, 3) := by decide +kernel
theorem dX4_init_52 : decode cX4_init 52 = .ok (.return_, 1) := by decide +kernel
theorem dX4_layOut_0 : decode cX4_layOut 0 = .ok (.aload_n 0, 1) := by decide +kernel
theorem dX4_layOut_1 : decode cX4_layOut 1 = .ok (.getfield 21, 3) := by decide +kernel
theorem dX4_layOut_4 : decode cX4_layOut 4 = .ok (.invokevirtual 42, 3) := by decide +kernel
theorem dX4_layOut_7 : decode cX4_layOut 7 = .ok (.aload_n 0, 1) := by decide +kernel
theorem dX4_layOut_8 : decode cX4_layOut 8 = .ok (.getfield 28, 3) := by decide +kernel
theorem dX4_layOut_11 : decode cX4_layOut 11 = .ok (.invokevirtual 45, 3) := by decide +kernel
theorem dX4_layOut_14 : decode cX4_layOut 14 = .ok (.aload_n 0, 1) := by decide +kernel
theorem dX4_layOut_15 : decode cX4_layOut 15 = .ok (.iconst 0, 1) := by decide +kernel
theorem dX4_layOut_16 : decode cX4_layOut 16 = .ok (.putfield 36, 3) := by decide +kernel
theorem dX4_layOut_19 : decode cX4_layOut 19 = .ok (.aload_n 0, 1) := by decide +kernel
theorem dX4_layOut_20 : decode cX4_layOut 20 = .ok (.iconst 0, 1) := by decide +kernel
theorem dX4_layOut_21 : decode cX4_layOut 21 = .ok (.putfield 39, 3) := by decide +kernel
theorem dX4_layOut_24 : decode cX4_layOut 24 = .ok (.aload_n 0, 1) := by decide +kernel
theorem dX4_layOut_25 : decode cX4_layOut 25 = .ok (.aload_n 1, 1) := by decide +kernel
theorem dX4_layOut_26 : decode cX4_layOut 26 = .ok (.getfield 46, 3) := by decide +kernel
theorem dX4_layOut_29 : decode cX4_layOut 29 = .ok (.invokevirtual 52, 3) := by decide +kernel
theorem dX4_layOut_32 : decode cX4_layOut 32 = .ok (.aload_n 0, 1) := by decide +kernel
theorem dX4_layOut_33 : decode cX4_layOut 33 = .ok (.aload_n 1, 1) := by decide +kernel
theorem dX4_layOut_34 : decode cX4_layOut 34 = .ok (.getfield 46, 3) := by decide +kernel
theorem dX4_layOut_37 : decode cX4_layOut 37 = .ok (.invokevirtual 56, 3) := by decide +kernel
theorem dX4_layOut_40 : decode cX4_layOut 40 = .ok (.aload_n 1, 1) := by decide +kernel
theorem dX4_layOut_41 : decode cX4_layOut 41 = .ok (.getfield 59, 3) := by decide +kernel
theorem dX4_layOut_44 : decode cX4_layOut 44 = .ok (.getfield 63, 3) := by decide +kernel
theorem dX4_layOut_47 : decode cX4_layOut 47 = .ok (.astore_n 3, 1) := by decide +kernel
theorem dX4_layOut_48 : decode cX4_layOut 48 = .ok (.aload_n 3, 1) := by decide +kernel
theorem dX4_layOut_49 : decode cX4_layOut 49 = .ok (.aload_n 3, 1) := by decide +kernel
theorem dX4_layOut_50 : decode cX4_layOut 50 = .ok (.getfield 69, 3) := by decide +kernel
theorem dX4_layOut_53 : decode cX4_layOut 53 = .ok (.putfield 74, 3) := by decide +kernel
theorem dX4_layOut_56 : decode cX4_layOut 56 = .ok (.aload_n 3, 1) := by decide +kernel
theorem dX4_layOut_57 : decode cX4_layOut 57 = .ok (.aload_n 3, 1) := by decide +kernel
theorem dX4_layOut_58 : decode cX4_layOut 58 = .ok (.getfield 69, 3) := by decide +kernel
theorem dX4_layOut_61 : decode cX4_layOut 61 = .ok (.putfield 77, 3) := by decide +kernel
theorem dX4_layOut_64 : decode cX4_layOut 64 = .ok (.aload_n 3, 1) := by decide +kernel
theorem dX4_layOut_65 : decode cX4_layOut 65 = .ok (.aload_n 0, 1) := by decide +kernel
theorem dX4_layOut_66 : decode cX4_layOut 66 = .ok (.aload_n 1, 1) := by decide +kernel
theorem dX4_layOut_67 : decode cX4_layOut 67 = .ok (.getfield 59, 3) := by decide +kernel
theorem dX4_layOut_70 : decode cX4_layOut 70 = .ok (.iload_n 2, 1) := by decide +kernel
theorem dX4_layOut_71 : decode cX4_layOut 71 = .ok (.iconst 2, 1) := by decide +kernel
theorem dX4_layOut_72 : decode cX4_layOut 72 = .ok (.aload_n 3, 1) := by decide +kernel
theorem dX4_layOut_73 : decode cX4_layOut 73 = .ok (.getfield 69, 3) := by decide +kernel
theorem dX4_layOut_76 : decode cX4_layOut 76 = .ok (.imul, 1) := by decide +kernel
theorem dX4_layOut_77 : decode cX4_layOut 77 = .ok (.isub, 1) := by decide +kernel
theorem dX4_layOut_78 : decode cX4_layOut 78 = .ok (.invokevirtual 80, 3) := by decide +kernel
theorem dX4_layOut_81 : decode cX4_layOut 81 = .ok (.putfield 84, 3) := by decide +kernel
theorem dX4_layOut_84 : decode cX4_layOut 84 = .ok (.aload_n 1, 1) := by decide +kernel
theorem dX4_layOut_85 : decode cX4_layOut 85 = .ok (.getfield 59, 3) := by decide +kernel
theorem dX4_layOut_88 : decode cX4_layOut 88 = .ok (.getfield 87, 3) := by decide +kernel
theorem dX4_layOut_91 : decode cX4_layOut 91 = .ok (.aload_n 1, 1) := by decide +kernel
theorem dX4_layOut_92 : decode cX4_layOut 92 = .ok (.getfield 59, 3) := by decide +kernel
theorem dX4_layOut_95 : decode cX4_layOut 95 = .ok (.getfield 91, 3) := by decide +kernel
theorem dX4_layOut_98 : decode cX4_layOut 98 = .ok (.putfield 94, 3) := by decide +kernel
theorem dX4_layOut_101 : decode cX4_layOut 101 = .ok (.aload_n 0, 1) := by decide +kernel
theorem dX4_layOut_102 : decode cX4_layOut 102 = .ok (.aload_n 1, 1) := by decide +kernel
theorem dX4_layOut_103 : decode cX4_layOut 103 = .ok (.getfield 59, 3) := by decide +kernel
theorem dX4_layOut_106 : decode cX4_layOut 106 = .ok (.aload_n 1, 1) := by decide +kernel
theorem dX4_layOut_107 : decode cX4_layOut 107 = .ok (.getfield 46, 3) := by decide +kernel
theorem dX4_layOut_110 : decode cX4_layOut 110 = .ok (.iconst 0, 1) := by decide +kernel
theorem dX4_layOut_111 : decode cX4_layOut 111 = .ok (.invokevirtual 99, 3) := by decide +kernel
theorem dX4_layOut_114 : decode cX4_layOut 114 = .ok (.aload_n 0, 1) := by decide +kernel
theorem dX4_layOut_115 : decode cX4_layOut 115 = .ok (.aload_n 1, 1) := by decide +kernel
theorem dX4_layOut_116 : decode cX4_layOut 116 = .ok (.getfield 46, 3) := by decide +kernel
theorem dX4_layOut_119 : decode cX4_layOut 119 = .ok (.invokevirtual 103, 3) := by decide +kernel
theorem dX4_layOut_122 : decode cX4_layOut 122 = .ok (.aload_n 0, 1) := by decide +kernel
theorem dX4_layOut_123 : decode cX4_layOut 123 = .ok (.iload_n 2, 1) := by decide +kernel
theorem dX4_layOut_124 : decode cX4_layOut 124 = .ok (.putfield 32, 3) := by decide +kernel
theorem dX4_layOut_127 : decode cX4_layOut 127 = .ok (.return_, 1) := by decide +kernel
theorem dX4_isAt_0 : decode cX4_isAt 0 = .ok (.aload_n 1, 1) := by decide +kernel
theorem dX4_isAt_1 : decode cX4_isAt 1 = .ok (.getfield 63, 3) := by decide +kernel
theorem dX4_isAt_4 : decode cX4_isAt 4 = .ok (.iload_n 2, 1) := by decide +kernel
theorem dX4_isAt_5 : decode cX4_isAt 5 = .ok (.iload_n 3, 1) := by decide +kernel
theorem dX4_isAt_6 : decode cX4_isAt 6 = .ok (.invokevirtual 106, 3) := by decide +kernel
theorem dX4_isAt_9 : decode cX4_isAt 9 = .ok (.ifCond .eq 5, 3) := by decide +kernel
theorem dX4_isAt_12 : decode cX4_isAt 12 = .ok (.iconst 1, 1) := by decide +kernel
end
section
theorem dX4_isAt_13 : decode cX4_isAt 13 = .ok (.ireturn, 1) := by decide +kernel
theorem dX4_isAt_14 : decode cX4_isAt 14 = .ok (.aload_n 0, 1) := by decide +kernel
theorem dX4_isAt_15 : decode cX4_isAt 15 = .ok (.getfield 12, 3) := by decide +kernel
theorem dX4_isAt_18 : decode cX4_isAt 18 = .ok (.aload_n 1, 1) := by decide +kernel
theorem dX4_isAt_19 : decode cX4_isAt 19 = .ok (.bipush 9, 2) := by decide +kernel
theorem dX4_isAt_21 : decode cX4_isAt 21 = .ok (.invokevirtual 110, 3) := by decide +kernel
theorem dX4_isAt_24 : decode cX4_isAt 24 = .ok (.istore 4, 2) := by decide +kernel
theorem dX4_isAt_26 : decode cX4_isAt 26 = .ok (.iconst 0, 1) := by decide +kernel
theorem dX4_isAt_27 : decode cX4_isAt 27 = .ok (.istore 5, 2) := by decide +kernel
theorem dX4_isAt_29 : decode cX4_isAt 29 = .ok (.iload 5, 2) := by decide +kernel
theorem dX4_isAt_31 : decode cX4_isAt 31 = .ok (.aload_n 1, 1) := by decide +kernel
theorem dX4_isAt_32 : decode cX4_isAt 32 = .ok (.getfield 113, 3) := by decide +kernel
theorem dX4_isAt_35 : decode cX4_isAt 35 = .ok (.if_icmp .ge 79, 3) := by decide +kernel
theorem dX4_isAt_38 : decode cX4_isAt 38 = .ok (.aload_n 1, 1) := by decide +kernel
theorem dX4_isAt_39 : decode cX4_isAt 39 = .ok (.getfield 63, 3) := by decide +kernel
theorem dX4_isAt_42 : decode cX4_isAt 42 = .ok (.getfield 116, 3) := by decide +kernel
theorem dX4_isAt_45 : decode cX4_isAt 45 = .ok (.iconst 1, 1) := by decide +kernel
theorem dX4_isAt_46 : decode cX4_isAt 46 = .ok (.if_icmp .ne 68, 3) := by decide +kernel
theorem dX4_isAt_49 : decode cX4_isAt 49 = .ok (.iload_n 2, 1) := by decide +kernel
theorem dX4_isAt_50 : decode cX4_isAt 50 = .ok (.aload_n 1, 1) := by decide +kernel
theorem dX4_isAt_51 : decode cX4_isAt 51 = .ok (.getfield 63, 3) := by decide +kernel
theorem dX4_isAt_54 : decode cX4_isAt 54 = .ok (.iload 5, 2) := by decide +kernel
theorem dX4_isAt_56 : decode cX4_isAt 56 = .ok (.invokevirtual 119, 3) := by decide +kernel
theorem dX4_isAt_59 : decode cX4_isAt 59 = .ok (.aload_n 1, 1) := by decide +kernel
theorem dX4_isAt_60 : decode cX4_isAt 60 = .ok (.iload 5, 2) := by decide +kernel
theorem dX4_isAt_62 : decode cX4_isAt 62 = .ok (.invokevirtual 123, 3) := by decide +kernel
theorem dX4_isAt_65 : decode cX4_isAt 65 = .ok (.iload 4, 2) := by decide +kernel
theorem dX4_isAt_67 : decode cX4_isAt 67 = .ok (.imul, 1) := by decide +kernel
theorem dX4_isAt_68 : decode cX4_isAt 68 = .ok (.invokestatic 126, 3) := by decide +kernel
theorem dX4_isAt_71 : decode cX4_isAt 71 = .ok (.ifCond .ne 7, 3) := by decide +kernel
theorem dX4_isAt_74 : decode cX4_isAt 74 = .ok (.iconst 1, 1) := by decide +kernel
theorem dX4_isAt_75 : decode cX4_isAt 75 = .ok (.goto 4, 3) := by decide +kernel
theorem dX4_isAt_78 : decode cX4_isAt 78 = .ok (.iconst 0, 1) := by decide +kernel
theorem dX4_isAt_79 : decode cX4_isAt 79 = .ok (.istore 6, 2) := by decide +kernel
theorem dX4_isAt_81 : decode cX4_isAt 81 = .ok (.iload 6, 2) := by decide +kernel
theorem dX4_isAt_83 : decode cX4_isAt 83 = .ok (.ifCond .ne 25, 3) := by decide +kernel
theorem dX4_isAt_86 : decode cX4_isAt 86 = .ok (.iload_n 3, 1) := by decide +kernel
theorem dX4_isAt_87 : decode cX4_isAt 87 = .ok (.aload_n 1, 1) := by decide +kernel
theorem dX4_isAt_88 : decode cX4_isAt 88 = .ok (.getfield 63, 3) := by decide +kernel
theorem dX4_isAt_91 : decode cX4_isAt 91 = .ok (.iload 5, 2) := by decide +kernel
theorem dX4_isAt_93 : decode cX4_isAt 93 = .ok (.invokevirtual 130, 3) := by decide +kernel
theorem dX4_isAt_96 : decode cX4_isAt 96 = .ok (.iconst 2, 1) := by decide +kernel
theorem dX4_isAt_97 : decode cX4_isAt 97 = .ok (.iload 4, 2) := by decide +kernel
theorem dX4_isAt_99 : decode cX4_isAt 99 = .ok (.imul, 1) := by decide +kernel
theorem dX4_isAt_100 : decode cX4_isAt 100 = .ok (.invokestatic 126, 3) := by decide +kernel
theorem dX4_isAt_103 : decode cX4_isAt 103 = .ok (.ifCond .eq 5, 3) := by decide +kernel
theorem dX4_isAt_106 : decode cX4_isAt 106 = .ok (.iconst 1, 1) := by decide +kernel
theorem dX4_isAt_107 : decode cX4_isAt 107 = .ok (.ireturn, 1) := by decide +kernel
theorem dX4_isAt_108 : decode cX4_isAt 108 = .ok (.iinc 5 1, 3) := by decide +kernel
theorem dX4_isAt_111 : decode cX4_isAt 111 = .ok (.goto (-82), 3) := by decide +kernel
theorem dX4_isAt_114 : decode cX4_isAt 114 = .ok (.iconst 0, 1) := by decide +kernel
theorem dX4_isAt_115 : decode cX4_isAt 115 = .ok (.ireturn, 1) := by decide +kernel
theorem dX4_isCutAt_0 : decode cX4_isCutAt 0 = .ok (.aload_n 1, 1) := by decide +kernel
theorem dX4_isCutAt_1 : decode cX4_isCutAt 1 = .ok (.getfield 133, 3) := by decide +kernel
theorem dX4_isCutAt_4 : decode cX4_isCutAt 4 = .ok (.astore 4, 2) := by decide +kernel
theorem dX4_isCutAt_6 : decode cX4_isCutAt 6 = .ok (.aload 4, 2) := by decide +kernel
theorem dX4_isCutAt_8 : decode cX4_isCutAt 8 = .ok (.ifnull 28, 3) := by decide +kernel
theorem dX4_isCutAt_11 : decode cX4_isCutAt 11 = .ok (.aload 4, 2) := by decide +kernel
theorem dX4_isCutAt_13 : decode cX4_isCutAt 13 = .ok (.getfield 63, 3) := by decide +kernel
theorem dX4_isCutAt_16 : decode cX4_isCutAt 16 = .ok (.iload_n 2, 1) := by decide +kernel
theorem dX4_isCutAt_17 : decode cX4_isCutAt 17 = .ok (.iload_n 3, 1) := by decide +kernel
theorem dX4_isCutAt_18 : decode cX4_isCutAt 18 = .ok (.invokevirtual 136, 3) := by decide +kernel
theorem dX4_isCutAt_21 : decode cX4_isCutAt 21 = .ok (.ifCond .eq 5, 3) := by decide +kernel
theorem dX4_isCutAt_24 : decode cX4_isCutAt 24 = .ok (.iconst 1, 1) := by decide +kernel
theorem dX4_isCutAt_25 : decode cX4_isCutAt 25 = .ok (.ireturn, 1) := by decide +kernel
theorem dX4_isCutAt_26 : decode cX4_isCutAt 26 = .ok (.aload 4, 2) := by decide +kernel
theorem dX4_isCutAt_28 : decode cX4_isCutAt 28 = .ok (.getfield 133, 3) := by decide +kernel
theorem dX4_isCutAt_31 : decode cX4_isCutAt 31 = .ok (.astore 4, 2) := by decide +kernel
theorem dX4_isCutAt_33 : decode cX4_isCutAt 33 = .ok (.goto (-27), 3) := by decide +kernel
theorem dX4_isCutAt_36 : decode cX4_isCutAt 36 = .ok (.iconst 0, 1) := by decide +kernel
theorem dX4_isCutAt_37 : decode cX4_isCutAt 37 = .ok (.ireturn, 1) := by decide +kernel
theorem dX4_wordsSeen_0 : decode cX4_wordsSeen 0 = .ok (.iconst 0, 1) := by decide +kernel
theorem dX4_wordsSeen_1 : decode cX4_wordsSeen 1 = .ok (.istore_n 2, 1) := by decide +kernel
theorem dX4_wordsSeen_2 : decode cX4_wordsSeen 2 = .ok (.iconst 0, 1) := by decide +kernel
theorem dX4_wordsSeen_3 : decode cX4_wordsSeen 3 = .ok (.istore_n 3, 1) := by decide +kernel
theorem dX4_wordsSeen_4 : decode cX4_wordsSeen 4 = .ok (.iload_n 3, 1) := by decide +kernel
theorem dX4_wordsSeen_5 : decode cX4_wordsSeen 5 = .ok (.aload_n 1, 1) := by decide +kernel
theorem dX4_wordsSeen_6 : decode cX4_wordsSeen 6 = .ok (.getfield 113, 3) := by decide +kernel
theorem dX4_wordsSeen_9 : decode cX4_wordsSeen 9 = .ok (.if_icmp .ge 47, 3) := by decide +kernel
theorem dX4_wordsSeen_12 : decode cX4_wordsSeen 12 = .ok (.aload_n 1, 1) := by decide +kernel
theorem dX4_wordsSeen_13 : decode cX4_wordsSeen 13 = .ok (.getfield 63, 3) := by decide +kernel
theorem dX4_wordsSeen_16 : decode cX4_wordsSeen 16 = .ok (.getfield 116, 3) := by decide +kernel
theorem dX4_wordsSeen_19 : decode cX4_wordsSeen 19 = .ok (.iconst 1, 1) := by decide +kernel
theorem dX4_wordsSeen_20 : decode cX4_wordsSeen 20 = .ok (.if_icmp .ne 36, 3) := by decide +kernel
theorem dX4_wordsSeen_23 : decode cX4_wordsSeen 23 = .ok (.aload_n 0, 1) := by decide +kernel
theorem dX4_wordsSeen_24 : decode cX4_wordsSeen 24 = .ok (.aload_n 1, 1) := by decide +kernel
theorem dX4_wordsSeen_25 : decode cX4_wordsSeen 25 = .ok (.aload_n 1, 1) := by decide +kernel
theorem dX4_wordsSeen_26 : decode cX4_wordsSeen 26 = .ok (.getfield 63, 3) := by decide +kernel
theorem dX4_wordsSeen_29 : decode cX4_wordsSeen 29 = .ok (.iload_n 3, 1) := by decide +kernel
theorem dX4_wordsSeen_30 : decode cX4_wordsSeen 30 = .ok (.invokevirtual 119, 3) := by decide +kernel
theorem dX4_wordsSeen_33 : decode cX4_wordsSeen 33 = .ok (.aload_n 1, 1) := by decide +kernel
theorem dX4_wordsSeen_34 : decode cX4_wordsSeen 34 = .ok (.getfield 63, 3) := by decide +kernel
theorem dX4_wordsSeen_37 : decode cX4_wordsSeen 37 = .ok (.iload_n 3, 1) := by decide +kernel
theorem dX4_wordsSeen_38 : decode cX4_wordsSeen 38 = .ok (.invokevirtual 130, 3) := by decide +kernel
theorem dX4_wordsSeen_41 : decode cX4_wordsSeen 41 = .ok (.invokevirtual 139, 3) := by decide +kernel
theorem dX4_wordsSeen_44 : decode cX4_wordsSeen 44 = .ok (.ifCond .ne 6, 3) := by decide +kernel
theorem dX4_wordsSeen_47 : decode cX4_wordsSeen 47 = .ok (.iinc 2 1, 3) := by decide +kernel
theorem dX4_wordsSeen_50 : decode cX4_wordsSeen 50 = .ok (.iinc 3 1, 3) := by decide +kernel
theorem dX4_wordsSeen_53 : decode cX4_wordsSeen 53 = .ok (.goto (-49), 3) := by decide +kernel
theorem dX4_wordsSeen_56 : decode cX4_wordsSeen 56 = .ok (.iload_n 2, 1) := by decide +kernel
theorem dX4_wordsSeen_57 : decode cX4_wordsSeen 57 = .ok (.ireturn, 1) := by decide +kernel
theorem dX4_prepare_0 : decode cX4_prepare 0 = .ok (.iconst 0, 1) := by decide +kernel
theorem dX4_prepare_1 : decode cX4_prepare 1 = .ok (.istore_n 2, 1) := by decide +kernel
theorem dX4_prepare_2 : decode cX4_prepare 2 = .ok (.iload_n 2, 1) := by decide +kernel
theorem dX4_prepare_3 : decode cX4_prepare 3 = .ok (.aload_n 1, 1) := by decide +kernel
theorem dX4_prepare_4 : decode cX4_prepare 4 = .ok (.invokevirtual 143, 3) := by decide +kernel
theorem dX4_prepare_7 : decode cX4_prepare 7 = .ok (.if_icmp .ge 119, 3) := by decide +kernel
theorem dX4_prepare_10 : decode cX4_prepare 10 = .ok (.aload_n 1, 1) := by decide +kernel
theorem dX4_prepare_11 : decode cX4_prepare 11 = .ok (.iload_n 2, 1) := by decide +kernel
theorem dX4_prepare_12 : decode cX4_prepare 12 = .ok (.invokevirtual 149, 3) := by decide +kernel
theorem dX4_prepare_15 : decode cX4_prepare 15 = .ok (.checkcast 64, 3) := by decide +kernel
theorem dX4_prepare_18 : decode cX4_prepare 18 = .ok (.astore_n 3, 1) := by decide +kernel
theorem dX4_prepare_19 : decode cX4_prepare 19 = .ok (.aload_n 3, 1) := by decide +kernel
theorem dX4_prepare_20 : decode cX4_prepare 20 = .ok (.getfield 63, 3) := by decide +kernel
theorem dX4_prepare_23 : decode cX4_prepare 23 = .ok (.astore 4, 2) := by decide +kernel
theorem dX4_prepare_25 : decode cX4_prepare 25 = .ok (.aload 4, 2) := by decide +kernel
theorem dX4_prepare_27 : decode cX4_prepare 27 = .ok (.aload_n 0, 1) := by decide +kernel
theorem dX4_prepare_28 : decode cX4_prepare 28 = .ok (.aload_n 3, 1) := by decide +kernel
theorem dX4_prepare_29 : decode cX4_prepare 29 = .ok (.invokevirtual 153, 3) := by decide +kernel
theorem dX4_prepare_32 : decode cX4_prepare 32 = .ok (.putfield 116, 3) := by decide +kernel
theorem dX4_prepare_35 : decode cX4_prepare 35 = .ok (.aload 4, 2) := by decide +kernel
theorem dX4_prepare_37 : decode cX4_prepare 37 = .ok (.aload_n 3, 1) := by decide +kernel
theorem dX4_prepare_38 : decode cX4_prepare 38 = .ok (.invokestatic 157, 3) := by decide +kernel
theorem dX4_prepare_41 : decode cX4_prepare 41 = .ok (.putfield 161, 3) := by decide +kernel
theorem dX4_prepare_44 : decode cX4_prepare 44 = .ok (.aload 4, 2) := by decide +kernel
theorem dX4_prepare_46 : decode cX4_prepare 46 = .ok (.aload_n 0, 1) := by decide +kernel
theorem dX4_prepare_47 : decode cX4_prepare 47 = .ok (.getfield 12, 3) := by decide +kernel
theorem dX4_prepare_50 : decode cX4_prepare 50 = .ok (.aload_n 3, 1) := by decide +kernel
theorem dX4_prepare_51 : decode cX4_prepare 51 = .ok (.iconst 5, 1) := by decide +kernel
theorem dX4_prepare_52 : decode cX4_prepare 52 = .ok (.invokevirtual 110, 3) := by decide +kernel
theorem dX4_prepare_55 : decode cX4_prepare 55 = .ok (.aload_n 0, 1) := by decide +kernel
theorem dX4_prepare_56 : decode cX4_prepare 56 = .ok (.getfield 12, 3) := by decide +kernel
theorem dX4_prepare_59 : decode cX4_prepare 59 = .ok (.aload_n 3, 1) := by decide +kernel
theorem dX4_prepare_60 : decode cX4_prepare 60 = .ok (.iconst 4, 1) := by decide +kernel
theorem dX4_prepare_61 : decode cX4_prepare 61 = .ok (.invokevirtual 110, 3) := by decide +kernel
theorem dX4_prepare_64 : decode cX4_prepare 64 = .ok (.iadd, 1) := by decide +kernel
theorem dX4_prepare_65 : decode cX4_prepare 65 = .ok (.putfield 164, 3) := by decide +kernel
theorem dX4_prepare_68 : decode cX4_prepare 68 = .ok (.aload 4, 2) := by decide +kernel
theorem dX4_prepare_70 : decode cX4_prepare 70 = .ok (.aload 4, 2) := by decide +kernel
theorem dX4_prepare_72 : decode cX4_prepare 72 = .ok (.getfield 164, 3) := by decide +kernel
theorem dX4_prepare_75 : decode cX4_prepare 75 = .ok (.aload_n 0, 1) := by decide +kernel
theorem dX4_prepare_76 : decode cX4_prepare 76 = .ok (.getfield 12, 3) := by decide +kernel
theorem dX4_prepare_79 : decode cX4_prepare 79 = .ok (.aload_n 3, 1) := by decide +kernel
theorem dX4_prepare_80 : decode cX4_prepare 80 = .ok (.iconst 3, 1) := by decide +kernel
theorem dX4_prepare_81 : decode cX4_prepare 81 = .ok (.invokevirtual 110, 3) := by decide +kernel
theorem dX4_prepare_84 : decode cX4_prepare 84 = .ok (.iadd, 1) := by decide +kernel
theorem dX4_prepare_85 : decode cX4_prepare 85 = .ok (.putfield 69, 3) := by decide +kernel
theorem dX4_prepare_88 : decode cX4_prepare 88 = .ok (.aload 4, 2) := by decide +kernel
theorem dX4_prepare_90 : decode cX4_prepare 90 = .ok (.aload 4, 2) := by decide +kernel
theorem dX4_prepare_92 : decode cX4_prepare 92 = .ok (.invokevirtual 167, 3) := by decide +kernel
theorem dX4_prepare_95 : decode cX4_prepare 95 = .ok (.ifCond .eq 21, 3) := by decide +kernel
theorem dX4_prepare_98 : decode cX4_prepare 98 = .ok (.aload_n 0, 1) := by decide +kernel
theorem dX4_prepare_99 : decode cX4_prepare 99 = .ok (.getfield 12, 3) := by decide +kernel
theorem dX4_prepare_102 : decode cX4_prepare 102 = .ok (.aload_n 3, 1) := by decide +kernel
theorem dX4_prepare_103 : decode cX4_prepare 103 = .ok (.bipush 11, 2) := by decide +kernel
theorem dX4_prepare_105 : decode cX4_prepare 105 = .ok (.invokevirtual 110, 3) := by decide +kernel
theorem dX4_prepare_108 : decode cX4_prepare 108 = .ok (.iconst 1, 1) := by decide +kernel
theorem dX4_prepare_109 : decode cX4_prepare 109 = .ok (.if_icmp .ne 7, 3) := by decide +kernel
theorem dX4_prepare_112 : decode cX4_prepare 112 = .ok (.iconst 1, 1) := by decide +kernel
theorem dX4_prepare_113 : decode cX4_prepare 113 = .ok (.goto 4, 3) := by decide +kernel
theorem dX4_prepare_116 : decode cX4_prepare 116 = .ok (.iconst 0, 1) := by decide +kernel
theorem dX4_prepare_117 : decode cX4_prepare 117 = .ok (.putfield 171, 3) := by decide +kernel
theorem dX4_prepare_120 : decode cX4_prepare 120 = .ok (.iinc 2 1, 3) := by decide +kernel
theorem dX4_prepare_123 : decode cX4_prepare 123 = .ok (.goto (-121), 3) := by decide +kernel
theorem dX4_prepare_126 : decode cX4_prepare 126 = .ok (.return_, 1) := by decide +kernel
theorem dX4_sortFor_0 : decode cX4_sortFor 0 = .ok (.aload_n 1, 1) := by decide +kernel
theorem dX4_sortFor_1 : decode cX4_sortFor 1 = .ok (.getfield 133, 3) := by decide +kernel
theorem dX4_sortFor_4 : decode cX4_sortFor 4 = .ok (.ifnonnull 5, 3) := by decide +kernel
theorem dX4_sortFor_7 : decode cX4_sortFor 7 = .ok (.iconst 3, 1) := by decide +kernel
theorem dX4_sortFor_8 : decode cX4_sortFor 8 = .ok (.ireturn, 1) := by decide +kernel
theorem dX4_sortFor_9 : decode cX4_sortFor 9 = .ok (.aload_n 1, 1) := by decide +kernel
theorem dX4_sortFor_10 : decode cX4_sortFor 10 = .ok (.getfield 133, 3) := by decide +kernel
theorem dX4_sortFor_13 : decode cX4_sortFor 13 = .ok (.getfield 63, 3) := by decide +kernel
theorem dX4_sortFor_16 : decode cX4_sortFor 16 = .ok (.getfield 116, 3) := by decide +kernel
theorem dX4_sortFor_19 : decode cX4_sortFor 19 = .ok (.ifCond .eq 15, 3) := by decide +kernel
theorem dX4_sortFor_22 : decode cX4_sortFor 22 = .ok (.aload_n 0, 1) := by decide +kernel
theorem dX4_sortFor_23 : decode cX4_sortFor 23 = .ok (.getfield 12, 3) := by decide +kernel
theorem dX4_sortFor_26 : decode cX4_sortFor 26 = .ok (.aload_n 1, 1) := by decide +kernel
theorem dX4_sortFor_27 : decode cX4_sortFor 27 = .ok (.iconst 0, 1) := by decide +kernel
theorem dX4_sortFor_28 : decode cX4_sortFor 28 = .ok (.invokevirtual 110, 3) := by decide +kernel
theorem dX4_sortFor_31 : decode cX4_sortFor 31 = .ok (.ifCond .ne 5, 3) := by decide +kernel
theorem dX4_sortFor_34 : decode cX4_sortFor 34 = .ok (.iconst 0, 1) := by decide +kernel
theorem dX4_sortFor_35 : decode cX4_sortFor 35 = .ok (.ireturn, 1) := by decide +kernel
theorem dX4_sortFor_36 : decode cX4_sortFor 36 = .ok (.aload_n 1, 1) := by decide +kernel
theorem dX4_sortFor_37 : decode cX4_sortFor 37 = .ok (.getfield 175, 3) := by decide +kernel
theorem dX4_sortFor_40 : decode cX4_sortFor 40 = .ok (.ifCond .eq 5, 3) := by decide +kernel
theorem dX4_sortFor_43 : decode cX4_sortFor 43 = .ok (.iconst 1, 1) := by decide +kernel
theorem dX4_sortFor_44 : decode cX4_sortFor 44 = .ok (.ireturn, 1) := by decide +kernel
theorem dX4_sortFor_45 : decode cX4_sortFor 45 = .ok (.aload_n 0, 1) := by decide +kernel
theorem dX4_sortFor_46 : decode cX4_sortFor 46 = .ok (.getfield 12, 3) := by decide +kernel
theorem dX4_sortFor_49 : decode cX4_sortFor 49 = .ok (.aload_n 1, 1) := by decide +kernel
theorem dX4_sortFor_50 : decode cX4_sortFor 50 = .ok (.bipush 6, 2) := by decide +kernel
theorem dX4_sortFor_52 : decode cX4_sortFor 52 = .ok (.invokevirtual 110, 3) := by decide +kernel
theorem dX4_sortFor_55 : decode cX4_sortFor 55 = .ok (.ifCond .eq 5, 3) := by decide +kernel
theorem dX4_sortFor_58 : decode cX4_sortFor 58 = .ok (.iconst 4, 1) := by decide +kernel
theorem dX4_sortFor_59 : decode cX4_sortFor 59 = .ok (.ireturn, 1) := by decide +kernel
theorem dX4_sortFor_60 : decode cX4_sortFor 60 = .ok (.aload_n 0, 1) := by decide +kernel
theorem dX4_sortFor_61 : decode cX4_sortFor 61 = .ok (.getfield 12, 3) := by decide +kernel
theorem dX4_sortFor_64 : decode cX4_sortFor 64 = .ok (.aload_n 1, 1) := by decide +kernel
theorem dX4_sortFor_65 : decode cX4_sortFor 65 = .ok (.iconst 0, 1) := by decide +kernel
theorem dX4_sortFor_66 : decode cX4_sortFor 66 = .ok (.invokevirtual 110, 3) := by decide +kernel
theorem dX4_sortFor_69 : decode cX4_sortFor 69 = .ok (.iconst 1, 1) := by decide +kernel
theorem dX4_sortFor_70 : decode cX4_sortFor 70 = .ok (.if_icmp .ne 7, 3) := by decide +kernel
theorem dX4_sortFor_73 : decode cX4_sortFor 73 = .ok (.iconst 3, 1) := by decide +kernel
theorem dX4_sortFor_74 : decode cX4_sortFor 74 = .ok (.goto 4, 3) := by decide +kernel
theorem dX4_sortFor_77 : decode cX4_sortFor 77 = .ok (.iconst 2, 1) := by decide +kernel
theorem dX4_sortFor_78 : decode cX4_sortFor 78 = .ok (.ireturn, 1) := by decide +kernel
theorem dX4_homeFor_0 : decode cX4_homeFor 0 = .ok (.aload_n 0, 1) := by decide +kernel
theorem dX4_homeFor_1 : decode cX4_homeFor 1 = .ok (.getfield 133, 3) := by decide +kernel
theorem dX4_homeFor_4 : decode cX4_homeFor 4 = .ok (.ifnonnull 5, 3) := by decide +kernel
theorem dX4_homeFor_7 : decode cX4_homeFor 7 = .ok (.aconst_null, 1) := by decide +kernel
theorem dX4_homeFor_8 : decode cX4_homeFor 8 = .ok (.areturn, 1) := by decide +kernel
theorem dX4_homeFor_9 : decode cX4_homeFor 9 = .ok (.aload_n 0, 1) := by decide +kernel
theorem dX4_homeFor_10 : decode cX4_homeFor 10 = .ok (.getfield 133, 3) := by decide +kernel
theorem dX4_homeFor_13 : decode cX4_homeFor 13 = .ok (.getfield 63, 3) := by decide +kernel
theorem dX4_homeFor_16 : decode cX4_homeFor 16 = .ok (.invokevirtual 167, 3) := by decide +kernel
theorem dX4_homeFor_19 : decode cX4_homeFor 19 = .ok (.ifCond .eq 10, 3) := by decide +kernel
theorem dX4_homeFor_22 : decode cX4_homeFor 22 = .ok (.aload_n 0, 1) := by decide +kernel
theorem dX4_homeFor_23 : decode cX4_homeFor 23 = .ok (.getfield 133, 3) := by decide +kernel
theorem dX4_homeFor_26 : decode cX4_homeFor 26 = .ok (.goto 13, 3) := by decide +kernel
theorem dX4_homeFor_29 : decode cX4_homeFor 29 = .ok (.aload_n 0, 1) := by decide +kernel
theorem dX4_homeFor_30 : decode cX4_homeFor 30 = .ok (.getfield 133, 3) := by decide +kernel
theorem dX4_homeFor_33 : decode cX4_homeFor 33 = .ok (.getfield 63, 3) := by decide +kernel
theorem dX4_homeFor_36 : decode cX4_homeFor 36 = .ok (.getfield 161, 3) := by decide +kernel
theorem dX4_homeFor_39 : decode cX4_homeFor 39 = .ok (.areturn, 1) := by decide +kernel
theorem dX4_findWishes_0 : decode cX4_findWishes 0 = .ok (.aload_n 1, 1) := by decide +kernel
theorem dX4_findWishes_1 : decode cX4_findWishes 1 = .ok (.invokevirtual 143, 3) := by decide +kernel
theorem dX4_findWishes_4 : decode cX4_findWishes 4 = .ok (.iconst 1, 1) := by decide +kernel
theorem dX4_findWishes_5 : decode cX4_findWishes 5 = .ok (.isub, 1) := by decide +kernel
theorem dX4_findWishes_6 : decode cX4_findWishes 6 = .ok (.istore_n 2, 1) := by decide +kernel
theorem dX4_findWishes_7 : decode cX4_findWishes 7 = .ok (.iload_n 2, 1) := by decide +kernel
theorem dX4_findWishes_8 : decode cX4_findWishes 8 = .ok (.ifCond .lt 39, 3) := by decide +kernel
theorem dX4_findWishes_11 : decode cX4_findWishes 11 = .ok (.aload_n 1, 1) := by decide +kernel
theorem dX4_findWishes_12 : decode cX4_findWishes 12 = .ok (.iload_n 2, 1) := by decide +kernel
theorem dX4_findWishes_13 : decode cX4_findWishes 13 = .ok (.invokevirtual 149, 3) := by decide +kernel
theorem dX4_findWishes_16 : decode cX4_findWishes 16 = .ok (.checkcast 64, 3) := by decide +kernel
theorem dX4_findWishes_19 : decode cX4_findWishes 19 = .ok (.getfield 63, 3) := by decide +kernel
theorem dX4_findWishes_22 : decode cX4_findWishes 22 = .ok (.invokevirtual 167, 3) := by decide +kernel
theorem dX4_findWishes_25 : decode cX4_findWishes 25 = .ok (.ifCond .eq 16, 3) := by decide +kernel
theorem dX4_findWishes_28 : decode cX4_findWishes 28 = .ok (.aload_n 0, 1) := by decide +kernel
theorem dX4_findWishes_29 : decode cX4_findWishes 29 = .ok (.aload_n 1, 1) := by decide +kernel
theorem dX4_findWishes_30 : decode cX4_findWishes 30 = .ok (.iload_n 2, 1) := by decide +kernel
theorem dX4_findWishes_31 : decode cX4_findWishes 31 = .ok (.invokevirtual 149, 3) := by decide +kernel
theorem dX4_findWishes_34 : decode cX4_findWishes 34 = .ok (.checkcast 64, 3) := by decide +kernel
theorem dX4_findWishes_37 : decode cX4_findWishes 37 = .ok (.aload_n 1, 1) := by decide +kernel
theorem dX4_findWishes_38 : decode cX4_findWishes 38 = .ok (.invokevirtual 178, 3) := by decide +kernel
theorem dX4_findWishes_41 : decode cX4_findWishes 41 = .ok (.iinc 2 (-1), 3) := by decide +kernel
theorem dX4_findWishes_44 : decode cX4_findWishes 44 = .ok (.goto (-37), 3) := by decide +kernel
theorem dX4_findWishes_47 : decode cX4_findWishes 47 = .ok (.return_, 1) := by decide +kernel
theorem dX4_findWish_0 : decode cX4_findWish 0 = .ok (.aload_n 1, 1) := by decide +kernel
theorem dX4_findWish_1 : decode cX4_findWish 1 = .ok (.getfield 87, 3) := by decide +kernel
theorem dX4_findWish_4 : decode cX4_findWish 4 = .ok (.iconst 0, 1) := by decide +kernel
theorem dX4_findWish_5 : decode cX4_findWish 5 = .ok (.putfield 182, 3) := by decide +kernel
theorem dX4_findWish_8 : decode cX4_findWish 8 = .ok (.aload_n 1, 1) := by decide +kernel
theorem dX4_findWish_9 : decode cX4_findWish 9 = .ok (.getfield 87, 3) := by decide +kernel
theorem dX4_findWish_12 : decode cX4_findWish 12 = .ok (.iconst 0, 1) := by decide +kernel
theorem dX4_findWish_13 : decode cX4_findWish 13 = .ok (.putfield 185, 3) := by decide +kernel
theorem dX4_findWish_16 : decode cX4_findWish 16 = .ok (.iconst 0, 1) := by decide +kernel
theorem dX4_findWish_17 : decode cX4_findWish 17 = .ok (.istore_n 3, 1) := by decide +kernel
theorem dX4_findWish_18 : decode cX4_findWish 18 = .ok (.iload_n 3, 1) := by decide +kernel
theorem dX4_findWish_19 : decode cX4_findWish 19 = .ok (.aload_n 2, 1) := by decide +kernel
theorem dX4_findWish_20 : decode cX4_findWish 20 = .ok (.invokevirtual 143, 3) := by decide +kernel
theorem dX4_findWish_23 : decode cX4_findWish 23 = .ok (.if_icmp .ge 133, 3) := by decide +kernel
theorem dX4_findWish_26 : decode cX4_findWish 26 = .ok (.aload_n 2, 1) := by decide +kernel
theorem dX4_findWish_27 : decode cX4_findWish 27 = .ok (.iload_n 3, 1) := by decide +kernel
theorem dX4_findWish_28 : decode cX4_findWish 28 = .ok (.invokevirtual 149, 3) := by decide +kernel
theorem dX4_findWish_31 : decode cX4_findWish 31 = .ok (.checkcast 64, 3) := by decide +kernel
theorem dX4_findWish_34 : decode cX4_findWish 34 = .ok (.astore 4, 2) := by decide +kernel
theorem dX4_findWish_36 : decode cX4_findWish 36 = .ok (.aload 4, 2) := by decide +kernel
theorem dX4_findWish_38 : decode cX4_findWish 38 = .ok (.getfield 63, 3) := by decide +kernel
theorem dX4_findWish_41 : decode cX4_findWish 41 = .ok (.getfield 161, 3) := by decide +kernel
theorem dX4_findWish_44 : decode cX4_findWish 44 = .ok (.aload_n 1, 1) := by decide +kernel
theorem dX4_findWish_45 : decode cX4_findWish 45 = .ok (.if_acmp .ne 71, 3) := by decide +kernel
theorem dX4_findWish_48 : decode cX4_findWish 48 = .ok (.aload 4, 2) := by decide +kernel
theorem dX4_findWish_50 : decode cX4_findWish 50 = .ok (.getfield 63, 3) := by decide +kernel
theorem dX4_findWish_53 : decode cX4_findWish 53 = .ok (.invokevirtual 167, 3) := by decide +kernel
theorem dX4_findWish_56 : decode cX4_findWish 56 = .ok (.ifCond .eq 60, 3) := by decide +kernel
theorem dX4_findWish_59 : decode cX4_findWish 59 = .ok (.aload_n 0, 1) := by decide +kernel
theorem dX4_findWish_60 : decode cX4_findWish 60 = .ok (.aload 4, 2) := by decide +kernel
theorem dX4_findWish_62 : decode cX4_findWish 62 = .ok (.aload 4, 2) := by decide +kernel
theorem dX4_findWish_64 : decode cX4_findWish 64 = .ok (.getfield 87, 3) := by decide +kernel
theorem dX4_findWish_67 : decode cX4_findWish 67 = .ok (.getfield 182, 3) := by decide +kernel
theorem dX4_findWish_70 : decode cX4_findWish 70 = .ok (.invokevirtual 80, 3) := by decide +kernel
theorem dX4_findWish_73 : decode cX4_findWish 73 = .ok (.iconst 2, 1) := by decide +kernel
theorem dX4_findWish_74 : decode cX4_findWish 74 = .ok (.aload 4, 2) := by decide +kernel
theorem dX4_findWish_76 : decode cX4_findWish 76 = .ok (.getfield 63, 3) := by decide +kernel
theorem dX4_findWish_79 : decode cX4_findWish 79 = .ok (.getfield 69, 3) := by decide +kernel
theorem dX4_findWish_82 : decode cX4_findWish 82 = .ok (.imul, 1) := by decide +kernel
theorem dX4_findWish_83 : decode cX4_findWish 83 = .ok (.iadd, 1) := by decide +kernel
theorem dX4_findWish_84 : decode cX4_findWish 84 = .ok (.istore 5, 2) := by decide +kernel
theorem dX4_findWish_86 : decode cX4_findWish 86 = .ok (.aload_n 1, 1) := by decide +kernel
theorem dX4_findWish_87 : decode cX4_findWish 87 = .ok (.getfield 87, 3) := by decide +kernel
theorem dX4_findWish_90 : decode cX4_findWish 90 = .ok (.aload_n 1, 1) := by decide +kernel
theorem dX4_findWish_91 : decode cX4_findWish 91 = .ok (.getfield 87, 3) := by decide +kernel
theorem dX4_findWish_94 : decode cX4_findWish 94 = .ok (.getfield 182, 3) := by decide +kernel
theorem dX4_findWish_97 : decode cX4_findWish 97 = .ok (.iload 5, 2) := by decide +kernel
theorem dX4_findWish_99 : decode cX4_findWish 99 = .ok (.invokestatic 187, 3) := by decide +kernel
theorem dX4_findWish_102 : decode cX4_findWish 102 = .ok (.putfield 182, 3) := by decide +kernel
theorem dX4_findWish_105 : decode cX4_findWish 105 = .ok (.aload_n 1, 1) := by decide +kernel
theorem dX4_findWish_106 : decode cX4_findWish 106 = .ok (.getfield 87, 3) := by decide +kernel
theorem dX4_findWish_109 : decode cX4_findWish 109 = .ok (.iconst 0, 1) := by decide +kernel
theorem dX4_findWish_110 : decode cX4_findWish 110 = .ok (.putfield 185, 3) := by decide +kernel
theorem dX4_findWish_113 : decode cX4_findWish 113 = .ok (.goto 37, 3) := by decide +kernel
theorem dX4_findWish_116 : decode cX4_findWish 116 = .ok (.aload 4, 2) := by decide +kernel
theorem dX4_findWish_118 : decode cX4_findWish 118 = .ok (.getfield 63, 3) := by decide +kernel
theorem dX4_findWish_121 : decode cX4_findWish 121 = .ok (.getfield 161, 3) := by decide +kernel
theorem dX4_findWish_124 : decode cX4_findWish 124 = .ok (.aload_n 1, 1) := by decide +kernel
theorem dX4_findWish_125 : decode cX4_findWish 125 = .ok (.if_acmp .ne 25, 3) := by decide +kernel
theorem dX4_findWish_128 : decode cX4_findWish 128 = .ok (.aload 4, 2) := by decide +kernel
theorem dX4_findWish_130 : decode cX4_findWish 130 = .ok (.getfield 63, 3) := by decide +kernel
theorem dX4_findWish_133 : decode cX4_findWish 133 = .ok (.getfield 116, 3) := by decide +kernel
theorem dX4_findWish_136 : decode cX4_findWish 136 = .ok (.iconst 1, 1) := by decide +kernel
theorem dX4_findWish_137 : decode cX4_findWish 137 = .ok (.if_icmp .ne 13, 3) := by decide +kernel
theorem dX4_findWish_140 : decode cX4_findWish 140 = .ok (.aload_n 0, 1) := by decide +kernel
theorem dX4_findWish_141 : decode cX4_findWish 141 = .ok (.aload 4, 2) := by decide +kernel
theorem dX4_findWish_143 : decode cX4_findWish 143 = .ok (.aload_n 1, 1) := by decide +kernel
theorem dX4_findWish_144 : decode cX4_findWish 144 = .ok (.getfield 87, 3) := by decide +kernel
theorem dX4_findWish_147 : decode cX4_findWish 147 = .ok (.invokevirtual 193, 3) := by decide +kernel
theorem dX4_findWish_150 : decode cX4_findWish 150 = .ok (.iinc 3 1, 3) := by decide +kernel
theorem dX4_findWish_153 : decode cX4_findWish 153 = .ok (.goto (-135), 3) := by decide +kernel
theorem dX4_findWish_156 : decode cX4_findWish 156 = .ok (.return_, 1) := by decide +kernel
theorem dX4_addToWish_0 : decode cX4_addToWish 0 = .ok (.aload_n 0, 1) := by decide +kernel
theorem dX4_addToWish_1 : decode cX4_addToWish 1 = .ok (.getfield 12, 3) := by decide +kernel
theorem dX4_addToWish_4 : decode cX4_addToWish 4 = .ok (.aload_n 1, 1) := by decide +kernel
theorem dX4_addToWish_5 : decode cX4_addToWish 5 = .ok (.bipush 9, 2) := by decide +kernel
theorem dX4_addToWish_7 : decode cX4_addToWish 7 = .ok (.invokevirtual 110, 3) := by decide +kernel
theorem dX4_addToWish_10 : decode cX4_addToWish 10 = .ok (.istore_n 3, 1) := by decide +kernel
theorem dX4_addToWish_11 : decode cX4_addToWish 11 = .ok (.iconst 0, 1) := by decide +kernel
theorem dX4_addToWish_12 : decode cX4_addToWish 12 = .ok (.istore 4, 2) := by decide +kernel
theorem dX4_addToWish_14 : decode cX4_addToWish 14 = .ok (.iload 4, 2) := by decide +kernel
theorem dX4_addToWish_16 : decode cX4_addToWish 16 = .ok (.aload_n 1, 1) := by decide +kernel
theorem dX4_addToWish_17 : decode cX4_addToWish 17 = .ok (.getfield 113, 3) := by decide +kernel
theorem dX4_addToWish_20 : decode cX4_addToWish 20 = .ok (.if_icmp .ge 51, 3) := by decide +kernel
theorem dX4_addToWish_23 : decode cX4_addToWish 23 = .ok (.aload_n 2, 1) := by decide +kernel
theorem dX4_addToWish_24 : decode cX4_addToWish 24 = .ok (.dup, 1) := by decide +kernel
theorem dX4_addToWish_25 : decode cX4_addToWish 25 = .ok (.getfield 185, 3) := by decide +kernel
theorem dX4_addToWish_28 : decode cX4_addToWish 28 = .ok (.aload_n 1, 1) := by decide +kernel
theorem dX4_addToWish_29 : decode cX4_addToWish 29 = .ok (.iload 4, 2) := by decide +kernel
theorem dX4_addToWish_31 : decode cX4_addToWish 31 = .ok (.invokevirtual 123, 3) := by decide +kernel
theorem dX4_addToWish_34 : decode cX4_addToWish 34 = .ok (.iload_n 3, 1) := by decide +kernel
theorem dX4_addToWish_35 : decode cX4_addToWish 35 = .ok (.imul, 1) := by decide +kernel
theorem dX4_addToWish_36 : decode cX4_addToWish 36 = .ok (.iadd, 1) := by decide +kernel
theorem dX4_addToWish_37 : decode cX4_addToWish 37 = .ok (.putfield 185, 3) := by decide +kernel
theorem dX4_addToWish_40 : decode cX4_addToWish 40 = .ok (.aload_n 2, 1) := by decide +kernel
theorem dX4_addToWish_41 : decode cX4_addToWish 41 = .ok (.aload_n 2, 1) := by decide +kernel
theorem dX4_addToWish_42 : decode cX4_addToWish 42 = .ok (.getfield 182, 3) := by decide +kernel
theorem dX4_addToWish_45 : decode cX4_addToWish 45 = .ok (.aload_n 2, 1) := by decide +kernel
theorem dX4_addToWish_46 : decode cX4_addToWish 46 = .ok (.getfield 185, 3) := by decide +kernel
theorem dX4_addToWish_49 : decode cX4_addToWish 49 = .ok (.invokestatic 187, 3) := by decide +kernel
theorem dX4_addToWish_52 : decode cX4_addToWish 52 = .ok (.putfield 182, 3) := by decide +kernel
theorem dX4_addToWish_55 : decode cX4_addToWish 55 = .ok (.aload_n 2, 1) := by decide +kernel
theorem dX4_addToWish_56 : decode cX4_addToWish 56 = .ok (.dup, 1) := by decide +kernel
theorem dX4_addToWish_57 : decode cX4_addToWish 57 = .ok (.getfield 185, 3) := by decide +kernel
theorem dX4_addToWish_60 : decode cX4_addToWish 60 = .ok (.iload_n 3, 1) := by decide +kernel
theorem dX4_addToWish_61 : decode cX4_addToWish 61 = .ok (.iadd, 1) := by decide +kernel
theorem dX4_addToWish_62 : decode cX4_addToWish 62 = .ok (.putfield 185, 3) := by decide +kernel
theorem dX4_addToWish_65 : decode cX4_addToWish 65 = .ok (.iinc 4 1, 3) := by decide +kernel
theorem dX4_addToWish_68 : decode cX4_addToWish 68 = .ok (.goto (-54), 3) := by decide +kernel
theorem dX4_addToWish_71 : decode cX4_addToWish 71 = .ok (.return_, 1) := by decide +kernel
theorem dX4_widthOr_0 : decode cX4_widthOr 0 = .ok (.aload_n 0, 1) := by decide +kernel
theorem dX4_widthOr_1 : decode cX4_widthOr 1 = .ok (.getfield 12, 3) := by decide +kernel
theorem dX4_widthOr_4 : decode cX4_widthOr 4 = .ok (.aload_n 1, 1) := by decide +kernel
theorem dX4_widthOr_5 : decode cX4_widthOr 5 = .ok (.iconst 1, 1) := by decide +kernel
theorem dX4_widthOr_6 : decode cX4_widthOr 6 = .ok (.invokevirtual 110, 3) := by decide +kernel
theorem dX4_widthOr_9 : decode cX4_widthOr 9 = .ok (.istore_n 3, 1) := by decide +kernel
theorem dX4_widthOr_10 : decode cX4_widthOr 10 = .ok (.iload_n 3, 1) := by decide +kernel
theorem dX4_widthOr_11 : decode cX4_widthOr 11 = .ok (.iconst (-1), 1) := by decide +kernel
theorem dX4_widthOr_12 : decode cX4_widthOr 12 = .ok (.if_icmp .ne 11, 3) := by decide +kernel
theorem dX4_widthOr_15 : decode cX4_widthOr 15 = .ok (.iconst 0, 1) := by decide +kernel
theorem dX4_widthOr_16 : decode cX4_widthOr 16 = .ok (.iload_n 2, 1) := by decide +kernel
theorem dX4_widthOr_17 : decode cX4_widthOr 17 = .ok (.invokestatic 187, 3) := by decide +kernel
theorem dX4_widthOr_20 : decode cX4_widthOr 20 = .ok (.goto 4, 3) := by decide +kernel
theorem dX4_widthOr_23 : decode cX4_widthOr 23 = .ok (.iload_n 3, 1) := by decide +kernel
theorem dX4_widthOr_24 : decode cX4_widthOr 24 = .ok (.ireturn, 1) := by decide +kernel
theorem dX4_fill_0 : decode cX4_fill 0 = .ok (.aload_n 1, 1) := by decide +kernel
theorem dX4_fill_1 : decode cX4_fill 1 = .ok (.getfield 63, 3) := by decide +kernel
theorem dX4_fill_4 : decode cX4_fill 4 = .ok (.astore 4, 2) := by decide +kernel
theorem dX4_fill_6 : decode cX4_fill 6 = .ok (.aload_n 1, 1) := by decide +kernel
theorem dX4_fill_7 : decode cX4_fill 7 = .ok (.getfield 87, 3) := by decide +kernel
theorem dX4_fill_10 : decode cX4_fill 10 = .ok (.aload 4, 2) := by decide +kernel
theorem dX4_fill_12 : decode cX4_fill 12 = .ok (.getfield 77, 3) := by decide +kernel
theorem dX4_fill_15 : decode cX4_fill 15 = .ok (.putfield 197, 3) := by decide +kernel
theorem dX4_fill_18 : decode cX4_fill 18 = .ok (.aload_n 1, 1) := by decide +kernel
theorem dX4_fill_19 : decode cX4_fill 19 = .ok (.getfield 87, 3) := by decide +kernel
theorem dX4_fill_22 : decode cX4_fill 22 = .ok (.iconst 0, 1) := by decide +kernel
theorem dX4_fill_23 : decode cX4_fill 23 = .ok (.putfield 200, 3) := by decide +kernel
theorem dX4_fill_26 : decode cX4_fill 26 = .ok (.aload 4, 2) := by decide +kernel
theorem dX4_fill_28 : decode cX4_fill 28 = .ok (.iconst 0, 1) := by decide +kernel
theorem dX4_fill_29 : decode cX4_fill 29 = .ok (.putfield 203, 3) := by decide +kernel
theorem dX4_fill_32 : decode cX4_fill 32 = .ok (.aload_n 0, 1) := by decide +kernel
theorem dX4_fill_33 : decode cX4_fill 33 = .ok (.aload_n 1, 1) := by decide +kernel
theorem dX4_fill_34 : decode cX4_fill 34 = .ok (.aload_n 2, 1) := by decide +kernel
theorem dX4_fill_35 : decode cX4_fill 35 = .ok (.iload_n 3, 1) := by decide +kernel
theorem dX4_fill_36 : decode cX4_fill 36 = .ok (.invokevirtual 204, 3) := by decide +kernel
theorem dX4_fill_39 : decode cX4_fill 39 = .ok (.aload_n 0, 1) := by decide +kernel
theorem dX4_fill_40 : decode cX4_fill 40 = .ok (.aload_n 1, 1) := by decide +kernel
theorem dX4_fill_41 : decode cX4_fill 41 = .ok (.invokevirtual 207, 3) := by decide +kernel
theorem dX4_fill_44 : decode cX4_fill 44 = .ok (.aload_n 1, 1) := by decide +kernel
theorem dX4_fill_45 : decode cX4_fill 45 = .ok (.getfield 87, 3) := by decide +kernel
theorem dX4_fill_48 : decode cX4_fill 48 = .ok (.getfield 197, 3) := by decide +kernel
theorem dX4_fill_51 : decode cX4_fill 51 = .ok (.istore 5, 2) := by decide +kernel
theorem dX4_fill_53 : decode cX4_fill 53 = .ok (.aload_n 1, 1) := by decide +kernel
theorem dX4_fill_54 : decode cX4_fill 54 = .ok (.getfield 87, 3) := by decide +kernel
theorem dX4_fill_57 : decode cX4_fill 57 = .ok (.getfield 94, 3) := by decide +kernel
theorem dX4_fill_60 : decode cX4_fill 60 = .ok (.aload_n 1, 1) := by decide +kernel
theorem dX4_fill_61 : decode cX4_fill 61 = .ok (.getfield 91, 3) := by decide +kernel
theorem dX4_fill_64 : decode cX4_fill 64 = .ok (.if_icmp .ne 19, 3) := by decide +kernel
theorem dX4_fill_67 : decode cX4_fill 67 = .ok (.aload_n 0, 1) := by decide +kernel
theorem dX4_fill_68 : decode cX4_fill 68 = .ok (.getfield 21, 3) := by decide +kernel
theorem dX4_fill_71 : decode cX4_fill 71 = .ok (.aload_n 1, 1) := by decide +kernel
theorem dX4_fill_72 : decode cX4_fill 72 = .ok (.getfield 91, 3) := by decide +kernel
theorem dX4_fill_75 : decode cX4_fill 75 = .ok (.iconst 3, 1) := by decide +kernel
theorem dX4_fill_76 : decode cX4_fill 76 = .ok (.iload 5, 2) := by decide +kernel
theorem dX4_fill_78 : decode cX4_fill 78 = .ok (.invokevirtual 211, 3) := by decide +kernel
theorem dX4_fill_81 : decode cX4_fill 81 = .ok (.istore 5, 2) := by decide +kernel
theorem dX4_fill_83 : decode cX4_fill 83 = .ok (.aload 4, 2) := by decide +kernel
theorem dX4_fill_85 : decode cX4_fill 85 = .ok (.iload 5, 2) := by decide +kernel
theorem dX4_fill_87 : decode cX4_fill 87 = .ok (.aload 4, 2) := by decide +kernel
theorem dX4_fill_89 : decode cX4_fill 89 = .ok (.getfield 77, 3) := by decide +kernel
theorem dX4_fill_92 : decode cX4_fill 92 = .ok (.isub, 1) := by decide +kernel
theorem dX4_fill_93 : decode cX4_fill 93 = .ok (.putfield 215, 3) := by decide +kernel
theorem dX4_fill_96 : decode cX4_fill 96 = .ok (.aload_n 0, 1) := by decide +kernel
theorem dX4_fill_97 : decode cX4_fill 97 = .ok (.getfield 12, 3) := by decide +kernel
theorem dX4_fill_100 : decode cX4_fill 100 = .ok (.aload_n 1, 1) := by decide +kernel
theorem dX4_fill_101 : decode cX4_fill 101 = .ok (.iconst 2, 1) := by decide +kernel
theorem dX4_fill_102 : decode cX4_fill 102 = .ok (.invokevirtual 110, 3) := by decide +kernel
theorem dX4_fill_105 : decode cX4_fill 105 = .ok (.istore 6, 2) := by decide +kernel
theorem dX4_fill_107 : decode cX4_fill 107 = .ok (.aload 4, 2) := by decide +kernel
theorem dX4_fill_109 : decode cX4_fill 109 = .ok (.iload 6, 2) := by decide +kernel
theorem dX4_fill_111 : decode cX4_fill 111 = .ok (.iconst (-1), 1) := by decide +kernel
theorem dX4_fill_112 : decode cX4_fill 112 = .ok (.if_icmp .ne 11, 3) := by decide +kernel
theorem dX4_fill_115 : decode cX4_fill 115 = .ok (.aload 4, 2) := by decide +kernel
theorem dX4_fill_117 : decode cX4_fill 117 = .ok (.getfield 215, 3) := by decide +kernel
theorem dX4_fill_120 : decode cX4_fill 120 = .ok (.goto 5, 3) := by decide +kernel
theorem dX4_fill_123 : decode cX4_fill 123 = .ok (.iload 6, 2) := by decide +kernel
theorem dX4_fill_125 : decode cX4_fill 125 = .ok (.putfield 218, 3) := by decide +kernel
theorem dX4_fill_128 : decode cX4_fill 128 = .ok (.return_, 1) := by decide +kernel
theorem dX4_putFlow_0 : decode cX4_putFlow 0 = .ok (.iload_n 3, 1) := by decide +kernel
theorem dX4_putFlow_1 : decode cX4_putFlow 1 = .ok (.bipush 10, 2) := by decide +kernel
theorem dX4_putFlow_3 : decode cX4_putFlow 3 = .ok (.if_icmp .le 4, 3) := by decide +kernel
theorem dX4_putFlow_6 : decode cX4_putFlow 6 = .ok (.return_, 1) := by decide +kernel
theorem dX4_putFlow_7 : decode cX4_putFlow 7 = .ok (.iconst 0, 1) := by decide +kernel
theorem dX4_putFlow_8 : decode cX4_putFlow 8 = .ok (.istore 4, 2) := by decide +kernel
theorem dX4_putFlow_10 : decode cX4_putFlow 10 = .ok (.iload 4, 2) := by decide +kernel
theorem dX4_putFlow_12 : decode cX4_putFlow 12 = .ok (.aload_n 2, 1) := by decide +kernel
theorem dX4_putFlow_13 : decode cX4_putFlow 13 = .ok (.invokevirtual 143, 3) := by decide +kernel
theorem dX4_putFlow_16 : decode cX4_putFlow 16 = .ok (.if_icmp .ge 122, 3) := by decide +kernel
theorem dX4_putFlow_19 : decode cX4_putFlow 19 = .ok (.aload_n 2, 1) := by decide +kernel
theorem dX4_putFlow_20 : decode cX4_putFlow 20 = .ok (.iload 4, 2) := by decide +kernel
theorem dX4_putFlow_22 : decode cX4_putFlow 22 = .ok (.invokevirtual 149, 3) := by decide +kernel
theorem dX4_putFlow_25 : decode cX4_putFlow 25 = .ok (.checkcast 64, 3) := by decide +kernel
theorem dX4_putFlow_28 : decode cX4_putFlow 28 = .ok (.astore 5, 2) := by decide +kernel
theorem dX4_putFlow_30 : decode cX4_putFlow 30 = .ok (.aload 5, 2) := by decide +kernel
theorem dX4_putFlow_32 : decode cX4_putFlow 32 = .ok (.getfield 63, 3) := by decide +kernel
theorem dX4_putFlow_35 : decode cX4_putFlow 35 = .ok (.getfield 161, 3) := by decide +kernel
theorem dX4_putFlow_38 : decode cX4_putFlow 38 = .ok (.aload_n 1, 1) := by decide +kernel
theorem dX4_putFlow_39 : decode cX4_putFlow 39 = .ok (.if_acmp .ne 14, 3) := by decide +kernel
theorem dX4_putFlow_42 : decode cX4_putFlow 42 = .ok (.aload 5, 2) := by decide +kernel
theorem dX4_putFlow_44 : decode cX4_putFlow 44 = .ok (.getfield 63, 3) := by decide +kernel
theorem dX4_putFlow_47 : decode cX4_putFlow 47 = .ok (.getfield 116, 3) := by decide +kernel
theorem dX4_putFlow_50 : decode cX4_putFlow 50 = .ok (.goto 4, 3) := by decide +kernel
theorem dX4_putFlow_53 : decode cX4_putFlow 53 = .ok (.iconst 0, 1) := by decide +kernel
theorem dX4_putFlow_54 : decode cX4_putFlow 54 = .ok (.istore 6, 2) := by decide +kernel
theorem dX4_putFlow_56 : decode cX4_putFlow 56 = .ok (.iload 6, 2) := by decide +kernel
theorem dX4_putFlow_58 : decode cX4_putFlow 58 = .ok (.iconst 1, 1) := by decide +kernel
theorem dX4_putFlow_59 : decode cX4_putFlow 59 = .ok (.if_icmp .ne 26, 3) := by decide +kernel
theorem dX4_putFlow_62 : decode cX4_putFlow 62 = .ok (.aload_n 0, 1) := by decide +kernel
theorem dX4_putFlow_63 : decode cX4_putFlow 63 = .ok (.getfield 28, 3) := by decide +kernel
theorem dX4_putFlow_66 : decode cX4_putFlow 66 = .ok (.aload 5, 2) := by decide +kernel
theorem dX4_putFlow_68 : decode cX4_putFlow 68 = .ok (.aload_n 0, 1) := by decide +kernel
theorem dX4_putFlow_69 : decode cX4_putFlow 69 = .ok (.getfield 12, 3) := by decide +kernel
theorem dX4_putFlow_72 : decode cX4_putFlow 72 = .ok (.aload 5, 2) := by decide +kernel
theorem dX4_putFlow_74 : decode cX4_putFlow 74 = .ok (.bipush 9, 2) := by decide +kernel
theorem dX4_putFlow_76 : decode cX4_putFlow 76 = .ok (.invokevirtual 110, 3) := by decide +kernel
theorem dX4_putFlow_79 : decode cX4_putFlow 79 = .ok (.invokevirtual 221, 3) := by decide +kernel
theorem dX4_putFlow_82 : decode cX4_putFlow 82 = .ok (.goto 50, 3) := by decide +kernel
theorem dX4_putFlow_85 : decode cX4_putFlow 85 = .ok (.iload 6, 2) := by decide +kernel
theorem dX4_putFlow_87 : decode cX4_putFlow 87 = .ok (.iconst 3, 1) := by decide +kernel
theorem dX4_putFlow_88 : decode cX4_putFlow 88 = .ok (.if_icmp .ne 22, 3) := by decide +kernel
theorem dX4_putFlow_91 : decode cX4_putFlow 91 = .ok (.aload_n 0, 1) := by decide +kernel
theorem dX4_putFlow_92 : decode cX4_putFlow 92 = .ok (.aload_n 1, 1) := by decide +kernel
theorem dX4_putFlow_93 : decode cX4_putFlow 93 = .ok (.invokevirtual 207, 3) := by decide +kernel
theorem dX4_putFlow_96 : decode cX4_putFlow 96 = .ok (.aload_n 0, 1) := by decide +kernel
theorem dX4_putFlow_97 : decode cX4_putFlow 97 = .ok (.aload 5, 2) := by decide +kernel
theorem dX4_putFlow_99 : decode cX4_putFlow 99 = .ok (.aload_n 1, 1) := by decide +kernel
theorem dX4_putFlow_100 : decode cX4_putFlow 100 = .ok (.aload_n 2, 1) := by decide +kernel
theorem dX4_putFlow_101 : decode cX4_putFlow 101 = .ok (.iload_n 3, 1) := by decide +kernel
theorem dX4_putFlow_102 : decode cX4_putFlow 102 = .ok (.iconst 1, 1) := by decide +kernel
theorem dX4_putFlow_103 : decode cX4_putFlow 103 = .ok (.iadd, 1) := by decide +kernel
theorem dX4_putFlow_104 : decode cX4_putFlow 104 = .ok (.invokevirtual 225, 3) := by decide +kernel
theorem dX4_putFlow_107 : decode cX4_putFlow 107 = .ok (.goto 25, 3) := by decide +kernel
theorem dX4_putFlow_110 : decode cX4_putFlow 110 = .ok (.iload 6, 2) := by decide +kernel
theorem dX4_putFlow_112 : decode cX4_putFlow 112 = .ok (.iconst 4, 1) := by decide +kernel
theorem dX4_putFlow_113 : decode cX4_putFlow 113 = .ok (.if_icmp .ne 19, 3) := by decide +kernel
theorem dX4_putFlow_116 : decode cX4_putFlow 116 = .ok (.aload_n 0, 1) := by decide +kernel
theorem dX4_putFlow_117 : decode cX4_putFlow 117 = .ok (.aload_n 1, 1) := by decide +kernel
theorem dX4_putFlow_118 : decode cX4_putFlow 118 = .ok (.invokevirtual 207, 3) := by decide +kernel
theorem dX4_putFlow_121 : decode cX4_putFlow 121 = .ok (.aload_n 0, 1) := by decide +kernel
theorem dX4_putFlow_122 : decode cX4_putFlow 122 = .ok (.aload 5, 2) := by decide +kernel
theorem dX4_putFlow_124 : decode cX4_putFlow 124 = .ok (.aload_n 1, 1) := by decide +kernel
theorem dX4_putFlow_125 : decode cX4_putFlow 125 = .ok (.aload_n 2, 1) := by decide +kernel
theorem dX4_putFlow_126 : decode cX4_putFlow 126 = .ok (.iload_n 3, 1) := by decide +kernel
theorem dX4_putFlow_127 : decode cX4_putFlow 127 = .ok (.iconst 1, 1) := by decide +kernel
theorem dX4_putFlow_128 : decode cX4_putFlow 128 = .ok (.iadd, 1) := by decide +kernel
theorem dX4_putFlow_129 : decode cX4_putFlow 129 = .ok (.invokevirtual 229, 3) := by decide +kernel
theorem dX4_putFlow_132 : decode cX4_putFlow 132 = .ok (.iinc 4 1, 3) := by decide +kernel
theorem dX4_putFlow_135 : decode cX4_putFlow 135 = .ok (.goto (-125), 3) := by decide +kernel
theorem dX4_putFlow_138 : decode cX4_putFlow 138 = .ok (.return_, 1) := by decide +kernel
theorem dX4_putBlock_0 : decode cX4_putBlock 0 = .ok (.aload_n 1, 1) := by decide +kernel
theorem dX4_putBlock_1 : decode cX4_putBlock 1 = .ok (.getfield 63, 3) := by decide +kernel
theorem dX4_putBlock_4 : decode cX4_putBlock 4 = .ok (.astore 5, 2) := by decide +kernel
theorem dX4_putBlock_6 : decode cX4_putBlock 6 = .ok (.aload_n 2, 1) := by decide +kernel
theorem dX4_putBlock_7 : decode cX4_putBlock 7 = .ok (.getfield 87, 3) := by decide +kernel
theorem dX4_putBlock_10 : decode cX4_putBlock 10 = .ok (.astore 6, 2) := by decide +kernel
theorem dX4_putBlock_12 : decode cX4_putBlock 12 = .ok (.aload_n 0, 1) := by decide +kernel
theorem dX4_putBlock_13 : decode cX4_putBlock 13 = .ok (.getfield 12, 3) := by decide +kernel
theorem dX4_putBlock_16 : decode cX4_putBlock 16 = .ok (.aload_n 1, 1) := by decide +kernel
theorem dX4_putBlock_17 : decode cX4_putBlock 17 = .ok (.iconst 3, 1) := by decide +kernel
theorem dX4_putBlock_18 : decode cX4_putBlock 18 = .ok (.invokevirtual 110, 3) := by decide +kernel
theorem dX4_putBlock_21 : decode cX4_putBlock 21 = .ok (.istore 7, 2) := by decide +kernel
theorem dX4_putBlock_23 : decode cX4_putBlock 23 = .ok (.aload 6, 2) := by decide +kernel
theorem dX4_putBlock_25 : decode cX4_putBlock 25 = .ok (.dup, 1) := by decide +kernel
theorem dX4_putBlock_26 : decode cX4_putBlock 26 = .ok (.getfield 197, 3) := by decide +kernel
theorem dX4_putBlock_29 : decode cX4_putBlock 29 = .ok (.iconst 0, 1) := by decide +kernel
theorem dX4_putBlock_30 : decode cX4_putBlock 30 = .ok (.iload 7, 2) := by decide +kernel
theorem dX4_putBlock_32 : decode cX4_putBlock 32 = .ok (.aload 6, 2) := by decide +kernel
theorem dX4_putBlock_34 : decode cX4_putBlock 34 = .ok (.getfield 200, 3) := by decide +kernel
theorem dX4_putBlock_37 : decode cX4_putBlock 37 = .ok (.isub, 1) := by decide +kernel
theorem dX4_putBlock_38 : decode cX4_putBlock 38 = .ok (.invokestatic 187, 3) := by decide +kernel
theorem dX4_putBlock_41 : decode cX4_putBlock 41 = .ok (.iadd, 1) := by decide +kernel
theorem dX4_putBlock_42 : decode cX4_putBlock 42 = .ok (.putfield 197, 3) := by decide +kernel
theorem dX4_putBlock_45 : decode cX4_putBlock 45 = .ok (.aload 6, 2) := by decide +kernel
theorem dX4_putBlock_47 : decode cX4_putBlock 47 = .ok (.aload_n 0, 1) := by decide +kernel
theorem dX4_putBlock_48 : decode cX4_putBlock 48 = .ok (.getfield 21, 3) := by decide +kernel
theorem dX4_putBlock_51 : decode cX4_putBlock 51 = .ok (.aload 6, 2) := by decide +kernel
theorem dX4_putBlock_53 : decode cX4_putBlock 53 = .ok (.getfield 94, 3) := by decide +kernel
theorem dX4_putBlock_56 : decode cX4_putBlock 56 = .ok (.aload_n 0, 1) := by decide +kernel
theorem dX4_putBlock_57 : decode cX4_putBlock 57 = .ok (.getfield 12, 3) := by decide +kernel
theorem dX4_putBlock_60 : decode cX4_putBlock 60 = .ok (.aload_n 1, 1) := by decide +kernel
theorem dX4_putBlock_61 : decode cX4_putBlock 61 = .ok (.bipush 7, 2) := by decide +kernel
theorem dX4_putBlock_63 : decode cX4_putBlock 63 = .ok (.invokevirtual 110, 3) := by decide +kernel
theorem dX4_putBlock_66 : decode cX4_putBlock 66 = .ok (.aload 6, 2) := by decide +kernel
theorem dX4_putBlock_68 : decode cX4_putBlock 68 = .ok (.getfield 197, 3) := by decide +kernel
theorem dX4_putBlock_71 : decode cX4_putBlock 71 = .ok (.invokevirtual 211, 3) := by decide +kernel
theorem dX4_putBlock_74 : decode cX4_putBlock 74 = .ok (.putfield 197, 3) := by decide +kernel
theorem dX4_putBlock_77 : decode cX4_putBlock 77 = .ok (.aload 5, 2) := by decide +kernel
theorem dX4_putBlock_79 : decode cX4_putBlock 79 = .ok (.aload_n 2, 1) := by decide +kernel
theorem dX4_putBlock_80 : decode cX4_putBlock 80 = .ok (.getfield 63, 3) := by decide +kernel
theorem dX4_putBlock_83 : decode cX4_putBlock 83 = .ok (.getfield 74, 3) := by decide +kernel
theorem dX4_putBlock_86 : decode cX4_putBlock 86 = .ok (.aload 5, 2) := by decide +kernel
theorem dX4_putBlock_88 : decode cX4_putBlock 88 = .ok (.getfield 69, 3) := by decide +kernel
theorem dX4_putBlock_91 : decode cX4_putBlock 91 = .ok (.iadd, 1) := by decide +kernel
theorem dX4_putBlock_92 : decode cX4_putBlock 92 = .ok (.putfield 74, 3) := by decide +kernel
theorem dX4_putBlock_95 : decode cX4_putBlock 95 = .ok (.aload 5, 2) := by decide +kernel
theorem dX4_putBlock_97 : decode cX4_putBlock 97 = .ok (.aload 6, 2) := by decide +kernel
theorem dX4_putBlock_99 : decode cX4_putBlock 99 = .ok (.getfield 197, 3) := by decide +kernel
theorem dX4_putBlock_102 : decode cX4_putBlock 102 = .ok (.aload 5, 2) := by decide +kernel
theorem dX4_putBlock_104 : decode cX4_putBlock 104 = .ok (.getfield 164, 3) := by decide +kernel
theorem dX4_putBlock_107 : decode cX4_putBlock 107 = .ok (.iadd, 1) := by decide +kernel
theorem dX4_putBlock_108 : decode cX4_putBlock 108 = .ok (.putfield 77, 3) := by decide +kernel
theorem dX4_putBlock_111 : decode cX4_putBlock 111 = .ok (.aload 5, 2) := by decide +kernel
theorem dX4_putBlock_113 : decode cX4_putBlock 113 = .ok (.aload_n 0, 1) := by decide +kernel
theorem dX4_putBlock_114 : decode cX4_putBlock 114 = .ok (.aload_n 1, 1) := by decide +kernel
theorem dX4_putBlock_115 : decode cX4_putBlock 115 = .ok (.aload_n 2, 1) := by decide +kernel
theorem dX4_putBlock_116 : decode cX4_putBlock 116 = .ok (.getfield 63, 3) := by decide +kernel
theorem dX4_putBlock_119 : decode cX4_putBlock 119 = .ok (.getfield 84, 3) := by decide +kernel
theorem dX4_putBlock_122 : decode cX4_putBlock 122 = .ok (.iconst 2, 1) := by decide +kernel
theorem dX4_putBlock_123 : decode cX4_putBlock 123 = .ok (.aload 5, 2) := by decide +kernel
theorem dX4_putBlock_125 : decode cX4_putBlock 125 = .ok (.getfield 69, 3) := by decide +kernel
theorem dX4_putBlock_128 : decode cX4_putBlock 128 = .ok (.imul, 1) := by decide +kernel
theorem dX4_putBlock_129 : decode cX4_putBlock 129 = .ok (.isub, 1) := by decide +kernel
theorem dX4_putBlock_130 : decode cX4_putBlock 130 = .ok (.invokevirtual 80, 3) := by decide +kernel
theorem dX4_putBlock_133 : decode cX4_putBlock 133 = .ok (.putfield 84, 3) := by decide +kernel
theorem dX4_putBlock_136 : decode cX4_putBlock 136 = .ok (.aload_n 1, 1) := by decide +kernel
theorem dX4_putBlock_137 : decode cX4_putBlock 137 = .ok (.getfield 87, 3) := by decide +kernel
theorem dX4_putBlock_140 : decode cX4_putBlock 140 = .ok (.aload 5, 2) := by decide +kernel
theorem dX4_putBlock_142 : decode cX4_putBlock 142 = .ok (.getfield 171, 3) := by decide +kernel
theorem dX4_putBlock_145 : decode cX4_putBlock 145 = .ok (.ifCond .eq 10, 3) := by decide +kernel
theorem dX4_putBlock_148 : decode cX4_putBlock 148 = .ok (.aload_n 1, 1) := by decide +kernel
theorem dX4_putBlock_149 : decode cX4_putBlock 149 = .ok (.getfield 91, 3) := by decide +kernel
theorem dX4_putBlock_152 : decode cX4_putBlock 152 = .ok (.goto 8, 3) := by decide +kernel
theorem dX4_putBlock_155 : decode cX4_putBlock 155 = .ok (.aload 6, 2) := by decide +kernel
theorem dX4_putBlock_157 : decode cX4_putBlock 157 = .ok (.getfield 94, 3) := by decide +kernel
theorem dX4_putBlock_160 : decode cX4_putBlock 160 = .ok (.putfield 94, 3) := by decide +kernel
theorem dX4_putBlock_163 : decode cX4_putBlock 163 = .ok (.aload_n 0, 1) := by decide +kernel
theorem dX4_putBlock_164 : decode cX4_putBlock 164 = .ok (.aload_n 1, 1) := by decide +kernel
theorem dX4_putBlock_165 : decode cX4_putBlock 165 = .ok (.aload_n 3, 1) := by decide +kernel
theorem dX4_putBlock_166 : decode cX4_putBlock 166 = .ok (.iload 4, 2) := by decide +kernel
theorem dX4_putBlock_168 : decode cX4_putBlock 168 = .ok (.invokevirtual 99, 3) := by decide +kernel
theorem dX4_putBlock_171 : decode cX4_putBlock 171 = .ok (.aload 6, 2) := by decide +kernel
theorem dX4_putBlock_173 : decode cX4_putBlock 173 = .ok (.dup, 1) := by decide +kernel
theorem dX4_putBlock_174 : decode cX4_putBlock 174 = .ok (.getfield 197, 3) := by decide +kernel
theorem dX4_putBlock_177 : decode cX4_putBlock 177 = .ok (.aload 5, 2) := by decide +kernel
theorem dX4_putBlock_179 : decode cX4_putBlock 179 = .ok (.getfield 218, 3) := by decide +kernel
theorem dX4_putBlock_182 : decode cX4_putBlock 182 = .ok (.iconst 2, 1) := by decide +kernel
theorem dX4_putBlock_183 : decode cX4_putBlock 183 = .ok (.aload 5, 2) := by decide +kernel
theorem dX4_putBlock_185 : decode cX4_putBlock 185 = .ok (.getfield 164, 3) := by decide +kernel
theorem dX4_putBlock_188 : decode cX4_putBlock 188 = .ok (.imul, 1) := by decide +kernel
theorem dX4_putBlock_189 : decode cX4_putBlock 189 = .ok (.iadd, 1) := by decide +kernel
theorem dX4_putBlock_190 : decode cX4_putBlock 190 = .ok (.iload 7, 2) := by decide +kernel
theorem dX4_putBlock_192 : decode cX4_putBlock 192 = .ok (.iadd, 1) := by decide +kernel
theorem dX4_putBlock_193 : decode cX4_putBlock 193 = .ok (.iadd, 1) := by decide +kernel
theorem dX4_putBlock_194 : decode cX4_putBlock 194 = .ok (.putfield 197, 3) := by decide +kernel
theorem dX4_putBlock_197 : decode cX4_putBlock 197 = .ok (.aload 6, 2) := by decide +kernel
theorem dX4_putBlock_199 : decode cX4_putBlock 199 = .ok (.iload 7, 2) := by decide +kernel
theorem dX4_putBlock_201 : decode cX4_putBlock 201 = .ok (.putfield 200, 3) := by decide +kernel
theorem dX4_putBlock_204 : decode cX4_putBlock 204 = .ok (.return_, 1) := by decide +kernel
theorem dX4_putFloat_0 : decode cX4_putFloat 0 = .ok (.aload_n 1, 1) := by decide +kernel
theorem dX4_putFloat_1 : decode cX4_putFloat 1 = .ok (.getfield 63, 3) := by decide +kernel
theorem dX4_putFloat_4 : decode cX4_putFloat 4 = .ok (.astore 5, 2) := by decide +kernel
theorem dX4_putFloat_6 : decode cX4_putFloat 6 = .ok (.aload_n 2, 1) := by decide +kernel
theorem dX4_putFloat_7 : decode cX4_putFloat 7 = .ok (.getfield 87, 3) := by decide +kernel
theorem dX4_putFloat_10 : decode cX4_putFloat 10 = .ok (.getfield 94, 3) := by decide +kernel
theorem dX4_putFloat_13 : decode cX4_putFloat 13 = .ok (.istore 6, 2) := by decide +kernel
theorem dX4_putFloat_15 : decode cX4_putFloat 15 = .ok (.aload_n 0, 1) := by decide +kernel
theorem dX4_putFloat_16 : decode cX4_putFloat 16 = .ok (.getfield 12, 3) := by decide +kernel
theorem dX4_putFloat_19 : decode cX4_putFloat 19 = .ok (.aload_n 1, 1) := by decide +kernel
theorem dX4_putFloat_20 : decode cX4_putFloat 20 = .ok (.bipush 6, 2) := by decide +kernel
theorem dX4_putFloat_22 : decode cX4_putFloat 22 = .ok (.invokevirtual 110, 3) := by decide +kernel
theorem dX4_putFloat_25 : decode cX4_putFloat 25 = .ok (.istore 7, 2) := by decide +kernel
theorem dX4_putFloat_27 : decode cX4_putFloat 27 = .ok (.iconst 0, 1) := by decide +kernel
theorem dX4_putFloat_28 : decode cX4_putFloat 28 = .ok (.aload_n 2, 1) := by decide +kernel
theorem dX4_putFloat_29 : decode cX4_putFloat 29 = .ok (.getfield 63, 3) := by decide +kernel
theorem dX4_putFloat_32 : decode cX4_putFloat 32 = .ok (.getfield 84, 3) := by decide +kernel
theorem dX4_putFloat_35 : decode cX4_putFloat 35 = .ok (.iconst 2, 1) := by decide +kernel
theorem dX4_putFloat_36 : decode cX4_putFloat 36 = .ok (.aload 5, 2) := by decide +kernel
theorem dX4_putFloat_38 : decode cX4_putFloat 38 = .ok (.getfield 69, 3) := by decide +kernel
theorem dX4_putFloat_41 : decode cX4_putFloat 41 = .ok (.imul, 1) := by decide +kernel
theorem dX4_putFloat_42 : decode cX4_putFloat 42 = .ok (.isub, 1) := by decide +kernel
theorem dX4_putFloat_43 : decode cX4_putFloat 43 = .ok (.invokestatic 187, 3) := by decide +kernel
theorem dX4_putFloat_46 : decode cX4_putFloat 46 = .ok (.istore 8, 2) := by decide +kernel
theorem dX4_putFloat_48 : decode cX4_putFloat 48 = .ok (.aload 5, 2) := by decide +kernel
theorem dX4_putFloat_50 : decode cX4_putFloat 50 = .ok (.aload_n 0, 1) := by decide +kernel
theorem dX4_putFloat_51 : decode cX4_putFloat 51 = .ok (.aload_n 1, 1) := by decide +kernel
theorem dX4_putFloat_52 : decode cX4_putFloat 52 = .ok (.aload_n 1, 1) := by decide +kernel
theorem dX4_putFloat_53 : decode cX4_putFloat 53 = .ok (.getfield 87, 3) := by decide +kernel
theorem dX4_putFloat_56 : decode cX4_putFloat 56 = .ok (.getfield 182, 3) := by decide +kernel
theorem dX4_putFloat_59 : decode cX4_putFloat 59 = .ok (.iload 8, 2) := by decide +kernel
theorem dX4_putFloat_61 : decode cX4_putFloat 61 = .ok (.invokestatic 232, 3) := by decide +kernel
theorem dX4_putFloat_64 : decode cX4_putFloat 64 = .ok (.invokevirtual 80, 3) := by decide +kernel
theorem dX4_putFloat_67 : decode cX4_putFloat 67 = .ok (.putfield 84, 3) := by decide +kernel
theorem dX4_putFloat_70 : decode cX4_putFloat 70 = .ok (.aload 5, 2) := by decide +kernel
theorem dX4_putFloat_72 : decode cX4_putFloat 72 = .ok (.getfield 84, 3) := by decide +kernel
theorem dX4_putFloat_75 : decode cX4_putFloat 75 = .ok (.iconst 2, 1) := by decide +kernel
theorem dX4_putFloat_76 : decode cX4_putFloat 76 = .ok (.aload 5, 2) := by decide +kernel
theorem dX4_putFloat_78 : decode cX4_putFloat 78 = .ok (.getfield 69, 3) := by decide +kernel
theorem dX4_putFloat_81 : decode cX4_putFloat 81 = .ok (.imul, 1) := by decide +kernel
theorem dX4_putFloat_82 : decode cX4_putFloat 82 = .ok (.iadd, 1) := by decide +kernel
theorem dX4_putFloat_83 : decode cX4_putFloat 83 = .ok (.istore 9, 2) := by decide +kernel
theorem dX4_putFloat_85 : decode cX4_putFloat 85 = .ok (.aload_n 0, 1) := by decide +kernel
theorem dX4_putFloat_86 : decode cX4_putFloat 86 = .ok (.getfield 21, 3) := by decide +kernel
theorem dX4_putFloat_89 : decode cX4_putFloat 89 = .ok (.iload 6, 2) := by decide +kernel
theorem dX4_putFloat_91 : decode cX4_putFloat 91 = .ok (.aload_n 2, 1) := by decide +kernel
theorem dX4_putFloat_92 : decode cX4_putFloat 92 = .ok (.getfield 87, 3) := by decide +kernel
theorem dX4_putFloat_95 : decode cX4_putFloat 95 = .ok (.getfield 197, 3) := by decide +kernel
theorem dX4_putFloat_98 : decode cX4_putFloat 98 = .ok (.invokevirtual 235, 3) := by decide +kernel
theorem dX4_putFloat_101 : decode cX4_putFloat 101 = .ok (.istore 10, 2) := by decide +kernel
theorem dX4_putFloat_103 : decode cX4_putFloat 103 = .ok (.aload_n 0, 1) := by decide +kernel
theorem dX4_putFloat_104 : decode cX4_putFloat 104 = .ok (.getfield 21, 3) := by decide +kernel
theorem dX4_putFloat_107 : decode cX4_putFloat 107 = .ok (.iload 6, 2) := by decide +kernel
theorem dX4_putFloat_109 : decode cX4_putFloat 109 = .ok (.aload_n 0, 1) := by decide +kernel
theorem dX4_putFloat_110 : decode cX4_putFloat 110 = .ok (.getfield 12, 3) := by decide +kernel
theorem dX4_putFloat_113 : decode cX4_putFloat 113 = .ok (.aload_n 1, 1) := by decide +kernel
theorem dX4_putFloat_114 : decode cX4_putFloat 114 = .ok (.bipush 7, 2) := by decide +kernel
theorem dX4_putFloat_116 : decode cX4_putFloat 116 = .ok (.invokevirtual 110, 3) := by decide +kernel
theorem dX4_putFloat_119 : decode cX4_putFloat 119 = .ok (.iload 10, 2) := by decide +kernel
theorem dX4_putFloat_121 : decode cX4_putFloat 121 = .ok (.invokevirtual 211, 3) := by decide +kernel
theorem dX4_putFloat_124 : decode cX4_putFloat 124 = .ok (.istore 10, 2) := by decide +kernel
theorem dX4_putFloat_126 : decode cX4_putFloat 126 = .ok (.aload_n 0, 1) := by decide +kernel
theorem dX4_putFloat_127 : decode cX4_putFloat 127 = .ok (.getfield 21, 3) := by decide +kernel
theorem dX4_putFloat_130 : decode cX4_putFloat 130 = .ok (.iload 9, 2) := by decide +kernel
theorem dX4_putFloat_132 : decode cX4_putFloat 132 = .ok (.aload_n 2, 1) := by decide +kernel
theorem dX4_putFloat_133 : decode cX4_putFloat 133 = .ok (.iload 10, 2) := by decide +kernel
theorem dX4_putFloat_135 : decode cX4_putFloat 135 = .ok (.invokevirtual 238, 3) := by decide +kernel
theorem dX4_putFloat_138 : decode cX4_putFloat 138 = .ok (.istore 10, 2) := by decide +kernel
theorem dX4_putFloat_140 : decode cX4_putFloat 140 = .ok (.iload 7, 2) := by decide +kernel
theorem dX4_putFloat_142 : decode cX4_putFloat 142 = .ok (.iconst 1, 1) := by decide +kernel
theorem dX4_putFloat_143 : decode cX4_putFloat 143 = .ok (.if_icmp .ne 13, 3) := by decide +kernel
theorem dX4_putFloat_146 : decode cX4_putFloat 146 = .ok (.aload_n 0, 1) := by decide +kernel
theorem dX4_putFloat_147 : decode cX4_putFloat 147 = .ok (.getfield 21, 3) := by decide +kernel
theorem dX4_putFloat_150 : decode cX4_putFloat 150 = .ok (.getfield 242, 3) := by decide +kernel
theorem dX4_putFloat_153 : decode cX4_putFloat 153 = .ok (.goto 13, 3) := by decide +kernel
theorem dX4_putFloat_156 : decode cX4_putFloat 156 = .ok (.aload_n 0, 1) := by decide +kernel
theorem dX4_putFloat_157 : decode cX4_putFloat 157 = .ok (.getfield 21, 3) := by decide +kernel
theorem dX4_putFloat_160 : decode cX4_putFloat 160 = .ok (.getfield 245, 3) := by decide +kernel
theorem dX4_putFloat_163 : decode cX4_putFloat 163 = .ok (.iload 9, 2) := by decide +kernel
theorem dX4_putFloat_165 : decode cX4_putFloat 165 = .ok (.isub, 1) := by decide +kernel
theorem dX4_putFloat_166 : decode cX4_putFloat 166 = .ok (.istore 11, 2) := by decide +kernel
theorem dX4_putFloat_168 : decode cX4_putFloat 168 = .ok (.aload 5, 2) := by decide +kernel
theorem dX4_putFloat_170 : decode cX4_putFloat 170 = .ok (.iload 11, 2) := by decide +kernel
theorem dX4_putFloat_172 : decode cX4_putFloat 172 = .ok (.aload 5, 2) := by decide +kernel
theorem dX4_putFloat_174 : decode cX4_putFloat 174 = .ok (.getfield 69, 3) := by decide +kernel
theorem dX4_putFloat_177 : decode cX4_putFloat 177 = .ok (.iadd, 1) := by decide +kernel
theorem dX4_putFloat_178 : decode cX4_putFloat 178 = .ok (.putfield 74, 3) := by decide +kernel
theorem dX4_putFloat_181 : decode cX4_putFloat 181 = .ok (.aload 5, 2) := by decide +kernel
theorem dX4_putFloat_183 : decode cX4_putFloat 183 = .ok (.iload 10, 2) := by decide +kernel
theorem dX4_putFloat_185 : decode cX4_putFloat 185 = .ok (.aload 5, 2) := by decide +kernel
theorem dX4_putFloat_187 : decode cX4_putFloat 187 = .ok (.getfield 69, 3) := by decide +kernel
theorem dX4_putFloat_190 : decode cX4_putFloat 190 = .ok (.iadd, 1) := by decide +kernel
theorem dX4_putFloat_191 : decode cX4_putFloat 191 = .ok (.putfield 77, 3) := by decide +kernel
theorem dX4_putFloat_194 : decode cX4_putFloat 194 = .ok (.aload_n 1, 1) := by decide +kernel
theorem dX4_putFloat_195 : decode cX4_putFloat 195 = .ok (.getfield 87, 3) := by decide +kernel
theorem dX4_putFloat_198 : decode cX4_putFloat 198 = .ok (.aload_n 1, 1) := by decide +kernel
theorem dX4_putFloat_199 : decode cX4_putFloat 199 = .ok (.getfield 91, 3) := by decide +kernel
theorem dX4_putFloat_202 : decode cX4_putFloat 202 = .ok (.putfield 94, 3) := by decide +kernel
theorem dX4_putFloat_205 : decode cX4_putFloat 205 = .ok (.aload_n 0, 1) := by decide +kernel
theorem dX4_putFloat_206 : decode cX4_putFloat 206 = .ok (.aload_n 1, 1) := by decide +kernel
theorem dX4_putFloat_207 : decode cX4_putFloat 207 = .ok (.aload_n 3, 1) := by decide +kernel
theorem dX4_putFloat_208 : decode cX4_putFloat 208 = .ok (.iload 4, 2) := by decide +kernel
theorem dX4_putFloat_210 : decode cX4_putFloat 210 = .ok (.invokevirtual 99, 3) := by decide +kernel
theorem dX4_putFloat_213 : decode cX4_putFloat 213 = .ok (.aload_n 0, 1) := by decide +kernel
theorem dX4_putFloat_214 : decode cX4_putFloat 214 = .ok (.getfield 21, 3) := by decide +kernel
theorem dX4_putFloat_217 : decode cX4_putFloat 217 = .ok (.iload 6, 2) := by decide +kernel
theorem dX4_putFloat_219 : decode cX4_putFloat 219 = .ok (.iload 7, 2) := by decide +kernel
theorem dX4_putFloat_221 : decode cX4_putFloat 221 = .ok (.iload 11, 2) := by decide +kernel
theorem dX4_putFloat_223 : decode cX4_putFloat 223 = .ok (.iload 10, 2) := by decide +kernel
theorem dX4_putFloat_225 : decode cX4_putFloat 225 = .ok (.iload 9, 2) := by decide +kernel
theorem dX4_putFloat_227 : decode cX4_putFloat 227 = .ok (.aload 5, 2) := by decide +kernel
theorem dX4_putFloat_229 : decode cX4_putFloat 229 = .ok (.getfield 218, 3) := by decide +kernel
theorem dX4_putFloat_232 : decode cX4_putFloat 232 = .ok (.iconst 2, 1) := by decide +kernel
theorem dX4_putFloat_233 : decode cX4_putFloat 233 = .ok (.aload 5, 2) := by decide +kernel
theorem dX4_putFloat_235 : decode cX4_putFloat 235 = .ok (.getfield 69, 3) := by decide +kernel
theorem dX4_putFloat_238 : decode cX4_putFloat 238 = .ok (.imul, 1) := by decide +kernel
theorem dX4_putFloat_239 : decode cX4_putFloat 239 = .ok (.iadd, 1) := by decide +kernel
theorem dX4_putFloat_240 : decode cX4_putFloat 240 = .ok (.invokevirtual 248, 3) := by decide +kernel
theorem dX4_putFloat_243 : decode cX4_putFloat 243 = .ok (.return_, 1) := by decide +kernel
theorem dX4_putLines_0 : decode cX4_putLines 0 = .ok (.aload_n 0, 1) := by decide +kernel
theorem dX4_putLines_1 : decode cX4_putLines 1 = .ok (.getfield 12, 3) := by decide +kernel
theorem dX4_putLines_4 : decode cX4_putLines 4 = .ok (.aload_n 1, 1) := by decide +kernel
theorem dX4_putLines_5 : decode cX4_putLines 5 = .ok (.bipush 10, 2) := by decide +kernel
theorem dX4_putLines_7 : decode cX4_putLines 7 = .ok (.invokevirtual 110, 3) := by decide +kernel
theorem dX4_putLines_10 : decode cX4_putLines 10 = .ok (.istore_n 2, 1) := by decide +kernel
theorem dX4_putLines_11 : decode cX4_putLines 11 = .ok (.iconst 0, 1) := by decide +kernel
theorem dX4_putLines_12 : decode cX4_putLines 12 = .ok (.istore_n 3, 1) := by decide +kernel
theorem dX4_putLines_13 : decode cX4_putLines 13 = .ok (.iconst 0, 1) := by decide +kernel
theorem dX4_putLines_14 : decode cX4_putLines 14 = .ok (.istore 4, 2) := by decide +kernel
theorem dX4_putLines_16 : decode cX4_putLines 16 = .ok (.iload 4, 2) := by decide +kernel
theorem dX4_putLines_18 : decode cX4_putLines 18 = .ok (.sipush 800, 3) := by decide +kernel
theorem dX4_putLines_21 : decode cX4_putLines 21 = .ok (.if_icmp .ge 205, 3) := by decide +kernel
theorem dX4_putLines_24 : decode cX4_putLines 24 = .ok (.iload_n 3, 1) := by decide +kernel
theorem dX4_putLines_25 : decode cX4_putLines 25 = .ok (.aload_n 0, 1) := by decide +kernel
theorem dX4_putLines_26 : decode cX4_putLines 26 = .ok (.getfield 28, 3) := by decide +kernel
theorem dX4_putLines_29 : decode cX4_putLines 29 = .ok (.getfield 252, 3) := by decide +kernel
theorem dX4_putLines_32 : decode cX4_putLines 32 = .ok (.if_icmp .ge 194, 3) := by decide +kernel
theorem dX4_putLines_35 : decode cX4_putLines 35 = .ok (.aload_n 0, 1) := by decide +kernel
theorem dX4_putLines_36 : decode cX4_putLines 36 = .ok (.getfield 21, 3) := by decide +kernel
theorem dX4_putLines_39 : decode cX4_putLines 39 = .ok (.aload_n 0, 1) := by decide +kernel
theorem dX4_putLines_40 : decode cX4_putLines 40 = .ok (.getfield 28, 3) := by decide +kernel
theorem dX4_putLines_43 : decode cX4_putLines 43 = .ok (.iload_n 3, 1) := by decide +kernel
theorem dX4_putLines_44 : decode cX4_putLines 44 = .ok (.invokevirtual 255, 3) := by decide +kernel
theorem dX4_putLines_47 : decode cX4_putLines 47 = .ok (.aload_n 1, 1) := by decide +kernel
theorem dX4_putLines_48 : decode cX4_putLines 48 = .ok (.aload_n 1, 1) := by decide +kernel
theorem dX4_putLines_49 : decode cX4_putLines 49 = .ok (.getfield 87, 3) := by decide +kernel
theorem dX4_putLines_52 : decode cX4_putLines 52 = .ok (.getfield 197, 3) := by decide +kernel
theorem dX4_putLines_55 : decode cX4_putLines 55 = .ok (.invokevirtual 238, 3) := by decide +kernel
theorem dX4_putLines_58 : decode cX4_putLines 58 = .ok (.istore 5, 2) := by decide +kernel
theorem dX4_putLines_60 : decode cX4_putLines 60 = .ok (.aload_n 0, 1) := by decide +kernel
theorem dX4_putLines_61 : decode cX4_putLines 61 = .ok (.getfield 21, 3) := by decide +kernel
theorem dX4_putLines_64 : decode cX4_putLines 64 = .ok (.getfield 245, 3) := by decide +kernel
theorem dX4_putLines_67 : decode cX4_putLines 67 = .ok (.aload_n 0, 1) := by decide +kernel
theorem dX4_putLines_68 : decode cX4_putLines 68 = .ok (.getfield 21, 3) := by decide +kernel
theorem dX4_putLines_71 : decode cX4_putLines 71 = .ok (.getfield 242, 3) := by decide +kernel
theorem dX4_putLines_74 : decode cX4_putLines 74 = .ok (.isub, 1) := by decide +kernel
theorem dX4_putLines_75 : decode cX4_putLines 75 = .ok (.istore 6, 2) := by decide +kernel
theorem dX4_putLines_77 : decode cX4_putLines 77 = .ok (.aload_n 0, 1) := by decide +kernel
theorem dX4_putLines_78 : decode cX4_putLines 78 = .ok (.getfield 28, 3) := by decide +kernel
theorem dX4_putLines_81 : decode cX4_putLines 81 = .ok (.iload_n 3, 1) := by decide +kernel
theorem dX4_putLines_82 : decode cX4_putLines 82 = .ok (.iload 6, 2) := by decide +kernel
theorem dX4_putLines_84 : decode cX4_putLines 84 = .ok (.invokevirtual 258, 3) := by decide +kernel
theorem dX4_putLines_87 : decode cX4_putLines 87 = .ok (.istore 7, 2) := by decide +kernel
theorem dX4_putLines_89 : decode cX4_putLines 89 = .ok (.iconst 0, 1) := by decide +kernel
theorem dX4_putLines_90 : decode cX4_putLines 90 = .ok (.iload 6, 2) := by decide +kernel
theorem dX4_putLines_92 : decode cX4_putLines 92 = .ok (.aload_n 0, 1) := by decide +kernel
theorem dX4_putLines_93 : decode cX4_putLines 93 = .ok (.getfield 28, 3) := by decide +kernel
theorem dX4_putLines_96 : decode cX4_putLines 96 = .ok (.getfield 261, 3) := by decide +kernel
theorem dX4_putLines_99 : decode cX4_putLines 99 = .ok (.isub, 1) := by decide +kernel
theorem dX4_putLines_100 : decode cX4_putLines 100 = .ok (.invokestatic 187, 3) := by decide +kernel
theorem dX4_putLines_103 : decode cX4_putLines 103 = .ok (.istore 8, 2) := by decide +kernel
theorem dX4_putLines_105 : decode cX4_putLines 105 = .ok (.iload_n 2, 1) := by decide +kernel
theorem dX4_putLines_106 : decode cX4_putLines 106 = .ok (.ifCond .ne 7, 3) := by decide +kernel
theorem dX4_putLines_109 : decode cX4_putLines 109 = .ok (.iconst 0, 1) := by decide +kernel
theorem dX4_putLines_110 : decode cX4_putLines 110 = .ok (.goto 17, 3) := by decide +kernel
theorem dX4_putLines_113 : decode cX4_putLines 113 = .ok (.iload_n 2, 1) := by decide +kernel
theorem dX4_putLines_114 : decode cX4_putLines 114 = .ok (.iconst 1, 1) := by decide +kernel
theorem dX4_putLines_115 : decode cX4_putLines 115 = .ok (.if_icmp .ne 10, 3) := by decide +kernel
theorem dX4_putLines_118 : decode cX4_putLines 118 = .ok (.iload 8, 2) := by decide +kernel
theorem dX4_putLines_120 : decode cX4_putLines 120 = .ok (.iconst 2, 1) := by decide +kernel
theorem dX4_putLines_121 : decode cX4_putLines 121 = .ok (.idiv, 1) := by decide +kernel
theorem dX4_putLines_122 : decode cX4_putLines 122 = .ok (.goto 5, 3) := by decide +kernel
theorem dX4_putLines_125 : decode cX4_putLines 125 = .ok (.iload 8, 2) := by decide +kernel
theorem dX4_putLines_127 : decode cX4_putLines 127 = .ok (.istore 9, 2) := by decide +kernel
theorem dX4_putLines_129 : decode cX4_putLines 129 = .ok (.aload_n 0, 1) := by decide +kernel
theorem dX4_putLines_130 : decode cX4_putLines 130 = .ok (.getfield 28, 3) := by decide +kernel
theorem dX4_putLines_133 : decode cX4_putLines 133 = .ok (.iload_n 3, 1) := by decide +kernel
theorem dX4_putLines_134 : decode cX4_putLines 134 = .ok (.iload 7, 2) := by decide +kernel
theorem dX4_putLines_136 : decode cX4_putLines 136 = .ok (.aload_n 0, 1) := by decide +kernel
theorem dX4_putLines_137 : decode cX4_putLines 137 = .ok (.getfield 21, 3) := by decide +kernel
theorem dX4_putLines_140 : decode cX4_putLines 140 = .ok (.getfield 242, 3) := by decide +kernel
theorem dX4_putLines_143 : decode cX4_putLines 143 = .ok (.iload 9, 2) := by decide +kernel
theorem dX4_putLines_145 : decode cX4_putLines 145 = .ok (.iadd, 1) := by decide +kernel
theorem dX4_putLines_146 : decode cX4_putLines 146 = .ok (.iload 5, 2) := by decide +kernel
theorem dX4_putLines_148 : decode cX4_putLines 148 = .ok (.invokevirtual 264, 3) := by decide +kernel
theorem dX4_putLines_151 : decode cX4_putLines 151 = .ok (.aload_n 1, 1) := by decide +kernel
theorem dX4_putLines_152 : decode cX4_putLines 152 = .ok (.getfield 87, 3) := by decide +kernel
theorem dX4_putLines_155 : decode cX4_putLines 155 = .ok (.iload 5, 2) := by decide +kernel
theorem dX4_putLines_157 : decode cX4_putLines 157 = .ok (.iconst 2, 1) := by decide +kernel
theorem dX4_putLines_158 : decode cX4_putLines 158 = .ok (.aload_n 0, 1) := by decide +kernel
theorem dX4_putLines_159 : decode cX4_putLines 159 = .ok (.getfield 28, 3) := by decide +kernel
theorem dX4_putLines_162 : decode cX4_putLines 162 = .ok (.getfield 268, 3) := by decide +kernel
theorem dX4_putLines_165 : decode cX4_putLines 165 = .ok (.imul, 1) := by decide +kernel
theorem dX4_putLines_166 : decode cX4_putLines 166 = .ok (.iadd, 1) := by decide +kernel
theorem dX4_putLines_167 : decode cX4_putLines 167 = .ok (.putfield 197, 3) := by decide +kernel
theorem dX4_putLines_170 : decode cX4_putLines 170 = .ok (.aload_n 1, 1) := by decide +kernel
theorem dX4_putLines_171 : decode cX4_putLines 171 = .ok (.getfield 87, 3) := by decide +kernel
theorem dX4_putLines_174 : decode cX4_putLines 174 = .ok (.iconst 0, 1) := by decide +kernel
theorem dX4_putLines_175 : decode cX4_putLines 175 = .ok (.putfield 200, 3) := by decide +kernel
theorem dX4_putLines_178 : decode cX4_putLines 178 = .ok (.aload_n 1, 1) := by decide +kernel
theorem dX4_putLines_179 : decode cX4_putLines 179 = .ok (.getfield 63, 3) := by decide +kernel
theorem dX4_putLines_182 : decode cX4_putLines 182 = .ok (.dup, 1) := by decide +kernel
theorem dX4_putLines_183 : decode cX4_putLines 183 = .ok (.getfield 203, 3) := by decide +kernel
theorem dX4_putLines_186 : decode cX4_putLines 186 = .ok (.iconst 1, 1) := by decide +kernel
theorem dX4_putLines_187 : decode cX4_putLines 187 = .ok (.iadd, 1) := by decide +kernel
theorem dX4_putLines_188 : decode cX4_putLines 188 = .ok (.putfield 203, 3) := by decide +kernel
theorem dX4_putLines_191 : decode cX4_putLines 191 = .ok (.aload_n 0, 1) := by decide +kernel
theorem dX4_putLines_192 : decode cX4_putLines 192 = .ok (.dup, 1) := by decide +kernel
theorem dX4_putLines_193 : decode cX4_putLines 193 = .ok (.getfield 36, 3) := by decide +kernel
theorem dX4_putLines_196 : decode cX4_putLines 196 = .ok (.iconst 1, 1) := by decide +kernel
theorem dX4_putLines_197 : decode cX4_putLines 197 = .ok (.iadd, 1) := by decide +kernel
theorem dX4_putLines_198 : decode cX4_putLines 198 = .ok (.putfield 36, 3) := by decide +kernel
theorem dX4_putLines_201 : decode cX4_putLines 201 = .ok (.aload_n 0, 1) := by decide +kernel
theorem dX4_putLines_202 : decode cX4_putLines 202 = .ok (.dup, 1) := by decide +kernel
theorem dX4_putLines_203 : decode cX4_putLines 203 = .ok (.getfield 39, 3) := by decide +kernel
theorem dX4_putLines_206 : decode cX4_putLines 206 = .ok (.aload_n 0, 1) := by decide +kernel
theorem dX4_putLines_207 : decode cX4_putLines 207 = .ok (.getfield 28, 3) := by decide +kernel
theorem dX4_putLines_210 : decode cX4_putLines 210 = .ok (.getfield 261, 3) := by decide +kernel
theorem dX4_putLines_213 : decode cX4_putLines 213 = .ok (.iadd, 1) := by decide +kernel
theorem dX4_putLines_214 : decode cX4_putLines 214 = .ok (.putfield 39, 3) := by decide +kernel
theorem dX4_putLines_217 : decode cX4_putLines 217 = .ok (.iload 7, 2) := by decide +kernel
theorem dX4_putLines_219 : decode cX4_putLines 219 = .ok (.istore_n 3, 1) := by decide +kernel
theorem dX4_putLines_220 : decode cX4_putLines 220 = .ok (.iinc 4 1, 3) := by decide +kernel
theorem dX4_putLines_223 : decode cX4_putLines 223 = .ok (.goto (-207), 3) := by decide +kernel
theorem dX4_putLines_226 : decode cX4_putLines 226 = .ok (.aload_n 0, 1) := by decide +kernel
theorem dX4_putLines_227 : decode cX4_putLines 227 = .ok (.getfield 28, 3) := by decide +kernel
theorem dX4_putLines_230 : decode cX4_putLines 230 = .ok (.invokevirtual 45, 3) := by decide +kernel
theorem dX4_putLines_233 : decode cX4_putLines 233 = .ok (.return_, 1) := by decide +kernel
theorem dX4_shift_0 : decode cX4_shift 0 = .ok (.iconst 0, 1) := by decide +kernel
theorem dX4_shift_1 : decode cX4_shift 1 = .ok (.istore_n 2, 1) := by decide +kernel
theorem dX4_shift_2 : decode cX4_shift 2 = .ok (.iload_n 2, 1) := by decide +kernel
theorem dX4_shift_3 : decode cX4_shift 3 = .ok (.aload_n 1, 1) := by decide +kernel
theorem dX4_shift_4 : decode cX4_shift 4 = .ok (.invokevirtual 143, 3) := by decide +kernel
theorem dX4_shift_7 : decode cX4_shift 7 = .ok (.if_icmp .ge 175, 3) := by decide +kernel
theorem dX4_shift_10 : decode cX4_shift 10 = .ok (.aload_n 1, 1) := by decide +kernel
theorem dX4_shift_11 : decode cX4_shift 11 = .ok (.iload_n 2, 1) := by decide +kernel
theorem dX4_shift_12 : decode cX4_shift 12 = .ok (.invokevirtual 149, 3) := by decide +kernel
theorem dX4_shift_15 : decode cX4_shift 15 = .ok (.checkcast 64, 3) := by decide +kernel
theorem dX4_shift_18 : decode cX4_shift 18 = .ok (.astore_n 3, 1) := by decide +kernel
theorem dX4_shift_19 : decode cX4_shift 19 = .ok (.aload_n 3, 1) := by decide +kernel
theorem dX4_shift_20 : decode cX4_shift 20 = .ok (.getfield 63, 3) := by decide +kernel
theorem dX4_shift_23 : decode cX4_shift 23 = .ok (.astore 4, 2) := by decide +kernel
theorem dX4_shift_25 : decode cX4_shift 25 = .ok (.aload 4, 2) := by decide +kernel
theorem dX4_shift_27 : decode cX4_shift 27 = .ok (.aload 4, 2) := by decide +kernel
theorem dX4_shift_29 : decode cX4_shift 29 = .ok (.invokevirtual 167, 3) := by decide +kernel
theorem dX4_shift_32 : decode cX4_shift 32 = .ok (.ifCond .eq 16, 3) := by decide +kernel
theorem dX4_shift_35 : decode cX4_shift 35 = .ok (.aload_n 0, 1) := by decide +kernel
theorem dX4_shift_36 : decode cX4_shift 36 = .ok (.getfield 12, 3) := by decide +kernel
theorem dX4_shift_39 : decode cX4_shift 39 = .ok (.aload_n 3, 1) := by decide +kernel
theorem dX4_shift_40 : decode cX4_shift 40 = .ok (.bipush 12, 2) := by decide +kernel
theorem dX4_shift_42 : decode cX4_shift 42 = .ok (.invokevirtual 110, 3) := by decide +kernel
theorem dX4_shift_45 : decode cX4_shift 45 = .ok (.goto 4, 3) := by decide +kernel
theorem dX4_shift_48 : decode cX4_shift 48 = .ok (.iconst 0, 1) := by decide +kernel
theorem dX4_shift_49 : decode cX4_shift 49 = .ok (.putfield 271, 3) := by decide +kernel
theorem dX4_shift_52 : decode cX4_shift 52 = .ok (.aload 4, 2) := by decide +kernel
theorem dX4_shift_54 : decode cX4_shift 54 = .ok (.aload 4, 2) := by decide +kernel
theorem dX4_shift_56 : decode cX4_shift 56 = .ok (.invokevirtual 167, 3) := by decide +kernel
theorem dX4_shift_59 : decode cX4_shift 59 = .ok (.ifCond .eq 16, 3) := by decide +kernel
theorem dX4_shift_62 : decode cX4_shift 62 = .ok (.aload_n 0, 1) := by decide +kernel
theorem dX4_shift_63 : decode cX4_shift 63 = .ok (.getfield 12, 3) := by decide +kernel
theorem dX4_shift_66 : decode cX4_shift 66 = .ok (.aload_n 3, 1) := by decide +kernel
theorem dX4_shift_67 : decode cX4_shift 67 = .ok (.bipush 13, 2) := by decide +kernel
theorem dX4_shift_69 : decode cX4_shift 69 = .ok (.invokevirtual 110, 3) := by decide +kernel
theorem dX4_shift_72 : decode cX4_shift 72 = .ok (.goto 4, 3) := by decide +kernel
theorem dX4_shift_75 : decode cX4_shift 75 = .ok (.iconst 0, 1) := by decide +kernel
theorem dX4_shift_76 : decode cX4_shift 76 = .ok (.putfield 274, 3) := by decide +kernel
theorem dX4_shift_79 : decode cX4_shift 79 = .ok (.aload 4, 2) := by decide +kernel
theorem dX4_shift_81 : decode cX4_shift 81 = .ok (.aload 4, 2) := by decide +kernel
theorem dX4_shift_83 : decode cX4_shift 83 = .ok (.getfield 171, 3) := by decide +kernel
theorem dX4_shift_86 : decode cX4_shift 86 = .ok (.ifCond .eq 28, 3) := by decide +kernel
theorem dX4_shift_89 : decode cX4_shift 89 = .ok (.aload_n 3, 1) := by decide +kernel
theorem dX4_shift_90 : decode cX4_shift 90 = .ok (.getfield 277, 3) := by decide +kernel
theorem dX4_shift_93 : decode cX4_shift 93 = .ok (.iconst 0, 1) := by decide +kernel
theorem dX4_shift_94 : decode cX4_shift 94 = .ok (.aload 4, 2) := by decide +kernel
theorem dX4_shift_96 : decode cX4_shift 96 = .ok (.getfield 215, 3) := by decide +kernel
theorem dX4_shift_99 : decode cX4_shift 99 = .ok (.aload 4, 2) := by decide +kernel
theorem dX4_shift_101 : decode cX4_shift 101 = .ok (.getfield 218, 3) := by decide +kernel
theorem dX4_shift_104 : decode cX4_shift 104 = .ok (.isub, 1) := by decide +kernel
theorem dX4_shift_105 : decode cX4_shift 105 = .ok (.invokestatic 187, 3) := by decide +kernel
theorem dX4_shift_108 : decode cX4_shift 108 = .ok (.invokestatic 232, 3) := by decide +kernel
theorem dX4_shift_111 : decode cX4_shift 111 = .ok (.goto 4, 3) := by decide +kernel
theorem dX4_shift_114 : decode cX4_shift 114 = .ok (.iconst 0, 1) := by decide +kernel
theorem dX4_shift_115 : decode cX4_shift 115 = .ok (.putfield 280, 3) := by decide +kernel
end
section
theorem dX4_shift_118 : decode cX4_shift 118 = .ok (.aload_n 3, 1) := by decide +kernel
theorem dX4_shift_119 : decode cX4_shift 119 = .ok (.getfield 133, 3) := by decide +kernel
theorem dX4_shift_122 : decode cX4_shift 122 = .ok (.ifnull 54, 3) := by decide +kernel
theorem dX4_shift_125 : decode cX4_shift 125 = .ok (.aload 4, 2) := by decide +kernel
theorem dX4_shift_127 : decode cX4_shift 127 = .ok (.dup, 1) := by decide +kernel
theorem dX4_shift_128 : decode cX4_shift 128 = .ok (.getfield 271, 3) := by decide +kernel
theorem dX4_shift_131 : decode cX4_shift 131 = .ok (.aload_n 3, 1) := by decide +kernel
theorem dX4_shift_132 : decode cX4_shift 132 = .ok (.getfield 133, 3) := by decide +kernel
theorem dX4_shift_135 : decode cX4_shift 135 = .ok (.getfield 63, 3) := by decide +kernel
theorem dX4_shift_138 : decode cX4_shift 138 = .ok (.getfield 271, 3) := by decide +kernel
theorem dX4_shift_141 : decode cX4_shift 141 = .ok (.iadd, 1) := by decide +kernel
theorem dX4_shift_142 : decode cX4_shift 142 = .ok (.putfield 271, 3) := by decide +kernel
theorem dX4_shift_145 : decode cX4_shift 145 = .ok (.aload 4, 2) := by decide +kernel
theorem dX4_shift_147 : decode cX4_shift 147 = .ok (.dup, 1) := by decide +kernel
theorem dX4_shift_148 : decode cX4_shift 148 = .ok (.getfield 274, 3) := by decide +kernel
theorem dX4_shift_151 : decode cX4_shift 151 = .ok (.aload_n 3, 1) := by decide +kernel
theorem dX4_shift_152 : decode cX4_shift 152 = .ok (.getfield 133, 3) := by decide +kernel
theorem dX4_shift_155 : decode cX4_shift 155 = .ok (.getfield 63, 3) := by decide +kernel
theorem dX4_shift_158 : decode cX4_shift 158 = .ok (.getfield 274, 3) := by decide +kernel
theorem dX4_shift_161 : decode cX4_shift 161 = .ok (.aload_n 3, 1) := by decide +kernel
theorem dX4_shift_162 : decode cX4_shift 162 = .ok (.getfield 133, 3) := by decide +kernel
theorem dX4_shift_165 : decode cX4_shift 165 = .ok (.getfield 63, 3) := by decide +kernel
theorem dX4_shift_168 : decode cX4_shift 168 = .ok (.getfield 280, 3) := by decide +kernel
theorem dX4_shift_171 : decode cX4_shift 171 = .ok (.isub, 1) := by decide +kernel
theorem dX4_shift_172 : decode cX4_shift 172 = .ok (.iadd, 1) := by decide +kernel
theorem dX4_shift_173 : decode cX4_shift 173 = .ok (.putfield 274, 3) := by decide +kernel
theorem dX4_shift_176 : decode cX4_shift 176 = .ok (.iinc 2 1, 3) := by decide +kernel
theorem dX4_shift_179 : decode cX4_shift 179 = .ok (.goto (-177), 3) := by decide +kernel
theorem dX4_shift_182 : decode cX4_shift 182 = .ok (.return_, 1) := by decide +kernel
theorem dX5_init_0 : decode cX5_init 0 = .ok (.aload_n 0, 1) := by decide +kernel
theorem dX5_init_1 : decode cX5_init 1 = .ok (.invokespecial 3, 3) := by decide +kernel
theorem dX5_init_4 : decode cX5_init 4 = .ok (.aload_n 0, 1) := by decide +kernel
theorem dX5_init_5 : decode cX5_init 5 = .ok (.iconst 3, 1) := by decide +kernel
theorem dX5_init_6 : decode cX5_init 6 = .ok (.newarray .int, 2) := by decide +kernel
theorem dX5_init_8 : decode cX5_init 8 = .ok (.putfield 9, 3) := by decide +kernel
theorem dX5_init_11 : decode cX5_init 11 = .ok (.aload_n 0, 1) := by decide +kernel
theorem dX5_init_12 : decode cX5_init 12 = .ok (.iconst 3, 1) := by decide +kernel
theorem dX5_init_13 : decode cX5_init 13 = .ok (.newarray .int, 2) := by decide +kernel
theorem dX5_init_15 : decode cX5_init 15 = .ok (.putfield 15, 3) := by decide +kernel
theorem dX5_init_18 : decode cX5_init 18 = .ok (.aload_n 0, 1) := by decide +kernel
theorem dX5_init_19 : decode cX5_init 19 = .ok (.iconst 3, 1) := by decide +kernel
theorem dX5_init_20 : decode cX5_init 20 = .ok (.newarray .int, 2) := by decide +kernel
theorem dX5_init_22 : decode cX5_init 22 = .ok (.putfield 18, 3) := by decide +kernel
theorem dX5_init_25 : decode cX5_init 25 = .ok (.aload_n 0, 1) := by decide +kernel
theorem dX5_init_26 : decode cX5_init 26 = .ok (.iconst 3, 1) := by decide +kernel
theorem dX5_init_27 : decode cX5_init 27 = .ok (.newarray .boolean, 2) := by decide +kernel
theorem dX5_init_29 : decode cX5_init 29 = .ok (.putfield 21, 3) := by decide +kernel
theorem dX5_init_32 : decode cX5_init 32 = .ok (.aload_n 0, 1) := by decide +kernel
theorem dX5_init_33 : decode cX5_init 33 = .ok (.iconst 0, 1) := by decide +kernel
theorem dX5_init_34 : decode cX5_init 34 = .ok (.putfield 25, 3) := by decide +kernel
theorem dX5_init_37 : decode cX5_init 37 = .ok (.aload_n 0, 1) := by decide +kernel
theorem dX5_init_38 : decode cX5_init 38 = .ok (.iconst 0, 1) := by decide +kernel
theorem dX5_init_39 : decode cX5_init 39 = .ok (.putfield 29, 3) := by decide +kernel
theorem dX5_init_42 : decode cX5_init 42 = .ok (.aload_n 0, 1) := by decide +kernel
theorem dX5_init_43 : decode cX5_init 43 = .ok (.iconst 1, 1) := by decide +kernel
theorem dX5_init_44 : decode cX5_init 44 = .ok (.putfield 32, 3) := by decide +kernel
theorem dX5_init_47 : decode cX5_init 47 = .ok (.aload_n 0, 1) := by decide +kernel
theorem dX5_init_48 : decode cX5_init 48 = .ok (.iload_n 1, 1) := by decide +kernel
theorem dX5_init_49 : decode cX5_init 49 = .ok (.putfield 36, 3) := by decide +kernel
theorem dX5_init_52 : decode cX5_init 52 = .ok (.aload_n 0, 1) := by decide +kernel
theorem dX5_init_53 : decode cX5_init 53 = .ok (.iload_n 2, 1) := by decide +kernel
theorem dX5_init_54 : decode cX5_init 54 = .ok (.putfield 39, 3) := by decide +kernel
theorem dX5_init_57 : decode cX5_init 57 = .ok (.aload_n 0, 1) := by decide +kernel
theorem dX5_init_58 : decode cX5_init 58 = .ok (.iload_n 3, 1) := by decide +kernel
theorem dX5_init_59 : decode cX5_init 59 = .ok (.putfield 42, 3) := by decide +kernel
theorem dX5_init_62 : decode cX5_init 62 = .ok (.return_, 1) := by decide +kernel
theorem dX5_takePart_0 : decode cX5_takePart 0 = .ok (.aload_n 0, 1) := by decide +kernel
theorem dX5_takePart_1 : decode cX5_takePart 1 = .ok (.getfield 25, 3) := by decide +kernel
theorem dX5_takePart_4 : decode cX5_takePart 4 = .ok (.ifCond .lt 11, 3) := by decide +kernel
theorem dX5_takePart_7 : decode cX5_takePart 7 = .ok (.aload_n 0, 1) := by decide +kernel
theorem dX5_takePart_8 : decode cX5_takePart 8 = .ok (.getfield 25, 3) := by decide +kernel
theorem dX5_takePart_11 : decode cX5_takePart 11 = .ok (.iconst 3, 1) := by decide +kernel
theorem dX5_takePart_12 : decode cX5_takePart 12 = .ok (.if_icmp .lt 4, 3) := by decide +kernel
theorem dX5_takePart_15 : decode cX5_takePart 15 = .ok (.return_, 1) := by decide +kernel
theorem dX5_takePart_16 : decode cX5_takePart 16 = .ok (.aload_n 0, 1) := by decide +kernel
theorem dX5_takePart_17 : decode cX5_takePart 17 = .ok (.getfield 9, 3) := by decide +kernel
theorem dX5_takePart_20 : decode cX5_takePart 20 = .ok (.aload_n 0, 1) := by decide +kernel
theorem dX5_takePart_21 : decode cX5_takePart 21 = .ok (.getfield 25, 3) := by decide +kernel
theorem dX5_takePart_24 : decode cX5_takePart 24 = .ok (.iload_n 1, 1) := by decide +kernel
theorem dX5_takePart_25 : decode cX5_takePart 25 = .ok (.iastore, 1) := by decide +kernel
theorem dX5_takePart_26 : decode cX5_takePart 26 = .ok (.aload_n 0, 1) := by decide +kernel
theorem dX5_takePart_27 : decode cX5_takePart 27 = .ok (.getfield 15, 3) := by decide +kernel
theorem dX5_takePart_30 : decode cX5_takePart 30 = .ok (.aload_n 0, 1) := by decide +kernel
theorem dX5_takePart_31 : decode cX5_takePart 31 = .ok (.getfield 25, 3) := by decide +kernel
theorem dX5_takePart_34 : decode cX5_takePart 34 = .ok (.iload_n 2, 1) := by decide +kernel
theorem dX5_takePart_35 : decode cX5_takePart 35 = .ok (.ifCond .lt 15, 3) := by decide +kernel
theorem dX5_takePart_38 : decode cX5_takePart 38 = .ok (.iload_n 2, 1) := by decide +kernel
theorem dX5_takePart_39 : decode cX5_takePart 39 = .ok (.bipush 7, 2) := by decide +kernel
theorem dX5_takePart_41 : decode cX5_takePart 41 = .ok (.if_icmp .gt 9, 3) := by decide +kernel
theorem dX5_takePart_44 : decode cX5_takePart 44 = .ok (.iconst 1, 1) := by decide +kernel
theorem dX5_takePart_45 : decode cX5_takePart 45 = .ok (.iload_n 2, 1) := by decide +kernel
theorem dX5_takePart_46 : decode cX5_takePart 46 = .ok (.ishl, 1) := by decide +kernel
theorem dX5_takePart_47 : decode cX5_takePart 47 = .ok (.goto 4, 3) := by decide +kernel
theorem dX5_takePart_50 : decode cX5_takePart 50 = .ok (.iconst 0, 1) := by decide +kernel
theorem dX5_takePart_51 : decode cX5_takePart 51 = .ok (.iastore, 1) := by decide +kernel
theorem dX5_takePart_52 : decode cX5_takePart 52 = .ok (.aload_n 0, 1) := by decide +kernel
theorem dX5_takePart_53 : decode cX5_takePart 53 = .ok (.getfield 18, 3) := by decide +kernel
theorem dX5_takePart_56 : decode cX5_takePart 56 = .ok (.aload_n 0, 1) := by decide +kernel
theorem dX5_takePart_57 : decode cX5_takePart 57 = .ok (.getfield 25, 3) := by decide +kernel
theorem dX5_takePart_60 : decode cX5_takePart 60 = .ok (.iload_n 3, 1) := by decide +kernel
theorem dX5_takePart_61 : decode cX5_takePart 61 = .ok (.iastore, 1) := by decide +kernel
theorem dX5_takePart_62 : decode cX5_takePart 62 = .ok (.aload_n 0, 1) := by decide +kernel
theorem dX5_takePart_63 : decode cX5_takePart 63 = .ok (.getfield 21, 3) := by decide +kernel
theorem dX5_takePart_66 : decode cX5_takePart 66 = .ok (.aload_n 0, 1) := by decide +kernel
theorem dX5_takePart_67 : decode cX5_takePart 67 = .ok (.getfield 25, 3) := by decide +kernel
theorem dX5_takePart_70 : decode cX5_takePart 70 = .ok (.iload 4, 2) := by decide +kernel
theorem dX5_takePart_72 : decode cX5_takePart 72 = .ok (.bastore, 1) := by decide +kernel
theorem dX5_takePart_73 : decode cX5_takePart 73 = .ok (.aload_n 0, 1) := by decide +kernel
theorem dX5_takePart_74 : decode cX5_takePart 74 = .ok (.dup, 1) := by decide +kernel
theorem dX5_takePart_75 : decode cX5_takePart 75 = .ok (.getfield 25, 3) := by decide +kernel
theorem dX5_takePart_78 : decode cX5_takePart 78 = .ok (.iconst 1, 1) := by decide +kernel
theorem dX5_takePart_79 : decode cX5_takePart 79 = .ok (.iadd, 1) := by decide +kernel
theorem dX5_takePart_80 : decode cX5_takePart 80 = .ok (.putfield 25, 3) := by decide +kernel
theorem dX5_takePart_83 : decode cX5_takePart 83 = .ok (.aload_n 0, 1) := by decide +kernel
theorem dX5_takePart_84 : decode cX5_takePart 84 = .ok (.dup, 1) := by decide +kernel
theorem dX5_takePart_85 : decode cX5_takePart 85 = .ok (.getfield 29, 3) := by decide +kernel
theorem dX5_takePart_88 : decode cX5_takePart 88 = .ok (.iload_n 3, 1) := by decide +kernel
theorem dX5_takePart_89 : decode cX5_takePart 89 = .ok (.ifCond .eq 8, 3) := by decide +kernel
theorem dX5_takePart_92 : decode cX5_takePart 92 = .ok (.bipush 100, 2) := by decide +kernel
theorem dX5_takePart_94 : decode cX5_takePart 94 = .ok (.goto 4, 3) := by decide +kernel
theorem dX5_takePart_97 : decode cX5_takePart 97 = .ok (.iconst 0, 1) := by decide +kernel
theorem dX5_takePart_98 : decode cX5_takePart 98 = .ok (.iload_n 2, 1) := by decide +kernel
theorem dX5_takePart_99 : decode cX5_takePart 99 = .ok (.iconst (-1), 1) := by decide +kernel
theorem dX5_takePart_100 : decode cX5_takePart 100 = .ok (.if_icmp .eq 8, 3) := by decide +kernel
theorem dX5_takePart_103 : decode cX5_takePart 103 = .ok (.bipush 10, 2) := by decide +kernel
theorem dX5_takePart_105 : decode cX5_takePart 105 = .ok (.goto 4, 3) := by decide +kernel
theorem dX5_takePart_108 : decode cX5_takePart 108 = .ok (.iconst 0, 1) := by decide +kernel
theorem dX5_takePart_109 : decode cX5_takePart 109 = .ok (.iadd, 1) := by decide +kernel
theorem dX5_takePart_110 : decode cX5_takePart 110 = .ok (.iload_n 1, 1) := by decide +kernel
theorem dX5_takePart_111 : decode cX5_takePart 111 = .ok (.iconst (-1), 1) := by decide +kernel
theorem dX5_takePart_112 : decode cX5_takePart 112 = .ok (.if_icmp .eq 7, 3) := by decide +kernel
theorem dX5_takePart_115 : decode cX5_takePart 115 = .ok (.iconst 1, 1) := by decide +kernel
theorem dX5_takePart_116 : decode cX5_takePart 116 = .ok (.goto 4, 3) := by decide +kernel
theorem dX5_takePart_119 : decode cX5_takePart 119 = .ok (.iconst 0, 1) := by decide +kernel
theorem dX5_takePart_120 : decode cX5_takePart 120 = .ok (.iadd, 1) := by decide +kernel
theorem dX5_takePart_121 : decode cX5_takePart 121 = .ok (.iadd, 1) := by decide +kernel
theorem dX5_takePart_122 : decode cX5_takePart 122 = .ok (.putfield 29, 3) := by decide +kernel
theorem dX5_takePart_125 : decode cX5_takePart 125 = .ok (.return_, 1) := by decide +kernel
theorem dX5_selects_0 : decode cX5_selects 0 = .ok (.aload_n 1, 1) := by decide +kernel
theorem dX5_selects_1 : decode cX5_selects 1 = .ok (.getfield 45, 3) := by decide +kernel
theorem dX5_selects_4 : decode cX5_selects 4 = .ok (.ifCond .ne 28, 3) := by decide +kernel
theorem dX5_selects_7 : decode cX5_selects 7 = .ok (.aload_n 0, 1) := by decide +kernel
theorem dX5_selects_8 : decode cX5_selects 8 = .ok (.getfield 25, 3) := by decide +kernel
theorem dX5_selects_11 : decode cX5_selects 11 = .ok (.ifCond .le 21, 3) := by decide +kernel
theorem dX5_selects_14 : decode cX5_selects 14 = .ok (.aload_n 0, 1) := by decide +kernel
theorem dX5_selects_15 : decode cX5_selects 15 = .ok (.aload_n 0, 1) := by decide +kernel
theorem dX5_selects_16 : decode cX5_selects 16 = .ok (.getfield 25, 3) := by decide +kernel
theorem dX5_selects_19 : decode cX5_selects 19 = .ok (.iconst 1, 1) := by decide +kernel
theorem dX5_selects_20 : decode cX5_selects 20 = .ok (.isub, 1) := by decide +kernel
theorem dX5_selects_21 : decode cX5_selects 21 = .ok (.aload_n 1, 1) := by decide +kernel
theorem dX5_selects_22 : decode cX5_selects 22 = .ok (.invokestatic 50, 3) := by decide +kernel
theorem dX5_selects_25 : decode cX5_selects 25 = .ok (.ifCond .eq 7, 3) := by decide +kernel
theorem dX5_selects_28 : decode cX5_selects 28 = .ok (.iconst 1, 1) := by decide +kernel
theorem dX5_selects_29 : decode cX5_selects 29 = .ok (.goto 4, 3) := by decide +kernel
theorem dX5_selects_32 : decode cX5_selects 32 = .ok (.iconst 0, 1) := by decide +kernel
theorem dX5_selects_33 : decode cX5_selects 33 = .ok (.ireturn, 1) := by decide +kernel
theorem dX5_fitsUpTo_0 : decode cX5_fitsUpTo 0 = .ok (.aload_n 0, 1) := by decide +kernel
theorem dX5_fitsUpTo_1 : decode cX5_fitsUpTo 1 = .ok (.iload_n 1, 1) := by decide +kernel
theorem dX5_fitsUpTo_2 : decode cX5_fitsUpTo 2 = .ok (.aload_n 2, 1) := by decide +kernel
theorem dX5_fitsUpTo_3 : decode cX5_fitsUpTo 3 = .ok (.invokevirtual 54, 3) := by decide +kernel
theorem dX5_fitsUpTo_6 : decode cX5_fitsUpTo 6 = .ok (.ifCond .ne 5, 3) := by decide +kernel
theorem dX5_fitsUpTo_9 : decode cX5_fitsUpTo 9 = .ok (.iconst 0, 1) := by decide +kernel
theorem dX5_fitsUpTo_10 : decode cX5_fitsUpTo 10 = .ok (.ireturn, 1) := by decide +kernel
theorem dX5_fitsUpTo_11 : decode cX5_fitsUpTo 11 = .ok (.iload_n 1, 1) := by decide +kernel
theorem dX5_fitsUpTo_12 : decode cX5_fitsUpTo 12 = .ok (.ifCond .ne 5, 3) := by decide +kernel
theorem dX5_fitsUpTo_15 : decode cX5_fitsUpTo 15 = .ok (.iconst 1, 1) := by decide +kernel
theorem dX5_fitsUpTo_16 : decode cX5_fitsUpTo 16 = .ok (.ireturn, 1) := by decide +kernel
theorem dX5_fitsUpTo_17 : decode cX5_fitsUpTo 17 = .ok (.aload_n 2, 1) := by decide +kernel
theorem dX5_fitsUpTo_18 : decode cX5_fitsUpTo 18 = .ok (.getfield 58, 3) := by decide +kernel
theorem dX5_fitsUpTo_21 : decode cX5_fitsUpTo 21 = .ok (.astore_n 3, 1) := by decide +kernel
theorem dX5_fitsUpTo_22 : decode cX5_fitsUpTo 22 = .ok (.aload_n 3, 1) := by decide +kernel
theorem dX5_fitsUpTo_23 : decode cX5_fitsUpTo 23 = .ok (.ifnull 35, 3) := by decide +kernel
theorem dX5_fitsUpTo_26 : decode cX5_fitsUpTo 26 = .ok (.aload_n 0, 1) := by decide +kernel
theorem dX5_fitsUpTo_27 : decode cX5_fitsUpTo 27 = .ok (.iload_n 1, 1) := by decide +kernel
theorem dX5_fitsUpTo_28 : decode cX5_fitsUpTo 28 = .ok (.iconst 1, 1) := by decide +kernel
theorem dX5_fitsUpTo_29 : decode cX5_fitsUpTo 29 = .ok (.isub, 1) := by decide +kernel
theorem dX5_fitsUpTo_30 : decode cX5_fitsUpTo 30 = .ok (.aload_n 3, 1) := by decide +kernel
theorem dX5_fitsUpTo_31 : decode cX5_fitsUpTo 31 = .ok (.invokestatic 50, 3) := by decide +kernel
theorem dX5_fitsUpTo_34 : decode cX5_fitsUpTo 34 = .ok (.ifCond .eq 5, 3) := by decide +kernel
theorem dX5_fitsUpTo_37 : decode cX5_fitsUpTo 37 = .ok (.iconst 1, 1) := by decide +kernel
theorem dX5_fitsUpTo_38 : decode cX5_fitsUpTo 38 = .ok (.ireturn, 1) := by decide +kernel
theorem dX5_fitsUpTo_39 : decode cX5_fitsUpTo 39 = .ok (.aload_n 0, 1) := by decide +kernel
theorem dX5_fitsUpTo_40 : decode cX5_fitsUpTo 40 = .ok (.getfield 21, 3) := by decide +kernel
theorem dX5_fitsUpTo_43 : decode cX5_fitsUpTo 43 = .ok (.iload_n 1, 1) := by decide +kernel
theorem dX5_fitsUpTo_44 : decode cX5_fitsUpTo 44 = .ok (.baload, 1) := by decide +kernel
theorem dX5_fitsUpTo_45 : decode cX5_fitsUpTo 45 = .ok (.ifCond .eq 5, 3) := by decide +kernel
theorem dX5_fitsUpTo_48 : decode cX5_fitsUpTo 48 = .ok (.iconst 0, 1) := by decide +kernel
theorem dX5_fitsUpTo_49 : decode cX5_fitsUpTo 49 = .ok (.ireturn, 1) := by decide +kernel
theorem dX5_fitsUpTo_50 : decode cX5_fitsUpTo 50 = .ok (.aload_n 3, 1) := by decide +kernel
theorem dX5_fitsUpTo_51 : decode cX5_fitsUpTo 51 = .ok (.getfield 58, 3) := by decide +kernel
theorem dX5_fitsUpTo_54 : decode cX5_fitsUpTo 54 = .ok (.astore_n 3, 1) := by decide +kernel
theorem dX5_fitsUpTo_55 : decode cX5_fitsUpTo 55 = .ok (.goto (-33), 3) := by decide +kernel
theorem dX5_fitsUpTo_58 : decode cX5_fitsUpTo 58 = .ok (.iconst 0, 1) := by decide +kernel
theorem dX5_fitsUpTo_59 : decode cX5_fitsUpTo 59 = .ok (.ireturn, 1) := by decide +kernel
theorem dX5_fits_0 : decode cX5_fits 0 = .ok (.iload_n 1, 1) := by decide +kernel
theorem dX5_fits_1 : decode cX5_fits 1 = .ok (.ifCond .lt 16, 3) := by decide +kernel
theorem dX5_fits_4 : decode cX5_fits 4 = .ok (.iload_n 1, 1) := by decide +kernel
theorem dX5_fits_5 : decode cX5_fits 5 = .ok (.aload_n 0, 1) := by decide +kernel
theorem dX5_fits_6 : decode cX5_fits 6 = .ok (.getfield 25, 3) := by decide +kernel
theorem dX5_fits_9 : decode cX5_fits 9 = .ok (.if_icmp .ge 8, 3) := by decide +kernel
theorem dX5_fits_12 : decode cX5_fits 12 = .ok (.iload_n 1, 1) := by decide +kernel
theorem dX5_fits_13 : decode cX5_fits 13 = .ok (.iconst 3, 1) := by decide +kernel
theorem dX5_fits_14 : decode cX5_fits 14 = .ok (.if_icmp .lt 5, 3) := by decide +kernel
theorem dX5_fits_17 : decode cX5_fits 17 = .ok (.iconst 0, 1) := by decide +kernel
theorem dX5_fits_18 : decode cX5_fits 18 = .ok (.ireturn, 1) := by decide +kernel
theorem dX5_fits_19 : decode cX5_fits 19 = .ok (.aload_n 0, 1) := by decide +kernel
theorem dX5_fits_20 : decode cX5_fits 20 = .ok (.getfield 9, 3) := by decide +kernel
theorem dX5_fits_23 : decode cX5_fits 23 = .ok (.iload_n 1, 1) := by decide +kernel
theorem dX5_fits_24 : decode cX5_fits 24 = .ok (.iaload, 1) := by decide +kernel
theorem dX5_fits_25 : decode cX5_fits 25 = .ok (.iconst (-1), 1) := by decide +kernel
theorem dX5_fits_26 : decode cX5_fits 26 = .ok (.if_icmp .eq 16, 3) := by decide +kernel
theorem dX5_fits_29 : decode cX5_fits 29 = .ok (.aload_n 0, 1) := by decide +kernel
theorem dX5_fits_30 : decode cX5_fits 30 = .ok (.getfield 9, 3) := by decide +kernel
theorem dX5_fits_33 : decode cX5_fits 33 = .ok (.iload_n 1, 1) := by decide +kernel
theorem dX5_fits_34 : decode cX5_fits 34 = .ok (.iaload, 1) := by decide +kernel
theorem dX5_fits_35 : decode cX5_fits 35 = .ok (.aload_n 2, 1) := by decide +kernel
theorem dX5_fits_36 : decode cX5_fits 36 = .ok (.getfield 62, 3) := by decide +kernel
theorem dX5_fits_39 : decode cX5_fits 39 = .ok (.if_icmp .ne 7, 3) := by decide +kernel
theorem dX5_fits_42 : decode cX5_fits 42 = .ok (.iconst 1, 1) := by decide +kernel
theorem dX5_fits_43 : decode cX5_fits 43 = .ok (.goto 4, 3) := by decide +kernel
theorem dX5_fits_46 : decode cX5_fits 46 = .ok (.iconst 0, 1) := by decide +kernel
theorem dX5_fits_47 : decode cX5_fits 47 = .ok (.istore_n 3, 1) := by decide +kernel
theorem dX5_fits_48 : decode cX5_fits 48 = .ok (.aload_n 2, 1) := by decide +kernel
theorem dX5_fits_49 : decode cX5_fits 49 = .ok (.getfield 65, 3) := by decide +kernel
theorem dX5_fits_52 : decode cX5_fits 52 = .ok (.aload_n 0, 1) := by decide +kernel
theorem dX5_fits_53 : decode cX5_fits 53 = .ok (.getfield 15, 3) := by decide +kernel
theorem dX5_fits_56 : decode cX5_fits 56 = .ok (.iload_n 1, 1) := by decide +kernel
theorem dX5_fits_57 : decode cX5_fits 57 = .ok (.iaload, 1) := by decide +kernel
theorem dX5_fits_58 : decode cX5_fits 58 = .ok (.iand, 1) := by decide +kernel
theorem dX5_fits_59 : decode cX5_fits 59 = .ok (.aload_n 0, 1) := by decide +kernel
theorem dX5_fits_60 : decode cX5_fits 60 = .ok (.getfield 15, 3) := by decide +kernel
theorem dX5_fits_63 : decode cX5_fits 63 = .ok (.iload_n 1, 1) := by decide +kernel
theorem dX5_fits_64 : decode cX5_fits 64 = .ok (.iaload, 1) := by decide +kernel
theorem dX5_fits_65 : decode cX5_fits 65 = .ok (.if_icmp .ne 7, 3) := by decide +kernel
theorem dX5_fits_68 : decode cX5_fits 68 = .ok (.iconst 1, 1) := by decide +kernel
theorem dX5_fits_69 : decode cX5_fits 69 = .ok (.goto 4, 3) := by decide +kernel
theorem dX5_fits_72 : decode cX5_fits 72 = .ok (.iconst 0, 1) := by decide +kernel
theorem dX5_fits_73 : decode cX5_fits 73 = .ok (.istore 4, 2) := by decide +kernel
theorem dX5_fits_75 : decode cX5_fits 75 = .ok (.aload_n 0, 1) := by decide +kernel
theorem dX5_fits_76 : decode cX5_fits 76 = .ok (.getfield 18, 3) := by decide +kernel
theorem dX5_fits_79 : decode cX5_fits 79 = .ok (.iload_n 1, 1) := by decide +kernel
theorem dX5_fits_80 : decode cX5_fits 80 = .ok (.iaload, 1) := by decide +kernel
theorem dX5_fits_81 : decode cX5_fits 81 = .ok (.ifCond .eq 16, 3) := by decide +kernel
theorem dX5_fits_84 : decode cX5_fits 84 = .ok (.aload_n 0, 1) := by decide +kernel
theorem dX5_fits_85 : decode cX5_fits 85 = .ok (.getfield 18, 3) := by decide +kernel
theorem dX5_fits_88 : decode cX5_fits 88 = .ok (.iload_n 1, 1) := by decide +kernel
theorem dX5_fits_89 : decode cX5_fits 89 = .ok (.iaload, 1) := by decide +kernel
theorem dX5_fits_90 : decode cX5_fits 90 = .ok (.aload_n 2, 1) := by decide +kernel
theorem dX5_fits_91 : decode cX5_fits 91 = .ok (.getfield 68, 3) := by decide +kernel
theorem dX5_fits_94 : decode cX5_fits 94 = .ok (.if_icmp .ne 7, 3) := by decide +kernel
theorem dX5_fits_97 : decode cX5_fits 97 = .ok (.iconst 1, 1) := by decide +kernel
theorem dX5_fits_98 : decode cX5_fits 98 = .ok (.goto 4, 3) := by decide +kernel
theorem dX5_fits_101 : decode cX5_fits 101 = .ok (.iconst 0, 1) := by decide +kernel
theorem dX5_fits_102 : decode cX5_fits 102 = .ok (.istore 5, 2) := by decide +kernel
theorem dX5_fits_104 : decode cX5_fits 104 = .ok (.iload_n 3, 1) := by decide +kernel
theorem dX5_fits_105 : decode cX5_fits 105 = .ok (.ifCond .eq 17, 3) := by decide +kernel
theorem dX5_fits_108 : decode cX5_fits 108 = .ok (.iload 4, 2) := by decide +kernel
theorem dX5_fits_110 : decode cX5_fits 110 = .ok (.ifCond .eq 12, 3) := by decide +kernel
theorem dX5_fits_113 : decode cX5_fits 113 = .ok (.iload 5, 2) := by decide +kernel
theorem dX5_fits_115 : decode cX5_fits 115 = .ok (.ifCond .eq 7, 3) := by decide +kernel
theorem dX5_fits_118 : decode cX5_fits 118 = .ok (.iconst 1, 1) := by decide +kernel
theorem dX5_fits_119 : decode cX5_fits 119 = .ok (.goto 4, 3) := by decide +kernel
theorem dX5_fits_122 : decode cX5_fits 122 = .ok (.iconst 0, 1) := by decide +kernel
theorem dX5_fits_123 : decode cX5_fits 123 = .ok (.ireturn, 1) := by decide +kernel
theorem dX6_init_0 : decode cX6_init 0 = .ok (.aload_n 0, 1) := by decide +kernel
theorem dX6_init_1 : decode cX6_init 1 = .ok (.invokespecial 3, 3) := by decide +kernel
theorem dX6_init_4 : decode cX6_init 4 = .ok (.aload_n 0, 1) := by decide +kernel
theorem dX6_init_5 : decode cX6_init 5 = .ok (.bipush 40, 2) := by decide +kernel
theorem dX6_init_7 : decode cX6_init 7 = .ok (.bipush 14, 2) := by decide +kernel
theorem dX6_init_9 : decode cX6_init 9 = .ok (.multianewarray 9 2, 4) := by decide +kernel
theorem dX6_init_13 : decode cX6_init 13 = .ok (.putfield 11, 3) := by decide +kernel
theorem dX6_init_16 : decode cX6_init 16 = .ok (.aload_n 0, 1) := by decide +kernel
theorem dX6_init_17 : decode cX6_init 17 = .ok (.bipush 40, 2) := by decide +kernel
theorem dX6_init_19 : decode cX6_init 19 = .ok (.bipush 14, 2) := by decide +kernel
theorem dX6_init_21 : decode cX6_init 21 = .ok (.multianewarray 9 2, 4) := by decide +kernel
theorem dX6_init_25 : decode cX6_init 25 = .ok (.putfield 16, 3) := by decide +kernel
theorem dX6_init_28 : decode cX6_init 28 = .ok (.aload_n 0, 1) := by decide +kernel
theorem dX6_init_29 : decode cX6_init 29 = .ok (.iconst 0, 1) := by decide +kernel
theorem dX6_init_30 : decode cX6_init 30 = .ok (.putfield 19, 3) := by decide +kernel
theorem dX6_init_33 : decode cX6_init 33 = .ok (.return_, 1) := by decide +kernel
theorem dX6_of_0 : decode cX6_of 0 = .ok (.aload_n 1, 1) := by decide +kernel
theorem dX6_of_1 : decode cX6_of 1 = .ok (.getfield 23, 3) := by decide +kernel
theorem dX6_of_4 : decode cX6_of 4 = .ok (.istore_n 3, 1) := by decide +kernel
theorem dX6_of_5 : decode cX6_of 5 = .ok (.iload_n 3, 1) := by decide +kernel
theorem dX6_of_6 : decode cX6_of 6 = .ok (.ifCond .lt 23, 3) := by decide +kernel
theorem dX6_of_9 : decode cX6_of 9 = .ok (.iload_n 3, 1) := by decide +kernel
theorem dX6_of_10 : decode cX6_of 10 = .ok (.bipush 40, 2) := by decide +kernel
theorem dX6_of_12 : decode cX6_of 12 = .ok (.if_icmp .ge 17, 3) := by decide +kernel
theorem dX6_of_15 : decode cX6_of 15 = .ok (.iload_n 2, 1) := by decide +kernel
theorem dX6_of_16 : decode cX6_of 16 = .ok (.ifCond .lt 13, 3) := by decide +kernel
theorem dX6_of_19 : decode cX6_of 19 = .ok (.iload_n 2, 1) := by decide +kernel
theorem dX6_of_20 : decode cX6_of 20 = .ok (.bipush 14, 2) := by decide +kernel
theorem dX6_of_22 : decode cX6_of 22 = .ok (.if_icmp .ge 7, 3) := by decide +kernel
theorem dX6_of_25 : decode cX6_of 25 = .ok (.iconst 1, 1) := by decide +kernel
theorem dX6_of_26 : decode cX6_of 26 = .ok (.goto 4, 3) := by decide +kernel
theorem dX6_of_29 : decode cX6_of 29 = .ok (.iconst 0, 1) := by decide +kernel
theorem dX6_of_30 : decode cX6_of 30 = .ok (.istore 4, 2) := by decide +kernel
theorem dX6_of_32 : decode cX6_of 32 = .ok (.iload 4, 2) := by decide +kernel
theorem dX6_of_34 : decode cX6_of 34 = .ok (.ifCond .eq 14, 3) := by decide +kernel
theorem dX6_of_37 : decode cX6_of 37 = .ok (.aload_n 0, 1) := by decide +kernel
theorem dX6_of_38 : decode cX6_of 38 = .ok (.getfield 11, 3) := by decide +kernel
theorem dX6_of_41 : decode cX6_of 41 = .ok (.iload_n 3, 1) := by decide +kernel
theorem dX6_of_42 : decode cX6_of 42 = .ok (.aaload, 1) := by decide +kernel
theorem dX6_of_43 : decode cX6_of 43 = .ok (.iload_n 2, 1) := by decide +kernel
theorem dX6_of_44 : decode cX6_of 44 = .ok (.iaload, 1) := by decide +kernel
theorem dX6_of_45 : decode cX6_of 45 = .ok (.goto 4, 3) := by decide +kernel
theorem dX6_of_48 : decode cX6_of 48 = .ok (.iconst 0, 1) := by decide +kernel
theorem dX6_of_49 : decode cX6_of 49 = .ok (.ireturn, 1) := by decide +kernel
theorem dX6_reasonOf_0 : decode cX6_reasonOf 0 = .ok (.aload_n 1, 1) := by decide +kernel
theorem dX6_reasonOf_1 : decode cX6_reasonOf 1 = .ok (.iload_n 2, 1) := by decide +kernel
theorem dX6_reasonOf_2 : decode cX6_reasonOf 2 = .ok (.invokestatic 29, 3) := by decide +kernel
theorem dX6_reasonOf_5 : decode cX6_reasonOf 5 = .ok (.ifCond .eq 17, 3) := by decide +kernel
theorem dX6_reasonOf_8 : decode cX6_reasonOf 8 = .ok (.aload_n 0, 1) := by decide +kernel
theorem dX6_reasonOf_9 : decode cX6_reasonOf 9 = .ok (.getfield 16, 3) := by decide +kernel
theorem dX6_reasonOf_12 : decode cX6_reasonOf 12 = .ok (.aload_n 1, 1) := by decide +kernel
theorem dX6_reasonOf_13 : decode cX6_reasonOf 13 = .ok (.getfield 23, 3) := by decide +kernel
theorem dX6_reasonOf_16 : decode cX6_reasonOf 16 = .ok (.aaload, 1) := by decide +kernel
theorem dX6_reasonOf_17 : decode cX6_reasonOf 17 = .ok (.iload_n 2, 1) := by decide +kernel
theorem dX6_reasonOf_18 : decode cX6_reasonOf 18 = .ok (.iaload, 1) := by decide +kernel
theorem dX6_reasonOf_19 : decode cX6_reasonOf 19 = .ok (.goto 5, 3) := by decide +kernel
theorem dX6_reasonOf_22 : decode cX6_reasonOf 22 = .ok (.bipush (-3), 2) := by decide +kernel
theorem dX6_reasonOf_24 : decode cX6_reasonOf 24 = .ok (.ireturn, 1) := by decide +kernel
theorem dX6_differFor_0 : decode cX6_differFor 0 = .ok (.iconst 0, 1) := by decide +kernel
theorem dX6_differFor_1 : decode cX6_differFor 1 = .ok (.istore_n 3, 1) := by decide +kernel
theorem dX6_differFor_2 : decode cX6_differFor 2 = .ok (.iload_n 3, 1) := by decide +kernel
theorem dX6_differFor_3 : decode cX6_differFor 3 = .ok (.bipush 14, 2) := by decide +kernel
theorem dX6_differFor_5 : decode cX6_differFor 5 = .ok (.if_icmp .ge 26, 3) := by decide +kernel
theorem dX6_differFor_8 : decode cX6_differFor 8 = .ok (.aload_n 0, 1) := by decide +kernel
theorem dX6_differFor_9 : decode cX6_differFor 9 = .ok (.aload_n 1, 1) := by decide +kernel
theorem dX6_differFor_10 : decode cX6_differFor 10 = .ok (.iload_n 3, 1) := by decide +kernel
theorem dX6_differFor_11 : decode cX6_differFor 11 = .ok (.invokevirtual 33, 3) := by decide +kernel
theorem dX6_differFor_14 : decode cX6_differFor 14 = .ok (.aload_n 2, 1) := by decide +kernel
theorem dX6_differFor_15 : decode cX6_differFor 15 = .ok (.aload_n 1, 1) := by decide +kernel
theorem dX6_differFor_16 : decode cX6_differFor 16 = .ok (.iload_n 3, 1) := by decide +kernel
theorem dX6_differFor_17 : decode cX6_differFor 17 = .ok (.invokevirtual 33, 3) := by decide +kernel
theorem dX6_differFor_20 : decode cX6_differFor 20 = .ok (.if_icmp .eq 5, 3) := by decide +kernel
theorem dX6_differFor_23 : decode cX6_differFor 23 = .ok (.iconst 1, 1) := by decide +kernel
theorem dX6_differFor_24 : decode cX6_differFor 24 = .ok (.ireturn, 1) := by decide +kernel
theorem dX6_differFor_25 : decode cX6_differFor 25 = .ok (.iinc 3 1, 3) := by decide +kernel
theorem dX6_differFor_28 : decode cX6_differFor 28 = .ok (.goto (-26), 3) := by decide +kernel
theorem dX6_differFor_31 : decode cX6_differFor 31 = .ok (.iconst 0, 1) := by decide +kernel
theorem dX6_differFor_32 : decode cX6_differFor 32 = .ok (.ireturn, 1) := by decide +kernel
theorem dX6_workOut_0 : decode cX6_workOut 0 = .ok (.iconst 0, 1) := by decide +kernel
theorem dX6_workOut_1 : decode cX6_workOut 1 = .ok (.istore 4, 2) := by decide +kernel
theorem dX6_workOut_3 : decode cX6_workOut 3 = .ok (.iload 4, 2) := by decide +kernel
theorem dX6_workOut_5 : decode cX6_workOut 5 = .ok (.aload_n 1, 1) := by decide +kernel
theorem dX6_workOut_6 : decode cX6_workOut 6 = .ok (.invokevirtual 37, 3) := by decide +kernel
theorem dX6_workOut_9 : decode cX6_workOut 9 = .ok (.if_icmp .ge 62, 3) := by decide +kernel
theorem dX6_workOut_12 : decode cX6_workOut 12 = .ok (.aload_n 1, 1) := by decide +kernel
theorem dX6_workOut_13 : decode cX6_workOut 13 = .ok (.iload 4, 2) := by decide +kernel
theorem dX6_workOut_15 : decode cX6_workOut 15 = .ok (.invokevirtual 43, 3) := by decide +kernel
theorem dX6_workOut_18 : decode cX6_workOut 18 = .ok (.checkcast 24, 3) := by decide +kernel
theorem dX6_workOut_21 : decode cX6_workOut 21 = .ok (.astore 5, 2) := by decide +kernel
theorem dX6_workOut_23 : decode cX6_workOut 23 = .ok (.aload 5, 2) := by decide +kernel
theorem dX6_workOut_25 : decode cX6_workOut 25 = .ok (.iconst 0, 1) := by decide +kernel
theorem dX6_workOut_26 : decode cX6_workOut 26 = .ok (.invokestatic 29, 3) := by decide +kernel
theorem dX6_workOut_29 : decode cX6_workOut 29 = .ok (.ifCond .eq 36, 3) := by decide +kernel
theorem dX6_workOut_32 : decode cX6_workOut 32 = .ok (.aload_n 0, 1) := by decide +kernel
theorem dX6_workOut_33 : decode cX6_workOut 33 = .ok (.aload 5, 2) := by decide +kernel
theorem dX6_workOut_35 : decode cX6_workOut 35 = .ok (.aload_n 2, 1) := by decide +kernel
theorem dX6_workOut_36 : decode cX6_workOut 36 = .ok (.iload_n 3, 1) := by decide +kernel
theorem dX6_workOut_37 : decode cX6_workOut 37 = .ok (.invokevirtual 47, 3) := by decide +kernel
theorem dX6_workOut_40 : decode cX6_workOut 40 = .ok (.iconst 0, 1) := by decide +kernel
theorem dX6_workOut_41 : decode cX6_workOut 41 = .ok (.istore 6, 2) := by decide +kernel
theorem dX6_workOut_43 : decode cX6_workOut 43 = .ok (.iload 6, 2) := by decide +kernel
theorem dX6_workOut_45 : decode cX6_workOut 45 = .ok (.bipush 14, 2) := by decide +kernel
theorem dX6_workOut_47 : decode cX6_workOut 47 = .ok (.if_icmp .ge 18, 3) := by decide +kernel
theorem dX6_workOut_50 : decode cX6_workOut 50 = .ok (.aload_n 0, 1) := by decide +kernel
theorem dX6_workOut_51 : decode cX6_workOut 51 = .ok (.aload 5, 2) := by decide +kernel
theorem dX6_workOut_53 : decode cX6_workOut 53 = .ok (.iload 6, 2) := by decide +kernel
theorem dX6_workOut_55 : decode cX6_workOut 55 = .ok (.aload_n 2, 1) := by decide +kernel
theorem dX6_workOut_56 : decode cX6_workOut 56 = .ok (.invokevirtual 51, 3) := by decide +kernel
theorem dX6_workOut_59 : decode cX6_workOut 59 = .ok (.iinc 6 1, 3) := by decide +kernel
theorem dX6_workOut_62 : decode cX6_workOut 62 = .ok (.goto (-19), 3) := by decide +kernel
theorem dX6_workOut_65 : decode cX6_workOut 65 = .ok (.iinc 4 1, 3) := by decide +kernel
theorem dX6_workOut_68 : decode cX6_workOut 68 = .ok (.goto (-65), 3) := by decide +kernel
theorem dX6_workOut_71 : decode cX6_workOut 71 = .ok (.aload_n 0, 1) := by decide +kernel
theorem dX6_workOut_72 : decode cX6_workOut 72 = .ok (.iconst 1, 1) := by decide +kernel
theorem dX6_workOut_73 : decode cX6_workOut 73 = .ok (.putfield 19, 3) := by decide +kernel
theorem dX6_workOut_76 : decode cX6_workOut 76 = .ok (.return_, 1) := by decide +kernel
theorem dX6_isKept_0 : decode cX6_isKept 0 = .ok (.aload_n 0, 1) := by decide +kernel
theorem dX6_isKept_1 : decode cX6_isKept 1 = .ok (.getfield 23, 3) := by decide +kernel
theorem dX6_isKept_4 : decode cX6_isKept 4 = .ok (.ifCond .lt 23, 3) := by decide +kernel
theorem dX6_isKept_7 : decode cX6_isKept 7 = .ok (.aload_n 0, 1) := by decide +kernel
theorem dX6_isKept_8 : decode cX6_isKept 8 = .ok (.getfield 23, 3) := by decide +kernel
theorem dX6_isKept_11 : decode cX6_isKept 11 = .ok (.bipush 40, 2) := by decide +kernel
theorem dX6_isKept_13 : decode cX6_isKept 13 = .ok (.if_icmp .ge 14, 3) := by decide +kernel
theorem dX6_isKept_16 : decode cX6_isKept 16 = .ok (.iload_n 1, 1) := by decide +kernel
theorem dX6_isKept_17 : decode cX6_isKept 17 = .ok (.invokestatic 55, 3) := by decide +kernel
theorem dX6_isKept_20 : decode cX6_isKept 20 = .ok (.ifCond .eq 7, 3) := by decide +kernel
theorem dX6_isKept_23 : decode cX6_isKept 23 = .ok (.iconst 1, 1) := by decide +kernel
theorem dX6_isKept_24 : decode cX6_isKept 24 = .ok (.goto 4, 3) := by decide +kernel
theorem dX6_isKept_27 : decode cX6_isKept 27 = .ok (.iconst 0, 1) := by decide +kernel
theorem dX6_isKept_28 : decode cX6_isKept 28 = .ok (.ireturn, 1) := by decide +kernel
theorem dX6_findRules_0 : decode cX6_findRules 0 = .ok (.aload_n 0, 1) := by decide +kernel
theorem dX6_findRules_1 : decode cX6_findRules 1 = .ok (.getfield 16, 3) := by decide +kernel
theorem dX6_findRules_4 : decode cX6_findRules 4 = .ok (.aload_n 1, 1) := by decide +kernel
theorem dX6_findRules_5 : decode cX6_findRules 5 = .ok (.getfield 23, 3) := by decide +kernel
theorem dX6_findRules_8 : decode cX6_findRules 8 = .ok (.aaload, 1) := by decide +kernel
theorem dX6_findRules_9 : decode cX6_findRules 9 = .ok (.astore 4, 2) := by decide +kernel
theorem dX6_findRules_11 : decode cX6_findRules 11 = .ok (.aload 4, 2) := by decide +kernel
theorem dX6_findRules_13 : decode cX6_findRules 13 = .ok (.iconst (-1), 1) := by decide +kernel
theorem dX6_findRules_14 : decode cX6_findRules 14 = .ok (.invokestatic 59, 3) := by decide +kernel
theorem dX6_findRules_17 : decode cX6_findRules 17 = .ok (.iconst 0, 1) := by decide +kernel
theorem dX6_findRules_18 : decode cX6_findRules 18 = .ok (.istore 5, 2) := by decide +kernel
theorem dX6_findRules_20 : decode cX6_findRules 20 = .ok (.iload 5, 2) := by decide +kernel
theorem dX6_findRules_22 : decode cX6_findRules 22 = .ok (.aload_n 2, 1) := by decide +kernel
theorem dX6_findRules_23 : decode cX6_findRules 23 = .ok (.invokevirtual 37, 3) := by decide +kernel
theorem dX6_findRules_26 : decode cX6_findRules 26 = .ok (.if_icmp .ge 98, 3) := by decide +kernel
theorem dX6_findRules_29 : decode cX6_findRules 29 = .ok (.aload_n 2, 1) := by decide +kernel
theorem dX6_findRules_30 : decode cX6_findRules 30 = .ok (.iload 5, 2) := by decide +kernel
theorem dX6_findRules_32 : decode cX6_findRules 32 = .ok (.invokevirtual 43, 3) := by decide +kernel
theorem dX6_findRules_35 : decode cX6_findRules 35 = .ok (.checkcast 65, 3) := by decide +kernel
theorem dX6_findRules_38 : decode cX6_findRules 38 = .ok (.astore 6, 2) := by decide +kernel
theorem dX6_findRules_40 : decode cX6_findRules 40 = .ok (.aload 6, 2) := by decide +kernel
theorem dX6_findRules_42 : decode cX6_findRules 42 = .ok (.getfield 67, 3) := by decide +kernel
theorem dX6_findRules_45 : decode cX6_findRules 45 = .ok (.iload 5, 2) := by decide +kernel
theorem dX6_findRules_47 : decode cX6_findRules 47 = .ok (.iload_n 3, 1) := by decide +kernel
theorem dX6_findRules_48 : decode cX6_findRules 48 = .ok (.if_icmp .ne 7, 3) := by decide +kernel
theorem dX6_findRules_51 : decode cX6_findRules 51 = .ok (.iconst 1, 1) := by decide +kernel
theorem dX6_findRules_52 : decode cX6_findRules 52 = .ok (.goto 4, 3) := by decide +kernel
theorem dX6_findRules_55 : decode cX6_findRules 55 = .ok (.iconst 0, 1) := by decide +kernel
theorem dX6_findRules_56 : decode cX6_findRules 56 = .ok (.if_icmp .eq 27, 3) := by decide +kernel
theorem dX6_findRules_59 : decode cX6_findRules 59 = .ok (.aload 6, 2) := by decide +kernel
theorem dX6_findRules_61 : decode cX6_findRules 61 = .ok (.getfield 70, 3) := by decide +kernel
theorem dX6_findRules_64 : decode cX6_findRules 64 = .ok (.invokestatic 55, 3) := by decide +kernel
theorem dX6_findRules_67 : decode cX6_findRules 67 = .ok (.ifCond .eq 16, 3) := by decide +kernel
theorem dX6_findRules_70 : decode cX6_findRules 70 = .ok (.aload 6, 2) := by decide +kernel
theorem dX6_findRules_72 : decode cX6_findRules 72 = .ok (.aload_n 1, 1) := by decide +kernel
theorem dX6_findRules_73 : decode cX6_findRules 73 = .ok (.invokevirtual 73, 3) := by decide +kernel
theorem dX6_findRules_76 : decode cX6_findRules 76 = .ok (.ifCond .eq 7, 3) := by decide +kernel
theorem dX6_findRules_79 : decode cX6_findRules 79 = .ok (.iconst 1, 1) := by decide +kernel
theorem dX6_findRules_80 : decode cX6_findRules 80 = .ok (.goto 4, 3) := by decide +kernel
theorem dX6_findRules_83 : decode cX6_findRules 83 = .ok (.iconst 0, 1) := by decide +kernel
theorem dX6_findRules_84 : decode cX6_findRules 84 = .ok (.istore 7, 2) := by decide +kernel
theorem dX6_findRules_86 : decode cX6_findRules 86 = .ok (.iload 7, 2) := by decide +kernel
theorem dX6_findRules_88 : decode cX6_findRules 88 = .ok (.ifCond .eq 30, 3) := by decide +kernel
theorem dX6_findRules_91 : decode cX6_findRules 91 = .ok (.aload 6, 2) := by decide +kernel
theorem dX6_findRules_93 : decode cX6_findRules 93 = .ok (.aload 4, 2) := by decide +kernel
theorem dX6_findRules_95 : decode cX6_findRules 95 = .ok (.aload 6, 2) := by decide +kernel
theorem dX6_findRules_97 : decode cX6_findRules 97 = .ok (.getfield 70, 3) := by decide +kernel
theorem dX6_findRules_100 : decode cX6_findRules 100 = .ok (.iaload, 1) := by decide +kernel
theorem dX6_findRules_101 : decode cX6_findRules 101 = .ok (.aload_n 2, 1) := by decide +kernel
theorem dX6_findRules_102 : decode cX6_findRules 102 = .ok (.invokestatic 77, 3) := by decide +kernel
theorem dX6_findRules_105 : decode cX6_findRules 105 = .ok (.ifCond .eq 13, 3) := by decide +kernel
theorem dX6_findRules_108 : decode cX6_findRules 108 = .ok (.aload 4, 2) := by decide +kernel
theorem dX6_findRules_110 : decode cX6_findRules 110 = .ok (.aload 6, 2) := by decide +kernel
theorem dX6_findRules_112 : decode cX6_findRules 112 = .ok (.getfield 70, 3) := by decide +kernel
theorem dX6_findRules_115 : decode cX6_findRules 115 = .ok (.iload 5, 2) := by decide +kernel
theorem dX6_findRules_117 : decode cX6_findRules 117 = .ok (.iastore, 1) := by decide +kernel
theorem dX6_findRules_118 : decode cX6_findRules 118 = .ok (.iinc 5 1, 3) := by decide +kernel
theorem dX6_findRules_121 : decode cX6_findRules 121 = .ok (.goto (-101), 3) := by decide +kernel
theorem dX6_findRules_124 : decode cX6_findRules 124 = .ok (.return_, 1) := by decide +kernel
theorem dX6_comesAheadOf_0 : decode cX6_comesAheadOf 0 = .ok (.iload_n 1, 1) := by decide +kernel
theorem dX6_comesAheadOf_1 : decode cX6_comesAheadOf 1 = .ok (.ifCond .lt 11, 3) := by decide +kernel
theorem dX6_comesAheadOf_4 : decode cX6_comesAheadOf 4 = .ok (.iload_n 1, 1) := by decide +kernel
theorem dX6_comesAheadOf_5 : decode cX6_comesAheadOf 5 = .ok (.aload_n 2, 1) := by decide +kernel
theorem dX6_comesAheadOf_6 : decode cX6_comesAheadOf 6 = .ok (.invokevirtual 37, 3) := by decide +kernel
theorem dX6_comesAheadOf_9 : decode cX6_comesAheadOf 9 = .ok (.if_icmp .lt 5, 3) := by decide +kernel
theorem dX6_comesAheadOf_12 : decode cX6_comesAheadOf 12 = .ok (.iconst 1, 1) := by decide +kernel
theorem dX6_comesAheadOf_13 : decode cX6_comesAheadOf 13 = .ok (.ireturn, 1) := by decide +kernel
theorem dX6_comesAheadOf_14 : decode cX6_comesAheadOf 14 = .ok (.aload_n 2, 1) := by decide +kernel
theorem dX6_comesAheadOf_15 : decode cX6_comesAheadOf 15 = .ok (.iload_n 1, 1) := by decide +kernel
theorem dX6_comesAheadOf_16 : decode cX6_comesAheadOf 16 = .ok (.invokevirtual 43, 3) := by decide +kernel
theorem dX6_comesAheadOf_19 : decode cX6_comesAheadOf 19 = .ok (.checkcast 65, 3) := by decide +kernel
theorem dX6_comesAheadOf_22 : decode cX6_comesAheadOf 22 = .ok (.astore_n 3, 1) := by decide +kernel
theorem dX6_comesAheadOf_23 : decode cX6_comesAheadOf 23 = .ok (.aload_n 0, 1) := by decide +kernel
theorem dX6_comesAheadOf_24 : decode cX6_comesAheadOf 24 = .ok (.getfield 81, 3) := by decide +kernel
theorem dX6_comesAheadOf_27 : decode cX6_comesAheadOf 27 = .ok (.aload_n 3, 1) := by decide +kernel
theorem dX6_comesAheadOf_28 : decode cX6_comesAheadOf 28 = .ok (.getfield 81, 3) := by decide +kernel
theorem dX6_comesAheadOf_31 : decode cX6_comesAheadOf 31 = .ok (.if_icmp .eq 8, 3) := by decide +kernel
theorem dX6_comesAheadOf_34 : decode cX6_comesAheadOf 34 = .ok (.aload_n 0, 1) := by decide +kernel
theorem dX6_comesAheadOf_35 : decode cX6_comesAheadOf 35 = .ok (.getfield 81, 3) := by decide +kernel
theorem dX6_comesAheadOf_38 : decode cX6_comesAheadOf 38 = .ok (.ireturn, 1) := by decide +kernel
theorem dX6_comesAheadOf_39 : decode cX6_comesAheadOf 39 = .ok (.aload_n 0, 1) := by decide +kernel
theorem dX6_comesAheadOf_40 : decode cX6_comesAheadOf 40 = .ok (.getfield 84, 3) := by decide +kernel
theorem dX6_comesAheadOf_43 : decode cX6_comesAheadOf 43 = .ok (.aload_n 3, 1) := by decide +kernel
theorem dX6_comesAheadOf_44 : decode cX6_comesAheadOf 44 = .ok (.getfield 84, 3) := by decide +kernel
theorem dX6_comesAheadOf_47 : decode cX6_comesAheadOf 47 = .ok (.if_icmp .lt 7, 3) := by decide +kernel
theorem dX6_comesAheadOf_50 : decode cX6_comesAheadOf 50 = .ok (.iconst 1, 1) := by decide +kernel
theorem dX6_comesAheadOf_51 : decode cX6_comesAheadOf 51 = .ok (.goto 4, 3) := by decide +kernel
theorem dX6_comesAheadOf_54 : decode cX6_comesAheadOf 54 = .ok (.iconst 0, 1) := by decide +kernel
theorem dX6_comesAheadOf_55 : decode cX6_comesAheadOf 55 = .ok (.ireturn, 1) := by decide +kernel
theorem dX6_settle_0 : decode cX6_settle 0 = .ok (.aload_n 0, 1) := by decide +kernel
theorem dX6_settle_1 : decode cX6_settle 1 = .ok (.getfield 16, 3) := by decide +kernel
theorem dX6_settle_4 : decode cX6_settle 4 = .ok (.aload_n 1, 1) := by decide +kernel
theorem dX6_settle_5 : decode cX6_settle 5 = .ok (.getfield 23, 3) := by decide +kernel
theorem dX6_settle_8 : decode cX6_settle 8 = .ok (.aaload, 1) := by decide +kernel
theorem dX6_settle_9 : decode cX6_settle 9 = .ok (.iload_n 2, 1) := by decide +kernel
theorem dX6_settle_10 : decode cX6_settle 10 = .ok (.iaload, 1) := by decide +kernel
theorem dX6_settle_11 : decode cX6_settle 11 = .ok (.istore 4, 2) := by decide +kernel
theorem dX6_settle_13 : decode cX6_settle 13 = .ok (.sipush 9998, 3) := by decide +kernel
theorem dX6_settle_16 : decode cX6_settle 16 = .ok (.istore 5, 2) := by decide +kernel
theorem dX6_settle_18 : decode cX6_settle 18 = .ok (.iconst 0, 1) := by decide +kernel
theorem dX6_settle_19 : decode cX6_settle 19 = .ok (.istore 6, 2) := by decide +kernel
theorem dX6_settle_21 : decode cX6_settle 21 = .ok (.iload 4, 2) := by decide +kernel
theorem dX6_settle_23 : decode cX6_settle 23 = .ok (.ifCond .lt 40, 3) := by decide +kernel
theorem dX6_settle_26 : decode cX6_settle 26 = .ok (.iload 4, 2) := by decide +kernel
theorem dX6_settle_28 : decode cX6_settle 28 = .ok (.aload_n 3, 1) := by decide +kernel
theorem dX6_settle_29 : decode cX6_settle 29 = .ok (.invokevirtual 37, 3) := by decide +kernel
theorem dX6_settle_32 : decode cX6_settle 32 = .ok (.if_icmp .ge 31, 3) := by decide +kernel
theorem dX6_settle_35 : decode cX6_settle 35 = .ok (.aload_n 3, 1) := by decide +kernel
theorem dX6_settle_36 : decode cX6_settle 36 = .ok (.iload 4, 2) := by decide +kernel
theorem dX6_settle_38 : decode cX6_settle 38 = .ok (.invokevirtual 43, 3) := by decide +kernel
theorem dX6_settle_41 : decode cX6_settle 41 = .ok (.checkcast 65, 3) := by decide +kernel
theorem dX6_settle_44 : decode cX6_settle 44 = .ok (.getfield 87, 3) := by decide +kernel
theorem dX6_settle_47 : decode cX6_settle 47 = .ok (.istore 5, 2) := by decide +kernel
theorem dX6_settle_49 : decode cX6_settle 49 = .ok (.aload_n 3, 1) := by decide +kernel
theorem dX6_settle_50 : decode cX6_settle 50 = .ok (.iload 4, 2) := by decide +kernel
theorem dX6_settle_52 : decode cX6_settle 52 = .ok (.invokevirtual 43, 3) := by decide +kernel
theorem dX6_settle_55 : decode cX6_settle 55 = .ok (.checkcast 65, 3) := by decide +kernel
theorem dX6_settle_58 : decode cX6_settle 58 = .ok (.getfield 81, 3) := by decide +kernel
theorem dX6_settle_61 : decode cX6_settle 61 = .ok (.istore 6, 2) := by decide +kernel
theorem dX6_settle_63 : decode cX6_settle 63 = .ok (.aload_n 1, 1) := by decide +kernel
theorem dX6_settle_64 : decode cX6_settle 64 = .ok (.iload_n 2, 1) := by decide +kernel
theorem dX6_settle_65 : decode cX6_settle 65 = .ok (.invokevirtual 90, 3) := by decide +kernel
theorem dX6_settle_68 : decode cX6_settle 68 = .ok (.istore 7, 2) := by decide +kernel
theorem dX6_settle_70 : decode cX6_settle 70 = .ok (.iload 7, 2) := by decide +kernel
theorem dX6_settle_72 : decode cX6_settle 72 = .ok (.sipush 9998, 3) := by decide +kernel
theorem dX6_settle_75 : decode cX6_settle 75 = .ok (.if_icmp .eq 15, 3) := by decide +kernel
theorem dX6_settle_78 : decode cX6_settle 78 = .ok (.iload 6, 2) := by decide +kernel
theorem dX6_settle_80 : decode cX6_settle 80 = .ok (.ifCond .ne 10, 3) := by decide +kernel
theorem dX6_settle_83 : decode cX6_settle 83 = .ok (.iload 7, 2) := by decide +kernel
theorem dX6_settle_85 : decode cX6_settle 85 = .ok (.istore 5, 2) := by decide +kernel
theorem dX6_settle_87 : decode cX6_settle 87 = .ok (.iconst (-1), 1) := by decide +kernel
theorem dX6_settle_88 : decode cX6_settle 88 = .ok (.istore 4, 2) := by decide +kernel
theorem dX6_settle_90 : decode cX6_settle 90 = .ok (.iload 5, 2) := by decide +kernel
theorem dX6_settle_92 : decode cX6_settle 92 = .ok (.sipush 9998, 3) := by decide +kernel
theorem dX6_settle_95 : decode cX6_settle 95 = .ok (.if_icmp .ne 56, 3) := by decide +kernel
theorem dX6_settle_98 : decode cX6_settle 98 = .ok (.iload_n 2, 1) := by decide +kernel
theorem dX6_settle_99 : decode cX6_settle 99 = .ok (.invokestatic 94, 3) := by decide +kernel
theorem dX6_settle_102 : decode cX6_settle 102 = .ok (.ifCond .eq 14, 3) := by decide +kernel
theorem dX6_settle_105 : decode cX6_settle 105 = .ok (.aload_n 1, 1) := by decide +kernel
theorem dX6_settle_106 : decode cX6_settle 106 = .ok (.getfield 97, 3) := by decide +kernel
theorem dX6_settle_109 : decode cX6_settle 109 = .ok (.ifnull 7, 3) := by decide +kernel
theorem dX6_settle_112 : decode cX6_settle 112 = .ok (.iconst 1, 1) := by decide +kernel
theorem dX6_settle_113 : decode cX6_settle 113 = .ok (.goto 4, 3) := by decide +kernel
theorem dX6_settle_116 : decode cX6_settle 116 = .ok (.iconst 0, 1) := by decide +kernel
theorem dX6_settle_117 : decode cX6_settle 117 = .ok (.istore 8, 2) := by decide +kernel
theorem dX6_settle_119 : decode cX6_settle 119 = .ok (.iload 8, 2) := by decide +kernel
theorem dX6_settle_121 : decode cX6_settle 121 = .ok (.ifCond .eq 9, 3) := by decide +kernel
theorem dX6_settle_124 : decode cX6_settle 124 = .ok (.sipush 9999, 3) := by decide +kernel
theorem dX6_settle_127 : decode cX6_settle 127 = .ok (.goto 8, 3) := by decide +kernel
theorem dX6_settle_130 : decode cX6_settle 130 = .ok (.getstatic 101, 3) := by decide +kernel
theorem dX6_settle_133 : decode cX6_settle 133 = .ok (.iload_n 2, 1) := by decide +kernel
theorem dX6_settle_134 : decode cX6_settle 134 = .ok (.iaload, 1) := by decide +kernel
theorem dX6_settle_135 : decode cX6_settle 135 = .ok (.istore 5, 2) := by decide +kernel
theorem dX6_settle_137 : decode cX6_settle 137 = .ok (.iload 8, 2) := by decide +kernel
theorem dX6_settle_139 : decode cX6_settle 139 = .ok (.ifCond .eq 8, 3) := by decide +kernel
theorem dX6_settle_142 : decode cX6_settle 142 = .ok (.bipush (-2), 2) := by decide +kernel
theorem dX6_settle_144 : decode cX6_settle 144 = .ok (.goto 5, 3) := by decide +kernel
theorem dX6_settle_147 : decode cX6_settle 147 = .ok (.bipush (-3), 2) := by decide +kernel
theorem dX6_settle_149 : decode cX6_settle 149 = .ok (.istore 4, 2) := by decide +kernel
theorem dX6_settle_151 : decode cX6_settle 151 = .ok (.iload 5, 2) := by decide +kernel
theorem dX6_settle_153 : decode cX6_settle 153 = .ok (.sipush 9999, 3) := by decide +kernel
theorem dX6_settle_156 : decode cX6_settle 156 = .ok (.if_icmp .ne 29, 3) := by decide +kernel
theorem dX6_settle_159 : decode cX6_settle 159 = .ok (.aload_n 1, 1) := by decide +kernel
theorem dX6_settle_160 : decode cX6_settle 160 = .ok (.getfield 97, 3) := by decide +kernel
theorem dX6_settle_163 : decode cX6_settle 163 = .ok (.ifnonnull 11, 3) := by decide +kernel
theorem dX6_settle_166 : decode cX6_settle 166 = .ok (.getstatic 101, 3) := by decide +kernel
theorem dX6_settle_169 : decode cX6_settle 169 = .ok (.iload_n 2, 1) := by decide +kernel
theorem dX6_settle_170 : decode cX6_settle 170 = .ok (.iaload, 1) := by decide +kernel
theorem dX6_settle_171 : decode cX6_settle 171 = .ok (.goto 12, 3) := by decide +kernel
theorem dX6_settle_174 : decode cX6_settle 174 = .ok (.aload_n 0, 1) := by decide +kernel
theorem dX6_settle_175 : decode cX6_settle 175 = .ok (.aload_n 1, 1) := by decide +kernel
theorem dX6_settle_176 : decode cX6_settle 176 = .ok (.getfield 97, 3) := by decide +kernel
theorem dX6_settle_179 : decode cX6_settle 179 = .ok (.iload_n 2, 1) := by decide +kernel
theorem dX6_settle_180 : decode cX6_settle 180 = .ok (.invokevirtual 33, 3) := by decide +kernel
theorem dX6_settle_183 : decode cX6_settle 183 = .ok (.istore 5, 2) := by decide +kernel
theorem dX6_settle_185 : decode cX6_settle 185 = .ok (.aload_n 0, 1) := by decide +kernel
theorem dX6_settle_186 : decode cX6_settle 186 = .ok (.getfield 11, 3) := by decide +kernel
theorem dX6_settle_189 : decode cX6_settle 189 = .ok (.aload_n 1, 1) := by decide +kernel
theorem dX6_settle_190 : decode cX6_settle 190 = .ok (.getfield 23, 3) := by decide +kernel
theorem dX6_settle_193 : decode cX6_settle 193 = .ok (.aaload, 1) := by decide +kernel
theorem dX6_settle_194 : decode cX6_settle 194 = .ok (.iload_n 2, 1) := by decide +kernel
theorem dX6_settle_195 : decode cX6_settle 195 = .ok (.iload 5, 2) := by decide +kernel
theorem dX6_settle_197 : decode cX6_settle 197 = .ok (.iastore, 1) := by decide +kernel
theorem dX6_settle_198 : decode cX6_settle 198 = .ok (.aload_n 0, 1) := by decide +kernel
theorem dX6_settle_199 : decode cX6_settle 199 = .ok (.getfield 16, 3) := by decide +kernel
theorem dX6_settle_202 : decode cX6_settle 202 = .ok (.aload_n 1, 1) := by decide +kernel
theorem dX6_settle_203 : decode cX6_settle 203 = .ok (.getfield 23, 3) := by decide +kernel
theorem dX6_settle_206 : decode cX6_settle 206 = .ok (.aaload, 1) := by decide +kernel
theorem dX6_settle_207 : decode cX6_settle 207 = .ok (.iload_n 2, 1) := by decide +kernel
theorem dX6_settle_208 : decode cX6_settle 208 = .ok (.iload 4, 2) := by decide +kernel
theorem dX6_settle_210 : decode cX6_settle 210 = .ok (.iastore, 1) := by decide +kernel
theorem dX6_settle_211 : decode cX6_settle 211 = .ok (.return_, 1) := by decide +kernel
theorem dX7_init_0 : decode cX7_init 0 = .ok (.aload_n 0, 1) := by decide +kernel
theorem dX7_init_1 : decode cX7_init 1 = .ok (.invokespecial 3, 3) := by decide +kernel
theorem dX7_init_4 : decode cX7_init 4 = .ok (.aload_n 0, 1) := by decide +kernel
theorem dX7_init_5 : decode cX7_init 5 = .ok (.new 9, 3) := by decide +kernel
theorem dX7_init_8 : decode cX7_init 8 = .ok (.dup, 1) := by decide +kernel
theorem dX7_init_9 : decode cX7_init 9 = .ok (.invokespecial 11, 3) := by decide +kernel
theorem dX7_init_12 : decode cX7_init 12 = .ok (.putfield 12, 3) := by decide +kernel
theorem dX7_init_15 : decode cX7_init 15 = .ok (.aload_n 0, 1) := by decide +kernel
theorem dX7_init_16 : decode cX7_init 16 = .ok (.new 9, 3) := by decide +kernel
theorem dX7_init_19 : decode cX7_init 19 = .ok (.dup, 1) := by decide +kernel
theorem dX7_init_20 : decode cX7_init 20 = .ok (.invokespecial 11, 3) := by decide +kernel
theorem dX7_init_23 : decode cX7_init 23 = .ok (.putfield 18, 3) := by decide +kernel
theorem dX7_init_26 : decode cX7_init 26 = .ok (.aload_n 0, 1) := by decide +kernel
theorem dX7_init_27 : decode cX7_init 27 = .ok (.new 21, 3) := by decide +kernel
theorem dX7_init_30 : decode cX7_init 30 = .ok (.dup, 1) := by decide +kernel
theorem dX7_init_31 : decode cX7_init 31 = .ok (.iconst 0, 1) := by decide +kernel
theorem dX7_init_32 : decode cX7_init 32 = .ok (.iconst 0, 1) := by decide +kernel
theorem dX7_init_33 : decode cX7_init 33 = .ok (.iconst 0, 1) := by decide +kernel
theorem dX7_init_34 : decode cX7_init 34 = .ok (.invokespecial 23, 3) := by decide +kernel
theorem dX7_init_37 : decode cX7_init 37 = .ok (.putfield 26, 3) := by decide +kernel
theorem dX7_init_40 : decode cX7_init 40 = .ok (.return_, 1) := by decide +kernel
theorem dX7_withRoot_0 : decode cX7_withRoot 0 = .ok (.new 13, 3) := by decide +kernel
theorem dX7_withRoot_3 : decode cX7_withRoot 3 = .ok (.dup, 1) := by decide +kernel
theorem dX7_withRoot_4 : decode cX7_withRoot 4 = .ok (.invokespecial 30, 3) := by decide +kernel
theorem dX7_withRoot_7 : decode cX7_withRoot 7 = .ok (.astore_n 0, 1) := by decide +kernel
theorem dX7_withRoot_8 : decode cX7_withRoot 8 = .ok (.aload_n 0, 1) := by decide +kernel
theorem dX7_withRoot_9 : decode cX7_withRoot 9 = .ok (.getfield 12, 3) := by decide +kernel
theorem dX7_withRoot_12 : decode cX7_withRoot 12 = .ok (.aload_n 0, 1) := by decide +kernel
theorem dX7_withRoot_13 : decode cX7_withRoot 13 = .ok (.getfield 26, 3) := by decide +kernel
theorem dX7_withRoot_16 : decode cX7_withRoot 16 = .ok (.invokevirtual 31, 3) := by decide +kernel
theorem dX7_withRoot_19 : decode cX7_withRoot 19 = .ok (.pop, 1) := by decide +kernel
theorem dX7_withRoot_20 : decode cX7_withRoot 20 = .ok (.aload_n 0, 1) := by decide +kernel
theorem dX7_withRoot_21 : decode cX7_withRoot 21 = .ok (.getfield 18, 3) := by decide +kernel
theorem dX7_withRoot_24 : decode cX7_withRoot 24 = .ok (.aload_n 0, 1) := by decide +kernel
theorem dX7_withRoot_25 : decode cX7_withRoot 25 = .ok (.getfield 26, 3) := by decide +kernel
theorem dX7_withRoot_28 : decode cX7_withRoot 28 = .ok (.invokevirtual 31, 3) := by decide +kernel
theorem dX7_withRoot_31 : decode cX7_withRoot 31 = .ok (.pop, 1) := by decide +kernel
theorem dX7_withRoot_32 : decode cX7_withRoot 32 = .ok (.aload_n 0, 1) := by decide +kernel
theorem dX7_withRoot_33 : decode cX7_withRoot 33 = .ok (.areturn, 1) := by decide +kernel
theorem dX7_holds_0 : decode cX7_holds 0 = .ok (.iload_n 1, 1) := by decide +kernel
theorem dX7_holds_1 : decode cX7_holds 1 = .ok (.ifCond .lt 35, 3) := by decide +kernel
theorem dX7_holds_4 : decode cX7_holds 4 = .ok (.iload_n 1, 1) := by decide +kernel
theorem dX7_holds_5 : decode cX7_holds 5 = .ok (.aload_n 0, 1) := by decide +kernel
theorem dX7_holds_6 : decode cX7_holds 6 = .ok (.getfield 12, 3) := by decide +kernel
theorem dX7_holds_9 : decode cX7_holds 9 = .ok (.invokevirtual 35, 3) := by decide +kernel
theorem dX7_holds_12 : decode cX7_holds 12 = .ok (.if_icmp .ge 24, 3) := by decide +kernel
theorem dX7_holds_15 : decode cX7_holds 15 = .ok (.aload_n 0, 1) := by decide +kernel
theorem dX7_holds_16 : decode cX7_holds 16 = .ok (.getfield 12, 3) := by decide +kernel
theorem dX7_holds_19 : decode cX7_holds 19 = .ok (.iload_n 1, 1) := by decide +kernel
theorem dX7_holds_20 : decode cX7_holds 20 = .ok (.invokevirtual 39, 3) := by decide +kernel
theorem dX7_holds_23 : decode cX7_holds 23 = .ok (.checkcast 21, 3) := by decide +kernel
theorem dX7_holds_26 : decode cX7_holds 26 = .ok (.getfield 43, 3) := by decide +kernel
theorem dX7_holds_29 : decode cX7_holds 29 = .ok (.ifCond .ne 7, 3) := by decide +kernel
theorem dX7_holds_32 : decode cX7_holds 32 = .ok (.iconst 1, 1) := by decide +kernel
theorem dX7_holds_33 : decode cX7_holds 33 = .ok (.goto 4, 3) := by decide +kernel
theorem dX7_holds_36 : decode cX7_holds 36 = .ok (.iconst 0, 1) := by decide +kernel
theorem dX7_holds_37 : decode cX7_holds 37 = .ok (.ireturn, 1) := by decide +kernel
theorem dX7_hasRoomIn_0 : decode cX7_hasRoomIn 0 = .ok (.aload_n 0, 1) := by decide +kernel
theorem dX7_hasRoomIn_1 : decode cX7_hasRoomIn 1 = .ok (.getfield 12, 3) := by decide +kernel
theorem dX7_hasRoomIn_4 : decode cX7_hasRoomIn 4 = .ok (.invokevirtual 35, 3) := by decide +kernel
theorem dX7_hasRoomIn_7 : decode cX7_hasRoomIn 7 = .ok (.bipush 40, 2) := by decide +kernel
theorem dX7_hasRoomIn_9 : decode cX7_hasRoomIn 9 = .ok (.if_icmp .ge 16, 3) := by decide +kernel
theorem dX7_hasRoomIn_12 : decode cX7_hasRoomIn 12 = .ok (.aload_n 1, 1) := by decide +kernel
theorem dX7_hasRoomIn_13 : decode cX7_hasRoomIn 13 = .ok (.invokevirtual 47, 3) := by decide +kernel
theorem dX7_hasRoomIn_16 : decode cX7_hasRoomIn 16 = .ok (.bipush 10, 2) := by decide +kernel
theorem dX7_hasRoomIn_18 : decode cX7_hasRoomIn 18 = .ok (.if_icmp .ge 7, 3) := by decide +kernel
theorem dX7_hasRoomIn_21 : decode cX7_hasRoomIn 21 = .ok (.iconst 1, 1) := by decide +kernel
theorem dX7_hasRoomIn_22 : decode cX7_hasRoomIn 22 = .ok (.goto 4, 3) := by decide +kernel
theorem dX7_hasRoomIn_25 : decode cX7_hasRoomIn 25 = .ok (.iconst 0, 1) := by decide +kernel
theorem dX7_hasRoomIn_26 : decode cX7_hasRoomIn 26 = .ok (.ireturn, 1) := by decide +kernel
theorem dX7_append_0 : decode cX7_append 0 = .ok (.new 21, 3) := by decide +kernel
theorem dX7_append_3 : decode cX7_append 3 = .ok (.dup, 1) := by decide +kernel
theorem dX7_append_4 : decode cX7_append 4 = .ok (.aload_n 0, 1) := by decide +kernel
theorem dX7_append_5 : decode cX7_append 5 = .ok (.getfield 12, 3) := by decide +kernel
theorem dX7_append_8 : decode cX7_append 8 = .ok (.invokevirtual 35, 3) := by decide +kernel
theorem dX7_append_11 : decode cX7_append 11 = .ok (.iload_n 2, 1) := by decide +kernel
theorem dX7_append_12 : decode cX7_append 12 = .ok (.iload_n 3, 1) := by decide +kernel
theorem dX7_append_13 : decode cX7_append 13 = .ok (.invokespecial 23, 3) := by decide +kernel
theorem dX7_append_16 : decode cX7_append 16 = .ok (.astore 4, 2) := by decide +kernel
theorem dX7_append_18 : decode cX7_append 18 = .ok (.aload_n 0, 1) := by decide +kernel
theorem dX7_append_19 : decode cX7_append 19 = .ok (.getfield 12, 3) := by decide +kernel
theorem dX7_append_22 : decode cX7_append 22 = .ok (.aload 4, 2) := by decide +kernel
theorem dX7_append_24 : decode cX7_append 24 = .ok (.invokevirtual 31, 3) := by decide +kernel
theorem dX7_append_27 : decode cX7_append 27 = .ok (.pop, 1) := by decide +kernel
theorem dX7_append_28 : decode cX7_append 28 = .ok (.aload 4, 2) := by decide +kernel
theorem dX7_append_30 : decode cX7_append 30 = .ok (.aload_n 1, 1) := by decide +kernel
theorem dX7_append_31 : decode cX7_append 31 = .ok (.putfield 50, 3) := by decide +kernel
theorem dX7_append_34 : decode cX7_append 34 = .ok (.aload_n 1, 1) := by decide +kernel
theorem dX7_append_35 : decode cX7_append 35 = .ok (.getfield 53, 3) := by decide +kernel
theorem dX7_append_38 : decode cX7_append 38 = .ok (.aload 4, 2) := by decide +kernel
theorem dX7_append_40 : decode cX7_append 40 = .ok (.invokevirtual 31, 3) := by decide +kernel
theorem dX7_append_43 : decode cX7_append 43 = .ok (.pop, 1) := by decide +kernel
theorem dX7_append_44 : decode cX7_append 44 = .ok (.aload_n 0, 1) := by decide +kernel
theorem dX7_append_45 : decode cX7_append 45 = .ok (.invokevirtual 56, 3) := by decide +kernel
theorem dX7_append_48 : decode cX7_append 48 = .ok (.aload 4, 2) := by decide +kernel
theorem dX7_append_50 : decode cX7_append 50 = .ok (.getfield 59, 3) := by decide +kernel
theorem dX7_append_53 : decode cX7_append 53 = .ok (.ireturn, 1) := by decide +kernel
theorem dX7_remove_0 : decode cX7_remove 0 = .ok (.aload_n 0, 1) := by decide +kernel
theorem dX7_remove_1 : decode cX7_remove 1 = .ok (.getfield 18, 3) := by decide +kernel
theorem dX7_remove_4 : decode cX7_remove 4 = .ok (.invokevirtual 35, 3) := by decide +kernel
theorem dX7_remove_7 : decode cX7_remove 7 = .ok (.istore_n 2, 1) := by decide +kernel
theorem dX7_remove_8 : decode cX7_remove 8 = .ok (.aload_n 0, 1) := by decide +kernel
theorem dX7_remove_9 : decode cX7_remove 9 = .ok (.aload_n 1, 1) := by decide +kernel
theorem dX7_remove_10 : decode cX7_remove 10 = .ok (.invokevirtual 63, 3) := by decide +kernel
theorem dX7_remove_13 : decode cX7_remove 13 = .ok (.aload_n 1, 1) := by decide +kernel
theorem dX7_remove_14 : decode cX7_remove 14 = .ok (.iconst 0, 1) := by decide +kernel
theorem dX7_remove_15 : decode cX7_remove 15 = .ok (.invokestatic 67, 3) := by decide +kernel
theorem dX7_remove_18 : decode cX7_remove 18 = .ok (.aload_n 0, 1) := by decide +kernel
theorem dX7_remove_19 : decode cX7_remove 19 = .ok (.invokevirtual 56, 3) := by decide +kernel
theorem dX7_remove_22 : decode cX7_remove 22 = .ok (.iload_n 2, 1) := by decide +kernel
theorem dX7_remove_23 : decode cX7_remove 23 = .ok (.aload_n 0, 1) := by decide +kernel
theorem dX7_remove_24 : decode cX7_remove 24 = .ok (.getfield 18, 3) := by decide +kernel
theorem dX7_remove_27 : decode cX7_remove 27 = .ok (.invokevirtual 35, 3) := by decide +kernel
theorem dX7_remove_30 : decode cX7_remove 30 = .ok (.isub, 1) := by decide +kernel
theorem dX7_remove_31 : decode cX7_remove 31 = .ok (.ireturn, 1) := by decide +kernel
theorem dX7_canMove_0 : decode cX7_canMove 0 = .ok (.aload_n 1, 1) := by decide +kernel
theorem dX7_canMove_1 : decode cX7_canMove 1 = .ok (.getfield 50, 3) := by decide +kernel
theorem dX7_canMove_4 : decode cX7_canMove 4 = .ok (.ifnull 18, 3) := by decide +kernel
theorem dX7_canMove_7 : decode cX7_canMove 7 = .ok (.aload_n 2, 1) := by decide +kernel
theorem dX7_canMove_8 : decode cX7_canMove 8 = .ok (.getfield 71, 3) := by decide +kernel
theorem dX7_canMove_11 : decode cX7_canMove 11 = .ok (.ifCond .ne 11, 3) := by decide +kernel
theorem dX7_canMove_14 : decode cX7_canMove 14 = .ok (.aload_n 2, 1) := by decide +kernel
theorem dX7_canMove_15 : decode cX7_canMove 15 = .ok (.aload_n 1, 1) := by decide +kernel
theorem dX7_canMove_16 : decode cX7_canMove 16 = .ok (.invokevirtual 74, 3) := by decide +kernel
theorem dX7_canMove_19 : decode cX7_canMove 19 = .ok (.ifCond .eq 5, 3) := by decide +kernel
theorem dX7_canMove_22 : decode cX7_canMove 22 = .ok (.iconst 0, 1) := by decide +kernel
theorem dX7_canMove_23 : decode cX7_canMove 23 = .ok (.ireturn, 1) := by decide +kernel
theorem dX7_canMove_24 : decode cX7_canMove 24 = .ok (.aload_n 2, 1) := by decide +kernel
theorem dX7_canMove_25 : decode cX7_canMove 25 = .ok (.getfield 53, 3) := by decide +kernel
theorem dX7_canMove_28 : decode cX7_canMove 28 = .ok (.invokevirtual 35, 3) := by decide +kernel
theorem dX7_canMove_31 : decode cX7_canMove 31 = .ok (.aload_n 1, 1) := by decide +kernel
theorem dX7_canMove_32 : decode cX7_canMove 32 = .ok (.getfield 50, 3) := by decide +kernel
theorem dX7_canMove_35 : decode cX7_canMove 35 = .ok (.aload_n 2, 1) := by decide +kernel
theorem dX7_canMove_36 : decode cX7_canMove 36 = .ok (.if_acmp .ne 7, 3) := by decide +kernel
theorem dX7_canMove_39 : decode cX7_canMove 39 = .ok (.iconst 1, 1) := by decide +kernel
theorem dX7_canMove_40 : decode cX7_canMove 40 = .ok (.goto 4, 3) := by decide +kernel
theorem dX7_canMove_43 : decode cX7_canMove 43 = .ok (.iconst 0, 1) := by decide +kernel
theorem dX7_canMove_44 : decode cX7_canMove 44 = .ok (.isub, 1) := by decide +kernel
theorem dX7_canMove_45 : decode cX7_canMove 45 = .ok (.istore 4, 2) := by decide +kernel
theorem dX7_canMove_47 : decode cX7_canMove 47 = .ok (.iload_n 3, 1) := by decide +kernel
theorem dX7_canMove_48 : decode cX7_canMove 48 = .ok (.ifCond .lt 9, 3) := by decide +kernel
theorem dX7_canMove_51 : decode cX7_canMove 51 = .ok (.iload_n 3, 1) := by decide +kernel
theorem dX7_canMove_52 : decode cX7_canMove 52 = .ok (.iload 4, 2) := by decide +kernel
theorem dX7_canMove_54 : decode cX7_canMove 54 = .ok (.if_icmp .le 5, 3) := by decide +kernel
theorem dX7_canMove_57 : decode cX7_canMove 57 = .ok (.iconst 0, 1) := by decide +kernel
theorem dX7_canMove_58 : decode cX7_canMove 58 = .ok (.ireturn, 1) := by decide +kernel
theorem dX7_canMove_59 : decode cX7_canMove 59 = .ok (.aload_n 2, 1) := by decide +kernel
theorem dX7_canMove_60 : decode cX7_canMove 60 = .ok (.invokevirtual 47, 3) := by decide +kernel
theorem dX7_canMove_63 : decode cX7_canMove 63 = .ok (.iconst 1, 1) := by decide +kernel
theorem dX7_canMove_64 : decode cX7_canMove 64 = .ok (.iadd, 1) := by decide +kernel
theorem dX7_canMove_65 : decode cX7_canMove 65 = .ok (.aload_n 1, 1) := by decide +kernel
theorem dX7_canMove_66 : decode cX7_canMove 66 = .ok (.iconst 0, 1) := by decide +kernel
theorem dX7_canMove_67 : decode cX7_canMove 67 = .ok (.invokestatic 78, 3) := by decide +kernel
theorem dX7_canMove_70 : decode cX7_canMove 70 = .ok (.iadd, 1) := by decide +kernel
theorem dX7_canMove_71 : decode cX7_canMove 71 = .ok (.bipush 10, 2) := by decide +kernel
theorem dX7_canMove_73 : decode cX7_canMove 73 = .ok (.if_icmp .gt 7, 3) := by decide +kernel
theorem dX7_canMove_76 : decode cX7_canMove 76 = .ok (.iconst 1, 1) := by decide +kernel
theorem dX7_canMove_77 : decode cX7_canMove 77 = .ok (.goto 4, 3) := by decide +kernel
theorem dX7_canMove_80 : decode cX7_canMove 80 = .ok (.iconst 0, 1) := by decide +kernel
theorem dX7_canMove_81 : decode cX7_canMove 81 = .ok (.ireturn, 1) := by decide +kernel
theorem dX7_putInto_0 : decode cX7_putInto 0 = .ok (.aload_n 0, 1) := by decide +kernel
theorem dX7_putInto_1 : decode cX7_putInto 1 = .ok (.aload_n 1, 1) := by decide +kernel
theorem dX7_putInto_2 : decode cX7_putInto 2 = .ok (.invokevirtual 63, 3) := by decide +kernel
theorem dX7_putInto_5 : decode cX7_putInto 5 = .ok (.iload_n 3, 1) := by decide +kernel
theorem dX7_putInto_6 : decode cX7_putInto 6 = .ok (.ifCond .lt 28, 3) := by decide +kernel
theorem dX7_putInto_9 : decode cX7_putInto 9 = .ok (.iload_n 3, 1) := by decide +kernel
theorem dX7_putInto_10 : decode cX7_putInto 10 = .ok (.aload_n 2, 1) := by decide +kernel
theorem dX7_putInto_11 : decode cX7_putInto 11 = .ok (.getfield 53, 3) := by decide +kernel
theorem dX7_putInto_14 : decode cX7_putInto 14 = .ok (.invokevirtual 35, 3) := by decide +kernel
theorem dX7_putInto_17 : decode cX7_putInto 17 = .ok (.if_icmp .gt 17, 3) := by decide +kernel
theorem dX7_putInto_20 : decode cX7_putInto 20 = .ok (.aload_n 2, 1) := by decide +kernel
theorem dX7_putInto_21 : decode cX7_putInto 21 = .ok (.getfield 53, 3) := by decide +kernel
theorem dX7_putInto_24 : decode cX7_putInto 24 = .ok (.iload_n 3, 1) := by decide +kernel
theorem dX7_putInto_25 : decode cX7_putInto 25 = .ok (.aload_n 1, 1) := by decide +kernel
theorem dX7_putInto_26 : decode cX7_putInto 26 = .ok (.invokevirtual 82, 3) := by decide +kernel
theorem dX7_putInto_29 : decode cX7_putInto 29 = .ok (.aload_n 1, 1) := by decide +kernel
theorem dX7_putInto_30 : decode cX7_putInto 30 = .ok (.aload_n 2, 1) := by decide +kernel
theorem dX7_putInto_31 : decode cX7_putInto 31 = .ok (.putfield 50, 3) := by decide +kernel
theorem dX7_putInto_34 : decode cX7_putInto 34 = .ok (.aload_n 0, 1) := by decide +kernel
theorem dX7_putInto_35 : decode cX7_putInto 35 = .ok (.invokevirtual 56, 3) := by decide +kernel
theorem dX7_putInto_38 : decode cX7_putInto 38 = .ok (.return_, 1) := by decide +kernel
theorem dX7_detach_0 : decode cX7_detach 0 = .ok (.aload_n 1, 1) := by decide +kernel
theorem dX7_detach_1 : decode cX7_detach 1 = .ok (.invokevirtual 85, 3) := by decide +kernel
theorem dX7_detach_4 : decode cX7_detach 4 = .ok (.istore_n 2, 1) := by decide +kernel
theorem dX7_detach_5 : decode cX7_detach 5 = .ok (.aload_n 1, 1) := by decide +kernel
theorem dX7_detach_6 : decode cX7_detach 6 = .ok (.getfield 50, 3) := by decide +kernel
theorem dX7_detach_9 : decode cX7_detach 9 = .ok (.ifnull 38, 3) := by decide +kernel
theorem dX7_detach_12 : decode cX7_detach 12 = .ok (.iload_n 2, 1) := by decide +kernel
theorem dX7_detach_13 : decode cX7_detach 13 = .ok (.ifCond .lt 34, 3) := by decide +kernel
theorem dX7_detach_16 : decode cX7_detach 16 = .ok (.iload_n 2, 1) := by decide +kernel
theorem dX7_detach_17 : decode cX7_detach 17 = .ok (.aload_n 1, 1) := by decide +kernel
theorem dX7_detach_18 : decode cX7_detach 18 = .ok (.getfield 50, 3) := by decide +kernel
theorem dX7_detach_21 : decode cX7_detach 21 = .ok (.getfield 53, 3) := by decide +kernel
theorem dX7_detach_24 : decode cX7_detach 24 = .ok (.invokevirtual 35, 3) := by decide +kernel
theorem dX7_detach_27 : decode cX7_detach 27 = .ok (.if_icmp .ge 20, 3) := by decide +kernel
theorem dX7_detach_30 : decode cX7_detach 30 = .ok (.aload_n 1, 1) := by decide +kernel
theorem dX7_detach_31 : decode cX7_detach 31 = .ok (.getfield 50, 3) := by decide +kernel
theorem dX7_detach_34 : decode cX7_detach 34 = .ok (.getfield 53, 3) := by decide +kernel
theorem dX7_detach_37 : decode cX7_detach 37 = .ok (.iload_n 2, 1) := by decide +kernel
theorem dX7_detach_38 : decode cX7_detach 38 = .ok (.invokevirtual 88, 3) := by decide +kernel
theorem dX7_detach_41 : decode cX7_detach 41 = .ok (.pop, 1) := by decide +kernel
theorem dX7_detach_42 : decode cX7_detach 42 = .ok (.aload_n 1, 1) := by decide +kernel
theorem dX7_detach_43 : decode cX7_detach 43 = .ok (.aconst_null, 1) := by decide +kernel
theorem dX7_detach_44 : decode cX7_detach 44 = .ok (.putfield 50, 3) := by decide +kernel
theorem dX7_detach_47 : decode cX7_detach 47 = .ok (.return_, 1) := by decide +kernel
theorem dX7_listAnew_0 : decode cX7_listAnew 0 = .ok (.aload_n 0, 1) := by decide +kernel
theorem dX7_listAnew_1 : decode cX7_listAnew 1 = .ok (.getfield 18, 3) := by decide +kernel
theorem dX7_listAnew_4 : decode cX7_listAnew 4 = .ok (.invokevirtual 91, 3) := by decide +kernel
theorem dX7_listAnew_7 : decode cX7_listAnew 7 = .ok (.aload_n 0, 1) := by decide +kernel
theorem dX7_listAnew_8 : decode cX7_listAnew 8 = .ok (.getfield 26, 3) := by decide +kernel
theorem dX7_listAnew_11 : decode cX7_listAnew 11 = .ok (.aload_n 0, 1) := by decide +kernel
theorem dX7_listAnew_12 : decode cX7_listAnew 12 = .ok (.getfield 18, 3) := by decide +kernel
theorem dX7_listAnew_15 : decode cX7_listAnew 15 = .ok (.iconst 0, 1) := by decide +kernel
theorem dX7_listAnew_16 : decode cX7_listAnew 16 = .ok (.invokestatic 94, 3) := by decide +kernel
theorem dX7_listAnew_19 : decode cX7_listAnew 19 = .ok (.return_, 1) := by decide +kernel
theorem dX7_listFrom_0 : decode cX7_listFrom 0 = .ok (.iload_n 2, 1) := by decide +kernel
theorem dX7_listFrom_1 : decode cX7_listFrom 1 = .ok (.bipush 10, 2) := by decide +kernel
theorem dX7_listFrom_3 : decode cX7_listFrom 3 = .ok (.if_icmp .le 4, 3) := by decide +kernel
theorem dX7_listFrom_6 : decode cX7_listFrom 6 = .ok (.return_, 1) := by decide +kernel
theorem dX7_listFrom_7 : decode cX7_listFrom 7 = .ok (.aload_n 1, 1) := by decide +kernel
theorem dX7_listFrom_8 : decode cX7_listFrom 8 = .ok (.aload_n 0, 1) := by decide +kernel
theorem dX7_listFrom_9 : decode cX7_listFrom 9 = .ok (.invokevirtual 31, 3) := by decide +kernel
theorem dX7_listFrom_12 : decode cX7_listFrom 12 = .ok (.pop, 1) := by decide +kernel
theorem dX7_listFrom_13 : decode cX7_listFrom 13 = .ok (.iconst 0, 1) := by decide +kernel
theorem dX7_listFrom_14 : decode cX7_listFrom 14 = .ok (.istore_n 3, 1) := by decide +kernel
theorem dX7_listFrom_15 : decode cX7_listFrom 15 = .ok (.iload_n 3, 1) := by decide +kernel
theorem dX7_listFrom_16 : decode cX7_listFrom 16 = .ok (.aload_n 0, 1) := by decide +kernel
theorem dX7_listFrom_17 : decode cX7_listFrom 17 = .ok (.getfield 53, 3) := by decide +kernel
theorem dX7_listFrom_20 : decode cX7_listFrom 20 = .ok (.invokevirtual 35, 3) := by decide +kernel
theorem dX7_listFrom_23 : decode cX7_listFrom 23 = .ok (.if_icmp .ge 27, 3) := by decide +kernel
theorem dX7_listFrom_26 : decode cX7_listFrom 26 = .ok (.aload_n 0, 1) := by decide +kernel
theorem dX7_listFrom_27 : decode cX7_listFrom 27 = .ok (.getfield 53, 3) := by decide +kernel
theorem dX7_listFrom_30 : decode cX7_listFrom 30 = .ok (.iload_n 3, 1) := by decide +kernel
theorem dX7_listFrom_31 : decode cX7_listFrom 31 = .ok (.invokevirtual 39, 3) := by decide +kernel
theorem dX7_listFrom_34 : decode cX7_listFrom 34 = .ok (.checkcast 21, 3) := by decide +kernel
theorem dX7_listFrom_37 : decode cX7_listFrom 37 = .ok (.aload_n 1, 1) := by decide +kernel
theorem dX7_listFrom_38 : decode cX7_listFrom 38 = .ok (.iload_n 2, 1) := by decide +kernel
theorem dX7_listFrom_39 : decode cX7_listFrom 39 = .ok (.iconst 1, 1) := by decide +kernel
theorem dX7_listFrom_40 : decode cX7_listFrom 40 = .ok (.iadd, 1) := by decide +kernel
theorem dX7_listFrom_41 : decode cX7_listFrom 41 = .ok (.invokestatic 94, 3) := by decide +kernel
theorem dX7_listFrom_44 : decode cX7_listFrom 44 = .ok (.iinc 3 1, 3) := by decide +kernel
theorem dX7_listFrom_47 : decode cX7_listFrom 47 = .ok (.goto (-32), 3) := by decide +kernel
theorem dX7_listFrom_50 : decode cX7_listFrom 50 = .ok (.return_, 1) := by decide +kernel
theorem dX7_markGone_0 : decode cX7_markGone 0 = .ok (.iload_n 1, 1) := by decide +kernel
theorem dX7_markGone_1 : decode cX7_markGone 1 = .ok (.bipush 10, 2) := by decide +kernel
theorem dX7_markGone_3 : decode cX7_markGone 3 = .ok (.if_icmp .le 4, 3) := by decide +kernel
theorem dX7_markGone_6 : decode cX7_markGone 6 = .ok (.return_, 1) := by decide +kernel
theorem dX7_markGone_7 : decode cX7_markGone 7 = .ok (.aload_n 0, 1) := by decide +kernel
theorem dX7_markGone_8 : decode cX7_markGone 8 = .ok (.iconst 1, 1) := by decide +kernel
theorem dX7_markGone_9 : decode cX7_markGone 9 = .ok (.putfield 43, 3) := by decide +kernel
theorem dX7_markGone_12 : decode cX7_markGone 12 = .ok (.iconst 0, 1) := by decide +kernel
theorem dX7_markGone_13 : decode cX7_markGone 13 = .ok (.istore_n 2, 1) := by decide +kernel
theorem dX7_markGone_14 : decode cX7_markGone 14 = .ok (.iload_n 2, 1) := by decide +kernel
theorem dX7_markGone_15 : decode cX7_markGone 15 = .ok (.aload_n 0, 1) := by decide +kernel
theorem dX7_markGone_16 : decode cX7_markGone 16 = .ok (.getfield 53, 3) := by decide +kernel
theorem dX7_markGone_19 : decode cX7_markGone 19 = .ok (.invokevirtual 35, 3) := by decide +kernel
theorem dX7_markGone_22 : decode cX7_markGone 22 = .ok (.if_icmp .ge 26, 3) := by decide +kernel
theorem dX7_markGone_25 : decode cX7_markGone 25 = .ok (.aload_n 0, 1) := by decide +kernel
theorem dX7_markGone_26 : decode cX7_markGone 26 = .ok (.getfield 53, 3) := by decide +kernel
theorem dX7_markGone_29 : decode cX7_markGone 29 = .ok (.iload_n 2, 1) := by decide +kernel
theorem dX7_markGone_30 : decode cX7_markGone 30 = .ok (.invokevirtual 39, 3) := by decide +kernel
theorem dX7_markGone_33 : decode cX7_markGone 33 = .ok (.checkcast 21, 3) := by decide +kernel
theorem dX7_markGone_36 : decode cX7_markGone 36 = .ok (.iload_n 1, 1) := by decide +kernel
theorem dX7_markGone_37 : decode cX7_markGone 37 = .ok (.iconst 1, 1) := by decide +kernel
theorem dX7_markGone_38 : decode cX7_markGone 38 = .ok (.iadd, 1) := by decide +kernel
theorem dX7_markGone_39 : decode cX7_markGone 39 = .ok (.invokestatic 67, 3) := by decide +kernel
theorem dX7_markGone_42 : decode cX7_markGone 42 = .ok (.iinc 2 1, 3) := by decide +kernel
theorem dX7_markGone_45 : decode cX7_markGone 45 = .ok (.goto (-31), 3) := by decide +kernel
theorem dX7_markGone_48 : decode cX7_markGone 48 = .ok (.return_, 1) := by decide +kernel
theorem dX7_levelsBelow_0 : decode cX7_levelsBelow 0 = .ok (.iload_n 1, 1) := by decide +kernel
theorem dX7_levelsBelow_1 : decode cX7_levelsBelow 1 = .ok (.bipush 10, 2) := by decide +kernel
theorem dX7_levelsBelow_3 : decode cX7_levelsBelow 3 = .ok (.if_icmp .le 5, 3) := by decide +kernel
theorem dX7_levelsBelow_6 : decode cX7_levelsBelow 6 = .ok (.iconst 0, 1) := by decide +kernel
theorem dX7_levelsBelow_7 : decode cX7_levelsBelow 7 = .ok (.ireturn, 1) := by decide +kernel
theorem dX7_levelsBelow_8 : decode cX7_levelsBelow 8 = .ok (.iconst 0, 1) := by decide +kernel
theorem dX7_levelsBelow_9 : decode cX7_levelsBelow 9 = .ok (.istore_n 2, 1) := by decide +kernel
theorem dX7_levelsBelow_10 : decode cX7_levelsBelow 10 = .ok (.iconst 0, 1) := by decide +kernel
theorem dX7_levelsBelow_11 : decode cX7_levelsBelow 11 = .ok (.istore_n 3, 1) := by decide +kernel
theorem dX7_levelsBelow_12 : decode cX7_levelsBelow 12 = .ok (.iload_n 3, 1) := by decide +kernel
theorem dX7_levelsBelow_13 : decode cX7_levelsBelow 13 = .ok (.aload_n 0, 1) := by decide +kernel
theorem dX7_levelsBelow_14 : decode cX7_levelsBelow 14 = .ok (.getfield 53, 3) := by decide +kernel
theorem dX7_levelsBelow_17 : decode cX7_levelsBelow 17 = .ok (.invokevirtual 35, 3) := by decide +kernel
theorem dX7_levelsBelow_20 : decode cX7_levelsBelow 20 = .ok (.if_icmp .ge 33, 3) := by decide +kernel
theorem dX7_levelsBelow_23 : decode cX7_levelsBelow 23 = .ok (.iload_n 2, 1) := by decide +kernel
theorem dX7_levelsBelow_24 : decode cX7_levelsBelow 24 = .ok (.iconst 1, 1) := by decide +kernel
theorem dX7_levelsBelow_25 : decode cX7_levelsBelow 25 = .ok (.aload_n 0, 1) := by decide +kernel
theorem dX7_levelsBelow_26 : decode cX7_levelsBelow 26 = .ok (.getfield 53, 3) := by decide +kernel
theorem dX7_levelsBelow_29 : decode cX7_levelsBelow 29 = .ok (.iload_n 3, 1) := by decide +kernel
theorem dX7_levelsBelow_30 : decode cX7_levelsBelow 30 = .ok (.invokevirtual 39, 3) := by decide +kernel
theorem dX7_levelsBelow_33 : decode cX7_levelsBelow 33 = .ok (.checkcast 21, 3) := by decide +kernel
theorem dX7_levelsBelow_36 : decode cX7_levelsBelow 36 = .ok (.iload_n 1, 1) := by decide +kernel
theorem dX7_levelsBelow_37 : decode cX7_levelsBelow 37 = .ok (.iconst 1, 1) := by decide +kernel
theorem dX7_levelsBelow_38 : decode cX7_levelsBelow 38 = .ok (.iadd, 1) := by decide +kernel
theorem dX7_levelsBelow_39 : decode cX7_levelsBelow 39 = .ok (.invokestatic 78, 3) := by decide +kernel
theorem dX7_levelsBelow_42 : decode cX7_levelsBelow 42 = .ok (.iadd, 1) := by decide +kernel
theorem dX7_levelsBelow_43 : decode cX7_levelsBelow 43 = .ok (.invokestatic 98, 3) := by decide +kernel
theorem dX7_levelsBelow_46 : decode cX7_levelsBelow 46 = .ok (.istore_n 2, 1) := by decide +kernel
theorem dX7_levelsBelow_47 : decode cX7_levelsBelow 47 = .ok (.iinc 3 1, 3) := by decide +kernel
theorem dX7_levelsBelow_50 : decode cX7_levelsBelow 50 = .ok (.goto (-38), 3) := by decide +kernel
theorem dX7_levelsBelow_53 : decode cX7_levelsBelow 53 = .ok (.iload_n 2, 1) := by decide +kernel
theorem dX7_levelsBelow_54 : decode cX7_levelsBelow 54 = .ok (.ireturn, 1) := by decide +kernel
theorem dX8_init_0 : decode cX8_init 0 = .ok (.aload_n 0, 1) := by decide +kernel
theorem dX8_init_1 : decode cX8_init 1 = .ok (.invokespecial 3, 3) := by decide +kernel
theorem dX8_init_4 : decode cX8_init 4 = .ok (.aload_n 0, 1) := by decide +kernel
theorem dX8_init_5 : decode cX8_init 5 = .ok (.sipush 800, 3) := by decide +kernel
theorem dX8_init_8 : decode cX8_init 8 = .ok (.anewarray 11, 3) := by decide +kernel
theorem dX8_init_11 : decode cX8_init 11 = .ok (.putfield 13, 3) := by decide +kernel
theorem dX8_init_14 : decode cX8_init 14 = .ok (.aload_n 0, 1) := by decide +kernel
theorem dX8_init_15 : decode cX8_init 15 = .ok (.sipush 800, 3) := by decide +kernel
theorem dX8_init_18 : decode cX8_init 18 = .ok (.newarray .int, 2) := by decide +kernel
theorem dX8_init_20 : decode cX8_init 20 = .ok (.putfield 17, 3) := by decide +kernel
theorem dX8_init_23 : decode cX8_init 23 = .ok (.aload_n 0, 1) := by decide +kernel
theorem dX8_init_24 : decode cX8_init 24 = .ok (.sipush 800, 3) := by decide +kernel
theorem dX8_init_27 : decode cX8_init 27 = .ok (.newarray .int, 2) := by decide +kernel
end
section
theorem dX8_init_29 : decode cX8_init 29 = .ok (.putfield 21, 3) := by decide +kernel
theorem dX8_init_32 : decode cX8_init 32 = .ok (.aload_n 0, 1) := by decide +kernel
theorem dX8_init_33 : decode cX8_init 33 = .ok (.sipush 800, 3) := by decide +kernel
theorem dX8_init_36 : decode cX8_init 36 = .ok (.newarray .int, 2) := by decide +kernel
theorem dX8_init_38 : decode cX8_init 38 = .ok (.putfield 24, 3) := by decide +kernel
theorem dX8_init_41 : decode cX8_init 41 = .ok (.aload_n 0, 1) := by decide +kernel
theorem dX8_init_42 : decode cX8_init 42 = .ok (.iconst 0, 1) := by decide +kernel
theorem dX8_init_43 : decode cX8_init 43 = .ok (.putfield 27, 3) := by decide +kernel
theorem dX8_init_46 : decode cX8_init 46 = .ok (.aload_n 0, 1) := by decide +kernel
theorem dX8_init_47 : decode cX8_init 47 = .ok (.iconst 0, 1) := by decide +kernel
theorem dX8_init_48 : decode cX8_init 48 = .ok (.putfield 31, 3) := by decide +kernel
theorem dX8_init_51 : decode cX8_init 51 = .ok (.aload_n 0, 1) := by decide +kernel
theorem dX8_init_52 : decode cX8_init 52 = .ok (.iconst 0, 1) := by decide +kernel
theorem dX8_init_53 : decode cX8_init 53 = .ok (.putfield 34, 3) := by decide +kernel
theorem dX8_init_56 : decode cX8_init 56 = .ok (.return_, 1) := by decide +kernel
theorem dX8_clear_0 : decode cX8_clear 0 = .ok (.aload_n 0, 1) := by decide +kernel
theorem dX8_clear_1 : decode cX8_clear 1 = .ok (.iconst 0, 1) := by decide +kernel
theorem dX8_clear_2 : decode cX8_clear 2 = .ok (.putfield 27, 3) := by decide +kernel
theorem dX8_clear_5 : decode cX8_clear 5 = .ok (.return_, 1) := by decide +kernel
theorem dX8_add_0 : decode cX8_add 0 = .ok (.iconst 0, 1) := by decide +kernel
theorem dX8_add_1 : decode cX8_add 1 = .ok (.istore_n 3, 1) := by decide +kernel
theorem dX8_add_2 : decode cX8_add 2 = .ok (.iload_n 3, 1) := by decide +kernel
theorem dX8_add_3 : decode cX8_add 3 = .ok (.aload_n 1, 1) := by decide +kernel
theorem dX8_add_4 : decode cX8_add 4 = .ok (.getfield 37, 3) := by decide +kernel
theorem dX8_add_7 : decode cX8_add 7 = .ok (.if_icmp .ge 82, 3) := by decide +kernel
theorem dX8_add_10 : decode cX8_add 10 = .ok (.aload_n 0, 1) := by decide +kernel
theorem dX8_add_11 : decode cX8_add 11 = .ok (.getfield 27, 3) := by decide +kernel
theorem dX8_add_14 : decode cX8_add 14 = .ok (.ifCond .lt 75, 3) := by decide +kernel
theorem dX8_add_17 : decode cX8_add 17 = .ok (.aload_n 0, 1) := by decide +kernel
theorem dX8_add_18 : decode cX8_add 18 = .ok (.getfield 27, 3) := by decide +kernel
theorem dX8_add_21 : decode cX8_add 21 = .ok (.sipush 800, 3) := by decide +kernel
theorem dX8_add_24 : decode cX8_add 24 = .ok (.if_icmp .ge 65, 3) := by decide +kernel
theorem dX8_add_27 : decode cX8_add 27 = .ok (.aload_n 0, 1) := by decide +kernel
theorem dX8_add_28 : decode cX8_add 28 = .ok (.getfield 13, 3) := by decide +kernel
theorem dX8_add_31 : decode cX8_add 31 = .ok (.aload_n 0, 1) := by decide +kernel
theorem dX8_add_32 : decode cX8_add 32 = .ok (.getfield 27, 3) := by decide +kernel
theorem dX8_add_35 : decode cX8_add 35 = .ok (.aload_n 1, 1) := by decide +kernel
theorem dX8_add_36 : decode cX8_add 36 = .ok (.aastore, 1) := by decide +kernel
theorem dX8_add_37 : decode cX8_add 37 = .ok (.aload_n 0, 1) := by decide +kernel
theorem dX8_add_38 : decode cX8_add 38 = .ok (.getfield 17, 3) := by decide +kernel
theorem dX8_add_41 : decode cX8_add 41 = .ok (.aload_n 0, 1) := by decide +kernel
theorem dX8_add_42 : decode cX8_add 42 = .ok (.getfield 27, 3) := by decide +kernel
theorem dX8_add_45 : decode cX8_add 45 = .ok (.iload_n 3, 1) := by decide +kernel
theorem dX8_add_46 : decode cX8_add 46 = .ok (.iastore, 1) := by decide +kernel
theorem dX8_add_47 : decode cX8_add 47 = .ok (.aload_n 0, 1) := by decide +kernel
theorem dX8_add_48 : decode cX8_add 48 = .ok (.getfield 21, 3) := by decide +kernel
theorem dX8_add_51 : decode cX8_add 51 = .ok (.aload_n 0, 1) := by decide +kernel
theorem dX8_add_52 : decode cX8_add 52 = .ok (.getfield 27, 3) := by decide +kernel
theorem dX8_add_55 : decode cX8_add 55 = .ok (.aload_n 1, 1) := by decide +kernel
theorem dX8_add_56 : decode cX8_add 56 = .ok (.iload_n 3, 1) := by decide +kernel
theorem dX8_add_57 : decode cX8_add 57 = .ok (.invokevirtual 39, 3) := by decide +kernel
theorem dX8_add_60 : decode cX8_add 60 = .ok (.iload_n 2, 1) := by decide +kernel
theorem dX8_add_61 : decode cX8_add 61 = .ok (.imul, 1) := by decide +kernel
theorem dX8_add_62 : decode cX8_add 62 = .ok (.iastore, 1) := by decide +kernel
theorem dX8_add_63 : decode cX8_add 63 = .ok (.aload_n 0, 1) := by decide +kernel
theorem dX8_add_64 : decode cX8_add 64 = .ok (.getfield 24, 3) := by decide +kernel
theorem dX8_add_67 : decode cX8_add 67 = .ok (.aload_n 0, 1) := by decide +kernel
theorem dX8_add_68 : decode cX8_add 68 = .ok (.getfield 27, 3) := by decide +kernel
theorem dX8_add_71 : decode cX8_add 71 = .ok (.iload_n 2, 1) := by decide +kernel
theorem dX8_add_72 : decode cX8_add 72 = .ok (.iastore, 1) := by decide +kernel
theorem dX8_add_73 : decode cX8_add 73 = .ok (.aload_n 0, 1) := by decide +kernel
theorem dX8_add_74 : decode cX8_add 74 = .ok (.dup, 1) := by decide +kernel
theorem dX8_add_75 : decode cX8_add 75 = .ok (.getfield 27, 3) := by decide +kernel
theorem dX8_add_78 : decode cX8_add 78 = .ok (.iconst 1, 1) := by decide +kernel
theorem dX8_add_79 : decode cX8_add 79 = .ok (.iadd, 1) := by decide +kernel
theorem dX8_add_80 : decode cX8_add 80 = .ok (.putfield 27, 3) := by decide +kernel
theorem dX8_add_83 : decode cX8_add 83 = .ok (.iinc 3 1, 3) := by decide +kernel
theorem dX8_add_86 : decode cX8_add 86 = .ok (.goto (-84), 3) := by decide +kernel
theorem dX8_add_89 : decode cX8_add 89 = .ok (.return_, 1) := by decide +kernel
theorem dX8_widthOf_0 : decode cX8_widthOf 0 = .ok (.iload_n 1, 1) := by decide +kernel
theorem dX8_widthOf_1 : decode cX8_widthOf 1 = .ok (.ifCond .lt 19, 3) := by decide +kernel
theorem dX8_widthOf_4 : decode cX8_widthOf 4 = .ok (.iload_n 1, 1) := by decide +kernel
theorem dX8_widthOf_5 : decode cX8_widthOf 5 = .ok (.sipush 800, 3) := by decide +kernel
theorem dX8_widthOf_8 : decode cX8_widthOf 8 = .ok (.if_icmp .ge 12, 3) := by decide +kernel
theorem dX8_widthOf_11 : decode cX8_widthOf 11 = .ok (.aload_n 0, 1) := by decide +kernel
theorem dX8_widthOf_12 : decode cX8_widthOf 12 = .ok (.getfield 21, 3) := by decide +kernel
theorem dX8_widthOf_15 : decode cX8_widthOf 15 = .ok (.iload_n 1, 1) := by decide +kernel
theorem dX8_widthOf_16 : decode cX8_widthOf 16 = .ok (.iaload, 1) := by decide +kernel
theorem dX8_widthOf_17 : decode cX8_widthOf 17 = .ok (.goto 4, 3) := by decide +kernel
theorem dX8_widthOf_20 : decode cX8_widthOf 20 = .ok (.iconst 0, 1) := by decide +kernel
theorem dX8_widthOf_21 : decode cX8_widthOf 21 = .ok (.ireturn, 1) := by decide +kernel
theorem dX8_takeLine_0 : decode cX8_takeLine 0 = .ok (.aload_n 0, 1) := by decide +kernel
theorem dX8_takeLine_1 : decode cX8_takeLine 1 = .ok (.iconst 0, 1) := by decide +kernel
theorem dX8_takeLine_2 : decode cX8_takeLine 2 = .ok (.putfield 31, 3) := by decide +kernel
theorem dX8_takeLine_5 : decode cX8_takeLine 5 = .ok (.aload_n 0, 1) := by decide +kernel
theorem dX8_takeLine_6 : decode cX8_takeLine 6 = .ok (.iconst 0, 1) := by decide +kernel
theorem dX8_takeLine_7 : decode cX8_takeLine 7 = .ok (.putfield 34, 3) := by decide +kernel
theorem dX8_takeLine_10 : decode cX8_takeLine 10 = .ok (.iconst 0, 1) := by decide +kernel
theorem dX8_takeLine_11 : decode cX8_takeLine 11 = .ok (.istore_n 3, 1) := by decide +kernel
theorem dX8_takeLine_12 : decode cX8_takeLine 12 = .ok (.iconst 0, 1) := by decide +kernel
theorem dX8_takeLine_13 : decode cX8_takeLine 13 = .ok (.iload_n 1, 1) := by decide +kernel
theorem dX8_takeLine_14 : decode cX8_takeLine 14 = .ok (.invokestatic 43, 3) := by decide +kernel
theorem dX8_takeLine_17 : decode cX8_takeLine 17 = .ok (.istore 4, 2) := by decide +kernel
theorem dX8_takeLine_19 : decode cX8_takeLine 19 = .ok (.iload 4, 2) := by decide +kernel
theorem dX8_takeLine_21 : decode cX8_takeLine 21 = .ok (.aload_n 0, 1) := by decide +kernel
theorem dX8_takeLine_22 : decode cX8_takeLine 22 = .ok (.getfield 27, 3) := by decide +kernel
theorem dX8_takeLine_25 : decode cX8_takeLine 25 = .ok (.if_icmp .ge 88, 3) := by decide +kernel
theorem dX8_takeLine_28 : decode cX8_takeLine 28 = .ok (.iload 4, 2) := by decide +kernel
theorem dX8_takeLine_30 : decode cX8_takeLine 30 = .ok (.sipush 800, 3) := by decide +kernel
theorem dX8_takeLine_33 : decode cX8_takeLine 33 = .ok (.if_icmp .ge 80, 3) := by decide +kernel
theorem dX8_takeLine_36 : decode cX8_takeLine 36 = .ok (.iload 4, 2) := by decide +kernel
theorem dX8_takeLine_38 : decode cX8_takeLine 38 = .ok (.iload_n 1, 1) := by decide +kernel
theorem dX8_takeLine_39 : decode cX8_takeLine 39 = .ok (.if_icmp .le 24, 3) := by decide +kernel
theorem dX8_takeLine_42 : decode cX8_takeLine 42 = .ok (.aload_n 0, 1) := by decide +kernel
theorem dX8_takeLine_43 : decode cX8_takeLine 43 = .ok (.getfield 31, 3) := by decide +kernel
theorem dX8_takeLine_46 : decode cX8_takeLine 46 = .ok (.iload_n 3, 1) := by decide +kernel
theorem dX8_takeLine_47 : decode cX8_takeLine 47 = .ok (.iadd, 1) := by decide +kernel
theorem dX8_takeLine_48 : decode cX8_takeLine 48 = .ok (.aload_n 0, 1) := by decide +kernel
theorem dX8_takeLine_49 : decode cX8_takeLine 49 = .ok (.getfield 21, 3) := by decide +kernel
theorem dX8_takeLine_52 : decode cX8_takeLine 52 = .ok (.iload 4, 2) := by decide +kernel
theorem dX8_takeLine_54 : decode cX8_takeLine 54 = .ok (.iaload, 1) := by decide +kernel
theorem dX8_takeLine_55 : decode cX8_takeLine 55 = .ok (.iadd, 1) := by decide +kernel
theorem dX8_takeLine_56 : decode cX8_takeLine 56 = .ok (.iload_n 2, 1) := by decide +kernel
theorem dX8_takeLine_57 : decode cX8_takeLine 57 = .ok (.if_icmp .le 6, 3) := by decide +kernel
theorem dX8_takeLine_60 : decode cX8_takeLine 60 = .ok (.iload 4, 2) := by decide +kernel
theorem dX8_takeLine_62 : decode cX8_takeLine 62 = .ok (.ireturn, 1) := by decide +kernel
theorem dX8_takeLine_63 : decode cX8_takeLine 63 = .ok (.aload_n 0, 1) := by decide +kernel
theorem dX8_takeLine_64 : decode cX8_takeLine 64 = .ok (.dup, 1) := by decide +kernel
theorem dX8_takeLine_65 : decode cX8_takeLine 65 = .ok (.getfield 31, 3) := by decide +kernel
theorem dX8_takeLine_68 : decode cX8_takeLine 68 = .ok (.iload_n 3, 1) := by decide +kernel
theorem dX8_takeLine_69 : decode cX8_takeLine 69 = .ok (.aload_n 0, 1) := by decide +kernel
theorem dX8_takeLine_70 : decode cX8_takeLine 70 = .ok (.getfield 21, 3) := by decide +kernel
theorem dX8_takeLine_73 : decode cX8_takeLine 73 = .ok (.iload 4, 2) := by decide +kernel
theorem dX8_takeLine_75 : decode cX8_takeLine 75 = .ok (.iaload, 1) := by decide +kernel
theorem dX8_takeLine_76 : decode cX8_takeLine 76 = .ok (.iadd, 1) := by decide +kernel
theorem dX8_takeLine_77 : decode cX8_takeLine 77 = .ok (.iadd, 1) := by decide +kernel
theorem dX8_takeLine_78 : decode cX8_takeLine 78 = .ok (.putfield 31, 3) := by decide +kernel
theorem dX8_takeLine_81 : decode cX8_takeLine 81 = .ok (.aload_n 0, 1) := by decide +kernel
theorem dX8_takeLine_82 : decode cX8_takeLine 82 = .ok (.aload_n 0, 1) := by decide +kernel
theorem dX8_takeLine_83 : decode cX8_takeLine 83 = .ok (.getfield 34, 3) := by decide +kernel
theorem dX8_takeLine_86 : decode cX8_takeLine 86 = .ok (.aload_n 0, 1) := by decide +kernel
theorem dX8_takeLine_87 : decode cX8_takeLine 87 = .ok (.getfield 24, 3) := by decide +kernel
theorem dX8_takeLine_90 : decode cX8_takeLine 90 = .ok (.iload 4, 2) := by decide +kernel
theorem dX8_takeLine_92 : decode cX8_takeLine 92 = .ok (.iaload, 1) := by decide +kernel
theorem dX8_takeLine_93 : decode cX8_takeLine 93 = .ok (.invokestatic 43, 3) := by decide +kernel
theorem dX8_takeLine_96 : decode cX8_takeLine 96 = .ok (.putfield 34, 3) := by decide +kernel
theorem dX8_takeLine_99 : decode cX8_takeLine 99 = .ok (.aload_n 0, 1) := by decide +kernel
theorem dX8_takeLine_100 : decode cX8_takeLine 100 = .ok (.getfield 24, 3) := by decide +kernel
theorem dX8_takeLine_103 : decode cX8_takeLine 103 = .ok (.iload 4, 2) := by decide +kernel
theorem dX8_takeLine_105 : decode cX8_takeLine 105 = .ok (.iaload, 1) := by decide +kernel
theorem dX8_takeLine_106 : decode cX8_takeLine 106 = .ok (.istore_n 3, 1) := by decide +kernel
theorem dX8_takeLine_107 : decode cX8_takeLine 107 = .ok (.iinc 4 1, 3) := by decide +kernel
theorem dX8_takeLine_110 : decode cX8_takeLine 110 = .ok (.goto (-91), 3) := by decide +kernel
theorem dX8_takeLine_113 : decode cX8_takeLine 113 = .ok (.aload_n 0, 1) := by decide +kernel
theorem dX8_takeLine_114 : decode cX8_takeLine 114 = .ok (.getfield 27, 3) := by decide +kernel
theorem dX8_takeLine_117 : decode cX8_takeLine 117 = .ok (.ireturn, 1) := by decide +kernel
theorem dX8_setLine_0 : decode cX8_setLine 0 = .ok (.iload_n 3, 1) := by decide +kernel
theorem dX8_setLine_1 : decode cX8_setLine 1 = .ok (.istore 5, 2) := by decide +kernel
theorem dX8_setLine_3 : decode cX8_setLine 3 = .ok (.iconst 0, 1) := by decide +kernel
theorem dX8_setLine_4 : decode cX8_setLine 4 = .ok (.iload_n 1, 1) := by decide +kernel
theorem dX8_setLine_5 : decode cX8_setLine 5 = .ok (.invokestatic 43, 3) := by decide +kernel
theorem dX8_setLine_8 : decode cX8_setLine 8 = .ok (.istore 6, 2) := by decide +kernel
theorem dX8_setLine_10 : decode cX8_setLine 10 = .ok (.iload 6, 2) := by decide +kernel
theorem dX8_setLine_12 : decode cX8_setLine 12 = .ok (.iload_n 2, 1) := by decide +kernel
theorem dX8_setLine_13 : decode cX8_setLine 13 = .ok (.if_icmp .ge 80, 3) := by decide +kernel
theorem dX8_setLine_16 : decode cX8_setLine 16 = .ok (.iload 6, 2) := by decide +kernel
theorem dX8_setLine_18 : decode cX8_setLine 18 = .ok (.aload_n 0, 1) := by decide +kernel
theorem dX8_setLine_19 : decode cX8_setLine 19 = .ok (.getfield 27, 3) := by decide +kernel
theorem dX8_setLine_22 : decode cX8_setLine 22 = .ok (.if_icmp .ge 71, 3) := by decide +kernel
theorem dX8_setLine_25 : decode cX8_setLine 25 = .ok (.iload 6, 2) := by decide +kernel
theorem dX8_setLine_27 : decode cX8_setLine 27 = .ok (.sipush 800, 3) := by decide +kernel
theorem dX8_setLine_30 : decode cX8_setLine 30 = .ok (.if_icmp .ge 63, 3) := by decide +kernel
theorem dX8_setLine_33 : decode cX8_setLine 33 = .ok (.aload_n 0, 1) := by decide +kernel
theorem dX8_setLine_34 : decode cX8_setLine 34 = .ok (.getfield 13, 3) := by decide +kernel
theorem dX8_setLine_37 : decode cX8_setLine 37 = .ok (.iload 6, 2) := by decide +kernel
theorem dX8_setLine_39 : decode cX8_setLine 39 = .ok (.aaload, 1) := by decide +kernel
theorem dX8_setLine_40 : decode cX8_setLine 40 = .ok (.ifnull 27, 3) := by decide +kernel
theorem dX8_setLine_43 : decode cX8_setLine 43 = .ok (.aload_n 0, 1) := by decide +kernel
theorem dX8_setLine_44 : decode cX8_setLine 44 = .ok (.getfield 13, 3) := by decide +kernel
theorem dX8_setLine_47 : decode cX8_setLine 47 = .ok (.iload 6, 2) := by decide +kernel
theorem dX8_setLine_49 : decode cX8_setLine 49 = .ok (.aaload, 1) := by decide +kernel
theorem dX8_setLine_50 : decode cX8_setLine 50 = .ok (.getfield 49, 3) := by decide +kernel
theorem dX8_setLine_53 : decode cX8_setLine 53 = .ok (.aload_n 0, 1) := by decide +kernel
theorem dX8_setLine_54 : decode cX8_setLine 54 = .ok (.getfield 17, 3) := by decide +kernel
theorem dX8_setLine_57 : decode cX8_setLine 57 = .ok (.iload 6, 2) := by decide +kernel
theorem dX8_setLine_59 : decode cX8_setLine 59 = .ok (.iaload, 1) := by decide +kernel
theorem dX8_setLine_60 : decode cX8_setLine 60 = .ok (.iload 5, 2) := by decide +kernel
theorem dX8_setLine_62 : decode cX8_setLine 62 = .ok (.iload 4, 2) := by decide +kernel
theorem dX8_setLine_64 : decode cX8_setLine 64 = .ok (.invokevirtual 53, 3) := by decide +kernel
theorem dX8_setLine_67 : decode cX8_setLine 67 = .ok (.iload 5, 2) := by decide +kernel
theorem dX8_setLine_69 : decode cX8_setLine 69 = .ok (.aload_n 0, 1) := by decide +kernel
theorem dX8_setLine_70 : decode cX8_setLine 70 = .ok (.getfield 21, 3) := by decide +kernel
theorem dX8_setLine_73 : decode cX8_setLine 73 = .ok (.iload 6, 2) := by decide +kernel
theorem dX8_setLine_75 : decode cX8_setLine 75 = .ok (.iaload, 1) := by decide +kernel
theorem dX8_setLine_76 : decode cX8_setLine 76 = .ok (.aload_n 0, 1) := by decide +kernel
theorem dX8_setLine_77 : decode cX8_setLine 77 = .ok (.getfield 24, 3) := by decide +kernel
theorem dX8_setLine_80 : decode cX8_setLine 80 = .ok (.iload 6, 2) := by decide +kernel
theorem dX8_setLine_82 : decode cX8_setLine 82 = .ok (.iaload, 1) := by decide +kernel
theorem dX8_setLine_83 : decode cX8_setLine 83 = .ok (.iadd, 1) := by decide +kernel
theorem dX8_setLine_84 : decode cX8_setLine 84 = .ok (.iadd, 1) := by decide +kernel
theorem dX8_setLine_85 : decode cX8_setLine 85 = .ok (.istore 5, 2) := by decide +kernel
theorem dX8_setLine_87 : decode cX8_setLine 87 = .ok (.iinc 6 1, 3) := by decide +kernel
theorem dX8_setLine_90 : decode cX8_setLine 90 = .ok (.goto (-80), 3) := by decide +kernel
theorem dX8_setLine_93 : decode cX8_setLine 93 = .ok (.return_, 1) := by decide +kernel
theorem dX9_init_0 : decode cX9_init 0 = .ok (.aload_n 0, 1) := by decide +kernel
theorem dX9_init_1 : decode cX9_init 1 = .ok (.invokespecial 1, 3) := by decide +kernel
theorem dX9_init_4 : decode cX9_init 4 = .ok (.aload_n 0, 1) := by decide +kernel
theorem dX9_init_5 : decode cX9_init 5 = .ok (.invokestatic 7, 3) := by decide +kernel
theorem dX9_init_8 : decode cX9_init 8 = .ok (.putfield 13, 3) := by decide +kernel
theorem dX9_init_11 : decode cX9_init 11 = .ok (.aload_n 0, 1) := by decide +kernel
theorem dX9_init_12 : decode cX9_init 12 = .ok (.new 19, 3) := by decide +kernel
theorem dX9_init_15 : decode cX9_init 15 = .ok (.dup, 1) := by decide +kernel
theorem dX9_init_16 : decode cX9_init 16 = .ok (.invokespecial 21, 3) := by decide +kernel
theorem dX9_init_19 : decode cX9_init 19 = .ok (.putfield 22, 3) := by decide +kernel
theorem dX9_init_22 : decode cX9_init 22 = .ok (.aload_n 0, 1) := by decide +kernel
theorem dX9_init_23 : decode cX9_init 23 = .ok (.new 26, 3) := by decide +kernel
theorem dX9_init_26 : decode cX9_init 26 = .ok (.dup, 1) := by decide +kernel
theorem dX9_init_27 : decode cX9_init 27 = .ok (.invokespecial 28, 3) := by decide +kernel
theorem dX9_init_30 : decode cX9_init 30 = .ok (.putfield 29, 3) := by decide +kernel
theorem dX9_init_33 : decode cX9_init 33 = .ok (.aload_n 0, 1) := by decide +kernel
theorem dX9_init_34 : decode cX9_init 34 = .ok (.aload_n 0, 1) := by decide +kernel
theorem dX9_init_35 : decode cX9_init 35 = .ok (.getfield 29, 3) := by decide +kernel
theorem dX9_init_38 : decode cX9_init 38 = .ok (.getfield 33, 3) := by decide +kernel
theorem dX9_init_41 : decode cX9_init 41 = .ok (.putfield 37, 3) := by decide +kernel
theorem dX9_init_44 : decode cX9_init 44 = .ok (.aload_n 0, 1) := by decide +kernel
theorem dX9_init_45 : decode cX9_init 45 = .ok (.new 38, 3) := by decide +kernel
theorem dX9_init_48 : decode cX9_init 48 = .ok (.dup, 1) := by decide +kernel
theorem dX9_init_49 : decode cX9_init 49 = .ok (.invokespecial 40, 3) := by decide +kernel
theorem dX9_init_52 : decode cX9_init 52 = .ok (.putfield 41, 3) := by decide +kernel
theorem dX9_init_55 : decode cX9_init 55 = .ok (.aload_n 0, 1) := by decide +kernel
theorem dX9_init_56 : decode cX9_init 56 = .ok (.sipush 400, 3) := by decide +kernel
theorem dX9_init_59 : decode cX9_init 59 = .ok (.putfield 44, 3) := by decide +kernel
theorem dX9_init_62 : decode cX9_init 62 = .ok (.return_, 1) := by decide +kernel
theorem dX9_addElement_0 : decode cX9_addElement 0 = .ok (.aload_n 0, 1) := by decide +kernel
theorem dX9_addElement_1 : decode cX9_addElement 1 = .ok (.iload_n 1, 1) := by decide +kernel
theorem dX9_addElement_2 : decode cX9_addElement 2 = .ok (.invokevirtual 48, 3) := by decide +kernel
theorem dX9_addElement_5 : decode cX9_addElement 5 = .ok (.astore_n 3, 1) := by decide +kernel
theorem dX9_addElement_6 : decode cX9_addElement 6 = .ok (.aload_n 3, 1) := by decide +kernel
theorem dX9_addElement_7 : decode cX9_addElement 7 = .ok (.getfield 52, 3) := by decide +kernel
theorem dX9_addElement_10 : decode cX9_addElement 10 = .ok (.ifCond .ne 13, 3) := by decide +kernel
theorem dX9_addElement_13 : decode cX9_addElement 13 = .ok (.iload_n 2, 1) := by decide +kernel
theorem dX9_addElement_14 : decode cX9_addElement 14 = .ok (.ifCond .lt 9, 3) := by decide +kernel
theorem dX9_addElement_17 : decode cX9_addElement 17 = .ok (.iload_n 2, 1) := by decide +kernel
theorem dX9_addElement_18 : decode cX9_addElement 18 = .ok (.bipush 7, 2) := by decide +kernel
theorem dX9_addElement_20 : decode cX9_addElement 20 = .ok (.if_icmp .le 13, 3) := by decide +kernel
theorem dX9_addElement_23 : decode cX9_addElement 23 = .ok (.new 58, 3) := by decide +kernel
theorem dX9_addElement_26 : decode cX9_addElement 26 = .ok (.dup, 1) := by decide +kernel
theorem dX9_addElement_27 : decode cX9_addElement 27 = .ok (.ldc 60, 2) := by decide +kernel
theorem dX9_addElement_29 : decode cX9_addElement 29 = .ok (.invokespecial 62, 3) := by decide +kernel
theorem dX9_addElement_32 : decode cX9_addElement 32 = .ok (.athrow, 1) := by decide +kernel
theorem dX9_addElement_33 : decode cX9_addElement 33 = .ok (.aload_n 0, 1) := by decide +kernel
theorem dX9_addElement_34 : decode cX9_addElement 34 = .ok (.getfield 13, 3) := by decide +kernel
theorem dX9_addElement_37 : decode cX9_addElement 37 = .ok (.aload_n 3, 1) := by decide +kernel
theorem dX9_addElement_38 : decode cX9_addElement 38 = .ok (.invokevirtual 65, 3) := by decide +kernel
theorem dX9_addElement_41 : decode cX9_addElement 41 = .ok (.ifCond .ne 13, 3) := by decide +kernel
theorem dX9_addElement_44 : decode cX9_addElement 44 = .ok (.new 69, 3) := by decide +kernel
theorem dX9_addElement_47 : decode cX9_addElement 47 = .ok (.dup, 1) := by decide +kernel
theorem dX9_addElement_48 : decode cX9_addElement 48 = .ok (.ldc 71, 2) := by decide +kernel
theorem dX9_addElement_50 : decode cX9_addElement 50 = .ok (.invokespecial 73, 3) := by decide +kernel
theorem dX9_addElement_53 : decode cX9_addElement 53 = .ok (.athrow, 1) := by decide +kernel
theorem dX9_addElement_54 : decode cX9_addElement 54 = .ok (.aload_n 0, 1) := by decide +kernel
theorem dX9_addElement_55 : decode cX9_addElement 55 = .ok (.invokevirtual 74, 3) := by decide +kernel
theorem dX9_addElement_58 : decode cX9_addElement 58 = .ok (.aload_n 0, 1) := by decide +kernel
theorem dX9_addElement_59 : decode cX9_addElement 59 = .ok (.getfield 13, 3) := by decide +kernel
theorem dX9_addElement_62 : decode cX9_addElement 62 = .ok (.aload_n 3, 1) := by decide +kernel
theorem dX9_addElement_63 : decode cX9_addElement 63 = .ok (.iconst 0, 1) := by decide +kernel
theorem dX9_addElement_64 : decode cX9_addElement 64 = .ok (.iload_n 2, 1) := by decide +kernel
theorem dX9_addElement_65 : decode cX9_addElement 65 = .ok (.invokevirtual 77, 3) := by decide +kernel
theorem dX9_addElement_68 : decode cX9_addElement 68 = .ok (.ireturn, 1) := by decide +kernel
theorem dX9_addText_0 : decode cX9_addText 0 = .ok (.aload_n 0, 1) := by decide +kernel
theorem dX9_addText_1 : decode cX9_addText 1 = .ok (.iload_n 1, 1) := by decide +kernel
theorem dX9_addText_2 : decode cX9_addText 2 = .ok (.invokevirtual 48, 3) := by decide +kernel
theorem dX9_addText_5 : decode cX9_addText 5 = .ok (.astore_n 2, 1) := by decide +kernel
theorem dX9_addText_6 : decode cX9_addText 6 = .ok (.aload_n 2, 1) := by decide +kernel
theorem dX9_addText_7 : decode cX9_addText 7 = .ok (.getfield 52, 3) := by decide +kernel
theorem dX9_addText_10 : decode cX9_addText 10 = .ok (.ifCond .eq 13, 3) := by decide +kernel
theorem dX9_addText_13 : decode cX9_addText 13 = .ok (.new 58, 3) := by decide +kernel
theorem dX9_addText_16 : decode cX9_addText 16 = .ok (.dup, 1) := by decide +kernel
theorem dX9_addText_17 : decode cX9_addText 17 = .ok (.ldc 81, 2) := by decide +kernel
theorem dX9_addText_19 : decode cX9_addText 19 = .ok (.invokespecial 62, 3) := by decide +kernel
theorem dX9_addText_22 : decode cX9_addText 22 = .ok (.athrow, 1) := by decide +kernel
theorem dX9_addText_23 : decode cX9_addText 23 = .ok (.aload_n 0, 1) := by decide +kernel
theorem dX9_addText_24 : decode cX9_addText 24 = .ok (.getfield 13, 3) := by decide +kernel
theorem dX9_addText_27 : decode cX9_addText 27 = .ok (.aload_n 2, 1) := by decide +kernel
theorem dX9_addText_28 : decode cX9_addText 28 = .ok (.invokevirtual 65, 3) := by decide +kernel
theorem dX9_addText_31 : decode cX9_addText 31 = .ok (.ifCond .ne 13, 3) := by decide +kernel
theorem dX9_addText_34 : decode cX9_addText 34 = .ok (.new 69, 3) := by decide +kernel
theorem dX9_addText_37 : decode cX9_addText 37 = .ok (.dup, 1) := by decide +kernel
theorem dX9_addText_38 : decode cX9_addText 38 = .ok (.ldc 71, 2) := by decide +kernel
theorem dX9_addText_40 : decode cX9_addText 40 = .ok (.invokespecial 73, 3) := by decide +kernel
theorem dX9_addText_43 : decode cX9_addText 43 = .ok (.athrow, 1) := by decide +kernel
theorem dX9_addText_44 : decode cX9_addText 44 = .ok (.aload_n 0, 1) := by decide +kernel
theorem dX9_addText_45 : decode cX9_addText 45 = .ok (.invokevirtual 74, 3) := by decide +kernel
theorem dX9_addText_48 : decode cX9_addText 48 = .ok (.aload_n 0, 1) := by decide +kernel
theorem dX9_addText_49 : decode cX9_addText 49 = .ok (.getfield 13, 3) := by decide +kernel
theorem dX9_addText_52 : decode cX9_addText 52 = .ok (.aload_n 2, 1) := by decide +kernel
theorem dX9_addText_53 : decode cX9_addText 53 = .ok (.iconst 1, 1) := by decide +kernel
theorem dX9_addText_54 : decode cX9_addText 54 = .ok (.iconst 0, 1) := by decide +kernel
theorem dX9_addText_55 : decode cX9_addText 55 = .ok (.invokevirtual 77, 3) := by decide +kernel
theorem dX9_addText_58 : decode cX9_addText 58 = .ok (.ireturn, 1) := by decide +kernel
theorem dX9_addWord_0 : decode cX9_addWord 0 = .ok (.aload_n 0, 1) := by decide +kernel
theorem dX9_addWord_1 : decode cX9_addWord 1 = .ok (.iload_n 1, 1) := by decide +kernel
theorem dX9_addWord_2 : decode cX9_addWord 2 = .ok (.invokevirtual 48, 3) := by decide +kernel
theorem dX9_addWord_5 : decode cX9_addWord 5 = .ok (.astore_n 3, 1) := by decide +kernel
theorem dX9_addWord_6 : decode cX9_addWord 6 = .ok (.aload_n 3, 1) := by decide +kernel
theorem dX9_addWord_7 : decode cX9_addWord 7 = .ok (.getfield 52, 3) := by decide +kernel
theorem dX9_addWord_10 : decode cX9_addWord 10 = .ok (.ifCond .eq 14, 3) := by decide +kernel
theorem dX9_addWord_13 : decode cX9_addWord 13 = .ok (.iload_n 2, 1) := by decide +kernel
theorem dX9_addWord_14 : decode cX9_addWord 14 = .ok (.iconst 1, 1) := by decide +kernel
theorem dX9_addWord_15 : decode cX9_addWord 15 = .ok (.if_icmp .lt 9, 3) := by decide +kernel
theorem dX9_addWord_18 : decode cX9_addWord 18 = .ok (.iload_n 2, 1) := by decide +kernel
theorem dX9_addWord_19 : decode cX9_addWord 19 = .ok (.bipush 12, 2) := by decide +kernel
theorem dX9_addWord_21 : decode cX9_addWord 21 = .ok (.if_icmp .le 13, 3) := by decide +kernel
theorem dX9_addWord_24 : decode cX9_addWord 24 = .ok (.new 58, 3) := by decide +kernel
theorem dX9_addWord_27 : decode cX9_addWord 27 = .ok (.dup, 1) := by decide +kernel
theorem dX9_addWord_28 : decode cX9_addWord 28 = .ok (.ldc 83, 2) := by decide +kernel
theorem dX9_addWord_30 : decode cX9_addWord 30 = .ok (.invokespecial 62, 3) := by decide +kernel
theorem dX9_addWord_33 : decode cX9_addWord 33 = .ok (.athrow, 1) := by decide +kernel
theorem dX9_addWord_34 : decode cX9_addWord 34 = .ok (.aload_n 3, 1) := by decide +kernel
theorem dX9_addWord_35 : decode cX9_addWord 35 = .ok (.getfield 85, 3) := by decide +kernel
theorem dX9_addWord_38 : decode cX9_addWord 38 = .ok (.bipush 20, 2) := by decide +kernel
theorem dX9_addWord_40 : decode cX9_addWord 40 = .ok (.if_icmp .ge 15, 3) := by decide +kernel
theorem dX9_addWord_43 : decode cX9_addWord 43 = .ok (.aload_n 3, 1) := by decide +kernel
theorem dX9_addWord_44 : decode cX9_addWord 44 = .ok (.getfield 85, 3) := by decide +kernel
theorem dX9_addWord_47 : decode cX9_addWord 47 = .ok (.aload_n 3, 1) := by decide +kernel
theorem dX9_addWord_48 : decode cX9_addWord 48 = .ok (.getfield 88, 3) := by decide +kernel
theorem dX9_addWord_51 : decode cX9_addWord 51 = .ok (.arraylength, 1) := by decide +kernel
theorem dX9_addWord_52 : decode cX9_addWord 52 = .ok (.if_icmp .lt 13, 3) := by decide +kernel
theorem dX9_addWord_55 : decode cX9_addWord 55 = .ok (.new 69, 3) := by decide +kernel
theorem dX9_addWord_58 : decode cX9_addWord 58 = .ok (.dup, 1) := by decide +kernel
theorem dX9_addWord_59 : decode cX9_addWord 59 = .ok (.ldc 92, 2) := by decide +kernel
theorem dX9_addWord_61 : decode cX9_addWord 61 = .ok (.invokespecial 73, 3) := by decide +kernel
theorem dX9_addWord_64 : decode cX9_addWord 64 = .ok (.athrow, 1) := by decide +kernel
theorem dX9_addWord_65 : decode cX9_addWord 65 = .ok (.aload_n 0, 1) := by decide +kernel
theorem dX9_addWord_66 : decode cX9_addWord 66 = .ok (.invokevirtual 74, 3) := by decide +kernel
theorem dX9_addWord_69 : decode cX9_addWord 69 = .ok (.aload_n 3, 1) := by decide +kernel
theorem dX9_addWord_70 : decode cX9_addWord 70 = .ok (.getfield 88, 3) := by decide +kernel
theorem dX9_addWord_73 : decode cX9_addWord 73 = .ok (.aload_n 3, 1) := by decide +kernel
theorem dX9_addWord_74 : decode cX9_addWord 74 = .ok (.getfield 85, 3) := by decide +kernel
theorem dX9_addWord_77 : decode cX9_addWord 77 = .ok (.iload_n 2, 1) := by decide +kernel
theorem dX9_addWord_78 : decode cX9_addWord 78 = .ok (.iastore, 1) := by decide +kernel
theorem dX9_addWord_79 : decode cX9_addWord 79 = .ok (.aload_n 3, 1) := by decide +kernel
theorem dX9_addWord_80 : decode cX9_addWord 80 = .ok (.dup, 1) := by decide +kernel
theorem dX9_addWord_81 : decode cX9_addWord 81 = .ok (.getfield 85, 3) := by decide +kernel
theorem dX9_addWord_84 : decode cX9_addWord 84 = .ok (.iconst 1, 1) := by decide +kernel
theorem dX9_addWord_85 : decode cX9_addWord 85 = .ok (.iadd, 1) := by decide +kernel
theorem dX9_addWord_86 : decode cX9_addWord 86 = .ok (.putfield 85, 3) := by decide +kernel
theorem dX9_addWord_89 : decode cX9_addWord 89 = .ok (.aload_n 3, 1) := by decide +kernel
theorem dX9_addWord_90 : decode cX9_addWord 90 = .ok (.getfield 85, 3) := by decide +kernel
theorem dX9_addWord_93 : decode cX9_addWord 93 = .ok (.ireturn, 1) := by decide +kernel
theorem dX9_takeAway_0 : decode cX9_takeAway 0 = .ok (.aload_n 0, 1) := by decide +kernel
theorem dX9_takeAway_1 : decode cX9_takeAway 1 = .ok (.iload_n 1, 1) := by decide +kernel
theorem dX9_takeAway_2 : decode cX9_takeAway 2 = .ok (.invokevirtual 48, 3) := by decide +kernel
theorem dX9_takeAway_5 : decode cX9_takeAway 5 = .ok (.astore_n 2, 1) := by decide +kernel
theorem dX9_takeAway_6 : decode cX9_takeAway 6 = .ok (.aload_n 2, 1) := by decide +kernel
theorem dX9_takeAway_7 : decode cX9_takeAway 7 = .ok (.getfield 94, 3) := by decide +kernel
theorem dX9_takeAway_10 : decode cX9_takeAway 10 = .ok (.ifnonnull 13, 3) := by decide +kernel
theorem dX9_takeAway_13 : decode cX9_takeAway 13 = .ok (.new 58, 3) := by decide +kernel
theorem dX9_takeAway_16 : decode cX9_takeAway 16 = .ok (.dup, 1) := by decide +kernel
theorem dX9_takeAway_17 : decode cX9_takeAway 17 = .ok (.ldc 98, 2) := by decide +kernel
theorem dX9_takeAway_19 : decode cX9_takeAway 19 = .ok (.invokespecial 62, 3) := by decide +kernel
theorem dX9_takeAway_22 : decode cX9_takeAway 22 = .ok (.athrow, 1) := by decide +kernel
theorem dX9_takeAway_23 : decode cX9_takeAway 23 = .ok (.aload_n 0, 1) := by decide +kernel
theorem dX9_takeAway_24 : decode cX9_takeAway 24 = .ok (.invokevirtual 74, 3) := by decide +kernel
theorem dX9_takeAway_27 : decode cX9_takeAway 27 = .ok (.aload_n 0, 1) := by decide +kernel
theorem dX9_takeAway_28 : decode cX9_takeAway 28 = .ok (.getfield 13, 3) := by decide +kernel
theorem dX9_takeAway_31 : decode cX9_takeAway 31 = .ok (.aload_n 2, 1) := by decide +kernel
theorem dX9_takeAway_32 : decode cX9_takeAway 32 = .ok (.invokevirtual 100, 3) := by decide +kernel
theorem dX9_takeAway_35 : decode cX9_takeAway 35 = .ok (.ireturn, 1) := by decide +kernel
theorem dX9_move_0 : decode cX9_move 0 = .ok (.aload_n 0, 1) := by decide +kernel
theorem dX9_move_1 : decode cX9_move 1 = .ok (.iload_n 1, 1) := by decide +kernel
theorem dX9_move_2 : decode cX9_move 2 = .ok (.invokevirtual 48, 3) := by decide +kernel
theorem dX9_move_5 : decode cX9_move 5 = .ok (.astore 4, 2) := by decide +kernel
theorem dX9_move_7 : decode cX9_move 7 = .ok (.aload_n 0, 1) := by decide +kernel
theorem dX9_move_8 : decode cX9_move 8 = .ok (.iload_n 2, 1) := by decide +kernel
theorem dX9_move_9 : decode cX9_move 9 = .ok (.invokevirtual 48, 3) := by decide +kernel
theorem dX9_move_12 : decode cX9_move 12 = .ok (.astore 5, 2) := by decide +kernel
theorem dX9_move_14 : decode cX9_move 14 = .ok (.aload_n 0, 1) := by decide +kernel
theorem dX9_move_15 : decode cX9_move 15 = .ok (.getfield 13, 3) := by decide +kernel
theorem dX9_move_18 : decode cX9_move 18 = .ok (.aload 4, 2) := by decide +kernel
theorem dX9_move_20 : decode cX9_move 20 = .ok (.aload 5, 2) := by decide +kernel
theorem dX9_move_22 : decode cX9_move 22 = .ok (.iload_n 3, 1) := by decide +kernel
theorem dX9_move_23 : decode cX9_move 23 = .ok (.invokevirtual 104, 3) := by decide +kernel
theorem dX9_move_26 : decode cX9_move 26 = .ok (.ifCond .ne 13, 3) := by decide +kernel
theorem dX9_move_29 : decode cX9_move 29 = .ok (.new 58, 3) := by decide +kernel
theorem dX9_move_32 : decode cX9_move 32 = .ok (.dup, 1) := by decide +kernel
theorem dX9_move_33 : decode cX9_move 33 = .ok (.ldc 108, 2) := by decide +kernel
theorem dX9_move_35 : decode cX9_move 35 = .ok (.invokespecial 62, 3) := by decide +kernel
theorem dX9_move_38 : decode cX9_move 38 = .ok (.athrow, 1) := by decide +kernel
theorem dX9_move_39 : decode cX9_move 39 = .ok (.aload_n 0, 1) := by decide +kernel
theorem dX9_move_40 : decode cX9_move 40 = .ok (.invokevirtual 74, 3) := by decide +kernel
theorem dX9_move_43 : decode cX9_move 43 = .ok (.aload_n 0, 1) := by decide +kernel
theorem dX9_move_44 : decode cX9_move 44 = .ok (.getfield 13, 3) := by decide +kernel
theorem dX9_move_47 : decode cX9_move 47 = .ok (.aload 4, 2) := by decide +kernel
theorem dX9_move_49 : decode cX9_move 49 = .ok (.aload 5, 2) := by decide +kernel
theorem dX9_move_51 : decode cX9_move 51 = .ok (.iload_n 3, 1) := by decide +kernel
theorem dX9_move_52 : decode cX9_move 52 = .ok (.invokevirtual 110, 3) := by decide +kernel
theorem dX9_move_55 : decode cX9_move 55 = .ok (.aload 5, 2) := by decide +kernel
theorem dX9_move_57 : decode cX9_move 57 = .ok (.getfield 114, 3) := by decide +kernel
theorem dX9_move_60 : decode cX9_move 60 = .ok (.invokevirtual 117, 3) := by decide +kernel
theorem dX9_move_63 : decode cX9_move 63 = .ok (.ireturn, 1) := by decide +kernel
theorem dX9_setClass_0 : decode cX9_setClass 0 = .ok (.aload_n 0, 1) := by decide +kernel
theorem dX9_setClass_1 : decode cX9_setClass 1 = .ok (.iload_n 1, 1) := by decide +kernel
theorem dX9_setClass_2 : decode cX9_setClass 2 = .ok (.invokevirtual 48, 3) := by decide +kernel
theorem dX9_setClass_5 : decode cX9_setClass 5 = .ok (.astore 4, 2) := by decide +kernel
theorem dX9_setClass_7 : decode cX9_setClass 7 = .ok (.aload 4, 2) := by decide +kernel
theorem dX9_setClass_9 : decode cX9_setClass 9 = .ok (.getfield 52, 3) := by decide +kernel
theorem dX9_setClass_12 : decode cX9_setClass 12 = .ok (.ifCond .ne 13, 3) := by decide +kernel
theorem dX9_setClass_15 : decode cX9_setClass 15 = .ok (.iload_n 2, 1) := by decide +kernel
theorem dX9_setClass_16 : decode cX9_setClass 16 = .ok (.ifCond .lt 9, 3) := by decide +kernel
theorem dX9_setClass_19 : decode cX9_setClass 19 = .ok (.iload_n 2, 1) := by decide +kernel
theorem dX9_setClass_20 : decode cX9_setClass 20 = .ok (.bipush 7, 2) := by decide +kernel
theorem dX9_setClass_22 : decode cX9_setClass 22 = .ok (.if_icmp .le 13, 3) := by decide +kernel
theorem dX9_setClass_25 : decode cX9_setClass 25 = .ok (.new 58, 3) := by decide +kernel
theorem dX9_setClass_28 : decode cX9_setClass 28 = .ok (.dup, 1) := by decide +kernel
theorem dX9_setClass_29 : decode cX9_setClass 29 = .ok (.ldc 121, 2) := by decide +kernel
theorem dX9_setClass_31 : decode cX9_setClass 31 = .ok (.invokespecial 62, 3) := by decide +kernel
theorem dX9_setClass_34 : decode cX9_setClass 34 = .ok (.athrow, 1) := by decide +kernel
theorem dX9_setClass_35 : decode cX9_setClass 35 = .ok (.aload_n 0, 1) := by decide +kernel
theorem dX9_setClass_36 : decode cX9_setClass 36 = .ok (.invokevirtual 74, 3) := by decide +kernel
theorem dX9_setClass_39 : decode cX9_setClass 39 = .ok (.aload 4, 2) := by decide +kernel
theorem dX9_setClass_41 : decode cX9_setClass 41 = .ok (.iload_n 2, 1) := by decide +kernel
theorem dX9_setClass_42 : decode cX9_setClass 42 = .ok (.invokevirtual 123, 3) := by decide +kernel
theorem dX9_setClass_45 : decode cX9_setClass 45 = .ok (.istore 5, 2) := by decide +kernel
theorem dX9_setClass_47 : decode cX9_setClass 47 = .ok (.iconst 1, 1) := by decide +kernel
theorem dX9_setClass_48 : decode cX9_setClass 48 = .ok (.iload_n 2, 1) := by decide +kernel
theorem dX9_setClass_49 : decode cX9_setClass 49 = .ok (.ishl, 1) := by decide +kernel
theorem dX9_setClass_50 : decode cX9_setClass 50 = .ok (.istore 6, 2) := by decide +kernel
theorem dX9_setClass_52 : decode cX9_setClass 52 = .ok (.aload 4, 2) := by decide +kernel
theorem dX9_setClass_54 : decode cX9_setClass 54 = .ok (.iload_n 3, 1) := by decide +kernel
theorem dX9_setClass_55 : decode cX9_setClass 55 = .ok (.ifCond .eq 14, 3) := by decide +kernel
theorem dX9_setClass_58 : decode cX9_setClass 58 = .ok (.aload 4, 2) := by decide +kernel
theorem dX9_setClass_60 : decode cX9_setClass 60 = .ok (.getfield 127, 3) := by decide +kernel
theorem dX9_setClass_63 : decode cX9_setClass 63 = .ok (.iload 6, 2) := by decide +kernel
theorem dX9_setClass_65 : decode cX9_setClass 65 = .ok (.ior, 1) := by decide +kernel
theorem dX9_setClass_66 : decode cX9_setClass 66 = .ok (.goto 13, 3) := by decide +kernel
theorem dX9_setClass_69 : decode cX9_setClass 69 = .ok (.aload 4, 2) := by decide +kernel
theorem dX9_setClass_71 : decode cX9_setClass 71 = .ok (.getfield 127, 3) := by decide +kernel
theorem dX9_setClass_74 : decode cX9_setClass 74 = .ok (.iload 6, 2) := by decide +kernel
theorem dX9_setClass_76 : decode cX9_setClass 76 = .ok (.iconst (-1), 1) := by decide +kernel
theorem dX9_setClass_77 : decode cX9_setClass 77 = .ok (.ixor, 1) := by decide +kernel
theorem dX9_setClass_78 : decode cX9_setClass 78 = .ok (.iand, 1) := by decide +kernel
theorem dX9_setClass_79 : decode cX9_setClass 79 = .ok (.putfield 127, 3) := by decide +kernel
theorem dX9_setClass_82 : decode cX9_setClass 82 = .ok (.iload 5, 2) := by decide +kernel
theorem dX9_setClass_84 : decode cX9_setClass 84 = .ok (.ireturn, 1) := by decide +kernel
theorem dX9_setName_0 : decode cX9_setName 0 = .ok (.aload_n 0, 1) := by decide +kernel
theorem dX9_setName_1 : decode cX9_setName 1 = .ok (.iload_n 1, 1) := by decide +kernel
theorem dX9_setName_2 : decode cX9_setName 2 = .ok (.invokevirtual 48, 3) := by decide +kernel
theorem dX9_setName_5 : decode cX9_setName 5 = .ok (.astore_n 3, 1) := by decide +kernel
theorem dX9_setName_6 : decode cX9_setName 6 = .ok (.aload_n 3, 1) := by decide +kernel
theorem dX9_setName_7 : decode cX9_setName 7 = .ok (.getfield 52, 3) := by decide +kernel
theorem dX9_setName_10 : decode cX9_setName 10 = .ok (.ifCond .ne 13, 3) := by decide +kernel
theorem dX9_setName_13 : decode cX9_setName 13 = .ok (.iload_n 2, 1) := by decide +kernel
theorem dX9_setName_14 : decode cX9_setName 14 = .ok (.ifCond .lt 9, 3) := by decide +kernel
theorem dX9_setName_17 : decode cX9_setName 17 = .ok (.iload_n 2, 1) := by decide +kernel
theorem dX9_setName_18 : decode cX9_setName 18 = .ok (.bipush 99, 2) := by decide +kernel
theorem dX9_setName_20 : decode cX9_setName 20 = .ok (.if_icmp .le 13, 3) := by decide +kernel
theorem dX9_setName_23 : decode cX9_setName 23 = .ok (.new 58, 3) := by decide +kernel
theorem dX9_setName_26 : decode cX9_setName 26 = .ok (.dup, 1) := by decide +kernel
theorem dX9_setName_27 : decode cX9_setName 27 = .ok (.ldc 130, 2) := by decide +kernel
theorem dX9_setName_29 : decode cX9_setName 29 = .ok (.invokespecial 62, 3) := by decide +kernel
theorem dX9_setName_32 : decode cX9_setName 32 = .ok (.athrow, 1) := by decide +kernel
theorem dX9_setName_33 : decode cX9_setName 33 = .ok (.aload_n 0, 1) := by decide +kernel
theorem dX9_setName_34 : decode cX9_setName 34 = .ok (.invokevirtual 74, 3) := by decide +kernel
theorem dX9_setName_37 : decode cX9_setName 37 = .ok (.aload_n 3, 1) := by decide +kernel
theorem dX9_setName_38 : decode cX9_setName 38 = .ok (.getfield 132, 3) := by decide +kernel
theorem dX9_setName_41 : decode cX9_setName 41 = .ok (.istore 4, 2) := by decide +kernel
theorem dX9_setName_43 : decode cX9_setName 43 = .ok (.aload_n 3, 1) := by decide +kernel
theorem dX9_setName_44 : decode cX9_setName 44 = .ok (.iload_n 2, 1) := by decide +kernel
theorem dX9_setName_45 : decode cX9_setName 45 = .ok (.putfield 132, 3) := by decide +kernel
theorem dX9_setName_48 : decode cX9_setName 48 = .ok (.iload 4, 2) := by decide +kernel
theorem dX9_setName_50 : decode cX9_setName 50 = .ok (.ireturn, 1) := by decide +kernel
theorem dX9_addRule_0 : decode cX9_addRule 0 = .ok (.iload_n 1, 1) := by decide +kernel
theorem dX9_addRule_1 : decode cX9_addRule 1 = .ok (.invokestatic 135, 3) := by decide +kernel
theorem dX9_addRule_4 : decode cX9_addRule 4 = .ok (.ifCond .ne 13, 3) := by decide +kernel
theorem dX9_addRule_7 : decode cX9_addRule 7 = .ok (.new 138, 3) := by decide +kernel
theorem dX9_addRule_10 : decode cX9_addRule 10 = .ok (.dup, 1) := by decide +kernel
theorem dX9_addRule_11 : decode cX9_addRule 11 = .ok (.ldc 140, 2) := by decide +kernel
theorem dX9_addRule_13 : decode cX9_addRule 13 = .ok (.invokespecial 142, 3) := by decide +kernel
theorem dX9_addRule_16 : decode cX9_addRule 16 = .ok (.athrow, 1) := by decide +kernel
theorem dX9_addRule_17 : decode cX9_addRule 17 = .ok (.iload_n 1, 1) := by decide +kernel
theorem dX9_addRule_18 : decode cX9_addRule 18 = .ok (.iload_n 2, 1) := by decide +kernel
theorem dX9_addRule_19 : decode cX9_addRule 19 = .ok (.invokestatic 143, 3) := by decide +kernel
theorem dX9_addRule_22 : decode cX9_addRule 22 = .ok (.ifCond .ne 20, 3) := by decide +kernel
theorem dX9_addRule_25 : decode cX9_addRule 25 = .ok (.iload_n 2, 1) := by decide +kernel
theorem dX9_addRule_26 : decode cX9_addRule 26 = .ok (.sipush 9999, 3) := by decide +kernel
theorem dX9_addRule_29 : decode cX9_addRule 29 = .ok (.if_icmp .eq 13, 3) := by decide +kernel
theorem dX9_addRule_32 : decode cX9_addRule 32 = .ok (.new 58, 3) := by decide +kernel
theorem dX9_addRule_35 : decode cX9_addRule 35 = .ok (.dup, 1) := by decide +kernel
theorem dX9_addRule_36 : decode cX9_addRule 36 = .ok (.ldc 147, 2) := by decide +kernel
theorem dX9_addRule_38 : decode cX9_addRule 38 = .ok (.invokespecial 62, 3) := by decide +kernel
theorem dX9_addRule_41 : decode cX9_addRule 41 = .ok (.athrow, 1) := by decide +kernel
theorem dX9_addRule_42 : decode cX9_addRule 42 = .ok (.aload_n 0, 1) := by decide +kernel
theorem dX9_addRule_43 : decode cX9_addRule 43 = .ok (.getfield 22, 3) := by decide +kernel
theorem dX9_addRule_46 : decode cX9_addRule 46 = .ok (.invokevirtual 117, 3) := by decide +kernel
theorem dX9_addRule_49 : decode cX9_addRule 49 = .ok (.bipush 24, 2) := by decide +kernel
theorem dX9_addRule_51 : decode cX9_addRule 51 = .ok (.if_icmp .lt 13, 3) := by decide +kernel
theorem dX9_addRule_54 : decode cX9_addRule 54 = .ok (.new 69, 3) := by decide +kernel
theorem dX9_addRule_57 : decode cX9_addRule 57 = .ok (.dup, 1) := by decide +kernel
theorem dX9_addRule_58 : decode cX9_addRule 58 = .ok (.ldc 149, 2) := by decide +kernel
theorem dX9_addRule_60 : decode cX9_addRule 60 = .ok (.invokespecial 73, 3) := by decide +kernel
theorem dX9_addRule_63 : decode cX9_addRule 63 = .ok (.athrow, 1) := by decide +kernel
theorem dX9_addRule_64 : decode cX9_addRule 64 = .ok (.aload_n 0, 1) := by decide +kernel
theorem dX9_addRule_65 : decode cX9_addRule 65 = .ok (.invokevirtual 74, 3) := by decide +kernel
theorem dX9_addRule_68 : decode cX9_addRule 68 = .ok (.aload_n 0, 1) := by decide +kernel
theorem dX9_addRule_69 : decode cX9_addRule 69 = .ok (.getfield 22, 3) := by decide +kernel
theorem dX9_addRule_72 : decode cX9_addRule 72 = .ok (.new 151, 3) := by decide +kernel
theorem dX9_addRule_75 : decode cX9_addRule 75 = .ok (.dup, 1) := by decide +kernel
theorem dX9_addRule_76 : decode cX9_addRule 76 = .ok (.iload_n 1, 1) := by decide +kernel
theorem dX9_addRule_77 : decode cX9_addRule 77 = .ok (.iload_n 2, 1) := by decide +kernel
theorem dX9_addRule_78 : decode cX9_addRule 78 = .ok (.iload_n 3, 1) := by decide +kernel
theorem dX9_addRule_79 : decode cX9_addRule 79 = .ok (.invokespecial 153, 3) := by decide +kernel
theorem dX9_addRule_82 : decode cX9_addRule 82 = .ok (.invokevirtual 156, 3) := by decide +kernel
theorem dX9_addRule_85 : decode cX9_addRule 85 = .ok (.pop, 1) := by decide +kernel
theorem dX9_addRule_86 : decode cX9_addRule 86 = .ok (.aload_n 0, 1) := by decide +kernel
theorem dX9_addRule_87 : decode cX9_addRule 87 = .ok (.getfield 22, 3) := by decide +kernel
theorem dX9_addRule_90 : decode cX9_addRule 90 = .ok (.invokevirtual 117, 3) := by decide +kernel
theorem dX9_addRule_93 : decode cX9_addRule 93 = .ok (.iconst 1, 1) := by decide +kernel
theorem dX9_addRule_94 : decode cX9_addRule 94 = .ok (.isub, 1) := by decide +kernel
theorem dX9_addRule_95 : decode cX9_addRule 95 = .ok (.ireturn, 1) := by decide +kernel
theorem dX9_addPart_0 : decode cX9_addPart 0 = .ok (.aload_n 0, 1) := by decide +kernel
theorem dX9_addPart_1 : decode cX9_addPart 1 = .ok (.iload_n 1, 1) := by decide +kernel
theorem dX9_addPart_2 : decode cX9_addPart 2 = .ok (.invokevirtual 160, 3) := by decide +kernel
theorem dX9_addPart_5 : decode cX9_addPart 5 = .ok (.astore 6, 2) := by decide +kernel
theorem dX9_addPart_7 : decode cX9_addPart 7 = .ok (.iload_n 2, 1) := by decide +kernel
theorem dX9_addPart_8 : decode cX9_addPart 8 = .ok (.iconst (-1), 1) := by decide +kernel
theorem dX9_addPart_9 : decode cX9_addPart 9 = .ok (.if_icmp .lt 13, 3) := by decide +kernel
theorem dX9_addPart_12 : decode cX9_addPart 12 = .ok (.iload_n 2, 1) := by decide +kernel
theorem dX9_addPart_13 : decode cX9_addPart 13 = .ok (.bipush 7, 2) := by decide +kernel
theorem dX9_addPart_15 : decode cX9_addPart 15 = .ok (.if_icmp .gt 7, 3) := by decide +kernel
theorem dX9_addPart_18 : decode cX9_addPart 18 = .ok (.iconst 1, 1) := by decide +kernel
theorem dX9_addPart_19 : decode cX9_addPart 19 = .ok (.goto 4, 3) := by decide +kernel
theorem dX9_addPart_22 : decode cX9_addPart 22 = .ok (.iconst 0, 1) := by decide +kernel
theorem dX9_addPart_23 : decode cX9_addPart 23 = .ok (.istore 7, 2) := by decide +kernel
theorem dX9_addPart_25 : decode cX9_addPart 25 = .ok (.iload_n 3, 1) := by decide +kernel
theorem dX9_addPart_26 : decode cX9_addPart 26 = .ok (.iconst (-1), 1) := by decide +kernel
theorem dX9_addPart_27 : decode cX9_addPart 27 = .ok (.if_icmp .lt 13, 3) := by decide +kernel
theorem dX9_addPart_30 : decode cX9_addPart 30 = .ok (.iload_n 3, 1) := by decide +kernel
theorem dX9_addPart_31 : decode cX9_addPart 31 = .ok (.bipush 7, 2) := by decide +kernel
theorem dX9_addPart_33 : decode cX9_addPart 33 = .ok (.if_icmp .gt 7, 3) := by decide +kernel
theorem dX9_addPart_36 : decode cX9_addPart 36 = .ok (.iconst 1, 1) := by decide +kernel
theorem dX9_addPart_37 : decode cX9_addPart 37 = .ok (.goto 4, 3) := by decide +kernel
theorem dX9_addPart_40 : decode cX9_addPart 40 = .ok (.iconst 0, 1) := by decide +kernel
theorem dX9_addPart_41 : decode cX9_addPart 41 = .ok (.istore 8, 2) := by decide +kernel
theorem dX9_addPart_43 : decode cX9_addPart 43 = .ok (.iload 7, 2) := by decide +kernel
theorem dX9_addPart_45 : decode cX9_addPart 45 = .ok (.ifCond .eq 20, 3) := by decide +kernel
theorem dX9_addPart_48 : decode cX9_addPart 48 = .ok (.iload 8, 2) := by decide +kernel
theorem dX9_addPart_50 : decode cX9_addPart 50 = .ok (.ifCond .eq 15, 3) := by decide +kernel
theorem dX9_addPart_53 : decode cX9_addPart 53 = .ok (.iload 4, 2) := by decide +kernel
theorem dX9_addPart_55 : decode cX9_addPart 55 = .ok (.ifCond .lt 10, 3) := by decide +kernel
theorem dX9_addPart_58 : decode cX9_addPart 58 = .ok (.iload 4, 2) := by decide +kernel
theorem dX9_addPart_60 : decode cX9_addPart 60 = .ok (.bipush 99, 2) := by decide +kernel
theorem dX9_addPart_62 : decode cX9_addPart 62 = .ok (.if_icmp .le 13, 3) := by decide +kernel
theorem dX9_addPart_65 : decode cX9_addPart 65 = .ok (.new 58, 3) := by decide +kernel
theorem dX9_addPart_68 : decode cX9_addPart 68 = .ok (.dup, 1) := by decide +kernel
theorem dX9_addPart_69 : decode cX9_addPart 69 = .ok (.ldc 164, 2) := by decide +kernel
theorem dX9_addPart_71 : decode cX9_addPart 71 = .ok (.invokespecial 62, 3) := by decide +kernel
theorem dX9_addPart_74 : decode cX9_addPart 74 = .ok (.athrow, 1) := by decide +kernel
theorem dX9_addPart_75 : decode cX9_addPart 75 = .ok (.aload 6, 2) := by decide +kernel
theorem dX9_addPart_77 : decode cX9_addPart 77 = .ok (.getfield 166, 3) := by decide +kernel
theorem dX9_addPart_80 : decode cX9_addPart 80 = .ok (.iconst 3, 1) := by decide +kernel
theorem dX9_addPart_81 : decode cX9_addPart 81 = .ok (.if_icmp .lt 13, 3) := by decide +kernel
theorem dX9_addPart_84 : decode cX9_addPart 84 = .ok (.new 69, 3) := by decide +kernel
theorem dX9_addPart_87 : decode cX9_addPart 87 = .ok (.dup, 1) := by decide +kernel
theorem dX9_addPart_88 : decode cX9_addPart 88 = .ok (.ldc 169, 2) := by decide +kernel
theorem dX9_addPart_90 : decode cX9_addPart 90 = .ok (.invokespecial 73, 3) := by decide +kernel
theorem dX9_addPart_93 : decode cX9_addPart 93 = .ok (.athrow, 1) := by decide +kernel
theorem dX9_addPart_94 : decode cX9_addPart 94 = .ok (.aload_n 0, 1) := by decide +kernel
theorem dX9_addPart_95 : decode cX9_addPart 95 = .ok (.invokevirtual 74, 3) := by decide +kernel
theorem dX9_addPart_98 : decode cX9_addPart 98 = .ok (.aload 6, 2) := by decide +kernel
theorem dX9_addPart_100 : decode cX9_addPart 100 = .ok (.iload_n 2, 1) := by decide +kernel
theorem dX9_addPart_101 : decode cX9_addPart 101 = .ok (.iload_n 3, 1) := by decide +kernel
theorem dX9_addPart_102 : decode cX9_addPart 102 = .ok (.iload 4, 2) := by decide +kernel
theorem dX9_addPart_104 : decode cX9_addPart 104 = .ok (.iload 5, 2) := by decide +kernel
theorem dX9_addPart_106 : decode cX9_addPart 106 = .ok (.invokevirtual 171, 3) := by decide +kernel
theorem dX9_addPart_109 : decode cX9_addPart 109 = .ok (.aload 6, 2) := by decide +kernel
theorem dX9_addPart_111 : decode cX9_addPart 111 = .ok (.getfield 166, 3) := by decide +kernel
theorem dX9_addPart_114 : decode cX9_addPart 114 = .ok (.ireturn, 1) := by decide +kernel
theorem dX9_turn_0 : decode cX9_turn 0 = .ok (.aload_n 0, 1) := by decide +kernel
theorem dX9_turn_1 : decode cX9_turn 1 = .ok (.iload_n 1, 1) := by decide +kernel
theorem dX9_turn_2 : decode cX9_turn 2 = .ok (.invokevirtual 160, 3) := by decide +kernel
theorem dX9_turn_5 : decode cX9_turn 5 = .ok (.astore_n 2, 1) := by decide +kernel
theorem dX9_turn_6 : decode cX9_turn 6 = .ok (.aload_n 0, 1) := by decide +kernel
theorem dX9_turn_7 : decode cX9_turn 7 = .ok (.invokevirtual 74, 3) := by decide +kernel
theorem dX9_turn_10 : decode cX9_turn 10 = .ok (.aload_n 2, 1) := by decide +kernel
theorem dX9_turn_11 : decode cX9_turn 11 = .ok (.aload_n 2, 1) := by decide +kernel
theorem dX9_turn_12 : decode cX9_turn 12 = .ok (.getfield 175, 3) := by decide +kernel
theorem dX9_turn_15 : decode cX9_turn 15 = .ok (.ifCond .ne 7, 3) := by decide +kernel
theorem dX9_turn_18 : decode cX9_turn 18 = .ok (.iconst 1, 1) := by decide +kernel
theorem dX9_turn_19 : decode cX9_turn 19 = .ok (.goto 4, 3) := by decide +kernel
theorem dX9_turn_22 : decode cX9_turn 22 = .ok (.iconst 0, 1) := by decide +kernel
theorem dX9_turn_23 : decode cX9_turn 23 = .ok (.putfield 175, 3) := by decide +kernel
theorem dX9_turn_26 : decode cX9_turn 26 = .ok (.aload_n 2, 1) := by decide +kernel
theorem dX9_turn_27 : decode cX9_turn 27 = .ok (.getfield 175, 3) := by decide +kernel
theorem dX9_turn_30 : decode cX9_turn 30 = .ok (.ireturn, 1) := by decide +kernel
theorem dX9_declare_0 : decode cX9_declare 0 = .ok (.aload_n 0, 1) := by decide +kernel
theorem dX9_declare_1 : decode cX9_declare 1 = .ok (.iload_n 1, 1) := by decide +kernel
theorem dX9_declare_2 : decode cX9_declare 2 = .ok (.invokevirtual 48, 3) := by decide +kernel
theorem dX9_declare_5 : decode cX9_declare 5 = .ok (.astore 4, 2) := by decide +kernel
theorem dX9_declare_7 : decode cX9_declare 7 = .ok (.iload_n 2, 1) := by decide +kernel
theorem dX9_declare_8 : decode cX9_declare 8 = .ok (.invokestatic 135, 3) := by decide +kernel
theorem dX9_declare_11 : decode cX9_declare 11 = .ok (.ifCond .ne 13, 3) := by decide +kernel
theorem dX9_declare_14 : decode cX9_declare 14 = .ok (.new 138, 3) := by decide +kernel
theorem dX9_declare_17 : decode cX9_declare 17 = .ok (.dup, 1) := by decide +kernel
theorem dX9_declare_18 : decode cX9_declare 18 = .ok (.ldc 140, 2) := by decide +kernel
theorem dX9_declare_20 : decode cX9_declare 20 = .ok (.invokespecial 142, 3) := by decide +kernel
theorem dX9_declare_23 : decode cX9_declare 23 = .ok (.athrow, 1) := by decide +kernel
theorem dX9_declare_24 : decode cX9_declare 24 = .ok (.iload_n 3, 1) := by decide +kernel
theorem dX9_declare_25 : decode cX9_declare 25 = .ok (.sipush 9998, 3) := by decide +kernel
theorem dX9_declare_28 : decode cX9_declare 28 = .ok (.if_icmp .eq 10, 3) := by decide +kernel
theorem dX9_declare_31 : decode cX9_declare 31 = .ok (.iload_n 3, 1) := by decide +kernel
theorem dX9_declare_32 : decode cX9_declare 32 = .ok (.sipush 9999, 3) := by decide +kernel
theorem dX9_declare_35 : decode cX9_declare 35 = .ok (.if_icmp .ne 7, 3) := by decide +kernel
theorem dX9_declare_38 : decode cX9_declare 38 = .ok (.iconst 1, 1) := by decide +kernel
theorem dX9_declare_39 : decode cX9_declare 39 = .ok (.goto 4, 3) := by decide +kernel
theorem dX9_declare_42 : decode cX9_declare 42 = .ok (.iconst 0, 1) := by decide +kernel
theorem dX9_declare_43 : decode cX9_declare 43 = .ok (.istore 5, 2) := by decide +kernel
theorem dX9_declare_45 : decode cX9_declare 45 = .ok (.aload 4, 2) := by decide +kernel
theorem dX9_declare_47 : decode cX9_declare 47 = .ok (.getfield 52, 3) := by decide +kernel
theorem dX9_declare_50 : decode cX9_declare 50 = .ok (.ifCond .ne 16, 3) := by decide +kernel
theorem dX9_declare_53 : decode cX9_declare 53 = .ok (.iload 5, 2) := by decide +kernel
theorem dX9_declare_55 : decode cX9_declare 55 = .ok (.ifCond .ne 21, 3) := by decide +kernel
theorem dX9_declare_58 : decode cX9_declare 58 = .ok (.iload_n 2, 1) := by decide +kernel
theorem dX9_declare_59 : decode cX9_declare 59 = .ok (.iload_n 3, 1) := by decide +kernel
theorem dX9_declare_60 : decode cX9_declare 60 = .ok (.invokestatic 143, 3) := by decide +kernel
theorem dX9_declare_63 : decode cX9_declare 63 = .ok (.ifCond .ne 13, 3) := by decide +kernel
theorem dX9_declare_66 : decode cX9_declare 66 = .ok (.new 58, 3) := by decide +kernel
theorem dX9_declare_69 : decode cX9_declare 69 = .ok (.dup, 1) := by decide +kernel
theorem dX9_declare_70 : decode cX9_declare 70 = .ok (.ldc 178, 2) := by decide +kernel
theorem dX9_declare_72 : decode cX9_declare 72 = .ok (.invokespecial 62, 3) := by decide +kernel
theorem dX9_declare_75 : decode cX9_declare 75 = .ok (.athrow, 1) := by decide +kernel
theorem dX9_declare_76 : decode cX9_declare 76 = .ok (.aload_n 0, 1) := by decide +kernel
theorem dX9_declare_77 : decode cX9_declare 77 = .ok (.invokevirtual 74, 3) := by decide +kernel
theorem dX9_declare_80 : decode cX9_declare 80 = .ok (.aload 4, 2) := by decide +kernel
theorem dX9_declare_82 : decode cX9_declare 82 = .ok (.iload_n 2, 1) := by decide +kernel
theorem dX9_declare_83 : decode cX9_declare 83 = .ok (.invokevirtual 180, 3) := by decide +kernel
theorem dX9_declare_86 : decode cX9_declare 86 = .ok (.istore 6, 2) := by decide +kernel
theorem dX9_declare_88 : decode cX9_declare 88 = .ok (.aload 4, 2) := by decide +kernel
theorem dX9_declare_90 : decode cX9_declare 90 = .ok (.iload_n 2, 1) := by decide +kernel
theorem dX9_declare_91 : decode cX9_declare 91 = .ok (.iload_n 3, 1) := by decide +kernel
theorem dX9_declare_92 : decode cX9_declare 92 = .ok (.invokevirtual 184, 3) := by decide +kernel
theorem dX9_declare_95 : decode cX9_declare 95 = .ok (.iload 6, 2) := by decide +kernel
theorem dX9_declare_97 : decode cX9_declare 97 = .ok (.ireturn, 1) := by decide +kernel
theorem dX9_setView_0 : decode cX9_setView 0 = .ok (.iload_n 1, 1) := by decide +kernel
theorem dX9_setView_1 : decode cX9_setView 1 = .ok (.invokestatic 188, 3) := by decide +kernel
theorem dX9_setView_4 : decode cX9_setView 4 = .ok (.ifCond .ne 13, 3) := by decide +kernel
theorem dX9_setView_7 : decode cX9_setView 7 = .ok (.new 58, 3) := by decide +kernel
theorem dX9_setView_10 : decode cX9_setView 10 = .ok (.dup, 1) := by decide +kernel
theorem dX9_setView_11 : decode cX9_setView 11 = .ok (.ldc 191, 2) := by decide +kernel
theorem dX9_setView_13 : decode cX9_setView 13 = .ok (.invokespecial 62, 3) := by decide +kernel
theorem dX9_setView_16 : decode cX9_setView 16 = .ok (.athrow, 1) := by decide +kernel
theorem dX9_setView_17 : decode cX9_setView 17 = .ok (.aload_n 0, 1) := by decide +kernel
theorem dX9_setView_18 : decode cX9_setView 18 = .ok (.getfield 44, 3) := by decide +kernel
theorem dX9_setView_21 : decode cX9_setView 21 = .ok (.istore_n 2, 1) := by decide +kernel
theorem dX9_setView_22 : decode cX9_setView 22 = .ok (.aload_n 0, 1) := by decide +kernel
theorem dX9_setView_23 : decode cX9_setView 23 = .ok (.iload_n 1, 1) := by decide +kernel
theorem dX9_setView_24 : decode cX9_setView 24 = .ok (.putfield 44, 3) := by decide +kernel
theorem dX9_setView_27 : decode cX9_setView 27 = .ok (.iload_n 2, 1) := by decide +kernel
theorem dX9_setView_28 : decode cX9_setView 28 = .ok (.ireturn, 1) := by decide +kernel
theorem dX9_scroll_0 : decode cX9_scroll 0 = .ok (.aload_n 0, 1) := by decide +kernel
theorem dX9_scroll_1 : decode cX9_scroll 1 = .ok (.iload_n 1, 1) := by decide +kernel
theorem dX9_scroll_2 : decode cX9_scroll 2 = .ok (.invokevirtual 48, 3) := by decide +kernel
theorem dX9_scroll_5 : decode cX9_scroll 5 = .ok (.astore_n 3, 1) := by decide +kernel
theorem dX9_scroll_6 : decode cX9_scroll 6 = .ok (.aload_n 3, 1) := by decide +kernel
theorem dX9_scroll_7 : decode cX9_scroll 7 = .ok (.getfield 52, 3) := by decide +kernel
theorem dX9_scroll_10 : decode cX9_scroll 10 = .ok (.ifCond .ne 14, 3) := by decide +kernel
theorem dX9_scroll_13 : decode cX9_scroll 13 = .ok (.iload_n 2, 1) := by decide +kernel
theorem dX9_scroll_14 : decode cX9_scroll 14 = .ok (.ifCond .lt 10, 3) := by decide +kernel
theorem dX9_scroll_17 : decode cX9_scroll 17 = .ok (.iload_n 2, 1) := by decide +kernel
theorem dX9_scroll_18 : decode cX9_scroll 18 = .ok (.sipush 5000, 3) := by decide +kernel
theorem dX9_scroll_21 : decode cX9_scroll 21 = .ok (.if_icmp .le 13, 3) := by decide +kernel
theorem dX9_scroll_24 : decode cX9_scroll 24 = .ok (.new 58, 3) := by decide +kernel
theorem dX9_scroll_27 : decode cX9_scroll 27 = .ok (.dup, 1) := by decide +kernel
theorem dX9_scroll_28 : decode cX9_scroll 28 = .ok (.ldc 193, 2) := by decide +kernel
theorem dX9_scroll_30 : decode cX9_scroll 30 = .ok (.invokespecial 62, 3) := by decide +kernel
theorem dX9_scroll_33 : decode cX9_scroll 33 = .ok (.athrow, 1) := by decide +kernel
theorem dX9_scroll_34 : decode cX9_scroll 34 = .ok (.aload_n 0, 1) := by decide +kernel
theorem dX9_scroll_35 : decode cX9_scroll 35 = .ok (.invokevirtual 74, 3) := by decide +kernel
theorem dX9_scroll_38 : decode cX9_scroll 38 = .ok (.aload_n 3, 1) := by decide +kernel
theorem dX9_scroll_39 : decode cX9_scroll 39 = .ok (.getfield 195, 3) := by decide +kernel
theorem dX9_scroll_42 : decode cX9_scroll 42 = .ok (.istore 4, 2) := by decide +kernel
theorem dX9_scroll_44 : decode cX9_scroll 44 = .ok (.aload_n 3, 1) := by decide +kernel
theorem dX9_scroll_45 : decode cX9_scroll 45 = .ok (.iload_n 2, 1) := by decide +kernel
theorem dX9_scroll_46 : decode cX9_scroll 46 = .ok (.putfield 195, 3) := by decide +kernel
theorem dX9_scroll_49 : decode cX9_scroll 49 = .ok (.iload 4, 2) := by decide +kernel
theorem dX9_scroll_51 : decode cX9_scroll 51 = .ok (.ireturn, 1) := by decide +kernel
theorem dX9_added_0 : decode cX9_added 0 = .ok (.aload_n 0, 1) := by decide +kernel
theorem dX9_added_1 : decode cX9_added 1 = .ok (.getfield 13, 3) := by decide +kernel
theorem dX9_added_4 : decode cX9_added 4 = .ok (.getfield 198, 3) := by decide +kernel
theorem dX9_added_7 : decode cX9_added 7 = .ok (.invokevirtual 117, 3) := by decide +kernel
theorem dX9_added_10 : decode cX9_added 10 = .ok (.ireturn, 1) := by decide +kernel
theorem dX9_nodes_0 : decode cX9_nodes 0 = .ok (.aload_n 0, 1) := by decide +kernel
theorem dX9_nodes_1 : decode cX9_nodes 1 = .ok (.getfield 13, 3) := by decide +kernel
theorem dX9_nodes_4 : decode cX9_nodes 4 = .ok (.getfield 201, 3) := by decide +kernel
theorem dX9_nodes_7 : decode cX9_nodes 7 = .ok (.invokevirtual 117, 3) := by decide +kernel
theorem dX9_nodes_10 : decode cX9_nodes 10 = .ok (.ireturn, 1) := by decide +kernel
theorem dX9_isThere_0 : decode cX9_isThere 0 = .ok (.aload_n 0, 1) := by decide +kernel
theorem dX9_isThere_1 : decode cX9_isThere 1 = .ok (.getfield 13, 3) := by decide +kernel
theorem dX9_isThere_4 : decode cX9_isThere 4 = .ok (.iload_n 1, 1) := by decide +kernel
theorem dX9_isThere_5 : decode cX9_isThere 5 = .ok (.invokevirtual 204, 3) := by decide +kernel
theorem dX9_isThere_8 : decode cX9_isThere 8 = .ok (.ireturn, 1) := by decide +kernel
theorem dX9_isText_0 : decode cX9_isText 0 = .ok (.aload_n 0, 1) := by decide +kernel
theorem dX9_isText_1 : decode cX9_isText 1 = .ok (.iload_n 1, 1) := by decide +kernel
theorem dX9_isText_2 : decode cX9_isText 2 = .ok (.invokevirtual 48, 3) := by decide +kernel
theorem dX9_isText_5 : decode cX9_isText 5 = .ok (.getfield 52, 3) := by decide +kernel
theorem dX9_isText_8 : decode cX9_isText 8 = .ok (.ireturn, 1) := by decide +kernel
theorem dX9_parent_0 : decode cX9_parent 0 = .ok (.aload_n 0, 1) := by decide +kernel
theorem dX9_parent_1 : decode cX9_parent 1 = .ok (.iload_n 1, 1) := by decide +kernel
theorem dX9_parent_2 : decode cX9_parent 2 = .ok (.invokevirtual 48, 3) := by decide +kernel
theorem dX9_parent_5 : decode cX9_parent 5 = .ok (.getfield 94, 3) := by decide +kernel
theorem dX9_parent_8 : decode cX9_parent 8 = .ok (.astore_n 2, 1) := by decide +kernel
theorem dX9_parent_9 : decode cX9_parent 9 = .ok (.aload_n 2, 1) := by decide +kernel
theorem dX9_parent_10 : decode cX9_parent 10 = .ok (.ifnonnull 7, 3) := by decide +kernel
theorem dX9_parent_13 : decode cX9_parent 13 = .ok (.iconst (-1), 1) := by decide +kernel
theorem dX9_parent_14 : decode cX9_parent 14 = .ok (.goto 7, 3) := by decide +kernel
theorem dX9_parent_17 : decode cX9_parent 17 = .ok (.aload_n 2, 1) := by decide +kernel
theorem dX9_parent_18 : decode cX9_parent 18 = .ok (.getfield 207, 3) := by decide +kernel
theorem dX9_parent_21 : decode cX9_parent 21 = .ok (.ireturn, 1) := by decide +kernel
theorem dX9_size_0 : decode cX9_size 0 = .ok (.aload_n 0, 1) := by decide +kernel
theorem dX9_size_1 : decode cX9_size 1 = .ok (.iload_n 1, 1) := by decide +kernel
theorem dX9_size_2 : decode cX9_size 2 = .ok (.invokevirtual 48, 3) := by decide +kernel
theorem dX9_size_5 : decode cX9_size 5 = .ok (.astore_n 2, 1) := by decide +kernel
theorem dX9_size_6 : decode cX9_size 6 = .ok (.aload_n 2, 1) := by decide +kernel
theorem dX9_size_7 : decode cX9_size 7 = .ok (.getfield 52, 3) := by decide +kernel
theorem dX9_size_10 : decode cX9_size 10 = .ok (.ifCond .eq 10, 3) := by decide +kernel
theorem dX9_size_13 : decode cX9_size 13 = .ok (.aload_n 2, 1) := by decide +kernel
theorem dX9_size_14 : decode cX9_size 14 = .ok (.getfield 85, 3) := by decide +kernel
theorem dX9_size_17 : decode cX9_size 17 = .ok (.goto 10, 3) := by decide +kernel
theorem dX9_size_20 : decode cX9_size 20 = .ok (.aload_n 2, 1) := by decide +kernel
theorem dX9_size_21 : decode cX9_size 21 = .ok (.getfield 114, 3) := by decide +kernel
theorem dX9_size_24 : decode cX9_size 24 = .ok (.invokevirtual 117, 3) := by decide +kernel
theorem dX9_size_27 : decode cX9_size 27 = .ok (.ireturn, 1) := by decide +kernel
theorem dX9_childAt_0 : decode cX9_childAt 0 = .ok (.aload_n 0, 1) := by decide +kernel
theorem dX9_childAt_1 : decode cX9_childAt 1 = .ok (.iload_n 1, 1) := by decide +kernel
theorem dX9_childAt_2 : decode cX9_childAt 2 = .ok (.invokevirtual 48, 3) := by decide +kernel
theorem dX9_childAt_5 : decode cX9_childAt 5 = .ok (.astore_n 3, 1) := by decide +kernel
theorem dX9_childAt_6 : decode cX9_childAt 6 = .ok (.aload_n 3, 1) := by decide +kernel
theorem dX9_childAt_7 : decode cX9_childAt 7 = .ok (.getfield 52, 3) := by decide +kernel
theorem dX9_childAt_10 : decode cX9_childAt 10 = .ok (.ifCond .ne 18, 3) := by decide +kernel
theorem dX9_childAt_13 : decode cX9_childAt 13 = .ok (.iload_n 2, 1) := by decide +kernel
theorem dX9_childAt_14 : decode cX9_childAt 14 = .ok (.ifCond .lt 14, 3) := by decide +kernel
theorem dX9_childAt_17 : decode cX9_childAt 17 = .ok (.iload_n 2, 1) := by decide +kernel
theorem dX9_childAt_18 : decode cX9_childAt 18 = .ok (.aload_n 3, 1) := by decide +kernel
theorem dX9_childAt_19 : decode cX9_childAt 19 = .ok (.getfield 114, 3) := by decide +kernel
theorem dX9_childAt_22 : decode cX9_childAt 22 = .ok (.invokevirtual 117, 3) := by decide +kernel
theorem dX9_childAt_25 : decode cX9_childAt 25 = .ok (.if_icmp .lt 13, 3) := by decide +kernel
theorem dX9_childAt_28 : decode cX9_childAt 28 = .ok (.new 138, 3) := by decide +kernel
theorem dX9_childAt_31 : decode cX9_childAt 31 = .ok (.dup, 1) := by decide +kernel
theorem dX9_childAt_32 : decode cX9_childAt 32 = .ok (.ldc 210, 2) := by decide +kernel
theorem dX9_childAt_34 : decode cX9_childAt 34 = .ok (.invokespecial 142, 3) := by decide +kernel
theorem dX9_childAt_37 : decode cX9_childAt 37 = .ok (.athrow, 1) := by decide +kernel
theorem dX9_childAt_38 : decode cX9_childAt 38 = .ok (.aload_n 3, 1) := by decide +kernel
theorem dX9_childAt_39 : decode cX9_childAt 39 = .ok (.getfield 114, 3) := by decide +kernel
theorem dX9_childAt_42 : decode cX9_childAt 42 = .ok (.iload_n 2, 1) := by decide +kernel
theorem dX9_childAt_43 : decode cX9_childAt 43 = .ok (.invokevirtual 212, 3) := by decide +kernel
theorem dX9_childAt_46 : decode cX9_childAt 46 = .ok (.checkcast 53, 3) := by decide +kernel
theorem dX9_childAt_49 : decode cX9_childAt 49 = .ok (.getfield 207, 3) := by decide +kernel
theorem dX9_childAt_52 : decode cX9_childAt 52 = .ok (.ireturn, 1) := by decide +kernel
theorem dX9_rules_0 : decode cX9_rules 0 = .ok (.aload_n 0, 1) := by decide +kernel
theorem dX9_rules_1 : decode cX9_rules 1 = .ok (.getfield 22, 3) := by decide +kernel
theorem dX9_rules_4 : decode cX9_rules 4 = .ok (.invokevirtual 117, 3) := by decide +kernel
theorem dX9_rules_7 : decode cX9_rules 7 = .ok (.ireturn, 1) := by decide +kernel
theorem dX9_weight_0 : decode cX9_weight 0 = .ok (.aload_n 0, 1) := by decide +kernel
theorem dX9_weight_1 : decode cX9_weight 1 = .ok (.iload_n 1, 1) := by decide +kernel
theorem dX9_weight_2 : decode cX9_weight 2 = .ok (.invokevirtual 160, 3) := by decide +kernel
theorem dX9_weight_5 : decode cX9_weight 5 = .ok (.getfield 216, 3) := by decide +kernel
theorem dX9_weight_8 : decode cX9_weight 8 = .ok (.ireturn, 1) := by decide +kernel
theorem dX9_matches_0 : decode cX9_matches 0 = .ok (.aload_n 0, 1) := by decide +kernel
theorem dX9_matches_1 : decode cX9_matches 1 = .ok (.iload_n 1, 1) := by decide +kernel
theorem dX9_matches_2 : decode cX9_matches 2 = .ok (.invokevirtual 160, 3) := by decide +kernel
theorem dX9_matches_5 : decode cX9_matches 5 = .ok (.astore_n 3, 1) := by decide +kernel
theorem dX9_matches_6 : decode cX9_matches 6 = .ok (.aload_n 3, 1) := by decide +kernel
theorem dX9_matches_7 : decode cX9_matches 7 = .ok (.aload_n 0, 1) := by decide +kernel
theorem dX9_matches_8 : decode cX9_matches 8 = .ok (.iload_n 2, 1) := by decide +kernel
theorem dX9_matches_9 : decode cX9_matches 9 = .ok (.invokevirtual 48, 3) := by decide +kernel
theorem dX9_matches_12 : decode cX9_matches 12 = .ok (.invokevirtual 219, 3) := by decide +kernel
theorem dX9_matches_15 : decode cX9_matches 15 = .ok (.ireturn, 1) := by decide +kernel
theorem dX9_matched_0 : decode cX9_matched 0 = .ok (.aload_n 0, 1) := by decide +kernel
theorem dX9_matched_1 : decode cX9_matched 1 = .ok (.iload_n 1, 1) := by decide +kernel
theorem dX9_matched_2 : decode cX9_matched 2 = .ok (.invokevirtual 160, 3) := by decide +kernel
theorem dX9_matched_5 : decode cX9_matched 5 = .ok (.astore_n 2, 1) := by decide +kernel
theorem dX9_matched_6 : decode cX9_matched 6 = .ok (.iconst 0, 1) := by decide +kernel
theorem dX9_matched_7 : decode cX9_matched 7 = .ok (.istore_n 3, 1) := by decide +kernel
theorem dX9_matched_8 : decode cX9_matched 8 = .ok (.iconst 0, 1) := by decide +kernel
theorem dX9_matched_9 : decode cX9_matched 9 = .ok (.istore 4, 2) := by decide +kernel
theorem dX9_matched_11 : decode cX9_matched 11 = .ok (.iload 4, 2) := by decide +kernel
theorem dX9_matched_13 : decode cX9_matched 13 = .ok (.aload_n 0, 1) := by decide +kernel
theorem dX9_matched_14 : decode cX9_matched 14 = .ok (.getfield 13, 3) := by decide +kernel
theorem dX9_matched_17 : decode cX9_matched 17 = .ok (.getfield 201, 3) := by decide +kernel
theorem dX9_matched_20 : decode cX9_matched 20 = .ok (.invokevirtual 117, 3) := by decide +kernel
theorem dX9_matched_23 : decode cX9_matched 23 = .ok (.if_icmp .ge 34, 3) := by decide +kernel
theorem dX9_matched_26 : decode cX9_matched 26 = .ok (.aload_n 2, 1) := by decide +kernel
theorem dX9_matched_27 : decode cX9_matched 27 = .ok (.aload_n 0, 1) := by decide +kernel
theorem dX9_matched_28 : decode cX9_matched 28 = .ok (.getfield 13, 3) := by decide +kernel
theorem dX9_matched_31 : decode cX9_matched 31 = .ok (.getfield 201, 3) := by decide +kernel
theorem dX9_matched_34 : decode cX9_matched 34 = .ok (.iload 4, 2) := by decide +kernel
theorem dX9_matched_36 : decode cX9_matched 36 = .ok (.invokevirtual 212, 3) := by decide +kernel
theorem dX9_matched_39 : decode cX9_matched 39 = .ok (.checkcast 53, 3) := by decide +kernel
theorem dX9_matched_42 : decode cX9_matched 42 = .ok (.invokevirtual 219, 3) := by decide +kernel
theorem dX9_matched_45 : decode cX9_matched 45 = .ok (.ifCond .eq 6, 3) := by decide +kernel
theorem dX9_matched_48 : decode cX9_matched 48 = .ok (.iinc 3 1, 3) := by decide +kernel
theorem dX9_matched_51 : decode cX9_matched 51 = .ok (.iinc 4 1, 3) := by decide +kernel
theorem dX9_matched_54 : decode cX9_matched 54 = .ok (.goto (-43), 3) := by decide +kernel
theorem dX9_matched_57 : decode cX9_matched 57 = .ok (.iload_n 3, 1) := by decide +kernel
theorem dX9_matched_58 : decode cX9_matched 58 = .ok (.ireturn, 1) := by decide +kernel
theorem dX9_styleOf_0 : decode cX9_styleOf 0 = .ok (.aload_n 0, 1) := by decide +kernel
theorem dX9_styleOf_1 : decode cX9_styleOf 1 = .ok (.iload_n 1, 1) := by decide +kernel
theorem dX9_styleOf_2 : decode cX9_styleOf 2 = .ok (.invokevirtual 48, 3) := by decide +kernel
theorem dX9_styleOf_5 : decode cX9_styleOf 5 = .ok (.astore_n 3, 1) := by decide +kernel
theorem dX9_styleOf_6 : decode cX9_styleOf 6 = .ok (.iload_n 2, 1) := by decide +kernel
theorem dX9_styleOf_7 : decode cX9_styleOf 7 = .ok (.invokestatic 135, 3) := by decide +kernel
theorem dX9_styleOf_10 : decode cX9_styleOf 10 = .ok (.ifCond .ne 13, 3) := by decide +kernel
theorem dX9_styleOf_13 : decode cX9_styleOf 13 = .ok (.new 138, 3) := by decide +kernel
theorem dX9_styleOf_16 : decode cX9_styleOf 16 = .ok (.dup, 1) := by decide +kernel
theorem dX9_styleOf_17 : decode cX9_styleOf 17 = .ok (.ldc 140, 2) := by decide +kernel
theorem dX9_styleOf_19 : decode cX9_styleOf 19 = .ok (.invokespecial 142, 3) := by decide +kernel
theorem dX9_styleOf_22 : decode cX9_styleOf 22 = .ok (.athrow, 1) := by decide +kernel
theorem dX9_styleOf_23 : decode cX9_styleOf 23 = .ok (.aload_n 0, 1) := by decide +kernel
theorem dX9_styleOf_24 : decode cX9_styleOf 24 = .ok (.invokevirtual 222, 3) := by decide +kernel
theorem dX9_styleOf_27 : decode cX9_styleOf 27 = .ok (.aload_n 0, 1) := by decide +kernel
theorem dX9_styleOf_28 : decode cX9_styleOf 28 = .ok (.getfield 37, 3) := by decide +kernel
theorem dX9_styleOf_31 : decode cX9_styleOf 31 = .ok (.aload_n 3, 1) := by decide +kernel
theorem dX9_styleOf_32 : decode cX9_styleOf 32 = .ok (.iload_n 2, 1) := by decide +kernel
theorem dX9_styleOf_33 : decode cX9_styleOf 33 = .ok (.invokevirtual 225, 3) := by decide +kernel
theorem dX9_styleOf_36 : decode cX9_styleOf 36 = .ok (.ireturn, 1) := by decide +kernel
theorem dX9_because_0 : decode cX9_because 0 = .ok (.aload_n 0, 1) := by decide +kernel
theorem dX9_because_1 : decode cX9_because 1 = .ok (.iload_n 1, 1) := by decide +kernel
theorem dX9_because_2 : decode cX9_because 2 = .ok (.invokevirtual 48, 3) := by decide +kernel
theorem dX9_because_5 : decode cX9_because 5 = .ok (.astore_n 3, 1) := by decide +kernel
theorem dX9_because_6 : decode cX9_because 6 = .ok (.iload_n 2, 1) := by decide +kernel
theorem dX9_because_7 : decode cX9_because 7 = .ok (.invokestatic 135, 3) := by decide +kernel
theorem dX9_because_10 : decode cX9_because 10 = .ok (.ifCond .ne 13, 3) := by decide +kernel
theorem dX9_because_13 : decode cX9_because 13 = .ok (.new 138, 3) := by decide +kernel
theorem dX9_because_16 : decode cX9_because 16 = .ok (.dup, 1) := by decide +kernel
theorem dX9_because_17 : decode cX9_because 17 = .ok (.ldc 140, 2) := by decide +kernel
theorem dX9_because_19 : decode cX9_because 19 = .ok (.invokespecial 142, 3) := by decide +kernel
theorem dX9_because_22 : decode cX9_because 22 = .ok (.athrow, 1) := by decide +kernel
theorem dX9_because_23 : decode cX9_because 23 = .ok (.aload_n 0, 1) := by decide +kernel
theorem dX9_because_24 : decode cX9_because 24 = .ok (.invokevirtual 222, 3) := by decide +kernel
theorem dX9_because_27 : decode cX9_because 27 = .ok (.aload_n 0, 1) := by decide +kernel
theorem dX9_because_28 : decode cX9_because 28 = .ok (.getfield 37, 3) := by decide +kernel
theorem dX9_because_31 : decode cX9_because 31 = .ok (.aload_n 3, 1) := by decide +kernel
theorem dX9_because_32 : decode cX9_because 32 = .ok (.iload_n 2, 1) := by decide +kernel
theorem dX9_because_33 : decode cX9_because 33 = .ok (.invokevirtual 229, 3) := by decide +kernel
theorem dX9_because_36 : decode cX9_because 36 = .ok (.ireturn, 1) := by decide +kernel
theorem dX9_sortOf_0 : decode cX9_sortOf 0 = .ok (.aload_n 0, 1) := by decide +kernel
theorem dX9_sortOf_1 : decode cX9_sortOf 1 = .ok (.iload_n 1, 1) := by decide +kernel
theorem dX9_sortOf_2 : decode cX9_sortOf 2 = .ok (.aload_n 0, 1) := by decide +kernel
theorem dX9_sortOf_3 : decode cX9_sortOf 3 = .ok (.getfield 44, 3) := by decide +kernel
theorem dX9_sortOf_6 : decode cX9_sortOf 6 = .ok (.invokevirtual 232, 3) := by decide +kernel
theorem dX9_sortOf_9 : decode cX9_sortOf 9 = .ok (.getfield 236, 3) := by decide +kernel
theorem dX9_sortOf_12 : decode cX9_sortOf 12 = .ok (.ireturn, 1) := by decide +kernel
theorem dX9_xOf_0 : decode cX9_xOf 0 = .ok (.aload_n 0, 1) := by decide +kernel
theorem dX9_xOf_1 : decode cX9_xOf 1 = .ok (.iload_n 1, 1) := by decide +kernel
theorem dX9_xOf_2 : decode cX9_xOf 2 = .ok (.aload_n 0, 1) := by decide +kernel
theorem dX9_xOf_3 : decode cX9_xOf 3 = .ok (.getfield 44, 3) := by decide +kernel
theorem dX9_xOf_6 : decode cX9_xOf 6 = .ok (.invokevirtual 232, 3) := by decide +kernel
theorem dX9_xOf_9 : decode cX9_xOf 9 = .ok (.invokevirtual 241, 3) := by decide +kernel
theorem dX9_xOf_12 : decode cX9_xOf 12 = .ok (.ireturn, 1) := by decide +kernel
theorem dX9_wideOf_0 : decode cX9_wideOf 0 = .ok (.aload_n 0, 1) := by decide +kernel
theorem dX9_wideOf_1 : decode cX9_wideOf 1 = .ok (.iload_n 1, 1) := by decide +kernel
theorem dX9_wideOf_2 : decode cX9_wideOf 2 = .ok (.aload_n 0, 1) := by decide +kernel
theorem dX9_wideOf_3 : decode cX9_wideOf 3 = .ok (.getfield 44, 3) := by decide +kernel
theorem dX9_wideOf_6 : decode cX9_wideOf 6 = .ok (.invokevirtual 232, 3) := by decide +kernel
theorem dX9_wideOf_9 : decode cX9_wideOf 9 = .ok (.invokevirtual 247, 3) := by decide +kernel
theorem dX9_wideOf_12 : decode cX9_wideOf 12 = .ok (.ireturn, 1) := by decide +kernel
theorem dX9_highOf_0 : decode cX9_highOf 0 = .ok (.aload_n 0, 1) := by decide +kernel
theorem dX9_highOf_1 : decode cX9_highOf 1 = .ok (.iload_n 1, 1) := by decide +kernel
theorem dX9_highOf_2 : decode cX9_highOf 2 = .ok (.aload_n 0, 1) := by decide +kernel
theorem dX9_highOf_3 : decode cX9_highOf 3 = .ok (.getfield 44, 3) := by decide +kernel
theorem dX9_highOf_6 : decode cX9_highOf 6 = .ok (.invokevirtual 232, 3) := by decide +kernel
theorem dX9_highOf_9 : decode cX9_highOf 9 = .ok (.invokevirtual 250, 3) := by decide +kernel
theorem dX9_highOf_12 : decode cX9_highOf 12 = .ok (.ireturn, 1) := by decide +kernel
theorem dX9_reachOf_0 : decode cX9_reachOf 0 = .ok (.aload_n 0, 1) := by decide +kernel
theorem dX9_reachOf_1 : decode cX9_reachOf 1 = .ok (.iload_n 1, 1) := by decide +kernel
theorem dX9_reachOf_2 : decode cX9_reachOf 2 = .ok (.aload_n 0, 1) := by decide +kernel
theorem dX9_reachOf_3 : decode cX9_reachOf 3 = .ok (.getfield 44, 3) := by decide +kernel
theorem dX9_reachOf_6 : decode cX9_reachOf 6 = .ok (.invokevirtual 232, 3) := by decide +kernel
theorem dX9_reachOf_9 : decode cX9_reachOf 9 = .ok (.invokevirtual 253, 3) := by decide +kernel
theorem dX9_reachOf_12 : decode cX9_reachOf 12 = .ok (.ireturn, 1) := by decide +kernel
theorem dX9_scrolled_0 : decode cX9_scrolled 0 = .ok (.aload_n 0, 1) := by decide +kernel
theorem dX9_scrolled_1 : decode cX9_scrolled 1 = .ok (.iload_n 1, 1) := by decide +kernel
theorem dX9_scrolled_2 : decode cX9_scrolled 2 = .ok (.aload_n 0, 1) := by decide +kernel
theorem dX9_scrolled_3 : decode cX9_scrolled 3 = .ok (.getfield 44, 3) := by decide +kernel
theorem dX9_scrolled_6 : decode cX9_scrolled 6 = .ok (.invokevirtual 232, 3) := by decide +kernel
theorem dX9_scrolled_9 : decode cX9_scrolled 9 = .ok (.getfield 256, 3) := by decide +kernel
theorem dX9_scrolled_12 : decode cX9_scrolled 12 = .ok (.ireturn, 1) := by decide +kernel
theorem dX9_lines_0 : decode cX9_lines 0 = .ok (.aload_n 0, 1) := by decide +kernel
theorem dX9_lines_1 : decode cX9_lines 1 = .ok (.iload_n 1, 1) := by decide +kernel
theorem dX9_lines_2 : decode cX9_lines 2 = .ok (.aload_n 0, 1) := by decide +kernel
theorem dX9_lines_3 : decode cX9_lines 3 = .ok (.getfield 44, 3) := by decide +kernel
theorem dX9_lines_6 : decode cX9_lines 6 = .ok (.invokevirtual 232, 3) := by decide +kernel
theorem dX9_lines_9 : decode cX9_lines 9 = .ok (.invokevirtual 259, 3) := by decide +kernel
theorem dX9_lines_12 : decode cX9_lines 12 = .ok (.ireturn, 1) := by decide +kernel
theorem dX9_pageHeight_0 : decode cX9_pageHeight 0 = .ok (.aload_n 0, 1) := by decide +kernel
theorem dX9_pageHeight_1 : decode cX9_pageHeight 1 = .ok (.iconst 0, 1) := by decide +kernel
theorem dX9_pageHeight_2 : decode cX9_pageHeight 2 = .ok (.aload_n 0, 1) := by decide +kernel
theorem dX9_pageHeight_3 : decode cX9_pageHeight 3 = .ok (.getfield 44, 3) := by decide +kernel
theorem dX9_pageHeight_6 : decode cX9_pageHeight 6 = .ok (.invokevirtual 232, 3) := by decide +kernel
theorem dX9_pageHeight_9 : decode cX9_pageHeight 9 = .ok (.invokevirtual 273, 3) := by decide +kernel
theorem dX9_pageHeight_12 : decode cX9_pageHeight 12 = .ok (.ireturn, 1) := by decide +kernel
theorem dX9_hit_0 : decode cX9_hit 0 = .ok (.aload_n 0, 1) := by decide +kernel
theorem dX9_hit_1 : decode cX9_hit 1 = .ok (.iconst 0, 1) := by decide +kernel
theorem dX9_hit_2 : decode cX9_hit 2 = .ok (.aload_n 0, 1) := by decide +kernel
theorem dX9_hit_3 : decode cX9_hit 3 = .ok (.getfield 44, 3) := by decide +kernel
theorem dX9_hit_6 : decode cX9_hit 6 = .ok (.invokevirtual 232, 3) := by decide +kernel
theorem dX9_hit_9 : decode cX9_hit 9 = .ok (.pop, 1) := by decide +kernel
theorem dX9_hit_10 : decode cX9_hit 10 = .ok (.iconst (-1), 1) := by decide +kernel
theorem dX9_hit_11 : decode cX9_hit 11 = .ok (.istore_n 3, 1) := by decide +kernel
theorem dX9_hit_12 : decode cX9_hit 12 = .ok (.iconst 0, 1) := by decide +kernel
end
section
theorem dX9_hit_13 : decode cX9_hit 13 = .ok (.istore 4, 2) := by decide +kernel
theorem dX9_hit_15 : decode cX9_hit 15 = .ok (.iload 4, 2) := by decide +kernel
theorem dX9_hit_17 : decode cX9_hit 17 = .ok (.aload_n 0, 1) := by decide +kernel
theorem dX9_hit_18 : decode cX9_hit 18 = .ok (.getfield 13, 3) := by decide +kernel
theorem dX9_hit_21 : decode cX9_hit 21 = .ok (.getfield 201, 3) := by decide +kernel
theorem dX9_hit_24 : decode cX9_hit 24 = .ok (.invokevirtual 117, 3) := by decide +kernel
theorem dX9_hit_27 : decode cX9_hit 27 = .ok (.if_icmp .ge 60, 3) := by decide +kernel
theorem dX9_hit_30 : decode cX9_hit 30 = .ok (.aload_n 0, 1) := by decide +kernel
theorem dX9_hit_31 : decode cX9_hit 31 = .ok (.getfield 13, 3) := by decide +kernel
theorem dX9_hit_34 : decode cX9_hit 34 = .ok (.getfield 201, 3) := by decide +kernel
theorem dX9_hit_37 : decode cX9_hit 37 = .ok (.iload 4, 2) := by decide +kernel
theorem dX9_hit_39 : decode cX9_hit 39 = .ok (.invokevirtual 212, 3) := by decide +kernel
theorem dX9_hit_42 : decode cX9_hit 42 = .ok (.checkcast 53, 3) := by decide +kernel
theorem dX9_hit_45 : decode cX9_hit 45 = .ok (.astore 5, 2) := by decide +kernel
theorem dX9_hit_47 : decode cX9_hit 47 = .ok (.aload_n 0, 1) := by decide +kernel
theorem dX9_hit_48 : decode cX9_hit 48 = .ok (.getfield 29, 3) := by decide +kernel
theorem dX9_hit_51 : decode cX9_hit 51 = .ok (.aload 5, 2) := by decide +kernel
theorem dX9_hit_53 : decode cX9_hit 53 = .ok (.iload_n 1, 1) := by decide +kernel
theorem dX9_hit_54 : decode cX9_hit 54 = .ok (.iload_n 2, 1) := by decide +kernel
theorem dX9_hit_55 : decode cX9_hit 55 = .ok (.invokevirtual 276, 3) := by decide +kernel
theorem dX9_hit_58 : decode cX9_hit 58 = .ok (.ifCond .eq 23, 3) := by decide +kernel
theorem dX9_hit_61 : decode cX9_hit 61 = .ok (.aload_n 0, 1) := by decide +kernel
theorem dX9_hit_62 : decode cX9_hit 62 = .ok (.getfield 29, 3) := by decide +kernel
theorem dX9_hit_65 : decode cX9_hit 65 = .ok (.aload 5, 2) := by decide +kernel
theorem dX9_hit_67 : decode cX9_hit 67 = .ok (.iload_n 1, 1) := by decide +kernel
theorem dX9_hit_68 : decode cX9_hit 68 = .ok (.iload_n 2, 1) := by decide +kernel
theorem dX9_hit_69 : decode cX9_hit 69 = .ok (.invokevirtual 280, 3) := by decide +kernel
theorem dX9_hit_72 : decode cX9_hit 72 = .ok (.ifCond .ne 9, 3) := by decide +kernel
theorem dX9_hit_75 : decode cX9_hit 75 = .ok (.aload 5, 2) := by decide +kernel
theorem dX9_hit_77 : decode cX9_hit 77 = .ok (.getfield 207, 3) := by decide +kernel
theorem dX9_hit_80 : decode cX9_hit 80 = .ok (.istore_n 3, 1) := by decide +kernel
theorem dX9_hit_81 : decode cX9_hit 81 = .ok (.iinc 4 1, 3) := by decide +kernel
theorem dX9_hit_84 : decode cX9_hit 84 = .ok (.goto (-69), 3) := by decide +kernel
theorem dX9_hit_87 : decode cX9_hit 87 = .ok (.iload_n 3, 1) := by decide +kernel
theorem dX9_hit_88 : decode cX9_hit 88 = .ok (.ireturn, 1) := by decide +kernel
theorem dX9_seen_0 : decode cX9_seen 0 = .ok (.aload_n 0, 1) := by decide +kernel
theorem dX9_seen_1 : decode cX9_seen 1 = .ok (.iload_n 1, 1) := by decide +kernel
theorem dX9_seen_2 : decode cX9_seen 2 = .ok (.invokevirtual 48, 3) := by decide +kernel
theorem dX9_seen_5 : decode cX9_seen 5 = .ok (.astore_n 2, 1) := by decide +kernel
theorem dX9_seen_6 : decode cX9_seen 6 = .ok (.aload_n 2, 1) := by decide +kernel
theorem dX9_seen_7 : decode cX9_seen 7 = .ok (.getfield 52, 3) := by decide +kernel
theorem dX9_seen_10 : decode cX9_seen 10 = .ok (.ifCond .ne 14, 3) := by decide +kernel
theorem dX9_seen_13 : decode cX9_seen 13 = .ok (.new 58, 3) := by decide +kernel
theorem dX9_seen_16 : decode cX9_seen 16 = .ok (.dup, 1) := by decide +kernel
theorem dX9_seen_17 : decode cX9_seen 17 = .ok (.ldc_w 283, 3) := by decide +kernel
theorem dX9_seen_20 : decode cX9_seen 20 = .ok (.invokespecial 62, 3) := by decide +kernel
theorem dX9_seen_23 : decode cX9_seen 23 = .ok (.athrow, 1) := by decide +kernel
theorem dX9_seen_24 : decode cX9_seen 24 = .ok (.aload_n 0, 1) := by decide +kernel
theorem dX9_seen_25 : decode cX9_seen 25 = .ok (.iload_n 1, 1) := by decide +kernel
theorem dX9_seen_26 : decode cX9_seen 26 = .ok (.aload_n 0, 1) := by decide +kernel
theorem dX9_seen_27 : decode cX9_seen 27 = .ok (.getfield 44, 3) := by decide +kernel
theorem dX9_seen_30 : decode cX9_seen 30 = .ok (.invokevirtual 232, 3) := by decide +kernel
theorem dX9_seen_33 : decode cX9_seen 33 = .ok (.pop, 1) := by decide +kernel
theorem dX9_seen_34 : decode cX9_seen 34 = .ok (.aload_n 0, 1) := by decide +kernel
theorem dX9_seen_35 : decode cX9_seen 35 = .ok (.getfield 29, 3) := by decide +kernel
theorem dX9_seen_38 : decode cX9_seen 38 = .ok (.aload_n 2, 1) := by decide +kernel
theorem dX9_seen_39 : decode cX9_seen 39 = .ok (.invokevirtual 285, 3) := by decide +kernel
theorem dX9_seen_42 : decode cX9_seen 42 = .ok (.ireturn, 1) := by decide +kernel
theorem dX9_meanLine_0 : decode cX9_meanLine 0 = .ok (.aload_n 0, 1) := by decide +kernel
theorem dX9_meanLine_1 : decode cX9_meanLine 1 = .ok (.iconst 0, 1) := by decide +kernel
theorem dX9_meanLine_2 : decode cX9_meanLine 2 = .ok (.aload_n 0, 1) := by decide +kernel
theorem dX9_meanLine_3 : decode cX9_meanLine 3 = .ok (.getfield 44, 3) := by decide +kernel
theorem dX9_meanLine_6 : decode cX9_meanLine 6 = .ok (.invokevirtual 232, 3) := by decide +kernel
theorem dX9_meanLine_9 : decode cX9_meanLine 9 = .ok (.pop, 1) := by decide +kernel
theorem dX9_meanLine_10 : decode cX9_meanLine 10 = .ok (.aload_n 0, 1) := by decide +kernel
theorem dX9_meanLine_11 : decode cX9_meanLine 11 = .ok (.getfield 29, 3) := by decide +kernel
theorem dX9_meanLine_14 : decode cX9_meanLine 14 = .ok (.getfield 288, 3) := by decide +kernel
theorem dX9_meanLine_17 : decode cX9_meanLine 17 = .ok (.ifCond .ne 7, 3) := by decide +kernel
theorem dX9_meanLine_20 : decode cX9_meanLine 20 = .ok (.dconst 0, 1) := by decide +kernel
theorem dX9_meanLine_21 : decode cX9_meanLine 21 = .ok (.goto 20, 3) := by decide +kernel
theorem dX9_meanLine_24 : decode cX9_meanLine 24 = .ok (.aload_n 0, 1) := by decide +kernel
theorem dX9_meanLine_25 : decode cX9_meanLine 25 = .ok (.getfield 29, 3) := by decide +kernel
theorem dX9_meanLine_28 : decode cX9_meanLine 28 = .ok (.getfield 291, 3) := by decide +kernel
theorem dX9_meanLine_31 : decode cX9_meanLine 31 = .ok (.i2d, 1) := by decide +kernel
theorem dX9_meanLine_32 : decode cX9_meanLine 32 = .ok (.aload_n 0, 1) := by decide +kernel
theorem dX9_meanLine_33 : decode cX9_meanLine 33 = .ok (.getfield 29, 3) := by decide +kernel
theorem dX9_meanLine_36 : decode cX9_meanLine 36 = .ok (.getfield 288, 3) := by decide +kernel
theorem dX9_meanLine_39 : decode cX9_meanLine 39 = .ok (.i2d, 1) := by decide +kernel
theorem dX9_meanLine_40 : decode cX9_meanLine 40 = .ok (.ddiv, 1) := by decide +kernel
theorem dX9_meanLine_41 : decode cX9_meanLine 41 = .ok (.dreturn, 1) := by decide +kernel
theorem dX9_heightIn_0 : decode cX9_heightIn 0 = .ok (.iload_n 1, 1) := by decide +kernel
theorem dX9_heightIn_1 : decode cX9_heightIn 1 = .ok (.invokestatic 188, 3) := by decide +kernel
theorem dX9_heightIn_4 : decode cX9_heightIn 4 = .ok (.ifCond .ne 13, 3) := by decide +kernel
theorem dX9_heightIn_7 : decode cX9_heightIn 7 = .ok (.new 58, 3) := by decide +kernel
theorem dX9_heightIn_10 : decode cX9_heightIn 10 = .ok (.dup, 1) := by decide +kernel
theorem dX9_heightIn_11 : decode cX9_heightIn 11 = .ok (.ldc 191, 2) := by decide +kernel
theorem dX9_heightIn_13 : decode cX9_heightIn 13 = .ok (.invokespecial 62, 3) := by decide +kernel
theorem dX9_heightIn_16 : decode cX9_heightIn 16 = .ok (.athrow, 1) := by decide +kernel
theorem dX9_heightIn_17 : decode cX9_heightIn 17 = .ok (.aload_n 0, 1) := by decide +kernel
theorem dX9_heightIn_18 : decode cX9_heightIn 18 = .ok (.iconst 0, 1) := by decide +kernel
theorem dX9_heightIn_19 : decode cX9_heightIn 19 = .ok (.iload_n 1, 1) := by decide +kernel
theorem dX9_heightIn_20 : decode cX9_heightIn 20 = .ok (.invokevirtual 232, 3) := by decide +kernel
theorem dX9_heightIn_23 : decode cX9_heightIn 23 = .ok (.invokevirtual 273, 3) := by decide +kernel
theorem dX9_heightIn_26 : decode cX9_heightIn 26 = .ok (.ireturn, 1) := by decide +kernel
theorem dX9_changedBy_0 : decode cX9_changedBy 0 = .ok (.aload_n 0, 1) := by decide +kernel
theorem dX9_changedBy_1 : decode cX9_changedBy 1 = .ok (.iload_n 1, 1) := by decide +kernel
theorem dX9_changedBy_2 : decode cX9_changedBy 2 = .ok (.invokevirtual 160, 3) := by decide +kernel
theorem dX9_changedBy_5 : decode cX9_changedBy 5 = .ok (.pop, 1) := by decide +kernel
theorem dX9_changedBy_6 : decode cX9_changedBy 6 = .ok (.aload_n 0, 1) := by decide +kernel
theorem dX9_changedBy_7 : decode cX9_changedBy 7 = .ok (.invokevirtual 222, 3) := by decide +kernel
theorem dX9_changedBy_10 : decode cX9_changedBy 10 = .ok (.aload_n 0, 1) := by decide +kernel
theorem dX9_changedBy_11 : decode cX9_changedBy 11 = .ok (.getfield 41, 3) := by decide +kernel
theorem dX9_changedBy_14 : decode cX9_changedBy 14 = .ok (.aload_n 0, 1) := by decide +kernel
theorem dX9_changedBy_15 : decode cX9_changedBy 15 = .ok (.getfield 13, 3) := by decide +kernel
theorem dX9_changedBy_18 : decode cX9_changedBy 18 = .ok (.getfield 201, 3) := by decide +kernel
theorem dX9_changedBy_21 : decode cX9_changedBy 21 = .ok (.aload_n 0, 1) := by decide +kernel
theorem dX9_changedBy_22 : decode cX9_changedBy 22 = .ok (.getfield 22, 3) := by decide +kernel
theorem dX9_changedBy_25 : decode cX9_changedBy 25 = .ok (.iload_n 1, 1) := by decide +kernel
theorem dX9_changedBy_26 : decode cX9_changedBy 26 = .ok (.invokevirtual 294, 3) := by decide +kernel
theorem dX9_changedBy_29 : decode cX9_changedBy 29 = .ok (.iconst 0, 1) := by decide +kernel
theorem dX9_changedBy_30 : decode cX9_changedBy 30 = .ok (.istore_n 2, 1) := by decide +kernel
theorem dX9_changedBy_31 : decode cX9_changedBy 31 = .ok (.iconst 0, 1) := by decide +kernel
theorem dX9_changedBy_32 : decode cX9_changedBy 32 = .ok (.istore_n 3, 1) := by decide +kernel
theorem dX9_changedBy_33 : decode cX9_changedBy 33 = .ok (.iload_n 3, 1) := by decide +kernel
theorem dX9_changedBy_34 : decode cX9_changedBy 34 = .ok (.aload_n 0, 1) := by decide +kernel
theorem dX9_changedBy_35 : decode cX9_changedBy 35 = .ok (.getfield 13, 3) := by decide +kernel
theorem dX9_changedBy_38 : decode cX9_changedBy 38 = .ok (.getfield 201, 3) := by decide +kernel
theorem dX9_changedBy_41 : decode cX9_changedBy 41 = .ok (.invokevirtual 117, 3) := by decide +kernel
theorem dX9_changedBy_44 : decode cX9_changedBy 44 = .ok (.if_icmp .ge 40, 3) := by decide +kernel
theorem dX9_changedBy_47 : decode cX9_changedBy 47 = .ok (.aload_n 0, 1) := by decide +kernel
theorem dX9_changedBy_48 : decode cX9_changedBy 48 = .ok (.getfield 37, 3) := by decide +kernel
theorem dX9_changedBy_51 : decode cX9_changedBy 51 = .ok (.aload_n 0, 1) := by decide +kernel
theorem dX9_changedBy_52 : decode cX9_changedBy 52 = .ok (.getfield 13, 3) := by decide +kernel
theorem dX9_changedBy_55 : decode cX9_changedBy 55 = .ok (.getfield 201, 3) := by decide +kernel
theorem dX9_changedBy_58 : decode cX9_changedBy 58 = .ok (.iload_n 3, 1) := by decide +kernel
theorem dX9_changedBy_59 : decode cX9_changedBy 59 = .ok (.invokevirtual 212, 3) := by decide +kernel
theorem dX9_changedBy_62 : decode cX9_changedBy 62 = .ok (.checkcast 53, 3) := by decide +kernel
theorem dX9_changedBy_65 : decode cX9_changedBy 65 = .ok (.aload_n 0, 1) := by decide +kernel
theorem dX9_changedBy_66 : decode cX9_changedBy 66 = .ok (.getfield 41, 3) := by decide +kernel
theorem dX9_changedBy_69 : decode cX9_changedBy 69 = .ok (.invokevirtual 298, 3) := by decide +kernel
theorem dX9_changedBy_72 : decode cX9_changedBy 72 = .ok (.ifCond .eq 6, 3) := by decide +kernel
theorem dX9_changedBy_75 : decode cX9_changedBy 75 = .ok (.iinc 2 1, 3) := by decide +kernel
theorem dX9_changedBy_78 : decode cX9_changedBy 78 = .ok (.iinc 3 1, 3) := by decide +kernel
theorem dX9_changedBy_81 : decode cX9_changedBy 81 = .ok (.goto (-48), 3) := by decide +kernel
theorem dX9_changedBy_84 : decode cX9_changedBy 84 = .ok (.iload_n 2, 1) := by decide +kernel
theorem dX9_changedBy_85 : decode cX9_changedBy 85 = .ok (.ireturn, 1) := by decide +kernel
theorem dX9_digest_0 : decode cX9_digest 0 = .ok (.ldc2_w 302, 3) := by decide +kernel
theorem dX9_digest_3 : decode cX9_digest 3 = .ok (.lstore_n 1, 1) := by decide +kernel
theorem dX9_digest_4 : decode cX9_digest 4 = .ok (.lload_n 1, 1) := by decide +kernel
theorem dX9_digest_5 : decode cX9_digest 5 = .ok (.ldc2_w 304, 3) := by decide +kernel
theorem dX9_digest_8 : decode cX9_digest 8 = .ok (.lmul, 1) := by decide +kernel
theorem dX9_digest_9 : decode cX9_digest 9 = .ok (.aload_n 0, 1) := by decide +kernel
theorem dX9_digest_10 : decode cX9_digest 10 = .ok (.invokevirtual 306, 3) := by decide +kernel
theorem dX9_digest_13 : decode cX9_digest 13 = .ok (.i2l, 1) := by decide +kernel
theorem dX9_digest_14 : decode cX9_digest 14 = .ok (.ladd, 1) := by decide +kernel
theorem dX9_digest_15 : decode cX9_digest 15 = .ok (.lstore_n 1, 1) := by decide +kernel
theorem dX9_digest_16 : decode cX9_digest 16 = .ok (.lload_n 1, 1) := by decide +kernel
theorem dX9_digest_17 : decode cX9_digest 17 = .ok (.ldc2_w 304, 3) := by decide +kernel
theorem dX9_digest_20 : decode cX9_digest 20 = .ok (.lmul, 1) := by decide +kernel
theorem dX9_digest_21 : decode cX9_digest 21 = .ok (.aload_n 0, 1) := by decide +kernel
theorem dX9_digest_22 : decode cX9_digest 22 = .ok (.invokevirtual 309, 3) := by decide +kernel
theorem dX9_digest_25 : decode cX9_digest 25 = .ok (.i2l, 1) := by decide +kernel
theorem dX9_digest_26 : decode cX9_digest 26 = .ok (.ladd, 1) := by decide +kernel
theorem dX9_digest_27 : decode cX9_digest 27 = .ok (.lstore_n 1, 1) := by decide +kernel
theorem dX9_digest_28 : decode cX9_digest 28 = .ok (.lload_n 1, 1) := by decide +kernel
theorem dX9_digest_29 : decode cX9_digest 29 = .ok (.ldc2_w 304, 3) := by decide +kernel
theorem dX9_digest_32 : decode cX9_digest 32 = .ok (.lmul, 1) := by decide +kernel
theorem dX9_digest_33 : decode cX9_digest 33 = .ok (.aload_n 0, 1) := by decide +kernel
theorem dX9_digest_34 : decode cX9_digest 34 = .ok (.invokevirtual 311, 3) := by decide +kernel
theorem dX9_digest_37 : decode cX9_digest 37 = .ok (.i2l, 1) := by decide +kernel
theorem dX9_digest_38 : decode cX9_digest 38 = .ok (.ladd, 1) := by decide +kernel
theorem dX9_digest_39 : decode cX9_digest 39 = .ok (.lstore_n 1, 1) := by decide +kernel
theorem dX9_digest_40 : decode cX9_digest 40 = .ok (.lload_n 1, 1) := by decide +kernel
theorem dX9_digest_41 : decode cX9_digest 41 = .ok (.ldc2_w 304, 3) := by decide +kernel
theorem dX9_digest_44 : decode cX9_digest 44 = .ok (.lmul, 1) := by decide +kernel
theorem dX9_digest_45 : decode cX9_digest 45 = .ok (.aload_n 0, 1) := by decide +kernel
theorem dX9_digest_46 : decode cX9_digest 46 = .ok (.iconst 0, 1) := by decide +kernel
theorem dX9_digest_47 : decode cX9_digest 47 = .ok (.aload_n 0, 1) := by decide +kernel
theorem dX9_digest_48 : decode cX9_digest 48 = .ok (.getfield 44, 3) := by decide +kernel
theorem dX9_digest_51 : decode cX9_digest 51 = .ok (.invokevirtual 232, 3) := by decide +kernel
theorem dX9_digest_54 : decode cX9_digest 54 = .ok (.invokevirtual 273, 3) := by decide +kernel
theorem dX9_digest_57 : decode cX9_digest 57 = .ok (.i2l, 1) := by decide +kernel
theorem dX9_digest_58 : decode cX9_digest 58 = .ok (.ladd, 1) := by decide +kernel
theorem dX9_digest_59 : decode cX9_digest 59 = .ok (.lstore_n 1, 1) := by decide +kernel
theorem dX9_digest_60 : decode cX9_digest 60 = .ok (.iconst 0, 1) := by decide +kernel
theorem dX9_digest_61 : decode cX9_digest 61 = .ok (.istore_n 3, 1) := by decide +kernel
theorem dX9_digest_62 : decode cX9_digest 62 = .ok (.iload_n 3, 1) := by decide +kernel
theorem dX9_digest_63 : decode cX9_digest 63 = .ok (.aload_n 0, 1) := by decide +kernel
theorem dX9_digest_64 : decode cX9_digest 64 = .ok (.invokevirtual 306, 3) := by decide +kernel
theorem dX9_digest_67 : decode cX9_digest 67 = .ok (.if_icmp .ge 49, 3) := by decide +kernel
theorem dX9_digest_70 : decode cX9_digest 70 = .ok (.aload_n 0, 1) := by decide +kernel
theorem dX9_digest_71 : decode cX9_digest 71 = .ok (.iload_n 3, 1) := by decide +kernel
theorem dX9_digest_72 : decode cX9_digest 72 = .ok (.invokevirtual 314, 3) := by decide +kernel
theorem dX9_digest_75 : decode cX9_digest 75 = .ok (.ifCond .eq 35, 3) := by decide +kernel
theorem dX9_digest_78 : decode cX9_digest 78 = .ok (.aload_n 0, 1) := by decide +kernel
theorem dX9_digest_79 : decode cX9_digest 79 = .ok (.iload_n 3, 1) := by decide +kernel
theorem dX9_digest_80 : decode cX9_digest 80 = .ok (.invokevirtual 48, 3) := by decide +kernel
theorem dX9_digest_83 : decode cX9_digest 83 = .ok (.astore 4, 2) := by decide +kernel
theorem dX9_digest_85 : decode cX9_digest 85 = .ok (.aload_n 0, 1) := by decide +kernel
theorem dX9_digest_86 : decode cX9_digest 86 = .ok (.aload_n 0, 1) := by decide +kernel
theorem dX9_digest_87 : decode cX9_digest 87 = .ok (.aload_n 0, 1) := by decide +kernel
theorem dX9_digest_88 : decode cX9_digest 88 = .ok (.lload_n 1, 1) := by decide +kernel
theorem dX9_digest_89 : decode cX9_digest 89 = .ok (.aload 4, 2) := by decide +kernel
theorem dX9_digest_91 : decode cX9_digest 91 = .ok (.invokevirtual 317, 3) := by decide +kernel
theorem dX9_digest_94 : decode cX9_digest 94 = .ok (.aload 4, 2) := by decide +kernel
theorem dX9_digest_96 : decode cX9_digest 96 = .ok (.invokestatic 321, 3) := by decide +kernel
theorem dX9_digest_99 : decode cX9_digest 99 = .ok (.aload 4, 2) := by decide +kernel
theorem dX9_digest_101 : decode cX9_digest 101 = .ok (.invokevirtual 324, 3) := by decide +kernel
theorem dX9_digest_104 : decode cX9_digest 104 = .ok (.aload 4, 2) := by decide +kernel
theorem dX9_digest_106 : decode cX9_digest 106 = .ok (.invokevirtual 327, 3) := by decide +kernel
theorem dX9_digest_109 : decode cX9_digest 109 = .ok (.lstore_n 1, 1) := by decide +kernel
theorem dX9_digest_110 : decode cX9_digest 110 = .ok (.iinc 3 1, 3) := by decide +kernel
theorem dX9_digest_113 : decode cX9_digest 113 = .ok (.goto (-51), 3) := by decide +kernel
theorem dX9_digest_116 : decode cX9_digest 116 = .ok (.iconst 0, 1) := by decide +kernel
theorem dX9_digest_117 : decode cX9_digest 117 = .ok (.istore_n 3, 1) := by decide +kernel
theorem dX9_digest_118 : decode cX9_digest 118 = .ok (.iload_n 3, 1) := by decide +kernel
theorem dX9_digest_119 : decode cX9_digest 119 = .ok (.aload_n 0, 1) := by decide +kernel
theorem dX9_digest_120 : decode cX9_digest 120 = .ok (.invokevirtual 311, 3) := by decide +kernel
theorem dX9_digest_123 : decode cX9_digest 123 = .ok (.if_icmp .ge 35, 3) := by decide +kernel
theorem dX9_digest_126 : decode cX9_digest 126 = .ok (.lload_n 1, 1) := by decide +kernel
theorem dX9_digest_127 : decode cX9_digest 127 = .ok (.ldc2_w 304, 3) := by decide +kernel
theorem dX9_digest_130 : decode cX9_digest 130 = .ok (.lmul, 1) := by decide +kernel
theorem dX9_digest_131 : decode cX9_digest 131 = .ok (.aload_n 0, 1) := by decide +kernel
theorem dX9_digest_132 : decode cX9_digest 132 = .ok (.iload_n 3, 1) := by decide +kernel
theorem dX9_digest_133 : decode cX9_digest 133 = .ok (.invokevirtual 330, 3) := by decide +kernel
theorem dX9_digest_136 : decode cX9_digest 136 = .ok (.i2l, 1) := by decide +kernel
theorem dX9_digest_137 : decode cX9_digest 137 = .ok (.ladd, 1) := by decide +kernel
theorem dX9_digest_138 : decode cX9_digest 138 = .ok (.lstore_n 1, 1) := by decide +kernel
theorem dX9_digest_139 : decode cX9_digest 139 = .ok (.lload_n 1, 1) := by decide +kernel
theorem dX9_digest_140 : decode cX9_digest 140 = .ok (.ldc2_w 304, 3) := by decide +kernel
theorem dX9_digest_143 : decode cX9_digest 143 = .ok (.lmul, 1) := by decide +kernel
theorem dX9_digest_144 : decode cX9_digest 144 = .ok (.aload_n 0, 1) := by decide +kernel
theorem dX9_digest_145 : decode cX9_digest 145 = .ok (.iload_n 3, 1) := by decide +kernel
theorem dX9_digest_146 : decode cX9_digest 146 = .ok (.invokevirtual 332, 3) := by decide +kernel
theorem dX9_digest_149 : decode cX9_digest 149 = .ok (.i2l, 1) := by decide +kernel
theorem dX9_digest_150 : decode cX9_digest 150 = .ok (.ladd, 1) := by decide +kernel
theorem dX9_digest_151 : decode cX9_digest 151 = .ok (.lstore_n 1, 1) := by decide +kernel
theorem dX9_digest_152 : decode cX9_digest 152 = .ok (.iinc 3 1, 3) := by decide +kernel
theorem dX9_digest_155 : decode cX9_digest 155 = .ok (.goto (-37), 3) := by decide +kernel
theorem dX9_digest_158 : decode cX9_digest 158 = .ok (.lload_n 1, 1) := by decide +kernel
theorem dX9_digest_159 : decode cX9_digest 159 = .ok (.lreturn, 1) := by decide +kernel
theorem dX9_digestOfPlace_0 : decode cX9_digestOfPlace 0 = .ok (.lload_n 1, 1) := by decide +kernel
theorem dX9_digestOfPlace_1 : decode cX9_digestOfPlace 1 = .ok (.lstore 4, 2) := by decide +kernel
theorem dX9_digestOfPlace_3 : decode cX9_digestOfPlace 3 = .ok (.lload 4, 2) := by decide +kernel
theorem dX9_digestOfPlace_5 : decode cX9_digestOfPlace 5 = .ok (.ldc2_w 304, 3) := by decide +kernel
theorem dX9_digestOfPlace_8 : decode cX9_digestOfPlace 8 = .ok (.lmul, 1) := by decide +kernel
theorem dX9_digestOfPlace_9 : decode cX9_digestOfPlace 9 = .ok (.aload_n 3, 1) := by decide +kernel
theorem dX9_digestOfPlace_10 : decode cX9_digestOfPlace 10 = .ok (.getfield 207, 3) := by decide +kernel
theorem dX9_digestOfPlace_13 : decode cX9_digestOfPlace 13 = .ok (.i2l, 1) := by decide +kernel
theorem dX9_digestOfPlace_14 : decode cX9_digestOfPlace 14 = .ok (.ladd, 1) := by decide +kernel
theorem dX9_digestOfPlace_15 : decode cX9_digestOfPlace 15 = .ok (.lstore 4, 2) := by decide +kernel
theorem dX9_digestOfPlace_17 : decode cX9_digestOfPlace 17 = .ok (.lload 4, 2) := by decide +kernel
theorem dX9_digestOfPlace_19 : decode cX9_digestOfPlace 19 = .ok (.ldc2_w 304, 3) := by decide +kernel
theorem dX9_digestOfPlace_22 : decode cX9_digestOfPlace 22 = .ok (.lmul, 1) := by decide +kernel
theorem dX9_digestOfPlace_23 : decode cX9_digestOfPlace 23 = .ok (.aload_n 3, 1) := by decide +kernel
theorem dX9_digestOfPlace_24 : decode cX9_digestOfPlace 24 = .ok (.getfield 52, 3) := by decide +kernel
theorem dX9_digestOfPlace_27 : decode cX9_digestOfPlace 27 = .ok (.ifCond .eq 7, 3) := by decide +kernel
theorem dX9_digestOfPlace_30 : decode cX9_digestOfPlace 30 = .ok (.iconst 1, 1) := by decide +kernel
theorem dX9_digestOfPlace_31 : decode cX9_digestOfPlace 31 = .ok (.goto 4, 3) := by decide +kernel
theorem dX9_digestOfPlace_34 : decode cX9_digestOfPlace 34 = .ok (.iconst 0, 1) := by decide +kernel
theorem dX9_digestOfPlace_35 : decode cX9_digestOfPlace 35 = .ok (.i2l, 1) := by decide +kernel
theorem dX9_digestOfPlace_36 : decode cX9_digestOfPlace 36 = .ok (.ladd, 1) := by decide +kernel
theorem dX9_digestOfPlace_37 : decode cX9_digestOfPlace 37 = .ok (.lstore 4, 2) := by decide +kernel
theorem dX9_digestOfPlace_39 : decode cX9_digestOfPlace 39 = .ok (.lload 4, 2) := by decide +kernel
theorem dX9_digestOfPlace_41 : decode cX9_digestOfPlace 41 = .ok (.ldc2_w 304, 3) := by decide +kernel
theorem dX9_digestOfPlace_44 : decode cX9_digestOfPlace 44 = .ok (.lmul, 1) := by decide +kernel
theorem dX9_digestOfPlace_45 : decode cX9_digestOfPlace 45 = .ok (.aload_n 0, 1) := by decide +kernel
theorem dX9_digestOfPlace_46 : decode cX9_digestOfPlace 46 = .ok (.aload_n 3, 1) := by decide +kernel
theorem dX9_digestOfPlace_47 : decode cX9_digestOfPlace 47 = .ok (.getfield 207, 3) := by decide +kernel
theorem dX9_digestOfPlace_50 : decode cX9_digestOfPlace 50 = .ok (.invokevirtual 335, 3) := by decide +kernel
theorem dX9_digestOfPlace_53 : decode cX9_digestOfPlace 53 = .ok (.i2l, 1) := by decide +kernel
theorem dX9_digestOfPlace_54 : decode cX9_digestOfPlace 54 = .ok (.ladd, 1) := by decide +kernel
theorem dX9_digestOfPlace_55 : decode cX9_digestOfPlace 55 = .ok (.lstore 4, 2) := by decide +kernel
theorem dX9_digestOfPlace_57 : decode cX9_digestOfPlace 57 = .ok (.lload 4, 2) := by decide +kernel
theorem dX9_digestOfPlace_59 : decode cX9_digestOfPlace 59 = .ok (.ldc2_w 304, 3) := by decide +kernel
theorem dX9_digestOfPlace_62 : decode cX9_digestOfPlace 62 = .ok (.lmul, 1) := by decide +kernel
theorem dX9_digestOfPlace_63 : decode cX9_digestOfPlace 63 = .ok (.aload_n 0, 1) := by decide +kernel
theorem dX9_digestOfPlace_64 : decode cX9_digestOfPlace 64 = .ok (.aload_n 3, 1) := by decide +kernel
theorem dX9_digestOfPlace_65 : decode cX9_digestOfPlace 65 = .ok (.getfield 207, 3) := by decide +kernel
theorem dX9_digestOfPlace_68 : decode cX9_digestOfPlace 68 = .ok (.invokevirtual 337, 3) := by decide +kernel
theorem dX9_digestOfPlace_71 : decode cX9_digestOfPlace 71 = .ok (.i2l, 1) := by decide +kernel
theorem dX9_digestOfPlace_72 : decode cX9_digestOfPlace 72 = .ok (.ladd, 1) := by decide +kernel
theorem dX9_digestOfPlace_73 : decode cX9_digestOfPlace 73 = .ok (.lstore 4, 2) := by decide +kernel
theorem dX9_digestOfPlace_75 : decode cX9_digestOfPlace 75 = .ok (.lload 4, 2) := by decide +kernel
theorem dX9_digestOfPlace_77 : decode cX9_digestOfPlace 77 = .ok (.lreturn, 1) := by decide +kernel
theorem dX9_digestOfBox_0 : decode cX9_digestOfBox 0 = .ok (.lload_n 0, 1) := by decide +kernel
theorem dX9_digestOfBox_1 : decode cX9_digestOfBox 1 = .ok (.lstore_n 3, 1) := by decide +kernel
theorem dX9_digestOfBox_2 : decode cX9_digestOfBox 2 = .ok (.lload_n 3, 1) := by decide +kernel
theorem dX9_digestOfBox_3 : decode cX9_digestOfBox 3 = .ok (.ldc2_w 304, 3) := by decide +kernel
theorem dX9_digestOfBox_6 : decode cX9_digestOfBox 6 = .ok (.lmul, 1) := by decide +kernel
theorem dX9_digestOfBox_7 : decode cX9_digestOfBox 7 = .ok (.aload_n 2, 1) := by decide +kernel
theorem dX9_digestOfBox_8 : decode cX9_digestOfBox 8 = .ok (.getfield 339, 3) := by decide +kernel
theorem dX9_digestOfBox_11 : decode cX9_digestOfBox 11 = .ok (.getfield 236, 3) := by decide +kernel
theorem dX9_digestOfBox_14 : decode cX9_digestOfBox 14 = .ok (.i2l, 1) := by decide +kernel
theorem dX9_digestOfBox_15 : decode cX9_digestOfBox 15 = .ok (.ladd, 1) := by decide +kernel
theorem dX9_digestOfBox_16 : decode cX9_digestOfBox 16 = .ok (.lstore_n 3, 1) := by decide +kernel
theorem dX9_digestOfBox_17 : decode cX9_digestOfBox 17 = .ok (.lload_n 3, 1) := by decide +kernel
theorem dX9_digestOfBox_18 : decode cX9_digestOfBox 18 = .ok (.ldc2_w 304, 3) := by decide +kernel
theorem dX9_digestOfBox_21 : decode cX9_digestOfBox 21 = .ok (.lmul, 1) := by decide +kernel
theorem dX9_digestOfBox_22 : decode cX9_digestOfBox 22 = .ok (.aload_n 2, 1) := by decide +kernel
theorem dX9_digestOfBox_23 : decode cX9_digestOfBox 23 = .ok (.getfield 339, 3) := by decide +kernel
theorem dX9_digestOfBox_26 : decode cX9_digestOfBox 26 = .ok (.invokevirtual 241, 3) := by decide +kernel
theorem dX9_digestOfBox_29 : decode cX9_digestOfBox 29 = .ok (.i2l, 1) := by decide +kernel
theorem dX9_digestOfBox_30 : decode cX9_digestOfBox 30 = .ok (.ladd, 1) := by decide +kernel
theorem dX9_digestOfBox_31 : decode cX9_digestOfBox 31 = .ok (.lstore_n 3, 1) := by decide +kernel
theorem dX9_digestOfBox_32 : decode cX9_digestOfBox 32 = .ok (.lload_n 3, 1) := by decide +kernel
theorem dX9_digestOfBox_33 : decode cX9_digestOfBox 33 = .ok (.ldc2_w 304, 3) := by decide +kernel
theorem dX9_digestOfBox_36 : decode cX9_digestOfBox 36 = .ok (.lmul, 1) := by decide +kernel
theorem dX9_digestOfBox_37 : decode cX9_digestOfBox 37 = .ok (.aload_n 2, 1) := by decide +kernel
theorem dX9_digestOfBox_38 : decode cX9_digestOfBox 38 = .ok (.getfield 339, 3) := by decide +kernel
theorem dX9_digestOfBox_41 : decode cX9_digestOfBox 41 = .ok (.invokevirtual 244, 3) := by decide +kernel
theorem dX9_digestOfBox_44 : decode cX9_digestOfBox 44 = .ok (.i2l, 1) := by decide +kernel
theorem dX9_digestOfBox_45 : decode cX9_digestOfBox 45 = .ok (.ladd, 1) := by decide +kernel
theorem dX9_digestOfBox_46 : decode cX9_digestOfBox 46 = .ok (.lstore_n 3, 1) := by decide +kernel
theorem dX9_digestOfBox_47 : decode cX9_digestOfBox 47 = .ok (.lload_n 3, 1) := by decide +kernel
theorem dX9_digestOfBox_48 : decode cX9_digestOfBox 48 = .ok (.ldc2_w 304, 3) := by decide +kernel
theorem dX9_digestOfBox_51 : decode cX9_digestOfBox 51 = .ok (.lmul, 1) := by decide +kernel
theorem dX9_digestOfBox_52 : decode cX9_digestOfBox 52 = .ok (.aload_n 2, 1) := by decide +kernel
theorem dX9_digestOfBox_53 : decode cX9_digestOfBox 53 = .ok (.getfield 339, 3) := by decide +kernel
theorem dX9_digestOfBox_56 : decode cX9_digestOfBox 56 = .ok (.invokevirtual 247, 3) := by decide +kernel
theorem dX9_digestOfBox_59 : decode cX9_digestOfBox 59 = .ok (.i2l, 1) := by decide +kernel
theorem dX9_digestOfBox_60 : decode cX9_digestOfBox 60 = .ok (.ladd, 1) := by decide +kernel
theorem dX9_digestOfBox_61 : decode cX9_digestOfBox 61 = .ok (.lstore_n 3, 1) := by decide +kernel
theorem dX9_digestOfBox_62 : decode cX9_digestOfBox 62 = .ok (.lload_n 3, 1) := by decide +kernel
theorem dX9_digestOfBox_63 : decode cX9_digestOfBox 63 = .ok (.ldc2_w 304, 3) := by decide +kernel
theorem dX9_digestOfBox_66 : decode cX9_digestOfBox 66 = .ok (.lmul, 1) := by decide +kernel
theorem dX9_digestOfBox_67 : decode cX9_digestOfBox 67 = .ok (.aload_n 2, 1) := by decide +kernel
theorem dX9_digestOfBox_68 : decode cX9_digestOfBox 68 = .ok (.getfield 339, 3) := by decide +kernel
theorem dX9_digestOfBox_71 : decode cX9_digestOfBox 71 = .ok (.invokevirtual 250, 3) := by decide +kernel
theorem dX9_digestOfBox_74 : decode cX9_digestOfBox 74 = .ok (.i2l, 1) := by decide +kernel
theorem dX9_digestOfBox_75 : decode cX9_digestOfBox 75 = .ok (.ladd, 1) := by decide +kernel
theorem dX9_digestOfBox_76 : decode cX9_digestOfBox 76 = .ok (.lstore_n 3, 1) := by decide +kernel
theorem dX9_digestOfBox_77 : decode cX9_digestOfBox 77 = .ok (.lload_n 3, 1) := by decide +kernel
theorem dX9_digestOfBox_78 : decode cX9_digestOfBox 78 = .ok (.ldc2_w 304, 3) := by decide +kernel
theorem dX9_digestOfBox_81 : decode cX9_digestOfBox 81 = .ok (.lmul, 1) := by decide +kernel
theorem dX9_digestOfBox_82 : decode cX9_digestOfBox 82 = .ok (.aload_n 2, 1) := by decide +kernel
theorem dX9_digestOfBox_83 : decode cX9_digestOfBox 83 = .ok (.getfield 339, 3) := by decide +kernel
theorem dX9_digestOfBox_86 : decode cX9_digestOfBox 86 = .ok (.invokevirtual 253, 3) := by decide +kernel
theorem dX9_digestOfBox_89 : decode cX9_digestOfBox 89 = .ok (.i2l, 1) := by decide +kernel
theorem dX9_digestOfBox_90 : decode cX9_digestOfBox 90 = .ok (.ladd, 1) := by decide +kernel
theorem dX9_digestOfBox_91 : decode cX9_digestOfBox 91 = .ok (.lstore_n 3, 1) := by decide +kernel
theorem dX9_digestOfBox_92 : decode cX9_digestOfBox 92 = .ok (.lload_n 3, 1) := by decide +kernel
theorem dX9_digestOfBox_93 : decode cX9_digestOfBox 93 = .ok (.ldc2_w 304, 3) := by decide +kernel
theorem dX9_digestOfBox_96 : decode cX9_digestOfBox 96 = .ok (.lmul, 1) := by decide +kernel
theorem dX9_digestOfBox_97 : decode cX9_digestOfBox 97 = .ok (.aload_n 2, 1) := by decide +kernel
theorem dX9_digestOfBox_98 : decode cX9_digestOfBox 98 = .ok (.getfield 339, 3) := by decide +kernel
theorem dX9_digestOfBox_101 : decode cX9_digestOfBox 101 = .ok (.getfield 256, 3) := by decide +kernel
theorem dX9_digestOfBox_104 : decode cX9_digestOfBox 104 = .ok (.i2l, 1) := by decide +kernel
theorem dX9_digestOfBox_105 : decode cX9_digestOfBox 105 = .ok (.ladd, 1) := by decide +kernel
theorem dX9_digestOfBox_106 : decode cX9_digestOfBox 106 = .ok (.lstore_n 3, 1) := by decide +kernel
theorem dX9_digestOfBox_107 : decode cX9_digestOfBox 107 = .ok (.lload_n 3, 1) := by decide +kernel
theorem dX9_digestOfBox_108 : decode cX9_digestOfBox 108 = .ok (.ldc2_w 304, 3) := by decide +kernel
theorem dX9_digestOfBox_111 : decode cX9_digestOfBox 111 = .ok (.lmul, 1) := by decide +kernel
theorem dX9_digestOfBox_112 : decode cX9_digestOfBox 112 = .ok (.aload_n 2, 1) := by decide +kernel
theorem dX9_digestOfBox_113 : decode cX9_digestOfBox 113 = .ok (.getfield 339, 3) := by decide +kernel
theorem dX9_digestOfBox_116 : decode cX9_digestOfBox 116 = .ok (.invokevirtual 259, 3) := by decide +kernel
theorem dX9_digestOfBox_119 : decode cX9_digestOfBox 119 = .ok (.i2l, 1) := by decide +kernel
theorem dX9_digestOfBox_120 : decode cX9_digestOfBox 120 = .ok (.ladd, 1) := by decide +kernel
theorem dX9_digestOfBox_121 : decode cX9_digestOfBox 121 = .ok (.lstore_n 3, 1) := by decide +kernel
theorem dX9_digestOfBox_122 : decode cX9_digestOfBox 122 = .ok (.lload_n 3, 1) := by decide +kernel
theorem dX9_digestOfBox_123 : decode cX9_digestOfBox 123 = .ok (.lreturn, 1) := by decide +kernel
theorem dX9_digestOfStyles_0 : decode cX9_digestOfStyles 0 = .ok (.lload_n 1, 1) := by decide +kernel
theorem dX9_digestOfStyles_1 : decode cX9_digestOfStyles 1 = .ok (.lstore 4, 2) := by decide +kernel
theorem dX9_digestOfStyles_3 : decode cX9_digestOfStyles 3 = .ok (.iconst 0, 1) := by decide +kernel
theorem dX9_digestOfStyles_4 : decode cX9_digestOfStyles 4 = .ok (.istore 6, 2) := by decide +kernel
theorem dX9_digestOfStyles_6 : decode cX9_digestOfStyles 6 = .ok (.iload 6, 2) := by decide +kernel
theorem dX9_digestOfStyles_8 : decode cX9_digestOfStyles 8 = .ok (.bipush 14, 2) := by decide +kernel
theorem dX9_digestOfStyles_10 : decode cX9_digestOfStyles 10 = .ok (.if_icmp .ge 29, 3) := by decide +kernel
theorem dX9_digestOfStyles_13 : decode cX9_digestOfStyles 13 = .ok (.lload 4, 2) := by decide +kernel
theorem dX9_digestOfStyles_15 : decode cX9_digestOfStyles 15 = .ok (.ldc2_w 304, 3) := by decide +kernel
theorem dX9_digestOfStyles_18 : decode cX9_digestOfStyles 18 = .ok (.lmul, 1) := by decide +kernel
theorem dX9_digestOfStyles_19 : decode cX9_digestOfStyles 19 = .ok (.aload_n 0, 1) := by decide +kernel
theorem dX9_digestOfStyles_20 : decode cX9_digestOfStyles 20 = .ok (.getfield 37, 3) := by decide +kernel
theorem dX9_digestOfStyles_23 : decode cX9_digestOfStyles 23 = .ok (.aload_n 3, 1) := by decide +kernel
theorem dX9_digestOfStyles_24 : decode cX9_digestOfStyles 24 = .ok (.iload 6, 2) := by decide +kernel
theorem dX9_digestOfStyles_26 : decode cX9_digestOfStyles 26 = .ok (.invokevirtual 225, 3) := by decide +kernel
theorem dX9_digestOfStyles_29 : decode cX9_digestOfStyles 29 = .ok (.i2l, 1) := by decide +kernel
theorem dX9_digestOfStyles_30 : decode cX9_digestOfStyles 30 = .ok (.ladd, 1) := by decide +kernel
theorem dX9_digestOfStyles_31 : decode cX9_digestOfStyles 31 = .ok (.lstore 4, 2) := by decide +kernel
theorem dX9_digestOfStyles_33 : decode cX9_digestOfStyles 33 = .ok (.iinc 6 1, 3) := by decide +kernel
theorem dX9_digestOfStyles_36 : decode cX9_digestOfStyles 36 = .ok (.goto (-30), 3) := by decide +kernel
theorem dX9_digestOfStyles_39 : decode cX9_digestOfStyles 39 = .ok (.lload 4, 2) := by decide +kernel
theorem dX9_digestOfStyles_41 : decode cX9_digestOfStyles 41 = .ok (.lreturn, 1) := by decide +kernel
theorem dX9_digestOfWords_0 : decode cX9_digestOfWords 0 = .ok (.aload_n 3, 1) := by decide +kernel
theorem dX9_digestOfWords_1 : decode cX9_digestOfWords 1 = .ok (.getfield 52, 3) := by decide +kernel
theorem dX9_digestOfWords_4 : decode cX9_digestOfWords 4 = .ok (.ifCond .ne 5, 3) := by decide +kernel
theorem dX9_digestOfWords_7 : decode cX9_digestOfWords 7 = .ok (.lload_n 1, 1) := by decide +kernel
theorem dX9_digestOfWords_8 : decode cX9_digestOfWords 8 = .ok (.lreturn, 1) := by decide +kernel
theorem dX9_digestOfWords_9 : decode cX9_digestOfWords 9 = .ok (.lload_n 1, 1) := by decide +kernel
theorem dX9_digestOfWords_10 : decode cX9_digestOfWords 10 = .ok (.lstore 4, 2) := by decide +kernel
theorem dX9_digestOfWords_12 : decode cX9_digestOfWords 12 = .ok (.iconst 0, 1) := by decide +kernel
theorem dX9_digestOfWords_13 : decode cX9_digestOfWords 13 = .ok (.istore 6, 2) := by decide +kernel
theorem dX9_digestOfWords_15 : decode cX9_digestOfWords 15 = .ok (.iload 6, 2) := by decide +kernel
theorem dX9_digestOfWords_17 : decode cX9_digestOfWords 17 = .ok (.aload_n 3, 1) := by decide +kernel
theorem dX9_digestOfWords_18 : decode cX9_digestOfWords 18 = .ok (.getfield 85, 3) := by decide +kernel
theorem dX9_digestOfWords_21 : decode cX9_digestOfWords 21 = .ok (.if_icmp .ge 47, 3) := by decide +kernel
theorem dX9_digestOfWords_24 : decode cX9_digestOfWords 24 = .ok (.lload 4, 2) := by decide +kernel
theorem dX9_digestOfWords_26 : decode cX9_digestOfWords 26 = .ok (.ldc2_w 304, 3) := by decide +kernel
theorem dX9_digestOfWords_29 : decode cX9_digestOfWords 29 = .ok (.lmul, 1) := by decide +kernel
theorem dX9_digestOfWords_30 : decode cX9_digestOfWords 30 = .ok (.aload_n 3, 1) := by decide +kernel
theorem dX9_digestOfWords_31 : decode cX9_digestOfWords 31 = .ok (.getfield 339, 3) := by decide +kernel
theorem dX9_digestOfWords_34 : decode cX9_digestOfWords 34 = .ok (.iload 6, 2) := by decide +kernel
theorem dX9_digestOfWords_36 : decode cX9_digestOfWords 36 = .ok (.invokevirtual 267, 3) := by decide +kernel
theorem dX9_digestOfWords_39 : decode cX9_digestOfWords 39 = .ok (.i2l, 1) := by decide +kernel
theorem dX9_digestOfWords_40 : decode cX9_digestOfWords 40 = .ok (.ladd, 1) := by decide +kernel
theorem dX9_digestOfWords_41 : decode cX9_digestOfWords 41 = .ok (.lstore 4, 2) := by decide +kernel
theorem dX9_digestOfWords_43 : decode cX9_digestOfWords 43 = .ok (.lload 4, 2) := by decide +kernel
theorem dX9_digestOfWords_45 : decode cX9_digestOfWords 45 = .ok (.ldc2_w 304, 3) := by decide +kernel
theorem dX9_digestOfWords_48 : decode cX9_digestOfWords 48 = .ok (.lmul, 1) := by decide +kernel
theorem dX9_digestOfWords_49 : decode cX9_digestOfWords 49 = .ok (.aload_n 3, 1) := by decide +kernel
theorem dX9_digestOfWords_50 : decode cX9_digestOfWords 50 = .ok (.getfield 339, 3) := by decide +kernel
theorem dX9_digestOfWords_53 : decode cX9_digestOfWords 53 = .ok (.iload 6, 2) := by decide +kernel
theorem dX9_digestOfWords_55 : decode cX9_digestOfWords 55 = .ok (.invokevirtual 270, 3) := by decide +kernel
theorem dX9_digestOfWords_58 : decode cX9_digestOfWords 58 = .ok (.i2l, 1) := by decide +kernel
theorem dX9_digestOfWords_59 : decode cX9_digestOfWords 59 = .ok (.ladd, 1) := by decide +kernel
theorem dX9_digestOfWords_60 : decode cX9_digestOfWords 60 = .ok (.lstore 4, 2) := by decide +kernel
theorem dX9_digestOfWords_62 : decode cX9_digestOfWords 62 = .ok (.iinc 6 1, 3) := by decide +kernel
theorem dX9_digestOfWords_65 : decode cX9_digestOfWords 65 = .ok (.goto (-50), 3) := by decide +kernel
theorem dX9_digestOfWords_68 : decode cX9_digestOfWords 68 = .ok (.lload 4, 2) := by decide +kernel
theorem dX9_digestOfWords_70 : decode cX9_digestOfWords 70 = .ok (.ldc2_w 304, 3) := by decide +kernel
theorem dX9_digestOfWords_73 : decode cX9_digestOfWords 73 = .ok (.lmul, 1) := by decide +kernel
theorem dX9_digestOfWords_74 : decode cX9_digestOfWords 74 = .ok (.aload_n 0, 1) := by decide +kernel
theorem dX9_digestOfWords_75 : decode cX9_digestOfWords 75 = .ok (.getfield 29, 3) := by decide +kernel
theorem dX9_digestOfWords_78 : decode cX9_digestOfWords 78 = .ok (.aload_n 3, 1) := by decide +kernel
theorem dX9_digestOfWords_79 : decode cX9_digestOfWords 79 = .ok (.invokevirtual 285, 3) := by decide +kernel
theorem dX9_digestOfWords_82 : decode cX9_digestOfWords 82 = .ok (.i2l, 1) := by decide +kernel
theorem dX9_digestOfWords_83 : decode cX9_digestOfWords 83 = .ok (.ladd, 1) := by decide +kernel
theorem dX9_digestOfWords_84 : decode cX9_digestOfWords 84 = .ok (.lreturn, 1) := by decide +kernel
theorem dX9_nodeAt_0 : decode cX9_nodeAt 0 = .ok (.aload_n 0, 1) := by decide +kernel
theorem dX9_nodeAt_1 : decode cX9_nodeAt 1 = .ok (.getfield 13, 3) := by decide +kernel
theorem dX9_nodeAt_4 : decode cX9_nodeAt 4 = .ok (.iload_n 1, 1) := by decide +kernel
theorem dX9_nodeAt_5 : decode cX9_nodeAt 5 = .ok (.invokevirtual 204, 3) := by decide +kernel
theorem dX9_nodeAt_8 : decode cX9_nodeAt 8 = .ok (.ifCond .ne 14, 3) := by decide +kernel
theorem dX9_nodeAt_11 : decode cX9_nodeAt 11 = .ok (.new 138, 3) := by decide +kernel
theorem dX9_nodeAt_14 : decode cX9_nodeAt 14 = .ok (.dup, 1) := by decide +kernel
theorem dX9_nodeAt_15 : decode cX9_nodeAt 15 = .ok (.ldc_w 343, 3) := by decide +kernel
theorem dX9_nodeAt_18 : decode cX9_nodeAt 18 = .ok (.invokespecial 142, 3) := by decide +kernel
theorem dX9_nodeAt_21 : decode cX9_nodeAt 21 = .ok (.athrow, 1) := by decide +kernel
theorem dX9_nodeAt_22 : decode cX9_nodeAt 22 = .ok (.aload_n 0, 1) := by decide +kernel
theorem dX9_nodeAt_23 : decode cX9_nodeAt 23 = .ok (.getfield 13, 3) := by decide +kernel
theorem dX9_nodeAt_26 : decode cX9_nodeAt 26 = .ok (.getfield 198, 3) := by decide +kernel
theorem dX9_nodeAt_29 : decode cX9_nodeAt 29 = .ok (.iload_n 1, 1) := by decide +kernel
theorem dX9_nodeAt_30 : decode cX9_nodeAt 30 = .ok (.invokevirtual 212, 3) := by decide +kernel
theorem dX9_nodeAt_33 : decode cX9_nodeAt 33 = .ok (.checkcast 53, 3) := by decide +kernel
theorem dX9_nodeAt_36 : decode cX9_nodeAt 36 = .ok (.areturn, 1) := by decide +kernel
theorem dX9_ruleAt_0 : decode cX9_ruleAt 0 = .ok (.iload_n 1, 1) := by decide +kernel
theorem dX9_ruleAt_1 : decode cX9_ruleAt 1 = .ok (.ifCond .lt 14, 3) := by decide +kernel
theorem dX9_ruleAt_4 : decode cX9_ruleAt 4 = .ok (.iload_n 1, 1) := by decide +kernel
theorem dX9_ruleAt_5 : decode cX9_ruleAt 5 = .ok (.aload_n 0, 1) := by decide +kernel
theorem dX9_ruleAt_6 : decode cX9_ruleAt 6 = .ok (.getfield 22, 3) := by decide +kernel
theorem dX9_ruleAt_9 : decode cX9_ruleAt 9 = .ok (.invokevirtual 117, 3) := by decide +kernel
theorem dX9_ruleAt_12 : decode cX9_ruleAt 12 = .ok (.if_icmp .lt 14, 3) := by decide +kernel
theorem dX9_ruleAt_15 : decode cX9_ruleAt 15 = .ok (.new 138, 3) := by decide +kernel
theorem dX9_ruleAt_18 : decode cX9_ruleAt 18 = .ok (.dup, 1) := by decide +kernel
theorem dX9_ruleAt_19 : decode cX9_ruleAt 19 = .ok (.ldc_w 345, 3) := by decide +kernel
theorem dX9_ruleAt_22 : decode cX9_ruleAt 22 = .ok (.invokespecial 142, 3) := by decide +kernel
theorem dX9_ruleAt_25 : decode cX9_ruleAt 25 = .ok (.athrow, 1) := by decide +kernel
theorem dX9_ruleAt_26 : decode cX9_ruleAt 26 = .ok (.aload_n 0, 1) := by decide +kernel
theorem dX9_ruleAt_27 : decode cX9_ruleAt 27 = .ok (.getfield 22, 3) := by decide +kernel
theorem dX9_ruleAt_30 : decode cX9_ruleAt 30 = .ok (.iload_n 1, 1) := by decide +kernel
theorem dX9_ruleAt_31 : decode cX9_ruleAt 31 = .ok (.invokevirtual 212, 3) := by decide +kernel
theorem dX9_ruleAt_34 : decode cX9_ruleAt 34 = .ok (.checkcast 151, 3) := by decide +kernel
theorem dX9_ruleAt_37 : decode cX9_ruleAt 37 = .ok (.areturn, 1) := by decide +kernel
theorem dX9_forgetWhatWasWorkedOut_0 : decode cX9_forgetWhatWasWorkedOut 0 = .ok (.aload_n 0, 1) := by decide +kernel
theorem dX9_forgetWhatWasWorkedOut_1 : decode cX9_forgetWhatWasWorkedOut 1 = .ok (.getfield 37, 3) := by decide +kernel
theorem dX9_forgetWhatWasWorkedOut_4 : decode cX9_forgetWhatWasWorkedOut 4 = .ok (.iconst 0, 1) := by decide +kernel
theorem dX9_forgetWhatWasWorkedOut_5 : decode cX9_forgetWhatWasWorkedOut 5 = .ok (.putfield 347, 3) := by decide +kernel
theorem dX9_forgetWhatWasWorkedOut_8 : decode cX9_forgetWhatWasWorkedOut 8 = .ok (.aload_n 0, 1) := by decide +kernel
theorem dX9_forgetWhatWasWorkedOut_9 : decode cX9_forgetWhatWasWorkedOut 9 = .ok (.getfield 29, 3) := by decide +kernel
theorem dX9_forgetWhatWasWorkedOut_12 : decode cX9_forgetWhatWasWorkedOut 12 = .ok (.iconst 0, 1) := by decide +kernel
theorem dX9_forgetWhatWasWorkedOut_13 : decode cX9_forgetWhatWasWorkedOut 13 = .ok (.putfield 350, 3) := by decide +kernel
theorem dX9_forgetWhatWasWorkedOut_16 : decode cX9_forgetWhatWasWorkedOut 16 = .ok (.return_, 1) := by decide +kernel
theorem dX9_freshenStyles_0 : decode cX9_freshenStyles 0 = .ok (.aload_n 0, 1) := by decide +kernel
theorem dX9_freshenStyles_1 : decode cX9_freshenStyles 1 = .ok (.getfield 37, 3) := by decide +kernel
theorem dX9_freshenStyles_4 : decode cX9_freshenStyles 4 = .ok (.getfield 347, 3) := by decide +kernel
theorem dX9_freshenStyles_7 : decode cX9_freshenStyles 7 = .ok (.ifCond .ne 22, 3) := by decide +kernel
theorem dX9_freshenStyles_10 : decode cX9_freshenStyles 10 = .ok (.aload_n 0, 1) := by decide +kernel
theorem dX9_freshenStyles_11 : decode cX9_freshenStyles 11 = .ok (.getfield 37, 3) := by decide +kernel
theorem dX9_freshenStyles_14 : decode cX9_freshenStyles 14 = .ok (.aload_n 0, 1) := by decide +kernel
theorem dX9_freshenStyles_15 : decode cX9_freshenStyles 15 = .ok (.getfield 13, 3) := by decide +kernel
theorem dX9_freshenStyles_18 : decode cX9_freshenStyles 18 = .ok (.getfield 201, 3) := by decide +kernel
theorem dX9_freshenStyles_21 : decode cX9_freshenStyles 21 = .ok (.aload_n 0, 1) := by decide +kernel
theorem dX9_freshenStyles_22 : decode cX9_freshenStyles 22 = .ok (.getfield 22, 3) := by decide +kernel
theorem dX9_freshenStyles_25 : decode cX9_freshenStyles 25 = .ok (.iconst (-1), 1) := by decide +kernel
theorem dX9_freshenStyles_26 : decode cX9_freshenStyles 26 = .ok (.invokevirtual 294, 3) := by decide +kernel
theorem dX9_freshenStyles_29 : decode cX9_freshenStyles 29 = .ok (.return_, 1) := by decide +kernel
theorem dX9_laidOut_0 : decode cX9_laidOut 0 = .ok (.aload_n 0, 1) := by decide +kernel
theorem dX9_laidOut_1 : decode cX9_laidOut 1 = .ok (.iload_n 1, 1) := by decide +kernel
theorem dX9_laidOut_2 : decode cX9_laidOut 2 = .ok (.invokevirtual 48, 3) := by decide +kernel
theorem dX9_laidOut_5 : decode cX9_laidOut 5 = .ok (.astore_n 3, 1) := by decide +kernel
theorem dX9_laidOut_6 : decode cX9_laidOut 6 = .ok (.aload_n 0, 1) := by decide +kernel
theorem dX9_laidOut_7 : decode cX9_laidOut 7 = .ok (.invokevirtual 222, 3) := by decide +kernel
theorem dX9_laidOut_10 : decode cX9_laidOut 10 = .ok (.aload_n 0, 1) := by decide +kernel
theorem dX9_laidOut_11 : decode cX9_laidOut 11 = .ok (.getfield 29, 3) := by decide +kernel
theorem dX9_laidOut_14 : decode cX9_laidOut 14 = .ok (.getfield 350, 3) := by decide +kernel
theorem dX9_laidOut_17 : decode cX9_laidOut 17 = .ok (.iload_n 2, 1) := by decide +kernel
theorem dX9_laidOut_18 : decode cX9_laidOut 18 = .ok (.if_icmp .eq 15, 3) := by decide +kernel
theorem dX9_laidOut_21 : decode cX9_laidOut 21 = .ok (.aload_n 0, 1) := by decide +kernel
theorem dX9_laidOut_22 : decode cX9_laidOut 22 = .ok (.getfield 29, 3) := by decide +kernel
theorem dX9_laidOut_25 : decode cX9_laidOut 25 = .ok (.aload_n 0, 1) := by decide +kernel
theorem dX9_laidOut_26 : decode cX9_laidOut 26 = .ok (.getfield 13, 3) := by decide +kernel
theorem dX9_laidOut_29 : decode cX9_laidOut 29 = .ok (.iload_n 2, 1) := by decide +kernel
theorem dX9_laidOut_30 : decode cX9_laidOut 30 = .ok (.invokevirtual 353, 3) := by decide +kernel
theorem dX9_laidOut_33 : decode cX9_laidOut 33 = .ok (.aload_n 3, 1) := by decide +kernel
theorem dX9_laidOut_34 : decode cX9_laidOut 34 = .ok (.getfield 339, 3) := by decide +kernel
theorem dX9_laidOut_37 : decode cX9_laidOut 37 = .ok (.areturn, 1) := by decide +kernel
theorem dX9_isProperty_0 : decode cX9_isProperty 0 = .ok (.iload_n 0, 1) := by decide +kernel
theorem dX9_isProperty_1 : decode cX9_isProperty 1 = .ok (.ifCond .lt 13, 3) := by decide +kernel
theorem dX9_isProperty_4 : decode cX9_isProperty 4 = .ok (.iload_n 0, 1) := by decide +kernel
theorem dX9_isProperty_5 : decode cX9_isProperty 5 = .ok (.bipush 14, 2) := by decide +kernel
theorem dX9_isProperty_7 : decode cX9_isProperty 7 = .ok (.if_icmp .ge 7, 3) := by decide +kernel
theorem dX9_isProperty_10 : decode cX9_isProperty 10 = .ok (.iconst 1, 1) := by decide +kernel
theorem dX9_isProperty_11 : decode cX9_isProperty 11 = .ok (.goto 4, 3) := by decide +kernel
theorem dX9_isProperty_14 : decode cX9_isProperty 14 = .ok (.iconst 0, 1) := by decide +kernel
theorem dX9_isProperty_15 : decode cX9_isProperty 15 = .ok (.ireturn, 1) := by decide +kernel
theorem dX9_isValueOf_0 : decode cX9_isValueOf 0 = .ok (.iload_n 0, 1) := by decide +kernel
theorem dX9_isValueOf_1 : decode cX9_isValueOf 1 = .ok (.invokestatic 135, 3) := by decide +kernel
theorem dX9_isValueOf_4 : decode cX9_isValueOf 4 = .ok (.ifCond .eq 25, 3) := by decide +kernel
theorem dX9_isValueOf_7 : decode cX9_isValueOf 7 = .ok (.iload_n 1, 1) := by decide +kernel
theorem dX9_isValueOf_8 : decode cX9_isValueOf 8 = .ok (.getstatic 357, 3) := by decide +kernel
theorem dX9_isValueOf_11 : decode cX9_isValueOf 11 = .ok (.iload_n 0, 1) := by decide +kernel
theorem dX9_isValueOf_12 : decode cX9_isValueOf 12 = .ok (.iaload, 1) := by decide +kernel
theorem dX9_isValueOf_13 : decode cX9_isValueOf 13 = .ok (.if_icmp .lt 16, 3) := by decide +kernel
theorem dX9_isValueOf_16 : decode cX9_isValueOf 16 = .ok (.iload_n 1, 1) := by decide +kernel
theorem dX9_isValueOf_17 : decode cX9_isValueOf 17 = .ok (.getstatic 360, 3) := by decide +kernel
theorem dX9_isValueOf_20 : decode cX9_isValueOf 20 = .ok (.iload_n 0, 1) := by decide +kernel
theorem dX9_isValueOf_21 : decode cX9_isValueOf 21 = .ok (.iaload, 1) := by decide +kernel
theorem dX9_isValueOf_22 : decode cX9_isValueOf 22 = .ok (.if_icmp .gt 7, 3) := by decide +kernel
theorem dX9_isValueOf_25 : decode cX9_isValueOf 25 = .ok (.iconst 1, 1) := by decide +kernel
theorem dX9_isValueOf_26 : decode cX9_isValueOf 26 = .ok (.goto 4, 3) := by decide +kernel
theorem dX9_isValueOf_29 : decode cX9_isValueOf 29 = .ok (.iconst 0, 1) := by decide +kernel
theorem dX9_isValueOf_30 : decode cX9_isValueOf 30 = .ok (.ireturn, 1) := by decide +kernel
theorem dX9_isInherited_0 : decode cX9_isInherited 0 = .ok (.iload_n 0, 1) := by decide +kernel
theorem dX9_isInherited_1 : decode cX9_isInherited 1 = .ok (.bipush 8, 2) := by decide +kernel
theorem dX9_isInherited_3 : decode cX9_isInherited 3 = .ok (.if_icmp .eq 15, 3) := by decide +kernel
theorem dX9_isInherited_6 : decode cX9_isInherited 6 = .ok (.iload_n 0, 1) := by decide +kernel
theorem dX9_isInherited_7 : decode cX9_isInherited 7 = .ok (.bipush 9, 2) := by decide +kernel
theorem dX9_isInherited_9 : decode cX9_isInherited 9 = .ok (.if_icmp .eq 9, 3) := by decide +kernel
theorem dX9_isInherited_12 : decode cX9_isInherited 12 = .ok (.iload_n 0, 1) := by decide +kernel
theorem dX9_isInherited_13 : decode cX9_isInherited 13 = .ok (.bipush 10, 2) := by decide +kernel
theorem dX9_isInherited_15 : decode cX9_isInherited 15 = .ok (.if_icmp .ne 7, 3) := by decide +kernel
theorem dX9_isInherited_18 : decode cX9_isInherited 18 = .ok (.iconst 1, 1) := by decide +kernel
theorem dX9_isInherited_19 : decode cX9_isInherited 19 = .ok (.goto 4, 3) := by decide +kernel
theorem dX9_isInherited_22 : decode cX9_isInherited 22 = .ok (.iconst 0, 1) := by decide +kernel
theorem dX9_isInherited_23 : decode cX9_isInherited 23 = .ok (.ireturn, 1) := by decide +kernel
theorem dX9_isViewWidth_0 : decode cX9_isViewWidth 0 = .ok (.iload_n 0, 1) := by decide +kernel
theorem dX9_isViewWidth_1 : decode cX9_isViewWidth 1 = .ok (.bipush 20, 2) := by decide +kernel
theorem dX9_isViewWidth_3 : decode cX9_isViewWidth 3 = .ok (.if_icmp .lt 14, 3) := by decide +kernel
theorem dX9_isViewWidth_6 : decode cX9_isViewWidth 6 = .ok (.iload_n 0, 1) := by decide +kernel
theorem dX9_isViewWidth_7 : decode cX9_isViewWidth 7 = .ok (.sipush 2000, 3) := by decide +kernel
theorem dX9_isViewWidth_10 : decode cX9_isViewWidth 10 = .ok (.if_icmp .gt 7, 3) := by decide +kernel
theorem dX9_isViewWidth_13 : decode cX9_isViewWidth 13 = .ok (.iconst 1, 1) := by decide +kernel
theorem dX9_isViewWidth_14 : decode cX9_isViewWidth 14 = .ok (.goto 4, 3) := by decide +kernel
theorem dX9_isViewWidth_17 : decode cX9_isViewWidth 17 = .ok (.iconst 0, 1) := by decide +kernel
theorem dX9_isViewWidth_18 : decode cX9_isViewWidth 18 = .ok (.ireturn, 1) := by decide +kernel
theorem dJ9_max_7cf53_0 : decode cJ9_max_7cf53 0 = .ok (.iload_n 0, 1) := by decide +kernel
theorem dJ9_max_7cf53_1 : decode cJ9_max_7cf53 1 = .ok (.iload_n 1, 1) := by decide +kernel
theorem dJ9_max_7cf53_2 : decode cJ9_max_7cf53 2 = .ok (.if_icmp .lt 7, 3) := by decide +kernel
theorem dJ9_max_7cf53_5 : decode cJ9_max_7cf53 5 = .ok (.iload_n 0, 1) := by decide +kernel
theorem dJ9_max_7cf53_6 : decode cJ9_max_7cf53 6 = .ok (.goto 4, 3) := by decide +kernel
theorem dJ9_max_7cf53_9 : decode cJ9_max_7cf53 9 = .ok (.iload_n 1, 1) := by decide +kernel
theorem dJ9_max_7cf53_10 : decode cJ9_max_7cf53 10 = .ok (.ireturn, 1) := by decide +kernel
theorem dJ9_min_7cf53_0 : decode cJ9_min_7cf53 0 = .ok (.iload_n 0, 1) := by decide +kernel
theorem dJ9_min_7cf53_1 : decode cJ9_min_7cf53 1 = .ok (.iload_n 1, 1) := by decide +kernel
theorem dJ9_min_7cf53_2 : decode cJ9_min_7cf53 2 = .ok (.if_icmp .gt 7, 3) := by decide +kernel
theorem dJ9_min_7cf53_5 : decode cJ9_min_7cf53 5 = .ok (.iload_n 0, 1) := by decide +kernel
theorem dJ9_min_7cf53_6 : decode cJ9_min_7cf53 6 = .ok (.goto 4, 3) := by decide +kernel
theorem dJ9_min_7cf53_9 : decode cJ9_min_7cf53 9 = .ok (.iload_n 1, 1) := by decide +kernel
theorem dJ9_min_7cf53_10 : decode cJ9_min_7cf53 10 = .ok (.ireturn, 1) := by decide +kernel
theorem dJxa1e45_init_da8c8_0 : decode cJxa1e45_init_da8c8 0 = .ok (.aload_n 0, 1) := by decide +kernel
theorem dJxa1e45_init_da8c8_1 : decode cJxa1e45_init_da8c8 1 = .ok (.invokespecial 1, 3) := by decide +kernel
theorem dJxa1e45_init_da8c8_4 : decode cJxa1e45_init_da8c8 4 = .ok (.return_, 1) := by decide +kernel
theorem dJxc12de_init_da8c8_0 : decode cJxc12de_init_da8c8 0 = .ok (.aload_n 0, 1) := by decide +kernel
theorem dJxc12de_init_da8c8_1 : decode cJxc12de_init_da8c8 1 = .ok (.invokespecial 1, 3) := by decide +kernel
theorem dJxc12de_init_da8c8_4 : decode cJxc12de_init_da8c8 4 = .ok (.aload_n 0, 1) := by decide +kernel
theorem dJxc12de_init_da8c8_5 : decode cJxc12de_init_da8c8 5 = .ok (.iconst 0, 1) := by decide +kernel
theorem dJxc12de_init_da8c8_6 : decode cJxc12de_init_da8c8 6 = .ok (.putfield 7, 3) := by decide +kernel
theorem dJxc12de_init_da8c8_9 : decode cJxc12de_init_da8c8 9 = .ok (.return_, 1) := by decide +kernel
theorem dJx4a65c_init_da8c8_0 : decode cJx4a65c_init_da8c8 0 = .ok (.aload_n 0, 1) := by decide +kernel
theorem dJx4a65c_init_da8c8_1 : decode cJx4a65c_init_da8c8 1 = .ok (.invokespecial 1, 3) := by decide +kernel
theorem dJx4a65c_init_da8c8_4 : decode cJx4a65c_init_da8c8 4 = .ok (.aload_n 0, 1) := by decide +kernel
theorem dJx4a65c_init_da8c8_5 : decode cJx4a65c_init_da8c8 5 = .ok (.getstatic 39, 3) := by decide +kernel
theorem dJx4a65c_init_da8c8_8 : decode cJx4a65c_init_da8c8 8 = .ok (.putfield 9, 3) := by decide +kernel
theorem dJx4a65c_init_da8c8_11 : decode cJx4a65c_init_da8c8 11 = .ok (.return_, 1) := by decide +kernel
theorem dJx4a65c_grow_92f84_0 : decode cJx4a65c_grow_92f84 0 = .ok (.aload_n 0, 1) := by decide +kernel
theorem dJx4a65c_grow_92f84_1 : decode cJx4a65c_grow_92f84 1 = .ok (.getfield 9, 3) := by decide +kernel
theorem dJx4a65c_grow_92f84_4 : decode cJx4a65c_grow_92f84 4 = .ok (.arraylength, 1) := by decide +kernel
theorem dJx4a65c_grow_92f84_5 : decode cJx4a65c_grow_92f84 5 = .ok (.istore_n 2, 1) := by decide +kernel
theorem dJx4a65c_grow_92f84_6 : decode cJx4a65c_grow_92f84 6 = .ok (.iload_n 2, 1) := by decide +kernel
theorem dJx4a65c_grow_92f84_7 : decode cJx4a65c_grow_92f84 7 = .ok (.ifCond .gt 13, 3) := by decide +kernel
theorem dJx4a65c_grow_92f84_10 : decode cJx4a65c_grow_92f84 10 = .ok (.aload_n 0, 1) := by decide +kernel
theorem dJx4a65c_grow_92f84_11 : decode cJx4a65c_grow_92f84 11 = .ok (.getfield 9, 3) := by decide +kernel
theorem dJx4a65c_grow_92f84_14 : decode cJx4a65c_grow_92f84 14 = .ok (.getstatic 39, 3) := by decide +kernel
theorem dJx4a65c_grow_92f84_17 : decode cJx4a65c_grow_92f84 17 = .ok (.if_acmp .eq 28, 3) := by decide +kernel
theorem dJx4a65c_grow_92f84_20 : decode cJx4a65c_grow_92f84 20 = .ok (.iload_n 2, 1) := by decide +kernel
theorem dJx4a65c_grow_92f84_21 : decode cJx4a65c_grow_92f84 21 = .ok (.iload_n 1, 1) := by decide +kernel
theorem dJx4a65c_grow_92f84_22 : decode cJx4a65c_grow_92f84 22 = .ok (.iload_n 2, 1) := by decide +kernel
theorem dJx4a65c_grow_92f84_23 : decode cJx4a65c_grow_92f84 23 = .ok (.isub, 1) := by decide +kernel
theorem dJx4a65c_grow_92f84_24 : decode cJx4a65c_grow_92f84 24 = .ok (.iload_n 2, 1) := by decide +kernel
theorem dJx4a65c_grow_92f84_25 : decode cJx4a65c_grow_92f84 25 = .ok (.iconst 1, 1) := by decide +kernel
theorem dJx4a65c_grow_92f84_26 : decode cJx4a65c_grow_92f84 26 = .ok (.ishr, 1) := by decide +kernel
theorem dJx4a65c_grow_92f84_27 : decode cJx4a65c_grow_92f84 27 = .ok (.invokestatic 73, 3) := by decide +kernel
theorem dJx4a65c_grow_92f84_30 : decode cJx4a65c_grow_92f84 30 = .ok (.istore_n 3, 1) := by decide +kernel
theorem dJx4a65c_grow_92f84_31 : decode cJx4a65c_grow_92f84 31 = .ok (.aload_n 0, 1) := by decide +kernel
theorem dJx4a65c_grow_92f84_32 : decode cJx4a65c_grow_92f84 32 = .ok (.aload_n 0, 1) := by decide +kernel
theorem dJx4a65c_grow_92f84_33 : decode cJx4a65c_grow_92f84 33 = .ok (.getfield 9, 3) := by decide +kernel
theorem dJx4a65c_grow_92f84_36 : decode cJx4a65c_grow_92f84 36 = .ok (.iload_n 3, 1) := by decide +kernel
theorem dJx4a65c_grow_92f84_37 : decode cJx4a65c_grow_92f84 37 = .ok (.invokestatic 66, 3) := by decide +kernel
theorem dJx4a65c_grow_92f84_40 : decode cJx4a65c_grow_92f84 40 = .ok (.dup_x1, 1) := by decide +kernel
theorem dJx4a65c_grow_92f84_41 : decode cJx4a65c_grow_92f84 41 = .ok (.putfield 9, 3) := by decide +kernel
theorem dJx4a65c_grow_92f84_44 : decode cJx4a65c_grow_92f84 44 = .ok (.areturn, 1) := by decide +kernel
theorem dJx4a65c_grow_92f84_45 : decode cJx4a65c_grow_92f84 45 = .ok (.aload_n 0, 1) := by decide +kernel
theorem dJx4a65c_grow_92f84_46 : decode cJx4a65c_grow_92f84 46 = .ok (.bipush 10, 2) := by decide +kernel
theorem dJx4a65c_grow_92f84_48 : decode cJx4a65c_grow_92f84 48 = .ok (.iload_n 1, 1) := by decide +kernel
theorem dJx4a65c_grow_92f84_49 : decode cJx4a65c_grow_92f84 49 = .ok (.invokestatic 79, 3) := by decide +kernel
theorem dJx4a65c_grow_92f84_52 : decode cJx4a65c_grow_92f84 52 = .ok (.anewarray 7, 3) := by decide +kernel
theorem dJx4a65c_grow_92f84_55 : decode cJx4a65c_grow_92f84 55 = .ok (.dup_x1, 1) := by decide +kernel
theorem dJx4a65c_grow_92f84_56 : decode cJx4a65c_grow_92f84 56 = .ok (.putfield 9, 3) := by decide +kernel
theorem dJx4a65c_grow_92f84_59 : decode cJx4a65c_grow_92f84 59 = .ok (.areturn, 1) := by decide +kernel
theorem dJx4a65c_grow_d5877_0 : decode cJx4a65c_grow_d5877 0 = .ok (.aload_n 0, 1) := by decide +kernel
theorem dJx4a65c_grow_d5877_1 : decode cJx4a65c_grow_d5877 1 = .ok (.aload_n 0, 1) := by decide +kernel
theorem dJx4a65c_grow_d5877_2 : decode cJx4a65c_grow_d5877 2 = .ok (.getfield 48, 3) := by decide +kernel
theorem dJx4a65c_grow_d5877_5 : decode cJx4a65c_grow_d5877 5 = .ok (.iconst 1, 1) := by decide +kernel
theorem dJx4a65c_grow_d5877_6 : decode cJx4a65c_grow_d5877 6 = .ok (.iadd, 1) := by decide +kernel
theorem dJx4a65c_grow_d5877_7 : decode cJx4a65c_grow_d5877 7 = .ok (.invokevirtual 69, 3) := by decide +kernel
theorem dJx4a65c_grow_d5877_10 : decode cJx4a65c_grow_d5877 10 = .ok (.areturn, 1) := by decide +kernel
theorem dJx4a65c_size_8abf5_0 : decode cJx4a65c_size_8abf5 0 = .ok (.aload_n 0, 1) := by decide +kernel
theorem dJx4a65c_size_8abf5_1 : decode cJx4a65c_size_8abf5 1 = .ok (.getfield 48, 3) := by decide +kernel
theorem dJx4a65c_size_8abf5_4 : decode cJx4a65c_size_8abf5 4 = .ok (.ireturn, 1) := by decide +kernel
theorem dJx4a65c_elementData_915e3_0 : decode cJx4a65c_elementData_915e3 0 = .ok (.aload_n 0, 1) := by decide +kernel
theorem dJx4a65c_elementData_915e3_1 : decode cJx4a65c_elementData_915e3 1 = .ok (.getfield 9, 3) := by decide +kernel
theorem dJx4a65c_elementData_915e3_4 : decode cJx4a65c_elementData_915e3 4 = .ok (.iload_n 1, 1) := by decide +kernel
theorem dJx4a65c_elementData_915e3_5 : decode cJx4a65c_elementData_915e3 5 = .ok (.aaload, 1) := by decide +kernel
theorem dJx4a65c_elementData_915e3_6 : decode cJx4a65c_elementData_915e3 6 = .ok (.areturn, 1) := by decide +kernel
theorem dJx4a65c_get_915e3_0 : decode cJx4a65c_get_915e3 0 = .ok (.iload_n 1, 1) := by decide +kernel
theorem dJx4a65c_get_915e3_1 : decode cJx4a65c_get_915e3 1 = .ok (.aload_n 0, 1) := by decide +kernel
theorem dJx4a65c_get_915e3_2 : decode cJx4a65c_get_915e3 2 = .ok (.getfield 48, 3) := by decide +kernel
theorem dJx4a65c_get_915e3_5 : decode cJx4a65c_get_915e3 5 = .ok (.invokestatic 118, 3) := by decide +kernel
theorem dJx4a65c_get_915e3_8 : decode cJx4a65c_get_915e3 8 = .ok (.pop, 1) := by decide +kernel
theorem dJx4a65c_get_915e3_9 : decode cJx4a65c_get_915e3 9 = .ok (.aload_n 0, 1) := by decide +kernel
theorem dJx4a65c_get_915e3_10 : decode cJx4a65c_get_915e3 10 = .ok (.iload_n 1, 1) := by decide +kernel
theorem dJx4a65c_get_915e3_11 : decode cJx4a65c_get_915e3 11 = .ok (.invokevirtual 123, 3) := by decide +kernel
theorem dJx4a65c_get_915e3_14 : decode cJx4a65c_get_915e3 14 = .ok (.areturn, 1) := by decide +kernel
theorem dJx4a65c_add_72be8_0 : decode cJx4a65c_add_72be8 0 = .ok (.iload_n 3, 1) := by decide +kernel
theorem dJx4a65c_add_72be8_1 : decode cJx4a65c_add_72be8 1 = .ok (.aload_n 2, 1) := by decide +kernel
theorem dJx4a65c_add_72be8_2 : decode cJx4a65c_add_72be8 2 = .ok (.arraylength, 1) := by decide +kernel
theorem dJx4a65c_add_72be8_3 : decode cJx4a65c_add_72be8 3 = .ok (.if_icmp .ne 8, 3) := by decide +kernel
theorem dJx4a65c_add_72be8_6 : decode cJx4a65c_add_72be8 6 = .ok (.aload_n 0, 1) := by decide +kernel
theorem dJx4a65c_add_72be8_7 : decode cJx4a65c_add_72be8 7 = .ok (.invokevirtual 129, 3) := by decide +kernel
theorem dJx4a65c_add_72be8_10 : decode cJx4a65c_add_72be8 10 = .ok (.astore_n 2, 1) := by decide +kernel
theorem dJx4a65c_add_72be8_11 : decode cJx4a65c_add_72be8 11 = .ok (.aload_n 2, 1) := by decide +kernel
theorem dJx4a65c_add_72be8_12 : decode cJx4a65c_add_72be8 12 = .ok (.iload_n 3, 1) := by decide +kernel
theorem dJx4a65c_add_72be8_13 : decode cJx4a65c_add_72be8 13 = .ok (.aload_n 1, 1) := by decide +kernel
theorem dJx4a65c_add_72be8_14 : decode cJx4a65c_add_72be8 14 = .ok (.aastore, 1) := by decide +kernel
theorem dJx4a65c_add_72be8_15 : decode cJx4a65c_add_72be8 15 = .ok (.aload_n 0, 1) := by decide +kernel
theorem dJx4a65c_add_72be8_16 : decode cJx4a65c_add_72be8 16 = .ok (.iload_n 3, 1) := by decide +kernel
theorem dJx4a65c_add_72be8_17 : decode cJx4a65c_add_72be8 17 = .ok (.iconst 1, 1) := by decide +kernel
theorem dJx4a65c_add_72be8_18 : decode cJx4a65c_add_72be8 18 = .ok (.iadd, 1) := by decide +kernel
theorem dJx4a65c_add_72be8_19 : decode cJx4a65c_add_72be8 19 = .ok (.putfield 48, 3) := by decide +kernel
theorem dJx4a65c_add_72be8_22 : decode cJx4a65c_add_72be8 22 = .ok (.return_, 1) := by decide +kernel
theorem dJx4a65c_add_9ea2d_0 : decode cJx4a65c_add_9ea2d 0 = .ok (.aload_n 0, 1) := by decide +kernel
theorem dJx4a65c_add_9ea2d_1 : decode cJx4a65c_add_9ea2d 1 = .ok (.dup, 1) := by decide +kernel
theorem dJx4a65c_add_9ea2d_2 : decode cJx4a65c_add_9ea2d 2 = .ok (.getfield 63, 3) := by decide +kernel
theorem dJx4a65c_add_9ea2d_5 : decode cJx4a65c_add_9ea2d 5 = .ok (.iconst 1, 1) := by decide +kernel
theorem dJx4a65c_add_9ea2d_6 : decode cJx4a65c_add_9ea2d 6 = .ok (.iadd, 1) := by decide +kernel
theorem dJx4a65c_add_9ea2d_7 : decode cJx4a65c_add_9ea2d 7 = .ok (.putfield 63, 3) := by decide +kernel
theorem dJx4a65c_add_9ea2d_10 : decode cJx4a65c_add_9ea2d 10 = .ok (.aload_n 0, 1) := by decide +kernel
theorem dJx4a65c_add_9ea2d_11 : decode cJx4a65c_add_9ea2d 11 = .ok (.aload_n 1, 1) := by decide +kernel
theorem dJx4a65c_add_9ea2d_12 : decode cJx4a65c_add_9ea2d 12 = .ok (.aload_n 0, 1) := by decide +kernel
theorem dJx4a65c_add_9ea2d_13 : decode cJx4a65c_add_9ea2d 13 = .ok (.getfield 9, 3) := by decide +kernel
theorem dJx4a65c_add_9ea2d_16 : decode cJx4a65c_add_9ea2d 16 = .ok (.aload_n 0, 1) := by decide +kernel
theorem dJx4a65c_add_9ea2d_17 : decode cJx4a65c_add_9ea2d 17 = .ok (.getfield 48, 3) := by decide +kernel
theorem dJx4a65c_add_9ea2d_20 : decode cJx4a65c_add_9ea2d 20 = .ok (.invokevirtual 131, 3) := by decide +kernel
theorem dJx4a65c_add_9ea2d_23 : decode cJx4a65c_add_9ea2d 23 = .ok (.iconst 1, 1) := by decide +kernel
theorem dJx4a65c_add_9ea2d_24 : decode cJx4a65c_add_9ea2d 24 = .ok (.ireturn, 1) := by decide +kernel
theorem dJx4a65c_add_7a177_0 : decode cJx4a65c_add_7a177 0 = .ok (.aload_n 0, 1) := by decide +kernel
theorem dJx4a65c_add_7a177_1 : decode cJx4a65c_add_7a177 1 = .ok (.iload_n 1, 1) := by decide +kernel
theorem dJx4a65c_add_7a177_2 : decode cJx4a65c_add_7a177 2 = .ok (.invokevirtual 135, 3) := by decide +kernel
theorem dJx4a65c_add_7a177_5 : decode cJx4a65c_add_7a177 5 = .ok (.aload_n 0, 1) := by decide +kernel
theorem dJx4a65c_add_7a177_6 : decode cJx4a65c_add_7a177 6 = .ok (.dup, 1) := by decide +kernel
theorem dJx4a65c_add_7a177_7 : decode cJx4a65c_add_7a177 7 = .ok (.getfield 63, 3) := by decide +kernel
theorem dJx4a65c_add_7a177_10 : decode cJx4a65c_add_7a177 10 = .ok (.iconst 1, 1) := by decide +kernel
theorem dJx4a65c_add_7a177_11 : decode cJx4a65c_add_7a177 11 = .ok (.iadd, 1) := by decide +kernel
theorem dJx4a65c_add_7a177_12 : decode cJx4a65c_add_7a177 12 = .ok (.putfield 63, 3) := by decide +kernel
theorem dJx4a65c_add_7a177_15 : decode cJx4a65c_add_7a177 15 = .ok (.aload_n 0, 1) := by decide +kernel
theorem dJx4a65c_add_7a177_16 : decode cJx4a65c_add_7a177 16 = .ok (.getfield 48, 3) := by decide +kernel
theorem dJx4a65c_add_7a177_19 : decode cJx4a65c_add_7a177 19 = .ok (.dup, 1) := by decide +kernel
theorem dJx4a65c_add_7a177_20 : decode cJx4a65c_add_7a177 20 = .ok (.istore_n 3, 1) := by decide +kernel
theorem dJx4a65c_add_7a177_21 : decode cJx4a65c_add_7a177 21 = .ok (.aload_n 0, 1) := by decide +kernel
theorem dJx4a65c_add_7a177_22 : decode cJx4a65c_add_7a177 22 = .ok (.getfield 9, 3) := by decide +kernel
theorem dJx4a65c_add_7a177_25 : decode cJx4a65c_add_7a177 25 = .ok (.dup, 1) := by decide +kernel
theorem dJx4a65c_add_7a177_26 : decode cJx4a65c_add_7a177 26 = .ok (.astore 4, 2) := by decide +kernel
theorem dJx4a65c_add_7a177_28 : decode cJx4a65c_add_7a177 28 = .ok (.arraylength, 1) := by decide +kernel
theorem dJx4a65c_add_7a177_29 : decode cJx4a65c_add_7a177 29 = .ok (.if_icmp .ne 9, 3) := by decide +kernel
theorem dJx4a65c_add_7a177_32 : decode cJx4a65c_add_7a177 32 = .ok (.aload_n 0, 1) := by decide +kernel
theorem dJx4a65c_add_7a177_33 : decode cJx4a65c_add_7a177 33 = .ok (.invokevirtual 129, 3) := by decide +kernel
theorem dJx4a65c_add_7a177_36 : decode cJx4a65c_add_7a177 36 = .ok (.astore 4, 2) := by decide +kernel
theorem dJx4a65c_add_7a177_38 : decode cJx4a65c_add_7a177 38 = .ok (.aload 4, 2) := by decide +kernel
theorem dJx4a65c_add_7a177_40 : decode cJx4a65c_add_7a177 40 = .ok (.iload_n 1, 1) := by decide +kernel
theorem dJx4a65c_add_7a177_41 : decode cJx4a65c_add_7a177 41 = .ok (.aload 4, 2) := by decide +kernel
theorem dJx4a65c_add_7a177_43 : decode cJx4a65c_add_7a177 43 = .ok (.iload_n 1, 1) := by decide +kernel
theorem dJx4a65c_add_7a177_44 : decode cJx4a65c_add_7a177 44 = .ok (.iconst 1, 1) := by decide +kernel
theorem dJx4a65c_add_7a177_45 : decode cJx4a65c_add_7a177 45 = .ok (.iadd, 1) := by decide +kernel
theorem dJx4a65c_add_7a177_46 : decode cJx4a65c_add_7a177 46 = .ok (.iload_n 3, 1) := by decide +kernel
theorem dJx4a65c_add_7a177_47 : decode cJx4a65c_add_7a177 47 = .ok (.iload_n 1, 1) := by decide +kernel
theorem dJx4a65c_add_7a177_48 : decode cJx4a65c_add_7a177 48 = .ok (.isub, 1) := by decide +kernel
theorem dJx4a65c_add_7a177_49 : decode cJx4a65c_add_7a177 49 = .ok (.invokestatic 112, 3) := by decide +kernel
theorem dJx4a65c_add_7a177_52 : decode cJx4a65c_add_7a177 52 = .ok (.aload 4, 2) := by decide +kernel
theorem dJx4a65c_add_7a177_54 : decode cJx4a65c_add_7a177 54 = .ok (.iload_n 1, 1) := by decide +kernel
theorem dJx4a65c_add_7a177_55 : decode cJx4a65c_add_7a177 55 = .ok (.aload_n 2, 1) := by decide +kernel
theorem dJx4a65c_add_7a177_56 : decode cJx4a65c_add_7a177 56 = .ok (.aastore, 1) := by decide +kernel
theorem dJx4a65c_add_7a177_57 : decode cJx4a65c_add_7a177 57 = .ok (.aload_n 0, 1) := by decide +kernel
theorem dJx4a65c_add_7a177_58 : decode cJx4a65c_add_7a177 58 = .ok (.iload_n 3, 1) := by decide +kernel
theorem dJx4a65c_add_7a177_59 : decode cJx4a65c_add_7a177 59 = .ok (.iconst 1, 1) := by decide +kernel
theorem dJx4a65c_add_7a177_60 : decode cJx4a65c_add_7a177 60 = .ok (.iadd, 1) := by decide +kernel
theorem dJx4a65c_add_7a177_61 : decode cJx4a65c_add_7a177 61 = .ok (.putfield 48, 3) := by decide +kernel
theorem dJx4a65c_add_7a177_64 : decode cJx4a65c_add_7a177 64 = .ok (.return_, 1) := by decide +kernel
theorem dJx4a65c_remove_915e3_0 : decode cJx4a65c_remove_915e3 0 = .ok (.iload_n 1, 1) := by decide +kernel
theorem dJx4a65c_remove_915e3_1 : decode cJx4a65c_remove_915e3 1 = .ok (.aload_n 0, 1) := by decide +kernel
theorem dJx4a65c_remove_915e3_2 : decode cJx4a65c_remove_915e3 2 = .ok (.getfield 48, 3) := by decide +kernel
theorem dJx4a65c_remove_915e3_5 : decode cJx4a65c_remove_915e3 5 = .ok (.invokestatic 118, 3) := by decide +kernel
theorem dJx4a65c_remove_915e3_8 : decode cJx4a65c_remove_915e3 8 = .ok (.pop, 1) := by decide +kernel
theorem dJx4a65c_remove_915e3_9 : decode cJx4a65c_remove_915e3 9 = .ok (.aload_n 0, 1) := by decide +kernel
theorem dJx4a65c_remove_915e3_10 : decode cJx4a65c_remove_915e3 10 = .ok (.getfield 9, 3) := by decide +kernel
theorem dJx4a65c_remove_915e3_13 : decode cJx4a65c_remove_915e3 13 = .ok (.astore_n 2, 1) := by decide +kernel
theorem dJx4a65c_remove_915e3_14 : decode cJx4a65c_remove_915e3 14 = .ok (.aload_n 2, 1) := by decide +kernel
theorem dJx4a65c_remove_915e3_15 : decode cJx4a65c_remove_915e3 15 = .ok (.iload_n 1, 1) := by decide +kernel
theorem dJx4a65c_remove_915e3_16 : decode cJx4a65c_remove_915e3 16 = .ok (.aaload, 1) := by decide +kernel
theorem dJx4a65c_remove_915e3_17 : decode cJx4a65c_remove_915e3 17 = .ok (.astore_n 3, 1) := by decide +kernel
theorem dJx4a65c_remove_915e3_18 : decode cJx4a65c_remove_915e3 18 = .ok (.aload_n 0, 1) := by decide +kernel
theorem dJx4a65c_remove_915e3_19 : decode cJx4a65c_remove_915e3 19 = .ok (.aload_n 2, 1) := by decide +kernel
theorem dJx4a65c_remove_915e3_20 : decode cJx4a65c_remove_915e3 20 = .ok (.iload_n 1, 1) := by decide +kernel
theorem dJx4a65c_remove_915e3_21 : decode cJx4a65c_remove_915e3 21 = .ok (.invokevirtual 144, 3) := by decide +kernel
theorem dJx4a65c_remove_915e3_24 : decode cJx4a65c_remove_915e3 24 = .ok (.aload_n 3, 1) := by decide +kernel
theorem dJx4a65c_remove_915e3_25 : decode cJx4a65c_remove_915e3 25 = .ok (.areturn, 1) := by decide +kernel
theorem dJx4a65c_fastRemove_b59b0_0 : decode cJx4a65c_fastRemove_b59b0 0 = .ok (.aload_n 0, 1) := by decide +kernel
theorem dJx4a65c_fastRemove_b59b0_1 : decode cJx4a65c_fastRemove_b59b0 1 = .ok (.dup, 1) := by decide +kernel
theorem dJx4a65c_fastRemove_b59b0_2 : decode cJx4a65c_fastRemove_b59b0 2 = .ok (.getfield 63, 3) := by decide +kernel
theorem dJx4a65c_fastRemove_b59b0_5 : decode cJx4a65c_fastRemove_b59b0 5 = .ok (.iconst 1, 1) := by decide +kernel
theorem dJx4a65c_fastRemove_b59b0_6 : decode cJx4a65c_fastRemove_b59b0 6 = .ok (.iadd, 1) := by decide +kernel
theorem dJx4a65c_fastRemove_b59b0_7 : decode cJx4a65c_fastRemove_b59b0 7 = .ok (.putfield 63, 3) := by decide +kernel
theorem dJx4a65c_fastRemove_b59b0_10 : decode cJx4a65c_fastRemove_b59b0 10 = .ok (.aload_n 0, 1) := by decide +kernel
theorem dJx4a65c_fastRemove_b59b0_11 : decode cJx4a65c_fastRemove_b59b0 11 = .ok (.getfield 48, 3) := by decide +kernel
theorem dJx4a65c_fastRemove_b59b0_14 : decode cJx4a65c_fastRemove_b59b0 14 = .ok (.iconst 1, 1) := by decide +kernel
theorem dJx4a65c_fastRemove_b59b0_15 : decode cJx4a65c_fastRemove_b59b0 15 = .ok (.isub, 1) := by decide +kernel
theorem dJx4a65c_fastRemove_b59b0_16 : decode cJx4a65c_fastRemove_b59b0 16 = .ok (.dup, 1) := by decide +kernel
theorem dJx4a65c_fastRemove_b59b0_17 : decode cJx4a65c_fastRemove_b59b0 17 = .ok (.istore_n 3, 1) := by decide +kernel
theorem dJx4a65c_fastRemove_b59b0_18 : decode cJx4a65c_fastRemove_b59b0 18 = .ok (.iload_n 2, 1) := by decide +kernel
theorem dJx4a65c_fastRemove_b59b0_19 : decode cJx4a65c_fastRemove_b59b0 19 = .ok (.if_icmp .le 15, 3) := by decide +kernel
theorem dJx4a65c_fastRemove_b59b0_22 : decode cJx4a65c_fastRemove_b59b0 22 = .ok (.aload_n 1, 1) := by decide +kernel
theorem dJx4a65c_fastRemove_b59b0_23 : decode cJx4a65c_fastRemove_b59b0 23 = .ok (.iload_n 2, 1) := by decide +kernel
theorem dJx4a65c_fastRemove_b59b0_24 : decode cJx4a65c_fastRemove_b59b0 24 = .ok (.iconst 1, 1) := by decide +kernel
theorem dJx4a65c_fastRemove_b59b0_25 : decode cJx4a65c_fastRemove_b59b0 25 = .ok (.iadd, 1) := by decide +kernel
theorem dJx4a65c_fastRemove_b59b0_26 : decode cJx4a65c_fastRemove_b59b0 26 = .ok (.aload_n 1, 1) := by decide +kernel
theorem dJx4a65c_fastRemove_b59b0_27 : decode cJx4a65c_fastRemove_b59b0 27 = .ok (.iload_n 2, 1) := by decide +kernel
theorem dJx4a65c_fastRemove_b59b0_28 : decode cJx4a65c_fastRemove_b59b0 28 = .ok (.iload_n 3, 1) := by decide +kernel
theorem dJx4a65c_fastRemove_b59b0_29 : decode cJx4a65c_fastRemove_b59b0 29 = .ok (.iload_n 2, 1) := by decide +kernel
theorem dJx4a65c_fastRemove_b59b0_30 : decode cJx4a65c_fastRemove_b59b0 30 = .ok (.isub, 1) := by decide +kernel
theorem dJx4a65c_fastRemove_b59b0_31 : decode cJx4a65c_fastRemove_b59b0 31 = .ok (.invokestatic 112, 3) := by decide +kernel
theorem dJx4a65c_fastRemove_b59b0_34 : decode cJx4a65c_fastRemove_b59b0 34 = .ok (.aload_n 1, 1) := by decide +kernel
theorem dJx4a65c_fastRemove_b59b0_35 : decode cJx4a65c_fastRemove_b59b0 35 = .ok (.aload_n 0, 1) := by decide +kernel
theorem dJx4a65c_fastRemove_b59b0_36 : decode cJx4a65c_fastRemove_b59b0 36 = .ok (.iload_n 3, 1) := by decide +kernel
theorem dJx4a65c_fastRemove_b59b0_37 : decode cJx4a65c_fastRemove_b59b0 37 = .ok (.dup_x1, 1) := by decide +kernel
theorem dJx4a65c_fastRemove_b59b0_38 : decode cJx4a65c_fastRemove_b59b0 38 = .ok (.putfield 48, 3) := by decide +kernel
theorem dJx4a65c_fastRemove_b59b0_41 : decode cJx4a65c_fastRemove_b59b0 41 = .ok (.aconst_null, 1) := by decide +kernel
theorem dJx4a65c_fastRemove_b59b0_42 : decode cJx4a65c_fastRemove_b59b0 42 = .ok (.aastore, 1) := by decide +kernel
theorem dJx4a65c_fastRemove_b59b0_43 : decode cJx4a65c_fastRemove_b59b0 43 = .ok (.return_, 1) := by decide +kernel
theorem dJx4a65c_clear_da8c8_0 : decode cJx4a65c_clear_da8c8 0 = .ok (.aload_n 0, 1) := by decide +kernel
theorem dJx4a65c_clear_da8c8_1 : decode cJx4a65c_clear_da8c8 1 = .ok (.dup, 1) := by decide +kernel
theorem dJx4a65c_clear_da8c8_2 : decode cJx4a65c_clear_da8c8 2 = .ok (.getfield 63, 3) := by decide +kernel
theorem dJx4a65c_clear_da8c8_5 : decode cJx4a65c_clear_da8c8 5 = .ok (.iconst 1, 1) := by decide +kernel
theorem dJx4a65c_clear_da8c8_6 : decode cJx4a65c_clear_da8c8 6 = .ok (.iadd, 1) := by decide +kernel
theorem dJx4a65c_clear_da8c8_7 : decode cJx4a65c_clear_da8c8 7 = .ok (.putfield 63, 3) := by decide +kernel
theorem dJx4a65c_clear_da8c8_10 : decode cJx4a65c_clear_da8c8 10 = .ok (.aload_n 0, 1) := by decide +kernel
theorem dJx4a65c_clear_da8c8_11 : decode cJx4a65c_clear_da8c8 11 = .ok (.getfield 9, 3) := by decide +kernel
theorem dJx4a65c_clear_da8c8_14 : decode cJx4a65c_clear_da8c8 14 = .ok (.astore_n 1, 1) := by decide +kernel
theorem dJx4a65c_clear_da8c8_15 : decode cJx4a65c_clear_da8c8 15 = .ok (.aload_n 0, 1) := by decide +kernel
theorem dJx4a65c_clear_da8c8_16 : decode cJx4a65c_clear_da8c8 16 = .ok (.getfield 48, 3) := by decide +kernel
theorem dJx4a65c_clear_da8c8_19 : decode cJx4a65c_clear_da8c8 19 = .ok (.istore_n 2, 1) := by decide +kernel
theorem dJx4a65c_clear_da8c8_20 : decode cJx4a65c_clear_da8c8 20 = .ok (.aload_n 0, 1) := by decide +kernel
theorem dJx4a65c_clear_da8c8_21 : decode cJx4a65c_clear_da8c8 21 = .ok (.iconst 0, 1) := by decide +kernel
theorem dJx4a65c_clear_da8c8_22 : decode cJx4a65c_clear_da8c8 22 = .ok (.dup_x1, 1) := by decide +kernel
theorem dJx4a65c_clear_da8c8_23 : decode cJx4a65c_clear_da8c8 23 = .ok (.putfield 48, 3) := by decide +kernel
theorem dJx4a65c_clear_da8c8_26 : decode cJx4a65c_clear_da8c8 26 = .ok (.istore_n 3, 1) := by decide +kernel
theorem dJx4a65c_clear_da8c8_27 : decode cJx4a65c_clear_da8c8 27 = .ok (.iload_n 3, 1) := by decide +kernel
theorem dJx4a65c_clear_da8c8_28 : decode cJx4a65c_clear_da8c8 28 = .ok (.iload_n 2, 1) := by decide +kernel
theorem dJx4a65c_clear_da8c8_29 : decode cJx4a65c_clear_da8c8 29 = .ok (.if_icmp .ge 13, 3) := by decide +kernel
theorem dJx4a65c_clear_da8c8_32 : decode cJx4a65c_clear_da8c8 32 = .ok (.aload_n 1, 1) := by decide +kernel
theorem dJx4a65c_clear_da8c8_33 : decode cJx4a65c_clear_da8c8 33 = .ok (.iload_n 3, 1) := by decide +kernel
theorem dJx4a65c_clear_da8c8_34 : decode cJx4a65c_clear_da8c8 34 = .ok (.aconst_null, 1) := by decide +kernel
theorem dJx4a65c_clear_da8c8_35 : decode cJx4a65c_clear_da8c8 35 = .ok (.aastore, 1) := by decide +kernel
theorem dJx4a65c_clear_da8c8_36 : decode cJx4a65c_clear_da8c8 36 = .ok (.iinc 3 1, 3) := by decide +kernel
theorem dJx4a65c_clear_da8c8_39 : decode cJx4a65c_clear_da8c8 39 = .ok (.goto (-12), 3) := by decide +kernel
theorem dJx4a65c_clear_da8c8_42 : decode cJx4a65c_clear_da8c8 42 = .ok (.return_, 1) := by decide +kernel
theorem dJx4a65c_rangeCheckForAdd_d00df_0 : decode cJx4a65c_rangeCheckForAdd_d00df 0 = .ok (.iload_n 1, 1) := by decide +kernel
theorem dJx4a65c_rangeCheckForAdd_d00df_1 : decode cJx4a65c_rangeCheckForAdd_d00df 1 = .ok (.aload_n 0, 1) := by decide +kernel
theorem dJx4a65c_rangeCheckForAdd_d00df_2 : decode cJx4a65c_rangeCheckForAdd_d00df 2 = .ok (.getfield 48, 3) := by decide +kernel
theorem dJx4a65c_rangeCheckForAdd_d00df_5 : decode cJx4a65c_rangeCheckForAdd_d00df 5 = .ok (.if_icmp .gt 7, 3) := by decide +kernel
theorem dJx4a65c_rangeCheckForAdd_d00df_8 : decode cJx4a65c_rangeCheckForAdd_d00df 8 = .ok (.iload_n 1, 1) := by decide +kernel
theorem dJx4a65c_rangeCheckForAdd_d00df_9 : decode cJx4a65c_rangeCheckForAdd_d00df 9 = .ok (.ifCond .ge 16, 3) := by decide +kernel
theorem dJx4a65c_rangeCheckForAdd_d00df_12 : decode cJx4a65c_rangeCheckForAdd_d00df 12 = .ok (.new 187, 3) := by decide +kernel
theorem dJx4a65c_rangeCheckForAdd_d00df_15 : decode cJx4a65c_rangeCheckForAdd_d00df 15 = .ok (.dup, 1) := by decide +kernel
theorem dJx4a65c_rangeCheckForAdd_d00df_16 : decode cJx4a65c_rangeCheckForAdd_d00df 16 = .ok (.aload_n 0, 1) := by decide +kernel
theorem dJx4a65c_rangeCheckForAdd_d00df_17 : decode cJx4a65c_rangeCheckForAdd_d00df 17 = .ok (.iload_n 1, 1) := by decide +kernel
theorem dJx4a65c_rangeCheckForAdd_d00df_18 : decode cJx4a65c_rangeCheckForAdd_d00df 18 = .ok (.invokevirtual 198, 3) := by decide +kernel
theorem dJx4a65c_rangeCheckForAdd_d00df_21 : decode cJx4a65c_rangeCheckForAdd_d00df 21 = .ok (.invokespecial 193, 3) := by decide +kernel
theorem dJx4a65c_rangeCheckForAdd_d00df_24 : decode cJx4a65c_rangeCheckForAdd_d00df 24 = .ok (.athrow, 1) := by decide +kernel
theorem dJx4a65c_rangeCheckForAdd_d00df_25 : decode cJx4a65c_rangeCheckForAdd_d00df 25 = .ok (.return_, 1) := by decide +kernel
theorem dJ7_fill_53178_0 : decode cJ7_fill_53178 0 = .ok (.iconst 0, 1) := by decide +kernel
theorem dJ7_fill_53178_1 : decode cJ7_fill_53178 1 = .ok (.istore_n 2, 1) := by decide +kernel
theorem dJ7_fill_53178_2 : decode cJ7_fill_53178 2 = .ok (.aload_n 0, 1) := by decide +kernel
theorem dJ7_fill_53178_3 : decode cJ7_fill_53178 3 = .ok (.arraylength, 1) := by decide +kernel
theorem dJ7_fill_53178_4 : decode cJ7_fill_53178 4 = .ok (.istore_n 3, 1) := by decide +kernel
theorem dJ7_fill_53178_5 : decode cJ7_fill_53178 5 = .ok (.iload_n 2, 1) := by decide +kernel
theorem dJ7_fill_53178_6 : decode cJ7_fill_53178 6 = .ok (.iload_n 3, 1) := by decide +kernel
theorem dJ7_fill_53178_7 : decode cJ7_fill_53178 7 = .ok (.if_icmp .ge 13, 3) := by decide +kernel
theorem dJ7_fill_53178_10 : decode cJ7_fill_53178 10 = .ok (.aload_n 0, 1) := by decide +kernel
theorem dJ7_fill_53178_11 : decode cJ7_fill_53178 11 = .ok (.iload_n 2, 1) := by decide +kernel
theorem dJ7_fill_53178_12 : decode cJ7_fill_53178 12 = .ok (.iload_n 1, 1) := by decide +kernel
theorem dJ7_fill_53178_13 : decode cJ7_fill_53178 13 = .ok (.iastore, 1) := by decide +kernel
theorem dJ7_fill_53178_14 : decode cJ7_fill_53178 14 = .ok (.iinc 2 1, 3) := by decide +kernel
theorem dJ7_fill_53178_17 : decode cJ7_fill_53178 17 = .ok (.goto (-12), 3) := by decide +kernel
theorem dJ7_fill_53178_20 : decode cJ7_fill_53178 20 = .ok (.return_, 1) := by decide +kernel
theorem dJ7_copyOf_1904c_0 : decode cJ7_copyOf_1904c 0 = .ok (.aload_n 0, 1) := by decide +kernel
theorem dJ7_copyOf_1904c_1 : decode cJ7_copyOf_1904c 1 = .ok (.iload_n 1, 1) := by decide +kernel
theorem dJ7_copyOf_1904c_2 : decode cJ7_copyOf_1904c 2 = .ok (.aload_n 0, 1) := by decide +kernel
theorem dJ7_copyOf_1904c_3 : decode cJ7_copyOf_1904c 3 = .ok (.invokevirtual 86, 3) := by decide +kernel
theorem dJ7_copyOf_1904c_6 : decode cJ7_copyOf_1904c 6 = .ok (.invokestatic 300, 3) := by decide +kernel
theorem dJ7_copyOf_1904c_9 : decode cJ7_copyOf_1904c 9 = .ok (.areturn, 1) := by decide +kernel
theorem dJ7_copyOf_6403c_0 : decode cJ7_copyOf_6403c 0 = .ok (.aload_n 2, 1) := by decide +kernel
theorem dJ7_copyOf_6403c_1 : decode cJ7_copyOf_6403c 1 = .ok (.ldc 110, 2) := by decide +kernel
theorem dJ7_copyOf_6403c_3 : decode cJ7_copyOf_6403c 3 = .ok (.if_acmp .ne 10, 3) := by decide +kernel
theorem dJ7_copyOf_6403c_6 : decode cJ7_copyOf_6403c 6 = .ok (.iload_n 1, 1) := by decide +kernel
theorem dJ7_copyOf_6403c_7 : decode cJ7_copyOf_6403c 7 = .ok (.anewarray 2, 3) := by decide +kernel
theorem dJ7_copyOf_6403c_10 : decode cJ7_copyOf_6403c 10 = .ok (.goto 14, 3) := by decide +kernel
theorem dJ7_copyOf_6403c_13 : decode cJ7_copyOf_6403c 13 = .ok (.aload_n 2, 1) := by decide +kernel
theorem dJ7_copyOf_6403c_14 : decode cJ7_copyOf_6403c 14 = .ok (.invokevirtual 90, 3) := by decide +kernel
theorem dJ7_copyOf_6403c_17 : decode cJ7_copyOf_6403c 17 = .ok (.iload_n 1, 1) := by decide +kernel
theorem dJ7_copyOf_6403c_18 : decode cJ7_copyOf_6403c 18 = .ok (.invokestatic 95, 3) := by decide +kernel
theorem dJ7_copyOf_6403c_21 : decode cJ7_copyOf_6403c 21 = .ok (.checkcast 110, 3) := by decide +kernel
theorem dJ7_copyOf_6403c_24 : decode cJ7_copyOf_6403c 24 = .ok (.astore_n 3, 1) := by decide +kernel
theorem dJ7_copyOf_6403c_25 : decode cJ7_copyOf_6403c 25 = .ok (.aload_n 0, 1) := by decide +kernel
theorem dJ7_copyOf_6403c_26 : decode cJ7_copyOf_6403c 26 = .ok (.iconst 0, 1) := by decide +kernel
theorem dJ7_copyOf_6403c_27 : decode cJ7_copyOf_6403c 27 = .ok (.aload_n 3, 1) := by decide +kernel
theorem dJ7_copyOf_6403c_28 : decode cJ7_copyOf_6403c 28 = .ok (.iconst 0, 1) := by decide +kernel
theorem dJ7_copyOf_6403c_29 : decode cJ7_copyOf_6403c 29 = .ok (.aload_n 0, 1) := by decide +kernel
theorem dJ7_copyOf_6403c_30 : decode cJ7_copyOf_6403c 30 = .ok (.arraylength, 1) := by decide +kernel
theorem dJ7_copyOf_6403c_31 : decode cJ7_copyOf_6403c 31 = .ok (.iload_n 1, 1) := by decide +kernel
theorem dJ7_copyOf_6403c_32 : decode cJ7_copyOf_6403c 32 = .ok (.invokestatic 304, 3) := by decide +kernel
theorem dJ7_copyOf_6403c_35 : decode cJ7_copyOf_6403c 35 = .ok (.invokestatic 150, 3) := by decide +kernel
theorem dJ7_copyOf_6403c_38 : decode cJ7_copyOf_6403c 38 = .ok (.aload_n 3, 1) := by decide +kernel
theorem dJ7_copyOf_6403c_39 : decode cJ7_copyOf_6403c 39 = .ok (.areturn, 1) := by decide +kernel
theorem dJ15_checkIndex_7cf53_0 : decode cJ15_checkIndex_7cf53 0 = .ok (.iload_n 0, 1) := by decide +kernel
theorem dJ15_checkIndex_7cf53_1 : decode cJ15_checkIndex_7cf53 1 = .ok (.iload_n 1, 1) := by decide +kernel
theorem dJ15_checkIndex_7cf53_2 : decode cJ15_checkIndex_7cf53 2 = .ok (.aconst_null, 1) := by decide +kernel
theorem dJ15_checkIndex_7cf53_3 : decode cJ15_checkIndex_7cf53 3 = .ok (.invokestatic 105, 3) := by decide +kernel
theorem dJ15_checkIndex_7cf53_6 : decode cJ15_checkIndex_7cf53 6 = .ok (.ireturn, 1) := by decide +kernel
theorem dJ8_newLength_cabcc_0 : decode cJ8_newLength_cabcc 0 = .ok (.iload_n 0, 1) := by decide +kernel
theorem dJ8_newLength_cabcc_1 : decode cJ8_newLength_cabcc 1 = .ok (.iload_n 1, 1) := by decide +kernel
theorem dJ8_newLength_cabcc_2 : decode cJ8_newLength_cabcc 2 = .ok (.iload_n 2, 1) := by decide +kernel
theorem dJ8_newLength_cabcc_3 : decode cJ8_newLength_cabcc 3 = .ok (.invokestatic 194, 3) := by decide +kernel
theorem dJ8_newLength_cabcc_6 : decode cJ8_newLength_cabcc 6 = .ok (.iadd, 1) := by decide +kernel
theorem dJ8_newLength_cabcc_7 : decode cJ8_newLength_cabcc 7 = .ok (.istore_n 3, 1) := by decide +kernel
theorem dJ8_newLength_cabcc_8 : decode cJ8_newLength_cabcc 8 = .ok (.iconst 0, 1) := by decide +kernel
theorem dJ8_newLength_cabcc_9 : decode cJ8_newLength_cabcc 9 = .ok (.iload_n 3, 1) := by decide +kernel
theorem dJ8_newLength_cabcc_10 : decode cJ8_newLength_cabcc 10 = .ok (.if_icmp .ge 11, 3) := by decide +kernel
theorem dJ8_newLength_cabcc_13 : decode cJ8_newLength_cabcc 13 = .ok (.iload_n 3, 1) := by decide +kernel
theorem dJ8_newLength_cabcc_14 : decode cJ8_newLength_cabcc 14 = .ok (.ldc 200, 2) := by decide +kernel
theorem dJ8_newLength_cabcc_16 : decode cJ8_newLength_cabcc 16 = .ok (.if_icmp .gt 5, 3) := by decide +kernel
theorem dJ8_newLength_cabcc_19 : decode cJ8_newLength_cabcc 19 = .ok (.iload_n 3, 1) := by decide +kernel
theorem dJ8_newLength_cabcc_20 : decode cJ8_newLength_cabcc 20 = .ok (.ireturn, 1) := by decide +kernel
theorem dJ8_newLength_cabcc_21 : decode cJ8_newLength_cabcc 21 = .ok (.iload_n 0, 1) := by decide +kernel
theorem dJ8_newLength_cabcc_22 : decode cJ8_newLength_cabcc 22 = .ok (.iload_n 1, 1) := by decide +kernel
theorem dJ8_newLength_cabcc_23 : decode cJ8_newLength_cabcc 23 = .ok (.invokestatic 201, 3) := by decide +kernel
theorem dJ8_newLength_cabcc_26 : decode cJ8_newLength_cabcc 26 = .ok (.ireturn, 1) := by decide +kernel
theorem dJ8_hugeLength_7cf53_0 : decode cJ8_hugeLength_7cf53 0 = .ok (.iload_n 0, 1) := by decide +kernel
theorem dJ8_hugeLength_7cf53_1 : decode cJ8_hugeLength_7cf53 1 = .ok (.iload_n 1, 1) := by decide +kernel
theorem dJ8_hugeLength_7cf53_2 : decode cJ8_hugeLength_7cf53 2 = .ok (.iadd, 1) := by decide +kernel
theorem dJ8_hugeLength_7cf53_3 : decode cJ8_hugeLength_7cf53 3 = .ok (.istore_n 2, 1) := by decide +kernel
theorem dJ8_hugeLength_7cf53_4 : decode cJ8_hugeLength_7cf53 4 = .ok (.iload_n 2, 1) := by decide +kernel
theorem dJ8_hugeLength_7cf53_5 : decode cJ8_hugeLength_7cf53 5 = .ok (.ifCond .ge 44, 3) := by decide +kernel
theorem dJ8_hugeLength_7cf53_8 : decode cJ8_hugeLength_7cf53 8 = .ok (.new 204, 3) := by decide +kernel
theorem dJ8_hugeLength_7cf53_11 : decode cJ8_hugeLength_7cf53 11 = .ok (.dup, 1) := by decide +kernel
theorem dJ8_hugeLength_7cf53_12 : decode cJ8_hugeLength_7cf53 12 = .ok (.new 89, 3) := by decide +kernel
theorem dJ8_hugeLength_7cf53_15 : decode cJ8_hugeLength_7cf53 15 = .ok (.dup, 1) := by decide +kernel
theorem dJ8_hugeLength_7cf53_16 : decode cJ8_hugeLength_7cf53 16 = .ok (.invokespecial 91, 3) := by decide +kernel
theorem dJ8_hugeLength_7cf53_19 : decode cJ8_hugeLength_7cf53 19 = .ok (.ldc 206, 2) := by decide +kernel
theorem dJ8_hugeLength_7cf53_21 : decode cJ8_hugeLength_7cf53 21 = .ok (.invokevirtual 94, 3) := by decide +kernel
theorem dJ8_hugeLength_7cf53_24 : decode cJ8_hugeLength_7cf53 24 = .ok (.iload_n 0, 1) := by decide +kernel
theorem dJ8_hugeLength_7cf53_25 : decode cJ8_hugeLength_7cf53 25 = .ok (.invokevirtual 98, 3) := by decide +kernel
theorem dJ8_hugeLength_7cf53_28 : decode cJ8_hugeLength_7cf53 28 = .ok (.ldc 208, 2) := by decide +kernel
theorem dJ8_hugeLength_7cf53_30 : decode cJ8_hugeLength_7cf53 30 = .ok (.invokevirtual 94, 3) := by decide +kernel
theorem dJ8_hugeLength_7cf53_33 : decode cJ8_hugeLength_7cf53 33 = .ok (.iload_n 1, 1) := by decide +kernel
theorem dJ8_hugeLength_7cf53_34 : decode cJ8_hugeLength_7cf53 34 = .ok (.invokevirtual 98, 3) := by decide +kernel
theorem dJ8_hugeLength_7cf53_37 : decode cJ8_hugeLength_7cf53 37 = .ok (.ldc 210, 2) := by decide +kernel
theorem dJ8_hugeLength_7cf53_39 : decode cJ8_hugeLength_7cf53 39 = .ok (.invokevirtual 94, 3) := by decide +kernel
theorem dJ8_hugeLength_7cf53_42 : decode cJ8_hugeLength_7cf53 42 = .ok (.invokevirtual 101, 3) := by decide +kernel
theorem dJ8_hugeLength_7cf53_45 : decode cJ8_hugeLength_7cf53 45 = .ok (.invokespecial 212, 3) := by decide +kernel
theorem dJ8_hugeLength_7cf53_48 : decode cJ8_hugeLength_7cf53 48 = .ok (.athrow, 1) := by decide +kernel
theorem dJ8_hugeLength_7cf53_49 : decode cJ8_hugeLength_7cf53 49 = .ok (.iload_n 2, 1) := by decide +kernel
theorem dJ8_hugeLength_7cf53_50 : decode cJ8_hugeLength_7cf53 50 = .ok (.ldc 200, 2) := by decide +kernel
theorem dJ8_hugeLength_7cf53_52 : decode cJ8_hugeLength_7cf53 52 = .ok (.if_icmp .gt 6, 3) := by decide +kernel
theorem dJ8_hugeLength_7cf53_55 : decode cJ8_hugeLength_7cf53 55 = .ok (.ldc 200, 2) := by decide +kernel
theorem dJ8_hugeLength_7cf53_57 : decode cJ8_hugeLength_7cf53 57 = .ok (.ireturn, 1) := by decide +kernel
theorem dJ8_hugeLength_7cf53_58 : decode cJ8_hugeLength_7cf53 58 = .ok (.iload_n 2, 1) := by decide +kernel
theorem dJ8_hugeLength_7cf53_59 : decode cJ8_hugeLength_7cf53 59 = .ok (.ireturn, 1) := by decide +kernel
theorem dJ3_checkIndex_8e157_0 : decode cJ3_checkIndex_8e157 0 = .ok (.iload_n 0, 1) := by decide +kernel
theorem dJ3_checkIndex_8e157_1 : decode cJ3_checkIndex_8e157 1 = .ok (.ifCond .lt 8, 3) := by decide +kernel
theorem dJ3_checkIndex_8e157_4 : decode cJ3_checkIndex_8e157 4 = .ok (.iload_n 0, 1) := by decide +kernel
theorem dJ3_checkIndex_8e157_5 : decode cJ3_checkIndex_8e157 5 = .ok (.iload_n 1, 1) := by decide +kernel
end
section
theorem dJ3_checkIndex_8e157_6 : decode cJ3_checkIndex_8e157 6 = .ok (.if_icmp .lt 10, 3) := by decide +kernel
theorem dJ3_checkIndex_8e157_9 : decode cJ3_checkIndex_8e157 9 = .ok (.aload_n 2, 1) := by decide +kernel
theorem dJ3_checkIndex_8e157_10 : decode cJ3_checkIndex_8e157 10 = .ok (.iload_n 0, 1) := by decide +kernel
theorem dJ3_checkIndex_8e157_11 : decode cJ3_checkIndex_8e157 11 = .ok (.iload_n 1, 1) := by decide +kernel
theorem dJ3_checkIndex_8e157_12 : decode cJ3_checkIndex_8e157 12 = .ok (.invokestatic 95, 3) := by decide +kernel
theorem dJ3_checkIndex_8e157_15 : decode cJ3_checkIndex_8e157 15 = .ok (.athrow, 1) := by decide +kernel
theorem dJ3_checkIndex_8e157_16 : decode cJ3_checkIndex_8e157 16 = .ok (.iload_n 0, 1) := by decide +kernel
theorem dJ3_checkIndex_8e157_17 : decode cJ3_checkIndex_8e157 17 = .ok (.ireturn, 1) := by decide +kernel
theorem dL_below_0 : decode cL_below 0 = .ok (.iload_n 0, 1) := by decide +kernel
theorem dL_below_1 : decode cL_below 1 = .ok (.ldc 7, 2) := by decide +kernel
theorem dL_below_3 : decode cL_below 3 = .ok (.iand, 1) := by decide +kernel
theorem dL_below_4 : decode cL_below 4 = .ok (.iload_n 1, 1) := by decide +kernel
theorem dL_below_5 : decode cL_below 5 = .ok (.irem, 1) := by decide +kernel
theorem dL_below_6 : decode cL_below 6 = .ok (.ireturn, 1) := by decide +kernel
theorem dL_cell_0 : decode cL_cell 0 = .ok (.iload_n 1, 1) := by decide +kernel
theorem dL_cell_1 : decode cL_cell 1 = .ok (.aload_n 0, 1) := by decide +kernel
theorem dL_cell_2 : decode cL_cell 2 = .ok (.arraylength, 1) := by decide +kernel
theorem dL_cell_3 : decode cL_cell 3 = .ok (.if_icmp .ge 9, 3) := by decide +kernel
theorem dL_cell_6 : decode cL_cell 6 = .ok (.aload_n 0, 1) := by decide +kernel
theorem dL_cell_7 : decode cL_cell 7 = .ok (.iload_n 1, 1) := by decide +kernel
theorem dL_cell_8 : decode cL_cell 8 = .ok (.iaload, 1) := by decide +kernel
theorem dL_cell_9 : decode cL_cell 9 = .ok (.goto 9, 3) := by decide +kernel
theorem dL_cell_12 : decode cL_cell 12 = .ok (.ldc 8, 2) := by decide +kernel
theorem dL_cell_14 : decode cL_cell 14 = .ok (.iload_n 1, 1) := by decide +kernel
theorem dL_cell_15 : decode cL_cell 15 = .ok (.iconst 3, 1) := by decide +kernel
theorem dL_cell_16 : decode cL_cell 16 = .ok (.iadd, 1) := by decide +kernel
theorem dL_cell_17 : decode cL_cell 17 = .ok (.imul, 1) := by decide +kernel
theorem dL_cell_18 : decode cL_cell 18 = .ok (.ireturn, 1) := by decide +kernel
theorem dL_build_0 : decode cL_build 0 = .ok (.iload_n 2, 1) := by decide +kernel
theorem dL_build_1 : decode cL_build 1 = .ok (.anewarray 9, 3) := by decide +kernel
theorem dL_build_4 : decode cL_build 4 = .ok (.astore_n 3, 1) := by decide +kernel
theorem dL_build_5 : decode cL_build 5 = .ok (.aload_n 3, 1) := by decide +kernel
theorem dL_build_6 : decode cL_build 6 = .ok (.iconst 0, 1) := by decide +kernel
theorem dL_build_7 : decode cL_build 7 = .ok (.iconst 5, 1) := by decide +kernel
theorem dL_build_8 : decode cL_build 8 = .ok (.newarray .int, 2) := by decide +kernel
theorem dL_build_10 : decode cL_build 10 = .ok (.dup, 1) := by decide +kernel
theorem dL_build_11 : decode cL_build 11 = .ok (.iconst 0, 1) := by decide +kernel
theorem dL_build_12 : decode cL_build 12 = .ok (.iconst (-1), 1) := by decide +kernel
theorem dL_build_13 : decode cL_build 13 = .ok (.iastore, 1) := by decide +kernel
theorem dL_build_14 : decode cL_build 14 = .ok (.dup, 1) := by decide +kernel
theorem dL_build_15 : decode cL_build 15 = .ok (.iconst 1, 1) := by decide +kernel
theorem dL_build_16 : decode cL_build 16 = .ok (.iconst 0, 1) := by decide +kernel
theorem dL_build_17 : decode cL_build 17 = .ok (.iastore, 1) := by decide +kernel
theorem dL_build_18 : decode cL_build 18 = .ok (.dup, 1) := by decide +kernel
theorem dL_build_19 : decode cL_build 19 = .ok (.iconst 2, 1) := by decide +kernel
theorem dL_build_20 : decode cL_build 20 = .ok (.iconst 0, 1) := by decide +kernel
theorem dL_build_21 : decode cL_build 21 = .ok (.iastore, 1) := by decide +kernel
theorem dL_build_22 : decode cL_build 22 = .ok (.dup, 1) := by decide +kernel
theorem dL_build_23 : decode cL_build 23 = .ok (.iconst 3, 1) := by decide +kernel
theorem dL_build_24 : decode cL_build 24 = .ok (.iconst 0, 1) := by decide +kernel
theorem dL_build_25 : decode cL_build 25 = .ok (.iastore, 1) := by decide +kernel
theorem dL_build_26 : decode cL_build 26 = .ok (.dup, 1) := by decide +kernel
theorem dL_build_27 : decode cL_build 27 = .ok (.iconst 4, 1) := by decide +kernel
theorem dL_build_28 : decode cL_build 28 = .ok (.iconst 0, 1) := by decide +kernel
theorem dL_build_29 : decode cL_build 29 = .ok (.iastore, 1) := by decide +kernel
theorem dL_build_30 : decode cL_build 30 = .ok (.aastore, 1) := by decide +kernel
theorem dL_build_31 : decode cL_build 31 = .ok (.iconst 1, 1) := by decide +kernel
theorem dL_build_32 : decode cL_build 32 = .ok (.istore 4, 2) := by decide +kernel
theorem dL_build_34 : decode cL_build 34 = .ok (.iload 4, 2) := by decide +kernel
theorem dL_build_36 : decode cL_build 36 = .ok (.iload_n 2, 1) := by decide +kernel
theorem dL_build_37 : decode cL_build 37 = .ok (.if_icmp .ge 265, 3) := by decide +kernel
theorem dL_build_40 : decode cL_build 40 = .ok (.aload_n 1, 1) := by decide +kernel
theorem dL_build_41 : decode cL_build 41 = .ok (.iload 4, 2) := by decide +kernel
theorem dL_build_43 : decode cL_build 43 = .ok (.bipush 13, 2) := by decide +kernel
theorem dL_build_45 : decode cL_build 45 = .ok (.irem, 1) := by decide +kernel
theorem dL_build_46 : decode cL_build 46 = .ok (.invokestatic 11, 3) := by decide +kernel
theorem dL_build_49 : decode cL_build 49 = .ok (.iload 4, 2) := by decide +kernel
theorem dL_build_51 : decode cL_build 51 = .ok (.bipush 13, 2) := by decide +kernel
theorem dL_build_53 : decode cL_build 53 = .ok (.idiv, 1) := by decide +kernel
theorem dL_build_54 : decode cL_build 54 = .ok (.bipush 7, 2) := by decide +kernel
theorem dL_build_56 : decode cL_build 56 = .ok (.imul, 1) := by decide +kernel
theorem dL_build_57 : decode cL_build 57 = .ok (.ishr, 1) := by decide +kernel
theorem dL_build_58 : decode cL_build 58 = .ok (.istore 5, 2) := by decide +kernel
theorem dL_build_60 : decode cL_build 60 = .ok (.iload 5, 2) := by decide +kernel
theorem dL_build_62 : decode cL_build 62 = .ok (.iload 4, 2) := by decide +kernel
theorem dL_build_64 : decode cL_build 64 = .ok (.invokestatic 17, 3) := by decide +kernel
theorem dL_build_67 : decode cL_build 67 = .ok (.istore 6, 2) := by decide +kernel
theorem dL_build_69 : decode cL_build 69 = .ok (.iconst 0, 1) := by decide +kernel
theorem dL_build_70 : decode cL_build 70 = .ok (.istore 7, 2) := by decide +kernel
theorem dL_build_72 : decode cL_build 72 = .ok (.iload 6, 2) := by decide +kernel
theorem dL_build_74 : decode cL_build 74 = .ok (.istore 8, 2) := by decide +kernel
theorem dL_build_76 : decode cL_build 76 = .ok (.iload 8, 2) := by decide +kernel
theorem dL_build_78 : decode cL_build 78 = .ok (.ifCond .le 17, 3) := by decide +kernel
theorem dL_build_81 : decode cL_build 81 = .ok (.iinc 7 1, 3) := by decide +kernel
theorem dL_build_84 : decode cL_build 84 = .ok (.aload_n 3, 1) := by decide +kernel
theorem dL_build_85 : decode cL_build 85 = .ok (.iload 8, 2) := by decide +kernel
theorem dL_build_87 : decode cL_build 87 = .ok (.aaload, 1) := by decide +kernel
theorem dL_build_88 : decode cL_build 88 = .ok (.iconst 0, 1) := by decide +kernel
theorem dL_build_89 : decode cL_build 89 = .ok (.iaload, 1) := by decide +kernel
theorem dL_build_90 : decode cL_build 90 = .ok (.istore 8, 2) := by decide +kernel
theorem dL_build_92 : decode cL_build 92 = .ok (.goto (-16), 3) := by decide +kernel
theorem dL_build_95 : decode cL_build 95 = .ok (.aload_n 3, 1) := by decide +kernel
theorem dL_build_96 : decode cL_build 96 = .ok (.iload 6, 2) := by decide +kernel
theorem dL_build_98 : decode cL_build 98 = .ok (.aaload, 1) := by decide +kernel
theorem dL_build_99 : decode cL_build 99 = .ok (.iconst 1, 1) := by decide +kernel
theorem dL_build_100 : decode cL_build 100 = .ok (.iaload, 1) := by decide +kernel
theorem dL_build_101 : decode cL_build 101 = .ok (.iconst 1, 1) := by decide +kernel
theorem dL_build_102 : decode cL_build 102 = .ok (.if_icmp .eq 10, 3) := by decide +kernel
theorem dL_build_105 : decode cL_build 105 = .ok (.iload 7, 2) := by decide +kernel
theorem dL_build_107 : decode cL_build 107 = .ok (.bipush 7, 2) := by decide +kernel
theorem dL_build_109 : decode cL_build 109 = .ok (.if_icmp .le 6, 3) := by decide +kernel
theorem dL_build_112 : decode cL_build 112 = .ok (.iconst 0, 1) := by decide +kernel
theorem dL_build_113 : decode cL_build 113 = .ok (.istore 6, 2) := by decide +kernel
theorem dL_build_115 : decode cL_build 115 = .ok (.iload 5, 2) := by decide +kernel
theorem dL_build_117 : decode cL_build 117 = .ok (.iconst 3, 1) := by decide +kernel
theorem dL_build_118 : decode cL_build 118 = .ok (.ishr, 1) := by decide +kernel
theorem dL_build_119 : decode cL_build 119 = .ok (.iconst 4, 1) := by decide +kernel
theorem dL_build_120 : decode cL_build 120 = .ok (.invokestatic 17, 3) := by decide +kernel
theorem dL_build_123 : decode cL_build 123 = .ok (.ifCond .ne 7, 3) := by decide +kernel
theorem dL_build_126 : decode cL_build 126 = .ok (.iconst 1, 1) := by decide +kernel
theorem dL_build_127 : decode cL_build 127 = .ok (.goto 4, 3) := by decide +kernel
theorem dL_build_130 : decode cL_build 130 = .ok (.iconst 0, 1) := by decide +kernel
theorem dL_build_131 : decode cL_build 131 = .ok (.istore 8, 2) := by decide +kernel
theorem dL_build_133 : decode cL_build 133 = .ok (.aload_n 3, 1) := by decide +kernel
theorem dL_build_134 : decode cL_build 134 = .ok (.iload 4, 2) := by decide +kernel
theorem dL_build_136 : decode cL_build 136 = .ok (.iconst 5, 1) := by decide +kernel
theorem dL_build_137 : decode cL_build 137 = .ok (.newarray .int, 2) := by decide +kernel
theorem dL_build_139 : decode cL_build 139 = .ok (.dup, 1) := by decide +kernel
theorem dL_build_140 : decode cL_build 140 = .ok (.iconst 0, 1) := by decide +kernel
theorem dL_build_141 : decode cL_build 141 = .ok (.iload 6, 2) := by decide +kernel
theorem dL_build_143 : decode cL_build 143 = .ok (.iastore, 1) := by decide +kernel
theorem dL_build_144 : decode cL_build 144 = .ok (.dup, 1) := by decide +kernel
theorem dL_build_145 : decode cL_build 145 = .ok (.iconst 1, 1) := by decide +kernel
theorem dL_build_146 : decode cL_build 146 = .ok (.iload 8, 2) := by decide +kernel
theorem dL_build_148 : decode cL_build 148 = .ok (.ifCond .eq 7, 3) := by decide +kernel
theorem dL_build_151 : decode cL_build 151 = .ok (.iconst 1, 1) := by decide +kernel
theorem dL_build_152 : decode cL_build 152 = .ok (.goto 4, 3) := by decide +kernel
theorem dL_build_155 : decode cL_build 155 = .ok (.iconst 0, 1) := by decide +kernel
theorem dL_build_156 : decode cL_build 156 = .ok (.iastore, 1) := by decide +kernel
theorem dL_build_157 : decode cL_build 157 = .ok (.dup, 1) := by decide +kernel
theorem dL_build_158 : decode cL_build 158 = .ok (.iconst 2, 1) := by decide +kernel
theorem dL_build_159 : decode cL_build 159 = .ok (.iload 5, 2) := by decide +kernel
theorem dL_build_161 : decode cL_build 161 = .ok (.iconst 2, 1) := by decide +kernel
theorem dL_build_162 : decode cL_build 162 = .ok (.ishr, 1) := by decide +kernel
theorem dL_build_163 : decode cL_build 163 = .ok (.iconst 4, 1) := by decide +kernel
theorem dL_build_164 : decode cL_build 164 = .ok (.invokestatic 17, 3) := by decide +kernel
theorem dL_build_167 : decode cL_build 167 = .ok (.iastore, 1) := by decide +kernel
theorem dL_build_168 : decode cL_build 168 = .ok (.dup, 1) := by decide +kernel
theorem dL_build_169 : decode cL_build 169 = .ok (.iconst 3, 1) := by decide +kernel
theorem dL_build_170 : decode cL_build 170 = .ok (.iconst 0, 1) := by decide +kernel
theorem dL_build_171 : decode cL_build 171 = .ok (.iastore, 1) := by decide +kernel
theorem dL_build_172 : decode cL_build 172 = .ok (.dup, 1) := by decide +kernel
theorem dL_build_173 : decode cL_build 173 = .ok (.iconst 4, 1) := by decide +kernel
theorem dL_build_174 : decode cL_build 174 = .ok (.iconst 0, 1) := by decide +kernel
theorem dL_build_175 : decode cL_build 175 = .ok (.iastore, 1) := by decide +kernel
theorem dL_build_176 : decode cL_build 176 = .ok (.aastore, 1) := by decide +kernel
theorem dL_build_177 : decode cL_build 177 = .ok (.iload 8, 2) := by decide +kernel
theorem dL_build_179 : decode cL_build 179 = .ok (.ifCond .eq 13, 3) := by decide +kernel
theorem dL_build_182 : decode cL_build 182 = .ok (.aload_n 0, 1) := by decide +kernel
theorem dL_build_183 : decode cL_build 183 = .ok (.iload 6, 2) := by decide +kernel
theorem dL_build_185 : decode cL_build 185 = .ok (.invokevirtual 21, 3) := by decide +kernel
theorem dL_build_188 : decode cL_build 188 = .ok (.pop, 1) := by decide +kernel
theorem dL_build_189 : decode cL_build 189 = .ok (.goto 16, 3) := by decide +kernel
theorem dL_build_192 : decode cL_build 192 = .ok (.aload_n 0, 1) := by decide +kernel
theorem dL_build_193 : decode cL_build 193 = .ok (.iload 6, 2) := by decide +kernel
theorem dL_build_195 : decode cL_build 195 = .ok (.aload_n 3, 1) := by decide +kernel
theorem dL_build_196 : decode cL_build 196 = .ok (.iload 4, 2) := by decide +kernel
theorem dL_build_198 : decode cL_build 198 = .ok (.aaload, 1) := by decide +kernel
theorem dL_build_199 : decode cL_build 199 = .ok (.iconst 2, 1) := by decide +kernel
theorem dL_build_200 : decode cL_build 200 = .ok (.iaload, 1) := by decide +kernel
theorem dL_build_201 : decode cL_build 201 = .ok (.invokevirtual 27, 3) := by decide +kernel
theorem dL_build_204 : decode cL_build 204 = .ok (.pop, 1) := by decide +kernel
theorem dL_build_205 : decode cL_build 205 = .ok (.iload 8, 2) := by decide +kernel
theorem dL_build_207 : decode cL_build 207 = .ok (.ifCond .eq 6, 3) := by decide +kernel
theorem dL_build_210 : decode cL_build 210 = .ok (.goto 86, 3) := by decide +kernel
theorem dL_build_213 : decode cL_build 213 = .ok (.iload 5, 2) := by decide +kernel
theorem dL_build_215 : decode cL_build 215 = .ok (.iconst 4, 1) := by decide +kernel
theorem dL_build_216 : decode cL_build 216 = .ok (.ishr, 1) := by decide +kernel
theorem dL_build_217 : decode cL_build 217 = .ok (.iconst 4, 1) := by decide +kernel
theorem dL_build_218 : decode cL_build 218 = .ok (.invokestatic 17, 3) := by decide +kernel
theorem dL_build_221 : decode cL_build 221 = .ok (.ifCond .ne 30, 3) := by decide +kernel
theorem dL_build_224 : decode cL_build 224 = .ok (.aload_n 3, 1) := by decide +kernel
theorem dL_build_225 : decode cL_build 225 = .ok (.iload 4, 2) := by decide +kernel
theorem dL_build_227 : decode cL_build 227 = .ok (.aaload, 1) := by decide +kernel
theorem dL_build_228 : decode cL_build 228 = .ok (.iconst 3, 1) := by decide +kernel
theorem dL_build_229 : decode cL_build 229 = .ok (.iconst 1, 1) := by decide +kernel
theorem dL_build_230 : decode cL_build 230 = .ok (.iload 5, 2) := by decide +kernel
theorem dL_build_232 : decode cL_build 232 = .ok (.iconst 3, 1) := by decide +kernel
theorem dL_build_233 : decode cL_build 233 = .ok (.invokestatic 17, 3) := by decide +kernel
theorem dL_build_236 : decode cL_build 236 = .ok (.iadd, 1) := by decide +kernel
theorem dL_build_237 : decode cL_build 237 = .ok (.iastore, 1) := by decide +kernel
theorem dL_build_238 : decode cL_build 238 = .ok (.aload_n 0, 1) := by decide +kernel
theorem dL_build_239 : decode cL_build 239 = .ok (.iload 4, 2) := by decide +kernel
theorem dL_build_241 : decode cL_build 241 = .ok (.aload_n 3, 1) := by decide +kernel
theorem dL_build_242 : decode cL_build 242 = .ok (.iload 4, 2) := by decide +kernel
theorem dL_build_244 : decode cL_build 244 = .ok (.aaload, 1) := by decide +kernel
theorem dL_build_245 : decode cL_build 245 = .ok (.iconst 3, 1) := by decide +kernel
theorem dL_build_246 : decode cL_build 246 = .ok (.iaload, 1) := by decide +kernel
theorem dL_build_247 : decode cL_build 247 = .ok (.invokevirtual 30, 3) := by decide +kernel
theorem dL_build_250 : decode cL_build 250 = .ok (.pop, 1) := by decide +kernel
theorem dL_build_251 : decode cL_build 251 = .ok (.iload 5, 2) := by decide +kernel
theorem dL_build_253 : decode cL_build 253 = .ok (.iconst 5, 1) := by decide +kernel
theorem dL_build_254 : decode cL_build 254 = .ok (.ishr, 1) := by decide +kernel
theorem dL_build_255 : decode cL_build 255 = .ok (.iconst 2, 1) := by decide +kernel
theorem dL_build_256 : decode cL_build 256 = .ok (.invokestatic 17, 3) := by decide +kernel
theorem dL_build_259 : decode cL_build 259 = .ok (.ifCond .ne 37, 3) := by decide +kernel
theorem dL_build_262 : decode cL_build 262 = .ok (.aload_n 3, 1) := by decide +kernel
theorem dL_build_263 : decode cL_build 263 = .ok (.iload 4, 2) := by decide +kernel
theorem dL_build_265 : decode cL_build 265 = .ok (.aaload, 1) := by decide +kernel
theorem dL_build_266 : decode cL_build 266 = .ok (.iconst 4, 1) := by decide +kernel
theorem dL_build_267 : decode cL_build 267 = .ok (.iconst 1, 1) := by decide +kernel
theorem dL_build_268 : decode cL_build 268 = .ok (.iload 5, 2) := by decide +kernel
theorem dL_build_270 : decode cL_build 270 = .ok (.bipush 6, 2) := by decide +kernel
theorem dL_build_272 : decode cL_build 272 = .ok (.ishr, 1) := by decide +kernel
theorem dL_build_273 : decode cL_build 273 = .ok (.iconst 3, 1) := by decide +kernel
theorem dL_build_274 : decode cL_build 274 = .ok (.invokestatic 17, 3) := by decide +kernel
theorem dL_build_277 : decode cL_build 277 = .ok (.ishl, 1) := by decide +kernel
theorem dL_build_278 : decode cL_build 278 = .ok (.iastore, 1) := by decide +kernel
theorem dL_build_279 : decode cL_build 279 = .ok (.aload_n 0, 1) := by decide +kernel
theorem dL_build_280 : decode cL_build 280 = .ok (.iload 4, 2) := by decide +kernel
theorem dL_build_282 : decode cL_build 282 = .ok (.iload 5, 2) := by decide +kernel
theorem dL_build_284 : decode cL_build 284 = .ok (.bipush 6, 2) := by decide +kernel
theorem dL_build_286 : decode cL_build 286 = .ok (.ishr, 1) := by decide +kernel
theorem dL_build_287 : decode cL_build 287 = .ok (.iconst 3, 1) := by decide +kernel
theorem dL_build_288 : decode cL_build 288 = .ok (.invokestatic 17, 3) := by decide +kernel
theorem dL_build_291 : decode cL_build 291 = .ok (.iconst 1, 1) := by decide +kernel
theorem dL_build_292 : decode cL_build 292 = .ok (.invokevirtual 33, 3) := by decide +kernel
theorem dL_build_295 : decode cL_build 295 = .ok (.pop, 1) := by decide +kernel
theorem dL_build_296 : decode cL_build 296 = .ok (.iinc 4 1, 3) := by decide +kernel
theorem dL_build_299 : decode cL_build 299 = .ok (.goto (-265), 3) := by decide +kernel
theorem dL_build_302 : decode cL_build 302 = .ok (.aload_n 3, 1) := by decide +kernel
theorem dL_build_303 : decode cL_build 303 = .ok (.areturn, 1) := by decide +kernel
theorem dL_isSound_0 : decode cL_isSound 0 = .ok (.iconst 0, 1) := by decide +kernel
theorem dL_isSound_1 : decode cL_isSound 1 = .ok (.istore_n 1, 1) := by decide +kernel
theorem dL_isSound_2 : decode cL_isSound 2 = .ok (.iconst 0, 1) := by decide +kernel
theorem dL_isSound_3 : decode cL_isSound 3 = .ok (.istore_n 2, 1) := by decide +kernel
theorem dL_isSound_4 : decode cL_isSound 4 = .ok (.iload_n 2, 1) := by decide +kernel
theorem dL_isSound_5 : decode cL_isSound 5 = .ok (.aload_n 0, 1) := by decide +kernel
theorem dL_isSound_6 : decode cL_isSound 6 = .ok (.invokevirtual 37, 3) := by decide +kernel
theorem dL_isSound_9 : decode cL_isSound 9 = .ok (.if_icmp .ge 470, 3) := by decide +kernel
theorem dL_isSound_12 : decode cL_isSound 12 = .ok (.aload_n 0, 1) := by decide +kernel
theorem dL_isSound_13 : decode cL_isSound 13 = .ok (.iload_n 2, 1) := by decide +kernel
theorem dL_isSound_14 : decode cL_isSound 14 = .ok (.invokevirtual 41, 3) := by decide +kernel
theorem dL_isSound_17 : decode cL_isSound 17 = .ok (.ifCond .ne 6, 3) := by decide +kernel
theorem dL_isSound_20 : decode cL_isSound 20 = .ok (.goto 453, 3) := by decide +kernel
theorem dL_isSound_23 : decode cL_isSound 23 = .ok (.iinc 1 1, 3) := by decide +kernel
theorem dL_isSound_26 : decode cL_isSound 26 = .ok (.aload_n 0, 1) := by decide +kernel
theorem dL_isSound_27 : decode cL_isSound 27 = .ok (.iload_n 2, 1) := by decide +kernel
theorem dL_isSound_28 : decode cL_isSound 28 = .ok (.invokevirtual 45, 3) := by decide +kernel
theorem dL_isSound_31 : decode cL_isSound 31 = .ok (.istore_n 3, 1) := by decide +kernel
theorem dL_isSound_32 : decode cL_isSound 32 = .ok (.iload_n 3, 1) := by decide +kernel
theorem dL_isSound_33 : decode cL_isSound 33 = .ok (.iconst 2, 1) := by decide +kernel
theorem dL_isSound_34 : decode cL_isSound 34 = .ok (.if_icmp .le 7, 3) := by decide +kernel
theorem dL_isSound_37 : decode cL_isSound 37 = .ok (.iconst 1, 1) := by decide +kernel
theorem dL_isSound_38 : decode cL_isSound 38 = .ok (.goto 4, 3) := by decide +kernel
theorem dL_isSound_41 : decode cL_isSound 41 = .ok (.iconst 0, 1) := by decide +kernel
theorem dL_isSound_42 : decode cL_isSound 42 = .ok (.istore 4, 2) := by decide +kernel
theorem dL_isSound_44 : decode cL_isSound 44 = .ok (.aload_n 0, 1) := by decide +kernel
theorem dL_isSound_45 : decode cL_isSound 45 = .ok (.iload_n 2, 1) := by decide +kernel
theorem dL_isSound_46 : decode cL_isSound 46 = .ok (.invokevirtual 48, 3) := by decide +kernel
theorem dL_isSound_49 : decode cL_isSound 49 = .ok (.iload_n 3, 1) := by decide +kernel
theorem dL_isSound_50 : decode cL_isSound 50 = .ok (.iconst 1, 1) := by decide +kernel
theorem dL_isSound_51 : decode cL_isSound 51 = .ok (.if_icmp .ne 7, 3) := by decide +kernel
theorem dL_isSound_54 : decode cL_isSound 54 = .ok (.iconst 1, 1) := by decide +kernel
theorem dL_isSound_55 : decode cL_isSound 55 = .ok (.goto 4, 3) := by decide +kernel
theorem dL_isSound_58 : decode cL_isSound 58 = .ok (.iconst 0, 1) := by decide +kernel
theorem dL_isSound_59 : decode cL_isSound 59 = .ok (.if_icmp .eq 7, 3) := by decide +kernel
theorem dL_isSound_62 : decode cL_isSound 62 = .ok (.iload_n 3, 1) := by decide +kernel
theorem dL_isSound_63 : decode cL_isSound 63 = .ok (.ifCond .ne 99, 3) := by decide +kernel
theorem dL_isSound_66 : decode cL_isSound 66 = .ok (.iload 4, 2) := by decide +kernel
theorem dL_isSound_68 : decode cL_isSound 68 = .ok (.aload_n 0, 1) := by decide +kernel
theorem dL_isSound_69 : decode cL_isSound 69 = .ok (.iload_n 2, 1) := by decide +kernel
theorem dL_isSound_70 : decode cL_isSound 70 = .ok (.invokevirtual 51, 3) := by decide +kernel
theorem dL_isSound_73 : decode cL_isSound 73 = .ok (.ifCond .lt 7, 3) := by decide +kernel
theorem dL_isSound_76 : decode cL_isSound 76 = .ok (.iconst 1, 1) := by decide +kernel
theorem dL_isSound_77 : decode cL_isSound 77 = .ok (.goto 4, 3) := by decide +kernel
theorem dL_isSound_80 : decode cL_isSound 80 = .ok (.iconst 0, 1) := by decide +kernel
theorem dL_isSound_81 : decode cL_isSound 81 = .ok (.if_icmp .ne 81, 3) := by decide +kernel
theorem dL_isSound_84 : decode cL_isSound 84 = .ok (.iload 4, 2) := by decide +kernel
theorem dL_isSound_86 : decode cL_isSound 86 = .ok (.aload_n 0, 1) := by decide +kernel
theorem dL_isSound_87 : decode cL_isSound 87 = .ok (.iload_n 2, 1) := by decide +kernel
theorem dL_isSound_88 : decode cL_isSound 88 = .ok (.invokevirtual 54, 3) := by decide +kernel
theorem dL_isSound_91 : decode cL_isSound 91 = .ok (.ifCond .lt 7, 3) := by decide +kernel
theorem dL_isSound_94 : decode cL_isSound 94 = .ok (.iconst 1, 1) := by decide +kernel
theorem dL_isSound_95 : decode cL_isSound 95 = .ok (.goto 4, 3) := by decide +kernel
theorem dL_isSound_98 : decode cL_isSound 98 = .ok (.iconst 0, 1) := by decide +kernel
theorem dL_isSound_99 : decode cL_isSound 99 = .ok (.if_icmp .ne 63, 3) := by decide +kernel
theorem dL_isSound_102 : decode cL_isSound 102 = .ok (.iload 4, 2) := by decide +kernel
theorem dL_isSound_104 : decode cL_isSound 104 = .ok (.aload_n 0, 1) := by decide +kernel
theorem dL_isSound_105 : decode cL_isSound 105 = .ok (.iload_n 2, 1) := by decide +kernel
theorem dL_isSound_106 : decode cL_isSound 106 = .ok (.invokevirtual 57, 3) := by decide +kernel
theorem dL_isSound_109 : decode cL_isSound 109 = .ok (.ifCond .lt 7, 3) := by decide +kernel
theorem dL_isSound_112 : decode cL_isSound 112 = .ok (.iconst 1, 1) := by decide +kernel
theorem dL_isSound_113 : decode cL_isSound 113 = .ok (.goto 4, 3) := by decide +kernel
theorem dL_isSound_116 : decode cL_isSound 116 = .ok (.iconst 0, 1) := by decide +kernel
theorem dL_isSound_117 : decode cL_isSound 117 = .ok (.if_icmp .ne 45, 3) := by decide +kernel
theorem dL_isSound_120 : decode cL_isSound 120 = .ok (.iload 4, 2) := by decide +kernel
theorem dL_isSound_122 : decode cL_isSound 122 = .ok (.aload_n 0, 1) := by decide +kernel
theorem dL_isSound_123 : decode cL_isSound 123 = .ok (.iload_n 2, 1) := by decide +kernel
theorem dL_isSound_124 : decode cL_isSound 124 = .ok (.invokevirtual 60, 3) := by decide +kernel
theorem dL_isSound_127 : decode cL_isSound 127 = .ok (.sipush (-9999), 3) := by decide +kernel
theorem dL_isSound_130 : decode cL_isSound 130 = .ok (.if_icmp .eq 7, 3) := by decide +kernel
theorem dL_isSound_133 : decode cL_isSound 133 = .ok (.iconst 1, 1) := by decide +kernel
theorem dL_isSound_134 : decode cL_isSound 134 = .ok (.goto 4, 3) := by decide +kernel
theorem dL_isSound_137 : decode cL_isSound 137 = .ok (.iconst 0, 1) := by decide +kernel
theorem dL_isSound_138 : decode cL_isSound 138 = .ok (.if_icmp .ne 24, 3) := by decide +kernel
theorem dL_isSound_141 : decode cL_isSound 141 = .ok (.iload 4, 2) := by decide +kernel
theorem dL_isSound_143 : decode cL_isSound 143 = .ok (.ifCond .ne 21, 3) := by decide +kernel
theorem dL_isSound_146 : decode cL_isSound 146 = .ok (.aload_n 0, 1) := by decide +kernel
theorem dL_isSound_147 : decode cL_isSound 147 = .ok (.iload_n 2, 1) := by decide +kernel
theorem dL_isSound_148 : decode cL_isSound 148 = .ok (.invokevirtual 63, 3) := by decide +kernel
theorem dL_isSound_151 : decode cL_isSound 151 = .ok (.ifCond .ne 11, 3) := by decide +kernel
theorem dL_isSound_154 : decode cL_isSound 154 = .ok (.aload_n 0, 1) := by decide +kernel
theorem dL_isSound_155 : decode cL_isSound 155 = .ok (.iload_n 2, 1) := by decide +kernel
theorem dL_isSound_156 : decode cL_isSound 156 = .ok (.invokevirtual 66, 3) := by decide +kernel
theorem dL_isSound_159 : decode cL_isSound 159 = .ok (.ifCond .eq 5, 3) := by decide +kernel
theorem dL_isSound_162 : decode cL_isSound 162 = .ok (.iconst 0, 1) := by decide +kernel
theorem dL_isSound_163 : decode cL_isSound 163 = .ok (.ireturn, 1) := by decide +kernel
theorem dL_isSound_164 : decode cL_isSound 164 = .ok (.aload_n 0, 1) := by decide +kernel
theorem dL_isSound_165 : decode cL_isSound 165 = .ok (.iload_n 2, 1) := by decide +kernel
theorem dL_isSound_166 : decode cL_isSound 166 = .ok (.invokevirtual 69, 3) := by decide +kernel
theorem dL_isSound_169 : decode cL_isSound 169 = .ok (.ifCond .lt 15, 3) := by decide +kernel
theorem dL_isSound_172 : decode cL_isSound 172 = .ok (.aload_n 0, 1) := by decide +kernel
theorem dL_isSound_173 : decode cL_isSound 173 = .ok (.aload_n 0, 1) := by decide +kernel
theorem dL_isSound_174 : decode cL_isSound 174 = .ok (.iload_n 2, 1) := by decide +kernel
theorem dL_isSound_175 : decode cL_isSound 175 = .ok (.invokevirtual 69, 3) := by decide +kernel
theorem dL_isSound_178 : decode cL_isSound 178 = .ok (.invokevirtual 41, 3) := by decide +kernel
theorem dL_isSound_181 : decode cL_isSound 181 = .ok (.ifCond .eq 28, 3) := by decide +kernel
theorem dL_isSound_184 : decode cL_isSound 184 = .ok (.aload_n 0, 1) := by decide +kernel
theorem dL_isSound_185 : decode cL_isSound 185 = .ok (.iload_n 2, 1) := by decide +kernel
theorem dL_isSound_186 : decode cL_isSound 186 = .ok (.invokevirtual 69, 3) := by decide +kernel
theorem dL_isSound_189 : decode cL_isSound 189 = .ok (.ifCond .ge 7, 3) := by decide +kernel
theorem dL_isSound_192 : decode cL_isSound 192 = .ok (.iconst 1, 1) := by decide +kernel
theorem dL_isSound_193 : decode cL_isSound 193 = .ok (.goto 4, 3) := by decide +kernel
theorem dL_isSound_196 : decode cL_isSound 196 = .ok (.iconst 0, 1) := by decide +kernel
theorem dL_isSound_197 : decode cL_isSound 197 = .ok (.iload_n 2, 1) := by decide +kernel
theorem dL_isSound_198 : decode cL_isSound 198 = .ok (.ifCond .ne 7, 3) := by decide +kernel
theorem dL_isSound_201 : decode cL_isSound 201 = .ok (.iconst 1, 1) := by decide +kernel
theorem dL_isSound_202 : decode cL_isSound 202 = .ok (.goto 4, 3) := by decide +kernel
theorem dL_isSound_205 : decode cL_isSound 205 = .ok (.iconst 0, 1) := by decide +kernel
theorem dL_isSound_206 : decode cL_isSound 206 = .ok (.if_icmp .eq 5, 3) := by decide +kernel
theorem dL_isSound_209 : decode cL_isSound 209 = .ok (.iconst 0, 1) := by decide +kernel
theorem dL_isSound_210 : decode cL_isSound 210 = .ok (.ireturn, 1) := by decide +kernel
theorem dL_isSound_211 : decode cL_isSound 211 = .ok (.aload_n 0, 1) := by decide +kernel
theorem dL_isSound_212 : decode cL_isSound 212 = .ok (.iload_n 2, 1) := by decide +kernel
theorem dL_isSound_213 : decode cL_isSound 213 = .ok (.invokevirtual 48, 3) := by decide +kernel
theorem dL_isSound_216 : decode cL_isSound 216 = .ok (.ifCond .eq 28, 3) := by decide +kernel
theorem dL_isSound_219 : decode cL_isSound 219 = .ok (.aload_n 0, 1) := by decide +kernel
theorem dL_isSound_220 : decode cL_isSound 220 = .ok (.iload_n 2, 1) := by decide +kernel
theorem dL_isSound_221 : decode cL_isSound 221 = .ok (.invokevirtual 72, 3) := by decide +kernel
theorem dL_isSound_224 : decode cL_isSound 224 = .ok (.aload_n 0, 1) := by decide +kernel
theorem dL_isSound_225 : decode cL_isSound 225 = .ok (.iload_n 2, 1) := by decide +kernel
theorem dL_isSound_226 : decode cL_isSound 226 = .ok (.invokevirtual 75, 3) := by decide +kernel
theorem dL_isSound_229 : decode cL_isSound 229 = .ok (.if_icmp .gt 13, 3) := by decide +kernel
theorem dL_isSound_232 : decode cL_isSound 232 = .ok (.aload_n 0, 1) := by decide +kernel
theorem dL_isSound_233 : decode cL_isSound 233 = .ok (.iload_n 2, 1) := by decide +kernel
theorem dL_isSound_234 : decode cL_isSound 234 = .ok (.invokevirtual 75, 3) := by decide +kernel
theorem dL_isSound_237 : decode cL_isSound 237 = .ok (.bipush 20, 2) := by decide +kernel
theorem dL_isSound_239 : decode cL_isSound 239 = .ok (.if_icmp .le 234, 3) := by decide +kernel
theorem dL_isSound_242 : decode cL_isSound 242 = .ok (.iconst 0, 1) := by decide +kernel
theorem dL_isSound_243 : decode cL_isSound 243 = .ok (.ireturn, 1) := by decide +kernel
theorem dL_isSound_244 : decode cL_isSound 244 = .ok (.iconst 0, 1) := by decide +kernel
theorem dL_isSound_245 : decode cL_isSound 245 = .ok (.istore 5, 2) := by decide +kernel
theorem dL_isSound_247 : decode cL_isSound 247 = .ok (.iload 5, 2) := by decide +kernel
theorem dL_isSound_249 : decode cL_isSound 249 = .ok (.aload_n 0, 1) := by decide +kernel
theorem dL_isSound_250 : decode cL_isSound 250 = .ok (.iload_n 2, 1) := by decide +kernel
theorem dL_isSound_251 : decode cL_isSound 251 = .ok (.invokevirtual 75, 3) := by decide +kernel
theorem dL_isSound_254 : decode cL_isSound 254 = .ok (.if_icmp .ge 26, 3) := by decide +kernel
theorem dL_isSound_257 : decode cL_isSound 257 = .ok (.aload_n 0, 1) := by decide +kernel
theorem dL_isSound_258 : decode cL_isSound 258 = .ok (.aload_n 0, 1) := by decide +kernel
theorem dL_isSound_259 : decode cL_isSound 259 = .ok (.iload_n 2, 1) := by decide +kernel
theorem dL_isSound_260 : decode cL_isSound 260 = .ok (.iload 5, 2) := by decide +kernel
theorem dL_isSound_262 : decode cL_isSound 262 = .ok (.invokevirtual 78, 3) := by decide +kernel
theorem dL_isSound_265 : decode cL_isSound 265 = .ok (.invokevirtual 69, 3) := by decide +kernel
theorem dL_isSound_268 : decode cL_isSound 268 = .ok (.iload_n 2, 1) := by decide +kernel
theorem dL_isSound_269 : decode cL_isSound 269 = .ok (.if_icmp .eq 5, 3) := by decide +kernel
theorem dL_isSound_272 : decode cL_isSound 272 = .ok (.iconst 0, 1) := by decide +kernel
theorem dL_isSound_273 : decode cL_isSound 273 = .ok (.ireturn, 1) := by decide +kernel
theorem dL_isSound_274 : decode cL_isSound 274 = .ok (.iinc 5 1, 3) := by decide +kernel
theorem dL_isSound_277 : decode cL_isSound 277 = .ok (.goto (-30), 3) := by decide +kernel
theorem dL_isSound_280 : decode cL_isSound 280 = .ok (.iload 4, 2) := by decide +kernel
theorem dL_isSound_282 : decode cL_isSound 282 = .ok (.ifCond .eq 46, 3) := by decide +kernel
theorem dL_isSound_285 : decode cL_isSound 285 = .ok (.aload_n 0, 1) := by decide +kernel
theorem dL_isSound_286 : decode cL_isSound 286 = .ok (.iload_n 2, 1) := by decide +kernel
theorem dL_isSound_287 : decode cL_isSound 287 = .ok (.invokevirtual 66, 3) := by decide +kernel
theorem dL_isSound_290 : decode cL_isSound 290 = .ok (.ifCond .le 38, 3) := by decide +kernel
theorem dL_isSound_293 : decode cL_isSound 293 = .ok (.aload_n 0, 1) := by decide +kernel
theorem dL_isSound_294 : decode cL_isSound 294 = .ok (.iload_n 2, 1) := by decide +kernel
theorem dL_isSound_295 : decode cL_isSound 295 = .ok (.bipush 11, 2) := by decide +kernel
theorem dL_isSound_297 : decode cL_isSound 297 = .ok (.invokevirtual 81, 3) := by decide +kernel
theorem dL_isSound_300 : decode cL_isSound 300 = .ok (.iconst 1, 1) := by decide +kernel
theorem dL_isSound_301 : decode cL_isSound 301 = .ok (.if_icmp .ne 25, 3) := by decide +kernel
theorem dL_isSound_304 : decode cL_isSound 304 = .ok (.aload_n 0, 1) := by decide +kernel
theorem dL_isSound_305 : decode cL_isSound 305 = .ok (.iload_n 2, 1) := by decide +kernel
theorem dL_isSound_306 : decode cL_isSound 306 = .ok (.invokevirtual 66, 3) := by decide +kernel
theorem dL_isSound_309 : decode cL_isSound 309 = .ok (.aload_n 0, 1) := by decide +kernel
theorem dL_isSound_310 : decode cL_isSound 310 = .ok (.iload_n 2, 1) := by decide +kernel
theorem dL_isSound_311 : decode cL_isSound 311 = .ok (.invokevirtual 57, 3) := by decide +kernel
theorem dL_isSound_314 : decode cL_isSound 314 = .ok (.if_icmp .gt 12, 3) := by decide +kernel
theorem dL_isSound_317 : decode cL_isSound 317 = .ok (.aload_n 0, 1) := by decide +kernel
theorem dL_isSound_318 : decode cL_isSound 318 = .ok (.iload_n 2, 1) := by decide +kernel
theorem dL_isSound_319 : decode cL_isSound 319 = .ok (.iconst 2, 1) := by decide +kernel
theorem dL_isSound_320 : decode cL_isSound 320 = .ok (.invokevirtual 81, 3) := by decide +kernel
theorem dL_isSound_323 : decode cL_isSound 323 = .ok (.ifCond .ge 5, 3) := by decide +kernel
theorem dL_isSound_326 : decode cL_isSound 326 = .ok (.iconst 0, 1) := by decide +kernel
theorem dL_isSound_327 : decode cL_isSound 327 = .ok (.ireturn, 1) := by decide +kernel
theorem dL_isSound_328 : decode cL_isSound 328 = .ok (.iconst 0, 1) := by decide +kernel
theorem dL_isSound_329 : decode cL_isSound 329 = .ok (.istore 5, 2) := by decide +kernel
theorem dL_isSound_331 : decode cL_isSound 331 = .ok (.iload 5, 2) := by decide +kernel
theorem dL_isSound_333 : decode cL_isSound 333 = .ok (.bipush 14, 2) := by decide +kernel
theorem dL_isSound_335 : decode cL_isSound 335 = .ok (.if_icmp .ge 138, 3) := by decide +kernel
theorem dL_isSound_338 : decode cL_isSound 338 = .ok (.aload_n 0, 1) := by decide +kernel
theorem dL_isSound_339 : decode cL_isSound 339 = .ok (.iload_n 2, 1) := by decide +kernel
theorem dL_isSound_340 : decode cL_isSound 340 = .ok (.iload 5, 2) := by decide +kernel
theorem dL_isSound_342 : decode cL_isSound 342 = .ok (.invokevirtual 84, 3) := by decide +kernel
theorem dL_isSound_345 : decode cL_isSound 345 = .ok (.istore 6, 2) := by decide +kernel
theorem dL_isSound_347 : decode cL_isSound 347 = .ok (.iload 6, 2) := by decide +kernel
theorem dL_isSound_349 : decode cL_isSound 349 = .ok (.bipush (-3), 2) := by decide +kernel
theorem dL_isSound_351 : decode cL_isSound 351 = .ok (.if_icmp .lt 114, 3) := by decide +kernel
theorem dL_isSound_354 : decode cL_isSound 354 = .ok (.iload 6, 2) := by decide +kernel
theorem dL_isSound_356 : decode cL_isSound 356 = .ok (.aload_n 0, 1) := by decide +kernel
theorem dL_isSound_357 : decode cL_isSound 357 = .ok (.invokevirtual 87, 3) := by decide +kernel
theorem dL_isSound_360 : decode cL_isSound 360 = .ok (.if_icmp .ge 105, 3) := by decide +kernel
theorem dL_isSound_363 : decode cL_isSound 363 = .ok (.iload 6, 2) := by decide +kernel
theorem dL_isSound_365 : decode cL_isSound 365 = .ok (.ifCond .lt 13, 3) := by decide +kernel
theorem dL_isSound_368 : decode cL_isSound 368 = .ok (.aload_n 0, 1) := by decide +kernel
theorem dL_isSound_369 : decode cL_isSound 369 = .ok (.iload 6, 2) := by decide +kernel
theorem dL_isSound_371 : decode cL_isSound 371 = .ok (.iload_n 2, 1) := by decide +kernel
theorem dL_isSound_372 : decode cL_isSound 372 = .ok (.invokevirtual 90, 3) := by decide +kernel
theorem dL_isSound_375 : decode cL_isSound 375 = .ok (.ifCond .eq 90, 3) := by decide +kernel
theorem dL_isSound_378 : decode cL_isSound 378 = .ok (.iload 6, 2) := by decide +kernel
theorem dL_isSound_380 : decode cL_isSound 380 = .ok (.bipush (-2), 2) := by decide +kernel
theorem dL_isSound_382 : decode cL_isSound 382 = .ok (.if_icmp .ne 28, 3) := by decide +kernel
theorem dL_isSound_385 : decode cL_isSound 385 = .ok (.iload_n 2, 1) := by decide +kernel
theorem dL_isSound_386 : decode cL_isSound 386 = .ok (.ifCond .eq 79, 3) := by decide +kernel
theorem dL_isSound_389 : decode cL_isSound 389 = .ok (.aload_n 0, 1) := by decide +kernel
theorem dL_isSound_390 : decode cL_isSound 390 = .ok (.iload_n 2, 1) := by decide +kernel
theorem dL_isSound_391 : decode cL_isSound 391 = .ok (.iload 5, 2) := by decide +kernel
theorem dL_isSound_393 : decode cL_isSound 393 = .ok (.invokevirtual 81, 3) := by decide +kernel
theorem dL_isSound_396 : decode cL_isSound 396 = .ok (.aload_n 0, 1) := by decide +kernel
theorem dL_isSound_397 : decode cL_isSound 397 = .ok (.aload_n 0, 1) := by decide +kernel
theorem dL_isSound_398 : decode cL_isSound 398 = .ok (.iload_n 2, 1) := by decide +kernel
theorem dL_isSound_399 : decode cL_isSound 399 = .ok (.invokevirtual 69, 3) := by decide +kernel
theorem dL_isSound_402 : decode cL_isSound 402 = .ok (.iload 5, 2) := by decide +kernel
theorem dL_isSound_404 : decode cL_isSound 404 = .ok (.invokevirtual 81, 3) := by decide +kernel
theorem dL_isSound_407 : decode cL_isSound 407 = .ok (.if_icmp .ne 58, 3) := by decide +kernel
theorem dL_isSound_410 : decode cL_isSound 410 = .ok (.iload 6, 2) := by decide +kernel
theorem dL_isSound_412 : decode cL_isSound 412 = .ok (.bipush (-3), 2) := by decide +kernel
theorem dL_isSound_414 : decode cL_isSound 414 = .ok (.if_icmp .ne 53, 3) := by decide +kernel
theorem dL_isSound_417 : decode cL_isSound 417 = .ok (.aload_n 0, 1) := by decide +kernel
theorem dL_isSound_418 : decode cL_isSound 418 = .ok (.iload_n 2, 1) := by decide +kernel
theorem dL_isSound_419 : decode cL_isSound 419 = .ok (.iload 5, 2) := by decide +kernel
theorem dL_isSound_421 : decode cL_isSound 421 = .ok (.invokevirtual 81, 3) := by decide +kernel
theorem dL_isSound_424 : decode cL_isSound 424 = .ok (.iload 5, 2) := by decide +kernel
theorem dL_isSound_426 : decode cL_isSound 426 = .ok (.ifCond .ne 7, 3) := by decide +kernel
theorem dL_isSound_429 : decode cL_isSound 429 = .ok (.iconst 1, 1) := by decide +kernel
theorem dL_isSound_430 : decode cL_isSound 430 = .ok (.goto 32, 3) := by decide +kernel
theorem dL_isSound_433 : decode cL_isSound 433 = .ok (.iload 5, 2) := by decide +kernel
theorem dL_isSound_435 : decode cL_isSound 435 = .ok (.iconst 1, 1) := by decide +kernel
theorem dL_isSound_436 : decode cL_isSound 436 = .ok (.if_icmp .eq 9, 3) := by decide +kernel
theorem dL_isSound_439 : decode cL_isSound 439 = .ok (.iload 5, 2) := by decide +kernel
theorem dL_isSound_441 : decode cL_isSound 441 = .ok (.iconst 2, 1) := by decide +kernel
theorem dL_isSound_442 : decode cL_isSound 442 = .ok (.if_icmp .ne 7, 3) := by decide +kernel
theorem dL_isSound_445 : decode cL_isSound 445 = .ok (.iconst (-1), 1) := by decide +kernel
theorem dL_isSound_446 : decode cL_isSound 446 = .ok (.goto 16, 3) := by decide +kernel
theorem dL_isSound_449 : decode cL_isSound 449 = .ok (.iload 5, 2) := by decide +kernel
theorem dL_isSound_451 : decode cL_isSound 451 = .ok (.bipush 9, 2) := by decide +kernel
theorem dL_isSound_453 : decode cL_isSound 453 = .ok (.if_icmp .ne 8, 3) := by decide +kernel
theorem dL_isSound_456 : decode cL_isSound 456 = .ok (.bipush 8, 2) := by decide +kernel
theorem dL_isSound_458 : decode cL_isSound 458 = .ok (.goto 4, 3) := by decide +kernel
theorem dL_isSound_461 : decode cL_isSound 461 = .ok (.iconst 0, 1) := by decide +kernel
theorem dL_isSound_462 : decode cL_isSound 462 = .ok (.if_icmp .eq 5, 3) := by decide +kernel
theorem dL_isSound_465 : decode cL_isSound 465 = .ok (.iconst 0, 1) := by decide +kernel
theorem dL_isSound_466 : decode cL_isSound 466 = .ok (.ireturn, 1) := by decide +kernel
theorem dL_isSound_467 : decode cL_isSound 467 = .ok (.iinc 5 1, 3) := by decide +kernel
theorem dL_isSound_470 : decode cL_isSound 470 = .ok (.goto (-139), 3) := by decide +kernel
theorem dL_isSound_473 : decode cL_isSound 473 = .ok (.iinc 2 1, 3) := by decide +kernel
theorem dL_isSound_476 : decode cL_isSound 476 = .ok (.goto (-472), 3) := by decide +kernel
theorem dL_isSound_479 : decode cL_isSound 479 = .ok (.iload_n 1, 1) := by decide +kernel
theorem dL_isSound_480 : decode cL_isSound 480 = .ok (.aload_n 0, 1) := by decide +kernel
theorem dL_isSound_481 : decode cL_isSound 481 = .ok (.invokevirtual 94, 3) := by decide +kernel
theorem dL_isSound_484 : decode cL_isSound 484 = .ok (.if_icmp .ne 23, 3) := by decide +kernel
theorem dL_isSound_487 : decode cL_isSound 487 = .ok (.aload_n 0, 1) := by decide +kernel
theorem dL_isSound_488 : decode cL_isSound 488 = .ok (.invokevirtual 97, 3) := by decide +kernel
theorem dL_isSound_491 : decode cL_isSound 491 = .ok (.ifCond .lt 16, 3) := by decide +kernel
theorem dL_isSound_494 : decode cL_isSound 494 = .ok (.aload_n 0, 1) := by decide +kernel
theorem dL_isSound_495 : decode cL_isSound 495 = .ok (.invokevirtual 100, 3) := by decide +kernel
theorem dL_isSound_498 : decode cL_isSound 498 = .ok (.dconst 0, 1) := by decide +kernel
theorem dL_isSound_499 : decode cL_isSound 499 = .ok (.dcmp .l, 1) := by decide +kernel
theorem dL_isSound_500 : decode cL_isSound 500 = .ok (.ifCond .lt 7, 3) := by decide +kernel
theorem dL_isSound_503 : decode cL_isSound 503 = .ok (.iconst 1, 1) := by decide +kernel
theorem dL_isSound_504 : decode cL_isSound 504 = .ok (.goto 4, 3) := by decide +kernel
theorem dL_isSound_507 : decode cL_isSound 507 = .ok (.iconst 0, 1) := by decide +kernel
theorem dL_isSound_508 : decode cL_isSound 508 = .ok (.ireturn, 1) := by decide +kernel
theorem dL_law_0 : decode cL_law 0 = .ok (.new 22, 3) := by decide +kernel
theorem dL_law_3 : decode cL_law 3 = .ok (.dup, 1) := by decide +kernel
theorem dL_law_4 : decode cL_law 4 = .ok (.invokespecial 104, 3) := by decide +kernel
theorem dL_law_7 : decode cL_law 7 = .ok (.astore_n 1, 1) := by decide +kernel
theorem dL_law_8 : decode cL_law 8 = .ok (.iconst 4, 1) := by decide +kernel
theorem dL_law_9 : decode cL_law 9 = .ok (.aload_n 0, 1) := by decide +kernel
theorem dL_law_10 : decode cL_law 10 = .ok (.bipush 15, 2) := by decide +kernel
theorem dL_law_12 : decode cL_law 12 = .ok (.invokestatic 11, 3) := by decide +kernel
theorem dL_law_15 : decode cL_law 15 = .ok (.bipush 12, 2) := by decide +kernel
theorem dL_law_17 : decode cL_law 17 = .ok (.invokestatic 17, 3) := by decide +kernel
theorem dL_law_20 : decode cL_law 20 = .ok (.iadd, 1) := by decide +kernel
theorem dL_law_21 : decode cL_law 21 = .ok (.istore_n 2, 1) := by decide +kernel
theorem dL_law_22 : decode cL_law 22 = .ok (.aload_n 1, 1) := by decide +kernel
theorem dL_law_23 : decode cL_law 23 = .ok (.aload_n 0, 1) := by decide +kernel
theorem dL_law_24 : decode cL_law 24 = .ok (.iload_n 2, 1) := by decide +kernel
theorem dL_law_25 : decode cL_law 25 = .ok (.invokestatic 105, 3) := by decide +kernel
theorem dL_law_28 : decode cL_law 28 = .ok (.astore_n 3, 1) := by decide +kernel
theorem dL_law_29 : decode cL_law 29 = .ok (.bipush 12, 2) := by decide +kernel
theorem dL_law_31 : decode cL_law 31 = .ok (.newarray .int, 2) := by decide +kernel
theorem dL_law_33 : decode cL_law 33 = .ok (.dup, 1) := by decide +kernel
theorem dL_law_34 : decode cL_law 34 = .ok (.iconst 0, 1) := by decide +kernel
theorem dL_law_35 : decode cL_law 35 = .ok (.iconst 0, 1) := by decide +kernel
theorem dL_law_36 : decode cL_law 36 = .ok (.iastore, 1) := by decide +kernel
theorem dL_law_37 : decode cL_law 37 = .ok (.dup, 1) := by decide +kernel
theorem dL_law_38 : decode cL_law 38 = .ok (.iconst 1, 1) := by decide +kernel
theorem dL_law_39 : decode cL_law 39 = .ok (.iconst 1, 1) := by decide +kernel
theorem dL_law_40 : decode cL_law 40 = .ok (.iastore, 1) := by decide +kernel
theorem dL_law_41 : decode cL_law 41 = .ok (.dup, 1) := by decide +kernel
theorem dL_law_42 : decode cL_law 42 = .ok (.iconst 2, 1) := by decide +kernel
theorem dL_law_43 : decode cL_law 43 = .ok (.iconst 2, 1) := by decide +kernel
theorem dL_law_44 : decode cL_law 44 = .ok (.iastore, 1) := by decide +kernel
theorem dL_law_45 : decode cL_law 45 = .ok (.dup, 1) := by decide +kernel
theorem dL_law_46 : decode cL_law 46 = .ok (.iconst 3, 1) := by decide +kernel
theorem dL_law_47 : decode cL_law 47 = .ok (.iconst 3, 1) := by decide +kernel
theorem dL_law_48 : decode cL_law 48 = .ok (.iastore, 1) := by decide +kernel
theorem dL_law_49 : decode cL_law 49 = .ok (.dup, 1) := by decide +kernel
theorem dL_law_50 : decode cL_law 50 = .ok (.iconst 4, 1) := by decide +kernel
theorem dL_law_51 : decode cL_law 51 = .ok (.iconst 4, 1) := by decide +kernel
theorem dL_law_52 : decode cL_law 52 = .ok (.iastore, 1) := by decide +kernel
theorem dL_law_53 : decode cL_law 53 = .ok (.dup, 1) := by decide +kernel
theorem dL_law_54 : decode cL_law 54 = .ok (.iconst 5, 1) := by decide +kernel
theorem dL_law_55 : decode cL_law 55 = .ok (.iconst 5, 1) := by decide +kernel
theorem dL_law_56 : decode cL_law 56 = .ok (.iastore, 1) := by decide +kernel
theorem dL_law_57 : decode cL_law 57 = .ok (.dup, 1) := by decide +kernel
theorem dL_law_58 : decode cL_law 58 = .ok (.bipush 6, 2) := by decide +kernel
theorem dL_law_60 : decode cL_law 60 = .ok (.bipush 6, 2) := by decide +kernel
theorem dL_law_62 : decode cL_law 62 = .ok (.iastore, 1) := by decide +kernel
theorem dL_law_63 : decode cL_law 63 = .ok (.dup, 1) := by decide +kernel
theorem dL_law_64 : decode cL_law 64 = .ok (.bipush 7, 2) := by decide +kernel
theorem dL_law_66 : decode cL_law 66 = .ok (.bipush 7, 2) := by decide +kernel
theorem dL_law_68 : decode cL_law 68 = .ok (.iastore, 1) := by decide +kernel
theorem dL_law_69 : decode cL_law 69 = .ok (.dup, 1) := by decide +kernel
theorem dL_law_70 : decode cL_law 70 = .ok (.bipush 8, 2) := by decide +kernel
theorem dL_law_72 : decode cL_law 72 = .ok (.bipush 9, 2) := by decide +kernel
theorem dL_law_74 : decode cL_law 74 = .ok (.iastore, 1) := by decide +kernel
theorem dL_law_75 : decode cL_law 75 = .ok (.dup, 1) := by decide +kernel
theorem dL_law_76 : decode cL_law 76 = .ok (.bipush 9, 2) := by decide +kernel
theorem dL_law_78 : decode cL_law 78 = .ok (.bipush 10, 2) := by decide +kernel
theorem dL_law_80 : decode cL_law 80 = .ok (.iastore, 1) := by decide +kernel
theorem dL_law_81 : decode cL_law 81 = .ok (.dup, 1) := by decide +kernel
theorem dL_law_82 : decode cL_law 82 = .ok (.bipush 10, 2) := by decide +kernel
theorem dL_law_84 : decode cL_law 84 = .ok (.bipush 11, 2) := by decide +kernel
theorem dL_law_86 : decode cL_law 86 = .ok (.iastore, 1) := by decide +kernel
theorem dL_law_87 : decode cL_law 87 = .ok (.dup, 1) := by decide +kernel
theorem dL_law_88 : decode cL_law 88 = .ok (.bipush 11, 2) := by decide +kernel
theorem dL_law_90 : decode cL_law 90 = .ok (.bipush 12, 2) := by decide +kernel
theorem dL_law_92 : decode cL_law 92 = .ok (.iastore, 1) := by decide +kernel
theorem dL_law_93 : decode cL_law 93 = .ok (.astore 4, 2) := by decide +kernel
theorem dL_law_95 : decode cL_law 95 = .ok (.iconst 0, 1) := by decide +kernel
theorem dL_law_96 : decode cL_law 96 = .ok (.istore 5, 2) := by decide +kernel
theorem dL_law_98 : decode cL_law 98 = .ok (.iload 5, 2) := by decide +kernel
theorem dL_law_100 : decode cL_law 100 = .ok (.bipush 14, 2) := by decide +kernel
theorem dL_law_102 : decode cL_law 102 = .ok (.if_icmp .ge 383, 3) := by decide +kernel
theorem dL_law_105 : decode cL_law 105 = .ok (.aload_n 0, 1) := by decide +kernel
theorem dL_law_106 : decode cL_law 106 = .ok (.iload 5, 2) := by decide +kernel
theorem dL_law_108 : decode cL_law 108 = .ok (.invokestatic 11, 3) := by decide +kernel
theorem dL_law_111 : decode cL_law 111 = .ok (.iconst 3, 1) := by decide +kernel
theorem dL_law_112 : decode cL_law 112 = .ok (.imul, 1) := by decide +kernel
theorem dL_law_113 : decode cL_law 113 = .ok (.aload_n 0, 1) := by decide +kernel
theorem dL_law_114 : decode cL_law 114 = .ok (.bipush 15, 2) := by decide +kernel
theorem dL_law_116 : decode cL_law 116 = .ok (.iload 5, 2) := by decide +kernel
theorem dL_law_118 : decode cL_law 118 = .ok (.isub, 1) := by decide +kernel
theorem dL_law_119 : decode cL_law 119 = .ok (.invokestatic 11, 3) := by decide +kernel
theorem dL_law_122 : decode cL_law 122 = .ok (.iadd, 1) := by decide +kernel
theorem dL_law_123 : decode cL_law 123 = .ok (.istore 6, 2) := by decide +kernel
theorem dL_law_125 : decode cL_law 125 = .ok (.iload 6, 2) := by decide +kernel
theorem dL_law_127 : decode cL_law 127 = .ok (.iload_n 2, 1) := by decide +kernel
theorem dL_law_128 : decode cL_law 128 = .ok (.invokestatic 17, 3) := by decide +kernel
theorem dL_law_131 : decode cL_law 131 = .ok (.istore 7, 2) := by decide +kernel
theorem dL_law_133 : decode cL_law 133 = .ok (.aload_n 3, 1) := by decide +kernel
theorem dL_law_134 : decode cL_law 134 = .ok (.iload 7, 2) := by decide +kernel
theorem dL_law_136 : decode cL_law 136 = .ok (.aaload, 1) := by decide +kernel
theorem dL_law_137 : decode cL_law 137 = .ok (.iconst 1, 1) := by decide +kernel
theorem dL_law_138 : decode cL_law 138 = .ok (.iaload, 1) := by decide +kernel
theorem dL_law_139 : decode cL_law 139 = .ok (.iconst 1, 1) := by decide +kernel
theorem dL_law_140 : decode cL_law 140 = .ok (.if_icmp .ne 57, 3) := by decide +kernel
theorem dL_law_143 : decode cL_law 143 = .ok (.iload 6, 2) := by decide +kernel
theorem dL_law_145 : decode cL_law 145 = .ok (.iconst 3, 1) := by decide +kernel
theorem dL_law_146 : decode cL_law 146 = .ok (.ishr, 1) := by decide +kernel
theorem dL_law_147 : decode cL_law 147 = .ok (.iconst 5, 1) := by decide +kernel
theorem dL_law_148 : decode cL_law 148 = .ok (.invokestatic 17, 3) := by decide +kernel
theorem dL_law_151 : decode cL_law 151 = .ok (.istore 8, 2) := by decide +kernel
theorem dL_law_153 : decode cL_law 153 = .ok (.iload 8, 2) := by decide +kernel
theorem dL_law_155 : decode cL_law 155 = .ok (.ifCond .le 39, 3) := by decide +kernel
theorem dL_law_158 : decode cL_law 158 = .ok (.aload_n 1, 1) := by decide +kernel
theorem dL_law_159 : decode cL_law 159 = .ok (.iload 7, 2) := by decide +kernel
theorem dL_law_161 : decode cL_law 161 = .ok (.invokevirtual 75, 3) := by decide +kernel
theorem dL_law_164 : decode cL_law 164 = .ok (.bipush 20, 2) := by decide +kernel
theorem dL_law_166 : decode cL_law 166 = .ok (.if_icmp .ge 28, 3) := by decide +kernel
theorem dL_law_169 : decode cL_law 169 = .ok (.aload_n 1, 1) := by decide +kernel
theorem dL_law_170 : decode cL_law 170 = .ok (.iload 7, 2) := by decide +kernel
theorem dL_law_172 : decode cL_law 172 = .ok (.iconst 1, 1) := by decide +kernel
theorem dL_law_173 : decode cL_law 173 = .ok (.iload 6, 2) := by decide +kernel
theorem dL_law_175 : decode cL_law 175 = .ok (.iload 8, 2) := by decide +kernel
theorem dL_law_177 : decode cL_law 177 = .ok (.ishr, 1) := by decide +kernel
theorem dL_law_178 : decode cL_law 178 = .ok (.bipush 12, 2) := by decide +kernel
theorem dL_law_180 : decode cL_law 180 = .ok (.invokestatic 17, 3) := by decide +kernel
theorem dL_law_183 : decode cL_law 183 = .ok (.iadd, 1) := by decide +kernel
theorem dL_law_184 : decode cL_law 184 = .ok (.invokevirtual 109, 3) := by decide +kernel
theorem dL_law_187 : decode cL_law 187 = .ok (.pop, 1) := by decide +kernel
theorem dL_law_188 : decode cL_law 188 = .ok (.iinc 8 (-1), 3) := by decide +kernel
theorem dL_law_191 : decode cL_law 191 = .ok (.goto (-38), 3) := by decide +kernel
theorem dL_law_194 : decode cL_law 194 = .ok (.goto 285, 3) := by decide +kernel
theorem dL_law_197 : decode cL_law 197 = .ok (.aload 4, 2) := by decide +kernel
theorem dL_law_199 : decode cL_law 199 = .ok (.iload 6, 2) := by decide +kernel
theorem dL_law_201 : decode cL_law 201 = .ok (.iconst 2, 1) := by decide +kernel
theorem dL_law_202 : decode cL_law 202 = .ok (.ishr, 1) := by decide +kernel
theorem dL_law_203 : decode cL_law 203 = .ok (.bipush 12, 2) := by decide +kernel
theorem dL_law_205 : decode cL_law 205 = .ok (.invokestatic 17, 3) := by decide +kernel
theorem dL_law_208 : decode cL_law 208 = .ok (.iaload, 1) := by decide +kernel
theorem dL_law_209 : decode cL_law 209 = .ok (.istore 8, 2) := by decide +kernel
theorem dL_law_211 : decode cL_law 211 = .ok (.bipush 13, 2) := by decide +kernel
theorem dL_law_213 : decode cL_law 213 = .ok (.newarray .int, 2) := by decide +kernel
theorem dL_law_215 : decode cL_law 215 = .ok (.dup, 1) := by decide +kernel
theorem dL_law_216 : decode cL_law 216 = .ok (.iconst 0, 1) := by decide +kernel
theorem dL_law_217 : decode cL_law 217 = .ok (.iconst 1, 1) := by decide +kernel
theorem dL_law_218 : decode cL_law 218 = .ok (.iload 6, 2) := by decide +kernel
theorem dL_law_220 : decode cL_law 220 = .ok (.iconst 5, 1) := by decide +kernel
theorem dL_law_221 : decode cL_law 221 = .ok (.ishr, 1) := by decide +kernel
theorem dL_law_222 : decode cL_law 222 = .ok (.iconst 2, 1) := by decide +kernel
theorem dL_law_223 : decode cL_law 223 = .ok (.invokestatic 17, 3) := by decide +kernel
theorem dL_law_226 : decode cL_law 226 = .ok (.iadd, 1) := by decide +kernel
theorem dL_law_227 : decode cL_law 227 = .ok (.iastore, 1) := by decide +kernel
theorem dL_law_228 : decode cL_law 228 = .ok (.dup, 1) := by decide +kernel
theorem dL_law_229 : decode cL_law 229 = .ok (.iconst 1, 1) := by decide +kernel
theorem dL_law_230 : decode cL_law 230 = .ok (.iload 6, 2) := by decide +kernel
theorem dL_law_232 : decode cL_law 232 = .ok (.iconst 4, 1) := by decide +kernel
theorem dL_law_233 : decode cL_law 233 = .ok (.ishr, 1) := by decide +kernel
theorem dL_law_234 : decode cL_law 234 = .ok (.sipush 150, 3) := by decide +kernel
theorem dL_law_237 : decode cL_law 237 = .ok (.invokestatic 17, 3) := by decide +kernel
theorem dL_law_240 : decode cL_law 240 = .ok (.iastore, 1) := by decide +kernel
theorem dL_law_241 : decode cL_law 241 = .ok (.dup, 1) := by decide +kernel
theorem dL_law_242 : decode cL_law 242 = .ok (.iconst 2, 1) := by decide +kernel
theorem dL_law_243 : decode cL_law 243 = .ok (.iload 6, 2) := by decide +kernel
theorem dL_law_245 : decode cL_law 245 = .ok (.iconst 4, 1) := by decide +kernel
theorem dL_law_246 : decode cL_law 246 = .ok (.ishr, 1) := by decide +kernel
theorem dL_law_247 : decode cL_law 247 = .ok (.bipush 60, 2) := by decide +kernel
theorem dL_law_249 : decode cL_law 249 = .ok (.invokestatic 17, 3) := by decide +kernel
theorem dL_law_252 : decode cL_law 252 = .ok (.iastore, 1) := by decide +kernel
theorem dL_law_253 : decode cL_law 253 = .ok (.dup, 1) := by decide +kernel
theorem dL_law_254 : decode cL_law 254 = .ok (.iconst 3, 1) := by decide +kernel
theorem dL_law_255 : decode cL_law 255 = .ok (.iload 6, 2) := by decide +kernel
theorem dL_law_257 : decode cL_law 257 = .ok (.iconst 5, 1) := by decide +kernel
theorem dL_law_258 : decode cL_law 258 = .ok (.ishr, 1) := by decide +kernel
theorem dL_law_259 : decode cL_law 259 = .ok (.bipush 12, 2) := by decide +kernel
theorem dL_law_261 : decode cL_law 261 = .ok (.invokestatic 17, 3) := by decide +kernel
theorem dL_law_264 : decode cL_law 264 = .ok (.iastore, 1) := by decide +kernel
theorem dL_law_265 : decode cL_law 265 = .ok (.dup, 1) := by decide +kernel
theorem dL_law_266 : decode cL_law 266 = .ok (.iconst 4, 1) := by decide +kernel
theorem dL_law_267 : decode cL_law 267 = .ok (.iload 6, 2) := by decide +kernel
theorem dL_law_269 : decode cL_law 269 = .ok (.iconst 5, 1) := by decide +kernel
theorem dL_law_270 : decode cL_law 270 = .ok (.ishr, 1) := by decide +kernel
theorem dL_law_271 : decode cL_law 271 = .ok (.bipush 9, 2) := by decide +kernel
theorem dL_law_273 : decode cL_law 273 = .ok (.invokestatic 17, 3) := by decide +kernel
theorem dL_law_276 : decode cL_law 276 = .ok (.iastore, 1) := by decide +kernel
theorem dL_law_277 : decode cL_law 277 = .ok (.dup, 1) := by decide +kernel
theorem dL_law_278 : decode cL_law 278 = .ok (.iconst 5, 1) := by decide +kernel
theorem dL_law_279 : decode cL_law 279 = .ok (.iload 6, 2) := by decide +kernel
theorem dL_law_281 : decode cL_law 281 = .ok (.bipush 6, 2) := by decide +kernel
theorem dL_law_283 : decode cL_law 283 = .ok (.ishr, 1) := by decide +kernel
theorem dL_law_284 : decode cL_law 284 = .ok (.iconst 5, 1) := by decide +kernel
theorem dL_law_285 : decode cL_law 285 = .ok (.invokestatic 17, 3) := by decide +kernel
theorem dL_law_288 : decode cL_law 288 = .ok (.iastore, 1) := by decide +kernel
theorem dL_law_289 : decode cL_law 289 = .ok (.dup, 1) := by decide +kernel
theorem dL_law_290 : decode cL_law 290 = .ok (.bipush 6, 2) := by decide +kernel
theorem dL_law_292 : decode cL_law 292 = .ok (.iload 6, 2) := by decide +kernel
theorem dL_law_294 : decode cL_law 294 = .ok (.iconst 4, 1) := by decide +kernel
theorem dL_law_295 : decode cL_law 295 = .ok (.ishr, 1) := by decide +kernel
theorem dL_law_296 : decode cL_law 296 = .ok (.iconst 3, 1) := by decide +kernel
theorem dL_law_297 : decode cL_law 297 = .ok (.invokestatic 17, 3) := by decide +kernel
theorem dL_law_300 : decode cL_law 300 = .ok (.iastore, 1) := by decide +kernel
theorem dL_law_301 : decode cL_law 301 = .ok (.dup, 1) := by decide +kernel
theorem dL_law_302 : decode cL_law 302 = .ok (.bipush 7, 2) := by decide +kernel
theorem dL_law_304 : decode cL_law 304 = .ok (.iload 6, 2) := by decide +kernel
theorem dL_law_306 : decode cL_law 306 = .ok (.iconst 4, 1) := by decide +kernel
theorem dL_law_307 : decode cL_law 307 = .ok (.ishr, 1) := by decide +kernel
theorem dL_law_308 : decode cL_law 308 = .ok (.iconst 4, 1) := by decide +kernel
theorem dL_law_309 : decode cL_law 309 = .ok (.invokestatic 17, 3) := by decide +kernel
theorem dL_law_312 : decode cL_law 312 = .ok (.iastore, 1) := by decide +kernel
theorem dL_law_313 : decode cL_law 313 = .ok (.dup, 1) := by decide +kernel
theorem dL_law_314 : decode cL_law 314 = .ok (.bipush 8, 2) := by decide +kernel
theorem dL_law_316 : decode cL_law 316 = .ok (.iconst 0, 1) := by decide +kernel
theorem dL_law_317 : decode cL_law 317 = .ok (.iastore, 1) := by decide +kernel
theorem dL_law_318 : decode cL_law 318 = .ok (.dup, 1) := by decide +kernel
theorem dL_law_319 : decode cL_law 319 = .ok (.bipush 9, 2) := by decide +kernel
theorem dL_law_321 : decode cL_law 321 = .ok (.iconst 1, 1) := by decide +kernel
theorem dL_law_322 : decode cL_law 322 = .ok (.iload 6, 2) := by decide +kernel
theorem dL_law_324 : decode cL_law 324 = .ok (.iconst 5, 1) := by decide +kernel
theorem dL_law_325 : decode cL_law 325 = .ok (.ishr, 1) := by decide +kernel
theorem dL_law_326 : decode cL_law 326 = .ok (.bipush 12, 2) := by decide +kernel
theorem dL_law_328 : decode cL_law 328 = .ok (.invokestatic 17, 3) := by decide +kernel
theorem dL_law_331 : decode cL_law 331 = .ok (.iadd, 1) := by decide +kernel
theorem dL_law_332 : decode cL_law 332 = .ok (.iastore, 1) := by decide +kernel
theorem dL_law_333 : decode cL_law 333 = .ok (.dup, 1) := by decide +kernel
theorem dL_law_334 : decode cL_law 334 = .ok (.bipush 10, 2) := by decide +kernel
theorem dL_law_336 : decode cL_law 336 = .ok (.iload 6, 2) := by decide +kernel
theorem dL_law_338 : decode cL_law 338 = .ok (.iconst 4, 1) := by decide +kernel
theorem dL_law_339 : decode cL_law 339 = .ok (.ishr, 1) := by decide +kernel
theorem dL_law_340 : decode cL_law 340 = .ok (.iconst 3, 1) := by decide +kernel
theorem dL_law_341 : decode cL_law 341 = .ok (.invokestatic 17, 3) := by decide +kernel
theorem dL_law_344 : decode cL_law 344 = .ok (.iastore, 1) := by decide +kernel
theorem dL_law_345 : decode cL_law 345 = .ok (.dup, 1) := by decide +kernel
theorem dL_law_346 : decode cL_law 346 = .ok (.bipush 11, 2) := by decide +kernel
theorem dL_law_348 : decode cL_law 348 = .ok (.iload 6, 2) := by decide +kernel
theorem dL_law_350 : decode cL_law 350 = .ok (.iconst 5, 1) := by decide +kernel
theorem dL_law_351 : decode cL_law 351 = .ok (.ishr, 1) := by decide +kernel
theorem dL_law_352 : decode cL_law 352 = .ok (.iconst 2, 1) := by decide +kernel
theorem dL_law_353 : decode cL_law 353 = .ok (.invokestatic 17, 3) := by decide +kernel
theorem dL_law_356 : decode cL_law 356 = .ok (.iastore, 1) := by decide +kernel
theorem dL_law_357 : decode cL_law 357 = .ok (.dup, 1) := by decide +kernel
theorem dL_law_358 : decode cL_law 358 = .ok (.bipush 12, 2) := by decide +kernel
theorem dL_law_360 : decode cL_law 360 = .ok (.iload 6, 2) := by decide +kernel
theorem dL_law_362 : decode cL_law 362 = .ok (.iconst 4, 1) := by decide +kernel
theorem dL_law_363 : decode cL_law 363 = .ok (.ishr, 1) := by decide +kernel
theorem dL_law_364 : decode cL_law 364 = .ok (.bipush 61, 2) := by decide +kernel
theorem dL_law_366 : decode cL_law 366 = .ok (.invokestatic 17, 3) := by decide +kernel
theorem dL_law_369 : decode cL_law 369 = .ok (.bipush 30, 2) := by decide +kernel
theorem dL_law_371 : decode cL_law 371 = .ok (.isub, 1) := by decide +kernel
theorem dL_law_372 : decode cL_law 372 = .ok (.iastore, 1) := by decide +kernel
theorem dL_law_373 : decode cL_law 373 = .ok (.astore 9, 2) := by decide +kernel
theorem dL_law_375 : decode cL_law 375 = .ok (.aload 9, 2) := by decide +kernel
theorem dL_law_377 : decode cL_law 377 = .ok (.iload 8, 2) := by decide +kernel
theorem dL_law_379 : decode cL_law 379 = .ok (.iaload, 1) := by decide +kernel
theorem dL_law_380 : decode cL_law 380 = .ok (.istore 10, 2) := by decide +kernel
theorem dL_law_382 : decode cL_law 382 = .ok (.iload 6, 2) := by decide +kernel
theorem dL_law_384 : decode cL_law 384 = .ok (.bipush 6, 2) := by decide +kernel
theorem dL_law_386 : decode cL_law 386 = .ok (.ishr, 1) := by decide +kernel
theorem dL_law_387 : decode cL_law 387 = .ok (.iconst 2, 1) := by decide +kernel
theorem dL_law_388 : decode cL_law 388 = .ok (.invokestatic 17, 3) := by decide +kernel
theorem dL_law_391 : decode cL_law 391 = .ok (.ifCond .ne 17, 3) := by decide +kernel
theorem dL_law_394 : decode cL_law 394 = .ok (.aload_n 1, 1) := by decide +kernel
theorem dL_law_395 : decode cL_law 395 = .ok (.iload 7, 2) := by decide +kernel
theorem dL_law_397 : decode cL_law 397 = .ok (.iload 8, 2) := by decide +kernel
theorem dL_law_399 : decode cL_law 399 = .ok (.iload 10, 2) := by decide +kernel
theorem dL_law_401 : decode cL_law 401 = .ok (.invokevirtual 112, 3) := by decide +kernel
theorem dL_law_404 : decode cL_law 404 = .ok (.pop, 1) := by decide +kernel
theorem dL_law_405 : decode cL_law 405 = .ok (.goto 74, 3) := by decide +kernel
theorem dL_law_408 : decode cL_law 408 = .ok (.aload_n 1, 1) := by decide +kernel
theorem dL_law_409 : decode cL_law 409 = .ok (.iload 8, 2) := by decide +kernel
theorem dL_law_411 : decode cL_law 411 = .ok (.iload 10, 2) := by decide +kernel
theorem dL_law_413 : decode cL_law 413 = .ok (.iload 6, 2) := by decide +kernel
theorem dL_law_415 : decode cL_law 415 = .ok (.bipush 7, 2) := by decide +kernel
theorem dL_law_417 : decode cL_law 417 = .ok (.ishr, 1) := by decide +kernel
theorem dL_law_418 : decode cL_law 418 = .ok (.iconst 4, 1) := by decide +kernel
theorem dL_law_419 : decode cL_law 419 = .ok (.invokestatic 17, 3) := by decide +kernel
theorem dL_law_422 : decode cL_law 422 = .ok (.ifCond .ne 7, 3) := by decide +kernel
theorem dL_law_425 : decode cL_law 425 = .ok (.iconst 1, 1) := by decide +kernel
theorem dL_law_426 : decode cL_law 426 = .ok (.goto 4, 3) := by decide +kernel
theorem dL_law_429 : decode cL_law 429 = .ok (.iconst 0, 1) := by decide +kernel
theorem dL_law_430 : decode cL_law 430 = .ok (.invokevirtual 116, 3) := by decide +kernel
theorem dL_law_433 : decode cL_law 433 = .ok (.istore 11, 2) := by decide +kernel
theorem dL_law_435 : decode cL_law 435 = .ok (.aload_n 1, 1) := by decide +kernel
theorem dL_law_436 : decode cL_law 436 = .ok (.iload 11, 2) := by decide +kernel
theorem dL_law_438 : decode cL_law 438 = .ok (.aload_n 3, 1) := by decide +kernel
theorem dL_law_439 : decode cL_law 439 = .ok (.iload 7, 2) := by decide +kernel
theorem dL_law_441 : decode cL_law 441 = .ok (.aaload, 1) := by decide +kernel
theorem dL_law_442 : decode cL_law 442 = .ok (.iconst 2, 1) := by decide +kernel
theorem dL_law_443 : decode cL_law 443 = .ok (.iaload, 1) := by decide +kernel
theorem dL_law_444 : decode cL_law 444 = .ok (.iconst (-1), 1) := by decide +kernel
theorem dL_law_445 : decode cL_law 445 = .ok (.iconst 0, 1) := by decide +kernel
theorem dL_law_446 : decode cL_law 446 = .ok (.iconst 0, 1) := by decide +kernel
theorem dL_law_447 : decode cL_law 447 = .ok (.invokevirtual 120, 3) := by decide +kernel
theorem dL_law_450 : decode cL_law 450 = .ok (.pop, 1) := by decide +kernel
theorem dL_law_451 : decode cL_law 451 = .ok (.iload 6, 2) := by decide +kernel
theorem dL_law_453 : decode cL_law 453 = .ok (.bipush 8, 2) := by decide +kernel
theorem dL_law_455 : decode cL_law 455 = .ok (.ishr, 1) := by decide +kernel
theorem dL_law_456 : decode cL_law 456 = .ok (.iconst 3, 1) := by decide +kernel
theorem dL_law_457 : decode cL_law 457 = .ok (.invokestatic 17, 3) := by decide +kernel
theorem dL_law_460 : decode cL_law 460 = .ok (.ifCond .ne 19, 3) := by decide +kernel
theorem dL_law_463 : decode cL_law 463 = .ok (.aload_n 1, 1) := by decide +kernel
theorem dL_law_464 : decode cL_law 464 = .ok (.iload 7, 2) := by decide +kernel
theorem dL_law_466 : decode cL_law 466 = .ok (.iload 6, 2) := by decide +kernel
theorem dL_law_468 : decode cL_law 468 = .ok (.iconst 2, 1) := by decide +kernel
theorem dL_law_469 : decode cL_law 469 = .ok (.ishr, 1) := by decide +kernel
theorem dL_law_470 : decode cL_law 470 = .ok (.bipush 90, 2) := by decide +kernel
theorem dL_law_472 : decode cL_law 472 = .ok (.invokestatic 17, 3) := by decide +kernel
theorem dL_law_475 : decode cL_law 475 = .ok (.invokevirtual 124, 3) := by decide +kernel
theorem dL_law_478 : decode cL_law 478 = .ok (.pop, 1) := by decide +kernel
theorem dL_law_479 : decode cL_law 479 = .ok (.iinc 5 1, 3) := by decide +kernel
theorem dL_law_482 : decode cL_law 482 = .ok (.goto (-384), 3) := by decide +kernel
theorem dL_law_485 : decode cL_law 485 = .ok (.aload_n 1, 1) := by decide +kernel
theorem dL_law_486 : decode cL_law 486 = .ok (.invokestatic 127, 3) := by decide +kernel
theorem dL_law_489 : decode cL_law 489 = .ok (.ifCond .ne 5, 3) := by decide +kernel
theorem dL_law_492 : decode cL_law 492 = .ok (.iconst 0, 1) := by decide +kernel
theorem dL_law_493 : decode cL_law 493 = .ok (.ireturn, 1) := by decide +kernel
theorem dL_law_494 : decode cL_law 494 = .ok (.aload_n 1, 1) := by decide +kernel
theorem dL_law_495 : decode cL_law 495 = .ok (.invokevirtual 131, 3) := by decide +kernel
theorem dL_law_498 : decode cL_law 498 = .ok (.lstore 5, 2) := by decide +kernel
theorem dL_law_500 : decode cL_law 500 = .ok (.bipush 20, 2) := by decide +kernel
theorem dL_law_502 : decode cL_law 502 = .ok (.aload_n 0, 1) := by decide +kernel
theorem dL_law_503 : decode cL_law 503 = .ok (.iconst 3, 1) := by decide +kernel
theorem dL_law_504 : decode cL_law 504 = .ok (.invokestatic 11, 3) := by decide +kernel
theorem dL_law_507 : decode cL_law 507 = .ok (.sipush 500, 3) := by decide +kernel
theorem dL_law_510 : decode cL_law 510 = .ok (.invokestatic 17, 3) := by decide +kernel
theorem dL_law_513 : decode cL_law 513 = .ok (.iadd, 1) := by decide +kernel
theorem dL_law_514 : decode cL_law 514 = .ok (.istore 7, 2) := by decide +kernel
theorem dL_law_516 : decode cL_law 516 = .ok (.aload_n 1, 1) := by decide +kernel
theorem dL_law_517 : decode cL_law 517 = .ok (.iload 7, 2) := by decide +kernel
theorem dL_law_519 : decode cL_law 519 = .ok (.invokevirtual 135, 3) := by decide +kernel
theorem dL_law_522 : decode cL_law 522 = .ok (.istore 8, 2) := by decide +kernel
theorem dL_law_524 : decode cL_law 524 = .ok (.aload_n 1, 1) := by decide +kernel
theorem dL_law_525 : decode cL_law 525 = .ok (.invokevirtual 97, 3) := by decide +kernel
theorem dL_law_528 : decode cL_law 528 = .ok (.istore 9, 2) := by decide +kernel
theorem dL_law_530 : decode cL_law 530 = .ok (.aload_n 1, 1) := by decide +kernel
theorem dL_law_531 : decode cL_law 531 = .ok (.invokevirtual 87, 3) := by decide +kernel
theorem dL_law_534 : decode cL_law 534 = .ok (.ifCond .ne 7, 3) := by decide +kernel
theorem dL_law_537 : decode cL_law 537 = .ok (.iconst 0, 1) := by decide +kernel
theorem dL_law_538 : decode cL_law 538 = .ok (.goto 19, 3) := by decide +kernel
theorem dL_law_541 : decode cL_law 541 = .ok (.aload_n 1, 1) := by decide +kernel
theorem dL_law_542 : decode cL_law 542 = .ok (.aload_n 0, 1) := by decide +kernel
theorem dL_law_543 : decode cL_law 543 = .ok (.iconst 4, 1) := by decide +kernel
theorem dL_law_544 : decode cL_law 544 = .ok (.invokestatic 11, 3) := by decide +kernel
theorem dL_law_547 : decode cL_law 547 = .ok (.aload_n 1, 1) := by decide +kernel
theorem dL_law_548 : decode cL_law 548 = .ok (.invokevirtual 87, 3) := by decide +kernel
theorem dL_law_551 : decode cL_law 551 = .ok (.invokestatic 17, 3) := by decide +kernel
theorem dL_law_554 : decode cL_law 554 = .ok (.invokevirtual 138, 3) := by decide +kernel
theorem dL_law_557 : decode cL_law 557 = .ok (.istore 10, 2) := by decide +kernel
theorem dL_law_559 : decode cL_law 559 = .ok (.iload 10, 2) := by decide +kernel
theorem dL_law_561 : decode cL_law 561 = .ok (.ifCond .lt 34, 3) := by decide +kernel
theorem dL_law_564 : decode cL_law 564 = .ok (.iload 10, 2) := by decide +kernel
theorem dL_law_566 : decode cL_law 566 = .ok (.aload_n 1, 1) := by decide +kernel
theorem dL_law_567 : decode cL_law 567 = .ok (.invokevirtual 94, 3) := by decide +kernel
theorem dL_law_570 : decode cL_law 570 = .ok (.if_icmp .gt 25, 3) := by decide +kernel
theorem dL_law_573 : decode cL_law 573 = .ok (.aload_n 1, 1) := by decide +kernel
theorem dL_law_574 : decode cL_law 574 = .ok (.sipush (-5000), 3) := by decide +kernel
theorem dL_law_577 : decode cL_law 577 = .ok (.iconst 0, 1) := by decide +kernel
theorem dL_law_578 : decode cL_law 578 = .ok (.invokevirtual 141, 3) := by decide +kernel
theorem dL_law_581 : decode cL_law 581 = .ok (.iconst (-1), 1) := by decide +kernel
theorem dL_law_582 : decode cL_law 582 = .ok (.if_icmp .ne 13, 3) := by decide +kernel
theorem dL_law_585 : decode cL_law 585 = .ok (.aload_n 1, 1) := by decide +kernel
theorem dL_law_586 : decode cL_law 586 = .ok (.invokevirtual 131, 3) := by decide +kernel
theorem dL_law_589 : decode cL_law 589 = .ok (.lload 5, 2) := by decide +kernel
theorem dL_law_591 : decode cL_law 591 = .ok (.lcmp, 1) := by decide +kernel
theorem dL_law_592 : decode cL_law 592 = .ok (.ifCond .eq 5, 3) := by decide +kernel
theorem dL_law_595 : decode cL_law 595 = .ok (.iconst 0, 1) := by decide +kernel
theorem dL_law_596 : decode cL_law 596 = .ok (.ireturn, 1) := by decide +kernel
theorem dL_law_597 : decode cL_law 597 = .ok (.aload_n 1, 1) := by decide +kernel
theorem dL_law_598 : decode cL_law 598 = .ok (.iload 7, 2) := by decide +kernel
theorem dL_law_600 : decode cL_law 600 = .ok (.invokevirtual 144, 3) := by decide +kernel
theorem dL_law_603 : decode cL_law 603 = .ok (.istore 11, 2) := by decide +kernel
theorem dL_law_605 : decode cL_law 605 = .ok (.aload_n 1, 1) := by decide +kernel
theorem dL_law_606 : decode cL_law 606 = .ok (.invokevirtual 97, 3) := by decide +kernel
theorem dL_law_609 : decode cL_law 609 = .ok (.iload 8, 2) := by decide +kernel
theorem dL_law_611 : decode cL_law 611 = .ok (.if_icmp .ne 35, 3) := by decide +kernel
theorem dL_law_614 : decode cL_law 614 = .ok (.aload_n 1, 1) := by decide +kernel
theorem dL_law_615 : decode cL_law 615 = .ok (.iload 11, 2) := by decide +kernel
theorem dL_law_617 : decode cL_law 617 = .ok (.invokevirtual 135, 3) := by decide +kernel
theorem dL_law_620 : decode cL_law 620 = .ok (.iload 9, 2) := by decide +kernel
theorem dL_law_622 : decode cL_law 622 = .ok (.if_icmp .ne 24, 3) := by decide +kernel
theorem dL_law_625 : decode cL_law 625 = .ok (.aload_n 1, 1) := by decide +kernel
theorem dL_law_626 : decode cL_law 626 = .ok (.iload 11, 2) := by decide +kernel
theorem dL_law_628 : decode cL_law 628 = .ok (.invokevirtual 144, 3) := by decide +kernel
theorem dL_law_631 : decode cL_law 631 = .ok (.iload 7, 2) := by decide +kernel
theorem dL_law_633 : decode cL_law 633 = .ok (.if_icmp .ne 13, 3) := by decide +kernel
theorem dL_law_636 : decode cL_law 636 = .ok (.aload_n 1, 1) := by decide +kernel
theorem dL_law_637 : decode cL_law 637 = .ok (.invokevirtual 131, 3) := by decide +kernel
theorem dL_law_640 : decode cL_law 640 = .ok (.lload 5, 2) := by decide +kernel
theorem dL_law_642 : decode cL_law 642 = .ok (.lcmp, 1) := by decide +kernel
theorem dL_law_643 : decode cL_law 643 = .ok (.ifCond .eq 5, 3) := by decide +kernel
theorem dL_law_646 : decode cL_law 646 = .ok (.iconst 0, 1) := by decide +kernel
theorem dL_law_647 : decode cL_law 647 = .ok (.ireturn, 1) := by decide +kernel
theorem dL_law_648 : decode cL_law 648 = .ok (.iconst 1, 1) := by decide +kernel
theorem dL_law_649 : decode cL_law 649 = .ok (.aload_n 0, 1) := by decide +kernel
theorem dL_law_650 : decode cL_law 650 = .ok (.iconst 5, 1) := by decide +kernel
theorem dL_law_651 : decode cL_law 651 = .ok (.invokestatic 11, 3) := by decide +kernel
theorem dL_law_654 : decode cL_law 654 = .ok (.iload_n 2, 1) := by decide +kernel
theorem dL_law_655 : decode cL_law 655 = .ok (.iconst 1, 1) := by decide +kernel
theorem dL_law_656 : decode cL_law 656 = .ok (.isub, 1) := by decide +kernel
theorem dL_law_657 : decode cL_law 657 = .ok (.invokestatic 17, 3) := by decide +kernel
theorem dL_law_660 : decode cL_law 660 = .ok (.iadd, 1) := by decide +kernel
theorem dL_law_661 : decode cL_law 661 = .ok (.istore 12, 2) := by decide +kernel
theorem dL_law_663 : decode cL_law 663 = .ok (.aload_n 1, 1) := by decide +kernel
theorem dL_law_664 : decode cL_law 664 = .ok (.iload 12, 2) := by decide +kernel
theorem dL_law_666 : decode cL_law 666 = .ok (.invokevirtual 69, 3) := by decide +kernel
theorem dL_law_669 : decode cL_law 669 = .ok (.istore 13, 2) := by decide +kernel
theorem dL_law_671 : decode cL_law 671 = .ok (.iconst 0, 1) := by decide +kernel
theorem dL_law_672 : decode cL_law 672 = .ok (.istore 14, 2) := by decide +kernel
theorem dL_law_674 : decode cL_law 674 = .ok (.aload_n 1, 1) := by decide +kernel
theorem dL_law_675 : decode cL_law 675 = .ok (.iload 13, 2) := by decide +kernel
theorem dL_law_677 : decode cL_law 677 = .ok (.iload 14, 2) := by decide +kernel
theorem dL_law_679 : decode cL_law 679 = .ok (.invokevirtual 78, 3) := by decide +kernel
theorem dL_law_682 : decode cL_law 682 = .ok (.iload 12, 2) := by decide +kernel
theorem dL_law_684 : decode cL_law 684 = .ok (.if_icmp .eq 9, 3) := by decide +kernel
theorem dL_law_687 : decode cL_law 687 = .ok (.iinc 14 1, 3) := by decide +kernel
theorem dL_law_690 : decode cL_law 690 = .ok (.goto (-16), 3) := by decide +kernel
theorem dL_law_693 : decode cL_law 693 = .ok (.aload_n 1, 1) := by decide +kernel
theorem dL_law_694 : decode cL_law 694 = .ok (.iload 12, 2) := by decide +kernel
theorem dL_law_696 : decode cL_law 696 = .ok (.iconst 0, 1) := by decide +kernel
theorem dL_law_697 : decode cL_law 697 = .ok (.iconst 0, 1) := by decide +kernel
theorem dL_law_698 : decode cL_law 698 = .ok (.invokevirtual 147, 3) := by decide +kernel
theorem dL_law_701 : decode cL_law 701 = .ok (.iconst 1, 1) := by decide +kernel
theorem dL_law_702 : decode cL_law 702 = .ok (.if_icmp .lt 39, 3) := by decide +kernel
theorem dL_law_705 : decode cL_law 705 = .ok (.aload_n 1, 1) := by decide +kernel
theorem dL_law_706 : decode cL_law 706 = .ok (.invokestatic 127, 3) := by decide +kernel
theorem dL_law_709 : decode cL_law 709 = .ok (.ifCond .eq 32, 3) := by decide +kernel
theorem dL_law_712 : decode cL_law 712 = .ok (.aload_n 1, 1) := by decide +kernel
end
section
theorem dL_law_713 : decode cL_law 713 = .ok (.iload 12, 2) := by decide +kernel
theorem dL_law_715 : decode cL_law 715 = .ok (.iload 13, 2) := by decide +kernel
theorem dL_law_717 : decode cL_law 717 = .ok (.iload 14, 2) := by decide +kernel
theorem dL_law_719 : decode cL_law 719 = .ok (.invokevirtual 147, 3) := by decide +kernel
theorem dL_law_722 : decode cL_law 722 = .ok (.aload_n 1, 1) := by decide +kernel
theorem dL_law_723 : decode cL_law 723 = .ok (.iload 13, 2) := by decide +kernel
theorem dL_law_725 : decode cL_law 725 = .ok (.invokevirtual 75, 3) := by decide +kernel
theorem dL_law_728 : decode cL_law 728 = .ok (.if_icmp .ne 13, 3) := by decide +kernel
theorem dL_law_731 : decode cL_law 731 = .ok (.aload_n 1, 1) := by decide +kernel
theorem dL_law_732 : decode cL_law 732 = .ok (.invokevirtual 131, 3) := by decide +kernel
theorem dL_law_735 : decode cL_law 735 = .ok (.lload 5, 2) := by decide +kernel
theorem dL_law_737 : decode cL_law 737 = .ok (.lcmp, 1) := by decide +kernel
theorem dL_law_738 : decode cL_law 738 = .ok (.ifCond .eq 5, 3) := by decide +kernel
theorem dL_law_741 : decode cL_law 741 = .ok (.iconst 0, 1) := by decide +kernel
theorem dL_law_742 : decode cL_law 742 = .ok (.ireturn, 1) := by decide +kernel
theorem dL_law_743 : decode cL_law 743 = .ok (.aload_n 1, 1) := by decide +kernel
theorem dL_law_744 : decode cL_law 744 = .ok (.invokevirtual 87, 3) := by decide +kernel
theorem dL_law_747 : decode cL_law 747 = .ok (.ifCond .le 55, 3) := by decide +kernel
theorem dL_law_750 : decode cL_law 750 = .ok (.aload_n 0, 1) := by decide +kernel
theorem dL_law_751 : decode cL_law 751 = .ok (.bipush 6, 2) := by decide +kernel
theorem dL_law_753 : decode cL_law 753 = .ok (.invokestatic 11, 3) := by decide +kernel
theorem dL_law_756 : decode cL_law 756 = .ok (.aload_n 1, 1) := by decide +kernel
theorem dL_law_757 : decode cL_law 757 = .ok (.invokevirtual 87, 3) := by decide +kernel
theorem dL_law_760 : decode cL_law 760 = .ok (.invokestatic 17, 3) := by decide +kernel
theorem dL_law_763 : decode cL_law 763 = .ok (.istore 15, 2) := by decide +kernel
theorem dL_law_765 : decode cL_law 765 = .ok (.aload_n 1, 1) := by decide +kernel
theorem dL_law_766 : decode cL_law 766 = .ok (.iload 15, 2) := by decide +kernel
theorem dL_law_768 : decode cL_law 768 = .ok (.invokevirtual 150, 3) := by decide +kernel
theorem dL_law_771 : decode cL_law 771 = .ok (.ifCond .ne 29, 3) := by decide +kernel
theorem dL_law_774 : decode cL_law 774 = .ok (.aload_n 1, 1) := by decide +kernel
theorem dL_law_775 : decode cL_law 775 = .ok (.invokestatic 127, 3) := by decide +kernel
theorem dL_law_778 : decode cL_law 778 = .ok (.ifCond .eq 22, 3) := by decide +kernel
theorem dL_law_781 : decode cL_law 781 = .ok (.aload_n 1, 1) := by decide +kernel
theorem dL_law_782 : decode cL_law 782 = .ok (.iload 15, 2) := by decide +kernel
theorem dL_law_784 : decode cL_law 784 = .ok (.invokevirtual 150, 3) := by decide +kernel
theorem dL_law_787 : decode cL_law 787 = .ok (.ifCond .eq 13, 3) := by decide +kernel
theorem dL_law_790 : decode cL_law 790 = .ok (.aload_n 1, 1) := by decide +kernel
theorem dL_law_791 : decode cL_law 791 = .ok (.invokevirtual 131, 3) := by decide +kernel
theorem dL_law_794 : decode cL_law 794 = .ok (.lload 5, 2) := by decide +kernel
theorem dL_law_796 : decode cL_law 796 = .ok (.lcmp, 1) := by decide +kernel
theorem dL_law_797 : decode cL_law 797 = .ok (.ifCond .eq 5, 3) := by decide +kernel
theorem dL_law_800 : decode cL_law 800 = .ok (.iconst 0, 1) := by decide +kernel
theorem dL_law_801 : decode cL_law 801 = .ok (.ireturn, 1) := by decide +kernel
theorem dL_law_802 : decode cL_law 802 = .ok (.aload_n 1, 1) := by decide +kernel
theorem dL_law_803 : decode cL_law 803 = .ok (.invokevirtual 94, 3) := by decide +kernel
theorem dL_law_806 : decode cL_law 806 = .ok (.istore 15, 2) := by decide +kernel
theorem dL_law_808 : decode cL_law 808 = .ok (.aload_n 1, 1) := by decide +kernel
theorem dL_law_809 : decode cL_law 809 = .ok (.iload 12, 2) := by decide +kernel
theorem dL_law_811 : decode cL_law 811 = .ok (.invokevirtual 153, 3) := by decide +kernel
theorem dL_law_814 : decode cL_law 814 = .ok (.istore 16, 2) := by decide +kernel
theorem dL_law_816 : decode cL_law 816 = .ok (.iload 16, 2) := by decide +kernel
theorem dL_law_818 : decode cL_law 818 = .ok (.iconst 1, 1) := by decide +kernel
theorem dL_law_819 : decode cL_law 819 = .ok (.if_icmp .lt 35, 3) := by decide +kernel
theorem dL_law_822 : decode cL_law 822 = .ok (.aload_n 1, 1) := by decide +kernel
theorem dL_law_823 : decode cL_law 823 = .ok (.invokevirtual 94, 3) := by decide +kernel
theorem dL_law_826 : decode cL_law 826 = .ok (.iload 15, 2) := by decide +kernel
theorem dL_law_828 : decode cL_law 828 = .ok (.iload 16, 2) := by decide +kernel
theorem dL_law_830 : decode cL_law 830 = .ok (.isub, 1) := by decide +kernel
theorem dL_law_831 : decode cL_law 831 = .ok (.if_icmp .ne 23, 3) := by decide +kernel
theorem dL_law_834 : decode cL_law 834 = .ok (.aload_n 1, 1) := by decide +kernel
theorem dL_law_835 : decode cL_law 835 = .ok (.iload 12, 2) := by decide +kernel
theorem dL_law_837 : decode cL_law 837 = .ok (.invokevirtual 41, 3) := by decide +kernel
theorem dL_law_840 : decode cL_law 840 = .ok (.ifCond .ne 14, 3) := by decide +kernel
theorem dL_law_843 : decode cL_law 843 = .ok (.aload_n 1, 1) := by decide +kernel
theorem dL_law_844 : decode cL_law 844 = .ok (.invokestatic 127, 3) := by decide +kernel
theorem dL_law_847 : decode cL_law 847 = .ok (.ifCond .eq 7, 3) := by decide +kernel
theorem dL_law_850 : decode cL_law 850 = .ok (.iconst 1, 1) := by decide +kernel
theorem dL_law_851 : decode cL_law 851 = .ok (.goto 4, 3) := by decide +kernel
theorem dL_law_854 : decode cL_law 854 = .ok (.iconst 0, 1) := by decide +kernel
theorem dL_law_855 : decode cL_law 855 = .ok (.ireturn, 1) := by decide +kernel
end
section
/-! THE CORE: the class's objects by kind and number; a state of the system is what they hold -/
abbrev pvC : List vw_C := [(RJx4a65c, TJx4a65c, 3), (RX0, TX0, 10), (RX1, TX1, 5), (RX2, TX2, 16), (RX3, TX3, 14), (RX4, TX4, 6), (RX5, TX5, 10), (RX6, TX6, 3), (RX7, TX7, 3), (RX8, TX8, 7), (RX9, TX9, 6)]
/-- how many there are of a family (0 nodes, 1 rules, 2 .. arrays of the law), the numbers in fields (kind, field, object), the objects in fields and arrays of references (kind, field or place, object), the numbers in arrays (kind, object, place), the lists -/
abbrev PvS : Type := (Nat → Nat) × (Nat → Nat → Nat → Int32) × (Nat → Nat → Nat → Option Nat) × (Nat → Nat → Nat → Int32) × (Nat → List Nat)
def up3 {α : Type} (f : Nat → Nat → Nat → α) (a b c : Nat) (v : α) : Nat → Nat → Nat → α := fun x y z => if x = a ∧ y = b ∧ z = c then v else f x y z
def pvI (σ : PvS) (κ k i : Nat) (v : Int32) : PvS := (σ.1, up3 σ.2.1 κ k i v, σ.2.2)
def pvR (σ : PvS) (κ k i : Nat) (v : Option Nat) : PvS := (σ.1, σ.2.1, up3 σ.2.2.1 κ k i v, σ.2.2.2)
def pvA (σ : PvS) (κ i j : Nat) (v : Int32) : PvS := (σ.1, σ.2.1, σ.2.2.1, up3 σ.2.2.2.1 κ i j v, σ.2.2.2.2)
def pvL (σ : PvS) (j : Nat) (v : List Nat) : PvS := (σ.1, σ.2.1, σ.2.2.1, σ.2.2.2.1, va_up σ.2.2.2.2 j v)
/-- what a field is: (0) a number, (1, kind, c) the object of that kind whose number is its own and c, (2, kind, c) the object c of that kind, (3) a node or null -/
def pvc : Nat → Nat → Nat × Nat × Nat
  | 0, 0 => (2, 20, 0) | 0, 1 => (2, 21, 0) | 0, 2 => (2, 22, 0) | 0, 3 => (2, 23, 0) | 0, 4 => (2, 24, 0) | 0, 5 => (2, 25, 0)
  | 2, 1 => (3, 0, 0) | 2, 14 => (1, 32, 0) | 2, 15 => (1, 33, 0)
  | 3, 3 => (1, 10, 3) | 3, 4 => (1, 30, 0) | 3, 5 => (1, 31, 0) | 3, 6 => (1, 2, 0) | 3, 7 => (1, 1, 0) | 3, 8 => (3, 0, 0)
  | 4, 0 => (2, 6, 0) | 4, 1 => (2, 0, 0) | 4, 2 => (2, 8, 0)
  | 5, 3 => (1, 38, 0) | 5, 4 => (1, 39, 0) | 5, 5 => (1, 40, 0) | 5, 6 => (1, 41, 0)
  | 6, 0 => (1, 34, 0) | 6, 1 => (1, 35, 0)
  | 7, 0 => (2, 10, 0) | 7, 1 => (2, 10, 1) | 7, 2 => (2, 3, 0)
  | 8, 0 => (2, 26, 0) | 8, 1 => (2, 27, 0) | 8, 2 => (2, 28, 0) | 8, 3 => (2, 29, 0)
  | 9, 0 => (2, 7, 0) | 9, 1 => (2, 10, 2) | 9, 2 => (2, 4, 0) | 9, 3 => (2, 6, 0) | 9, 4 => (2, 6, 1)
  | _, _ => (0, 0, 0)
def pvN : Nat → Nat
  | 0 => 10 | 1 => 5 | 2 => 16 | 3 => 14 | 4 => 6 | 5 => 10 | 6 => 3 | 7 => 3 | 8 => 7 | _ => 6
def pvF (ad : Nat → Nat → Nat) (σ : PvS) (κ k i : Nat) : Value := match pvc κ k with
  | (0, _, _) => .int (σ.2.1 κ k i)
  | (1, κ', c) => .ref (ad κ' (i + c))
  | (2, κ', c) => .ref (ad κ' c)
  | _ => va_rf ((σ.2.2.1 κ k i).map (ad 3))
def pvLen (σ : PvS) (κ i : Nat) : Nat := if κ ≤ 25 then 40 else if κ ≤ 29 then 800 else if κ = 31 then (if σ.2.1 3 1 i = 0 then 14 else 0) else if κ ≤ 33 then (if σ.2.1 3 1 i = 0 then 0 else 20) else if κ ≤ 37 then 14 else if κ ≤ 41 then 3 else if κ = 51 then (σ.2.1 51 0 i).toNatClampNeg else if κ = 52 then 5 else if κ = 53 then 12 else 13
def pvE (cy : Nat → ClassId) (ad : Nat → Nat → Nat) (σ : PvS) (κ i : Nat) : va_E :=
  if κ ≤ 9 then .inr (κ + 1, (List.range (pvN κ)).map (fun k => pvF ad σ κ k i))
  else if κ = 26 then .inl (cy 2, 800, .inr (.inr (.inr (.inr (fun j => (σ.2.2.1 26 j i).map (ad 3))))))
  else if κ = 51 then .inl (cy 4, pvLen σ 51 i, .inr (.inr (.inr (.inr (fun j => (σ.2.2.1 51 j i).map (ad 52))))))
  else if κ = 34 ∨ κ = 35 then .inl (cy 4, 40, .inr (.inr (.inr (.inr (fun j => if j < 40 then some (ad (κ + 2) (40 * i + j)) else none)))))
  else .inl (cy (if κ = 41 then 1 else 0), pvLen σ κ i, .inl (fun j => σ.2.2.2.1 κ i j))
/-- the kinds that are arrays of numbers -/
def pvIA (κ : Nat) : Bool := decide (9 < κ ∧ κ ≠ 26 ∧ κ ≠ 34 ∧ κ ≠ 35 ∧ κ ≠ 51)
/-- what the references of a kind point to -/
def pvRk (κ : Nat) : Nat := if κ = 51 then 52 else 3
/-- how many there are of a kind -/
def pvM (σ : PvS) (κ : Nat) : Nat := if κ = 0 then 1 else if κ ≤ 3 then σ.1 0 else if κ = 5 then σ.1 1 else if κ = 6 then 2 else if κ ≤ 9 then 1 else if κ < 20 then 0 else if κ ≤ 29 then 1 else if κ ≤ 33 then σ.1 0 else if κ ≤ 35 then 2 else if κ ≤ 37 then 80 else if κ ≤ 41 then σ.1 1 else if κ ≤ 50 then 0 else if κ ≤ 54 then σ.1 (κ - 49) else 0
/-- the objects lie in the pool as the state has them, each at an address of its own -/
def pvO (cy : Nat → ClassId) (ad : Nat → Nat → Nat) (σ : PvS) (L : List Nat) (f : Nat → va_E) : Prop :=
  (∀ κ i, i < pvM σ κ → ad κ i ∈ L ∧ f (ad κ i) = pvE cy ad σ κ i) ∧ ∀ κ i κ' i', i < pvM σ κ → i' < pvM σ κ' → ad κ i = ad κ' i' → κ = κ' ∧ i = i'
theorem up3_s {α : Type} (f : Nat → Nat → Nat → α) (a b c : Nat) (v : α) : up3 f a b c v a b c = v := by simp [up3]
theorem up3_n {α : Type} (f : Nat → Nat → Nat → α) {a b c x y z : Nat} (v : α) (h : ¬ (x = a ∧ y = b ∧ z = c)) : up3 f a b c v x y z = f x y z := by simp [up3, h]
theorem pvE_obj {cy : Nat → ClassId} {ad : Nat → Nat → Nat} {σ : PvS} {κ i : Nat} (h : κ ≤ 9) : pvE cy ad σ κ i = .inr (κ + 1, (List.range (pvN κ)).map (fun k => pvF ad σ κ k i)) := if_pos h
theorem pv_set {α : Type} (n k : Nat) (g : Nat → α) (v : α) : ((List.range n).map g).set k v = (List.range n).map (fun j => if j = k then v else g j) := by
  apply List.ext_getElem?
  intro j
  rw [List.getElem?_set]
  simp only [List.length_map, List.length_range, List.getElem?_map]
  by_cases h : k = j
  · subst h
    by_cases hn : k < n
    · rw [List.getElem?_range hn]; simp [hn]
    · have : (List.range n)[k]? = none := by rw [List.getElem?_eq_none_iff]; simpa using hn
      rw [this]; simp [hn]
  · rw [if_neg h]
    cases hb : (List.range n)[j]? with
    | none => rfl
    | some b =>
      have hj : j < n := by
        have := (List.getElem?_eq_some_iff.mp hb).1
        simpa using this
      rw [List.getElem?_range hj] at hb
      cases hb
      simp [Ne.symm h]
theorem pvF_I {ad : Nat → Nat → Nat} {σ : PvS} {κ k i : Nat} (h : (pvc κ k).1 = 0) : pvF ad σ κ k i = .int (σ.2.1 κ k i) := by
  unfold pvF
  generalize pvc κ k = q at h ⊢
  obtain ⟨a, b, d⟩ := q
  simp only at h
  subst h
  rfl
theorem pvF_R {ad : Nat → Nat → Nat} {σ : PvS} {κ k i : Nat} (h : (pvc κ k).1 = 3) : pvF ad σ κ k i = va_rf ((σ.2.2.1 κ k i).map (ad 3)) := by
  unfold pvF
  generalize pvc κ k = q at h ⊢
  obtain ⟨a, b, d⟩ := q
  simp only at h
  subst h
  rfl
theorem pvF_upI {ad : Nat → Nat → Nat} {σ : PvS} {κ k i κ' k' i' : Nat} {v : Int32} (h : ¬ (κ' = κ ∧ k' = k ∧ i' = i)) : pvF ad (pvI σ κ k i v) κ' k' i' = pvF ad σ κ' k' i' := by
  unfold pvF
  have : (pvI σ κ k i v).2.1 κ' k' i' = σ.2.1 κ' k' i' := up3_n _ _ h
  rw [this]
  rfl
theorem pvF_upR {ad : Nat → Nat → Nat} {σ : PvS} {κ k i κ' k' i' : Nat} {v : Option Nat} (h : ¬ (κ' = κ ∧ k' = k ∧ i' = i)) : pvF ad (pvR σ κ k i v) κ' k' i' = pvF ad σ κ' k' i' := by
  unfold pvF
  have : (pvR σ κ k i v).2.2.1 κ' k' i' = σ.2.2.1 κ' k' i' := up3_n _ _ h
  rw [this]
  rfl
/-- a number is put into a field -/
theorem pvO_putI {cy : Nat → ClassId} {ad : Nat → Nat → Nat} {σ : PvS} {L : List Nat} {f : Nat → va_E} {κ k i : Nat} {v : Int32} (h : pvO cy ad σ L f) (hi : i < pvM σ κ) (hκ : κ ≤ 9) (hk : (pvc κ k).1 = 0) (hx : ¬ (κ = 3 ∧ k = 1)) :
    pvO cy ad (pvI σ κ k i v) L (va_up f (ad κ i) (.inr (κ + 1, ((List.range (pvN κ)).map (fun k => pvF ad σ κ k i)).set k (.int v)))) := by
  refine ⟨fun κ' i' h' => ⟨(h.1 κ' i' h').1, ?_⟩, h.2⟩
  by_cases hs : κ' = κ ∧ i' = i
  · obtain ⟨rfl, rfl⟩ := hs
    rw [va_up_self, pvE_obj hκ, pv_set]
    congr 2
    apply List.map_congr_left
    intro j _
    by_cases hj : j = k
    · subst hj
      rw [if_pos rfl, pvF_I hk]
      show _ = Value.int (up3 _ _ _ _ _ _ _ _)
      rw [up3_s]
    · rw [if_neg hj, pvF_upI (fun q => hj q.2.1)]
  · rw [va_up_ne _ _ (fun q => hs (by obtain ⟨a, b⟩ := h.2 _ _ _ _ h' hi q; exact ⟨a, b⟩)), (h.1 κ' i' h').2]
    unfold pvE
    split
    · congr 2
      apply List.map_congr_left
      intro j _
      exact (pvF_upI (fun q => hs ⟨q.1, q.2.2⟩)).symm
    · have hl : pvLen (pvI σ κ k i v) κ' i' = pvLen σ κ' i' := by
        unfold pvLen
        have : (pvI σ κ k i v).2.1 3 1 i' = σ.2.1 3 1 i' := up3_n _ _ (fun q => hx ⟨q.1.symm, q.2.1.symm⟩)
        have h51 : (pvI σ κ k i v).2.1 51 0 i' = σ.2.1 51 0 i' := up3_n _ _ (fun q => by omega)
        rw [this, h51]
      have hl51 : pvLen (pvI σ κ k i v) 51 i' = pvLen σ 51 i' := by
        unfold pvLen
        have : (pvI σ κ k i v).2.1 3 1 i' = σ.2.1 3 1 i' := up3_n _ _ (fun q => hx ⟨q.1.symm, q.2.1.symm⟩)
        have h51 : (pvI σ κ k i v).2.1 51 0 i' = σ.2.1 51 0 i' := up3_n _ _ (fun q => by omega)
        rw [this, h51]
      rw [hl, hl51]
      rfl
/-- a node is put into a field -/
theorem pvO_putR {cy : Nat → ClassId} {ad : Nat → Nat → Nat} {σ : PvS} {L : List Nat} {f : Nat → va_E} {κ k i : Nat} {v : Option Nat} (h : pvO cy ad σ L f) (hi : i < pvM σ κ) (hκ : κ ≤ 9) (hk : (pvc κ k).1 = 3) :
    pvO cy ad (pvR σ κ k i v) L (va_up f (ad κ i) (.inr (κ + 1, ((List.range (pvN κ)).map (fun k => pvF ad σ κ k i)).set k (va_rf (v.map (ad 3)))))) := by
  refine ⟨fun κ' i' h' => ⟨(h.1 κ' i' h').1, ?_⟩, h.2⟩
  by_cases hs : κ' = κ ∧ i' = i
  · obtain ⟨rfl, rfl⟩ := hs
    rw [va_up_self, pvE_obj hκ, pv_set]
    congr 2
    apply List.map_congr_left
    intro j _
    by_cases hj : j = k
    · subst hj
      rw [if_pos rfl, pvF_R hk]
      show _ = va_rf (Option.map _ (up3 _ _ _ _ _ _ _ _))
      rw [up3_s]
    · rw [if_neg hj, pvF_upR (fun q => hj q.2.1)]
  · rw [va_up_ne _ _ (fun q => hs (by obtain ⟨a, b⟩ := h.2 _ _ _ _ h' hi q; exact ⟨a, b⟩)), (h.1 κ' i' h').2]
    unfold pvE
    split
    · congr 2
      apply List.map_congr_left
      intro j _
      exact (pvF_upR (fun q => hs ⟨q.1, q.2.2⟩)).symm
    have hn : ∀ κ2 t, 9 < κ2 → (pvR σ κ k i v).2.2.1 κ2 t i' = σ.2.2.1 κ2 t i' := fun κ2 t h9 => up3_n _ _ (fun z => by omega)
    split
    · have : (fun t => ((pvR σ κ k i v).2.2.1 26 t i').map (ad 3)) = (fun t => (σ.2.2.1 26 t i').map (ad 3)) := by funext t; rw [hn 26 t (by decide)]
      rw [this]
    split
    · have : (fun t => ((pvR σ κ k i v).2.2.1 51 t i').map (ad 52)) = (fun t => (σ.2.2.1 51 t i').map (ad 52)) := by funext t; rw [hn 51 t (by decide)]
      rw [this]
      rfl
    · rfl
/-- a number is put into an array -/
theorem pvIA_of {κ : Nat} (h : pvIA κ = true) : 9 < κ ∧ κ ≠ 26 ∧ κ ≠ 34 ∧ κ ≠ 35 ∧ κ ≠ 51 := of_decide_eq_true h
theorem pvE_arr {cy : Nat → ClassId} {ad : Nat → Nat → Nat} {σ : PvS} {κ i : Nat} (h : pvIA κ = true) : pvE cy ad σ κ i = .inl (cy (if κ = 41 then 1 else 0), pvLen σ κ i, .inl (fun j => σ.2.2.2.1 κ i j)) := by
  obtain ⟨h9, h26, h34, h35, h51⟩ := pvIA_of h
  unfold pvE
  rw [if_neg (show ¬ κ ≤ 9 by omega), if_neg h26, if_neg h51, if_neg (show ¬ (κ = 34 ∨ κ = 35) by omega)]
theorem pvE_26 {cy : Nat → ClassId} {ad : Nat → Nat → Nat} {σ : PvS} {i : Nat} : pvE cy ad σ 26 i = .inl (cy 2, 800, .inr (.inr (.inr (.inr (fun j => (σ.2.2.1 26 j i).map (ad 3)))))) := rfl
theorem pvE_51 {cy : Nat → ClassId} {ad : Nat → Nat → Nat} {σ : PvS} {i : Nat} : pvE cy ad σ 51 i = .inl (cy 4, pvLen σ 51 i, .inr (.inr (.inr (.inr (fun j => (σ.2.2.1 51 j i).map (ad 52)))))) := rfl
theorem pvE_row {cy : Nat → ClassId} {ad : Nat → Nat → Nat} {σ : PvS} {κ i : Nat} (h : κ = 34 ∨ κ = 35) : pvE cy ad σ κ i = .inl (cy 4, 40, .inr (.inr (.inr (.inr (fun j => if j < 40 then some (ad (κ + 2) (40 * i + j)) else none))))) := by
  rcases h with rfl | rfl <;> rfl
theorem pvO_putA {cy : Nat → ClassId} {ad : Nat → Nat → Nat} {σ : PvS} {L : List Nat} {f : Nat → va_E} {κ i j : Nat} {v : Int32} (h : pvO cy ad σ L f) (hi : i < pvM σ κ) (hk : pvIA κ = true) :
    pvO cy ad (pvA σ κ i j v) L (va_up f (ad κ i) (.inl (cy (if κ = 41 then 1 else 0), pvLen σ κ i, .inl (upd (fun j => σ.2.2.2.1 κ i j) j v)))) := by
  refine ⟨fun κ' i' h' => ⟨(h.1 κ' i' h').1, ?_⟩, h.2⟩
  by_cases hs : κ' = κ ∧ i' = i
  · obtain ⟨rfl, rfl⟩ := hs
    rw [va_up_self, pvE_arr hk]
    have e1 : (fun q => (pvA σ κ' i' j v).2.2.2.1 κ' i' q) = upd (fun j => σ.2.2.2.1 κ' i' j) j v := by
      funext q
      show up3 _ _ _ _ _ _ _ _ = _
      unfold upd up3
      simp
    rw [e1]
    rfl
  · rw [va_up_ne _ _ (fun q => hs (by obtain ⟨a, b⟩ := h.2 _ _ _ _ h' hi q; exact ⟨a, b⟩)), (h.1 κ' i' h').2]
    unfold pvE
    split
    · rfl
    split
    · rfl
    split
    · rfl
    split
    · rfl
    have : (fun q => (pvA σ κ i j v).2.2.2.1 κ' i' q) = (fun q => σ.2.2.2.1 κ' i' q) := by
      funext q
      exact up3_n _ _ (fun z => hs ⟨z.1, z.2.1⟩)
    rw [this]
    rfl
/-- an object is put into an array of references: the texts that wait, the rows of the law's -/
theorem pvO_putQ {cy : Nat → ClassId} {ad : Nat → Nat → Nat} {σ : PvS} {L : List Nat} {f : Nat → va_E} {κ i j : Nat} {v : Option Nat} (h : pvO cy ad σ L f) (hi : i < pvM σ κ) (hk : κ = 26 ∨ κ = 51) :
    pvO cy ad (pvR σ κ j i v) L (va_up f (ad κ i) (.inl (cy (if κ = 51 then 4 else 2), (if κ = 51 then pvLen σ 51 i else 800), .inr (.inr (.inr (.inr (va_up (fun t => (σ.2.2.1 κ t i).map (ad (pvRk κ))) j (v.map (ad (pvRk κ)))))))))) := by
  refine ⟨fun κ' i' h' => ⟨(h.1 κ' i' h').1, ?_⟩, h.2⟩
  have e1 : ∀ t, (pvR σ κ j i v).2.2.1 κ t i = va_up (fun t => σ.2.2.1 κ t i) j v t := by
    intro t
    show up3 _ _ _ _ _ _ _ _ = _
    unfold up3 va_up
    simp
  have e2 : (fun t => ((pvR σ κ j i v).2.2.1 κ t i).map (ad (pvRk κ))) = va_up (fun t => (σ.2.2.1 κ t i).map (ad (pvRk κ))) j (v.map (ad (pvRk κ))) := by
    funext t
    rw [e1 t]
    unfold va_up
    split <;> rfl
  by_cases hs : κ' = κ ∧ i' = i
  · obtain ⟨rfl, rfl⟩ := hs
    rw [va_up_self]
    rcases hk with rfl | rfl
    · rw [pvE_26]; rw [← show _ = _ from e2]; rfl
    · rw [pvE_51]; rw [← show _ = _ from e2]; rfl
  · rw [va_up_ne _ _ (fun q => hs (by obtain ⟨a, b⟩ := h.2 _ _ _ _ h' hi q; exact ⟨a, b⟩)), (h.1 κ' i' h').2]
    have hn : ∀ κ2 t, (κ2 = κ' ∨ κ2 ≤ 9) → (pvR σ κ j i v).2.2.1 κ2 t i' = σ.2.2.1 κ2 t i' := fun κ2 t h9 => up3_n _ _ (fun z => by
      rcases h9 with h9 | h9
      · exact hs ⟨by rw [← h9]; exact z.1, z.2.2⟩
      · rcases hk with e | e <;> omega)
    unfold pvE
    split
    · congr 2
      apply List.map_congr_left
      intro k _
      unfold pvF
      rw [hn κ' k (Or.inl rfl)]
      rfl
    split
    · rename_i z1 z2
      subst z2
      have : (fun t => ((pvR σ κ j i v).2.2.1 26 t i').map (ad 3)) = (fun t => (σ.2.2.1 26 t i').map (ad 3)) := by funext t; rw [hn 26 t (Or.inl rfl)]
      rw [this]
    split
    · rename_i z1 z2 z3
      subst z3
      have : (fun t => ((pvR σ κ j i v).2.2.1 51 t i').map (ad 52)) = (fun t => (σ.2.2.1 51 t i').map (ad 52)) := by funext t; rw [hn 51 t (Or.inl rfl)]
      rw [this]
      rfl
    · rfl
/-- a list is changed -/
theorem pvO_putL {cy : Nat → ClassId} {ad : Nat → Nat → Nat} {σ : PvS} {L : List Nat} {f : Nat → va_E} {j : Nat} {v : List Nat} (h : pvO cy ad σ L f) : pvO cy ad (pvL σ j v) L f := h
/-- what is so of counts -/
theorem pvM_c {σ τ : PvS} (h : τ.1 = σ.1) (κ : Nat) : pvM τ κ = pvM σ κ := by unfold pvM; rw [h]
theorem lt_c {σ τ : PvS} {i : Nat} (h : τ.1 = σ.1) (κ : Nat) (hi : i < pvM σ κ) : i < pvM τ κ := by rw [pvM_c h]; exact hi
theorem lt_l {σ τ : PvS} {j : Nat} (h : τ.1 = σ.1) (hj : j < σ.1 0 + 3) : j < τ.1 0 + 3 := by rw [h]; exact hj
/-- all that references say is there -/
def pvCl (σ : PvS) : Prop := 0 < σ.1 0 ∧ ∀ κ k i j, σ.2.2.1 κ k i = some j → j < pvM σ (pvRk κ)
theorem pvCl_c {σ τ : PvS} (h : pvCl σ) (h1 : τ.1 = σ.1) (h2 : τ.2.2.1 = σ.2.2.1) : pvCl τ := ⟨by rw [h1]; exact h.1, fun κ k i j q => by rw [pvM_c h1]; exact h.2 κ k i j (by rw [← h2]; exact q)⟩
theorem pvCl_R {σ : PvS} {κ k i : Nat} {v : Option Nat} (h : pvCl σ) (hv : ∀ j, v = some j → j < pvM σ (pvRk κ)) : pvCl (pvR σ κ k i v) := by
  refine ⟨h.1, fun κ' k' i' j q => ?_⟩
  by_cases hs : κ' = κ ∧ k' = k ∧ i' = i
  · obtain ⟨rfl, rfl, rfl⟩ := hs
    rw [show (pvR σ κ' k' i' v).2.2.1 κ' k' i' = v from up3_s _ _ _ _ _] at q
    exact hv j q
  · rw [show (pvR σ κ k i v).2.2.1 κ' k' i' = σ.2.2.1 κ' k' i' from up3_n _ _ hs] at q
    exact h.2 κ' k' i' j q
theorem pvI_1 (σ : PvS) (κ k i : Nat) (v : Int32) : (pvI σ κ k i v).1 = σ.1 := rfl
theorem pvI_R (σ : PvS) (κ k i : Nat) (v : Int32) : (pvI σ κ k i v).2.2.1 = σ.2.2.1 := rfl
theorem pvI_A (σ : PvS) (κ k i : Nat) (v : Int32) : (pvI σ κ k i v).2.2.2.1 = σ.2.2.2.1 := rfl
theorem pvI_L (σ : PvS) (κ k i : Nat) (v : Int32) : (pvI σ κ k i v).2.2.2.2 = σ.2.2.2.2 := rfl
theorem pvA_1 (σ : PvS) (κ i j : Nat) (v : Int32) : (pvA σ κ i j v).1 = σ.1 := rfl
theorem pvA_I (σ : PvS) (κ i j : Nat) (v : Int32) : (pvA σ κ i j v).2.1 = σ.2.1 := rfl
theorem pvA_R (σ : PvS) (κ i j : Nat) (v : Int32) : (pvA σ κ i j v).2.2.1 = σ.2.2.1 := rfl
theorem pvA_L (σ : PvS) (κ i j : Nat) (v : Int32) : (pvA σ κ i j v).2.2.2.2 = σ.2.2.2.2 := rfl
theorem pvR_1 (σ : PvS) (κ k i : Nat) (v : Option Nat) : (pvR σ κ k i v).1 = σ.1 := rfl
theorem pvR_I (σ : PvS) (κ k i : Nat) (v : Option Nat) : (pvR σ κ k i v).2.1 = σ.2.1 := rfl
theorem pvR_A (σ : PvS) (κ k i : Nat) (v : Option Nat) : (pvR σ κ k i v).2.2.2.1 = σ.2.2.2.1 := rfl
theorem pvR_L (σ : PvS) (κ k i : Nat) (v : Option Nat) : (pvR σ κ k i v).2.2.2.2 = σ.2.2.2.2 := rfl
theorem pvL_1 (σ : PvS) (j : Nat) (v : List Nat) : (pvL σ j v).1 = σ.1 := rfl
theorem pvL_I (σ : PvS) (j : Nat) (v : List Nat) : (pvL σ j v).2.1 = σ.2.1 := rfl
theorem pvL_R (σ : PvS) (j : Nat) (v : List Nat) : (pvL σ j v).2.2.1 = σ.2.2.1 := rfl
theorem pvL_A (σ : PvS) (j : Nat) (v : List Nat) : (pvL σ j v).2.2.2.1 = σ.2.2.2.1 := rfl
theorem pvI_at (σ : PvS) (κ k i κ' k' i' : Nat) (v : Int32) : (pvI σ κ k i v).2.1 κ' k' i' = if κ' = κ ∧ k' = k ∧ i' = i then v else σ.2.1 κ' k' i' := rfl
theorem pvA_at (σ : PvS) (κ i j κ' i' j' : Nat) (v : Int32) : (pvA σ κ i j v).2.2.2.1 κ' i' j' = if κ' = κ ∧ i' = i ∧ j' = j then v else σ.2.2.2.1 κ' i' j' := rfl
theorem pvR_at (σ : PvS) (κ k i κ' k' i' : Nat) (v : Option Nat) : (pvR σ κ k i v).2.2.1 κ' k' i' = if κ' = κ ∧ k' = k ∧ i' = i then v else σ.2.2.1 κ' k' i' := rfl
theorem pvL_at (σ : PvS) (j j' : Nat) (v : List Nat) : (pvL σ j v).2.2.2.2 j' = if j' = j then v else σ.2.2.2.2 j' := rfl
end
section
/-! ROWS over the pool of objects -/
/-- array classes, class tables, addresses, the shared empty array, which addresses are ours (all that are free are) -/
abbrev PvG : Type := (Nat → ClassId) × va_G × (Nat → Nat → Nat) × ((Nat → Nat) × (Nat → Int32)) × (Nat → Prop)
/-- of which kind a list's elements are: list 2 is that of the rules -/
def pvK (j : Nat) : Nat := if j = 2 then 5 else 3
/-- the lists: 0 all nodes, 1 the order, 2 the rules, i + 3 the children of node i -/
def pvLl (cy : Nat → ClassId) (ad : Nat → Nat → Nat) (d0 : Nat) (σ : PvS) (L : List Nat) (f : Nat → va_E) : Prop :=
  ∃ ba : Nat → Nat, ∀ j, j < σ.1 0 + 3 →
    (ad 10 j ∈ L ∧ (∀ κ i, i < pvM σ κ → ad κ i ≠ ad 10 j) ∧ (∀ j', j' < σ.1 0 + 3 → ad 10 j' = ad 10 j → j' = j) ∧ (σ.2.2.2.2 j).length ≤ 64 ∧ (∀ x ∈ σ.2.2.2.2 j, x < pvM σ (pvK j))) ∧
    (∃ mc : Int32, f (ad 10 j) = .inr (0, [.int mc, .ref (ba j), .int (nI (σ.2.2.2.2 j).length)])) ∧
    ((σ.2.2.2.2 j = [] ∧ ba j = d0) ∨ ∃ cap : Nat, ba j ∈ L ∧ (∀ κ i, i < pvM σ κ → ad κ i ≠ ba j) ∧ (∀ j', j' < σ.1 0 + 3 → ad 10 j' ≠ ba j) ∧ (∀ j', j' < σ.1 0 + 3 → ba j' = ba j → j' = j) ∧ (σ.2.2.2.2 j).length ≤ cap ∧ (0 < cap ∧ cap ≤ 1000) ∧
      f (ba j) = .inl (cy 3, cap, .inr (.inr (.inr (.inr (fun t => ((σ.2.2.2.2 j)[t]?).map (ad (pvK j))))))))
/-- the world: all objects of the system, as the state has them -/
def pvW (G : PvG) (σ : PvS) (H : Heap) : Prop := ∃ (L : List Nat) (f : Nat → va_E), pvO G.1 G.2.2.1 σ L f ∧ pvLl G.1 G.2.2.1 (G.2.2.2.1.1 0) σ L f ∧ va_P G.2.1 pvC (va_pl L f) H ∧ va_D (fun q => G.2.2.2.2 q) (va_pl L f) ∧ ¬ G.2.2.2.2 (G.2.2.2.1.1 0) ∧ pvCl σ
theorem pvLl_put {cy : Nat → ClassId} {ad : Nat → Nat → Nat} {d0 : Nat} {σ σ' : PvS} {L : List Nat} {f : Nat → va_E} {κ i : Nat} {en : va_E} (h : pvLl cy ad d0 σ L f) (hi : i < pvM σ κ) (h1 : σ'.1 = σ.1) (h2 : σ'.2.2.2.2 = σ.2.2.2.2) : pvLl cy ad d0 σ' L (va_up f (ad κ i) en) := by
  have hM : ∀ κ, pvM σ' κ = pvM σ κ := fun κ => by unfold pvM; rw [h1]
  obtain ⟨ba, h⟩ := h
  refine ⟨ba, fun j hj => ?_⟩
  rw [h1] at hj
  obtain ⟨⟨a1, a2, a3, a4, a5⟩, ⟨mc, b⟩, c⟩ := h j hj
  rw [h1, h2]
  simp only [hM]
  refine ⟨⟨a1, a2, a3, a4, a5⟩, ⟨mc, ?_⟩, ?_⟩
  · rw [va_up_ne _ _ (fun q => a2 κ i hi q.symm)]
    exact b
  · rcases c with c | ⟨cap, c1, c2, c3, c4, c5, c6, c7⟩
    · exact Or.inl c
    · exact Or.inr ⟨cap, c1, c2, c3, c4, c5, c6, by rw [va_up_ne _ _ (fun q => c2 κ i hi q.symm)]; exact c7⟩
/-- the array classes: of numbers, of booleans, of nodes, of objects, of arrays of numbers -/
abbrev pvT (G : PvG) : List (ClassId × FieldType) := [(G.1 0, .int), (G.1 1, .boolean), (G.1 2, .object "PinnaceView$Node"), (G.1 3, .object "java/lang/Object"), (G.1 4, .array .int)]
section PVR
variable {p : Program} {l : Launch} {e : Env} {R : Room} {s : State} {m : MethodId} {args : Array Value} {below : List Frame} {meth : Method} {c : Code} {H : Heap} {locs : List Loc} {cells slots : Nat} {Q : State → Prop}
variable {cc : ByteArray} {pc : Nat} {ls : Array Slot} {rest : List Value} {tys : List (ClassId × FieldType)} {H0 : Heap} {G : PvG} {σ : PvS} {own ref C : String} {T : u_T} {N index : Nat} {Ts : List Cond}
/-- a row of an array of arrays is read -/
theorem va_aldqA {D : va_G} {cl : List vw_C} {ws : va_W} {a : Nat} (hexec : p.tables.exec = Jvm.exec) (hb : c.code = cc) (hK : va_K D cl tys s) (hP : va_P D cl ws H) (q0 t0 : Nat) {cA : ClassId} {ty : FieldType} {n : Nat} {f : Nat → Option Nat} (ha : ws[q0]? = some (a, .inl (cA, n, .inr (.inr (.inr (.inr f)))))) (ht : tys[t0]? = some (cA, .array ty)) {i : Int32} (hin : vp_in i n) (hdg : decode cc pc = .ok (.aaload, 1))
  (kk : W p l e R s m args below meth c H locs cells slots Q (F0 m (pc + 1) ls (va_rf (f i.toNatClampNeg) :: rest))) : W p l e R s m args below meth c H locs cells slots Q (F0 m pc ls (.int i :: .ref a :: rest)) := by
  have hlt : i.toNatClampNeg < n := Nat.not_le.mp fun q => hin (Or.inr q)
  exact W.aald (v := va_rf (f i.toNatClampNeg)) (ty := .array ty) hexec hb (hP q0 _ ha) ((hK.2 t0 _ ht).1 n (fun j => va_rf (f j))) rfl (fun q => by cases q) (by show ¬ (i < 0 ∨ (arrV _ _ _).slots.size ≤ _); rw [arrV_size]; exact hin) (by show (arrV _ _ _).slots[_]? = _; rw [arrV_read _ _ hlt]) rfl rfl hdg kk
theorem pv_range {α : Type} {n k : Nat} {g : Nat → α} (h : k < n) : ((List.range n).map g)[k]? = some (g k) := by
  rw [List.getElem?_map, List.getElem?_range h]
  rfl
theorem pv_cl (hw : pvW G σ H) {κ k i : Nat} {o : Option Nat} (ho : o = σ.2.2.1 κ k i) : ∀ j, o = some j → j < pvM σ (pvRk κ) := by
  obtain ⟨L, f, hO, hL, hP, hD, hz, hC⟩ := hw
  exact fun j q => hC.2 κ k i j (by rw [← ho]; exact q)
theorem pv_root (hw : pvW G σ H) : 0 < pvM σ 3 := by
  obtain ⟨L, f, hO, hL, hP, hD, hz, hC⟩ := hw
  exact hC.1
/-- a field is read -/
theorem pg (hx : p.tables.exec = Jvm.exec) (hb : c.code = cc) (hts : ∀ w ∈ Ts, w.before args s = true) (hown : s.vm.findClass own = some m.cls) (hK : va_K G.2.1 pvC tys s) (hw : pvW G σ H) (κ k i : Nat) (hi : i < pvM σ κ) (hκ : κ ≤ 9) (hc : pvC[κ + 1]? = some (C, T, N)) (hN : pvN κ = N) (hin : ∀ w ∈ u_ws C T N, w ∈ Ts) (hk : k < N) (hlink : (Cond.fieldLink own index ref (T k).2.1 (T k).2.2.1).before args s = true) (hsame : ∀ x, s.fieldFound? (T k).1 (T k).2.1 (T k).2.2.1 = some x → s.fieldFound? ref (T k).2.1 (T k).2.2.1 = some x) (hdg : decode cc pc = .ok (.getfield index, 3))
    (kk : W p l e R s m args below meth c H locs cells slots Q (F0 m (pc + 3) ls (pvF G.2.2.1 σ κ k i :: rest))) : W p l e R s m args below meth c H locs cells slots Q (F0 m pc ls (.ref (G.2.2.1 κ i) :: rest)) := by
  obtain ⟨L, f, hO, hL, hP, hD, hz⟩ := hw
  obtain ⟨ha, he⟩ := hO.1 κ i hi
  obtain ⟨q0, hq⟩ := va_pl_get (X := []) (f := f) ha
  refine va_get (D := G.2.1) (ci := κ + 1) (fs := (List.range (pvN κ)).map (fun k => pvF G.2.2.1 σ κ k i)) hx hb hts hin hown hK hP q0 (by rw [pvE_obj hκ] at he; rw [← he]; exact hq) hc k hk hlink hsame (pv_range (by rw [hN]; exact hk)) hdg kk
/-- a number's field is read -/
theorem pgI (hx : p.tables.exec = Jvm.exec) (hb : c.code = cc) (hts : ∀ w ∈ Ts, w.before args s = true) (hown : s.vm.findClass own = some m.cls) (hK : va_K G.2.1 pvC tys s) (hw : pvW G σ H) (κ k i : Nat) (hi : i < pvM σ κ) (hκ : κ ≤ 9) (hc : pvC[κ + 1]? = some (C, T, N)) (hN : pvN κ = N) (hin : ∀ w ∈ u_ws C T N, w ∈ Ts) (hk : k < N) (hf : (pvc κ k).1 = 0) (hlink : (Cond.fieldLink own index ref (T k).2.1 (T k).2.2.1).before args s = true) (hsame : ∀ x, s.fieldFound? (T k).1 (T k).2.1 (T k).2.2.1 = some x → s.fieldFound? ref (T k).2.1 (T k).2.2.1 = some x) (hdg : decode cc pc = .ok (.getfield index, 3))
    (kk : W p l e R s m args below meth c H locs cells slots Q (F0 m (pc + 3) ls (.int (σ.2.1 κ k i) :: rest))) : W p l e R s m args below meth c H locs cells slots Q (F0 m pc ls (.ref (G.2.2.1 κ i) :: rest)) :=
  pg hx hb hts hown hK hw κ k i hi hκ hc hN hin hk hlink hsame hdg (by rw [pvF_I hf]; exact kk)
/-- a field that may be null is read -/
theorem pgR (hx : p.tables.exec = Jvm.exec) (hb : c.code = cc) (hts : ∀ w ∈ Ts, w.before args s = true) (hown : s.vm.findClass own = some m.cls) (hK : va_K G.2.1 pvC tys s) (hw : pvW G σ H) (κ k i : Nat) (hi : i < pvM σ κ) (hκ : κ ≤ 9) (hc : pvC[κ + 1]? = some (C, T, N)) (hN : pvN κ = N) (hin : ∀ w ∈ u_ws C T N, w ∈ Ts) (hk : k < N) (hf : (pvc κ k).1 = 3) (o : Option Nat) (ho : o = σ.2.2.1 κ k i) (hlink : (Cond.fieldLink own index ref (T k).2.1 (T k).2.2.1).before args s = true) (hsame : ∀ x, s.fieldFound? (T k).1 (T k).2.1 (T k).2.2.1 = some x → s.fieldFound? ref (T k).2.1 (T k).2.2.1 = some x) (hdg : decode cc pc = .ok (.getfield index, 3))
    (kk : W p l e R s m args below meth c H locs cells slots Q (F0 m (pc + 3) ls (va_rf (o.map (G.2.2.1 3)) :: rest))) : W p l e R s m args below meth c H locs cells slots Q (F0 m pc ls (.ref (G.2.2.1 κ i) :: rest)) := by
  subst ho
  exact pg hx hb hts hown hK hw κ k i hi hκ hc hN hin hk hlink hsame hdg (by rw [pvF_R hf]; exact kk)
/-- a field that always holds the same object is read -/
theorem pgL (hx : p.tables.exec = Jvm.exec) (hb : c.code = cc) (hts : ∀ w ∈ Ts, w.before args s = true) (hown : s.vm.findClass own = some m.cls) (hK : va_K G.2.1 pvC tys s) (hw : pvW G σ H) (κ k i : Nat) (hi : i < pvM σ κ) (hκ : κ ≤ 9) (hc : pvC[κ + 1]? = some (C, T, N)) (hN : pvN κ = N) (hin : ∀ w ∈ u_ws C T N, w ∈ Ts) (hk : k < N) {v : Value} (hf : pvF G.2.2.1 σ κ k i = v) (hlink : (Cond.fieldLink own index ref (T k).2.1 (T k).2.2.1).before args s = true) (hsame : ∀ x, s.fieldFound? (T k).1 (T k).2.1 (T k).2.2.1 = some x → s.fieldFound? ref (T k).2.1 (T k).2.2.1 = some x) (hdg : decode cc pc = .ok (.getfield index, 3))
    (kk : W p l e R s m args below meth c H locs cells slots Q (F0 m (pc + 3) ls (v :: rest))) : W p l e R s m args below meth c H locs cells slots Q (F0 m pc ls (.ref (G.2.2.1 κ i) :: rest)) :=
  pg hx hb hts hown hK hw κ k i hi hκ hc hN hin hk hlink hsame hdg (by rw [hf]; exact kk)
/-- a number is put into a field -/
theorem ppI (hx : p.tables.exec = Jvm.exec) (hb : c.code = cc) (hts : ∀ w ∈ Ts, w.before args s = true) (hown : s.vm.findClass own = some m.cls) (hK : va_K G.2.1 pvC tys s) (hw : pvW G σ H) (hS : va_S (fun q => G.2.2.2.2 q) H0 H locs) (κ k i : Nat) (hi : i < pvM σ κ) (hκ : κ ≤ 9) (hc : pvC[κ + 1]? = some (C, T, N)) (hN : pvN κ = N) (hin : ∀ w ∈ u_ws C T N, w ∈ Ts) (hk : k < N) (hf : (pvc κ k).1 = 0) (hxf : ¬ (κ = 3 ∧ k = 1)) {ty : FieldType} {ty0 : Nat → FieldType} (hty : ∀ k, k < N → parseFieldDescriptor (T k).2.2.1 = some (ty0 k)) (hnm : ∀ a, a < N → ∀ b, b < N → a ≠ b → (T a).2.1 ≠ (T b).2.1) (hlink : (Cond.fieldLink own index ref (T k).2.1 (T k).2.2.1).before args s = true) (hsame : ∀ x, s.fieldFound? (T k).1 (T k).2.1 (T k).2.2.1 = some x → s.fieldFound? ref (T k).2.1 (T k).2.2.1 = some x) (hfin : (T k).2.2.2 = false) (hd : parseFieldDescriptor (T k).2.2.1 = some ty) {v : Int32} (hn : narrow ty (.int v) = .int v) (hfit : fits ty (.int v) = true) (hdg : decode cc pc = .ok (.putfield index, 3))
    (kk : ∀ (H1 : Heap) (locs1 : List Loc), pvW G (pvI σ κ k i v) H1 → va_S (fun q => G.2.2.2.2 q) H0 H1 locs1 → W p l e R s m args below meth c H1 locs1 cells slots Q (F0 m (pc + 3) ls rest)) : W p l e R s m args below meth c H locs cells slots Q (F0 m pc ls (.int v :: .ref (G.2.2.1 κ i) :: rest)) := by
  obtain ⟨L, f, hO, hL, hP, hD, hd0, hC⟩ := hw
  obtain ⟨ha, he⟩ := hO.1 κ i hi
  obtain ⟨q0, hq⟩ := va_pl_get (X := []) (f := f) ha
  have hq : (va_pl L f)[q0]? = some (G.2.2.1 κ i, f (G.2.2.1 κ i)) := hq
  refine va_put (D := G.2.1) (ci := κ + 1) (fs := (List.range (pvN κ)).map (fun k => pvF G.2.2.1 σ κ k i)) hx hb hts hin ty0 hty hnm hown hK hP hD hS q0 (by rw [pvE_obj hκ] at he; rw [← he]; exact hq) hc k hk hlink hsame hfin hd hn hfit (by rw [List.length_map, List.length_range, hN]; exact hk) hdg fun H1 locs1 hP1 hD1 hS1 => ?_
  have hset := va_pl_set (X := []) (e := .inr (κ + 1, ((List.range (pvN κ)).map (fun k => pvF G.2.2.1 σ κ k i)).set k (.int v))) hD ha hq
  have hP2 : va_P G.2.1 pvC ([] ++ va_pl L (va_up f (G.2.2.1 κ i) (.inr (κ + 1, ((List.range (pvN κ)).map (fun k => pvF G.2.2.1 σ κ k i)).set k (.int v))))) H1 := by rw [← hset]; exact hP1
  have hD2 : va_D (fun q => G.2.2.2.2 q) ([] ++ va_pl L (va_up f (G.2.2.1 κ i) (.inr (κ + 1, ((List.range (pvN κ)).map (fun k => pvF G.2.2.1 σ κ k i)).set k (.int v))))) := by rw [← hset]; exact hD1
  exact kk H1 locs1 ⟨L, _, pvO_putI hO hi hκ hf hxf, pvLl_put hL hi rfl rfl, hP2, hD2, hd0, pvCl_c hC rfl rfl⟩ hS1
/-- an object or null is put into a field -/
theorem ppR (hx : p.tables.exec = Jvm.exec) (hb : c.code = cc) (hts : ∀ w ∈ Ts, w.before args s = true) (hown : s.vm.findClass own = some m.cls) (hK : va_K G.2.1 pvC tys s) (hw : pvW G σ H) (hS : va_S (fun q => G.2.2.2.2 q) H0 H locs) (κ k i : Nat) (hi : i < pvM σ κ) (hκ : κ ≤ 9) (hc : pvC[κ + 1]? = some (C, T, N)) (hN : pvN κ = N) (hin : ∀ w ∈ u_ws C T N, w ∈ Ts) (hk : k < N) (hf : (pvc κ k).1 = 3) {ty : FieldType} {ty0 : Nat → FieldType} (hty : ∀ k, k < N → parseFieldDescriptor (T k).2.2.1 = some (ty0 k)) (hnm : ∀ a, a < N → ∀ b, b < N → a ≠ b → (T a).2.1 ≠ (T b).2.1) (hlink : (Cond.fieldLink own index ref (T k).2.1 (T k).2.2.1).before args s = true) (hsame : ∀ x, s.fieldFound? (T k).1 (T k).2.1 (T k).2.2.1 = some x → s.fieldFound? ref (T k).2.1 (T k).2.2.1 = some x) (hfin : (T k).2.2.2 = false) (hd : parseFieldDescriptor (T k).2.2.1 = some ty) {v : Option Nat} (hv : ∀ j, v = some j → j < pvM σ (pvRk κ)) (hn : narrow ty (va_rf (v.map (G.2.2.1 3))) = va_rf (v.map (G.2.2.1 3))) (hfit : fits ty (va_rf (v.map (G.2.2.1 3))) = true) (hdg : decode cc pc = .ok (.putfield index, 3))
    (kk : ∀ (H1 : Heap) (locs1 : List Loc), pvW G (pvR σ κ k i v) H1 → va_S (fun q => G.2.2.2.2 q) H0 H1 locs1 → W p l e R s m args below meth c H1 locs1 cells slots Q (F0 m (pc + 3) ls rest)) : W p l e R s m args below meth c H locs cells slots Q (F0 m pc ls (va_rf (v.map (G.2.2.1 3)) :: .ref (G.2.2.1 κ i) :: rest)) := by
  obtain ⟨L, f, hO, hL, hP, hD, hd0, hC⟩ := hw
  obtain ⟨ha, he⟩ := hO.1 κ i hi
  obtain ⟨q0, hq⟩ := va_pl_get (X := []) (f := f) ha
  have hq : (va_pl L f)[q0]? = some (G.2.2.1 κ i, f (G.2.2.1 κ i)) := hq
  refine va_put (D := G.2.1) (ci := κ + 1) (fs := (List.range (pvN κ)).map (fun k => pvF G.2.2.1 σ κ k i)) hx hb hts hin ty0 hty hnm hown hK hP hD hS q0 (by rw [pvE_obj hκ] at he; rw [← he]; exact hq) hc k hk hlink hsame hfin hd hn hfit (by rw [List.length_map, List.length_range, hN]; exact hk) hdg fun H1 locs1 hP1 hD1 hS1 => ?_
  have hset := va_pl_set (X := []) (e := .inr (κ + 1, ((List.range (pvN κ)).map (fun k => pvF G.2.2.1 σ κ k i)).set k (va_rf (v.map (G.2.2.1 3))))) hD ha hq
  have hP2 : va_P G.2.1 pvC ([] ++ va_pl L (va_up f (G.2.2.1 κ i) (.inr (κ + 1, ((List.range (pvN κ)).map (fun k => pvF G.2.2.1 σ κ k i)).set k (va_rf (v.map (G.2.2.1 3))))))) H1 := by rw [← hset]; exact hP1
  have hD2 : va_D (fun q => G.2.2.2.2 q) ([] ++ va_pl L (va_up f (G.2.2.1 κ i) (.inr (κ + 1, ((List.range (pvN κ)).map (fun k => pvF G.2.2.1 σ κ k i)).set k (va_rf (v.map (G.2.2.1 3))))))) := by rw [← hset]; exact hD1
  exact kk H1 locs1 ⟨L, _, pvO_putR hO hi hκ hf, pvLl_put hL hi rfl rfl, hP2, hD2, hd0, pvCl_R hC hv⟩ hS1
/-- an array of numbers is read -/
theorem pgA (hx : p.tables.exec = Jvm.exec) (hb : c.code = cc) (hK : va_K G.2.1 pvC tys s) (htys : tys = pvT G) (hw : pvW G σ H) (κ j : Nat) (hj : j < pvM σ κ) (hk : pvIA κ = true) (h41 : κ ≠ 41) {i : Int32} (hin : vp_in i (pvLen σ κ j)) (hdg : decode cc pc = .ok (.iaload, 1))
    (kk : W p l e R s m args below meth c H locs cells slots Q (F0 m (pc + 1) ls (.int (σ.2.2.2.1 κ j i.toNatClampNeg) :: rest))) : W p l e R s m args below meth c H locs cells slots Q (F0 m pc ls (.int i :: .ref (G.2.2.1 κ j) :: rest)) := by
  obtain ⟨L, f, hO, hL, hP, hD, hd0, hC⟩ := hw
  obtain ⟨ha, he⟩ := hO.1 κ j hj
  obtain ⟨q0, hq⟩ := va_pl_get (X := []) (f := f) ha
  have hq : (va_pl L f)[q0]? = some (G.2.2.1 κ j, f (G.2.2.1 κ j)) := hq
  rw [pvE_arr hk, if_neg h41] at he
  subst htys
  exact va_iald (D := G.2.1) (f := fun t => σ.2.2.2.1 κ j t) hx hb hK hP q0 0 (by rw [← he]; exact hq) rfl hin hdg kk
/-- a number is put into an array of numbers -/
theorem ppA (hx : p.tables.exec = Jvm.exec) (hb : c.code = cc) (hK : va_K G.2.1 pvC tys s) (htys : tys = pvT G) (hw : pvW G σ H) (hS : va_S (fun q => G.2.2.2.2 q) H0 H locs) (κ j : Nat) (hj : j < pvM σ κ) (hk : pvIA κ = true) (h41 : κ ≠ 41) {i v : Int32} (hin : vp_in i (pvLen σ κ j)) (hdg : decode cc pc = .ok (.iastore, 1))
    (kk : ∀ (H1 : Heap) (locs1 : List Loc), pvW G (pvA σ κ j i.toNatClampNeg v) H1 → va_S (fun q => G.2.2.2.2 q) H0 H1 locs1 → W p l e R s m args below meth c H1 locs1 cells slots Q (F0 m (pc + 1) ls rest)) : W p l e R s m args below meth c H locs cells slots Q (F0 m pc ls (.int v :: .int i :: .ref (G.2.2.1 κ j) :: rest)) := by
  obtain ⟨L, f, hO, hL, hP, hD, hd0, hC⟩ := hw
  obtain ⟨ha, he⟩ := hO.1 κ j hj
  obtain ⟨q0, hq⟩ := va_pl_get (X := []) (f := f) ha
  have hq : (va_pl L f)[q0]? = some (G.2.2.1 κ j, f (G.2.2.1 κ j)) := hq
  have hput := pvO_putA (j := i.toNatClampNeg) (v := v) hO hj hk
  rw [if_neg h41] at hput
  rw [pvE_arr hk, if_neg h41] at he
  subst htys
  refine va_iast (D := G.2.1) (f := fun t => σ.2.2.2.1 κ j t) hx hb hK hP hD hS q0 0 (by rw [← he]; exact hq) rfl hin hdg fun H1 locs1 hP1 hD1 hS1 => ?_
  have hset := va_pl_set (X := []) (e := .inl (G.1 0, pvLen σ κ j, .inl (upd (fun t => σ.2.2.2.1 κ j t) i.toNatClampNeg v))) hD ha hq
  have hP2 : va_P G.2.1 pvC ([] ++ va_pl L (va_up f (G.2.2.1 κ j) (.inl (G.1 0, pvLen σ κ j, .inl (upd (fun t => σ.2.2.2.1 κ j t) i.toNatClampNeg v))))) H1 := by rw [← hset]; exact hP1
  have hD2 : va_D (fun q => G.2.2.2.2 q) ([] ++ va_pl L (va_up f (G.2.2.1 κ j) (.inl (G.1 0, pvLen σ κ j, .inl (upd (fun t => σ.2.2.2.1 κ j t) i.toNatClampNeg v))))) := by rw [← hset]; exact hD1
  exact kk H1 locs1 ⟨L, _, hput, pvLl_put hL hj rfl rfl, hP2, hD2, hd0, pvCl_c hC rfl rfl⟩ hS1
/-- an array of booleans is read -/
theorem pgZ (hx : p.tables.exec = Jvm.exec) (hb : c.code = cc) (hK : va_K G.2.1 pvC tys s) (htys : tys = pvT G) (hw : pvW G σ H) (j : Nat) (hj : j < pvM σ 41) {i : Int32} (hin : vp_in i 3) (hdg : decode cc pc = .ok (.baload, 1))
    (kk : W p l e R s m args below meth c H locs cells slots Q (F0 m (pc + 1) ls (.int (σ.2.2.2.1 41 j i.toNatClampNeg) :: rest))) : W p l e R s m args below meth c H locs cells slots Q (F0 m pc ls (.int i :: .ref (G.2.2.1 41 j) :: rest)) := by
  obtain ⟨L, f, hO, hL, hP, hD, hd0, hC⟩ := hw
  obtain ⟨ha, he⟩ := hO.1 41 j hj
  obtain ⟨q0, hq⟩ := va_pl_get (X := []) (f := f) ha
  have hq : (va_pl L f)[q0]? = some (G.2.2.1 41 j, f (G.2.2.1 41 j)) := hq
  subst htys
  exact va_zald (D := G.2.1) (f := fun t => σ.2.2.2.1 41 j t) (n := 3) hx hb hK hP q0 1 (by rw [he] at hq; exact hq) rfl hin hdg kk
/-- a boolean is put into an array of booleans -/
theorem ppZ (hx : p.tables.exec = Jvm.exec) (hb : c.code = cc) (hK : va_K G.2.1 pvC tys s) (htys : tys = pvT G) (hw : pvW G σ H) (hS : va_S (fun q => G.2.2.2.2 q) H0 H locs) (j : Nat) (hj : j < pvM σ 41) {i v : Int32} (hin : vp_in i 3) (hn : vp_nar .boolean v = v) (hdg : decode cc pc = .ok (.bastore, 1))
    (kk : ∀ (H1 : Heap) (locs1 : List Loc), pvW G (pvA σ 41 j i.toNatClampNeg v) H1 → va_S (fun q => G.2.2.2.2 q) H0 H1 locs1 → W p l e R s m args below meth c H1 locs1 cells slots Q (F0 m (pc + 1) ls rest)) : W p l e R s m args below meth c H locs cells slots Q (F0 m pc ls (.int v :: .int i :: .ref (G.2.2.1 41 j) :: rest)) := by
  obtain ⟨L, f, hO, hL, hP, hD, hd0, hC⟩ := hw
  obtain ⟨ha, he⟩ := hO.1 41 j hj
  obtain ⟨q0, hq⟩ := va_pl_get (X := []) (f := f) ha
  have hq : (va_pl L f)[q0]? = some (G.2.2.1 41 j, f (G.2.2.1 41 j)) := hq
  have hput := pvO_putA (κ := 41) (j := i.toNatClampNeg) (v := v) hO hj rfl
  subst htys
  refine va_zast (D := G.2.1) (f := fun t => σ.2.2.2.1 41 j t) (n := 3) hx hb hK hP hD hS q0 1 (by rw [he] at hq; exact hq) rfl hin hdg fun H1 locs1 hP1 hD1 hS1 => ?_
  rw [hn] at hP1 hD1
  have hset := va_pl_set (X := []) (e := .inl (G.1 1, 3, .inl (upd (fun t => σ.2.2.2.1 41 j t) i.toNatClampNeg v))) hD ha hq
  have hP2 : va_P G.2.1 pvC ([] ++ va_pl L (va_up f (G.2.2.1 41 j) (.inl (G.1 1, 3, .inl (upd (fun t => σ.2.2.2.1 41 j t) i.toNatClampNeg v))))) H1 := by rw [← hset]; exact hP1
  have hD2 : va_D (fun q => G.2.2.2.2 q) ([] ++ va_pl L (va_up f (G.2.2.1 41 j) (.inl (G.1 1, 3, .inl (upd (fun t => σ.2.2.2.1 41 j t) i.toNatClampNeg v))))) := by rw [← hset]; exact hD1
  exact kk H1 locs1 ⟨L, _, hput, pvLl_put hL hj rfl rfl, hP2, hD2, hd0, pvCl_c hC rfl rfl⟩ hS1
/-- a row of a grid is read -/
theorem pgRow (hx : p.tables.exec = Jvm.exec) (hb : c.code = cc) (hK : va_K G.2.1 pvC tys s) (htys : tys = pvT G) (hw : pvW G σ H) (κ j : Nat) (hj : j < pvM σ κ) (hk : κ = 34 ∨ κ = 35) {i : Int32} (hin : vp_in i 40) (hdg : decode cc pc = .ok (.aaload, 1))
    (kk : W p l e R s m args below meth c H locs cells slots Q (F0 m (pc + 1) ls (.ref (G.2.2.1 (κ + 2) (40 * j + i.toNatClampNeg)) :: rest))) : W p l e R s m args below meth c H locs cells slots Q (F0 m pc ls (.int i :: .ref (G.2.2.1 κ j) :: rest)) := by
  obtain ⟨L, f, hO, hL, hP, hD, hd0, hC⟩ := hw
  obtain ⟨ha, he⟩ := hO.1 κ j hj
  obtain ⟨q0, hq⟩ := va_pl_get (X := []) (f := f) ha
  have hq : (va_pl L f)[q0]? = some (G.2.2.1 κ j, f (G.2.2.1 κ j)) := hq
  rw [pvE_row hk] at he
  subst htys
  refine va_aldqA (D := G.2.1) hx hb hK hP q0 4 (by rw [← he]; exact hq) rfl hin hdg ?_
  have hlt : i.toNatClampNeg < 40 := Nat.not_le.mp fun q => hin (Or.inr q)
  rw [if_pos hlt]
  exact kk
/-- a place of an array of references is read -/
theorem pgQT (hx : p.tables.exec = Jvm.exec) (hb : c.code = cc) (hK : va_K G.2.1 pvC tys s) (htys : tys = pvT G) (hw : pvW G σ H) (j : Nat) (hj : j < pvM σ 26) {i : Int32} (hin : vp_in i 800) (o : Option Nat) (ho : o = σ.2.2.1 26 i.toNatClampNeg j) (hdg : decode cc pc = .ok (.aaload, 1))
    (kk : W p l e R s m args below meth c H locs cells slots Q (F0 m (pc + 1) ls (va_rf (o.map (G.2.2.1 3)) :: rest))) : W p l e R s m args below meth c H locs cells slots Q (F0 m pc ls (.int i :: .ref (G.2.2.1 26 j) :: rest)) := by
  obtain ⟨L, f, hO, hL, hP, hD, hd0, hC⟩ := hw
  obtain ⟨ha, he⟩ := hO.1 26 j hj
  obtain ⟨q0, hq⟩ := va_pl_get (X := []) (f := f) ha
  have hq : (va_pl L f)[q0]? = some (G.2.2.1 26 j, f (G.2.2.1 26 j)) := hq
  rw [pvE_26] at he
  subst htys
  subst ho
  exact va_aldq (D := G.2.1) hx hb hK hP q0 2 (by rw [← he]; exact hq) rfl hin hdg kk
/-- a place of an array of references is read -/
theorem pgQM (hx : p.tables.exec = Jvm.exec) (hb : c.code = cc) (hK : va_K G.2.1 pvC tys s) (htys : tys = pvT G) (hw : pvW G σ H) (j : Nat) (hj : j < pvM σ 51) {i : Int32} (hin : vp_in i (pvLen σ 51 j)) (o : Option Nat) (ho : o = σ.2.2.1 51 i.toNatClampNeg j) (hdg : decode cc pc = .ok (.aaload, 1))
    (kk : W p l e R s m args below meth c H locs cells slots Q (F0 m (pc + 1) ls (va_rf (o.map (G.2.2.1 52)) :: rest))) : W p l e R s m args below meth c H locs cells slots Q (F0 m pc ls (.int i :: .ref (G.2.2.1 51 j) :: rest)) := by
  obtain ⟨L, f, hO, hL, hP, hD, hd0, hC⟩ := hw
  obtain ⟨ha, he⟩ := hO.1 51 j hj
  obtain ⟨q0, hq⟩ := va_pl_get (X := []) (f := f) ha
  have hq : (va_pl L f)[q0]? = some (G.2.2.1 51 j, f (G.2.2.1 51 j)) := hq
  rw [pvE_51] at he
  subst htys
  subst ho
  exact va_aldqA (D := G.2.1) hx hb hK hP q0 4 (by rw [← he]; exact hq) rfl hin hdg kk
/-- a node is put into the array of texts -/
theorem ppQT (hx : p.tables.exec = Jvm.exec) (hb : c.code = cc) (hK : va_K G.2.1 pvC tys s) (htys : tys = pvT G) (hw : pvW G σ H) (hS : va_S (fun q => G.2.2.2.2 q) H0 H locs) (j : Nat) (hj : j < pvM σ 26) (v : Nat) (hv : v < pvM σ 3) {i : Int32} (hin : vp_in i 800) (hdg : decode cc pc = .ok (.aastore, 1))
    (kk : ∀ (H1 : Heap) (locs1 : List Loc), pvW G (pvR σ 26 i.toNatClampNeg j (some v)) H1 → va_S (fun q => G.2.2.2.2 q) H0 H1 locs1 → W p l e R s m args below meth c H1 locs1 cells slots Q (F0 m (pc + 1) ls rest)) : W p l e R s m args below meth c H locs cells slots Q (F0 m pc ls (.ref (G.2.2.1 3 v) :: .int i :: .ref (G.2.2.1 26 j) :: rest)) := by
  obtain ⟨L, f, hO, hL, hP, hD, hd0, hC⟩ := hw
  obtain ⟨ha, he⟩ := hO.1 26 j hj
  obtain ⟨q0, hq⟩ := va_pl_get (X := []) (f := f) ha
  have hq : (va_pl L f)[q0]? = some (G.2.2.1 26 j, f (G.2.2.1 26 j)) := hq
  obtain ⟨hv1, hv2⟩ := hO.1 3 v hv
  obtain ⟨q1, hq1⟩ := va_pl_get (X := []) (f := f) hv1
  rw [pvE_obj (by decide)] at hv2
  rw [pvE_26] at he
  subst htys
  have hput := pvO_putQ (κ := 26) (j := i.toNatClampNeg) (v := some v) hO hj (Or.inl rfl)
  refine va_astq (D := G.2.1) (r := (RX3, TX3, 14)) hx hb hK hP hD hS q0 2 q1 4 (by rw [← he]; exact hq) rfl (by rw [← hv2]; exact hq1) rfl hin hdg fun H1 locs1 hP1 hD1 hS1 => ?_
  have hset := va_pl_set (X := []) (e := .inl (G.1 2, 800, .inr (.inr (.inr (.inr (va_up (fun t => (σ.2.2.1 26 t j).map (G.2.2.1 3)) i.toNatClampNeg (some (G.2.2.1 3 v)))))))) hD ha hq
  have hP2 : va_P G.2.1 pvC ([] ++ va_pl L (va_up f (G.2.2.1 26 j) (.inl (G.1 2, 800, .inr (.inr (.inr (.inr (va_up (fun t => (σ.2.2.1 26 t j).map (G.2.2.1 3)) i.toNatClampNeg (some (G.2.2.1 3 v)))))))))) H1 := by rw [← hset]; exact hP1
  have hD2 : va_D (fun q => G.2.2.2.2 q) ([] ++ va_pl L (va_up f (G.2.2.1 26 j) (.inl (G.1 2, 800, .inr (.inr (.inr (.inr (va_up (fun t => (σ.2.2.1 26 t j).map (G.2.2.1 3)) i.toNatClampNeg (some (G.2.2.1 3 v)))))))))) := by rw [← hset]; exact hD1
  exact kk H1 locs1 ⟨L, _, hput, pvLl_put hL hj rfl rfl, hP2, hD2, hd0, pvCl_R hC (fun _ q => by cases q; exact hv)⟩ hS1
/-- an array's length -/
theorem palen (hx : p.tables.exec = Jvm.exec) (hb : c.code = cc) (hK : va_K G.2.1 pvC tys s) (htys : tys = pvT G) (hw : pvW G σ H) (κ j : Nat) (hj : j < pvM σ κ) (hk : pvIA κ = true) (h41 : κ ≠ 41) (hdg : decode cc pc = .ok (.arraylength, 1))
    (kk : W p l e R s m args below meth c H locs cells slots Q (F0 m (pc + 1) ls (.int (nI (pvLen σ κ j)) :: rest))) : W p l e R s m args below meth c H locs cells slots Q (F0 m pc ls (.ref (G.2.2.1 κ j) :: rest)) := by
  obtain ⟨L, f, hO, hL, hP, hD, hd0, hC⟩ := hw
  obtain ⟨ha, he⟩ := hO.1 κ j hj
  obtain ⟨q0, hq⟩ := va_pl_get (X := []) (f := f) ha
  have hq : (va_pl L f)[q0]? = some (G.2.2.1 κ j, f (G.2.2.1 κ j)) := hq
  rw [pvE_arr hk, if_neg h41] at he
  subst htys
  exact va_alen (D := G.2.1) (x := (pvLen σ κ j, .inl (fun t => σ.2.2.2.1 κ j t))) hx hb hK hP q0 0 (by rw [← he]; exact hq) rfl rfl hdg kk
end PVR
end
section
/-! CONTRACTS over the pool: what holds between two calls, ends, calls -/
abbrev pvB (G : PvG) : Nat → Prop := fun q => G.2.2.2.2 q
/-- the tables of the class -/
def tb1 : Nat → Int32 := fun j => ([0, -1, -1, 0, 0, 0, 0, 0, 0, 1, 0, 0, -500, -500] : List Int32).getD j 0
def tb2 : Nat → Int32 := fun j => ([2, 1000, 1000, 100, 100, 20, 2, 3, 255, 40, 2, 1, 500, 500] : List Int32).getD j 0
def tb3 : Nat → Int32 := fun j => ([1, -1, -1, 0, 0, 0, 0, 0, 0, 8, 0, 0, 0, 0] : List Int32).getD j 0
def pvSt (G : PvG) (k : Nat) (n : String) (f : Nat → Int32) (U : State) (H : Heap) : Prop := va_Z RX9 n "[I" (.ref (G.2.2.2.1.1 k)) (pvB G) U H ∧ va_T .int (G.2.2.2.1.1 k) 14 (fun j => .int (f j)) (pvB G) U H
/-- what is so of cells that are not ours: the shared empty array, the tables, the script -/
def pvX (G : PvG) (U : State) (H : Heap) : Prop := (va_Z RJx4a65c "DEFAULTCAPACITY_EMPTY_ELEMENTDATA" "[Ljava/lang/Object;" (.ref (G.2.2.2.1.1 0)) (pvB G) U H ∧ va_T (.object "java/lang/Object") (G.2.2.2.1.1 0) 0 (fun _ => .null) (pvB G) U H) ∧
  pvSt G 1 "LEAST_VALUES" tb1 U H ∧ pvSt G 2 "GREATEST_VALUES" tb2 U H ∧ pvSt G 3 "FIRST_VALUES" tb3 U H ∧ (va_X (G.2.2.2.1.1 4) (G.2.2.2.1.1 5) G.2.2.2.1.2 U H ∧ ¬ pvB G (G.2.2.2.1.1 4))
theorem pvSt.to {G : PvG} {k : Nat} {n : String} {f : Nat → Int32} {u U : State} {H H1 : Heap} (h : pvSt G k n f u H) (hvm : u.vm.Alike U.vm) (hq : ∀ a : Nat, a < H.size → ¬ pvB G a → H1[a]? = H[a]?) : pvSt G k n f U H1 :=
  ⟨(h.1.moved hvm).kept hq, (h.2.moved hvm).kept hq⟩
theorem pvX.to {G : PvG} {u U : State} {H H1 : Heap} (h : pvX G u H) (hvm : u.vm.Alike U.vm) (hq : ∀ a : Nat, a < H.size → ¬ pvB G a → H1[a]? = H[a]?) : pvX G U H1 := by
  obtain ⟨⟨a1, a2⟩, b, c, d, e, f⟩ := h
  refine ⟨⟨(a1.moved hvm).kept hq, (a2.moved hvm).kept hq⟩, b.to hvm hq, c.to hvm hq, d.to hvm hq, ?_, f⟩
  have e1 := va_X.moved hvm e
  refine e1.kept (hq _ ?_ f)
  obtain ⟨scr, h1, -⟩ := e1
  exact (Array.getElem?_eq_some_iff.mp h1).1
/-- what the tables say besides: links among nest mates, what may stand in a list -/
def pvNw (U : State) : Prop := va_Nw (.methodLinkNest RX3 20 yX1_init RX9) U ∧ va_Nw (.methodLinkNest RX9 28 yX4_init RX9) U ∧ va_Nw (.methodLinkNest RX4 11 yX6_init RX9) U ∧ va_Nw (.methodLinkNest RX4 20 yX0_init RX9) U ∧ va_Nw (.methodLinkNest RX4 27 yX8_init RX9) U ∧ va_Nw (.methodLinkNest RX9 40 yX6_init RX9) U ∧ va_Nw (.methodLinkNest RX6 55 yX9_isProperty RX9) U ∧ va_Nw (.methodLinkNest RX6 94 yX9_isInherited RX9) U ∧ va_Nw (.fieldLinkNest RX6 101 RX9 "FIRST_VALUES" "[I" RX9) U ∧ va_Nw (.castable RX3 "java/lang/Object") U ∧ va_Nw (.castable RX5 "java/lang/Object") U ∧ va_AO "java/lang/Object" U ∧ va_Dc U ∧ ∃ mi, va_Mi "[Ljava/lang/Object;" mi U
theorem pvNw.to {s U : State} (h : pvNw s) (hW : s.WarmedH U.vm) : pvNw U := by
  obtain ⟨a0, a1, a2, a3, a4, a5, a6, a7, a8, a9, a10, b0, b1, mi, b2⟩ := h
  exact ⟨va_Nw.warmM hW a0, va_Nw.warmM hW a1, va_Nw.warmM hW a2, va_Nw.warmM hW a3, va_Nw.warmM hW a4, va_Nw.warmM hW a5, va_Nw.warmM hW a6, va_Nw.warmM hW a7, va_Nw.warmF hW a8, va_Nw.warmC hW a9, va_Nw.warmC hW a10, b0.moved hW.alike, b1.moved hW.alike, mi, b2.moved hW.alike⟩
theorem pvNw.same {u U : State} (h : pvNw u) (hv : u.vm = U.vm) : pvNw U := by
  obtain ⟨a0, a1, a2, a3, a4, a5, a6, a7, a8, a9, a10, b0, b1, mi, b2⟩ := h
  exact ⟨va_Nw.same rfl hv a0, va_Nw.same rfl hv a1, va_Nw.same rfl hv a2, va_Nw.same rfl hv a3, va_Nw.same rfl hv a4, va_Nw.same rfl hv a5, va_Nw.same rfl hv a6, va_Nw.same rfl hv a7, va_Nw.same rfl hv a8, va_Nw.same rfl hv a9, va_Nw.same rfl hv a10, b0.moved (by rw [← hv]; exact Vm.Alike.refl _), b1.moved (by rw [← hv]; exact Vm.Alike.refl _), mi, b2.moved (by rw [← hv]; exact Vm.Alike.refl _)⟩
def pvA0 (G : PvG) (U : State) (H : Heap) : Prop := (∀ q, H.size ≤ q → G.2.2.2.2 q) ∧ pvX G U H ∧ pvNw U
theorem pvA0.to {G : PvG} {u U : State} {H1 : Heap} {locs : List Loc} (h : pvA0 G u u.heap) (hS : va_S (pvB G) u.heap H1 locs) (hW : u.WarmedH U.vm) (hU : U.heap = H1) : pvA0 G U U.heap := by
  rw [hU]
  exact ⟨fun q hq => h.1 q (Nat.le_trans hS.1 hq), h.2.1.to hW.alike hS.2.1, h.2.2.to hW⟩
def pvU (G : PvG) (tys : List (ClassId × FieldType)) (σ : PvS) (U : State) : Prop := pvW G σ U.heap ∧ va_K G.2.1 pvC tys U ∧ pvA0 G U U.heap
theorem pvA0.calling {G : PvG} {U : State} {g : JFrame} {mk : MethodId} {a : Array Value} (h : pvA0 G U U.heap) : pvA0 G (U.calling g mk a) (U.calling g mk a).heap :=
  ⟨h.1, h.2.1.to (Vm.Alike.refl U.vm) (fun _ _ _ => rfl), h.2.2.same rfl⟩
theorem pvU_calling {G : PvG} {tys : List (ClassId × FieldType)} {σ : PvS} {av : List Value} : FrameBlind (va_Pc av (pvU G tys σ)) := fun a U g mk q => ⟨q.1, q.2.1, va_K.moved (u := U) (U := U.calling g mk a) (Vm.Alike.refl U.vm) q.2.2.1, q.2.2.2.calling⟩
section PVC
variable {p : Program} {l : Launch} {e : Env} {R : Room} {s : State} {m : MethodId} {args : Array Value} {below : List Frame} {meth : Method} {c : Code} {H : Heap} {locs : List Loc} {cells slots : Nat} {Q : State → Prop}
variable {cc : ByteArray} {pc : Nat} {ls : Array Slot} {rest st0 : List Value} {a : Array Value} {tys : List (ClassId × FieldType)} {H0 : Heap} {G : PvG} {σ : PvS} {mc ms : Nat}
theorem pv_recv {C : String} {T : u_T} {N : Nat} (hw : pvW G σ H) (hK : va_K G.2.1 pvC tys s) (κ i : Nat) (hi : i < pvM σ κ) (hκ : κ ≤ 9) (hc : pvC[κ + 1]? = some (C, T, N)) : ∃ cell : Cell, H[G.2.2.1 κ i]? = some cell ∧ cell.vm.isStatics = false ∧ s.vm.findClass C = some cell.cls := by
  obtain ⟨L, f, hO, hL, hP, hD, hz⟩ := hw
  obtain ⟨ha, he⟩ := hO.1 κ i hi
  obtain ⟨q0, hq⟩ := va_pl_get (X := []) (f := f) ha
  rw [pvE_obj hκ] at he
  exact va_recv (ci := κ + 1) hK hP hc (by rw [← he]; exact hq)
/-- what a call of an object's method wants -/
theorem pv_preV {C : String} {T : u_T} {N : Nat} (hA : pvA0 G s s.heap) (hS : va_S (pvB G) s.heap H locs) (hw : pvW G σ H) (hK : va_K G.2.1 pvC tys s) (κ i : Nat) (hi : i < pvM σ κ) (hκ : κ ≤ 9) (hc : pvC[κ + 1]? = some (C, T, N)) (As : List Value) : PreV s H C (G.2.2.1 κ i) (va_Pc (.ref (G.2.2.1 κ i) :: As) (pvU G tys σ)) As :=
  ⟨pvU_calling, pv_recv hw hK κ i hi hκ hc, fun U hU hW => ⟨rfl, by rw [hU]; exact hw, va_K.moved hW.alike hK, hA.to hS hW hU⟩⟩
theorem pv_preS (hA : pvA0 G s s.heap) (hS : va_S (pvB G) s.heap H locs) (hw : pvW G σ H) (hK : va_K G.2.1 pvC tys s) (As : List Value) : PreS s H (va_Pc As (pvU G tys σ)) As :=
  ⟨pvU_calling, fun U hU hW => ⟨rfl, by rw [hU]; exact hw, va_K.moved hW.alike hK, hA.to hS hW hU⟩⟩
theorem pl_recv (hw : pvW G σ H) (hK : va_K G.2.1 pvC tys s) (j : Nat) (hj : j < σ.1 0 + 3) : ∃ cell : Cell, H[G.2.2.1 10 j]? = some cell ∧ cell.vm.isStatics = false ∧ s.vm.findClass RJx4a65c = some cell.cls := by
  obtain ⟨L, f, hO, ⟨ba, hL⟩, hP, hD, hz⟩ := hw
  obtain ⟨⟨a1, -⟩, ⟨mc, b⟩, -⟩ := hL j hj
  obtain ⟨q0, hq⟩ := va_pl_get (X := []) (f := f) a1
  exact va_recv (ci := 0) hK hP rfl (by rw [← b]; exact hq)
theorem pl_preV (hA : pvA0 G s s.heap) (hS : va_S (pvB G) s.heap H locs) (hw : pvW G σ H) (hK : va_K G.2.1 pvC tys s) (j : Nat) (hj : j < σ.1 0 + 3) (As : List Value) : PreV s H RJx4a65c (G.2.2.1 10 j) (va_Pc (.ref (G.2.2.1 10 j) :: As) (pvU G tys σ)) As :=
  ⟨pvU_calling, pl_recv hw hK j hj, fun U hU hW => ⟨rfl, by rw [hU]; exact hw, va_K.moved hW.alike hK, hA.to hS hW hU⟩⟩
theorem pcalli {post : Int32 → PvS → Prop} (hr : va_Run p l e R s m args below meth c H locs cells slots mc ms (F0 m pc ls st0) rest (va_Qi post (pvU G tys) (pvB G) a) (pvB G)) (hS : va_S (pvB G) H0 H locs)
    (kk : ∀ (r : Int32) (σ' : PvS) (H1 : Heap) (locs1 : List Loc), post r σ' → pvW G σ' H1 → va_S (pvB G) H0 H1 locs1 → W p l e R s m args below meth c H1 locs1 (cells + mc) (slots + ms) Q (F0 m (pc + 3) ls (.int r :: rest))) : W p l e R s m args below meth c H locs cells slots Q (F0 m pc ls st0) :=
  va_calli hr hS (fun _ _ h => h) (fun _ h => h) (fun r u t H1 locs1 ht _ hp hb _ _ hS1 => kk r u H1 locs1 hp (by rw [← ht]; exact hb.1) hS1)
theorem pcalll {post : Int64 → PvS → Prop} (hr : va_Run p l e R s m args below meth c H locs cells slots mc ms (F0 m pc ls st0) rest (va_Ql post (pvU G tys) (pvB G) a) (pvB G)) (hS : va_S (pvB G) H0 H locs)
    (kk : ∀ (r : Int64) (σ' : PvS) (H1 : Heap) (locs1 : List Loc), post r σ' → pvW G σ' H1 → va_S (pvB G) H0 H1 locs1 → W p l e R s m args below meth c H1 locs1 (cells + mc) (slots + ms) Q (F0 m (pc + 3) ls (.long r :: rest))) : W p l e R s m args below meth c H locs cells slots Q (F0 m pc ls st0) :=
  va_calll hr hS (fun _ _ h => h) (fun _ h => h) (fun r u t H1 locs1 ht _ hp hb _ _ hS1 => kk r u H1 locs1 hp (by rw [← ht]; exact hb.1) hS1)
theorem pcalld {post : UInt64 → PvS → Prop} (hr : va_Run p l e R s m args below meth c H locs cells slots mc ms (F0 m pc ls st0) rest (va_Qd post (pvU G tys) (pvB G) a) (pvB G)) (hS : va_S (pvB G) H0 H locs)
    (kk : ∀ (r : UInt64) (σ' : PvS) (H1 : Heap) (locs1 : List Loc), post r σ' → pvW G σ' H1 → va_S (pvB G) H0 H1 locs1 → W p l e R s m args below meth c H1 locs1 (cells + mc) (slots + ms) Q (F0 m (pc + 3) ls (.double r :: rest))) : W p l e R s m args below meth c H locs cells slots Q (F0 m pc ls st0) :=
  va_calld hr hS (fun _ _ h => h) (fun _ h => h) (fun r u t H1 locs1 ht _ hp hb _ _ hS1 => kk r u H1 locs1 hp (by rw [← ht]; exact hb.1) hS1)
theorem pcallq {post : Option Nat → PvS → Prop} (hr : va_Run p l e R s m args below meth c H locs cells slots mc ms (F0 m pc ls st0) rest (va_Qq post (pvU G tys) (pvB G) a) (pvB G)) (hS : va_S (pvB G) H0 H locs)
    (kk : ∀ (r : Option Nat) (σ' : PvS) (H1 : Heap) (locs1 : List Loc), post r σ' → pvW G σ' H1 → va_S (pvB G) H0 H1 locs1 → W p l e R s m args below meth c H1 locs1 (cells + mc) (slots + ms) Q (F0 m (pc + 3) ls (va_rf r :: rest))) : W p l e R s m args below meth c H locs cells slots Q (F0 m pc ls st0) :=
  va_callq hr hS (fun _ _ h => h) (fun _ h => h) (fun r u t H1 locs1 ht _ hp hb _ _ hS1 => kk r u H1 locs1 hp (by rw [← ht]; exact hb.1) hS1)
theorem pcallv {post : PvS → Prop} (hr : va_Run p l e R s m args below meth c H locs cells slots mc ms (F0 m pc ls st0) rest (va_Qv post (pvU G tys) (pvB G) a) (pvB G)) (hS : va_S (pvB G) H0 H locs)
    (kk : ∀ (σ' : PvS) (H1 : Heap) (locs1 : List Loc), post σ' → pvW G σ' H1 → va_S (pvB G) H0 H1 locs1 → W p l e R s m args below meth c H1 locs1 (cells + mc) (slots + ms) Q (F0 m (pc + 3) ls (rest))) : W p l e R s m args below meth c H locs cells slots Q (F0 m pc ls st0) :=
  va_callv hr hS (fun _ _ h => h) (fun _ h => h) (fun u t H1 locs1 ht _ hp hb _ _ hS1 => kk u H1 locs1 hp (by rw [← ht]; exact hb.1) hS1)
theorem pei {post : Int32 → PvS → Prop} {r : Int32} (hx : p.tables.exec = Jvm.exec) (hb : c.code = cc) (hr : meth.sig.returnType = some .int) (hlocks : meth.locks = false) (hA : pvA0 G s s.heap) (hw : pvW G σ H) (hK : va_K G.2.1 pvC tys s) (hS : va_S (pvB G) s.heap H locs) (hp : post r σ) (hdg : decode cc pc = .ok (.ireturn, 1)) : W p l e R s m args below meth c H locs cells slots (MQ below (va_Qi post (pvU G tys) (pvB G)) args s cells slots (pvB G)) (F0 m pc ls [.int r]) :=
  W.iret hx hb hr (fun t ht hW => ⟨⟨r, σ, rfl, hp, by rw [ht]; exact hw, va_K.moved hW.alike hK, hA.to hS hW ht⟩, hS.F ht⟩) hS.2.2 hdg hlocks
theorem pez {post : Int32 → PvS → Prop} {r : Int32} (hx : p.tables.exec = Jvm.exec) (hb : c.code = cc) (hr : meth.sig.returnType = some .boolean) (hn : narrow .boolean (.int r) = .int r) (hlocks : meth.locks = false) (hA : pvA0 G s s.heap) (hw : pvW G σ H) (hK : va_K G.2.1 pvC tys s) (hS : va_S (pvB G) s.heap H locs) (hp : post r σ) (hdg : decode cc pc = .ok (.ireturn, 1)) : W p l e R s m args below meth c H locs cells slots (MQ below (va_Qi post (pvU G tys) (pvB G)) args s cells slots (pvB G)) (F0 m pc ls [.int r]) :=
  W.zret hx hb hr hn (fun t ht hW => ⟨⟨r, σ, rfl, hp, by rw [ht]; exact hw, va_K.moved hW.alike hK, hA.to hS hW ht⟩, hS.F ht⟩) hS.2.2 hdg hlocks
theorem pel {post : Int64 → PvS → Prop} {r : Int64} (hx : p.tables.exec = Jvm.exec) (hb : c.code = cc) (hr : meth.sig.returnType = some .long) (hlocks : meth.locks = false) (hA : pvA0 G s s.heap) (hw : pvW G σ H) (hK : va_K G.2.1 pvC tys s) (hS : va_S (pvB G) s.heap H locs) (hp : post r σ) (hdg : decode cc pc = .ok (.lreturn, 1)) : W p l e R s m args below meth c H locs cells slots (MQ below (va_Ql post (pvU G tys) (pvB G)) args s cells slots (pvB G)) (F0 m pc ls [.long r]) :=
  W.lret hx hb hr (fun t ht hW => ⟨⟨r, σ, rfl, hp, by rw [ht]; exact hw, va_K.moved hW.alike hK, hA.to hS hW ht⟩, hS.F ht⟩) hS.2.2 hdg hlocks
theorem ped {post : UInt64 → PvS → Prop} {r : UInt64} (hx : p.tables.exec = Jvm.exec) (hb : c.code = cc) (hr : meth.sig.returnType = some .double) (hlocks : meth.locks = false) (hA : pvA0 G s s.heap) (hw : pvW G σ H) (hK : va_K G.2.1 pvC tys s) (hS : va_S (pvB G) s.heap H locs) (hp : post r σ) (hdg : decode cc pc = .ok (.dreturn, 1)) : W p l e R s m args below meth c H locs cells slots (MQ below (va_Qd post (pvU G tys) (pvB G)) args s cells slots (pvB G)) (F0 m pc ls [.double r]) :=
  W.dret hx hb hr (fun t ht hW => ⟨⟨r, σ, rfl, hp, by rw [ht]; exact hw, va_K.moved hW.alike hK, hA.to hS hW ht⟩, hS.F ht⟩) hS.2.2 hdg hlocks
theorem pev {post : PvS → Prop} (hx : p.tables.exec = Jvm.exec) (hb : c.code = cc) (hr : meth.sig.returnType = none) (hlocks : meth.locks = false) (hA : pvA0 G s s.heap) (hw : pvW G σ H) (hK : va_K G.2.1 pvC tys s) (hS : va_S (pvB G) s.heap H locs) (hp : post σ) (hdg : decode cc pc = .ok (.return_, 1)) : W p l e R s m args below meth c H locs cells slots (MQ below (va_Qv post (pvU G tys) (pvB G)) args s cells slots (pvB G)) (F0 m pc ls []) :=
  W.vret hx hb hr (fun t ht hW => ⟨⟨σ, rfl, hp, by rw [ht]; exact hw, va_K.moved hW.alike hK, hA.to hS hW ht⟩, hS.F ht⟩) hS.2.2 hdg hlocks
theorem peq {post : Option Nat → PvS → Prop} {r : Option Nat} {rt : FieldType} (hx : p.tables.exec = Jvm.exec) (hb : c.code = cc) (hr : meth.sig.returnType = some rt) (hrt : (∃ n, rt = .object n) ∨ ∃ t, rt = .array t) (hlocks : meth.locks = false) (hA : pvA0 G s s.heap) (hw : pvW G σ H) (hK : va_K G.2.1 pvC tys s) (hS : va_S (pvB G) s.heap H locs) (hp : post r σ) (hdg : decode cc pc = .ok (.areturn, 1)) : W p l e R s m args below meth c H locs cells slots (MQ below (va_Qq post (pvU G tys) (pvB G)) args s cells slots (pvB G)) (F0 m pc ls [va_rf r]) :=
  W.aret hx hb hr hrt (va_rf_or r) (fun t ht hW => ⟨⟨r, σ, rfl, hp, by rw [ht]; exact hw, va_K.moved hW.alike hK, hA.to hS hW ht⟩, hS.F ht⟩) hS.2.2 hdg hlocks
end PVC
end
section
/-! PARTIAL FUNCTIONS: what the methods are turned into -/
def nm {α β : Type} (a : α) (K : α → Option β) : Option β := K a
def gd {β : Type} (c : Prop) [Decidable c] (X : Option β) : Option β := if c then X else none
def ob1 {α β : Type} (o : Option α) (K : α → Option β) : Option β := match o with
  | none => none
  | some a => K a
def ob2 {α β γ : Type} (o : Option (α × γ)) (K : α → γ → Option β) : Option β := match o with
  | none => none
  | some a => K a.1 a.2
def oc {β : Type} (o : Option Nat) (X : Option β) (K : Nat → Option β) : Option β := match o with
  | none => X
  | some j => K j
theorem nq_e {α β : Type} {a : α} {K : α → Option β} {r : β} (h : nm a K = some r) : ∃ x, x = a ∧ K x = some r := ⟨a, rfl, h⟩
theorem gd_e {β : Type} {c : Prop} [Decidable c] {X : Option β} {r : β} (h : gd c X = some r) : c ∧ X = some r := by
  unfold gd at h
  by_cases hc : c
  · rw [if_pos hc] at h; exact ⟨hc, h⟩
  · rw [if_neg hc] at h; cases h
theorem ob1_e {α β : Type} {o : Option α} {K : α → Option β} {r : β} (h : ob1 o K = some r) : ∃ a, o = some a ∧ K a = some r := by
  cases o with
  | none => cases h
  | some a => exact ⟨a, rfl, h⟩
theorem ob2_e {α β γ : Type} {o : Option (α × γ)} {K : α → γ → Option β} {r : β} (h : ob2 o K = some r) : ∃ a b, o = some (a, b) ∧ K a b = some r := by
  cases o with
  | none => cases h
  | some a => exact ⟨a.1, a.2, rfl, h⟩
theorem ite_p {β : Type} {c : Prop} [Decidable c] {X Y : Option β} {r : β} (q : c) (h : (if c then X else Y) = some r) : X = some r := by rwa [if_pos q] at h
theorem ite_n {β : Type} {c : Prop} [Decidable c] {X Y : Option β} {r : β} (q : ¬ c) (h : (if c then X else Y) = some r) : Y = some r := by rwa [if_neg q] at h
theorem oc_n {β : Type} {X : Option β} {K : Nat → Option β} {r : β} (h : oc none X K = some r) : X = some r := h
theorem oc_s {β : Type} {X : Option β} {K : Nat → Option β} {j : Nat} {r : β} (h : oc (some j) X K = some r) : K j = some r := h
abbrev vin (i : Int32) (n : Nat) : Prop := ¬ (i < 0 ∨ n ≤ i.toNatClampNeg)
abbrev is01 (v : Int32) : Prop := v = 0 ∨ v = 1
theorem is01_nar {v : Int32} (h : is01 v) : narrow .boolean (.int v) = .int v := by rcases h with rfl | rfl <;> rfl
theorem is01_fit {v : Int32} (h : is01 v) : fits .boolean (.int v) = true := by rcases h with rfl | rfl <;> rfl
theorem is01_vp {v : Int32} (h : is01 v) : vp_nar .boolean v = v := by rcases h with rfl | rfl <;> rfl
theorem row80 {t : Nat} {x : Int32} (ht : t < 2) (hx : vin x 40) : 40 * t + x.toNatClampNeg < 80 := by
  have : x.toNatClampNeg < 40 := Nat.not_le.mp fun q => hx (Or.inr q)
  omega
theorem pst {α : Type} {e r : α} {τ σ σ1 : PvS} (h : some (e, τ) = some (r, σ1)) (hc : τ.1 = σ.1) : e = r ∧ τ = σ1 ∧ τ.1 = σ.1 := by
  cases h
  exact ⟨rfl, rfl, hc⟩
theorem psv {τ σ σ1 : PvS} (h : some τ = some σ1) (hc : τ.1 = σ.1) : τ = σ1 ∧ τ.1 = σ.1 := by
  cases h
  exact ⟨rfl, hc⟩
abbrev imax (x y : Int32) : Int32 := if x < y then y else x
abbrev imin (x y : Int32) : Int32 := if y < x then y else x
def fu : Nat := 3000
end
section
/-! MORE ROWS: nullable values, lists, casts, comparing objects, tables, Math -/
theorem pvK_c (i : Nat) : pvK (i + 3) = 3 := if_neg (by omega)
section PVX
variable {p : Program} {l : Launch} {e : Env} {R : Room} {s : State} {m : MethodId} {args : Array Value} {below : List Frame} {meth : Method} {c : Code} {H : Heap} {locs : List Loc} {cells slots : Nat} {Q : State → Prop}
variable {cc : ByteArray} {pc : Nat} {ls : Array Slot} {rest st0 : List Value} {a : Array Value} {tys : List (ClassId × FieldType)} {H0 : Heap} {G : PvG} {σ : PvS} {mc ms : Nat}
theorem qld_n (hx : p.tables.exec = Jvm.exec) (hb : c.code = cc) {k : Fin 4} {i : Nat} {o : Option Nat} (hdg : decode cc pc = .ok (.aload_n k, 1)) (hi : (k : Nat) = i) (hl : ls[i]? = some (.val (va_rf o))) (kk : W p l e R s m args below meth c H locs cells slots Q (F0 m (pc + 1) ls (va_rf o :: rest))) : W p l e R s m args below meth c H locs cells slots Q (F0 m pc ls rest) := by
  cases o with
  | none => exact lv_aload_nN hx hb hdg hi hl kk
  | some a => exact lv_aload_n hx hb hdg hi hl kk
theorem qst_n (hx : p.tables.exec = Jvm.exec) (hb : c.code = cc) {k : Fin 4} {i nL : Nat} {o : Option Nat} {lv lv' : List (Nat × Value)} (hdg : decode cc pc = .ok (.astore_n k, 1)) (hi : (k : Nat) = i) (h : lv_has ls nL lv) (hn : i < nL) (hl : (i, va_rf o) :: lv.filter (fun q => !(q.1 == i) && !(q.1 + 1 == i && q.2.category == 2)) = lv') (kk : ∀ ls' : Array Slot, lv_has ls' nL lv' → W p l e R s m args below meth c H locs cells slots Q (F0 m (pc + 1) ls' rest)) : W p l e R s m args below meth c H locs cells slots Q (F0 m pc ls (va_rf o :: rest)) := by
  cases o with
  | none => exact lv_astore_nN hx hb hdg hi h hn hl kk
  | some a => exact lv_astore_n hx hb hdg hi h hn hl kk
theorem qld (hx : p.tables.exec = Jvm.exec) (hb : c.code = cc) {i : Nat} {o : Option Nat} (hdg : decode cc pc = .ok (.aload i, 2)) (hl : ls[i]? = some (.val (va_rf o))) (kk : W p l e R s m args below meth c H locs cells slots Q (F0 m (pc + 2) ls (va_rf o :: rest))) : W p l e R s m args below meth c H locs cells slots Q (F0 m pc ls rest) := by
  cases o with
  | none => exact lv_aloadN hx hb hdg hl kk
  | some a => exact lv_aload hx hb hdg hl kk
theorem qst (hx : p.tables.exec = Jvm.exec) (hb : c.code = cc) {i nL : Nat} {o : Option Nat} {lv lv' : List (Nat × Value)} (hdg : decode cc pc = .ok (.astore i, 2)) (h : lv_has ls nL lv) (hn : i < nL) (hl : (i, va_rf o) :: lv.filter (fun q => !(q.1 == i) && !(q.1 + 1 == i && q.2.category == 2)) = lv') (kk : ∀ ls' : Array Slot, lv_has ls' nL lv' → W p l e R s m args below meth c H locs cells slots Q (F0 m (pc + 2) ls' rest)) : W p l e R s m args below meth c H locs cells slots Q (F0 m pc ls (va_rf o :: rest)) := by
  cases o with
  | none => exact lv_astoreN hx hb hdg h hn hl kk
  | some a => exact lv_astore hx hb hdg h hn hl kk
theorem pl_lt (hw : pvW G σ H) (j : Nat) (hj : j < σ.1 0 + 3) (i : Nat) (hi : i < (σ.2.2.2.2 j).length) {κ : Nat} (hκ : pvK j = κ) : (σ.2.2.2.2 j).getD i 0 < pvM σ κ := by
  obtain ⟨L, f, hO, ⟨ba, hL⟩, hP, hD, hz, hC⟩ := hw
  obtain ⟨⟨-, -, -, -, a5⟩, -, -⟩ := hL j hj
  subst hκ
  refine a5 _ ?_
  rw [List.getD_eq_getElem?_getD, List.getElem?_eq_getElem hi]
  exact List.getElem_mem hi
theorem pl_len (hw : pvW G σ H) (j : Nat) (hj : j < σ.1 0 + 3) : (σ.2.2.2.2 j).length ≤ 64 := by
  obtain ⟨L, f, hO, ⟨ba, hL⟩, hP, hD, hz, hC⟩ := hw
  exact (hL j hj).1.2.2.2.1
theorem pl_len2 (hw : pvW G σ H) (j : Nat) (hj : j < σ.1 0 + 3) : (σ.2.2.2.2 j).length < 2 ^ 31 := Nat.lt_of_le_of_lt (pl_len hw j hj) (by decide)
theorem pv_inj (hw : pvW G σ H) {κ i j : Nat} (hi : i < pvM σ κ) (hj : j < pvM σ κ) : G.2.2.1 κ i = G.2.2.1 κ j ↔ i = j := by
  obtain ⟨L, f, hO, -⟩ := hw
  exact ⟨fun q => (hO.2 κ i κ j hi hj q).2, fun q => by rw [q]⟩
/-- behind list.get(i) -/
theorem pcallg {j i κ : Nat} (hκ : pvK j = κ) (hr : va_Run p l e R s m args below meth c H locs cells slots mc ms (F0 m pc ls st0) rest (va_Qq (fun r σ' => r = some (G.2.2.1 (pvK j) ((σ.2.2.2.2 j).getD i 0)) ∧ σ' = σ) (pvU G tys) (pvB G) a) (pvB G)) (hS : va_S (pvB G) H0 H locs)
    (kk : ∀ (y : Nat), y = (σ.2.2.2.2 j).getD i 0 → ∀ (H1 : Heap) (locs1 : List Loc), pvW G σ H1 → va_S (pvB G) H0 H1 locs1 → W p l e R s m args below meth c H1 locs1 (cells + mc) (slots + ms) Q (F0 m (pc + 3) ls (.ref (G.2.2.1 κ y) :: rest))) : W p l e R s m args below meth c H locs cells slots Q (F0 m pc ls st0) := by
  subst hκ
  refine pcallq hr hS fun r σ' H1 locs1 hp hw1 hS1 => ?_
  obtain ⟨rfl, rfl⟩ := hp
  exact kk _ rfl H1 locs1 hw1 hS1
/-- a cast to the class that it is of -/
theorem pcast {own C : String} {T : u_T} {N index : Nat} (hx : p.tables.exec = Jvm.exec) (hb : c.code = cc) (hown : s.vm.findClass own = some m.cls) (hK : va_K G.2.1 pvC tys s) (hw : pvW G σ H) (κ i : Nat) (hi : i < pvM σ κ) (hκ : κ ≤ 9) (hc : pvC[κ + 1]? = some (C, T, N)) (hlink : (Cond.classLink own index C).before args s = true) (hdg : decode cc pc = .ok (.checkcast index, 3))
    (kk : W p l e R s m args below meth c H locs cells slots Q (F0 m (pc + 3) ls (.ref (G.2.2.1 κ i) :: rest))) : W p l e R s m args below meth c H locs cells slots Q (F0 m pc ls (.ref (G.2.2.1 κ i) :: rest)) :=
  va_castS hx hb hown hlink (hK.1 (κ + 1) _ hc).2 (pv_recv hw hK κ i hi hκ hc) hdg kk
theorem pacmp_ne (hx : p.tables.exec = Jvm.exec) (hb : c.code = cc) (hw : pvW G σ H) (κ i j : Nat) (hi : i < pvM σ κ) (hj : j < pvM σ κ) {off : Int} {tgt : Nat} (hdg : decode cc pc = .ok (.if_acmp .ne off, 3)) (ht : (pc : Int) + off = (tgt : Int))
    (kt : ¬ i = j → W p l e R s m args below meth c H locs cells slots Q (F0 m tgt ls rest)) (kf : i = j → W p l e R s m args below meth c H locs cells slots Q (F0 m (pc + 3) ls rest)) : W p l e R s m args below meth c H locs cells slots Q (F0 m pc ls (.ref (G.2.2.1 κ j) :: .ref (G.2.2.1 κ i) :: rest)) :=
  lv_acmp_ne (rx := some (G.2.2.1 κ i)) (ry := some (G.2.2.1 κ j)) hx hb hdg ht (fun q => kt fun z => q (by rw [z])) (fun q => kf ((pv_inj hw hi hj).mp (Option.some.inj q)))
theorem pacmp_eq (hx : p.tables.exec = Jvm.exec) (hb : c.code = cc) (hw : pvW G σ H) (κ i j : Nat) (hi : i < pvM σ κ) (hj : j < pvM σ κ) {off : Int} {tgt : Nat} (hdg : decode cc pc = .ok (.if_acmp .eq off, 3)) (ht : (pc : Int) + off = (tgt : Int))
    (kt : i = j → W p l e R s m args below meth c H locs cells slots Q (F0 m tgt ls rest)) (kf : ¬ i = j → W p l e R s m args below meth c H locs cells slots Q (F0 m (pc + 3) ls rest)) : W p l e R s m args below meth c H locs cells slots Q (F0 m pc ls (.ref (G.2.2.1 κ j) :: .ref (G.2.2.1 κ i) :: rest)) :=
  lv_acmp_eq (rx := some (G.2.2.1 κ i)) (ry := some (G.2.2.1 κ j)) hx hb hdg ht (fun q => kt ((pv_inj hw hi hj).mp (Option.some.inj q))) (fun q => kf fun z => q (by rw [z]))
theorem pacmpN_ne (hx : p.tables.exec = Jvm.exec) (hb : c.code = cc) {x : Nat} {off : Int} {tgt : Nat} (hdg : decode cc pc = .ok (.if_acmp .ne off, 3)) (ht : (pc : Int) + off = (tgt : Int))
    (kt : W p l e R s m args below meth c H locs cells slots Q (F0 m tgt ls rest)) : W p l e R s m args below meth c H locs cells slots Q (F0 m pc ls (.ref x :: .null :: rest)) :=
  lv_acmp_ne (rx := none) (ry := some x) hx hb hdg ht (fun _ => kt) (fun q => nomatch q)
theorem pacmpN_eq (hx : p.tables.exec = Jvm.exec) (hb : c.code = cc) {x : Nat} {off : Int} {tgt : Nat} (hdg : decode cc pc = .ok (.if_acmp .eq off, 3)) (ht : (pc : Int) + off = (tgt : Int))
    (kf : W p l e R s m args below meth c H locs cells slots Q (F0 m (pc + 3) ls rest)) : W p l e R s m args below meth c H locs cells slots Q (F0 m pc ls (.ref x :: .null :: rest)) :=
  lv_acmp_eq (rx := none) (ry := some x) hx hb hdg ht (fun q => nomatch q) (fun _ => kf)
theorem pv_injq {o : Option Nat} {κ j : Nat} (hw : pvW G σ H) (ho : ∀ i, o = some i → i < pvM σ κ) (hj : j < pvM σ κ) (h : o.map (G.2.2.1 κ) = some (G.2.2.1 κ j)) : o = some j := by
  cases o with
  | none => cases h
  | some i => rw [(pv_inj hw (ho i rfl) hj).mp (Option.some.inj h)]
theorem pacmpq_ne (hx : p.tables.exec = Jvm.exec) (hb : c.code = cc) (hw : pvW G σ H) (κ : Nat) (o : Option Nat) (j : Nat) (ho : ∀ i, o = some i → i < pvM σ κ) (hj : j < pvM σ κ) {off : Int} {tgt : Nat} (hdg : decode cc pc = .ok (.if_acmp .ne off, 3)) (ht : (pc : Int) + off = (tgt : Int))
    (kt : ¬ o = some j → W p l e R s m args below meth c H locs cells slots Q (F0 m tgt ls rest)) (kf : o = some j → W p l e R s m args below meth c H locs cells slots Q (F0 m (pc + 3) ls rest)) : W p l e R s m args below meth c H locs cells slots Q (F0 m pc ls (.ref (G.2.2.1 κ j) :: va_rf (o.map (G.2.2.1 κ)) :: rest)) :=
  lv_acmp_ne (rx := o.map (G.2.2.1 κ)) (ry := some (G.2.2.1 κ j)) hx hb hdg ht (fun q => kt (fun z => q (by rw [z]; rfl))) (fun q => kf (pv_injq hw ho hj q))
theorem pacmpq_eq (hx : p.tables.exec = Jvm.exec) (hb : c.code = cc) (hw : pvW G σ H) (κ : Nat) (o : Option Nat) (j : Nat) (ho : ∀ i, o = some i → i < pvM σ κ) (hj : j < pvM σ κ) {off : Int} {tgt : Nat} (hdg : decode cc pc = .ok (.if_acmp .eq off, 3)) (ht : (pc : Int) + off = (tgt : Int))
    (kt : o = some j → W p l e R s m args below meth c H locs cells slots Q (F0 m tgt ls rest)) (kf : ¬ o = some j → W p l e R s m args below meth c H locs cells slots Q (F0 m (pc + 3) ls rest)) : W p l e R s m args below meth c H locs cells slots Q (F0 m pc ls (.ref (G.2.2.1 κ j) :: va_rf (o.map (G.2.2.1 κ)) :: rest)) :=
  lv_acmp_eq (rx := o.map (G.2.2.1 κ)) (ry := some (G.2.2.1 κ j)) hx hb hdg ht (fun q => kt (pv_injq hw ho hj q)) (fun q => kf (fun z => q (by rw [z]; rfl)))
theorem pgT (hx : p.tables.exec = Jvm.exec) (hb : c.code = cc) (hA : pvA0 G s s.heap) (hS : va_S (pvB G) s.heap H locs) (k : Nat) {n : String} {f : Nat → Int32} (hT : pvSt G k n f s s.heap) {i : Int32} (hin : vp_in i 14) (hdg : decode cc pc = .ok (.iaload, 1))
    (kk : W p l e R s m args below meth c H locs cells slots Q (F0 m (pc + 1) ls (.int (f i.toNatClampNeg) :: rest))) : W p l e R s m args below meth c H locs cells slots Q (F0 m pc ls (.int i :: .ref (G.2.2.2.1.1 k) :: rest)) :=
  va_ti hx hb hT.2 hS hin rfl hdg kk
theorem pmmax (hx : p.tables.exec = Jvm.exec) (hb : c.code = cc) (hml : c.maxLocals = ls.size) {own : String} {index : Nat} (hown : s.vm.findClass own = some m.cls) (hlink : (Cond.methodLink own index Lib.Math.max.name).before args s = true) (hstat : (Cond.static Lib.Math.max.name).before args s = true) (hini : (Cond.initialized "java/lang/Math").before args s = true) (hcode : (Cond.code Lib.Math.max.name Lib.Math.max.code 2 (some .int)).before args s = true)
    (hframes : 1 ≤ R.frames) (hlocals : (rest.map fun v => v.category).sum + 13 ≤ R.locals) (hc : cells ≤ R.cells) (hs : slots ≤ R.slots) {x y : Int32} (hdg : decode cc pc = .ok (.invokestatic index, 3))
    (kk : W p l e R s m args below meth c H locs cells slots Q (F0 m (pc + 3) ls (.int (imax x y) :: rest))) : W p l e R s m args below meth c H locs cells slots Q (F0 m pc ls (.int y :: .int x :: rest)) :=
  va_mmax hx hb hml hown hlink hstat hini hcode hframes hlocals hc hs hdg kk
theorem pmmin (hx : p.tables.exec = Jvm.exec) (hb : c.code = cc) (hml : c.maxLocals = ls.size) {own : String} {index : Nat} (hown : s.vm.findClass own = some m.cls) (hlink : (Cond.methodLink own index Lib.Math.min.name).before args s = true) (hstat : (Cond.static Lib.Math.min.name).before args s = true) (hini : (Cond.initialized "java/lang/Math").before args s = true) (hcode : (Cond.code Lib.Math.min.name Lib.Math.min.code 2 (some .int)).before args s = true)
    (hframes : 1 ≤ R.frames) (hlocals : (rest.map fun v => v.category).sum + 13 ≤ R.locals) (hc : cells ≤ R.cells) (hs : slots ≤ R.slots) {x y : Int32} (hdg : decode cc pc = .ok (.invokestatic index, 3))
    (kk : W p l e R s m args below meth c H locs cells slots Q (F0 m (pc + 3) ls (.int (imin x y) :: rest))) : W p l e R s m args below meth c H locs cells slots Q (F0 m pc ls (.int y :: .int x :: rest)) :=
  va_mmin hx hb hml hown hlink hstat hini hcode hframes hlocals hc hs hdg kk
end PVX
end
section
/-! LISTS: size and get, over the pool -/
section PVLS
variable {p : Program} {l : Launch} {e : Env} {R : Room} {s : State} {m : MethodId} {args : Array Value} {below : List Frame} {meth : Method} {c : Code} {H : Heap} {locs : List Loc} {cells slots : Nat} {Q : State → Prop}
variable {cc : ByteArray} {pc : Nat} {ls : Array Slot} {rest st0 : List Value} {a : Array Value} {tys : List (ClassId × FieldType)} {H0 : Heap} {G : PvG} {σ : PvS} {mc ms : Nat}
/-- a list's field 'size' is read -/
theorem plS {own : String} {index : Nat} {Ts : List Cond} (hx : p.tables.exec = Jvm.exec) (hb : c.code = cc) (hts : ∀ w ∈ Ts, w.before args s = true) (hown : s.vm.findClass own = some m.cls) (hK : va_K G.2.1 pvC tys s) (hw : pvW G σ H) (j : Nat) (hj : j < σ.1 0 + 3) (hin : ∀ w ∈ u_ws RJx4a65c TJx4a65c 3, w ∈ Ts) (hlink : (Cond.fieldLink own index "java/util/ArrayList" "size" "I").before args s = true) (hdg : decode cc pc = .ok (.getfield index, 3))
    (kk : W p l e R s m args below meth c H locs cells slots Q (F0 m (pc + 3) ls (.int (nI (σ.2.2.2.2 j).length) :: rest))) : W p l e R s m args below meth c H locs cells slots Q (F0 m pc ls (.ref (G.2.2.1 10 j) :: rest)) := by
  obtain ⟨L, f, hO, ⟨ba, hL⟩, hP, hD, hz, hC⟩ := hw
  obtain ⟨⟨a1, -⟩, ⟨mc, b⟩, -⟩ := hL j hj
  obtain ⟨q0, hq⟩ := va_pl_get (X := []) (f := f) a1
  exact va_get (D := G.2.1) (ci := 0) (C := RJx4a65c) (T := TJx4a65c) (N := 3) (fs := [.int mc, .ref (ba j), .int (nI (σ.2.2.2.2 j).length)]) hx hb hts hin hown hK hP q0 (by rw [← b]; exact hq) rfl 2 (by decide) hlink (fun _ h9 => h9) rfl hdg kk
/-- an element of a list is read: the field 'elementData', the place, the element -/
theorem plE {own : String} {index : Nat} {Ts : List Cond} (hx : p.tables.exec = Jvm.exec) (hb : c.code = cc) (hts : ∀ w ∈ Ts, w.before args s = true) (hown : s.vm.findClass own = some m.cls) (hK : va_K G.2.1 pvC tys s) (htys : tys = pvT G) (hw : pvW G σ H) (j : Nat) (hj : j < σ.1 0 + 3) (i : Nat) (hi : i < (σ.2.2.2.2 j).length) (hin : ∀ w ∈ u_ws RJx4a65c TJx4a65c 3, w ∈ Ts) (hlink : (Cond.fieldLink own index "java/util/ArrayList" "elementData" "[Ljava/lang/Object;").before args s = true) (hl : ls[1]? = some (.val (.int (nI i)))) (hdg : decode cc pc = .ok (.getfield index, 3)) (hdg1 : decode cc (pc + 3) = .ok (.iload_n 1, 1)) (hdg2 : decode cc (pc + 3 + 1) = .ok (.aaload, 1))
    (kk : W p l e R s m args below meth c H locs cells slots Q (F0 m (pc + 3 + 1 + 1) ls (.ref (G.2.2.1 (pvK j) ((σ.2.2.2.2 j).getD i 0)) :: rest))) : W p l e R s m args below meth c H locs cells slots Q (F0 m pc ls (.ref (G.2.2.1 10 j) :: rest)) := by
  obtain ⟨L, f, hO, ⟨ba, hL⟩, hP, hD, hz, hC⟩ := hw
  obtain ⟨⟨a1, -, -, a4, -⟩, ⟨mc, b⟩, c9⟩ := hL j hj
  obtain ⟨q0, hq⟩ := va_pl_get (X := []) (f := f) a1
  refine va_get (D := G.2.1) (ci := 0) (C := RJx4a65c) (T := TJx4a65c) (N := 3) (fs := [.int mc, .ref (ba j), .int (nI (σ.2.2.2.2 j).length)]) hx hb hts hin hown hK hP q0 (by rw [← b]; exact hq) rfl 1 (by decide) hlink (fun _ h9 => h9) rfl hdg ?_
  refine lv_iload_n hx hb hdg1 rfl hl ?_
  rcases c9 with ⟨c1, -⟩ | ⟨cap, c1, c2, c3, c4, c5, c6, c7⟩
  · rw [c1] at hi; exact absurd hi (Nat.not_lt_zero i)
  obtain ⟨q1, hq1⟩ := va_pl_get (X := []) (f := f) c1
  subst htys
  refine va_aldq (D := G.2.1) hx hb hK hP q1 3 (by rw [← c7]; exact hq1) rfl (vp_in_nI (Nat.lt_of_lt_of_le hi c5) (by omega)) hdg2 ?_
  have e1 : va_rf (((σ.2.2.2.2 j)[(nI i).toNatClampNeg]?).map (G.2.2.1 (pvK j))) = .ref (G.2.2.1 (pvK j) ((σ.2.2.2.2 j).getD i 0)) := by
    rw [nI_clamp (by omega), List.getElem?_eq_getElem hi, List.getD_eq_getElem?_getD, List.getElem?_eq_getElem hi]
    rfl
  rw [e1]
  exact kk
end PVLS
set_option maxHeartbeats 4000000 in
set_option maxRecDepth 100000 in
theorem c_check3 {l : Launch} {G : PvG} {tys : List (ClassId × FieldType)} {σ : PvS} {i n : Nat} (hi : i < n) (hn : n < 2 ^ 31) {v : Value} : Met l yJ3_checkIndex_8e157 (Cond.code yJ3_checkIndex_8e157 cJ3_checkIndex_8e157 3 (some .int) :: WA) ({ frames := 0, cells := 0, slots := 0, locals := 0 }) (va_Pc [.int (nI i), .int (nI n), .null] (pvU G tys σ)) (va_Qi (fun r σ' => r = nI i ∧ σ' = σ) (pvU G tys) (pvB G)) 0 0 (pvB G) := by
  refine Met.ofW (cc := cJ3_checkIndex_8e157) (maxL := 3) (ret := (some .int)) (by decide) rfl ?_
  intro p e s m args below meth c s₁ B hml hv
  obtain ⟨rfl, hw, hK, hA⟩ := hv
  have hx := B.exec
  have hb := B.bytes
  have hr := B.returns
  have hlocks := B.notSynchronized
  have hS : va_S (pvB G) s.heap s.heap [] := va_S.rf
  have hl := lv_entry ([.int (nI i), .int (nI n), .null]) (n := 3) (Nat.le_of_ble_eq_true rfl)
  rw [lg_entry_eq]
  generalize (lg_sl ([.int (nI i), .int (nI n), .null]) ++ List.replicate (3 - (lg_sl ([.int (nI i), .int (nI n), .null])).length) Slot.unset).toArray = ls at hl ⊢
  have hl : lv_has ls 3 [(0, .int (nI i)), (1, .int (nI n)), (2, .null)] := hl
  refine lv_iload_n hx hb dJ3_checkIndex_8e157_0 rfl (lv_at hl 0 rfl) ?_
  refine lv_if_lt (tgt := 9) hx hb dJ3_checkIndex_8e157_1 (by decide) (fun c1 => absurd c1 (nI_pos (by omega))) (fun c1 => ?_)
  refine lv_iload_n hx hb dJ3_checkIndex_8e157_4 rfl (lv_at hl 0 rfl) ?_
  refine lv_iload_n hx hb dJ3_checkIndex_8e157_5 rfl (lv_at hl 1 rfl) ?_
  refine lv_icmp_lt (tgt := 16) hx hb dJ3_checkIndex_8e157_6 (by decide) (fun c2 => ?_) (fun c2 => absurd (nI_lt hi hn) c2)
  refine lv_iload_n hx hb dJ3_checkIndex_8e157_16 rfl (lv_at hl 0 rfl) ?_
  exact pei hx hb hr hlocks hA hw hK hS ⟨rfl, rfl⟩ dJ3_checkIndex_8e157_17
set_option maxHeartbeats 4000000 in
set_option maxRecDepth 100000 in
theorem c_check15 {l : Launch} {G : PvG} {tys : List (ClassId × FieldType)} {σ : PvS} {i n : Nat} (hi : i < n) (hn : n < 2 ^ 31) : Met l yJ15_checkIndex_7cf53 (Cond.code yJ15_checkIndex_7cf53 cJ15_checkIndex_7cf53 2 (some .int) :: WA) ({ frames := 1, cells := 0, slots := 0, locals := 22 }) (va_Pc [.int (nI i), .int (nI n)] (pvU G tys σ)) (va_Qi (fun r σ' => r = nI i ∧ σ' = σ) (pvU G tys) (pvB G)) 0 0 (pvB G) := by
  refine Met.ofW (cc := cJ15_checkIndex_7cf53) (maxL := 2) (ret := (some .int)) (by decide) rfl ?_
  intro p e s m args below meth c s₁ B hml hv
  obtain ⟨rfl, hw, hK, hA⟩ := hv
  have hx := B.exec
  have hb := B.bytes
  have hr := B.returns
  have hts0 := atoms_spec (ws := (Cond.code yJ15_checkIndex_7cf53 cJ15_checkIndex_7cf53 2 (some .int) :: WA)) B.pre
  have hts : ∀ w ∈ WA, w.before _ s = true := fun w h => hts0 w (List.mem_cons_of_mem _ h)
  have hown : s.vm.findClass RJ15 = some m.cls := findClass_of_methodNamed B.named
  have hlocks := B.notSynchronized
  have hS : va_S (pvB G) s.heap s.heap [] := va_S.rf
  have hl := lv_entry ([.int (nI i), .int (nI n)]) (n := 2) (Nat.le_of_ble_eq_true rfl)
  rw [lg_entry_eq]
  generalize (lg_sl ([.int (nI i), .int (nI n)]) ++ List.replicate (2 - (lg_sl ([.int (nI i), .int (nI n)])).length) Slot.unset).toArray = ls at hl ⊢
  have hl : lv_has ls 2 [(0, .int (nI i)), (1, .int (nI n))] := hl
  refine lv_iload_n hx hb dJ15_checkIndex_7cf53_0 rfl (lv_at hl 0 rfl) ?_
  refine lv_iload_n hx hb dJ15_checkIndex_7cf53_1 rfl (lv_at hl 1 rfl) ?_
  refine lv_null hx hb dJ15_checkIndex_7cf53_2 ?_
  refine pcalli (va_runS (As := [.int (nI i), .int (nI n), .null]) (rest := []) ⟨hx, hb, hml, hown, hts⟩ (c_check3 (l := l) (G := G) (tys := tys) (σ := σ) hi hn (v := .null)) (va_cwS 3 hts (gSA wm262 wm263 wm264 wm265) rfl rfl rfl (by decide +kernel) ⟨Nat.le_of_ble_eq_true rfl, Nat.le_of_ble_eq_true rfl⟩) (pv_preS hA hS hw hK [.int (nI i), .int (nI n), .null]) rfl rfl hl.1 rfl (lv_room (Nat.le_of_ble_eq_true rfl)) dJ15_checkIndex_7cf53_3 ⟨Nat.zero_le _, Nat.zero_le _⟩) hS (fun r σ1 H locs hp hw hS => ?_)
  exact pei hx hb hr hlocks hA hw hK hS hp dJ15_checkIndex_7cf53_6
set_option maxHeartbeats 4000000 in
set_option maxRecDepth 100000 in
theorem c_lsize {l : Launch} {G : PvG} {tys : List (ClassId × FieldType)} {σ : PvS} {j : Nat} (hj : j < σ.1 0 + 3) : Met l yJx4a65c_size_8abf5 (Cond.code yJx4a65c_size_8abf5 cJx4a65c_size_8abf5 1 (some .int) :: WA) ({ frames := 0, cells := 0, slots := 0, locals := 0 }) (va_Pc [.ref (G.2.2.1 10 j)] (pvU G tys σ)) (va_Qi (fun r σ' => r = nI (σ.2.2.2.2 j).length ∧ σ' = σ) (pvU G tys) (pvB G)) 0 0 (pvB G) := by
  refine Met.ofW (cc := cJx4a65c_size_8abf5) (maxL := 1) (ret := (some .int)) (by decide) rfl ?_
  intro p e s m args below meth c s₁ B hml hv
  obtain ⟨rfl, hw, hK, hA⟩ := hv
  have hx := B.exec
  have hb := B.bytes
  have hr := B.returns
  have hts0 := atoms_spec (ws := (Cond.code yJx4a65c_size_8abf5 cJx4a65c_size_8abf5 1 (some .int) :: WA)) B.pre
  have hts : ∀ w ∈ WA, w.before _ s = true := fun w h => hts0 w (List.mem_cons_of_mem _ h)
  have hown : s.vm.findClass RJx4a65c = some m.cls := findClass_of_methodNamed B.named
  have hlocks := B.notSynchronized
  have hS : va_S (pvB G) s.heap s.heap [] := va_S.rf
  have hl := lv_entry ([.ref (G.2.2.1 10 j)]) (n := 1) (Nat.le_of_ble_eq_true rfl)
  rw [lg_entry_eq]
  generalize (lg_sl ([.ref (G.2.2.1 10 j)]) ++ List.replicate (1 - (lg_sl ([.ref (G.2.2.1 10 j)])).length) Slot.unset).toArray = ls at hl ⊢
  have hl : lv_has ls 1 [(0, .ref (G.2.2.1 10 j))] := hl
  refine lv_aload_n hx hb dJx4a65c_size_8abf5_0 rfl (lv_at hl 0 rfl) ?_
  refine plS hx hb hts hown hK hw j hj inF_Jx4a65c (hts _ wm122) dJx4a65c_size_8abf5_1 ?_
  exact pei hx hb hr hlocks hA hw hK hS ⟨rfl, rfl⟩ dJx4a65c_size_8abf5_4
set_option maxHeartbeats 4000000 in
set_option maxRecDepth 100000 in
theorem c_lelem {l : Launch} {G : PvG} {tys : List (ClassId × FieldType)} {σ : PvS} (htys : tys = pvT G) {j : Nat} (hj : j < σ.1 0 + 3) {i : Nat} (hi : i < (σ.2.2.2.2 j).length) : Met l yJx4a65c_elementData_915e3 (Cond.code yJx4a65c_elementData_915e3 cJx4a65c_elementData_915e3 2 (some (.object "java/lang/Object")) :: WA) ({ frames := 0, cells := 0, slots := 0, locals := 0 }) (va_Pc [.ref (G.2.2.1 10 j), .int (nI i)] (pvU G tys σ)) (va_Qq (fun r σ' => r = some (G.2.2.1 (pvK j) ((σ.2.2.2.2 j).getD i 0)) ∧ σ' = σ) (pvU G tys) (pvB G)) 0 0 (pvB G) := by
  refine Met.ofW (cc := cJx4a65c_elementData_915e3) (maxL := 2) (ret := (some (.object "java/lang/Object"))) (by decide) rfl ?_
  intro p e s m args below meth c s₁ B hml hv
  obtain ⟨rfl, hw, hK, hA⟩ := hv
  have hx := B.exec
  have hb := B.bytes
  have hr := B.returns
  have hts0 := atoms_spec (ws := (Cond.code yJx4a65c_elementData_915e3 cJx4a65c_elementData_915e3 2 (some (.object "java/lang/Object")) :: WA)) B.pre
  have hts : ∀ w ∈ WA, w.before _ s = true := fun w h => hts0 w (List.mem_cons_of_mem _ h)
  have hown : s.vm.findClass RJx4a65c = some m.cls := findClass_of_methodNamed B.named
  have hlocks := B.notSynchronized
  have hS : va_S (pvB G) s.heap s.heap [] := va_S.rf
  have hl := lv_entry ([.ref (G.2.2.1 10 j), .int (nI i)]) (n := 2) (Nat.le_of_ble_eq_true rfl)
  rw [lg_entry_eq]
  generalize (lg_sl ([.ref (G.2.2.1 10 j), .int (nI i)]) ++ List.replicate (2 - (lg_sl ([.ref (G.2.2.1 10 j), .int (nI i)])).length) Slot.unset).toArray = ls at hl ⊢
  have hl : lv_has ls 2 [(0, .ref (G.2.2.1 10 j)), (1, .int (nI i))] := hl
  refine lv_aload_n hx hb dJx4a65c_elementData_915e3_0 rfl (lv_at hl 0 rfl) ?_
  refine plE hx hb hts hown hK htys hw j hj i hi inF_Jx4a65c (hts _ wm47) (lv_at hl 1 rfl) dJx4a65c_elementData_915e3_1 dJx4a65c_elementData_915e3_4 dJx4a65c_elementData_915e3_5 ?_
  exact peq hx hb hr (Or.inl ⟨_, rfl⟩) hlocks hA hw hK hS (r := some _) ⟨rfl, rfl⟩ dJx4a65c_elementData_915e3_6
set_option maxHeartbeats 4000000 in
set_option maxRecDepth 100000 in
theorem c_lget {l : Launch} {G : PvG} {tys : List (ClassId × FieldType)} {σ : PvS} (htys : tys = pvT G) {j : Nat} (hj : j < σ.1 0 + 3) {i : Nat} (hi : i < (σ.2.2.2.2 j).length) (h64 : (σ.2.2.2.2 j).length < 2 ^ 31) : Met l yJx4a65c_get_915e3 (Cond.code yJx4a65c_get_915e3 cJx4a65c_get_915e3 2 (some (.object "java/lang/Object")) :: WA) ({ frames := 2, cells := 0, slots := 0, locals := 43 }) (va_Pc [.ref (G.2.2.1 10 j), .int (nI i)] (pvU G tys σ)) (va_Qq (fun r σ' => r = some (G.2.2.1 (pvK j) ((σ.2.2.2.2 j).getD i 0)) ∧ σ' = σ) (pvU G tys) (pvB G)) 0 0 (pvB G) := by
  refine Met.ofW (cc := cJx4a65c_get_915e3) (maxL := 2) (ret := (some (.object "java/lang/Object"))) (by decide) rfl ?_
  intro p e s m args below meth c s₁ B hml hv
  obtain ⟨rfl, hw, hK, hA⟩ := hv
  have hx := B.exec
  have hb := B.bytes
  have hr := B.returns
  have hts0 := atoms_spec (ws := (Cond.code yJx4a65c_get_915e3 cJx4a65c_get_915e3 2 (some (.object "java/lang/Object")) :: WA)) B.pre
  have hts : ∀ w ∈ WA, w.before _ s = true := fun w h => hts0 w (List.mem_cons_of_mem _ h)
  have hown : s.vm.findClass RJx4a65c = some m.cls := findClass_of_methodNamed B.named
  have hlocks := B.notSynchronized
  have hS : va_S (pvB G) s.heap s.heap [] := va_S.rf
  have hl := lv_entry ([.ref (G.2.2.1 10 j), .int (nI i)]) (n := 2) (Nat.le_of_ble_eq_true rfl)
  rw [lg_entry_eq]
  generalize (lg_sl ([.ref (G.2.2.1 10 j), .int (nI i)]) ++ List.replicate (2 - (lg_sl ([.ref (G.2.2.1 10 j), .int (nI i)])).length) Slot.unset).toArray = ls at hl ⊢
  have hl : lv_has ls 2 [(0, .ref (G.2.2.1 10 j)), (1, .int (nI i))] := hl
  refine lv_iload_n hx hb dJx4a65c_get_915e3_0 rfl (lv_at hl 1 rfl) ?_
  refine lv_aload_n hx hb dJx4a65c_get_915e3_1 rfl (lv_at hl 0 rfl) ?_
  refine plS hx hb hts hown hK hw j hj inF_Jx4a65c (hts _ wm122) dJx4a65c_get_915e3_2 ?_
  refine pcalli (va_runS (As := [.int (nI i), .int (nI (σ.2.2.2.2 j).length)]) (rest := []) ⟨hx, hb, hml, hown, hts⟩ (c_check15 (l := l) (G := G) (tys := tys) (σ := σ) hi h64) (va_cwS 2 hts (gSA wm258 wm259 wm260 wm261) rfl rfl rfl (by decide +kernel) ⟨Nat.le_of_ble_eq_true rfl, Nat.le_of_ble_eq_true rfl⟩) (pv_preS hA hS hw hK [.int (nI i), .int (nI (σ.2.2.2.2 j).length)]) rfl rfl hl.1 rfl (lv_room (Nat.le_of_ble_eq_true rfl)) dJx4a65c_get_915e3_5 ⟨Nat.zero_le _, Nat.zero_le _⟩) hS (fun r σ1 H locs hp hw hS => ?_)
  obtain ⟨er, e1⟩ := hp
  obtain rfl := e1.symm
  refine lv_pop hx hb dJx4a65c_get_915e3_8 rfl ?_
  refine lv_aload_n hx hb dJx4a65c_get_915e3_9 rfl (lv_at hl 0 rfl) ?_
  refine lv_iload_n hx hb dJx4a65c_get_915e3_10 rfl (lv_at hl 1 rfl) ?_
  refine pcallq (va_runV (As := [.int (nI i)]) (rest := []) ⟨hx, hb, hml, hown, hts⟩ (c_lelem (l := l) (G := G) (tys := tys) (σ := σ) htys hj hi) (cwV 1 hts (gVA wm266 wm267 wm268 wm13 wm269) rfl rfl rfl (by decide +kernel) ⟨Nat.le_of_ble_eq_true rfl, Nat.le_of_ble_eq_true rfl⟩) (pl_preV hA hS hw hK j hj [.int (nI i)]) rfl rfl hl.1 rfl (lv_room (Nat.le_of_ble_eq_true rfl)) dJx4a65c_get_915e3_11 ⟨Nat.zero_le _, Nat.zero_le _⟩) hS (fun r σ1 H locs hp hw hS => ?_)
  exact peq hx hb hr (Or.inl ⟨_, rfl⟩) hlocks hA hw hK hS hp dJx4a65c_get_915e3_14
theorem c_lgetI {l : Launch} {G : PvG} {tys : List (ClassId × FieldType)} {σ : PvS} (htys : tys = pvT G) {j : Nat} (hj : j < σ.1 0 + 3) {x : Int32} (hi : vin x (σ.2.2.2.2 j).length) (h64 : (σ.2.2.2.2 j).length < 2 ^ 31) : Met l yJx4a65c_get_915e3 (Cond.code yJx4a65c_get_915e3 cJx4a65c_get_915e3 2 (some (.object "java/lang/Object")) :: WA) ({ frames := 2, cells := 0, slots := 0, locals := 43 }) (va_Pc [.ref (G.2.2.1 10 j), .int x] (pvU G tys σ)) (va_Qq (fun r σ' => r = some (G.2.2.1 (pvK j) ((σ.2.2.2.2 j).getD x.toNatClampNeg 0)) ∧ σ' = σ) (pvU G tys) (pvB G)) 0 0 (pvB G) := by
  obtain ⟨k, hk, rfl⟩ := vp_in_of hi h64
  rw [nI_clamp (Nat.lt_trans hk h64)]
  exact c_lget htys hj hk h64
end
section
/-! LISTS that are changed: one list laid open: its number of changes, its array, its size; arrays of objects that are its own -/
abbrev LxA : Type := Nat × Nat × (Nat → Option Nat)
def lxOwn (G : PvG) (σ : PvS) (j : Nat) (ba : Nat → Nat) (L : List Nat) (f : Nat → va_E) (x : LxA) : Prop :=
  x.1 ∈ L ∧ (∀ κ i, i < pvM σ κ → G.2.2.1 κ i ≠ x.1) ∧ (∀ j', j' < σ.1 0 + 3 → G.2.2.1 10 j' ≠ x.1) ∧ (∀ j', j' < σ.1 0 + 3 → j' ≠ j → ba j' ≠ x.1) ∧ (0 < x.2.1 ∧ x.2.1 ≤ 1000) ∧ f x.1 = .inl (G.1 3, x.2.1, .inr (.inr (.inr (.inr x.2.2)))) ∧ (∀ t y, x.2.2 t = some y → ∃ i, i < pvM σ (pvK j) ∧ y = G.2.2.1 (pvK j) i)
def lxIn (G : PvG) (σ : PvS) (j : Nat) (m : Int32) (b : Nat) (z : Int32) (AR : List LxA) (L : List Nat) (f : Nat → va_E) : Prop :=
  ∃ ba : Nat → Nat,
   (∀ j', j' < σ.1 0 + 3 → G.2.2.1 10 j' ∈ L ∧ (∀ κ i, i < pvM σ κ → G.2.2.1 κ i ≠ G.2.2.1 10 j') ∧ (∀ j'', j'' < σ.1 0 + 3 → G.2.2.1 10 j'' = G.2.2.1 10 j' → j'' = j')) ∧
   (∀ j', j' < σ.1 0 + 3 → j' ≠ j → ((σ.2.2.2.2 j').length ≤ 64 ∧ ∀ x ∈ σ.2.2.2.2 j', x < pvM σ (pvK j')) ∧ (∃ mc : Int32, f (G.2.2.1 10 j') = .inr (0, [.int mc, .ref (ba j'), .int (nI (σ.2.2.2.2 j').length)])) ∧
     ((σ.2.2.2.2 j' = [] ∧ ba j' = G.2.2.2.1.1 0) ∨ ∃ cap : Nat, ba j' ∈ L ∧ (∀ κ i, i < pvM σ κ → G.2.2.1 κ i ≠ ba j') ∧ (∀ j'', j'' < σ.1 0 + 3 → G.2.2.1 10 j'' ≠ ba j') ∧ (∀ j'', j'' < σ.1 0 + 3 → j'' ≠ j → ba j'' = ba j' → j'' = j') ∧ (σ.2.2.2.2 j').length ≤ cap ∧ (0 < cap ∧ cap ≤ 1000) ∧
      f (ba j') = .inl (G.1 3, cap, .inr (.inr (.inr (.inr (fun t => ((σ.2.2.2.2 j')[t]?).map (G.2.2.1 (pvK j')))))))))  ∧
   f (G.2.2.1 10 j) = .inr (0, [.int m, .ref b, .int z]) ∧ (∀ (k : Nat) (x : LxA), AR[k]? = some x → lxOwn G σ j ba L f x) ∧ (∀ (k k' : Nat) (x y : LxA), AR[k]? = some x → AR[k']? = some y → x.1 = y.1 → k = k')
def lxW (G : PvG) (σ : PvS) (j : Nat) (m : Int32) (b : Nat) (z : Int32) (AR : List LxA) (H : Heap) : Prop := ∃ (L : List Nat) (f : Nat → va_E), pvO G.1 G.2.2.1 σ L f ∧ lxIn G σ j m b z AR L f ∧ va_P G.2.1 pvC (va_pl L f) H ∧ va_D (fun q => G.2.2.2.2 q) (va_pl L f) ∧ ¬ G.2.2.2.2 (G.2.2.2.1.1 0) ∧ pvCl σ
/-- a list is laid open -/
theorem lx_open {G : PvG} {σ : PvS} {H : Heap} {j : Nat} (hw : pvW G σ H) (hj : j < σ.1 0 + 3) : (σ.2.2.2.2 j).length ≤ 64 ∧ (∀ x ∈ σ.2.2.2.2 j, x < pvM σ (pvK j)) ∧ ∃ (m : Int32) (b : Nat) (AR : List LxA), lxW G σ j m b (nI (σ.2.2.2.2 j).length) AR H ∧
    ((AR = [] ∧ b = G.2.2.2.1.1 0 ∧ σ.2.2.2.2 j = []) ∨ ∃ cap, AR = [(b, cap, fun t => ((σ.2.2.2.2 j)[t]?).map (G.2.2.1 (pvK j)))] ∧ (σ.2.2.2.2 j).length ≤ cap ∧ (0 < cap ∧ cap ≤ 1000)) := by
  obtain ⟨L, f, hO, ⟨ba, hL⟩, hP, hD, hz, hC⟩ := hw
  obtain ⟨⟨a1, a2, a3, a4, a5⟩, ⟨mc, b⟩, c9⟩ := hL j hj
  refine ⟨a4, a5, mc, ba j, ?_⟩
  have h1 : ∀ j', j' < σ.1 0 + 3 → G.2.2.1 10 j' ∈ L ∧ (∀ κ i, i < pvM σ κ → G.2.2.1 κ i ≠ G.2.2.1 10 j') ∧ (∀ j'', j'' < σ.1 0 + 3 → G.2.2.1 10 j'' = G.2.2.1 10 j' → j'' = j') := fun j' h => ⟨(hL j' h).1.1, (hL j' h).1.2.1, (hL j' h).1.2.2.1⟩
  have h2 : ∀ j', j' < σ.1 0 + 3 → j' ≠ j → ((σ.2.2.2.2 j').length ≤ 64 ∧ ∀ x ∈ σ.2.2.2.2 j', x < pvM σ (pvK j')) ∧ (∃ mc : Int32, f (G.2.2.1 10 j') = .inr (0, [.int mc, .ref (ba j'), .int (nI (σ.2.2.2.2 j').length)])) ∧
     ((σ.2.2.2.2 j' = [] ∧ ba j' = G.2.2.2.1.1 0) ∨ ∃ cap : Nat, ba j' ∈ L ∧ (∀ κ i, i < pvM σ κ → G.2.2.1 κ i ≠ ba j') ∧ (∀ j'', j'' < σ.1 0 + 3 → G.2.2.1 10 j'' ≠ ba j') ∧ (∀ j'', j'' < σ.1 0 + 3 → j'' ≠ j → ba j'' = ba j' → j'' = j') ∧ (σ.2.2.2.2 j').length ≤ cap ∧ (0 < cap ∧ cap ≤ 1000) ∧
      f (ba j') = .inl (G.1 3, cap, .inr (.inr (.inr (.inr (fun t => ((σ.2.2.2.2 j')[t]?).map (G.2.2.1 (pvK j')))))))) := by
    intro j' h _
    obtain ⟨⟨e1, e2, e3, e4, e5⟩, e6, e7⟩ := hL j' h
    refine ⟨⟨e4, e5⟩, e6, ?_⟩
    rcases e7 with e7 | ⟨cap, d1, d2, d3, d4, d5, d6, d7⟩
    · exact Or.inl e7
    · exact Or.inr ⟨cap, d1, d2, d3, fun j'' q _ => d4 j'' q, d5, d6, d7⟩
  rcases c9 with ⟨c1, c2⟩ | ⟨cap, c1, c2, c3, c4, c5, c6, c7⟩
  · exact ⟨[], ⟨L, f, hO, ⟨ba, h1, h2, b, fun k x q => by simp at q, fun k k' x y q => by simp at q⟩, hP, hD, hz, hC⟩, Or.inl ⟨rfl, c2, c1⟩⟩
  · refine ⟨_, ⟨L, f, hO, ⟨ba, h1, h2, b, fun k x q => ?_, fun k k' x y q q' _ => ?_⟩, hP, hD, hz, hC⟩, Or.inr ⟨cap, rfl, c5, c6⟩⟩
    · have hk : k = 0 := by
        have := (List.getElem?_eq_some_iff.mp q).1
        simp at this; exact this
      subst hk
      cases q
      refine ⟨c1, c2, c3, fun j' q q' z => q' (c4 j' q z), c6, c7, fun t y q => ?_⟩
      simp only [Option.map_eq_some_iff] at q
      obtain ⟨i, q1, q2⟩ := q
      exact ⟨i, a5 i (List.mem_of_getElem? q1), q2.symm⟩
    · have h1 := (List.getElem?_eq_some_iff.mp q).1
      have h2 := (List.getElem?_eq_some_iff.mp q').1
      simp at h1 h2
      rw [h1, h2]
/-- a list is closed again -/
theorem lx_close {G : PvG} {σ : PvS} {H : Heap} {j : Nat} {m : Int32} {b : Nat} {z : Int32} {AR : List LxA} {v : List Nat} {k cap : Nat} {g : Nat → Option Nat} (hj : j < σ.1 0 + 3) (h : lxW G σ j m b z AR H) (hv : v.length ≤ 64) (hc : ∀ x ∈ v, x < pvM σ (pvK j)) (hz : z = nI v.length)
    (ha : (v = [] ∧ b = G.2.2.2.1.1 0) ∨ (AR[k]? = some (b, cap, g) ∧ v.length ≤ cap ∧ ∀ t, g t = (v[t]?).map (G.2.2.1 (pvK j)))) : pvW G (pvL σ j v) H := by
  obtain ⟨L, f, hO, ⟨ba, h1, h2, h3, h4, h5⟩, hP, hD, hz0, hC⟩ := h
  obtain ⟨ba', eb1, eb2⟩ : ∃ ba' : Nat → Nat, ba' j = b ∧ ∀ i, i ≠ j → ba' i = ba i := ⟨fun i => if i = j then b else ba i, if_pos rfl, fun i h => if_neg h⟩
  refine ⟨L, f, hO, ⟨ba', fun j' hj' => ?_⟩, hP, hD, hz0, pvCl_c hC rfl rfl⟩
  have hj' : j' < σ.1 0 + 3 := hj'
  show (_ ∧ _ ∧ _ ∧ ((pvL σ j v).2.2.2.2 j').length ≤ 64 ∧ ∀ x ∈ (pvL σ j v).2.2.2.2 j', _) ∧ _
  rw [pvL_at]
  have hM : ∀ κ, pvM (pvL σ j v) κ = pvM σ κ := fun κ => rfl
  by_cases e : j' = j
  · subst e
    rw [if_pos rfl, eb1]
    refine ⟨⟨(h1 _ hj').1, (h1 _ hj').2.1, (h1 _ hj').2.2, hv, hc⟩, ⟨m, by rw [h3, hz]⟩, ?_⟩
    rcases ha with ⟨q1, q2⟩ | ⟨q1, q2, q3⟩
    · exact Or.inl ⟨q1, q2⟩
    · obtain ⟨d1, d2, d3, d4, d5, d6, d7⟩ := h4 _ _ q1
      refine Or.inr ⟨cap, d1, d2, d3, fun j'' hj'' hb => ?_, q2, d5, ?_⟩
      · by_cases e : j'' = j'
        · exact e
        · rw [eb2 j'' e] at hb
          exact absurd hb (d4 j'' hj'' e)
      · rw [d6]
        have : (fun t => g t) = fun t => (v[t]?).map (G.2.2.1 (pvK j')) := funext q3
        rw [← this]
  · rw [if_neg e, eb2 j' e]
    obtain ⟨⟨e1, e2⟩, e3, e4⟩ := h2 j' hj' e
    refine ⟨⟨(h1 _ hj').1, (h1 _ hj').2.1, (h1 _ hj').2.2, e1, e2⟩, e3, ?_⟩
    rcases e4 with e4 | ⟨cap', d1, d2, d3, d4, d5, d6, d7⟩
    · exact Or.inl e4
    · refine Or.inr ⟨cap', d1, d2, d3, fun j'' hj'' hb => ?_, d5, d6, d7⟩
      by_cases e' : j'' = j
      · subst e'
        rw [eb1] at hb
        rcases ha with ⟨q1, q2⟩ | ⟨q1, q2, q3⟩
        · exfalso
          obtain ⟨q0, hq⟩ := va_pl_get (X := []) (f := f) d1
          exact hz0 (by rw [← q2, hb]; exact hD.2 q0 _ hq)
        · exact absurd hb.symm ((h4 _ _ q1).2.2.2.1 j' hj' e)
      · rw [eb2 j'' e'] at hb
        exact d4 j'' hj'' e' hb
section LX
variable {p : Program} {l : Launch} {e : Env} {R : Room} {s : State} {m : MethodId} {args : Array Value} {below : List Frame} {meth : Method} {c : Code} {H : Heap} {locs : List Loc} {cells slots : Nat} {Q : State → Prop}
variable {cc : ByteArray} {pc : Nat} {ls : Array Slot} {rest st0 : List Value} {a : Array Value} {tys : List (ClassId × FieldType)} {H0 : Heap} {G : PvG} {σ : PvS} {mc ms : Nat} {j : Nat} {mm : Int32} {b : Nat} {z : Int32} {AR : List LxA} {own ref : String} {index : Nat}
theorem lxW.kept (h : lxW G σ j mm b z AR H) {H1 : Heap} (hq : ∀ q, q < H.size → H1[q]? = H[q]?) : lxW G σ j mm b z AR H1 := by
  obtain ⟨L, f, hO, hI, hP, hD, hz⟩ := h
  exact ⟨L, f, hO, hI, hP.kept (fun k x hx => hq x.1 ((hP k x hx).lt)), hD, hz⟩
theorem lxGet (hx : p.tables.exec = Jvm.exec) (hb : c.code = cc) (hts : ∀ w ∈ WA, w.before args s = true) (hown : s.vm.findClass own = some m.cls) (hK : va_K G.2.1 pvC tys s) (hw : lxW G σ j mm b z AR H) (hj : j < σ.1 0 + 3) (k : Nat) (hk : k < 3) {v : Value} (hv : ([.int mm, .ref b, .int z] : List Value)[k]? = some v) (hlink : (Cond.fieldLink own index ref (TJx4a65c k).2.1 (TJx4a65c k).2.2.1).before args s = true) (hsame : ∀ x, s.fieldFound? (TJx4a65c k).1 (TJx4a65c k).2.1 (TJx4a65c k).2.2.1 = some x → s.fieldFound? ref (TJx4a65c k).2.1 (TJx4a65c k).2.2.1 = some x) (hdg : decode cc pc = .ok (.getfield index, 3))
    (kk : W p l e R s m args below meth c H locs cells slots Q (F0 m (pc + 3) ls (v :: rest))) : W p l e R s m args below meth c H locs cells slots Q (F0 m pc ls (.ref (G.2.2.1 10 j) :: rest)) := by
  obtain ⟨L, f, hO, ⟨ba, h1, h2, h3, h4⟩, hP, hD, hz⟩ := hw
  obtain ⟨q0, hq⟩ := va_pl_get (X := []) (f := f) (h1 j hj).1
  exact va_get (D := G.2.1) (ci := 0) (fs := [.int mm, .ref b, .int z]) hx hb hts inF_Jx4a65c hown hK hP q0 (by rw [← h3]; exact hq) rfl k hk hlink hsame hv hdg kk
theorem lxPut (hx : p.tables.exec = Jvm.exec) (hb : c.code = cc) (hts : ∀ w ∈ WA, w.before args s = true) (hown : s.vm.findClass own = some m.cls) (hK : va_K G.2.1 pvC tys s) (hw : lxW G σ j mm b z AR H) (hS : va_S (pvB G) H0 H locs) (hj : j < σ.1 0 + 3) (k : Nat) (hk : k < 3) {v : Value} {mm' : Int32} {b' : Nat} {z' : Int32} (hv : ([.int mm, .ref b, .int z] : List Value).set k v = [.int mm', .ref b', .int z']) {ty : FieldType} (hlink : (Cond.fieldLink own index ref (TJx4a65c k).2.1 (TJx4a65c k).2.2.1).before args s = true) (hsame : ∀ x, s.fieldFound? (TJx4a65c k).1 (TJx4a65c k).2.1 (TJx4a65c k).2.2.1 = some x → s.fieldFound? ref (TJx4a65c k).2.1 (TJx4a65c k).2.2.1 = some x) (hfin : (TJx4a65c k).2.2.2 = false) (hd : parseFieldDescriptor (TJx4a65c k).2.2.1 = some ty) (hn : narrow ty v = v) (hfit : fits ty v = true) (hdg : decode cc pc = .ok (.putfield index, 3))
    (kk : ∀ (H1 : Heap) (locs1 : List Loc), lxW G σ j mm' b' z' AR H1 → va_S (pvB G) H0 H1 locs1 → W p l e R s m args below meth c H1 locs1 cells slots Q (F0 m (pc + 3) ls rest)) : W p l e R s m args below meth c H locs cells slots Q (F0 m pc ls (v :: .ref (G.2.2.1 10 j) :: rest)) := by
  obtain ⟨L, f, hO, ⟨ba, h1, h2, h3, h4, h5⟩, hP, hD, hz⟩ := hw
  obtain ⟨q0, hq⟩ := va_pl_get (X := []) (f := f) (h1 j hj).1
  have hq : (va_pl L f)[q0]? = some (G.2.2.1 10 j, f (G.2.2.1 10 j)) := hq
  refine va_put (D := G.2.1) (ci := 0) (fs := [.int mm, .ref b, .int z]) hx hb hts inF_Jx4a65c tyJx4a65c tyJx4a65c_ok nmJx4a65c hown hK hP hD hS q0 (by rw [← h3]; exact hq) rfl k hk hlink hsame hfin hd hn hfit hk hdg fun H1 locs1 hP1 hD1 hS1 => ?_
  rw [hv] at hP1 hD1
  have hset := va_pl_set (X := []) (e := .inr (0, [.int mm', .ref b', .int z'])) hD (h1 j hj).1 hq
  have hP2 : va_P G.2.1 pvC ([] ++ va_pl L (va_up f (G.2.2.1 10 j) (.inr (0, [.int mm', .ref b', .int z'])))) H1 := by rw [← hset]; exact hP1
  have hD2 : va_D (fun q => G.2.2.2.2 q) ([] ++ va_pl L (va_up f (G.2.2.1 10 j) (.inr (0, [.int mm', .ref b', .int z'])))) := by rw [← hset]; exact hD1
  refine kk H1 locs1 ⟨L, _, ⟨fun κ i hi => ⟨(hO.1 κ i hi).1, ?_⟩, hO.2⟩, ⟨ba, h1, fun j' hj' e => ?_, va_up_self .., fun k x q => ?_, h5⟩, hP2, hD2, hz⟩ hS1
  · rw [va_up_ne _ _ ((h1 j hj).2.1 κ i hi)]
    exact (hO.1 κ i hi).2
  · obtain ⟨e1, ⟨mc, e2⟩, e3⟩ := h2 j' hj' e
    refine ⟨e1, ⟨mc, ?_⟩, ?_⟩
    · rw [va_up_ne _ _ (fun q => e ((h1 j hj).2.2 j' hj' q))]
      exact e2
    · rcases e3 with e3 | ⟨cap, d1, d2, d3, d4, d5, d6, d7⟩
      · exact Or.inl e3
      · exact Or.inr ⟨cap, d1, d2, d3, d4, d5, d6, by rw [va_up_ne _ _ (fun q => d3 j hj q.symm)]; exact d7⟩
  · obtain ⟨d1, d2, d3, d4, d5, d6, d7⟩ := h4 k x q
    exact ⟨d1, d2, d3, d4, d5, by rw [va_up_ne _ _ (fun q => d3 j hj q.symm)]; exact d6, d7⟩
theorem lxLen (hx : p.tables.exec = Jvm.exec) (hb : c.code = cc) (hK : va_K G.2.1 pvC tys s) (htys : tys = pvT G) (hw : lxW G σ j mm b z AR H) (k : Nat) {x : LxA} (hk : AR[k]? = some x) (hdg : decode cc pc = .ok (.arraylength, 1))
    (kk : W p l e R s m args below meth c H locs cells slots Q (F0 m (pc + 1) ls (.int (nI x.2.1) :: rest))) : W p l e R s m args below meth c H locs cells slots Q (F0 m pc ls (.ref x.1 :: rest)) := by
  obtain ⟨L, f, hO, ⟨ba, h1, h2, h3, h4, h5⟩, hP, hD, hz⟩ := hw
  obtain ⟨d1, d2, d3, d4, d5, d6, d7⟩ := h4 k x hk
  obtain ⟨q0, hq⟩ := va_pl_get (X := []) (f := f) d1
  subst htys
  exact va_alen (D := G.2.1) (x := (x.2.1, .inr (.inr (.inr (.inr x.2.2))))) hx hb hK hP q0 3 (by rw [← d6]; exact hq) rfl rfl hdg kk
theorem lxLd (hx : p.tables.exec = Jvm.exec) (hb : c.code = cc) (hK : va_K G.2.1 pvC tys s) (htys : tys = pvT G) (hw : lxW G σ j mm b z AR H) (k : Nat) {x : LxA} (hk : AR[k]? = some x) {i : Int32} (hin : vp_in i x.2.1) (hdg : decode cc pc = .ok (.aaload, 1))
    (kk : W p l e R s m args below meth c H locs cells slots Q (F0 m (pc + 1) ls (va_rf (x.2.2 i.toNatClampNeg) :: rest))) : W p l e R s m args below meth c H locs cells slots Q (F0 m pc ls (.int i :: .ref x.1 :: rest)) := by
  obtain ⟨L, f, hO, ⟨ba, h1, h2, h3, h4, h5⟩, hP, hD, hz⟩ := hw
  obtain ⟨d1, d2, d3, d4, d5, d6, d7⟩ := h4 k x hk
  obtain ⟨q0, hq⟩ := va_pl_get (X := []) (f := f) d1
  subst htys
  exact va_aldq (D := G.2.1) hx hb hK hP q0 3 (by rw [← d6]; exact hq) rfl hin hdg kk
/-- an array of the list's is given other contents -/
theorem lx_set {L : List Nat} {f : Nat → va_E} (hO : pvO G.1 G.2.2.1 σ L f) (hI : lxIn G σ j mm b z AR L f) {k : Nat} {x : LxA} (hk : AR[k]? = some x) {g : Nat → Option Nat} (hg : ∀ t y, g t = some y → ∃ i, i < pvM σ (pvK j) ∧ y = G.2.2.1 (pvK j) i) (hj : j < σ.1 0 + 3) :
    pvO G.1 G.2.2.1 σ L (va_up f x.1 (.inl (G.1 3, x.2.1, .inr (.inr (.inr (.inr g)))))) ∧ lxIn G σ j mm b z (AR.set k (x.1, x.2.1, g)) L (va_up f x.1 (.inl (G.1 3, x.2.1, .inr (.inr (.inr (.inr g)))))) := by
  obtain ⟨ba, h1, h2, h3, h4, h5⟩ := hI
  obtain ⟨d1, d2, d3, d4, d5, d6, d7⟩ := h4 k x hk
  have hlt := (List.getElem?_eq_some_iff.mp hk).1
  refine ⟨⟨fun κ i hi => ⟨(hO.1 κ i hi).1, by rw [va_up_ne _ _ (d2 κ i hi)]; exact (hO.1 κ i hi).2⟩, hO.2⟩, ba, h1, fun j' hj' e => ?_, by rw [va_up_ne _ _ (d3 j hj)]; exact h3, fun k' y q => ?_, fun k1 k2 y1 y2 q1 q2 q3 => ?_⟩
  · obtain ⟨e1, ⟨mc, e2⟩, e3⟩ := h2 j' hj' e
    refine ⟨e1, ⟨mc, by rw [va_up_ne _ _ (d3 j' hj')]; exact e2⟩, ?_⟩
    rcases e3 with e3 | ⟨cap, c1, c2, c3, c4, c5, c6, c7⟩
    · exact Or.inl e3
    · exact Or.inr ⟨cap, c1, c2, c3, c4, c5, c6, by rw [va_up_ne _ _ (d4 j' hj' e)]; exact c7⟩
  · rw [List.getElem?_set] at q
    split at q
    · rename_i e
      subst e
      cases q
      exact ⟨d1, d2, d3, d4, d5, va_up_self .., hg⟩
    · rename_i e
      obtain ⟨c1, c2, c3, c4, c5, c6, c7⟩ := h4 k' y q
      exact ⟨c1, c2, c3, c4, c5, by rw [va_up_ne _ _ (fun z => e (h5 _ _ _ _ q hk z).symm)]; exact c6, c7⟩
  · have key : ∀ (k1 : Nat) (y1 : LxA), (AR.set k (x.1, x.2.1, g))[k1]? = some y1 → ∃ y : LxA, AR[k1]? = some y ∧ y.1 = y1.1 := by
      intro k1 y1 q
      rw [List.getElem?_set] at q
      split at q
      · rename_i e
        subst e
        cases q
        exact ⟨x, hk, rfl⟩
      · exact ⟨y1, q, rfl⟩
    obtain ⟨z1, a1, b1⟩ := key k1 y1 q1
    obtain ⟨z2, a2, b2⟩ := key k2 y2 q2
    exact h5 _ _ _ _ a1 a2 (by rw [b1, b2]; exact q3)
theorem lx_any {κ i : Nat} (hA : pvA0 G s s.heap) (hK : va_K G.2.1 pvC tys s) {L : List Nat} {f : Nat → va_E} (hO : pvO G.1 G.2.2.1 σ L f) (hP : va_P G.2.1 pvC (va_pl L f) H) (hi : i < pvM σ κ) (hκ : κ = 3 ∨ κ = 5) : va_Any "java/lang/Object" s H (G.2.2.1 κ i) := by
  obtain ⟨ha, he⟩ := hO.1 κ i hi
  obtain ⟨q0, hq⟩ := va_pl_get (X := []) (f := f) ha
  rw [he] at hq
  have hcast : ∀ C : String, va_Nw (.castable C "java/lang/Object") s → ∀ comp c0 : ClassId, s.vm.findClass "java/lang/Object" = some comp → s.vm.findClass C = some c0 → s.vm.assignable c0 comp = true := by
    intro C h comp c0 h1 h2
    obtain ⟨c1, t1, f1, f2, f3⟩ := Cond.castable_spec (va_Nw.use (A := #[]) rfl h)
    cases h2.symm.trans f1
    cases h1.symm.trans f2
    exact f3
  rcases hκ with rfl | rfl
  · rw [pvE_obj (by decide)] at hq
    exact va_rAny (r := (RX3, TX3, 14)) hK hP hq rfl (hcast _ hA.2.2.2.2.2.2.2.2.2.2.2.1)
  · rw [pvE_obj (by decide)] at hq
    exact va_rAny (r := (RX5, TX5, 10)) hK hP hq rfl (hcast _ hA.2.2.2.2.2.2.2.2.2.2.2.2.1)
theorem pvK_or (j : Nat) : pvK j = 3 ∨ pvK j = 5 := by unfold pvK; split <;> simp
theorem lxSt (hx : p.tables.exec = Jvm.exec) (hb : c.code = cc) (hA : pvA0 G s s.heap) (hK : va_K G.2.1 pvC tys s) (htys : tys = pvT G) (hw : lxW G σ j mm b z AR H) (hS : va_S (pvB G) H0 H locs) (hj : j < σ.1 0 + 3) (k : Nat) {x : LxA} (hk : AR[k]? = some x) {v : Nat} (hv : v < pvM σ (pvK j)) {i : Int32} (hin : vp_in i x.2.1) (hdg : decode cc pc = .ok (.aastore, 1))
    (kk : ∀ (H1 : Heap) (locs1 : List Loc), lxW G σ j mm b z (AR.set k (x.1, x.2.1, va_up x.2.2 i.toNatClampNeg (some (G.2.2.1 (pvK j) v)))) H1 → va_S (pvB G) H0 H1 locs1 → W p l e R s m args below meth c H1 locs1 cells slots Q (F0 m (pc + 1) ls rest)) : W p l e R s m args below meth c H locs cells slots Q (F0 m pc ls (.ref (G.2.2.1 (pvK j) v) :: .int i :: .ref x.1 :: rest)) := by
  obtain ⟨L, f, hO, hI, hP, hD, hz⟩ := hw
  have hI2 := hI
  obtain ⟨ba, h1, h2, h3, h4, h5⟩ := hI
  obtain ⟨d1, d2, d3, d4, d5, d6, d7⟩ := h4 k x hk
  obtain ⟨q0, hq⟩ := va_pl_get (X := []) (f := f) d1
  have hq : (va_pl L f)[q0]? = some (x.1, f x.1) := hq
  have hany := lx_any hA hK hO hP hv (pvK_or j)
  subst htys
  refine va_astqM (D := G.2.1) hx hb hK hP hD hS q0 3 (by rw [← d6]; exact hq) rfl hany hin hdg fun H1 locs1 hP1 hD1 hS1 => ?_
  have hset := va_pl_set (X := []) (e := .inl (G.1 3, x.2.1, .inr (.inr (.inr (.inr (va_up x.2.2 i.toNatClampNeg (some (G.2.2.1 (pvK j) v)))))))) hD d1 hq
  obtain ⟨g1, g2⟩ := lx_set hO hI2 hk (g := va_up x.2.2 i.toNatClampNeg (some (G.2.2.1 (pvK j) v))) (fun t y q => by
    unfold va_up at q
    split at q
    · cases q; exact ⟨v, hv, rfl⟩
    · exact d7 t y q) hj
  exact kk H1 locs1 ⟨L, _, g1, g2, by rw [← List.nil_append (va_pl L _), ← hset]; exact hP1, by rw [← List.nil_append (va_pl L _), ← hset]; exact hD1, hz⟩ hS1
theorem lxStN (hx : p.tables.exec = Jvm.exec) (hb : c.code = cc) (hK : va_K G.2.1 pvC tys s) (htys : tys = pvT G) (hw : lxW G σ j mm b z AR H) (hS : va_S (pvB G) H0 H locs) (hj : j < σ.1 0 + 3) (k : Nat) {x : LxA} (hk : AR[k]? = some x) {i : Int32} (hin : vp_in i x.2.1) (hdg : decode cc pc = .ok (.aastore, 1))
    (kk : ∀ (H1 : Heap) (locs1 : List Loc), lxW G σ j mm b z (AR.set k (x.1, x.2.1, va_up x.2.2 i.toNatClampNeg none)) H1 → va_S (pvB G) H0 H1 locs1 → W p l e R s m args below meth c H1 locs1 cells slots Q (F0 m (pc + 1) ls rest)) : W p l e R s m args below meth c H locs cells slots Q (F0 m pc ls (.null :: .int i :: .ref x.1 :: rest)) := by
  obtain ⟨L, f, hO, hI, hP, hD, hz⟩ := hw
  have hI2 := hI
  obtain ⟨ba, h1, h2, h3, h4, h5⟩ := hI
  obtain ⟨d1, d2, d3, d4, d5, d6, d7⟩ := h4 k x hk
  obtain ⟨q0, hq⟩ := va_pl_get (X := []) (f := f) d1
  have hq : (va_pl L f)[q0]? = some (x.1, f x.1) := hq
  subst htys
  refine va_astqN (D := G.2.1) hx hb hK hP hD hS q0 3 (by rw [← d6]; exact hq) rfl hin hdg fun H1 locs1 hP1 hD1 hS1 => ?_
  have hset := va_pl_set (X := []) (e := .inl (G.1 3, x.2.1, .inr (.inr (.inr (.inr (va_up x.2.2 i.toNatClampNeg none)))))) hD d1 hq
  obtain ⟨g1, g2⟩ := lx_set hO hI2 hk (g := va_up x.2.2 i.toNatClampNeg none) (fun t y q => by
    unfold va_up at q
    split at q
    · cases q
    · exact d7 t y q) hj
  exact kk H1 locs1 ⟨L, _, g1, g2, by rw [← List.nil_append (va_pl L _), ← hset]; exact hP1, by rw [← List.nil_append (va_pl L _), ← hset]; exact hD1, hz⟩ hS1
/-- System.arraycopy between the list's arrays (or within one) -/
theorem lxCp (hx : p.tables.exec = Jvm.exec) (hb : c.code = cc) (hml : c.maxLocals = ls.size) (hown : s.vm.findClass own = some m.cls) (hlink : (Cond.methodLink own index arraycopyName).before args s = true) (hnat : (Cond.native arraycopyName).before args s = true) (hstat : (Cond.static arraycopyName).before args s = true) (hini : (Cond.initialized "java/lang/System").before args s = true)
    (hA : pvA0 G s s.heap) (hK : va_K G.2.1 pvC tys s) (htys : tys = pvT G) (hw : lxW G σ j mm b z AR H) (hS : va_S (pvB G) H0 H locs) (hj : j < σ.1 0 + 3) (k k' : Nat) {x y : LxA} (hk : AR[k]? = some x) (hk' : AR[k']? = some y) {sp dp n : Int32} (h1 : ¬ sp < 0) (h2 : ¬ dp < 0) (h3 : ¬ n < 0) (h4 : sp.toNatClampNeg + n.toNatClampNeg ≤ x.2.1) (h5 : dp.toNatClampNeg + n.toNatClampNeg ≤ y.2.1)
    (hframes : 1 ≤ R.frames) (hlocals : (rest.map fun v => v.category).sum + (nativeFrameWords "java/lang/System" "arraycopy" 5 + 11) ≤ R.locals) (hdg : decode cc pc = .ok (.invokestatic index, 3))
    (kk : ∀ (H1 : Heap) (locs1 : List Loc), lxW G σ j mm b z (AR.set k' (y.1, y.2.1, va_cpy x.2.2 y.2.2 sp.toNatClampNeg dp.toNatClampNeg n.toNatClampNeg)) H1 → va_S (pvB G) H0 H1 locs1 → W p l e R s m args below meth c H1 locs1 cells slots Q (F0 m (pc + 3) ls rest)) : W p l e R s m args below meth c H locs cells slots Q (F0 m pc ls (.int n :: .int dp :: .ref y.1 :: .int sp :: .ref x.1 :: rest)) := by
  obtain ⟨L, f, hO, hI, hP, hD, hz⟩ := hw
  have hI2 := hI
  obtain ⟨ba, g1, g2, g3, g4, g5⟩ := hI
  obtain ⟨d1, d2, d3, d4, d5, d6, d7⟩ := g4 k x hk
  obtain ⟨e1, e2, e3, e4, e5, e6, e7⟩ := g4 k' y hk'
  obtain ⟨q0, hq⟩ := va_pl_get (X := []) (f := f) d1
  obtain ⟨q1, hq1⟩ := va_pl_get (X := []) (f := f) e1
  have hq1 : (va_pl L f)[q1]? = some (y.1, f y.1) := hq1
  subst htys
  refine va_copyM (D := G.2.1) hx hb hml hown hlink hnat hstat hini hK hP hD hS q0 q1 3 3 (by rw [← d6]; exact hq) (by rw [← e6]; exact hq1) rfl rfl h1 h2 h3 h4 h5 (fun i _ w hw => ?_) hframes hlocals hdg fun H1 locs1 hP1 hD1 hS1 => ?_
  · obtain ⟨i', hi', rfl⟩ := d7 _ w hw
    exact lx_any hA hK hO hP hi' (pvK_or j)
  · have hset := va_pl_set (X := []) (e := .inl (G.1 3, y.2.1, .inr (.inr (.inr (.inr (va_cpy x.2.2 y.2.2 sp.toNatClampNeg dp.toNatClampNeg n.toNatClampNeg)))))) hD e1 hq1
    obtain ⟨a1, a2⟩ := lx_set hO hI2 hk' (g := va_cpy x.2.2 y.2.2 sp.toNatClampNeg dp.toNatClampNeg n.toNatClampNeg) (fun t w q => by
      by_cases hin : dp.toNatClampNeg ≤ t ∧ t < dp.toNatClampNeg + n.toNatClampNeg
      · rw [pk_cpy_in hin.1 hin.2] at q; exact d7 _ w q
      · rw [pk_cpy_out (by omega)] at q; exact e7 _ w q) hj
    exact kk H1 locs1 ⟨L, _, a1, a2, by rw [← List.nil_append (va_pl L _), ← hset]; exact hP1, by rw [← List.nil_append (va_pl L _), ← hset]; exact hD1, hz⟩ hS1
/-- a new array of objects -/
theorem lxNew (hx : p.tables.exec = Jvm.exec) (hb : c.code = cc) (hown : s.vm.findClass own = some m.cls) (hcl : (Cond.classLink own index "java/lang/Object").before args s = true) (hA : pvA0 G s s.heap) (hK : va_K G.2.1 pvC tys s) (htys : tys = pvT G) (hw : lxW G σ j mm b z AR H) (hS : va_S (pvB G) s.heap H locs) (hj : j < σ.1 0 + 3) {N : Nat} (hN : 0 < N ∧ N ≤ 1000) (hcells : cells + 1 ≤ R.cells) (hslots : slots + N ≤ R.slots) (hdg : decode cc pc = .ok (.anewarray index, 3))
    (kk : ∀ (q : Nat) (H1 : Heap) (locs1 : List Loc), lxW G σ j mm b z (AR ++ [(q, N, fun _ => none)]) H1 → va_S (pvB G) s.heap H1 locs1 → W p l e R s m args below meth c H1 locs1 (cells + 1) (slots + N) Q (F0 m (pc + 3) ls (.ref q :: rest))) : W p l e R s m args below meth c H locs cells slots Q (F0 m pc ls (.int (nI N) :: rest)) := by
  obtain ⟨L, f, hO, ⟨ba, g1, g2, g3, g4, g5⟩, hP, hD, hz⟩ := hw
  have hN2 : N < 2 ^ 31 := by omega
  refine va_newq (D := G.2.1) hx hb hown hcl hA.2.2.2.2.2.2.2.2.2.2.2.2.2.1 hK hP hD hS hA.1 (nI_pos hN2) (nI_clamp hN2) (by omega) hcells hslots hdg fun q cA H1 hK1 hP1 hD1 hS1 => ?_
  have hcA : cA = G.1 3 := by
    have a1 := (hK1.2 tys.length (cA, .object "java/lang/Object") (by simp)).2
    have a2 := (hK.2 3 (G.1 3, .object "java/lang/Object") (by rw [htys]; rfl)).2
    obtain ⟨_, _, _, _, _, b1⟩ := a1
    obtain ⟨_, _, _, _, _, b2⟩ := a2
    exact Option.some.inj (b1.symm.trans b2)
  subst hcA
  have hql : q ∉ L := by
    intro hq
    obtain ⟨i, hi⟩ := va_pl_get (X := []) (f := f) hq
    have hi : (va_pl L f)[i]? = some (q, f q) := hi
    have hlt := (List.getElem?_eq_some_iff.mp hi).1
    have := hD1.1 i (va_pl L f).length (q, f q) (q, .inl (G.1 3, N, .inr (.inr (.inr (.inr (fun _ => none)))))) (by rw [List.getElem?_append_left hlt]; exact hi) (by simp) rfl
    omega
  have hpush := va_pl_push (f := f) (e := .inl (G.1 3, N, .inr (.inr (.inr (.inr (fun _ => none)))))) hql
  rw [hpush] at hP1 hD1
  have hne : ∀ w, w ∈ L → w ≠ q := fun w hw e => hql (e ▸ hw)
  refine kk q H1 locs ⟨L ++ [q], _, ⟨fun κ i hi => ⟨List.mem_append_left _ (hO.1 κ i hi).1, by rw [va_up_ne _ _ (hne _ (hO.1 κ i hi).1)]; exact (hO.1 κ i hi).2⟩, hO.2⟩, ⟨ba, fun j' hj' => ⟨List.mem_append_left _ (g1 j' hj').1, (g1 j' hj').2⟩, fun j' hj' e => ?_, ?_, fun k x hx => ?_, fun k k' x y hx hy e => ?_⟩, hP1, hD1, hz⟩ hS1
  · obtain ⟨e1, ⟨mc, e2⟩, e3⟩ := g2 j' hj' e
    refine ⟨e1, ⟨mc, by rw [va_up_ne _ _ (hne _ (g1 j' hj').1)]; exact e2⟩, ?_⟩
    rcases e3 with e3 | ⟨cap, c1, c2, c3, c4, c5, c6, c7⟩
    · exact Or.inl e3
    · exact Or.inr ⟨cap, List.mem_append_left _ c1, c2, c3, c4, c5, c6, by rw [va_up_ne _ _ (hne _ c1)]; exact c7⟩
  · rw [va_up_ne _ _ (hne _ (g1 j hj).1)]; exact g3
  · by_cases hlt : k < AR.length
    · rw [List.getElem?_append_left hlt] at hx
      obtain ⟨c1, c2, c3, c4, c5, c6, c7⟩ := g4 k x hx
      exact ⟨List.mem_append_left _ c1, c2, c3, c4, c5, by rw [va_up_ne _ _ (hne _ c1)]; exact c6, c7⟩
    · rw [List.getElem?_append_right (by omega)] at hx
      have h0 := (List.getElem?_eq_some_iff.mp hx).1
      have h0 : k - AR.length = 0 := by simpa using h0
      rw [h0] at hx
      cases hx
      refine ⟨by simp, fun κ i hi => hne _ (hO.1 κ i hi).1, fun j' hj' => hne _ (g1 j' hj').1, fun j' hj' e w => ?_, hN, va_up_self .., fun t y w => by cases w⟩
      rcases (g2 j' hj' e).2.2 with ⟨-, e3⟩ | ⟨cap, c1, -⟩
      · have : G.2.2.2.2 q := by
          have := hD1.2 L.length (q, (va_up f q (.inl (G.1 3, N, .inr (.inr (.inr (.inr (fun _ => none))))))) q) (by simp [va_pl])
          exact this
        exact hz.1 (by rw [← e3]; exact w ▸ this)
      · exact hne _ c1 w
  · have key : ∀ (k : Nat) (x : LxA), (AR ++ [(q, N, fun _ => none)])[k]? = some x → (AR[k]? = some x ∧ x.1 ∈ L) ∨ (k = AR.length ∧ x.1 = q) := by
      intro k x hx
      by_cases hlt : k < AR.length
      · rw [List.getElem?_append_left hlt] at hx
        exact Or.inl ⟨hx, (g4 k x hx).1⟩
      · rw [List.getElem?_append_right (by omega)] at hx
        have h0 := (List.getElem?_eq_some_iff.mp hx).1
        have h0 : k - AR.length = 0 := by simpa using h0
        rw [h0] at hx
        cases hx
        exact Or.inr ⟨by omega, rfl⟩
    rcases key k x hx with ⟨a1, b1⟩ | ⟨a1, b1⟩ <;> rcases key k' y hy with ⟨a2, b2⟩ | ⟨a2, b2⟩
    · exact g5 _ _ _ _ a1 a2 e
    · exact absurd (e.trans b2) (hne _ b1)
    · exact absurd (e.symm.trans b1) (hne _ b2)
    · rw [a1, a2]
end LX
end
section
/-! LISTS, changed: the methods of java.util.ArrayList that do it -/
def pvUx (G : PvG) (tys : List (ClassId × FieldType)) (σ : PvS) (j : Nat) (m : Int32) (b : Nat) (z : Int32) (AR : List LxA) (U : State) : Prop := lxW G σ j m b z AR U.heap ∧ va_K G.2.1 pvC tys U ∧ pvA0 G U U.heap
theorem pvUx_calling {G : PvG} {tys : List (ClassId × FieldType)} {σ : PvS} {j : Nat} {mm : Int32} {b : Nat} {z : Int32} {AR : List LxA} {av : List Value} : FrameBlind (va_Pc av (pvUx G tys σ j mm b z AR)) := fun a U g mk q => ⟨q.1, q.2.1, va_K.moved (u := U) (U := U.calling g mk a) (Vm.Alike.refl U.vm) q.2.2.1, q.2.2.2.calling⟩
section LXC
variable {p : Program} {l : Launch} {e : Env} {R : Room} {s : State} {m : MethodId} {args : Array Value} {below : List Frame} {meth : Method} {c : Code} {H : Heap} {locs : List Loc} {cells slots : Nat} {Q : State → Prop}
variable {cc : ByteArray} {pc : Nat} {ls : Array Slot} {rest st0 : List Value} {a : Array Value} {tys : List (ClassId × FieldType)} {H0 : Heap} {G : PvG} {σ : PvS} {mc ms : Nat} {j : Nat} {mm : Int32} {b : Nat} {z : Int32} {AR : List LxA}
theorem lx_preS (hA : pvA0 G s s.heap) (hS : va_S (pvB G) s.heap H locs) (hw : lxW G σ j mm b z AR H) (hK : va_K G.2.1 pvC tys s) (As : List Value) : PreS s H (va_Pc As (pvUx G tys σ j mm b z AR)) As :=
  ⟨pvUx_calling, fun U hU hW => ⟨rfl, by rw [hU]; exact hw, va_K.moved hW.alike hK, hA.to hS hW hU⟩⟩
theorem lx_recv (hw : lxW G σ j mm b z AR H) (hK : va_K G.2.1 pvC tys s) (hj : j < σ.1 0 + 3) : ∃ cell : Cell, H[G.2.2.1 10 j]? = some cell ∧ cell.vm.isStatics = false ∧ s.vm.findClass RJx4a65c = some cell.cls := by
  obtain ⟨L, f, hO, ⟨ba, h1, h2, h3, h4⟩, hP, hD, hz⟩ := hw
  obtain ⟨q0, hq⟩ := va_pl_get (X := []) (f := f) (h1 j hj).1
  exact va_recv (ci := 0) hK hP rfl (by rw [← h3]; exact hq)
theorem lx_preV (hA : pvA0 G s s.heap) (hS : va_S (pvB G) s.heap H locs) (hw : lxW G σ j mm b z AR H) (hK : va_K G.2.1 pvC tys s) (hj : j < σ.1 0 + 3) (As : List Value) : PreV s H RJx4a65c (G.2.2.1 10 j) (va_Pc (.ref (G.2.2.1 10 j) :: As) (pvUx G tys σ j mm b z AR)) As :=
  ⟨pvUx_calling, lx_recv hw hK hj, fun U hU hW => ⟨rfl, by rw [hU]; exact hw, va_K.moved hW.alike hK, hA.to hS hW hU⟩⟩
theorem lx_arr (hw : lxW G σ j mm b z AR H) (hK : va_K G.2.1 pvC tys s) (htys : tys = pvT G) {k : Nat} {x : LxA} (hk : AR[k]? = some x) : ∃ cell : Cell, H[x.1]? = some cell ∧ cell.vm.isStatics = false ∧ s.vm.findClass "[Ljava/lang/Object;" = some cell.cls := by
  obtain ⟨L, f, hO, ⟨ba, h1, h2, h3, h4, h5⟩, hP, hD, hz⟩ := hw
  obtain ⟨d1, d2, d3, d4, d5, d6, d7⟩ := h4 k x hk
  obtain ⟨q0, hq⟩ := va_pl_get (X := []) (f := f) d1
  have hc : H[x.1]? = some (vp_cell (G.1 3) (x.2.1, .inr (.inr (.inr (.inr x.2.2))))) := by
    have := hP q0 _ hq
    rw [d6] at this
    exact this
  subst htys
  obtain ⟨_, _, _, _, _, b2⟩ := (hK.2 3 (G.1 3, .object "java/lang/Object") rfl).2
  exact ⟨_, hc, rfl, b2⟩
/-- what an array of the list's holds behind a change -/
def lxHas (AR : List LxA) (b cap : Nat) (g : Nat → Option Nat) : Prop := ∃ k : Nat, AR[k]? = some (b, cap, g)
end LXC
set_option maxHeartbeats 4000000 in
set_option maxRecDepth 100000 in
theorem c_newLength {l : Launch} {x y w : Int32} (h1 : 0 < x + imax y w) (h2 : x + imax y w ≤ 2147483639) : Met l yJ8_newLength_cabcc (Cond.code yJ8_newLength_cabcc cJ8_newLength_cabcc 4 (some .int) :: WA) ({ frames := 1, cells := 0, slots := 0, locals := 14 }) (va_Pc [.int x, .int y, .int w] (fun _ => True)) (va_Qi (fun r (_ : Unit) => r = x + imax y w) (fun _ _ => True) (fun _ => False)) 0 0 (fun _ => False) := by
  refine Met.ofW (cc := cJ8_newLength_cabcc) (maxL := 4) (ret := (some .int)) (by decide) rfl ?_
  intro p e s m args below meth c s₁ B hml hv
  obtain ⟨rfl, -⟩ := hv
  have hx := B.exec
  have hb := B.bytes
  have hr := B.returns
  have hts0 := atoms_spec (ws := (Cond.code yJ8_newLength_cabcc cJ8_newLength_cabcc 4 (some .int) :: WA)) B.pre
  have hts : ∀ w ∈ WA, w.before _ s = true := fun w h => hts0 w (List.mem_cons_of_mem _ h)
  have hown : s.vm.findClass RJ8 = some m.cls := findClass_of_methodNamed B.named
  have hlocks := B.notSynchronized
  have hS : va_S (fun _ => False) s.heap s.heap [] := va_S.rf
  have hl := lv_entry ([.int x, .int y, .int w]) (n := 4) (Nat.le_of_ble_eq_true rfl)
  rw [lg_entry_eq]
  generalize (lg_sl ([.int x, .int y, .int w]) ++ List.replicate (4 - (lg_sl ([.int x, .int y, .int w])).length) Slot.unset).toArray = ls at hl ⊢
  have hl : lv_has ls 4 [(0, .int x), (1, .int y), (2, .int w)] := hl
  refine lv_iload_n hx hb dJ8_newLength_cabcc_0 rfl (lv_at hl 0 rfl) ?_
  refine lv_iload_n hx hb dJ8_newLength_cabcc_1 rfl (lv_at hl 1 rfl) ?_
  refine lv_iload_n hx hb dJ8_newLength_cabcc_2 rfl (lv_at hl 2 rfl) ?_
  refine pmmax hx hb (hml.trans hl.1.symm) hown (hts _ wm141) (hts _ wm111) (hts _ wm112) (hts _ wm113) (Nat.le_of_ble_eq_true rfl) (Nat.le_of_ble_eq_true rfl) (Nat.zero_le _) (Nat.zero_le _) dJ8_newLength_cabcc_3 ?_
  refine lv_iadd hx hb dJ8_newLength_cabcc_6 ?_
  refine lv_topi (fun v ev => ?_)
  rw [← ev] at h1 h2
  refine lv_istore_n (lv' := [(3, .int v), (0, .int x), (1, .int y), (2, .int w)]) hx hb dJ8_newLength_cabcc_7 rfl hl (by decide) rfl (fun ls hl => ?_)
  refine lv_iconst (v := 0) hx hb dJ8_newLength_cabcc_8 (by decide) ?_
  refine lv_iload_n hx hb dJ8_newLength_cabcc_9 rfl (lv_at hl 0 rfl) ?_
  refine lv_icmp_ge (tgt := 21) hx hb dJ8_newLength_cabcc_10 (by decide) (fun z => absurd z (Int32.not_le.mpr h1)) (fun _ => ?_)
  refine lv_iload_n hx hb dJ8_newLength_cabcc_13 rfl (lv_at hl 0 rfl) ?_
  refine lv_ldc (v := 2147483639) hx hb hown (hts _ wm142) dJ8_newLength_cabcc_14 ?_
  refine lv_icmp_gt (tgt := 21) hx hb dJ8_newLength_cabcc_16 (by decide) (fun z => absurd z (Int32.not_lt.mpr h2)) (fun _ => ?_)
  refine lv_iload_n hx hb dJ8_newLength_cabcc_19 rfl (lv_at hl 0 rfl) ?_
  exact W.iret hx hb hr (fun t ht hW => ⟨⟨v, (), rfl, ev, trivial⟩, hS.F ht⟩) hS.2.2 dJ8_newLength_cabcc_20
set_option maxHeartbeats 4000000 in
set_option maxRecDepth 100000 in
theorem c_copyOf3 {l : Launch} {G : PvG} {tys : List (ClassId × FieldType)} {σ : PvS} (htys : tys = pvT G) {j : Nat} (hj : j < σ.1 0 + 3) {mm : Int32} {b : Nat} {z : Int32} {AR : List LxA} {k : Nat} {x : LxA} (hk : AR[k]? = some x) {N : Nat} (hN : 0 < N ∧ N ≤ 1000) (hxN : x.2.1 ≤ N) {mi : Nat} : Met l yJ7_copyOf_6403c (Cond.code yJ7_copyOf_6403c cJ7_copyOf_6403c 4 (some (.array (.object "java/lang/Object"))) :: WA) ({ frames := 1, cells := 1, slots := N, locals := 60 }) (va_Pc [.ref x.1, .int (nI N), .ref mi] (fun U => pvUx G tys σ j mm b z AR U ∧ va_Mi "[Ljava/lang/Object;" mi U)) (va_Qq (fun r (q : Nat) => r = some q) (fun q => pvUx G tys σ j mm b z (AR ++ [(q, N, va_cpy x.2.2 (fun _ => none) 0 0 x.2.1)])) (pvB G)) 1 N (pvB G) := by
  refine Met.ofW (cc := cJ7_copyOf_6403c) (maxL := 4) (ret := (some (.array (.object "java/lang/Object")))) (by decide) rfl ?_
  intro p e s m args below meth c s₁ B hml hv
  obtain ⟨rfl, ⟨hw, hK, hA⟩, hM⟩ := hv
  have hx := B.exec
  have hb := B.bytes
  have hr := B.returns
  have hts0 := atoms_spec (ws := (Cond.code yJ7_copyOf_6403c cJ7_copyOf_6403c 4 (some (.array (.object "java/lang/Object"))) :: WA)) B.pre
  have hts : ∀ w ∈ WA, w.before _ s = true := fun w h => hts0 w (List.mem_cons_of_mem _ h)
  have hown : s.vm.findClass RJ7 = some m.cls := findClass_of_methodNamed B.named
  have hlocks := B.notSynchronized
  have hS : va_S (pvB G) s.heap s.heap [] := va_S.rf
  have hl := lv_entry ([.ref x.1, .int (nI N), .ref mi]) (n := 4) (Nat.le_of_ble_eq_true rfl)
  rw [lg_entry_eq]
  generalize (lg_sl ([.ref x.1, .int (nI N), .ref mi]) ++ List.replicate (4 - (lg_sl ([.ref x.1, .int (nI N), .ref mi])).length) Slot.unset).toArray = ls at hl ⊢
  have hl : lv_has ls 4 [(0, .ref x.1), (1, .int (nI N)), (2, .ref mi)] := hl
  have hlt := (List.getElem?_eq_some_iff.mp hk).1
  refine lv_aload_n hx hb dJ7_copyOf_6403c_0 rfl (lv_at hl 2 rfl) ?_
  refine va_ldcM hx hb hown (hts _ wm157) hM dJ7_copyOf_6403c_1 ?_
  refine lv_acmp_ne (rx := some mi) (ry := some mi) (tgt := 13) hx hb dJ7_copyOf_6403c_3 (by decide) (fun z => absurd rfl z) (fun _ => ?_)
  refine lv_iload_n hx hb dJ7_copyOf_6403c_6 rfl (lv_at hl 1 rfl) ?_
  refine lxNew hx hb hown (hts _ wm158) hA hK htys hw hS hj hN (Nat.le_refl 1) (by show 0 + N ≤ N; omega) dJ7_copyOf_6403c_7 (fun q H locs hw hS => ?_)
  refine lv_goto (tgt := 24) hx hb dJ7_copyOf_6403c_10 (by decide) ?_
  refine lv_astore_n (lv' := [(3, .ref q), (0, .ref x.1), (1, .int (nI N)), (2, .ref mi)]) hx hb dJ7_copyOf_6403c_24 rfl hl (by decide) rfl (fun ls hl => ?_)
  refine lv_aload_n hx hb dJ7_copyOf_6403c_25 rfl (lv_at hl 1 rfl) ?_
  refine lv_iconst (v := 0) hx hb dJ7_copyOf_6403c_26 (by decide) ?_
  refine lv_aload_n hx hb dJ7_copyOf_6403c_27 rfl (lv_at hl 0 rfl) ?_
  refine lv_iconst (v := 0) hx hb dJ7_copyOf_6403c_28 (by decide) ?_
  refine lv_aload_n hx hb dJ7_copyOf_6403c_29 rfl (lv_at hl 1 rfl) ?_
  refine lxLen hx hb hK htys hw k (x := x) (by rw [List.getElem?_append_left hlt]; exact hk) dJ7_copyOf_6403c_30 ?_
  refine lv_iload_n hx hb dJ7_copyOf_6403c_31 rfl (lv_at hl 2 rfl) ?_
  refine pmmin hx hb (hml.trans hl.1.symm) hown (hts _ wm159) (hts _ wm160) (hts _ wm112) (hts _ wm161) (Nat.le_of_ble_eq_true rfl) (Nat.le_of_ble_eq_true rfl) (Nat.le_refl 1) (by show 0 + N ≤ N; omega) dJ7_copyOf_6403c_32 ?_
  have hmin : imin (nI x.2.1) (nI N) = nI x.2.1 := by
    unfold imin
    by_cases q : nI N < nI x.2.1
    · exact absurd ((nI_ltI (by omega) (by omega)).mp q) (by omega)
    · rw [if_neg q]
  rw [hmin]
  refine lxCp hx hb (hml.trans hl.1.symm) hown (hts _ wm162) (hts _ wm163) (hts _ wm164) (hts _ wm165) hA hK htys hw hS hj k AR.length (x := x) (y := (q, N, fun _ => none)) (by rw [List.getElem?_append_left hlt]; exact hk) (by simp) (by decide) (by decide) (nI_pos (by omega)) (by rw [nI_clamp (by omega)]; show 0 + _ ≤ _; omega) (by rw [nI_clamp (by omega)]; show 0 + _ ≤ N; omega) (Nat.le_of_ble_eq_true rfl) (by show _ ≤ 60; decide +kernel) dJ7_copyOf_6403c_35 (fun H locs hw hS => ?_)
  refine lv_aload_n hx hb dJ7_copyOf_6403c_38 rfl (lv_at hl 0 rfl) ?_
  have e1 : (AR ++ [(q, N, fun _ => none)]).set AR.length (q, N, va_cpy x.2.2 (fun _ => none) (0 : Int32).toNatClampNeg (0 : Int32).toNatClampNeg (nI x.2.1).toNatClampNeg) = AR ++ [(q, N, va_cpy x.2.2 (fun _ => none) 0 0 x.2.1)] := by
    rw [List.set_append_right _ _ (Nat.le_refl _), Nat.sub_self, nI_clamp (by omega)]
    rfl
  rw [e1] at hw
  refine W.widen (k := 1) (n := N) (by omega) (by omega) ?_
  exact W.aret (v := .ref q) hx hb hr (Or.inr ⟨_, rfl⟩) (Or.inr ⟨_, rfl⟩) (fun t ht hW => ⟨⟨some q, q, rfl, rfl, by rw [ht]; exact hw, va_K.moved hW.alike hK, hA.to hS hW ht⟩, hS.F ht⟩) hS.2.2 dJ7_copyOf_6403c_39
set_option maxHeartbeats 4000000 in
set_option maxRecDepth 100000 in
theorem c_copyOf2 {l : Launch} {G : PvG} {tys : List (ClassId × FieldType)} {σ : PvS} (htys : tys = pvT G) {j : Nat} (hj : j < σ.1 0 + 3) {mm : Int32} {b : Nat} {z : Int32} {AR : List LxA} {k : Nat} {x : LxA} (hk : AR[k]? = some x) {N : Nat} (hN : 0 < N ∧ N ≤ 1000) (hxN : x.2.1 ≤ N)  : Met l yJ7_copyOf_1904c (Cond.code yJ7_copyOf_1904c cJ7_copyOf_1904c 2 (some (.array (.object "java/lang/Object"))) :: WA) ({ frames := 2, cells := 1, slots := N, locals := 90 }) (va_Pc [.ref x.1, .int (nI N)] (pvUx G tys σ j mm b z AR)) (va_Qq (fun r (q : Nat) => r = some q) (fun q => pvUx G tys σ j mm b z (AR ++ [(q, N, va_cpy x.2.2 (fun _ => none) 0 0 x.2.1)])) (pvB G)) 1 N (pvB G) := by
  refine Met.ofW (cc := cJ7_copyOf_1904c) (maxL := 2) (ret := (some (.array (.object "java/lang/Object")))) (by decide) rfl ?_
  intro p e s m args below meth c s₁ B hml hv
  obtain ⟨rfl, hw, hK, hA⟩ := hv
  have hx := B.exec
  have hb := B.bytes
  have hr := B.returns
  have hts0 := atoms_spec (ws := (Cond.code yJ7_copyOf_1904c cJ7_copyOf_1904c 2 (some (.array (.object "java/lang/Object"))) :: WA)) B.pre
  have hts : ∀ w ∈ WA, w.before _ s = true := fun w h => hts0 w (List.mem_cons_of_mem _ h)
  have hown : s.vm.findClass RJ7 = some m.cls := findClass_of_methodNamed B.named
  have hlocks := B.notSynchronized
  have hS : va_S (pvB G) s.heap s.heap [] := va_S.rf
  have hl := lv_entry ([.ref x.1, .int (nI N)]) (n := 2) (Nat.le_of_ble_eq_true rfl)
  rw [lg_entry_eq]
  generalize (lg_sl ([.ref x.1, .int (nI N)]) ++ List.replicate (2 - (lg_sl ([.ref x.1, .int (nI N)])).length) Slot.unset).toArray = ls at hl ⊢
  have hl : lv_has ls 2 [(0, .ref x.1), (1, .int (nI N))] := hl
  obtain ⟨mi, hM⟩ := hA.2.2.2.2.2.2.2.2.2.2.2.2.2.2.2
  refine lv_aload_n hx hb dJ7_copyOf_1904c_0 rfl (lv_at hl 0 rfl) ?_
  refine lv_iload_n hx hb dJ7_copyOf_1904c_1 rfl (lv_at hl 1 rfl) ?_
  refine lv_aload_n hx hb dJ7_copyOf_1904c_2 rfl (lv_at hl 0 rfl) ?_
  refine va_getC hx hb (hml.trans hl.1.symm) hown (hts _ wm150) (va_Dc.use hA.2.2.2.2.2.2.2.2.2.2.2.2.2.2.1) (hts _ wm151) (hts _ wm152) (hts _ wm153) hM (lx_arr hw hK htys hk) (Nat.le_of_ble_eq_true rfl) (by show 2 + 14 ≤ 90; decide) dJ7_copyOf_1904c_3 ?_
  refine va_callq (va_runS (As := [.ref x.1, .int (nI N), .ref mi]) (rest := []) ⟨hx, hb, hml, hown, hts⟩ (c_copyOf3 (l := l) (G := G) (tys := tys) (σ := σ) htys hj hk hN hxN (mi := mi)) (va_cwS 3 hts (gSA wm154 wm155 wm148 wm156) rfl rfl rfl (by decide +kernel) ⟨Nat.le_of_ble_eq_true rfl, Nat.le_of_ble_eq_true rfl⟩) ⟨fun a U g mk q => ⟨q.1, ⟨q.2.1.1, va_K.moved (u := U) (U := U.calling g mk a) (Vm.Alike.refl U.vm) q.2.1.2.1, q.2.1.2.2.calling⟩, q.2.2.moved (Vm.Alike.refl U.vm)⟩, fun U hU hW => ⟨rfl, ⟨by rw [hU]; exact hw, va_K.moved hW.alike hK, hA.to hS hW hU⟩, hM.moved hW.alike⟩⟩ rfl rfl hl.1 rfl (lv_room (Nat.le_of_ble_eq_true rfl)) dJ7_copyOf_1904c_6 ⟨Nat.le_refl 1, by show 0 + N ≤ N; omega⟩) hS (fun _ _ h => h) (fun _ h => h) (fun r q t H locs ht hvm hp hB _ _ hS => ?_)
  subst hp
  have hw := hB.1
  rw [ht] at hw
  refine W.widen (k := 1) (n := N) (by omega) (by omega) ?_
  exact W.aret (v := .ref q) hx hb hr (Or.inr ⟨_, rfl⟩) (Or.inr ⟨_, rfl⟩) (fun t ht hW => ⟨⟨some q, q, rfl, rfl, by rw [ht]; exact hw, va_K.moved hW.alike hK, hA.to hS hW ht⟩, hS.F ht⟩) hS.2.2 dJ7_copyOf_1904c_9
set_option maxHeartbeats 4000000 in
set_option maxRecDepth 100000 in
theorem c_grow1 {l : Launch} {G : PvG} {tys : List (ClassId × FieldType)} {σ : PvS} (htys : tys = pvT G) {j : Nat} (hj : j < σ.1 0 + 3) {mm : Int32} {b : Nat} {z : Int32} {AR : List LxA} {c0 : Nat} {g : Nat → Option Nat} (hc0 : c0 ≤ 64) (hcase : (AR = [] ∧ b = G.2.2.2.1.1 0 ∧ c0 = 0) ∨ (AR = [(b, c0, g)] ∧ 1 ≤ c0))  : Met l yJx4a65c_grow_92f84 (Cond.code yJx4a65c_grow_92f84 cJx4a65c_grow_92f84 4 (some (.array (.object "java/lang/Object"))) :: WA) ({ frames := 3, cells := 1, slots := 96, locals := 130 }) (va_Pc [.ref (G.2.2.1 10 j), .int (nI (c0 + 1))] (pvUx G tys σ j mm b z AR)) (va_Qq (fun r (u : Nat × List LxA) => r = some u.1 ∧ ∃ cap g1, c0 < cap ∧ cap ≤ 1000 ∧ lxHas u.2 u.1 cap g1 ∧ ∀ t, g1 t = if t < c0 then g t else none) (fun u => pvUx G tys σ j mm u.1 z u.2) (pvB G)) 1 96 (pvB G) := by
  refine Met.ofW (cc := cJx4a65c_grow_92f84) (maxL := 4) (ret := (some (.array (.object "java/lang/Object")))) (by decide) rfl ?_
  intro p e s m args below meth c s₁ B hml hv
  obtain ⟨rfl, hw, hK, hA⟩ := hv
  have hx := B.exec
  have hb := B.bytes
  have hr := B.returns
  have hts0 := atoms_spec (ws := (Cond.code yJx4a65c_grow_92f84 cJx4a65c_grow_92f84 4 (some (.array (.object "java/lang/Object"))) :: WA)) B.pre
  have hts : ∀ w ∈ WA, w.before _ s = true := fun w h => hts0 w (List.mem_cons_of_mem _ h)
  have hown : s.vm.findClass RJx4a65c = some m.cls := findClass_of_methodNamed B.named
  have hlocks := B.notSynchronized
  have hS : va_S (pvB G) s.heap s.heap [] := va_S.rf
  have hl := lv_entry ([.ref (G.2.2.1 10 j), .int (nI (c0 + 1))]) (n := 4) (Nat.le_of_ble_eq_true rfl)
  rw [lg_entry_eq]
  generalize (lg_sl ([.ref (G.2.2.1 10 j), .int (nI (c0 + 1))]) ++ List.replicate (4 - (lg_sl ([.ref (G.2.2.1 10 j), .int (nI (c0 + 1))])).length) Slot.unset).toArray = ls at hl ⊢
  have hl : lv_has ls 4 [(0, .ref (G.2.2.1 10 j)), (1, .int (nI (c0 + 1)))] := hl
  refine lv_aload_n hx hb dJx4a65c_grow_92f84_0 rfl (lv_at hl 0 rfl) ?_
  refine lxGet hx hb hts hown hK hw hj 1 (by decide) rfl (hts _ wm47) (fun _ h9 => h9) dJx4a65c_grow_92f84_1 ?_
  rcases hcase with ⟨hAR, hb0, rfl⟩ | ⟨hAR, h1⟩
  · subst hAR
    subst hb0
    refine va_tlen hx hb hA.2.1.1.2 hS (v := 0) rfl dJx4a65c_grow_92f84_4 ?_
    refine lv_istore_n (lv' := [(2, .int 0), (0, .ref (G.2.2.1 10 j)), (1, .int (nI (0 + 1)))]) hx hb dJx4a65c_grow_92f84_5 rfl hl (by decide) rfl (fun ls hl => ?_)
    refine lv_iload_n hx hb dJx4a65c_grow_92f84_6 rfl (lv_at hl 0 rfl) ?_
    refine lv_if_gt (tgt := 20) hx hb dJx4a65c_grow_92f84_7 (by decide) (fun z => absurd z (by decide)) (fun _ => ?_)
    refine lv_aload_n hx hb dJx4a65c_grow_92f84_10 rfl (lv_at hl 1 rfl) ?_
    refine lxGet hx hb hts hown hK hw hj 1 (by decide) rfl (hts _ wm47) (fun _ h9 => h9) dJx4a65c_grow_92f84_11 ?_
    refine va_gets (C := RJx4a65c) hx hb hA.2.1.1.1 hS hown (hts _ wm46) (fun _ h9 => h9) dJx4a65c_grow_92f84_14 ?_
    refine lv_acmp_eq (rx := some (G.2.2.2.1.1 0)) (ry := some (G.2.2.2.1.1 0)) (tgt := 45) hx hb dJx4a65c_grow_92f84_17 (by decide) (fun _ => ?_) (fun z => absurd rfl z)
    refine lv_aload_n hx hb dJx4a65c_grow_92f84_45 rfl (lv_at hl 1 rfl) ?_
    refine lv_bipush (v := 10) hx hb dJx4a65c_grow_92f84_46 (by decide) ?_
    refine lv_iload_n hx hb dJx4a65c_grow_92f84_48 rfl (lv_at hl 2 rfl) ?_
    refine pmmax hx hb (hml.trans hl.1.symm) hown (hts _ wm135) (hts _ wm111) (hts _ wm112) (hts _ wm113) (Nat.le_of_ble_eq_true rfl) (Nat.le_of_ble_eq_true rfl) (Nat.zero_le _) (Nat.zero_le _) dJx4a65c_grow_92f84_49 ?_
    rw [show imax 10 (nI (0 + 1)) = nI 10 from by decide]
    refine lxNew hx hb hown (hts _ wm136) hA hK htys hw hS hj (N := 10) (by decide) (Nat.le_of_ble_eq_true rfl) (Nat.le_of_ble_eq_true rfl) dJx4a65c_grow_92f84_52 (fun q H locs hw hS => ?_)
    refine lv_dup_x1 hx hb dJx4a65c_grow_92f84_55 rfl rfl ?_
    refine lxPut (ty := .array (.object "java/lang/Object")) (mm' := mm) (b' := q) (z' := z) hx hb hts hown hK hw hS hj 1 (by decide) rfl (hts _ wm47) (fun _ h9 => h9) rfl (by decide +kernel) rfl rfl dJx4a65c_grow_92f84_56 (fun H locs hw hS => ?_)
    refine W.widen (k := 1) (n := 96) (by omega) (by omega) ?_
    refine W.aret (v := .ref q) hx hb hr (Or.inr ⟨_, rfl⟩) (Or.inr ⟨_, rfl⟩) (fun t ht hW => ⟨⟨some q, (q, _), rfl, ⟨rfl, 10, (fun _ => none), by decide, by decide, ⟨0, rfl⟩, fun t => by simp⟩, by rw [ht]; exact hw, va_K.moved hW.alike hK, hA.to hS hW ht⟩, hS.F ht⟩) hS.2.2 dJx4a65c_grow_92f84_59
  · subst hAR
    have e2 : nI c0 >>> ((1 : Int32) &&& 31) = nI (c0 / 2) := (show ∀ n : Fin 65, nI n.1 >>> ((1 : Int32) &&& 31) = nI (n.1 / 2) from by decide +kernel) ⟨c0, by omega⟩
    have e1 : nI (c0 + 1) - nI c0 = nI 1 := by rw [pk_sub (by omega)]; congr 1; omega
    have e3 : imax (nI 1) (nI (c0 / 2)) = nI (max 1 (c0 / 2)) := by
      unfold imax
      by_cases q : nI 1 < nI (c0 / 2)
      · rw [if_pos q]; have := (nI_ltI (by omega) (by omega)).mp q; congr 1; omega
      · rw [if_neg q]; have : ¬ 1 < c0 / 2 := fun w => q ((nI_ltI (by omega) (by omega)).mpr w); congr 1; omega
    have hmx : max 1 (c0 / 2) ≤ 32 := by omega
    have hm1 : 1 ≤ max 1 (c0 / 2) := by omega
    generalize max 1 (c0 / 2) = mxx at e3 hmx hm1
    refine lxLen hx hb hK htys hw 0 (x := (b, c0, g)) rfl dJx4a65c_grow_92f84_4 ?_
    refine lv_istore_n (lv' := [(2, .int (nI c0)), (0, .ref (G.2.2.1 10 j)), (1, .int (nI (c0 + 1)))]) hx hb dJx4a65c_grow_92f84_5 rfl hl (by decide) rfl (fun ls hl => ?_)
    refine lv_iload_n hx hb dJx4a65c_grow_92f84_6 rfl (lv_at hl 0 rfl) ?_
    refine lv_if_gt (tgt := 20) hx hb dJx4a65c_grow_92f84_7 (by decide) (fun _ => ?_) (fun w => absurd (show (0 : Int32) < nI c0 from by rw [← nI_0]; exact (nI_ltI (by omega) (by omega)).mpr (by omega)) w)
    refine lv_iload_n hx hb dJx4a65c_grow_92f84_20 rfl (lv_at hl 0 rfl) ?_
    refine lv_iload_n hx hb dJx4a65c_grow_92f84_21 rfl (lv_at hl 2 rfl) ?_
    refine lv_iload_n hx hb dJx4a65c_grow_92f84_22 rfl (lv_at hl 0 rfl) ?_
    refine lv_isub hx hb dJx4a65c_grow_92f84_23 ?_
    refine lv_iload_n hx hb dJx4a65c_grow_92f84_24 rfl (lv_at hl 0 rfl) ?_
    refine lv_iconst (v := 1) hx hb dJx4a65c_grow_92f84_25 (by decide) ?_
    refine lv_ishr hx hb dJx4a65c_grow_92f84_26 ?_
    rw [e1, e2]
    refine va_calli (va_runS (As := [.int (nI c0), .int (nI 1), .int (nI (c0 / 2))]) (rest := []) ⟨hx, hb, hml, hown, hts⟩ (c_newLength (l := l) (x := nI c0) (y := nI 1) (w := nI (c0 / 2)) (by rw [e3, nI_add, ← nI_0]; exact (nI_ltI (by omega) (by omega)).mpr (by omega)) (by rw [e3, nI_add, show (2147483639 : Int32) = nI 2147483639 from rfl]; exact (nI_leI (by omega) (by omega)).mpr (by omega))) (va_cwS 3 hts (gSA wm137 wm138 wm139 wm140) rfl rfl rfl (by decide +kernel) ⟨Nat.le_of_ble_eq_true rfl, Nat.le_of_ble_eq_true rfl⟩) ⟨fun a U g mk q => q, fun U hU hW => ⟨rfl, trivial⟩⟩ rfl rfl hl.1 rfl (lv_room (Nat.le_of_ble_eq_true rfl)) dJx4a65c_grow_92f84_27 ⟨Nat.zero_le _, Nat.zero_le _⟩) hS (fun _ _ h => h.elim) (fun _ h => h.elim) (fun r u t H1 locs ht hvm hp hB hz1 hk1 hS => ?_)
    have hw := hw.kept (H1 := H1) (fun q hq => hk1 q hq (fun h => h))
    rw [e3, nI_add] at hp
    subst hp
    refine lv_istore_n (lv' := [(3, .int (nI (c0 + mxx))), (2, .int (nI c0)), (0, .ref (G.2.2.1 10 j)), (1, .int (nI (c0 + 1)))]) hx hb dJx4a65c_grow_92f84_30 rfl hl (by decide) rfl (fun ls hl => ?_)
    refine lv_aload_n hx hb dJx4a65c_grow_92f84_31 rfl (lv_at hl 2 rfl) ?_
    refine lv_aload_n hx hb dJx4a65c_grow_92f84_32 rfl (lv_at hl 2 rfl) ?_
    refine lxGet hx hb hts hown hK hw hj 1 (by decide) rfl (hts _ wm47) (fun _ h9 => h9) dJx4a65c_grow_92f84_33 ?_
    refine lv_iload_n hx hb dJx4a65c_grow_92f84_36 rfl (lv_at hl 0 rfl) ?_
    refine va_callq (va_runS (As := [.ref b, .int (nI (c0 + mxx))]) (rest := [.ref (G.2.2.1 10 j)]) ⟨hx, hb, hml, hown, hts⟩ (c_copyOf2 (l := l) (G := G) (tys := tys) (σ := σ) htys hj (AR := [(b, c0, g)]) (k := 0) (x := (b, c0, g)) rfl (N := c0 + mxx) (by omega) (by show c0 ≤ _; omega)) (va_cwS 2 hts (gSA wm146 wm147 wm148 wm149) rfl rfl rfl (by decide +kernel) ⟨Nat.le_of_ble_eq_true rfl, Nat.le_of_ble_eq_true rfl⟩) (lx_preS hA hS hw hK [.ref b, .int (nI (c0 + mxx))]) rfl rfl hl.1 rfl (lv_room (Nat.le_of_ble_eq_true rfl)) dJx4a65c_grow_92f84_37 ⟨Nat.le_refl 1, by show 0 + (c0 + mxx) ≤ 96; omega⟩) hS (fun _ _ h => h) (fun _ h => h) (fun r q t H locs ht hvm hp hB _ _ hS => ?_)
    subst hp
    have hw := hB.1
    rw [ht] at hw
    refine lv_dup_x1 (va := .ref q) hx hb dJx4a65c_grow_92f84_40 rfl rfl ?_
    refine lxPut (ty := .array (.object "java/lang/Object")) (mm' := mm) (b' := q) (z' := z) hx hb hts hown hK hw hS hj 1 (by decide) rfl (hts _ wm47) (fun _ h9 => h9) rfl (by decide +kernel) rfl rfl dJx4a65c_grow_92f84_41 (fun H locs hw hS => ?_)
    refine W.widen (k := 1) (n := 96) (by omega) (by omega) ?_
    refine W.aret (v := .ref q) hx hb hr (Or.inr ⟨_, rfl⟩) (Or.inr ⟨_, rfl⟩) (fun t ht hW => ⟨⟨some q, (q, _), rfl, ⟨rfl, c0 + mxx, va_cpy g (fun _ => none) 0 0 c0, by omega, by omega, ⟨1, rfl⟩, fun t => ?_⟩, by rw [ht]; exact hw, va_K.moved hW.alike hK, hA.to hS hW ht⟩, hS.F ht⟩) hS.2.2 dJx4a65c_grow_92f84_44
    show va_cpy g (fun _ => none) 0 0 c0 t = _
    split
    · rename_i w; rw [pk_cpy_in (by omega) (by omega)]; congr 1; omega
    · rename_i w; rw [pk_cpy_out (by omega)]
set_option maxHeartbeats 4000000 in
set_option maxRecDepth 100000 in
theorem c_grow0 {l : Launch} {G : PvG} {tys : List (ClassId × FieldType)} {σ : PvS} (htys : tys = pvT G) {j : Nat} (hj : j < σ.1 0 + 3) {mm : Int32} {b : Nat} {z : Int32} {AR : List LxA} {c0 : Nat} {g : Nat → Option Nat} (hc0 : c0 ≤ 64) (hcase : (AR = [] ∧ b = G.2.2.2.1.1 0 ∧ c0 = 0) ∨ (AR = [(b, c0, g)] ∧ 1 ≤ c0)) (hz : z = nI c0) : Met l yJx4a65c_grow_d5877 (Cond.code yJx4a65c_grow_d5877 cJx4a65c_grow_d5877 1 (some (.array (.object "java/lang/Object"))) :: WA) ({ frames := 4, cells := 1, slots := 96, locals := 160 }) (va_Pc [.ref (G.2.2.1 10 j)] (pvUx G tys σ j mm b z AR)) (va_Qq (fun r (u : Nat × List LxA) => r = some u.1 ∧ ∃ cap g1, c0 < cap ∧ cap ≤ 1000 ∧ lxHas u.2 u.1 cap g1 ∧ ∀ t, g1 t = if t < c0 then g t else none) (fun u => pvUx G tys σ j mm u.1 z u.2) (pvB G)) 1 96 (pvB G) := by
  refine Met.ofW (cc := cJx4a65c_grow_d5877) (maxL := 1) (ret := (some (.array (.object "java/lang/Object")))) (by decide) rfl ?_
  intro p e s m args below meth c s₁ B hml hv
  obtain ⟨rfl, hw, hK, hA⟩ := hv
  have hx := B.exec
  have hb := B.bytes
  have hr := B.returns
  have hts0 := atoms_spec (ws := (Cond.code yJx4a65c_grow_d5877 cJx4a65c_grow_d5877 1 (some (.array (.object "java/lang/Object"))) :: WA)) B.pre
  have hts : ∀ w ∈ WA, w.before _ s = true := fun w h => hts0 w (List.mem_cons_of_mem _ h)
  have hown : s.vm.findClass RJx4a65c = some m.cls := findClass_of_methodNamed B.named
  have hlocks := B.notSynchronized
  have hS : va_S (pvB G) s.heap s.heap [] := va_S.rf
  have hl := lv_entry ([.ref (G.2.2.1 10 j)]) (n := 1) (Nat.le_of_ble_eq_true rfl)
  rw [lg_entry_eq]
  generalize (lg_sl ([.ref (G.2.2.1 10 j)]) ++ List.replicate (1 - (lg_sl ([.ref (G.2.2.1 10 j)])).length) Slot.unset).toArray = ls at hl ⊢
  have hl : lv_has ls 1 [(0, .ref (G.2.2.1 10 j))] := hl
  refine lv_aload_n hx hb dJx4a65c_grow_d5877_0 rfl (lv_at hl 0 rfl) ?_
  refine lv_aload_n hx hb dJx4a65c_grow_d5877_1 rfl (lv_at hl 0 rfl) ?_
  refine lxGet hx hb hts hown hK hw hj 2 (by decide) rfl (hts _ wm122) (fun _ h9 => h9) dJx4a65c_grow_d5877_2 ?_
  refine lv_iconst (v := 1) hx hb dJx4a65c_grow_d5877_5 (by decide) ?_
  refine lv_iadd hx hb dJx4a65c_grow_d5877_6 ?_
  rw [show z + 1 = nI (c0 + 1) from by rw [hz, nI_1]]
  refine va_callq (va_runV (As := [.int (nI (c0 + 1))]) (rest := []) ⟨hx, hb, hml, hown, hts⟩ (c_grow1 (l := l) (G := G) (tys := tys) (σ := σ) htys hj hc0 hcase) (cwV 1 hts (gVA wm131 wm132 wm133 wm13 wm134) rfl rfl rfl (by decide +kernel) ⟨Nat.le_of_ble_eq_true rfl, Nat.le_of_ble_eq_true rfl⟩) (lx_preV hA hS hw hK hj [.int (nI (c0 + 1))]) rfl rfl hl.1 rfl (lv_room (Nat.le_of_ble_eq_true rfl)) dJx4a65c_grow_d5877_7 ⟨Nat.le_refl 1, Nat.le_of_ble_eq_true rfl⟩) hS (fun _ _ h => h) (fun _ h => h) (fun r u t H locs ht hvm hp hB _ _ hS => ?_)
  obtain ⟨hp1, hp2⟩ := hp
  subst hp1
  have hw := hB.1
  rw [ht] at hw
  refine W.widen (k := 1) (n := 96) (by omega) (by omega) ?_
  exact W.aret (v := .ref u.1) hx hb hr (Or.inr ⟨_, rfl⟩) (Or.inr ⟨_, rfl⟩) (fun t ht hW => ⟨⟨some u.1, u, rfl, ⟨rfl, hp2⟩, by rw [ht]; exact hw, va_K.moved hW.alike hK, hA.to hS hW ht⟩, hS.F ht⟩) hS.2.2 dJx4a65c_grow_d5877_10
end
section
/-! LISTS, changed: add, remove, clear -/
theorem lx_app {ad : Nat → Nat} {l : List Nat} {v : Nat} {g : Nat → Option Nat} (hg : ∀ t, t < l.length → g t = (l[t]?).map ad) (hn : ∀ t, l.length ≤ t → g t = none) (t : Nat) : va_up g l.length (some (ad v)) t = ((l ++ [v])[t]?).map ad := by
  unfold va_up
  by_cases e : t = l.length
  · subst e; rw [if_pos rfl, List.getElem?_append_right (Nat.le_refl _), Nat.sub_self]; rfl
  · rw [if_neg e]
    by_cases h : t < l.length
    · rw [hg t h, List.getElem?_append_left h]
    · rw [hn t (by omega), List.getElem?_append_right (by omega)]
      have : 1 ≤ t - l.length := by omega
      rw [List.getElem?_eq_none (by simpa using this)]
      rfl
theorem lx_none {ad : Nat → Nat} {l : List Nat} {t : Nat} (h : l.length ≤ t) : (l[t]?).map ad = none := by
  rw [List.getElem?_eq_none h]
  rfl
def lxCase (G : PvG) (σ : PvS) (j b : Nat) (AR : List LxA) : Prop := (AR = [] ∧ b = G.2.2.2.1.1 0 ∧ σ.2.2.2.2 j = []) ∨ ∃ cap, AR = [(b, cap, fun t => ((σ.2.2.2.2 j)[t]?).map (G.2.2.1 (pvK j)))] ∧ (σ.2.2.2.2 j).length ≤ cap ∧ (0 < cap ∧ cap ≤ 1000)
set_option maxHeartbeats 4000000 in
set_option maxRecDepth 100000 in
theorem c_ladd3 {l : Launch} {G : PvG} {tys : List (ClassId × FieldType)} {σ : PvS} (htys : tys = pvT G) {j : Nat} (hj : j < σ.1 0 + 3) {mm : Int32} {b : Nat} {AR : List LxA} {v : Nat} (hv : v < pvM σ (pvK j)) (hlen : (σ.2.2.2.2 j).length < 64) (hcl : ∀ x ∈ σ.2.2.2.2 j, x < pvM σ (pvK j)) (hcase : lxCase G σ j b AR)  : Met l yJx4a65c_add_72be8 (Cond.code yJx4a65c_add_72be8 cJx4a65c_add_72be8 4 none :: WA) ({ frames := 5, cells := 1, slots := 96, locals := 190 }) (va_Pc [.ref (G.2.2.1 10 j), .ref (G.2.2.1 (pvK j) v), .ref b, .int (nI (σ.2.2.2.2 j).length)] (pvUx G tys σ j mm b (nI (σ.2.2.2.2 j).length) AR)) (va_Qv (fun σ' => σ' = pvL σ j ((σ.2.2.2.2 j) ++ [v])) (pvU G tys) (pvB G)) 1 96 (pvB G) := by
  refine Met.ofW (cc := cJx4a65c_add_72be8) (maxL := 4) (ret := none) (by decide) rfl ?_
  intro p e s m args below meth c s₁ B hml hv
  obtain ⟨rfl, hw, hK, hA⟩ := hv
  have hx := B.exec
  have hb := B.bytes
  have hr := B.returns
  have hts0 := atoms_spec (ws := (Cond.code yJx4a65c_add_72be8 cJx4a65c_add_72be8 4 none :: WA)) B.pre
  have hts : ∀ w ∈ WA, w.before _ s = true := fun w h => hts0 w (List.mem_cons_of_mem _ h)
  have hown : s.vm.findClass RJx4a65c = some m.cls := findClass_of_methodNamed B.named
  have hlocks := B.notSynchronized
  have hS : va_S (pvB G) s.heap s.heap [] := va_S.rf
  have hl := lv_entry ([.ref (G.2.2.1 10 j), .ref (G.2.2.1 (pvK j) v), .ref b, .int (nI (σ.2.2.2.2 j).length)]) (n := 4) (Nat.le_of_ble_eq_true rfl)
  rw [lg_entry_eq]
  generalize (lg_sl ([.ref (G.2.2.1 10 j), .ref (G.2.2.1 (pvK j) v), .ref b, .int (nI (σ.2.2.2.2 j).length)]) ++ List.replicate (4 - (lg_sl ([.ref (G.2.2.1 10 j), .ref (G.2.2.1 (pvK j) v), .ref b, .int (nI (σ.2.2.2.2 j).length)])).length) Slot.unset).toArray = ls at hl ⊢
  have hl : lv_has ls 4 [(0, .ref (G.2.2.1 10 j)), (1, .ref (G.2.2.1 (pvK j) v)), (2, .ref b), (3, .int (nI (σ.2.2.2.2 j).length))] := hl
  have hcl' : ∀ x ∈ (σ.2.2.2.2 j) ++ [v], x < pvM σ (pvK j) := fun x hx => (List.mem_append.mp hx).elim (hcl x) (fun h => by rw [List.mem_singleton.mp h]; exact hv)
  have hl64 : ((σ.2.2.2.2 j) ++ [v]).length ≤ 64 := by rw [List.length_append]; show _ + 1 ≤ 64; omega
  have hzz : nI (σ.2.2.2.2 j).length + 1 = nI ((σ.2.2.2.2 j) ++ [v]).length := by rw [nI_1, List.length_append]; rfl
  -- what is left when the array has room
  have fin : ∀ (H : Heap) (locs : List Loc) (cl sl : Nat) (q : Nat) (AR : List LxA) (k cap : Nat) (g : Nat → Option Nat), cl ≤ 1 → sl ≤ 96 → AR[k]? = some (q, cap, g) → (σ.2.2.2.2 j).length < cap → cap ≤ 1000 → (∀ t, g t = (((σ.2.2.2.2 j))[t]?).map (G.2.2.1 (pvK j))) → lxW G σ j mm q (nI (σ.2.2.2.2 j).length) AR H → va_S (pvB G) s.heap H locs → ∀ ls, lv_has ls 4 [(0, .ref (G.2.2.1 10 j)), (1, .ref (G.2.2.1 (pvK j) v)), (2, .ref q), (3, .int (nI (σ.2.2.2.2 j).length))] →
    W p l e (headSpec (Cond.code yJx4a65c_add_72be8 cJx4a65c_add_72be8 4 none :: WA) ({ frames := 5, cells := 1, slots := 96, locals := 190 } : Room)).room s m ([.ref (G.2.2.1 10 j), .ref (G.2.2.1 (pvK j) v), .ref b, .int (nI (σ.2.2.2.2 j).length)] : List Value).toArray below meth c H locs cl sl (MQ below (va_Qv (fun σ' => σ' = pvL σ j ((σ.2.2.2.2 j) ++ [v])) (pvU G tys) (pvB G)) ([.ref (G.2.2.1 10 j), .ref (G.2.2.1 (pvK j) v), .ref b, .int (nI (σ.2.2.2.2 j).length)] : List Value).toArray s 1 96 (pvB G)) (F0 m 11 ls []) := by
    intro H locs cl sl q AR k cap g hcl1 hsl1 hk hcap hcap2 hg hw hS ls hl
    refine lv_aload_n hx hb dJx4a65c_add_72be8_11 rfl (lv_at hl 2 rfl) ?_
    refine lv_iload_n hx hb dJx4a65c_add_72be8_12 rfl (lv_at hl 3 rfl) ?_
    refine lv_aload_n hx hb dJx4a65c_add_72be8_13 rfl (lv_at hl 1 rfl) ?_
    refine lxSt hx hb hA hK htys hw hS hj k (x := (q, cap, g)) hk hv (vp_in_nI hcap (show cap < 2 ^ 31 by omega)) dJx4a65c_add_72be8_14 (fun H locs hw hS => ?_)
    refine lv_aload_n hx hb dJx4a65c_add_72be8_15 rfl (lv_at hl 0 rfl) ?_
    refine lv_iload_n hx hb dJx4a65c_add_72be8_16 rfl (lv_at hl 3 rfl) ?_
    refine lv_iconst (v := 1) hx hb dJx4a65c_add_72be8_17 (by decide) ?_
    refine lv_iadd hx hb dJx4a65c_add_72be8_18 ?_
    refine lxPut (ty := .int) (mm' := mm) (b' := q) (z' := (nI (σ.2.2.2.2 j).length + 1)) hx hb hts hown hK hw hS hj 2 (by decide) rfl (hts _ wm122) (fun _ h9 => h9) rfl (by decide +kernel) rfl rfl dJx4a65c_add_72be8_19 (fun H locs hw hS => ?_)
    have hlt := (List.getElem?_eq_some_iff.mp hk).1
    have hw2 := lx_close (v := (σ.2.2.2.2 j) ++ [v]) (k := k) (cap := cap) (g := va_up g (nI (σ.2.2.2.2 j).length).toNatClampNeg (some (G.2.2.1 (pvK j) v))) hj hw hl64 hcl' hzz (Or.inr ⟨by rw [List.getElem?_set_self hlt], by rw [List.length_append]; exact hcap, fun t => by rw [nI_clamp (by omega)]; exact lx_app (fun t _ => hg t) (fun t h => by rw [hg t]; exact lx_none h) t⟩)
    refine W.widen (k := 1) (n := 96) hcl1 hsl1 ?_
    exact pev hx hb hr hlocks hA hw2 hK hS rfl dJx4a65c_add_72be8_22
  refine lv_iload_n hx hb dJx4a65c_add_72be8_0 rfl (lv_at hl 3 rfl) ?_
  refine lv_aload_n hx hb dJx4a65c_add_72be8_1 rfl (lv_at hl 2 rfl) ?_
  rcases hcase with ⟨hAR, hb0, hnil⟩ | ⟨cap, hAR, hc1, hc2⟩
  · subst hAR
    subst hb0
    refine va_tlen hx hb hA.2.1.1.2 hS (v := 0) rfl dJx4a65c_add_72be8_2 ?_
    refine lv_icmp_ne (tgt := 11) hx hb dJx4a65c_add_72be8_3 (by decide) (fun w => absurd (by rw [hnil]; rfl) w) (fun _ => ?_)
    refine lv_aload_n hx hb dJx4a65c_add_72be8_6 rfl (lv_at hl 0 rfl) ?_
    refine va_callq (va_runV (As := []) (rest := []) ⟨hx, hb, hml, hown, hts⟩ (c_grow0 (l := l) (G := G) (tys := tys) (σ := σ) htys hj (c0 := 0) (g := fun _ => none) (by omega) (Or.inl ⟨rfl, rfl, rfl⟩) (by rw [hnil]; rfl)) (cwV 0 hts (gVA wm127 wm128 wm129 wm13 wm130) rfl rfl rfl (by decide +kernel) ⟨Nat.le_of_ble_eq_true rfl, Nat.le_of_ble_eq_true rfl⟩) (lx_preV hA hS hw hK hj []) rfl rfl hl.1 rfl (lv_room (Nat.le_of_ble_eq_true rfl)) dJx4a65c_add_72be8_7 ⟨Nat.le_refl 1, Nat.le_of_ble_eq_true rfl⟩) hS (fun _ _ h => h) (fun _ h => h) (fun r u t H locs ht hvm hp hB _ _ hS => ?_)
    obtain ⟨hp1, cap, g1, hc1, hc2, ⟨k, hk⟩, hg1⟩ := hp
    subst hp1
    have hw := hB.1
    rw [ht] at hw
    refine lv_astore_n (lv' := [(2, .ref u.1), (0, .ref (G.2.2.1 10 j)), (1, .ref (G.2.2.1 (pvK j) v)), (3, .int (nI (σ.2.2.2.2 j).length))]) hx hb dJx4a65c_add_72be8_10 rfl hl (by decide) rfl (fun ls hl => ?_)
    exact fin _ _ _ _ u.1 u.2 k cap g1 (by omega) (by omega) hk (by rw [hnil]; exact hc1) hc2 (fun t => by rw [hg1 t, hnil]; simp) hw hS ls (lv_sub hl [1, 2, 0, 3] rfl)
  · subst hAR
    refine lxLen hx hb hK htys hw 0 (x := (b, cap, fun t => (((σ.2.2.2.2 j))[t]?).map (G.2.2.1 (pvK j)))) rfl dJx4a65c_add_72be8_2 ?_
    refine lv_icmp_ne (tgt := 11) hx hb dJx4a65c_add_72be8_3 (by decide) (fun w => ?_) (fun w => ?_)
    · have hne : (σ.2.2.2.2 j).length ≠ cap := fun q => w (by rw [q])
      exact fin _ _ _ _ b _ 0 cap _ (by omega) (by omega) rfl (by omega) hc2.2 (fun t => rfl) hw hS ls (lv_sub hl [0, 1, 2, 3] rfl)
    · have hne : (σ.2.2.2.2 j).length = cap := (nI_eq (by omega) (by omega)).mp w
      subst hne
      refine lv_aload_n hx hb dJx4a65c_add_72be8_6 rfl (lv_at hl 0 rfl) ?_
      refine va_callq (va_runV (As := []) (rest := []) ⟨hx, hb, hml, hown, hts⟩ (c_grow0 (l := l) (G := G) (tys := tys) (σ := σ) htys hj (c0 := (σ.2.2.2.2 j).length) (g := fun t => (((σ.2.2.2.2 j))[t]?).map (G.2.2.1 (pvK j))) (by omega) (Or.inr ⟨rfl, by omega⟩) rfl) (cwV 0 hts (gVA wm127 wm128 wm129 wm13 wm130) rfl rfl rfl (by decide +kernel) ⟨Nat.le_of_ble_eq_true rfl, Nat.le_of_ble_eq_true rfl⟩) (lx_preV hA hS hw hK hj []) rfl rfl hl.1 rfl (lv_room (Nat.le_of_ble_eq_true rfl)) dJx4a65c_add_72be8_7 ⟨Nat.le_refl 1, Nat.le_of_ble_eq_true rfl⟩) hS (fun _ _ h => h) (fun _ h => h) (fun r u t H locs ht hvm hp hB _ _ hS => ?_)
      obtain ⟨hp1, cap, g1, hd1, hd2, ⟨k, hk⟩, hg1⟩ := hp
      subst hp1
      have hw := hB.1
      rw [ht] at hw
      refine lv_astore_n (lv' := [(2, .ref u.1), (0, .ref (G.2.2.1 10 j)), (1, .ref (G.2.2.1 (pvK j) v)), (3, .int (nI (σ.2.2.2.2 j).length))]) hx hb dJx4a65c_add_72be8_10 rfl hl (by decide) rfl (fun ls hl => ?_)
      refine fin _ _ _ _ u.1 u.2 k cap g1 (by omega) (by omega) hk hd1 hd2 (fun t => ?_) hw hS ls (lv_sub hl [1, 2, 0, 3] rfl)
      rw [hg1 t]
      split
      · rfl
      · rename_i w; rw [lx_none (by omega)]
set_option maxHeartbeats 4000000 in
set_option maxRecDepth 100000 in
theorem c_ladd {l : Launch} {G : PvG} {tys : List (ClassId × FieldType)} {σ : PvS} (htys : tys = pvT G) {j : Nat} (hj : j < σ.1 0 + 3) {v : Nat} (hv : v < pvM σ (pvK j)) (hlen : (σ.2.2.2.2 j).length < 64)  : Met l yJx4a65c_add_9ea2d (Cond.code yJx4a65c_add_9ea2d cJx4a65c_add_9ea2d 2 (some .boolean) :: WA) ({ frames := 6, cells := 1, slots := 96, locals := 220 }) (va_Pc [.ref (G.2.2.1 10 j), .ref (G.2.2.1 (pvK j) v)] (pvU G tys σ)) (va_Qi (fun r σ' => r = 1 ∧ σ' = pvL σ j ((σ.2.2.2.2 j) ++ [v])) (pvU G tys) (pvB G)) 1 96 (pvB G) := by
  refine Met.ofW (cc := cJx4a65c_add_9ea2d) (maxL := 2) (ret := (some .boolean)) (by decide) rfl ?_
  intro p e s m args below meth c s₁ B hml hv
  obtain ⟨rfl, hw, hK, hA⟩ := hv
  have hx := B.exec
  have hb := B.bytes
  have hr := B.returns
  have hts0 := atoms_spec (ws := (Cond.code yJx4a65c_add_9ea2d cJx4a65c_add_9ea2d 2 (some .boolean) :: WA)) B.pre
  have hts : ∀ w ∈ WA, w.before _ s = true := fun w h => hts0 w (List.mem_cons_of_mem _ h)
  have hown : s.vm.findClass RJx4a65c = some m.cls := findClass_of_methodNamed B.named
  have hlocks := B.notSynchronized
  have hS : va_S (pvB G) s.heap s.heap [] := va_S.rf
  have hl := lv_entry ([.ref (G.2.2.1 10 j), .ref (G.2.2.1 (pvK j) v)]) (n := 2) (Nat.le_of_ble_eq_true rfl)
  rw [lg_entry_eq]
  generalize (lg_sl ([.ref (G.2.2.1 10 j), .ref (G.2.2.1 (pvK j) v)]) ++ List.replicate (2 - (lg_sl ([.ref (G.2.2.1 10 j), .ref (G.2.2.1 (pvK j) v)])).length) Slot.unset).toArray = ls at hl ⊢
  have hl : lv_has ls 2 [(0, .ref (G.2.2.1 10 j)), (1, .ref (G.2.2.1 (pvK j) v))] := hl
  obtain ⟨h64, hcl, mm, b, AR, hw, hcase⟩ := lx_open hw hj
  refine lv_aload_n hx hb dJx4a65c_add_9ea2d_0 rfl (lv_at hl 0 rfl) ?_
  refine lv_dup hx hb dJx4a65c_add_9ea2d_1 rfl ?_
  refine lxGet hx hb hts hown hK hw hj 0 (by decide) rfl (hts _ wm120) (fun x hx => u_same (hts _ wm121) x hx) dJx4a65c_add_9ea2d_2 ?_
  refine lv_iconst (v := 1) hx hb dJx4a65c_add_9ea2d_5 (by decide) ?_
  refine lv_iadd hx hb dJx4a65c_add_9ea2d_6 ?_
  refine lxPut (ty := .int) (mm' := (mm + 1)) (b' := b) (z' := (nI (σ.2.2.2.2 j).length)) hx hb hts hown hK hw hS hj 0 (by decide) rfl (hts _ wm120) (fun x hx => u_same (hts _ wm121) x hx) rfl (by decide +kernel) rfl rfl dJx4a65c_add_9ea2d_7 (fun H locs hw hS => ?_)
  refine lv_aload_n hx hb dJx4a65c_add_9ea2d_10 rfl (lv_at hl 0 rfl) ?_
  refine lv_aload_n hx hb dJx4a65c_add_9ea2d_11 rfl (lv_at hl 1 rfl) ?_
  refine lv_aload_n hx hb dJx4a65c_add_9ea2d_12 rfl (lv_at hl 0 rfl) ?_
  refine lxGet hx hb hts hown hK hw hj 1 (by decide) rfl (hts _ wm47) (fun _ h9 => h9) dJx4a65c_add_9ea2d_13 ?_
  refine lv_aload_n hx hb dJx4a65c_add_9ea2d_16 rfl (lv_at hl 0 rfl) ?_
  refine lxGet hx hb hts hown hK hw hj 2 (by decide) rfl (hts _ wm122) (fun _ h9 => h9) dJx4a65c_add_9ea2d_17 ?_
  refine va_callv (va_runV (As := [.ref (G.2.2.1 (pvK j) v), .ref b, .int (nI (σ.2.2.2.2 j).length)]) (rest := []) ⟨hx, hb, hml, hown, hts⟩ (c_ladd3 (l := l) (G := G) (tys := tys) (σ := σ) htys hj (mm := mm + 1) hv hlen hcl hcase) (cwV 3 hts (gVA wm123 wm124 wm125 wm13 wm126) rfl rfl rfl (by decide +kernel) ⟨Nat.le_of_ble_eq_true rfl, Nat.le_of_ble_eq_true rfl⟩) (lx_preV hA hS hw hK hj [.ref (G.2.2.1 (pvK j) v), .ref b, .int (nI (σ.2.2.2.2 j).length)]) rfl rfl hl.1 rfl (lv_room (Nat.le_of_ble_eq_true rfl)) dJx4a65c_add_9ea2d_20 ⟨Nat.le_refl 1, Nat.le_of_ble_eq_true rfl⟩) hS (fun _ _ h => h) (fun _ h => h) (fun u t H locs ht hvm hp hB _ _ hS => ?_)
  have hw := hB.1
  rw [ht] at hw
  refine lv_iconst (v := 1) hx hb dJx4a65c_add_9ea2d_23 (by decide) ?_
  exact pez hx hb hr rfl hlocks hA hw hK hS ⟨rfl, hp⟩ dJx4a65c_add_9ea2d_24
set_option maxHeartbeats 4000000 in
set_option maxRecDepth 100000 in
theorem c_lclear {l : Launch} {G : PvG} {tys : List (ClassId × FieldType)} {σ : PvS} (htys : tys = pvT G) {j : Nat} (hj : j < σ.1 0 + 3)  : Met l yJx4a65c_clear_da8c8 (Cond.code yJx4a65c_clear_da8c8 cJx4a65c_clear_da8c8 4 none :: WA) ({ frames := 0, cells := 0, slots := 0, locals := 0 }) (va_Pc [.ref (G.2.2.1 10 j)] (pvU G tys σ)) (va_Qv (fun σ' => σ' = pvL σ j []) (pvU G tys) (pvB G)) 0 0 (pvB G) := by
  refine Met.ofW (cc := cJx4a65c_clear_da8c8) (maxL := 4) (ret := none) (by decide) rfl ?_
  intro p e s m args below meth c s₁ B hml hv
  obtain ⟨rfl, hw, hK, hA⟩ := hv
  have hx := B.exec
  have hb := B.bytes
  have hr := B.returns
  have hts0 := atoms_spec (ws := (Cond.code yJx4a65c_clear_da8c8 cJx4a65c_clear_da8c8 4 none :: WA)) B.pre
  have hts : ∀ w ∈ WA, w.before _ s = true := fun w h => hts0 w (List.mem_cons_of_mem _ h)
  have hown : s.vm.findClass RJx4a65c = some m.cls := findClass_of_methodNamed B.named
  have hlocks := B.notSynchronized
  have hS : va_S (pvB G) s.heap s.heap [] := va_S.rf
  have hl := lv_entry ([.ref (G.2.2.1 10 j)]) (n := 4) (Nat.le_of_ble_eq_true rfl)
  rw [lg_entry_eq]
  generalize (lg_sl ([.ref (G.2.2.1 10 j)]) ++ List.replicate (4 - (lg_sl ([.ref (G.2.2.1 10 j)])).length) Slot.unset).toArray = ls at hl ⊢
  have hl : lv_has ls 4 [(0, .ref (G.2.2.1 10 j))] := hl
  obtain ⟨h64, hcl, mm, b, AR, hw, hcase⟩ := lx_open hw hj
  refine lv_aload_n hx hb dJx4a65c_clear_da8c8_0 rfl (lv_at hl 0 rfl) ?_
  refine lv_dup hx hb dJx4a65c_clear_da8c8_1 rfl ?_
  refine lxGet hx hb hts hown hK hw hj 0 (by decide) rfl (hts _ wm120) (fun x hx => u_same (hts _ wm121) x hx) dJx4a65c_clear_da8c8_2 ?_
  refine lv_iconst (v := 1) hx hb dJx4a65c_clear_da8c8_5 (by decide) ?_
  refine lv_iadd hx hb dJx4a65c_clear_da8c8_6 ?_
  refine lxPut (ty := .int) (mm' := (mm + 1)) (b' := b) (z' := (nI (σ.2.2.2.2 j).length)) hx hb hts hown hK hw hS hj 0 (by decide) rfl (hts _ wm120) (fun x hx => u_same (hts _ wm121) x hx) rfl (by decide +kernel) rfl rfl dJx4a65c_clear_da8c8_7 (fun H locs hw hS => ?_)
  refine lv_aload_n hx hb dJx4a65c_clear_da8c8_10 rfl (lv_at hl 0 rfl) ?_
  refine lxGet hx hb hts hown hK hw hj 1 (by decide) rfl (hts _ wm47) (fun _ h9 => h9) dJx4a65c_clear_da8c8_11 ?_
  refine lv_astore_n (lv' := [(1, .ref b), (0, .ref (G.2.2.1 10 j))]) hx hb dJx4a65c_clear_da8c8_14 rfl hl (by decide) rfl (fun ls hl => ?_)
  refine lv_aload_n hx hb dJx4a65c_clear_da8c8_15 rfl (lv_at hl 1 rfl) ?_
  refine lxGet hx hb hts hown hK hw hj 2 (by decide) rfl (hts _ wm122) (fun _ h9 => h9) dJx4a65c_clear_da8c8_16 ?_
  refine lv_istore_n (lv' := [(2, .int (nI (σ.2.2.2.2 j).length)), (1, .ref b), (0, .ref (G.2.2.1 10 j))]) hx hb dJx4a65c_clear_da8c8_19 rfl hl (by decide) rfl (fun ls hl => ?_)
  refine lv_aload_n hx hb dJx4a65c_clear_da8c8_20 rfl (lv_at hl 2 rfl) ?_
  refine lv_iconst (v := 0) hx hb dJx4a65c_clear_da8c8_21 (by decide) ?_
  refine lv_dup_x1 hx hb dJx4a65c_clear_da8c8_22 rfl rfl ?_
  refine lxPut (ty := .int) (mm' := (mm + 1)) (b' := b) (z' := 0) hx hb hts hown hK hw hS hj 2 (by decide) rfl (hts _ wm122) (fun _ h9 => h9) rfl (by decide +kernel) rfl rfl dJx4a65c_clear_da8c8_23 (fun H locs hw hS => ?_)
  refine lv_istore_n (lv' := [(3, .int 0), (2, .int (nI (σ.2.2.2.2 j).length)), (1, .ref b), (0, .ref (G.2.2.1 10 j))]) hx hb dJx4a65c_clear_da8c8_26 rfl hl (by decide) rfl (fun ls hl => ?_)
  have loop : ∀ (n i : Nat), (σ.2.2.2.2 j).length - i < n → i ≤ (σ.2.2.2.2 j).length → ∀ (AR : List LxA), ((AR = [] ∧ b = G.2.2.2.1.1 0 ∧ (σ.2.2.2.2 j) = []) ∨ ∃ cap g, AR = [(b, cap, g)] ∧ (σ.2.2.2.2 j).length ≤ cap ∧ cap ≤ 1000 ∧ (∀ t, t < i → g t = none) ∧ ∀ t, (σ.2.2.2.2 j).length ≤ t → g t = none) → ∀ (H : Heap) (locs : List Loc), lxW G σ j (mm + 1) b 0 AR H → va_S (pvB G) s.heap H locs → ∀ ls, lv_has ls 4 [(3, .int (nI i)), (0, .ref (G.2.2.1 10 j)), (1, .ref b), (2, .int (nI (σ.2.2.2.2 j).length))] →
    W p l e (headSpec (Cond.code yJx4a65c_clear_da8c8 cJx4a65c_clear_da8c8 4 none :: WA) ({ frames := 0, cells := 0, slots := 0, locals := 0 } : Room)).room s m ([.ref (G.2.2.1 10 j)] : List Value).toArray below meth c H locs 0 0 (MQ below (va_Qv (fun σ' => σ' = pvL σ j []) (pvU G tys) (pvB G)) ([.ref (G.2.2.1 10 j)] : List Value).toArray s 0 0 (pvB G)) (F0 m 27 ls []) := by
    intro n
    induction n with
    | zero => intros; omega
    | succ n ih =>
      intro i hm hi AR hcs H locs hw hS ls hl
      refine lv_iload_n hx hb dJx4a65c_clear_da8c8_27 rfl (lv_at hl 0 rfl) ?_
      refine lv_iload_n hx hb dJx4a65c_clear_da8c8_28 rfl (lv_at hl 3 rfl) ?_
      refine lv_icmp_ge (tgt := 42) hx hb dJx4a65c_clear_da8c8_29 (by decide) (fun w => ?_) (fun w => ?_)
      · have w := (nI_leI (by omega) (by omega)).mp w
        have hw2 : pvW G (pvL σ j []) H := by
          rcases hcs with ⟨q1, q2, q3⟩ | ⟨cap, g, q1, q2, q3, q4, q5⟩
          · exact lx_close (k := 0) (cap := 0) (g := fun _ => none) hj hw (by decide) (by simp) rfl (Or.inl ⟨rfl, q2⟩)
          · refine lx_close (k := 0) (cap := cap) (g := g) hj hw (by decide) (by simp) rfl (Or.inr ⟨by rw [q1]; rfl, Nat.zero_le _, fun t => ?_⟩)
            by_cases ht : t < i
            · rw [q4 t ht]; rfl
            · rw [q5 t (by omega)]; rfl
        exact pev hx hb hr hlocks hA hw2 hK hS rfl dJx4a65c_clear_da8c8_42
      · have w : ¬ (σ.2.2.2.2 j).length ≤ i := fun q => w ((nI_leI (by omega) (by omega)).mpr q)
        rcases hcs with ⟨q1, q2, q3⟩ | ⟨cap, g, q1, q2, q3, q4, q5⟩
        · rw [q3] at w; exact absurd (Nat.zero_le _) w
        subst q1
        refine lv_aload_n hx hb dJx4a65c_clear_da8c8_32 rfl (lv_at hl 2 rfl) ?_
        refine lv_iload_n hx hb dJx4a65c_clear_da8c8_33 rfl (lv_at hl 0 rfl) ?_
        refine lv_null hx hb dJx4a65c_clear_da8c8_34 ?_
        refine lxStN hx hb hK htys hw hS hj 0 (x := (b, cap, g)) rfl (vp_in_nI (show i < cap by omega) (show cap < 2 ^ 31 by omega)) dJx4a65c_clear_da8c8_35 (fun H locs hw hS => ?_)
        refine lv_iinc (v := nI (i + 1)) (lv' := [(3, .int (nI (i + 1))), (0, .ref (G.2.2.1 10 j)), (1, .ref b), (2, .int (nI (σ.2.2.2.2 j).length))]) hx hb dJx4a65c_clear_da8c8_36 hl (k := 0) rfl (nI_1 _) (by decide) rfl (fun ls hl => ?_)
        refine lv_goto (tgt := 27) hx hb dJx4a65c_clear_da8c8_39 (by decide) ?_
        refine ih (i + 1) (by omega) (by omega) _ (Or.inr ⟨cap, _, rfl, q2, q3, fun t ht => ?_, fun t ht => ?_⟩) _ _ hw hS ls hl
        · show va_up g (nI i).toNatClampNeg none t = none
          rw [nI_clamp (by omega)]
          unfold va_up
          split
          · rfl
          · exact q4 t (by omega)
        · show va_up g (nI i).toNatClampNeg none t = none
          unfold va_up
          split
          · rfl
          · exact q5 t ht
  refine loop ((σ.2.2.2.2 j).length + 1) 0 (by omega) (Nat.zero_le _) AR ?_ _ _ hw hS ls (lv_sub hl [0, 3, 2, 1] rfl)
  rcases hcase with ⟨q1, q2, q3⟩ | ⟨cap, q1, q2, q3⟩
  · exact Or.inl ⟨q1, q2, q3⟩
  · exact Or.inr ⟨cap, _, q1, q2, q3.2, fun t ht => absurd ht (Nat.not_lt_zero _), fun t ht => lx_none ht⟩
end
section
/-! LISTS, changed: add at a place, remove -/
theorem lx_ins {ad : Nat → Nat} {l : List Nat} {v k : Nat} (hk : k ≤ l.length) {g : Nat → Option Nat} (hg : ∀ t, g t = (l[t]?).map ad) (t : Nat) : va_up (va_cpy g g k (k + 1) (l.length - k)) k (some (ad v)) t = ((l.take k ++ v :: l.drop k)[t]?).map ad := by
  have hlen : (l.take k).length = k := by rw [List.length_take]; omega
  unfold va_up
  by_cases e : t = k
  · subst e; rw [if_pos rfl, List.getElem?_append_right (by omega), hlen, Nat.sub_self]; rfl
  · rw [if_neg e]
    by_cases h : t < k
    · rw [pk_cpy_out (by omega), hg, List.getElem?_append_left (by omega), List.getElem?_take_of_lt h]
    · obtain ⟨d, rfl⟩ : ∃ d, t = k + 1 + d := ⟨t - k - 1, by omega⟩
      rw [List.getElem?_append_right (by omega), hlen, show k + 1 + d - k = d + 1 by omega, List.getElem?_cons_succ, List.getElem?_drop]
      by_cases h2 : k + 1 + d < k + 1 + (l.length - k)
      · rw [pk_cpy_in (by omega) h2, hg]; congr 2; omega
      · rw [pk_cpy_out (by omega), hg, List.getElem?_eq_none (by omega), List.getElem?_eq_none (by omega)]
theorem lx_del {ad : Nat → Nat} {l : List Nat} {k : Nat} (hk : k < l.length) {g : Nat → Option Nat} (hg : ∀ t, g t = (l[t]?).map ad) (t : Nat) : va_up (if k < l.length - 1 then va_cpy g g (k + 1) k (l.length - 1 - k) else g) (l.length - 1) none t = ((l.eraseIdx k)[t]?).map ad := by
  have hlen : (l.eraseIdx k).length = l.length - 1 := by rw [List.length_eraseIdx_of_lt hk]
  unfold va_up
  by_cases e : t = l.length - 1
  · rw [if_pos e, List.getElem?_eq_none (by omega)]; rfl
  · rw [if_neg e, List.getElem?_eraseIdx]
    by_cases h : t < k
    · rw [if_pos h]
      split
      · rw [pk_cpy_out (by omega), hg]
      · rw [hg]
    · rw [if_neg h]
      split
      · by_cases h2 : t < k + (l.length - 1 - k)
        · rw [pk_cpy_in (by omega) h2, hg]; congr 2; omega
        · rw [pk_cpy_out (by omega), hg, List.getElem?_eq_none (by omega), List.getElem?_eq_none (by omega)]
      · rw [hg, List.getElem?_eq_none (by omega), List.getElem?_eq_none (by omega)]
set_option maxHeartbeats 4000000 in
set_option maxRecDepth 100000 in
theorem c_lrange {l : Launch} {G : PvG} {tys : List (ClassId × FieldType)} {σ : PvS} (htys : tys = pvT G) {j : Nat} (hj : j < σ.1 0 + 3) {k : Nat} (hk : k ≤ (σ.2.2.2.2 j).length) : Met l yJx4a65c_rangeCheckForAdd_d00df (Cond.code yJx4a65c_rangeCheckForAdd_d00df cJx4a65c_rangeCheckForAdd_d00df 2 none :: WA) ({ frames := 0, cells := 0, slots := 0, locals := 0 }) (va_Pc [.ref (G.2.2.1 10 j), .int (nI k)] (pvU G tys σ)) (va_Qv (fun σ' => σ' = σ) (pvU G tys) (pvB G)) 0 0 (pvB G) := by
  refine Met.ofW (cc := cJx4a65c_rangeCheckForAdd_d00df) (maxL := 2) (ret := none) (by decide) rfl ?_
  intro p e s m args below meth c s₁ B hml hv
  obtain ⟨rfl, hw, hK, hA⟩ := hv
  have hx := B.exec
  have hb := B.bytes
  have hr := B.returns
  have hts0 := atoms_spec (ws := (Cond.code yJx4a65c_rangeCheckForAdd_d00df cJx4a65c_rangeCheckForAdd_d00df 2 none :: WA)) B.pre
  have hts : ∀ w ∈ WA, w.before _ s = true := fun w h => hts0 w (List.mem_cons_of_mem _ h)
  have hown : s.vm.findClass RJx4a65c = some m.cls := findClass_of_methodNamed B.named
  have hlocks := B.notSynchronized
  have hS : va_S (pvB G) s.heap s.heap [] := va_S.rf
  have hl := lv_entry ([.ref (G.2.2.1 10 j), .int (nI k)]) (n := 2) (Nat.le_of_ble_eq_true rfl)
  rw [lg_entry_eq]
  generalize (lg_sl ([.ref (G.2.2.1 10 j), .int (nI k)]) ++ List.replicate (2 - (lg_sl ([.ref (G.2.2.1 10 j), .int (nI k)])).length) Slot.unset).toArray = ls at hl ⊢
  have hl : lv_has ls 2 [(0, .ref (G.2.2.1 10 j)), (1, .int (nI k))] := hl
  have h64 := pl_len hw j hj
  refine lv_iload_n hx hb dJx4a65c_rangeCheckForAdd_d00df_0 rfl (lv_at hl 1 rfl) ?_
  refine lv_aload_n hx hb dJx4a65c_rangeCheckForAdd_d00df_1 rfl (lv_at hl 0 rfl) ?_
  refine plS hx hb hts hown hK hw j hj inF_Jx4a65c (hts _ wm122) dJx4a65c_rangeCheckForAdd_d00df_2 ?_
  refine lv_icmp_gt (tgt := 12) hx hb dJx4a65c_rangeCheckForAdd_d00df_5 (by decide) (fun w => absurd ((nI_ltI (by omega) (by omega)).mp w) (by omega)) (fun _ => ?_)
  refine lv_iload_n hx hb dJx4a65c_rangeCheckForAdd_d00df_8 rfl (lv_at hl 1 rfl) ?_
  refine lv_if_ge (tgt := 25) hx hb dJx4a65c_rangeCheckForAdd_d00df_9 (by decide) (fun _ => ?_) (fun w => absurd (nI_pos' (by omega)) w)
  exact pev hx hb hr hlocks hA hw hK hS rfl dJx4a65c_rangeCheckForAdd_d00df_25
set_option maxHeartbeats 4000000 in
set_option maxRecDepth 100000 in
theorem c_lins {l : Launch} {G : PvG} {tys : List (ClassId × FieldType)} {σ : PvS} (htys : tys = pvT G) {j : Nat} (hj : j < σ.1 0 + 3) {v : Nat} (hv : v < pvM σ (pvK j)) (hlen : (σ.2.2.2.2 j).length < 64) {k : Nat} (hk : k ≤ (σ.2.2.2.2 j).length)  : Met l yJx4a65c_add_7a177 (Cond.code yJx4a65c_add_7a177 cJx4a65c_add_7a177 5 none :: WA) ({ frames := 5, cells := 1, slots := 96, locals := 190 }) (va_Pc [.ref (G.2.2.1 10 j), .int (nI k), .ref (G.2.2.1 (pvK j) v)] (pvU G tys σ)) (va_Qv (fun σ' => σ' = pvL σ j (((σ.2.2.2.2 j)).take k ++ v :: ((σ.2.2.2.2 j)).drop k)) (pvU G tys) (pvB G)) 1 96 (pvB G) := by
  refine Met.ofW (cc := cJx4a65c_add_7a177) (maxL := 5) (ret := none) (by decide) rfl ?_
  intro p e s m args below meth c s₁ B hml hv
  obtain ⟨rfl, hw, hK, hA⟩ := hv
  have hx := B.exec
  have hb := B.bytes
  have hr := B.returns
  have hts0 := atoms_spec (ws := (Cond.code yJx4a65c_add_7a177 cJx4a65c_add_7a177 5 none :: WA)) B.pre
  have hts : ∀ w ∈ WA, w.before _ s = true := fun w h => hts0 w (List.mem_cons_of_mem _ h)
  have hown : s.vm.findClass RJx4a65c = some m.cls := findClass_of_methodNamed B.named
  have hlocks := B.notSynchronized
  have hS : va_S (pvB G) s.heap s.heap [] := va_S.rf
  have hl := lv_entry ([.ref (G.2.2.1 10 j), .int (nI k), .ref (G.2.2.1 (pvK j) v)]) (n := 5) (Nat.le_of_ble_eq_true rfl)
  rw [lg_entry_eq]
  generalize (lg_sl ([.ref (G.2.2.1 10 j), .int (nI k), .ref (G.2.2.1 (pvK j) v)]) ++ List.replicate (5 - (lg_sl ([.ref (G.2.2.1 10 j), .int (nI k), .ref (G.2.2.1 (pvK j) v)])).length) Slot.unset).toArray = ls at hl ⊢
  have hl : lv_has ls 5 [(0, .ref (G.2.2.1 10 j)), (1, .int (nI k)), (2, .ref (G.2.2.1 (pvK j) v))] := hl
  have hcl' : ∀ x ∈ ((σ.2.2.2.2 j)).take k ++ v :: ((σ.2.2.2.2 j)).drop k, x < pvM σ (pvK j) := fun x hx => (List.mem_append.mp hx).elim (fun h => (lx_open hw hj).2.1 x (List.mem_of_mem_take h)) (fun h => (List.mem_cons.mp h).elim (fun e => by rw [e]; exact hv) (fun h => (lx_open hw hj).2.1 x (List.mem_of_mem_drop h)))
  have hL1 : (((σ.2.2.2.2 j)).take k ++ v :: ((σ.2.2.2.2 j)).drop k).length = (σ.2.2.2.2 j).length + 1 := by simp only [List.length_append, List.length_take, List.length_cons, List.length_drop]; omega
  have hl64 : (((σ.2.2.2.2 j)).take k ++ v :: ((σ.2.2.2.2 j)).drop k).length ≤ 64 := by omega
  refine lv_aload_n hx hb dJx4a65c_add_7a177_0 rfl (lv_at hl 0 rfl) ?_
  refine lv_iload_n hx hb dJx4a65c_add_7a177_1 rfl (lv_at hl 1 rfl) ?_
  refine pcallv (va_runV (As := [.int (nI k)]) (rest := []) ⟨hx, hb, hml, hown, hts⟩ (c_lrange (l := l) (G := G) (tys := tys) (σ := σ) htys hj hk) (cwV 1 hts (gVA wm891 wm892 wm893 wm13 wm894) rfl rfl rfl (by decide +kernel) ⟨Nat.le_of_ble_eq_true rfl, Nat.le_of_ble_eq_true rfl⟩) (pl_preV hA hS hw hK j hj [.int (nI k)]) rfl rfl hl.1 rfl (lv_room (Nat.le_of_ble_eq_true rfl)) dJx4a65c_add_7a177_2 ⟨Nat.zero_le _, Nat.zero_le _⟩) hS (fun s1 H locs hp hw hS => ?_)
  obtain rfl := hp.symm
  obtain ⟨h64, hcl, mm, b, AR, hw, hcase⟩ := lx_open hw hj
  refine lv_aload_n hx hb dJx4a65c_add_7a177_5 rfl (lv_at hl 0 rfl) ?_
  refine lv_dup hx hb dJx4a65c_add_7a177_6 rfl ?_
  refine lxGet hx hb hts hown hK hw hj 0 (by decide) rfl (hts _ wm120) (fun x hx => u_same (hts _ wm121) x hx) dJx4a65c_add_7a177_7 ?_
  refine lv_iconst (v := 1) hx hb dJx4a65c_add_7a177_10 (by decide) ?_
  refine lv_iadd hx hb dJx4a65c_add_7a177_11 ?_
  refine lxPut (ty := .int) (mm' := (mm + 1)) (b' := b) (z' := (nI (σ.2.2.2.2 j).length)) hx hb hts hown hK hw hS hj 0 (by decide) rfl (hts _ wm120) (fun x hx => u_same (hts _ wm121) x hx) rfl (by decide +kernel) rfl rfl dJx4a65c_add_7a177_12 (fun H locs hw hS => ?_)
  refine lv_aload_n hx hb dJx4a65c_add_7a177_15 rfl (lv_at hl 0 rfl) ?_
  refine lxGet hx hb hts hown hK hw hj 2 (by decide) rfl (hts _ wm122) (fun _ h9 => h9) dJx4a65c_add_7a177_16 ?_
  refine lv_dup hx hb dJx4a65c_add_7a177_19 rfl ?_
  refine lv_istore_n (lv' := [(3, .int (nI (σ.2.2.2.2 j).length)), (0, .ref (G.2.2.1 10 j)), (1, .int (nI k)), (2, .ref (G.2.2.1 (pvK j) v))]) hx hb dJx4a65c_add_7a177_20 rfl hl (by decide) rfl (fun ls hl => ?_)
  refine lv_aload_n hx hb dJx4a65c_add_7a177_21 rfl (lv_at hl 1 rfl) ?_
  refine lxGet hx hb hts hown hK hw hj 1 (by decide) rfl (hts _ wm47) (fun _ h9 => h9) dJx4a65c_add_7a177_22 ?_
  refine lv_dup hx hb dJx4a65c_add_7a177_25 rfl ?_
  refine lv_astore (lv' := [(4, .ref b), (3, .int (nI (σ.2.2.2.2 j).length)), (0, .ref (G.2.2.1 10 j)), (1, .int (nI k)), (2, .ref (G.2.2.1 (pvK j) v))]) hx hb dJx4a65c_add_7a177_26 hl (by decide) rfl (fun ls hl => ?_)
  have fin : ∀ (H : Heap) (locs : List Loc) (cl sl : Nat) (q : Nat) (AR : List LxA) (kk cap : Nat) (g : Nat → Option Nat), cl ≤ 1 → sl ≤ 96 → AR[kk]? = some (q, cap, g) → (σ.2.2.2.2 j).length < cap → cap ≤ 1000 → (∀ t, g t = (((σ.2.2.2.2 j))[t]?).map (G.2.2.1 (pvK j))) → lxW G σ j (mm + 1) q (nI (σ.2.2.2.2 j).length) AR H → va_S (pvB G) s.heap H locs → ∀ ls, lv_has ls 5 [(4, .ref q), (3, .int (nI (σ.2.2.2.2 j).length)), (0, .ref (G.2.2.1 10 j)), (1, .int (nI k)), (2, .ref (G.2.2.1 (pvK j) v))] →
    W p l e (headSpec (Cond.code yJx4a65c_add_7a177 cJx4a65c_add_7a177 5 none :: WA) ({ frames := 5, cells := 1, slots := 96, locals := 190 } : Room)).room s m ([.ref (G.2.2.1 10 j), .int (nI k), .ref (G.2.2.1 (pvK j) v)] : List Value).toArray below meth c H locs cl sl (MQ below (va_Qv (fun σ' => σ' = pvL σ j (((σ.2.2.2.2 j)).take k ++ v :: ((σ.2.2.2.2 j)).drop k)) (pvU G tys) (pvB G)) ([.ref (G.2.2.1 10 j), .int (nI k), .ref (G.2.2.1 (pvK j) v)] : List Value).toArray s 1 96 (pvB G)) (F0 m 38 ls []) := by
    intro H locs cl sl q AR kk cap g hcl1 hsl1 hkk hcap hcap2 hg hw hS ls hl
    refine lv_aload hx hb dJx4a65c_add_7a177_38 (lv_at hl 0 rfl) ?_
    refine lv_iload_n hx hb dJx4a65c_add_7a177_40 rfl (lv_at hl 3 rfl) ?_
    refine lv_aload hx hb dJx4a65c_add_7a177_41 (lv_at hl 0 rfl) ?_
    refine lv_iload_n hx hb dJx4a65c_add_7a177_43 rfl (lv_at hl 3 rfl) ?_
    refine lv_iconst (v := 1) hx hb dJx4a65c_add_7a177_44 (by decide) ?_
    refine lv_iadd hx hb dJx4a65c_add_7a177_45 ?_
    refine lv_iload_n hx hb dJx4a65c_add_7a177_46 rfl (lv_at hl 1 rfl) ?_
    refine lv_iload_n hx hb dJx4a65c_add_7a177_47 rfl (lv_at hl 3 rfl) ?_
    refine lv_isub hx hb dJx4a65c_add_7a177_48 ?_
    rw [nI_1, pk_sub hk]
    refine lxCp hx hb (hml.trans hl.1.symm) hown (hts _ wm886) (hts _ wm163) (hts _ wm164) (hts _ wm165) hA hK htys hw hS hj kk kk (x := (q, cap, g)) (y := (q, cap, g)) hkk hkk (nI_pos (by omega)) (nI_pos (by omega)) (nI_pos (by omega)) (by rw [nI_clamp (by omega), nI_clamp (by omega)]; show _ ≤ cap; omega) (by rw [nI_clamp (by omega), nI_clamp (by omega)]; show _ ≤ cap; omega) (Nat.le_of_ble_eq_true rfl) (by show _ ≤ 190; decide +kernel) dJx4a65c_add_7a177_49 (fun H locs hw hS => ?_)
    rw [nI_clamp (by omega), nI_clamp (by omega), nI_clamp (by omega)] at hw
    have hlt := (List.getElem?_eq_some_iff.mp hkk).1
    refine lv_aload hx hb dJx4a65c_add_7a177_52 (lv_at hl 0 rfl) ?_
    refine lv_iload_n hx hb dJx4a65c_add_7a177_54 rfl (lv_at hl 3 rfl) ?_
    refine lv_aload_n hx hb dJx4a65c_add_7a177_55 rfl (lv_at hl 4 rfl) ?_
    refine lxSt hx hb hA hK htys hw hS hj kk (x := (q, cap, va_cpy g g k (k + 1) ((σ.2.2.2.2 j).length - k))) (by rw [List.getElem?_set_self hlt]) hv (vp_in_nI (show k < cap by omega) (show cap < 2 ^ 31 by omega)) dJx4a65c_add_7a177_56 (fun H locs hw hS => ?_)
    refine lv_aload_n hx hb dJx4a65c_add_7a177_57 rfl (lv_at hl 2 rfl) ?_
    refine lv_iload_n hx hb dJx4a65c_add_7a177_58 rfl (lv_at hl 1 rfl) ?_
    refine lv_iconst (v := 1) hx hb dJx4a65c_add_7a177_59 (by decide) ?_
    refine lv_iadd hx hb dJx4a65c_add_7a177_60 ?_
    refine lxPut (ty := .int) (mm' := (mm + 1)) (b' := q) (z' := (nI (σ.2.2.2.2 j).length + 1)) hx hb hts hown hK hw hS hj 2 (by decide) rfl (hts _ wm122) (fun _ h9 => h9) rfl (by decide +kernel) rfl rfl dJx4a65c_add_7a177_61 (fun H locs hw hS => ?_)
    have hw2 := lx_close (v := ((σ.2.2.2.2 j)).take k ++ v :: ((σ.2.2.2.2 j)).drop k) (k := kk) (cap := cap) (g := va_up (va_cpy g g k (k + 1) ((σ.2.2.2.2 j).length - k)) (nI k).toNatClampNeg (some (G.2.2.1 (pvK j) v))) hj hw hl64 hcl' (by rw [nI_1, hL1]) (Or.inr ⟨by rw [List.getElem?_set_self (by rw [List.length_set]; exact hlt)], by omega, fun t => by rw [nI_clamp (by omega)]; exact lx_ins hk hg t⟩)
    refine W.widen (k := 1) (n := 96) hcl1 hsl1 ?_
    exact pev hx hb hr hlocks hA hw2 hK hS rfl dJx4a65c_add_7a177_64
  rcases hcase with ⟨hAR, hb0, hnil⟩ | ⟨cap, hAR, hc1, hc2⟩
  · subst hAR
    subst hb0
    refine va_tlen hx hb hA.2.1.1.2 hS (v := 0) rfl dJx4a65c_add_7a177_28 ?_
    refine lv_icmp_ne (tgt := 38) hx hb dJx4a65c_add_7a177_29 (by decide) (fun w => absurd (by rw [hnil]; rfl) w) (fun _ => ?_)
    refine lv_aload_n hx hb dJx4a65c_add_7a177_32 rfl (lv_at hl 2 rfl) ?_
    refine va_callq (va_runV (As := []) (rest := []) ⟨hx, hb, hml, hown, hts⟩ (c_grow0 (l := l) (G := G) (tys := tys) (σ := σ) htys hj (c0 := 0) (g := fun _ => none) (by omega) (Or.inl ⟨rfl, rfl, rfl⟩) (by rw [hnil]; rfl)) (cwV 0 hts (gVA wm127 wm128 wm129 wm13 wm130) rfl rfl rfl (by decide +kernel) ⟨Nat.le_of_ble_eq_true rfl, Nat.le_of_ble_eq_true rfl⟩) (lx_preV hA hS hw hK hj []) rfl rfl hl.1 rfl (lv_room (Nat.le_of_ble_eq_true rfl)) dJx4a65c_add_7a177_33 ⟨Nat.le_refl 1, Nat.le_of_ble_eq_true rfl⟩) hS (fun _ _ h => h) (fun _ h => h) (fun r u t H locs ht hvm hp hB _ _ hS => ?_)
    obtain ⟨hp1, cap, g1, hc1, hc2, ⟨kk, hkk⟩, hg1⟩ := hp
    subst hp1
    have hw := hB.1
    rw [ht] at hw
    refine lv_astore (lv' := [(4, .ref u.1), (3, .int (nI (σ.2.2.2.2 j).length)), (0, .ref (G.2.2.1 10 j)), (1, .int (nI k)), (2, .ref (G.2.2.1 (pvK j) v))]) hx hb dJx4a65c_add_7a177_36 hl (by decide) rfl (fun ls hl => ?_)
    exact fin _ _ _ _ u.1 u.2 kk cap g1 (by omega) (by omega) hkk (by rw [hnil]; exact hc1) hc2 (fun t => by rw [hg1 t, hnil]; simp) hw hS ls hl
  · subst hAR
    refine lxLen hx hb hK htys hw 0 (x := (b, cap, fun t => (((σ.2.2.2.2 j))[t]?).map (G.2.2.1 (pvK j)))) rfl dJx4a65c_add_7a177_28 ?_
    refine lv_icmp_ne (tgt := 38) hx hb dJx4a65c_add_7a177_29 (by decide) (fun w => ?_) (fun w => ?_)
    · have hne : (σ.2.2.2.2 j).length ≠ cap := fun q => w (by rw [q])
      exact fin _ _ _ _ b _ 0 cap _ (by omega) (by omega) rfl (by omega) hc2.2 (fun t => rfl) hw hS ls hl
    · have hne : (σ.2.2.2.2 j).length = cap := (nI_eq (by omega) (by omega)).mp w
      subst hne
      refine lv_aload_n hx hb dJx4a65c_add_7a177_32 rfl (lv_at hl 2 rfl) ?_
      refine va_callq (va_runV (As := []) (rest := []) ⟨hx, hb, hml, hown, hts⟩ (c_grow0 (l := l) (G := G) (tys := tys) (σ := σ) htys hj (c0 := (σ.2.2.2.2 j).length) (g := fun t => (((σ.2.2.2.2 j))[t]?).map (G.2.2.1 (pvK j))) (by omega) (Or.inr ⟨rfl, by omega⟩) rfl) (cwV 0 hts (gVA wm127 wm128 wm129 wm13 wm130) rfl rfl rfl (by decide +kernel) ⟨Nat.le_of_ble_eq_true rfl, Nat.le_of_ble_eq_true rfl⟩) (lx_preV hA hS hw hK hj []) rfl rfl hl.1 rfl (lv_room (Nat.le_of_ble_eq_true rfl)) dJx4a65c_add_7a177_33 ⟨Nat.le_refl 1, Nat.le_of_ble_eq_true rfl⟩) hS (fun _ _ h => h) (fun _ h => h) (fun r u t H locs ht hvm hp hB _ _ hS => ?_)
      obtain ⟨hp1, cap, g1, hd1, hd2, ⟨kk, hkk⟩, hg1⟩ := hp
      subst hp1
      have hw := hB.1
      rw [ht] at hw
      refine lv_astore (lv' := [(4, .ref u.1), (3, .int (nI (σ.2.2.2.2 j).length)), (0, .ref (G.2.2.1 10 j)), (1, .int (nI k)), (2, .ref (G.2.2.1 (pvK j) v))]) hx hb dJx4a65c_add_7a177_36 hl (by decide) rfl (fun ls hl => ?_)
      refine fin _ _ _ _ u.1 u.2 kk cap g1 (by omega) (by omega) hkk hd1 hd2 (fun t => ?_) hw hS ls hl
      rw [hg1 t]
      split
      · rfl
      · rename_i w; rw [lx_none (by omega)]
set_option maxHeartbeats 4000000 in
set_option maxRecDepth 100000 in
theorem c_lfast {l : Launch} {G : PvG} {tys : List (ClassId × FieldType)} {σ : PvS} (htys : tys = pvT G) {j : Nat} (hj : j < σ.1 0 + 3) {mm : Int32} {b : Nat} {AR : List LxA} {k : Nat} (hk : k < (σ.2.2.2.2 j).length) (h64 : (σ.2.2.2.2 j).length ≤ 64) (hcl : ∀ x ∈ σ.2.2.2.2 j, x < pvM σ (pvK j)) {cap : Nat} (hAR : AR = [(b, cap, fun t => ((σ.2.2.2.2 j)[t]?).map (G.2.2.1 (pvK j)))]) (hc1 : (σ.2.2.2.2 j).length ≤ cap) (hc2 : cap ≤ 1000)  : Met l yJx4a65c_fastRemove_b59b0 (Cond.code yJx4a65c_fastRemove_b59b0 cJx4a65c_fastRemove_b59b0 4 none :: WA) ({ frames := 1, cells := 0, slots := 0, locals := 60 }) (va_Pc [.ref (G.2.2.1 10 j), .ref b, .int (nI k)] (pvUx G tys σ j mm b (nI (σ.2.2.2.2 j).length) AR)) (va_Qv (fun σ' => σ' = pvL σ j (((σ.2.2.2.2 j)).eraseIdx k)) (pvU G tys) (pvB G)) 0 0 (pvB G) := by
  refine Met.ofW (cc := cJx4a65c_fastRemove_b59b0) (maxL := 4) (ret := none) (by decide) rfl ?_
  intro p e s m args below meth c s₁ B hml hv
  obtain ⟨rfl, hw, hK, hA⟩ := hv
  have hx := B.exec
  have hb := B.bytes
  have hr := B.returns
  have hts0 := atoms_spec (ws := (Cond.code yJx4a65c_fastRemove_b59b0 cJx4a65c_fastRemove_b59b0 4 none :: WA)) B.pre
  have hts : ∀ w ∈ WA, w.before _ s = true := fun w h => hts0 w (List.mem_cons_of_mem _ h)
  have hown : s.vm.findClass RJx4a65c = some m.cls := findClass_of_methodNamed B.named
  have hlocks := B.notSynchronized
  have hS : va_S (pvB G) s.heap s.heap [] := va_S.rf
  have hl := lv_entry ([.ref (G.2.2.1 10 j), .ref b, .int (nI k)]) (n := 4) (Nat.le_of_ble_eq_true rfl)
  rw [lg_entry_eq]
  generalize (lg_sl ([.ref (G.2.2.1 10 j), .ref b, .int (nI k)]) ++ List.replicate (4 - (lg_sl ([.ref (G.2.2.1 10 j), .ref b, .int (nI k)])).length) Slot.unset).toArray = ls at hl ⊢
  have hl : lv_has ls 4 [(0, .ref (G.2.2.1 10 j)), (1, .ref b), (2, .int (nI k))] := hl
  subst hAR
  refine lv_aload_n hx hb dJx4a65c_fastRemove_b59b0_0 rfl (lv_at hl 0 rfl) ?_
  refine lv_dup hx hb dJx4a65c_fastRemove_b59b0_1 rfl ?_
  refine lxGet hx hb hts hown hK hw hj 0 (by decide) rfl (hts _ wm120) (fun x hx => u_same (hts _ wm121) x hx) dJx4a65c_fastRemove_b59b0_2 ?_
  refine lv_iconst (v := 1) hx hb dJx4a65c_fastRemove_b59b0_5 (by decide) ?_
  refine lv_iadd hx hb dJx4a65c_fastRemove_b59b0_6 ?_
  refine lxPut (ty := .int) (mm' := (mm + 1)) (b' := b) (z' := (nI (σ.2.2.2.2 j).length)) hx hb hts hown hK hw hS hj 0 (by decide) rfl (hts _ wm120) (fun x hx => u_same (hts _ wm121) x hx) rfl (by decide +kernel) rfl rfl dJx4a65c_fastRemove_b59b0_7 (fun H locs hw hS => ?_)
  refine lv_aload_n hx hb dJx4a65c_fastRemove_b59b0_10 rfl (lv_at hl 0 rfl) ?_
  refine lxGet hx hb hts hown hK hw hj 2 (by decide) rfl (hts _ wm122) (fun _ h9 => h9) dJx4a65c_fastRemove_b59b0_11 ?_
  refine lv_iconst (v := 1) hx hb dJx4a65c_fastRemove_b59b0_14 (by decide) ?_
  refine lv_isub hx hb dJx4a65c_fastRemove_b59b0_15 ?_
  rw [show nI (σ.2.2.2.2 j).length - 1 = (nI ((σ.2.2.2.2 j).length - 1)) from pk_sub (b := 1) (by omega)]
  refine lv_dup hx hb dJx4a65c_fastRemove_b59b0_16 rfl ?_
  refine lv_istore_n (lv' := [(3, .int (nI ((σ.2.2.2.2 j).length - 1))), (0, .ref (G.2.2.1 10 j)), (1, .ref b), (2, .int (nI k))]) hx hb dJx4a65c_fastRemove_b59b0_17 rfl hl (by decide) rfl (fun ls hl => ?_)
  refine lv_iload_n hx hb dJx4a65c_fastRemove_b59b0_18 rfl (lv_at hl 3 rfl) ?_
  have fin : ∀ (H : Heap) (locs : List Loc) (g : Nat → Option Nat), (∀ t, va_up g ((σ.2.2.2.2 j).length - 1) none t = ((((σ.2.2.2.2 j)).eraseIdx k)[t]?).map (G.2.2.1 (pvK j))) → lxW G σ j (mm + 1) b (nI (σ.2.2.2.2 j).length) [(b, cap, g)] H → va_S (pvB G) s.heap H locs → ∀ ls, lv_has ls 4 [(3, .int (nI ((σ.2.2.2.2 j).length - 1))), (0, .ref (G.2.2.1 10 j)), (1, .ref b), (2, .int (nI k))] →
    W p l e (headSpec (Cond.code yJx4a65c_fastRemove_b59b0 cJx4a65c_fastRemove_b59b0 4 none :: WA) ({ frames := 1, cells := 0, slots := 0, locals := 60 } : Room)).room s m ([.ref (G.2.2.1 10 j), .ref b, .int (nI k)] : List Value).toArray below meth c H locs 0 0 (MQ below (va_Qv (fun σ' => σ' = pvL σ j (((σ.2.2.2.2 j)).eraseIdx k)) (pvU G tys) (pvB G)) ([.ref (G.2.2.1 10 j), .ref b, .int (nI k)] : List Value).toArray s 0 0 (pvB G)) (F0 m 34 ls []) := by
    intro H locs g hg hw hS ls hl
    refine lv_aload_n hx hb dJx4a65c_fastRemove_b59b0_34 rfl (lv_at hl 2 rfl) ?_
    refine lv_aload_n hx hb dJx4a65c_fastRemove_b59b0_35 rfl (lv_at hl 1 rfl) ?_
    refine lv_iload_n hx hb dJx4a65c_fastRemove_b59b0_36 rfl (lv_at hl 0 rfl) ?_
    refine lv_dup_x1 hx hb dJx4a65c_fastRemove_b59b0_37 rfl rfl ?_
    refine lxPut (ty := .int) (mm' := (mm + 1)) (b' := b) (z' := (nI ((σ.2.2.2.2 j).length - 1))) hx hb hts hown hK hw hS hj 2 (by decide) rfl (hts _ wm122) (fun _ h9 => h9) rfl (by decide +kernel) rfl rfl dJx4a65c_fastRemove_b59b0_38 (fun H locs hw hS => ?_)
    refine lv_null hx hb dJx4a65c_fastRemove_b59b0_41 ?_
    refine lxStN hx hb hK htys hw hS hj 0 (x := (b, cap, g)) rfl (vp_in_nI (show (σ.2.2.2.2 j).length - 1 < cap by omega) (show cap < 2 ^ 31 by omega)) dJx4a65c_fastRemove_b59b0_42 (fun H locs hw hS => ?_)
    have hlen : (((σ.2.2.2.2 j)).eraseIdx k).length = (σ.2.2.2.2 j).length - 1 := by rw [List.length_eraseIdx_of_lt hk]
    have hw2 := lx_close (v := ((σ.2.2.2.2 j)).eraseIdx k) (k := 0) (cap := cap) (g := va_up g (nI ((σ.2.2.2.2 j).length - 1)).toNatClampNeg none) hj hw (by omega) (fun x hx => hcl x (List.mem_of_mem_eraseIdx hx)) (by rw [hlen]) (Or.inr ⟨rfl, by omega, fun t => by rw [nI_clamp (by omega)]; exact hg t⟩)
    exact pev hx hb hr hlocks hA hw2 hK hS rfl dJx4a65c_fastRemove_b59b0_43
  refine lv_icmp_le (tgt := 34) hx hb dJx4a65c_fastRemove_b59b0_19 (by decide) (fun w => ?_) (fun w => ?_)
  · have w := (nI_leI (by omega) (by omega)).mp w
    refine fin _ _ _ (fun t => ?_) hw hS ls hl
    have := lx_del (ad := G.2.2.1 (pvK j)) hk (g := fun t => (((σ.2.2.2.2 j))[t]?).map (G.2.2.1 (pvK j))) (fun _ => rfl) t
    rw [if_neg (by omega)] at this
    exact this
  · have w : ¬ (σ.2.2.2.2 j).length - 1 ≤ k := fun q => w ((nI_leI (by omega) (by omega)).mpr q)
    refine lv_aload_n hx hb dJx4a65c_fastRemove_b59b0_22 rfl (lv_at hl 2 rfl) ?_
    refine lv_iload_n hx hb dJx4a65c_fastRemove_b59b0_23 rfl (lv_at hl 3 rfl) ?_
    refine lv_iconst (v := 1) hx hb dJx4a65c_fastRemove_b59b0_24 (by decide) ?_
    refine lv_iadd hx hb dJx4a65c_fastRemove_b59b0_25 ?_
    refine lv_aload_n hx hb dJx4a65c_fastRemove_b59b0_26 rfl (lv_at hl 2 rfl) ?_
    refine lv_iload_n hx hb dJx4a65c_fastRemove_b59b0_27 rfl (lv_at hl 3 rfl) ?_
    refine lv_iload_n hx hb dJx4a65c_fastRemove_b59b0_28 rfl (lv_at hl 0 rfl) ?_
    refine lv_iload_n hx hb dJx4a65c_fastRemove_b59b0_29 rfl (lv_at hl 3 rfl) ?_
    refine lv_isub hx hb dJx4a65c_fastRemove_b59b0_30 ?_
    rw [nI_1, pk_sub (by omega)]
    refine lxCp hx hb (hml.trans hl.1.symm) hown (hts _ wm886) (hts _ wm163) (hts _ wm164) (hts _ wm165) hA hK htys hw hS hj 0 0 (x := (b, cap, fun t => (((σ.2.2.2.2 j))[t]?).map (G.2.2.1 (pvK j)))) (y := (b, cap, fun t => (((σ.2.2.2.2 j))[t]?).map (G.2.2.1 (pvK j)))) rfl rfl (nI_pos (by omega)) (nI_pos (by omega)) (nI_pos (by omega)) (by rw [nI_clamp (by omega), nI_clamp (by omega)]; show _ ≤ cap; omega) (by rw [nI_clamp (by omega), nI_clamp (by omega)]; show _ ≤ cap; omega) (Nat.le_of_ble_eq_true rfl) (by show _ ≤ 60; decide +kernel) dJx4a65c_fastRemove_b59b0_31 (fun H locs hw hS => ?_)
    rw [nI_clamp (by omega), nI_clamp (by omega), nI_clamp (by omega)] at hw
    refine fin _ _ _ (fun t => ?_) hw hS ls hl
    have := lx_del (ad := G.2.2.1 (pvK j)) hk (g := fun t => (((σ.2.2.2.2 j))[t]?).map (G.2.2.1 (pvK j))) (fun _ => rfl) t
    rw [if_pos (by omega)] at this
    exact this
set_option maxHeartbeats 4000000 in
set_option maxRecDepth 100000 in
theorem c_lremove {l : Launch} {G : PvG} {tys : List (ClassId × FieldType)} {σ : PvS} (htys : tys = pvT G) {j : Nat} (hj : j < σ.1 0 + 3) {k : Nat} (hk : k < (σ.2.2.2.2 j).length)  : Met l yJx4a65c_remove_915e3 (Cond.code yJx4a65c_remove_915e3 cJx4a65c_remove_915e3 4 (some (.object "java/lang/Object")) :: WA) ({ frames := 2, cells := 0, slots := 0, locals := 90 }) (va_Pc [.ref (G.2.2.1 10 j), .int (nI k)] (pvU G tys σ)) (va_Qq (fun r σ' => r = some (G.2.2.1 (pvK j) (((σ.2.2.2.2 j)).getD k 0)) ∧ σ' = pvL σ j (((σ.2.2.2.2 j)).eraseIdx k)) (pvU G tys) (pvB G)) 0 0 (pvB G) := by
  refine Met.ofW (cc := cJx4a65c_remove_915e3) (maxL := 4) (ret := (some (.object "java/lang/Object"))) (by decide) rfl ?_
  intro p e s m args below meth c s₁ B hml hv
  obtain ⟨rfl, hw, hK, hA⟩ := hv
  have hx := B.exec
  have hb := B.bytes
  have hr := B.returns
  have hts0 := atoms_spec (ws := (Cond.code yJx4a65c_remove_915e3 cJx4a65c_remove_915e3 4 (some (.object "java/lang/Object")) :: WA)) B.pre
  have hts : ∀ w ∈ WA, w.before _ s = true := fun w h => hts0 w (List.mem_cons_of_mem _ h)
  have hown : s.vm.findClass RJx4a65c = some m.cls := findClass_of_methodNamed B.named
  have hlocks := B.notSynchronized
  have hS : va_S (pvB G) s.heap s.heap [] := va_S.rf
  have hl := lv_entry ([.ref (G.2.2.1 10 j), .int (nI k)]) (n := 4) (Nat.le_of_ble_eq_true rfl)
  rw [lg_entry_eq]
  generalize (lg_sl ([.ref (G.2.2.1 10 j), .int (nI k)]) ++ List.replicate (4 - (lg_sl ([.ref (G.2.2.1 10 j), .int (nI k)])).length) Slot.unset).toArray = ls at hl ⊢
  have hl : lv_has ls 4 [(0, .ref (G.2.2.1 10 j)), (1, .int (nI k))] := hl
  have h64' := pl_len hw j hj
  refine lv_iload_n hx hb dJx4a65c_remove_915e3_0 rfl (lv_at hl 1 rfl) ?_
  refine lv_aload_n hx hb dJx4a65c_remove_915e3_1 rfl (lv_at hl 0 rfl) ?_
  refine plS hx hb hts hown hK hw j hj inF_Jx4a65c (hts _ wm122) dJx4a65c_remove_915e3_2 ?_
  refine pcalli (va_runS (As := [.int (nI k), .int (nI (σ.2.2.2.2 j).length)]) (rest := []) ⟨hx, hb, hml, hown, hts⟩ (c_check15 (l := l) (G := G) (tys := tys) (σ := σ) hk (by omega)) (va_cwS 2 hts (gSA wm258 wm259 wm260 wm261) rfl rfl rfl (by decide +kernel) ⟨Nat.le_of_ble_eq_true rfl, Nat.le_of_ble_eq_true rfl⟩) (pv_preS hA hS hw hK [.int (nI k), .int (nI (σ.2.2.2.2 j).length)]) rfl rfl hl.1 rfl (lv_room (Nat.le_of_ble_eq_true rfl)) dJx4a65c_remove_915e3_5 ⟨Nat.zero_le _, Nat.zero_le _⟩) hS (fun r1 s1 H locs hp hw hS => ?_)
  obtain ⟨er, es⟩ := hp
  obtain rfl := es.symm
  refine lv_pop hx hb dJx4a65c_remove_915e3_8 rfl ?_
  obtain ⟨h64, hcl, mm, b, AR, hw, hcase⟩ := lx_open hw hj
  refine lv_aload_n hx hb dJx4a65c_remove_915e3_9 rfl (lv_at hl 0 rfl) ?_
  refine lxGet hx hb hts hown hK hw hj 1 (by decide) rfl (hts _ wm47) (fun _ h9 => h9) dJx4a65c_remove_915e3_10 ?_
  refine lv_astore_n (lv' := [(2, .ref b), (0, .ref (G.2.2.1 10 j)), (1, .int (nI k))]) hx hb dJx4a65c_remove_915e3_13 rfl hl (by decide) rfl (fun ls hl => ?_)
  rcases hcase with ⟨q1, q2, q3⟩ | ⟨cap, hAR, hc1, hc2⟩
  · rw [q3] at hk; exact absurd hk (Nat.not_lt_zero _)
  subst hAR
  refine lv_aload_n hx hb dJx4a65c_remove_915e3_14 rfl (lv_at hl 0 rfl) ?_
  refine lv_iload_n hx hb dJx4a65c_remove_915e3_15 rfl (lv_at hl 2 rfl) ?_
  refine lxLd hx hb hK htys hw 0 (x := (b, cap, fun t => (((σ.2.2.2.2 j))[t]?).map (G.2.2.1 (pvK j)))) rfl (vp_in_nI (show k < cap by omega) (show cap < 2 ^ 31 by omega)) dJx4a65c_remove_915e3_16 ?_
  have e1 : va_rf (((((σ.2.2.2.2 j))[(nI k).toNatClampNeg]?).map (G.2.2.1 (pvK j)))) = .ref (G.2.2.1 (pvK j) (((σ.2.2.2.2 j)).getD k 0)) := by
    rw [nI_clamp (by omega), List.getElem?_eq_getElem hk, List.getD_eq_getElem?_getD, List.getElem?_eq_getElem hk]
    rfl
  rw [e1]
  refine lv_astore_n (lv' := [(3, .ref (G.2.2.1 (pvK j) (((σ.2.2.2.2 j)).getD k 0))), (2, .ref b), (0, .ref (G.2.2.1 10 j)), (1, .int (nI k))]) hx hb dJx4a65c_remove_915e3_17 rfl hl (by decide) rfl (fun ls hl => ?_)
  refine lv_aload_n hx hb dJx4a65c_remove_915e3_18 rfl (lv_at hl 2 rfl) ?_
  refine lv_aload_n hx hb dJx4a65c_remove_915e3_19 rfl (lv_at hl 1 rfl) ?_
  refine lv_iload_n hx hb dJx4a65c_remove_915e3_20 rfl (lv_at hl 3 rfl) ?_
  refine va_callv (va_runV (As := [.ref b, .int (nI k)]) (rest := []) ⟨hx, hb, hml, hown, hts⟩ (c_lfast (l := l) (G := G) (tys := tys) (σ := σ) htys hj (mm := mm) (b := b) hk h64 hcl rfl hc1 hc2.2) (cwV 2 hts (gVA wm882 wm883 wm884 wm13 wm885) rfl rfl rfl (by decide +kernel) ⟨Nat.le_of_ble_eq_true rfl, Nat.le_of_ble_eq_true rfl⟩) (lx_preV hA hS hw hK hj [.ref b, .int (nI k)]) rfl rfl hl.1 rfl (lv_room (Nat.le_of_ble_eq_true rfl)) dJx4a65c_remove_915e3_21 ⟨Nat.zero_le _, Nat.zero_le _⟩) hS (fun _ _ h => h) (fun _ h => h) (fun u t H locs ht hvm hp hB _ _ hS => ?_)
  have hw := hB.1
  rw [ht] at hw
  refine lv_aload_n hx hb dJx4a65c_remove_915e3_24 rfl (lv_at hl 0 rfl) ?_
  exact peq (r := some _) hx hb hr (Or.inl ⟨_, rfl⟩) hlocks hA hw hK hS ⟨rfl, hp⟩ dJx4a65c_remove_915e3_25
end
