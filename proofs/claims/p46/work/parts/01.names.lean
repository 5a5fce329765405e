-- ===== PART A: goes FIRST, ahead of the names: the tables' words, and 'selects' of the private methods out of them =====
/-- a private method of a class that the tables say can be made, by its rows of tables_1 -/
def lw_okq (q : MethodName × Nat) : Prop := (q.1.cls ≠ "java/lang/invoke/MethodHandle" ∧ q.1.cls ≠ "java/lang/invoke/VarHandle") ∧ Cond.instantiable q.1.cls q.2 ∈ tables_1 ∧ Cond.privateMethod q.1 ∈ tables_1 ∧ Cond.instanceMethod q.1 ∈ tables_1
theorem lw_p0 : lw_okq (⟨"java/util/ArrayList", "add", "(Ljava/lang/Object;[Ljava/lang/Object;I)V"⟩, 3) := ⟨⟨by decide +kernel, by decide +kernel⟩, List.mem_of_getElem? (i := 44) (by decide +kernel), List.mem_of_getElem? (i := 277) (by decide +kernel), List.mem_of_getElem? (i := 278) (by decide +kernel)⟩
theorem lw_p1 : lw_okq (⟨"java/util/ArrayList", "grow", "()[Ljava/lang/Object;"⟩, 3) := ⟨⟨by decide +kernel, by decide +kernel⟩, List.mem_of_getElem? (i := 44) (by decide +kernel), List.mem_of_getElem? (i := 281) (by decide +kernel), List.mem_of_getElem? (i := 282) (by decide +kernel)⟩
theorem lw_p2 : lw_okq (⟨"java/util/ArrayList", "grow", "(I)[Ljava/lang/Object;"⟩, 3) := ⟨⟨by decide +kernel, by decide +kernel⟩, List.mem_of_getElem? (i := 44) (by decide +kernel), List.mem_of_getElem? (i := 285) (by decide +kernel), List.mem_of_getElem? (i := 286) (by decide +kernel)⟩
theorem lw_p3 : lw_okq (⟨"PinnaceView", "nodeAt", "(I)LPinnaceView$Node;"⟩, 6) := ⟨⟨by decide +kernel, by decide +kernel⟩, List.mem_of_getElem? (i := 27) (by decide +kernel), List.mem_of_getElem? (i := 479) (by decide +kernel), List.mem_of_getElem? (i := 480) (by decide +kernel)⟩
theorem lw_p4 : lw_okq (⟨"java/lang/Throwable", "fillInStackTrace", "(I)Ljava/lang/Throwable;"⟩, 6) := ⟨⟨by decide +kernel, by decide +kernel⟩, List.mem_of_getElem? (i := 543) (by decide +kernel), List.mem_of_getElem? (i := 541) (by decide +kernel), List.mem_of_getElem? (i := 542) (by decide +kernel)⟩
theorem lw_p5 : lw_okq (⟨"PinnaceView", "forgetWhatWasWorkedOut", "()V"⟩, 6) := ⟨⟨by decide +kernel, by decide +kernel⟩, List.mem_of_getElem? (i := 27) (by decide +kernel), List.mem_of_getElem? (i := 607) (by decide +kernel), List.mem_of_getElem? (i := 608) (by decide +kernel)⟩
theorem lw_p6 : lw_okq (⟨"PinnaceView$Tree", "detach", "(LPinnaceView$Node;)V"⟩, 3) := ⟨⟨by decide +kernel, by decide +kernel⟩, List.mem_of_getElem? (i := 38) (by decide +kernel), List.mem_of_getElem? (i := 620) (by decide +kernel), List.mem_of_getElem? (i := 621) (by decide +kernel)⟩
theorem lw_p7 : lw_okq (⟨"java/util/ArrayList", "fastRemove", "([Ljava/lang/Object;I)V"⟩, 3) := ⟨⟨by decide +kernel, by decide +kernel⟩, List.mem_of_getElem? (i := 44) (by decide +kernel), List.mem_of_getElem? (i := 634) (by decide +kernel), List.mem_of_getElem? (i := 635) (by decide +kernel)⟩
theorem lw_p8 : lw_okq (⟨"PinnaceView$Tree", "listAnew", "()V"⟩, 3) := ⟨⟨by decide +kernel, by decide +kernel⟩, List.mem_of_getElem? (i := 38) (by decide +kernel), List.mem_of_getElem? (i := 642) (by decide +kernel), List.mem_of_getElem? (i := 643) (by decide +kernel)⟩
theorem lw_p9 : lw_okq (⟨"java/util/ArrayList", "rangeCheckForAdd", "(I)V"⟩, 3) := ⟨⟨by decide +kernel, by decide +kernel⟩, List.mem_of_getElem? (i := 44) (by decide +kernel), List.mem_of_getElem? (i := 682) (by decide +kernel), List.mem_of_getElem? (i := 683) (by decide +kernel)⟩
theorem lw_p10 : lw_okq (⟨"PinnaceView", "ruleAt", "(I)LPinnaceView$Rule;"⟩, 6) := ⟨⟨by decide +kernel, by decide +kernel⟩, List.mem_of_getElem? (i := 27) (by decide +kernel), List.mem_of_getElem? (i := 755) (by decide +kernel), List.mem_of_getElem? (i := 756) (by decide +kernel)⟩
theorem lw_p11 : lw_okq (⟨"PinnaceView", "laidOut", "(II)LPinnaceView$Layout;"⟩, 6) := ⟨⟨by decide +kernel, by decide +kernel⟩, List.mem_of_getElem? (i := 27) (by decide +kernel), List.mem_of_getElem? (i := 825) (by decide +kernel), List.mem_of_getElem? (i := 826) (by decide +kernel)⟩
theorem lw_p12 : lw_okq (⟨"PinnaceView", "freshenStyles", "()V"⟩, 6) := ⟨⟨by decide +kernel, by decide +kernel⟩, List.mem_of_getElem? (i := 27) (by decide +kernel), List.mem_of_getElem? (i := 829) (by decide +kernel), List.mem_of_getElem? (i := 830) (by decide +kernel)⟩
theorem lw_p13 : lw_okq (⟨"PinnaceView$Styles", "findRules", "(LPinnaceView$Node;Ljava/util/ArrayList;I)V"⟩, 3) := ⟨⟨by decide +kernel, by decide +kernel⟩, List.mem_of_getElem? (i := 340) (by decide +kernel), List.mem_of_getElem? (i := 844) (by decide +kernel), List.mem_of_getElem? (i := 845) (by decide +kernel)⟩
theorem lw_p14 : lw_okq (⟨"PinnaceView$Rule", "fits", "(ILPinnaceView$Node;)Z"⟩, 10) := ⟨⟨by decide +kernel, by decide +kernel⟩, List.mem_of_getElem? (i := 704) (by decide +kernel), List.mem_of_getElem? (i := 859) (by decide +kernel), List.mem_of_getElem? (i := 860) (by decide +kernel)⟩
theorem lw_p15 : lw_okq (⟨"PinnaceView$Styles", "settle", "(LPinnaceView$Node;ILjava/util/ArrayList;)V"⟩, 3) := ⟨⟨by decide +kernel, by decide +kernel⟩, List.mem_of_getElem? (i := 340) (by decide +kernel), List.mem_of_getElem? (i := 866) (by decide +kernel), List.mem_of_getElem? (i := 867) (by decide +kernel)⟩
def lw_privs_1 : List (MethodName × Nat) := [(⟨"java/util/ArrayList", "add", "(Ljava/lang/Object;[Ljava/lang/Object;I)V"⟩, 3), (⟨"java/util/ArrayList", "grow", "()[Ljava/lang/Object;"⟩, 3), (⟨"java/util/ArrayList", "grow", "(I)[Ljava/lang/Object;"⟩, 3), (⟨"PinnaceView", "nodeAt", "(I)LPinnaceView$Node;"⟩, 6), (⟨"java/lang/Throwable", "fillInStackTrace", "(I)Ljava/lang/Throwable;"⟩, 6), (⟨"PinnaceView", "forgetWhatWasWorkedOut", "()V"⟩, 6), (⟨"PinnaceView$Tree", "detach", "(LPinnaceView$Node;)V"⟩, 3), (⟨"java/util/ArrayList", "fastRemove", "([Ljava/lang/Object;I)V"⟩, 3), (⟨"PinnaceView$Tree", "listAnew", "()V"⟩, 3), (⟨"java/util/ArrayList", "rangeCheckForAdd", "(I)V"⟩, 3), (⟨"PinnaceView", "ruleAt", "(I)LPinnaceView$Rule;"⟩, 6), (⟨"PinnaceView", "laidOut", "(II)LPinnaceView$Layout;"⟩, 6), (⟨"PinnaceView", "freshenStyles", "()V"⟩, 6), (⟨"PinnaceView$Styles", "findRules", "(LPinnaceView$Node;Ljava/util/ArrayList;I)V"⟩, 3), (⟨"PinnaceView$Rule", "fits", "(ILPinnaceView$Node;)Z"⟩, 10), (⟨"PinnaceView$Styles", "settle", "(LPinnaceView$Node;ILjava/util/ArrayList;)V"⟩, 3)]
theorem lw_r1 : ∀ q ∈ lw_privs_1, lw_okq q := List.forall_mem_cons.mpr ⟨lw_p0, List.forall_mem_cons.mpr ⟨lw_p1, List.forall_mem_cons.mpr ⟨lw_p2, List.forall_mem_cons.mpr ⟨lw_p3, List.forall_mem_cons.mpr ⟨lw_p4, List.forall_mem_cons.mpr ⟨lw_p5, List.forall_mem_cons.mpr ⟨lw_p6, List.forall_mem_cons.mpr ⟨lw_p7, List.forall_mem_cons.mpr ⟨lw_p8, List.forall_mem_cons.mpr ⟨lw_p9, List.forall_mem_cons.mpr ⟨lw_p10, List.forall_mem_cons.mpr ⟨lw_p11, List.forall_mem_cons.mpr ⟨lw_p12, List.forall_mem_cons.mpr ⟨lw_p13, List.forall_mem_cons.mpr ⟨lw_p14, List.forall_mem_cons.mpr ⟨lw_p15, fun _ h => absurd h List.not_mem_nil⟩⟩⟩⟩⟩⟩⟩⟩⟩⟩⟩⟩⟩⟩⟩⟩
theorem lw_p16 : lw_okq (⟨"PinnaceView$Page", "prepare", "(Ljava/util/ArrayList;)V"⟩, 6) := ⟨⟨by decide +kernel, by decide +kernel⟩, List.mem_of_getElem? (i := 334) (by decide +kernel), List.mem_of_getElem? (i := 892) (by decide +kernel), List.mem_of_getElem? (i := 893) (by decide +kernel)⟩
theorem lw_p17 : lw_okq (⟨"PinnaceView$Page", "sortFor", "(LPinnaceView$Node;)I"⟩, 6) := ⟨⟨by decide +kernel, by decide +kernel⟩, List.mem_of_getElem? (i := 334) (by decide +kernel), List.mem_of_getElem? (i := 899) (by decide +kernel), List.mem_of_getElem? (i := 900) (by decide +kernel)⟩
theorem lw_p18 : lw_okq (⟨"PinnaceView$Page", "findWishes", "(Ljava/util/ArrayList;)V"⟩, 6) := ⟨⟨by decide +kernel, by decide +kernel⟩, List.mem_of_getElem? (i := 334) (by decide +kernel), List.mem_of_getElem? (i := 911) (by decide +kernel), List.mem_of_getElem? (i := 912) (by decide +kernel)⟩
theorem lw_p19 : lw_okq (⟨"PinnaceView$Page", "findWish", "(LPinnaceView$Node;Ljava/util/ArrayList;)V"⟩, 6) := ⟨⟨by decide +kernel, by decide +kernel⟩, List.mem_of_getElem? (i := 334) (by decide +kernel), List.mem_of_getElem? (i := 915) (by decide +kernel), List.mem_of_getElem? (i := 916) (by decide +kernel)⟩
theorem lw_p20 : lw_okq (⟨"PinnaceView$Page", "widthOr", "(LPinnaceView$Node;I)I"⟩, 6) := ⟨⟨by decide +kernel, by decide +kernel⟩, List.mem_of_getElem? (i := 334) (by decide +kernel), List.mem_of_getElem? (i := 919) (by decide +kernel), List.mem_of_getElem? (i := 920) (by decide +kernel)⟩
theorem lw_p21 : lw_okq (⟨"PinnaceView$Page", "addToWish", "(LPinnaceView$Node;LPinnaceView$Flow;)V"⟩, 6) := ⟨⟨by decide +kernel, by decide +kernel⟩, List.mem_of_getElem? (i := 334) (by decide +kernel), List.mem_of_getElem? (i := 924) (by decide +kernel), List.mem_of_getElem? (i := 925) (by decide +kernel)⟩
theorem lw_p22 : lw_okq (⟨"PinnaceView$Page", "fill", "(LPinnaceView$Node;Ljava/util/ArrayList;I)V"⟩, 6) := ⟨⟨by decide +kernel, by decide +kernel⟩, List.mem_of_getElem? (i := 334) (by decide +kernel), List.mem_of_getElem? (i := 936) (by decide +kernel), List.mem_of_getElem? (i := 937) (by decide +kernel)⟩
theorem lw_p23 : lw_okq (⟨"PinnaceView$Page", "putFlow", "(LPinnaceView$Node;Ljava/util/ArrayList;I)V"⟩, 6) := ⟨⟨by decide +kernel, by decide +kernel⟩, List.mem_of_getElem? (i := 334) (by decide +kernel), List.mem_of_getElem? (i := 940) (by decide +kernel), List.mem_of_getElem? (i := 941) (by decide +kernel)⟩
theorem lw_p24 : lw_okq (⟨"PinnaceView$Page", "putLines", "(LPinnaceView$Node;)V"⟩, 6) := ⟨⟨by decide +kernel, by decide +kernel⟩, List.mem_of_getElem? (i := 334) (by decide +kernel), List.mem_of_getElem? (i := 949) (by decide +kernel), List.mem_of_getElem? (i := 950) (by decide +kernel)⟩
theorem lw_p25 : lw_okq (⟨"PinnaceView$Floats", "look", "(LPinnaceView$Node;I)V"⟩, 10) := ⟨⟨by decide +kernel, by decide +kernel⟩, List.mem_of_getElem? (i := 359) (by decide +kernel), List.mem_of_getElem? (i := 961) (by decide +kernel), List.mem_of_getElem? (i := 962) (by decide +kernel)⟩
theorem lw_p26 : lw_okq (⟨"PinnaceView$Page", "putBlock", "(LPinnaceView$Node;LPinnaceView$Node;Ljava/util/ArrayList;I)V"⟩, 6) := ⟨⟨by decide +kernel, by decide +kernel⟩, List.mem_of_getElem? (i := 334) (by decide +kernel), List.mem_of_getElem? (i := 980) (by decide +kernel), List.mem_of_getElem? (i := 981) (by decide +kernel)⟩
theorem lw_p27 : lw_okq (⟨"PinnaceView$Page", "putFloat", "(LPinnaceView$Node;LPinnaceView$Node;Ljava/util/ArrayList;I)V"⟩, 6) := ⟨⟨by decide +kernel, by decide +kernel⟩, List.mem_of_getElem? (i := 334) (by decide +kernel), List.mem_of_getElem? (i := 988) (by decide +kernel), List.mem_of_getElem? (i := 989) (by decide +kernel)⟩
theorem lw_p28 : lw_okq (⟨"PinnaceView$Page", "shift", "(Ljava/util/ArrayList;)V"⟩, 6) := ⟨⟨by decide +kernel, by decide +kernel⟩, List.mem_of_getElem? (i := 334) (by decide +kernel), List.mem_of_getElem? (i := 1001) (by decide +kernel), List.mem_of_getElem? (i := 1002) (by decide +kernel)⟩
theorem lw_p29 : lw_okq (⟨"PinnaceView", "digestOfPlace", "(JLPinnaceView$Node;)J"⟩, 6) := ⟨⟨by decide +kernel, by decide +kernel⟩, List.mem_of_getElem? (i := 27) (by decide +kernel), List.mem_of_getElem? (i := 1083) (by decide +kernel), List.mem_of_getElem? (i := 1084) (by decide +kernel)⟩
theorem lw_p30 : lw_okq (⟨"PinnaceView", "digestOfStyles", "(JLPinnaceView$Node;)J"⟩, 6) := ⟨⟨by decide +kernel, by decide +kernel⟩, List.mem_of_getElem? (i := 27) (by decide +kernel), List.mem_of_getElem? (i := 1104) (by decide +kernel), List.mem_of_getElem? (i := 1105) (by decide +kernel)⟩
theorem lw_p31 : lw_okq (⟨"PinnaceView", "digestOfWords", "(JLPinnaceView$Node;)J"⟩, 6) := ⟨⟨by decide +kernel, by decide +kernel⟩, List.mem_of_getElem? (i := 27) (by decide +kernel), List.mem_of_getElem? (i := 1109) (by decide +kernel), List.mem_of_getElem? (i := 1110) (by decide +kernel)⟩
def lw_privs_2 : List (MethodName × Nat) := [(⟨"PinnaceView$Page", "prepare", "(Ljava/util/ArrayList;)V"⟩, 6), (⟨"PinnaceView$Page", "sortFor", "(LPinnaceView$Node;)I"⟩, 6), (⟨"PinnaceView$Page", "findWishes", "(Ljava/util/ArrayList;)V"⟩, 6), (⟨"PinnaceView$Page", "findWish", "(LPinnaceView$Node;Ljava/util/ArrayList;)V"⟩, 6), (⟨"PinnaceView$Page", "widthOr", "(LPinnaceView$Node;I)I"⟩, 6), (⟨"PinnaceView$Page", "addToWish", "(LPinnaceView$Node;LPinnaceView$Flow;)V"⟩, 6), (⟨"PinnaceView$Page", "fill", "(LPinnaceView$Node;Ljava/util/ArrayList;I)V"⟩, 6), (⟨"PinnaceView$Page", "putFlow", "(LPinnaceView$Node;Ljava/util/ArrayList;I)V"⟩, 6), (⟨"PinnaceView$Page", "putLines", "(LPinnaceView$Node;)V"⟩, 6), (⟨"PinnaceView$Floats", "look", "(LPinnaceView$Node;I)V"⟩, 10), (⟨"PinnaceView$Page", "putBlock", "(LPinnaceView$Node;LPinnaceView$Node;Ljava/util/ArrayList;I)V"⟩, 6), (⟨"PinnaceView$Page", "putFloat", "(LPinnaceView$Node;LPinnaceView$Node;Ljava/util/ArrayList;I)V"⟩, 6), (⟨"PinnaceView$Page", "shift", "(Ljava/util/ArrayList;)V"⟩, 6), (⟨"PinnaceView", "digestOfPlace", "(JLPinnaceView$Node;)J"⟩, 6), (⟨"PinnaceView", "digestOfStyles", "(JLPinnaceView$Node;)J"⟩, 6), (⟨"PinnaceView", "digestOfWords", "(JLPinnaceView$Node;)J"⟩, 6)]
theorem lw_r2 : ∀ q ∈ lw_privs_2, lw_okq q := List.forall_mem_cons.mpr ⟨lw_p16, List.forall_mem_cons.mpr ⟨lw_p17, List.forall_mem_cons.mpr ⟨lw_p18, List.forall_mem_cons.mpr ⟨lw_p19, List.forall_mem_cons.mpr ⟨lw_p20, List.forall_mem_cons.mpr ⟨lw_p21, List.forall_mem_cons.mpr ⟨lw_p22, List.forall_mem_cons.mpr ⟨lw_p23, List.forall_mem_cons.mpr ⟨lw_p24, List.forall_mem_cons.mpr ⟨lw_p25, List.forall_mem_cons.mpr ⟨lw_p26, List.forall_mem_cons.mpr ⟨lw_p27, List.forall_mem_cons.mpr ⟨lw_p28, List.forall_mem_cons.mpr ⟨lw_p29, List.forall_mem_cons.mpr ⟨lw_p30, List.forall_mem_cons.mpr ⟨lw_p31, fun _ h => absurd h List.not_mem_nil⟩⟩⟩⟩⟩⟩⟩⟩⟩⟩⟩⟩⟩⟩⟩⟩
def lw_privs : List (MethodName × Nat) := lw_privs_1 ++ (lw_privs_2)
def lw_tbl : List Cond := k2_sels lw_privs ++ tables_1
theorem lw_privs_ok : ∀ q ∈ lw_privs, lw_okq q := by
  show ∀ q ∈ lw_privs_1 ++ (lw_privs_2), lw_okq q
  exact List.forall_mem_append.mpr ⟨lw_r1, lw_r2⟩
/-- the streams that the claim lets the run draw from -/
abbrev lw_cs : List Choice := [Jvm.Choice.named "NaN.bits"]
theorem lw_bits : nanBits ∈ lw_cs := by first | decide | exact List.mem_cons_self | simp [lw_cs, nanBits]
-- ===== end of PART A; then your names; then what follows =====
def RX0 : String := "PinnaceView$Floats"
def TX0 : u_T := fun k => match k with
  | 0 => ("PinnaceView$Floats", "rooms", "[I", true)
  | 1 => ("PinnaceView$Floats", "sides", "[I", true)
  | 2 => ("PinnaceView$Floats", "lefts", "[I", true)
  | 3 => ("PinnaceView$Floats", "rights", "[I", true)
  | 4 => ("PinnaceView$Floats", "tops", "[I", true)
  | 5 => ("PinnaceView$Floats", "bottoms", "[I", true)
  | 6 => ("PinnaceView$Floats", "count", "I", false)
  | 7 => ("PinnaceView$Floats", "spanBegin", "I", false)
  | 8 => ("PinnaceView$Floats", "spanEnd", "I", false)
  | _ => ("PinnaceView$Floats", "nextBottom", "I", false)
def tyX0 : Nat → FieldType := fun k => match k with
  | 0 => .array .int
  | 1 => .array .int
  | 2 => .array .int
  | 3 => .array .int
  | 4 => .array .int
  | 5 => .array .int
  | 6 => .int
  | 7 => .int
  | 8 => .int
  | _ => .int
abbrev wsX00 : List Cond := u_ws RX0 TX0 10
theorem nmX0 : ∀ a, a < 10 → ∀ b, b < 10 → a ≠ b → (TX0 a).2.1 ≠ (TX0 b).2.1 := by decide +kernel
theorem tyX0_ok : ∀ k, k < 10 → parseFieldDescriptor (TX0 k).2.2.1 = some (tyX0 k) := by decide +kernel
abbrev cX0_init : ByteArray := prog_2_method_1_code
def yX0_init : MethodName := ⟨RX0, "<init>", "()V"⟩
abbrev cX0_clear : ByteArray := prog_2_method_2_code
def yX0_clear : MethodName := ⟨RX0, "clear", "()V"⟩
abbrev cX0_put : ByteArray := prog_2_method_3_code
def yX0_put : MethodName := ⟨RX0, "put", "(IIIIII)V"⟩
abbrev cX0_belowBottoms : ByteArray := prog_2_method_4_code
def yX0_belowBottoms : MethodName := ⟨RX0, "belowBottoms", "(III)I"⟩
abbrev cX0_belowTops : ByteArray := prog_2_method_5_code
def yX0_belowTops : MethodName := ⟨RX0, "belowTops", "(II)I"⟩
abbrev cX0_findRoom : ByteArray := prog_2_method_6_code
def yX0_findRoom : MethodName := ⟨RX0, "findRoom", "(ILPinnaceView$Node;I)I"⟩
abbrev cX0_look : ByteArray := prog_2_method_7_code
def yX0_look : MethodName := ⟨RX0, "look", "(LPinnaceView$Node;I)V"⟩
def RX1 : String := "PinnaceView$Flow"
def TX1 : u_T := fun k => match k with
  | 0 => ("PinnaceView$Flow", "room", "I", false)
  | 1 => ("PinnaceView$Flow", "cursor", "I", false)
  | 2 => ("PinnaceView$Flow", "gap", "I", false)
  | 3 => ("PinnaceView$Flow", "wish", "I", false)
  | _ => ("PinnaceView$Flow", "waiting", "I", false)
def tyX1 : Nat → FieldType := fun k => match k with
  | 0 => .int
  | 1 => .int
  | 2 => .int
  | 3 => .int
  | _ => .int
abbrev wsX10 : List Cond := u_ws RX1 TX1 5
theorem nmX1 : ∀ a, a < 5 → ∀ b, b < 5 → a ≠ b → (TX1 a).2.1 ≠ (TX1 b).2.1 := by decide +kernel
theorem tyX1_ok : ∀ k, k < 5 → parseFieldDescriptor (TX1 k).2.2.1 = some (tyX1 k) := by decide +kernel
abbrev cX1_init : ByteArray := prog_3_method_1_code
def yX1_init : MethodName := ⟨RX1, "<init>", "()V"⟩
def RX2 : String := "PinnaceView$Layout"
def TX2 : u_T := fun k => match k with
  | 0 => ("PinnaceView$Layout", "sort", "I", false)
  | 1 => ("PinnaceView$Layout", "home", "LPinnaceView$Node;", false)
  | 2 => ("PinnaceView$Layout", "inset", "I", false)
  | 3 => ("PinnaceView$Layout", "edge", "I", false)
  | 4 => ("PinnaceView$Layout", "isScrolling", "Z", false)
  | 5 => ("PinnaceView$Layout", "left", "I", false)
  | 6 => ("PinnaceView$Layout", "top", "I", false)
  | 7 => ("PinnaceView$Layout", "wide", "I", false)
  | 8 => ("PinnaceView$Layout", "high", "I", false)
  | 9 => ("PinnaceView$Layout", "reach", "I", false)
  | 10 => ("PinnaceView$Layout", "lineCount", "I", false)
  | 11 => ("PinnaceView$Layout", "shiftX", "I", false)
  | 12 => ("PinnaceView$Layout", "shiftY", "I", false)
  | 13 => ("PinnaceView$Layout", "movedUp", "I", false)
  | 14 => ("PinnaceView$Layout", "wordLefts", "[I", true)
  | _ => ("PinnaceView$Layout", "wordTops", "[I", true)
def tyX2 : Nat → FieldType := fun k => match k with
  | 0 => .int
  | 1 => .object "PinnaceView$Node"
  | 2 => .int
  | 3 => .int
  | 4 => .boolean
  | 5 => .int
  | 6 => .int
  | 7 => .int
  | 8 => .int
  | 9 => .int
  | 10 => .int
  | 11 => .int
  | 12 => .int
  | 13 => .int
  | 14 => .array .int
  | _ => .array .int
abbrev wsX20 : List Cond := u_ws RX2 TX2 16
theorem nmX2 : ∀ a, a < 16 → ∀ b, b < 16 → a ≠ b → (TX2 a).2.1 ≠ (TX2 b).2.1 := by decide +kernel
theorem tyX2_ok : ∀ k, k < 16 → parseFieldDescriptor (TX2 k).2.2.1 = some (tyX2 k) := by decide +kernel
abbrev cX2_init : ByteArray := prog_4_method_1_code
def yX2_init : MethodName := ⟨RX2, "<init>", "(I)V"⟩
abbrev cX2_isBox : ByteArray := prog_4_method_2_code
def yX2_isBox : MethodName := ⟨RX2, "isBox", "()Z"⟩
abbrev cX2_borderX : ByteArray := prog_4_method_3_code
def yX2_borderX : MethodName := ⟨RX2, "borderX", "()I"⟩
abbrev cX2_borderY : ByteArray := prog_4_method_4_code
def yX2_borderY : MethodName := ⟨RX2, "borderY", "()I"⟩
abbrev cX2_borderWide : ByteArray := prog_4_method_5_code
def yX2_borderWide : MethodName := ⟨RX2, "borderWide", "()I"⟩
abbrev cX2_borderHigh : ByteArray := prog_4_method_6_code
def yX2_borderHigh : MethodName := ⟨RX2, "borderHigh", "()I"⟩
abbrev cX2_reachOrNone : ByteArray := prog_4_method_7_code
def yX2_reachOrNone : MethodName := ⟨RX2, "reachOrNone", "()I"⟩
abbrev cX2_linesOrNone : ByteArray := prog_4_method_8_code
def yX2_linesOrNone : MethodName := ⟨RX2, "linesOrNone", "()I"⟩
abbrev cX2_highWithEdges : ByteArray := prog_4_method_9_code
def yX2_highWithEdges : MethodName := ⟨RX2, "highWithEdges", "()I"⟩
abbrev cX2_hasInBorder : ByteArray := prog_4_method_10_code
def yX2_hasInBorder : MethodName := ⟨RX2, "hasInBorder", "(II)Z"⟩
abbrev cX2_cutsOffAt : ByteArray := prog_4_method_11_code
def yX2_cutsOffAt : MethodName := ⟨RX2, "cutsOffAt", "(II)Z"⟩
abbrev cX2_setWord : ByteArray := prog_4_method_12_code
def yX2_setWord : MethodName := ⟨RX2, "setWord", "(III)V"⟩
abbrev cX2_wordLeft : ByteArray := prog_4_method_13_code
def yX2_wordLeft : MethodName := ⟨RX2, "wordLeft", "(I)I"⟩
abbrev cX2_wordTop : ByteArray := prog_4_method_14_code
def yX2_wordTop : MethodName := ⟨RX2, "wordTop", "(I)I"⟩
abbrev cX2_isWithin : ByteArray := prog_4_method_15_code
def yX2_isWithin : MethodName := ⟨RX2, "isWithin", "(III)Z"⟩
def RX3 : String := "PinnaceView$Node"
def TX3 : u_T := fun k => match k with
  | 0 => ("PinnaceView$Node", "number", "I", true)
  | 1 => ("PinnaceView$Node", "isText", "Z", true)
  | 2 => ("PinnaceView$Node", "tag", "I", true)
  | 3 => ("PinnaceView$Node", "children", "Ljava/util/ArrayList;", true)
  | 4 => ("PinnaceView$Node", "letters", "[I", true)
  | 5 => ("PinnaceView$Node", "declared", "[I", true)
  | 6 => ("PinnaceView$Node", "layout", "LPinnaceView$Layout;", true)
  | 7 => ("PinnaceView$Node", "flow", "LPinnaceView$Flow;", true)
  | 8 => ("PinnaceView$Node", "parent", "LPinnaceView$Node;", false)
  | 9 => ("PinnaceView$Node", "words", "I", false)
  | 10 => ("PinnaceView$Node", "name", "I", false)
  | 11 => ("PinnaceView$Node", "classes", "I", false)
  | 12 => ("PinnaceView$Node", "offset", "I", false)
  | _ => ("PinnaceView$Node", "isGone", "Z", false)
def tyX3 : Nat → FieldType := fun k => match k with
  | 0 => .int
  | 1 => .boolean
  | 2 => .int
  | 3 => .object "java/util/ArrayList"
  | 4 => .array .int
  | 5 => .array .int
  | 6 => .object "PinnaceView$Layout"
  | 7 => .object "PinnaceView$Flow"
  | 8 => .object "PinnaceView$Node"
  | 9 => .int
  | 10 => .int
  | 11 => .int
  | 12 => .int
  | _ => .boolean
abbrev wsX30 : List Cond := u_ws RX3 TX3 14
theorem nmX3 : ∀ a, a < 14 → ∀ b, b < 14 → a ≠ b → (TX3 a).2.1 ≠ (TX3 b).2.1 := by decide +kernel
theorem tyX3_ok : ∀ k, k < 14 → parseFieldDescriptor (TX3 k).2.2.1 = some (tyX3 k) := by decide +kernel
abbrev cX3_init : ByteArray := prog_5_method_1_code
def yX3_init : MethodName := ⟨RX3, "<init>", "(IZI)V"⟩
abbrev cX3_hasClass : ByteArray := prog_5_method_2_code
def yX3_hasClass : MethodName := ⟨RX3, "hasClass", "(I)Z"⟩
abbrev cX3_hasWord : ByteArray := prog_5_method_3_code
def yX3_hasWord : MethodName := ⟨RX3, "hasWord", "(I)Z"⟩
abbrev cX3_lettersOf : ByteArray := prog_5_method_4_code
def yX3_lettersOf : MethodName := ⟨RX3, "lettersOf", "(I)I"⟩
abbrev cX3_declaredOf : ByteArray := prog_5_method_5_code
def yX3_declaredOf : MethodName := ⟨RX3, "declaredOf", "(I)I"⟩
abbrev cX3_setDeclared : ByteArray := prog_5_method_6_code
def yX3_setDeclared : MethodName := ⟨RX3, "setDeclared", "(II)V"⟩
abbrev cX3_ancestors : ByteArray := prog_5_method_7_code
def yX3_ancestors : MethodName := ⟨RX3, "ancestors", "()I"⟩
abbrev cX3_isOrIsIn : ByteArray := prog_5_method_8_code
def yX3_isOrIsIn : MethodName := ⟨RX3, "isOrIsIn", "(LPinnaceView$Node;)Z"⟩
abbrev cX3_placeAmongSiblings : ByteArray := prog_5_method_9_code
def yX3_placeAmongSiblings : MethodName := ⟨RX3, "placeAmongSiblings", "()I"⟩
def RX4 : String := "PinnaceView$Page"
def TX4 : u_T := fun k => match k with
  | 0 => ("PinnaceView$Page", "styles", "LPinnaceView$Styles;", true)
  | 1 => ("PinnaceView$Page", "floats", "LPinnaceView$Floats;", true)
  | 2 => ("PinnaceView$Page", "waiting", "LPinnaceView$Waiting;", true)
  | 3 => ("PinnaceView$Page", "laidWidth", "I", false)
  | 4 => ("PinnaceView$Page", "lineCount", "I", false)
  | _ => ("PinnaceView$Page", "widthOfLines", "I", false)
def tyX4 : Nat → FieldType := fun k => match k with
  | 0 => .object "PinnaceView$Styles"
  | 1 => .object "PinnaceView$Floats"
  | 2 => .object "PinnaceView$Waiting"
  | 3 => .int
  | 4 => .int
  | _ => .int
abbrev wsX40 : List Cond := u_ws RX4 TX4 6
theorem nmX4 : ∀ a, a < 6 → ∀ b, b < 6 → a ≠ b → (TX4 a).2.1 ≠ (TX4 b).2.1 := by decide +kernel
theorem tyX4_ok : ∀ k, k < 6 → parseFieldDescriptor (TX4 k).2.2.1 = some (tyX4 k) := by decide +kernel
abbrev cX4_init : ByteArray := prog_6_method_1_code
def yX4_init : MethodName := ⟨RX4, "<init>", "()V"⟩
abbrev cX4_layOut : ByteArray := prog_6_method_2_code
def yX4_layOut : MethodName := ⟨RX4, "layOut", "(LPinnaceView$Tree;I)V"⟩
abbrev cX4_isAt : ByteArray := prog_6_method_3_code
def yX4_isAt : MethodName := ⟨RX4, "isAt", "(LPinnaceView$Node;II)Z"⟩
abbrev cX4_isCutAt : ByteArray := prog_6_method_4_code
def yX4_isCutAt : MethodName := ⟨RX4, "isCutAt", "(LPinnaceView$Node;II)Z"⟩
abbrev cX4_wordsSeen : ByteArray := prog_6_method_5_code
def yX4_wordsSeen : MethodName := ⟨RX4, "wordsSeen", "(LPinnaceView$Node;)I"⟩
abbrev cX4_prepare : ByteArray := prog_6_method_6_code
def yX4_prepare : MethodName := ⟨RX4, "prepare", "(Ljava/util/ArrayList;)V"⟩
abbrev cX4_sortFor : ByteArray := prog_6_method_7_code
def yX4_sortFor : MethodName := ⟨RX4, "sortFor", "(LPinnaceView$Node;)I"⟩
abbrev cX4_homeFor : ByteArray := prog_6_method_8_code
def yX4_homeFor : MethodName := ⟨RX4, "homeFor", "(LPinnaceView$Node;)LPinnaceView$Node;"⟩
abbrev cX4_findWishes : ByteArray := prog_6_method_9_code
def yX4_findWishes : MethodName := ⟨RX4, "findWishes", "(Ljava/util/ArrayList;)V"⟩
abbrev cX4_findWish : ByteArray := prog_6_method_10_code
def yX4_findWish : MethodName := ⟨RX4, "findWish", "(LPinnaceView$Node;Ljava/util/ArrayList;)V"⟩
abbrev cX4_addToWish : ByteArray := prog_6_method_11_code
def yX4_addToWish : MethodName := ⟨RX4, "addToWish", "(LPinnaceView$Node;LPinnaceView$Flow;)V"⟩
abbrev cX4_widthOr : ByteArray := prog_6_method_12_code
def yX4_widthOr : MethodName := ⟨RX4, "widthOr", "(LPinnaceView$Node;I)I"⟩
abbrev cX4_fill : ByteArray := prog_6_method_13_code
def yX4_fill : MethodName := ⟨RX4, "fill", "(LPinnaceView$Node;Ljava/util/ArrayList;I)V"⟩
abbrev cX4_putFlow : ByteArray := prog_6_method_14_code
def yX4_putFlow : MethodName := ⟨RX4, "putFlow", "(LPinnaceView$Node;Ljava/util/ArrayList;I)V"⟩
abbrev cX4_putBlock : ByteArray := prog_6_method_15_code
def yX4_putBlock : MethodName := ⟨RX4, "putBlock", "(LPinnaceView$Node;LPinnaceView$Node;Ljava/util/ArrayList;I)V"⟩
abbrev cX4_putFloat : ByteArray := prog_6_method_16_code
def yX4_putFloat : MethodName := ⟨RX4, "putFloat", "(LPinnaceView$Node;LPinnaceView$Node;Ljava/util/ArrayList;I)V"⟩
abbrev cX4_putLines : ByteArray := prog_6_method_17_code
def yX4_putLines : MethodName := ⟨RX4, "putLines", "(LPinnaceView$Node;)V"⟩
abbrev cX4_shift : ByteArray := prog_6_method_18_code
def yX4_shift : MethodName := ⟨RX4, "shift", "(Ljava/util/ArrayList;)V"⟩
def RX5 : String := "PinnaceView$Rule"
def TX5 : u_T := fun k => match k with
  | 0 => ("PinnaceView$Rule", "property", "I", true)
  | 1 => ("PinnaceView$Rule", "value", "I", true)
  | 2 => ("PinnaceView$Rule", "isStrong", "Z", true)
  | 3 => ("PinnaceView$Rule", "tags", "[I", true)
  | 4 => ("PinnaceView$Rule", "classBits", "[I", true)
  | 5 => ("PinnaceView$Rule", "names", "[I", true)
  | 6 => ("PinnaceView$Rule", "areClose", "[Z", true)
  | 7 => ("PinnaceView$Rule", "parts", "I", false)
  | 8 => ("PinnaceView$Rule", "weight", "I", false)
  | _ => ("PinnaceView$Rule", "isOn", "Z", false)
def tyX5 : Nat → FieldType := fun k => match k with
  | 0 => .int
  | 1 => .int
  | 2 => .boolean
  | 3 => .array .int
  | 4 => .array .int
  | 5 => .array .int
  | 6 => .array .boolean
  | 7 => .int
  | 8 => .int
  | _ => .boolean
abbrev wsX50 : List Cond := u_ws RX5 TX5 10
theorem nmX5 : ∀ a, a < 10 → ∀ b, b < 10 → a ≠ b → (TX5 a).2.1 ≠ (TX5 b).2.1 := by decide +kernel
theorem tyX5_ok : ∀ k, k < 10 → parseFieldDescriptor (TX5 k).2.2.1 = some (tyX5 k) := by decide +kernel
abbrev cX5_init : ByteArray := prog_7_method_1_code
def yX5_init : MethodName := ⟨RX5, "<init>", "(IIZ)V"⟩
abbrev cX5_takePart : ByteArray := prog_7_method_2_code
def yX5_takePart : MethodName := ⟨RX5, "takePart", "(IIIZ)V"⟩
abbrev cX5_selects : ByteArray := prog_7_method_3_code
def yX5_selects : MethodName := ⟨RX5, "selects", "(LPinnaceView$Node;)Z"⟩
abbrev cX5_fitsUpTo : ByteArray := prog_7_method_4_code
def yX5_fitsUpTo : MethodName := ⟨RX5, "fitsUpTo", "(LPinnaceView$Rule;ILPinnaceView$Node;)Z"⟩
abbrev cX5_fits : ByteArray := prog_7_method_5_code
def yX5_fits : MethodName := ⟨RX5, "fits", "(ILPinnaceView$Node;)Z"⟩
def RX6 : String := "PinnaceView$Styles"
def TX6 : u_T := fun k => match k with
  | 0 => ("PinnaceView$Styles", "values", "[[I", true)
  | 1 => ("PinnaceView$Styles", "reasons", "[[I", true)
  | _ => ("PinnaceView$Styles", "areFresh", "Z", false)
def tyX6 : Nat → FieldType := fun k => match k with
  | 0 => .array (.array .int)
  | 1 => .array (.array .int)
  | _ => .boolean
abbrev wsX60 : List Cond := u_ws RX6 TX6 3
theorem nmX6 : ∀ a, a < 3 → ∀ b, b < 3 → a ≠ b → (TX6 a).2.1 ≠ (TX6 b).2.1 := by decide +kernel
theorem tyX6_ok : ∀ k, k < 3 → parseFieldDescriptor (TX6 k).2.2.1 = some (tyX6 k) := by decide +kernel
abbrev cX6_init : ByteArray := prog_8_method_1_code
def yX6_init : MethodName := ⟨RX6, "<init>", "()V"⟩
abbrev cX6_of : ByteArray := prog_8_method_2_code
def yX6_of : MethodName := ⟨RX6, "of", "(LPinnaceView$Node;I)I"⟩
abbrev cX6_reasonOf : ByteArray := prog_8_method_3_code
def yX6_reasonOf : MethodName := ⟨RX6, "reasonOf", "(LPinnaceView$Node;I)I"⟩
abbrev cX6_differFor : ByteArray := prog_8_method_4_code
def yX6_differFor : MethodName := ⟨RX6, "differFor", "(LPinnaceView$Node;LPinnaceView$Styles;)Z"⟩
abbrev cX6_workOut : ByteArray := prog_8_method_5_code
def yX6_workOut : MethodName := ⟨RX6, "workOut", "(Ljava/util/ArrayList;Ljava/util/ArrayList;I)V"⟩
abbrev cX6_isKept : ByteArray := prog_8_method_6_code
def yX6_isKept : MethodName := ⟨RX6, "isKept", "(LPinnaceView$Node;I)Z"⟩
abbrev cX6_findRules : ByteArray := prog_8_method_7_code
def yX6_findRules : MethodName := ⟨RX6, "findRules", "(LPinnaceView$Node;Ljava/util/ArrayList;I)V"⟩
abbrev cX6_comesAheadOf : ByteArray := prog_8_method_8_code
def yX6_comesAheadOf : MethodName := ⟨RX6, "comesAheadOf", "(LPinnaceView$Rule;ILjava/util/ArrayList;)Z"⟩
abbrev cX6_settle : ByteArray := prog_8_method_9_code
def yX6_settle : MethodName := ⟨RX6, "settle", "(LPinnaceView$Node;ILjava/util/ArrayList;)V"⟩
def RX7 : String := "PinnaceView$Tree"
def TX7 : u_T := fun k => match k with
  | 0 => ("PinnaceView$Tree", "nodes", "Ljava/util/ArrayList;", true)
  | 1 => ("PinnaceView$Tree", "order", "Ljava/util/ArrayList;", true)
  | _ => ("PinnaceView$Tree", "root", "LPinnaceView$Node;", true)
def tyX7 : Nat → FieldType := fun k => match k with
  | 0 => .object "java/util/ArrayList"
  | 1 => .object "java/util/ArrayList"
  | _ => .object "PinnaceView$Node"
abbrev wsX70 : List Cond := u_ws RX7 TX7 3
theorem nmX7 : ∀ a, a < 3 → ∀ b, b < 3 → a ≠ b → (TX7 a).2.1 ≠ (TX7 b).2.1 := by decide +kernel
theorem tyX7_ok : ∀ k, k < 3 → parseFieldDescriptor (TX7 k).2.2.1 = some (tyX7 k) := by decide +kernel
abbrev cX7_init : ByteArray := prog_9_method_1_code
def yX7_init : MethodName := ⟨RX7, "<init>", "()V"⟩
abbrev cX7_withRoot : ByteArray := prog_9_method_2_code
def yX7_withRoot : MethodName := ⟨RX7, "withRoot", "()LPinnaceView$Tree;"⟩
abbrev cX7_holds : ByteArray := prog_9_method_3_code
def yX7_holds : MethodName := ⟨RX7, "holds", "(I)Z"⟩
abbrev cX7_hasRoomIn : ByteArray := prog_9_method_4_code
def yX7_hasRoomIn : MethodName := ⟨RX7, "hasRoomIn", "(LPinnaceView$Node;)Z"⟩
abbrev cX7_append : ByteArray := prog_9_method_5_code
def yX7_append : MethodName := ⟨RX7, "append", "(LPinnaceView$Node;ZI)I"⟩
abbrev cX7_remove : ByteArray := prog_9_method_6_code
def yX7_remove : MethodName := ⟨RX7, "remove", "(LPinnaceView$Node;)I"⟩
abbrev cX7_canMove : ByteArray := prog_9_method_7_code
def yX7_canMove : MethodName := ⟨RX7, "canMove", "(LPinnaceView$Node;LPinnaceView$Node;I)Z"⟩
abbrev cX7_putInto : ByteArray := prog_9_method_8_code
def yX7_putInto : MethodName := ⟨RX7, "putInto", "(LPinnaceView$Node;LPinnaceView$Node;I)V"⟩
abbrev cX7_detach : ByteArray := prog_9_method_9_code
def yX7_detach : MethodName := ⟨RX7, "detach", "(LPinnaceView$Node;)V"⟩
abbrev cX7_listAnew : ByteArray := prog_9_method_10_code
def yX7_listAnew : MethodName := ⟨RX7, "listAnew", "()V"⟩
abbrev cX7_listFrom : ByteArray := prog_9_method_11_code
def yX7_listFrom : MethodName := ⟨RX7, "listFrom", "(LPinnaceView$Node;Ljava/util/ArrayList;I)V"⟩
abbrev cX7_markGone : ByteArray := prog_9_method_12_code
def yX7_markGone : MethodName := ⟨RX7, "markGone", "(LPinnaceView$Node;I)V"⟩
abbrev cX7_levelsBelow : ByteArray := prog_9_method_13_code
def yX7_levelsBelow : MethodName := ⟨RX7, "levelsBelow", "(LPinnaceView$Node;I)I"⟩
def RX8 : String := "PinnaceView$Waiting"
def TX8 : u_T := fun k => match k with
  | 0 => ("PinnaceView$Waiting", "texts", "[LPinnaceView$Node;", true)
  | 1 => ("PinnaceView$Waiting", "words", "[I", true)
  | 2 => ("PinnaceView$Waiting", "widths", "[I", true)
  | 3 => ("PinnaceView$Waiting", "fonts", "[I", true)
  | 4 => ("PinnaceView$Waiting", "count", "I", false)
  | 5 => ("PinnaceView$Waiting", "lineWide", "I", false)
  | _ => ("PinnaceView$Waiting", "lineFont", "I", false)
def tyX8 : Nat → FieldType := fun k => match k with
  | 0 => .array (.object "PinnaceView$Node")
  | 1 => .array .int
  | 2 => .array .int
  | 3 => .array .int
  | 4 => .int
  | 5 => .int
  | _ => .int
abbrev wsX80 : List Cond := u_ws RX8 TX8 7
theorem nmX8 : ∀ a, a < 7 → ∀ b, b < 7 → a ≠ b → (TX8 a).2.1 ≠ (TX8 b).2.1 := by decide +kernel
theorem tyX8_ok : ∀ k, k < 7 → parseFieldDescriptor (TX8 k).2.2.1 = some (tyX8 k) := by decide +kernel
abbrev cX8_init : ByteArray := prog_10_method_1_code
def yX8_init : MethodName := ⟨RX8, "<init>", "()V"⟩
abbrev cX8_clear : ByteArray := prog_10_method_2_code
def yX8_clear : MethodName := ⟨RX8, "clear", "()V"⟩
abbrev cX8_add : ByteArray := prog_10_method_3_code
def yX8_add : MethodName := ⟨RX8, "add", "(LPinnaceView$Node;I)V"⟩
abbrev cX8_widthOf : ByteArray := prog_10_method_4_code
def yX8_widthOf : MethodName := ⟨RX8, "widthOf", "(I)I"⟩
abbrev cX8_takeLine : ByteArray := prog_10_method_5_code
def yX8_takeLine : MethodName := ⟨RX8, "takeLine", "(II)I"⟩
abbrev cX8_setLine : ByteArray := prog_10_method_6_code
def yX8_setLine : MethodName := ⟨RX8, "setLine", "(IIII)V"⟩
def RX9 : String := "PinnaceView"
def TX9 : u_T := fun k => match k with
  | 0 => ("PinnaceView", "tree", "LPinnaceView$Tree;", true)
  | 1 => ("PinnaceView", "ruleList", "Ljava/util/ArrayList;", true)
  | 2 => ("PinnaceView", "page", "LPinnaceView$Page;", true)
  | 3 => ("PinnaceView", "styles", "LPinnaceView$Styles;", true)
  | 4 => ("PinnaceView", "stylesIfTurned", "LPinnaceView$Styles;", true)
  | _ => ("PinnaceView", "view", "I", false)
def tyX9 : Nat → FieldType := fun k => match k with
  | 0 => .object "PinnaceView$Tree"
  | 1 => .object "java/util/ArrayList"
  | 2 => .object "PinnaceView$Page"
  | 3 => .object "PinnaceView$Styles"
  | 4 => .object "PinnaceView$Styles"
  | _ => .int
abbrev wsX90 : List Cond := u_ws RX9 TX9 6
theorem nmX9 : ∀ a, a < 6 → ∀ b, b < 6 → a ≠ b → (TX9 a).2.1 ≠ (TX9 b).2.1 := by decide +kernel
theorem tyX9_ok : ∀ k, k < 6 → parseFieldDescriptor (TX9 k).2.2.1 = some (tyX9 k) := by decide +kernel
abbrev cX9_init : ByteArray := prog_1_method_1_code
def yX9_init : MethodName := ⟨RX9, "<init>", "()V"⟩
abbrev cX9_addElement : ByteArray := prog_1_method_2_code
def yX9_addElement : MethodName := ⟨RX9, "addElement", "(II)I"⟩
abbrev cX9_addText : ByteArray := prog_1_method_3_code
def yX9_addText : MethodName := ⟨RX9, "addText", "(I)I"⟩
abbrev cX9_addWord : ByteArray := prog_1_method_4_code
def yX9_addWord : MethodName := ⟨RX9, "addWord", "(II)I"⟩
abbrev cX9_takeAway : ByteArray := prog_1_method_5_code
def yX9_takeAway : MethodName := ⟨RX9, "takeAway", "(I)I"⟩
abbrev cX9_move : ByteArray := prog_1_method_6_code
def yX9_move : MethodName := ⟨RX9, "move", "(III)I"⟩
abbrev cX9_setClass : ByteArray := prog_1_method_7_code
def yX9_setClass : MethodName := ⟨RX9, "setClass", "(IIZ)Z"⟩
abbrev cX9_setName : ByteArray := prog_1_method_8_code
def yX9_setName : MethodName := ⟨RX9, "setName", "(II)I"⟩
abbrev cX9_addRule : ByteArray := prog_1_method_9_code
def yX9_addRule : MethodName := ⟨RX9, "addRule", "(IIZ)I"⟩
abbrev cX9_addPart : ByteArray := prog_1_method_10_code
def yX9_addPart : MethodName := ⟨RX9, "addPart", "(IIIIZ)I"⟩
abbrev cX9_turn : ByteArray := prog_1_method_11_code
def yX9_turn : MethodName := ⟨RX9, "turn", "(I)Z"⟩
abbrev cX9_declare : ByteArray := prog_1_method_12_code
def yX9_declare : MethodName := ⟨RX9, "declare", "(III)I"⟩
abbrev cX9_setView : ByteArray := prog_1_method_13_code
def yX9_setView : MethodName := ⟨RX9, "setView", "(I)I"⟩
abbrev cX9_scroll : ByteArray := prog_1_method_14_code
def yX9_scroll : MethodName := ⟨RX9, "scroll", "(II)I"⟩
abbrev cX9_added : ByteArray := prog_1_method_15_code
def yX9_added : MethodName := ⟨RX9, "added", "()I"⟩
abbrev cX9_nodes : ByteArray := prog_1_method_16_code
def yX9_nodes : MethodName := ⟨RX9, "nodes", "()I"⟩
abbrev cX9_isThere : ByteArray := prog_1_method_17_code
def yX9_isThere : MethodName := ⟨RX9, "isThere", "(I)Z"⟩
abbrev cX9_isText : ByteArray := prog_1_method_18_code
def yX9_isText : MethodName := ⟨RX9, "isText", "(I)Z"⟩
abbrev cX9_parent : ByteArray := prog_1_method_19_code
def yX9_parent : MethodName := ⟨RX9, "parent", "(I)I"⟩
abbrev cX9_size : ByteArray := prog_1_method_20_code
def yX9_size : MethodName := ⟨RX9, "size", "(I)I"⟩
abbrev cX9_childAt : ByteArray := prog_1_method_21_code
def yX9_childAt : MethodName := ⟨RX9, "childAt", "(II)I"⟩
abbrev cX9_rules : ByteArray := prog_1_method_22_code
def yX9_rules : MethodName := ⟨RX9, "rules", "()I"⟩
abbrev cX9_weight : ByteArray := prog_1_method_23_code
def yX9_weight : MethodName := ⟨RX9, "weight", "(I)I"⟩
abbrev cX9_matches : ByteArray := prog_1_method_24_code
def yX9_matches : MethodName := ⟨RX9, "matches", "(II)Z"⟩
abbrev cX9_matched : ByteArray := prog_1_method_25_code
def yX9_matched : MethodName := ⟨RX9, "matched", "(I)I"⟩
abbrev cX9_styleOf : ByteArray := prog_1_method_26_code
def yX9_styleOf : MethodName := ⟨RX9, "styleOf", "(II)I"⟩
abbrev cX9_because : ByteArray := prog_1_method_27_code
def yX9_because : MethodName := ⟨RX9, "because", "(II)I"⟩
abbrev cX9_sortOf : ByteArray := prog_1_method_28_code
def yX9_sortOf : MethodName := ⟨RX9, "sortOf", "(I)I"⟩
abbrev cX9_xOf : ByteArray := prog_1_method_29_code
def yX9_xOf : MethodName := ⟨RX9, "xOf", "(I)I"⟩
abbrev cX9_wideOf : ByteArray := prog_1_method_31_code
def yX9_wideOf : MethodName := ⟨RX9, "wideOf", "(I)I"⟩
abbrev cX9_highOf : ByteArray := prog_1_method_32_code
def yX9_highOf : MethodName := ⟨RX9, "highOf", "(I)I"⟩
abbrev cX9_reachOf : ByteArray := prog_1_method_33_code
def yX9_reachOf : MethodName := ⟨RX9, "reachOf", "(I)I"⟩
abbrev cX9_scrolled : ByteArray := prog_1_method_34_code
def yX9_scrolled : MethodName := ⟨RX9, "scrolled", "(I)I"⟩
abbrev cX9_lines : ByteArray := prog_1_method_35_code
def yX9_lines : MethodName := ⟨RX9, "lines", "(I)I"⟩
abbrev cX9_pageHeight : ByteArray := prog_1_method_38_code
def yX9_pageHeight : MethodName := ⟨RX9, "pageHeight", "()I"⟩
abbrev cX9_hit : ByteArray := prog_1_method_39_code
def yX9_hit : MethodName := ⟨RX9, "hit", "(II)I"⟩
abbrev cX9_seen : ByteArray := prog_1_method_40_code
def yX9_seen : MethodName := ⟨RX9, "seen", "(I)I"⟩
abbrev cX9_meanLine : ByteArray := prog_1_method_41_code
def yX9_meanLine : MethodName := ⟨RX9, "meanLine", "()D"⟩
abbrev cX9_heightIn : ByteArray := prog_1_method_42_code
def yX9_heightIn : MethodName := ⟨RX9, "heightIn", "(I)I"⟩
abbrev cX9_changedBy : ByteArray := prog_1_method_43_code
def yX9_changedBy : MethodName := ⟨RX9, "changedBy", "(I)I"⟩
abbrev cX9_digest : ByteArray := prog_1_method_44_code
def yX9_digest : MethodName := ⟨RX9, "digest", "()J"⟩
abbrev cX9_digestOfPlace : ByteArray := prog_1_method_45_code
def yX9_digestOfPlace : MethodName := ⟨RX9, "digestOfPlace", "(JLPinnaceView$Node;)J"⟩
abbrev cX9_digestOfBox : ByteArray := prog_1_method_46_code
def yX9_digestOfBox : MethodName := ⟨RX9, "digestOfBox", "(JLPinnaceView$Node;)J"⟩
abbrev cX9_digestOfStyles : ByteArray := prog_1_method_47_code
def yX9_digestOfStyles : MethodName := ⟨RX9, "digestOfStyles", "(JLPinnaceView$Node;)J"⟩
abbrev cX9_digestOfWords : ByteArray := prog_1_method_48_code
def yX9_digestOfWords : MethodName := ⟨RX9, "digestOfWords", "(JLPinnaceView$Node;)J"⟩
abbrev cX9_nodeAt : ByteArray := prog_1_method_49_code
def yX9_nodeAt : MethodName := ⟨RX9, "nodeAt", "(I)LPinnaceView$Node;"⟩
abbrev cX9_ruleAt : ByteArray := prog_1_method_50_code
def yX9_ruleAt : MethodName := ⟨RX9, "ruleAt", "(I)LPinnaceView$Rule;"⟩
abbrev cX9_forgetWhatWasWorkedOut : ByteArray := prog_1_method_51_code
def yX9_forgetWhatWasWorkedOut : MethodName := ⟨RX9, "forgetWhatWasWorkedOut", "()V"⟩
abbrev cX9_freshenStyles : ByteArray := prog_1_method_52_code
def yX9_freshenStyles : MethodName := ⟨RX9, "freshenStyles", "()V"⟩
abbrev cX9_laidOut : ByteArray := prog_1_method_53_code
def yX9_laidOut : MethodName := ⟨RX9, "laidOut", "(II)LPinnaceView$Layout;"⟩
abbrev cX9_isProperty : ByteArray := prog_1_method_54_code
def yX9_isProperty : MethodName := ⟨RX9, "isProperty", "(I)Z"⟩
abbrev cX9_isValueOf : ByteArray := prog_1_method_55_code
def yX9_isValueOf : MethodName := ⟨RX9, "isValueOf", "(II)Z"⟩
abbrev cX9_isInherited : ByteArray := prog_1_method_56_code
def yX9_isInherited : MethodName := ⟨RX9, "isInherited", "(I)Z"⟩
abbrev cX9_isViewWidth : ByteArray := prog_1_method_57_code
def yX9_isViewWidth : MethodName := ⟨RX9, "isViewWidth", "(I)Z"⟩
def RJ9 : String := "java/lang/Math"
def TJ9 : u_T := fun k => match k with
  | _ => ("", "", "", false)
def tyJ9 : Nat → FieldType := fun k => match k with
  | _ => .int
theorem nmJ9 : ∀ a, a < 0 → ∀ b, b < 0 → a ≠ b → (TJ9 a).2.1 ≠ (TJ9 b).2.1 := by decide +kernel
theorem tyJ9_ok : ∀ k, k < 0 → parseFieldDescriptor (TJ9 k).2.2.1 = some (tyJ9 k) := by decide +kernel
abbrev cJ9_max_7cf53 : ByteArray := prog_25_method_65_code
def yJ9_max_7cf53 : MethodName := ⟨RJ9, "max", "(II)I"⟩
abbrev cJ9_min_7cf53 : ByteArray := prog_25_method_69_code
def yJ9_min_7cf53 : MethodName := ⟨RJ9, "min", "(II)I"⟩
def RJ10 : String := "java/lang/System"
def TJ10 : u_T := fun k => match k with
  | _ => ("", "", "", false)
def tyJ10 : Nat → FieldType := fun k => match k with
  | _ => .int
theorem nmJ10 : ∀ a, a < 0 → ∀ b, b < 0 → a ≠ b → (TJ10 a).2.1 ≠ (TJ10 b).2.1 := by decide +kernel
theorem tyJ10_ok : ∀ k, k < 0 → parseFieldDescriptor (TJ10 k).2.2.1 = some (tyJ10 k) := by decide +kernel
def RJxa1e45 : String := "java/util/AbstractCollection"
def TJxa1e45 : u_T := fun k => match k with
  | _ => ("", "", "", false)
def tyJxa1e45 : Nat → FieldType := fun k => match k with
  | _ => .int
theorem nmJxa1e45 : ∀ a, a < 0 → ∀ b, b < 0 → a ≠ b → (TJxa1e45 a).2.1 ≠ (TJxa1e45 b).2.1 := by decide +kernel
theorem tyJxa1e45_ok : ∀ k, k < 0 → parseFieldDescriptor (TJxa1e45 k).2.2.1 = some (tyJxa1e45 k) := by decide +kernel
abbrev cJxa1e45_init_da8c8 : ByteArray := prog_30_method_1_code
def yJxa1e45_init_da8c8 : MethodName := ⟨RJxa1e45, "<init>", "()V"⟩
def RJxc12de : String := "java/util/AbstractList"
def TJxc12de : u_T := fun k => match k with
  | _ => ("", "", "", false)
def tyJxc12de : Nat → FieldType := fun k => match k with
  | _ => .int
theorem nmJxc12de : ∀ a, a < 0 → ∀ b, b < 0 → a ≠ b → (TJxc12de a).2.1 ≠ (TJxc12de b).2.1 := by decide +kernel
theorem tyJxc12de_ok : ∀ k, k < 0 → parseFieldDescriptor (TJxc12de k).2.2.1 = some (tyJxc12de k) := by decide +kernel
abbrev cJxc12de_init_da8c8 : ByteArray := prog_31_method_1_code
def yJxc12de_init_da8c8 : MethodName := ⟨RJxc12de, "<init>", "()V"⟩
def RJx4a65c : String := "java/util/ArrayList"
def TJx4a65c : u_T := fun k => match k with
  | 0 => ("java/util/AbstractList", "modCount", "I", false)
  | 1 => ("java/util/ArrayList", "elementData", "[Ljava/lang/Object;", false)
  | _ => ("java/util/ArrayList", "size", "I", false)
def tyJx4a65c : Nat → FieldType := fun k => match k with
  | 0 => .int
  | 1 => .array (.object "java/lang/Object")
  | _ => .int
abbrev wsJx4a65c0 : List Cond := u_ws RJx4a65c TJx4a65c 3
theorem nmJx4a65c : ∀ a, a < 3 → ∀ b, b < 3 → a ≠ b → (TJx4a65c a).2.1 ≠ (TJx4a65c b).2.1 := by decide +kernel
theorem tyJx4a65c_ok : ∀ k, k < 3 → parseFieldDescriptor (TJx4a65c k).2.2.1 = some (tyJx4a65c k) := by decide +kernel
abbrev cJx4a65c_init_da8c8 : ByteArray := prog_32_method_2_code
def yJx4a65c_init_da8c8 : MethodName := ⟨RJx4a65c, "<init>", "()V"⟩
abbrev cJx4a65c_grow_92f84 : ByteArray := prog_32_method_6_code
def yJx4a65c_grow_92f84 : MethodName := ⟨RJx4a65c, "grow", "(I)[Ljava/lang/Object;"⟩
abbrev cJx4a65c_grow_d5877 : ByteArray := prog_32_method_7_code
def yJx4a65c_grow_d5877 : MethodName := ⟨RJx4a65c, "grow", "()[Ljava/lang/Object;"⟩
abbrev cJx4a65c_size_8abf5 : ByteArray := prog_32_method_8_code
def yJx4a65c_size_8abf5 : MethodName := ⟨RJx4a65c, "size", "()I"⟩
abbrev cJx4a65c_elementData_915e3 : ByteArray := prog_32_method_18_code
def yJx4a65c_elementData_915e3 : MethodName := ⟨RJx4a65c, "elementData", "(I)Ljava/lang/Object;"⟩
abbrev cJx4a65c_get_915e3 : ByteArray := prog_32_method_20_code
def yJx4a65c_get_915e3 : MethodName := ⟨RJx4a65c, "get", "(I)Ljava/lang/Object;"⟩
abbrev cJx4a65c_add_72be8 : ByteArray := prog_32_method_24_code
def yJx4a65c_add_72be8 : MethodName := ⟨RJx4a65c, "add", "(Ljava/lang/Object;[Ljava/lang/Object;I)V"⟩
abbrev cJx4a65c_add_9ea2d : ByteArray := prog_32_method_25_code
def yJx4a65c_add_9ea2d : MethodName := ⟨RJx4a65c, "add", "(Ljava/lang/Object;)Z"⟩
abbrev cJx4a65c_add_7a177 : ByteArray := prog_32_method_26_code
def yJx4a65c_add_7a177 : MethodName := ⟨RJx4a65c, "add", "(ILjava/lang/Object;)V"⟩
abbrev cJx4a65c_remove_915e3 : ByteArray := prog_32_method_29_code
def yJx4a65c_remove_915e3 : MethodName := ⟨RJx4a65c, "remove", "(I)Ljava/lang/Object;"⟩
abbrev cJx4a65c_fastRemove_b59b0 : ByteArray := prog_32_method_39_code
def yJx4a65c_fastRemove_b59b0 : MethodName := ⟨RJx4a65c, "fastRemove", "([Ljava/lang/Object;I)V"⟩
abbrev cJx4a65c_clear_da8c8 : ByteArray := prog_32_method_40_code
def yJx4a65c_clear_da8c8 : MethodName := ⟨RJx4a65c, "clear", "()V"⟩
abbrev cJx4a65c_rangeCheckForAdd_d00df : ByteArray := prog_32_method_45_code
def yJx4a65c_rangeCheckForAdd_d00df : MethodName := ⟨RJx4a65c, "rangeCheckForAdd", "(I)V"⟩
def RJ7 : String := "java/util/Arrays"
def TJ7 : u_T := fun k => match k with
  | _ => ("", "", "", false)
def tyJ7 : Nat → FieldType := fun k => match k with
  | _ => .int
theorem nmJ7 : ∀ a, a < 0 → ∀ b, b < 0 → a ≠ b → (TJ7 a).2.1 ≠ (TJ7 b).2.1 := by decide +kernel
theorem tyJ7_ok : ∀ k, k < 0 → parseFieldDescriptor (TJ7 k).2.2.1 = some (tyJ7 k) := by decide +kernel
abbrev cJ7_fill_53178 : ByteArray := prog_33_method_103_code
def yJ7_fill_53178 : MethodName := ⟨RJ7, "fill", "([II)V"⟩
abbrev cJ7_copyOf_1904c : ByteArray := prog_33_method_119_code
def yJ7_copyOf_1904c : MethodName := ⟨RJ7, "copyOf", "([Ljava/lang/Object;I)[Ljava/lang/Object;"⟩
abbrev cJ7_copyOf_6403c : ByteArray := prog_33_method_120_code
def yJ7_copyOf_6403c : MethodName := ⟨RJ7, "copyOf", "([Ljava/lang/Object;ILjava/lang/Class;)[Ljava/lang/Object;"⟩
def RJ15 : String := "java/util/Objects"
def TJ15 : u_T := fun k => match k with
  | _ => ("", "", "", false)
def tyJ15 : Nat → FieldType := fun k => match k with
  | _ => .int
theorem nmJ15 : ∀ a, a < 0 → ∀ b, b < 0 → a ≠ b → (TJ15 a).2.1 ≠ (TJ15 b).2.1 := by decide +kernel
theorem tyJ15_ok : ∀ k, k < 0 → parseFieldDescriptor (TJ15 k).2.2.1 = some (tyJ15 k) := by decide +kernel
abbrev cJ15_checkIndex_7cf53 : ByteArray := prog_36_method_17_code
def yJ15_checkIndex_7cf53 : MethodName := ⟨RJ15, "checkIndex", "(II)I"⟩
def RJ8 : String := "jdk/internal/util/ArraysSupport"
def TJ8 : u_T := fun k => match k with
  | _ => ("", "", "", false)
def tyJ8 : Nat → FieldType := fun k => match k with
  | _ => .int
theorem nmJ8 : ∀ a, a < 0 → ∀ b, b < 0 → a ≠ b → (TJ8 a).2.1 ≠ (TJ8 b).2.1 := by decide +kernel
theorem tyJ8_ok : ∀ k, k < 0 → parseFieldDescriptor (TJ8 k).2.2.1 = some (tyJ8 k) := by decide +kernel
abbrev cJ8_newLength_cabcc : ByteArray := prog_39_method_27_code
def yJ8_newLength_cabcc : MethodName := ⟨RJ8, "newLength", "(III)I"⟩
abbrev cJ8_hugeLength_7cf53 : ByteArray := prog_39_method_28_code
def yJ8_hugeLength_7cf53 : MethodName := ⟨RJ8, "hugeLength", "(II)I"⟩
def RJ3 : String := "jdk/internal/util/Preconditions"
def TJ3 : u_T := fun k => match k with
  | _ => ("", "", "", false)
def tyJ3 : Nat → FieldType := fun k => match k with
  | _ => .int
theorem nmJ3 : ∀ a, a < 0 → ∀ b, b < 0 → a ≠ b → (TJ3 a).2.1 ≠ (TJ3 b).2.1 := by decide +kernel
theorem tyJ3_ok : ∀ k, k < 0 → parseFieldDescriptor (TJ3 k).2.2.1 = some (tyJ3 k) := by decide +kernel
abbrev cJ3_checkIndex_8e157 : ByteArray := prog_40_method_11_code
def yJ3_checkIndex_8e157 : MethodName := ⟨RJ3, "checkIndex", "(IILjava/util/function/BiFunction;)I"⟩
def RL : String := "PinnaceViewLaw"
abbrev cL_below : ByteArray := method_2_code
def yL_below : MethodName := ⟨RL, "below", "(II)I"⟩
abbrev cL_cell : ByteArray := method_3_code
def yL_cell : MethodName := ⟨RL, "cell", "([II)I"⟩
abbrev cL_build : ByteArray := method_4_code
def yL_build : MethodName := ⟨RL, "build", "(LPinnaceView;[II)[[I"⟩
abbrev cL_isSound : ByteArray := method_5_code
def yL_isSound : MethodName := ⟨RL, "isSound", "(LPinnaceView;)Z"⟩
abbrev cL_law : ByteArray := code
def yL_law : MethodName := ⟨RL, "law", "([I)Z"⟩
