set_option maxRecDepth 20000 in
theorem ggX3_init_Jx4a65c_init_da8c8 : GoodIn wsX3_init wsJx4a65c_init_da8c8 := goodIn_r _ [30, 31, 32, 33, 34, 35, 36, 37, 38, 39, 40, 41, 42, 2, 3, 75, 76, 77] (by decide +kernel) (by decide +kernel)
set_option maxRecDepth 20000 in
theorem gX3_init_Jx4a65c_init_da8c8 : GoodIn wsX3_init (wsJx4a65c_init_da8c8) := ggX3_init_Jx4a65c_init_da8c8
set_option maxRecDepth 20000 in
theorem ggX3_init_X1_init : GoodIn wsX3_init wsX1_init := goodIn_r _ [44, 45, 2, 3, 46, 47, 48, 49, 50, 92, 93, 94, 95, 96] (by decide +kernel) (by decide +kernel)
set_option maxRecDepth 20000 in
theorem gX3_init_X1_init_n20 : GoodIn wsX3_init (wsX1_init) := ggX3_init_X1_init
set_option maxRecDepth 20000 in
theorem ggX3_init_X2_init : GoodIn wsX3_init wsX2_init := goodIn_r _ [53, 54, 2, 3, 55, 56, 57, 58, 59, 60, 61, 62, 63, 64, 65, 66, 67, 68, 69, 70, 71, 72, 21, 73, 74, 97, 98, 99, 100, 101, 102, 103, 104, 105, 106, 107, 108, 109, 110, 111, 112] (by decide +kernel) (by decide +kernel)
set_option maxRecDepth 20000 in
theorem gX3_init_X2_init : GoodIn wsX3_init (wsX2_init) := ggX3_init_X2_init
theorem dX3_init_0 : decode cX3_init 0 = .ok (.aload_n 0, 1) := by decide +kernel
theorem dX3_init_1 : decode cX3_init 1 = .ok (.invokespecial 3, 3) := by decide +kernel
theorem dX3_init_4 : decode cX3_init 4 = .ok (.aload_n 0, 1) := by decide +kernel
theorem dX3_init_5 : decode cX3_init 5 = .ok (.new 9, 3) := by decide +kernel
theorem dX3_init_8 : decode cX3_init 8 = .ok (.dup, 1) := by decide +kernel
theorem dX3_init_9 : decode cX3_init 9 = .ok (.invokespecial 11, 3) := by decide +kernel
theorem dX3_init_12 : decode cX3_init 12 = .ok (.putfield 12, 3) := by decide +kernel
theorem dX3_init_15 : decode cX3_init 15 = .ok (.aload_n 0, 1) := by decide +kernel
theorem dX3_init_16 : decode cX3_init 16 = .ok (.new 18, 3) := by decide +kernel
theorem dX3_init_19 : decode cX3_init 19 = .ok (.dup, 1) := by decide +kernel
theorem dX3_init_20 : decode cX3_init 20 = .ok (.invokespecial 20, 3) := by decide +kernel
theorem dX3_init_23 : decode cX3_init 23 = .ok (.putfield 21, 3) := by decide +kernel
theorem dX3_init_26 : decode cX3_init 26 = .ok (.aload_n 0, 1) := by decide +kernel
theorem dX3_init_27 : decode cX3_init 27 = .ok (.aconst_null, 1) := by decide +kernel
theorem dX3_init_28 : decode cX3_init 28 = .ok (.putfield 25, 3) := by decide +kernel
theorem dX3_init_31 : decode cX3_init 31 = .ok (.aload_n 0, 1) := by decide +kernel
theorem dX3_init_32 : decode cX3_init 32 = .ok (.iconst 0, 1) := by decide +kernel
theorem dX3_init_33 : decode cX3_init 33 = .ok (.putfield 29, 3) := by decide +kernel
theorem dX3_init_36 : decode cX3_init 36 = .ok (.aload_n 0, 1) := by decide +kernel
theorem dX3_init_37 : decode cX3_init 37 = .ok (.iconst 0, 1) := by decide +kernel
theorem dX3_init_38 : decode cX3_init 38 = .ok (.putfield 33, 3) := by decide +kernel
theorem dX3_init_41 : decode cX3_init 41 = .ok (.aload_n 0, 1) := by decide +kernel
theorem dX3_init_42 : decode cX3_init 42 = .ok (.iconst 0, 1) := by decide +kernel
theorem dX3_init_43 : decode cX3_init 43 = .ok (.putfield 36, 3) := by decide +kernel
theorem dX3_init_46 : decode cX3_init 46 = .ok (.aload_n 0, 1) := by decide +kernel
theorem dX3_init_47 : decode cX3_init 47 = .ok (.iconst 0, 1) := by decide +kernel
theorem dX3_init_48 : decode cX3_init 48 = .ok (.putfield 39, 3) := by decide +kernel
theorem dX3_init_51 : decode cX3_init 51 = .ok (.aload_n 0, 1) := by decide +kernel
theorem dX3_init_52 : decode cX3_init 52 = .ok (.iconst 0, 1) := by decide +kernel
theorem dX3_init_53 : decode cX3_init 53 = .ok (.putfield 42, 3) := by decide +kernel
theorem dX3_init_56 : decode cX3_init 56 = .ok (.aload_n 0, 1) := by decide +kernel
theorem dX3_init_57 : decode cX3_init 57 = .ok (.iload_n 1, 1) := by decide +kernel
theorem dX3_init_58 : decode cX3_init 58 = .ok (.putfield 46, 3) := by decide +kernel
theorem dX3_init_61 : decode cX3_init 61 = .ok (.aload_n 0, 1) := by decide +kernel
theorem dX3_init_62 : decode cX3_init 62 = .ok (.iload_n 2, 1) := by decide +kernel
theorem dX3_init_63 : decode cX3_init 63 = .ok (.putfield 49, 3) := by decide +kernel
theorem dX3_init_66 : decode cX3_init 66 = .ok (.aload_n 0, 1) := by decide +kernel
theorem dX3_init_67 : decode cX3_init 67 = .ok (.iload_n 3, 1) := by decide +kernel
theorem dX3_init_68 : decode cX3_init 68 = .ok (.putfield 52, 3) := by decide +kernel
theorem dX3_init_71 : decode cX3_init 71 = .ok (.aload_n 0, 1) := by decide +kernel
theorem dX3_init_72 : decode cX3_init 72 = .ok (.iload_n 2, 1) := by decide +kernel
theorem dX3_init_73 : decode cX3_init 73 = .ok (.ifCond .eq 8, 3) := by decide +kernel
theorem dX3_init_76 : decode cX3_init 76 = .ok (.bipush 20, 2) := by decide +kernel
theorem dX3_init_78 : decode cX3_init 78 = .ok (.goto 4, 3) := by decide +kernel
theorem dX3_init_81 : decode cX3_init 81 = .ok (.iconst 0, 1) := by decide +kernel
theorem dX3_init_82 : decode cX3_init 82 = .ok (.newarray .int, 2) := by decide +kernel
theorem dX3_init_84 : decode cX3_init 84 = .ok (.putfield 55, 3) := by decide +kernel
theorem dX3_init_87 : decode cX3_init 87 = .ok (.aload_n 0, 1) := by decide +kernel
theorem dX3_init_88 : decode cX3_init 88 = .ok (.iload_n 2, 1) := by decide +kernel
theorem dX3_init_89 : decode cX3_init 89 = .ok (.ifCond .eq 7, 3) := by decide +kernel
theorem dX3_init_92 : decode cX3_init 92 = .ok (.iconst 0, 1) := by decide +kernel
theorem dX3_init_93 : decode cX3_init 93 = .ok (.goto 5, 3) := by decide +kernel
theorem dX3_init_96 : decode cX3_init 96 = .ok (.bipush 14, 2) := by decide +kernel
theorem dX3_init_98 : decode cX3_init 98 = .ok (.newarray .int, 2) := by decide +kernel
theorem dX3_init_100 : decode cX3_init 100 = .ok (.putfield 59, 3) := by decide +kernel
theorem dX3_init_103 : decode cX3_init 103 = .ok (.iconst 0, 1) := by decide +kernel
theorem dX3_init_104 : decode cX3_init 104 = .ok (.istore 4, 2) := by decide +kernel
theorem dX3_init_106 : decode cX3_init 106 = .ok (.iload 4, 2) := by decide +kernel
theorem dX3_init_108 : decode cX3_init 108 = .ok (.aload_n 0, 1) := by decide +kernel
theorem dX3_init_109 : decode cX3_init 109 = .ok (.getfield 59, 3) := by decide +kernel
theorem dX3_init_112 : decode cX3_init 112 = .ok (.arraylength, 1) := by decide +kernel
theorem dX3_init_113 : decode cX3_init 113 = .ok (.if_icmp .ge 19, 3) := by decide +kernel
theorem dX3_init_116 : decode cX3_init 116 = .ok (.aload_n 0, 1) := by decide +kernel
theorem dX3_init_117 : decode cX3_init 117 = .ok (.getfield 59, 3) := by decide +kernel
theorem dX3_init_120 : decode cX3_init 120 = .ok (.iload 4, 2) := by decide +kernel
theorem dX3_init_122 : decode cX3_init 122 = .ok (.sipush 9998, 3) := by decide +kernel
theorem dX3_init_125 : decode cX3_init 125 = .ok (.iastore, 1) := by decide +kernel
theorem dX3_init_126 : decode cX3_init 126 = .ok (.iinc 4 1, 3) := by decide +kernel
theorem dX3_init_129 : decode cX3_init 129 = .ok (.goto (-23), 3) := by decide +kernel
theorem dX3_init_132 : decode cX3_init 132 = .ok (.aload_n 0, 1) := by decide +kernel
theorem dX3_init_133 : decode cX3_init 133 = .ok (.new 62, 3) := by decide +kernel
theorem dX3_init_136 : decode cX3_init 136 = .ok (.dup, 1) := by decide +kernel
theorem dX3_init_137 : decode cX3_init 137 = .ok (.iload_n 2, 1) := by decide +kernel
theorem dX3_init_138 : decode cX3_init 138 = .ok (.ifCond .eq 8, 3) := by decide +kernel
theorem dX3_init_141 : decode cX3_init 141 = .ok (.bipush 20, 2) := by decide +kernel
theorem dX3_init_143 : decode cX3_init 143 = .ok (.goto 4, 3) := by decide +kernel
theorem dX3_init_146 : decode cX3_init 146 = .ok (.iconst 0, 1) := by decide +kernel
theorem dX3_init_147 : decode cX3_init 147 = .ok (.invokespecial 64, 3) := by decide +kernel
theorem dX3_init_150 : decode cX3_init 150 = .ok (.putfield 67, 3) := by decide +kernel
theorem dX3_init_153 : decode cX3_init 153 = .ok (.return_, 1) := by decide +kernel
theorem dX3_hasClass_0 : decode cX3_hasClass 0 = .ok (.iload_n 1, 1) := by decide +kernel
theorem dX3_hasClass_1 : decode cX3_hasClass 1 = .ok (.ifCond .lt 25, 3) := by decide +kernel
theorem dX3_hasClass_4 : decode cX3_hasClass 4 = .ok (.iload_n 1, 1) := by decide +kernel
theorem dX3_hasClass_5 : decode cX3_hasClass 5 = .ok (.bipush 7, 2) := by decide +kernel
theorem dX3_hasClass_7 : decode cX3_hasClass 7 = .ok (.if_icmp .gt 19, 3) := by decide +kernel
theorem dX3_hasClass_10 : decode cX3_hasClass 10 = .ok (.aload_n 0, 1) := by decide +kernel
theorem dX3_hasClass_11 : decode cX3_hasClass 11 = .ok (.getfield 36, 3) := by decide +kernel
theorem dX3_hasClass_14 : decode cX3_hasClass 14 = .ok (.iload_n 1, 1) := by decide +kernel
theorem dX3_hasClass_15 : decode cX3_hasClass 15 = .ok (.ishr, 1) := by decide +kernel
theorem dX3_hasClass_16 : decode cX3_hasClass 16 = .ok (.iconst 1, 1) := by decide +kernel
theorem dX3_hasClass_17 : decode cX3_hasClass 17 = .ok (.iand, 1) := by decide +kernel
theorem dX3_hasClass_18 : decode cX3_hasClass 18 = .ok (.iconst 1, 1) := by decide +kernel
theorem dX3_hasClass_19 : decode cX3_hasClass 19 = .ok (.if_icmp .ne 7, 3) := by decide +kernel
theorem dX3_hasClass_22 : decode cX3_hasClass 22 = .ok (.iconst 1, 1) := by decide +kernel
theorem dX3_hasClass_23 : decode cX3_hasClass 23 = .ok (.goto 4, 3) := by decide +kernel
theorem dX3_hasClass_26 : decode cX3_hasClass 26 = .ok (.iconst 0, 1) := by decide +kernel
theorem dX3_hasClass_27 : decode cX3_hasClass 27 = .ok (.ireturn, 1) := by decide +kernel
theorem dX3_hasWord_0 : decode cX3_hasWord 0 = .ok (.aload_n 0, 1) := by decide +kernel
theorem dX3_hasWord_1 : decode cX3_hasWord 1 = .ok (.getfield 49, 3) := by decide +kernel
theorem dX3_hasWord_4 : decode cX3_hasWord 4 = .ok (.ifCond .eq 28, 3) := by decide +kernel
theorem dX3_hasWord_7 : decode cX3_hasWord 7 = .ok (.iload_n 1, 1) := by decide +kernel
theorem dX3_hasWord_8 : decode cX3_hasWord 8 = .ok (.ifCond .lt 24, 3) := by decide +kernel
theorem dX3_hasWord_11 : decode cX3_hasWord 11 = .ok (.iload_n 1, 1) := by decide +kernel
theorem dX3_hasWord_12 : decode cX3_hasWord 12 = .ok (.aload_n 0, 1) := by decide +kernel
theorem dX3_hasWord_13 : decode cX3_hasWord 13 = .ok (.getfield 29, 3) := by decide +kernel
theorem dX3_hasWord_16 : decode cX3_hasWord 16 = .ok (.if_icmp .ge 16, 3) := by decide +kernel
theorem dX3_hasWord_19 : decode cX3_hasWord 19 = .ok (.iload_n 1, 1) := by decide +kernel
theorem dX3_hasWord_20 : decode cX3_hasWord 20 = .ok (.aload_n 0, 1) := by decide +kernel
theorem dX3_hasWord_21 : decode cX3_hasWord 21 = .ok (.getfield 55, 3) := by decide +kernel
theorem dX3_hasWord_24 : decode cX3_hasWord 24 = .ok (.arraylength, 1) := by decide +kernel
theorem dX3_hasWord_25 : decode cX3_hasWord 25 = .ok (.if_icmp .ge 7, 3) := by decide +kernel
theorem dX3_hasWord_28 : decode cX3_hasWord 28 = .ok (.iconst 1, 1) := by decide +kernel
theorem dX3_hasWord_29 : decode cX3_hasWord 29 = .ok (.goto 4, 3) := by decide +kernel
theorem dX3_hasWord_32 : decode cX3_hasWord 32 = .ok (.iconst 0, 1) := by decide +kernel
theorem dX3_hasWord_33 : decode cX3_hasWord 33 = .ok (.ireturn, 1) := by decide +kernel
set_option maxRecDepth 20000 in
theorem ggX3_lettersOf_X3_hasWord : GoodIn wsX3_lettersOf wsX3_hasWord := goodIn_r _ [6, 7, 8, 1, 9, 10, 11, 12, 13, 14, 15, 16, 17, 18, 19, 20, 21, 22] (by decide +kernel) (by decide +kernel)
set_option maxRecDepth 20000 in
theorem gX3_lettersOf_X3_hasWord : GoodIn wsX3_lettersOf (wsV RX3 71 RX3 yX3_hasWord wsX3_hasWord) := goodIn_app (goodIn_of _ (by decide +kernel)) ggX3_lettersOf_X3_hasWord
theorem dX3_lettersOf_0 : decode cX3_lettersOf 0 = .ok (.aload_n 0, 1) := by decide +kernel
theorem dX3_lettersOf_1 : decode cX3_lettersOf 1 = .ok (.iload_n 1, 1) := by decide +kernel
theorem dX3_lettersOf_2 : decode cX3_lettersOf 2 = .ok (.invokevirtual 71, 3) := by decide +kernel
theorem dX3_lettersOf_5 : decode cX3_lettersOf 5 = .ok (.ifCond .eq 12, 3) := by decide +kernel
theorem dX3_lettersOf_8 : decode cX3_lettersOf 8 = .ok (.aload_n 0, 1) := by decide +kernel
theorem dX3_lettersOf_9 : decode cX3_lettersOf 9 = .ok (.getfield 55, 3) := by decide +kernel
theorem dX3_lettersOf_12 : decode cX3_lettersOf 12 = .ok (.iload_n 1, 1) := by decide +kernel
theorem dX3_lettersOf_13 : decode cX3_lettersOf 13 = .ok (.iaload, 1) := by decide +kernel
theorem dX3_lettersOf_14 : decode cX3_lettersOf 14 = .ok (.goto 4, 3) := by decide +kernel
theorem dX3_lettersOf_17 : decode cX3_lettersOf 17 = .ok (.iconst 0, 1) := by decide +kernel
theorem dX3_lettersOf_18 : decode cX3_lettersOf 18 = .ok (.ireturn, 1) := by decide +kernel
theorem dX3_declaredOf_0 : decode cX3_declaredOf 0 = .ok (.iload_n 1, 1) := by decide +kernel
theorem dX3_declaredOf_1 : decode cX3_declaredOf 1 = .ok (.ifCond .lt 21, 3) := by decide +kernel
theorem dX3_declaredOf_4 : decode cX3_declaredOf 4 = .ok (.iload_n 1, 1) := by decide +kernel
theorem dX3_declaredOf_5 : decode cX3_declaredOf 5 = .ok (.aload_n 0, 1) := by decide +kernel
theorem dX3_declaredOf_6 : decode cX3_declaredOf 6 = .ok (.getfield 59, 3) := by decide +kernel
theorem dX3_declaredOf_9 : decode cX3_declaredOf 9 = .ok (.arraylength, 1) := by decide +kernel
theorem dX3_declaredOf_10 : decode cX3_declaredOf 10 = .ok (.if_icmp .ge 12, 3) := by decide +kernel
theorem dX3_declaredOf_13 : decode cX3_declaredOf 13 = .ok (.aload_n 0, 1) := by decide +kernel
theorem dX3_declaredOf_14 : decode cX3_declaredOf 14 = .ok (.getfield 59, 3) := by decide +kernel
theorem dX3_declaredOf_17 : decode cX3_declaredOf 17 = .ok (.iload_n 1, 1) := by decide +kernel
theorem dX3_declaredOf_18 : decode cX3_declaredOf 18 = .ok (.iaload, 1) := by decide +kernel
theorem dX3_declaredOf_19 : decode cX3_declaredOf 19 = .ok (.goto 6, 3) := by decide +kernel
theorem dX3_declaredOf_22 : decode cX3_declaredOf 22 = .ok (.sipush 9998, 3) := by decide +kernel
theorem dX3_declaredOf_25 : decode cX3_declaredOf 25 = .ok (.ireturn, 1) := by decide +kernel
theorem dX3_setDeclared_0 : decode cX3_setDeclared 0 = .ok (.iload_n 1, 1) := by decide +kernel
theorem dX3_setDeclared_1 : decode cX3_setDeclared 1 = .ok (.ifCond .lt 19, 3) := by decide +kernel
theorem dX3_setDeclared_4 : decode cX3_setDeclared 4 = .ok (.iload_n 1, 1) := by decide +kernel
theorem dX3_setDeclared_5 : decode cX3_setDeclared 5 = .ok (.aload_n 0, 1) := by decide +kernel
theorem dX3_setDeclared_6 : decode cX3_setDeclared 6 = .ok (.getfield 59, 3) := by decide +kernel
theorem dX3_setDeclared_9 : decode cX3_setDeclared 9 = .ok (.arraylength, 1) := by decide +kernel
theorem dX3_setDeclared_10 : decode cX3_setDeclared 10 = .ok (.if_icmp .ge 10, 3) := by decide +kernel
theorem dX3_setDeclared_13 : decode cX3_setDeclared 13 = .ok (.aload_n 0, 1) := by decide +kernel
theorem dX3_setDeclared_14 : decode cX3_setDeclared 14 = .ok (.getfield 59, 3) := by decide +kernel
theorem dX3_setDeclared_17 : decode cX3_setDeclared 17 = .ok (.iload_n 1, 1) := by decide +kernel
theorem dX3_setDeclared_18 : decode cX3_setDeclared 18 = .ok (.iload_n 2, 1) := by decide +kernel
theorem dX3_setDeclared_19 : decode cX3_setDeclared 19 = .ok (.iastore, 1) := by decide +kernel
theorem dX3_setDeclared_20 : decode cX3_setDeclared 20 = .ok (.return_, 1) := by decide +kernel
theorem dX3_ancestors_0 : decode cX3_ancestors 0 = .ok (.iconst 0, 1) := by decide +kernel
theorem dX3_ancestors_1 : decode cX3_ancestors 1 = .ok (.istore_n 1, 1) := by decide +kernel
theorem dX3_ancestors_2 : decode cX3_ancestors 2 = .ok (.aload_n 0, 1) := by decide +kernel
theorem dX3_ancestors_3 : decode cX3_ancestors 3 = .ok (.getfield 25, 3) := by decide +kernel
theorem dX3_ancestors_6 : decode cX3_ancestors 6 = .ok (.astore_n 2, 1) := by decide +kernel
theorem dX3_ancestors_7 : decode cX3_ancestors 7 = .ok (.aload_n 2, 1) := by decide +kernel
theorem dX3_ancestors_8 : decode cX3_ancestors 8 = .ok (.ifnull 14, 3) := by decide +kernel
theorem dX3_ancestors_11 : decode cX3_ancestors 11 = .ok (.iinc 1 1, 3) := by decide +kernel
theorem dX3_ancestors_14 : decode cX3_ancestors 14 = .ok (.aload_n 2, 1) := by decide +kernel
theorem dX3_ancestors_15 : decode cX3_ancestors 15 = .ok (.getfield 25, 3) := by decide +kernel
theorem dX3_ancestors_18 : decode cX3_ancestors 18 = .ok (.astore_n 2, 1) := by decide +kernel
theorem dX3_ancestors_19 : decode cX3_ancestors 19 = .ok (.goto (-12), 3) := by decide +kernel
theorem dX3_ancestors_22 : decode cX3_ancestors 22 = .ok (.iload_n 1, 1) := by decide +kernel
theorem dX3_ancestors_23 : decode cX3_ancestors 23 = .ok (.ireturn, 1) := by decide +kernel
theorem dX3_isOrIsIn_0 : decode cX3_isOrIsIn 0 = .ok (.aload_n 0, 1) := by decide +kernel
theorem dX3_isOrIsIn_1 : decode cX3_isOrIsIn 1 = .ok (.astore_n 2, 1) := by decide +kernel
theorem dX3_isOrIsIn_2 : decode cX3_isOrIsIn 2 = .ok (.aload_n 2, 1) := by decide +kernel
theorem dX3_isOrIsIn_3 : decode cX3_isOrIsIn 3 = .ok (.ifnull 18, 3) := by decide +kernel
theorem dX3_isOrIsIn_6 : decode cX3_isOrIsIn 6 = .ok (.aload_n 2, 1) := by decide +kernel
theorem dX3_isOrIsIn_7 : decode cX3_isOrIsIn 7 = .ok (.aload_n 1, 1) := by decide +kernel
theorem dX3_isOrIsIn_8 : decode cX3_isOrIsIn 8 = .ok (.if_acmp .ne 5, 3) := by decide +kernel
theorem dX3_isOrIsIn_11 : decode cX3_isOrIsIn 11 = .ok (.iconst 1, 1) := by decide +kernel
theorem dX3_isOrIsIn_12 : decode cX3_isOrIsIn 12 = .ok (.ireturn, 1) := by decide +kernel
theorem dX3_isOrIsIn_13 : decode cX3_isOrIsIn 13 = .ok (.aload_n 2, 1) := by decide +kernel
theorem dX3_isOrIsIn_14 : decode cX3_isOrIsIn 14 = .ok (.getfield 25, 3) := by decide +kernel
theorem dX3_isOrIsIn_17 : decode cX3_isOrIsIn 17 = .ok (.astore_n 2, 1) := by decide +kernel
theorem dX3_isOrIsIn_18 : decode cX3_isOrIsIn 18 = .ok (.goto (-16), 3) := by decide +kernel
theorem dX3_isOrIsIn_21 : decode cX3_isOrIsIn 21 = .ok (.iconst 0, 1) := by decide +kernel
theorem dX3_isOrIsIn_22 : decode cX3_isOrIsIn 22 = .ok (.ireturn, 1) := by decide +kernel
set_option maxRecDepth 20000 in
theorem ggX3_placeAmongSiblings_Jx4a65c_size_8abf5 : GoodIn wsX3_placeAmongSiblings wsJx4a65c_size_8abf5 := goodIn_r _ [7, 8, 40, 41, 42] (by decide +kernel) (by decide +kernel)
set_option maxRecDepth 20000 in
theorem gX3_placeAmongSiblings_Jx4a65c_size_8abf5 : GoodIn wsX3_placeAmongSiblings (wsV RX3 75 RJx4a65c yJx4a65c_size_8abf5 wsJx4a65c_size_8abf5) := goodIn_app (goodIn_of _ (by decide +kernel)) ggX3_placeAmongSiblings_Jx4a65c_size_8abf5
set_option maxRecDepth 20000 in
theorem ggX3_placeAmongSiblings_Jx4a65c_get_915e3 : GoodIn wsX3_placeAmongSiblings wsJx4a65c_get_915e3 := goodIn_r _ [12, 8, 13, 14, 15, 16, 17, 18, 19, 20, 21, 22, 23, 6, 24, 25, 40, 41, 42] (by decide +kernel) (by decide +kernel)
set_option maxRecDepth 20000 in
theorem gX3_placeAmongSiblings_Jx4a65c_get_915e3 : GoodIn wsX3_placeAmongSiblings (wsV RX3 79 RJx4a65c yJx4a65c_get_915e3 wsJx4a65c_get_915e3) := goodIn_app (goodIn_of _ (by decide +kernel)) ggX3_placeAmongSiblings_Jx4a65c_get_915e3
theorem dX3_placeAmongSiblings_0 : decode cX3_placeAmongSiblings 0 = .ok (.aload_n 0, 1) := by decide +kernel
theorem dX3_placeAmongSiblings_1 : decode cX3_placeAmongSiblings 1 = .ok (.getfield 25, 3) := by decide +kernel
theorem dX3_placeAmongSiblings_4 : decode cX3_placeAmongSiblings 4 = .ok (.ifnull 42, 3) := by decide +kernel
theorem dX3_placeAmongSiblings_7 : decode cX3_placeAmongSiblings 7 = .ok (.iconst 0, 1) := by decide +kernel
theorem dX3_placeAmongSiblings_8 : decode cX3_placeAmongSiblings 8 = .ok (.istore_n 1, 1) := by decide +kernel
theorem dX3_placeAmongSiblings_9 : decode cX3_placeAmongSiblings 9 = .ok (.iload_n 1, 1) := by decide +kernel
theorem dX3_placeAmongSiblings_10 : decode cX3_placeAmongSiblings 10 = .ok (.aload_n 0, 1) := by decide +kernel
theorem dX3_placeAmongSiblings_11 : decode cX3_placeAmongSiblings 11 = .ok (.getfield 25, 3) := by decide +kernel
theorem dX3_placeAmongSiblings_14 : decode cX3_placeAmongSiblings 14 = .ok (.getfield 12, 3) := by decide +kernel
theorem dX3_placeAmongSiblings_17 : decode cX3_placeAmongSiblings 17 = .ok (.invokevirtual 75, 3) := by decide +kernel
theorem dX3_placeAmongSiblings_20 : decode cX3_placeAmongSiblings 20 = .ok (.if_icmp .ge 26, 3) := by decide +kernel
theorem dX3_placeAmongSiblings_23 : decode cX3_placeAmongSiblings 23 = .ok (.aload_n 0, 1) := by decide +kernel
theorem dX3_placeAmongSiblings_24 : decode cX3_placeAmongSiblings 24 = .ok (.getfield 25, 3) := by decide +kernel
theorem dX3_placeAmongSiblings_27 : decode cX3_placeAmongSiblings 27 = .ok (.getfield 12, 3) := by decide +kernel
theorem dX3_placeAmongSiblings_30 : decode cX3_placeAmongSiblings 30 = .ok (.iload_n 1, 1) := by decide +kernel
theorem dX3_placeAmongSiblings_31 : decode cX3_placeAmongSiblings 31 = .ok (.invokevirtual 79, 3) := by decide +kernel
theorem dX3_placeAmongSiblings_34 : decode cX3_placeAmongSiblings 34 = .ok (.aload_n 0, 1) := by decide +kernel
theorem dX3_placeAmongSiblings_35 : decode cX3_placeAmongSiblings 35 = .ok (.if_acmp .ne 5, 3) := by decide +kernel
theorem dX3_placeAmongSiblings_38 : decode cX3_placeAmongSiblings 38 = .ok (.iload_n 1, 1) := by decide +kernel
theorem dX3_placeAmongSiblings_39 : decode cX3_placeAmongSiblings 39 = .ok (.ireturn, 1) := by decide +kernel
theorem dX3_placeAmongSiblings_40 : decode cX3_placeAmongSiblings 40 = .ok (.iinc 1 1, 3) := by decide +kernel
theorem dX3_placeAmongSiblings_43 : decode cX3_placeAmongSiblings 43 = .ok (.goto (-34), 3) := by decide +kernel
theorem dX3_placeAmongSiblings_46 : decode cX3_placeAmongSiblings 46 = .ok (.iconst (-1), 1) := by decide +kernel
theorem dX3_placeAmongSiblings_47 : decode cX3_placeAmongSiblings 47 = .ok (.ireturn, 1) := by decide +kernel
theorem dX5_init_0 : decode cX5_init 0 = .ok (.aload_n 0, 1) := by decide +kernel
theorem dX5_init_1 : decode cX5_init 1 = .ok (.invokespecial 3, 3) := by decide +kernel
theorem dX5_init_4 : decode cX5_init 4 = .ok (.aload_n 0, 1) := by decide +kernel
theorem dX5_init_5 : decode cX5_init 5 = .ok (.iconst 3, 1) := by decide +kernel
theorem dX5_init_6 : decode cX5_init 6 = .ok (.newarray .int, 2) := by decide +kernel
theorem dX5_init_8 : decode cX5_init 8 = .ok (.putfield 9, 3) := by decide +kernel
theorem dX5_init_11 : decode cX5_init 11 = .ok (.aload_n 0, 1) := by decide +kernel
theorem dX5_init_12 : decode cX5_init 12 = .ok (.iconst 3, 1) := by decide +kernel
theorem dX5_init_13 : decode cX5_init 13 = .ok (.newarray .int, 2) := by decide +kernel
theorem dX5_init_15 : decode cX5_init 15 = .ok (.putfield 15, 3) := by decide +kernel
theorem dX5_init_18 : decode cX5_init 18 = .ok (.aload_n 0, 1) := by decide +kernel
theorem dX5_init_19 : decode cX5_init 19 = .ok (.iconst 3, 1) := by decide +kernel
theorem dX5_init_20 : decode cX5_init 20 = .ok (.newarray .int, 2) := by decide +kernel
theorem dX5_init_22 : decode cX5_init 22 = .ok (.putfield 18, 3) := by decide +kernel
theorem dX5_init_25 : decode cX5_init 25 = .ok (.aload_n 0, 1) := by decide +kernel
theorem dX5_init_26 : decode cX5_init 26 = .ok (.iconst 3, 1) := by decide +kernel
theorem dX5_init_27 : decode cX5_init 27 = .ok (.newarray .boolean, 2) := by decide +kernel
theorem dX5_init_29 : decode cX5_init 29 = .ok (.putfield 21, 3) := by decide +kernel
theorem dX5_init_32 : decode cX5_init 32 = .ok (.aload_n 0, 1) := by decide +kernel
theorem dX5_init_33 : decode cX5_init 33 = .ok (.iconst 0, 1) := by decide +kernel
theorem dX5_init_34 : decode cX5_init 34 = .ok (.putfield 25, 3) := by decide +kernel
theorem dX5_init_37 : decode cX5_init 37 = .ok (.aload_n 0, 1) := by decide +kernel
theorem dX5_init_38 : decode cX5_init 38 = .ok (.iconst 0, 1) := by decide +kernel
theorem dX5_init_39 : decode cX5_init 39 = .ok (.putfield 29, 3) := by decide +kernel
theorem dX5_init_42 : decode cX5_init 42 = .ok (.aload_n 0, 1) := by decide +kernel
theorem dX5_init_43 : decode cX5_init 43 = .ok (.iconst 1, 1) := by decide +kernel
theorem dX5_init_44 : decode cX5_init 44 = .ok (.putfield 32, 3) := by decide +kernel
theorem dX5_init_47 : decode cX5_init 47 = .ok (.aload_n 0, 1) := by decide +kernel
theorem dX5_init_48 : decode cX5_init 48 = .ok (.iload_n 1, 1) := by decide +kernel
theorem dX5_init_49 : decode cX5_init 49 = .ok (.putfield 36, 3) := by decide +kernel
theorem dX5_init_52 : decode cX5_init 52 = .ok (.aload_n 0, 1) := by decide +kernel
theorem dX5_init_53 : decode cX5_init 53 = .ok (.iload_n 2, 1) := by decide +kernel
theorem dX5_init_54 : decode cX5_init 54 = .ok (.putfield 39, 3) := by decide +kernel
theorem dX5_init_57 : decode cX5_init 57 = .ok (.aload_n 0, 1) := by decide +kernel
theorem dX5_init_58 : decode cX5_init 58 = .ok (.iload_n 3, 1) := by decide +kernel
theorem dX5_init_59 : decode cX5_init 59 = .ok (.putfield 42, 3) := by decide +kernel
theorem dX5_init_62 : decode cX5_init 62 = .ok (.return_, 1) := by decide +kernel
theorem dX5_takePart_0 : decode cX5_takePart 0 = .ok (.aload_n 0, 1) := by decide +kernel
theorem dX5_takePart_1 : decode cX5_takePart 1 = .ok (.getfield 25, 3) := by decide +kernel
theorem dX5_takePart_4 : decode cX5_takePart 4 = .ok (.ifCond .lt 11, 3) := by decide +kernel
theorem dX5_takePart_7 : decode cX5_takePart 7 = .ok (.aload_n 0, 1) := by decide +kernel
theorem dX5_takePart_8 : decode cX5_takePart 8 = .ok (.getfield 25, 3) := by decide +kernel
theorem dX5_takePart_11 : decode cX5_takePart 11 = .ok (.iconst 3, 1) := by decide +kernel
theorem dX5_takePart_12 : decode cX5_takePart 12 = .ok (.if_icmp .lt 4, 3) := by decide +kernel
theorem dX5_takePart_15 : decode cX5_takePart 15 = .ok (.return_, 1) := by decide +kernel
theorem dX5_takePart_16 : decode cX5_takePart 16 = .ok (.aload_n 0, 1) := by decide +kernel
theorem dX5_takePart_17 : decode cX5_takePart 17 = .ok (.getfield 9, 3) := by decide +kernel
theorem dX5_takePart_20 : decode cX5_takePart 20 = .ok (.aload_n 0, 1) := by decide +kernel
theorem dX5_takePart_21 : decode cX5_takePart 21 = .ok (.getfield 25, 3) := by decide +kernel
theorem dX5_takePart_24 : decode cX5_takePart 24 = .ok (.iload_n 1, 1) := by decide +kernel
theorem dX5_takePart_25 : decode cX5_takePart 25 = .ok (.iastore, 1) := by decide +kernel
theorem dX5_takePart_26 : decode cX5_takePart 26 = .ok (.aload_n 0, 1) := by decide +kernel
theorem dX5_takePart_27 : decode cX5_takePart 27 = .ok (.getfield 15, 3) := by decide +kernel
theorem dX5_takePart_30 : decode cX5_takePart 30 = .ok (.aload_n 0, 1) := by decide +kernel
theorem dX5_takePart_31 : decode cX5_takePart 31 = .ok (.getfield 25, 3) := by decide +kernel
theorem dX5_takePart_34 : decode cX5_takePart 34 = .ok (.iload_n 2, 1) := by decide +kernel
theorem dX5_takePart_35 : decode cX5_takePart 35 = .ok (.ifCond .lt 15, 3) := by decide +kernel
theorem dX5_takePart_38 : decode cX5_takePart 38 = .ok (.iload_n 2, 1) := by decide +kernel
theorem dX5_takePart_39 : decode cX5_takePart 39 = .ok (.bipush 7, 2) := by decide +kernel
theorem dX5_takePart_41 : decode cX5_takePart 41 = .ok (.if_icmp .gt 9, 3) := by decide +kernel
theorem dX5_takePart_44 : decode cX5_takePart 44 = .ok (.iconst 1, 1) := by decide +kernel
theorem dX5_takePart_45 : decode cX5_takePart 45 = .ok (.iload_n 2, 1) := by decide +kernel
theorem dX5_takePart_46 : decode cX5_takePart 46 = .ok (.ishl, 1) := by decide +kernel
theorem dX5_takePart_47 : decode cX5_takePart 47 = .ok (.goto 4, 3) := by decide +kernel
theorem dX5_takePart_50 : decode cX5_takePart 50 = .ok (.iconst 0, 1) := by decide +kernel
theorem dX5_takePart_51 : decode cX5_takePart 51 = .ok (.iastore, 1) := by decide +kernel
theorem dX5_takePart_52 : decode cX5_takePart 52 = .ok (.aload_n 0, 1) := by decide +kernel
theorem dX5_takePart_53 : decode cX5_takePart 53 = .ok (.getfield 18, 3) := by decide +kernel
theorem dX5_takePart_56 : decode cX5_takePart 56 = .ok (.aload_n 0, 1) := by decide +kernel
theorem dX5_takePart_57 : decode cX5_takePart 57 = .ok (.getfield 25, 3) := by decide +kernel
theorem dX5_takePart_60 : decode cX5_takePart 60 = .ok (.iload_n 3, 1) := by decide +kernel
theorem dX5_takePart_61 : decode cX5_takePart 61 = .ok (.iastore, 1) := by decide +kernel
theorem dX5_takePart_62 : decode cX5_takePart 62 = .ok (.aload_n 0, 1) := by decide +kernel
theorem dX5_takePart_63 : decode cX5_takePart 63 = .ok (.getfield 21, 3) := by decide +kernel
theorem dX5_takePart_66 : decode cX5_takePart 66 = .ok (.aload_n 0, 1) := by decide +kernel
theorem dX5_takePart_67 : decode cX5_takePart 67 = .ok (.getfield 25, 3) := by decide +kernel
theorem dX5_takePart_70 : decode cX5_takePart 70 = .ok (.iload 4, 2) := by decide +kernel
theorem dX5_takePart_72 : decode cX5_takePart 72 = .ok (.bastore, 1) := by decide +kernel
theorem dX5_takePart_73 : decode cX5_takePart 73 = .ok (.aload_n 0, 1) := by decide +kernel
theorem dX5_takePart_74 : decode cX5_takePart 74 = .ok (.dup, 1) := by decide +kernel
theorem dX5_takePart_75 : decode cX5_takePart 75 = .ok (.getfield 25, 3) := by decide +kernel
theorem dX5_takePart_78 : decode cX5_takePart 78 = .ok (.iconst 1, 1) := by decide +kernel
theorem dX5_takePart_79 : decode cX5_takePart 79 = .ok (.iadd, 1) := by decide +kernel
theorem dX5_takePart_80 : decode cX5_takePart 80 = .ok (.putfield 25, 3) := by decide +kernel
theorem dX5_takePart_83 : decode cX5_takePart 83 = .ok (.aload_n 0, 1) := by decide +kernel
theorem dX5_takePart_84 : decode cX5_takePart 84 = .ok (.dup, 1) := by decide +kernel
theorem dX5_takePart_85 : decode cX5_takePart 85 = .ok (.getfield 29, 3) := by decide +kernel
theorem dX5_takePart_88 : decode cX5_takePart 88 = .ok (.iload_n 3, 1) := by decide +kernel
theorem dX5_takePart_89 : decode cX5_takePart 89 = .ok (.ifCond .eq 8, 3) := by decide +kernel
theorem dX5_takePart_92 : decode cX5_takePart 92 = .ok (.bipush 100, 2) := by decide +kernel
theorem dX5_takePart_94 : decode cX5_takePart 94 = .ok (.goto 4, 3) := by decide +kernel
theorem dX5_takePart_97 : decode cX5_takePart 97 = .ok (.iconst 0, 1) := by decide +kernel
theorem dX5_takePart_98 : decode cX5_takePart 98 = .ok (.iload_n 2, 1) := by decide +kernel
theorem dX5_takePart_99 : decode cX5_takePart 99 = .ok (.iconst (-1), 1) := by decide +kernel
theorem dX5_takePart_100 : decode cX5_takePart 100 = .ok (.if_icmp .eq 8, 3) := by decide +kernel
theorem dX5_takePart_103 : decode cX5_takePart 103 = .ok (.bipush 10, 2) := by decide +kernel
theorem dX5_takePart_105 : decode cX5_takePart 105 = .ok (.goto 4, 3) := by decide +kernel
theorem dX5_takePart_108 : decode cX5_takePart 108 = .ok (.iconst 0, 1) := by decide +kernel
theorem dX5_takePart_109 : decode cX5_takePart 109 = .ok (.iadd, 1) := by decide +kernel
theorem dX5_takePart_110 : decode cX5_takePart 110 = .ok (.iload_n 1, 1) := by decide +kernel
theorem dX5_takePart_111 : decode cX5_takePart 111 = .ok (.iconst (-1), 1) := by decide +kernel
theorem dX5_takePart_112 : decode cX5_takePart 112 = .ok (.if_icmp .eq 7, 3) := by decide +kernel
theorem dX5_takePart_115 : decode cX5_takePart 115 = .ok (.iconst 1, 1) := by decide +kernel
theorem dX5_takePart_116 : decode cX5_takePart 116 = .ok (.goto 4, 3) := by decide +kernel
theorem dX5_takePart_119 : decode cX5_takePart 119 = .ok (.iconst 0, 1) := by decide +kernel
theorem dX5_takePart_120 : decode cX5_takePart 120 = .ok (.iadd, 1) := by decide +kernel
theorem dX5_takePart_121 : decode cX5_takePart 121 = .ok (.iadd, 1) := by decide +kernel
theorem dX5_takePart_122 : decode cX5_takePart 122 = .ok (.putfield 29, 3) := by decide +kernel
theorem dX5_takePart_125 : decode cX5_takePart 125 = .ok (.return_, 1) := by decide +kernel
set_option maxRecDepth 20000 in
theorem ggX5_selects_X5_fitsUpTo : GoodIn wsX5_selects wsX5_fitsUpTo := goodIn_r _ [6, 7, 8, 9, 10, 11, 5, 12, 2, 13, 14, 15, 16, 17, 18, 3, 4, 19, 20, 21, 22, 23, 24, 25, 26, 27, 28, 29, 30, 31, 32, 33, 34, 35, 36, 37, 38, 39, 40, 41, 42] (by decide +kernel) (by decide +kernel)
set_option maxRecDepth 20000 in
theorem gX5_selects_X5_fitsUpTo : GoodIn wsX5_selects (va_wsS RX5 50 yX5_fitsUpTo wsX5_fitsUpTo) := goodIn_app (goodIn_of _ (by decide +kernel)) ggX5_selects_X5_fitsUpTo
theorem dX5_selects_0 : decode cX5_selects 0 = .ok (.aload_n 1, 1) := by decide +kernel
theorem dX5_selects_1 : decode cX5_selects 1 = .ok (.getfield 45, 3) := by decide +kernel
theorem dX5_selects_4 : decode cX5_selects 4 = .ok (.ifCond .ne 28, 3) := by decide +kernel
theorem dX5_selects_7 : decode cX5_selects 7 = .ok (.aload_n 0, 1) := by decide +kernel
theorem dX5_selects_8 : decode cX5_selects 8 = .ok (.getfield 25, 3) := by decide +kernel
theorem dX5_selects_11 : decode cX5_selects 11 = .ok (.ifCond .le 21, 3) := by decide +kernel
theorem dX5_selects_14 : decode cX5_selects 14 = .ok (.aload_n 0, 1) := by decide +kernel
theorem dX5_selects_15 : decode cX5_selects 15 = .ok (.aload_n 0, 1) := by decide +kernel
theorem dX5_selects_16 : decode cX5_selects 16 = .ok (.getfield 25, 3) := by decide +kernel
theorem dX5_selects_19 : decode cX5_selects 19 = .ok (.iconst 1, 1) := by decide +kernel
theorem dX5_selects_20 : decode cX5_selects 20 = .ok (.isub, 1) := by decide +kernel
theorem dX5_selects_21 : decode cX5_selects 21 = .ok (.aload_n 1, 1) := by decide +kernel
theorem dX5_selects_22 : decode cX5_selects 22 = .ok (.invokestatic 50, 3) := by decide +kernel
theorem dX5_selects_25 : decode cX5_selects 25 = .ok (.ifCond .eq 7, 3) := by decide +kernel
theorem dX5_selects_28 : decode cX5_selects 28 = .ok (.iconst 1, 1) := by decide +kernel
theorem dX5_selects_29 : decode cX5_selects 29 = .ok (.goto 4, 3) := by decide +kernel
theorem dX5_selects_32 : decode cX5_selects 32 = .ok (.iconst 0, 1) := by decide +kernel
theorem dX5_selects_33 : decode cX5_selects 33 = .ok (.ireturn, 1) := by decide +kernel
set_option maxRecDepth 20000 in
theorem ggX5_fitsUpTo_X5_fits : GoodIn wsX5_fitsUpTo wsX5_fits := goodIn_r _ [7, 8, 9, 10, 11, 12, 13, 14, 31, 32, 33, 34, 35, 36, 37, 38, 39, 40, 17, 18, 19, 20, 21, 22, 23, 24, 25, 26, 27, 28, 29, 30] (by decide +kernel) (by decide +kernel)
set_option maxRecDepth 20000 in
theorem gX5_fitsUpTo_X5_fits : GoodIn wsX5_fitsUpTo (wsV RX5 54 RX5 yX5_fits wsX5_fits) := goodIn_app (goodIn_of _ (by decide +kernel)) ggX5_fitsUpTo_X5_fits
set_option maxRecDepth 20000 in
theorem ggX5_fitsUpTo_X5_fitsUpTo : GoodIn wsX5_fitsUpTo wsX5_fitsUpTo := goodIn_r _ [0, 1, 2, 3, 4, 5, 6, 7, 8, 9, 10, 11, 12, 13, 14, 15, 16, 17, 18, 19, 20, 21, 22, 23, 24, 25, 26, 27, 28, 29, 30, 31, 32, 33, 34, 35, 36, 37, 38, 39, 40] (by decide +kernel) (by decide +kernel)
set_option maxRecDepth 20000 in
theorem gX5_fitsUpTo_X5_fitsUpTo : GoodIn wsX5_fitsUpTo (va_wsS RX5 50 yX5_fitsUpTo wsX5_fitsUpTo) := goodIn_app (goodIn_of _ (by decide +kernel)) ggX5_fitsUpTo_X5_fitsUpTo
theorem dX5_fitsUpTo_0 : decode cX5_fitsUpTo 0 = .ok (.aload_n 0, 1) := by decide +kernel
theorem dX5_fitsUpTo_1 : decode cX5_fitsUpTo 1 = .ok (.iload_n 1, 1) := by decide +kernel
theorem dX5_fitsUpTo_2 : decode cX5_fitsUpTo 2 = .ok (.aload_n 2, 1) := by decide +kernel
theorem dX5_fitsUpTo_3 : decode cX5_fitsUpTo 3 = .ok (.invokevirtual 54, 3) := by decide +kernel
theorem dX5_fitsUpTo_6 : decode cX5_fitsUpTo 6 = .ok (.ifCond .ne 5, 3) := by decide +kernel
theorem dX5_fitsUpTo_9 : decode cX5_fitsUpTo 9 = .ok (.iconst 0, 1) := by decide +kernel
theorem dX5_fitsUpTo_10 : decode cX5_fitsUpTo 10 = .ok (.ireturn, 1) := by decide +kernel
theorem dX5_fitsUpTo_11 : decode cX5_fitsUpTo 11 = .ok (.iload_n 1, 1) := by decide +kernel
theorem dX5_fitsUpTo_12 : decode cX5_fitsUpTo 12 = .ok (.ifCond .ne 5, 3) := by decide +kernel
theorem dX5_fitsUpTo_15 : decode cX5_fitsUpTo 15 = .ok (.iconst 1, 1) := by decide +kernel
theorem dX5_fitsUpTo_16 : decode cX5_fitsUpTo 16 = .ok (.ireturn, 1) := by decide +kernel
theorem dX5_fitsUpTo_17 : decode cX5_fitsUpTo 17 = .ok (.aload_n 2, 1) := by decide +kernel
theorem dX5_fitsUpTo_18 : decode cX5_fitsUpTo 18 = .ok (.getfield 58, 3) := by decide +kernel
theorem dX5_fitsUpTo_21 : decode cX5_fitsUpTo 21 = .ok (.astore_n 3, 1) := by decide +kernel
theorem dX5_fitsUpTo_22 : decode cX5_fitsUpTo 22 = .ok (.aload_n 3, 1) := by decide +kernel
theorem dX5_fitsUpTo_23 : decode cX5_fitsUpTo 23 = .ok (.ifnull 35, 3) := by decide +kernel
theorem dX5_fitsUpTo_26 : decode cX5_fitsUpTo 26 = .ok (.aload_n 0, 1) := by decide +kernel
theorem dX5_fitsUpTo_27 : decode cX5_fitsUpTo 27 = .ok (.iload_n 1, 1) := by decide +kernel
theorem dX5_fitsUpTo_28 : decode cX5_fitsUpTo 28 = .ok (.iconst 1, 1) := by decide +kernel
theorem dX5_fitsUpTo_29 : decode cX5_fitsUpTo 29 = .ok (.isub, 1) := by decide +kernel
theorem dX5_fitsUpTo_30 : decode cX5_fitsUpTo 30 = .ok (.aload_n 3, 1) := by decide +kernel
theorem dX5_fitsUpTo_31 : decode cX5_fitsUpTo 31 = .ok (.invokestatic 50, 3) := by decide +kernel
theorem dX5_fitsUpTo_34 : decode cX5_fitsUpTo 34 = .ok (.ifCond .eq 5, 3) := by decide +kernel
theorem dX5_fitsUpTo_37 : decode cX5_fitsUpTo 37 = .ok (.iconst 1, 1) := by decide +kernel
theorem dX5_fitsUpTo_38 : decode cX5_fitsUpTo 38 = .ok (.ireturn, 1) := by decide +kernel
theorem dX5_fitsUpTo_39 : decode cX5_fitsUpTo 39 = .ok (.aload_n 0, 1) := by decide +kernel
theorem dX5_fitsUpTo_40 : decode cX5_fitsUpTo 40 = .ok (.getfield 21, 3) := by decide +kernel
theorem dX5_fitsUpTo_43 : decode cX5_fitsUpTo 43 = .ok (.iload_n 1, 1) := by decide +kernel
theorem dX5_fitsUpTo_44 : decode cX5_fitsUpTo 44 = .ok (.baload, 1) := by decide +kernel
theorem dX5_fitsUpTo_45 : decode cX5_fitsUpTo 45 = .ok (.ifCond .eq 5, 3) := by decide +kernel
theorem dX5_fitsUpTo_48 : decode cX5_fitsUpTo 48 = .ok (.iconst 0, 1) := by decide +kernel
theorem dX5_fitsUpTo_49 : decode cX5_fitsUpTo 49 = .ok (.ireturn, 1) := by decide +kernel
theorem dX5_fitsUpTo_50 : decode cX5_fitsUpTo 50 = .ok (.aload_n 3, 1) := by decide +kernel
theorem dX5_fitsUpTo_51 : decode cX5_fitsUpTo 51 = .ok (.getfield 58, 3) := by decide +kernel
theorem dX5_fitsUpTo_54 : decode cX5_fitsUpTo 54 = .ok (.astore_n 3, 1) := by decide +kernel
theorem dX5_fitsUpTo_55 : decode cX5_fitsUpTo 55 = .ok (.goto (-33), 3) := by decide +kernel
theorem dX5_fitsUpTo_58 : decode cX5_fitsUpTo 58 = .ok (.iconst 0, 1) := by decide +kernel
theorem dX5_fitsUpTo_59 : decode cX5_fitsUpTo 59 = .ok (.ireturn, 1) := by decide +kernel
theorem dX5_fits_0 : decode cX5_fits 0 = .ok (.iload_n 1, 1) := by decide +kernel
theorem dX5_fits_1 : decode cX5_fits 1 = .ok (.ifCond .lt 16, 3) := by decide +kernel
theorem dX5_fits_4 : decode cX5_fits 4 = .ok (.iload_n 1, 1) := by decide +kernel
theorem dX5_fits_5 : decode cX5_fits 5 = .ok (.aload_n 0, 1) := by decide +kernel
theorem dX5_fits_6 : decode cX5_fits 6 = .ok (.getfield 25, 3) := by decide +kernel
theorem dX5_fits_9 : decode cX5_fits 9 = .ok (.if_icmp .ge 8, 3) := by decide +kernel
theorem dX5_fits_12 : decode cX5_fits 12 = .ok (.iload_n 1, 1) := by decide +kernel
theorem dX5_fits_13 : decode cX5_fits 13 = .ok (.iconst 3, 1) := by decide +kernel
theorem dX5_fits_14 : decode cX5_fits 14 = .ok (.if_icmp .lt 5, 3) := by decide +kernel
theorem dX5_fits_17 : decode cX5_fits 17 = .ok (.iconst 0, 1) := by decide +kernel
theorem dX5_fits_18 : decode cX5_fits 18 = .ok (.ireturn, 1) := by decide +kernel
theorem dX5_fits_19 : decode cX5_fits 19 = .ok (.aload_n 0, 1) := by decide +kernel
theorem dX5_fits_20 : decode cX5_fits 20 = .ok (.getfield 9, 3) := by decide +kernel
theorem dX5_fits_23 : decode cX5_fits 23 = .ok (.iload_n 1, 1) := by decide +kernel
theorem dX5_fits_24 : decode cX5_fits 24 = .ok (.iaload, 1) := by decide +kernel
theorem dX5_fits_25 : decode cX5_fits 25 = .ok (.iconst (-1), 1) := by decide +kernel
theorem dX5_fits_26 : decode cX5_fits 26 = .ok (.if_icmp .eq 16, 3) := by decide +kernel
theorem dX5_fits_29 : decode cX5_fits 29 = .ok (.aload_n 0, 1) := by decide +kernel
theorem dX5_fits_30 : decode cX5_fits 30 = .ok (.getfield 9, 3) := by decide +kernel
theorem dX5_fits_33 : decode cX5_fits 33 = .ok (.iload_n 1, 1) := by decide +kernel
theorem dX5_fits_34 : decode cX5_fits 34 = .ok (.iaload, 1) := by decide +kernel
theorem dX5_fits_35 : decode cX5_fits 35 = .ok (.aload_n 2, 1) := by decide +kernel
theorem dX5_fits_36 : decode cX5_fits 36 = .ok (.getfield 62, 3) := by decide +kernel
theorem dX5_fits_39 : decode cX5_fits 39 = .ok (.if_icmp .ne 7, 3) := by decide +kernel
theorem dX5_fits_42 : decode cX5_fits 42 = .ok (.iconst 1, 1) := by decide +kernel
theorem dX5_fits_43 : decode cX5_fits 43 = .ok (.goto 4, 3) := by decide +kernel
theorem dX5_fits_46 : decode cX5_fits 46 = .ok (.iconst 0, 1) := by decide +kernel
theorem dX5_fits_47 : decode cX5_fits 47 = .ok (.istore_n 3, 1) := by decide +kernel
theorem dX5_fits_48 : decode cX5_fits 48 = .ok (.aload_n 2, 1) := by decide +kernel
theorem dX5_fits_49 : decode cX5_fits 49 = .ok (.getfield 65, 3) := by decide +kernel
theorem dX5_fits_52 : decode cX5_fits 52 = .ok (.aload_n 0, 1) := by decide +kernel
theorem dX5_fits_53 : decode cX5_fits 53 = .ok (.getfield 15, 3) := by decide +kernel
theorem dX5_fits_56 : decode cX5_fits 56 = .ok (.iload_n 1, 1) := by decide +kernel
theorem dX5_fits_57 : decode cX5_fits 57 = .ok (.iaload, 1) := by decide +kernel
theorem dX5_fits_58 : decode cX5_fits 58 = .ok (.iand, 1) := by decide +kernel
theorem dX5_fits_59 : decode cX5_fits 59 = .ok (.aload_n 0, 1) := by decide +kernel
theorem dX5_fits_60 : decode cX5_fits 60 = .ok (.getfield 15, 3) := by decide +kernel
theorem dX5_fits_63 : decode cX5_fits 63 = .ok (.iload_n 1, 1) := by decide +kernel
theorem dX5_fits_64 : decode cX5_fits 64 = .ok (.iaload, 1) := by decide +kernel
theorem dX5_fits_65 : decode cX5_fits 65 = .ok (.if_icmp .ne 7, 3) := by decide +kernel
theorem dX5_fits_68 : decode cX5_fits 68 = .ok (.iconst 1, 1) := by decide +kernel
theorem dX5_fits_69 : decode cX5_fits 69 = .ok (.goto 4, 3) := by decide +kernel
theorem dX5_fits_72 : decode cX5_fits 72 = .ok (.iconst 0, 1) := by decide +kernel
theorem dX5_fits_73 : decode cX5_fits 73 = .ok (.istore 4, 2) := by decide +kernel
theorem dX5_fits_75 : decode cX5_fits 75 = .ok (.aload_n 0, 1) := by decide +kernel
theorem dX5_fits_76 : decode cX5_fits 76 = .ok (.getfield 18, 3) := by decide +kernel
theorem dX5_fits_79 : decode cX5_fits 79 = .ok (.iload_n 1, 1) := by decide +kernel
theorem dX5_fits_80 : decode cX5_fits 80 = .ok (.iaload, 1) := by decide +kernel
theorem dX5_fits_81 : decode cX5_fits 81 = .ok (.ifCond .eq 16, 3) := by decide +kernel
theorem dX5_fits_84 : decode cX5_fits 84 = .ok (.aload_n 0, 1) := by decide +kernel
theorem dX5_fits_85 : decode cX5_fits 85 = .ok (.getfield 18, 3) := by decide +kernel
theorem dX5_fits_88 : decode cX5_fits 88 = .ok (.iload_n 1, 1) := by decide +kernel
theorem dX5_fits_89 : decode cX5_fits 89 = .ok (.iaload, 1) := by decide +kernel
theorem dX5_fits_90 : decode cX5_fits 90 = .ok (.aload_n 2, 1) := by decide +kernel
theorem dX5_fits_91 : decode cX5_fits 91 = .ok (.getfield 68, 3) := by decide +kernel
theorem dX5_fits_94 : decode cX5_fits 94 = .ok (.if_icmp .ne 7, 3) := by decide +kernel
theorem dX5_fits_97 : decode cX5_fits 97 = .ok (.iconst 1, 1) := by decide +kernel
theorem dX5_fits_98 : decode cX5_fits 98 = .ok (.goto 4, 3) := by decide +kernel
theorem dX5_fits_101 : decode cX5_fits 101 = .ok (.iconst 0, 1) := by decide +kernel
theorem dX5_fits_102 : decode cX5_fits 102 = .ok (.istore 5, 2) := by decide +kernel
theorem dX5_fits_104 : decode cX5_fits 104 = .ok (.iload_n 3, 1) := by decide +kernel
theorem dX5_fits_105 : decode cX5_fits 105 = .ok (.ifCond .eq 17, 3) := by decide +kernel
theorem dX5_fits_108 : decode cX5_fits 108 = .ok (.iload 4, 2) := by decide +kernel
theorem dX5_fits_110 : decode cX5_fits 110 = .ok (.ifCond .eq 12, 3) := by decide +kernel
theorem dX5_fits_113 : decode cX5_fits 113 = .ok (.iload 5, 2) := by decide +kernel
theorem dX5_fits_115 : decode cX5_fits 115 = .ok (.ifCond .eq 7, 3) := by decide +kernel
theorem dX5_fits_118 : decode cX5_fits 118 = .ok (.iconst 1, 1) := by decide +kernel
theorem dX5_fits_119 : decode cX5_fits 119 = .ok (.goto 4, 3) := by decide +kernel
theorem dX5_fits_122 : decode cX5_fits 122 = .ok (.iconst 0, 1) := by decide +kernel
theorem dX5_fits_123 : decode cX5_fits 123 = .ok (.ireturn, 1) := by decide +kernel
theorem dX6_init_0 : decode cX6_init 0 = .ok (.aload_n 0, 1) := by decide +kernel
theorem dX6_init_1 : decode cX6_init 1 = .ok (.invokespecial 3, 3) := by decide +kernel
theorem dX6_init_4 : decode cX6_init 4 = .ok (.aload_n 0, 1) := by decide +kernel
theorem dX6_init_5 : decode cX6_init 5 = .ok (.bipush 40, 2) := by decide +kernel
theorem dX6_init_7 : decode cX6_init 7 = .ok (.bipush 14, 2) := by decide +kernel
theorem dX6_init_9 : decode cX6_init 9 = .ok (.multianewarray 9 2, 4) := by decide +kernel
theorem dX6_init_13 : decode cX6_init 13 = .ok (.putfield 11, 3) := by decide +kernel
theorem dX6_init_16 : decode cX6_init 16 = .ok (.aload_n 0, 1) := by decide +kernel
theorem dX6_init_17 : decode cX6_init 17 = .ok (.bipush 40, 2) := by decide +kernel
theorem dX6_init_19 : decode cX6_init 19 = .ok (.bipush 14, 2) := by decide +kernel
theorem dX6_init_21 : decode cX6_init 21 = .ok (.multianewarray 9 2, 4) := by decide +kernel
theorem dX6_init_25 : decode cX6_init 25 = .ok (.putfield 16, 3) := by decide +kernel
theorem dX6_init_28 : decode cX6_init 28 = .ok (.aload_n 0, 1) := by decide +kernel
theorem dX6_init_29 : decode cX6_init 29 = .ok (.iconst 0, 1) := by decide +kernel
theorem dX6_init_30 : decode cX6_init 30 = .ok (.putfield 19, 3) := by decide +kernel
theorem dX6_init_33 : decode cX6_init 33 = .ok (.return_, 1) := by decide +kernel
theorem dX6_of_0 : decode cX6_of 0 = .ok (.aload_n 1, 1) := by decide +kernel
theorem dX6_of_1 : decode cX6_of 1 = .ok (.getfield 23, 3) := by decide +kernel
theorem dX6_of_4 : decode cX6_of 4 = .ok (.istore_n 3, 1) := by decide +kernel
theorem dX6_of_5 : decode cX6_of 5 = .ok (.iload_n 3, 1) := by decide +kernel
theorem dX6_of_6 : decode cX6_of 6 = .ok (.ifCond .lt 23, 3) := by decide +kernel
theorem dX6_of_9 : decode cX6_of 9 = .ok (.iload_n 3, 1) := by decide +kernel
theorem dX6_of_10 : decode cX6_of 10 = .ok (.bipush 40, 2) := by decide +kernel
theorem dX6_of_12 : decode cX6_of 12 = .ok (.if_icmp .ge 17, 3) := by decide +kernel
theorem dX6_of_15 : decode cX6_of 15 = .ok (.iload_n 2, 1) := by decide +kernel
theorem dX6_of_16 : decode cX6_of 16 = .ok (.ifCond .lt 13, 3) := by decide +kernel
theorem dX6_of_19 : decode cX6_of 19 = .ok (.iload_n 2, 1) := by decide +kernel
theorem dX6_of_20 : decode cX6_of 20 = .ok (.bipush 14, 2) := by decide +kernel
theorem dX6_of_22 : decode cX6_of 22 = .ok (.if_icmp .ge 7, 3) := by decide +kernel
theorem dX6_of_25 : decode cX6_of 25 = .ok (.iconst 1, 1) := by decide +kernel
theorem dX6_of_26 : decode cX6_of 26 = .ok (.goto 4, 3) := by decide +kernel
theorem dX6_of_29 : decode cX6_of 29 = .ok (.iconst 0, 1) := by decide +kernel
theorem dX6_of_30 : decode cX6_of 30 = .ok (.istore 4, 2) := by decide +kernel
theorem dX6_of_32 : decode cX6_of 32 = .ok (.iload 4, 2) := by decide +kernel
theorem dX6_of_34 : decode cX6_of 34 = .ok (.ifCond .eq 14, 3) := by decide +kernel
theorem dX6_of_37 : decode cX6_of 37 = .ok (.aload_n 0, 1) := by decide +kernel
theorem dX6_of_38 : decode cX6_of 38 = .ok (.getfield 11, 3) := by decide +kernel
theorem dX6_of_41 : decode cX6_of 41 = .ok (.iload_n 3, 1) := by decide +kernel
theorem dX6_of_42 : decode cX6_of 42 = .ok (.aaload, 1) := by decide +kernel
theorem dX6_of_43 : decode cX6_of 43 = .ok (.iload_n 2, 1) := by decide +kernel
theorem dX6_of_44 : decode cX6_of 44 = .ok (.iaload, 1) := by decide +kernel
theorem dX6_of_45 : decode cX6_of 45 = .ok (.goto 4, 3) := by decide +kernel
theorem dX6_of_48 : decode cX6_of 48 = .ok (.iconst 0, 1) := by decide +kernel
theorem dX6_of_49 : decode cX6_of 49 = .ok (.ireturn, 1) := by decide +kernel
set_option maxRecDepth 20000 in
theorem ggX6_reasonOf_X6_isKept : GoodIn wsX6_reasonOf wsX6_isKept := goodIn_r _ [6, 2, 7, 8, 9, 13, 14, 15, 16, 17, 18, 19, 20, 21, 22, 23, 24, 25, 26] (by decide +kernel) (by decide +kernel)
set_option maxRecDepth 20000 in
theorem gX6_reasonOf_X6_isKept : GoodIn wsX6_reasonOf (va_wsS RX6 29 yX6_isKept wsX6_isKept) := goodIn_app (goodIn_of _ (by decide +kernel)) ggX6_reasonOf_X6_isKept
theorem dX6_reasonOf_0 : decode cX6_reasonOf 0 = .ok (.aload_n 1, 1) := by decide +kernel
theorem dX6_reasonOf_1 : decode cX6_reasonOf 1 = .ok (.iload_n 2, 1) := by decide +kernel
theorem dX6_reasonOf_2 : decode cX6_reasonOf 2 = .ok (.invokestatic 29, 3) := by decide +kernel
theorem dX6_reasonOf_5 : decode cX6_reasonOf 5 = .ok (.ifCond .eq 17, 3) := by decide +kernel
theorem dX6_reasonOf_8 : decode cX6_reasonOf 8 = .ok (.aload_n 0, 1) := by decide +kernel
theorem dX6_reasonOf_9 : decode cX6_reasonOf 9 = .ok (.getfield 16, 3) := by decide +kernel
theorem dX6_reasonOf_12 : decode cX6_reasonOf 12 = .ok (.aload_n 1, 1) := by decide +kernel
theorem dX6_reasonOf_13 : decode cX6_reasonOf 13 = .ok (.getfield 23, 3) := by decide +kernel
theorem dX6_reasonOf_16 : decode cX6_reasonOf 16 = .ok (.aaload, 1) := by decide +kernel
theorem dX6_reasonOf_17 : decode cX6_reasonOf 17 = .ok (.iload_n 2, 1) := by decide +kernel
theorem dX6_reasonOf_18 : decode cX6_reasonOf 18 = .ok (.iaload, 1) := by decide +kernel
theorem dX6_reasonOf_19 : decode cX6_reasonOf 19 = .ok (.goto 5, 3) := by decide +kernel
theorem dX6_reasonOf_22 : decode cX6_reasonOf 22 = .ok (.bipush (-3), 2) := by decide +kernel
theorem dX6_reasonOf_24 : decode cX6_reasonOf 24 = .ok (.ireturn, 1) := by decide +kernel
set_option maxRecDepth 20000 in
theorem ggX6_differFor_X6_of : GoodIn wsX6_differFor wsX6_of := goodIn_r _ [5, 6, 7, 8, 9, 10, 11, 12, 13, 14, 15, 16, 17, 18, 19, 20, 21, 22, 23, 24] (by decide +kernel) (by decide +kernel)
set_option maxRecDepth 20000 in
theorem gX6_differFor_X6_of : GoodIn wsX6_differFor (wsV RX6 33 RX6 yX6_of wsX6_of) := goodIn_app (goodIn_of _ (by decide +kernel)) ggX6_differFor_X6_of
theorem dX6_differFor_0 : decode cX6_differFor 0 = .ok (.iconst 0, 1) := by decide +kernel
theorem dX6_differFor_1 : decode cX6_differFor 1 = .ok (.istore_n 3, 1) := by decide +kernel
theorem dX6_differFor_2 : decode cX6_differFor 2 = .ok (.iload_n 3, 1) := by decide +kernel
theorem dX6_differFor_3 : decode cX6_differFor 3 = .ok (.bipush 14, 2) := by decide +kernel
theorem dX6_differFor_5 : decode cX6_differFor 5 = .ok (.if_icmp .ge 26, 3) := by decide +kernel
theorem dX6_differFor_8 : decode cX6_differFor 8 = .ok (.aload_n 0, 1) := by decide +kernel
theorem dX6_differFor_9 : decode cX6_differFor 9 = .ok (.aload_n 1, 1) := by decide +kernel
theorem dX6_differFor_10 : decode cX6_differFor 10 = .ok (.iload_n 3, 1) := by decide +kernel
theorem dX6_differFor_11 : decode cX6_differFor 11 = .ok (.invokevirtual 33, 3) := by decide +kernel
theorem dX6_differFor_14 : decode cX6_differFor 14 = .ok (.aload_n 2, 1) := by decide +kernel
theorem dX6_differFor_15 : decode cX6_differFor 15 = .ok (.aload_n 1, 1) := by decide +kernel
theorem dX6_differFor_16 : decode cX6_differFor 16 = .ok (.iload_n 3, 1) := by decide +kernel
theorem dX6_differFor_17 : decode cX6_differFor 17 = .ok (.invokevirtual 33, 3) := by decide +kernel
theorem dX6_differFor_20 : decode cX6_differFor 20 = .ok (.if_icmp .eq 5, 3) := by decide +kernel
theorem dX6_differFor_23 : decode cX6_differFor 23 = .ok (.iconst 1, 1) := by decide +kernel
theorem dX6_differFor_24 : decode cX6_differFor 24 = .ok (.ireturn, 1) := by decide +kernel
theorem dX6_differFor_25 : decode cX6_differFor 25 = .ok (.iinc 3 1, 3) := by decide +kernel
theorem dX6_differFor_28 : decode cX6_differFor 28 = .ok (.goto (-26), 3) := by decide +kernel
theorem dX6_differFor_31 : decode cX6_differFor 31 = .ok (.iconst 0, 1) := by decide +kernel
theorem dX6_differFor_32 : decode cX6_differFor 32 = .ok (.ireturn, 1) := by decide +kernel
set_option maxRecDepth 20000 in
theorem ggX6_workOut_Jx4a65c_size_8abf5 : GoodIn wsX6_workOut wsJx4a65c_size_8abf5 := goodIn_r _ [7, 8, 95, 96, 97] (by decide +kernel) (by decide +kernel)
set_option maxRecDepth 20000 in
theorem gX6_workOut_Jx4a65c_size_8abf5 : GoodIn wsX6_workOut (wsV RX6 37 RJx4a65c yJx4a65c_size_8abf5 wsJx4a65c_size_8abf5) := goodIn_app (goodIn_of _ (by decide +kernel)) ggX6_workOut_Jx4a65c_size_8abf5
set_option maxRecDepth 20000 in
theorem ggX6_workOut_Jx4a65c_get_915e3 : GoodIn wsX6_workOut wsJx4a65c_get_915e3 := goodIn_r _ [12, 8, 13, 14, 15, 16, 17, 18, 19, 20, 21, 22, 23, 6, 24, 25, 95, 96, 97] (by decide +kernel) (by decide +kernel)
set_option maxRecDepth 20000 in
theorem gX6_workOut_Jx4a65c_get_915e3 : GoodIn wsX6_workOut (wsV RX6 43 RJx4a65c yJx4a65c_get_915e3 wsJx4a65c_get_915e3) := goodIn_app (goodIn_of _ (by decide +kernel)) ggX6_workOut_Jx4a65c_get_915e3
set_option maxRecDepth 20000 in
theorem ggX6_workOut_X6_isKept : GoodIn wsX6_workOut wsX6_isKept := goodIn_r _ [29, 30, 31, 32, 33, 98, 99, 100, 101, 102, 103, 104, 105, 106, 107, 108, 109, 110, 111] (by decide +kernel) (by decide +kernel)
set_option maxRecDepth 20000 in
theorem gX6_workOut_X6_isKept : GoodIn wsX6_workOut (va_wsS RX6 29 yX6_isKept wsX6_isKept) := goodIn_app (goodIn_of _ (by decide +kernel)) ggX6_workOut_X6_isKept
set_option maxRecDepth 20000 in
theorem ggX6_workOut_X6_findRules : GoodIn wsX6_workOut wsX6_findRules := goodIn_r _ [37, 38, 30, 39, 40, 41, 42, 43, 44, 45, 3, 4, 5, 6, 7, 8, 9, 10, 11, 12, 13, 14, 15, 16, 17, 18, 19, 20, 21, 22, 23, 24, 25, 31, 32, 33, 46, 47, 48, 49, 50, 51, 52, 53, 54, 55, 56, 57, 58, 59, 60, 61, 62, 63, 64, 65, 66, 67, 68, 69, 28, 70, 71, 72, 92, 93, 94, 98, 99, 100, 101, 102, 103, 104, 105, 106, 107, 108, 109, 110, 111, 112, 113, 114, 115, 116, 117, 118, 119, 120, 121, 95, 96, 97] (by decide +kernel) (by decide +kernel)
set_option maxRecDepth 20000 in
theorem gX6_workOut_X6_findRules : GoodIn wsX6_workOut (wsV RX6 47 RX6 yX6_findRules wsX6_findRules) := goodIn_app (goodIn_of _ (by decide +kernel)) ggX6_workOut_X6_findRules
set_option maxRecDepth 20000 in
theorem ggX6_workOut_X6_settle : GoodIn wsX6_workOut wsX6_settle := goodIn_r _ [76, 38, 30, 39, 77, 71, 78, 79, 3, 4, 5, 6, 7, 8, 9, 10, 11, 12, 13, 14, 15, 16, 17, 18, 19, 20, 21, 22, 23, 24, 25, 80, 81, 82, 83, 84, 85, 86, 32, 87, 88, 89, 90, 28, 91, 92, 93, 94, 98, 99, 100, 101, 102, 103, 104, 105, 106, 107, 108, 109, 110, 111, 112, 113, 114, 115, 116, 117, 118, 119, 120, 121, 95, 96, 97] (by decide +kernel) (by decide +kernel)
set_option maxRecDepth 20000 in
theorem gX6_workOut_X6_settle : GoodIn wsX6_workOut (wsV RX6 51 RX6 yX6_settle wsX6_settle) := goodIn_app (goodIn_of _ (by decide +kernel)) ggX6_workOut_X6_settle
theorem dX6_workOut_0 : decode cX6_workOut 0 = .ok (.iconst 0, 1) := by decide +kernel
theorem dX6_workOut_1 : decode cX6_workOut 1 = .ok (.istore 4, 2) := by decide +kernel
theorem dX6_workOut_3 : decode cX6_workOut 3 = .ok (.iload 4, 2) := by decide +kernel
theorem dX6_workOut_5 : decode cX6_workOut 5 = .ok (.aload_n 1, 1) := by decide +kernel
theorem dX6_workOut_6 : decode cX6_workOut 6 = .ok (.invokevirtual 37, 3) := by decide +kernel
theorem dX6_workOut_9 : decode cX6_workOut 9 = .ok (.if_icmp .ge 62, 3) := by decide +kernel
theorem dX6_workOut_12 : decode cX6_workOut 12 = .ok (.aload_n 1, 1) := by decide +kernel
theorem dX6_workOut_13 : decode cX6_workOut 13 = .ok (.iload 4, 2) := by decide +kernel
theorem dX6_workOut_15 : decode cX6_workOut 15 = .ok (.invokevirtual 43, 3) := by decide +kernel
theorem dX6_workOut_18 : decode cX6_workOut 18 = .ok (.checkcast 24, 3) := by decide +kernel
theorem dX6_workOut_21 : decode cX6_workOut 21 = .ok (.astore 5, 2) := by decide +kernel
theorem dX6_workOut_23 : decode cX6_workOut 23 = .ok (.aload 5, 2) := by decide +kernel
theorem dX6_workOut_25 : decode cX6_workOut 25 = .ok (.iconst 0, 1) := by decide +kernel
theorem dX6_workOut_26 : decode cX6_workOut 26 = .ok (.invokestatic 29, 3) := by decide +kernel
theorem dX6_workOut_29 : decode cX6_workOut 29 = .ok (.ifCond .eq 36, 3) := by decide +kernel
theorem dX6_workOut_32 : decode cX6_workOut 32 = .ok (.aload_n 0, 1) := by decide +kernel
theorem dX6_workOut_33 : decode cX6_workOut 33 = .ok (.aload 5, 2) := by decide +kernel
theorem dX6_workOut_35 : decode cX6_workOut 35 = .ok (.aload_n 2, 1) := by decide +kernel
theorem dX6_workOut_36 : decode cX6_workOut 36 = .ok (.iload_n 3, 1) := by decide +kernel
theorem dX6_workOut_37 : decode cX6_workOut 37 = .ok (.invokevirtual 47, 3) := by decide +kernel
theorem dX6_workOut_40 : decode cX6_workOut 40 = .ok (.iconst 0, 1) := by decide +kernel
theorem dX6_workOut_41 : decode cX6_workOut 41 = .ok (.istore 6, 2) := by decide +kernel
theorem dX6_workOut_43 : decode cX6_workOut 43 = .ok (.iload 6, 2) := by decide +kernel
theorem dX6_workOut_45 : decode cX6_workOut 45 = .ok (.bipush 14, 2) := by decide +kernel
theorem dX6_workOut_47 : decode cX6_workOut 47 = .ok (.if_icmp .ge 18, 3) := by decide +kernel
theorem dX6_workOut_50 : decode cX6_workOut 50 = .ok (.aload_n 0, 1) := by decide +kernel
theorem dX6_workOut_51 : decode cX6_workOut 51 = .ok (.aload 5, 2) := by decide +kernel
theorem dX6_workOut_53 : decode cX6_workOut 53 = .ok (.iload 6, 2) := by decide +kernel
theorem dX6_workOut_55 : decode cX6_workOut 55 = .ok (.aload_n 2, 1) := by decide +kernel
theorem dX6_workOut_56 : decode cX6_workOut 56 = .ok (.invokevirtual 51, 3) := by decide +kernel
theorem dX6_workOut_59 : decode cX6_workOut 59 = .ok (.iinc 6 1, 3) := by decide +kernel
theorem dX6_workOut_62 : decode cX6_workOut 62 = .ok (.goto (-19), 3) := by decide +kernel
theorem dX6_workOut_65 : decode cX6_workOut 65 = .ok (.iinc 4 1, 3) := by decide +kernel
theorem dX6_workOut_68 : decode cX6_workOut 68 = .ok (.goto (-65), 3) := by decide +kernel
theorem dX6_workOut_71 : decode cX6_workOut 71 = .ok (.aload_n 0, 1) := by decide +kernel
theorem dX6_workOut_72 : decode cX6_workOut 72 = .ok (.iconst 1, 1) := by decide +kernel
theorem dX6_workOut_73 : decode cX6_workOut 73 = .ok (.putfield 19, 3) := by decide +kernel
theorem dX6_workOut_76 : decode cX6_workOut 76 = .ok (.return_, 1) := by decide +kernel
set_option maxRecDepth 20000 in
theorem ggX6_isKept_X9_isProperty : GoodIn wsX6_isKept wsX9_isProperty := goodIn_r _ [4] (by decide +kernel) (by decide +kernel)
set_option maxRecDepth 20000 in
theorem gX6_isKept_X9_isProperty_n55 : GoodIn wsX6_isKept (wsX9_isProperty) := ggX6_isKept_X9_isProperty
theorem dX6_isKept_0 : decode cX6_isKept 0 = .ok (.aload_n 0, 1) := by decide +kernel
theorem dX6_isKept_1 : decode cX6_isKept 1 = .ok (.getfield 23, 3) := by decide +kernel
theorem dX6_isKept_4 : decode cX6_isKept 4 = .ok (.ifCond .lt 23, 3) := by decide +kernel
theorem dX6_isKept_7 : decode cX6_isKept 7 = .ok (.aload_n 0, 1) := by decide +kernel
theorem dX6_isKept_8 : decode cX6_isKept 8 = .ok (.getfield 23, 3) := by decide +kernel
theorem dX6_isKept_11 : decode cX6_isKept 11 = .ok (.bipush 40, 2) := by decide +kernel
theorem dX6_isKept_13 : decode cX6_isKept 13 = .ok (.if_icmp .ge 14, 3) := by decide +kernel
theorem dX6_isKept_16 : decode cX6_isKept 16 = .ok (.iload_n 1, 1) := by decide +kernel
theorem dX6_isKept_17 : decode cX6_isKept 17 = .ok (.invokestatic 55, 3) := by decide +kernel
theorem dX6_isKept_20 : decode cX6_isKept 20 = .ok (.ifCond .eq 7, 3) := by decide +kernel
theorem dX6_isKept_23 : decode cX6_isKept 23 = .ok (.iconst 1, 1) := by decide +kernel
theorem dX6_isKept_24 : decode cX6_isKept 24 = .ok (.goto 4, 3) := by decide +kernel
theorem dX6_isKept_27 : decode cX6_isKept 27 = .ok (.iconst 0, 1) := by decide +kernel
theorem dX6_isKept_28 : decode cX6_isKept 28 = .ok (.ireturn, 1) := by decide +kernel
set_option maxRecDepth 20000 in
theorem ggX6_findRules_J7_fill_53178 : GoodIn wsX6_findRules wsJ7_fill_53178 := goodIn_r _ [9] (by decide +kernel) (by decide +kernel)
set_option maxRecDepth 20000 in
theorem gX6_findRules_J7_fill_53178 : GoodIn wsX6_findRules (va_wsS RX6 59 yJ7_fill_53178 wsJ7_fill_53178) := goodIn_app (goodIn_of _ (by decide +kernel)) ggX6_findRules_J7_fill_53178
set_option maxRecDepth 20000 in
theorem ggX6_findRules_Jx4a65c_size_8abf5 : GoodIn wsX6_findRules wsJx4a65c_size_8abf5 := goodIn_r _ [14, 15, 91, 92, 93] (by decide +kernel) (by decide +kernel)
set_option maxRecDepth 20000 in
theorem gX6_findRules_Jx4a65c_size_8abf5 : GoodIn wsX6_findRules (wsV RX6 37 RJx4a65c yJx4a65c_size_8abf5 wsJx4a65c_size_8abf5) := goodIn_app (goodIn_of _ (by decide +kernel)) ggX6_findRules_Jx4a65c_size_8abf5
set_option maxRecDepth 20000 in
theorem ggX6_findRules_Jx4a65c_get_915e3 : GoodIn wsX6_findRules wsJx4a65c_get_915e3 := goodIn_r _ [19, 15, 20, 21, 22, 23, 24, 25, 26, 27, 28, 29, 30, 13, 31, 32, 91, 92, 93] (by decide +kernel) (by decide +kernel)
set_option maxRecDepth 20000 in
theorem gX6_findRules_Jx4a65c_get_915e3 : GoodIn wsX6_findRules (wsV RX6 43 RJx4a65c yJx4a65c_get_915e3 wsJx4a65c_get_915e3) := goodIn_app (goodIn_of _ (by decide +kernel)) ggX6_findRules_Jx4a65c_get_915e3
set_option maxRecDepth 20000 in
theorem ggX6_findRules_X9_isProperty : GoodIn wsX6_findRules wsX9_isProperty := goodIn_r _ [35] (by decide +kernel) (by decide +kernel)
set_option maxRecDepth 20000 in
theorem gX6_findRules_X9_isProperty_n55 : GoodIn wsX6_findRules (wsX9_isProperty) := ggX6_findRules_X9_isProperty
set_option maxRecDepth 20000 in
theorem ggX6_findRules_X5_selects : GoodIn wsX6_findRules wsX5_selects := goodIn_r _ [40, 41, 42, 43, 44, 39, 45, 46, 47, 48, 49, 50, 51, 52, 53, 54, 55, 56, 57, 67, 68, 69, 70, 71, 72, 73, 74, 75, 76, 77, 78, 79, 80, 81, 82, 83, 84, 85, 86, 87, 88, 89, 90] (by decide +kernel) (by decide +kernel)
set_option maxRecDepth 20000 in
theorem gX6_findRules_X5_selects : GoodIn wsX6_findRules (wsV RX6 73 RX5 yX5_selects wsX5_selects) := goodIn_app (goodIn_of _ (by decide +kernel)) ggX6_findRules_X5_selects
set_option maxRecDepth 20000 in
theorem ggX6_findRules_X6_comesAheadOf : GoodIn wsX6_findRules wsX6_comesAheadOf := goodIn_r _ [61, 3, 62, 63, 10, 11, 12, 13, 14, 15, 16, 17, 18, 19, 20, 21, 22, 23, 24, 25, 26, 27, 28, 29, 30, 31, 32, 81, 82, 83, 84, 85, 86, 87, 88, 89, 90, 91, 92, 93] (by decide +kernel) (by decide +kernel)
set_option maxRecDepth 20000 in
theorem gX6_findRules_X6_comesAheadOf : GoodIn wsX6_findRules (va_wsS RX6 77 yX6_comesAheadOf wsX6_comesAheadOf) := goodIn_app (goodIn_of _ (by decide +kernel)) ggX6_findRules_X6_comesAheadOf
theorem dX6_findRules_0 : decode cX6_findRules 0 = .ok (.aload_n 0, 1) := by decide +kernel
theorem dX6_findRules_1 : decode cX6_findRules 1 = .ok (.getfield 16, 3) := by decide +kernel
theorem dX6_findRules_4 : decode cX6_findRules 4 = .ok (.aload_n 1, 1) := by decide +kernel
theorem dX6_findRules_5 : decode cX6_findRules 5 = .ok (.getfield 23, 3) := by decide +kernel
theorem dX6_findRules_8 : decode cX6_findRules 8 = .ok (.aaload, 1) := by decide +kernel
theorem dX6_findRules_9 : decode cX6_findRules 9 = .ok (.astore 4, 2) := by decide +kernel
theorem dX6_findRules_11 : decode cX6_findRules 11 = .ok (.aload 4, 2) := by decide +kernel
theorem dX6_findRules_13 : decode cX6_findRules 13 = .ok (.iconst (-1), 1) := by decide +kernel
theorem dX6_findRules_14 : decode cX6_findRules 14 = .ok (.invokestatic 59, 3) := by decide +kernel
theorem dX6_findRules_17 : decode cX6_findRules 17 = .ok (.iconst 0, 1) := by decide +kernel
theorem dX6_findRules_18 : decode cX6_findRules 18 = .ok (.istore 5, 2) := by decide +kernel
theorem dX6_findRules_20 : decode cX6_findRules 20 = .ok (.iload 5, 2) := by decide +kernel
theorem dX6_findRules_22 : decode cX6_findRules 22 = .ok (.aload_n 2, 1) := by decide +kernel
theorem dX6_findRules_23 : decode cX6_findRules 23 = .ok (.invokevirtual 37, 3) := by decide +kernel
theorem dX6_findRules_26 : decode cX6_findRules 26 = .ok (.if_icmp .ge 98, 3) := by decide +kernel
theorem dX6_findRules_29 : decode cX6_findRules 29 = .ok (.aload_n 2, 1) := by decide +kernel
theorem dX6_findRules_30 : decode cX6_findRules 30 = .ok (.iload 5, 2) := by decide +kernel
theorem dX6_findRules_32 : decode cX6_findRules 32 = .ok (.invokevirtual 43, 3) := by decide +kernel
theorem dX6_findRules_35 : decode cX6_findRules 35 = .ok (.checkcast 65, 3) := by decide +kernel
theorem dX6_findRules_38 : decode cX6_findRules 38 = .ok (.astore 6, 2) := by decide +kernel
theorem dX6_findRules_40 : decode cX6_findRules 40 = .ok (.aload 6, 2) := by decide +kernel
theorem dX6_findRules_42 : decode cX6_findRules 42 = .ok (.getfield 67, 3) := by decide +kernel
theorem dX6_findRules_45 : decode cX6_findRules 45 = .ok (.iload 5, 2) := by decide +kernel
theorem dX6_findRules_47 : decode cX6_findRules 47 = .ok (.iload_n 3, 1) := by decide +kernel
theorem dX6_findRules_48 : decode cX6_findRules 48 = .ok (.if_icmp .ne 7, 3) := by decide +kernel
theorem dX6_findRules_51 : decode cX6_findRules 51 = .ok (.iconst 1, 1) := by decide +kernel
theorem dX6_findRules_52 : decode cX6_findRules 52 = .ok (.goto 4, 3) := by decide +kernel
theorem dX6_findRules_55 : decode cX6_findRules 55 = .ok (.iconst 0, 1) := by decide +kernel
theorem dX6_findRules_56 : decode cX6_findRules 56 = .ok (.if_icmp .eq 27, 3) := by decide +kernel
theorem dX6_findRules_59 : decode cX6_findRules 59 = .ok (.aload 6, 2) := by decide +kernel
theorem dX6_findRules_61 : decode cX6_findRules 61 = .ok (.getfield 70, 3) := by decide +kernel
theorem dX6_findRules_64 : decode cX6_findRules 64 = .ok (.invokestatic 55, 3) := by decide +kernel
theorem dX6_findRules_67 : decode cX6_findRules 67 = .ok (.ifCond .eq 16, 3) := by decide +kernel
theorem dX6_findRules_70 : decode cX6_findRules 70 = .ok (.aload 6, 2) := by decide +kernel
theorem dX6_findRules_72 : decode cX6_findRules 72 = .ok (.aload_n 1, 1) := by decide +kernel
theorem dX6_findRules_73 : decode cX6_findRules 73 = .ok (.invokevirtual 73, 3) := by decide +kernel
theorem dX6_findRules_76 : decode cX6_findRules 76 = .ok (.ifCond .eq 7, 3) := by decide +kernel
theorem dX6_findRules_79 : decode cX6_findRules 79 = .ok (.iconst 1, 1) := by decide +kernel
theorem dX6_findRules_80 : decode cX6_findRules 80 = .ok (.goto 4, 3) := by decide +kernel
theorem dX6_findRules_83 : decode cX6_findRules 83 = .ok (.iconst 0, 1) := by decide +kernel
theorem dX6_findRules_84 : decode cX6_findRules 84 = .ok (.istore 7, 2) := by decide +kernel
theorem dX6_findRules_86 : decode cX6_findRules 86 = .ok (.iload 7, 2) := by decide +kernel
theorem dX6_findRules_88 : decode cX6_findRules 88 = .ok (.ifCond .eq 30, 3) := by decide +kernel
theorem dX6_findRules_91 : decode cX6_findRules 91 = .ok (.aload 6, 2) := by decide +kernel
theorem dX6_findRules_93 : decode cX6_findRules 93 = .ok (.aload 4, 2) := by decide +kernel
theorem dX6_findRules_95 : decode cX6_findRules 95 = .ok (.aload 6, 2) := by decide +kernel
theorem dX6_findRules_97 : decode cX6_findRules 97 = .ok (.getfield 70, 3) := by decide +kernel
theorem dX6_findRules_100 : decode cX6_findRules 100 = .ok (.iaload, 1) := by decide +kernel
theorem dX6_findRules_101 : decode cX6_findRules 101 = .ok (.aload_n 2, 1) := by decide +kernel
theorem dX6_findRules_102 : decode cX6_findRules 102 = .ok (.invokestatic 77, 3) := by decide +kernel
theorem dX6_findRules_105 : decode cX6_findRules 105 = .ok (.ifCond .eq 13, 3) := by decide +kernel
theorem dX6_findRules_108 : decode cX6_findRules 108 = .ok (.aload 4, 2) := by decide +kernel
theorem dX6_findRules_110 : decode cX6_findRules 110 = .ok (.aload 6, 2) := by decide +kernel
theorem dX6_findRules_112 : decode cX6_findRules 112 = .ok (.getfield 70, 3) := by decide +kernel
theorem dX6_findRules_115 : decode cX6_findRules 115 = .ok (.iload 5, 2) := by decide +kernel
theorem dX6_findRules_117 : decode cX6_findRules 117 = .ok (.iastore, 1) := by decide +kernel
theorem dX6_findRules_118 : decode cX6_findRules 118 = .ok (.iinc 5 1, 3) := by decide +kernel
theorem dX6_findRules_121 : decode cX6_findRules 121 = .ok (.goto (-101), 3) := by decide +kernel
theorem dX6_findRules_124 : decode cX6_findRules 124 = .ok (.return_, 1) := by decide +kernel
set_option maxRecDepth 20000 in
theorem ggX6_comesAheadOf_Jx4a65c_size_8abf5 : GoodIn wsX6_comesAheadOf wsJx4a65c_size_8abf5 := goodIn_r _ [8, 9, 37, 38, 39] (by decide +kernel) (by decide +kernel)
set_option maxRecDepth 20000 in
theorem gX6_comesAheadOf_Jx4a65c_size_8abf5 : GoodIn wsX6_comesAheadOf (wsV RX6 37 RJx4a65c yJx4a65c_size_8abf5 wsJx4a65c_size_8abf5) := goodIn_app (goodIn_of _ (by decide +kernel)) ggX6_comesAheadOf_Jx4a65c_size_8abf5
set_option maxRecDepth 20000 in
theorem ggX6_comesAheadOf_Jx4a65c_get_915e3 : GoodIn wsX6_comesAheadOf wsJx4a65c_get_915e3 := goodIn_r _ [13, 9, 14, 15, 16, 17, 18, 19, 20, 21, 22, 23, 24, 7, 25, 26, 37, 38, 39] (by decide +kernel) (by decide +kernel)
set_option maxRecDepth 20000 in
theorem gX6_comesAheadOf_Jx4a65c_get_915e3 : GoodIn wsX6_comesAheadOf (wsV RX6 43 RJx4a65c yJx4a65c_get_915e3 wsJx4a65c_get_915e3) := goodIn_app (goodIn_of _ (by decide +kernel)) ggX6_comesAheadOf_Jx4a65c_get_915e3
theorem dX6_comesAheadOf_0 : decode cX6_comesAheadOf 0 = .ok (.iload_n 1, 1) := by decide +kernel
theorem dX6_comesAheadOf_1 : decode cX6_comesAheadOf 1 = .ok (.ifCond .lt 11, 3) := by decide +kernel
theorem dX6_comesAheadOf_4 : decode cX6_comesAheadOf 4 = .ok (.iload_n 1, 1) := by decide +kernel
theorem dX6_comesAheadOf_5 : decode cX6_comesAheadOf 5 = .ok (.aload_n 2, 1) := by decide +kernel
theorem dX6_comesAheadOf_6 : decode cX6_comesAheadOf 6 = .ok (.invokevirtual 37, 3) := by decide +kernel
theorem dX6_comesAheadOf_9 : decode cX6_comesAheadOf 9 = .ok (.if_icmp .lt 5, 3) := by decide +kernel
theorem dX6_comesAheadOf_12 : decode cX6_comesAheadOf 12 = .ok (.iconst 1, 1) := by decide +kernel
theorem dX6_comesAheadOf_13 : decode cX6_comesAheadOf 13 = .ok (.ireturn, 1) := by decide +kernel
theorem dX6_comesAheadOf_14 : decode cX6_comesAheadOf 14 = .ok (.aload_n 2, 1) := by decide +kernel
theorem dX6_comesAheadOf_15 : decode cX6_comesAheadOf 15 = .ok (.iload_n 1, 1) := by decide +kernel
theorem dX6_comesAheadOf_16 : decode cX6_comesAheadOf 16 = .ok (.invokevirtual 43, 3) := by decide +kernel
theorem dX6_comesAheadOf_19 : decode cX6_comesAheadOf 19 = .ok (.checkcast 65, 3) := by decide +kernel
theorem dX6_comesAheadOf_22 : decode cX6_comesAheadOf 22 = .ok (.astore_n 3, 1) := by decide +kernel
theorem dX6_comesAheadOf_23 : decode cX6_comesAheadOf 23 = .ok (.aload_n 0, 1) := by decide +kernel
theorem dX6_comesAheadOf_24 : decode cX6_comesAheadOf 24 = .ok (.getfield 81, 3) := by decide +kernel
theorem dX6_comesAheadOf_27 : decode cX6_comesAheadOf 27 = .ok (.aload_n 3, 1) := by decide +kernel
theorem dX6_comesAheadOf_28 : decode cX6_comesAheadOf 28 = .ok (.getfield 81, 3) := by decide +kernel
theorem dX6_comesAheadOf_31 : decode cX6_comesAheadOf 31 = .ok (.if_icmp .eq 8, 3) := by decide +kernel
theorem dX6_comesAheadOf_34 : decode cX6_comesAheadOf 34 = .ok (.aload_n 0, 1) := by decide +kernel
theorem dX6_comesAheadOf_35 : decode cX6_comesAheadOf 35 = .ok (.getfield 81, 3) := by decide +kernel
theorem dX6_comesAheadOf_38 : decode cX6_comesAheadOf 38 = .ok (.ireturn, 1) := by decide +kernel
theorem dX6_comesAheadOf_39 : decode cX6_comesAheadOf 39 = .ok (.aload_n 0, 1) := by decide +kernel
theorem dX6_comesAheadOf_40 : decode cX6_comesAheadOf 40 = .ok (.getfield 84, 3) := by decide +kernel
theorem dX6_comesAheadOf_43 : decode cX6_comesAheadOf 43 = .ok (.aload_n 3, 1) := by decide +kernel
theorem dX6_comesAheadOf_44 : decode cX6_comesAheadOf 44 = .ok (.getfield 84, 3) := by decide +kernel
theorem dX6_comesAheadOf_47 : decode cX6_comesAheadOf 47 = .ok (.if_icmp .lt 7, 3) := by decide +kernel
theorem dX6_comesAheadOf_50 : decode cX6_comesAheadOf 50 = .ok (.iconst 1, 1) := by decide +kernel
theorem dX6_comesAheadOf_51 : decode cX6_comesAheadOf 51 = .ok (.goto 4, 3) := by decide +kernel
theorem dX6_comesAheadOf_54 : decode cX6_comesAheadOf 54 = .ok (.iconst 0, 1) := by decide +kernel
theorem dX6_comesAheadOf_55 : decode cX6_comesAheadOf 55 = .ok (.ireturn, 1) := by decide +kernel
set_option maxRecDepth 20000 in
theorem ggX6_settle_Jx4a65c_size_8abf5 : GoodIn wsX6_settle wsJx4a65c_size_8abf5 := goodIn_r _ [12, 13, 72, 73, 74] (by decide +kernel) (by decide +kernel)
set_option maxRecDepth 20000 in
theorem gX6_settle_Jx4a65c_size_8abf5 : GoodIn wsX6_settle (wsV RX6 37 RJx4a65c yJx4a65c_size_8abf5 wsJx4a65c_size_8abf5) := goodIn_app (goodIn_of _ (by decide +kernel)) ggX6_settle_Jx4a65c_size_8abf5
set_option maxRecDepth 20000 in
theorem ggX6_settle_Jx4a65c_get_915e3 : GoodIn wsX6_settle wsJx4a65c_get_915e3 := goodIn_r _ [17, 13, 18, 19, 20, 21, 22, 23, 24, 25, 26, 27, 28, 11, 29, 30, 72, 73, 74] (by decide +kernel) (by decide +kernel)
set_option maxRecDepth 20000 in
theorem gX6_settle_Jx4a65c_get_915e3 : GoodIn wsX6_settle (wsV RX6 43 RJx4a65c yJx4a65c_get_915e3 wsJx4a65c_get_915e3) := goodIn_app (goodIn_of _ (by decide +kernel)) ggX6_settle_Jx4a65c_get_915e3
set_option maxRecDepth 20000 in
theorem ggX6_settle_X3_declaredOf : GoodIn wsX6_settle wsX3_declaredOf := goodIn_r _ [35, 36, 48, 49, 50, 51, 52, 53, 54, 55, 56, 57, 58, 59, 60, 61] (by decide +kernel) (by decide +kernel)
set_option maxRecDepth 20000 in
theorem gX6_settle_X3_declaredOf : GoodIn wsX6_settle (wsV RX6 90 RX3 yX3_declaredOf wsX3_declaredOf) := goodIn_app (goodIn_of _ (by decide +kernel)) ggX6_settle_X3_declaredOf
set_option maxRecDepth 20000 in
theorem ggX6_settle_X9_isInherited : GoodIn wsX6_settle wsX9_isInherited := goodIn_r _ [39] (by decide +kernel) (by decide +kernel)
set_option maxRecDepth 20000 in
theorem gX6_settle_X9_isInherited_n94 : GoodIn wsX6_settle (wsX9_isInherited) := ggX6_settle_X9_isInherited
set_option maxRecDepth 20000 in
theorem ggX6_settle_X6_of : GoodIn wsX6_settle wsX6_of := goodIn_r _ [44, 2, 7, 48, 49, 50, 51, 52, 53, 54, 55, 56, 57, 58, 59, 60, 61, 45, 46, 47] (by decide +kernel) (by decide +kernel)
set_option maxRecDepth 20000 in
theorem gX6_settle_X6_of : GoodIn wsX6_settle (wsV RX6 33 RX6 yX6_of wsX6_of) := goodIn_app (goodIn_of _ (by decide +kernel)) ggX6_settle_X6_of
theorem dX6_settle_0 : decode cX6_settle 0 = .ok (.aload_n 0, 1) := by decide +kernel
theorem dX6_settle_1 : decode cX6_settle 1 = .ok (.getfield 16, 3) := by decide +kernel
theorem dX6_settle_4 : decode cX6_settle 4 = .ok (.aload_n 1, 1) := by decide +kernel
theorem dX6_settle_5 : decode cX6_settle 5 = .ok (.getfield 23, 3) := by decide +kernel
theorem dX6_settle_8 : decode cX6_settle 8 = .ok (.aaload, 1) := by decide +kernel
theorem dX6_settle_9 : decode cX6_settle 9 = .ok (.iload_n 2, 1) := by decide +kernel
theorem dX6_settle_10 : decode cX6_settle 10 = .ok (.iaload, 1) := by decide +kernel
theorem dX6_settle_11 : decode cX6_settle 11 = .ok (.istore 4, 2) := by decide +kernel
theorem dX6_settle_13 : decode cX6_settle 13 = .ok (.sipush 9998, 3) := by decide +kernel
theorem dX6_settle_16 : decode cX6_settle 16 = .ok (.istore 5, 2) := by decide +kernel
theorem dX6_settle_18 : decode cX6_settle 18 = .ok (.iconst 0, 1) := by decide +kernel
theorem dX6_settle_19 : decode cX6_settle 19 = .ok (.istore 6, 2) := by decide +kernel
theorem dX6_settle_21 : decode cX6_settle 21 = .ok (.iload 4, 2) := by decide +kernel
theorem dX6_settle_23 : decode cX6_settle 23 = .ok (.ifCond .lt 40, 3) := by decide +kernel
theorem dX6_settle_26 : decode cX6_settle 26 = .ok (.iload 4, 2) := by decide +kernel
theorem dX6_settle_28 : decode cX6_settle 28 = .ok (.aload_n 3, 1) := by decide +kernel
theorem dX6_settle_29 : decode cX6_settle 29 = .ok (.invokevirtual 37, 3) := by decide +kernel
theorem dX6_settle_32 : decode cX6_settle 32 = .ok (.if_icmp .ge 31, 3) := by decide +kernel
theorem dX6_settle_35 : decode cX6_settle 35 = .ok (.aload_n 3, 1) := by decide +kernel
theorem dX6_settle_36 : decode cX6_settle 36 = .ok (.iload 4, 2) := by decide +kernel
theorem dX6_settle_38 : decode cX6_settle 38 = .ok (.invokevirtual 43, 3) := by decide +kernel
theorem dX6_settle_41 : decode cX6_settle 41 = .ok (.checkcast 65, 3) := by decide +kernel
theorem dX6_settle_44 : decode cX6_settle 44 = .ok (.getfield 87, 3) := by decide +kernel
theorem dX6_settle_47 : decode cX6_settle 47 = .ok (.istore 5, 2) := by decide +kernel
theorem dX6_settle_49 : decode cX6_settle 49 = .ok (.aload_n 3, 1) := by decide +kernel
theorem dX6_settle_50 : decode cX6_settle 50 = .ok (.iload 4, 2) := by decide +kernel
theorem dX6_settle_52 : decode cX6_settle 52 = .ok (.invokevirtual 43, 3) := by decide +kernel
theorem dX6_settle_55 : decode cX6_settle 55 = .ok (.checkcast 65, 3) := by decide +kernel
theorem dX6_settle_58 : decode cX6_settle 58 = .ok (.getfield 81, 3) := by decide +kernel
theorem dX6_settle_61 : decode cX6_settle 61 = .ok (.istore 6, 2) := by decide +kernel
theorem dX6_settle_63 : decode cX6_settle 63 = .ok (.aload_n 1, 1) := by decide +kernel
theorem dX6_settle_64 : decode cX6_settle 64 = .ok (.iload_n 2, 1) := by decide +kernel
theorem dX6_settle_65 : decode cX6_settle 65 = .ok (.invokevirtual 90, 3) := by decide +kernel
theorem dX6_settle_68 : decode cX6_settle 68 = .ok (.istore 7, 2) := by decide +kernel
theorem dX6_settle_70 : decode cX6_settle 70 = .ok (.iload 7, 2) := by decide +kernel
theorem dX6_settle_72 : decode cX6_settle 72 = .ok (.sipush 9998, 3) := by decide +kernel
theorem dX6_settle_75 : decode cX6_settle 75 = .ok (.if_icmp .eq 15, 3) := by decide +kernel
theorem dX6_settle_78 : decode cX6_settle 78 = .ok (.iload 6, 2) := by decide +kernel
theorem dX6_settle_80 : decode cX6_settle 80 = .ok (.ifCond .ne 10, 3) := by decide +kernel
theorem dX6_settle_83 : decode cX6_settle 83 = .ok (.iload 7, 2) := by decide +kernel
theorem dX6_settle_85 : decode cX6_settle 85 = .ok (.istore 5, 2) := by decide +kernel
theorem dX6_settle_87 : decode cX6_settle 87 = .ok (.iconst (-1), 1) := by decide +kernel
theorem dX6_settle_88 : decode cX6_settle 88 = .ok (.istore 4, 2) := by decide +kernel
theorem dX6_settle_90 : decode cX6_settle 90 = .ok (.iload 5, 2) := by decide +kernel
theorem dX6_settle_92 : decode cX6_settle 92 = .ok (.sipush 9998, 3) := by decide +kernel
theorem dX6_settle_95 : decode cX6_settle 95 = .ok (.if_icmp .ne 56, 3) := by decide +kernel
theorem dX6_settle_98 : decode cX6_settle 98 = .ok (.iload_n 2, 1) := by decide +kernel
theorem dX6_settle_99 : decode cX6_settle 99 = .ok (.invokestatic 94, 3) := by decide +kernel
theorem dX6_settle_102 : decode cX6_settle 102 = .ok (.ifCond .eq 14, 3) := by decide +kernel
theorem dX6_settle_105 : decode cX6_settle 105 = .ok (.aload_n 1, 1) := by decide +kernel
theorem dX6_settle_106 : decode cX6_settle 106 = .ok (.getfield 97, 3) := by decide +kernel
theorem dX6_settle_109 : decode cX6_settle 109 = .ok (.ifnull 7, 3) := by decide +kernel
theorem dX6_settle_112 : decode cX6_settle 112 = .ok (.iconst 1, 1) := by decide +kernel
theorem dX6_settle_113 : decode cX6_settle 113 = .ok (.goto 4, 3) := by decide +kernel
theorem dX6_settle_116 : decode cX6_settle 116 = .ok (.iconst 0, 1) := by decide +kernel
theorem dX6_settle_117 : decode cX6_settle 117 = .ok (.istore 8, 2) := by decide +kernel
theorem dX6_settle_119 : decode cX6_settle 119 = .ok (.iload 8, 2) := by decide +kernel
theorem dX6_settle_121 : decode cX6_settle 121 = .ok (.ifCond .eq 9, 3) := by decide +kernel
theorem dX6_settle_124 : decode cX6_settle 124 = .ok (.sipush 9999, 3) := by decide +kernel
theorem dX6_settle_127 : decode cX6_settle 127 = .ok (.goto 8, 3) := by decide +kernel
theorem dX6_settle_130 : decode cX6_settle 130 = .ok (.getstatic 101, 3) := by decide +kernel
theorem dX6_settle_133 : decode cX6_settle 133 = .ok (.iload_n 2, 1) := by decide +kernel
theorem dX6_settle_134 : decode cX6_settle 134 = .ok (.iaload, 1) := by decide +kernel
theorem dX6_settle_135 : decode cX6_settle 135 = .ok (.istore 5, 2) := by decide +kernel
theorem dX6_settle_137 : decode cX6_settle 137 = .ok (.iload 8, 2) := by decide +kernel
theorem dX6_settle_139 : decode cX6_settle 139 = .ok (.ifCond .eq 8, 3) := by decide +kernel
theorem dX6_settle_142 : decode cX6_settle 142 = .ok (.bipush (-2), 2) := by decide +kernel
theorem dX6_settle_144 : decode cX6_settle 144 = .ok (.goto 5, 3) := by decide +kernel
theorem dX6_settle_147 : decode cX6_settle 147 = .ok (.bipush (-3), 2) := by decide +kernel
theorem dX6_settle_149 : decode cX6_settle 149 = .ok (.istore 4, 2) := by decide +kernel
theorem dX6_settle_151 : decode cX6_settle 151 = .ok (.iload 5, 2) := by decide +kernel
theorem dX6_settle_153 : decode cX6_settle 153 = .ok (.sipush 9999, 3) := by decide +kernel
theorem dX6_settle_156 : decode cX6_settle 156 = .ok (.if_icmp .ne 29, 3) := by decide +kernel
theorem dX6_settle_159 : decode cX6_settle 159 = .ok (.aload_n 1, 1) := by decide +kernel
theorem dX6_settle_160 : decode cX6_settle 160 = .ok (.getfield 97, 3) := by decide +kernel
theorem dX6_settle_163 : decode cX6_settle 163 = .ok (.ifnonnull 11, 3) := by decide +kernel
theorem dX6_settle_166 : decode cX6_settle 166 = .ok (.getstatic 101, 3) := by decide +kernel
theorem dX6_settle_169 : decode cX6_settle 169 = .ok (.iload_n 2, 1) := by decide +kernel
theorem dX6_settle_170 : decode cX6_settle 170 = .ok (.iaload, 1) := by decide +kernel
theorem dX6_settle_171 : decode cX6_settle 171 = .ok (.goto 12, 3) := by decide +kernel
theorem dX6_settle_174 : decode cX6_settle 174 = .ok (.aload_n 0, 1) := by decide +kernel
theorem dX6_settle_175 : decode cX6_settle 175 = .ok (.aload_n 1, 1) := by decide +kernel
theorem dX6_settle_176 : decode cX6_settle 176 = .ok (.getfield 97, 3) := by decide +kernel
theorem dX6_settle_179 : decode cX6_settle 179 = .ok (.iload_n 2, 1) := by decide +kernel
theorem dX6_settle_180 : decode cX6_settle 180 = .ok (.invokevirtual 33, 3) := by decide +kernel
theorem dX6_settle_183 : decode cX6_settle 183 = .ok (.istore 5, 2) := by decide +kernel
theorem dX6_settle_185 : decode cX6_settle 185 = .ok (.aload_n 0, 1) := by decide +kernel
theorem dX6_settle_186 : decode cX6_settle 186 = .ok (.getfield 11, 3) := by decide +kernel
theorem dX6_settle_189 : decode cX6_settle 189 = .ok (.aload_n 1, 1) := by decide +kernel
theorem dX6_settle_190 : decode cX6_settle 190 = .ok (.getfield 23, 3) := by decide +kernel
theorem dX6_settle_193 : decode cX6_settle 193 = .ok (.aaload, 1) := by decide +kernel
theorem dX6_settle_194 : decode cX6_settle 194 = .ok (.iload_n 2, 1) := by decide +kernel
theorem dX6_settle_195 : decode cX6_settle 195 = .ok (.iload 5, 2) := by decide +kernel
theorem dX6_settle_197 : decode cX6_settle 197 = .ok (.iastore, 1) := by decide +kernel
theorem dX6_settle_198 : decode cX6_settle 198 = .ok (.aload_n 0, 1) := by decide +kernel
theorem dX6_settle_199 : decode cX6_settle 199 = .ok (.getfield 16, 3) := by decide +kernel
theorem dX6_settle_202 : decode cX6_settle 202 = .ok (.aload_n 1, 1) := by decide +kernel
theorem dX6_settle_203 : decode cX6_settle 203 = .ok (.getfield 23, 3) := by decide +kernel
theorem dX6_settle_206 : decode cX6_settle 206 = .ok (.aaload, 1) := by decide +kernel
theorem dX6_settle_207 : decode cX6_settle 207 = .ok (.iload_n 2, 1) := by decide +kernel
theorem dX6_settle_208 : decode cX6_settle 208 = .ok (.iload 4, 2) := by decide +kernel
theorem dX6_settle_210 : decode cX6_settle 210 = .ok (.iastore, 1) := by decide +kernel
theorem dX6_settle_211 : decode cX6_settle 211 = .ok (.return_, 1) := by decide +kernel
theorem dX8_init_0 : decode cX8_init 0 = .ok (.aload_n 0, 1) := by decide +kernel
theorem dX8_init_1 : decode cX8_init 1 = .ok (.invokespecial 3, 3) := by decide +kernel
theorem dX8_init_4 : decode cX8_init 4 = .ok (.aload_n 0, 1) := by decide +kernel
theorem dX8_init_5 : decode cX8_init 5 = .ok (.sipush 800, 3) := by decide +kernel
theorem dX8_init_8 : decode cX8_init 8 = .ok (.anewarray 11, 3) := by decide +kernel
theorem dX8_init_11 : decode cX8_init 11 = .ok (.putfield 13, 3) := by decide +kernel
theorem dX8_init_14 : decode cX8_init 14 = .ok (.aload_n 0, 1) := by decide +kernel
theorem dX8_init_15 : decode cX8_init 15 = .ok (.sipush 800, 3) := by decide +kernel
theorem dX8_init_18 : decode cX8_init 18 = .ok (.newarray .int, 2) := by decide +kernel
theorem dX8_init_20 : decode cX8_init 20 = .ok (.putfield 17, 3) := by decide +kernel
theorem dX8_init_23 : decode cX8_init 23 = .ok (.aload_n 0, 1) := by decide +kernel
theorem dX8_init_24 : decode cX8_init 24 = .ok (.sipush 800, 3) := by decide +kernel
theorem dX8_init_27 : decode cX8_init 27 = .ok (.newarray .int, 2) := by decide +kernel
theorem dX8_init_29 : decode cX8_init 29 = .ok (.putfield 21, 3) := by decide +kernel
theorem dX8_init_32 : decode cX8_init 32 = .ok (.aload_n 0, 1) := by decide +kernel
theorem dX8_init_33 : decode cX8_init 33 = .ok (.sipush 800, 3) := by decide +kernel
theorem dX8_init_36 : decode cX8_init 36 = .ok (.newarray .int, 2) := by decide +kernel
theorem dX8_init_38 : decode cX8_init 38 = .ok (.putfield 24, 3) := by decide +kernel
theorem dX8_init_41 : decode cX8_init 41 = .ok (.aload_n 0, 1) := by decide +kernel
theorem dX8_init_42 : decode cX8_init 42 = .ok (.iconst 0, 1) := by decide +kernel
theorem dX8_init_43 : decode cX8_init 43 = .ok (.putfield 27, 3) := by decide +kernel
theorem dX8_init_46 : decode cX8_init 46 = .ok (.aload_n 0, 1) := by decide +kernel
theorem dX8_init_47 : decode cX8_init 47 = .ok (.iconst 0, 1) := by decide +kernel
theorem dX8_init_48 : decode cX8_init 48 = .ok (.putfield 31, 3) := by decide +kernel
theorem dX8_init_51 : decode cX8_init 51 = .ok (.aload_n 0, 1) := by decide +kernel
theorem dX8_init_52 : decode cX8_init 52 = .ok (.iconst 0, 1) := by decide +kernel
theorem dX8_init_53 : decode cX8_init 53 = .ok (.putfield 34, 3) := by decide +kernel
theorem dX8_init_56 : decode cX8_init 56 = .ok (.return_, 1) := by decide +kernel
theorem dX8_clear_0 : decode cX8_clear 0 = .ok (.aload_n 0, 1) := by decide +kernel
theorem dX8_clear_1 : decode cX8_clear 1 = .ok (.iconst 0, 1) := by decide +kernel
theorem dX8_clear_2 : decode cX8_clear 2 = .ok (.putfield 27, 3) := by decide +kernel
theorem dX8_clear_5 : decode cX8_clear 5 = .ok (.return_, 1) := by decide +kernel
set_option maxRecDepth 20000 in
theorem ggX8_add_X3_lettersOf : GoodIn wsX8_add wsX3_lettersOf := goodIn_r _ [11, 12, 13, 14, 15, 10, 16, 17, 18, 19, 20, 21, 22, 23, 24, 25, 26, 27, 28, 29, 30, 31, 32] (by decide +kernel) (by decide +kernel)
set_option maxRecDepth 20000 in
theorem gX8_add_X3_lettersOf : GoodIn wsX8_add (wsV RX8 39 RX3 yX3_lettersOf wsX3_lettersOf) := goodIn_app (goodIn_of _ (by decide +kernel)) ggX8_add_X3_lettersOf
theorem dX8_add_0 : decode cX8_add 0 = .ok (.iconst 0, 1) := by decide +kernel
theorem dX8_add_1 : decode cX8_add 1 = .ok (.istore_n 3, 1) := by decide +kernel
theorem dX8_add_2 : decode cX8_add 2 = .ok (.iload_n 3, 1) := by decide +kernel
theorem dX8_add_3 : decode cX8_add 3 = .ok (.aload_n 1, 1) := by decide +kernel
theorem dX8_add_4 : decode cX8_add 4 = .ok (.getfield 37, 3) := by decide +kernel
theorem dX8_add_7 : decode cX8_add 7 = .ok (.if_icmp .ge 82, 3) := by decide +kernel
theorem dX8_add_10 : decode cX8_add 10 = .ok (.aload_n 0, 1) := by decide +kernel
theorem dX8_add_11 : decode cX8_add 11 = .ok (.getfield 27, 3) := by decide +kernel
theorem dX8_add_14 : decode cX8_add 14 = .ok (.ifCond .lt 75, 3) := by decide +kernel
theorem dX8_add_17 : decode cX8_add 17 = .ok (.aload_n 0, 1) := by decide +kernel
theorem dX8_add_18 : decode cX8_add 18 = .ok (.getfield 27, 3) := by decide +kernel
theorem dX8_add_21 : decode cX8_add 21 = .ok (.sipush 800, 3) := by decide +kernel
theorem dX8_add_24 : decode cX8_add 24 = .ok (.if_icmp .ge 65, 3) := by decide +kernel
theorem dX8_add_27 : decode cX8_add 27 = .ok (.aload_n 0, 1) := by decide +kernel
theorem dX8_add_28 : decode cX8_add 28 = .ok (.getfield 13, 3) := by decide +kernel
theorem dX8_add_31 : decode cX8_add 31 = .ok (.aload_n 0, 1) := by decide +kernel
theorem dX8_add_32 : decode cX8_add 32 = .ok (.getfield 27, 3) := by decide +kernel
theorem dX8_add_35 : decode cX8_add 35 = .ok (.aload_n 1, 1) := by decide +kernel
theorem dX8_add_36 : decode cX8_add 36 = .ok (.aastore, 1) := by decide +kernel
theorem dX8_add_37 : decode cX8_add 37 = .ok (.aload_n 0, 1) := by decide +kernel
theorem dX8_add_38 : decode cX8_add 38 = .ok (.getfield 17, 3) := by decide +kernel
theorem dX8_add_41 : decode cX8_add 41 = .ok (.aload_n 0, 1) := by decide +kernel
theorem dX8_add_42 : decode cX8_add 42 = .ok (.getfield 27, 3) := by decide +kernel
theorem dX8_add_45 : decode cX8_add 45 = .ok (.iload_n 3, 1) := by decide +kernel
theorem dX8_add_46 : decode cX8_add 46 = .ok (.iastore, 1) := by decide +kernel
theorem dX8_add_47 : decode cX8_add 47 = .ok (.aload_n 0, 1) := by decide +kernel
theorem dX8_add_48 : decode cX8_add 48 = .ok (.getfield 21, 3) := by decide +kernel
theorem dX8_add_51 : decode cX8_add 51 = .ok (.aload_n 0, 1) := by decide +kernel
theorem dX8_add_52 : decode cX8_add 52 = .ok (.getfield 27, 3) := by decide +kernel
theorem dX8_add_55 : decode cX8_add 55 = .ok (.aload_n 1, 1) := by decide +kernel
theorem dX8_add_56 : decode cX8_add 56 = .ok (.iload_n 3, 1) := by decide +kernel
theorem dX8_add_57 : decode cX8_add 57 = .ok (.invokevirtual 39, 3) := by decide +kernel
theorem dX8_add_60 : decode cX8_add 60 = .ok (.iload_n 2, 1) := by decide +kernel
theorem dX8_add_61 : decode cX8_add 61 = .ok (.imul, 1) := by decide +kernel
theorem dX8_add_62 : decode cX8_add 62 = .ok (.iastore, 1) := by decide +kernel
theorem dX8_add_63 : decode cX8_add 63 = .ok (.aload_n 0, 1) := by decide +kernel
theorem dX8_add_64 : decode cX8_add 64 = .ok (.getfield 24, 3) := by decide +kernel
theorem dX8_add_67 : decode cX8_add 67 = .ok (.aload_n 0, 1) := by decide +kernel
theorem dX8_add_68 : decode cX8_add 68 = .ok (.getfield 27, 3) := by decide +kernel
theorem dX8_add_71 : decode cX8_add 71 = .ok (.iload_n 2, 1) := by decide +kernel
theorem dX8_add_72 : decode cX8_add 72 = .ok (.iastore, 1) := by decide +kernel
theorem dX8_add_73 : decode cX8_add 73 = .ok (.aload_n 0, 1) := by decide +kernel
theorem dX8_add_74 : decode cX8_add 74 = .ok (.dup, 1) := by decide +kernel
theorem dX8_add_75 : decode cX8_add 75 = .ok (.getfield 27, 3) := by decide +kernel
theorem dX8_add_78 : decode cX8_add 78 = .ok (.iconst 1, 1) := by decide +kernel
theorem dX8_add_79 : decode cX8_add 79 = .ok (.iadd, 1) := by decide +kernel
theorem dX8_add_80 : decode cX8_add 80 = .ok (.putfield 27, 3) := by decide +kernel
theorem dX8_add_83 : decode cX8_add 83 = .ok (.iinc 3 1, 3) := by decide +kernel
theorem dX8_add_86 : decode cX8_add 86 = .ok (.goto (-84), 3) := by decide +kernel
theorem dX8_add_89 : decode cX8_add 89 = .ok (.return_, 1) := by decide +kernel
theorem dX8_widthOf_0 : decode cX8_widthOf 0 = .ok (.iload_n 1, 1) := by decide +kernel
theorem dX8_widthOf_1 : decode cX8_widthOf 1 = .ok (.ifCond .lt 19, 3) := by decide +kernel
theorem dX8_widthOf_4 : decode cX8_widthOf 4 = .ok (.iload_n 1, 1) := by decide +kernel
theorem dX8_widthOf_5 : decode cX8_widthOf 5 = .ok (.sipush 800, 3) := by decide +kernel
theorem dX8_widthOf_8 : decode cX8_widthOf 8 = .ok (.if_icmp .ge 12, 3) := by decide +kernel
theorem dX8_widthOf_11 : decode cX8_widthOf 11 = .ok (.aload_n 0, 1) := by decide +kernel
theorem dX8_widthOf_12 : decode cX8_widthOf 12 = .ok (.getfield 21, 3) := by decide +kernel
theorem dX8_widthOf_15 : decode cX8_widthOf 15 = .ok (.iload_n 1, 1) := by decide +kernel
theorem dX8_widthOf_16 : decode cX8_widthOf 16 = .ok (.iaload, 1) := by decide +kernel
theorem dX8_widthOf_17 : decode cX8_widthOf 17 = .ok (.goto 4, 3) := by decide +kernel
theorem dX8_widthOf_20 : decode cX8_widthOf 20 = .ok (.iconst 0, 1) := by decide +kernel
theorem dX8_widthOf_21 : decode cX8_widthOf 21 = .ok (.ireturn, 1) := by decide +kernel
theorem dX8_takeLine_0 : decode cX8_takeLine 0 = .ok (.aload_n 0, 1) := by decide +kernel
theorem dX8_takeLine_1 : decode cX8_takeLine 1 = .ok (.iconst 0, 1) := by decide +kernel
theorem dX8_takeLine_2 : decode cX8_takeLine 2 = .ok (.putfield 31, 3) := by decide +kernel
theorem dX8_takeLine_5 : decode cX8_takeLine 5 = .ok (.aload_n 0, 1) := by decide +kernel
theorem dX8_takeLine_6 : decode cX8_takeLine 6 = .ok (.iconst 0, 1) := by decide +kernel
theorem dX8_takeLine_7 : decode cX8_takeLine 7 = .ok (.putfield 34, 3) := by decide +kernel
theorem dX8_takeLine_10 : decode cX8_takeLine 10 = .ok (.iconst 0, 1) := by decide +kernel
theorem dX8_takeLine_11 : decode cX8_takeLine 11 = .ok (.istore_n 3, 1) := by decide +kernel
theorem dX8_takeLine_12 : decode cX8_takeLine 12 = .ok (.iconst 0, 1) := by decide +kernel
theorem dX8_takeLine_13 : decode cX8_takeLine 13 = .ok (.iload_n 1, 1) := by decide +kernel
theorem dX8_takeLine_14 : decode cX8_takeLine 14 = .ok (.invokestatic 43, 3) := by decide +kernel
theorem dX8_takeLine_17 : decode cX8_takeLine 17 = .ok (.istore 4, 2) := by decide +kernel
theorem dX8_takeLine_19 : decode cX8_takeLine 19 = .ok (.iload 4, 2) := by decide +kernel
theorem dX8_takeLine_21 : decode cX8_takeLine 21 = .ok (.aload_n 0, 1) := by decide +kernel
theorem dX8_takeLine_22 : decode cX8_takeLine 22 = .ok (.getfield 27, 3) := by decide +kernel
theorem dX8_takeLine_25 : decode cX8_takeLine 25 = .ok (.if_icmp .ge 88, 3) := by decide +kernel
theorem dX8_takeLine_28 : decode cX8_takeLine 28 = .ok (.iload 4, 2) := by decide +kernel
theorem dX8_takeLine_30 : decode cX8_takeLine 30 = .ok (.sipush 800, 3) := by decide +kernel
theorem dX8_takeLine_33 : decode cX8_takeLine 33 = .ok (.if_icmp .ge 80, 3) := by decide +kernel
theorem dX8_takeLine_36 : decode cX8_takeLine 36 = .ok (.iload 4, 2) := by decide +kernel
theorem dX8_takeLine_38 : decode cX8_takeLine 38 = .ok (.iload_n 1, 1) := by decide +kernel
theorem dX8_takeLine_39 : decode cX8_takeLine 39 = .ok (.if_icmp .le 24, 3) := by decide +kernel
theorem dX8_takeLine_42 : decode cX8_takeLine 42 = .ok (.aload_n 0, 1) := by decide +kernel
theorem dX8_takeLine_43 : decode cX8_takeLine 43 = .ok (.getfield 31, 3) := by decide +kernel
theorem dX8_takeLine_46 : decode cX8_takeLine 46 = .ok (.iload_n 3, 1) := by decide +kernel
theorem dX8_takeLine_47 : decode cX8_takeLine 47 = .ok (.iadd, 1) := by decide +kernel
theorem dX8_takeLine_48 : decode cX8_takeLine 48 = .ok (.aload_n 0, 1) := by decide +kernel
theorem dX8_takeLine_49 : decode cX8_takeLine 49 = .ok (.getfield 21, 3) := by decide +kernel
theorem dX8_takeLine_52 : decode cX8_takeLine 52 = .ok (.iload 4, 2) := by decide +kernel
theorem dX8_takeLine_54 : decode cX8_takeLine 54 = .ok (.iaload, 1) := by decide +kernel
theorem dX8_takeLine_55 : decode cX8_takeLine 55 = .ok (.iadd, 1) := by decide +kernel
theorem dX8_takeLine_56 : decode cX8_takeLine 56 = .ok (.iload_n 2, 1) := by decide +kernel
theorem dX8_takeLine_57 : decode cX8_takeLine 57 = .ok (.if_icmp .le 6, 3) := by decide +kernel
theorem dX8_takeLine_60 : decode cX8_takeLine 60 = .ok (.iload 4, 2) := by decide +kernel
theorem dX8_takeLine_62 : decode cX8_takeLine 62 = .ok (.ireturn, 1) := by decide +kernel
theorem dX8_takeLine_63 : decode cX8_takeLine 63 = .ok (.aload_n 0, 1) := by decide +kernel
theorem dX8_takeLine_64 : decode cX8_takeLine 64 = .ok (.dup, 1) := by decide +kernel
theorem dX8_takeLine_65 : decode cX8_takeLine 65 = .ok (.getfield 31, 3) := by decide +kernel
theorem dX8_takeLine_68 : decode cX8_takeLine 68 = .ok (.iload_n 3, 1) := by decide +kernel
theorem dX8_takeLine_69 : decode cX8_takeLine 69 = .ok (.aload_n 0, 1) := by decide +kernel
theorem dX8_takeLine_70 : decode cX8_takeLine 70 = .ok (.getfield 21, 3) := by decide +kernel
theorem dX8_takeLine_73 : decode cX8_takeLine 73 = .ok (.iload 4, 2) := by decide +kernel
theorem dX8_takeLine_75 : decode cX8_takeLine 75 = .ok (.iaload, 1) := by decide +kernel
theorem dX8_takeLine_76 : decode cX8_takeLine 76 = .ok (.iadd, 1) := by decide +kernel
theorem dX8_takeLine_77 : decode cX8_takeLine 77 = .ok (.iadd, 1) := by decide +kernel
theorem dX8_takeLine_78 : decode cX8_takeLine 78 = .ok (.putfield 31, 3) := by decide +kernel
theorem dX8_takeLine_81 : decode cX8_takeLine 81 = .ok (.aload_n 0, 1) := by decide +kernel
theorem dX8_takeLine_82 : decode cX8_takeLine 82 = .ok (.aload_n 0, 1) := by decide +kernel
theorem dX8_takeLine_83 : decode cX8_takeLine 83 = .ok (.getfield 34, 3) := by decide +kernel
theorem dX8_takeLine_86 : decode cX8_takeLine 86 = .ok (.aload_n 0, 1) := by decide +kernel
theorem dX8_takeLine_87 : decode cX8_takeLine 87 = .ok (.getfield 24, 3) := by decide +kernel
theorem dX8_takeLine_90 : decode cX8_takeLine 90 = .ok (.iload 4, 2) := by decide +kernel
theorem dX8_takeLine_92 : decode cX8_takeLine 92 = .ok (.iaload, 1) := by decide +kernel
theorem dX8_takeLine_93 : decode cX8_takeLine 93 = .ok (.invokestatic 43, 3) := by decide +kernel
theorem dX8_takeLine_96 : decode cX8_takeLine 96 = .ok (.putfield 34, 3) := by decide +kernel
theorem dX8_takeLine_99 : decode cX8_takeLine 99 = .ok (.aload_n 0, 1) := by decide +kernel
theorem dX8_takeLine_100 : decode cX8_takeLine 100 = .ok (.getfield 24, 3) := by decide +kernel
theorem dX8_takeLine_103 : decode cX8_takeLine 103 = .ok (.iload 4, 2) := by decide +kernel
theorem dX8_takeLine_105 : decode cX8_takeLine 105 = .ok (.iaload, 1) := by decide +kernel
theorem dX8_takeLine_106 : decode cX8_takeLine 106 = .ok (.istore_n 3, 1) := by decide +kernel
theorem dX8_takeLine_107 : decode cX8_takeLine 107 = .ok (.iinc 4 1, 3) := by decide +kernel
theorem dX8_takeLine_110 : decode cX8_takeLine 110 = .ok (.goto (-91), 3) := by decide +kernel
theorem dX8_takeLine_113 : decode cX8_takeLine 113 = .ok (.aload_n 0, 1) := by decide +kernel
theorem dX8_takeLine_114 : decode cX8_takeLine 114 = .ok (.getfield 27, 3) := by decide +kernel
theorem dX8_takeLine_117 : decode cX8_takeLine 117 = .ok (.ireturn, 1) := by decide +kernel
set_option maxRecDepth 20000 in
theorem ggX8_setLine_X2_setWord : GoodIn wsX8_setLine wsX2_setWord := goodIn_r _ [15, 16, 17, 39, 40, 41, 42, 43, 44, 45, 46, 47, 48, 49, 50, 51, 52, 53, 54] (by decide +kernel) (by decide +kernel)
set_option maxRecDepth 20000 in
theorem gX8_setLine_X2_setWord : GoodIn wsX8_setLine (wsV RX8 53 RX2 yX2_setWord wsX2_setWord) := goodIn_app (goodIn_of _ (by decide +kernel)) ggX8_setLine_X2_setWord
theorem dX8_setLine_0 : decode cX8_setLine 0 = .ok (.iload_n 3, 1) := by decide +kernel
theorem dX8_setLine_1 : decode cX8_setLine 1 = .ok (.istore 5, 2) := by decide +kernel
theorem dX8_setLine_3 : decode cX8_setLine 3 = .ok (.iconst 0, 1) := by decide +kernel
theorem dX8_setLine_4 : decode cX8_setLine 4 = .ok (.iload_n 1, 1) := by decide +kernel
theorem dX8_setLine_5 : decode cX8_setLine 5 = .ok (.invokestatic 43, 3) := by decide +kernel
theorem dX8_setLine_8 : decode cX8_setLine 8 = .ok (.istore 6, 2) := by decide +kernel
theorem dX8_setLine_10 : decode cX8_setLine 10 = .ok (.iload 6, 2) := by decide +kernel
theorem dX8_setLine_12 : decode cX8_setLine 12 = .ok (.iload_n 2, 1) := by decide +kernel
theorem dX8_setLine_13 : decode cX8_setLine 13 = .ok (.if_icmp .ge 80, 3) := by decide +kernel
theorem dX8_setLine_16 : decode cX8_setLine 16 = .ok (.iload 6, 2) := by decide +kernel
theorem dX8_setLine_18 : decode cX8_setLine 18 = .ok (.aload_n 0, 1) := by decide +kernel
theorem dX8_setLine_19 : decode cX8_setLine 19 = .ok (.getfield 27, 3) := by decide +kernel
theorem dX8_setLine_22 : decode cX8_setLine 22 = .ok (.if_icmp .ge 71, 3) := by decide +kernel
theorem dX8_setLine_25 : decode cX8_setLine 25 = .ok (.iload 6, 2) := by decide +kernel
theorem dX8_setLine_27 : decode cX8_setLine 27 = .ok (.sipush 800, 3) := by decide +kernel
theorem dX8_setLine_30 : decode cX8_setLine 30 = .ok (.if_icmp .ge 63, 3) := by decide +kernel
theorem dX8_setLine_33 : decode cX8_setLine 33 = .ok (.aload_n 0, 1) := by decide +kernel
theorem dX8_setLine_34 : decode cX8_setLine 34 = .ok (.getfield 13, 3) := by decide +kernel
theorem dX8_setLine_37 : decode cX8_setLine 37 = .ok (.iload 6, 2) := by decide +kernel
theorem dX8_setLine_39 : decode cX8_setLine 39 = .ok (.aaload, 1) := by decide +kernel
theorem dX8_setLine_40 : decode cX8_setLine 40 = .ok (.ifnull 27, 3) := by decide +kernel
theorem dX8_setLine_43 : decode cX8_setLine 43 = .ok (.aload_n 0, 1) := by decide +kernel
theorem dX8_setLine_44 : decode cX8_setLine 44 = .ok (.getfield 13, 3) := by decide +kernel
theorem dX8_setLine_47 : decode cX8_setLine 47 = .ok (.iload 6, 2) := by decide +kernel
theorem dX8_setLine_49 : decode cX8_setLine 49 = .ok (.aaload, 1) := by decide +kernel
theorem dX8_setLine_50 : decode cX8_setLine 50 = .ok (.getfield 49, 3) := by decide +kernel
theorem dX8_setLine_53 : decode cX8_setLine 53 = .ok (.aload_n 0, 1) := by decide +kernel
theorem dX8_setLine_54 : decode cX8_setLine 54 = .ok (.getfield 17, 3) := by decide +kernel
theorem dX8_setLine_57 : decode cX8_setLine 57 = .ok (.iload 6, 2) := by decide +kernel
theorem dX8_setLine_59 : decode cX8_setLine 59 = .ok (.iaload, 1) := by decide +kernel
theorem dX8_setLine_60 : decode cX8_setLine 60 = .ok (.iload 5, 2) := by decide +kernel
theorem dX8_setLine_62 : decode cX8_setLine 62 = .ok (.iload 4, 2) := by decide +kernel
theorem dX8_setLine_64 : decode cX8_setLine 64 = .ok (.invokevirtual 53, 3) := by decide +kernel
theorem dX8_setLine_67 : decode cX8_setLine 67 = .ok (.iload 5, 2) := by decide +kernel
theorem dX8_setLine_69 : decode cX8_setLine 69 = .ok (.aload_n 0, 1) := by decide +kernel
theorem dX8_setLine_70 : decode cX8_setLine 70 = .ok (.getfield 21, 3) := by decide +kernel
theorem dX8_setLine_73 : decode cX8_setLine 73 = .ok (.iload 6, 2) := by decide +kernel
theorem dX8_setLine_75 : decode cX8_setLine 75 = .ok (.iaload, 1) := by decide +kernel
theorem dX8_setLine_76 : decode cX8_setLine 76 = .ok (.aload_n 0, 1) := by decide +kernel
theorem dX8_setLine_77 : decode cX8_setLine 77 = .ok (.getfield 24, 3) := by decide +kernel
theorem dX8_setLine_80 : decode cX8_setLine 80 = .ok (.iload 6, 2) := by decide +kernel
theorem dX8_setLine_82 : decode cX8_setLine 82 = .ok (.iaload, 1) := by decide +kernel
theorem dX8_setLine_83 : decode cX8_setLine 83 = .ok (.iadd, 1) := by decide +kernel
theorem dX8_setLine_84 : decode cX8_setLine 84 = .ok (.iadd, 1) := by decide +kernel
theorem dX8_setLine_85 : decode cX8_setLine 85 = .ok (.istore 5, 2) := by decide +kernel
theorem dX8_setLine_87 : decode cX8_setLine 87 = .ok (.iinc 6 1, 3) := by decide +kernel
theorem dX8_setLine_90 : decode cX8_setLine 90 = .ok (.goto (-80), 3) := by decide +kernel
theorem dX8_setLine_93 : decode cX8_setLine 93 = .ok (.return_, 1) := by decide +kernel
theorem dJ9_max_7cf53_0 : decode cJ9_max_7cf53 0 = .ok (.iload_n 0, 1) := by decide +kernel
theorem dJ9_max_7cf53_1 : decode cJ9_max_7cf53 1 = .ok (.iload_n 1, 1) := by decide +kernel
theorem dJ9_max_7cf53_2 : decode cJ9_max_7cf53 2 = .ok (.if_icmp .lt 7, 3) := by decide +kernel
theorem dJ9_max_7cf53_5 : decode cJ9_max_7cf53 5 = .ok (.iload_n 0, 1) := by decide +kernel
theorem dJ9_max_7cf53_6 : decode cJ9_max_7cf53 6 = .ok (.goto 4, 3) := by decide +kernel
theorem dJ9_max_7cf53_9 : decode cJ9_max_7cf53 9 = .ok (.iload_n 1, 1) := by decide +kernel
theorem dJ9_max_7cf53_10 : decode cJ9_max_7cf53 10 = .ok (.ireturn, 1) := by decide +kernel
theorem dJ9_min_7cf53_0 : decode cJ9_min_7cf53 0 = .ok (.iload_n 0, 1) := by decide +kernel
theorem dJ9_min_7cf53_1 : decode cJ9_min_7cf53 1 = .ok (.iload_n 1, 1) := by decide +kernel
theorem dJ9_min_7cf53_2 : decode cJ9_min_7cf53 2 = .ok (.if_icmp .gt 7, 3) := by decide +kernel
theorem dJ9_min_7cf53_5 : decode cJ9_min_7cf53 5 = .ok (.iload_n 0, 1) := by decide +kernel
theorem dJ9_min_7cf53_6 : decode cJ9_min_7cf53 6 = .ok (.goto 4, 3) := by decide +kernel
theorem dJ9_min_7cf53_9 : decode cJ9_min_7cf53 9 = .ok (.iload_n 1, 1) := by decide +kernel
theorem dJ9_min_7cf53_10 : decode cJ9_min_7cf53 10 = .ok (.ireturn, 1) := by decide +kernel
theorem dJxa1e45_init_da8c8_0 : decode cJxa1e45_init_da8c8 0 = .ok (.aload_n 0, 1) := by decide +kernel
theorem dJxa1e45_init_da8c8_1 : decode cJxa1e45_init_da8c8 1 = .ok (.invokespecial 1, 3) := by decide +kernel
theorem dJxa1e45_init_da8c8_4 : decode cJxa1e45_init_da8c8 4 = .ok (.return_, 1) := by decide +kernel
set_option maxRecDepth 20000 in
theorem ggJxc12de_init_da8c8_Jxa1e45_init_da8c8 : GoodIn wsJxc12de_init_da8c8 wsJxa1e45_init_da8c8 := goodIn_r _ [5, 6, 7, 8] (by decide +kernel) (by decide +kernel)
set_option maxRecDepth 20000 in
theorem gJxc12de_init_da8c8_Jxa1e45_init_da8c8 : GoodIn wsJxc12de_init_da8c8 (wsJxa1e45_init_da8c8) := ggJxc12de_init_da8c8_Jxa1e45_init_da8c8
theorem dJxc12de_init_da8c8_0 : decode cJxc12de_init_da8c8 0 = .ok (.aload_n 0, 1) := by decide +kernel
theorem dJxc12de_init_da8c8_1 : decode cJxc12de_init_da8c8 1 = .ok (.invokespecial 1, 3) := by decide +kernel
theorem dJxc12de_init_da8c8_4 : decode cJxc12de_init_da8c8 4 = .ok (.aload_n 0, 1) := by decide +kernel
theorem dJxc12de_init_da8c8_5 : decode cJxc12de_init_da8c8 5 = .ok (.iconst 0, 1) := by decide +kernel
theorem dJxc12de_init_da8c8_6 : decode cJxc12de_init_da8c8 6 = .ok (.putfield 7, 3) := by decide +kernel
theorem dJxc12de_init_da8c8_9 : decode cJxc12de_init_da8c8 9 = .ok (.return_, 1) := by decide +kernel
set_option maxRecDepth 20000 in
theorem ggJx4a65c_init_da8c8_Jxc12de_init_da8c8 : GoodIn wsJx4a65c_init_da8c8 wsJxc12de_init_da8c8 := goodIn_r _ [6, 7, 8, 9, 10, 11, 12, 13, 14, 15, 16, 17] (by decide +kernel) (by decide +kernel)
set_option maxRecDepth 20000 in
theorem gJx4a65c_init_da8c8_Jxc12de_init_da8c8 : GoodIn wsJx4a65c_init_da8c8 (wsJxc12de_init_da8c8) := ggJx4a65c_init_da8c8_Jxc12de_init_da8c8
theorem dJx4a65c_init_da8c8_0 : decode cJx4a65c_init_da8c8 0 = .ok (.aload_n 0, 1) := by decide +kernel
theorem dJx4a65c_init_da8c8_1 : decode cJx4a65c_init_da8c8 1 = .ok (.invokespecial 1, 3) := by decide +kernel
theorem dJx4a65c_init_da8c8_4 : decode cJx4a65c_init_da8c8 4 = .ok (.aload_n 0, 1) := by decide +kernel
theorem dJx4a65c_init_da8c8_5 : decode cJx4a65c_init_da8c8 5 = .ok (.getstatic 39, 3) := by decide +kernel
theorem dJx4a65c_init_da8c8_8 : decode cJx4a65c_init_da8c8 8 = .ok (.putfield 9, 3) := by decide +kernel
theorem dJx4a65c_init_da8c8_11 : decode cJx4a65c_init_da8c8 11 = .ok (.return_, 1) := by decide +kernel
set_option maxRecDepth 20000 in
theorem ggJx4a65c_grow_92f84_J8_newLength_cabcc : GoodIn wsJx4a65c_grow_92f84 wsJ8_newLength_cabcc := goodIn_r _ [11, 12, 4, 5, 6, 13, 14, 15, 10, 16] (by decide +kernel) (by decide +kernel)
set_option maxRecDepth 20000 in
theorem gJx4a65c_grow_92f84_J8_newLength_cabcc : GoodIn wsJx4a65c_grow_92f84 (va_wsS RJx4a65c 73 yJ8_newLength_cabcc wsJ8_newLength_cabcc) := goodIn_app (goodIn_of _ (by decide +kernel)) ggJx4a65c_grow_92f84_J8_newLength_cabcc
set_option maxRecDepth 20000 in
theorem ggJx4a65c_grow_92f84_J7_copyOf_1904c : GoodIn wsJx4a65c_grow_92f84 wsJ7_copyOf_1904c := goodIn_r _ [20, 21, 22, 23, 24, 25, 26, 19, 27, 28, 29, 30, 31, 5, 32, 33, 34, 35, 36] (by decide +kernel) (by decide +kernel)
set_option maxRecDepth 20000 in
theorem gJx4a65c_grow_92f84_J7_copyOf_1904c : GoodIn wsJx4a65c_grow_92f84 (va_wsS RJx4a65c 66 yJ7_copyOf_1904c wsJ7_copyOf_1904c) := goodIn_app (goodIn_of _ (by decide +kernel)) ggJx4a65c_grow_92f84_J7_copyOf_1904c
theorem dJx4a65c_grow_92f84_0 : decode cJx4a65c_grow_92f84 0 = .ok (.aload_n 0, 1) := by decide +kernel
theorem dJx4a65c_grow_92f84_1 : decode cJx4a65c_grow_92f84 1 = .ok (.getfield 9, 3) := by decide +kernel
theorem dJx4a65c_grow_92f84_4 : decode cJx4a65c_grow_92f84 4 = .ok (.arraylength, 1) := by decide +kernel
theorem dJx4a65c_grow_92f84_5 : decode cJx4a65c_grow_92f84 5 = .ok (.istore_n 2, 1) := by decide +kernel
theorem dJx4a65c_grow_92f84_6 : decode cJx4a65c_grow_92f84 6 = .ok (.iload_n 2, 1) := by decide +kernel
theorem dJx4a65c_grow_92f84_7 : decode cJx4a65c_grow_92f84 7 = .ok (.ifCond .gt 13, 3) := by decide +kernel
theorem dJx4a65c_grow_92f84_10 : decode cJx4a65c_grow_92f84 10 = .ok (.aload_n 0, 1) := by decide +kernel
theorem dJx4a65c_grow_92f84_11 : decode cJx4a65c_grow_92f84 11 = .ok (.getfield 9, 3) := by decide +kernel
theorem dJx4a65c_grow_92f84_14 : decode cJx4a65c_grow_92f84 14 = .ok (.getstatic 39, 3) := by decide +kernel
theorem dJx4a65c_grow_92f84_17 : decode cJx4a65c_grow_92f84 17 = .ok (.if_acmp .eq 28, 3) := by decide +kernel
theorem dJx4a65c_grow_92f84_20 : decode cJx4a65c_grow_92f84 20 = .ok (.iload_n 2, 1) := by decide +kernel
theorem dJx4a65c_grow_92f84_21 : decode cJx4a65c_grow_92f84 21 = .ok (.iload_n 1, 1) := by decide +kernel
theorem dJx4a65c_grow_92f84_22 : decode cJx4a65c_grow_92f84 22 = .ok (.iload_n 2, 1) := by decide +kernel
theorem dJx4a65c_grow_92f84_23 : decode cJx4a65c_grow_92f84 23 = .ok (.isub, 1) := by decide +kernel
theorem dJx4a65c_grow_92f84_24 : decode cJx4a65c_grow_92f84 24 = .ok (.iload_n 2, 1) := by decide +kernel
theorem dJx4a65c_grow_92f84_25 : decode cJx4a65c_grow_92f84 25 = .ok (.iconst 1, 1) := by decide +kernel
theorem dJx4a65c_grow_92f84_26 : decode cJx4a65c_grow_92f84 26 = .ok (.ishr, 1) := by decide +kernel
theorem dJx4a65c_grow_92f84_27 : decode cJx4a65c_grow_92f84 27 = .ok (.invokestatic 73, 3) := by decide +kernel
theorem dJx4a65c_grow_92f84_30 : decode cJx4a65c_grow_92f84 30 = .ok (.istore_n 3, 1) := by decide +kernel
theorem dJx4a65c_grow_92f84_31 : decode cJx4a65c_grow_92f84 31 = .ok (.aload_n 0, 1) := by decide +kernel
theorem dJx4a65c_grow_92f84_32 : decode cJx4a65c_grow_92f84 32 = .ok (.aload_n 0, 1) := by decide +kernel
theorem dJx4a65c_grow_92f84_33 : decode cJx4a65c_grow_92f84 33 = .ok (.getfield 9, 3) := by decide +kernel
theorem dJx4a65c_grow_92f84_36 : decode cJx4a65c_grow_92f84 36 = .ok (.iload_n 3, 1) := by decide +kernel
theorem dJx4a65c_grow_92f84_37 : decode cJx4a65c_grow_92f84 37 = .ok (.invokestatic 66, 3) := by decide +kernel
theorem dJx4a65c_grow_92f84_40 : decode cJx4a65c_grow_92f84 40 = .ok (.dup_x1, 1) := by decide +kernel
theorem dJx4a65c_grow_92f84_41 : decode cJx4a65c_grow_92f84 41 = .ok (.putfield 9, 3) := by decide +kernel
theorem dJx4a65c_grow_92f84_44 : decode cJx4a65c_grow_92f84 44 = .ok (.areturn, 1) := by decide +kernel
theorem dJx4a65c_grow_92f84_45 : decode cJx4a65c_grow_92f84 45 = .ok (.aload_n 0, 1) := by decide +kernel
theorem dJx4a65c_grow_92f84_46 : decode cJx4a65c_grow_92f84 46 = .ok (.bipush 10, 2) := by decide +kernel
theorem dJx4a65c_grow_92f84_48 : decode cJx4a65c_grow_92f84 48 = .ok (.iload_n 1, 1) := by decide +kernel
theorem dJx4a65c_grow_92f84_49 : decode cJx4a65c_grow_92f84 49 = .ok (.invokestatic 79, 3) := by decide +kernel
theorem dJx4a65c_grow_92f84_52 : decode cJx4a65c_grow_92f84 52 = .ok (.anewarray 7, 3) := by decide +kernel
theorem dJx4a65c_grow_92f84_55 : decode cJx4a65c_grow_92f84 55 = .ok (.dup_x1, 1) := by decide +kernel
theorem dJx4a65c_grow_92f84_56 : decode cJx4a65c_grow_92f84 56 = .ok (.putfield 9, 3) := by decide +kernel
theorem dJx4a65c_grow_92f84_59 : decode cJx4a65c_grow_92f84 59 = .ok (.areturn, 1) := by decide +kernel
set_option maxRecDepth 20000 in
theorem ggJx4a65c_grow_d5877_Jx4a65c_grow_92f84 : GoodIn wsJx4a65c_grow_d5877 wsJx4a65c_grow_92f84 := goodIn_r _ [6, 7, 8, 9, 10, 11, 12, 13, 14, 15, 16, 17, 18, 19, 20, 21, 22, 23, 24, 25, 26, 27, 28, 29, 30, 31, 32, 33, 34, 35, 36, 37, 38, 39, 40, 41, 42, 43, 44, 45] (by decide +kernel) (by decide +kernel)
set_option maxRecDepth 20000 in
theorem gJx4a65c_grow_d5877_Jx4a65c_grow_92f84 : GoodIn wsJx4a65c_grow_d5877 (wsV RJx4a65c 69 RJx4a65c yJx4a65c_grow_92f84 wsJx4a65c_grow_92f84) := goodIn_app (goodIn_of _ (by decide +kernel)) ggJx4a65c_grow_d5877_Jx4a65c_grow_92f84
theorem dJx4a65c_grow_d5877_0 : decode cJx4a65c_grow_d5877 0 = .ok (.aload_n 0, 1) := by decide +kernel
theorem dJx4a65c_grow_d5877_1 : decode cJx4a65c_grow_d5877 1 = .ok (.aload_n 0, 1) := by decide +kernel
theorem dJx4a65c_grow_d5877_2 : decode cJx4a65c_grow_d5877 2 = .ok (.getfield 48, 3) := by decide +kernel
theorem dJx4a65c_grow_d5877_5 : decode cJx4a65c_grow_d5877 5 = .ok (.iconst 1, 1) := by decide +kernel
theorem dJx4a65c_grow_d5877_6 : decode cJx4a65c_grow_d5877 6 = .ok (.iadd, 1) := by decide +kernel
theorem dJx4a65c_grow_d5877_7 : decode cJx4a65c_grow_d5877 7 = .ok (.invokevirtual 69, 3) := by decide +kernel
theorem dJx4a65c_grow_d5877_10 : decode cJx4a65c_grow_d5877 10 = .ok (.areturn, 1) := by decide +kernel
theorem dJx4a65c_size_8abf5_0 : decode cJx4a65c_size_8abf5 0 = .ok (.aload_n 0, 1) := by decide +kernel
theorem dJx4a65c_size_8abf5_1 : decode cJx4a65c_size_8abf5 1 = .ok (.getfield 48, 3) := by decide +kernel
theorem dJx4a65c_size_8abf5_4 : decode cJx4a65c_size_8abf5 4 = .ok (.ireturn, 1) := by decide +kernel
theorem dJx4a65c_isEmpty_aae02_0 : decode cJx4a65c_isEmpty_aae02 0 = .ok (.aload_n 0, 1) := by decide +kernel
theorem dJx4a65c_isEmpty_aae02_1 : decode cJx4a65c_isEmpty_aae02 1 = .ok (.getfield 48, 3) := by decide +kernel
theorem dJx4a65c_isEmpty_aae02_4 : decode cJx4a65c_isEmpty_aae02 4 = .ok (.ifCond .ne 7, 3) := by decide +kernel
theorem dJx4a65c_isEmpty_aae02_7 : decode cJx4a65c_isEmpty_aae02 7 = .ok (.iconst 1, 1) := by decide +kernel
theorem dJx4a65c_isEmpty_aae02_8 : decode cJx4a65c_isEmpty_aae02 8 = .ok (.goto 4, 3) := by decide +kernel
theorem dJx4a65c_isEmpty_aae02_11 : decode cJx4a65c_isEmpty_aae02 11 = .ok (.iconst 0, 1) := by decide +kernel
theorem dJx4a65c_isEmpty_aae02_12 : decode cJx4a65c_isEmpty_aae02 12 = .ok (.ireturn, 1) := by decide +kernel
theorem dJx4a65c_elementData_915e3_0 : decode cJx4a65c_elementData_915e3 0 = .ok (.aload_n 0, 1) := by decide +kernel
theorem dJx4a65c_elementData_915e3_1 : decode cJx4a65c_elementData_915e3 1 = .ok (.getfield 9, 3) := by decide +kernel
theorem dJx4a65c_elementData_915e3_4 : decode cJx4a65c_elementData_915e3 4 = .ok (.iload_n 1, 1) := by decide +kernel
theorem dJx4a65c_elementData_915e3_5 : decode cJx4a65c_elementData_915e3 5 = .ok (.aaload, 1) := by decide +kernel
theorem dJx4a65c_elementData_915e3_6 : decode cJx4a65c_elementData_915e3 6 = .ok (.areturn, 1) := by decide +kernel
set_option maxRecDepth 20000 in
theorem ggJx4a65c_get_915e3_J15_checkIndex_7cf53 : GoodIn wsJx4a65c_get_915e3 wsJ15_checkIndex_7cf53 := goodIn_r _ [5, 6, 7, 8, 9] (by decide +kernel) (by decide +kernel)
set_option maxRecDepth 20000 in
theorem gJx4a65c_get_915e3_J15_checkIndex_7cf53 : GoodIn wsJx4a65c_get_915e3 (va_wsS RJx4a65c 118 yJ15_checkIndex_7cf53 wsJ15_checkIndex_7cf53) := goodIn_app (goodIn_of _ (by decide +kernel)) ggJx4a65c_get_915e3_J15_checkIndex_7cf53
set_option maxRecDepth 20000 in
theorem ggJx4a65c_get_915e3_Jx4a65c_elementData_915e3 : GoodIn wsJx4a65c_get_915e3 wsJx4a65c_elementData_915e3 := goodIn_r _ [14, 15, 16, 17, 18] (by decide +kernel) (by decide +kernel)
set_option maxRecDepth 20000 in
theorem gJx4a65c_get_915e3_Jx4a65c_elementData_915e3 : GoodIn wsJx4a65c_get_915e3 (wsV RJx4a65c 123 RJx4a65c yJx4a65c_elementData_915e3 wsJx4a65c_elementData_915e3) := goodIn_app (goodIn_of _ (by decide +kernel)) ggJx4a65c_get_915e3_Jx4a65c_elementData_915e3
theorem dJx4a65c_get_915e3_0 : decode cJx4a65c_get_915e3 0 = .ok (.iload_n 1, 1) := by decide +kernel
theorem dJx4a65c_get_915e3_1 : decode cJx4a65c_get_915e3 1 = .ok (.aload_n 0, 1) := by decide +kernel
theorem dJx4a65c_get_915e3_2 : decode cJx4a65c_get_915e3 2 = .ok (.getfield 48, 3) := by decide +kernel
theorem dJx4a65c_get_915e3_5 : decode cJx4a65c_get_915e3 5 = .ok (.invokestatic 118, 3) := by decide +kernel
theorem dJx4a65c_get_915e3_8 : decode cJx4a65c_get_915e3 8 = .ok (.pop, 1) := by decide +kernel
theorem dJx4a65c_get_915e3_9 : decode cJx4a65c_get_915e3 9 = .ok (.aload_n 0, 1) := by decide +kernel
theorem dJx4a65c_get_915e3_10 : decode cJx4a65c_get_915e3 10 = .ok (.iload_n 1, 1) := by decide +kernel
theorem dJx4a65c_get_915e3_11 : decode cJx4a65c_get_915e3 11 = .ok (.invokevirtual 123, 3) := by decide +kernel
theorem dJx4a65c_get_915e3_14 : decode cJx4a65c_get_915e3 14 = .ok (.areturn, 1) := by decide +kernel
set_option maxRecDepth 20000 in
theorem ggJx4a65c_set_bcc79_J15_checkIndex_7cf53 : GoodIn wsJx4a65c_set_bcc79 wsJ15_checkIndex_7cf53 := goodIn_r _ [6, 7, 8, 9, 10] (by decide +kernel) (by decide +kernel)
set_option maxRecDepth 20000 in
theorem gJx4a65c_set_bcc79_J15_checkIndex_7cf53 : GoodIn wsJx4a65c_set_bcc79 (va_wsS RJx4a65c 118 yJ15_checkIndex_7cf53 wsJ15_checkIndex_7cf53) := goodIn_app (goodIn_of _ (by decide +kernel)) ggJx4a65c_set_bcc79_J15_checkIndex_7cf53
set_option maxRecDepth 20000 in
theorem ggJx4a65c_set_bcc79_Jx4a65c_elementData_915e3 : GoodIn wsJx4a65c_set_bcc79 wsJx4a65c_elementData_915e3 := goodIn_r _ [15, 2, 16, 17, 18] (by decide +kernel) (by decide +kernel)
set_option maxRecDepth 20000 in
theorem gJx4a65c_set_bcc79_Jx4a65c_elementData_915e3 : GoodIn wsJx4a65c_set_bcc79 (wsV RJx4a65c 123 RJx4a65c yJx4a65c_elementData_915e3 wsJx4a65c_elementData_915e3) := goodIn_app (goodIn_of _ (by decide +kernel)) ggJx4a65c_set_bcc79_Jx4a65c_elementData_915e3
theorem dJx4a65c_set_bcc79_0 : decode cJx4a65c_set_bcc79 0 = .ok (.iload_n 1, 1) := by decide +kernel
theorem dJx4a65c_set_bcc79_1 : decode cJx4a65c_set_bcc79 1 = .ok (.aload_n 0, 1) := by decide +kernel
theorem dJx4a65c_set_bcc79_2 : decode cJx4a65c_set_bcc79 2 = .ok (.getfield 48, 3) := by decide +kernel
theorem dJx4a65c_set_bcc79_5 : decode cJx4a65c_set_bcc79 5 = .ok (.invokestatic 118, 3) := by decide +kernel
theorem dJx4a65c_set_bcc79_8 : decode cJx4a65c_set_bcc79 8 = .ok (.pop, 1) := by decide +kernel
theorem dJx4a65c_set_bcc79_9 : decode cJx4a65c_set_bcc79 9 = .ok (.aload_n 0, 1) := by decide +kernel
theorem dJx4a65c_set_bcc79_10 : decode cJx4a65c_set_bcc79 10 = .ok (.iload_n 1, 1) := by decide +kernel
theorem dJx4a65c_set_bcc79_11 : decode cJx4a65c_set_bcc79 11 = .ok (.invokevirtual 123, 3) := by decide +kernel
theorem dJx4a65c_set_bcc79_14 : decode cJx4a65c_set_bcc79 14 = .ok (.astore_n 3, 1) := by decide +kernel
theorem dJx4a65c_set_bcc79_15 : decode cJx4a65c_set_bcc79 15 = .ok (.aload_n 0, 1) := by decide +kernel
theorem dJx4a65c_set_bcc79_16 : decode cJx4a65c_set_bcc79 16 = .ok (.getfield 9, 3) := by decide +kernel
theorem dJx4a65c_set_bcc79_19 : decode cJx4a65c_set_bcc79 19 = .ok (.iload_n 1, 1) := by decide +kernel
theorem dJx4a65c_set_bcc79_20 : decode cJx4a65c_set_bcc79 20 = .ok (.aload_n 2, 1) := by decide +kernel
theorem dJx4a65c_set_bcc79_21 : decode cJx4a65c_set_bcc79 21 = .ok (.aastore, 1) := by decide +kernel
theorem dJx4a65c_set_bcc79_22 : decode cJx4a65c_set_bcc79 22 = .ok (.aload_n 3, 1) := by decide +kernel
theorem dJx4a65c_set_bcc79_23 : decode cJx4a65c_set_bcc79 23 = .ok (.areturn, 1) := by decide +kernel
set_option maxRecDepth 20000 in
theorem ggJx4a65c_add_72be8_Jx4a65c_grow_d5877 : GoodIn wsJx4a65c_add_72be8 wsJx4a65c_grow_d5877 := goodIn_r _ [6, 1, 7, 8, 9, 5, 10, 11, 12, 13, 14, 15, 16, 17, 18, 19, 20, 21, 22, 23, 24, 25, 26, 27, 28, 29, 30, 31, 32, 33, 34, 35, 36, 37, 38, 39, 40, 41, 42, 43, 44, 45, 46, 47, 48, 49] (by decide +kernel) (by decide +kernel)
set_option maxRecDepth 20000 in
theorem gJx4a65c_add_72be8_Jx4a65c_grow_d5877 : GoodIn wsJx4a65c_add_72be8 (wsV RJx4a65c 129 RJx4a65c yJx4a65c_grow_d5877 wsJx4a65c_grow_d5877) := goodIn_app (goodIn_of _ (by decide +kernel)) ggJx4a65c_add_72be8_Jx4a65c_grow_d5877
theorem dJx4a65c_add_72be8_0 : decode cJx4a65c_add_72be8 0 = .ok (.iload_n 3, 1) := by decide +kernel
theorem dJx4a65c_add_72be8_1 : decode cJx4a65c_add_72be8 1 = .ok (.aload_n 2, 1) := by decide +kernel
theorem dJx4a65c_add_72be8_2 : decode cJx4a65c_add_72be8 2 = .ok (.arraylength, 1) := by decide +kernel
theorem dJx4a65c_add_72be8_3 : decode cJx4a65c_add_72be8 3 = .ok (.if_icmp .ne 8, 3) := by decide +kernel
theorem dJx4a65c_add_72be8_6 : decode cJx4a65c_add_72be8 6 = .ok (.aload_n 0, 1) := by decide +kernel
theorem dJx4a65c_add_72be8_7 : decode cJx4a65c_add_72be8 7 = .ok (.invokevirtual 129, 3) := by decide +kernel
theorem dJx4a65c_add_72be8_10 : decode cJx4a65c_add_72be8 10 = .ok (.astore_n 2, 1) := by decide +kernel
theorem dJx4a65c_add_72be8_11 : decode cJx4a65c_add_72be8 11 = .ok (.aload_n 2, 1) := by decide +kernel
theorem dJx4a65c_add_72be8_12 : decode cJx4a65c_add_72be8 12 = .ok (.iload_n 3, 1) := by decide +kernel
theorem dJx4a65c_add_72be8_13 : decode cJx4a65c_add_72be8 13 = .ok (.aload_n 1, 1) := by decide +kernel
theorem dJx4a65c_add_72be8_14 : decode cJx4a65c_add_72be8 14 = .ok (.aastore, 1) := by decide +kernel
theorem dJx4a65c_add_72be8_15 : decode cJx4a65c_add_72be8 15 = .ok (.aload_n 0, 1) := by decide +kernel
theorem dJx4a65c_add_72be8_16 : decode cJx4a65c_add_72be8 16 = .ok (.iload_n 3, 1) := by decide +kernel
theorem dJx4a65c_add_72be8_17 : decode cJx4a65c_add_72be8 17 = .ok (.iconst 1, 1) := by decide +kernel
theorem dJx4a65c_add_72be8_18 : decode cJx4a65c_add_72be8 18 = .ok (.iadd, 1) := by decide +kernel
theorem dJx4a65c_add_72be8_19 : decode cJx4a65c_add_72be8 19 = .ok (.putfield 48, 3) := by decide +kernel
theorem dJx4a65c_add_72be8_22 : decode cJx4a65c_add_72be8 22 = .ok (.return_, 1) := by decide +kernel
set_option maxRecDepth 20000 in
theorem ggJx4a65c_add_9ea2d_Jx4a65c_add_72be8 : GoodIn wsJx4a65c_add_9ea2d wsJx4a65c_add_72be8 := goodIn_r _ [9, 4, 10, 11, 12, 8, 13, 14, 15, 16, 17, 3, 18, 19, 20, 21, 22, 23, 24, 25, 26, 27, 28, 29, 30, 31, 32, 33, 34, 35, 36, 37, 38, 39, 40, 41, 42, 43, 44, 45, 46, 47, 48, 49, 50, 51, 52, 53, 54, 55] (by decide +kernel) (by decide +kernel)
set_option maxRecDepth 20000 in
theorem gJx4a65c_add_9ea2d_Jx4a65c_add_72be8 : GoodIn wsJx4a65c_add_9ea2d (wsV RJx4a65c 131 RJx4a65c yJx4a65c_add_72be8 wsJx4a65c_add_72be8) := goodIn_app (goodIn_of _ (by decide +kernel)) ggJx4a65c_add_9ea2d_Jx4a65c_add_72be8
theorem dJx4a65c_add_9ea2d_0 : decode cJx4a65c_add_9ea2d 0 = .ok (.aload_n 0, 1) := by decide +kernel
theorem dJx4a65c_add_9ea2d_1 : decode cJx4a65c_add_9ea2d 1 = .ok (.dup, 1) := by decide +kernel
theorem dJx4a65c_add_9ea2d_2 : decode cJx4a65c_add_9ea2d 2 = .ok (.getfield 63, 3) := by decide +kernel
theorem dJx4a65c_add_9ea2d_5 : decode cJx4a65c_add_9ea2d 5 = .ok (.iconst 1, 1) := by decide +kernel
theorem dJx4a65c_add_9ea2d_6 : decode cJx4a65c_add_9ea2d 6 = .ok (.iadd, 1) := by decide +kernel
theorem dJx4a65c_add_9ea2d_7 : decode cJx4a65c_add_9ea2d 7 = .ok (.putfield 63, 3) := by decide +kernel
theorem dJx4a65c_add_9ea2d_10 : decode cJx4a65c_add_9ea2d 10 = .ok (.aload_n 0, 1) := by decide +kernel
theorem dJx4a65c_add_9ea2d_11 : decode cJx4a65c_add_9ea2d 11 = .ok (.aload_n 1, 1) := by decide +kernel
theorem dJx4a65c_add_9ea2d_12 : decode cJx4a65c_add_9ea2d 12 = .ok (.aload_n 0, 1) := by decide +kernel
theorem dJx4a65c_add_9ea2d_13 : decode cJx4a65c_add_9ea2d 13 = .ok (.getfield 9, 3) := by decide +kernel
theorem dJx4a65c_add_9ea2d_16 : decode cJx4a65c_add_9ea2d 16 = .ok (.aload_n 0, 1) := by decide +kernel
theorem dJx4a65c_add_9ea2d_17 : decode cJx4a65c_add_9ea2d 17 = .ok (.getfield 48, 3) := by decide +kernel
theorem dJx4a65c_add_9ea2d_20 : decode cJx4a65c_add_9ea2d 20 = .ok (.invokevirtual 131, 3) := by decide +kernel
theorem dJx4a65c_add_9ea2d_23 : decode cJx4a65c_add_9ea2d 23 = .ok (.iconst 1, 1) := by decide +kernel
theorem dJx4a65c_add_9ea2d_24 : decode cJx4a65c_add_9ea2d 24 = .ok (.ireturn, 1) := by decide +kernel
set_option maxRecDepth 20000 in
theorem ggJx4a65c_add_7a177_Jx4a65c_rangeCheckForAdd_d00df : GoodIn wsJx4a65c_add_7a177 wsJx4a65c_rangeCheckForAdd_d00df := goodIn_r _ [13, 3, 54, 55, 56] (by decide +kernel) (by decide +kernel)
set_option maxRecDepth 20000 in
theorem gJx4a65c_add_7a177_Jx4a65c_rangeCheckForAdd_d00df : GoodIn wsJx4a65c_add_7a177 (wsV RJx4a65c 135 RJx4a65c yJx4a65c_rangeCheckForAdd_d00df wsJx4a65c_rangeCheckForAdd_d00df) := goodIn_app (goodIn_of _ (by decide +kernel)) ggJx4a65c_add_7a177_Jx4a65c_rangeCheckForAdd_d00df
set_option maxRecDepth 20000 in
theorem ggJx4a65c_add_7a177_Jx4a65c_grow_d5877 : GoodIn wsJx4a65c_add_7a177 wsJx4a65c_grow_d5877 := goodIn_r _ [17, 3, 18, 19, 20, 12, 21, 4, 22, 23, 24, 25, 26, 27, 28, 29, 30, 31, 32, 33, 34, 35, 36, 37, 38, 39, 40, 41, 42, 43, 44, 45, 46, 47, 48, 49, 50, 51, 52, 53, 6, 7, 8, 54, 55, 56] (by decide +kernel) (by decide +kernel)
set_option maxRecDepth 20000 in
theorem gJx4a65c_add_7a177_Jx4a65c_grow_d5877 : GoodIn wsJx4a65c_add_7a177 (wsV RJx4a65c 129 RJx4a65c yJx4a65c_grow_d5877 wsJx4a65c_grow_d5877) := goodIn_app (goodIn_of _ (by decide +kernel)) ggJx4a65c_add_7a177_Jx4a65c_grow_d5877
theorem dJx4a65c_add_7a177_0 : decode cJx4a65c_add_7a177 0 = .ok (.aload_n 0, 1) := by decide +kernel
theorem dJx4a65c_add_7a177_1 : decode cJx4a65c_add_7a177 1 = .ok (.iload_n 1, 1) := by decide +kernel
theorem dJx4a65c_add_7a177_2 : decode cJx4a65c_add_7a177 2 = .ok (.invokevirtual 135, 3) := by decide +kernel
theorem dJx4a65c_add_7a177_5 : decode cJx4a65c_add_7a177 5 = .ok (.aload_n 0, 1) := by decide +kernel
theorem dJx4a65c_add_7a177_6 : decode cJx4a65c_add_7a177 6 = .ok (.dup, 1) := by decide +kernel
theorem dJx4a65c_add_7a177_7 : decode cJx4a65c_add_7a177 7 = .ok (.getfield 63, 3) := by decide +kernel
theorem dJx4a65c_add_7a177_10 : decode cJx4a65c_add_7a177 10 = .ok (.iconst 1, 1) := by decide +kernel
theorem dJx4a65c_add_7a177_11 : decode cJx4a65c_add_7a177 11 = .ok (.iadd, 1) := by decide +kernel
theorem dJx4a65c_add_7a177_12 : decode cJx4a65c_add_7a177 12 = .ok (.putfield 63, 3) := by decide +kernel
theorem dJx4a65c_add_7a177_15 : decode cJx4a65c_add_7a177 15 = .ok (.aload_n 0, 1) := by decide +kernel
theorem dJx4a65c_add_7a177_16 : decode cJx4a65c_add_7a177 16 = .ok (.getfield 48, 3) := by decide +kernel
theorem dJx4a65c_add_7a177_19 : decode cJx4a65c_add_7a177 19 = .ok (.dup, 1) := by decide +kernel
theorem dJx4a65c_add_7a177_20 : decode cJx4a65c_add_7a177 20 = .ok (.istore_n 3, 1) := by decide +kernel
theorem dJx4a65c_add_7a177_21 : decode cJx4a65c_add_7a177 21 = .ok (.aload_n 0, 1) := by decide +kernel
theorem dJx4a65c_add_7a177_22 : decode cJx4a65c_add_7a177 22 = .ok (.getfield 9, 3) := by decide +kernel
theorem dJx4a65c_add_7a177_25 : decode cJx4a65c_add_7a177 25 = .ok (.dup, 1) := by decide +kernel
theorem dJx4a65c_add_7a177_26 : decode cJx4a65c_add_7a177 26 = .ok (.astore 4, 2) := by decide +kernel
theorem dJx4a65c_add_7a177_28 : decode cJx4a65c_add_7a177 28 = .ok (.arraylength, 1) := by decide +kernel
theorem dJx4a65c_add_7a177_29 : decode cJx4a65c_add_7a177 29 = .ok (.if_icmp .ne 9, 3) := by decide +kernel
theorem dJx4a65c_add_7a177_32 : decode cJx4a65c_add_7a177 32 = .ok (.aload_n 0, 1) := by decide +kernel
theorem dJx4a65c_add_7a177_33 : decode cJx4a65c_add_7a177 33 = .ok (.invokevirtual 129, 3) := by decide +kernel
theorem dJx4a65c_add_7a177_36 : decode cJx4a65c_add_7a177 36 = .ok (.astore 4, 2) := by decide +kernel
theorem dJx4a65c_add_7a177_38 : decode cJx4a65c_add_7a177 38 = .ok (.aload 4, 2) := by decide +kernel
theorem dJx4a65c_add_7a177_40 : decode cJx4a65c_add_7a177 40 = .ok (.iload_n 1, 1) := by decide +kernel
theorem dJx4a65c_add_7a177_41 : decode cJx4a65c_add_7a177 41 = .ok (.aload 4, 2) := by decide +kernel
theorem dJx4a65c_add_7a177_43 : decode cJx4a65c_add_7a177 43 = .ok (.iload_n 1, 1) := by decide +kernel
theorem dJx4a65c_add_7a177_44 : decode cJx4a65c_add_7a177 44 = .ok (.iconst 1, 1) := by decide +kernel
theorem dJx4a65c_add_7a177_45 : decode cJx4a65c_add_7a177 45 = .ok (.iadd, 1) := by decide +kernel
theorem dJx4a65c_add_7a177_46 : decode cJx4a65c_add_7a177 46 = .ok (.iload_n 3, 1) := by decide +kernel
theorem dJx4a65c_add_7a177_47 : decode cJx4a65c_add_7a177 47 = .ok (.iload_n 1, 1) := by decide +kernel
theorem dJx4a65c_add_7a177_48 : decode cJx4a65c_add_7a177 48 = .ok (.isub, 1) := by decide +kernel
theorem dJx4a65c_add_7a177_49 : decode cJx4a65c_add_7a177 49 = .ok (.invokestatic 112, 3) := by decide +kernel
theorem dJx4a65c_add_7a177_52 : decode cJx4a65c_add_7a177 52 = .ok (.aload 4, 2) := by decide +kernel
theorem dJx4a65c_add_7a177_54 : decode cJx4a65c_add_7a177 54 = .ok (.iload_n 1, 1) := by decide +kernel
theorem dJx4a65c_add_7a177_55 : decode cJx4a65c_add_7a177 55 = .ok (.aload_n 2, 1) := by decide +kernel
theorem dJx4a65c_add_7a177_56 : decode cJx4a65c_add_7a177 56 = .ok (.aastore, 1) := by decide +kernel
theorem dJx4a65c_add_7a177_57 : decode cJx4a65c_add_7a177 57 = .ok (.aload_n 0, 1) := by decide +kernel
theorem dJx4a65c_add_7a177_58 : decode cJx4a65c_add_7a177 58 = .ok (.iload_n 3, 1) := by decide +kernel
theorem dJx4a65c_add_7a177_59 : decode cJx4a65c_add_7a177 59 = .ok (.iconst 1, 1) := by decide +kernel
theorem dJx4a65c_add_7a177_60 : decode cJx4a65c_add_7a177 60 = .ok (.iadd, 1) := by decide +kernel
theorem dJx4a65c_add_7a177_61 : decode cJx4a65c_add_7a177 61 = .ok (.putfield 48, 3) := by decide +kernel
theorem dJx4a65c_add_7a177_64 : decode cJx4a65c_add_7a177 64 = .ok (.return_, 1) := by decide +kernel
set_option maxRecDepth 20000 in
theorem ggJx4a65c_remove_915e3_J15_checkIndex_7cf53 : GoodIn wsJx4a65c_remove_915e3 wsJ15_checkIndex_7cf53 := goodIn_r _ [6, 7, 8, 9, 10] (by decide +kernel) (by decide +kernel)
set_option maxRecDepth 20000 in
theorem gJx4a65c_remove_915e3_J15_checkIndex_7cf53 : GoodIn wsJx4a65c_remove_915e3 (va_wsS RJx4a65c 118 yJ15_checkIndex_7cf53 wsJ15_checkIndex_7cf53) := goodIn_app (goodIn_of _ (by decide +kernel)) ggJx4a65c_remove_915e3_J15_checkIndex_7cf53
set_option maxRecDepth 20000 in
theorem ggJx4a65c_remove_915e3_Jx4a65c_fastRemove_b59b0 : GoodIn wsJx4a65c_remove_915e3 wsJx4a65c_fastRemove_b59b0 := goodIn_r _ [15, 16, 17, 1, 18, 19, 20, 21, 22, 23, 24] (by decide +kernel) (by decide +kernel)
set_option maxRecDepth 20000 in
theorem gJx4a65c_remove_915e3_Jx4a65c_fastRemove_b59b0 : GoodIn wsJx4a65c_remove_915e3 (wsV RJx4a65c 144 RJx4a65c yJx4a65c_fastRemove_b59b0 wsJx4a65c_fastRemove_b59b0) := goodIn_app (goodIn_of _ (by decide +kernel)) ggJx4a65c_remove_915e3_Jx4a65c_fastRemove_b59b0
theorem dJx4a65c_remove_915e3_0 : decode cJx4a65c_remove_915e3 0 = .ok (.iload_n 1, 1) := by decide +kernel
theorem dJx4a65c_remove_915e3_1 : decode cJx4a65c_remove_915e3 1 = .ok (.aload_n 0, 1) := by decide +kernel
theorem dJx4a65c_remove_915e3_2 : decode cJx4a65c_remove_915e3 2 = .ok (.getfield 48, 3) := by decide +kernel
theorem dJx4a65c_remove_915e3_5 : decode cJx4a65c_remove_915e3 5 = .ok (.invokestatic 118, 3) := by decide +kernel
theorem dJx4a65c_remove_915e3_8 : decode cJx4a65c_remove_915e3 8 = .ok (.pop, 1) := by decide +kernel
theorem dJx4a65c_remove_915e3_9 : decode cJx4a65c_remove_915e3 9 = .ok (.aload_n 0, 1) := by decide +kernel
theorem dJx4a65c_remove_915e3_10 : decode cJx4a65c_remove_915e3 10 = .ok (.getfield 9, 3) := by decide +kernel
theorem dJx4a65c_remove_915e3_13 : decode cJx4a65c_remove_915e3 13 = .ok (.astore_n 2, 1) := by decide +kernel
theorem dJx4a65c_remove_915e3_14 : decode cJx4a65c_remove_915e3 14 = .ok (.aload_n 2, 1) := by decide +kernel
theorem dJx4a65c_remove_915e3_15 : decode cJx4a65c_remove_915e3 15 = .ok (.iload_n 1, 1) := by decide +kernel
theorem dJx4a65c_remove_915e3_16 : decode cJx4a65c_remove_915e3 16 = .ok (.aaload, 1) := by decide +kernel
theorem dJx4a65c_remove_915e3_17 : decode cJx4a65c_remove_915e3 17 = .ok (.astore_n 3, 1) := by decide +kernel
theorem dJx4a65c_remove_915e3_18 : decode cJx4a65c_remove_915e3 18 = .ok (.aload_n 0, 1) := by decide +kernel
theorem dJx4a65c_remove_915e3_19 : decode cJx4a65c_remove_915e3 19 = .ok (.aload_n 2, 1) := by decide +kernel
theorem dJx4a65c_remove_915e3_20 : decode cJx4a65c_remove_915e3 20 = .ok (.iload_n 1, 1) := by decide +kernel
theorem dJx4a65c_remove_915e3_21 : decode cJx4a65c_remove_915e3 21 = .ok (.invokevirtual 144, 3) := by decide +kernel
theorem dJx4a65c_remove_915e3_24 : decode cJx4a65c_remove_915e3 24 = .ok (.aload_n 3, 1) := by decide +kernel
theorem dJx4a65c_remove_915e3_25 : decode cJx4a65c_remove_915e3 25 = .ok (.areturn, 1) := by decide +kernel
theorem dJx4a65c_remove_9ea2d_0 : decode cJx4a65c_remove_9ea2d 0 = .ok (.aload_n 0, 1) := by decide +kernel
theorem dJx4a65c_remove_9ea2d_1 : decode cJx4a65c_remove_9ea2d 1 = .ok (.getfield 9, 3) := by decide +kernel
theorem dJx4a65c_remove_9ea2d_4 : decode cJx4a65c_remove_9ea2d 4 = .ok (.astore_n 2, 1) := by decide +kernel
theorem dJx4a65c_remove_9ea2d_5 : decode cJx4a65c_remove_9ea2d 5 = .ok (.aload_n 0, 1) := by decide +kernel
theorem dJx4a65c_remove_9ea2d_6 : decode cJx4a65c_remove_9ea2d 6 = .ok (.getfield 48, 3) := by decide +kernel
theorem dJx4a65c_remove_9ea2d_9 : decode cJx4a65c_remove_9ea2d 9 = .ok (.istore_n 3, 1) := by decide +kernel
theorem dJx4a65c_remove_9ea2d_10 : decode cJx4a65c_remove_9ea2d 10 = .ok (.iconst 0, 1) := by decide +kernel
theorem dJx4a65c_remove_9ea2d_11 : decode cJx4a65c_remove_9ea2d 11 = .ok (.istore 4, 2) := by decide +kernel
theorem dJx4a65c_remove_9ea2d_13 : decode cJx4a65c_remove_9ea2d 13 = .ok (.aload_n 1, 1) := by decide +kernel
theorem dJx4a65c_remove_9ea2d_14 : decode cJx4a65c_remove_9ea2d 14 = .ok (.ifnonnull 25, 3) := by decide +kernel
theorem dJx4a65c_remove_9ea2d_17 : decode cJx4a65c_remove_9ea2d 17 = .ok (.iload 4, 2) := by decide +kernel
theorem dJx4a65c_remove_9ea2d_19 : decode cJx4a65c_remove_9ea2d 19 = .ok (.iload_n 3, 1) := by decide +kernel
theorem dJx4a65c_remove_9ea2d_20 : decode cJx4a65c_remove_9ea2d 20 = .ok (.if_icmp .ge 45, 3) := by decide +kernel
theorem dJx4a65c_remove_9ea2d_23 : decode cJx4a65c_remove_9ea2d 23 = .ok (.aload_n 2, 1) := by decide +kernel
theorem dJx4a65c_remove_9ea2d_24 : decode cJx4a65c_remove_9ea2d 24 = .ok (.iload 4, 2) := by decide +kernel
theorem dJx4a65c_remove_9ea2d_26 : decode cJx4a65c_remove_9ea2d 26 = .ok (.aaload, 1) := by decide +kernel
theorem dJx4a65c_remove_9ea2d_27 : decode cJx4a65c_remove_9ea2d 27 = .ok (.ifnonnull 6, 3) := by decide +kernel
theorem dJx4a65c_remove_9ea2d_30 : decode cJx4a65c_remove_9ea2d 30 = .ok (.goto 37, 3) := by decide +kernel
theorem dJx4a65c_remove_9ea2d_33 : decode cJx4a65c_remove_9ea2d 33 = .ok (.iinc 4 1, 3) := by decide +kernel
theorem dJx4a65c_remove_9ea2d_36 : decode cJx4a65c_remove_9ea2d 36 = .ok (.goto (-19), 3) := by decide +kernel
theorem dJx4a65c_remove_9ea2d_39 : decode cJx4a65c_remove_9ea2d 39 = .ok (.iload 4, 2) := by decide +kernel
theorem dJx4a65c_remove_9ea2d_41 : decode cJx4a65c_remove_9ea2d 41 = .ok (.iload_n 3, 1) := by decide +kernel
theorem dJx4a65c_remove_9ea2d_42 : decode cJx4a65c_remove_9ea2d 42 = .ok (.if_icmp .ge 23, 3) := by decide +kernel
theorem dJx4a65c_remove_9ea2d_45 : decode cJx4a65c_remove_9ea2d 45 = .ok (.aload_n 1, 1) := by decide +kernel
theorem dJx4a65c_remove_9ea2d_46 : decode cJx4a65c_remove_9ea2d 46 = .ok (.aload_n 2, 1) := by decide +kernel
theorem dJx4a65c_remove_9ea2d_47 : decode cJx4a65c_remove_9ea2d 47 = .ok (.iload 4, 2) := by decide +kernel
theorem dJx4a65c_remove_9ea2d_49 : decode cJx4a65c_remove_9ea2d 49 = .ok (.aaload, 1) := by decide +kernel
theorem dJx4a65c_remove_9ea2d_50 : decode cJx4a65c_remove_9ea2d 50 = .ok (.invokevirtual 93, 3) := by decide +kernel
theorem dJx4a65c_remove_9ea2d_53 : decode cJx4a65c_remove_9ea2d 53 = .ok (.ifCond .eq 6, 3) := by decide +kernel
theorem dJx4a65c_remove_9ea2d_56 : decode cJx4a65c_remove_9ea2d 56 = .ok (.goto 11, 3) := by decide +kernel
theorem dJx4a65c_remove_9ea2d_59 : decode cJx4a65c_remove_9ea2d 59 = .ok (.iinc 4 1, 3) := by decide +kernel
theorem dJx4a65c_remove_9ea2d_62 : decode cJx4a65c_remove_9ea2d 62 = .ok (.goto (-23), 3) := by decide +kernel
theorem dJx4a65c_remove_9ea2d_65 : decode cJx4a65c_remove_9ea2d 65 = .ok (.iconst 0, 1) := by decide +kernel
theorem dJx4a65c_remove_9ea2d_66 : decode cJx4a65c_remove_9ea2d 66 = .ok (.ireturn, 1) := by decide +kernel
theorem dJx4a65c_remove_9ea2d_67 : decode cJx4a65c_remove_9ea2d 67 = .ok (.aload_n 0, 1) := by decide +kernel
theorem dJx4a65c_remove_9ea2d_68 : decode cJx4a65c_remove_9ea2d 68 = .ok (.aload_n 2, 1) := by decide +kernel
theorem dJx4a65c_remove_9ea2d_69 : decode cJx4a65c_remove_9ea2d 69 = .ok (.iload 4, 2) := by decide +kernel
theorem dJx4a65c_remove_9ea2d_71 : decode cJx4a65c_remove_9ea2d 71 = .ok (.invokevirtual 144, 3) := by decide +kernel
theorem dJx4a65c_remove_9ea2d_74 : decode cJx4a65c_remove_9ea2d 74 = .ok (.iconst 1, 1) := by decide +kernel
theorem dJx4a65c_remove_9ea2d_75 : decode cJx4a65c_remove_9ea2d 75 = .ok (.ireturn, 1) := by decide +kernel
theorem dJx4a65c_fastRemove_b59b0_0 : decode cJx4a65c_fastRemove_b59b0 0 = .ok (.aload_n 0, 1) := by decide +kernel
theorem dJx4a65c_fastRemove_b59b0_1 : decode cJx4a65c_fastRemove_b59b0 1 = .ok (.dup, 1) := by decide +kernel
theorem dJx4a65c_fastRemove_b59b0_2 : decode cJx4a65c_fastRemove_b59b0 2 = .ok (.getfield 63, 3) := by decide +kernel
theorem dJx4a65c_fastRemove_b59b0_5 : decode cJx4a65c_fastRemove_b59b0 5 = .ok (.iconst 1, 1) := by decide +kernel
theorem dJx4a65c_fastRemove_b59b0_6 : decode cJx4a65c_fastRemove_b59b0 6 = .ok (.iadd, 1) := by decide +kernel
theorem dJx4a65c_fastRemove_b59b0_7 : decode cJx4a65c_fastRemove_b59b0 7 = .ok (.putfield 63, 3) := by decide +kernel
theorem dJx4a65c_fastRemove_b59b0_10 : decode cJx4a65c_fastRemove_b59b0 10 = .ok (.aload_n 0, 1) := by decide +kernel
theorem dJx4a65c_fastRemove_b59b0_11 : decode cJx4a65c_fastRemove_b59b0 11 = .ok (.getfield 48, 3) := by decide +kernel
theorem dJx4a65c_fastRemove_b59b0_14 : decode cJx4a65c_fastRemove_b59b0 14 = .ok (.iconst 1, 1) := by decide +kernel
theorem dJx4a65c_fastRemove_b59b0_15 : decode cJx4a65c_fastRemove_b59b0 15 = .ok (.isub, 1) := by decide +kernel
theorem dJx4a65c_fastRemove_b59b0_16 : decode cJx4a65c_fastRemove_b59b0 16 = .ok (.dup, 1) := by decide +kernel
theorem dJx4a65c_fastRemove_b59b0_17 : decode cJx4a65c_fastRemove_b59b0 17 = .ok (.istore_n 3, 1) := by decide +kernel
theorem dJx4a65c_fastRemove_b59b0_18 : decode cJx4a65c_fastRemove_b59b0 18 = .ok (.iload_n 2, 1) := by decide +kernel
theorem dJx4a65c_fastRemove_b59b0_19 : decode cJx4a65c_fastRemove_b59b0 19 = .ok (.if_icmp .le 15, 3) := by decide +kernel
theorem dJx4a65c_fastRemove_b59b0_22 : decode cJx4a65c_fastRemove_b59b0 22 = .ok (.aload_n 1, 1) := by decide +kernel
theorem dJx4a65c_fastRemove_b59b0_23 : decode cJx4a65c_fastRemove_b59b0 23 = .ok (.iload_n 2, 1) := by decide +kernel
theorem dJx4a65c_fastRemove_b59b0_24 : decode cJx4a65c_fastRemove_b59b0 24 = .ok (.iconst 1, 1) := by decide +kernel
theorem dJx4a65c_fastRemove_b59b0_25 : decode cJx4a65c_fastRemove_b59b0 25 = .ok (.iadd, 1) := by decide +kernel
theorem dJx4a65c_fastRemove_b59b0_26 : decode cJx4a65c_fastRemove_b59b0 26 = .ok (.aload_n 1, 1) := by decide +kernel
theorem dJx4a65c_fastRemove_b59b0_27 : decode cJx4a65c_fastRemove_b59b0 27 = .ok (.iload_n 2, 1) := by decide +kernel
theorem dJx4a65c_fastRemove_b59b0_28 : decode cJx4a65c_fastRemove_b59b0 28 = .ok (.iload_n 3, 1) := by decide +kernel
theorem dJx4a65c_fastRemove_b59b0_29 : decode cJx4a65c_fastRemove_b59b0 29 = .ok (.iload_n 2, 1) := by decide +kernel
theorem dJx4a65c_fastRemove_b59b0_30 : decode cJx4a65c_fastRemove_b59b0 30 = .ok (.isub, 1) := by decide +kernel
theorem dJx4a65c_fastRemove_b59b0_31 : decode cJx4a65c_fastRemove_b59b0 31 = .ok (.invokestatic 112, 3) := by decide +kernel
theorem dJx4a65c_fastRemove_b59b0_34 : decode cJx4a65c_fastRemove_b59b0 34 = .ok (.aload_n 1, 1) := by decide +kernel
theorem dJx4a65c_fastRemove_b59b0_35 : decode cJx4a65c_fastRemove_b59b0 35 = .ok (.aload_n 0, 1) := by decide +kernel
theorem dJx4a65c_fastRemove_b59b0_36 : decode cJx4a65c_fastRemove_b59b0 36 = .ok (.iload_n 3, 1) := by decide +kernel
theorem dJx4a65c_fastRemove_b59b0_37 : decode cJx4a65c_fastRemove_b59b0 37 = .ok (.dup_x1, 1) := by decide +kernel
theorem dJx4a65c_fastRemove_b59b0_38 : decode cJx4a65c_fastRemove_b59b0 38 = .ok (.putfield 48, 3) := by decide +kernel
theorem dJx4a65c_fastRemove_b59b0_41 : decode cJx4a65c_fastRemove_b59b0 41 = .ok (.aconst_null, 1) := by decide +kernel
theorem dJx4a65c_fastRemove_b59b0_42 : decode cJx4a65c_fastRemove_b59b0 42 = .ok (.aastore, 1) := by decide +kernel
theorem dJx4a65c_fastRemove_b59b0_43 : decode cJx4a65c_fastRemove_b59b0 43 = .ok (.return_, 1) := by decide +kernel
theorem dJx4a65c_clear_da8c8_0 : decode cJx4a65c_clear_da8c8 0 = .ok (.aload_n 0, 1) := by decide +kernel
theorem dJx4a65c_clear_da8c8_1 : decode cJx4a65c_clear_da8c8 1 = .ok (.dup, 1) := by decide +kernel
theorem dJx4a65c_clear_da8c8_2 : decode cJx4a65c_clear_da8c8 2 = .ok (.getfield 63, 3) := by decide +kernel
theorem dJx4a65c_clear_da8c8_5 : decode cJx4a65c_clear_da8c8 5 = .ok (.iconst 1, 1) := by decide +kernel
theorem dJx4a65c_clear_da8c8_6 : decode cJx4a65c_clear_da8c8 6 = .ok (.iadd, 1) := by decide +kernel
theorem dJx4a65c_clear_da8c8_7 : decode cJx4a65c_clear_da8c8 7 = .ok (.putfield 63, 3) := by decide +kernel
theorem dJx4a65c_clear_da8c8_10 : decode cJx4a65c_clear_da8c8 10 = .ok (.aload_n 0, 1) := by decide +kernel
theorem dJx4a65c_clear_da8c8_11 : decode cJx4a65c_clear_da8c8 11 = .ok (.getfield 9, 3) := by decide +kernel
theorem dJx4a65c_clear_da8c8_14 : decode cJx4a65c_clear_da8c8 14 = .ok (.astore_n 1, 1) := by decide +kernel
theorem dJx4a65c_clear_da8c8_15 : decode cJx4a65c_clear_da8c8 15 = .ok (.aload_n 0, 1) := by decide +kernel
theorem dJx4a65c_clear_da8c8_16 : decode cJx4a65c_clear_da8c8 16 = .ok (.getfield 48, 3) := by decide +kernel
theorem dJx4a65c_clear_da8c8_19 : decode cJx4a65c_clear_da8c8 19 = .ok (.istore_n 2, 1) := by decide +kernel
theorem dJx4a65c_clear_da8c8_20 : decode cJx4a65c_clear_da8c8 20 = .ok (.aload_n 0, 1) := by decide +kernel
theorem dJx4a65c_clear_da8c8_21 : decode cJx4a65c_clear_da8c8 21 = .ok (.iconst 0, 1) := by decide +kernel
theorem dJx4a65c_clear_da8c8_22 : decode cJx4a65c_clear_da8c8 22 = .ok (.dup_x1, 1) := by decide +kernel
theorem dJx4a65c_clear_da8c8_23 : decode cJx4a65c_clear_da8c8 23 = .ok (.putfield 48, 3) := by decide +kernel
theorem dJx4a65c_clear_da8c8_26 : decode cJx4a65c_clear_da8c8 26 = .ok (.istore_n 3, 1) := by decide +kernel
theorem dJx4a65c_clear_da8c8_27 : decode cJx4a65c_clear_da8c8 27 = .ok (.iload_n 3, 1) := by decide +kernel
theorem dJx4a65c_clear_da8c8_28 : decode cJx4a65c_clear_da8c8 28 = .ok (.iload_n 2, 1) := by decide +kernel
theorem dJx4a65c_clear_da8c8_29 : decode cJx4a65c_clear_da8c8 29 = .ok (.if_icmp .ge 13, 3) := by decide +kernel
theorem dJx4a65c_clear_da8c8_32 : decode cJx4a65c_clear_da8c8 32 = .ok (.aload_n 1, 1) := by decide +kernel
theorem dJx4a65c_clear_da8c8_33 : decode cJx4a65c_clear_da8c8 33 = .ok (.iload_n 3, 1) := by decide +kernel
theorem dJx4a65c_clear_da8c8_34 : decode cJx4a65c_clear_da8c8 34 = .ok (.aconst_null, 1) := by decide +kernel
theorem dJx4a65c_clear_da8c8_35 : decode cJx4a65c_clear_da8c8 35 = .ok (.aastore, 1) := by decide +kernel
theorem dJx4a65c_clear_da8c8_36 : decode cJx4a65c_clear_da8c8 36 = .ok (.iinc 3 1, 3) := by decide +kernel
theorem dJx4a65c_clear_da8c8_39 : decode cJx4a65c_clear_da8c8 39 = .ok (.goto (-12), 3) := by decide +kernel
theorem dJx4a65c_clear_da8c8_42 : decode cJx4a65c_clear_da8c8 42 = .ok (.return_, 1) := by decide +kernel
theorem dJx4a65c_rangeCheckForAdd_d00df_0 : decode cJx4a65c_rangeCheckForAdd_d00df 0 = .ok (.iload_n 1, 1) := by decide +kernel
theorem dJx4a65c_rangeCheckForAdd_d00df_1 : decode cJx4a65c_rangeCheckForAdd_d00df 1 = .ok (.aload_n 0, 1) := by decide +kernel
theorem dJx4a65c_rangeCheckForAdd_d00df_2 : decode cJx4a65c_rangeCheckForAdd_d00df 2 = .ok (.getfield 48, 3) := by decide +kernel
theorem dJx4a65c_rangeCheckForAdd_d00df_5 : decode cJx4a65c_rangeCheckForAdd_d00df 5 = .ok (.if_icmp .gt 7, 3) := by decide +kernel
theorem dJx4a65c_rangeCheckForAdd_d00df_8 : decode cJx4a65c_rangeCheckForAdd_d00df 8 = .ok (.iload_n 1, 1) := by decide +kernel
theorem dJx4a65c_rangeCheckForAdd_d00df_9 : decode cJx4a65c_rangeCheckForAdd_d00df 9 = .ok (.ifCond .ge 16, 3) := by decide +kernel
theorem dJx4a65c_rangeCheckForAdd_d00df_12 : decode cJx4a65c_rangeCheckForAdd_d00df 12 = .ok (.new 187, 3) := by decide +kernel
theorem dJx4a65c_rangeCheckForAdd_d00df_15 : decode cJx4a65c_rangeCheckForAdd_d00df 15 = .ok (.dup, 1) := by decide +kernel
theorem dJx4a65c_rangeCheckForAdd_d00df_16 : decode cJx4a65c_rangeCheckForAdd_d00df 16 = .ok (.aload_n 0, 1) := by decide +kernel
theorem dJx4a65c_rangeCheckForAdd_d00df_17 : decode cJx4a65c_rangeCheckForAdd_d00df 17 = .ok (.iload_n 1, 1) := by decide +kernel
theorem dJx4a65c_rangeCheckForAdd_d00df_18 : decode cJx4a65c_rangeCheckForAdd_d00df 18 = .ok (.invokevirtual 198, 3) := by decide +kernel
theorem dJx4a65c_rangeCheckForAdd_d00df_21 : decode cJx4a65c_rangeCheckForAdd_d00df 21 = .ok (.invokespecial 193, 3) := by decide +kernel
theorem dJx4a65c_rangeCheckForAdd_d00df_24 : decode cJx4a65c_rangeCheckForAdd_d00df 24 = .ok (.athrow, 1) := by decide +kernel
theorem dJx4a65c_rangeCheckForAdd_d00df_25 : decode cJx4a65c_rangeCheckForAdd_d00df 25 = .ok (.return_, 1) := by decide +kernel
theorem dJx4a65c_outOfBoundsMsg_b52d3_0 : decode cJx4a65c_outOfBoundsMsg_b52d3 0 = .ok (.new 20, 3) := by decide +kernel
theorem dJx4a65c_outOfBoundsMsg_b52d3_3 : decode cJx4a65c_outOfBoundsMsg_b52d3 3 = .ok (.dup, 1) := by decide +kernel
theorem dJx4a65c_outOfBoundsMsg_b52d3_4 : decode cJx4a65c_outOfBoundsMsg_b52d3 4 = .ok (.invokespecial 22, 3) := by decide +kernel
theorem dJx4a65c_outOfBoundsMsg_b52d3_7 : decode cJx4a65c_outOfBoundsMsg_b52d3 7 = .ok (.ldc 201, 2) := by decide +kernel
theorem dJx4a65c_outOfBoundsMsg_b52d3_9 : decode cJx4a65c_outOfBoundsMsg_b52d3 9 = .ok (.invokevirtual 25, 3) := by decide +kernel
theorem dJx4a65c_outOfBoundsMsg_b52d3_12 : decode cJx4a65c_outOfBoundsMsg_b52d3 12 = .ok (.iload_n 1, 1) := by decide +kernel
theorem dJx4a65c_outOfBoundsMsg_b52d3_13 : decode cJx4a65c_outOfBoundsMsg_b52d3 13 = .ok (.invokevirtual 29, 3) := by decide +kernel
theorem dJx4a65c_outOfBoundsMsg_b52d3_16 : decode cJx4a65c_outOfBoundsMsg_b52d3 16 = .ok (.ldc 203, 2) := by decide +kernel
theorem dJx4a65c_outOfBoundsMsg_b52d3_18 : decode cJx4a65c_outOfBoundsMsg_b52d3 18 = .ok (.invokevirtual 25, 3) := by decide +kernel
theorem dJx4a65c_outOfBoundsMsg_b52d3_21 : decode cJx4a65c_outOfBoundsMsg_b52d3 21 = .ok (.aload_n 0, 1) := by decide +kernel
theorem dJx4a65c_outOfBoundsMsg_b52d3_22 : decode cJx4a65c_outOfBoundsMsg_b52d3 22 = .ok (.getfield 48, 3) := by decide +kernel
theorem dJx4a65c_outOfBoundsMsg_b52d3_25 : decode cJx4a65c_outOfBoundsMsg_b52d3 25 = .ok (.invokevirtual 29, 3) := by decide +kernel
theorem dJx4a65c_outOfBoundsMsg_b52d3_28 : decode cJx4a65c_outOfBoundsMsg_b52d3 28 = .ok (.invokevirtual 32, 3) := by decide +kernel
theorem dJx4a65c_outOfBoundsMsg_b52d3_31 : decode cJx4a65c_outOfBoundsMsg_b52d3 31 = .ok (.areturn, 1) := by decide +kernel
theorem dJ7_fill_53178_0 : decode cJ7_fill_53178 0 = .ok (.iconst 0, 1) := by decide +kernel
theorem dJ7_fill_53178_1 : decode cJ7_fill_53178 1 = .ok (.istore_n 2, 1) := by decide +kernel
theorem dJ7_fill_53178_2 : decode cJ7_fill_53178 2 = .ok (.aload_n 0, 1) := by decide +kernel
theorem dJ7_fill_53178_3 : decode cJ7_fill_53178 3 = .ok (.arraylength, 1) := by decide +kernel
theorem dJ7_fill_53178_4 : decode cJ7_fill_53178 4 = .ok (.istore_n 3, 1) := by decide +kernel
theorem dJ7_fill_53178_5 : decode cJ7_fill_53178 5 = .ok (.iload_n 2, 1) := by decide +kernel
theorem dJ7_fill_53178_6 : decode cJ7_fill_53178 6 = .ok (.iload_n 3, 1) := by decide +kernel
theorem dJ7_fill_53178_7 : decode cJ7_fill_53178 7 = .ok (.if_icmp .ge 13, 3) := by decide +kernel
theorem dJ7_fill_53178_10 : decode cJ7_fill_53178 10 = .ok (.aload_n 0, 1) := by decide +kernel
theorem dJ7_fill_53178_11 : decode cJ7_fill_53178 11 = .ok (.iload_n 2, 1) := by decide +kernel
theorem dJ7_fill_53178_12 : decode cJ7_fill_53178 12 = .ok (.iload_n 1, 1) := by decide +kernel
theorem dJ7_fill_53178_13 : decode cJ7_fill_53178 13 = .ok (.iastore, 1) := by decide +kernel
theorem dJ7_fill_53178_14 : decode cJ7_fill_53178 14 = .ok (.iinc 2 1, 3) := by decide +kernel
theorem dJ7_fill_53178_17 : decode cJ7_fill_53178 17 = .ok (.goto (-12), 3) := by decide +kernel
theorem dJ7_fill_53178_20 : decode cJ7_fill_53178 20 = .ok (.return_, 1) := by decide +kernel
set_option maxRecDepth 20000 in
theorem ggJ7_copyOf_1904c_J7_copyOf_6403c : GoodIn wsJ7_copyOf_1904c wsJ7_copyOf_6403c := goodIn_r _ [8, 9, 10, 11, 12, 13, 14, 15, 16, 17, 18] (by decide +kernel) (by decide +kernel)
set_option maxRecDepth 20000 in
theorem gJ7_copyOf_1904c_J7_copyOf_6403c : GoodIn wsJ7_copyOf_1904c (va_wsS RJ7 300 yJ7_copyOf_6403c wsJ7_copyOf_6403c) := goodIn_app (goodIn_of _ (by decide +kernel)) ggJ7_copyOf_1904c_J7_copyOf_6403c
theorem dJ7_copyOf_1904c_0 : decode cJ7_copyOf_1904c 0 = .ok (.aload_n 0, 1) := by decide +kernel
theorem dJ7_copyOf_1904c_1 : decode cJ7_copyOf_1904c 1 = .ok (.iload_n 1, 1) := by decide +kernel
theorem dJ7_copyOf_1904c_2 : decode cJ7_copyOf_1904c 2 = .ok (.aload_n 0, 1) := by decide +kernel
theorem dJ7_copyOf_1904c_3 : decode cJ7_copyOf_1904c 3 = .ok (.invokevirtual 86, 3) := by decide +kernel
theorem dJ7_copyOf_1904c_6 : decode cJ7_copyOf_1904c 6 = .ok (.invokestatic 300, 3) := by decide +kernel
theorem dJ7_copyOf_1904c_9 : decode cJ7_copyOf_1904c 9 = .ok (.areturn, 1) := by decide +kernel
theorem dJ7_copyOf_6403c_0 : decode cJ7_copyOf_6403c 0 = .ok (.aload_n 2, 1) := by decide +kernel
theorem dJ7_copyOf_6403c_1 : decode cJ7_copyOf_6403c 1 = .ok (.ldc 110, 2) := by decide +kernel
theorem dJ7_copyOf_6403c_3 : decode cJ7_copyOf_6403c 3 = .ok (.if_acmp .ne 10, 3) := by decide +kernel
theorem dJ7_copyOf_6403c_6 : decode cJ7_copyOf_6403c 6 = .ok (.iload_n 1, 1) := by decide +kernel
theorem dJ7_copyOf_6403c_7 : decode cJ7_copyOf_6403c 7 = .ok (.anewarray 2, 3) := by decide +kernel
theorem dJ7_copyOf_6403c_10 : decode cJ7_copyOf_6403c 10 = .ok (.goto 14, 3) := by decide +kernel
theorem dJ7_copyOf_6403c_13 : decode cJ7_copyOf_6403c 13 = .ok (.aload_n 2, 1) := by decide +kernel
theorem dJ7_copyOf_6403c_14 : decode cJ7_copyOf_6403c 14 = .ok (.invokevirtual 90, 3) := by decide +kernel
theorem dJ7_copyOf_6403c_17 : decode cJ7_copyOf_6403c 17 = .ok (.iload_n 1, 1) := by decide +kernel
theorem dJ7_copyOf_6403c_18 : decode cJ7_copyOf_6403c 18 = .ok (.invokestatic 95, 3) := by decide +kernel
theorem dJ7_copyOf_6403c_21 : decode cJ7_copyOf_6403c 21 = .ok (.checkcast 110, 3) := by decide +kernel
theorem dJ7_copyOf_6403c_24 : decode cJ7_copyOf_6403c 24 = .ok (.astore_n 3, 1) := by decide +kernel
theorem dJ7_copyOf_6403c_25 : decode cJ7_copyOf_6403c 25 = .ok (.aload_n 0, 1) := by decide +kernel
theorem dJ7_copyOf_6403c_26 : decode cJ7_copyOf_6403c 26 = .ok (.iconst 0, 1) := by decide +kernel
theorem dJ7_copyOf_6403c_27 : decode cJ7_copyOf_6403c 27 = .ok (.aload_n 3, 1) := by decide +kernel
theorem dJ7_copyOf_6403c_28 : decode cJ7_copyOf_6403c 28 = .ok (.iconst 0, 1) := by decide +kernel
theorem dJ7_copyOf_6403c_29 : decode cJ7_copyOf_6403c 29 = .ok (.aload_n 0, 1) := by decide +kernel
theorem dJ7_copyOf_6403c_30 : decode cJ7_copyOf_6403c 30 = .ok (.arraylength, 1) := by decide +kernel
theorem dJ7_copyOf_6403c_31 : decode cJ7_copyOf_6403c 31 = .ok (.iload_n 1, 1) := by decide +kernel
theorem dJ7_copyOf_6403c_32 : decode cJ7_copyOf_6403c 32 = .ok (.invokestatic 304, 3) := by decide +kernel
theorem dJ7_copyOf_6403c_35 : decode cJ7_copyOf_6403c 35 = .ok (.invokestatic 150, 3) := by decide +kernel
theorem dJ7_copyOf_6403c_38 : decode cJ7_copyOf_6403c 38 = .ok (.aload_n 3, 1) := by decide +kernel
theorem dJ7_copyOf_6403c_39 : decode cJ7_copyOf_6403c 39 = .ok (.areturn, 1) := by decide +kernel
theorem dJ7_copyOf_9075b_0 : decode cJ7_copyOf_9075b 0 = .ok (.iload_n 1, 1) := by decide +kernel
theorem dJ7_copyOf_9075b_1 : decode cJ7_copyOf_9075b 1 = .ok (.aload_n 0, 1) := by decide +kernel
theorem dJ7_copyOf_9075b_2 : decode cJ7_copyOf_9075b 2 = .ok (.arraylength, 1) := by decide +kernel
theorem dJ7_copyOf_9075b_3 : decode cJ7_copyOf_9075b 3 = .ok (.if_icmp .ne 11, 3) := by decide +kernel
theorem dJ7_copyOf_9075b_6 : decode cJ7_copyOf_9075b 6 = .ok (.aload_n 0, 1) := by decide +kernel
theorem dJ7_copyOf_9075b_7 : decode cJ7_copyOf_9075b 7 = .ok (.invokevirtual 310, 3) := by decide +kernel
theorem dJ7_copyOf_9075b_10 : decode cJ7_copyOf_9075b 10 = .ok (.checkcast 311, 3) := by decide +kernel
theorem dJ7_copyOf_9075b_13 : decode cJ7_copyOf_9075b 13 = .ok (.areturn, 1) := by decide +kernel
theorem dJ7_copyOf_9075b_14 : decode cJ7_copyOf_9075b 14 = .ok (.iload_n 1, 1) := by decide +kernel
theorem dJ7_copyOf_9075b_15 : decode cJ7_copyOf_9075b 15 = .ok (.newarray .byte, 2) := by decide +kernel
theorem dJ7_copyOf_9075b_17 : decode cJ7_copyOf_9075b 17 = .ok (.astore_n 2, 1) := by decide +kernel
theorem dJ7_copyOf_9075b_18 : decode cJ7_copyOf_9075b 18 = .ok (.aload_n 0, 1) := by decide +kernel
theorem dJ7_copyOf_9075b_19 : decode cJ7_copyOf_9075b 19 = .ok (.iconst 0, 1) := by decide +kernel
theorem dJ7_copyOf_9075b_20 : decode cJ7_copyOf_9075b 20 = .ok (.aload_n 2, 1) := by decide +kernel
theorem dJ7_copyOf_9075b_21 : decode cJ7_copyOf_9075b 21 = .ok (.iconst 0, 1) := by decide +kernel
theorem dJ7_copyOf_9075b_22 : decode cJ7_copyOf_9075b 22 = .ok (.aload_n 0, 1) := by decide +kernel
theorem dJ7_copyOf_9075b_23 : decode cJ7_copyOf_9075b 23 = .ok (.arraylength, 1) := by decide +kernel
theorem dJ7_copyOf_9075b_24 : decode cJ7_copyOf_9075b 24 = .ok (.iload_n 1, 1) := by decide +kernel
theorem dJ7_copyOf_9075b_25 : decode cJ7_copyOf_9075b 25 = .ok (.invokestatic 304, 3) := by decide +kernel
theorem dJ7_copyOf_9075b_28 : decode cJ7_copyOf_9075b 28 = .ok (.invokestatic 150, 3) := by decide +kernel
theorem dJ7_copyOf_9075b_31 : decode cJ7_copyOf_9075b 31 = .ok (.aload_n 2, 1) := by decide +kernel
theorem dJ7_copyOf_9075b_32 : decode cJ7_copyOf_9075b 32 = .ok (.areturn, 1) := by decide +kernel
theorem dJ7_checkLength_df160_0 : decode cJ7_checkLength_df160 0 = .ok (.iload_n 1, 1) := by decide +kernel
theorem dJ7_checkLength_df160_1 : decode cJ7_checkLength_df160 1 = .ok (.iload_n 0, 1) := by decide +kernel
theorem dJ7_checkLength_df160_2 : decode cJ7_checkLength_df160 2 = .ok (.if_icmp .ge 35, 3) := by decide +kernel
theorem dJ7_checkLength_df160_5 : decode cJ7_checkLength_df160 5 = .ok (.new 43, 3) := by decide +kernel
theorem dJ7_checkLength_df160_8 : decode cJ7_checkLength_df160 8 = .ok (.dup, 1) := by decide +kernel
theorem dJ7_checkLength_df160_9 : decode cJ7_checkLength_df160 9 = .ok (.new 45, 3) := by decide +kernel
theorem dJ7_checkLength_df160_12 : decode cJ7_checkLength_df160 12 = .ok (.dup, 1) := by decide +kernel
theorem dJ7_checkLength_df160_13 : decode cJ7_checkLength_df160 13 = .ok (.invokespecial 47, 3) := by decide +kernel
theorem dJ7_checkLength_df160_16 : decode cJ7_checkLength_df160 16 = .ok (.iload_n 0, 1) := by decide +kernel
theorem dJ7_checkLength_df160_17 : decode cJ7_checkLength_df160 17 = .ok (.invokevirtual 54, 3) := by decide +kernel
theorem dJ7_checkLength_df160_20 : decode cJ7_checkLength_df160 20 = .ok (.ldc_w 337, 3) := by decide +kernel
theorem dJ7_checkLength_df160_23 : decode cJ7_checkLength_df160 23 = .ok (.invokevirtual 50, 3) := by decide +kernel
theorem dJ7_checkLength_df160_26 : decode cJ7_checkLength_df160 26 = .ok (.iload_n 1, 1) := by decide +kernel
theorem dJ7_checkLength_df160_27 : decode cJ7_checkLength_df160 27 = .ok (.invokevirtual 54, 3) := by decide +kernel
theorem dJ7_checkLength_df160_30 : decode cJ7_checkLength_df160 30 = .ok (.invokevirtual 61, 3) := by decide +kernel
theorem dJ7_checkLength_df160_33 : decode cJ7_checkLength_df160 33 = .ok (.invokespecial 65, 3) := by decide +kernel
theorem dJ7_checkLength_df160_36 : decode cJ7_checkLength_df160 36 = .ok (.athrow, 1) := by decide +kernel
theorem dJ7_checkLength_df160_37 : decode cJ7_checkLength_df160 37 = .ok (.return_, 1) := by decide +kernel
theorem dJ7_copyOfRange_39247_0 : decode cJ7_copyOfRange_39247 0 = .ok (.iload_n 1, 1) := by decide +kernel
theorem dJ7_copyOfRange_39247_1 : decode cJ7_copyOfRange_39247 1 = .ok (.ifCond .ne 9, 3) := by decide +kernel
theorem dJ7_copyOfRange_39247_4 : decode cJ7_copyOfRange_39247 4 = .ok (.iload_n 2, 1) := by decide +kernel
theorem dJ7_copyOfRange_39247_5 : decode cJ7_copyOfRange_39247 5 = .ok (.aload_n 0, 1) := by decide +kernel
theorem dJ7_copyOfRange_39247_6 : decode cJ7_copyOfRange_39247 6 = .ok (.arraylength, 1) := by decide +kernel
theorem dJ7_copyOfRange_39247_7 : decode cJ7_copyOfRange_39247 7 = .ok (.if_icmp .eq 10, 3) := by decide +kernel
theorem dJ7_copyOfRange_39247_10 : decode cJ7_copyOfRange_39247 10 = .ok (.aload_n 0, 1) := by decide +kernel
theorem dJ7_copyOfRange_39247_11 : decode cJ7_copyOfRange_39247 11 = .ok (.iload_n 1, 1) := by decide +kernel
theorem dJ7_copyOfRange_39247_12 : decode cJ7_copyOfRange_39247 12 = .ok (.iload_n 2, 1) := by decide +kernel
theorem dJ7_copyOfRange_39247_13 : decode cJ7_copyOfRange_39247 13 = .ok (.invokestatic 339, 3) := by decide +kernel
theorem dJ7_copyOfRange_39247_16 : decode cJ7_copyOfRange_39247 16 = .ok (.areturn, 1) := by decide +kernel
theorem dJ7_copyOfRange_39247_17 : decode cJ7_copyOfRange_39247 17 = .ok (.aload_n 0, 1) := by decide +kernel
theorem dJ7_copyOfRange_39247_18 : decode cJ7_copyOfRange_39247 18 = .ok (.invokevirtual 310, 3) := by decide +kernel
theorem dJ7_copyOfRange_39247_21 : decode cJ7_copyOfRange_39247 21 = .ok (.checkcast 311, 3) := by decide +kernel
theorem dJ7_copyOfRange_39247_24 : decode cJ7_copyOfRange_39247 24 = .ok (.areturn, 1) := by decide +kernel
theorem dJ7_copyOfRangeByte_39247_0 : decode cJ7_copyOfRangeByte_39247 0 = .ok (.iload_n 1, 1) := by decide +kernel
theorem dJ7_copyOfRangeByte_39247_1 : decode cJ7_copyOfRangeByte_39247 1 = .ok (.iload_n 2, 1) := by decide +kernel
theorem dJ7_copyOfRangeByte_39247_2 : decode cJ7_copyOfRangeByte_39247 2 = .ok (.invokestatic 343, 3) := by decide +kernel
theorem dJ7_copyOfRangeByte_39247_5 : decode cJ7_copyOfRangeByte_39247 5 = .ok (.iload_n 2, 1) := by decide +kernel
theorem dJ7_copyOfRangeByte_39247_6 : decode cJ7_copyOfRangeByte_39247 6 = .ok (.iload_n 1, 1) := by decide +kernel
theorem dJ7_copyOfRangeByte_39247_7 : decode cJ7_copyOfRangeByte_39247 7 = .ok (.isub, 1) := by decide +kernel
theorem dJ7_copyOfRangeByte_39247_8 : decode cJ7_copyOfRangeByte_39247 8 = .ok (.istore_n 3, 1) := by decide +kernel
theorem dJ7_copyOfRangeByte_39247_9 : decode cJ7_copyOfRangeByte_39247 9 = .ok (.iload_n 3, 1) := by decide +kernel
theorem dJ7_copyOfRangeByte_39247_10 : decode cJ7_copyOfRangeByte_39247 10 = .ok (.newarray .byte, 2) := by decide +kernel
theorem dJ7_copyOfRangeByte_39247_12 : decode cJ7_copyOfRangeByte_39247 12 = .ok (.astore 4, 2) := by decide +kernel
theorem dJ7_copyOfRangeByte_39247_14 : decode cJ7_copyOfRangeByte_39247 14 = .ok (.aload_n 0, 1) := by decide +kernel
theorem dJ7_copyOfRangeByte_39247_15 : decode cJ7_copyOfRangeByte_39247 15 = .ok (.iload_n 1, 1) := by decide +kernel
theorem dJ7_copyOfRangeByte_39247_16 : decode cJ7_copyOfRangeByte_39247 16 = .ok (.aload 4, 2) := by decide +kernel
theorem dJ7_copyOfRangeByte_39247_18 : decode cJ7_copyOfRangeByte_39247 18 = .ok (.iconst 0, 1) := by decide +kernel
theorem dJ7_copyOfRangeByte_39247_19 : decode cJ7_copyOfRangeByte_39247 19 = .ok (.aload_n 0, 1) := by decide +kernel
theorem dJ7_copyOfRangeByte_39247_20 : decode cJ7_copyOfRangeByte_39247 20 = .ok (.arraylength, 1) := by decide +kernel
theorem dJ7_copyOfRangeByte_39247_21 : decode cJ7_copyOfRangeByte_39247 21 = .ok (.iload_n 1, 1) := by decide +kernel
theorem dJ7_copyOfRangeByte_39247_22 : decode cJ7_copyOfRangeByte_39247 22 = .ok (.isub, 1) := by decide +kernel
theorem dJ7_copyOfRangeByte_39247_23 : decode cJ7_copyOfRangeByte_39247 23 = .ok (.iload_n 3, 1) := by decide +kernel
theorem dJ7_copyOfRangeByte_39247_24 : decode cJ7_copyOfRangeByte_39247 24 = .ok (.invokestatic 304, 3) := by decide +kernel
theorem dJ7_copyOfRangeByte_39247_27 : decode cJ7_copyOfRangeByte_39247 27 = .ok (.invokestatic 150, 3) := by decide +kernel
theorem dJ7_copyOfRangeByte_39247_30 : decode cJ7_copyOfRangeByte_39247 30 = .ok (.aload 4, 2) := by decide +kernel
theorem dJ7_copyOfRangeByte_39247_32 : decode cJ7_copyOfRangeByte_39247 32 = .ok (.areturn, 1) := by decide +kernel
set_option maxRecDepth 20000 in
theorem ggJ15_checkIndex_7cf53_J3_checkIndex_8e157 : GoodIn wsJ15_checkIndex_7cf53 wsJ3_checkIndex_8e157 := goodIn_r _ [4] (by decide +kernel) (by decide +kernel)
set_option maxRecDepth 20000 in
theorem gJ15_checkIndex_7cf53_J3_checkIndex_8e157 : GoodIn wsJ15_checkIndex_7cf53 (va_wsS RJ15 105 yJ3_checkIndex_8e157 wsJ3_checkIndex_8e157) := goodIn_app (goodIn_of _ (by decide +kernel)) ggJ15_checkIndex_7cf53_J3_checkIndex_8e157
theorem dJ15_checkIndex_7cf53_0 : decode cJ15_checkIndex_7cf53 0 = .ok (.iload_n 0, 1) := by decide +kernel
theorem dJ15_checkIndex_7cf53_1 : decode cJ15_checkIndex_7cf53 1 = .ok (.iload_n 1, 1) := by decide +kernel
theorem dJ15_checkIndex_7cf53_2 : decode cJ15_checkIndex_7cf53 2 = .ok (.aconst_null, 1) := by decide +kernel
theorem dJ15_checkIndex_7cf53_3 : decode cJ15_checkIndex_7cf53 3 = .ok (.invokestatic 105, 3) := by decide +kernel
theorem dJ15_checkIndex_7cf53_6 : decode cJ15_checkIndex_7cf53 6 = .ok (.ireturn, 1) := by decide +kernel
set_option maxRecDepth 20000 in
theorem ggJ8_newLength_cabcc_J8_hugeLength_7cf53 : GoodIn wsJ8_newLength_cabcc wsJ8_hugeLength_7cf53 := goodIn_r _ [9, 5] (by decide +kernel) (by decide +kernel)
set_option maxRecDepth 20000 in
theorem gJ8_newLength_cabcc_J8_hugeLength_7cf53 : GoodIn wsJ8_newLength_cabcc (va_wsS RJ8 201 yJ8_hugeLength_7cf53 wsJ8_hugeLength_7cf53) := goodIn_app (goodIn_of _ (by decide +kernel)) ggJ8_newLength_cabcc_J8_hugeLength_7cf53
theorem dJ8_newLength_cabcc_0 : decode cJ8_newLength_cabcc 0 = .ok (.iload_n 0, 1) := by decide +kernel
theorem dJ8_newLength_cabcc_1 : decode cJ8_newLength_cabcc 1 = .ok (.iload_n 1, 1) := by decide +kernel
theorem dJ8_newLength_cabcc_2 : decode cJ8_newLength_cabcc 2 = .ok (.iload_n 2, 1) := by decide +kernel
theorem dJ8_newLength_cabcc_3 : decode cJ8_newLength_cabcc 3 = .ok (.invokestatic 194, 3) := by decide +kernel
theorem dJ8_newLength_cabcc_6 : decode cJ8_newLength_cabcc 6 = .ok (.iadd, 1) := by decide +kernel
theorem dJ8_newLength_cabcc_7 : decode cJ8_newLength_cabcc 7 = .ok (.istore_n 3, 1) := by decide +kernel
theorem dJ8_newLength_cabcc_8 : decode cJ8_newLength_cabcc 8 = .ok (.iconst 0, 1) := by decide +kernel
theorem dJ8_newLength_cabcc_9 : decode cJ8_newLength_cabcc 9 = .ok (.iload_n 3, 1) := by decide +kernel
theorem dJ8_newLength_cabcc_10 : decode cJ8_newLength_cabcc 10 = .ok (.if_icmp .ge 11, 3) := by decide +kernel
theorem dJ8_newLength_cabcc_13 : decode cJ8_newLength_cabcc 13 = .ok (.iload_n 3, 1) := by decide +kernel
theorem dJ8_newLength_cabcc_14 : decode cJ8_newLength_cabcc 14 = .ok (.ldc 200, 2) := by decide +kernel
theorem dJ8_newLength_cabcc_16 : decode cJ8_newLength_cabcc 16 = .ok (.if_icmp .gt 5, 3) := by decide +kernel
theorem dJ8_newLength_cabcc_19 : decode cJ8_newLength_cabcc 19 = .ok (.iload_n 3, 1) := by decide +kernel
theorem dJ8_newLength_cabcc_20 : decode cJ8_newLength_cabcc 20 = .ok (.ireturn, 1) := by decide +kernel
theorem dJ8_newLength_cabcc_21 : decode cJ8_newLength_cabcc 21 = .ok (.iload_n 0, 1) := by decide +kernel
theorem dJ8_newLength_cabcc_22 : decode cJ8_newLength_cabcc 22 = .ok (.iload_n 1, 1) := by decide +kernel
theorem dJ8_newLength_cabcc_23 : decode cJ8_newLength_cabcc 23 = .ok (.invokestatic 201, 3) := by decide +kernel
theorem dJ8_newLength_cabcc_26 : decode cJ8_newLength_cabcc 26 = .ok (.ireturn, 1) := by decide +kernel
theorem dJ8_hugeLength_7cf53_0 : decode cJ8_hugeLength_7cf53 0 = .ok (.iload_n 0, 1) := by decide +kernel
theorem dJ8_hugeLength_7cf53_1 : decode cJ8_hugeLength_7cf53 1 = .ok (.iload_n 1, 1) := by decide +kernel
theorem dJ8_hugeLength_7cf53_2 : decode cJ8_hugeLength_7cf53 2 = .ok (.iadd, 1) := by decide +kernel
theorem dJ8_hugeLength_7cf53_3 : decode cJ8_hugeLength_7cf53 3 = .ok (.istore_n 2, 1) := by decide +kernel
theorem dJ8_hugeLength_7cf53_4 : decode cJ8_hugeLength_7cf53 4 = .ok (.iload_n 2, 1) := by decide +kernel
theorem dJ8_hugeLength_7cf53_5 : decode cJ8_hugeLength_7cf53 5 = .ok (.ifCond .ge 44, 3) := by decide +kernel
theorem dJ8_hugeLength_7cf53_8 : decode cJ8_hugeLength_7cf53 8 = .ok (.new 204, 3) := by decide +kernel
theorem dJ8_hugeLength_7cf53_11 : decode cJ8_hugeLength_7cf53 11 = .ok (.dup, 1) := by decide +kernel
theorem dJ8_hugeLength_7cf53_12 : decode cJ8_hugeLength_7cf53 12 = .ok (.new 89, 3) := by decide +kernel
theorem dJ8_hugeLength_7cf53_15 : decode cJ8_hugeLength_7cf53 15 = .ok (.dup, 1) := by decide +kernel
theorem dJ8_hugeLength_7cf53_16 : decode cJ8_hugeLength_7cf53 16 = .ok (.invokespecial 91, 3) := by decide +kernel
theorem dJ8_hugeLength_7cf53_19 : decode cJ8_hugeLength_7cf53 19 = .ok (.ldc 206, 2) := by decide +kernel
theorem dJ8_hugeLength_7cf53_21 : decode cJ8_hugeLength_7cf53 21 = .ok (.invokevirtual 94, 3) := by decide +kernel
theorem dJ8_hugeLength_7cf53_24 : decode cJ8_hugeLength_7cf53 24 = .ok (.iload_n 0, 1) := by decide +kernel
theorem dJ8_hugeLength_7cf53_25 : decode cJ8_hugeLength_7cf53 25 = .ok (.invokevirtual 98, 3) := by decide +kernel
theorem dJ8_hugeLength_7cf53_28 : decode cJ8_hugeLength_7cf53 28 = .ok (.ldc 208, 2) := by decide +kernel
theorem dJ8_hugeLength_7cf53_30 : decode cJ8_hugeLength_7cf53 30 = .ok (.invokevirtual 94, 3) := by decide +kernel
theorem dJ8_hugeLength_7cf53_33 : decode cJ8_hugeLength_7cf53 33 = .ok (.iload_n 1, 1) := by decide +kernel
theorem dJ8_hugeLength_7cf53_34 : decode cJ8_hugeLength_7cf53 34 = .ok (.invokevirtual 98, 3) := by decide +kernel
theorem dJ8_hugeLength_7cf53_37 : decode cJ8_hugeLength_7cf53 37 = .ok (.ldc 210, 2) := by decide +kernel
theorem dJ8_hugeLength_7cf53_39 : decode cJ8_hugeLength_7cf53 39 = .ok (.invokevirtual 94, 3) := by decide +kernel
theorem dJ8_hugeLength_7cf53_42 : decode cJ8_hugeLength_7cf53 42 = .ok (.invokevirtual 101, 3) := by decide +kernel
theorem dJ8_hugeLength_7cf53_45 : decode cJ8_hugeLength_7cf53 45 = .ok (.invokespecial 212, 3) := by decide +kernel
theorem dJ8_hugeLength_7cf53_48 : decode cJ8_hugeLength_7cf53 48 = .ok (.athrow, 1) := by decide +kernel
theorem dJ8_hugeLength_7cf53_49 : decode cJ8_hugeLength_7cf53 49 = .ok (.iload_n 2, 1) := by decide +kernel
theorem dJ8_hugeLength_7cf53_50 : decode cJ8_hugeLength_7cf53 50 = .ok (.ldc 200, 2) := by decide +kernel
theorem dJ8_hugeLength_7cf53_52 : decode cJ8_hugeLength_7cf53 52 = .ok (.if_icmp .gt 6, 3) := by decide +kernel
theorem dJ8_hugeLength_7cf53_55 : decode cJ8_hugeLength_7cf53 55 = .ok (.ldc 200, 2) := by decide +kernel
theorem dJ8_hugeLength_7cf53_57 : decode cJ8_hugeLength_7cf53 57 = .ok (.ireturn, 1) := by decide +kernel
theorem dJ8_hugeLength_7cf53_58 : decode cJ8_hugeLength_7cf53 58 = .ok (.iload_n 2, 1) := by decide +kernel
theorem dJ8_hugeLength_7cf53_59 : decode cJ8_hugeLength_7cf53 59 = .ok (.ireturn, 1) := by decide +kernel
theorem dJ3_checkIndex_8e157_0 : decode cJ3_checkIndex_8e157 0 = .ok (.iload_n 0, 1) := by decide +kernel
theorem dJ3_checkIndex_8e157_1 : decode cJ3_checkIndex_8e157 1 = .ok (.ifCond .lt 8, 3) := by decide +kernel
theorem dJ3_checkIndex_8e157_4 : decode cJ3_checkIndex_8e157 4 = .ok (.iload_n 0, 1) := by decide +kernel
theorem dJ3_checkIndex_8e157_5 : decode cJ3_checkIndex_8e157 5 = .ok (.iload_n 1, 1) := by decide +kernel
theorem dJ3_checkIndex_8e157_6 : decode cJ3_checkIndex_8e157 6 = .ok (.if_icmp .lt 10, 3) := by decide +kernel
theorem dJ3_checkIndex_8e157_9 : decode cJ3_checkIndex_8e157 9 = .ok (.aload_n 2, 1) := by decide +kernel
theorem dJ3_checkIndex_8e157_10 : decode cJ3_checkIndex_8e157 10 = .ok (.iload_n 0, 1) := by decide +kernel
theorem dJ3_checkIndex_8e157_11 : decode cJ3_checkIndex_8e157 11 = .ok (.iload_n 1, 1) := by decide +kernel
theorem dJ3_checkIndex_8e157_12 : decode cJ3_checkIndex_8e157 12 = .ok (.invokestatic 95, 3) := by decide +kernel
theorem dJ3_checkIndex_8e157_15 : decode cJ3_checkIndex_8e157 15 = .ok (.athrow, 1) := by decide +kernel
theorem dJ3_checkIndex_8e157_16 : decode cJ3_checkIndex_8e157 16 = .ok (.iload_n 0, 1) := by decide +kernel
theorem dJ3_checkIndex_8e157_17 : decode cJ3_checkIndex_8e157 17 = .ok (.ireturn, 1) := by decide +kernel
theorem dJ3_checkFromToIndex_8c36e_0 : decode cJ3_checkFromToIndex_8c36e 0 = .ok (.iload_n 0, 1) := by decide +kernel
theorem dJ3_checkFromToIndex_8c36e_1 : decode cJ3_checkFromToIndex_8c36e 1 = .ok (.ifCond .lt 13, 3) := by decide +kernel
theorem dJ3_checkFromToIndex_8c36e_4 : decode cJ3_checkFromToIndex_8c36e 4 = .ok (.iload_n 0, 1) := by decide +kernel
theorem dJ3_checkFromToIndex_8c36e_5 : decode cJ3_checkFromToIndex_8c36e 5 = .ok (.iload_n 1, 1) := by decide +kernel
theorem dJ3_checkFromToIndex_8c36e_6 : decode cJ3_checkFromToIndex_8c36e 6 = .ok (.if_icmp .gt 8, 3) := by decide +kernel
theorem dJ3_checkFromToIndex_8c36e_9 : decode cJ3_checkFromToIndex_8c36e 9 = .ok (.iload_n 1, 1) := by decide +kernel
theorem dJ3_checkFromToIndex_8c36e_10 : decode cJ3_checkFromToIndex_8c36e 10 = .ok (.iload_n 2, 1) := by decide +kernel
theorem dJ3_checkFromToIndex_8c36e_11 : decode cJ3_checkFromToIndex_8c36e 11 = .ok (.if_icmp .le 11, 3) := by decide +kernel
theorem dJ3_checkFromToIndex_8c36e_14 : decode cJ3_checkFromToIndex_8c36e 14 = .ok (.aload_n 3, 1) := by decide +kernel
theorem dJ3_checkFromToIndex_8c36e_15 : decode cJ3_checkFromToIndex_8c36e 15 = .ok (.iload_n 0, 1) := by decide +kernel
theorem dJ3_checkFromToIndex_8c36e_16 : decode cJ3_checkFromToIndex_8c36e 16 = .ok (.iload_n 1, 1) := by decide +kernel
theorem dJ3_checkFromToIndex_8c36e_17 : decode cJ3_checkFromToIndex_8c36e 17 = .ok (.iload_n 2, 1) := by decide +kernel
theorem dJ3_checkFromToIndex_8c36e_18 : decode cJ3_checkFromToIndex_8c36e 18 = .ok (.invokestatic 99, 3) := by decide +kernel
theorem dJ3_checkFromToIndex_8c36e_21 : decode cJ3_checkFromToIndex_8c36e 21 = .ok (.athrow, 1) := by decide +kernel
theorem dJ3_checkFromToIndex_8c36e_22 : decode cJ3_checkFromToIndex_8c36e 22 = .ok (.iload_n 0, 1) := by decide +kernel
theorem dJ3_checkFromToIndex_8c36e_23 : decode cJ3_checkFromToIndex_8c36e 23 = .ok (.ireturn, 1) := by decide +kernel
theorem dJ3_checkFromIndexSize_8c36e_0 : decode cJ3_checkFromIndexSize_8c36e 0 = .ok (.iload_n 2, 1) := by decide +kernel
theorem dJ3_checkFromIndexSize_8c36e_1 : decode cJ3_checkFromIndexSize_8c36e 1 = .ok (.iload_n 0, 1) := by decide +kernel
theorem dJ3_checkFromIndexSize_8c36e_2 : decode cJ3_checkFromIndexSize_8c36e 2 = .ok (.ior, 1) := by decide +kernel
theorem dJ3_checkFromIndexSize_8c36e_3 : decode cJ3_checkFromIndexSize_8c36e 3 = .ok (.iload_n 1, 1) := by decide +kernel
theorem dJ3_checkFromIndexSize_8c36e_4 : decode cJ3_checkFromIndexSize_8c36e 4 = .ok (.ior, 1) := by decide +kernel
theorem dJ3_checkFromIndexSize_8c36e_5 : decode cJ3_checkFromIndexSize_8c36e 5 = .ok (.ifCond .lt 10, 3) := by decide +kernel
theorem dJ3_checkFromIndexSize_8c36e_8 : decode cJ3_checkFromIndexSize_8c36e 8 = .ok (.iload_n 1, 1) := by decide +kernel
theorem dJ3_checkFromIndexSize_8c36e_9 : decode cJ3_checkFromIndexSize_8c36e 9 = .ok (.iload_n 2, 1) := by decide +kernel
theorem dJ3_checkFromIndexSize_8c36e_10 : decode cJ3_checkFromIndexSize_8c36e 10 = .ok (.iload_n 0, 1) := by decide +kernel
theorem dJ3_checkFromIndexSize_8c36e_11 : decode cJ3_checkFromIndexSize_8c36e 11 = .ok (.isub, 1) := by decide +kernel
theorem dJ3_checkFromIndexSize_8c36e_12 : decode cJ3_checkFromIndexSize_8c36e 12 = .ok (.if_icmp .le 11, 3) := by decide +kernel
theorem dJ3_checkFromIndexSize_8c36e_15 : decode cJ3_checkFromIndexSize_8c36e 15 = .ok (.aload_n 3, 1) := by decide +kernel
theorem dJ3_checkFromIndexSize_8c36e_16 : decode cJ3_checkFromIndexSize_8c36e 16 = .ok (.iload_n 0, 1) := by decide +kernel
theorem dJ3_checkFromIndexSize_8c36e_17 : decode cJ3_checkFromIndexSize_8c36e 17 = .ok (.iload_n 1, 1) := by decide +kernel
theorem dJ3_checkFromIndexSize_8c36e_18 : decode cJ3_checkFromIndexSize_8c36e 18 = .ok (.iload_n 2, 1) := by decide +kernel
theorem dJ3_checkFromIndexSize_8c36e_19 : decode cJ3_checkFromIndexSize_8c36e 19 = .ok (.invokestatic 103, 3) := by decide +kernel
theorem dJ3_checkFromIndexSize_8c36e_22 : decode cJ3_checkFromIndexSize_8c36e 22 = .ok (.athrow, 1) := by decide +kernel
theorem dJ3_checkFromIndexSize_8c36e_23 : decode cJ3_checkFromIndexSize_8c36e 23 = .ok (.iload_n 0, 1) := by decide +kernel
theorem dJ3_checkFromIndexSize_8c36e_24 : decode cJ3_checkFromIndexSize_8c36e 24 = .ok (.ireturn, 1) := by decide +kernel

