theorem dX8_init_29 : decode cX8_init 29 = .ok (.putfield 21, 3) := by decide +kernel
theorem dX8_init_32 : decode cX8_init 32 = .ok (.aload_n 0, 1) := by decide +kernel
theorem dX8_init_33 : decode cX8_init 33 = .ok (.sipush 800, 3) := by decide +kernel
theorem dX8_init_36 : decode cX8_init 36 = .ok (.newarray .int, 2) := by decide +kernel
theorem dX8_init_38 : decode cX8_init 38 = .ok (.putfield 24, 3) := by decide +kernel
theorem dX8_init_41 : decode cX8_init 41 = .ok (.aload_n 0, 1) := by decide +kernel
theorem dX8_init_42 : decode cX8_init 42 = .ok (.iconst 0, 1) := by decide +kernel
theorem dX8_init_43 : decode cX8_init 43 = .ok (.putfield 27, 3) := by decide +kernel
theorem dX8_init_46 : decode cX8_init 46 = .ok (.aload_n 0, 1) := by decide +kernel
theorem dX8_init_47 : decode cX8_init 47 = .ok (.iconst 0, 1) := by decide +kernel
theorem dX8_init_48 : decode cX8_init 48 = .ok (.putfield 31, 3) := by decide +kernel
theorem dX8_init_51 : decode cX8_init 51 = .ok (.aload_n 0, 1) := by decide +kernel
theorem dX8_init_52 : decode cX8_init 52 = .ok (.iconst 0, 1) := by decide +kernel
theorem dX8_init_53 : decode cX8_init 53 = .ok (.putfield 34, 3) := by decide +kernel
theorem dX8_init_56 : decode cX8_init 56 = .ok (.return_, 1) := by decide +kernel
theorem dX8_clear_0 : decode cX8_clear 0 = .ok (.aload_n 0, 1) := by decide +kernel
theorem dX8_clear_1 : decode cX8_clear 1 = .ok (.iconst 0, 1) := by decide +kernel
theorem dX8_clear_2 : decode cX8_clear 2 = .ok (.putfield 27, 3) := by decide +kernel
theorem dX8_clear_5 : decode cX8_clear 5 = .ok (.return_, 1) := by decide +kernel
theorem dX8_add_0 : decode cX8_add 0 = .ok (.iconst 0, 1) := by decide +kernel
theorem dX8_add_1 : decode cX8_add 1 = .ok (.istore_n 3, 1) := by decide +kernel
theorem dX8_add_2 : decode cX8_add 2 = .ok (.iload_n 3, 1) := by decide +kernel
theorem dX8_add_3 : decode cX8_add 3 = .ok (.aload_n 1, 1) := by decide +kernel
theorem dX8_add_4 : decode cX8_add 4 = .ok (.getfield 37, 3) := by decide +kernel
theorem dX8_add_7 : decode cX8_add 7 = .ok (.if_icmp .ge 82, 3) := by decide +kernel
theorem dX8_add_10 : decode cX8_add 10 = .ok (.aload_n 0, 1) := by decide +kernel
theorem dX8_add_11 : decode cX8_add 11 = .ok (.getfield 27, 3) := by decide +kernel
theorem dX8_add_14 : decode cX8_add 14 = .ok (.ifCond .lt 75, 3) := by decide +kernel
theorem dX8_add_17 : decode cX8_add 17 = .ok (.aload_n 0, 1) := by decide +kernel
theorem dX8_add_18 : decode cX8_add 18 = .ok (.getfield 27, 3) := by decide +kernel
theorem dX8_add_21 : decode cX8_add 21 = .ok (.sipush 800, 3) := by decide +kernel
theorem dX8_add_24 : decode cX8_add 24 = .ok (.if_icmp .ge 65, 3) := by decide +kernel
theorem dX8_add_27 : decode cX8_add 27 = .ok (.aload_n 0, 1) := by decide +kernel
theorem dX8_add_28 : decode cX8_add 28 = .ok (.getfield 13, 3) := by decide +kernel
theorem dX8_add_31 : decode cX8_add 31 = .ok (.aload_n 0, 1) := by decide +kernel
theorem dX8_add_32 : decode cX8_add 32 = .ok (.getfield 27, 3) := by decide +kernel
theorem dX8_add_35 : decode cX8_add 35 = .ok (.aload_n 1, 1) := by decide +kernel
theorem dX8_add_36 : decode cX8_add 36 = .ok (.aastore, 1) := by decide +kernel
theorem dX8_add_37 : decode cX8_add 37 = .ok (.aload_n 0, 1) := by decide +kernel
theorem dX8_add_38 : decode cX8_add 38 = .ok (.getfield 17, 3) := by decide +kernel
theorem dX8_add_41 : decode cX8_add 41 = .ok (.aload_n 0, 1) := by decide +kernel
theorem dX8_add_42 : decode cX8_add 42 = .ok (.getfield 27, 3) := by decide +kernel
theorem dX8_add_45 : decode cX8_add 45 = .ok (.iload_n 3, 1) := by decide +kernel
theorem dX8_add_46 : decode cX8_add 46 = .ok (.iastore, 1) := by decide +kernel
theorem dX8_add_47 : decode cX8_add 47 = .ok (.aload_n 0, 1) := by decide +kernel
theorem dX8_add_48 : decode cX8_add 48 = .ok (.getfield 21, 3) := by decide +kernel
theorem dX8_add_51 : decode cX8_add 51 = .ok (.aload_n 0, 1) := by decide +kernel
theorem dX8_add_52 : decode cX8_add 52 = .ok (.getfield 27, 3) := by decide +kernel
theorem dX8_add_55 : decode cX8_add 55 = .ok (.aload_n 1, 1) := by decide +kernel
theorem dX8_add_56 : decode cX8_add 56 = .ok (.iload_n 3, 1) := by decide +kernel
theorem dX8_add_57 : decode cX8_add 57 = .ok (.invokevirtual 39, 3) := by decide +kernel
theorem dX8_add_60 : decode cX8_add 60 = .ok (.iload_n 2, 1) := by decide +kernel
theorem dX8_add_61 : decode cX8_add 61 = .ok (.imul, 1) := by decide +kernel
theorem dX8_add_62 : decode cX8_add 62 = .ok (.iastore, 1) := by decide +kernel
theorem dX8_add_63 : decode cX8_add 63 = .ok (.aload_n 0, 1) := by decide +kernel
theorem dX8_add_64 : decode cX8_add 64 = .ok (.getfield 24, 3) := by decide +kernel
theorem dX8_add_67 : decode cX8_add 67 = .ok (.aload_n 0, 1) := by decide +kernel
theorem dX8_add_68 : decode cX8_add 68 = .ok (.getfield 27, 3) := by decide +kernel
theorem dX8_add_71 : decode cX8_add 71 = .ok (.iload_n 2, 1) := by decide +kernel
theorem dX8_add_72 : decode cX8_add 72 = .ok (.iastore, 1) := by decide +kernel
theorem dX8_add_73 : decode cX8_add 73 = .ok (.aload_n 0, 1) := by decide +kernel
theorem dX8_add_74 : decode cX8_add 74 = .ok (.dup, 1) := by decide +kernel
theorem dX8_add_75 : decode cX8_add 75 = .ok (.getfield 27, 3) := by decide +kernel
theorem dX8_add_78 : decode cX8_add 78 = .ok (.iconst 1, 1) := by decide +kernel
theorem dX8_add_79 : decode cX8_add 79 = .ok (.iadd, 1) := by decide +kernel
theorem dX8_add_80 : decode cX8_add 80 = .ok (.putfield 27, 3) := by decide +kernel
theorem dX8_add_83 : decode cX8_add 83 = .ok (.iinc 3 1, 3) := by decide +kernel
theorem dX8_add_86 : decode cX8_add 86 = .ok (.goto (-84), 3) := by decide +kernel
theorem dX8_add_89 : decode cX8_add 89 = .ok (.return_, 1) := by decide +kernel
theorem dX8_widthOf_0 : decode cX8_widthOf 0 = .ok (.iload_n 1, 1) := by decide +kernel
theorem dX8_widthOf_1 : decode cX8_widthOf 1 = .ok (.ifCond .lt 19, 3) := by decide +kernel
theorem dX8_widthOf_4 : decode cX8_widthOf 4 = .ok (.iload_n 1, 1) := by decide +kernel
theorem dX8_widthOf_5 : decode cX8_widthOf 5 = .ok (.sipush 800, 3) := by decide +kernel
theorem dX8_widthOf_8 : decode cX8_widthOf 8 = .ok (.if_icmp .ge 12, 3) := by decide +kernel
theorem dX8_widthOf_11 : decode cX8_widthOf 11 = .ok (.aload_n 0, 1) := by decide +kernel
theorem dX8_widthOf_12 : decode cX8_widthOf 12 = .ok (.getfield 21, 3) := by decide +kernel
theorem dX8_widthOf_15 : decode cX8_widthOf 15 = .ok (.iload_n 1, 1) := by decide +kernel
theorem dX8_widthOf_16 : decode cX8_widthOf 16 = .ok (.iaload, 1) := by decide +kernel
theorem dX8_widthOf_17 : decode cX8_widthOf 17 = .ok (.goto 4, 3) := by decide +kernel
theorem dX8_widthOf_20 : decode cX8_widthOf 20 = .ok (.iconst 0, 1) := by decide +kernel
theorem dX8_widthOf_21 : decode cX8_widthOf 21 = .ok (.ireturn, 1) := by decide +kernel
theorem dX8_takeLine_0 : decode cX8_takeLine 0 = .ok (.aload_n 0, 1) := by decide +kernel
theorem dX8_takeLine_1 : decode cX8_takeLine 1 = .ok (.iconst 0, 1) := by decide +kernel
theorem dX8_takeLine_2 : decode cX8_takeLine 2 = .ok (.putfield 31, 3) := by decide +kernel
theorem dX8_takeLine_5 : decode cX8_takeLine 5 = .ok (.aload_n 0, 1) := by decide +kernel
theorem dX8_takeLine_6 : decode cX8_takeLine 6 = .ok (.iconst 0, 1) := by decide +kernel
theorem dX8_takeLine_7 : decode cX8_takeLine 7 = .ok (.putfield 34, 3) := by decide +kernel
theorem dX8_takeLine_10 : decode cX8_takeLine 10 = .ok (.iconst 0, 1) := by decide +kernel
theorem dX8_takeLine_11 : decode cX8_takeLine 11 = .ok (.istore_n 3, 1) := by decide +kernel
theorem dX8_takeLine_12 : decode cX8_takeLine 12 = .ok (.iconst 0, 1) := by decide +kernel
theorem dX8_takeLine_13 : decode cX8_takeLine 13 = .ok (.iload_n 1, 1) := by decide +kernel
theorem dX8_takeLine_14 : decode cX8_takeLine 14 = .ok (.invokestatic 43, 3) := by decide +kernel
theorem dX8_takeLine_17 : decode cX8_takeLine 17 = .ok (.istore 4, 2) := by decide +kernel
theorem dX8_takeLine_19 : decode cX8_takeLine 19 = .ok (.iload 4, 2) := by decide +kernel
theorem dX8_takeLine_21 : decode cX8_takeLine 21 = .ok (.aload_n 0, 1) := by decide +kernel
theorem dX8_takeLine_22 : decode cX8_takeLine 22 = .ok (.getfield 27, 3) := by decide +kernel
theorem dX8_takeLine_25 : decode cX8_takeLine 25 = .ok (.if_icmp .ge 88, 3) := by decide +kernel
theorem dX8_takeLine_28 : decode cX8_takeLine 28 = .ok (.iload 4, 2) := by decide +kernel
theorem dX8_takeLine_30 : decode cX8_takeLine 30 = .ok (.sipush 800, 3) := by decide +kernel
theorem dX8_takeLine_33 : decode cX8_takeLine 33 = .ok (.if_icmp .ge 80, 3) := by decide +kernel
theorem dX8_takeLine_36 : decode cX8_takeLine 36 = .ok (.iload 4, 2) := by decide +kernel
theorem dX8_takeLine_38 : decode cX8_takeLine 38 = .ok (.iload_n 1, 1) := by decide +kernel
theorem dX8_takeLine_39 : decode cX8_takeLine 39 = .ok (.if_icmp .le 24, 3) := by decide +kernel
theorem dX8_takeLine_42 : decode cX8_takeLine 42 = .ok (.aload_n 0, 1) := by decide +kernel
theorem dX8_takeLine_43 : decode cX8_takeLine 43 = .ok (.getfield 31, 3) := by decide +kernel
theorem dX8_takeLine_46 : decode cX8_takeLine 46 = .ok (.iload_n 3, 1) := by decide +kernel
theorem dX8_takeLine_47 : decode cX8_takeLine 47 = .ok (.iadd, 1) := by decide +kernel
theorem dX8_takeLine_48 : decode cX8_takeLine 48 = .ok (.aload_n 0, 1) := by decide +kernel
theorem dX8_takeLine_49 : decode cX8_takeLine 49 = .ok (.getfield 21, 3) := by decide +kernel
theorem dX8_takeLine_52 : decode cX8_takeLine 52 = .ok (.iload 4, 2) := by decide +kernel
theorem dX8_takeLine_54 : decode cX8_takeLine 54 = .ok (.iaload, 1) := by decide +kernel
theorem dX8_takeLine_55 : decode cX8_takeLine 55 = .ok (.iadd, 1) := by decide +kernel
theorem dX8_takeLine_56 : decode cX8_takeLine 56 = .ok (.iload_n 2, 1) := by decide +kernel
theorem dX8_takeLine_57 : decode cX8_takeLine 57 = .ok (.if_icmp .le 6, 3) := by decide +kernel
theorem dX8_takeLine_60 : decode cX8_takeLine 60 = .ok (.iload 4, 2) := by decide +kernel
theorem dX8_takeLine_62 : decode cX8_takeLine 62 = .ok (.ireturn, 1) := by decide +kernel
theorem dX8_takeLine_63 : decode cX8_takeLine 63 = .ok (.aload_n 0, 1) := by decide +kernel
theorem dX8_takeLine_64 : decode cX8_takeLine 64 = .ok (.dup, 1) := by decide +kernel
theorem dX8_takeLine_65 : decode cX8_takeLine 65 = .ok (.getfield 31, 3) := by decide +kernel
theorem dX8_takeLine_68 : decode cX8_takeLine 68 = .ok (.iload_n 3, 1) := by decide +kernel
theorem dX8_takeLine_69 : decode cX8_takeLine 69 = .ok (.aload_n 0, 1) := by decide +kernel
theorem dX8_takeLine_70 : decode cX8_takeLine 70 = .ok (.getfield 21, 3) := by decide +kernel
theorem dX8_takeLine_73 : decode cX8_takeLine 73 = .ok (.iload 4, 2) := by decide +kernel
theorem dX8_takeLine_75 : decode cX8_takeLine 75 = .ok (.iaload, 1) := by decide +kernel
theorem dX8_takeLine_76 : decode cX8_takeLine 76 = .ok (.iadd, 1) := by decide +kernel
theorem dX8_takeLine_77 : decode cX8_takeLine 77 = .ok (.iadd, 1) := by decide +kernel
theorem dX8_takeLine_78 : decode cX8_takeLine 78 = .ok (.putfield 31, 3) := by decide +kernel
theorem dX8_takeLine_81 : decode cX8_takeLine 81 = .ok (.aload_n 0, 1) := by decide +kernel
theorem dX8_takeLine_82 : decode cX8_takeLine 82 = .ok (.aload_n 0, 1) := by decide +kernel
theorem dX8_takeLine_83 : decode cX8_takeLine 83 = .ok (.getfield 34, 3) := by decide +kernel
theorem dX8_takeLine_86 : decode cX8_takeLine 86 = .ok (.aload_n 0, 1) := by decide +kernel
theorem dX8_takeLine_87 : decode cX8_takeLine 87 = .ok (.getfield 24, 3) := by decide +kernel
theorem dX8_takeLine_90 : decode cX8_takeLine 90 = .ok (.iload 4, 2) := by decide +kernel
theorem dX8_takeLine_92 : decode cX8_takeLine 92 = .ok (.iaload, 1) := by decide +kernel
theorem dX8_takeLine_93 : decode cX8_takeLine 93 = .ok (.invokestatic 43, 3) := by decide +kernel
theorem dX8_takeLine_96 : decode cX8_takeLine 96 = .ok (.putfield 34, 3) := by decide +kernel
theorem dX8_takeLine_99 : decode cX8_takeLine 99 = .ok (.aload_n 0, 1) := by decide +kernel
theorem dX8_takeLine_100 : decode cX8_takeLine 100 = .ok (.getfield 24, 3) := by decide +kernel
theorem dX8_takeLine_103 : decode cX8_takeLine 103 = .ok (.iload 4, 2) := by decide +kernel
theorem dX8_takeLine_105 : decode cX8_takeLine 105 = .ok (.iaload, 1) := by decide +kernel
theorem dX8_takeLine_106 : decode cX8_takeLine 106 = .ok (.istore_n 3, 1) := by decide +kernel
theorem dX8_takeLine_107 : decode cX8_takeLine 107 = .ok (.iinc 4 1, 3) := by decide +kernel
theorem dX8_takeLine_110 : decode cX8_takeLine 110 = .ok (.goto (-91), 3) := by decide +kernel
theorem dX8_takeLine_113 : decode cX8_takeLine 113 = .ok (.aload_n 0, 1) := by decide +kernel
theorem dX8_takeLine_114 : decode cX8_takeLine 114 = .ok (.getfield 27, 3) := by decide +kernel
theorem dX8_takeLine_117 : decode cX8_takeLine 117 = .ok (.ireturn, 1) := by decide +kernel
theorem dX8_setLine_0 : decode cX8_setLine 0 = .ok (.iload_n 3, 1) := by decide +kernel
theorem dX8_setLine_1 : decode cX8_setLine 1 = .ok (.istore 5, 2) := by decide +kernel
theorem dX8_setLine_3 : decode cX8_setLine 3 = .ok (.iconst 0, 1) := by decide +kernel
theorem dX8_setLine_4 : decode cX8_setLine 4 = .ok (.iload_n 1, 1) := by decide +kernel
theorem dX8_setLine_5 : decode cX8_setLine 5 = .ok (.invokestatic 43, 3) := by decide +kernel
theorem dX8_setLine_8 : decode cX8_setLine 8 = .ok (.istore 6, 2) := by decide +kernel
theorem dX8_setLine_10 : decode cX8_setLine 10 = .ok (.iload 6, 2) := by decide +kernel
theorem dX8_setLine_12 : decode cX8_setLine 12 = .ok (.iload_n 2, 1) := by decide +kernel
theorem dX8_setLine_13 : decode cX8_setLine 13 = .ok (.if_icmp .ge 80, 3) := by decide +kernel
theorem dX8_setLine_16 : decode cX8_setLine 16 = .ok (.iload 6, 2) := by decide +kernel
theorem dX8_setLine_18 : decode cX8_setLine 18 = .ok (.aload_n 0, 1) := by decide +kernel
theorem dX8_setLine_19 : decode cX8_setLine 19 = .ok (.getfield 27, 3) := by decide +kernel
theorem dX8_setLine_22 : decode cX8_setLine 22 = .ok (.if_icmp .ge 71, 3) := by decide +kernel
theorem dX8_setLine_25 : decode cX8_setLine 25 = .ok (.iload 6, 2) := by decide +kernel
theorem dX8_setLine_27 : decode cX8_setLine 27 = .ok (.sipush 800, 3) := by decide +kernel
theorem dX8_setLine_30 : decode cX8_setLine 30 = .ok (.if_icmp .ge 63, 3) := by decide +kernel
theorem dX8_setLine_33 : decode cX8_setLine 33 = .ok (.aload_n 0, 1) := by decide +kernel
theorem dX8_setLine_34 : decode cX8_setLine 34 = .ok (.getfield 13, 3) := by decide +kernel
theorem dX8_setLine_37 : decode cX8_setLine 37 = .ok (.iload 6, 2) := by decide +kernel
theorem dX8_setLine_39 : decode cX8_setLine 39 = .ok (.aaload, 1) := by decide +kernel
theorem dX8_setLine_40 : decode cX8_setLine 40 = .ok (.ifnull 27, 3) := by decide +kernel
theorem dX8_setLine_43 : decode cX8_setLine 43 = .ok (.aload_n 0, 1) := by decide +kernel
theorem dX8_setLine_44 : decode cX8_setLine 44 = .ok (.getfield 13, 3) := by decide +kernel
theorem dX8_setLine_47 : decode cX8_setLine 47 = .ok (.iload 6, 2) := by decide +kernel
theorem dX8_setLine_49 : decode cX8_setLine 49 = .ok (.aaload, 1) := by decide +kernel
theorem dX8_setLine_50 : decode cX8_setLine 50 = .ok (.getfield 49, 3) := by decide +kernel
theorem dX8_setLine_53 : decode cX8_setLine 53 = .ok (.aload_n 0, 1) := by decide +kernel
theorem dX8_setLine_54 : decode cX8_setLine 54 = .ok (.getfield 17, 3) := by decide +kernel
theorem dX8_setLine_57 : decode cX8_setLine 57 = .ok (.iload 6, 2) := by decide +kernel
theorem dX8_setLine_59 : decode cX8_setLine 59 = .ok (.iaload, 1) := by decide +kernel
theorem dX8_setLine_60 : decode cX8_setLine 60 = .ok (.iload 5, 2) := by decide +kernel
theorem dX8_setLine_62 : decode cX8_setLine 62 = .ok (.iload 4, 2) := by decide +kernel
theorem dX8_setLine_64 : decode cX8_setLine 64 = .ok (.invokevirtual 53, 3) := by decide +kernel
theorem dX8_setLine_67 : decode cX8_setLine 67 = .ok (.iload 5, 2) := by decide +kernel
theorem dX8_setLine_69 : decode cX8_setLine 69 = .ok (.aload_n 0, 1) := by decide +kernel
theorem dX8_setLine_70 : decode cX8_setLine 70 = .ok (.getfield 21, 3) := by decide +kernel
theorem dX8_setLine_73 : decode cX8_setLine 73 = .ok (.iload 6, 2) := by decide +kernel
theorem dX8_setLine_75 : decode cX8_setLine 75 = .ok (.iaload, 1) := by decide +kernel
theorem dX8_setLine_76 : decode cX8_setLine 76 = .ok (.aload_n 0, 1) := by decide +kernel
theorem dX8_setLine_77 : decode cX8_setLine 77 = .ok (.getfield 24, 3) := by decide +kernel
theorem dX8_setLine_80 : decode cX8_setLine 80 = .ok (.iload 6, 2) := by decide +kernel
theorem dX8_setLine_82 : decode cX8_setLine 82 = .ok (.iaload, 1) := by decide +kernel
theorem dX8_setLine_83 : decode cX8_setLine 83 = .ok (.iadd, 1) := by decide +kernel
theorem dX8_setLine_84 : decode cX8_setLine 84 = .ok (.iadd, 1) := by decide +kernel
theorem dX8_setLine_85 : decode cX8_setLine 85 = .ok (.istore 5, 2) := by decide +kernel
theorem dX8_setLine_87 : decode cX8_setLine 87 = .ok (.iinc 6 1, 3) := by decide +kernel
theorem dX8_setLine_90 : decode cX8_setLine 90 = .ok (.goto (-80), 3) := by decide +kernel
theorem dX8_setLine_93 : decode cX8_setLine 93 = .ok (.return_, 1) := by decide +kernel
theorem dX9_init_0 : decode cX9_init 0 = .ok (.aload_n 0, 1) := by decide +kernel
theorem dX9_init_1 : decode cX9_init 1 = .ok (.invokespecial 1, 3) := by decide +kernel
theorem dX9_init_4 : decode cX9_init 4 = .ok (.aload_n 0, 1) := by decide +kernel
theorem dX9_init_5 : decode cX9_init 5 = .ok (.invokestatic 7, 3) := by decide +kernel
theorem dX9_init_8 : decode cX9_init 8 = .ok (.putfield 13, 3) := by decide +kernel
theorem dX9_init_11 : decode cX9_init 11 = .ok (.aload_n 0, 1) := by decide +kernel
theorem dX9_init_12 : decode cX9_init 12 = .ok (.new 19, 3) := by decide +kernel
theorem dX9_init_15 : decode cX9_init 15 = .ok (.dup, 1) := by decide +kernel
theorem dX9_init_16 : decode cX9_init 16 = .ok (.invokespecial 21, 3) := by decide +kernel
theorem dX9_init_19 : decode cX9_init 19 = .ok (.putfield 22, 3) := by decide +kernel
theorem dX9_init_22 : decode cX9_init 22 = .ok (.aload_n 0, 1) := by decide +kernel
theorem dX9_init_23 : decode cX9_init 23 = .ok (.new 26, 3) := by decide +kernel
theorem dX9_init_26 : decode cX9_init 26 = .ok (.dup, 1) := by decide +kernel
theorem dX9_init_27 : decode cX9_init 27 = .ok (.invokespecial 28, 3) := by decide +kernel
theorem dX9_init_30 : decode cX9_init 30 = .ok (.putfield 29, 3) := by decide +kernel
theorem dX9_init_33 : decode cX9_init 33 = .ok (.aload_n 0, 1) := by decide +kernel
theorem dX9_init_34 : decode cX9_init 34 = .ok (.aload_n 0, 1) := by decide +kernel
theorem dX9_init_35 : decode cX9_init 35 = .ok (.getfield 29, 3) := by decide +kernel
theorem dX9_init_38 : decode cX9_init 38 = .ok (.getfield 33, 3) := by decide +kernel
theorem dX9_init_41 : decode cX9_init 41 = .ok (.putfield 37, 3) := by decide +kernel
theorem dX9_init_44 : decode cX9_init 44 = .ok (.aload_n 0, 1) := by decide +kernel
theorem dX9_init_45 : decode cX9_init 45 = .ok (.new 38, 3) := by decide +kernel
theorem dX9_init_48 : decode cX9_init 48 = .ok (.dup, 1) := by decide +kernel
theorem dX9_init_49 : decode cX9_init 49 = .ok (.invokespecial 40, 3) := by decide +kernel
theorem dX9_init_52 : decode cX9_init 52 = .ok (.putfield 41, 3) := by decide +kernel
theorem dX9_init_55 : decode cX9_init 55 = .ok (.aload_n 0, 1) := by decide +kernel
theorem dX9_init_56 : decode cX9_init 56 = .ok (.sipush 400, 3) := by decide +kernel
theorem dX9_init_59 : decode cX9_init 59 = .ok (.putfield 44, 3) := by decide +kernel
theorem dX9_init_62 : decode cX9_init 62 = .ok (.return_, 1) := by decide +kernel
theorem dX9_addElement_0 : decode cX9_addElement 0 = .ok (.aload_n 0, 1) := by decide +kernel
theorem dX9_addElement_1 : decode cX9_addElement 1 = .ok (.iload_n 1, 1) := by decide +kernel
theorem dX9_addElement_2 : decode cX9_addElement 2 = .ok (.invokevirtual 48, 3) := by decide +kernel
theorem dX9_addElement_5 : decode cX9_addElement 5 = .ok (.astore_n 3, 1) := by decide +kernel
theorem dX9_addElement_6 : decode cX9_addElement 6 = .ok (.aload_n 3, 1) := by decide +kernel
theorem dX9_addElement_7 : decode cX9_addElement 7 = .ok (.getfield 52, 3) := by decide +kernel
theorem dX9_addElement_10 : decode cX9_addElement 10 = .ok (.ifCond .ne 13, 3) := by decide +kernel
theorem dX9_addElement_13 : decode cX9_addElement 13 = .ok (.iload_n 2, 1) := by decide +kernel
theorem dX9_addElement_14 : decode cX9_addElement 14 = .ok (.ifCond .lt 9, 3) := by decide +kernel
theorem dX9_addElement_17 : decode cX9_addElement 17 = .ok (.iload_n 2, 1) := by decide +kernel
theorem dX9_addElement_18 : decode cX9_addElement 18 = .ok (.bipush 7, 2) := by decide +kernel
theorem dX9_addElement_20 : decode cX9_addElement 20 = .ok (.if_icmp .le 13, 3) := by decide +kernel
theorem dX9_addElement_23 : decode cX9_addElement 23 = .ok (.new 58, 3) := by decide +kernel
theorem dX9_addElement_26 : decode cX9_addElement 26 = .ok (.dup, 1) := by decide +kernel
theorem dX9_addElement_27 : decode cX9_addElement 27 = .ok (.ldc 60, 2) := by decide +kernel
theorem dX9_addElement_29 : decode cX9_addElement 29 = .ok (.invokespecial 62, 3) := by decide +kernel
theorem dX9_addElement_32 : decode cX9_addElement 32 = .ok (.athrow, 1) := by decide +kernel
theorem dX9_addElement_33 : decode cX9_addElement 33 = .ok (.aload_n 0, 1) := by decide +kernel
theorem dX9_addElement_34 : decode cX9_addElement 34 = .ok (.getfield 13, 3) := by decide +kernel
theorem dX9_addElement_37 : decode cX9_addElement 37 = .ok (.aload_n 3, 1) := by decide +kernel
theorem dX9_addElement_38 : decode cX9_addElement 38 = .ok (.invokevirtual 65, 3) := by decide +kernel
theorem dX9_addElement_41 : decode cX9_addElement 41 = .ok (.ifCond .ne 13, 3) := by decide +kernel
theorem dX9_addElement_44 : decode cX9_addElement 44 = .ok (.new 69, 3) := by decide +kernel
theorem dX9_addElement_47 : decode cX9_addElement 47 = .ok (.dup, 1) := by decide +kernel
theorem dX9_addElement_48 : decode cX9_addElement 48 = .ok (.ldc 71, 2) := by decide +kernel
theorem dX9_addElement_50 : decode cX9_addElement 50 = .ok (.invokespecial 73, 3) := by decide +kernel
theorem dX9_addElement_53 : decode cX9_addElement 53 = .ok (.athrow, 1) := by decide +kernel
theorem dX9_addElement_54 : decode cX9_addElement 54 = .ok (.aload_n 0, 1) := by decide +kernel
theorem dX9_addElement_55 : decode cX9_addElement 55 = .ok (.invokevirtual 74, 3) := by decide +kernel
theorem dX9_addElement_58 : decode cX9_addElement 58 = .ok (.aload_n 0, 1) := by decide +kernel
theorem dX9_addElement_59 : decode cX9_addElement 59 = .ok (.getfield 13, 3) := by decide +kernel
theorem dX9_addElement_62 : decode cX9_addElement 62 = .ok (.aload_n 3, 1) := by decide +kernel
theorem dX9_addElement_63 : decode cX9_addElement 63 = .ok (.iconst 0, 1) := by decide +kernel
theorem dX9_addElement_64 : decode cX9_addElement 64 = .ok (.iload_n 2, 1) := by decide +kernel
theorem dX9_addElement_65 : decode cX9_addElement 65 = .ok (.invokevirtual 77, 3) := by decide +kernel
theorem dX9_addElement_68 : decode cX9_addElement 68 = .ok (.ireturn, 1) := by decide +kernel
theorem dX9_addText_0 : decode cX9_addText 0 = .ok (.aload_n 0, 1) := by decide +kernel
theorem dX9_addText_1 : decode cX9_addText 1 = .ok (.iload_n 1, 1) := by decide +kernel
theorem dX9_addText_2 : decode cX9_addText 2 = .ok (.invokevirtual 48, 3) := by decide +kernel
theorem dX9_addText_5 : decode cX9_addText 5 = .ok (.astore_n 2, 1) := by decide +kernel
theorem dX9_addText_6 : decode cX9_addText 6 = .ok (.aload_n 2, 1) := by decide +kernel
theorem dX9_addText_7 : decode cX9_addText 7 = .ok (.getfield 52, 3) := by decide +kernel
theorem dX9_addText_10 : decode cX9_addText 10 = .ok (.ifCond .eq 13, 3) := by decide +kernel
theorem dX9_addText_13 : decode cX9_addText 13 = .ok (.new 58, 3) := by decide +kernel
theorem dX9_addText_16 : decode cX9_addText 16 = .ok (.dup, 1) := by decide +kernel
theorem dX9_addText_17 : decode cX9_addText 17 = .ok (.ldc 81, 2) := by decide +kernel
theorem dX9_addText_19 : decode cX9_addText 19 = .ok (.invokespecial 62, 3) := by decide +kernel
theorem dX9_addText_22 : decode cX9_addText 22 = .ok (.athrow, 1) := by decide +kernel
theorem dX9_addText_23 : decode cX9_addText 23 = .ok (.aload_n 0, 1) := by decide +kernel
theorem dX9_addText_24 : decode cX9_addText 24 = .ok (.getfield 13, 3) := by decide +kernel
theorem dX9_addText_27 : decode cX9_addText 27 = .ok (.aload_n 2, 1) := by decide +kernel
theorem dX9_addText_28 : decode cX9_addText 28 = .ok (.invokevirtual 65, 3) := by decide +kernel
theorem dX9_addText_31 : decode cX9_addText 31 = .ok (.ifCond .ne 13, 3) := by decide +kernel
theorem dX9_addText_34 : decode cX9_addText 34 = .ok (.new 69, 3) := by decide +kernel
theorem dX9_addText_37 : decode cX9_addText 37 = .ok (.dup, 1) := by decide +kernel
theorem dX9_addText_38 : decode cX9_addText 38 = .ok (.ldc 71, 2) := by decide +kernel
theorem dX9_addText_40 : decode cX9_addText 40 = .ok (.invokespecial 73, 3) := by decide +kernel
theorem dX9_addText_43 : decode cX9_addText 43 = .ok (.athrow, 1) := by decide +kernel
theorem dX9_addText_44 : decode cX9_addText 44 = .ok (.aload_n 0, 1) := by decide +kernel
theorem dX9_addText_45 : decode cX9_addText 45 = .ok (.invokevirtual 74, 3) := by decide +kernel
theorem dX9_addText_48 : decode cX9_addText 48 = .ok (.aload_n 0, 1) := by decide +kernel
theorem dX9_addText_49 : decode cX9_addText 49 = .ok (.getfield 13, 3) := by decide +kernel
theorem dX9_addText_52 : decode cX9_addText 52 = .ok (.aload_n 2, 1) := by decide +kernel
theorem dX9_addText_53 : decode cX9_addText 53 = .ok (.iconst 1, 1) := by decide +kernel
theorem dX9_addText_54 : decode cX9_addText 54 = .ok (.iconst 0, 1) := by decide +kernel
theorem dX9_addText_55 : decode cX9_addText 55 = .ok (.invokevirtual 77, 3) := by decide +kernel
theorem dX9_addText_58 : decode cX9_addText 58 = .ok (.ireturn, 1) := by decide +kernel
theorem dX9_addWord_0 : decode cX9_addWord 0 = .ok (.aload_n 0, 1) := by decide +kernel
theorem dX9_addWord_1 : decode cX9_addWord 1 = .ok (.iload_n 1, 1) := by decide +kernel
theorem dX9_addWord_2 : decode cX9_addWord 2 = .ok (.invokevirtual 48, 3) := by decide +kernel
theorem dX9_addWord_5 : decode cX9_addWord 5 = .ok (.astore_n 3, 1) := by decide +kernel
theorem dX9_addWord_6 : decode cX9_addWord 6 = .ok (.aload_n 3, 1) := by decide +kernel
theorem dX9_addWord_7 : decode cX9_addWord 7 = .ok (.getfield 52, 3) := by decide +kernel
theorem dX9_addWord_10 : decode cX9_addWord 10 = .ok (.ifCond .eq 14, 3) := by decide +kernel
theorem dX9_addWord_13 : decode cX9_addWord 13 = .ok (.iload_n 2, 1) := by decide +kernel
theorem dX9_addWord_14 : decode cX9_addWord 14 = .ok (.iconst 1, 1) := by decide +kernel
theorem dX9_addWord_15 : decode cX9_addWord 15 = .ok (.if_icmp .lt 9, 3) := by decide +kernel
theorem dX9_addWord_18 : decode cX9_addWord 18 = .ok (.iload_n 2, 1) := by decide +kernel
theorem dX9_addWord_19 : decode cX9_addWord 19 = .ok (.bipush 12, 2) := by decide +kernel
theorem dX9_addWord_21 : decode cX9_addWord 21 = .ok (.if_icmp .le 13, 3) := by decide +kernel
theorem dX9_addWord_24 : decode cX9_addWord 24 = .ok (.new 58, 3) := by decide +kernel
theorem dX9_addWord_27 : decode cX9_addWord 27 = .ok (.dup, 1) := by decide +kernel
theorem dX9_addWord_28 : decode cX9_addWord 28 = .ok (.ldc 83, 2) := by decide +kernel
theorem dX9_addWord_30 : decode cX9_addWord 30 = .ok (.invokespecial 62, 3) := by decide +kernel
theorem dX9_addWord_33 : decode cX9_addWord 33 = .ok (.athrow, 1) := by decide +kernel
theorem dX9_addWord_34 : decode cX9_addWord 34 = .ok (.aload_n 3, 1) := by decide +kernel
theorem dX9_addWord_35 : decode cX9_addWord 35 = .ok (.getfield 85, 3) := by decide +kernel
theorem dX9_addWord_38 : decode cX9_addWord 38 = .ok (.bipush 20, 2) := by decide +kernel
theorem dX9_addWord_40 : decode cX9_addWord 40 = .ok (.if_icmp .ge 15, 3) := by decide +kernel
theorem dX9_addWord_43 : decode cX9_addWord 43 = .ok (.aload_n 3, 1) := by decide +kernel
theorem dX9_addWord_44 : decode cX9_addWord 44 = .ok (.getfield 85, 3) := by decide +kernel
theorem dX9_addWord_47 : decode cX9_addWord 47 = .ok (.aload_n 3, 1) := by decide +kernel
theorem dX9_addWord_48 : decode cX9_addWord 48 = .ok (.getfield 88, 3) := by decide +kernel
theorem dX9_addWord_51 : decode cX9_addWord 51 = .ok (.arraylength, 1) := by decide +kernel
theorem dX9_addWord_52 : decode cX9_addWord 52 = .ok (.if_icmp .lt 13, 3) := by decide +kernel
theorem dX9_addWord_55 : decode cX9_addWord 55 = .ok (.new 69, 3) := by decide +kernel
theorem dX9_addWord_58 : decode cX9_addWord 58 = .ok (.dup, 1) := by decide +kernel
theorem dX9_addWord_59 : decode cX9_addWord 59 = .ok (.ldc 92, 2) := by decide +kernel
theorem dX9_addWord_61 : decode cX9_addWord 61 = .ok (.invokespecial 73, 3) := by decide +kernel
theorem dX9_addWord_64 : decode cX9_addWord 64 = .ok (.athrow, 1) := by decide +kernel
theorem dX9_addWord_65 : decode cX9_addWord 65 = .ok (.aload_n 0, 1) := by decide +kernel
theorem dX9_addWord_66 : decode cX9_addWord 66 = .ok (.invokevirtual 74, 3) := by decide +kernel
theorem dX9_addWord_69 : decode cX9_addWord 69 = .ok (.aload_n 3, 1) := by decide +kernel
theorem dX9_addWord_70 : decode cX9_addWord 70 = .ok (.getfield 88, 3) := by decide +kernel
theorem dX9_addWord_73 : decode cX9_addWord 73 = .ok (.aload_n 3, 1) := by decide +kernel
theorem dX9_addWord_74 : decode cX9_addWord 74 = .ok (.getfield 85, 3) := by decide +kernel
theorem dX9_addWord_77 : decode cX9_addWord 77 = .ok (.iload_n 2, 1) := by decide +kernel
theorem dX9_addWord_78 : decode cX9_addWord 78 = .ok (.iastore, 1) := by decide +kernel
theorem dX9_addWord_79 : decode cX9_addWord 79 = .ok (.aload_n 3, 1) := by decide +kernel
theorem dX9_addWord_80 : decode cX9_addWord 80 = .ok (.dup, 1) := by decide +kernel
theorem dX9_addWord_81 : decode cX9_addWord 81 = .ok (.getfield 85, 3) := by decide +kernel
theorem dX9_addWord_84 : decode cX9_addWord 84 = .ok (.iconst 1, 1) := by decide +kernel
theorem dX9_addWord_85 : decode cX9_addWord 85 = .ok (.iadd, 1) := by decide +kernel
theorem dX9_addWord_86 : decode cX9_addWord 86 = .ok (.putfield 85, 3) := by decide +kernel
theorem dX9_addWord_89 : decode cX9_addWord 89 = .ok (.aload_n 3, 1) := by decide +kernel
theorem dX9_addWord_90 : decode cX9_addWord 90 = .ok (.getfield 85, 3) := by decide +kernel
theorem dX9_addWord_93 : decode cX9_addWord 93 = .ok (.ireturn, 1) := by decide +kernel
theorem dX9_takeAway_0 : decode cX9_takeAway 0 = .ok (.aload_n 0, 1) := by decide +kernel
theorem dX9_takeAway_1 : decode cX9_takeAway 1 = .ok (.iload_n 1, 1) := by decide +kernel
theorem dX9_takeAway_2 : decode cX9_takeAway 2 = .ok (.invokevirtual 48, 3) := by decide +kernel
theorem dX9_takeAway_5 : decode cX9_takeAway 5 = .ok (.astore_n 2, 1) := by decide +kernel
theorem dX9_takeAway_6 : decode cX9_takeAway 6 = .ok (.aload_n 2, 1) := by decide +kernel
theorem dX9_takeAway_7 : decode cX9_takeAway 7 = .ok (.getfield 94, 3) := by decide +kernel
theorem dX9_takeAway_10 : decode cX9_takeAway 10 = .ok (.ifnonnull 13, 3) := by decide +kernel
theorem dX9_takeAway_13 : decode cX9_takeAway 13 = .ok (.new 58, 3) := by decide +kernel
theorem dX9_takeAway_16 : decode cX9_takeAway 16 = .ok (.dup, 1) := by decide +kernel
theorem dX9_takeAway_17 : decode cX9_takeAway 17 = .ok (.ldc 98, 2) := by decide +kernel
theorem dX9_takeAway_19 : decode cX9_takeAway 19 = .ok (.invokespecial 62, 3) := by decide +kernel
theorem dX9_takeAway_22 : decode cX9_takeAway 22 = .ok (.athrow, 1) := by decide +kernel
theorem dX9_takeAway_23 : decode cX9_takeAway 23 = .ok (.aload_n 0, 1) := by decide +kernel
theorem dX9_takeAway_24 : decode cX9_takeAway 24 = .ok (.invokevirtual 74, 3) := by decide +kernel
theorem dX9_takeAway_27 : decode cX9_takeAway 27 = .ok (.aload_n 0, 1) := by decide +kernel
theorem dX9_takeAway_28 : decode cX9_takeAway 28 = .ok (.getfield 13, 3) := by decide +kernel
theorem dX9_takeAway_31 : decode cX9_takeAway 31 = .ok (.aload_n 2, 1) := by decide +kernel
theorem dX9_takeAway_32 : decode cX9_takeAway 32 = .ok (.invokevirtual 100, 3) := by decide +kernel
theorem dX9_takeAway_35 : decode cX9_takeAway 35 = .ok (.ireturn, 1) := by decide +kernel
theorem dX9_move_0 : decode cX9_move 0 = .ok (.aload_n 0, 1) := by decide +kernel
theorem dX9_move_1 : decode cX9_move 1 = .ok (.iload_n 1, 1) := by decide +kernel
theorem dX9_move_2 : decode cX9_move 2 = .ok (.invokevirtual 48, 3) := by decide +kernel
theorem dX9_move_5 : decode cX9_move 5 = .ok (.astore 4, 2) := by decide +kernel
theorem dX9_move_7 : decode cX9_move 7 = .ok (.aload_n 0, 1) := by decide +kernel
theorem dX9_move_8 : decode cX9_move 8 = .ok (.iload_n 2, 1) := by decide +kernel
theorem dX9_move_9 : decode cX9_move 9 = .ok (.invokevirtual 48, 3) := by decide +kernel
theorem dX9_move_12 : decode cX9_move 12 = .ok (.astore 5, 2) := by decide +kernel
theorem dX9_move_14 : decode cX9_move 14 = .ok (.aload_n 0, 1) := by decide +kernel
theorem dX9_move_15 : decode cX9_move 15 = .ok (.getfield 13, 3) := by decide +kernel
theorem dX9_move_18 : decode cX9_move 18 = .ok (.aload 4, 2) := by decide +kernel
theorem dX9_move_20 : decode cX9_move 20 = .ok (.aload 5, 2) := by decide +kernel
theorem dX9_move_22 : decode cX9_move 22 = .ok (.iload_n 3, 1) := by decide +kernel
theorem dX9_move_23 : decode cX9_move 23 = .ok (.invokevirtual 104, 3) := by decide +kernel
theorem dX9_move_26 : decode cX9_move 26 = .ok (.ifCond .ne 13, 3) := by decide +kernel
theorem dX9_move_29 : decode cX9_move 29 = .ok (.new 58, 3) := by decide +kernel
theorem dX9_move_32 : decode cX9_move 32 = .ok (.dup, 1) := by decide +kernel
theorem dX9_move_33 : decode cX9_move 33 = .ok (.ldc 108, 2) := by decide +kernel
theorem dX9_move_35 : decode cX9_move 35 = .ok (.invokespecial 62, 3) := by decide +kernel
theorem dX9_move_38 : decode cX9_move 38 = .ok (.athrow, 1) := by decide +kernel
theorem dX9_move_39 : decode cX9_move 39 = .ok (.aload_n 0, 1) := by decide +kernel
theorem dX9_move_40 : decode cX9_move 40 = .ok (.invokevirtual 74, 3) := by decide +kernel
theorem dX9_move_43 : decode cX9_move 43 = .ok (.aload_n 0, 1) := by decide +kernel
theorem dX9_move_44 : decode cX9_move 44 = .ok (.getfield 13, 3) := by decide +kernel
theorem dX9_move_47 : decode cX9_move 47 = .ok (.aload 4, 2) := by decide +kernel
theorem dX9_move_49 : decode cX9_move 49 = .ok (.aload 5, 2) := by decide +kernel
theorem dX9_move_51 : decode cX9_move 51 = .ok (.iload_n 3, 1) := by decide +kernel
theorem dX9_move_52 : decode cX9_move 52 = .ok (.invokevirtual 110, 3) := by decide +kernel
theorem dX9_move_55 : decode cX9_move 55 = .ok (.aload 5, 2) := by decide +kernel
theorem dX9_move_57 : decode cX9_move 57 = .ok (.getfield 114, 3) := by decide +kernel
theorem dX9_move_60 : decode cX9_move 60 = .ok (.invokevirtual 117, 3) := by decide +kernel
theorem dX9_move_63 : decode cX9_move 63 = .ok (.ireturn, 1) := by decide +kernel
theorem dX9_setClass_0 : decode cX9_setClass 0 = .ok (.aload_n 0, 1) := by decide +kernel
theorem dX9_setClass_1 : decode cX9_setClass 1 = .ok (.iload_n 1, 1) := by decide +kernel
theorem dX9_setClass_2 : decode cX9_setClass 2 = .ok (.invokevirtual 48, 3) := by decide +kernel
theorem dX9_setClass_5 : decode cX9_setClass 5 = .ok (.astore 4, 2) := by decide +kernel
theorem dX9_setClass_7 : decode cX9_setClass 7 = .ok (.aload 4, 2) := by decide +kernel
theorem dX9_setClass_9 : decode cX9_setClass 9 = .ok (.getfield 52, 3) := by decide +kernel
theorem dX9_setClass_12 : decode cX9_setClass 12 = .ok (.ifCond .ne 13, 3) := by decide +kernel
theorem dX9_setClass_15 : decode cX9_setClass 15 = .ok (.iload_n 2, 1) := by decide +kernel
theorem dX9_setClass_16 : decode cX9_setClass 16 = .ok (.ifCond .lt 9, 3) := by decide +kernel
theorem dX9_setClass_19 : decode cX9_setClass 19 = .ok (.iload_n 2, 1) := by decide +kernel
theorem dX9_setClass_20 : decode cX9_setClass 20 = .ok (.bipush 7, 2) := by decide +kernel
theorem dX9_setClass_22 : decode cX9_setClass 22 = .ok (.if_icmp .le 13, 3) := by decide +kernel
theorem dX9_setClass_25 : decode cX9_setClass 25 = .ok (.new 58, 3) := by decide +kernel
theorem dX9_setClass_28 : decode cX9_setClass 28 = .ok (.dup, 1) := by decide +kernel
theorem dX9_setClass_29 : decode cX9_setClass 29 = .ok (.ldc 121, 2) := by decide +kernel
theorem dX9_setClass_31 : decode cX9_setClass 31 = .ok (.invokespecial 62, 3) := by decide +kernel
theorem dX9_setClass_34 : decode cX9_setClass 34 = .ok (.athrow, 1) := by decide +kernel
theorem dX9_setClass_35 : decode cX9_setClass 35 = .ok (.aload_n 0, 1) := by decide +kernel
theorem dX9_setClass_36 : decode cX9_setClass 36 = .ok (.invokevirtual 74, 3) := by decide +kernel
theorem dX9_setClass_39 : decode cX9_setClass 39 = .ok (.aload 4, 2) := by decide +kernel
theorem dX9_setClass_41 : decode cX9_setClass 41 = .ok (.iload_n 2, 1) := by decide +kernel
theorem dX9_setClass_42 : decode cX9_setClass 42 = .ok (.invokevirtual 123, 3) := by decide +kernel
theorem dX9_setClass_45 : decode cX9_setClass 45 = .ok (.istore 5, 2) := by decide +kernel
theorem dX9_setClass_47 : decode cX9_setClass 47 = .ok (.iconst 1, 1) := by decide +kernel
theorem dX9_setClass_48 : decode cX9_setClass 48 = .ok (.iload_n 2, 1) := by decide +kernel
theorem dX9_setClass_49 : decode cX9_setClass 49 = .ok (.ishl, 1) := by decide +kernel
theorem dX9_setClass_50 : decode cX9_setClass 50 = .ok (.istore 6, 2) := by decide +kernel
theorem dX9_setClass_52 : decode cX9_setClass 52 = .ok (.aload 4, 2) := by decide +kernel
theorem dX9_setClass_54 : decode cX9_setClass 54 = .ok (.iload_n 3, 1) := by decide +kernel
theorem dX9_setClass_55 : decode cX9_setClass 55 = .ok (.ifCond .eq 14, 3) := by decide +kernel
theorem dX9_setClass_58 : decode cX9_setClass 58 = .ok (.aload 4, 2) := by decide +kernel
theorem dX9_setClass_60 : decode cX9_setClass 60 = .ok (.getfield 127, 3) := by decide +kernel
theorem dX9_setClass_63 : decode cX9_setClass 63 = .ok (.iload 6, 2) := by decide +kernel
theorem dX9_setClass_65 : decode cX9_setClass 65 = .ok (.ior, 1) := by decide +kernel
theorem dX9_setClass_66 : decode cX9_setClass 66 = .ok (.goto 13, 3) := by decide +kernel
theorem dX9_setClass_69 : decode cX9_setClass 69 = .ok (.aload 4, 2) := by decide +kernel
theorem dX9_setClass_71 : decode cX9_setClass 71 = .ok (.getfield 127, 3) := by decide +kernel
theorem dX9_setClass_74 : decode cX9_setClass 74 = .ok (.iload 6, 2) := by decide +kernel
theorem dX9_setClass_76 : decode cX9_setClass 76 = .ok (.iconst (-1), 1) := by decide +kernel
theorem dX9_setClass_77 : decode cX9_setClass 77 = .ok (.ixor, 1) := by decide +kernel
theorem dX9_setClass_78 : decode cX9_setClass 78 = .ok (.iand, 1) := by decide +kernel
theorem dX9_setClass_79 : decode cX9_setClass 79 = .ok (.putfield 127, 3) := by decide +kernel
theorem dX9_setClass_82 : decode cX9_setClass 82 = .ok (.iload 5, 2) := by decide +kernel
theorem dX9_setClass_84 : decode cX9_setClass 84 = .ok (.ireturn, 1) := by decide +kernel
theorem dX9_setName_0 : decode cX9_setName 0 = .ok (.aload_n 0, 1) := by decide +kernel
theorem dX9_setName_1 : decode cX9_setName 1 = .ok (.iload_n 1, 1) := by decide +kernel
theorem dX9_setName_2 : decode cX9_setName 2 = .ok (.invokevirtual 48, 3) := by decide +kernel
theorem dX9_setName_5 : decode cX9_setName 5 = .ok (.astore_n 3, 1) := by decide +kernel
theorem dX9_setName_6 : decode cX9_setName 6 = .ok (.aload_n 3, 1) := by decide +kernel
theorem dX9_setName_7 : decode cX9_setName 7 = .ok (.getfield 52, 3) := by decide +kernel
theorem dX9_setName_10 : decode cX9_setName 10 = .ok (.ifCond .ne 13, 3) := by decide +kernel
theorem dX9_setName_13 : decode cX9_setName 13 = .ok (.iload_n 2, 1) := by decide +kernel
theorem dX9_setName_14 : decode cX9_setName 14 = .ok (.ifCond .lt 9, 3) := by decide +kernel
theorem dX9_setName_17 : decode cX9_setName 17 = .ok (.iload_n 2, 1) := by decide +kernel
theorem dX9_setName_18 : decode cX9_setName 18 = .ok (.bipush 99, 2) := by decide +kernel
theorem dX9_setName_20 : decode cX9_setName 20 = .ok (.if_icmp .le 13, 3) := by decide +kernel
theorem dX9_setName_23 : decode cX9_setName 23 = .ok (.new 58, 3) := by decide +kernel
theorem dX9_setName_26 : decode cX9_setName 26 = .ok (.dup, 1) := by decide +kernel
theorem dX9_setName_27 : decode cX9_setName 27 = .ok (.ldc 130, 2) := by decide +kernel
theorem dX9_setName_29 : decode cX9_setName 29 = .ok (.invokespecial 62, 3) := by decide +kernel
theorem dX9_setName_32 : decode cX9_setName 32 = .ok (.athrow, 1) := by decide +kernel
theorem dX9_setName_33 : decode cX9_setName 33 = .ok (.aload_n 0, 1) := by decide +kernel
theorem dX9_setName_34 : decode cX9_setName 34 = .ok (.invokevirtual 74, 3) := by decide +kernel
theorem dX9_setName_37 : decode cX9_setName 37 = .ok (.aload_n 3, 1) := by decide +kernel
theorem dX9_setName_38 : decode cX9_setName 38 = .ok (.getfield 132, 3) := by decide +kernel
theorem dX9_setName_41 : decode cX9_setName 41 = .ok (.istore 4, 2) := by decide +kernel
theorem dX9_setName_43 : decode cX9_setName 43 = .ok (.aload_n 3, 1) := by decide +kernel
theorem dX9_setName_44 : decode cX9_setName 44 = .ok (.iload_n 2, 1) := by decide +kernel
theorem dX9_setName_45 : decode cX9_setName 45 = .ok (.putfield 132, 3) := by decide +kernel
theorem dX9_setName_48 : decode cX9_setName 48 = .ok (.iload 4, 2) := by decide +kernel
theorem dX9_setName_50 : decode cX9_setName 50 = .ok (.ireturn, 1) := by decide +kernel
theorem dX9_addRule_0 : decode cX9_addRule 0 = .ok (.iload_n 1, 1) := by decide +kernel
theorem dX9_addRule_1 : decode cX9_addRule 1 = .ok (.invokestatic 135, 3) := by decide +kernel
theorem dX9_addRule_4 : decode cX9_addRule 4 = .ok (.ifCond .ne 13, 3) := by decide +kernel
theorem dX9_addRule_7 : decode cX9_addRule 7 = .ok (.new 138, 3) := by decide +kernel
theorem dX9_addRule_10 : decode cX9_addRule 10 = .ok (.dup, 1) := by decide +kernel
theorem dX9_addRule_11 : decode cX9_addRule 11 = .ok (.ldc 140, 2) := by decide +kernel
theorem dX9_addRule_13 : decode cX9_addRule 13 = .ok (.invokespecial 142, 3) := by decide +kernel
theorem dX9_addRule_16 : decode cX9_addRule 16 = .ok (.athrow, 1) := by decide +kernel
theorem dX9_addRule_17 : decode cX9_addRule 17 = .ok (.iload_n 1, 1) := by decide +kernel
theorem dX9_addRule_18 : decode cX9_addRule 18 = .ok (.iload_n 2, 1) := by decide +kernel
theorem dX9_addRule_19 : decode cX9_addRule 19 = .ok (.invokestatic 143, 3) := by decide +kernel
theorem dX9_addRule_22 : decode cX9_addRule 22 = .ok (.ifCond .ne 20, 3) := by decide +kernel
theorem dX9_addRule_25 : decode cX9_addRule 25 = .ok (.iload_n 2, 1) := by decide +kernel
theorem dX9_addRule_26 : decode cX9_addRule 26 = .ok (.sipush 9999, 3) := by decide +kernel
theorem dX9_addRule_29 : decode cX9_addRule 29 = .ok (.if_icmp .eq 13, 3) := by decide +kernel
theorem dX9_addRule_32 : decode cX9_addRule 32 = .ok (.new 58, 3) := by decide +kernel
theorem dX9_addRule_35 : decode cX9_addRule 35 = .ok (.dup, 1) := by decide +kernel
theorem dX9_addRule_36 : decode cX9_addRule 36 = .ok (.ldc 147, 2) := by decide +kernel
theorem dX9_addRule_38 : decode cX9_addRule 38 = .ok (.invokespecial 62, 3) := by decide +kernel
theorem dX9_addRule_41 : decode cX9_addRule 41 = .ok (.athrow, 1) := by decide +kernel
theorem dX9_addRule_42 : decode cX9_addRule 42 = .ok (.aload_n 0, 1) := by decide +kernel
theorem dX9_addRule_43 : decode cX9_addRule 43 = .ok (.getfield 22, 3) := by decide +kernel
theorem dX9_addRule_46 : decode cX9_addRule 46 = .ok (.invokevirtual 117, 3) := by decide +kernel
theorem dX9_addRule_49 : decode cX9_addRule 49 = .ok (.bipush 24, 2) := by decide +kernel
theorem dX9_addRule_51 : decode cX9_addRule 51 = .ok (.if_icmp .lt 13, 3) := by decide +kernel
theorem dX9_addRule_54 : decode cX9_addRule 54 = .ok (.new 69, 3) := by decide +kernel
theorem dX9_addRule_57 : decode cX9_addRule 57 = .ok (.dup, 1) := by decide +kernel
theorem dX9_addRule_58 : decode cX9_addRule 58 = .ok (.ldc 149, 2) := by decide +kernel
theorem dX9_addRule_60 : decode cX9_addRule 60 = .ok (.invokespecial 73, 3) := by decide +kernel
theorem dX9_addRule_63 : decode cX9_addRule 63 = .ok (.athrow, 1) := by decide +kernel
theorem dX9_addRule_64 : decode cX9_addRule 64 = .ok (.aload_n 0, 1) := by decide +kernel
theorem dX9_addRule_65 : decode cX9_addRule 65 = .ok (.invokevirtual 74, 3) := by decide +kernel
theorem dX9_addRule_68 : decode cX9_addRule 68 = .ok (.aload_n 0, 1) := by decide +kernel
theorem dX9_addRule_69 : decode cX9_addRule 69 = .ok (.getfield 22, 3) := by decide +kernel
theorem dX9_addRule_72 : decode cX9_addRule 72 = .ok (.new 151, 3) := by decide +kernel
theorem dX9_addRule_75 : decode cX9_addRule 75 = .ok (.dup, 1) := by decide +kernel
theorem dX9_addRule_76 : decode cX9_addRule 76 = .ok (.iload_n 1, 1) := by decide +kernel
theorem dX9_addRule_77 : decode cX9_addRule 77 = .ok (.iload_n 2, 1) := by decide +kernel
theorem dX9_addRule_78 : decode cX9_addRule 78 = .ok (.iload_n 3, 1) := by decide +kernel
theorem dX9_addRule_79 : decode cX9_addRule 79 = .ok (.invokespecial 153, 3) := by decide +kernel
theorem dX9_addRule_82 : decode cX9_addRule 82 = .ok (.invokevirtual 156, 3) := by decide +kernel
theorem dX9_addRule_85 : decode cX9_addRule 85 = .ok (.pop, 1) := by decide +kernel
theorem dX9_addRule_86 : decode cX9_addRule 86 = .ok (.aload_n 0, 1) := by decide +kernel
theorem dX9_addRule_87 : decode cX9_addRule 87 = .ok (.getfield 22, 3) := by decide +kernel
theorem dX9_addRule_90 : decode cX9_addRule 90 = .ok (.invokevirtual 117, 3) := by decide +kernel
theorem dX9_addRule_93 : decode cX9_addRule 93 = .ok (.iconst 1, 1) := by decide +kernel
theorem dX9_addRule_94 : decode cX9_addRule 94 = .ok (.isub, 1) := by decide +kernel
theorem dX9_addRule_95 : decode cX9_addRule 95 = .ok (.ireturn, 1) := by decide +kernel
theorem dX9_addPart_0 : decode cX9_addPart 0 = .ok (.aload_n 0, 1) := by decide +kernel
theorem dX9_addPart_1 : decode cX9_addPart 1 = .ok (.iload_n 1, 1) := by decide +kernel
theorem dX9_addPart_2 : decode cX9_addPart 2 = .ok (.invokevirtual 160, 3) := by decide +kernel
theorem dX9_addPart_5 : decode cX9_addPart 5 = .ok (.astore 6, 2) := by decide +kernel
theorem dX9_addPart_7 : decode cX9_addPart 7 = .ok (.iload_n 2, 1) := by decide +kernel
theorem dX9_addPart_8 : decode cX9_addPart 8 = .ok (.iconst (-1), 1) := by decide +kernel
theorem dX9_addPart_9 : decode cX9_addPart 9 = .ok (.if_icmp .lt 13, 3) := by decide +kernel
theorem dX9_addPart_12 : decode cX9_addPart 12 = .ok (.iload_n 2, 1) := by decide +kernel
theorem dX9_addPart_13 : decode cX9_addPart 13 = .ok (.bipush 7, 2) := by decide +kernel
theorem dX9_addPart_15 : decode cX9_addPart 15 = .ok (.if_icmp .gt 7, 3) := by decide +kernel
theorem dX9_addPart_18 : decode cX9_addPart 18 = .ok (.iconst 1, 1) := by decide +kernel
theorem dX9_addPart_19 : decode cX9_addPart 19 = .ok (.goto 4, 3) := by decide +kernel
theorem dX9_addPart_22 : decode cX9_addPart 22 = .ok (.iconst 0, 1) := by decide +kernel
theorem dX9_addPart_23 : decode cX9_addPart 23 = .ok (.istore 7, 2) := by decide +kernel
theorem dX9_addPart_25 : decode cX9_addPart 25 = .ok (.iload_n 3, 1) := by decide +kernel
theorem dX9_addPart_26 : decode cX9_addPart 26 = .ok (.iconst (-1), 1) := by decide +kernel
theorem dX9_addPart_27 : decode cX9_addPart 27 = .ok (.if_icmp .lt 13, 3) := by decide +kernel
theorem dX9_addPart_30 : decode cX9_addPart 30 = .ok (.iload_n 3, 1) := by decide +kernel
theorem dX9_addPart_31 : decode cX9_addPart 31 = .ok (.bipush 7, 2) := by decide +kernel
theorem dX9_addPart_33 : decode cX9_addPart 33 = .ok (.if_icmp .gt 7, 3) := by decide +kernel
theorem dX9_addPart_36 : decode cX9_addPart 36 = .ok (.iconst 1, 1) := by decide +kernel
theorem dX9_addPart_37 : decode cX9_addPart 37 = .ok (.goto 4, 3) := by decide +kernel
theorem dX9_addPart_40 : decode cX9_addPart 40 = .ok (.iconst 0, 1) := by decide +kernel
theorem dX9_addPart_41 : decode cX9_addPart 41 = .ok (.istore 8, 2) := by decide +kernel
theorem dX9_addPart_43 : decode cX9_addPart 43 = .ok (.iload 7, 2) := by decide +kernel
theorem dX9_addPart_45 : decode cX9_addPart 45 = .ok (.ifCond .eq 20, 3) := by decide +kernel
theorem dX9_addPart_48 : decode cX9_addPart 48 = .ok (.iload 8, 2) := by decide +kernel
theorem dX9_addPart_50 : decode cX9_addPart 50 = .ok (.ifCond .eq 15, 3) := by decide +kernel
theorem dX9_addPart_53 : decode cX9_addPart 53 = .ok (.iload 4, 2) := by decide +kernel
theorem dX9_addPart_55 : decode cX9_addPart 55 = .ok (.ifCond .lt 10, 3) := by decide +kernel
theorem dX9_addPart_58 : decode cX9_addPart 58 = .ok (.iload 4, 2) := by decide +kernel
theorem dX9_addPart_60 : decode cX9_addPart 60 = .ok (.bipush 99, 2) := by decide +kernel
theorem dX9_addPart_62 : decode cX9_addPart 62 = .ok (.if_icmp .le 13, 3) := by decide +kernel
theorem dX9_addPart_65 : decode cX9_addPart 65 = .ok (.new 58, 3) := by decide +kernel
theorem dX9_addPart_68 : decode cX9_addPart 68 = .ok (.dup, 1) := by decide +kernel
theorem dX9_addPart_69 : decode cX9_addPart 69 = .ok (.ldc 164, 2) := by decide +kernel
theorem dX9_addPart_71 : decode cX9_addPart 71 = .ok (.invokespecial 62, 3) := by decide +kernel
theorem dX9_addPart_74 : decode cX9_addPart 74 = .ok (.athrow, 1) := by decide +kernel
theorem dX9_addPart_75 : decode cX9_addPart 75 = .ok (.aload 6, 2) := by decide +kernel
theorem dX9_addPart_77 : decode cX9_addPart 77 = .ok (.getfield 166, 3) := by decide +kernel
theorem dX9_addPart_80 : decode cX9_addPart 80 = .ok (.iconst 3, 1) := by decide +kernel
theorem dX9_addPart_81 : decode cX9_addPart 81 = .ok (.if_icmp .lt 13, 3) := by decide +kernel
theorem dX9_addPart_84 : decode cX9_addPart 84 = .ok (.new 69, 3) := by decide +kernel
theorem dX9_addPart_87 : decode cX9_addPart 87 = .ok (.dup, 1) := by decide +kernel
theorem dX9_addPart_88 : decode cX9_addPart 88 = .ok (.ldc 169, 2) := by decide +kernel
theorem dX9_addPart_90 : decode cX9_addPart 90 = .ok (.invokespecial 73, 3) := by decide +kernel
theorem dX9_addPart_93 : decode cX9_addPart 93 = .ok (.athrow, 1) := by decide +kernel
theorem dX9_addPart_94 : decode cX9_addPart 94 = .ok (.aload_n 0, 1) := by decide +kernel
theorem dX9_addPart_95 : decode cX9_addPart 95 = .ok (.invokevirtual 74, 3) := by decide +kernel
theorem dX9_addPart_98 : decode cX9_addPart 98 = .ok (.aload 6, 2) := by decide +kernel
theorem dX9_addPart_100 : decode cX9_addPart 100 = .ok (.iload_n 2, 1) := by decide +kernel
theorem dX9_addPart_101 : decode cX9_addPart 101 = .ok (.iload_n 3, 1) := by decide +kernel
theorem dX9_addPart_102 : decode cX9_addPart 102 = .ok (.iload 4, 2) := by decide +kernel
theorem dX9_addPart_104 : decode cX9_addPart 104 = .ok (.iload 5, 2) := by decide +kernel
theorem dX9_addPart_106 : decode cX9_addPart 106 = .ok (.invokevirtual 171, 3) := by decide +kernel
theorem dX9_addPart_109 : decode cX9_addPart 109 = .ok (.aload 6, 2) := by decide +kernel
theorem dX9_addPart_111 : decode cX9_addPart 111 = .ok (.getfield 166, 3) := by decide +kernel
theorem dX9_addPart_114 : decode cX9_addPart 114 = .ok (.ireturn, 1) := by decide +kernel
theorem dX9_turn_0 : decode cX9_turn 0 = .ok (.aload_n 0, 1) := by decide +kernel
theorem dX9_turn_1 : decode cX9_turn 1 = .ok (.iload_n 1, 1) := by decide +kernel
theorem dX9_turn_2 : decode cX9_turn 2 = .ok (.invokevirtual 160, 3) := by decide +kernel
theorem dX9_turn_5 : decode cX9_turn 5 = .ok (.astore_n 2, 1) := by decide +kernel
theorem dX9_turn_6 : decode cX9_turn 6 = .ok (.aload_n 0, 1) := by decide +kernel
theorem dX9_turn_7 : decode cX9_turn 7 = .ok (.invokevirtual 74, 3) := by decide +kernel
theorem dX9_turn_10 : decode cX9_turn 10 = .ok (.aload_n 2, 1) := by decide +kernel
theorem dX9_turn_11 : decode cX9_turn 11 = .ok (.aload_n 2, 1) := by decide +kernel
theorem dX9_turn_12 : decode cX9_turn 12 = .ok (.getfield 175, 3) := by decide +kernel
theorem dX9_turn_15 : decode cX9_turn 15 = .ok (.ifCond .ne 7, 3) := by decide +kernel
theorem dX9_turn_18 : decode cX9_turn 18 = .ok (.iconst 1, 1) := by decide +kernel
theorem dX9_turn_19 : decode cX9_turn 19 = .ok (.goto 4, 3) := by decide +kernel
theorem dX9_turn_22 : decode cX9_turn 22 = .ok (.iconst 0, 1) := by decide +kernel
theorem dX9_turn_23 : decode cX9_turn 23 = .ok (.putfield 175, 3) := by decide +kernel
theorem dX9_turn_26 : decode cX9_turn 26 = .ok (.aload_n 2, 1) := by decide +kernel
theorem dX9_turn_27 : decode cX9_turn 27 = .ok (.getfield 175, 3) := by decide +kernel
theorem dX9_turn_30 : decode cX9_turn 30 = .ok (.ireturn, 1) := by decide +kernel
theorem dX9_declare_0 : decode cX9_declare 0 = .ok (.aload_n 0, 1) := by decide +kernel
theorem dX9_declare_1 : decode cX9_declare 1 = .ok (.iload_n 1, 1) := by decide +kernel
theorem dX9_declare_2 : decode cX9_declare 2 = .ok (.invokevirtual 48, 3) := by decide +kernel
theorem dX9_declare_5 : decode cX9_declare 5 = .ok (.astore 4, 2) := by decide +kernel
theorem dX9_declare_7 : decode cX9_declare 7 = .ok (.iload_n 2, 1) := by decide +kernel
theorem dX9_declare_8 : decode cX9_declare 8 = .ok (.invokestatic 135, 3) := by decide +kernel
theorem dX9_declare_11 : decode cX9_declare 11 = .ok (.ifCond .ne 13, 3) := by decide +kernel
theorem dX9_declare_14 : decode cX9_declare 14 = .ok (.new 138, 3) := by decide +kernel
theorem dX9_declare_17 : decode cX9_declare 17 = .ok (.dup, 1) := by decide +kernel
theorem dX9_declare_18 : decode cX9_declare 18 = .ok (.ldc 140, 2) := by decide +kernel
theorem dX9_declare_20 : decode cX9_declare 20 = .ok (.invokespecial 142, 3) := by decide +kernel
theorem dX9_declare_23 : decode cX9_declare 23 = .ok (.athrow, 1) := by decide +kernel
theorem dX9_declare_24 : decode cX9_declare 24 = .ok (.iload_n 3, 1) := by decide +kernel
theorem dX9_declare_25 : decode cX9_declare 25 = .ok (.sipush 9998, 3) := by decide +kernel
theorem dX9_declare_28 : decode cX9_declare 28 = .ok (.if_icmp .eq 10, 3) := by decide +kernel
theorem dX9_declare_31 : decode cX9_declare 31 = .ok (.iload_n 3, 1) := by decide +kernel
theorem dX9_declare_32 : decode cX9_declare 32 = .ok (.sipush 9999, 3) := by decide +kernel
theorem dX9_declare_35 : decode cX9_declare 35 = .ok (.if_icmp .ne 7, 3) := by decide +kernel
theorem dX9_declare_38 : decode cX9_declare 38 = .ok (.iconst 1, 1) := by decide +kernel
theorem dX9_declare_39 : decode cX9_declare 39 = .ok (.goto 4, 3) := by decide +kernel
theorem dX9_declare_42 : decode cX9_declare 42 = .ok (.iconst 0, 1) := by decide +kernel
theorem dX9_declare_43 : decode cX9_declare 43 = .ok (.istore 5, 2) := by decide +kernel
theorem dX9_declare_45 : decode cX9_declare 45 = .ok (.aload 4, 2) := by decide +kernel
theorem dX9_declare_47 : decode cX9_declare 47 = .ok (.getfield 52, 3) := by decide +kernel
theorem dX9_declare_50 : decode cX9_declare 50 = .ok (.ifCond .ne 16, 3) := by decide +kernel
theorem dX9_declare_53 : decode cX9_declare 53 = .ok (.iload 5, 2) := by decide +kernel
theorem dX9_declare_55 : decode cX9_declare 55 = .ok (.ifCond .ne 21, 3) := by decide +kernel
theorem dX9_declare_58 : decode cX9_declare 58 = .ok (.iload_n 2, 1) := by decide +kernel
theorem dX9_declare_59 : decode cX9_declare 59 = .ok (.iload_n 3, 1) := by decide +kernel
theorem dX9_declare_60 : decode cX9_declare 60 = .ok (.invokestatic 143, 3) := by decide +kernel
theorem dX9_declare_63 : decode cX9_declare 63 = .ok (.ifCond .ne 13, 3) := by decide +kernel
theorem dX9_declare_66 : decode cX9_declare 66 = .ok (.new 58, 3) := by decide +kernel
theorem dX9_declare_69 : decode cX9_declare 69 = .ok (.dup, 1) := by decide +kernel
theorem dX9_declare_70 : decode cX9_declare 70 = .ok (.ldc 178, 2) := by decide +kernel
theorem dX9_declare_72 : decode cX9_declare 72 = .ok (.invokespecial 62, 3) := by decide +kernel
theorem dX9_declare_75 : decode cX9_declare 75 = .ok (.athrow, 1) := by decide +kernel
theorem dX9_declare_76 : decode cX9_declare 76 = .ok (.aload_n 0, 1) := by decide +kernel
theorem dX9_declare_77 : decode cX9_declare 77 = .ok (.invokevirtual 74, 3) := by decide +kernel
theorem dX9_declare_80 : decode cX9_declare 80 = .ok (.aload 4, 2) := by decide +kernel
theorem dX9_declare_82 : decode cX9_declare 82 = .ok (.iload_n 2, 1) := by decide +kernel
theorem dX9_declare_83 : decode cX9_declare 83 = .ok (.invokevirtual 180, 3) := by decide +kernel
theorem dX9_declare_86 : decode cX9_declare 86 = .ok (.istore 6, 2) := by decide +kernel
theorem dX9_declare_88 : decode cX9_declare 88 = .ok (.aload 4, 2) := by decide +kernel
theorem dX9_declare_90 : decode cX9_declare 90 = .ok (.iload_n 2, 1) := by decide +kernel
theorem dX9_declare_91 : decode cX9_declare 91 = .ok (.iload_n 3, 1) := by decide +kernel
theorem dX9_declare_92 : decode cX9_declare 92 = .ok (.invokevirtual 184, 3) := by decide +kernel
theorem dX9_declare_95 : decode cX9_declare 95 = .ok (.iload 6, 2) := by decide +kernel
theorem dX9_declare_97 : decode cX9_declare 97 = .ok (.ireturn, 1) := by decide +kernel
theorem dX9_setView_0 : decode cX9_setView 0 = .ok (.iload_n 1, 1) := by decide +kernel
theorem dX9_setView_1 : decode cX9_setView 1 = .ok (.invokestatic 188, 3) := by decide +kernel
theorem dX9_setView_4 : decode cX9_setView 4 = .ok (.ifCond .ne 13, 3) := by decide +kernel
theorem dX9_setView_7 : decode cX9_setView 7 = .ok (.new 58, 3) := by decide +kernel
theorem dX9_setView_10 : decode cX9_setView 10 = .ok (.dup, 1) := by decide +kernel
theorem dX9_setView_11 : decode cX9_setView 11 = .ok (.ldc 191, 2) := by decide +kernel
theorem dX9_setView_13 : decode cX9_setView 13 = .ok (.invokespecial 62, 3) := by decide +kernel
theorem dX9_setView_16 : decode cX9_setView 16 = .ok (.athrow, 1) := by decide +kernel
theorem dX9_setView_17 : decode cX9_setView 17 = .ok (.aload_n 0, 1) := by decide +kernel
theorem dX9_setView_18 : decode cX9_setView 18 = .ok (.getfield 44, 3) := by decide +kernel
theorem dX9_setView_21 : decode cX9_setView 21 = .ok (.istore_n 2, 1) := by decide +kernel
theorem dX9_setView_22 : decode cX9_setView 22 = .ok (.aload_n 0, 1) := by decide +kernel
theorem dX9_setView_23 : decode cX9_setView 23 = .ok (.iload_n 1, 1) := by decide +kernel
theorem dX9_setView_24 : decode cX9_setView 24 = .ok (.putfield 44, 3) := by decide +kernel
theorem dX9_setView_27 : decode cX9_setView 27 = .ok (.iload_n 2, 1) := by decide +kernel
theorem dX9_setView_28 : decode cX9_setView 28 = .ok (.ireturn, 1) := by decide +kernel
theorem dX9_scroll_0 : decode cX9_scroll 0 = .ok (.aload_n 0, 1) := by decide +kernel
theorem dX9_scroll_1 : decode cX9_scroll 1 = .ok (.iload_n 1, 1) := by decide +kernel
theorem dX9_scroll_2 : decode cX9_scroll 2 = .ok (.invokevirtual 48, 3) := by decide +kernel
theorem dX9_scroll_5 : decode cX9_scroll 5 = .ok (.astore_n 3, 1) := by decide +kernel
theorem dX9_scroll_6 : decode cX9_scroll 6 = .ok (.aload_n 3, 1) := by decide +kernel
theorem dX9_scroll_7 : decode cX9_scroll 7 = .ok (.getfield 52, 3) := by decide +kernel
theorem dX9_scroll_10 : decode cX9_scroll 10 = .ok (.ifCond .ne 14, 3) := by decide +kernel
theorem dX9_scroll_13 : decode cX9_scroll 13 = .ok (.iload_n 2, 1) := by decide +kernel
theorem dX9_scroll_14 : decode cX9_scroll 14 = .ok (.ifCond .lt 10, 3) := by decide +kernel
theorem dX9_scroll_17 : decode cX9_scroll 17 = .ok (.iload_n 2, 1) := by decide +kernel
theorem dX9_scroll_18 : decode cX9_scroll 18 = .ok (.sipush 5000, 3) := by decide +kernel
theorem dX9_scroll_21 : decode cX9_scroll 21 = .ok (.if_icmp .le 13, 3) := by decide +kernel
theorem dX9_scroll_24 : decode cX9_scroll 24 = .ok (.new 58, 3) := by decide +kernel
theorem dX9_scroll_27 : decode cX9_scroll 27 = .ok (.dup, 1) := by decide +kernel
theorem dX9_scroll_28 : decode cX9_scroll 28 = .ok (.ldc 193, 2) := by decide +kernel
theorem dX9_scroll_30 : decode cX9_scroll 30 = .ok (.invokespecial 62, 3) := by decide +kernel
theorem dX9_scroll_33 : decode cX9_scroll 33 = .ok (.athrow, 1) := by decide +kernel
theorem dX9_scroll_34 : decode cX9_scroll 34 = .ok (.aload_n 0, 1) := by decide +kernel
theorem dX9_scroll_35 : decode cX9_scroll 35 = .ok (.invokevirtual 74, 3) := by decide +kernel
theorem dX9_scroll_38 : decode cX9_scroll 38 = .ok (.aload_n 3, 1) := by decide +kernel
theorem dX9_scroll_39 : decode cX9_scroll 39 = .ok (.getfield 195, 3) := by decide +kernel
theorem dX9_scroll_42 : decode cX9_scroll 42 = .ok (.istore 4, 2) := by decide +kernel
theorem dX9_scroll_44 : decode cX9_scroll 44 = .ok (.aload_n 3, 1) := by decide +kernel
theorem dX9_scroll_45 : decode cX9_scroll 45 = .ok (.iload_n 2, 1) := by decide +kernel
theorem dX9_scroll_46 : decode cX9_scroll 46 = .ok (.putfield 195, 3) := by decide +kernel
theorem dX9_scroll_49 : decode cX9_scroll 49 = .ok (.iload 4, 2) := by decide +kernel
theorem dX9_scroll_51 : decode cX9_scroll 51 = .ok (.ireturn, 1) := by decide +kernel
theorem dX9_added_0 : decode cX9_added 0 = .ok (.aload_n 0, 1) := by decide +kernel
theorem dX9_added_1 : decode cX9_added 1 = .ok (.getfield 13, 3) := by decide +kernel
theorem dX9_added_4 : decode cX9_added 4 = .ok (.getfield 198, 3) := by decide +kernel
theorem dX9_added_7 : decode cX9_added 7 = .ok (.invokevirtual 117, 3) := by decide +kernel
theorem dX9_added_10 : decode cX9_added 10 = .ok (.ireturn, 1) := by decide +kernel
theorem dX9_nodes_0 : decode cX9_nodes 0 = .ok (.aload_n 0, 1) := by decide +kernel
theorem dX9_nodes_1 : decode cX9_nodes 1 = .ok (.getfield 13, 3) := by decide +kernel
theorem dX9_nodes_4 : decode cX9_nodes 4 = .ok (.getfield 201, 3) := by decide +kernel
theorem dX9_nodes_7 : decode cX9_nodes 7 = .ok (.invokevirtual 117, 3) := by decide +kernel
theorem dX9_nodes_10 : decode cX9_nodes 10 = .ok (.ireturn, 1) := by decide +kernel
theorem dX9_isThere_0 : decode cX9_isThere 0 = .ok (.aload_n 0, 1) := by decide +kernel
theorem dX9_isThere_1 : decode cX9_isThere 1 = .ok (.getfield 13, 3) := by decide +kernel
theorem dX9_isThere_4 : decode cX9_isThere 4 = .ok (.iload_n 1, 1) := by decide +kernel
theorem dX9_isThere_5 : decode cX9_isThere 5 = .ok (.invokevirtual 204, 3) := by decide +kernel
theorem dX9_isThere_8 : decode cX9_isThere 8 = .ok (.ireturn, 1) := by decide +kernel
theorem dX9_isText_0 : decode cX9_isText 0 = .ok (.aload_n 0, 1) := by decide +kernel
theorem dX9_isText_1 : decode cX9_isText 1 = .ok (.iload_n 1, 1) := by decide +kernel
theorem dX9_isText_2 : decode cX9_isText 2 = .ok (.invokevirtual 48, 3) := by decide +kernel
theorem dX9_isText_5 : decode cX9_isText 5 = .ok (.getfield 52, 3) := by decide +kernel
theorem dX9_isText_8 : decode cX9_isText 8 = .ok (.ireturn, 1) := by decide +kernel
theorem dX9_parent_0 : decode cX9_parent 0 = .ok (.aload_n 0, 1) := by decide +kernel
theorem dX9_parent_1 : decode cX9_parent 1 = .ok (.iload_n 1, 1) := by decide +kernel
theorem dX9_parent_2 : decode cX9_parent 2 = .ok (.invokevirtual 48, 3) := by decide +kernel
theorem dX9_parent_5 : decode cX9_parent 5 = .ok (.getfield 94, 3) := by decide +kernel
theorem dX9_parent_8 : decode cX9_parent 8 = .ok (.astore_n 2, 1) := by decide +kernel
theorem dX9_parent_9 : decode cX9_parent 9 = .ok (.aload_n 2, 1) := by decide +kernel
theorem dX9_parent_10 : decode cX9_parent 10 = .ok (.ifnonnull 7, 3) := by decide +kernel
theorem dX9_parent_13 : decode cX9_parent 13 = .ok (.iconst (-1), 1) := by decide +kernel
theorem dX9_parent_14 : decode cX9_parent 14 = .ok (.goto 7, 3) := by decide +kernel
theorem dX9_parent_17 : decode cX9_parent 17 = .ok (.aload_n 2, 1) := by decide +kernel
theorem dX9_parent_18 : decode cX9_parent 18 = .ok (.getfield 207, 3) := by decide +kernel
theorem dX9_parent_21 : decode cX9_parent 21 = .ok (.ireturn, 1) := by decide +kernel
theorem dX9_size_0 : decode cX9_size 0 = .ok (.aload_n 0, 1) := by decide +kernel
theorem dX9_size_1 : decode cX9_size 1 = .ok (.iload_n 1, 1) := by decide +kernel
theorem dX9_size_2 : decode cX9_size 2 = .ok (.invokevirtual 48, 3) := by decide +kernel
theorem dX9_size_5 : decode cX9_size 5 = .ok (.astore_n 2, 1) := by decide +kernel
theorem dX9_size_6 : decode cX9_size 6 = .ok (.aload_n 2, 1) := by decide +kernel
theorem dX9_size_7 : decode cX9_size 7 = .ok (.getfield 52, 3) := by decide +kernel
theorem dX9_size_10 : decode cX9_size 10 = .ok (.ifCond .eq 10, 3) := by decide +kernel
theorem dX9_size_13 : decode cX9_size 13 = .ok (.aload_n 2, 1) := by decide +kernel
theorem dX9_size_14 : decode cX9_size 14 = .ok (.getfield 85, 3) := by decide +kernel
theorem dX9_size_17 : decode cX9_size 17 = .ok (.goto 10, 3) := by decide +kernel
theorem dX9_size_20 : decode cX9_size 20 = .ok (.aload_n 2, 1) := by decide +kernel
theorem dX9_size_21 : decode cX9_size 21 = .ok (.getfield 114, 3) := by decide +kernel
theorem dX9_size_24 : decode cX9_size 24 = .ok (.invokevirtual 117, 3) := by decide +kernel
theorem dX9_size_27 : decode cX9_size 27 = .ok (.ireturn, 1) := by decide +kernel
theorem dX9_childAt_0 : decode cX9_childAt 0 = .ok (.aload_n 0, 1) := by decide +kernel
theorem dX9_childAt_1 : decode cX9_childAt 1 = .ok (.iload_n 1, 1) := by decide +kernel
theorem dX9_childAt_2 : decode cX9_childAt 2 = .ok (.invokevirtual 48, 3) := by decide +kernel
theorem dX9_childAt_5 : decode cX9_childAt 5 = .ok (.astore_n 3, 1) := by decide +kernel
theorem dX9_childAt_6 : decode cX9_childAt 6 = .ok (.aload_n 3, 1) := by decide +kernel
theorem dX9_childAt_7 : decode cX9_childAt 7 = .ok (.getfield 52, 3) := by decide +kernel
theorem dX9_childAt_10 : decode cX9_childAt 10 = .ok (.ifCond .ne 18, 3) := by decide +kernel
theorem dX9_childAt_13 : decode cX9_childAt 13 = .ok (.iload_n 2, 1) := by decide +kernel
theorem dX9_childAt_14 : decode cX9_childAt 14 = .ok (.ifCond .lt 14, 3) := by decide +kernel
theorem dX9_childAt_17 : decode cX9_childAt 17 = .ok (.iload_n 2, 1) := by decide +kernel
theorem dX9_childAt_18 : decode cX9_childAt 18 = .ok (.aload_n 3, 1) := by decide +kernel
theorem dX9_childAt_19 : decode cX9_childAt 19 = .ok (.getfield 114, 3) := by decide +kernel
theorem dX9_childAt_22 : decode cX9_childAt 22 = .ok (.invokevirtual 117, 3) := by decide +kernel
theorem dX9_childAt_25 : decode cX9_childAt 25 = .ok (.if_icmp .lt 13, 3) := by decide +kernel
theorem dX9_childAt_28 : decode cX9_childAt 28 = .ok (.new 138, 3) := by decide +kernel
theorem dX9_childAt_31 : decode cX9_childAt 31 = .ok (.dup, 1) := by decide +kernel
theorem dX9_childAt_32 : decode cX9_childAt 32 = .ok (.ldc 210, 2) := by decide +kernel
theorem dX9_childAt_34 : decode cX9_childAt 34 = .ok (.invokespecial 142, 3) := by decide +kernel
theorem dX9_childAt_37 : decode cX9_childAt 37 = .ok (.athrow, 1) := by decide +kernel
theorem dX9_childAt_38 : decode cX9_childAt 38 = .ok (.aload_n 3, 1) := by decide +kernel
theorem dX9_childAt_39 : decode cX9_childAt 39 = .ok (.getfield 114, 3) := by decide +kernel
theorem dX9_childAt_42 : decode cX9_childAt 42 = .ok (.iload_n 2, 1) := by decide +kernel
theorem dX9_childAt_43 : decode cX9_childAt 43 = .ok (.invokevirtual 212, 3) := by decide +kernel
theorem dX9_childAt_46 : decode cX9_childAt 46 = .ok (.checkcast 53, 3) := by decide +kernel
theorem dX9_childAt_49 : decode cX9_childAt 49 = .ok (.getfield 207, 3) := by decide +kernel
theorem dX9_childAt_52 : decode cX9_childAt 52 = .ok (.ireturn, 1) := by decide +kernel
theorem dX9_rules_0 : decode cX9_rules 0 = .ok (.aload_n 0, 1) := by decide +kernel
theorem dX9_rules_1 : decode cX9_rules 1 = .ok (.getfield 22, 3) := by decide +kernel
theorem dX9_rules_4 : decode cX9_rules 4 = .ok (.invokevirtual 117, 3) := by decide +kernel
theorem dX9_rules_7 : decode cX9_rules 7 = .ok (.ireturn, 1) := by decide +kernel
theorem dX9_weight_0 : decode cX9_weight 0 = .ok (.aload_n 0, 1) := by decide +kernel
theorem dX9_weight_1 : decode cX9_weight 1 = .ok (.iload_n 1, 1) := by decide +kernel
theorem dX9_weight_2 : decode cX9_weight 2 = .ok (.invokevirtual 160, 3) := by decide +kernel
theorem dX9_weight_5 : decode cX9_weight 5 = .ok (.getfield 216, 3) := by decide +kernel
theorem dX9_weight_8 : decode cX9_weight 8 = .ok (.ireturn, 1) := by decide +kernel
theorem dX9_matches_0 : decode cX9_matches 0 = .ok (.aload_n 0, 1) := by decide +kernel
theorem dX9_matches_1 : decode cX9_matches 1 = .ok (.iload_n 1, 1) := by decide +kernel
theorem dX9_matches_2 : decode cX9_matches 2 = .ok (.invokevirtual 160, 3) := by decide +kernel
theorem dX9_matches_5 : decode cX9_matches 5 = .ok (.astore_n 3, 1) := by decide +kernel
theorem dX9_matches_6 : decode cX9_matches 6 = .ok (.aload_n 3, 1) := by decide +kernel
theorem dX9_matches_7 : decode cX9_matches 7 = .ok (.aload_n 0, 1) := by decide +kernel
theorem dX9_matches_8 : decode cX9_matches 8 = .ok (.iload_n 2, 1) := by decide +kernel
theorem dX9_matches_9 : decode cX9_matches 9 = .ok (.invokevirtual 48, 3) := by decide +kernel
theorem dX9_matches_12 : decode cX9_matches 12 = .ok (.invokevirtual 219, 3) := by decide +kernel
theorem dX9_matches_15 : decode cX9_matches 15 = .ok (.ireturn, 1) := by decide +kernel
theorem dX9_matched_0 : decode cX9_matched 0 = .ok (.aload_n 0, 1) := by decide +kernel
theorem dX9_matched_1 : decode cX9_matched 1 = .ok (.iload_n 1, 1) := by decide +kernel
theorem dX9_matched_2 : decode cX9_matched 2 = .ok (.invokevirtual 160, 3) := by decide +kernel
theorem dX9_matched_5 : decode cX9_matched 5 = .ok (.astore_n 2, 1) := by decide +kernel
theorem dX9_matched_6 : decode cX9_matched 6 = .ok (.iconst 0, 1) := by decide +kernel
theorem dX9_matched_7 : decode cX9_matched 7 = .ok (.istore_n 3, 1) := by decide +kernel
theorem dX9_matched_8 : decode cX9_matched 8 = .ok (.iconst 0, 1) := by decide +kernel
theorem dX9_matched_9 : decode cX9_matched 9 = .ok (.istore 4, 2) := by decide +kernel
theorem dX9_matched_11 : decode cX9_matched 11 = .ok (.iload 4, 2) := by decide +kernel
theorem dX9_matched_13 : decode cX9_matched 13 = .ok (.aload_n 0, 1) := by decide +kernel
theorem dX9_matched_14 : decode cX9_matched 14 = .ok (.getfield 13, 3) := by decide +kernel
theorem dX9_matched_17 : decode cX9_matched 17 = .ok (.getfield 201, 3) := by decide +kernel
theorem dX9_matched_20 : decode cX9_matched 20 = .ok (.invokevirtual 117, 3) := by decide +kernel
theorem dX9_matched_23 : decode cX9_matched 23 = .ok (.if_icmp .ge 34, 3) := by decide +kernel
theorem dX9_matched_26 : decode cX9_matched 26 = .ok (.aload_n 2, 1) := by decide +kernel
theorem dX9_matched_27 : decode cX9_matched 27 = .ok (.aload_n 0, 1) := by decide +kernel
theorem dX9_matched_28 : decode cX9_matched 28 = .ok (.getfield 13, 3) := by decide +kernel
theorem dX9_matched_31 : decode cX9_matched 31 = .ok (.getfield 201, 3) := by decide +kernel
theorem dX9_matched_34 : decode cX9_matched 34 = .ok (.iload 4, 2) := by decide +kernel
theorem dX9_matched_36 : decode cX9_matched 36 = .ok (.invokevirtual 212, 3) := by decide +kernel
theorem dX9_matched_39 : decode cX9_matched 39 = .ok (.checkcast 53, 3) := by decide +kernel
theorem dX9_matched_42 : decode cX9_matched 42 = .ok (.invokevirtual 219, 3) := by decide +kernel
theorem dX9_matched_45 : decode cX9_matched 45 = .ok (.ifCond .eq 6, 3) := by decide +kernel
theorem dX9_matched_48 : decode cX9_matched 48 = .ok (.iinc 3 1, 3) := by decide +kernel
theorem dX9_matched_51 : decode cX9_matched 51 = .ok (.iinc 4 1, 3) := by decide +kernel
theorem dX9_matched_54 : decode cX9_matched 54 = .ok (.goto (-43), 3) := by decide +kernel
theorem dX9_matched_57 : decode cX9_matched 57 = .ok (.iload_n 3, 1) := by decide +kernel
theorem dX9_matched_58 : decode cX9_matched 58 = .ok (.ireturn, 1) := by decide +kernel
theorem dX9_styleOf_0 : decode cX9_styleOf 0 = .ok (.aload_n 0, 1) := by decide +kernel
theorem dX9_styleOf_1 : decode cX9_styleOf 1 = .ok (.iload_n 1, 1) := by decide +kernel
theorem dX9_styleOf_2 : decode cX9_styleOf 2 = .ok (.invokevirtual 48, 3) := by decide +kernel
theorem dX9_styleOf_5 : decode cX9_styleOf 5 = .ok (.astore_n 3, 1) := by decide +kernel
theorem dX9_styleOf_6 : decode cX9_styleOf 6 = .ok (.iload_n 2, 1) := by decide +kernel
theorem dX9_styleOf_7 : decode cX9_styleOf 7 = .ok (.invokestatic 135, 3) := by decide +kernel
theorem dX9_styleOf_10 : decode cX9_styleOf 10 = .ok (.ifCond .ne 13, 3) := by decide +kernel
theorem dX9_styleOf_13 : decode cX9_styleOf 13 = .ok (.new 138, 3) := by decide +kernel
theorem dX9_styleOf_16 : decode cX9_styleOf 16 = .ok (.dup, 1) := by decide +kernel
theorem dX9_styleOf_17 : decode cX9_styleOf 17 = .ok (.ldc 140, 2) := by decide +kernel
theorem dX9_styleOf_19 : decode cX9_styleOf 19 = .ok (.invokespecial 142, 3) := by decide +kernel
theorem dX9_styleOf_22 : decode cX9_styleOf 22 = .ok (.athrow, 1) := by decide +kernel
theorem dX9_styleOf_23 : decode cX9_styleOf 23 = .ok (.aload_n 0, 1) := by decide +kernel
theorem dX9_styleOf_24 : decode cX9_styleOf 24 = .ok (.invokevirtual 222, 3) := by decide +kernel
theorem dX9_styleOf_27 : decode cX9_styleOf 27 = .ok (.aload_n 0, 1) := by decide +kernel
theorem dX9_styleOf_28 : decode cX9_styleOf 28 = .ok (.getfield 37, 3) := by decide +kernel
theorem dX9_styleOf_31 : decode cX9_styleOf 31 = .ok (.aload_n 3, 1) := by decide +kernel
theorem dX9_styleOf_32 : decode cX9_styleOf 32 = .ok (.iload_n 2, 1) := by decide +kernel
theorem dX9_styleOf_33 : decode cX9_styleOf 33 = .ok (.invokevirtual 225, 3) := by decide +kernel
theorem dX9_styleOf_36 : decode cX9_styleOf 36 = .ok (.ireturn, 1) := by decide +kernel
theorem dX9_because_0 : decode cX9_because 0 = .ok (.aload_n 0, 1) := by decide +kernel
theorem dX9_because_1 : decode cX9_because 1 = .ok (.iload_n 1, 1) := by decide +kernel
theorem dX9_because_2 : decode cX9_because 2 = .ok (.invokevirtual 48, 3) := by decide +kernel
theorem dX9_because_5 : decode cX9_because 5 = .ok (.astore_n 3, 1) := by decide +kernel
theorem dX9_because_6 : decode cX9_because 6 = .ok (.iload_n 2, 1) := by decide +kernel
theorem dX9_because_7 : decode cX9_because 7 = .ok (.invokestatic 135, 3) := by decide +kernel
theorem dX9_because_10 : decode cX9_because 10 = .ok (.ifCond .ne 13, 3) := by decide +kernel
theorem dX9_because_13 : decode cX9_because 13 = .ok (.new 138, 3) := by decide +kernel
theorem dX9_because_16 : decode cX9_because 16 = .ok (.dup, 1) := by decide +kernel
theorem dX9_because_17 : decode cX9_because 17 = .ok (.ldc 140, 2) := by decide +kernel
theorem dX9_because_19 : decode cX9_because 19 = .ok (.invokespecial 142, 3) := by decide +kernel
theorem dX9_because_22 : decode cX9_because 22 = .ok (.athrow, 1) := by decide +kernel
theorem dX9_because_23 : decode cX9_because 23 = .ok (.aload_n 0, 1) := by decide +kernel
theorem dX9_because_24 : decode cX9_because 24 = .ok (.invokevirtual 222, 3) := by decide +kernel
theorem dX9_because_27 : decode cX9_because 27 = .ok (.aload_n 0, 1) := by decide +kernel
theorem dX9_because_28 : decode cX9_because 28 = .ok (.getfield 37, 3) := by decide +kernel
theorem dX9_because_31 : decode cX9_because 31 = .ok (.aload_n 3, 1) := by decide +kernel
theorem dX9_because_32 : decode cX9_because 32 = .ok (.iload_n 2, 1) := by decide +kernel
theorem dX9_because_33 : decode cX9_because 33 = .ok (.invokevirtual 229, 3) := by decide +kernel
theorem dX9_because_36 : decode cX9_because 36 = .ok (.ireturn, 1) := by decide +kernel
theorem dX9_sortOf_0 : decode cX9_sortOf 0 = .ok (.aload_n 0, 1) := by decide +kernel
theorem dX9_sortOf_1 : decode cX9_sortOf 1 = .ok (.iload_n 1, 1) := by decide +kernel
theorem dX9_sortOf_2 : decode cX9_sortOf 2 = .ok (.aload_n 0, 1) := by decide +kernel
theorem dX9_sortOf_3 : decode cX9_sortOf 3 = .ok (.getfield 44, 3) := by decide +kernel
theorem dX9_sortOf_6 : decode cX9_sortOf 6 = .ok (.invokevirtual 232, 3) := by decide +kernel
theorem dX9_sortOf_9 : decode cX9_sortOf 9 = .ok (.getfield 236, 3) := by decide +kernel
theorem dX9_sortOf_12 : decode cX9_sortOf 12 = .ok (.ireturn, 1) := by decide +kernel
theorem dX9_xOf_0 : decode cX9_xOf 0 = .ok (.aload_n 0, 1) := by decide +kernel
theorem dX9_xOf_1 : decode cX9_xOf 1 = .ok (.iload_n 1, 1) := by decide +kernel
theorem dX9_xOf_2 : decode cX9_xOf 2 = .ok (.aload_n 0, 1) := by decide +kernel
theorem dX9_xOf_3 : decode cX9_xOf 3 = .ok (.getfield 44, 3) := by decide +kernel
theorem dX9_xOf_6 : decode cX9_xOf 6 = .ok (.invokevirtual 232, 3) := by decide +kernel
theorem dX9_xOf_9 : decode cX9_xOf 9 = .ok (.invokevirtual 241, 3) := by decide +kernel
theorem dX9_xOf_12 : decode cX9_xOf 12 = .ok (.ireturn, 1) := by decide +kernel
theorem dX9_wideOf_0 : decode cX9_wideOf 0 = .ok (.aload_n 0, 1) := by decide +kernel
theorem dX9_wideOf_1 : decode cX9_wideOf 1 = .ok (.iload_n 1, 1) := by decide +kernel
theorem dX9_wideOf_2 : decode cX9_wideOf 2 = .ok (.aload_n 0, 1) := by decide +kernel
theorem dX9_wideOf_3 : decode cX9_wideOf 3 = .ok (.getfield 44, 3) := by decide +kernel
theorem dX9_wideOf_6 : decode cX9_wideOf 6 = .ok (.invokevirtual 232, 3) := by decide +kernel
theorem dX9_wideOf_9 : decode cX9_wideOf 9 = .ok (.invokevirtual 247, 3) := by decide +kernel
theorem dX9_wideOf_12 : decode cX9_wideOf 12 = .ok (.ireturn, 1) := by decide +kernel
theorem dX9_highOf_0 : decode cX9_highOf 0 = .ok (.aload_n 0, 1) := by decide +kernel
theorem dX9_highOf_1 : decode cX9_highOf 1 = .ok (.iload_n 1, 1) := by decide +kernel
theorem dX9_highOf_2 : decode cX9_highOf 2 = .ok (.aload_n 0, 1) := by decide +kernel
theorem dX9_highOf_3 : decode cX9_highOf 3 = .ok (.getfield 44, 3) := by decide +kernel
theorem dX9_highOf_6 : decode cX9_highOf 6 = .ok (.invokevirtual 232, 3) := by decide +kernel
theorem dX9_highOf_9 : decode cX9_highOf 9 = .ok (.invokevirtual 250, 3) := by decide +kernel
theorem dX9_highOf_12 : decode cX9_highOf 12 = .ok (.ireturn, 1) := by decide +kernel
theorem dX9_reachOf_0 : decode cX9_reachOf 0 = .ok (.aload_n 0, 1) := by decide +kernel
theorem dX9_reachOf_1 : decode cX9_reachOf 1 = .ok (.iload_n 1, 1) := by decide +kernel
theorem dX9_reachOf_2 : decode cX9_reachOf 2 = .ok (.aload_n 0, 1) := by decide +kernel
theorem dX9_reachOf_3 : decode cX9_reachOf 3 = .ok (.getfield 44, 3) := by decide +kernel
theorem dX9_reachOf_6 : decode cX9_reachOf 6 = .ok (.invokevirtual 232, 3) := by decide +kernel
theorem dX9_reachOf_9 : decode cX9_reachOf 9 = .ok (.invokevirtual 253, 3) := by decide +kernel
theorem dX9_reachOf_12 : decode cX9_reachOf 12 = .ok (.ireturn, 1) := by decide +kernel
theorem dX9_scrolled_0 : decode cX9_scrolled 0 = .ok (.aload_n 0, 1) := by decide +kernel
theorem dX9_scrolled_1 : decode cX9_scrolled 1 = .ok (.iload_n 1, 1) := by decide +kernel
theorem dX9_scrolled_2 : decode cX9_scrolled 2 = .ok (.aload_n 0, 1) := by decide +kernel
theorem dX9_scrolled_3 : decode cX9_scrolled 3 = .ok (.getfield 44, 3) := by decide +kernel
theorem dX9_scrolled_6 : decode cX9_scrolled 6 = .ok (.invokevirtual 232, 3) := by decide +kernel
theorem dX9_scrolled_9 : decode cX9_scrolled 9 = .ok (.getfield 256, 3) := by decide +kernel
theorem dX9_scrolled_12 : decode cX9_scrolled 12 = .ok (.ireturn, 1) := by decide +kernel
theorem dX9_lines_0 : decode cX9_lines 0 = .ok (.aload_n 0, 1) := by decide +kernel
theorem dX9_lines_1 : decode cX9_lines 1 = .ok (.iload_n 1, 1) := by decide +kernel
theorem dX9_lines_2 : decode cX9_lines 2 = .ok (.aload_n 0, 1) := by decide +kernel
theorem dX9_lines_3 : decode cX9_lines 3 = .ok (.getfield 44, 3) := by decide +kernel
theorem dX9_lines_6 : decode cX9_lines 6 = .ok (.invokevirtual 232, 3) := by decide +kernel
theorem dX9_lines_9 : decode cX9_lines 9 = .ok (.invokevirtual 259, 3) := by decide +kernel
theorem dX9_lines_12 : decode cX9_lines 12 = .ok (.ireturn, 1) := by decide +kernel
theorem dX9_pageHeight_0 : decode cX9_pageHeight 0 = .ok (.aload_n 0, 1) := by decide +kernel
theorem dX9_pageHeight_1 : decode cX9_pageHeight 1 = .ok (.iconst 0, 1) := by decide +kernel
theorem dX9_pageHeight_2 : decode cX9_pageHeight 2 = .ok (.aload_n 0, 1) := by decide +kernel
theorem dX9_pageHeight_3 : decode cX9_pageHeight 3 = .ok (.getfield 44, 3) := by decide +kernel
theorem dX9_pageHeight_6 : decode cX9_pageHeight 6 = .ok (.invokevirtual 232, 3) := by decide +kernel
theorem dX9_pageHeight_9 : decode cX9_pageHeight 9 = .ok (.invokevirtual 273, 3) := by decide +kernel
theorem dX9_pageHeight_12 : decode cX9_pageHeight 12 = .ok (.ireturn, 1) := by decide +kernel
theorem dX9_hit_0 : decode cX9_hit 0 = .ok (.aload_n 0, 1) := by decide +kernel
theorem dX9_hit_1 : decode cX9_hit 1 = .ok (.iconst 0, 1) := by decide +kernel
theorem dX9_hit_2 : decode cX9_hit 2 = .ok (.aload_n 0, 1) := by decide +kernel
theorem dX9_hit_3 : decode cX9_hit 3 = .ok (.getfield 44, 3) := by decide +kernel
theorem dX9_hit_6 : decode cX9_hit 6 = .ok (.invokevirtual 232, 3) := by decide +kernel
theorem dX9_hit_9 : decode cX9_hit 9 = .ok (.pop, 1) := by decide +kernel
theorem dX9_hit_10 : decode cX9_hit 10 = .ok (.iconst (-1), 1) := by decide +kernel
theorem dX9_hit_11 : decode cX9_hit 11 = .ok (.istore_n 3, 1) := by decide +kernel
theorem dX9_hit_12 : decode cX9_hit 12 = .ok (.iconst 0, 1) := by decide +kernel
