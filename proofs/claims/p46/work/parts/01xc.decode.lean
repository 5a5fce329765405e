theorem dX4_shift_118 : decode cX4_shift 118 = .ok (.aload_n 3, 1) := by decide +kernel
theorem dX4_shift_119 : decode cX4_shift 119 = .ok (.getfield 133, 3) := by decide +kernel
theorem dX4_shift_122 : decode cX4_shift 122 = .ok (.ifnull 54, 3) := by decide +kernel
theorem dX4_shift_125 : decode cX4_shift 125 = .ok (.aload 4, 2) := by decide +kernel
theorem dX4_shift_127 : decode cX4_shift 127 = .ok (.dup, 1) := by decide +kernel
theorem dX4_shift_128 : decode cX4_shift 128 = .ok (.getfield 271, 3) := by decide +kernel
theorem dX4_shift_131 : decode cX4_shift 131 = .ok (.aload_n 3, 1) := by decide +kernel
theorem dX4_shift_132 : decode cX4_shift 132 = .ok (.getfield 133, 3) := by decide +kernel
theorem dX4_shift_135 : decode cX4_shift 135 = .ok (.getfield 63, 3) := by decide +kernel
theorem dX4_shift_138 : decode cX4_shift 138 = .ok (.getfield 271, 3) := by decide +kernel
theorem dX4_shift_141 : decode cX4_shift 141 = .ok (.iadd, 1) := by decide +kernel
theorem dX4_shift_142 : decode cX4_shift 142 = .ok (.putfield 271, 3) := by decide +kernel
theorem dX4_shift_145 : decode cX4_shift 145 = .ok (.aload 4, 2) := by decide +kernel
theorem dX4_shift_147 : decode cX4_shift 147 = .ok (.dup, 1) := by decide +kernel
theorem dX4_shift_148 : decode cX4_shift 148 = .ok (.getfield 274, 3) := by decide +kernel
theorem dX4_shift_151 : decode cX4_shift 151 = .ok (.aload_n 3, 1) := by decide +kernel
theorem dX4_shift_152 : decode cX4_shift 152 = .ok (.getfield 133, 3) := by decide +kernel
theorem dX4_shift_155 : decode cX4_shift 155 = .ok (.getfield 63, 3) := by decide +kernel
theorem dX4_shift_158 : decode cX4_shift 158 = .ok (.getfield 274, 3) := by decide +kernel
theorem dX4_shift_161 : decode cX4_shift 161 = .ok (.aload_n 3, 1) := by decide +kernel
theorem dX4_shift_162 : decode cX4_shift 162 = .ok (.getfield 133, 3) := by decide +kernel
theorem dX4_shift_165 : decode cX4_shift 165 = .ok (.getfield 63, 3) := by decide +kernel
theorem dX4_shift_168 : decode cX4_shift 168 = .ok (.getfield 280, 3) := by decide +kernel
theorem dX4_shift_171 : decode cX4_shift 171 = .ok (.isub, 1) := by decide +kernel
theorem dX4_shift_172 : decode cX4_shift 172 = .ok (.iadd, 1) := by decide +kernel
theorem dX4_shift_173 : decode cX4_shift 173 = .ok (.putfield 274, 3) := by decide +kernel
theorem dX4_shift_176 : decode cX4_shift 176 = .ok (.iinc 2 1, 3) := by decide +kernel
theorem dX4_shift_179 : decode cX4_shift 179 = .ok (.goto (-177), 3) := by decide +kernel
theorem dX4_shift_182 : decode cX4_shift 182 = .ok (.return_, 1) := by decide +kernel
theorem dX5_init_0 : decode cX5_init 0 = .ok (.aload_n 0, 1) := by decide +kernel
theorem dX5_init_1 : decode cX5_init 1 = .ok (.invokespecial 3, 3) := by decide +kernel
theorem dX5_init_4 : decode cX5_init 4 = .ok (.aload_n 0, 1) := by decide +kernel
theorem dX5_init_5 : decode cX5_init 5 = .ok (.iconst 3, 1) := by decide +kernel
theorem dX5_init_6 : decode cX5_init 6 = .ok (.newarray .int, 2) := by decide +kernel
theorem dX5_init_8 : decode cX5_init 8 = .ok (.putfield 9, 3) := by decide +kernel
theorem dX5_init_11 : decode cX5_init 11 = .ok (.aload_n 0, 1) := by decide +kernel
theorem dX5_init_12 : decode cX5_init 12 = .ok (.iconst 3, 1) := by decide +kernel
theorem dX5_init_13 : decode cX5_init 13 = .ok (.newarray .int, 2) := by decide +kernel
theorem dX5_init_15 : decode cX5_init 15 = .ok (.putfield 15, 3) := by decide +kernel
theorem dX5_init_18 : decode cX5_init 18 = .ok (.aload_n 0, 1) := by decide +kernel
theorem dX5_init_19 : decode cX5_init 19 = .ok (.iconst 3, 1) := by decide +kernel
theorem dX5_init_20 : decode cX5_init 20 = .ok (.newarray .int, 2) := by decide +kernel
theorem dX5_init_22 : decode cX5_init 22 = .ok (.putfield 18, 3) := by decide +kernel
theorem dX5_init_25 : decode cX5_init 25 = .ok (.aload_n 0, 1) := by decide +kernel
theorem dX5_init_26 : decode cX5_init 26 = .ok (.iconst 3, 1) := by decide +kernel
theorem dX5_init_27 : decode cX5_init 27 = .ok (.newarray .boolean, 2) := by decide +kernel
theorem dX5_init_29 : decode cX5_init 29 = .ok (.putfield 21, 3) := by decide +kernel
theorem dX5_init_32 : decode cX5_init 32 = .ok (.aload_n 0, 1) := by decide +kernel
theorem dX5_init_33 : decode cX5_init 33 = .ok (.iconst 0, 1) := by decide +kernel
theorem dX5_init_34 : decode cX5_init 34 = .ok (.putfield 25, 3) := by decide +kernel
theorem dX5_init_37 : decode cX5_init 37 = .ok (.aload_n 0, 1) := by decide +kernel
theorem dX5_init_38 : decode cX5_init 38 = .ok (.iconst 0, 1) := by decide +kernel
theorem dX5_init_39 : decode cX5_init 39 = .ok (.putfield 29, 3) := by decide +kernel
theorem dX5_init_42 : decode cX5_init 42 = .ok (.aload_n 0, 1) := by decide +kernel
theorem dX5_init_43 : decode cX5_init 43 = .ok (.iconst 1, 1) := by decide +kernel
theorem dX5_init_44 : decode cX5_init 44 = .ok (.putfield 32, 3) := by decide +kernel
theorem dX5_init_47 : decode cX5_init 47 = .ok (.aload_n 0, 1) := by decide +kernel
theorem dX5_init_48 : decode cX5_init 48 = .ok (.iload_n 1, 1) := by decide +kernel
theorem dX5_init_49 : decode cX5_init 49 = .ok (.putfield 36, 3) := by decide +kernel
theorem dX5_init_52 : decode cX5_init 52 = .ok (.aload_n 0, 1) := by decide +kernel
theorem dX5_init_53 : decode cX5_init 53 = .ok (.iload_n 2, 1) := by decide +kernel
theorem dX5_init_54 : decode cX5_init 54 = .ok (.putfield 39, 3) := by decide +kernel
theorem dX5_init_57 : decode cX5_init 57 = .ok (.aload_n 0, 1) := by decide +kernel
theorem dX5_init_58 : decode cX5_init 58 = .ok (.iload_n 3, 1) := by decide +kernel
theorem dX5_init_59 : decode cX5_init 59 = .ok (.putfield 42, 3) := by decide +kernel
theorem dX5_init_62 : decode cX5_init 62 = .ok (.return_, 1) := by decide +kernel
theorem dX5_takePart_0 : decode cX5_takePart 0 = .ok (.aload_n 0, 1) := by decide +kernel
theorem dX5_takePart_1 : decode cX5_takePart 1 = .ok (.getfield 25, 3) := by decide +kernel
theorem dX5_takePart_4 : decode cX5_takePart 4 = .ok (.ifCond .lt 11, 3) := by decide +kernel
theorem dX5_takePart_7 : decode cX5_takePart 7 = .ok (.aload_n 0, 1) := by decide +kernel
theorem dX5_takePart_8 : decode cX5_takePart 8 = .ok (.getfield 25, 3) := by decide +kernel
theorem dX5_takePart_11 : decode cX5_takePart 11 = .ok (.iconst 3, 1) := by decide +kernel
theorem dX5_takePart_12 : decode cX5_takePart 12 = .ok (.if_icmp .lt 4, 3) := by decide +kernel
theorem dX5_takePart_15 : decode cX5_takePart 15 = .ok (.return_, 1) := by decide +kernel
theorem dX5_takePart_16 : decode cX5_takePart 16 = .ok (.aload_n 0, 1) := by decide +kernel
theorem dX5_takePart_17 : decode cX5_takePart 17 = .ok (.getfield 9, 3) := by decide +kernel
theorem dX5_takePart_20 : decode cX5_takePart 20 = .ok (.aload_n 0, 1) := by decide +kernel
theorem dX5_takePart_21 : decode cX5_takePart 21 = .ok (.getfield 25, 3) := by decide +kernel
theorem dX5_takePart_24 : decode cX5_takePart 24 = .ok (.iload_n 1, 1) := by decide +kernel
theorem dX5_takePart_25 : decode cX5_takePart 25 = .ok (.iastore, 1) := by decide +kernel
theorem dX5_takePart_26 : decode cX5_takePart 26 = .ok (.aload_n 0, 1) := by decide +kernel
theorem dX5_takePart_27 : decode cX5_takePart 27 = .ok (.getfield 15, 3) := by decide +kernel
theorem dX5_takePart_30 : decode cX5_takePart 30 = .ok (.aload_n 0, 1) := by decide +kernel
theorem dX5_takePart_31 : decode cX5_takePart 31 = .ok (.getfield 25, 3) := by decide +kernel
theorem dX5_takePart_34 : decode cX5_takePart 34 = .ok (.iload_n 2, 1) := by decide +kernel
theorem dX5_takePart_35 : decode cX5_takePart 35 = .ok (.ifCond .lt 15, 3) := by decide +kernel
theorem dX5_takePart_38 : decode cX5_takePart 38 = .ok (.iload_n 2, 1) := by decide +kernel
theorem dX5_takePart_39 : decode cX5_takePart 39 = .ok (.bipush 7, 2) := by decide +kernel
theorem dX5_takePart_41 : decode cX5_takePart 41 = .ok (.if_icmp .gt 9, 3) := by decide +kernel
theorem dX5_takePart_44 : decode cX5_takePart 44 = .ok (.iconst 1, 1) := by decide +kernel
theorem dX5_takePart_45 : decode cX5_takePart 45 = .ok (.iload_n 2, 1) := by decide +kernel
theorem dX5_takePart_46 : decode cX5_takePart 46 = .ok (.ishl, 1) := by decide +kernel
theorem dX5_takePart_47 : decode cX5_takePart 47 = .ok (.goto 4, 3) := by decide +kernel
theorem dX5_takePart_50 : decode cX5_takePart 50 = .ok (.iconst 0, 1) := by decide +kernel
theorem dX5_takePart_51 : decode cX5_takePart 51 = .ok (.iastore, 1) := by decide +kernel
theorem dX5_takePart_52 : decode cX5_takePart 52 = .ok (.aload_n 0, 1) := by decide +kernel
theorem dX5_takePart_53 : decode cX5_takePart 53 = .ok (.getfield 18, 3) := by decide +kernel
theorem dX5_takePart_56 : decode cX5_takePart 56 = .ok (.aload_n 0, 1) := by decide +kernel
theorem dX5_takePart_57 : decode cX5_takePart 57 = .ok (.getfield 25, 3) := by decide +kernel
theorem dX5_takePart_60 : decode cX5_takePart 60 = .ok (.iload_n 3, 1) := by decide +kernel
theorem dX5_takePart_61 : decode cX5_takePart 61 = .ok (.iastore, 1) := by decide +kernel
theorem dX5_takePart_62 : decode cX5_takePart 62 = .ok (.aload_n 0, 1) := by decide +kernel
theorem dX5_takePart_63 : decode cX5_takePart 63 = .ok (.getfield 21, 3) := by decide +kernel
theorem dX5_takePart_66 : decode cX5_takePart 66 = .ok (.aload_n 0, 1) := by decide +kernel
theorem dX5_takePart_67 : decode cX5_takePart 67 = .ok (.getfield 25, 3) := by decide +kernel
theorem dX5_takePart_70 : decode cX5_takePart 70 = .ok (.iload 4, 2) := by decide +kernel
theorem dX5_takePart_72 : decode cX5_takePart 72 = .ok (.bastore, 1) := by decide +kernel
theorem dX5_takePart_73 : decode cX5_takePart 73 = .ok (.aload_n 0, 1) := by decide +kernel
theorem dX5_takePart_74 : decode cX5_takePart 74 = .ok (.dup, 1) := by decide +kernel
theorem dX5_takePart_75 : decode cX5_takePart 75 = .ok (.getfield 25, 3) := by decide +kernel
theorem dX5_takePart_78 : decode cX5_takePart 78 = .ok (.iconst 1, 1) := by decide +kernel
theorem dX5_takePart_79 : decode cX5_takePart 79 = .ok (.iadd, 1) := by decide +kernel
theorem dX5_takePart_80 : decode cX5_takePart 80 = .ok (.putfield 25, 3) := by decide +kernel
theorem dX5_takePart_83 : decode cX5_takePart 83 = .ok (.aload_n 0, 1) := by decide +kernel
theorem dX5_takePart_84 : decode cX5_takePart 84 = .ok (.dup, 1) := by decide +kernel
theorem dX5_takePart_85 : decode cX5_takePart 85 = .ok (.getfield 29, 3) := by decide +kernel
theorem dX5_takePart_88 : decode cX5_takePart 88 = .ok (.iload_n 3, 1) := by decide +kernel
theorem dX5_takePart_89 : decode cX5_takePart 89 = .ok (.ifCond .eq 8, 3) := by decide +kernel
theorem dX5_takePart_92 : decode cX5_takePart 92 = .ok (.bipush 100, 2) := by decide +kernel
theorem dX5_takePart_94 : decode cX5_takePart 94 = .ok (.goto 4, 3) := by decide +kernel
theorem dX5_takePart_97 : decode cX5_takePart 97 = .ok (.iconst 0, 1) := by decide +kernel
theorem dX5_takePart_98 : decode cX5_takePart 98 = .ok (.iload_n 2, 1) := by decide +kernel
theorem dX5_takePart_99 : decode cX5_takePart 99 = .ok (.iconst (-1), 1) := by decide +kernel
theorem dX5_takePart_100 : decode cX5_takePart 100 = .ok (.if_icmp .eq 8, 3) := by decide +kernel
theorem dX5_takePart_103 : decode cX5_takePart 103 = .ok (.bipush 10, 2) := by decide +kernel
theorem dX5_takePart_105 : decode cX5_takePart 105 = .ok (.goto 4, 3) := by decide +kernel
theorem dX5_takePart_108 : decode cX5_takePart 108 = .ok (.iconst 0, 1) := by decide +kernel
theorem dX5_takePart_109 : decode cX5_takePart 109 = .ok (.iadd, 1) := by decide +kernel
theorem dX5_takePart_110 : decode cX5_takePart 110 = .ok (.iload_n 1, 1) := by decide +kernel
theorem dX5_takePart_111 : decode cX5_takePart 111 = .ok (.iconst (-1), 1) := by decide +kernel
theorem dX5_takePart_112 : decode cX5_takePart 112 = .ok (.if_icmp .eq 7, 3) := by decide +kernel
theorem dX5_takePart_115 : decode cX5_takePart 115 = .ok (.iconst 1, 1) := by decide +kernel
theorem dX5_takePart_116 : decode cX5_takePart 116 = .ok (.goto 4, 3) := by decide +kernel
theorem dX5_takePart_119 : decode cX5_takePart 119 = .ok (.iconst 0, 1) := by decide +kernel
theorem dX5_takePart_120 : decode cX5_takePart 120 = .ok (.iadd, 1) := by decide +kernel
theorem dX5_takePart_121 : decode cX5_takePart 121 = .ok (.iadd, 1) := by decide +kernel
theorem dX5_takePart_122 : decode cX5_takePart 122 = .ok (.putfield 29, 3) := by decide +kernel
theorem dX5_takePart_125 : decode cX5_takePart 125 = .ok (.return_, 1) := by decide +kernel
theorem dX5_selects_0 : decode cX5_selects 0 = .ok (.aload_n 1, 1) := by decide +kernel
theorem dX5_selects_1 : decode cX5_selects 1 = .ok (.getfield 45, 3) := by decide +kernel
theorem dX5_selects_4 : decode cX5_selects 4 = .ok (.ifCond .ne 28, 3) := by decide +kernel
theorem dX5_selects_7 : decode cX5_selects 7 = .ok (.aload_n 0, 1) := by decide +kernel
theorem dX5_selects_8 : decode cX5_selects 8 = .ok (.getfield 25, 3) := by decide +kernel
theorem dX5_selects_11 : decode cX5_selects 11 = .ok (.ifCond .le 21, 3) := by decide +kernel
theorem dX5_selects_14 : decode cX5_selects 14 = .ok (.aload_n 0, 1) := by decide +kernel
theorem dX5_selects_15 : decode cX5_selects 15 = .ok (.aload_n 0, 1) := by decide +kernel
theorem dX5_selects_16 : decode cX5_selects 16 = .ok (.getfield 25, 3) := by decide +kernel
theorem dX5_selects_19 : decode cX5_selects 19 = .ok (.iconst 1, 1) := by decide +kernel
theorem dX5_selects_20 : decode cX5_selects 20 = .ok (.isub, 1) := by decide +kernel
theorem dX5_selects_21 : decode cX5_selects 21 = .ok (.aload_n 1, 1) := by decide +kernel
theorem dX5_selects_22 : decode cX5_selects 22 = .ok (.invokestatic 50, 3) := by decide +kernel
theorem dX5_selects_25 : decode cX5_selects 25 = .ok (.ifCond .eq 7, 3) := by decide +kernel
theorem dX5_selects_28 : decode cX5_selects 28 = .ok (.iconst 1, 1) := by decide +kernel
theorem dX5_selects_29 : decode cX5_selects 29 = .ok (.goto 4, 3) := by decide +kernel
theorem dX5_selects_32 : decode cX5_selects 32 = .ok (.iconst 0, 1) := by decide +kernel
theorem dX5_selects_33 : decode cX5_selects 33 = .ok (.ireturn, 1) := by decide +kernel
theorem dX5_fitsUpTo_0 : decode cX5_fitsUpTo 0 = .ok (.aload_n 0, 1) := by decide +kernel
theorem dX5_fitsUpTo_1 : decode cX5_fitsUpTo 1 = .ok (.iload_n 1, 1) := by decide +kernel
theorem dX5_fitsUpTo_2 : decode cX5_fitsUpTo 2 = .ok (.aload_n 2, 1) := by decide +kernel
theorem dX5_fitsUpTo_3 : decode cX5_fitsUpTo 3 = .ok (.invokevirtual 54, 3) := by decide +kernel
theorem dX5_fitsUpTo_6 : decode cX5_fitsUpTo 6 = .ok (.ifCond .ne 5, 3) := by decide +kernel
theorem dX5_fitsUpTo_9 : decode cX5_fitsUpTo 9 = .ok (.iconst 0, 1) := by decide +kernel
theorem dX5_fitsUpTo_10 : decode cX5_fitsUpTo 10 = .ok (.ireturn, 1) := by decide +kernel
theorem dX5_fitsUpTo_11 : decode cX5_fitsUpTo 11 = .ok (.iload_n 1, 1) := by decide +kernel
theorem dX5_fitsUpTo_12 : decode cX5_fitsUpTo 12 = .ok (.ifCond .ne 5, 3) := by decide +kernel
theorem dX5_fitsUpTo_15 : decode cX5_fitsUpTo 15 = .ok (.iconst 1, 1) := by decide +kernel
theorem dX5_fitsUpTo_16 : decode cX5_fitsUpTo 16 = .ok (.ireturn, 1) := by decide +kernel
theorem dX5_fitsUpTo_17 : decode cX5_fitsUpTo 17 = .ok (.aload_n 2, 1) := by decide +kernel
theorem dX5_fitsUpTo_18 : decode cX5_fitsUpTo 18 = .ok (.getfield 58, 3) := by decide +kernel
theorem dX5_fitsUpTo_21 : decode cX5_fitsUpTo 21 = .ok (.astore_n 3, 1) := by decide +kernel
theorem dX5_fitsUpTo_22 : decode cX5_fitsUpTo 22 = .ok (.aload_n 3, 1) := by decide +kernel
theorem dX5_fitsUpTo_23 : decode cX5_fitsUpTo 23 = .ok (.ifnull 35, 3) := by decide +kernel
theorem dX5_fitsUpTo_26 : decode cX5_fitsUpTo 26 = .ok (.aload_n 0, 1) := by decide +kernel
theorem dX5_fitsUpTo_27 : decode cX5_fitsUpTo 27 = .ok (.iload_n 1, 1) := by decide +kernel
theorem dX5_fitsUpTo_28 : decode cX5_fitsUpTo 28 = .ok (.iconst 1, 1) := by decide +kernel
theorem dX5_fitsUpTo_29 : decode cX5_fitsUpTo 29 = .ok (.isub, 1) := by decide +kernel
theorem dX5_fitsUpTo_30 : decode cX5_fitsUpTo 30 = .ok (.aload_n 3, 1) := by decide +kernel
theorem dX5_fitsUpTo_31 : decode cX5_fitsUpTo 31 = .ok (.invokestatic 50, 3) := by decide +kernel
theorem dX5_fitsUpTo_34 : decode cX5_fitsUpTo 34 = .ok (.ifCond .eq 5, 3) := by decide +kernel
theorem dX5_fitsUpTo_37 : decode cX5_fitsUpTo 37 = .ok (.iconst 1, 1) := by decide +kernel
theorem dX5_fitsUpTo_38 : decode cX5_fitsUpTo 38 = .ok (.ireturn, 1) := by decide +kernel
theorem dX5_fitsUpTo_39 : decode cX5_fitsUpTo 39 = .ok (.aload_n 0, 1) := by decide +kernel
theorem dX5_fitsUpTo_40 : decode cX5_fitsUpTo 40 = .ok (.getfield 21, 3) := by decide +kernel
theorem dX5_fitsUpTo_43 : decode cX5_fitsUpTo 43 = .ok (.iload_n 1, 1) := by decide +kernel
theorem dX5_fitsUpTo_44 : decode cX5_fitsUpTo 44 = .ok (.baload, 1) := by decide +kernel
theorem dX5_fitsUpTo_45 : decode cX5_fitsUpTo 45 = .ok (.ifCond .eq 5, 3) := by decide +kernel
theorem dX5_fitsUpTo_48 : decode cX5_fitsUpTo 48 = .ok (.iconst 0, 1) := by decide +kernel
theorem dX5_fitsUpTo_49 : decode cX5_fitsUpTo 49 = .ok (.ireturn, 1) := by decide +kernel
theorem dX5_fitsUpTo_50 : decode cX5_fitsUpTo 50 = .ok (.aload_n 3, 1) := by decide +kernel
theorem dX5_fitsUpTo_51 : decode cX5_fitsUpTo 51 = .ok (.getfield 58, 3) := by decide +kernel
theorem dX5_fitsUpTo_54 : decode cX5_fitsUpTo 54 = .ok (.astore_n 3, 1) := by decide +kernel
theorem dX5_fitsUpTo_55 : decode cX5_fitsUpTo 55 = .ok (.goto (-33), 3) := by decide +kernel
theorem dX5_fitsUpTo_58 : decode cX5_fitsUpTo 58 = .ok (.iconst 0, 1) := by decide +kernel
theorem dX5_fitsUpTo_59 : decode cX5_fitsUpTo 59 = .ok (.ireturn, 1) := by decide +kernel
theorem dX5_fits_0 : decode cX5_fits 0 = .ok (.iload_n 1, 1) := by decide +kernel
theorem dX5_fits_1 : decode cX5_fits 1 = .ok (.ifCond .lt 16, 3) := by decide +kernel
theorem dX5_fits_4 : decode cX5_fits 4 = .ok (.iload_n 1, 1) := by decide +kernel
theorem dX5_fits_5 : decode cX5_fits 5 = .ok (.aload_n 0, 1) := by decide +kernel
theorem dX5_fits_6 : decode cX5_fits 6 = .ok (.getfield 25, 3) := by decide +kernel
theorem dX5_fits_9 : decode cX5_fits 9 = .ok (.if_icmp .ge 8, 3) := by decide +kernel
theorem dX5_fits_12 : decode cX5_fits 12 = .ok (.iload_n 1, 1) := by decide +kernel
theorem dX5_fits_13 : decode cX5_fits 13 = .ok (.iconst 3, 1) := by decide +kernel
theorem dX5_fits_14 : decode cX5_fits 14 = .ok (.if_icmp .lt 5, 3) := by decide +kernel
theorem dX5_fits_17 : decode cX5_fits 17 = .ok (.iconst 0, 1) := by decide +kernel
theorem dX5_fits_18 : decode cX5_fits 18 = .ok (.ireturn, 1) := by decide +kernel
theorem dX5_fits_19 : decode cX5_fits 19 = .ok (.aload_n 0, 1) := by decide +kernel
theorem dX5_fits_20 : decode cX5_fits 20 = .ok (.getfield 9, 3) := by decide +kernel
theorem dX5_fits_23 : decode cX5_fits 23 = .ok (.iload_n 1, 1) := by decide +kernel
theorem dX5_fits_24 : decode cX5_fits 24 = .ok (.iaload, 1) := by decide +kernel
theorem dX5_fits_25 : decode cX5_fits 25 = .ok (.iconst (-1), 1) := by decide +kernel
theorem dX5_fits_26 : decode cX5_fits 26 = .ok (.if_icmp .eq 16, 3) := by decide +kernel
theorem dX5_fits_29 : decode cX5_fits 29 = .ok (.aload_n 0, 1) := by decide +kernel
theorem dX5_fits_30 : decode cX5_fits 30 = .ok (.getfield 9, 3) := by decide +kernel
theorem dX5_fits_33 : decode cX5_fits 33 = .ok (.iload_n 1, 1) := by decide +kernel
theorem dX5_fits_34 : decode cX5_fits 34 = .ok (.iaload, 1) := by decide +kernel
theorem dX5_fits_35 : decode cX5_fits 35 = .ok (.aload_n 2, 1) := by decide +kernel
theorem dX5_fits_36 : decode cX5_fits 36 = .ok (.getfield 62, 3) := by decide +kernel
theorem dX5_fits_39 : decode cX5_fits 39 = .ok (.if_icmp .ne 7, 3) := by decide +kernel
theorem dX5_fits_42 : decode cX5_fits 42 = .ok (.iconst 1, 1) := by decide +kernel
theorem dX5_fits_43 : decode cX5_fits 43 = .ok (.goto 4, 3) := by decide +kernel
theorem dX5_fits_46 : decode cX5_fits 46 = .ok (.iconst 0, 1) := by decide +kernel
theorem dX5_fits_47 : decode cX5_fits 47 = .ok (.istore_n 3, 1) := by decide +kernel
theorem dX5_fits_48 : decode cX5_fits 48 = .ok (.aload_n 2, 1) := by decide +kernel
theorem dX5_fits_49 : decode cX5_fits 49 = .ok (.getfield 65, 3) := by decide +kernel
theorem dX5_fits_52 : decode cX5_fits 52 = .ok (.aload_n 0, 1) := by decide +kernel
theorem dX5_fits_53 : decode cX5_fits 53 = .ok (.getfield 15, 3) := by decide +kernel
theorem dX5_fits_56 : decode cX5_fits 56 = .ok (.iload_n 1, 1) := by decide +kernel
theorem dX5_fits_57 : decode cX5_fits 57 = .ok (.iaload, 1) := by decide +kernel
theorem dX5_fits_58 : decode cX5_fits 58 = .ok (.iand, 1) := by decide +kernel
theorem dX5_fits_59 : decode cX5_fits 59 = .ok (.aload_n 0, 1) := by decide +kernel
theorem dX5_fits_60 : decode cX5_fits 60 = .ok (.getfield 15, 3) := by decide +kernel
theorem dX5_fits_63 : decode cX5_fits 63 = .ok (.iload_n 1, 1) := by decide +kernel
theorem dX5_fits_64 : decode cX5_fits 64 = .ok (.iaload, 1) := by decide +kernel
theorem dX5_fits_65 : decode cX5_fits 65 = .ok (.if_icmp .ne 7, 3) := by decide +kernel
theorem dX5_fits_68 : decode cX5_fits 68 = .ok (.iconst 1, 1) := by decide +kernel
theorem dX5_fits_69 : decode cX5_fits 69 = .ok (.goto 4, 3) := by decide +kernel
theorem dX5_fits_72 : decode cX5_fits 72 = .ok (.iconst 0, 1) := by decide +kernel
theorem dX5_fits_73 : decode cX5_fits 73 = .ok (.istore 4, 2) := by decide +kernel
theorem dX5_fits_75 : decode cX5_fits 75 = .ok (.aload_n 0, 1) := by decide +kernel
theorem dX5_fits_76 : decode cX5_fits 76 = .ok (.getfield 18, 3) := by decide +kernel
theorem dX5_fits_79 : decode cX5_fits 79 = .ok (.iload_n 1, 1) := by decide +kernel
theorem dX5_fits_80 : decode cX5_fits 80 = .ok (.iaload, 1) := by decide +kernel
theorem dX5_fits_81 : decode cX5_fits 81 = .ok (.ifCond .eq 16, 3) := by decide +kernel
theorem dX5_fits_84 : decode cX5_fits 84 = .ok (.aload_n 0, 1) := by decide +kernel
theorem dX5_fits_85 : decode cX5_fits 85 = .ok (.getfield 18, 3) := by decide +kernel
theorem dX5_fits_88 : decode cX5_fits 88 = .ok (.iload_n 1, 1) := by decide +kernel
theorem dX5_fits_89 : decode cX5_fits 89 = .ok (.iaload, 1) := by decide +kernel
theorem dX5_fits_90 : decode cX5_fits 90 = .ok (.aload_n 2, 1) := by decide +kernel
theorem dX5_fits_91 : decode cX5_fits 91 = .ok (.getfield 68, 3) := by decide +kernel
theorem dX5_fits_94 : decode cX5_fits 94 = .ok (.if_icmp .ne 7, 3) := by decide +kernel
theorem dX5_fits_97 : decode cX5_fits 97 = .ok (.iconst 1, 1) := by decide +kernel
theorem dX5_fits_98 : decode cX5_fits 98 = .ok (.goto 4, 3) := by decide +kernel
theorem dX5_fits_101 : decode cX5_fits 101 = .ok (.iconst 0, 1) := by decide +kernel
theorem dX5_fits_102 : decode cX5_fits 102 = .ok (.istore 5, 2) := by decide +kernel
theorem dX5_fits_104 : decode cX5_fits 104 = .ok (.iload_n 3, 1) := by decide +kernel
theorem dX5_fits_105 : decode cX5_fits 105 = .ok (.ifCond .eq 17, 3) := by decide +kernel
theorem dX5_fits_108 : decode cX5_fits 108 = .ok (.iload 4, 2) := by decide +kernel
theorem dX5_fits_110 : decode cX5_fits 110 = .ok (.ifCond .eq 12, 3) := by decide +kernel
theorem dX5_fits_113 : decode cX5_fits 113 = .ok (.iload 5, 2) := by decide +kernel
theorem dX5_fits_115 : decode cX5_fits 115 = .ok (.ifCond .eq 7, 3) := by decide +kernel
theorem dX5_fits_118 : decode cX5_fits 118 = .ok (.iconst 1, 1) := by decide +kernel
theorem dX5_fits_119 : decode cX5_fits 119 = .ok (.goto 4, 3) := by decide +kernel
theorem dX5_fits_122 : decode cX5_fits 122 = .ok (.iconst 0, 1) := by decide +kernel
theorem dX5_fits_123 : decode cX5_fits 123 = .ok (.ireturn, 1) := by decide +kernel
theorem dX6_init_0 : decode cX6_init 0 = .ok (.aload_n 0, 1) := by decide +kernel
theorem dX6_init_1 : decode cX6_init 1 = .ok (.invokespecial 3, 3) := by decide +kernel
theorem dX6_init_4 : decode cX6_init 4 = .ok (.aload_n 0, 1) := by decide +kernel
theorem dX6_init_5 : decode cX6_init 5 = .ok (.bipush 40, 2) := by decide +kernel
theorem dX6_init_7 : decode cX6_init 7 = .ok (.bipush 14, 2) := by decide +kernel
theorem dX6_init_9 : decode cX6_init 9 = .ok (.multianewarray 9 2, 4) := by decide +kernel
theorem dX6_init_13 : decode cX6_init 13 = .ok (.putfield 11, 3) := by decide +kernel
theorem dX6_init_16 : decode cX6_init 16 = .ok (.aload_n 0, 1) := by decide +kernel
theorem dX6_init_17 : decode cX6_init 17 = .ok (.bipush 40, 2) := by decide +kernel
theorem dX6_init_19 : decode cX6_init 19 = .ok (.bipush 14, 2) := by decide +kernel
theorem dX6_init_21 : decode cX6_init 21 = .ok (.multianewarray 9 2, 4) := by decide +kernel
theorem dX6_init_25 : decode cX6_init 25 = .ok (.putfield 16, 3) := by decide +kernel
theorem dX6_init_28 : decode cX6_init 28 = .ok (.aload_n 0, 1) := by decide +kernel
theorem dX6_init_29 : decode cX6_init 29 = .ok (.iconst 0, 1) := by decide +kernel
theorem dX6_init_30 : decode cX6_init 30 = .ok (.putfield 19, 3) := by decide +kernel
theorem dX6_init_33 : decode cX6_init 33 = .ok (.return_, 1) := by decide +kernel
theorem dX6_of_0 : decode cX6_of 0 = .ok (.aload_n 1, 1) := by decide +kernel
theorem dX6_of_1 : decode cX6_of 1 = .ok (.getfield 23, 3) := by decide +kernel
theorem dX6_of_4 : decode cX6_of 4 = .ok (.istore_n 3, 1) := by decide +kernel
theorem dX6_of_5 : decode cX6_of 5 = .ok (.iload_n 3, 1) := by decide +kernel
theorem dX6_of_6 : decode cX6_of 6 = .ok (.ifCond .lt 23, 3) := by decide +kernel
theorem dX6_of_9 : decode cX6_of 9 = .ok (.iload_n 3, 1) := by decide +kernel
theorem dX6_of_10 : decode cX6_of 10 = .ok (.bipush 40, 2) := by decide +kernel
theorem dX6_of_12 : decode cX6_of 12 = .ok (.if_icmp .ge 17, 3) := by decide +kernel
theorem dX6_of_15 : decode cX6_of 15 = .ok (.iload_n 2, 1) := by decide +kernel
theorem dX6_of_16 : decode cX6_of 16 = .ok (.ifCond .lt 13, 3) := by decide +kernel
theorem dX6_of_19 : decode cX6_of 19 = .ok (.iload_n 2, 1) := by decide +kernel
theorem dX6_of_20 : decode cX6_of 20 = .ok (.bipush 14, 2) := by decide +kernel
theorem dX6_of_22 : decode cX6_of 22 = .ok (.if_icmp .ge 7, 3) := by decide +kernel
theorem dX6_of_25 : decode cX6_of 25 = .ok (.iconst 1, 1) := by decide +kernel
theorem dX6_of_26 : decode cX6_of 26 = .ok (.goto 4, 3) := by decide +kernel
theorem dX6_of_29 : decode cX6_of 29 = .ok (.iconst 0, 1) := by decide +kernel
theorem dX6_of_30 : decode cX6_of 30 = .ok (.istore 4, 2) := by decide +kernel
theorem dX6_of_32 : decode cX6_of 32 = .ok (.iload 4, 2) := by decide +kernel
theorem dX6_of_34 : decode cX6_of 34 = .ok (.ifCond .eq 14, 3) := by decide +kernel
theorem dX6_of_37 : decode cX6_of 37 = .ok (.aload_n 0, 1) := by decide +kernel
theorem dX6_of_38 : decode cX6_of 38 = .ok (.getfield 11, 3) := by decide +kernel
theorem dX6_of_41 : decode cX6_of 41 = .ok (.iload_n 3, 1) := by decide +kernel
theorem dX6_of_42 : decode cX6_of 42 = .ok (.aaload, 1) := by decide +kernel
theorem dX6_of_43 : decode cX6_of 43 = .ok (.iload_n 2, 1) := by decide +kernel
theorem dX6_of_44 : decode cX6_of 44 = .ok (.iaload, 1) := by decide +kernel
theorem dX6_of_45 : decode cX6_of 45 = .ok (.goto 4, 3) := by decide +kernel
theorem dX6_of_48 : decode cX6_of 48 = .ok (.iconst 0, 1) := by decide +kernel
theorem dX6_of_49 : decode cX6_of 49 = .ok (.ireturn, 1) := by decide +kernel
theorem dX6_reasonOf_0 : decode cX6_reasonOf 0 = .ok (.aload_n 1, 1) := by decide +kernel
theorem dX6_reasonOf_1 : decode cX6_reasonOf 1 = .ok (.iload_n 2, 1) := by decide +kernel
theorem dX6_reasonOf_2 : decode cX6_reasonOf 2 = .ok (.invokestatic 29, 3) := by decide +kernel
theorem dX6_reasonOf_5 : decode cX6_reasonOf 5 = .ok (.ifCond .eq 17, 3) := by decide +kernel
theorem dX6_reasonOf_8 : decode cX6_reasonOf 8 = .ok (.aload_n 0, 1) := by decide +kernel
theorem dX6_reasonOf_9 : decode cX6_reasonOf 9 = .ok (.getfield 16, 3) := by decide +kernel
theorem dX6_reasonOf_12 : decode cX6_reasonOf 12 = .ok (.aload_n 1, 1) := by decide +kernel
theorem dX6_reasonOf_13 : decode cX6_reasonOf 13 = .ok (.getfield 23, 3) := by decide +kernel
theorem dX6_reasonOf_16 : decode cX6_reasonOf 16 = .ok (.aaload, 1) := by decide +kernel
theorem dX6_reasonOf_17 : decode cX6_reasonOf 17 = .ok (.iload_n 2, 1) := by decide +kernel
theorem dX6_reasonOf_18 : decode cX6_reasonOf 18 = .ok (.iaload, 1) := by decide +kernel
theorem dX6_reasonOf_19 : decode cX6_reasonOf 19 = .ok (.goto 5, 3) := by decide +kernel
theorem dX6_reasonOf_22 : decode cX6_reasonOf 22 = .ok (.bipush (-3), 2) := by decide +kernel
theorem dX6_reasonOf_24 : decode cX6_reasonOf 24 = .ok (.ireturn, 1) := by decide +kernel
theorem dX6_differFor_0 : decode cX6_differFor 0 = .ok (.iconst 0, 1) := by decide +kernel
theorem dX6_differFor_1 : decode cX6_differFor 1 = .ok (.istore_n 3, 1) := by decide +kernel
theorem dX6_differFor_2 : decode cX6_differFor 2 = .ok (.iload_n 3, 1) := by decide +kernel
theorem dX6_differFor_3 : decode cX6_differFor 3 = .ok (.bipush 14, 2) := by decide +kernel
theorem dX6_differFor_5 : decode cX6_differFor 5 = .ok (.if_icmp .ge 26, 3) := by decide +kernel
theorem dX6_differFor_8 : decode cX6_differFor 8 = .ok (.aload_n 0, 1) := by decide +kernel
theorem dX6_differFor_9 : decode cX6_differFor 9 = .ok (.aload_n 1, 1) := by decide +kernel
theorem dX6_differFor_10 : decode cX6_differFor 10 = .ok (.iload_n 3, 1) := by decide +kernel
theorem dX6_differFor_11 : decode cX6_differFor 11 = .ok (.invokevirtual 33, 3) := by decide +kernel
theorem dX6_differFor_14 : decode cX6_differFor 14 = .ok (.aload_n 2, 1) := by decide +kernel
theorem dX6_differFor_15 : decode cX6_differFor 15 = .ok (.aload_n 1, 1) := by decide +kernel
theorem dX6_differFor_16 : decode cX6_differFor 16 = .ok (.iload_n 3, 1) := by decide +kernel
theorem dX6_differFor_17 : decode cX6_differFor 17 = .ok (.invokevirtual 33, 3) := by decide +kernel
theorem dX6_differFor_20 : decode cX6_differFor 20 = .ok (.if_icmp .eq 5, 3) := by decide +kernel
theorem dX6_differFor_23 : decode cX6_differFor 23 = .ok (.iconst 1, 1) := by decide +kernel
theorem dX6_differFor_24 : decode cX6_differFor 24 = .ok (.ireturn, 1) := by decide +kernel
theorem dX6_differFor_25 : decode cX6_differFor 25 = .ok (.iinc 3 1, 3) := by decide +kernel
theorem dX6_differFor_28 : decode cX6_differFor 28 = .ok (.goto (-26), 3) := by decide +kernel
theorem dX6_differFor_31 : decode cX6_differFor 31 = .ok (.iconst 0, 1) := by decide +kernel
theorem dX6_differFor_32 : decode cX6_differFor 32 = .ok (.ireturn, 1) := by decide +kernel
theorem dX6_workOut_0 : decode cX6_workOut 0 = .ok (.iconst 0, 1) := by decide +kernel
theorem dX6_workOut_1 : decode cX6_workOut 1 = .ok (.istore 4, 2) := by decide +kernel
theorem dX6_workOut_3 : decode cX6_workOut 3 = .ok (.iload 4, 2) := by decide +kernel
theorem dX6_workOut_5 : decode cX6_workOut 5 = .ok (.aload_n 1, 1) := by decide +kernel
theorem dX6_workOut_6 : decode cX6_workOut 6 = .ok (.invokevirtual 37, 3) := by decide +kernel
theorem dX6_workOut_9 : decode cX6_workOut 9 = .ok (.if_icmp .ge 62, 3) := by decide +kernel
theorem dX6_workOut_12 : decode cX6_workOut 12 = .ok (.aload_n 1, 1) := by decide +kernel
theorem dX6_workOut_13 : decode cX6_workOut 13 = .ok (.iload 4, 2) := by decide +kernel
theorem dX6_workOut_15 : decode cX6_workOut 15 = .ok (.invokevirtual 43, 3) := by decide +kernel
theorem dX6_workOut_18 : decode cX6_workOut 18 = .ok (.checkcast 24, 3) := by decide +kernel
theorem dX6_workOut_21 : decode cX6_workOut 21 = .ok (.astore 5, 2) := by decide +kernel
theorem dX6_workOut_23 : decode cX6_workOut 23 = .ok (.aload 5, 2) := by decide +kernel
theorem dX6_workOut_25 : decode cX6_workOut 25 = .ok (.iconst 0, 1) := by decide +kernel
theorem dX6_workOut_26 : decode cX6_workOut 26 = .ok (.invokestatic 29, 3) := by decide +kernel
theorem dX6_workOut_29 : decode cX6_workOut 29 = .ok (.ifCond .eq 36, 3) := by decide +kernel
theorem dX6_workOut_32 : decode cX6_workOut 32 = .ok (.aload_n 0, 1) := by decide +kernel
theorem dX6_workOut_33 : decode cX6_workOut 33 = .ok (.aload 5, 2) := by decide +kernel
theorem dX6_workOut_35 : decode cX6_workOut 35 = .ok (.aload_n 2, 1) := by decide +kernel
theorem dX6_workOut_36 : decode cX6_workOut 36 = .ok (.iload_n 3, 1) := by decide +kernel
theorem dX6_workOut_37 : decode cX6_workOut 37 = .ok (.invokevirtual 47, 3) := by decide +kernel
theorem dX6_workOut_40 : decode cX6_workOut 40 = .ok (.iconst 0, 1) := by decide +kernel
theorem dX6_workOut_41 : decode cX6_workOut 41 = .ok (.istore 6, 2) := by decide +kernel
theorem dX6_workOut_43 : decode cX6_workOut 43 = .ok (.iload 6, 2) := by decide +kernel
theorem dX6_workOut_45 : decode cX6_workOut 45 = .ok (.bipush 14, 2) := by decide +kernel
theorem dX6_workOut_47 : decode cX6_workOut 47 = .ok (.if_icmp .ge 18, 3) := by decide +kernel
theorem dX6_workOut_50 : decode cX6_workOut 50 = .ok (.aload_n 0, 1) := by decide +kernel
theorem dX6_workOut_51 : decode cX6_workOut 51 = .ok (.aload 5, 2) := by decide +kernel
theorem dX6_workOut_53 : decode cX6_workOut 53 = .ok (.iload 6, 2) := by decide +kernel
theorem dX6_workOut_55 : decode cX6_workOut 55 = .ok (.aload_n 2, 1) := by decide +kernel
theorem dX6_workOut_56 : decode cX6_workOut 56 = .ok (.invokevirtual 51, 3) := by decide +kernel
theorem dX6_workOut_59 : decode cX6_workOut 59 = .ok (.iinc 6 1, 3) := by decide +kernel
theorem dX6_workOut_62 : decode cX6_workOut 62 = .ok (.goto (-19), 3) := by decide +kernel
theorem dX6_workOut_65 : decode cX6_workOut 65 = .ok (.iinc 4 1, 3) := by decide +kernel
theorem dX6_workOut_68 : decode cX6_workOut 68 = .ok (.goto (-65), 3) := by decide +kernel
theorem dX6_workOut_71 : decode cX6_workOut 71 = .ok (.aload_n 0, 1) := by decide +kernel
theorem dX6_workOut_72 : decode cX6_workOut 72 = .ok (.iconst 1, 1) := by decide +kernel
theorem dX6_workOut_73 : decode cX6_workOut 73 = .ok (.putfield 19, 3) := by decide +kernel
theorem dX6_workOut_76 : decode cX6_workOut 76 = .ok (.return_, 1) := by decide +kernel
theorem dX6_isKept_0 : decode cX6_isKept 0 = .ok (.aload_n 0, 1) := by decide +kernel
theorem dX6_isKept_1 : decode cX6_isKept 1 = .ok (.getfield 23, 3) := by decide +kernel
theorem dX6_isKept_4 : decode cX6_isKept 4 = .ok (.ifCond .lt 23, 3) := by decide +kernel
theorem dX6_isKept_7 : decode cX6_isKept 7 = .ok (.aload_n 0, 1) := by decide +kernel
theorem dX6_isKept_8 : decode cX6_isKept 8 = .ok (.getfield 23, 3) := by decide +kernel
theorem dX6_isKept_11 : decode cX6_isKept 11 = .ok (.bipush 40, 2) := by decide +kernel
theorem dX6_isKept_13 : decode cX6_isKept 13 = .ok (.if_icmp .ge 14, 3) := by decide +kernel
theorem dX6_isKept_16 : decode cX6_isKept 16 = .ok (.iload_n 1, 1) := by decide +kernel
theorem dX6_isKept_17 : decode cX6_isKept 17 = .ok (.invokestatic 55, 3) := by decide +kernel
theorem dX6_isKept_20 : decode cX6_isKept 20 = .ok (.ifCond .eq 7, 3) := by decide +kernel
theorem dX6_isKept_23 : decode cX6_isKept 23 = .ok (.iconst 1, 1) := by decide +kernel
theorem dX6_isKept_24 : decode cX6_isKept 24 = .ok (.goto 4, 3) := by decide +kernel
theorem dX6_isKept_27 : decode cX6_isKept 27 = .ok (.iconst 0, 1) := by decide +kernel
theorem dX6_isKept_28 : decode cX6_isKept 28 = .ok (.ireturn, 1) := by decide +kernel
theorem dX6_findRules_0 : decode cX6_findRules 0 = .ok (.aload_n 0, 1) := by decide +kernel
theorem dX6_findRules_1 : decode cX6_findRules 1 = .ok (.getfield 16, 3) := by decide +kernel
theorem dX6_findRules_4 : decode cX6_findRules 4 = .ok (.aload_n 1, 1) := by decide +kernel
theorem dX6_findRules_5 : decode cX6_findRules 5 = .ok (.getfield 23, 3) := by decide +kernel
theorem dX6_findRules_8 : decode cX6_findRules 8 = .ok (.aaload, 1) := by decide +kernel
theorem dX6_findRules_9 : decode cX6_findRules 9 = .ok (.astore 4, 2) := by decide +kernel
theorem dX6_findRules_11 : decode cX6_findRules 11 = .ok (.aload 4, 2) := by decide +kernel
theorem dX6_findRules_13 : decode cX6_findRules 13 = .ok (.iconst (-1), 1) := by decide +kernel
theorem dX6_findRules_14 : decode cX6_findRules 14 = .ok (.invokestatic 59, 3) := by decide +kernel
theorem dX6_findRules_17 : decode cX6_findRules 17 = .ok (.iconst 0, 1) := by decide +kernel
theorem dX6_findRules_18 : decode cX6_findRules 18 = .ok (.istore 5, 2) := by decide +kernel
theorem dX6_findRules_20 : decode cX6_findRules 20 = .ok (.iload 5, 2) := by decide +kernel
theorem dX6_findRules_22 : decode cX6_findRules 22 = .ok (.aload_n 2, 1) := by decide +kernel
theorem dX6_findRules_23 : decode cX6_findRules 23 = .ok (.invokevirtual 37, 3) := by decide +kernel
theorem dX6_findRules_26 : decode cX6_findRules 26 = .ok (.if_icmp .ge 98, 3) := by decide +kernel
theorem dX6_findRules_29 : decode cX6_findRules 29 = .ok (.aload_n 2, 1) := by decide +kernel
theorem dX6_findRules_30 : decode cX6_findRules 30 = .ok (.iload 5, 2) := by decide +kernel
theorem dX6_findRules_32 : decode cX6_findRules 32 = .ok (.invokevirtual 43, 3) := by decide +kernel
theorem dX6_findRules_35 : decode cX6_findRules 35 = .ok (.checkcast 65, 3) := by decide +kernel
theorem dX6_findRules_38 : decode cX6_findRules 38 = .ok (.astore 6, 2) := by decide +kernel
theorem dX6_findRules_40 : decode cX6_findRules 40 = .ok (.aload 6, 2) := by decide +kernel
theorem dX6_findRules_42 : decode cX6_findRules 42 = .ok (.getfield 67, 3) := by decide +kernel
theorem dX6_findRules_45 : decode cX6_findRules 45 = .ok (.iload 5, 2) := by decide +kernel
theorem dX6_findRules_47 : decode cX6_findRules 47 = .ok (.iload_n 3, 1) := by decide +kernel
theorem dX6_findRules_48 : decode cX6_findRules 48 = .ok (.if_icmp .ne 7, 3) := by decide +kernel
theorem dX6_findRules_51 : decode cX6_findRules 51 = .ok (.iconst 1, 1) := by decide +kernel
theorem dX6_findRules_52 : decode cX6_findRules 52 = .ok (.goto 4, 3) := by decide +kernel
theorem dX6_findRules_55 : decode cX6_findRules 55 = .ok (.iconst 0, 1) := by decide +kernel
theorem dX6_findRules_56 : decode cX6_findRules 56 = .ok (.if_icmp .eq 27, 3) := by decide +kernel
theorem dX6_findRules_59 : decode cX6_findRules 59 = .ok (.aload 6, 2) := by decide +kernel
theorem dX6_findRules_61 : decode cX6_findRules 61 = .ok (.getfield 70, 3) := by decide +kernel
theorem dX6_findRules_64 : decode cX6_findRules 64 = .ok (.invokestatic 55, 3) := by decide +kernel
theorem dX6_findRules_67 : decode cX6_findRules 67 = .ok (.ifCond .eq 16, 3) := by decide +kernel
theorem dX6_findRules_70 : decode cX6_findRules 70 = .ok (.aload 6, 2) := by decide +kernel
theorem dX6_findRules_72 : decode cX6_findRules 72 = .ok (.aload_n 1, 1) := by decide +kernel
theorem dX6_findRules_73 : decode cX6_findRules 73 = .ok (.invokevirtual 73, 3) := by decide +kernel
theorem dX6_findRules_76 : decode cX6_findRules 76 = .ok (.ifCond .eq 7, 3) := by decide +kernel
theorem dX6_findRules_79 : decode cX6_findRules 79 = .ok (.iconst 1, 1) := by decide +kernel
theorem dX6_findRules_80 : decode cX6_findRules 80 = .ok (.goto 4, 3) := by decide +kernel
theorem dX6_findRules_83 : decode cX6_findRules 83 = .ok (.iconst 0, 1) := by decide +kernel
theorem dX6_findRules_84 : decode cX6_findRules 84 = .ok (.istore 7, 2) := by decide +kernel
theorem dX6_findRules_86 : decode cX6_findRules 86 = .ok (.iload 7, 2) := by decide +kernel
theorem dX6_findRules_88 : decode cX6_findRules 88 = .ok (.ifCond .eq 30, 3) := by decide +kernel
theorem dX6_findRules_91 : decode cX6_findRules 91 = .ok (.aload 6, 2) := by decide +kernel
theorem dX6_findRules_93 : decode cX6_findRules 93 = .ok (.aload 4, 2) := by decide +kernel
theorem dX6_findRules_95 : decode cX6_findRules 95 = .ok (.aload 6, 2) := by decide +kernel
theorem dX6_findRules_97 : decode cX6_findRules 97 = .ok (.getfield 70, 3) := by decide +kernel
theorem dX6_findRules_100 : decode cX6_findRules 100 = .ok (.iaload, 1) := by decide +kernel
theorem dX6_findRules_101 : decode cX6_findRules 101 = .ok (.aload_n 2, 1) := by decide +kernel
theorem dX6_findRules_102 : decode cX6_findRules 102 = .ok (.invokestatic 77, 3) := by decide +kernel
theorem dX6_findRules_105 : decode cX6_findRules 105 = .ok (.ifCond .eq 13, 3) := by decide +kernel
theorem dX6_findRules_108 : decode cX6_findRules 108 = .ok (.aload 4, 2) := by decide +kernel
theorem dX6_findRules_110 : decode cX6_findRules 110 = .ok (.aload 6, 2) := by decide +kernel
theorem dX6_findRules_112 : decode cX6_findRules 112 = .ok (.getfield 70, 3) := by decide +kernel
theorem dX6_findRules_115 : decode cX6_findRules 115 = .ok (.iload 5, 2) := by decide +kernel
theorem dX6_findRules_117 : decode cX6_findRules 117 = .ok (.iastore, 1) := by decide +kernel
theorem dX6_findRules_118 : decode cX6_findRules 118 = .ok (.iinc 5 1, 3) := by decide +kernel
theorem dX6_findRules_121 : decode cX6_findRules 121 = .ok (.goto (-101), 3) := by decide +kernel
theorem dX6_findRules_124 : decode cX6_findRules 124 = .ok (.return_, 1) := by decide +kernel
theorem dX6_comesAheadOf_0 : decode cX6_comesAheadOf 0 = .ok (.iload_n 1, 1) := by decide +kernel
theorem dX6_comesAheadOf_1 : decode cX6_comesAheadOf 1 = .ok (.ifCond .lt 11, 3) := by decide +kernel
theorem dX6_comesAheadOf_4 : decode cX6_comesAheadOf 4 = .ok (.iload_n 1, 1) := by decide +kernel
theorem dX6_comesAheadOf_5 : decode cX6_comesAheadOf 5 = .ok (.aload_n 2, 1) := by decide +kernel
theorem dX6_comesAheadOf_6 : decode cX6_comesAheadOf 6 = .ok (.invokevirtual 37, 3) := by decide +kernel
theorem dX6_comesAheadOf_9 : decode cX6_comesAheadOf 9 = .ok (.if_icmp .lt 5, 3) := by decide +kernel
theorem dX6_comesAheadOf_12 : decode cX6_comesAheadOf 12 = .ok (.iconst 1, 1) := by decide +kernel
theorem dX6_comesAheadOf_13 : decode cX6_comesAheadOf 13 = .ok (.ireturn, 1) := by decide +kernel
theorem dX6_comesAheadOf_14 : decode cX6_comesAheadOf 14 = .ok (.aload_n 2, 1) := by decide +kernel
theorem dX6_comesAheadOf_15 : decode cX6_comesAheadOf 15 = .ok (.iload_n 1, 1) := by decide +kernel
theorem dX6_comesAheadOf_16 : decode cX6_comesAheadOf 16 = .ok (.invokevirtual 43, 3) := by decide +kernel
theorem dX6_comesAheadOf_19 : decode cX6_comesAheadOf 19 = .ok (.checkcast 65, 3) := by decide +kernel
theorem dX6_comesAheadOf_22 : decode cX6_comesAheadOf 22 = .ok (.astore_n 3, 1) := by decide +kernel
theorem dX6_comesAheadOf_23 : decode cX6_comesAheadOf 23 = .ok (.aload_n 0, 1) := by decide +kernel
theorem dX6_comesAheadOf_24 : decode cX6_comesAheadOf 24 = .ok (.getfield 81, 3) := by decide +kernel
theorem dX6_comesAheadOf_27 : decode cX6_comesAheadOf 27 = .ok (.aload_n 3, 1) := by decide +kernel
theorem dX6_comesAheadOf_28 : decode cX6_comesAheadOf 28 = .ok (.getfield 81, 3) := by decide +kernel
theorem dX6_comesAheadOf_31 : decode cX6_comesAheadOf 31 = .ok (.if_icmp .eq 8, 3) := by decide +kernel
theorem dX6_comesAheadOf_34 : decode cX6_comesAheadOf 34 = .ok (.aload_n 0, 1) := by decide +kernel
theorem dX6_comesAheadOf_35 : decode cX6_comesAheadOf 35 = .ok (.getfield 81, 3) := by decide +kernel
theorem dX6_comesAheadOf_38 : decode cX6_comesAheadOf 38 = .ok (.ireturn, 1) := by decide +kernel
theorem dX6_comesAheadOf_39 : decode cX6_comesAheadOf 39 = .ok (.aload_n 0, 1) := by decide +kernel
theorem dX6_comesAheadOf_40 : decode cX6_comesAheadOf 40 = .ok (.getfield 84, 3) := by decide +kernel
theorem dX6_comesAheadOf_43 : decode cX6_comesAheadOf 43 = .ok (.aload_n 3, 1) := by decide +kernel
theorem dX6_comesAheadOf_44 : decode cX6_comesAheadOf 44 = .ok (.getfield 84, 3) := by decide +kernel
theorem dX6_comesAheadOf_47 : decode cX6_comesAheadOf 47 = .ok (.if_icmp .lt 7, 3) := by decide +kernel
theorem dX6_comesAheadOf_50 : decode cX6_comesAheadOf 50 = .ok (.iconst 1, 1) := by decide +kernel
theorem dX6_comesAheadOf_51 : decode cX6_comesAheadOf 51 = .ok (.goto 4, 3) := by decide +kernel
theorem dX6_comesAheadOf_54 : decode cX6_comesAheadOf 54 = .ok (.iconst 0, 1) := by decide +kernel
theorem dX6_comesAheadOf_55 : decode cX6_comesAheadOf 55 = .ok (.ireturn, 1) := by decide +kernel
theorem dX6_settle_0 : decode cX6_settle 0 = .ok (.aload_n 0, 1) := by decide +kernel
theorem dX6_settle_1 : decode cX6_settle 1 = .ok (.getfield 16, 3) := by decide +kernel
theorem dX6_settle_4 : decode cX6_settle 4 = .ok (.aload_n 1, 1) := by decide +kernel
theorem dX6_settle_5 : decode cX6_settle 5 = .ok (.getfield 23, 3) := by decide +kernel
theorem dX6_settle_8 : decode cX6_settle 8 = .ok (.aaload, 1) := by decide +kernel
theorem dX6_settle_9 : decode cX6_settle 9 = .ok (.iload_n 2, 1) := by decide +kernel
theorem dX6_settle_10 : decode cX6_settle 10 = .ok (.iaload, 1) := by decide +kernel
theorem dX6_settle_11 : decode cX6_settle 11 = .ok (.istore 4, 2) := by decide +kernel
theorem dX6_settle_13 : decode cX6_settle 13 = .ok (.sipush 9998, 3) := by decide +kernel
theorem dX6_settle_16 : decode cX6_settle 16 = .ok (.istore 5, 2) := by decide +kernel
theorem dX6_settle_18 : decode cX6_settle 18 = .ok (.iconst 0, 1) := by decide +kernel
theorem dX6_settle_19 : decode cX6_settle 19 = .ok (.istore 6, 2) := by decide +kernel
theorem dX6_settle_21 : decode cX6_settle 21 = .ok (.iload 4, 2) := by decide +kernel
theorem dX6_settle_23 : decode cX6_settle 23 = .ok (.ifCond .lt 40, 3) := by decide +kernel
theorem dX6_settle_26 : decode cX6_settle 26 = .ok (.iload 4, 2) := by decide +kernel
theorem dX6_settle_28 : decode cX6_settle 28 = .ok (.aload_n 3, 1) := by decide +kernel
theorem dX6_settle_29 : decode cX6_settle 29 = .ok (.invokevirtual 37, 3) := by decide +kernel
theorem dX6_settle_32 : decode cX6_settle 32 = .ok (.if_icmp .ge 31, 3) := by decide +kernel
theorem dX6_settle_35 : decode cX6_settle 35 = .ok (.aload_n 3, 1) := by decide +kernel
theorem dX6_settle_36 : decode cX6_settle 36 = .ok (.iload 4, 2) := by decide +kernel
theorem dX6_settle_38 : decode cX6_settle 38 = .ok (.invokevirtual 43, 3) := by decide +kernel
theorem dX6_settle_41 : decode cX6_settle 41 = .ok (.checkcast 65, 3) := by decide +kernel
theorem dX6_settle_44 : decode cX6_settle 44 = .ok (.getfield 87, 3) := by decide +kernel
theorem dX6_settle_47 : decode cX6_settle 47 = .ok (.istore 5, 2) := by decide +kernel
theorem dX6_settle_49 : decode cX6_settle 49 = .ok (.aload_n 3, 1) := by decide +kernel
theorem dX6_settle_50 : decode cX6_settle 50 = .ok (.iload 4, 2) := by decide +kernel
theorem dX6_settle_52 : decode cX6_settle 52 = .ok (.invokevirtual 43, 3) := by decide +kernel
theorem dX6_settle_55 : decode cX6_settle 55 = .ok (.checkcast 65, 3) := by decide +kernel
theorem dX6_settle_58 : decode cX6_settle 58 = .ok (.getfield 81, 3) := by decide +kernel
theorem dX6_settle_61 : decode cX6_settle 61 = .ok (.istore 6, 2) := by decide +kernel
theorem dX6_settle_63 : decode cX6_settle 63 = .ok (.aload_n 1, 1) := by decide +kernel
theorem dX6_settle_64 : decode cX6_settle 64 = .ok (.iload_n 2, 1) := by decide +kernel
theorem dX6_settle_65 : decode cX6_settle 65 = .ok (.invokevirtual 90, 3) := by decide +kernel
theorem dX6_settle_68 : decode cX6_settle 68 = .ok (.istore 7, 2) := by decide +kernel
theorem dX6_settle_70 : decode cX6_settle 70 = .ok (.iload 7, 2) := by decide +kernel
theorem dX6_settle_72 : decode cX6_settle 72 = .ok (.sipush 9998, 3) := by decide +kernel
theorem dX6_settle_75 : decode cX6_settle 75 = .ok (.if_icmp .eq 15, 3) := by decide +kernel
theorem dX6_settle_78 : decode cX6_settle 78 = .ok (.iload 6, 2) := by decide +kernel
theorem dX6_settle_80 : decode cX6_settle 80 = .ok (.ifCond .ne 10, 3) := by decide +kernel
theorem dX6_settle_83 : decode cX6_settle 83 = .ok (.iload 7, 2) := by decide +kernel
theorem dX6_settle_85 : decode cX6_settle 85 = .ok (.istore 5, 2) := by decide +kernel
theorem dX6_settle_87 : decode cX6_settle 87 = .ok (.iconst (-1), 1) := by decide +kernel
theorem dX6_settle_88 : decode cX6_settle 88 = .ok (.istore 4, 2) := by decide +kernel
theorem dX6_settle_90 : decode cX6_settle 90 = .ok (.iload 5, 2) := by decide +kernel
theorem dX6_settle_92 : decode cX6_settle 92 = .ok (.sipush 9998, 3) := by decide +kernel
theorem dX6_settle_95 : decode cX6_settle 95 = .ok (.if_icmp .ne 56, 3) := by decide +kernel
theorem dX6_settle_98 : decode cX6_settle 98 = .ok (.iload_n 2, 1) := by decide +kernel
theorem dX6_settle_99 : decode cX6_settle 99 = .ok (.invokestatic 94, 3) := by decide +kernel
theorem dX6_settle_102 : decode cX6_settle 102 = .ok (.ifCond .eq 14, 3) := by decide +kernel
theorem dX6_settle_105 : decode cX6_settle 105 = .ok (.aload_n 1, 1) := by decide +kernel
theorem dX6_settle_106 : decode cX6_settle 106 = .ok (.getfield 97, 3) := by decide +kernel
theorem dX6_settle_109 : decode cX6_settle 109 = .ok (.ifnull 7, 3) := by decide +kernel
theorem dX6_settle_112 : decode cX6_settle 112 = .ok (.iconst 1, 1) := by decide +kernel
theorem dX6_settle_113 : decode cX6_settle 113 = .ok (.goto 4, 3) := by decide +kernel
theorem dX6_settle_116 : decode cX6_settle 116 = .ok (.iconst 0, 1) := by decide +kernel
theorem dX6_settle_117 : decode cX6_settle 117 = .ok (.istore 8, 2) := by decide +kernel
theorem dX6_settle_119 : decode cX6_settle 119 = .ok (.iload 8, 2) := by decide +kernel
theorem dX6_settle_121 : decode cX6_settle 121 = .ok (.ifCond .eq 9, 3) := by decide +kernel
theorem dX6_settle_124 : decode cX6_settle 124 = .ok (.sipush 9999, 3) := by decide +kernel
theorem dX6_settle_127 : decode cX6_settle 127 = .ok (.goto 8, 3) := by decide +kernel
theorem dX6_settle_130 : decode cX6_settle 130 = .ok (.getstatic 101, 3) := by decide +kernel
theorem dX6_settle_133 : decode cX6_settle 133 = .ok (.iload_n 2, 1) := by decide +kernel
theorem dX6_settle_134 : decode cX6_settle 134 = .ok (.iaload, 1) := by decide +kernel
theorem dX6_settle_135 : decode cX6_settle 135 = .ok (.istore 5, 2) := by decide +kernel
theorem dX6_settle_137 : decode cX6_settle 137 = .ok (.iload 8, 2) := by decide +kernel
theorem dX6_settle_139 : decode cX6_settle 139 = .ok (.ifCond .eq 8, 3) := by decide +kernel
theorem dX6_settle_142 : decode cX6_settle 142 = .ok (.bipush (-2), 2) := by decide +kernel
theorem dX6_settle_144 : decode cX6_settle 144 = .ok (.goto 5, 3) := by decide +kernel
theorem dX6_settle_147 : decode cX6_settle 147 = .ok (.bipush (-3), 2) := by decide +kernel
theorem dX6_settle_149 : decode cX6_settle 149 = .ok (.istore 4, 2) := by decide +kernel
theorem dX6_settle_151 : decode cX6_settle 151 = .ok (.iload 5, 2) := by decide +kernel
theorem dX6_settle_153 : decode cX6_settle 153 = .ok (.sipush 9999, 3) := by decide +kernel
theorem dX6_settle_156 : decode cX6_settle 156 = .ok (.if_icmp .ne 29, 3) := by decide +kernel
theorem dX6_settle_159 : decode cX6_settle 159 = .ok (.aload_n 1, 1) := by decide +kernel
theorem dX6_settle_160 : decode cX6_settle 160 = .ok (.getfield 97, 3) := by decide +kernel
theorem dX6_settle_163 : decode cX6_settle 163 = .ok (.ifnonnull 11, 3) := by decide +kernel
theorem dX6_settle_166 : decode cX6_settle 166 = .ok (.getstatic 101, 3) := by decide +kernel
theorem dX6_settle_169 : decode cX6_settle 169 = .ok (.iload_n 2, 1) := by decide +kernel
theorem dX6_settle_170 : decode cX6_settle 170 = .ok (.iaload, 1) := by decide +kernel
theorem dX6_settle_171 : decode cX6_settle 171 = .ok (.goto 12, 3) := by decide +kernel
theorem dX6_settle_174 : decode cX6_settle 174 = .ok (.aload_n 0, 1) := by decide +kernel
theorem dX6_settle_175 : decode cX6_settle 175 = .ok (.aload_n 1, 1) := by decide +kernel
theorem dX6_settle_176 : decode cX6_settle 176 = .ok (.getfield 97, 3) := by decide +kernel
theorem dX6_settle_179 : decode cX6_settle 179 = .ok (.iload_n 2, 1) := by decide +kernel
theorem dX6_settle_180 : decode cX6_settle 180 = .ok (.invokevirtual 33, 3) := by decide +kernel
theorem dX6_settle_183 : decode cX6_settle 183 = .ok (.istore 5, 2) := by decide +kernel
theorem dX6_settle_185 : decode cX6_settle 185 = .ok (.aload_n 0, 1) := by decide +kernel
theorem dX6_settle_186 : decode cX6_settle 186 = .ok (.getfield 11, 3) := by decide +kernel
theorem dX6_settle_189 : decode cX6_settle 189 = .ok (.aload_n 1, 1) := by decide +kernel
theorem dX6_settle_190 : decode cX6_settle 190 = .ok (.getfield 23, 3) := by decide +kernel
theorem dX6_settle_193 : decode cX6_settle 193 = .ok (.aaload, 1) := by decide +kernel
theorem dX6_settle_194 : decode cX6_settle 194 = .ok (.iload_n 2, 1) := by decide +kernel
theorem dX6_settle_195 : decode cX6_settle 195 = .ok (.iload 5, 2) := by decide +kernel
theorem dX6_settle_197 : decode cX6_settle 197 = .ok (.iastore, 1) := by decide +kernel
theorem dX6_settle_198 : decode cX6_settle 198 = .ok (.aload_n 0, 1) := by decide +kernel
theorem dX6_settle_199 : decode cX6_settle 199 = .ok (.getfield 16, 3) := by decide +kernel
theorem dX6_settle_202 : decode cX6_settle 202 = .ok (.aload_n 1, 1) := by decide +kernel
theorem dX6_settle_203 : decode cX6_settle 203 = .ok (.getfield 23, 3) := by decide +kernel
theorem dX6_settle_206 : decode cX6_settle 206 = .ok (.aaload, 1) := by decide +kernel
theorem dX6_settle_207 : decode cX6_settle 207 = .ok (.iload_n 2, 1) := by decide +kernel
theorem dX6_settle_208 : decode cX6_settle 208 = .ok (.iload 4, 2) := by decide +kernel
theorem dX6_settle_210 : decode cX6_settle 210 = .ok (.iastore, 1) := by decide +kernel
theorem dX6_settle_211 : decode cX6_settle 211 = .ok (.return_, 1) := by decide +kernel
theorem dX7_init_0 : decode cX7_init 0 = .ok (.aload_n 0, 1) := by decide +kernel
theorem dX7_init_1 : decode cX7_init 1 = .ok (.invokespecial 3, 3) := by decide +kernel
theorem dX7_init_4 : decode cX7_init 4 = .ok (.aload_n 0, 1) := by decide +kernel
theorem dX7_init_5 : decode cX7_init 5 = .ok (.new 9, 3) := by decide +kernel
theorem dX7_init_8 : decode cX7_init 8 = .ok (.dup, 1) := by decide +kernel
theorem dX7_init_9 : decode cX7_init 9 = .ok (.invokespecial 11, 3) := by decide +kernel
theorem dX7_init_12 : decode cX7_init 12 = .ok (.putfield 12, 3) := by decide +kernel
theorem dX7_init_15 : decode cX7_init 15 = .ok (.aload_n 0, 1) := by decide +kernel
theorem dX7_init_16 : decode cX7_init 16 = .ok (.new 9, 3) := by decide +kernel
theorem dX7_init_19 : decode cX7_init 19 = .ok (.dup, 1) := by decide +kernel
theorem dX7_init_20 : decode cX7_init 20 = .ok (.invokespecial 11, 3) := by decide +kernel
theorem dX7_init_23 : decode cX7_init 23 = .ok (.putfield 18, 3) := by decide +kernel
theorem dX7_init_26 : decode cX7_init 26 = .ok (.aload_n 0, 1) := by decide +kernel
theorem dX7_init_27 : decode cX7_init 27 = .ok (.new 21, 3) := by decide +kernel
theorem dX7_init_30 : decode cX7_init 30 = .ok (.dup, 1) := by decide +kernel
theorem dX7_init_31 : decode cX7_init 31 = .ok (.iconst 0, 1) := by decide +kernel
theorem dX7_init_32 : decode cX7_init 32 = .ok (.iconst 0, 1) := by decide +kernel
theorem dX7_init_33 : decode cX7_init 33 = .ok (.iconst 0, 1) := by decide +kernel
theorem dX7_init_34 : decode cX7_init 34 = .ok (.invokespecial 23, 3) := by decide +kernel
theorem dX7_init_37 : decode cX7_init 37 = .ok (.putfield 26, 3) := by decide +kernel
theorem dX7_init_40 : decode cX7_init 40 = .ok (.return_, 1) := by decide +kernel
theorem dX7_withRoot_0 : decode cX7_withRoot 0 = .ok (.new 13, 3) := by decide +kernel
theorem dX7_withRoot_3 : decode cX7_withRoot 3 = .ok (.dup, 1) := by decide +kernel
theorem dX7_withRoot_4 : decode cX7_withRoot 4 = .ok (.invokespecial 30, 3) := by decide +kernel
theorem dX7_withRoot_7 : decode cX7_withRoot 7 = .ok (.astore_n 0, 1) := by decide +kernel
theorem dX7_withRoot_8 : decode cX7_withRoot 8 = .ok (.aload_n 0, 1) := by decide +kernel
theorem dX7_withRoot_9 : decode cX7_withRoot 9 = .ok (.getfield 12, 3) := by decide +kernel
theorem dX7_withRoot_12 : decode cX7_withRoot 12 = .ok (.aload_n 0, 1) := by decide +kernel
theorem dX7_withRoot_13 : decode cX7_withRoot 13 = .ok (.getfield 26, 3) := by decide +kernel
theorem dX7_withRoot_16 : decode cX7_withRoot 16 = .ok (.invokevirtual 31, 3) := by decide +kernel
theorem dX7_withRoot_19 : decode cX7_withRoot 19 = .ok (.pop, 1) := by decide +kernel
theorem dX7_withRoot_20 : decode cX7_withRoot 20 = .ok (.aload_n 0, 1) := by decide +kernel
theorem dX7_withRoot_21 : decode cX7_withRoot 21 = .ok (.getfield 18, 3) := by decide +kernel
theorem dX7_withRoot_24 : decode cX7_withRoot 24 = .ok (.aload_n 0, 1) := by decide +kernel
theorem dX7_withRoot_25 : decode cX7_withRoot 25 = .ok (.getfield 26, 3) := by decide +kernel
theorem dX7_withRoot_28 : decode cX7_withRoot 28 = .ok (.invokevirtual 31, 3) := by decide +kernel
theorem dX7_withRoot_31 : decode cX7_withRoot 31 = .ok (.pop, 1) := by decide +kernel
theorem dX7_withRoot_32 : decode cX7_withRoot 32 = .ok (.aload_n 0, 1) := by decide +kernel
theorem dX7_withRoot_33 : decode cX7_withRoot 33 = .ok (.areturn, 1) := by decide +kernel
theorem dX7_holds_0 : decode cX7_holds 0 = .ok (.iload_n 1, 1) := by decide +kernel
theorem dX7_holds_1 : decode cX7_holds 1 = .ok (.ifCond .lt 35, 3) := by decide +kernel
theorem dX7_holds_4 : decode cX7_holds 4 = .ok (.iload_n 1, 1) := by decide +kernel
theorem dX7_holds_5 : decode cX7_holds 5 = .ok (.aload_n 0, 1) := by decide +kernel
theorem dX7_holds_6 : decode cX7_holds 6 = .ok (.getfield 12, 3) := by decide +kernel
theorem dX7_holds_9 : decode cX7_holds 9 = .ok (.invokevirtual 35, 3) := by decide +kernel
theorem dX7_holds_12 : decode cX7_holds 12 = .ok (.if_icmp .ge 24, 3) := by decide +kernel
theorem dX7_holds_15 : decode cX7_holds 15 = .ok (.aload_n 0, 1) := by decide +kernel
theorem dX7_holds_16 : decode cX7_holds 16 = .ok (.getfield 12, 3) := by decide +kernel
theorem dX7_holds_19 : decode cX7_holds 19 = .ok (.iload_n 1, 1) := by decide +kernel
theorem dX7_holds_20 : decode cX7_holds 20 = .ok (.invokevirtual 39, 3) := by decide +kernel
theorem dX7_holds_23 : decode cX7_holds 23 = .ok (.checkcast 21, 3) := by decide +kernel
theorem dX7_holds_26 : decode cX7_holds 26 = .ok (.getfield 43, 3) := by decide +kernel
theorem dX7_holds_29 : decode cX7_holds 29 = .ok (.ifCond .ne 7, 3) := by decide +kernel
theorem dX7_holds_32 : decode cX7_holds 32 = .ok (.iconst 1, 1) := by decide +kernel
theorem dX7_holds_33 : decode cX7_holds 33 = .ok (.goto 4, 3) := by decide +kernel
theorem dX7_holds_36 : decode cX7_holds 36 = .ok (.iconst 0, 1) := by decide +kernel
theorem dX7_holds_37 : decode cX7_holds 37 = .ok (.ireturn, 1) := by decide +kernel
theorem dX7_hasRoomIn_0 : decode cX7_hasRoomIn 0 = .ok (.aload_n 0, 1) := by decide +kernel
theorem dX7_hasRoomIn_1 : decode cX7_hasRoomIn 1 = .ok (.getfield 12, 3) := by decide +kernel
theorem dX7_hasRoomIn_4 : decode cX7_hasRoomIn 4 = .ok (.invokevirtual 35, 3) := by decide +kernel
theorem dX7_hasRoomIn_7 : decode cX7_hasRoomIn 7 = .ok (.bipush 40, 2) := by decide +kernel
theorem dX7_hasRoomIn_9 : decode cX7_hasRoomIn 9 = .ok (.if_icmp .ge 16, 3) := by decide +kernel
theorem dX7_hasRoomIn_12 : decode cX7_hasRoomIn 12 = .ok (.aload_n 1, 1) := by decide +kernel
theorem dX7_hasRoomIn_13 : decode cX7_hasRoomIn 13 = .ok (.invokevirtual 47, 3) := by decide +kernel
theorem dX7_hasRoomIn_16 : decode cX7_hasRoomIn 16 = .ok (.bipush 10, 2) := by decide +kernel
theorem dX7_hasRoomIn_18 : decode cX7_hasRoomIn 18 = .ok (.if_icmp .ge 7, 3) := by decide +kernel
theorem dX7_hasRoomIn_21 : decode cX7_hasRoomIn 21 = .ok (.iconst 1, 1) := by decide +kernel
theorem dX7_hasRoomIn_22 : decode cX7_hasRoomIn 22 = .ok (.goto 4, 3) := by decide +kernel
theorem dX7_hasRoomIn_25 : decode cX7_hasRoomIn 25 = .ok (.iconst 0, 1) := by decide +kernel
theorem dX7_hasRoomIn_26 : decode cX7_hasRoomIn 26 = .ok (.ireturn, 1) := by decide +kernel
theorem dX7_append_0 : decode cX7_append 0 = .ok (.new 21, 3) := by decide +kernel
theorem dX7_append_3 : decode cX7_append 3 = .ok (.dup, 1) := by decide +kernel
theorem dX7_append_4 : decode cX7_append 4 = .ok (.aload_n 0, 1) := by decide +kernel
theorem dX7_append_5 : decode cX7_append 5 = .ok (.getfield 12, 3) := by decide +kernel
theorem dX7_append_8 : decode cX7_append 8 = .ok (.invokevirtual 35, 3) := by decide +kernel
theorem dX7_append_11 : decode cX7_append 11 = .ok (.iload_n 2, 1) := by decide +kernel
theorem dX7_append_12 : decode cX7_append 12 = .ok (.iload_n 3, 1) := by decide +kernel
theorem dX7_append_13 : decode cX7_append 13 = .ok (.invokespecial 23, 3) := by decide +kernel
theorem dX7_append_16 : decode cX7_append 16 = .ok (.astore 4, 2) := by decide +kernel
theorem dX7_append_18 : decode cX7_append 18 = .ok (.aload_n 0, 1) := by decide +kernel
theorem dX7_append_19 : decode cX7_append 19 = .ok (.getfield 12, 3) := by decide +kernel
theorem dX7_append_22 : decode cX7_append 22 = .ok (.aload 4, 2) := by decide +kernel
theorem dX7_append_24 : decode cX7_append 24 = .ok (.invokevirtual 31, 3) := by decide +kernel
theorem dX7_append_27 : decode cX7_append 27 = .ok (.pop, 1) := by decide +kernel
theorem dX7_append_28 : decode cX7_append 28 = .ok (.aload 4, 2) := by decide +kernel
theorem dX7_append_30 : decode cX7_append 30 = .ok (.aload_n 1, 1) := by decide +kernel
theorem dX7_append_31 : decode cX7_append 31 = .ok (.putfield 50, 3) := by decide +kernel
theorem dX7_append_34 : decode cX7_append 34 = .ok (.aload_n 1, 1) := by decide +kernel
theorem dX7_append_35 : decode cX7_append 35 = .ok (.getfield 53, 3) := by decide +kernel
theorem dX7_append_38 : decode cX7_append 38 = .ok (.aload 4, 2) := by decide +kernel
theorem dX7_append_40 : decode cX7_append 40 = .ok (.invokevirtual 31, 3) := by decide +kernel
theorem dX7_append_43 : decode cX7_append 43 = .ok (.pop, 1) := by decide +kernel
theorem dX7_append_44 : decode cX7_append 44 = .ok (.aload_n 0, 1) := by decide +kernel
theorem dX7_append_45 : decode cX7_append 45 = .ok (.invokevirtual 56, 3) := by decide +kernel
theorem dX7_append_48 : decode cX7_append 48 = .ok (.aload 4, 2) := by decide +kernel
theorem dX7_append_50 : decode cX7_append 50 = .ok (.getfield 59, 3) := by decide +kernel
theorem dX7_append_53 : decode cX7_append 53 = .ok (.ireturn, 1) := by decide +kernel
theorem dX7_remove_0 : decode cX7_remove 0 = .ok (.aload_n 0, 1) := by decide +kernel
theorem dX7_remove_1 : decode cX7_remove 1 = .ok (.getfield 18, 3) := by decide +kernel
theorem dX7_remove_4 : decode cX7_remove 4 = .ok (.invokevirtual 35, 3) := by decide +kernel
theorem dX7_remove_7 : decode cX7_remove 7 = .ok (.istore_n 2, 1) := by decide +kernel
theorem dX7_remove_8 : decode cX7_remove 8 = .ok (.aload_n 0, 1) := by decide +kernel
theorem dX7_remove_9 : decode cX7_remove 9 = .ok (.aload_n 1, 1) := by decide +kernel
theorem dX7_remove_10 : decode cX7_remove 10 = .ok (.invokevirtual 63, 3) := by decide +kernel
theorem dX7_remove_13 : decode cX7_remove 13 = .ok (.aload_n 1, 1) := by decide +kernel
theorem dX7_remove_14 : decode cX7_remove 14 = .ok (.iconst 0, 1) := by decide +kernel
theorem dX7_remove_15 : decode cX7_remove 15 = .ok (.invokestatic 67, 3) := by decide +kernel
theorem dX7_remove_18 : decode cX7_remove 18 = .ok (.aload_n 0, 1) := by decide +kernel
theorem dX7_remove_19 : decode cX7_remove 19 = .ok (.invokevirtual 56, 3) := by decide +kernel
theorem dX7_remove_22 : decode cX7_remove 22 = .ok (.iload_n 2, 1) := by decide +kernel
theorem dX7_remove_23 : decode cX7_remove 23 = .ok (.aload_n 0, 1) := by decide +kernel
theorem dX7_remove_24 : decode cX7_remove 24 = .ok (.getfield 18, 3) := by decide +kernel
theorem dX7_remove_27 : decode cX7_remove 27 = .ok (.invokevirtual 35, 3) := by decide +kernel
theorem dX7_remove_30 : decode cX7_remove 30 = .ok (.isub, 1) := by decide +kernel
theorem dX7_remove_31 : decode cX7_remove 31 = .ok (.ireturn, 1) := by decide +kernel
theorem dX7_canMove_0 : decode cX7_canMove 0 = .ok (.aload_n 1, 1) := by decide +kernel
theorem dX7_canMove_1 : decode cX7_canMove 1 = .ok (.getfield 50, 3) := by decide +kernel
theorem dX7_canMove_4 : decode cX7_canMove 4 = .ok (.ifnull 18, 3) := by decide +kernel
theorem dX7_canMove_7 : decode cX7_canMove 7 = .ok (.aload_n 2, 1) := by decide +kernel
theorem dX7_canMove_8 : decode cX7_canMove 8 = .ok (.getfield 71, 3) := by decide +kernel
theorem dX7_canMove_11 : decode cX7_canMove 11 = .ok (.ifCond .ne 11, 3) := by decide +kernel
theorem dX7_canMove_14 : decode cX7_canMove 14 = .ok (.aload_n 2, 1) := by decide +kernel
theorem dX7_canMove_15 : decode cX7_canMove 15 = .ok (.aload_n 1, 1) := by decide +kernel
theorem dX7_canMove_16 : decode cX7_canMove 16 = .ok (.invokevirtual 74, 3) := by decide +kernel
theorem dX7_canMove_19 : decode cX7_canMove 19 = .ok (.ifCond .eq 5, 3) := by decide +kernel
theorem dX7_canMove_22 : decode cX7_canMove 22 = .ok (.iconst 0, 1) := by decide +kernel
theorem dX7_canMove_23 : decode cX7_canMove 23 = .ok (.ireturn, 1) := by decide +kernel
theorem dX7_canMove_24 : decode cX7_canMove 24 = .ok (.aload_n 2, 1) := by decide +kernel
theorem dX7_canMove_25 : decode cX7_canMove 25 = .ok (.getfield 53, 3) := by decide +kernel
theorem dX7_canMove_28 : decode cX7_canMove 28 = .ok (.invokevirtual 35, 3) := by decide +kernel
theorem dX7_canMove_31 : decode cX7_canMove 31 = .ok (.aload_n 1, 1) := by decide +kernel
theorem dX7_canMove_32 : decode cX7_canMove 32 = .ok (.getfield 50, 3) := by decide +kernel
theorem dX7_canMove_35 : decode cX7_canMove 35 = .ok (.aload_n 2, 1) := by decide +kernel
theorem dX7_canMove_36 : decode cX7_canMove 36 = .ok (.if_acmp .ne 7, 3) := by decide +kernel
theorem dX7_canMove_39 : decode cX7_canMove 39 = .ok (.iconst 1, 1) := by decide +kernel
theorem dX7_canMove_40 : decode cX7_canMove 40 = .ok (.goto 4, 3) := by decide +kernel
theorem dX7_canMove_43 : decode cX7_canMove 43 = .ok (.iconst 0, 1) := by decide +kernel
theorem dX7_canMove_44 : decode cX7_canMove 44 = .ok (.isub, 1) := by decide +kernel
theorem dX7_canMove_45 : decode cX7_canMove 45 = .ok (.istore 4, 2) := by decide +kernel
theorem dX7_canMove_47 : decode cX7_canMove 47 = .ok (.iload_n 3, 1) := by decide +kernel
theorem dX7_canMove_48 : decode cX7_canMove 48 = .ok (.ifCond .lt 9, 3) := by decide +kernel
theorem dX7_canMove_51 : decode cX7_canMove 51 = .ok (.iload_n 3, 1) := by decide +kernel
theorem dX7_canMove_52 : decode cX7_canMove 52 = .ok (.iload 4, 2) := by decide +kernel
theorem dX7_canMove_54 : decode cX7_canMove 54 = .ok (.if_icmp .le 5, 3) := by decide +kernel
theorem dX7_canMove_57 : decode cX7_canMove 57 = .ok (.iconst 0, 1) := by decide +kernel
theorem dX7_canMove_58 : decode cX7_canMove 58 = .ok (.ireturn, 1) := by decide +kernel
theorem dX7_canMove_59 : decode cX7_canMove 59 = .ok (.aload_n 2, 1) := by decide +kernel
theorem dX7_canMove_60 : decode cX7_canMove 60 = .ok (.invokevirtual 47, 3) := by decide +kernel
theorem dX7_canMove_63 : decode cX7_canMove 63 = .ok (.iconst 1, 1) := by decide +kernel
theorem dX7_canMove_64 : decode cX7_canMove 64 = .ok (.iadd, 1) := by decide +kernel
theorem dX7_canMove_65 : decode cX7_canMove 65 = .ok (.aload_n 1, 1) := by decide +kernel
theorem dX7_canMove_66 : decode cX7_canMove 66 = .ok (.iconst 0, 1) := by decide +kernel
theorem dX7_canMove_67 : decode cX7_canMove 67 = .ok (.invokestatic 78, 3) := by decide +kernel
theorem dX7_canMove_70 : decode cX7_canMove 70 = .ok (.iadd, 1) := by decide +kernel
theorem dX7_canMove_71 : decode cX7_canMove 71 = .ok (.bipush 10, 2) := by decide +kernel
theorem dX7_canMove_73 : decode cX7_canMove 73 = .ok (.if_icmp .gt 7, 3) := by decide +kernel
theorem dX7_canMove_76 : decode cX7_canMove 76 = .ok (.iconst 1, 1) := by decide +kernel
theorem dX7_canMove_77 : decode cX7_canMove 77 = .ok (.goto 4, 3) := by decide +kernel
theorem dX7_canMove_80 : decode cX7_canMove 80 = .ok (.iconst 0, 1) := by decide +kernel
theorem dX7_canMove_81 : decode cX7_canMove 81 = .ok (.ireturn, 1) := by decide +kernel
theorem dX7_putInto_0 : decode cX7_putInto 0 = .ok (.aload_n 0, 1) := by decide +kernel
theorem dX7_putInto_1 : decode cX7_putInto 1 = .ok (.aload_n 1, 1) := by decide +kernel
theorem dX7_putInto_2 : decode cX7_putInto 2 = .ok (.invokevirtual 63, 3) := by decide +kernel
theorem dX7_putInto_5 : decode cX7_putInto 5 = .ok (.iload_n 3, 1) := by decide +kernel
theorem dX7_putInto_6 : decode cX7_putInto 6 = .ok (.ifCond .lt 28, 3) := by decide +kernel
theorem dX7_putInto_9 : decode cX7_putInto 9 = .ok (.iload_n 3, 1) := by decide +kernel
theorem dX7_putInto_10 : decode cX7_putInto 10 = .ok (.aload_n 2, 1) := by decide +kernel
theorem dX7_putInto_11 : decode cX7_putInto 11 = .ok (.getfield 53, 3) := by decide +kernel
theorem dX7_putInto_14 : decode cX7_putInto 14 = .ok (.invokevirtual 35, 3) := by decide +kernel
theorem dX7_putInto_17 : decode cX7_putInto 17 = .ok (.if_icmp .gt 17, 3) := by decide +kernel
theorem dX7_putInto_20 : decode cX7_putInto 20 = .ok (.aload_n 2, 1) := by decide +kernel
theorem dX7_putInto_21 : decode cX7_putInto 21 = .ok (.getfield 53, 3) := by decide +kernel
theorem dX7_putInto_24 : decode cX7_putInto 24 = .ok (.iload_n 3, 1) := by decide +kernel
theorem dX7_putInto_25 : decode cX7_putInto 25 = .ok (.aload_n 1, 1) := by decide +kernel
theorem dX7_putInto_26 : decode cX7_putInto 26 = .ok (.invokevirtual 82, 3) := by decide +kernel
theorem dX7_putInto_29 : decode cX7_putInto 29 = .ok (.aload_n 1, 1) := by decide +kernel
theorem dX7_putInto_30 : decode cX7_putInto 30 = .ok (.aload_n 2, 1) := by decide +kernel
theorem dX7_putInto_31 : decode cX7_putInto 31 = .ok (.putfield 50, 3) := by decide +kernel
theorem dX7_putInto_34 : decode cX7_putInto 34 = .ok (.aload_n 0, 1) := by decide +kernel
theorem dX7_putInto_35 : decode cX7_putInto 35 = .ok (.invokevirtual 56, 3) := by decide +kernel
theorem dX7_putInto_38 : decode cX7_putInto 38 = .ok (.return_, 1) := by decide +kernel
theorem dX7_detach_0 : decode cX7_detach 0 = .ok (.aload_n 1, 1) := by decide +kernel
theorem dX7_detach_1 : decode cX7_detach 1 = .ok (.invokevirtual 85, 3) := by decide +kernel
theorem dX7_detach_4 : decode cX7_detach 4 = .ok (.istore_n 2, 1) := by decide +kernel
theorem dX7_detach_5 : decode cX7_detach 5 = .ok (.aload_n 1, 1) := by decide +kernel
theorem dX7_detach_6 : decode cX7_detach 6 = .ok (.getfield 50, 3) := by decide +kernel
theorem dX7_detach_9 : decode cX7_detach 9 = .ok (.ifnull 38, 3) := by decide +kernel
theorem dX7_detach_12 : decode cX7_detach 12 = .ok (.iload_n 2, 1) := by decide +kernel
theorem dX7_detach_13 : decode cX7_detach 13 = .ok (.ifCond .lt 34, 3) := by decide +kernel
theorem dX7_detach_16 : decode cX7_detach 16 = .ok (.iload_n 2, 1) := by decide +kernel
theorem dX7_detach_17 : decode cX7_detach 17 = .ok (.aload_n 1, 1) := by decide +kernel
theorem dX7_detach_18 : decode cX7_detach 18 = .ok (.getfield 50, 3) := by decide +kernel
theorem dX7_detach_21 : decode cX7_detach 21 = .ok (.getfield 53, 3) := by decide +kernel
theorem dX7_detach_24 : decode cX7_detach 24 = .ok (.invokevirtual 35, 3) := by decide +kernel
theorem dX7_detach_27 : decode cX7_detach 27 = .ok (.if_icmp .ge 20, 3) := by decide +kernel
theorem dX7_detach_30 : decode cX7_detach 30 = .ok (.aload_n 1, 1) := by decide +kernel
theorem dX7_detach_31 : decode cX7_detach 31 = .ok (.getfield 50, 3) := by decide +kernel
theorem dX7_detach_34 : decode cX7_detach 34 = .ok (.getfield 53, 3) := by decide +kernel
theorem dX7_detach_37 : decode cX7_detach 37 = .ok (.iload_n 2, 1) := by decide +kernel
theorem dX7_detach_38 : decode cX7_detach 38 = .ok (.invokevirtual 88, 3) := by decide +kernel
theorem dX7_detach_41 : decode cX7_detach 41 = .ok (.pop, 1) := by decide +kernel
theorem dX7_detach_42 : decode cX7_detach 42 = .ok (.aload_n 1, 1) := by decide +kernel
theorem dX7_detach_43 : decode cX7_detach 43 = .ok (.aconst_null, 1) := by decide +kernel
theorem dX7_detach_44 : decode cX7_detach 44 = .ok (.putfield 50, 3) := by decide +kernel
theorem dX7_detach_47 : decode cX7_detach 47 = .ok (.return_, 1) := by decide +kernel
theorem dX7_listAnew_0 : decode cX7_listAnew 0 = .ok (.aload_n 0, 1) := by decide +kernel
theorem dX7_listAnew_1 : decode cX7_listAnew 1 = .ok (.getfield 18, 3) := by decide +kernel
theorem dX7_listAnew_4 : decode cX7_listAnew 4 = .ok (.invokevirtual 91, 3) := by decide +kernel
theorem dX7_listAnew_7 : decode cX7_listAnew 7 = .ok (.aload_n 0, 1) := by decide +kernel
theorem dX7_listAnew_8 : decode cX7_listAnew 8 = .ok (.getfield 26, 3) := by decide +kernel
theorem dX7_listAnew_11 : decode cX7_listAnew 11 = .ok (.aload_n 0, 1) := by decide +kernel
theorem dX7_listAnew_12 : decode cX7_listAnew 12 = .ok (.getfield 18, 3) := by decide +kernel
theorem dX7_listAnew_15 : decode cX7_listAnew 15 = .ok (.iconst 0, 1) := by decide +kernel
theorem dX7_listAnew_16 : decode cX7_listAnew 16 = .ok (.invokestatic 94, 3) := by decide +kernel
theorem dX7_listAnew_19 : decode cX7_listAnew 19 = .ok (.return_, 1) := by decide +kernel
theorem dX7_listFrom_0 : decode cX7_listFrom 0 = .ok (.iload_n 2, 1) := by decide +kernel
theorem dX7_listFrom_1 : decode cX7_listFrom 1 = .ok (.bipush 10, 2) := by decide +kernel
theorem dX7_listFrom_3 : decode cX7_listFrom 3 = .ok (.if_icmp .le 4, 3) := by decide +kernel
theorem dX7_listFrom_6 : decode cX7_listFrom 6 = .ok (.return_, 1) := by decide +kernel
theorem dX7_listFrom_7 : decode cX7_listFrom 7 = .ok (.aload_n 1, 1) := by decide +kernel
theorem dX7_listFrom_8 : decode cX7_listFrom 8 = .ok (.aload_n 0, 1) := by decide +kernel
theorem dX7_listFrom_9 : decode cX7_listFrom 9 = .ok (.invokevirtual 31, 3) := by decide +kernel
theorem dX7_listFrom_12 : decode cX7_listFrom 12 = .ok (.pop, 1) := by decide +kernel
theorem dX7_listFrom_13 : decode cX7_listFrom 13 = .ok (.iconst 0, 1) := by decide +kernel
theorem dX7_listFrom_14 : decode cX7_listFrom 14 = .ok (.istore_n 3, 1) := by decide +kernel
theorem dX7_listFrom_15 : decode cX7_listFrom 15 = .ok (.iload_n 3, 1) := by decide +kernel
theorem dX7_listFrom_16 : decode cX7_listFrom 16 = .ok (.aload_n 0, 1) := by decide +kernel
theorem dX7_listFrom_17 : decode cX7_listFrom 17 = .ok (.getfield 53, 3) := by decide +kernel
theorem dX7_listFrom_20 : decode cX7_listFrom 20 = .ok (.invokevirtual 35, 3) := by decide +kernel
theorem dX7_listFrom_23 : decode cX7_listFrom 23 = .ok (.if_icmp .ge 27, 3) := by decide +kernel
theorem dX7_listFrom_26 : decode cX7_listFrom 26 = .ok (.aload_n 0, 1) := by decide +kernel
theorem dX7_listFrom_27 : decode cX7_listFrom 27 = .ok (.getfield 53, 3) := by decide +kernel
theorem dX7_listFrom_30 : decode cX7_listFrom 30 = .ok (.iload_n 3, 1) := by decide +kernel
theorem dX7_listFrom_31 : decode cX7_listFrom 31 = .ok (.invokevirtual 39, 3) := by decide +kernel
theorem dX7_listFrom_34 : decode cX7_listFrom 34 = .ok (.checkcast 21, 3) := by decide +kernel
theorem dX7_listFrom_37 : decode cX7_listFrom 37 = .ok (.aload_n 1, 1) := by decide +kernel
theorem dX7_listFrom_38 : decode cX7_listFrom 38 = .ok (.iload_n 2, 1) := by decide +kernel
theorem dX7_listFrom_39 : decode cX7_listFrom 39 = .ok (.iconst 1, 1) := by decide +kernel
theorem dX7_listFrom_40 : decode cX7_listFrom 40 = .ok (.iadd, 1) := by decide +kernel
theorem dX7_listFrom_41 : decode cX7_listFrom 41 = .ok (.invokestatic 94, 3) := by decide +kernel
theorem dX7_listFrom_44 : decode cX7_listFrom 44 = .ok (.iinc 3 1, 3) := by decide +kernel
theorem dX7_listFrom_47 : decode cX7_listFrom 47 = .ok (.goto (-32), 3) := by decide +kernel
theorem dX7_listFrom_50 : decode cX7_listFrom 50 = .ok (.return_, 1) := by decide +kernel
theorem dX7_markGone_0 : decode cX7_markGone 0 = .ok (.iload_n 1, 1) := by decide +kernel
theorem dX7_markGone_1 : decode cX7_markGone 1 = .ok (.bipush 10, 2) := by decide +kernel
theorem dX7_markGone_3 : decode cX7_markGone 3 = .ok (.if_icmp .le 4, 3) := by decide +kernel
theorem dX7_markGone_6 : decode cX7_markGone 6 = .ok (.return_, 1) := by decide +kernel
theorem dX7_markGone_7 : decode cX7_markGone 7 = .ok (.aload_n 0, 1) := by decide +kernel
theorem dX7_markGone_8 : decode cX7_markGone 8 = .ok (.iconst 1, 1) := by decide +kernel
theorem dX7_markGone_9 : decode cX7_markGone 9 = .ok (.putfield 43, 3) := by decide +kernel
theorem dX7_markGone_12 : decode cX7_markGone 12 = .ok (.iconst 0, 1) := by decide +kernel
theorem dX7_markGone_13 : decode cX7_markGone 13 = .ok (.istore_n 2, 1) := by decide +kernel
theorem dX7_markGone_14 : decode cX7_markGone 14 = .ok (.iload_n 2, 1) := by decide +kernel
theorem dX7_markGone_15 : decode cX7_markGone 15 = .ok (.aload_n 0, 1) := by decide +kernel
theorem dX7_markGone_16 : decode cX7_markGone 16 = .ok (.getfield 53, 3) := by decide +kernel
theorem dX7_markGone_19 : decode cX7_markGone 19 = .ok (.invokevirtual 35, 3) := by decide +kernel
theorem dX7_markGone_22 : decode cX7_markGone 22 = .ok (.if_icmp .ge 26, 3) := by decide +kernel
theorem dX7_markGone_25 : decode cX7_markGone 25 = .ok (.aload_n 0, 1) := by decide +kernel
theorem dX7_markGone_26 : decode cX7_markGone 26 = .ok (.getfield 53, 3) := by decide +kernel
theorem dX7_markGone_29 : decode cX7_markGone 29 = .ok (.iload_n 2, 1) := by decide +kernel
theorem dX7_markGone_30 : decode cX7_markGone 30 = .ok (.invokevirtual 39, 3) := by decide +kernel
theorem dX7_markGone_33 : decode cX7_markGone 33 = .ok (.checkcast 21, 3) := by decide +kernel
theorem dX7_markGone_36 : decode cX7_markGone 36 = .ok (.iload_n 1, 1) := by decide +kernel
theorem dX7_markGone_37 : decode cX7_markGone 37 = .ok (.iconst 1, 1) := by decide +kernel
theorem dX7_markGone_38 : decode cX7_markGone 38 = .ok (.iadd, 1) := by decide +kernel
theorem dX7_markGone_39 : decode cX7_markGone 39 = .ok (.invokestatic 67, 3) := by decide +kernel
theorem dX7_markGone_42 : decode cX7_markGone 42 = .ok (.iinc 2 1, 3) := by decide +kernel
theorem dX7_markGone_45 : decode cX7_markGone 45 = .ok (.goto (-31), 3) := by decide +kernel
theorem dX7_markGone_48 : decode cX7_markGone 48 = .ok (.return_, 1) := by decide +kernel
theorem dX7_levelsBelow_0 : decode cX7_levelsBelow 0 = .ok (.iload_n 1, 1) := by decide +kernel
theorem dX7_levelsBelow_1 : decode cX7_levelsBelow 1 = .ok (.bipush 10, 2) := by decide +kernel
theorem dX7_levelsBelow_3 : decode cX7_levelsBelow 3 = .ok (.if_icmp .le 5, 3) := by decide +kernel
theorem dX7_levelsBelow_6 : decode cX7_levelsBelow 6 = .ok (.iconst 0, 1) := by decide +kernel
theorem dX7_levelsBelow_7 : decode cX7_levelsBelow 7 = .ok (.ireturn, 1) := by decide +kernel
theorem dX7_levelsBelow_8 : decode cX7_levelsBelow 8 = .ok (.iconst 0, 1) := by decide +kernel
theorem dX7_levelsBelow_9 : decode cX7_levelsBelow 9 = .ok (.istore_n 2, 1) := by decide +kernel
theorem dX7_levelsBelow_10 : decode cX7_levelsBelow 10 = .ok (.iconst 0, 1) := by decide +kernel
theorem dX7_levelsBelow_11 : decode cX7_levelsBelow 11 = .ok (.istore_n 3, 1) := by decide +kernel
theorem dX7_levelsBelow_12 : decode cX7_levelsBelow 12 = .ok (.iload_n 3, 1) := by decide +kernel
theorem dX7_levelsBelow_13 : decode cX7_levelsBelow 13 = .ok (.aload_n 0, 1) := by decide +kernel
theorem dX7_levelsBelow_14 : decode cX7_levelsBelow 14 = .ok (.getfield 53, 3) := by decide +kernel
theorem dX7_levelsBelow_17 : decode cX7_levelsBelow 17 = .ok (.invokevirtual 35, 3) := by decide +kernel
theorem dX7_levelsBelow_20 : decode cX7_levelsBelow 20 = .ok (.if_icmp .ge 33, 3) := by decide +kernel
theorem dX7_levelsBelow_23 : decode cX7_levelsBelow 23 = .ok (.iload_n 2, 1) := by decide +kernel
theorem dX7_levelsBelow_24 : decode cX7_levelsBelow 24 = .ok (.iconst 1, 1) := by decide +kernel
theorem dX7_levelsBelow_25 : decode cX7_levelsBelow 25 = .ok (.aload_n 0, 1) := by decide +kernel
theorem dX7_levelsBelow_26 : decode cX7_levelsBelow 26 = .ok (.getfield 53, 3) := by decide +kernel
theorem dX7_levelsBelow_29 : decode cX7_levelsBelow 29 = .ok (.iload_n 3, 1) := by decide +kernel
theorem dX7_levelsBelow_30 : decode cX7_levelsBelow 30 = .ok (.invokevirtual 39, 3) := by decide +kernel
theorem dX7_levelsBelow_33 : decode cX7_levelsBelow 33 = .ok (.checkcast 21, 3) := by decide +kernel
theorem dX7_levelsBelow_36 : decode cX7_levelsBelow 36 = .ok (.iload_n 1, 1) := by decide +kernel
theorem dX7_levelsBelow_37 : decode cX7_levelsBelow 37 = .ok (.iconst 1, 1) := by decide +kernel
theorem dX7_levelsBelow_38 : decode cX7_levelsBelow 38 = .ok (.iadd, 1) := by decide +kernel
theorem dX7_levelsBelow_39 : decode cX7_levelsBelow 39 = .ok (.invokestatic 78, 3) := by decide +kernel
theorem dX7_levelsBelow_42 : decode cX7_levelsBelow 42 = .ok (.iadd, 1) := by decide +kernel
theorem dX7_levelsBelow_43 : decode cX7_levelsBelow 43 = .ok (.invokestatic 98, 3) := by decide +kernel
theorem dX7_levelsBelow_46 : decode cX7_levelsBelow 46 = .ok (.istore_n 2, 1) := by decide +kernel
theorem dX7_levelsBelow_47 : decode cX7_levelsBelow 47 = .ok (.iinc 3 1, 3) := by decide +kernel
theorem dX7_levelsBelow_50 : decode cX7_levelsBelow 50 = .ok (.goto (-38), 3) := by decide +kernel
theorem dX7_levelsBelow_53 : decode cX7_levelsBelow 53 = .ok (.iload_n 2, 1) := by decide +kernel
theorem dX7_levelsBelow_54 : decode cX7_levelsBelow 54 = .ok (.ireturn, 1) := by decide +kernel
theorem dX8_init_0 : decode cX8_init 0 = .ok (.aload_n 0, 1) := by decide +kernel
theorem dX8_init_1 : decode cX8_init 1 = .ok (.invokespecial 3, 3) := by decide +kernel
theorem dX8_init_4 : decode cX8_init 4 = .ok (.aload_n 0, 1) := by decide +kernel
theorem dX8_init_5 : decode cX8_init 5 = .ok (.sipush 800, 3) := by decide +kernel
theorem dX8_init_8 : decode cX8_init 8 = .ok (.anewarray 11, 3) := by decide +kernel
theorem dX8_init_11 : decode cX8_init 11 = .ok (.putfield 13, 3) := by decide +kernel
theorem dX8_init_14 : decode cX8_init 14 = .ok (.aload_n 0, 1) := by decide +kernel
theorem dX8_init_15 : decode cX8_init 15 = .ok (.sipush 800, 3) := by decide +kernel
theorem dX8_init_18 : decode cX8_init 18 = .ok (.newarray .int, 2) := by decide +kernel
theorem dX8_init_20 : decode cX8_init 20 = .ok (.putfield 17, 3) := by decide +kernel
theorem dX8_init_23 : decode cX8_init 23 = .ok (.aload_n 0, 1) := by decide +kernel
theorem dX8_init_24 : decode cX8_init 24 = .ok (.sipush 800, 3) := by decide +kernel
theorem dX8_init_27 : decode cX8_init 27 = .ok (.newarray .int, 2) := by decide +kernel
