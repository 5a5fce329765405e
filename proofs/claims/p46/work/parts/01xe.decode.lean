theorem dX9_hit_13 : decode cX9_hit 13 = .ok (.istore 4, 2) := by decide +kernel
theorem dX9_hit_15 : decode cX9_hit 15 = .ok (.iload 4, 2) := by decide +kernel
theorem dX9_hit_17 : decode cX9_hit 17 = .ok (.aload_n 0, 1) := by decide +kernel
theorem dX9_hit_18 : decode cX9_hit 18 = .ok (.getfield 13, 3) := by decide +kernel
theorem dX9_hit_21 : decode cX9_hit 21 = .ok (.getfield 201, 3) := by decide +kernel
theorem dX9_hit_24 : decode cX9_hit 24 = .ok (.invokevirtual 117, 3) := by decide +kernel
theorem dX9_hit_27 : decode cX9_hit 27 = .ok (.if_icmp .ge 60, 3) := by decide +kernel
theorem dX9_hit_30 : decode cX9_hit 30 = .ok (.aload_n 0, 1) := by decide +kernel
theorem dX9_hit_31 : decode cX9_hit 31 = .ok (.getfield 13, 3) := by decide +kernel
theorem dX9_hit_34 : decode cX9_hit 34 = .ok (.getfield 201, 3) := by decide +kernel
theorem dX9_hit_37 : decode cX9_hit 37 = .ok (.iload 4, 2) := by decide +kernel
theorem dX9_hit_39 : decode cX9_hit 39 = .ok (.invokevirtual 212, 3) := by decide +kernel
theorem dX9_hit_42 : decode cX9_hit 42 = .ok (.checkcast 53, 3) := by decide +kernel
theorem dX9_hit_45 : decode cX9_hit 45 = .ok (.astore 5, 2) := by decide +kernel
theorem dX9_hit_47 : decode cX9_hit 47 = .ok (.aload_n 0, 1) := by decide +kernel
theorem dX9_hit_48 : decode cX9_hit 48 = .ok (.getfield 29, 3) := by decide +kernel
theorem dX9_hit_51 : decode cX9_hit 51 = .ok (.aload 5, 2) := by decide +kernel
theorem dX9_hit_53 : decode cX9_hit 53 = .ok (.iload_n 1, 1) := by decide +kernel
theorem dX9_hit_54 : decode cX9_hit 54 = .ok (.iload_n 2, 1) := by decide +kernel
theorem dX9_hit_55 : decode cX9_hit 55 = .ok (.invokevirtual 276, 3) := by decide +kernel
theorem dX9_hit_58 : decode cX9_hit 58 = .ok (.ifCond .eq 23, 3) := by decide +kernel
theorem dX9_hit_61 : decode cX9_hit 61 = .ok (.aload_n 0, 1) := by decide +kernel
theorem dX9_hit_62 : decode cX9_hit 62 = .ok (.getfield 29, 3) := by decide +kernel
theorem dX9_hit_65 : decode cX9_hit 65 = .ok (.aload 5, 2) := by decide +kernel
theorem dX9_hit_67 : decode cX9_hit 67 = .ok (.iload_n 1, 1) := by decide +kernel
theorem dX9_hit_68 : decode cX9_hit 68 = .ok (.iload_n 2, 1) := by decide +kernel
theorem dX9_hit_69 : decode cX9_hit 69 = .ok (.invokevirtual 280, 3) := by decide +kernel
theorem dX9_hit_72 : decode cX9_hit 72 = .ok (.ifCond .ne 9, 3) := by decide +kernel
theorem dX9_hit_75 : decode cX9_hit 75 = .ok (.aload 5, 2) := by decide +kernel
theorem dX9_hit_77 : decode cX9_hit 77 = .ok (.getfield 207, 3) := by decide +kernel
theorem dX9_hit_80 : decode cX9_hit 80 = .ok (.istore_n 3, 1) := by decide +kernel
theorem dX9_hit_81 : decode cX9_hit 81 = .ok (.iinc 4 1, 3) := by decide +kernel
theorem dX9_hit_84 : decode cX9_hit 84 = .ok (.goto (-69), 3) := by decide +kernel
theorem dX9_hit_87 : decode cX9_hit 87 = .ok (.iload_n 3, 1) := by decide +kernel
theorem dX9_hit_88 : decode cX9_hit 88 = .ok (.ireturn, 1) := by decide +kernel
theorem dX9_seen_0 : decode cX9_seen 0 = .ok (.aload_n 0, 1) := by decide +kernel
theorem dX9_seen_1 : decode cX9_seen 1 = .ok (.iload_n 1, 1) := by decide +kernel
theorem dX9_seen_2 : decode cX9_seen 2 = .ok (.invokevirtual 48, 3) := by decide +kernel
theorem dX9_seen_5 : decode cX9_seen 5 = .ok (.astore_n 2, 1) := by decide +kernel
theorem dX9_seen_6 : decode cX9_seen 6 = .ok (.aload_n 2, 1) := by decide +kernel
theorem dX9_seen_7 : decode cX9_seen 7 = .ok (.getfield 52, 3) := by decide +kernel
theorem dX9_seen_10 : decode cX9_seen 10 = .ok (.ifCond .ne 14, 3) := by decide +kernel
theorem dX9_seen_13 : decode cX9_seen 13 = .ok (.new 58, 3) := by decide +kernel
theorem dX9_seen_16 : decode cX9_seen 16 = .ok (.dup, 1) := by decide +kernel
theorem dX9_seen_17 : decode cX9_seen 17 = .ok (.ldc_w 283, 3) := by decide +kernel
theorem dX9_seen_20 : decode cX9_seen 20 = .ok (.invokespecial 62, 3) := by decide +kernel
theorem dX9_seen_23 : decode cX9_seen 23 = .ok (.athrow, 1) := by decide +kernel
theorem dX9_seen_24 : decode cX9_seen 24 = .ok (.aload_n 0, 1) := by decide +kernel
theorem dX9_seen_25 : decode cX9_seen 25 = .ok (.iload_n 1, 1) := by decide +kernel
theorem dX9_seen_26 : decode cX9_seen 26 = .ok (.aload_n 0, 1) := by decide +kernel
theorem dX9_seen_27 : decode cX9_seen 27 = .ok (.getfield 44, 3) := by decide +kernel
theorem dX9_seen_30 : decode cX9_seen 30 = .ok (.invokevirtual 232, 3) := by decide +kernel
theorem dX9_seen_33 : decode cX9_seen 33 = .ok (.pop, 1) := by decide +kernel
theorem dX9_seen_34 : decode cX9_seen 34 = .ok (.aload_n 0, 1) := by decide +kernel
theorem dX9_seen_35 : decode cX9_seen 35 = .ok (.getfield 29, 3) := by decide +kernel
theorem dX9_seen_38 : decode cX9_seen 38 = .ok (.aload_n 2, 1) := by decide +kernel
theorem dX9_seen_39 : decode cX9_seen 39 = .ok (.invokevirtual 285, 3) := by decide +kernel
theorem dX9_seen_42 : decode cX9_seen 42 = .ok (.ireturn, 1) := by decide +kernel
theorem dX9_meanLine_0 : decode cX9_meanLine 0 = .ok (.aload_n 0, 1) := by decide +kernel
theorem dX9_meanLine_1 : decode cX9_meanLine 1 = .ok (.iconst 0, 1) := by decide +kernel
theorem dX9_meanLine_2 : decode cX9_meanLine 2 = .ok (.aload_n 0, 1) := by decide +kernel
theorem dX9_meanLine_3 : decode cX9_meanLine 3 = .ok (.getfield 44, 3) := by decide +kernel
theorem dX9_meanLine_6 : decode cX9_meanLine 6 = .ok (.invokevirtual 232, 3) := by decide +kernel
theorem dX9_meanLine_9 : decode cX9_meanLine 9 = .ok (.pop, 1) := by decide +kernel
theorem dX9_meanLine_10 : decode cX9_meanLine 10 = .ok (.aload_n 0, 1) := by decide +kernel
theorem dX9_meanLine_11 : decode cX9_meanLine 11 = .ok (.getfield 29, 3) := by decide +kernel
theorem dX9_meanLine_14 : decode cX9_meanLine 14 = .ok (.getfield 288, 3) := by decide +kernel
theorem dX9_meanLine_17 : decode cX9_meanLine 17 = .ok (.ifCond .ne 7, 3) := by decide +kernel
theorem dX9_meanLine_20 : decode cX9_meanLine 20 = .ok (.dconst 0, 1) := by decide +kernel
theorem dX9_meanLine_21 : decode cX9_meanLine 21 = .ok (.goto 20, 3) := by decide +kernel
theorem dX9_meanLine_24 : decode cX9_meanLine 24 = .ok (.aload_n 0, 1) := by decide +kernel
theorem dX9_meanLine_25 : decode cX9_meanLine 25 = .ok (.getfield 29, 3) := by decide +kernel
theorem dX9_meanLine_28 : decode cX9_meanLine 28 = .ok (.getfield 291, 3) := by decide +kernel
theorem dX9_meanLine_31 : decode cX9_meanLine 31 = .ok (.i2d, 1) := by decide +kernel
theorem dX9_meanLine_32 : decode cX9_meanLine 32 = .ok (.aload_n 0, 1) := by decide +kernel
theorem dX9_meanLine_33 : decode cX9_meanLine 33 = .ok (.getfield 29, 3) := by decide +kernel
theorem dX9_meanLine_36 : decode cX9_meanLine 36 = .ok (.getfield 288, 3) := by decide +kernel
theorem dX9_meanLine_39 : decode cX9_meanLine 39 = .ok (.i2d, 1) := by decide +kernel
theorem dX9_meanLine_40 : decode cX9_meanLine 40 = .ok (.ddiv, 1) := by decide +kernel
theorem dX9_meanLine_41 : decode cX9_meanLine 41 = .ok (.dreturn, 1) := by decide +kernel
theorem dX9_heightIn_0 : decode cX9_heightIn 0 = .ok (.iload_n 1, 1) := by decide +kernel
theorem dX9_heightIn_1 : decode cX9_heightIn 1 = .ok (.invokestatic 188, 3) := by decide +kernel
theorem dX9_heightIn_4 : decode cX9_heightIn 4 = .ok (.ifCond .ne 13, 3) := by decide +kernel
theorem dX9_heightIn_7 : decode cX9_heightIn 7 = .ok (.new 58, 3) := by decide +kernel
theorem dX9_heightIn_10 : decode cX9_heightIn 10 = .ok (.dup, 1) := by decide +kernel
theorem dX9_heightIn_11 : decode cX9_heightIn 11 = .ok (.ldc 191, 2) := by decide +kernel
theorem dX9_heightIn_13 : decode cX9_heightIn 13 = .ok (.invokespecial 62, 3) := by decide +kernel
theorem dX9_heightIn_16 : decode cX9_heightIn 16 = .ok (.athrow, 1) := by decide +kernel
theorem dX9_heightIn_17 : decode cX9_heightIn 17 = .ok (.aload_n 0, 1) := by decide +kernel
theorem dX9_heightIn_18 : decode cX9_heightIn 18 = .ok (.iconst 0, 1) := by decide +kernel
theorem dX9_heightIn_19 : decode cX9_heightIn 19 = .ok (.iload_n 1, 1) := by decide +kernel
theorem dX9_heightIn_20 : decode cX9_heightIn 20 = .ok (.invokevirtual 232, 3) := by decide +kernel
theorem dX9_heightIn_23 : decode cX9_heightIn 23 = .ok (.invokevirtual 273, 3) := by decide +kernel
theorem dX9_heightIn_26 : decode cX9_heightIn 26 = .ok (.ireturn, 1) := by decide +kernel
theorem dX9_changedBy_0 : decode cX9_changedBy 0 = .ok (.aload_n 0, 1) := by decide +kernel
theorem dX9_changedBy_1 : decode cX9_changedBy 1 = .ok (.iload_n 1, 1) := by decide +kernel
theorem dX9_changedBy_2 : decode cX9_changedBy 2 = .ok (.invokevirtual 160, 3) := by decide +kernel
theorem dX9_changedBy_5 : decode cX9_changedBy 5 = .ok (.pop, 1) := by decide +kernel
theorem dX9_changedBy_6 : decode cX9_changedBy 6 = .ok (.aload_n 0, 1) := by decide +kernel
theorem dX9_changedBy_7 : decode cX9_changedBy 7 = .ok (.invokevirtual 222, 3) := by decide +kernel
theorem dX9_changedBy_10 : decode cX9_changedBy 10 = .ok (.aload_n 0, 1) := by decide +kernel
theorem dX9_changedBy_11 : decode cX9_changedBy 11 = .ok (.getfield 41, 3) := by decide +kernel
theorem dX9_changedBy_14 : decode cX9_changedBy 14 = .ok (.aload_n 0, 1) := by decide +kernel
theorem dX9_changedBy_15 : decode cX9_changedBy 15 = .ok (.getfield 13, 3) := by decide +kernel
theorem dX9_changedBy_18 : decode cX9_changedBy 18 = .ok (.getfield 201, 3) := by decide +kernel
theorem dX9_changedBy_21 : decode cX9_changedBy 21 = .ok (.aload_n 0, 1) := by decide +kernel
theorem dX9_changedBy_22 : decode cX9_changedBy 22 = .ok (.getfield 22, 3) := by decide +kernel
theorem dX9_changedBy_25 : decode cX9_changedBy 25 = .ok (.iload_n 1, 1) := by decide +kernel
theorem dX9_changedBy_26 : decode cX9_changedBy 26 = .ok (.invokevirtual 294, 3) := by decide +kernel
theorem dX9_changedBy_29 : decode cX9_changedBy 29 = .ok (.iconst 0, 1) := by decide +kernel
theorem dX9_changedBy_30 : decode cX9_changedBy 30 = .ok (.istore_n 2, 1) := by decide +kernel
theorem dX9_changedBy_31 : decode cX9_changedBy 31 = .ok (.iconst 0, 1) := by decide +kernel
theorem dX9_changedBy_32 : decode cX9_changedBy 32 = .ok (.istore_n 3, 1) := by decide +kernel
theorem dX9_changedBy_33 : decode cX9_changedBy 33 = .ok (.iload_n 3, 1) := by decide +kernel
theorem dX9_changedBy_34 : decode cX9_changedBy 34 = .ok (.aload_n 0, 1) := by decide +kernel
theorem dX9_changedBy_35 : decode cX9_changedBy 35 = .ok (.getfield 13, 3) := by decide +kernel
theorem dX9_changedBy_38 : decode cX9_changedBy 38 = .ok (.getfield 201, 3) := by decide +kernel
theorem dX9_changedBy_41 : decode cX9_changedBy 41 = .ok (.invokevirtual 117, 3) := by decide +kernel
theorem dX9_changedBy_44 : decode cX9_changedBy 44 = .ok (.if_icmp .ge 40, 3) := by decide +kernel
theorem dX9_changedBy_47 : decode cX9_changedBy 47 = .ok (.aload_n 0, 1) := by decide +kernel
theorem dX9_changedBy_48 : decode cX9_changedBy 48 = .ok (.getfield 37, 3) := by decide +kernel
theorem dX9_changedBy_51 : decode cX9_changedBy 51 = .ok (.aload_n 0, 1) := by decide +kernel
theorem dX9_changedBy_52 : decode cX9_changedBy 52 = .ok (.getfield 13, 3) := by decide +kernel
theorem dX9_changedBy_55 : decode cX9_changedBy 55 = .ok (.getfield 201, 3) := by decide +kernel
theorem dX9_changedBy_58 : decode cX9_changedBy 58 = .ok (.iload_n 3, 1) := by decide +kernel
theorem dX9_changedBy_59 : decode cX9_changedBy 59 = .ok (.invokevirtual 212, 3) := by decide +kernel
theorem dX9_changedBy_62 : decode cX9_changedBy 62 = .ok (.checkcast 53, 3) := by decide +kernel
theorem dX9_changedBy_65 : decode cX9_changedBy 65 = .ok (.aload_n 0, 1) := by decide +kernel
theorem dX9_changedBy_66 : decode cX9_changedBy 66 = .ok (.getfield 41, 3) := by decide +kernel
theorem dX9_changedBy_69 : decode cX9_changedBy 69 = .ok (.invokevirtual 298, 3) := by decide +kernel
theorem dX9_changedBy_72 : decode cX9_changedBy 72 = .ok (.ifCond .eq 6, 3) := by decide +kernel
theorem dX9_changedBy_75 : decode cX9_changedBy 75 = .ok (.iinc 2 1, 3) := by decide +kernel
theorem dX9_changedBy_78 : decode cX9_changedBy 78 = .ok (.iinc 3 1, 3) := by decide +kernel
theorem dX9_changedBy_81 : decode cX9_changedBy 81 = .ok (.goto (-48), 3) := by decide +kernel
theorem dX9_changedBy_84 : decode cX9_changedBy 84 = .ok (.iload_n 2, 1) := by decide +kernel
theorem dX9_changedBy_85 : decode cX9_changedBy 85 = .ok (.ireturn, 1) := by decide +kernel
theorem dX9_digest_0 : decode cX9_digest 0 = .ok (.ldc2_w 302, 3) := by decide +kernel
theorem dX9_digest_3 : decode cX9_digest 3 = .ok (.lstore_n 1, 1) := by decide +kernel
theorem dX9_digest_4 : decode cX9_digest 4 = .ok (.lload_n 1, 1) := by decide +kernel
theorem dX9_digest_5 : decode cX9_digest 5 = .ok (.ldc2_w 304, 3) := by decide +kernel
theorem dX9_digest_8 : decode cX9_digest 8 = .ok (.lmul, 1) := by decide +kernel
theorem dX9_digest_9 : decode cX9_digest 9 = .ok (.aload_n 0, 1) := by decide +kernel
theorem dX9_digest_10 : decode cX9_digest 10 = .ok (.invokevirtual 306, 3) := by decide +kernel
theorem dX9_digest_13 : decode cX9_digest 13 = .ok (.i2l, 1) := by decide +kernel
theorem dX9_digest_14 : decode cX9_digest 14 = .ok (.ladd, 1) := by decide +kernel
theorem dX9_digest_15 : decode cX9_digest 15 = .ok (.lstore_n 1, 1) := by decide +kernel
theorem dX9_digest_16 : decode cX9_digest 16 = .ok (.lload_n 1, 1) := by decide +kernel
theorem dX9_digest_17 : decode cX9_digest 17 = .ok (.ldc2_w 304, 3) := by decide +kernel
theorem dX9_digest_20 : decode cX9_digest 20 = .ok (.lmul, 1) := by decide +kernel
theorem dX9_digest_21 : decode cX9_digest 21 = .ok (.aload_n 0, 1) := by decide +kernel
theorem dX9_digest_22 : decode cX9_digest 22 = .ok (.invokevirtual 309, 3) := by decide +kernel
theorem dX9_digest_25 : decode cX9_digest 25 = .ok (.i2l, 1) := by decide +kernel
theorem dX9_digest_26 : decode cX9_digest 26 = .ok (.ladd, 1) := by decide +kernel
theorem dX9_digest_27 : decode cX9_digest 27 = .ok (.lstore_n 1, 1) := by decide +kernel
theorem dX9_digest_28 : decode cX9_digest 28 = .ok (.lload_n 1, 1) := by decide +kernel
theorem dX9_digest_29 : decode cX9_digest 29 = .ok (.ldc2_w 304, 3) := by decide +kernel
theorem dX9_digest_32 : decode cX9_digest 32 = .ok (.lmul, 1) := by decide +kernel
theorem dX9_digest_33 : decode cX9_digest 33 = .ok (.aload_n 0, 1) := by decide +kernel
theorem dX9_digest_34 : decode cX9_digest 34 = .ok (.invokevirtual 311, 3) := by decide +kernel
theorem dX9_digest_37 : decode cX9_digest 37 = .ok (.i2l, 1) := by decide +kernel
theorem dX9_digest_38 : decode cX9_digest 38 = .ok (.ladd, 1) := by decide +kernel
theorem dX9_digest_39 : decode cX9_digest 39 = .ok (.lstore_n 1, 1) := by decide +kernel
theorem dX9_digest_40 : decode cX9_digest 40 = .ok (.lload_n 1, 1) := by decide +kernel
theorem dX9_digest_41 : decode cX9_digest 41 = .ok (.ldc2_w 304, 3) := by decide +kernel
theorem dX9_digest_44 : decode cX9_digest 44 = .ok (.lmul, 1) := by decide +kernel
theorem dX9_digest_45 : decode cX9_digest 45 = .ok (.aload_n 0, 1) := by decide +kernel
theorem dX9_digest_46 : decode cX9_digest 46 = .ok (.iconst 0, 1) := by decide +kernel
theorem dX9_digest_47 : decode cX9_digest 47 = .ok (.aload_n 0, 1) := by decide +kernel
theorem dX9_digest_48 : decode cX9_digest 48 = .ok (.getfield 44, 3) := by decide +kernel
theorem dX9_digest_51 : decode cX9_digest 51 = .ok (.invokevirtual 232, 3) := by decide +kernel
theorem dX9_digest_54 : decode cX9_digest 54 = .ok (.invokevirtual 273, 3) := by decide +kernel
theorem dX9_digest_57 : decode cX9_digest 57 = .ok (.i2l, 1) := by decide +kernel
theorem dX9_digest_58 : decode cX9_digest 58 = .ok (.ladd, 1) := by decide +kernel
theorem dX9_digest_59 : decode cX9_digest 59 = .ok (.lstore_n 1, 1) := by decide +kernel
theorem dX9_digest_60 : decode cX9_digest 60 = .ok (.iconst 0, 1) := by decide +kernel
theorem dX9_digest_61 : decode cX9_digest 61 = .ok (.istore_n 3, 1) := by decide +kernel
theorem dX9_digest_62 : decode cX9_digest 62 = .ok (.iload_n 3, 1) := by decide +kernel
theorem dX9_digest_63 : decode cX9_digest 63 = .ok (.aload_n 0, 1) := by decide +kernel
theorem dX9_digest_64 : decode cX9_digest 64 = .ok (.invokevirtual 306, 3) := by decide +kernel
theorem dX9_digest_67 : decode cX9_digest 67 = .ok (.if_icmp .ge 49, 3) := by decide +kernel
theorem dX9_digest_70 : decode cX9_digest 70 = .ok (.aload_n 0, 1) := by decide +kernel
theorem dX9_digest_71 : decode cX9_digest 71 = .ok (.iload_n 3, 1) := by decide +kernel
theorem dX9_digest_72 : decode cX9_digest 72 = .ok (.invokevirtual 314, 3) := by decide +kernel
theorem dX9_digest_75 : decode cX9_digest 75 = .ok (.ifCond .eq 35, 3) := by decide +kernel
theorem dX9_digest_78 : decode cX9_digest 78 = .ok (.aload_n 0, 1) := by decide +kernel
theorem dX9_digest_79 : decode cX9_digest 79 = .ok (.iload_n 3, 1) := by decide +kernel
theorem dX9_digest_80 : decode cX9_digest 80 = .ok (.invokevirtual 48, 3) := by decide +kernel
theorem dX9_digest_83 : decode cX9_digest 83 = .ok (.astore 4, 2) := by decide +kernel
theorem dX9_digest_85 : decode cX9_digest 85 = .ok (.aload_n 0, 1) := by decide +kernel
theorem dX9_digest_86 : decode cX9_digest 86 = .ok (.aload_n 0, 1) := by decide +kernel
theorem dX9_digest_87 : decode cX9_digest 87 = .ok (.aload_n 0, 1) := by decide +kernel
theorem dX9_digest_88 : decode cX9_digest 88 = .ok (.lload_n 1, 1) := by decide +kernel
theorem dX9_digest_89 : decode cX9_digest 89 = .ok (.aload 4, 2) := by decide +kernel
theorem dX9_digest_91 : decode cX9_digest 91 = .ok (.invokevirtual 317, 3) := by decide +kernel
theorem dX9_digest_94 : decode cX9_digest 94 = .ok (.aload 4, 2) := by decide +kernel
theorem dX9_digest_96 : decode cX9_digest 96 = .ok (.invokestatic 321, 3) := by decide +kernel
theorem dX9_digest_99 : decode cX9_digest 99 = .ok (.aload 4, 2) := by decide +kernel
theorem dX9_digest_101 : decode cX9_digest 101 = .ok (.invokevirtual 324, 3) := by decide +kernel
theorem dX9_digest_104 : decode cX9_digest 104 = .ok (.aload 4, 2) := by decide +kernel
theorem dX9_digest_106 : decode cX9_digest 106 = .ok (.invokevirtual 327, 3) := by decide +kernel
theorem dX9_digest_109 : decode cX9_digest 109 = .ok (.lstore_n 1, 1) := by decide +kernel
theorem dX9_digest_110 : decode cX9_digest 110 = .ok (.iinc 3 1, 3) := by decide +kernel
theorem dX9_digest_113 : decode cX9_digest 113 = .ok (.goto (-51), 3) := by decide +kernel
theorem dX9_digest_116 : decode cX9_digest 116 = .ok (.iconst 0, 1) := by decide +kernel
theorem dX9_digest_117 : decode cX9_digest 117 = .ok (.istore_n 3, 1) := by decide +kernel
theorem dX9_digest_118 : decode cX9_digest 118 = .ok (.iload_n 3, 1) := by decide +kernel
theorem dX9_digest_119 : decode cX9_digest 119 = .ok (.aload_n 0, 1) := by decide +kernel
theorem dX9_digest_120 : decode cX9_digest 120 = .ok (.invokevirtual 311, 3) := by decide +kernel
theorem dX9_digest_123 : decode cX9_digest 123 = .ok (.if_icmp .ge 35, 3) := by decide +kernel
theorem dX9_digest_126 : decode cX9_digest 126 = .ok (.lload_n 1, 1) := by decide +kernel
theorem dX9_digest_127 : decode cX9_digest 127 = .ok (.ldc2_w 304, 3) := by decide +kernel
theorem dX9_digest_130 : decode cX9_digest 130 = .ok (.lmul, 1) := by decide +kernel
theorem dX9_digest_131 : decode cX9_digest 131 = .ok (.aload_n 0, 1) := by decide +kernel
theorem dX9_digest_132 : decode cX9_digest 132 = .ok (.iload_n 3, 1) := by decide +kernel
theorem dX9_digest_133 : decode cX9_digest 133 = .ok (.invokevirtual 330, 3) := by decide +kernel
theorem dX9_digest_136 : decode cX9_digest 136 = .ok (.i2l, 1) := by decide +kernel
theorem dX9_digest_137 : decode cX9_digest 137 = .ok (.ladd, 1) := by decide +kernel
theorem dX9_digest_138 : decode cX9_digest 138 = .ok (.lstore_n 1, 1) := by decide +kernel
theorem dX9_digest_139 : decode cX9_digest 139 = .ok (.lload_n 1, 1) := by decide +kernel
theorem dX9_digest_140 : decode cX9_digest 140 = .ok (.ldc2_w 304, 3) := by decide +kernel
theorem dX9_digest_143 : decode cX9_digest 143 = .ok (.lmul, 1) := by decide +kernel
theorem dX9_digest_144 : decode cX9_digest 144 = .ok (.aload_n 0, 1) := by decide +kernel
theorem dX9_digest_145 : decode cX9_digest 145 = .ok (.iload_n 3, 1) := by decide +kernel
theorem dX9_digest_146 : decode cX9_digest 146 = .ok (.invokevirtual 332, 3) := by decide +kernel
theorem dX9_digest_149 : decode cX9_digest 149 = .ok (.i2l, 1) := by decide +kernel
theorem dX9_digest_150 : decode cX9_digest 150 = .ok (.ladd, 1) := by decide +kernel
theorem dX9_digest_151 : decode cX9_digest 151 = .ok (.lstore_n 1, 1) := by decide +kernel
theorem dX9_digest_152 : decode cX9_digest 152 = .ok (.iinc 3 1, 3) := by decide +kernel
theorem dX9_digest_155 : decode cX9_digest 155 = .ok (.goto (-37), 3) := by decide +kernel
theorem dX9_digest_158 : decode cX9_digest 158 = .ok (.lload_n 1, 1) := by decide +kernel
theorem dX9_digest_159 : decode cX9_digest 159 = .ok (.lreturn, 1) := by decide +kernel
theorem dX9_digestOfPlace_0 : decode cX9_digestOfPlace 0 = .ok (.lload_n 1, 1) := by decide +kernel
theorem dX9_digestOfPlace_1 : decode cX9_digestOfPlace 1 = .ok (.lstore 4, 2) := by decide +kernel
theorem dX9_digestOfPlace_3 : decode cX9_digestOfPlace 3 = .ok (.lload 4, 2) := by decide +kernel
theorem dX9_digestOfPlace_5 : decode cX9_digestOfPlace 5 = .ok (.ldc2_w 304, 3) := by decide +kernel
theorem dX9_digestOfPlace_8 : decode cX9_digestOfPlace 8 = .ok (.lmul, 1) := by decide +kernel
theorem dX9_digestOfPlace_9 : decode cX9_digestOfPlace 9 = .ok (.aload_n 3, 1) := by decide +kernel
theorem dX9_digestOfPlace_10 : decode cX9_digestOfPlace 10 = .ok (.getfield 207, 3) := by decide +kernel
theorem dX9_digestOfPlace_13 : decode cX9_digestOfPlace 13 = .ok (.i2l, 1) := by decide +kernel
theorem dX9_digestOfPlace_14 : decode cX9_digestOfPlace 14 = .ok (.ladd, 1) := by decide +kernel
theorem dX9_digestOfPlace_15 : decode cX9_digestOfPlace 15 = .ok (.lstore 4, 2) := by decide +kernel
theorem dX9_digestOfPlace_17 : decode cX9_digestOfPlace 17 = .ok (.lload 4, 2) := by decide +kernel
theorem dX9_digestOfPlace_19 : decode cX9_digestOfPlace 19 = .ok (.ldc2_w 304, 3) := by decide +kernel
theorem dX9_digestOfPlace_22 : decode cX9_digestOfPlace 22 = .ok (.lmul, 1) := by decide +kernel
theorem dX9_digestOfPlace_23 : decode cX9_digestOfPlace 23 = .ok (.aload_n 3, 1) := by decide +kernel
theorem dX9_digestOfPlace_24 : decode cX9_digestOfPlace 24 = .ok (.getfield 52, 3) := by decide +kernel
theorem dX9_digestOfPlace_27 : decode cX9_digestOfPlace 27 = .ok (.ifCond .eq 7, 3) := by decide +kernel
theorem dX9_digestOfPlace_30 : decode cX9_digestOfPlace 30 = .ok (.iconst 1, 1) := by decide +kernel
theorem dX9_digestOfPlace_31 : decode cX9_digestOfPlace 31 = .ok (.goto 4, 3) := by decide +kernel
theorem dX9_digestOfPlace_34 : decode cX9_digestOfPlace 34 = .ok (.iconst 0, 1) := by decide +kernel
theorem dX9_digestOfPlace_35 : decode cX9_digestOfPlace 35 = .ok (.i2l, 1) := by decide +kernel
theorem dX9_digestOfPlace_36 : decode cX9_digestOfPlace 36 = .ok (.ladd, 1) := by decide +kernel
theorem dX9_digestOfPlace_37 : decode cX9_digestOfPlace 37 = .ok (.lstore 4, 2) := by decide +kernel
theorem dX9_digestOfPlace_39 : decode cX9_digestOfPlace 39 = .ok (.lload 4, 2) := by decide +kernel
theorem dX9_digestOfPlace_41 : decode cX9_digestOfPlace 41 = .ok (.ldc2_w 304, 3) := by decide +kernel
theorem dX9_digestOfPlace_44 : decode cX9_digestOfPlace 44 = .ok (.lmul, 1) := by decide +kernel
theorem dX9_digestOfPlace_45 : decode cX9_digestOfPlace 45 = .ok (.aload_n 0, 1) := by decide +kernel
theorem dX9_digestOfPlace_46 : decode cX9_digestOfPlace 46 = .ok (.aload_n 3, 1) := by decide +kernel
theorem dX9_digestOfPlace_47 : decode cX9_digestOfPlace 47 = .ok (.getfield 207, 3) := by decide +kernel
theorem dX9_digestOfPlace_50 : decode cX9_digestOfPlace 50 = .ok (.invokevirtual 335, 3) := by decide +kernel
theorem dX9_digestOfPlace_53 : decode cX9_digestOfPlace 53 = .ok (.i2l, 1) := by decide +kernel
theorem dX9_digestOfPlace_54 : decode cX9_digestOfPlace 54 = .ok (.ladd, 1) := by decide +kernel
theorem dX9_digestOfPlace_55 : decode cX9_digestOfPlace 55 = .ok (.lstore 4, 2) := by decide +kernel
theorem dX9_digestOfPlace_57 : decode cX9_digestOfPlace 57 = .ok (.lload 4, 2) := by decide +kernel
theorem dX9_digestOfPlace_59 : decode cX9_digestOfPlace 59 = .ok (.ldc2_w 304, 3) := by decide +kernel
theorem dX9_digestOfPlace_62 : decode cX9_digestOfPlace 62 = .ok (.lmul, 1) := by decide +kernel
theorem dX9_digestOfPlace_63 : decode cX9_digestOfPlace 63 = .ok (.aload_n 0, 1) := by decide +kernel
theorem dX9_digestOfPlace_64 : decode cX9_digestOfPlace 64 = .ok (.aload_n 3, 1) := by decide +kernel
theorem dX9_digestOfPlace_65 : decode cX9_digestOfPlace 65 = .ok (.getfield 207, 3) := by decide +kernel
theorem dX9_digestOfPlace_68 : decode cX9_digestOfPlace 68 = .ok (.invokevirtual 337, 3) := by decide +kernel
theorem dX9_digestOfPlace_71 : decode cX9_digestOfPlace 71 = .ok (.i2l, 1) := by decide +kernel
theorem dX9_digestOfPlace_72 : decode cX9_digestOfPlace 72 = .ok (.ladd, 1) := by decide +kernel
theorem dX9_digestOfPlace_73 : decode cX9_digestOfPlace 73 = .ok (.lstore 4, 2) := by decide +kernel
theorem dX9_digestOfPlace_75 : decode cX9_digestOfPlace 75 = .ok (.lload 4, 2) := by decide +kernel
theorem dX9_digestOfPlace_77 : decode cX9_digestOfPlace 77 = .ok (.lreturn, 1) := by decide +kernel
theorem dX9_digestOfBox_0 : decode cX9_digestOfBox 0 = .ok (.lload_n 0, 1) := by decide +kernel
theorem dX9_digestOfBox_1 : decode cX9_digestOfBox 1 = .ok (.lstore_n 3, 1) := by decide +kernel
theorem dX9_digestOfBox_2 : decode cX9_digestOfBox 2 = .ok (.lload_n 3, 1) := by decide +kernel
theorem dX9_digestOfBox_3 : decode cX9_digestOfBox 3 = .ok (.ldc2_w 304, 3) := by decide +kernel
theorem dX9_digestOfBox_6 : decode cX9_digestOfBox 6 = .ok (.lmul, 1) := by decide +kernel
theorem dX9_digestOfBox_7 : decode cX9_digestOfBox 7 = .ok (.aload_n 2, 1) := by decide +kernel
theorem dX9_digestOfBox_8 : decode cX9_digestOfBox 8 = .ok (.getfield 339, 3) := by decide +kernel
theorem dX9_digestOfBox_11 : decode cX9_digestOfBox 11 = .ok (.getfield 236, 3) := by decide +kernel
theorem dX9_digestOfBox_14 : decode cX9_digestOfBox 14 = .ok (.i2l, 1) := by decide +kernel
theorem dX9_digestOfBox_15 : decode cX9_digestOfBox 15 = .ok (.ladd, 1) := by decide +kernel
theorem dX9_digestOfBox_16 : decode cX9_digestOfBox 16 = .ok (.lstore_n 3, 1) := by decide +kernel
theorem dX9_digestOfBox_17 : decode cX9_digestOfBox 17 = .ok (.lload_n 3, 1) := by decide +kernel
theorem dX9_digestOfBox_18 : decode cX9_digestOfBox 18 = .ok (.ldc2_w 304, 3) := by decide +kernel
theorem dX9_digestOfBox_21 : decode cX9_digestOfBox 21 = .ok (.lmul, 1) := by decide +kernel
theorem dX9_digestOfBox_22 : decode cX9_digestOfBox 22 = .ok (.aload_n 2, 1) := by decide +kernel
theorem dX9_digestOfBox_23 : decode cX9_digestOfBox 23 = .ok (.getfield 339, 3) := by decide +kernel
theorem dX9_digestOfBox_26 : decode cX9_digestOfBox 26 = .ok (.invokevirtual 241, 3) := by decide +kernel
theorem dX9_digestOfBox_29 : decode cX9_digestOfBox 29 = .ok (.i2l, 1) := by decide +kernel
theorem dX9_digestOfBox_30 : decode cX9_digestOfBox 30 = .ok (.ladd, 1) := by decide +kernel
theorem dX9_digestOfBox_31 : decode cX9_digestOfBox 31 = .ok (.lstore_n 3, 1) := by decide +kernel
theorem dX9_digestOfBox_32 : decode cX9_digestOfBox 32 = .ok (.lload_n 3, 1) := by decide +kernel
theorem dX9_digestOfBox_33 : decode cX9_digestOfBox 33 = .ok (.ldc2_w 304, 3) := by decide +kernel
theorem dX9_digestOfBox_36 : decode cX9_digestOfBox 36 = .ok (.lmul, 1) := by decide +kernel
theorem dX9_digestOfBox_37 : decode cX9_digestOfBox 37 = .ok (.aload_n 2, 1) := by decide +kernel
theorem dX9_digestOfBox_38 : decode cX9_digestOfBox 38 = .ok (.getfield 339, 3) := by decide +kernel
theorem dX9_digestOfBox_41 : decode cX9_digestOfBox 41 = .ok (.invokevirtual 244, 3) := by decide +kernel
theorem dX9_digestOfBox_44 : decode cX9_digestOfBox 44 = .ok (.i2l, 1) := by decide +kernel
theorem dX9_digestOfBox_45 : decode cX9_digestOfBox 45 = .ok (.ladd, 1) := by decide +kernel
theorem dX9_digestOfBox_46 : decode cX9_digestOfBox 46 = .ok (.lstore_n 3, 1) := by decide +kernel
theorem dX9_digestOfBox_47 : decode cX9_digestOfBox 47 = .ok (.lload_n 3, 1) := by decide +kernel
theorem dX9_digestOfBox_48 : decode cX9_digestOfBox 48 = .ok (.ldc2_w 304, 3) := by decide +kernel
theorem dX9_digestOfBox_51 : decode cX9_digestOfBox 51 = .ok (.lmul, 1) := by decide +kernel
theorem dX9_digestOfBox_52 : decode cX9_digestOfBox 52 = .ok (.aload_n 2, 1) := by decide +kernel
theorem dX9_digestOfBox_53 : decode cX9_digestOfBox 53 = .ok (.getfield 339, 3) := by decide +kernel
theorem dX9_digestOfBox_56 : decode cX9_digestOfBox 56 = .ok (.invokevirtual 247, 3) := by decide +kernel
theorem dX9_digestOfBox_59 : decode cX9_digestOfBox 59 = .ok (.i2l, 1) := by decide +kernel
theorem dX9_digestOfBox_60 : decode cX9_digestOfBox 60 = .ok (.ladd, 1) := by decide +kernel
theorem dX9_digestOfBox_61 : decode cX9_digestOfBox 61 = .ok (.lstore_n 3, 1) := by decide +kernel
theorem dX9_digestOfBox_62 : decode cX9_digestOfBox 62 = .ok (.lload_n 3, 1) := by decide +kernel
theorem dX9_digestOfBox_63 : decode cX9_digestOfBox 63 = .ok (.ldc2_w 304, 3) := by decide +kernel
theorem dX9_digestOfBox_66 : decode cX9_digestOfBox 66 = .ok (.lmul, 1) := by decide +kernel
theorem dX9_digestOfBox_67 : decode cX9_digestOfBox 67 = .ok (.aload_n 2, 1) := by decide +kernel
theorem dX9_digestOfBox_68 : decode cX9_digestOfBox 68 = .ok (.getfield 339, 3) := by decide +kernel
theorem dX9_digestOfBox_71 : decode cX9_digestOfBox 71 = .ok (.invokevirtual 250, 3) := by decide +kernel
theorem dX9_digestOfBox_74 : decode cX9_digestOfBox 74 = .ok (.i2l, 1) := by decide +kernel
theorem dX9_digestOfBox_75 : decode cX9_digestOfBox 75 = .ok (.ladd, 1) := by decide +kernel
theorem dX9_digestOfBox_76 : decode cX9_digestOfBox 76 = .ok (.lstore_n 3, 1) := by decide +kernel
theorem dX9_digestOfBox_77 : decode cX9_digestOfBox 77 = .ok (.lload_n 3, 1) := by decide +kernel
theorem dX9_digestOfBox_78 : decode cX9_digestOfBox 78 = .ok (.ldc2_w 304, 3) := by decide +kernel
theorem dX9_digestOfBox_81 : decode cX9_digestOfBox 81 = .ok (.lmul, 1) := by decide +kernel
theorem dX9_digestOfBox_82 : decode cX9_digestOfBox 82 = .ok (.aload_n 2, 1) := by decide +kernel
theorem dX9_digestOfBox_83 : decode cX9_digestOfBox 83 = .ok (.getfield 339, 3) := by decide +kernel
theorem dX9_digestOfBox_86 : decode cX9_digestOfBox 86 = .ok (.invokevirtual 253, 3) := by decide +kernel
theorem dX9_digestOfBox_89 : decode cX9_digestOfBox 89 = .ok (.i2l, 1) := by decide +kernel
theorem dX9_digestOfBox_90 : decode cX9_digestOfBox 90 = .ok (.ladd, 1) := by decide +kernel
theorem dX9_digestOfBox_91 : decode cX9_digestOfBox 91 = .ok (.lstore_n 3, 1) := by decide +kernel
theorem dX9_digestOfBox_92 : decode cX9_digestOfBox 92 = .ok (.lload_n 3, 1) := by decide +kernel
theorem dX9_digestOfBox_93 : decode cX9_digestOfBox 93 = .ok (.ldc2_w 304, 3) := by decide +kernel
theorem dX9_digestOfBox_96 : decode cX9_digestOfBox 96 = .ok (.lmul, 1) := by decide +kernel
theorem dX9_digestOfBox_97 : decode cX9_digestOfBox 97 = .ok (.aload_n 2, 1) := by decide +kernel
theorem dX9_digestOfBox_98 : decode cX9_digestOfBox 98 = .ok (.getfield 339, 3) := by decide +kernel
theorem dX9_digestOfBox_101 : decode cX9_digestOfBox 101 = .ok (.getfield 256, 3) := by decide +kernel
theorem dX9_digestOfBox_104 : decode cX9_digestOfBox 104 = .ok (.i2l, 1) := by decide +kernel
theorem dX9_digestOfBox_105 : decode cX9_digestOfBox 105 = .ok (.ladd, 1) := by decide +kernel
theorem dX9_digestOfBox_106 : decode cX9_digestOfBox 106 = .ok (.lstore_n 3, 1) := by decide +kernel
theorem dX9_digestOfBox_107 : decode cX9_digestOfBox 107 = .ok (.lload_n 3, 1) := by decide +kernel
theorem dX9_digestOfBox_108 : decode cX9_digestOfBox 108 = .ok (.ldc2_w 304, 3) := by decide +kernel
theorem dX9_digestOfBox_111 : decode cX9_digestOfBox 111 = .ok (.lmul, 1) := by decide +kernel
theorem dX9_digestOfBox_112 : decode cX9_digestOfBox 112 = .ok (.aload_n 2, 1) := by decide +kernel
theorem dX9_digestOfBox_113 : decode cX9_digestOfBox 113 = .ok (.getfield 339, 3) := by decide +kernel
theorem dX9_digestOfBox_116 : decode cX9_digestOfBox 116 = .ok (.invokevirtual 259, 3) := by decide +kernel
theorem dX9_digestOfBox_119 : decode cX9_digestOfBox 119 = .ok (.i2l, 1) := by decide +kernel
theorem dX9_digestOfBox_120 : decode cX9_digestOfBox 120 = .ok (.ladd, 1) := by decide +kernel
theorem dX9_digestOfBox_121 : decode cX9_digestOfBox 121 = .ok (.lstore_n 3, 1) := by decide +kernel
theorem dX9_digestOfBox_122 : decode cX9_digestOfBox 122 = .ok (.lload_n 3, 1) := by decide +kernel
theorem dX9_digestOfBox_123 : decode cX9_digestOfBox 123 = .ok (.lreturn, 1) := by decide +kernel
theorem dX9_digestOfStyles_0 : decode cX9_digestOfStyles 0 = .ok (.lload_n 1, 1) := by decide +kernel
theorem dX9_digestOfStyles_1 : decode cX9_digestOfStyles 1 = .ok (.lstore 4, 2) := by decide +kernel
theorem dX9_digestOfStyles_3 : decode cX9_digestOfStyles 3 = .ok (.iconst 0, 1) := by decide +kernel
theorem dX9_digestOfStyles_4 : decode cX9_digestOfStyles 4 = .ok (.istore 6, 2) := by decide +kernel
theorem dX9_digestOfStyles_6 : decode cX9_digestOfStyles 6 = .ok (.iload 6, 2) := by decide +kernel
theorem dX9_digestOfStyles_8 : decode cX9_digestOfStyles 8 = .ok (.bipush 14, 2) := by decide +kernel
theorem dX9_digestOfStyles_10 : decode cX9_digestOfStyles 10 = .ok (.if_icmp .ge 29, 3) := by decide +kernel
theorem dX9_digestOfStyles_13 : decode cX9_digestOfStyles 13 = .ok (.lload 4, 2) := by decide +kernel
theorem dX9_digestOfStyles_15 : decode cX9_digestOfStyles 15 = .ok (.ldc2_w 304, 3) := by decide +kernel
theorem dX9_digestOfStyles_18 : decode cX9_digestOfStyles 18 = .ok (.lmul, 1) := by decide +kernel
theorem dX9_digestOfStyles_19 : decode cX9_digestOfStyles 19 = .ok (.aload_n 0, 1) := by decide +kernel
theorem dX9_digestOfStyles_20 : decode cX9_digestOfStyles 20 = .ok (.getfield 37, 3) := by decide +kernel
theorem dX9_digestOfStyles_23 : decode cX9_digestOfStyles 23 = .ok (.aload_n 3, 1) := by decide +kernel
theorem dX9_digestOfStyles_24 : decode cX9_digestOfStyles 24 = .ok (.iload 6, 2) := by decide +kernel
theorem dX9_digestOfStyles_26 : decode cX9_digestOfStyles 26 = .ok (.invokevirtual 225, 3) := by decide +kernel
theorem dX9_digestOfStyles_29 : decode cX9_digestOfStyles 29 = .ok (.i2l, 1) := by decide +kernel
theorem dX9_digestOfStyles_30 : decode cX9_digestOfStyles 30 = .ok (.ladd, 1) := by decide +kernel
theorem dX9_digestOfStyles_31 : decode cX9_digestOfStyles 31 = .ok (.lstore 4, 2) := by decide +kernel
theorem dX9_digestOfStyles_33 : decode cX9_digestOfStyles 33 = .ok (.iinc 6 1, 3) := by decide +kernel
theorem dX9_digestOfStyles_36 : decode cX9_digestOfStyles 36 = .ok (.goto (-30), 3) := by decide +kernel
theorem dX9_digestOfStyles_39 : decode cX9_digestOfStyles 39 = .ok (.lload 4, 2) := by decide +kernel
theorem dX9_digestOfStyles_41 : decode cX9_digestOfStyles 41 = .ok (.lreturn, 1) := by decide +kernel
theorem dX9_digestOfWords_0 : decode cX9_digestOfWords 0 = .ok (.aload_n 3, 1) := by decide +kernel
theorem dX9_digestOfWords_1 : decode cX9_digestOfWords 1 = .ok (.getfield 52, 3) := by decide +kernel
theorem dX9_digestOfWords_4 : decode cX9_digestOfWords 4 = .ok (.ifCond .ne 5, 3) := by decide +kernel
theorem dX9_digestOfWords_7 : decode cX9_digestOfWords 7 = .ok (.lload_n 1, 1) := by decide +kernel
theorem dX9_digestOfWords_8 : decode cX9_digestOfWords 8 = .ok (.lreturn, 1) := by decide +kernel
theorem dX9_digestOfWords_9 : decode cX9_digestOfWords 9 = .ok (.lload_n 1, 1) := by decide +kernel
theorem dX9_digestOfWords_10 : decode cX9_digestOfWords 10 = .ok (.lstore 4, 2) := by decide +kernel
theorem dX9_digestOfWords_12 : decode cX9_digestOfWords 12 = .ok (.iconst 0, 1) := by decide +kernel
theorem dX9_digestOfWords_13 : decode cX9_digestOfWords 13 = .ok (.istore 6, 2) := by decide +kernel
theorem dX9_digestOfWords_15 : decode cX9_digestOfWords 15 = .ok (.iload 6, 2) := by decide +kernel
theorem dX9_digestOfWords_17 : decode cX9_digestOfWords 17 = .ok (.aload_n 3, 1) := by decide +kernel
theorem dX9_digestOfWords_18 : decode cX9_digestOfWords 18 = .ok (.getfield 85, 3) := by decide +kernel
theorem dX9_digestOfWords_21 : decode cX9_digestOfWords 21 = .ok (.if_icmp .ge 47, 3) := by decide +kernel
theorem dX9_digestOfWords_24 : decode cX9_digestOfWords 24 = .ok (.lload 4, 2) := by decide +kernel
theorem dX9_digestOfWords_26 : decode cX9_digestOfWords 26 = .ok (.ldc2_w 304, 3) := by decide +kernel
theorem dX9_digestOfWords_29 : decode cX9_digestOfWords 29 = .ok (.lmul, 1) := by decide +kernel
theorem dX9_digestOfWords_30 : decode cX9_digestOfWords 30 = .ok (.aload_n 3, 1) := by decide +kernel
theorem dX9_digestOfWords_31 : decode cX9_digestOfWords 31 = .ok (.getfield 339, 3) := by decide +kernel
theorem dX9_digestOfWords_34 : decode cX9_digestOfWords 34 = .ok (.iload 6, 2) := by decide +kernel
theorem dX9_digestOfWords_36 : decode cX9_digestOfWords 36 = .ok (.invokevirtual 267, 3) := by decide +kernel
theorem dX9_digestOfWords_39 : decode cX9_digestOfWords 39 = .ok (.i2l, 1) := by decide +kernel
theorem dX9_digestOfWords_40 : decode cX9_digestOfWords 40 = .ok (.ladd, 1) := by decide +kernel
theorem dX9_digestOfWords_41 : decode cX9_digestOfWords 41 = .ok (.lstore 4, 2) := by decide +kernel
theorem dX9_digestOfWords_43 : decode cX9_digestOfWords 43 = .ok (.lload 4, 2) := by decide +kernel
theorem dX9_digestOfWords_45 : decode cX9_digestOfWords 45 = .ok (.ldc2_w 304, 3) := by decide +kernel
theorem dX9_digestOfWords_48 : decode cX9_digestOfWords 48 = .ok (.lmul, 1) := by decide +kernel
theorem dX9_digestOfWords_49 : decode cX9_digestOfWords 49 = .ok (.aload_n 3, 1) := by decide +kernel
theorem dX9_digestOfWords_50 : decode cX9_digestOfWords 50 = .ok (.getfield 339, 3) := by decide +kernel
theorem dX9_digestOfWords_53 : decode cX9_digestOfWords 53 = .ok (.iload 6, 2) := by decide +kernel
theorem dX9_digestOfWords_55 : decode cX9_digestOfWords 55 = .ok (.invokevirtual 270, 3) := by decide +kernel
theorem dX9_digestOfWords_58 : decode cX9_digestOfWords 58 = .ok (.i2l, 1) := by decide +kernel
theorem dX9_digestOfWords_59 : decode cX9_digestOfWords 59 = .ok (.ladd, 1) := by decide +kernel
theorem dX9_digestOfWords_60 : decode cX9_digestOfWords 60 = .ok (.lstore 4, 2) := by decide +kernel
theorem dX9_digestOfWords_62 : decode cX9_digestOfWords 62 = .ok (.iinc 6 1, 3) := by decide +kernel
theorem dX9_digestOfWords_65 : decode cX9_digestOfWords 65 = .ok (.goto (-50), 3) := by decide +kernel
theorem dX9_digestOfWords_68 : decode cX9_digestOfWords 68 = .ok (.lload 4, 2) := by decide +kernel
theorem dX9_digestOfWords_70 : decode cX9_digestOfWords 70 = .ok (.ldc2_w 304, 3) := by decide +kernel
theorem dX9_digestOfWords_73 : decode cX9_digestOfWords 73 = .ok (.lmul, 1) := by decide +kernel
theorem dX9_digestOfWords_74 : decode cX9_digestOfWords 74 = .ok (.aload_n 0, 1) := by decide +kernel
theorem dX9_digestOfWords_75 : decode cX9_digestOfWords 75 = .ok (.getfield 29, 3) := by decide +kernel
theorem dX9_digestOfWords_78 : decode cX9_digestOfWords 78 = .ok (.aload_n 3, 1) := by decide +kernel
theorem dX9_digestOfWords_79 : decode cX9_digestOfWords 79 = .ok (.invokevirtual 285, 3) := by decide +kernel
theorem dX9_digestOfWords_82 : decode cX9_digestOfWords 82 = .ok (.i2l, 1) := by decide +kernel
theorem dX9_digestOfWords_83 : decode cX9_digestOfWords 83 = .ok (.ladd, 1) := by decide +kernel
theorem dX9_digestOfWords_84 : decode cX9_digestOfWords 84 = .ok (.lreturn, 1) := by decide +kernel
theorem dX9_nodeAt_0 : decode cX9_nodeAt 0 = .ok (.aload_n 0, 1) := by decide +kernel
theorem dX9_nodeAt_1 : decode cX9_nodeAt 1 = .ok (.getfield 13, 3) := by decide +kernel
theorem dX9_nodeAt_4 : decode cX9_nodeAt 4 = .ok (.iload_n 1, 1) := by decide +kernel
theorem dX9_nodeAt_5 : decode cX9_nodeAt 5 = .ok (.invokevirtual 204, 3) := by decide +kernel
theorem dX9_nodeAt_8 : decode cX9_nodeAt 8 = .ok (.ifCond .ne 14, 3) := by decide +kernel
theorem dX9_nodeAt_11 : decode cX9_nodeAt 11 = .ok (.new 138, 3) := by decide +kernel
theorem dX9_nodeAt_14 : decode cX9_nodeAt 14 = .ok (.dup, 1) := by decide +kernel
theorem dX9_nodeAt_15 : decode cX9_nodeAt 15 = .ok (.ldc_w 343, 3) := by decide +kernel
theorem dX9_nodeAt_18 : decode cX9_nodeAt 18 = .ok (.invokespecial 142, 3) := by decide +kernel
theorem dX9_nodeAt_21 : decode cX9_nodeAt 21 = .ok (.athrow, 1) := by decide +kernel
theorem dX9_nodeAt_22 : decode cX9_nodeAt 22 = .ok (.aload_n 0, 1) := by decide +kernel
theorem dX9_nodeAt_23 : decode cX9_nodeAt 23 = .ok (.getfield 13, 3) := by decide +kernel
theorem dX9_nodeAt_26 : decode cX9_nodeAt 26 = .ok (.getfield 198, 3) := by decide +kernel
theorem dX9_nodeAt_29 : decode cX9_nodeAt 29 = .ok (.iload_n 1, 1) := by decide +kernel
theorem dX9_nodeAt_30 : decode cX9_nodeAt 30 = .ok (.invokevirtual 212, 3) := by decide +kernel
theorem dX9_nodeAt_33 : decode cX9_nodeAt 33 = .ok (.checkcast 53, 3) := by decide +kernel
theorem dX9_nodeAt_36 : decode cX9_nodeAt 36 = .ok (.areturn, 1) := by decide +kernel
theorem dX9_ruleAt_0 : decode cX9_ruleAt 0 = .ok (.iload_n 1, 1) := by decide +kernel
theorem dX9_ruleAt_1 : decode cX9_ruleAt 1 = .ok (.ifCond .lt 14, 3) := by decide +kernel
theorem dX9_ruleAt_4 : decode cX9_ruleAt 4 = .ok (.iload_n 1, 1) := by decide +kernel
theorem dX9_ruleAt_5 : decode cX9_ruleAt 5 = .ok (.aload_n 0, 1) := by decide +kernel
theorem dX9_ruleAt_6 : decode cX9_ruleAt 6 = .ok (.getfield 22, 3) := by decide +kernel
theorem dX9_ruleAt_9 : decode cX9_ruleAt 9 = .ok (.invokevirtual 117, 3) := by decide +kernel
theorem dX9_ruleAt_12 : decode cX9_ruleAt 12 = .ok (.if_icmp .lt 14, 3) := by decide +kernel
theorem dX9_ruleAt_15 : decode cX9_ruleAt 15 = .ok (.new 138, 3) := by decide +kernel
theorem dX9_ruleAt_18 : decode cX9_ruleAt 18 = .ok (.dup, 1) := by decide +kernel
theorem dX9_ruleAt_19 : decode cX9_ruleAt 19 = .ok (.ldc_w 345, 3) := by decide +kernel
theorem dX9_ruleAt_22 : decode cX9_ruleAt 22 = .ok (.invokespecial 142, 3) := by decide +kernel
theorem dX9_ruleAt_25 : decode cX9_ruleAt 25 = .ok (.athrow, 1) := by decide +kernel
theorem dX9_ruleAt_26 : decode cX9_ruleAt 26 = .ok (.aload_n 0, 1) := by decide +kernel
theorem dX9_ruleAt_27 : decode cX9_ruleAt 27 = .ok (.getfield 22, 3) := by decide +kernel
theorem dX9_ruleAt_30 : decode cX9_ruleAt 30 = .ok (.iload_n 1, 1) := by decide +kernel
theorem dX9_ruleAt_31 : decode cX9_ruleAt 31 = .ok (.invokevirtual 212, 3) := by decide +kernel
theorem dX9_ruleAt_34 : decode cX9_ruleAt 34 = .ok (.checkcast 151, 3) := by decide +kernel
theorem dX9_ruleAt_37 : decode cX9_ruleAt 37 = .ok (.areturn, 1) := by decide +kernel
theorem dX9_forgetWhatWasWorkedOut_0 : decode cX9_forgetWhatWasWorkedOut 0 = .ok (.aload_n 0, 1) := by decide +kernel
theorem dX9_forgetWhatWasWorkedOut_1 : decode cX9_forgetWhatWasWorkedOut 1 = .ok (.getfield 37, 3) := by decide +kernel
theorem dX9_forgetWhatWasWorkedOut_4 : decode cX9_forgetWhatWasWorkedOut 4 = .ok (.iconst 0, 1) := by decide +kernel
theorem dX9_forgetWhatWasWorkedOut_5 : decode cX9_forgetWhatWasWorkedOut 5 = .ok (.putfield 347, 3) := by decide +kernel
theorem dX9_forgetWhatWasWorkedOut_8 : decode cX9_forgetWhatWasWorkedOut 8 = .ok (.aload_n 0, 1) := by decide +kernel
theorem dX9_forgetWhatWasWorkedOut_9 : decode cX9_forgetWhatWasWorkedOut 9 = .ok (.getfield 29, 3) := by decide +kernel
theorem dX9_forgetWhatWasWorkedOut_12 : decode cX9_forgetWhatWasWorkedOut 12 = .ok (.iconst 0, 1) := by decide +kernel
theorem dX9_forgetWhatWasWorkedOut_13 : decode cX9_forgetWhatWasWorkedOut 13 = .ok (.putfield 350, 3) := by decide +kernel
theorem dX9_forgetWhatWasWorkedOut_16 : decode cX9_forgetWhatWasWorkedOut 16 = .ok (.return_, 1) := by decide +kernel
theorem dX9_freshenStyles_0 : decode cX9_freshenStyles 0 = .ok (.aload_n 0, 1) := by decide +kernel
theorem dX9_freshenStyles_1 : decode cX9_freshenStyles 1 = .ok (.getfield 37, 3) := by decide +kernel
theorem dX9_freshenStyles_4 : decode cX9_freshenStyles 4 = .ok (.getfield 347, 3) := by decide +kernel
theorem dX9_freshenStyles_7 : decode cX9_freshenStyles 7 = .ok (.ifCond .ne 22, 3) := by decide +kernel
theorem dX9_freshenStyles_10 : decode cX9_freshenStyles 10 = .ok (.aload_n 0, 1) := by decide +kernel
theorem dX9_freshenStyles_11 : decode cX9_freshenStyles 11 = .ok (.getfield 37, 3) := by decide +kernel
theorem dX9_freshenStyles_14 : decode cX9_freshenStyles 14 = .ok (.aload_n 0, 1) := by decide +kernel
theorem dX9_freshenStyles_15 : decode cX9_freshenStyles 15 = .ok (.getfield 13, 3) := by decide +kernel
theorem dX9_freshenStyles_18 : decode cX9_freshenStyles 18 = .ok (.getfield 201, 3) := by decide +kernel
theorem dX9_freshenStyles_21 : decode cX9_freshenStyles 21 = .ok (.aload_n 0, 1) := by decide +kernel
theorem dX9_freshenStyles_22 : decode cX9_freshenStyles 22 = .ok (.getfield 22, 3) := by decide +kernel
theorem dX9_freshenStyles_25 : decode cX9_freshenStyles 25 = .ok (.iconst (-1), 1) := by decide +kernel
theorem dX9_freshenStyles_26 : decode cX9_freshenStyles 26 = .ok (.invokevirtual 294, 3) := by decide +kernel
theorem dX9_freshenStyles_29 : decode cX9_freshenStyles 29 = .ok (.return_, 1) := by decide +kernel
theorem dX9_laidOut_0 : decode cX9_laidOut 0 = .ok (.aload_n 0, 1) := by decide +kernel
theorem dX9_laidOut_1 : decode cX9_laidOut 1 = .ok (.iload_n 1, 1) := by decide +kernel
theorem dX9_laidOut_2 : decode cX9_laidOut 2 = .ok (.invokevirtual 48, 3) := by decide +kernel
theorem dX9_laidOut_5 : decode cX9_laidOut 5 = .ok (.astore_n 3, 1) := by decide +kernel
theorem dX9_laidOut_6 : decode cX9_laidOut 6 = .ok (.aload_n 0, 1) := by decide +kernel
theorem dX9_laidOut_7 : decode cX9_laidOut 7 = .ok (.invokevirtual 222, 3) := by decide +kernel
theorem dX9_laidOut_10 : decode cX9_laidOut 10 = .ok (.aload_n 0, 1) := by decide +kernel
theorem dX9_laidOut_11 : decode cX9_laidOut 11 = .ok (.getfield 29, 3) := by decide +kernel
theorem dX9_laidOut_14 : decode cX9_laidOut 14 = .ok (.getfield 350, 3) := by decide +kernel
theorem dX9_laidOut_17 : decode cX9_laidOut 17 = .ok (.iload_n 2, 1) := by decide +kernel
theorem dX9_laidOut_18 : decode cX9_laidOut 18 = .ok (.if_icmp .eq 15, 3) := by decide +kernel
theorem dX9_laidOut_21 : decode cX9_laidOut 21 = .ok (.aload_n 0, 1) := by decide +kernel
theorem dX9_laidOut_22 : decode cX9_laidOut 22 = .ok (.getfield 29, 3) := by decide +kernel
theorem dX9_laidOut_25 : decode cX9_laidOut 25 = .ok (.aload_n 0, 1) := by decide +kernel
theorem dX9_laidOut_26 : decode cX9_laidOut 26 = .ok (.getfield 13, 3) := by decide +kernel
theorem dX9_laidOut_29 : decode cX9_laidOut 29 = .ok (.iload_n 2, 1) := by decide +kernel
theorem dX9_laidOut_30 : decode cX9_laidOut 30 = .ok (.invokevirtual 353, 3) := by decide +kernel
theorem dX9_laidOut_33 : decode cX9_laidOut 33 = .ok (.aload_n 3, 1) := by decide +kernel
theorem dX9_laidOut_34 : decode cX9_laidOut 34 = .ok (.getfield 339, 3) := by decide +kernel
theorem dX9_laidOut_37 : decode cX9_laidOut 37 = .ok (.areturn, 1) := by decide +kernel
theorem dX9_isProperty_0 : decode cX9_isProperty 0 = .ok (.iload_n 0, 1) := by decide +kernel
theorem dX9_isProperty_1 : decode cX9_isProperty 1 = .ok (.ifCond .lt 13, 3) := by decide +kernel
theorem dX9_isProperty_4 : decode cX9_isProperty 4 = .ok (.iload_n 0, 1) := by decide +kernel
theorem dX9_isProperty_5 : decode cX9_isProperty 5 = .ok (.bipush 14, 2) := by decide +kernel
theorem dX9_isProperty_7 : decode cX9_isProperty 7 = .ok (.if_icmp .ge 7, 3) := by decide +kernel
theorem dX9_isProperty_10 : decode cX9_isProperty 10 = .ok (.iconst 1, 1) := by decide +kernel
theorem dX9_isProperty_11 : decode cX9_isProperty 11 = .ok (.goto 4, 3) := by decide +kernel
theorem dX9_isProperty_14 : decode cX9_isProperty 14 = .ok (.iconst 0, 1) := by decide +kernel
theorem dX9_isProperty_15 : decode cX9_isProperty 15 = .ok (.ireturn, 1) := by decide +kernel
theorem dX9_isValueOf_0 : decode cX9_isValueOf 0 = .ok (.iload_n 0, 1) := by decide +kernel
theorem dX9_isValueOf_1 : decode cX9_isValueOf 1 = .ok (.invokestatic 135, 3) := by decide +kernel
theorem dX9_isValueOf_4 : decode cX9_isValueOf 4 = .ok (.ifCond .eq 25, 3) := by decide +kernel
theorem dX9_isValueOf_7 : decode cX9_isValueOf 7 = .ok (.iload_n 1, 1) := by decide +kernel
theorem dX9_isValueOf_8 : decode cX9_isValueOf 8 = .ok (.getstatic 357, 3) := by decide +kernel
theorem dX9_isValueOf_11 : decode cX9_isValueOf 11 = .ok (.iload_n 0, 1) := by decide +kernel
theorem dX9_isValueOf_12 : decode cX9_isValueOf 12 = .ok (.iaload, 1) := by decide +kernel
theorem dX9_isValueOf_13 : decode cX9_isValueOf 13 = .ok (.if_icmp .lt 16, 3) := by decide +kernel
theorem dX9_isValueOf_16 : decode cX9_isValueOf 16 = .ok (.iload_n 1, 1) := by decide +kernel
theorem dX9_isValueOf_17 : decode cX9_isValueOf 17 = .ok (.getstatic 360, 3) := by decide +kernel
theorem dX9_isValueOf_20 : decode cX9_isValueOf 20 = .ok (.iload_n 0, 1) := by decide +kernel
theorem dX9_isValueOf_21 : decode cX9_isValueOf 21 = .ok (.iaload, 1) := by decide +kernel
theorem dX9_isValueOf_22 : decode cX9_isValueOf 22 = .ok (.if_icmp .gt 7, 3) := by decide +kernel
theorem dX9_isValueOf_25 : decode cX9_isValueOf 25 = .ok (.iconst 1, 1) := by decide +kernel
theorem dX9_isValueOf_26 : decode cX9_isValueOf 26 = .ok (.goto 4, 3) := by decide +kernel
theorem dX9_isValueOf_29 : decode cX9_isValueOf 29 = .ok (.iconst 0, 1) := by decide +kernel
theorem dX9_isValueOf_30 : decode cX9_isValueOf 30 = .ok (.ireturn, 1) := by decide +kernel
theorem dX9_isInherited_0 : decode cX9_isInherited 0 = .ok (.iload_n 0, 1) := by decide +kernel
theorem dX9_isInherited_1 : decode cX9_isInherited 1 = .ok (.bipush 8, 2) := by decide +kernel
theorem dX9_isInherited_3 : decode cX9_isInherited 3 = .ok (.if_icmp .eq 15, 3) := by decide +kernel
theorem dX9_isInherited_6 : decode cX9_isInherited 6 = .ok (.iload_n 0, 1) := by decide +kernel
theorem dX9_isInherited_7 : decode cX9_isInherited 7 = .ok (.bipush 9, 2) := by decide +kernel
theorem dX9_isInherited_9 : decode cX9_isInherited 9 = .ok (.if_icmp .eq 9, 3) := by decide +kernel
theorem dX9_isInherited_12 : decode cX9_isInherited 12 = .ok (.iload_n 0, 1) := by decide +kernel
theorem dX9_isInherited_13 : decode cX9_isInherited 13 = .ok (.bipush 10, 2) := by decide +kernel
theorem dX9_isInherited_15 : decode cX9_isInherited 15 = .ok (.if_icmp .ne 7, 3) := by decide +kernel
theorem dX9_isInherited_18 : decode cX9_isInherited 18 = .ok (.iconst 1, 1) := by decide +kernel
theorem dX9_isInherited_19 : decode cX9_isInherited 19 = .ok (.goto 4, 3) := by decide +kernel
theorem dX9_isInherited_22 : decode cX9_isInherited 22 = .ok (.iconst 0, 1) := by decide +kernel
theorem dX9_isInherited_23 : decode cX9_isInherited 23 = .ok (.ireturn, 1) := by decide +kernel
theorem dX9_isViewWidth_0 : decode cX9_isViewWidth 0 = .ok (.iload_n 0, 1) := by decide +kernel
theorem dX9_isViewWidth_1 : decode cX9_isViewWidth 1 = .ok (.bipush 20, 2) := by decide +kernel
theorem dX9_isViewWidth_3 : decode cX9_isViewWidth 3 = .ok (.if_icmp .lt 14, 3) := by decide +kernel
theorem dX9_isViewWidth_6 : decode cX9_isViewWidth 6 = .ok (.iload_n 0, 1) := by decide +kernel
theorem dX9_isViewWidth_7 : decode cX9_isViewWidth 7 = .ok (.sipush 2000, 3) := by decide +kernel
theorem dX9_isViewWidth_10 : decode cX9_isViewWidth 10 = .ok (.if_icmp .gt 7, 3) := by decide +kernel
theorem dX9_isViewWidth_13 : decode cX9_isViewWidth 13 = .ok (.iconst 1, 1) := by decide +kernel
theorem dX9_isViewWidth_14 : decode cX9_isViewWidth 14 = .ok (.goto 4, 3) := by decide +kernel
theorem dX9_isViewWidth_17 : decode cX9_isViewWidth 17 = .ok (.iconst 0, 1) := by decide +kernel
theorem dX9_isViewWidth_18 : decode cX9_isViewWidth 18 = .ok (.ireturn, 1) := by decide +kernel
theorem dJ9_max_7cf53_0 : decode cJ9_max_7cf53 0 = .ok (.iload_n 0, 1) := by decide +kernel
theorem dJ9_max_7cf53_1 : decode cJ9_max_7cf53 1 = .ok (.iload_n 1, 1) := by decide +kernel
theorem dJ9_max_7cf53_2 : decode cJ9_max_7cf53 2 = .ok (.if_icmp .lt 7, 3) := by decide +kernel
theorem dJ9_max_7cf53_5 : decode cJ9_max_7cf53 5 = .ok (.iload_n 0, 1) := by decide +kernel
theorem dJ9_max_7cf53_6 : decode cJ9_max_7cf53 6 = .ok (.goto 4, 3) := by decide +kernel
theorem dJ9_max_7cf53_9 : decode cJ9_max_7cf53 9 = .ok (.iload_n 1, 1) := by decide +kernel
theorem dJ9_max_7cf53_10 : decode cJ9_max_7cf53 10 = .ok (.ireturn, 1) := by decide +kernel
theorem dJ9_min_7cf53_0 : decode cJ9_min_7cf53 0 = .ok (.iload_n 0, 1) := by decide +kernel
theorem dJ9_min_7cf53_1 : decode cJ9_min_7cf53 1 = .ok (.iload_n 1, 1) := by decide +kernel
theorem dJ9_min_7cf53_2 : decode cJ9_min_7cf53 2 = .ok (.if_icmp .gt 7, 3) := by decide +kernel
theorem dJ9_min_7cf53_5 : decode cJ9_min_7cf53 5 = .ok (.iload_n 0, 1) := by decide +kernel
theorem dJ9_min_7cf53_6 : decode cJ9_min_7cf53 6 = .ok (.goto 4, 3) := by decide +kernel
theorem dJ9_min_7cf53_9 : decode cJ9_min_7cf53 9 = .ok (.iload_n 1, 1) := by decide +kernel
theorem dJ9_min_7cf53_10 : decode cJ9_min_7cf53 10 = .ok (.ireturn, 1) := by decide +kernel
theorem dJxa1e45_init_da8c8_0 : decode cJxa1e45_init_da8c8 0 = .ok (.aload_n 0, 1) := by decide +kernel
theorem dJxa1e45_init_da8c8_1 : decode cJxa1e45_init_da8c8 1 = .ok (.invokespecial 1, 3) := by decide +kernel
theorem dJxa1e45_init_da8c8_4 : decode cJxa1e45_init_da8c8 4 = .ok (.return_, 1) := by decide +kernel
theorem dJxc12de_init_da8c8_0 : decode cJxc12de_init_da8c8 0 = .ok (.aload_n 0, 1) := by decide +kernel
theorem dJxc12de_init_da8c8_1 : decode cJxc12de_init_da8c8 1 = .ok (.invokespecial 1, 3) := by decide +kernel
theorem dJxc12de_init_da8c8_4 : decode cJxc12de_init_da8c8 4 = .ok (.aload_n 0, 1) := by decide +kernel
theorem dJxc12de_init_da8c8_5 : decode cJxc12de_init_da8c8 5 = .ok (.iconst 0, 1) := by decide +kernel
theorem dJxc12de_init_da8c8_6 : decode cJxc12de_init_da8c8 6 = .ok (.putfield 7, 3) := by decide +kernel
theorem dJxc12de_init_da8c8_9 : decode cJxc12de_init_da8c8 9 = .ok (.return_, 1) := by decide +kernel
theorem dJx4a65c_init_da8c8_0 : decode cJx4a65c_init_da8c8 0 = .ok (.aload_n 0, 1) := by decide +kernel
theorem dJx4a65c_init_da8c8_1 : decode cJx4a65c_init_da8c8 1 = .ok (.invokespecial 1, 3) := by decide +kernel
theorem dJx4a65c_init_da8c8_4 : decode cJx4a65c_init_da8c8 4 = .ok (.aload_n 0, 1) := by decide +kernel
theorem dJx4a65c_init_da8c8_5 : decode cJx4a65c_init_da8c8 5 = .ok (.getstatic 39, 3) := by decide +kernel
theorem dJx4a65c_init_da8c8_8 : decode cJx4a65c_init_da8c8 8 = .ok (.putfield 9, 3) := by decide +kernel
theorem dJx4a65c_init_da8c8_11 : decode cJx4a65c_init_da8c8 11 = .ok (.return_, 1) := by decide +kernel
theorem dJx4a65c_grow_92f84_0 : decode cJx4a65c_grow_92f84 0 = .ok (.aload_n 0, 1) := by decide +kernel
theorem dJx4a65c_grow_92f84_1 : decode cJx4a65c_grow_92f84 1 = .ok (.getfield 9, 3) := by decide +kernel
theorem dJx4a65c_grow_92f84_4 : decode cJx4a65c_grow_92f84 4 = .ok (.arraylength, 1) := by decide +kernel
theorem dJx4a65c_grow_92f84_5 : decode cJx4a65c_grow_92f84 5 = .ok (.istore_n 2, 1) := by decide +kernel
theorem dJx4a65c_grow_92f84_6 : decode cJx4a65c_grow_92f84 6 = .ok (.iload_n 2, 1) := by decide +kernel
theorem dJx4a65c_grow_92f84_7 : decode cJx4a65c_grow_92f84 7 = .ok (.ifCond .gt 13, 3) := by decide +kernel
theorem dJx4a65c_grow_92f84_10 : decode cJx4a65c_grow_92f84 10 = .ok (.aload_n 0, 1) := by decide +kernel
theorem dJx4a65c_grow_92f84_11 : decode cJx4a65c_grow_92f84 11 = .ok (.getfield 9, 3) := by decide +kernel
theorem dJx4a65c_grow_92f84_14 : decode cJx4a65c_grow_92f84 14 = .ok (.getstatic 39, 3) := by decide +kernel
theorem dJx4a65c_grow_92f84_17 : decode cJx4a65c_grow_92f84 17 = .ok (.if_acmp .eq 28, 3) := by decide +kernel
theorem dJx4a65c_grow_92f84_20 : decode cJx4a65c_grow_92f84 20 = .ok (.iload_n 2, 1) := by decide +kernel
theorem dJx4a65c_grow_92f84_21 : decode cJx4a65c_grow_92f84 21 = .ok (.iload_n 1, 1) := by decide +kernel
theorem dJx4a65c_grow_92f84_22 : decode cJx4a65c_grow_92f84 22 = .ok (.iload_n 2, 1) := by decide +kernel
theorem dJx4a65c_grow_92f84_23 : decode cJx4a65c_grow_92f84 23 = .ok (.isub, 1) := by decide +kernel
theorem dJx4a65c_grow_92f84_24 : decode cJx4a65c_grow_92f84 24 = .ok (.iload_n 2, 1) := by decide +kernel
theorem dJx4a65c_grow_92f84_25 : decode cJx4a65c_grow_92f84 25 = .ok (.iconst 1, 1) := by decide +kernel
theorem dJx4a65c_grow_92f84_26 : decode cJx4a65c_grow_92f84 26 = .ok (.ishr, 1) := by decide +kernel
theorem dJx4a65c_grow_92f84_27 : decode cJx4a65c_grow_92f84 27 = .ok (.invokestatic 73, 3) := by decide +kernel
theorem dJx4a65c_grow_92f84_30 : decode cJx4a65c_grow_92f84 30 = .ok (.istore_n 3, 1) := by decide +kernel
theorem dJx4a65c_grow_92f84_31 : decode cJx4a65c_grow_92f84 31 = .ok (.aload_n 0, 1) := by decide +kernel
theorem dJx4a65c_grow_92f84_32 : decode cJx4a65c_grow_92f84 32 = .ok (.aload_n 0, 1) := by decide +kernel
theorem dJx4a65c_grow_92f84_33 : decode cJx4a65c_grow_92f84 33 = .ok (.getfield 9, 3) := by decide +kernel
theorem dJx4a65c_grow_92f84_36 : decode cJx4a65c_grow_92f84 36 = .ok (.iload_n 3, 1) := by decide +kernel
theorem dJx4a65c_grow_92f84_37 : decode cJx4a65c_grow_92f84 37 = .ok (.invokestatic 66, 3) := by decide +kernel
theorem dJx4a65c_grow_92f84_40 : decode cJx4a65c_grow_92f84 40 = .ok (.dup_x1, 1) := by decide +kernel
theorem dJx4a65c_grow_92f84_41 : decode cJx4a65c_grow_92f84 41 = .ok (.putfield 9, 3) := by decide +kernel
theorem dJx4a65c_grow_92f84_44 : decode cJx4a65c_grow_92f84 44 = .ok (.areturn, 1) := by decide +kernel
theorem dJx4a65c_grow_92f84_45 : decode cJx4a65c_grow_92f84 45 = .ok (.aload_n 0, 1) := by decide +kernel
theorem dJx4a65c_grow_92f84_46 : decode cJx4a65c_grow_92f84 46 = .ok (.bipush 10, 2) := by decide +kernel
theorem dJx4a65c_grow_92f84_48 : decode cJx4a65c_grow_92f84 48 = .ok (.iload_n 1, 1) := by decide +kernel
theorem dJx4a65c_grow_92f84_49 : decode cJx4a65c_grow_92f84 49 = .ok (.invokestatic 79, 3) := by decide +kernel
theorem dJx4a65c_grow_92f84_52 : decode cJx4a65c_grow_92f84 52 = .ok (.anewarray 7, 3) := by decide +kernel
theorem dJx4a65c_grow_92f84_55 : decode cJx4a65c_grow_92f84 55 = .ok (.dup_x1, 1) := by decide +kernel
theorem dJx4a65c_grow_92f84_56 : decode cJx4a65c_grow_92f84 56 = .ok (.putfield 9, 3) := by decide +kernel
theorem dJx4a65c_grow_92f84_59 : decode cJx4a65c_grow_92f84 59 = .ok (.areturn, 1) := by decide +kernel
theorem dJx4a65c_grow_d5877_0 : decode cJx4a65c_grow_d5877 0 = .ok (.aload_n 0, 1) := by decide +kernel
theorem dJx4a65c_grow_d5877_1 : decode cJx4a65c_grow_d5877 1 = .ok (.aload_n 0, 1) := by decide +kernel
theorem dJx4a65c_grow_d5877_2 : decode cJx4a65c_grow_d5877 2 = .ok (.getfield 48, 3) := by decide +kernel
theorem dJx4a65c_grow_d5877_5 : decode cJx4a65c_grow_d5877 5 = .ok (.iconst 1, 1) := by decide +kernel
theorem dJx4a65c_grow_d5877_6 : decode cJx4a65c_grow_d5877 6 = .ok (.iadd, 1) := by decide +kernel
theorem dJx4a65c_grow_d5877_7 : decode cJx4a65c_grow_d5877 7 = .ok (.invokevirtual 69, 3) := by decide +kernel
theorem dJx4a65c_grow_d5877_10 : decode cJx4a65c_grow_d5877 10 = .ok (.areturn, 1) := by decide +kernel
theorem dJx4a65c_size_8abf5_0 : decode cJx4a65c_size_8abf5 0 = .ok (.aload_n 0, 1) := by decide +kernel
theorem dJx4a65c_size_8abf5_1 : decode cJx4a65c_size_8abf5 1 = .ok (.getfield 48, 3) := by decide +kernel
theorem dJx4a65c_size_8abf5_4 : decode cJx4a65c_size_8abf5 4 = .ok (.ireturn, 1) := by decide +kernel
theorem dJx4a65c_elementData_915e3_0 : decode cJx4a65c_elementData_915e3 0 = .ok (.aload_n 0, 1) := by decide +kernel
theorem dJx4a65c_elementData_915e3_1 : decode cJx4a65c_elementData_915e3 1 = .ok (.getfield 9, 3) := by decide +kernel
theorem dJx4a65c_elementData_915e3_4 : decode cJx4a65c_elementData_915e3 4 = .ok (.iload_n 1, 1) := by decide +kernel
theorem dJx4a65c_elementData_915e3_5 : decode cJx4a65c_elementData_915e3 5 = .ok (.aaload, 1) := by decide +kernel
theorem dJx4a65c_elementData_915e3_6 : decode cJx4a65c_elementData_915e3 6 = .ok (.areturn, 1) := by decide +kernel
theorem dJx4a65c_get_915e3_0 : decode cJx4a65c_get_915e3 0 = .ok (.iload_n 1, 1) := by decide +kernel
theorem dJx4a65c_get_915e3_1 : decode cJx4a65c_get_915e3 1 = .ok (.aload_n 0, 1) := by decide +kernel
theorem dJx4a65c_get_915e3_2 : decode cJx4a65c_get_915e3 2 = .ok (.getfield 48, 3) := by decide +kernel
theorem dJx4a65c_get_915e3_5 : decode cJx4a65c_get_915e3 5 = .ok (.invokestatic 118, 3) := by decide +kernel
theorem dJx4a65c_get_915e3_8 : decode cJx4a65c_get_915e3 8 = .ok (.pop, 1) := by decide +kernel
theorem dJx4a65c_get_915e3_9 : decode cJx4a65c_get_915e3 9 = .ok (.aload_n 0, 1) := by decide +kernel
theorem dJx4a65c_get_915e3_10 : decode cJx4a65c_get_915e3 10 = .ok (.iload_n 1, 1) := by decide +kernel
theorem dJx4a65c_get_915e3_11 : decode cJx4a65c_get_915e3 11 = .ok (.invokevirtual 123, 3) := by decide +kernel
theorem dJx4a65c_get_915e3_14 : decode cJx4a65c_get_915e3 14 = .ok (.areturn, 1) := by decide +kernel
theorem dJx4a65c_add_72be8_0 : decode cJx4a65c_add_72be8 0 = .ok (.iload_n 3, 1) := by decide +kernel
theorem dJx4a65c_add_72be8_1 : decode cJx4a65c_add_72be8 1 = .ok (.aload_n 2, 1) := by decide +kernel
theorem dJx4a65c_add_72be8_2 : decode cJx4a65c_add_72be8 2 = .ok (.arraylength, 1) := by decide +kernel
theorem dJx4a65c_add_72be8_3 : decode cJx4a65c_add_72be8 3 = .ok (.if_icmp .ne 8, 3) := by decide +kernel
theorem dJx4a65c_add_72be8_6 : decode cJx4a65c_add_72be8 6 = .ok (.aload_n 0, 1) := by decide +kernel
theorem dJx4a65c_add_72be8_7 : decode cJx4a65c_add_72be8 7 = .ok (.invokevirtual 129, 3) := by decide +kernel
theorem dJx4a65c_add_72be8_10 : decode cJx4a65c_add_72be8 10 = .ok (.astore_n 2, 1) := by decide +kernel
theorem dJx4a65c_add_72be8_11 : decode cJx4a65c_add_72be8 11 = .ok (.aload_n 2, 1) := by decide +kernel
theorem dJx4a65c_add_72be8_12 : decode cJx4a65c_add_72be8 12 = .ok (.iload_n 3, 1) := by decide +kernel
theorem dJx4a65c_add_72be8_13 : decode cJx4a65c_add_72be8 13 = .ok (.aload_n 1, 1) := by decide +kernel
theorem dJx4a65c_add_72be8_14 : decode cJx4a65c_add_72be8 14 = .ok (.aastore, 1) := by decide +kernel
theorem dJx4a65c_add_72be8_15 : decode cJx4a65c_add_72be8 15 = .ok (.aload_n 0, 1) := by decide +kernel
theorem dJx4a65c_add_72be8_16 : decode cJx4a65c_add_72be8 16 = .ok (.iload_n 3, 1) := by decide +kernel
theorem dJx4a65c_add_72be8_17 : decode cJx4a65c_add_72be8 17 = .ok (.iconst 1, 1) := by decide +kernel
theorem dJx4a65c_add_72be8_18 : decode cJx4a65c_add_72be8 18 = .ok (.iadd, 1) := by decide +kernel
theorem dJx4a65c_add_72be8_19 : decode cJx4a65c_add_72be8 19 = .ok (.putfield 48, 3) := by decide +kernel
theorem dJx4a65c_add_72be8_22 : decode cJx4a65c_add_72be8 22 = .ok (.return_, 1) := by decide +kernel
theorem dJx4a65c_add_9ea2d_0 : decode cJx4a65c_add_9ea2d 0 = .ok (.aload_n 0, 1) := by decide +kernel
theorem dJx4a65c_add_9ea2d_1 : decode cJx4a65c_add_9ea2d 1 = .ok (.dup, 1) := by decide +kernel
theorem dJx4a65c_add_9ea2d_2 : decode cJx4a65c_add_9ea2d 2 = .ok (.getfield 63, 3) := by decide +kernel
theorem dJx4a65c_add_9ea2d_5 : decode cJx4a65c_add_9ea2d 5 = .ok (.iconst 1, 1) := by decide +kernel
theorem dJx4a65c_add_9ea2d_6 : decode cJx4a65c_add_9ea2d 6 = .ok (.iadd, 1) := by decide +kernel
theorem dJx4a65c_add_9ea2d_7 : decode cJx4a65c_add_9ea2d 7 = .ok (.putfield 63, 3) := by decide +kernel
theorem dJx4a65c_add_9ea2d_10 : decode cJx4a65c_add_9ea2d 10 = .ok (.aload_n 0, 1) := by decide +kernel
theorem dJx4a65c_add_9ea2d_11 : decode cJx4a65c_add_9ea2d 11 = .ok (.aload_n 1, 1) := by decide +kernel
theorem dJx4a65c_add_9ea2d_12 : decode cJx4a65c_add_9ea2d 12 = .ok (.aload_n 0, 1) := by decide +kernel
theorem dJx4a65c_add_9ea2d_13 : decode cJx4a65c_add_9ea2d 13 = .ok (.getfield 9, 3) := by decide +kernel
theorem dJx4a65c_add_9ea2d_16 : decode cJx4a65c_add_9ea2d 16 = .ok (.aload_n 0, 1) := by decide +kernel
theorem dJx4a65c_add_9ea2d_17 : decode cJx4a65c_add_9ea2d 17 = .ok (.getfield 48, 3) := by decide +kernel
theorem dJx4a65c_add_9ea2d_20 : decode cJx4a65c_add_9ea2d 20 = .ok (.invokevirtual 131, 3) := by decide +kernel
theorem dJx4a65c_add_9ea2d_23 : decode cJx4a65c_add_9ea2d 23 = .ok (.iconst 1, 1) := by decide +kernel
theorem dJx4a65c_add_9ea2d_24 : decode cJx4a65c_add_9ea2d 24 = .ok (.ireturn, 1) := by decide +kernel
theorem dJx4a65c_add_7a177_0 : decode cJx4a65c_add_7a177 0 = .ok (.aload_n 0, 1) := by decide +kernel
theorem dJx4a65c_add_7a177_1 : decode cJx4a65c_add_7a177 1 = .ok (.iload_n 1, 1) := by decide +kernel
theorem dJx4a65c_add_7a177_2 : decode cJx4a65c_add_7a177 2 = .ok (.invokevirtual 135, 3) := by decide +kernel
theorem dJx4a65c_add_7a177_5 : decode cJx4a65c_add_7a177 5 = .ok (.aload_n 0, 1) := by decide +kernel
theorem dJx4a65c_add_7a177_6 : decode cJx4a65c_add_7a177 6 = .ok (.dup, 1) := by decide +kernel
theorem dJx4a65c_add_7a177_7 : decode cJx4a65c_add_7a177 7 = .ok (.getfield 63, 3) := by decide +kernel
theorem dJx4a65c_add_7a177_10 : decode cJx4a65c_add_7a177 10 = .ok (.iconst 1, 1) := by decide +kernel
theorem dJx4a65c_add_7a177_11 : decode cJx4a65c_add_7a177 11 = .ok (.iadd, 1) := by decide +kernel
theorem dJx4a65c_add_7a177_12 : decode cJx4a65c_add_7a177 12 = .ok (.putfield 63, 3) := by decide +kernel
theorem dJx4a65c_add_7a177_15 : decode cJx4a65c_add_7a177 15 = .ok (.aload_n 0, 1) := by decide +kernel
theorem dJx4a65c_add_7a177_16 : decode cJx4a65c_add_7a177 16 = .ok (.getfield 48, 3) := by decide +kernel
theorem dJx4a65c_add_7a177_19 : decode cJx4a65c_add_7a177 19 = .ok (.dup, 1) := by decide +kernel
theorem dJx4a65c_add_7a177_20 : decode cJx4a65c_add_7a177 20 = .ok (.istore_n 3, 1) := by decide +kernel
theorem dJx4a65c_add_7a177_21 : decode cJx4a65c_add_7a177 21 = .ok (.aload_n 0, 1) := by decide +kernel
theorem dJx4a65c_add_7a177_22 : decode cJx4a65c_add_7a177 22 = .ok (.getfield 9, 3) := by decide +kernel
theorem dJx4a65c_add_7a177_25 : decode cJx4a65c_add_7a177 25 = .ok (.dup, 1) := by decide +kernel
theorem dJx4a65c_add_7a177_26 : decode cJx4a65c_add_7a177 26 = .ok (.astore 4, 2) := by decide +kernel
theorem dJx4a65c_add_7a177_28 : decode cJx4a65c_add_7a177 28 = .ok (.arraylength, 1) := by decide +kernel
theorem dJx4a65c_add_7a177_29 : decode cJx4a65c_add_7a177 29 = .ok (.if_icmp .ne 9, 3) := by decide +kernel
theorem dJx4a65c_add_7a177_32 : decode cJx4a65c_add_7a177 32 = .ok (.aload_n 0, 1) := by decide +kernel
theorem dJx4a65c_add_7a177_33 : decode cJx4a65c_add_7a177 33 = .ok (.invokevirtual 129, 3) := by decide +kernel
theorem dJx4a65c_add_7a177_36 : decode cJx4a65c_add_7a177 36 = .ok (.astore 4, 2) := by decide +kernel
theorem dJx4a65c_add_7a177_38 : decode cJx4a65c_add_7a177 38 = .ok (.aload 4, 2) := by decide +kernel
theorem dJx4a65c_add_7a177_40 : decode cJx4a65c_add_7a177 40 = .ok (.iload_n 1, 1) := by decide +kernel
theorem dJx4a65c_add_7a177_41 : decode cJx4a65c_add_7a177 41 = .ok (.aload 4, 2) := by decide +kernel
theorem dJx4a65c_add_7a177_43 : decode cJx4a65c_add_7a177 43 = .ok (.iload_n 1, 1) := by decide +kernel
theorem dJx4a65c_add_7a177_44 : decode cJx4a65c_add_7a177 44 = .ok (.iconst 1, 1) := by decide +kernel
theorem dJx4a65c_add_7a177_45 : decode cJx4a65c_add_7a177 45 = .ok (.iadd, 1) := by decide +kernel
theorem dJx4a65c_add_7a177_46 : decode cJx4a65c_add_7a177 46 = .ok (.iload_n 3, 1) := by decide +kernel
theorem dJx4a65c_add_7a177_47 : decode cJx4a65c_add_7a177 47 = .ok (.iload_n 1, 1) := by decide +kernel
theorem dJx4a65c_add_7a177_48 : decode cJx4a65c_add_7a177 48 = .ok (.isub, 1) := by decide +kernel
theorem dJx4a65c_add_7a177_49 : decode cJx4a65c_add_7a177 49 = .ok (.invokestatic 112, 3) := by decide +kernel
theorem dJx4a65c_add_7a177_52 : decode cJx4a65c_add_7a177 52 = .ok (.aload 4, 2) := by decide +kernel
theorem dJx4a65c_add_7a177_54 : decode cJx4a65c_add_7a177 54 = .ok (.iload_n 1, 1) := by decide +kernel
theorem dJx4a65c_add_7a177_55 : decode cJx4a65c_add_7a177 55 = .ok (.aload_n 2, 1) := by decide +kernel
theorem dJx4a65c_add_7a177_56 : decode cJx4a65c_add_7a177 56 = .ok (.aastore, 1) := by decide +kernel
theorem dJx4a65c_add_7a177_57 : decode cJx4a65c_add_7a177 57 = .ok (.aload_n 0, 1) := by decide +kernel
theorem dJx4a65c_add_7a177_58 : decode cJx4a65c_add_7a177 58 = .ok (.iload_n 3, 1) := by decide +kernel
theorem dJx4a65c_add_7a177_59 : decode cJx4a65c_add_7a177 59 = .ok (.iconst 1, 1) := by decide +kernel
theorem dJx4a65c_add_7a177_60 : decode cJx4a65c_add_7a177 60 = .ok (.iadd, 1) := by decide +kernel
theorem dJx4a65c_add_7a177_61 : decode cJx4a65c_add_7a177 61 = .ok (.putfield 48, 3) := by decide +kernel
theorem dJx4a65c_add_7a177_64 : decode cJx4a65c_add_7a177 64 = .ok (.return_, 1) := by decide +kernel
theorem dJx4a65c_remove_915e3_0 : decode cJx4a65c_remove_915e3 0 = .ok (.iload_n 1, 1) := by decide +kernel
theorem dJx4a65c_remove_915e3_1 : decode cJx4a65c_remove_915e3 1 = .ok (.aload_n 0, 1) := by decide +kernel
theorem dJx4a65c_remove_915e3_2 : decode cJx4a65c_remove_915e3 2 = .ok (.getfield 48, 3) := by decide +kernel
theorem dJx4a65c_remove_915e3_5 : decode cJx4a65c_remove_915e3 5 = .ok (.invokestatic 118, 3) := by decide +kernel
theorem dJx4a65c_remove_915e3_8 : decode cJx4a65c_remove_915e3 8 = .ok (.pop, 1) := by decide +kernel
theorem dJx4a65c_remove_915e3_9 : decode cJx4a65c_remove_915e3 9 = .ok (.aload_n 0, 1) := by decide +kernel
theorem dJx4a65c_remove_915e3_10 : decode cJx4a65c_remove_915e3 10 = .ok (.getfield 9, 3) := by decide +kernel
theorem dJx4a65c_remove_915e3_13 : decode cJx4a65c_remove_915e3 13 = .ok (.astore_n 2, 1) := by decide +kernel
theorem dJx4a65c_remove_915e3_14 : decode cJx4a65c_remove_915e3 14 = .ok (.aload_n 2, 1) := by decide +kernel
theorem dJx4a65c_remove_915e3_15 : decode cJx4a65c_remove_915e3 15 = .ok (.iload_n 1, 1) := by decide +kernel
theorem dJx4a65c_remove_915e3_16 : decode cJx4a65c_remove_915e3 16 = .ok (.aaload, 1) := by decide +kernel
theorem dJx4a65c_remove_915e3_17 : decode cJx4a65c_remove_915e3 17 = .ok (.astore_n 3, 1) := by decide +kernel
theorem dJx4a65c_remove_915e3_18 : decode cJx4a65c_remove_915e3 18 = .ok (.aload_n 0, 1) := by decide +kernel
theorem dJx4a65c_remove_915e3_19 : decode cJx4a65c_remove_915e3 19 = .ok (.aload_n 2, 1) := by decide +kernel
theorem dJx4a65c_remove_915e3_20 : decode cJx4a65c_remove_915e3 20 = .ok (.iload_n 1, 1) := by decide +kernel
theorem dJx4a65c_remove_915e3_21 : decode cJx4a65c_remove_915e3 21 = .ok (.invokevirtual 144, 3) := by decide +kernel
theorem dJx4a65c_remove_915e3_24 : decode cJx4a65c_remove_915e3 24 = .ok (.aload_n 3, 1) := by decide +kernel
theorem dJx4a65c_remove_915e3_25 : decode cJx4a65c_remove_915e3 25 = .ok (.areturn, 1) := by decide +kernel
theorem dJx4a65c_fastRemove_b59b0_0 : decode cJx4a65c_fastRemove_b59b0 0 = .ok (.aload_n 0, 1) := by decide +kernel
theorem dJx4a65c_fastRemove_b59b0_1 : decode cJx4a65c_fastRemove_b59b0 1 = .ok (.dup, 1) := by decide +kernel
theorem dJx4a65c_fastRemove_b59b0_2 : decode cJx4a65c_fastRemove_b59b0 2 = .ok (.getfield 63, 3) := by decide +kernel
theorem dJx4a65c_fastRemove_b59b0_5 : decode cJx4a65c_fastRemove_b59b0 5 = .ok (.iconst 1, 1) := by decide +kernel
theorem dJx4a65c_fastRemove_b59b0_6 : decode cJx4a65c_fastRemove_b59b0 6 = .ok (.iadd, 1) := by decide +kernel
theorem dJx4a65c_fastRemove_b59b0_7 : decode cJx4a65c_fastRemove_b59b0 7 = .ok (.putfield 63, 3) := by decide +kernel
theorem dJx4a65c_fastRemove_b59b0_10 : decode cJx4a65c_fastRemove_b59b0 10 = .ok (.aload_n 0, 1) := by decide +kernel
theorem dJx4a65c_fastRemove_b59b0_11 : decode cJx4a65c_fastRemove_b59b0 11 = .ok (.getfield 48, 3) := by decide +kernel
theorem dJx4a65c_fastRemove_b59b0_14 : decode cJx4a65c_fastRemove_b59b0 14 = .ok (.iconst 1, 1) := by decide +kernel
theorem dJx4a65c_fastRemove_b59b0_15 : decode cJx4a65c_fastRemove_b59b0 15 = .ok (.isub, 1) := by decide +kernel
theorem dJx4a65c_fastRemove_b59b0_16 : decode cJx4a65c_fastRemove_b59b0 16 = .ok (.dup, 1) := by decide +kernel
theorem dJx4a65c_fastRemove_b59b0_17 : decode cJx4a65c_fastRemove_b59b0 17 = .ok (.istore_n 3, 1) := by decide +kernel
theorem dJx4a65c_fastRemove_b59b0_18 : decode cJx4a65c_fastRemove_b59b0 18 = .ok (.iload_n 2, 1) := by decide +kernel
theorem dJx4a65c_fastRemove_b59b0_19 : decode cJx4a65c_fastRemove_b59b0 19 = .ok (.if_icmp .le 15, 3) := by decide +kernel
theorem dJx4a65c_fastRemove_b59b0_22 : decode cJx4a65c_fastRemove_b59b0 22 = .ok (.aload_n 1, 1) := by decide +kernel
theorem dJx4a65c_fastRemove_b59b0_23 : decode cJx4a65c_fastRemove_b59b0 23 = .ok (.iload_n 2, 1) := by decide +kernel
theorem dJx4a65c_fastRemove_b59b0_24 : decode cJx4a65c_fastRemove_b59b0 24 = .ok (.iconst 1, 1) := by decide +kernel
theorem dJx4a65c_fastRemove_b59b0_25 : decode cJx4a65c_fastRemove_b59b0 25 = .ok (.iadd, 1) := by decide +kernel
theorem dJx4a65c_fastRemove_b59b0_26 : decode cJx4a65c_fastRemove_b59b0 26 = .ok (.aload_n 1, 1) := by decide +kernel
theorem dJx4a65c_fastRemove_b59b0_27 : decode cJx4a65c_fastRemove_b59b0 27 = .ok (.iload_n 2, 1) := by decide +kernel
theorem dJx4a65c_fastRemove_b59b0_28 : decode cJx4a65c_fastRemove_b59b0 28 = .ok (.iload_n 3, 1) := by decide +kernel
theorem dJx4a65c_fastRemove_b59b0_29 : decode cJx4a65c_fastRemove_b59b0 29 = .ok (.iload_n 2, 1) := by decide +kernel
theorem dJx4a65c_fastRemove_b59b0_30 : decode cJx4a65c_fastRemove_b59b0 30 = .ok (.isub, 1) := by decide +kernel
theorem dJx4a65c_fastRemove_b59b0_31 : decode cJx4a65c_fastRemove_b59b0 31 = .ok (.invokestatic 112, 3) := by decide +kernel
theorem dJx4a65c_fastRemove_b59b0_34 : decode cJx4a65c_fastRemove_b59b0 34 = .ok (.aload_n 1, 1) := by decide +kernel
theorem dJx4a65c_fastRemove_b59b0_35 : decode cJx4a65c_fastRemove_b59b0 35 = .ok (.aload_n 0, 1) := by decide +kernel
theorem dJx4a65c_fastRemove_b59b0_36 : decode cJx4a65c_fastRemove_b59b0 36 = .ok (.iload_n 3, 1) := by decide +kernel
theorem dJx4a65c_fastRemove_b59b0_37 : decode cJx4a65c_fastRemove_b59b0 37 = .ok (.dup_x1, 1) := by decide +kernel
theorem dJx4a65c_fastRemove_b59b0_38 : decode cJx4a65c_fastRemove_b59b0 38 = .ok (.putfield 48, 3) := by decide +kernel
theorem dJx4a65c_fastRemove_b59b0_41 : decode cJx4a65c_fastRemove_b59b0 41 = .ok (.aconst_null, 1) := by decide +kernel
theorem dJx4a65c_fastRemove_b59b0_42 : decode cJx4a65c_fastRemove_b59b0 42 = .ok (.aastore, 1) := by decide +kernel
theorem dJx4a65c_fastRemove_b59b0_43 : decode cJx4a65c_fastRemove_b59b0 43 = .ok (.return_, 1) := by decide +kernel
theorem dJx4a65c_clear_da8c8_0 : decode cJx4a65c_clear_da8c8 0 = .ok (.aload_n 0, 1) := by decide +kernel
theorem dJx4a65c_clear_da8c8_1 : decode cJx4a65c_clear_da8c8 1 = .ok (.dup, 1) := by decide +kernel
theorem dJx4a65c_clear_da8c8_2 : decode cJx4a65c_clear_da8c8 2 = .ok (.getfield 63, 3) := by decide +kernel
theorem dJx4a65c_clear_da8c8_5 : decode cJx4a65c_clear_da8c8 5 = .ok (.iconst 1, 1) := by decide +kernel
theorem dJx4a65c_clear_da8c8_6 : decode cJx4a65c_clear_da8c8 6 = .ok (.iadd, 1) := by decide +kernel
theorem dJx4a65c_clear_da8c8_7 : decode cJx4a65c_clear_da8c8 7 = .ok (.putfield 63, 3) := by decide +kernel
theorem dJx4a65c_clear_da8c8_10 : decode cJx4a65c_clear_da8c8 10 = .ok (.aload_n 0, 1) := by decide +kernel
theorem dJx4a65c_clear_da8c8_11 : decode cJx4a65c_clear_da8c8 11 = .ok (.getfield 9, 3) := by decide +kernel
theorem dJx4a65c_clear_da8c8_14 : decode cJx4a65c_clear_da8c8 14 = .ok (.astore_n 1, 1) := by decide +kernel
theorem dJx4a65c_clear_da8c8_15 : decode cJx4a65c_clear_da8c8 15 = .ok (.aload_n 0, 1) := by decide +kernel
theorem dJx4a65c_clear_da8c8_16 : decode cJx4a65c_clear_da8c8 16 = .ok (.getfield 48, 3) := by decide +kernel
theorem dJx4a65c_clear_da8c8_19 : decode cJx4a65c_clear_da8c8 19 = .ok (.istore_n 2, 1) := by decide +kernel
theorem dJx4a65c_clear_da8c8_20 : decode cJx4a65c_clear_da8c8 20 = .ok (.aload_n 0, 1) := by decide +kernel
theorem dJx4a65c_clear_da8c8_21 : decode cJx4a65c_clear_da8c8 21 = .ok (.iconst 0, 1) := by decide +kernel
theorem dJx4a65c_clear_da8c8_22 : decode cJx4a65c_clear_da8c8 22 = .ok (.dup_x1, 1) := by decide +kernel
theorem dJx4a65c_clear_da8c8_23 : decode cJx4a65c_clear_da8c8 23 = .ok (.putfield 48, 3) := by decide +kernel
theorem dJx4a65c_clear_da8c8_26 : decode cJx4a65c_clear_da8c8 26 = .ok (.istore_n 3, 1) := by decide +kernel
theorem dJx4a65c_clear_da8c8_27 : decode cJx4a65c_clear_da8c8 27 = .ok (.iload_n 3, 1) := by decide +kernel
theorem dJx4a65c_clear_da8c8_28 : decode cJx4a65c_clear_da8c8 28 = .ok (.iload_n 2, 1) := by decide +kernel
theorem dJx4a65c_clear_da8c8_29 : decode cJx4a65c_clear_da8c8 29 = .ok (.if_icmp .ge 13, 3) := by decide +kernel
theorem dJx4a65c_clear_da8c8_32 : decode cJx4a65c_clear_da8c8 32 = .ok (.aload_n 1, 1) := by decide +kernel
theorem dJx4a65c_clear_da8c8_33 : decode cJx4a65c_clear_da8c8 33 = .ok (.iload_n 3, 1) := by decide +kernel
theorem dJx4a65c_clear_da8c8_34 : decode cJx4a65c_clear_da8c8 34 = .ok (.aconst_null, 1) := by decide +kernel
theorem dJx4a65c_clear_da8c8_35 : decode cJx4a65c_clear_da8c8 35 = .ok (.aastore, 1) := by decide +kernel
theorem dJx4a65c_clear_da8c8_36 : decode cJx4a65c_clear_da8c8 36 = .ok (.iinc 3 1, 3) := by decide +kernel
theorem dJx4a65c_clear_da8c8_39 : decode cJx4a65c_clear_da8c8 39 = .ok (.goto (-12), 3) := by decide +kernel
theorem dJx4a65c_clear_da8c8_42 : decode cJx4a65c_clear_da8c8 42 = .ok (.return_, 1) := by decide +kernel
theorem dJx4a65c_rangeCheckForAdd_d00df_0 : decode cJx4a65c_rangeCheckForAdd_d00df 0 = .ok (.iload_n 1, 1) := by decide +kernel
theorem dJx4a65c_rangeCheckForAdd_d00df_1 : decode cJx4a65c_rangeCheckForAdd_d00df 1 = .ok (.aload_n 0, 1) := by decide +kernel
theorem dJx4a65c_rangeCheckForAdd_d00df_2 : decode cJx4a65c_rangeCheckForAdd_d00df 2 = .ok (.getfield 48, 3) := by decide +kernel
theorem dJx4a65c_rangeCheckForAdd_d00df_5 : decode cJx4a65c_rangeCheckForAdd_d00df 5 = .ok (.if_icmp .gt 7, 3) := by decide +kernel
theorem dJx4a65c_rangeCheckForAdd_d00df_8 : decode cJx4a65c_rangeCheckForAdd_d00df 8 = .ok (.iload_n 1, 1) := by decide +kernel
theorem dJx4a65c_rangeCheckForAdd_d00df_9 : decode cJx4a65c_rangeCheckForAdd_d00df 9 = .ok (.ifCond .ge 16, 3) := by decide +kernel
theorem dJx4a65c_rangeCheckForAdd_d00df_12 : decode cJx4a65c_rangeCheckForAdd_d00df 12 = .ok (.new 187, 3) := by decide +kernel
theorem dJx4a65c_rangeCheckForAdd_d00df_15 : decode cJx4a65c_rangeCheckForAdd_d00df 15 = .ok (.dup, 1) := by decide +kernel
theorem dJx4a65c_rangeCheckForAdd_d00df_16 : decode cJx4a65c_rangeCheckForAdd_d00df 16 = .ok (.aload_n 0, 1) := by decide +kernel
theorem dJx4a65c_rangeCheckForAdd_d00df_17 : decode cJx4a65c_rangeCheckForAdd_d00df 17 = .ok (.iload_n 1, 1) := by decide +kernel
theorem dJx4a65c_rangeCheckForAdd_d00df_18 : decode cJx4a65c_rangeCheckForAdd_d00df 18 = .ok (.invokevirtual 198, 3) := by decide +kernel
theorem dJx4a65c_rangeCheckForAdd_d00df_21 : decode cJx4a65c_rangeCheckForAdd_d00df 21 = .ok (.invokespecial 193, 3) := by decide +kernel
theorem dJx4a65c_rangeCheckForAdd_d00df_24 : decode cJx4a65c_rangeCheckForAdd_d00df 24 = .ok (.athrow, 1) := by decide +kernel
theorem dJx4a65c_rangeCheckForAdd_d00df_25 : decode cJx4a65c_rangeCheckForAdd_d00df 25 = .ok (.return_, 1) := by decide +kernel
theorem dJ7_fill_53178_0 : decode cJ7_fill_53178 0 = .ok (.iconst 0, 1) := by decide +kernel
theorem dJ7_fill_53178_1 : decode cJ7_fill_53178 1 = .ok (.istore_n 2, 1) := by decide +kernel
theorem dJ7_fill_53178_2 : decode cJ7_fill_53178 2 = .ok (.aload_n 0, 1) := by decide +kernel
theorem dJ7_fill_53178_3 : decode cJ7_fill_53178 3 = .ok (.arraylength, 1) := by decide +kernel
theorem dJ7_fill_53178_4 : decode cJ7_fill_53178 4 = .ok (.istore_n 3, 1) := by decide +kernel
theorem dJ7_fill_53178_5 : decode cJ7_fill_53178 5 = .ok (.iload_n 2, 1) := by decide +kernel
theorem dJ7_fill_53178_6 : decode cJ7_fill_53178 6 = .ok (.iload_n 3, 1) := by decide +kernel
theorem dJ7_fill_53178_7 : decode cJ7_fill_53178 7 = .ok (.if_icmp .ge 13, 3) := by decide +kernel
theorem dJ7_fill_53178_10 : decode cJ7_fill_53178 10 = .ok (.aload_n 0, 1) := by decide +kernel
theorem dJ7_fill_53178_11 : decode cJ7_fill_53178 11 = .ok (.iload_n 2, 1) := by decide +kernel
theorem dJ7_fill_53178_12 : decode cJ7_fill_53178 12 = .ok (.iload_n 1, 1) := by decide +kernel
theorem dJ7_fill_53178_13 : decode cJ7_fill_53178 13 = .ok (.iastore, 1) := by decide +kernel
theorem dJ7_fill_53178_14 : decode cJ7_fill_53178 14 = .ok (.iinc 2 1, 3) := by decide +kernel
theorem dJ7_fill_53178_17 : decode cJ7_fill_53178 17 = .ok (.goto (-12), 3) := by decide +kernel
theorem dJ7_fill_53178_20 : decode cJ7_fill_53178 20 = .ok (.return_, 1) := by decide +kernel
theorem dJ7_copyOf_1904c_0 : decode cJ7_copyOf_1904c 0 = .ok (.aload_n 0, 1) := by decide +kernel
theorem dJ7_copyOf_1904c_1 : decode cJ7_copyOf_1904c 1 = .ok (.iload_n 1, 1) := by decide +kernel
theorem dJ7_copyOf_1904c_2 : decode cJ7_copyOf_1904c 2 = .ok (.aload_n 0, 1) := by decide +kernel
theorem dJ7_copyOf_1904c_3 : decode cJ7_copyOf_1904c 3 = .ok (.invokevirtual 86, 3) := by decide +kernel
theorem dJ7_copyOf_1904c_6 : decode cJ7_copyOf_1904c 6 = .ok (.invokestatic 300, 3) := by decide +kernel
theorem dJ7_copyOf_1904c_9 : decode cJ7_copyOf_1904c 9 = .ok (.areturn, 1) := by decide +kernel
theorem dJ7_copyOf_6403c_0 : decode cJ7_copyOf_6403c 0 = .ok (.aload_n 2, 1) := by decide +kernel
theorem dJ7_copyOf_6403c_1 : decode cJ7_copyOf_6403c 1 = .ok (.ldc 110, 2) := by decide +kernel
theorem dJ7_copyOf_6403c_3 : decode cJ7_copyOf_6403c 3 = .ok (.if_acmp .ne 10, 3) := by decide +kernel
theorem dJ7_copyOf_6403c_6 : decode cJ7_copyOf_6403c 6 = .ok (.iload_n 1, 1) := by decide +kernel
theorem dJ7_copyOf_6403c_7 : decode cJ7_copyOf_6403c 7 = .ok (.anewarray 2, 3) := by decide +kernel
theorem dJ7_copyOf_6403c_10 : decode cJ7_copyOf_6403c 10 = .ok (.goto 14, 3) := by decide +kernel
theorem dJ7_copyOf_6403c_13 : decode cJ7_copyOf_6403c 13 = .ok (.aload_n 2, 1) := by decide +kernel
theorem dJ7_copyOf_6403c_14 : decode cJ7_copyOf_6403c 14 = .ok (.invokevirtual 90, 3) := by decide +kernel
theorem dJ7_copyOf_6403c_17 : decode cJ7_copyOf_6403c 17 = .ok (.iload_n 1, 1) := by decide +kernel
theorem dJ7_copyOf_6403c_18 : decode cJ7_copyOf_6403c 18 = .ok (.invokestatic 95, 3) := by decide +kernel
theorem dJ7_copyOf_6403c_21 : decode cJ7_copyOf_6403c 21 = .ok (.checkcast 110, 3) := by decide +kernel
theorem dJ7_copyOf_6403c_24 : decode cJ7_copyOf_6403c 24 = .ok (.astore_n 3, 1) := by decide +kernel
theorem dJ7_copyOf_6403c_25 : decode cJ7_copyOf_6403c 25 = .ok (.aload_n 0, 1) := by decide +kernel
theorem dJ7_copyOf_6403c_26 : decode cJ7_copyOf_6403c 26 = .ok (.iconst 0, 1) := by decide +kernel
theorem dJ7_copyOf_6403c_27 : decode cJ7_copyOf_6403c 27 = .ok (.aload_n 3, 1) := by decide +kernel
theorem dJ7_copyOf_6403c_28 : decode cJ7_copyOf_6403c 28 = .ok (.iconst 0, 1) := by decide +kernel
theorem dJ7_copyOf_6403c_29 : decode cJ7_copyOf_6403c 29 = .ok (.aload_n 0, 1) := by decide +kernel
theorem dJ7_copyOf_6403c_30 : decode cJ7_copyOf_6403c 30 = .ok (.arraylength, 1) := by decide +kernel
theorem dJ7_copyOf_6403c_31 : decode cJ7_copyOf_6403c 31 = .ok (.iload_n 1, 1) := by decide +kernel
theorem dJ7_copyOf_6403c_32 : decode cJ7_copyOf_6403c 32 = .ok (.invokestatic 304, 3) := by decide +kernel
theorem dJ7_copyOf_6403c_35 : decode cJ7_copyOf_6403c 35 = .ok (.invokestatic 150, 3) := by decide +kernel
theorem dJ7_copyOf_6403c_38 : decode cJ7_copyOf_6403c 38 = .ok (.aload_n 3, 1) := by decide +kernel
theorem dJ7_copyOf_6403c_39 : decode cJ7_copyOf_6403c 39 = .ok (.areturn, 1) := by decide +kernel
theorem dJ15_checkIndex_7cf53_0 : decode cJ15_checkIndex_7cf53 0 = .ok (.iload_n 0, 1) := by decide +kernel
theorem dJ15_checkIndex_7cf53_1 : decode cJ15_checkIndex_7cf53 1 = .ok (.iload_n 1, 1) := by decide +kernel
theorem dJ15_checkIndex_7cf53_2 : decode cJ15_checkIndex_7cf53 2 = .ok (.aconst_null, 1) := by decide +kernel
theorem dJ15_checkIndex_7cf53_3 : decode cJ15_checkIndex_7cf53 3 = .ok (.invokestatic 105, 3) := by decide +kernel
theorem dJ15_checkIndex_7cf53_6 : decode cJ15_checkIndex_7cf53 6 = .ok (.ireturn, 1) := by decide +kernel
theorem dJ8_newLength_cabcc_0 : decode cJ8_newLength_cabcc 0 = .ok (.iload_n 0, 1) := by decide +kernel
theorem dJ8_newLength_cabcc_1 : decode cJ8_newLength_cabcc 1 = .ok (.iload_n 1, 1) := by decide +kernel
theorem dJ8_newLength_cabcc_2 : decode cJ8_newLength_cabcc 2 = .ok (.iload_n 2, 1) := by decide +kernel
theorem dJ8_newLength_cabcc_3 : decode cJ8_newLength_cabcc 3 = .ok (.invokestatic 194, 3) := by decide +kernel
theorem dJ8_newLength_cabcc_6 : decode cJ8_newLength_cabcc 6 = .ok (.iadd, 1) := by decide +kernel
theorem dJ8_newLength_cabcc_7 : decode cJ8_newLength_cabcc 7 = .ok (.istore_n 3, 1) := by decide +kernel
theorem dJ8_newLength_cabcc_8 : decode cJ8_newLength_cabcc 8 = .ok (.iconst 0, 1) := by decide +kernel
theorem dJ8_newLength_cabcc_9 : decode cJ8_newLength_cabcc 9 = .ok (.iload_n 3, 1) := by decide +kernel
theorem dJ8_newLength_cabcc_10 : decode cJ8_newLength_cabcc 10 = .ok (.if_icmp .ge 11, 3) := by decide +kernel
theorem dJ8_newLength_cabcc_13 : decode cJ8_newLength_cabcc 13 = .ok (.iload_n 3, 1) := by decide +kernel
theorem dJ8_newLength_cabcc_14 : decode cJ8_newLength_cabcc 14 = .ok (.ldc 200, 2) := by decide +kernel
theorem dJ8_newLength_cabcc_16 : decode cJ8_newLength_cabcc 16 = .ok (.if_icmp .gt 5, 3) := by decide +kernel
theorem dJ8_newLength_cabcc_19 : decode cJ8_newLength_cabcc 19 = .ok (.iload_n 3, 1) := by decide +kernel
theorem dJ8_newLength_cabcc_20 : decode cJ8_newLength_cabcc 20 = .ok (.ireturn, 1) := by decide +kernel
theorem dJ8_newLength_cabcc_21 : decode cJ8_newLength_cabcc 21 = .ok (.iload_n 0, 1) := by decide +kernel
theorem dJ8_newLength_cabcc_22 : decode cJ8_newLength_cabcc 22 = .ok (.iload_n 1, 1) := by decide +kernel
theorem dJ8_newLength_cabcc_23 : decode cJ8_newLength_cabcc 23 = .ok (.invokestatic 201, 3) := by decide +kernel
theorem dJ8_newLength_cabcc_26 : decode cJ8_newLength_cabcc 26 = .ok (.ireturn, 1) := by decide +kernel
theorem dJ8_hugeLength_7cf53_0 : decode cJ8_hugeLength_7cf53 0 = .ok (.iload_n 0, 1) := by decide +kernel
theorem dJ8_hugeLength_7cf53_1 : decode cJ8_hugeLength_7cf53 1 = .ok (.iload_n 1, 1) := by decide +kernel
theorem dJ8_hugeLength_7cf53_2 : decode cJ8_hugeLength_7cf53 2 = .ok (.iadd, 1) := by decide +kernel
theorem dJ8_hugeLength_7cf53_3 : decode cJ8_hugeLength_7cf53 3 = .ok (.istore_n 2, 1) := by decide +kernel
theorem dJ8_hugeLength_7cf53_4 : decode cJ8_hugeLength_7cf53 4 = .ok (.iload_n 2, 1) := by decide +kernel
theorem dJ8_hugeLength_7cf53_5 : decode cJ8_hugeLength_7cf53 5 = .ok (.ifCond .ge 44, 3) := by decide +kernel
theorem dJ8_hugeLength_7cf53_8 : decode cJ8_hugeLength_7cf53 8 = .ok (.new 204, 3) := by decide +kernel
theorem dJ8_hugeLength_7cf53_11 : decode cJ8_hugeLength_7cf53 11 = .ok (.dup, 1) := by decide +kernel
theorem dJ8_hugeLength_7cf53_12 : decode cJ8_hugeLength_7cf53 12 = .ok (.new 89, 3) := by decide +kernel
theorem dJ8_hugeLength_7cf53_15 : decode cJ8_hugeLength_7cf53 15 = .ok (.dup, 1) := by decide +kernel
theorem dJ8_hugeLength_7cf53_16 : decode cJ8_hugeLength_7cf53 16 = .ok (.invokespecial 91, 3) := by decide +kernel
theorem dJ8_hugeLength_7cf53_19 : decode cJ8_hugeLength_7cf53 19 = .ok (.ldc 206, 2) := by decide +kernel
theorem dJ8_hugeLength_7cf53_21 : decode cJ8_hugeLength_7cf53 21 = .ok (.invokevirtual 94, 3) := by decide +kernel
theorem dJ8_hugeLength_7cf53_24 : decode cJ8_hugeLength_7cf53 24 = .ok (.iload_n 0, 1) := by decide +kernel
theorem dJ8_hugeLength_7cf53_25 : decode cJ8_hugeLength_7cf53 25 = .ok (.invokevirtual 98, 3) := by decide +kernel
theorem dJ8_hugeLength_7cf53_28 : decode cJ8_hugeLength_7cf53 28 = .ok (.ldc 208, 2) := by decide +kernel
theorem dJ8_hugeLength_7cf53_30 : decode cJ8_hugeLength_7cf53 30 = .ok (.invokevirtual 94, 3) := by decide +kernel
theorem dJ8_hugeLength_7cf53_33 : decode cJ8_hugeLength_7cf53 33 = .ok (.iload_n 1, 1) := by decide +kernel
theorem dJ8_hugeLength_7cf53_34 : decode cJ8_hugeLength_7cf53 34 = .ok (.invokevirtual 98, 3) := by decide +kernel
theorem dJ8_hugeLength_7cf53_37 : decode cJ8_hugeLength_7cf53 37 = .ok (.ldc 210, 2) := by decide +kernel
theorem dJ8_hugeLength_7cf53_39 : decode cJ8_hugeLength_7cf53 39 = .ok (.invokevirtual 94, 3) := by decide +kernel
theorem dJ8_hugeLength_7cf53_42 : decode cJ8_hugeLength_7cf53 42 = .ok (.invokevirtual 101, 3) := by decide +kernel
theorem dJ8_hugeLength_7cf53_45 : decode cJ8_hugeLength_7cf53 45 = .ok (.invokespecial 212, 3) := by decide +kernel
theorem dJ8_hugeLength_7cf53_48 : decode cJ8_hugeLength_7cf53 48 = .ok (.athrow, 1) := by decide +kernel
theorem dJ8_hugeLength_7cf53_49 : decode cJ8_hugeLength_7cf53 49 = .ok (.iload_n 2, 1) := by decide +kernel
theorem dJ8_hugeLength_7cf53_50 : decode cJ8_hugeLength_7cf53 50 = .ok (.ldc 200, 2) := by decide +kernel
theorem dJ8_hugeLength_7cf53_52 : decode cJ8_hugeLength_7cf53 52 = .ok (.if_icmp .gt 6, 3) := by decide +kernel
theorem dJ8_hugeLength_7cf53_55 : decode cJ8_hugeLength_7cf53 55 = .ok (.ldc 200, 2) := by decide +kernel
theorem dJ8_hugeLength_7cf53_57 : decode cJ8_hugeLength_7cf53 57 = .ok (.ireturn, 1) := by decide +kernel
theorem dJ8_hugeLength_7cf53_58 : decode cJ8_hugeLength_7cf53 58 = .ok (.iload_n 2, 1) := by decide +kernel
theorem dJ8_hugeLength_7cf53_59 : decode cJ8_hugeLength_7cf53 59 = .ok (.ireturn, 1) := by decide +kernel
theorem dJ3_checkIndex_8e157_0 : decode cJ3_checkIndex_8e157 0 = .ok (.iload_n 0, 1) := by decide +kernel
theorem dJ3_checkIndex_8e157_1 : decode cJ3_checkIndex_8e157 1 = .ok (.ifCond .lt 8, 3) := by decide +kernel
theorem dJ3_checkIndex_8e157_4 : decode cJ3_checkIndex_8e157 4 = .ok (.iload_n 0, 1) := by decide +kernel
theorem dJ3_checkIndex_8e157_5 : decode cJ3_checkIndex_8e157 5 = .ok (.iload_n 1, 1) := by decide +kernel
