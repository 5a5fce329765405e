theorem dX4_isAt_13 : decode cX4_isAt 13 = .ok (.ireturn, 1) := by decide +kernel
theorem dX4_isAt_14 : decode cX4_isAt 14 = .ok (.aload_n 0, 1) := by decide +kernel
theorem dX4_isAt_15 : decode cX4_isAt 15 = .ok (.getfield 12, 3) := by decide +kernel
theorem dX4_isAt_18 : decode cX4_isAt 18 = .ok (.aload_n 1, 1) := by decide +kernel
theorem dX4_isAt_19 : decode cX4_isAt 19 = .ok (.bipush 9, 2) := by decide +kernel
theorem dX4_isAt_21 : decode cX4_isAt 21 = .ok (.invokevirtual 110, 3) := by decide +kernel
theorem dX4_isAt_24 : decode cX4_isAt 24 = .ok (.istore 4, 2) := by decide +kernel
theorem dX4_isAt_26 : decode cX4_isAt 26 = .ok (.iconst 0, 1) := by decide +kernel
theorem dX4_isAt_27 : decode cX4_isAt 27 = .ok (.istore 5, 2) := by decide +kernel
theorem dX4_isAt_29 : decode cX4_isAt 29 = .ok (.iload 5, 2) := by decide +kernel
theorem dX4_isAt_31 : decode cX4_isAt 31 = .ok (.aload_n 1, 1) := by decide +kernel
theorem dX4_isAt_32 : decode cX4_isAt 32 = .ok (.getfield 113, 3) := by decide +kernel
theorem dX4_isAt_35 : decode cX4_isAt 35 = .ok (.if_icmp .ge 79, 3) := by decide +kernel
theorem dX4_isAt_38 : decode cX4_isAt 38 = .ok (.aload_n 1, 1) := by decide +kernel
theorem dX4_isAt_39 : decode cX4_isAt 39 = .ok (.getfield 63, 3) := by decide +kernel
theorem dX4_isAt_42 : decode cX4_isAt 42 = .ok (.getfield 116, 3) := by decide +kernel
theorem dX4_isAt_45 : decode cX4_isAt 45 = .ok (.iconst 1, 1) := by decide +kernel
theorem dX4_isAt_46 : decode cX4_isAt 46 = .ok (.if_icmp .ne 68, 3) := by decide +kernel
theorem dX4_isAt_49 : decode cX4_isAt 49 = .ok (.iload_n 2, 1) := by decide +kernel
theorem dX4_isAt_50 : decode cX4_isAt 50 = .ok (.aload_n 1, 1) := by decide +kernel
theorem dX4_isAt_51 : decode cX4_isAt 51 = .ok (.getfield 63, 3) := by decide +kernel
theorem dX4_isAt_54 : decode cX4_isAt 54 = .ok (.iload 5, 2) := by decide +kernel
theorem dX4_isAt_56 : decode cX4_isAt 56 = .ok (.invokevirtual 119, 3) := by decide +kernel
theorem dX4_isAt_59 : decode cX4_isAt 59 = .ok (.aload_n 1, 1) := by decide +kernel
theorem dX4_isAt_60 : decode cX4_isAt 60 = .ok (.iload 5, 2) := by decide +kernel
theorem dX4_isAt_62 : decode cX4_isAt 62 = .ok (.invokevirtual 123, 3) := by decide +kernel
theorem dX4_isAt_65 : decode cX4_isAt 65 = .ok (.iload 4, 2) := by decide +kernel
theorem dX4_isAt_67 : decode cX4_isAt 67 = .ok (.imul, 1) := by decide +kernel
theorem dX4_isAt_68 : decode cX4_isAt 68 = .ok (.invokestatic 126, 3) := by decide +kernel
theorem dX4_isAt_71 : decode cX4_isAt 71 = .ok (.ifCond .ne 7, 3) := by decide +kernel
theorem dX4_isAt_74 : decode cX4_isAt 74 = .ok (.iconst 1, 1) := by decide +kernel
theorem dX4_isAt_75 : decode cX4_isAt 75 = .ok (.goto 4, 3) := by decide +kernel
theorem dX4_isAt_78 : decode cX4_isAt 78 = .ok (.iconst 0, 1) := by decide +kernel
theorem dX4_isAt_79 : decode cX4_isAt 79 = .ok (.istore 6, 2) := by decide +kernel
theorem dX4_isAt_81 : decode cX4_isAt 81 = .ok (.iload 6, 2) := by decide +kernel
theorem dX4_isAt_83 : decode cX4_isAt 83 = .ok (.ifCond .ne 25, 3) := by decide +kernel
theorem dX4_isAt_86 : decode cX4_isAt 86 = .ok (.iload_n 3, 1) := by decide +kernel
theorem dX4_isAt_87 : decode cX4_isAt 87 = .ok (.aload_n 1, 1) := by decide +kernel
theorem dX4_isAt_88 : decode cX4_isAt 88 = .ok (.getfield 63, 3) := by decide +kernel
theorem dX4_isAt_91 : decode cX4_isAt 91 = .ok (.iload 5, 2) := by decide +kernel
theorem dX4_isAt_93 : decode cX4_isAt 93 = .ok (.invokevirtual 130, 3) := by decide +kernel
theorem dX4_isAt_96 : decode cX4_isAt 96 = .ok (.iconst 2, 1) := by decide +kernel
theorem dX4_isAt_97 : decode cX4_isAt 97 = .ok (.iload 4, 2) := by decide +kernel
theorem dX4_isAt_99 : decode cX4_isAt 99 = .ok (.imul, 1) := by decide +kernel
theorem dX4_isAt_100 : decode cX4_isAt 100 = .ok (.invokestatic 126, 3) := by decide +kernel
theorem dX4_isAt_103 : decode cX4_isAt 103 = .ok (.ifCond .eq 5, 3) := by decide +kernel
theorem dX4_isAt_106 : decode cX4_isAt 106 = .ok (.iconst 1, 1) := by decide +kernel
theorem dX4_isAt_107 : decode cX4_isAt 107 = .ok (.ireturn, 1) := by decide +kernel
theorem dX4_isAt_108 : decode cX4_isAt 108 = .ok (.iinc 5 1, 3) := by decide +kernel
theorem dX4_isAt_111 : decode cX4_isAt 111 = .ok (.goto (-82), 3) := by decide +kernel
theorem dX4_isAt_114 : decode cX4_isAt 114 = .ok (.iconst 0, 1) := by decide +kernel
theorem dX4_isAt_115 : decode cX4_isAt 115 = .ok (.ireturn, 1) := by decide +kernel
theorem dX4_isCutAt_0 : decode cX4_isCutAt 0 = .ok (.aload_n 1, 1) := by decide +kernel
theorem dX4_isCutAt_1 : decode cX4_isCutAt 1 = .ok (.getfield 133, 3) := by decide +kernel
theorem dX4_isCutAt_4 : decode cX4_isCutAt 4 = .ok (.astore 4, 2) := by decide +kernel
theorem dX4_isCutAt_6 : decode cX4_isCutAt 6 = .ok (.aload 4, 2) := by decide +kernel
theorem dX4_isCutAt_8 : decode cX4_isCutAt 8 = .ok (.ifnull 28, 3) := by decide +kernel
theorem dX4_isCutAt_11 : decode cX4_isCutAt 11 = .ok (.aload 4, 2) := by decide +kernel
theorem dX4_isCutAt_13 : decode cX4_isCutAt 13 = .ok (.getfield 63, 3) := by decide +kernel
theorem dX4_isCutAt_16 : decode cX4_isCutAt 16 = .ok (.iload_n 2, 1) := by decide +kernel
theorem dX4_isCutAt_17 : decode cX4_isCutAt 17 = .ok (.iload_n 3, 1) := by decide +kernel
theorem dX4_isCutAt_18 : decode cX4_isCutAt 18 = .ok (.invokevirtual 136, 3) := by decide +kernel
theorem dX4_isCutAt_21 : decode cX4_isCutAt 21 = .ok (.ifCond .eq 5, 3) := by decide +kernel
theorem dX4_isCutAt_24 : decode cX4_isCutAt 24 = .ok (.iconst 1, 1) := by decide +kernel
theorem dX4_isCutAt_25 : decode cX4_isCutAt 25 = .ok (.ireturn, 1) := by decide +kernel
theorem dX4_isCutAt_26 : decode cX4_isCutAt 26 = .ok (.aload 4, 2) := by decide +kernel
theorem dX4_isCutAt_28 : decode cX4_isCutAt 28 = .ok (.getfield 133, 3) := by decide +kernel
theorem dX4_isCutAt_31 : decode cX4_isCutAt 31 = .ok (.astore 4, 2) := by decide +kernel
theorem dX4_isCutAt_33 : decode cX4_isCutAt 33 = .ok (.goto (-27), 3) := by decide +kernel
theorem dX4_isCutAt_36 : decode cX4_isCutAt 36 = .ok (.iconst 0, 1) := by decide +kernel
theorem dX4_isCutAt_37 : decode cX4_isCutAt 37 = .ok (.ireturn, 1) := by decide +kernel
theorem dX4_wordsSeen_0 : decode cX4_wordsSeen 0 = .ok (.iconst 0, 1) := by decide +kernel
theorem dX4_wordsSeen_1 : decode cX4_wordsSeen 1 = .ok (.istore_n 2, 1) := by decide +kernel
theorem dX4_wordsSeen_2 : decode cX4_wordsSeen 2 = .ok (.iconst 0, 1) := by decide +kernel
theorem dX4_wordsSeen_3 : decode cX4_wordsSeen 3 = .ok (.istore_n 3, 1) := by decide +kernel
theorem dX4_wordsSeen_4 : decode cX4_wordsSeen 4 = .ok (.iload_n 3, 1) := by decide +kernel
theorem dX4_wordsSeen_5 : decode cX4_wordsSeen 5 = .ok (.aload_n 1, 1) := by decide +kernel
theorem dX4_wordsSeen_6 : decode cX4_wordsSeen 6 = .ok (.getfield 113, 3) := by decide +kernel
theorem dX4_wordsSeen_9 : decode cX4_wordsSeen 9 = .ok (.if_icmp .ge 47, 3) := by decide +kernel
theorem dX4_wordsSeen_12 : decode cX4_wordsSeen 12 = .ok (.aload_n 1, 1) := by decide +kernel
theorem dX4_wordsSeen_13 : decode cX4_wordsSeen 13 = .ok (.getfield 63, 3) := by decide +kernel
theorem dX4_wordsSeen_16 : decode cX4_wordsSeen 16 = .ok (.getfield 116, 3) := by decide +kernel
theorem dX4_wordsSeen_19 : decode cX4_wordsSeen 19 = .ok (.iconst 1, 1) := by decide +kernel
theorem dX4_wordsSeen_20 : decode cX4_wordsSeen 20 = .ok (.if_icmp .ne 36, 3) := by decide +kernel
theorem dX4_wordsSeen_23 : decode cX4_wordsSeen 23 = .ok (.aload_n 0, 1) := by decide +kernel
theorem dX4_wordsSeen_24 : decode cX4_wordsSeen 24 = .ok (.aload_n 1, 1) := by decide +kernel
theorem dX4_wordsSeen_25 : decode cX4_wordsSeen 25 = .ok (.aload_n 1, 1) := by decide +kernel
theorem dX4_wordsSeen_26 : decode cX4_wordsSeen 26 = .ok (.getfield 63, 3) := by decide +kernel
theorem dX4_wordsSeen_29 : decode cX4_wordsSeen 29 = .ok (.iload_n 3, 1) := by decide +kernel
theorem dX4_wordsSeen_30 : decode cX4_wordsSeen 30 = .ok (.invokevirtual 119, 3) := by decide +kernel
theorem dX4_wordsSeen_33 : decode cX4_wordsSeen 33 = .ok (.aload_n 1, 1) := by decide +kernel
theorem dX4_wordsSeen_34 : decode cX4_wordsSeen 34 = .ok (.getfield 63, 3) := by decide +kernel
theorem dX4_wordsSeen_37 : decode cX4_wordsSeen 37 = .ok (.iload_n 3, 1) := by decide +kernel
theorem dX4_wordsSeen_38 : decode cX4_wordsSeen 38 = .ok (.invokevirtual 130, 3) := by decide +kernel
theorem dX4_wordsSeen_41 : decode cX4_wordsSeen 41 = .ok (.invokevirtual 139, 3) := by decide +kernel
theorem dX4_wordsSeen_44 : decode cX4_wordsSeen 44 = .ok (.ifCond .ne 6, 3) := by decide +kernel
theorem dX4_wordsSeen_47 : decode cX4_wordsSeen 47 = .ok (.iinc 2 1, 3) := by decide +kernel
theorem dX4_wordsSeen_50 : decode cX4_wordsSeen 50 = .ok (.iinc 3 1, 3) := by decide +kernel
theorem dX4_wordsSeen_53 : decode cX4_wordsSeen 53 = .ok (.goto (-49), 3) := by decide +kernel
theorem dX4_wordsSeen_56 : decode cX4_wordsSeen 56 = .ok (.iload_n 2, 1) := by decide +kernel
theorem dX4_wordsSeen_57 : decode cX4_wordsSeen 57 = .ok (.ireturn, 1) := by decide +kernel
theorem dX4_prepare_0 : decode cX4_prepare 0 = .ok (.iconst 0, 1) := by decide +kernel
theorem dX4_prepare_1 : decode cX4_prepare 1 = .ok (.istore_n 2, 1) := by decide +kernel
theorem dX4_prepare_2 : decode cX4_prepare 2 = .ok (.iload_n 2, 1) := by decide +kernel
theorem dX4_prepare_3 : decode cX4_prepare 3 = .ok (.aload_n 1, 1) := by decide +kernel
theorem dX4_prepare_4 : decode cX4_prepare 4 = .ok (.invokevirtual 143, 3) := by decide +kernel
theorem dX4_prepare_7 : decode cX4_prepare 7 = .ok (.if_icmp .ge 119, 3) := by decide +kernel
theorem dX4_prepare_10 : decode cX4_prepare 10 = .ok (.aload_n 1, 1) := by decide +kernel
theorem dX4_prepare_11 : decode cX4_prepare 11 = .ok (.iload_n 2, 1) := by decide +kernel
theorem dX4_prepare_12 : decode cX4_prepare 12 = .ok (.invokevirtual 149, 3) := by decide +kernel
theorem dX4_prepare_15 : decode cX4_prepare 15 = .ok (.checkcast 64, 3) := by decide +kernel
theorem dX4_prepare_18 : decode cX4_prepare 18 = .ok (.astore_n 3, 1) := by decide +kernel
theorem dX4_prepare_19 : decode cX4_prepare 19 = .ok (.aload_n 3, 1) := by decide +kernel
theorem dX4_prepare_20 : decode cX4_prepare 20 = .ok (.getfield 63, 3) := by decide +kernel
theorem dX4_prepare_23 : decode cX4_prepare 23 = .ok (.astore 4, 2) := by decide +kernel
theorem dX4_prepare_25 : decode cX4_prepare 25 = .ok (.aload 4, 2) := by decide +kernel
theorem dX4_prepare_27 : decode cX4_prepare 27 = .ok (.aload_n 0, 1) := by decide +kernel
theorem dX4_prepare_28 : decode cX4_prepare 28 = .ok (.aload_n 3, 1) := by decide +kernel
theorem dX4_prepare_29 : decode cX4_prepare 29 = .ok (.invokevirtual 153, 3) := by decide +kernel
theorem dX4_prepare_32 : decode cX4_prepare 32 = .ok (.putfield 116, 3) := by decide +kernel
theorem dX4_prepare_35 : decode cX4_prepare 35 = .ok (.aload 4, 2) := by decide +kernel
theorem dX4_prepare_37 : decode cX4_prepare 37 = .ok (.aload_n 3, 1) := by decide +kernel
theorem dX4_prepare_38 : decode cX4_prepare 38 = .ok (.invokestatic 157, 3) := by decide +kernel
theorem dX4_prepare_41 : decode cX4_prepare 41 = .ok (.putfield 161, 3) := by decide +kernel
theorem dX4_prepare_44 : decode cX4_prepare 44 = .ok (.aload 4, 2) := by decide +kernel
theorem dX4_prepare_46 : decode cX4_prepare 46 = .ok (.aload_n 0, 1) := by decide +kernel
theorem dX4_prepare_47 : decode cX4_prepare 47 = .ok (.getfield 12, 3) := by decide +kernel
theorem dX4_prepare_50 : decode cX4_prepare 50 = .ok (.aload_n 3, 1) := by decide +kernel
theorem dX4_prepare_51 : decode cX4_prepare 51 = .ok (.iconst 5, 1) := by decide +kernel
theorem dX4_prepare_52 : decode cX4_prepare 52 = .ok (.invokevirtual 110, 3) := by decide +kernel
theorem dX4_prepare_55 : decode cX4_prepare 55 = .ok (.aload_n 0, 1) := by decide +kernel
theorem dX4_prepare_56 : decode cX4_prepare 56 = .ok (.getfield 12, 3) := by decide +kernel
theorem dX4_prepare_59 : decode cX4_prepare 59 = .ok (.aload_n 3, 1) := by decide +kernel
theorem dX4_prepare_60 : decode cX4_prepare 60 = .ok (.iconst 4, 1) := by decide +kernel
theorem dX4_prepare_61 : decode cX4_prepare 61 = .ok (.invokevirtual 110, 3) := by decide +kernel
theorem dX4_prepare_64 : decode cX4_prepare 64 = .ok (.iadd, 1) := by decide +kernel
theorem dX4_prepare_65 : decode cX4_prepare 65 = .ok (.putfield 164, 3) := by decide +kernel
theorem dX4_prepare_68 : decode cX4_prepare 68 = .ok (.aload 4, 2) := by decide +kernel
theorem dX4_prepare_70 : decode cX4_prepare 70 = .ok (.aload 4, 2) := by decide +kernel
theorem dX4_prepare_72 : decode cX4_prepare 72 = .ok (.getfield 164, 3) := by decide +kernel
theorem dX4_prepare_75 : decode cX4_prepare 75 = .ok (.aload_n 0, 1) := by decide +kernel
theorem dX4_prepare_76 : decode cX4_prepare 76 = .ok (.getfield 12, 3) := by decide +kernel
theorem dX4_prepare_79 : decode cX4_prepare 79 = .ok (.aload_n 3, 1) := by decide +kernel
theorem dX4_prepare_80 : decode cX4_prepare 80 = .ok (.iconst 3, 1) := by decide +kernel
theorem dX4_prepare_81 : decode cX4_prepare 81 = .ok (.invokevirtual 110, 3) := by decide +kernel
theorem dX4_prepare_84 : decode cX4_prepare 84 = .ok (.iadd, 1) := by decide +kernel
theorem dX4_prepare_85 : decode cX4_prepare 85 = .ok (.putfield 69, 3) := by decide +kernel
theorem dX4_prepare_88 : decode cX4_prepare 88 = .ok (.aload 4, 2) := by decide +kernel
theorem dX4_prepare_90 : decode cX4_prepare 90 = .ok (.aload 4, 2) := by decide +kernel
theorem dX4_prepare_92 : decode cX4_prepare 92 = .ok (.invokevirtual 167, 3) := by decide +kernel
theorem dX4_prepare_95 : decode cX4_prepare 95 = .ok (.ifCond .eq 21, 3) := by decide +kernel
theorem dX4_prepare_98 : decode cX4_prepare 98 = .ok (.aload_n 0, 1) := by decide +kernel
theorem dX4_prepare_99 : decode cX4_prepare 99 = .ok (.getfield 12, 3) := by decide +kernel
theorem dX4_prepare_102 : decode cX4_prepare 102 = .ok (.aload_n 3, 1) := by decide +kernel
theorem dX4_prepare_103 : decode cX4_prepare 103 = .ok (.bipush 11, 2) := by decide +kernel
theorem dX4_prepare_105 : decode cX4_prepare 105 = .ok (.invokevirtual 110, 3) := by decide +kernel
theorem dX4_prepare_108 : decode cX4_prepare 108 = .ok (.iconst 1, 1) := by decide +kernel
theorem dX4_prepare_109 : decode cX4_prepare 109 = .ok (.if_icmp .ne 7, 3) := by decide +kernel
theorem dX4_prepare_112 : decode cX4_prepare 112 = .ok (.iconst 1, 1) := by decide +kernel
theorem dX4_prepare_113 : decode cX4_prepare 113 = .ok (.goto 4, 3) := by decide +kernel
theorem dX4_prepare_116 : decode cX4_prepare 116 = .ok (.iconst 0, 1) := by decide +kernel
theorem dX4_prepare_117 : decode cX4_prepare 117 = .ok (.putfield 171, 3) := by decide +kernel
theorem dX4_prepare_120 : decode cX4_prepare 120 = .ok (.iinc 2 1, 3) := by decide +kernel
theorem dX4_prepare_123 : decode cX4_prepare 123 = .ok (.goto (-121), 3) := by decide +kernel
theorem dX4_prepare_126 : decode cX4_prepare 126 = .ok (.return_, 1) := by decide +kernel
theorem dX4_sortFor_0 : decode cX4_sortFor 0 = .ok (.aload_n 1, 1) := by decide +kernel
theorem dX4_sortFor_1 : decode cX4_sortFor 1 = .ok (.getfield 133, 3) := by decide +kernel
theorem dX4_sortFor_4 : decode cX4_sortFor 4 = .ok (.ifnonnull 5, 3) := by decide +kernel
theorem dX4_sortFor_7 : decode cX4_sortFor 7 = .ok (.iconst 3, 1) := by decide +kernel
theorem dX4_sortFor_8 : decode cX4_sortFor 8 = .ok (.ireturn, 1) := by decide +kernel
theorem dX4_sortFor_9 : decode cX4_sortFor 9 = .ok (.aload_n 1, 1) := by decide +kernel
theorem dX4_sortFor_10 : decode cX4_sortFor 10 = .ok (.getfield 133, 3) := by decide +kernel
theorem dX4_sortFor_13 : decode cX4_sortFor 13 = .ok (.getfield 63, 3) := by decide +kernel
theorem dX4_sortFor_16 : decode cX4_sortFor 16 = .ok (.getfield 116, 3) := by decide +kernel
theorem dX4_sortFor_19 : decode cX4_sortFor 19 = .ok (.ifCond .eq 15, 3) := by decide +kernel
theorem dX4_sortFor_22 : decode cX4_sortFor 22 = .ok (.aload_n 0, 1) := by decide +kernel
theorem dX4_sortFor_23 : decode cX4_sortFor 23 = .ok (.getfield 12, 3) := by decide +kernel
theorem dX4_sortFor_26 : decode cX4_sortFor 26 = .ok (.aload_n 1, 1) := by decide +kernel
theorem dX4_sortFor_27 : decode cX4_sortFor 27 = .ok (.iconst 0, 1) := by decide +kernel
theorem dX4_sortFor_28 : decode cX4_sortFor 28 = .ok (.invokevirtual 110, 3) := by decide +kernel
theorem dX4_sortFor_31 : decode cX4_sortFor 31 = .ok (.ifCond .ne 5, 3) := by decide +kernel
theorem dX4_sortFor_34 : decode cX4_sortFor 34 = .ok (.iconst 0, 1) := by decide +kernel
theorem dX4_sortFor_35 : decode cX4_sortFor 35 = .ok (.ireturn, 1) := by decide +kernel
theorem dX4_sortFor_36 : decode cX4_sortFor 36 = .ok (.aload_n 1, 1) := by decide +kernel
theorem dX4_sortFor_37 : decode cX4_sortFor 37 = .ok (.getfield 175, 3) := by decide +kernel
theorem dX4_sortFor_40 : decode cX4_sortFor 40 = .ok (.ifCond .eq 5, 3) := by decide +kernel
theorem dX4_sortFor_43 : decode cX4_sortFor 43 = .ok (.iconst 1, 1) := by decide +kernel
theorem dX4_sortFor_44 : decode cX4_sortFor 44 = .ok (.ireturn, 1) := by decide +kernel
theorem dX4_sortFor_45 : decode cX4_sortFor 45 = .ok (.aload_n 0, 1) := by decide +kernel
theorem dX4_sortFor_46 : decode cX4_sortFor 46 = .ok (.getfield 12, 3) := by decide +kernel
theorem dX4_sortFor_49 : decode cX4_sortFor 49 = .ok (.aload_n 1, 1) := by decide +kernel
theorem dX4_sortFor_50 : decode cX4_sortFor 50 = .ok (.bipush 6, 2) := by decide +kernel
theorem dX4_sortFor_52 : decode cX4_sortFor 52 = .ok (.invokevirtual 110, 3) := by decide +kernel
theorem dX4_sortFor_55 : decode cX4_sortFor 55 = .ok (.ifCond .eq 5, 3) := by decide +kernel
theorem dX4_sortFor_58 : decode cX4_sortFor 58 = .ok (.iconst 4, 1) := by decide +kernel
theorem dX4_sortFor_59 : decode cX4_sortFor 59 = .ok (.ireturn, 1) := by decide +kernel
theorem dX4_sortFor_60 : decode cX4_sortFor 60 = .ok (.aload_n 0, 1) := by decide +kernel
theorem dX4_sortFor_61 : decode cX4_sortFor 61 = .ok (.getfield 12, 3) := by decide +kernel
theorem dX4_sortFor_64 : decode cX4_sortFor 64 = .ok (.aload_n 1, 1) := by decide +kernel
theorem dX4_sortFor_65 : decode cX4_sortFor 65 = .ok (.iconst 0, 1) := by decide +kernel
theorem dX4_sortFor_66 : decode cX4_sortFor 66 = .ok (.invokevirtual 110, 3) := by decide +kernel
theorem dX4_sortFor_69 : decode cX4_sortFor 69 = .ok (.iconst 1, 1) := by decide +kernel
theorem dX4_sortFor_70 : decode cX4_sortFor 70 = .ok (.if_icmp .ne 7, 3) := by decide +kernel
theorem dX4_sortFor_73 : decode cX4_sortFor 73 = .ok (.iconst 3, 1) := by decide +kernel
theorem dX4_sortFor_74 : decode cX4_sortFor 74 = .ok (.goto 4, 3) := by decide +kernel
theorem dX4_sortFor_77 : decode cX4_sortFor 77 = .ok (.iconst 2, 1) := by decide +kernel
theorem dX4_sortFor_78 : decode cX4_sortFor 78 = .ok (.ireturn, 1) := by decide +kernel
theorem dX4_homeFor_0 : decode cX4_homeFor 0 = .ok (.aload_n 0, 1) := by decide +kernel
theorem dX4_homeFor_1 : decode cX4_homeFor 1 = .ok (.getfield 133, 3) := by decide +kernel
theorem dX4_homeFor_4 : decode cX4_homeFor 4 = .ok (.ifnonnull 5, 3) := by decide +kernel
theorem dX4_homeFor_7 : decode cX4_homeFor 7 = .ok (.aconst_null, 1) := by decide +kernel
theorem dX4_homeFor_8 : decode cX4_homeFor 8 = .ok (.areturn, 1) := by decide +kernel
theorem dX4_homeFor_9 : decode cX4_homeFor 9 = .ok (.aload_n 0, 1) := by decide +kernel
theorem dX4_homeFor_10 : decode cX4_homeFor 10 = .ok (.getfield 133, 3) := by decide +kernel
theorem dX4_homeFor_13 : decode cX4_homeFor 13 = .ok (.getfield 63, 3) := by decide +kernel
theorem dX4_homeFor_16 : decode cX4_homeFor 16 = .ok (.invokevirtual 167, 3) := by decide +kernel
theorem dX4_homeFor_19 : decode cX4_homeFor 19 = .ok (.ifCond .eq 10, 3) := by decide +kernel
theorem dX4_homeFor_22 : decode cX4_homeFor 22 = .ok (.aload_n 0, 1) := by decide +kernel
theorem dX4_homeFor_23 : decode cX4_homeFor 23 = .ok (.getfield 133, 3) := by decide +kernel
theorem dX4_homeFor_26 : decode cX4_homeFor 26 = .ok (.goto 13, 3) := by decide +kernel
theorem dX4_homeFor_29 : decode cX4_homeFor 29 = .ok (.aload_n 0, 1) := by decide +kernel
theorem dX4_homeFor_30 : decode cX4_homeFor 30 = .ok (.getfield 133, 3) := by decide +kernel
theorem dX4_homeFor_33 : decode cX4_homeFor 33 = .ok (.getfield 63, 3) := by decide +kernel
theorem dX4_homeFor_36 : decode cX4_homeFor 36 = .ok (.getfield 161, 3) := by decide +kernel
theorem dX4_homeFor_39 : decode cX4_homeFor 39 = .ok (.areturn, 1) := by decide +kernel
theorem dX4_findWishes_0 : decode cX4_findWishes 0 = .ok (.aload_n 1, 1) := by decide +kernel
theorem dX4_findWishes_1 : decode cX4_findWishes 1 = .ok (.invokevirtual 143, 3) := by decide +kernel
theorem dX4_findWishes_4 : decode cX4_findWishes 4 = .ok (.iconst 1, 1) := by decide +kernel
theorem dX4_findWishes_5 : decode cX4_findWishes 5 = .ok (.isub, 1) := by decide +kernel
theorem dX4_findWishes_6 : decode cX4_findWishes 6 = .ok (.istore_n 2, 1) := by decide +kernel
theorem dX4_findWishes_7 : decode cX4_findWishes 7 = .ok (.iload_n 2, 1) := by decide +kernel
theorem dX4_findWishes_8 : decode cX4_findWishes 8 = .ok (.ifCond .lt 39, 3) := by decide +kernel
theorem dX4_findWishes_11 : decode cX4_findWishes 11 = .ok (.aload_n 1, 1) := by decide +kernel
theorem dX4_findWishes_12 : decode cX4_findWishes 12 = .ok (.iload_n 2, 1) := by decide +kernel
theorem dX4_findWishes_13 : decode cX4_findWishes 13 = .ok (.invokevirtual 149, 3) := by decide +kernel
theorem dX4_findWishes_16 : decode cX4_findWishes 16 = .ok (.checkcast 64, 3) := by decide +kernel
theorem dX4_findWishes_19 : decode cX4_findWishes 19 = .ok (.getfield 63, 3) := by decide +kernel
theorem dX4_findWishes_22 : decode cX4_findWishes 22 = .ok (.invokevirtual 167, 3) := by decide +kernel
theorem dX4_findWishes_25 : decode cX4_findWishes 25 = .ok (.ifCond .eq 16, 3) := by decide +kernel
theorem dX4_findWishes_28 : decode cX4_findWishes 28 = .ok (.aload_n 0, 1) := by decide +kernel
theorem dX4_findWishes_29 : decode cX4_findWishes 29 = .ok (.aload_n 1, 1) := by decide +kernel
theorem dX4_findWishes_30 : decode cX4_findWishes 30 = .ok (.iload_n 2, 1) := by decide +kernel
theorem dX4_findWishes_31 : decode cX4_findWishes 31 = .ok (.invokevirtual 149, 3) := by decide +kernel
theorem dX4_findWishes_34 : decode cX4_findWishes 34 = .ok (.checkcast 64, 3) := by decide +kernel
theorem dX4_findWishes_37 : decode cX4_findWishes 37 = .ok (.aload_n 1, 1) := by decide +kernel
theorem dX4_findWishes_38 : decode cX4_findWishes 38 = .ok (.invokevirtual 178, 3) := by decide +kernel
theorem dX4_findWishes_41 : decode cX4_findWishes 41 = .ok (.iinc 2 (-1), 3) := by decide +kernel
theorem dX4_findWishes_44 : decode cX4_findWishes 44 = .ok (.goto (-37), 3) := by decide +kernel
theorem dX4_findWishes_47 : decode cX4_findWishes 47 = .ok (.return_, 1) := by decide +kernel
theorem dX4_findWish_0 : decode cX4_findWish 0 = .ok (.aload_n 1, 1) := by decide +kernel
theorem dX4_findWish_1 : decode cX4_findWish 1 = .ok (.getfield 87, 3) := by decide +kernel
theorem dX4_findWish_4 : decode cX4_findWish 4 = .ok (.iconst 0, 1) := by decide +kernel
theorem dX4_findWish_5 : decode cX4_findWish 5 = .ok (.putfield 182, 3) := by decide +kernel
theorem dX4_findWish_8 : decode cX4_findWish 8 = .ok (.aload_n 1, 1) := by decide +kernel
theorem dX4_findWish_9 : decode cX4_findWish 9 = .ok (.getfield 87, 3) := by decide +kernel
theorem dX4_findWish_12 : decode cX4_findWish 12 = .ok (.iconst 0, 1) := by decide +kernel
theorem dX4_findWish_13 : decode cX4_findWish 13 = .ok (.putfield 185, 3) := by decide +kernel
theorem dX4_findWish_16 : decode cX4_findWish 16 = .ok (.iconst 0, 1) := by decide +kernel
theorem dX4_findWish_17 : decode cX4_findWish 17 = .ok (.istore_n 3, 1) := by decide +kernel
theorem dX4_findWish_18 : decode cX4_findWish 18 = .ok (.iload_n 3, 1) := by decide +kernel
theorem dX4_findWish_19 : decode cX4_findWish 19 = .ok (.aload_n 2, 1) := by decide +kernel
theorem dX4_findWish_20 : decode cX4_findWish 20 = .ok (.invokevirtual 143, 3) := by decide +kernel
theorem dX4_findWish_23 : decode cX4_findWish 23 = .ok (.if_icmp .ge 133, 3) := by decide +kernel
theorem dX4_findWish_26 : decode cX4_findWish 26 = .ok (.aload_n 2, 1) := by decide +kernel
theorem dX4_findWish_27 : decode cX4_findWish 27 = .ok (.iload_n 3, 1) := by decide +kernel
theorem dX4_findWish_28 : decode cX4_findWish 28 = .ok (.invokevirtual 149, 3) := by decide +kernel
theorem dX4_findWish_31 : decode cX4_findWish 31 = .ok (.checkcast 64, 3) := by decide +kernel
theorem dX4_findWish_34 : decode cX4_findWish 34 = .ok (.astore 4, 2) := by decide +kernel
theorem dX4_findWish_36 : decode cX4_findWish 36 = .ok (.aload 4, 2) := by decide +kernel
theorem dX4_findWish_38 : decode cX4_findWish 38 = .ok (.getfield 63, 3) := by decide +kernel
theorem dX4_findWish_41 : decode cX4_findWish 41 = .ok (.getfield 161, 3) := by decide +kernel
theorem dX4_findWish_44 : decode cX4_findWish 44 = .ok (.aload_n 1, 1) := by decide +kernel
theorem dX4_findWish_45 : decode cX4_findWish 45 = .ok (.if_acmp .ne 71, 3) := by decide +kernel
theorem dX4_findWish_48 : decode cX4_findWish 48 = .ok (.aload 4, 2) := by decide +kernel
theorem dX4_findWish_50 : decode cX4_findWish 50 = .ok (.getfield 63, 3) := by decide +kernel
theorem dX4_findWish_53 : decode cX4_findWish 53 = .ok (.invokevirtual 167, 3) := by decide +kernel
theorem dX4_findWish_56 : decode cX4_findWish 56 = .ok (.ifCond .eq 60, 3) := by decide +kernel
theorem dX4_findWish_59 : decode cX4_findWish 59 = .ok (.aload_n 0, 1) := by decide +kernel
theorem dX4_findWish_60 : decode cX4_findWish 60 = .ok (.aload 4, 2) := by decide +kernel
theorem dX4_findWish_62 : decode cX4_findWish 62 = .ok (.aload 4, 2) := by decide +kernel
theorem dX4_findWish_64 : decode cX4_findWish 64 = .ok (.getfield 87, 3) := by decide +kernel
theorem dX4_findWish_67 : decode cX4_findWish 67 = .ok (.getfield 182, 3) := by decide +kernel
theorem dX4_findWish_70 : decode cX4_findWish 70 = .ok (.invokevirtual 80, 3) := by decide +kernel
theorem dX4_findWish_73 : decode cX4_findWish 73 = .ok (.iconst 2, 1) := by decide +kernel
theorem dX4_findWish_74 : decode cX4_findWish 74 = .ok (.aload 4, 2) := by decide +kernel
theorem dX4_findWish_76 : decode cX4_findWish 76 = .ok (.getfield 63, 3) := by decide +kernel
theorem dX4_findWish_79 : decode cX4_findWish 79 = .ok (.getfield 69, 3) := by decide +kernel
theorem dX4_findWish_82 : decode cX4_findWish 82 = .ok (.imul, 1) := by decide +kernel
theorem dX4_findWish_83 : decode cX4_findWish 83 = .ok (.iadd, 1) := by decide +kernel
theorem dX4_findWish_84 : decode cX4_findWish 84 = .ok (.istore 5, 2) := by decide +kernel
theorem dX4_findWish_86 : decode cX4_findWish 86 = .ok (.aload_n 1, 1) := by decide +kernel
theorem dX4_findWish_87 : decode cX4_findWish 87 = .ok (.getfield 87, 3) := by decide +kernel
theorem dX4_findWish_90 : decode cX4_findWish 90 = .ok (.aload_n 1, 1) := by decide +kernel
theorem dX4_findWish_91 : decode cX4_findWish 91 = .ok (.getfield 87, 3) := by decide +kernel
theorem dX4_findWish_94 : decode cX4_findWish 94 = .ok (.getfield 182, 3) := by decide +kernel
theorem dX4_findWish_97 : decode cX4_findWish 97 = .ok (.iload 5, 2) := by decide +kernel
theorem dX4_findWish_99 : decode cX4_findWish 99 = .ok (.invokestatic 187, 3) := by decide +kernel
theorem dX4_findWish_102 : decode cX4_findWish 102 = .ok (.putfield 182, 3) := by decide +kernel
theorem dX4_findWish_105 : decode cX4_findWish 105 = .ok (.aload_n 1, 1) := by decide +kernel
theorem dX4_findWish_106 : decode cX4_findWish 106 = .ok (.getfield 87, 3) := by decide +kernel
theorem dX4_findWish_109 : decode cX4_findWish 109 = .ok (.iconst 0, 1) := by decide +kernel
theorem dX4_findWish_110 : decode cX4_findWish 110 = .ok (.putfield 185, 3) := by decide +kernel
theorem dX4_findWish_113 : decode cX4_findWish 113 = .ok (.goto 37, 3) := by decide +kernel
theorem dX4_findWish_116 : decode cX4_findWish 116 = .ok (.aload 4, 2) := by decide +kernel
theorem dX4_findWish_118 : decode cX4_findWish 118 = .ok (.getfield 63, 3) := by decide +kernel
theorem dX4_findWish_121 : decode cX4_findWish 121 = .ok (.getfield 161, 3) := by decide +kernel
theorem dX4_findWish_124 : decode cX4_findWish 124 = .ok (.aload_n 1, 1) := by decide +kernel
theorem dX4_findWish_125 : decode cX4_findWish 125 = .ok (.if_acmp .ne 25, 3) := by decide +kernel
theorem dX4_findWish_128 : decode cX4_findWish 128 = .ok (.aload 4, 2) := by decide +kernel
theorem dX4_findWish_130 : decode cX4_findWish 130 = .ok (.getfield 63, 3) := by decide +kernel
theorem dX4_findWish_133 : decode cX4_findWish 133 = .ok (.getfield 116, 3) := by decide +kernel
theorem dX4_findWish_136 : decode cX4_findWish 136 = .ok (.iconst 1, 1) := by decide +kernel
theorem dX4_findWish_137 : decode cX4_findWish 137 = .ok (.if_icmp .ne 13, 3) := by decide +kernel
theorem dX4_findWish_140 : decode cX4_findWish 140 = .ok (.aload_n 0, 1) := by decide +kernel
theorem dX4_findWish_141 : decode cX4_findWish 141 = .ok (.aload 4, 2) := by decide +kernel
theorem dX4_findWish_143 : decode cX4_findWish 143 = .ok (.aload_n 1, 1) := by decide +kernel
theorem dX4_findWish_144 : decode cX4_findWish 144 = .ok (.getfield 87, 3) := by decide +kernel
theorem dX4_findWish_147 : decode cX4_findWish 147 = .ok (.invokevirtual 193, 3) := by decide +kernel
theorem dX4_findWish_150 : decode cX4_findWish 150 = .ok (.iinc 3 1, 3) := by decide +kernel
theorem dX4_findWish_153 : decode cX4_findWish 153 = .ok (.goto (-135), 3) := by decide +kernel
theorem dX4_findWish_156 : decode cX4_findWish 156 = .ok (.return_, 1) := by decide +kernel
theorem dX4_addToWish_0 : decode cX4_addToWish 0 = .ok (.aload_n 0, 1) := by decide +kernel
theorem dX4_addToWish_1 : decode cX4_addToWish 1 = .ok (.getfield 12, 3) := by decide +kernel
theorem dX4_addToWish_4 : decode cX4_addToWish 4 = .ok (.aload_n 1, 1) := by decide +kernel
theorem dX4_addToWish_5 : decode cX4_addToWish 5 = .ok (.bipush 9, 2) := by decide +kernel
theorem dX4_addToWish_7 : decode cX4_addToWish 7 = .ok (.invokevirtual 110, 3) := by decide +kernel
theorem dX4_addToWish_10 : decode cX4_addToWish 10 = .ok (.istore_n 3, 1) := by decide +kernel
theorem dX4_addToWish_11 : decode cX4_addToWish 11 = .ok (.iconst 0, 1) := by decide +kernel
theorem dX4_addToWish_12 : decode cX4_addToWish 12 = .ok (.istore 4, 2) := by decide +kernel
theorem dX4_addToWish_14 : decode cX4_addToWish 14 = .ok (.iload 4, 2) := by decide +kernel
theorem dX4_addToWish_16 : decode cX4_addToWish 16 = .ok (.aload_n 1, 1) := by decide +kernel
theorem dX4_addToWish_17 : decode cX4_addToWish 17 = .ok (.getfield 113, 3) := by decide +kernel
theorem dX4_addToWish_20 : decode cX4_addToWish 20 = .ok (.if_icmp .ge 51, 3) := by decide +kernel
theorem dX4_addToWish_23 : decode cX4_addToWish 23 = .ok (.aload_n 2, 1) := by decide +kernel
theorem dX4_addToWish_24 : decode cX4_addToWish 24 = .ok (.dup, 1) := by decide +kernel
theorem dX4_addToWish_25 : decode cX4_addToWish 25 = .ok (.getfield 185, 3) := by decide +kernel
theorem dX4_addToWish_28 : decode cX4_addToWish 28 = .ok (.aload_n 1, 1) := by decide +kernel
theorem dX4_addToWish_29 : decode cX4_addToWish 29 = .ok (.iload 4, 2) := by decide +kernel
theorem dX4_addToWish_31 : decode cX4_addToWish 31 = .ok (.invokevirtual 123, 3) := by decide +kernel
theorem dX4_addToWish_34 : decode cX4_addToWish 34 = .ok (.iload_n 3, 1) := by decide +kernel
theorem dX4_addToWish_35 : decode cX4_addToWish 35 = .ok (.imul, 1) := by decide +kernel
theorem dX4_addToWish_36 : decode cX4_addToWish 36 = .ok (.iadd, 1) := by decide +kernel
theorem dX4_addToWish_37 : decode cX4_addToWish 37 = .ok (.putfield 185, 3) := by decide +kernel
theorem dX4_addToWish_40 : decode cX4_addToWish 40 = .ok (.aload_n 2, 1) := by decide +kernel
theorem dX4_addToWish_41 : decode cX4_addToWish 41 = .ok (.aload_n 2, 1) := by decide +kernel
theorem dX4_addToWish_42 : decode cX4_addToWish 42 = .ok (.getfield 182, 3) := by decide +kernel
theorem dX4_addToWish_45 : decode cX4_addToWish 45 = .ok (.aload_n 2, 1) := by decide +kernel
theorem dX4_addToWish_46 : decode cX4_addToWish 46 = .ok (.getfield 185, 3) := by decide +kernel
theorem dX4_addToWish_49 : decode cX4_addToWish 49 = .ok (.invokestatic 187, 3) := by decide +kernel
theorem dX4_addToWish_52 : decode cX4_addToWish 52 = .ok (.putfield 182, 3) := by decide +kernel
theorem dX4_addToWish_55 : decode cX4_addToWish 55 = .ok (.aload_n 2, 1) := by decide +kernel
theorem dX4_addToWish_56 : decode cX4_addToWish 56 = .ok (.dup, 1) := by decide +kernel
theorem dX4_addToWish_57 : decode cX4_addToWish 57 = .ok (.getfield 185, 3) := by decide +kernel
theorem dX4_addToWish_60 : decode cX4_addToWish 60 = .ok (.iload_n 3, 1) := by decide +kernel
theorem dX4_addToWish_61 : decode cX4_addToWish 61 = .ok (.iadd, 1) := by decide +kernel
theorem dX4_addToWish_62 : decode cX4_addToWish 62 = .ok (.putfield 185, 3) := by decide +kernel
theorem dX4_addToWish_65 : decode cX4_addToWish 65 = .ok (.iinc 4 1, 3) := by decide +kernel
theorem dX4_addToWish_68 : decode cX4_addToWish 68 = .ok (.goto (-54), 3) := by decide +kernel
theorem dX4_addToWish_71 : decode cX4_addToWish 71 = .ok (.return_, 1) := by decide +kernel
theorem dX4_widthOr_0 : decode cX4_widthOr 0 = .ok (.aload_n 0, 1) := by decide +kernel
theorem dX4_widthOr_1 : decode cX4_widthOr 1 = .ok (.getfield 12, 3) := by decide +kernel
theorem dX4_widthOr_4 : decode cX4_widthOr 4 = .ok (.aload_n 1, 1) := by decide +kernel
theorem dX4_widthOr_5 : decode cX4_widthOr 5 = .ok (.iconst 1, 1) := by decide +kernel
theorem dX4_widthOr_6 : decode cX4_widthOr 6 = .ok (.invokevirtual 110, 3) := by decide +kernel
theorem dX4_widthOr_9 : decode cX4_widthOr 9 = .ok (.istore_n 3, 1) := by decide +kernel
theorem dX4_widthOr_10 : decode cX4_widthOr 10 = .ok (.iload_n 3, 1) := by decide +kernel
theorem dX4_widthOr_11 : decode cX4_widthOr 11 = .ok (.iconst (-1), 1) := by decide +kernel
theorem dX4_widthOr_12 : decode cX4_widthOr 12 = .ok (.if_icmp .ne 11, 3) := by decide +kernel
theorem dX4_widthOr_15 : decode cX4_widthOr 15 = .ok (.iconst 0, 1) := by decide +kernel
theorem dX4_widthOr_16 : decode cX4_widthOr 16 = .ok (.iload_n 2, 1) := by decide +kernel
theorem dX4_widthOr_17 : decode cX4_widthOr 17 = .ok (.invokestatic 187, 3) := by decide +kernel
theorem dX4_widthOr_20 : decode cX4_widthOr 20 = .ok (.goto 4, 3) := by decide +kernel
theorem dX4_widthOr_23 : decode cX4_widthOr 23 = .ok (.iload_n 3, 1) := by decide +kernel
theorem dX4_widthOr_24 : decode cX4_widthOr 24 = .ok (.ireturn, 1) := by decide +kernel
theorem dX4_fill_0 : decode cX4_fill 0 = .ok (.aload_n 1, 1) := by decide +kernel
theorem dX4_fill_1 : decode cX4_fill 1 = .ok (.getfield 63, 3) := by decide +kernel
theorem dX4_fill_4 : decode cX4_fill 4 = .ok (.astore 4, 2) := by decide +kernel
theorem dX4_fill_6 : decode cX4_fill 6 = .ok (.aload_n 1, 1) := by decide +kernel
theorem dX4_fill_7 : decode cX4_fill 7 = .ok (.getfield 87, 3) := by decide +kernel
theorem dX4_fill_10 : decode cX4_fill 10 = .ok (.aload 4, 2) := by decide +kernel
theorem dX4_fill_12 : decode cX4_fill 12 = .ok (.getfield 77, 3) := by decide +kernel
theorem dX4_fill_15 : decode cX4_fill 15 = .ok (.putfield 197, 3) := by decide +kernel
theorem dX4_fill_18 : decode cX4_fill 18 = .ok (.aload_n 1, 1) := by decide +kernel
theorem dX4_fill_19 : decode cX4_fill 19 = .ok (.getfield 87, 3) := by decide +kernel
theorem dX4_fill_22 : decode cX4_fill 22 = .ok (.iconst 0, 1) := by decide +kernel
theorem dX4_fill_23 : decode cX4_fill 23 = .ok (.putfield 200, 3) := by decide +kernel
theorem dX4_fill_26 : decode cX4_fill 26 = .ok (.aload 4, 2) := by decide +kernel
theorem dX4_fill_28 : decode cX4_fill 28 = .ok (.iconst 0, 1) := by decide +kernel
theorem dX4_fill_29 : decode cX4_fill 29 = .ok (.putfield 203, 3) := by decide +kernel
theorem dX4_fill_32 : decode cX4_fill 32 = .ok (.aload_n 0, 1) := by decide +kernel
theorem dX4_fill_33 : decode cX4_fill 33 = .ok (.aload_n 1, 1) := by decide +kernel
theorem dX4_fill_34 : decode cX4_fill 34 = .ok (.aload_n 2, 1) := by decide +kernel
theorem dX4_fill_35 : decode cX4_fill 35 = .ok (.iload_n 3, 1) := by decide +kernel
theorem dX4_fill_36 : decode cX4_fill 36 = .ok (.invokevirtual 204, 3) := by decide +kernel
theorem dX4_fill_39 : decode cX4_fill 39 = .ok (.aload_n 0, 1) := by decide +kernel
theorem dX4_fill_40 : decode cX4_fill 40 = .ok (.aload_n 1, 1) := by decide +kernel
theorem dX4_fill_41 : decode cX4_fill 41 = .ok (.invokevirtual 207, 3) := by decide +kernel
theorem dX4_fill_44 : decode cX4_fill 44 = .ok (.aload_n 1, 1) := by decide +kernel
theorem dX4_fill_45 : decode cX4_fill 45 = .ok (.getfield 87, 3) := by decide +kernel
theorem dX4_fill_48 : decode cX4_fill 48 = .ok (.getfield 197, 3) := by decide +kernel
theorem dX4_fill_51 : decode cX4_fill 51 = .ok (.istore 5, 2) := by decide +kernel
theorem dX4_fill_53 : decode cX4_fill 53 = .ok (.aload_n 1, 1) := by decide +kernel
theorem dX4_fill_54 : decode cX4_fill 54 = .ok (.getfield 87, 3) := by decide +kernel
theorem dX4_fill_57 : decode cX4_fill 57 = .ok (.getfield 94, 3) := by decide +kernel
theorem dX4_fill_60 : decode cX4_fill 60 = .ok (.aload_n 1, 1) := by decide +kernel
theorem dX4_fill_61 : decode cX4_fill 61 = .ok (.getfield 91, 3) := by decide +kernel
theorem dX4_fill_64 : decode cX4_fill 64 = .ok (.if_icmp .ne 19, 3) := by decide +kernel
theorem dX4_fill_67 : decode cX4_fill 67 = .ok (.aload_n 0, 1) := by decide +kernel
theorem dX4_fill_68 : decode cX4_fill 68 = .ok (.getfield 21, 3) := by decide +kernel
theorem dX4_fill_71 : decode cX4_fill 71 = .ok (.aload_n 1, 1) := by decide +kernel
theorem dX4_fill_72 : decode cX4_fill 72 = .ok (.getfield 91, 3) := by decide +kernel
theorem dX4_fill_75 : decode cX4_fill 75 = .ok (.iconst 3, 1) := by decide +kernel
theorem dX4_fill_76 : decode cX4_fill 76 = .ok (.iload 5, 2) := by decide +kernel
theorem dX4_fill_78 : decode cX4_fill 78 = .ok (.invokevirtual 211, 3) := by decide +kernel
theorem dX4_fill_81 : decode cX4_fill 81 = .ok (.istore 5, 2) := by decide +kernel
theorem dX4_fill_83 : decode cX4_fill 83 = .ok (.aload 4, 2) := by decide +kernel
theorem dX4_fill_85 : decode cX4_fill 85 = .ok (.iload 5, 2) := by decide +kernel
theorem dX4_fill_87 : decode cX4_fill 87 = .ok (.aload 4, 2) := by decide +kernel
theorem dX4_fill_89 : decode cX4_fill 89 = .ok (.getfield 77, 3) := by decide +kernel
theorem dX4_fill_92 : decode cX4_fill 92 = .ok (.isub, 1) := by decide +kernel
theorem dX4_fill_93 : decode cX4_fill 93 = .ok (.putfield 215, 3) := by decide +kernel
theorem dX4_fill_96 : decode cX4_fill 96 = .ok (.aload_n 0, 1) := by decide +kernel
theorem dX4_fill_97 : decode cX4_fill 97 = .ok (.getfield 12, 3) := by decide +kernel
theorem dX4_fill_100 : decode cX4_fill 100 = .ok (.aload_n 1, 1) := by decide +kernel
theorem dX4_fill_101 : decode cX4_fill 101 = .ok (.iconst 2, 1) := by decide +kernel
theorem dX4_fill_102 : decode cX4_fill 102 = .ok (.invokevirtual 110, 3) := by decide +kernel
theorem dX4_fill_105 : decode cX4_fill 105 = .ok (.istore 6, 2) := by decide +kernel
theorem dX4_fill_107 : decode cX4_fill 107 = .ok (.aload 4, 2) := by decide +kernel
theorem dX4_fill_109 : decode cX4_fill 109 = .ok (.iload 6, 2) := by decide +kernel
theorem dX4_fill_111 : decode cX4_fill 111 = .ok (.iconst (-1), 1) := by decide +kernel
theorem dX4_fill_112 : decode cX4_fill 112 = .ok (.if_icmp .ne 11, 3) := by decide +kernel
theorem dX4_fill_115 : decode cX4_fill 115 = .ok (.aload 4, 2) := by decide +kernel
theorem dX4_fill_117 : decode cX4_fill 117 = .ok (.getfield 215, 3) := by decide +kernel
theorem dX4_fill_120 : decode cX4_fill 120 = .ok (.goto 5, 3) := by decide +kernel
theorem dX4_fill_123 : decode cX4_fill 123 = .ok (.iload 6, 2) := by decide +kernel
theorem dX4_fill_125 : decode cX4_fill 125 = .ok (.putfield 218, 3) := by decide +kernel
theorem dX4_fill_128 : decode cX4_fill 128 = .ok (.return_, 1) := by decide +kernel
theorem dX4_putFlow_0 : decode cX4_putFlow 0 = .ok (.iload_n 3, 1) := by decide +kernel
theorem dX4_putFlow_1 : decode cX4_putFlow 1 = .ok (.bipush 10, 2) := by decide +kernel
theorem dX4_putFlow_3 : decode cX4_putFlow 3 = .ok (.if_icmp .le 4, 3) := by decide +kernel
theorem dX4_putFlow_6 : decode cX4_putFlow 6 = .ok (.return_, 1) := by decide +kernel
theorem dX4_putFlow_7 : decode cX4_putFlow 7 = .ok (.iconst 0, 1) := by decide +kernel
theorem dX4_putFlow_8 : decode cX4_putFlow 8 = .ok (.istore 4, 2) := by decide +kernel
theorem dX4_putFlow_10 : decode cX4_putFlow 10 = .ok (.iload 4, 2) := by decide +kernel
theorem dX4_putFlow_12 : decode cX4_putFlow 12 = .ok (.aload_n 2, 1) := by decide +kernel
theorem dX4_putFlow_13 : decode cX4_putFlow 13 = .ok (.invokevirtual 143, 3) := by decide +kernel
theorem dX4_putFlow_16 : decode cX4_putFlow 16 = .ok (.if_icmp .ge 122, 3) := by decide +kernel
theorem dX4_putFlow_19 : decode cX4_putFlow 19 = .ok (.aload_n 2, 1) := by decide +kernel
theorem dX4_putFlow_20 : decode cX4_putFlow 20 = .ok (.iload 4, 2) := by decide +kernel
theorem dX4_putFlow_22 : decode cX4_putFlow 22 = .ok (.invokevirtual 149, 3) := by decide +kernel
theorem dX4_putFlow_25 : decode cX4_putFlow 25 = .ok (.checkcast 64, 3) := by decide +kernel
theorem dX4_putFlow_28 : decode cX4_putFlow 28 = .ok (.astore 5, 2) := by decide +kernel
theorem dX4_putFlow_30 : decode cX4_putFlow 30 = .ok (.aload 5, 2) := by decide +kernel
theorem dX4_putFlow_32 : decode cX4_putFlow 32 = .ok (.getfield 63, 3) := by decide +kernel
theorem dX4_putFlow_35 : decode cX4_putFlow 35 = .ok (.getfield 161, 3) := by decide +kernel
theorem dX4_putFlow_38 : decode cX4_putFlow 38 = .ok (.aload_n 1, 1) := by decide +kernel
theorem dX4_putFlow_39 : decode cX4_putFlow 39 = .ok (.if_acmp .ne 14, 3) := by decide +kernel
theorem dX4_putFlow_42 : decode cX4_putFlow 42 = .ok (.aload 5, 2) := by decide +kernel
theorem dX4_putFlow_44 : decode cX4_putFlow 44 = .ok (.getfield 63, 3) := by decide +kernel
theorem dX4_putFlow_47 : decode cX4_putFlow 47 = .ok (.getfield 116, 3) := by decide +kernel
theorem dX4_putFlow_50 : decode cX4_putFlow 50 = .ok (.goto 4, 3) := by decide +kernel
theorem dX4_putFlow_53 : decode cX4_putFlow 53 = .ok (.iconst 0, 1) := by decide +kernel
theorem dX4_putFlow_54 : decode cX4_putFlow 54 = .ok (.istore 6, 2) := by decide +kernel
theorem dX4_putFlow_56 : decode cX4_putFlow 56 = .ok (.iload 6, 2) := by decide +kernel
theorem dX4_putFlow_58 : decode cX4_putFlow 58 = .ok (.iconst 1, 1) := by decide +kernel
theorem dX4_putFlow_59 : decode cX4_putFlow 59 = .ok (.if_icmp .ne 26, 3) := by decide +kernel
theorem dX4_putFlow_62 : decode cX4_putFlow 62 = .ok (.aload_n 0, 1) := by decide +kernel
theorem dX4_putFlow_63 : decode cX4_putFlow 63 = .ok (.getfield 28, 3) := by decide +kernel
theorem dX4_putFlow_66 : decode cX4_putFlow 66 = .ok (.aload 5, 2) := by decide +kernel
theorem dX4_putFlow_68 : decode cX4_putFlow 68 = .ok (.aload_n 0, 1) := by decide +kernel
theorem dX4_putFlow_69 : decode cX4_putFlow 69 = .ok (.getfield 12, 3) := by decide +kernel
theorem dX4_putFlow_72 : decode cX4_putFlow 72 = .ok (.aload 5, 2) := by decide +kernel
theorem dX4_putFlow_74 : decode cX4_putFlow 74 = .ok (.bipush 9, 2) := by decide +kernel
theorem dX4_putFlow_76 : decode cX4_putFlow 76 = .ok (.invokevirtual 110, 3) := by decide +kernel
theorem dX4_putFlow_79 : decode cX4_putFlow 79 = .ok (.invokevirtual 221, 3) := by decide +kernel
theorem dX4_putFlow_82 : decode cX4_putFlow 82 = .ok (.goto 50, 3) := by decide +kernel
theorem dX4_putFlow_85 : decode cX4_putFlow 85 = .ok (.iload 6, 2) := by decide +kernel
theorem dX4_putFlow_87 : decode cX4_putFlow 87 = .ok (.iconst 3, 1) := by decide +kernel
theorem dX4_putFlow_88 : decode cX4_putFlow 88 = .ok (.if_icmp .ne 22, 3) := by decide +kernel
theorem dX4_putFlow_91 : decode cX4_putFlow 91 = .ok (.aload_n 0, 1) := by decide +kernel
theorem dX4_putFlow_92 : decode cX4_putFlow 92 = .ok (.aload_n 1, 1) := by decide +kernel
theorem dX4_putFlow_93 : decode cX4_putFlow 93 = .ok (.invokevirtual 207, 3) := by decide +kernel
theorem dX4_putFlow_96 : decode cX4_putFlow 96 = .ok (.aload_n 0, 1) := by decide +kernel
theorem dX4_putFlow_97 : decode cX4_putFlow 97 = .ok (.aload 5, 2) := by decide +kernel
theorem dX4_putFlow_99 : decode cX4_putFlow 99 = .ok (.aload_n 1, 1) := by decide +kernel
theorem dX4_putFlow_100 : decode cX4_putFlow 100 = .ok (.aload_n 2, 1) := by decide +kernel
theorem dX4_putFlow_101 : decode cX4_putFlow 101 = .ok (.iload_n 3, 1) := by decide +kernel
theorem dX4_putFlow_102 : decode cX4_putFlow 102 = .ok (.iconst 1, 1) := by decide +kernel
theorem dX4_putFlow_103 : decode cX4_putFlow 103 = .ok (.iadd, 1) := by decide +kernel
theorem dX4_putFlow_104 : decode cX4_putFlow 104 = .ok (.invokevirtual 225, 3) := by decide +kernel
theorem dX4_putFlow_107 : decode cX4_putFlow 107 = .ok (.goto 25, 3) := by decide +kernel
theorem dX4_putFlow_110 : decode cX4_putFlow 110 = .ok (.iload 6, 2) := by decide +kernel
theorem dX4_putFlow_112 : decode cX4_putFlow 112 = .ok (.iconst 4, 1) := by decide +kernel
theorem dX4_putFlow_113 : decode cX4_putFlow 113 = .ok (.if_icmp .ne 19, 3) := by decide +kernel
theorem dX4_putFlow_116 : decode cX4_putFlow 116 = .ok (.aload_n 0, 1) := by decide +kernel
theorem dX4_putFlow_117 : decode cX4_putFlow 117 = .ok (.aload_n 1, 1) := by decide +kernel
theorem dX4_putFlow_118 : decode cX4_putFlow 118 = .ok (.invokevirtual 207, 3) := by decide +kernel
theorem dX4_putFlow_121 : decode cX4_putFlow 121 = .ok (.aload_n 0, 1) := by decide +kernel
theorem dX4_putFlow_122 : decode cX4_putFlow 122 = .ok (.aload 5, 2) := by decide +kernel
theorem dX4_putFlow_124 : decode cX4_putFlow 124 = .ok (.aload_n 1, 1) := by decide +kernel
theorem dX4_putFlow_125 : decode cX4_putFlow 125 = .ok (.aload_n 2, 1) := by decide +kernel
theorem dX4_putFlow_126 : decode cX4_putFlow 126 = .ok (.iload_n 3, 1) := by decide +kernel
theorem dX4_putFlow_127 : decode cX4_putFlow 127 = .ok (.iconst 1, 1) := by decide +kernel
theorem dX4_putFlow_128 : decode cX4_putFlow 128 = .ok (.iadd, 1) := by decide +kernel
theorem dX4_putFlow_129 : decode cX4_putFlow 129 = .ok (.invokevirtual 229, 3) := by decide +kernel
theorem dX4_putFlow_132 : decode cX4_putFlow 132 = .ok (.iinc 4 1, 3) := by decide +kernel
theorem dX4_putFlow_135 : decode cX4_putFlow 135 = .ok (.goto (-125), 3) := by decide +kernel
theorem dX4_putFlow_138 : decode cX4_putFlow 138 = .ok (.return_, 1) := by decide +kernel
theorem dX4_putBlock_0 : decode cX4_putBlock 0 = .ok (.aload_n 1, 1) := by decide +kernel
theorem dX4_putBlock_1 : decode cX4_putBlock 1 = .ok (.getfield 63, 3) := by decide +kernel
theorem dX4_putBlock_4 : decode cX4_putBlock 4 = .ok (.astore 5, 2) := by decide +kernel
theorem dX4_putBlock_6 : decode cX4_putBlock 6 = .ok (.aload_n 2, 1) := by decide +kernel
theorem dX4_putBlock_7 : decode cX4_putBlock 7 = .ok (.getfield 87, 3) := by decide +kernel
theorem dX4_putBlock_10 : decode cX4_putBlock 10 = .ok (.astore 6, 2) := by decide +kernel
theorem dX4_putBlock_12 : decode cX4_putBlock 12 = .ok (.aload_n 0, 1) := by decide +kernel
theorem dX4_putBlock_13 : decode cX4_putBlock 13 = .ok (.getfield 12, 3) := by decide +kernel
theorem dX4_putBlock_16 : decode cX4_putBlock 16 = .ok (.aload_n 1, 1) := by decide +kernel
theorem dX4_putBlock_17 : decode cX4_putBlock 17 = .ok (.iconst 3, 1) := by decide +kernel
theorem dX4_putBlock_18 : decode cX4_putBlock 18 = .ok (.invokevirtual 110, 3) := by decide +kernel
theorem dX4_putBlock_21 : decode cX4_putBlock 21 = .ok (.istore 7, 2) := by decide +kernel
theorem dX4_putBlock_23 : decode cX4_putBlock 23 = .ok (.aload 6, 2) := by decide +kernel
theorem dX4_putBlock_25 : decode cX4_putBlock 25 = .ok (.dup, 1) := by decide +kernel
theorem dX4_putBlock_26 : decode cX4_putBlock 26 = .ok (.getfield 197, 3) := by decide +kernel
theorem dX4_putBlock_29 : decode cX4_putBlock 29 = .ok (.iconst 0, 1) := by decide +kernel
theorem dX4_putBlock_30 : decode cX4_putBlock 30 = .ok (.iload 7, 2) := by decide +kernel
theorem dX4_putBlock_32 : decode cX4_putBlock 32 = .ok (.aload 6, 2) := by decide +kernel
theorem dX4_putBlock_34 : decode cX4_putBlock 34 = .ok (.getfield 200, 3) := by decide +kernel
theorem dX4_putBlock_37 : decode cX4_putBlock 37 = .ok (.isub, 1) := by decide +kernel
theorem dX4_putBlock_38 : decode cX4_putBlock 38 = .ok (.invokestatic 187, 3) := by decide +kernel
theorem dX4_putBlock_41 : decode cX4_putBlock 41 = .ok (.iadd, 1) := by decide +kernel
theorem dX4_putBlock_42 : decode cX4_putBlock 42 = .ok (.putfield 197, 3) := by decide +kernel
theorem dX4_putBlock_45 : decode cX4_putBlock 45 = .ok (.aload 6, 2) := by decide +kernel
theorem dX4_putBlock_47 : decode cX4_putBlock 47 = .ok (.aload_n 0, 1) := by decide +kernel
theorem dX4_putBlock_48 : decode cX4_putBlock 48 = .ok (.getfield 21, 3) := by decide +kernel
theorem dX4_putBlock_51 : decode cX4_putBlock 51 = .ok (.aload 6, 2) := by decide +kernel
theorem dX4_putBlock_53 : decode cX4_putBlock 53 = .ok (.getfield 94, 3) := by decide +kernel
theorem dX4_putBlock_56 : decode cX4_putBlock 56 = .ok (.aload_n 0, 1) := by decide +kernel
theorem dX4_putBlock_57 : decode cX4_putBlock 57 = .ok (.getfield 12, 3) := by decide +kernel
theorem dX4_putBlock_60 : decode cX4_putBlock 60 = .ok (.aload_n 1, 1) := by decide +kernel
theorem dX4_putBlock_61 : decode cX4_putBlock 61 = .ok (.bipush 7, 2) := by decide +kernel
theorem dX4_putBlock_63 : decode cX4_putBlock 63 = .ok (.invokevirtual 110, 3) := by decide +kernel
theorem dX4_putBlock_66 : decode cX4_putBlock 66 = .ok (.aload 6, 2) := by decide +kernel
theorem dX4_putBlock_68 : decode cX4_putBlock 68 = .ok (.getfield 197, 3) := by decide +kernel
theorem dX4_putBlock_71 : decode cX4_putBlock 71 = .ok (.invokevirtual 211, 3) := by decide +kernel
theorem dX4_putBlock_74 : decode cX4_putBlock 74 = .ok (.putfield 197, 3) := by decide +kernel
theorem dX4_putBlock_77 : decode cX4_putBlock 77 = .ok (.aload 5, 2) := by decide +kernel
theorem dX4_putBlock_79 : decode cX4_putBlock 79 = .ok (.aload_n 2, 1) := by decide +kernel
theorem dX4_putBlock_80 : decode cX4_putBlock 80 = .ok (.getfield 63, 3) := by decide +kernel
theorem dX4_putBlock_83 : decode cX4_putBlock 83 = .ok (.getfield 74, 3) := by decide +kernel
theorem dX4_putBlock_86 : decode cX4_putBlock 86 = .ok (.aload 5, 2) := by decide +kernel
theorem dX4_putBlock_88 : decode cX4_putBlock 88 = .ok (.getfield 69, 3) := by decide +kernel
theorem dX4_putBlock_91 : decode cX4_putBlock 91 = .ok (.iadd, 1) := by decide +kernel
theorem dX4_putBlock_92 : decode cX4_putBlock 92 = .ok (.putfield 74, 3) := by decide +kernel
theorem dX4_putBlock_95 : decode cX4_putBlock 95 = .ok (.aload 5, 2) := by decide +kernel
theorem dX4_putBlock_97 : decode cX4_putBlock 97 = .ok (.aload 6, 2) := by decide +kernel
theorem dX4_putBlock_99 : decode cX4_putBlock 99 = .ok (.getfield 197, 3) := by decide +kernel
theorem dX4_putBlock_102 : decode cX4_putBlock 102 = .ok (.aload 5, 2) := by decide +kernel
theorem dX4_putBlock_104 : decode cX4_putBlock 104 = .ok (.getfield 164, 3) := by decide +kernel
theorem dX4_putBlock_107 : decode cX4_putBlock 107 = .ok (.iadd, 1) := by decide +kernel
theorem dX4_putBlock_108 : decode cX4_putBlock 108 = .ok (.putfield 77, 3) := by decide +kernel
theorem dX4_putBlock_111 : decode cX4_putBlock 111 = .ok (.aload 5, 2) := by decide +kernel
theorem dX4_putBlock_113 : decode cX4_putBlock 113 = .ok (.aload_n 0, 1) := by decide +kernel
theorem dX4_putBlock_114 : decode cX4_putBlock 114 = .ok (.aload_n 1, 1) := by decide +kernel
theorem dX4_putBlock_115 : decode cX4_putBlock 115 = .ok (.aload_n 2, 1) := by decide +kernel
theorem dX4_putBlock_116 : decode cX4_putBlock 116 = .ok (.getfield 63, 3) := by decide +kernel
theorem dX4_putBlock_119 : decode cX4_putBlock 119 = .ok (.getfield 84, 3) := by decide +kernel
theorem dX4_putBlock_122 : decode cX4_putBlock 122 = .ok (.iconst 2, 1) := by decide +kernel
theorem dX4_putBlock_123 : decode cX4_putBlock 123 = .ok (.aload 5, 2) := by decide +kernel
theorem dX4_putBlock_125 : decode cX4_putBlock 125 = .ok (.getfield 69, 3) := by decide +kernel
theorem dX4_putBlock_128 : decode cX4_putBlock 128 = .ok (.imul, 1) := by decide +kernel
theorem dX4_putBlock_129 : decode cX4_putBlock 129 = .ok (.isub, 1) := by decide +kernel
theorem dX4_putBlock_130 : decode cX4_putBlock 130 = .ok (.invokevirtual 80, 3) := by decide +kernel
theorem dX4_putBlock_133 : decode cX4_putBlock 133 = .ok (.putfield 84, 3) := by decide +kernel
theorem dX4_putBlock_136 : decode cX4_putBlock 136 = .ok (.aload_n 1, 1) := by decide +kernel
theorem dX4_putBlock_137 : decode cX4_putBlock 137 = .ok (.getfield 87, 3) := by decide +kernel
theorem dX4_putBlock_140 : decode cX4_putBlock 140 = .ok (.aload 5, 2) := by decide +kernel
theorem dX4_putBlock_142 : decode cX4_putBlock 142 = .ok (.getfield 171, 3) := by decide +kernel
theorem dX4_putBlock_145 : decode cX4_putBlock 145 = .ok (.ifCond .eq 10, 3) := by decide +kernel
theorem dX4_putBlock_148 : decode cX4_putBlock 148 = .ok (.aload_n 1, 1) := by decide +kernel
theorem dX4_putBlock_149 : decode cX4_putBlock 149 = .ok (.getfield 91, 3) := by decide +kernel
theorem dX4_putBlock_152 : decode cX4_putBlock 152 = .ok (.goto 8, 3) := by decide +kernel
theorem dX4_putBlock_155 : decode cX4_putBlock 155 = .ok (.aload 6, 2) := by decide +kernel
theorem dX4_putBlock_157 : decode cX4_putBlock 157 = .ok (.getfield 94, 3) := by decide +kernel
theorem dX4_putBlock_160 : decode cX4_putBlock 160 = .ok (.putfield 94, 3) := by decide +kernel
theorem dX4_putBlock_163 : decode cX4_putBlock 163 = .ok (.aload_n 0, 1) := by decide +kernel
theorem dX4_putBlock_164 : decode cX4_putBlock 164 = .ok (.aload_n 1, 1) := by decide +kernel
theorem dX4_putBlock_165 : decode cX4_putBlock 165 = .ok (.aload_n 3, 1) := by decide +kernel
theorem dX4_putBlock_166 : decode cX4_putBlock 166 = .ok (.iload 4, 2) := by decide +kernel
theorem dX4_putBlock_168 : decode cX4_putBlock 168 = .ok (.invokevirtual 99, 3) := by decide +kernel
theorem dX4_putBlock_171 : decode cX4_putBlock 171 = .ok (.aload 6, 2) := by decide +kernel
theorem dX4_putBlock_173 : decode cX4_putBlock 173 = .ok (.dup, 1) := by decide +kernel
theorem dX4_putBlock_174 : decode cX4_putBlock 174 = .ok (.getfield 197, 3) := by decide +kernel
theorem dX4_putBlock_177 : decode cX4_putBlock 177 = .ok (.aload 5, 2) := by decide +kernel
theorem dX4_putBlock_179 : decode cX4_putBlock 179 = .ok (.getfield 218, 3) := by decide +kernel
theorem dX4_putBlock_182 : decode cX4_putBlock 182 = .ok (.iconst 2, 1) := by decide +kernel
theorem dX4_putBlock_183 : decode cX4_putBlock 183 = .ok (.aload 5, 2) := by decide +kernel
theorem dX4_putBlock_185 : decode cX4_putBlock 185 = .ok (.getfield 164, 3) := by decide +kernel
theorem dX4_putBlock_188 : decode cX4_putBlock 188 = .ok (.imul, 1) := by decide +kernel
theorem dX4_putBlock_189 : decode cX4_putBlock 189 = .ok (.iadd, 1) := by decide +kernel
theorem dX4_putBlock_190 : decode cX4_putBlock 190 = .ok (.iload 7, 2) := by decide +kernel
theorem dX4_putBlock_192 : decode cX4_putBlock 192 = .ok (.iadd, 1) := by decide +kernel
theorem dX4_putBlock_193 : decode cX4_putBlock 193 = .ok (.iadd, 1) := by decide +kernel
theorem dX4_putBlock_194 : decode cX4_putBlock 194 = .ok (.putfield 197, 3) := by decide +kernel
theorem dX4_putBlock_197 : decode cX4_putBlock 197 = .ok (.aload 6, 2) := by decide +kernel
theorem dX4_putBlock_199 : decode cX4_putBlock 199 = .ok (.iload 7, 2) := by decide +kernel
theorem dX4_putBlock_201 : decode cX4_putBlock 201 = .ok (.putfield 200, 3) := by decide +kernel
theorem dX4_putBlock_204 : decode cX4_putBlock 204 = .ok (.return_, 1) := by decide +kernel
theorem dX4_putFloat_0 : decode cX4_putFloat 0 = .ok (.aload_n 1, 1) := by decide +kernel
theorem dX4_putFloat_1 : decode cX4_putFloat 1 = .ok (.getfield 63, 3) := by decide +kernel
theorem dX4_putFloat_4 : decode cX4_putFloat 4 = .ok (.astore 5, 2) := by decide +kernel
theorem dX4_putFloat_6 : decode cX4_putFloat 6 = .ok (.aload_n 2, 1) := by decide +kernel
theorem dX4_putFloat_7 : decode cX4_putFloat 7 = .ok (.getfield 87, 3) := by decide +kernel
theorem dX4_putFloat_10 : decode cX4_putFloat 10 = .ok (.getfield 94, 3) := by decide +kernel
theorem dX4_putFloat_13 : decode cX4_putFloat 13 = .ok (.istore 6, 2) := by decide +kernel
theorem dX4_putFloat_15 : decode cX4_putFloat 15 = .ok (.aload_n 0, 1) := by decide +kernel
theorem dX4_putFloat_16 : decode cX4_putFloat 16 = .ok (.getfield 12, 3) := by decide +kernel
theorem dX4_putFloat_19 : decode cX4_putFloat 19 = .ok (.aload_n 1, 1) := by decide +kernel
theorem dX4_putFloat_20 : decode cX4_putFloat 20 = .ok (.bipush 6, 2) := by decide +kernel
theorem dX4_putFloat_22 : decode cX4_putFloat 22 = .ok (.invokevirtual 110, 3) := by decide +kernel
theorem dX4_putFloat_25 : decode cX4_putFloat 25 = .ok (.istore 7, 2) := by decide +kernel
theorem dX4_putFloat_27 : decode cX4_putFloat 27 = .ok (.iconst 0, 1) := by decide +kernel
theorem dX4_putFloat_28 : decode cX4_putFloat 28 = .ok (.aload_n 2, 1) := by decide +kernel
theorem dX4_putFloat_29 : decode cX4_putFloat 29 = .ok (.getfield 63, 3) := by decide +kernel
theorem dX4_putFloat_32 : decode cX4_putFloat 32 = .ok (.getfield 84, 3) := by decide +kernel
theorem dX4_putFloat_35 : decode cX4_putFloat 35 = .ok (.iconst 2, 1) := by decide +kernel
theorem dX4_putFloat_36 : decode cX4_putFloat 36 = .ok (.aload 5, 2) := by decide +kernel
theorem dX4_putFloat_38 : decode cX4_putFloat 38 = .ok (.getfield 69, 3) := by decide +kernel
theorem dX4_putFloat_41 : decode cX4_putFloat 41 = .ok (.imul, 1) := by decide +kernel
theorem dX4_putFloat_42 : decode cX4_putFloat 42 = .ok (.isub, 1) := by decide +kernel
theorem dX4_putFloat_43 : decode cX4_putFloat 43 = .ok (.invokestatic 187, 3) := by decide +kernel
theorem dX4_putFloat_46 : decode cX4_putFloat 46 = .ok (.istore 8, 2) := by decide +kernel
theorem dX4_putFloat_48 : decode cX4_putFloat 48 = .ok (.aload 5, 2) := by decide +kernel
theorem dX4_putFloat_50 : decode cX4_putFloat 50 = .ok (.aload_n 0, 1) := by decide +kernel
theorem dX4_putFloat_51 : decode cX4_putFloat 51 = .ok (.aload_n 1, 1) := by decide +kernel
theorem dX4_putFloat_52 : decode cX4_putFloat 52 = .ok (.aload_n 1, 1) := by decide +kernel
theorem dX4_putFloat_53 : decode cX4_putFloat 53 = .ok (.getfield 87, 3) := by decide +kernel
theorem dX4_putFloat_56 : decode cX4_putFloat 56 = .ok (.getfield 182, 3) := by decide +kernel
theorem dX4_putFloat_59 : decode cX4_putFloat 59 = .ok (.iload 8, 2) := by decide +kernel
theorem dX4_putFloat_61 : decode cX4_putFloat 61 = .ok (.invokestatic 232, 3) := by decide +kernel
theorem dX4_putFloat_64 : decode cX4_putFloat 64 = .ok (.invokevirtual 80, 3) := by decide +kernel
theorem dX4_putFloat_67 : decode cX4_putFloat 67 = .ok (.putfield 84, 3) := by decide +kernel
theorem dX4_putFloat_70 : decode cX4_putFloat 70 = .ok (.aload 5, 2) := by decide +kernel
theorem dX4_putFloat_72 : decode cX4_putFloat 72 = .ok (.getfield 84, 3) := by decide +kernel
theorem dX4_putFloat_75 : decode cX4_putFloat 75 = .ok (.iconst 2, 1) := by decide +kernel
theorem dX4_putFloat_76 : decode cX4_putFloat 76 = .ok (.aload 5, 2) := by decide +kernel
theorem dX4_putFloat_78 : decode cX4_putFloat 78 = .ok (.getfield 69, 3) := by decide +kernel
theorem dX4_putFloat_81 : decode cX4_putFloat 81 = .ok (.imul, 1) := by decide +kernel
theorem dX4_putFloat_82 : decode cX4_putFloat 82 = .ok (.iadd, 1) := by decide +kernel
theorem dX4_putFloat_83 : decode cX4_putFloat 83 = .ok (.istore 9, 2) := by decide +kernel
theorem dX4_putFloat_85 : decode cX4_putFloat 85 = .ok (.aload_n 0, 1) := by decide +kernel
theorem dX4_putFloat_86 : decode cX4_putFloat 86 = .ok (.getfield 21, 3) := by decide +kernel
theorem dX4_putFloat_89 : decode cX4_putFloat 89 = .ok (.iload 6, 2) := by decide +kernel
theorem dX4_putFloat_91 : decode cX4_putFloat 91 = .ok (.aload_n 2, 1) := by decide +kernel
theorem dX4_putFloat_92 : decode cX4_putFloat 92 = .ok (.getfield 87, 3) := by decide +kernel
theorem dX4_putFloat_95 : decode cX4_putFloat 95 = .ok (.getfield 197, 3) := by decide +kernel
theorem dX4_putFloat_98 : decode cX4_putFloat 98 = .ok (.invokevirtual 235, 3) := by decide +kernel
theorem dX4_putFloat_101 : decode cX4_putFloat 101 = .ok (.istore 10, 2) := by decide +kernel
theorem dX4_putFloat_103 : decode cX4_putFloat 103 = .ok (.aload_n 0, 1) := by decide +kernel
theorem dX4_putFloat_104 : decode cX4_putFloat 104 = .ok (.getfield 21, 3) := by decide +kernel
theorem dX4_putFloat_107 : decode cX4_putFloat 107 = .ok (.iload 6, 2) := by decide +kernel
theorem dX4_putFloat_109 : decode cX4_putFloat 109 = .ok (.aload_n 0, 1) := by decide +kernel
theorem dX4_putFloat_110 : decode cX4_putFloat 110 = .ok (.getfield 12, 3) := by decide +kernel
theorem dX4_putFloat_113 : decode cX4_putFloat 113 = .ok (.aload_n 1, 1) := by decide +kernel
theorem dX4_putFloat_114 : decode cX4_putFloat 114 = .ok (.bipush 7, 2) := by decide +kernel
theorem dX4_putFloat_116 : decode cX4_putFloat 116 = .ok (.invokevirtual 110, 3) := by decide +kernel
theorem dX4_putFloat_119 : decode cX4_putFloat 119 = .ok (.iload 10, 2) := by decide +kernel
theorem dX4_putFloat_121 : decode cX4_putFloat 121 = .ok (.invokevirtual 211, 3) := by decide +kernel
theorem dX4_putFloat_124 : decode cX4_putFloat 124 = .ok (.istore 10, 2) := by decide +kernel
theorem dX4_putFloat_126 : decode cX4_putFloat 126 = .ok (.aload_n 0, 1) := by decide +kernel
theorem dX4_putFloat_127 : decode cX4_putFloat 127 = .ok (.getfield 21, 3) := by decide +kernel
theorem dX4_putFloat_130 : decode cX4_putFloat 130 = .ok (.iload 9, 2) := by decide +kernel
theorem dX4_putFloat_132 : decode cX4_putFloat 132 = .ok (.aload_n 2, 1) := by decide +kernel
theorem dX4_putFloat_133 : decode cX4_putFloat 133 = .ok (.iload 10, 2) := by decide +kernel
theorem dX4_putFloat_135 : decode cX4_putFloat 135 = .ok (.invokevirtual 238, 3) := by decide +kernel
theorem dX4_putFloat_138 : decode cX4_putFloat 138 = .ok (.istore 10, 2) := by decide +kernel
theorem dX4_putFloat_140 : decode cX4_putFloat 140 = .ok (.iload 7, 2) := by decide +kernel
theorem dX4_putFloat_142 : decode cX4_putFloat 142 = .ok (.iconst 1, 1) := by decide +kernel
theorem dX4_putFloat_143 : decode cX4_putFloat 143 = .ok (.if_icmp .ne 13, 3) := by decide +kernel
theorem dX4_putFloat_146 : decode cX4_putFloat 146 = .ok (.aload_n 0, 1) := by decide +kernel
theorem dX4_putFloat_147 : decode cX4_putFloat 147 = .ok (.getfield 21, 3) := by decide +kernel
theorem dX4_putFloat_150 : decode cX4_putFloat 150 = .ok (.getfield 242, 3) := by decide +kernel
theorem dX4_putFloat_153 : decode cX4_putFloat 153 = .ok (.goto 13, 3) := by decide +kernel
theorem dX4_putFloat_156 : decode cX4_putFloat 156 = .ok (.aload_n 0, 1) := by decide +kernel
theorem dX4_putFloat_157 : decode cX4_putFloat 157 = .ok (.getfield 21, 3) := by decide +kernel
theorem dX4_putFloat_160 : decode cX4_putFloat 160 = .ok (.getfield 245, 3) := by decide +kernel
theorem dX4_putFloat_163 : decode cX4_putFloat 163 = .ok (.iload 9, 2) := by decide +kernel
theorem dX4_putFloat_165 : decode cX4_putFloat 165 = .ok (.isub, 1) := by decide +kernel
theorem dX4_putFloat_166 : decode cX4_putFloat 166 = .ok (.istore 11, 2) := by decide +kernel
theorem dX4_putFloat_168 : decode cX4_putFloat 168 = .ok (.aload 5, 2) := by decide +kernel
theorem dX4_putFloat_170 : decode cX4_putFloat 170 = .ok (.iload 11, 2) := by decide +kernel
theorem dX4_putFloat_172 : decode cX4_putFloat 172 = .ok (.aload 5, 2) := by decide +kernel
theorem dX4_putFloat_174 : decode cX4_putFloat 174 = .ok (.getfield 69, 3) := by decide +kernel
theorem dX4_putFloat_177 : decode cX4_putFloat 177 = .ok (.iadd, 1) := by decide +kernel
theorem dX4_putFloat_178 : decode cX4_putFloat 178 = .ok (.putfield 74, 3) := by decide +kernel
theorem dX4_putFloat_181 : decode cX4_putFloat 181 = .ok (.aload 5, 2) := by decide +kernel
theorem dX4_putFloat_183 : decode cX4_putFloat 183 = .ok (.iload 10, 2) := by decide +kernel
theorem dX4_putFloat_185 : decode cX4_putFloat 185 = .ok (.aload 5, 2) := by decide +kernel
theorem dX4_putFloat_187 : decode cX4_putFloat 187 = .ok (.getfield 69, 3) := by decide +kernel
theorem dX4_putFloat_190 : decode cX4_putFloat 190 = .ok (.iadd, 1) := by decide +kernel
theorem dX4_putFloat_191 : decode cX4_putFloat 191 = .ok (.putfield 77, 3) := by decide +kernel
theorem dX4_putFloat_194 : decode cX4_putFloat 194 = .ok (.aload_n 1, 1) := by decide +kernel
theorem dX4_putFloat_195 : decode cX4_putFloat 195 = .ok (.getfield 87, 3) := by decide +kernel
theorem dX4_putFloat_198 : decode cX4_putFloat 198 = .ok (.aload_n 1, 1) := by decide +kernel
theorem dX4_putFloat_199 : decode cX4_putFloat 199 = .ok (.getfield 91, 3) := by decide +kernel
theorem dX4_putFloat_202 : decode cX4_putFloat 202 = .ok (.putfield 94, 3) := by decide +kernel
theorem dX4_putFloat_205 : decode cX4_putFloat 205 = .ok (.aload_n 0, 1) := by decide +kernel
theorem dX4_putFloat_206 : decode cX4_putFloat 206 = .ok (.aload_n 1, 1) := by decide +kernel
theorem dX4_putFloat_207 : decode cX4_putFloat 207 = .ok (.aload_n 3, 1) := by decide +kernel
theorem dX4_putFloat_208 : decode cX4_putFloat 208 = .ok (.iload 4, 2) := by decide +kernel
theorem dX4_putFloat_210 : decode cX4_putFloat 210 = .ok (.invokevirtual 99, 3) := by decide +kernel
theorem dX4_putFloat_213 : decode cX4_putFloat 213 = .ok (.aload_n 0, 1) := by decide +kernel
theorem dX4_putFloat_214 : decode cX4_putFloat 214 = .ok (.getfield 21, 3) := by decide +kernel
theorem dX4_putFloat_217 : decode cX4_putFloat 217 = .ok (.iload 6, 2) := by decide +kernel
theorem dX4_putFloat_219 : decode cX4_putFloat 219 = .ok (.iload 7, 2) := by decide +kernel
theorem dX4_putFloat_221 : decode cX4_putFloat 221 = .ok (.iload 11, 2) := by decide +kernel
theorem dX4_putFloat_223 : decode cX4_putFloat 223 = .ok (.iload 10, 2) := by decide +kernel
theorem dX4_putFloat_225 : decode cX4_putFloat 225 = .ok (.iload 9, 2) := by decide +kernel
theorem dX4_putFloat_227 : decode cX4_putFloat 227 = .ok (.aload 5, 2) := by decide +kernel
theorem dX4_putFloat_229 : decode cX4_putFloat 229 = .ok (.getfield 218, 3) := by decide +kernel
theorem dX4_putFloat_232 : decode cX4_putFloat 232 = .ok (.iconst 2, 1) := by decide +kernel
theorem dX4_putFloat_233 : decode cX4_putFloat 233 = .ok (.aload 5, 2) := by decide +kernel
theorem dX4_putFloat_235 : decode cX4_putFloat 235 = .ok (.getfield 69, 3) := by decide +kernel
theorem dX4_putFloat_238 : decode cX4_putFloat 238 = .ok (.imul, 1) := by decide +kernel
theorem dX4_putFloat_239 : decode cX4_putFloat 239 = .ok (.iadd, 1) := by decide +kernel
theorem dX4_putFloat_240 : decode cX4_putFloat 240 = .ok (.invokevirtual 248, 3) := by decide +kernel
theorem dX4_putFloat_243 : decode cX4_putFloat 243 = .ok (.return_, 1) := by decide +kernel
theorem dX4_putLines_0 : decode cX4_putLines 0 = .ok (.aload_n 0, 1) := by decide +kernel
theorem dX4_putLines_1 : decode cX4_putLines 1 = .ok (.getfield 12, 3) := by decide +kernel
theorem dX4_putLines_4 : decode cX4_putLines 4 = .ok (.aload_n 1, 1) := by decide +kernel
theorem dX4_putLines_5 : decode cX4_putLines 5 = .ok (.bipush 10, 2) := by decide +kernel
theorem dX4_putLines_7 : decode cX4_putLines 7 = .ok (.invokevirtual 110, 3) := by decide +kernel
theorem dX4_putLines_10 : decode cX4_putLines 10 = .ok (.istore_n 2, 1) := by decide +kernel
theorem dX4_putLines_11 : decode cX4_putLines 11 = .ok (.iconst 0, 1) := by decide +kernel
theorem dX4_putLines_12 : decode cX4_putLines 12 = .ok (.istore_n 3, 1) := by decide +kernel
theorem dX4_putLines_13 : decode cX4_putLines 13 = .ok (.iconst 0, 1) := by decide +kernel
theorem dX4_putLines_14 : decode cX4_putLines 14 = .ok (.istore 4, 2) := by decide +kernel
theorem dX4_putLines_16 : decode cX4_putLines 16 = .ok (.iload 4, 2) := by decide +kernel
theorem dX4_putLines_18 : decode cX4_putLines 18 = .ok (.sipush 800, 3) := by decide +kernel
theorem dX4_putLines_21 : decode cX4_putLines 21 = .ok (.if_icmp .ge 205, 3) := by decide +kernel
theorem dX4_putLines_24 : decode cX4_putLines 24 = .ok (.iload_n 3, 1) := by decide +kernel
theorem dX4_putLines_25 : decode cX4_putLines 25 = .ok (.aload_n 0, 1) := by decide +kernel
theorem dX4_putLines_26 : decode cX4_putLines 26 = .ok (.getfield 28, 3) := by decide +kernel
theorem dX4_putLines_29 : decode cX4_putLines 29 = .ok (.getfield 252, 3) := by decide +kernel
theorem dX4_putLines_32 : decode cX4_putLines 32 = .ok (.if_icmp .ge 194, 3) := by decide +kernel
theorem dX4_putLines_35 : decode cX4_putLines 35 = .ok (.aload_n 0, 1) := by decide +kernel
theorem dX4_putLines_36 : decode cX4_putLines 36 = .ok (.getfield 21, 3) := by decide +kernel
theorem dX4_putLines_39 : decode cX4_putLines 39 = .ok (.aload_n 0, 1) := by decide +kernel
theorem dX4_putLines_40 : decode cX4_putLines 40 = .ok (.getfield 28, 3) := by decide +kernel
theorem dX4_putLines_43 : decode cX4_putLines 43 = .ok (.iload_n 3, 1) := by decide +kernel
theorem dX4_putLines_44 : decode cX4_putLines 44 = .ok (.invokevirtual 255, 3) := by decide +kernel
theorem dX4_putLines_47 : decode cX4_putLines 47 = .ok (.aload_n 1, 1) := by decide +kernel
theorem dX4_putLines_48 : decode cX4_putLines 48 = .ok (.aload_n 1, 1) := by decide +kernel
theorem dX4_putLines_49 : decode cX4_putLines 49 = .ok (.getfield 87, 3) := by decide +kernel
theorem dX4_putLines_52 : decode cX4_putLines 52 = .ok (.getfield 197, 3) := by decide +kernel
theorem dX4_putLines_55 : decode cX4_putLines 55 = .ok (.invokevirtual 238, 3) := by decide +kernel
theorem dX4_putLines_58 : decode cX4_putLines 58 = .ok (.istore 5, 2) := by decide +kernel
theorem dX4_putLines_60 : decode cX4_putLines 60 = .ok (.aload_n 0, 1) := by decide +kernel
theorem dX4_putLines_61 : decode cX4_putLines 61 = .ok (.getfield 21, 3) := by decide +kernel
theorem dX4_putLines_64 : decode cX4_putLines 64 = .ok (.getfield 245, 3) := by decide +kernel
theorem dX4_putLines_67 : decode cX4_putLines 67 = .ok (.aload_n 0, 1) := by decide +kernel
theorem dX4_putLines_68 : decode cX4_putLines 68 = .ok (.getfield 21, 3) := by decide +kernel
theorem dX4_putLines_71 : decode cX4_putLines 71 = .ok (.getfield 242, 3) := by decide +kernel
theorem dX4_putLines_74 : decode cX4_putLines 74 = .ok (.isub, 1) := by decide +kernel
theorem dX4_putLines_75 : decode cX4_putLines 75 = .ok (.istore 6, 2) := by decide +kernel
theorem dX4_putLines_77 : decode cX4_putLines 77 = .ok (.aload_n 0, 1) := by decide +kernel
theorem dX4_putLines_78 : decode cX4_putLines 78 = .ok (.getfield 28, 3) := by decide +kernel
theorem dX4_putLines_81 : decode cX4_putLines 81 = .ok (.iload_n 3, 1) := by decide +kernel
theorem dX4_putLines_82 : decode cX4_putLines 82 = .ok (.iload 6, 2) := by decide +kernel
theorem dX4_putLines_84 : decode cX4_putLines 84 = .ok (.invokevirtual 258, 3) := by decide +kernel
theorem dX4_putLines_87 : decode cX4_putLines 87 = .ok (.istore 7, 2) := by decide +kernel
theorem dX4_putLines_89 : decode cX4_putLines 89 = .ok (.iconst 0, 1) := by decide +kernel
theorem dX4_putLines_90 : decode cX4_putLines 90 = .ok (.iload 6, 2) := by decide +kernel
theorem dX4_putLines_92 : decode cX4_putLines 92 = .ok (.aload_n 0, 1) := by decide +kernel
theorem dX4_putLines_93 : decode cX4_putLines 93 = .ok (.getfield 28, 3) := by decide +kernel
theorem dX4_putLines_96 : decode cX4_putLines 96 = .ok (.getfield 261, 3) := by decide +kernel
theorem dX4_putLines_99 : decode cX4_putLines 99 = .ok (.isub, 1) := by decide +kernel
theorem dX4_putLines_100 : decode cX4_putLines 100 = .ok (.invokestatic 187, 3) := by decide +kernel
theorem dX4_putLines_103 : decode cX4_putLines 103 = .ok (.istore 8, 2) := by decide +kernel
theorem dX4_putLines_105 : decode cX4_putLines 105 = .ok (.iload_n 2, 1) := by decide +kernel
theorem dX4_putLines_106 : decode cX4_putLines 106 = .ok (.ifCond .ne 7, 3) := by decide +kernel
theorem dX4_putLines_109 : decode cX4_putLines 109 = .ok (.iconst 0, 1) := by decide +kernel
theorem dX4_putLines_110 : decode cX4_putLines 110 = .ok (.goto 17, 3) := by decide +kernel
theorem dX4_putLines_113 : decode cX4_putLines 113 = .ok (.iload_n 2, 1) := by decide +kernel
theorem dX4_putLines_114 : decode cX4_putLines 114 = .ok (.iconst 1, 1) := by decide +kernel
theorem dX4_putLines_115 : decode cX4_putLines 115 = .ok (.if_icmp .ne 10, 3) := by decide +kernel
theorem dX4_putLines_118 : decode cX4_putLines 118 = .ok (.iload 8, 2) := by decide +kernel
theorem dX4_putLines_120 : decode cX4_putLines 120 = .ok (.iconst 2, 1) := by decide +kernel
theorem dX4_putLines_121 : decode cX4_putLines 121 = .ok (.idiv, 1) := by decide +kernel
theorem dX4_putLines_122 : decode cX4_putLines 122 = .ok (.goto 5, 3) := by decide +kernel
theorem dX4_putLines_125 : decode cX4_putLines 125 = .ok (.iload 8, 2) := by decide +kernel
theorem dX4_putLines_127 : decode cX4_putLines 127 = .ok (.istore 9, 2) := by decide +kernel
theorem dX4_putLines_129 : decode cX4_putLines 129 = .ok (.aload_n 0, 1) := by decide +kernel
theorem dX4_putLines_130 : decode cX4_putLines 130 = .ok (.getfield 28, 3) := by decide +kernel
theorem dX4_putLines_133 : decode cX4_putLines 133 = .ok (.iload_n 3, 1) := by decide +kernel
theorem dX4_putLines_134 : decode cX4_putLines 134 = .ok (.iload 7, 2) := by decide +kernel
theorem dX4_putLines_136 : decode cX4_putLines 136 = .ok (.aload_n 0, 1) := by decide +kernel
theorem dX4_putLines_137 : decode cX4_putLines 137 = .ok (.getfield 21, 3) := by decide +kernel
theorem dX4_putLines_140 : decode cX4_putLines 140 = .ok (.getfield 242, 3) := by decide +kernel
theorem dX4_putLines_143 : decode cX4_putLines 143 = .ok (.iload 9, 2) := by decide +kernel
theorem dX4_putLines_145 : decode cX4_putLines 145 = .ok (.iadd, 1) := by decide +kernel
theorem dX4_putLines_146 : decode cX4_putLines 146 = .ok (.iload 5, 2) := by decide +kernel
theorem dX4_putLines_148 : decode cX4_putLines 148 = .ok (.invokevirtual 264, 3) := by decide +kernel
theorem dX4_putLines_151 : decode cX4_putLines 151 = .ok (.aload_n 1, 1) := by decide +kernel
theorem dX4_putLines_152 : decode cX4_putLines 152 = .ok (.getfield 87, 3) := by decide +kernel
theorem dX4_putLines_155 : decode cX4_putLines 155 = .ok (.iload 5, 2) := by decide +kernel
theorem dX4_putLines_157 : decode cX4_putLines 157 = .ok (.iconst 2, 1) := by decide +kernel
theorem dX4_putLines_158 : decode cX4_putLines 158 = .ok (.aload_n 0, 1) := by decide +kernel
theorem dX4_putLines_159 : decode cX4_putLines 159 = .ok (.getfield 28, 3) := by decide +kernel
theorem dX4_putLines_162 : decode cX4_putLines 162 = .ok (.getfield 268, 3) := by decide +kernel
theorem dX4_putLines_165 : decode cX4_putLines 165 = .ok (.imul, 1) := by decide +kernel
theorem dX4_putLines_166 : decode cX4_putLines 166 = .ok (.iadd, 1) := by decide +kernel
theorem dX4_putLines_167 : decode cX4_putLines 167 = .ok (.putfield 197, 3) := by decide +kernel
theorem dX4_putLines_170 : decode cX4_putLines 170 = .ok (.aload_n 1, 1) := by decide +kernel
theorem dX4_putLines_171 : decode cX4_putLines 171 = .ok (.getfield 87, 3) := by decide +kernel
theorem dX4_putLines_174 : decode cX4_putLines 174 = .ok (.iconst 0, 1) := by decide +kernel
theorem dX4_putLines_175 : decode cX4_putLines 175 = .ok (.putfield 200, 3) := by decide +kernel
theorem dX4_putLines_178 : decode cX4_putLines 178 = .ok (.aload_n 1, 1) := by decide +kernel
theorem dX4_putLines_179 : decode cX4_putLines 179 = .ok (.getfield 63, 3) := by decide +kernel
theorem dX4_putLines_182 : decode cX4_putLines 182 = .ok (.dup, 1) := by decide +kernel
theorem dX4_putLines_183 : decode cX4_putLines 183 = .ok (.getfield 203, 3) := by decide +kernel
theorem dX4_putLines_186 : decode cX4_putLines 186 = .ok (.iconst 1, 1) := by decide +kernel
theorem dX4_putLines_187 : decode cX4_putLines 187 = .ok (.iadd, 1) := by decide +kernel
theorem dX4_putLines_188 : decode cX4_putLines 188 = .ok (.putfield 203, 3) := by decide +kernel
theorem dX4_putLines_191 : decode cX4_putLines 191 = .ok (.aload_n 0, 1) := by decide +kernel
theorem dX4_putLines_192 : decode cX4_putLines 192 = .ok (.dup, 1) := by decide +kernel
theorem dX4_putLines_193 : decode cX4_putLines 193 = .ok (.getfield 36, 3) := by decide +kernel
theorem dX4_putLines_196 : decode cX4_putLines 196 = .ok (.iconst 1, 1) := by decide +kernel
theorem dX4_putLines_197 : decode cX4_putLines 197 = .ok (.iadd, 1) := by decide +kernel
theorem dX4_putLines_198 : decode cX4_putLines 198 = .ok (.putfield 36, 3) := by decide +kernel
theorem dX4_putLines_201 : decode cX4_putLines 201 = .ok (.aload_n 0, 1) := by decide +kernel
theorem dX4_putLines_202 : decode cX4_putLines 202 = .ok (.dup, 1) := by decide +kernel
theorem dX4_putLines_203 : decode cX4_putLines 203 = .ok (.getfield 39, 3) := by decide +kernel
theorem dX4_putLines_206 : decode cX4_putLines 206 = .ok (.aload_n 0, 1) := by decide +kernel
theorem dX4_putLines_207 : decode cX4_putLines 207 = .ok (.getfield 28, 3) := by decide +kernel
theorem dX4_putLines_210 : decode cX4_putLines 210 = .ok (.getfield 261, 3) := by decide +kernel
theorem dX4_putLines_213 : decode cX4_putLines 213 = .ok (.iadd, 1) := by decide +kernel
theorem dX4_putLines_214 : decode cX4_putLines 214 = .ok (.putfield 39, 3) := by decide +kernel
theorem dX4_putLines_217 : decode cX4_putLines 217 = .ok (.iload 7, 2) := by decide +kernel
theorem dX4_putLines_219 : decode cX4_putLines 219 = .ok (.istore_n 3, 1) := by decide +kernel
theorem dX4_putLines_220 : decode cX4_putLines 220 = .ok (.iinc 4 1, 3) := by decide +kernel
theorem dX4_putLines_223 : decode cX4_putLines 223 = .ok (.goto (-207), 3) := by decide +kernel
theorem dX4_putLines_226 : decode cX4_putLines 226 = .ok (.aload_n 0, 1) := by decide +kernel
theorem dX4_putLines_227 : decode cX4_putLines 227 = .ok (.getfield 28, 3) := by decide +kernel
theorem dX4_putLines_230 : decode cX4_putLines 230 = .ok (.invokevirtual 45, 3) := by decide +kernel
theorem dX4_putLines_233 : decode cX4_putLines 233 = .ok (.return_, 1) := by decide +kernel
theorem dX4_shift_0 : decode cX4_shift 0 = .ok (.iconst 0, 1) := by decide +kernel
theorem dX4_shift_1 : decode cX4_shift 1 = .ok (.istore_n 2, 1) := by decide +kernel
theorem dX4_shift_2 : decode cX4_shift 2 = .ok (.iload_n 2, 1) := by decide +kernel
theorem dX4_shift_3 : decode cX4_shift 3 = .ok (.aload_n 1, 1) := by decide +kernel
theorem dX4_shift_4 : decode cX4_shift 4 = .ok (.invokevirtual 143, 3) := by decide +kernel
theorem dX4_shift_7 : decode cX4_shift 7 = .ok (.if_icmp .ge 175, 3) := by decide +kernel
theorem dX4_shift_10 : decode cX4_shift 10 = .ok (.aload_n 1, 1) := by decide +kernel
theorem dX4_shift_11 : decode cX4_shift 11 = .ok (.iload_n 2, 1) := by decide +kernel
theorem dX4_shift_12 : decode cX4_shift 12 = .ok (.invokevirtual 149, 3) := by decide +kernel
theorem dX4_shift_15 : decode cX4_shift 15 = .ok (.checkcast 64, 3) := by decide +kernel
theorem dX4_shift_18 : decode cX4_shift 18 = .ok (.astore_n 3, 1) := by decide +kernel
theorem dX4_shift_19 : decode cX4_shift 19 = .ok (.aload_n 3, 1) := by decide +kernel
theorem dX4_shift_20 : decode cX4_shift 20 = .ok (.getfield 63, 3) := by decide +kernel
theorem dX4_shift_23 : decode cX4_shift 23 = .ok (.astore 4, 2) := by decide +kernel
theorem dX4_shift_25 : decode cX4_shift 25 = .ok (.aload 4, 2) := by decide +kernel
theorem dX4_shift_27 : decode cX4_shift 27 = .ok (.aload 4, 2) := by decide +kernel
theorem dX4_shift_29 : decode cX4_shift 29 = .ok (.invokevirtual 167, 3) := by decide +kernel
theorem dX4_shift_32 : decode cX4_shift 32 = .ok (.ifCond .eq 16, 3) := by decide +kernel
theorem dX4_shift_35 : decode cX4_shift 35 = .ok (.aload_n 0, 1) := by decide +kernel
theorem dX4_shift_36 : decode cX4_shift 36 = .ok (.getfield 12, 3) := by decide +kernel
theorem dX4_shift_39 : decode cX4_shift 39 = .ok (.aload_n 3, 1) := by decide +kernel
theorem dX4_shift_40 : decode cX4_shift 40 = .ok (.bipush 12, 2) := by decide +kernel
theorem dX4_shift_42 : decode cX4_shift 42 = .ok (.invokevirtual 110, 3) := by decide +kernel
theorem dX4_shift_45 : decode cX4_shift 45 = .ok (.goto 4, 3) := by decide +kernel
theorem dX4_shift_48 : decode cX4_shift 48 = .ok (.iconst 0, 1) := by decide +kernel
theorem dX4_shift_49 : decode cX4_shift 49 = .ok (.putfield 271, 3) := by decide +kernel
theorem dX4_shift_52 : decode cX4_shift 52 = .ok (.aload 4, 2) := by decide +kernel
theorem dX4_shift_54 : decode cX4_shift 54 = .ok (.aload 4, 2) := by decide +kernel
theorem dX4_shift_56 : decode cX4_shift 56 = .ok (.invokevirtual 167, 3) := by decide +kernel
theorem dX4_shift_59 : decode cX4_shift 59 = .ok (.ifCond .eq 16, 3) := by decide +kernel
theorem dX4_shift_62 : decode cX4_shift 62 = .ok (.aload_n 0, 1) := by decide +kernel
theorem dX4_shift_63 : decode cX4_shift 63 = .ok (.getfield 12, 3) := by decide +kernel
theorem dX4_shift_66 : decode cX4_shift 66 = .ok (.aload_n 3, 1) := by decide +kernel
theorem dX4_shift_67 : decode cX4_shift 67 = .ok (.bipush 13, 2) := by decide +kernel
theorem dX4_shift_69 : decode cX4_shift 69 = .ok (.invokevirtual 110, 3) := by decide +kernel
theorem dX4_shift_72 : decode cX4_shift 72 = .ok (.goto 4, 3) := by decide +kernel
theorem dX4_shift_75 : decode cX4_shift 75 = .ok (.iconst 0, 1) := by decide +kernel
theorem dX4_shift_76 : decode cX4_shift 76 = .ok (.putfield 274, 3) := by decide +kernel
theorem dX4_shift_79 : decode cX4_shift 79 = .ok (.aload 4, 2) := by decide +kernel
theorem dX4_shift_81 : decode cX4_shift 81 = .ok (.aload 4, 2) := by decide +kernel
theorem dX4_shift_83 : decode cX4_shift 83 = .ok (.getfield 171, 3) := by decide +kernel
theorem dX4_shift_86 : decode cX4_shift 86 = .ok (.ifCond .eq 28, 3) := by decide +kernel
theorem dX4_shift_89 : decode cX4_shift 89 = .ok (.aload_n 3, 1) := by decide +kernel
theorem dX4_shift_90 : decode cX4_shift 90 = .ok (.getfield 277, 3) := by decide +kernel
theorem dX4_shift_93 : decode cX4_shift 93 = .ok (.iconst 0, 1) := by decide +kernel
theorem dX4_shift_94 : decode cX4_shift 94 = .ok (.aload 4, 2) := by decide +kernel
theorem dX4_shift_96 : decode cX4_shift 96 = .ok (.getfield 215, 3) := by decide +kernel
theorem dX4_shift_99 : decode cX4_shift 99 = .ok (.aload 4, 2) := by decide +kernel
theorem dX4_shift_101 : decode cX4_shift 101 = .ok (.getfield 218, 3) := by decide +kernel
theorem dX4_shift_104 : decode cX4_shift 104 = .ok (.isub, 1) := by decide +kernel
theorem dX4_shift_105 : decode cX4_shift 105 = .ok (.invokestatic 187, 3) := by decide +kernel
theorem dX4_shift_108 : decode cX4_shift 108 = .ok (.invokestatic 232, 3) := by decide +kernel
theorem dX4_shift_111 : decode cX4_shift 111 = .ok (.goto 4, 3) := by decide +kernel
theorem dX4_shift_114 : decode cX4_shift 114 = .ok (.iconst 0, 1) := by decide +kernel
theorem dX4_shift_115 : decode cX4_shift 115 = .ok (.putfield 280, 3) := by decide +kernel
