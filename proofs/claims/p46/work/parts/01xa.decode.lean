theorem dX0_init_0 : decode cX0_init 0 = .ok (.aload_n 0, 1) := by decide +kernel
theorem dX0_init_1 : decode cX0_init 1 = .ok (.invokespecial 3, 3) := by decide +kernel
theorem dX0_init_4 : decode cX0_init 4 = .ok (.aload_n 0, 1) := by decide +kernel
theorem dX0_init_5 : decode cX0_init 5 = .ok (.bipush 40, 2) := by decide +kernel
theorem dX0_init_7 : decode cX0_init 7 = .ok (.newarray .int, 2) := by decide +kernel
theorem dX0_init_9 : decode cX0_init 9 = .ok (.putfield 9, 3) := by decide +kernel
theorem dX0_init_12 : decode cX0_init 12 = .ok (.aload_n 0, 1) := by decide +kernel
theorem dX0_init_13 : decode cX0_init 13 = .ok (.bipush 40, 2) := by decide +kernel
theorem dX0_init_15 : decode cX0_init 15 = .ok (.newarray .int, 2) := by decide +kernel
theorem dX0_init_17 : decode cX0_init 17 = .ok (.putfield 15, 3) := by decide +kernel
theorem dX0_init_20 : decode cX0_init 20 = .ok (.aload_n 0, 1) := by decide +kernel
theorem dX0_init_21 : decode cX0_init 21 = .ok (.bipush 40, 2) := by decide +kernel
theorem dX0_init_23 : decode cX0_init 23 = .ok (.newarray .int, 2) := by decide +kernel
theorem dX0_init_25 : decode cX0_init 25 = .ok (.putfield 18, 3) := by decide +kernel
theorem dX0_init_28 : decode cX0_init 28 = .ok (.aload_n 0, 1) := by decide +kernel
theorem dX0_init_29 : decode cX0_init 29 = .ok (.bipush 40, 2) := by decide +kernel
theorem dX0_init_31 : decode cX0_init 31 = .ok (.newarray .int, 2) := by decide +kernel
theorem dX0_init_33 : decode cX0_init 33 = .ok (.putfield 21, 3) := by decide +kernel
theorem dX0_init_36 : decode cX0_init 36 = .ok (.aload_n 0, 1) := by decide +kernel
theorem dX0_init_37 : decode cX0_init 37 = .ok (.bipush 40, 2) := by decide +kernel
theorem dX0_init_39 : decode cX0_init 39 = .ok (.newarray .int, 2) := by decide +kernel
theorem dX0_init_41 : decode cX0_init 41 = .ok (.putfield 24, 3) := by decide +kernel
theorem dX0_init_44 : decode cX0_init 44 = .ok (.aload_n 0, 1) := by decide +kernel
theorem dX0_init_45 : decode cX0_init 45 = .ok (.bipush 40, 2) := by decide +kernel
theorem dX0_init_47 : decode cX0_init 47 = .ok (.newarray .int, 2) := by decide +kernel
theorem dX0_init_49 : decode cX0_init 49 = .ok (.putfield 27, 3) := by decide +kernel
theorem dX0_init_52 : decode cX0_init 52 = .ok (.aload_n 0, 1) := by decide +kernel
theorem dX0_init_53 : decode cX0_init 53 = .ok (.iconst 0, 1) := by decide +kernel
theorem dX0_init_54 : decode cX0_init 54 = .ok (.putfield 30, 3) := by decide +kernel
theorem dX0_init_57 : decode cX0_init 57 = .ok (.aload_n 0, 1) := by decide +kernel
theorem dX0_init_58 : decode cX0_init 58 = .ok (.iconst 0, 1) := by decide +kernel
theorem dX0_init_59 : decode cX0_init 59 = .ok (.putfield 34, 3) := by decide +kernel
theorem dX0_init_62 : decode cX0_init 62 = .ok (.aload_n 0, 1) := by decide +kernel
theorem dX0_init_63 : decode cX0_init 63 = .ok (.iconst 0, 1) := by decide +kernel
theorem dX0_init_64 : decode cX0_init 64 = .ok (.putfield 37, 3) := by decide +kernel
theorem dX0_init_67 : decode cX0_init 67 = .ok (.aload_n 0, 1) := by decide +kernel
theorem dX0_init_68 : decode cX0_init 68 = .ok (.iconst 0, 1) := by decide +kernel
theorem dX0_init_69 : decode cX0_init 69 = .ok (.putfield 40, 3) := by decide +kernel
theorem dX0_init_72 : decode cX0_init 72 = .ok (.return_, 1) := by decide +kernel
theorem dX0_clear_0 : decode cX0_clear 0 = .ok (.aload_n 0, 1) := by decide +kernel
theorem dX0_clear_1 : decode cX0_clear 1 = .ok (.iconst 0, 1) := by decide +kernel
theorem dX0_clear_2 : decode cX0_clear 2 = .ok (.putfield 30, 3) := by decide +kernel
theorem dX0_clear_5 : decode cX0_clear 5 = .ok (.return_, 1) := by decide +kernel
theorem dX0_put_0 : decode cX0_put 0 = .ok (.aload_n 0, 1) := by decide +kernel
theorem dX0_put_1 : decode cX0_put 1 = .ok (.getfield 30, 3) := by decide +kernel
theorem dX0_put_4 : decode cX0_put 4 = .ok (.ifCond .lt 12, 3) := by decide +kernel
theorem dX0_put_7 : decode cX0_put 7 = .ok (.aload_n 0, 1) := by decide +kernel
theorem dX0_put_8 : decode cX0_put 8 = .ok (.getfield 30, 3) := by decide +kernel
theorem dX0_put_11 : decode cX0_put 11 = .ok (.bipush 40, 2) := by decide +kernel
theorem dX0_put_13 : decode cX0_put 13 = .ok (.if_icmp .lt 4, 3) := by decide +kernel
theorem dX0_put_16 : decode cX0_put 16 = .ok (.return_, 1) := by decide +kernel
theorem dX0_put_17 : decode cX0_put 17 = .ok (.aload_n 0, 1) := by decide +kernel
theorem dX0_put_18 : decode cX0_put 18 = .ok (.getfield 9, 3) := by decide +kernel
theorem dX0_put_21 : decode cX0_put 21 = .ok (.aload_n 0, 1) := by decide +kernel
theorem dX0_put_22 : decode cX0_put 22 = .ok (.getfield 30, 3) := by decide +kernel
theorem dX0_put_25 : decode cX0_put 25 = .ok (.iload_n 1, 1) := by decide +kernel
theorem dX0_put_26 : decode cX0_put 26 = .ok (.iastore, 1) := by decide +kernel
theorem dX0_put_27 : decode cX0_put 27 = .ok (.aload_n 0, 1) := by decide +kernel
theorem dX0_put_28 : decode cX0_put 28 = .ok (.getfield 15, 3) := by decide +kernel
theorem dX0_put_31 : decode cX0_put 31 = .ok (.aload_n 0, 1) := by decide +kernel
theorem dX0_put_32 : decode cX0_put 32 = .ok (.getfield 30, 3) := by decide +kernel
theorem dX0_put_35 : decode cX0_put 35 = .ok (.iload_n 2, 1) := by decide +kernel
theorem dX0_put_36 : decode cX0_put 36 = .ok (.iastore, 1) := by decide +kernel
theorem dX0_put_37 : decode cX0_put 37 = .ok (.aload_n 0, 1) := by decide +kernel
theorem dX0_put_38 : decode cX0_put 38 = .ok (.getfield 18, 3) := by decide +kernel
theorem dX0_put_41 : decode cX0_put 41 = .ok (.aload_n 0, 1) := by decide +kernel
theorem dX0_put_42 : decode cX0_put 42 = .ok (.getfield 30, 3) := by decide +kernel
theorem dX0_put_45 : decode cX0_put 45 = .ok (.iload_n 3, 1) := by decide +kernel
theorem dX0_put_46 : decode cX0_put 46 = .ok (.iastore, 1) := by decide +kernel
theorem dX0_put_47 : decode cX0_put 47 = .ok (.aload_n 0, 1) := by decide +kernel
theorem dX0_put_48 : decode cX0_put 48 = .ok (.getfield 21, 3) := by decide +kernel
theorem dX0_put_51 : decode cX0_put 51 = .ok (.aload_n 0, 1) := by decide +kernel
theorem dX0_put_52 : decode cX0_put 52 = .ok (.getfield 30, 3) := by decide +kernel
theorem dX0_put_55 : decode cX0_put 55 = .ok (.iload_n 3, 1) := by decide +kernel
theorem dX0_put_56 : decode cX0_put 56 = .ok (.iload 5, 2) := by decide +kernel
theorem dX0_put_58 : decode cX0_put 58 = .ok (.iadd, 1) := by decide +kernel
theorem dX0_put_59 : decode cX0_put 59 = .ok (.iastore, 1) := by decide +kernel
theorem dX0_put_60 : decode cX0_put 60 = .ok (.aload_n 0, 1) := by decide +kernel
theorem dX0_put_61 : decode cX0_put 61 = .ok (.getfield 24, 3) := by decide +kernel
theorem dX0_put_64 : decode cX0_put 64 = .ok (.aload_n 0, 1) := by decide +kernel
theorem dX0_put_65 : decode cX0_put 65 = .ok (.getfield 30, 3) := by decide +kernel
theorem dX0_put_68 : decode cX0_put 68 = .ok (.iload 4, 2) := by decide +kernel
theorem dX0_put_70 : decode cX0_put 70 = .ok (.iastore, 1) := by decide +kernel
theorem dX0_put_71 : decode cX0_put 71 = .ok (.aload_n 0, 1) := by decide +kernel
theorem dX0_put_72 : decode cX0_put 72 = .ok (.getfield 27, 3) := by decide +kernel
theorem dX0_put_75 : decode cX0_put 75 = .ok (.aload_n 0, 1) := by decide +kernel
theorem dX0_put_76 : decode cX0_put 76 = .ok (.getfield 30, 3) := by decide +kernel
theorem dX0_put_79 : decode cX0_put 79 = .ok (.iload 4, 2) := by decide +kernel
theorem dX0_put_81 : decode cX0_put 81 = .ok (.iload 6, 2) := by decide +kernel
theorem dX0_put_83 : decode cX0_put 83 = .ok (.iadd, 1) := by decide +kernel
theorem dX0_put_84 : decode cX0_put 84 = .ok (.iastore, 1) := by decide +kernel
theorem dX0_put_85 : decode cX0_put 85 = .ok (.aload_n 0, 1) := by decide +kernel
theorem dX0_put_86 : decode cX0_put 86 = .ok (.dup, 1) := by decide +kernel
theorem dX0_put_87 : decode cX0_put 87 = .ok (.getfield 30, 3) := by decide +kernel
theorem dX0_put_90 : decode cX0_put 90 = .ok (.iconst 1, 1) := by decide +kernel
theorem dX0_put_91 : decode cX0_put 91 = .ok (.iadd, 1) := by decide +kernel
theorem dX0_put_92 : decode cX0_put 92 = .ok (.putfield 30, 3) := by decide +kernel
theorem dX0_put_95 : decode cX0_put 95 = .ok (.return_, 1) := by decide +kernel
theorem dX0_belowBottoms_0 : decode cX0_belowBottoms 0 = .ok (.iload_n 3, 1) := by decide +kernel
theorem dX0_belowBottoms_1 : decode cX0_belowBottoms 1 = .ok (.istore 4, 2) := by decide +kernel
theorem dX0_belowBottoms_3 : decode cX0_belowBottoms 3 = .ok (.iconst 0, 1) := by decide +kernel
theorem dX0_belowBottoms_4 : decode cX0_belowBottoms 4 = .ok (.istore 5, 2) := by decide +kernel
theorem dX0_belowBottoms_6 : decode cX0_belowBottoms 6 = .ok (.iload 5, 2) := by decide +kernel
theorem dX0_belowBottoms_8 : decode cX0_belowBottoms 8 = .ok (.aload_n 0, 1) := by decide +kernel
theorem dX0_belowBottoms_9 : decode cX0_belowBottoms 9 = .ok (.getfield 30, 3) := by decide +kernel
theorem dX0_belowBottoms_12 : decode cX0_belowBottoms 12 = .ok (.if_icmp .ge 53, 3) := by decide +kernel
theorem dX0_belowBottoms_15 : decode cX0_belowBottoms 15 = .ok (.iload 5, 2) := by decide +kernel
theorem dX0_belowBottoms_17 : decode cX0_belowBottoms 17 = .ok (.bipush 40, 2) := by decide +kernel
theorem dX0_belowBottoms_19 : decode cX0_belowBottoms 19 = .ok (.if_icmp .ge 46, 3) := by decide +kernel
theorem dX0_belowBottoms_22 : decode cX0_belowBottoms 22 = .ok (.aload_n 0, 1) := by decide +kernel
theorem dX0_belowBottoms_23 : decode cX0_belowBottoms 23 = .ok (.getfield 9, 3) := by decide +kernel
theorem dX0_belowBottoms_26 : decode cX0_belowBottoms 26 = .ok (.iload 5, 2) := by decide +kernel
theorem dX0_belowBottoms_28 : decode cX0_belowBottoms 28 = .ok (.iaload, 1) := by decide +kernel
theorem dX0_belowBottoms_29 : decode cX0_belowBottoms 29 = .ok (.iload_n 1, 1) := by decide +kernel
theorem dX0_belowBottoms_30 : decode cX0_belowBottoms 30 = .ok (.if_icmp .ne 29, 3) := by decide +kernel
theorem dX0_belowBottoms_33 : decode cX0_belowBottoms 33 = .ok (.aload_n 0, 1) := by decide +kernel
theorem dX0_belowBottoms_34 : decode cX0_belowBottoms 34 = .ok (.getfield 15, 3) := by decide +kernel
theorem dX0_belowBottoms_37 : decode cX0_belowBottoms 37 = .ok (.iload 5, 2) := by decide +kernel
theorem dX0_belowBottoms_39 : decode cX0_belowBottoms 39 = .ok (.iaload, 1) := by decide +kernel
theorem dX0_belowBottoms_40 : decode cX0_belowBottoms 40 = .ok (.iload_n 2, 1) := by decide +kernel
theorem dX0_belowBottoms_41 : decode cX0_belowBottoms 41 = .ok (.iand, 1) := by decide +kernel
theorem dX0_belowBottoms_42 : decode cX0_belowBottoms 42 = .ok (.ifCond .eq 17, 3) := by decide +kernel
theorem dX0_belowBottoms_45 : decode cX0_belowBottoms 45 = .ok (.iload 4, 2) := by decide +kernel
theorem dX0_belowBottoms_47 : decode cX0_belowBottoms 47 = .ok (.aload_n 0, 1) := by decide +kernel
theorem dX0_belowBottoms_48 : decode cX0_belowBottoms 48 = .ok (.getfield 27, 3) := by decide +kernel
theorem dX0_belowBottoms_51 : decode cX0_belowBottoms 51 = .ok (.iload 5, 2) := by decide +kernel
theorem dX0_belowBottoms_53 : decode cX0_belowBottoms 53 = .ok (.iaload, 1) := by decide +kernel
theorem dX0_belowBottoms_54 : decode cX0_belowBottoms 54 = .ok (.invokestatic 43, 3) := by decide +kernel
theorem dX0_belowBottoms_57 : decode cX0_belowBottoms 57 = .ok (.istore 4, 2) := by decide +kernel
theorem dX0_belowBottoms_59 : decode cX0_belowBottoms 59 = .ok (.iinc 5 1, 3) := by decide +kernel
theorem dX0_belowBottoms_62 : decode cX0_belowBottoms 62 = .ok (.goto (-56), 3) := by decide +kernel
theorem dX0_belowBottoms_65 : decode cX0_belowBottoms 65 = .ok (.iload 4, 2) := by decide +kernel
theorem dX0_belowBottoms_67 : decode cX0_belowBottoms 67 = .ok (.ireturn, 1) := by decide +kernel
theorem dX0_belowTops_0 : decode cX0_belowTops 0 = .ok (.iload_n 2, 1) := by decide +kernel
theorem dX0_belowTops_1 : decode cX0_belowTops 1 = .ok (.istore_n 3, 1) := by decide +kernel
theorem dX0_belowTops_2 : decode cX0_belowTops 2 = .ok (.iconst 0, 1) := by decide +kernel
theorem dX0_belowTops_3 : decode cX0_belowTops 3 = .ok (.istore 4, 2) := by decide +kernel
theorem dX0_belowTops_5 : decode cX0_belowTops 5 = .ok (.iload 4, 2) := by decide +kernel
theorem dX0_belowTops_7 : decode cX0_belowTops 7 = .ok (.aload_n 0, 1) := by decide +kernel
theorem dX0_belowTops_8 : decode cX0_belowTops 8 = .ok (.getfield 30, 3) := by decide +kernel
theorem dX0_belowTops_11 : decode cX0_belowTops 11 = .ok (.if_icmp .ge 39, 3) := by decide +kernel
theorem dX0_belowTops_14 : decode cX0_belowTops 14 = .ok (.iload 4, 2) := by decide +kernel
theorem dX0_belowTops_16 : decode cX0_belowTops 16 = .ok (.bipush 40, 2) := by decide +kernel
theorem dX0_belowTops_18 : decode cX0_belowTops 18 = .ok (.if_icmp .ge 32, 3) := by decide +kernel
theorem dX0_belowTops_21 : decode cX0_belowTops 21 = .ok (.aload_n 0, 1) := by decide +kernel
theorem dX0_belowTops_22 : decode cX0_belowTops 22 = .ok (.getfield 9, 3) := by decide +kernel
theorem dX0_belowTops_25 : decode cX0_belowTops 25 = .ok (.iload 4, 2) := by decide +kernel
theorem dX0_belowTops_27 : decode cX0_belowTops 27 = .ok (.iaload, 1) := by decide +kernel
theorem dX0_belowTops_28 : decode cX0_belowTops 28 = .ok (.iload_n 1, 1) := by decide +kernel
theorem dX0_belowTops_29 : decode cX0_belowTops 29 = .ok (.if_icmp .ne 15, 3) := by decide +kernel
theorem dX0_belowTops_32 : decode cX0_belowTops 32 = .ok (.iload_n 3, 1) := by decide +kernel
theorem dX0_belowTops_33 : decode cX0_belowTops 33 = .ok (.aload_n 0, 1) := by decide +kernel
theorem dX0_belowTops_34 : decode cX0_belowTops 34 = .ok (.getfield 24, 3) := by decide +kernel
theorem dX0_belowTops_37 : decode cX0_belowTops 37 = .ok (.iload 4, 2) := by decide +kernel
theorem dX0_belowTops_39 : decode cX0_belowTops 39 = .ok (.iaload, 1) := by decide +kernel
theorem dX0_belowTops_40 : decode cX0_belowTops 40 = .ok (.invokestatic 43, 3) := by decide +kernel
theorem dX0_belowTops_43 : decode cX0_belowTops 43 = .ok (.istore_n 3, 1) := by decide +kernel
theorem dX0_belowTops_44 : decode cX0_belowTops 44 = .ok (.iinc 4 1, 3) := by decide +kernel
theorem dX0_belowTops_47 : decode cX0_belowTops 47 = .ok (.goto (-42), 3) := by decide +kernel
theorem dX0_belowTops_50 : decode cX0_belowTops 50 = .ok (.iload_n 3, 1) := by decide +kernel
theorem dX0_belowTops_51 : decode cX0_belowTops 51 = .ok (.ireturn, 1) := by decide +kernel
theorem dX0_findRoom_0 : decode cX0_findRoom 0 = .ok (.iload_n 3, 1) := by decide +kernel
theorem dX0_findRoom_1 : decode cX0_findRoom 1 = .ok (.istore 4, 2) := by decide +kernel
theorem dX0_findRoom_3 : decode cX0_findRoom 3 = .ok (.aload_n 0, 1) := by decide +kernel
theorem dX0_findRoom_4 : decode cX0_findRoom 4 = .ok (.aload_n 2, 1) := by decide +kernel
theorem dX0_findRoom_5 : decode cX0_findRoom 5 = .ok (.iload 4, 2) := by decide +kernel
theorem dX0_findRoom_7 : decode cX0_findRoom 7 = .ok (.invokevirtual 49, 3) := by decide +kernel
theorem dX0_findRoom_10 : decode cX0_findRoom 10 = .ok (.iconst 0, 1) := by decide +kernel
theorem dX0_findRoom_11 : decode cX0_findRoom 11 = .ok (.istore 5, 2) := by decide +kernel
theorem dX0_findRoom_13 : decode cX0_findRoom 13 = .ok (.iload 5, 2) := by decide +kernel
theorem dX0_findRoom_15 : decode cX0_findRoom 15 = .ok (.bipush 40, 2) := by decide +kernel
theorem dX0_findRoom_17 : decode cX0_findRoom 17 = .ok (.if_icmp .ge 44, 3) := by decide +kernel
theorem dX0_findRoom_20 : decode cX0_findRoom 20 = .ok (.iload_n 1, 1) := by decide +kernel
theorem dX0_findRoom_21 : decode cX0_findRoom 21 = .ok (.aload_n 0, 1) := by decide +kernel
theorem dX0_findRoom_22 : decode cX0_findRoom 22 = .ok (.getfield 37, 3) := by decide +kernel
theorem dX0_findRoom_25 : decode cX0_findRoom 25 = .ok (.aload_n 0, 1) := by decide +kernel
theorem dX0_findRoom_26 : decode cX0_findRoom 26 = .ok (.getfield 34, 3) := by decide +kernel
theorem dX0_findRoom_29 : decode cX0_findRoom 29 = .ok (.isub, 1) := by decide +kernel
theorem dX0_findRoom_30 : decode cX0_findRoom 30 = .ok (.if_icmp .le 31, 3) := by decide +kernel
theorem dX0_findRoom_33 : decode cX0_findRoom 33 = .ok (.aload_n 0, 1) := by decide +kernel
theorem dX0_findRoom_34 : decode cX0_findRoom 34 = .ok (.getfield 40, 3) := by decide +kernel
theorem dX0_findRoom_37 : decode cX0_findRoom 37 = .ok (.iload 4, 2) := by decide +kernel
theorem dX0_findRoom_39 : decode cX0_findRoom 39 = .ok (.if_icmp .le 22, 3) := by decide +kernel
theorem dX0_findRoom_42 : decode cX0_findRoom 42 = .ok (.aload_n 0, 1) := by decide +kernel
theorem dX0_findRoom_43 : decode cX0_findRoom 43 = .ok (.getfield 40, 3) := by decide +kernel
theorem dX0_findRoom_46 : decode cX0_findRoom 46 = .ok (.istore 4, 2) := by decide +kernel
theorem dX0_findRoom_48 : decode cX0_findRoom 48 = .ok (.aload_n 0, 1) := by decide +kernel
theorem dX0_findRoom_49 : decode cX0_findRoom 49 = .ok (.aload_n 2, 1) := by decide +kernel
theorem dX0_findRoom_50 : decode cX0_findRoom 50 = .ok (.iload 4, 2) := by decide +kernel
theorem dX0_findRoom_52 : decode cX0_findRoom 52 = .ok (.invokevirtual 49, 3) := by decide +kernel
theorem dX0_findRoom_55 : decode cX0_findRoom 55 = .ok (.iinc 5 1, 3) := by decide +kernel
theorem dX0_findRoom_58 : decode cX0_findRoom 58 = .ok (.goto (-45), 3) := by decide +kernel
theorem dX0_findRoom_61 : decode cX0_findRoom 61 = .ok (.iload 4, 2) := by decide +kernel
theorem dX0_findRoom_63 : decode cX0_findRoom 63 = .ok (.ireturn, 1) := by decide +kernel
theorem dX0_look_0 : decode cX0_look 0 = .ok (.aload_n 0, 1) := by decide +kernel
theorem dX0_look_1 : decode cX0_look 1 = .ok (.aload_n 1, 1) := by decide +kernel
theorem dX0_look_2 : decode cX0_look 2 = .ok (.getfield 53, 3) := by decide +kernel
theorem dX0_look_5 : decode cX0_look 5 = .ok (.getfield 59, 3) := by decide +kernel
theorem dX0_look_8 : decode cX0_look 8 = .ok (.putfield 34, 3) := by decide +kernel
theorem dX0_look_11 : decode cX0_look 11 = .ok (.aload_n 0, 1) := by decide +kernel
theorem dX0_look_12 : decode cX0_look 12 = .ok (.aload_n 1, 1) := by decide +kernel
theorem dX0_look_13 : decode cX0_look 13 = .ok (.getfield 53, 3) := by decide +kernel
theorem dX0_look_16 : decode cX0_look 16 = .ok (.getfield 59, 3) := by decide +kernel
theorem dX0_look_19 : decode cX0_look 19 = .ok (.aload_n 1, 1) := by decide +kernel
theorem dX0_look_20 : decode cX0_look 20 = .ok (.getfield 53, 3) := by decide +kernel
theorem dX0_look_23 : decode cX0_look 23 = .ok (.getfield 64, 3) := by decide +kernel
theorem dX0_look_26 : decode cX0_look 26 = .ok (.iadd, 1) := by decide +kernel
theorem dX0_look_27 : decode cX0_look 27 = .ok (.putfield 37, 3) := by decide +kernel
theorem dX0_look_30 : decode cX0_look 30 = .ok (.aload_n 0, 1) := by decide +kernel
theorem dX0_look_31 : decode cX0_look 31 = .ok (.iload_n 2, 1) := by decide +kernel
theorem dX0_look_32 : decode cX0_look 32 = .ok (.putfield 40, 3) := by decide +kernel
theorem dX0_look_35 : decode cX0_look 35 = .ok (.iconst 0, 1) := by decide +kernel
theorem dX0_look_36 : decode cX0_look 36 = .ok (.istore_n 3, 1) := by decide +kernel
theorem dX0_look_37 : decode cX0_look 37 = .ok (.iload_n 3, 1) := by decide +kernel
theorem dX0_look_38 : decode cX0_look 38 = .ok (.aload_n 0, 1) := by decide +kernel
theorem dX0_look_39 : decode cX0_look 39 = .ok (.getfield 30, 3) := by decide +kernel
theorem dX0_look_42 : decode cX0_look 42 = .ok (.if_icmp .ge 132, 3) := by decide +kernel
theorem dX0_look_45 : decode cX0_look 45 = .ok (.iload_n 3, 1) := by decide +kernel
theorem dX0_look_46 : decode cX0_look 46 = .ok (.bipush 40, 2) := by decide +kernel
theorem dX0_look_48 : decode cX0_look 48 = .ok (.if_icmp .ge 126, 3) := by decide +kernel
theorem dX0_look_51 : decode cX0_look 51 = .ok (.aload_n 0, 1) := by decide +kernel
theorem dX0_look_52 : decode cX0_look 52 = .ok (.getfield 9, 3) := by decide +kernel
theorem dX0_look_55 : decode cX0_look 55 = .ok (.iload_n 3, 1) := by decide +kernel
theorem dX0_look_56 : decode cX0_look 56 = .ok (.iaload, 1) := by decide +kernel
theorem dX0_look_57 : decode cX0_look 57 = .ok (.aload_n 1, 1) := by decide +kernel
theorem dX0_look_58 : decode cX0_look 58 = .ok (.getfield 67, 3) := by decide +kernel
theorem dX0_look_61 : decode cX0_look 61 = .ok (.getfield 71, 3) := by decide +kernel
theorem dX0_look_64 : decode cX0_look 64 = .ok (.if_icmp .ne 104, 3) := by decide +kernel
theorem dX0_look_67 : decode cX0_look 67 = .ok (.iload_n 2, 1) := by decide +kernel
theorem dX0_look_68 : decode cX0_look 68 = .ok (.aload_n 0, 1) := by decide +kernel
theorem dX0_look_69 : decode cX0_look 69 = .ok (.getfield 24, 3) := by decide +kernel
theorem dX0_look_72 : decode cX0_look 72 = .ok (.iload_n 3, 1) := by decide +kernel
theorem dX0_look_73 : decode cX0_look 73 = .ok (.iaload, 1) := by decide +kernel
theorem dX0_look_74 : decode cX0_look 74 = .ok (.if_icmp .lt 94, 3) := by decide +kernel
theorem dX0_look_77 : decode cX0_look 77 = .ok (.iload_n 2, 1) := by decide +kernel
theorem dX0_look_78 : decode cX0_look 78 = .ok (.aload_n 0, 1) := by decide +kernel
theorem dX0_look_79 : decode cX0_look 79 = .ok (.getfield 27, 3) := by decide +kernel
theorem dX0_look_82 : decode cX0_look 82 = .ok (.iload_n 3, 1) := by decide +kernel
theorem dX0_look_83 : decode cX0_look 83 = .ok (.iaload, 1) := by decide +kernel
theorem dX0_look_84 : decode cX0_look 84 = .ok (.if_icmp .ge 84, 3) := by decide +kernel
theorem dX0_look_87 : decode cX0_look 87 = .ok (.aload_n 0, 1) := by decide +kernel
theorem dX0_look_88 : decode cX0_look 88 = .ok (.aload_n 0, 1) := by decide +kernel
theorem dX0_look_89 : decode cX0_look 89 = .ok (.getfield 40, 3) := by decide +kernel
theorem dX0_look_92 : decode cX0_look 92 = .ok (.iload_n 2, 1) := by decide +kernel
theorem dX0_look_93 : decode cX0_look 93 = .ok (.if_icmp .ne 12, 3) := by decide +kernel
theorem dX0_look_96 : decode cX0_look 96 = .ok (.aload_n 0, 1) := by decide +kernel
theorem dX0_look_97 : decode cX0_look 97 = .ok (.getfield 27, 3) := by decide +kernel
theorem dX0_look_100 : decode cX0_look 100 = .ok (.iload_n 3, 1) := by decide +kernel
theorem dX0_look_101 : decode cX0_look 101 = .ok (.iaload, 1) := by decide +kernel
theorem dX0_look_102 : decode cX0_look 102 = .ok (.goto 16, 3) := by decide +kernel
theorem dX0_look_105 : decode cX0_look 105 = .ok (.aload_n 0, 1) := by decide +kernel
theorem dX0_look_106 : decode cX0_look 106 = .ok (.getfield 40, 3) := by decide +kernel
theorem dX0_look_109 : decode cX0_look 109 = .ok (.aload_n 0, 1) := by decide +kernel
theorem dX0_look_110 : decode cX0_look 110 = .ok (.getfield 27, 3) := by decide +kernel
theorem dX0_look_113 : decode cX0_look 113 = .ok (.iload_n 3, 1) := by decide +kernel
theorem dX0_look_114 : decode cX0_look 114 = .ok (.iaload, 1) := by decide +kernel
theorem dX0_look_115 : decode cX0_look 115 = .ok (.invokestatic 76, 3) := by decide +kernel
theorem dX0_look_118 : decode cX0_look 118 = .ok (.putfield 40, 3) := by decide +kernel
theorem dX0_look_121 : decode cX0_look 121 = .ok (.aload_n 0, 1) := by decide +kernel
theorem dX0_look_122 : decode cX0_look 122 = .ok (.getfield 15, 3) := by decide +kernel
theorem dX0_look_125 : decode cX0_look 125 = .ok (.iload_n 3, 1) := by decide +kernel
theorem dX0_look_126 : decode cX0_look 126 = .ok (.iaload, 1) := by decide +kernel
theorem dX0_look_127 : decode cX0_look 127 = .ok (.iconst 1, 1) := by decide +kernel
theorem dX0_look_128 : decode cX0_look 128 = .ok (.if_icmp .ne 23, 3) := by decide +kernel
theorem dX0_look_131 : decode cX0_look 131 = .ok (.aload_n 0, 1) := by decide +kernel
theorem dX0_look_132 : decode cX0_look 132 = .ok (.aload_n 0, 1) := by decide +kernel
theorem dX0_look_133 : decode cX0_look 133 = .ok (.getfield 34, 3) := by decide +kernel
theorem dX0_look_136 : decode cX0_look 136 = .ok (.aload_n 0, 1) := by decide +kernel
theorem dX0_look_137 : decode cX0_look 137 = .ok (.getfield 21, 3) := by decide +kernel
theorem dX0_look_140 : decode cX0_look 140 = .ok (.iload_n 3, 1) := by decide +kernel
theorem dX0_look_141 : decode cX0_look 141 = .ok (.iaload, 1) := by decide +kernel
theorem dX0_look_142 : decode cX0_look 142 = .ok (.invokestatic 43, 3) := by decide +kernel
theorem dX0_look_145 : decode cX0_look 145 = .ok (.putfield 34, 3) := by decide +kernel
theorem dX0_look_148 : decode cX0_look 148 = .ok (.goto 20, 3) := by decide +kernel
theorem dX0_look_151 : decode cX0_look 151 = .ok (.aload_n 0, 1) := by decide +kernel
theorem dX0_look_152 : decode cX0_look 152 = .ok (.aload_n 0, 1) := by decide +kernel
theorem dX0_look_153 : decode cX0_look 153 = .ok (.getfield 37, 3) := by decide +kernel
theorem dX0_look_156 : decode cX0_look 156 = .ok (.aload_n 0, 1) := by decide +kernel
theorem dX0_look_157 : decode cX0_look 157 = .ok (.getfield 18, 3) := by decide +kernel
theorem dX0_look_160 : decode cX0_look 160 = .ok (.iload_n 3, 1) := by decide +kernel
theorem dX0_look_161 : decode cX0_look 161 = .ok (.iaload, 1) := by decide +kernel
theorem dX0_look_162 : decode cX0_look 162 = .ok (.invokestatic 76, 3) := by decide +kernel
theorem dX0_look_165 : decode cX0_look 165 = .ok (.putfield 37, 3) := by decide +kernel
theorem dX0_look_168 : decode cX0_look 168 = .ok (.iinc 3 1, 3) := by decide +kernel
theorem dX0_look_171 : decode cX0_look 171 = .ok (.goto (-134), 3) := by decide +kernel
theorem dX0_look_174 : decode cX0_look 174 = .ok (.return_, 1) := by decide +kernel
theorem dX1_init_0 : decode cX1_init 0 = .ok (.aload_n 0, 1) := by decide +kernel
theorem dX1_init_1 : decode cX1_init 1 = .ok (.invokespecial 1, 3) := by decide +kernel
theorem dX1_init_4 : decode cX1_init 4 = .ok (.aload_n 0, 1) := by decide +kernel
theorem dX1_init_5 : decode cX1_init 5 = .ok (.iconst 0, 1) := by decide +kernel
theorem dX1_init_6 : decode cX1_init 6 = .ok (.putfield 7, 3) := by decide +kernel
theorem dX1_init_9 : decode cX1_init 9 = .ok (.aload_n 0, 1) := by decide +kernel
theorem dX1_init_10 : decode cX1_init 10 = .ok (.iconst 0, 1) := by decide +kernel
theorem dX1_init_11 : decode cX1_init 11 = .ok (.putfield 13, 3) := by decide +kernel
theorem dX1_init_14 : decode cX1_init 14 = .ok (.aload_n 0, 1) := by decide +kernel
theorem dX1_init_15 : decode cX1_init 15 = .ok (.iconst 0, 1) := by decide +kernel
theorem dX1_init_16 : decode cX1_init 16 = .ok (.putfield 16, 3) := by decide +kernel
theorem dX1_init_19 : decode cX1_init 19 = .ok (.aload_n 0, 1) := by decide +kernel
theorem dX1_init_20 : decode cX1_init 20 = .ok (.iconst 0, 1) := by decide +kernel
theorem dX1_init_21 : decode cX1_init 21 = .ok (.putfield 19, 3) := by decide +kernel
theorem dX1_init_24 : decode cX1_init 24 = .ok (.aload_n 0, 1) := by decide +kernel
theorem dX1_init_25 : decode cX1_init 25 = .ok (.iconst 0, 1) := by decide +kernel
theorem dX1_init_26 : decode cX1_init 26 = .ok (.putfield 22, 3) := by decide +kernel
theorem dX1_init_29 : decode cX1_init 29 = .ok (.return_, 1) := by decide +kernel
theorem dX2_init_0 : decode cX2_init 0 = .ok (.aload_n 0, 1) := by decide +kernel
theorem dX2_init_1 : decode cX2_init 1 = .ok (.invokespecial 3, 3) := by decide +kernel
theorem dX2_init_4 : decode cX2_init 4 = .ok (.aload_n 0, 1) := by decide +kernel
theorem dX2_init_5 : decode cX2_init 5 = .ok (.iconst 0, 1) := by decide +kernel
theorem dX2_init_6 : decode cX2_init 6 = .ok (.putfield 9, 3) := by decide +kernel
theorem dX2_init_9 : decode cX2_init 9 = .ok (.aload_n 0, 1) := by decide +kernel
theorem dX2_init_10 : decode cX2_init 10 = .ok (.aconst_null, 1) := by decide +kernel
theorem dX2_init_11 : decode cX2_init 11 = .ok (.putfield 15, 3) := by decide +kernel
theorem dX2_init_14 : decode cX2_init 14 = .ok (.aload_n 0, 1) := by decide +kernel
theorem dX2_init_15 : decode cX2_init 15 = .ok (.iconst 0, 1) := by decide +kernel
theorem dX2_init_16 : decode cX2_init 16 = .ok (.putfield 19, 3) := by decide +kernel
theorem dX2_init_19 : decode cX2_init 19 = .ok (.aload_n 0, 1) := by decide +kernel
theorem dX2_init_20 : decode cX2_init 20 = .ok (.iconst 0, 1) := by decide +kernel
theorem dX2_init_21 : decode cX2_init 21 = .ok (.putfield 22, 3) := by decide +kernel
theorem dX2_init_24 : decode cX2_init 24 = .ok (.aload_n 0, 1) := by decide +kernel
theorem dX2_init_25 : decode cX2_init 25 = .ok (.iconst 0, 1) := by decide +kernel
theorem dX2_init_26 : decode cX2_init 26 = .ok (.putfield 25, 3) := by decide +kernel
theorem dX2_init_29 : decode cX2_init 29 = .ok (.aload_n 0, 1) := by decide +kernel
theorem dX2_init_30 : decode cX2_init 30 = .ok (.iconst 0, 1) := by decide +kernel
theorem dX2_init_31 : decode cX2_init 31 = .ok (.putfield 29, 3) := by decide +kernel
theorem dX2_init_34 : decode cX2_init 34 = .ok (.aload_n 0, 1) := by decide +kernel
theorem dX2_init_35 : decode cX2_init 35 = .ok (.iconst 0, 1) := by decide +kernel
theorem dX2_init_36 : decode cX2_init 36 = .ok (.putfield 32, 3) := by decide +kernel
theorem dX2_init_39 : decode cX2_init 39 = .ok (.aload_n 0, 1) := by decide +kernel
theorem dX2_init_40 : decode cX2_init 40 = .ok (.iconst 0, 1) := by decide +kernel
theorem dX2_init_41 : decode cX2_init 41 = .ok (.putfield 35, 3) := by decide +kernel
theorem dX2_init_44 : decode cX2_init 44 = .ok (.aload_n 0, 1) := by decide +kernel
theorem dX2_init_45 : decode cX2_init 45 = .ok (.iconst 0, 1) := by decide +kernel
theorem dX2_init_46 : decode cX2_init 46 = .ok (.putfield 38, 3) := by decide +kernel
theorem dX2_init_49 : decode cX2_init 49 = .ok (.aload_n 0, 1) := by decide +kernel
theorem dX2_init_50 : decode cX2_init 50 = .ok (.iconst 0, 1) := by decide +kernel
theorem dX2_init_51 : decode cX2_init 51 = .ok (.putfield 41, 3) := by decide +kernel
theorem dX2_init_54 : decode cX2_init 54 = .ok (.aload_n 0, 1) := by decide +kernel
theorem dX2_init_55 : decode cX2_init 55 = .ok (.iconst 0, 1) := by decide +kernel
theorem dX2_init_56 : decode cX2_init 56 = .ok (.putfield 44, 3) := by decide +kernel
theorem dX2_init_59 : decode cX2_init 59 = .ok (.aload_n 0, 1) := by decide +kernel
theorem dX2_init_60 : decode cX2_init 60 = .ok (.iconst 0, 1) := by decide +kernel
theorem dX2_init_61 : decode cX2_init 61 = .ok (.putfield 47, 3) := by decide +kernel
theorem dX2_init_64 : decode cX2_init 64 = .ok (.aload_n 0, 1) := by decide +kernel
theorem dX2_init_65 : decode cX2_init 65 = .ok (.iconst 0, 1) := by decide +kernel
theorem dX2_init_66 : decode cX2_init 66 = .ok (.putfield 50, 3) := by decide +kernel
theorem dX2_init_69 : decode cX2_init 69 = .ok (.aload_n 0, 1) := by decide +kernel
theorem dX2_init_70 : decode cX2_init 70 = .ok (.iconst 0, 1) := by decide +kernel
theorem dX2_init_71 : decode cX2_init 71 = .ok (.putfield 53, 3) := by decide +kernel
theorem dX2_init_74 : decode cX2_init 74 = .ok (.aload_n 0, 1) := by decide +kernel
theorem dX2_init_75 : decode cX2_init 75 = .ok (.iconst 0, 1) := by decide +kernel
theorem dX2_init_76 : decode cX2_init 76 = .ok (.iload_n 1, 1) := by decide +kernel
theorem dX2_init_77 : decode cX2_init 77 = .ok (.invokestatic 56, 3) := by decide +kernel
theorem dX2_init_80 : decode cX2_init 80 = .ok (.newarray .int, 2) := by decide +kernel
theorem dX2_init_82 : decode cX2_init 82 = .ok (.putfield 62, 3) := by decide +kernel
theorem dX2_init_85 : decode cX2_init 85 = .ok (.aload_n 0, 1) := by decide +kernel
theorem dX2_init_86 : decode cX2_init 86 = .ok (.iconst 0, 1) := by decide +kernel
theorem dX2_init_87 : decode cX2_init 87 = .ok (.iload_n 1, 1) := by decide +kernel
theorem dX2_init_88 : decode cX2_init 88 = .ok (.invokestatic 56, 3) := by decide +kernel
theorem dX2_init_91 : decode cX2_init 91 = .ok (.newarray .int, 2) := by decide +kernel
theorem dX2_init_93 : decode cX2_init 93 = .ok (.putfield 66, 3) := by decide +kernel
theorem dX2_init_96 : decode cX2_init 96 = .ok (.return_, 1) := by decide +kernel
theorem dX2_isBox_0 : decode cX2_isBox 0 = .ok (.aload_n 0, 1) := by decide +kernel
theorem dX2_isBox_1 : decode cX2_isBox 1 = .ok (.getfield 9, 3) := by decide +kernel
theorem dX2_isBox_4 : decode cX2_isBox 4 = .ok (.iconst 3, 1) := by decide +kernel
theorem dX2_isBox_5 : decode cX2_isBox 5 = .ok (.if_icmp .eq 11, 3) := by decide +kernel
theorem dX2_isBox_8 : decode cX2_isBox 8 = .ok (.aload_n 0, 1) := by decide +kernel
theorem dX2_isBox_9 : decode cX2_isBox 9 = .ok (.getfield 9, 3) := by decide +kernel
theorem dX2_isBox_12 : decode cX2_isBox 12 = .ok (.iconst 4, 1) := by decide +kernel
theorem dX2_isBox_13 : decode cX2_isBox 13 = .ok (.if_icmp .ne 7, 3) := by decide +kernel
theorem dX2_isBox_16 : decode cX2_isBox 16 = .ok (.iconst 1, 1) := by decide +kernel
theorem dX2_isBox_17 : decode cX2_isBox 17 = .ok (.goto 4, 3) := by decide +kernel
theorem dX2_isBox_20 : decode cX2_isBox 20 = .ok (.iconst 0, 1) := by decide +kernel
theorem dX2_isBox_21 : decode cX2_isBox 21 = .ok (.ireturn, 1) := by decide +kernel
theorem dX2_borderX_0 : decode cX2_borderX 0 = .ok (.aload_n 0, 1) := by decide +kernel
theorem dX2_borderX_1 : decode cX2_borderX 1 = .ok (.invokevirtual 69, 3) := by decide +kernel
theorem dX2_borderX_4 : decode cX2_borderX 4 = .ok (.ifCond .eq 20, 3) := by decide +kernel
theorem dX2_borderX_7 : decode cX2_borderX 7 = .ok (.aload_n 0, 1) := by decide +kernel
theorem dX2_borderX_8 : decode cX2_borderX 8 = .ok (.getfield 29, 3) := by decide +kernel
theorem dX2_borderX_11 : decode cX2_borderX 11 = .ok (.aload_n 0, 1) := by decide +kernel
theorem dX2_borderX_12 : decode cX2_borderX 12 = .ok (.getfield 19, 3) := by decide +kernel
theorem dX2_borderX_15 : decode cX2_borderX 15 = .ok (.isub, 1) := by decide +kernel
theorem dX2_borderX_16 : decode cX2_borderX 16 = .ok (.aload_n 0, 1) := by decide +kernel
theorem dX2_borderX_17 : decode cX2_borderX 17 = .ok (.getfield 47, 3) := by decide +kernel
theorem dX2_borderX_20 : decode cX2_borderX 20 = .ok (.iadd, 1) := by decide +kernel
theorem dX2_borderX_21 : decode cX2_borderX 21 = .ok (.goto 6, 3) := by decide +kernel
theorem dX2_borderX_24 : decode cX2_borderX 24 = .ok (.sipush (-9999), 3) := by decide +kernel
theorem dX2_borderX_27 : decode cX2_borderX 27 = .ok (.ireturn, 1) := by decide +kernel
theorem dX2_borderY_0 : decode cX2_borderY 0 = .ok (.aload_n 0, 1) := by decide +kernel
theorem dX2_borderY_1 : decode cX2_borderY 1 = .ok (.invokevirtual 69, 3) := by decide +kernel
theorem dX2_borderY_4 : decode cX2_borderY 4 = .ok (.ifCond .eq 20, 3) := by decide +kernel
theorem dX2_borderY_7 : decode cX2_borderY 7 = .ok (.aload_n 0, 1) := by decide +kernel
theorem dX2_borderY_8 : decode cX2_borderY 8 = .ok (.getfield 32, 3) := by decide +kernel
theorem dX2_borderY_11 : decode cX2_borderY 11 = .ok (.aload_n 0, 1) := by decide +kernel
theorem dX2_borderY_12 : decode cX2_borderY 12 = .ok (.getfield 19, 3) := by decide +kernel
theorem dX2_borderY_15 : decode cX2_borderY 15 = .ok (.isub, 1) := by decide +kernel
theorem dX2_borderY_16 : decode cX2_borderY 16 = .ok (.aload_n 0, 1) := by decide +kernel
theorem dX2_borderY_17 : decode cX2_borderY 17 = .ok (.getfield 50, 3) := by decide +kernel
theorem dX2_borderY_20 : decode cX2_borderY 20 = .ok (.iadd, 1) := by decide +kernel
theorem dX2_borderY_21 : decode cX2_borderY 21 = .ok (.goto 6, 3) := by decide +kernel
theorem dX2_borderY_24 : decode cX2_borderY 24 = .ok (.sipush (-9999), 3) := by decide +kernel
theorem dX2_borderY_27 : decode cX2_borderY 27 = .ok (.ireturn, 1) := by decide +kernel
theorem dX2_borderWide_0 : decode cX2_borderWide 0 = .ok (.aload_n 0, 1) := by decide +kernel
theorem dX2_borderWide_1 : decode cX2_borderWide 1 = .ok (.invokevirtual 69, 3) := by decide +kernel
theorem dX2_borderWide_4 : decode cX2_borderWide 4 = .ok (.ifCond .eq 17, 3) := by decide +kernel
theorem dX2_borderWide_7 : decode cX2_borderWide 7 = .ok (.aload_n 0, 1) := by decide +kernel
theorem dX2_borderWide_8 : decode cX2_borderWide 8 = .ok (.getfield 35, 3) := by decide +kernel
theorem dX2_borderWide_11 : decode cX2_borderWide 11 = .ok (.iconst 2, 1) := by decide +kernel
theorem dX2_borderWide_12 : decode cX2_borderWide 12 = .ok (.aload_n 0, 1) := by decide +kernel
theorem dX2_borderWide_13 : decode cX2_borderWide 13 = .ok (.getfield 19, 3) := by decide +kernel
theorem dX2_borderWide_16 : decode cX2_borderWide 16 = .ok (.imul, 1) := by decide +kernel
theorem dX2_borderWide_17 : decode cX2_borderWide 17 = .ok (.iadd, 1) := by decide +kernel
theorem dX2_borderWide_18 : decode cX2_borderWide 18 = .ok (.goto 4, 3) := by decide +kernel
theorem dX2_borderWide_21 : decode cX2_borderWide 21 = .ok (.iconst (-1), 1) := by decide +kernel
theorem dX2_borderWide_22 : decode cX2_borderWide 22 = .ok (.ireturn, 1) := by decide +kernel
theorem dX2_borderHigh_0 : decode cX2_borderHigh 0 = .ok (.aload_n 0, 1) := by decide +kernel
theorem dX2_borderHigh_1 : decode cX2_borderHigh 1 = .ok (.invokevirtual 69, 3) := by decide +kernel
theorem dX2_borderHigh_4 : decode cX2_borderHigh 4 = .ok (.ifCond .eq 17, 3) := by decide +kernel
theorem dX2_borderHigh_7 : decode cX2_borderHigh 7 = .ok (.aload_n 0, 1) := by decide +kernel
theorem dX2_borderHigh_8 : decode cX2_borderHigh 8 = .ok (.getfield 38, 3) := by decide +kernel
theorem dX2_borderHigh_11 : decode cX2_borderHigh 11 = .ok (.iconst 2, 1) := by decide +kernel
theorem dX2_borderHigh_12 : decode cX2_borderHigh 12 = .ok (.aload_n 0, 1) := by decide +kernel
theorem dX2_borderHigh_13 : decode cX2_borderHigh 13 = .ok (.getfield 19, 3) := by decide +kernel
theorem dX2_borderHigh_16 : decode cX2_borderHigh 16 = .ok (.imul, 1) := by decide +kernel
theorem dX2_borderHigh_17 : decode cX2_borderHigh 17 = .ok (.iadd, 1) := by decide +kernel
theorem dX2_borderHigh_18 : decode cX2_borderHigh 18 = .ok (.goto 4, 3) := by decide +kernel
theorem dX2_borderHigh_21 : decode cX2_borderHigh 21 = .ok (.iconst (-1), 1) := by decide +kernel
theorem dX2_borderHigh_22 : decode cX2_borderHigh 22 = .ok (.ireturn, 1) := by decide +kernel
theorem dX2_reachOrNone_0 : decode cX2_reachOrNone 0 = .ok (.aload_n 0, 1) := by decide +kernel
theorem dX2_reachOrNone_1 : decode cX2_reachOrNone 1 = .ok (.invokevirtual 69, 3) := by decide +kernel
theorem dX2_reachOrNone_4 : decode cX2_reachOrNone 4 = .ok (.ifCond .eq 10, 3) := by decide +kernel
theorem dX2_reachOrNone_7 : decode cX2_reachOrNone 7 = .ok (.aload_n 0, 1) := by decide +kernel
theorem dX2_reachOrNone_8 : decode cX2_reachOrNone 8 = .ok (.getfield 41, 3) := by decide +kernel
theorem dX2_reachOrNone_11 : decode cX2_reachOrNone 11 = .ok (.goto 4, 3) := by decide +kernel
theorem dX2_reachOrNone_14 : decode cX2_reachOrNone 14 = .ok (.iconst (-1), 1) := by decide +kernel
theorem dX2_reachOrNone_15 : decode cX2_reachOrNone 15 = .ok (.ireturn, 1) := by decide +kernel
theorem dX2_linesOrNone_0 : decode cX2_linesOrNone 0 = .ok (.aload_n 0, 1) := by decide +kernel
theorem dX2_linesOrNone_1 : decode cX2_linesOrNone 1 = .ok (.invokevirtual 69, 3) := by decide +kernel
theorem dX2_linesOrNone_4 : decode cX2_linesOrNone 4 = .ok (.ifCond .eq 10, 3) := by decide +kernel
theorem dX2_linesOrNone_7 : decode cX2_linesOrNone 7 = .ok (.aload_n 0, 1) := by decide +kernel
theorem dX2_linesOrNone_8 : decode cX2_linesOrNone 8 = .ok (.getfield 44, 3) := by decide +kernel
theorem dX2_linesOrNone_11 : decode cX2_linesOrNone 11 = .ok (.goto 4, 3) := by decide +kernel
theorem dX2_linesOrNone_14 : decode cX2_linesOrNone 14 = .ok (.iconst 0, 1) := by decide +kernel
theorem dX2_linesOrNone_15 : decode cX2_linesOrNone 15 = .ok (.ireturn, 1) := by decide +kernel
theorem dX2_highWithEdges_0 : decode cX2_highWithEdges 0 = .ok (.aload_n 0, 1) := by decide +kernel
theorem dX2_highWithEdges_1 : decode cX2_highWithEdges 1 = .ok (.getfield 38, 3) := by decide +kernel
theorem dX2_highWithEdges_4 : decode cX2_highWithEdges 4 = .ok (.iconst 2, 1) := by decide +kernel
theorem dX2_highWithEdges_5 : decode cX2_highWithEdges 5 = .ok (.aload_n 0, 1) := by decide +kernel
theorem dX2_highWithEdges_6 : decode cX2_highWithEdges 6 = .ok (.getfield 22, 3) := by decide +kernel
theorem dX2_highWithEdges_9 : decode cX2_highWithEdges 9 = .ok (.imul, 1) := by decide +kernel
theorem dX2_highWithEdges_10 : decode cX2_highWithEdges 10 = .ok (.iadd, 1) := by decide +kernel
theorem dX2_highWithEdges_11 : decode cX2_highWithEdges 11 = .ok (.ireturn, 1) := by decide +kernel
theorem dX2_hasInBorder_0 : decode cX2_hasInBorder 0 = .ok (.aload_n 0, 1) := by decide +kernel
theorem dX2_hasInBorder_1 : decode cX2_hasInBorder 1 = .ok (.invokevirtual 69, 3) := by decide +kernel
theorem dX2_hasInBorder_4 : decode cX2_hasInBorder 4 = .ok (.ifCond .eq 37, 3) := by decide +kernel
theorem dX2_hasInBorder_7 : decode cX2_hasInBorder 7 = .ok (.iload_n 1, 1) := by decide +kernel
theorem dX2_hasInBorder_8 : decode cX2_hasInBorder 8 = .ok (.aload_n 0, 1) := by decide +kernel
theorem dX2_hasInBorder_9 : decode cX2_hasInBorder 9 = .ok (.invokevirtual 73, 3) := by decide +kernel
theorem dX2_hasInBorder_12 : decode cX2_hasInBorder 12 = .ok (.aload_n 0, 1) := by decide +kernel
theorem dX2_hasInBorder_13 : decode cX2_hasInBorder 13 = .ok (.invokevirtual 77, 3) := by decide +kernel
theorem dX2_hasInBorder_16 : decode cX2_hasInBorder 16 = .ok (.invokestatic 80, 3) := by decide +kernel
theorem dX2_hasInBorder_19 : decode cX2_hasInBorder 19 = .ok (.ifCond .eq 22, 3) := by decide +kernel
theorem dX2_hasInBorder_22 : decode cX2_hasInBorder 22 = .ok (.iload_n 2, 1) := by decide +kernel
theorem dX2_hasInBorder_23 : decode cX2_hasInBorder 23 = .ok (.aload_n 0, 1) := by decide +kernel
theorem dX2_hasInBorder_24 : decode cX2_hasInBorder 24 = .ok (.invokevirtual 84, 3) := by decide +kernel
theorem dX2_hasInBorder_27 : decode cX2_hasInBorder 27 = .ok (.aload_n 0, 1) := by decide +kernel
theorem dX2_hasInBorder_28 : decode cX2_hasInBorder 28 = .ok (.invokevirtual 87, 3) := by decide +kernel
theorem dX2_hasInBorder_31 : decode cX2_hasInBorder 31 = .ok (.invokestatic 80, 3) := by decide +kernel
theorem dX2_hasInBorder_34 : decode cX2_hasInBorder 34 = .ok (.ifCond .eq 7, 3) := by decide +kernel
theorem dX2_hasInBorder_37 : decode cX2_hasInBorder 37 = .ok (.iconst 1, 1) := by decide +kernel
theorem dX2_hasInBorder_38 : decode cX2_hasInBorder 38 = .ok (.goto 4, 3) := by decide +kernel
theorem dX2_hasInBorder_41 : decode cX2_hasInBorder 41 = .ok (.iconst 0, 1) := by decide +kernel
theorem dX2_hasInBorder_42 : decode cX2_hasInBorder 42 = .ok (.ireturn, 1) := by decide +kernel
theorem dX2_cutsOffAt_0 : decode cX2_cutsOffAt 0 = .ok (.iload_n 1, 1) := by decide +kernel
theorem dX2_cutsOffAt_1 : decode cX2_cutsOffAt 1 = .ok (.aload_n 0, 1) := by decide +kernel
theorem dX2_cutsOffAt_2 : decode cX2_cutsOffAt 2 = .ok (.getfield 29, 3) := by decide +kernel
theorem dX2_cutsOffAt_5 : decode cX2_cutsOffAt 5 = .ok (.aload_n 0, 1) := by decide +kernel
theorem dX2_cutsOffAt_6 : decode cX2_cutsOffAt 6 = .ok (.getfield 47, 3) := by decide +kernel
theorem dX2_cutsOffAt_9 : decode cX2_cutsOffAt 9 = .ok (.iadd, 1) := by decide +kernel
theorem dX2_cutsOffAt_10 : decode cX2_cutsOffAt 10 = .ok (.aload_n 0, 1) := by decide +kernel
theorem dX2_cutsOffAt_11 : decode cX2_cutsOffAt 11 = .ok (.getfield 35, 3) := by decide +kernel
theorem dX2_cutsOffAt_14 : decode cX2_cutsOffAt 14 = .ok (.invokestatic 80, 3) := by decide +kernel
theorem dX2_cutsOffAt_17 : decode cX2_cutsOffAt 17 = .ok (.ifCond .eq 27, 3) := by decide +kernel
theorem dX2_cutsOffAt_20 : decode cX2_cutsOffAt 20 = .ok (.iload_n 2, 1) := by decide +kernel
theorem dX2_cutsOffAt_21 : decode cX2_cutsOffAt 21 = .ok (.aload_n 0, 1) := by decide +kernel
theorem dX2_cutsOffAt_22 : decode cX2_cutsOffAt 22 = .ok (.getfield 32, 3) := by decide +kernel
theorem dX2_cutsOffAt_25 : decode cX2_cutsOffAt 25 = .ok (.aload_n 0, 1) := by decide +kernel
theorem dX2_cutsOffAt_26 : decode cX2_cutsOffAt 26 = .ok (.getfield 50, 3) := by decide +kernel
theorem dX2_cutsOffAt_29 : decode cX2_cutsOffAt 29 = .ok (.iadd, 1) := by decide +kernel
theorem dX2_cutsOffAt_30 : decode cX2_cutsOffAt 30 = .ok (.aload_n 0, 1) := by decide +kernel
theorem dX2_cutsOffAt_31 : decode cX2_cutsOffAt 31 = .ok (.getfield 38, 3) := by decide +kernel
theorem dX2_cutsOffAt_34 : decode cX2_cutsOffAt 34 = .ok (.invokestatic 80, 3) := by decide +kernel
theorem dX2_cutsOffAt_37 : decode cX2_cutsOffAt 37 = .ok (.ifCond .eq 7, 3) := by decide +kernel
theorem dX2_cutsOffAt_40 : decode cX2_cutsOffAt 40 = .ok (.iconst 1, 1) := by decide +kernel
theorem dX2_cutsOffAt_41 : decode cX2_cutsOffAt 41 = .ok (.goto 4, 3) := by decide +kernel
theorem dX2_cutsOffAt_44 : decode cX2_cutsOffAt 44 = .ok (.iconst 0, 1) := by decide +kernel
theorem dX2_cutsOffAt_45 : decode cX2_cutsOffAt 45 = .ok (.istore_n 3, 1) := by decide +kernel
theorem dX2_cutsOffAt_46 : decode cX2_cutsOffAt 46 = .ok (.aload_n 0, 1) := by decide +kernel
theorem dX2_cutsOffAt_47 : decode cX2_cutsOffAt 47 = .ok (.getfield 25, 3) := by decide +kernel
theorem dX2_cutsOffAt_50 : decode cX2_cutsOffAt 50 = .ok (.ifCond .eq 11, 3) := by decide +kernel
theorem dX2_cutsOffAt_53 : decode cX2_cutsOffAt 53 = .ok (.iload_n 3, 1) := by decide +kernel
theorem dX2_cutsOffAt_54 : decode cX2_cutsOffAt 54 = .ok (.ifCond .ne 7, 3) := by decide +kernel
theorem dX2_cutsOffAt_57 : decode cX2_cutsOffAt 57 = .ok (.iconst 1, 1) := by decide +kernel
theorem dX2_cutsOffAt_58 : decode cX2_cutsOffAt 58 = .ok (.goto 4, 3) := by decide +kernel
theorem dX2_cutsOffAt_61 : decode cX2_cutsOffAt 61 = .ok (.iconst 0, 1) := by decide +kernel
theorem dX2_cutsOffAt_62 : decode cX2_cutsOffAt 62 = .ok (.ireturn, 1) := by decide +kernel
theorem dX2_setWord_0 : decode cX2_setWord 0 = .ok (.iload_n 1, 1) := by decide +kernel
theorem dX2_setWord_1 : decode cX2_setWord 1 = .ok (.ifCond .lt 35, 3) := by decide +kernel
theorem dX2_setWord_4 : decode cX2_setWord 4 = .ok (.iload_n 1, 1) := by decide +kernel
theorem dX2_setWord_5 : decode cX2_setWord 5 = .ok (.aload_n 0, 1) := by decide +kernel
theorem dX2_setWord_6 : decode cX2_setWord 6 = .ok (.getfield 62, 3) := by decide +kernel
theorem dX2_setWord_9 : decode cX2_setWord 9 = .ok (.arraylength, 1) := by decide +kernel
theorem dX2_setWord_10 : decode cX2_setWord 10 = .ok (.if_icmp .ge 26, 3) := by decide +kernel
theorem dX2_setWord_13 : decode cX2_setWord 13 = .ok (.iload_n 1, 1) := by decide +kernel
theorem dX2_setWord_14 : decode cX2_setWord 14 = .ok (.aload_n 0, 1) := by decide +kernel
theorem dX2_setWord_15 : decode cX2_setWord 15 = .ok (.getfield 66, 3) := by decide +kernel
theorem dX2_setWord_18 : decode cX2_setWord 18 = .ok (.arraylength, 1) := by decide +kernel
theorem dX2_setWord_19 : decode cX2_setWord 19 = .ok (.if_icmp .ge 17, 3) := by decide +kernel
theorem dX2_setWord_22 : decode cX2_setWord 22 = .ok (.aload_n 0, 1) := by decide +kernel
theorem dX2_setWord_23 : decode cX2_setWord 23 = .ok (.getfield 62, 3) := by decide +kernel
theorem dX2_setWord_26 : decode cX2_setWord 26 = .ok (.iload_n 1, 1) := by decide +kernel
theorem dX2_setWord_27 : decode cX2_setWord 27 = .ok (.iload_n 2, 1) := by decide +kernel
theorem dX2_setWord_28 : decode cX2_setWord 28 = .ok (.iastore, 1) := by decide +kernel
theorem dX2_setWord_29 : decode cX2_setWord 29 = .ok (.aload_n 0, 1) := by decide +kernel
theorem dX2_setWord_30 : decode cX2_setWord 30 = .ok (.getfield 66, 3) := by decide +kernel
theorem dX2_setWord_33 : decode cX2_setWord 33 = .ok (.iload_n 1, 1) := by decide +kernel
theorem dX2_setWord_34 : decode cX2_setWord 34 = .ok (.iload_n 3, 1) := by decide +kernel
theorem dX2_setWord_35 : decode cX2_setWord 35 = .ok (.iastore, 1) := by decide +kernel
theorem dX2_setWord_36 : decode cX2_setWord 36 = .ok (.return_, 1) := by decide +kernel
theorem dX2_wordLeft_0 : decode cX2_wordLeft 0 = .ok (.aload_n 0, 1) := by decide +kernel
theorem dX2_wordLeft_1 : decode cX2_wordLeft 1 = .ok (.getfield 9, 3) := by decide +kernel
theorem dX2_wordLeft_4 : decode cX2_wordLeft 4 = .ok (.iconst 1, 1) := by decide +kernel
theorem dX2_wordLeft_5 : decode cX2_wordLeft 5 = .ok (.if_icmp .ne 20, 3) := by decide +kernel
theorem dX2_wordLeft_8 : decode cX2_wordLeft 8 = .ok (.iload_n 1, 1) := by decide +kernel
theorem dX2_wordLeft_9 : decode cX2_wordLeft 9 = .ok (.ifCond .lt 16, 3) := by decide +kernel
theorem dX2_wordLeft_12 : decode cX2_wordLeft 12 = .ok (.iload_n 1, 1) := by decide +kernel
theorem dX2_wordLeft_13 : decode cX2_wordLeft 13 = .ok (.aload_n 0, 1) := by decide +kernel
theorem dX2_wordLeft_14 : decode cX2_wordLeft 14 = .ok (.getfield 62, 3) := by decide +kernel
theorem dX2_wordLeft_17 : decode cX2_wordLeft 17 = .ok (.arraylength, 1) := by decide +kernel
theorem dX2_wordLeft_18 : decode cX2_wordLeft 18 = .ok (.if_icmp .ge 7, 3) := by decide +kernel
theorem dX2_wordLeft_21 : decode cX2_wordLeft 21 = .ok (.iconst 1, 1) := by decide +kernel
theorem dX2_wordLeft_22 : decode cX2_wordLeft 22 = .ok (.goto 4, 3) := by decide +kernel
theorem dX2_wordLeft_25 : decode cX2_wordLeft 25 = .ok (.iconst 0, 1) := by decide +kernel
theorem dX2_wordLeft_26 : decode cX2_wordLeft 26 = .ok (.istore_n 2, 1) := by decide +kernel
theorem dX2_wordLeft_27 : decode cX2_wordLeft 27 = .ok (.iload_n 2, 1) := by decide +kernel
theorem dX2_wordLeft_28 : decode cX2_wordLeft 28 = .ok (.ifCond .eq 17, 3) := by decide +kernel
theorem dX2_wordLeft_31 : decode cX2_wordLeft 31 = .ok (.aload_n 0, 1) := by decide +kernel
theorem dX2_wordLeft_32 : decode cX2_wordLeft 32 = .ok (.getfield 62, 3) := by decide +kernel
theorem dX2_wordLeft_35 : decode cX2_wordLeft 35 = .ok (.iload_n 1, 1) := by decide +kernel
theorem dX2_wordLeft_36 : decode cX2_wordLeft 36 = .ok (.iaload, 1) := by decide +kernel
theorem dX2_wordLeft_37 : decode cX2_wordLeft 37 = .ok (.aload_n 0, 1) := by decide +kernel
theorem dX2_wordLeft_38 : decode cX2_wordLeft 38 = .ok (.getfield 47, 3) := by decide +kernel
theorem dX2_wordLeft_41 : decode cX2_wordLeft 41 = .ok (.iadd, 1) := by decide +kernel
theorem dX2_wordLeft_42 : decode cX2_wordLeft 42 = .ok (.goto 6, 3) := by decide +kernel
theorem dX2_wordLeft_45 : decode cX2_wordLeft 45 = .ok (.sipush (-9999), 3) := by decide +kernel
theorem dX2_wordLeft_48 : decode cX2_wordLeft 48 = .ok (.ireturn, 1) := by decide +kernel
theorem dX2_wordTop_0 : decode cX2_wordTop 0 = .ok (.aload_n 0, 1) := by decide +kernel
theorem dX2_wordTop_1 : decode cX2_wordTop 1 = .ok (.getfield 9, 3) := by decide +kernel
theorem dX2_wordTop_4 : decode cX2_wordTop 4 = .ok (.iconst 1, 1) := by decide +kernel
theorem dX2_wordTop_5 : decode cX2_wordTop 5 = .ok (.if_icmp .ne 20, 3) := by decide +kernel
theorem dX2_wordTop_8 : decode cX2_wordTop 8 = .ok (.iload_n 1, 1) := by decide +kernel
theorem dX2_wordTop_9 : decode cX2_wordTop 9 = .ok (.ifCond .lt 16, 3) := by decide +kernel
theorem dX2_wordTop_12 : decode cX2_wordTop 12 = .ok (.iload_n 1, 1) := by decide +kernel
theorem dX2_wordTop_13 : decode cX2_wordTop 13 = .ok (.aload_n 0, 1) := by decide +kernel
theorem dX2_wordTop_14 : decode cX2_wordTop 14 = .ok (.getfield 66, 3) := by decide +kernel
theorem dX2_wordTop_17 : decode cX2_wordTop 17 = .ok (.arraylength, 1) := by decide +kernel
theorem dX2_wordTop_18 : decode cX2_wordTop 18 = .ok (.if_icmp .ge 7, 3) := by decide +kernel
theorem dX2_wordTop_21 : decode cX2_wordTop 21 = .ok (.iconst 1, 1) := by decide +kernel
theorem dX2_wordTop_22 : decode cX2_wordTop 22 = .ok (.goto 4, 3) := by decide +kernel
theorem dX2_wordTop_25 : decode cX2_wordTop 25 = .ok (.iconst 0, 1) := by decide +kernel
theorem dX2_wordTop_26 : decode cX2_wordTop 26 = .ok (.istore_n 2, 1) := by decide +kernel
theorem dX2_wordTop_27 : decode cX2_wordTop 27 = .ok (.iload_n 2, 1) := by decide +kernel
theorem dX2_wordTop_28 : decode cX2_wordTop 28 = .ok (.ifCond .eq 17, 3) := by decide +kernel
theorem dX2_wordTop_31 : decode cX2_wordTop 31 = .ok (.aload_n 0, 1) := by decide +kernel
theorem dX2_wordTop_32 : decode cX2_wordTop 32 = .ok (.getfield 66, 3) := by decide +kernel
theorem dX2_wordTop_35 : decode cX2_wordTop 35 = .ok (.iload_n 1, 1) := by decide +kernel
theorem dX2_wordTop_36 : decode cX2_wordTop 36 = .ok (.iaload, 1) := by decide +kernel
theorem dX2_wordTop_37 : decode cX2_wordTop 37 = .ok (.aload_n 0, 1) := by decide +kernel
theorem dX2_wordTop_38 : decode cX2_wordTop 38 = .ok (.getfield 50, 3) := by decide +kernel
theorem dX2_wordTop_41 : decode cX2_wordTop 41 = .ok (.iadd, 1) := by decide +kernel
theorem dX2_wordTop_42 : decode cX2_wordTop 42 = .ok (.goto 6, 3) := by decide +kernel
theorem dX2_wordTop_45 : decode cX2_wordTop 45 = .ok (.sipush (-9999), 3) := by decide +kernel
theorem dX2_wordTop_48 : decode cX2_wordTop 48 = .ok (.ireturn, 1) := by decide +kernel
theorem dX2_isWithin_0 : decode cX2_isWithin 0 = .ok (.iload_n 0, 1) := by decide +kernel
theorem dX2_isWithin_1 : decode cX2_isWithin 1 = .ok (.iload_n 1, 1) := by decide +kernel
theorem dX2_isWithin_2 : decode cX2_isWithin 2 = .ok (.if_icmp .lt 14, 3) := by decide +kernel
theorem dX2_isWithin_5 : decode cX2_isWithin 5 = .ok (.iload_n 0, 1) := by decide +kernel
theorem dX2_isWithin_6 : decode cX2_isWithin 6 = .ok (.iload_n 1, 1) := by decide +kernel
theorem dX2_isWithin_7 : decode cX2_isWithin 7 = .ok (.iload_n 2, 1) := by decide +kernel
theorem dX2_isWithin_8 : decode cX2_isWithin 8 = .ok (.iadd, 1) := by decide +kernel
theorem dX2_isWithin_9 : decode cX2_isWithin 9 = .ok (.if_icmp .ge 7, 3) := by decide +kernel
theorem dX2_isWithin_12 : decode cX2_isWithin 12 = .ok (.iconst 1, 1) := by decide +kernel
theorem dX2_isWithin_13 : decode cX2_isWithin 13 = .ok (.goto 4, 3) := by decide +kernel
theorem dX2_isWithin_16 : decode cX2_isWithin 16 = .ok (.iconst 0, 1) := by decide +kernel
theorem dX2_isWithin_17 : decode cX2_isWithin 17 = .ok (.ireturn, 1) := by decide +kernel
theorem dX3_init_0 : decode cX3_init 0 = .ok (.aload_n 0, 1) := by decide +kernel
theorem dX3_init_1 : decode cX3_init 1 = .ok (.invokespecial 3, 3) := by decide +kernel
theorem dX3_init_4 : decode cX3_init 4 = .ok (.aload_n 0, 1) := by decide +kernel
theorem dX3_init_5 : decode cX3_init 5 = .ok (.new 9, 3) := by decide +kernel
theorem dX3_init_8 : decode cX3_init 8 = .ok (.dup, 1) := by decide +kernel
theorem dX3_init_9 : decode cX3_init 9 = .ok (.invokespecial 11, 3) := by decide +kernel
theorem dX3_init_12 : decode cX3_init 12 = .ok (.putfield 12, 3) := by decide +kernel
theorem dX3_init_15 : decode cX3_init 15 = .ok (.aload_n 0, 1) := by decide +kernel
theorem dX3_init_16 : decode cX3_init 16 = .ok (.new 18, 3) := by decide +kernel
theorem dX3_init_19 : decode cX3_init 19 = .ok (.dup, 1) := by decide +kernel
theorem dX3_init_20 : decode cX3_init 20 = .ok (.invokespecial 20, 3) := by decide +kernel
theorem dX3_init_23 : decode cX3_init 23 = .ok (.putfield 21, 3) := by decide +kernel
theorem dX3_init_26 : decode cX3_init 26 = .ok (.aload_n 0, 1) := by decide +kernel
theorem dX3_init_27 : decode cX3_init 27 = .ok (.aconst_null, 1) := by decide +kernel
theorem dX3_init_28 : decode cX3_init 28 = .ok (.putfield 25, 3) := by decide +kernel
theorem dX3_init_31 : decode cX3_init 31 = .ok (.aload_n 0, 1) := by decide +kernel
theorem dX3_init_32 : decode cX3_init 32 = .ok (.iconst 0, 1) := by decide +kernel
theorem dX3_init_33 : decode cX3_init 33 = .ok (.putfield 29, 3) := by decide +kernel
theorem dX3_init_36 : decode cX3_init 36 = .ok (.aload_n 0, 1) := by decide +kernel
theorem dX3_init_37 : decode cX3_init 37 = .ok (.iconst 0, 1) := by decide +kernel
theorem dX3_init_38 : decode cX3_init 38 = .ok (.putfield 33, 3) := by decide +kernel
theorem dX3_init_41 : decode cX3_init 41 = .ok (.aload_n 0, 1) := by decide +kernel
theorem dX3_init_42 : decode cX3_init 42 = .ok (.iconst 0, 1) := by decide +kernel
theorem dX3_init_43 : decode cX3_init 43 = .ok (.putfield 36, 3) := by decide +kernel
theorem dX3_init_46 : decode cX3_init 46 = .ok (.aload_n 0, 1) := by decide +kernel
theorem dX3_init_47 : decode cX3_init 47 = .ok (.iconst 0, 1) := by decide +kernel
theorem dX3_init_48 : decode cX3_init 48 = .ok (.putfield 39, 3) := by decide +kernel
theorem dX3_init_51 : decode cX3_init 51 = .ok (.aload_n 0, 1) := by decide +kernel
theorem dX3_init_52 : decode cX3_init 52 = .ok (.iconst 0, 1) := by decide +kernel
theorem dX3_init_53 : decode cX3_init 53 = .ok (.putfield 42, 3) := by decide +kernel
theorem dX3_init_56 : decode cX3_init 56 = .ok (.aload_n 0, 1) := by decide +kernel
theorem dX3_init_57 : decode cX3_init 57 = .ok (.iload_n 1, 1) := by decide +kernel
theorem dX3_init_58 : decode cX3_init 58 = .ok (.putfield 46, 3) := by decide +kernel
theorem dX3_init_61 : decode cX3_init 61 = .ok (.aload_n 0, 1) := by decide +kernel
theorem dX3_init_62 : decode cX3_init 62 = .ok (.iload_n 2, 1) := by decide +kernel
theorem dX3_init_63 : decode cX3_init 63 = .ok (.putfield 49, 3) := by decide +kernel
theorem dX3_init_66 : decode cX3_init 66 = .ok (.aload_n 0, 1) := by decide +kernel
theorem dX3_init_67 : decode cX3_init 67 = .ok (.iload_n 3, 1) := by decide +kernel
theorem dX3_init_68 : decode cX3_init 68 = .ok (.putfield 52, 3) := by decide +kernel
theorem dX3_init_71 : decode cX3_init 71 = .ok (.aload_n 0, 1) := by decide +kernel
theorem dX3_init_72 : decode cX3_init 72 = .ok (.iload_n 2, 1) := by decide +kernel
theorem dX3_init_73 : decode cX3_init 73 = .ok (.ifCond .eq 8, 3) := by decide +kernel
theorem dX3_init_76 : decode cX3_init 76 = .ok (.bipush 20, 2) := by decide +kernel
theorem dX3_init_78 : decode cX3_init 78 = .ok (.goto 4, 3) := by decide +kernel
theorem dX3_init_81 : decode cX3_init 81 = .ok (.iconst 0, 1) := by decide +kernel
theorem dX3_init_82 : decode cX3_init 82 = .ok (.newarray .int, 2) := by decide +kernel
theorem dX3_init_84 : decode cX3_init 84 = .ok (.putfield 55, 3) := by decide +kernel
theorem dX3_init_87 : decode cX3_init 87 = .ok (.aload_n 0, 1) := by decide +kernel
theorem dX3_init_88 : decode cX3_init 88 = .ok (.iload_n 2, 1) := by decide +kernel
theorem dX3_init_89 : decode cX3_init 89 = .ok (.ifCond .eq 7, 3) := by decide +kernel
theorem dX3_init_92 : decode cX3_init 92 = .ok (.iconst 0, 1) := by decide +kernel
theorem dX3_init_93 : decode cX3_init 93 = .ok (.goto 5, 3) := by decide +kernel
theorem dX3_init_96 : decode cX3_init 96 = .ok (.bipush 14, 2) := by decide +kernel
theorem dX3_init_98 : decode cX3_init 98 = .ok (.newarray .int, 2) := by decide +kernel
theorem dX3_init_100 : decode cX3_init 100 = .ok (.putfield 59, 3) := by decide +kernel
theorem dX3_init_103 : decode cX3_init 103 = .ok (.iconst 0, 1) := by decide +kernel
theorem dX3_init_104 : decode cX3_init 104 = .ok (.istore 4, 2) := by decide +kernel
theorem dX3_init_106 : decode cX3_init 106 = .ok (.iload 4, 2) := by decide +kernel
theorem dX3_init_108 : decode cX3_init 108 = .ok (.aload_n 0, 1) := by decide +kernel
theorem dX3_init_109 : decode cX3_init 109 = .ok (.getfield 59, 3) := by decide +kernel
theorem dX3_init_112 : decode cX3_init 112 = .ok (.arraylength, 1) := by decide +kernel
theorem dX3_init_113 : decode cX3_init 113 = .ok (.if_icmp .ge 19, 3) := by decide +kernel
theorem dX3_init_116 : decode cX3_init 116 = .ok (.aload_n 0, 1) := by decide +kernel
theorem dX3_init_117 : decode cX3_init 117 = .ok (.getfield 59, 3) := by decide +kernel
theorem dX3_init_120 : decode cX3_init 120 = .ok (.iload 4, 2) := by decide +kernel
theorem dX3_init_122 : decode cX3_init 122 = .ok (.sipush 9998, 3) := by decide +kernel
theorem dX3_init_125 : decode cX3_init 125 = .ok (.iastore, 1) := by decide +kernel
theorem dX3_init_126 : decode cX3_init 126 = .ok (.iinc 4 1, 3) := by decide +kernel
theorem dX3_init_129 : decode cX3_init 129 = .ok (.goto (-23), 3) := by decide +kernel
theorem dX3_init_132 : decode cX3_init 132 = .ok (.aload_n 0, 1) := by decide +kernel
theorem dX3_init_133 : decode cX3_init 133 = .ok (.new 62, 3) := by decide +kernel
theorem dX3_init_136 : decode cX3_init 136 = .ok (.dup, 1) := by decide +kernel
theorem dX3_init_137 : decode cX3_init 137 = .ok (.iload_n 2, 1) := by decide +kernel
theorem dX3_init_138 : decode cX3_init 138 = .ok (.ifCond .eq 8, 3) := by decide +kernel
theorem dX3_init_141 : decode cX3_init 141 = .ok (.bipush 20, 2) := by decide +kernel
theorem dX3_init_143 : decode cX3_init 143 = .ok (.goto 4, 3) := by decide +kernel
theorem dX3_init_146 : decode cX3_init 146 = .ok (.iconst 0, 1) := by decide +kernel
theorem dX3_init_147 : decode cX3_init 147 = .ok (.invokespecial 64, 3) := by decide +kernel
theorem dX3_init_150 : decode cX3_init 150 = .ok (.putfield 67, 3) := by decide +kernel
theorem dX3_init_153 : decode cX3_init 153 = .ok (.return_, 1) := by decide +kernel
theorem dX3_hasClass_0 : decode cX3_hasClass 0 = .ok (.iload_n 1, 1) := by decide +kernel
theorem dX3_hasClass_1 : decode cX3_hasClass 1 = .ok (.ifCond .lt 25, 3) := by decide +kernel
theorem dX3_hasClass_4 : decode cX3_hasClass 4 = .ok (.iload_n 1, 1) := by decide +kernel
theorem dX3_hasClass_5 : decode cX3_hasClass 5 = .ok (.bipush 7, 2) := by decide +kernel
theorem dX3_hasClass_7 : decode cX3_hasClass 7 = .ok (.if_icmp .gt 19, 3) := by decide +kernel
theorem dX3_hasClass_10 : decode cX3_hasClass 10 = .ok (.aload_n 0, 1) := by decide +kernel
theorem dX3_hasClass_11 : decode cX3_hasClass 11 = .ok (.getfield 36, 3) := by decide +kernel
theorem dX3_hasClass_14 : decode cX3_hasClass 14 = .ok (.iload_n 1, 1) := by decide +kernel
theorem dX3_hasClass_15 : decode cX3_hasClass 15 = .ok (.ishr, 1) := by decide +kernel
theorem dX3_hasClass_16 : decode cX3_hasClass 16 = .ok (.iconst 1, 1) := by decide +kernel
theorem dX3_hasClass_17 : decode cX3_hasClass 17 = .ok (.iand, 1) := by decide +kernel
theorem dX3_hasClass_18 : decode cX3_hasClass 18 = .ok (.iconst 1, 1) := by decide +kernel
theorem dX3_hasClass_19 : decode cX3_hasClass 19 = .ok (.if_icmp .ne 7, 3) := by decide +kernel
theorem dX3_hasClass_22 : decode cX3_hasClass 22 = .ok (.iconst 1, 1) := by decide +kernel
theorem dX3_hasClass_23 : decode cX3_hasClass 23 = .ok (.goto 4, 3) := by decide +kernel
theorem dX3_hasClass_26 : decode cX3_hasClass 26 = .ok (.iconst 0, 1) := by decide +kernel
theorem dX3_hasClass_27 : decode cX3_hasClass 27 = .ok (.ireturn, 1) := by decide +kernel
theorem dX3_hasWord_0 : decode cX3_hasWord 0 = .ok (.aload_n 0, 1) := by decide +kernel
theorem dX3_hasWord_1 : decode cX3_hasWord 1 = .ok (.getfield 49, 3) := by decide +kernel
theorem dX3_hasWord_4 : decode cX3_hasWord 4 = .ok (.ifCond .eq 28, 3) := by decide +kernel
theorem dX3_hasWord_7 : decode cX3_hasWord 7 = .ok (.iload_n 1, 1) := by decide +kernel
theorem dX3_hasWord_8 : decode cX3_hasWord 8 = .ok (.ifCond .lt 24, 3) := by decide +kernel
theorem dX3_hasWord_11 : decode cX3_hasWord 11 = .ok (.iload_n 1, 1) := by decide +kernel
theorem dX3_hasWord_12 : decode cX3_hasWord 12 = .ok (.aload_n 0, 1) := by decide +kernel
theorem dX3_hasWord_13 : decode cX3_hasWord 13 = .ok (.getfield 29, 3) := by decide +kernel
theorem dX3_hasWord_16 : decode cX3_hasWord 16 = .ok (.if_icmp .ge 16, 3) := by decide +kernel
theorem dX3_hasWord_19 : decode cX3_hasWord 19 = .ok (.iload_n 1, 1) := by decide +kernel
theorem dX3_hasWord_20 : decode cX3_hasWord 20 = .ok (.aload_n 0, 1) := by decide +kernel
theorem dX3_hasWord_21 : decode cX3_hasWord 21 = .ok (.getfield 55, 3) := by decide +kernel
theorem dX3_hasWord_24 : decode cX3_hasWord 24 = .ok (.arraylength, 1) := by decide +kernel
theorem dX3_hasWord_25 : decode cX3_hasWord 25 = .ok (.if_icmp .ge 7, 3) := by decide +kernel
theorem dX3_hasWord_28 : decode cX3_hasWord 28 = .ok (.iconst 1, 1) := by decide +kernel
theorem dX3_hasWord_29 : decode cX3_hasWord 29 = .ok (.goto 4, 3) := by decide +kernel
theorem dX3_hasWord_32 : decode cX3_hasWord 32 = .ok (.iconst 0, 1) := by decide +kernel
theorem dX3_hasWord_33 : decode cX3_hasWord 33 = .ok (.ireturn, 1) := by decide +kernel
theorem dX3_lettersOf_0 : decode cX3_lettersOf 0 = .ok (.aload_n 0, 1) := by decide +kernel
theorem dX3_lettersOf_1 : decode cX3_lettersOf 1 = .ok (.iload_n 1, 1) := by decide +kernel
theorem dX3_lettersOf_2 : decode cX3_lettersOf 2 = .ok (.invokevirtual 71, 3) := by decide +kernel
theorem dX3_lettersOf_5 : decode cX3_lettersOf 5 = .ok (.ifCond .eq 12, 3) := by decide +kernel
theorem dX3_lettersOf_8 : decode cX3_lettersOf 8 = .ok (.aload_n 0, 1) := by decide +kernel
theorem dX3_lettersOf_9 : decode cX3_lettersOf 9 = .ok (.getfield 55, 3) := by decide +kernel
theorem dX3_lettersOf_12 : decode cX3_lettersOf 12 = .ok (.iload_n 1, 1) := by decide +kernel
theorem dX3_lettersOf_13 : decode cX3_lettersOf 13 = .ok (.iaload, 1) := by decide +kernel
theorem dX3_lettersOf_14 : decode cX3_lettersOf 14 = .ok (.goto 4, 3) := by decide +kernel
theorem dX3_lettersOf_17 : decode cX3_lettersOf 17 = .ok (.iconst 0, 1) := by decide +kernel
theorem dX3_lettersOf_18 : decode cX3_lettersOf 18 = .ok (.ireturn, 1) := by decide +kernel
theorem dX3_declaredOf_0 : decode cX3_declaredOf 0 = .ok (.iload_n 1, 1) := by decide +kernel
theorem dX3_declaredOf_1 : decode cX3_declaredOf 1 = .ok (.ifCond .lt 21, 3) := by decide +kernel
theorem dX3_declaredOf_4 : decode cX3_declaredOf 4 = .ok (.iload_n 1, 1) := by decide +kernel
theorem dX3_declaredOf_5 : decode cX3_declaredOf 5 = .ok (.aload_n 0, 1) := by decide +kernel
theorem dX3_declaredOf_6 : decode cX3_declaredOf 6 = .ok (.getfield 59, 3) := by decide +kernel
theorem dX3_declaredOf_9 : decode cX3_declaredOf 9 = .ok (.arraylength, 1) := by decide +kernel
theorem dX3_declaredOf_10 : decode cX3_declaredOf 10 = .ok (.if_icmp .ge 12, 3) := by decide +kernel
theorem dX3_declaredOf_13 : decode cX3_declaredOf 13 = .ok (.aload_n 0, 1) := by decide +kernel
theorem dX3_declaredOf_14 : decode cX3_declaredOf 14 = .ok (.getfield 59, 3) := by decide +kernel
theorem dX3_declaredOf_17 : decode cX3_declaredOf 17 = .ok (.iload_n 1, 1) := by decide +kernel
theorem dX3_declaredOf_18 : decode cX3_declaredOf 18 = .ok (.iaload, 1) := by decide +kernel
theorem dX3_declaredOf_19 : decode cX3_declaredOf 19 = .ok (.goto 6, 3) := by decide +kernel
theorem dX3_declaredOf_22 : decode cX3_declaredOf 22 = .ok (.sipush 9998, 3) := by decide +kernel
theorem dX3_declaredOf_25 : decode cX3_declaredOf 25 = .ok (.ireturn, 1) := by decide +kernel
theorem dX3_setDeclared_0 : decode cX3_setDeclared 0 = .ok (.iload_n 1, 1) := by decide +kernel
theorem dX3_setDeclared_1 : decode cX3_setDeclared 1 = .ok (.ifCond .lt 19, 3) := by decide +kernel
theorem dX3_setDeclared_4 : decode cX3_setDeclared 4 = .ok (.iload_n 1, 1) := by decide +kernel
theorem dX3_setDeclared_5 : decode cX3_setDeclared 5 = .ok (.aload_n 0, 1) := by decide +kernel
theorem dX3_setDeclared_6 : decode cX3_setDeclared 6 = .ok (.getfield 59, 3) := by decide +kernel
theorem dX3_setDeclared_9 : decode cX3_setDeclared 9 = .ok (.arraylength, 1) := by decide +kernel
theorem dX3_setDeclared_10 : decode cX3_setDeclared 10 = .ok (.if_icmp .ge 10, 3) := by decide +kernel
theorem dX3_setDeclared_13 : decode cX3_setDeclared 13 = .ok (.aload_n 0, 1) := by decide +kernel
theorem dX3_setDeclared_14 : decode cX3_setDeclared 14 = .ok (.getfield 59, 3) := by decide +kernel
theorem dX3_setDeclared_17 : decode cX3_setDeclared 17 = .ok (.iload_n 1, 1) := by decide +kernel
theorem dX3_setDeclared_18 : decode cX3_setDeclared 18 = .ok (.iload_n 2, 1) := by decide +kernel
theorem dX3_setDeclared_19 : decode cX3_setDeclared 19 = .ok (.iastore, 1) := by decide +kernel
theorem dX3_setDeclared_20 : decode cX3_setDeclared 20 = .ok (.return_, 1) := by decide +kernel
theorem dX3_ancestors_0 : decode cX3_ancestors 0 = .ok (.iconst 0, 1) := by decide +kernel
theorem dX3_ancestors_1 : decode cX3_ancestors 1 = .ok (.istore_n 1, 1) := by decide +kernel
theorem dX3_ancestors_2 : decode cX3_ancestors 2 = .ok (.aload_n 0, 1) := by decide +kernel
theorem dX3_ancestors_3 : decode cX3_ancestors 3 = .ok (.getfield 25, 3) := by decide +kernel
theorem dX3_ancestors_6 : decode cX3_ancestors 6 = .ok (.astore_n 2, 1) := by decide +kernel
theorem dX3_ancestors_7 : decode cX3_ancestors 7 = .ok (.aload_n 2, 1) := by decide +kernel
theorem dX3_ancestors_8 : decode cX3_ancestors 8 = .ok (.ifnull 14, 3) := by decide +kernel
theorem dX3_ancestors_11 : decode cX3_ancestors 11 = .ok (.iinc 1 1, 3) := by decide +kernel
theorem dX3_ancestors_14 : decode cX3_ancestors 14 = .ok (.aload_n 2, 1) := by decide +kernel
theorem dX3_ancestors_15 : decode cX3_ancestors 15 = .ok (.getfield 25, 3) := by decide +kernel
theorem dX3_ancestors_18 : decode cX3_ancestors 18 = .ok (.astore_n 2, 1) := by decide +kernel
theorem dX3_ancestors_19 : decode cX3_ancestors 19 = .ok (.goto (-12), 3) := by decide +kernel
theorem dX3_ancestors_22 : decode cX3_ancestors 22 = .ok (.iload_n 1, 1) := by decide +kernel
theorem dX3_ancestors_23 : decode cX3_ancestors 23 = .ok (.ireturn, 1) := by decide +kernel
theorem dX3_isOrIsIn_0 : decode cX3_isOrIsIn 0 = .ok (.aload_n 0, 1) := by decide +kernel
theorem dX3_isOrIsIn_1 : decode cX3_isOrIsIn 1 = .ok (.astore_n 2, 1) := by decide +kernel
theorem dX3_isOrIsIn_2 : decode cX3_isOrIsIn 2 = .ok (.aload_n 2, 1) := by decide +kernel
theorem dX3_isOrIsIn_3 : decode cX3_isOrIsIn 3 = .ok (.ifnull 18, 3) := by decide +kernel
theorem dX3_isOrIsIn_6 : decode cX3_isOrIsIn 6 = .ok (.aload_n 2, 1) := by decide +kernel
theorem dX3_isOrIsIn_7 : decode cX3_isOrIsIn 7 = .ok (.aload_n 1, 1) := by decide +kernel
theorem dX3_isOrIsIn_8 : decode cX3_isOrIsIn 8 = .ok (.if_acmp .ne 5, 3) := by decide +kernel
theorem dX3_isOrIsIn_11 : decode cX3_isOrIsIn 11 = .ok (.iconst 1, 1) := by decide +kernel
theorem dX3_isOrIsIn_12 : decode cX3_isOrIsIn 12 = .ok (.ireturn, 1) := by decide +kernel
theorem dX3_isOrIsIn_13 : decode cX3_isOrIsIn 13 = .ok (.aload_n 2, 1) := by decide +kernel
theorem dX3_isOrIsIn_14 : decode cX3_isOrIsIn 14 = .ok (.getfield 25, 3) := by decide +kernel
theorem dX3_isOrIsIn_17 : decode cX3_isOrIsIn 17 = .ok (.astore_n 2, 1) := by decide +kernel
theorem dX3_isOrIsIn_18 : decode cX3_isOrIsIn 18 = .ok (.goto (-16), 3) := by decide +kernel
theorem dX3_isOrIsIn_21 : decode cX3_isOrIsIn 21 = .ok (.iconst 0, 1) := by decide +kernel
theorem dX3_isOrIsIn_22 : decode cX3_isOrIsIn 22 = .ok (.ireturn, 1) := by decide +kernel
theorem dX3_placeAmongSiblings_0 : decode cX3_placeAmongSiblings 0 = .ok (.aload_n 0, 1) := by decide +kernel
theorem dX3_placeAmongSiblings_1 : decode cX3_placeAmongSiblings 1 = .ok (.getfield 25, 3) := by decide +kernel
theorem dX3_placeAmongSiblings_4 : decode cX3_placeAmongSiblings 4 = .ok (.ifnull 42, 3) := by decide +kernel
theorem dX3_placeAmongSiblings_7 : decode cX3_placeAmongSiblings 7 = .ok (.iconst 0, 1) := by decide +kernel
theorem dX3_placeAmongSiblings_8 : decode cX3_placeAmongSiblings 8 = .ok (.istore_n 1, 1) := by decide +kernel
theorem dX3_placeAmongSiblings_9 : decode cX3_placeAmongSiblings 9 = .ok (.iload_n 1, 1) := by decide +kernel
theorem dX3_placeAmongSiblings_10 : decode cX3_placeAmongSiblings 10 = .ok (.aload_n 0, 1) := by decide +kernel
theorem dX3_placeAmongSiblings_11 : decode cX3_placeAmongSiblings 11 = .ok (.getfield 25, 3) := by decide +kernel
theorem dX3_placeAmongSiblings_14 : decode cX3_placeAmongSiblings 14 = .ok (.getfield 12, 3) := by decide +kernel
theorem dX3_placeAmongSiblings_17 : decode cX3_placeAmongSiblings 17 = .ok (.invokevirtual 75, 3) := by decide +kernel
theorem dX3_placeAmongSiblings_20 : decode cX3_placeAmongSiblings 20 = .ok (.if_icmp .ge 26, 3) := by decide +kernel
theorem dX3_placeAmongSiblings_23 : decode cX3_placeAmongSiblings 23 = .ok (.aload_n 0, 1) := by decide +kernel
theorem dX3_placeAmongSiblings_24 : decode cX3_placeAmongSiblings 24 = .ok (.getfield 25, 3) := by decide +kernel
theorem dX3_placeAmongSiblings_27 : decode cX3_placeAmongSiblings 27 = .ok (.getfield 12, 3) := by decide +kernel
theorem dX3_placeAmongSiblings_30 : decode cX3_placeAmongSiblings 30 = .ok (.iload_n 1, 1) := by decide +kernel
theorem dX3_placeAmongSiblings_31 : decode cX3_placeAmongSiblings 31 = .ok (.invokevirtual 79, 3) := by decide +kernel
theorem dX3_placeAmongSiblings_34 : decode cX3_placeAmongSiblings 34 = .ok (.aload_n 0, 1) := by decide +kernel
theorem dX3_placeAmongSiblings_35 : decode cX3_placeAmongSiblings 35 = .ok (.if_acmp .ne 5, 3) := by decide +kernel
theorem dX3_placeAmongSiblings_38 : decode cX3_placeAmongSiblings 38 = .ok (.iload_n 1, 1) := by decide +kernel
theorem dX3_placeAmongSiblings_39 : decode cX3_placeAmongSiblings 39 = .ok (.ireturn, 1) := by decide +kernel
theorem dX3_placeAmongSiblings_40 : decode cX3_placeAmongSiblings 40 = .ok (.iinc 1 1, 3) := by decide +kernel
theorem dX3_placeAmongSiblings_43 : decode cX3_placeAmongSiblings 43 = .ok (.goto (-34), 3) := by decide +kernel
theorem dX3_placeAmongSiblings_46 : decode cX3_placeAmongSiblings 46 = .ok (.iconst (-1), 1) := by decide +kernel
theorem dX3_placeAmongSiblings_47 : decode cX3_placeAmongSiblings 47 = .ok (.ireturn, 1) := by decide +kernel
theorem dX4_init_0 : decode cX4_init 0 = .ok (.aload_n 0, 1) := by decide +kernel
theorem dX4_init_1 : decode cX4_init 1 = .ok (.invokespecial 3, 3) := by decide +kernel
theorem dX4_init_4 : decode cX4_init 4 = .ok (.aload_n 0, 1) := by decide +kernel
theorem dX4_init_5 : decode cX4_init 5 = .ok (.new 9, 3) := by decide +kernel
theorem dX4_init_8 : decode cX4_init 8 = .ok (.dup, 1) := by decide +kernel
theorem dX4_init_9 : decode cX4_init 9 = .ok (.invokespecial 11, 3) := by decide +kernel
theorem dX4_init_12 : decode cX4_init 12 = .ok (.putfield 12, 3) := by decide +kernel
theorem dX4_init_15 : decode cX4_init 15 = .ok (.aload_n 0, 1) := by decide +kernel
theorem dX4_init_16 : decode cX4_init 16 = .ok (.new 18, 3) := by decide +kernel
theorem dX4_init_19 : decode cX4_init 19 = .ok (.dup, 1) := by decide +kernel
theorem dX4_init_20 : decode cX4_init 20 = .ok (.invokespecial 20, 3) := by decide +kernel
theorem dX4_init_23 : decode cX4_init 23 = .ok (.putfield 21, 3) := by decide +kernel
theorem dX4_init_26 : decode cX4_init 26 = .ok (.aload_n 0, 1) := by decide +kernel
theorem dX4_init_27 : decode cX4_init 27 = .ok (.new 25, 3) := by decide +kernel
theorem dX4_init_30 : decode cX4_init 30 = .ok (.dup, 1) := by decide +kernel
theorem dX4_init_31 : decode cX4_init 31 = .ok (.invokespecial 27, 3) := by decide +kernel
theorem dX4_init_34 : decode cX4_init 34 = .ok (.putfield 28, 3) := by decide +kernel
theorem dX4_init_37 : decode cX4_init 37 = .ok (.aload_n 0, 1) := by decide +kernel
theorem dX4_init_38 : decode cX4_init 38 = .ok (.iconst 0, 1) := by decide +kernel
theorem dX4_init_39 : decode cX4_init 39 = .ok (.putfield 32, 3) := by decide +kernel
theorem dX4_init_42 : decode cX4_init 42 = .ok (.aload_n 0, 1) := by decide +kernel
theorem dX4_init_43 : decode cX4_init 43 = .ok (.iconst 0, 1) := by decide +kernel
theorem dX4_init_44 : decode cX4_init 44 = .ok (.putfield 36, 3) := by decide +kernel
theorem dX4_init_47 : decode cX4_init 47 = .ok (.aload_n 0, 1) := by decide +kernel
theorem dX4_init_48 : decode cX4_init 48 = .ok (.iconst 0, 1) := by decide +kernel
theorem dX4_init_49 : decode cX4_init 49 = .ok (.putfield 39, 3) := by decide +kernel
theorem dX4_init_52 : decode cX4_init 52 = .ok (.return_, 1) := by decide +kernel
theorem dX4_layOut_0 : decode cX4_layOut 0 = .ok (.aload_n 0, 1) := by decide +kernel
theorem dX4_layOut_1 : decode cX4_layOut 1 = .ok (.getfield 21, 3) := by decide +kernel
theorem dX4_layOut_4 : decode cX4_layOut 4 = .ok (.invokevirtual 42, 3) := by decide +kernel
theorem dX4_layOut_7 : decode cX4_layOut 7 = .ok (.aload_n 0, 1) := by decide +kernel
theorem dX4_layOut_8 : decode cX4_layOut 8 = .ok (.getfield 28, 3) := by decide +kernel
theorem dX4_layOut_11 : decode cX4_layOut 11 = .ok (.invokevirtual 45, 3) := by decide +kernel
theorem dX4_layOut_14 : decode cX4_layOut 14 = .ok (.aload_n 0, 1) := by decide +kernel
theorem dX4_layOut_15 : decode cX4_layOut 15 = .ok (.iconst 0, 1) := by decide +kernel
theorem dX4_layOut_16 : decode cX4_layOut 16 = .ok (.putfield 36, 3) := by decide +kernel
theorem dX4_layOut_19 : decode cX4_layOut 19 = .ok (.aload_n 0, 1) := by decide +kernel
theorem dX4_layOut_20 : decode cX4_layOut 20 = .ok (.iconst 0, 1) := by decide +kernel
theorem dX4_layOut_21 : decode cX4_layOut 21 = .ok (.putfield 39, 3) := by decide +kernel
theorem dX4_layOut_24 : decode cX4_layOut 24 = .ok (.aload_n 0, 1) := by decide +kernel
theorem dX4_layOut_25 : decode cX4_layOut 25 = .ok (.aload_n 1, 1) := by decide +kernel
theorem dX4_layOut_26 : decode cX4_layOut 26 = .ok (.getfield 46, 3) := by decide +kernel
theorem dX4_layOut_29 : decode cX4_layOut 29 = .ok (.invokevirtual 52, 3) := by decide +kernel
theorem dX4_layOut_32 : decode cX4_layOut 32 = .ok (.aload_n 0, 1) := by decide +kernel
theorem dX4_layOut_33 : decode cX4_layOut 33 = .ok (.aload_n 1, 1) := by decide +kernel
theorem dX4_layOut_34 : decode cX4_layOut 34 = .ok (.getfield 46, 3) := by decide +kernel
theorem dX4_layOut_37 : decode cX4_layOut 37 = .ok (.invokevirtual 56, 3) := by decide +kernel
theorem dX4_layOut_40 : decode cX4_layOut 40 = .ok (.aload_n 1, 1) := by decide +kernel
theorem dX4_layOut_41 : decode cX4_layOut 41 = .ok (.getfield 59, 3) := by decide +kernel
theorem dX4_layOut_44 : decode cX4_layOut 44 = .ok (.getfield 63, 3) := by decide +kernel
theorem dX4_layOut_47 : decode cX4_layOut 47 = .ok (.astore_n 3, 1) := by decide +kernel
theorem dX4_layOut_48 : decode cX4_layOut 48 = .ok (.aload_n 3, 1) := by decide +kernel
theorem dX4_layOut_49 : decode cX4_layOut 49 = .ok (.aload_n 3, 1) := by decide +kernel
theorem dX4_layOut_50 : decode cX4_layOut 50 = .ok (.getfield 69, 3) := by decide +kernel
theorem dX4_layOut_53 : decode cX4_layOut 53 = .ok (.putfield 74, 3) := by decide +kernel
theorem dX4_layOut_56 : decode cX4_layOut 56 = .ok (.aload_n 3, 1) := by decide +kernel
theorem dX4_layOut_57 : decode cX4_layOut 57 = .ok (.aload_n 3, 1) := by decide +kernel
theorem dX4_layOut_58 : decode cX4_layOut 58 = .ok (.getfield 69, 3) := by decide +kernel
theorem dX4_layOut_61 : decode cX4_layOut 61 = .ok (.putfield 77, 3) := by decide +kernel
theorem dX4_layOut_64 : decode cX4_layOut 64 = .ok (.aload_n 3, 1) := by decide +kernel
theorem dX4_layOut_65 : decode cX4_layOut 65 = .ok (.aload_n 0, 1) := by decide +kernel
theorem dX4_layOut_66 : decode cX4_layOut 66 = .ok (.aload_n 1, 1) := by decide +kernel
theorem dX4_layOut_67 : decode cX4_layOut 67 = .ok (.getfield 59, 3) := by decide +kernel
theorem dX4_layOut_70 : decode cX4_layOut 70 = .ok (.iload_n 2, 1) := by decide +kernel
theorem dX4_layOut_71 : decode cX4_layOut 71 = .ok (.iconst 2, 1) := by decide +kernel
theorem dX4_layOut_72 : decode cX4_layOut 72 = .ok (.aload_n 3, 1) := by decide +kernel
theorem dX4_layOut_73 : decode cX4_layOut 73 = .ok (.getfield 69, 3) := by decide +kernel
theorem dX4_layOut_76 : decode cX4_layOut 76 = .ok (.imul, 1) := by decide +kernel
theorem dX4_layOut_77 : decode cX4_layOut 77 = .ok (.isub, 1) := by decide +kernel
theorem dX4_layOut_78 : decode cX4_layOut 78 = .ok (.invokevirtual 80, 3) := by decide +kernel
theorem dX4_layOut_81 : decode cX4_layOut 81 = .ok (.putfield 84, 3) := by decide +kernel
theorem dX4_layOut_84 : decode cX4_layOut 84 = .ok (.aload_n 1, 1) := by decide +kernel
theorem dX4_layOut_85 : decode cX4_layOut 85 = .ok (.getfield 59, 3) := by decide +kernel
theorem dX4_layOut_88 : decode cX4_layOut 88 = .ok (.getfield 87, 3) := by decide +kernel
theorem dX4_layOut_91 : decode cX4_layOut 91 = .ok (.aload_n 1, 1) := by decide +kernel
theorem dX4_layOut_92 : decode cX4_layOut 92 = .ok (.getfield 59, 3) := by decide +kernel
theorem dX4_layOut_95 : decode cX4_layOut 95 = .ok (.getfield 91, 3) := by decide +kernel
theorem dX4_layOut_98 : decode cX4_layOut 98 = .ok (.putfield 94, 3) := by decide +kernel
theorem dX4_layOut_101 : decode cX4_layOut 101 = .ok (.aload_n 0, 1) := by decide +kernel
theorem dX4_layOut_102 : decode cX4_layOut 102 = .ok (.aload_n 1, 1) := by decide +kernel
theorem dX4_layOut_103 : decode cX4_layOut 103 = .ok (.getfield 59, 3) := by decide +kernel
theorem dX4_layOut_106 : decode cX4_layOut 106 = .ok (.aload_n 1, 1) := by decide +kernel
theorem dX4_layOut_107 : decode cX4_layOut 107 = .ok (.getfield 46, 3) := by decide +kernel
theorem dX4_layOut_110 : decode cX4_layOut 110 = .ok (.iconst 0, 1) := by decide +kernel
theorem dX4_layOut_111 : decode cX4_layOut 111 = .ok (.invokevirtual 99, 3) := by decide +kernel
theorem dX4_layOut_114 : decode cX4_layOut 114 = .ok (.aload_n 0, 1) := by decide +kernel
theorem dX4_layOut_115 : decode cX4_layOut 115 = .ok (.aload_n 1, 1) := by decide +kernel
theorem dX4_layOut_116 : decode cX4_layOut 116 = .ok (.getfield 46, 3) := by decide +kernel
theorem dX4_layOut_119 : decode cX4_layOut 119 = .ok (.invokevirtual 103, 3) := by decide +kernel
theorem dX4_layOut_122 : decode cX4_layOut 122 = .ok (.aload_n 0, 1) := by decide +kernel
theorem dX4_layOut_123 : decode cX4_layOut 123 = .ok (.iload_n 2, 1) := by decide +kernel
theorem dX4_layOut_124 : decode cX4_layOut 124 = .ok (.putfield 32, 3) := by decide +kernel
theorem dX4_layOut_127 : decode cX4_layOut 127 = .ok (.return_, 1) := by decide +kernel
theorem dX4_isAt_0 : decode cX4_isAt 0 = .ok (.aload_n 1, 1) := by decide +kernel
theorem dX4_isAt_1 : decode cX4_isAt 1 = .ok (.getfield 63, 3) := by decide +kernel
theorem dX4_isAt_4 : decode cX4_isAt 4 = .ok (.iload_n 2, 1) := by decide +kernel
theorem dX4_isAt_5 : decode cX4_isAt 5 = .ok (.iload_n 3, 1) := by decide +kernel
theorem dX4_isAt_6 : decode cX4_isAt 6 = .ok (.invokevirtual 106, 3) := by decide +kernel
theorem dX4_isAt_9 : decode cX4_isAt 9 = .ok (.ifCond .eq 5, 3) := by decide +kernel
theorem dX4_isAt_12 : decode cX4_isAt 12 = .ok (.iconst 1, 1) := by decide +kernel
