theorem dX0_init_0 : decode cX0_init 0 = .ok (.aload_n 0, 1) := by decide +kernel
theorem dX0_init_1 : decode cX0_init 1 = .ok (.invokespecial 3, 3) := by decide +kernel
theorem dX0_init_4 : decode cX0_init 4 = .ok (.aload_n 0, 1) := by decide +kernel
theorem dX0_init_5 : decode cX0_init 5 = .ok (.bipush 40, 2) := by decide +kernel
theorem dX0_init_7 : decode cX0_init 7 = .ok (.newarray .int, 2) := by decide +kernel
theorem dX0_init_9 : decode cX0_init 9 = .ok (.putfield 9, 3) := by decide +kernel
theorem dX0_init_12 : decode cX0_init 12 = .ok (.aload_n 0, 1) := by decide +kernel
theorem dX0_init_13 : decode cX0_init 13 = .ok (.bipush 40, 2) := by decide +kernel
theorem dX0_init_15 : decode cX0_init 15 = .ok (.newarray .int, 2) := by decide +kernel
theorem dX0_init_17 : decode cX0_init 17 = .ok (.putfield 15, 3) := by decide +kernel
theorem dX0_init_20 : decode cX0_init 20 = .ok (.aload_n 0, 1) := by decide +kernel
theorem dX0_init_21 : decode cX0_init 21 = .ok (.bipush 40, 2) := by decide +kernel
theorem dX0_init_23 : decode cX0_init 23 = .ok (.newarray .int, 2) := by decide +kernel
theorem dX0_init_25 : decode cX0_init 25 = .ok (.putfield 18, 3) := by decide +kernel
theorem dX0_init_28 : decode cX0_init 28 = .ok (.aload_n 0, 1) := by decide +kernel
theorem dX0_init_29 : decode cX0_init 29 = .ok (.bipush 40, 2) := by decide +kernel
theorem dX0_init_31 : decode cX0_init 31 = .ok (.newarray .int, 2) := by decide +kernel
theorem dX0_init_33 : decode cX0_init 33 = .ok (.putfield 21, 3) := by decide +kernel
theorem dX0_init_36 : decode cX0_init 36 = .ok (.aload_n 0, 1) := by decide +kernel
theorem dX0_init_37 : decode cX0_init 37 = .ok (.bipush 40, 2) := by decide +kernel
theorem dX0_init_39 : decode cX0_init 39 = .ok (.newarray .int, 2) := by decide +kernel
theorem dX0_init_41 : decode cX0_init 41 = .ok (.putfield 24, 3) := by decide +kernel
theorem dX0_init_44 : decode cX0_init 44 = .ok (.aload_n 0, 1) := by decide +kernel
theorem dX0_init_45 : decode cX0_init 45 = .ok (.bipush 40, 2) := by decide +kernel
theorem dX0_init_47 : decode cX0_init 47 = .ok (.newarray .int, 2) := by decide +kernel
theorem dX0_init_49 : decode cX0_init 49 = .ok (.putfield 27, 3) := by decide +kernel
theorem dX0_init_52 : decode cX0_init 52 = .ok (.aload_n 0, 1) := by decide +kernel
theorem dX0_init_53 : decode cX0_init 53 = .ok (.iconst 0, 1) := by decide +kernel
theorem dX0_init_54 : decode cX0_init 54 = .ok (.putfield 30, 3) := by decide +kernel
theorem dX0_init_57 : decode cX0_init 57 = .ok (.aload_n 0, 1) := by decide +kernel
theorem dX0_init_58 : decode cX0_init 58 = .ok (.iconst 0, 1) := by decide +kernel
theorem dX0_init_59 : decode cX0_init 59 = .ok (.putfield 34, 3) := by decide +kernel
theorem dX0_init_62 : decode cX0_init 62 = .ok (.aload_n 0, 1) := by decide +kernel
theorem dX0_init_63 : decode cX0_init 63 = .ok (.iconst 0, 1) := by decide +kernel
theorem dX0_init_64 : decode cX0_init 64 = .ok (.putfield 37, 3) := by decide +kernel
theorem dX0_init_67 : decode cX0_init 67 = .ok (.aload_n 0, 1) := by decide +kernel
theorem dX0_init_68 : decode cX0_init 68 = .ok (.iconst 0, 1) := by decide +kernel
theorem dX0_init_69 : decode cX0_init 69 = .ok (.putfield 40, 3) := by decide +kernel
theorem dX0_init_72 : decode cX0_init 72 = .ok (.return_, 1) := by decide +kernel
theorem dX0_clear_0 : decode cX0_clear 0 = .ok (.aload_n 0, 1) := by decide +kernel
theorem dX0_clear_1 : decode cX0_clear 1 = .ok (.iconst 0, 1) := by decide +kernel
theorem dX0_clear_2 : decode cX0_clear 2 = .ok (.putfield 30, 3) := by decide +kernel
theorem dX0_clear_5 : decode cX0_clear 5 = .ok (.return_, 1) := by decide +kernel
theorem dX0_put_0 : decode cX0_put 0 = .ok (.aload_n 0, 1) := by decide +kernel
theorem dX0_put_1 : decode cX0_put 1 = .ok (.getfield 30, 3) := by decide +kernel
theorem dX0_put_4 : decode cX0_put 4 = .ok (.ifCond .lt 12, 3) := by decide +kernel
theorem dX0_put_7 : decode cX0_put 7 = .ok (.aload_n 0, 1) := by decide +kernel
theorem dX0_put_8 : decode cX0_put 8 = .ok (.getfield 30, 3) := by decide +kernel
theorem dX0_put_11 : decode cX0_put 11 = .ok (.bipush 40, 2) := by decide +kernel
theorem dX0_put_13 : decode cX0_put 13 = .ok (.if_icmp .lt 4, 3) := by decide +kernel
theorem dX0_put_16 : decode cX0_put 16 = .ok (.return_, 1) := by decide +kernel
theorem dX0_put_17 : decode cX0_put 17 = .ok (.aload_n 0, 1) := by decide +kernel
theorem dX0_put_18 : decode cX0_put 18 = .ok (.getfield 9, 3) := by decide +kernel
theorem dX0_put_21 : decode cX0_put 21 = .ok (.aload_n 0, 1) := by decide +kernel
theorem dX0_put_22 : decode cX0_put 22 = .ok (.getfield 30, 3) := by decide +kernel
theorem dX0_put_25 : decode cX0_put 25 = .ok (.iload_n 1, 1) := by decide +kernel
theorem dX0_put_26 : decode cX0_put 26 = .ok (.iastore, 1) := by decide +kernel
theorem dX0_put_27 : decode cX0_put 27 = .ok (.aload_n 0, 1) := by decide +kernel
theorem dX0_put_28 : decode cX0_put 28 = .ok (.getfield 15, 3) := by decide +kernel
theorem dX0_put_31 : decode cX0_put 31 = .ok (.aload_n 0, 1) := by decide +kernel
theorem dX0_put_32 : decode cX0_put 32 = .ok (.getfield 30, 3) := by decide +kernel
theorem dX0_put_35 : decode cX0_put 35 = .ok (.iload_n 2, 1) := by decide +kernel
theorem dX0_put_36 : decode cX0_put 36 = .ok (.iastore, 1) := by decide +kernel
theorem dX0_put_37 : decode cX0_put 37 = .ok (.aload_n 0, 1) := by decide +kernel
theorem dX0_put_38 : decode cX0_put 38 = .ok (.getfield 18, 3) := by decide +kernel
theorem dX0_put_41 : decode cX0_put 41 = .ok (.aload_n 0, 1) := by decide +kernel
theorem dX0_put_42 : decode cX0_put 42 = .ok (.getfield 30, 3) := by decide +kernel
theorem dX0_put_45 : decode cX0_put 45 = .ok (.iload_n 3, 1) := by decide +kernel
theorem dX0_put_46 : decode cX0_put 46 = .ok (.iastore, 1) := by decide +kernel
theorem dX0_put_47 : decode cX0_put 47 = .ok (.aload_n 0, 1) := by decide +kernel
theorem dX0_put_48 : decode cX0_put 48 = .ok (.getfield 21, 3) := by decide +kernel
theorem dX0_put_51 : decode cX0_put 51 = .ok (.aload_n 0, 1) := by decide +kernel
theorem dX0_put_52 : decode cX0_put 52 = .ok (.getfield 30, 3) := by decide +kernel
theorem dX0_put_55 : decode cX0_put 55 = .ok (.iload_n 3, 1) := by decide +kernel
theorem dX0_put_56 : decode cX0_put 56 = .ok (.iload 5, 2) := by decide +kernel
theorem dX0_put_58 : decode cX0_put 58 = .ok (.iadd, 1) := by decide +kernel
theorem dX0_put_59 : decode cX0_put 59 = .ok (.iastore, 1) := by decide +kernel
theorem dX0_put_60 : decode cX0_put 60 = .ok (.aload_n 0, 1) := by decide +kernel
theorem dX0_put_61 : decode cX0_put 61 = .ok (.getfield 24, 3) := by decide +kernel
theorem dX0_put_64 : decode cX0_put 64 = .ok (.aload_n 0, 1) := by decide +kernel
theorem dX0_put_65 : decode cX0_put 65 = .ok (.getfield 30, 3) := by decide +kernel
theorem dX0_put_68 : decode cX0_put 68 = .ok (.iload 4, 2) := by decide +kernel
theorem dX0_put_70 : decode cX0_put 70 = .ok (.iastore, 1) := by decide +kernel
theorem dX0_put_71 : decode cX0_put 71 = .ok (.aload_n 0, 1) := by decide +kernel
theorem dX0_put_72 : decode cX0_put 72 = .ok (.getfield 27, 3) := by decide +kernel
theorem dX0_put_75 : decode cX0_put 75 = .ok (.aload_n 0, 1) := by decide +kernel
theorem dX0_put_76 : decode cX0_put 76 = .ok (.getfield 30, 3) := by decide +kernel
theorem dX0_put_79 : decode cX0_put 79 = .ok (.iload 4, 2) := by decide +kernel
theorem dX0_put_81 : decode cX0_put 81 = .ok (.iload 6, 2) := by decide +kernel
theorem dX0_put_83 : decode cX0_put 83 = .ok (.iadd, 1) := by decide +kernel
theorem dX0_put_84 : decode cX0_put 84 = .ok (.iastore, 1) := by decide +kernel
theorem dX0_put_85 : decode cX0_put 85 = .ok (.aload_n 0, 1) := by decide +kernel
theorem dX0_put_86 : decode cX0_put 86 = .ok (.dup, 1) := by decide +kernel
theorem dX0_put_87 : decode cX0_put 87 = .ok (.getfield 30, 3) := by decide +kernel
theorem dX0_put_90 : decode cX0_put 90 = .ok (.iconst 1, 1) := by decide +kernel
theorem dX0_put_91 : decode cX0_put 91 = .ok (.iadd, 1) := by decide +kernel
theorem dX0_put_92 : decode cX0_put 92 = .ok (.putfield 30, 3) := by decide +kernel
theorem dX0_put_95 : decode cX0_put 95 = .ok (.return_, 1) := by decide +kernel
theorem dX0_belowBottoms_0 : decode cX0_belowBottoms 0 = .ok (.iload_n 3, 1) := by decide +kernel
theorem dX0_belowBottoms_1 : decode cX0_belowBottoms 1 = .ok (.istore 4, 2) := by decide +kernel
theorem dX0_belowBottoms_3 : decode cX0_belowBottoms 3 = .ok (.iconst 0, 1) := by decide +kernel
theorem dX0_belowBottoms_4 : decode cX0_belowBottoms 4 = .ok (.istore 5, 2) := by decide +kernel
theorem dX0_belowBottoms_6 : decode cX0_belowBottoms 6 = .ok (.iload 5, 2) := by decide +kernel
theorem dX0_belowBottoms_8 : decode cX0_belowBottoms 8 = .ok (.aload_n 0, 1) := by decide +kernel
theorem dX0_belowBottoms_9 : decode cX0_belowBottoms 9 = .ok (.getfield 30, 3) := by decide +kernel
theorem dX0_belowBottoms_12 : decode cX0_belowBottoms 12 = .ok (.if_icmp .ge 53, 3) := by decide +kernel
theorem dX0_belowBottoms_15 : decode cX0_belowBottoms 15 = .ok (.iload 5, 2) := by decide +kernel
theorem dX0_belowBottoms_17 : decode cX0_belowBottoms 17 = .ok (.bipush 40, 2) := by decide +kernel
theorem dX0_belowBottoms_19 : decode cX0_belowBottoms 19 = .ok (.if_icmp .ge 46, 3) := by decide +kernel
theorem dX0_belowBottoms_22 : decode cX0_belowBottoms 22 = .ok (.aload_n 0, 1) := by decide +kernel
theorem dX0_belowBottoms_23 : decode cX0_belowBottoms 23 = .ok (.getfield 9, 3) := by decide +kernel
theorem dX0_belowBottoms_26 : decode cX0_belowBottoms 26 = .ok (.iload 5, 2) := by decide +kernel
theorem dX0_belowBottoms_28 : decode cX0_belowBottoms 28 = .ok (.iaload, 1) := by decide +kernel
theorem dX0_belowBottoms_29 : decode cX0_belowBottoms 29 = .ok (.iload_n 1, 1) := by decide +kernel
theorem dX0_belowBottoms_30 : decode cX0_belowBottoms 30 = .ok (.if_icmp .ne 29, 3) := by decide +kernel
theorem dX0_belowBottoms_33 : decode cX0_belowBottoms 33 = .ok (.aload_n 0, 1) := by decide +kernel
theorem dX0_belowBottoms_34 : decode cX0_belowBottoms 34 = .ok (.getfield 15, 3) := by decide +kernel
theorem dX0_belowBottoms_37 : decode cX0_belowBottoms 37 = .ok (.iload 5, 2) := by decide +kernel
theorem dX0_belowBottoms_39 : decode cX0_belowBottoms 39 = .ok (.iaload, 1) := by decide +kernel
theorem dX0_belowBottoms_40 : decode cX0_belowBottoms 40 = .ok (.iload_n 2, 1) := by decide +kernel
theorem dX0_belowBottoms_41 : decode cX0_belowBottoms 41 = .ok (.iand, 1) := by decide +kernel
theorem dX0_belowBottoms_42 : decode cX0_belowBottoms 42 = .ok (.ifCond .eq 17, 3) := by decide +kernel
theorem dX0_belowBottoms_45 : decode cX0_belowBottoms 45 = .ok (.iload 4, 2) := by decide +kernel
theorem dX0_belowBottoms_47 : decode cX0_belowBottoms 47 = .ok (.aload_n 0, 1) := by decide +kernel
theorem dX0_belowBottoms_48 : decode cX0_belowBottoms 48 = .ok (.getfield 27, 3) := by decide +kernel
theorem dX0_belowBottoms_51 : decode cX0_belowBottoms 51 = .ok (.iload 5, 2) := by decide +kernel
theorem dX0_belowBottoms_53 : decode cX0_belowBottoms 53 = .ok (.iaload, 1) := by decide +kernel
theorem dX0_belowBottoms_54 : decode cX0_belowBottoms 54 = .ok (.invokestatic 43, 3) := by decide +kernel
theorem dX0_belowBottoms_57 : decode cX0_belowBottoms 57 = .ok (.istore 4, 2) := by decide +kernel
theorem dX0_belowBottoms_59 : decode cX0_belowBottoms 59 = .ok (.iinc 5 1, 3) := by decide +kernel
theorem dX0_belowBottoms_62 : decode cX0_belowBottoms 62 = .ok (.goto (-56), 3) := by decide +kernel
theorem dX0_belowBottoms_65 : decode cX0_belowBottoms 65 = .ok (.iload 4, 2) := by decide +kernel
theorem dX0_belowBottoms_67 : decode cX0_belowBottoms 67 = .ok (.ireturn, 1) := by decide +kernel
theorem dX0_belowTops_0 : decode cX0_belowTops 0 = .ok (.iload_n 2, 1) := by decide +kernel
theorem dX0_belowTops_1 : decode cX0_belowTops 1 = .ok (.istore_n 3, 1) := by decide +kernel
theorem dX0_belowTops_2 : decode cX0_belowTops 2 = .ok (.iconst 0, 1) := by decide +kernel
theorem dX0_belowTops_3 : decode cX0_belowTops 3 = .ok (.istore 4, 2) := by decide +kernel
theorem dX0_belowTops_5 : decode cX0_belowTops 5 = .ok (.iload 4, 2) := by decide +kernel
theorem dX0_belowTops_7 : decode cX0_belowTops 7 = .ok (.aload_n 0, 1) := by decide +kernel
theorem dX0_belowTops_8 : decode cX0_belowTops 8 = .ok (.getfield 30, 3) := by decide +kernel
theorem dX0_belowTops_11 : decode cX0_belowTops 11 = .ok (.if_icmp .ge 39, 3) := by decide +kernel
theorem dX0_belowTops_14 : decode cX0_belowTops 14 = .ok (.iload 4, 2) := by decide +kernel
theorem dX0_belowTops_16 : decode cX0_belowTops 16 = .ok (.bipush 40, 2) := by decide +kernel
theorem dX0_belowTops_18 : decode cX0_belowTops 18 = .ok (.if_icmp .ge 32, 3) := by decide +kernel
theorem dX0_belowTops_21 : decode cX0_belowTops 21 = .ok (.aload_n 0, 1) := by decide +kernel
theorem dX0_belowTops_22 : decode cX0_belowTops 22 = .ok (.getfield 9, 3) := by decide +kernel
theorem dX0_belowTops_25 : decode cX0_belowTops 25 = .ok (.iload 4, 2) := by decide +kernel
theorem dX0_belowTops_27 : decode cX0_belowTops 27 = .ok (.iaload, 1) := by decide +kernel
theorem dX0_belowTops_28 : decode cX0_belowTops 28 = .ok (.iload_n 1, 1) := by decide +kernel
theorem dX0_belowTops_29 : decode cX0_belowTops 29 = .ok (.if_icmp .ne 15, 3) := by decide +kernel
theorem dX0_belowTops_32 : decode cX0_belowTops 32 = .ok (.iload_n 3, 1) := by decide +kernel
theorem dX0_belowTops_33 : decode cX0_belowTops 33 = .ok (.aload_n 0, 1) := by decide +kernel
theorem dX0_belowTops_34 : decode cX0_belowTops 34 = .ok (.getfield 24, 3) := by decide +kernel
theorem dX0_belowTops_37 : decode cX0_belowTops 37 = .ok (.iload 4, 2) := by decide +kernel
theorem dX0_belowTops_39 : decode cX0_belowTops 39 = .ok (.iaload, 1) := by decide +kernel
theorem dX0_belowTops_40 : decode cX0_belowTops 40 = .ok (.invokestatic 43, 3) := by decide +kernel
theorem dX0_belowTops_43 : decode cX0_belowTops 43 = .ok (.istore_n 3, 1) := by decide +kernel
theorem dX0_belowTops_44 : decode cX0_belowTops 44 = .ok (.iinc 4 1, 3) := by decide +kernel
theorem dX0_belowTops_47 : decode cX0_belowTops 47 = .ok (.goto (-42), 3) := by decide +kernel
theorem dX0_belowTops_50 : decode cX0_belowTops 50 = .ok (.iload_n 3, 1) := by decide +kernel
theorem dX0_belowTops_51 : decode cX0_belowTops 51 = .ok (.ireturn, 1) := by decide +kernel
set_option maxRecDepth 20000 in
theorem ggX0_findRoom_X0_look : GoodIn wsX0_findRoom wsX0_look := goodIn_r _ [8, 9, 10, 2, 11, 1, 3, 12, 13, 14, 15, 16, 17, 18, 19, 20, 21, 22, 23, 24, 25, 26, 27, 38, 39, 40, 41, 42, 43, 44, 45, 46, 47, 48, 49, 50, 51, 52, 53, 54, 55, 56, 57, 58, 59, 60, 61, 62, 63, 64, 65, 66, 67, 28, 29, 30, 31, 32, 33, 34, 35, 36, 37, 68, 69, 70, 71, 72] (by decide +kernel) (by decide +kernel)
set_option maxRecDepth 20000 in
theorem gX0_findRoom_X0_look : GoodIn wsX0_findRoom (wsV RX0 49 RX0 yX0_look wsX0_look) := goodIn_app (goodIn_of _ (by decide +kernel)) ggX0_findRoom_X0_look
theorem dX0_findRoom_0 : decode cX0_findRoom 0 = .ok (.iload_n 3, 1) := by decide +kernel
theorem dX0_findRoom_1 : decode cX0_findRoom 1 = .ok (.istore 4, 2) := by decide +kernel
theorem dX0_findRoom_3 : decode cX0_findRoom 3 = .ok (.aload_n 0, 1) := by decide +kernel
theorem dX0_findRoom_4 : decode cX0_findRoom 4 = .ok (.aload_n 2, 1) := by decide +kernel
theorem dX0_findRoom_5 : decode cX0_findRoom 5 = .ok (.iload 4, 2) := by decide +kernel
theorem dX0_findRoom_7 : decode cX0_findRoom 7 = .ok (.invokevirtual 49, 3) := by decide +kernel
theorem dX0_findRoom_10 : decode cX0_findRoom 10 = .ok (.iconst 0, 1) := by decide +kernel
theorem dX0_findRoom_11 : decode cX0_findRoom 11 = .ok (.istore 5, 2) := by decide +kernel
theorem dX0_findRoom_13 : decode cX0_findRoom 13 = .ok (.iload 5, 2) := by decide +kernel
theorem dX0_findRoom_15 : decode cX0_findRoom 15 = .ok (.bipush 40, 2) := by decide +kernel
theorem dX0_findRoom_17 : decode cX0_findRoom 17 = .ok (.if_icmp .ge 44, 3) := by decide +kernel
theorem dX0_findRoom_20 : decode cX0_findRoom 20 = .ok (.iload_n 1, 1) := by decide +kernel
theorem dX0_findRoom_21 : decode cX0_findRoom 21 = .ok (.aload_n 0, 1) := by decide +kernel
theorem dX0_findRoom_22 : decode cX0_findRoom 22 = .ok (.getfield 37, 3) := by decide +kernel
theorem dX0_findRoom_25 : decode cX0_findRoom 25 = .ok (.aload_n 0, 1) := by decide +kernel
theorem dX0_findRoom_26 : decode cX0_findRoom 26 = .ok (.getfield 34, 3) := by decide +kernel
theorem dX0_findRoom_29 : decode cX0_findRoom 29 = .ok (.isub, 1) := by decide +kernel
theorem dX0_findRoom_30 : decode cX0_findRoom 30 = .ok (.if_icmp .le 31, 3) := by decide +kernel
theorem dX0_findRoom_33 : decode cX0_findRoom 33 = .ok (.aload_n 0, 1) := by decide +kernel
theorem dX0_findRoom_34 : decode cX0_findRoom 34 = .ok (.getfield 40, 3) := by decide +kernel
theorem dX0_findRoom_37 : decode cX0_findRoom 37 = .ok (.iload 4, 2) := by decide +kernel
theorem dX0_findRoom_39 : decode cX0_findRoom 39 = .ok (.if_icmp .le 22, 3) := by decide +kernel
theorem dX0_findRoom_42 : decode cX0_findRoom 42 = .ok (.aload_n 0, 1) := by decide +kernel
theorem dX0_findRoom_43 : decode cX0_findRoom 43 = .ok (.getfield 40, 3) := by decide +kernel
theorem dX0_findRoom_46 : decode cX0_findRoom 46 = .ok (.istore 4, 2) := by decide +kernel
theorem dX0_findRoom_48 : decode cX0_findRoom 48 = .ok (.aload_n 0, 1) := by decide +kernel
theorem dX0_findRoom_49 : decode cX0_findRoom 49 = .ok (.aload_n 2, 1) := by decide +kernel
theorem dX0_findRoom_50 : decode cX0_findRoom 50 = .ok (.iload 4, 2) := by decide +kernel
theorem dX0_findRoom_52 : decode cX0_findRoom 52 = .ok (.invokevirtual 49, 3) := by decide +kernel
theorem dX0_findRoom_55 : decode cX0_findRoom 55 = .ok (.iinc 5 1, 3) := by decide +kernel
theorem dX0_findRoom_58 : decode cX0_findRoom 58 = .ok (.goto (-45), 3) := by decide +kernel
theorem dX0_findRoom_61 : decode cX0_findRoom 61 = .ok (.iload 4, 2) := by decide +kernel
theorem dX0_findRoom_63 : decode cX0_findRoom 63 = .ok (.ireturn, 1) := by decide +kernel
theorem dX0_look_0 : decode cX0_look 0 = .ok (.aload_n 0, 1) := by decide +kernel
theorem dX0_look_1 : decode cX0_look 1 = .ok (.aload_n 1, 1) := by decide +kernel
theorem dX0_look_2 : decode cX0_look 2 = .ok (.getfield 53, 3) := by decide +kernel
theorem dX0_look_5 : decode cX0_look 5 = .ok (.getfield 59, 3) := by decide +kernel
theorem dX0_look_8 : decode cX0_look 8 = .ok (.putfield 34, 3) := by decide +kernel
theorem dX0_look_11 : decode cX0_look 11 = .ok (.aload_n 0, 1) := by decide +kernel
theorem dX0_look_12 : decode cX0_look 12 = .ok (.aload_n 1, 1) := by decide +kernel
theorem dX0_look_13 : decode cX0_look 13 = .ok (.getfield 53, 3) := by decide +kernel
theorem dX0_look_16 : decode cX0_look 16 = .ok (.getfield 59, 3) := by decide +kernel
theorem dX0_look_19 : decode cX0_look 19 = .ok (.aload_n 1, 1) := by decide +kernel
theorem dX0_look_20 : decode cX0_look 20 = .ok (.getfield 53, 3) := by decide +kernel
theorem dX0_look_23 : decode cX0_look 23 = .ok (.getfield 64, 3) := by decide +kernel
theorem dX0_look_26 : decode cX0_look 26 = .ok (.iadd, 1) := by decide +kernel
theorem dX0_look_27 : decode cX0_look 27 = .ok (.putfield 37, 3) := by decide +kernel
theorem dX0_look_30 : decode cX0_look 30 = .ok (.aload_n 0, 1) := by decide +kernel
theorem dX0_look_31 : decode cX0_look 31 = .ok (.iload_n 2, 1) := by decide +kernel
theorem dX0_look_32 : decode cX0_look 32 = .ok (.putfield 40, 3) := by decide +kernel
theorem dX0_look_35 : decode cX0_look 35 = .ok (.iconst 0, 1) := by decide +kernel
theorem dX0_look_36 : decode cX0_look 36 = .ok (.istore_n 3, 1) := by decide +kernel
theorem dX0_look_37 : decode cX0_look 37 = .ok (.iload_n 3, 1) := by decide +kernel
theorem dX0_look_38 : decode cX0_look 38 = .ok (.aload_n 0, 1) := by decide +kernel
theorem dX0_look_39 : decode cX0_look 39 = .ok (.getfield 30, 3) := by decide +kernel
theorem dX0_look_42 : decode cX0_look 42 = .ok (.if_icmp .ge 132, 3) := by decide +kernel
theorem dX0_look_45 : decode cX0_look 45 = .ok (.iload_n 3, 1) := by decide +kernel
theorem dX0_look_46 : decode cX0_look 46 = .ok (.bipush 40, 2) := by decide +kernel
theorem dX0_look_48 : decode cX0_look 48 = .ok (.if_icmp .ge 126, 3) := by decide +kernel
theorem dX0_look_51 : decode cX0_look 51 = .ok (.aload_n 0, 1) := by decide +kernel
theorem dX0_look_52 : decode cX0_look 52 = .ok (.getfield 9, 3) := by decide +kernel
theorem dX0_look_55 : decode cX0_look 55 = .ok (.iload_n 3, 1) := by decide +kernel
theorem dX0_look_56 : decode cX0_look 56 = .ok (.iaload, 1) := by decide +kernel
theorem dX0_look_57 : decode cX0_look 57 = .ok (.aload_n 1, 1) := by decide +kernel
theorem dX0_look_58 : decode cX0_look 58 = .ok (.getfield 67, 3) := by decide +kernel
theorem dX0_look_61 : decode cX0_look 61 = .ok (.getfield 71, 3) := by decide +kernel
theorem dX0_look_64 : decode cX0_look 64 = .ok (.if_icmp .ne 104, 3) := by decide +kernel
theorem dX0_look_67 : decode cX0_look 67 = .ok (.iload_n 2, 1) := by decide +kernel
theorem dX0_look_68 : decode cX0_look 68 = .ok (.aload_n 0, 1) := by decide +kernel
theorem dX0_look_69 : decode cX0_look 69 = .ok (.getfield 24, 3) := by decide +kernel
theorem dX0_look_72 : decode cX0_look 72 = .ok (.iload_n 3, 1) := by decide +kernel
theorem dX0_look_73 : decode cX0_look 73 = .ok (.iaload, 1) := by decide +kernel
theorem dX0_look_74 : decode cX0_look 74 = .ok (.if_icmp .lt 94, 3) := by decide +kernel
theorem dX0_look_77 : decode cX0_look 77 = .ok (.iload_n 2, 1) := by decide +kernel
theorem dX0_look_78 : decode cX0_look 78 = .ok (.aload_n 0, 1) := by decide +kernel
theorem dX0_look_79 : decode cX0_look 79 = .ok (.getfield 27, 3) := by decide +kernel
theorem dX0_look_82 : decode cX0_look 82 = .ok (.iload_n 3, 1) := by decide +kernel
theorem dX0_look_83 : decode cX0_look 83 = .ok (.iaload, 1) := by decide +kernel
theorem dX0_look_84 : decode cX0_look 84 = .ok (.if_icmp .ge 84, 3) := by decide +kernel
theorem dX0_look_87 : decode cX0_look 87 = .ok (.aload_n 0, 1) := by decide +kernel
theorem dX0_look_88 : decode cX0_look 88 = .ok (.aload_n 0, 1) := by decide +kernel
theorem dX0_look_89 : decode cX0_look 89 = .ok (.getfield 40, 3) := by decide +kernel
theorem dX0_look_92 : decode cX0_look 92 = .ok (.iload_n 2, 1) := by decide +kernel
theorem dX0_look_93 : decode cX0_look 93 = .ok (.if_icmp .ne 12, 3) := by decide +kernel
theorem dX0_look_96 : decode cX0_look 96 = .ok (.aload_n 0, 1) := by decide +kernel
theorem dX0_look_97 : decode cX0_look 97 = .ok (.getfield 27, 3) := by decide +kernel
theorem dX0_look_100 : decode cX0_look 100 = .ok (.iload_n 3, 1) := by decide +kernel
theorem dX0_look_101 : decode cX0_look 101 = .ok (.iaload, 1) := by decide +kernel
theorem dX0_look_102 : decode cX0_look 102 = .ok (.goto 16, 3) := by decide +kernel
theorem dX0_look_105 : decode cX0_look 105 = .ok (.aload_n 0, 1) := by decide +kernel
theorem dX0_look_106 : decode cX0_look 106 = .ok (.getfield 40, 3) := by decide +kernel
theorem dX0_look_109 : decode cX0_look 109 = .ok (.aload_n 0, 1) := by decide +kernel
theorem dX0_look_110 : decode cX0_look 110 = .ok (.getfield 27, 3) := by decide +kernel
theorem dX0_look_113 : decode cX0_look 113 = .ok (.iload_n 3, 1) := by decide +kernel
theorem dX0_look_114 : decode cX0_look 114 = .ok (.iaload, 1) := by decide +kernel
theorem dX0_look_115 : decode cX0_look 115 = .ok (.invokestatic 76, 3) := by decide +kernel
theorem dX0_look_118 : decode cX0_look 118 = .ok (.putfield 40, 3) := by decide +kernel
theorem dX0_look_121 : decode cX0_look 121 = .ok (.aload_n 0, 1) := by decide +kernel
theorem dX0_look_122 : decode cX0_look 122 = .ok (.getfield 15, 3) := by decide +kernel
theorem dX0_look_125 : decode cX0_look 125 = .ok (.iload_n 3, 1) := by decide +kernel
theorem dX0_look_126 : decode cX0_look 126 = .ok (.iaload, 1) := by decide +kernel
theorem dX0_look_127 : decode cX0_look 127 = .ok (.iconst 1, 1) := by decide +kernel
theorem dX0_look_128 : decode cX0_look 128 = .ok (.if_icmp .ne 23, 3) := by decide +kernel
theorem dX0_look_131 : decode cX0_look 131 = .ok (.aload_n 0, 1) := by decide +kernel
theorem dX0_look_132 : decode cX0_look 132 = .ok (.aload_n 0, 1) := by decide +kernel
theorem dX0_look_133 : decode cX0_look 133 = .ok (.getfield 34, 3) := by decide +kernel
theorem dX0_look_136 : decode cX0_look 136 = .ok (.aload_n 0, 1) := by decide +kernel
theorem dX0_look_137 : decode cX0_look 137 = .ok (.getfield 21, 3) := by decide +kernel
theorem dX0_look_140 : decode cX0_look 140 = .ok (.iload_n 3, 1) := by decide +kernel
theorem dX0_look_141 : decode cX0_look 141 = .ok (.iaload, 1) := by decide +kernel
theorem dX0_look_142 : decode cX0_look 142 = .ok (.invokestatic 43, 3) := by decide +kernel
theorem dX0_look_145 : decode cX0_look 145 = .ok (.putfield 34, 3) := by decide +kernel
theorem dX0_look_148 : decode cX0_look 148 = .ok (.goto 20, 3) := by decide +kernel
theorem dX0_look_151 : decode cX0_look 151 = .ok (.aload_n 0, 1) := by decide +kernel
theorem dX0_look_152 : decode cX0_look 152 = .ok (.aload_n 0, 1) := by decide +kernel
theorem dX0_look_153 : decode cX0_look 153 = .ok (.getfield 37, 3) := by decide +kernel
theorem dX0_look_156 : decode cX0_look 156 = .ok (.aload_n 0, 1) := by decide +kernel
theorem dX0_look_157 : decode cX0_look 157 = .ok (.getfield 18, 3) := by decide +kernel
theorem dX0_look_160 : decode cX0_look 160 = .ok (.iload_n 3, 1) := by decide +kernel
theorem dX0_look_161 : decode cX0_look 161 = .ok (.iaload, 1) := by decide +kernel
theorem dX0_look_162 : decode cX0_look 162 = .ok (.invokestatic 76, 3) := by decide +kernel
theorem dX0_look_165 : decode cX0_look 165 = .ok (.putfield 37, 3) := by decide +kernel
theorem dX0_look_168 : decode cX0_look 168 = .ok (.iinc 3 1, 3) := by decide +kernel
theorem dX0_look_171 : decode cX0_look 171 = .ok (.goto (-134), 3) := by decide +kernel
theorem dX0_look_174 : decode cX0_look 174 = .ok (.return_, 1) := by decide +kernel
theorem dX1_init_0 : decode cX1_init 0 = .ok (.aload_n 0, 1) := by decide +kernel
theorem dX1_init_1 : decode cX1_init 1 = .ok (.invokespecial 1, 3) := by decide +kernel
theorem dX1_init_4 : decode cX1_init 4 = .ok (.aload_n 0, 1) := by decide +kernel
theorem dX1_init_5 : decode cX1_init 5 = .ok (.iconst 0, 1) := by decide +kernel
theorem dX1_init_6 : decode cX1_init 6 = .ok (.putfield 7, 3) := by decide +kernel
theorem dX1_init_9 : decode cX1_init 9 = .ok (.aload_n 0, 1) := by decide +kernel
theorem dX1_init_10 : decode cX1_init 10 = .ok (.iconst 0, 1) := by decide +kernel
theorem dX1_init_11 : decode cX1_init 11 = .ok (.putfield 13, 3) := by decide +kernel
theorem dX1_init_14 : decode cX1_init 14 = .ok (.aload_n 0, 1) := by decide +kernel
theorem dX1_init_15 : decode cX1_init 15 = .ok (.iconst 0, 1) := by decide +kernel
theorem dX1_init_16 : decode cX1_init 16 = .ok (.putfield 16, 3) := by decide +kernel
theorem dX1_init_19 : decode cX1_init 19 = .ok (.aload_n 0, 1) := by decide +kernel
theorem dX1_init_20 : decode cX1_init 20 = .ok (.iconst 0, 1) := by decide +kernel
theorem dX1_init_21 : decode cX1_init 21 = .ok (.putfield 19, 3) := by decide +kernel
theorem dX1_init_24 : decode cX1_init 24 = .ok (.aload_n 0, 1) := by decide +kernel
theorem dX1_init_25 : decode cX1_init 25 = .ok (.iconst 0, 1) := by decide +kernel
theorem dX1_init_26 : decode cX1_init 26 = .ok (.putfield 22, 3) := by decide +kernel
theorem dX1_init_29 : decode cX1_init 29 = .ok (.return_, 1) := by decide +kernel
theorem dX2_init_0 : decode cX2_init 0 = .ok (.aload_n 0, 1) := by decide +kernel
theorem dX2_init_1 : decode cX2_init 1 = .ok (.invokespecial 3, 3) := by decide +kernel
theorem dX2_init_4 : decode cX2_init 4 = .ok (.aload_n 0, 1) := by decide +kernel
theorem dX2_init_5 : decode cX2_init 5 = .ok (.iconst 0, 1) := by decide +kernel
theorem dX2_init_6 : decode cX2_init 6 = .ok (.putfield 9, 3) := by decide +kernel
theorem dX2_init_9 : decode cX2_init 9 = .ok (.aload_n 0, 1) := by decide +kernel
theorem dX2_init_10 : decode cX2_init 10 = .ok (.aconst_null, 1) := by decide +kernel
theorem dX2_init_11 : decode cX2_init 11 = .ok (.putfield 15, 3) := by decide +kernel
theorem dX2_init_14 : decode cX2_init 14 = .ok (.aload_n 0, 1) := by decide +kernel
theorem dX2_init_15 : decode cX2_init 15 = .ok (.iconst 0, 1) := by decide +kernel
theorem dX2_init_16 : decode cX2_init 16 = .ok (.putfield 19, 3) := by decide +kernel
theorem dX2_init_19 : decode cX2_init 19 = .ok (.aload_n 0, 1) := by decide +kernel
theorem dX2_init_20 : decode cX2_init 20 = .ok (.iconst 0, 1) := by decide +kernel
theorem dX2_init_21 : decode cX2_init 21 = .ok (.putfield 22, 3) := by decide +kernel
theorem dX2_init_24 : decode cX2_init 24 = .ok (.aload_n 0, 1) := by decide +kernel
theorem dX2_init_25 : decode cX2_init 25 = .ok (.iconst 0, 1) := by decide +kernel
theorem dX2_init_26 : decode cX2_init 26 = .ok (.putfield 25, 3) := by decide +kernel
theorem dX2_init_29 : decode cX2_init 29 = .ok (.aload_n 0, 1) := by decide +kernel
theorem dX2_init_30 : decode cX2_init 30 = .ok (.iconst 0, 1) := by decide +kernel
theorem dX2_init_31 : decode cX2_init 31 = .ok (.putfield 29, 3) := by decide +kernel
theorem dX2_init_34 : decode cX2_init 34 = .ok (.aload_n 0, 1) := by decide +kernel
theorem dX2_init_35 : decode cX2_init 35 = .ok (.iconst 0, 1) := by decide +kernel
theorem dX2_init_36 : decode cX2_init 36 = .ok (.putfield 32, 3) := by decide +kernel
theorem dX2_init_39 : decode cX2_init 39 = .ok (.aload_n 0, 1) := by decide +kernel
theorem dX2_init_40 : decode cX2_init 40 = .ok (.iconst 0, 1) := by decide +kernel
theorem dX2_init_41 : decode cX2_init 41 = .ok (.putfield 35, 3) := by decide +kernel
theorem dX2_init_44 : decode cX2_init 44 = .ok (.aload_n 0, 1) := by decide +kernel
theorem dX2_init_45 : decode cX2_init 45 = .ok (.iconst 0, 1) := by decide +kernel
theorem dX2_init_46 : decode cX2_init 46 = .ok (.putfield 38, 3) := by decide +kernel
theorem dX2_init_49 : decode cX2_init 49 = .ok (.aload_n 0, 1) := by decide +kernel
theorem dX2_init_50 : decode cX2_init 50 = .ok (.iconst 0, 1) := by decide +kernel
theorem dX2_init_51 : decode cX2_init 51 = .ok (.putfield 41, 3) := by decide +kernel
theorem dX2_init_54 : decode cX2_init 54 = .ok (.aload_n 0, 1) := by decide +kernel
theorem dX2_init_55 : decode cX2_init 55 = .ok (.iconst 0, 1) := by decide +kernel
theorem dX2_init_56 : decode cX2_init 56 = .ok (.putfield 44, 3) := by decide +kernel
theorem dX2_init_59 : decode cX2_init 59 = .ok (.aload_n 0, 1) := by decide +kernel
theorem dX2_init_60 : decode cX2_init 60 = .ok (.iconst 0, 1) := by decide +kernel
theorem dX2_init_61 : decode cX2_init 61 = .ok (.putfield 47, 3) := by decide +kernel
theorem dX2_init_64 : decode cX2_init 64 = .ok (.aload_n 0, 1) := by decide +kernel
theorem dX2_init_65 : decode cX2_init 65 = .ok (.iconst 0, 1) := by decide +kernel
theorem dX2_init_66 : decode cX2_init 66 = .ok (.putfield 50, 3) := by decide +kernel
theorem dX2_init_69 : decode cX2_init 69 = .ok (.aload_n 0, 1) := by decide +kernel
theorem dX2_init_70 : decode cX2_init 70 = .ok (.iconst 0, 1) := by decide +kernel
theorem dX2_init_71 : decode cX2_init 71 = .ok (.putfield 53, 3) := by decide +kernel
theorem dX2_init_74 : decode cX2_init 74 = .ok (.aload_n 0, 1) := by decide +kernel
theorem dX2_init_75 : decode cX2_init 75 = .ok (.iconst 0, 1) := by decide +kernel
theorem dX2_init_76 : decode cX2_init 76 = .ok (.iload_n 1, 1) := by decide +kernel
theorem dX2_init_77 : decode cX2_init 77 = .ok (.invokestatic 56, 3) := by decide +kernel
theorem dX2_init_80 : decode cX2_init 80 = .ok (.newarray .int, 2) := by decide +kernel
theorem dX2_init_82 : decode cX2_init 82 = .ok (.putfield 62, 3) := by decide +kernel
theorem dX2_init_85 : decode cX2_init 85 = .ok (.aload_n 0, 1) := by decide +kernel
theorem dX2_init_86 : decode cX2_init 86 = .ok (.iconst 0, 1) := by decide +kernel
theorem dX2_init_87 : decode cX2_init 87 = .ok (.iload_n 1, 1) := by decide +kernel
theorem dX2_init_88 : decode cX2_init 88 = .ok (.invokestatic 56, 3) := by decide +kernel
theorem dX2_init_91 : decode cX2_init 91 = .ok (.newarray .int, 2) := by decide +kernel
theorem dX2_init_93 : decode cX2_init 93 = .ok (.putfield 66, 3) := by decide +kernel
theorem dX2_init_96 : decode cX2_init 96 = .ok (.return_, 1) := by decide +kernel
theorem dX2_isBox_0 : decode cX2_isBox 0 = .ok (.aload_n 0, 1) := by decide +kernel
theorem dX2_isBox_1 : decode cX2_isBox 1 = .ok (.getfield 9, 3) := by decide +kernel
theorem dX2_isBox_4 : decode cX2_isBox 4 = .ok (.iconst 3, 1) := by decide +kernel
theorem dX2_isBox_5 : decode cX2_isBox 5 = .ok (.if_icmp .eq 11, 3) := by decide +kernel
theorem dX2_isBox_8 : decode cX2_isBox 8 = .ok (.aload_n 0, 1) := by decide +kernel
theorem dX2_isBox_9 : decode cX2_isBox 9 = .ok (.getfield 9, 3) := by decide +kernel
theorem dX2_isBox_12 : decode cX2_isBox 12 = .ok (.iconst 4, 1) := by decide +kernel
theorem dX2_isBox_13 : decode cX2_isBox 13 = .ok (.if_icmp .ne 7, 3) := by decide +kernel
theorem dX2_isBox_16 : decode cX2_isBox 16 = .ok (.iconst 1, 1) := by decide +kernel
theorem dX2_isBox_17 : decode cX2_isBox 17 = .ok (.goto 4, 3) := by decide +kernel
theorem dX2_isBox_20 : decode cX2_isBox 20 = .ok (.iconst 0, 1) := by decide +kernel
theorem dX2_isBox_21 : decode cX2_isBox 21 = .ok (.ireturn, 1) := by decide +kernel
set_option maxRecDepth 20000 in
theorem ggX2_borderX_X2_isBox : GoodIn wsX2_borderX wsX2_isBox := goodIn_r _ [8, 9, 10, 11, 12, 13, 14, 15, 16, 17, 18, 19, 20, 21, 22, 23, 24, 25] (by decide +kernel) (by decide +kernel)
set_option maxRecDepth 20000 in
theorem gX2_borderX_X2_isBox : GoodIn wsX2_borderX (wsV RX2 69 RX2 yX2_isBox wsX2_isBox) := goodIn_app (goodIn_of _ (by decide +kernel)) ggX2_borderX_X2_isBox
theorem dX2_borderX_0 : decode cX2_borderX 0 = .ok (.aload_n 0, 1) := by decide +kernel
theorem dX2_borderX_1 : decode cX2_borderX 1 = .ok (.invokevirtual 69, 3) := by decide +kernel
theorem dX2_borderX_4 : decode cX2_borderX 4 = .ok (.ifCond .eq 20, 3) := by decide +kernel
theorem dX2_borderX_7 : decode cX2_borderX 7 = .ok (.aload_n 0, 1) := by decide +kernel
theorem dX2_borderX_8 : decode cX2_borderX 8 = .ok (.getfield 29, 3) := by decide +kernel
theorem dX2_borderX_11 : decode cX2_borderX 11 = .ok (.aload_n 0, 1) := by decide +kernel
theorem dX2_borderX_12 : decode cX2_borderX 12 = .ok (.getfield 19, 3) := by decide +kernel
theorem dX2_borderX_15 : decode cX2_borderX 15 = .ok (.isub, 1) := by decide +kernel
theorem dX2_borderX_16 : decode cX2_borderX 16 = .ok (.aload_n 0, 1) := by decide +kernel
theorem dX2_borderX_17 : decode cX2_borderX 17 = .ok (.getfield 47, 3) := by decide +kernel
theorem dX2_borderX_20 : decode cX2_borderX 20 = .ok (.iadd, 1) := by decide +kernel
theorem dX2_borderX_21 : decode cX2_borderX 21 = .ok (.goto 6, 3) := by decide +kernel
theorem dX2_borderX_24 : decode cX2_borderX 24 = .ok (.sipush (-9999), 3) := by decide +kernel
theorem dX2_borderX_27 : decode cX2_borderX 27 = .ok (.ireturn, 1) := by decide +kernel
set_option maxRecDepth 20000 in
theorem ggX2_borderY_X2_isBox : GoodIn wsX2_borderY wsX2_isBox := goodIn_r _ [8, 9, 10, 11, 12, 13, 14, 15, 16, 17, 18, 19, 20, 21, 22, 23, 24, 25] (by decide +kernel) (by decide +kernel)
set_option maxRecDepth 20000 in
theorem gX2_borderY_X2_isBox : GoodIn wsX2_borderY (wsV RX2 69 RX2 yX2_isBox wsX2_isBox) := goodIn_app (goodIn_of _ (by decide +kernel)) ggX2_borderY_X2_isBox
theorem dX2_borderY_0 : decode cX2_borderY 0 = .ok (.aload_n 0, 1) := by decide +kernel
theorem dX2_borderY_1 : decode cX2_borderY 1 = .ok (.invokevirtual 69, 3) := by decide +kernel
theorem dX2_borderY_4 : decode cX2_borderY 4 = .ok (.ifCond .eq 20, 3) := by decide +kernel
theorem dX2_borderY_7 : decode cX2_borderY 7 = .ok (.aload_n 0, 1) := by decide +kernel
theorem dX2_borderY_8 : decode cX2_borderY 8 = .ok (.getfield 32, 3) := by decide +kernel
theorem dX2_borderY_11 : decode cX2_borderY 11 = .ok (.aload_n 0, 1) := by decide +kernel
theorem dX2_borderY_12 : decode cX2_borderY 12 = .ok (.getfield 19, 3) := by decide +kernel
theorem dX2_borderY_15 : decode cX2_borderY 15 = .ok (.isub, 1) := by decide +kernel
theorem dX2_borderY_16 : decode cX2_borderY 16 = .ok (.aload_n 0, 1) := by decide +kernel
theorem dX2_borderY_17 : decode cX2_borderY 17 = .ok (.getfield 50, 3) := by decide +kernel
theorem dX2_borderY_20 : decode cX2_borderY 20 = .ok (.iadd, 1) := by decide +kernel
theorem dX2_borderY_21 : decode cX2_borderY 21 = .ok (.goto 6, 3) := by decide +kernel
theorem dX2_borderY_24 : decode cX2_borderY 24 = .ok (.sipush (-9999), 3) := by decide +kernel
theorem dX2_borderY_27 : decode cX2_borderY 27 = .ok (.ireturn, 1) := by decide +kernel
set_option maxRecDepth 20000 in
theorem ggX2_borderWide_X2_isBox : GoodIn wsX2_borderWide wsX2_isBox := goodIn_r _ [7, 8, 9, 10, 11, 12, 13, 14, 15, 16, 17, 18, 19, 20, 21, 22, 23, 24] (by decide +kernel) (by decide +kernel)
set_option maxRecDepth 20000 in
theorem gX2_borderWide_X2_isBox : GoodIn wsX2_borderWide (wsV RX2 69 RX2 yX2_isBox wsX2_isBox) := goodIn_app (goodIn_of _ (by decide +kernel)) ggX2_borderWide_X2_isBox
theorem dX2_borderWide_0 : decode cX2_borderWide 0 = .ok (.aload_n 0, 1) := by decide +kernel
theorem dX2_borderWide_1 : decode cX2_borderWide 1 = .ok (.invokevirtual 69, 3) := by decide +kernel
theorem dX2_borderWide_4 : decode cX2_borderWide 4 = .ok (.ifCond .eq 17, 3) := by decide +kernel
theorem dX2_borderWide_7 : decode cX2_borderWide 7 = .ok (.aload_n 0, 1) := by decide +kernel
theorem dX2_borderWide_8 : decode cX2_borderWide 8 = .ok (.getfield 35, 3) := by decide +kernel
theorem dX2_borderWide_11 : decode cX2_borderWide 11 = .ok (.iconst 2, 1) := by decide +kernel
theorem dX2_borderWide_12 : decode cX2_borderWide 12 = .ok (.aload_n 0, 1) := by decide +kernel
theorem dX2_borderWide_13 : decode cX2_borderWide 13 = .ok (.getfield 19, 3) := by decide +kernel
theorem dX2_borderWide_16 : decode cX2_borderWide 16 = .ok (.imul, 1) := by decide +kernel
theorem dX2_borderWide_17 : decode cX2_borderWide 17 = .ok (.iadd, 1) := by decide +kernel
theorem dX2_borderWide_18 : decode cX2_borderWide 18 = .ok (.goto 4, 3) := by decide +kernel
theorem dX2_borderWide_21 : decode cX2_borderWide 21 = .ok (.iconst (-1), 1) := by decide +kernel
theorem dX2_borderWide_22 : decode cX2_borderWide 22 = .ok (.ireturn, 1) := by decide +kernel
set_option maxRecDepth 20000 in
theorem ggX2_borderHigh_X2_isBox : GoodIn wsX2_borderHigh wsX2_isBox := goodIn_r _ [7, 8, 9, 10, 11, 12, 13, 14, 15, 16, 17, 18, 19, 20, 21, 22, 23, 24] (by decide +kernel) (by decide +kernel)
set_option maxRecDepth 20000 in
theorem gX2_borderHigh_X2_isBox : GoodIn wsX2_borderHigh (wsV RX2 69 RX2 yX2_isBox wsX2_isBox) := goodIn_app (goodIn_of _ (by decide +kernel)) ggX2_borderHigh_X2_isBox
theorem dX2_borderHigh_0 : decode cX2_borderHigh 0 = .ok (.aload_n 0, 1) := by decide +kernel
theorem dX2_borderHigh_1 : decode cX2_borderHigh 1 = .ok (.invokevirtual 69, 3) := by decide +kernel
theorem dX2_borderHigh_4 : decode cX2_borderHigh 4 = .ok (.ifCond .eq 17, 3) := by decide +kernel
theorem dX2_borderHigh_7 : decode cX2_borderHigh 7 = .ok (.aload_n 0, 1) := by decide +kernel
theorem dX2_borderHigh_8 : decode cX2_borderHigh 8 = .ok (.getfield 38, 3) := by decide +kernel
theorem dX2_borderHigh_11 : decode cX2_borderHigh 11 = .ok (.iconst 2, 1) := by decide +kernel
theorem dX2_borderHigh_12 : decode cX2_borderHigh 12 = .ok (.aload_n 0, 1) := by decide +kernel
theorem dX2_borderHigh_13 : decode cX2_borderHigh 13 = .ok (.getfield 19, 3) := by decide +kernel
theorem dX2_borderHigh_16 : decode cX2_borderHigh 16 = .ok (.imul, 1) := by decide +kernel
theorem dX2_borderHigh_17 : decode cX2_borderHigh 17 = .ok (.iadd, 1) := by decide +kernel
theorem dX2_borderHigh_18 : decode cX2_borderHigh 18 = .ok (.goto 4, 3) := by decide +kernel
theorem dX2_borderHigh_21 : decode cX2_borderHigh 21 = .ok (.iconst (-1), 1) := by decide +kernel
theorem dX2_borderHigh_22 : decode cX2_borderHigh 22 = .ok (.ireturn, 1) := by decide +kernel
set_option maxRecDepth 20000 in
theorem ggX2_reachOrNone_X2_isBox : GoodIn wsX2_reachOrNone wsX2_isBox := goodIn_r _ [6, 7, 8, 9, 10, 11, 12, 13, 14, 15, 16, 17, 18, 19, 20, 21, 22, 23] (by decide +kernel) (by decide +kernel)
set_option maxRecDepth 20000 in
theorem gX2_reachOrNone_X2_isBox : GoodIn wsX2_reachOrNone (wsV RX2 69 RX2 yX2_isBox wsX2_isBox) := goodIn_app (goodIn_of _ (by decide +kernel)) ggX2_reachOrNone_X2_isBox
theorem dX2_reachOrNone_0 : decode cX2_reachOrNone 0 = .ok (.aload_n 0, 1) := by decide +kernel
theorem dX2_reachOrNone_1 : decode cX2_reachOrNone 1 = .ok (.invokevirtual 69, 3) := by decide +kernel
theorem dX2_reachOrNone_4 : decode cX2_reachOrNone 4 = .ok (.ifCond .eq 10, 3) := by decide +kernel
theorem dX2_reachOrNone_7 : decode cX2_reachOrNone 7 = .ok (.aload_n 0, 1) := by decide +kernel
theorem dX2_reachOrNone_8 : decode cX2_reachOrNone 8 = .ok (.getfield 41, 3) := by decide +kernel
theorem dX2_reachOrNone_11 : decode cX2_reachOrNone 11 = .ok (.goto 4, 3) := by decide +kernel
theorem dX2_reachOrNone_14 : decode cX2_reachOrNone 14 = .ok (.iconst (-1), 1) := by decide +kernel
theorem dX2_reachOrNone_15 : decode cX2_reachOrNone 15 = .ok (.ireturn, 1) := by decide +kernel
set_option maxRecDepth 20000 in
theorem ggX2_linesOrNone_X2_isBox : GoodIn wsX2_linesOrNone wsX2_isBox := goodIn_r _ [6, 7, 8, 9, 10, 11, 12, 13, 14, 15, 16, 17, 18, 19, 20, 21, 22, 23] (by decide +kernel) (by decide +kernel)
set_option maxRecDepth 20000 in
theorem gX2_linesOrNone_X2_isBox : GoodIn wsX2_linesOrNone (wsV RX2 69 RX2 yX2_isBox wsX2_isBox) := goodIn_app (goodIn_of _ (by decide +kernel)) ggX2_linesOrNone_X2_isBox
theorem dX2_linesOrNone_0 : decode cX2_linesOrNone 0 = .ok (.aload_n 0, 1) := by decide +kernel
theorem dX2_linesOrNone_1 : decode cX2_linesOrNone 1 = .ok (.invokevirtual 69, 3) := by decide +kernel
theorem dX2_linesOrNone_4 : decode cX2_linesOrNone 4 = .ok (.ifCond .eq 10, 3) := by decide +kernel
theorem dX2_linesOrNone_7 : decode cX2_linesOrNone 7 = .ok (.aload_n 0, 1) := by decide +kernel
theorem dX2_linesOrNone_8 : decode cX2_linesOrNone 8 = .ok (.getfield 44, 3) := by decide +kernel
theorem dX2_linesOrNone_11 : decode cX2_linesOrNone 11 = .ok (.goto 4, 3) := by decide +kernel
theorem dX2_linesOrNone_14 : decode cX2_linesOrNone 14 = .ok (.iconst 0, 1) := by decide +kernel
theorem dX2_linesOrNone_15 : decode cX2_linesOrNone 15 = .ok (.ireturn, 1) := by decide +kernel
theorem dX2_highWithEdges_0 : decode cX2_highWithEdges 0 = .ok (.aload_n 0, 1) := by decide +kernel
theorem dX2_highWithEdges_1 : decode cX2_highWithEdges 1 = .ok (.getfield 38, 3) := by decide +kernel
theorem dX2_highWithEdges_4 : decode cX2_highWithEdges 4 = .ok (.iconst 2, 1) := by decide +kernel
theorem dX2_highWithEdges_5 : decode cX2_highWithEdges 5 = .ok (.aload_n 0, 1) := by decide +kernel
theorem dX2_highWithEdges_6 : decode cX2_highWithEdges 6 = .ok (.getfield 22, 3) := by decide +kernel
theorem dX2_highWithEdges_9 : decode cX2_highWithEdges 9 = .ok (.imul, 1) := by decide +kernel
theorem dX2_highWithEdges_10 : decode cX2_highWithEdges 10 = .ok (.iadd, 1) := by decide +kernel
theorem dX2_highWithEdges_11 : decode cX2_highWithEdges 11 = .ok (.ireturn, 1) := by decide +kernel
set_option maxRecDepth 20000 in
theorem ggX2_hasInBorder_X2_isBox : GoodIn wsX2_hasInBorder wsX2_isBox := goodIn_r _ [5, 6, 33, 34, 35, 36, 37, 38, 39, 40, 41, 42, 43, 44, 45, 46, 47, 48] (by decide +kernel) (by decide +kernel)
set_option maxRecDepth 20000 in
theorem gX2_hasInBorder_X2_isBox : GoodIn wsX2_hasInBorder (wsV RX2 69 RX2 yX2_isBox wsX2_isBox) := goodIn_app (goodIn_of _ (by decide +kernel)) ggX2_hasInBorder_X2_isBox
set_option maxRecDepth 20000 in
theorem ggX2_hasInBorder_X2_borderX : GoodIn wsX2_hasInBorder wsX2_borderX := goodIn_r _ [10, 11, 12, 13, 1, 2, 3, 4, 5, 6, 33, 34, 35, 36, 37, 38, 39, 40, 41, 42, 43, 44, 45, 46, 47, 48] (by decide +kernel) (by decide +kernel)
set_option maxRecDepth 20000 in
theorem gX2_hasInBorder_X2_borderX : GoodIn wsX2_hasInBorder (wsV RX2 73 RX2 yX2_borderX wsX2_borderX) := goodIn_app (goodIn_of _ (by decide +kernel)) ggX2_hasInBorder_X2_borderX
set_option maxRecDepth 20000 in
theorem ggX2_hasInBorder_X2_borderWide : GoodIn wsX2_hasInBorder wsX2_borderWide := goodIn_r _ [17, 18, 12, 1, 2, 3, 4, 5, 6, 33, 34, 35, 36, 37, 38, 39, 40, 41, 42, 43, 44, 45, 46, 47, 48] (by decide +kernel) (by decide +kernel)
set_option maxRecDepth 20000 in
theorem gX2_hasInBorder_X2_borderWide : GoodIn wsX2_hasInBorder (wsV RX2 77 RX2 yX2_borderWide wsX2_borderWide) := goodIn_app (goodIn_of _ (by decide +kernel)) ggX2_hasInBorder_X2_borderWide
set_option maxRecDepth 20000 in
theorem ggX2_hasInBorder_X2_isWithin : GoodIn wsX2_hasInBorder wsX2_isWithin := goodIn_r _ [21] (by decide +kernel) (by decide +kernel)
set_option maxRecDepth 20000 in
theorem gX2_hasInBorder_X2_isWithin : GoodIn wsX2_hasInBorder (va_wsS RX2 80 yX2_isWithin wsX2_isWithin) := goodIn_app (goodIn_of _ (by decide +kernel)) ggX2_hasInBorder_X2_isWithin
set_option maxRecDepth 20000 in
theorem ggX2_hasInBorder_X2_borderY : GoodIn wsX2_hasInBorder wsX2_borderY := goodIn_r _ [25, 26, 12, 27, 1, 2, 3, 4, 5, 6, 33, 34, 35, 36, 37, 38, 39, 40, 41, 42, 43, 44, 45, 46, 47, 48] (by decide +kernel) (by decide +kernel)
set_option maxRecDepth 20000 in
theorem gX2_hasInBorder_X2_borderY : GoodIn wsX2_hasInBorder (wsV RX2 84 RX2 yX2_borderY wsX2_borderY) := goodIn_app (goodIn_of _ (by decide +kernel)) ggX2_hasInBorder_X2_borderY
set_option maxRecDepth 20000 in
theorem ggX2_hasInBorder_X2_borderHigh : GoodIn wsX2_hasInBorder wsX2_borderHigh := goodIn_r _ [31, 32, 12, 1, 2, 3, 4, 5, 6, 33, 34, 35, 36, 37, 38, 39, 40, 41, 42, 43, 44, 45, 46, 47, 48] (by decide +kernel) (by decide +kernel)
set_option maxRecDepth 20000 in
theorem gX2_hasInBorder_X2_borderHigh : GoodIn wsX2_hasInBorder (wsV RX2 87 RX2 yX2_borderHigh wsX2_borderHigh) := goodIn_app (goodIn_of _ (by decide +kernel)) ggX2_hasInBorder_X2_borderHigh
theorem dX2_hasInBorder_0 : decode cX2_hasInBorder 0 = .ok (.aload_n 0, 1) := by decide +kernel
theorem dX2_hasInBorder_1 : decode cX2_hasInBorder 1 = .ok (.invokevirtual 69, 3) := by decide +kernel
theorem dX2_hasInBorder_4 : decode cX2_hasInBorder 4 = .ok (.ifCond .eq 37, 3) := by decide +kernel
theorem dX2_hasInBorder_7 : decode cX2_hasInBorder 7 = .ok (.iload_n 1, 1) := by decide +kernel
theorem dX2_hasInBorder_8 : decode cX2_hasInBorder 8 = .ok (.aload_n 0, 1) := by decide +kernel
theorem dX2_hasInBorder_9 : decode cX2_hasInBorder 9 = .ok (.invokevirtual 73, 3) := by decide +kernel
theorem dX2_hasInBorder_12 : decode cX2_hasInBorder 12 = .ok (.aload_n 0, 1) := by decide +kernel
theorem dX2_hasInBorder_13 : decode cX2_hasInBorder 13 = .ok (.invokevirtual 77, 3) := by decide +kernel
theorem dX2_hasInBorder_16 : decode cX2_hasInBorder 16 = .ok (.invokestatic 80, 3) := by decide +kernel
theorem dX2_hasInBorder_19 : decode cX2_hasInBorder 19 = .ok (.ifCond .eq 22, 3) := by decide +kernel
theorem dX2_hasInBorder_22 : decode cX2_hasInBorder 22 = .ok (.iload_n 2, 1) := by decide +kernel
theorem dX2_hasInBorder_23 : decode cX2_hasInBorder 23 = .ok (.aload_n 0, 1) := by decide +kernel
theorem dX2_hasInBorder_24 : decode cX2_hasInBorder 24 = .ok (.invokevirtual 84, 3) := by decide +kernel
theorem dX2_hasInBorder_27 : decode cX2_hasInBorder 27 = .ok (.aload_n 0, 1) := by decide +kernel
theorem dX2_hasInBorder_28 : decode cX2_hasInBorder 28 = .ok (.invokevirtual 87, 3) := by decide +kernel
theorem dX2_hasInBorder_31 : decode cX2_hasInBorder 31 = .ok (.invokestatic 80, 3) := by decide +kernel
theorem dX2_hasInBorder_34 : decode cX2_hasInBorder 34 = .ok (.ifCond .eq 7, 3) := by decide +kernel
theorem dX2_hasInBorder_37 : decode cX2_hasInBorder 37 = .ok (.iconst 1, 1) := by decide +kernel
theorem dX2_hasInBorder_38 : decode cX2_hasInBorder 38 = .ok (.goto 4, 3) := by decide +kernel
theorem dX2_hasInBorder_41 : decode cX2_hasInBorder 41 = .ok (.iconst 0, 1) := by decide +kernel
theorem dX2_hasInBorder_42 : decode cX2_hasInBorder 42 = .ok (.ireturn, 1) := by decide +kernel
set_option maxRecDepth 20000 in
theorem ggX2_cutsOffAt_X2_isWithin : GoodIn wsX2_cutsOffAt wsX2_isWithin := goodIn_r _ [11] (by decide +kernel) (by decide +kernel)
set_option maxRecDepth 20000 in
theorem gX2_cutsOffAt_X2_isWithin : GoodIn wsX2_cutsOffAt (va_wsS RX2 80 yX2_isWithin wsX2_isWithin) := goodIn_app (goodIn_of _ (by decide +kernel)) ggX2_cutsOffAt_X2_isWithin
theorem dX2_cutsOffAt_0 : decode cX2_cutsOffAt 0 = .ok (.iload_n 1, 1) := by decide +kernel
theorem dX2_cutsOffAt_1 : decode cX2_cutsOffAt 1 = .ok (.aload_n 0, 1) := by decide +kernel
theorem dX2_cutsOffAt_2 : decode cX2_cutsOffAt 2 = .ok (.getfield 29, 3) := by decide +kernel
theorem dX2_cutsOffAt_5 : decode cX2_cutsOffAt 5 = .ok (.aload_n 0, 1) := by decide +kernel
theorem dX2_cutsOffAt_6 : decode cX2_cutsOffAt 6 = .ok (.getfield 47, 3) := by decide +kernel
theorem dX2_cutsOffAt_9 : decode cX2_cutsOffAt 9 = .ok (.iadd, 1) := by decide +kernel
theorem dX2_cutsOffAt_10 : decode cX2_cutsOffAt 10 = .ok (.aload_n 0, 1) := by decide +kernel
theorem dX2_cutsOffAt_11 : decode cX2_cutsOffAt 11 = .ok (.getfield 35, 3) := by decide +kernel
theorem dX2_cutsOffAt_14 : decode cX2_cutsOffAt 14 = .ok (.invokestatic 80, 3) := by decide +kernel
theorem dX2_cutsOffAt_17 : decode cX2_cutsOffAt 17 = .ok (.ifCond .eq 27, 3) := by decide +kernel
theorem dX2_cutsOffAt_20 : decode cX2_cutsOffAt 20 = .ok (.iload_n 2, 1) := by decide +kernel
theorem dX2_cutsOffAt_21 : decode cX2_cutsOffAt 21 = .ok (.aload_n 0, 1) := by decide +kernel
theorem dX2_cutsOffAt_22 : decode cX2_cutsOffAt 22 = .ok (.getfield 32, 3) := by decide +kernel
theorem dX2_cutsOffAt_25 : decode cX2_cutsOffAt 25 = .ok (.aload_n 0, 1) := by decide +kernel
theorem dX2_cutsOffAt_26 : decode cX2_cutsOffAt 26 = .ok (.getfield 50, 3) := by decide +kernel
theorem dX2_cutsOffAt_29 : decode cX2_cutsOffAt 29 = .ok (.iadd, 1) := by decide +kernel
theorem dX2_cutsOffAt_30 : decode cX2_cutsOffAt 30 = .ok (.aload_n 0, 1) := by decide +kernel
theorem dX2_cutsOffAt_31 : decode cX2_cutsOffAt 31 = .ok (.getfield 38, 3) := by decide +kernel
theorem dX2_cutsOffAt_34 : decode cX2_cutsOffAt 34 = .ok (.invokestatic 80, 3) := by decide +kernel
theorem dX2_cutsOffAt_37 : decode cX2_cutsOffAt 37 = .ok (.ifCond .eq 7, 3) := by decide +kernel
theorem dX2_cutsOffAt_40 : decode cX2_cutsOffAt 40 = .ok (.iconst 1, 1) := by decide +kernel
theorem dX2_cutsOffAt_41 : decode cX2_cutsOffAt 41 = .ok (.goto 4, 3) := by decide +kernel
theorem dX2_cutsOffAt_44 : decode cX2_cutsOffAt 44 = .ok (.iconst 0, 1) := by decide +kernel
theorem dX2_cutsOffAt_45 : decode cX2_cutsOffAt 45 = .ok (.istore_n 3, 1) := by decide +kernel
theorem dX2_cutsOffAt_46 : decode cX2_cutsOffAt 46 = .ok (.aload_n 0, 1) := by decide +kernel
theorem dX2_cutsOffAt_47 : decode cX2_cutsOffAt 47 = .ok (.getfield 25, 3) := by decide +kernel
theorem dX2_cutsOffAt_50 : decode cX2_cutsOffAt 50 = .ok (.ifCond .eq 11, 3) := by decide +kernel
theorem dX2_cutsOffAt_53 : decode cX2_cutsOffAt 53 = .ok (.iload_n 3, 1) := by decide +kernel
theorem dX2_cutsOffAt_54 : decode cX2_cutsOffAt 54 = .ok (.ifCond .ne 7, 3) := by decide +kernel
theorem dX2_cutsOffAt_57 : decode cX2_cutsOffAt 57 = .ok (.iconst 1, 1) := by decide +kernel
theorem dX2_cutsOffAt_58 : decode cX2_cutsOffAt 58 = .ok (.goto 4, 3) := by decide +kernel
theorem dX2_cutsOffAt_61 : decode cX2_cutsOffAt 61 = .ok (.iconst 0, 1) := by decide +kernel
theorem dX2_cutsOffAt_62 : decode cX2_cutsOffAt 62 = .ok (.ireturn, 1) := by decide +kernel
theorem dX2_setWord_0 : decode cX2_setWord 0 = .ok (.iload_n 1, 1) := by decide +kernel
theorem dX2_setWord_1 : decode cX2_setWord 1 = .ok (.ifCond .lt 35, 3) := by decide +kernel
theorem dX2_setWord_4 : decode cX2_setWord 4 = .ok (.iload_n 1, 1) := by decide +kernel
theorem dX2_setWord_5 : decode cX2_setWord 5 = .ok (.aload_n 0, 1) := by decide +kernel
theorem dX2_setWord_6 : decode cX2_setWord 6 = .ok (.getfield 62, 3) := by decide +kernel
theorem dX2_setWord_9 : decode cX2_setWord 9 = .ok (.arraylength, 1) := by decide +kernel
theorem dX2_setWord_10 : decode cX2_setWord 10 = .ok (.if_icmp .ge 26, 3) := by decide +kernel
theorem dX2_setWord_13 : decode cX2_setWord 13 = .ok (.iload_n 1, 1) := by decide +kernel
theorem dX2_setWord_14 : decode cX2_setWord 14 = .ok (.aload_n 0, 1) := by decide +kernel
theorem dX2_setWord_15 : decode cX2_setWord 15 = .ok (.getfield 66, 3) := by decide +kernel
theorem dX2_setWord_18 : decode cX2_setWord 18 = .ok (.arraylength, 1) := by decide +kernel
theorem dX2_setWord_19 : decode cX2_setWord 19 = .ok (.if_icmp .ge 17, 3) := by decide +kernel
theorem dX2_setWord_22 : decode cX2_setWord 22 = .ok (.aload_n 0, 1) := by decide +kernel
theorem dX2_setWord_23 : decode cX2_setWord 23 = .ok (.getfield 62, 3) := by decide +kernel
theorem dX2_setWord_26 : decode cX2_setWord 26 = .ok (.iload_n 1, 1) := by decide +kernel
theorem dX2_setWord_27 : decode cX2_setWord 27 = .ok (.iload_n 2, 1) := by decide +kernel
theorem dX2_setWord_28 : decode cX2_setWord 28 = .ok (.iastore, 1) := by decide +kernel
theorem dX2_setWord_29 : decode cX2_setWord 29 = .ok (.aload_n 0, 1) := by decide +kernel
theorem dX2_setWord_30 : decode cX2_setWord 30 = .ok (.getfield 66, 3) := by decide +kernel
theorem dX2_setWord_33 : decode cX2_setWord 33 = .ok (.iload_n 1, 1) := by decide +kernel
theorem dX2_setWord_34 : decode cX2_setWord 34 = .ok (.iload_n 3, 1) := by decide +kernel
theorem dX2_setWord_35 : decode cX2_setWord 35 = .ok (.iastore, 1) := by decide +kernel
theorem dX2_setWord_36 : decode cX2_setWord 36 = .ok (.return_, 1) := by decide +kernel
theorem dX2_wordLeft_0 : decode cX2_wordLeft 0 = .ok (.aload_n 0, 1) := by decide +kernel
theorem dX2_wordLeft_1 : decode cX2_wordLeft 1 = .ok (.getfield 9, 3) := by decide +kernel
theorem dX2_wordLeft_4 : decode cX2_wordLeft 4 = .ok (.iconst 1, 1) := by decide +kernel
theorem dX2_wordLeft_5 : decode cX2_wordLeft 5 = .ok (.if_icmp .ne 20, 3) := by decide +kernel
theorem dX2_wordLeft_8 : decode cX2_wordLeft 8 = .ok (.iload_n 1, 1) := by decide +kernel
theorem dX2_wordLeft_9 : decode cX2_wordLeft 9 = .ok (.ifCond .lt 16, 3) := by decide +kernel
theorem dX2_wordLeft_12 : decode cX2_wordLeft 12 = .ok (.iload_n 1, 1) := by decide +kernel
theorem dX2_wordLeft_13 : decode cX2_wordLeft 13 = .ok (.aload_n 0, 1) := by decide +kernel
theorem dX2_wordLeft_14 : decode cX2_wordLeft 14 = .ok (.getfield 62, 3) := by decide +kernel
theorem dX2_wordLeft_17 : decode cX2_wordLeft 17 = .ok (.arraylength, 1) := by decide +kernel
theorem dX2_wordLeft_18 : decode cX2_wordLeft 18 = .ok (.if_icmp .ge 7, 3) := by decide +kernel
theorem dX2_wordLeft_21 : decode cX2_wordLeft 21 = .ok (.iconst 1, 1) := by decide +kernel
theorem dX2_wordLeft_22 : decode cX2_wordLeft 22 = .ok (.goto 4, 3) := by decide +kernel
theorem dX2_wordLeft_25 : decode cX2_wordLeft 25 = .ok (.iconst 0, 1) := by decide +kernel
theorem dX2_wordLeft_26 : decode cX2_wordLeft 26 = .ok (.istore_n 2, 1) := by decide +kernel
theorem dX2_wordLeft_27 : decode cX2_wordLeft 27 = .ok (.iload_n 2, 1) := by decide +kernel
theorem dX2_wordLeft_28 : decode cX2_wordLeft 28 = .ok (.ifCond .eq 17, 3) := by decide +kernel
theorem dX2_wordLeft_31 : decode cX2_wordLeft 31 = .ok (.aload_n 0, 1) := by decide +kernel
theorem dX2_wordLeft_32 : decode cX2_wordLeft 32 = .ok (.getfield 62, 3) := by decide +kernel
theorem dX2_wordLeft_35 : decode cX2_wordLeft 35 = .ok (.iload_n 1, 1) := by decide +kernel
theorem dX2_wordLeft_36 : decode cX2_wordLeft 36 = .ok (.iaload, 1) := by decide +kernel
theorem dX2_wordLeft_37 : decode cX2_wordLeft 37 = .ok (.aload_n 0, 1) := by decide +kernel
theorem dX2_wordLeft_38 : decode cX2_wordLeft 38 = .ok (.getfield 47, 3) := by decide +kernel
theorem dX2_wordLeft_41 : decode cX2_wordLeft 41 = .ok (.iadd, 1) := by decide +kernel
theorem dX2_wordLeft_42 : decode cX2_wordLeft 42 = .ok (.goto 6, 3) := by decide +kernel
theorem dX2_wordLeft_45 : decode cX2_wordLeft 45 = .ok (.sipush (-9999), 3) := by decide +kernel
theorem dX2_wordLeft_48 : decode cX2_wordLeft 48 = .ok (.ireturn, 1) := by decide +kernel
theorem dX2_wordTop_0 : decode cX2_wordTop 0 = .ok (.aload_n 0, 1) := by decide +kernel
theorem dX2_wordTop_1 : decode cX2_wordTop 1 = .ok (.getfield 9, 3) := by decide +kernel
theorem dX2_wordTop_4 : decode cX2_wordTop 4 = .ok (.iconst 1, 1) := by decide +kernel
theorem dX2_wordTop_5 : decode cX2_wordTop 5 = .ok (.if_icmp .ne 20, 3) := by decide +kernel
theorem dX2_wordTop_8 : decode cX2_wordTop 8 = .ok (.iload_n 1, 1) := by decide +kernel
theorem dX2_wordTop_9 : decode cX2_wordTop 9 = .ok (.ifCond .lt 16, 3) := by decide +kernel
theorem dX2_wordTop_12 : decode cX2_wordTop 12 = .ok (.iload_n 1, 1) := by decide +kernel
theorem dX2_wordTop_13 : decode cX2_wordTop 13 = .ok (.aload_n 0, 1) := by decide +kernel
theorem dX2_wordTop_14 : decode cX2_wordTop 14 = .ok (.getfield 66, 3) := by decide +kernel
theorem dX2_wordTop_17 : decode cX2_wordTop 17 = .ok (.arraylength, 1) := by decide +kernel
theorem dX2_wordTop_18 : decode cX2_wordTop 18 = .ok (.if_icmp .ge 7, 3) := by decide +kernel
theorem dX2_wordTop_21 : decode cX2_wordTop 21 = .ok (.iconst 1, 1) := by decide +kernel
theorem dX2_wordTop_22 : decode cX2_wordTop 22 = .ok (.goto 4, 3) := by decide +kernel
theorem dX2_wordTop_25 : decode cX2_wordTop 25 = .ok (.iconst 0, 1) := by decide +kernel
theorem dX2_wordTop_26 : decode cX2_wordTop 26 = .ok (.istore_n 2, 1) := by decide +kernel
theorem dX2_wordTop_27 : decode cX2_wordTop 27 = .ok (.iload_n 2, 1) := by decide +kernel
theorem dX2_wordTop_28 : decode cX2_wordTop 28 = .ok (.ifCond .eq 17, 3) := by decide +kernel
theorem dX2_wordTop_31 : decode cX2_wordTop 31 = .ok (.aload_n 0, 1) := by decide +kernel
theorem dX2_wordTop_32 : decode cX2_wordTop 32 = .ok (.getfield 66, 3) := by decide +kernel
theorem dX2_wordTop_35 : decode cX2_wordTop 35 = .ok (.iload_n 1, 1) := by decide +kernel
theorem dX2_wordTop_36 : decode cX2_wordTop 36 = .ok (.iaload, 1) := by decide +kernel
theorem dX2_wordTop_37 : decode cX2_wordTop 37 = .ok (.aload_n 0, 1) := by decide +kernel
theorem dX2_wordTop_38 : decode cX2_wordTop 38 = .ok (.getfield 50, 3) := by decide +kernel
theorem dX2_wordTop_41 : decode cX2_wordTop 41 = .ok (.iadd, 1) := by decide +kernel
theorem dX2_wordTop_42 : decode cX2_wordTop 42 = .ok (.goto 6, 3) := by decide +kernel
theorem dX2_wordTop_45 : decode cX2_wordTop 45 = .ok (.sipush (-9999), 3) := by decide +kernel
theorem dX2_wordTop_48 : decode cX2_wordTop 48 = .ok (.ireturn, 1) := by decide +kernel
theorem dX2_isWithin_0 : decode cX2_isWithin 0 = .ok (.iload_n 0, 1) := by decide +kernel
theorem dX2_isWithin_1 : decode cX2_isWithin 1 = .ok (.iload_n 1, 1) := by decide +kernel
theorem dX2_isWithin_2 : decode cX2_isWithin 2 = .ok (.if_icmp .lt 14, 3) := by decide +kernel
theorem dX2_isWithin_5 : decode cX2_isWithin 5 = .ok (.iload_n 0, 1) := by decide +kernel
theorem dX2_isWithin_6 : decode cX2_isWithin 6 = .ok (.iload_n 1, 1) := by decide +kernel
theorem dX2_isWithin_7 : decode cX2_isWithin 7 = .ok (.iload_n 2, 1) := by decide +kernel
theorem dX2_isWithin_8 : decode cX2_isWithin 8 = .ok (.iadd, 1) := by decide +kernel
theorem dX2_isWithin_9 : decode cX2_isWithin 9 = .ok (.if_icmp .ge 7, 3) := by decide +kernel
theorem dX2_isWithin_12 : decode cX2_isWithin 12 = .ok (.iconst 1, 1) := by decide +kernel
theorem dX2_isWithin_13 : decode cX2_isWithin 13 = .ok (.goto 4, 3) := by decide +kernel
theorem dX2_isWithin_16 : decode cX2_isWithin 16 = .ok (.iconst 0, 1) := by decide +kernel
theorem dX2_isWithin_17 : decode cX2_isWithin 17 = .ok (.ireturn, 1) := by decide +kernel
set_option maxRecDepth 20000 in
theorem ggX3_init_Jx4a65c_init_da8c8 : GoodIn wsX3_init wsJx4a65c_init_da8c8 := goodIn_r _ [30, 31, 32, 33, 34, 35, 36, 37, 38, 39, 40, 41, 42, 2, 3, 75, 76, 77] (by decide +kernel) (by decide +kernel)
set_option maxRecDepth 20000 in
theorem gX3_init_Jx4a65c_init_da8c8 : GoodIn wsX3_init (wsJx4a65c_init_da8c8) := ggX3_init_Jx4a65c_init_da8c8
set_option maxRecDepth 20000 in
theorem ggX3_init_X1_init : GoodIn wsX3_init wsX1_init := goodIn_r _ [44, 45, 2, 3, 46, 47, 48, 49, 50, 92, 93, 94, 95, 96] (by decide +kernel) (by decide +kernel)
set_option maxRecDepth 20000 in
theorem gX3_init_X1_init_n20 : GoodIn wsX3_init (wsX1_init) := ggX3_init_X1_init
set_option maxRecDepth 20000 in
theorem ggX3_init_X2_init : GoodIn wsX3_init wsX2_init := goodIn_r _ [53, 54, 2, 3, 55, 56, 57, 58, 59, 60, 61, 62, 63, 64, 65, 66, 67, 68, 69, 70, 71, 72, 21, 73, 74, 97, 98, 99, 100, 101, 102, 103, 104, 105, 106, 107, 108, 109, 110, 111, 112] (by decide +kernel) (by decide +kernel)
set_option maxRecDepth 20000 in
theorem gX3_init_X2_init : GoodIn wsX3_init (wsX2_init) := ggX3_init_X2_init
theorem dX3_init_0 : decode cX3_init 0 = .ok (.aload_n 0, 1) := by decide +kernel
theorem dX3_init_1 : decode cX3_init 1 = .ok (.invokespecial 3, 3) := by decide +kernel
theorem dX3_init_4 : decode cX3_init 4 = .ok (.aload_n 0, 1) := by decide +kernel
theorem dX3_init_5 : decode cX3_init 5 = .ok (.new 9, 3) := by decide +kernel
theorem dX3_init_8 : decode cX3_init 8 = .ok (.dup, 1) := by decide +kernel
theorem dX3_init_9 : decode cX3_init 9 = .ok (.invokespecial 11, 3) := by decide +kernel
theorem dX3_init_12 : decode cX3_init 12 = .ok (.putfield 12, 3) := by decide +kernel
theorem dX3_init_15 : decode cX3_init 15 = .ok (.aload_n 0, 1) := by decide +kernel
theorem dX3_init_16 : decode cX3_init 16 = .ok (.new 18, 3) := by decide +kernel
theorem dX3_init_19 : decode cX3_init 19 = .ok (.dup, 1) := by decide +kernel
theorem dX3_init_20 : decode cX3_init 20 = .ok (.invokespecial 20, 3) := by decide +kernel
theorem dX3_init_23 : decode cX3_init 23 = .ok (.putfield 21, 3) := by decide +kernel
theorem dX3_init_26 : decode cX3_init 26 = .ok (.aload_n 0, 1) := by decide +kernel
theorem dX3_init_27 : decode cX3_init 27 = .ok (.aconst_null, 1) := by decide +kernel
theorem dX3_init_28 : decode cX3_init 28 = .ok (.putfield 25, 3) := by decide +kernel
theorem dX3_init_31 : decode cX3_init 31 = .ok (.aload_n 0, 1) := by decide +kernel
theorem dX3_init_32 : decode cX3_init 32 = .ok (.iconst 0, 1) := by decide +kernel
theorem dX3_init_33 : decode cX3_init 33 = .ok (.putfield 29, 3) := by decide +kernel
theorem dX3_init_36 : decode cX3_init 36 = .ok (.aload_n 0, 1) := by decide +kernel
theorem dX3_init_37 : decode cX3_init 37 = .ok (.iconst 0, 1) := by decide +kernel
theorem dX3_init_38 : decode cX3_init 38 = .ok (.putfield 33, 3) := by decide +kernel
theorem dX3_init_41 : decode cX3_init 41 = .ok (.aload_n 0, 1) := by decide +kernel
theorem dX3_init_42 : decode cX3_init 42 = .ok (.iconst 0, 1) := by decide +kernel
theorem dX3_init_43 : decode cX3_init 43 = .ok (.putfield 36, 3) := by decide +kernel
theorem dX3_init_46 : decode cX3_init 46 = .ok (.aload_n 0, 1) := by decide +kernel
theorem dX3_init_47 : decode cX3_init 47 = .ok (.iconst 0, 1) := by decide +kernel
theorem dX3_init_48 : decode cX3_init 48 = .ok (.putfield 39, 3) := by decide +kernel
theorem dX3_init_51 : decode cX3_init 51 = .ok (.aload_n 0, 1) := by decide +kernel
theorem dX3_init_52 : decode cX3_init 52 = .ok (.iconst 0, 1) := by decide +kernel
theorem dX3_init_53 : decode cX3_init 53 = .ok (.putfield 42, 3) := by decide +kernel
theorem dX3_init_56 : decode cX3_init 56 = .ok (.aload_n 0, 1) := by decide +kernel
theorem dX3_init_57 : decode cX3_init 57 = .ok (.iload_n 1, 1) := by decide +kernel
theorem dX3_init_58 : decode cX3_init 58 = .ok (.putfield 46, 3) := by decide +kernel
theorem dX3_init_61 : decode cX3_init 61 = .ok (.aload_n 0, 1) := by decide +kernel
theorem dX3_init_62 : decode cX3_init 62 = .ok (.iload_n 2, 1) := by decide +kernel
theorem dX3_init_63 : decode cX3_init 63 = .ok (.putfield 49, 3) := by decide +kernel
theorem dX3_init_66 : decode cX3_init 66 = .ok (.aload_n 0, 1) := by decide +kernel
theorem dX3_init_67 : decode cX3_init 67 = .ok (.iload_n 3, 1) := by decide +kernel
theorem dX3_init_68 : decode cX3_init 68 = .ok (.putfield 52, 3) := by decide +kernel
theorem dX3_init_71 : decode cX3_init 71 = .ok (.aload_n 0, 1) := by decide +kernel
theorem dX3_init_72 : decode cX3_init 72 = .ok (.iload_n 2, 1) := by decide +kernel
theorem dX3_init_73 : decode cX3_init 73 = .ok (.ifCond .eq 8, 3) := by decide +kernel
theorem dX3_init_76 : decode cX3_init 76 = .ok (.bipush 20, 2) := by decide +kernel
theorem dX3_init_78 : decode cX3_init 78 = .ok (.goto 4, 3) := by decide +kernel
theorem dX3_init_81 : decode cX3_init 81 = .ok (.iconst 0, 1) := by decide +kernel
theorem dX3_init_82 : decode cX3_init 82 = .ok (.newarray .int, 2) := by decide +kernel
theorem dX3_init_84 : decode cX3_init 84 = .ok (.putfield 55, 3) := by decide +kernel
theorem dX3_init_87 : decode cX3_init 87 = .ok (.aload_n 0, 1) := by decide +kernel
theorem dX3_init_88 : decode cX3_init 88 = .ok (.iload_n 2, 1) := by decide +kernel
theorem dX3_init_89 : decode cX3_init 89 = .ok (.ifCond .eq 7, 3) := by decide +kernel
theorem dX3_init_92 : decode cX3_init 92 = .ok (.iconst 0, 1) := by decide +kernel
theorem dX3_init_93 : decode cX3_init 93 = .ok (.goto 5, 3) := by decide +kernel
theorem dX3_init_96 : decode cX3_init 96 = .ok (.bipush 14, 2) := by decide +kernel
theorem dX3_init_98 : decode cX3_init 98 = .ok (.newarray .int, 2) := by decide +kernel
theorem dX3_init_100 : decode cX3_init 100 = .ok (.putfield 59, 3) := by decide +kernel
theorem dX3_init_103 : decode cX3_init 103 = .ok (.iconst 0, 1) := by decide +kernel
theorem dX3_init_104 : decode cX3_init 104 = .ok (.istore 4, 2) := by decide +kernel
theorem dX3_init_106 : decode cX3_init 106 = .ok (.iload 4, 2) := by decide +kernel
theorem dX3_init_108 : decode cX3_init 108 = .ok (.aload_n 0, 1) := by decide +kernel
theorem dX3_init_109 : decode cX3_init 109 = .ok (.getfield 59, 3) := by decide +kernel
theorem dX3_init_112 : decode cX3_init 112 = .ok (.arraylength, 1) := by decide +kernel
theorem dX3_init_113 : decode cX3_init 113 = .ok (.if_icmp .ge 19, 3) := by decide +kernel
theorem dX3_init_116 : decode cX3_init 116 = .ok (.aload_n 0, 1) := by decide +kernel
theorem dX3_init_117 : decode cX3_init 117 = .ok (.getfield 59, 3) := by decide +kernel
theorem dX3_init_120 : decode cX3_init 120 = .ok (.iload 4, 2) := by decide +kernel
theorem dX3_init_122 : decode cX3_init 122 = .ok (.sipush 9998, 3) := by decide +kernel
theorem dX3_init_125 : decode cX3_init 125 = .ok (.iastore, 1) := by decide +kernel
theorem dX3_init_126 : decode cX3_init 126 = .ok (.iinc 4 1, 3) := by decide +kernel
theorem dX3_init_129 : decode cX3_init 129 = .ok (.goto (-23), 3) := by decide +kernel
theorem dX3_init_132 : decode cX3_init 132 = .ok (.aload_n 0, 1) := by decide +kernel
theorem dX3_init_133 : decode cX3_init 133 = .ok (.new 62, 3) := by decide +kernel
theorem dX3_init_136 : decode cX3_init 136 = .ok (.dup, 1) := by decide +kernel
theorem dX3_init_137 : decode cX3_init 137 = .ok (.iload_n 2, 1) := by decide +kernel
theorem dX3_init_138 : decode cX3_init 138 = .ok (.ifCond .eq 8, 3) := by decide +kernel
theorem dX3_init_141 : decode cX3_init 141 = .ok (.bipush 20, 2) := by decide +kernel
theorem dX3_init_143 : decode cX3_init 143 = .ok (.goto 4, 3) := by decide +kernel
theorem dX3_init_146 : decode cX3_init 146 = .ok (.iconst 0, 1) := by decide +kernel
theorem dX3_init_147 : decode cX3_init 147 = .ok (.invokespecial 64, 3) := by decide +kernel
theorem dX3_init_150 : decode cX3_init 150 = .ok (.putfield 67, 3) := by decide +kernel
theorem dX3_init_153 : decode cX3_init 153 = .ok (.return_, 1) := by decide +kernel
theorem dX3_hasClass_0 : decode cX3_hasClass 0 = .ok (.iload_n 1, 1) := by decide +kernel
theorem dX3_hasClass_1 : decode cX3_hasClass 1 = .ok (.ifCond .lt 25, 3) := by decide +kernel
theorem dX3_hasClass_4 : decode cX3_hasClass 4 = .ok (.iload_n 1, 1) := by decide +kernel
theorem dX3_hasClass_5 : decode cX3_hasClass 5 = .ok (.bipush 7, 2) := by decide +kernel
theorem dX3_hasClass_7 : decode cX3_hasClass 7 = .ok (.if_icmp .gt 19, 3) := by decide +kernel
theorem dX3_hasClass_10 : decode cX3_hasClass 10 = .ok (.aload_n 0, 1) := by decide +kernel
theorem dX3_hasClass_11 : decode cX3_hasClass 11 = .ok (.getfield 36, 3) := by decide +kernel
theorem dX3_hasClass_14 : decode cX3_hasClass 14 = .ok (.iload_n 1, 1) := by decide +kernel
theorem dX3_hasClass_15 : decode cX3_hasClass 15 = .ok (.ishr, 1) := by decide +kernel
theorem dX3_hasClass_16 : decode cX3_hasClass 16 = .ok (.iconst 1, 1) := by decide +kernel
theorem dX3_hasClass_17 : decode cX3_hasClass 17 = .ok (.iand, 1) := by decide +kernel
theorem dX3_hasClass_18 : decode cX3_hasClass 18 = .ok (.iconst 1, 1) := by decide +kernel
theorem dX3_hasClass_19 : decode cX3_hasClass 19 = .ok (.if_icmp .ne 7, 3) := by decide +kernel
theorem dX3_hasClass_22 : decode cX3_hasClass 22 = .ok (.iconst 1, 1) := by decide +kernel
theorem dX3_hasClass_23 : decode cX3_hasClass 23 = .ok (.goto 4, 3) := by decide +kernel
theorem dX3_hasClass_26 : decode cX3_hasClass 26 = .ok (.iconst 0, 1) := by decide +kernel
theorem dX3_hasClass_27 : decode cX3_hasClass 27 = .ok (.ireturn, 1) := by decide +kernel
theorem dX3_hasWord_0 : decode cX3_hasWord 0 = .ok (.aload_n 0, 1) := by decide +kernel
theorem dX3_hasWord_1 : decode cX3_hasWord 1 = .ok (.getfield 49, 3) := by decide +kernel
theorem dX3_hasWord_4 : decode cX3_hasWord 4 = .ok (.ifCond .eq 28, 3) := by decide +kernel
theorem dX3_hasWord_7 : decode cX3_hasWord 7 = .ok (.iload_n 1, 1) := by decide +kernel
theorem dX3_hasWord_8 : decode cX3_hasWord 8 = .ok (.ifCond .lt 24, 3) := by decide +kernel
theorem dX3_hasWord_11 : decode cX3_hasWord 11 = .ok (.iload_n 1, 1) := by decide +kernel
theorem dX3_hasWord_12 : decode cX3_hasWord 12 = .ok (.aload_n 0, 1) := by decide +kernel
theorem dX3_hasWord_13 : decode cX3_hasWord 13 = .ok (.getfield 29, 3) := by decide +kernel
theorem dX3_hasWord_16 : decode cX3_hasWord 16 = .ok (.if_icmp .ge 16, 3) := by decide +kernel
theorem dX3_hasWord_19 : decode cX3_hasWord 19 = .ok (.iload_n 1, 1) := by decide +kernel
theorem dX3_hasWord_20 : decode cX3_hasWord 20 = .ok (.aload_n 0, 1) := by decide +kernel
theorem dX3_hasWord_21 : decode cX3_hasWord 21 = .ok (.getfield 55, 3) := by decide +kernel
theorem dX3_hasWord_24 : decode cX3_hasWord 24 = .ok (.arraylength, 1) := by decide +kernel
theorem dX3_hasWord_25 : decode cX3_hasWord 25 = .ok (.if_icmp .ge 7, 3) := by decide +kernel
theorem dX3_hasWord_28 : decode cX3_hasWord 28 = .ok (.iconst 1, 1) := by decide +kernel
theorem dX3_hasWord_29 : decode cX3_hasWord 29 = .ok (.goto 4, 3) := by decide +kernel
theorem dX3_hasWord_32 : decode cX3_hasWord 32 = .ok (.iconst 0, 1) := by decide +kernel
theorem dX3_hasWord_33 : decode cX3_hasWord 33 = .ok (.ireturn, 1) := by decide +kernel
set_option maxRecDepth 20000 in
theorem ggX3_lettersOf_X3_hasWord : GoodIn wsX3_lettersOf wsX3_hasWord := goodIn_r _ [6, 7, 8, 1, 9, 10, 11, 12, 13, 14, 15, 16, 17, 18, 19, 20, 21, 22] (by decide +kernel) (by decide +kernel)
set_option maxRecDepth 20000 in
theorem gX3_lettersOf_X3_hasWord : GoodIn wsX3_lettersOf (wsV RX3 71 RX3 yX3_hasWord wsX3_hasWord) := goodIn_app (goodIn_of _ (by decide +kernel)) ggX3_lettersOf_X3_hasWord
theorem dX3_lettersOf_0 : decode cX3_lettersOf 0 = .ok (.aload_n 0, 1) := by decide +kernel
theorem dX3_lettersOf_1 : decode cX3_lettersOf 1 = .ok (.iload_n 1, 1) := by decide +kernel
theorem dX3_lettersOf_2 : decode cX3_lettersOf 2 = .ok (.invokevirtual 71, 3) := by decide +kernel
theorem dX3_lettersOf_5 : decode cX3_lettersOf 5 = .ok (.ifCond .eq 12, 3) := by decide +kernel
theorem dX3_lettersOf_8 : decode cX3_lettersOf 8 = .ok (.aload_n 0, 1) := by decide +kernel
theorem dX3_lettersOf_9 : decode cX3_lettersOf 9 = .ok (.getfield 55, 3) := by decide +kernel
theorem dX3_lettersOf_12 : decode cX3_lettersOf 12 = .ok (.iload_n 1, 1) := by decide +kernel
theorem dX3_lettersOf_13 : decode cX3_lettersOf 13 = .ok (.iaload, 1) := by decide +kernel
theorem dX3_lettersOf_14 : decode cX3_lettersOf 14 = .ok (.goto 4, 3) := by decide +kernel
theorem dX3_lettersOf_17 : decode cX3_lettersOf 17 = .ok (.iconst 0, 1) := by decide +kernel
theorem dX3_lettersOf_18 : decode cX3_lettersOf 18 = .ok (.ireturn, 1) := by decide +kernel
theorem dX3_declaredOf_0 : decode cX3_declaredOf 0 = .ok (.iload_n 1, 1) := by decide +kernel
theorem dX3_declaredOf_1 : decode cX3_declaredOf 1 = .ok (.ifCond .lt 21, 3) := by decide +kernel
theorem dX3_declaredOf_4 : decode cX3_declaredOf 4 = .ok (.iload_n 1, 1) := by decide +kernel
theorem dX3_declaredOf_5 : decode cX3_declaredOf 5 = .ok (.aload_n 0, 1) := by decide +kernel
theorem dX3_declaredOf_6 : decode cX3_declaredOf 6 = .ok (.getfield 59, 3) := by decide +kernel
theorem dX3_declaredOf_9 : decode cX3_declaredOf 9 = .ok (.arraylength, 1) := by decide +kernel
theorem dX3_declaredOf_10 : decode cX3_declaredOf 10 = .ok (.if_icmp .ge 12, 3) := by decide +kernel
theorem dX3_declaredOf_13 : decode cX3_declaredOf 13 = .ok (.aload_n 0, 1) := by decide +kernel
theorem dX3_declaredOf_14 : decode cX3_declaredOf 14 = .ok (.getfield 59, 3) := by decide +kernel
theorem dX3_declaredOf_17 : decode cX3_declaredOf 17 = .ok (.iload_n 1, 1) := by decide +kernel
theorem dX3_declaredOf_18 : decode cX3_declaredOf 18 = .ok (.iaload, 1) := by decide +kernel
theorem dX3_declaredOf_19 : decode cX3_declaredOf 19 = .ok (.goto 6, 3) := by decide +kernel
theorem dX3_declaredOf_22 : decode cX3_declaredOf 22 = .ok (.sipush 9998, 3) := by decide +kernel
theorem dX3_declaredOf_25 : decode cX3_declaredOf 25 = .ok (.ireturn, 1) := by decide +kernel
theorem dX3_setDeclared_0 : decode cX3_setDeclared 0 = .ok (.iload_n 1, 1) := by decide +kernel
theorem dX3_setDeclared_1 : decode cX3_setDeclared 1 = .ok (.ifCond .lt 19, 3) := by decide +kernel
theorem dX3_setDeclared_4 : decode cX3_setDeclared 4 = .ok (.iload_n 1, 1) := by decide +kernel
theorem dX3_setDeclared_5 : decode cX3_setDeclared 5 = .ok (.aload_n 0, 1) := by decide +kernel
theorem dX3_setDeclared_6 : decode cX3_setDeclared 6 = .ok (.getfield 59, 3) := by decide +kernel
theorem dX3_setDeclared_9 : decode cX3_setDeclared 9 = .ok (.arraylength, 1) := by decide +kernel
theorem dX3_setDeclared_10 : decode cX3_setDeclared 10 = .ok (.if_icmp .ge 10, 3) := by decide +kernel
theorem dX3_setDeclared_13 : decode cX3_setDeclared 13 = .ok (.aload_n 0, 1) := by decide +kernel
theorem dX3_setDeclared_14 : decode cX3_setDeclared 14 = .ok (.getfield 59, 3) := by decide +kernel
theorem dX3_setDeclared_17 : decode cX3_setDeclared 17 = .ok (.iload_n 1, 1) := by decide +kernel
theorem dX3_setDeclared_18 : decode cX3_setDeclared 18 = .ok (.iload_n 2, 1) := by decide +kernel
theorem dX3_setDeclared_19 : decode cX3_setDeclared 19 = .ok (.iastore, 1) := by decide +kernel
theorem dX3_setDeclared_20 : decode cX3_setDeclared 20 = .ok (.return_, 1) := by decide +kernel
theorem dX3_ancestors_0 : decode cX3_ancestors 0 = .ok (.iconst 0, 1) := by decide +kernel
theorem dX3_ancestors_1 : decode cX3_ancestors 1 = .ok (.istore_n 1, 1) := by decide +kernel
theorem dX3_ancestors_2 : decode cX3_ancestors 2 = .ok (.aload_n 0, 1) := by decide +kernel
theorem dX3_ancestors_3 : decode cX3_ancestors 3 = .ok (.getfield 25, 3) := by decide +kernel
theorem dX3_ancestors_6 : decode cX3_ancestors 6 = .ok (.astore_n 2, 1) := by decide +kernel
theorem dX3_ancestors_7 : decode cX3_ancestors 7 = .ok (.aload_n 2, 1) := by decide +kernel
theorem dX3_ancestors_8 : decode cX3_ancestors 8 = .ok (.ifnull 14, 3) := by decide +kernel
theorem dX3_ancestors_11 : decode cX3_ancestors 11 = .ok (.iinc 1 1, 3) := by decide +kernel
theorem dX3_ancestors_14 : decode cX3_ancestors 14 = .ok (.aload_n 2, 1) := by decide +kernel
theorem dX3_ancestors_15 : decode cX3_ancestors 15 = .ok (.getfield 25, 3) := by decide +kernel
theorem dX3_ancestors_18 : decode cX3_ancestors 18 = .ok (.astore_n 2, 1) := by decide +kernel
theorem dX3_ancestors_19 : decode cX3_ancestors 19 = .ok (.goto (-12), 3) := by decide +kernel
theorem dX3_ancestors_22 : decode cX3_ancestors 22 = .ok (.iload_n 1, 1) := by decide +kernel
theorem dX3_ancestors_23 : decode cX3_ancestors 23 = .ok (.ireturn, 1) := by decide +kernel
theorem dX3_isOrIsIn_0 : decode cX3_isOrIsIn 0 = .ok (.aload_n 0, 1) := by decide +kernel
theorem dX3_isOrIsIn_1 : decode cX3_isOrIsIn 1 = .ok (.astore_n 2, 1) := by decide +kernel
theorem dX3_isOrIsIn_2 : decode cX3_isOrIsIn 2 = .ok (.aload_n 2, 1) := by decide +kernel
theorem dX3_isOrIsIn_3 : decode cX3_isOrIsIn 3 = .ok (.ifnull 18, 3) := by decide +kernel
theorem dX3_isOrIsIn_6 : decode cX3_isOrIsIn 6 = .ok (.aload_n 2, 1) := by decide +kernel
theorem dX3_isOrIsIn_7 : decode cX3_isOrIsIn 7 = .ok (.aload_n 1, 1) := by decide +kernel
theorem dX3_isOrIsIn_8 : decode cX3_isOrIsIn 8 = .ok (.if_acmp .ne 5, 3) := by decide +kernel
theorem dX3_isOrIsIn_11 : decode cX3_isOrIsIn 11 = .ok (.iconst 1, 1) := by decide +kernel
theorem dX3_isOrIsIn_12 : decode cX3_isOrIsIn 12 = .ok (.ireturn, 1) := by decide +kernel
theorem dX3_isOrIsIn_13 : decode cX3_isOrIsIn 13 = .ok (.aload_n 2, 1) := by decide +kernel
theorem dX3_isOrIsIn_14 : decode cX3_isOrIsIn 14 = .ok (.getfield 25, 3) := by decide +kernel
theorem dX3_isOrIsIn_17 : decode cX3_isOrIsIn 17 = .ok (.astore_n 2, 1) := by decide +kernel
theorem dX3_isOrIsIn_18 : decode cX3_isOrIsIn 18 = .ok (.goto (-16), 3) := by decide +kernel
theorem dX3_isOrIsIn_21 : decode cX3_isOrIsIn 21 = .ok (.iconst 0, 1) := by decide +kernel
theorem dX3_isOrIsIn_22 : decode cX3_isOrIsIn 22 = .ok (.ireturn, 1) := by decide +kernel
set_option maxRecDepth 20000 in
theorem ggX3_placeAmongSiblings_Jx4a65c_size_8abf5 : GoodIn wsX3_placeAmongSiblings wsJx4a65c_size_8abf5 := goodIn_r _ [7, 8, 40, 41, 42] (by decide +kernel) (by decide +kernel)
set_option maxRecDepth 20000 in
theorem gX3_placeAmongSiblings_Jx4a65c_size_8abf5 : GoodIn wsX3_placeAmongSiblings (wsV RX3 75 RJx4a65c yJx4a65c_size_8abf5 wsJx4a65c_size_8abf5) := goodIn_app (goodIn_of _ (by decide +kernel)) ggX3_placeAmongSiblings_Jx4a65c_size_8abf5
set_option maxRecDepth 20000 in
theorem ggX3_placeAmongSiblings_Jx4a65c_get_915e3 : GoodIn wsX3_placeAmongSiblings wsJx4a65c_get_915e3 := goodIn_r _ [12, 8, 13, 14, 15, 16, 17, 18, 19, 20, 21, 22, 23, 6, 24, 25, 40, 41, 42] (by decide +kernel) (by decide +kernel)
set_option maxRecDepth 20000 in
theorem gX3_placeAmongSiblings_Jx4a65c_get_915e3 : GoodIn wsX3_placeAmongSiblings (wsV RX3 79 RJx4a65c yJx4a65c_get_915e3 wsJx4a65c_get_915e3) := goodIn_app (goodIn_of _ (by decide +kernel)) ggX3_placeAmongSiblings_Jx4a65c_get_915e3
theorem dX3_placeAmongSiblings_0 : decode cX3_placeAmongSiblings 0 = .ok (.aload_n 0, 1) := by decide +kernel
theorem dX3_placeAmongSiblings_1 : decode cX3_placeAmongSiblings 1 = .ok (.getfield 25, 3) := by decide +kernel
theorem dX3_placeAmongSiblings_4 : decode cX3_placeAmongSiblings 4 = .ok (.ifnull 42, 3) := by decide +kernel
theorem dX3_placeAmongSiblings_7 : decode cX3_placeAmongSiblings 7 = .ok (.iconst 0, 1) := by decide +kernel
theorem dX3_placeAmongSiblings_8 : decode cX3_placeAmongSiblings 8 = .ok (.istore_n 1, 1) := by decide +kernel
theorem dX3_placeAmongSiblings_9 : decode cX3_placeAmongSiblings 9 = .ok (.iload_n 1, 1) := by decide +kernel
theorem dX3_placeAmongSiblings_10 : decode cX3_placeAmongSiblings 10 = .ok (.aload_n 0, 1) := by decide +kernel
theorem dX3_placeAmongSiblings_11 : decode cX3_placeAmongSiblings 11 = .ok (.getfield 25, 3) := by decide +kernel
theorem dX3_placeAmongSiblings_14 : decode cX3_placeAmongSiblings 14 = .ok (.getfield 12, 3) := by decide +kernel
theorem dX3_placeAmongSiblings_17 : decode cX3_placeAmongSiblings 17 = .ok (.invokevirtual 75, 3) := by decide +kernel
theorem dX3_placeAmongSiblings_20 : decode cX3_placeAmongSiblings 20 = .ok (.if_icmp .ge 26, 3) := by decide +kernel
theorem dX3_placeAmongSiblings_23 : decode cX3_placeAmongSiblings 23 = .ok (.aload_n 0, 1) := by decide +kernel
theorem dX3_placeAmongSiblings_24 : decode cX3_placeAmongSiblings 24 = .ok (.getfield 25, 3) := by decide +kernel
theorem dX3_placeAmongSiblings_27 : decode cX3_placeAmongSiblings 27 = .ok (.getfield 12, 3) := by decide +kernel
theorem dX3_placeAmongSiblings_30 : decode cX3_placeAmongSiblings 30 = .ok (.iload_n 1, 1) := by decide +kernel
theorem dX3_placeAmongSiblings_31 : decode cX3_placeAmongSiblings 31 = .ok (.invokevirtual 79, 3) := by decide +kernel
theorem dX3_placeAmongSiblings_34 : decode cX3_placeAmongSiblings 34 = .ok (.aload_n 0, 1) := by decide +kernel
theorem dX3_placeAmongSiblings_35 : decode cX3_placeAmongSiblings 35 = .ok (.if_acmp .ne 5, 3) := by decide +kernel
theorem dX3_placeAmongSiblings_38 : decode cX3_placeAmongSiblings 38 = .ok (.iload_n 1, 1) := by decide +kernel
theorem dX3_placeAmongSiblings_39 : decode cX3_placeAmongSiblings 39 = .ok (.ireturn, 1) := by decide +kernel
theorem dX3_placeAmongSiblings_40 : decode cX3_placeAmongSiblings 40 = .ok (.iinc 1 1, 3) := by decide +kernel
theorem dX3_placeAmongSiblings_43 : decode cX3_placeAmongSiblings 43 = .ok (.goto (-34), 3) := by decide +kernel
theorem dX3_placeAmongSiblings_46 : decode cX3_placeAmongSiblings 46 = .ok (.iconst (-1), 1) := by decide +kernel
theorem dX3_placeAmongSiblings_47 : decode cX3_placeAmongSiblings 47 = .ok (.ireturn, 1) := by decide +kernel
set_option maxRecDepth 20000 in
theorem ggX4_init_X6_init : GoodIn wsX4_init wsX6_init := goodIn_r _ [20, 21, 2, 3, 22, 23, 24, 25, 26, 51, 52, 53] (by decide +kernel) (by decide +kernel)
set_option maxRecDepth 20000 in
theorem gX4_init_X6_init_n11 : GoodIn wsX4_init (wsX6_init) := ggX4_init_X6_init
set_option maxRecDepth 20000 in
theorem ggX4_init_X0_init : GoodIn wsX4_init wsX0_init := goodIn_r _ [28, 29, 2, 3, 23, 30, 31, 32, 33, 34, 35, 36, 37, 38, 39, 60, 61, 62, 63, 64, 65, 66, 67, 68, 69] (by decide +kernel) (by decide +kernel)
set_option maxRecDepth 20000 in
theorem gX4_init_X0_init_n20 : GoodIn wsX4_init (wsX0_init) := ggX4_init_X0_init
set_option maxRecDepth 20000 in
theorem ggX4_init_X8_init : GoodIn wsX4_init wsX8_init := goodIn_r _ [41, 42, 2, 3, 43, 44, 23, 45, 46, 47, 48, 49, 50, 70, 71, 72, 73, 74, 75, 76] (by decide +kernel) (by decide +kernel)
set_option maxRecDepth 20000 in
theorem gX4_init_X8_init_n27 : GoodIn wsX4_init (wsX8_init) := ggX4_init_X8_init
theorem dX4_init_0 : decode cX4_init 0 = .ok (.aload_n 0, 1) := by decide +kernel
theorem dX4_init_1 : decode cX4_init 1 = .ok (.invokespecial 3, 3) := by decide +kernel
theorem dX4_init_4 : decode cX4_init 4 = .ok (.aload_n 0, 1) := by decide +kernel
theorem dX4_init_5 : decode cX4_init 5 = .ok (.new 9, 3) := by decide +kernel
theorem dX4_init_8 : decode cX4_init 8 = .ok (.dup, 1) := by decide +kernel
theorem dX4_init_9 : decode cX4_init 9 = .ok (.invokespecial 11, 3) := by decide +kernel
theorem dX4_init_12 : decode cX4_init 12 = .ok (.putfield 12, 3) := by decide +kernel
theorem dX4_init_15 : decode cX4_init 15 = .ok (.aload_n 0, 1) := by decide +kernel
theorem dX4_init_16 : decode cX4_init 16 = .ok (.new 18, 3) := by decide +kernel
theorem dX4_init_19 : decode cX4_init 19 = .ok (.dup, 1) := by decide +kernel
theorem dX4_init_20 : decode cX4_init 20 = .ok (.invokespecial 20, 3) := by decide +kernel
theorem dX4_init_23 : decode cX4_init 23 = .ok (.putfield 21, 3) := by decide +kernel
theorem dX4_init_26 : decode cX4_init 26 = .ok (.aload_n 0, 1) := by decide +kernel
theorem dX4_init_27 : decode cX4_init 27 = .ok (.new 25, 3) := by decide +kernel
theorem dX4_init_30 : decode cX4_init 30 = .ok (.dup, 1) := by decide +kernel
theorem dX4_init_31 : decode cX4_init 31 = .ok (.invokespecial 27, 3) := by decide +kernel
theorem dX4_init_34 : decode cX4_init 34 = .ok (.putfield 28, 3) := by decide +kernel
theorem dX4_init_37 : decode cX4_init 37 = .ok (.aload_n 0, 1) := by decide +kernel
theorem dX4_init_38 : decode cX4_init 38 = .ok (.iconst 0, 1) := by decide +kernel
theorem dX4_init_39 : decode cX4_init 39 = .ok (.putfield 32, 3) := by decide +kernel
theorem dX4_init_42 : decode cX4_init 42 = .ok (.aload_n 0, 1) := by decide +kernel
theorem dX4_init_43 : decode cX4_init 43 = .ok (.iconst 0, 1) := by decide +kernel
theorem dX4_init_44 : decode cX4_init 44 = .ok (.putfield 36, 3) := by decide +kernel
theorem dX4_init_47 : decode cX4_init 47 = .ok (.aload_n 0, 1) := by decide +kernel
theorem dX4_init_48 : decode cX4_init 48 = .ok (.iconst 0, 1) := by decide +kernel
theorem dX4_init_49 : decode cX4_init 49 = .ok (.putfield 39, 3) := by decide +kernel
theorem dX4_init_52 : decode cX4_init 52 = .ok (.return_, 1) := by decide +kernel
set_option maxRecDepth 20000 in
theorem ggX4_layOut_X0_clear : GoodIn wsX4_layOut wsX0_clear := goodIn_r _ [20, 21, 272, 273, 274, 275, 276, 277, 278, 279, 280, 281] (by decide +kernel) (by decide +kernel)
set_option maxRecDepth 20000 in
theorem gX4_layOut_X0_clear : GoodIn wsX4_layOut (wsV RX4 42 RX0 yX0_clear wsX0_clear) := goodIn_app (goodIn_of _ (by decide +kernel)) ggX4_layOut_X0_clear
set_option maxRecDepth 20000 in
theorem ggX4_layOut_X8_clear : GoodIn wsX4_layOut wsX8_clear := goodIn_r _ [26, 27, 282, 283, 284, 285, 286, 287, 288] (by decide +kernel) (by decide +kernel)
set_option maxRecDepth 20000 in
theorem gX4_layOut_X8_clear : GoodIn wsX4_layOut (wsV RX4 45 RX8 yX8_clear wsX8_clear) := goodIn_app (goodIn_of _ (by decide +kernel)) ggX4_layOut_X8_clear
set_option maxRecDepth 20000 in
theorem ggX4_layOut_X4_prepare : GoodIn wsX4_layOut wsX4_prepare := goodIn_r _ [32, 33, 7, 34, 35, 36, 37, 8, 38, 39, 40, 41, 42, 43, 44, 45, 46, 47, 48, 49, 50, 51, 52, 53, 54, 55, 56, 57, 58, 59, 60, 61, 62, 63, 64, 31, 65, 66, 67, 68, 69, 70, 71, 72, 73, 74, 75, 76, 77, 78, 79, 80, 81, 82, 83, 237, 238, 239, 240, 241, 242, 243, 244, 245, 246, 247, 248, 249, 250, 251, 252, 253, 254, 255, 256, 257, 258, 259, 260, 261, 262, 263, 264, 265, 266, 228, 229, 230, 231, 232, 233, 289, 290, 291, 292, 293, 294] (by decide +kernel) (by decide +kernel)
set_option maxRecDepth 20000 in
theorem gX4_layOut_X4_prepare : GoodIn wsX4_layOut (wsV RX4 52 RX4 yX4_prepare wsX4_prepare) := goodIn_app (goodIn_of _ (by decide +kernel)) ggX4_layOut_X4_prepare
set_option maxRecDepth 20000 in
theorem ggX4_layOut_X4_findWishes : GoodIn wsX4_layOut wsX4_findWishes := goodIn_r _ [87, 33, 7, 39, 40, 41, 42, 43, 44, 45, 46, 47, 48, 49, 50, 51, 52, 53, 54, 55, 56, 57, 58, 59, 60, 61, 78, 79, 80, 81, 82, 83, 88, 89, 90, 31, 91, 12, 92, 93, 35, 8, 94, 95, 96, 97, 34, 98, 99, 100, 101, 36, 68, 69, 70, 71, 72, 73, 74, 102, 103, 104, 105, 106, 107, 108, 109, 110, 111, 112, 113, 114, 115, 116, 117, 118, 237, 238, 239, 240, 241, 242, 243, 244, 245, 246, 247, 248, 249, 250, 289, 290, 291, 251, 252, 253, 254, 255, 256, 257, 258, 259, 260, 261, 262, 263, 264, 265, 266, 267, 268, 269, 270, 271, 228, 229, 230, 231, 232, 233, 292, 293, 294] (by decide +kernel) (by decide +kernel)
set_option maxRecDepth 20000 in
theorem gX4_layOut_X4_findWishes : GoodIn wsX4_layOut (wsV RX4 56 RX4 yX4_findWishes wsX4_findWishes) := goodIn_app (goodIn_of _ (by decide +kernel)) ggX4_layOut_X4_findWishes
set_option maxRecDepth 20000 in
theorem ggX4_layOut_X4_widthOr : GoodIn wsX4_layOut wsX4_widthOr := goodIn_r _ [101, 36, 94, 95, 96, 97, 68, 69, 70, 71, 72, 73, 74, 228, 229, 230, 231, 232, 233, 237, 238, 239, 240, 241, 242, 243, 244, 245, 246, 247, 248, 249, 250, 292, 293, 294] (by decide +kernel) (by decide +kernel)
set_option maxRecDepth 20000 in
theorem gX4_layOut_X4_widthOr : GoodIn wsX4_layOut (wsV RX4 80 RX4 yX4_widthOr wsX4_widthOr) := goodIn_app (goodIn_of _ (by decide +kernel)) ggX4_layOut_X4_widthOr
set_option maxRecDepth 20000 in
theorem ggX4_layOut_X4_fill : GoodIn wsX4_layOut wsX4_fill := goodIn_r _ [122, 7, 12, 10, 123, 124, 125, 14, 13, 1, 126, 36, 127, 128, 129, 130, 31, 131, 132, 133, 134, 2, 135, 136, 137, 138, 94, 95, 96, 97, 139, 3, 4, 68, 69, 70, 71, 72, 73, 74, 140, 141, 142, 25, 143, 144, 145, 146, 147, 19, 148, 149, 150, 151, 152, 153, 154, 155, 156, 157, 158, 21, 159, 160, 161, 162, 163, 164, 165, 166, 167, 168, 169, 170, 171, 172, 173, 174, 175, 176, 177, 27, 178, 179, 180, 181, 182, 183, 184, 185, 186, 187, 188, 81, 189, 190, 191, 22, 23, 24, 26, 192, 193, 194, 195, 196, 9, 8, 37, 11, 38, 98, 99, 100, 101, 119, 120, 121, 197, 92, 198, 199, 200, 201, 202, 203, 204, 205, 206, 207, 33, 35, 34, 39, 40, 41, 42, 43, 44, 45, 46, 47, 48, 49, 50, 51, 52, 53, 54, 55, 56, 57, 58, 59, 60, 61, 208, 209, 210, 211, 212, 213, 108, 109, 110, 111, 112, 113, 114, 115, 116, 117, 118, 214, 215, 216, 217, 218, 219, 237, 238, 239, 240, 241, 242, 243, 244, 245, 246, 247, 248, 249, 250, 251, 252, 253, 254, 255, 256, 257, 258, 259, 260, 261, 262, 263, 264, 265, 266, 267, 268, 269, 270, 271, 228, 229, 230, 231, 232, 233, 282, 283, 284, 285, 286, 287, 288, 272, 273, 274, 275, 276, 277, 278, 279, 280, 281, 292, 293, 294, 289, 290, 291] (by decide +kernel) (by decide +kernel)
set_option maxRecDepth 20000 in
theorem gX4_layOut_X4_fill : GoodIn wsX4_layOut (wsV RX4 99 RX4 yX4_fill wsX4_fill) := goodIn_app (goodIn_of _ (by decide +kernel)) ggX4_layOut_X4_fill
set_option maxRecDepth 20000 in
theorem ggX4_layOut_X4_shift : GoodIn wsX4_layOut wsX4_shift := goodIn_r _ [223, 33, 7, 36, 224, 225, 38, 226, 126, 127, 94, 95, 96, 97, 198, 165, 166, 227, 66, 39, 40, 41, 42, 43, 44, 45, 46, 47, 48, 49, 50, 51, 52, 53, 54, 55, 56, 57, 58, 59, 60, 61, 78, 79, 80, 81, 82, 83, 68, 69, 70, 71, 72, 73, 74, 237, 238, 239, 240, 241, 242, 243, 244, 245, 246, 247, 248, 249, 250, 228, 229, 230, 231, 232, 233, 251, 252, 253, 254, 255, 256, 257, 258, 259, 260, 261, 262, 263, 264, 265, 266, 289, 290, 291, 292, 293, 294] (by decide +kernel) (by decide +kernel)
set_option maxRecDepth 20000 in
theorem gX4_layOut_X4_shift : GoodIn wsX4_layOut (wsV RX4 103 RX4 yX4_shift wsX4_shift) := goodIn_app (goodIn_of _ (by decide +kernel)) ggX4_layOut_X4_shift
theorem dX4_layOut_0 : decode cX4_layOut 0 = .ok (.aload_n 0, 1) := by decide +kernel
theorem dX4_layOut_1 : decode cX4_layOut 1 = .ok (.getfield 21, 3) := by decide +kernel
theorem dX4_layOut_4 : decode cX4_layOut 4 = .ok (.invokevirtual 42, 3) := by decide +kernel
theorem dX4_layOut_7 : decode cX4_layOut 7 = .ok (.aload_n 0, 1) := by decide +kernel
theorem dX4_layOut_8 : decode cX4_layOut 8 = .ok (.getfield 28, 3) := by decide +kernel
theorem dX4_layOut_11 : decode cX4_layOut 11 = .ok (.invokevirtual 45, 3) := by decide +kernel
theorem dX4_layOut_14 : decode cX4_layOut 14 = .ok (.aload_n 0, 1) := by decide +kernel
theorem dX4_layOut_15 : decode cX4_layOut 15 = .ok (.iconst 0, 1) := by decide +kernel
theorem dX4_layOut_16 : decode cX4_layOut 16 = .ok (.putfield 36, 3) := by decide +kernel
theorem dX4_layOut_19 : decode cX4_layOut 19 = .ok (.aload_n 0, 1) := by decide +kernel
theorem dX4_layOut_20 : decode cX4_layOut 20 = .ok (.iconst 0, 1) := by decide +kernel
theorem dX4_layOut_21 : decode cX4_layOut 21 = .ok (.putfield 39, 3) := by decide +kernel
theorem dX4_layOut_24 : decode cX4_layOut 24 = .ok (.aload_n 0, 1) := by decide +kernel
theorem dX4_layOut_25 : decode cX4_layOut 25 = .ok (.aload_n 1, 1) := by decide +kernel
theorem dX4_layOut_26 : decode cX4_layOut 26 = .ok (.getfield 46, 3) := by decide +kernel
theorem dX4_layOut_29 : decode cX4_layOut 29 = .ok (.invokevirtual 52, 3) := by decide +kernel
theorem dX4_layOut_32 : decode cX4_layOut 32 = .ok (.aload_n 0, 1) := by decide +kernel
theorem dX4_layOut_33 : decode cX4_layOut 33 = .ok (.aload_n 1, 1) := by decide +kernel
theorem dX4_layOut_34 : decode cX4_layOut 34 = .ok (.getfield 46, 3) := by decide +kernel
theorem dX4_layOut_37 : decode cX4_layOut 37 = .ok (.invokevirtual 56, 3) := by decide +kernel
theorem dX4_layOut_40 : decode cX4_layOut 40 = .ok (.aload_n 1, 1) := by decide +kernel
theorem dX4_layOut_41 : decode cX4_layOut 41 = .ok (.getfield 59, 3) := by decide +kernel
theorem dX4_layOut_44 : decode cX4_layOut 44 = .ok (.getfield 63, 3) := by decide +kernel
theorem dX4_layOut_47 : decode cX4_layOut 47 = .ok (.astore_n 3, 1) := by decide +kernel
theorem dX4_layOut_48 : decode cX4_layOut 48 = .ok (.aload_n 3, 1) := by decide +kernel
theorem dX4_layOut_49 : decode cX4_layOut 49 = .ok (.aload_n 3, 1) := by decide +kernel
theorem dX4_layOut_50 : decode cX4_layOut 50 = .ok (.getfield 69, 3) := by decide +kernel
theorem dX4_layOut_53 : decode cX4_layOut 53 = .ok (.putfield 74, 3) := by decide +kernel
theorem dX4_layOut_56 : decode cX4_layOut 56 = .ok (.aload_n 3, 1) := by decide +kernel
theorem dX4_layOut_57 : decode cX4_layOut 57 = .ok (.aload_n 3, 1) := by decide +kernel
theorem dX4_layOut_58 : decode cX4_layOut 58 = .ok (.getfield 69, 3) := by decide +kernel
theorem dX4_layOut_61 : decode cX4_layOut 61 = .ok (.putfield 77, 3) := by decide +kernel
theorem dX4_layOut_64 : decode cX4_layOut 64 = .ok (.aload_n 3, 1) := by decide +kernel
theorem dX4_layOut_65 : decode cX4_layOut 65 = .ok (.aload_n 0, 1) := by decide +kernel
theorem dX4_layOut_66 : decode cX4_layOut 66 = .ok (.aload_n 1, 1) := by decide +kernel
theorem dX4_layOut_67 : decode cX4_layOut 67 = .ok (.getfield 59, 3) := by decide +kernel
theorem dX4_layOut_70 : decode cX4_layOut 70 = .ok (.iload_n 2, 1) := by decide +kernel
theorem dX4_layOut_71 : decode cX4_layOut 71 = .ok (.iconst 2, 1) := by decide +kernel
theorem dX4_layOut_72 : decode cX4_layOut 72 = .ok (.aload_n 3, 1) := by decide +kernel
theorem dX4_layOut_73 : decode cX4_layOut 73 = .ok (.getfield 69, 3) := by decide +kernel
theorem dX4_layOut_76 : decode cX4_layOut 76 = .ok (.imul, 1) := by decide +kernel
theorem dX4_layOut_77 : decode cX4_layOut 77 = .ok (.isub, 1) := by decide +kernel
theorem dX4_layOut_78 : decode cX4_layOut 78 = .ok (.invokevirtual 80, 3) := by decide +kernel
theorem dX4_layOut_81 : decode cX4_layOut 81 = .ok (.putfield 84, 3) := by decide +kernel
theorem dX4_layOut_84 : decode cX4_layOut 84 = .ok (.aload_n 1, 1) := by decide +kernel
theorem dX4_layOut_85 : decode cX4_layOut 85 = .ok (.getfield 59, 3) := by decide +kernel
theorem dX4_layOut_88 : decode cX4_layOut 88 = .ok (.getfield 87, 3) := by decide +kernel
theorem dX4_layOut_91 : decode cX4_layOut 91 = .ok (.aload_n 1, 1) := by decide +kernel
theorem dX4_layOut_92 : decode cX4_layOut 92 = .ok (.getfield 59, 3) := by decide +kernel
theorem dX4_layOut_95 : decode cX4_layOut 95 = .ok (.getfield 91, 3) := by decide +kernel
theorem dX4_layOut_98 : decode cX4_layOut 98 = .ok (.putfield 94, 3) := by decide +kernel
theorem dX4_layOut_101 : decode cX4_layOut 101 = .ok (.aload_n 0, 1) := by decide +kernel
theorem dX4_layOut_102 : decode cX4_layOut 102 = .ok (.aload_n 1, 1) := by decide +kernel
theorem dX4_layOut_103 : decode cX4_layOut 103 = .ok (.getfield 59, 3) := by decide +kernel
theorem dX4_layOut_106 : decode cX4_layOut 106 = .ok (.aload_n 1, 1) := by decide +kernel
theorem dX4_layOut_107 : decode cX4_layOut 107 = .ok (.getfield 46, 3) := by decide +kernel
theorem dX4_layOut_110 : decode cX4_layOut 110 = .ok (.iconst 0, 1) := by decide +kernel
theorem dX4_layOut_111 : decode cX4_layOut 111 = .ok (.invokevirtual 99, 3) := by decide +kernel
theorem dX4_layOut_114 : decode cX4_layOut 114 = .ok (.aload_n 0, 1) := by decide +kernel
theorem dX4_layOut_115 : decode cX4_layOut 115 = .ok (.aload_n 1, 1) := by decide +kernel
theorem dX4_layOut_116 : decode cX4_layOut 116 = .ok (.getfield 46, 3) := by decide +kernel
theorem dX4_layOut_119 : decode cX4_layOut 119 = .ok (.invokevirtual 103, 3) := by decide +kernel
theorem dX4_layOut_122 : decode cX4_layOut 122 = .ok (.aload_n 0, 1) := by decide +kernel
theorem dX4_layOut_123 : decode cX4_layOut 123 = .ok (.iload_n 2, 1) := by decide +kernel
theorem dX4_layOut_124 : decode cX4_layOut 124 = .ok (.putfield 32, 3) := by decide +kernel
theorem dX4_layOut_127 : decode cX4_layOut 127 = .ok (.return_, 1) := by decide +kernel
set_option maxRecDepth 20000 in
theorem ggX4_isAt_X2_hasInBorder : GoodIn wsX4_isAt wsX2_hasInBorder := goodIn_r _ [9, 10, 11, 12, 8, 13, 14, 15, 16, 17, 18, 19, 20, 21, 22, 23, 24, 25, 26, 27, 28, 29, 30, 31, 32, 33, 34, 35, 36, 37, 38, 39, 40, 91, 92, 93, 94, 95, 96, 97, 98, 99, 100, 101, 102, 103, 104, 105, 106] (by decide +kernel) (by decide +kernel)
set_option maxRecDepth 20000 in
theorem gX4_isAt_X2_hasInBorder : GoodIn wsX4_isAt (wsV RX4 106 RX2 yX2_hasInBorder wsX2_hasInBorder) := goodIn_app (goodIn_of _ (by decide +kernel)) ggX4_isAt_X2_hasInBorder
set_option maxRecDepth 20000 in
theorem ggX4_isAt_X6_of : GoodIn wsX4_isAt wsX6_of := goodIn_r _ [45, 46, 47, 71, 72, 73, 74, 75, 76, 77, 78, 79, 80, 81, 82, 83, 84, 107, 108, 109] (by decide +kernel) (by decide +kernel)
set_option maxRecDepth 20000 in
theorem gX4_isAt_X6_of : GoodIn wsX4_isAt (wsV RX4 110 RX6 yX6_of wsX6_of) := goodIn_app (goodIn_of _ (by decide +kernel)) ggX4_isAt_X6_of
set_option maxRecDepth 20000 in
theorem ggX4_isAt_X2_wordLeft : GoodIn wsX4_isAt wsX2_wordLeft := goodIn_r _ [51, 14, 52, 21, 91, 92, 93, 94, 95, 96, 97, 98, 99, 100, 101, 102, 103, 104, 105, 106] (by decide +kernel) (by decide +kernel)
set_option maxRecDepth 20000 in
theorem gX4_isAt_X2_wordLeft : GoodIn wsX4_isAt (wsV RX4 119 RX2 yX2_wordLeft wsX2_wordLeft) := goodIn_app (goodIn_of _ (by decide +kernel)) ggX4_isAt_X2_wordLeft
set_option maxRecDepth 20000 in
theorem ggX4_isAt_X3_lettersOf : GoodIn wsX4_isAt wsX3_lettersOf := goodIn_r _ [57, 58, 59, 60, 61, 56, 62, 63, 64, 71, 72, 73, 74, 75, 76, 77, 78, 79, 80, 81, 82, 83, 84] (by decide +kernel) (by decide +kernel)
set_option maxRecDepth 20000 in
theorem gX4_isAt_X3_lettersOf : GoodIn wsX4_isAt (wsV RX4 123 RX3 yX3_lettersOf wsX3_lettersOf) := goodIn_app (goodIn_of _ (by decide +kernel)) ggX4_isAt_X3_lettersOf
set_option maxRecDepth 20000 in
theorem ggX4_isAt_X2_isWithin : GoodIn wsX4_isAt wsX2_isWithin := goodIn_r _ [29] (by decide +kernel) (by decide +kernel)
set_option maxRecDepth 20000 in
theorem gX4_isAt_X2_isWithin : GoodIn wsX4_isAt (va_wsS RX4 126 yX2_isWithin wsX2_isWithin) := goodIn_app (goodIn_of _ (by decide +kernel)) ggX4_isAt_X2_isWithin
set_option maxRecDepth 20000 in
theorem ggX4_isAt_X2_wordTop : GoodIn wsX4_isAt wsX2_wordTop := goodIn_r _ [69, 14, 70, 35, 91, 92, 93, 94, 95, 96, 97, 98, 99, 100, 101, 102, 103, 104, 105, 106] (by decide +kernel) (by decide +kernel)
set_option maxRecDepth 20000 in
theorem gX4_isAt_X2_wordTop : GoodIn wsX4_isAt (wsV RX4 130 RX2 yX2_wordTop wsX2_wordTop) := goodIn_app (goodIn_of _ (by decide +kernel)) ggX4_isAt_X2_wordTop
theorem dX4_isAt_0 : decode cX4_isAt 0 = .ok (.aload_n 1, 1) := by decide +kernel
theorem dX4_isAt_1 : decode cX4_isAt 1 = .ok (.getfield 63, 3) := by decide +kernel
theorem dX4_isAt_4 : decode cX4_isAt 4 = .ok (.iload_n 2, 1) := by decide +kernel
theorem dX4_isAt_5 : decode cX4_isAt 5 = .ok (.iload_n 3, 1) := by decide +kernel
theorem dX4_isAt_6 : decode cX4_isAt 6 = .ok (.invokevirtual 106, 3) := by decide +kernel
theorem dX4_isAt_9 : decode cX4_isAt 9 = .ok (.ifCond .eq 5, 3) := by decide +kernel
theorem dX4_isAt_12 : decode cX4_isAt 12 = .ok (.iconst 1, 1) := by decide +kernel
theorem dX4_isAt_13 : decode cX4_isAt 13 = .ok (.ireturn, 1) := by decide +kernel
theorem dX4_isAt_14 : decode cX4_isAt 14 = .ok (.aload_n 0, 1) := by decide +kernel
theorem dX4_isAt_15 : decode cX4_isAt 15 = .ok (.getfield 12, 3) := by decide +kernel
theorem dX4_isAt_18 : decode cX4_isAt 18 = .ok (.aload_n 1, 1) := by decide +kernel
theorem dX4_isAt_19 : decode cX4_isAt 19 = .ok (.bipush 9, 2) := by decide +kernel
theorem dX4_isAt_21 : decode cX4_isAt 21 = .ok (.invokevirtual 110, 3) := by decide +kernel
theorem dX4_isAt_24 : decode cX4_isAt 24 = .ok (.istore 4, 2) := by decide +kernel
theorem dX4_isAt_26 : decode cX4_isAt 26 = .ok (.iconst 0, 1) := by decide +kernel
theorem dX4_isAt_27 : decode cX4_isAt 27 = .ok (.istore 5, 2) := by decide +kernel
theorem dX4_isAt_29 : decode cX4_isAt 29 = .ok (.iload 5, 2) := by decide +kernel
theorem dX4_isAt_31 : decode cX4_isAt 31 = .ok (.aload_n 1, 1) := by decide +kernel
theorem dX4_isAt_32 : decode cX4_isAt 32 = .ok (.getfield 113, 3) := by decide +kernel
theorem dX4_isAt_35 : decode cX4_isAt 35 = .ok (.if_icmp .ge 79, 3) := by decide +kernel
theorem dX4_isAt_38 : decode cX4_isAt 38 = .ok (.aload_n 1, 1) := by decide +kernel
theorem dX4_isAt_39 : decode cX4_isAt 39 = .ok (.getfield 63, 3) := by decide +kernel
theorem dX4_isAt_42 : decode cX4_isAt 42 = .ok (.getfield 116, 3) := by decide +kernel
theorem dX4_isAt_45 : decode cX4_isAt 45 = .ok (.iconst 1, 1) := by decide +kernel
theorem dX4_isAt_46 : decode cX4_isAt 46 = .ok (.if_icmp .ne 68, 3) := by decide +kernel
theorem dX4_isAt_49 : decode cX4_isAt 49 = .ok (.iload_n 2, 1) := by decide +kernel
theorem dX4_isAt_50 : decode cX4_isAt 50 = .ok (.aload_n 1, 1) := by decide +kernel
theorem dX4_isAt_51 : decode cX4_isAt 51 = .ok (.getfield 63, 3) := by decide +kernel
theorem dX4_isAt_54 : decode cX4_isAt 54 = .ok (.iload 5, 2) := by decide +kernel
theorem dX4_isAt_56 : decode cX4_isAt 56 = .ok (.invokevirtual 119, 3) := by decide +kernel
theorem dX4_isAt_59 : decode cX4_isAt 59 = .ok (.aload_n 1, 1) := by decide +kernel
theorem dX4_isAt_60 : decode cX4_isAt 60 = .ok (.iload 5, 2) := by decide +kernel
theorem dX4_isAt_62 : decode cX4_isAt 62 = .ok (.invokevirtual 123, 3) := by decide +kernel
theorem dX4_isAt_65 : decode cX4_isAt 65 = .ok (.iload 4, 2) := by decide +kernel
theorem dX4_isAt_67 : decode cX4_isAt 67 = .ok (.imul, 1) := by decide +kernel
theorem dX4_isAt_68 : decode cX4_isAt 68 = .ok (.invokestatic 126, 3) := by decide +kernel
theorem dX4_isAt_71 : decode cX4_isAt 71 = .ok (.ifCond .ne 7, 3) := by decide +kernel
theorem dX4_isAt_74 : decode cX4_isAt 74 = .ok (.iconst 1, 1) := by decide +kernel
theorem dX4_isAt_75 : decode cX4_isAt 75 = .ok (.goto 4, 3) := by decide +kernel
theorem dX4_isAt_78 : decode cX4_isAt 78 = .ok (.iconst 0, 1) := by decide +kernel
theorem dX4_isAt_79 : decode cX4_isAt 79 = .ok (.istore 6, 2) := by decide +kernel
theorem dX4_isAt_81 : decode cX4_isAt 81 = .ok (.iload 6, 2) := by decide +kernel
theorem dX4_isAt_83 : decode cX4_isAt 83 = .ok (.ifCond .ne 25, 3) := by decide +kernel
theorem dX4_isAt_86 : decode cX4_isAt 86 = .ok (.iload_n 3, 1) := by decide +kernel
theorem dX4_isAt_87 : decode cX4_isAt 87 = .ok (.aload_n 1, 1) := by decide +kernel
theorem dX4_isAt_88 : decode cX4_isAt 88 = .ok (.getfield 63, 3) := by decide +kernel
theorem dX4_isAt_91 : decode cX4_isAt 91 = .ok (.iload 5, 2) := by decide +kernel
theorem dX4_isAt_93 : decode cX4_isAt 93 = .ok (.invokevirtual 130, 3) := by decide +kernel
theorem dX4_isAt_96 : decode cX4_isAt 96 = .ok (.iconst 2, 1) := by decide +kernel
theorem dX4_isAt_97 : decode cX4_isAt 97 = .ok (.iload 4, 2) := by decide +kernel
theorem dX4_isAt_99 : decode cX4_isAt 99 = .ok (.imul, 1) := by decide +kernel
theorem dX4_isAt_100 : decode cX4_isAt 100 = .ok (.invokestatic 126, 3) := by decide +kernel
theorem dX4_isAt_103 : decode cX4_isAt 103 = .ok (.ifCond .eq 5, 3) := by decide +kernel
theorem dX4_isAt_106 : decode cX4_isAt 106 = .ok (.iconst 1, 1) := by decide +kernel
theorem dX4_isAt_107 : decode cX4_isAt 107 = .ok (.ireturn, 1) := by decide +kernel
theorem dX4_isAt_108 : decode cX4_isAt 108 = .ok (.iinc 5 1, 3) := by decide +kernel
theorem dX4_isAt_111 : decode cX4_isAt 111 = .ok (.goto (-82), 3) := by decide +kernel
theorem dX4_isAt_114 : decode cX4_isAt 114 = .ok (.iconst 0, 1) := by decide +kernel
theorem dX4_isAt_115 : decode cX4_isAt 115 = .ok (.ireturn, 1) := by decide +kernel
set_option maxRecDepth 20000 in
theorem ggX4_isCutAt_X2_cutsOffAt : GoodIn wsX4_isCutAt wsX2_cutsOffAt := goodIn_r _ [7, 8, 9, 10, 11, 12, 13, 14, 15, 16, 6, 17, 32, 33, 34, 35, 36, 37, 38, 39, 40, 41, 42, 43, 44, 45, 46, 47] (by decide +kernel) (by decide +kernel)
set_option maxRecDepth 20000 in
theorem gX4_isCutAt_X2_cutsOffAt : GoodIn wsX4_isCutAt (wsV RX4 136 RX2 yX2_cutsOffAt wsX2_cutsOffAt) := goodIn_app (goodIn_of _ (by decide +kernel)) ggX4_isCutAt_X2_cutsOffAt
theorem dX4_isCutAt_0 : decode cX4_isCutAt 0 = .ok (.aload_n 1, 1) := by decide +kernel
theorem dX4_isCutAt_1 : decode cX4_isCutAt 1 = .ok (.getfield 133, 3) := by decide +kernel
theorem dX4_isCutAt_4 : decode cX4_isCutAt 4 = .ok (.astore 4, 2) := by decide +kernel
theorem dX4_isCutAt_6 : decode cX4_isCutAt 6 = .ok (.aload 4, 2) := by decide +kernel
theorem dX4_isCutAt_8 : decode cX4_isCutAt 8 = .ok (.ifnull 28, 3) := by decide +kernel
theorem dX4_isCutAt_11 : decode cX4_isCutAt 11 = .ok (.aload 4, 2) := by decide +kernel
theorem dX4_isCutAt_13 : decode cX4_isCutAt 13 = .ok (.getfield 63, 3) := by decide +kernel
theorem dX4_isCutAt_16 : decode cX4_isCutAt 16 = .ok (.iload_n 2, 1) := by decide +kernel
theorem dX4_isCutAt_17 : decode cX4_isCutAt 17 = .ok (.iload_n 3, 1) := by decide +kernel
theorem dX4_isCutAt_18 : decode cX4_isCutAt 18 = .ok (.invokevirtual 136, 3) := by decide +kernel
theorem dX4_isCutAt_21 : decode cX4_isCutAt 21 = .ok (.ifCond .eq 5, 3) := by decide +kernel
theorem dX4_isCutAt_24 : decode cX4_isCutAt 24 = .ok (.iconst 1, 1) := by decide +kernel
theorem dX4_isCutAt_25 : decode cX4_isCutAt 25 = .ok (.ireturn, 1) := by decide +kernel
theorem dX4_isCutAt_26 : decode cX4_isCutAt 26 = .ok (.aload 4, 2) := by decide +kernel
theorem dX4_isCutAt_28 : decode cX4_isCutAt 28 = .ok (.getfield 133, 3) := by decide +kernel
theorem dX4_isCutAt_31 : decode cX4_isCutAt 31 = .ok (.astore 4, 2) := by decide +kernel
theorem dX4_isCutAt_33 : decode cX4_isCutAt 33 = .ok (.goto (-27), 3) := by decide +kernel
theorem dX4_isCutAt_36 : decode cX4_isCutAt 36 = .ok (.iconst 0, 1) := by decide +kernel
theorem dX4_isCutAt_37 : decode cX4_isCutAt 37 = .ok (.ireturn, 1) := by decide +kernel
set_option maxRecDepth 20000 in
theorem ggX4_wordsSeen_X2_wordLeft : GoodIn wsX4_wordsSeen wsX2_wordLeft := goodIn_r _ [8, 9, 10, 11, 50, 51, 52, 53, 54, 55, 56, 57, 58, 59, 60, 61, 62, 63, 64, 65] (by decide +kernel) (by decide +kernel)
set_option maxRecDepth 20000 in
theorem gX4_wordsSeen_X2_wordLeft : GoodIn wsX4_wordsSeen (wsV RX4 119 RX2 yX2_wordLeft wsX2_wordLeft) := goodIn_app (goodIn_of _ (by decide +kernel)) ggX4_wordsSeen_X2_wordLeft
set_option maxRecDepth 20000 in
theorem ggX4_wordsSeen_X2_wordTop : GoodIn wsX4_wordsSeen wsX2_wordTop := goodIn_r _ [15, 9, 16, 17, 50, 51, 52, 53, 54, 55, 56, 57, 58, 59, 60, 61, 62, 63, 64, 65] (by decide +kernel) (by decide +kernel)
set_option maxRecDepth 20000 in
theorem gX4_wordsSeen_X2_wordTop : GoodIn wsX4_wordsSeen (wsV RX4 130 RX2 yX2_wordTop wsX2_wordTop) := goodIn_app (goodIn_of _ (by decide +kernel)) ggX4_wordsSeen_X2_wordTop
set_option maxRecDepth 20000 in
theorem ggX4_wordsSeen_X4_isCutAt : GoodIn wsX4_wordsSeen wsX4_isCutAt := goodIn_r _ [22, 23, 2, 24, 25, 26, 7, 27, 28, 11, 29, 30, 17, 31, 32, 33, 34, 35, 36, 37, 38, 39, 40, 41, 42, 43, 44, 45, 46, 47, 48, 49, 50, 51, 52, 53, 54, 55, 56, 57, 58, 59, 60, 61, 62, 63, 64, 65] (by decide +kernel) (by decide +kernel)
set_option maxRecDepth 20000 in
theorem gX4_wordsSeen_X4_isCutAt : GoodIn wsX4_wordsSeen (wsV RX4 139 RX4 yX4_isCutAt wsX4_isCutAt) := goodIn_app (goodIn_of _ (by decide +kernel)) ggX4_wordsSeen_X4_isCutAt
theorem dX4_wordsSeen_0 : decode cX4_wordsSeen 0 = .ok (.iconst 0, 1) := by decide +kernel
theorem dX4_wordsSeen_1 : decode cX4_wordsSeen 1 = .ok (.istore_n 2, 1) := by decide +kernel
theorem dX4_wordsSeen_2 : decode cX4_wordsSeen 2 = .ok (.iconst 0, 1) := by decide +kernel
theorem dX4_wordsSeen_3 : decode cX4_wordsSeen 3 = .ok (.istore_n 3, 1) := by decide +kernel
theorem dX4_wordsSeen_4 : decode cX4_wordsSeen 4 = .ok (.iload_n 3, 1) := by decide +kernel
theorem dX4_wordsSeen_5 : decode cX4_wordsSeen 5 = .ok (.aload_n 1, 1) := by decide +kernel
theorem dX4_wordsSeen_6 : decode cX4_wordsSeen 6 = .ok (.getfield 113, 3) := by decide +kernel
theorem dX4_wordsSeen_9 : decode cX4_wordsSeen 9 = .ok (.if_icmp .ge 47, 3) := by decide +kernel
theorem dX4_wordsSeen_12 : decode cX4_wordsSeen 12 = .ok (.aload_n 1, 1) := by decide +kernel
theorem dX4_wordsSeen_13 : decode cX4_wordsSeen 13 = .ok (.getfield 63, 3) := by decide +kernel
theorem dX4_wordsSeen_16 : decode cX4_wordsSeen 16 = .ok (.getfield 116, 3) := by decide +kernel
theorem dX4_wordsSeen_19 : decode cX4_wordsSeen 19 = .ok (.iconst 1, 1) := by decide +kernel
theorem dX4_wordsSeen_20 : decode cX4_wordsSeen 20 = .ok (.if_icmp .ne 36, 3) := by decide +kernel
theorem dX4_wordsSeen_23 : decode cX4_wordsSeen 23 = .ok (.aload_n 0, 1) := by decide +kernel
theorem dX4_wordsSeen_24 : decode cX4_wordsSeen 24 = .ok (.aload_n 1, 1) := by decide +kernel
theorem dX4_wordsSeen_25 : decode cX4_wordsSeen 25 = .ok (.aload_n 1, 1) := by decide +kernel
theorem dX4_wordsSeen_26 : decode cX4_wordsSeen 26 = .ok (.getfield 63, 3) := by decide +kernel
theorem dX4_wordsSeen_29 : decode cX4_wordsSeen 29 = .ok (.iload_n 3, 1) := by decide +kernel
theorem dX4_wordsSeen_30 : decode cX4_wordsSeen 30 = .ok (.invokevirtual 119, 3) := by decide +kernel
theorem dX4_wordsSeen_33 : decode cX4_wordsSeen 33 = .ok (.aload_n 1, 1) := by decide +kernel
theorem dX4_wordsSeen_34 : decode cX4_wordsSeen 34 = .ok (.getfield 63, 3) := by decide +kernel
theorem dX4_wordsSeen_37 : decode cX4_wordsSeen 37 = .ok (.iload_n 3, 1) := by decide +kernel
theorem dX4_wordsSeen_38 : decode cX4_wordsSeen 38 = .ok (.invokevirtual 130, 3) := by decide +kernel
theorem dX4_wordsSeen_41 : decode cX4_wordsSeen 41 = .ok (.invokevirtual 139, 3) := by decide +kernel
theorem dX4_wordsSeen_44 : decode cX4_wordsSeen 44 = .ok (.ifCond .ne 6, 3) := by decide +kernel
theorem dX4_wordsSeen_47 : decode cX4_wordsSeen 47 = .ok (.iinc 2 1, 3) := by decide +kernel
theorem dX4_wordsSeen_50 : decode cX4_wordsSeen 50 = .ok (.iinc 3 1, 3) := by decide +kernel
theorem dX4_wordsSeen_53 : decode cX4_wordsSeen 53 = .ok (.goto (-49), 3) := by decide +kernel
theorem dX4_wordsSeen_56 : decode cX4_wordsSeen 56 = .ok (.iload_n 2, 1) := by decide +kernel
theorem dX4_wordsSeen_57 : decode cX4_wordsSeen 57 = .ok (.ireturn, 1) := by decide +kernel
set_option maxRecDepth 20000 in
theorem ggX4_prepare_Jx4a65c_size_8abf5 : GoodIn wsX4_prepare wsJx4a65c_size_8abf5 := goodIn_r _ [13, 14, 91, 92, 93] (by decide +kernel) (by decide +kernel)
set_option maxRecDepth 20000 in
theorem gX4_prepare_Jx4a65c_size_8abf5 : GoodIn wsX4_prepare (wsV RX4 143 RJx4a65c yJx4a65c_size_8abf5 wsJx4a65c_size_8abf5) := goodIn_app (goodIn_of _ (by decide +kernel)) ggX4_prepare_Jx4a65c_size_8abf5
set_option maxRecDepth 20000 in
theorem ggX4_prepare_Jx4a65c_get_915e3 : GoodIn wsX4_prepare wsJx4a65c_get_915e3 := goodIn_r _ [18, 14, 19, 20, 21, 22, 23, 24, 25, 26, 27, 28, 29, 12, 30, 31, 91, 92, 93] (by decide +kernel) (by decide +kernel)
set_option maxRecDepth 20000 in
theorem gX4_prepare_Jx4a65c_get_915e3 : GoodIn wsX4_prepare (wsV RX4 149 RJx4a65c yJx4a65c_get_915e3 wsJx4a65c_get_915e3) := goodIn_app (goodIn_of _ (by decide +kernel)) ggX4_prepare_Jx4a65c_get_915e3
set_option maxRecDepth 20000 in
theorem ggX4_prepare_X4_sortFor : GoodIn wsX4_prepare wsX4_sortFor := goodIn_r _ [36, 37, 2, 3, 5, 38, 39, 40, 41, 42, 43, 44, 45, 55, 56, 57, 58, 59, 60, 61, 62, 63, 64, 65, 66, 67, 68, 69, 70, 71, 72, 73, 74, 75, 76, 77, 78, 79, 80, 81, 82, 83, 84, 85, 86, 87, 88, 89, 90, 94, 95, 96] (by decide +kernel) (by decide +kernel)
set_option maxRecDepth 20000 in
theorem gX4_prepare_X4_sortFor : GoodIn wsX4_prepare (wsV RX4 153 RX4 yX4_sortFor wsX4_sortFor) := goodIn_app (goodIn_of _ (by decide +kernel)) ggX4_prepare_X4_sortFor
set_option maxRecDepth 20000 in
theorem ggX4_prepare_X4_homeFor : GoodIn wsX4_prepare wsX4_homeFor := goodIn_r _ [48, 37, 2, 4, 49, 50, 51, 52, 53, 54, 55, 56, 57, 58, 59, 60, 61, 62, 63, 64, 65, 66, 67, 68, 69, 70, 71, 72, 73, 74, 75, 76, 77, 78, 79, 80, 81, 82, 83, 84] (by decide +kernel) (by decide +kernel)
set_option maxRecDepth 20000 in
theorem gX4_prepare_X4_homeFor : GoodIn wsX4_prepare (va_wsS RX4 157 yX4_homeFor wsX4_homeFor) := goodIn_app (goodIn_of _ (by decide +kernel)) ggX4_prepare_X4_homeFor
set_option maxRecDepth 20000 in
theorem ggX4_prepare_X6_of : GoodIn wsX4_prepare wsX6_of := goodIn_r _ [43, 44, 45, 55, 56, 57, 58, 59, 60, 61, 62, 63, 64, 65, 66, 67, 68, 94, 95, 96] (by decide +kernel) (by decide +kernel)
set_option maxRecDepth 20000 in
theorem gX4_prepare_X6_of : GoodIn wsX4_prepare (wsV RX4 110 RX6 yX6_of wsX6_of) := goodIn_app (goodIn_of _ (by decide +kernel)) ggX4_prepare_X6_of
set_option maxRecDepth 20000 in
theorem ggX4_prepare_X2_isBox : GoodIn wsX4_prepare wsX2_isBox := goodIn_r _ [53, 54, 69, 70, 71, 72, 73, 74, 75, 76, 77, 78, 79, 80, 81, 82, 83, 84] (by decide +kernel) (by decide +kernel)
set_option maxRecDepth 20000 in
theorem gX4_prepare_X2_isBox : GoodIn wsX4_prepare (wsV RX4 167 RX2 yX2_isBox wsX2_isBox) := goodIn_app (goodIn_of _ (by decide +kernel)) ggX4_prepare_X2_isBox
theorem dX4_prepare_0 : decode cX4_prepare 0 = .ok (.iconst 0, 1) := by decide +kernel
theorem dX4_prepare_1 : decode cX4_prepare 1 = .ok (.istore_n 2, 1) := by decide +kernel
theorem dX4_prepare_2 : decode cX4_prepare 2 = .ok (.iload_n 2, 1) := by decide +kernel
theorem dX4_prepare_3 : decode cX4_prepare 3 = .ok (.aload_n 1, 1) := by decide +kernel
theorem dX4_prepare_4 : decode cX4_prepare 4 = .ok (.invokevirtual 143, 3) := by decide +kernel
theorem dX4_prepare_7 : decode cX4_prepare 7 = .ok (.if_icmp .ge 119, 3) := by decide +kernel
theorem dX4_prepare_10 : decode cX4_prepare 10 = .ok (.aload_n 1, 1) := by decide +kernel
theorem dX4_prepare_11 : decode cX4_prepare 11 = .ok (.iload_n 2, 1) := by decide +kernel
theorem dX4_prepare_12 : decode cX4_prepare 12 = .ok (.invokevirtual 149, 3) := by decide +kernel
theorem dX4_prepare_15 : decode cX4_prepare 15 = .ok (.checkcast 64, 3) := by decide +kernel
theorem dX4_prepare_18 : decode cX4_prepare 18 = .ok (.astore_n 3, 1) := by decide +kernel
theorem dX4_prepare_19 : decode cX4_prepare 19 = .ok (.aload_n 3, 1) := by decide +kernel
theorem dX4_prepare_20 : decode cX4_prepare 20 = .ok (.getfield 63, 3) := by decide +kernel
theorem dX4_prepare_23 : decode cX4_prepare 23 = .ok (.astore 4, 2) := by decide +kernel
theorem dX4_prepare_25 : decode cX4_prepare 25 = .ok (.aload 4, 2) := by decide +kernel
theorem dX4_prepare_27 : decode cX4_prepare 27 = .ok (.aload_n 0, 1) := by decide +kernel
theorem dX4_prepare_28 : decode cX4_prepare 28 = .ok (.aload_n 3, 1) := by decide +kernel
theorem dX4_prepare_29 : decode cX4_prepare 29 = .ok (.invokevirtual 153, 3) := by decide +kernel
theorem dX4_prepare_32 : decode cX4_prepare 32 = .ok (.putfield 116, 3) := by decide +kernel
theorem dX4_prepare_35 : decode cX4_prepare 35 = .ok (.aload 4, 2) := by decide +kernel
theorem dX4_prepare_37 : decode cX4_prepare 37 = .ok (.aload_n 3, 1) := by decide +kernel
theorem dX4_prepare_38 : decode cX4_prepare 38 = .ok (.invokestatic 157, 3) := by decide +kernel
theorem dX4_prepare_41 : decode cX4_prepare 41 = .ok (.putfield 161, 3) := by decide +kernel
theorem dX4_prepare_44 : decode cX4_prepare 44 = .ok (.aload 4, 2) := by decide +kernel
theorem dX4_prepare_46 : decode cX4_prepare 46 = .ok (.aload_n 0, 1) := by decide +kernel
theorem dX4_prepare_47 : decode cX4_prepare 47 = .ok (.getfield 12, 3) := by decide +kernel
theorem dX4_prepare_50 : decode cX4_prepare 50 = .ok (.aload_n 3, 1) := by decide +kernel
theorem dX4_prepare_51 : decode cX4_prepare 51 = .ok (.iconst 5, 1) := by decide +kernel
theorem dX4_prepare_52 : decode cX4_prepare 52 = .ok (.invokevirtual 110, 3) := by decide +kernel
theorem dX4_prepare_55 : decode cX4_prepare 55 = .ok (.aload_n 0, 1) := by decide +kernel
theorem dX4_prepare_56 : decode cX4_prepare 56 = .ok (.getfield 12, 3) := by decide +kernel
theorem dX4_prepare_59 : decode cX4_prepare 59 = .ok (.aload_n 3, 1) := by decide +kernel
theorem dX4_prepare_60 : decode cX4_prepare 60 = .ok (.iconst 4, 1) := by decide +kernel
theorem dX4_prepare_61 : decode cX4_prepare 61 = .ok (.invokevirtual 110, 3) := by decide +kernel
theorem dX4_prepare_64 : decode cX4_prepare 64 = .ok (.iadd, 1) := by decide +kernel
theorem dX4_prepare_65 : decode cX4_prepare 65 = .ok (.putfield 164, 3) := by decide +kernel
theorem dX4_prepare_68 : decode cX4_prepare 68 = .ok (.aload 4, 2) := by decide +kernel
theorem dX4_prepare_70 : decode cX4_prepare 70 = .ok (.aload 4, 2) := by decide +kernel
theorem dX4_prepare_72 : decode cX4_prepare 72 = .ok (.getfield 164, 3) := by decide +kernel
theorem dX4_prepare_75 : decode cX4_prepare 75 = .ok (.aload_n 0, 1) := by decide +kernel
theorem dX4_prepare_76 : decode cX4_prepare 76 = .ok (.getfield 12, 3) := by decide +kernel
theorem dX4_prepare_79 : decode cX4_prepare 79 = .ok (.aload_n 3, 1) := by decide +kernel
theorem dX4_prepare_80 : decode cX4_prepare 80 = .ok (.iconst 3, 1) := by decide +kernel
theorem dX4_prepare_81 : decode cX4_prepare 81 = .ok (.invokevirtual 110, 3) := by decide +kernel
theorem dX4_prepare_84 : decode cX4_prepare 84 = .ok (.iadd, 1) := by decide +kernel
theorem dX4_prepare_85 : decode cX4_prepare 85 = .ok (.putfield 69, 3) := by decide +kernel
theorem dX4_prepare_88 : decode cX4_prepare 88 = .ok (.aload 4, 2) := by decide +kernel
theorem dX4_prepare_90 : decode cX4_prepare 90 = .ok (.aload 4, 2) := by decide +kernel
theorem dX4_prepare_92 : decode cX4_prepare 92 = .ok (.invokevirtual 167, 3) := by decide +kernel
theorem dX4_prepare_95 : decode cX4_prepare 95 = .ok (.ifCond .eq 21, 3) := by decide +kernel
theorem dX4_prepare_98 : decode cX4_prepare 98 = .ok (.aload_n 0, 1) := by decide +kernel
theorem dX4_prepare_99 : decode cX4_prepare 99 = .ok (.getfield 12, 3) := by decide +kernel
theorem dX4_prepare_102 : decode cX4_prepare 102 = .ok (.aload_n 3, 1) := by decide +kernel
theorem dX4_prepare_103 : decode cX4_prepare 103 = .ok (.bipush 11, 2) := by decide +kernel
theorem dX4_prepare_105 : decode cX4_prepare 105 = .ok (.invokevirtual 110, 3) := by decide +kernel
theorem dX4_prepare_108 : decode cX4_prepare 108 = .ok (.iconst 1, 1) := by decide +kernel
theorem dX4_prepare_109 : decode cX4_prepare 109 = .ok (.if_icmp .ne 7, 3) := by decide +kernel
theorem dX4_prepare_112 : decode cX4_prepare 112 = .ok (.iconst 1, 1) := by decide +kernel
theorem dX4_prepare_113 : decode cX4_prepare 113 = .ok (.goto 4, 3) := by decide +kernel
theorem dX4_prepare_116 : decode cX4_prepare 116 = .ok (.iconst 0, 1) := by decide +kernel
theorem dX4_prepare_117 : decode cX4_prepare 117 = .ok (.putfield 171, 3) := by decide +kernel
theorem dX4_prepare_120 : decode cX4_prepare 120 = .ok (.iinc 2 1, 3) := by decide +kernel
theorem dX4_prepare_123 : decode cX4_prepare 123 = .ok (.goto (-121), 3) := by decide +kernel
theorem dX4_prepare_126 : decode cX4_prepare 126 = .ok (.return_, 1) := by decide +kernel
set_option maxRecDepth 20000 in
theorem ggX4_sortFor_X6_of : GoodIn wsX4_sortFor wsX6_of := goodIn_r _ [10, 11, 12, 13, 14, 15, 16, 17, 18, 19, 20, 21, 22, 23, 24, 25, 26, 49, 50, 51] (by decide +kernel) (by decide +kernel)
set_option maxRecDepth 20000 in
theorem gX4_sortFor_X6_of : GoodIn wsX4_sortFor (wsV RX4 110 RX6 yX6_of wsX6_of) := goodIn_app (goodIn_of _ (by decide +kernel)) ggX4_sortFor_X6_of
theorem dX4_sortFor_0 : decode cX4_sortFor 0 = .ok (.aload_n 1, 1) := by decide +kernel
theorem dX4_sortFor_1 : decode cX4_sortFor 1 = .ok (.getfield 133, 3) := by decide +kernel
theorem dX4_sortFor_4 : decode cX4_sortFor 4 = .ok (.ifnonnull 5, 3) := by decide +kernel
theorem dX4_sortFor_7 : decode cX4_sortFor 7 = .ok (.iconst 3, 1) := by decide +kernel
theorem dX4_sortFor_8 : decode cX4_sortFor 8 = .ok (.ireturn, 1) := by decide +kernel
theorem dX4_sortFor_9 : decode cX4_sortFor 9 = .ok (.aload_n 1, 1) := by decide +kernel
theorem dX4_sortFor_10 : decode cX4_sortFor 10 = .ok (.getfield 133, 3) := by decide +kernel
theorem dX4_sortFor_13 : decode cX4_sortFor 13 = .ok (.getfield 63, 3) := by decide +kernel
theorem dX4_sortFor_16 : decode cX4_sortFor 16 = .ok (.getfield 116, 3) := by decide +kernel
theorem dX4_sortFor_19 : decode cX4_sortFor 19 = .ok (.ifCond .eq 15, 3) := by decide +kernel
theorem dX4_sortFor_22 : decode cX4_sortFor 22 = .ok (.aload_n 0, 1) := by decide +kernel
theorem dX4_sortFor_23 : decode cX4_sortFor 23 = .ok (.getfield 12, 3) := by decide +kernel
theorem dX4_sortFor_26 : decode cX4_sortFor 26 = .ok (.aload_n 1, 1) := by decide +kernel
theorem dX4_sortFor_27 : decode cX4_sortFor 27 = .ok (.iconst 0, 1) := by decide +kernel
theorem dX4_sortFor_28 : decode cX4_sortFor 28 = .ok (.invokevirtual 110, 3) := by decide +kernel
theorem dX4_sortFor_31 : decode cX4_sortFor 31 = .ok (.ifCond .ne 5, 3) := by decide +kernel
theorem dX4_sortFor_34 : decode cX4_sortFor 34 = .ok (.iconst 0, 1) := by decide +kernel
theorem dX4_sortFor_35 : decode cX4_sortFor 35 = .ok (.ireturn, 1) := by decide +kernel
theorem dX4_sortFor_36 : decode cX4_sortFor 36 = .ok (.aload_n 1, 1) := by decide +kernel
theorem dX4_sortFor_37 : decode cX4_sortFor 37 = .ok (.getfield 175, 3) := by decide +kernel
theorem dX4_sortFor_40 : decode cX4_sortFor 40 = .ok (.ifCond .eq 5, 3) := by decide +kernel
theorem dX4_sortFor_43 : decode cX4_sortFor 43 = .ok (.iconst 1, 1) := by decide +kernel
theorem dX4_sortFor_44 : decode cX4_sortFor 44 = .ok (.ireturn, 1) := by decide +kernel
theorem dX4_sortFor_45 : decode cX4_sortFor 45 = .ok (.aload_n 0, 1) := by decide +kernel
theorem dX4_sortFor_46 : decode cX4_sortFor 46 = .ok (.getfield 12, 3) := by decide +kernel
theorem dX4_sortFor_49 : decode cX4_sortFor 49 = .ok (.aload_n 1, 1) := by decide +kernel
theorem dX4_sortFor_50 : decode cX4_sortFor 50 = .ok (.bipush 6, 2) := by decide +kernel
theorem dX4_sortFor_52 : decode cX4_sortFor 52 = .ok (.invokevirtual 110, 3) := by decide +kernel
theorem dX4_sortFor_55 : decode cX4_sortFor 55 = .ok (.ifCond .eq 5, 3) := by decide +kernel
theorem dX4_sortFor_58 : decode cX4_sortFor 58 = .ok (.iconst 4, 1) := by decide +kernel
theorem dX4_sortFor_59 : decode cX4_sortFor 59 = .ok (.ireturn, 1) := by decide +kernel
theorem dX4_sortFor_60 : decode cX4_sortFor 60 = .ok (.aload_n 0, 1) := by decide +kernel
theorem dX4_sortFor_61 : decode cX4_sortFor 61 = .ok (.getfield 12, 3) := by decide +kernel
theorem dX4_sortFor_64 : decode cX4_sortFor 64 = .ok (.aload_n 1, 1) := by decide +kernel
theorem dX4_sortFor_65 : decode cX4_sortFor 65 = .ok (.iconst 0, 1) := by decide +kernel
theorem dX4_sortFor_66 : decode cX4_sortFor 66 = .ok (.invokevirtual 110, 3) := by decide +kernel
theorem dX4_sortFor_69 : decode cX4_sortFor 69 = .ok (.iconst 1, 1) := by decide +kernel
theorem dX4_sortFor_70 : decode cX4_sortFor 70 = .ok (.if_icmp .ne 7, 3) := by decide +kernel
theorem dX4_sortFor_73 : decode cX4_sortFor 73 = .ok (.iconst 3, 1) := by decide +kernel
theorem dX4_sortFor_74 : decode cX4_sortFor 74 = .ok (.goto 4, 3) := by decide +kernel
theorem dX4_sortFor_77 : decode cX4_sortFor 77 = .ok (.iconst 2, 1) := by decide +kernel
theorem dX4_sortFor_78 : decode cX4_sortFor 78 = .ok (.ireturn, 1) := by decide +kernel
set_option maxRecDepth 20000 in
theorem ggX4_homeFor_X2_isBox : GoodIn wsX4_homeFor wsX2_isBox := goodIn_r _ [8, 9, 24, 25, 26, 27, 28, 29, 30, 31, 32, 33, 34, 35, 36, 37, 38, 39] (by decide +kernel) (by decide +kernel)
set_option maxRecDepth 20000 in
theorem gX4_homeFor_X2_isBox : GoodIn wsX4_homeFor (wsV RX4 167 RX2 yX2_isBox wsX2_isBox) := goodIn_app (goodIn_of _ (by decide +kernel)) ggX4_homeFor_X2_isBox
theorem dX4_homeFor_0 : decode cX4_homeFor 0 = .ok (.aload_n 0, 1) := by decide +kernel
theorem dX4_homeFor_1 : decode cX4_homeFor 1 = .ok (.getfield 133, 3) := by decide +kernel
theorem dX4_homeFor_4 : decode cX4_homeFor 4 = .ok (.ifnonnull 5, 3) := by decide +kernel
theorem dX4_homeFor_7 : decode cX4_homeFor 7 = .ok (.aconst_null, 1) := by decide +kernel
theorem dX4_homeFor_8 : decode cX4_homeFor 8 = .ok (.areturn, 1) := by decide +kernel
theorem dX4_homeFor_9 : decode cX4_homeFor 9 = .ok (.aload_n 0, 1) := by decide +kernel
theorem dX4_homeFor_10 : decode cX4_homeFor 10 = .ok (.getfield 133, 3) := by decide +kernel
theorem dX4_homeFor_13 : decode cX4_homeFor 13 = .ok (.getfield 63, 3) := by decide +kernel
theorem dX4_homeFor_16 : decode cX4_homeFor 16 = .ok (.invokevirtual 167, 3) := by decide +kernel
theorem dX4_homeFor_19 : decode cX4_homeFor 19 = .ok (.ifCond .eq 10, 3) := by decide +kernel
theorem dX4_homeFor_22 : decode cX4_homeFor 22 = .ok (.aload_n 0, 1) := by decide +kernel
theorem dX4_homeFor_23 : decode cX4_homeFor 23 = .ok (.getfield 133, 3) := by decide +kernel
theorem dX4_homeFor_26 : decode cX4_homeFor 26 = .ok (.goto 13, 3) := by decide +kernel
theorem dX4_homeFor_29 : decode cX4_homeFor 29 = .ok (.aload_n 0, 1) := by decide +kernel
theorem dX4_homeFor_30 : decode cX4_homeFor 30 = .ok (.getfield 133, 3) := by decide +kernel
theorem dX4_homeFor_33 : decode cX4_homeFor 33 = .ok (.getfield 63, 3) := by decide +kernel
theorem dX4_homeFor_36 : decode cX4_homeFor 36 = .ok (.getfield 161, 3) := by decide +kernel
theorem dX4_homeFor_39 : decode cX4_homeFor 39 = .ok (.areturn, 1) := by decide +kernel
set_option maxRecDepth 20000 in
theorem ggX4_findWishes_Jx4a65c_size_8abf5 : GoodIn wsX4_findWishes wsJx4a65c_size_8abf5 := goodIn_r _ [7, 8, 90, 91, 92] (by decide +kernel) (by decide +kernel)
set_option maxRecDepth 20000 in
theorem gX4_findWishes_Jx4a65c_size_8abf5 : GoodIn wsX4_findWishes (wsV RX4 143 RJx4a65c yJx4a65c_size_8abf5 wsJx4a65c_size_8abf5) := goodIn_app (goodIn_of _ (by decide +kernel)) ggX4_findWishes_Jx4a65c_size_8abf5
set_option maxRecDepth 20000 in
theorem ggX4_findWishes_Jx4a65c_get_915e3 : GoodIn wsX4_findWishes wsJx4a65c_get_915e3 := goodIn_r _ [12, 8, 13, 14, 15, 16, 17, 18, 19, 20, 21, 22, 23, 6, 24, 25, 90, 91, 92] (by decide +kernel) (by decide +kernel)
set_option maxRecDepth 20000 in
theorem gX4_findWishes_Jx4a65c_get_915e3 : GoodIn wsX4_findWishes (wsV RX4 149 RJx4a65c yJx4a65c_get_915e3 wsJx4a65c_get_915e3) := goodIn_app (goodIn_of _ (by decide +kernel)) ggX4_findWishes_Jx4a65c_get_915e3
set_option maxRecDepth 20000 in
theorem ggX4_findWishes_X2_isBox : GoodIn wsX4_findWishes wsX2_isBox := goodIn_r _ [30, 31, 93, 94, 95, 96, 97, 98, 99, 100, 101, 102, 103, 104, 105, 106, 107, 108] (by decide +kernel) (by decide +kernel)
set_option maxRecDepth 20000 in
theorem gX4_findWishes_X2_isBox : GoodIn wsX4_findWishes (wsV RX4 167 RX2 yX2_isBox wsX2_isBox) := goodIn_app (goodIn_of _ (by decide +kernel)) ggX4_findWishes_X2_isBox
set_option maxRecDepth 20000 in
theorem ggX4_findWishes_X4_findWish : GoodIn wsX4_findWishes wsX4_findWish := goodIn_r _ [36, 37, 38, 39, 1, 2, 40, 41, 42, 43, 44, 45, 46, 3, 4, 5, 6, 7, 8, 9, 10, 11, 12, 13, 14, 15, 16, 17, 18, 19, 20, 21, 22, 23, 24, 25, 26, 27, 28, 29, 30, 31, 47, 48, 49, 35, 50, 51, 52, 53, 54, 55, 56, 57, 58, 59, 60, 61, 62, 63, 64, 65, 66, 67, 68, 69, 70, 71, 72, 73, 74, 75, 76, 77, 78, 79, 80, 81, 82, 83, 84, 85, 86, 87, 88, 89, 109, 110, 111, 112, 113, 93, 94, 95, 96, 97, 98, 99, 100, 101, 102, 103, 104, 105, 106, 107, 108, 90, 91, 92, 114, 115, 116, 117, 118, 119, 120, 121, 122] (by decide +kernel) (by decide +kernel)
set_option maxRecDepth 20000 in
theorem gX4_findWishes_X4_findWish : GoodIn wsX4_findWishes (wsV RX4 178 RX4 yX4_findWish wsX4_findWish) := goodIn_app (goodIn_of _ (by decide +kernel)) ggX4_findWishes_X4_findWish
theorem dX4_findWishes_0 : decode cX4_findWishes 0 = .ok (.aload_n 1, 1) := by decide +kernel
theorem dX4_findWishes_1 : decode cX4_findWishes 1 = .ok (.invokevirtual 143, 3) := by decide +kernel
theorem dX4_findWishes_4 : decode cX4_findWishes 4 = .ok (.iconst 1, 1) := by decide +kernel
theorem dX4_findWishes_5 : decode cX4_findWishes 5 = .ok (.isub, 1) := by decide +kernel
theorem dX4_findWishes_6 : decode cX4_findWishes 6 = .ok (.istore_n 2, 1) := by decide +kernel
theorem dX4_findWishes_7 : decode cX4_findWishes 7 = .ok (.iload_n 2, 1) := by decide +kernel
theorem dX4_findWishes_8 : decode cX4_findWishes 8 = .ok (.ifCond .lt 39, 3) := by decide +kernel
theorem dX4_findWishes_11 : decode cX4_findWishes 11 = .ok (.aload_n 1, 1) := by decide +kernel
theorem dX4_findWishes_12 : decode cX4_findWishes 12 = .ok (.iload_n 2, 1) := by decide +kernel
theorem dX4_findWishes_13 : decode cX4_findWishes 13 = .ok (.invokevirtual 149, 3) := by decide +kernel
theorem dX4_findWishes_16 : decode cX4_findWishes 16 = .ok (.checkcast 64, 3) := by decide +kernel
theorem dX4_findWishes_19 : decode cX4_findWishes 19 = .ok (.getfield 63, 3) := by decide +kernel
theorem dX4_findWishes_22 : decode cX4_findWishes 22 = .ok (.invokevirtual 167, 3) := by decide +kernel
theorem dX4_findWishes_25 : decode cX4_findWishes 25 = .ok (.ifCond .eq 16, 3) := by decide +kernel
theorem dX4_findWishes_28 : decode cX4_findWishes 28 = .ok (.aload_n 0, 1) := by decide +kernel
theorem dX4_findWishes_29 : decode cX4_findWishes 29 = .ok (.aload_n 1, 1) := by decide +kernel
theorem dX4_findWishes_30 : decode cX4_findWishes 30 = .ok (.iload_n 2, 1) := by decide +kernel
theorem dX4_findWishes_31 : decode cX4_findWishes 31 = .ok (.invokevirtual 149, 3) := by decide +kernel
theorem dX4_findWishes_34 : decode cX4_findWishes 34 = .ok (.checkcast 64, 3) := by decide +kernel
theorem dX4_findWishes_37 : decode cX4_findWishes 37 = .ok (.aload_n 1, 1) := by decide +kernel
theorem dX4_findWishes_38 : decode cX4_findWishes 38 = .ok (.invokevirtual 178, 3) := by decide +kernel
theorem dX4_findWishes_41 : decode cX4_findWishes 41 = .ok (.iinc 2 (-1), 3) := by decide +kernel
theorem dX4_findWishes_44 : decode cX4_findWishes 44 = .ok (.goto (-37), 3) := by decide +kernel
theorem dX4_findWishes_47 : decode cX4_findWishes 47 = .ok (.return_, 1) := by decide +kernel
set_option maxRecDepth 20000 in
theorem ggX4_findWish_Jx4a65c_size_8abf5 : GoodIn wsX4_findWish wsJx4a65c_size_8abf5 := goodIn_r _ [17, 18, 107, 108, 109] (by decide +kernel) (by decide +kernel)
set_option maxRecDepth 20000 in
theorem gX4_findWish_Jx4a65c_size_8abf5 : GoodIn wsX4_findWish (wsV RX4 143 RJx4a65c yJx4a65c_size_8abf5 wsJx4a65c_size_8abf5) := goodIn_app (goodIn_of _ (by decide +kernel)) ggX4_findWish_Jx4a65c_size_8abf5
set_option maxRecDepth 20000 in
theorem ggX4_findWish_Jx4a65c_get_915e3 : GoodIn wsX4_findWish wsJx4a65c_get_915e3 := goodIn_r _ [22, 18, 23, 24, 25, 26, 27, 28, 29, 30, 31, 32, 33, 16, 34, 35, 107, 108, 109] (by decide +kernel) (by decide +kernel)
set_option maxRecDepth 20000 in
theorem gX4_findWish_Jx4a65c_get_915e3 : GoodIn wsX4_findWish (wsV RX4 149 RJx4a65c yJx4a65c_get_915e3 wsJx4a65c_get_915e3) := goodIn_app (goodIn_of _ (by decide +kernel)) ggX4_findWish_Jx4a65c_get_915e3
set_option maxRecDepth 20000 in
theorem ggX4_findWish_X2_isBox : GoodIn wsX4_findWish wsX2_isBox := goodIn_r _ [40, 41, 91, 92, 93, 94, 95, 96, 97, 98, 99, 100, 101, 102, 103, 104, 105, 106] (by decide +kernel) (by decide +kernel)
set_option maxRecDepth 20000 in
theorem gX4_findWish_X2_isBox : GoodIn wsX4_findWish (wsV RX4 167 RX2 yX2_isBox wsX2_isBox) := goodIn_app (goodIn_of _ (by decide +kernel)) ggX4_findWish_X2_isBox
set_option maxRecDepth 20000 in
theorem ggX4_findWish_X4_widthOr : GoodIn wsX4_findWish wsX4_widthOr := goodIn_r _ [46, 47, 8, 9, 10, 11, 48, 49, 50, 51, 52, 53, 54, 110, 111, 112, 113, 114, 115, 72, 73, 74, 75, 76, 77, 78, 79, 80, 81, 82, 83, 84, 85, 116, 117, 118] (by decide +kernel) (by decide +kernel)
set_option maxRecDepth 20000 in
theorem gX4_findWish_X4_widthOr : GoodIn wsX4_findWish (wsV RX4 80 RX4 yX4_widthOr wsX4_widthOr) := goodIn_app (goodIn_of _ (by decide +kernel)) ggX4_findWish_X4_widthOr
set_option maxRecDepth 20000 in
theorem ggX4_findWish_X4_addToWish : GoodIn wsX4_findWish wsX4_addToWish := goodIn_r _ [58, 47, 59, 3, 2, 8, 9, 10, 11, 48, 49, 50, 51, 52, 53, 54, 60, 61, 62, 63, 64, 65, 66, 67, 68, 69, 70, 71, 110, 111, 112, 113, 114, 115, 72, 73, 74, 75, 76, 77, 78, 79, 80, 81, 82, 83, 84, 85, 86, 87, 88, 89, 90, 116, 117, 118] (by decide +kernel) (by decide +kernel)
set_option maxRecDepth 20000 in
theorem gX4_findWish_X4_addToWish : GoodIn wsX4_findWish (wsV RX4 193 RX4 yX4_addToWish wsX4_addToWish) := goodIn_app (goodIn_of _ (by decide +kernel)) ggX4_findWish_X4_addToWish
theorem dX4_findWish_0 : decode cX4_findWish 0 = .ok (.aload_n 1, 1) := by decide +kernel
theorem dX4_findWish_1 : decode cX4_findWish 1 = .ok (.getfield 87, 3) := by decide +kernel
theorem dX4_findWish_4 : decode cX4_findWish 4 = .ok (.iconst 0, 1) := by decide +kernel
theorem dX4_findWish_5 : decode cX4_findWish 5 = .ok (.putfield 182, 3) := by decide +kernel
theorem dX4_findWish_8 : decode cX4_findWish 8 = .ok (.aload_n 1, 1) := by decide +kernel
theorem dX4_findWish_9 : decode cX4_findWish 9 = .ok (.getfield 87, 3) := by decide +kernel
theorem dX4_findWish_12 : decode cX4_findWish 12 = .ok (.iconst 0, 1) := by decide +kernel
theorem dX4_findWish_13 : decode cX4_findWish 13 = .ok (.putfield 185, 3) := by decide +kernel
theorem dX4_findWish_16 : decode cX4_findWish 16 = .ok (.iconst 0, 1) := by decide +kernel
theorem dX4_findWish_17 : decode cX4_findWish 17 = .ok (.istore_n 3, 1) := by decide +kernel
theorem dX4_findWish_18 : decode cX4_findWish 18 = .ok (.iload_n 3, 1) := by decide +kernel
theorem dX4_findWish_19 : decode cX4_findWish 19 = .ok (.aload_n 2, 1) := by decide +kernel
theorem dX4_findWish_20 : decode cX4_findWish 20 = .ok (.invokevirtual 143, 3) := by decide +kernel
theorem dX4_findWish_23 : decode cX4_findWish 23 = .ok (.if_icmp .ge 133, 3) := by decide +kernel
theorem dX4_findWish_26 : decode cX4_findWish 26 = .ok (.aload_n 2, 1) := by decide +kernel
theorem dX4_findWish_27 : decode cX4_findWish 27 = .ok (.iload_n 3, 1) := by decide +kernel
theorem dX4_findWish_28 : decode cX4_findWish 28 = .ok (.invokevirtual 149, 3) := by decide +kernel
theorem dX4_findWish_31 : decode cX4_findWish 31 = .ok (.checkcast 64, 3) := by decide +kernel
theorem dX4_findWish_34 : decode cX4_findWish 34 = .ok (.astore 4, 2) := by decide +kernel
theorem dX4_findWish_36 : decode cX4_findWish 36 = .ok (.aload 4, 2) := by decide +kernel
theorem dX4_findWish_38 : decode cX4_findWish 38 = .ok (.getfield 63, 3) := by decide +kernel
theorem dX4_findWish_41 : decode cX4_findWish 41 = .ok (.getfield 161, 3) := by decide +kernel
theorem dX4_findWish_44 : decode cX4_findWish 44 = .ok (.aload_n 1, 1) := by decide +kernel
theorem dX4_findWish_45 : decode cX4_findWish 45 = .ok (.if_acmp .ne 71, 3) := by decide +kernel
theorem dX4_findWish_48 : decode cX4_findWish 48 = .ok (.aload 4, 2) := by decide +kernel
theorem dX4_findWish_50 : decode cX4_findWish 50 = .ok (.getfield 63, 3) := by decide +kernel
theorem dX4_findWish_53 : decode cX4_findWish 53 = .ok (.invokevirtual 167, 3) := by decide +kernel
theorem dX4_findWish_56 : decode cX4_findWish 56 = .ok (.ifCond .eq 60, 3) := by decide +kernel
theorem dX4_findWish_59 : decode cX4_findWish 59 = .ok (.aload_n 0, 1) := by decide +kernel
theorem dX4_findWish_60 : decode cX4_findWish 60 = .ok (.aload 4, 2) := by decide +kernel
theorem dX4_findWish_62 : decode cX4_findWish 62 = .ok (.aload 4, 2) := by decide +kernel
theorem dX4_findWish_64 : decode cX4_findWish 64 = .ok (.getfield 87, 3) := by decide +kernel
theorem dX4_findWish_67 : decode cX4_findWish 67 = .ok (.getfield 182, 3) := by decide +kernel
theorem dX4_findWish_70 : decode cX4_findWish 70 = .ok (.invokevirtual 80, 3) := by decide +kernel
theorem dX4_findWish_73 : decode cX4_findWish 73 = .ok (.iconst 2, 1) := by decide +kernel
theorem dX4_findWish_74 : decode cX4_findWish 74 = .ok (.aload 4, 2) := by decide +kernel
theorem dX4_findWish_76 : decode cX4_findWish 76 = .ok (.getfield 63, 3) := by decide +kernel
theorem dX4_findWish_79 : decode cX4_findWish 79 = .ok (.getfield 69, 3) := by decide +kernel
theorem dX4_findWish_82 : decode cX4_findWish 82 = .ok (.imul, 1) := by decide +kernel
theorem dX4_findWish_83 : decode cX4_findWish 83 = .ok (.iadd, 1) := by decide +kernel
theorem dX4_findWish_84 : decode cX4_findWish 84 = .ok (.istore 5, 2) := by decide +kernel
theorem dX4_findWish_86 : decode cX4_findWish 86 = .ok (.aload_n 1, 1) := by decide +kernel
theorem dX4_findWish_87 : decode cX4_findWish 87 = .ok (.getfield 87, 3) := by decide +kernel
theorem dX4_findWish_90 : decode cX4_findWish 90 = .ok (.aload_n 1, 1) := by decide +kernel
theorem dX4_findWish_91 : decode cX4_findWish 91 = .ok (.getfield 87, 3) := by decide +kernel
theorem dX4_findWish_94 : decode cX4_findWish 94 = .ok (.getfield 182, 3) := by decide +kernel
theorem dX4_findWish_97 : decode cX4_findWish 97 = .ok (.iload 5, 2) := by decide +kernel
theorem dX4_findWish_99 : decode cX4_findWish 99 = .ok (.invokestatic 187, 3) := by decide +kernel
theorem dX4_findWish_102 : decode cX4_findWish 102 = .ok (.putfield 182, 3) := by decide +kernel
theorem dX4_findWish_105 : decode cX4_findWish 105 = .ok (.aload_n 1, 1) := by decide +kernel
theorem dX4_findWish_106 : decode cX4_findWish 106 = .ok (.getfield 87, 3) := by decide +kernel
theorem dX4_findWish_109 : decode cX4_findWish 109 = .ok (.iconst 0, 1) := by decide +kernel
theorem dX4_findWish_110 : decode cX4_findWish 110 = .ok (.putfield 185, 3) := by decide +kernel
theorem dX4_findWish_113 : decode cX4_findWish 113 = .ok (.goto 37, 3) := by decide +kernel
theorem dX4_findWish_116 : decode cX4_findWish 116 = .ok (.aload 4, 2) := by decide +kernel
theorem dX4_findWish_118 : decode cX4_findWish 118 = .ok (.getfield 63, 3) := by decide +kernel
theorem dX4_findWish_121 : decode cX4_findWish 121 = .ok (.getfield 161, 3) := by decide +kernel
theorem dX4_findWish_124 : decode cX4_findWish 124 = .ok (.aload_n 1, 1) := by decide +kernel
theorem dX4_findWish_125 : decode cX4_findWish 125 = .ok (.if_acmp .ne 25, 3) := by decide +kernel
theorem dX4_findWish_128 : decode cX4_findWish 128 = .ok (.aload 4, 2) := by decide +kernel
theorem dX4_findWish_130 : decode cX4_findWish 130 = .ok (.getfield 63, 3) := by decide +kernel
theorem dX4_findWish_133 : decode cX4_findWish 133 = .ok (.getfield 116, 3) := by decide +kernel
theorem dX4_findWish_136 : decode cX4_findWish 136 = .ok (.iconst 1, 1) := by decide +kernel
theorem dX4_findWish_137 : decode cX4_findWish 137 = .ok (.if_icmp .ne 13, 3) := by decide +kernel
theorem dX4_findWish_140 : decode cX4_findWish 140 = .ok (.aload_n 0, 1) := by decide +kernel
theorem dX4_findWish_141 : decode cX4_findWish 141 = .ok (.aload 4, 2) := by decide +kernel
theorem dX4_findWish_143 : decode cX4_findWish 143 = .ok (.aload_n 1, 1) := by decide +kernel
theorem dX4_findWish_144 : decode cX4_findWish 144 = .ok (.getfield 87, 3) := by decide +kernel
theorem dX4_findWish_147 : decode cX4_findWish 147 = .ok (.invokevirtual 193, 3) := by decide +kernel
theorem dX4_findWish_150 : decode cX4_findWish 150 = .ok (.iinc 3 1, 3) := by decide +kernel
theorem dX4_findWish_153 : decode cX4_findWish 153 = .ok (.goto (-135), 3) := by decide +kernel
theorem dX4_findWish_156 : decode cX4_findWish 156 = .ok (.return_, 1) := by decide +kernel
set_option maxRecDepth 20000 in
theorem ggX4_addToWish_X6_of : GoodIn wsX4_addToWish wsX6_of := goodIn_r _ [13, 14, 15, 34, 35, 36, 37, 38, 39, 40, 41, 42, 43, 44, 45, 46, 47, 53, 54, 55] (by decide +kernel) (by decide +kernel)
set_option maxRecDepth 20000 in
theorem gX4_addToWish_X6_of : GoodIn wsX4_addToWish (wsV RX4 110 RX6 yX6_of wsX6_of) := goodIn_app (goodIn_of _ (by decide +kernel)) ggX4_addToWish_X6_of
set_option maxRecDepth 20000 in
theorem ggX4_addToWish_X3_lettersOf : GoodIn wsX4_addToWish wsX3_lettersOf := goodIn_r _ [20, 21, 22, 23, 24, 19, 25, 26, 27, 34, 35, 36, 37, 38, 39, 40, 41, 42, 43, 44, 45, 46, 47] (by decide +kernel) (by decide +kernel)
set_option maxRecDepth 20000 in
theorem gX4_addToWish_X3_lettersOf : GoodIn wsX4_addToWish (wsV RX4 123 RX3 yX3_lettersOf wsX3_lettersOf) := goodIn_app (goodIn_of _ (by decide +kernel)) ggX4_addToWish_X3_lettersOf
theorem dX4_addToWish_0 : decode cX4_addToWish 0 = .ok (.aload_n 0, 1) := by decide +kernel
theorem dX4_addToWish_1 : decode cX4_addToWish 1 = .ok (.getfield 12, 3) := by decide +kernel
theorem dX4_addToWish_4 : decode cX4_addToWish 4 = .ok (.aload_n 1, 1) := by decide +kernel
theorem dX4_addToWish_5 : decode cX4_addToWish 5 = .ok (.bipush 9, 2) := by decide +kernel
theorem dX4_addToWish_7 : decode cX4_addToWish 7 = .ok (.invokevirtual 110, 3) := by decide +kernel
theorem dX4_addToWish_10 : decode cX4_addToWish 10 = .ok (.istore_n 3, 1) := by decide +kernel
theorem dX4_addToWish_11 : decode cX4_addToWish 11 = .ok (.iconst 0, 1) := by decide +kernel
theorem dX4_addToWish_12 : decode cX4_addToWish 12 = .ok (.istore 4, 2) := by decide +kernel
theorem dX4_addToWish_14 : decode cX4_addToWish 14 = .ok (.iload 4, 2) := by decide +kernel
theorem dX4_addToWish_16 : decode cX4_addToWish 16 = .ok (.aload_n 1, 1) := by decide +kernel
theorem dX4_addToWish_17 : decode cX4_addToWish 17 = .ok (.getfield 113, 3) := by decide +kernel
theorem dX4_addToWish_20 : decode cX4_addToWish 20 = .ok (.if_icmp .ge 51, 3) := by decide +kernel
theorem dX4_addToWish_23 : decode cX4_addToWish 23 = .ok (.aload_n 2, 1) := by decide +kernel
theorem dX4_addToWish_24 : decode cX4_addToWish 24 = .ok (.dup, 1) := by decide +kernel
theorem dX4_addToWish_25 : decode cX4_addToWish 25 = .ok (.getfield 185, 3) := by decide +kernel
theorem dX4_addToWish_28 : decode cX4_addToWish 28 = .ok (.aload_n 1, 1) := by decide +kernel
theorem dX4_addToWish_29 : decode cX4_addToWish 29 = .ok (.iload 4, 2) := by decide +kernel
theorem dX4_addToWish_31 : decode cX4_addToWish 31 = .ok (.invokevirtual 123, 3) := by decide +kernel
theorem dX4_addToWish_34 : decode cX4_addToWish 34 = .ok (.iload_n 3, 1) := by decide +kernel
theorem dX4_addToWish_35 : decode cX4_addToWish 35 = .ok (.imul, 1) := by decide +kernel
theorem dX4_addToWish_36 : decode cX4_addToWish 36 = .ok (.iadd, 1) := by decide +kernel
theorem dX4_addToWish_37 : decode cX4_addToWish 37 = .ok (.putfield 185, 3) := by decide +kernel
theorem dX4_addToWish_40 : decode cX4_addToWish 40 = .ok (.aload_n 2, 1) := by decide +kernel
theorem dX4_addToWish_41 : decode cX4_addToWish 41 = .ok (.aload_n 2, 1) := by decide +kernel
theorem dX4_addToWish_42 : decode cX4_addToWish 42 = .ok (.getfield 182, 3) := by decide +kernel
theorem dX4_addToWish_45 : decode cX4_addToWish 45 = .ok (.aload_n 2, 1) := by decide +kernel
theorem dX4_addToWish_46 : decode cX4_addToWish 46 = .ok (.getfield 185, 3) := by decide +kernel
theorem dX4_addToWish_49 : decode cX4_addToWish 49 = .ok (.invokestatic 187, 3) := by decide +kernel
theorem dX4_addToWish_52 : decode cX4_addToWish 52 = .ok (.putfield 182, 3) := by decide +kernel
theorem dX4_addToWish_55 : decode cX4_addToWish 55 = .ok (.aload_n 2, 1) := by decide +kernel
theorem dX4_addToWish_56 : decode cX4_addToWish 56 = .ok (.dup, 1) := by decide +kernel
theorem dX4_addToWish_57 : decode cX4_addToWish 57 = .ok (.getfield 185, 3) := by decide +kernel
theorem dX4_addToWish_60 : decode cX4_addToWish 60 = .ok (.iload_n 3, 1) := by decide +kernel
theorem dX4_addToWish_61 : decode cX4_addToWish 61 = .ok (.iadd, 1) := by decide +kernel
theorem dX4_addToWish_62 : decode cX4_addToWish 62 = .ok (.putfield 185, 3) := by decide +kernel
theorem dX4_addToWish_65 : decode cX4_addToWish 65 = .ok (.iinc 4 1, 3) := by decide +kernel
theorem dX4_addToWish_68 : decode cX4_addToWish 68 = .ok (.goto (-54), 3) := by decide +kernel
theorem dX4_addToWish_71 : decode cX4_addToWish 71 = .ok (.return_, 1) := by decide +kernel
set_option maxRecDepth 20000 in
theorem ggX4_widthOr_X6_of : GoodIn wsX4_widthOr wsX6_of := goodIn_r _ [10, 11, 12, 19, 20, 21, 22, 23, 24, 25, 26, 27, 28, 29, 30, 31, 32, 33, 34, 35] (by decide +kernel) (by decide +kernel)
set_option maxRecDepth 20000 in
theorem gX4_widthOr_X6_of : GoodIn wsX4_widthOr (wsV RX4 110 RX6 yX6_of wsX6_of) := goodIn_app (goodIn_of _ (by decide +kernel)) ggX4_widthOr_X6_of
theorem dX4_widthOr_0 : decode cX4_widthOr 0 = .ok (.aload_n 0, 1) := by decide +kernel
theorem dX4_widthOr_1 : decode cX4_widthOr 1 = .ok (.getfield 12, 3) := by decide +kernel
theorem dX4_widthOr_4 : decode cX4_widthOr 4 = .ok (.aload_n 1, 1) := by decide +kernel
theorem dX4_widthOr_5 : decode cX4_widthOr 5 = .ok (.iconst 1, 1) := by decide +kernel
theorem dX4_widthOr_6 : decode cX4_widthOr 6 = .ok (.invokevirtual 110, 3) := by decide +kernel
theorem dX4_widthOr_9 : decode cX4_widthOr 9 = .ok (.istore_n 3, 1) := by decide +kernel
theorem dX4_widthOr_10 : decode cX4_widthOr 10 = .ok (.iload_n 3, 1) := by decide +kernel
theorem dX4_widthOr_11 : decode cX4_widthOr 11 = .ok (.iconst (-1), 1) := by decide +kernel
theorem dX4_widthOr_12 : decode cX4_widthOr 12 = .ok (.if_icmp .ne 11, 3) := by decide +kernel
theorem dX4_widthOr_15 : decode cX4_widthOr 15 = .ok (.iconst 0, 1) := by decide +kernel
theorem dX4_widthOr_16 : decode cX4_widthOr 16 = .ok (.iload_n 2, 1) := by decide +kernel
theorem dX4_widthOr_17 : decode cX4_widthOr 17 = .ok (.invokestatic 187, 3) := by decide +kernel
theorem dX4_widthOr_20 : decode cX4_widthOr 20 = .ok (.goto 4, 3) := by decide +kernel
theorem dX4_widthOr_23 : decode cX4_widthOr 23 = .ok (.iload_n 3, 1) := by decide +kernel
theorem dX4_widthOr_24 : decode cX4_widthOr 24 = .ok (.ireturn, 1) := by decide +kernel
set_option maxRecDepth 20000 in
theorem ggX4_fill_X4_putFlow : GoodIn wsX4_fill wsX4_putFlow := goodIn_r _ [129, 130, 1, 131, 132, 21, 11, 133, 134, 135, 136, 137, 138, 139, 140, 141, 142, 143, 144, 145, 146, 147, 148, 149, 150, 151, 152, 153, 154, 155, 33, 34, 35, 36, 37, 38, 39, 156, 157, 158, 43, 159, 160, 81, 87, 89, 45, 82, 161, 162, 163, 164, 165, 166, 167, 168, 169, 170, 171, 172, 17, 18, 19, 16, 20, 22, 9, 2, 4, 23, 24, 25, 26, 27, 28, 29, 30, 5, 6, 31, 32, 40, 41, 42, 44, 46, 47, 48, 49, 50, 51, 52, 53, 54, 55, 56, 57, 58, 59, 60, 61, 62, 63, 64, 65, 66, 67, 68, 69, 70, 71, 72, 73, 74, 75, 76, 77, 78, 79, 80, 83, 84, 85, 86, 88, 90, 91, 92, 93, 94, 95, 96, 97, 98, 99, 100, 173, 174, 175, 176, 177, 178, 0, 3, 7, 8, 10, 12, 13, 14, 15, 101, 102, 103, 104, 105, 106, 107, 108, 109, 110, 111, 112, 113, 114, 115, 116, 117, 118, 119, 120, 121, 122, 123, 124, 125, 126, 127, 128, 179, 180, 181, 182, 183, 184, 185, 186, 187, 188, 189, 190, 191, 192, 193, 194, 195, 196, 197, 198, 199, 200, 201, 202, 203, 204, 205, 206, 207, 208, 209, 210, 211, 212, 213, 214, 215, 216, 217, 218, 219, 220, 221, 222, 223, 224, 225, 226, 227, 228, 229, 230, 231, 232, 233, 234, 235, 236, 237, 238, 239, 240, 241, 242] (by decide +kernel) (by decide +kernel)
set_option maxRecDepth 20000 in
theorem gX4_fill_X4_putFlow : GoodIn wsX4_fill (wsV RX4 204 RX4 yX4_putFlow wsX4_putFlow) := goodIn_app (goodIn_of _ (by decide +kernel)) ggX4_fill_X4_putFlow
set_option maxRecDepth 20000 in
theorem ggX4_fill_X4_putLines : GoodIn wsX4_fill wsX4_putLines := goodIn_r _ [20, 11, 21, 22, 9, 2, 4, 23, 24, 25, 26, 27, 28, 29, 30, 5, 1, 6, 31, 32, 33, 34, 35, 36, 37, 38, 39, 40, 41, 42, 43, 44, 45, 46, 47, 48, 49, 50, 51, 52, 53, 54, 55, 56, 57, 58, 59, 60, 61, 62, 63, 64, 65, 66, 67, 68, 69, 70, 71, 72, 73, 74, 75, 76, 77, 78, 79, 80, 81, 82, 83, 84, 85, 86, 87, 88, 89, 90, 91, 92, 93, 94, 95, 96, 97, 98, 99, 100, 214, 215, 216, 217, 218, 219, 220, 221, 222, 223, 224, 225, 226, 179, 180, 181, 182, 183, 184, 185, 186, 187, 188, 189, 190, 191, 192, 209, 210, 211, 212, 213, 227, 228, 229, 230, 231, 232, 233, 234, 235, 236, 193, 194, 195, 196, 197, 198, 199, 200, 201, 202, 203, 204, 205, 206, 207, 208, 237, 238, 239] (by decide +kernel) (by decide +kernel)
set_option maxRecDepth 20000 in
theorem gX4_fill_X4_putLines : GoodIn wsX4_fill (wsV RX4 207 RX4 yX4_putLines wsX4_putLines) := goodIn_app (goodIn_of _ (by decide +kernel)) ggX4_fill_X4_putLines
set_option maxRecDepth 20000 in
theorem ggX4_fill_X0_belowBottoms : GoodIn wsX4_fill wsX0_belowBottoms := goodIn_r _ [104, 61, 62, 70, 66, 72, 27, 28, 29, 227, 228, 229, 230, 231, 232, 233, 234, 235, 236] (by decide +kernel) (by decide +kernel)
set_option maxRecDepth 20000 in
theorem gX4_fill_X0_belowBottoms : GoodIn wsX4_fill (wsV RX4 211 RX0 yX0_belowBottoms wsX0_belowBottoms) := goodIn_app (goodIn_of _ (by decide +kernel)) ggX4_fill_X0_belowBottoms
set_option maxRecDepth 20000 in
theorem ggX4_fill_X6_of : GoodIn wsX4_fill wsX6_of := goodIn_r _ [37, 38, 39, 179, 180, 181, 182, 183, 184, 185, 186, 187, 188, 189, 190, 191, 192, 237, 238, 239] (by decide +kernel) (by decide +kernel)
set_option maxRecDepth 20000 in
theorem gX4_fill_X6_of : GoodIn wsX4_fill (wsV RX4 110 RX6 yX6_of wsX6_of) := goodIn_app (goodIn_of _ (by decide +kernel)) ggX4_fill_X6_of
theorem dX4_fill_0 : decode cX4_fill 0 = .ok (.aload_n 1, 1) := by decide +kernel
theorem dX4_fill_1 : decode cX4_fill 1 = .ok (.getfield 63, 3) := by decide +kernel
theorem dX4_fill_4 : decode cX4_fill 4 = .ok (.astore 4, 2) := by decide +kernel
theorem dX4_fill_6 : decode cX4_fill 6 = .ok (.aload_n 1, 1) := by decide +kernel
theorem dX4_fill_7 : decode cX4_fill 7 = .ok (.getfield 87, 3) := by decide +kernel
theorem dX4_fill_10 : decode cX4_fill 10 = .ok (.aload 4, 2) := by decide +kernel
theorem dX4_fill_12 : decode cX4_fill 12 = .ok (.getfield 77, 3) := by decide +kernel
theorem dX4_fill_15 : decode cX4_fill 15 = .ok (.putfield 197, 3) := by decide +kernel
theorem dX4_fill_18 : decode cX4_fill 18 = .ok (.aload_n 1, 1) := by decide +kernel
theorem dX4_fill_19 : decode cX4_fill 19 = .ok (.getfield 87, 3) := by decide +kernel
theorem dX4_fill_22 : decode cX4_fill 22 = .ok (.iconst 0, 1) := by decide +kernel
theorem dX4_fill_23 : decode cX4_fill 23 = .ok (.putfield 200, 3) := by decide +kernel
theorem dX4_fill_26 : decode cX4_fill 26 = .ok (.aload 4, 2) := by decide +kernel
theorem dX4_fill_28 : decode cX4_fill 28 = .ok (.iconst 0, 1) := by decide +kernel
theorem dX4_fill_29 : decode cX4_fill 29 = .ok (.putfield 203, 3) := by decide +kernel
theorem dX4_fill_32 : decode cX4_fill 32 = .ok (.aload_n 0, 1) := by decide +kernel
theorem dX4_fill_33 : decode cX4_fill 33 = .ok (.aload_n 1, 1) := by decide +kernel
theorem dX4_fill_34 : decode cX4_fill 34 = .ok (.aload_n 2, 1) := by decide +kernel
theorem dX4_fill_35 : decode cX4_fill 35 = .ok (.iload_n 3, 1) := by decide +kernel
theorem dX4_fill_36 : decode cX4_fill 36 = .ok (.invokevirtual 204, 3) := by decide +kernel
theorem dX4_fill_39 : decode cX4_fill 39 = .ok (.aload_n 0, 1) := by decide +kernel
theorem dX4_fill_40 : decode cX4_fill 40 = .ok (.aload_n 1, 1) := by decide +kernel
theorem dX4_fill_41 : decode cX4_fill 41 = .ok (.invokevirtual 207, 3) := by decide +kernel
theorem dX4_fill_44 : decode cX4_fill 44 = .ok (.aload_n 1, 1) := by decide +kernel
theorem dX4_fill_45 : decode cX4_fill 45 = .ok (.getfield 87, 3) := by decide +kernel
theorem dX4_fill_48 : decode cX4_fill 48 = .ok (.getfield 197, 3) := by decide +kernel
theorem dX4_fill_51 : decode cX4_fill 51 = .ok (.istore 5, 2) := by decide +kernel
theorem dX4_fill_53 : decode cX4_fill 53 = .ok (.aload_n 1, 1) := by decide +kernel
theorem dX4_fill_54 : decode cX4_fill 54 = .ok (.getfield 87, 3) := by decide +kernel
theorem dX4_fill_57 : decode cX4_fill 57 = .ok (.getfield 94, 3) := by decide +kernel
theorem dX4_fill_60 : decode cX4_fill 60 = .ok (.aload_n 1, 1) := by decide +kernel
theorem dX4_fill_61 : decode cX4_fill 61 = .ok (.getfield 91, 3) := by decide +kernel
theorem dX4_fill_64 : decode cX4_fill 64 = .ok (.if_icmp .ne 19, 3) := by decide +kernel
theorem dX4_fill_67 : decode cX4_fill 67 = .ok (.aload_n 0, 1) := by decide +kernel
theorem dX4_fill_68 : decode cX4_fill 68 = .ok (.getfield 21, 3) := by decide +kernel
theorem dX4_fill_71 : decode cX4_fill 71 = .ok (.aload_n 1, 1) := by decide +kernel
theorem dX4_fill_72 : decode cX4_fill 72 = .ok (.getfield 91, 3) := by decide +kernel
theorem dX4_fill_75 : decode cX4_fill 75 = .ok (.iconst 3, 1) := by decide +kernel
theorem dX4_fill_76 : decode cX4_fill 76 = .ok (.iload 5, 2) := by decide +kernel
theorem dX4_fill_78 : decode cX4_fill 78 = .ok (.invokevirtual 211, 3) := by decide +kernel
theorem dX4_fill_81 : decode cX4_fill 81 = .ok (.istore 5, 2) := by decide +kernel
theorem dX4_fill_83 : decode cX4_fill 83 = .ok (.aload 4, 2) := by decide +kernel
theorem dX4_fill_85 : decode cX4_fill 85 = .ok (.iload 5, 2) := by decide +kernel
theorem dX4_fill_87 : decode cX4_fill 87 = .ok (.aload 4, 2) := by decide +kernel
theorem dX4_fill_89 : decode cX4_fill 89 = .ok (.getfield 77, 3) := by decide +kernel
theorem dX4_fill_92 : decode cX4_fill 92 = .ok (.isub, 1) := by decide +kernel
theorem dX4_fill_93 : decode cX4_fill 93 = .ok (.putfield 215, 3) := by decide +kernel
theorem dX4_fill_96 : decode cX4_fill 96 = .ok (.aload_n 0, 1) := by decide +kernel
theorem dX4_fill_97 : decode cX4_fill 97 = .ok (.getfield 12, 3) := by decide +kernel
theorem dX4_fill_100 : decode cX4_fill 100 = .ok (.aload_n 1, 1) := by decide +kernel
theorem dX4_fill_101 : decode cX4_fill 101 = .ok (.iconst 2, 1) := by decide +kernel
theorem dX4_fill_102 : decode cX4_fill 102 = .ok (.invokevirtual 110, 3) := by decide +kernel
theorem dX4_fill_105 : decode cX4_fill 105 = .ok (.istore 6, 2) := by decide +kernel
theorem dX4_fill_107 : decode cX4_fill 107 = .ok (.aload 4, 2) := by decide +kernel
theorem dX4_fill_109 : decode cX4_fill 109 = .ok (.iload 6, 2) := by decide +kernel
theorem dX4_fill_111 : decode cX4_fill 111 = .ok (.iconst (-1), 1) := by decide +kernel
theorem dX4_fill_112 : decode cX4_fill 112 = .ok (.if_icmp .ne 11, 3) := by decide +kernel
theorem dX4_fill_115 : decode cX4_fill 115 = .ok (.aload 4, 2) := by decide +kernel
theorem dX4_fill_117 : decode cX4_fill 117 = .ok (.getfield 215, 3) := by decide +kernel
theorem dX4_fill_120 : decode cX4_fill 120 = .ok (.goto 5, 3) := by decide +kernel
theorem dX4_fill_123 : decode cX4_fill 123 = .ok (.iload 6, 2) := by decide +kernel
theorem dX4_fill_125 : decode cX4_fill 125 = .ok (.putfield 218, 3) := by decide +kernel
theorem dX4_fill_128 : decode cX4_fill 128 = .ok (.return_, 1) := by decide +kernel
set_option maxRecDepth 20000 in
theorem ggX4_putFlow_Jx4a65c_size_8abf5 : GoodIn wsX4_putFlow wsJx4a65c_size_8abf5 := goodIn_r _ [11, 12, 240, 241, 242] (by decide +kernel) (by decide +kernel)
set_option maxRecDepth 20000 in
theorem gX4_putFlow_Jx4a65c_size_8abf5 : GoodIn wsX4_putFlow (wsV RX4 143 RJx4a65c yJx4a65c_size_8abf5 wsJx4a65c_size_8abf5) := goodIn_app (goodIn_of _ (by decide +kernel)) ggX4_putFlow_Jx4a65c_size_8abf5
set_option maxRecDepth 20000 in
theorem ggX4_putFlow_Jx4a65c_get_915e3 : GoodIn wsX4_putFlow wsJx4a65c_get_915e3 := goodIn_r _ [16, 12, 17, 18, 19, 20, 21, 22, 23, 24, 25, 26, 27, 10, 28, 29, 240, 241, 242] (by decide +kernel) (by decide +kernel)
set_option maxRecDepth 20000 in
theorem gX4_putFlow_Jx4a65c_get_915e3 : GoodIn wsX4_putFlow (wsV RX4 149 RJx4a65c yJx4a65c_get_915e3 wsJx4a65c_get_915e3) := goodIn_app (goodIn_of _ (by decide +kernel)) ggX4_putFlow_Jx4a65c_get_915e3
set_option maxRecDepth 20000 in
theorem ggX4_putFlow_X6_of : GoodIn wsX4_putFlow wsX6_of := goodIn_r _ [34, 35, 36, 179, 180, 181, 182, 183, 184, 185, 186, 187, 188, 189, 190, 191, 192, 237, 238, 239] (by decide +kernel) (by decide +kernel)
set_option maxRecDepth 20000 in
theorem gX4_putFlow_X6_of : GoodIn wsX4_putFlow (wsV RX4 110 RX6 yX6_of wsX6_of) := goodIn_app (goodIn_of _ (by decide +kernel)) ggX4_putFlow_X6_of
set_option maxRecDepth 20000 in
theorem ggX4_putFlow_X8_add : GoodIn wsX4_putFlow wsX8_add := goodIn_r _ [41, 42, 43, 44, 45, 46, 47, 48, 49, 50, 51, 52, 53, 54, 55, 56, 57, 58, 59, 179, 180, 181, 182, 183, 184, 185, 186, 187, 188, 189, 190, 191, 192, 220, 221, 222, 223, 224, 225, 226] (by decide +kernel) (by decide +kernel)
set_option maxRecDepth 20000 in
theorem gX4_putFlow_X8_add : GoodIn wsX4_putFlow (wsV RX4 221 RX8 yX8_add wsX8_add) := goodIn_app (goodIn_of _ (by decide +kernel)) ggX4_putFlow_X8_add
set_option maxRecDepth 20000 in
theorem ggX4_putFlow_X4_putLines : GoodIn wsX4_putFlow wsX4_putLines := goodIn_r _ [64, 6, 5, 65, 66, 67, 68, 69, 70, 71, 72, 73, 74, 75, 76, 77, 2, 78, 79, 80, 30, 31, 32, 33, 34, 35, 36, 81, 82, 83, 40, 84, 46, 85, 86, 87, 88, 89, 90, 91, 92, 93, 94, 95, 96, 97, 98, 99, 100, 101, 102, 103, 104, 105, 106, 107, 108, 109, 110, 111, 112, 113, 114, 115, 116, 117, 118, 119, 43, 47, 120, 121, 122, 123, 44, 124, 45, 125, 126, 127, 128, 129, 130, 131, 132, 133, 134, 135, 214, 215, 216, 217, 218, 219, 220, 221, 222, 223, 224, 225, 226, 179, 180, 181, 182, 183, 184, 185, 186, 187, 188, 189, 190, 191, 192, 209, 210, 211, 212, 213, 227, 228, 229, 230, 231, 232, 233, 234, 235, 236, 193, 194, 195, 196, 197, 198, 199, 200, 201, 202, 203, 204, 205, 206, 207, 208, 237, 238, 239] (by decide +kernel) (by decide +kernel)
set_option maxRecDepth 20000 in
theorem gX4_putFlow_X4_putLines : GoodIn wsX4_putFlow (wsV RX4 207 RX4 yX4_putLines wsX4_putLines) := goodIn_app (goodIn_of _ (by decide +kernel)) ggX4_putFlow_X4_putLines
set_option maxRecDepth 20000 in
theorem ggX4_putFlow_X4_putBlock : GoodIn wsX4_putFlow wsX4_putBlock := goodIn_r _ [155, 2, 67, 6, 68, 77, 72, 73, 74, 75, 66, 144, 156, 157, 158, 143, 159, 160, 145, 147, 30, 31, 32, 33, 34, 35, 36, 151, 152, 153, 88, 154, 100, 101, 109, 105, 111, 161, 162, 163, 63, 164, 165, 166, 167, 142, 78, 146, 148, 149, 150, 60, 61, 62, 64, 5, 65, 69, 70, 71, 76, 79, 80, 81, 82, 83, 40, 84, 46, 85, 86, 87, 89, 90, 91, 92, 93, 94, 95, 96, 97, 98, 99, 102, 103, 104, 106, 107, 108, 110, 112, 113, 114, 115, 116, 117, 118, 119, 43, 47, 120, 121, 122, 123, 44, 124, 45, 125, 126, 127, 128, 129, 130, 131, 132, 133, 134, 135, 168, 169, 170, 171, 172, 173, 174, 175, 176, 177, 178, 0, 1, 3, 4, 7, 8, 9, 10, 11, 12, 13, 14, 15, 16, 17, 18, 19, 20, 21, 22, 23, 24, 25, 26, 27, 28, 29, 37, 38, 39, 41, 42, 48, 49, 50, 51, 52, 53, 54, 55, 56, 57, 58, 59, 136, 137, 138, 139, 140, 141, 179, 180, 181, 182, 183, 184, 185, 186, 187, 188, 189, 190, 191, 192, 193, 194, 195, 196, 197, 198, 199, 200, 201, 202, 203, 204, 205, 206, 207, 208, 209, 210, 211, 212, 213, 214, 215, 216, 217, 218, 219, 220, 221, 222, 223, 224, 225, 226, 227, 228, 229, 230, 231, 232, 233, 234, 235, 236, 237, 238, 239, 240, 241, 242] (by decide +kernel) (by decide +kernel)
set_option maxRecDepth 20000 in
theorem gX4_putFlow_X4_putBlock : GoodIn wsX4_putFlow (wsV RX4 225 RX4 yX4_putBlock wsX4_putBlock) := goodIn_app (goodIn_of _ (by decide +kernel)) ggX4_putFlow_X4_putBlock
set_option maxRecDepth 20000 in
theorem ggX4_putFlow_X4_putFloat : GoodIn wsX4_putFlow wsX4_putFloat := goodIn_r _ [168, 2, 67, 144, 6, 159, 157, 72, 73, 74, 75, 169, 170, 107, 108, 66, 68, 70, 69, 156, 143, 145, 147, 30, 31, 32, 33, 34, 35, 36, 161, 162, 163, 63, 164, 171, 172, 173, 88, 174, 100, 101, 104, 111, 151, 152, 153, 154, 109, 105, 85, 86, 87, 89, 90, 91, 92, 93, 94, 95, 96, 97, 98, 99, 102, 103, 106, 110, 112, 165, 166, 167, 175, 176, 177, 178, 142, 77, 78, 146, 148, 149, 150, 60, 61, 62, 64, 5, 65, 71, 76, 79, 80, 81, 82, 83, 40, 84, 46, 113, 114, 115, 116, 117, 118, 119, 43, 47, 120, 121, 122, 123, 44, 124, 45, 125, 126, 127, 128, 129, 130, 131, 132, 133, 134, 135, 155, 158, 160, 0, 1, 3, 4, 7, 8, 9, 10, 11, 12, 13, 14, 15, 16, 17, 18, 19, 20, 21, 22, 23, 24, 25, 26, 27, 28, 29, 37, 38, 39, 41, 42, 48, 49, 50, 51, 52, 53, 54, 55, 56, 57, 58, 59, 136, 137, 138, 139, 140, 141, 179, 180, 181, 182, 183, 184, 185, 186, 187, 188, 189, 190, 191, 192, 193, 194, 195, 196, 197, 198, 199, 200, 201, 202, 203, 204, 205, 206, 207, 208, 209, 210, 211, 212, 213, 214, 215, 216, 217, 218, 219, 220, 221, 222, 223, 224, 225, 226, 227, 228, 229, 230, 231, 232, 233, 234, 235, 236, 237, 238, 239, 240, 241, 242] (by decide +kernel) (by decide +kernel)
set_option maxRecDepth 20000 in
theorem gX4_putFlow_X4_putFloat : GoodIn wsX4_putFlow (wsV RX4 229 RX4 yX4_putFloat wsX4_putFloat) := goodIn_app (goodIn_of _ (by decide +kernel)) ggX4_putFlow_X4_putFloat
theorem dX4_putFlow_0 : decode cX4_putFlow 0 = .ok (.iload_n 3, 1) := by decide +kernel
theorem dX4_putFlow_1 : decode cX4_putFlow 1 = .ok (.bipush 10, 2) := by decide +kernel
theorem dX4_putFlow_3 : decode cX4_putFlow 3 = .ok (.if_icmp .le 4, 3) := by decide +kernel
theorem dX4_putFlow_6 : decode cX4_putFlow 6 = .ok (.return_, 1) := by decide +kernel
theorem dX4_putFlow_7 : decode cX4_putFlow 7 = .ok (.iconst 0, 1) := by decide +kernel
theorem dX4_putFlow_8 : decode cX4_putFlow 8 = .ok (.istore 4, 2) := by decide +kernel
theorem dX4_putFlow_10 : decode cX4_putFlow 10 = .ok (.iload 4, 2) := by decide +kernel
theorem dX4_putFlow_12 : decode cX4_putFlow 12 = .ok (.aload_n 2, 1) := by decide +kernel
theorem dX4_putFlow_13 : decode cX4_putFlow 13 = .ok (.invokevirtual 143, 3) := by decide +kernel
theorem dX4_putFlow_16 : decode cX4_putFlow 16 = .ok (.if_icmp .ge 122, 3) := by decide +kernel
theorem dX4_putFlow_19 : decode cX4_putFlow 19 = .ok (.aload_n 2, 1) := by decide +kernel
theorem dX4_putFlow_20 : decode cX4_putFlow 20 = .ok (.iload 4, 2) := by decide +kernel
theorem dX4_putFlow_22 : decode cX4_putFlow 22 = .ok (.invokevirtual 149, 3) := by decide +kernel
