theorem dX0_init_0 : decode cX0_init 0 = .ok (.aload_n 0, 1) := by decide +kernel
theorem dX0_init_1 : decode cX0_init 1 = .ok (.invokespecial 3, 3) := by decide +kernel
theorem dX0_init_4 : decode cX0_init 4 = .ok (.aload_n 0, 1) := by decide +kernel
theorem dX0_init_5 : decode cX0_init 5 = .ok (.bipush 40, 2) := by decide +kernel
theorem dX0_init_7 : decode cX0_init 7 = .ok (.newarray .int, 2) := by decide +kernel
theorem dX0_init_9 : decode cX0_init 9 = .ok (.putfield 9, 3) := by decide +kernel
theorem dX0_init_12 : decode cX0_init 12 = .ok (.aload_n 0, 1) := by decide +kernel
theorem dX0_init_13 : decode cX0_init 13 = .ok (.bipush 40, 2) := by decide +kernel
theorem dX0_init_15 : decode cX0_init 15 = .ok (.newarray .int, 2) := by decide +kernel
theorem dX0_init_17 : decode cX0_init 17 = .ok (.putfield 15, 3) := by decide +kernel
theorem dX0_init_20 : decode cX0_init 20 = .ok (.aload_n 0, 1) := by decide +kernel
theorem dX0_init_21 : decode cX0_init 21 = .ok (.bipush 40, 2) := by decide +kernel
theorem dX0_init_23 : decode cX0_init 23 = .ok (.newarray .int, 2) := by decide +kernel
theorem dX0_init_25 : decode cX0_init 25 = .ok (.putfield 18, 3) := by decide +kernel
theorem dX0_init_28 : decode cX0_init 28 = .ok (.aload_n 0, 1) := by decide +kernel
theorem dX0_init_29 : decode cX0_init 29 = .ok (.bipush 40, 2) := by decide +kernel
theorem dX0_init_31 : decode cX0_init 31 = .ok (.newarray .int, 2) := by decide +kernel
theorem dX0_init_33 : decode cX0_init 33 = .ok (.putfield 21, 3) := by decide +kernel
theorem dX0_init_36 : decode cX0_init 36 = .ok (.aload_n 0, 1) := by decide +kernel
theorem dX0_init_37 : decode cX0_init 37 = .ok (.bipush 40, 2) := by decide +kernel
theorem dX0_init_39 : decode cX0_init 39 = .ok (.newarray .int, 2) := by decide +kernel
theorem dX0_init_41 : decode cX0_init 41 = .ok (.putfield 24, 3) := by decide +kernel
theorem dX0_init_44 : decode cX0_init 44 = .ok (.aload_n 0, 1) := by decide +kernel
theorem dX0_init_45 : decode cX0_init 45 = .ok (.bipush 40, 2) := by decide +kernel
theorem dX0_init_47 : decode cX0_init 47 = .ok (.newarray .int, 2) := by decide +kernel
theorem dX0_init_49 : decode cX0_init 49 = .ok (.putfield 27, 3) := by decide +kernel
theorem dX0_init_52 : decode cX0_init 52 = .ok (.aload_n 0, 1) := by decide +kernel
theorem dX0_init_53 : decode cX0_init 53 = .ok (.iconst 0, 1) := by decide +kernel
theorem dX0_init_54 : decode cX0_init 54 = .ok (.putfield 30, 3) := by decide +kernel
theorem dX0_init_57 : decode cX0_init 57 = .ok (.aload_n 0, 1) := by decide +kernel
theorem dX0_init_58 : decode cX0_init 58 = .ok (.iconst 0, 1) := by decide +kernel
theorem dX0_init_59 : decode cX0_init 59 = .ok (.putfield 34, 3) := by decide +kernel
theorem dX0_init_62 : decode cX0_init 62 = .ok (.aload_n 0, 1) := by decide +kernel
theorem dX0_init_63 : decode cX0_init 63 = .ok (.iconst 0, 1) := by decide +kernel
theorem dX0_init_64 : decode cX0_init 64 = .ok (.putfield 37, 3) := by decide +kernel
theorem dX0_init_67 : decode cX0_init 67 = .ok (.aload_n 0, 1) := by decide +kernel
theorem dX0_init_68 : decode cX0_init 68 = .ok (.iconst 0, 1) := by decide +kernel
theorem dX0_init_69 : decode cX0_init 69 = .ok (.putfield 40, 3) := by decide +kernel
theorem dX0_init_72 : decode cX0_init 72 = .ok (.return_, 1) := by decide +kernel
theorem dX0_clear_0 : decode cX0_clear 0 = .ok (.aload_n 0, 1) := by decide +kernel
theorem dX0_clear_1 : decode cX0_clear 1 = .ok (.iconst 0, 1) := by decide +kernel
theorem dX0_clear_2 : decode cX0_clear 2 = .ok (.putfield 30, 3) := by decide +kernel
theorem dX0_clear_5 : decode cX0_clear 5 = .ok (.return_, 1) := by decide +kernel
theorem dX0_put_0 : decode cX0_put 0 = .ok (.aload_n 0, 1) := by decide +kernel
theorem dX0_put_1 : decode cX0_put 1 = .ok (.getfield 30, 3) := by decide +kernel
theorem dX0_put_4 : decode cX0_put 4 = .ok (.ifCond .lt 12, 3) := by decide +kernel
theorem dX0_put_7 : decode cX0_put 7 = .ok (.aload_n 0, 1) := by decide +kernel
theorem dX0_put_8 : decode cX0_put 8 = .ok (.getfield 30, 3) := by decide +kernel
theorem dX0_put_11 : decode cX0_put 11 = .ok (.bipush 40, 2) := by decide +kernel
theorem dX0_put_13 : decode cX0_put 13 = .ok (.if_icmp .lt 4, 3) := by decide +kernel
theorem dX0_put_16 : decode cX0_put 16 = .ok (.return_, 1) := by decide +kernel
theorem dX0_put_17 : decode cX0_put 17 = .ok (.aload_n 0, 1) := by decide +kernel
theorem dX0_put_18 : decode cX0_put 18 = .ok (.getfield 9, 3) := by decide +kernel
theorem dX0_put_21 : decode cX0_put 21 = .ok (.aload_n 0, 1) := by decide +kernel
theorem dX0_put_22 : decode cX0_put 22 = .ok (.getfield 30, 3) := by decide +kernel
theorem dX0_put_25 : decode cX0_put 25 = .ok (.iload_n 1, 1) := by decide +kernel
theorem dX0_put_26 : decode cX0_put 26 = .ok (.iastore, 1) := by decide +kernel
theorem dX0_put_27 : decode cX0_put 27 = .ok (.aload_n 0, 1) := by decide +kernel
theorem dX0_put_28 : decode cX0_put 28 = .ok (.getfield 15, 3) := by decide +kernel
theorem dX0_put_31 : decode cX0_put 31 = .ok (.aload_n 0, 1) := by decide +kernel
theorem dX0_put_32 : decode cX0_put 32 = .ok (.getfield 30, 3) := by decide +kernel
theorem dX0_put_35 : decode cX0_put 35 = .ok (.iload_n 2, 1) := by decide +kernel
theorem dX0_put_36 : decode cX0_put 36 = .ok (.iastore, 1) := by decide +kernel
theorem dX0_put_37 : decode cX0_put 37 = .ok (.aload_n 0, 1) := by decide +kernel
theorem dX0_put_38 : decode cX0_put 38 = .ok (.getfield 18, 3) := by decide +kernel
theorem dX0_put_41 : decode cX0_put 41 = .ok (.aload_n 0, 1) := by decide +kernel
theorem dX0_put_42 : decode cX0_put 42 = .ok (.getfield 30, 3) := by decide +kernel
theorem dX0_put_45 : decode cX0_put 45 = .ok (.iload_n 3, 1) := by decide +kernel
theorem dX0_put_46 : decode cX0_put 46 = .ok (.iastore, 1) := by decide +kernel
theorem dX0_put_47 : decode cX0_put 47 = .ok (.aload_n 0, 1) := by decide +kernel
theorem dX0_put_48 : decode cX0_put 48 = .ok (.getfield 21, 3) := by decide +kernel
theorem dX0_put_51 : decode cX0_put 51 = .ok (.aload_n 0, 1) := by decide +kernel
theorem dX0_put_52 : decode cX0_put 52 = .ok (.getfield 30, 3) := by decide +kernel
theorem dX0_put_55 : decode cX0_put 55 = .ok (.iload_n 3, 1) := by decide +kernel
theorem dX0_put_56 : decode cX0_put 56 = .ok (.iload 5, 2) := by decide +kernel
theorem dX0_put_58 : decode cX0_put 58 = .ok (.iadd, 1) := by decide +kernel
theorem dX0_put_59 : decode cX0_put 59 = .ok (.iastore, 1) := by decide +kernel
theorem dX0_put_60 : decode cX0_put 60 = .ok (.aload_n 0, 1) := by decide +kernel
theorem dX0_put_61 : decode cX0_put 61 = .ok (.getfield 24, 3) := by decide +kernel
theorem dX0_put_64 : decode cX0_put 64 = .ok (.aload_n 0, 1) := by decide +kernel
theorem dX0_put_65 : decode cX0_put 65 = .ok (.getfield 30, 3) := by decide +kernel
theorem dX0_put_68 : decode cX0_put 68 = .ok (.iload 4, 2) := by decide +kernel
theorem dX0_put_70 : decode cX0_put 70 = .ok (.iastore, 1) := by decide +kernel
theorem dX0_put_71 : decode cX0_put 71 = .ok (.aload_n 0, 1) := by decide +kernel
theorem dX0_put_72 : decode cX0_put 72 = .ok (.getfield 27, 3) := by decide +kernel
theorem dX0_put_75 : decode cX0_put 75 = .ok (.aload_n 0, 1) := by decide +kernel
theorem dX0_put_76 : decode cX0_put 76 = .ok (.getfield 30, 3) := by decide +kernel
theorem dX0_put_79 : decode cX0_put 79 = .ok (.iload 4, 2) := by decide +kernel
theorem dX0_put_81 : decode cX0_put 81 = .ok (.iload 6, 2) := by decide +kernel
theorem dX0_put_83 : decode cX0_put 83 = .ok (.iadd, 1) := by decide +kernel
theorem dX0_put_84 : decode cX0_put 84 = .ok (.iastore, 1) := by decide +kernel
theorem dX0_put_85 : decode cX0_put 85 = .ok (.aload_n 0, 1) := by decide +kernel
theorem dX0_put_86 : decode cX0_put 86 = .ok (.dup, 1) := by decide +kernel
theorem dX0_put_87 : decode cX0_put 87 = .ok (.getfield 30, 3) := by decide +kernel
theorem dX0_put_90 : decode cX0_put 90 = .ok (.iconst 1, 1) := by decide +kernel
theorem dX0_put_91 : decode cX0_put 91 = .ok (.iadd, 1) := by decide +kernel
theorem dX0_put_92 : decode cX0_put 92 = .ok (.putfield 30, 3) := by decide +kernel
theorem dX0_put_95 : decode cX0_put 95 = .ok (.return_, 1) := by decide +kernel
theorem dX0_belowBottoms_0 : decode cX0_belowBottoms 0 = .ok (.iload_n 3, 1) := by decide +kernel
theorem dX0_belowBottoms_1 : decode cX0_belowBottoms 1 = .ok (.istore 4, 2) := by decide +kernel
theorem dX0_belowBottoms_3 : decode cX0_belowBottoms 3 = .ok (.iconst 0, 1) := by decide +kernel
theorem dX0_belowBottoms_4 : decode cX0_belowBottoms 4 = .ok (.istore 5, 2) := by decide +kernel
theorem dX0_belowBottoms_6 : decode cX0_belowBottoms 6 = .ok (.iload 5, 2) := by decide +kernel
theorem dX0_belowBottoms_8 : decode cX0_belowBottoms 8 = .ok (.aload_n 0, 1) := by decide +kernel
theorem dX0_belowBottoms_9 : decode cX0_belowBottoms 9 = .ok (.getfield 30, 3) := by decide +kernel
theorem dX0_belowBottoms_12 : decode cX0_belowBottoms 12 = .ok (.if_icmp .ge 53, 3) := by decide +kernel
theorem dX0_belowBottoms_15 : decode cX0_belowBottoms 15 = .ok (.iload 5, 2) := by decide +kernel
theorem dX0_belowBottoms_17 : decode cX0_belowBottoms 17 = .ok (.bipush 40, 2) := by decide +kernel
theorem dX0_belowBottoms_19 : decode cX0_belowBottoms 19 = .ok (.if_icmp .ge 46, 3) := by decide +kernel
theorem dX0_belowBottoms_22 : decode cX0_belowBottoms 22 = .ok (.aload_n 0, 1) := by decide +kernel
theorem dX0_belowBottoms_23 : decode cX0_belowBottoms 23 = .ok (.getfield 9, 3) := by decide +kernel
theorem dX0_belowBottoms_26 : decode cX0_belowBottoms 26 = .ok (.iload 5, 2) := by decide +kernel
theorem dX0_belowBottoms_28 : decode cX0_belowBottoms 28 = .ok (.iaload, 1) := by decide +kernel
theorem dX0_belowBottoms_29 : decode cX0_belowBottoms 29 = .ok (.iload_n 1, 1) := by decide +kernel
theorem dX0_belowBottoms_30 : decode cX0_belowBottoms 30 = .ok (.if_icmp .ne 29, 3) := by decide +kernel
theorem dX0_belowBottoms_33 : decode cX0_belowBottoms 33 = .ok (.aload_n 0, 1) := by decide +kernel
theorem dX0_belowBottoms_34 : decode cX0_belowBottoms 34 = .ok (.getfield 15, 3) := by decide +kernel
theorem dX0_belowBottoms_37 : decode cX0_belowBottoms 37 = .ok (.iload 5, 2) := by decide +kernel
theorem dX0_belowBottoms_39 : decode cX0_belowBottoms 39 = .ok (.iaload, 1) := by decide +kernel
theorem dX0_belowBottoms_40 : decode cX0_belowBottoms 40 = .ok (.iload_n 2, 1) := by decide +kernel
theorem dX0_belowBottoms_41 : decode cX0_belowBottoms 41 = .ok (.iand, 1) := by decide +kernel
theorem dX0_belowBottoms_42 : decode cX0_belowBottoms 42 = .ok (.ifCond .eq 17, 3) := by decide +kernel
theorem dX0_belowBottoms_45 : decode cX0_belowBottoms 45 = .ok (.iload 4, 2) := by decide +kernel
theorem dX0_belowBottoms_47 : decode cX0_belowBottoms 47 = .ok (.aload_n 0, 1) := by decide +kernel
theorem dX0_belowBottoms_48 : decode cX0_belowBottoms 48 = .ok (.getfield 27, 3) := by decide +kernel
theorem dX0_belowBottoms_51 : decode cX0_belowBottoms 51 = .ok (.iload 5, 2) := by decide +kernel
theorem dX0_belowBottoms_53 : decode cX0_belowBottoms 53 = .ok (.iaload, 1) := by decide +kernel
theorem dX0_belowBottoms_54 : decode cX0_belowBottoms 54 = .ok (.invokestatic 43, 3) := by decide +kernel
theorem dX0_belowBottoms_57 : decode cX0_belowBottoms 57 = .ok (.istore 4, 2) := by decide +kernel
theorem dX0_belowBottoms_59 : decode cX0_belowBottoms 59 = .ok (.iinc 5 1, 3) := by decide +kernel
theorem dX0_belowBottoms_62 : decode cX0_belowBottoms 62 = .ok (.goto (-56), 3) := by decide +kernel
theorem dX0_belowBottoms_65 : decode cX0_belowBottoms 65 = .ok (.iload 4, 2) := by decide +kernel
theorem dX0_belowBottoms_67 : decode cX0_belowBottoms 67 = .ok (.ireturn, 1) := by decide +kernel
theorem dX0_belowTops_0 : decode cX0_belowTops 0 = .ok (.iload_n 2, 1) := by decide +kernel
theorem dX0_belowTops_1 : decode cX0_belowTops 1 = .ok (.istore_n 3, 1) := by decide +kernel
theorem dX0_belowTops_2 : decode cX0_belowTops 2 = .ok (.iconst 0, 1) := by decide +kernel
theorem dX0_belowTops_3 : decode cX0_belowTops 3 = .ok (.istore 4, 2) := by decide +kernel
theorem dX0_belowTops_5 : decode cX0_belowTops 5 = .ok (.iload 4, 2) := by decide +kernel
theorem dX0_belowTops_7 : decode cX0_belowTops 7 = .ok (.aload_n 0, 1) := by decide +kernel
theorem dX0_belowTops_8 : decode cX0_belowTops 8 = .ok (.getfield 30, 3) := by decide +kernel
theorem dX0_belowTops_11 : decode cX0_belowTops 11 = .ok (.if_icmp .ge 39, 3) := by decide +kernel
theorem dX0_belowTops_14 : decode cX0_belowTops 14 = .ok (.iload 4, 2) := by decide +kernel
theorem dX0_belowTops_16 : decode cX0_belowTops 16 = .ok (.bipush 40, 2) := by decide +kernel
theorem dX0_belowTops_18 : decode cX0_belowTops 18 = .ok (.if_icmp .ge 32, 3) := by decide +kernel
theorem dX0_belowTops_21 : decode cX0_belowTops 21 = .ok (.aload_n 0, 1) := by decide +kernel
theorem dX0_belowTops_22 : decode cX0_belowTops 22 = .ok (.getfield 9, 3) := by decide +kernel
theorem dX0_belowTops_25 : decode cX0_belowTops 25 = .ok (.iload 4, 2) := by decide +kernel
theorem dX0_belowTops_27 : decode cX0_belowTops 27 = .ok (.iaload, 1) := by decide +kernel
theorem dX0_belowTops_28 : decode cX0_belowTops 28 = .ok (.iload_n 1, 1) := by decide +kernel
theorem dX0_belowTops_29 : decode cX0_belowTops 29 = .ok (.if_icmp .ne 15, 3) := by decide +kernel
theorem dX0_belowTops_32 : decode cX0_belowTops 32 = .ok (.iload_n 3, 1) := by decide +kernel
theorem dX0_belowTops_33 : decode cX0_belowTops 33 = .ok (.aload_n 0, 1) := by decide +kernel
theorem dX0_belowTops_34 : decode cX0_belowTops 34 = .ok (.getfield 24, 3) := by decide +kernel
theorem dX0_belowTops_37 : decode cX0_belowTops 37 = .ok (.iload 4, 2) := by decide +kernel
theorem dX0_belowTops_39 : decode cX0_belowTops 39 = .ok (.iaload, 1) := by decide +kernel
theorem dX0_belowTops_40 : decode cX0_belowTops 40 = .ok (.invokestatic 43, 3) := by decide +kernel
theorem dX0_belowTops_43 : decode cX0_belowTops 43 = .ok (.istore_n 3, 1) := by decide +kernel
theorem dX0_belowTops_44 : decode cX0_belowTops 44 = .ok (.iinc 4 1, 3) := by decide +kernel
theorem dX0_belowTops_47 : decode cX0_belowTops 47 = .ok (.goto (-42), 3) := by decide +kernel
theorem dX0_belowTops_50 : decode cX0_belowTops 50 = .ok (.iload_n 3, 1) := by decide +kernel
theorem dX0_belowTops_51 : decode cX0_belowTops 51 = .ok (.ireturn, 1) := by decide +kernel
set_option maxRecDepth 20000 in
theorem ggX0_findRoom_X0_look : GoodIn wsX0_findRoom wsX0_look := goodIn_r _ [8, 9, 10, 2, 11, 1, 3, 12, 13, 14, 15, 16, 17, 18, 19, 20, 21, 22, 23, 24, 25, 26, 27, 38, 39, 40, 41, 42, 43, 44, 45, 46, 47, 48, 49, 50, 51, 52, 53, 54, 55, 56, 57, 58, 59, 60, 61, 62, 63, 64, 65, 66, 67, 28, 29, 30, 31, 32, 33, 34, 35, 36, 37, 68, 69, 70, 71, 72] (by decide +kernel) (by decide +kernel)
set_option maxRecDepth 20000 in
theorem gX0_findRoom_X0_look : GoodIn wsX0_findRoom (wsV RX0 49 RX0 yX0_look wsX0_look) := goodIn_app (goodIn_of _ (by decide +kernel)) ggX0_findRoom_X0_look
theorem dX0_findRoom_0 : decode cX0_findRoom 0 = .ok (.iload_n 3, 1) := by decide +kernel
theorem dX0_findRoom_1 : decode cX0_findRoom 1 = .ok (.istore 4, 2) := by decide +kernel
theorem dX0_findRoom_3 : decode cX0_findRoom 3 = .ok (.aload_n 0, 1) := by decide +kernel
theorem dX0_findRoom_4 : decode cX0_findRoom 4 = .ok (.aload_n 2, 1) := by decide +kernel
theorem dX0_findRoom_5 : decode cX0_findRoom 5 = .ok (.iload 4, 2) := by decide +kernel
theorem dX0_findRoom_7 : decode cX0_findRoom 7 = .ok (.invokevirtual 49, 3) := by decide +kernel
theorem dX0_findRoom_10 : decode cX0_findRoom 10 = .ok (.iconst 0, 1) := by decide +kernel
theorem dX0_findRoom_11 : decode cX0_findRoom 11 = .ok (.istore 5, 2) := by decide +kernel
theorem dX0_findRoom_13 : decode cX0_findRoom 13 = .ok (.iload 5, 2) := by decide +kernel
theorem dX0_findRoom_15 : decode cX0_findRoom 15 = .ok (.bipush 40, 2) := by decide +kernel
theorem dX0_findRoom_17 : decode cX0_findRoom 17 = .ok (.if_icmp .ge 44, 3) := by decide +kernel
theorem dX0_findRoom_20 : decode cX0_findRoom 20 = .ok (.iload_n 1, 1) := by decide +kernel
theorem dX0_findRoom_21 : decode cX0_findRoom 21 = .ok (.aload_n 0, 1) := by decide +kernel
theorem dX0_findRoom_22 : decode cX0_findRoom 22 = .ok (.getfield 37, 3) := by decide +kernel
theorem dX0_findRoom_25 : decode cX0_findRoom 25 = .ok (.aload_n 0, 1) := by decide +kernel
theorem dX0_findRoom_26 : decode cX0_findRoom 26 = .ok (.getfield 34, 3) := by decide +kernel
theorem dX0_findRoom_29 : decode cX0_findRoom 29 = .ok (.isub, 1) := by decide +kernel
theorem dX0_findRoom_30 : decode cX0_findRoom 30 = .ok (.if_icmp .le 31, 3) := by decide +kernel
theorem dX0_findRoom_33 : decode cX0_findRoom 33 = .ok (.aload_n 0, 1) := by decide +kernel
theorem dX0_findRoom_34 : decode cX0_findRoom 34 = .ok (.getfield 40, 3) := by decide +kernel
theorem dX0_findRoom_37 : decode cX0_findRoom 37 = .ok (.iload 4, 2) := by decide +kernel
theorem dX0_findRoom_39 : decode cX0_findRoom 39 = .ok (.if_icmp .le 22, 3) := by decide +kernel
theorem dX0_findRoom_42 : decode cX0_findRoom 42 = .ok (.aload_n 0, 1) := by decide +kernel
theorem dX0_findRoom_43 : decode cX0_findRoom 43 = .ok (.getfield 40, 3) := by decide +kernel
theorem dX0_findRoom_46 : decode cX0_findRoom 46 = .ok (.istore 4, 2) := by decide +kernel
theorem dX0_findRoom_48 : decode cX0_findRoom 48 = .ok (.aload_n 0, 1) := by decide +kernel
theorem dX0_findRoom_49 : decode cX0_findRoom 49 = .ok (.aload_n 2, 1) := by decide +kernel
theorem dX0_findRoom_50 : decode cX0_findRoom 50 = .ok (.iload 4, 2) := by decide +kernel
theorem dX0_findRoom_52 : decode cX0_findRoom 52 = .ok (.invokevirtual 49, 3) := by decide +kernel
theorem dX0_findRoom_55 : decode cX0_findRoom 55 = .ok (.iinc 5 1, 3) := by decide +kernel
theorem dX0_findRoom_58 : decode cX0_findRoom 58 = .ok (.goto (-45), 3) := by decide +kernel
theorem dX0_findRoom_61 : decode cX0_findRoom 61 = .ok (.iload 4, 2) := by decide +kernel
theorem dX0_findRoom_63 : decode cX0_findRoom 63 = .ok (.ireturn, 1) := by decide +kernel
theorem dX0_look_0 : decode cX0_look 0 = .ok (.aload_n 0, 1) := by decide +kernel
theorem dX0_look_1 : decode cX0_look 1 = .ok (.aload_n 1, 1) := by decide +kernel
theorem dX0_look_2 : decode cX0_look 2 = .ok (.getfield 53, 3) := by decide +kernel
theorem dX0_look_5 : decode cX0_look 5 = .ok (.getfield 59, 3) := by decide +kernel
theorem dX0_look_8 : decode cX0_look 8 = .ok (.putfield 34, 3) := by decide +kernel
theorem dX0_look_11 : decode cX0_look 11 = .ok (.aload_n 0, 1) := by decide +kernel
theorem dX0_look_12 : decode cX0_look 12 = .ok (.aload_n 1, 1) := by decide +kernel
theorem dX0_look_13 : decode cX0_look 13 = .ok (.getfield 53, 3) := by decide +kernel
theorem dX0_look_16 : decode cX0_look 16 = .ok (.getfield 59, 3) := by decide +kernel
theorem dX0_look_19 : decode cX0_look 19 = .ok (.aload_n 1, 1) := by decide +kernel
theorem dX0_look_20 : decode cX0_look 20 = .ok (.getfield 53, 3) := by decide +kernel
theorem dX0_look_23 : decode cX0_look 23 = .ok (.getfield 64, 3) := by decide +kernel
theorem dX0_look_26 : decode cX0_look 26 = .ok (.iadd, 1) := by decide +kernel
theorem dX0_look_27 : decode cX0_look 27 = .ok (.putfield 37, 3) := by decide +kernel
theorem dX0_look_30 : decode cX0_look 30 = .ok (.aload_n 0, 1) := by decide +kernel
theorem dX0_look_31 : decode cX0_look 31 = .ok (.iload_n 2, 1) := by decide +kernel
theorem dX0_look_32 : decode cX0_look 32 = .ok (.putfield 40, 3) := by decide +kernel
theorem dX0_look_35 : decode cX0_look 35 = .ok (.iconst 0, 1) := by decide +kernel
theorem dX0_look_36 : decode cX0_look 36 = .ok (.istore_n 3, 1) := by decide +kernel
theorem dX0_look_37 : decode cX0_look 37 = .ok (.iload_n 3, 1) := by decide +kernel
theorem dX0_look_38 : decode cX0_look 38 = .ok (.aload_n 0, 1) := by decide +kernel
theorem dX0_look_39 : decode cX0_look 39 = .ok (.getfield 30, 3) := by decide +kernel
theorem dX0_look_42 : decode cX0_look 42 = .ok (.if_icmp .ge 132, 3) := by decide +kernel
theorem dX0_look_45 : decode cX0_look 45 = .ok (.iload_n 3, 1) := by decide +kernel
theorem dX0_look_46 : decode cX0_look 46 = .ok (.bipush 40, 2) := by decide +kernel
theorem dX0_look_48 : decode cX0_look 48 = .ok (.if_icmp .ge 126, 3) := by decide +kernel
theorem dX0_look_51 : decode cX0_look 51 = .ok (.aload_n 0, 1) := by decide +kernel
theorem dX0_look_52 : decode cX0_look 52 = .ok (.getfield 9, 3) := by decide +kernel
theorem dX0_look_55 : decode cX0_look 55 = .ok (.iload_n 3, 1) := by decide +kernel
theorem dX0_look_56 : decode cX0_look 56 = .ok (.iaload, 1) := by decide +kernel
theorem dX0_look_57 : decode cX0_look 57 = .ok (.aload_n 1, 1) := by decide +kernel
theorem dX0_look_58 : decode cX0_look 58 = .ok (.getfield 67, 3) := by decide +kernel
theorem dX0_look_61 : decode cX0_look 61 = .ok (.getfield 71, 3) := by decide +kernel
theorem dX0_look_64 : decode cX0_look 64 = .ok (.if_icmp .ne 104, 3) := by decide +kernel
theorem dX0_look_67 : decode cX0_look 67 = .ok (.iload_n 2, 1) := by decide +kernel
theorem dX0_look_68 : decode cX0_look 68 = .ok (.aload_n 0, 1) := by decide +kernel
theorem dX0_look_69 : decode cX0_look 69 = .ok (.getfield 24, 3) := by decide +kernel
theorem dX0_look_72 : decode cX0_look 72 = .ok (.iload_n 3, 1) := by decide +kernel
theorem dX0_look_73 : decode cX0_look 73 = .ok (.iaload, 1) := by decide +kernel
theorem dX0_look_74 : decode cX0_look 74 = .ok (.if_icmp .lt 94, 3) := by decide +kernel
theorem dX0_look_77 : decode cX0_look 77 = .ok (.iload_n 2, 1) := by decide +kernel
theorem dX0_look_78 : decode cX0_look 78 = .ok (.aload_n 0, 1) := by decide +kernel
theorem dX0_look_79 : decode cX0_look 79 = .ok (.getfield 27, 3) := by decide +kernel
theorem dX0_look_82 : decode cX0_look 82 = .ok (.iload_n 3, 1) := by decide +kernel
theorem dX0_look_83 : decode cX0_look 83 = .ok (.iaload, 1) := by decide +kernel
theorem dX0_look_84 : decode cX0_look 84 = .ok (.if_icmp .ge 84, 3) := by decide +kernel
theorem dX0_look_87 : decode cX0_look 87 = .ok (.aload_n 0, 1) := by decide +kernel
theorem dX0_look_88 : decode cX0_look 88 = .ok (.aload_n 0, 1) := by decide +kernel
theorem dX0_look_89 : decode cX0_look 89 = .ok (.getfield 40, 3) := by decide +kernel
theorem dX0_look_92 : decode cX0_look 92 = .ok (.iload_n 2, 1) := by decide +kernel
theorem dX0_look_93 : decode cX0_look 93 = .ok (.if_icmp .ne 12, 3) := by decide +kernel
theorem dX0_look_96 : decode cX0_look 96 = .ok (.aload_n 0, 1) := by decide +kernel
theorem dX0_look_97 : decode cX0_look 97 = .ok (.getfield 27, 3) := by decide +kernel
theorem dX0_look_100 : decode cX0_look 100 = .ok (.iload_n 3, 1) := by decide +kernel
theorem dX0_look_101 : decode cX0_look 101 = .ok (.iaload, 1) := by decide +kernel
theorem dX0_look_102 : decode cX0_look 102 = .ok (.goto 16, 3) := by decide +kernel
theorem dX0_look_105 : decode cX0_look 105 = .ok (.aload_n 0, 1) := by decide +kernel
theorem dX0_look_106 : decode cX0_look 106 = .ok (.getfield 40, 3) := by decide +kernel
theorem dX0_look_109 : decode cX0_look 109 = .ok (.aload_n 0, 1) := by decide +kernel
theorem dX0_look_110 : decode cX0_look 110 = .ok (.getfield 27, 3) := by decide +kernel
theorem dX0_look_113 : decode cX0_look 113 = .ok (.iload_n 3, 1) := by decide +kernel
theorem dX0_look_114 : decode cX0_look 114 = .ok (.iaload, 1) := by decide +kernel
theorem dX0_look_115 : decode cX0_look 115 = .ok (.invokestatic 76, 3) := by decide +kernel
theorem dX0_look_118 : decode cX0_look 118 = .ok (.putfield 40, 3) := by decide +kernel
theorem dX0_look_121 : decode cX0_look 121 = .ok (.aload_n 0, 1) := by decide +kernel
theorem dX0_look_122 : decode cX0_look 122 = .ok (.getfield 15, 3) := by decide +kernel
theorem dX0_look_125 : decode cX0_look 125 = .ok (.iload_n 3, 1) := by decide +kernel
theorem dX0_look_126 : decode cX0_look 126 = .ok (.iaload, 1) := by decide +kernel
theorem dX0_look_127 : decode cX0_look 127 = .ok (.iconst 1, 1) := by decide +kernel
theorem dX0_look_128 : decode cX0_look 128 = .ok (.if_icmp .ne 23, 3) := by decide +kernel
theorem dX0_look_131 : decode cX0_look 131 = .ok (.aload_n 0, 1) := by decide +kernel
theorem dX0_look_132 : decode cX0_look 132 = .ok (.aload_n 0, 1) := by decide +kernel
theorem dX0_look_133 : decode cX0_look 133 = .ok (.getfield 34, 3) := by decide +kernel
theorem dX0_look_136 : decode cX0_look 136 = .ok (.aload_n 0, 1) := by decide +kernel
theorem dX0_look_137 : decode cX0_look 137 = .ok (.getfield 21, 3) := by decide +kernel
theorem dX0_look_140 : decode cX0_look 140 = .ok (.iload_n 3, 1) := by decide +kernel
theorem dX0_look_141 : decode cX0_look 141 = .ok (.iaload, 1) := by decide +kernel
theorem dX0_look_142 : decode cX0_look 142 = .ok (.invokestatic 43, 3) := by decide +kernel
theorem dX0_look_145 : decode cX0_look 145 = .ok (.putfield 34, 3) := by decide +kernel
theorem dX0_look_148 : decode cX0_look 148 = .ok (.goto 20, 3) := by decide +kernel
theorem dX0_look_151 : decode cX0_look 151 = .ok (.aload_n 0, 1) := by decide +kernel
theorem dX0_look_152 : decode cX0_look 152 = .ok (.aload_n 0, 1) := by decide +kernel
theorem dX0_look_153 : decode cX0_look 153 = .ok (.getfield 37, 3) := by decide +kernel
theorem dX0_look_156 : decode cX0_look 156 = .ok (.aload_n 0, 1) := by decide +kernel
theorem dX0_look_157 : decode cX0_look 157 = .ok (.getfield 18, 3) := by decide +kernel
theorem dX0_look_160 : decode cX0_look 160 = .ok (.iload_n 3, 1) := by decide +kernel
theorem dX0_look_161 : decode cX0_look 161 = .ok (.iaload, 1) := by decide +kernel
theorem dX0_look_162 : decode cX0_look 162 = .ok (.invokestatic 76, 3) := by decide +kernel
theorem dX0_look_165 : decode cX0_look 165 = .ok (.putfield 37, 3) := by decide +kernel
theorem dX0_look_168 : decode cX0_look 168 = .ok (.iinc 3 1, 3) := by decide +kernel
theorem dX0_look_171 : decode cX0_look 171 = .ok (.goto (-134), 3) := by decide +kernel
theorem dX0_look_174 : decode cX0_look 174 = .ok (.return_, 1) := by decide +kernel
theorem dX2_init_0 : decode cX2_init 0 = .ok (.aload_n 0, 1) := by decide +kernel
theorem dX2_init_1 : decode cX2_init 1 = .ok (.invokespecial 3, 3) := by decide +kernel
theorem dX2_init_4 : decode cX2_init 4 = .ok (.aload_n 0, 1) := by decide +kernel
theorem dX2_init_5 : decode cX2_init 5 = .ok (.iconst 0, 1) := by decide +kernel
theorem dX2_init_6 : decode cX2_init 6 = .ok (.putfield 9, 3) := by decide +kernel
theorem dX2_init_9 : decode cX2_init 9 = .ok (.aload_n 0, 1) := by decide +kernel
theorem dX2_init_10 : decode cX2_init 10 = .ok (.aconst_null, 1) := by decide +kernel
theorem dX2_init_11 : decode cX2_init 11 = .ok (.putfield 15, 3) := by decide +kernel
theorem dX2_init_14 : decode cX2_init 14 = .ok (.aload_n 0, 1) := by decide +kernel
theorem dX2_init_15 : decode cX2_init 15 = .ok (.iconst 0, 1) := by decide +kernel
theorem dX2_init_16 : decode cX2_init 16 = .ok (.putfield 19, 3) := by decide +kernel
theorem dX2_init_19 : decode cX2_init 19 = .ok (.aload_n 0, 1) := by decide +kernel
theorem dX2_init_20 : decode cX2_init 20 = .ok (.iconst 0, 1) := by decide +kernel
theorem dX2_init_21 : decode cX2_init 21 = .ok (.putfield 22, 3) := by decide +kernel
theorem dX2_init_24 : decode cX2_init 24 = .ok (.aload_n 0, 1) := by decide +kernel
theorem dX2_init_25 : decode cX2_init 25 = .ok (.iconst 0, 1) := by decide +kernel
theorem dX2_init_26 : decode cX2_init 26 = .ok (.putfield 25, 3) := by decide +kernel
theorem dX2_init_29 : decode cX2_init 29 = .ok (.aload_n 0, 1) := by decide +kernel
theorem dX2_init_30 : decode cX2_init 30 = .ok (.iconst 0, 1) := by decide +kernel
theorem dX2_init_31 : decode cX2_init 31 = .ok (.putfield 29, 3) := by decide +kernel
theorem dX2_init_34 : decode cX2_init 34 = .ok (.aload_n 0, 1) := by decide +kernel
theorem dX2_init_35 : decode cX2_init 35 = .ok (.iconst 0, 1) := by decide +kernel
theorem dX2_init_36 : decode cX2_init 36 = .ok (.putfield 32, 3) := by decide +kernel
theorem dX2_init_39 : decode cX2_init 39 = .ok (.aload_n 0, 1) := by decide +kernel
theorem dX2_init_40 : decode cX2_init 40 = .ok (.iconst 0, 1) := by decide +kernel
theorem dX2_init_41 : decode cX2_init 41 = .ok (.putfield 35, 3) := by decide +kernel
theorem dX2_init_44 : decode cX2_init 44 = .ok (.aload_n 0, 1) := by decide +kernel
theorem dX2_init_45 : decode cX2_init 45 = .ok (.iconst 0, 1) := by decide +kernel
theorem dX2_init_46 : decode cX2_init 46 = .ok (.putfield 38, 3) := by decide +kernel
theorem dX2_init_49 : decode cX2_init 49 = .ok (.aload_n 0, 1) := by decide +kernel
theorem dX2_init_50 : decode cX2_init 50 = .ok (.iconst 0, 1) := by decide +kernel
theorem dX2_init_51 : decode cX2_init 51 = .ok (.putfield 41, 3) := by decide +kernel
theorem dX2_init_54 : decode cX2_init 54 = .ok (.aload_n 0, 1) := by decide +kernel
theorem dX2_init_55 : decode cX2_init 55 = .ok (.iconst 0, 1) := by decide +kernel
theorem dX2_init_56 : decode cX2_init 56 = .ok (.putfield 44, 3) := by decide +kernel
theorem dX2_init_59 : decode cX2_init 59 = .ok (.aload_n 0, 1) := by decide +kernel
theorem dX2_init_60 : decode cX2_init 60 = .ok (.iconst 0, 1) := by decide +kernel
theorem dX2_init_61 : decode cX2_init 61 = .ok (.putfield 47, 3) := by decide +kernel
theorem dX2_init_64 : decode cX2_init 64 = .ok (.aload_n 0, 1) := by decide +kernel
theorem dX2_init_65 : decode cX2_init 65 = .ok (.iconst 0, 1) := by decide +kernel
theorem dX2_init_66 : decode cX2_init 66 = .ok (.putfield 50, 3) := by decide +kernel
theorem dX2_init_69 : decode cX2_init 69 = .ok (.aload_n 0, 1) := by decide +kernel
theorem dX2_init_70 : decode cX2_init 70 = .ok (.iconst 0, 1) := by decide +kernel
theorem dX2_init_71 : decode cX2_init 71 = .ok (.putfield 53, 3) := by decide +kernel
theorem dX2_init_74 : decode cX2_init 74 = .ok (.aload_n 0, 1) := by decide +kernel
theorem dX2_init_75 : decode cX2_init 75 = .ok (.iconst 0, 1) := by decide +kernel
theorem dX2_init_76 : decode cX2_init 76 = .ok (.iload_n 1, 1) := by decide +kernel
theorem dX2_init_77 : decode cX2_init 77 = .ok (.invokestatic 56, 3) := by decide +kernel
theorem dX2_init_80 : decode cX2_init 80 = .ok (.newarray .int, 2) := by decide +kernel
theorem dX2_init_82 : decode cX2_init 82 = .ok (.putfield 62, 3) := by decide +kernel
theorem dX2_init_85 : decode cX2_init 85 = .ok (.aload_n 0, 1) := by decide +kernel
theorem dX2_init_86 : decode cX2_init 86 = .ok (.iconst 0, 1) := by decide +kernel
theorem dX2_init_87 : decode cX2_init 87 = .ok (.iload_n 1, 1) := by decide +kernel
theorem dX2_init_88 : decode cX2_init 88 = .ok (.invokestatic 56, 3) := by decide +kernel
theorem dX2_init_91 : decode cX2_init 91 = .ok (.newarray .int, 2) := by decide +kernel
theorem dX2_init_93 : decode cX2_init 93 = .ok (.putfield 66, 3) := by decide +kernel
theorem dX2_init_96 : decode cX2_init 96 = .ok (.return_, 1) := by decide +kernel
theorem dX2_isBox_0 : decode cX2_isBox 0 = .ok (.aload_n 0, 1) := by decide +kernel
theorem dX2_isBox_1 : decode cX2_isBox 1 = .ok (.getfield 9, 3) := by decide +kernel
theorem dX2_isBox_4 : decode cX2_isBox 4 = .ok (.iconst 3, 1) := by decide +kernel
theorem dX2_isBox_5 : decode cX2_isBox 5 = .ok (.if_icmp .eq 11, 3) := by decide +kernel
theorem dX2_isBox_8 : decode cX2_isBox 8 = .ok (.aload_n 0, 1) := by decide +kernel
theorem dX2_isBox_9 : decode cX2_isBox 9 = .ok (.getfield 9, 3) := by decide +kernel
theorem dX2_isBox_12 : decode cX2_isBox 12 = .ok (.iconst 4, 1) := by decide +kernel
theorem dX2_isBox_13 : decode cX2_isBox 13 = .ok (.if_icmp .ne 7, 3) := by decide +kernel
theorem dX2_isBox_16 : decode cX2_isBox 16 = .ok (.iconst 1, 1) := by decide +kernel
theorem dX2_isBox_17 : decode cX2_isBox 17 = .ok (.goto 4, 3) := by decide +kernel
theorem dX2_isBox_20 : decode cX2_isBox 20 = .ok (.iconst 0, 1) := by decide +kernel
theorem dX2_isBox_21 : decode cX2_isBox 21 = .ok (.ireturn, 1) := by decide +kernel
set_option maxRecDepth 20000 in
theorem ggX2_borderX_X2_isBox : GoodIn wsX2_borderX wsX2_isBox := goodIn_r _ [8, 9, 10, 11, 12, 13, 14, 15, 16, 17, 18, 19, 20, 21, 22, 23, 24, 25] (by decide +kernel) (by decide +kernel)
set_option maxRecDepth 20000 in
theorem gX2_borderX_X2_isBox : GoodIn wsX2_borderX (wsV RX2 69 RX2 yX2_isBox wsX2_isBox) := goodIn_app (goodIn_of _ (by decide +kernel)) ggX2_borderX_X2_isBox
theorem dX2_borderX_0 : decode cX2_borderX 0 = .ok (.aload_n 0, 1) := by decide +kernel
theorem dX2_borderX_1 : decode cX2_borderX 1 = .ok (.invokevirtual 69, 3) := by decide +kernel
theorem dX2_borderX_4 : decode cX2_borderX 4 = .ok (.ifCond .eq 20, 3) := by decide +kernel
theorem dX2_borderX_7 : decode cX2_borderX 7 = .ok (.aload_n 0, 1) := by decide +kernel
theorem dX2_borderX_8 : decode cX2_borderX 8 = .ok (.getfield 29, 3) := by decide +kernel
theorem dX2_borderX_11 : decode cX2_borderX 11 = .ok (.aload_n 0, 1) := by decide +kernel
theorem dX2_borderX_12 : decode cX2_borderX 12 = .ok (.getfield 19, 3) := by decide +kernel
theorem dX2_borderX_15 : decode cX2_borderX 15 = .ok (.isub, 1) := by decide +kernel
theorem dX2_borderX_16 : decode cX2_borderX 16 = .ok (.aload_n 0, 1) := by decide +kernel
theorem dX2_borderX_17 : decode cX2_borderX 17 = .ok (.getfield 47, 3) := by decide +kernel
theorem dX2_borderX_20 : decode cX2_borderX 20 = .ok (.iadd, 1) := by decide +kernel
theorem dX2_borderX_21 : decode cX2_borderX 21 = .ok (.goto 6, 3) := by decide +kernel
theorem dX2_borderX_24 : decode cX2_borderX 24 = .ok (.sipush (-9999), 3) := by decide +kernel
theorem dX2_borderX_27 : decode cX2_borderX 27 = .ok (.ireturn, 1) := by decide +kernel
set_option maxRecDepth 20000 in
theorem ggX2_borderY_X2_isBox : GoodIn wsX2_borderY wsX2_isBox := goodIn_r _ [8, 9, 10, 11, 12, 13, 14, 15, 16, 17, 18, 19, 20, 21, 22, 23, 24, 25] (by decide +kernel) (by decide +kernel)
set_option maxRecDepth 20000 in
theorem gX2_borderY_X2_isBox : GoodIn wsX2_borderY (wsV RX2 69 RX2 yX2_isBox wsX2_isBox) := goodIn_app (goodIn_of _ (by decide +kernel)) ggX2_borderY_X2_isBox
theorem dX2_borderY_0 : decode cX2_borderY 0 = .ok (.aload_n 0, 1) := by decide +kernel
theorem dX2_borderY_1 : decode cX2_borderY 1 = .ok (.invokevirtual 69, 3) := by decide +kernel
theorem dX2_borderY_4 : decode cX2_borderY 4 = .ok (.ifCond .eq 20, 3) := by decide +kernel
theorem dX2_borderY_7 : decode cX2_borderY 7 = .ok (.aload_n 0, 1) := by decide +kernel
theorem dX2_borderY_8 : decode cX2_borderY 8 = .ok (.getfield 32, 3) := by decide +kernel
theorem dX2_borderY_11 : decode cX2_borderY 11 = .ok (.aload_n 0, 1) := by decide +kernel
theorem dX2_borderY_12 : decode cX2_borderY 12 = .ok (.getfield 19, 3) := by decide +kernel
theorem dX2_borderY_15 : decode cX2_borderY 15 = .ok (.isub, 1) := by decide +kernel
theorem dX2_borderY_16 : decode cX2_borderY 16 = .ok (.aload_n 0, 1) := by decide +kernel
theorem dX2_borderY_17 : decode cX2_borderY 17 = .ok (.getfield 50, 3) := by decide +kernel
theorem dX2_borderY_20 : decode cX2_borderY 20 = .ok (.iadd, 1) := by decide +kernel
theorem dX2_borderY_21 : decode cX2_borderY 21 = .ok (.goto 6, 3) := by decide +kernel
theorem dX2_borderY_24 : decode cX2_borderY 24 = .ok (.sipush (-9999), 3) := by decide +kernel
theorem dX2_borderY_27 : decode cX2_borderY 27 = .ok (.ireturn, 1) := by decide +kernel
set_option maxRecDepth 20000 in
theorem ggX2_borderWide_X2_isBox : GoodIn wsX2_borderWide wsX2_isBox := goodIn_r _ [7, 8, 9, 10, 11, 12, 13, 14, 15, 16, 17, 18, 19, 20, 21, 22, 23, 24] (by decide +kernel) (by decide +kernel)
set_option maxRecDepth 20000 in
theorem gX2_borderWide_X2_isBox : GoodIn wsX2_borderWide (wsV RX2 69 RX2 yX2_isBox wsX2_isBox) := goodIn_app (goodIn_of _ (by decide +kernel)) ggX2_borderWide_X2_isBox
theorem dX2_borderWide_0 : decode cX2_borderWide 0 = .ok (.aload_n 0, 1) := by decide +kernel
theorem dX2_borderWide_1 : decode cX2_borderWide 1 = .ok (.invokevirtual 69, 3) := by decide +kernel
theorem dX2_borderWide_4 : decode cX2_borderWide 4 = .ok (.ifCond .eq 17, 3) := by decide +kernel
theorem dX2_borderWide_7 : decode cX2_borderWide 7 = .ok (.aload_n 0, 1) := by decide +kernel
theorem dX2_borderWide_8 : decode cX2_borderWide 8 = .ok (.getfield 35, 3) := by decide +kernel
theorem dX2_borderWide_11 : decode cX2_borderWide 11 = .ok (.iconst 2, 1) := by decide +kernel
theorem dX2_borderWide_12 : decode cX2_borderWide 12 = .ok (.aload_n 0, 1) := by decide +kernel
theorem dX2_borderWide_13 : decode cX2_borderWide 13 = .ok (.getfield 19, 3) := by decide +kernel
theorem dX2_borderWide_16 : decode cX2_borderWide 16 = .ok (.imul, 1) := by decide +kernel
theorem dX2_borderWide_17 : decode cX2_borderWide 17 = .ok (.iadd, 1) := by decide +kernel
theorem dX2_borderWide_18 : decode cX2_borderWide 18 = .ok (.goto 4, 3) := by decide +kernel
theorem dX2_borderWide_21 : decode cX2_borderWide 21 = .ok (.iconst (-1), 1) := by decide +kernel
theorem dX2_borderWide_22 : decode cX2_borderWide 22 = .ok (.ireturn, 1) := by decide +kernel
set_option maxRecDepth 20000 in
theorem ggX2_borderHigh_X2_isBox : GoodIn wsX2_borderHigh wsX2_isBox := goodIn_r _ [7, 8, 9, 10, 11, 12, 13, 14, 15, 16, 17, 18, 19, 20, 21, 22, 23, 24] (by decide +kernel) (by decide +kernel)
set_option maxRecDepth 20000 in
theorem gX2_borderHigh_X2_isBox : GoodIn wsX2_borderHigh (wsV RX2 69 RX2 yX2_isBox wsX2_isBox) := goodIn_app (goodIn_of _ (by decide +kernel)) ggX2_borderHigh_X2_isBox
theorem dX2_borderHigh_0 : decode cX2_borderHigh 0 = .ok (.aload_n 0, 1) := by decide +kernel
theorem dX2_borderHigh_1 : decode cX2_borderHigh 1 = .ok (.invokevirtual 69, 3) := by decide +kernel
theorem dX2_borderHigh_4 : decode cX2_borderHigh 4 = .ok (.ifCond .eq 17, 3) := by decide +kernel
theorem dX2_borderHigh_7 : decode cX2_borderHigh 7 = .ok (.aload_n 0, 1) := by decide +kernel
theorem dX2_borderHigh_8 : decode cX2_borderHigh 8 = .ok (.getfield 38, 3) := by decide +kernel
theorem dX2_borderHigh_11 : decode cX2_borderHigh 11 = .ok (.iconst 2, 1) := by decide +kernel
theorem dX2_borderHigh_12 : decode cX2_borderHigh 12 = .ok (.aload_n 0, 1) := by decide +kernel
theorem dX2_borderHigh_13 : decode cX2_borderHigh 13 = .ok (.getfield 19, 3) := by decide +kernel
theorem dX2_borderHigh_16 : decode cX2_borderHigh 16 = .ok (.imul, 1) := by decide +kernel
theorem dX2_borderHigh_17 : decode cX2_borderHigh 17 = .ok (.iadd, 1) := by decide +kernel
theorem dX2_borderHigh_18 : decode cX2_borderHigh 18 = .ok (.goto 4, 3) := by decide +kernel
theorem dX2_borderHigh_21 : decode cX2_borderHigh 21 = .ok (.iconst (-1), 1) := by decide +kernel
theorem dX2_borderHigh_22 : decode cX2_borderHigh 22 = .ok (.ireturn, 1) := by decide +kernel
set_option maxRecDepth 20000 in
theorem ggX2_reachOrNone_X2_isBox : GoodIn wsX2_reachOrNone wsX2_isBox := goodIn_r _ [6, 7, 8, 9, 10, 11, 12, 13, 14, 15, 16, 17, 18, 19, 20, 21, 22, 23] (by decide +kernel) (by decide +kernel)
set_option maxRecDepth 20000 in
theorem gX2_reachOrNone_X2_isBox : GoodIn wsX2_reachOrNone (wsV RX2 69 RX2 yX2_isBox wsX2_isBox) := goodIn_app (goodIn_of _ (by decide +kernel)) ggX2_reachOrNone_X2_isBox
theorem dX2_reachOrNone_0 : decode cX2_reachOrNone 0 = .ok (.aload_n 0, 1) := by decide +kernel
theorem dX2_reachOrNone_1 : decode cX2_reachOrNone 1 = .ok (.invokevirtual 69, 3) := by decide +kernel
theorem dX2_reachOrNone_4 : decode cX2_reachOrNone 4 = .ok (.ifCond .eq 10, 3) := by decide +kernel
theorem dX2_reachOrNone_7 : decode cX2_reachOrNone 7 = .ok (.aload_n 0, 1) := by decide +kernel
theorem dX2_reachOrNone_8 : decode cX2_reachOrNone 8 = .ok (.getfield 41, 3) := by decide +kernel
theorem dX2_reachOrNone_11 : decode cX2_reachOrNone 11 = .ok (.goto 4, 3) := by decide +kernel
theorem dX2_reachOrNone_14 : decode cX2_reachOrNone 14 = .ok (.iconst (-1), 1) := by decide +kernel
theorem dX2_reachOrNone_15 : decode cX2_reachOrNone 15 = .ok (.ireturn, 1) := by decide +kernel
set_option maxRecDepth 20000 in
theorem ggX2_linesOrNone_X2_isBox : GoodIn wsX2_linesOrNone wsX2_isBox := goodIn_r _ [6, 7, 8, 9, 10, 11, 12, 13, 14, 15, 16, 17, 18, 19, 20, 21, 22, 23] (by decide +kernel) (by decide +kernel)
set_option maxRecDepth 20000 in
theorem gX2_linesOrNone_X2_isBox : GoodIn wsX2_linesOrNone (wsV RX2 69 RX2 yX2_isBox wsX2_isBox) := goodIn_app (goodIn_of _ (by decide +kernel)) ggX2_linesOrNone_X2_isBox
theorem dX2_linesOrNone_0 : decode cX2_linesOrNone 0 = .ok (.aload_n 0, 1) := by decide +kernel
theorem dX2_linesOrNone_1 : decode cX2_linesOrNone 1 = .ok (.invokevirtual 69, 3) := by decide +kernel
theorem dX2_linesOrNone_4 : decode cX2_linesOrNone 4 = .ok (.ifCond .eq 10, 3) := by decide +kernel
theorem dX2_linesOrNone_7 : decode cX2_linesOrNone 7 = .ok (.aload_n 0, 1) := by decide +kernel
theorem dX2_linesOrNone_8 : decode cX2_linesOrNone 8 = .ok (.getfield 44, 3) := by decide +kernel
theorem dX2_linesOrNone_11 : decode cX2_linesOrNone 11 = .ok (.goto 4, 3) := by decide +kernel
theorem dX2_linesOrNone_14 : decode cX2_linesOrNone 14 = .ok (.iconst 0, 1) := by decide +kernel
theorem dX2_linesOrNone_15 : decode cX2_linesOrNone 15 = .ok (.ireturn, 1) := by decide +kernel
theorem dX2_highWithEdges_0 : decode cX2_highWithEdges 0 = .ok (.aload_n 0, 1) := by decide +kernel
theorem dX2_highWithEdges_1 : decode cX2_highWithEdges 1 = .ok (.getfield 38, 3) := by decide +kernel
theorem dX2_highWithEdges_4 : decode cX2_highWithEdges 4 = .ok (.iconst 2, 1) := by decide +kernel
theorem dX2_highWithEdges_5 : decode cX2_highWithEdges 5 = .ok (.aload_n 0, 1) := by decide +kernel
theorem dX2_highWithEdges_6 : decode cX2_highWithEdges 6 = .ok (.getfield 22, 3) := by decide +kernel
theorem dX2_highWithEdges_9 : decode cX2_highWithEdges 9 = .ok (.imul, 1) := by decide +kernel
theorem dX2_highWithEdges_10 : decode cX2_highWithEdges 10 = .ok (.iadd, 1) := by decide +kernel
theorem dX2_highWithEdges_11 : decode cX2_highWithEdges 11 = .ok (.ireturn, 1) := by decide +kernel
set_option maxRecDepth 20000 in
theorem ggX2_hasInBorder_X2_isBox : GoodIn wsX2_hasInBorder wsX2_isBox := goodIn_r _ [5, 6, 33, 34, 35, 36, 37, 38, 39, 40, 41, 42, 43, 44, 45, 46, 47, 48] (by decide +kernel) (by decide +kernel)
set_option maxRecDepth 20000 in
theorem gX2_hasInBorder_X2_isBox : GoodIn wsX2_hasInBorder (wsV RX2 69 RX2 yX2_isBox wsX2_isBox) := goodIn_app (goodIn_of _ (by decide +kernel)) ggX2_hasInBorder_X2_isBox
set_option maxRecDepth 20000 in
theorem ggX2_hasInBorder_X2_borderX : GoodIn wsX2_hasInBorder wsX2_borderX := goodIn_r _ [10, 11, 12, 13, 1, 2, 3, 4, 5, 6, 33, 34, 35, 36, 37, 38, 39, 40, 41, 42, 43, 44, 45, 46, 47, 48] (by decide +kernel) (by decide +kernel)
set_option maxRecDepth 20000 in
theorem gX2_hasInBorder_X2_borderX : GoodIn wsX2_hasInBorder (wsV RX2 73 RX2 yX2_borderX wsX2_borderX) := goodIn_app (goodIn_of _ (by decide +kernel)) ggX2_hasInBorder_X2_borderX
set_option maxRecDepth 20000 in
theorem ggX2_hasInBorder_X2_borderWide : GoodIn wsX2_hasInBorder wsX2_borderWide := goodIn_r _ [17, 18, 12, 1, 2, 3, 4, 5, 6, 33, 34, 35, 36, 37, 38, 39, 40, 41, 42, 43, 44, 45, 46, 47, 48] (by decide +kernel) (by decide +kernel)
set_option maxRecDepth 20000 in
theorem gX2_hasInBorder_X2_borderWide : GoodIn wsX2_hasInBorder (wsV RX2 77 RX2 yX2_borderWide wsX2_borderWide) := goodIn_app (goodIn_of _ (by decide +kernel)) ggX2_hasInBorder_X2_borderWide
set_option maxRecDepth 20000 in
theorem ggX2_hasInBorder_X2_isWithin : GoodIn wsX2_hasInBorder wsX2_isWithin := goodIn_r _ [21] (by decide +kernel) (by decide +kernel)
set_option maxRecDepth 20000 in
theorem gX2_hasInBorder_X2_isWithin : GoodIn wsX2_hasInBorder (va_wsS RX2 80 yX2_isWithin wsX2_isWithin) := goodIn_app (goodIn_of _ (by decide +kernel)) ggX2_hasInBorder_X2_isWithin
set_option maxRecDepth 20000 in
theorem ggX2_hasInBorder_X2_borderY : GoodIn wsX2_hasInBorder wsX2_borderY := goodIn_r _ [25, 26, 12, 27, 1, 2, 3, 4, 5, 6, 33, 34, 35, 36, 37, 38, 39, 40, 41, 42, 43, 44, 45, 46, 47, 48] (by decide +kernel) (by decide +kernel)
set_option maxRecDepth 20000 in
theorem gX2_hasInBorder_X2_borderY : GoodIn wsX2_hasInBorder (wsV RX2 84 RX2 yX2_borderY wsX2_borderY) := goodIn_app (goodIn_of _ (by decide +kernel)) ggX2_hasInBorder_X2_borderY
set_option maxRecDepth 20000 in
theorem ggX2_hasInBorder_X2_borderHigh : GoodIn wsX2_hasInBorder wsX2_borderHigh := goodIn_r _ [31, 32, 12, 1, 2, 3, 4, 5, 6, 33, 34, 35, 36, 37, 38, 39, 40, 41, 42, 43, 44, 45, 46, 47, 48] (by decide +kernel) (by decide +kernel)
set_option maxRecDepth 20000 in
theorem gX2_hasInBorder_X2_borderHigh : GoodIn wsX2_hasInBorder (wsV RX2 87 RX2 yX2_borderHigh wsX2_borderHigh) := goodIn_app (goodIn_of _ (by decide +kernel)) ggX2_hasInBorder_X2_borderHigh
theorem dX2_hasInBorder_0 : decode cX2_hasInBorder 0 = .ok (.aload_n 0, 1) := by decide +kernel
theorem dX2_hasInBorder_1 : decode cX2_hasInBorder 1 = .ok (.invokevirtual 69, 3) := by decide +kernel
theorem dX2_hasInBorder_4 : decode cX2_hasInBorder 4 = .ok (.ifCond .eq 37, 3) := by decide +kernel
theorem dX2_hasInBorder_7 : decode cX2_hasInBorder 7 = .ok (.iload_n 1, 1) := by decide +kernel
theorem dX2_hasInBorder_8 : decode cX2_hasInBorder 8 = .ok (.aload_n 0, 1) := by decide +kernel
theorem dX2_hasInBorder_9 : decode cX2_hasInBorder 9 = .ok (.invokevirtual 73, 3) := by decide +kernel
theorem dX2_hasInBorder_12 : decode cX2_hasInBorder 12 = .ok (.aload_n 0, 1) := by decide +kernel
theorem dX2_hasInBorder_13 : decode cX2_hasInBorder 13 = .ok (.invokevirtual 77, 3) := by decide +kernel
theorem dX2_hasInBorder_16 : decode cX2_hasInBorder 16 = .ok (.invokestatic 80, 3) := by decide +kernel
theorem dX2_hasInBorder_19 : decode cX2_hasInBorder 19 = .ok (.ifCond .eq 22, 3) := by decide +kernel
theorem dX2_hasInBorder_22 : decode cX2_hasInBorder 22 = .ok (.iload_n 2, 1) := by decide +kernel
theorem dX2_hasInBorder_23 : decode cX2_hasInBorder 23 = .ok (.aload_n 0, 1) := by decide +kernel
theorem dX2_hasInBorder_24 : decode cX2_hasInBorder 24 = .ok (.invokevirtual 84, 3) := by decide +kernel
theorem dX2_hasInBorder_27 : decode cX2_hasInBorder 27 = .ok (.aload_n 0, 1) := by decide +kernel
theorem dX2_hasInBorder_28 : decode cX2_hasInBorder 28 = .ok (.invokevirtual 87, 3) := by decide +kernel
theorem dX2_hasInBorder_31 : decode cX2_hasInBorder 31 = .ok (.invokestatic 80, 3) := by decide +kernel
theorem dX2_hasInBorder_34 : decode cX2_hasInBorder 34 = .ok (.ifCond .eq 7, 3) := by decide +kernel
theorem dX2_hasInBorder_37 : decode cX2_hasInBorder 37 = .ok (.iconst 1, 1) := by decide +kernel
theorem dX2_hasInBorder_38 : decode cX2_hasInBorder 38 = .ok (.goto 4, 3) := by decide +kernel
theorem dX2_hasInBorder_41 : decode cX2_hasInBorder 41 = .ok (.iconst 0, 1) := by decide +kernel
theorem dX2_hasInBorder_42 : decode cX2_hasInBorder 42 = .ok (.ireturn, 1) := by decide +kernel
set_option maxRecDepth 20000 in
theorem ggX2_cutsOffAt_X2_isWithin : GoodIn wsX2_cutsOffAt wsX2_isWithin := goodIn_r _ [11] (by decide +kernel) (by decide +kernel)
set_option maxRecDepth 20000 in
theorem gX2_cutsOffAt_X2_isWithin : GoodIn wsX2_cutsOffAt (va_wsS RX2 80 yX2_isWithin wsX2_isWithin) := goodIn_app (goodIn_of _ (by decide +kernel)) ggX2_cutsOffAt_X2_isWithin
theorem dX2_cutsOffAt_0 : decode cX2_cutsOffAt 0 = .ok (.iload_n 1, 1) := by decide +kernel
theorem dX2_cutsOffAt_1 : decode cX2_cutsOffAt 1 = .ok (.aload_n 0, 1) := by decide +kernel
theorem dX2_cutsOffAt_2 : decode cX2_cutsOffAt 2 = .ok (.getfield 29, 3) := by decide +kernel
theorem dX2_cutsOffAt_5 : decode cX2_cutsOffAt 5 = .ok (.aload_n 0, 1) := by decide +kernel
theorem dX2_cutsOffAt_6 : decode cX2_cutsOffAt 6 = .ok (.getfield 47, 3) := by decide +kernel
theorem dX2_cutsOffAt_9 : decode cX2_cutsOffAt 9 = .ok (.iadd, 1) := by decide +kernel
theorem dX2_cutsOffAt_10 : decode cX2_cutsOffAt 10 = .ok (.aload_n 0, 1) := by decide +kernel
theorem dX2_cutsOffAt_11 : decode cX2_cutsOffAt 11 = .ok (.getfield 35, 3) := by decide +kernel
theorem dX2_cutsOffAt_14 : decode cX2_cutsOffAt 14 = .ok (.invokestatic 80, 3) := by decide +kernel
theorem dX2_cutsOffAt_17 : decode cX2_cutsOffAt 17 = .ok (.ifCond .eq 27, 3) := by decide +kernel
theorem dX2_cutsOffAt_20 : decode cX2_cutsOffAt 20 = .ok (.iload_n 2, 1) := by decide +kernel
theorem dX2_cutsOffAt_21 : decode cX2_cutsOffAt 21 = .ok (.aload_n 0, 1) := by decide +kernel
theorem dX2_cutsOffAt_22 : decode cX2_cutsOffAt 22 = .ok (.getfield 32, 3) := by decide +kernel
theorem dX2_cutsOffAt_25 : decode cX2_cutsOffAt 25 = .ok (.aload_n 0, 1) := by decide +kernel
theorem dX2_cutsOffAt_26 : decode cX2_cutsOffAt 26 = .ok (.getfield 50, 3) := by decide +kernel
theorem dX2_cutsOffAt_29 : decode cX2_cutsOffAt 29 = .ok (.iadd, 1) := by decide +kernel
theorem dX2_cutsOffAt_30 : decode cX2_cutsOffAt 30 = .ok (.aload_n 0, 1) := by decide +kernel
theorem dX2_cutsOffAt_31 : decode cX2_cutsOffAt 31 = .ok (.getfield 38, 3) := by decide +kernel
theorem dX2_cutsOffAt_34 : decode cX2_cutsOffAt 34 = .ok (.invokestatic 80, 3) := by decide +kernel
theorem dX2_cutsOffAt_37 : decode cX2_cutsOffAt 37 = .ok (.ifCond .eq 7, 3) := by decide +kernel
theorem dX2_cutsOffAt_40 : decode cX2_cutsOffAt 40 = .ok (.iconst 1, 1) := by decide +kernel
theorem dX2_cutsOffAt_41 : decode cX2_cutsOffAt 41 = .ok (.goto 4, 3) := by decide +kernel
theorem dX2_cutsOffAt_44 : decode cX2_cutsOffAt 44 = .ok (.iconst 0, 1) := by decide +kernel
theorem dX2_cutsOffAt_45 : decode cX2_cutsOffAt 45 = .ok (.istore_n 3, 1) := by decide +kernel
theorem dX2_cutsOffAt_46 : decode cX2_cutsOffAt 46 = .ok (.aload_n 0, 1) := by decide +kernel
theorem dX2_cutsOffAt_47 : decode cX2_cutsOffAt 47 = .ok (.getfield 25, 3) := by decide +kernel
theorem dX2_cutsOffAt_50 : decode cX2_cutsOffAt 50 = .ok (.ifCond .eq 11, 3) := by decide +kernel
theorem dX2_cutsOffAt_53 : decode cX2_cutsOffAt 53 = .ok (.iload_n 3, 1) := by decide +kernel
theorem dX2_cutsOffAt_54 : decode cX2_cutsOffAt 54 = .ok (.ifCond .ne 7, 3) := by decide +kernel
theorem dX2_cutsOffAt_57 : decode cX2_cutsOffAt 57 = .ok (.iconst 1, 1) := by decide +kernel
theorem dX2_cutsOffAt_58 : decode cX2_cutsOffAt 58 = .ok (.goto 4, 3) := by decide +kernel
theorem dX2_cutsOffAt_61 : decode cX2_cutsOffAt 61 = .ok (.iconst 0, 1) := by decide +kernel
theorem dX2_cutsOffAt_62 : decode cX2_cutsOffAt 62 = .ok (.ireturn, 1) := by decide +kernel
theorem dX2_setWord_0 : decode cX2_setWord 0 = .ok (.iload_n 1, 1) := by decide +kernel
theorem dX2_setWord_1 : decode cX2_setWord 1 = .ok (.ifCond .lt 35, 3) := by decide +kernel
theorem dX2_setWord_4 : decode cX2_setWord 4 = .ok (.iload_n 1, 1) := by decide +kernel
theorem dX2_setWord_5 : decode cX2_setWord 5 = .ok (.aload_n 0, 1) := by decide +kernel
theorem dX2_setWord_6 : decode cX2_setWord 6 = .ok (.getfield 62, 3) := by decide +kernel
theorem dX2_setWord_9 : decode cX2_setWord 9 = .ok (.arraylength, 1) := by decide +kernel
theorem dX2_setWord_10 : decode cX2_setWord 10 = .ok (.if_icmp .ge 26, 3) := by decide +kernel
theorem dX2_setWord_13 : decode cX2_setWord 13 = .ok (.iload_n 1, 1) := by decide +kernel
theorem dX2_setWord_14 : decode cX2_setWord 14 = .ok (.aload_n 0, 1) := by decide +kernel
theorem dX2_setWord_15 : decode cX2_setWord 15 = .ok (.getfield 66, 3) := by decide +kernel
theorem dX2_setWord_18 : decode cX2_setWord 18 = .ok (.arraylength, 1) := by decide +kernel
theorem dX2_setWord_19 : decode cX2_setWord 19 = .ok (.if_icmp .ge 17, 3) := by decide +kernel
theorem dX2_setWord_22 : decode cX2_setWord 22 = .ok (.aload_n 0, 1) := by decide +kernel
theorem dX2_setWord_23 : decode cX2_setWord 23 = .ok (.getfield 62, 3) := by decide +kernel
theorem dX2_setWord_26 : decode cX2_setWord 26 = .ok (.iload_n 1, 1) := by decide +kernel
theorem dX2_setWord_27 : decode cX2_setWord 27 = .ok (.iload_n 2, 1) := by decide +kernel
theorem dX2_setWord_28 : decode cX2_setWord 28 = .ok (.iastore, 1) := by decide +kernel
theorem dX2_setWord_29 : decode cX2_setWord 29 = .ok (.aload_n 0, 1) := by decide +kernel
theorem dX2_setWord_30 : decode cX2_setWord 30 = .ok (.getfield 66, 3) := by decide +kernel
theorem dX2_setWord_33 : decode cX2_setWord 33 = .ok (.iload_n 1, 1) := by decide +kernel
theorem dX2_setWord_34 : decode cX2_setWord 34 = .ok (.iload_n 3, 1) := by decide +kernel
theorem dX2_setWord_35 : decode cX2_setWord 35 = .ok (.iastore, 1) := by decide +kernel
theorem dX2_setWord_36 : decode cX2_setWord 36 = .ok (.return_, 1) := by decide +kernel
theorem dX2_wordLeft_0 : decode cX2_wordLeft 0 = .ok (.aload_n 0, 1) := by decide +kernel
theorem dX2_wordLeft_1 : decode cX2_wordLeft 1 = .ok (.getfield 9, 3) := by decide +kernel
theorem dX2_wordLeft_4 : decode cX2_wordLeft 4 = .ok (.iconst 1, 1) := by decide +kernel
theorem dX2_wordLeft_5 : decode cX2_wordLeft 5 = .ok (.if_icmp .ne 20, 3) := by decide +kernel
theorem dX2_wordLeft_8 : decode cX2_wordLeft 8 = .ok (.iload_n 1, 1) := by decide +kernel
theorem dX2_wordLeft_9 : decode cX2_wordLeft 9 = .ok (.ifCond .lt 16, 3) := by decide +kernel
theorem dX2_wordLeft_12 : decode cX2_wordLeft 12 = .ok (.iload_n 1, 1) := by decide +kernel
theorem dX2_wordLeft_13 : decode cX2_wordLeft 13 = .ok (.aload_n 0, 1) := by decide +kernel
theorem dX2_wordLeft_14 : decode cX2_wordLeft 14 = .ok (.getfield 62, 3) := by decide +kernel
theorem dX2_wordLeft_17 : decode cX2_wordLeft 17 = .ok (.arraylength, 1) := by decide +kernel
theorem dX2_wordLeft_18 : decode cX2_wordLeft 18 = .ok (.if_icmp .ge 7, 3) := by decide +kernel
theorem dX2_wordLeft_21 : decode cX2_wordLeft 21 = .ok (.iconst 1, 1) := by decide +kernel
theorem dX2_wordLeft_22 : decode cX2_wordLeft 22 = .ok (.goto 4, 3) := by decide +kernel
theorem dX2_wordLeft_25 : decode cX2_wordLeft 25 = .ok (.iconst 0, 1) := by decide +kernel
theorem dX2_wordLeft_26 : decode cX2_wordLeft 26 = .ok (.istore_n 2, 1) := by decide +kernel
theorem dX2_wordLeft_27 : decode cX2_wordLeft 27 = .ok (.iload_n 2, 1) := by decide +kernel
theorem dX2_wordLeft_28 : decode cX2_wordLeft 28 = .ok (.ifCond .eq 17, 3) := by decide +kernel
theorem dX2_wordLeft_31 : decode cX2_wordLeft 31 = .ok (.aload_n 0, 1) := by decide +kernel
theorem dX2_wordLeft_32 : decode cX2_wordLeft 32 = .ok (.getfield 62, 3) := by decide +kernel
theorem dX2_wordLeft_35 : decode cX2_wordLeft 35 = .ok (.iload_n 1, 1) := by decide +kernel
theorem dX2_wordLeft_36 : decode cX2_wordLeft 36 = .ok (.iaload, 1) := by decide +kernel
theorem dX2_wordLeft_37 : decode cX2_wordLeft 37 = .ok (.aload_n 0, 1) := by decide +kernel
theorem dX2_wordLeft_38 : decode cX2_wordLeft 38 = .ok (.getfield 47, 3) := by decide +kernel
theorem dX2_wordLeft_41 : decode cX2_wordLeft 41 = .ok (.iadd, 1) := by decide +kernel
theorem dX2_wordLeft_42 : decode cX2_wordLeft 42 = .ok (.goto 6, 3) := by decide +kernel
theorem dX2_wordLeft_45 : decode cX2_wordLeft 45 = .ok (.sipush (-9999), 3) := by decide +kernel
theorem dX2_wordLeft_48 : decode cX2_wordLeft 48 = .ok (.ireturn, 1) := by decide +kernel
theorem dX2_wordTop_0 : decode cX2_wordTop 0 = .ok (.aload_n 0, 1) := by decide +kernel
theorem dX2_wordTop_1 : decode cX2_wordTop 1 = .ok (.getfield 9, 3) := by decide +kernel
theorem dX2_wordTop_4 : decode cX2_wordTop 4 = .ok (.iconst 1, 1) := by decide +kernel
theorem dX2_wordTop_5 : decode cX2_wordTop 5 = .ok (.if_icmp .ne 20, 3) := by decide +kernel
theorem dX2_wordTop_8 : decode cX2_wordTop 8 = .ok (.iload_n 1, 1) := by decide +kernel
theorem dX2_wordTop_9 : decode cX2_wordTop 9 = .ok (.ifCond .lt 16, 3) := by decide +kernel
theorem dX2_wordTop_12 : decode cX2_wordTop 12 = .ok (.iload_n 1, 1) := by decide +kernel
theorem dX2_wordTop_13 : decode cX2_wordTop 13 = .ok (.aload_n 0, 1) := by decide +kernel
theorem dX2_wordTop_14 : decode cX2_wordTop 14 = .ok (.getfield 66, 3) := by decide +kernel
theorem dX2_wordTop_17 : decode cX2_wordTop 17 = .ok (.arraylength, 1) := by decide +kernel
theorem dX2_wordTop_18 : decode cX2_wordTop 18 = .ok (.if_icmp .ge 7, 3) := by decide +kernel
theorem dX2_wordTop_21 : decode cX2_wordTop 21 = .ok (.iconst 1, 1) := by decide +kernel
theorem dX2_wordTop_22 : decode cX2_wordTop 22 = .ok (.goto 4, 3) := by decide +kernel
theorem dX2_wordTop_25 : decode cX2_wordTop 25 = .ok (.iconst 0, 1) := by decide +kernel
theorem dX2_wordTop_26 : decode cX2_wordTop 26 = .ok (.istore_n 2, 1) := by decide +kernel
theorem dX2_wordTop_27 : decode cX2_wordTop 27 = .ok (.iload_n 2, 1) := by decide +kernel
theorem dX2_wordTop_28 : decode cX2_wordTop 28 = .ok (.ifCond .eq 17, 3) := by decide +kernel
theorem dX2_wordTop_31 : decode cX2_wordTop 31 = .ok (.aload_n 0, 1) := by decide +kernel
theorem dX2_wordTop_32 : decode cX2_wordTop 32 = .ok (.getfield 66, 3) := by decide +kernel
theorem dX2_wordTop_35 : decode cX2_wordTop 35 = .ok (.iload_n 1, 1) := by decide +kernel
theorem dX2_wordTop_36 : decode cX2_wordTop 36 = .ok (.iaload, 1) := by decide +kernel
theorem dX2_wordTop_37 : decode cX2_wordTop 37 = .ok (.aload_n 0, 1) := by decide +kernel
theorem dX2_wordTop_38 : decode cX2_wordTop 38 = .ok (.getfield 50, 3) := by decide +kernel
theorem dX2_wordTop_41 : decode cX2_wordTop 41 = .ok (.iadd, 1) := by decide +kernel
theorem dX2_wordTop_42 : decode cX2_wordTop 42 = .ok (.goto 6, 3) := by decide +kernel
theorem dX2_wordTop_45 : decode cX2_wordTop 45 = .ok (.sipush (-9999), 3) := by decide +kernel
theorem dX2_wordTop_48 : decode cX2_wordTop 48 = .ok (.ireturn, 1) := by decide +kernel
theorem dX2_isWithin_0 : decode cX2_isWithin 0 = .ok (.iload_n 0, 1) := by decide +kernel
theorem dX2_isWithin_1 : decode cX2_isWithin 1 = .ok (.iload_n 1, 1) := by decide +kernel
theorem dX2_isWithin_2 : decode cX2_isWithin 2 = .ok (.if_icmp .lt 14, 3) := by decide +kernel
theorem dX2_isWithin_5 : decode cX2_isWithin 5 = .ok (.iload_n 0, 1) := by decide +kernel
theorem dX2_isWithin_6 : decode cX2_isWithin 6 = .ok (.iload_n 1, 1) := by decide +kernel
theorem dX2_isWithin_7 : decode cX2_isWithin 7 = .ok (.iload_n 2, 1) := by decide +kernel
theorem dX2_isWithin_8 : decode cX2_isWithin 8 = .ok (.iadd, 1) := by decide +kernel
theorem dX2_isWithin_9 : decode cX2_isWithin 9 = .ok (.if_icmp .ge 7, 3) := by decide +kernel
theorem dX2_isWithin_12 : decode cX2_isWithin 12 = .ok (.iconst 1, 1) := by decide +kernel
theorem dX2_isWithin_13 : decode cX2_isWithin 13 = .ok (.goto 4, 3) := by decide +kernel
theorem dX2_isWithin_16 : decode cX2_isWithin 16 = .ok (.iconst 0, 1) := by decide +kernel
theorem dX2_isWithin_17 : decode cX2_isWithin 17 = .ok (.ireturn, 1) := by decide +kernel
