/-! THE WORDS ARE IN THE TABLES -/
theorem inT_r1 : ∀ w ∈ wsL_law0_r1, w ∈ lw_tbl := fun w h => (goodIn_p wsL_law0_r1 [62, 65] (by decide +kernel) (by decide +kernel) w h).1
theorem inT_r2 : ∀ w ∈ wsL_law0_r2, w ∈ lw_tbl := fun w h => (goodIn_p wsL_law0_r2 [68, 73, 79] (by decide +kernel) (by decide +kernel) w h).1
theorem inT_r3 : ∀ w ∈ wsL_law0_r3, w ∈ lw_tbl := fun w h => (goodIn_p wsL_law0_r3 [82, 85, 105] (by decide +kernel) (by decide +kernel) w h).1
theorem inT_r4 : ∀ w ∈ wsL_law0_r4, w ∈ lw_tbl := fun w h => (goodIn_p wsL_law0_r4 [113, 141] (by decide +kernel) (by decide +kernel) w h).1
theorem inT_r5 : ∀ w ∈ wsL_law0_r5, w ∈ lw_tbl := fun w h => (goodIn_p wsL_law0_r5 [145, 307] (by decide +kernel) (by decide +kernel) w h).1
theorem inT_r6 : ∀ w ∈ wsL_law0_r6, w ∈ lw_tbl := fun w h => (goodIn_p wsL_law0_r6 [311, 315, 319, 322] (by decide +kernel) (by decide +kernel) w h).1
theorem inT_r7 : ∀ w ∈ wsL_law0_r7, w ∈ lw_tbl := fun w h => (goodIn_p wsL_law0_r7 [327, 330, 351, 357] (by decide +kernel) (by decide +kernel) w h).1
theorem inT_r8 : ∀ w ∈ wsL_law0_r8, w ∈ lw_tbl := fun w h => (goodIn_p wsL_law0_r8 [369, 375, 394] (by decide +kernel) (by decide +kernel) w h).1
theorem inT_r9 : ∀ w ∈ wsL_law0_r9, w ∈ lw_tbl := fun w h => (goodIn_p wsL_law0_r9 [433] (by decide +kernel) (by decide +kernel) w h).1
theorem inT_r10 : ∀ w ∈ wsL_law0_r10, w ∈ lw_tbl := fun w h => (goodIn_p wsL_law0_r10 [1166, 1162, 1170, 1175, 513] (by decide +kernel) (by decide +kernel) w h).1
theorem inT_r11 : ∀ w ∈ wsL_law0_r11, w ∈ lw_tbl := fun w h => (goodIn_p wsL_law0_r11 [517, 521, 525, 528] (by decide +kernel) (by decide +kernel) w h).1
theorem inT_r12 : ∀ w ∈ wsL_law0_r12, w ∈ lw_tbl := fun w h => (goodIn_p wsL_law0_r12 [531, 535, 1180, 699, 641] (by decide +kernel) (by decide +kernel) w h).1
theorem inT_r13 : ∀ w ∈ wsL_law0_r13, w ∈ lw_tbl := fun w h => (goodIn_p wsL_law0_r13 [1185, 676, 680, 683, 1189, 1194] (by decide +kernel) (by decide +kernel) w h).1
theorem inT_r14 : ∀ w ∈ wsL_law0_r14, w ∈ lw_tbl := fun w h => (goodIn_p wsL_law0_r14 [1199, 1204, 842, 509] (by decide +kernel) (by decide +kernel) w h).1
theorem inT_r15 : ∀ w ∈ wsL_law0_r15, w ∈ lw_tbl := fun w h => (goodIn_p wsL_law0_r15 [804, 724, 728, 809, 813, 721] (by decide +kernel) (by decide +kernel) w h).1
theorem inT_r16 : ∀ w ∈ wsL_law0_r16, w ∈ lw_tbl := fun w h => (goodIn_p wsL_law0_r16 [739, 785] (by decide +kernel) (by decide +kernel) w h).1
theorem inT_r17 : ∀ w ∈ wsL_law0_r17, w ∈ lw_tbl := fun w h => (goodIn_p wsL_law0_r17 [789, 796, 825, 1207, 1110, 834] (by decide +kernel) (by decide +kernel) w h).1
theorem inT_r18 : ∀ w ∈ wsL_law0_r18, w ∈ lw_tbl := fun w h => (goodIn_p wsL_law0_r18 [1212, 859, 863, 867, 873] (by decide +kernel) (by decide +kernel) w h).1
theorem inT_r19 : ∀ w ∈ wsL_law0_r19, w ∈ lw_tbl := fun w h => (goodIn_p wsL_law0_r19 [878, 881, 886, 889, 893] (by decide +kernel) (by decide +kernel) w h).1
theorem inT_r20 : ∀ w ∈ wsL_law0_r20, w ∈ lw_tbl := fun w h => (goodIn_p wsL_law0_r20 [896, 900, 904, 910, 914] (by decide +kernel) (by decide +kernel) w h).1
theorem inT_r21 : ∀ w ∈ wsL_law0_r21, w ∈ lw_tbl := fun w h => (goodIn_p wsL_law0_r21 [918, 922, 926] (by decide +kernel) (by decide +kernel) w h).1
theorem inT_r22 : ∀ w ∈ wsL_law0_r22, w ∈ lw_tbl := fun w h => (goodIn_p wsL_law0_r22 [933, 937, 941, 945] (by decide +kernel) (by decide +kernel) w h).1
theorem inT_r23 : ∀ w ∈ wsL_law0_r23, w ∈ lw_tbl := fun w h => (goodIn_p wsL_law0_r23 [949, 953, 958, 962, 966] (by decide +kernel) (by decide +kernel) w h).1
theorem inT_r24 : ∀ w ∈ wsL_law0_r24, w ∈ lw_tbl := fun w h => (goodIn_p wsL_law0_r24 [970, 983, 987] (by decide +kernel) (by decide +kernel) w h).1
theorem inT_r25 : ∀ w ∈ wsL_law0_r25, w ∈ lw_tbl := fun w h => (goodIn_p wsL_law0_r25 [991, 995, 1001, 1006] (by decide +kernel) (by decide +kernel) w h).1
theorem inT_r26 : ∀ w ∈ wsL_law0_r26, w ∈ lw_tbl := fun w h => (goodIn_p wsL_law0_r26 [1010, 1018, 1014, 1022, 1027, 1031, 974] (by decide +kernel) (by decide +kernel) w h).1
theorem inT_r27 : ∀ w ∈ wsL_law0_r27, w ∈ lw_tbl := fun w h => (goodIn_p wsL_law0_r27 [978, 1035, 1216] (by decide +kernel) (by decide +kernel) w h).1
theorem inT_r28 : ∀ w ∈ wsL_law0_r28, w ∈ lw_tbl := fun w h => (goodIn_p wsL_law0_r28 [1220, 1060, 1224, 1071, 1228, 1130] (by decide +kernel) (by decide +kernel) w h).1
theorem inT_r29 : ∀ w ∈ wsL_law0_r29, w ∈ lw_tbl := fun w h => (goodIn_p wsL_law0_r29 [1232, 1056, 1236, 1134, 1240, 838] (by decide +kernel) (by decide +kernel) w h).1
theorem inT_r30 : ∀ w ∈ wsL_law0_r30, w ∈ lw_tbl := fun w h => (goodIn_p wsL_law0_r30 [1244, 1149, 1075, 1080, 1084] (by decide +kernel) (by decide +kernel) w h).1
theorem inT_r31 : ∀ w ∈ wsL_law0_r31, w ∈ lw_tbl := fun w h => (goodIn_p wsL_law0_r31 [1088, 1063, 846, 1249, 1253, 1257] (by decide +kernel) (by decide +kernel) w h).1
theorem inT_r32 : ∀ w ∈ wsL_law0_r32, w ∈ lw_tbl := fun w h => (goodIn_p wsL_law0_r32 [851, 1261, 830, 855, 1039, 1265] (by decide +kernel) (by decide +kernel) w h).1
theorem inT_r33 : ∀ w ∈ wsL_law0_r33, w ∈ lw_tbl := fun w h => (goodIn_p wsL_law0_r33 [1104, 1117, 1122, 1067] (by decide +kernel) (by decide +kernel) w h).1
theorem inT_r34 : ∀ w ∈ wsL_law0_r34, w ∈ lw_tbl := fun w h => (goodIn_p wsL_law0_r34 [1138, 1143, 1154, 1158, 1092] (by decide +kernel) (by decide +kernel) w h).1
theorem inT_r35 : ∀ w ∈ wsL_law0_r35, w ∈ lw_tbl := fun w h => (goodIn_p wsL_law0_r35 [820, 1096, 1100, 1043, 1047, 1051] (by decide +kernel) (by decide +kernel) w h).1
theorem inT_r36 : ∀ w ∈ wsL_law0_r36, w ∈ lw_tbl := fun w h => (goodIn_p wsL_law0_r36 [817, 687, 691, 695, 702] (by decide +kernel) (by decide +kernel) w h).1
theorem inT_r37 : ∀ w ∈ wsL_law0_r37, w ∈ lw_tbl := fun w h => (goodIn_p wsL_law0_r37 [708, 654, 658, 664, 668] (by decide +kernel) (by decide +kernel) w h).1
theorem inT_r38 : ∀ w ∈ wsL_law0_r38, w ∈ lw_tbl := fun w h => (goodIn_p wsL_law0_r38 [712, 716, 800, 645, 650, 672] (by decide +kernel) (by decide +kernel) w h).1
theorem inT_wsX90 : ∀ w ∈ wsX90, w ∈ lw_tbl := fun w h => (goodIn_p wsX90 [] (by decide +kernel) (by decide +kernel) w h).1
theorem inT_wsJx4a65c0 : ∀ w ∈ wsJx4a65c0, w ∈ lw_tbl := fun w h => (goodIn_p wsJx4a65c0 [] (by decide +kernel) (by decide +kernel) w h).1
theorem inT_wsX40 : ∀ w ∈ wsX40, w ∈ lw_tbl := fun w h => (goodIn_p wsX40 [] (by decide +kernel) (by decide +kernel) w h).1
theorem inT_wsX60 : ∀ w ∈ wsX60, w ∈ lw_tbl := fun w h => (goodIn_p wsX60 [] (by decide +kernel) (by decide +kernel) w h).1
theorem inT_wsX70 : ∀ w ∈ wsX70, w ∈ lw_tbl := fun w h => (goodIn_p wsX70 [] (by decide +kernel) (by decide +kernel) w h).1
theorem inT_wsX30 : ∀ w ∈ wsX30, w ∈ lw_tbl := fun w h => (goodIn_p wsX30 [] (by decide +kernel) (by decide +kernel) w h).1
theorem inT_wsX10 : ∀ w ∈ wsX10, w ∈ lw_tbl := fun w h => (goodIn_p wsX10 [] (by decide +kernel) (by decide +kernel) w h).1
theorem inT_wsX20 : ∀ w ∈ wsX20, w ∈ lw_tbl := fun w h => (goodIn_p wsX20 [] (by decide +kernel) (by decide +kernel) w h).1
theorem inT_wsX00 : ∀ w ∈ wsX00, w ∈ lw_tbl := fun w h => (goodIn_p wsX00 [] (by decide +kernel) (by decide +kernel) w h).1
theorem inT_wsX80 : ∀ w ∈ wsX80, w ∈ lw_tbl := fun w h => (goodIn_p wsX80 [] (by decide +kernel) (by decide +kernel) w h).1
theorem inT_wsX50 : ∀ w ∈ wsX50, w ∈ lw_tbl := fun w h => (goodIn_p wsX50 [] (by decide +kernel) (by decide +kernel) w h).1
theorem lw_WA : ∀ w ∈ WA, w ∈ lw_tbl := List.forall_mem_append.mpr ⟨(List.forall_mem_append.mpr ⟨(List.forall_mem_append.mpr ⟨(List.forall_mem_append.mpr ⟨(List.forall_mem_append.mpr ⟨(List.forall_mem_append.mpr ⟨(List.forall_mem_append.mpr ⟨(List.forall_mem_append.mpr ⟨(List.forall_mem_append.mpr ⟨(List.forall_mem_append.mpr ⟨(List.forall_mem_append.mpr ⟨(List.forall_mem_append.mpr ⟨(List.forall_mem_append.mpr ⟨inT_r1, (List.forall_mem_append.mpr ⟨inT_r2, (List.forall_mem_append.mpr ⟨inT_r3, (List.forall_mem_append.mpr ⟨inT_r4, (List.forall_mem_append.mpr ⟨inT_r5, (List.forall_mem_append.mpr ⟨inT_r6, (List.forall_mem_append.mpr ⟨inT_r7, (List.forall_mem_append.mpr ⟨inT_r8, (List.forall_mem_append.mpr ⟨inT_r9, (List.forall_mem_append.mpr ⟨inT_r10, (List.forall_mem_append.mpr ⟨inT_r11, (List.forall_mem_append.mpr ⟨inT_r12, (List.forall_mem_append.mpr ⟨inT_r13, (List.forall_mem_append.mpr ⟨inT_r14, (List.forall_mem_append.mpr ⟨inT_r15, (List.forall_mem_append.mpr ⟨inT_r16, (List.forall_mem_append.mpr ⟨inT_r17, (List.forall_mem_append.mpr ⟨inT_r18, (List.forall_mem_append.mpr ⟨inT_r19, (List.forall_mem_append.mpr ⟨inT_r20, (List.forall_mem_append.mpr ⟨inT_r21, (List.forall_mem_append.mpr ⟨inT_r22, (List.forall_mem_append.mpr ⟨inT_r23, (List.forall_mem_append.mpr ⟨inT_r24, (List.forall_mem_append.mpr ⟨inT_r25, (List.forall_mem_append.mpr ⟨inT_r26, (List.forall_mem_append.mpr ⟨inT_r27, (List.forall_mem_append.mpr ⟨inT_r28, (List.forall_mem_append.mpr ⟨inT_r29, (List.forall_mem_append.mpr ⟨inT_r30, (List.forall_mem_append.mpr ⟨inT_r31, (List.forall_mem_append.mpr ⟨inT_r32, (List.forall_mem_append.mpr ⟨inT_r33, (List.forall_mem_append.mpr ⟨inT_r34, (List.forall_mem_append.mpr ⟨inT_r35, (List.forall_mem_append.mpr ⟨inT_r36, (List.forall_mem_append.mpr ⟨inT_r37, inT_r38⟩)⟩)⟩)⟩)⟩)⟩)⟩)⟩)⟩)⟩)⟩)⟩)⟩)⟩)⟩)⟩)⟩)⟩)⟩)⟩)⟩)⟩)⟩)⟩)⟩)⟩)⟩)⟩)⟩)⟩)⟩)⟩)⟩)⟩)⟩)⟩)⟩), inT_wsX90⟩), inT_wsJx4a65c0⟩), inT_wsX40⟩), inT_wsX60⟩), inT_wsX70⟩), inT_wsX30⟩), inT_wsX10⟩), inT_wsX20⟩), inT_wsX00⟩), inT_wsX80⟩), inT_wsX50⟩), fun _ h => nomatch h⟩
