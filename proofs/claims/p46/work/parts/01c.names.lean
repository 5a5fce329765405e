theorem dX4_putFlow_25 : decode cX4_putFlow 25 = .ok (.checkcast 64, 3) := by decide +kernel
theorem dX4_putFlow_28 : decode cX4_putFlow 28 = .ok (.astore 5, 2) := by decide +kernel
theorem dX4_putFlow_30 : decode cX4_putFlow 30 = .ok (.aload 5, 2) := by decide +kernel
theorem dX4_putFlow_32 : decode cX4_putFlow 32 = .ok (.getfield 63, 3) := by decide +kernel
theorem dX4_putFlow_35 : decode cX4_putFlow 35 = .ok (.getfield 161, 3) := by decide +kernel
theorem dX4_putFlow_38 : decode cX4_putFlow 38 = .ok (.aload_n 1, 1) := by decide +kernel
theorem dX4_putFlow_39 : decode cX4_putFlow 39 = .ok (.if_acmp .ne 14, 3) := by decide +kernel
theorem dX4_putFlow_42 : decode cX4_putFlow 42 = .ok (.aload 5, 2) := by decide +kernel
theorem dX4_putFlow_44 : decode cX4_putFlow 44 = .ok (.getfield 63, 3) := by decide +kernel
theorem dX4_putFlow_47 : decode cX4_putFlow 47 = .ok (.getfield 116, 3) := by decide +kernel
theorem dX4_putFlow_50 : decode cX4_putFlow 50 = .ok (.goto 4, 3) := by decide +kernel
theorem dX4_putFlow_53 : decode cX4_putFlow 53 = .ok (.iconst 0, 1) := by decide +kernel
theorem dX4_putFlow_54 : decode cX4_putFlow 54 = .ok (.istore 6, 2) := by decide +kernel
theorem dX4_putFlow_56 : decode cX4_putFlow 56 = .ok (.iload 6, 2) := by decide +kernel
theorem dX4_putFlow_58 : decode cX4_putFlow 58 = .ok (.iconst 1, 1) := by decide +kernel
theorem dX4_putFlow_59 : decode cX4_putFlow 59 = .ok (.if_icmp .ne 26, 3) := by decide +kernel
theorem dX4_putFlow_62 : decode cX4_putFlow 62 = .ok (.aload_n 0, 1) := by decide +kernel
theorem dX4_putFlow_63 : decode cX4_putFlow 63 = .ok (.getfield 28, 3) := by decide +kernel
theorem dX4_putFlow_66 : decode cX4_putFlow 66 = .ok (.aload 5, 2) := by decide +kernel
theorem dX4_putFlow_68 : decode cX4_putFlow 68 = .ok (.aload_n 0, 1) := by decide +kernel
theorem dX4_putFlow_69 : decode cX4_putFlow 69 = .ok (.getfield 12, 3) := by decide +kernel
theorem dX4_putFlow_72 : decode cX4_putFlow 72 = .ok (.aload 5, 2) := by decide +kernel
theorem dX4_putFlow_74 : decode cX4_putFlow 74 = .ok (.bipush 9, 2) := by decide +kernel
theorem dX4_putFlow_76 : decode cX4_putFlow 76 = .ok (.invokevirtual 110, 3) := by decide +kernel
theorem dX4_putFlow_79 : decode cX4_putFlow 79 = .ok (.invokevirtual 221, 3) := by decide +kernel
theorem dX4_putFlow_82 : decode cX4_putFlow 82 = .ok (.goto 50, 3) := by decide +kernel
theorem dX4_putFlow_85 : decode cX4_putFlow 85 = .ok (.iload 6, 2) := by decide +kernel
theorem dX4_putFlow_87 : decode cX4_putFlow 87 = .ok (.iconst 3, 1) := by decide +kernel
theorem dX4_putFlow_88 : decode cX4_putFlow 88 = .ok (.if_icmp .ne 22, 3) := by decide +kernel
theorem dX4_putFlow_91 : decode cX4_putFlow 91 = .ok (.aload_n 0, 1) := by decide +kernel
theorem dX4_putFlow_92 : decode cX4_putFlow 92 = .ok (.aload_n 1, 1) := by decide +kernel
theorem dX4_putFlow_93 : decode cX4_putFlow 93 = .ok (.invokevirtual 207, 3) := by decide +kernel
theorem dX4_putFlow_96 : decode cX4_putFlow 96 = .ok (.aload_n 0, 1) := by decide +kernel
theorem dX4_putFlow_97 : decode cX4_putFlow 97 = .ok (.aload 5, 2) := by decide +kernel
theorem dX4_putFlow_99 : decode cX4_putFlow 99 = .ok (.aload_n 1, 1) := by decide +kernel
theorem dX4_putFlow_100 : decode cX4_putFlow 100 = .ok (.aload_n 2, 1) := by decide +kernel
theorem dX4_putFlow_101 : decode cX4_putFlow 101 = .ok (.iload_n 3, 1) := by decide +kernel
theorem dX4_putFlow_102 : decode cX4_putFlow 102 = .ok (.iconst 1, 1) := by decide +kernel
theorem dX4_putFlow_103 : decode cX4_putFlow 103 = .ok (.iadd, 1) := by decide +kernel
theorem dX4_putFlow_104 : decode cX4_putFlow 104 = .ok (.invokevirtual 225, 3) := by decide +kernel
theorem dX4_putFlow_107 : decode cX4_putFlow 107 = .ok (.goto 25, 3) := by decide +kernel
theorem dX4_putFlow_110 : decode cX4_putFlow 110 = .ok (.iload 6, 2) := by decide +kernel
theorem dX4_putFlow_112 : decode cX4_putFlow 112 = .ok (.iconst 4, 1) := by decide +kernel
theorem dX4_putFlow_113 : decode cX4_putFlow 113 = .ok (.if_icmp .ne 19, 3) := by decide +kernel
theorem dX4_putFlow_116 : decode cX4_putFlow 116 = .ok (.aload_n 0, 1) := by decide +kernel
theorem dX4_putFlow_117 : decode cX4_putFlow 117 = .ok (.aload_n 1, 1) := by decide +kernel
theorem dX4_putFlow_118 : decode cX4_putFlow 118 = .ok (.invokevirtual 207, 3) := by decide +kernel
theorem dX4_putFlow_121 : decode cX4_putFlow 121 = .ok (.aload_n 0, 1) := by decide +kernel
theorem dX4_putFlow_122 : decode cX4_putFlow 122 = .ok (.aload 5, 2) := by decide +kernel
theorem dX4_putFlow_124 : decode cX4_putFlow 124 = .ok (.aload_n 1, 1) := by decide +kernel
theorem dX4_putFlow_125 : decode cX4_putFlow 125 = .ok (.aload_n 2, 1) := by decide +kernel
theorem dX4_putFlow_126 : decode cX4_putFlow 126 = .ok (.iload_n 3, 1) := by decide +kernel
theorem dX4_putFlow_127 : decode cX4_putFlow 127 = .ok (.iconst 1, 1) := by decide +kernel
theorem dX4_putFlow_128 : decode cX4_putFlow 128 = .ok (.iadd, 1) := by decide +kernel
theorem dX4_putFlow_129 : decode cX4_putFlow 129 = .ok (.invokevirtual 229, 3) := by decide +kernel
theorem dX4_putFlow_132 : decode cX4_putFlow 132 = .ok (.iinc 4 1, 3) := by decide +kernel
theorem dX4_putFlow_135 : decode cX4_putFlow 135 = .ok (.goto (-125), 3) := by decide +kernel
theorem dX4_putFlow_138 : decode cX4_putFlow 138 = .ok (.return_, 1) := by decide +kernel
set_option maxRecDepth 20000 in
theorem ggX4_putBlock_X6_of : GoodIn wsX4_putBlock wsX6_of := goodIn_r _ [24, 25, 26, 179, 180, 181, 182, 183, 184, 185, 186, 187, 188, 189, 190, 191, 192, 237, 238, 239] (by decide +kernel) (by decide +kernel)
set_option maxRecDepth 20000 in
theorem gX4_putBlock_X6_of : GoodIn wsX4_putBlock (wsV RX4 110 RX6 yX6_of wsX6_of) := goodIn_app (goodIn_of _ (by decide +kernel)) ggX4_putBlock_X6_of
set_option maxRecDepth 20000 in
theorem ggX4_putBlock_X0_belowBottoms : GoodIn wsX4_putBlock wsX0_belowBottoms := goodIn_r _ [31, 32, 33, 34, 35, 36, 7, 8, 9, 227, 228, 229, 230, 231, 232, 233, 234, 235, 236] (by decide +kernel) (by decide +kernel)
set_option maxRecDepth 20000 in
theorem gX4_putBlock_X0_belowBottoms : GoodIn wsX4_putBlock (wsV RX4 211 RX0 yX0_belowBottoms wsX0_belowBottoms) := goodIn_app (goodIn_of _ (by decide +kernel)) ggX4_putBlock_X0_belowBottoms
set_option maxRecDepth 20000 in
theorem ggX4_putBlock_X4_widthOr : GoodIn wsX4_putBlock wsX4_widthOr := goodIn_r _ [41, 3, 6, 7, 8, 9, 20, 21, 22, 23, 24, 25, 26, 214, 215, 216, 217, 218, 219, 179, 180, 181, 182, 183, 184, 185, 186, 187, 188, 189, 190, 191, 192, 237, 238, 239] (by decide +kernel) (by decide +kernel)
set_option maxRecDepth 20000 in
theorem gX4_putBlock_X4_widthOr : GoodIn wsX4_putBlock (wsV RX4 80 RX4 yX4_widthOr wsX4_widthOr) := goodIn_app (goodIn_of _ (by decide +kernel)) ggX4_putBlock_X4_widthOr
set_option maxRecDepth 20000 in
theorem ggX4_putBlock_X4_fill : GoodIn wsX4_putBlock wsX4_fill := goodIn_r _ [45, 1, 2, 15, 4, 5, 46, 11, 18, 10, 47, 3, 19, 48, 49, 50, 40, 51, 52, 53, 54, 55, 56, 57, 58, 59, 6, 7, 8, 9, 60, 61, 62, 20, 21, 22, 23, 24, 25, 26, 63, 64, 65, 66, 67, 68, 69, 70, 71, 30, 72, 73, 74, 75, 76, 77, 78, 79, 80, 81, 82, 32, 33, 83, 84, 85, 35, 86, 87, 88, 34, 89, 36, 90, 91, 92, 93, 94, 95, 96, 97, 98, 99, 100, 101, 102, 103, 104, 105, 106, 107, 108, 109, 110, 111, 112, 113, 114, 115, 116, 117, 27, 28, 29, 31, 0, 12, 13, 14, 16, 17, 37, 38, 39, 41, 42, 43, 44, 118, 119, 120, 121, 122, 123, 124, 125, 126, 127, 128, 129, 130, 131, 132, 133, 134, 135, 136, 137, 138, 139, 140, 141, 142, 143, 144, 145, 146, 147, 148, 149, 150, 151, 152, 153, 154, 155, 156, 157, 158, 159, 160, 161, 162, 163, 164, 165, 166, 167, 168, 169, 170, 171, 172, 173, 174, 175, 176, 177, 178, 179, 180, 181, 182, 183, 184, 185, 186, 187, 188, 189, 190, 191, 192, 193, 194, 195, 196, 197, 198, 199, 200, 201, 202, 203, 204, 205, 206, 207, 208, 209, 210, 211, 212, 213, 214, 215, 216, 217, 218, 219, 220, 221, 222, 223, 224, 225, 226, 227, 228, 229, 230, 231, 232, 233, 234, 235, 236, 237, 238, 239, 240, 241, 242] (by decide +kernel) (by decide +kernel)
set_option maxRecDepth 20000 in
theorem gX4_putBlock_X4_fill : GoodIn wsX4_putBlock (wsV RX4 99 RX4 yX4_fill wsX4_fill) := goodIn_app (goodIn_of _ (by decide +kernel)) ggX4_putBlock_X4_fill
theorem dX4_putBlock_0 : decode cX4_putBlock 0 = .ok (.aload_n 1, 1) := by decide +kernel
theorem dX4_putBlock_1 : decode cX4_putBlock 1 = .ok (.getfield 63, 3) := by decide +kernel
theorem dX4_putBlock_4 : decode cX4_putBlock 4 = .ok (.astore 5, 2) := by decide +kernel
theorem dX4_putBlock_6 : decode cX4_putBlock 6 = .ok (.aload_n 2, 1) := by decide +kernel
theorem dX4_putBlock_7 : decode cX4_putBlock 7 = .ok (.getfield 87, 3) := by decide +kernel
theorem dX4_putBlock_10 : decode cX4_putBlock 10 = .ok (.astore 6, 2) := by decide +kernel
theorem dX4_putBlock_12 : decode cX4_putBlock 12 = .ok (.aload_n 0, 1) := by decide +kernel
theorem dX4_putBlock_13 : decode cX4_putBlock 13 = .ok (.getfield 12, 3) := by decide +kernel
theorem dX4_putBlock_16 : decode cX4_putBlock 16 = .ok (.aload_n 1, 1) := by decide +kernel
theorem dX4_putBlock_17 : decode cX4_putBlock 17 = .ok (.iconst 3, 1) := by decide +kernel
theorem dX4_putBlock_18 : decode cX4_putBlock 18 = .ok (.invokevirtual 110, 3) := by decide +kernel
theorem dX4_putBlock_21 : decode cX4_putBlock 21 = .ok (.istore 7, 2) := by decide +kernel
theorem dX4_putBlock_23 : decode cX4_putBlock 23 = .ok (.aload 6, 2) := by decide +kernel
theorem dX4_putBlock_25 : decode cX4_putBlock 25 = .ok (.dup, 1) := by decide +kernel
theorem dX4_putBlock_26 : decode cX4_putBlock 26 = .ok (.getfield 197, 3) := by decide +kernel
theorem dX4_putBlock_29 : decode cX4_putBlock 29 = .ok (.iconst 0, 1) := by decide +kernel
theorem dX4_putBlock_30 : decode cX4_putBlock 30 = .ok (.iload 7, 2) := by decide +kernel
theorem dX4_putBlock_32 : decode cX4_putBlock 32 = .ok (.aload 6, 2) := by decide +kernel
theorem dX4_putBlock_34 : decode cX4_putBlock 34 = .ok (.getfield 200, 3) := by decide +kernel
theorem dX4_putBlock_37 : decode cX4_putBlock 37 = .ok (.isub, 1) := by decide +kernel
theorem dX4_putBlock_38 : decode cX4_putBlock 38 = .ok (.invokestatic 187, 3) := by decide +kernel
theorem dX4_putBlock_41 : decode cX4_putBlock 41 = .ok (.iadd, 1) := by decide +kernel
theorem dX4_putBlock_42 : decode cX4_putBlock 42 = .ok (.putfield 197, 3) := by decide +kernel
theorem dX4_putBlock_45 : decode cX4_putBlock 45 = .ok (.aload 6, 2) := by decide +kernel
theorem dX4_putBlock_47 : decode cX4_putBlock 47 = .ok (.aload_n 0, 1) := by decide +kernel
theorem dX4_putBlock_48 : decode cX4_putBlock 48 = .ok (.getfield 21, 3) := by decide +kernel
theorem dX4_putBlock_51 : decode cX4_putBlock 51 = .ok (.aload 6, 2) := by decide +kernel
theorem dX4_putBlock_53 : decode cX4_putBlock 53 = .ok (.getfield 94, 3) := by decide +kernel
theorem dX4_putBlock_56 : decode cX4_putBlock 56 = .ok (.aload_n 0, 1) := by decide +kernel
theorem dX4_putBlock_57 : decode cX4_putBlock 57 = .ok (.getfield 12, 3) := by decide +kernel
theorem dX4_putBlock_60 : decode cX4_putBlock 60 = .ok (.aload_n 1, 1) := by decide +kernel
theorem dX4_putBlock_61 : decode cX4_putBlock 61 = .ok (.bipush 7, 2) := by decide +kernel
theorem dX4_putBlock_63 : decode cX4_putBlock 63 = .ok (.invokevirtual 110, 3) := by decide +kernel
theorem dX4_putBlock_66 : decode cX4_putBlock 66 = .ok (.aload 6, 2) := by decide +kernel
theorem dX4_putBlock_68 : decode cX4_putBlock 68 = .ok (.getfield 197, 3) := by decide +kernel
theorem dX4_putBlock_71 : decode cX4_putBlock 71 = .ok (.invokevirtual 211, 3) := by decide +kernel
theorem dX4_putBlock_74 : decode cX4_putBlock 74 = .ok (.putfield 197, 3) := by decide +kernel
theorem dX4_putBlock_77 : decode cX4_putBlock 77 = .ok (.aload 5, 2) := by decide +kernel
theorem dX4_putBlock_79 : decode cX4_putBlock 79 = .ok (.aload_n 2, 1) := by decide +kernel
theorem dX4_putBlock_80 : decode cX4_putBlock 80 = .ok (.getfield 63, 3) := by decide +kernel
theorem dX4_putBlock_83 : decode cX4_putBlock 83 = .ok (.getfield 74, 3) := by decide +kernel
theorem dX4_putBlock_86 : decode cX4_putBlock 86 = .ok (.aload 5, 2) := by decide +kernel
theorem dX4_putBlock_88 : decode cX4_putBlock 88 = .ok (.getfield 69, 3) := by decide +kernel
theorem dX4_putBlock_91 : decode cX4_putBlock 91 = .ok (.iadd, 1) := by decide +kernel
theorem dX4_putBlock_92 : decode cX4_putBlock 92 = .ok (.putfield 74, 3) := by decide +kernel
theorem dX4_putBlock_95 : decode cX4_putBlock 95 = .ok (.aload 5, 2) := by decide +kernel
theorem dX4_putBlock_97 : decode cX4_putBlock 97 = .ok (.aload 6, 2) := by decide +kernel
theorem dX4_putBlock_99 : decode cX4_putBlock 99 = .ok (.getfield 197, 3) := by decide +kernel
theorem dX4_putBlock_102 : decode cX4_putBlock 102 = .ok (.aload 5, 2) := by decide +kernel
theorem dX4_putBlock_104 : decode cX4_putBlock 104 = .ok (.getfield 164, 3) := by decide +kernel
theorem dX4_putBlock_107 : decode cX4_putBlock 107 = .ok (.iadd, 1) := by decide +kernel
theorem dX4_putBlock_108 : decode cX4_putBlock 108 = .ok (.putfield 77, 3) := by decide +kernel
theorem dX4_putBlock_111 : decode cX4_putBlock 111 = .ok (.aload 5, 2) := by decide +kernel
theorem dX4_putBlock_113 : decode cX4_putBlock 113 = .ok (.aload_n 0, 1) := by decide +kernel
theorem dX4_putBlock_114 : decode cX4_putBlock 114 = .ok (.aload_n 1, 1) := by decide +kernel
theorem dX4_putBlock_115 : decode cX4_putBlock 115 = .ok (.aload_n 2, 1) := by decide +kernel
theorem dX4_putBlock_116 : decode cX4_putBlock 116 = .ok (.getfield 63, 3) := by decide +kernel
theorem dX4_putBlock_119 : decode cX4_putBlock 119 = .ok (.getfield 84, 3) := by decide +kernel
theorem dX4_putBlock_122 : decode cX4_putBlock 122 = .ok (.iconst 2, 1) := by decide +kernel
theorem dX4_putBlock_123 : decode cX4_putBlock 123 = .ok (.aload 5, 2) := by decide +kernel
theorem dX4_putBlock_125 : decode cX4_putBlock 125 = .ok (.getfield 69, 3) := by decide +kernel
theorem dX4_putBlock_128 : decode cX4_putBlock 128 = .ok (.imul, 1) := by decide +kernel
theorem dX4_putBlock_129 : decode cX4_putBlock 129 = .ok (.isub, 1) := by decide +kernel
theorem dX4_putBlock_130 : decode cX4_putBlock 130 = .ok (.invokevirtual 80, 3) := by decide +kernel
theorem dX4_putBlock_133 : decode cX4_putBlock 133 = .ok (.putfield 84, 3) := by decide +kernel
theorem dX4_putBlock_136 : decode cX4_putBlock 136 = .ok (.aload_n 1, 1) := by decide +kernel
theorem dX4_putBlock_137 : decode cX4_putBlock 137 = .ok (.getfield 87, 3) := by decide +kernel
theorem dX4_putBlock_140 : decode cX4_putBlock 140 = .ok (.aload 5, 2) := by decide +kernel
theorem dX4_putBlock_142 : decode cX4_putBlock 142 = .ok (.getfield 171, 3) := by decide +kernel
theorem dX4_putBlock_145 : decode cX4_putBlock 145 = .ok (.ifCond .eq 10, 3) := by decide +kernel
theorem dX4_putBlock_148 : decode cX4_putBlock 148 = .ok (.aload_n 1, 1) := by decide +kernel
theorem dX4_putBlock_149 : decode cX4_putBlock 149 = .ok (.getfield 91, 3) := by decide +kernel
theorem dX4_putBlock_152 : decode cX4_putBlock 152 = .ok (.goto 8, 3) := by decide +kernel
theorem dX4_putBlock_155 : decode cX4_putBlock 155 = .ok (.aload 6, 2) := by decide +kernel
theorem dX4_putBlock_157 : decode cX4_putBlock 157 = .ok (.getfield 94, 3) := by decide +kernel
theorem dX4_putBlock_160 : decode cX4_putBlock 160 = .ok (.putfield 94, 3) := by decide +kernel
theorem dX4_putBlock_163 : decode cX4_putBlock 163 = .ok (.aload_n 0, 1) := by decide +kernel
theorem dX4_putBlock_164 : decode cX4_putBlock 164 = .ok (.aload_n 1, 1) := by decide +kernel
theorem dX4_putBlock_165 : decode cX4_putBlock 165 = .ok (.aload_n 3, 1) := by decide +kernel
theorem dX4_putBlock_166 : decode cX4_putBlock 166 = .ok (.iload 4, 2) := by decide +kernel
theorem dX4_putBlock_168 : decode cX4_putBlock 168 = .ok (.invokevirtual 99, 3) := by decide +kernel
theorem dX4_putBlock_171 : decode cX4_putBlock 171 = .ok (.aload 6, 2) := by decide +kernel
theorem dX4_putBlock_173 : decode cX4_putBlock 173 = .ok (.dup, 1) := by decide +kernel
theorem dX4_putBlock_174 : decode cX4_putBlock 174 = .ok (.getfield 197, 3) := by decide +kernel
theorem dX4_putBlock_177 : decode cX4_putBlock 177 = .ok (.aload 5, 2) := by decide +kernel
theorem dX4_putBlock_179 : decode cX4_putBlock 179 = .ok (.getfield 218, 3) := by decide +kernel
theorem dX4_putBlock_182 : decode cX4_putBlock 182 = .ok (.iconst 2, 1) := by decide +kernel
theorem dX4_putBlock_183 : decode cX4_putBlock 183 = .ok (.aload 5, 2) := by decide +kernel
theorem dX4_putBlock_185 : decode cX4_putBlock 185 = .ok (.getfield 164, 3) := by decide +kernel
theorem dX4_putBlock_188 : decode cX4_putBlock 188 = .ok (.imul, 1) := by decide +kernel
theorem dX4_putBlock_189 : decode cX4_putBlock 189 = .ok (.iadd, 1) := by decide +kernel
theorem dX4_putBlock_190 : decode cX4_putBlock 190 = .ok (.iload 7, 2) := by decide +kernel
theorem dX4_putBlock_192 : decode cX4_putBlock 192 = .ok (.iadd, 1) := by decide +kernel
theorem dX4_putBlock_193 : decode cX4_putBlock 193 = .ok (.iadd, 1) := by decide +kernel
theorem dX4_putBlock_194 : decode cX4_putBlock 194 = .ok (.putfield 197, 3) := by decide +kernel
theorem dX4_putBlock_197 : decode cX4_putBlock 197 = .ok (.aload 6, 2) := by decide +kernel
theorem dX4_putBlock_199 : decode cX4_putBlock 199 = .ok (.iload 7, 2) := by decide +kernel
theorem dX4_putBlock_201 : decode cX4_putBlock 201 = .ok (.putfield 200, 3) := by decide +kernel
theorem dX4_putBlock_204 : decode cX4_putBlock 204 = .ok (.return_, 1) := by decide +kernel
set_option maxRecDepth 20000 in
theorem ggX4_putFloat_X6_of : GoodIn wsX4_putFloat wsX6_of := goodIn_r _ [27, 28, 29, 179, 180, 181, 182, 183, 184, 185, 186, 187, 188, 189, 190, 191, 192, 237, 238, 239] (by decide +kernel) (by decide +kernel)
set_option maxRecDepth 20000 in
theorem gX4_putFloat_X6_of : GoodIn wsX4_putFloat (wsV RX4 110 RX6 yX6_of wsX6_of) := goodIn_app (goodIn_of _ (by decide +kernel)) ggX4_putFloat_X6_of
set_option maxRecDepth 20000 in
theorem ggX4_putFloat_X4_widthOr : GoodIn wsX4_putFloat wsX4_widthOr := goodIn_r _ [34, 4, 7, 8, 9, 10, 23, 24, 25, 26, 27, 28, 29, 214, 215, 216, 217, 218, 219, 179, 180, 181, 182, 183, 184, 185, 186, 187, 188, 189, 190, 191, 192, 237, 238, 239] (by decide +kernel) (by decide +kernel)
set_option maxRecDepth 20000 in
theorem gX4_putFloat_X4_widthOr : GoodIn wsX4_putFloat (wsV RX4 80 RX4 yX4_widthOr wsX4_widthOr) := goodIn_app (goodIn_of _ (by decide +kernel)) ggX4_putFloat_X4_widthOr
set_option maxRecDepth 20000 in
theorem ggX4_putFloat_X0_belowTops : GoodIn wsX4_putFloat wsX0_belowTops := goodIn_r _ [39, 40, 41, 42, 43, 8, 9, 10, 227, 228, 229, 230, 231, 232, 233, 234, 235, 236] (by decide +kernel) (by decide +kernel)
set_option maxRecDepth 20000 in
theorem gX4_putFloat_X0_belowTops : GoodIn wsX4_putFloat (wsV RX4 235 RX0 yX0_belowTops wsX0_belowTops) := goodIn_app (goodIn_of _ (by decide +kernel)) ggX4_putFloat_X0_belowTops
set_option maxRecDepth 20000 in
theorem ggX4_putFloat_X0_belowBottoms : GoodIn wsX4_putFloat wsX0_belowBottoms := goodIn_r _ [47, 40, 41, 48, 49, 43, 8, 9, 10, 227, 228, 229, 230, 231, 232, 233, 234, 235, 236] (by decide +kernel) (by decide +kernel)
set_option maxRecDepth 20000 in
theorem gX4_putFloat_X0_belowBottoms : GoodIn wsX4_putFloat (wsV RX4 211 RX0 yX0_belowBottoms wsX0_belowBottoms) := goodIn_app (goodIn_of _ (by decide +kernel)) ggX4_putFloat_X0_belowBottoms
set_option maxRecDepth 20000 in
theorem ggX4_putFloat_X0_findRoom : GoodIn wsX4_putFloat wsX0_findRoom := goodIn_r _ [53, 54, 55, 56, 57, 58, 59, 38, 60, 61, 62, 63, 40, 41, 64, 65, 42, 49, 66, 13, 9, 14, 48, 67, 43, 8, 10, 68, 227, 228, 229, 230, 231, 232, 233, 234, 235, 236, 179, 180, 181, 182, 183, 184, 185, 186, 187, 188, 189, 190, 191, 192, 193, 194, 195, 196, 197, 198, 199, 200, 201, 202, 203, 204, 205, 206, 207, 208, 209, 210, 211, 212, 213] (by decide +kernel) (by decide +kernel)
set_option maxRecDepth 20000 in
theorem gX4_putFloat_X0_findRoom : GoodIn wsX4_putFloat (wsV RX4 238 RX0 yX0_findRoom wsX0_findRoom) := goodIn_app (goodIn_of _ (by decide +kernel)) ggX4_putFloat_X0_findRoom
set_option maxRecDepth 20000 in
theorem ggX4_putFloat_X4_fill : GoodIn wsX4_putFloat wsX4_fill := goodIn_r _ [76, 1, 2, 20, 16, 77, 78, 3, 21, 15, 79, 4, 22, 80, 81, 82, 33, 83, 84, 85, 86, 87, 88, 18, 17, 89, 7, 8, 9, 10, 90, 91, 92, 23, 24, 25, 26, 27, 28, 29, 93, 94, 95, 96, 97, 98, 50, 51, 52, 38, 53, 54, 55, 56, 57, 58, 59, 60, 61, 62, 63, 40, 41, 64, 65, 42, 49, 66, 13, 14, 48, 67, 43, 68, 99, 100, 101, 102, 103, 104, 105, 106, 107, 108, 109, 110, 111, 112, 113, 114, 115, 116, 117, 118, 119, 120, 121, 122, 123, 124, 125, 44, 45, 46, 47, 126, 19, 6, 127, 5, 128, 30, 31, 32, 34, 69, 70, 71, 0, 11, 12, 35, 36, 37, 39, 72, 73, 74, 75, 129, 130, 131, 132, 133, 134, 135, 136, 137, 138, 139, 140, 141, 142, 143, 144, 145, 146, 147, 148, 149, 150, 151, 152, 153, 154, 155, 156, 157, 158, 159, 160, 161, 162, 163, 164, 165, 166, 167, 168, 169, 170, 171, 172, 173, 174, 175, 176, 177, 178, 179, 180, 181, 182, 183, 184, 185, 186, 187, 188, 189, 190, 191, 192, 193, 194, 195, 196, 197, 198, 199, 200, 201, 202, 203, 204, 205, 206, 207, 208, 209, 210, 211, 212, 213, 214, 215, 216, 217, 218, 219, 220, 221, 222, 223, 224, 225, 226, 227, 228, 229, 230, 231, 232, 233, 234, 235, 236, 237, 238, 239, 240, 241, 242] (by decide +kernel) (by decide +kernel)
set_option maxRecDepth 20000 in
theorem gX4_putFloat_X4_fill : GoodIn wsX4_putFloat (wsV RX4 99 RX4 yX4_fill wsX4_fill) := goodIn_app (goodIn_of _ (by decide +kernel)) ggX4_putFloat_X4_fill
set_option maxRecDepth 20000 in
theorem ggX4_putFloat_X0_put : GoodIn wsX4_putFloat wsX0_put := goodIn_r _ [75, 40, 41, 48, 68, 67, 42, 49, 227, 228, 229, 230, 231, 232, 233, 234, 235, 236] (by decide +kernel) (by decide +kernel)
set_option maxRecDepth 20000 in
theorem gX4_putFloat_X0_put : GoodIn wsX4_putFloat (wsV RX4 248 RX0 yX0_put wsX0_put) := goodIn_app (goodIn_of _ (by decide +kernel)) ggX4_putFloat_X0_put
theorem dX4_putFloat_0 : decode cX4_putFloat 0 = .ok (.aload_n 1, 1) := by decide +kernel
theorem dX4_putFloat_1 : decode cX4_putFloat 1 = .ok (.getfield 63, 3) := by decide +kernel
theorem dX4_putFloat_4 : decode cX4_putFloat 4 = .ok (.astore 5, 2) := by decide +kernel
theorem dX4_putFloat_6 : decode cX4_putFloat 6 = .ok (.aload_n 2, 1) := by decide +kernel
theorem dX4_putFloat_7 : decode cX4_putFloat 7 = .ok (.getfield 87, 3) := by decide +kernel
theorem dX4_putFloat_10 : decode cX4_putFloat 10 = .ok (.getfield 94, 3) := by decide +kernel
theorem dX4_putFloat_13 : decode cX4_putFloat 13 = .ok (.istore 6, 2) := by decide +kernel
theorem dX4_putFloat_15 : decode cX4_putFloat 15 = .ok (.aload_n 0, 1) := by decide +kernel
theorem dX4_putFloat_16 : decode cX4_putFloat 16 = .ok (.getfield 12, 3) := by decide +kernel
theorem dX4_putFloat_19 : decode cX4_putFloat 19 = .ok (.aload_n 1, 1) := by decide +kernel
theorem dX4_putFloat_20 : decode cX4_putFloat 20 = .ok (.bipush 6, 2) := by decide +kernel
theorem dX4_putFloat_22 : decode cX4_putFloat 22 = .ok (.invokevirtual 110, 3) := by decide +kernel
theorem dX4_putFloat_25 : decode cX4_putFloat 25 = .ok (.istore 7, 2) := by decide +kernel
theorem dX4_putFloat_27 : decode cX4_putFloat 27 = .ok (.iconst 0, 1) := by decide +kernel
theorem dX4_putFloat_28 : decode cX4_putFloat 28 = .ok (.aload_n 2, 1) := by decide +kernel
theorem dX4_putFloat_29 : decode cX4_putFloat 29 = .ok (.getfield 63, 3) := by decide +kernel
theorem dX4_putFloat_32 : decode cX4_putFloat 32 = .ok (.getfield 84, 3) := by decide +kernel
theorem dX4_putFloat_35 : decode cX4_putFloat 35 = .ok (.iconst 2, 1) := by decide +kernel
theorem dX4_putFloat_36 : decode cX4_putFloat 36 = .ok (.aload 5, 2) := by decide +kernel
theorem dX4_putFloat_38 : decode cX4_putFloat 38 = .ok (.getfield 69, 3) := by decide +kernel
theorem dX4_putFloat_41 : decode cX4_putFloat 41 = .ok (.imul, 1) := by decide +kernel
theorem dX4_putFloat_42 : decode cX4_putFloat 42 = .ok (.isub, 1) := by decide +kernel
theorem dX4_putFloat_43 : decode cX4_putFloat 43 = .ok (.invokestatic 187, 3) := by decide +kernel
theorem dX4_putFloat_46 : decode cX4_putFloat 46 = .ok (.istore 8, 2) := by decide +kernel
theorem dX4_putFloat_48 : decode cX4_putFloat 48 = .ok (.aload 5, 2) := by decide +kernel
theorem dX4_putFloat_50 : decode cX4_putFloat 50 = .ok (.aload_n 0, 1) := by decide +kernel
theorem dX4_putFloat_51 : decode cX4_putFloat 51 = .ok (.aload_n 1, 1) := by decide +kernel
theorem dX4_putFloat_52 : decode cX4_putFloat 52 = .ok (.aload_n 1, 1) := by decide +kernel
theorem dX4_putFloat_53 : decode cX4_putFloat 53 = .ok (.getfield 87, 3) := by decide +kernel
theorem dX4_putFloat_56 : decode cX4_putFloat 56 = .ok (.getfield 182, 3) := by decide +kernel
theorem dX4_putFloat_59 : decode cX4_putFloat 59 = .ok (.iload 8, 2) := by decide +kernel
theorem dX4_putFloat_61 : decode cX4_putFloat 61 = .ok (.invokestatic 232, 3) := by decide +kernel
theorem dX4_putFloat_64 : decode cX4_putFloat 64 = .ok (.invokevirtual 80, 3) := by decide +kernel
theorem dX4_putFloat_67 : decode cX4_putFloat 67 = .ok (.putfield 84, 3) := by decide +kernel
theorem dX4_putFloat_70 : decode cX4_putFloat 70 = .ok (.aload 5, 2) := by decide +kernel
theorem dX4_putFloat_72 : decode cX4_putFloat 72 = .ok (.getfield 84, 3) := by decide +kernel
theorem dX4_putFloat_75 : decode cX4_putFloat 75 = .ok (.iconst 2, 1) := by decide +kernel
theorem dX4_putFloat_76 : decode cX4_putFloat 76 = .ok (.aload 5, 2) := by decide +kernel
theorem dX4_putFloat_78 : decode cX4_putFloat 78 = .ok (.getfield 69, 3) := by decide +kernel
theorem dX4_putFloat_81 : decode cX4_putFloat 81 = .ok (.imul, 1) := by decide +kernel
theorem dX4_putFloat_82 : decode cX4_putFloat 82 = .ok (.iadd, 1) := by decide +kernel
theorem dX4_putFloat_83 : decode cX4_putFloat 83 = .ok (.istore 9, 2) := by decide +kernel
theorem dX4_putFloat_85 : decode cX4_putFloat 85 = .ok (.aload_n 0, 1) := by decide +kernel
theorem dX4_putFloat_86 : decode cX4_putFloat 86 = .ok (.getfield 21, 3) := by decide +kernel
theorem dX4_putFloat_89 : decode cX4_putFloat 89 = .ok (.iload 6, 2) := by decide +kernel
theorem dX4_putFloat_91 : decode cX4_putFloat 91 = .ok (.aload_n 2, 1) := by decide +kernel
theorem dX4_putFloat_92 : decode cX4_putFloat 92 = .ok (.getfield 87, 3) := by decide +kernel
theorem dX4_putFloat_95 : decode cX4_putFloat 95 = .ok (.getfield 197, 3) := by decide +kernel
theorem dX4_putFloat_98 : decode cX4_putFloat 98 = .ok (.invokevirtual 235, 3) := by decide +kernel
theorem dX4_putFloat_101 : decode cX4_putFloat 101 = .ok (.istore 10, 2) := by decide +kernel
theorem dX4_putFloat_103 : decode cX4_putFloat 103 = .ok (.aload_n 0, 1) := by decide +kernel
theorem dX4_putFloat_104 : decode cX4_putFloat 104 = .ok (.getfield 21, 3) := by decide +kernel
theorem dX4_putFloat_107 : decode cX4_putFloat 107 = .ok (.iload 6, 2) := by decide +kernel
theorem dX4_putFloat_109 : decode cX4_putFloat 109 = .ok (.aload_n 0, 1) := by decide +kernel
theorem dX4_putFloat_110 : decode cX4_putFloat 110 = .ok (.getfield 12, 3) := by decide +kernel
theorem dX4_putFloat_113 : decode cX4_putFloat 113 = .ok (.aload_n 1, 1) := by decide +kernel
theorem dX4_putFloat_114 : decode cX4_putFloat 114 = .ok (.bipush 7, 2) := by decide +kernel
theorem dX4_putFloat_116 : decode cX4_putFloat 116 = .ok (.invokevirtual 110, 3) := by decide +kernel
theorem dX4_putFloat_119 : decode cX4_putFloat 119 = .ok (.iload 10, 2) := by decide +kernel
theorem dX4_putFloat_121 : decode cX4_putFloat 121 = .ok (.invokevirtual 211, 3) := by decide +kernel
theorem dX4_putFloat_124 : decode cX4_putFloat 124 = .ok (.istore 10, 2) := by decide +kernel
theorem dX4_putFloat_126 : decode cX4_putFloat 126 = .ok (.aload_n 0, 1) := by decide +kernel
theorem dX4_putFloat_127 : decode cX4_putFloat 127 = .ok (.getfield 21, 3) := by decide +kernel
theorem dX4_putFloat_130 : decode cX4_putFloat 130 = .ok (.iload 9, 2) := by decide +kernel
theorem dX4_putFloat_132 : decode cX4_putFloat 132 = .ok (.aload_n 2, 1) := by decide +kernel
theorem dX4_putFloat_133 : decode cX4_putFloat 133 = .ok (.iload 10, 2) := by decide +kernel
theorem dX4_putFloat_135 : decode cX4_putFloat 135 = .ok (.invokevirtual 238, 3) := by decide +kernel
theorem dX4_putFloat_138 : decode cX4_putFloat 138 = .ok (.istore 10, 2) := by decide +kernel
theorem dX4_putFloat_140 : decode cX4_putFloat 140 = .ok (.iload 7, 2) := by decide +kernel
theorem dX4_putFloat_142 : decode cX4_putFloat 142 = .ok (.iconst 1, 1) := by decide +kernel
theorem dX4_putFloat_143 : decode cX4_putFloat 143 = .ok (.if_icmp .ne 13, 3) := by decide +kernel
theorem dX4_putFloat_146 : decode cX4_putFloat 146 = .ok (.aload_n 0, 1) := by decide +kernel
theorem dX4_putFloat_147 : decode cX4_putFloat 147 = .ok (.getfield 21, 3) := by decide +kernel
theorem dX4_putFloat_150 : decode cX4_putFloat 150 = .ok (.getfield 242, 3) := by decide +kernel
theorem dX4_putFloat_153 : decode cX4_putFloat 153 = .ok (.goto 13, 3) := by decide +kernel
theorem dX4_putFloat_156 : decode cX4_putFloat 156 = .ok (.aload_n 0, 1) := by decide +kernel
theorem dX4_putFloat_157 : decode cX4_putFloat 157 = .ok (.getfield 21, 3) := by decide +kernel
theorem dX4_putFloat_160 : decode cX4_putFloat 160 = .ok (.getfield 245, 3) := by decide +kernel
theorem dX4_putFloat_163 : decode cX4_putFloat 163 = .ok (.iload 9, 2) := by decide +kernel
theorem dX4_putFloat_165 : decode cX4_putFloat 165 = .ok (.isub, 1) := by decide +kernel
theorem dX4_putFloat_166 : decode cX4_putFloat 166 = .ok (.istore 11, 2) := by decide +kernel
theorem dX4_putFloat_168 : decode cX4_putFloat 168 = .ok (.aload 5, 2) := by decide +kernel
theorem dX4_putFloat_170 : decode cX4_putFloat 170 = .ok (.iload 11, 2) := by decide +kernel
theorem dX4_putFloat_172 : decode cX4_putFloat 172 = .ok (.aload 5, 2) := by decide +kernel
theorem dX4_putFloat_174 : decode cX4_putFloat 174 = .ok (.getfield 69, 3) := by decide +kernel
theorem dX4_putFloat_177 : decode cX4_putFloat 177 = .ok (.iadd, 1) := by decide +kernel
theorem dX4_putFloat_178 : decode cX4_putFloat 178 = .ok (.putfield 74, 3) := by decide +kernel
theorem dX4_putFloat_181 : decode cX4_putFloat 181 = .ok (.aload 5, 2) := by decide +kernel
theorem dX4_putFloat_183 : decode cX4_putFloat 183 = .ok (.iload 10, 2) := by decide +kernel
theorem dX4_putFloat_185 : decode cX4_putFloat 185 = .ok (.aload 5, 2) := by decide +kernel
theorem dX4_putFloat_187 : decode cX4_putFloat 187 = .ok (.getfield 69, 3) := by decide +kernel
theorem dX4_putFloat_190 : decode cX4_putFloat 190 = .ok (.iadd, 1) := by decide +kernel
theorem dX4_putFloat_191 : decode cX4_putFloat 191 = .ok (.putfield 77, 3) := by decide +kernel
theorem dX4_putFloat_194 : decode cX4_putFloat 194 = .ok (.aload_n 1, 1) := by decide +kernel
theorem dX4_putFloat_195 : decode cX4_putFloat 195 = .ok (.getfield 87, 3) := by decide +kernel
theorem dX4_putFloat_198 : decode cX4_putFloat 198 = .ok (.aload_n 1, 1) := by decide +kernel
theorem dX4_putFloat_199 : decode cX4_putFloat 199 = .ok (.getfield 91, 3) := by decide +kernel
theorem dX4_putFloat_202 : decode cX4_putFloat 202 = .ok (.putfield 94, 3) := by decide +kernel
theorem dX4_putFloat_205 : decode cX4_putFloat 205 = .ok (.aload_n 0, 1) := by decide +kernel
theorem dX4_putFloat_206 : decode cX4_putFloat 206 = .ok (.aload_n 1, 1) := by decide +kernel
theorem dX4_putFloat_207 : decode cX4_putFloat 207 = .ok (.aload_n 3, 1) := by decide +kernel
theorem dX4_putFloat_208 : decode cX4_putFloat 208 = .ok (.iload 4, 2) := by decide +kernel
theorem dX4_putFloat_210 : decode cX4_putFloat 210 = .ok (.invokevirtual 99, 3) := by decide +kernel
theorem dX4_putFloat_213 : decode cX4_putFloat 213 = .ok (.aload_n 0, 1) := by decide +kernel
theorem dX4_putFloat_214 : decode cX4_putFloat 214 = .ok (.getfield 21, 3) := by decide +kernel
theorem dX4_putFloat_217 : decode cX4_putFloat 217 = .ok (.iload 6, 2) := by decide +kernel
theorem dX4_putFloat_219 : decode cX4_putFloat 219 = .ok (.iload 7, 2) := by decide +kernel
theorem dX4_putFloat_221 : decode cX4_putFloat 221 = .ok (.iload 11, 2) := by decide +kernel
theorem dX4_putFloat_223 : decode cX4_putFloat 223 = .ok (.iload 10, 2) := by decide +kernel
theorem dX4_putFloat_225 : decode cX4_putFloat 225 = .ok (.iload 9, 2) := by decide +kernel
theorem dX4_putFloat_227 : decode cX4_putFloat 227 = .ok (.aload 5, 2) := by decide +kernel
theorem dX4_putFloat_229 : decode cX4_putFloat 229 = .ok (.getfield 218, 3) := by decide +kernel
theorem dX4_putFloat_232 : decode cX4_putFloat 232 = .ok (.iconst 2, 1) := by decide +kernel
theorem dX4_putFloat_233 : decode cX4_putFloat 233 = .ok (.aload 5, 2) := by decide +kernel
theorem dX4_putFloat_235 : decode cX4_putFloat 235 = .ok (.getfield 69, 3) := by decide +kernel
theorem dX4_putFloat_238 : decode cX4_putFloat 238 = .ok (.imul, 1) := by decide +kernel
theorem dX4_putFloat_239 : decode cX4_putFloat 239 = .ok (.iadd, 1) := by decide +kernel
theorem dX4_putFloat_240 : decode cX4_putFloat 240 = .ok (.invokevirtual 248, 3) := by decide +kernel
theorem dX4_putFloat_243 : decode cX4_putFloat 243 = .ok (.return_, 1) := by decide +kernel
set_option maxRecDepth 20000 in
theorem ggX4_putLines_X6_of : GoodIn wsX4_putLines wsX6_of := goodIn_r _ [24, 25, 26, 101, 102, 103, 104, 105, 106, 107, 108, 109, 110, 111, 112, 113, 114, 146, 147, 148] (by decide +kernel) (by decide +kernel)
set_option maxRecDepth 20000 in
theorem gX4_putLines_X6_of : GoodIn wsX4_putLines (wsV RX4 110 RX6 yX6_of wsX6_of) := goodIn_app (goodIn_of _ (by decide +kernel)) ggX4_putLines_X6_of
set_option maxRecDepth 20000 in
theorem ggX4_putLines_X8_widthOf : GoodIn wsX4_putLines wsX8_widthOf := goodIn_r _ [31, 32, 94, 95, 96, 97, 98, 99, 100] (by decide +kernel) (by decide +kernel)
set_option maxRecDepth 20000 in
theorem gX4_putLines_X8_widthOf : GoodIn wsX4_putLines (wsV RX4 255 RX8 yX8_widthOf wsX8_widthOf) := goodIn_app (goodIn_of _ (by decide +kernel)) ggX4_putLines_X8_widthOf
set_option maxRecDepth 20000 in
theorem ggX4_putLines_X0_findRoom : GoodIn wsX4_putLines wsX0_findRoom := goodIn_r _ [37, 38, 39, 40, 41, 42, 43, 36, 44, 45, 46, 47, 48, 49, 50, 51, 52, 53, 54, 55, 12, 56, 57, 58, 59, 11, 13, 60, 120, 121, 122, 123, 124, 125, 126, 127, 128, 129, 101, 102, 103, 104, 105, 106, 107, 108, 109, 110, 111, 112, 113, 114, 130, 131, 132, 133, 134, 135, 136, 137, 138, 139, 140, 141, 142, 143, 144, 145, 115, 116, 117, 118, 119] (by decide +kernel) (by decide +kernel)
set_option maxRecDepth 20000 in
theorem gX4_putLines_X0_findRoom : GoodIn wsX4_putLines (wsV RX4 238 RX0 yX0_findRoom wsX0_findRoom) := goodIn_app (goodIn_of _ (by decide +kernel)) ggX4_putLines_X0_findRoom
set_option maxRecDepth 20000 in
theorem ggX4_putLines_X8_takeLine : GoodIn wsX4_putLines wsX8_takeLine := goodIn_r _ [64, 65, 66, 67, 11, 12, 13, 68, 32, 69, 94, 95, 96, 97, 98, 99, 100] (by decide +kernel) (by decide +kernel)
set_option maxRecDepth 20000 in
theorem gX4_putLines_X8_takeLine : GoodIn wsX4_putLines (wsV RX4 258 RX8 yX8_takeLine wsX8_takeLine) := goodIn_app (goodIn_of _ (by decide +kernel)) ggX4_putLines_X8_takeLine
set_option maxRecDepth 20000 in
theorem ggX4_putLines_X8_setLine : GoodIn wsX4_putLines wsX8_setLine := goodIn_r _ [73, 67, 11, 12, 13, 68, 74, 75, 76, 32, 69, 77, 78, 79, 80, 81, 82, 83, 94, 95, 96, 97, 98, 99, 100, 101, 102, 103, 104, 105, 106, 107, 108, 109, 110, 111, 112, 113, 114, 130, 131, 132, 133, 134, 135, 136, 137, 138, 139, 140, 141, 142, 143, 144, 145] (by decide +kernel) (by decide +kernel)
set_option maxRecDepth 20000 in
theorem gX4_putLines_X8_setLine : GoodIn wsX4_putLines (wsV RX4 264 RX8 yX8_setLine wsX8_setLine) := goodIn_app (goodIn_of _ (by decide +kernel)) ggX4_putLines_X8_setLine
set_option maxRecDepth 20000 in
theorem ggX4_putLines_X8_clear : GoodIn wsX4_putLines wsX8_clear := goodIn_r _ [87, 68, 94, 95, 96, 97, 98, 99, 100] (by decide +kernel) (by decide +kernel)
set_option maxRecDepth 20000 in
theorem gX4_putLines_X8_clear : GoodIn wsX4_putLines (wsV RX4 45 RX8 yX8_clear wsX8_clear) := goodIn_app (goodIn_of _ (by decide +kernel)) ggX4_putLines_X8_clear
theorem dX4_putLines_0 : decode cX4_putLines 0 = .ok (.aload_n 0, 1) := by decide +kernel
theorem dX4_putLines_1 : decode cX4_putLines 1 = .ok (.getfield 12, 3) := by decide +kernel
theorem dX4_putLines_4 : decode cX4_putLines 4 = .ok (.aload_n 1, 1) := by decide +kernel
theorem dX4_putLines_5 : decode cX4_putLines 5 = .ok (.bipush 10, 2) := by decide +kernel
theorem dX4_putLines_7 : decode cX4_putLines 7 = .ok (.invokevirtual 110, 3) := by decide +kernel
theorem dX4_putLines_10 : decode cX4_putLines 10 = .ok (.istore_n 2, 1) := by decide +kernel
theorem dX4_putLines_11 : decode cX4_putLines 11 = .ok (.iconst 0, 1) := by decide +kernel
theorem dX4_putLines_12 : decode cX4_putLines 12 = .ok (.istore_n 3, 1) := by decide +kernel
theorem dX4_putLines_13 : decode cX4_putLines 13 = .ok (.iconst 0, 1) := by decide +kernel
theorem dX4_putLines_14 : decode cX4_putLines 14 = .ok (.istore 4, 2) := by decide +kernel
theorem dX4_putLines_16 : decode cX4_putLines 16 = .ok (.iload 4, 2) := by decide +kernel
theorem dX4_putLines_18 : decode cX4_putLines 18 = .ok (.sipush 800, 3) := by decide +kernel
theorem dX4_putLines_21 : decode cX4_putLines 21 = .ok (.if_icmp .ge 205, 3) := by decide +kernel
theorem dX4_putLines_24 : decode cX4_putLines 24 = .ok (.iload_n 3, 1) := by decide +kernel
theorem dX4_putLines_25 : decode cX4_putLines 25 = .ok (.aload_n 0, 1) := by decide +kernel
theorem dX4_putLines_26 : decode cX4_putLines 26 = .ok (.getfield 28, 3) := by decide +kernel
theorem dX4_putLines_29 : decode cX4_putLines 29 = .ok (.getfield 252, 3) := by decide +kernel
theorem dX4_putLines_32 : decode cX4_putLines 32 = .ok (.if_icmp .ge 194, 3) := by decide +kernel
theorem dX4_putLines_35 : decode cX4_putLines 35 = .ok (.aload_n 0, 1) := by decide +kernel
theorem dX4_putLines_36 : decode cX4_putLines 36 = .ok (.getfield 21, 3) := by decide +kernel
theorem dX4_putLines_39 : decode cX4_putLines 39 = .ok (.aload_n 0, 1) := by decide +kernel
theorem dX4_putLines_40 : decode cX4_putLines 40 = .ok (.getfield 28, 3) := by decide +kernel
theorem dX4_putLines_43 : decode cX4_putLines 43 = .ok (.iload_n 3, 1) := by decide +kernel
theorem dX4_putLines_44 : decode cX4_putLines 44 = .ok (.invokevirtual 255, 3) := by decide +kernel
theorem dX4_putLines_47 : decode cX4_putLines 47 = .ok (.aload_n 1, 1) := by decide +kernel
theorem dX4_putLines_48 : decode cX4_putLines 48 = .ok (.aload_n 1, 1) := by decide +kernel
theorem dX4_putLines_49 : decode cX4_putLines 49 = .ok (.getfield 87, 3) := by decide +kernel
theorem dX4_putLines_52 : decode cX4_putLines 52 = .ok (.getfield 197, 3) := by decide +kernel
theorem dX4_putLines_55 : decode cX4_putLines 55 = .ok (.invokevirtual 238, 3) := by decide +kernel
theorem dX4_putLines_58 : decode cX4_putLines 58 = .ok (.istore 5, 2) := by decide +kernel
theorem dX4_putLines_60 : decode cX4_putLines 60 = .ok (.aload_n 0, 1) := by decide +kernel
theorem dX4_putLines_61 : decode cX4_putLines 61 = .ok (.getfield 21, 3) := by decide +kernel
theorem dX4_putLines_64 : decode cX4_putLines 64 = .ok (.getfield 245, 3) := by decide +kernel
theorem dX4_putLines_67 : decode cX4_putLines 67 = .ok (.aload_n 0, 1) := by decide +kernel
theorem dX4_putLines_68 : decode cX4_putLines 68 = .ok (.getfield 21, 3) := by decide +kernel
theorem dX4_putLines_71 : decode cX4_putLines 71 = .ok (.getfield 242, 3) := by decide +kernel
theorem dX4_putLines_74 : decode cX4_putLines 74 = .ok (.isub, 1) := by decide +kernel
theorem dX4_putLines_75 : decode cX4_putLines 75 = .ok (.istore 6, 2) := by decide +kernel
theorem dX4_putLines_77 : decode cX4_putLines 77 = .ok (.aload_n 0, 1) := by decide +kernel
theorem dX4_putLines_78 : decode cX4_putLines 78 = .ok (.getfield 28, 3) := by decide +kernel
theorem dX4_putLines_81 : decode cX4_putLines 81 = .ok (.iload_n 3, 1) := by decide +kernel
theorem dX4_putLines_82 : decode cX4_putLines 82 = .ok (.iload 6, 2) := by decide +kernel
theorem dX4_putLines_84 : decode cX4_putLines 84 = .ok (.invokevirtual 258, 3) := by decide +kernel
theorem dX4_putLines_87 : decode cX4_putLines 87 = .ok (.istore 7, 2) := by decide +kernel
theorem dX4_putLines_89 : decode cX4_putLines 89 = .ok (.iconst 0, 1) := by decide +kernel
theorem dX4_putLines_90 : decode cX4_putLines 90 = .ok (.iload 6, 2) := by decide +kernel
theorem dX4_putLines_92 : decode cX4_putLines 92 = .ok (.aload_n 0, 1) := by decide +kernel
theorem dX4_putLines_93 : decode cX4_putLines 93 = .ok (.getfield 28, 3) := by decide +kernel
theorem dX4_putLines_96 : decode cX4_putLines 96 = .ok (.getfield 261, 3) := by decide +kernel
theorem dX4_putLines_99 : decode cX4_putLines 99 = .ok (.isub, 1) := by decide +kernel
theorem dX4_putLines_100 : decode cX4_putLines 100 = .ok (.invokestatic 187, 3) := by decide +kernel
theorem dX4_putLines_103 : decode cX4_putLines 103 = .ok (.istore 8, 2) := by decide +kernel
theorem dX4_putLines_105 : decode cX4_putLines 105 = .ok (.iload_n 2, 1) := by decide +kernel
theorem dX4_putLines_106 : decode cX4_putLines 106 = .ok (.ifCond .ne 7, 3) := by decide +kernel
theorem dX4_putLines_109 : decode cX4_putLines 109 = .ok (.iconst 0, 1) := by decide +kernel
theorem dX4_putLines_110 : decode cX4_putLines 110 = .ok (.goto 17, 3) := by decide +kernel
theorem dX4_putLines_113 : decode cX4_putLines 113 = .ok (.iload_n 2, 1) := by decide +kernel
theorem dX4_putLines_114 : decode cX4_putLines 114 = .ok (.iconst 1, 1) := by decide +kernel
theorem dX4_putLines_115 : decode cX4_putLines 115 = .ok (.if_icmp .ne 10, 3) := by decide +kernel
theorem dX4_putLines_118 : decode cX4_putLines 118 = .ok (.iload 8, 2) := by decide +kernel
theorem dX4_putLines_120 : decode cX4_putLines 120 = .ok (.iconst 2, 1) := by decide +kernel
theorem dX4_putLines_121 : decode cX4_putLines 121 = .ok (.idiv, 1) := by decide +kernel
theorem dX4_putLines_122 : decode cX4_putLines 122 = .ok (.goto 5, 3) := by decide +kernel
theorem dX4_putLines_125 : decode cX4_putLines 125 = .ok (.iload 8, 2) := by decide +kernel
theorem dX4_putLines_127 : decode cX4_putLines 127 = .ok (.istore 9, 2) := by decide +kernel
theorem dX4_putLines_129 : decode cX4_putLines 129 = .ok (.aload_n 0, 1) := by decide +kernel
theorem dX4_putLines_130 : decode cX4_putLines 130 = .ok (.getfield 28, 3) := by decide +kernel
theorem dX4_putLines_133 : decode cX4_putLines 133 = .ok (.iload_n 3, 1) := by decide +kernel
theorem dX4_putLines_134 : decode cX4_putLines 134 = .ok (.iload 7, 2) := by decide +kernel
theorem dX4_putLines_136 : decode cX4_putLines 136 = .ok (.aload_n 0, 1) := by decide +kernel
theorem dX4_putLines_137 : decode cX4_putLines 137 = .ok (.getfield 21, 3) := by decide +kernel
theorem dX4_putLines_140 : decode cX4_putLines 140 = .ok (.getfield 242, 3) := by decide +kernel
theorem dX4_putLines_143 : decode cX4_putLines 143 = .ok (.iload 9, 2) := by decide +kernel
theorem dX4_putLines_145 : decode cX4_putLines 145 = .ok (.iadd, 1) := by decide +kernel
theorem dX4_putLines_146 : decode cX4_putLines 146 = .ok (.iload 5, 2) := by decide +kernel
theorem dX4_putLines_148 : decode cX4_putLines 148 = .ok (.invokevirtual 264, 3) := by decide +kernel
theorem dX4_putLines_151 : decode cX4_putLines 151 = .ok (.aload_n 1, 1) := by decide +kernel
theorem dX4_putLines_152 : decode cX4_putLines 152 = .ok (.getfield 87, 3) := by decide +kernel
theorem dX4_putLines_155 : decode cX4_putLines 155 = .ok (.iload 5, 2) := by decide +kernel
theorem dX4_putLines_157 : decode cX4_putLines 157 = .ok (.iconst 2, 1) := by decide +kernel
theorem dX4_putLines_158 : decode cX4_putLines 158 = .ok (.aload_n 0, 1) := by decide +kernel
theorem dX4_putLines_159 : decode cX4_putLines 159 = .ok (.getfield 28, 3) := by decide +kernel
theorem dX4_putLines_162 : decode cX4_putLines 162 = .ok (.getfield 268, 3) := by decide +kernel
theorem dX4_putLines_165 : decode cX4_putLines 165 = .ok (.imul, 1) := by decide +kernel
theorem dX4_putLines_166 : decode cX4_putLines 166 = .ok (.iadd, 1) := by decide +kernel
theorem dX4_putLines_167 : decode cX4_putLines 167 = .ok (.putfield 197, 3) := by decide +kernel
theorem dX4_putLines_170 : decode cX4_putLines 170 = .ok (.aload_n 1, 1) := by decide +kernel
theorem dX4_putLines_171 : decode cX4_putLines 171 = .ok (.getfield 87, 3) := by decide +kernel
theorem dX4_putLines_174 : decode cX4_putLines 174 = .ok (.iconst 0, 1) := by decide +kernel
theorem dX4_putLines_175 : decode cX4_putLines 175 = .ok (.putfield 200, 3) := by decide +kernel
theorem dX4_putLines_178 : decode cX4_putLines 178 = .ok (.aload_n 1, 1) := by decide +kernel
theorem dX4_putLines_179 : decode cX4_putLines 179 = .ok (.getfield 63, 3) := by decide +kernel
theorem dX4_putLines_182 : decode cX4_putLines 182 = .ok (.dup, 1) := by decide +kernel
theorem dX4_putLines_183 : decode cX4_putLines 183 = .ok (.getfield 203, 3) := by decide +kernel
theorem dX4_putLines_186 : decode cX4_putLines 186 = .ok (.iconst 1, 1) := by decide +kernel
theorem dX4_putLines_187 : decode cX4_putLines 187 = .ok (.iadd, 1) := by decide +kernel
theorem dX4_putLines_188 : decode cX4_putLines 188 = .ok (.putfield 203, 3) := by decide +kernel
theorem dX4_putLines_191 : decode cX4_putLines 191 = .ok (.aload_n 0, 1) := by decide +kernel
theorem dX4_putLines_192 : decode cX4_putLines 192 = .ok (.dup, 1) := by decide +kernel
theorem dX4_putLines_193 : decode cX4_putLines 193 = .ok (.getfield 36, 3) := by decide +kernel
theorem dX4_putLines_196 : decode cX4_putLines 196 = .ok (.iconst 1, 1) := by decide +kernel
theorem dX4_putLines_197 : decode cX4_putLines 197 = .ok (.iadd, 1) := by decide +kernel
theorem dX4_putLines_198 : decode cX4_putLines 198 = .ok (.putfield 36, 3) := by decide +kernel
theorem dX4_putLines_201 : decode cX4_putLines 201 = .ok (.aload_n 0, 1) := by decide +kernel
theorem dX4_putLines_202 : decode cX4_putLines 202 = .ok (.dup, 1) := by decide +kernel
theorem dX4_putLines_203 : decode cX4_putLines 203 = .ok (.getfield 39, 3) := by decide +kernel
theorem dX4_putLines_206 : decode cX4_putLines 206 = .ok (.aload_n 0, 1) := by decide +kernel
theorem dX4_putLines_207 : decode cX4_putLines 207 = .ok (.getfield 28, 3) := by decide +kernel
theorem dX4_putLines_210 : decode cX4_putLines 210 = .ok (.getfield 261, 3) := by decide +kernel
theorem dX4_putLines_213 : decode cX4_putLines 213 = .ok (.iadd, 1) := by decide +kernel
theorem dX4_putLines_214 : decode cX4_putLines 214 = .ok (.putfield 39, 3) := by decide +kernel
theorem dX4_putLines_217 : decode cX4_putLines 217 = .ok (.iload 7, 2) := by decide +kernel
theorem dX4_putLines_219 : decode cX4_putLines 219 = .ok (.istore_n 3, 1) := by decide +kernel
theorem dX4_putLines_220 : decode cX4_putLines 220 = .ok (.iinc 4 1, 3) := by decide +kernel
theorem dX4_putLines_223 : decode cX4_putLines 223 = .ok (.goto (-207), 3) := by decide +kernel
theorem dX4_putLines_226 : decode cX4_putLines 226 = .ok (.aload_n 0, 1) := by decide +kernel
theorem dX4_putLines_227 : decode cX4_putLines 227 = .ok (.getfield 28, 3) := by decide +kernel
theorem dX4_putLines_230 : decode cX4_putLines 230 = .ok (.invokevirtual 45, 3) := by decide +kernel
theorem dX4_putLines_233 : decode cX4_putLines 233 = .ok (.return_, 1) := by decide +kernel
set_option maxRecDepth 20000 in
theorem ggX4_shift_Jx4a65c_size_8abf5 : GoodIn wsX4_shift wsJx4a65c_size_8abf5 := goodIn_r _ [23, 24, 91, 92, 93] (by decide +kernel) (by decide +kernel)
set_option maxRecDepth 20000 in
theorem gX4_shift_Jx4a65c_size_8abf5 : GoodIn wsX4_shift (wsV RX4 143 RJx4a65c yJx4a65c_size_8abf5 wsJx4a65c_size_8abf5) := goodIn_app (goodIn_of _ (by decide +kernel)) ggX4_shift_Jx4a65c_size_8abf5
set_option maxRecDepth 20000 in
theorem ggX4_shift_Jx4a65c_get_915e3 : GoodIn wsX4_shift wsJx4a65c_get_915e3 := goodIn_r _ [28, 24, 29, 30, 31, 32, 33, 34, 35, 36, 37, 38, 39, 22, 40, 41, 91, 92, 93] (by decide +kernel) (by decide +kernel)
set_option maxRecDepth 20000 in
theorem gX4_shift_Jx4a65c_get_915e3 : GoodIn wsX4_shift (wsV RX4 149 RJx4a65c yJx4a65c_get_915e3 wsJx4a65c_get_915e3) := goodIn_app (goodIn_of _ (by decide +kernel)) ggX4_shift_Jx4a65c_get_915e3
set_option maxRecDepth 20000 in
theorem ggX4_shift_X2_isBox : GoodIn wsX4_shift wsX2_isBox := goodIn_r _ [46, 47, 75, 76, 77, 78, 79, 80, 81, 82, 83, 84, 85, 86, 87, 88, 89, 90] (by decide +kernel) (by decide +kernel)
set_option maxRecDepth 20000 in
theorem gX4_shift_X2_isBox : GoodIn wsX4_shift (wsV RX4 167 RX2 yX2_isBox wsX2_isBox) := goodIn_app (goodIn_of _ (by decide +kernel)) ggX4_shift_X2_isBox
set_option maxRecDepth 20000 in
theorem ggX4_shift_X6_of : GoodIn wsX4_shift wsX6_of := goodIn_r _ [52, 53, 54, 55, 56, 57, 58, 59, 60, 61, 62, 63, 64, 65, 66, 67, 68, 94, 95, 96] (by decide +kernel) (by decide +kernel)
set_option maxRecDepth 20000 in
theorem gX4_shift_X6_of : GoodIn wsX4_shift (wsV RX4 110 RX6 yX6_of wsX6_of) := goodIn_app (goodIn_of _ (by decide +kernel)) ggX4_shift_X6_of
theorem dX4_shift_0 : decode cX4_shift 0 = .ok (.iconst 0, 1) := by decide +kernel
theorem dX4_shift_1 : decode cX4_shift 1 = .ok (.istore_n 2, 1) := by decide +kernel
theorem dX4_shift_2 : decode cX4_shift 2 = .ok (.iload_n 2, 1) := by decide +kernel
theorem dX4_shift_3 : decode cX4_shift 3 = .ok (.aload_n 1, 1) := by decide +kernel
theorem dX4_shift_4 : decode cX4_shift 4 = .ok (.invokevirtual 143, 3) := by decide +kernel
theorem dX4_shift_7 : decode cX4_shift 7 = .ok (.if_icmp .ge 175, 3) := by decide +kernel
theorem dX4_shift_10 : decode cX4_shift 10 = .ok (.aload_n 1, 1) := by decide +kernel
theorem dX4_shift_11 : decode cX4_shift 11 = .ok (.iload_n 2, 1) := by decide +kernel
theorem dX4_shift_12 : decode cX4_shift 12 = .ok (.invokevirtual 149, 3) := by decide +kernel
theorem dX4_shift_15 : decode cX4_shift 15 = .ok (.checkcast 64, 3) := by decide +kernel
theorem dX4_shift_18 : decode cX4_shift 18 = .ok (.astore_n 3, 1) := by decide +kernel
theorem dX4_shift_19 : decode cX4_shift 19 = .ok (.aload_n 3, 1) := by decide +kernel
theorem dX4_shift_20 : decode cX4_shift 20 = .ok (.getfield 63, 3) := by decide +kernel
theorem dX4_shift_23 : decode cX4_shift 23 = .ok (.astore 4, 2) := by decide +kernel
theorem dX4_shift_25 : decode cX4_shift 25 = .ok (.aload 4, 2) := by decide +kernel
theorem dX4_shift_27 : decode cX4_shift 27 = .ok (.aload 4, 2) := by decide +kernel
theorem dX4_shift_29 : decode cX4_shift 29 = .ok (.invokevirtual 167, 3) := by decide +kernel
theorem dX4_shift_32 : decode cX4_shift 32 = .ok (.ifCond .eq 16, 3) := by decide +kernel
theorem dX4_shift_35 : decode cX4_shift 35 = .ok (.aload_n 0, 1) := by decide +kernel
theorem dX4_shift_36 : decode cX4_shift 36 = .ok (.getfield 12, 3) := by decide +kernel
theorem dX4_shift_39 : decode cX4_shift 39 = .ok (.aload_n 3, 1) := by decide +kernel
theorem dX4_shift_40 : decode cX4_shift 40 = .ok (.bipush 12, 2) := by decide +kernel
theorem dX4_shift_42 : decode cX4_shift 42 = .ok (.invokevirtual 110, 3) := by decide +kernel
theorem dX4_shift_45 : decode cX4_shift 45 = .ok (.goto 4, 3) := by decide +kernel
theorem dX4_shift_48 : decode cX4_shift 48 = .ok (.iconst 0, 1) := by decide +kernel
theorem dX4_shift_49 : decode cX4_shift 49 = .ok (.putfield 271, 3) := by decide +kernel
theorem dX4_shift_52 : decode cX4_shift 52 = .ok (.aload 4, 2) := by decide +kernel
theorem dX4_shift_54 : decode cX4_shift 54 = .ok (.aload 4, 2) := by decide +kernel
theorem dX4_shift_56 : decode cX4_shift 56 = .ok (.invokevirtual 167, 3) := by decide +kernel
theorem dX4_shift_59 : decode cX4_shift 59 = .ok (.ifCond .eq 16, 3) := by decide +kernel
theorem dX4_shift_62 : decode cX4_shift 62 = .ok (.aload_n 0, 1) := by decide +kernel
theorem dX4_shift_63 : decode cX4_shift 63 = .ok (.getfield 12, 3) := by decide +kernel
theorem dX4_shift_66 : decode cX4_shift 66 = .ok (.aload_n 3, 1) := by decide +kernel
theorem dX4_shift_67 : decode cX4_shift 67 = .ok (.bipush 13, 2) := by decide +kernel
theorem dX4_shift_69 : decode cX4_shift 69 = .ok (.invokevirtual 110, 3) := by decide +kernel
theorem dX4_shift_72 : decode cX4_shift 72 = .ok (.goto 4, 3) := by decide +kernel
theorem dX4_shift_75 : decode cX4_shift 75 = .ok (.iconst 0, 1) := by decide +kernel
theorem dX4_shift_76 : decode cX4_shift 76 = .ok (.putfield 274, 3) := by decide +kernel
theorem dX4_shift_79 : decode cX4_shift 79 = .ok (.aload 4, 2) := by decide +kernel
theorem dX4_shift_81 : decode cX4_shift 81 = .ok (.aload 4, 2) := by decide +kernel
theorem dX4_shift_83 : decode cX4_shift 83 = .ok (.getfield 171, 3) := by decide +kernel
theorem dX4_shift_86 : decode cX4_shift 86 = .ok (.ifCond .eq 28, 3) := by decide +kernel
theorem dX4_shift_89 : decode cX4_shift 89 = .ok (.aload_n 3, 1) := by decide +kernel
theorem dX4_shift_90 : decode cX4_shift 90 = .ok (.getfield 277, 3) := by decide +kernel
theorem dX4_shift_93 : decode cX4_shift 93 = .ok (.iconst 0, 1) := by decide +kernel
theorem dX4_shift_94 : decode cX4_shift 94 = .ok (.aload 4, 2) := by decide +kernel
theorem dX4_shift_96 : decode cX4_shift 96 = .ok (.getfield 215, 3) := by decide +kernel
theorem dX4_shift_99 : decode cX4_shift 99 = .ok (.aload 4, 2) := by decide +kernel
theorem dX4_shift_101 : decode cX4_shift 101 = .ok (.getfield 218, 3) := by decide +kernel
theorem dX4_shift_104 : decode cX4_shift 104 = .ok (.isub, 1) := by decide +kernel
theorem dX4_shift_105 : decode cX4_shift 105 = .ok (.invokestatic 187, 3) := by decide +kernel
theorem dX4_shift_108 : decode cX4_shift 108 = .ok (.invokestatic 232, 3) := by decide +kernel
theorem dX4_shift_111 : decode cX4_shift 111 = .ok (.goto 4, 3) := by decide +kernel
theorem dX4_shift_114 : decode cX4_shift 114 = .ok (.iconst 0, 1) := by decide +kernel
theorem dX4_shift_115 : decode cX4_shift 115 = .ok (.putfield 280, 3) := by decide +kernel
theorem dX4_shift_118 : decode cX4_shift 118 = .ok (.aload_n 3, 1) := by decide +kernel
theorem dX4_shift_119 : decode cX4_shift 119 = .ok (.getfield 133, 3) := by decide +kernel
theorem dX4_shift_122 : decode cX4_shift 122 = .ok (.ifnull 54, 3) := by decide +kernel
theorem dX4_shift_125 : decode cX4_shift 125 = .ok (.aload 4, 2) := by decide +kernel
theorem dX4_shift_127 : decode cX4_shift 127 = .ok (.dup, 1) := by decide +kernel
theorem dX4_shift_128 : decode cX4_shift 128 = .ok (.getfield 271, 3) := by decide +kernel
theorem dX4_shift_131 : decode cX4_shift 131 = .ok (.aload_n 3, 1) := by decide +kernel
theorem dX4_shift_132 : decode cX4_shift 132 = .ok (.getfield 133, 3) := by decide +kernel
theorem dX4_shift_135 : decode cX4_shift 135 = .ok (.getfield 63, 3) := by decide +kernel
theorem dX4_shift_138 : decode cX4_shift 138 = .ok (.getfield 271, 3) := by decide +kernel
theorem dX4_shift_141 : decode cX4_shift 141 = .ok (.iadd, 1) := by decide +kernel
theorem dX4_shift_142 : decode cX4_shift 142 = .ok (.putfield 271, 3) := by decide +kernel
theorem dX4_shift_145 : decode cX4_shift 145 = .ok (.aload 4, 2) := by decide +kernel
theorem dX4_shift_147 : decode cX4_shift 147 = .ok (.dup, 1) := by decide +kernel
theorem dX4_shift_148 : decode cX4_shift 148 = .ok (.getfield 274, 3) := by decide +kernel
theorem dX4_shift_151 : decode cX4_shift 151 = .ok (.aload_n 3, 1) := by decide +kernel
theorem dX4_shift_152 : decode cX4_shift 152 = .ok (.getfield 133, 3) := by decide +kernel
theorem dX4_shift_155 : decode cX4_shift 155 = .ok (.getfield 63, 3) := by decide +kernel
theorem dX4_shift_158 : decode cX4_shift 158 = .ok (.getfield 274, 3) := by decide +kernel
theorem dX4_shift_161 : decode cX4_shift 161 = .ok (.aload_n 3, 1) := by decide +kernel
theorem dX4_shift_162 : decode cX4_shift 162 = .ok (.getfield 133, 3) := by decide +kernel
theorem dX4_shift_165 : decode cX4_shift 165 = .ok (.getfield 63, 3) := by decide +kernel
theorem dX4_shift_168 : decode cX4_shift 168 = .ok (.getfield 280, 3) := by decide +kernel
theorem dX4_shift_171 : decode cX4_shift 171 = .ok (.isub, 1) := by decide +kernel
theorem dX4_shift_172 : decode cX4_shift 172 = .ok (.iadd, 1) := by decide +kernel
theorem dX4_shift_173 : decode cX4_shift 173 = .ok (.putfield 274, 3) := by decide +kernel
theorem dX4_shift_176 : decode cX4_shift 176 = .ok (.iinc 2 1, 3) := by decide +kernel
theorem dX4_shift_179 : decode cX4_shift 179 = .ok (.goto (-177), 3) := by decide +kernel
theorem dX4_shift_182 : decode cX4_shift 182 = .ok (.return_, 1) := by decide +kernel
theorem dX5_init_0 : decode cX5_init 0 = .ok (.aload_n 0, 1) := by decide +kernel
theorem dX5_init_1 : decode cX5_init 1 = .ok (.invokespecial 3, 3) := by decide +kernel
theorem dX5_init_4 : decode cX5_init 4 = .ok (.aload_n 0, 1) := by decide +kernel
theorem dX5_init_5 : decode cX5_init 5 = .ok (.iconst 3, 1) := by decide +kernel
theorem dX5_init_6 : decode cX5_init 6 = .ok (.newarray .int, 2) := by decide +kernel
theorem dX5_init_8 : decode cX5_init 8 = .ok (.putfield 9, 3) := by decide +kernel
theorem dX5_init_11 : decode cX5_init 11 = .ok (.aload_n 0, 1) := by decide +kernel
theorem dX5_init_12 : decode cX5_init 12 = .ok (.iconst 3, 1) := by decide +kernel
theorem dX5_init_13 : decode cX5_init 13 = .ok (.newarray .int, 2) := by decide +kernel
theorem dX5_init_15 : decode cX5_init 15 = .ok (.putfield 15, 3) := by decide +kernel
theorem dX5_init_18 : decode cX5_init 18 = .ok (.aload_n 0, 1) := by decide +kernel
theorem dX5_init_19 : decode cX5_init 19 = .ok (.iconst 3, 1) := by decide +kernel
theorem dX5_init_20 : decode cX5_init 20 = .ok (.newarray .int, 2) := by decide +kernel
theorem dX5_init_22 : decode cX5_init 22 = .ok (.putfield 18, 3) := by decide +kernel
theorem dX5_init_25 : decode cX5_init 25 = .ok (.aload_n 0, 1) := by decide +kernel
theorem dX5_init_26 : decode cX5_init 26 = .ok (.iconst 3, 1) := by decide +kernel
theorem dX5_init_27 : decode cX5_init 27 = .ok (.newarray .boolean, 2) := by decide +kernel
theorem dX5_init_29 : decode cX5_init 29 = .ok (.putfield 21, 3) := by decide +kernel
theorem dX5_init_32 : decode cX5_init 32 = .ok (.aload_n 0, 1) := by decide +kernel
theorem dX5_init_33 : decode cX5_init 33 = .ok (.iconst 0, 1) := by decide +kernel
theorem dX5_init_34 : decode cX5_init 34 = .ok (.putfield 25, 3) := by decide +kernel
theorem dX5_init_37 : decode cX5_init 37 = .ok (.aload_n 0, 1) := by decide +kernel
theorem dX5_init_38 : decode cX5_init 38 = .ok (.iconst 0, 1) := by decide +kernel
theorem dX5_init_39 : decode cX5_init 39 = .ok (.putfield 29, 3) := by decide +kernel
theorem dX5_init_42 : decode cX5_init 42 = .ok (.aload_n 0, 1) := by decide +kernel
theorem dX5_init_43 : decode cX5_init 43 = .ok (.iconst 1, 1) := by decide +kernel
theorem dX5_init_44 : decode cX5_init 44 = .ok (.putfield 32, 3) := by decide +kernel
theorem dX5_init_47 : decode cX5_init 47 = .ok (.aload_n 0, 1) := by decide +kernel
theorem dX5_init_48 : decode cX5_init 48 = .ok (.iload_n 1, 1) := by decide +kernel
theorem dX5_init_49 : decode cX5_init 49 = .ok (.putfield 36, 3) := by decide +kernel
theorem dX5_init_52 : decode cX5_init 52 = .ok (.aload_n 0, 1) := by decide +kernel
theorem dX5_init_53 : decode cX5_init 53 = .ok (.iload_n 2, 1) := by decide +kernel
theorem dX5_init_54 : decode cX5_init 54 = .ok (.putfield 39, 3) := by decide +kernel
theorem dX5_init_57 : decode cX5_init 57 = .ok (.aload_n 0, 1) := by decide +kernel
theorem dX5_init_58 : decode cX5_init 58 = .ok (.iload_n 3, 1) := by decide +kernel
theorem dX5_init_59 : decode cX5_init 59 = .ok (.putfield 42, 3) := by decide +kernel
theorem dX5_init_62 : decode cX5_init 62 = .ok (.return_, 1) := by decide +kernel
theorem dX5_takePart_0 : decode cX5_takePart 0 = .ok (.aload_n 0, 1) := by decide +kernel
theorem dX5_takePart_1 : decode cX5_takePart 1 = .ok (.getfield 25, 3) := by decide +kernel
theorem dX5_takePart_4 : decode cX5_takePart 4 = .ok (.ifCond .lt 11, 3) := by decide +kernel
theorem dX5_takePart_7 : decode cX5_takePart 7 = .ok (.aload_n 0, 1) := by decide +kernel
theorem dX5_takePart_8 : decode cX5_takePart 8 = .ok (.getfield 25, 3) := by decide +kernel
theorem dX5_takePart_11 : decode cX5_takePart 11 = .ok (.iconst 3, 1) := by decide +kernel
theorem dX5_takePart_12 : decode cX5_takePart 12 = .ok (.if_icmp .lt 4, 3) := by decide +kernel
theorem dX5_takePart_15 : decode cX5_takePart 15 = .ok (.return_, 1) := by decide +kernel
theorem dX5_takePart_16 : decode cX5_takePart 16 = .ok (.aload_n 0, 1) := by decide +kernel
theorem dX5_takePart_17 : decode cX5_takePart 17 = .ok (.getfield 9, 3) := by decide +kernel
theorem dX5_takePart_20 : decode cX5_takePart 20 = .ok (.aload_n 0, 1) := by decide +kernel
theorem dX5_takePart_21 : decode cX5_takePart 21 = .ok (.getfield 25, 3) := by decide +kernel
theorem dX5_takePart_24 : decode cX5_takePart 24 = .ok (.iload_n 1, 1) := by decide +kernel
theorem dX5_takePart_25 : decode cX5_takePart 25 = .ok (.iastore, 1) := by decide +kernel
theorem dX5_takePart_26 : decode cX5_takePart 26 = .ok (.aload_n 0, 1) := by decide +kernel
theorem dX5_takePart_27 : decode cX5_takePart 27 = .ok (.getfield 15, 3) := by decide +kernel
theorem dX5_takePart_30 : decode cX5_takePart 30 = .ok (.aload_n 0, 1) := by decide +kernel
theorem dX5_takePart_31 : decode cX5_takePart 31 = .ok (.getfield 25, 3) := by decide +kernel
theorem dX5_takePart_34 : decode cX5_takePart 34 = .ok (.iload_n 2, 1) := by decide +kernel
theorem dX5_takePart_35 : decode cX5_takePart 35 = .ok (.ifCond .lt 15, 3) := by decide +kernel
theorem dX5_takePart_38 : decode cX5_takePart 38 = .ok (.iload_n 2, 1) := by decide +kernel
theorem dX5_takePart_39 : decode cX5_takePart 39 = .ok (.bipush 7, 2) := by decide +kernel
theorem dX5_takePart_41 : decode cX5_takePart 41 = .ok (.if_icmp .gt 9, 3) := by decide +kernel
theorem dX5_takePart_44 : decode cX5_takePart 44 = .ok (.iconst 1, 1) := by decide +kernel
theorem dX5_takePart_45 : decode cX5_takePart 45 = .ok (.iload_n 2, 1) := by decide +kernel
theorem dX5_takePart_46 : decode cX5_takePart 46 = .ok (.ishl, 1) := by decide +kernel
theorem dX5_takePart_47 : decode cX5_takePart 47 = .ok (.goto 4, 3) := by decide +kernel
theorem dX5_takePart_50 : decode cX5_takePart 50 = .ok (.iconst 0, 1) := by decide +kernel
theorem dX5_takePart_51 : decode cX5_takePart 51 = .ok (.iastore, 1) := by decide +kernel
theorem dX5_takePart_52 : decode cX5_takePart 52 = .ok (.aload_n 0, 1) := by decide +kernel
theorem dX5_takePart_53 : decode cX5_takePart 53 = .ok (.getfield 18, 3) := by decide +kernel
theorem dX5_takePart_56 : decode cX5_takePart 56 = .ok (.aload_n 0, 1) := by decide +kernel
theorem dX5_takePart_57 : decode cX5_takePart 57 = .ok (.getfield 25, 3) := by decide +kernel
theorem dX5_takePart_60 : decode cX5_takePart 60 = .ok (.iload_n 3, 1) := by decide +kernel
theorem dX5_takePart_61 : decode cX5_takePart 61 = .ok (.iastore, 1) := by decide +kernel
theorem dX5_takePart_62 : decode cX5_takePart 62 = .ok (.aload_n 0, 1) := by decide +kernel
theorem dX5_takePart_63 : decode cX5_takePart 63 = .ok (.getfield 21, 3) := by decide +kernel
theorem dX5_takePart_66 : decode cX5_takePart 66 = .ok (.aload_n 0, 1) := by decide +kernel
theorem dX5_takePart_67 : decode cX5_takePart 67 = .ok (.getfield 25, 3) := by decide +kernel
theorem dX5_takePart_70 : decode cX5_takePart 70 = .ok (.iload 4, 2) := by decide +kernel
theorem dX5_takePart_72 : decode cX5_takePart 72 = .ok (.bastore, 1) := by decide +kernel
theorem dX5_takePart_73 : decode cX5_takePart 73 = .ok (.aload_n 0, 1) := by decide +kernel
theorem dX5_takePart_74 : decode cX5_takePart 74 = .ok (.dup, 1) := by decide +kernel
theorem dX5_takePart_75 : decode cX5_takePart 75 = .ok (.getfield 25, 3) := by decide +kernel
theorem dX5_takePart_78 : decode cX5_takePart 78 = .ok (.iconst 1, 1) := by decide +kernel
theorem dX5_takePart_79 : decode cX5_takePart 79 = .ok (.iadd, 1) := by decide +kernel
theorem dX5_takePart_80 : decode cX5_takePart 80 = .ok (.putfield 25, 3) := by decide +kernel
theorem dX5_takePart_83 : decode cX5_takePart 83 = .ok (.aload_n 0, 1) := by decide +kernel
theorem dX5_takePart_84 : decode cX5_takePart 84 = .ok (.dup, 1) := by decide +kernel
theorem dX5_takePart_85 : decode cX5_takePart 85 = .ok (.getfield 29, 3) := by decide +kernel
theorem dX5_takePart_88 : decode cX5_takePart 88 = .ok (.iload_n 3, 1) := by decide +kernel
theorem dX5_takePart_89 : decode cX5_takePart 89 = .ok (.ifCond .eq 8, 3) := by decide +kernel
theorem dX5_takePart_92 : decode cX5_takePart 92 = .ok (.bipush 100, 2) := by decide +kernel
theorem dX5_takePart_94 : decode cX5_takePart 94 = .ok (.goto 4, 3) := by decide +kernel
theorem dX5_takePart_97 : decode cX5_takePart 97 = .ok (.iconst 0, 1) := by decide +kernel
theorem dX5_takePart_98 : decode cX5_takePart 98 = .ok (.iload_n 2, 1) := by decide +kernel
theorem dX5_takePart_99 : decode cX5_takePart 99 = .ok (.iconst (-1), 1) := by decide +kernel
theorem dX5_takePart_100 : decode cX5_takePart 100 = .ok (.if_icmp .eq 8, 3) := by decide +kernel
theorem dX5_takePart_103 : decode cX5_takePart 103 = .ok (.bipush 10, 2) := by decide +kernel
theorem dX5_takePart_105 : decode cX5_takePart 105 = .ok (.goto 4, 3) := by decide +kernel
theorem dX5_takePart_108 : decode cX5_takePart 108 = .ok (.iconst 0, 1) := by decide +kernel
theorem dX5_takePart_109 : decode cX5_takePart 109 = .ok (.iadd, 1) := by decide +kernel
theorem dX5_takePart_110 : decode cX5_takePart 110 = .ok (.iload_n 1, 1) := by decide +kernel
theorem dX5_takePart_111 : decode cX5_takePart 111 = .ok (.iconst (-1), 1) := by decide +kernel
theorem dX5_takePart_112 : decode cX5_takePart 112 = .ok (.if_icmp .eq 7, 3) := by decide +kernel
theorem dX5_takePart_115 : decode cX5_takePart 115 = .ok (.iconst 1, 1) := by decide +kernel
theorem dX5_takePart_116 : decode cX5_takePart 116 = .ok (.goto 4, 3) := by decide +kernel
theorem dX5_takePart_119 : decode cX5_takePart 119 = .ok (.iconst 0, 1) := by decide +kernel
theorem dX5_takePart_120 : decode cX5_takePart 120 = .ok (.iadd, 1) := by decide +kernel
theorem dX5_takePart_121 : decode cX5_takePart 121 = .ok (.iadd, 1) := by decide +kernel
theorem dX5_takePart_122 : decode cX5_takePart 122 = .ok (.putfield 29, 3) := by decide +kernel
theorem dX5_takePart_125 : decode cX5_takePart 125 = .ok (.return_, 1) := by decide +kernel
set_option maxRecDepth 20000 in
theorem ggX5_selects_X5_fitsUpTo : GoodIn wsX5_selects wsX5_fitsUpTo := goodIn_r _ [6, 7, 8, 9, 10, 11, 5, 12, 2, 13, 14, 15, 16, 17, 18, 3, 4, 19, 20, 21, 22, 23, 24, 25, 26, 27, 28, 29, 30, 31, 32, 33, 34, 35, 36, 37, 38, 39, 40, 41, 42] (by decide +kernel) (by decide +kernel)
set_option maxRecDepth 20000 in
theorem gX5_selects_X5_fitsUpTo : GoodIn wsX5_selects (va_wsS RX5 50 yX5_fitsUpTo wsX5_fitsUpTo) := goodIn_app (goodIn_of _ (by decide +kernel)) ggX5_selects_X5_fitsUpTo
theorem dX5_selects_0 : decode cX5_selects 0 = .ok (.aload_n 1, 1) := by decide +kernel
theorem dX5_selects_1 : decode cX5_selects 1 = .ok (.getfield 45, 3) := by decide +kernel
theorem dX5_selects_4 : decode cX5_selects 4 = .ok (.ifCond .ne 28, 3) := by decide +kernel
theorem dX5_selects_7 : decode cX5_selects 7 = .ok (.aload_n 0, 1) := by decide +kernel
theorem dX5_selects_8 : decode cX5_selects 8 = .ok (.getfield 25, 3) := by decide +kernel
theorem dX5_selects_11 : decode cX5_selects 11 = .ok (.ifCond .le 21, 3) := by decide +kernel
theorem dX5_selects_14 : decode cX5_selects 14 = .ok (.aload_n 0, 1) := by decide +kernel
theorem dX5_selects_15 : decode cX5_selects 15 = .ok (.aload_n 0, 1) := by decide +kernel
theorem dX5_selects_16 : decode cX5_selects 16 = .ok (.getfield 25, 3) := by decide +kernel
theorem dX5_selects_19 : decode cX5_selects 19 = .ok (.iconst 1, 1) := by decide +kernel
theorem dX5_selects_20 : decode cX5_selects 20 = .ok (.isub, 1) := by decide +kernel
theorem dX5_selects_21 : decode cX5_selects 21 = .ok (.aload_n 1, 1) := by decide +kernel
theorem dX5_selects_22 : decode cX5_selects 22 = .ok (.invokestatic 50, 3) := by decide +kernel
theorem dX5_selects_25 : decode cX5_selects 25 = .ok (.ifCond .eq 7, 3) := by decide +kernel
theorem dX5_selects_28 : decode cX5_selects 28 = .ok (.iconst 1, 1) := by decide +kernel
theorem dX5_selects_29 : decode cX5_selects 29 = .ok (.goto 4, 3) := by decide +kernel
theorem dX5_selects_32 : decode cX5_selects 32 = .ok (.iconst 0, 1) := by decide +kernel
theorem dX5_selects_33 : decode cX5_selects 33 = .ok (.ireturn, 1) := by decide +kernel
set_option maxRecDepth 20000 in
theorem ggX5_fitsUpTo_X5_fits : GoodIn wsX5_fitsUpTo wsX5_fits := goodIn_r _ [7, 8, 9, 10, 11, 12, 13, 14, 31, 32, 33, 34, 35, 36, 37, 38, 39, 40, 17, 18, 19, 20, 21, 22, 23, 24, 25, 26, 27, 28, 29, 30] (by decide +kernel) (by decide +kernel)
set_option maxRecDepth 20000 in
theorem gX5_fitsUpTo_X5_fits : GoodIn wsX5_fitsUpTo (wsV RX5 54 RX5 yX5_fits wsX5_fits) := goodIn_app (goodIn_of _ (by decide +kernel)) ggX5_fitsUpTo_X5_fits
set_option maxRecDepth 20000 in
theorem ggX5_fitsUpTo_X5_fitsUpTo : GoodIn wsX5_fitsUpTo wsX5_fitsUpTo := goodIn_r _ [0, 1, 2, 3, 4, 5, 6, 7, 8, 9, 10, 11, 12, 13, 14, 15, 16, 17, 18, 19, 20, 21, 22, 23, 24, 25, 26, 27, 28, 29, 30, 31, 32, 33, 34, 35, 36, 37, 38, 39, 40] (by decide +kernel) (by decide +kernel)
set_option maxRecDepth 20000 in
theorem gX5_fitsUpTo_X5_fitsUpTo : GoodIn wsX5_fitsUpTo (va_wsS RX5 50 yX5_fitsUpTo wsX5_fitsUpTo) := goodIn_app (goodIn_of _ (by decide +kernel)) ggX5_fitsUpTo_X5_fitsUpTo
theorem dX5_fitsUpTo_0 : decode cX5_fitsUpTo 0 = .ok (.aload_n 0, 1) := by decide +kernel
theorem dX5_fitsUpTo_1 : decode cX5_fitsUpTo 1 = .ok (.iload_n 1, 1) := by decide +kernel
theorem dX5_fitsUpTo_2 : decode cX5_fitsUpTo 2 = .ok (.aload_n 2, 1) := by decide +kernel
theorem dX5_fitsUpTo_3 : decode cX5_fitsUpTo 3 = .ok (.invokevirtual 54, 3) := by decide +kernel
theorem dX5_fitsUpTo_6 : decode cX5_fitsUpTo 6 = .ok (.ifCond .ne 5, 3) := by decide +kernel
theorem dX5_fitsUpTo_9 : decode cX5_fitsUpTo 9 = .ok (.iconst 0, 1) := by decide +kernel
theorem dX5_fitsUpTo_10 : decode cX5_fitsUpTo 10 = .ok (.ireturn, 1) := by decide +kernel
theorem dX5_fitsUpTo_11 : decode cX5_fitsUpTo 11 = .ok (.iload_n 1, 1) := by decide +kernel
theorem dX5_fitsUpTo_12 : decode cX5_fitsUpTo 12 = .ok (.ifCond .ne 5, 3) := by decide +kernel
theorem dX5_fitsUpTo_15 : decode cX5_fitsUpTo 15 = .ok (.iconst 1, 1) := by decide +kernel
theorem dX5_fitsUpTo_16 : decode cX5_fitsUpTo 16 = .ok (.ireturn, 1) := by decide +kernel
theorem dX5_fitsUpTo_17 : decode cX5_fitsUpTo 17 = .ok (.aload_n 2, 1) := by decide +kernel
theorem dX5_fitsUpTo_18 : decode cX5_fitsUpTo 18 = .ok (.getfield 58, 3) := by decide +kernel
theorem dX5_fitsUpTo_21 : decode cX5_fitsUpTo 21 = .ok (.astore_n 3, 1) := by decide +kernel
theorem dX5_fitsUpTo_22 : decode cX5_fitsUpTo 22 = .ok (.aload_n 3, 1) := by decide +kernel
theorem dX5_fitsUpTo_23 : decode cX5_fitsUpTo 23 = .ok (.ifnull 35, 3) := by decide +kernel
theorem dX5_fitsUpTo_26 : decode cX5_fitsUpTo 26 = .ok (.aload_n 0, 1) := by decide +kernel
theorem dX5_fitsUpTo_27 : decode cX5_fitsUpTo 27 = .ok (.iload_n 1, 1) := by decide +kernel
theorem dX5_fitsUpTo_28 : decode cX5_fitsUpTo 28 = .ok (.iconst 1, 1) := by decide +kernel
theorem dX5_fitsUpTo_29 : decode cX5_fitsUpTo 29 = .ok (.isub, 1) := by decide +kernel
theorem dX5_fitsUpTo_30 : decode cX5_fitsUpTo 30 = .ok (.aload_n 3, 1) := by decide +kernel
theorem dX5_fitsUpTo_31 : decode cX5_fitsUpTo 31 = .ok (.invokestatic 50, 3) := by decide +kernel
theorem dX5_fitsUpTo_34 : decode cX5_fitsUpTo 34 = .ok (.ifCond .eq 5, 3) := by decide +kernel
theorem dX5_fitsUpTo_37 : decode cX5_fitsUpTo 37 = .ok (.iconst 1, 1) := by decide +kernel
theorem dX5_fitsUpTo_38 : decode cX5_fitsUpTo 38 = .ok (.ireturn, 1) := by decide +kernel
theorem dX5_fitsUpTo_39 : decode cX5_fitsUpTo 39 = .ok (.aload_n 0, 1) := by decide +kernel
theorem dX5_fitsUpTo_40 : decode cX5_fitsUpTo 40 = .ok (.getfield 21, 3) := by decide +kernel
theorem dX5_fitsUpTo_43 : decode cX5_fitsUpTo 43 = .ok (.iload_n 1, 1) := by decide +kernel
theorem dX5_fitsUpTo_44 : decode cX5_fitsUpTo 44 = .ok (.baload, 1) := by decide +kernel
theorem dX5_fitsUpTo_45 : decode cX5_fitsUpTo 45 = .ok (.ifCond .eq 5, 3) := by decide +kernel
theorem dX5_fitsUpTo_48 : decode cX5_fitsUpTo 48 = .ok (.iconst 0, 1) := by decide +kernel
theorem dX5_fitsUpTo_49 : decode cX5_fitsUpTo 49 = .ok (.ireturn, 1) := by decide +kernel
theorem dX5_fitsUpTo_50 : decode cX5_fitsUpTo 50 = .ok (.aload_n 3, 1) := by decide +kernel
theorem dX5_fitsUpTo_51 : decode cX5_fitsUpTo 51 = .ok (.getfield 58, 3) := by decide +kernel
theorem dX5_fitsUpTo_54 : decode cX5_fitsUpTo 54 = .ok (.astore_n 3, 1) := by decide +kernel
theorem dX5_fitsUpTo_55 : decode cX5_fitsUpTo 55 = .ok (.goto (-33), 3) := by decide +kernel
theorem dX5_fitsUpTo_58 : decode cX5_fitsUpTo 58 = .ok (.iconst 0, 1) := by decide +kernel
theorem dX5_fitsUpTo_59 : decode cX5_fitsUpTo 59 = .ok (.ireturn, 1) := by decide +kernel
theorem dX5_fits_0 : decode cX5_fits 0 = .ok (.iload_n 1, 1) := by decide +kernel
theorem dX5_fits_1 : decode cX5_fits 1 = .ok (.ifCond .lt 16, 3) := by decide +kernel
theorem dX5_fits_4 : decode cX5_fits 4 = .ok (.iload_n 1, 1) := by decide +kernel
theorem dX5_fits_5 : decode cX5_fits 5 = .ok (.aload_n 0, 1) := by decide +kernel
theorem dX5_fits_6 : decode cX5_fits 6 = .ok (.getfield 25, 3) := by decide +kernel
theorem dX5_fits_9 : decode cX5_fits 9 = .ok (.if_icmp .ge 8, 3) := by decide +kernel
theorem dX5_fits_12 : decode cX5_fits 12 = .ok (.iload_n 1, 1) := by decide +kernel
theorem dX5_fits_13 : decode cX5_fits 13 = .ok (.iconst 3, 1) := by decide +kernel
theorem dX5_fits_14 : decode cX5_fits 14 = .ok (.if_icmp .lt 5, 3) := by decide +kernel
theorem dX5_fits_17 : decode cX5_fits 17 = .ok (.iconst 0, 1) := by decide +kernel
theorem dX5_fits_18 : decode cX5_fits 18 = .ok (.ireturn, 1) := by decide +kernel
theorem dX5_fits_19 : decode cX5_fits 19 = .ok (.aload_n 0, 1) := by decide +kernel
theorem dX5_fits_20 : decode cX5_fits 20 = .ok (.getfield 9, 3) := by decide +kernel
theorem dX5_fits_23 : decode cX5_fits 23 = .ok (.iload_n 1, 1) := by decide +kernel
theorem dX5_fits_24 : decode cX5_fits 24 = .ok (.iaload, 1) := by decide +kernel
theorem dX5_fits_25 : decode cX5_fits 25 = .ok (.iconst (-1), 1) := by decide +kernel
theorem dX5_fits_26 : decode cX5_fits 26 = .ok (.if_icmp .eq 16, 3) := by decide +kernel
theorem dX5_fits_29 : decode cX5_fits 29 = .ok (.aload_n 0, 1) := by decide +kernel
theorem dX5_fits_30 : decode cX5_fits 30 = .ok (.getfield 9, 3) := by decide +kernel
theorem dX5_fits_33 : decode cX5_fits 33 = .ok (.iload_n 1, 1) := by decide +kernel
theorem dX5_fits_34 : decode cX5_fits 34 = .ok (.iaload, 1) := by decide +kernel
theorem dX5_fits_35 : decode cX5_fits 35 = .ok (.aload_n 2, 1) := by decide +kernel
theorem dX5_fits_36 : decode cX5_fits 36 = .ok (.getfield 62, 3) := by decide +kernel
theorem dX5_fits_39 : decode cX5_fits 39 = .ok (.if_icmp .ne 7, 3) := by decide +kernel
theorem dX5_fits_42 : decode cX5_fits 42 = .ok (.iconst 1, 1) := by decide +kernel
theorem dX5_fits_43 : decode cX5_fits 43 = .ok (.goto 4, 3) := by decide +kernel
theorem dX5_fits_46 : decode cX5_fits 46 = .ok (.iconst 0, 1) := by decide +kernel
theorem dX5_fits_47 : decode cX5_fits 47 = .ok (.istore_n 3, 1) := by decide +kernel
theorem dX5_fits_48 : decode cX5_fits 48 = .ok (.aload_n 2, 1) := by decide +kernel
theorem dX5_fits_49 : decode cX5_fits 49 = .ok (.getfield 65, 3) := by decide +kernel
theorem dX5_fits_52 : decode cX5_fits 52 = .ok (.aload_n 0, 1) := by decide +kernel
theorem dX5_fits_53 : decode cX5_fits 53 = .ok (.getfield 15, 3) := by decide +kernel
theorem dX5_fits_56 : decode cX5_fits 56 = .ok (.iload_n 1, 1) := by decide +kernel
theorem dX5_fits_57 : decode cX5_fits 57 = .ok (.iaload, 1) := by decide +kernel
theorem dX5_fits_58 : decode cX5_fits 58 = .ok (.iand, 1) := by decide +kernel
theorem dX5_fits_59 : decode cX5_fits 59 = .ok (.aload_n 0, 1) := by decide +kernel
theorem dX5_fits_60 : decode cX5_fits 60 = .ok (.getfield 15, 3) := by decide +kernel
theorem dX5_fits_63 : decode cX5_fits 63 = .ok (.iload_n 1, 1) := by decide +kernel
theorem dX5_fits_64 : decode cX5_fits 64 = .ok (.iaload, 1) := by decide +kernel
theorem dX5_fits_65 : decode cX5_fits 65 = .ok (.if_icmp .ne 7, 3) := by decide +kernel
theorem dX5_fits_68 : decode cX5_fits 68 = .ok (.iconst 1, 1) := by decide +kernel
theorem dX5_fits_69 : decode cX5_fits 69 = .ok (.goto 4, 3) := by decide +kernel
theorem dX5_fits_72 : decode cX5_fits 72 = .ok (.iconst 0, 1) := by decide +kernel
theorem dX5_fits_73 : decode cX5_fits 73 = .ok (.istore 4, 2) := by decide +kernel
theorem dX5_fits_75 : decode cX5_fits 75 = .ok (.aload_n 0, 1) := by decide +kernel
theorem dX5_fits_76 : decode cX5_fits 76 = .ok (.getfield 18, 3) := by decide +kernel
theorem dX5_fits_79 : decode cX5_fits 79 = .ok (.iload_n 1, 1) := by decide +kernel
theorem dX5_fits_80 : decode cX5_fits 80 = .ok (.iaload, 1) := by decide +kernel
theorem dX5_fits_81 : decode cX5_fits 81 = .ok (.ifCond .eq 16, 3) := by decide +kernel
theorem dX5_fits_84 : decode cX5_fits 84 = .ok (.aload_n 0, 1) := by decide +kernel
theorem dX5_fits_85 : decode cX5_fits 85 = .ok (.getfield 18, 3) := by decide +kernel
theorem dX5_fits_88 : decode cX5_fits 88 = .ok (.iload_n 1, 1) := by decide +kernel
theorem dX5_fits_89 : decode cX5_fits 89 = .ok (.iaload, 1) := by decide +kernel
theorem dX5_fits_90 : decode cX5_fits 90 = .ok (.aload_n 2, 1) := by decide +kernel
theorem dX5_fits_91 : decode cX5_fits 91 = .ok (.getfield 68, 3) := by decide +kernel
theorem dX5_fits_94 : decode cX5_fits 94 = .ok (.if_icmp .ne 7, 3) := by decide +kernel
theorem dX5_fits_97 : decode cX5_fits 97 = .ok (.iconst 1, 1) := by decide +kernel
theorem dX5_fits_98 : decode cX5_fits 98 = .ok (.goto 4, 3) := by decide +kernel
theorem dX5_fits_101 : decode cX5_fits 101 = .ok (.iconst 0, 1) := by decide +kernel
theorem dX5_fits_102 : decode cX5_fits 102 = .ok (.istore 5, 2) := by decide +kernel
theorem dX5_fits_104 : decode cX5_fits 104 = .ok (.iload_n 3, 1) := by decide +kernel
theorem dX5_fits_105 : decode cX5_fits 105 = .ok (.ifCond .eq 17, 3) := by decide +kernel
theorem dX5_fits_108 : decode cX5_fits 108 = .ok (.iload 4, 2) := by decide +kernel
theorem dX5_fits_110 : decode cX5_fits 110 = .ok (.ifCond .eq 12, 3) := by decide +kernel
theorem dX5_fits_113 : decode cX5_fits 113 = .ok (.iload 5, 2) := by decide +kernel
theorem dX5_fits_115 : decode cX5_fits 115 = .ok (.ifCond .eq 7, 3) := by decide +kernel
theorem dX5_fits_118 : decode cX5_fits 118 = .ok (.iconst 1, 1) := by decide +kernel
theorem dX5_fits_119 : decode cX5_fits 119 = .ok (.goto 4, 3) := by decide +kernel
theorem dX5_fits_122 : decode cX5_fits 122 = .ok (.iconst 0, 1) := by decide +kernel
theorem dX5_fits_123 : decode cX5_fits 123 = .ok (.ireturn, 1) := by decide +kernel
theorem dX6_init_0 : decode cX6_init 0 = .ok (.aload_n 0, 1) := by decide +kernel
theorem dX6_init_1 : decode cX6_init 1 = .ok (.invokespecial 3, 3) := by decide +kernel
theorem dX6_init_4 : decode cX6_init 4 = .ok (.aload_n 0, 1) := by decide +kernel
theorem dX6_init_5 : decode cX6_init 5 = .ok (.bipush 40, 2) := by decide +kernel
theorem dX6_init_7 : decode cX6_init 7 = .ok (.bipush 14, 2) := by decide +kernel
theorem dX6_init_9 : decode cX6_init 9 = .ok (.multianewarray 9 2, 4) := by decide +kernel
theorem dX6_init_13 : decode cX6_init 13 = .ok (.putfield 11, 3) := by decide +kernel
theorem dX6_init_16 : decode cX6_init 16 = .ok (.aload_n 0, 1) := by decide +kernel
theorem dX6_init_17 : decode cX6_init 17 = .ok (.bipush 40, 2) := by decide +kernel
theorem dX6_init_19 : decode cX6_init 19 = .ok (.bipush 14, 2) := by decide +kernel
theorem dX6_init_21 : decode cX6_init 21 = .ok (.multianewarray 9 2, 4) := by decide +kernel
theorem dX6_init_25 : decode cX6_init 25 = .ok (.putfield 16, 3) := by decide +kernel
theorem dX6_init_28 : decode cX6_init 28 = .ok (.aload_n 0, 1) := by decide +kernel
theorem dX6_init_29 : decode cX6_init 29 = .ok (.iconst 0, 1) := by decide +kernel
theorem dX6_init_30 : decode cX6_init 30 = .ok (.putfield 19, 3) := by decide +kernel
theorem dX6_init_33 : decode cX6_init 33 = .ok (.return_, 1) := by decide +kernel
theorem dX6_of_0 : decode cX6_of 0 = .ok (.aload_n 1, 1) := by decide +kernel
theorem dX6_of_1 : decode cX6_of 1 = .ok (.getfield 23, 3) := by decide +kernel
theorem dX6_of_4 : decode cX6_of 4 = .ok (.istore_n 3, 1) := by decide +kernel
theorem dX6_of_5 : decode cX6_of 5 = .ok (.iload_n 3, 1) := by decide +kernel
theorem dX6_of_6 : decode cX6_of 6 = .ok (.ifCond .lt 23, 3) := by decide +kernel
theorem dX6_of_9 : decode cX6_of 9 = .ok (.iload_n 3, 1) := by decide +kernel
theorem dX6_of_10 : decode cX6_of 10 = .ok (.bipush 40, 2) := by decide +kernel
theorem dX6_of_12 : decode cX6_of 12 = .ok (.if_icmp .ge 17, 3) := by decide +kernel
theorem dX6_of_15 : decode cX6_of 15 = .ok (.iload_n 2, 1) := by decide +kernel
theorem dX6_of_16 : decode cX6_of 16 = .ok (.ifCond .lt 13, 3) := by decide +kernel
theorem dX6_of_19 : decode cX6_of 19 = .ok (.iload_n 2, 1) := by decide +kernel
theorem dX6_of_20 : decode cX6_of 20 = .ok (.bipush 14, 2) := by decide +kernel
theorem dX6_of_22 : decode cX6_of 22 = .ok (.if_icmp .ge 7, 3) := by decide +kernel
theorem dX6_of_25 : decode cX6_of 25 = .ok (.iconst 1, 1) := by decide +kernel
theorem dX6_of_26 : decode cX6_of 26 = .ok (.goto 4, 3) := by decide +kernel
theorem dX6_of_29 : decode cX6_of 29 = .ok (.iconst 0, 1) := by decide +kernel
theorem dX6_of_30 : decode cX6_of 30 = .ok (.istore 4, 2) := by decide +kernel
theorem dX6_of_32 : decode cX6_of 32 = .ok (.iload 4, 2) := by decide +kernel
theorem dX6_of_34 : decode cX6_of 34 = .ok (.ifCond .eq 14, 3) := by decide +kernel
theorem dX6_of_37 : decode cX6_of 37 = .ok (.aload_n 0, 1) := by decide +kernel
theorem dX6_of_38 : decode cX6_of 38 = .ok (.getfield 11, 3) := by decide +kernel
theorem dX6_of_41 : decode cX6_of 41 = .ok (.iload_n 3, 1) := by decide +kernel
theorem dX6_of_42 : decode cX6_of 42 = .ok (.aaload, 1) := by decide +kernel
theorem dX6_of_43 : decode cX6_of 43 = .ok (.iload_n 2, 1) := by decide +kernel
theorem dX6_of_44 : decode cX6_of 44 = .ok (.iaload, 1) := by decide +kernel
theorem dX6_of_45 : decode cX6_of 45 = .ok (.goto 4, 3) := by decide +kernel
theorem dX6_of_48 : decode cX6_of 48 = .ok (.iconst 0, 1) := by decide +kernel
theorem dX6_of_49 : decode cX6_of 49 = .ok (.ireturn, 1) := by decide +kernel
set_option maxRecDepth 20000 in
theorem ggX6_reasonOf_X6_isKept : GoodIn wsX6_reasonOf wsX6_isKept := goodIn_r _ [6, 2, 7, 8, 9, 13, 14, 15, 16, 17, 18, 19, 20, 21, 22, 23, 24, 25, 26] (by decide +kernel) (by decide +kernel)
set_option maxRecDepth 20000 in
theorem gX6_reasonOf_X6_isKept : GoodIn wsX6_reasonOf (va_wsS RX6 29 yX6_isKept wsX6_isKept) := goodIn_app (goodIn_of _ (by decide +kernel)) ggX6_reasonOf_X6_isKept
theorem dX6_reasonOf_0 : decode cX6_reasonOf 0 = .ok (.aload_n 1, 1) := by decide +kernel
theorem dX6_reasonOf_1 : decode cX6_reasonOf 1 = .ok (.iload_n 2, 1) := by decide +kernel
theorem dX6_reasonOf_2 : decode cX6_reasonOf 2 = .ok (.invokestatic 29, 3) := by decide +kernel
theorem dX6_reasonOf_5 : decode cX6_reasonOf 5 = .ok (.ifCond .eq 17, 3) := by decide +kernel
theorem dX6_reasonOf_8 : decode cX6_reasonOf 8 = .ok (.aload_n 0, 1) := by decide +kernel
theorem dX6_reasonOf_9 : decode cX6_reasonOf 9 = .ok (.getfield 16, 3) := by decide +kernel
theorem dX6_reasonOf_12 : decode cX6_reasonOf 12 = .ok (.aload_n 1, 1) := by decide +kernel
theorem dX6_reasonOf_13 : decode cX6_reasonOf 13 = .ok (.getfield 23, 3) := by decide +kernel
theorem dX6_reasonOf_16 : decode cX6_reasonOf 16 = .ok (.aaload, 1) := by decide +kernel
theorem dX6_reasonOf_17 : decode cX6_reasonOf 17 = .ok (.iload_n 2, 1) := by decide +kernel
theorem dX6_reasonOf_18 : decode cX6_reasonOf 18 = .ok (.iaload, 1) := by decide +kernel
theorem dX6_reasonOf_19 : decode cX6_reasonOf 19 = .ok (.goto 5, 3) := by decide +kernel
theorem dX6_reasonOf_22 : decode cX6_reasonOf 22 = .ok (.bipush (-3), 2) := by decide +kernel
theorem dX6_reasonOf_24 : decode cX6_reasonOf 24 = .ok (.ireturn, 1) := by decide +kernel
set_option maxRecDepth 20000 in
theorem ggX6_differFor_X6_of : GoodIn wsX6_differFor wsX6_of := goodIn_r _ [5, 6, 7, 8, 9, 10, 11, 12, 13, 14, 15, 16, 17, 18, 19, 20, 21, 22, 23, 24] (by decide +kernel) (by decide +kernel)
set_option maxRecDepth 20000 in
theorem gX6_differFor_X6_of : GoodIn wsX6_differFor (wsV RX6 33 RX6 yX6_of wsX6_of) := goodIn_app (goodIn_of _ (by decide +kernel)) ggX6_differFor_X6_of
theorem dX6_differFor_0 : decode cX6_differFor 0 = .ok (.iconst 0, 1) := by decide +kernel
theorem dX6_differFor_1 : decode cX6_differFor 1 = .ok (.istore_n 3, 1) := by decide +kernel
theorem dX6_differFor_2 : decode cX6_differFor 2 = .ok (.iload_n 3, 1) := by decide +kernel
theorem dX6_differFor_3 : decode cX6_differFor 3 = .ok (.bipush 14, 2) := by decide +kernel
theorem dX6_differFor_5 : decode cX6_differFor 5 = .ok (.if_icmp .ge 26, 3) := by decide +kernel
theorem dX6_differFor_8 : decode cX6_differFor 8 = .ok (.aload_n 0, 1) := by decide +kernel
theorem dX6_differFor_9 : decode cX6_differFor 9 = .ok (.aload_n 1, 1) := by decide +kernel
theorem dX6_differFor_10 : decode cX6_differFor 10 = .ok (.iload_n 3, 1) := by decide +kernel
theorem dX6_differFor_11 : decode cX6_differFor 11 = .ok (.invokevirtual 33, 3) := by decide +kernel
theorem dX6_differFor_14 : decode cX6_differFor 14 = .ok (.aload_n 2, 1) := by decide +kernel
theorem dX6_differFor_15 : decode cX6_differFor 15 = .ok (.aload_n 1, 1) := by decide +kernel
theorem dX6_differFor_16 : decode cX6_differFor 16 = .ok (.iload_n 3, 1) := by decide +kernel
theorem dX6_differFor_17 : decode cX6_differFor 17 = .ok (.invokevirtual 33, 3) := by decide +kernel
theorem dX6_differFor_20 : decode cX6_differFor 20 = .ok (.if_icmp .eq 5, 3) := by decide +kernel
theorem dX6_differFor_23 : decode cX6_differFor 23 = .ok (.iconst 1, 1) := by decide +kernel
theorem dX6_differFor_24 : decode cX6_differFor 24 = .ok (.ireturn, 1) := by decide +kernel
theorem dX6_differFor_25 : decode cX6_differFor 25 = .ok (.iinc 3 1, 3) := by decide +kernel
theorem dX6_differFor_28 : decode cX6_differFor 28 = .ok (.goto (-26), 3) := by decide +kernel
theorem dX6_differFor_31 : decode cX6_differFor 31 = .ok (.iconst 0, 1) := by decide +kernel
theorem dX6_differFor_32 : decode cX6_differFor 32 = .ok (.ireturn, 1) := by decide +kernel
set_option maxRecDepth 20000 in
theorem ggX6_workOut_Jx4a65c_size_8abf5 : GoodIn wsX6_workOut wsJx4a65c_size_8abf5 := goodIn_r _ [7, 8, 95, 96, 97] (by decide +kernel) (by decide +kernel)
set_option maxRecDepth 20000 in
theorem gX6_workOut_Jx4a65c_size_8abf5 : GoodIn wsX6_workOut (wsV RX6 37 RJx4a65c yJx4a65c_size_8abf5 wsJx4a65c_size_8abf5) := goodIn_app (goodIn_of _ (by decide +kernel)) ggX6_workOut_Jx4a65c_size_8abf5
set_option maxRecDepth 20000 in
theorem ggX6_workOut_Jx4a65c_get_915e3 : GoodIn wsX6_workOut wsJx4a65c_get_915e3 := goodIn_r _ [12, 8, 13, 14, 15, 16, 17, 18, 19, 20, 21, 22, 23, 6, 24, 25, 95, 96, 97] (by decide +kernel) (by decide +kernel)
set_option maxRecDepth 20000 in
theorem gX6_workOut_Jx4a65c_get_915e3 : GoodIn wsX6_workOut (wsV RX6 43 RJx4a65c yJx4a65c_get_915e3 wsJx4a65c_get_915e3) := goodIn_app (goodIn_of _ (by decide +kernel)) ggX6_workOut_Jx4a65c_get_915e3
set_option maxRecDepth 20000 in
theorem ggX6_workOut_X6_isKept : GoodIn wsX6_workOut wsX6_isKept := goodIn_r _ [29, 30, 31, 32, 33, 98, 99, 100, 101, 102, 103, 104, 105, 106, 107, 108, 109, 110, 111] (by decide +kernel) (by decide +kernel)
set_option maxRecDepth 20000 in
theorem gX6_workOut_X6_isKept : GoodIn wsX6_workOut (va_wsS RX6 29 yX6_isKept wsX6_isKept) := goodIn_app (goodIn_of _ (by decide +kernel)) ggX6_workOut_X6_isKept
set_option maxRecDepth 20000 in
theorem ggX6_workOut_X6_findRules : GoodIn wsX6_workOut wsX6_findRules := goodIn_r _ [37, 38, 30, 39, 40, 41, 42, 43, 44, 45, 3, 4, 5, 6, 7, 8, 9, 10, 11, 12, 13, 14, 15, 16, 17, 18, 19, 20, 21, 22, 23, 24, 25, 31, 32, 33, 46, 47, 48, 49, 50, 51, 52, 53, 54, 55, 56, 57, 58, 59, 60, 61, 62, 63, 64, 65, 66, 67, 68, 69, 28, 70, 71, 72, 92, 93, 94, 98, 99, 100, 101, 102, 103, 104, 105, 106, 107, 108, 109, 110, 111, 112, 113, 114, 115, 116, 117, 118, 119, 120, 121, 95, 96, 97] (by decide +kernel) (by decide +kernel)
set_option maxRecDepth 20000 in
theorem gX6_workOut_X6_findRules : GoodIn wsX6_workOut (wsV RX6 47 RX6 yX6_findRules wsX6_findRules) := goodIn_app (goodIn_of _ (by decide +kernel)) ggX6_workOut_X6_findRules
set_option maxRecDepth 20000 in
theorem ggX6_workOut_X6_settle : GoodIn wsX6_workOut wsX6_settle := goodIn_r _ [76, 38, 30, 39, 77, 71, 78, 79, 3, 4, 5, 6, 7, 8, 9, 10, 11, 12, 13, 14, 15, 16, 17, 18, 19, 20, 21, 22, 23, 24, 25, 80, 81, 82, 83, 84, 85, 86, 32, 87, 88, 89, 90, 28, 91, 92, 93, 94, 98, 99, 100, 101, 102, 103, 104, 105, 106, 107, 108, 109, 110, 111, 112, 113, 114, 115, 116, 117, 118, 119, 120, 121, 95, 96, 97] (by decide +kernel) (by decide +kernel)
set_option maxRecDepth 20000 in
theorem gX6_workOut_X6_settle : GoodIn wsX6_workOut (wsV RX6 51 RX6 yX6_settle wsX6_settle) := goodIn_app (goodIn_of _ (by decide +kernel)) ggX6_workOut_X6_settle
theorem dX6_workOut_0 : decode cX6_workOut 0 = .ok (.iconst 0, 1) := by decide +kernel
theorem dX6_workOut_1 : decode cX6_workOut 1 = .ok (.istore 4, 2) := by decide +kernel
theorem dX6_workOut_3 : decode cX6_workOut 3 = .ok (.iload 4, 2) := by decide +kernel
theorem dX6_workOut_5 : decode cX6_workOut 5 = .ok (.aload_n 1, 1) := by decide +kernel
theorem dX6_workOut_6 : decode cX6_workOut 6 = .ok (.invokevirtual 37, 3) := by decide +kernel
theorem dX6_workOut_9 : decode cX6_workOut 9 = .ok (.if_icmp .ge 62, 3) := by decide +kernel
theorem dX6_workOut_12 : decode cX6_workOut 12 = .ok (.aload_n 1, 1) := by decide +kernel
theorem dX6_workOut_13 : decode cX6_workOut 13 = .ok (.iload 4, 2) := by decide +kernel
theorem dX6_workOut_15 : decode cX6_workOut 15 = .ok (.invokevirtual 43, 3) := by decide +kernel
theorem dX6_workOut_18 : decode cX6_workOut 18 = .ok (.checkcast 24, 3) := by decide +kernel
theorem dX6_workOut_21 : decode cX6_workOut 21 = .ok (.astore 5, 2) := by decide +kernel
theorem dX6_workOut_23 : decode cX6_workOut 23 = .ok (.aload 5, 2) := by decide +kernel
theorem dX6_workOut_25 : decode cX6_workOut 25 = .ok (.iconst 0, 1) := by decide +kernel
theorem dX6_workOut_26 : decode cX6_workOut 26 = .ok (.invokestatic 29, 3) := by decide +kernel
theorem dX6_workOut_29 : decode cX6_workOut 29 = .ok (.ifCond .eq 36, 3) := by decide +kernel
theorem dX6_workOut_32 : decode cX6_workOut 32 = .ok (.aload_n 0, 1) := by decide +kernel
theorem dX6_workOut_33 : decode cX6_workOut 33 = .ok (.aload 5, 2) := by decide +kernel
theorem dX6_workOut_35 : decode cX6_workOut 35 = .ok (.aload_n 2, 1) := by decide +kernel
theorem dX6_workOut_36 : decode cX6_workOut 36 = .ok (.iload_n 3, 1) := by decide +kernel
theorem dX6_workOut_37 : decode cX6_workOut 37 = .ok (.invokevirtual 47, 3) := by decide +kernel
theorem dX6_workOut_40 : decode cX6_workOut 40 = .ok (.iconst 0, 1) := by decide +kernel
theorem dX6_workOut_41 : decode cX6_workOut 41 = .ok (.istore 6, 2) := by decide +kernel
theorem dX6_workOut_43 : decode cX6_workOut 43 = .ok (.iload 6, 2) := by decide +kernel
theorem dX6_workOut_45 : decode cX6_workOut 45 = .ok (.bipush 14, 2) := by decide +kernel
theorem dX6_workOut_47 : decode cX6_workOut 47 = .ok (.if_icmp .ge 18, 3) := by decide +kernel
theorem dX6_workOut_50 : decode cX6_workOut 50 = .ok (.aload_n 0, 1) := by decide +kernel
theorem dX6_workOut_51 : decode cX6_workOut 51 = .ok (.aload 5, 2) := by decide +kernel
theorem dX6_workOut_53 : decode cX6_workOut 53 = .ok (.iload 6, 2) := by decide +kernel
theorem dX6_workOut_55 : decode cX6_workOut 55 = .ok (.aload_n 2, 1) := by decide +kernel
theorem dX6_workOut_56 : decode cX6_workOut 56 = .ok (.invokevirtual 51, 3) := by decide +kernel
theorem dX6_workOut_59 : decode cX6_workOut 59 = .ok (.iinc 6 1, 3) := by decide +kernel
theorem dX6_workOut_62 : decode cX6_workOut 62 = .ok (.goto (-19), 3) := by decide +kernel
theorem dX6_workOut_65 : decode cX6_workOut 65 = .ok (.iinc 4 1, 3) := by decide +kernel
theorem dX6_workOut_68 : decode cX6_workOut 68 = .ok (.goto (-65), 3) := by decide +kernel
theorem dX6_workOut_71 : decode cX6_workOut 71 = .ok (.aload_n 0, 1) := by decide +kernel
theorem dX6_workOut_72 : decode cX6_workOut 72 = .ok (.iconst 1, 1) := by decide +kernel
theorem dX6_workOut_73 : decode cX6_workOut 73 = .ok (.putfield 19, 3) := by decide +kernel
theorem dX6_workOut_76 : decode cX6_workOut 76 = .ok (.return_, 1) := by decide +kernel
set_option maxRecDepth 20000 in
theorem ggX6_isKept_X9_isProperty : GoodIn wsX6_isKept wsX9_isProperty := goodIn_r _ [4] (by decide +kernel) (by decide +kernel)
set_option maxRecDepth 20000 in
theorem gX6_isKept_X9_isProperty_n55 : GoodIn wsX6_isKept (wsX9_isProperty) := ggX6_isKept_X9_isProperty
theorem dX6_isKept_0 : decode cX6_isKept 0 = .ok (.aload_n 0, 1) := by decide +kernel
theorem dX6_isKept_1 : decode cX6_isKept 1 = .ok (.getfield 23, 3) := by decide +kernel
theorem dX6_isKept_4 : decode cX6_isKept 4 = .ok (.ifCond .lt 23, 3) := by decide +kernel
theorem dX6_isKept_7 : decode cX6_isKept 7 = .ok (.aload_n 0, 1) := by decide +kernel
theorem dX6_isKept_8 : decode cX6_isKept 8 = .ok (.getfield 23, 3) := by decide +kernel
theorem dX6_isKept_11 : decode cX6_isKept 11 = .ok (.bipush 40, 2) := by decide +kernel
theorem dX6_isKept_13 : decode cX6_isKept 13 = .ok (.if_icmp .ge 14, 3) := by decide +kernel
theorem dX6_isKept_16 : decode cX6_isKept 16 = .ok (.iload_n 1, 1) := by decide +kernel
theorem dX6_isKept_17 : decode cX6_isKept 17 = .ok (.invokestatic 55, 3) := by decide +kernel
theorem dX6_isKept_20 : decode cX6_isKept 20 = .ok (.ifCond .eq 7, 3) := by decide +kernel
theorem dX6_isKept_23 : decode cX6_isKept 23 = .ok (.iconst 1, 1) := by decide +kernel
theorem dX6_isKept_24 : decode cX6_isKept 24 = .ok (.goto 4, 3) := by decide +kernel
theorem dX6_isKept_27 : decode cX6_isKept 27 = .ok (.iconst 0, 1) := by decide +kernel
theorem dX6_isKept_28 : decode cX6_isKept 28 = .ok (.ireturn, 1) := by decide +kernel
set_option maxRecDepth 20000 in
theorem ggX6_findRules_J7_fill_53178 : GoodIn wsX6_findRules wsJ7_fill_53178 := goodIn_r _ [9] (by decide +kernel) (by decide +kernel)
set_option maxRecDepth 20000 in
theorem gX6_findRules_J7_fill_53178 : GoodIn wsX6_findRules (va_wsS RX6 59 yJ7_fill_53178 wsJ7_fill_53178) := goodIn_app (goodIn_of _ (by decide +kernel)) ggX6_findRules_J7_fill_53178
set_option maxRecDepth 20000 in
theorem ggX6_findRules_Jx4a65c_size_8abf5 : GoodIn wsX6_findRules wsJx4a65c_size_8abf5 := goodIn_r _ [14, 15, 91, 92, 93] (by decide +kernel) (by decide +kernel)
set_option maxRecDepth 20000 in
theorem gX6_findRules_Jx4a65c_size_8abf5 : GoodIn wsX6_findRules (wsV RX6 37 RJx4a65c yJx4a65c_size_8abf5 wsJx4a65c_size_8abf5) := goodIn_app (goodIn_of _ (by decide +kernel)) ggX6_findRules_Jx4a65c_size_8abf5
set_option maxRecDepth 20000 in
theorem ggX6_findRules_Jx4a65c_get_915e3 : GoodIn wsX6_findRules wsJx4a65c_get_915e3 := goodIn_r _ [19, 15, 20, 21, 22, 23, 24, 25, 26, 27, 28, 29, 30, 13, 31, 32, 91, 92, 93] (by decide +kernel) (by decide +kernel)
set_option maxRecDepth 20000 in
theorem gX6_findRules_Jx4a65c_get_915e3 : GoodIn wsX6_findRules (wsV RX6 43 RJx4a65c yJx4a65c_get_915e3 wsJx4a65c_get_915e3) := goodIn_app (goodIn_of _ (by decide +kernel)) ggX6_findRules_Jx4a65c_get_915e3
set_option maxRecDepth 20000 in
theorem ggX6_findRules_X9_isProperty : GoodIn wsX6_findRules wsX9_isProperty := goodIn_r _ [35] (by decide +kernel) (by decide +kernel)
set_option maxRecDepth 20000 in
theorem gX6_findRules_X9_isProperty_n55 : GoodIn wsX6_findRules (wsX9_isProperty) := ggX6_findRules_X9_isProperty
set_option maxRecDepth 20000 in
theorem ggX6_findRules_X5_selects : GoodIn wsX6_findRules wsX5_selects := goodIn_r _ [40, 41, 42, 43, 44, 39, 45, 46, 47, 48, 49, 50, 51, 52, 53, 54, 55, 56, 57, 67, 68, 69, 70, 71, 72, 73, 74, 75, 76, 77, 78, 79, 80, 81, 82, 83, 84, 85, 86, 87, 88, 89, 90] (by decide +kernel) (by decide +kernel)
set_option maxRecDepth 20000 in
theorem gX6_findRules_X5_selects : GoodIn wsX6_findRules (wsV RX6 73 RX5 yX5_selects wsX5_selects) := goodIn_app (goodIn_of _ (by decide +kernel)) ggX6_findRules_X5_selects
set_option maxRecDepth 20000 in
theorem ggX6_findRules_X6_comesAheadOf : GoodIn wsX6_findRules wsX6_comesAheadOf := goodIn_r _ [61, 3, 62, 63, 10, 11, 12, 13, 14, 15, 16, 17, 18, 19, 20, 21, 22, 23, 24, 25, 26, 27, 28, 29, 30, 31, 32, 81, 82, 83, 84, 85, 86, 87, 88, 89, 90, 91, 92, 93] (by decide +kernel) (by decide +kernel)
set_option maxRecDepth 20000 in
theorem gX6_findRules_X6_comesAheadOf : GoodIn wsX6_findRules (va_wsS RX6 77 yX6_comesAheadOf wsX6_comesAheadOf) := goodIn_app (goodIn_of _ (by decide +kernel)) ggX6_findRules_X6_comesAheadOf
theorem dX6_findRules_0 : decode cX6_findRules 0 = .ok (.aload_n 0, 1) := by decide +kernel
theorem dX6_findRules_1 : decode cX6_findRules 1 = .ok (.getfield 16, 3) := by decide +kernel
theorem dX6_findRules_4 : decode cX6_findRules 4 = .ok (.aload_n 1, 1) := by decide +kernel
theorem dX6_findRules_5 : decode cX6_findRules 5 = .ok (.getfield 23, 3) := by decide +kernel
theorem dX6_findRules_8 : decode cX6_findRules 8 = .ok (.aaload, 1) := by decide +kernel
theorem dX6_findRules_9 : decode cX6_findRules 9 = .ok (.astore 4, 2) := by decide +kernel
theorem dX6_findRules_11 : decode cX6_findRules 11 = .ok (.aload 4, 2) := by decide +kernel
theorem dX6_findRules_13 : decode cX6_findRules 13 = .ok (.iconst (-1), 1) := by decide +kernel
theorem dX6_findRules_14 : decode cX6_findRules 14 = .ok (.invokestatic 59, 3) := by decide +kernel
theorem dX6_findRules_17 : decode cX6_findRules 17 = .ok (.iconst 0, 1) := by decide +kernel
theorem dX6_findRules_18 : decode cX6_findRules 18 = .ok (.istore 5, 2) := by decide +kernel
theorem dX6_findRules_20 : decode cX6_findRules 20 = .ok (.iload 5, 2) := by decide +kernel
theorem dX6_findRules_22 : decode cX6_findRules 22 = .ok (.aload_n 2, 1) := by decide +kernel
theorem dX6_findRules_23 : decode cX6_findRules 23 = .ok (.invokevirtual 37, 3) := by decide +kernel
theorem dX6_findRules_26 : decode cX6_findRules 26 = .ok (.if_icmp .ge 98, 3) := by decide +kernel
theorem dX6_findRules_29 : decode cX6_findRules 29 = .ok (.aload_n 2, 1) := by decide +kernel
theorem dX6_findRules_30 : decode cX6_findRules 30 = .ok (.iload 5, 2) := by decide +kernel
theorem dX6_findRules_32 : decode cX6_findRules 32 = .ok (.invokevirtual 43, 3) := by decide +kernel
theorem dX6_findRules_35 : decode cX6_findRules 35 = .ok (.checkcast 65, 3) := by decide +kernel
theorem dX6_findRules_38 : decode cX6_findRules 38 = .ok (.astore 6, 2) := by decide +kernel
theorem dX6_findRules_40 : decode cX6_findRules 40 = .ok (.aload 6, 2) := by decide +kernel
theorem dX6_findRules_42 : decode cX6_findRules 42 = .ok (.getfield 67, 3) := by decide +kernel
theorem dX6_findRules_45 : decode cX6_findRules 45 = .ok (.iload 5, 2) := by decide +kernel
theorem dX6_findRules_47 : decode cX6_findRules 47 = .ok (.iload_n 3, 1) := by decide +kernel
theorem dX6_findRules_48 : decode cX6_findRules 48 = .ok (.if_icmp .ne 7, 3) := by decide +kernel
theorem dX6_findRules_51 : decode cX6_findRules 51 = .ok (.iconst 1, 1) := by decide +kernel
theorem dX6_findRules_52 : decode cX6_findRules 52 = .ok (.goto 4, 3) := by decide +kernel
theorem dX6_findRules_55 : decode cX6_findRules 55 = .ok (.iconst 0, 1) := by decide +kernel
theorem dX6_findRules_56 : decode cX6_findRules 56 = .ok (.if_icmp .eq 27, 3) := by decide +kernel
theorem dX6_findRules_59 : decode cX6_findRules 59 = .ok (.aload 6, 2) := by decide +kernel
theorem dX6_findRules_61 : decode cX6_findRules 61 = .ok (.getfield 70, 3) := by decide +kernel
theorem dX6_findRules_64 : decode cX6_findRules 64 = .ok (.invokestatic 55, 3) := by decide +kernel
theorem dX6_findRules_67 : decode cX6_findRules 67 = .ok (.ifCond .eq 16, 3) := by decide +kernel
theorem dX6_findRules_70 : decode cX6_findRules 70 = .ok (.aload 6, 2) := by decide +kernel
theorem dX6_findRules_72 : decode cX6_findRules 72 = .ok (.aload_n 1, 1) := by decide +kernel
theorem dX6_findRules_73 : decode cX6_findRules 73 = .ok (.invokevirtual 73, 3) := by decide +kernel
theorem dX6_findRules_76 : decode cX6_findRules 76 = .ok (.ifCond .eq 7, 3) := by decide +kernel
theorem dX6_findRules_79 : decode cX6_findRules 79 = .ok (.iconst 1, 1) := by decide +kernel
theorem dX6_findRules_80 : decode cX6_findRules 80 = .ok (.goto 4, 3) := by decide +kernel
theorem dX6_findRules_83 : decode cX6_findRules 83 = .ok (.iconst 0, 1) := by decide +kernel
theorem dX6_findRules_84 : decode cX6_findRules 84 = .ok (.istore 7, 2) := by decide +kernel
theorem dX6_findRules_86 : decode cX6_findRules 86 = .ok (.iload 7, 2) := by decide +kernel
theorem dX6_findRules_88 : decode cX6_findRules 88 = .ok (.ifCond .eq 30, 3) := by decide +kernel
theorem dX6_findRules_91 : decode cX6_findRules 91 = .ok (.aload 6, 2) := by decide +kernel
theorem dX6_findRules_93 : decode cX6_findRules 93 = .ok (.aload 4, 2) := by decide +kernel
theorem dX6_findRules_95 : decode cX6_findRules 95 = .ok (.aload 6, 2) := by decide +kernel
theorem dX6_findRules_97 : decode cX6_findRules 97 = .ok (.getfield 70, 3) := by decide +kernel
theorem dX6_findRules_100 : decode cX6_findRules 100 = .ok (.iaload, 1) := by decide +kernel
theorem dX6_findRules_101 : decode cX6_findRules 101 = .ok (.aload_n 2, 1) := by decide +kernel
theorem dX6_findRules_102 : decode cX6_findRules 102 = .ok (.invokestatic 77, 3) := by decide +kernel
theorem dX6_findRules_105 : decode cX6_findRules 105 = .ok (.ifCond .eq 13, 3) := by decide +kernel
theorem dX6_findRules_108 : decode cX6_findRules 108 = .ok (.aload 4, 2) := by decide +kernel
theorem dX6_findRules_110 : decode cX6_findRules 110 = .ok (.aload 6, 2) := by decide +kernel
theorem dX6_findRules_112 : decode cX6_findRules 112 = .ok (.getfield 70, 3) := by decide +kernel
theorem dX6_findRules_115 : decode cX6_findRules 115 = .ok (.iload 5, 2) := by decide +kernel
theorem dX6_findRules_117 : decode cX6_findRules 117 = .ok (.iastore, 1) := by decide +kernel
theorem dX6_findRules_118 : decode cX6_findRules 118 = .ok (.iinc 5 1, 3) := by decide +kernel
theorem dX6_findRules_121 : decode cX6_findRules 121 = .ok (.goto (-101), 3) := by decide +kernel
theorem dX6_findRules_124 : decode cX6_findRules 124 = .ok (.return_, 1) := by decide +kernel
set_option maxRecDepth 20000 in
theorem ggX6_comesAheadOf_Jx4a65c_size_8abf5 : GoodIn wsX6_comesAheadOf wsJx4a65c_size_8abf5 := goodIn_r _ [8, 9, 37, 38, 39] (by decide +kernel) (by decide +kernel)
set_option maxRecDepth 20000 in
theorem gX6_comesAheadOf_Jx4a65c_size_8abf5 : GoodIn wsX6_comesAheadOf (wsV RX6 37 RJx4a65c yJx4a65c_size_8abf5 wsJx4a65c_size_8abf5) := goodIn_app (goodIn_of _ (by decide +kernel)) ggX6_comesAheadOf_Jx4a65c_size_8abf5
set_option maxRecDepth 20000 in
theorem ggX6_comesAheadOf_Jx4a65c_get_915e3 : GoodIn wsX6_comesAheadOf wsJx4a65c_get_915e3 := goodIn_r _ [13, 9, 14, 15, 16, 17, 18, 19, 20, 21, 22, 23, 24, 7, 25, 26, 37, 38, 39] (by decide +kernel) (by decide +kernel)
set_option maxRecDepth 20000 in
theorem gX6_comesAheadOf_Jx4a65c_get_915e3 : GoodIn wsX6_comesAheadOf (wsV RX6 43 RJx4a65c yJx4a65c_get_915e3 wsJx4a65c_get_915e3) := goodIn_app (goodIn_of _ (by decide +kernel)) ggX6_comesAheadOf_Jx4a65c_get_915e3
theorem dX6_comesAheadOf_0 : decode cX6_comesAheadOf 0 = .ok (.iload_n 1, 1) := by decide +kernel
theorem dX6_comesAheadOf_1 : decode cX6_comesAheadOf 1 = .ok (.ifCond .lt 11, 3) := by decide +kernel
theorem dX6_comesAheadOf_4 : decode cX6_comesAheadOf 4 = .ok (.iload_n 1, 1) := by decide +kernel
theorem dX6_comesAheadOf_5 : decode cX6_comesAheadOf 5 = .ok (.aload_n 2, 1) := by decide +kernel
theorem dX6_comesAheadOf_6 : decode cX6_comesAheadOf 6 = .ok (.invokevirtual 37, 3) := by decide +kernel
theorem dX6_comesAheadOf_9 : decode cX6_comesAheadOf 9 = .ok (.if_icmp .lt 5, 3) := by decide +kernel
theorem dX6_comesAheadOf_12 : decode cX6_comesAheadOf 12 = .ok (.iconst 1, 1) := by decide +kernel
theorem dX6_comesAheadOf_13 : decode cX6_comesAheadOf 13 = .ok (.ireturn, 1) := by decide +kernel
theorem dX6_comesAheadOf_14 : decode cX6_comesAheadOf 14 = .ok (.aload_n 2, 1) := by decide +kernel
theorem dX6_comesAheadOf_15 : decode cX6_comesAheadOf 15 = .ok (.iload_n 1, 1) := by decide +kernel
theorem dX6_comesAheadOf_16 : decode cX6_comesAheadOf 16 = .ok (.invokevirtual 43, 3) := by decide +kernel
theorem dX6_comesAheadOf_19 : decode cX6_comesAheadOf 19 = .ok (.checkcast 65, 3) := by decide +kernel
theorem dX6_comesAheadOf_22 : decode cX6_comesAheadOf 22 = .ok (.astore_n 3, 1) := by decide +kernel
theorem dX6_comesAheadOf_23 : decode cX6_comesAheadOf 23 = .ok (.aload_n 0, 1) := by decide +kernel
theorem dX6_comesAheadOf_24 : decode cX6_comesAheadOf 24 = .ok (.getfield 81, 3) := by decide +kernel
theorem dX6_comesAheadOf_27 : decode cX6_comesAheadOf 27 = .ok (.aload_n 3, 1) := by decide +kernel
theorem dX6_comesAheadOf_28 : decode cX6_comesAheadOf 28 = .ok (.getfield 81, 3) := by decide +kernel
theorem dX6_comesAheadOf_31 : decode cX6_comesAheadOf 31 = .ok (.if_icmp .eq 8, 3) := by decide +kernel
theorem dX6_comesAheadOf_34 : decode cX6_comesAheadOf 34 = .ok (.aload_n 0, 1) := by decide +kernel
theorem dX6_comesAheadOf_35 : decode cX6_comesAheadOf 35 = .ok (.getfield 81, 3) := by decide +kernel
theorem dX6_comesAheadOf_38 : decode cX6_comesAheadOf 38 = .ok (.ireturn, 1) := by decide +kernel
theorem dX6_comesAheadOf_39 : decode cX6_comesAheadOf 39 = .ok (.aload_n 0, 1) := by decide +kernel
theorem dX6_comesAheadOf_40 : decode cX6_comesAheadOf 40 = .ok (.getfield 84, 3) := by decide +kernel
theorem dX6_comesAheadOf_43 : decode cX6_comesAheadOf 43 = .ok (.aload_n 3, 1) := by decide +kernel
theorem dX6_comesAheadOf_44 : decode cX6_comesAheadOf 44 = .ok (.getfield 84, 3) := by decide +kernel
theorem dX6_comesAheadOf_47 : decode cX6_comesAheadOf 47 = .ok (.if_icmp .lt 7, 3) := by decide +kernel
theorem dX6_comesAheadOf_50 : decode cX6_comesAheadOf 50 = .ok (.iconst 1, 1) := by decide +kernel
theorem dX6_comesAheadOf_51 : decode cX6_comesAheadOf 51 = .ok (.goto 4, 3) := by decide +kernel
theorem dX6_comesAheadOf_54 : decode cX6_comesAheadOf 54 = .ok (.iconst 0, 1) := by decide +kernel
theorem dX6_comesAheadOf_55 : decode cX6_comesAheadOf 55 = .ok (.ireturn, 1) := by decide +kernel
set_option maxRecDepth 20000 in
theorem ggX6_settle_Jx4a65c_size_8abf5 : GoodIn wsX6_settle wsJx4a65c_size_8abf5 := goodIn_r _ [12, 13, 72, 73, 74] (by decide +kernel) (by decide +kernel)
set_option maxRecDepth 20000 in
theorem gX6_settle_Jx4a65c_size_8abf5 : GoodIn wsX6_settle (wsV RX6 37 RJx4a65c yJx4a65c_size_8abf5 wsJx4a65c_size_8abf5) := goodIn_app (goodIn_of _ (by decide +kernel)) ggX6_settle_Jx4a65c_size_8abf5
set_option maxRecDepth 20000 in
theorem ggX6_settle_Jx4a65c_get_915e3 : GoodIn wsX6_settle wsJx4a65c_get_915e3 := goodIn_r _ [17, 13, 18, 19, 20, 21, 22, 23, 24, 25, 26, 27, 28, 11, 29, 30, 72, 73, 74] (by decide +kernel) (by decide +kernel)
set_option maxRecDepth 20000 in
theorem gX6_settle_Jx4a65c_get_915e3 : GoodIn wsX6_settle (wsV RX6 43 RJx4a65c yJx4a65c_get_915e3 wsJx4a65c_get_915e3) := goodIn_app (goodIn_of _ (by decide +kernel)) ggX6_settle_Jx4a65c_get_915e3
set_option maxRecDepth 20000 in
theorem ggX6_settle_X3_declaredOf : GoodIn wsX6_settle wsX3_declaredOf := goodIn_r _ [35, 36, 48, 49, 50, 51, 52, 53, 54, 55, 56, 57, 58, 59, 60, 61] (by decide +kernel) (by decide +kernel)
set_option maxRecDepth 20000 in
theorem gX6_settle_X3_declaredOf : GoodIn wsX6_settle (wsV RX6 90 RX3 yX3_declaredOf wsX3_declaredOf) := goodIn_app (goodIn_of _ (by decide +kernel)) ggX6_settle_X3_declaredOf
set_option maxRecDepth 20000 in
theorem ggX6_settle_X9_isInherited : GoodIn wsX6_settle wsX9_isInherited := goodIn_r _ [39] (by decide +kernel) (by decide +kernel)
set_option maxRecDepth 20000 in
theorem gX6_settle_X9_isInherited_n94 : GoodIn wsX6_settle (wsX9_isInherited) := ggX6_settle_X9_isInherited
set_option maxRecDepth 20000 in
theorem ggX6_settle_X6_of : GoodIn wsX6_settle wsX6_of := goodIn_r _ [44, 2, 7, 48, 49, 50, 51, 52, 53, 54, 55, 56, 57, 58, 59, 60, 61, 45, 46, 47] (by decide +kernel) (by decide +kernel)
set_option maxRecDepth 20000 in
theorem gX6_settle_X6_of : GoodIn wsX6_settle (wsV RX6 33 RX6 yX6_of wsX6_of) := goodIn_app (goodIn_of _ (by decide +kernel)) ggX6_settle_X6_of
theorem dX6_settle_0 : decode cX6_settle 0 = .ok (.aload_n 0, 1) := by decide +kernel
theorem dX6_settle_1 : decode cX6_settle 1 = .ok (.getfield 16, 3) := by decide +kernel
theorem dX6_settle_4 : decode cX6_settle 4 = .ok (.aload_n 1, 1) := by decide +kernel
theorem dX6_settle_5 : decode cX6_settle 5 = .ok (.getfield 23, 3) := by decide +kernel
theorem dX6_settle_8 : decode cX6_settle 8 = .ok (.aaload, 1) := by decide +kernel
theorem dX6_settle_9 : decode cX6_settle 9 = .ok (.iload_n 2, 1) := by decide +kernel
theorem dX6_settle_10 : decode cX6_settle 10 = .ok (.iaload, 1) := by decide +kernel
theorem dX6_settle_11 : decode cX6_settle 11 = .ok (.istore 4, 2) := by decide +kernel
theorem dX6_settle_13 : decode cX6_settle 13 = .ok (.sipush 9998, 3) := by decide +kernel
theorem dX6_settle_16 : decode cX6_settle 16 = .ok (.istore 5, 2) := by decide +kernel
theorem dX6_settle_18 : decode cX6_settle 18 = .ok (.iconst 0, 1) := by decide +kernel
theorem dX6_settle_19 : decode cX6_settle 19 = .ok (.istore 6, 2) := by decide +kernel
theorem dX6_settle_21 : decode cX6_settle 21 = .ok (.iload 4, 2) := by decide +kernel
theorem dX6_settle_23 : decode cX6_settle 23 = .ok (.ifCond .lt 40, 3) := by decide +kernel
theorem dX6_settle_26 : decode cX6_settle 26 = .ok (.iload 4, 2) := by decide +kernel
theorem dX6_settle_28 : decode cX6_settle 28 = .ok (.aload_n 3, 1) := by decide +kernel
theorem dX6_settle_29 : decode cX6_settle 29 = .ok (.invokevirtual 37, 3) := by decide +kernel
theorem dX6_settle_32 : decode cX6_settle 32 = .ok (.if_icmp .ge 31, 3) := by decide +kernel
theorem dX6_settle_35 : decode cX6_settle 35 = .ok (.aload_n 3, 1) := by decide +kernel
theorem dX6_settle_36 : decode cX6_settle 36 = .ok (.iload 4, 2) := by decide +kernel
theorem dX6_settle_38 : decode cX6_settle 38 = .ok (.invokevirtual 43, 3) := by decide +kernel
theorem dX6_settle_41 : decode cX6_settle 41 = .ok (.checkcast 65, 3) := by decide +kernel
theorem dX6_settle_44 : decode cX6_settle 44 = .ok (.getfield 87, 3) := by decide +kernel
theorem dX6_settle_47 : decode cX6_settle 47 = .ok (.istore 5, 2) := by decide +kernel
theorem dX6_settle_49 : decode cX6_settle 49 = .ok (.aload_n 3, 1) := by decide +kernel
theorem dX6_settle_50 : decode cX6_settle 50 = .ok (.iload 4, 2) := by decide +kernel
theorem dX6_settle_52 : decode cX6_settle 52 = .ok (.invokevirtual 43, 3) := by decide +kernel
theorem dX6_settle_55 : decode cX6_settle 55 = .ok (.checkcast 65, 3) := by decide +kernel
theorem dX6_settle_58 : decode cX6_settle 58 = .ok (.getfield 81, 3) := by decide +kernel
theorem dX6_settle_61 : decode cX6_settle 61 = .ok (.istore 6, 2) := by decide +kernel
theorem dX6_settle_63 : decode cX6_settle 63 = .ok (.aload_n 1, 1) := by decide +kernel
theorem dX6_settle_64 : decode cX6_settle 64 = .ok (.iload_n 2, 1) := by decide +kernel
theorem dX6_settle_65 : decode cX6_settle 65 = .ok (.invokevirtual 90, 3) := by decide +kernel
theorem dX6_settle_68 : decode cX6_settle 68 = .ok (.istore 7, 2) := by decide +kernel
theorem dX6_settle_70 : decode cX6_settle 70 = .ok (.iload 7, 2) := by decide +kernel
theorem dX6_settle_72 : decode cX6_settle 72 = .ok (.sipush 9998, 3) := by decide +kernel
theorem dX6_settle_75 : decode cX6_settle 75 = .ok (.if_icmp .eq 15, 3) := by decide +kernel
theorem dX6_settle_78 : decode cX6_settle 78 = .ok (.iload 6, 2) := by decide +kernel
theorem dX6_settle_80 : decode cX6_settle 80 = .ok (.ifCond .ne 10, 3) := by decide +kernel
theorem dX6_settle_83 : decode cX6_settle 83 = .ok (.iload 7, 2) := by decide +kernel
theorem dX6_settle_85 : decode cX6_settle 85 = .ok (.istore 5, 2) := by decide +kernel
theorem dX6_settle_87 : decode cX6_settle 87 = .ok (.iconst (-1), 1) := by decide +kernel
theorem dX6_settle_88 : decode cX6_settle 88 = .ok (.istore 4, 2) := by decide +kernel
theorem dX6_settle_90 : decode cX6_settle 90 = .ok (.iload 5, 2) := by decide +kernel
theorem dX6_settle_92 : decode cX6_settle 92 = .ok (.sipush 9998, 3) := by decide +kernel
theorem dX6_settle_95 : decode cX6_settle 95 = .ok (.if_icmp .ne 56, 3) := by decide +kernel
theorem dX6_settle_98 : decode cX6_settle 98 = .ok (.iload_n 2, 1) := by decide +kernel
theorem dX6_settle_99 : decode cX6_settle 99 = .ok (.invokestatic 94, 3) := by decide +kernel
theorem dX6_settle_102 : decode cX6_settle 102 = .ok (.ifCond .eq 14, 3) := by decide +kernel
theorem dX6_settle_105 : decode cX6_settle 105 = .ok (.aload_n 1, 1) := by decide +kernel
theorem dX6_settle_106 : decode cX6_settle 106 = .ok (.getfield 97, 3) := by decide +kernel
theorem dX6_settle_109 : decode cX6_settle 109 = .ok (.ifnull 7, 3) := by decide +kernel
theorem dX6_settle_112 : decode cX6_settle 112 = .ok (.iconst 1, 1) := by decide +kernel
theorem dX6_settle_113 : decode cX6_settle 113 = .ok (.goto 4, 3) := by decide +kernel
theorem dX6_settle_116 : decode cX6_settle 116 = .ok (.iconst 0, 1) := by decide +kernel
theorem dX6_settle_117 : decode cX6_settle 117 = .ok (.istore 8, 2) := by decide +kernel
theorem dX6_settle_119 : decode cX6_settle 119 = .ok (.iload 8, 2) := by decide +kernel
theorem dX6_settle_121 : decode cX6_settle 121 = .ok (.ifCond .eq 9, 3) := by decide +kernel
theorem dX6_settle_124 : decode cX6_settle 124 = .ok (.sipush 9999, 3) := by decide +kernel
theorem dX6_settle_127 : decode cX6_settle 127 = .ok (.goto 8, 3) := by decide +kernel
theorem dX6_settle_130 : decode cX6_settle 130 = .ok (.getstatic 101, 3) := by decide +kernel
theorem dX6_settle_133 : decode cX6_settle 133 = .ok (.iload_n 2, 1) := by decide +kernel
theorem dX6_settle_134 : decode cX6_settle 134 = .ok (.iaload, 1) := by decide +kernel
theorem dX6_settle_135 : decode cX6_settle 135 = .ok (.istore 5, 2) := by decide +kernel
theorem dX6_settle_137 : decode cX6_settle 137 = .ok (.iload 8, 2) := by decide +kernel
theorem dX6_settle_139 : decode cX6_settle 139 = .ok (.ifCond .eq 8, 3) := by decide +kernel
theorem dX6_settle_142 : decode cX6_settle 142 = .ok (.bipush (-2), 2) := by decide +kernel
theorem dX6_settle_144 : decode cX6_settle 144 = .ok (.goto 5, 3) := by decide +kernel
theorem dX6_settle_147 : decode cX6_settle 147 = .ok (.bipush (-3), 2) := by decide +kernel
theorem dX6_settle_149 : decode cX6_settle 149 = .ok (.istore 4, 2) := by decide +kernel
theorem dX6_settle_151 : decode cX6_settle 151 = .ok (.iload 5, 2) := by decide +kernel
theorem dX6_settle_153 : decode cX6_settle 153 = .ok (.sipush 9999, 3) := by decide +kernel
theorem dX6_settle_156 : decode cX6_settle 156 = .ok (.if_icmp .ne 29, 3) := by decide +kernel
theorem dX6_settle_159 : decode cX6_settle 159 = .ok (.aload_n 1, 1) := by decide +kernel
theorem dX6_settle_160 : decode cX6_settle 160 = .ok (.getfield 97, 3) := by decide +kernel
theorem dX6_settle_163 : decode cX6_settle 163 = .ok (.ifnonnull 11, 3) := by decide +kernel
theorem dX6_settle_166 : decode cX6_settle 166 = .ok (.getstatic 101, 3) := by decide +kernel
theorem dX6_settle_169 : decode cX6_settle 169 = .ok (.iload_n 2, 1) := by decide +kernel
theorem dX6_settle_170 : decode cX6_settle 170 = .ok (.iaload, 1) := by decide +kernel
theorem dX6_settle_171 : decode cX6_settle 171 = .ok (.goto 12, 3) := by decide +kernel
theorem dX6_settle_174 : decode cX6_settle 174 = .ok (.aload_n 0, 1) := by decide +kernel
theorem dX6_settle_175 : decode cX6_settle 175 = .ok (.aload_n 1, 1) := by decide +kernel
theorem dX6_settle_176 : decode cX6_settle 176 = .ok (.getfield 97, 3) := by decide +kernel
theorem dX6_settle_179 : decode cX6_settle 179 = .ok (.iload_n 2, 1) := by decide +kernel
theorem dX6_settle_180 : decode cX6_settle 180 = .ok (.invokevirtual 33, 3) := by decide +kernel
theorem dX6_settle_183 : decode cX6_settle 183 = .ok (.istore 5, 2) := by decide +kernel
theorem dX6_settle_185 : decode cX6_settle 185 = .ok (.aload_n 0, 1) := by decide +kernel
theorem dX6_settle_186 : decode cX6_settle 186 = .ok (.getfield 11, 3) := by decide +kernel
theorem dX6_settle_189 : decode cX6_settle 189 = .ok (.aload_n 1, 1) := by decide +kernel
theorem dX6_settle_190 : decode cX6_settle 190 = .ok (.getfield 23, 3) := by decide +kernel
theorem dX6_settle_193 : decode cX6_settle 193 = .ok (.aaload, 1) := by decide +kernel
theorem dX6_settle_194 : decode cX6_settle 194 = .ok (.iload_n 2, 1) := by decide +kernel
theorem dX6_settle_195 : decode cX6_settle 195 = .ok (.iload 5, 2) := by decide +kernel
theorem dX6_settle_197 : decode cX6_settle 197 = .ok (.iastore, 1) := by decide +kernel
theorem dX6_settle_198 : decode cX6_settle 198 = .ok (.aload_n 0, 1) := by decide +kernel
theorem dX6_settle_199 : decode cX6_settle 199 = .ok (.getfield 16, 3) := by decide +kernel
theorem dX6_settle_202 : decode cX6_settle 202 = .ok (.aload_n 1, 1) := by decide +kernel
theorem dX6_settle_203 : decode cX6_settle 203 = .ok (.getfield 23, 3) := by decide +kernel
theorem dX6_settle_206 : decode cX6_settle 206 = .ok (.aaload, 1) := by decide +kernel
theorem dX6_settle_207 : decode cX6_settle 207 = .ok (.iload_n 2, 1) := by decide +kernel
theorem dX6_settle_208 : decode cX6_settle 208 = .ok (.iload 4, 2) := by decide +kernel
theorem dX6_settle_210 : decode cX6_settle 210 = .ok (.iastore, 1) := by decide +kernel
theorem dX6_settle_211 : decode cX6_settle 211 = .ok (.return_, 1) := by decide +kernel
set_option maxRecDepth 20000 in
theorem ggX7_init_Jx4a65c_init_da8c8 : GoodIn wsX7_init wsJx4a65c_init_da8c8 := goodIn_r _ [15, 16, 17, 18, 19, 20, 21, 22, 23, 24, 25, 26, 27, 2, 3, 87, 88, 89] (by decide +kernel) (by decide +kernel)
set_option maxRecDepth 20000 in
theorem gX7_init_Jx4a65c_init_da8c8 : GoodIn wsX7_init (wsJx4a65c_init_da8c8) := ggX7_init_Jx4a65c_init_da8c8
set_option maxRecDepth 20000 in
theorem ggX7_init_X3_init : GoodIn wsX7_init wsX3_init := goodIn_r _ [30, 31, 2, 3, 32, 5, 6, 33, 34, 35, 36, 37, 38, 39, 40, 41, 42, 43, 44, 45, 46, 47, 48, 49, 50, 51, 52, 53, 54, 14, 15, 16, 17, 18, 19, 20, 21, 22, 23, 24, 25, 26, 27, 55, 56, 57, 58, 59, 60, 61, 62, 63, 64, 65, 66, 67, 68, 69, 70, 71, 72, 73, 74, 75, 76, 77, 78, 79, 80, 81, 82, 83, 84, 85, 86, 87, 88, 89, 93, 94, 95, 96, 97, 98, 99, 100, 101, 102, 103, 104, 105, 106, 107, 108, 109, 110, 111, 112, 113, 114, 115, 116, 117, 118, 119, 120, 121, 122, 123, 124, 125, 126, 127] (by decide +kernel) (by decide +kernel)
set_option maxRecDepth 20000 in
theorem gX7_init_X3_init : GoodIn wsX7_init (wsX3_init) := ggX7_init_X3_init
theorem dX7_init_0 : decode cX7_init 0 = .ok (.aload_n 0, 1) := by decide +kernel
theorem dX7_init_1 : decode cX7_init 1 = .ok (.invokespecial 3, 3) := by decide +kernel
theorem dX7_init_4 : decode cX7_init 4 = .ok (.aload_n 0, 1) := by decide +kernel
theorem dX7_init_5 : decode cX7_init 5 = .ok (.new 9, 3) := by decide +kernel
theorem dX7_init_8 : decode cX7_init 8 = .ok (.dup, 1) := by decide +kernel
theorem dX7_init_9 : decode cX7_init 9 = .ok (.invokespecial 11, 3) := by decide +kernel
theorem dX7_init_12 : decode cX7_init 12 = .ok (.putfield 12, 3) := by decide +kernel
theorem dX7_init_15 : decode cX7_init 15 = .ok (.aload_n 0, 1) := by decide +kernel
theorem dX7_init_16 : decode cX7_init 16 = .ok (.new 9, 3) := by decide +kernel
theorem dX7_init_19 : decode cX7_init 19 = .ok (.dup, 1) := by decide +kernel
theorem dX7_init_20 : decode cX7_init 20 = .ok (.invokespecial 11, 3) := by decide +kernel
theorem dX7_init_23 : decode cX7_init 23 = .ok (.putfield 18, 3) := by decide +kernel
theorem dX7_init_26 : decode cX7_init 26 = .ok (.aload_n 0, 1) := by decide +kernel
theorem dX7_init_27 : decode cX7_init 27 = .ok (.new 21, 3) := by decide +kernel
theorem dX7_init_30 : decode cX7_init 30 = .ok (.dup, 1) := by decide +kernel
theorem dX7_init_31 : decode cX7_init 31 = .ok (.iconst 0, 1) := by decide +kernel
theorem dX7_init_32 : decode cX7_init 32 = .ok (.iconst 0, 1) := by decide +kernel
theorem dX7_init_33 : decode cX7_init 33 = .ok (.iconst 0, 1) := by decide +kernel
theorem dX7_init_34 : decode cX7_init 34 = .ok (.invokespecial 23, 3) := by decide +kernel
theorem dX7_init_37 : decode cX7_init 37 = .ok (.putfield 26, 3) := by decide +kernel
theorem dX7_init_40 : decode cX7_init 40 = .ok (.return_, 1) := by decide +kernel
set_option maxRecDepth 20000 in
theorem ggX7_withRoot_X7_init : GoodIn wsX7_withRoot wsX7_init := goodIn_r _ [9, 10, 11, 12, 13, 14, 15, 4, 6, 16, 17, 18, 5, 19, 20, 21, 22, 23, 24, 25, 26, 27, 28, 29, 30, 31, 32, 33, 34, 35, 36, 37, 38, 39, 40, 41, 42, 43, 44, 45, 46, 47, 48, 49, 50, 51, 52, 53, 54, 55, 56, 57, 58, 59, 60, 61, 62, 63, 64, 65, 66, 67, 68, 69, 70, 71, 72, 73, 74, 75, 76, 77, 78, 79, 80, 81, 82, 83, 84, 85, 86, 87, 88, 89, 90, 91, 92, 146, 147, 148, 143, 144, 145, 149, 150, 151, 152, 153, 154, 155, 156, 157, 158, 159, 160, 161, 162, 163, 164, 165, 166, 167, 168, 169, 170, 171, 172, 173, 174, 175, 176, 177, 178, 179, 180, 181, 182, 183] (by decide +kernel) (by decide +kernel)
set_option maxRecDepth 20000 in
theorem gX7_withRoot_X7_init : GoodIn wsX7_withRoot (wsX7_init) := ggX7_withRoot_X7_init
set_option maxRecDepth 20000 in
theorem ggX7_withRoot_Jx4a65c_add_9ea2d : GoodIn wsX7_withRoot wsJx4a65c_add_9ea2d := goodIn_r _ [96, 97, 98, 23, 99, 100, 101, 102, 15, 103, 104, 105, 106, 107, 108, 109, 110, 111, 22, 112, 88, 89, 90, 113, 114, 115, 116, 117, 118, 119, 120, 121, 122, 123, 124, 125, 126, 127, 128, 129, 130, 131, 132, 133, 134, 135, 136, 137, 138, 139, 140, 141, 142, 146, 147, 148] (by decide +kernel) (by decide +kernel)
set_option maxRecDepth 20000 in
theorem gX7_withRoot_Jx4a65c_add_9ea2d : GoodIn wsX7_withRoot (wsV RX7 31 RJx4a65c yJx4a65c_add_9ea2d wsJx4a65c_add_9ea2d) := goodIn_app (goodIn_of _ (by decide +kernel)) ggX7_withRoot_Jx4a65c_add_9ea2d
theorem dX7_withRoot_0 : decode cX7_withRoot 0 = .ok (.new 13, 3) := by decide +kernel
theorem dX7_withRoot_3 : decode cX7_withRoot 3 = .ok (.dup, 1) := by decide +kernel
theorem dX7_withRoot_4 : decode cX7_withRoot 4 = .ok (.invokespecial 30, 3) := by decide +kernel
theorem dX7_withRoot_7 : decode cX7_withRoot 7 = .ok (.astore_n 0, 1) := by decide +kernel
theorem dX7_withRoot_8 : decode cX7_withRoot 8 = .ok (.aload_n 0, 1) := by decide +kernel
theorem dX7_withRoot_9 : decode cX7_withRoot 9 = .ok (.getfield 12, 3) := by decide +kernel
theorem dX7_withRoot_12 : decode cX7_withRoot 12 = .ok (.aload_n 0, 1) := by decide +kernel
theorem dX7_withRoot_13 : decode cX7_withRoot 13 = .ok (.getfield 26, 3) := by decide +kernel
theorem dX7_withRoot_16 : decode cX7_withRoot 16 = .ok (.invokevirtual 31, 3) := by decide +kernel
theorem dX7_withRoot_19 : decode cX7_withRoot 19 = .ok (.pop, 1) := by decide +kernel
theorem dX7_withRoot_20 : decode cX7_withRoot 20 = .ok (.aload_n 0, 1) := by decide +kernel
theorem dX7_withRoot_21 : decode cX7_withRoot 21 = .ok (.getfield 18, 3) := by decide +kernel
theorem dX7_withRoot_24 : decode cX7_withRoot 24 = .ok (.aload_n 0, 1) := by decide +kernel
theorem dX7_withRoot_25 : decode cX7_withRoot 25 = .ok (.getfield 26, 3) := by decide +kernel
theorem dX7_withRoot_28 : decode cX7_withRoot 28 = .ok (.invokevirtual 31, 3) := by decide +kernel
theorem dX7_withRoot_31 : decode cX7_withRoot 31 = .ok (.pop, 1) := by decide +kernel
theorem dX7_withRoot_32 : decode cX7_withRoot 32 = .ok (.aload_n 0, 1) := by decide +kernel
theorem dX7_withRoot_33 : decode cX7_withRoot 33 = .ok (.areturn, 1) := by decide +kernel
set_option maxRecDepth 20000 in
theorem ggX7_holds_Jx4a65c_size_8abf5 : GoodIn wsX7_holds wsJx4a65c_size_8abf5 := goodIn_r _ [8, 9, 44, 45, 46] (by decide +kernel) (by decide +kernel)
set_option maxRecDepth 20000 in
theorem gX7_holds_Jx4a65c_size_8abf5 : GoodIn wsX7_holds (wsV RX7 35 RJx4a65c yJx4a65c_size_8abf5 wsJx4a65c_size_8abf5) := goodIn_app (goodIn_of _ (by decide +kernel)) ggX7_holds_Jx4a65c_size_8abf5
set_option maxRecDepth 20000 in
theorem ggX7_holds_Jx4a65c_get_915e3 : GoodIn wsX7_holds wsJx4a65c_get_915e3 := goodIn_r _ [13, 9, 14, 15, 16, 17, 18, 19, 20, 21, 22, 23, 24, 7, 25, 26, 44, 45, 46] (by decide +kernel) (by decide +kernel)
set_option maxRecDepth 20000 in
theorem gX7_holds_Jx4a65c_get_915e3 : GoodIn wsX7_holds (wsV RX7 39 RJx4a65c yJx4a65c_get_915e3 wsJx4a65c_get_915e3) := goodIn_app (goodIn_of _ (by decide +kernel)) ggX7_holds_Jx4a65c_get_915e3
theorem dX7_holds_0 : decode cX7_holds 0 = .ok (.iload_n 1, 1) := by decide +kernel
theorem dX7_holds_1 : decode cX7_holds 1 = .ok (.ifCond .lt 35, 3) := by decide +kernel
theorem dX7_holds_4 : decode cX7_holds 4 = .ok (.iload_n 1, 1) := by decide +kernel
theorem dX7_holds_5 : decode cX7_holds 5 = .ok (.aload_n 0, 1) := by decide +kernel
theorem dX7_holds_6 : decode cX7_holds 6 = .ok (.getfield 12, 3) := by decide +kernel
theorem dX7_holds_9 : decode cX7_holds 9 = .ok (.invokevirtual 35, 3) := by decide +kernel
theorem dX7_holds_12 : decode cX7_holds 12 = .ok (.if_icmp .ge 24, 3) := by decide +kernel
theorem dX7_holds_15 : decode cX7_holds 15 = .ok (.aload_n 0, 1) := by decide +kernel
theorem dX7_holds_16 : decode cX7_holds 16 = .ok (.getfield 12, 3) := by decide +kernel
theorem dX7_holds_19 : decode cX7_holds 19 = .ok (.iload_n 1, 1) := by decide +kernel
theorem dX7_holds_20 : decode cX7_holds 20 = .ok (.invokevirtual 39, 3) := by decide +kernel
theorem dX7_holds_23 : decode cX7_holds 23 = .ok (.checkcast 21, 3) := by decide +kernel
theorem dX7_holds_26 : decode cX7_holds 26 = .ok (.getfield 43, 3) := by decide +kernel
theorem dX7_holds_29 : decode cX7_holds 29 = .ok (.ifCond .ne 7, 3) := by decide +kernel
theorem dX7_holds_32 : decode cX7_holds 32 = .ok (.iconst 1, 1) := by decide +kernel
theorem dX7_holds_33 : decode cX7_holds 33 = .ok (.goto 4, 3) := by decide +kernel
theorem dX7_holds_36 : decode cX7_holds 36 = .ok (.iconst 0, 1) := by decide +kernel
theorem dX7_holds_37 : decode cX7_holds 37 = .ok (.ireturn, 1) := by decide +kernel
set_option maxRecDepth 20000 in
theorem ggX7_hasRoomIn_Jx4a65c_size_8abf5 : GoodIn wsX7_hasRoomIn wsJx4a65c_size_8abf5 := goodIn_r _ [6, 7, 17, 18, 19] (by decide +kernel) (by decide +kernel)
set_option maxRecDepth 20000 in
theorem gX7_hasRoomIn_Jx4a65c_size_8abf5 : GoodIn wsX7_hasRoomIn (wsV RX7 35 RJx4a65c yJx4a65c_size_8abf5 wsJx4a65c_size_8abf5) := goodIn_app (goodIn_of _ (by decide +kernel)) ggX7_hasRoomIn_Jx4a65c_size_8abf5
set_option maxRecDepth 20000 in
theorem ggX7_hasRoomIn_X3_ancestors : GoodIn wsX7_hasRoomIn wsX3_ancestors := goodIn_r _ [12, 13, 20, 21, 22, 23, 24, 25, 26, 27, 28, 29, 30, 31, 32, 33] (by decide +kernel) (by decide +kernel)
set_option maxRecDepth 20000 in
theorem gX7_hasRoomIn_X3_ancestors : GoodIn wsX7_hasRoomIn (wsV RX7 47 RX3 yX3_ancestors wsX3_ancestors) := goodIn_app (goodIn_of _ (by decide +kernel)) ggX7_hasRoomIn_X3_ancestors
theorem dX7_hasRoomIn_0 : decode cX7_hasRoomIn 0 = .ok (.aload_n 0, 1) := by decide +kernel
theorem dX7_hasRoomIn_1 : decode cX7_hasRoomIn 1 = .ok (.getfield 12, 3) := by decide +kernel
theorem dX7_hasRoomIn_4 : decode cX7_hasRoomIn 4 = .ok (.invokevirtual 35, 3) := by decide +kernel
theorem dX7_hasRoomIn_7 : decode cX7_hasRoomIn 7 = .ok (.bipush 40, 2) := by decide +kernel
theorem dX7_hasRoomIn_9 : decode cX7_hasRoomIn 9 = .ok (.if_icmp .ge 16, 3) := by decide +kernel
theorem dX7_hasRoomIn_12 : decode cX7_hasRoomIn 12 = .ok (.aload_n 1, 1) := by decide +kernel
theorem dX7_hasRoomIn_13 : decode cX7_hasRoomIn 13 = .ok (.invokevirtual 47, 3) := by decide +kernel
theorem dX7_hasRoomIn_16 : decode cX7_hasRoomIn 16 = .ok (.bipush 10, 2) := by decide +kernel
theorem dX7_hasRoomIn_18 : decode cX7_hasRoomIn 18 = .ok (.if_icmp .ge 7, 3) := by decide +kernel
theorem dX7_hasRoomIn_21 : decode cX7_hasRoomIn 21 = .ok (.iconst 1, 1) := by decide +kernel
theorem dX7_hasRoomIn_22 : decode cX7_hasRoomIn 22 = .ok (.goto 4, 3) := by decide +kernel
theorem dX7_hasRoomIn_25 : decode cX7_hasRoomIn 25 = .ok (.iconst 0, 1) := by decide +kernel
theorem dX7_hasRoomIn_26 : decode cX7_hasRoomIn 26 = .ok (.ireturn, 1) := by decide +kernel
set_option maxRecDepth 20000 in
theorem ggX7_append_Jx4a65c_size_8abf5 : GoodIn wsX7_append wsJx4a65c_size_8abf5 := goodIn_r _ [12, 13, 187, 188, 189] (by decide +kernel) (by decide +kernel)
set_option maxRecDepth 20000 in
theorem gX7_append_Jx4a65c_size_8abf5 : GoodIn wsX7_append (wsV RX7 35 RJx4a65c yJx4a65c_size_8abf5 wsJx4a65c_size_8abf5) := goodIn_app (goodIn_of _ (by decide +kernel)) ggX7_append_Jx4a65c_size_8abf5
set_option maxRecDepth 20000 in
theorem ggX7_append_X3_init : GoodIn wsX7_append wsX3_init := goodIn_r _ [16, 17, 18, 19, 20, 21, 11, 22, 23, 24, 25, 26, 27, 28, 29, 30, 31, 32, 33, 34, 35, 36, 37, 38, 39, 40, 41, 42, 43, 44, 45, 46, 47, 48, 49, 50, 51, 52, 53, 54, 55, 56, 57, 58, 59, 60, 61, 62, 63, 64, 65, 66, 67, 68, 69, 70, 71, 72, 73, 74, 75, 76, 77, 78, 79, 80, 81, 82, 83, 84, 85, 86, 87, 88, 89, 187, 188, 189, 170, 171, 172, 173, 174, 175, 176, 177, 178, 179, 180, 181, 182, 183, 190, 191, 192, 193, 194, 195, 196, 197, 198, 199, 200, 201, 202, 203, 204, 205, 206, 207, 208, 209, 210] (by decide +kernel) (by decide +kernel)
set_option maxRecDepth 20000 in
theorem gX7_append_X3_init : GoodIn wsX7_append (wsX3_init) := ggX7_append_X3_init
set_option maxRecDepth 20000 in
theorem ggX7_append_Jx4a65c_add_9ea2d : GoodIn wsX7_append wsJx4a65c_add_9ea2d := goodIn_r _ [93, 94, 95, 47, 13, 96, 97, 98, 11, 99, 100, 101, 102, 103, 104, 105, 106, 107, 46, 108, 85, 86, 87, 109, 110, 111, 112, 113, 114, 115, 116, 117, 118, 119, 120, 121, 122, 123, 124, 125, 126, 127, 128, 129, 130, 131, 132, 133, 134, 135, 136, 137, 138, 187, 188, 189] (by decide +kernel) (by decide +kernel)
set_option maxRecDepth 20000 in
theorem gX7_append_Jx4a65c_add_9ea2d : GoodIn wsX7_append (wsV RX7 31 RJx4a65c yJx4a65c_add_9ea2d wsJx4a65c_add_9ea2d) := goodIn_app (goodIn_of _ (by decide +kernel)) ggX7_append_Jx4a65c_add_9ea2d
set_option maxRecDepth 20000 in
theorem ggX7_append_X7_listAnew : GoodIn wsX7_append wsX7_listAnew := goodIn_r _ [143, 144, 145, 146, 147, 148, 11, 149, 94, 95, 47, 13, 150, 151, 142, 152, 6, 153, 90, 91, 92, 93, 96, 97, 98, 99, 100, 101, 102, 103, 104, 105, 106, 107, 46, 108, 85, 86, 87, 109, 110, 111, 112, 113, 114, 115, 116, 117, 118, 119, 120, 121, 122, 123, 124, 125, 126, 127, 128, 129, 130, 131, 132, 133, 134, 135, 136, 137, 138, 8, 9, 10, 12, 154, 155, 156, 157, 158, 159, 160, 161, 162, 163, 164, 165, 166, 167, 168, 169, 184, 185, 186, 187, 188, 189, 170, 171, 172, 173, 174, 175, 176, 177, 178, 179, 180, 181, 182, 183] (by decide +kernel) (by decide +kernel)
set_option maxRecDepth 20000 in
theorem gX7_append_X7_listAnew : GoodIn wsX7_append (wsV RX7 56 RX7 yX7_listAnew wsX7_listAnew) := goodIn_app (goodIn_of _ (by decide +kernel)) ggX7_append_X7_listAnew
theorem dX7_append_0 : decode cX7_append 0 = .ok (.new 21, 3) := by decide +kernel
theorem dX7_append_3 : decode cX7_append 3 = .ok (.dup, 1) := by decide +kernel
theorem dX7_append_4 : decode cX7_append 4 = .ok (.aload_n 0, 1) := by decide +kernel
theorem dX7_append_5 : decode cX7_append 5 = .ok (.getfield 12, 3) := by decide +kernel
theorem dX7_append_8 : decode cX7_append 8 = .ok (.invokevirtual 35, 3) := by decide +kernel
theorem dX7_append_11 : decode cX7_append 11 = .ok (.iload_n 2, 1) := by decide +kernel
theorem dX7_append_12 : decode cX7_append 12 = .ok (.iload_n 3, 1) := by decide +kernel
theorem dX7_append_13 : decode cX7_append 13 = .ok (.invokespecial 23, 3) := by decide +kernel
theorem dX7_append_16 : decode cX7_append 16 = .ok (.astore 4, 2) := by decide +kernel
theorem dX7_append_18 : decode cX7_append 18 = .ok (.aload_n 0, 1) := by decide +kernel
theorem dX7_append_19 : decode cX7_append 19 = .ok (.getfield 12, 3) := by decide +kernel
theorem dX7_append_22 : decode cX7_append 22 = .ok (.aload 4, 2) := by decide +kernel
theorem dX7_append_24 : decode cX7_append 24 = .ok (.invokevirtual 31, 3) := by decide +kernel
theorem dX7_append_27 : decode cX7_append 27 = .ok (.pop, 1) := by decide +kernel
theorem dX7_append_28 : decode cX7_append 28 = .ok (.aload 4, 2) := by decide +kernel
theorem dX7_append_30 : decode cX7_append 30 = .ok (.aload_n 1, 1) := by decide +kernel
theorem dX7_append_31 : decode cX7_append 31 = .ok (.putfield 50, 3) := by decide +kernel
theorem dX7_append_34 : decode cX7_append 34 = .ok (.aload_n 1, 1) := by decide +kernel
theorem dX7_append_35 : decode cX7_append 35 = .ok (.getfield 53, 3) := by decide +kernel
theorem dX7_append_38 : decode cX7_append 38 = .ok (.aload 4, 2) := by decide +kernel
theorem dX7_append_40 : decode cX7_append 40 = .ok (.invokevirtual 31, 3) := by decide +kernel
theorem dX7_append_43 : decode cX7_append 43 = .ok (.pop, 1) := by decide +kernel
theorem dX7_append_44 : decode cX7_append 44 = .ok (.aload_n 0, 1) := by decide +kernel
theorem dX7_append_45 : decode cX7_append 45 = .ok (.invokevirtual 56, 3) := by decide +kernel
theorem dX7_append_48 : decode cX7_append 48 = .ok (.aload 4, 2) := by decide +kernel
theorem dX7_append_50 : decode cX7_append 50 = .ok (.getfield 59, 3) := by decide +kernel
theorem dX7_append_53 : decode cX7_append 53 = .ok (.ireturn, 1) := by decide +kernel
set_option maxRecDepth 20000 in
theorem ggX7_remove_Jx4a65c_size_8abf5 : GoodIn wsX7_remove wsJx4a65c_size_8abf5 := goodIn_r _ [6, 7, 123, 124, 125] (by decide +kernel) (by decide +kernel)
set_option maxRecDepth 20000 in
theorem gX7_remove_Jx4a65c_size_8abf5 : GoodIn wsX7_remove (wsV RX7 35 RJx4a65c yJx4a65c_size_8abf5 wsJx4a65c_size_8abf5) := goodIn_app (goodIn_of _ (by decide +kernel)) ggX7_remove_Jx4a65c_size_8abf5
set_option maxRecDepth 20000 in
theorem ggX7_remove_X7_detach : GoodIn wsX7_remove wsX7_detach := goodIn_r _ [12, 13, 14, 15, 16, 17, 18, 19, 20, 21, 22, 3, 4, 5, 6, 7, 23, 24, 25, 26, 27, 28, 29, 30, 31, 32, 33, 34, 35, 36, 37, 38, 39, 2, 40, 41, 42, 43, 44, 45, 46, 47, 48, 49, 50, 51, 52, 53, 126, 127, 128, 129, 130, 131, 132, 133, 134, 135, 136, 137, 138, 139, 123, 124, 125] (by decide +kernel) (by decide +kernel)
set_option maxRecDepth 20000 in
theorem gX7_remove_X7_detach : GoodIn wsX7_remove (wsV RX7 63 RX7 yX7_detach wsX7_detach) := goodIn_app (goodIn_of _ (by decide +kernel)) ggX7_remove_X7_detach
set_option maxRecDepth 20000 in
theorem ggX7_remove_X7_markGone : GoodIn wsX7_remove wsX7_markGone := goodIn_r _ [56, 57, 14, 58, 2, 3, 4, 5, 6, 7, 59, 24, 25, 26, 27, 28, 29, 30, 31, 32, 33, 34, 35, 36, 37, 38, 39, 54, 55, 11, 126, 127, 128, 129, 130, 131, 132, 133, 134, 135, 136, 137, 138, 139, 123, 124, 125] (by decide +kernel) (by decide +kernel)
set_option maxRecDepth 20000 in
theorem gX7_remove_X7_markGone : GoodIn wsX7_remove (va_wsS RX7 67 yX7_markGone wsX7_markGone) := goodIn_app (goodIn_of _ (by decide +kernel)) ggX7_remove_X7_markGone
set_option maxRecDepth 20000 in
theorem ggX7_remove_X7_listAnew : GoodIn wsX7_remove wsX7_listAnew := goodIn_r _ [63, 1, 64, 65, 66, 67, 5, 68, 48, 49, 39, 7, 69, 70, 11, 71, 14, 58, 72, 73, 74, 75, 76, 77, 78, 79, 80, 81, 82, 83, 84, 85, 86, 87, 88, 89, 90, 91, 92, 93, 94, 95, 96, 97, 98, 99, 100, 101, 102, 103, 104, 105, 106, 107, 108, 109, 110, 111, 112, 113, 114, 115, 116, 117, 118, 119, 51, 52, 53, 2, 3, 4, 6, 59, 24, 25, 26, 27, 28, 29, 30, 31, 32, 33, 34, 35, 36, 37, 38, 120, 121, 122, 123, 124, 125, 126, 127, 128, 129, 130, 131, 132, 133, 134, 135, 136, 137, 138, 139] (by decide +kernel) (by decide +kernel)
set_option maxRecDepth 20000 in
theorem gX7_remove_X7_listAnew : GoodIn wsX7_remove (wsV RX7 56 RX7 yX7_listAnew wsX7_listAnew) := goodIn_app (goodIn_of _ (by decide +kernel)) ggX7_remove_X7_listAnew
theorem dX7_remove_0 : decode cX7_remove 0 = .ok (.aload_n 0, 1) := by decide +kernel
theorem dX7_remove_1 : decode cX7_remove 1 = .ok (.getfield 18, 3) := by decide +kernel
theorem dX7_remove_4 : decode cX7_remove 4 = .ok (.invokevirtual 35, 3) := by decide +kernel
theorem dX7_remove_7 : decode cX7_remove 7 = .ok (.istore_n 2, 1) := by decide +kernel
theorem dX7_remove_8 : decode cX7_remove 8 = .ok (.aload_n 0, 1) := by decide +kernel
theorem dX7_remove_9 : decode cX7_remove 9 = .ok (.aload_n 1, 1) := by decide +kernel
theorem dX7_remove_10 : decode cX7_remove 10 = .ok (.invokevirtual 63, 3) := by decide +kernel
theorem dX7_remove_13 : decode cX7_remove 13 = .ok (.aload_n 1, 1) := by decide +kernel
theorem dX7_remove_14 : decode cX7_remove 14 = .ok (.iconst 0, 1) := by decide +kernel
theorem dX7_remove_15 : decode cX7_remove 15 = .ok (.invokestatic 67, 3) := by decide +kernel
theorem dX7_remove_18 : decode cX7_remove 18 = .ok (.aload_n 0, 1) := by decide +kernel
theorem dX7_remove_19 : decode cX7_remove 19 = .ok (.invokevirtual 56, 3) := by decide +kernel
theorem dX7_remove_22 : decode cX7_remove 22 = .ok (.iload_n 2, 1) := by decide +kernel
theorem dX7_remove_23 : decode cX7_remove 23 = .ok (.aload_n 0, 1) := by decide +kernel
theorem dX7_remove_24 : decode cX7_remove 24 = .ok (.getfield 18, 3) := by decide +kernel
theorem dX7_remove_27 : decode cX7_remove 27 = .ok (.invokevirtual 35, 3) := by decide +kernel
theorem dX7_remove_30 : decode cX7_remove 30 = .ok (.isub, 1) := by decide +kernel
theorem dX7_remove_31 : decode cX7_remove 31 = .ok (.ireturn, 1) := by decide +kernel
set_option maxRecDepth 20000 in
theorem ggX7_canMove_X3_isOrIsIn : GoodIn wsX7_canMove wsX3_isOrIsIn := goodIn_r _ [8, 9, 46, 47, 48, 49, 50, 51, 52, 53, 54, 55, 56, 57, 58, 59] (by decide +kernel) (by decide +kernel)
set_option maxRecDepth 20000 in
theorem gX7_canMove_X3_isOrIsIn : GoodIn wsX7_canMove (wsV RX7 74 RX3 yX3_isOrIsIn wsX3_isOrIsIn) := goodIn_app (goodIn_of _ (by decide +kernel)) ggX7_canMove_X3_isOrIsIn
set_option maxRecDepth 20000 in
theorem ggX7_canMove_Jx4a65c_size_8abf5 : GoodIn wsX7_canMove wsJx4a65c_size_8abf5 := goodIn_r _ [14, 15, 60, 61, 62] (by decide +kernel) (by decide +kernel)
set_option maxRecDepth 20000 in
theorem gX7_canMove_Jx4a65c_size_8abf5 : GoodIn wsX7_canMove (wsV RX7 35 RJx4a65c yJx4a65c_size_8abf5 wsJx4a65c_size_8abf5) := goodIn_app (goodIn_of _ (by decide +kernel)) ggX7_canMove_Jx4a65c_size_8abf5
set_option maxRecDepth 20000 in
theorem ggX7_canMove_X3_ancestors : GoodIn wsX7_canMove wsX3_ancestors := goodIn_r _ [19, 9, 46, 47, 48, 49, 50, 51, 52, 53, 54, 55, 56, 57, 58, 59] (by decide +kernel) (by decide +kernel)
set_option maxRecDepth 20000 in
theorem gX7_canMove_X3_ancestors : GoodIn wsX7_canMove (wsV RX7 47 RX3 yX3_ancestors wsX3_ancestors) := goodIn_app (goodIn_of _ (by decide +kernel)) ggX7_canMove_X3_ancestors
set_option maxRecDepth 20000 in
theorem ggX7_canMove_X7_levelsBelow : GoodIn wsX7_canMove wsX7_levelsBelow := goodIn_r _ [23, 3, 24, 25, 26, 27, 28, 10, 11, 12, 13, 14, 15, 29, 30, 31, 32, 33, 34, 35, 36, 37, 38, 39, 40, 41, 42, 43, 44, 45, 20, 21, 22, 46, 47, 48, 49, 50, 51, 52, 53, 54, 55, 56, 57, 58, 59, 60, 61, 62] (by decide +kernel) (by decide +kernel)
set_option maxRecDepth 20000 in
theorem gX7_canMove_X7_levelsBelow : GoodIn wsX7_canMove (va_wsS RX7 78 yX7_levelsBelow wsX7_levelsBelow) := goodIn_app (goodIn_of _ (by decide +kernel)) ggX7_canMove_X7_levelsBelow
theorem dX7_canMove_0 : decode cX7_canMove 0 = .ok (.aload_n 1, 1) := by decide +kernel
theorem dX7_canMove_1 : decode cX7_canMove 1 = .ok (.getfield 50, 3) := by decide +kernel
theorem dX7_canMove_4 : decode cX7_canMove 4 = .ok (.ifnull 18, 3) := by decide +kernel
theorem dX7_canMove_7 : decode cX7_canMove 7 = .ok (.aload_n 2, 1) := by decide +kernel
theorem dX7_canMove_8 : decode cX7_canMove 8 = .ok (.getfield 71, 3) := by decide +kernel
theorem dX7_canMove_11 : decode cX7_canMove 11 = .ok (.ifCond .ne 11, 3) := by decide +kernel
theorem dX7_canMove_14 : decode cX7_canMove 14 = .ok (.aload_n 2, 1) := by decide +kernel
theorem dX7_canMove_15 : decode cX7_canMove 15 = .ok (.aload_n 1, 1) := by decide +kernel
theorem dX7_canMove_16 : decode cX7_canMove 16 = .ok (.invokevirtual 74, 3) := by decide +kernel
theorem dX7_canMove_19 : decode cX7_canMove 19 = .ok (.ifCond .eq 5, 3) := by decide +kernel
theorem dX7_canMove_22 : decode cX7_canMove 22 = .ok (.iconst 0, 1) := by decide +kernel
theorem dX7_canMove_23 : decode cX7_canMove 23 = .ok (.ireturn, 1) := by decide +kernel
theorem dX7_canMove_24 : decode cX7_canMove 24 = .ok (.aload_n 2, 1) := by decide +kernel
theorem dX7_canMove_25 : decode cX7_canMove 25 = .ok (.getfield 53, 3) := by decide +kernel
theorem dX7_canMove_28 : decode cX7_canMove 28 = .ok (.invokevirtual 35, 3) := by decide +kernel
theorem dX7_canMove_31 : decode cX7_canMove 31 = .ok (.aload_n 1, 1) := by decide +kernel
theorem dX7_canMove_32 : decode cX7_canMove 32 = .ok (.getfield 50, 3) := by decide +kernel
theorem dX7_canMove_35 : decode cX7_canMove 35 = .ok (.aload_n 2, 1) := by decide +kernel
theorem dX7_canMove_36 : decode cX7_canMove 36 = .ok (.if_acmp .ne 7, 3) := by decide +kernel
theorem dX7_canMove_39 : decode cX7_canMove 39 = .ok (.iconst 1, 1) := by decide +kernel
theorem dX7_canMove_40 : decode cX7_canMove 40 = .ok (.goto 4, 3) := by decide +kernel
theorem dX7_canMove_43 : decode cX7_canMove 43 = .ok (.iconst 0, 1) := by decide +kernel
theorem dX7_canMove_44 : decode cX7_canMove 44 = .ok (.isub, 1) := by decide +kernel
theorem dX7_canMove_45 : decode cX7_canMove 45 = .ok (.istore 4, 2) := by decide +kernel
theorem dX7_canMove_47 : decode cX7_canMove 47 = .ok (.iload_n 3, 1) := by decide +kernel
theorem dX7_canMove_48 : decode cX7_canMove 48 = .ok (.ifCond .lt 9, 3) := by decide +kernel
theorem dX7_canMove_51 : decode cX7_canMove 51 = .ok (.iload_n 3, 1) := by decide +kernel
theorem dX7_canMove_52 : decode cX7_canMove 52 = .ok (.iload 4, 2) := by decide +kernel
theorem dX7_canMove_54 : decode cX7_canMove 54 = .ok (.if_icmp .le 5, 3) := by decide +kernel
theorem dX7_canMove_57 : decode cX7_canMove 57 = .ok (.iconst 0, 1) := by decide +kernel
theorem dX7_canMove_58 : decode cX7_canMove 58 = .ok (.ireturn, 1) := by decide +kernel
theorem dX7_canMove_59 : decode cX7_canMove 59 = .ok (.aload_n 2, 1) := by decide +kernel
theorem dX7_canMove_60 : decode cX7_canMove 60 = .ok (.invokevirtual 47, 3) := by decide +kernel
theorem dX7_canMove_63 : decode cX7_canMove 63 = .ok (.iconst 1, 1) := by decide +kernel
theorem dX7_canMove_64 : decode cX7_canMove 64 = .ok (.iadd, 1) := by decide +kernel
theorem dX7_canMove_65 : decode cX7_canMove 65 = .ok (.aload_n 1, 1) := by decide +kernel
theorem dX7_canMove_66 : decode cX7_canMove 66 = .ok (.iconst 0, 1) := by decide +kernel
theorem dX7_canMove_67 : decode cX7_canMove 67 = .ok (.invokestatic 78, 3) := by decide +kernel
theorem dX7_canMove_70 : decode cX7_canMove 70 = .ok (.iadd, 1) := by decide +kernel
theorem dX7_canMove_71 : decode cX7_canMove 71 = .ok (.bipush 10, 2) := by decide +kernel
theorem dX7_canMove_73 : decode cX7_canMove 73 = .ok (.if_icmp .gt 7, 3) := by decide +kernel
theorem dX7_canMove_76 : decode cX7_canMove 76 = .ok (.iconst 1, 1) := by decide +kernel
theorem dX7_canMove_77 : decode cX7_canMove 77 = .ok (.goto 4, 3) := by decide +kernel
theorem dX7_canMove_80 : decode cX7_canMove 80 = .ok (.iconst 0, 1) := by decide +kernel
theorem dX7_canMove_81 : decode cX7_canMove 81 = .ok (.ireturn, 1) := by decide +kernel
set_option maxRecDepth 20000 in
theorem ggX7_putInto_X7_detach : GoodIn wsX7_putInto wsX7_detach := goodIn_r _ [7, 2, 1, 8, 9, 10, 11, 12, 13, 14, 15, 16, 17, 18, 19, 20, 21, 22, 23, 24, 25, 26, 27, 28, 29, 30, 31, 32, 33, 34, 35, 36, 37, 38, 39, 40, 41, 42, 43, 44, 45, 46, 47, 48, 49, 50, 51, 52, 124, 125, 126, 127, 128, 129, 130, 131, 132, 133, 134, 135, 136, 137, 138, 139, 140] (by decide +kernel) (by decide +kernel)
set_option maxRecDepth 20000 in
theorem gX7_putInto_X7_detach : GoodIn wsX7_putInto (wsV RX7 63 RX7 yX7_detach wsX7_detach) := goodIn_app (goodIn_of _ (by decide +kernel)) ggX7_putInto_X7_detach
set_option maxRecDepth 20000 in
theorem ggX7_putInto_Jx4a65c_size_8abf5 : GoodIn wsX7_putInto wsJx4a65c_size_8abf5 := goodIn_r _ [19, 20, 138, 139, 140] (by decide +kernel) (by decide +kernel)
set_option maxRecDepth 20000 in
theorem gX7_putInto_Jx4a65c_size_8abf5 : GoodIn wsX7_putInto (wsV RX7 35 RJx4a65c yJx4a65c_size_8abf5 wsJx4a65c_size_8abf5) := goodIn_app (goodIn_of _ (by decide +kernel)) ggX7_putInto_Jx4a65c_size_8abf5
set_option maxRecDepth 20000 in
theorem ggX7_putInto_Jx4a65c_add_7a177 : GoodIn wsX7_putInto wsJx4a65c_add_7a177 := goodIn_r _ [56, 47, 48, 20, 37, 49, 50, 51, 52, 57, 58, 59, 18, 60, 61, 62, 63, 64, 65, 66, 67, 68, 69, 70, 71, 72, 73, 74, 75, 76, 77, 78, 79, 80, 81, 82, 83, 84, 85, 86, 87, 88, 89, 90, 91, 92, 93, 94, 95, 96, 97, 98, 99, 100, 138, 139, 140] (by decide +kernel) (by decide +kernel)
set_option maxRecDepth 20000 in
theorem gX7_putInto_Jx4a65c_add_7a177 : GoodIn wsX7_putInto (wsV RX7 82 RJx4a65c yJx4a65c_add_7a177 wsJx4a65c_add_7a177) := goodIn_app (goodIn_of _ (by decide +kernel)) ggX7_putInto_Jx4a65c_add_7a177
set_option maxRecDepth 20000 in
theorem ggX7_putInto_X7_listAnew : GoodIn wsX7_putInto wsX7_listAnew := goodIn_r _ [104, 105, 106, 107, 108, 109, 18, 110, 47, 48, 37, 20, 111, 112, 6, 113, 1, 114, 115, 116, 117, 118, 119, 120, 121, 122, 61, 62, 63, 64, 65, 66, 67, 68, 69, 70, 71, 72, 73, 74, 75, 76, 77, 78, 79, 80, 81, 82, 83, 84, 85, 86, 87, 88, 89, 90, 91, 92, 93, 94, 95, 96, 97, 98, 99, 100, 50, 51, 52, 38, 16, 17, 19, 123, 22, 23, 24, 25, 26, 27, 28, 29, 30, 31, 32, 33, 34, 35, 36, 141, 142, 143, 138, 139, 140, 124, 125, 126, 127, 128, 129, 130, 131, 132, 133, 134, 135, 136, 137] (by decide +kernel) (by decide +kernel)
set_option maxRecDepth 20000 in
theorem gX7_putInto_X7_listAnew : GoodIn wsX7_putInto (wsV RX7 56 RX7 yX7_listAnew wsX7_listAnew) := goodIn_app (goodIn_of _ (by decide +kernel)) ggX7_putInto_X7_listAnew
theorem dX7_putInto_0 : decode cX7_putInto 0 = .ok (.aload_n 0, 1) := by decide +kernel
theorem dX7_putInto_1 : decode cX7_putInto 1 = .ok (.aload_n 1, 1) := by decide +kernel
theorem dX7_putInto_2 : decode cX7_putInto 2 = .ok (.invokevirtual 63, 3) := by decide +kernel
theorem dX7_putInto_5 : decode cX7_putInto 5 = .ok (.iload_n 3, 1) := by decide +kernel
theorem dX7_putInto_6 : decode cX7_putInto 6 = .ok (.ifCond .lt 28, 3) := by decide +kernel
theorem dX7_putInto_9 : decode cX7_putInto 9 = .ok (.iload_n 3, 1) := by decide +kernel
theorem dX7_putInto_10 : decode cX7_putInto 10 = .ok (.aload_n 2, 1) := by decide +kernel
theorem dX7_putInto_11 : decode cX7_putInto 11 = .ok (.getfield 53, 3) := by decide +kernel
theorem dX7_putInto_14 : decode cX7_putInto 14 = .ok (.invokevirtual 35, 3) := by decide +kernel
theorem dX7_putInto_17 : decode cX7_putInto 17 = .ok (.if_icmp .gt 17, 3) := by decide +kernel
theorem dX7_putInto_20 : decode cX7_putInto 20 = .ok (.aload_n 2, 1) := by decide +kernel
theorem dX7_putInto_21 : decode cX7_putInto 21 = .ok (.getfield 53, 3) := by decide +kernel
theorem dX7_putInto_24 : decode cX7_putInto 24 = .ok (.iload_n 3, 1) := by decide +kernel
theorem dX7_putInto_25 : decode cX7_putInto 25 = .ok (.aload_n 1, 1) := by decide +kernel
theorem dX7_putInto_26 : decode cX7_putInto 26 = .ok (.invokevirtual 82, 3) := by decide +kernel
theorem dX7_putInto_29 : decode cX7_putInto 29 = .ok (.aload_n 1, 1) := by decide +kernel
theorem dX7_putInto_30 : decode cX7_putInto 30 = .ok (.aload_n 2, 1) := by decide +kernel
theorem dX7_putInto_31 : decode cX7_putInto 31 = .ok (.putfield 50, 3) := by decide +kernel
theorem dX7_putInto_34 : decode cX7_putInto 34 = .ok (.aload_n 0, 1) := by decide +kernel
theorem dX7_putInto_35 : decode cX7_putInto 35 = .ok (.invokevirtual 56, 3) := by decide +kernel
theorem dX7_putInto_38 : decode cX7_putInto 38 = .ok (.return_, 1) := by decide +kernel
set_option maxRecDepth 20000 in
theorem ggX7_detach_X3_placeAmongSiblings : GoodIn wsX7_detach wsX3_placeAmongSiblings := goodIn_r _ [7, 8, 9, 10, 11, 12, 13, 14, 15, 16, 17, 18, 19, 20, 21, 22, 23, 24, 25, 26, 27, 28, 29, 30, 31, 32, 48, 49, 50, 51, 52, 53, 54, 55, 56, 57, 58, 59, 60, 61, 62, 63, 64] (by decide +kernel) (by decide +kernel)
set_option maxRecDepth 20000 in
theorem gX7_detach_X3_placeAmongSiblings : GoodIn wsX7_detach (wsV RX7 85 RX3 yX3_placeAmongSiblings wsX3_placeAmongSiblings) := goodIn_app (goodIn_of _ (by decide +kernel)) ggX7_detach_X3_placeAmongSiblings
set_option maxRecDepth 20000 in
theorem ggX7_detach_Jx4a65c_size_8abf5 : GoodIn wsX7_detach wsJx4a65c_size_8abf5 := goodIn_r _ [14, 15, 62, 63, 64] (by decide +kernel) (by decide +kernel)
set_option maxRecDepth 20000 in
theorem gX7_detach_Jx4a65c_size_8abf5 : GoodIn wsX7_detach (wsV RX7 35 RJx4a65c yJx4a65c_size_8abf5 wsJx4a65c_size_8abf5) := goodIn_app (goodIn_of _ (by decide +kernel)) ggX7_detach_Jx4a65c_size_8abf5
set_option maxRecDepth 20000 in
theorem ggX7_detach_Jx4a65c_remove_915e3 : GoodIn wsX7_detach wsJx4a65c_remove_915e3 := goodIn_r _ [37, 15, 32, 20, 21, 22, 23, 24, 25, 26, 27, 38, 39, 40, 13, 41, 42, 43, 44, 45, 46, 47, 62, 63, 64] (by decide +kernel) (by decide +kernel)
set_option maxRecDepth 20000 in
theorem gX7_detach_Jx4a65c_remove_915e3 : GoodIn wsX7_detach (wsV RX7 88 RJx4a65c yJx4a65c_remove_915e3 wsJx4a65c_remove_915e3) := goodIn_app (goodIn_of _ (by decide +kernel)) ggX7_detach_Jx4a65c_remove_915e3
theorem dX7_detach_0 : decode cX7_detach 0 = .ok (.aload_n 1, 1) := by decide +kernel
theorem dX7_detach_1 : decode cX7_detach 1 = .ok (.invokevirtual 85, 3) := by decide +kernel
theorem dX7_detach_4 : decode cX7_detach 4 = .ok (.istore_n 2, 1) := by decide +kernel
theorem dX7_detach_5 : decode cX7_detach 5 = .ok (.aload_n 1, 1) := by decide +kernel
theorem dX7_detach_6 : decode cX7_detach 6 = .ok (.getfield 50, 3) := by decide +kernel
theorem dX7_detach_9 : decode cX7_detach 9 = .ok (.ifnull 38, 3) := by decide +kernel
theorem dX7_detach_12 : decode cX7_detach 12 = .ok (.iload_n 2, 1) := by decide +kernel
theorem dX7_detach_13 : decode cX7_detach 13 = .ok (.ifCond .lt 34, 3) := by decide +kernel
theorem dX7_detach_16 : decode cX7_detach 16 = .ok (.iload_n 2, 1) := by decide +kernel
theorem dX7_detach_17 : decode cX7_detach 17 = .ok (.aload_n 1, 1) := by decide +kernel
theorem dX7_detach_18 : decode cX7_detach 18 = .ok (.getfield 50, 3) := by decide +kernel
theorem dX7_detach_21 : decode cX7_detach 21 = .ok (.getfield 53, 3) := by decide +kernel
theorem dX7_detach_24 : decode cX7_detach 24 = .ok (.invokevirtual 35, 3) := by decide +kernel
theorem dX7_detach_27 : decode cX7_detach 27 = .ok (.if_icmp .ge 20, 3) := by decide +kernel
theorem dX7_detach_30 : decode cX7_detach 30 = .ok (.aload_n 1, 1) := by decide +kernel
theorem dX7_detach_31 : decode cX7_detach 31 = .ok (.getfield 50, 3) := by decide +kernel
theorem dX7_detach_34 : decode cX7_detach 34 = .ok (.getfield 53, 3) := by decide +kernel
theorem dX7_detach_37 : decode cX7_detach 37 = .ok (.iload_n 2, 1) := by decide +kernel
theorem dX7_detach_38 : decode cX7_detach 38 = .ok (.invokevirtual 88, 3) := by decide +kernel
theorem dX7_detach_41 : decode cX7_detach 41 = .ok (.pop, 1) := by decide +kernel
theorem dX7_detach_42 : decode cX7_detach 42 = .ok (.aload_n 1, 1) := by decide +kernel
theorem dX7_detach_43 : decode cX7_detach 43 = .ok (.aconst_null, 1) := by decide +kernel
theorem dX7_detach_44 : decode cX7_detach 44 = .ok (.putfield 50, 3) := by decide +kernel
theorem dX7_detach_47 : decode cX7_detach 47 = .ok (.return_, 1) := by decide +kernel
set_option maxRecDepth 20000 in
theorem ggX7_listAnew_Jx4a65c_clear_da8c8 : GoodIn wsX7_listAnew wsJx4a65c_clear_da8c8 := goodIn_r _ [7, 8, 9, 10, 11, 92, 93, 94] (by decide +kernel) (by decide +kernel)
set_option maxRecDepth 20000 in
theorem gX7_listAnew_Jx4a65c_clear_da8c8 : GoodIn wsX7_listAnew (wsV RX7 91 RJx4a65c yJx4a65c_clear_da8c8 wsJx4a65c_clear_da8c8) := goodIn_app (goodIn_of _ (by decide +kernel)) ggX7_listAnew_Jx4a65c_clear_da8c8
set_option maxRecDepth 20000 in
theorem ggX7_listAnew_X7_listFrom : GoodIn wsX7_listAnew wsX7_listFrom := goodIn_r _ [15, 16, 17, 18, 19, 20, 6, 21, 8, 9, 10, 11, 22, 23, 24, 25, 26, 27, 28, 29, 30, 31, 32, 33, 34, 35, 36, 37, 38, 39, 40, 41, 42, 43, 44, 45, 46, 47, 48, 49, 50, 51, 52, 53, 54, 55, 56, 57, 58, 59, 60, 61, 62, 63, 64, 65, 66, 67, 68, 69, 70, 71, 72, 73, 74, 75, 76, 77, 78, 79, 80, 81, 82, 83, 84, 85, 86, 87, 88, 12, 13, 14, 95, 96, 97, 98, 99, 100, 101, 102, 103, 104, 105, 106, 107, 108, 92, 93, 94] (by decide +kernel) (by decide +kernel)
set_option maxRecDepth 20000 in
theorem gX7_listAnew_X7_listFrom : GoodIn wsX7_listAnew (va_wsS RX7 94 yX7_listFrom wsX7_listFrom) := goodIn_app (goodIn_of _ (by decide +kernel)) ggX7_listAnew_X7_listFrom
theorem dX7_listAnew_0 : decode cX7_listAnew 0 = .ok (.aload_n 0, 1) := by decide +kernel
theorem dX7_listAnew_1 : decode cX7_listAnew 1 = .ok (.getfield 18, 3) := by decide +kernel
theorem dX7_listAnew_4 : decode cX7_listAnew 4 = .ok (.invokevirtual 91, 3) := by decide +kernel
theorem dX7_listAnew_7 : decode cX7_listAnew 7 = .ok (.aload_n 0, 1) := by decide +kernel
theorem dX7_listAnew_8 : decode cX7_listAnew 8 = .ok (.getfield 26, 3) := by decide +kernel
theorem dX7_listAnew_11 : decode cX7_listAnew 11 = .ok (.aload_n 0, 1) := by decide +kernel
theorem dX7_listAnew_12 : decode cX7_listAnew 12 = .ok (.getfield 18, 3) := by decide +kernel
theorem dX7_listAnew_15 : decode cX7_listAnew 15 = .ok (.iconst 0, 1) := by decide +kernel
theorem dX7_listAnew_16 : decode cX7_listAnew 16 = .ok (.invokestatic 94, 3) := by decide +kernel
theorem dX7_listAnew_19 : decode cX7_listAnew 19 = .ok (.return_, 1) := by decide +kernel
set_option maxRecDepth 20000 in
theorem ggX7_listFrom_Jx4a65c_add_9ea2d : GoodIn wsX7_listFrom wsJx4a65c_add_9ea2d := goodIn_r _ [7, 8, 9, 10, 11, 12, 13, 14, 6, 15, 16, 17, 18, 19, 20, 21, 22, 23, 24, 25, 26, 27, 28, 29, 30, 31, 32, 33, 34, 35, 36, 37, 38, 39, 40, 41, 42, 43, 44, 45, 46, 47, 48, 49, 50, 51, 52, 53, 54, 55, 56, 57, 58, 96, 97, 98] (by decide +kernel) (by decide +kernel)
set_option maxRecDepth 20000 in
theorem gX7_listFrom_Jx4a65c_add_9ea2d : GoodIn wsX7_listFrom (wsV RX7 31 RJx4a65c yJx4a65c_add_9ea2d wsJx4a65c_add_9ea2d) := goodIn_app (goodIn_of _ (by decide +kernel)) ggX7_listFrom_Jx4a65c_add_9ea2d
set_option maxRecDepth 20000 in
theorem ggX7_listFrom_Jx4a65c_size_8abf5 : GoodIn wsX7_listFrom wsJx4a65c_size_8abf5 := goodIn_r _ [62, 11, 96, 97, 98] (by decide +kernel) (by decide +kernel)
set_option maxRecDepth 20000 in
theorem gX7_listFrom_Jx4a65c_size_8abf5 : GoodIn wsX7_listFrom (wsV RX7 35 RJx4a65c yJx4a65c_size_8abf5 wsJx4a65c_size_8abf5) := goodIn_app (goodIn_of _ (by decide +kernel)) ggX7_listFrom_Jx4a65c_size_8abf5
set_option maxRecDepth 20000 in
theorem ggX7_listFrom_Jx4a65c_get_915e3 : GoodIn wsX7_listFrom wsJx4a65c_get_915e3 := goodIn_r _ [66, 11, 67, 68, 69, 70, 71, 72, 73, 74, 75, 76, 77, 6, 78, 10, 96, 97, 98] (by decide +kernel) (by decide +kernel)
set_option maxRecDepth 20000 in
theorem gX7_listFrom_Jx4a65c_get_915e3 : GoodIn wsX7_listFrom (wsV RX7 39 RJx4a65c yJx4a65c_get_915e3 wsJx4a65c_get_915e3) := goodIn_app (goodIn_of _ (by decide +kernel)) ggX7_listFrom_Jx4a65c_get_915e3
set_option maxRecDepth 20000 in
theorem ggX7_listFrom_X7_listFrom : GoodIn wsX7_listFrom wsX7_listFrom := goodIn_r _ [0, 1, 2, 3, 4, 5, 6, 7, 8, 9, 10, 11, 12, 13, 14, 15, 16, 17, 18, 19, 20, 21, 22, 23, 24, 25, 26, 27, 28, 29, 30, 31, 32, 33, 34, 35, 36, 37, 38, 39, 40, 41, 42, 43, 44, 45, 46, 47, 48, 49, 50, 51, 52, 53, 54, 55, 56, 57, 58, 59, 60, 61, 62, 63, 64, 65, 66, 67, 68, 69, 70, 71, 72, 73, 74, 75, 76, 77, 78, 79, 80, 81, 82, 83, 84, 85, 86, 87, 88, 89, 90, 91, 92, 93, 94, 95, 96, 97, 98] (by decide +kernel) (by decide +kernel)
set_option maxRecDepth 20000 in
theorem gX7_listFrom_X7_listFrom : GoodIn wsX7_listFrom (va_wsS RX7 94 yX7_listFrom wsX7_listFrom) := goodIn_app (goodIn_of _ (by decide +kernel)) ggX7_listFrom_X7_listFrom
theorem dX7_listFrom_0 : decode cX7_listFrom 0 = .ok (.iload_n 2, 1) := by decide +kernel
theorem dX7_listFrom_1 : decode cX7_listFrom 1 = .ok (.bipush 10, 2) := by decide +kernel
theorem dX7_listFrom_3 : decode cX7_listFrom 3 = .ok (.if_icmp .le 4, 3) := by decide +kernel
theorem dX7_listFrom_6 : decode cX7_listFrom 6 = .ok (.return_, 1) := by decide +kernel
theorem dX7_listFrom_7 : decode cX7_listFrom 7 = .ok (.aload_n 1, 1) := by decide +kernel
theorem dX7_listFrom_8 : decode cX7_listFrom 8 = .ok (.aload_n 0, 1) := by decide +kernel
theorem dX7_listFrom_9 : decode cX7_listFrom 9 = .ok (.invokevirtual 31, 3) := by decide +kernel
theorem dX7_listFrom_12 : decode cX7_listFrom 12 = .ok (.pop, 1) := by decide +kernel
theorem dX7_listFrom_13 : decode cX7_listFrom 13 = .ok (.iconst 0, 1) := by decide +kernel
theorem dX7_listFrom_14 : decode cX7_listFrom 14 = .ok (.istore_n 3, 1) := by decide +kernel
theorem dX7_listFrom_15 : decode cX7_listFrom 15 = .ok (.iload_n 3, 1) := by decide +kernel
theorem dX7_listFrom_16 : decode cX7_listFrom 16 = .ok (.aload_n 0, 1) := by decide +kernel
theorem dX7_listFrom_17 : decode cX7_listFrom 17 = .ok (.getfield 53, 3) := by decide +kernel
theorem dX7_listFrom_20 : decode cX7_listFrom 20 = .ok (.invokevirtual 35, 3) := by decide +kernel
theorem dX7_listFrom_23 : decode cX7_listFrom 23 = .ok (.if_icmp .ge 27, 3) := by decide +kernel
theorem dX7_listFrom_26 : decode cX7_listFrom 26 = .ok (.aload_n 0, 1) := by decide +kernel
theorem dX7_listFrom_27 : decode cX7_listFrom 27 = .ok (.getfield 53, 3) := by decide +kernel
theorem dX7_listFrom_30 : decode cX7_listFrom 30 = .ok (.iload_n 3, 1) := by decide +kernel
theorem dX7_listFrom_31 : decode cX7_listFrom 31 = .ok (.invokevirtual 39, 3) := by decide +kernel
theorem dX7_listFrom_34 : decode cX7_listFrom 34 = .ok (.checkcast 21, 3) := by decide +kernel
theorem dX7_listFrom_37 : decode cX7_listFrom 37 = .ok (.aload_n 1, 1) := by decide +kernel
theorem dX7_listFrom_38 : decode cX7_listFrom 38 = .ok (.iload_n 2, 1) := by decide +kernel
theorem dX7_listFrom_39 : decode cX7_listFrom 39 = .ok (.iconst 1, 1) := by decide +kernel
theorem dX7_listFrom_40 : decode cX7_listFrom 40 = .ok (.iadd, 1) := by decide +kernel
theorem dX7_listFrom_41 : decode cX7_listFrom 41 = .ok (.invokestatic 94, 3) := by decide +kernel
theorem dX7_listFrom_44 : decode cX7_listFrom 44 = .ok (.iinc 3 1, 3) := by decide +kernel
theorem dX7_listFrom_47 : decode cX7_listFrom 47 = .ok (.goto (-32), 3) := by decide +kernel
theorem dX7_listFrom_50 : decode cX7_listFrom 50 = .ok (.return_, 1) := by decide +kernel
set_option maxRecDepth 20000 in
theorem ggX7_markGone_Jx4a65c_size_8abf5 : GoodIn wsX7_markGone wsJx4a65c_size_8abf5 := goodIn_r _ [8, 9, 44, 45, 46] (by decide +kernel) (by decide +kernel)
set_option maxRecDepth 20000 in
theorem gX7_markGone_Jx4a65c_size_8abf5 : GoodIn wsX7_markGone (wsV RX7 35 RJx4a65c yJx4a65c_size_8abf5 wsJx4a65c_size_8abf5) := goodIn_app (goodIn_of _ (by decide +kernel)) ggX7_markGone_Jx4a65c_size_8abf5
set_option maxRecDepth 20000 in
theorem ggX7_markGone_Jx4a65c_get_915e3 : GoodIn wsX7_markGone wsJx4a65c_get_915e3 := goodIn_r _ [13, 9, 14, 15, 16, 17, 18, 19, 20, 21, 22, 23, 24, 7, 25, 26, 44, 45, 46] (by decide +kernel) (by decide +kernel)
set_option maxRecDepth 20000 in
theorem gX7_markGone_Jx4a65c_get_915e3 : GoodIn wsX7_markGone (wsV RX7 39 RJx4a65c yJx4a65c_get_915e3 wsJx4a65c_get_915e3) := goodIn_app (goodIn_of _ (by decide +kernel)) ggX7_markGone_Jx4a65c_get_915e3
set_option maxRecDepth 20000 in
theorem ggX7_markGone_X7_markGone : GoodIn wsX7_markGone wsX7_markGone := goodIn_r _ [0, 1, 2, 3, 4, 5, 6, 7, 8, 9, 10, 11, 12, 13, 14, 15, 16, 17, 18, 19, 20, 21, 22, 23, 24, 25, 26, 27, 28, 29, 30, 31, 32, 33, 34, 35, 36, 37, 38, 39, 40, 41, 42, 43, 44, 45, 46] (by decide +kernel) (by decide +kernel)
set_option maxRecDepth 20000 in
theorem gX7_markGone_X7_markGone : GoodIn wsX7_markGone (va_wsS RX7 67 yX7_markGone wsX7_markGone) := goodIn_app (goodIn_of _ (by decide +kernel)) ggX7_markGone_X7_markGone
theorem dX7_markGone_0 : decode cX7_markGone 0 = .ok (.iload_n 1, 1) := by decide +kernel
theorem dX7_markGone_1 : decode cX7_markGone 1 = .ok (.bipush 10, 2) := by decide +kernel
theorem dX7_markGone_3 : decode cX7_markGone 3 = .ok (.if_icmp .le 4, 3) := by decide +kernel
theorem dX7_markGone_6 : decode cX7_markGone 6 = .ok (.return_, 1) := by decide +kernel
theorem dX7_markGone_7 : decode cX7_markGone 7 = .ok (.aload_n 0, 1) := by decide +kernel
theorem dX7_markGone_8 : decode cX7_markGone 8 = .ok (.iconst 1, 1) := by decide +kernel
theorem dX7_markGone_9 : decode cX7_markGone 9 = .ok (.putfield 43, 3) := by decide +kernel
theorem dX7_markGone_12 : decode cX7_markGone 12 = .ok (.iconst 0, 1) := by decide +kernel
