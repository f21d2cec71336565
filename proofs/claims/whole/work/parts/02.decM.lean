theorem dX6_init_0 : decode cX6_init 0 = .ok (.aload_n 0, 1) := by decide +kernel
theorem dX6_init_1 : decode cX6_init 1 = .ok (.invokespecial 1, 3) := by decide +kernel
theorem dX6_init_4 : decode cX6_init 4 = .ok (.aload_n 0, 1) := by decide +kernel
theorem dX6_init_5 : decode cX6_init 5 = .ok (.bipush 10, 2) := by decide +kernel
theorem dX6_init_7 : decode cX6_init 7 = .ok (.putfield 7, 3) := by decide +kernel
theorem dX6_init_10 : decode cX6_init 10 = .ok (.aload_n 0, 1) := by decide +kernel
theorem dX6_init_11 : decode cX6_init 11 = .ok (.iconst 2, 1) := by decide +kernel
theorem dX6_init_12 : decode cX6_init 12 = .ok (.putfield 13, 3) := by decide +kernel
theorem dX6_init_15 : decode cX6_init 15 = .ok (.aload_n 0, 1) := by decide +kernel
theorem dX6_init_16 : decode cX6_init 16 = .ok (.iconst 1, 1) := by decide +kernel
theorem dX6_init_17 : decode cX6_init 17 = .ok (.putfield 16, 3) := by decide +kernel
theorem dX6_init_20 : decode cX6_init 20 = .ok (.aload_n 0, 1) := by decide +kernel
theorem dX6_init_21 : decode cX6_init 21 = .ok (.bipush 12, 2) := by decide +kernel
theorem dX6_init_23 : decode cX6_init 23 = .ok (.newarray .int, 2) := by decide +kernel
theorem dX6_init_25 : decode cX6_init 25 = .ok (.putfield 19, 3) := by decide +kernel
theorem dX6_init_28 : decode cX6_init 28 = .ok (.aload_n 0, 1) := by decide +kernel
theorem dX6_init_29 : decode cX6_init 29 = .ok (.bipush 12, 2) := by decide +kernel
theorem dX6_init_31 : decode cX6_init 31 = .ok (.newarray .int, 2) := by decide +kernel
theorem dX6_init_33 : decode cX6_init 33 = .ok (.putfield 23, 3) := by decide +kernel
theorem dX6_init_36 : decode cX6_init 36 = .ok (.aload_n 0, 1) := by decide +kernel
theorem dX6_init_37 : decode cX6_init 37 = .ok (.bipush 26, 2) := by decide +kernel
theorem dX6_init_39 : decode cX6_init 39 = .ok (.newarray .int, 2) := by decide +kernel
theorem dX6_init_41 : decode cX6_init 41 = .ok (.putfield 26, 3) := by decide +kernel
theorem dX6_init_44 : decode cX6_init 44 = .ok (.aload_n 0, 1) := by decide +kernel
theorem dX6_init_45 : decode cX6_init 45 = .ok (.sipush 260, 3) := by decide +kernel
theorem dX6_init_48 : decode cX6_init 48 = .ok (.newarray .int, 2) := by decide +kernel
theorem dX6_init_50 : decode cX6_init 50 = .ok (.putfield 29, 3) := by decide +kernel
theorem dX6_init_53 : decode cX6_init 53 = .ok (.aload_n 0, 1) := by decide +kernel
theorem dX6_init_54 : decode cX6_init 54 = .ok (.bipush 52, 2) := by decide +kernel
theorem dX6_init_56 : decode cX6_init 56 = .ok (.newarray .int, 2) := by decide +kernel
theorem dX6_init_58 : decode cX6_init 58 = .ok (.putfield 32, 3) := by decide +kernel
theorem dX6_init_61 : decode cX6_init 61 = .ok (.aload_n 0, 1) := by decide +kernel
theorem dX6_init_62 : decode cX6_init 62 = .ok (.iconst 2, 1) := by decide +kernel
theorem dX6_init_63 : decode cX6_init 63 = .ok (.newarray .boolean, 2) := by decide +kernel
theorem dX6_init_65 : decode cX6_init 65 = .ok (.putfield 35, 3) := by decide +kernel
theorem dX6_init_68 : decode cX6_init 68 = .ok (.aload_n 0, 1) := by decide +kernel
theorem dX6_init_69 : decode cX6_init 69 = .ok (.iconst 4, 1) := by decide +kernel
theorem dX6_init_70 : decode cX6_init 70 = .ok (.newarray .int, 2) := by decide +kernel
theorem dX6_init_72 : decode cX6_init 72 = .ok (.putfield 39, 3) := by decide +kernel
theorem dX6_init_75 : decode cX6_init 75 = .ok (.aload_n 0, 1) := by decide +kernel
theorem dX6_init_76 : decode cX6_init 76 = .ok (.bipush 20, 2) := by decide +kernel
theorem dX6_init_78 : decode cX6_init 78 = .ok (.newarray .int, 2) := by decide +kernel
theorem dX6_init_80 : decode cX6_init 80 = .ok (.putfield 42, 3) := by decide +kernel
theorem dX6_init_83 : decode cX6_init 83 = .ok (.aload_n 0, 1) := by decide +kernel
theorem dX6_init_84 : decode cX6_init 84 = .ok (.sipush 200, 3) := by decide +kernel
theorem dX6_init_87 : decode cX6_init 87 = .ok (.newarray .int, 2) := by decide +kernel
theorem dX6_init_89 : decode cX6_init 89 = .ok (.putfield 45, 3) := by decide +kernel
theorem dX6_init_92 : decode cX6_init 92 = .ok (.aload_n 0, 1) := by decide +kernel
theorem dX6_init_93 : decode cX6_init 93 = .ok (.bipush 12, 2) := by decide +kernel
theorem dX6_init_95 : decode cX6_init 95 = .ok (.newarray .int, 2) := by decide +kernel
theorem dX6_init_97 : decode cX6_init 97 = .ok (.putfield 48, 3) := by decide +kernel
theorem dX6_init_100 : decode cX6_init 100 = .ok (.aload_n 0, 1) := by decide +kernel
theorem dX6_init_101 : decode cX6_init 101 = .ok (.bipush 12, 2) := by decide +kernel
theorem dX6_init_103 : decode cX6_init 103 = .ok (.newarray .int, 2) := by decide +kernel
theorem dX6_init_105 : decode cX6_init 105 = .ok (.putfield 51, 3) := by decide +kernel
theorem dX6_init_108 : decode cX6_init 108 = .ok (.aload_n 0, 1) := by decide +kernel
theorem dX6_init_109 : decode cX6_init 109 = .ok (.iconst 3, 1) := by decide +kernel
theorem dX6_init_110 : decode cX6_init 110 = .ok (.newarray .int, 2) := by decide +kernel
theorem dX6_init_112 : decode cX6_init 112 = .ok (.putfield 54, 3) := by decide +kernel
theorem dX6_init_115 : decode cX6_init 115 = .ok (.aload_n 0, 1) := by decide +kernel
theorem dX6_init_116 : decode cX6_init 116 = .ok (.bipush 6, 2) := by decide +kernel
theorem dX6_init_118 : decode cX6_init 118 = .ok (.newarray .int, 2) := by decide +kernel
theorem dX6_init_120 : decode cX6_init 120 = .ok (.putfield 57, 3) := by decide +kernel
theorem dX6_init_123 : decode cX6_init 123 = .ok (.aload_n 0, 1) := by decide +kernel
theorem dX6_init_124 : decode cX6_init 124 = .ok (.bipush 6, 2) := by decide +kernel
theorem dX6_init_126 : decode cX6_init 126 = .ok (.newarray .int, 2) := by decide +kernel
theorem dX6_init_128 : decode cX6_init 128 = .ok (.putfield 60, 3) := by decide +kernel
theorem dX6_init_131 : decode cX6_init 131 = .ok (.aload_n 0, 1) := by decide +kernel
theorem dX6_init_132 : decode cX6_init 132 = .ok (.bipush 6, 2) := by decide +kernel
theorem dX6_init_134 : decode cX6_init 134 = .ok (.newarray .int, 2) := by decide +kernel
theorem dX6_init_136 : decode cX6_init 136 = .ok (.putfield 63, 3) := by decide +kernel
theorem dX6_init_139 : decode cX6_init 139 = .ok (.aload_n 0, 1) := by decide +kernel
theorem dX6_init_140 : decode cX6_init 140 = .ok (.bipush 6, 2) := by decide +kernel
theorem dX6_init_142 : decode cX6_init 142 = .ok (.newarray .int, 2) := by decide +kernel
theorem dX6_init_144 : decode cX6_init 144 = .ok (.putfield 66, 3) := by decide +kernel
theorem dX6_init_147 : decode cX6_init 147 = .ok (.aload_n 0, 1) := by decide +kernel
theorem dX6_init_148 : decode cX6_init 148 = .ok (.bipush 7, 2) := by decide +kernel
theorem dX6_init_150 : decode cX6_init 150 = .ok (.newarray .long, 2) := by decide +kernel
theorem dX6_init_152 : decode cX6_init 152 = .ok (.putfield 69, 3) := by decide +kernel
theorem dX6_init_155 : decode cX6_init 155 = .ok (.aload_n 0, 1) := by decide +kernel
theorem dX6_init_156 : decode cX6_init 156 = .ok (.iconst 5, 1) := by decide +kernel
theorem dX6_init_157 : decode cX6_init 157 = .ok (.newarray .int, 2) := by decide +kernel
theorem dX6_init_159 : decode cX6_init 159 = .ok (.putfield 73, 3) := by decide +kernel
theorem dX6_init_162 : decode cX6_init 162 = .ok (.aload_n 0, 1) := by decide +kernel
theorem dX6_init_163 : decode cX6_init 163 = .ok (.iconst 5, 1) := by decide +kernel
theorem dX6_init_164 : decode cX6_init 164 = .ok (.newarray .int, 2) := by decide +kernel
theorem dX6_init_166 : decode cX6_init 166 = .ok (.putfield 76, 3) := by decide +kernel
theorem dX6_init_169 : decode cX6_init 169 = .ok (.aload_n 0, 1) := by decide +kernel
theorem dX6_init_170 : decode cX6_init 170 = .ok (.iconst 4, 1) := by decide +kernel
theorem dX6_init_171 : decode cX6_init 171 = .ok (.newarray .int, 2) := by decide +kernel
theorem dX6_init_173 : decode cX6_init 173 = .ok (.putfield 79, 3) := by decide +kernel
theorem dX6_init_176 : decode cX6_init 176 = .ok (.iconst 0, 1) := by decide +kernel
theorem dX6_init_177 : decode cX6_init 177 = .ok (.istore_n 1, 1) := by decide +kernel
theorem dX6_init_178 : decode cX6_init 178 = .ok (.iload_n 1, 1) := by decide +kernel
theorem dX6_init_179 : decode cX6_init 179 = .ok (.bipush 6, 2) := by decide +kernel
theorem dX6_init_181 : decode cX6_init 181 = .ok (.if_icmp .ge 19, 3) := by decide +kernel
theorem dX6_init_184 : decode cX6_init 184 = .ok (.aload_n 0, 1) := by decide +kernel
theorem dX6_init_185 : decode cX6_init 185 = .ok (.getfield 26, 3) := by decide +kernel
theorem dX6_init_188 : decode cX6_init 188 = .ok (.iconst 2, 1) := by decide +kernel
theorem dX6_init_189 : decode cX6_init 189 = .ok (.iload_n 1, 1) := by decide +kernel
theorem dX6_init_190 : decode cX6_init 190 = .ok (.iadd, 1) := by decide +kernel
theorem dX6_init_191 : decode cX6_init 191 = .ok (.bipush (-9), 2) := by decide +kernel
theorem dX6_init_193 : decode cX6_init 193 = .ok (.iastore, 1) := by decide +kernel
theorem dX6_init_194 : decode cX6_init 194 = .ok (.iinc 1 1, 3) := by decide +kernel
theorem dX6_init_197 : decode cX6_init 197 = .ok (.goto (-19), 3) := by decide +kernel
theorem dX6_init_200 : decode cX6_init 200 = .ok (.return_, 1) := by decide +kernel
theorem dX6_in_0 : decode cX6_in 0 = .ok (.iload_n 0, 1) := by decide +kernel
theorem dX6_in_1 : decode cX6_in 1 = .ok (.iload_n 1, 1) := by decide +kernel
theorem dX6_in_2 : decode cX6_in 2 = .ok (.if_icmp .lt 12, 3) := by decide +kernel
theorem dX6_in_5 : decode cX6_in 5 = .ok (.iload_n 0, 1) := by decide +kernel
theorem dX6_in_6 : decode cX6_in 6 = .ok (.iload_n 2, 1) := by decide +kernel
theorem dX6_in_7 : decode cX6_in 7 = .ok (.if_icmp .gt 7, 3) := by decide +kernel
theorem dX6_in_10 : decode cX6_in 10 = .ok (.iconst 1, 1) := by decide +kernel
theorem dX6_in_11 : decode cX6_in 11 = .ok (.goto 4, 3) := by decide +kernel
theorem dX6_in_14 : decode cX6_in 14 = .ok (.iconst 0, 1) := by decide +kernel
theorem dX6_in_15 : decode cX6_in 15 = .ok (.ireturn, 1) := by decide +kernel
theorem dX6_has_0 : decode cX6_has 0 = .ok (.iload_n 0, 1) := by decide +kernel
theorem dX6_has_1 : decode cX6_has 1 = .ok (.iload_n 1, 1) := by decide +kernel
theorem dX6_has_2 : decode cX6_has 2 = .ok (.ishr, 1) := by decide +kernel
theorem dX6_has_3 : decode cX6_has 3 = .ok (.iconst 1, 1) := by decide +kernel
theorem dX6_has_4 : decode cX6_has 4 = .ok (.iand, 1) := by decide +kernel
theorem dX6_has_5 : decode cX6_has 5 = .ok (.iconst 1, 1) := by decide +kernel
theorem dX6_has_6 : decode cX6_has 6 = .ok (.if_icmp .ne 7, 3) := by decide +kernel
theorem dX6_has_9 : decode cX6_has 9 = .ok (.iconst 1, 1) := by decide +kernel
theorem dX6_has_10 : decode cX6_has 10 = .ok (.goto 4, 3) := by decide +kernel
theorem dX6_has_13 : decode cX6_has 13 = .ok (.iconst 0, 1) := by decide +kernel
theorem dX6_has_14 : decode cX6_has 14 = .ok (.ireturn, 1) := by decide +kernel
theorem dX6_bits_0 : decode cX6_bits 0 = .ok (.iconst 0, 1) := by decide +kernel
theorem dX6_bits_1 : decode cX6_bits 1 = .ok (.istore_n 1, 1) := by decide +kernel
theorem dX6_bits_2 : decode cX6_bits 2 = .ok (.iload_n 0, 1) := by decide +kernel
theorem dX6_bits_3 : decode cX6_bits 3 = .ok (.istore_n 2, 1) := by decide +kernel
theorem dX6_bits_4 : decode cX6_bits 4 = .ok (.iload_n 2, 1) := by decide +kernel
theorem dX6_bits_5 : decode cX6_bits 5 = .ok (.ifCond .le 15, 3) := by decide +kernel
theorem dX6_bits_8 : decode cX6_bits 8 = .ok (.iinc 1 1, 3) := by decide +kernel
theorem dX6_bits_11 : decode cX6_bits 11 = .ok (.iload_n 2, 1) := by decide +kernel
theorem dX6_bits_12 : decode cX6_bits 12 = .ok (.iload_n 2, 1) := by decide +kernel
theorem dX6_bits_13 : decode cX6_bits 13 = .ok (.iconst 1, 1) := by decide +kernel
theorem dX6_bits_14 : decode cX6_bits 14 = .ok (.isub, 1) := by decide +kernel
theorem dX6_bits_15 : decode cX6_bits 15 = .ok (.iand, 1) := by decide +kernel
theorem dX6_bits_16 : decode cX6_bits 16 = .ok (.istore_n 2, 1) := by decide +kernel
theorem dX6_bits_17 : decode cX6_bits 17 = .ok (.goto (-13), 3) := by decide +kernel
theorem dX6_bits_20 : decode cX6_bits 20 = .ok (.iload_n 1, 1) := by decide +kernel
theorem dX6_bits_21 : decode cX6_bits 21 = .ok (.ireturn, 1) := by decide +kernel
theorem dX6_isTraveller_0 : decode cX6_isTraveller 0 = .ok (.iload_n 1, 1) := by decide +kernel
theorem dX6_isTraveller_1 : decode cX6_isTraveller 1 = .ok (.iconst 0, 1) := by decide +kernel
theorem dX6_isTraveller_2 : decode cX6_isTraveller 2 = .ok (.aload_n 0, 1) := by decide +kernel
theorem dX6_isTraveller_3 : decode cX6_isTraveller 3 = .ok (.getfield 82, 3) := by decide +kernel
theorem dX6_isTraveller_6 : decode cX6_isTraveller 6 = .ok (.iconst 1, 1) := by decide +kernel
theorem dX6_isTraveller_7 : decode cX6_isTraveller 7 = .ok (.isub, 1) := by decide +kernel
theorem dX6_isTraveller_8 : decode cX6_isTraveller 8 = .ok (.invokestatic 85, 3) := by decide +kernel
theorem dX6_isTraveller_11 : decode cX6_isTraveller 11 = .ok (.ireturn, 1) := by decide +kernel
theorem dX6_isRow_0 : decode cX6_isRow 0 = .ok (.iload_n 1, 1) := by decide +kernel
theorem dX6_isRow_1 : decode cX6_isRow 1 = .ok (.iconst 0, 1) := by decide +kernel
theorem dX6_isRow_2 : decode cX6_isRow 2 = .ok (.aload_n 0, 1) := by decide +kernel
theorem dX6_isRow_3 : decode cX6_isRow 3 = .ok (.getfield 13, 3) := by decide +kernel
theorem dX6_isRow_6 : decode cX6_isRow 6 = .ok (.iconst 1, 1) := by decide +kernel
theorem dX6_isRow_7 : decode cX6_isRow 7 = .ok (.isub, 1) := by decide +kernel
theorem dX6_isRow_8 : decode cX6_isRow 8 = .ok (.invokestatic 85, 3) := by decide +kernel
theorem dX6_isRow_11 : decode cX6_isRow 11 = .ok (.ireturn, 1) := by decide +kernel
theorem dX6_isClerk_0 : decode cX6_isClerk 0 = .ok (.iload_n 1, 1) := by decide +kernel
theorem dX6_isClerk_1 : decode cX6_isClerk 1 = .ok (.iconst 0, 1) := by decide +kernel
theorem dX6_isClerk_2 : decode cX6_isClerk 2 = .ok (.aload_n 0, 1) := by decide +kernel
theorem dX6_isClerk_3 : decode cX6_isClerk 3 = .ok (.getfield 89, 3) := by decide +kernel
theorem dX6_isClerk_6 : decode cX6_isClerk 6 = .ok (.iconst 1, 1) := by decide +kernel
theorem dX6_isClerk_7 : decode cX6_isClerk 7 = .ok (.isub, 1) := by decide +kernel
theorem dX6_isClerk_8 : decode cX6_isClerk 8 = .ok (.invokestatic 85, 3) := by decide +kernel
theorem dX6_isClerk_11 : decode cX6_isClerk 11 = .ok (.ireturn, 1) := by decide +kernel
theorem dX6_type_0 : decode cX6_type 0 = .ok (.iload_n 1, 1) := by decide +kernel
theorem dX6_type_1 : decode cX6_type 1 = .ok (.iconst 0, 1) := by decide +kernel
theorem dX6_type_2 : decode cX6_type 2 = .ok (.sipush 255, 3) := by decide +kernel
theorem dX6_type_5 : decode cX6_type 5 = .ok (.invokestatic 85, 3) := by decide +kernel
theorem dX6_type_8 : decode cX6_type 8 = .ok (.ifCond .ne 5, 3) := by decide +kernel
theorem dX6_type_11 : decode cX6_type 11 = .ok (.iconst (-1), 1) := by decide +kernel
theorem dX6_type_12 : decode cX6_type 12 = .ok (.ireturn, 1) := by decide +kernel
theorem dX6_type_13 : decode cX6_type 13 = .ok (.aload_n 0, 1) := by decide +kernel
theorem dX6_type_14 : decode cX6_type 14 = .ok (.getfield 92, 3) := by decide +kernel
theorem dX6_type_17 : decode cX6_type 17 = .ok (.sipush 200, 3) := by decide +kernel
theorem dX6_type_20 : decode cX6_type 20 = .ok (.if_icmp .ne 6, 3) := by decide +kernel
theorem dX6_type_23 : decode cX6_type 23 = .ok (.bipush (-3), 2) := by decide +kernel
theorem dX6_type_25 : decode cX6_type 25 = .ok (.ireturn, 1) := by decide +kernel
theorem dX6_type_26 : decode cX6_type 26 = .ok (.aload_n 0, 1) := by decide +kernel
theorem dX6_type_27 : decode cX6_type 27 = .ok (.getfield 45, 3) := by decide +kernel
theorem dX6_type_30 : decode cX6_type 30 = .ok (.aload_n 0, 1) := by decide +kernel
theorem dX6_type_31 : decode cX6_type 31 = .ok (.getfield 92, 3) := by decide +kernel
theorem dX6_type_34 : decode cX6_type 34 = .ok (.iload_n 1, 1) := by decide +kernel
theorem dX6_type_35 : decode cX6_type 35 = .ok (.iastore, 1) := by decide +kernel
theorem dX6_type_36 : decode cX6_type 36 = .ok (.aload_n 0, 1) := by decide +kernel
theorem dX6_type_37 : decode cX6_type 37 = .ok (.dup, 1) := by decide +kernel
theorem dX6_type_38 : decode cX6_type 38 = .ok (.getfield 92, 3) := by decide +kernel
theorem dX6_type_41 : decode cX6_type 41 = .ok (.iconst 1, 1) := by decide +kernel
theorem dX6_type_42 : decode cX6_type 42 = .ok (.iadd, 1) := by decide +kernel
theorem dX6_type_43 : decode cX6_type 43 = .ok (.putfield 92, 3) := by decide +kernel
theorem dX6_type_46 : decode cX6_type 46 = .ok (.aload_n 0, 1) := by decide +kernel
theorem dX6_type_47 : decode cX6_type 47 = .ok (.getfield 92, 3) := by decide +kernel
theorem dX6_type_50 : decode cX6_type 50 = .ok (.ireturn, 1) := by decide +kernel
theorem dX6_clear_0 : decode cX6_clear 0 = .ok (.aload_n 0, 1) := by decide +kernel
theorem dX6_clear_1 : decode cX6_clear 1 = .ok (.getfield 92, 3) := by decide +kernel
theorem dX6_clear_4 : decode cX6_clear 4 = .ok (.istore_n 1, 1) := by decide +kernel
theorem dX6_clear_5 : decode cX6_clear 5 = .ok (.aload_n 0, 1) := by decide +kernel
theorem dX6_clear_6 : decode cX6_clear 6 = .ok (.iconst 0, 1) := by decide +kernel
theorem dX6_clear_7 : decode cX6_clear 7 = .ok (.putfield 92, 3) := by decide +kernel
theorem dX6_clear_10 : decode cX6_clear 10 = .ok (.iload_n 1, 1) := by decide +kernel
theorem dX6_clear_11 : decode cX6_clear 11 = .ok (.ireturn, 1) := by decide +kernel
theorem dX6_letterAt_0 : decode cX6_letterAt 0 = .ok (.iload_n 1, 1) := by decide +kernel
theorem dX6_letterAt_1 : decode cX6_letterAt 1 = .ok (.aload_n 0, 1) := by decide +kernel
theorem dX6_letterAt_2 : decode cX6_letterAt 2 = .ok (.getfield 92, 3) := by decide +kernel
theorem dX6_letterAt_5 : decode cX6_letterAt 5 = .ok (.if_icmp .ge 12, 3) := by decide +kernel
theorem dX6_letterAt_8 : decode cX6_letterAt 8 = .ok (.aload_n 0, 1) := by decide +kernel
theorem dX6_letterAt_9 : decode cX6_letterAt 9 = .ok (.getfield 45, 3) := by decide +kernel
theorem dX6_letterAt_12 : decode cX6_letterAt 12 = .ok (.iload_n 1, 1) := by decide +kernel
theorem dX6_letterAt_13 : decode cX6_letterAt 13 = .ok (.iaload, 1) := by decide +kernel
theorem dX6_letterAt_14 : decode cX6_letterAt 14 = .ok (.goto 4, 3) := by decide +kernel
theorem dX6_letterAt_17 : decode cX6_letterAt 17 = .ok (.iconst (-1), 1) := by decide +kernel
theorem dX6_letterAt_18 : decode cX6_letterAt 18 = .ok (.ireturn, 1) := by decide +kernel
theorem dX6_next_0 : decode cX6_next 0 = .ok (.aload_n 0, 1) := by decide +kernel
theorem dX6_next_1 : decode cX6_next 1 = .ok (.aload_n 0, 1) := by decide +kernel
theorem dX6_next_2 : decode cX6_next 2 = .ok (.getfield 95, 3) := by decide +kernel
theorem dX6_next_5 : decode cX6_next 5 = .ok (.invokevirtual 98, 3) := by decide +kernel
theorem dX6_next_8 : decode cX6_next 8 = .ok (.bipush 32, 2) := by decide +kernel
theorem dX6_next_10 : decode cX6_next 10 = .ok (.if_icmp .ne 16, 3) := by decide +kernel
theorem dX6_next_13 : decode cX6_next 13 = .ok (.aload_n 0, 1) := by decide +kernel
theorem dX6_next_14 : decode cX6_next 14 = .ok (.dup, 1) := by decide +kernel
theorem dX6_next_15 : decode cX6_next 15 = .ok (.getfield 95, 3) := by decide +kernel
theorem dX6_next_18 : decode cX6_next 18 = .ok (.iconst 1, 1) := by decide +kernel
theorem dX6_next_19 : decode cX6_next 19 = .ok (.iadd, 1) := by decide +kernel
theorem dX6_next_20 : decode cX6_next 20 = .ok (.putfield 95, 3) := by decide +kernel
theorem dX6_next_23 : decode cX6_next 23 = .ok (.goto (-23), 3) := by decide +kernel
theorem dX6_next_26 : decode cX6_next 26 = .ok (.aload_n 0, 1) := by decide +kernel
theorem dX6_next_27 : decode cX6_next 27 = .ok (.aload_n 0, 1) := by decide +kernel
theorem dX6_next_28 : decode cX6_next 28 = .ok (.getfield 95, 3) := by decide +kernel
theorem dX6_next_31 : decode cX6_next 31 = .ok (.putfield 102, 3) := by decide +kernel
theorem dX6_next_34 : decode cX6_next 34 = .ok (.aload_n 0, 1) := by decide +kernel
theorem dX6_next_35 : decode cX6_next 35 = .ok (.aload_n 0, 1) := by decide +kernel
theorem dX6_next_36 : decode cX6_next 36 = .ok (.getfield 95, 3) := by decide +kernel
theorem dX6_next_39 : decode cX6_next 39 = .ok (.invokevirtual 98, 3) := by decide +kernel
theorem dX6_next_42 : decode cX6_next 42 = .ok (.istore_n 1, 1) := by decide +kernel
theorem dX6_next_43 : decode cX6_next 43 = .ok (.iload_n 1, 1) := by decide +kernel
theorem dX6_next_44 : decode cX6_next 44 = .ok (.ifCond .ge 9, 3) := by decide +kernel
theorem dX6_next_47 : decode cX6_next 47 = .ok (.aload_n 0, 1) := by decide +kernel
theorem dX6_next_48 : decode cX6_next 48 = .ok (.iconst 0, 1) := by decide +kernel
theorem dX6_next_49 : decode cX6_next 49 = .ok (.putfield 105, 3) := by decide +kernel
theorem dX6_next_52 : decode cX6_next 52 = .ok (.return_, 1) := by decide +kernel
theorem dX6_next_53 : decode cX6_next 53 = .ok (.aload_n 0, 1) := by decide +kernel
theorem dX6_next_54 : decode cX6_next 54 = .ok (.dup, 1) := by decide +kernel
theorem dX6_next_55 : decode cX6_next 55 = .ok (.getfield 95, 3) := by decide +kernel
theorem dX6_next_58 : decode cX6_next 58 = .ok (.iconst 1, 1) := by decide +kernel
theorem dX6_next_59 : decode cX6_next 59 = .ok (.iadd, 1) := by decide +kernel
theorem dX6_next_60 : decode cX6_next 60 = .ok (.putfield 95, 3) := by decide +kernel
theorem dX6_next_63 : decode cX6_next 63 = .ok (.aload_n 0, 1) := by decide +kernel
theorem dX6_next_64 : decode cX6_next 64 = .ok (.iload_n 1, 1) := by decide +kernel
theorem dX6_next_65 : decode cX6_next 65 = .ok (.putfield 108, 3) := by decide +kernel
theorem dX6_next_68 : decode cX6_next 68 = .ok (.aload_n 0, 1) := by decide +kernel
theorem dX6_next_69 : decode cX6_next 69 = .ok (.iload_n 1, 1) := by decide +kernel
theorem dX6_next_70 : decode cX6_next 70 = .ok (.bipush 113, 2) := by decide +kernel
theorem dX6_next_72 : decode cX6_next 72 = .ok (.if_icmp .eq 27, 3) := by decide +kernel
theorem dX6_next_75 : decode cX6_next 75 = .ok (.iload_n 1, 1) := by decide +kernel
theorem dX6_next_76 : decode cX6_next 76 = .ok (.bipush 114, 2) := by decide +kernel
theorem dX6_next_78 : decode cX6_next 78 = .ok (.if_icmp .eq 21, 3) := by decide +kernel
theorem dX6_next_81 : decode cX6_next 81 = .ok (.iload_n 1, 1) := by decide +kernel
theorem dX6_next_82 : decode cX6_next 82 = .ok (.bipush 98, 2) := by decide +kernel
theorem dX6_next_84 : decode cX6_next 84 = .ok (.if_icmp .eq 15, 3) := by decide +kernel
theorem dX6_next_87 : decode cX6_next 87 = .ok (.iload_n 1, 1) := by decide +kernel
theorem dX6_next_88 : decode cX6_next 88 = .ok (.bipush 116, 2) := by decide +kernel
theorem dX6_next_90 : decode cX6_next 90 = .ok (.if_icmp .eq 9, 3) := by decide +kernel
theorem dX6_next_93 : decode cX6_next 93 = .ok (.iload_n 1, 1) := by decide +kernel
theorem dX6_next_94 : decode cX6_next 94 = .ok (.bipush 107, 2) := by decide +kernel
theorem dX6_next_96 : decode cX6_next 96 = .ok (.if_icmp .ne 7, 3) := by decide +kernel
theorem dX6_next_99 : decode cX6_next 99 = .ok (.iconst 1, 1) := by decide +kernel
theorem dX6_next_100 : decode cX6_next 100 = .ok (.goto 14, 3) := by decide +kernel
theorem dX6_next_103 : decode cX6_next 103 = .ok (.iload_n 1, 1) := by decide +kernel
theorem dX6_next_104 : decode cX6_next 104 = .ok (.bipush 59, 2) := by decide +kernel
theorem dX6_next_106 : decode cX6_next 106 = .ok (.if_icmp .ne 7, 3) := by decide +kernel
theorem dX6_next_109 : decode cX6_next 109 = .ok (.iconst 3, 1) := by decide +kernel
theorem dX6_next_110 : decode cX6_next 110 = .ok (.goto 4, 3) := by decide +kernel
theorem dX6_next_113 : decode cX6_next 113 = .ok (.iconst 4, 1) := by decide +kernel
theorem dX6_next_114 : decode cX6_next 114 = .ok (.putfield 105, 3) := by decide +kernel
theorem dX6_next_117 : decode cX6_next 117 = .ok (.iload_n 1, 1) := by decide +kernel
theorem dX6_next_118 : decode cX6_next 118 = .ok (.bipush 48, 2) := by decide +kernel
theorem dX6_next_120 : decode cX6_next 120 = .ok (.bipush 57, 2) := by decide +kernel
theorem dX6_next_122 : decode cX6_next 122 = .ok (.invokestatic 85, 3) := by decide +kernel
theorem dX6_next_125 : decode cX6_next 125 = .ok (.ifCond .eq 146, 3) := by decide +kernel
theorem dX6_next_128 : decode cX6_next 128 = .ok (.aload_n 0, 1) := by decide +kernel
theorem dX6_next_129 : decode cX6_next 129 = .ok (.iload_n 1, 1) := by decide +kernel
theorem dX6_next_130 : decode cX6_next 130 = .ok (.bipush 48, 2) := by decide +kernel
theorem dX6_next_132 : decode cX6_next 132 = .ok (.isub, 1) := by decide +kernel
theorem dX6_next_133 : decode cX6_next 133 = .ok (.putfield 108, 3) := by decide +kernel
theorem dX6_next_136 : decode cX6_next 136 = .ok (.aload_n 0, 1) := by decide +kernel
theorem dX6_next_137 : decode cX6_next 137 = .ok (.aload_n 0, 1) := by decide +kernel
theorem dX6_next_138 : decode cX6_next 138 = .ok (.getfield 95, 3) := by decide +kernel
theorem dX6_next_141 : decode cX6_next 141 = .ok (.invokevirtual 98, 3) := by decide +kernel
theorem dX6_next_144 : decode cX6_next 144 = .ok (.bipush 48, 2) := by decide +kernel
theorem dX6_next_146 : decode cX6_next 146 = .ok (.bipush 57, 2) := by decide +kernel
theorem dX6_next_148 : decode cX6_next 148 = .ok (.invokestatic 85, 3) := by decide +kernel
theorem dX6_next_151 : decode cX6_next 151 = .ok (.ifCond .eq 59, 3) := by decide +kernel
theorem dX6_next_154 : decode cX6_next 154 = .ok (.aload_n 0, 1) := by decide +kernel
theorem dX6_next_155 : decode cX6_next 155 = .ok (.aload_n 0, 1) := by decide +kernel
theorem dX6_next_156 : decode cX6_next 156 = .ok (.getfield 95, 3) := by decide +kernel
theorem dX6_next_159 : decode cX6_next 159 = .ok (.aload_n 0, 1) := by decide +kernel
theorem dX6_next_160 : decode cX6_next 160 = .ok (.getfield 102, 3) := by decide +kernel
theorem dX6_next_163 : decode cX6_next 163 = .ok (.isub, 1) := by decide +kernel
theorem dX6_next_164 : decode cX6_next 164 = .ok (.iconst 4, 1) := by decide +kernel
theorem dX6_next_165 : decode cX6_next 165 = .ok (.if_icmp .ge 25, 3) := by decide +kernel
theorem dX6_next_168 : decode cX6_next 168 = .ok (.bipush 10, 2) := by decide +kernel
theorem dX6_next_170 : decode cX6_next 170 = .ok (.aload_n 0, 1) := by decide +kernel
theorem dX6_next_171 : decode cX6_next 171 = .ok (.getfield 108, 3) := by decide +kernel
theorem dX6_next_174 : decode cX6_next 174 = .ok (.imul, 1) := by decide +kernel
theorem dX6_next_175 : decode cX6_next 175 = .ok (.aload_n 0, 1) := by decide +kernel
theorem dX6_next_176 : decode cX6_next 176 = .ok (.aload_n 0, 1) := by decide +kernel
theorem dX6_next_177 : decode cX6_next 177 = .ok (.getfield 95, 3) := by decide +kernel
theorem dX6_next_180 : decode cX6_next 180 = .ok (.invokevirtual 98, 3) := by decide +kernel
theorem dX6_next_183 : decode cX6_next 183 = .ok (.iadd, 1) := by decide +kernel
theorem dX6_next_184 : decode cX6_next 184 = .ok (.bipush 48, 2) := by decide +kernel
theorem dX6_next_186 : decode cX6_next 186 = .ok (.isub, 1) := by decide +kernel
theorem dX6_next_187 : decode cX6_next 187 = .ok (.goto 7, 3) := by decide +kernel
theorem dX6_next_190 : decode cX6_next 190 = .ok (.aload_n 0, 1) := by decide +kernel
theorem dX6_next_191 : decode cX6_next 191 = .ok (.getfield 108, 3) := by decide +kernel
theorem dX6_next_194 : decode cX6_next 194 = .ok (.putfield 108, 3) := by decide +kernel
theorem dX6_next_197 : decode cX6_next 197 = .ok (.aload_n 0, 1) := by decide +kernel
theorem dX6_next_198 : decode cX6_next 198 = .ok (.dup, 1) := by decide +kernel
theorem dX6_next_199 : decode cX6_next 199 = .ok (.getfield 95, 3) := by decide +kernel
theorem dX6_next_202 : decode cX6_next 202 = .ok (.iconst 1, 1) := by decide +kernel
theorem dX6_next_203 : decode cX6_next 203 = .ok (.iadd, 1) := by decide +kernel
theorem dX6_next_204 : decode cX6_next 204 = .ok (.putfield 95, 3) := by decide +kernel
theorem dX6_next_207 : decode cX6_next 207 = .ok (.goto (-71), 3) := by decide +kernel
theorem dX6_next_210 : decode cX6_next 210 = .ok (.aload_n 0, 1) := by decide +kernel
theorem dX6_next_211 : decode cX6_next 211 = .ok (.getfield 95, 3) := by decide +kernel
theorem dX6_next_214 : decode cX6_next 214 = .ok (.aload_n 0, 1) := by decide +kernel
theorem dX6_next_215 : decode cX6_next 215 = .ok (.getfield 102, 3) := by decide +kernel
theorem dX6_next_218 : decode cX6_next 218 = .ok (.isub, 1) := by decide +kernel
theorem dX6_next_219 : decode cX6_next 219 = .ok (.iconst 5, 1) := by decide +kernel
theorem dX6_next_220 : decode cX6_next 220 = .ok (.if_icmp .ge 36, 3) := by decide +kernel
theorem dX6_next_223 : decode cX6_next 223 = .ok (.aload_n 0, 1) := by decide +kernel
theorem dX6_next_224 : decode cX6_next 224 = .ok (.getfield 108, 3) := by decide +kernel
theorem dX6_next_227 : decode cX6_next 227 = .ok (.sipush 1024, 3) := by decide +kernel
theorem dX6_next_230 : decode cX6_next 230 = .ok (.if_icmp .ge 26, 3) := by decide +kernel
theorem dX6_next_233 : decode cX6_next 233 = .ok (.iload_n 1, 1) := by decide +kernel
theorem dX6_next_234 : decode cX6_next 234 = .ok (.bipush 48, 2) := by decide +kernel
theorem dX6_next_236 : decode cX6_next 236 = .ok (.if_icmp .ne 16, 3) := by decide +kernel
theorem dX6_next_239 : decode cX6_next 239 = .ok (.aload_n 0, 1) := by decide +kernel
theorem dX6_next_240 : decode cX6_next 240 = .ok (.getfield 95, 3) := by decide +kernel
theorem dX6_next_243 : decode cX6_next 243 = .ok (.aload_n 0, 1) := by decide +kernel
theorem dX6_next_244 : decode cX6_next 244 = .ok (.getfield 102, 3) := by decide +kernel
theorem dX6_next_247 : decode cX6_next 247 = .ok (.isub, 1) := by decide +kernel
theorem dX6_next_248 : decode cX6_next 248 = .ok (.iconst 1, 1) := by decide +kernel
theorem dX6_next_249 : decode cX6_next 249 = .ok (.if_icmp .ne 7, 3) := by decide +kernel
theorem dX6_next_252 : decode cX6_next 252 = .ok (.iconst 1, 1) := by decide +kernel
theorem dX6_next_253 : decode cX6_next 253 = .ok (.goto 4, 3) := by decide +kernel
theorem dX6_next_256 : decode cX6_next 256 = .ok (.iconst 0, 1) := by decide +kernel
theorem dX6_next_257 : decode cX6_next 257 = .ok (.istore_n 2, 1) := by decide +kernel
theorem dX6_next_258 : decode cX6_next 258 = .ok (.aload_n 0, 1) := by decide +kernel
theorem dX6_next_259 : decode cX6_next 259 = .ok (.iload_n 2, 1) := by decide +kernel
theorem dX6_next_260 : decode cX6_next 260 = .ok (.ifCond .eq 7, 3) := by decide +kernel
theorem dX6_next_263 : decode cX6_next 263 = .ok (.iconst 2, 1) := by decide +kernel
theorem dX6_next_264 : decode cX6_next 264 = .ok (.goto 4, 3) := by decide +kernel
theorem dX6_next_267 : decode cX6_next 267 = .ok (.iconst 4, 1) := by decide +kernel
theorem dX6_next_268 : decode cX6_next 268 = .ok (.putfield 105, 3) := by decide +kernel
theorem dX6_next_271 : decode cX6_next 271 = .ok (.return_, 1) := by decide +kernel
theorem dX6_must_0 : decode cX6_must 0 = .ok (.aload_n 0, 1) := by decide +kernel
theorem dX6_must_1 : decode cX6_must 1 = .ok (.aload_n 0, 1) := by decide +kernel
theorem dX6_must_2 : decode cX6_must 2 = .ok (.getfield 111, 3) := by decide +kernel
theorem dX6_must_5 : decode cX6_must 5 = .ok (.ifCond .ne 7, 3) := by decide +kernel
theorem dX6_must_8 : decode cX6_must 8 = .ok (.iload_n 1, 1) := by decide +kernel
theorem dX6_must_9 : decode cX6_must 9 = .ok (.ifCond .ne 7, 3) := by decide +kernel
theorem dX6_must_12 : decode cX6_must 12 = .ok (.iconst 1, 1) := by decide +kernel
theorem dX6_must_13 : decode cX6_must 13 = .ok (.goto 4, 3) := by decide +kernel
theorem dX6_must_16 : decode cX6_must 16 = .ok (.iconst 0, 1) := by decide +kernel
theorem dX6_must_17 : decode cX6_must 17 = .ok (.putfield 111, 3) := by decide +kernel
theorem dX6_must_20 : decode cX6_must 20 = .ok (.aload_n 0, 1) := by decide +kernel
theorem dX6_must_21 : decode cX6_must 21 = .ok (.getfield 111, 3) := by decide +kernel
theorem dX6_must_24 : decode cX6_must 24 = .ok (.ifCond .ne 7, 3) := by decide +kernel
theorem dX6_must_27 : decode cX6_must 27 = .ok (.aload_n 0, 1) := by decide +kernel
theorem dX6_must_28 : decode cX6_must 28 = .ok (.invokevirtual 115, 3) := by decide +kernel
theorem dX6_must_31 : decode cX6_must 31 = .ok (.return_, 1) := by decide +kernel
theorem dX6_readInto_0 : decode cX6_readInto 0 = .ok (.aload_n 0, 1) := by decide +kernel
theorem dX6_readInto_1 : decode cX6_readInto 1 = .ok (.getfield 108, 3) := by decide +kernel
theorem dX6_readInto_4 : decode cX6_readInto 4 = .ok (.istore 5, 2) := by decide +kernel
theorem dX6_readInto_6 : decode cX6_readInto 6 = .ok (.aload_n 0, 1) := by decide +kernel
theorem dX6_readInto_7 : decode cX6_readInto 7 = .ok (.aload_n 0, 1) := by decide +kernel
theorem dX6_readInto_8 : decode cX6_readInto 8 = .ok (.getfield 105, 3) := by decide +kernel
theorem dX6_readInto_11 : decode cX6_readInto 11 = .ok (.iconst 2, 1) := by decide +kernel
theorem dX6_readInto_12 : decode cX6_readInto 12 = .ok (.if_icmp .ne 18, 3) := by decide +kernel
theorem dX6_readInto_15 : decode cX6_readInto 15 = .ok (.iload 5, 2) := by decide +kernel
theorem dX6_readInto_17 : decode cX6_readInto 17 = .ok (.iload_n 3, 1) := by decide +kernel
theorem dX6_readInto_18 : decode cX6_readInto 18 = .ok (.iload 4, 2) := by decide +kernel
theorem dX6_readInto_20 : decode cX6_readInto 20 = .ok (.invokestatic 85, 3) := by decide +kernel
theorem dX6_readInto_23 : decode cX6_readInto 23 = .ok (.ifCond .eq 7, 3) := by decide +kernel
theorem dX6_readInto_26 : decode cX6_readInto 26 = .ok (.iconst 1, 1) := by decide +kernel
theorem dX6_readInto_27 : decode cX6_readInto 27 = .ok (.goto 4, 3) := by decide +kernel
theorem dX6_readInto_30 : decode cX6_readInto 30 = .ok (.iconst 0, 1) := by decide +kernel
theorem dX6_readInto_31 : decode cX6_readInto 31 = .ok (.invokevirtual 118, 3) := by decide +kernel
theorem dX6_readInto_34 : decode cX6_readInto 34 = .ok (.aload_n 0, 1) := by decide +kernel
theorem dX6_readInto_35 : decode cX6_readInto 35 = .ok (.getfield 111, 3) := by decide +kernel
theorem dX6_readInto_38 : decode cX6_readInto 38 = .ok (.ifCond .ne 8, 3) := by decide +kernel
theorem dX6_readInto_41 : decode cX6_readInto 41 = .ok (.aload_n 1, 1) := by decide +kernel
theorem dX6_readInto_42 : decode cX6_readInto 42 = .ok (.iload_n 2, 1) := by decide +kernel
theorem dX6_readInto_43 : decode cX6_readInto 43 = .ok (.iload 5, 2) := by decide +kernel
theorem dX6_readInto_45 : decode cX6_readInto 45 = .ok (.iastore, 1) := by decide +kernel
theorem dX6_readInto_46 : decode cX6_readInto 46 = .ok (.iload 5, 2) := by decide +kernel
theorem dX6_readInto_48 : decode cX6_readInto 48 = .ok (.ireturn, 1) := by decide +kernel
theorem dX6_readOne_0 : decode cX6_readOne 0 = .ok (.aload_n 0, 1) := by decide +kernel
theorem dX6_readOne_1 : decode cX6_readOne 1 = .ok (.aload_n 0, 1) := by decide +kernel
theorem dX6_readOne_2 : decode cX6_readOne 2 = .ok (.getfield 122, 3) := by decide +kernel
theorem dX6_readOne_5 : decode cX6_readOne 5 = .ok (.iload_n 1, 1) := by decide +kernel
theorem dX6_readOne_6 : decode cX6_readOne 6 = .ok (.invokestatic 125, 3) := by decide +kernel
theorem dX6_readOne_9 : decode cX6_readOne 9 = .ok (.ifCond .ne 7, 3) := by decide +kernel
theorem dX6_readOne_12 : decode cX6_readOne 12 = .ok (.iconst 1, 1) := by decide +kernel
theorem dX6_readOne_13 : decode cX6_readOne 13 = .ok (.goto 4, 3) := by decide +kernel
theorem dX6_readOne_16 : decode cX6_readOne 16 = .ok (.iconst 0, 1) := by decide +kernel
theorem dX6_readOne_17 : decode cX6_readOne 17 = .ok (.invokevirtual 118, 3) := by decide +kernel
theorem dX6_readOne_20 : decode cX6_readOne 20 = .ok (.aload_n 0, 1) := by decide +kernel
theorem dX6_readOne_21 : decode cX6_readOne 21 = .ok (.getfield 111, 3) := by decide +kernel
theorem dX6_readOne_24 : decode cX6_readOne 24 = .ok (.ifCond .eq 4, 3) := by decide +kernel
theorem dX6_readOne_27 : decode cX6_readOne 27 = .ok (.return_, 1) := by decide +kernel
theorem dX6_readOne_28 : decode cX6_readOne 28 = .ok (.aload_n 0, 1) := by decide +kernel
theorem dX6_readOne_29 : decode cX6_readOne 29 = .ok (.aload_n 0, 1) := by decide +kernel
theorem dX6_readOne_30 : decode cX6_readOne 30 = .ok (.getfield 54, 3) := by decide +kernel
theorem dX6_readOne_33 : decode cX6_readOne 33 = .ok (.iload_n 1, 1) := by decide +kernel
theorem dX6_readOne_34 : decode cX6_readOne 34 = .ok (.iconst 1, 1) := by decide +kernel
theorem dX6_readOne_35 : decode cX6_readOne 35 = .ok (.iload_n 2, 1) := by decide +kernel
theorem dX6_readOne_36 : decode cX6_readOne 36 = .ok (.invokevirtual 129, 3) := by decide +kernel
theorem dX6_readOne_39 : decode cX6_readOne 39 = .ok (.pop, 1) := by decide +kernel
theorem dX6_readOne_40 : decode cX6_readOne 40 = .ok (.aload_n 0, 1) := by decide +kernel
theorem dX6_readOne_41 : decode cX6_readOne 41 = .ok (.aload_n 0, 1) := by decide +kernel
theorem dX6_readOne_42 : decode cX6_readOne 42 = .ok (.getfield 105, 3) := by decide +kernel
theorem dX6_readOne_45 : decode cX6_readOne 45 = .ok (.iconst 3, 1) := by decide +kernel
theorem dX6_readOne_46 : decode cX6_readOne 46 = .ok (.if_icmp .ne 7, 3) := by decide +kernel
theorem dX6_readOne_49 : decode cX6_readOne 49 = .ok (.iconst 1, 1) := by decide +kernel
theorem dX6_readOne_50 : decode cX6_readOne 50 = .ok (.goto 4, 3) := by decide +kernel
theorem dX6_readOne_53 : decode cX6_readOne 53 = .ok (.iconst 0, 1) := by decide +kernel
theorem dX6_readOne_54 : decode cX6_readOne 54 = .ok (.invokevirtual 118, 3) := by decide +kernel
theorem dX6_readOne_57 : decode cX6_readOne 57 = .ok (.aload_n 0, 1) := by decide +kernel
theorem dX6_readOne_58 : decode cX6_readOne 58 = .ok (.dup, 1) := by decide +kernel
theorem dX6_readOne_59 : decode cX6_readOne 59 = .ok (.getfield 122, 3) := by decide +kernel
theorem dX6_readOne_62 : decode cX6_readOne 62 = .ok (.iconst 1, 1) := by decide +kernel
theorem dX6_readOne_63 : decode cX6_readOne 63 = .ok (.iload_n 1, 1) := by decide +kernel
theorem dX6_readOne_64 : decode cX6_readOne 64 = .ok (.ishl, 1) := by decide +kernel
theorem dX6_readOne_65 : decode cX6_readOne 65 = .ok (.ior, 1) := by decide +kernel
theorem dX6_readOne_66 : decode cX6_readOne 66 = .ok (.putfield 122, 3) := by decide +kernel
theorem dX6_readOne_69 : decode cX6_readOne 69 = .ok (.return_, 1) := by decide +kernel
theorem dX6_readTraveller_0 : decode cX6_readTraveller 0 = .ok (.aload_n 0, 1) := by decide +kernel
theorem dX6_readTraveller_1 : decode cX6_readTraveller 1 = .ok (.aload_n 0, 1) := by decide +kernel
theorem dX6_readTraveller_2 : decode cX6_readTraveller 2 = .ok (.getfield 133, 3) := by decide +kernel
theorem dX6_readTraveller_5 : decode cX6_readTraveller 5 = .ok (.bipush 6, 2) := by decide +kernel
theorem dX6_readTraveller_7 : decode cX6_readTraveller 7 = .ok (.if_icmp .ge 7, 3) := by decide +kernel
theorem dX6_readTraveller_10 : decode cX6_readTraveller 10 = .ok (.iconst 1, 1) := by decide +kernel
theorem dX6_readTraveller_11 : decode cX6_readTraveller 11 = .ok (.goto 4, 3) := by decide +kernel
theorem dX6_readTraveller_14 : decode cX6_readTraveller 14 = .ok (.iconst 0, 1) := by decide +kernel
theorem dX6_readTraveller_15 : decode cX6_readTraveller 15 = .ok (.invokevirtual 118, 3) := by decide +kernel
theorem dX6_readTraveller_18 : decode cX6_readTraveller 18 = .ok (.aload_n 0, 1) := by decide +kernel
theorem dX6_readTraveller_19 : decode cX6_readTraveller 19 = .ok (.getfield 111, 3) := by decide +kernel
theorem dX6_readTraveller_22 : decode cX6_readTraveller 22 = .ok (.ifCond .eq 4, 3) := by decide +kernel
theorem dX6_readTraveller_25 : decode cX6_readTraveller 25 = .ok (.return_, 1) := by decide +kernel
theorem dX6_readTraveller_26 : decode cX6_readTraveller 26 = .ok (.aload_n 0, 1) := by decide +kernel
theorem dX6_readTraveller_27 : decode cX6_readTraveller 27 = .ok (.aload_n 0, 1) := by decide +kernel
theorem dX6_readTraveller_28 : decode cX6_readTraveller 28 = .ok (.getfield 48, 3) := by decide +kernel
theorem dX6_readTraveller_31 : decode cX6_readTraveller 31 = .ok (.iconst 2, 1) := by decide +kernel
theorem dX6_readTraveller_32 : decode cX6_readTraveller 32 = .ok (.aload_n 0, 1) := by decide +kernel
theorem dX6_readTraveller_33 : decode cX6_readTraveller 33 = .ok (.getfield 133, 3) := by decide +kernel
theorem dX6_readTraveller_36 : decode cX6_readTraveller 36 = .ok (.imul, 1) := by decide +kernel
theorem dX6_readTraveller_37 : decode cX6_readTraveller 37 = .ok (.iconst 0, 1) := by decide +kernel
theorem dX6_readTraveller_38 : decode cX6_readTraveller 38 = .ok (.bipush 40, 2) := by decide +kernel
theorem dX6_readTraveller_40 : decode cX6_readTraveller 40 = .ok (.invokevirtual 129, 3) := by decide +kernel
theorem dX6_readTraveller_43 : decode cX6_readTraveller 43 = .ok (.pop, 1) := by decide +kernel
theorem dX6_readTraveller_44 : decode cX6_readTraveller 44 = .ok (.aload_n 0, 1) := by decide +kernel
theorem dX6_readTraveller_45 : decode cX6_readTraveller 45 = .ok (.aload_n 0, 1) := by decide +kernel
theorem dX6_readTraveller_46 : decode cX6_readTraveller 46 = .ok (.getfield 48, 3) := by decide +kernel
theorem dX6_readTraveller_49 : decode cX6_readTraveller 49 = .ok (.iconst 2, 1) := by decide +kernel
theorem dX6_readTraveller_50 : decode cX6_readTraveller 50 = .ok (.aload_n 0, 1) := by decide +kernel
theorem dX6_readTraveller_51 : decode cX6_readTraveller 51 = .ok (.getfield 133, 3) := by decide +kernel
theorem dX6_readTraveller_54 : decode cX6_readTraveller 54 = .ok (.imul, 1) := by decide +kernel
theorem dX6_readTraveller_55 : decode cX6_readTraveller 55 = .ok (.iconst 1, 1) := by decide +kernel
theorem dX6_readTraveller_56 : decode cX6_readTraveller 56 = .ok (.iadd, 1) := by decide +kernel
theorem dX6_readTraveller_57 : decode cX6_readTraveller 57 = .ok (.iconst 0, 1) := by decide +kernel
theorem dX6_readTraveller_58 : decode cX6_readTraveller 58 = .ok (.bipush 10, 2) := by decide +kernel
theorem dX6_readTraveller_60 : decode cX6_readTraveller 60 = .ok (.invokevirtual 129, 3) := by decide +kernel
theorem dX6_readTraveller_63 : decode cX6_readTraveller 63 = .ok (.pop, 1) := by decide +kernel
theorem dX6_readTraveller_64 : decode cX6_readTraveller 64 = .ok (.aload_n 0, 1) := by decide +kernel
theorem dX6_readTraveller_65 : decode cX6_readTraveller 65 = .ok (.aload_n 0, 1) := by decide +kernel
theorem dX6_readTraveller_66 : decode cX6_readTraveller 66 = .ok (.getfield 105, 3) := by decide +kernel
theorem dX6_readTraveller_69 : decode cX6_readTraveller 69 = .ok (.iconst 3, 1) := by decide +kernel
theorem dX6_readTraveller_70 : decode cX6_readTraveller 70 = .ok (.if_icmp .ne 7, 3) := by decide +kernel
theorem dX6_readTraveller_73 : decode cX6_readTraveller 73 = .ok (.iconst 1, 1) := by decide +kernel
theorem dX6_readTraveller_74 : decode cX6_readTraveller 74 = .ok (.goto 4, 3) := by decide +kernel
theorem dX6_readTraveller_77 : decode cX6_readTraveller 77 = .ok (.iconst 0, 1) := by decide +kernel
theorem dX6_readTraveller_78 : decode cX6_readTraveller 78 = .ok (.invokevirtual 118, 3) := by decide +kernel
theorem dX6_readTraveller_81 : decode cX6_readTraveller 81 = .ok (.aload_n 0, 1) := by decide +kernel
theorem dX6_readTraveller_82 : decode cX6_readTraveller 82 = .ok (.dup, 1) := by decide +kernel
theorem dX6_readTraveller_83 : decode cX6_readTraveller 83 = .ok (.getfield 133, 3) := by decide +kernel
theorem dX6_readTraveller_86 : decode cX6_readTraveller 86 = .ok (.iconst 1, 1) := by decide +kernel
theorem dX6_readTraveller_87 : decode cX6_readTraveller 87 = .ok (.iadd, 1) := by decide +kernel
theorem dX6_readTraveller_88 : decode cX6_readTraveller 88 = .ok (.putfield 133, 3) := by decide +kernel
theorem dX6_readTraveller_91 : decode cX6_readTraveller 91 = .ok (.return_, 1) := by decide +kernel
theorem dX6_readClerk_0 : decode cX6_readClerk 0 = .ok (.aload_n 0, 1) := by decide +kernel
theorem dX6_readClerk_1 : decode cX6_readClerk 1 = .ok (.aload_n 0, 1) := by decide +kernel
theorem dX6_readClerk_2 : decode cX6_readClerk 2 = .ok (.getfield 136, 3) := by decide +kernel
theorem dX6_readClerk_5 : decode cX6_readClerk 5 = .ok (.iconst 4, 1) := by decide +kernel
theorem dX6_readClerk_6 : decode cX6_readClerk 6 = .ok (.if_icmp .ge 7, 3) := by decide +kernel
theorem dX6_readClerk_9 : decode cX6_readClerk 9 = .ok (.iconst 1, 1) := by decide +kernel
theorem dX6_readClerk_10 : decode cX6_readClerk 10 = .ok (.goto 4, 3) := by decide +kernel
theorem dX6_readClerk_13 : decode cX6_readClerk 13 = .ok (.iconst 0, 1) := by decide +kernel
theorem dX6_readClerk_14 : decode cX6_readClerk 14 = .ok (.invokevirtual 118, 3) := by decide +kernel
theorem dX6_readClerk_17 : decode cX6_readClerk 17 = .ok (.aload_n 0, 1) := by decide +kernel
theorem dX6_readClerk_18 : decode cX6_readClerk 18 = .ok (.getfield 111, 3) := by decide +kernel
theorem dX6_readClerk_21 : decode cX6_readClerk 21 = .ok (.ifCond .eq 4, 3) := by decide +kernel
theorem dX6_readClerk_24 : decode cX6_readClerk 24 = .ok (.return_, 1) := by decide +kernel
theorem dX6_readClerk_25 : decode cX6_readClerk 25 = .ok (.iconst 3, 1) := by decide +kernel
theorem dX6_readClerk_26 : decode cX6_readClerk 26 = .ok (.aload_n 0, 1) := by decide +kernel
theorem dX6_readClerk_27 : decode cX6_readClerk 27 = .ok (.getfield 136, 3) := by decide +kernel
theorem dX6_readClerk_30 : decode cX6_readClerk 30 = .ok (.imul, 1) := by decide +kernel
theorem dX6_readClerk_31 : decode cX6_readClerk 31 = .ok (.istore_n 1, 1) := by decide +kernel
theorem dX6_readClerk_32 : decode cX6_readClerk 32 = .ok (.aload_n 0, 1) := by decide +kernel
theorem dX6_readClerk_33 : decode cX6_readClerk 33 = .ok (.aload_n 0, 1) := by decide +kernel
theorem dX6_readClerk_34 : decode cX6_readClerk 34 = .ok (.getfield 51, 3) := by decide +kernel
theorem dX6_readClerk_37 : decode cX6_readClerk 37 = .ok (.iload_n 1, 1) := by decide +kernel
theorem dX6_readClerk_38 : decode cX6_readClerk 38 = .ok (.iconst 0, 1) := by decide +kernel
theorem dX6_readClerk_39 : decode cX6_readClerk 39 = .ok (.sipush 1023, 3) := by decide +kernel
theorem dX6_readClerk_42 : decode cX6_readClerk 42 = .ok (.invokevirtual 129, 3) := by decide +kernel
theorem dX6_readClerk_45 : decode cX6_readClerk 45 = .ok (.pop, 1) := by decide +kernel
theorem dX6_readClerk_46 : decode cX6_readClerk 46 = .ok (.aload_n 0, 1) := by decide +kernel
theorem dX6_readClerk_47 : decode cX6_readClerk 47 = .ok (.aload_n 0, 1) := by decide +kernel
theorem dX6_readClerk_48 : decode cX6_readClerk 48 = .ok (.getfield 51, 3) := by decide +kernel
theorem dX6_readClerk_51 : decode cX6_readClerk 51 = .ok (.iload_n 1, 1) := by decide +kernel
theorem dX6_readClerk_52 : decode cX6_readClerk 52 = .ok (.iconst 1, 1) := by decide +kernel
theorem dX6_readClerk_53 : decode cX6_readClerk 53 = .ok (.iadd, 1) := by decide +kernel
theorem dX6_readClerk_54 : decode cX6_readClerk 54 = .ok (.iconst 0, 1) := by decide +kernel
theorem dX6_readClerk_55 : decode cX6_readClerk 55 = .ok (.bipush 10, 2) := by decide +kernel
theorem dX6_readClerk_57 : decode cX6_readClerk 57 = .ok (.invokevirtual 129, 3) := by decide +kernel
theorem dX6_readClerk_60 : decode cX6_readClerk 60 = .ok (.istore_n 2, 1) := by decide +kernel
theorem dX6_readClerk_61 : decode cX6_readClerk 61 = .ok (.aload_n 0, 1) := by decide +kernel
theorem dX6_readClerk_62 : decode cX6_readClerk 62 = .ok (.getfield 108, 3) := by decide +kernel
theorem dX6_readClerk_65 : decode cX6_readClerk 65 = .ok (.istore_n 3, 1) := by decide +kernel
theorem dX6_readClerk_66 : decode cX6_readClerk 66 = .ok (.aload_n 0, 1) := by decide +kernel
theorem dX6_readClerk_67 : decode cX6_readClerk 67 = .ok (.aload_n 0, 1) := by decide +kernel
theorem dX6_readClerk_68 : decode cX6_readClerk 68 = .ok (.getfield 105, 3) := by decide +kernel
theorem dX6_readClerk_71 : decode cX6_readClerk 71 = .ok (.iconst 2, 1) := by decide +kernel
theorem dX6_readClerk_72 : decode cX6_readClerk 72 = .ok (.if_icmp .ne 33, 3) := by decide +kernel
theorem dX6_readClerk_75 : decode cX6_readClerk 75 = .ok (.iload_n 2, 1) := by decide +kernel
theorem dX6_readClerk_76 : decode cX6_readClerk 76 = .ok (.bipush 10, 2) := by decide +kernel
theorem dX6_readClerk_78 : decode cX6_readClerk 78 = .ok (.if_icmp .ne 12, 3) := by decide +kernel
theorem dX6_readClerk_81 : decode cX6_readClerk 81 = .ok (.iload_n 3, 1) := by decide +kernel
theorem dX6_readClerk_82 : decode cX6_readClerk 82 = .ok (.bipush 10, 2) := by decide +kernel
theorem dX6_readClerk_84 : decode cX6_readClerk 84 = .ok (.if_icmp .ne 21, 3) := by decide +kernel
theorem dX6_readClerk_87 : decode cX6_readClerk 87 = .ok (.goto 14, 3) := by decide +kernel
theorem dX6_readClerk_90 : decode cX6_readClerk 90 = .ok (.iload_n 3, 1) := by decide +kernel
theorem dX6_readClerk_91 : decode cX6_readClerk 91 = .ok (.bipush 10, 2) := by decide +kernel
theorem dX6_readClerk_93 : decode cX6_readClerk 93 = .ok (.if_icmp .ge 12, 3) := by decide +kernel
theorem dX6_readClerk_96 : decode cX6_readClerk 96 = .ok (.iload_n 3, 1) := by decide +kernel
theorem dX6_readClerk_97 : decode cX6_readClerk 97 = .ok (.iload_n 2, 1) := by decide +kernel
theorem dX6_readClerk_98 : decode cX6_readClerk 98 = .ok (.if_icmp .eq 7, 3) := by decide +kernel
theorem dX6_readClerk_101 : decode cX6_readClerk 101 = .ok (.iconst 1, 1) := by decide +kernel
theorem dX6_readClerk_102 : decode cX6_readClerk 102 = .ok (.goto 4, 3) := by decide +kernel
theorem dX6_readClerk_105 : decode cX6_readClerk 105 = .ok (.iconst 0, 1) := by decide +kernel
theorem dX6_readClerk_106 : decode cX6_readClerk 106 = .ok (.invokevirtual 118, 3) := by decide +kernel
theorem dX6_readClerk_109 : decode cX6_readClerk 109 = .ok (.aload_n 0, 1) := by decide +kernel
theorem dX6_readClerk_110 : decode cX6_readClerk 110 = .ok (.getfield 51, 3) := by decide +kernel
theorem dX6_readClerk_113 : decode cX6_readClerk 113 = .ok (.iload_n 1, 1) := by decide +kernel
theorem dX6_readClerk_114 : decode cX6_readClerk 114 = .ok (.iconst 2, 1) := by decide +kernel
theorem dX6_readClerk_115 : decode cX6_readClerk 115 = .ok (.iadd, 1) := by decide +kernel
theorem dX6_readClerk_116 : decode cX6_readClerk 116 = .ok (.iload_n 3, 1) := by decide +kernel
theorem dX6_readClerk_117 : decode cX6_readClerk 117 = .ok (.iastore, 1) := by decide +kernel
theorem dX6_readClerk_118 : decode cX6_readClerk 118 = .ok (.aload_n 0, 1) := by decide +kernel
theorem dX6_readClerk_119 : decode cX6_readClerk 119 = .ok (.aload_n 0, 1) := by decide +kernel
theorem dX6_readClerk_120 : decode cX6_readClerk 120 = .ok (.getfield 105, 3) := by decide +kernel
theorem dX6_readClerk_123 : decode cX6_readClerk 123 = .ok (.iconst 3, 1) := by decide +kernel
theorem dX6_readClerk_124 : decode cX6_readClerk 124 = .ok (.if_icmp .ne 7, 3) := by decide +kernel
theorem dX6_readClerk_127 : decode cX6_readClerk 127 = .ok (.iconst 1, 1) := by decide +kernel
theorem dX6_readClerk_128 : decode cX6_readClerk 128 = .ok (.goto 4, 3) := by decide +kernel
theorem dX6_readClerk_131 : decode cX6_readClerk 131 = .ok (.iconst 0, 1) := by decide +kernel
theorem dX6_readClerk_132 : decode cX6_readClerk 132 = .ok (.invokevirtual 118, 3) := by decide +kernel
theorem dX6_readClerk_135 : decode cX6_readClerk 135 = .ok (.aload_n 0, 1) := by decide +kernel
theorem dX6_readClerk_136 : decode cX6_readClerk 136 = .ok (.dup, 1) := by decide +kernel
theorem dX6_readClerk_137 : decode cX6_readClerk 137 = .ok (.getfield 136, 3) := by decide +kernel
theorem dX6_readClerk_140 : decode cX6_readClerk 140 = .ok (.iconst 1, 1) := by decide +kernel
theorem dX6_readClerk_141 : decode cX6_readClerk 141 = .ok (.iadd, 1) := by decide +kernel
theorem dX6_readClerk_142 : decode cX6_readClerk 142 = .ok (.putfield 136, 3) := by decide +kernel
theorem dX6_readClerk_145 : decode cX6_readClerk 145 = .ok (.return_, 1) := by decide +kernel
theorem dX6_readItem_0 : decode cX6_readItem 0 = .ok (.aload_n 0, 1) := by decide +kernel
theorem dX6_readItem_1 : decode cX6_readItem 1 = .ok (.getfield 105, 3) := by decide +kernel
theorem dX6_readItem_4 : decode cX6_readItem 4 = .ok (.iconst 1, 1) := by decide +kernel
theorem dX6_readItem_5 : decode cX6_readItem 5 = .ok (.if_icmp .ne 10, 3) := by decide +kernel
theorem dX6_readItem_8 : decode cX6_readItem 8 = .ok (.aload_n 0, 1) := by decide +kernel
theorem dX6_readItem_9 : decode cX6_readItem 9 = .ok (.getfield 108, 3) := by decide +kernel
theorem dX6_readItem_12 : decode cX6_readItem 12 = .ok (.goto 4, 3) := by decide +kernel
theorem dX6_readItem_15 : decode cX6_readItem 15 = .ok (.iconst 0, 1) := by decide +kernel
theorem dX6_readItem_16 : decode cX6_readItem 16 = .ok (.istore_n 1, 1) := by decide +kernel
theorem dX6_readItem_17 : decode cX6_readItem 17 = .ok (.iload_n 1, 1) := by decide +kernel
theorem dX6_readItem_18 : decode cX6_readItem 18 = .ok (.bipush 113, 2) := by decide +kernel
theorem dX6_readItem_20 : decode cX6_readItem 20 = .ok (.if_icmp .ne 13, 3) := by decide +kernel
theorem dX6_readItem_23 : decode cX6_readItem 23 = .ok (.aload_n 0, 1) := by decide +kernel
theorem dX6_readItem_24 : decode cX6_readItem 24 = .ok (.iconst 0, 1) := by decide +kernel
theorem dX6_readItem_25 : decode cX6_readItem 25 = .ok (.bipush 40, 2) := by decide +kernel
theorem dX6_readItem_27 : decode cX6_readItem 27 = .ok (.invokevirtual 139, 3) := by decide +kernel
theorem dX6_readItem_30 : decode cX6_readItem 30 = .ok (.goto 65, 3) := by decide +kernel
theorem dX6_readItem_33 : decode cX6_readItem 33 = .ok (.iload_n 1, 1) := by decide +kernel
theorem dX6_readItem_34 : decode cX6_readItem 34 = .ok (.bipush 114, 2) := by decide +kernel
theorem dX6_readItem_36 : decode cX6_readItem 36 = .ok (.if_icmp .ne 12, 3) := by decide +kernel
theorem dX6_readItem_39 : decode cX6_readItem 39 = .ok (.aload_n 0, 1) := by decide +kernel
theorem dX6_readItem_40 : decode cX6_readItem 40 = .ok (.iconst 1, 1) := by decide +kernel
theorem dX6_readItem_41 : decode cX6_readItem 41 = .ok (.iconst 3, 1) := by decide +kernel
theorem dX6_readItem_42 : decode cX6_readItem 42 = .ok (.invokevirtual 139, 3) := by decide +kernel
theorem dX6_readItem_45 : decode cX6_readItem 45 = .ok (.goto 50, 3) := by decide +kernel
theorem dX6_readItem_48 : decode cX6_readItem 48 = .ok (.iload_n 1, 1) := by decide +kernel
theorem dX6_readItem_49 : decode cX6_readItem 49 = .ok (.bipush 98, 2) := by decide +kernel
theorem dX6_readItem_51 : decode cX6_readItem 51 = .ok (.if_icmp .ne 13, 3) := by decide +kernel
theorem dX6_readItem_54 : decode cX6_readItem 54 = .ok (.aload_n 0, 1) := by decide +kernel
theorem dX6_readItem_55 : decode cX6_readItem 55 = .ok (.iconst 2, 1) := by decide +kernel
theorem dX6_readItem_56 : decode cX6_readItem 56 = .ok (.bipush 9, 2) := by decide +kernel
theorem dX6_readItem_58 : decode cX6_readItem 58 = .ok (.invokevirtual 139, 3) := by decide +kernel
theorem dX6_readItem_61 : decode cX6_readItem 61 = .ok (.goto 34, 3) := by decide +kernel
theorem dX6_readItem_64 : decode cX6_readItem 64 = .ok (.iload_n 1, 1) := by decide +kernel
theorem dX6_readItem_65 : decode cX6_readItem 65 = .ok (.bipush 116, 2) := by decide +kernel
theorem dX6_readItem_67 : decode cX6_readItem 67 = .ok (.if_icmp .ne 10, 3) := by decide +kernel
theorem dX6_readItem_70 : decode cX6_readItem 70 = .ok (.aload_n 0, 1) := by decide +kernel
theorem dX6_readItem_71 : decode cX6_readItem 71 = .ok (.invokevirtual 143, 3) := by decide +kernel
theorem dX6_readItem_74 : decode cX6_readItem 74 = .ok (.goto 21, 3) := by decide +kernel
theorem dX6_readItem_77 : decode cX6_readItem 77 = .ok (.iload_n 1, 1) := by decide +kernel
theorem dX6_readItem_78 : decode cX6_readItem 78 = .ok (.bipush 107, 2) := by decide +kernel
theorem dX6_readItem_80 : decode cX6_readItem 80 = .ok (.if_icmp .ne 10, 3) := by decide +kernel
theorem dX6_readItem_83 : decode cX6_readItem 83 = .ok (.aload_n 0, 1) := by decide +kernel
theorem dX6_readItem_84 : decode cX6_readItem 84 = .ok (.invokevirtual 146, 3) := by decide +kernel
theorem dX6_readItem_87 : decode cX6_readItem 87 = .ok (.goto 8, 3) := by decide +kernel
theorem dX6_readItem_90 : decode cX6_readItem 90 = .ok (.aload_n 0, 1) := by decide +kernel
theorem dX6_readItem_91 : decode cX6_readItem 91 = .ok (.iconst 1, 1) := by decide +kernel
theorem dX6_readItem_92 : decode cX6_readItem 92 = .ok (.putfield 111, 3) := by decide +kernel
theorem dX6_readItem_95 : decode cX6_readItem 95 = .ok (.return_, 1) := by decide +kernel
theorem dX6_island_0 : decode cX6_island 0 = .ok (.aload_n 0, 1) := by decide +kernel
theorem dX6_island_1 : decode cX6_island 1 = .ok (.iconst 0, 1) := by decide +kernel
theorem dX6_island_2 : decode cX6_island 2 = .ok (.putfield 95, 3) := by decide +kernel
theorem dX6_island_5 : decode cX6_island 5 = .ok (.aload_n 0, 1) := by decide +kernel
theorem dX6_island_6 : decode cX6_island 6 = .ok (.iconst 0, 1) := by decide +kernel
theorem dX6_island_7 : decode cX6_island 7 = .ok (.putfield 111, 3) := by decide +kernel
theorem dX6_island_10 : decode cX6_island 10 = .ok (.aload_n 0, 1) := by decide +kernel
theorem dX6_island_11 : decode cX6_island 11 = .ok (.getfield 54, 3) := by decide +kernel
theorem dX6_island_14 : decode cX6_island 14 = .ok (.iconst 0, 1) := by decide +kernel
theorem dX6_island_15 : decode cX6_island 15 = .ok (.bipush 10, 2) := by decide +kernel
theorem dX6_island_17 : decode cX6_island 17 = .ok (.iastore, 1) := by decide +kernel
theorem dX6_island_18 : decode cX6_island 18 = .ok (.aload_n 0, 1) := by decide +kernel
theorem dX6_island_19 : decode cX6_island 19 = .ok (.getfield 54, 3) := by decide +kernel
theorem dX6_island_22 : decode cX6_island 22 = .ok (.iconst 1, 1) := by decide +kernel
theorem dX6_island_23 : decode cX6_island 23 = .ok (.iconst 2, 1) := by decide +kernel
theorem dX6_island_24 : decode cX6_island 24 = .ok (.iastore, 1) := by decide +kernel
theorem dX6_island_25 : decode cX6_island 25 = .ok (.aload_n 0, 1) := by decide +kernel
theorem dX6_island_26 : decode cX6_island 26 = .ok (.getfield 54, 3) := by decide +kernel
theorem dX6_island_29 : decode cX6_island 29 = .ok (.iconst 2, 1) := by decide +kernel
theorem dX6_island_30 : decode cX6_island 30 = .ok (.iconst 1, 1) := by decide +kernel
theorem dX6_island_31 : decode cX6_island 31 = .ok (.iastore, 1) := by decide +kernel
theorem dX6_island_32 : decode cX6_island 32 = .ok (.aload_n 0, 1) := by decide +kernel
theorem dX6_island_33 : decode cX6_island 33 = .ok (.iconst 0, 1) := by decide +kernel
theorem dX6_island_34 : decode cX6_island 34 = .ok (.putfield 122, 3) := by decide +kernel
theorem dX6_island_37 : decode cX6_island 37 = .ok (.aload_n 0, 1) := by decide +kernel
theorem dX6_island_38 : decode cX6_island 38 = .ok (.iconst 0, 1) := by decide +kernel
theorem dX6_island_39 : decode cX6_island 39 = .ok (.putfield 133, 3) := by decide +kernel
theorem dX6_island_42 : decode cX6_island 42 = .ok (.aload_n 0, 1) := by decide +kernel
theorem dX6_island_43 : decode cX6_island 43 = .ok (.iconst 0, 1) := by decide +kernel
theorem dX6_island_44 : decode cX6_island 44 = .ok (.putfield 136, 3) := by decide +kernel
theorem dX6_island_47 : decode cX6_island 47 = .ok (.iconst 0, 1) := by decide +kernel
theorem dX6_island_48 : decode cX6_island 48 = .ok (.istore_n 1, 1) := by decide +kernel
theorem dX6_island_49 : decode cX6_island 49 = .ok (.aload_n 0, 1) := by decide +kernel
theorem dX6_island_50 : decode cX6_island 50 = .ok (.invokevirtual 115, 3) := by decide +kernel
theorem dX6_island_53 : decode cX6_island 53 = .ok (.aload_n 0, 1) := by decide +kernel
theorem dX6_island_54 : decode cX6_island 54 = .ok (.getfield 105, 3) := by decide +kernel
theorem dX6_island_57 : decode cX6_island 57 = .ok (.ifCond .eq 20, 3) := by decide +kernel
theorem dX6_island_60 : decode cX6_island 60 = .ok (.aload_n 0, 1) := by decide +kernel
theorem dX6_island_61 : decode cX6_island 61 = .ok (.getfield 111, 3) := by decide +kernel
theorem dX6_island_64 : decode cX6_island 64 = .ok (.ifCond .ne 13, 3) := by decide +kernel
theorem dX6_island_67 : decode cX6_island 67 = .ok (.aload_n 0, 1) := by decide +kernel
theorem dX6_island_68 : decode cX6_island 68 = .ok (.invokevirtual 149, 3) := by decide +kernel
theorem dX6_island_71 : decode cX6_island 71 = .ok (.iinc 1 1, 3) := by decide +kernel
theorem dX6_island_74 : decode cX6_island 74 = .ok (.goto (-21), 3) := by decide +kernel
theorem dX6_island_77 : decode cX6_island 77 = .ok (.aload_n 0, 1) := by decide +kernel
theorem dX6_island_78 : decode cX6_island 78 = .ok (.getfield 111, 3) := by decide +kernel
theorem dX6_island_81 : decode cX6_island 81 = .ok (.ifCond .eq 11, 3) := by decide +kernel
theorem dX6_island_84 : decode cX6_island 84 = .ok (.bipush (-10), 2) := by decide +kernel
theorem dX6_island_86 : decode cX6_island 86 = .ok (.aload_n 0, 1) := by decide +kernel
theorem dX6_island_87 : decode cX6_island 87 = .ok (.getfield 102, 3) := by decide +kernel
theorem dX6_island_90 : decode cX6_island 90 = .ok (.isub, 1) := by decide +kernel
theorem dX6_island_91 : decode cX6_island 91 = .ok (.ireturn, 1) := by decide +kernel
theorem dX6_island_92 : decode cX6_island 92 = .ok (.aload_n 0, 1) := by decide +kernel
theorem dX6_island_93 : decode cX6_island 93 = .ok (.aload_n 0, 1) := by decide +kernel
theorem dX6_island_94 : decode cX6_island 94 = .ok (.getfield 54, 3) := by decide +kernel
theorem dX6_island_97 : decode cX6_island 97 = .ok (.iconst 0, 1) := by decide +kernel
theorem dX6_island_98 : decode cX6_island 98 = .ok (.iaload, 1) := by decide +kernel
theorem dX6_island_99 : decode cX6_island 99 = .ok (.putfield 7, 3) := by decide +kernel
theorem dX6_island_102 : decode cX6_island 102 = .ok (.aload_n 0, 1) := by decide +kernel
theorem dX6_island_103 : decode cX6_island 103 = .ok (.aload_n 0, 1) := by decide +kernel
theorem dX6_island_104 : decode cX6_island 104 = .ok (.getfield 54, 3) := by decide +kernel
theorem dX6_island_107 : decode cX6_island 107 = .ok (.iconst 1, 1) := by decide +kernel
theorem dX6_island_108 : decode cX6_island 108 = .ok (.iaload, 1) := by decide +kernel
theorem dX6_island_109 : decode cX6_island 109 = .ok (.putfield 13, 3) := by decide +kernel
theorem dX6_island_112 : decode cX6_island 112 = .ok (.aload_n 0, 1) := by decide +kernel
theorem dX6_island_113 : decode cX6_island 113 = .ok (.aload_n 0, 1) := by decide +kernel
theorem dX6_island_114 : decode cX6_island 114 = .ok (.getfield 54, 3) := by decide +kernel
theorem dX6_island_117 : decode cX6_island 117 = .ok (.iconst 2, 1) := by decide +kernel
theorem dX6_island_118 : decode cX6_island 118 = .ok (.iaload, 1) := by decide +kernel
theorem dX6_island_119 : decode cX6_island 119 = .ok (.putfield 16, 3) := by decide +kernel
theorem dX6_island_122 : decode cX6_island 122 = .ok (.aload_n 0, 1) := by decide +kernel
theorem dX6_island_123 : decode cX6_island 123 = .ok (.aload_n 0, 1) := by decide +kernel
theorem dX6_island_124 : decode cX6_island 124 = .ok (.getfield 133, 3) := by decide +kernel
theorem dX6_island_127 : decode cX6_island 127 = .ok (.putfield 82, 3) := by decide +kernel
theorem dX6_island_130 : decode cX6_island 130 = .ok (.aload_n 0, 1) := by decide +kernel
theorem dX6_island_131 : decode cX6_island 131 = .ok (.aload_n 0, 1) := by decide +kernel
theorem dX6_island_132 : decode cX6_island 132 = .ok (.getfield 136, 3) := by decide +kernel
theorem dX6_island_135 : decode cX6_island 135 = .ok (.putfield 89, 3) := by decide +kernel
theorem dX6_island_138 : decode cX6_island 138 = .ok (.iconst 0, 1) := by decide +kernel
theorem dX6_island_139 : decode cX6_island 139 = .ok (.istore_n 2, 1) := by decide +kernel
theorem dX6_island_140 : decode cX6_island 140 = .ok (.iload_n 2, 1) := by decide +kernel
theorem dX6_island_141 : decode cX6_island 141 = .ok (.bipush 12, 2) := by decide +kernel
theorem dX6_island_143 : decode cX6_island 143 = .ok (.if_icmp .ge 33, 3) := by decide +kernel
theorem dX6_island_146 : decode cX6_island 146 = .ok (.aload_n 0, 1) := by decide +kernel
theorem dX6_island_147 : decode cX6_island 147 = .ok (.getfield 19, 3) := by decide +kernel
theorem dX6_island_150 : decode cX6_island 150 = .ok (.iload_n 2, 1) := by decide +kernel
theorem dX6_island_151 : decode cX6_island 151 = .ok (.aload_n 0, 1) := by decide +kernel
theorem dX6_island_152 : decode cX6_island 152 = .ok (.getfield 48, 3) := by decide +kernel
theorem dX6_island_155 : decode cX6_island 155 = .ok (.iload_n 2, 1) := by decide +kernel
theorem dX6_island_156 : decode cX6_island 156 = .ok (.iaload, 1) := by decide +kernel
theorem dX6_island_157 : decode cX6_island 157 = .ok (.iastore, 1) := by decide +kernel
theorem dX6_island_158 : decode cX6_island 158 = .ok (.aload_n 0, 1) := by decide +kernel
theorem dX6_island_159 : decode cX6_island 159 = .ok (.getfield 23, 3) := by decide +kernel
theorem dX6_island_162 : decode cX6_island 162 = .ok (.iload_n 2, 1) := by decide +kernel
theorem dX6_island_163 : decode cX6_island 163 = .ok (.aload_n 0, 1) := by decide +kernel
theorem dX6_island_164 : decode cX6_island 164 = .ok (.getfield 51, 3) := by decide +kernel
theorem dX6_island_167 : decode cX6_island 167 = .ok (.iload_n 2, 1) := by decide +kernel
theorem dX6_island_168 : decode cX6_island 168 = .ok (.iaload, 1) := by decide +kernel
theorem dX6_island_169 : decode cX6_island 169 = .ok (.iastore, 1) := by decide +kernel
theorem dX6_island_170 : decode cX6_island 170 = .ok (.iinc 2 1, 3) := by decide +kernel
theorem dX6_island_173 : decode cX6_island 173 = .ok (.goto (-33), 3) := by decide +kernel
theorem dX6_island_176 : decode cX6_island 176 = .ok (.iconst 0, 1) := by decide +kernel
theorem dX6_island_177 : decode cX6_island 177 = .ok (.istore_n 2, 1) := by decide +kernel
theorem dX6_island_178 : decode cX6_island 178 = .ok (.iload_n 2, 1) := by decide +kernel
theorem dX6_island_179 : decode cX6_island 179 = .ok (.bipush 26, 2) := by decide +kernel
theorem dX6_island_181 : decode cX6_island 181 = .ok (.if_icmp .ge 31, 3) := by decide +kernel
theorem dX6_island_184 : decode cX6_island 184 = .ok (.aload_n 0, 1) := by decide +kernel
theorem dX6_island_185 : decode cX6_island 185 = .ok (.getfield 26, 3) := by decide +kernel
theorem dX6_island_188 : decode cX6_island 188 = .ok (.iload_n 2, 1) := by decide +kernel
theorem dX6_island_189 : decode cX6_island 189 = .ok (.iload_n 2, 1) := by decide +kernel
theorem dX6_island_190 : decode cX6_island 190 = .ok (.iconst 2, 1) := by decide +kernel
theorem dX6_island_191 : decode cX6_island 191 = .ok (.bipush 7, 2) := by decide +kernel
theorem dX6_island_193 : decode cX6_island 193 = .ok (.invokestatic 85, 3) := by decide +kernel
theorem dX6_island_196 : decode cX6_island 196 = .ok (.ifCond .eq 8, 3) := by decide +kernel
theorem dX6_island_199 : decode cX6_island 199 = .ok (.bipush (-9), 2) := by decide +kernel
theorem dX6_island_201 : decode cX6_island 201 = .ok (.goto 4, 3) := by decide +kernel
theorem dX6_island_204 : decode cX6_island 204 = .ok (.iconst 0, 1) := by decide +kernel
theorem dX6_island_205 : decode cX6_island 205 = .ok (.iastore, 1) := by decide +kernel
theorem dX6_island_206 : decode cX6_island 206 = .ok (.iinc 2 1, 3) := by decide +kernel
theorem dX6_island_209 : decode cX6_island 209 = .ok (.goto (-31), 3) := by decide +kernel
theorem dX6_island_212 : decode cX6_island 212 = .ok (.aload_n 0, 1) := by decide +kernel
theorem dX6_island_213 : decode cX6_island 213 = .ok (.iconst 0, 1) := by decide +kernel
theorem dX6_island_214 : decode cX6_island 214 = .ok (.putfield 152, 3) := by decide +kernel
theorem dX6_island_217 : decode cX6_island 217 = .ok (.aload_n 0, 1) := by decide +kernel
theorem dX6_island_218 : decode cX6_island 218 = .ok (.iconst 0, 1) := by decide +kernel
theorem dX6_island_219 : decode cX6_island 219 = .ok (.putfield 155, 3) := by decide +kernel
theorem dX6_island_222 : decode cX6_island 222 = .ok (.aload_n 0, 1) := by decide +kernel
theorem dX6_island_223 : decode cX6_island 223 = .ok (.getfield 35, 3) := by decide +kernel
theorem dX6_island_226 : decode cX6_island 226 = .ok (.iconst 0, 1) := by decide +kernel
theorem dX6_island_227 : decode cX6_island 227 = .ok (.iconst 0, 1) := by decide +kernel
theorem dX6_island_228 : decode cX6_island 228 = .ok (.bastore, 1) := by decide +kernel
theorem dX6_island_229 : decode cX6_island 229 = .ok (.aload_n 0, 1) := by decide +kernel
theorem dX6_island_230 : decode cX6_island 230 = .ok (.getfield 35, 3) := by decide +kernel
theorem dX6_island_233 : decode cX6_island 233 = .ok (.iconst 1, 1) := by decide +kernel
theorem dX6_island_234 : decode cX6_island 234 = .ok (.iconst 0, 1) := by decide +kernel
theorem dX6_island_235 : decode cX6_island 235 = .ok (.bastore, 1) := by decide +kernel
theorem dX6_island_236 : decode cX6_island 236 = .ok (.aload_n 0, 1) := by decide +kernel
theorem dX6_island_237 : decode cX6_island 237 = .ok (.iconst 0, 1) := by decide +kernel
theorem dX6_island_238 : decode cX6_island 238 = .ok (.putfield 92, 3) := by decide +kernel
theorem dX6_island_241 : decode cX6_island 241 = .ok (.iload_n 1, 1) := by decide +kernel
theorem dX6_island_242 : decode cX6_island 242 = .ok (.ireturn, 1) := by decide +kernel
theorem dX6_mayLeave_0 : decode cX6_mayLeave 0 = .ok (.aload_n 0, 1) := by decide +kernel
theorem dX6_mayLeave_1 : decode cX6_mayLeave 1 = .ok (.getfield 26, 3) := by decide +kernel
theorem dX6_mayLeave_4 : decode cX6_mayLeave 4 = .ok (.iconst 2, 1) := by decide +kernel
theorem dX6_mayLeave_5 : decode cX6_mayLeave 5 = .ok (.iload_n 1, 1) := by decide +kernel
theorem dX6_mayLeave_6 : decode cX6_mayLeave 6 = .ok (.iadd, 1) := by decide +kernel
theorem dX6_mayLeave_7 : decode cX6_mayLeave 7 = .ok (.iaload, 1) := by decide +kernel
theorem dX6_mayLeave_8 : decode cX6_mayLeave 8 = .ok (.bipush (-9), 2) := by decide +kernel
theorem dX6_mayLeave_10 : decode cX6_mayLeave 10 = .ok (.if_icmp .eq 23, 3) := by decide +kernel
theorem dX6_mayLeave_13 : decode cX6_mayLeave 13 = .ok (.aload_n 0, 1) := by decide +kernel
theorem dX6_mayLeave_14 : decode cX6_mayLeave 14 = .ok (.getfield 26, 3) := by decide +kernel
theorem dX6_mayLeave_17 : decode cX6_mayLeave 17 = .ok (.bipush 8, 2) := by decide +kernel
theorem dX6_mayLeave_19 : decode cX6_mayLeave 19 = .ok (.iload_n 1, 1) := by decide +kernel
theorem dX6_mayLeave_20 : decode cX6_mayLeave 20 = .ok (.iadd, 1) := by decide +kernel
theorem dX6_mayLeave_21 : decode cX6_mayLeave 21 = .ok (.iaload, 1) := by decide +kernel
theorem dX6_mayLeave_22 : decode cX6_mayLeave 22 = .ok (.aload_n 0, 1) := by decide +kernel
theorem dX6_mayLeave_23 : decode cX6_mayLeave 23 = .ok (.getfield 7, 3) := by decide +kernel
theorem dX6_mayLeave_26 : decode cX6_mayLeave 26 = .ok (.if_icmp .lt 7, 3) := by decide +kernel
theorem dX6_mayLeave_29 : decode cX6_mayLeave 29 = .ok (.iconst 1, 1) := by decide +kernel
theorem dX6_mayLeave_30 : decode cX6_mayLeave 30 = .ok (.goto 4, 3) := by decide +kernel
theorem dX6_mayLeave_33 : decode cX6_mayLeave 33 = .ok (.iconst 0, 1) := by decide +kernel
theorem dX6_mayLeave_34 : decode cX6_mayLeave 34 = .ok (.ireturn, 1) := by decide +kernel
theorem dX6_sailsOn_0 : decode cX6_sailsOn 0 = .ok (.iload_n 1, 1) := by decide +kernel
theorem dX6_sailsOn_1 : decode cX6_sailsOn 1 = .ok (.aload_n 0, 1) := by decide +kernel
theorem dX6_sailsOn_2 : decode cX6_sailsOn 2 = .ok (.getfield 16, 3) := by decide +kernel
theorem dX6_sailsOn_5 : decode cX6_sailsOn 5 = .ok (.irem, 1) := by decide +kernel
theorem dX6_sailsOn_6 : decode cX6_sailsOn 6 = .ok (.ifCond .ne 7, 3) := by decide +kernel
theorem dX6_sailsOn_9 : decode cX6_sailsOn 9 = .ok (.iconst 1, 1) := by decide +kernel
theorem dX6_sailsOn_10 : decode cX6_sailsOn 10 = .ok (.goto 4, 3) := by decide +kernel
theorem dX6_sailsOn_13 : decode cX6_sailsOn 13 = .ok (.iconst 0, 1) := by decide +kernel
theorem dX6_sailsOn_14 : decode cX6_sailsOn 14 = .ok (.ireturn, 1) := by decide +kernel
theorem dX6_traveller_0 : decode cX6_traveller 0 = .ok (.aload_n 0, 1) := by decide +kernel
theorem dX6_traveller_1 : decode cX6_traveller 1 = .ok (.iload_n 1, 1) := by decide +kernel
theorem dX6_traveller_2 : decode cX6_traveller 2 = .ok (.invokevirtual 158, 3) := by decide +kernel
theorem dX6_traveller_5 : decode cX6_traveller 5 = .ok (.ifCond .eq 12, 3) := by decide +kernel
theorem dX6_traveller_8 : decode cX6_traveller 8 = .ok (.iload_n 2, 1) := by decide +kernel
theorem dX6_traveller_9 : decode cX6_traveller 9 = .ok (.iconst 0, 1) := by decide +kernel
theorem dX6_traveller_10 : decode cX6_traveller 10 = .ok (.iconst 4, 1) := by decide +kernel
theorem dX6_traveller_11 : decode cX6_traveller 11 = .ok (.invokestatic 85, 3) := by decide +kernel
theorem dX6_traveller_14 : decode cX6_traveller 14 = .ok (.ifCond .ne 5, 3) := by decide +kernel
theorem dX6_traveller_17 : decode cX6_traveller 17 = .ok (.iconst (-1), 1) := by decide +kernel
theorem dX6_traveller_18 : decode cX6_traveller 18 = .ok (.ireturn, 1) := by decide +kernel
theorem dX6_traveller_19 : decode cX6_traveller 19 = .ok (.iload_n 2, 1) := by decide +kernel
theorem dX6_traveller_20 : decode cX6_traveller 20 = .ok (.iconst 2, 1) := by decide +kernel
theorem dX6_traveller_21 : decode cX6_traveller 21 = .ok (.if_icmp .ge 16, 3) := by decide +kernel
theorem dX6_traveller_24 : decode cX6_traveller 24 = .ok (.aload_n 0, 1) := by decide +kernel
theorem dX6_traveller_25 : decode cX6_traveller 25 = .ok (.getfield 19, 3) := by decide +kernel
theorem dX6_traveller_28 : decode cX6_traveller 28 = .ok (.iconst 2, 1) := by decide +kernel
theorem dX6_traveller_29 : decode cX6_traveller 29 = .ok (.iload_n 1, 1) := by decide +kernel
theorem dX6_traveller_30 : decode cX6_traveller 30 = .ok (.imul, 1) := by decide +kernel
theorem dX6_traveller_31 : decode cX6_traveller 31 = .ok (.iload_n 2, 1) := by decide +kernel
theorem dX6_traveller_32 : decode cX6_traveller 32 = .ok (.iadd, 1) := by decide +kernel
theorem dX6_traveller_33 : decode cX6_traveller 33 = .ok (.iaload, 1) := by decide +kernel
theorem dX6_traveller_34 : decode cX6_traveller 34 = .ok (.goto 45, 3) := by decide +kernel
theorem dX6_traveller_37 : decode cX6_traveller 37 = .ok (.iload_n 2, 1) := by decide +kernel
theorem dX6_traveller_38 : decode cX6_traveller 38 = .ok (.iconst 2, 1) := by decide +kernel
theorem dX6_traveller_39 : decode cX6_traveller 39 = .ok (.if_icmp .ne 14, 3) := by decide +kernel
theorem dX6_traveller_42 : decode cX6_traveller 42 = .ok (.aload_n 0, 1) := by decide +kernel
theorem dX6_traveller_43 : decode cX6_traveller 43 = .ok (.getfield 26, 3) := by decide +kernel
theorem dX6_traveller_46 : decode cX6_traveller 46 = .ok (.iconst 2, 1) := by decide +kernel
theorem dX6_traveller_47 : decode cX6_traveller 47 = .ok (.iload_n 1, 1) := by decide +kernel
theorem dX6_traveller_48 : decode cX6_traveller 48 = .ok (.iadd, 1) := by decide +kernel
theorem dX6_traveller_49 : decode cX6_traveller 49 = .ok (.iaload, 1) := by decide +kernel
theorem dX6_traveller_50 : decode cX6_traveller 50 = .ok (.goto 29, 3) := by decide +kernel
theorem dX6_traveller_53 : decode cX6_traveller 53 = .ok (.iload_n 2, 1) := by decide +kernel
theorem dX6_traveller_54 : decode cX6_traveller 54 = .ok (.iconst 3, 1) := by decide +kernel
theorem dX6_traveller_55 : decode cX6_traveller 55 = .ok (.if_icmp .ne 15, 3) := by decide +kernel
theorem dX6_traveller_58 : decode cX6_traveller 58 = .ok (.aload_n 0, 1) := by decide +kernel
theorem dX6_traveller_59 : decode cX6_traveller 59 = .ok (.getfield 26, 3) := by decide +kernel
theorem dX6_traveller_62 : decode cX6_traveller 62 = .ok (.bipush 8, 2) := by decide +kernel
theorem dX6_traveller_64 : decode cX6_traveller 64 = .ok (.iload_n 1, 1) := by decide +kernel
theorem dX6_traveller_65 : decode cX6_traveller 65 = .ok (.iadd, 1) := by decide +kernel
theorem dX6_traveller_66 : decode cX6_traveller 66 = .ok (.iaload, 1) := by decide +kernel
theorem dX6_traveller_67 : decode cX6_traveller 67 = .ok (.goto 12, 3) := by decide +kernel
theorem dX6_traveller_70 : decode cX6_traveller 70 = .ok (.aload_n 0, 1) := by decide +kernel
theorem dX6_traveller_71 : decode cX6_traveller 71 = .ok (.getfield 26, 3) := by decide +kernel
theorem dX6_traveller_74 : decode cX6_traveller 74 = .ok (.bipush 14, 2) := by decide +kernel
theorem dX6_traveller_76 : decode cX6_traveller 76 = .ok (.iload_n 1, 1) := by decide +kernel
theorem dX6_traveller_77 : decode cX6_traveller 77 = .ok (.iadd, 1) := by decide +kernel
theorem dX6_traveller_78 : decode cX6_traveller 78 = .ok (.iaload, 1) := by decide +kernel
theorem dX6_traveller_79 : decode cX6_traveller 79 = .ok (.ireturn, 1) := by decide +kernel
theorem dX6_clerk_0 : decode cX6_clerk 0 = .ok (.aload_n 0, 1) := by decide +kernel
theorem dX6_clerk_1 : decode cX6_clerk 1 = .ok (.iload_n 1, 1) := by decide +kernel
theorem dX6_clerk_2 : decode cX6_clerk 2 = .ok (.invokevirtual 162, 3) := by decide +kernel
theorem dX6_clerk_5 : decode cX6_clerk 5 = .ok (.ifCond .eq 25, 3) := by decide +kernel
theorem dX6_clerk_8 : decode cX6_clerk 8 = .ok (.iload_n 2, 1) := by decide +kernel
theorem dX6_clerk_9 : decode cX6_clerk 9 = .ok (.iconst 0, 1) := by decide +kernel
theorem dX6_clerk_10 : decode cX6_clerk 10 = .ok (.iconst 2, 1) := by decide +kernel
theorem dX6_clerk_11 : decode cX6_clerk 11 = .ok (.invokestatic 85, 3) := by decide +kernel
theorem dX6_clerk_14 : decode cX6_clerk 14 = .ok (.ifCond .eq 16, 3) := by decide +kernel
theorem dX6_clerk_17 : decode cX6_clerk 17 = .ok (.aload_n 0, 1) := by decide +kernel
theorem dX6_clerk_18 : decode cX6_clerk 18 = .ok (.getfield 23, 3) := by decide +kernel
theorem dX6_clerk_21 : decode cX6_clerk 21 = .ok (.iconst 3, 1) := by decide +kernel
theorem dX6_clerk_22 : decode cX6_clerk 22 = .ok (.iload_n 1, 1) := by decide +kernel
theorem dX6_clerk_23 : decode cX6_clerk 23 = .ok (.imul, 1) := by decide +kernel
theorem dX6_clerk_24 : decode cX6_clerk 24 = .ok (.iload_n 2, 1) := by decide +kernel
theorem dX6_clerk_25 : decode cX6_clerk 25 = .ok (.iadd, 1) := by decide +kernel
theorem dX6_clerk_26 : decode cX6_clerk 26 = .ok (.iaload, 1) := by decide +kernel
theorem dX6_clerk_27 : decode cX6_clerk 27 = .ok (.goto 4, 3) := by decide +kernel
theorem dX6_clerk_30 : decode cX6_clerk 30 = .ok (.iconst (-1), 1) := by decide +kernel
theorem dX6_clerk_31 : decode cX6_clerk 31 = .ok (.ireturn, 1) := by decide +kernel
theorem dX6_leavers_0 : decode cX6_leavers 0 = .ok (.iconst 0, 1) := by decide +kernel
theorem dX6_leavers_1 : decode cX6_leavers 1 = .ok (.istore_n 1, 1) := by decide +kernel
theorem dX6_leavers_2 : decode cX6_leavers 2 = .ok (.iconst 0, 1) := by decide +kernel
theorem dX6_leavers_3 : decode cX6_leavers 3 = .ok (.istore_n 2, 1) := by decide +kernel
theorem dX6_leavers_4 : decode cX6_leavers 4 = .ok (.iload_n 2, 1) := by decide +kernel
theorem dX6_leavers_5 : decode cX6_leavers 5 = .ok (.aload_n 0, 1) := by decide +kernel
theorem dX6_leavers_6 : decode cX6_leavers 6 = .ok (.getfield 82, 3) := by decide +kernel
theorem dX6_leavers_9 : decode cX6_leavers 9 = .ok (.if_icmp .ge 27, 3) := by decide +kernel
theorem dX6_leavers_12 : decode cX6_leavers 12 = .ok (.iload_n 1, 1) := by decide +kernel
theorem dX6_leavers_13 : decode cX6_leavers 13 = .ok (.aload_n 0, 1) := by decide +kernel
theorem dX6_leavers_14 : decode cX6_leavers 14 = .ok (.iload_n 2, 1) := by decide +kernel
theorem dX6_leavers_15 : decode cX6_leavers 15 = .ok (.invokevirtual 165, 3) := by decide +kernel
theorem dX6_leavers_18 : decode cX6_leavers 18 = .ok (.ifCond .eq 9, 3) := by decide +kernel
theorem dX6_leavers_21 : decode cX6_leavers 21 = .ok (.iconst 1, 1) := by decide +kernel
theorem dX6_leavers_22 : decode cX6_leavers 22 = .ok (.iload_n 2, 1) := by decide +kernel
theorem dX6_leavers_23 : decode cX6_leavers 23 = .ok (.ishl, 1) := by decide +kernel
theorem dX6_leavers_24 : decode cX6_leavers 24 = .ok (.goto 4, 3) := by decide +kernel
theorem dX6_leavers_27 : decode cX6_leavers 27 = .ok (.iconst 0, 1) := by decide +kernel
theorem dX6_leavers_28 : decode cX6_leavers 28 = .ok (.ior, 1) := by decide +kernel
theorem dX6_leavers_29 : decode cX6_leavers 29 = .ok (.istore_n 1, 1) := by decide +kernel
theorem dX6_leavers_30 : decode cX6_leavers 30 = .ok (.iinc 2 1, 3) := by decide +kernel
theorem dX6_leavers_33 : decode cX6_leavers 33 = .ok (.goto (-29), 3) := by decide +kernel
theorem dX6_leavers_36 : decode cX6_leavers 36 = .ok (.iload_n 1, 1) := by decide +kernel
theorem dX6_leavers_37 : decode cX6_leavers 37 = .ok (.ireturn, 1) := by decide +kernel
theorem dX6_goneSet_0 : decode cX6_goneSet 0 = .ok (.iconst 0, 1) := by decide +kernel
theorem dX6_goneSet_1 : decode cX6_goneSet 1 = .ok (.istore_n 1, 1) := by decide +kernel
theorem dX6_goneSet_2 : decode cX6_goneSet 2 = .ok (.iconst 0, 1) := by decide +kernel
theorem dX6_goneSet_3 : decode cX6_goneSet 3 = .ok (.istore_n 2, 1) := by decide +kernel
theorem dX6_goneSet_4 : decode cX6_goneSet 4 = .ok (.iload_n 2, 1) := by decide +kernel
theorem dX6_goneSet_5 : decode cX6_goneSet 5 = .ok (.aload_n 0, 1) := by decide +kernel
theorem dX6_goneSet_6 : decode cX6_goneSet 6 = .ok (.getfield 82, 3) := by decide +kernel
theorem dX6_goneSet_9 : decode cX6_goneSet 9 = .ok (.if_icmp .ge 23, 3) := by decide +kernel
theorem dX6_goneSet_12 : decode cX6_goneSet 12 = .ok (.iload_n 1, 1) := by decide +kernel
theorem dX6_goneSet_13 : decode cX6_goneSet 13 = .ok (.aload_n 0, 1) := by decide +kernel
theorem dX6_goneSet_14 : decode cX6_goneSet 14 = .ok (.getfield 26, 3) := by decide +kernel
theorem dX6_goneSet_17 : decode cX6_goneSet 17 = .ok (.bipush 14, 2) := by decide +kernel
theorem dX6_goneSet_19 : decode cX6_goneSet 19 = .ok (.iload_n 2, 1) := by decide +kernel
theorem dX6_goneSet_20 : decode cX6_goneSet 20 = .ok (.iadd, 1) := by decide +kernel
theorem dX6_goneSet_21 : decode cX6_goneSet 21 = .ok (.iaload, 1) := by decide +kernel
theorem dX6_goneSet_22 : decode cX6_goneSet 22 = .ok (.iload_n 2, 1) := by decide +kernel
theorem dX6_goneSet_23 : decode cX6_goneSet 23 = .ok (.ishl, 1) := by decide +kernel
theorem dX6_goneSet_24 : decode cX6_goneSet 24 = .ok (.ior, 1) := by decide +kernel
theorem dX6_goneSet_25 : decode cX6_goneSet 25 = .ok (.istore_n 1, 1) := by decide +kernel
theorem dX6_goneSet_26 : decode cX6_goneSet 26 = .ok (.iinc 2 1, 3) := by decide +kernel
theorem dX6_goneSet_29 : decode cX6_goneSet 29 = .ok (.goto (-25), 3) := by decide +kernel
theorem dX6_goneSet_32 : decode cX6_goneSet 32 = .ok (.iload_n 1, 1) := by decide +kernel
theorem dX6_goneSet_33 : decode cX6_goneSet 33 = .ok (.ireturn, 1) := by decide +kernel
theorem dX6_now_0 : decode cX6_now 0 = .ok (.iload_n 1, 1) := by decide +kernel
theorem dX6_now_1 : decode cX6_now 1 = .ok (.tableswitch 87 0 5 #[39, 46, 53, 58, 63, 82], 39) := by decide +kernel
theorem dX6_now_40 : decode cX6_now 40 = .ok (.aload_n 0, 1) := by decide +kernel
theorem dX6_now_41 : decode cX6_now 41 = .ok (.getfield 26, 3) := by decide +kernel
theorem dX6_now_44 : decode cX6_now 44 = .ok (.iconst 0, 1) := by decide +kernel
theorem dX6_now_45 : decode cX6_now 45 = .ok (.iaload, 1) := by decide +kernel
theorem dX6_now_46 : decode cX6_now 46 = .ok (.ireturn, 1) := by decide +kernel
theorem dX6_now_47 : decode cX6_now 47 = .ok (.aload_n 0, 1) := by decide +kernel
theorem dX6_now_48 : decode cX6_now 48 = .ok (.getfield 26, 3) := by decide +kernel
theorem dX6_now_51 : decode cX6_now 51 = .ok (.iconst 1, 1) := by decide +kernel
theorem dX6_now_52 : decode cX6_now 52 = .ok (.iaload, 1) := by decide +kernel
theorem dX6_now_53 : decode cX6_now 53 = .ok (.ireturn, 1) := by decide +kernel
theorem dX6_now_54 : decode cX6_now 54 = .ok (.aload_n 0, 1) := by decide +kernel
theorem dX6_now_55 : decode cX6_now 55 = .ok (.invokevirtual 168, 3) := by decide +kernel
theorem dX6_now_58 : decode cX6_now 58 = .ok (.ireturn, 1) := by decide +kernel
theorem dX6_now_59 : decode cX6_now 59 = .ok (.aload_n 0, 1) := by decide +kernel
theorem dX6_now_60 : decode cX6_now 60 = .ok (.invokevirtual 172, 3) := by decide +kernel
theorem dX6_now_63 : decode cX6_now 63 = .ok (.ireturn, 1) := by decide +kernel
theorem dX6_now_64 : decode cX6_now 64 = .ok (.aload_n 0, 1) := by decide +kernel
theorem dX6_now_65 : decode cX6_now 65 = .ok (.aload_n 0, 1) := by decide +kernel
theorem dX6_now_66 : decode cX6_now 66 = .ok (.getfield 26, 3) := by decide +kernel
theorem dX6_now_69 : decode cX6_now 69 = .ok (.iconst 0, 1) := by decide +kernel
theorem dX6_now_70 : decode cX6_now 70 = .ok (.iaload, 1) := by decide +kernel
theorem dX6_now_71 : decode cX6_now 71 = .ok (.invokevirtual 175, 3) := by decide +kernel
theorem dX6_now_74 : decode cX6_now 74 = .ok (.ifCond .eq 7, 3) := by decide +kernel
theorem dX6_now_77 : decode cX6_now 77 = .ok (.iconst 1, 1) := by decide +kernel
theorem dX6_now_78 : decode cX6_now 78 = .ok (.goto 4, 3) := by decide +kernel
theorem dX6_now_81 : decode cX6_now 81 = .ok (.iconst 0, 1) := by decide +kernel
theorem dX6_now_82 : decode cX6_now 82 = .ok (.ireturn, 1) := by decide +kernel
theorem dX6_now_83 : decode cX6_now 83 = .ok (.aload_n 0, 1) := by decide +kernel
theorem dX6_now_84 : decode cX6_now 84 = .ok (.getfield 152, 3) := by decide +kernel
theorem dX6_now_87 : decode cX6_now 87 = .ok (.ireturn, 1) := by decide +kernel
theorem dX6_now_88 : decode cX6_now 88 = .ok (.iconst (-1), 1) := by decide +kernel
theorem dX6_now_89 : decode cX6_now 89 = .ok (.ireturn, 1) := by decide +kernel
theorem dX6_remembers_0 : decode cX6_remembers 0 = .ok (.aload_n 0, 1) := by decide +kernel
theorem dX6_remembers_1 : decode cX6_remembers 1 = .ok (.getfield 152, 3) := by decide +kernel
theorem dX6_remembers_4 : decode cX6_remembers 4 = .ok (.bipush 10, 2) := by decide +kernel
theorem dX6_remembers_6 : decode cX6_remembers 6 = .ok (.if_icmp .ne 43, 3) := by decide +kernel
theorem dX6_remembers_9 : decode cX6_remembers 9 = .ok (.iconst 0, 1) := by decide +kernel
theorem dX6_remembers_10 : decode cX6_remembers 10 = .ok (.istore_n 1, 1) := by decide +kernel
theorem dX6_remembers_11 : decode cX6_remembers 11 = .ok (.iload_n 1, 1) := by decide +kernel
theorem dX6_remembers_12 : decode cX6_remembers 12 = .ok (.sipush 234, 3) := by decide +kernel
theorem dX6_remembers_15 : decode cX6_remembers 15 = .ok (.if_icmp .ge 24, 3) := by decide +kernel
theorem dX6_remembers_18 : decode cX6_remembers 18 = .ok (.aload_n 0, 1) := by decide +kernel
theorem dX6_remembers_19 : decode cX6_remembers 19 = .ok (.getfield 29, 3) := by decide +kernel
theorem dX6_remembers_22 : decode cX6_remembers 22 = .ok (.iload_n 1, 1) := by decide +kernel
theorem dX6_remembers_23 : decode cX6_remembers 23 = .ok (.aload_n 0, 1) := by decide +kernel
theorem dX6_remembers_24 : decode cX6_remembers 24 = .ok (.getfield 29, 3) := by decide +kernel
theorem dX6_remembers_27 : decode cX6_remembers 27 = .ok (.iload_n 1, 1) := by decide +kernel
theorem dX6_remembers_28 : decode cX6_remembers 28 = .ok (.bipush 26, 2) := by decide +kernel
theorem dX6_remembers_30 : decode cX6_remembers 30 = .ok (.iadd, 1) := by decide +kernel
theorem dX6_remembers_31 : decode cX6_remembers 31 = .ok (.iaload, 1) := by decide +kernel
theorem dX6_remembers_32 : decode cX6_remembers 32 = .ok (.iastore, 1) := by decide +kernel
theorem dX6_remembers_33 : decode cX6_remembers 33 = .ok (.iinc 1 1, 3) := by decide +kernel
theorem dX6_remembers_36 : decode cX6_remembers 36 = .ok (.goto (-25), 3) := by decide +kernel
theorem dX6_remembers_39 : decode cX6_remembers 39 = .ok (.aload_n 0, 1) := by decide +kernel
theorem dX6_remembers_40 : decode cX6_remembers 40 = .ok (.dup, 1) := by decide +kernel
theorem dX6_remembers_41 : decode cX6_remembers 41 = .ok (.getfield 152, 3) := by decide +kernel
theorem dX6_remembers_44 : decode cX6_remembers 44 = .ok (.iconst 1, 1) := by decide +kernel
theorem dX6_remembers_45 : decode cX6_remembers 45 = .ok (.isub, 1) := by decide +kernel
theorem dX6_remembers_46 : decode cX6_remembers 46 = .ok (.putfield 152, 3) := by decide +kernel
theorem dX6_remembers_49 : decode cX6_remembers 49 = .ok (.iconst 0, 1) := by decide +kernel
theorem dX6_remembers_50 : decode cX6_remembers 50 = .ok (.istore_n 1, 1) := by decide +kernel
theorem dX6_remembers_51 : decode cX6_remembers 51 = .ok (.iload_n 1, 1) := by decide +kernel
theorem dX6_remembers_52 : decode cX6_remembers 52 = .ok (.bipush 26, 2) := by decide +kernel
theorem dX6_remembers_54 : decode cX6_remembers 54 = .ok (.if_icmp .ge 29, 3) := by decide +kernel
theorem dX6_remembers_57 : decode cX6_remembers 57 = .ok (.aload_n 0, 1) := by decide +kernel
theorem dX6_remembers_58 : decode cX6_remembers 58 = .ok (.getfield 29, 3) := by decide +kernel
theorem dX6_remembers_61 : decode cX6_remembers 61 = .ok (.bipush 26, 2) := by decide +kernel
theorem dX6_remembers_63 : decode cX6_remembers 63 = .ok (.aload_n 0, 1) := by decide +kernel
theorem dX6_remembers_64 : decode cX6_remembers 64 = .ok (.getfield 152, 3) := by decide +kernel
theorem dX6_remembers_67 : decode cX6_remembers 67 = .ok (.imul, 1) := by decide +kernel
theorem dX6_remembers_68 : decode cX6_remembers 68 = .ok (.iload_n 1, 1) := by decide +kernel
theorem dX6_remembers_69 : decode cX6_remembers 69 = .ok (.iadd, 1) := by decide +kernel
theorem dX6_remembers_70 : decode cX6_remembers 70 = .ok (.aload_n 0, 1) := by decide +kernel
theorem dX6_remembers_71 : decode cX6_remembers 71 = .ok (.getfield 26, 3) := by decide +kernel
theorem dX6_remembers_74 : decode cX6_remembers 74 = .ok (.iload_n 1, 1) := by decide +kernel
theorem dX6_remembers_75 : decode cX6_remembers 75 = .ok (.iaload, 1) := by decide +kernel
theorem dX6_remembers_76 : decode cX6_remembers 76 = .ok (.iastore, 1) := by decide +kernel
theorem dX6_remembers_77 : decode cX6_remembers 77 = .ok (.iinc 1 1, 3) := by decide +kernel
theorem dX6_remembers_80 : decode cX6_remembers 80 = .ok (.goto (-29), 3) := by decide +kernel
theorem dX6_remembers_83 : decode cX6_remembers 83 = .ok (.aload_n 0, 1) := by decide +kernel
theorem dX6_remembers_84 : decode cX6_remembers 84 = .ok (.dup, 1) := by decide +kernel
theorem dX6_remembers_85 : decode cX6_remembers 85 = .ok (.getfield 152, 3) := by decide +kernel
theorem dX6_remembers_88 : decode cX6_remembers 88 = .ok (.iconst 1, 1) := by decide +kernel
theorem dX6_remembers_89 : decode cX6_remembers 89 = .ok (.iadd, 1) := by decide +kernel
theorem dX6_remembers_90 : decode cX6_remembers 90 = .ok (.putfield 152, 3) := by decide +kernel
theorem dX6_remembers_93 : decode cX6_remembers 93 = .ok (.return_, 1) := by decide +kernel
theorem dX6_puts_0 : decode cX6_puts 0 = .ok (.aload_n 0, 1) := by decide +kernel
theorem dX6_puts_1 : decode cX6_puts 1 = .ok (.iload_n 1, 1) := by decide +kernel
theorem dX6_puts_2 : decode cX6_puts 2 = .ok (.invokevirtual 158, 3) := by decide +kernel
theorem dX6_puts_5 : decode cX6_puts 5 = .ok (.ifCond .eq 11, 3) := by decide +kernel
theorem dX6_puts_8 : decode cX6_puts 8 = .ok (.aload_n 0, 1) := by decide +kernel
theorem dX6_puts_9 : decode cX6_puts 9 = .ok (.iload_n 2, 1) := by decide +kernel
theorem dX6_puts_10 : decode cX6_puts 10 = .ok (.invokevirtual 178, 3) := by decide +kernel
theorem dX6_puts_13 : decode cX6_puts 13 = .ok (.ifCond .ne 5, 3) := by decide +kernel
theorem dX6_puts_16 : decode cX6_puts 16 = .ok (.iconst (-1), 1) := by decide +kernel
theorem dX6_puts_17 : decode cX6_puts 17 = .ok (.ireturn, 1) := by decide +kernel
theorem dX6_puts_18 : decode cX6_puts 18 = .ok (.aload_n 0, 1) := by decide +kernel
theorem dX6_puts_19 : decode cX6_puts 19 = .ok (.getfield 19, 3) := by decide +kernel
theorem dX6_puts_22 : decode cX6_puts 22 = .ok (.iconst 2, 1) := by decide +kernel
theorem dX6_puts_23 : decode cX6_puts 23 = .ok (.iload_n 1, 1) := by decide +kernel
theorem dX6_puts_24 : decode cX6_puts 24 = .ok (.imul, 1) := by decide +kernel
theorem dX6_puts_25 : decode cX6_puts 25 = .ok (.iaload, 1) := by decide +kernel
theorem dX6_puts_26 : decode cX6_puts 26 = .ok (.aload_n 0, 1) := by decide +kernel
theorem dX6_puts_27 : decode cX6_puts 27 = .ok (.getfield 26, 3) := by decide +kernel
theorem dX6_puts_30 : decode cX6_puts 30 = .ok (.iconst 0, 1) := by decide +kernel
theorem dX6_puts_31 : decode cX6_puts 31 = .ok (.iaload, 1) := by decide +kernel
theorem dX6_puts_32 : decode cX6_puts 32 = .ok (.if_icmp .gt 29, 3) := by decide +kernel
theorem dX6_puts_35 : decode cX6_puts 35 = .ok (.aload_n 0, 1) := by decide +kernel
theorem dX6_puts_36 : decode cX6_puts 36 = .ok (.getfield 26, 3) := by decide +kernel
theorem dX6_puts_39 : decode cX6_puts 39 = .ok (.iconst 2, 1) := by decide +kernel
theorem dX6_puts_40 : decode cX6_puts 40 = .ok (.iload_n 1, 1) := by decide +kernel
theorem dX6_puts_41 : decode cX6_puts 41 = .ok (.iadd, 1) := by decide +kernel
theorem dX6_puts_42 : decode cX6_puts 42 = .ok (.iaload, 1) := by decide +kernel
theorem dX6_puts_43 : decode cX6_puts 43 = .ok (.bipush (-9), 2) := by decide +kernel
theorem dX6_puts_45 : decode cX6_puts 45 = .ok (.if_icmp .ne 16, 3) := by decide +kernel
theorem dX6_puts_48 : decode cX6_puts 48 = .ok (.aload_n 0, 1) := by decide +kernel
theorem dX6_puts_49 : decode cX6_puts 49 = .ok (.getfield 26, 3) := by decide +kernel
theorem dX6_puts_52 : decode cX6_puts 52 = .ok (.bipush 14, 2) := by decide +kernel
theorem dX6_puts_54 : decode cX6_puts 54 = .ok (.iload_n 1, 1) := by decide +kernel
theorem dX6_puts_55 : decode cX6_puts 55 = .ok (.iadd, 1) := by decide +kernel
theorem dX6_puts_56 : decode cX6_puts 56 = .ok (.iaload, 1) := by decide +kernel
theorem dX6_puts_57 : decode cX6_puts 57 = .ok (.iconst 1, 1) := by decide +kernel
theorem dX6_puts_58 : decode cX6_puts 58 = .ok (.if_icmp .ne 6, 3) := by decide +kernel
theorem dX6_puts_61 : decode cX6_puts 61 = .ok (.bipush (-2), 2) := by decide +kernel
theorem dX6_puts_63 : decode cX6_puts 63 = .ok (.ireturn, 1) := by decide +kernel
theorem dX6_puts_64 : decode cX6_puts 64 = .ok (.aload_n 0, 1) := by decide +kernel
theorem dX6_puts_65 : decode cX6_puts 65 = .ok (.invokevirtual 181, 3) := by decide +kernel
theorem dX6_puts_68 : decode cX6_puts 68 = .ok (.aload_n 0, 1) := by decide +kernel
theorem dX6_puts_69 : decode cX6_puts 69 = .ok (.getfield 26, 3) := by decide +kernel
theorem dX6_puts_72 : decode cX6_puts 72 = .ok (.iconst 2, 1) := by decide +kernel
theorem dX6_puts_73 : decode cX6_puts 73 = .ok (.iload_n 1, 1) := by decide +kernel
theorem dX6_puts_74 : decode cX6_puts 74 = .ok (.iadd, 1) := by decide +kernel
theorem dX6_puts_75 : decode cX6_puts 75 = .ok (.iload_n 2, 1) := by decide +kernel
theorem dX6_puts_76 : decode cX6_puts 76 = .ok (.iastore, 1) := by decide +kernel
theorem dX6_puts_77 : decode cX6_puts 77 = .ok (.iconst 0, 1) := by decide +kernel
theorem dX6_puts_78 : decode cX6_puts 78 = .ok (.istore_n 3, 1) := by decide +kernel
theorem dX6_puts_79 : decode cX6_puts 79 = .ok (.iconst 0, 1) := by decide +kernel
theorem dX6_puts_80 : decode cX6_puts 80 = .ok (.istore 4, 2) := by decide +kernel
theorem dX6_puts_82 : decode cX6_puts 82 = .ok (.iload 4, 2) := by decide +kernel
theorem dX6_puts_84 : decode cX6_puts 84 = .ok (.aload_n 0, 1) := by decide +kernel
theorem dX6_puts_85 : decode cX6_puts 85 = .ok (.getfield 82, 3) := by decide +kernel
theorem dX6_puts_88 : decode cX6_puts 88 = .ok (.if_icmp .ge 71, 3) := by decide +kernel
theorem dX6_puts_91 : decode cX6_puts 91 = .ok (.aload_n 0, 1) := by decide +kernel
theorem dX6_puts_92 : decode cX6_puts 92 = .ok (.getfield 26, 3) := by decide +kernel
theorem dX6_puts_95 : decode cX6_puts 95 = .ok (.iconst 2, 1) := by decide +kernel
theorem dX6_puts_96 : decode cX6_puts 96 = .ok (.iload 4, 2) := by decide +kernel
theorem dX6_puts_98 : decode cX6_puts 98 = .ok (.iadd, 1) := by decide +kernel
theorem dX6_puts_99 : decode cX6_puts 99 = .ok (.iaload, 1) := by decide +kernel
theorem dX6_puts_100 : decode cX6_puts 100 = .ok (.iload_n 2, 1) := by decide +kernel
theorem dX6_puts_101 : decode cX6_puts 101 = .ok (.if_icmp .ne 7, 3) := by decide +kernel
theorem dX6_puts_104 : decode cX6_puts 104 = .ok (.iconst 1, 1) := by decide +kernel
theorem dX6_puts_105 : decode cX6_puts 105 = .ok (.goto 4, 3) := by decide +kernel
theorem dX6_puts_108 : decode cX6_puts 108 = .ok (.iconst 0, 1) := by decide +kernel
theorem dX6_puts_109 : decode cX6_puts 109 = .ok (.istore 5, 2) := by decide +kernel
theorem dX6_puts_111 : decode cX6_puts 111 = .ok (.aload_n 0, 1) := by decide +kernel
theorem dX6_puts_112 : decode cX6_puts 112 = .ok (.getfield 26, 3) := by decide +kernel
theorem dX6_puts_115 : decode cX6_puts 115 = .ok (.bipush 8, 2) := by decide +kernel
theorem dX6_puts_117 : decode cX6_puts 117 = .ok (.iload 4, 2) := by decide +kernel
theorem dX6_puts_119 : decode cX6_puts 119 = .ok (.iadd, 1) := by decide +kernel
theorem dX6_puts_120 : decode cX6_puts 120 = .ok (.iload 5, 2) := by decide +kernel
theorem dX6_puts_122 : decode cX6_puts 122 = .ok (.ifCond .eq 7, 3) := by decide +kernel
theorem dX6_puts_125 : decode cX6_puts 125 = .ok (.iconst 0, 1) := by decide +kernel
theorem dX6_puts_126 : decode cX6_puts 126 = .ok (.goto 13, 3) := by decide +kernel
theorem dX6_puts_129 : decode cX6_puts 129 = .ok (.aload_n 0, 1) := by decide +kernel
theorem dX6_puts_130 : decode cX6_puts 130 = .ok (.getfield 26, 3) := by decide +kernel
theorem dX6_puts_133 : decode cX6_puts 133 = .ok (.bipush 8, 2) := by decide +kernel
theorem dX6_puts_135 : decode cX6_puts 135 = .ok (.iload 4, 2) := by decide +kernel
theorem dX6_puts_137 : decode cX6_puts 137 = .ok (.iadd, 1) := by decide +kernel
theorem dX6_puts_138 : decode cX6_puts 138 = .ok (.iaload, 1) := by decide +kernel
theorem dX6_puts_139 : decode cX6_puts 139 = .ok (.iastore, 1) := by decide +kernel
theorem dX6_puts_140 : decode cX6_puts 140 = .ok (.iload_n 3, 1) := by decide +kernel
theorem dX6_puts_141 : decode cX6_puts 141 = .ok (.iload 5, 2) := by decide +kernel
theorem dX6_puts_143 : decode cX6_puts 143 = .ok (.ifCond .eq 7, 3) := by decide +kernel
theorem dX6_puts_146 : decode cX6_puts 146 = .ok (.iconst 1, 1) := by decide +kernel
theorem dX6_puts_147 : decode cX6_puts 147 = .ok (.goto 4, 3) := by decide +kernel
theorem dX6_puts_150 : decode cX6_puts 150 = .ok (.iconst 0, 1) := by decide +kernel
theorem dX6_puts_151 : decode cX6_puts 151 = .ok (.iadd, 1) := by decide +kernel
theorem dX6_puts_152 : decode cX6_puts 152 = .ok (.istore_n 3, 1) := by decide +kernel
theorem dX6_puts_153 : decode cX6_puts 153 = .ok (.iinc 4 1, 3) := by decide +kernel
theorem dX6_puts_156 : decode cX6_puts 156 = .ok (.goto (-74), 3) := by decide +kernel
theorem dX6_puts_159 : decode cX6_puts 159 = .ok (.iload_n 3, 1) := by decide +kernel
theorem dX6_puts_160 : decode cX6_puts 160 = .ok (.ireturn, 1) := by decide +kernel
theorem dX6_vinegar_0 : decode cX6_vinegar 0 = .ok (.iconst 0, 1) := by decide +kernel
theorem dX6_vinegar_1 : decode cX6_vinegar 1 = .ok (.istore_n 3, 1) := by decide +kernel
theorem dX6_vinegar_2 : decode cX6_vinegar 2 = .ok (.iconst 0, 1) := by decide +kernel
theorem dX6_vinegar_3 : decode cX6_vinegar 3 = .ok (.istore 4, 2) := by decide +kernel
theorem dX6_vinegar_5 : decode cX6_vinegar 5 = .ok (.iload 4, 2) := by decide +kernel
theorem dX6_vinegar_7 : decode cX6_vinegar 7 = .ok (.aload_n 0, 1) := by decide +kernel
theorem dX6_vinegar_8 : decode cX6_vinegar 8 = .ok (.getfield 13, 3) := by decide +kernel
theorem dX6_vinegar_11 : decode cX6_vinegar 11 = .ok (.if_icmp .ge 69, 3) := by decide +kernel
theorem dX6_vinegar_14 : decode cX6_vinegar 14 = .ok (.iconst 0, 1) := by decide +kernel
theorem dX6_vinegar_15 : decode cX6_vinegar 15 = .ok (.istore 5, 2) := by decide +kernel
theorem dX6_vinegar_17 : decode cX6_vinegar 17 = .ok (.iconst 0, 1) := by decide +kernel
theorem dX6_vinegar_18 : decode cX6_vinegar 18 = .ok (.istore 6, 2) := by decide +kernel
theorem dX6_vinegar_20 : decode cX6_vinegar 20 = .ok (.iload 6, 2) := by decide +kernel
theorem dX6_vinegar_22 : decode cX6_vinegar 22 = .ok (.aload_n 0, 1) := by decide +kernel
theorem dX6_vinegar_23 : decode cX6_vinegar 23 = .ok (.getfield 82, 3) := by decide +kernel
theorem dX6_vinegar_26 : decode cX6_vinegar 26 = .ok (.if_icmp .ge 30, 3) := by decide +kernel
theorem dX6_vinegar_29 : decode cX6_vinegar 29 = .ok (.iload 5, 2) := by decide +kernel
theorem dX6_vinegar_31 : decode cX6_vinegar 31 = .ok (.aload_n 1, 1) := by decide +kernel
theorem dX6_vinegar_32 : decode cX6_vinegar 32 = .ok (.iload_n 2, 1) := by decide +kernel
theorem dX6_vinegar_33 : decode cX6_vinegar 33 = .ok (.iload 6, 2) := by decide +kernel
theorem dX6_vinegar_35 : decode cX6_vinegar 35 = .ok (.iadd, 1) := by decide +kernel
theorem dX6_vinegar_36 : decode cX6_vinegar 36 = .ok (.iaload, 1) := by decide +kernel
theorem dX6_vinegar_37 : decode cX6_vinegar 37 = .ok (.iload 4, 2) := by decide +kernel
theorem dX6_vinegar_39 : decode cX6_vinegar 39 = .ok (.if_icmp .ne 7, 3) := by decide +kernel
theorem dX6_vinegar_42 : decode cX6_vinegar 42 = .ok (.iconst 1, 1) := by decide +kernel
theorem dX6_vinegar_43 : decode cX6_vinegar 43 = .ok (.goto 4, 3) := by decide +kernel
theorem dX6_vinegar_46 : decode cX6_vinegar 46 = .ok (.iconst 0, 1) := by decide +kernel
theorem dX6_vinegar_47 : decode cX6_vinegar 47 = .ok (.iadd, 1) := by decide +kernel
theorem dX6_vinegar_48 : decode cX6_vinegar 48 = .ok (.istore 5, 2) := by decide +kernel
theorem dX6_vinegar_50 : decode cX6_vinegar 50 = .ok (.iinc 6 1, 3) := by decide +kernel
theorem dX6_vinegar_53 : decode cX6_vinegar 53 = .ok (.goto (-33), 3) := by decide +kernel
theorem dX6_vinegar_56 : decode cX6_vinegar 56 = .ok (.iload_n 3, 1) := by decide +kernel
theorem dX6_vinegar_57 : decode cX6_vinegar 57 = .ok (.iload 5, 2) := by decide +kernel
theorem dX6_vinegar_59 : decode cX6_vinegar 59 = .ok (.ifCond .ne 7, 3) := by decide +kernel
theorem dX6_vinegar_62 : decode cX6_vinegar 62 = .ok (.iconst 0, 1) := by decide +kernel
theorem dX6_vinegar_63 : decode cX6_vinegar 63 = .ok (.goto 9, 3) := by decide +kernel
theorem dX6_vinegar_66 : decode cX6_vinegar 66 = .ok (.iconst 1, 1) := by decide +kernel
theorem dX6_vinegar_67 : decode cX6_vinegar 67 = .ok (.iload 5, 2) := by decide +kernel
theorem dX6_vinegar_69 : decode cX6_vinegar 69 = .ok (.iconst 2, 1) := by decide +kernel
theorem dX6_vinegar_70 : decode cX6_vinegar 70 = .ok (.idiv, 1) := by decide +kernel
theorem dX6_vinegar_71 : decode cX6_vinegar 71 = .ok (.iadd, 1) := by decide +kernel
theorem dX6_vinegar_72 : decode cX6_vinegar 72 = .ok (.iadd, 1) := by decide +kernel
theorem dX6_vinegar_73 : decode cX6_vinegar 73 = .ok (.istore_n 3, 1) := by decide +kernel
theorem dX6_vinegar_74 : decode cX6_vinegar 74 = .ok (.iinc 4 1, 3) := by decide +kernel
theorem dX6_vinegar_77 : decode cX6_vinegar 77 = .ok (.goto (-72), 3) := by decide +kernel
theorem dX6_vinegar_80 : decode cX6_vinegar 80 = .ok (.iload_n 3, 1) := by decide +kernel
theorem dX6_vinegar_81 : decode cX6_vinegar 81 = .ok (.ireturn, 1) := by decide +kernel
theorem dX6_day_0 : decode cX6_day 0 = .ok (.aload_n 0, 1) := by decide +kernel
theorem dX6_day_1 : decode cX6_day 1 = .ok (.getfield 26, 3) := by decide +kernel
theorem dX6_day_4 : decode cX6_day 4 = .ok (.iconst 0, 1) := by decide +kernel
theorem dX6_day_5 : decode cX6_day 5 = .ok (.iaload, 1) := by decide +kernel
theorem dX6_day_6 : decode cX6_day 6 = .ok (.sipush 200, 3) := by decide +kernel
theorem dX6_day_9 : decode cX6_day 9 = .ok (.if_icmp .ne 6, 3) := by decide +kernel
theorem dX6_day_12 : decode cX6_day 12 = .ok (.bipush (-2), 2) := by decide +kernel
theorem dX6_day_14 : decode cX6_day 14 = .ok (.ireturn, 1) := by decide +kernel
theorem dX6_day_15 : decode cX6_day 15 = .ok (.aload_n 0, 1) := by decide +kernel
theorem dX6_day_16 : decode cX6_day 16 = .ok (.invokevirtual 181, 3) := by decide +kernel
theorem dX6_day_19 : decode cX6_day 19 = .ok (.aload_n 0, 1) := by decide +kernel
theorem dX6_day_20 : decode cX6_day 20 = .ok (.getfield 26, 3) := by decide +kernel
theorem dX6_day_23 : decode cX6_day 23 = .ok (.iconst 1, 1) := by decide +kernel
theorem dX6_day_24 : decode cX6_day 24 = .ok (.dup2, 1) := by decide +kernel
theorem dX6_day_25 : decode cX6_day 25 = .ok (.iaload, 1) := by decide +kernel
theorem dX6_day_26 : decode cX6_day 26 = .ok (.aload_n 0, 1) := by decide +kernel
theorem dX6_day_27 : decode cX6_day 27 = .ok (.aload_n 0, 1) := by decide +kernel
theorem dX6_day_28 : decode cX6_day 28 = .ok (.getfield 26, 3) := by decide +kernel
theorem dX6_day_31 : decode cX6_day 31 = .ok (.iconst 2, 1) := by decide +kernel
theorem dX6_day_32 : decode cX6_day 32 = .ok (.invokevirtual 184, 3) := by decide +kernel
theorem dX6_day_35 : decode cX6_day 35 = .ok (.iadd, 1) := by decide +kernel
theorem dX6_day_36 : decode cX6_day 36 = .ok (.iastore, 1) := by decide +kernel
theorem dX6_day_37 : decode cX6_day 37 = .ok (.aload_n 0, 1) := by decide +kernel
theorem dX6_day_38 : decode cX6_day 38 = .ok (.getfield 26, 3) := by decide +kernel
theorem dX6_day_41 : decode cX6_day 41 = .ok (.iconst 0, 1) := by decide +kernel
theorem dX6_day_42 : decode cX6_day 42 = .ok (.dup2, 1) := by decide +kernel
theorem dX6_day_43 : decode cX6_day 43 = .ok (.iaload, 1) := by decide +kernel
theorem dX6_day_44 : decode cX6_day 44 = .ok (.iconst 1, 1) := by decide +kernel
theorem dX6_day_45 : decode cX6_day 45 = .ok (.iadd, 1) := by decide +kernel
theorem dX6_day_46 : decode cX6_day 46 = .ok (.iastore, 1) := by decide +kernel
theorem dX6_day_47 : decode cX6_day 47 = .ok (.iconst 0, 1) := by decide +kernel
theorem dX6_day_48 : decode cX6_day 48 = .ok (.istore_n 1, 1) := by decide +kernel
theorem dX6_day_49 : decode cX6_day 49 = .ok (.iload_n 1, 1) := by decide +kernel
theorem dX6_day_50 : decode cX6_day 50 = .ok (.aload_n 0, 1) := by decide +kernel
theorem dX6_day_51 : decode cX6_day 51 = .ok (.getfield 82, 3) := by decide +kernel
theorem dX6_day_54 : decode cX6_day 54 = .ok (.if_icmp .ge 39, 3) := by decide +kernel
theorem dX6_day_57 : decode cX6_day 57 = .ok (.aload_n 0, 1) := by decide +kernel
theorem dX6_day_58 : decode cX6_day 58 = .ok (.getfield 26, 3) := by decide +kernel
theorem dX6_day_61 : decode cX6_day 61 = .ok (.bipush 8, 2) := by decide +kernel
theorem dX6_day_63 : decode cX6_day 63 = .ok (.iload_n 1, 1) := by decide +kernel
theorem dX6_day_64 : decode cX6_day 64 = .ok (.iadd, 1) := by decide +kernel
theorem dX6_day_65 : decode cX6_day 65 = .ok (.dup2, 1) := by decide +kernel
theorem dX6_day_66 : decode cX6_day 66 = .ok (.iaload, 1) := by decide +kernel
theorem dX6_day_67 : decode cX6_day 67 = .ok (.aload_n 0, 1) := by decide +kernel
theorem dX6_day_68 : decode cX6_day 68 = .ok (.getfield 26, 3) := by decide +kernel
theorem dX6_day_71 : decode cX6_day 71 = .ok (.iconst 2, 1) := by decide +kernel
theorem dX6_day_72 : decode cX6_day 72 = .ok (.iload_n 1, 1) := by decide +kernel
theorem dX6_day_73 : decode cX6_day 73 = .ok (.iadd, 1) := by decide +kernel
theorem dX6_day_74 : decode cX6_day 74 = .ok (.iaload, 1) := by decide +kernel
theorem dX6_day_75 : decode cX6_day 75 = .ok (.bipush (-9), 2) := by decide +kernel
theorem dX6_day_77 : decode cX6_day 77 = .ok (.if_icmp .ne 7, 3) := by decide +kernel
theorem dX6_day_80 : decode cX6_day 80 = .ok (.iconst 0, 1) := by decide +kernel
theorem dX6_day_81 : decode cX6_day 81 = .ok (.goto 4, 3) := by decide +kernel
theorem dX6_day_84 : decode cX6_day 84 = .ok (.iconst 1, 1) := by decide +kernel
theorem dX6_day_85 : decode cX6_day 85 = .ok (.iadd, 1) := by decide +kernel
theorem dX6_day_86 : decode cX6_day 86 = .ok (.iastore, 1) := by decide +kernel
theorem dX6_day_87 : decode cX6_day 87 = .ok (.iinc 1 1, 3) := by decide +kernel
theorem dX6_day_90 : decode cX6_day 90 = .ok (.goto (-41), 3) := by decide +kernel
theorem dX6_day_93 : decode cX6_day 93 = .ok (.aload_n 0, 1) := by decide +kernel
theorem dX6_day_94 : decode cX6_day 94 = .ok (.invokevirtual 168, 3) := by decide +kernel
theorem dX6_day_97 : decode cX6_day 97 = .ok (.ireturn, 1) := by decide +kernel
theorem dX6_sails_0 : decode cX6_sails 0 = .ok (.aload_n 0, 1) := by decide +kernel
theorem dX6_sails_1 : decode cX6_sails 1 = .ok (.iload_n 1, 1) := by decide +kernel
theorem dX6_sails_2 : decode cX6_sails 2 = .ok (.invokevirtual 158, 3) := by decide +kernel
theorem dX6_sails_5 : decode cX6_sails 5 = .ok (.ifCond .ne 5, 3) := by decide +kernel
theorem dX6_sails_8 : decode cX6_sails 8 = .ok (.iconst (-1), 1) := by decide +kernel
theorem dX6_sails_9 : decode cX6_sails 9 = .ok (.ireturn, 1) := by decide +kernel
theorem dX6_sails_10 : decode cX6_sails 10 = .ok (.aload_n 0, 1) := by decide +kernel
theorem dX6_sails_11 : decode cX6_sails 11 = .ok (.iload_n 1, 1) := by decide +kernel
theorem dX6_sails_12 : decode cX6_sails 12 = .ok (.invokevirtual 165, 3) := by decide +kernel
theorem dX6_sails_15 : decode cX6_sails 15 = .ok (.ifCond .eq 16, 3) := by decide +kernel
theorem dX6_sails_18 : decode cX6_sails 18 = .ok (.aload_n 0, 1) := by decide +kernel
theorem dX6_sails_19 : decode cX6_sails 19 = .ok (.aload_n 0, 1) := by decide +kernel
theorem dX6_sails_20 : decode cX6_sails 20 = .ok (.getfield 26, 3) := by decide +kernel
theorem dX6_sails_23 : decode cX6_sails 23 = .ok (.iconst 0, 1) := by decide +kernel
theorem dX6_sails_24 : decode cX6_sails 24 = .ok (.iaload, 1) := by decide +kernel
theorem dX6_sails_25 : decode cX6_sails 25 = .ok (.invokevirtual 175, 3) := by decide +kernel
theorem dX6_sails_28 : decode cX6_sails 28 = .ok (.ifCond .ne 6, 3) := by decide +kernel
theorem dX6_sails_31 : decode cX6_sails 31 = .ok (.bipush (-2), 2) := by decide +kernel
theorem dX6_sails_33 : decode cX6_sails 33 = .ok (.ireturn, 1) := by decide +kernel
theorem dX6_sails_34 : decode cX6_sails 34 = .ok (.aload_n 0, 1) := by decide +kernel
theorem dX6_sails_35 : decode cX6_sails 35 = .ok (.invokevirtual 181, 3) := by decide +kernel
theorem dX6_sails_38 : decode cX6_sails 38 = .ok (.aload_n 0, 1) := by decide +kernel
theorem dX6_sails_39 : decode cX6_sails 39 = .ok (.getfield 26, 3) := by decide +kernel
theorem dX6_sails_42 : decode cX6_sails 42 = .ok (.iconst 2, 1) := by decide +kernel
theorem dX6_sails_43 : decode cX6_sails 43 = .ok (.iload_n 1, 1) := by decide +kernel
theorem dX6_sails_44 : decode cX6_sails 44 = .ok (.iadd, 1) := by decide +kernel
theorem dX6_sails_45 : decode cX6_sails 45 = .ok (.bipush (-9), 2) := by decide +kernel
theorem dX6_sails_47 : decode cX6_sails 47 = .ok (.iastore, 1) := by decide +kernel
theorem dX6_sails_48 : decode cX6_sails 48 = .ok (.aload_n 0, 1) := by decide +kernel
theorem dX6_sails_49 : decode cX6_sails 49 = .ok (.getfield 26, 3) := by decide +kernel
theorem dX6_sails_52 : decode cX6_sails 52 = .ok (.bipush 8, 2) := by decide +kernel
theorem dX6_sails_54 : decode cX6_sails 54 = .ok (.iload_n 1, 1) := by decide +kernel
theorem dX6_sails_55 : decode cX6_sails 55 = .ok (.iadd, 1) := by decide +kernel
theorem dX6_sails_56 : decode cX6_sails 56 = .ok (.iconst 0, 1) := by decide +kernel
theorem dX6_sails_57 : decode cX6_sails 57 = .ok (.iastore, 1) := by decide +kernel
theorem dX6_sails_58 : decode cX6_sails 58 = .ok (.aload_n 0, 1) := by decide +kernel
theorem dX6_sails_59 : decode cX6_sails 59 = .ok (.getfield 26, 3) := by decide +kernel
theorem dX6_sails_62 : decode cX6_sails 62 = .ok (.bipush 14, 2) := by decide +kernel
theorem dX6_sails_64 : decode cX6_sails 64 = .ok (.iload_n 1, 1) := by decide +kernel
theorem dX6_sails_65 : decode cX6_sails 65 = .ok (.iadd, 1) := by decide +kernel
theorem dX6_sails_66 : decode cX6_sails 66 = .ok (.iconst 1, 1) := by decide +kernel
theorem dX6_sails_67 : decode cX6_sails 67 = .ok (.iastore, 1) := by decide +kernel
theorem dX6_sails_68 : decode cX6_sails 68 = .ok (.aload_n 0, 1) := by decide +kernel
theorem dX6_sails_69 : decode cX6_sails 69 = .ok (.invokevirtual 172, 3) := by decide +kernel
theorem dX6_sails_72 : decode cX6_sails 72 = .ok (.invokestatic 188, 3) := by decide +kernel
theorem dX6_sails_75 : decode cX6_sails 75 = .ok (.ireturn, 1) := by decide +kernel
theorem dX6_undo_0 : decode cX6_undo 0 = .ok (.aload_n 0, 1) := by decide +kernel
theorem dX6_undo_1 : decode cX6_undo 1 = .ok (.getfield 152, 3) := by decide +kernel
theorem dX6_undo_4 : decode cX6_undo 4 = .ok (.ifCond .ne 6, 3) := by decide +kernel
theorem dX6_undo_7 : decode cX6_undo 7 = .ok (.bipush (-2), 2) := by decide +kernel
theorem dX6_undo_9 : decode cX6_undo 9 = .ok (.ireturn, 1) := by decide +kernel
theorem dX6_undo_10 : decode cX6_undo 10 = .ok (.aload_n 0, 1) := by decide +kernel
theorem dX6_undo_11 : decode cX6_undo 11 = .ok (.dup, 1) := by decide +kernel
theorem dX6_undo_12 : decode cX6_undo 12 = .ok (.getfield 152, 3) := by decide +kernel
theorem dX6_undo_15 : decode cX6_undo 15 = .ok (.iconst 1, 1) := by decide +kernel
theorem dX6_undo_16 : decode cX6_undo 16 = .ok (.isub, 1) := by decide +kernel
theorem dX6_undo_17 : decode cX6_undo 17 = .ok (.putfield 152, 3) := by decide +kernel
theorem dX6_undo_20 : decode cX6_undo 20 = .ok (.iconst 0, 1) := by decide +kernel
theorem dX6_undo_21 : decode cX6_undo 21 = .ok (.istore_n 1, 1) := by decide +kernel
theorem dX6_undo_22 : decode cX6_undo 22 = .ok (.iload_n 1, 1) := by decide +kernel
theorem dX6_undo_23 : decode cX6_undo 23 = .ok (.bipush 26, 2) := by decide +kernel
theorem dX6_undo_25 : decode cX6_undo 25 = .ok (.if_icmp .ge 29, 3) := by decide +kernel
theorem dX6_undo_28 : decode cX6_undo 28 = .ok (.aload_n 0, 1) := by decide +kernel
theorem dX6_undo_29 : decode cX6_undo 29 = .ok (.getfield 26, 3) := by decide +kernel
theorem dX6_undo_32 : decode cX6_undo 32 = .ok (.iload_n 1, 1) := by decide +kernel
theorem dX6_undo_33 : decode cX6_undo 33 = .ok (.aload_n 0, 1) := by decide +kernel
theorem dX6_undo_34 : decode cX6_undo 34 = .ok (.getfield 29, 3) := by decide +kernel
theorem dX6_undo_37 : decode cX6_undo 37 = .ok (.bipush 26, 2) := by decide +kernel
theorem dX6_undo_39 : decode cX6_undo 39 = .ok (.aload_n 0, 1) := by decide +kernel
theorem dX6_undo_40 : decode cX6_undo 40 = .ok (.getfield 152, 3) := by decide +kernel
theorem dX6_undo_43 : decode cX6_undo 43 = .ok (.imul, 1) := by decide +kernel
theorem dX6_undo_44 : decode cX6_undo 44 = .ok (.iload_n 1, 1) := by decide +kernel
theorem dX6_undo_45 : decode cX6_undo 45 = .ok (.iadd, 1) := by decide +kernel
theorem dX6_undo_46 : decode cX6_undo 46 = .ok (.iaload, 1) := by decide +kernel
theorem dX6_undo_47 : decode cX6_undo 47 = .ok (.iastore, 1) := by decide +kernel
theorem dX6_undo_48 : decode cX6_undo 48 = .ok (.iinc 1 1, 3) := by decide +kernel
theorem dX6_undo_51 : decode cX6_undo 51 = .ok (.goto (-29), 3) := by decide +kernel
theorem dX6_undo_54 : decode cX6_undo 54 = .ok (.aload_n 0, 1) := by decide +kernel
theorem dX6_undo_55 : decode cX6_undo 55 = .ok (.getfield 152, 3) := by decide +kernel
theorem dX6_undo_58 : decode cX6_undo 58 = .ok (.ireturn, 1) := by decide +kernel
theorem dX6_comes_0 : decode cX6_comes 0 = .ok (.aload_n 0, 1) := by decide +kernel
theorem dX6_comes_1 : decode cX6_comes 1 = .ok (.getfield 60, 3) := by decide +kernel
theorem dX6_comes_4 : decode cX6_comes 4 = .ok (.iload_n 1, 1) := by decide +kernel
theorem dX6_comes_5 : decode cX6_comes 5 = .ok (.aload_n 0, 1) := by decide +kernel
theorem dX6_comes_6 : decode cX6_comes 6 = .ok (.getfield 57, 3) := by decide +kernel
theorem dX6_comes_9 : decode cX6_comes 9 = .ok (.iload_n 1, 1) := by decide +kernel
theorem dX6_comes_10 : decode cX6_comes 10 = .ok (.iaload, 1) := by decide +kernel
theorem dX6_comes_11 : decode cX6_comes 11 = .ok (.iastore, 1) := by decide +kernel
theorem dX6_comes_12 : decode cX6_comes 12 = .ok (.iconst 0, 1) := by decide +kernel
theorem dX6_comes_13 : decode cX6_comes 13 = .ok (.istore_n 2, 1) := by decide +kernel
theorem dX6_comes_14 : decode cX6_comes 14 = .ok (.iload_n 2, 1) := by decide +kernel
theorem dX6_comes_15 : decode cX6_comes 15 = .ok (.aload_n 0, 1) := by decide +kernel
theorem dX6_comes_16 : decode cX6_comes 16 = .ok (.getfield 82, 3) := by decide +kernel
theorem dX6_comes_19 : decode cX6_comes 19 = .ok (.if_icmp .ge 40, 3) := by decide +kernel
theorem dX6_comes_22 : decode cX6_comes 22 = .ok (.aload_n 0, 1) := by decide +kernel
theorem dX6_comes_23 : decode cX6_comes 23 = .ok (.getfield 63, 3) := by decide +kernel
theorem dX6_comes_26 : decode cX6_comes 26 = .ok (.iload_n 2, 1) := by decide +kernel
theorem dX6_comes_27 : decode cX6_comes 27 = .ok (.aload_n 0, 1) := by decide +kernel
theorem dX6_comes_28 : decode cX6_comes 28 = .ok (.getfield 60, 3) := by decide +kernel
theorem dX6_comes_31 : decode cX6_comes 31 = .ok (.iload_n 2, 1) := by decide +kernel
theorem dX6_comes_32 : decode cX6_comes 32 = .ok (.iaload, 1) := by decide +kernel
theorem dX6_comes_33 : decode cX6_comes 33 = .ok (.aload_n 0, 1) := by decide +kernel
theorem dX6_comes_34 : decode cX6_comes 34 = .ok (.getfield 57, 3) := by decide +kernel
theorem dX6_comes_37 : decode cX6_comes 37 = .ok (.iload_n 1, 1) := by decide +kernel
theorem dX6_comes_38 : decode cX6_comes 38 = .ok (.iaload, 1) := by decide +kernel
theorem dX6_comes_39 : decode cX6_comes 39 = .ok (.if_icmp .ne 7, 3) := by decide +kernel
theorem dX6_comes_42 : decode cX6_comes 42 = .ok (.iconst 0, 1) := by decide +kernel
theorem dX6_comes_43 : decode cX6_comes 43 = .ok (.goto 9, 3) := by decide +kernel
theorem dX6_comes_46 : decode cX6_comes 46 = .ok (.aload_n 0, 1) := by decide +kernel
theorem dX6_comes_47 : decode cX6_comes 47 = .ok (.getfield 63, 3) := by decide +kernel
theorem dX6_comes_50 : decode cX6_comes 50 = .ok (.iload_n 2, 1) := by decide +kernel
theorem dX6_comes_51 : decode cX6_comes 51 = .ok (.iaload, 1) := by decide +kernel
theorem dX6_comes_52 : decode cX6_comes 52 = .ok (.iastore, 1) := by decide +kernel
theorem dX6_comes_53 : decode cX6_comes 53 = .ok (.iinc 2 1, 3) := by decide +kernel
theorem dX6_comes_56 : decode cX6_comes 56 = .ok (.goto (-42), 3) := by decide +kernel
theorem dX6_comes_59 : decode cX6_comes 59 = .ok (.return_, 1) := by decide +kernel
theorem dX6_goes_0 : decode cX6_goes 0 = .ok (.iconst 0, 1) := by decide +kernel
theorem dX6_goes_1 : decode cX6_goes 1 = .ok (.istore_n 1, 1) := by decide +kernel
theorem dX6_goes_2 : decode cX6_goes 2 = .ok (.iload_n 1, 1) := by decide +kernel
theorem dX6_goes_3 : decode cX6_goes 3 = .ok (.bipush 6, 2) := by decide +kernel
theorem dX6_goes_5 : decode cX6_goes 5 = .ok (.if_icmp .ge 32, 3) := by decide +kernel
theorem dX6_goes_8 : decode cX6_goes 8 = .ok (.aload_n 0, 1) := by decide +kernel
theorem dX6_goes_9 : decode cX6_goes 9 = .ok (.getfield 60, 3) := by decide +kernel
theorem dX6_goes_12 : decode cX6_goes 12 = .ok (.iload_n 1, 1) := by decide +kernel
theorem dX6_goes_13 : decode cX6_goes 13 = .ok (.bipush (-9), 2) := by decide +kernel
theorem dX6_goes_15 : decode cX6_goes 15 = .ok (.iastore, 1) := by decide +kernel
theorem dX6_goes_16 : decode cX6_goes 16 = .ok (.aload_n 0, 1) := by decide +kernel
theorem dX6_goes_17 : decode cX6_goes 17 = .ok (.getfield 63, 3) := by decide +kernel
theorem dX6_goes_20 : decode cX6_goes 20 = .ok (.iload_n 1, 1) := by decide +kernel
theorem dX6_goes_21 : decode cX6_goes 21 = .ok (.iconst 0, 1) := by decide +kernel
theorem dX6_goes_22 : decode cX6_goes 22 = .ok (.iastore, 1) := by decide +kernel
theorem dX6_goes_23 : decode cX6_goes 23 = .ok (.aload_n 0, 1) := by decide +kernel
theorem dX6_goes_24 : decode cX6_goes 24 = .ok (.getfield 66, 3) := by decide +kernel
theorem dX6_goes_27 : decode cX6_goes 27 = .ok (.iload_n 1, 1) := by decide +kernel
theorem dX6_goes_28 : decode cX6_goes 28 = .ok (.bipush (-9), 2) := by decide +kernel
theorem dX6_goes_30 : decode cX6_goes 30 = .ok (.iastore, 1) := by decide +kernel
theorem dX6_goes_31 : decode cX6_goes 31 = .ok (.iinc 1 1, 3) := by decide +kernel
theorem dX6_goes_34 : decode cX6_goes 34 = .ok (.goto (-32), 3) := by decide +kernel
theorem dX6_goes_37 : decode cX6_goes 37 = .ok (.aload_n 0, 1) := by decide +kernel
theorem dX6_goes_38 : decode cX6_goes 38 = .ok (.getfield 82, 3) := by decide +kernel
theorem dX6_goes_41 : decode cX6_goes 41 = .ok (.istore_n 1, 1) := by decide +kernel
theorem dX6_goes_42 : decode cX6_goes 42 = .ok (.iconst 0, 1) := by decide +kernel
theorem dX6_goes_43 : decode cX6_goes 43 = .ok (.istore_n 2, 1) := by decide +kernel
theorem dX6_goes_44 : decode cX6_goes 44 = .ok (.iconst 0, 1) := by decide +kernel
theorem dX6_goes_45 : decode cX6_goes 45 = .ok (.istore_n 3, 1) := by decide +kernel
theorem dX6_goes_46 : decode cX6_goes 46 = .ok (.iload_n 1, 1) := by decide +kernel
theorem dX6_goes_47 : decode cX6_goes 47 = .ok (.ifCond .le 169, 3) := by decide +kernel
theorem dX6_goes_50 : decode cX6_goes 50 = .ok (.iconst 0, 1) := by decide +kernel
theorem dX6_goes_51 : decode cX6_goes 51 = .ok (.istore 4, 2) := by decide +kernel
theorem dX6_goes_53 : decode cX6_goes 53 = .ok (.iload 4, 2) := by decide +kernel
theorem dX6_goes_55 : decode cX6_goes 55 = .ok (.aload_n 0, 1) := by decide +kernel
theorem dX6_goes_56 : decode cX6_goes 56 = .ok (.getfield 82, 3) := by decide +kernel
theorem dX6_goes_59 : decode cX6_goes 59 = .ok (.if_icmp .ge 94, 3) := by decide +kernel
theorem dX6_goes_62 : decode cX6_goes 62 = .ok (.aload_n 0, 1) := by decide +kernel
theorem dX6_goes_63 : decode cX6_goes 63 = .ok (.getfield 63, 3) := by decide +kernel
theorem dX6_goes_66 : decode cX6_goes 66 = .ok (.iload 4, 2) := by decide +kernel
theorem dX6_goes_68 : decode cX6_goes 68 = .ok (.dup2, 1) := by decide +kernel
theorem dX6_goes_69 : decode cX6_goes 69 = .ok (.iaload, 1) := by decide +kernel
theorem dX6_goes_70 : decode cX6_goes 70 = .ok (.aload_n 0, 1) := by decide +kernel
theorem dX6_goes_71 : decode cX6_goes 71 = .ok (.getfield 60, 3) := by decide +kernel
theorem dX6_goes_74 : decode cX6_goes 74 = .ok (.iload 4, 2) := by decide +kernel
theorem dX6_goes_76 : decode cX6_goes 76 = .ok (.iaload, 1) := by decide +kernel
theorem dX6_goes_77 : decode cX6_goes 77 = .ok (.bipush (-9), 2) := by decide +kernel
theorem dX6_goes_79 : decode cX6_goes 79 = .ok (.if_icmp .eq 7, 3) := by decide +kernel
theorem dX6_goes_82 : decode cX6_goes 82 = .ok (.iload_n 3, 1) := by decide +kernel
theorem dX6_goes_83 : decode cX6_goes 83 = .ok (.ifCond .ne 7, 3) := by decide +kernel
theorem dX6_goes_86 : decode cX6_goes 86 = .ok (.iconst 0, 1) := by decide +kernel
theorem dX6_goes_87 : decode cX6_goes 87 = .ok (.goto 4, 3) := by decide +kernel
theorem dX6_goes_90 : decode cX6_goes 90 = .ok (.iconst 1, 1) := by decide +kernel
theorem dX6_goes_91 : decode cX6_goes 91 = .ok (.iadd, 1) := by decide +kernel
theorem dX6_goes_92 : decode cX6_goes 92 = .ok (.iastore, 1) := by decide +kernel
theorem dX6_goes_93 : decode cX6_goes 93 = .ok (.aload_n 0, 1) := by decide +kernel
theorem dX6_goes_94 : decode cX6_goes 94 = .ok (.getfield 60, 3) := by decide +kernel
theorem dX6_goes_97 : decode cX6_goes 97 = .ok (.iload 4, 2) := by decide +kernel
theorem dX6_goes_99 : decode cX6_goes 99 = .ok (.iaload, 1) := by decide +kernel
theorem dX6_goes_100 : decode cX6_goes 100 = .ok (.bipush (-9), 2) := by decide +kernel
theorem dX6_goes_102 : decode cX6_goes 102 = .ok (.if_icmp .eq 45, 3) := by decide +kernel
theorem dX6_goes_105 : decode cX6_goes 105 = .ok (.aload_n 0, 1) := by decide +kernel
theorem dX6_goes_106 : decode cX6_goes 106 = .ok (.getfield 63, 3) := by decide +kernel
theorem dX6_goes_109 : decode cX6_goes 109 = .ok (.iload 4, 2) := by decide +kernel
theorem dX6_goes_111 : decode cX6_goes 111 = .ok (.iaload, 1) := by decide +kernel
theorem dX6_goes_112 : decode cX6_goes 112 = .ok (.aload_n 0, 1) := by decide +kernel
theorem dX6_goes_113 : decode cX6_goes 113 = .ok (.getfield 7, 3) := by decide +kernel
theorem dX6_goes_116 : decode cX6_goes 116 = .ok (.if_icmp .lt 31, 3) := by decide +kernel
theorem dX6_goes_119 : decode cX6_goes 119 = .ok (.aload_n 0, 1) := by decide +kernel
theorem dX6_goes_120 : decode cX6_goes 120 = .ok (.iload_n 3, 1) := by decide +kernel
theorem dX6_goes_121 : decode cX6_goes 121 = .ok (.invokevirtual 175, 3) := by decide +kernel
theorem dX6_goes_124 : decode cX6_goes 124 = .ok (.ifCond .eq 23, 3) := by decide +kernel
theorem dX6_goes_127 : decode cX6_goes 127 = .ok (.aload_n 0, 1) := by decide +kernel
theorem dX6_goes_128 : decode cX6_goes 128 = .ok (.getfield 66, 3) := by decide +kernel
theorem dX6_goes_131 : decode cX6_goes 131 = .ok (.iload 4, 2) := by decide +kernel
theorem dX6_goes_133 : decode cX6_goes 133 = .ok (.iload_n 3, 1) := by decide +kernel
theorem dX6_goes_134 : decode cX6_goes 134 = .ok (.iastore, 1) := by decide +kernel
theorem dX6_goes_135 : decode cX6_goes 135 = .ok (.aload_n 0, 1) := by decide +kernel
theorem dX6_goes_136 : decode cX6_goes 136 = .ok (.getfield 60, 3) := by decide +kernel
theorem dX6_goes_139 : decode cX6_goes 139 = .ok (.iload 4, 2) := by decide +kernel
theorem dX6_goes_141 : decode cX6_goes 141 = .ok (.bipush (-9), 2) := by decide +kernel
theorem dX6_goes_143 : decode cX6_goes 143 = .ok (.iastore, 1) := by decide +kernel
theorem dX6_goes_144 : decode cX6_goes 144 = .ok (.iinc 1 (-1), 3) := by decide +kernel
theorem dX6_goes_147 : decode cX6_goes 147 = .ok (.iinc 4 1, 3) := by decide +kernel
theorem dX6_goes_150 : decode cX6_goes 150 = .ok (.goto (-97), 3) := by decide +kernel
theorem dX6_goes_153 : decode cX6_goes 153 = .ok (.iconst 0, 1) := by decide +kernel
theorem dX6_goes_154 : decode cX6_goes 154 = .ok (.istore 4, 2) := by decide +kernel
theorem dX6_goes_156 : decode cX6_goes 156 = .ok (.iload 4, 2) := by decide +kernel
theorem dX6_goes_158 : decode cX6_goes 158 = .ok (.aload_n 0, 1) := by decide +kernel
theorem dX6_goes_159 : decode cX6_goes 159 = .ok (.getfield 82, 3) := by decide +kernel
theorem dX6_goes_162 : decode cX6_goes 162 = .ok (.if_icmp .ge 28, 3) := by decide +kernel
theorem dX6_goes_165 : decode cX6_goes 165 = .ok (.aload_n 0, 1) := by decide +kernel
theorem dX6_goes_166 : decode cX6_goes 166 = .ok (.getfield 19, 3) := by decide +kernel
theorem dX6_goes_169 : decode cX6_goes 169 = .ok (.iconst 2, 1) := by decide +kernel
theorem dX6_goes_170 : decode cX6_goes 170 = .ok (.iload 4, 2) := by decide +kernel
theorem dX6_goes_172 : decode cX6_goes 172 = .ok (.imul, 1) := by decide +kernel
theorem dX6_goes_173 : decode cX6_goes 173 = .ok (.iaload, 1) := by decide +kernel
theorem dX6_goes_174 : decode cX6_goes 174 = .ok (.iload_n 3, 1) := by decide +kernel
theorem dX6_goes_175 : decode cX6_goes 175 = .ok (.if_icmp .ne 9, 3) := by decide +kernel
theorem dX6_goes_178 : decode cX6_goes 178 = .ok (.aload_n 0, 1) := by decide +kernel
theorem dX6_goes_179 : decode cX6_goes 179 = .ok (.iload 4, 2) := by decide +kernel
theorem dX6_goes_181 : decode cX6_goes 181 = .ok (.invokevirtual 191, 3) := by decide +kernel
theorem dX6_goes_184 : decode cX6_goes 184 = .ok (.iinc 4 1, 3) := by decide +kernel
theorem dX6_goes_187 : decode cX6_goes 187 = .ok (.goto (-31), 3) := by decide +kernel
theorem dX6_goes_190 : decode cX6_goes 190 = .ok (.iload_n 2, 1) := by decide +kernel
theorem dX6_goes_191 : decode cX6_goes 191 = .ok (.iload_n 1, 1) := by decide +kernel
theorem dX6_goes_192 : decode cX6_goes 192 = .ok (.ifCond .le 15, 3) := by decide +kernel
theorem dX6_goes_195 : decode cX6_goes 195 = .ok (.aload_n 0, 1) := by decide +kernel
theorem dX6_goes_196 : decode cX6_goes 196 = .ok (.aload_n 0, 1) := by decide +kernel
theorem dX6_goes_197 : decode cX6_goes 197 = .ok (.getfield 60, 3) := by decide +kernel
theorem dX6_goes_200 : decode cX6_goes 200 = .ok (.iconst 0, 1) := by decide +kernel
theorem dX6_goes_201 : decode cX6_goes 201 = .ok (.invokevirtual 184, 3) := by decide +kernel
theorem dX6_goes_204 : decode cX6_goes 204 = .ok (.goto 4, 3) := by decide +kernel
theorem dX6_goes_207 : decode cX6_goes 207 = .ok (.iconst 0, 1) := by decide +kernel
theorem dX6_goes_208 : decode cX6_goes 208 = .ok (.iadd, 1) := by decide +kernel
theorem dX6_goes_209 : decode cX6_goes 209 = .ok (.istore_n 2, 1) := by decide +kernel
theorem dX6_goes_210 : decode cX6_goes 210 = .ok (.iinc 3 1, 3) := by decide +kernel
theorem dX6_goes_213 : decode cX6_goes 213 = .ok (.goto (-167), 3) := by decide +kernel
theorem dX6_goes_216 : decode cX6_goes 216 = .ok (.iload_n 2, 1) := by decide +kernel
theorem dX6_goes_217 : decode cX6_goes 217 = .ok (.ireturn, 1) := by decide +kernel
theorem dX6_power_0 : decode cX6_power 0 = .ok (.iconst 1, 1) := by decide +kernel
theorem dX6_power_1 : decode cX6_power 1 = .ok (.istore_n 3, 1) := by decide +kernel
theorem dX6_power_2 : decode cX6_power 2 = .ok (.iconst 0, 1) := by decide +kernel
theorem dX6_power_3 : decode cX6_power 3 = .ok (.istore 4, 2) := by decide +kernel
theorem dX6_power_5 : decode cX6_power 5 = .ok (.iload 4, 2) := by decide +kernel
theorem dX6_power_7 : decode cX6_power 7 = .ok (.iload_n 2, 1) := by decide +kernel
theorem dX6_power_8 : decode cX6_power 8 = .ok (.if_icmp .ge 13, 3) := by decide +kernel
theorem dX6_power_11 : decode cX6_power 11 = .ok (.iload_n 3, 1) := by decide +kernel
theorem dX6_power_12 : decode cX6_power 12 = .ok (.iload_n 1, 1) := by decide +kernel
theorem dX6_power_13 : decode cX6_power 13 = .ok (.imul, 1) := by decide +kernel
theorem dX6_power_14 : decode cX6_power 14 = .ok (.istore_n 3, 1) := by decide +kernel
theorem dX6_power_15 : decode cX6_power 15 = .ok (.iinc 4 1, 3) := by decide +kernel
theorem dX6_power_18 : decode cX6_power 18 = .ok (.goto (-13), 3) := by decide +kernel
theorem dX6_power_21 : decode cX6_power 21 = .ok (.iload_n 3, 1) := by decide +kernel
theorem dX6_power_22 : decode cX6_power 22 = .ok (.ireturn, 1) := by decide +kernel
theorem dX6_lays_0 : decode cX6_lays 0 = .ok (.iload_n 1, 1) := by decide +kernel
theorem dX6_lays_1 : decode cX6_lays 1 = .ok (.istore_n 2, 1) := by decide +kernel
theorem dX6_lays_2 : decode cX6_lays 2 = .ok (.aload_n 0, 1) := by decide +kernel
theorem dX6_lays_3 : decode cX6_lays 3 = .ok (.getfield 82, 3) := by decide +kernel
theorem dX6_lays_6 : decode cX6_lays 6 = .ok (.iconst 1, 1) := by decide +kernel
theorem dX6_lays_7 : decode cX6_lays 7 = .ok (.isub, 1) := by decide +kernel
theorem dX6_lays_8 : decode cX6_lays 8 = .ok (.istore_n 3, 1) := by decide +kernel
theorem dX6_lays_9 : decode cX6_lays 9 = .ok (.iload_n 3, 1) := by decide +kernel
theorem dX6_lays_10 : decode cX6_lays 10 = .ok (.ifCond .lt 28, 3) := by decide +kernel
theorem dX6_lays_13 : decode cX6_lays 13 = .ok (.aload_n 0, 1) := by decide +kernel
theorem dX6_lays_14 : decode cX6_lays 14 = .ok (.getfield 57, 3) := by decide +kernel
theorem dX6_lays_17 : decode cX6_lays 17 = .ok (.iload_n 3, 1) := by decide +kernel
theorem dX6_lays_18 : decode cX6_lays 18 = .ok (.iload_n 2, 1) := by decide +kernel
theorem dX6_lays_19 : decode cX6_lays 19 = .ok (.aload_n 0, 1) := by decide +kernel
theorem dX6_lays_20 : decode cX6_lays 20 = .ok (.getfield 13, 3) := by decide +kernel
theorem dX6_lays_23 : decode cX6_lays 23 = .ok (.irem, 1) := by decide +kernel
theorem dX6_lays_24 : decode cX6_lays 24 = .ok (.iastore, 1) := by decide +kernel
theorem dX6_lays_25 : decode cX6_lays 25 = .ok (.iload_n 2, 1) := by decide +kernel
theorem dX6_lays_26 : decode cX6_lays 26 = .ok (.aload_n 0, 1) := by decide +kernel
theorem dX6_lays_27 : decode cX6_lays 27 = .ok (.getfield 13, 3) := by decide +kernel
theorem dX6_lays_30 : decode cX6_lays 30 = .ok (.idiv, 1) := by decide +kernel
theorem dX6_lays_31 : decode cX6_lays 31 = .ok (.istore_n 2, 1) := by decide +kernel
theorem dX6_lays_32 : decode cX6_lays 32 = .ok (.iinc 3 (-1), 3) := by decide +kernel
theorem dX6_lays_35 : decode cX6_lays 35 = .ok (.goto (-26), 3) := by decide +kernel
theorem dX6_lays_38 : decode cX6_lays 38 = .ok (.return_, 1) := by decide +kernel
theorem dX6_sailedBy_0 : decode cX6_sailedBy 0 = .ok (.iconst 0, 1) := by decide +kernel
theorem dX6_sailedBy_1 : decode cX6_sailedBy 1 = .ok (.istore_n 2, 1) := by decide +kernel
theorem dX6_sailedBy_2 : decode cX6_sailedBy 2 = .ok (.iconst 0, 1) := by decide +kernel
theorem dX6_sailedBy_3 : decode cX6_sailedBy 3 = .ok (.istore_n 3, 1) := by decide +kernel
theorem dX6_sailedBy_4 : decode cX6_sailedBy 4 = .ok (.iload_n 3, 1) := by decide +kernel
theorem dX6_sailedBy_5 : decode cX6_sailedBy 5 = .ok (.aload_n 0, 1) := by decide +kernel
theorem dX6_sailedBy_6 : decode cX6_sailedBy 6 = .ok (.getfield 82, 3) := by decide +kernel
theorem dX6_sailedBy_9 : decode cX6_sailedBy 9 = .ok (.if_icmp .ge 27, 3) := by decide +kernel
theorem dX6_sailedBy_12 : decode cX6_sailedBy 12 = .ok (.iload_n 2, 1) := by decide +kernel
theorem dX6_sailedBy_13 : decode cX6_sailedBy 13 = .ok (.aload_n 0, 1) := by decide +kernel
theorem dX6_sailedBy_14 : decode cX6_sailedBy 14 = .ok (.getfield 66, 3) := by decide +kernel
theorem dX6_sailedBy_17 : decode cX6_sailedBy 17 = .ok (.iload_n 3, 1) := by decide +kernel
theorem dX6_sailedBy_18 : decode cX6_sailedBy 18 = .ok (.iaload, 1) := by decide +kernel
theorem dX6_sailedBy_19 : decode cX6_sailedBy 19 = .ok (.iload_n 1, 1) := by decide +kernel
theorem dX6_sailedBy_20 : decode cX6_sailedBy 20 = .ok (.if_icmp .gt 7, 3) := by decide +kernel
theorem dX6_sailedBy_23 : decode cX6_sailedBy 23 = .ok (.iconst 1, 1) := by decide +kernel
theorem dX6_sailedBy_24 : decode cX6_sailedBy 24 = .ok (.goto 4, 3) := by decide +kernel
theorem dX6_sailedBy_27 : decode cX6_sailedBy 27 = .ok (.iconst 0, 1) := by decide +kernel
theorem dX6_sailedBy_28 : decode cX6_sailedBy 28 = .ok (.iadd, 1) := by decide +kernel
theorem dX6_sailedBy_29 : decode cX6_sailedBy 29 = .ok (.istore_n 2, 1) := by decide +kernel
theorem dX6_sailedBy_30 : decode cX6_sailedBy 30 = .ok (.iinc 3 1, 3) := by decide +kernel
theorem dX6_sailedBy_33 : decode cX6_sailedBy 33 = .ok (.goto (-29), 3) := by decide +kernel
theorem dX6_sailedBy_36 : decode cX6_sailedBy 36 = .ok (.iload_n 2, 1) := by decide +kernel
theorem dX6_sailedBy_37 : decode cX6_sailedBy 37 = .ok (.ireturn, 1) := by decide +kernel
theorem dX6_most_0 : decode cX6_most 0 = .ok (.iload_n 1, 1) := by decide +kernel
theorem dX6_most_1 : decode cX6_most 1 = .ok (.iconst 0, 1) := by decide +kernel
theorem dX6_most_2 : decode cX6_most 2 = .ok (.sipush 200, 3) := by decide +kernel
theorem dX6_most_5 : decode cX6_most 5 = .ok (.invokestatic 85, 3) := by decide +kernel
theorem dX6_most_8 : decode cX6_most 8 = .ok (.ifCond .eq 17, 3) := by decide +kernel
theorem dX6_most_11 : decode cX6_most 11 = .ok (.iload_n 2, 1) := by decide +kernel
theorem dX6_most_12 : decode cX6_most 12 = .ok (.bipush (-9), 2) := by decide +kernel
theorem dX6_most_14 : decode cX6_most 14 = .ok (.if_icmp .eq 13, 3) := by decide +kernel
theorem dX6_most_17 : decode cX6_most 17 = .ok (.aload_n 0, 1) := by decide +kernel
theorem dX6_most_18 : decode cX6_most 18 = .ok (.iload_n 2, 1) := by decide +kernel
theorem dX6_most_19 : decode cX6_most 19 = .ok (.invokevirtual 158, 3) := by decide +kernel
theorem dX6_most_22 : decode cX6_most 22 = .ok (.ifCond .ne 5, 3) := by decide +kernel
theorem dX6_most_25 : decode cX6_most 25 = .ok (.iconst (-1), 1) := by decide +kernel
theorem dX6_most_26 : decode cX6_most 26 = .ok (.ireturn, 1) := by decide +kernel
theorem dX6_most_27 : decode cX6_most 27 = .ok (.iconst 0, 1) := by decide +kernel
theorem dX6_most_28 : decode cX6_most 28 = .ok (.istore_n 3, 1) := by decide +kernel
theorem dX6_most_29 : decode cX6_most 29 = .ok (.iconst (-1), 1) := by decide +kernel
theorem dX6_most_30 : decode cX6_most 30 = .ok (.istore 4, 2) := by decide +kernel
theorem dX6_most_32 : decode cX6_most 32 = .ok (.iconst 0, 1) := by decide +kernel
theorem dX6_most_33 : decode cX6_most 33 = .ok (.istore 5, 2) := by decide +kernel
theorem dX6_most_35 : decode cX6_most 35 = .ok (.iload 5, 2) := by decide +kernel
theorem dX6_most_37 : decode cX6_most 37 = .ok (.aload_n 0, 1) := by decide +kernel
theorem dX6_most_38 : decode cX6_most 38 = .ok (.aload_n 0, 1) := by decide +kernel
theorem dX6_most_39 : decode cX6_most 39 = .ok (.getfield 13, 3) := by decide +kernel
theorem dX6_most_42 : decode cX6_most 42 = .ok (.aload_n 0, 1) := by decide +kernel
theorem dX6_most_43 : decode cX6_most 43 = .ok (.getfield 82, 3) := by decide +kernel
theorem dX6_most_46 : decode cX6_most 46 = .ok (.invokevirtual 195, 3) := by decide +kernel
theorem dX6_most_49 : decode cX6_most 49 = .ok (.if_icmp .ge 59, 3) := by decide +kernel
theorem dX6_most_52 : decode cX6_most 52 = .ok (.aload_n 0, 1) := by decide +kernel
theorem dX6_most_53 : decode cX6_most 53 = .ok (.iload 5, 2) := by decide +kernel
theorem dX6_most_55 : decode cX6_most 55 = .ok (.invokevirtual 199, 3) := by decide +kernel
theorem dX6_most_58 : decode cX6_most 58 = .ok (.aload_n 0, 1) := by decide +kernel
theorem dX6_most_59 : decode cX6_most 59 = .ok (.invokevirtual 202, 3) := by decide +kernel
theorem dX6_most_62 : decode cX6_most 62 = .ok (.pop, 1) := by decide +kernel
theorem dX6_most_63 : decode cX6_most 63 = .ok (.aload_n 0, 1) := by decide +kernel
theorem dX6_most_64 : decode cX6_most 64 = .ok (.iload_n 1, 1) := by decide +kernel
theorem dX6_most_65 : decode cX6_most 65 = .ok (.invokevirtual 205, 3) := by decide +kernel
theorem dX6_most_68 : decode cX6_most 68 = .ok (.iload 4, 2) := by decide +kernel
theorem dX6_most_70 : decode cX6_most 70 = .ok (.if_icmp .le 8, 3) := by decide +kernel
theorem dX6_most_73 : decode cX6_most 73 = .ok (.iload 5, 2) := by decide +kernel
theorem dX6_most_75 : decode cX6_most 75 = .ok (.goto 4, 3) := by decide +kernel
theorem dX6_most_78 : decode cX6_most 78 = .ok (.iload_n 3, 1) := by decide +kernel
theorem dX6_most_79 : decode cX6_most 79 = .ok (.istore_n 3, 1) := by decide +kernel
theorem dX6_most_80 : decode cX6_most 80 = .ok (.aload_n 0, 1) := by decide +kernel
theorem dX6_most_81 : decode cX6_most 81 = .ok (.iload_n 1, 1) := by decide +kernel
theorem dX6_most_82 : decode cX6_most 82 = .ok (.invokevirtual 205, 3) := by decide +kernel
theorem dX6_most_85 : decode cX6_most 85 = .ok (.iload 4, 2) := by decide +kernel
theorem dX6_most_87 : decode cX6_most 87 = .ok (.if_icmp .le 11, 3) := by decide +kernel
theorem dX6_most_90 : decode cX6_most 90 = .ok (.aload_n 0, 1) := by decide +kernel
theorem dX6_most_91 : decode cX6_most 91 = .ok (.iload_n 1, 1) := by decide +kernel
theorem dX6_most_92 : decode cX6_most 92 = .ok (.invokevirtual 205, 3) := by decide +kernel
theorem dX6_most_95 : decode cX6_most 95 = .ok (.goto 5, 3) := by decide +kernel
theorem dX6_most_98 : decode cX6_most 98 = .ok (.iload 4, 2) := by decide +kernel
theorem dX6_most_100 : decode cX6_most 100 = .ok (.istore 4, 2) := by decide +kernel
theorem dX6_most_102 : decode cX6_most 102 = .ok (.iinc 5 1, 3) := by decide +kernel
theorem dX6_most_105 : decode cX6_most 105 = .ok (.goto (-70), 3) := by decide +kernel
theorem dX6_most_108 : decode cX6_most 108 = .ok (.aload_n 0, 1) := by decide +kernel
theorem dX6_most_109 : decode cX6_most 109 = .ok (.iload_n 3, 1) := by decide +kernel
theorem dX6_most_110 : decode cX6_most 110 = .ok (.invokevirtual 199, 3) := by decide +kernel
theorem dX6_most_113 : decode cX6_most 113 = .ok (.iload_n 2, 1) := by decide +kernel
theorem dX6_most_114 : decode cX6_most 114 = .ok (.bipush (-9), 2) := by decide +kernel
theorem dX6_most_116 : decode cX6_most 116 = .ok (.if_icmp .ne 8, 3) := by decide +kernel
theorem dX6_most_119 : decode cX6_most 119 = .ok (.iload 4, 2) := by decide +kernel
theorem dX6_most_121 : decode cX6_most 121 = .ok (.goto 9, 3) := by decide +kernel
theorem dX6_most_124 : decode cX6_most 124 = .ok (.aload_n 0, 1) := by decide +kernel
theorem dX6_most_125 : decode cX6_most 125 = .ok (.getfield 57, 3) := by decide +kernel
theorem dX6_most_128 : decode cX6_most 128 = .ok (.iload_n 2, 1) := by decide +kernel
theorem dX6_most_129 : decode cX6_most 129 = .ok (.iaload, 1) := by decide +kernel
theorem dX6_most_130 : decode cX6_most 130 = .ok (.ireturn, 1) := by decide +kernel
theorem dX6_late_0 : decode cX6_late 0 = .ok (.iconst 0, 1) := by decide +kernel
theorem dX6_late_1 : decode cX6_late 1 = .ok (.istore_n 1, 1) := by decide +kernel
theorem dX6_late_2 : decode cX6_late 2 = .ok (.iconst 0, 1) := by decide +kernel
theorem dX6_late_3 : decode cX6_late 3 = .ok (.istore_n 2, 1) := by decide +kernel
theorem dX6_late_4 : decode cX6_late 4 = .ok (.iconst 0, 1) := by decide +kernel
theorem dX6_late_5 : decode cX6_late 5 = .ok (.istore_n 3, 1) := by decide +kernel
theorem dX6_late_6 : decode cX6_late 6 = .ok (.iload_n 3, 1) := by decide +kernel
theorem dX6_late_7 : decode cX6_late 7 = .ok (.aload_n 0, 1) := by decide +kernel
theorem dX6_late_8 : decode cX6_late 8 = .ok (.getfield 82, 3) := by decide +kernel
theorem dX6_late_11 : decode cX6_late 11 = .ok (.if_icmp .ge 39, 3) := by decide +kernel
theorem dX6_late_14 : decode cX6_late 14 = .ok (.aload_n 0, 1) := by decide +kernel
theorem dX6_late_15 : decode cX6_late 15 = .ok (.getfield 66, 3) := by decide +kernel
theorem dX6_late_18 : decode cX6_late 18 = .ok (.iload_n 3, 1) := by decide +kernel
theorem dX6_late_19 : decode cX6_late 19 = .ok (.iaload, 1) := by decide +kernel
theorem dX6_late_20 : decode cX6_late 20 = .ok (.iload_n 1, 1) := by decide +kernel
theorem dX6_late_21 : decode cX6_late 21 = .ok (.if_icmp .le 12, 3) := by decide +kernel
theorem dX6_late_24 : decode cX6_late 24 = .ok (.aload_n 0, 1) := by decide +kernel
theorem dX6_late_25 : decode cX6_late 25 = .ok (.getfield 66, 3) := by decide +kernel
theorem dX6_late_28 : decode cX6_late 28 = .ok (.iload_n 3, 1) := by decide +kernel
theorem dX6_late_29 : decode cX6_late 29 = .ok (.iaload, 1) := by decide +kernel
theorem dX6_late_30 : decode cX6_late 30 = .ok (.goto 4, 3) := by decide +kernel
theorem dX6_late_33 : decode cX6_late 33 = .ok (.iload_n 1, 1) := by decide +kernel
theorem dX6_late_34 : decode cX6_late 34 = .ok (.istore_n 1, 1) := by decide +kernel
theorem dX6_late_35 : decode cX6_late 35 = .ok (.iload_n 2, 1) := by decide +kernel
theorem dX6_late_36 : decode cX6_late 36 = .ok (.aload_n 0, 1) := by decide +kernel
theorem dX6_late_37 : decode cX6_late 37 = .ok (.getfield 66, 3) := by decide +kernel
theorem dX6_late_40 : decode cX6_late 40 = .ok (.iload_n 3, 1) := by decide +kernel
theorem dX6_late_41 : decode cX6_late 41 = .ok (.iaload, 1) := by decide +kernel
theorem dX6_late_42 : decode cX6_late 42 = .ok (.iadd, 1) := by decide +kernel
theorem dX6_late_43 : decode cX6_late 43 = .ok (.istore_n 2, 1) := by decide +kernel
theorem dX6_late_44 : decode cX6_late 44 = .ok (.iinc 3 1, 3) := by decide +kernel
theorem dX6_late_47 : decode cX6_late 47 = .ok (.goto (-41), 3) := by decide +kernel
theorem dX6_late_50 : decode cX6_late 50 = .ok (.sipush 10000, 3) := by decide +kernel
theorem dX6_late_53 : decode cX6_late 53 = .ok (.iload_n 1, 1) := by decide +kernel
theorem dX6_late_54 : decode cX6_late 54 = .ok (.imul, 1) := by decide +kernel
theorem dX6_late_55 : decode cX6_late 55 = .ok (.iload_n 2, 1) := by decide +kernel
theorem dX6_late_56 : decode cX6_late 56 = .ok (.iadd, 1) := by decide +kernel
theorem dX6_late_57 : decode cX6_late 57 = .ok (.ireturn, 1) := by decide +kernel
theorem dX6_soonest_0 : decode cX6_soonest 0 = .ok (.iload_n 1, 1) := by decide +kernel
theorem dX6_soonest_1 : decode cX6_soonest 1 = .ok (.bipush (-9), 2) := by decide +kernel
theorem dX6_soonest_3 : decode cX6_soonest 3 = .ok (.if_icmp .eq 13, 3) := by decide +kernel
theorem dX6_soonest_6 : decode cX6_soonest 6 = .ok (.aload_n 0, 1) := by decide +kernel
theorem dX6_soonest_7 : decode cX6_soonest 7 = .ok (.iload_n 1, 1) := by decide +kernel
theorem dX6_soonest_8 : decode cX6_soonest 8 = .ok (.invokevirtual 158, 3) := by decide +kernel
theorem dX6_soonest_11 : decode cX6_soonest 11 = .ok (.ifCond .ne 5, 3) := by decide +kernel
theorem dX6_soonest_14 : decode cX6_soonest 14 = .ok (.iconst (-1), 1) := by decide +kernel
theorem dX6_soonest_15 : decode cX6_soonest 15 = .ok (.ireturn, 1) := by decide +kernel
theorem dX6_soonest_16 : decode cX6_soonest 16 = .ok (.iconst 0, 1) := by decide +kernel
theorem dX6_soonest_17 : decode cX6_soonest 17 = .ok (.istore_n 2, 1) := by decide +kernel
theorem dX6_soonest_18 : decode cX6_soonest 18 = .ok (.ldc 208, 2) := by decide +kernel
theorem dX6_soonest_20 : decode cX6_soonest 20 = .ok (.istore_n 3, 1) := by decide +kernel
theorem dX6_soonest_21 : decode cX6_soonest 21 = .ok (.iconst 0, 1) := by decide +kernel
theorem dX6_soonest_22 : decode cX6_soonest 22 = .ok (.istore 4, 2) := by decide +kernel
theorem dX6_soonest_24 : decode cX6_soonest 24 = .ok (.iload 4, 2) := by decide +kernel
theorem dX6_soonest_26 : decode cX6_soonest 26 = .ok (.aload_n 0, 1) := by decide +kernel
theorem dX6_soonest_27 : decode cX6_soonest 27 = .ok (.aload_n 0, 1) := by decide +kernel
theorem dX6_soonest_28 : decode cX6_soonest 28 = .ok (.getfield 13, 3) := by decide +kernel
theorem dX6_soonest_31 : decode cX6_soonest 31 = .ok (.aload_n 0, 1) := by decide +kernel
theorem dX6_soonest_32 : decode cX6_soonest 32 = .ok (.getfield 82, 3) := by decide +kernel
theorem dX6_soonest_35 : decode cX6_soonest 35 = .ok (.invokevirtual 195, 3) := by decide +kernel
theorem dX6_soonest_38 : decode cX6_soonest 38 = .ok (.if_icmp .ge 52, 3) := by decide +kernel
theorem dX6_soonest_41 : decode cX6_soonest 41 = .ok (.aload_n 0, 1) := by decide +kernel
theorem dX6_soonest_42 : decode cX6_soonest 42 = .ok (.iload 4, 2) := by decide +kernel
theorem dX6_soonest_44 : decode cX6_soonest 44 = .ok (.invokevirtual 199, 3) := by decide +kernel
theorem dX6_soonest_47 : decode cX6_soonest 47 = .ok (.aload_n 0, 1) := by decide +kernel
theorem dX6_soonest_48 : decode cX6_soonest 48 = .ok (.invokevirtual 202, 3) := by decide +kernel
theorem dX6_soonest_51 : decode cX6_soonest 51 = .ok (.pop, 1) := by decide +kernel
theorem dX6_soonest_52 : decode cX6_soonest 52 = .ok (.aload_n 0, 1) := by decide +kernel
theorem dX6_soonest_53 : decode cX6_soonest 53 = .ok (.invokevirtual 209, 3) := by decide +kernel
theorem dX6_soonest_56 : decode cX6_soonest 56 = .ok (.iload_n 3, 1) := by decide +kernel
theorem dX6_soonest_57 : decode cX6_soonest 57 = .ok (.if_icmp .ge 8, 3) := by decide +kernel
theorem dX6_soonest_60 : decode cX6_soonest 60 = .ok (.iload 4, 2) := by decide +kernel
theorem dX6_soonest_62 : decode cX6_soonest 62 = .ok (.goto 4, 3) := by decide +kernel
theorem dX6_soonest_65 : decode cX6_soonest 65 = .ok (.iload_n 2, 1) := by decide +kernel
theorem dX6_soonest_66 : decode cX6_soonest 66 = .ok (.istore_n 2, 1) := by decide +kernel
theorem dX6_soonest_67 : decode cX6_soonest 67 = .ok (.aload_n 0, 1) := by decide +kernel
theorem dX6_soonest_68 : decode cX6_soonest 68 = .ok (.invokevirtual 209, 3) := by decide +kernel
theorem dX6_soonest_71 : decode cX6_soonest 71 = .ok (.iload_n 3, 1) := by decide +kernel
theorem dX6_soonest_72 : decode cX6_soonest 72 = .ok (.if_icmp .ge 10, 3) := by decide +kernel
theorem dX6_soonest_75 : decode cX6_soonest 75 = .ok (.aload_n 0, 1) := by decide +kernel
theorem dX6_soonest_76 : decode cX6_soonest 76 = .ok (.invokevirtual 209, 3) := by decide +kernel
theorem dX6_soonest_79 : decode cX6_soonest 79 = .ok (.goto 4, 3) := by decide +kernel
theorem dX6_soonest_82 : decode cX6_soonest 82 = .ok (.iload_n 3, 1) := by decide +kernel
theorem dX6_soonest_83 : decode cX6_soonest 83 = .ok (.istore_n 3, 1) := by decide +kernel
theorem dX6_soonest_84 : decode cX6_soonest 84 = .ok (.iinc 4 1, 3) := by decide +kernel
theorem dX6_soonest_87 : decode cX6_soonest 87 = .ok (.goto (-63), 3) := by decide +kernel
theorem dX6_soonest_90 : decode cX6_soonest 90 = .ok (.aload_n 0, 1) := by decide +kernel
theorem dX6_soonest_91 : decode cX6_soonest 91 = .ok (.iload_n 2, 1) := by decide +kernel
theorem dX6_soonest_92 : decode cX6_soonest 92 = .ok (.invokevirtual 199, 3) := by decide +kernel
theorem dX6_soonest_95 : decode cX6_soonest 95 = .ok (.iload_n 1, 1) := by decide +kernel
theorem dX6_soonest_96 : decode cX6_soonest 96 = .ok (.bipush (-9), 2) := by decide +kernel
theorem dX6_soonest_98 : decode cX6_soonest 98 = .ok (.if_icmp .ne 11, 3) := by decide +kernel
theorem dX6_soonest_101 : decode cX6_soonest 101 = .ok (.iload_n 3, 1) := by decide +kernel
theorem dX6_soonest_102 : decode cX6_soonest 102 = .ok (.sipush 10000, 3) := by decide +kernel
theorem dX6_soonest_105 : decode cX6_soonest 105 = .ok (.idiv, 1) := by decide +kernel
theorem dX6_soonest_106 : decode cX6_soonest 106 = .ok (.goto 9, 3) := by decide +kernel
theorem dX6_soonest_109 : decode cX6_soonest 109 = .ok (.aload_n 0, 1) := by decide +kernel
theorem dX6_soonest_110 : decode cX6_soonest 110 = .ok (.getfield 57, 3) := by decide +kernel
theorem dX6_soonest_113 : decode cX6_soonest 113 = .ok (.iload_n 1, 1) := by decide +kernel
theorem dX6_soonest_114 : decode cX6_soonest 114 = .ok (.iaload, 1) := by decide +kernel
theorem dX6_soonest_115 : decode cX6_soonest 115 = .ok (.ireturn, 1) := by decide +kernel
theorem dX6_plan_0 : decode cX6_plan 0 = .ok (.iload_n 2, 1) := by decide +kernel
theorem dX6_plan_1 : decode cX6_plan 1 = .ok (.bipush (-9), 2) := by decide +kernel
theorem dX6_plan_3 : decode cX6_plan 3 = .ok (.if_icmp .eq 11, 3) := by decide +kernel
theorem dX6_plan_6 : decode cX6_plan 6 = .ok (.aload_n 0, 1) := by decide +kernel
theorem dX6_plan_7 : decode cX6_plan 7 = .ok (.iload_n 2, 1) := by decide +kernel
theorem dX6_plan_8 : decode cX6_plan 8 = .ok (.invokevirtual 158, 3) := by decide +kernel
theorem dX6_plan_11 : decode cX6_plan 11 = .ok (.ifCond .eq 23, 3) := by decide +kernel
theorem dX6_plan_14 : decode cX6_plan 14 = .ok (.iload_n 1, 1) := by decide +kernel
theorem dX6_plan_15 : decode cX6_plan 15 = .ok (.iconst 0, 1) := by decide +kernel
theorem dX6_plan_16 : decode cX6_plan 16 = .ok (.aload_n 0, 1) := by decide +kernel
theorem dX6_plan_17 : decode cX6_plan 17 = .ok (.bipush 10, 2) := by decide +kernel
theorem dX6_plan_19 : decode cX6_plan 19 = .ok (.aload_n 0, 1) := by decide +kernel
theorem dX6_plan_20 : decode cX6_plan 20 = .ok (.getfield 82, 3) := by decide +kernel
theorem dX6_plan_23 : decode cX6_plan 23 = .ok (.invokevirtual 195, 3) := by decide +kernel
theorem dX6_plan_26 : decode cX6_plan 26 = .ok (.iconst 1, 1) := by decide +kernel
theorem dX6_plan_27 : decode cX6_plan 27 = .ok (.isub, 1) := by decide +kernel
theorem dX6_plan_28 : decode cX6_plan 28 = .ok (.invokestatic 85, 3) := by decide +kernel
theorem dX6_plan_31 : decode cX6_plan 31 = .ok (.ifCond .ne 5, 3) := by decide +kernel
theorem dX6_plan_34 : decode cX6_plan 34 = .ok (.iconst (-1), 1) := by decide +kernel
theorem dX6_plan_35 : decode cX6_plan 35 = .ok (.ireturn, 1) := by decide +kernel
theorem dX6_plan_36 : decode cX6_plan 36 = .ok (.iload_n 1, 1) := by decide +kernel
theorem dX6_plan_37 : decode cX6_plan 37 = .ok (.istore_n 3, 1) := by decide +kernel
theorem dX6_plan_38 : decode cX6_plan 38 = .ok (.iconst 0, 1) := by decide +kernel
theorem dX6_plan_39 : decode cX6_plan 39 = .ok (.istore 4, 2) := by decide +kernel
theorem dX6_plan_41 : decode cX6_plan 41 = .ok (.iload 4, 2) := by decide +kernel
theorem dX6_plan_43 : decode cX6_plan 43 = .ok (.aload_n 0, 1) := by decide +kernel
theorem dX6_plan_44 : decode cX6_plan 44 = .ok (.getfield 82, 3) := by decide +kernel
theorem dX6_plan_47 : decode cX6_plan 47 = .ok (.if_icmp .ge 41, 3) := by decide +kernel
theorem dX6_plan_50 : decode cX6_plan 50 = .ok (.aload_n 0, 1) := by decide +kernel
theorem dX6_plan_51 : decode cX6_plan 51 = .ok (.getfield 57, 3) := by decide +kernel
theorem dX6_plan_54 : decode cX6_plan 54 = .ok (.iload 4, 2) := by decide +kernel
theorem dX6_plan_56 : decode cX6_plan 56 = .ok (.iload_n 3, 1) := by decide +kernel
theorem dX6_plan_57 : decode cX6_plan 57 = .ok (.bipush 10, 2) := by decide +kernel
theorem dX6_plan_59 : decode cX6_plan 59 = .ok (.irem, 1) := by decide +kernel
theorem dX6_plan_60 : decode cX6_plan 60 = .ok (.iastore, 1) := by decide +kernel
theorem dX6_plan_61 : decode cX6_plan 61 = .ok (.aload_n 0, 1) := by decide +kernel
theorem dX6_plan_62 : decode cX6_plan 62 = .ok (.aload_n 0, 1) := by decide +kernel
theorem dX6_plan_63 : decode cX6_plan 63 = .ok (.getfield 57, 3) := by decide +kernel
theorem dX6_plan_66 : decode cX6_plan 66 = .ok (.iload 4, 2) := by decide +kernel
theorem dX6_plan_68 : decode cX6_plan 68 = .ok (.iaload, 1) := by decide +kernel
theorem dX6_plan_69 : decode cX6_plan 69 = .ok (.invokevirtual 178, 3) := by decide +kernel
theorem dX6_plan_72 : decode cX6_plan 72 = .ok (.ifCond .ne 5, 3) := by decide +kernel
theorem dX6_plan_75 : decode cX6_plan 75 = .ok (.iconst (-1), 1) := by decide +kernel
theorem dX6_plan_76 : decode cX6_plan 76 = .ok (.ireturn, 1) := by decide +kernel
theorem dX6_plan_77 : decode cX6_plan 77 = .ok (.iload_n 3, 1) := by decide +kernel
theorem dX6_plan_78 : decode cX6_plan 78 = .ok (.bipush 10, 2) := by decide +kernel
theorem dX6_plan_80 : decode cX6_plan 80 = .ok (.idiv, 1) := by decide +kernel
theorem dX6_plan_81 : decode cX6_plan 81 = .ok (.istore_n 3, 1) := by decide +kernel
theorem dX6_plan_82 : decode cX6_plan 82 = .ok (.iinc 4 1, 3) := by decide +kernel
theorem dX6_plan_85 : decode cX6_plan 85 = .ok (.goto (-44), 3) := by decide +kernel
theorem dX6_plan_88 : decode cX6_plan 88 = .ok (.aload_n 0, 1) := by decide +kernel
theorem dX6_plan_89 : decode cX6_plan 89 = .ok (.invokevirtual 202, 3) := by decide +kernel
theorem dX6_plan_92 : decode cX6_plan 92 = .ok (.istore 4, 2) := by decide +kernel
theorem dX6_plan_94 : decode cX6_plan 94 = .ok (.iload_n 2, 1) := by decide +kernel
theorem dX6_plan_95 : decode cX6_plan 95 = .ok (.bipush (-9), 2) := by decide +kernel
theorem dX6_plan_97 : decode cX6_plan 97 = .ok (.if_icmp .ne 8, 3) := by decide +kernel
theorem dX6_plan_100 : decode cX6_plan 100 = .ok (.iload 4, 2) := by decide +kernel
theorem dX6_plan_102 : decode cX6_plan 102 = .ok (.goto 9, 3) := by decide +kernel
theorem dX6_plan_105 : decode cX6_plan 105 = .ok (.aload_n 0, 1) := by decide +kernel
theorem dX6_plan_106 : decode cX6_plan 106 = .ok (.getfield 66, 3) := by decide +kernel
theorem dX6_plan_109 : decode cX6_plan 109 = .ok (.iload_n 2, 1) := by decide +kernel
theorem dX6_plan_110 : decode cX6_plan 110 = .ok (.iaload, 1) := by decide +kernel
theorem dX6_plan_111 : decode cX6_plan 111 = .ok (.ireturn, 1) := by decide +kernel
theorem dX6_waits_0 : decode cX6_waits 0 = .ok (.aload_n 0, 1) := by decide +kernel
theorem dX6_waits_1 : decode cX6_waits 1 = .ok (.iload_n 1, 1) := by decide +kernel
theorem dX6_waits_2 : decode cX6_waits 2 = .ok (.invokevirtual 158, 3) := by decide +kernel
theorem dX6_waits_5 : decode cX6_waits 5 = .ok (.ifCond .ne 5, 3) := by decide +kernel
theorem dX6_waits_8 : decode cX6_waits 8 = .ok (.iconst (-1), 1) := by decide +kernel
theorem dX6_waits_9 : decode cX6_waits 9 = .ok (.ireturn, 1) := by decide +kernel
theorem dX6_waits_10 : decode cX6_waits 10 = .ok (.aload_n 0, 1) := by decide +kernel
theorem dX6_waits_11 : decode cX6_waits 11 = .ok (.getfield 26, 3) := by decide +kernel
theorem dX6_waits_14 : decode cX6_waits 14 = .ok (.iconst 2, 1) := by decide +kernel
theorem dX6_waits_15 : decode cX6_waits 15 = .ok (.iload_n 1, 1) := by decide +kernel
theorem dX6_waits_16 : decode cX6_waits 16 = .ok (.iadd, 1) := by decide +kernel
theorem dX6_waits_17 : decode cX6_waits 17 = .ok (.iaload, 1) := by decide +kernel
theorem dX6_waits_18 : decode cX6_waits 18 = .ok (.bipush (-9), 2) := by decide +kernel
theorem dX6_waits_20 : decode cX6_waits 20 = .ok (.if_icmp .ne 6, 3) := by decide +kernel
theorem dX6_waits_23 : decode cX6_waits 23 = .ok (.bipush (-2), 2) := by decide +kernel
theorem dX6_waits_25 : decode cX6_waits 25 = .ok (.ireturn, 1) := by decide +kernel
theorem dX6_waits_26 : decode cX6_waits 26 = .ok (.aload_n 0, 1) := by decide +kernel
theorem dX6_waits_27 : decode cX6_waits 27 = .ok (.getfield 26, 3) := by decide +kernel
theorem dX6_waits_30 : decode cX6_waits 30 = .ok (.bipush 8, 2) := by decide +kernel
theorem dX6_waits_32 : decode cX6_waits 32 = .ok (.iload_n 1, 1) := by decide +kernel
theorem dX6_waits_33 : decode cX6_waits 33 = .ok (.iadd, 1) := by decide +kernel
theorem dX6_waits_34 : decode cX6_waits 34 = .ok (.iaload, 1) := by decide +kernel
theorem dX6_waits_35 : decode cX6_waits 35 = .ok (.aload_n 0, 1) := by decide +kernel
theorem dX6_waits_36 : decode cX6_waits 36 = .ok (.getfield 7, 3) := by decide +kernel
theorem dX6_waits_39 : decode cX6_waits 39 = .ok (.if_icmp .ge 20, 3) := by decide +kernel
theorem dX6_waits_42 : decode cX6_waits 42 = .ok (.aload_n 0, 1) := by decide +kernel
theorem dX6_waits_43 : decode cX6_waits 43 = .ok (.getfield 7, 3) := by decide +kernel
theorem dX6_waits_46 : decode cX6_waits 46 = .ok (.aload_n 0, 1) := by decide +kernel
theorem dX6_waits_47 : decode cX6_waits 47 = .ok (.getfield 26, 3) := by decide +kernel
theorem dX6_waits_50 : decode cX6_waits 50 = .ok (.bipush 8, 2) := by decide +kernel
theorem dX6_waits_52 : decode cX6_waits 52 = .ok (.iload_n 1, 1) := by decide +kernel
theorem dX6_waits_53 : decode cX6_waits 53 = .ok (.iadd, 1) := by decide +kernel
theorem dX6_waits_54 : decode cX6_waits 54 = .ok (.iaload, 1) := by decide +kernel
theorem dX6_waits_55 : decode cX6_waits 55 = .ok (.isub, 1) := by decide +kernel
theorem dX6_waits_56 : decode cX6_waits 56 = .ok (.goto 4, 3) := by decide +kernel
theorem dX6_waits_59 : decode cX6_waits 59 = .ok (.iconst 0, 1) := by decide +kernel
theorem dX6_waits_60 : decode cX6_waits 60 = .ok (.ireturn, 1) := by decide +kernel
theorem dX6_boat_0 : decode cX6_boat 0 = .ok (.iload_n 1, 1) := by decide +kernel
theorem dX6_boat_1 : decode cX6_boat 1 = .ok (.iconst 1, 1) := by decide +kernel
theorem dX6_boat_2 : decode cX6_boat 2 = .ok (.bipush 60, 2) := by decide +kernel
theorem dX6_boat_4 : decode cX6_boat 4 = .ok (.invokestatic 85, 3) := by decide +kernel
theorem dX6_boat_7 : decode cX6_boat 7 = .ok (.ifCond .eq 12, 3) := by decide +kernel
theorem dX6_boat_10 : decode cX6_boat 10 = .ok (.iload_n 2, 1) := by decide +kernel
theorem dX6_boat_11 : decode cX6_boat 11 = .ok (.iconst 0, 1) := by decide +kernel
theorem dX6_boat_12 : decode cX6_boat 12 = .ok (.iconst 1, 1) := by decide +kernel
theorem dX6_boat_13 : decode cX6_boat 13 = .ok (.invokestatic 85, 3) := by decide +kernel
theorem dX6_boat_16 : decode cX6_boat 16 = .ok (.ifCond .ne 5, 3) := by decide +kernel
theorem dX6_boat_19 : decode cX6_boat 19 = .ok (.iconst (-1), 1) := by decide +kernel
theorem dX6_boat_20 : decode cX6_boat 20 = .ok (.ireturn, 1) := by decide +kernel
theorem dX6_boat_21 : decode cX6_boat 21 = .ok (.bipush (-9), 2) := by decide +kernel
theorem dX6_boat_23 : decode cX6_boat 23 = .ok (.istore_n 3, 1) := by decide +kernel
theorem dX6_boat_24 : decode cX6_boat 24 = .ok (.iconst 0, 1) := by decide +kernel
theorem dX6_boat_25 : decode cX6_boat 25 = .ok (.istore 4, 2) := by decide +kernel
theorem dX6_boat_27 : decode cX6_boat 27 = .ok (.iconst 0, 1) := by decide +kernel
theorem dX6_boat_28 : decode cX6_boat 28 = .ok (.istore 5, 2) := by decide +kernel
theorem dX6_boat_30 : decode cX6_boat 30 = .ok (.iload 5, 2) := by decide +kernel
theorem dX6_boat_32 : decode cX6_boat 32 = .ok (.iload_n 1, 1) := by decide +kernel
theorem dX6_boat_33 : decode cX6_boat 33 = .ok (.if_icmp .gt 137, 3) := by decide +kernel
theorem dX6_boat_36 : decode cX6_boat 36 = .ok (.iconst 0, 1) := by decide +kernel
theorem dX6_boat_37 : decode cX6_boat 37 = .ok (.istore 6, 2) := by decide +kernel
theorem dX6_boat_39 : decode cX6_boat 39 = .ok (.iconst 0, 1) := by decide +kernel
theorem dX6_boat_40 : decode cX6_boat 40 = .ok (.istore 7, 2) := by decide +kernel
theorem dX6_boat_42 : decode cX6_boat 42 = .ok (.iload 7, 2) := by decide +kernel
theorem dX6_boat_44 : decode cX6_boat 44 = .ok (.aload_n 0, 1) := by decide +kernel
theorem dX6_boat_45 : decode cX6_boat 45 = .ok (.getfield 82, 3) := by decide +kernel
theorem dX6_boat_48 : decode cX6_boat 48 = .ok (.if_icmp .ge 53, 3) := by decide +kernel
theorem dX6_boat_51 : decode cX6_boat 51 = .ok (.iload 6, 2) := by decide +kernel
theorem dX6_boat_53 : decode cX6_boat 53 = .ok (.aload_n 0, 1) := by decide +kernel
theorem dX6_boat_54 : decode cX6_boat 54 = .ok (.getfield 26, 3) := by decide +kernel
theorem dX6_boat_57 : decode cX6_boat 57 = .ok (.iconst 2, 1) := by decide +kernel
theorem dX6_boat_58 : decode cX6_boat 58 = .ok (.iload 7, 2) := by decide +kernel
theorem dX6_boat_60 : decode cX6_boat 60 = .ok (.iadd, 1) := by decide +kernel
theorem dX6_boat_61 : decode cX6_boat 61 = .ok (.iaload, 1) := by decide +kernel
theorem dX6_boat_62 : decode cX6_boat 62 = .ok (.bipush (-9), 2) := by decide +kernel
theorem dX6_boat_64 : decode cX6_boat 64 = .ok (.if_icmp .eq 27, 3) := by decide +kernel
theorem dX6_boat_67 : decode cX6_boat 67 = .ok (.aload_n 0, 1) := by decide +kernel
theorem dX6_boat_68 : decode cX6_boat 68 = .ok (.getfield 26, 3) := by decide +kernel
theorem dX6_boat_71 : decode cX6_boat 71 = .ok (.bipush 8, 2) := by decide +kernel
theorem dX6_boat_73 : decode cX6_boat 73 = .ok (.iload 7, 2) := by decide +kernel
theorem dX6_boat_75 : decode cX6_boat 75 = .ok (.iadd, 1) := by decide +kernel
theorem dX6_boat_76 : decode cX6_boat 76 = .ok (.iaload, 1) := by decide +kernel
theorem dX6_boat_77 : decode cX6_boat 77 = .ok (.iload 5, 2) := by decide +kernel
theorem dX6_boat_79 : decode cX6_boat 79 = .ok (.iadd, 1) := by decide +kernel
theorem dX6_boat_80 : decode cX6_boat 80 = .ok (.aload_n 0, 1) := by decide +kernel
theorem dX6_boat_81 : decode cX6_boat 81 = .ok (.getfield 7, 3) := by decide +kernel
theorem dX6_boat_84 : decode cX6_boat 84 = .ok (.if_icmp .lt 7, 3) := by decide +kernel
theorem dX6_boat_87 : decode cX6_boat 87 = .ok (.iconst 1, 1) := by decide +kernel
theorem dX6_boat_88 : decode cX6_boat 88 = .ok (.goto 4, 3) := by decide +kernel
theorem dX6_boat_91 : decode cX6_boat 91 = .ok (.iconst 0, 1) := by decide +kernel
theorem dX6_boat_92 : decode cX6_boat 92 = .ok (.iadd, 1) := by decide +kernel
theorem dX6_boat_93 : decode cX6_boat 93 = .ok (.istore 6, 2) := by decide +kernel
theorem dX6_boat_95 : decode cX6_boat 95 = .ok (.iinc 7 1, 3) := by decide +kernel
theorem dX6_boat_98 : decode cX6_boat 98 = .ok (.goto (-56), 3) := by decide +kernel
theorem dX6_boat_101 : decode cX6_boat 101 = .ok (.aload_n 0, 1) := by decide +kernel
theorem dX6_boat_102 : decode cX6_boat 102 = .ok (.aload_n 0, 1) := by decide +kernel
theorem dX6_boat_103 : decode cX6_boat 103 = .ok (.getfield 26, 3) := by decide +kernel
theorem dX6_boat_106 : decode cX6_boat 106 = .ok (.iconst 0, 1) := by decide +kernel
theorem dX6_boat_107 : decode cX6_boat 107 = .ok (.iaload, 1) := by decide +kernel
theorem dX6_boat_108 : decode cX6_boat 108 = .ok (.iload 5, 2) := by decide +kernel
theorem dX6_boat_110 : decode cX6_boat 110 = .ok (.iadd, 1) := by decide +kernel
theorem dX6_boat_111 : decode cX6_boat 111 = .ok (.invokevirtual 175, 3) := by decide +kernel
theorem dX6_boat_114 : decode cX6_boat 114 = .ok (.ifCond .eq 14, 3) := by decide +kernel
theorem dX6_boat_117 : decode cX6_boat 117 = .ok (.iload 6, 2) := by decide +kernel
theorem dX6_boat_119 : decode cX6_boat 119 = .ok (.iload 4, 2) := by decide +kernel
theorem dX6_boat_121 : decode cX6_boat 121 = .ok (.if_icmp .le 7, 3) := by decide +kernel
theorem dX6_boat_124 : decode cX6_boat 124 = .ok (.iconst 1, 1) := by decide +kernel
theorem dX6_boat_125 : decode cX6_boat 125 = .ok (.goto 4, 3) := by decide +kernel
theorem dX6_boat_128 : decode cX6_boat 128 = .ok (.iconst 0, 1) := by decide +kernel
theorem dX6_boat_129 : decode cX6_boat 129 = .ok (.istore 7, 2) := by decide +kernel
theorem dX6_boat_131 : decode cX6_boat 131 = .ok (.iload 7, 2) := by decide +kernel
theorem dX6_boat_133 : decode cX6_boat 133 = .ok (.ifCond .eq 15, 3) := by decide +kernel
theorem dX6_boat_136 : decode cX6_boat 136 = .ok (.aload_n 0, 1) := by decide +kernel
theorem dX6_boat_137 : decode cX6_boat 137 = .ok (.getfield 26, 3) := by decide +kernel
theorem dX6_boat_140 : decode cX6_boat 140 = .ok (.iconst 0, 1) := by decide +kernel
theorem dX6_boat_141 : decode cX6_boat 141 = .ok (.iaload, 1) := by decide +kernel
theorem dX6_boat_142 : decode cX6_boat 142 = .ok (.iload 5, 2) := by decide +kernel
theorem dX6_boat_144 : decode cX6_boat 144 = .ok (.iadd, 1) := by decide +kernel
theorem dX6_boat_145 : decode cX6_boat 145 = .ok (.goto 4, 3) := by decide +kernel
theorem dX6_boat_148 : decode cX6_boat 148 = .ok (.iload_n 3, 1) := by decide +kernel
theorem dX6_boat_149 : decode cX6_boat 149 = .ok (.istore_n 3, 1) := by decide +kernel
theorem dX6_boat_150 : decode cX6_boat 150 = .ok (.iload 7, 2) := by decide +kernel
theorem dX6_boat_152 : decode cX6_boat 152 = .ok (.ifCond .eq 8, 3) := by decide +kernel
theorem dX6_boat_155 : decode cX6_boat 155 = .ok (.iload 6, 2) := by decide +kernel
theorem dX6_boat_157 : decode cX6_boat 157 = .ok (.goto 5, 3) := by decide +kernel
theorem dX6_boat_160 : decode cX6_boat 160 = .ok (.iload 4, 2) := by decide +kernel
theorem dX6_boat_162 : decode cX6_boat 162 = .ok (.istore 4, 2) := by decide +kernel
theorem dX6_boat_164 : decode cX6_boat 164 = .ok (.iinc 5 1, 3) := by decide +kernel
theorem dX6_boat_167 : decode cX6_boat 167 = .ok (.goto (-137), 3) := by decide +kernel
theorem dX6_boat_170 : decode cX6_boat 170 = .ok (.iload_n 3, 1) := by decide +kernel
theorem dX6_boat_171 : decode cX6_boat 171 = .ok (.bipush (-9), 2) := by decide +kernel
theorem dX6_boat_173 : decode cX6_boat 173 = .ok (.if_icmp .ne 8, 3) := by decide +kernel
theorem dX6_boat_176 : decode cX6_boat 176 = .ok (.bipush (-9), 2) := by decide +kernel
theorem dX6_boat_178 : decode cX6_boat 178 = .ok (.goto 13, 3) := by decide +kernel
theorem dX6_boat_181 : decode cX6_boat 181 = .ok (.iload_n 2, 1) := by decide +kernel
theorem dX6_boat_182 : decode cX6_boat 182 = .ok (.ifCond .ne 7, 3) := by decide +kernel
theorem dX6_boat_185 : decode cX6_boat 185 = .ok (.iload_n 3, 1) := by decide +kernel
theorem dX6_boat_186 : decode cX6_boat 186 = .ok (.goto 5, 3) := by decide +kernel
theorem dX6_boat_189 : decode cX6_boat 189 = .ok (.iload 4, 2) := by decide +kernel
theorem dX6_boat_191 : decode cX6_boat 191 = .ok (.ireturn, 1) := by decide +kernel
theorem dX6_share_0 : decode cX6_share 0 = .ok (.lload_n 0, 1) := by decide +kernel
theorem dX6_share_1 : decode cX6_share 1 = .ok (.lstore 5, 2) := by decide +kernel
theorem dX6_share_3 : decode cX6_share 3 = .ok (.lload_n 2, 1) := by decide +kernel
theorem dX6_share_4 : decode cX6_share 4 = .ok (.lstore 7, 2) := by decide +kernel
theorem dX6_share_6 : decode cX6_share 6 = .ok (.lload 7, 2) := by decide +kernel
theorem dX6_share_8 : decode cX6_share 8 = .ok (.lconst 0, 1) := by decide +kernel
theorem dX6_share_9 : decode cX6_share 9 = .ok (.lcmp, 1) := by decide +kernel
theorem dX6_share_10 : decode cX6_share 10 = .ok (.ifCond .le 21, 3) := by decide +kernel
theorem dX6_share_13 : decode cX6_share 13 = .ok (.lload 5, 2) := by decide +kernel
theorem dX6_share_15 : decode cX6_share 15 = .ok (.lload 7, 2) := by decide +kernel
theorem dX6_share_17 : decode cX6_share 17 = .ok (.lrem, 1) := by decide +kernel
theorem dX6_share_18 : decode cX6_share 18 = .ok (.lstore 9, 2) := by decide +kernel
theorem dX6_share_20 : decode cX6_share 20 = .ok (.lload 7, 2) := by decide +kernel
theorem dX6_share_22 : decode cX6_share 22 = .ok (.lstore 5, 2) := by decide +kernel
theorem dX6_share_24 : decode cX6_share 24 = .ok (.lload 9, 2) := by decide +kernel
theorem dX6_share_26 : decode cX6_share 26 = .ok (.lstore 7, 2) := by decide +kernel
theorem dX6_share_28 : decode cX6_share 28 = .ok (.goto (-22), 3) := by decide +kernel
theorem dX6_share_31 : decode cX6_share 31 = .ok (.iload 4, 2) := by decide +kernel
theorem dX6_share_33 : decode cX6_share 33 = .ok (.ifCond .ne 7, 3) := by decide +kernel
theorem dX6_share_36 : decode cX6_share 36 = .ok (.lload_n 0, 1) := by decide +kernel
theorem dX6_share_37 : decode cX6_share 37 = .ok (.goto 4, 3) := by decide +kernel
theorem dX6_share_40 : decode cX6_share 40 = .ok (.lload_n 2, 1) := by decide +kernel
theorem dX6_share_41 : decode cX6_share 41 = .ok (.lload 5, 2) := by decide +kernel
theorem dX6_share_43 : decode cX6_share 43 = .ok (.ldiv, 1) := by decide +kernel
theorem dX6_share_44 : decode cX6_share 44 = .ok (.lreturn, 1) := by decide +kernel
theorem dX6_clean_0 : decode cX6_clean 0 = .ok (.aload_n 0, 1) := by decide +kernel
theorem dX6_clean_1 : decode cX6_clean 1 = .ok (.iload_n 1, 1) := by decide +kernel
theorem dX6_clean_2 : decode cX6_clean 2 = .ok (.invokevirtual 178, 3) := by decide +kernel
theorem dX6_clean_5 : decode cX6_clean 5 = .ok (.ifCond .eq 12, 3) := by decide +kernel
theorem dX6_clean_8 : decode cX6_clean 8 = .ok (.iload_n 2, 1) := by decide +kernel
theorem dX6_clean_9 : decode cX6_clean 9 = .ok (.iconst 0, 1) := by decide +kernel
theorem dX6_clean_10 : decode cX6_clean 10 = .ok (.iconst 1, 1) := by decide +kernel
theorem dX6_clean_11 : decode cX6_clean 11 = .ok (.invokestatic 85, 3) := by decide +kernel
theorem dX6_clean_14 : decode cX6_clean 14 = .ok (.ifCond .ne 7, 3) := by decide +kernel
theorem dX6_clean_17 : decode cX6_clean 17 = .ok (.ldc2_w 212, 3) := by decide +kernel
theorem dX6_clean_20 : decode cX6_clean 20 = .ok (.lreturn, 1) := by decide +kernel
theorem dX6_clean_21 : decode cX6_clean 21 = .ok (.lconst 1, 1) := by decide +kernel
theorem dX6_clean_22 : decode cX6_clean 22 = .ok (.lstore_n 3, 1) := by decide +kernel
theorem dX6_clean_23 : decode cX6_clean 23 = .ok (.lconst 1, 1) := by decide +kernel
theorem dX6_clean_24 : decode cX6_clean 24 = .ok (.lstore 5, 2) := by decide +kernel
theorem dX6_clean_26 : decode cX6_clean 26 = .ok (.iconst 0, 1) := by decide +kernel
theorem dX6_clean_27 : decode cX6_clean 27 = .ok (.istore 7, 2) := by decide +kernel
theorem dX6_clean_29 : decode cX6_clean 29 = .ok (.iload 7, 2) := by decide +kernel
theorem dX6_clean_31 : decode cX6_clean 31 = .ok (.aload_n 0, 1) := by decide +kernel
theorem dX6_clean_32 : decode cX6_clean 32 = .ok (.getfield 82, 3) := by decide +kernel
theorem dX6_clean_35 : decode cX6_clean 35 = .ok (.if_icmp .ge 48, 3) := by decide +kernel
theorem dX6_clean_38 : decode cX6_clean 38 = .ok (.aload_n 0, 1) := by decide +kernel
theorem dX6_clean_39 : decode cX6_clean 39 = .ok (.getfield 26, 3) := by decide +kernel
theorem dX6_clean_42 : decode cX6_clean 42 = .ok (.iconst 2, 1) := by decide +kernel
theorem dX6_clean_43 : decode cX6_clean 43 = .ok (.iload 7, 2) := by decide +kernel
theorem dX6_clean_45 : decode cX6_clean 45 = .ok (.iadd, 1) := by decide +kernel
theorem dX6_clean_46 : decode cX6_clean 46 = .ok (.iaload, 1) := by decide +kernel
theorem dX6_clean_47 : decode cX6_clean 47 = .ok (.iload_n 1, 1) := by decide +kernel
theorem dX6_clean_48 : decode cX6_clean 48 = .ok (.if_icmp .ne 29, 3) := by decide +kernel
theorem dX6_clean_51 : decode cX6_clean 51 = .ok (.lload_n 3, 1) := by decide +kernel
theorem dX6_clean_52 : decode cX6_clean 52 = .ok (.bipush 10, 2) := by decide +kernel
theorem dX6_clean_54 : decode cX6_clean 54 = .ok (.aload_n 0, 1) := by decide +kernel
theorem dX6_clean_55 : decode cX6_clean 55 = .ok (.getfield 19, 3) := by decide +kernel
theorem dX6_clean_58 : decode cX6_clean 58 = .ok (.iconst 2, 1) := by decide +kernel
theorem dX6_clean_59 : decode cX6_clean 59 = .ok (.iload 7, 2) := by decide +kernel
theorem dX6_clean_61 : decode cX6_clean 61 = .ok (.imul, 1) := by decide +kernel
theorem dX6_clean_62 : decode cX6_clean 62 = .ok (.iconst 1, 1) := by decide +kernel
theorem dX6_clean_63 : decode cX6_clean 63 = .ok (.iadd, 1) := by decide +kernel
theorem dX6_clean_64 : decode cX6_clean 64 = .ok (.iaload, 1) := by decide +kernel
theorem dX6_clean_65 : decode cX6_clean 65 = .ok (.isub, 1) := by decide +kernel
theorem dX6_clean_66 : decode cX6_clean 66 = .ok (.i2l, 1) := by decide +kernel
theorem dX6_clean_67 : decode cX6_clean 67 = .ok (.lmul, 1) := by decide +kernel
theorem dX6_clean_68 : decode cX6_clean 68 = .ok (.lstore_n 3, 1) := by decide +kernel
theorem dX6_clean_69 : decode cX6_clean 69 = .ok (.lload 5, 2) := by decide +kernel
theorem dX6_clean_71 : decode cX6_clean 71 = .ok (.ldc2_w 214, 3) := by decide +kernel
theorem dX6_clean_74 : decode cX6_clean 74 = .ok (.lmul, 1) := by decide +kernel
theorem dX6_clean_75 : decode cX6_clean 75 = .ok (.lstore 5, 2) := by decide +kernel
theorem dX6_clean_77 : decode cX6_clean 77 = .ok (.iinc 7 1, 3) := by decide +kernel
theorem dX6_clean_80 : decode cX6_clean 80 = .ok (.goto (-51), 3) := by decide +kernel
theorem dX6_clean_83 : decode cX6_clean 83 = .ok (.lload_n 3, 1) := by decide +kernel
theorem dX6_clean_84 : decode cX6_clean 84 = .ok (.lload 5, 2) := by decide +kernel
theorem dX6_clean_86 : decode cX6_clean 86 = .ok (.iload_n 2, 1) := by decide +kernel
theorem dX6_clean_87 : decode cX6_clean 87 = .ok (.invokestatic 216, 3) := by decide +kernel
theorem dX6_clean_90 : decode cX6_clean 90 = .ok (.lreturn, 1) := by decide +kernel
theorem dX6_findSick_0 : decode cX6_findSick 0 = .ok (.iconst 0, 1) := by decide +kernel
theorem dX6_findSick_1 : decode cX6_findSick 1 = .ok (.istore_n 2, 1) := by decide +kernel
theorem dX6_findSick_2 : decode cX6_findSick 2 = .ok (.iload_n 2, 1) := by decide +kernel
theorem dX6_findSick_3 : decode cX6_findSick 3 = .ok (.bipush 7, 2) := by decide +kernel
theorem dX6_findSick_5 : decode cX6_findSick 5 = .ok (.if_icmp .ge 24, 3) := by decide +kernel
theorem dX6_findSick_8 : decode cX6_findSick 8 = .ok (.aload_n 0, 1) := by decide +kernel
theorem dX6_findSick_9 : decode cX6_findSick 9 = .ok (.getfield 69, 3) := by decide +kernel
theorem dX6_findSick_12 : decode cX6_findSick 12 = .ok (.iload_n 2, 1) := by decide +kernel
theorem dX6_findSick_13 : decode cX6_findSick 13 = .ok (.iload_n 2, 1) := by decide +kernel
theorem dX6_findSick_14 : decode cX6_findSick 14 = .ok (.ifCond .ne 7, 3) := by decide +kernel
theorem dX6_findSick_17 : decode cX6_findSick 17 = .ok (.lconst 1, 1) := by decide +kernel
theorem dX6_findSick_18 : decode cX6_findSick 18 = .ok (.goto 4, 3) := by decide +kernel
theorem dX6_findSick_21 : decode cX6_findSick 21 = .ok (.lconst 0, 1) := by decide +kernel
theorem dX6_findSick_22 : decode cX6_findSick 22 = .ok (.lastore, 1) := by decide +kernel
theorem dX6_findSick_23 : decode cX6_findSick 23 = .ok (.iinc 2 1, 3) := by decide +kernel
theorem dX6_findSick_26 : decode cX6_findSick 26 = .ok (.goto (-24), 3) := by decide +kernel
theorem dX6_findSick_29 : decode cX6_findSick 29 = .ok (.iconst 0, 1) := by decide +kernel
theorem dX6_findSick_30 : decode cX6_findSick 30 = .ok (.istore_n 2, 1) := by decide +kernel
theorem dX6_findSick_31 : decode cX6_findSick 31 = .ok (.iload_n 2, 1) := by decide +kernel
theorem dX6_findSick_32 : decode cX6_findSick 32 = .ok (.aload_n 0, 1) := by decide +kernel
theorem dX6_findSick_33 : decode cX6_findSick 33 = .ok (.getfield 82, 3) := by decide +kernel
theorem dX6_findSick_36 : decode cX6_findSick 36 = .ok (.if_icmp .ge 82, 3) := by decide +kernel
theorem dX6_findSick_39 : decode cX6_findSick 39 = .ok (.aload_n 0, 1) := by decide +kernel
theorem dX6_findSick_40 : decode cX6_findSick 40 = .ok (.getfield 19, 3) := by decide +kernel
theorem dX6_findSick_43 : decode cX6_findSick 43 = .ok (.iconst 2, 1) := by decide +kernel
theorem dX6_findSick_44 : decode cX6_findSick 44 = .ok (.iload_n 2, 1) := by decide +kernel
theorem dX6_findSick_45 : decode cX6_findSick 45 = .ok (.imul, 1) := by decide +kernel
theorem dX6_findSick_46 : decode cX6_findSick 46 = .ok (.iconst 1, 1) := by decide +kernel
theorem dX6_findSick_47 : decode cX6_findSick 47 = .ok (.iadd, 1) := by decide +kernel
theorem dX6_findSick_48 : decode cX6_findSick 48 = .ok (.iaload, 1) := by decide +kernel
theorem dX6_findSick_49 : decode cX6_findSick 49 = .ok (.istore_n 3, 1) := by decide +kernel
theorem dX6_findSick_50 : decode cX6_findSick 50 = .ok (.bipush 6, 2) := by decide +kernel
theorem dX6_findSick_52 : decode cX6_findSick 52 = .ok (.istore 4, 2) := by decide +kernel
theorem dX6_findSick_54 : decode cX6_findSick 54 = .ok (.iload 4, 2) := by decide +kernel
theorem dX6_findSick_56 : decode cX6_findSick 56 = .ok (.ifCond .lt 56, 3) := by decide +kernel
theorem dX6_findSick_59 : decode cX6_findSick 59 = .ok (.iload_n 2, 1) := by decide +kernel
theorem dX6_findSick_60 : decode cX6_findSick 60 = .ok (.iload_n 1, 1) := by decide +kernel
theorem dX6_findSick_61 : decode cX6_findSick 61 = .ok (.if_icmp .eq 51, 3) := by decide +kernel
theorem dX6_findSick_64 : decode cX6_findSick 64 = .ok (.aload_n 0, 1) := by decide +kernel
theorem dX6_findSick_65 : decode cX6_findSick 65 = .ok (.getfield 69, 3) := by decide +kernel
theorem dX6_findSick_68 : decode cX6_findSick 68 = .ok (.iload 4, 2) := by decide +kernel
theorem dX6_findSick_70 : decode cX6_findSick 70 = .ok (.aload_n 0, 1) := by decide +kernel
theorem dX6_findSick_71 : decode cX6_findSick 71 = .ok (.getfield 69, 3) := by decide +kernel
theorem dX6_findSick_74 : decode cX6_findSick 74 = .ok (.iload 4, 2) := by decide +kernel
theorem dX6_findSick_76 : decode cX6_findSick 76 = .ok (.laload, 1) := by decide +kernel
theorem dX6_findSick_77 : decode cX6_findSick 77 = .ok (.bipush 10, 2) := by decide +kernel
theorem dX6_findSick_79 : decode cX6_findSick 79 = .ok (.iload_n 3, 1) := by decide +kernel
theorem dX6_findSick_80 : decode cX6_findSick 80 = .ok (.isub, 1) := by decide +kernel
theorem dX6_findSick_81 : decode cX6_findSick 81 = .ok (.i2l, 1) := by decide +kernel
theorem dX6_findSick_82 : decode cX6_findSick 82 = .ok (.lmul, 1) := by decide +kernel
theorem dX6_findSick_83 : decode cX6_findSick 83 = .ok (.iload 4, 2) := by decide +kernel
theorem dX6_findSick_85 : decode cX6_findSick 85 = .ok (.ifCond .ne 7, 3) := by decide +kernel
theorem dX6_findSick_88 : decode cX6_findSick 88 = .ok (.lconst 0, 1) := by decide +kernel
theorem dX6_findSick_89 : decode cX6_findSick 89 = .ok (.goto 15, 3) := by decide +kernel
theorem dX6_findSick_92 : decode cX6_findSick 92 = .ok (.aload_n 0, 1) := by decide +kernel
theorem dX6_findSick_93 : decode cX6_findSick 93 = .ok (.getfield 69, 3) := by decide +kernel
theorem dX6_findSick_96 : decode cX6_findSick 96 = .ok (.iload 4, 2) := by decide +kernel
theorem dX6_findSick_98 : decode cX6_findSick 98 = .ok (.iconst 1, 1) := by decide +kernel
theorem dX6_findSick_99 : decode cX6_findSick 99 = .ok (.isub, 1) := by decide +kernel
theorem dX6_findSick_100 : decode cX6_findSick 100 = .ok (.laload, 1) := by decide +kernel
theorem dX6_findSick_101 : decode cX6_findSick 101 = .ok (.iload_n 3, 1) := by decide +kernel
theorem dX6_findSick_102 : decode cX6_findSick 102 = .ok (.i2l, 1) := by decide +kernel
theorem dX6_findSick_103 : decode cX6_findSick 103 = .ok (.lmul, 1) := by decide +kernel
theorem dX6_findSick_104 : decode cX6_findSick 104 = .ok (.ladd, 1) := by decide +kernel
theorem dX6_findSick_105 : decode cX6_findSick 105 = .ok (.lastore, 1) := by decide +kernel
theorem dX6_findSick_106 : decode cX6_findSick 106 = .ok (.iinc 4 (-1), 3) := by decide +kernel
theorem dX6_findSick_109 : decode cX6_findSick 109 = .ok (.goto (-55), 3) := by decide +kernel
theorem dX6_findSick_112 : decode cX6_findSick 112 = .ok (.iinc 2 1, 3) := by decide +kernel
theorem dX6_findSick_115 : decode cX6_findSick 115 = .ok (.goto (-84), 3) := by decide +kernel
theorem dX6_findSick_118 : decode cX6_findSick 118 = .ok (.return_, 1) := by decide +kernel
theorem dX6_well_0 : decode cX6_well 0 = .ok (.aload_n 0, 1) := by decide +kernel
theorem dX6_well_1 : decode cX6_well 1 = .ok (.iload_n 1, 1) := by decide +kernel
theorem dX6_well_2 : decode cX6_well 2 = .ok (.invokevirtual 158, 3) := by decide +kernel
theorem dX6_well_5 : decode cX6_well 5 = .ok (.ifCond .eq 22, 3) := by decide +kernel
theorem dX6_well_8 : decode cX6_well 8 = .ok (.iload_n 2, 1) := by decide +kernel
theorem dX6_well_9 : decode cX6_well 9 = .ok (.iconst 0, 1) := by decide +kernel
theorem dX6_well_10 : decode cX6_well 10 = .ok (.bipush 6, 2) := by decide +kernel
theorem dX6_well_12 : decode cX6_well 12 = .ok (.invokestatic 85, 3) := by decide +kernel
theorem dX6_well_15 : decode cX6_well 15 = .ok (.ifCond .eq 12, 3) := by decide +kernel
theorem dX6_well_18 : decode cX6_well 18 = .ok (.iload_n 3, 1) := by decide +kernel
theorem dX6_well_19 : decode cX6_well 19 = .ok (.iconst 0, 1) := by decide +kernel
theorem dX6_well_20 : decode cX6_well 20 = .ok (.iconst 1, 1) := by decide +kernel
theorem dX6_well_21 : decode cX6_well 21 = .ok (.invokestatic 85, 3) := by decide +kernel
theorem dX6_well_24 : decode cX6_well 24 = .ok (.ifCond .ne 7, 3) := by decide +kernel
theorem dX6_well_27 : decode cX6_well 27 = .ok (.ldc2_w 212, 3) := by decide +kernel
theorem dX6_well_30 : decode cX6_well 30 = .ok (.lreturn, 1) := by decide +kernel
theorem dX6_well_31 : decode cX6_well 31 = .ok (.aload_n 0, 1) := by decide +kernel
theorem dX6_well_32 : decode cX6_well 32 = .ok (.iload_n 1, 1) := by decide +kernel
theorem dX6_well_33 : decode cX6_well 33 = .ok (.invokevirtual 220, 3) := by decide +kernel
theorem dX6_well_36 : decode cX6_well 36 = .ok (.aload_n 0, 1) := by decide +kernel
theorem dX6_well_37 : decode cX6_well 37 = .ok (.getfield 69, 3) := by decide +kernel
theorem dX6_well_40 : decode cX6_well 40 = .ok (.iload_n 2, 1) := by decide +kernel
theorem dX6_well_41 : decode cX6_well 41 = .ok (.laload, 1) := by decide +kernel
theorem dX6_well_42 : decode cX6_well 42 = .ok (.bipush 10, 2) := by decide +kernel
theorem dX6_well_44 : decode cX6_well 44 = .ok (.aload_n 0, 1) := by decide +kernel
theorem dX6_well_45 : decode cX6_well 45 = .ok (.getfield 19, 3) := by decide +kernel
theorem dX6_well_48 : decode cX6_well 48 = .ok (.iconst 2, 1) := by decide +kernel
theorem dX6_well_49 : decode cX6_well 49 = .ok (.iload_n 1, 1) := by decide +kernel
theorem dX6_well_50 : decode cX6_well 50 = .ok (.imul, 1) := by decide +kernel
theorem dX6_well_51 : decode cX6_well 51 = .ok (.iconst 1, 1) := by decide +kernel
theorem dX6_well_52 : decode cX6_well 52 = .ok (.iadd, 1) := by decide +kernel
theorem dX6_well_53 : decode cX6_well 53 = .ok (.iaload, 1) := by decide +kernel
theorem dX6_well_54 : decode cX6_well 54 = .ok (.isub, 1) := by decide +kernel
theorem dX6_well_55 : decode cX6_well 55 = .ok (.i2l, 1) := by decide +kernel
theorem dX6_well_56 : decode cX6_well 56 = .ok (.lmul, 1) := by decide +kernel
theorem dX6_well_57 : decode cX6_well 57 = .ok (.lstore 4, 2) := by decide +kernel
theorem dX6_well_59 : decode cX6_well 59 = .ok (.aload_n 0, 1) := by decide +kernel
theorem dX6_well_60 : decode cX6_well 60 = .ok (.bipush (-9), 2) := by decide +kernel
theorem dX6_well_62 : decode cX6_well 62 = .ok (.invokevirtual 220, 3) := by decide +kernel
theorem dX6_well_65 : decode cX6_well 65 = .ok (.aload_n 0, 1) := by decide +kernel
theorem dX6_well_66 : decode cX6_well 66 = .ok (.getfield 69, 3) := by decide +kernel
theorem dX6_well_69 : decode cX6_well 69 = .ok (.iload_n 2, 1) := by decide +kernel
theorem dX6_well_70 : decode cX6_well 70 = .ok (.laload, 1) := by decide +kernel
theorem dX6_well_71 : decode cX6_well 71 = .ok (.lstore 6, 2) := by decide +kernel
theorem dX6_well_73 : decode cX6_well 73 = .ok (.lload 6, 2) := by decide +kernel
theorem dX6_well_75 : decode cX6_well 75 = .ok (.lconst 0, 1) := by decide +kernel
theorem dX6_well_76 : decode cX6_well 76 = .ok (.lcmp, 1) := by decide +kernel
theorem dX6_well_77 : decode cX6_well 77 = .ok (.ifCond .ne 9, 3) := by decide +kernel
theorem dX6_well_80 : decode cX6_well 80 = .ok (.ldc2_w 223, 3) := by decide +kernel
theorem dX6_well_83 : decode cX6_well 83 = .ok (.goto 11, 3) := by decide +kernel
theorem dX6_well_86 : decode cX6_well 86 = .ok (.lload 4, 2) := by decide +kernel
theorem dX6_well_88 : decode cX6_well 88 = .ok (.lload 6, 2) := by decide +kernel
theorem dX6_well_90 : decode cX6_well 90 = .ok (.iload_n 3, 1) := by decide +kernel
theorem dX6_well_91 : decode cX6_well 91 = .ok (.invokestatic 216, 3) := by decide +kernel
theorem dX6_well_94 : decode cX6_well 94 = .ok (.lreturn, 1) := by decide +kernel
theorem dX6_writes_0 : decode cX6_writes 0 = .ok (.iload_n 1, 1) := by decide +kernel
theorem dX6_writes_1 : decode cX6_writes 1 = .ok (.iconst 0, 1) := by decide +kernel
theorem dX6_writes_2 : decode cX6_writes 2 = .ok (.bipush 9, 2) := by decide +kernel
theorem dX6_writes_4 : decode cX6_writes 4 = .ok (.invokestatic 85, 3) := by decide +kernel
theorem dX6_writes_7 : decode cX6_writes 7 = .ok (.ifCond .ne 5, 3) := by decide +kernel
theorem dX6_writes_10 : decode cX6_writes 10 = .ok (.iconst (-1), 1) := by decide +kernel
theorem dX6_writes_11 : decode cX6_writes 11 = .ok (.ireturn, 1) := by decide +kernel
theorem dX6_writes_12 : decode cX6_writes 12 = .ok (.aload_n 0, 1) := by decide +kernel
theorem dX6_writes_13 : decode cX6_writes 13 = .ok (.getfield 26, 3) := by decide +kernel
theorem dX6_writes_16 : decode cX6_writes 16 = .ok (.bipush 20, 2) := by decide +kernel
theorem dX6_writes_18 : decode cX6_writes 18 = .ok (.iaload, 1) := by decide +kernel
theorem dX6_writes_19 : decode cX6_writes 19 = .ok (.iconst 5, 1) := by decide +kernel
theorem dX6_writes_20 : decode cX6_writes 20 = .ok (.if_icmp .ne 6, 3) := by decide +kernel
theorem dX6_writes_23 : decode cX6_writes 23 = .ok (.bipush (-3), 2) := by decide +kernel
theorem dX6_writes_25 : decode cX6_writes 25 = .ok (.ireturn, 1) := by decide +kernel
theorem dX6_writes_26 : decode cX6_writes 26 = .ok (.aload_n 0, 1) := by decide +kernel
theorem dX6_writes_27 : decode cX6_writes 27 = .ok (.invokevirtual 181, 3) := by decide +kernel
theorem dX6_writes_30 : decode cX6_writes 30 = .ok (.aload_n 0, 1) := by decide +kernel
theorem dX6_writes_31 : decode cX6_writes 31 = .ok (.getfield 26, 3) := by decide +kernel
theorem dX6_writes_34 : decode cX6_writes 34 = .ok (.bipush 21, 2) := by decide +kernel
theorem dX6_writes_36 : decode cX6_writes 36 = .ok (.aload_n 0, 1) := by decide +kernel
theorem dX6_writes_37 : decode cX6_writes 37 = .ok (.getfield 26, 3) := by decide +kernel
theorem dX6_writes_40 : decode cX6_writes 40 = .ok (.bipush 20, 2) := by decide +kernel
theorem dX6_writes_42 : decode cX6_writes 42 = .ok (.iaload, 1) := by decide +kernel
theorem dX6_writes_43 : decode cX6_writes 43 = .ok (.iadd, 1) := by decide +kernel
theorem dX6_writes_44 : decode cX6_writes 44 = .ok (.iload_n 1, 1) := by decide +kernel
theorem dX6_writes_45 : decode cX6_writes 45 = .ok (.iastore, 1) := by decide +kernel
theorem dX6_writes_46 : decode cX6_writes 46 = .ok (.aload_n 0, 1) := by decide +kernel
theorem dX6_writes_47 : decode cX6_writes 47 = .ok (.getfield 26, 3) := by decide +kernel
theorem dX6_writes_50 : decode cX6_writes 50 = .ok (.bipush 20, 2) := by decide +kernel
theorem dX6_writes_52 : decode cX6_writes 52 = .ok (.dup2, 1) := by decide +kernel
theorem dX6_writes_53 : decode cX6_writes 53 = .ok (.iaload, 1) := by decide +kernel
theorem dX6_writes_54 : decode cX6_writes 54 = .ok (.iconst 1, 1) := by decide +kernel
theorem dX6_writes_55 : decode cX6_writes 55 = .ok (.iadd, 1) := by decide +kernel
theorem dX6_writes_56 : decode cX6_writes 56 = .ok (.iastore, 1) := by decide +kernel
theorem dX6_writes_57 : decode cX6_writes 57 = .ok (.aload_n 0, 1) := by decide +kernel
theorem dX6_writes_58 : decode cX6_writes 58 = .ok (.getfield 26, 3) := by decide +kernel
theorem dX6_writes_61 : decode cX6_writes 61 = .ok (.bipush 20, 2) := by decide +kernel
theorem dX6_writes_63 : decode cX6_writes 63 = .ok (.iaload, 1) := by decide +kernel
theorem dX6_writes_64 : decode cX6_writes 64 = .ok (.ireturn, 1) := by decide +kernel
theorem dX6_tears_0 : decode cX6_tears 0 = .ok (.aload_n 0, 1) := by decide +kernel
theorem dX6_tears_1 : decode cX6_tears 1 = .ok (.invokevirtual 181, 3) := by decide +kernel
theorem dX6_tears_4 : decode cX6_tears 4 = .ok (.aload_n 0, 1) := by decide +kernel
theorem dX6_tears_5 : decode cX6_tears 5 = .ok (.getfield 26, 3) := by decide +kernel
theorem dX6_tears_8 : decode cX6_tears 8 = .ok (.bipush 20, 2) := by decide +kernel
theorem dX6_tears_10 : decode cX6_tears 10 = .ok (.iaload, 1) := by decide +kernel
theorem dX6_tears_11 : decode cX6_tears 11 = .ok (.istore_n 1, 1) := by decide +kernel
theorem dX6_tears_12 : decode cX6_tears 12 = .ok (.iconst 0, 1) := by decide +kernel
theorem dX6_tears_13 : decode cX6_tears 13 = .ok (.istore_n 2, 1) := by decide +kernel
theorem dX6_tears_14 : decode cX6_tears 14 = .ok (.iload_n 2, 1) := by decide +kernel
theorem dX6_tears_15 : decode cX6_tears 15 = .ok (.iconst 5, 1) := by decide +kernel
theorem dX6_tears_16 : decode cX6_tears 16 = .ok (.if_icmp .ge 19, 3) := by decide +kernel
theorem dX6_tears_19 : decode cX6_tears 19 = .ok (.aload_n 0, 1) := by decide +kernel
theorem dX6_tears_20 : decode cX6_tears 20 = .ok (.getfield 26, 3) := by decide +kernel
theorem dX6_tears_23 : decode cX6_tears 23 = .ok (.bipush 21, 2) := by decide +kernel
theorem dX6_tears_25 : decode cX6_tears 25 = .ok (.iload_n 2, 1) := by decide +kernel
theorem dX6_tears_26 : decode cX6_tears 26 = .ok (.iadd, 1) := by decide +kernel
theorem dX6_tears_27 : decode cX6_tears 27 = .ok (.iconst 0, 1) := by decide +kernel
theorem dX6_tears_28 : decode cX6_tears 28 = .ok (.iastore, 1) := by decide +kernel
theorem dX6_tears_29 : decode cX6_tears 29 = .ok (.iinc 2 1, 3) := by decide +kernel
theorem dX6_tears_32 : decode cX6_tears 32 = .ok (.goto (-18), 3) := by decide +kernel
theorem dX6_tears_35 : decode cX6_tears 35 = .ok (.aload_n 0, 1) := by decide +kernel
theorem dX6_tears_36 : decode cX6_tears 36 = .ok (.getfield 26, 3) := by decide +kernel
theorem dX6_tears_39 : decode cX6_tears 39 = .ok (.bipush 20, 2) := by decide +kernel
theorem dX6_tears_41 : decode cX6_tears 41 = .ok (.iconst 0, 1) := by decide +kernel
theorem dX6_tears_42 : decode cX6_tears 42 = .ok (.iastore, 1) := by decide +kernel
theorem dX6_tears_43 : decode cX6_tears 43 = .ok (.iload_n 1, 1) := by decide +kernel
theorem dX6_tears_44 : decode cX6_tears 44 = .ok (.ireturn, 1) := by decide +kernel
theorem dX6_madeOf_0 : decode cX6_madeOf 0 = .ok (.iload_n 2, 1) := by decide +kernel
theorem dX6_madeOf_1 : decode cX6_madeOf 1 = .ok (.bipush 10, 2) := by decide +kernel
theorem dX6_madeOf_3 : decode cX6_madeOf 3 = .ok (.if_icmp .eq 18, 3) := by decide +kernel
theorem dX6_madeOf_6 : decode cX6_madeOf 6 = .ok (.aload_n 0, 1) := by decide +kernel
theorem dX6_madeOf_7 : decode cX6_madeOf 7 = .ok (.getfield 23, 3) := by decide +kernel
theorem dX6_madeOf_10 : decode cX6_madeOf 10 = .ok (.iconst 3, 1) := by decide +kernel
theorem dX6_madeOf_11 : decode cX6_madeOf 11 = .ok (.iload_n 1, 1) := by decide +kernel
theorem dX6_madeOf_12 : decode cX6_madeOf 12 = .ok (.imul, 1) := by decide +kernel
theorem dX6_madeOf_13 : decode cX6_madeOf 13 = .ok (.iaload, 1) := by decide +kernel
theorem dX6_madeOf_14 : decode cX6_madeOf 14 = .ok (.iload_n 2, 1) := by decide +kernel
theorem dX6_madeOf_15 : decode cX6_madeOf 15 = .ok (.invokestatic 125, 3) := by decide +kernel
theorem dX6_madeOf_18 : decode cX6_madeOf 18 = .ok (.ifCond .eq 6, 3) := by decide +kernel
theorem dX6_madeOf_21 : decode cX6_madeOf 21 = .ok (.bipush 10, 2) := by decide +kernel
theorem dX6_madeOf_23 : decode cX6_madeOf 23 = .ok (.ireturn, 1) := by decide +kernel
theorem dX6_madeOf_24 : decode cX6_madeOf 24 = .ok (.iload_n 2, 1) := by decide +kernel
theorem dX6_madeOf_25 : decode cX6_madeOf 25 = .ok (.aload_n 0, 1) := by decide +kernel
theorem dX6_madeOf_26 : decode cX6_madeOf 26 = .ok (.getfield 23, 3) := by decide +kernel
theorem dX6_madeOf_29 : decode cX6_madeOf 29 = .ok (.iconst 3, 1) := by decide +kernel
theorem dX6_madeOf_30 : decode cX6_madeOf 30 = .ok (.iload_n 1, 1) := by decide +kernel
theorem dX6_madeOf_31 : decode cX6_madeOf 31 = .ok (.imul, 1) := by decide +kernel
theorem dX6_madeOf_32 : decode cX6_madeOf 32 = .ok (.iconst 1, 1) := by decide +kernel
theorem dX6_madeOf_33 : decode cX6_madeOf 33 = .ok (.iadd, 1) := by decide +kernel
theorem dX6_madeOf_34 : decode cX6_madeOf 34 = .ok (.iaload, 1) := by decide +kernel
theorem dX6_madeOf_35 : decode cX6_madeOf 35 = .ok (.if_icmp .ne 16, 3) := by decide +kernel
theorem dX6_madeOf_38 : decode cX6_madeOf 38 = .ok (.aload_n 0, 1) := by decide +kernel
theorem dX6_madeOf_39 : decode cX6_madeOf 39 = .ok (.getfield 23, 3) := by decide +kernel
theorem dX6_madeOf_42 : decode cX6_madeOf 42 = .ok (.iconst 3, 1) := by decide +kernel
theorem dX6_madeOf_43 : decode cX6_madeOf 43 = .ok (.iload_n 1, 1) := by decide +kernel
theorem dX6_madeOf_44 : decode cX6_madeOf 44 = .ok (.imul, 1) := by decide +kernel
theorem dX6_madeOf_45 : decode cX6_madeOf 45 = .ok (.iconst 2, 1) := by decide +kernel
theorem dX6_madeOf_46 : decode cX6_madeOf 46 = .ok (.iadd, 1) := by decide +kernel
theorem dX6_madeOf_47 : decode cX6_madeOf 47 = .ok (.iaload, 1) := by decide +kernel
theorem dX6_madeOf_48 : decode cX6_madeOf 48 = .ok (.goto 4, 3) := by decide +kernel
theorem dX6_madeOf_51 : decode cX6_madeOf 51 = .ok (.iload_n 2, 1) := by decide +kernel
theorem dX6_madeOf_52 : decode cX6_madeOf 52 = .ok (.ireturn, 1) := by decide +kernel
theorem dX6_smokes_0 : decode cX6_smokes 0 = .ok (.aload_n 0, 1) := by decide +kernel
theorem dX6_smokes_1 : decode cX6_smokes 1 = .ok (.iload_n 1, 1) := by decide +kernel
theorem dX6_smokes_2 : decode cX6_smokes 2 = .ok (.invokevirtual 162, 3) := by decide +kernel
theorem dX6_smokes_5 : decode cX6_smokes 5 = .ok (.ifCond .ne 5, 3) := by decide +kernel
theorem dX6_smokes_8 : decode cX6_smokes 8 = .ok (.iconst (-1), 1) := by decide +kernel
theorem dX6_smokes_9 : decode cX6_smokes 9 = .ok (.ireturn, 1) := by decide +kernel
theorem dX6_smokes_10 : decode cX6_smokes 10 = .ok (.aload_n 0, 1) := by decide +kernel
theorem dX6_smokes_11 : decode cX6_smokes 11 = .ok (.invokevirtual 181, 3) := by decide +kernel
theorem dX6_smokes_14 : decode cX6_smokes 14 = .ok (.iconst 0, 1) := by decide +kernel
theorem dX6_smokes_15 : decode cX6_smokes 15 = .ok (.istore_n 2, 1) := by decide +kernel
theorem dX6_smokes_16 : decode cX6_smokes 16 = .ok (.iconst 0, 1) := by decide +kernel
theorem dX6_smokes_17 : decode cX6_smokes 17 = .ok (.istore_n 3, 1) := by decide +kernel
theorem dX6_smokes_18 : decode cX6_smokes 18 = .ok (.iload_n 3, 1) := by decide +kernel
theorem dX6_smokes_19 : decode cX6_smokes 19 = .ok (.aload_n 0, 1) := by decide +kernel
theorem dX6_smokes_20 : decode cX6_smokes 20 = .ok (.getfield 26, 3) := by decide +kernel
theorem dX6_smokes_23 : decode cX6_smokes 23 = .ok (.bipush 20, 2) := by decide +kernel
theorem dX6_smokes_25 : decode cX6_smokes 25 = .ok (.iaload, 1) := by decide +kernel
theorem dX6_smokes_26 : decode cX6_smokes 26 = .ok (.if_icmp .ge 54, 3) := by decide +kernel
theorem dX6_smokes_29 : decode cX6_smokes 29 = .ok (.aload_n 0, 1) := by decide +kernel
theorem dX6_smokes_30 : decode cX6_smokes 30 = .ok (.getfield 26, 3) := by decide +kernel
theorem dX6_smokes_33 : decode cX6_smokes 33 = .ok (.bipush 21, 2) := by decide +kernel
theorem dX6_smokes_35 : decode cX6_smokes 35 = .ok (.iload_n 3, 1) := by decide +kernel
theorem dX6_smokes_36 : decode cX6_smokes 36 = .ok (.iadd, 1) := by decide +kernel
theorem dX6_smokes_37 : decode cX6_smokes 37 = .ok (.aload_n 0, 1) := by decide +kernel
theorem dX6_smokes_38 : decode cX6_smokes 38 = .ok (.iload_n 1, 1) := by decide +kernel
theorem dX6_smokes_39 : decode cX6_smokes 39 = .ok (.aload_n 0, 1) := by decide +kernel
theorem dX6_smokes_40 : decode cX6_smokes 40 = .ok (.getfield 26, 3) := by decide +kernel
theorem dX6_smokes_43 : decode cX6_smokes 43 = .ok (.bipush 21, 2) := by decide +kernel
theorem dX6_smokes_45 : decode cX6_smokes 45 = .ok (.iload_n 3, 1) := by decide +kernel
theorem dX6_smokes_46 : decode cX6_smokes 46 = .ok (.iadd, 1) := by decide +kernel
theorem dX6_smokes_47 : decode cX6_smokes 47 = .ok (.iaload, 1) := by decide +kernel
theorem dX6_smokes_48 : decode cX6_smokes 48 = .ok (.invokevirtual 225, 3) := by decide +kernel
theorem dX6_smokes_51 : decode cX6_smokes 51 = .ok (.iastore, 1) := by decide +kernel
theorem dX6_smokes_52 : decode cX6_smokes 52 = .ok (.iload_n 2, 1) := by decide +kernel
theorem dX6_smokes_53 : decode cX6_smokes 53 = .ok (.aload_n 0, 1) := by decide +kernel
theorem dX6_smokes_54 : decode cX6_smokes 54 = .ok (.getfield 26, 3) := by decide +kernel
theorem dX6_smokes_57 : decode cX6_smokes 57 = .ok (.bipush 21, 2) := by decide +kernel
theorem dX6_smokes_59 : decode cX6_smokes 59 = .ok (.iload_n 3, 1) := by decide +kernel
theorem dX6_smokes_60 : decode cX6_smokes 60 = .ok (.iadd, 1) := by decide +kernel
theorem dX6_smokes_61 : decode cX6_smokes 61 = .ok (.iaload, 1) := by decide +kernel
theorem dX6_smokes_62 : decode cX6_smokes 62 = .ok (.bipush 10, 2) := by decide +kernel
theorem dX6_smokes_64 : decode cX6_smokes 64 = .ok (.if_icmp .ne 7, 3) := by decide +kernel
theorem dX6_smokes_67 : decode cX6_smokes 67 = .ok (.iconst 1, 1) := by decide +kernel
theorem dX6_smokes_68 : decode cX6_smokes 68 = .ok (.goto 4, 3) := by decide +kernel
theorem dX6_smokes_71 : decode cX6_smokes 71 = .ok (.iconst 0, 1) := by decide +kernel
theorem dX6_smokes_72 : decode cX6_smokes 72 = .ok (.iadd, 1) := by decide +kernel
theorem dX6_smokes_73 : decode cX6_smokes 73 = .ok (.istore_n 2, 1) := by decide +kernel
theorem dX6_smokes_74 : decode cX6_smokes 74 = .ok (.iinc 3 1, 3) := by decide +kernel
theorem dX6_smokes_77 : decode cX6_smokes 77 = .ok (.goto (-59), 3) := by decide +kernel
theorem dX6_smokes_80 : decode cX6_smokes 80 = .ok (.iload_n 2, 1) := by decide +kernel
theorem dX6_smokes_81 : decode cX6_smokes 81 = .ok (.ireturn, 1) := by decide +kernel
theorem dX6_word_0 : decode cX6_word 0 = .ok (.iload_n 1, 1) := by decide +kernel
theorem dX6_word_1 : decode cX6_word 1 = .ok (.iconst 0, 1) := by decide +kernel
theorem dX6_word_2 : decode cX6_word 2 = .ok (.aload_n 0, 1) := by decide +kernel
theorem dX6_word_3 : decode cX6_word 3 = .ok (.getfield 26, 3) := by decide +kernel
theorem dX6_word_6 : decode cX6_word 6 = .ok (.bipush 20, 2) := by decide +kernel
theorem dX6_word_8 : decode cX6_word 8 = .ok (.iaload, 1) := by decide +kernel
theorem dX6_word_9 : decode cX6_word 9 = .ok (.iconst 1, 1) := by decide +kernel
theorem dX6_word_10 : decode cX6_word 10 = .ok (.isub, 1) := by decide +kernel
theorem dX6_word_11 : decode cX6_word 11 = .ok (.invokestatic 85, 3) := by decide +kernel
theorem dX6_word_14 : decode cX6_word 14 = .ok (.ifCond .eq 15, 3) := by decide +kernel
theorem dX6_word_17 : decode cX6_word 17 = .ok (.aload_n 0, 1) := by decide +kernel
theorem dX6_word_18 : decode cX6_word 18 = .ok (.getfield 26, 3) := by decide +kernel
theorem dX6_word_21 : decode cX6_word 21 = .ok (.bipush 21, 2) := by decide +kernel
theorem dX6_word_23 : decode cX6_word 23 = .ok (.iload_n 1, 1) := by decide +kernel
theorem dX6_word_24 : decode cX6_word 24 = .ok (.iadd, 1) := by decide +kernel
theorem dX6_word_25 : decode cX6_word 25 = .ok (.iaload, 1) := by decide +kernel
theorem dX6_word_26 : decode cX6_word 26 = .ok (.goto 4, 3) := by decide +kernel
theorem dX6_word_29 : decode cX6_word 29 = .ok (.iconst (-1), 1) := by decide +kernel
theorem dX6_word_30 : decode cX6_word 30 = .ok (.ireturn, 1) := by decide +kernel
theorem dX6_brown_0 : decode cX6_brown 0 = .ok (.aload_n 0, 1) := by decide +kernel
theorem dX6_brown_1 : decode cX6_brown 1 = .ok (.iload_n 1, 1) := by decide +kernel
theorem dX6_brown_2 : decode cX6_brown 2 = .ok (.invokevirtual 162, 3) := by decide +kernel
theorem dX6_brown_5 : decode cX6_brown 5 = .ok (.ifCond .ne 5, 3) := by decide +kernel
theorem dX6_brown_8 : decode cX6_brown 8 = .ok (.iconst (-1), 1) := by decide +kernel
theorem dX6_brown_9 : decode cX6_brown 9 = .ok (.ireturn, 1) := by decide +kernel
theorem dX6_brown_10 : decode cX6_brown 10 = .ok (.aload_n 0, 1) := by decide +kernel
theorem dX6_brown_11 : decode cX6_brown 11 = .ok (.getfield 26, 3) := by decide +kernel
theorem dX6_brown_14 : decode cX6_brown 14 = .ok (.bipush 20, 2) := by decide +kernel
theorem dX6_brown_16 : decode cX6_brown 16 = .ok (.iaload, 1) := by decide +kernel
theorem dX6_brown_17 : decode cX6_brown 17 = .ok (.ifCond .eq 24, 3) := by decide +kernel
theorem dX6_brown_20 : decode cX6_brown 20 = .ok (.aload_n 0, 1) := by decide +kernel
theorem dX6_brown_21 : decode cX6_brown 21 = .ok (.getfield 155, 3) := by decide +kernel
theorem dX6_brown_24 : decode cX6_brown 24 = .ok (.ifCond .le 20, 3) := by decide +kernel
theorem dX6_brown_27 : decode cX6_brown 27 = .ok (.aload_n 0, 1) := by decide +kernel
theorem dX6_brown_28 : decode cX6_brown 28 = .ok (.getfield 228, 3) := by decide +kernel
theorem dX6_brown_31 : decode cX6_brown 31 = .ok (.aload_n 0, 1) := by decide +kernel
theorem dX6_brown_32 : decode cX6_brown 32 = .ok (.getfield 26, 3) := by decide +kernel
theorem dX6_brown_35 : decode cX6_brown 35 = .ok (.bipush 20, 2) := by decide +kernel
theorem dX6_brown_37 : decode cX6_brown 37 = .ok (.iaload, 1) := by decide +kernel
theorem dX6_brown_38 : decode cX6_brown 38 = .ok (.if_icmp .eq 6, 3) := by decide +kernel
theorem dX6_brown_41 : decode cX6_brown 41 = .ok (.bipush (-2), 2) := by decide +kernel
theorem dX6_brown_43 : decode cX6_brown 43 = .ok (.ireturn, 1) := by decide +kernel
theorem dX6_brown_44 : decode cX6_brown 44 = .ok (.aload_n 0, 1) := by decide +kernel
theorem dX6_brown_45 : decode cX6_brown 45 = .ok (.getfield 155, 3) := by decide +kernel
theorem dX6_brown_48 : decode cX6_brown 48 = .ok (.iconst 4, 1) := by decide +kernel
theorem dX6_brown_49 : decode cX6_brown 49 = .ok (.if_icmp .ne 6, 3) := by decide +kernel
theorem dX6_brown_52 : decode cX6_brown 52 = .ok (.bipush (-3), 2) := by decide +kernel
theorem dX6_brown_54 : decode cX6_brown 54 = .ok (.ireturn, 1) := by decide +kernel
theorem dX6_brown_55 : decode cX6_brown 55 = .ok (.aload_n 0, 1) := by decide +kernel
theorem dX6_brown_56 : decode cX6_brown 56 = .ok (.aload_n 0, 1) := by decide +kernel
theorem dX6_brown_57 : decode cX6_brown 57 = .ok (.getfield 26, 3) := by decide +kernel
theorem dX6_brown_60 : decode cX6_brown 60 = .ok (.bipush 20, 2) := by decide +kernel
theorem dX6_brown_62 : decode cX6_brown 62 = .ok (.iaload, 1) := by decide +kernel
theorem dX6_brown_63 : decode cX6_brown 63 = .ok (.putfield 228, 3) := by decide +kernel
theorem dX6_brown_66 : decode cX6_brown 66 = .ok (.aload_n 0, 1) := by decide +kernel
theorem dX6_brown_67 : decode cX6_brown 67 = .ok (.getfield 39, 3) := by decide +kernel
theorem dX6_brown_70 : decode cX6_brown 70 = .ok (.aload_n 0, 1) := by decide +kernel
theorem dX6_brown_71 : decode cX6_brown 71 = .ok (.getfield 155, 3) := by decide +kernel
theorem dX6_brown_74 : decode cX6_brown 74 = .ok (.iload_n 1, 1) := by decide +kernel
theorem dX6_brown_75 : decode cX6_brown 75 = .ok (.iastore, 1) := by decide +kernel
theorem dX6_brown_76 : decode cX6_brown 76 = .ok (.iconst 0, 1) := by decide +kernel
theorem dX6_brown_77 : decode cX6_brown 77 = .ok (.istore_n 2, 1) := by decide +kernel
theorem dX6_brown_78 : decode cX6_brown 78 = .ok (.iload_n 2, 1) := by decide +kernel
theorem dX6_brown_79 : decode cX6_brown 79 = .ok (.aload_n 0, 1) := by decide +kernel
theorem dX6_brown_80 : decode cX6_brown 80 = .ok (.getfield 228, 3) := by decide +kernel
theorem dX6_brown_83 : decode cX6_brown 83 = .ok (.if_icmp .ge 31, 3) := by decide +kernel
theorem dX6_brown_86 : decode cX6_brown 86 = .ok (.aload_n 0, 1) := by decide +kernel
theorem dX6_brown_87 : decode cX6_brown 87 = .ok (.getfield 42, 3) := by decide +kernel
theorem dX6_brown_90 : decode cX6_brown 90 = .ok (.iconst 5, 1) := by decide +kernel
theorem dX6_brown_91 : decode cX6_brown 91 = .ok (.aload_n 0, 1) := by decide +kernel
theorem dX6_brown_92 : decode cX6_brown 92 = .ok (.getfield 155, 3) := by decide +kernel
theorem dX6_brown_95 : decode cX6_brown 95 = .ok (.imul, 1) := by decide +kernel
theorem dX6_brown_96 : decode cX6_brown 96 = .ok (.iload_n 2, 1) := by decide +kernel
theorem dX6_brown_97 : decode cX6_brown 97 = .ok (.iadd, 1) := by decide +kernel
theorem dX6_brown_98 : decode cX6_brown 98 = .ok (.aload_n 0, 1) := by decide +kernel
theorem dX6_brown_99 : decode cX6_brown 99 = .ok (.getfield 26, 3) := by decide +kernel
theorem dX6_brown_102 : decode cX6_brown 102 = .ok (.bipush 21, 2) := by decide +kernel
theorem dX6_brown_104 : decode cX6_brown 104 = .ok (.iload_n 2, 1) := by decide +kernel
theorem dX6_brown_105 : decode cX6_brown 105 = .ok (.iadd, 1) := by decide +kernel
theorem dX6_brown_106 : decode cX6_brown 106 = .ok (.iaload, 1) := by decide +kernel
theorem dX6_brown_107 : decode cX6_brown 107 = .ok (.iastore, 1) := by decide +kernel
theorem dX6_brown_108 : decode cX6_brown 108 = .ok (.iinc 2 1, 3) := by decide +kernel
theorem dX6_brown_111 : decode cX6_brown 111 = .ok (.goto (-33), 3) := by decide +kernel
theorem dX6_brown_114 : decode cX6_brown 114 = .ok (.aload_n 0, 1) := by decide +kernel
theorem dX6_brown_115 : decode cX6_brown 115 = .ok (.dup, 1) := by decide +kernel
theorem dX6_brown_116 : decode cX6_brown 116 = .ok (.getfield 155, 3) := by decide +kernel
theorem dX6_brown_119 : decode cX6_brown 119 = .ok (.iconst 1, 1) := by decide +kernel
theorem dX6_brown_120 : decode cX6_brown 120 = .ok (.iadd, 1) := by decide +kernel
theorem dX6_brown_121 : decode cX6_brown 121 = .ok (.putfield 155, 3) := by decide +kernel
theorem dX6_brown_124 : decode cX6_brown 124 = .ok (.aload_n 0, 1) := by decide +kernel
theorem dX6_brown_125 : decode cX6_brown 125 = .ok (.getfield 155, 3) := by decide +kernel
theorem dX6_brown_128 : decode cX6_brown 128 = .ok (.ireturn, 1) := by decide +kernel
theorem dX6_burn_0 : decode cX6_burn 0 = .ok (.aload_n 0, 1) := by decide +kernel
theorem dX6_burn_1 : decode cX6_burn 1 = .ok (.getfield 155, 3) := by decide +kernel
theorem dX6_burn_4 : decode cX6_burn 4 = .ok (.istore_n 1, 1) := by decide +kernel
theorem dX6_burn_5 : decode cX6_burn 5 = .ok (.aload_n 0, 1) := by decide +kernel
theorem dX6_burn_6 : decode cX6_burn 6 = .ok (.iconst 0, 1) := by decide +kernel
theorem dX6_burn_7 : decode cX6_burn 7 = .ok (.putfield 155, 3) := by decide +kernel
theorem dX6_burn_10 : decode cX6_burn 10 = .ok (.iload_n 1, 1) := by decide +kernel
theorem dX6_burn_11 : decode cX6_burn 11 = .ok (.ireturn, 1) := by decide +kernel
theorem dX6_isCopied_0 : decode cX6_isCopied 0 = .ok (.aload_n 0, 1) := by decide +kernel
theorem dX6_isCopied_1 : decode cX6_isCopied 1 = .ok (.getfield 155, 3) := by decide +kernel
theorem dX6_isCopied_4 : decode cX6_isCopied 4 = .ok (.ifCond .le 21, 3) := by decide +kernel
theorem dX6_isCopied_7 : decode cX6_isCopied 7 = .ok (.iload_n 1, 1) := by decide +kernel
theorem dX6_isCopied_8 : decode cX6_isCopied 8 = .ok (.iconst 0, 1) := by decide +kernel
theorem dX6_isCopied_9 : decode cX6_isCopied 9 = .ok (.aload_n 0, 1) := by decide +kernel
theorem dX6_isCopied_10 : decode cX6_isCopied 10 = .ok (.getfield 228, 3) := by decide +kernel
theorem dX6_isCopied_13 : decode cX6_isCopied 13 = .ok (.iconst 1, 1) := by decide +kernel
theorem dX6_isCopied_14 : decode cX6_isCopied 14 = .ok (.isub, 1) := by decide +kernel
theorem dX6_isCopied_15 : decode cX6_isCopied 15 = .ok (.invokestatic 85, 3) := by decide +kernel
theorem dX6_isCopied_18 : decode cX6_isCopied 18 = .ok (.ifCond .eq 7, 3) := by decide +kernel
theorem dX6_isCopied_21 : decode cX6_isCopied 21 = .ok (.iconst 1, 1) := by decide +kernel
theorem dX6_isCopied_22 : decode cX6_isCopied 22 = .ok (.goto 4, 3) := by decide +kernel
theorem dX6_isCopied_25 : decode cX6_isCopied 25 = .ok (.iconst 0, 1) := by decide +kernel
theorem dX6_isCopied_26 : decode cX6_isCopied 26 = .ok (.ireturn, 1) := by decide +kernel
theorem dX6_stoodAt_0 : decode cX6_stoodAt 0 = .ok (.iconst 0, 1) := by decide +kernel
theorem dX6_stoodAt_1 : decode cX6_stoodAt 1 = .ok (.istore_n 2, 1) := by decide +kernel
theorem dX6_stoodAt_2 : decode cX6_stoodAt 2 = .ok (.iconst 0, 1) := by decide +kernel
theorem dX6_stoodAt_3 : decode cX6_stoodAt 3 = .ok (.istore_n 3, 1) := by decide +kernel
theorem dX6_stoodAt_4 : decode cX6_stoodAt 4 = .ok (.iload_n 3, 1) := by decide +kernel
theorem dX6_stoodAt_5 : decode cX6_stoodAt 5 = .ok (.bipush 10, 2) := by decide +kernel
theorem dX6_stoodAt_7 : decode cX6_stoodAt 7 = .ok (.if_icmp .ge 83, 3) := by decide +kernel
theorem dX6_stoodAt_10 : decode cX6_stoodAt 10 = .ok (.iconst 1, 1) := by decide +kernel
theorem dX6_stoodAt_11 : decode cX6_stoodAt 11 = .ok (.istore 4, 2) := by decide +kernel
theorem dX6_stoodAt_13 : decode cX6_stoodAt 13 = .ok (.iconst 0, 1) := by decide +kernel
theorem dX6_stoodAt_14 : decode cX6_stoodAt 14 = .ok (.istore 5, 2) := by decide +kernel
theorem dX6_stoodAt_16 : decode cX6_stoodAt 16 = .ok (.iload 5, 2) := by decide +kernel
theorem dX6_stoodAt_18 : decode cX6_stoodAt 18 = .ok (.aload_n 0, 1) := by decide +kernel
theorem dX6_stoodAt_19 : decode cX6_stoodAt 19 = .ok (.getfield 155, 3) := by decide +kernel
theorem dX6_stoodAt_22 : decode cX6_stoodAt 22 = .ok (.if_icmp .ge 47, 3) := by decide +kernel
theorem dX6_stoodAt_25 : decode cX6_stoodAt 25 = .ok (.iload 4, 2) := by decide +kernel
theorem dX6_stoodAt_27 : decode cX6_stoodAt 27 = .ok (.ifCond .eq 33, 3) := by decide +kernel
theorem dX6_stoodAt_30 : decode cX6_stoodAt 30 = .ok (.aload_n 0, 1) := by decide +kernel
theorem dX6_stoodAt_31 : decode cX6_stoodAt 31 = .ok (.aload_n 0, 1) := by decide +kernel
theorem dX6_stoodAt_32 : decode cX6_stoodAt 32 = .ok (.getfield 39, 3) := by decide +kernel
theorem dX6_stoodAt_35 : decode cX6_stoodAt 35 = .ok (.iload 5, 2) := by decide +kernel
theorem dX6_stoodAt_37 : decode cX6_stoodAt 37 = .ok (.iaload, 1) := by decide +kernel
theorem dX6_stoodAt_38 : decode cX6_stoodAt 38 = .ok (.iload_n 3, 1) := by decide +kernel
theorem dX6_stoodAt_39 : decode cX6_stoodAt 39 = .ok (.invokevirtual 225, 3) := by decide +kernel
theorem dX6_stoodAt_42 : decode cX6_stoodAt 42 = .ok (.aload_n 0, 1) := by decide +kernel
theorem dX6_stoodAt_43 : decode cX6_stoodAt 43 = .ok (.getfield 42, 3) := by decide +kernel
theorem dX6_stoodAt_46 : decode cX6_stoodAt 46 = .ok (.iconst 5, 1) := by decide +kernel
theorem dX6_stoodAt_47 : decode cX6_stoodAt 47 = .ok (.iload 5, 2) := by decide +kernel
theorem dX6_stoodAt_49 : decode cX6_stoodAt 49 = .ok (.imul, 1) := by decide +kernel
theorem dX6_stoodAt_50 : decode cX6_stoodAt 50 = .ok (.iload_n 1, 1) := by decide +kernel
theorem dX6_stoodAt_51 : decode cX6_stoodAt 51 = .ok (.iadd, 1) := by decide +kernel
theorem dX6_stoodAt_52 : decode cX6_stoodAt 52 = .ok (.iaload, 1) := by decide +kernel
theorem dX6_stoodAt_53 : decode cX6_stoodAt 53 = .ok (.if_icmp .ne 7, 3) := by decide +kernel
theorem dX6_stoodAt_56 : decode cX6_stoodAt 56 = .ok (.iconst 1, 1) := by decide +kernel
theorem dX6_stoodAt_57 : decode cX6_stoodAt 57 = .ok (.goto 4, 3) := by decide +kernel
theorem dX6_stoodAt_60 : decode cX6_stoodAt 60 = .ok (.iconst 0, 1) := by decide +kernel
theorem dX6_stoodAt_61 : decode cX6_stoodAt 61 = .ok (.istore 4, 2) := by decide +kernel
theorem dX6_stoodAt_63 : decode cX6_stoodAt 63 = .ok (.iinc 5 1, 3) := by decide +kernel
theorem dX6_stoodAt_66 : decode cX6_stoodAt 66 = .ok (.goto (-50), 3) := by decide +kernel
theorem dX6_stoodAt_69 : decode cX6_stoodAt 69 = .ok (.iload_n 2, 1) := by decide +kernel
theorem dX6_stoodAt_70 : decode cX6_stoodAt 70 = .ok (.iload 4, 2) := by decide +kernel
theorem dX6_stoodAt_72 : decode cX6_stoodAt 72 = .ok (.ifCond .eq 9, 3) := by decide +kernel
theorem dX6_stoodAt_75 : decode cX6_stoodAt 75 = .ok (.iconst 1, 1) := by decide +kernel
theorem dX6_stoodAt_76 : decode cX6_stoodAt 76 = .ok (.iload_n 3, 1) := by decide +kernel
theorem dX6_stoodAt_77 : decode cX6_stoodAt 77 = .ok (.ishl, 1) := by decide +kernel
theorem dX6_stoodAt_78 : decode cX6_stoodAt 78 = .ok (.goto 4, 3) := by decide +kernel
theorem dX6_stoodAt_81 : decode cX6_stoodAt 81 = .ok (.iconst 0, 1) := by decide +kernel
theorem dX6_stoodAt_82 : decode cX6_stoodAt 82 = .ok (.ior, 1) := by decide +kernel
theorem dX6_stoodAt_83 : decode cX6_stoodAt 83 = .ok (.istore_n 2, 1) := by decide +kernel
theorem dX6_stoodAt_84 : decode cX6_stoodAt 84 = .ok (.iinc 3 1, 3) := by decide +kernel
theorem dX6_stoodAt_87 : decode cX6_stoodAt 87 = .ok (.goto (-83), 3) := by decide +kernel
theorem dX6_stoodAt_90 : decode cX6_stoodAt 90 = .ok (.iload_n 2, 1) := by decide +kernel
theorem dX6_stoodAt_91 : decode cX6_stoodAt 91 = .ok (.ireturn, 1) := by decide +kernel
theorem dX6_stood_0 : decode cX6_stood 0 = .ok (.aload_n 0, 1) := by decide +kernel
theorem dX6_stood_1 : decode cX6_stood 1 = .ok (.iload_n 1, 1) := by decide +kernel
theorem dX6_stood_2 : decode cX6_stood 2 = .ok (.invokevirtual 231, 3) := by decide +kernel
theorem dX6_stood_5 : decode cX6_stood 5 = .ok (.ifCond .eq 11, 3) := by decide +kernel
theorem dX6_stood_8 : decode cX6_stood 8 = .ok (.aload_n 0, 1) := by decide +kernel
theorem dX6_stood_9 : decode cX6_stood 9 = .ok (.iload_n 1, 1) := by decide +kernel
theorem dX6_stood_10 : decode cX6_stood 10 = .ok (.invokevirtual 234, 3) := by decide +kernel
theorem dX6_stood_13 : decode cX6_stood 13 = .ok (.goto 4, 3) := by decide +kernel
theorem dX6_stood_16 : decode cX6_stood 16 = .ok (.iconst (-1), 1) := by decide +kernel
theorem dX6_stood_17 : decode cX6_stood 17 = .ok (.ireturn, 1) := by decide +kernel
theorem dX6_sureOf_0 : decode cX6_sureOf 0 = .ok (.iconst 0, 1) := by decide +kernel
theorem dX6_sureOf_1 : decode cX6_sureOf 1 = .ok (.istore_n 2, 1) := by decide +kernel
theorem dX6_sureOf_2 : decode cX6_sureOf 2 = .ok (.iload_n 1, 1) := by decide +kernel
theorem dX6_sureOf_3 : decode cX6_sureOf 3 = .ok (.iload_n 2, 1) := by decide +kernel
theorem dX6_sureOf_4 : decode cX6_sureOf 4 = .ok (.invokestatic 125, 3) := by decide +kernel
theorem dX6_sureOf_7 : decode cX6_sureOf 7 = .ok (.ifCond .ne 9, 3) := by decide +kernel
theorem dX6_sureOf_10 : decode cX6_sureOf 10 = .ok (.iinc 2 1, 3) := by decide +kernel
theorem dX6_sureOf_13 : decode cX6_sureOf 13 = .ok (.goto (-11), 3) := by decide +kernel
theorem dX6_sureOf_16 : decode cX6_sureOf 16 = .ok (.iload_n 2, 1) := by decide +kernel
theorem dX6_sureOf_17 : decode cX6_sureOf 17 = .ok (.ireturn, 1) := by decide +kernel
theorem dX6_ways_0 : decode cX6_ways 0 = .ok (.aload_n 0, 1) := by decide +kernel
theorem dX6_ways_1 : decode cX6_ways 1 = .ok (.getfield 155, 3) := by decide +kernel
theorem dX6_ways_4 : decode cX6_ways 4 = .ok (.ifCond .le 7, 3) := by decide +kernel
theorem dX6_ways_7 : decode cX6_ways 7 = .ok (.iconst 1, 1) := by decide +kernel
theorem dX6_ways_8 : decode cX6_ways 8 = .ok (.goto 4, 3) := by decide +kernel
theorem dX6_ways_11 : decode cX6_ways 11 = .ok (.iconst 0, 1) := by decide +kernel
theorem dX6_ways_12 : decode cX6_ways 12 = .ok (.istore_n 1, 1) := by decide +kernel
theorem dX6_ways_13 : decode cX6_ways 13 = .ok (.iconst 0, 1) := by decide +kernel
theorem dX6_ways_14 : decode cX6_ways 14 = .ok (.istore_n 2, 1) := by decide +kernel
theorem dX6_ways_15 : decode cX6_ways 15 = .ok (.aload_n 0, 1) := by decide +kernel
theorem dX6_ways_16 : decode cX6_ways 16 = .ok (.iload_n 2, 1) := by decide +kernel
theorem dX6_ways_17 : decode cX6_ways 17 = .ok (.invokevirtual 231, 3) := by decide +kernel
theorem dX6_ways_20 : decode cX6_ways 20 = .ok (.ifCond .eq 20, 3) := by decide +kernel
theorem dX6_ways_23 : decode cX6_ways 23 = .ok (.iload_n 1, 1) := by decide +kernel
theorem dX6_ways_24 : decode cX6_ways 24 = .ok (.aload_n 0, 1) := by decide +kernel
theorem dX6_ways_25 : decode cX6_ways 25 = .ok (.iload_n 2, 1) := by decide +kernel
theorem dX6_ways_26 : decode cX6_ways 26 = .ok (.invokevirtual 234, 3) := by decide +kernel
theorem dX6_ways_29 : decode cX6_ways 29 = .ok (.invokestatic 188, 3) := by decide +kernel
theorem dX6_ways_32 : decode cX6_ways 32 = .ok (.imul, 1) := by decide +kernel
theorem dX6_ways_33 : decode cX6_ways 33 = .ok (.istore_n 1, 1) := by decide +kernel
theorem dX6_ways_34 : decode cX6_ways 34 = .ok (.iinc 2 1, 3) := by decide +kernel
theorem dX6_ways_37 : decode cX6_ways 37 = .ok (.goto (-22), 3) := by decide +kernel
theorem dX6_ways_40 : decode cX6_ways 40 = .ok (.iload_n 1, 1) := by decide +kernel
theorem dX6_ways_41 : decode cX6_ways 41 = .ok (.ireturn, 1) := by decide +kernel
theorem dX6_letters_0 : decode cX6_letters 0 = .ok (.iload_n 1, 1) := by decide +kernel
theorem dX6_letters_1 : decode cX6_letters 1 = .ok (.bipush (-9), 2) := by decide +kernel
theorem dX6_letters_3 : decode cX6_letters 3 = .ok (.if_icmp .ne 8, 3) := by decide +kernel
theorem dX6_letters_6 : decode cX6_letters 6 = .ok (.aload_n 0, 1) := by decide +kernel
theorem dX6_letters_7 : decode cX6_letters 7 = .ok (.invokevirtual 237, 3) := by decide +kernel
theorem dX6_letters_10 : decode cX6_letters 10 = .ok (.ireturn, 1) := by decide +kernel
theorem dX6_letters_11 : decode cX6_letters 11 = .ok (.aload_n 0, 1) := by decide +kernel
theorem dX6_letters_12 : decode cX6_letters 12 = .ok (.iload_n 1, 1) := by decide +kernel
theorem dX6_letters_13 : decode cX6_letters 13 = .ok (.invokevirtual 231, 3) := by decide +kernel
theorem dX6_letters_16 : decode cX6_letters 16 = .ok (.ifCond .ne 5, 3) := by decide +kernel
theorem dX6_letters_19 : decode cX6_letters 19 = .ok (.iconst (-1), 1) := by decide +kernel
theorem dX6_letters_20 : decode cX6_letters 20 = .ok (.ireturn, 1) := by decide +kernel
theorem dX6_letters_21 : decode cX6_letters 21 = .ok (.aload_n 0, 1) := by decide +kernel
theorem dX6_letters_22 : decode cX6_letters 22 = .ok (.iload_n 1, 1) := by decide +kernel
theorem dX6_letters_23 : decode cX6_letters 23 = .ok (.invokevirtual 234, 3) := by decide +kernel
theorem dX6_letters_26 : decode cX6_letters 26 = .ok (.istore_n 2, 1) := by decide +kernel
theorem dX6_letters_27 : decode cX6_letters 27 = .ok (.aload_n 0, 1) := by decide +kernel
theorem dX6_letters_28 : decode cX6_letters 28 = .ok (.invokevirtual 237, 3) := by decide +kernel
theorem dX6_letters_31 : decode cX6_letters 31 = .ok (.ifCond .ne 8, 3) := by decide +kernel
theorem dX6_letters_34 : decode cX6_letters 34 = .ok (.bipush (-9), 2) := by decide +kernel
theorem dX6_letters_36 : decode cX6_letters 36 = .ok (.goto 21, 3) := by decide +kernel
theorem dX6_letters_39 : decode cX6_letters 39 = .ok (.iload_n 2, 1) := by decide +kernel
theorem dX6_letters_40 : decode cX6_letters 40 = .ok (.invokestatic 188, 3) := by decide +kernel
theorem dX6_letters_43 : decode cX6_letters 43 = .ok (.iconst 1, 1) := by decide +kernel
theorem dX6_letters_44 : decode cX6_letters 44 = .ok (.if_icmp .le 8, 3) := by decide +kernel
theorem dX6_letters_47 : decode cX6_letters 47 = .ok (.bipush (-5), 2) := by decide +kernel
theorem dX6_letters_49 : decode cX6_letters 49 = .ok (.goto 8, 3) := by decide +kernel
theorem dX6_letters_52 : decode cX6_letters 52 = .ok (.aload_n 0, 1) := by decide +kernel
theorem dX6_letters_53 : decode cX6_letters 53 = .ok (.iload_n 2, 1) := by decide +kernel
theorem dX6_letters_54 : decode cX6_letters 54 = .ok (.invokevirtual 240, 3) := by decide +kernel
theorem dX6_letters_57 : decode cX6_letters 57 = .ok (.ireturn, 1) := by decide +kernel
theorem dX6_reads_0 : decode cX6_reads 0 = .ok (.aload_n 0, 1) := by decide +kernel
theorem dX6_reads_1 : decode cX6_reads 1 = .ok (.iconst 0, 1) := by decide +kernel
theorem dX6_reads_2 : decode cX6_reads 2 = .ok (.putfield 243, 3) := by decide +kernel
theorem dX6_reads_5 : decode cX6_reads 5 = .ok (.iload_n 1, 1) := by decide +kernel
theorem dX6_reads_6 : decode cX6_reads 6 = .ok (.bipush 11, 2) := by decide +kernel
theorem dX6_reads_8 : decode cX6_reads 8 = .ok (.ldc 246, 2) := by decide +kernel
theorem dX6_reads_10 : decode cX6_reads 10 = .ok (.invokestatic 85, 3) := by decide +kernel
theorem dX6_reads_13 : decode cX6_reads 13 = .ok (.istore_n 2, 1) := by decide +kernel
theorem dX6_reads_14 : decode cX6_reads 14 = .ok (.iload_n 1, 1) := by decide +kernel
theorem dX6_reads_15 : decode cX6_reads 15 = .ok (.istore_n 3, 1) := by decide +kernel
theorem dX6_reads_16 : decode cX6_reads 16 = .ok (.iload_n 2, 1) := by decide +kernel
theorem dX6_reads_17 : decode cX6_reads 17 = .ok (.ifCond .eq 93, 3) := by decide +kernel
theorem dX6_reads_20 : decode cX6_reads 20 = .ok (.iload_n 3, 1) := by decide +kernel
theorem dX6_reads_21 : decode cX6_reads 21 = .ok (.bipush 11, 2) := by decide +kernel
theorem dX6_reads_23 : decode cX6_reads 23 = .ok (.if_icmp .lt 87, 3) := by decide +kernel
theorem dX6_reads_26 : decode cX6_reads 26 = .ok (.aload_n 0, 1) := by decide +kernel
theorem dX6_reads_27 : decode cX6_reads 27 = .ok (.getfield 243, 3) := by decide +kernel
theorem dX6_reads_30 : decode cX6_reads 30 = .ok (.iconst 5, 1) := by decide +kernel
theorem dX6_reads_31 : decode cX6_reads 31 = .ok (.if_icmp .ge 79, 3) := by decide +kernel
theorem dX6_reads_34 : decode cX6_reads 34 = .ok (.iload_n 3, 1) := by decide +kernel
theorem dX6_reads_35 : decode cX6_reads 35 = .ok (.bipush 11, 2) := by decide +kernel
theorem dX6_reads_37 : decode cX6_reads 37 = .ok (.irem, 1) := by decide +kernel
theorem dX6_reads_38 : decode cX6_reads 38 = .ok (.bipush 10, 2) := by decide +kernel
theorem dX6_reads_40 : decode cX6_reads 40 = .ok (.if_icmp .ge 7, 3) := by decide +kernel
theorem dX6_reads_43 : decode cX6_reads 43 = .ok (.iconst 1, 1) := by decide +kernel
theorem dX6_reads_44 : decode cX6_reads 44 = .ok (.goto 4, 3) := by decide +kernel
theorem dX6_reads_47 : decode cX6_reads 47 = .ok (.iconst 0, 1) := by decide +kernel
theorem dX6_reads_48 : decode cX6_reads 48 = .ok (.istore_n 2, 1) := by decide +kernel
theorem dX6_reads_49 : decode cX6_reads 49 = .ok (.aload_n 0, 1) := by decide +kernel
theorem dX6_reads_50 : decode cX6_reads 50 = .ok (.getfield 243, 3) := by decide +kernel
theorem dX6_reads_53 : decode cX6_reads 53 = .ok (.istore 4, 2) := by decide +kernel
theorem dX6_reads_55 : decode cX6_reads 55 = .ok (.iload 4, 2) := by decide +kernel
theorem dX6_reads_57 : decode cX6_reads 57 = .ok (.ifCond .le 25, 3) := by decide +kernel
theorem dX6_reads_60 : decode cX6_reads 60 = .ok (.aload_n 0, 1) := by decide +kernel
theorem dX6_reads_61 : decode cX6_reads 61 = .ok (.getfield 73, 3) := by decide +kernel
theorem dX6_reads_64 : decode cX6_reads 64 = .ok (.iload 4, 2) := by decide +kernel
theorem dX6_reads_66 : decode cX6_reads 66 = .ok (.aload_n 0, 1) := by decide +kernel
theorem dX6_reads_67 : decode cX6_reads 67 = .ok (.getfield 73, 3) := by decide +kernel
theorem dX6_reads_70 : decode cX6_reads 70 = .ok (.iload 4, 2) := by decide +kernel
theorem dX6_reads_72 : decode cX6_reads 72 = .ok (.iconst 1, 1) := by decide +kernel
theorem dX6_reads_73 : decode cX6_reads 73 = .ok (.isub, 1) := by decide +kernel
theorem dX6_reads_74 : decode cX6_reads 74 = .ok (.iaload, 1) := by decide +kernel
theorem dX6_reads_75 : decode cX6_reads 75 = .ok (.iastore, 1) := by decide +kernel
theorem dX6_reads_76 : decode cX6_reads 76 = .ok (.iinc 4 (-1), 3) := by decide +kernel
theorem dX6_reads_79 : decode cX6_reads 79 = .ok (.goto (-24), 3) := by decide +kernel
theorem dX6_reads_82 : decode cX6_reads 82 = .ok (.aload_n 0, 1) := by decide +kernel
theorem dX6_reads_83 : decode cX6_reads 83 = .ok (.getfield 73, 3) := by decide +kernel
theorem dX6_reads_86 : decode cX6_reads 86 = .ok (.iconst 0, 1) := by decide +kernel
theorem dX6_reads_87 : decode cX6_reads 87 = .ok (.iload_n 3, 1) := by decide +kernel
theorem dX6_reads_88 : decode cX6_reads 88 = .ok (.bipush 11, 2) := by decide +kernel
theorem dX6_reads_90 : decode cX6_reads 90 = .ok (.irem, 1) := by decide +kernel
theorem dX6_reads_91 : decode cX6_reads 91 = .ok (.iastore, 1) := by decide +kernel
theorem dX6_reads_92 : decode cX6_reads 92 = .ok (.aload_n 0, 1) := by decide +kernel
theorem dX6_reads_93 : decode cX6_reads 93 = .ok (.dup, 1) := by decide +kernel
theorem dX6_reads_94 : decode cX6_reads 94 = .ok (.getfield 243, 3) := by decide +kernel
theorem dX6_reads_97 : decode cX6_reads 97 = .ok (.iconst 1, 1) := by decide +kernel
theorem dX6_reads_98 : decode cX6_reads 98 = .ok (.iadd, 1) := by decide +kernel
theorem dX6_reads_99 : decode cX6_reads 99 = .ok (.putfield 243, 3) := by decide +kernel
theorem dX6_reads_102 : decode cX6_reads 102 = .ok (.iload_n 3, 1) := by decide +kernel
theorem dX6_reads_103 : decode cX6_reads 103 = .ok (.bipush 11, 2) := by decide +kernel
theorem dX6_reads_105 : decode cX6_reads 105 = .ok (.idiv, 1) := by decide +kernel
theorem dX6_reads_106 : decode cX6_reads 106 = .ok (.istore_n 3, 1) := by decide +kernel
theorem dX6_reads_107 : decode cX6_reads 107 = .ok (.goto (-91), 3) := by decide +kernel
theorem dX6_reads_110 : decode cX6_reads 110 = .ok (.iload_n 2, 1) := by decide +kernel
theorem dX6_reads_111 : decode cX6_reads 111 = .ok (.ifCond .eq 12, 3) := by decide +kernel
theorem dX6_reads_114 : decode cX6_reads 114 = .ok (.iload_n 3, 1) := by decide +kernel
theorem dX6_reads_115 : decode cX6_reads 115 = .ok (.iconst 1, 1) := by decide +kernel
theorem dX6_reads_116 : decode cX6_reads 116 = .ok (.if_icmp .ne 7, 3) := by decide +kernel
theorem dX6_reads_119 : decode cX6_reads 119 = .ok (.iconst 1, 1) := by decide +kernel
theorem dX6_reads_120 : decode cX6_reads 120 = .ok (.goto 4, 3) := by decide +kernel
theorem dX6_reads_123 : decode cX6_reads 123 = .ok (.iconst 0, 1) := by decide +kernel
theorem dX6_reads_124 : decode cX6_reads 124 = .ok (.ireturn, 1) := by decide +kernel
theorem dX6_isLetter_0 : decode cX6_isLetter 0 = .ok (.aload_n 0, 1) := by decide +kernel
theorem dX6_isLetter_1 : decode cX6_isLetter 1 = .ok (.getfield 243, 3) := by decide +kernel
theorem dX6_isLetter_4 : decode cX6_isLetter 4 = .ok (.aload_n 0, 1) := by decide +kernel
theorem dX6_isLetter_5 : decode cX6_isLetter 5 = .ok (.getfield 26, 3) := by decide +kernel
theorem dX6_isLetter_8 : decode cX6_isLetter 8 = .ok (.bipush 20, 2) := by decide +kernel
theorem dX6_isLetter_10 : decode cX6_isLetter 10 = .ok (.iaload, 1) := by decide +kernel
theorem dX6_isLetter_11 : decode cX6_isLetter 11 = .ok (.if_icmp .ne 7, 3) := by decide +kernel
theorem dX6_isLetter_14 : decode cX6_isLetter 14 = .ok (.iconst 1, 1) := by decide +kernel
theorem dX6_isLetter_15 : decode cX6_isLetter 15 = .ok (.goto 4, 3) := by decide +kernel
theorem dX6_isLetter_18 : decode cX6_isLetter 18 = .ok (.iconst 0, 1) := by decide +kernel
theorem dX6_isLetter_19 : decode cX6_isLetter 19 = .ok (.istore_n 2, 1) := by decide +kernel
theorem dX6_isLetter_20 : decode cX6_isLetter 20 = .ok (.iconst 0, 1) := by decide +kernel
theorem dX6_isLetter_21 : decode cX6_isLetter 21 = .ok (.istore_n 3, 1) := by decide +kernel
theorem dX6_isLetter_22 : decode cX6_isLetter 22 = .ok (.iload_n 3, 1) := by decide +kernel
theorem dX6_isLetter_23 : decode cX6_isLetter 23 = .ok (.aload_n 0, 1) := by decide +kernel
theorem dX6_isLetter_24 : decode cX6_isLetter 24 = .ok (.getfield 243, 3) := by decide +kernel
theorem dX6_isLetter_27 : decode cX6_isLetter 27 = .ok (.if_icmp .ge 34, 3) := by decide +kernel
theorem dX6_isLetter_30 : decode cX6_isLetter 30 = .ok (.iload_n 2, 1) := by decide +kernel
theorem dX6_isLetter_31 : decode cX6_isLetter 31 = .ok (.ifCond .eq 22, 3) := by decide +kernel
theorem dX6_isLetter_34 : decode cX6_isLetter 34 = .ok (.aload_n 1, 1) := by decide +kernel
theorem dX6_isLetter_35 : decode cX6_isLetter 35 = .ok (.iload_n 3, 1) := by decide +kernel
theorem dX6_isLetter_36 : decode cX6_isLetter 36 = .ok (.iaload, 1) := by decide +kernel
theorem dX6_isLetter_37 : decode cX6_isLetter 37 = .ok (.aload_n 0, 1) := by decide +kernel
theorem dX6_isLetter_38 : decode cX6_isLetter 38 = .ok (.getfield 26, 3) := by decide +kernel
theorem dX6_isLetter_41 : decode cX6_isLetter 41 = .ok (.bipush 21, 2) := by decide +kernel
theorem dX6_isLetter_43 : decode cX6_isLetter 43 = .ok (.iload_n 3, 1) := by decide +kernel
theorem dX6_isLetter_44 : decode cX6_isLetter 44 = .ok (.iadd, 1) := by decide +kernel
theorem dX6_isLetter_45 : decode cX6_isLetter 45 = .ok (.iaload, 1) := by decide +kernel
theorem dX6_isLetter_46 : decode cX6_isLetter 46 = .ok (.if_icmp .ne 7, 3) := by decide +kernel
theorem dX6_isLetter_49 : decode cX6_isLetter 49 = .ok (.iconst 1, 1) := by decide +kernel
theorem dX6_isLetter_50 : decode cX6_isLetter 50 = .ok (.goto 4, 3) := by decide +kernel
theorem dX6_isLetter_53 : decode cX6_isLetter 53 = .ok (.iconst 0, 1) := by decide +kernel
theorem dX6_isLetter_54 : decode cX6_isLetter 54 = .ok (.istore_n 2, 1) := by decide +kernel
theorem dX6_isLetter_55 : decode cX6_isLetter 55 = .ok (.iinc 3 1, 3) := by decide +kernel
theorem dX6_isLetter_58 : decode cX6_isLetter 58 = .ok (.goto (-36), 3) := by decide +kernel
theorem dX6_isLetter_61 : decode cX6_isLetter 61 = .ok (.iload_n 2, 1) := by decide +kernel
theorem dX6_isLetter_62 : decode cX6_isLetter 62 = .ok (.ireturn, 1) := by decide +kernel
theorem dX6_begins_0 : decode cX6_begins 0 = .ok (.iconst 0, 1) := by decide +kernel
theorem dX6_begins_1 : decode cX6_begins 1 = .ok (.istore_n 1, 1) := by decide +kernel
theorem dX6_begins_2 : decode cX6_begins 2 = .ok (.iload_n 1, 1) := by decide +kernel
theorem dX6_begins_3 : decode cX6_begins 3 = .ok (.iconst 5, 1) := by decide +kernel
theorem dX6_begins_4 : decode cX6_begins 4 = .ok (.if_icmp .ge 21, 3) := by decide +kernel
theorem dX6_begins_7 : decode cX6_begins 7 = .ok (.aload_n 0, 1) := by decide +kernel
theorem dX6_begins_8 : decode cX6_begins 8 = .ok (.getfield 76, 3) := by decide +kernel
theorem dX6_begins_11 : decode cX6_begins 11 = .ok (.iload_n 1, 1) := by decide +kernel
theorem dX6_begins_12 : decode cX6_begins 12 = .ok (.aload_n 0, 1) := by decide +kernel
theorem dX6_begins_13 : decode cX6_begins 13 = .ok (.getfield 73, 3) := by decide +kernel
theorem dX6_begins_16 : decode cX6_begins 16 = .ok (.iload_n 1, 1) := by decide +kernel
theorem dX6_begins_17 : decode cX6_begins 17 = .ok (.iaload, 1) := by decide +kernel
theorem dX6_begins_18 : decode cX6_begins 18 = .ok (.iastore, 1) := by decide +kernel
theorem dX6_begins_19 : decode cX6_begins 19 = .ok (.iinc 1 1, 3) := by decide +kernel
theorem dX6_begins_22 : decode cX6_begins 22 = .ok (.goto (-20), 3) := by decide +kernel
theorem dX6_begins_25 : decode cX6_begins 25 = .ok (.return_, 1) := by decide +kernel
theorem dX6_smokesOn_0 : decode cX6_smokesOn 0 = .ok (.iconst 0, 1) := by decide +kernel
theorem dX6_smokesOn_1 : decode cX6_smokesOn 1 = .ok (.istore_n 2, 1) := by decide +kernel
theorem dX6_smokesOn_2 : decode cX6_smokesOn 2 = .ok (.iload_n 2, 1) := by decide +kernel
theorem dX6_smokesOn_3 : decode cX6_smokesOn 3 = .ok (.aload_n 0, 1) := by decide +kernel
theorem dX6_smokesOn_4 : decode cX6_smokesOn 4 = .ok (.getfield 243, 3) := by decide +kernel
theorem dX6_smokesOn_7 : decode cX6_smokesOn 7 = .ok (.if_icmp .ge 26, 3) := by decide +kernel
theorem dX6_smokesOn_10 : decode cX6_smokesOn 10 = .ok (.aload_n 0, 1) := by decide +kernel
theorem dX6_smokesOn_11 : decode cX6_smokesOn 11 = .ok (.getfield 76, 3) := by decide +kernel
theorem dX6_smokesOn_14 : decode cX6_smokesOn 14 = .ok (.iload_n 2, 1) := by decide +kernel
theorem dX6_smokesOn_15 : decode cX6_smokesOn 15 = .ok (.aload_n 0, 1) := by decide +kernel
theorem dX6_smokesOn_16 : decode cX6_smokesOn 16 = .ok (.iload_n 1, 1) := by decide +kernel
theorem dX6_smokesOn_17 : decode cX6_smokesOn 17 = .ok (.aload_n 0, 1) := by decide +kernel
theorem dX6_smokesOn_18 : decode cX6_smokesOn 18 = .ok (.getfield 76, 3) := by decide +kernel
theorem dX6_smokesOn_21 : decode cX6_smokesOn 21 = .ok (.iload_n 2, 1) := by decide +kernel
theorem dX6_smokesOn_22 : decode cX6_smokesOn 22 = .ok (.iaload, 1) := by decide +kernel
theorem dX6_smokesOn_23 : decode cX6_smokesOn 23 = .ok (.invokevirtual 225, 3) := by decide +kernel
theorem dX6_smokesOn_26 : decode cX6_smokesOn 26 = .ok (.iastore, 1) := by decide +kernel
theorem dX6_smokesOn_27 : decode cX6_smokesOn 27 = .ok (.iinc 2 1, 3) := by decide +kernel
theorem dX6_smokesOn_30 : decode cX6_smokesOn 30 = .ok (.goto (-28), 3) := by decide +kernel
theorem dX6_smokesOn_33 : decode cX6_smokesOn 33 = .ok (.return_, 1) := by decide +kernel
theorem dX6_whose_0 : decode cX6_whose 0 = .ok (.aload_n 0, 1) := by decide +kernel
theorem dX6_whose_1 : decode cX6_whose 1 = .ok (.iload_n 1, 1) := by decide +kernel
theorem dX6_whose_2 : decode cX6_whose 2 = .ok (.invokevirtual 247, 3) := by decide +kernel
theorem dX6_whose_5 : decode cX6_whose 5 = .ok (.ifCond .ne 5, 3) := by decide +kernel
theorem dX6_whose_8 : decode cX6_whose 8 = .ok (.iconst (-1), 1) := by decide +kernel
theorem dX6_whose_9 : decode cX6_whose 9 = .ok (.ireturn, 1) := by decide +kernel
theorem dX6_whose_10 : decode cX6_whose 10 = .ok (.iconst 0, 1) := by decide +kernel
theorem dX6_whose_11 : decode cX6_whose 11 = .ok (.istore_n 2, 1) := by decide +kernel
theorem dX6_whose_12 : decode cX6_whose 12 = .ok (.iconst 0, 1) := by decide +kernel
theorem dX6_whose_13 : decode cX6_whose 13 = .ok (.istore_n 3, 1) := by decide +kernel
theorem dX6_whose_14 : decode cX6_whose 14 = .ok (.iload_n 3, 1) := by decide +kernel
theorem dX6_whose_15 : decode cX6_whose 15 = .ok (.aload_n 0, 1) := by decide +kernel
theorem dX6_whose_16 : decode cX6_whose 16 = .ok (.getfield 89, 3) := by decide +kernel
theorem dX6_whose_19 : decode cX6_whose 19 = .ok (.if_icmp .ge 39, 3) := by decide +kernel
theorem dX6_whose_22 : decode cX6_whose 22 = .ok (.aload_n 0, 1) := by decide +kernel
theorem dX6_whose_23 : decode cX6_whose 23 = .ok (.invokevirtual 250, 3) := by decide +kernel
theorem dX6_whose_26 : decode cX6_whose 26 = .ok (.aload_n 0, 1) := by decide +kernel
theorem dX6_whose_27 : decode cX6_whose 27 = .ok (.iload_n 3, 1) := by decide +kernel
theorem dX6_whose_28 : decode cX6_whose 28 = .ok (.invokevirtual 253, 3) := by decide +kernel
theorem dX6_whose_31 : decode cX6_whose 31 = .ok (.iload_n 2, 1) := by decide +kernel
theorem dX6_whose_32 : decode cX6_whose 32 = .ok (.aload_n 0, 1) := by decide +kernel
theorem dX6_whose_33 : decode cX6_whose 33 = .ok (.aload_n 0, 1) := by decide +kernel
theorem dX6_whose_34 : decode cX6_whose 34 = .ok (.getfield 76, 3) := by decide +kernel
theorem dX6_whose_37 : decode cX6_whose 37 = .ok (.invokevirtual 256, 3) := by decide +kernel
theorem dX6_whose_40 : decode cX6_whose 40 = .ok (.ifCond .eq 9, 3) := by decide +kernel
theorem dX6_whose_43 : decode cX6_whose 43 = .ok (.iconst 1, 1) := by decide +kernel
theorem dX6_whose_44 : decode cX6_whose 44 = .ok (.iload_n 3, 1) := by decide +kernel
theorem dX6_whose_45 : decode cX6_whose 45 = .ok (.ishl, 1) := by decide +kernel
theorem dX6_whose_46 : decode cX6_whose 46 = .ok (.goto 4, 3) := by decide +kernel
theorem dX6_whose_49 : decode cX6_whose 49 = .ok (.iconst 0, 1) := by decide +kernel
theorem dX6_whose_50 : decode cX6_whose 50 = .ok (.ior, 1) := by decide +kernel
theorem dX6_whose_51 : decode cX6_whose 51 = .ok (.istore_n 2, 1) := by decide +kernel
theorem dX6_whose_52 : decode cX6_whose 52 = .ok (.iinc 3 1, 3) := by decide +kernel
theorem dX6_whose_55 : decode cX6_whose 55 = .ok (.goto (-41), 3) := by decide +kernel
theorem dX6_whose_58 : decode cX6_whose 58 = .ok (.iload_n 2, 1) := by decide +kernel
theorem dX6_whose_59 : decode cX6_whose 59 = .ok (.ireturn, 1) := by decide +kernel
theorem dX6_makes_0 : decode cX6_makes 0 = .ok (.iload_n 2, 1) := by decide +kernel
theorem dX6_makes_1 : decode cX6_makes 1 = .ok (.istore_n 3, 1) := by decide +kernel
theorem dX6_makes_2 : decode cX6_makes 2 = .ok (.iconst 0, 1) := by decide +kernel
theorem dX6_makes_3 : decode cX6_makes 3 = .ok (.istore 4, 2) := by decide +kernel
theorem dX6_makes_5 : decode cX6_makes 5 = .ok (.iload_n 1, 1) := by decide +kernel
theorem dX6_makes_6 : decode cX6_makes 6 = .ok (.iconst 1, 1) := by decide +kernel
theorem dX6_makes_7 : decode cX6_makes 7 = .ok (.isub, 1) := by decide +kernel
theorem dX6_makes_8 : decode cX6_makes 8 = .ok (.istore 5, 2) := by decide +kernel
theorem dX6_makes_10 : decode cX6_makes 10 = .ok (.iload 5, 2) := by decide +kernel
theorem dX6_makes_12 : decode cX6_makes 12 = .ok (.ifCond .lt 43, 3) := by decide +kernel
theorem dX6_makes_15 : decode cX6_makes 15 = .ok (.aload_n 0, 1) := by decide +kernel
theorem dX6_makes_16 : decode cX6_makes 16 = .ok (.getfield 79, 3) := by decide +kernel
theorem dX6_makes_19 : decode cX6_makes 19 = .ok (.iload 5, 2) := by decide +kernel
theorem dX6_makes_21 : decode cX6_makes 21 = .ok (.iload_n 3, 1) := by decide +kernel
theorem dX6_makes_22 : decode cX6_makes 22 = .ok (.aload_n 0, 1) := by decide +kernel
theorem dX6_makes_23 : decode cX6_makes 23 = .ok (.getfield 89, 3) := by decide +kernel
theorem dX6_makes_26 : decode cX6_makes 26 = .ok (.irem, 1) := by decide +kernel
theorem dX6_makes_27 : decode cX6_makes 27 = .ok (.iastore, 1) := by decide +kernel
theorem dX6_makes_28 : decode cX6_makes 28 = .ok (.iload 4, 2) := by decide +kernel
theorem dX6_makes_30 : decode cX6_makes 30 = .ok (.iconst 1, 1) := by decide +kernel
theorem dX6_makes_31 : decode cX6_makes 31 = .ok (.aload_n 0, 1) := by decide +kernel
theorem dX6_makes_32 : decode cX6_makes 32 = .ok (.getfield 79, 3) := by decide +kernel
theorem dX6_makes_35 : decode cX6_makes 35 = .ok (.iload 5, 2) := by decide +kernel
theorem dX6_makes_37 : decode cX6_makes 37 = .ok (.iaload, 1) := by decide +kernel
theorem dX6_makes_38 : decode cX6_makes 38 = .ok (.ishl, 1) := by decide +kernel
theorem dX6_makes_39 : decode cX6_makes 39 = .ok (.ior, 1) := by decide +kernel
theorem dX6_makes_40 : decode cX6_makes 40 = .ok (.istore 4, 2) := by decide +kernel
theorem dX6_makes_42 : decode cX6_makes 42 = .ok (.iload_n 3, 1) := by decide +kernel
theorem dX6_makes_43 : decode cX6_makes 43 = .ok (.aload_n 0, 1) := by decide +kernel
theorem dX6_makes_44 : decode cX6_makes 44 = .ok (.getfield 89, 3) := by decide +kernel
theorem dX6_makes_47 : decode cX6_makes 47 = .ok (.idiv, 1) := by decide +kernel
theorem dX6_makes_48 : decode cX6_makes 48 = .ok (.istore_n 3, 1) := by decide +kernel
theorem dX6_makes_49 : decode cX6_makes 49 = .ok (.iinc 5 (-1), 3) := by decide +kernel
theorem dX6_makes_52 : decode cX6_makes 52 = .ok (.goto (-42), 3) := by decide +kernel
theorem dX6_makes_55 : decode cX6_makes 55 = .ok (.aload_n 0, 1) := by decide +kernel
theorem dX6_makes_56 : decode cX6_makes 56 = .ok (.invokevirtual 250, 3) := by decide +kernel
theorem dX6_makes_59 : decode cX6_makes 59 = .ok (.iconst 0, 1) := by decide +kernel
theorem dX6_makes_60 : decode cX6_makes 60 = .ok (.istore 5, 2) := by decide +kernel
theorem dX6_makes_62 : decode cX6_makes 62 = .ok (.iload 5, 2) := by decide +kernel
theorem dX6_makes_64 : decode cX6_makes 64 = .ok (.iload_n 1, 1) := by decide +kernel
theorem dX6_makes_65 : decode cX6_makes 65 = .ok (.if_icmp .ge 20, 3) := by decide +kernel
theorem dX6_makes_68 : decode cX6_makes 68 = .ok (.aload_n 0, 1) := by decide +kernel
theorem dX6_makes_69 : decode cX6_makes 69 = .ok (.aload_n 0, 1) := by decide +kernel
theorem dX6_makes_70 : decode cX6_makes 70 = .ok (.getfield 79, 3) := by decide +kernel
theorem dX6_makes_73 : decode cX6_makes 73 = .ok (.iload 5, 2) := by decide +kernel
theorem dX6_makes_75 : decode cX6_makes 75 = .ok (.iaload, 1) := by decide +kernel
theorem dX6_makes_76 : decode cX6_makes 76 = .ok (.invokevirtual 253, 3) := by decide +kernel
theorem dX6_makes_79 : decode cX6_makes 79 = .ok (.iinc 5 1, 3) := by decide +kernel
theorem dX6_makes_82 : decode cX6_makes 82 = .ok (.goto (-20), 3) := by decide +kernel
theorem dX6_makes_85 : decode cX6_makes 85 = .ok (.iload 4, 2) := by decide +kernel
theorem dX6_makes_87 : decode cX6_makes 87 = .ok (.invokestatic 188, 3) := by decide +kernel
theorem dX6_makes_90 : decode cX6_makes 90 = .ok (.iload_n 1, 1) := by decide +kernel
theorem dX6_makes_91 : decode cX6_makes 91 = .ok (.if_icmp .ne 18, 3) := by decide +kernel
theorem dX6_makes_94 : decode cX6_makes 94 = .ok (.aload_n 0, 1) := by decide +kernel
theorem dX6_makes_95 : decode cX6_makes 95 = .ok (.aload_n 0, 1) := by decide +kernel
theorem dX6_makes_96 : decode cX6_makes 96 = .ok (.getfield 76, 3) := by decide +kernel
theorem dX6_makes_99 : decode cX6_makes 99 = .ok (.invokevirtual 256, 3) := by decide +kernel
theorem dX6_makes_102 : decode cX6_makes 102 = .ok (.ifCond .eq 7, 3) := by decide +kernel
theorem dX6_makes_105 : decode cX6_makes 105 = .ok (.iconst 1, 1) := by decide +kernel
theorem dX6_makes_106 : decode cX6_makes 106 = .ok (.goto 4, 3) := by decide +kernel
theorem dX6_makes_109 : decode cX6_makes 109 = .ok (.iconst 0, 1) := by decide +kernel
theorem dX6_makes_110 : decode cX6_makes 110 = .ok (.ireturn, 1) := by decide +kernel
theorem dX6_chain_0 : decode cX6_chain 0 = .ok (.iload_n 2, 1) := by decide +kernel
theorem dX6_chain_1 : decode cX6_chain 1 = .ok (.iconst (-1), 1) := by decide +kernel
theorem dX6_chain_2 : decode cX6_chain 2 = .ok (.if_icmp .lt 11, 3) := by decide +kernel
theorem dX6_chain_5 : decode cX6_chain 5 = .ok (.aload_n 0, 1) := by decide +kernel
theorem dX6_chain_6 : decode cX6_chain 6 = .ok (.iload_n 1, 1) := by decide +kernel
theorem dX6_chain_7 : decode cX6_chain 7 = .ok (.invokevirtual 247, 3) := by decide +kernel
theorem dX6_chain_10 : decode cX6_chain 10 = .ok (.ifCond .ne 5, 3) := by decide +kernel
theorem dX6_chain_13 : decode cX6_chain 13 = .ok (.iconst (-1), 1) := by decide +kernel
theorem dX6_chain_14 : decode cX6_chain 14 = .ok (.ireturn, 1) := by decide +kernel
theorem dX6_chain_15 : decode cX6_chain 15 = .ok (.iconst 0, 1) := by decide +kernel
theorem dX6_chain_16 : decode cX6_chain 16 = .ok (.istore_n 3, 1) := by decide +kernel
theorem dX6_chain_17 : decode cX6_chain 17 = .ok (.iload_n 3, 1) := by decide +kernel
theorem dX6_chain_18 : decode cX6_chain 18 = .ok (.aload_n 0, 1) := by decide +kernel
theorem dX6_chain_19 : decode cX6_chain 19 = .ok (.getfield 89, 3) := by decide +kernel
theorem dX6_chain_22 : decode cX6_chain 22 = .ok (.if_icmp .gt 67, 3) := by decide +kernel
theorem dX6_chain_25 : decode cX6_chain 25 = .ok (.iconst 0, 1) := by decide +kernel
theorem dX6_chain_26 : decode cX6_chain 26 = .ok (.istore 4, 2) := by decide +kernel
theorem dX6_chain_28 : decode cX6_chain 28 = .ok (.iload 4, 2) := by decide +kernel
theorem dX6_chain_30 : decode cX6_chain 30 = .ok (.aload_n 0, 1) := by decide +kernel
theorem dX6_chain_31 : decode cX6_chain 31 = .ok (.aload_n 0, 1) := by decide +kernel
theorem dX6_chain_32 : decode cX6_chain 32 = .ok (.getfield 89, 3) := by decide +kernel
theorem dX6_chain_35 : decode cX6_chain 35 = .ok (.iload_n 3, 1) := by decide +kernel
theorem dX6_chain_36 : decode cX6_chain 36 = .ok (.invokevirtual 195, 3) := by decide +kernel
theorem dX6_chain_39 : decode cX6_chain 39 = .ok (.if_icmp .ge 44, 3) := by decide +kernel
theorem dX6_chain_42 : decode cX6_chain 42 = .ok (.aload_n 0, 1) := by decide +kernel
theorem dX6_chain_43 : decode cX6_chain 43 = .ok (.iload_n 3, 1) := by decide +kernel
theorem dX6_chain_44 : decode cX6_chain 44 = .ok (.iload 4, 2) := by decide +kernel
theorem dX6_chain_46 : decode cX6_chain 46 = .ok (.invokevirtual 260, 3) := by decide +kernel
theorem dX6_chain_49 : decode cX6_chain 49 = .ok (.ifCond .eq 28, 3) := by decide +kernel
theorem dX6_chain_52 : decode cX6_chain 52 = .ok (.iload_n 2, 1) := by decide +kernel
theorem dX6_chain_53 : decode cX6_chain 53 = .ok (.ifCond .ge 7, 3) := by decide +kernel
theorem dX6_chain_56 : decode cX6_chain 56 = .ok (.iload_n 3, 1) := by decide +kernel
theorem dX6_chain_57 : decode cX6_chain 57 = .ok (.goto 19, 3) := by decide +kernel
theorem dX6_chain_60 : decode cX6_chain 60 = .ok (.iload_n 2, 1) := by decide +kernel
theorem dX6_chain_61 : decode cX6_chain 61 = .ok (.iload_n 3, 1) := by decide +kernel
theorem dX6_chain_62 : decode cX6_chain 62 = .ok (.if_icmp .ge 12, 3) := by decide +kernel
theorem dX6_chain_65 : decode cX6_chain 65 = .ok (.aload_n 0, 1) := by decide +kernel
theorem dX6_chain_66 : decode cX6_chain 66 = .ok (.getfield 79, 3) := by decide +kernel
theorem dX6_chain_69 : decode cX6_chain 69 = .ok (.iload_n 2, 1) := by decide +kernel
theorem dX6_chain_70 : decode cX6_chain 70 = .ok (.iaload, 1) := by decide +kernel
theorem dX6_chain_71 : decode cX6_chain 71 = .ok (.goto 5, 3) := by decide +kernel
theorem dX6_chain_74 : decode cX6_chain 74 = .ok (.bipush (-5), 2) := by decide +kernel
theorem dX6_chain_76 : decode cX6_chain 76 = .ok (.ireturn, 1) := by decide +kernel
theorem dX6_chain_77 : decode cX6_chain 77 = .ok (.iinc 4 1, 3) := by decide +kernel
theorem dX6_chain_80 : decode cX6_chain 80 = .ok (.goto (-52), 3) := by decide +kernel
theorem dX6_chain_83 : decode cX6_chain 83 = .ok (.iinc 3 1, 3) := by decide +kernel
theorem dX6_chain_86 : decode cX6_chain 86 = .ok (.goto (-69), 3) := by decide +kernel
theorem dX6_chain_89 : decode cX6_chain 89 = .ok (.bipush (-9), 2) := by decide +kernel
theorem dX6_chain_91 : decode cX6_chain 91 = .ok (.ireturn, 1) := by decide +kernel
theorem dX6_clerkRate_0 : decode cX6_clerkRate 0 = .ok (.aload_n 0, 1) := by decide +kernel
theorem dX6_clerkRate_1 : decode cX6_clerkRate 1 = .ok (.dup, 1) := by decide +kernel
theorem dX6_clerkRate_2 : decode cX6_clerkRate 2 = .ok (.getfield 263, 3) := by decide +kernel
theorem dX6_clerkRate_5 : decode cX6_clerkRate 5 = .ok (.lconst 1, 1) := by decide +kernel
theorem dX6_clerkRate_6 : decode cX6_clerkRate 6 = .ok (.ladd, 1) := by decide +kernel
theorem dX6_clerkRate_7 : decode cX6_clerkRate 7 = .ok (.putfield 263, 3) := by decide +kernel
theorem dX6_clerkRate_10 : decode cX6_clerkRate 10 = .ok (.aload_n 0, 1) := by decide +kernel
theorem dX6_clerkRate_11 : decode cX6_clerkRate 11 = .ok (.getfield 23, 3) := by decide +kernel
theorem dX6_clerkRate_14 : decode cX6_clerkRate 14 = .ok (.iconst 3, 1) := by decide +kernel
theorem dX6_clerkRate_15 : decode cX6_clerkRate 15 = .ok (.iload_n 1, 1) := by decide +kernel
theorem dX6_clerkRate_16 : decode cX6_clerkRate 16 = .ok (.imul, 1) := by decide +kernel
theorem dX6_clerkRate_17 : decode cX6_clerkRate 17 = .ok (.iaload, 1) := by decide +kernel
theorem dX6_clerkRate_18 : decode cX6_clerkRate 18 = .ok (.invokestatic 188, 3) := by decide +kernel
theorem dX6_clerkRate_21 : decode cX6_clerkRate 21 = .ok (.ireturn, 1) := by decide +kernel
theorem dX6_nunRate_0 : decode cX6_nunRate 0 = .ok (.aload_n 0, 1) := by decide +kernel
theorem dX6_nunRate_1 : decode cX6_nunRate 1 = .ok (.dup, 1) := by decide +kernel
theorem dX6_nunRate_2 : decode cX6_nunRate 2 = .ok (.getfield 263, 3) := by decide +kernel
theorem dX6_nunRate_5 : decode cX6_nunRate 5 = .ok (.ldc2_w 214, 3) := by decide +kernel
theorem dX6_nunRate_8 : decode cX6_nunRate 8 = .ok (.ladd, 1) := by decide +kernel
theorem dX6_nunRate_9 : decode cX6_nunRate 9 = .ok (.putfield 263, 3) := by decide +kernel
theorem dX6_nunRate_12 : decode cX6_nunRate 12 = .ok (.aload_n 0, 1) := by decide +kernel
theorem dX6_nunRate_13 : decode cX6_nunRate 13 = .ok (.iload_n 1, 1) := by decide +kernel
theorem dX6_nunRate_14 : decode cX6_nunRate 14 = .ok (.invokevirtual 267, 3) := by decide +kernel
theorem dX6_nunRate_17 : decode cX6_nunRate 17 = .ok (.aload_n 0, 1) := by decide +kernel
theorem dX6_nunRate_18 : decode cX6_nunRate 18 = .ok (.getfield 23, 3) := by decide +kernel
theorem dX6_nunRate_21 : decode cX6_nunRate 21 = .ok (.iconst 3, 1) := by decide +kernel
theorem dX6_nunRate_22 : decode cX6_nunRate 22 = .ok (.iload_n 1, 1) := by decide +kernel
theorem dX6_nunRate_23 : decode cX6_nunRate 23 = .ok (.imul, 1) := by decide +kernel
theorem dX6_nunRate_24 : decode cX6_nunRate 24 = .ok (.iconst 1, 1) := by decide +kernel
theorem dX6_nunRate_25 : decode cX6_nunRate 25 = .ok (.iadd, 1) := by decide +kernel
theorem dX6_nunRate_26 : decode cX6_nunRate 26 = .ok (.iaload, 1) := by decide +kernel
theorem dX6_nunRate_27 : decode cX6_nunRate 27 = .ok (.iadd, 1) := by decide +kernel
theorem dX6_nunRate_28 : decode cX6_nunRate 28 = .ok (.ireturn, 1) := by decide +kernel
theorem dX6_nephewRate_0 : decode cX6_nephewRate 0 = .ok (.aload_n 0, 1) := by decide +kernel
theorem dX6_nephewRate_1 : decode cX6_nephewRate 1 = .ok (.dup, 1) := by decide +kernel
theorem dX6_nephewRate_2 : decode cX6_nephewRate 2 = .ok (.getfield 263, 3) := by decide +kernel
theorem dX6_nephewRate_5 : decode cX6_nephewRate 5 = .ok (.ldc2_w 270, 3) := by decide +kernel
theorem dX6_nephewRate_8 : decode cX6_nephewRate 8 = .ok (.ladd, 1) := by decide +kernel
theorem dX6_nephewRate_9 : decode cX6_nephewRate 9 = .ok (.putfield 263, 3) := by decide +kernel
theorem dX6_nephewRate_12 : decode cX6_nephewRate 12 = .ok (.aload_n 0, 1) := by decide +kernel
theorem dX6_nephewRate_13 : decode cX6_nephewRate 13 = .ok (.iload_n 1, 1) := by decide +kernel
theorem dX6_nephewRate_14 : decode cX6_nephewRate 14 = .ok (.invokevirtual 267, 3) := by decide +kernel
theorem dX6_nephewRate_17 : decode cX6_nephewRate 17 = .ok (.aload_n 0, 1) := by decide +kernel
theorem dX6_nephewRate_18 : decode cX6_nephewRate 18 = .ok (.getfield 23, 3) := by decide +kernel
theorem dX6_nephewRate_21 : decode cX6_nephewRate 21 = .ok (.iconst 3, 1) := by decide +kernel
theorem dX6_nephewRate_22 : decode cX6_nephewRate 22 = .ok (.iload_n 1, 1) := by decide +kernel
theorem dX6_nephewRate_23 : decode cX6_nephewRate 23 = .ok (.imul, 1) := by decide +kernel
theorem dX6_nephewRate_24 : decode cX6_nephewRate 24 = .ok (.iconst 2, 1) := by decide +kernel
theorem dX6_nephewRate_25 : decode cX6_nephewRate 25 = .ok (.iadd, 1) := by decide +kernel
theorem dX6_nephewRate_26 : decode cX6_nephewRate 26 = .ok (.iaload, 1) := by decide +kernel
theorem dX6_nephewRate_27 : decode cX6_nephewRate 27 = .ok (.isub, 1) := by decide +kernel
theorem dX6_nephewRate_28 : decode cX6_nephewRate 28 = .ok (.ireturn, 1) := by decide +kernel
theorem dX6_rate_0 : decode cX6_rate 0 = .ok (.iload_n 1, 1) := by decide +kernel
theorem dX6_rate_1 : decode cX6_rate 1 = .ok (.iconst 0, 1) := by decide +kernel
theorem dX6_rate_2 : decode cX6_rate 2 = .ok (.iconst 5, 1) := by decide +kernel
theorem dX6_rate_3 : decode cX6_rate 3 = .ok (.invokestatic 85, 3) := by decide +kernel
theorem dX6_rate_6 : decode cX6_rate 6 = .ok (.ifCond .eq 11, 3) := by decide +kernel
theorem dX6_rate_9 : decode cX6_rate 9 = .ok (.aload_n 0, 1) := by decide +kernel
theorem dX6_rate_10 : decode cX6_rate 10 = .ok (.iload_n 2, 1) := by decide +kernel
theorem dX6_rate_11 : decode cX6_rate 11 = .ok (.invokevirtual 162, 3) := by decide +kernel
theorem dX6_rate_14 : decode cX6_rate 14 = .ok (.ifCond .ne 7, 3) := by decide +kernel
theorem dX6_rate_17 : decode cX6_rate 17 = .ok (.ldc_w 272, 3) := by decide +kernel
theorem dX6_rate_20 : decode cX6_rate 20 = .ok (.ireturn, 1) := by decide +kernel
theorem dX6_rate_21 : decode cX6_rate 21 = .ok (.iload_n 1, 1) := by decide +kernel
theorem dX6_rate_22 : decode cX6_rate 22 = .ok (.tableswitch 92 0 4 #[34, 40, 46, 52, 72], 34) := by decide +kernel
theorem dX6_rate_56 : decode cX6_rate 56 = .ok (.aload_n 0, 1) := by decide +kernel
theorem dX6_rate_57 : decode cX6_rate 57 = .ok (.iload_n 2, 1) := by decide +kernel
theorem dX6_rate_58 : decode cX6_rate 58 = .ok (.invokevirtual 267, 3) := by decide +kernel
theorem dX6_rate_61 : decode cX6_rate 61 = .ok (.ireturn, 1) := by decide +kernel
theorem dX6_rate_62 : decode cX6_rate 62 = .ok (.aload_n 0, 1) := by decide +kernel
theorem dX6_rate_63 : decode cX6_rate 63 = .ok (.iload_n 2, 1) := by decide +kernel
theorem dX6_rate_64 : decode cX6_rate 64 = .ok (.invokevirtual 273, 3) := by decide +kernel
theorem dX6_rate_67 : decode cX6_rate 67 = .ok (.ireturn, 1) := by decide +kernel
theorem dX6_rate_68 : decode cX6_rate 68 = .ok (.aload_n 0, 1) := by decide +kernel
theorem dX6_rate_69 : decode cX6_rate 69 = .ok (.iload_n 2, 1) := by decide +kernel
theorem dX6_rate_70 : decode cX6_rate 70 = .ok (.invokevirtual 276, 3) := by decide +kernel
theorem dX6_rate_73 : decode cX6_rate 73 = .ok (.ireturn, 1) := by decide +kernel
theorem dX6_rate_74 : decode cX6_rate 74 = .ok (.aload_n 0, 1) := by decide +kernel
theorem dX6_rate_75 : decode cX6_rate 75 = .ok (.dup, 1) := by decide +kernel
theorem dX6_rate_76 : decode cX6_rate 76 = .ok (.getfield 263, 3) := by decide +kernel
theorem dX6_rate_79 : decode cX6_rate 79 = .ok (.ldc2_w 279, 3) := by decide +kernel
theorem dX6_rate_82 : decode cX6_rate 82 = .ok (.ladd, 1) := by decide +kernel
theorem dX6_rate_83 : decode cX6_rate 83 = .ok (.putfield 263, 3) := by decide +kernel
theorem dX6_rate_86 : decode cX6_rate 86 = .ok (.iconst 2, 1) := by decide +kernel
theorem dX6_rate_87 : decode cX6_rate 87 = .ok (.aload_n 0, 1) := by decide +kernel
theorem dX6_rate_88 : decode cX6_rate 88 = .ok (.iload_n 2, 1) := by decide +kernel
theorem dX6_rate_89 : decode cX6_rate 89 = .ok (.invokevirtual 273, 3) := by decide +kernel
theorem dX6_rate_92 : decode cX6_rate 92 = .ok (.imul, 1) := by decide +kernel
theorem dX6_rate_93 : decode cX6_rate 93 = .ok (.ireturn, 1) := by decide +kernel
theorem dX6_rate_94 : decode cX6_rate 94 = .ok (.aload_n 0, 1) := by decide +kernel
theorem dX6_rate_95 : decode cX6_rate 95 = .ok (.dup, 1) := by decide +kernel
theorem dX6_rate_96 : decode cX6_rate 96 = .ok (.getfield 263, 3) := by decide +kernel
theorem dX6_rate_99 : decode cX6_rate 99 = .ok (.ldc2_w 281, 3) := by decide +kernel
theorem dX6_rate_102 : decode cX6_rate 102 = .ok (.ladd, 1) := by decide +kernel
theorem dX6_rate_103 : decode cX6_rate 103 = .ok (.putfield 263, 3) := by decide +kernel
theorem dX6_rate_106 : decode cX6_rate 106 = .ok (.aload_n 0, 1) := by decide +kernel
theorem dX6_rate_107 : decode cX6_rate 107 = .ok (.iload_n 2, 1) := by decide +kernel
theorem dX6_rate_108 : decode cX6_rate 108 = .ok (.invokevirtual 276, 3) := by decide +kernel
theorem dX6_rate_111 : decode cX6_rate 111 = .ok (.iload_n 2, 1) := by decide +kernel
theorem dX6_rate_112 : decode cX6_rate 112 = .ok (.iadd, 1) := by decide +kernel
theorem dX6_rate_113 : decode cX6_rate 113 = .ok (.ireturn, 1) := by decide +kernel
theorem dX6_rate_114 : decode cX6_rate 114 = .ok (.aload_n 0, 1) := by decide +kernel
theorem dX6_rate_115 : decode cX6_rate 115 = .ok (.dup, 1) := by decide +kernel
theorem dX6_rate_116 : decode cX6_rate 116 = .ok (.getfield 263, 3) := by decide +kernel
theorem dX6_rate_119 : decode cX6_rate 119 = .ok (.ldc2_w 283, 3) := by decide +kernel
theorem dX6_rate_122 : decode cX6_rate 122 = .ok (.ladd, 1) := by decide +kernel
theorem dX6_rate_123 : decode cX6_rate 123 = .ok (.putfield 263, 3) := by decide +kernel
theorem dX6_rate_126 : decode cX6_rate 126 = .ok (.aload_n 0, 1) := by decide +kernel
theorem dX6_rate_127 : decode cX6_rate 127 = .ok (.iload_n 2, 1) := by decide +kernel
theorem dX6_rate_128 : decode cX6_rate 128 = .ok (.invokevirtual 267, 3) := by decide +kernel
theorem dX6_rate_131 : decode cX6_rate 131 = .ok (.aload_n 0, 1) := by decide +kernel
theorem dX6_rate_132 : decode cX6_rate 132 = .ok (.invokevirtual 172, 3) := by decide +kernel
theorem dX6_rate_135 : decode cX6_rate 135 = .ok (.invokestatic 188, 3) := by decide +kernel
theorem dX6_rate_138 : decode cX6_rate 138 = .ok (.iadd, 1) := by decide +kernel
theorem dX6_rate_139 : decode cX6_rate 139 = .ok (.ireturn, 1) := by decide +kernel
theorem dX6_keep_0 : decode cX6_keep 0 = .ok (.iload_n 1, 1) := by decide +kernel
theorem dX6_keep_1 : decode cX6_keep 1 = .ok (.iconst 0, 1) := by decide +kernel
theorem dX6_keep_2 : decode cX6_keep 2 = .ok (.iconst 1, 1) := by decide +kernel
theorem dX6_keep_3 : decode cX6_keep 3 = .ok (.invokestatic 85, 3) := by decide +kernel
theorem dX6_keep_6 : decode cX6_keep 6 = .ok (.ifCond .ne 5, 3) := by decide +kernel
theorem dX6_keep_9 : decode cX6_keep 9 = .ok (.iconst (-1), 1) := by decide +kernel
theorem dX6_keep_10 : decode cX6_keep 10 = .ok (.ireturn, 1) := by decide +kernel
theorem dX6_keep_11 : decode cX6_keep 11 = .ok (.iconst 0, 1) := by decide +kernel
theorem dX6_keep_12 : decode cX6_keep 12 = .ok (.istore_n 2, 1) := by decide +kernel
theorem dX6_keep_13 : decode cX6_keep 13 = .ok (.iload_n 2, 1) := by decide +kernel
theorem dX6_keep_14 : decode cX6_keep 14 = .ok (.bipush 26, 2) := by decide +kernel
theorem dX6_keep_16 : decode cX6_keep 16 = .ok (.if_icmp .ge 26, 3) := by decide +kernel
theorem dX6_keep_19 : decode cX6_keep 19 = .ok (.aload_n 0, 1) := by decide +kernel
theorem dX6_keep_20 : decode cX6_keep 20 = .ok (.getfield 32, 3) := by decide +kernel
theorem dX6_keep_23 : decode cX6_keep 23 = .ok (.bipush 26, 2) := by decide +kernel
theorem dX6_keep_25 : decode cX6_keep 25 = .ok (.iload_n 1, 1) := by decide +kernel
theorem dX6_keep_26 : decode cX6_keep 26 = .ok (.imul, 1) := by decide +kernel
theorem dX6_keep_27 : decode cX6_keep 27 = .ok (.iload_n 2, 1) := by decide +kernel
theorem dX6_keep_28 : decode cX6_keep 28 = .ok (.iadd, 1) := by decide +kernel
theorem dX6_keep_29 : decode cX6_keep 29 = .ok (.aload_n 0, 1) := by decide +kernel
theorem dX6_keep_30 : decode cX6_keep 30 = .ok (.getfield 26, 3) := by decide +kernel
theorem dX6_keep_33 : decode cX6_keep 33 = .ok (.iload_n 2, 1) := by decide +kernel
theorem dX6_keep_34 : decode cX6_keep 34 = .ok (.iaload, 1) := by decide +kernel
theorem dX6_keep_35 : decode cX6_keep 35 = .ok (.iastore, 1) := by decide +kernel
theorem dX6_keep_36 : decode cX6_keep 36 = .ok (.iinc 2 1, 3) := by decide +kernel
theorem dX6_keep_39 : decode cX6_keep 39 = .ok (.goto (-26), 3) := by decide +kernel
theorem dX6_keep_42 : decode cX6_keep 42 = .ok (.aload_n 0, 1) := by decide +kernel
theorem dX6_keep_43 : decode cX6_keep 43 = .ok (.getfield 35, 3) := by decide +kernel
theorem dX6_keep_46 : decode cX6_keep 46 = .ok (.iload_n 1, 1) := by decide +kernel
theorem dX6_keep_47 : decode cX6_keep 47 = .ok (.iconst 1, 1) := by decide +kernel
theorem dX6_keep_48 : decode cX6_keep 48 = .ok (.bastore, 1) := by decide +kernel
theorem dX6_keep_49 : decode cX6_keep 49 = .ok (.aload_n 0, 1) := by decide +kernel
theorem dX6_keep_50 : decode cX6_keep 50 = .ok (.getfield 26, 3) := by decide +kernel
theorem dX6_keep_53 : decode cX6_keep 53 = .ok (.iconst 0, 1) := by decide +kernel
theorem dX6_keep_54 : decode cX6_keep 54 = .ok (.iaload, 1) := by decide +kernel
theorem dX6_keep_55 : decode cX6_keep 55 = .ok (.ireturn, 1) := by decide +kernel
theorem dX6_back_0 : decode cX6_back 0 = .ok (.iload_n 1, 1) := by decide +kernel
theorem dX6_back_1 : decode cX6_back 1 = .ok (.iconst 0, 1) := by decide +kernel
theorem dX6_back_2 : decode cX6_back 2 = .ok (.iconst 1, 1) := by decide +kernel
theorem dX6_back_3 : decode cX6_back 3 = .ok (.invokestatic 85, 3) := by decide +kernel
theorem dX6_back_6 : decode cX6_back 6 = .ok (.ifCond .ne 5, 3) := by decide +kernel
theorem dX6_back_9 : decode cX6_back 9 = .ok (.iconst (-1), 1) := by decide +kernel
theorem dX6_back_10 : decode cX6_back 10 = .ok (.ireturn, 1) := by decide +kernel
theorem dX6_back_11 : decode cX6_back 11 = .ok (.aload_n 0, 1) := by decide +kernel
theorem dX6_back_12 : decode cX6_back 12 = .ok (.getfield 35, 3) := by decide +kernel
theorem dX6_back_15 : decode cX6_back 15 = .ok (.iload_n 1, 1) := by decide +kernel
theorem dX6_back_16 : decode cX6_back 16 = .ok (.baload, 1) := by decide +kernel
theorem dX6_back_17 : decode cX6_back 17 = .ok (.ifCond .ne 6, 3) := by decide +kernel
theorem dX6_back_20 : decode cX6_back 20 = .ok (.bipush (-2), 2) := by decide +kernel
theorem dX6_back_22 : decode cX6_back 22 = .ok (.ireturn, 1) := by decide +kernel
theorem dX6_back_23 : decode cX6_back 23 = .ok (.iconst 0, 1) := by decide +kernel
theorem dX6_back_24 : decode cX6_back 24 = .ok (.istore_n 2, 1) := by decide +kernel
theorem dX6_back_25 : decode cX6_back 25 = .ok (.iload_n 2, 1) := by decide +kernel
theorem dX6_back_26 : decode cX6_back 26 = .ok (.bipush 26, 2) := by decide +kernel
theorem dX6_back_28 : decode cX6_back 28 = .ok (.if_icmp .ge 26, 3) := by decide +kernel
theorem dX6_back_31 : decode cX6_back 31 = .ok (.aload_n 0, 1) := by decide +kernel
theorem dX6_back_32 : decode cX6_back 32 = .ok (.getfield 26, 3) := by decide +kernel
theorem dX6_back_35 : decode cX6_back 35 = .ok (.iload_n 2, 1) := by decide +kernel
theorem dX6_back_36 : decode cX6_back 36 = .ok (.aload_n 0, 1) := by decide +kernel
theorem dX6_back_37 : decode cX6_back 37 = .ok (.getfield 32, 3) := by decide +kernel
theorem dX6_back_40 : decode cX6_back 40 = .ok (.bipush 26, 2) := by decide +kernel
theorem dX6_back_42 : decode cX6_back 42 = .ok (.iload_n 1, 1) := by decide +kernel
theorem dX6_back_43 : decode cX6_back 43 = .ok (.imul, 1) := by decide +kernel
theorem dX6_back_44 : decode cX6_back 44 = .ok (.iload_n 2, 1) := by decide +kernel
theorem dX6_back_45 : decode cX6_back 45 = .ok (.iadd, 1) := by decide +kernel
theorem dX6_back_46 : decode cX6_back 46 = .ok (.iaload, 1) := by decide +kernel
theorem dX6_back_47 : decode cX6_back 47 = .ok (.iastore, 1) := by decide +kernel
theorem dX6_back_48 : decode cX6_back 48 = .ok (.iinc 2 1, 3) := by decide +kernel
theorem dX6_back_51 : decode cX6_back 51 = .ok (.goto (-26), 3) := by decide +kernel
theorem dX6_back_54 : decode cX6_back 54 = .ok (.aload_n 0, 1) := by decide +kernel
theorem dX6_back_55 : decode cX6_back 55 = .ok (.iconst 0, 1) := by decide +kernel
theorem dX6_back_56 : decode cX6_back 56 = .ok (.putfield 152, 3) := by decide +kernel
theorem dX6_back_59 : decode cX6_back 59 = .ok (.aload_n 0, 1) := by decide +kernel
theorem dX6_back_60 : decode cX6_back 60 = .ok (.getfield 26, 3) := by decide +kernel
theorem dX6_back_63 : decode cX6_back 63 = .ok (.iconst 0, 1) := by decide +kernel
theorem dX6_back_64 : decode cX6_back 64 = .ok (.iaload, 1) := by decide +kernel
theorem dX6_back_65 : decode cX6_back 65 = .ok (.ireturn, 1) := by decide +kernel
theorem dX6_count_0 : decode cX6_count 0 = .ok (.iload_n 1, 1) := by decide +kernel
theorem dX6_count_1 : decode cX6_count 1 = .ok (.tableswitch 90 0 7 #[47, 52, 57, 62, 67, 72, 80, 85], 47) := by decide +kernel
theorem dX6_count_48 : decode cX6_count 48 = .ok (.aload_n 0, 1) := by decide +kernel
theorem dX6_count_49 : decode cX6_count 49 = .ok (.getfield 7, 3) := by decide +kernel
theorem dX6_count_52 : decode cX6_count 52 = .ok (.ireturn, 1) := by decide +kernel
theorem dX6_count_53 : decode cX6_count 53 = .ok (.aload_n 0, 1) := by decide +kernel
theorem dX6_count_54 : decode cX6_count 54 = .ok (.getfield 13, 3) := by decide +kernel
theorem dX6_count_57 : decode cX6_count 57 = .ok (.ireturn, 1) := by decide +kernel
theorem dX6_count_58 : decode cX6_count 58 = .ok (.aload_n 0, 1) := by decide +kernel
theorem dX6_count_59 : decode cX6_count 59 = .ok (.getfield 16, 3) := by decide +kernel
theorem dX6_count_62 : decode cX6_count 62 = .ok (.ireturn, 1) := by decide +kernel
theorem dX6_count_63 : decode cX6_count 63 = .ok (.aload_n 0, 1) := by decide +kernel
theorem dX6_count_64 : decode cX6_count 64 = .ok (.getfield 82, 3) := by decide +kernel
theorem dX6_count_67 : decode cX6_count 67 = .ok (.ireturn, 1) := by decide +kernel
theorem dX6_count_68 : decode cX6_count 68 = .ok (.aload_n 0, 1) := by decide +kernel
theorem dX6_count_69 : decode cX6_count 69 = .ok (.getfield 89, 3) := by decide +kernel
theorem dX6_count_72 : decode cX6_count 72 = .ok (.ireturn, 1) := by decide +kernel
theorem dX6_count_73 : decode cX6_count 73 = .ok (.aload_n 0, 1) := by decide +kernel
theorem dX6_count_74 : decode cX6_count 74 = .ok (.getfield 26, 3) := by decide +kernel
theorem dX6_count_77 : decode cX6_count 77 = .ok (.bipush 20, 2) := by decide +kernel
theorem dX6_count_79 : decode cX6_count 79 = .ok (.iaload, 1) := by decide +kernel
theorem dX6_count_80 : decode cX6_count 80 = .ok (.ireturn, 1) := by decide +kernel
theorem dX6_count_81 : decode cX6_count 81 = .ok (.aload_n 0, 1) := by decide +kernel
theorem dX6_count_82 : decode cX6_count 82 = .ok (.getfield 155, 3) := by decide +kernel
theorem dX6_count_85 : decode cX6_count 85 = .ok (.ireturn, 1) := by decide +kernel
theorem dX6_count_86 : decode cX6_count 86 = .ok (.aload_n 0, 1) := by decide +kernel
theorem dX6_count_87 : decode cX6_count 87 = .ok (.getfield 92, 3) := by decide +kernel
theorem dX6_count_90 : decode cX6_count 90 = .ok (.ireturn, 1) := by decide +kernel
theorem dX6_count_91 : decode cX6_count 91 = .ok (.iconst (-1), 1) := by decide +kernel
theorem dX6_count_92 : decode cX6_count 92 = .ok (.ireturn, 1) := by decide +kernel
theorem dX6_trace_0 : decode cX6_trace 0 = .ok (.aload_n 0, 1) := by decide +kernel
theorem dX6_trace_1 : decode cX6_trace 1 = .ok (.getfield 263, 3) := by decide +kernel
theorem dX6_trace_4 : decode cX6_trace 4 = .ok (.lreturn, 1) := by decide +kernel
