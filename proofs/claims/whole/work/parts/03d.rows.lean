theorem dX6_init_46 : decode cX6_init 46 = .ok (.putfield 26, 3) := by decide +kernel
theorem dX6_init_49 : decode cX6_init 49 = .ok (.aload_n 0, 1) := by decide +kernel
theorem dX6_init_50 : decode cX6_init 50 = .ok (.sipush 480, 3) := by decide +kernel
theorem dX6_init_53 : decode cX6_init 53 = .ok (.newarray .byte, 2) := by decide +kernel
theorem dX6_init_55 : decode cX6_init 55 = .ok (.putfield 29, 3) := by decide +kernel
theorem dX6_init_58 : decode cX6_init 58 = .ok (.aload_n 0, 1) := by decide +kernel
theorem dX6_init_59 : decode cX6_init 59 = .ok (.bipush 7, 2) := by decide +kernel
theorem dX6_init_61 : decode cX6_init 61 = .ok (.newarray .int, 2) := by decide +kernel
theorem dX6_init_63 : decode cX6_init 63 = .ok (.putfield 33, 3) := by decide +kernel
theorem dX6_init_66 : decode cX6_init 66 = .ok (.aload_n 0, 1) := by decide +kernel
theorem dX6_init_67 : decode cX6_init 67 = .ok (.bipush 7, 2) := by decide +kernel
theorem dX6_init_69 : decode cX6_init 69 = .ok (.newarray .int, 2) := by decide +kernel
theorem dX6_init_71 : decode cX6_init 71 = .ok (.putfield 36, 3) := by decide +kernel
theorem dX6_init_74 : decode cX6_init 74 = .ok (.aload_n 0, 1) := by decide +kernel
theorem dX6_init_75 : decode cX6_init 75 = .ok (.bipush 7, 2) := by decide +kernel
theorem dX6_init_77 : decode cX6_init 77 = .ok (.newarray .int, 2) := by decide +kernel
theorem dX6_init_79 : decode cX6_init 79 = .ok (.putfield 39, 3) := by decide +kernel
theorem dX6_init_82 : decode cX6_init 82 = .ok (.aload_n 0, 1) := by decide +kernel
theorem dX6_init_83 : decode cX6_init 83 = .ok (.bipush 7, 2) := by decide +kernel
theorem dX6_init_85 : decode cX6_init 85 = .ok (.newarray .int, 2) := by decide +kernel
theorem dX6_init_87 : decode cX6_init 87 = .ok (.putfield 42, 3) := by decide +kernel
theorem dX6_init_90 : decode cX6_init 90 = .ok (.aload_n 0, 1) := by decide +kernel
theorem dX6_init_91 : decode cX6_init 91 = .ok (.bipush 7, 2) := by decide +kernel
theorem dX6_init_93 : decode cX6_init 93 = .ok (.newarray .int, 2) := by decide +kernel
theorem dX6_init_95 : decode cX6_init 95 = .ok (.putfield 45, 3) := by decide +kernel
theorem dX6_init_98 : decode cX6_init 98 = .ok (.aload_n 0, 1) := by decide +kernel
theorem dX6_init_99 : decode cX6_init 99 = .ok (.bipush 7, 2) := by decide +kernel
theorem dX6_init_101 : decode cX6_init 101 = .ok (.newarray .int, 2) := by decide +kernel
theorem dX6_init_103 : decode cX6_init 103 = .ok (.putfield 48, 3) := by decide +kernel
theorem dX6_init_106 : decode cX6_init 106 = .ok (.aload_n 0, 1) := by decide +kernel
theorem dX6_init_107 : decode cX6_init 107 = .ok (.bipush 25, 2) := by decide +kernel
theorem dX6_init_109 : decode cX6_init 109 = .ok (.newarray .int, 2) := by decide +kernel
theorem dX6_init_111 : decode cX6_init 111 = .ok (.putfield 51, 3) := by decide +kernel
theorem dX6_init_114 : decode cX6_init 114 = .ok (.aload_n 0, 1) := by decide +kernel
theorem dX6_init_115 : decode cX6_init 115 = .ok (.sipush 1000, 3) := by decide +kernel
theorem dX6_init_118 : decode cX6_init 118 = .ok (.newarray .int, 2) := by decide +kernel
theorem dX6_init_120 : decode cX6_init 120 = .ok (.putfield 54, 3) := by decide +kernel
theorem dX6_init_123 : decode cX6_init 123 = .ok (.aload_n 0, 1) := by decide +kernel
theorem dX6_init_124 : decode cX6_init 124 = .ok (.iconst 3, 1) := by decide +kernel
theorem dX6_init_125 : decode cX6_init 125 = .ok (.newarray .int, 2) := by decide +kernel
theorem dX6_init_127 : decode cX6_init 127 = .ok (.putfield 57, 3) := by decide +kernel
theorem dX6_init_130 : decode cX6_init 130 = .ok (.aload_n 0, 1) := by decide +kernel
theorem dX6_init_131 : decode cX6_init 131 = .ok (.sipush 3075, 3) := by decide +kernel
theorem dX6_init_134 : decode cX6_init 134 = .ok (.newarray .int, 2) := by decide +kernel
theorem dX6_init_136 : decode cX6_init 136 = .ok (.putfield 60, 3) := by decide +kernel
theorem dX6_init_139 : decode cX6_init 139 = .ok (.aload_n 0, 1) := by decide +kernel
theorem dX6_init_140 : decode cX6_init 140 = .ok (.bipush 17, 2) := by decide +kernel
theorem dX6_init_142 : decode cX6_init 142 = .ok (.newarray .int, 2) := by decide +kernel
theorem dX6_init_144 : decode cX6_init 144 = .ok (.putfield 63, 3) := by decide +kernel
theorem dX6_init_147 : decode cX6_init 147 = .ok (.aload_n 0, 1) := by decide +kernel
theorem dX6_init_148 : decode cX6_init 148 = .ok (.ldc 66, 2) := by decide +kernel
theorem dX6_init_150 : decode cX6_init 150 = .ok (.newarray .int, 2) := by decide +kernel
theorem dX6_init_152 : decode cX6_init 152 = .ok (.putfield 67, 3) := by decide +kernel
theorem dX6_init_155 : decode cX6_init 155 = .ok (.aload_n 0, 1) := by decide +kernel
theorem dX6_init_156 : decode cX6_init 156 = .ok (.bipush 17, 2) := by decide +kernel
theorem dX6_init_158 : decode cX6_init 158 = .ok (.newarray .int, 2) := by decide +kernel
theorem dX6_init_160 : decode cX6_init 160 = .ok (.putfield 70, 3) := by decide +kernel
theorem dX6_init_163 : decode cX6_init 163 = .ok (.iconst 0, 1) := by decide +kernel
theorem dX6_init_164 : decode cX6_init 164 = .ok (.istore_n 1, 1) := by decide +kernel
theorem dX6_init_165 : decode cX6_init 165 = .ok (.iload_n 1, 1) := by decide +kernel
theorem dX6_init_166 : decode cX6_init 166 = .ok (.bipush 6, 2) := by decide +kernel
theorem dX6_init_168 : decode cX6_init 168 = .ok (.if_icmp .ge 16, 3) := by decide +kernel
theorem dX6_init_171 : decode cX6_init 171 = .ok (.aload_n 0, 1) := by decide +kernel
theorem dX6_init_172 : decode cX6_init 172 = .ok (.getfield 17, 3) := by decide +kernel
theorem dX6_init_175 : decode cX6_init 175 = .ok (.iload_n 1, 1) := by decide +kernel
theorem dX6_init_176 : decode cX6_init 176 = .ok (.iconst (-1), 1) := by decide +kernel
theorem dX6_init_177 : decode cX6_init 177 = .ok (.iastore, 1) := by decide +kernel
theorem dX6_init_178 : decode cX6_init 178 = .ok (.iinc 1 1, 3) := by decide +kernel
theorem dX6_init_181 : decode cX6_init 181 = .ok (.goto (-16), 3) := by decide +kernel
theorem dX6_init_184 : decode cX6_init 184 = .ok (.iconst 0, 1) := by decide +kernel
theorem dX6_init_185 : decode cX6_init 185 = .ok (.istore_n 1, 1) := by decide +kernel
theorem dX6_init_186 : decode cX6_init 186 = .ok (.iload_n 1, 1) := by decide +kernel
theorem dX6_init_187 : decode cX6_init 187 = .ok (.iconst 4, 1) := by decide +kernel
theorem dX6_init_188 : decode cX6_init 188 = .ok (.if_icmp .ge 16, 3) := by decide +kernel
theorem dX6_init_191 : decode cX6_init 191 = .ok (.aload_n 0, 1) := by decide +kernel
theorem dX6_init_192 : decode cX6_init 192 = .ok (.getfield 26, 3) := by decide +kernel
theorem dX6_init_195 : decode cX6_init 195 = .ok (.iload_n 1, 1) := by decide +kernel
theorem dX6_init_196 : decode cX6_init 196 = .ok (.iconst (-1), 1) := by decide +kernel
theorem dX6_init_197 : decode cX6_init 197 = .ok (.iastore, 1) := by decide +kernel
theorem dX6_init_198 : decode cX6_init 198 = .ok (.iinc 1 1, 3) := by decide +kernel
theorem dX6_init_201 : decode cX6_init 201 = .ok (.goto (-15), 3) := by decide +kernel
theorem dX6_init_204 : decode cX6_init 204 = .ok (.iconst 0, 1) := by decide +kernel
theorem dX6_init_205 : decode cX6_init 205 = .ok (.istore_n 1, 1) := by decide +kernel
theorem dX6_init_206 : decode cX6_init 206 = .ok (.iload_n 1, 1) := by decide +kernel
theorem dX6_init_207 : decode cX6_init 207 = .ok (.iconst 3, 1) := by decide +kernel
theorem dX6_init_208 : decode cX6_init 208 = .ok (.if_icmp .ge 16, 3) := by decide +kernel
theorem dX6_init_211 : decode cX6_init 211 = .ok (.aload_n 0, 1) := by decide +kernel
theorem dX6_init_212 : decode cX6_init 212 = .ok (.getfield 57, 3) := by decide +kernel
theorem dX6_init_215 : decode cX6_init 215 = .ok (.iload_n 1, 1) := by decide +kernel
theorem dX6_init_216 : decode cX6_init 216 = .ok (.iconst (-1), 1) := by decide +kernel
theorem dX6_init_217 : decode cX6_init 217 = .ok (.iastore, 1) := by decide +kernel
theorem dX6_init_218 : decode cX6_init 218 = .ok (.iinc 1 1, 3) := by decide +kernel
theorem dX6_init_221 : decode cX6_init 221 = .ok (.goto (-15), 3) := by decide +kernel
theorem dX6_init_224 : decode cX6_init 224 = .ok (.return_, 1) := by decide +kernel
theorem dX6_in_0 : decode cX6_in 0 = .ok (.iload_n 0, 1) := by decide +kernel
theorem dX6_in_1 : decode cX6_in 1 = .ok (.iload_n 1, 1) := by decide +kernel
theorem dX6_in_2 : decode cX6_in 2 = .ok (.if_icmp .lt 12, 3) := by decide +kernel
theorem dX6_in_5 : decode cX6_in 5 = .ok (.iload_n 0, 1) := by decide +kernel
theorem dX6_in_6 : decode cX6_in 6 = .ok (.iload_n 2, 1) := by decide +kernel
theorem dX6_in_7 : decode cX6_in 7 = .ok (.if_icmp .gt 7, 3) := by decide +kernel
theorem dX6_in_10 : decode cX6_in 10 = .ok (.iconst 1, 1) := by decide +kernel
theorem dX6_in_11 : decode cX6_in 11 = .ok (.goto 4, 3) := by decide +kernel
theorem dX6_in_14 : decode cX6_in 14 = .ok (.iconst 0, 1) := by decide +kernel
theorem dX6_in_15 : decode cX6_in 15 = .ok (.ireturn, 1) := by decide +kernel
theorem dX6_has_0 : decode cX6_has 0 = .ok (.iload_n 0, 1) := by decide +kernel
theorem dX6_has_1 : decode cX6_has 1 = .ok (.iload_n 1, 1) := by decide +kernel
theorem dX6_has_2 : decode cX6_has 2 = .ok (.ishr, 1) := by decide +kernel
theorem dX6_has_3 : decode cX6_has 3 = .ok (.iconst 1, 1) := by decide +kernel
theorem dX6_has_4 : decode cX6_has 4 = .ok (.iand, 1) := by decide +kernel
theorem dX6_has_5 : decode cX6_has 5 = .ok (.iconst 1, 1) := by decide +kernel
theorem dX6_has_6 : decode cX6_has 6 = .ok (.if_icmp .ne 7, 3) := by decide +kernel
theorem dX6_has_9 : decode cX6_has 9 = .ok (.iconst 1, 1) := by decide +kernel
theorem dX6_has_10 : decode cX6_has 10 = .ok (.goto 4, 3) := by decide +kernel
theorem dX6_has_13 : decode cX6_has 13 = .ok (.iconst 0, 1) := by decide +kernel
theorem dX6_has_14 : decode cX6_has 14 = .ok (.ireturn, 1) := by decide +kernel
theorem dX6_bits_0 : decode cX6_bits 0 = .ok (.iconst 0, 1) := by decide +kernel
theorem dX6_bits_1 : decode cX6_bits 1 = .ok (.istore_n 1, 1) := by decide +kernel
theorem dX6_bits_2 : decode cX6_bits 2 = .ok (.iload_n 0, 1) := by decide +kernel
theorem dX6_bits_3 : decode cX6_bits 3 = .ok (.istore_n 2, 1) := by decide +kernel
theorem dX6_bits_4 : decode cX6_bits 4 = .ok (.iload_n 2, 1) := by decide +kernel
theorem dX6_bits_5 : decode cX6_bits 5 = .ok (.ifCond .eq 15, 3) := by decide +kernel
theorem dX6_bits_8 : decode cX6_bits 8 = .ok (.iinc 1 1, 3) := by decide +kernel
theorem dX6_bits_11 : decode cX6_bits 11 = .ok (.iload_n 2, 1) := by decide +kernel
theorem dX6_bits_12 : decode cX6_bits 12 = .ok (.iload_n 2, 1) := by decide +kernel
theorem dX6_bits_13 : decode cX6_bits 13 = .ok (.iconst 1, 1) := by decide +kernel
theorem dX6_bits_14 : decode cX6_bits 14 = .ok (.isub, 1) := by decide +kernel
theorem dX6_bits_15 : decode cX6_bits 15 = .ok (.iand, 1) := by decide +kernel
theorem dX6_bits_16 : decode cX6_bits 16 = .ok (.istore_n 2, 1) := by decide +kernel
theorem dX6_bits_17 : decode cX6_bits 17 = .ok (.goto (-13), 3) := by decide +kernel
theorem dX6_bits_20 : decode cX6_bits 20 = .ok (.iload_n 1, 1) := by decide +kernel
theorem dX6_bits_21 : decode cX6_bits 21 = .ok (.ireturn, 1) := by decide +kernel
theorem dX6_meets_0 : decode cX6_meets 0 = .ok (.aload_n 0, 1) := by decide +kernel
theorem dX6_meets_1 : decode cX6_meets 1 = .ok (.iload_n 1, 1) := by decide +kernel
theorem dX6_meets_2 : decode cX6_meets 2 = .ok (.putfield 73, 3) := by decide +kernel
theorem dX6_meets_5 : decode cX6_meets 5 = .ok (.aload_n 0, 1) := by decide +kernel
theorem dX6_meets_6 : decode cX6_meets 6 = .ok (.getfield 13, 3) := by decide +kernel
theorem dX6_meets_9 : decode cX6_meets 9 = .ok (.iload_n 1, 1) := by decide +kernel
theorem dX6_meets_10 : decode cX6_meets 10 = .ok (.dup2, 1) := by decide +kernel
theorem dX6_meets_11 : decode cX6_meets 11 = .ok (.iaload, 1) := by decide +kernel
theorem dX6_meets_12 : decode cX6_meets 12 = .ok (.iconst 1, 1) := by decide +kernel
theorem dX6_meets_13 : decode cX6_meets 13 = .ok (.iadd, 1) := by decide +kernel
theorem dX6_meets_14 : decode cX6_meets 14 = .ok (.iastore, 1) := by decide +kernel
theorem dX6_meets_15 : decode cX6_meets 15 = .ok (.bipush (-3), 2) := by decide +kernel
theorem dX6_meets_17 : decode cX6_meets 17 = .ok (.ireturn, 1) := by decide +kernel
theorem dX6_tells_0 : decode cX6_tells 0 = .ok (.aload_n 0, 1) := by decide +kernel
theorem dX6_tells_1 : decode cX6_tells 1 = .ok (.iload_n 1, 1) := by decide +kernel
theorem dX6_tells_2 : decode cX6_tells 2 = .ok (.putfield 77, 3) := by decide +kernel
theorem dX6_tells_5 : decode cX6_tells 5 = .ok (.iload_n 2, 1) := by decide +kernel
theorem dX6_tells_6 : decode cX6_tells 6 = .ok (.ireturn, 1) := by decide +kernel
theorem dX6_asked_0 : decode cX6_asked 0 = .ok (.aload_n 0, 1) := by decide +kernel
theorem dX6_asked_1 : decode cX6_asked 1 = .ok (.getfield 77, 3) := by decide +kernel
theorem dX6_asked_4 : decode cX6_asked 4 = .ok (.ireturn, 1) := by decide +kernel
theorem dX6_upper_0 : decode cX6_upper 0 = .ok (.aload_n 0, 1) := by decide +kernel
theorem dX6_upper_1 : decode cX6_upper 1 = .ok (.getfield 80, 3) := by decide +kernel
theorem dX6_upper_4 : decode cX6_upper 4 = .ok (.lreturn, 1) := by decide +kernel
theorem dX6_lower_0 : decode cX6_lower 0 = .ok (.aload_n 0, 1) := by decide +kernel
theorem dX6_lower_1 : decode cX6_lower 1 = .ok (.getfield 7, 3) := by decide +kernel
theorem dX6_lower_4 : decode cX6_lower 4 = .ok (.lreturn, 1) := by decide +kernel
theorem dX6_lowest_0 : decode cX6_lowest 0 = .ok (.lload_n 1, 1) := by decide +kernel
theorem dX6_lowest_1 : decode cX6_lowest 1 = .ok (.lstore 6, 2) := by decide +kernel
theorem dX6_lowest_3 : decode cX6_lowest 3 = .ok (.lload_n 3, 1) := by decide +kernel
theorem dX6_lowest_4 : decode cX6_lowest 4 = .ok (.lstore 8, 2) := by decide +kernel
theorem dX6_lowest_6 : decode cX6_lowest 6 = .ok (.lload 8, 2) := by decide +kernel
theorem dX6_lowest_8 : decode cX6_lowest 8 = .ok (.lconst 0, 1) := by decide +kernel
theorem dX6_lowest_9 : decode cX6_lowest 9 = .ok (.lcmp, 1) := by decide +kernel
theorem dX6_lowest_10 : decode cX6_lowest 10 = .ok (.ifCond .eq 21, 3) := by decide +kernel
theorem dX6_lowest_13 : decode cX6_lowest 13 = .ok (.lload 6, 2) := by decide +kernel
theorem dX6_lowest_15 : decode cX6_lowest 15 = .ok (.lload 8, 2) := by decide +kernel
theorem dX6_lowest_17 : decode cX6_lowest 17 = .ok (.lrem, 1) := by decide +kernel
theorem dX6_lowest_18 : decode cX6_lowest 18 = .ok (.lstore 10, 2) := by decide +kernel
theorem dX6_lowest_20 : decode cX6_lowest 20 = .ok (.lload 8, 2) := by decide +kernel
theorem dX6_lowest_22 : decode cX6_lowest 22 = .ok (.lstore 6, 2) := by decide +kernel
theorem dX6_lowest_24 : decode cX6_lowest 24 = .ok (.lload 10, 2) := by decide +kernel
theorem dX6_lowest_26 : decode cX6_lowest 26 = .ok (.lstore 8, 2) := by decide +kernel
theorem dX6_lowest_28 : decode cX6_lowest 28 = .ok (.goto (-22), 3) := by decide +kernel
theorem dX6_lowest_31 : decode cX6_lowest 31 = .ok (.aload_n 0, 1) := by decide +kernel
theorem dX6_lowest_32 : decode cX6_lowest 32 = .ok (.lload_n 1, 1) := by decide +kernel
theorem dX6_lowest_33 : decode cX6_lowest 33 = .ok (.lload 6, 2) := by decide +kernel
theorem dX6_lowest_35 : decode cX6_lowest 35 = .ok (.ldiv, 1) := by decide +kernel
theorem dX6_lowest_36 : decode cX6_lowest 36 = .ok (.putfield 80, 3) := by decide +kernel
theorem dX6_lowest_39 : decode cX6_lowest 39 = .ok (.aload_n 0, 1) := by decide +kernel
theorem dX6_lowest_40 : decode cX6_lowest 40 = .ok (.lload_n 3, 1) := by decide +kernel
theorem dX6_lowest_41 : decode cX6_lowest 41 = .ok (.lload 6, 2) := by decide +kernel
theorem dX6_lowest_43 : decode cX6_lowest 43 = .ok (.ldiv, 1) := by decide +kernel
theorem dX6_lowest_44 : decode cX6_lowest 44 = .ok (.putfield 7, 3) := by decide +kernel
theorem dX6_lowest_47 : decode cX6_lowest 47 = .ok (.iload 5, 2) := by decide +kernel
theorem dX6_lowest_49 : decode cX6_lowest 49 = .ok (.ireturn, 1) := by decide +kernel
theorem dX6_finding_0 : decode cX6_finding 0 = .ok (.aload_n 0, 1) := by decide +kernel
theorem dX6_finding_1 : decode cX6_finding 1 = .ok (.getfield 73, 3) := by decide +kernel
theorem dX6_finding_4 : decode cX6_finding 4 = .ok (.ireturn, 1) := by decide +kernel
set_option maxRecDepth 20000 in
theorem ggX6_findings_X6_in : GoodIn wsX6_findings wsX6_in := goodIn_r _ [5] (by decide +kernel) (by decide +kernel)
set_option maxRecDepth 20000 in
theorem gX6_findings_X6_in : GoodIn wsX6_findings (va_wsS RX6 83 yX6_in wsX6_in) := goodIn_app (goodIn_of _ (by decide +kernel)) ggX6_findings_X6_in
theorem dX6_findings_0 : decode cX6_findings 0 = .ok (.iload_n 1, 1) := by decide +kernel
theorem dX6_findings_1 : decode cX6_findings 1 = .ok (.iconst 1, 1) := by decide +kernel
theorem dX6_findings_2 : decode cX6_findings 2 = .ok (.iconst 5, 1) := by decide +kernel
theorem dX6_findings_3 : decode cX6_findings 3 = .ok (.invokestatic 83, 3) := by decide +kernel
theorem dX6_findings_6 : decode cX6_findings 6 = .ok (.ifCond .eq 12, 3) := by decide +kernel
theorem dX6_findings_9 : decode cX6_findings 9 = .ok (.aload_n 0, 1) := by decide +kernel
theorem dX6_findings_10 : decode cX6_findings 10 = .ok (.getfield 13, 3) := by decide +kernel
theorem dX6_findings_13 : decode cX6_findings 13 = .ok (.iload_n 1, 1) := by decide +kernel
theorem dX6_findings_14 : decode cX6_findings 14 = .ok (.iaload, 1) := by decide +kernel
theorem dX6_findings_15 : decode cX6_findings 15 = .ok (.goto 4, 3) := by decide +kernel
theorem dX6_findings_18 : decode cX6_findings 18 = .ok (.iconst (-1), 1) := by decide +kernel
theorem dX6_findings_19 : decode cX6_findings 19 = .ok (.ireturn, 1) := by decide +kernel
set_option maxRecDepth 20000 in
theorem ggX6_isRow_X6_in : GoodIn wsX6_isRow wsX6_in := goodIn_r _ [4] (by decide +kernel) (by decide +kernel)
set_option maxRecDepth 20000 in
theorem gX6_isRow_X6_in : GoodIn wsX6_isRow (va_wsS RX6 83 yX6_in wsX6_in) := goodIn_app (goodIn_of _ (by decide +kernel)) ggX6_isRow_X6_in
theorem dX6_isRow_0 : decode cX6_isRow 0 = .ok (.iload_n 0, 1) := by decide +kernel
theorem dX6_isRow_1 : decode cX6_isRow 1 = .ok (.iconst 0, 1) := by decide +kernel
theorem dX6_isRow_2 : decode cX6_isRow 2 = .ok (.iconst 5, 1) := by decide +kernel
theorem dX6_isRow_3 : decode cX6_isRow 3 = .ok (.invokestatic 83, 3) := by decide +kernel
theorem dX6_isRow_6 : decode cX6_isRow 6 = .ok (.ireturn, 1) := by decide +kernel
theorem dX6_rowAt_0 : decode cX6_rowAt 0 = .ok (.aload_n 0, 1) := by decide +kernel
theorem dX6_rowAt_1 : decode cX6_rowAt 1 = .ok (.getfield 20, 3) := by decide +kernel
theorem dX6_rowAt_4 : decode cX6_rowAt 4 = .ok (.bipush 40, 2) := by decide +kernel
theorem dX6_rowAt_6 : decode cX6_rowAt 6 = .ok (.iload_n 1, 1) := by decide +kernel
theorem dX6_rowAt_7 : decode cX6_rowAt 7 = .ok (.imul, 1) := by decide +kernel
theorem dX6_rowAt_8 : decode cX6_rowAt 8 = .ok (.iload_n 2, 1) := by decide +kernel
theorem dX6_rowAt_9 : decode cX6_rowAt 9 = .ok (.iadd, 1) := by decide +kernel
theorem dX6_rowAt_10 : decode cX6_rowAt 10 = .ok (.iaload, 1) := by decide +kernel
theorem dX6_rowAt_11 : decode cX6_rowAt 11 = .ok (.ireturn, 1) := by decide +kernel
set_option maxRecDepth 20000 in
theorem ggX6_row_X6_isRow : GoodIn wsX6_row wsX6_isRow := goodIn_r _ [6, 7, 8, 5, 9] (by decide +kernel) (by decide +kernel)
set_option maxRecDepth 20000 in
theorem gX6_row_X6_isRow : GoodIn wsX6_row (va_wsS RX6 87 yX6_isRow wsX6_isRow) := goodIn_app (goodIn_of _ (by decide +kernel)) ggX6_row_X6_isRow
set_option maxRecDepth 20000 in
theorem ggX6_row_X6_meets : GoodIn wsX6_row wsX6_meets := goodIn_r _ [13, 14, 15, 16, 17, 18, 19, 20, 21, 22, 23, 24, 25, 26, 27, 28, 29, 30, 31, 32, 33, 34, 35, 36, 37, 38, 39, 40, 41, 42, 43, 44, 45, 46, 47, 48, 49] (by decide +kernel) (by decide +kernel)
set_option maxRecDepth 20000 in
theorem gX6_row_X6_meets : GoodIn wsX6_row (wsV RX6 91 RX6 yX6_meets wsX6_meets) := goodIn_app (goodIn_of _ (by decide +kernel)) ggX6_row_X6_meets
theorem dX6_row_0 : decode cX6_row 0 = .ok (.iload_n 1, 1) := by decide +kernel
theorem dX6_row_1 : decode cX6_row 1 = .ok (.invokestatic 87, 3) := by decide +kernel
theorem dX6_row_4 : decode cX6_row 4 = .ok (.ifCond .eq 9, 3) := by decide +kernel
theorem dX6_row_7 : decode cX6_row 7 = .ok (.iload_n 2, 1) := by decide +kernel
theorem dX6_row_8 : decode cX6_row 8 = .ok (.bipush 40, 2) := by decide +kernel
theorem dX6_row_10 : decode cX6_row 10 = .ok (.if_icmp .le 5, 3) := by decide +kernel
theorem dX6_row_13 : decode cX6_row 13 = .ok (.iconst (-1), 1) := by decide +kernel
theorem dX6_row_14 : decode cX6_row 14 = .ok (.ireturn, 1) := by decide +kernel
theorem dX6_row_15 : decode cX6_row 15 = .ok (.iload_n 2, 1) := by decide +kernel
theorem dX6_row_16 : decode cX6_row 16 = .ok (.ifCond .ge 9, 3) := by decide +kernel
theorem dX6_row_19 : decode cX6_row 19 = .ok (.aload_n 0, 1) := by decide +kernel
theorem dX6_row_20 : decode cX6_row 20 = .ok (.iconst 5, 1) := by decide +kernel
theorem dX6_row_21 : decode cX6_row 21 = .ok (.invokevirtual 91, 3) := by decide +kernel
theorem dX6_row_24 : decode cX6_row 24 = .ok (.ireturn, 1) := by decide +kernel
theorem dX6_row_25 : decode cX6_row 25 = .ok (.aload_n 0, 1) := by decide +kernel
theorem dX6_row_26 : decode cX6_row 26 = .ok (.getfield 17, 3) := by decide +kernel
theorem dX6_row_29 : decode cX6_row 29 = .ok (.iload_n 1, 1) := by decide +kernel
theorem dX6_row_30 : decode cX6_row 30 = .ok (.iload_n 2, 1) := by decide +kernel
theorem dX6_row_31 : decode cX6_row 31 = .ok (.iastore, 1) := by decide +kernel
theorem dX6_row_32 : decode cX6_row 32 = .ok (.iconst 0, 1) := by decide +kernel
theorem dX6_row_33 : decode cX6_row 33 = .ok (.istore_n 3, 1) := by decide +kernel
theorem dX6_row_34 : decode cX6_row 34 = .ok (.iload_n 3, 1) := by decide +kernel
theorem dX6_row_35 : decode cX6_row 35 = .ok (.bipush 40, 2) := by decide +kernel
theorem dX6_row_37 : decode cX6_row 37 = .ok (.if_icmp .ge 21, 3) := by decide +kernel
theorem dX6_row_40 : decode cX6_row 40 = .ok (.aload_n 0, 1) := by decide +kernel
theorem dX6_row_41 : decode cX6_row 41 = .ok (.getfield 20, 3) := by decide +kernel
theorem dX6_row_44 : decode cX6_row 44 = .ok (.bipush 40, 2) := by decide +kernel
theorem dX6_row_46 : decode cX6_row 46 = .ok (.iload_n 1, 1) := by decide +kernel
theorem dX6_row_47 : decode cX6_row 47 = .ok (.imul, 1) := by decide +kernel
theorem dX6_row_48 : decode cX6_row 48 = .ok (.iload_n 3, 1) := by decide +kernel
theorem dX6_row_49 : decode cX6_row 49 = .ok (.iadd, 1) := by decide +kernel
theorem dX6_row_50 : decode cX6_row 50 = .ok (.iconst 0, 1) := by decide +kernel
theorem dX6_row_51 : decode cX6_row 51 = .ok (.iastore, 1) := by decide +kernel
theorem dX6_row_52 : decode cX6_row 52 = .ok (.iinc 3 1, 3) := by decide +kernel
theorem dX6_row_55 : decode cX6_row 55 = .ok (.goto (-21), 3) := by decide +kernel
theorem dX6_row_58 : decode cX6_row 58 = .ok (.iload_n 2, 1) := by decide +kernel
theorem dX6_row_59 : decode cX6_row 59 = .ok (.ireturn, 1) := by decide +kernel
set_option maxRecDepth 20000 in
theorem ggX6_lay_X6_isRow : GoodIn wsX6_lay wsX6_isRow := goodIn_r _ [6, 7, 8, 5, 9] (by decide +kernel) (by decide +kernel)
set_option maxRecDepth 20000 in
theorem gX6_lay_X6_isRow : GoodIn wsX6_lay (va_wsS RX6 87 yX6_isRow wsX6_isRow) := goodIn_app (goodIn_of _ (by decide +kernel)) ggX6_lay_X6_isRow
set_option maxRecDepth 20000 in
theorem ggX6_lay_X6_meets : GoodIn wsX6_lay wsX6_meets := goodIn_r _ [13, 14, 15, 25, 26, 27, 28, 29, 30, 31, 32, 33, 34, 35, 36, 37, 38, 39, 40, 41, 42, 43, 44, 45, 46, 47, 48, 49, 50, 51, 52, 53, 54, 55, 56, 57, 58] (by decide +kernel) (by decide +kernel)
set_option maxRecDepth 20000 in
theorem gX6_lay_X6_meets : GoodIn wsX6_lay (wsV RX6 91 RX6 yX6_meets wsX6_meets) := goodIn_app (goodIn_of _ (by decide +kernel)) ggX6_lay_X6_meets
set_option maxRecDepth 20000 in
theorem ggX6_lay_X6_in : GoodIn wsX6_lay wsX6_in := goodIn_r _ [9] (by decide +kernel) (by decide +kernel)
set_option maxRecDepth 20000 in
theorem gX6_lay_X6_in : GoodIn wsX6_lay (va_wsS RX6 83 yX6_in wsX6_in) := goodIn_app (goodIn_of _ (by decide +kernel)) ggX6_lay_X6_in
set_option maxRecDepth 20000 in
theorem ggX6_lay_X6_rowAt : GoodIn wsX6_lay wsX6_rowAt := goodIn_r _ [19, 2, 25, 26, 27, 28, 29, 30, 31, 32, 33, 34, 35, 36, 37, 38, 39, 40, 41, 42, 43, 44, 45, 46, 47, 48, 49, 50, 51, 52, 53, 54, 55, 56, 57, 58] (by decide +kernel) (by decide +kernel)
set_option maxRecDepth 20000 in
theorem gX6_lay_X6_rowAt : GoodIn wsX6_lay (wsV RX6 95 RX6 yX6_rowAt wsX6_rowAt) := goodIn_app (goodIn_of _ (by decide +kernel)) ggX6_lay_X6_rowAt
set_option maxRecDepth 20000 in
theorem ggX6_lay_X6_tells : GoodIn wsX6_lay wsX6_tells := goodIn_r _ [23, 24, 25, 26, 27, 28, 29, 30, 31, 32, 33, 34, 35, 36, 37, 38, 39, 40, 41, 42, 43, 44, 45, 46, 47, 48, 49, 50, 51, 52, 53, 54, 55, 56, 57, 58] (by decide +kernel) (by decide +kernel)
set_option maxRecDepth 20000 in
theorem gX6_lay_X6_tells : GoodIn wsX6_lay (wsV RX6 99 RX6 yX6_tells wsX6_tells) := goodIn_app (goodIn_of _ (by decide +kernel)) ggX6_lay_X6_tells
theorem dX6_lay_0 : decode cX6_lay 0 = .ok (.iload_n 1, 1) := by decide +kernel
theorem dX6_lay_1 : decode cX6_lay 1 = .ok (.invokestatic 87, 3) := by decide +kernel
theorem dX6_lay_4 : decode cX6_lay 4 = .ok (.ifCond .ne 5, 3) := by decide +kernel
theorem dX6_lay_7 : decode cX6_lay 7 = .ok (.iconst (-1), 1) := by decide +kernel
theorem dX6_lay_8 : decode cX6_lay 8 = .ok (.ireturn, 1) := by decide +kernel
theorem dX6_lay_9 : decode cX6_lay 9 = .ok (.aload_n 0, 1) := by decide +kernel
theorem dX6_lay_10 : decode cX6_lay 10 = .ok (.getfield 17, 3) := by decide +kernel
theorem dX6_lay_13 : decode cX6_lay 13 = .ok (.iload_n 1, 1) := by decide +kernel
theorem dX6_lay_14 : decode cX6_lay 14 = .ok (.iaload, 1) := by decide +kernel
theorem dX6_lay_15 : decode cX6_lay 15 = .ok (.ifCond .ge 9, 3) := by decide +kernel
theorem dX6_lay_18 : decode cX6_lay 18 = .ok (.aload_n 0, 1) := by decide +kernel
theorem dX6_lay_19 : decode cX6_lay 19 = .ok (.iconst 1, 1) := by decide +kernel
theorem dX6_lay_20 : decode cX6_lay 20 = .ok (.invokevirtual 91, 3) := by decide +kernel
theorem dX6_lay_23 : decode cX6_lay 23 = .ok (.ireturn, 1) := by decide +kernel
theorem dX6_lay_24 : decode cX6_lay 24 = .ok (.iload_n 2, 1) := by decide +kernel
theorem dX6_lay_25 : decode cX6_lay 25 = .ok (.iconst 0, 1) := by decide +kernel
theorem dX6_lay_26 : decode cX6_lay 26 = .ok (.aload_n 0, 1) := by decide +kernel
theorem dX6_lay_27 : decode cX6_lay 27 = .ok (.getfield 17, 3) := by decide +kernel
theorem dX6_lay_30 : decode cX6_lay 30 = .ok (.iload_n 1, 1) := by decide +kernel
theorem dX6_lay_31 : decode cX6_lay 31 = .ok (.iaload, 1) := by decide +kernel
theorem dX6_lay_32 : decode cX6_lay 32 = .ok (.iconst 1, 1) := by decide +kernel
theorem dX6_lay_33 : decode cX6_lay 33 = .ok (.isub, 1) := by decide +kernel
theorem dX6_lay_34 : decode cX6_lay 34 = .ok (.invokestatic 83, 3) := by decide +kernel
theorem dX6_lay_37 : decode cX6_lay 37 = .ok (.ifCond .ne 9, 3) := by decide +kernel
theorem dX6_lay_40 : decode cX6_lay 40 = .ok (.aload_n 0, 1) := by decide +kernel
theorem dX6_lay_41 : decode cX6_lay 41 = .ok (.iconst 2, 1) := by decide +kernel
theorem dX6_lay_42 : decode cX6_lay 42 = .ok (.invokevirtual 91, 3) := by decide +kernel
theorem dX6_lay_45 : decode cX6_lay 45 = .ok (.ireturn, 1) := by decide +kernel
theorem dX6_lay_46 : decode cX6_lay 46 = .ok (.aload_n 0, 1) := by decide +kernel
theorem dX6_lay_47 : decode cX6_lay 47 = .ok (.iload_n 1, 1) := by decide +kernel
theorem dX6_lay_48 : decode cX6_lay 48 = .ok (.iload_n 2, 1) := by decide +kernel
theorem dX6_lay_49 : decode cX6_lay 49 = .ok (.invokevirtual 95, 3) := by decide +kernel
theorem dX6_lay_52 : decode cX6_lay 52 = .ok (.istore 4, 2) := by decide +kernel
theorem dX6_lay_54 : decode cX6_lay 54 = .ok (.aload_n 0, 1) := by decide +kernel
theorem dX6_lay_55 : decode cX6_lay 55 = .ok (.getfield 20, 3) := by decide +kernel
theorem dX6_lay_58 : decode cX6_lay 58 = .ok (.bipush 40, 2) := by decide +kernel
theorem dX6_lay_60 : decode cX6_lay 60 = .ok (.iload_n 1, 1) := by decide +kernel
theorem dX6_lay_61 : decode cX6_lay 61 = .ok (.imul, 1) := by decide +kernel
theorem dX6_lay_62 : decode cX6_lay 62 = .ok (.iload_n 2, 1) := by decide +kernel
theorem dX6_lay_63 : decode cX6_lay 63 = .ok (.iadd, 1) := by decide +kernel
theorem dX6_lay_64 : decode cX6_lay 64 = .ok (.iload_n 3, 1) := by decide +kernel
theorem dX6_lay_65 : decode cX6_lay 65 = .ok (.iastore, 1) := by decide +kernel
theorem dX6_lay_66 : decode cX6_lay 66 = .ok (.aload_n 0, 1) := by decide +kernel
theorem dX6_lay_67 : decode cX6_lay 67 = .ok (.iload 4, 2) := by decide +kernel
theorem dX6_lay_69 : decode cX6_lay 69 = .ok (.iconst 1, 1) := by decide +kernel
theorem dX6_lay_70 : decode cX6_lay 70 = .ok (.invokevirtual 99, 3) := by decide +kernel
theorem dX6_lay_73 : decode cX6_lay 73 = .ok (.ireturn, 1) := by decide +kernel
set_option maxRecDepth 20000 in
theorem ggX6_at_X6_isRow : GoodIn wsX6_at wsX6_isRow := goodIn_r _ [5, 6, 7, 4, 8] (by decide +kernel) (by decide +kernel)
set_option maxRecDepth 20000 in
theorem gX6_at_X6_isRow : GoodIn wsX6_at (va_wsS RX6 87 yX6_isRow wsX6_isRow) := goodIn_app (goodIn_of _ (by decide +kernel)) ggX6_at_X6_isRow
set_option maxRecDepth 20000 in
theorem ggX6_at_X6_meets : GoodIn wsX6_at wsX6_meets := goodIn_r _ [12, 13, 14, 25, 26, 27, 28, 29, 30, 31, 32, 33, 34, 35, 36, 37, 38, 39, 40, 41, 42, 43, 44, 45, 46, 47, 48, 49, 50, 51, 52, 53, 54, 55, 56, 57, 58] (by decide +kernel) (by decide +kernel)
set_option maxRecDepth 20000 in
theorem gX6_at_X6_meets : GoodIn wsX6_at (wsV RX6 91 RX6 yX6_meets wsX6_meets) := goodIn_app (goodIn_of _ (by decide +kernel)) ggX6_at_X6_meets
set_option maxRecDepth 20000 in
theorem ggX6_at_X6_in : GoodIn wsX6_at wsX6_in := goodIn_r _ [8] (by decide +kernel) (by decide +kernel)
set_option maxRecDepth 20000 in
theorem gX6_at_X6_in : GoodIn wsX6_at (va_wsS RX6 83 yX6_in wsX6_in) := goodIn_app (goodIn_of _ (by decide +kernel)) ggX6_at_X6_in
set_option maxRecDepth 20000 in
theorem ggX6_at_X6_rowAt : GoodIn wsX6_at wsX6_rowAt := goodIn_r _ [18, 19, 25, 26, 27, 28, 29, 30, 31, 32, 33, 34, 35, 36, 37, 38, 39, 40, 41, 42, 43, 44, 45, 46, 47, 48, 49, 50, 51, 52, 53, 54, 55, 56, 57, 58] (by decide +kernel) (by decide +kernel)
set_option maxRecDepth 20000 in
theorem gX6_at_X6_rowAt : GoodIn wsX6_at (wsV RX6 95 RX6 yX6_rowAt wsX6_rowAt) := goodIn_app (goodIn_of _ (by decide +kernel)) ggX6_at_X6_rowAt
set_option maxRecDepth 20000 in
theorem ggX6_at_X6_tells : GoodIn wsX6_at wsX6_tells := goodIn_r _ [23, 24, 25, 26, 27, 28, 29, 30, 31, 32, 33, 34, 35, 36, 37, 38, 39, 40, 41, 42, 43, 44, 45, 46, 47, 48, 49, 50, 51, 52, 53, 54, 55, 56, 57, 58] (by decide +kernel) (by decide +kernel)
set_option maxRecDepth 20000 in
theorem gX6_at_X6_tells : GoodIn wsX6_at (wsV RX6 99 RX6 yX6_tells wsX6_tells) := goodIn_app (goodIn_of _ (by decide +kernel)) ggX6_at_X6_tells
theorem dX6_at_0 : decode cX6_at 0 = .ok (.iload_n 1, 1) := by decide +kernel
theorem dX6_at_1 : decode cX6_at 1 = .ok (.invokestatic 87, 3) := by decide +kernel
theorem dX6_at_4 : decode cX6_at 4 = .ok (.ifCond .ne 5, 3) := by decide +kernel
theorem dX6_at_7 : decode cX6_at 7 = .ok (.iconst (-1), 1) := by decide +kernel
theorem dX6_at_8 : decode cX6_at 8 = .ok (.ireturn, 1) := by decide +kernel
theorem dX6_at_9 : decode cX6_at 9 = .ok (.aload_n 0, 1) := by decide +kernel
theorem dX6_at_10 : decode cX6_at 10 = .ok (.getfield 17, 3) := by decide +kernel
theorem dX6_at_13 : decode cX6_at 13 = .ok (.iload_n 1, 1) := by decide +kernel
theorem dX6_at_14 : decode cX6_at 14 = .ok (.iaload, 1) := by decide +kernel
theorem dX6_at_15 : decode cX6_at 15 = .ok (.ifCond .ge 9, 3) := by decide +kernel
theorem dX6_at_18 : decode cX6_at 18 = .ok (.aload_n 0, 1) := by decide +kernel
theorem dX6_at_19 : decode cX6_at 19 = .ok (.iconst 1, 1) := by decide +kernel
theorem dX6_at_20 : decode cX6_at 20 = .ok (.invokevirtual 91, 3) := by decide +kernel
theorem dX6_at_23 : decode cX6_at 23 = .ok (.ireturn, 1) := by decide +kernel
theorem dX6_at_24 : decode cX6_at 24 = .ok (.iload_n 2, 1) := by decide +kernel
theorem dX6_at_25 : decode cX6_at 25 = .ok (.iconst 0, 1) := by decide +kernel
theorem dX6_at_26 : decode cX6_at 26 = .ok (.aload_n 0, 1) := by decide +kernel
theorem dX6_at_27 : decode cX6_at 27 = .ok (.getfield 17, 3) := by decide +kernel
theorem dX6_at_30 : decode cX6_at 30 = .ok (.iload_n 1, 1) := by decide +kernel
theorem dX6_at_31 : decode cX6_at 31 = .ok (.iaload, 1) := by decide +kernel
theorem dX6_at_32 : decode cX6_at 32 = .ok (.iconst 1, 1) := by decide +kernel
theorem dX6_at_33 : decode cX6_at 33 = .ok (.isub, 1) := by decide +kernel
theorem dX6_at_34 : decode cX6_at 34 = .ok (.invokestatic 83, 3) := by decide +kernel
theorem dX6_at_37 : decode cX6_at 37 = .ok (.ifCond .eq 17, 3) := by decide +kernel
theorem dX6_at_40 : decode cX6_at 40 = .ok (.aload_n 0, 1) := by decide +kernel
theorem dX6_at_41 : decode cX6_at 41 = .ok (.aload_n 0, 1) := by decide +kernel
theorem dX6_at_42 : decode cX6_at 42 = .ok (.iload_n 1, 1) := by decide +kernel
theorem dX6_at_43 : decode cX6_at 43 = .ok (.iload_n 2, 1) := by decide +kernel
theorem dX6_at_44 : decode cX6_at 44 = .ok (.invokevirtual 95, 3) := by decide +kernel
theorem dX6_at_47 : decode cX6_at 47 = .ok (.iconst 1, 1) := by decide +kernel
theorem dX6_at_48 : decode cX6_at 48 = .ok (.invokevirtual 99, 3) := by decide +kernel
theorem dX6_at_51 : decode cX6_at 51 = .ok (.goto 8, 3) := by decide +kernel
theorem dX6_at_54 : decode cX6_at 54 = .ok (.aload_n 0, 1) := by decide +kernel
theorem dX6_at_55 : decode cX6_at 55 = .ok (.iconst 2, 1) := by decide +kernel
theorem dX6_at_56 : decode cX6_at 56 = .ok (.invokevirtual 91, 3) := by decide +kernel
theorem dX6_at_59 : decode cX6_at 59 = .ok (.ireturn, 1) := by decide +kernel
set_option maxRecDepth 20000 in
theorem ggX6_tear_X6_isRow : GoodIn wsX6_tear wsX6_isRow := goodIn_r _ [5, 6, 7, 4, 8] (by decide +kernel) (by decide +kernel)
set_option maxRecDepth 20000 in
theorem gX6_tear_X6_isRow : GoodIn wsX6_tear (va_wsS RX6 87 yX6_isRow wsX6_isRow) := goodIn_app (goodIn_of _ (by decide +kernel)) ggX6_tear_X6_isRow
set_option maxRecDepth 20000 in
theorem ggX6_tear_X6_meets : GoodIn wsX6_tear wsX6_meets := goodIn_r _ [12, 13, 14, 15, 16, 17, 18, 19, 20, 21, 22, 23, 24, 25, 26, 27, 28, 29, 30, 31, 32, 33, 34, 35, 36, 37, 38, 39, 40, 41, 42, 43, 44, 45, 46, 47, 48] (by decide +kernel) (by decide +kernel)
set_option maxRecDepth 20000 in
theorem gX6_tear_X6_meets : GoodIn wsX6_tear (wsV RX6 91 RX6 yX6_meets wsX6_meets) := goodIn_app (goodIn_of _ (by decide +kernel)) ggX6_tear_X6_meets
theorem dX6_tear_0 : decode cX6_tear 0 = .ok (.iload_n 1, 1) := by decide +kernel
theorem dX6_tear_1 : decode cX6_tear 1 = .ok (.invokestatic 87, 3) := by decide +kernel
theorem dX6_tear_4 : decode cX6_tear 4 = .ok (.ifCond .ne 5, 3) := by decide +kernel
theorem dX6_tear_7 : decode cX6_tear 7 = .ok (.iconst (-1), 1) := by decide +kernel
theorem dX6_tear_8 : decode cX6_tear 8 = .ok (.ireturn, 1) := by decide +kernel
theorem dX6_tear_9 : decode cX6_tear 9 = .ok (.aload_n 0, 1) := by decide +kernel
theorem dX6_tear_10 : decode cX6_tear 10 = .ok (.getfield 17, 3) := by decide +kernel
theorem dX6_tear_13 : decode cX6_tear 13 = .ok (.iload_n 1, 1) := by decide +kernel
theorem dX6_tear_14 : decode cX6_tear 14 = .ok (.iaload, 1) := by decide +kernel
theorem dX6_tear_15 : decode cX6_tear 15 = .ok (.ifCond .ge 9, 3) := by decide +kernel
theorem dX6_tear_18 : decode cX6_tear 18 = .ok (.aload_n 0, 1) := by decide +kernel
theorem dX6_tear_19 : decode cX6_tear 19 = .ok (.iconst 1, 1) := by decide +kernel
theorem dX6_tear_20 : decode cX6_tear 20 = .ok (.invokevirtual 91, 3) := by decide +kernel
theorem dX6_tear_23 : decode cX6_tear 23 = .ok (.ireturn, 1) := by decide +kernel
theorem dX6_tear_24 : decode cX6_tear 24 = .ok (.aload_n 0, 1) := by decide +kernel
theorem dX6_tear_25 : decode cX6_tear 25 = .ok (.getfield 17, 3) := by decide +kernel
theorem dX6_tear_28 : decode cX6_tear 28 = .ok (.iload_n 1, 1) := by decide +kernel
theorem dX6_tear_29 : decode cX6_tear 29 = .ok (.iconst (-1), 1) := by decide +kernel
theorem dX6_tear_30 : decode cX6_tear 30 = .ok (.iastore, 1) := by decide +kernel
theorem dX6_tear_31 : decode cX6_tear 31 = .ok (.iconst 1, 1) := by decide +kernel
theorem dX6_tear_32 : decode cX6_tear 32 = .ok (.ireturn, 1) := by decide +kernel
set_option maxRecDepth 20000 in
theorem ggX6_copy_X6_isRow : GoodIn wsX6_copy wsX6_isRow := goodIn_r _ [7, 8, 9, 6, 10] (by decide +kernel) (by decide +kernel)
set_option maxRecDepth 20000 in
theorem gX6_copy_X6_isRow : GoodIn wsX6_copy (va_wsS RX6 87 yX6_isRow wsX6_isRow) := goodIn_app (goodIn_of _ (by decide +kernel)) ggX6_copy_X6_isRow
set_option maxRecDepth 20000 in
theorem ggX6_copy_X6_meets : GoodIn wsX6_copy wsX6_meets := goodIn_r _ [14, 15, 16, 21, 22, 23, 24, 25, 26, 27, 28, 29, 30, 31, 32, 33, 34, 35, 36, 37, 38, 39, 40, 41, 42, 43, 44, 45, 46, 47, 48, 49, 50, 51, 52, 53, 54] (by decide +kernel) (by decide +kernel)
set_option maxRecDepth 20000 in
theorem gX6_copy_X6_meets : GoodIn wsX6_copy (wsV RX6 91 RX6 yX6_meets wsX6_meets) := goodIn_app (goodIn_of _ (by decide +kernel)) ggX6_copy_X6_meets
set_option maxRecDepth 20000 in
theorem ggX6_copy_X6_rowAt : GoodIn wsX6_copy wsX6_rowAt := goodIn_r _ [20, 3, 21, 22, 23, 24, 25, 26, 27, 28, 29, 30, 31, 32, 33, 34, 35, 36, 37, 38, 39, 40, 41, 42, 43, 44, 45, 46, 47, 48, 49, 50, 51, 52, 53, 54] (by decide +kernel) (by decide +kernel)
set_option maxRecDepth 20000 in
theorem gX6_copy_X6_rowAt : GoodIn wsX6_copy (wsV RX6 95 RX6 yX6_rowAt wsX6_rowAt) := goodIn_app (goodIn_of _ (by decide +kernel)) ggX6_copy_X6_rowAt
theorem dX6_copy_0 : decode cX6_copy 0 = .ok (.iload_n 1, 1) := by decide +kernel
theorem dX6_copy_1 : decode cX6_copy 1 = .ok (.invokestatic 87, 3) := by decide +kernel
theorem dX6_copy_4 : decode cX6_copy 4 = .ok (.ifCond .eq 10, 3) := by decide +kernel
theorem dX6_copy_7 : decode cX6_copy 7 = .ok (.iload_n 3, 1) := by decide +kernel
theorem dX6_copy_8 : decode cX6_copy 8 = .ok (.invokestatic 87, 3) := by decide +kernel
theorem dX6_copy_11 : decode cX6_copy 11 = .ok (.ifCond .ne 5, 3) := by decide +kernel
theorem dX6_copy_14 : decode cX6_copy 14 = .ok (.iconst (-1), 1) := by decide +kernel
theorem dX6_copy_15 : decode cX6_copy 15 = .ok (.ireturn, 1) := by decide +kernel
theorem dX6_copy_16 : decode cX6_copy 16 = .ok (.iload 5, 2) := by decide +kernel
theorem dX6_copy_18 : decode cX6_copy 18 = .ok (.ifCond .ge 9, 3) := by decide +kernel
theorem dX6_copy_21 : decode cX6_copy 21 = .ok (.aload_n 0, 1) := by decide +kernel
theorem dX6_copy_22 : decode cX6_copy 22 = .ok (.iconst 5, 1) := by decide +kernel
theorem dX6_copy_23 : decode cX6_copy 23 = .ok (.invokevirtual 91, 3) := by decide +kernel
theorem dX6_copy_26 : decode cX6_copy 26 = .ok (.ireturn, 1) := by decide +kernel
theorem dX6_copy_27 : decode cX6_copy 27 = .ok (.aload_n 0, 1) := by decide +kernel
theorem dX6_copy_28 : decode cX6_copy 28 = .ok (.getfield 17, 3) := by decide +kernel
theorem dX6_copy_31 : decode cX6_copy 31 = .ok (.iload_n 1, 1) := by decide +kernel
theorem dX6_copy_32 : decode cX6_copy 32 = .ok (.iaload, 1) := by decide +kernel
theorem dX6_copy_33 : decode cX6_copy 33 = .ok (.ifCond .lt 12, 3) := by decide +kernel
theorem dX6_copy_36 : decode cX6_copy 36 = .ok (.aload_n 0, 1) := by decide +kernel
theorem dX6_copy_37 : decode cX6_copy 37 = .ok (.getfield 17, 3) := by decide +kernel
theorem dX6_copy_40 : decode cX6_copy 40 = .ok (.iload_n 3, 1) := by decide +kernel
theorem dX6_copy_41 : decode cX6_copy 41 = .ok (.iaload, 1) := by decide +kernel
theorem dX6_copy_42 : decode cX6_copy 42 = .ok (.ifCond .ge 9, 3) := by decide +kernel
theorem dX6_copy_45 : decode cX6_copy 45 = .ok (.aload_n 0, 1) := by decide +kernel
theorem dX6_copy_46 : decode cX6_copy 46 = .ok (.iconst 1, 1) := by decide +kernel
theorem dX6_copy_47 : decode cX6_copy 47 = .ok (.invokevirtual 91, 3) := by decide +kernel
theorem dX6_copy_50 : decode cX6_copy 50 = .ok (.ireturn, 1) := by decide +kernel
theorem dX6_copy_51 : decode cX6_copy 51 = .ok (.iload_n 2, 1) := by decide +kernel
theorem dX6_copy_52 : decode cX6_copy 52 = .ok (.ifCond .lt 43, 3) := by decide +kernel
theorem dX6_copy_55 : decode cX6_copy 55 = .ok (.iload 4, 2) := by decide +kernel
theorem dX6_copy_57 : decode cX6_copy 57 = .ok (.ifCond .lt 38, 3) := by decide +kernel
theorem dX6_copy_60 : decode cX6_copy 60 = .ok (.iload_n 2, 1) := by decide +kernel
theorem dX6_copy_61 : decode cX6_copy 61 = .ok (.i2l, 1) := by decide +kernel
theorem dX6_copy_62 : decode cX6_copy 62 = .ok (.iload 5, 2) := by decide +kernel
theorem dX6_copy_64 : decode cX6_copy 64 = .ok (.i2l, 1) := by decide +kernel
theorem dX6_copy_65 : decode cX6_copy 65 = .ok (.ladd, 1) := by decide +kernel
theorem dX6_copy_66 : decode cX6_copy 66 = .ok (.aload_n 0, 1) := by decide +kernel
theorem dX6_copy_67 : decode cX6_copy 67 = .ok (.getfield 17, 3) := by decide +kernel
theorem dX6_copy_70 : decode cX6_copy 70 = .ok (.iload_n 1, 1) := by decide +kernel
theorem dX6_copy_71 : decode cX6_copy 71 = .ok (.iaload, 1) := by decide +kernel
theorem dX6_copy_72 : decode cX6_copy 72 = .ok (.i2l, 1) := by decide +kernel
theorem dX6_copy_73 : decode cX6_copy 73 = .ok (.lcmp, 1) := by decide +kernel
theorem dX6_copy_74 : decode cX6_copy 74 = .ok (.ifCond .gt 21, 3) := by decide +kernel
theorem dX6_copy_77 : decode cX6_copy 77 = .ok (.iload 4, 2) := by decide +kernel
theorem dX6_copy_79 : decode cX6_copy 79 = .ok (.i2l, 1) := by decide +kernel
theorem dX6_copy_80 : decode cX6_copy 80 = .ok (.iload 5, 2) := by decide +kernel
theorem dX6_copy_82 : decode cX6_copy 82 = .ok (.i2l, 1) := by decide +kernel
theorem dX6_copy_83 : decode cX6_copy 83 = .ok (.ladd, 1) := by decide +kernel
theorem dX6_copy_84 : decode cX6_copy 84 = .ok (.aload_n 0, 1) := by decide +kernel
theorem dX6_copy_85 : decode cX6_copy 85 = .ok (.getfield 17, 3) := by decide +kernel
theorem dX6_copy_88 : decode cX6_copy 88 = .ok (.iload_n 3, 1) := by decide +kernel
theorem dX6_copy_89 : decode cX6_copy 89 = .ok (.iaload, 1) := by decide +kernel
theorem dX6_copy_90 : decode cX6_copy 90 = .ok (.i2l, 1) := by decide +kernel
theorem dX6_copy_91 : decode cX6_copy 91 = .ok (.lcmp, 1) := by decide +kernel
theorem dX6_copy_92 : decode cX6_copy 92 = .ok (.ifCond .le 9, 3) := by decide +kernel
theorem dX6_copy_95 : decode cX6_copy 95 = .ok (.aload_n 0, 1) := by decide +kernel
theorem dX6_copy_96 : decode cX6_copy 96 = .ok (.iconst 2, 1) := by decide +kernel
theorem dX6_copy_97 : decode cX6_copy 97 = .ok (.invokevirtual 91, 3) := by decide +kernel
theorem dX6_copy_100 : decode cX6_copy 100 = .ok (.ireturn, 1) := by decide +kernel
theorem dX6_copy_101 : decode cX6_copy 101 = .ok (.iconst 0, 1) := by decide +kernel
theorem dX6_copy_102 : decode cX6_copy 102 = .ok (.istore 6, 2) := by decide +kernel
theorem dX6_copy_104 : decode cX6_copy 104 = .ok (.iload 6, 2) := by decide +kernel
theorem dX6_copy_106 : decode cX6_copy 106 = .ok (.iload 5, 2) := by decide +kernel
theorem dX6_copy_108 : decode cX6_copy 108 = .ok (.if_icmp .ge 25, 3) := by decide +kernel
theorem dX6_copy_111 : decode cX6_copy 111 = .ok (.aload_n 0, 1) := by decide +kernel
theorem dX6_copy_112 : decode cX6_copy 112 = .ok (.getfield 23, 3) := by decide +kernel
theorem dX6_copy_115 : decode cX6_copy 115 = .ok (.iload 6, 2) := by decide +kernel
theorem dX6_copy_117 : decode cX6_copy 117 = .ok (.aload_n 0, 1) := by decide +kernel
theorem dX6_copy_118 : decode cX6_copy 118 = .ok (.iload_n 1, 1) := by decide +kernel
theorem dX6_copy_119 : decode cX6_copy 119 = .ok (.iload_n 2, 1) := by decide +kernel
theorem dX6_copy_120 : decode cX6_copy 120 = .ok (.iload 6, 2) := by decide +kernel
theorem dX6_copy_122 : decode cX6_copy 122 = .ok (.iadd, 1) := by decide +kernel
theorem dX6_copy_123 : decode cX6_copy 123 = .ok (.invokevirtual 95, 3) := by decide +kernel
theorem dX6_copy_126 : decode cX6_copy 126 = .ok (.iastore, 1) := by decide +kernel
theorem dX6_copy_127 : decode cX6_copy 127 = .ok (.iinc 6 1, 3) := by decide +kernel
theorem dX6_copy_130 : decode cX6_copy 130 = .ok (.goto (-26), 3) := by decide +kernel
theorem dX6_copy_133 : decode cX6_copy 133 = .ok (.iconst 0, 1) := by decide +kernel
theorem dX6_copy_134 : decode cX6_copy 134 = .ok (.istore 6, 2) := by decide +kernel
theorem dX6_copy_136 : decode cX6_copy 136 = .ok (.iload 6, 2) := by decide +kernel
theorem dX6_copy_138 : decode cX6_copy 138 = .ok (.iload 5, 2) := by decide +kernel
theorem dX6_copy_140 : decode cX6_copy 140 = .ok (.if_icmp .ge 31, 3) := by decide +kernel
theorem dX6_copy_143 : decode cX6_copy 143 = .ok (.aload_n 0, 1) := by decide +kernel
theorem dX6_copy_144 : decode cX6_copy 144 = .ok (.getfield 20, 3) := by decide +kernel
theorem dX6_copy_147 : decode cX6_copy 147 = .ok (.bipush 40, 2) := by decide +kernel
theorem dX6_copy_149 : decode cX6_copy 149 = .ok (.iload_n 3, 1) := by decide +kernel
theorem dX6_copy_150 : decode cX6_copy 150 = .ok (.imul, 1) := by decide +kernel
theorem dX6_copy_151 : decode cX6_copy 151 = .ok (.iload 4, 2) := by decide +kernel
theorem dX6_copy_153 : decode cX6_copy 153 = .ok (.iadd, 1) := by decide +kernel
theorem dX6_copy_154 : decode cX6_copy 154 = .ok (.iload 6, 2) := by decide +kernel
theorem dX6_copy_156 : decode cX6_copy 156 = .ok (.iadd, 1) := by decide +kernel
theorem dX6_copy_157 : decode cX6_copy 157 = .ok (.aload_n 0, 1) := by decide +kernel
theorem dX6_copy_158 : decode cX6_copy 158 = .ok (.getfield 23, 3) := by decide +kernel
theorem dX6_copy_161 : decode cX6_copy 161 = .ok (.iload 6, 2) := by decide +kernel
theorem dX6_copy_163 : decode cX6_copy 163 = .ok (.iaload, 1) := by decide +kernel
theorem dX6_copy_164 : decode cX6_copy 164 = .ok (.iastore, 1) := by decide +kernel
theorem dX6_copy_165 : decode cX6_copy 165 = .ok (.iinc 6 1, 3) := by decide +kernel
theorem dX6_copy_168 : decode cX6_copy 168 = .ok (.goto (-32), 3) := by decide +kernel
theorem dX6_copy_171 : decode cX6_copy 171 = .ok (.iconst 1, 1) := by decide +kernel
theorem dX6_copy_172 : decode cX6_copy 172 = .ok (.ireturn, 1) := by decide +kernel
set_option maxRecDepth 20000 in
theorem ggX6_mean_X6_isRow : GoodIn wsX6_mean wsX6_isRow := goodIn_r _ [5, 6, 7, 4, 8] (by decide +kernel) (by decide +kernel)
set_option maxRecDepth 20000 in
theorem gX6_mean_X6_isRow : GoodIn wsX6_mean (va_wsS RX6 87 yX6_isRow wsX6_isRow) := goodIn_app (goodIn_of _ (by decide +kernel)) ggX6_mean_X6_isRow
set_option maxRecDepth 20000 in
theorem ggX6_mean_X6_meets : GoodIn wsX6_mean wsX6_meets := goodIn_r _ [12, 13, 14, 25, 26, 27, 28, 29, 30, 31, 32, 33, 34, 35, 36, 37, 38, 39, 40, 41, 42, 43, 44, 45, 46, 47, 48, 49, 50, 51, 52, 53, 54, 55, 56, 57, 58] (by decide +kernel) (by decide +kernel)
set_option maxRecDepth 20000 in
theorem gX6_mean_X6_meets : GoodIn wsX6_mean (wsV RX6 91 RX6 yX6_meets wsX6_meets) := goodIn_app (goodIn_of _ (by decide +kernel)) ggX6_mean_X6_meets
set_option maxRecDepth 20000 in
theorem ggX6_mean_X6_rowAt : GoodIn wsX6_mean wsX6_rowAt := goodIn_r _ [18, 19, 25, 26, 27, 28, 29, 30, 31, 32, 33, 34, 35, 36, 37, 38, 39, 40, 41, 42, 43, 44, 45, 46, 47, 48, 49, 50, 51, 52, 53, 54, 55, 56, 57, 58] (by decide +kernel) (by decide +kernel)
set_option maxRecDepth 20000 in
theorem gX6_mean_X6_rowAt : GoodIn wsX6_mean (wsV RX6 95 RX6 yX6_rowAt wsX6_rowAt) := goodIn_app (goodIn_of _ (by decide +kernel)) ggX6_mean_X6_rowAt
set_option maxRecDepth 20000 in
theorem ggX6_mean_X6_tells : GoodIn wsX6_mean wsX6_tells := goodIn_r _ [23, 24, 25, 26, 27, 28, 29, 30, 31, 32, 33, 34, 35, 36, 37, 38, 39, 40, 41, 42, 43, 44, 45, 46, 47, 48, 49, 50, 51, 52, 53, 54, 55, 56, 57, 58] (by decide +kernel) (by decide +kernel)
set_option maxRecDepth 20000 in
theorem gX6_mean_X6_tells : GoodIn wsX6_mean (wsV RX6 99 RX6 yX6_tells wsX6_tells) := goodIn_app (goodIn_of _ (by decide +kernel)) ggX6_mean_X6_tells
theorem dX6_mean_0 : decode cX6_mean 0 = .ok (.iload_n 1, 1) := by decide +kernel
theorem dX6_mean_1 : decode cX6_mean 1 = .ok (.invokestatic 87, 3) := by decide +kernel
theorem dX6_mean_4 : decode cX6_mean 4 = .ok (.ifCond .ne 5, 3) := by decide +kernel
theorem dX6_mean_7 : decode cX6_mean 7 = .ok (.iconst (-1), 1) := by decide +kernel
theorem dX6_mean_8 : decode cX6_mean 8 = .ok (.ireturn, 1) := by decide +kernel
theorem dX6_mean_9 : decode cX6_mean 9 = .ok (.aload_n 0, 1) := by decide +kernel
theorem dX6_mean_10 : decode cX6_mean 10 = .ok (.getfield 17, 3) := by decide +kernel
theorem dX6_mean_13 : decode cX6_mean 13 = .ok (.iload_n 1, 1) := by decide +kernel
theorem dX6_mean_14 : decode cX6_mean 14 = .ok (.iaload, 1) := by decide +kernel
theorem dX6_mean_15 : decode cX6_mean 15 = .ok (.ifCond .ge 9, 3) := by decide +kernel
theorem dX6_mean_18 : decode cX6_mean 18 = .ok (.aload_n 0, 1) := by decide +kernel
theorem dX6_mean_19 : decode cX6_mean 19 = .ok (.iconst 1, 1) := by decide +kernel
theorem dX6_mean_20 : decode cX6_mean 20 = .ok (.invokevirtual 91, 3) := by decide +kernel
theorem dX6_mean_23 : decode cX6_mean 23 = .ok (.ireturn, 1) := by decide +kernel
theorem dX6_mean_24 : decode cX6_mean 24 = .ok (.aload_n 0, 1) := by decide +kernel
theorem dX6_mean_25 : decode cX6_mean 25 = .ok (.getfield 17, 3) := by decide +kernel
theorem dX6_mean_28 : decode cX6_mean 28 = .ok (.iload_n 1, 1) := by decide +kernel
theorem dX6_mean_29 : decode cX6_mean 29 = .ok (.iaload, 1) := by decide +kernel
theorem dX6_mean_30 : decode cX6_mean 30 = .ok (.ifCond .ne 9, 3) := by decide +kernel
theorem dX6_mean_33 : decode cX6_mean 33 = .ok (.aload_n 0, 1) := by decide +kernel
theorem dX6_mean_34 : decode cX6_mean 34 = .ok (.iconst 4, 1) := by decide +kernel
theorem dX6_mean_35 : decode cX6_mean 35 = .ok (.invokevirtual 91, 3) := by decide +kernel
theorem dX6_mean_38 : decode cX6_mean 38 = .ok (.ireturn, 1) := by decide +kernel
theorem dX6_mean_39 : decode cX6_mean 39 = .ok (.lconst 0, 1) := by decide +kernel
theorem dX6_mean_40 : decode cX6_mean 40 = .ok (.lstore_n 2, 1) := by decide +kernel
theorem dX6_mean_41 : decode cX6_mean 41 = .ok (.iconst 0, 1) := by decide +kernel
theorem dX6_mean_42 : decode cX6_mean 42 = .ok (.istore 4, 2) := by decide +kernel
theorem dX6_mean_44 : decode cX6_mean 44 = .ok (.iload 4, 2) := by decide +kernel
theorem dX6_mean_46 : decode cX6_mean 46 = .ok (.aload_n 0, 1) := by decide +kernel
theorem dX6_mean_47 : decode cX6_mean 47 = .ok (.getfield 17, 3) := by decide +kernel
theorem dX6_mean_50 : decode cX6_mean 50 = .ok (.iload_n 1, 1) := by decide +kernel
theorem dX6_mean_51 : decode cX6_mean 51 = .ok (.iaload, 1) := by decide +kernel
theorem dX6_mean_52 : decode cX6_mean 52 = .ok (.if_icmp .ge 20, 3) := by decide +kernel
theorem dX6_mean_55 : decode cX6_mean 55 = .ok (.lload_n 2, 1) := by decide +kernel
theorem dX6_mean_56 : decode cX6_mean 56 = .ok (.aload_n 0, 1) := by decide +kernel
theorem dX6_mean_57 : decode cX6_mean 57 = .ok (.iload_n 1, 1) := by decide +kernel
theorem dX6_mean_58 : decode cX6_mean 58 = .ok (.iload 4, 2) := by decide +kernel
theorem dX6_mean_60 : decode cX6_mean 60 = .ok (.invokevirtual 95, 3) := by decide +kernel
theorem dX6_mean_63 : decode cX6_mean 63 = .ok (.i2l, 1) := by decide +kernel
theorem dX6_mean_64 : decode cX6_mean 64 = .ok (.ladd, 1) := by decide +kernel
theorem dX6_mean_65 : decode cX6_mean 65 = .ok (.lstore_n 2, 1) := by decide +kernel
theorem dX6_mean_66 : decode cX6_mean 66 = .ok (.iinc 4 1, 3) := by decide +kernel
theorem dX6_mean_69 : decode cX6_mean 69 = .ok (.goto (-25), 3) := by decide +kernel
theorem dX6_mean_72 : decode cX6_mean 72 = .ok (.aload_n 0, 1) := by decide +kernel
theorem dX6_mean_73 : decode cX6_mean 73 = .ok (.lload_n 2, 1) := by decide +kernel
theorem dX6_mean_74 : decode cX6_mean 74 = .ok (.aload_n 0, 1) := by decide +kernel
theorem dX6_mean_75 : decode cX6_mean 75 = .ok (.getfield 17, 3) := by decide +kernel
theorem dX6_mean_78 : decode cX6_mean 78 = .ok (.iload_n 1, 1) := by decide +kernel
theorem dX6_mean_79 : decode cX6_mean 79 = .ok (.iaload, 1) := by decide +kernel
theorem dX6_mean_80 : decode cX6_mean 80 = .ok (.i2l, 1) := by decide +kernel
theorem dX6_mean_81 : decode cX6_mean 81 = .ok (.ldiv, 1) := by decide +kernel
theorem dX6_mean_82 : decode cX6_mean 82 = .ok (.l2i, 1) := by decide +kernel
theorem dX6_mean_83 : decode cX6_mean 83 = .ok (.iconst 1, 1) := by decide +kernel
theorem dX6_mean_84 : decode cX6_mean 84 = .ok (.invokevirtual 99, 3) := by decide +kernel
theorem dX6_mean_87 : decode cX6_mean 87 = .ok (.ireturn, 1) := by decide +kernel
set_option maxRecDepth 20000 in
theorem ggX6_isText_X6_in : GoodIn wsX6_isText wsX6_in := goodIn_r _ [4] (by decide +kernel) (by decide +kernel)
set_option maxRecDepth 20000 in
theorem gX6_isText_X6_in : GoodIn wsX6_isText (va_wsS RX6 83 yX6_in wsX6_in) := goodIn_app (goodIn_of _ (by decide +kernel)) ggX6_isText_X6_in
theorem dX6_isText_0 : decode cX6_isText 0 = .ok (.iload_n 0, 1) := by decide +kernel
theorem dX6_isText_1 : decode cX6_isText 1 = .ok (.iconst 0, 1) := by decide +kernel
theorem dX6_isText_2 : decode cX6_isText 2 = .ok (.iconst 3, 1) := by decide +kernel
theorem dX6_isText_3 : decode cX6_isText 3 = .ok (.invokestatic 83, 3) := by decide +kernel
theorem dX6_isText_6 : decode cX6_isText 6 = .ok (.ireturn, 1) := by decide +kernel
set_option maxRecDepth 20000 in
theorem ggX6_text_X6_isText : GoodIn wsX6_text wsX6_isText := goodIn_r _ [6, 7, 8, 5, 9] (by decide +kernel) (by decide +kernel)
set_option maxRecDepth 20000 in
theorem gX6_text_X6_isText : GoodIn wsX6_text (va_wsS RX6 102 yX6_isText wsX6_isText) := goodIn_app (goodIn_of _ (by decide +kernel)) ggX6_text_X6_isText
set_option maxRecDepth 20000 in
theorem ggX6_text_X6_meets : GoodIn wsX6_text wsX6_meets := goodIn_r _ [13, 14, 15, 16, 17, 18, 19, 20, 21, 22, 23, 24, 25, 26, 27, 28, 29, 30, 31, 32, 33, 34, 35, 36, 37, 38, 39, 40, 41, 42, 43, 44, 45, 46, 47, 48, 49] (by decide +kernel) (by decide +kernel)
set_option maxRecDepth 20000 in
theorem gX6_text_X6_meets : GoodIn wsX6_text (wsV RX6 91 RX6 yX6_meets wsX6_meets) := goodIn_app (goodIn_of _ (by decide +kernel)) ggX6_text_X6_meets
theorem dX6_text_0 : decode cX6_text 0 = .ok (.iload_n 1, 1) := by decide +kernel
theorem dX6_text_1 : decode cX6_text 1 = .ok (.invokestatic 102, 3) := by decide +kernel
theorem dX6_text_4 : decode cX6_text 4 = .ok (.ifCond .eq 9, 3) := by decide +kernel
theorem dX6_text_7 : decode cX6_text 7 = .ok (.iload_n 2, 1) := by decide +kernel
theorem dX6_text_8 : decode cX6_text 8 = .ok (.bipush 60, 2) := by decide +kernel
theorem dX6_text_10 : decode cX6_text 10 = .ok (.if_icmp .le 5, 3) := by decide +kernel
theorem dX6_text_13 : decode cX6_text 13 = .ok (.iconst (-1), 1) := by decide +kernel
theorem dX6_text_14 : decode cX6_text 14 = .ok (.ireturn, 1) := by decide +kernel
theorem dX6_text_15 : decode cX6_text 15 = .ok (.iload_n 2, 1) := by decide +kernel
theorem dX6_text_16 : decode cX6_text 16 = .ok (.ifCond .ge 9, 3) := by decide +kernel
theorem dX6_text_19 : decode cX6_text 19 = .ok (.aload_n 0, 1) := by decide +kernel
theorem dX6_text_20 : decode cX6_text 20 = .ok (.iconst 5, 1) := by decide +kernel
theorem dX6_text_21 : decode cX6_text 21 = .ok (.invokevirtual 91, 3) := by decide +kernel
theorem dX6_text_24 : decode cX6_text 24 = .ok (.ireturn, 1) := by decide +kernel
theorem dX6_text_25 : decode cX6_text 25 = .ok (.aload_n 0, 1) := by decide +kernel
theorem dX6_text_26 : decode cX6_text 26 = .ok (.getfield 26, 3) := by decide +kernel
theorem dX6_text_29 : decode cX6_text 29 = .ok (.iload_n 1, 1) := by decide +kernel
theorem dX6_text_30 : decode cX6_text 30 = .ok (.iload_n 2, 1) := by decide +kernel
theorem dX6_text_31 : decode cX6_text 31 = .ok (.iastore, 1) := by decide +kernel
theorem dX6_text_32 : decode cX6_text 32 = .ok (.iconst 0, 1) := by decide +kernel
theorem dX6_text_33 : decode cX6_text 33 = .ok (.istore_n 3, 1) := by decide +kernel
theorem dX6_text_34 : decode cX6_text 34 = .ok (.iload_n 3, 1) := by decide +kernel
theorem dX6_text_35 : decode cX6_text 35 = .ok (.bipush 60, 2) := by decide +kernel
theorem dX6_text_37 : decode cX6_text 37 = .ok (.if_icmp .ge 22, 3) := by decide +kernel
theorem dX6_text_40 : decode cX6_text 40 = .ok (.aload_n 0, 1) := by decide +kernel
theorem dX6_text_41 : decode cX6_text 41 = .ok (.getfield 29, 3) := by decide +kernel
theorem dX6_text_44 : decode cX6_text 44 = .ok (.bipush 60, 2) := by decide +kernel
theorem dX6_text_46 : decode cX6_text 46 = .ok (.iload_n 1, 1) := by decide +kernel
theorem dX6_text_47 : decode cX6_text 47 = .ok (.imul, 1) := by decide +kernel
theorem dX6_text_48 : decode cX6_text 48 = .ok (.iload_n 3, 1) := by decide +kernel
theorem dX6_text_49 : decode cX6_text 49 = .ok (.iadd, 1) := by decide +kernel
theorem dX6_text_50 : decode cX6_text 50 = .ok (.bipush 32, 2) := by decide +kernel
theorem dX6_text_52 : decode cX6_text 52 = .ok (.bastore, 1) := by decide +kernel
theorem dX6_text_53 : decode cX6_text 53 = .ok (.iinc 3 1, 3) := by decide +kernel
theorem dX6_text_56 : decode cX6_text 56 = .ok (.goto (-22), 3) := by decide +kernel
theorem dX6_text_59 : decode cX6_text 59 = .ok (.iload_n 2, 1) := by decide +kernel
theorem dX6_text_60 : decode cX6_text 60 = .ok (.ireturn, 1) := by decide +kernel
set_option maxRecDepth 20000 in
theorem ggX6_put_X6_isText : GoodIn wsX6_put wsX6_isText := goodIn_r _ [6, 7, 8, 5, 9] (by decide +kernel) (by decide +kernel)
set_option maxRecDepth 20000 in
theorem gX6_put_X6_isText : GoodIn wsX6_put (va_wsS RX6 102 yX6_isText wsX6_isText) := goodIn_app (goodIn_of _ (by decide +kernel)) ggX6_put_X6_isText
set_option maxRecDepth 20000 in
theorem ggX6_put_X6_meets : GoodIn wsX6_put wsX6_meets := goodIn_r _ [13, 14, 15, 16, 17, 18, 19, 20, 21, 22, 23, 24, 25, 26, 27, 28, 29, 30, 31, 32, 33, 34, 35, 36, 37, 38, 39, 40, 41, 42, 43, 44, 45, 46, 47, 48, 49] (by decide +kernel) (by decide +kernel)
set_option maxRecDepth 20000 in
theorem gX6_put_X6_meets : GoodIn wsX6_put (wsV RX6 91 RX6 yX6_meets wsX6_meets) := goodIn_app (goodIn_of _ (by decide +kernel)) ggX6_put_X6_meets
set_option maxRecDepth 20000 in
theorem ggX6_put_X6_in : GoodIn wsX6_put wsX6_in := goodIn_r _ [9] (by decide +kernel) (by decide +kernel)
set_option maxRecDepth 20000 in
theorem gX6_put_X6_in : GoodIn wsX6_put (va_wsS RX6 83 yX6_in wsX6_in) := goodIn_app (goodIn_of _ (by decide +kernel)) ggX6_put_X6_in
theorem dX6_put_0 : decode cX6_put 0 = .ok (.iload_n 1, 1) := by decide +kernel
theorem dX6_put_1 : decode cX6_put 1 = .ok (.invokestatic 102, 3) := by decide +kernel
theorem dX6_put_4 : decode cX6_put 4 = .ok (.ifCond .ne 5, 3) := by decide +kernel
theorem dX6_put_7 : decode cX6_put 7 = .ok (.iconst (-1), 1) := by decide +kernel
theorem dX6_put_8 : decode cX6_put 8 = .ok (.ireturn, 1) := by decide +kernel
theorem dX6_put_9 : decode cX6_put 9 = .ok (.aload_n 0, 1) := by decide +kernel
theorem dX6_put_10 : decode cX6_put 10 = .ok (.getfield 26, 3) := by decide +kernel
theorem dX6_put_13 : decode cX6_put 13 = .ok (.iload_n 1, 1) := by decide +kernel
theorem dX6_put_14 : decode cX6_put 14 = .ok (.iaload, 1) := by decide +kernel
theorem dX6_put_15 : decode cX6_put 15 = .ok (.ifCond .ge 9, 3) := by decide +kernel
theorem dX6_put_18 : decode cX6_put 18 = .ok (.aload_n 0, 1) := by decide +kernel
theorem dX6_put_19 : decode cX6_put 19 = .ok (.iconst 1, 1) := by decide +kernel
theorem dX6_put_20 : decode cX6_put 20 = .ok (.invokevirtual 91, 3) := by decide +kernel
theorem dX6_put_23 : decode cX6_put 23 = .ok (.ireturn, 1) := by decide +kernel
theorem dX6_put_24 : decode cX6_put 24 = .ok (.iload_n 2, 1) := by decide +kernel
theorem dX6_put_25 : decode cX6_put 25 = .ok (.iconst 0, 1) := by decide +kernel
theorem dX6_put_26 : decode cX6_put 26 = .ok (.aload_n 0, 1) := by decide +kernel
theorem dX6_put_27 : decode cX6_put 27 = .ok (.getfield 26, 3) := by decide +kernel
theorem dX6_put_30 : decode cX6_put 30 = .ok (.iload_n 1, 1) := by decide +kernel
theorem dX6_put_31 : decode cX6_put 31 = .ok (.iaload, 1) := by decide +kernel
theorem dX6_put_32 : decode cX6_put 32 = .ok (.iconst 1, 1) := by decide +kernel
theorem dX6_put_33 : decode cX6_put 33 = .ok (.isub, 1) := by decide +kernel
theorem dX6_put_34 : decode cX6_put 34 = .ok (.invokestatic 83, 3) := by decide +kernel
theorem dX6_put_37 : decode cX6_put 37 = .ok (.ifCond .ne 9, 3) := by decide +kernel
theorem dX6_put_40 : decode cX6_put 40 = .ok (.aload_n 0, 1) := by decide +kernel
theorem dX6_put_41 : decode cX6_put 41 = .ok (.iconst 2, 1) := by decide +kernel
theorem dX6_put_42 : decode cX6_put 42 = .ok (.invokevirtual 91, 3) := by decide +kernel
theorem dX6_put_45 : decode cX6_put 45 = .ok (.ireturn, 1) := by decide +kernel
theorem dX6_put_46 : decode cX6_put 46 = .ok (.aload_n 0, 1) := by decide +kernel
theorem dX6_put_47 : decode cX6_put 47 = .ok (.getfield 29, 3) := by decide +kernel
theorem dX6_put_50 : decode cX6_put 50 = .ok (.bipush 60, 2) := by decide +kernel
theorem dX6_put_52 : decode cX6_put 52 = .ok (.iload_n 1, 1) := by decide +kernel
theorem dX6_put_53 : decode cX6_put 53 = .ok (.imul, 1) := by decide +kernel
theorem dX6_put_54 : decode cX6_put 54 = .ok (.iload_n 2, 1) := by decide +kernel
theorem dX6_put_55 : decode cX6_put 55 = .ok (.iadd, 1) := by decide +kernel
theorem dX6_put_56 : decode cX6_put 56 = .ok (.baload, 1) := by decide +kernel
theorem dX6_put_57 : decode cX6_put 57 = .ok (.istore 4, 2) := by decide +kernel
theorem dX6_put_59 : decode cX6_put 59 = .ok (.aload_n 0, 1) := by decide +kernel
theorem dX6_put_60 : decode cX6_put 60 = .ok (.getfield 29, 3) := by decide +kernel
theorem dX6_put_63 : decode cX6_put 63 = .ok (.bipush 60, 2) := by decide +kernel
theorem dX6_put_65 : decode cX6_put 65 = .ok (.iload_n 1, 1) := by decide +kernel
theorem dX6_put_66 : decode cX6_put 66 = .ok (.imul, 1) := by decide +kernel
theorem dX6_put_67 : decode cX6_put 67 = .ok (.iload_n 2, 1) := by decide +kernel
theorem dX6_put_68 : decode cX6_put 68 = .ok (.iadd, 1) := by decide +kernel
theorem dX6_put_69 : decode cX6_put 69 = .ok (.iload_n 3, 1) := by decide +kernel
theorem dX6_put_70 : decode cX6_put 70 = .ok (.i2b, 1) := by decide +kernel
theorem dX6_put_71 : decode cX6_put 71 = .ok (.bastore, 1) := by decide +kernel
theorem dX6_put_72 : decode cX6_put 72 = .ok (.sipush 1000, 3) := by decide +kernel
theorem dX6_put_75 : decode cX6_put 75 = .ok (.iload 4, 2) := by decide +kernel
theorem dX6_put_77 : decode cX6_put 77 = .ok (.iadd, 1) := by decide +kernel
theorem dX6_put_78 : decode cX6_put 78 = .ok (.ireturn, 1) := by decide +kernel
theorem dX6_letterAt_0 : decode cX6_letterAt 0 = .ok (.iload_n 2, 1) := by decide +kernel
theorem dX6_letterAt_1 : decode cX6_letterAt 1 = .ok (.aload_n 0, 1) := by decide +kernel
theorem dX6_letterAt_2 : decode cX6_letterAt 2 = .ok (.getfield 26, 3) := by decide +kernel
theorem dX6_letterAt_5 : decode cX6_letterAt 5 = .ok (.iload_n 1, 1) := by decide +kernel
theorem dX6_letterAt_6 : decode cX6_letterAt 6 = .ok (.iaload, 1) := by decide +kernel
theorem dX6_letterAt_7 : decode cX6_letterAt 7 = .ok (.if_icmp .ge 17, 3) := by decide +kernel
theorem dX6_letterAt_10 : decode cX6_letterAt 10 = .ok (.aload_n 0, 1) := by decide +kernel
theorem dX6_letterAt_11 : decode cX6_letterAt 11 = .ok (.getfield 29, 3) := by decide +kernel
theorem dX6_letterAt_14 : decode cX6_letterAt 14 = .ok (.bipush 60, 2) := by decide +kernel
theorem dX6_letterAt_16 : decode cX6_letterAt 16 = .ok (.iload_n 1, 1) := by decide +kernel
theorem dX6_letterAt_17 : decode cX6_letterAt 17 = .ok (.imul, 1) := by decide +kernel
theorem dX6_letterAt_18 : decode cX6_letterAt 18 = .ok (.iload_n 2, 1) := by decide +kernel
theorem dX6_letterAt_19 : decode cX6_letterAt 19 = .ok (.iadd, 1) := by decide +kernel
theorem dX6_letterAt_20 : decode cX6_letterAt 20 = .ok (.baload, 1) := by decide +kernel
theorem dX6_letterAt_21 : decode cX6_letterAt 21 = .ok (.goto 4, 3) := by decide +kernel
theorem dX6_letterAt_24 : decode cX6_letterAt 24 = .ok (.iconst 0, 1) := by decide +kernel
theorem dX6_letterAt_25 : decode cX6_letterAt 25 = .ok (.ireturn, 1) := by decide +kernel
theorem dX6_kindOf_0 : decode cX6_kindOf 0 = .ok (.iload_n 0, 1) := by decide +kernel
theorem dX6_kindOf_1 : decode cX6_kindOf 1 = .ok (.lookupswitch 71 #[(99, 67), (101, 61), (109, 69), (111, 63), (115, 65), (119, 59)], 59) := by decide +kernel
theorem dX6_kindOf_60 : decode cX6_kindOf 60 = .ok (.iconst 0, 1) := by decide +kernel
theorem dX6_kindOf_61 : decode cX6_kindOf 61 = .ok (.ireturn, 1) := by decide +kernel
theorem dX6_kindOf_62 : decode cX6_kindOf 62 = .ok (.iconst 1, 1) := by decide +kernel
theorem dX6_kindOf_63 : decode cX6_kindOf 63 = .ok (.ireturn, 1) := by decide +kernel
theorem dX6_kindOf_64 : decode cX6_kindOf 64 = .ok (.iconst 2, 1) := by decide +kernel
theorem dX6_kindOf_65 : decode cX6_kindOf 65 = .ok (.ireturn, 1) := by decide +kernel
theorem dX6_kindOf_66 : decode cX6_kindOf 66 = .ok (.iconst 3, 1) := by decide +kernel
theorem dX6_kindOf_67 : decode cX6_kindOf 67 = .ok (.ireturn, 1) := by decide +kernel
theorem dX6_kindOf_68 : decode cX6_kindOf 68 = .ok (.iconst 4, 1) := by decide +kernel
theorem dX6_kindOf_69 : decode cX6_kindOf 69 = .ok (.ireturn, 1) := by decide +kernel
theorem dX6_kindOf_70 : decode cX6_kindOf 70 = .ok (.iconst 5, 1) := by decide +kernel
theorem dX6_kindOf_71 : decode cX6_kindOf 71 = .ok (.ireturn, 1) := by decide +kernel
theorem dX6_kindOf_72 : decode cX6_kindOf 72 = .ok (.bipush (-9), 2) := by decide +kernel
theorem dX6_kindOf_74 : decode cX6_kindOf 74 = .ok (.ireturn, 1) := by decide +kernel
set_option maxRecDepth 20000 in
theorem ggX6_reads_X6_letterAt : GoodIn wsX6_reads wsX6_letterAt := goodIn_r _ [6, 7, 8, 12, 13, 14, 15, 16, 17, 18, 19, 20, 21, 22, 23, 24, 25, 26, 27, 28, 29, 30, 31, 32, 33, 34, 35, 36, 37, 38, 39, 40, 41, 42, 43, 44, 45] (by decide +kernel) (by decide +kernel)
set_option maxRecDepth 20000 in
theorem gX6_reads_X6_letterAt : GoodIn wsX6_reads (wsV RX6 108 RX6 yX6_letterAt wsX6_letterAt) := goodIn_app (goodIn_of _ (by decide +kernel)) ggX6_reads_X6_letterAt
set_option maxRecDepth 20000 in
theorem ggX6_reads_X6_in : GoodIn wsX6_reads wsX6_in := goodIn_r _ [11] (by decide +kernel) (by decide +kernel)
set_option maxRecDepth 20000 in
theorem gX6_reads_X6_in : GoodIn wsX6_reads (va_wsS RX6 83 yX6_in wsX6_in) := goodIn_app (goodIn_of _ (by decide +kernel)) ggX6_reads_X6_in
theorem dX6_reads_0 : decode cX6_reads 0 = .ok (.aload_n 0, 1) := by decide +kernel
theorem dX6_reads_1 : decode cX6_reads 1 = .ok (.iload_n 1, 1) := by decide +kernel
theorem dX6_reads_2 : decode cX6_reads 2 = .ok (.aload_n 0, 1) := by decide +kernel
theorem dX6_reads_3 : decode cX6_reads 3 = .ok (.getfield 105, 3) := by decide +kernel
theorem dX6_reads_6 : decode cX6_reads 6 = .ok (.invokevirtual 108, 3) := by decide +kernel
theorem dX6_reads_9 : decode cX6_reads 9 = .ok (.bipush 48, 2) := by decide +kernel
theorem dX6_reads_11 : decode cX6_reads 11 = .ok (.isub, 1) := by decide +kernel
theorem dX6_reads_12 : decode cX6_reads 12 = .ok (.istore_n 3, 1) := by decide +kernel
theorem dX6_reads_13 : decode cX6_reads 13 = .ok (.iload_n 3, 1) := by decide +kernel
theorem dX6_reads_14 : decode cX6_reads 14 = .ok (.iload_n 2, 1) := by decide +kernel
theorem dX6_reads_15 : decode cX6_reads 15 = .ok (.bipush 9, 2) := by decide +kernel
theorem dX6_reads_17 : decode cX6_reads 17 = .ok (.invokestatic 83, 3) := by decide +kernel
theorem dX6_reads_20 : decode cX6_reads 20 = .ok (.ifCond .ne 6, 3) := by decide +kernel
theorem dX6_reads_23 : decode cX6_reads 23 = .ok (.bipush (-9), 2) := by decide +kernel
theorem dX6_reads_25 : decode cX6_reads 25 = .ok (.ireturn, 1) := by decide +kernel
theorem dX6_reads_26 : decode cX6_reads 26 = .ok (.aload_n 0, 1) := by decide +kernel
theorem dX6_reads_27 : decode cX6_reads 27 = .ok (.dup, 1) := by decide +kernel
theorem dX6_reads_28 : decode cX6_reads 28 = .ok (.getfield 105, 3) := by decide +kernel
theorem dX6_reads_31 : decode cX6_reads 31 = .ok (.iconst 1, 1) := by decide +kernel
theorem dX6_reads_32 : decode cX6_reads 32 = .ok (.iadd, 1) := by decide +kernel
theorem dX6_reads_33 : decode cX6_reads 33 = .ok (.putfield 105, 3) := by decide +kernel
theorem dX6_reads_36 : decode cX6_reads 36 = .ok (.iload_n 3, 1) := by decide +kernel
theorem dX6_reads_37 : decode cX6_reads 37 = .ok (.ireturn, 1) := by decide +kernel
set_option maxRecDepth 20000 in
theorem ggX6_readsLoaves_X6_reads : GoodIn wsX6_readsLoaves wsX6_reads := goodIn_r _ [7, 8, 9, 10, 11, 6, 12, 13, 14, 15, 16, 17, 18, 19, 20, 21, 22, 23, 24, 25, 26, 27, 28, 29, 30, 31, 32, 33, 34, 35, 36, 37, 38, 39, 40, 41, 42, 43, 44, 45, 46, 47, 48, 49, 50, 51] (by decide +kernel) (by decide +kernel)
set_option maxRecDepth 20000 in
theorem gX6_readsLoaves_X6_reads : GoodIn wsX6_readsLoaves (wsV RX6 111 RX6 yX6_reads wsX6_reads) := goodIn_app (goodIn_of _ (by decide +kernel)) ggX6_readsLoaves_X6_reads
theorem dX6_readsLoaves_0 : decode cX6_readsLoaves 0 = .ok (.aload_n 0, 1) := by decide +kernel
theorem dX6_readsLoaves_1 : decode cX6_readsLoaves 1 = .ok (.iload_n 1, 1) := by decide +kernel
theorem dX6_readsLoaves_2 : decode cX6_readsLoaves 2 = .ok (.iconst 0, 1) := by decide +kernel
theorem dX6_readsLoaves_3 : decode cX6_readsLoaves 3 = .ok (.invokevirtual 111, 3) := by decide +kernel
theorem dX6_readsLoaves_6 : decode cX6_readsLoaves 6 = .ok (.istore_n 2, 1) := by decide +kernel
theorem dX6_readsLoaves_7 : decode cX6_readsLoaves 7 = .ok (.iload_n 2, 1) := by decide +kernel
theorem dX6_readsLoaves_8 : decode cX6_readsLoaves 8 = .ok (.bipush (-9), 2) := by decide +kernel
theorem dX6_readsLoaves_10 : decode cX6_readsLoaves 10 = .ok (.if_icmp .ne 8, 3) := by decide +kernel
theorem dX6_readsLoaves_13 : decode cX6_readsLoaves 13 = .ok (.bipush (-9), 2) := by decide +kernel
theorem dX6_readsLoaves_15 : decode cX6_readsLoaves 15 = .ok (.goto 9, 3) := by decide +kernel
theorem dX6_readsLoaves_18 : decode cX6_readsLoaves 18 = .ok (.aload_n 0, 1) := by decide +kernel
theorem dX6_readsLoaves_19 : decode cX6_readsLoaves 19 = .ok (.iload_n 1, 1) := by decide +kernel
theorem dX6_readsLoaves_20 : decode cX6_readsLoaves 20 = .ok (.iconst 0, 1) := by decide +kernel
theorem dX6_readsLoaves_21 : decode cX6_readsLoaves 21 = .ok (.invokevirtual 111, 3) := by decide +kernel
theorem dX6_readsLoaves_24 : decode cX6_readsLoaves 24 = .ok (.istore_n 3, 1) := by decide +kernel
theorem dX6_readsLoaves_25 : decode cX6_readsLoaves 25 = .ok (.aload_n 0, 1) := by decide +kernel
theorem dX6_readsLoaves_26 : decode cX6_readsLoaves 26 = .ok (.bipush 10, 2) := by decide +kernel
theorem dX6_readsLoaves_28 : decode cX6_readsLoaves 28 = .ok (.iload_n 2, 1) := by decide +kernel
theorem dX6_readsLoaves_29 : decode cX6_readsLoaves 29 = .ok (.imul, 1) := by decide +kernel
theorem dX6_readsLoaves_30 : decode cX6_readsLoaves 30 = .ok (.iload_n 3, 1) := by decide +kernel
theorem dX6_readsLoaves_31 : decode cX6_readsLoaves 31 = .ok (.iadd, 1) := by decide +kernel
theorem dX6_readsLoaves_32 : decode cX6_readsLoaves 32 = .ok (.putfield 114, 3) := by decide +kernel
theorem dX6_readsLoaves_35 : decode cX6_readsLoaves 35 = .ok (.aload_n 0, 1) := by decide +kernel
theorem dX6_readsLoaves_36 : decode cX6_readsLoaves 36 = .ok (.iload_n 3, 1) := by decide +kernel
theorem dX6_readsLoaves_37 : decode cX6_readsLoaves 37 = .ok (.bipush (-9), 2) := by decide +kernel
theorem dX6_readsLoaves_39 : decode cX6_readsLoaves 39 = .ok (.if_icmp .eq 7, 3) := by decide +kernel
theorem dX6_readsLoaves_42 : decode cX6_readsLoaves 42 = .ok (.iconst 1, 1) := by decide +kernel
theorem dX6_readsLoaves_43 : decode cX6_readsLoaves 43 = .ok (.goto 4, 3) := by decide +kernel
theorem dX6_readsLoaves_46 : decode cX6_readsLoaves 46 = .ok (.iconst 0, 1) := by decide +kernel
theorem dX6_readsLoaves_47 : decode cX6_readsLoaves 47 = .ok (.putfield 117, 3) := by decide +kernel
theorem dX6_readsLoaves_50 : decode cX6_readsLoaves 50 = .ok (.aload_n 0, 1) := by decide +kernel
theorem dX6_readsLoaves_51 : decode cX6_readsLoaves 51 = .ok (.getfield 117, 3) := by decide +kernel
theorem dX6_readsLoaves_54 : decode cX6_readsLoaves 54 = .ok (.ireturn, 1) := by decide +kernel
set_option maxRecDepth 20000 in
theorem ggX6_readsWorker_X6_letterAt : GoodIn wsX6_readsWorker wsX6_letterAt := goodIn_r _ [10, 11, 12, 23, 24, 25, 26, 27, 28, 29, 30, 31, 32, 33, 34, 35, 36, 37, 38, 39, 40, 41, 42, 43, 44, 45, 46, 47, 48, 49, 50, 51, 52, 53, 54, 55, 56] (by decide +kernel) (by decide +kernel)
set_option maxRecDepth 20000 in
theorem gX6_readsWorker_X6_letterAt : GoodIn wsX6_readsWorker (wsV RX6 108 RX6 yX6_letterAt wsX6_letterAt) := goodIn_app (goodIn_of _ (by decide +kernel)) ggX6_readsWorker_X6_letterAt
set_option maxRecDepth 20000 in
theorem ggX6_readsWorker_X6_kindOf : GoodIn wsX6_readsWorker wsX6_kindOf := goodIn_r _ [15] (by decide +kernel) (by decide +kernel)
set_option maxRecDepth 20000 in
theorem gX6_readsWorker_X6_kindOf : GoodIn wsX6_readsWorker (va_wsS RX6 121 yX6_kindOf wsX6_kindOf) := goodIn_app (goodIn_of _ (by decide +kernel)) ggX6_readsWorker_X6_kindOf
set_option maxRecDepth 20000 in
theorem ggX6_readsWorker_X6_reads : GoodIn wsX6_readsWorker wsX6_reads := goodIn_r _ [19, 1, 6, 7, 8, 9, 10, 11, 12, 20, 21, 22, 23, 24, 25, 26, 27, 28, 29, 30, 31, 32, 33, 34, 35, 36, 37, 38, 39, 40, 41, 42, 43, 44, 45, 46, 47, 48, 49, 50, 51, 52, 53, 54, 55, 56] (by decide +kernel) (by decide +kernel)
set_option maxRecDepth 20000 in
theorem gX6_readsWorker_X6_reads : GoodIn wsX6_readsWorker (wsV RX6 111 RX6 yX6_reads wsX6_reads) := goodIn_app (goodIn_of _ (by decide +kernel)) ggX6_readsWorker_X6_reads
theorem dX6_readsWorker_0 : decode cX6_readsWorker 0 = .ok (.aload_n 0, 1) := by decide +kernel
theorem dX6_readsWorker_1 : decode cX6_readsWorker 1 = .ok (.iload_n 1, 1) := by decide +kernel
theorem dX6_readsWorker_2 : decode cX6_readsWorker 2 = .ok (.aload_n 0, 1) := by decide +kernel
theorem dX6_readsWorker_3 : decode cX6_readsWorker 3 = .ok (.getfield 105, 3) := by decide +kernel
theorem dX6_readsWorker_6 : decode cX6_readsWorker 6 = .ok (.invokevirtual 108, 3) := by decide +kernel
theorem dX6_readsWorker_9 : decode cX6_readsWorker 9 = .ok (.invokestatic 121, 3) := by decide +kernel
theorem dX6_readsWorker_12 : decode cX6_readsWorker 12 = .ok (.istore_n 2, 1) := by decide +kernel
theorem dX6_readsWorker_13 : decode cX6_readsWorker 13 = .ok (.iload_n 2, 1) := by decide +kernel
theorem dX6_readsWorker_14 : decode cX6_readsWorker 14 = .ok (.bipush (-9), 2) := by decide +kernel
theorem dX6_readsWorker_16 : decode cX6_readsWorker 16 = .ok (.if_icmp .eq 12, 3) := by decide +kernel
theorem dX6_readsWorker_19 : decode cX6_readsWorker 19 = .ok (.aload_n 0, 1) := by decide +kernel
theorem dX6_readsWorker_20 : decode cX6_readsWorker 20 = .ok (.getfield 124, 3) := by decide +kernel
theorem dX6_readsWorker_23 : decode cX6_readsWorker 23 = .ok (.bipush 7, 2) := by decide +kernel
theorem dX6_readsWorker_25 : decode cX6_readsWorker 25 = .ok (.if_icmp .ne 5, 3) := by decide +kernel
theorem dX6_readsWorker_28 : decode cX6_readsWorker 28 = .ok (.iconst 0, 1) := by decide +kernel
theorem dX6_readsWorker_29 : decode cX6_readsWorker 29 = .ok (.ireturn, 1) := by decide +kernel
theorem dX6_readsWorker_30 : decode cX6_readsWorker 30 = .ok (.aload_n 0, 1) := by decide +kernel
theorem dX6_readsWorker_31 : decode cX6_readsWorker 31 = .ok (.dup, 1) := by decide +kernel
theorem dX6_readsWorker_32 : decode cX6_readsWorker 32 = .ok (.getfield 105, 3) := by decide +kernel
theorem dX6_readsWorker_35 : decode cX6_readsWorker 35 = .ok (.iconst 1, 1) := by decide +kernel
theorem dX6_readsWorker_36 : decode cX6_readsWorker 36 = .ok (.iadd, 1) := by decide +kernel
theorem dX6_readsWorker_37 : decode cX6_readsWorker 37 = .ok (.putfield 105, 3) := by decide +kernel
theorem dX6_readsWorker_40 : decode cX6_readsWorker 40 = .ok (.aload_n 0, 1) := by decide +kernel
theorem dX6_readsWorker_41 : decode cX6_readsWorker 41 = .ok (.iload_n 1, 1) := by decide +kernel
theorem dX6_readsWorker_42 : decode cX6_readsWorker 42 = .ok (.iconst 1, 1) := by decide +kernel
theorem dX6_readsWorker_43 : decode cX6_readsWorker 43 = .ok (.invokevirtual 111, 3) := by decide +kernel
theorem dX6_readsWorker_46 : decode cX6_readsWorker 46 = .ok (.istore_n 3, 1) := by decide +kernel
theorem dX6_readsWorker_47 : decode cX6_readsWorker 47 = .ok (.iload_n 3, 1) := by decide +kernel
theorem dX6_readsWorker_48 : decode cX6_readsWorker 48 = .ok (.bipush (-9), 2) := by decide +kernel
theorem dX6_readsWorker_50 : decode cX6_readsWorker 50 = .ok (.if_icmp .ne 8, 3) := by decide +kernel
theorem dX6_readsWorker_53 : decode cX6_readsWorker 53 = .ok (.bipush (-9), 2) := by decide +kernel
theorem dX6_readsWorker_55 : decode cX6_readsWorker 55 = .ok (.goto 9, 3) := by decide +kernel
theorem dX6_readsWorker_58 : decode cX6_readsWorker 58 = .ok (.aload_n 0, 1) := by decide +kernel
theorem dX6_readsWorker_59 : decode cX6_readsWorker 59 = .ok (.iload_n 1, 1) := by decide +kernel
theorem dX6_readsWorker_60 : decode cX6_readsWorker 60 = .ok (.iconst 1, 1) := by decide +kernel
theorem dX6_readsWorker_61 : decode cX6_readsWorker 61 = .ok (.invokevirtual 111, 3) := by decide +kernel
theorem dX6_readsWorker_64 : decode cX6_readsWorker 64 = .ok (.istore 4, 2) := by decide +kernel
theorem dX6_readsWorker_66 : decode cX6_readsWorker 66 = .ok (.iload 4, 2) := by decide +kernel
theorem dX6_readsWorker_68 : decode cX6_readsWorker 68 = .ok (.bipush (-9), 2) := by decide +kernel
theorem dX6_readsWorker_70 : decode cX6_readsWorker 70 = .ok (.if_icmp .ne 5, 3) := by decide +kernel
theorem dX6_readsWorker_73 : decode cX6_readsWorker 73 = .ok (.iconst 0, 1) := by decide +kernel
theorem dX6_readsWorker_74 : decode cX6_readsWorker 74 = .ok (.ireturn, 1) := by decide +kernel
theorem dX6_readsWorker_75 : decode cX6_readsWorker 75 = .ok (.aload_n 0, 1) := by decide +kernel
theorem dX6_readsWorker_76 : decode cX6_readsWorker 76 = .ok (.getfield 33, 3) := by decide +kernel
theorem dX6_readsWorker_79 : decode cX6_readsWorker 79 = .ok (.aload_n 0, 1) := by decide +kernel
theorem dX6_readsWorker_80 : decode cX6_readsWorker 80 = .ok (.getfield 124, 3) := by decide +kernel
theorem dX6_readsWorker_83 : decode cX6_readsWorker 83 = .ok (.iload_n 2, 1) := by decide +kernel
theorem dX6_readsWorker_84 : decode cX6_readsWorker 84 = .ok (.iastore, 1) := by decide +kernel
theorem dX6_readsWorker_85 : decode cX6_readsWorker 85 = .ok (.aload_n 0, 1) := by decide +kernel
theorem dX6_readsWorker_86 : decode cX6_readsWorker 86 = .ok (.getfield 36, 3) := by decide +kernel
theorem dX6_readsWorker_89 : decode cX6_readsWorker 89 = .ok (.aload_n 0, 1) := by decide +kernel
theorem dX6_readsWorker_90 : decode cX6_readsWorker 90 = .ok (.getfield 124, 3) := by decide +kernel
theorem dX6_readsWorker_93 : decode cX6_readsWorker 93 = .ok (.iload_n 3, 1) := by decide +kernel
theorem dX6_readsWorker_94 : decode cX6_readsWorker 94 = .ok (.iastore, 1) := by decide +kernel
theorem dX6_readsWorker_95 : decode cX6_readsWorker 95 = .ok (.aload_n 0, 1) := by decide +kernel
theorem dX6_readsWorker_96 : decode cX6_readsWorker 96 = .ok (.getfield 39, 3) := by decide +kernel
theorem dX6_readsWorker_99 : decode cX6_readsWorker 99 = .ok (.aload_n 0, 1) := by decide +kernel
theorem dX6_readsWorker_100 : decode cX6_readsWorker 100 = .ok (.getfield 124, 3) := by decide +kernel
theorem dX6_readsWorker_103 : decode cX6_readsWorker 103 = .ok (.iload 4, 2) := by decide +kernel
theorem dX6_readsWorker_105 : decode cX6_readsWorker 105 = .ok (.iastore, 1) := by decide +kernel
theorem dX6_readsWorker_106 : decode cX6_readsWorker 106 = .ok (.aload_n 0, 1) := by decide +kernel
theorem dX6_readsWorker_107 : decode cX6_readsWorker 107 = .ok (.dup, 1) := by decide +kernel
theorem dX6_readsWorker_108 : decode cX6_readsWorker 108 = .ok (.getfield 124, 3) := by decide +kernel
theorem dX6_readsWorker_111 : decode cX6_readsWorker 111 = .ok (.iconst 1, 1) := by decide +kernel
theorem dX6_readsWorker_112 : decode cX6_readsWorker 112 = .ok (.iadd, 1) := by decide +kernel
theorem dX6_readsWorker_113 : decode cX6_readsWorker 113 = .ok (.putfield 124, 3) := by decide +kernel
theorem dX6_readsWorker_116 : decode cX6_readsWorker 116 = .ok (.iconst 1, 1) := by decide +kernel
theorem dX6_readsWorker_117 : decode cX6_readsWorker 117 = .ok (.ireturn, 1) := by decide +kernel
set_option maxRecDepth 20000 in
theorem ggX6_faultOf_X6_letterAt : GoodIn wsX6_faultOf wsX6_letterAt := goodIn_r _ [9, 4, 10, 33, 34, 35, 36, 37, 38, 39, 40, 41, 42, 43, 44, 45, 46, 47, 48, 49, 50, 51, 52, 53, 54, 55, 56, 57, 58, 59, 60, 61, 62, 63, 64, 65, 66] (by decide +kernel) (by decide +kernel)
set_option maxRecDepth 20000 in
theorem gX6_faultOf_X6_letterAt : GoodIn wsX6_faultOf (wsV RX6 108 RX6 yX6_letterAt wsX6_letterAt) := goodIn_app (goodIn_of _ (by decide +kernel)) ggX6_faultOf_X6_letterAt
set_option maxRecDepth 20000 in
theorem ggX6_faultOf_X6_readsWorker : GoodIn wsX6_faultOf wsX6_readsWorker := goodIn_r _ [14, 1, 2, 15, 16, 17, 5, 6, 7, 8, 9, 4, 10, 18, 19, 20, 21, 22, 23, 24, 25, 26, 27, 33, 34, 35, 36, 37, 38, 39, 40, 41, 42, 43, 44, 45, 46, 47, 48, 49, 50, 51, 52, 53, 54, 55, 56, 57, 58, 59, 60, 61, 62, 63, 64, 65, 66] (by decide +kernel) (by decide +kernel)
set_option maxRecDepth 20000 in
theorem gX6_faultOf_X6_readsWorker : GoodIn wsX6_faultOf (wsV RX6 127 RX6 yX6_readsWorker wsX6_readsWorker) := goodIn_app (goodIn_of _ (by decide +kernel)) ggX6_faultOf_X6_readsWorker
set_option maxRecDepth 20000 in
theorem ggX6_faultOf_X6_readsLoaves : GoodIn wsX6_faultOf wsX6_readsLoaves := goodIn_r _ [31, 32, 3, 21, 22, 23, 8, 24, 1, 5, 6, 7, 9, 4, 10, 25, 26, 27, 33, 34, 35, 36, 37, 38, 39, 40, 41, 42, 43, 44, 45, 46, 47, 48, 49, 50, 51, 52, 53, 54, 55, 56, 57, 58, 59, 60, 61, 62, 63, 64, 65, 66] (by decide +kernel) (by decide +kernel)
set_option maxRecDepth 20000 in
theorem gX6_faultOf_X6_readsLoaves : GoodIn wsX6_faultOf (wsV RX6 130 RX6 yX6_readsLoaves wsX6_readsLoaves) := goodIn_app (goodIn_of _ (by decide +kernel)) ggX6_faultOf_X6_readsLoaves
theorem dX6_faultOf_0 : decode cX6_faultOf 0 = .ok (.aload_n 0, 1) := by decide +kernel
theorem dX6_faultOf_1 : decode cX6_faultOf 1 = .ok (.iconst 0, 1) := by decide +kernel
theorem dX6_faultOf_2 : decode cX6_faultOf 2 = .ok (.putfield 105, 3) := by decide +kernel
theorem dX6_faultOf_5 : decode cX6_faultOf 5 = .ok (.aload_n 0, 1) := by decide +kernel
theorem dX6_faultOf_6 : decode cX6_faultOf 6 = .ok (.iconst 0, 1) := by decide +kernel
theorem dX6_faultOf_7 : decode cX6_faultOf 7 = .ok (.putfield 124, 3) := by decide +kernel
theorem dX6_faultOf_10 : decode cX6_faultOf 10 = .ok (.aload_n 0, 1) := by decide +kernel
theorem dX6_faultOf_11 : decode cX6_faultOf 11 = .ok (.iconst 0, 1) := by decide +kernel
theorem dX6_faultOf_12 : decode cX6_faultOf 12 = .ok (.putfield 117, 3) := by decide +kernel
theorem dX6_faultOf_15 : decode cX6_faultOf 15 = .ok (.aload_n 0, 1) := by decide +kernel
theorem dX6_faultOf_16 : decode cX6_faultOf 16 = .ok (.getfield 105, 3) := by decide +kernel
theorem dX6_faultOf_19 : decode cX6_faultOf 19 = .ok (.aload_n 0, 1) := by decide +kernel
theorem dX6_faultOf_20 : decode cX6_faultOf 20 = .ok (.getfield 26, 3) := by decide +kernel
theorem dX6_faultOf_23 : decode cX6_faultOf 23 = .ok (.iload_n 1, 1) := by decide +kernel
theorem dX6_faultOf_24 : decode cX6_faultOf 24 = .ok (.iaload, 1) := by decide +kernel
theorem dX6_faultOf_25 : decode cX6_faultOf 25 = .ok (.if_icmp .ge 61, 3) := by decide +kernel
theorem dX6_faultOf_28 : decode cX6_faultOf 28 = .ok (.aload_n 0, 1) := by decide +kernel
theorem dX6_faultOf_29 : decode cX6_faultOf 29 = .ok (.iload_n 1, 1) := by decide +kernel
theorem dX6_faultOf_30 : decode cX6_faultOf 30 = .ok (.aload_n 0, 1) := by decide +kernel
theorem dX6_faultOf_31 : decode cX6_faultOf 31 = .ok (.getfield 105, 3) := by decide +kernel
theorem dX6_faultOf_34 : decode cX6_faultOf 34 = .ok (.invokevirtual 108, 3) := by decide +kernel
theorem dX6_faultOf_37 : decode cX6_faultOf 37 = .ok (.bipush 32, 2) := by decide +kernel
theorem dX6_faultOf_39 : decode cX6_faultOf 39 = .ok (.if_icmp .ne 16, 3) := by decide +kernel
theorem dX6_faultOf_42 : decode cX6_faultOf 42 = .ok (.aload_n 0, 1) := by decide +kernel
theorem dX6_faultOf_43 : decode cX6_faultOf 43 = .ok (.dup, 1) := by decide +kernel
theorem dX6_faultOf_44 : decode cX6_faultOf 44 = .ok (.getfield 105, 3) := by decide +kernel
theorem dX6_faultOf_47 : decode cX6_faultOf 47 = .ok (.iconst 1, 1) := by decide +kernel
theorem dX6_faultOf_48 : decode cX6_faultOf 48 = .ok (.iadd, 1) := by decide +kernel
theorem dX6_faultOf_49 : decode cX6_faultOf 49 = .ok (.putfield 105, 3) := by decide +kernel
theorem dX6_faultOf_52 : decode cX6_faultOf 52 = .ok (.goto (-37), 3) := by decide +kernel
theorem dX6_faultOf_55 : decode cX6_faultOf 55 = .ok (.aload_n 0, 1) := by decide +kernel
theorem dX6_faultOf_56 : decode cX6_faultOf 56 = .ok (.getfield 117, 3) := by decide +kernel
theorem dX6_faultOf_59 : decode cX6_faultOf 59 = .ok (.ifCond .eq 14, 3) := by decide +kernel
theorem dX6_faultOf_62 : decode cX6_faultOf 62 = .ok (.aload_n 0, 1) := by decide +kernel
theorem dX6_faultOf_63 : decode cX6_faultOf 63 = .ok (.iload_n 1, 1) := by decide +kernel
theorem dX6_faultOf_64 : decode cX6_faultOf 64 = .ok (.invokevirtual 127, 3) := by decide +kernel
theorem dX6_faultOf_67 : decode cX6_faultOf 67 = .ok (.ifCond .eq 14, 3) := by decide +kernel
theorem dX6_faultOf_70 : decode cX6_faultOf 70 = .ok (.goto (-55), 3) := by decide +kernel
theorem dX6_faultOf_73 : decode cX6_faultOf 73 = .ok (.aload_n 0, 1) := by decide +kernel
theorem dX6_faultOf_74 : decode cX6_faultOf 74 = .ok (.iload_n 1, 1) := by decide +kernel
theorem dX6_faultOf_75 : decode cX6_faultOf 75 = .ok (.invokevirtual 130, 3) := by decide +kernel
theorem dX6_faultOf_78 : decode cX6_faultOf 78 = .ok (.ifCond .ne (-63), 3) := by decide +kernel
theorem dX6_faultOf_81 : decode cX6_faultOf 81 = .ok (.aload_n 0, 1) := by decide +kernel
theorem dX6_faultOf_82 : decode cX6_faultOf 82 = .ok (.getfield 105, 3) := by decide +kernel
theorem dX6_faultOf_85 : decode cX6_faultOf 85 = .ok (.ireturn, 1) := by decide +kernel
theorem dX6_faultOf_86 : decode cX6_faultOf 86 = .ok (.aload_n 0, 1) := by decide +kernel
theorem dX6_faultOf_87 : decode cX6_faultOf 87 = .ok (.getfield 124, 3) := by decide +kernel
theorem dX6_faultOf_90 : decode cX6_faultOf 90 = .ok (.iconst 2, 1) := by decide +kernel
theorem dX6_faultOf_91 : decode cX6_faultOf 91 = .ok (.if_icmp .ge 12, 3) := by decide +kernel
theorem dX6_faultOf_94 : decode cX6_faultOf 94 = .ok (.aload_n 0, 1) := by decide +kernel
theorem dX6_faultOf_95 : decode cX6_faultOf 95 = .ok (.getfield 26, 3) := by decide +kernel
theorem dX6_faultOf_98 : decode cX6_faultOf 98 = .ok (.iload_n 1, 1) := by decide +kernel
theorem dX6_faultOf_99 : decode cX6_faultOf 99 = .ok (.iaload, 1) := by decide +kernel
theorem dX6_faultOf_100 : decode cX6_faultOf 100 = .ok (.goto 5, 3) := by decide +kernel
theorem dX6_faultOf_103 : decode cX6_faultOf 103 = .ok (.bipush (-9), 2) := by decide +kernel
theorem dX6_faultOf_105 : decode cX6_faultOf 105 = .ok (.ireturn, 1) := by decide +kernel
set_option maxRecDepth 20000 in
theorem ggX6_fault_X6_isText : GoodIn wsX6_fault wsX6_isText := goodIn_r _ [5, 6, 7, 4, 8] (by decide +kernel) (by decide +kernel)
set_option maxRecDepth 20000 in
theorem gX6_fault_X6_isText : GoodIn wsX6_fault (va_wsS RX6 102 yX6_isText wsX6_isText) := goodIn_app (goodIn_of _ (by decide +kernel)) ggX6_fault_X6_isText
set_option maxRecDepth 20000 in
theorem ggX6_fault_X6_meets : GoodIn wsX6_fault wsX6_meets := goodIn_r _ [12, 13, 14, 46, 47, 48, 49, 50, 51, 52, 53, 54, 55, 56, 57, 58, 59, 60, 61, 62, 63, 64, 65, 66, 67, 68, 69, 70, 71, 72, 73, 74, 75, 76, 77, 78, 79] (by decide +kernel) (by decide +kernel)
set_option maxRecDepth 20000 in
theorem gX6_fault_X6_meets : GoodIn wsX6_fault (wsV RX6 91 RX6 yX6_meets wsX6_meets) := goodIn_app (goodIn_of _ (by decide +kernel)) ggX6_fault_X6_meets
set_option maxRecDepth 20000 in
theorem ggX6_fault_X6_faultOf : GoodIn wsX6_fault wsX6_faultOf := goodIn_r _ [18, 19, 20, 21, 1, 22, 23, 24, 4, 25, 26, 27, 28, 29, 30, 31, 32, 33, 34, 35, 36, 37, 38, 39, 40, 6, 7, 8, 41, 42, 43, 44, 45, 46, 47, 48, 49, 50, 51, 52, 53, 54, 55, 56, 57, 58, 59, 60, 61, 62, 63, 64, 65, 66, 67, 68, 69, 70, 71, 72, 73, 74, 75, 76, 77, 78, 79] (by decide +kernel) (by decide +kernel)
set_option maxRecDepth 20000 in
theorem gX6_fault_X6_faultOf : GoodIn wsX6_fault (wsV RX6 133 RX6 yX6_faultOf wsX6_faultOf) := goodIn_app (goodIn_of _ (by decide +kernel)) ggX6_fault_X6_faultOf
theorem dX6_fault_0 : decode cX6_fault 0 = .ok (.iload_n 1, 1) := by decide +kernel
theorem dX6_fault_1 : decode cX6_fault 1 = .ok (.invokestatic 102, 3) := by decide +kernel
theorem dX6_fault_4 : decode cX6_fault 4 = .ok (.ifCond .ne 7, 3) := by decide +kernel
theorem dX6_fault_7 : decode cX6_fault 7 = .ok (.iconst (-1), 1) := by decide +kernel
theorem dX6_fault_8 : decode cX6_fault 8 = .ok (.goto 25, 3) := by decide +kernel
theorem dX6_fault_11 : decode cX6_fault 11 = .ok (.aload_n 0, 1) := by decide +kernel
theorem dX6_fault_12 : decode cX6_fault 12 = .ok (.getfield 26, 3) := by decide +kernel
theorem dX6_fault_15 : decode cX6_fault 15 = .ok (.iload_n 1, 1) := by decide +kernel
theorem dX6_fault_16 : decode cX6_fault 16 = .ok (.iaload, 1) := by decide +kernel
theorem dX6_fault_17 : decode cX6_fault 17 = .ok (.ifCond .ge 11, 3) := by decide +kernel
theorem dX6_fault_20 : decode cX6_fault 20 = .ok (.aload_n 0, 1) := by decide +kernel
theorem dX6_fault_21 : decode cX6_fault 21 = .ok (.iconst 1, 1) := by decide +kernel
theorem dX6_fault_22 : decode cX6_fault 22 = .ok (.invokevirtual 91, 3) := by decide +kernel
theorem dX6_fault_25 : decode cX6_fault 25 = .ok (.goto 8, 3) := by decide +kernel
theorem dX6_fault_28 : decode cX6_fault 28 = .ok (.aload_n 0, 1) := by decide +kernel
theorem dX6_fault_29 : decode cX6_fault 29 = .ok (.iload_n 1, 1) := by decide +kernel
theorem dX6_fault_30 : decode cX6_fault 30 = .ok (.invokevirtual 133, 3) := by decide +kernel
theorem dX6_fault_33 : decode cX6_fault 33 = .ok (.ireturn, 1) := by decide +kernel
set_option maxRecDepth 20000 in
theorem ggX6_table_X6_isText : GoodIn wsX6_table wsX6_isText := goodIn_r _ [17, 18, 19, 16, 20] (by decide +kernel) (by decide +kernel)
set_option maxRecDepth 20000 in
theorem gX6_table_X6_isText : GoodIn wsX6_table (va_wsS RX6 102 yX6_isText wsX6_isText) := goodIn_app (goodIn_of _ (by decide +kernel)) ggX6_table_X6_isText
set_option maxRecDepth 20000 in
theorem ggX6_table_X6_meets : GoodIn wsX6_table wsX6_meets := goodIn_r _ [24, 25, 26, 53, 54, 55, 56, 57, 58, 59, 60, 61, 62, 63, 64, 65, 66, 67, 68, 69, 70, 71, 72, 73, 74, 75, 76, 77, 78, 79, 80, 81, 82, 83, 84, 85, 86] (by decide +kernel) (by decide +kernel)
set_option maxRecDepth 20000 in
theorem gX6_table_X6_meets : GoodIn wsX6_table (wsV RX6 91 RX6 yX6_meets wsX6_meets) := goodIn_app (goodIn_of _ (by decide +kernel)) ggX6_table_X6_meets
set_option maxRecDepth 20000 in
theorem ggX6_table_X6_faultOf : GoodIn wsX6_table wsX6_faultOf := goodIn_r _ [30, 31, 2, 32, 1, 33, 34, 35, 16, 36, 37, 38, 39, 40, 41, 5, 7, 9, 42, 43, 44, 45, 46, 47, 48, 18, 19, 20, 49, 50, 51, 52, 11, 53, 54, 55, 56, 57, 58, 59, 60, 61, 62, 63, 64, 65, 66, 67, 68, 69, 70, 71, 72, 73, 74, 75, 76, 77, 78, 79, 80, 81, 82, 83, 84, 85, 86] (by decide +kernel) (by decide +kernel)
set_option maxRecDepth 20000 in
theorem gX6_table_X6_faultOf : GoodIn wsX6_table (wsV RX6 133 RX6 yX6_faultOf wsX6_faultOf) := goodIn_app (goodIn_of _ (by decide +kernel)) ggX6_table_X6_faultOf
theorem dX6_table_0 : decode cX6_table 0 = .ok (.iload_n 1, 1) := by decide +kernel
theorem dX6_table_1 : decode cX6_table 1 = .ok (.invokestatic 102, 3) := by decide +kernel
theorem dX6_table_4 : decode cX6_table 4 = .ok (.ifCond .ne 5, 3) := by decide +kernel
theorem dX6_table_7 : decode cX6_table 7 = .ok (.iconst (-1), 1) := by decide +kernel
theorem dX6_table_8 : decode cX6_table 8 = .ok (.ireturn, 1) := by decide +kernel
theorem dX6_table_9 : decode cX6_table 9 = .ok (.aload_n 0, 1) := by decide +kernel
theorem dX6_table_10 : decode cX6_table 10 = .ok (.getfield 26, 3) := by decide +kernel
theorem dX6_table_13 : decode cX6_table 13 = .ok (.iload_n 1, 1) := by decide +kernel
theorem dX6_table_14 : decode cX6_table 14 = .ok (.iaload, 1) := by decide +kernel
theorem dX6_table_15 : decode cX6_table 15 = .ok (.ifCond .ge 9, 3) := by decide +kernel
theorem dX6_table_18 : decode cX6_table 18 = .ok (.aload_n 0, 1) := by decide +kernel
theorem dX6_table_19 : decode cX6_table 19 = .ok (.iconst 1, 1) := by decide +kernel
theorem dX6_table_20 : decode cX6_table 20 = .ok (.invokevirtual 91, 3) := by decide +kernel
theorem dX6_table_23 : decode cX6_table 23 = .ok (.ireturn, 1) := by decide +kernel
theorem dX6_table_24 : decode cX6_table 24 = .ok (.aload_n 0, 1) := by decide +kernel
theorem dX6_table_25 : decode cX6_table 25 = .ok (.iload_n 1, 1) := by decide +kernel
theorem dX6_table_26 : decode cX6_table 26 = .ok (.invokevirtual 133, 3) := by decide +kernel
theorem dX6_table_29 : decode cX6_table 29 = .ok (.bipush (-9), 2) := by decide +kernel
theorem dX6_table_31 : decode cX6_table 31 = .ok (.if_icmp .eq 6, 3) := by decide +kernel
theorem dX6_table_34 : decode cX6_table 34 = .ok (.bipush (-4), 2) := by decide +kernel
theorem dX6_table_36 : decode cX6_table 36 = .ok (.ireturn, 1) := by decide +kernel
theorem dX6_table_37 : decode cX6_table 37 = .ok (.aload_n 0, 1) := by decide +kernel
theorem dX6_table_38 : decode cX6_table 38 = .ok (.aload_n 0, 1) := by decide +kernel
theorem dX6_table_39 : decode cX6_table 39 = .ok (.getfield 124, 3) := by decide +kernel
theorem dX6_table_42 : decode cX6_table 42 = .ok (.putfield 136, 3) := by decide +kernel
theorem dX6_table_45 : decode cX6_table 45 = .ok (.iconst 0, 1) := by decide +kernel
theorem dX6_table_46 : decode cX6_table 46 = .ok (.istore_n 2, 1) := by decide +kernel
theorem dX6_table_47 : decode cX6_table 47 = .ok (.iload_n 2, 1) := by decide +kernel
theorem dX6_table_48 : decode cX6_table 48 = .ok (.aload_n 0, 1) := by decide +kernel
theorem dX6_table_49 : decode cX6_table 49 = .ok (.getfield 136, 3) := by decide +kernel
theorem dX6_table_52 : decode cX6_table 52 = .ok (.if_icmp .ge 45, 3) := by decide +kernel
theorem dX6_table_55 : decode cX6_table 55 = .ok (.aload_n 0, 1) := by decide +kernel
theorem dX6_table_56 : decode cX6_table 56 = .ok (.getfield 42, 3) := by decide +kernel
theorem dX6_table_59 : decode cX6_table 59 = .ok (.iload_n 2, 1) := by decide +kernel
theorem dX6_table_60 : decode cX6_table 60 = .ok (.aload_n 0, 1) := by decide +kernel
theorem dX6_table_61 : decode cX6_table 61 = .ok (.getfield 33, 3) := by decide +kernel
theorem dX6_table_64 : decode cX6_table 64 = .ok (.iload_n 2, 1) := by decide +kernel
theorem dX6_table_65 : decode cX6_table 65 = .ok (.iaload, 1) := by decide +kernel
theorem dX6_table_66 : decode cX6_table 66 = .ok (.iastore, 1) := by decide +kernel
theorem dX6_table_67 : decode cX6_table 67 = .ok (.aload_n 0, 1) := by decide +kernel
theorem dX6_table_68 : decode cX6_table 68 = .ok (.getfield 45, 3) := by decide +kernel
theorem dX6_table_71 : decode cX6_table 71 = .ok (.iload_n 2, 1) := by decide +kernel
theorem dX6_table_72 : decode cX6_table 72 = .ok (.aload_n 0, 1) := by decide +kernel
theorem dX6_table_73 : decode cX6_table 73 = .ok (.getfield 36, 3) := by decide +kernel
theorem dX6_table_76 : decode cX6_table 76 = .ok (.iload_n 2, 1) := by decide +kernel
theorem dX6_table_77 : decode cX6_table 77 = .ok (.iaload, 1) := by decide +kernel
theorem dX6_table_78 : decode cX6_table 78 = .ok (.iastore, 1) := by decide +kernel
theorem dX6_table_79 : decode cX6_table 79 = .ok (.aload_n 0, 1) := by decide +kernel
theorem dX6_table_80 : decode cX6_table 80 = .ok (.getfield 48, 3) := by decide +kernel
theorem dX6_table_83 : decode cX6_table 83 = .ok (.iload_n 2, 1) := by decide +kernel
theorem dX6_table_84 : decode cX6_table 84 = .ok (.aload_n 0, 1) := by decide +kernel
theorem dX6_table_85 : decode cX6_table 85 = .ok (.getfield 39, 3) := by decide +kernel
theorem dX6_table_88 : decode cX6_table 88 = .ok (.iload_n 2, 1) := by decide +kernel
theorem dX6_table_89 : decode cX6_table 89 = .ok (.iaload, 1) := by decide +kernel
theorem dX6_table_90 : decode cX6_table 90 = .ok (.iastore, 1) := by decide +kernel
theorem dX6_table_91 : decode cX6_table 91 = .ok (.iinc 2 1, 3) := by decide +kernel
theorem dX6_table_94 : decode cX6_table 94 = .ok (.goto (-47), 3) := by decide +kernel
theorem dX6_table_97 : decode cX6_table 97 = .ok (.iconst 0, 1) := by decide +kernel
theorem dX6_table_98 : decode cX6_table 98 = .ok (.istore_n 2, 1) := by decide +kernel
theorem dX6_table_99 : decode cX6_table 99 = .ok (.iload_n 2, 1) := by decide +kernel
theorem dX6_table_100 : decode cX6_table 100 = .ok (.bipush 25, 2) := by decide +kernel
theorem dX6_table_102 : decode cX6_table 102 = .ok (.if_icmp .ge 16, 3) := by decide +kernel
theorem dX6_table_105 : decode cX6_table 105 = .ok (.aload_n 0, 1) := by decide +kernel
theorem dX6_table_106 : decode cX6_table 106 = .ok (.getfield 51, 3) := by decide +kernel
theorem dX6_table_109 : decode cX6_table 109 = .ok (.iload_n 2, 1) := by decide +kernel
theorem dX6_table_110 : decode cX6_table 110 = .ok (.iconst 0, 1) := by decide +kernel
theorem dX6_table_111 : decode cX6_table 111 = .ok (.iastore, 1) := by decide +kernel
theorem dX6_table_112 : decode cX6_table 112 = .ok (.iinc 2 1, 3) := by decide +kernel
theorem dX6_table_115 : decode cX6_table 115 = .ok (.goto (-16), 3) := by decide +kernel
theorem dX6_table_118 : decode cX6_table 118 = .ok (.aload_n 0, 1) := by decide +kernel
theorem dX6_table_119 : decode cX6_table 119 = .ok (.getfield 51, 3) := by decide +kernel
theorem dX6_table_122 : decode cX6_table 122 = .ok (.iconst 0, 1) := by decide +kernel
theorem dX6_table_123 : decode cX6_table 123 = .ok (.aload_n 0, 1) := by decide +kernel
theorem dX6_table_124 : decode cX6_table 124 = .ok (.getfield 114, 3) := by decide +kernel
theorem dX6_table_127 : decode cX6_table 127 = .ok (.iastore, 1) := by decide +kernel
theorem dX6_table_128 : decode cX6_table 128 = .ok (.aload_n 0, 1) := by decide +kernel
theorem dX6_table_129 : decode cX6_table 129 = .ok (.iconst 0, 1) := by decide +kernel
theorem dX6_table_130 : decode cX6_table 130 = .ok (.putfield 139, 3) := by decide +kernel
theorem dX6_table_133 : decode cX6_table 133 = .ok (.iconst 0, 1) := by decide +kernel
theorem dX6_table_134 : decode cX6_table 134 = .ok (.istore_n 2, 1) := by decide +kernel
theorem dX6_table_135 : decode cX6_table 135 = .ok (.iload_n 2, 1) := by decide +kernel
theorem dX6_table_136 : decode cX6_table 136 = .ok (.iconst 3, 1) := by decide +kernel
theorem dX6_table_137 : decode cX6_table 137 = .ok (.if_icmp .ge 16, 3) := by decide +kernel
theorem dX6_table_140 : decode cX6_table 140 = .ok (.aload_n 0, 1) := by decide +kernel
theorem dX6_table_141 : decode cX6_table 141 = .ok (.getfield 57, 3) := by decide +kernel
theorem dX6_table_144 : decode cX6_table 144 = .ok (.iload_n 2, 1) := by decide +kernel
theorem dX6_table_145 : decode cX6_table 145 = .ok (.iconst (-1), 1) := by decide +kernel
theorem dX6_table_146 : decode cX6_table 146 = .ok (.iastore, 1) := by decide +kernel
theorem dX6_table_147 : decode cX6_table 147 = .ok (.iinc 2 1, 3) := by decide +kernel
theorem dX6_table_150 : decode cX6_table 150 = .ok (.goto (-15), 3) := by decide +kernel
theorem dX6_table_153 : decode cX6_table 153 = .ok (.aload_n 0, 1) := by decide +kernel
theorem dX6_table_154 : decode cX6_table 154 = .ok (.getfield 136, 3) := by decide +kernel
theorem dX6_table_157 : decode cX6_table 157 = .ok (.ireturn, 1) := by decide +kernel
set_option maxRecDepth 20000 in
theorem ggX6_isWorker_X6_in : GoodIn wsX6_isWorker wsX6_in := goodIn_r _ [5] (by decide +kernel) (by decide +kernel)
set_option maxRecDepth 20000 in
theorem gX6_isWorker_X6_in : GoodIn wsX6_isWorker (va_wsS RX6 83 yX6_in wsX6_in) := goodIn_app (goodIn_of _ (by decide +kernel)) ggX6_isWorker_X6_in
theorem dX6_isWorker_0 : decode cX6_isWorker 0 = .ok (.iload_n 1, 1) := by decide +kernel
theorem dX6_isWorker_1 : decode cX6_isWorker 1 = .ok (.iconst 0, 1) := by decide +kernel
theorem dX6_isWorker_2 : decode cX6_isWorker 2 = .ok (.aload_n 0, 1) := by decide +kernel
theorem dX6_isWorker_3 : decode cX6_isWorker 3 = .ok (.getfield 136, 3) := by decide +kernel
theorem dX6_isWorker_6 : decode cX6_isWorker 6 = .ok (.iconst 1, 1) := by decide +kernel
theorem dX6_isWorker_7 : decode cX6_isWorker 7 = .ok (.isub, 1) := by decide +kernel
theorem dX6_isWorker_8 : decode cX6_isWorker 8 = .ok (.invokestatic 83, 3) := by decide +kernel
theorem dX6_isWorker_11 : decode cX6_isWorker 11 = .ok (.ireturn, 1) := by decide +kernel
set_option maxRecDepth 20000 in
theorem ggX6_isPart_X6_in : GoodIn wsX6_isPart wsX6_in := goodIn_r _ [4] (by decide +kernel) (by decide +kernel)
set_option maxRecDepth 20000 in
theorem gX6_isPart_X6_in : GoodIn wsX6_isPart (va_wsS RX6 83 yX6_in wsX6_in) := goodIn_app (goodIn_of _ (by decide +kernel)) ggX6_isPart_X6_in
theorem dX6_isPart_0 : decode cX6_isPart 0 = .ok (.iload_n 0, 1) := by decide +kernel
theorem dX6_isPart_1 : decode cX6_isPart 1 = .ok (.iconst 2, 1) := by decide +kernel
theorem dX6_isPart_2 : decode cX6_isPart 2 = .ok (.bipush 16, 2) := by decide +kernel
theorem dX6_isPart_4 : decode cX6_isPart 4 = .ok (.invokestatic 83, 3) := by decide +kernel
theorem dX6_isPart_7 : decode cX6_isPart 7 = .ok (.ireturn, 1) := by decide +kernel
theorem dX6_takesAs_0 : decode cX6_takesAs 0 = .ok (.iload_n 1, 1) := by decide +kernel
theorem dX6_takesAs_1 : decode cX6_takesAs 1 = .ok (.iconst 2, 1) := by decide +kernel
theorem dX6_takesAs_2 : decode cX6_takesAs 2 = .ok (.if_icmp .eq 20, 3) := by decide +kernel
theorem dX6_takesAs_5 : decode cX6_takesAs 5 = .ok (.iload_n 1, 1) := by decide +kernel
theorem dX6_takesAs_6 : decode cX6_takesAs 6 = .ok (.iconst 4, 1) := by decide +kernel
theorem dX6_takesAs_7 : decode cX6_takesAs 7 = .ok (.if_icmp .eq 15, 3) := by decide +kernel
theorem dX6_takesAs_10 : decode cX6_takesAs 10 = .ok (.iload_n 1, 1) := by decide +kernel
theorem dX6_takesAs_11 : decode cX6_takesAs 11 = .ok (.bipush 8, 2) := by decide +kernel
theorem dX6_takesAs_13 : decode cX6_takesAs 13 = .ok (.if_icmp .eq 9, 3) := by decide +kernel
theorem dX6_takesAs_16 : decode cX6_takesAs 16 = .ok (.iload_n 1, 1) := by decide +kernel
theorem dX6_takesAs_17 : decode cX6_takesAs 17 = .ok (.bipush 16, 2) := by decide +kernel
theorem dX6_takesAs_19 : decode cX6_takesAs 19 = .ok (.if_icmp .ne 7, 3) := by decide +kernel
theorem dX6_takesAs_22 : decode cX6_takesAs 22 = .ok (.iconst 1, 1) := by decide +kernel
theorem dX6_takesAs_23 : decode cX6_takesAs 23 = .ok (.goto 4, 3) := by decide +kernel
theorem dX6_takesAs_26 : decode cX6_takesAs 26 = .ok (.iconst 0, 1) := by decide +kernel
theorem dX6_takesAs_27 : decode cX6_takesAs 27 = .ok (.istore_n 2, 1) := by decide +kernel
theorem dX6_takesAs_28 : decode cX6_takesAs 28 = .ok (.iload_n 0, 1) := by decide +kernel
theorem dX6_takesAs_29 : decode cX6_takesAs 29 = .ok (.tableswitch 105 1 5 #[35, 37, 50, 61, 88], 35) := by decide +kernel
theorem dX6_takesAs_64 : decode cX6_takesAs 64 = .ok (.iload_n 2, 1) := by decide +kernel
theorem dX6_takesAs_65 : decode cX6_takesAs 65 = .ok (.ireturn, 1) := by decide +kernel
theorem dX6_takesAs_66 : decode cX6_takesAs 66 = .ok (.iload_n 1, 1) := by decide +kernel
theorem dX6_takesAs_67 : decode cX6_takesAs 67 = .ok (.iconst 2, 1) := by decide +kernel
theorem dX6_takesAs_68 : decode cX6_takesAs 68 = .ok (.irem, 1) := by decide +kernel
theorem dX6_takesAs_69 : decode cX6_takesAs 69 = .ok (.iconst 1, 1) := by decide +kernel
theorem dX6_takesAs_70 : decode cX6_takesAs 70 = .ok (.if_icmp .ne 7, 3) := by decide +kernel
theorem dX6_takesAs_73 : decode cX6_takesAs 73 = .ok (.iconst 1, 1) := by decide +kernel
theorem dX6_takesAs_74 : decode cX6_takesAs 74 = .ok (.goto 4, 3) := by decide +kernel
theorem dX6_takesAs_77 : decode cX6_takesAs 77 = .ok (.iconst 0, 1) := by decide +kernel
theorem dX6_takesAs_78 : decode cX6_takesAs 78 = .ok (.ireturn, 1) := by decide +kernel
theorem dX6_takesAs_79 : decode cX6_takesAs 79 = .ok (.iload_n 1, 1) := by decide +kernel
theorem dX6_takesAs_80 : decode cX6_takesAs 80 = .ok (.iconst 4, 1) := by decide +kernel
theorem dX6_takesAs_81 : decode cX6_takesAs 81 = .ok (.if_icmp .lt 7, 3) := by decide +kernel
theorem dX6_takesAs_84 : decode cX6_takesAs 84 = .ok (.iconst 1, 1) := by decide +kernel
theorem dX6_takesAs_85 : decode cX6_takesAs 85 = .ok (.goto 4, 3) := by decide +kernel
theorem dX6_takesAs_88 : decode cX6_takesAs 88 = .ok (.iconst 0, 1) := by decide +kernel
theorem dX6_takesAs_89 : decode cX6_takesAs 89 = .ok (.ireturn, 1) := by decide +kernel
theorem dX6_takesAs_90 : decode cX6_takesAs 90 = .ok (.iload_n 2, 1) := by decide +kernel
theorem dX6_takesAs_91 : decode cX6_takesAs 91 = .ok (.ifCond .ne 20, 3) := by decide +kernel
theorem dX6_takesAs_94 : decode cX6_takesAs 94 = .ok (.iload_n 1, 1) := by decide +kernel
theorem dX6_takesAs_95 : decode cX6_takesAs 95 = .ok (.iconst 3, 1) := by decide +kernel
theorem dX6_takesAs_96 : decode cX6_takesAs 96 = .ok (.if_icmp .eq 15, 3) := by decide +kernel
theorem dX6_takesAs_99 : decode cX6_takesAs 99 = .ok (.iload_n 1, 1) := by decide +kernel
theorem dX6_takesAs_100 : decode cX6_takesAs 100 = .ok (.bipush 6, 2) := by decide +kernel
theorem dX6_takesAs_102 : decode cX6_takesAs 102 = .ok (.if_icmp .eq 9, 3) := by decide +kernel
theorem dX6_takesAs_105 : decode cX6_takesAs 105 = .ok (.iload_n 1, 1) := by decide +kernel
theorem dX6_takesAs_106 : decode cX6_takesAs 106 = .ok (.bipush 12, 2) := by decide +kernel
theorem dX6_takesAs_108 : decode cX6_takesAs 108 = .ok (.if_icmp .ne 7, 3) := by decide +kernel
theorem dX6_takesAs_111 : decode cX6_takesAs 111 = .ok (.iconst 1, 1) := by decide +kernel
theorem dX6_takesAs_112 : decode cX6_takesAs 112 = .ok (.goto 4, 3) := by decide +kernel
theorem dX6_takesAs_115 : decode cX6_takesAs 115 = .ok (.iconst 0, 1) := by decide +kernel
theorem dX6_takesAs_116 : decode cX6_takesAs 116 = .ok (.ireturn, 1) := by decide +kernel
theorem dX6_takesAs_117 : decode cX6_takesAs 117 = .ok (.iload_n 1, 1) := by decide +kernel
theorem dX6_takesAs_118 : decode cX6_takesAs 118 = .ok (.iconst 4, 1) := by decide +kernel
theorem dX6_takesAs_119 : decode cX6_takesAs 119 = .ok (.if_icmp .lt 13, 3) := by decide +kernel
theorem dX6_takesAs_122 : decode cX6_takesAs 122 = .ok (.iload_n 1, 1) := by decide +kernel
theorem dX6_takesAs_123 : decode cX6_takesAs 123 = .ok (.iconst 2, 1) := by decide +kernel
theorem dX6_takesAs_124 : decode cX6_takesAs 124 = .ok (.irem, 1) := by decide +kernel
theorem dX6_takesAs_125 : decode cX6_takesAs 125 = .ok (.ifCond .ne 7, 3) := by decide +kernel
theorem dX6_takesAs_128 : decode cX6_takesAs 128 = .ok (.iconst 1, 1) := by decide +kernel
theorem dX6_takesAs_129 : decode cX6_takesAs 129 = .ok (.goto 4, 3) := by decide +kernel
theorem dX6_takesAs_132 : decode cX6_takesAs 132 = .ok (.iconst 0, 1) := by decide +kernel
theorem dX6_takesAs_133 : decode cX6_takesAs 133 = .ok (.ireturn, 1) := by decide +kernel
theorem dX6_takesAs_134 : decode cX6_takesAs 134 = .ok (.iconst 1, 1) := by decide +kernel
theorem dX6_takesAs_135 : decode cX6_takesAs 135 = .ok (.ireturn, 1) := by decide +kernel
set_option maxRecDepth 20000 in
theorem ggX6_allOf_X6_takesAs : GoodIn wsX6_allOf wsX6_takesAs := goodIn_r _ [4] (by decide +kernel) (by decide +kernel)
set_option maxRecDepth 20000 in
theorem gX6_allOf_X6_takesAs : GoodIn wsX6_allOf (va_wsS RX6 142 yX6_takesAs wsX6_takesAs) := goodIn_app (goodIn_of _ (by decide +kernel)) ggX6_allOf_X6_takesAs
theorem dX6_allOf_0 : decode cX6_allOf 0 = .ok (.iconst 0, 1) := by decide +kernel
theorem dX6_allOf_1 : decode cX6_allOf 1 = .ok (.istore_n 1, 1) := by decide +kernel
theorem dX6_allOf_2 : decode cX6_allOf 2 = .ok (.iconst 2, 1) := by decide +kernel
theorem dX6_allOf_3 : decode cX6_allOf 3 = .ok (.istore_n 2, 1) := by decide +kernel
theorem dX6_allOf_4 : decode cX6_allOf 4 = .ok (.iload_n 2, 1) := by decide +kernel
theorem dX6_allOf_5 : decode cX6_allOf 5 = .ok (.bipush 16, 2) := by decide +kernel
theorem dX6_allOf_7 : decode cX6_allOf 7 = .ok (.if_icmp .gt 27, 3) := by decide +kernel
theorem dX6_allOf_10 : decode cX6_allOf 10 = .ok (.iload_n 1, 1) := by decide +kernel
theorem dX6_allOf_11 : decode cX6_allOf 11 = .ok (.iload_n 0, 1) := by decide +kernel
theorem dX6_allOf_12 : decode cX6_allOf 12 = .ok (.iload_n 2, 1) := by decide +kernel
theorem dX6_allOf_13 : decode cX6_allOf 13 = .ok (.invokestatic 142, 3) := by decide +kernel
theorem dX6_allOf_16 : decode cX6_allOf 16 = .ok (.ifCond .eq 9, 3) := by decide +kernel
theorem dX6_allOf_19 : decode cX6_allOf 19 = .ok (.iconst 1, 1) := by decide +kernel
theorem dX6_allOf_20 : decode cX6_allOf 20 = .ok (.iload_n 2, 1) := by decide +kernel
theorem dX6_allOf_21 : decode cX6_allOf 21 = .ok (.ishl, 1) := by decide +kernel
theorem dX6_allOf_22 : decode cX6_allOf 22 = .ok (.goto 4, 3) := by decide +kernel
theorem dX6_allOf_25 : decode cX6_allOf 25 = .ok (.iconst 0, 1) := by decide +kernel
theorem dX6_allOf_26 : decode cX6_allOf 26 = .ok (.ior, 1) := by decide +kernel
theorem dX6_allOf_27 : decode cX6_allOf 27 = .ok (.istore_n 1, 1) := by decide +kernel
theorem dX6_allOf_28 : decode cX6_allOf 28 = .ok (.iinc 2 1, 3) := by decide +kernel
theorem dX6_allOf_31 : decode cX6_allOf 31 = .ok (.goto (-27), 3) := by decide +kernel
theorem dX6_allOf_34 : decode cX6_allOf 34 = .ok (.iload_n 1, 1) := by decide +kernel
theorem dX6_allOf_35 : decode cX6_allOf 35 = .ok (.ireturn, 1) := by decide +kernel
set_option maxRecDepth 20000 in
theorem ggX6_sumOf_X6_has : GoodIn wsX6_sumOf wsX6_has := goodIn_r _ [5] (by decide +kernel) (by decide +kernel)
set_option maxRecDepth 20000 in
theorem gX6_sumOf_X6_has : GoodIn wsX6_sumOf (va_wsS RX6 146 yX6_has wsX6_has) := goodIn_app (goodIn_of _ (by decide +kernel)) ggX6_sumOf_X6_has
theorem dX6_sumOf_0 : decode cX6_sumOf 0 = .ok (.iconst 0, 1) := by decide +kernel
theorem dX6_sumOf_1 : decode cX6_sumOf 1 = .ok (.istore_n 1, 1) := by decide +kernel
theorem dX6_sumOf_2 : decode cX6_sumOf 2 = .ok (.iconst 2, 1) := by decide +kernel
theorem dX6_sumOf_3 : decode cX6_sumOf 3 = .ok (.istore_n 2, 1) := by decide +kernel
theorem dX6_sumOf_4 : decode cX6_sumOf 4 = .ok (.iload_n 2, 1) := by decide +kernel
theorem dX6_sumOf_5 : decode cX6_sumOf 5 = .ok (.bipush 16, 2) := by decide +kernel
theorem dX6_sumOf_7 : decode cX6_sumOf 7 = .ok (.if_icmp .gt 28, 3) := by decide +kernel
theorem dX6_sumOf_10 : decode cX6_sumOf 10 = .ok (.iload_n 1, 1) := by decide +kernel
theorem dX6_sumOf_11 : decode cX6_sumOf 11 = .ok (.iload_n 0, 1) := by decide +kernel
theorem dX6_sumOf_12 : decode cX6_sumOf 12 = .ok (.iload_n 2, 1) := by decide +kernel
theorem dX6_sumOf_13 : decode cX6_sumOf 13 = .ok (.invokestatic 146, 3) := by decide +kernel
theorem dX6_sumOf_16 : decode cX6_sumOf 16 = .ok (.ifCond .eq 10, 3) := by decide +kernel
theorem dX6_sumOf_19 : decode cX6_sumOf 19 = .ok (.ldc 149, 2) := by decide +kernel
theorem dX6_sumOf_21 : decode cX6_sumOf 21 = .ok (.iload_n 2, 1) := by decide +kernel
theorem dX6_sumOf_22 : decode cX6_sumOf 22 = .ok (.idiv, 1) := by decide +kernel
theorem dX6_sumOf_23 : decode cX6_sumOf 23 = .ok (.goto 4, 3) := by decide +kernel
theorem dX6_sumOf_26 : decode cX6_sumOf 26 = .ok (.iconst 0, 1) := by decide +kernel
theorem dX6_sumOf_27 : decode cX6_sumOf 27 = .ok (.iadd, 1) := by decide +kernel
theorem dX6_sumOf_28 : decode cX6_sumOf 28 = .ok (.istore_n 1, 1) := by decide +kernel
theorem dX6_sumOf_29 : decode cX6_sumOf 29 = .ok (.iinc 2 1, 3) := by decide +kernel
theorem dX6_sumOf_32 : decode cX6_sumOf 32 = .ok (.goto (-28), 3) := by decide +kernel
theorem dX6_sumOf_35 : decode cX6_sumOf 35 = .ok (.iload_n 1, 1) := by decide +kernel
theorem dX6_sumOf_36 : decode cX6_sumOf 36 = .ok (.ireturn, 1) := by decide +kernel
theorem dX6_due_0 : decode cX6_due 0 = .ok (.ldc 149, 2) := by decide +kernel
theorem dX6_due_2 : decode cX6_due 2 = .ok (.aload_n 0, 1) := by decide +kernel
theorem dX6_due_3 : decode cX6_due 3 = .ok (.getfield 48, 3) := by decide +kernel
theorem dX6_due_6 : decode cX6_due 6 = .ok (.iload_n 1, 1) := by decide +kernel
theorem dX6_due_7 : decode cX6_due 7 = .ok (.iaload, 1) := by decide +kernel
theorem dX6_due_8 : decode cX6_due 8 = .ok (.idiv, 1) := by decide +kernel
theorem dX6_due_9 : decode cX6_due 9 = .ok (.aload_n 0, 1) := by decide +kernel
theorem dX6_due_10 : decode cX6_due 10 = .ok (.getfield 45, 3) := by decide +kernel
theorem dX6_due_13 : decode cX6_due 13 = .ok (.iload_n 1, 1) := by decide +kernel
theorem dX6_due_14 : decode cX6_due 14 = .ok (.iaload, 1) := by decide +kernel
theorem dX6_due_15 : decode cX6_due 15 = .ok (.imul, 1) := by decide +kernel
theorem dX6_due_16 : decode cX6_due 16 = .ok (.ireturn, 1) := by decide +kernel
set_option maxRecDepth 20000 in
theorem ggX6_lackOf_X6_due : GoodIn wsX6_lackOf wsX6_due := goodIn_r _ [6, 7, 8, 9, 16, 17, 18, 19, 20, 21, 22, 23, 24, 25, 26, 27, 28, 29, 30, 31, 32, 33, 34, 35, 36, 37, 38, 39, 40, 41, 42, 43, 44, 45, 46, 47, 48, 49] (by decide +kernel) (by decide +kernel)
set_option maxRecDepth 20000 in
theorem gX6_lackOf_X6_due : GoodIn wsX6_lackOf (wsV RX6 150 RX6 yX6_due wsX6_due) := goodIn_app (goodIn_of _ (by decide +kernel)) ggX6_lackOf_X6_due
set_option maxRecDepth 20000 in
theorem ggX6_lackOf_X6_sumOf : GoodIn wsX6_lackOf wsX6_sumOf := goodIn_r _ [12, 7, 13, 14, 5, 15] (by decide +kernel) (by decide +kernel)
set_option maxRecDepth 20000 in
theorem gX6_lackOf_X6_sumOf : GoodIn wsX6_lackOf (va_wsS RX6 153 yX6_sumOf wsX6_sumOf) := goodIn_app (goodIn_of _ (by decide +kernel)) ggX6_lackOf_X6_sumOf
theorem dX6_lackOf_0 : decode cX6_lackOf 0 = .ok (.aload_n 0, 1) := by decide +kernel
theorem dX6_lackOf_1 : decode cX6_lackOf 1 = .ok (.iload_n 1, 1) := by decide +kernel
theorem dX6_lackOf_2 : decode cX6_lackOf 2 = .ok (.invokevirtual 150, 3) := by decide +kernel
theorem dX6_lackOf_5 : decode cX6_lackOf 5 = .ok (.aload_n 0, 1) := by decide +kernel
theorem dX6_lackOf_6 : decode cX6_lackOf 6 = .ok (.getfield 51, 3) := by decide +kernel
theorem dX6_lackOf_9 : decode cX6_lackOf 9 = .ok (.bipush 18, 2) := by decide +kernel
theorem dX6_lackOf_11 : decode cX6_lackOf 11 = .ok (.iload_n 1, 1) := by decide +kernel
theorem dX6_lackOf_12 : decode cX6_lackOf 12 = .ok (.iadd, 1) := by decide +kernel
theorem dX6_lackOf_13 : decode cX6_lackOf 13 = .ok (.iaload, 1) := by decide +kernel
theorem dX6_lackOf_14 : decode cX6_lackOf 14 = .ok (.invokestatic 153, 3) := by decide +kernel
theorem dX6_lackOf_17 : decode cX6_lackOf 17 = .ok (.isub, 1) := by decide +kernel
theorem dX6_lackOf_18 : decode cX6_lackOf 18 = .ok (.ireturn, 1) := by decide +kernel
theorem dX6_lying_0 : decode cX6_lying 0 = .ok (.iconst 0, 1) := by decide +kernel
theorem dX6_lying_1 : decode cX6_lying 1 = .ok (.istore_n 1, 1) := by decide +kernel
theorem dX6_lying_2 : decode cX6_lying 2 = .ok (.iconst 2, 1) := by decide +kernel
theorem dX6_lying_3 : decode cX6_lying 3 = .ok (.istore_n 2, 1) := by decide +kernel
theorem dX6_lying_4 : decode cX6_lying 4 = .ok (.iload_n 2, 1) := by decide +kernel
theorem dX6_lying_5 : decode cX6_lying 5 = .ok (.bipush 16, 2) := by decide +kernel
theorem dX6_lying_7 : decode cX6_lying 7 = .ok (.if_icmp .gt 30, 3) := by decide +kernel
theorem dX6_lying_10 : decode cX6_lying 10 = .ok (.iload_n 1, 1) := by decide +kernel
theorem dX6_lying_11 : decode cX6_lying 11 = .ok (.aload_n 0, 1) := by decide +kernel
theorem dX6_lying_12 : decode cX6_lying 12 = .ok (.getfield 51, 3) := by decide +kernel
theorem dX6_lying_15 : decode cX6_lying 15 = .ok (.iconst 1, 1) := by decide +kernel
theorem dX6_lying_16 : decode cX6_lying 16 = .ok (.iload_n 2, 1) := by decide +kernel
theorem dX6_lying_17 : decode cX6_lying 17 = .ok (.iadd, 1) := by decide +kernel
theorem dX6_lying_18 : decode cX6_lying 18 = .ok (.iaload, 1) := by decide +kernel
theorem dX6_lying_19 : decode cX6_lying 19 = .ok (.ifCond .le 9, 3) := by decide +kernel
theorem dX6_lying_22 : decode cX6_lying 22 = .ok (.iconst 1, 1) := by decide +kernel
theorem dX6_lying_23 : decode cX6_lying 23 = .ok (.iload_n 2, 1) := by decide +kernel
theorem dX6_lying_24 : decode cX6_lying 24 = .ok (.ishl, 1) := by decide +kernel
theorem dX6_lying_25 : decode cX6_lying 25 = .ok (.goto 4, 3) := by decide +kernel
theorem dX6_lying_28 : decode cX6_lying 28 = .ok (.iconst 0, 1) := by decide +kernel
theorem dX6_lying_29 : decode cX6_lying 29 = .ok (.ior, 1) := by decide +kernel
theorem dX6_lying_30 : decode cX6_lying 30 = .ok (.istore_n 1, 1) := by decide +kernel
theorem dX6_lying_31 : decode cX6_lying 31 = .ok (.iinc 2 1, 3) := by decide +kernel
theorem dX6_lying_34 : decode cX6_lying 34 = .ok (.goto (-30), 3) := by decide +kernel
theorem dX6_lying_37 : decode cX6_lying 37 = .ok (.iload_n 1, 1) := by decide +kernel
theorem dX6_lying_38 : decode cX6_lying 38 = .ok (.ireturn, 1) := by decide +kernel
set_option maxRecDepth 20000 in
theorem ggX6_isFit_X6_takesAs : GoodIn wsX6_isFit wsX6_takesAs := goodIn_r _ [7] (by decide +kernel) (by decide +kernel)
set_option maxRecDepth 20000 in
theorem gX6_isFit_X6_takesAs : GoodIn wsX6_isFit (va_wsS RX6 142 yX6_takesAs wsX6_takesAs) := goodIn_app (goodIn_of _ (by decide +kernel)) ggX6_isFit_X6_takesAs
set_option maxRecDepth 20000 in
theorem ggX6_isFit_X6_has : GoodIn wsX6_isFit wsX6_has := goodIn_r _ [10] (by decide +kernel) (by decide +kernel)
set_option maxRecDepth 20000 in
theorem gX6_isFit_X6_has : GoodIn wsX6_isFit (va_wsS RX6 146 yX6_has wsX6_has) := goodIn_app (goodIn_of _ (by decide +kernel)) ggX6_isFit_X6_has
set_option maxRecDepth 20000 in
theorem ggX6_isFit_X6_lackOf : GoodIn wsX6_isFit wsX6_lackOf := goodIn_r _ [14, 2, 15, 16, 17, 6, 18, 3, 19, 20, 21, 22, 23, 8, 9, 10, 24, 25, 26, 27, 28, 29, 30, 31, 32, 33, 34, 35, 36, 37, 38, 39, 40, 41, 42, 43, 44, 45, 46, 47, 48, 49, 50, 51, 52, 53, 54, 55, 56, 57] (by decide +kernel) (by decide +kernel)
set_option maxRecDepth 20000 in
theorem gX6_isFit_X6_lackOf : GoodIn wsX6_isFit (wsV RX6 156 RX6 yX6_lackOf wsX6_lackOf) := goodIn_app (goodIn_of _ (by decide +kernel)) ggX6_isFit_X6_lackOf
theorem dX6_isFit_0 : decode cX6_isFit 0 = .ok (.aload_n 0, 1) := by decide +kernel
theorem dX6_isFit_1 : decode cX6_isFit 1 = .ok (.getfield 42, 3) := by decide +kernel
theorem dX6_isFit_4 : decode cX6_isFit 4 = .ok (.iload_n 1, 1) := by decide +kernel
theorem dX6_isFit_5 : decode cX6_isFit 5 = .ok (.iaload, 1) := by decide +kernel
theorem dX6_isFit_6 : decode cX6_isFit 6 = .ok (.iload_n 2, 1) := by decide +kernel
theorem dX6_isFit_7 : decode cX6_isFit 7 = .ok (.invokestatic 142, 3) := by decide +kernel
theorem dX6_isFit_10 : decode cX6_isFit 10 = .ok (.ifCond .eq 35, 3) := by decide +kernel
theorem dX6_isFit_13 : decode cX6_isFit 13 = .ok (.aload_n 0, 1) := by decide +kernel
theorem dX6_isFit_14 : decode cX6_isFit 14 = .ok (.getfield 51, 3) := by decide +kernel
theorem dX6_isFit_17 : decode cX6_isFit 17 = .ok (.bipush 18, 2) := by decide +kernel
theorem dX6_isFit_19 : decode cX6_isFit 19 = .ok (.iload_n 1, 1) := by decide +kernel
theorem dX6_isFit_20 : decode cX6_isFit 20 = .ok (.iadd, 1) := by decide +kernel
theorem dX6_isFit_21 : decode cX6_isFit 21 = .ok (.iaload, 1) := by decide +kernel
theorem dX6_isFit_22 : decode cX6_isFit 22 = .ok (.iload_n 2, 1) := by decide +kernel
theorem dX6_isFit_23 : decode cX6_isFit 23 = .ok (.invokestatic 146, 3) := by decide +kernel
theorem dX6_isFit_26 : decode cX6_isFit 26 = .ok (.ifCond .ne 19, 3) := by decide +kernel
theorem dX6_isFit_29 : decode cX6_isFit 29 = .ok (.aload_n 0, 1) := by decide +kernel
theorem dX6_isFit_30 : decode cX6_isFit 30 = .ok (.iload_n 1, 1) := by decide +kernel
theorem dX6_isFit_31 : decode cX6_isFit 31 = .ok (.invokevirtual 156, 3) := by decide +kernel
theorem dX6_isFit_34 : decode cX6_isFit 34 = .ok (.ldc 149, 2) := by decide +kernel
theorem dX6_isFit_36 : decode cX6_isFit 36 = .ok (.iload_n 2, 1) := by decide +kernel
theorem dX6_isFit_37 : decode cX6_isFit 37 = .ok (.idiv, 1) := by decide +kernel
theorem dX6_isFit_38 : decode cX6_isFit 38 = .ok (.if_icmp .lt 7, 3) := by decide +kernel
theorem dX6_isFit_41 : decode cX6_isFit 41 = .ok (.iconst 1, 1) := by decide +kernel
theorem dX6_isFit_42 : decode cX6_isFit 42 = .ok (.goto 4, 3) := by decide +kernel
theorem dX6_isFit_45 : decode cX6_isFit 45 = .ok (.iconst 0, 1) := by decide +kernel
theorem dX6_isFit_46 : decode cX6_isFit 46 = .ok (.ireturn, 1) := by decide +kernel
set_option maxRecDepth 20000 in
theorem ggX6_fits_X6_isFit : GoodIn wsX6_fits wsX6_isFit := goodIn_r _ [6, 7, 1, 8, 9, 10, 5, 11, 12, 13, 14, 15, 16, 17, 18, 19, 20, 21, 22, 23, 24, 25, 26, 27, 28, 29, 30, 31, 32, 33, 34, 35, 36, 37, 38, 39, 40, 41, 42, 43, 44, 45, 46, 47, 48, 49, 50, 51, 52, 53, 54, 55, 56, 57, 58, 59, 60, 61] (by decide +kernel) (by decide +kernel)
set_option maxRecDepth 20000 in
theorem gX6_fits_X6_isFit : GoodIn wsX6_fits (wsV RX6 159 RX6 yX6_isFit wsX6_isFit) := goodIn_app (goodIn_of _ (by decide +kernel)) ggX6_fits_X6_isFit
theorem dX6_fits_0 : decode cX6_fits 0 = .ok (.iconst 0, 1) := by decide +kernel
theorem dX6_fits_1 : decode cX6_fits 1 = .ok (.istore_n 2, 1) := by decide +kernel
theorem dX6_fits_2 : decode cX6_fits 2 = .ok (.iconst 2, 1) := by decide +kernel
theorem dX6_fits_3 : decode cX6_fits 3 = .ok (.istore_n 3, 1) := by decide +kernel
theorem dX6_fits_4 : decode cX6_fits 4 = .ok (.iload_n 3, 1) := by decide +kernel
theorem dX6_fits_5 : decode cX6_fits 5 = .ok (.bipush 16, 2) := by decide +kernel
theorem dX6_fits_7 : decode cX6_fits 7 = .ok (.if_icmp .gt 39, 3) := by decide +kernel
theorem dX6_fits_10 : decode cX6_fits 10 = .ok (.iload_n 2, 1) := by decide +kernel
theorem dX6_fits_11 : decode cX6_fits 11 = .ok (.aload_n 0, 1) := by decide +kernel
theorem dX6_fits_12 : decode cX6_fits 12 = .ok (.getfield 51, 3) := by decide +kernel
theorem dX6_fits_15 : decode cX6_fits 15 = .ok (.iconst 1, 1) := by decide +kernel
theorem dX6_fits_16 : decode cX6_fits 16 = .ok (.iload_n 3, 1) := by decide +kernel
theorem dX6_fits_17 : decode cX6_fits 17 = .ok (.iadd, 1) := by decide +kernel
theorem dX6_fits_18 : decode cX6_fits 18 = .ok (.iaload, 1) := by decide +kernel
theorem dX6_fits_19 : decode cX6_fits 19 = .ok (.ifCond .le 18, 3) := by decide +kernel
theorem dX6_fits_22 : decode cX6_fits 22 = .ok (.aload_n 0, 1) := by decide +kernel
theorem dX6_fits_23 : decode cX6_fits 23 = .ok (.iload_n 1, 1) := by decide +kernel
theorem dX6_fits_24 : decode cX6_fits 24 = .ok (.iload_n 3, 1) := by decide +kernel
theorem dX6_fits_25 : decode cX6_fits 25 = .ok (.invokevirtual 159, 3) := by decide +kernel
theorem dX6_fits_28 : decode cX6_fits 28 = .ok (.ifCond .eq 9, 3) := by decide +kernel
theorem dX6_fits_31 : decode cX6_fits 31 = .ok (.iconst 1, 1) := by decide +kernel
theorem dX6_fits_32 : decode cX6_fits 32 = .ok (.iload_n 3, 1) := by decide +kernel
theorem dX6_fits_33 : decode cX6_fits 33 = .ok (.ishl, 1) := by decide +kernel
theorem dX6_fits_34 : decode cX6_fits 34 = .ok (.goto 4, 3) := by decide +kernel
theorem dX6_fits_37 : decode cX6_fits 37 = .ok (.iconst 0, 1) := by decide +kernel
theorem dX6_fits_38 : decode cX6_fits 38 = .ok (.ior, 1) := by decide +kernel
theorem dX6_fits_39 : decode cX6_fits 39 = .ok (.istore_n 2, 1) := by decide +kernel
theorem dX6_fits_40 : decode cX6_fits 40 = .ok (.iinc 3 1, 3) := by decide +kernel
theorem dX6_fits_43 : decode cX6_fits 43 = .ok (.goto (-39), 3) := by decide +kernel
theorem dX6_fits_46 : decode cX6_fits 46 = .ok (.iload_n 2, 1) := by decide +kernel
theorem dX6_fits_47 : decode cX6_fits 47 = .ok (.ireturn, 1) := by decide +kernel
set_option maxRecDepth 20000 in
theorem ggX6_workerTells_X6_fits : GoodIn wsX6_workerTells wsX6_fits := goodIn_r _ [9, 4, 10, 11, 12, 8, 13, 1, 14, 15, 16, 17, 18, 19, 20, 21, 22, 23, 24, 25, 26, 27, 28, 3, 2, 29, 30, 31, 32, 33, 34, 35, 36, 37, 38, 39, 40, 41, 42, 43, 44, 45, 46, 47, 48, 49, 50, 51, 52, 53, 54, 55, 56, 57, 58, 59, 60, 61, 62, 63, 64, 65] (by decide +kernel) (by decide +kernel)
set_option maxRecDepth 20000 in
theorem gX6_workerTells_X6_fits : GoodIn wsX6_workerTells (wsV RX6 162 RX6 yX6_fits wsX6_fits) := goodIn_app (goodIn_of _ (by decide +kernel)) ggX6_workerTells_X6_fits
set_option maxRecDepth 20000 in
theorem ggX6_workerTells_X6_lackOf : GoodIn wsX6_workerTells wsX6_lackOf := goodIn_r _ [24, 4, 25, 26, 27, 8, 28, 14, 3, 2, 29, 30, 31, 18, 19, 20, 32, 33, 34, 35, 36, 37, 38, 39, 40, 41, 42, 43, 44, 45, 46, 47, 48, 49, 50, 51, 52, 53, 54, 55, 56, 57, 58, 59, 60, 61, 62, 63, 64, 65] (by decide +kernel) (by decide +kernel)
set_option maxRecDepth 20000 in
theorem gX6_workerTells_X6_lackOf : GoodIn wsX6_workerTells (wsV RX6 156 RX6 yX6_lackOf wsX6_lackOf) := goodIn_app (goodIn_of _ (by decide +kernel)) ggX6_workerTells_X6_lackOf
theorem dX6_workerTells_0 : decode cX6_workerTells 0 = .ok (.iload_n 2, 1) := by decide +kernel
theorem dX6_workerTells_1 : decode cX6_workerTells 1 = .ok (.tableswitch 72 0 4 #[35, 42, 49, 56, 66], 35) := by decide +kernel
theorem dX6_workerTells_36 : decode cX6_workerTells 36 = .ok (.aload_n 0, 1) := by decide +kernel
theorem dX6_workerTells_37 : decode cX6_workerTells 37 = .ok (.getfield 42, 3) := by decide +kernel
theorem dX6_workerTells_40 : decode cX6_workerTells 40 = .ok (.iload_n 1, 1) := by decide +kernel
theorem dX6_workerTells_41 : decode cX6_workerTells 41 = .ok (.iaload, 1) := by decide +kernel
theorem dX6_workerTells_42 : decode cX6_workerTells 42 = .ok (.ireturn, 1) := by decide +kernel
theorem dX6_workerTells_43 : decode cX6_workerTells 43 = .ok (.aload_n 0, 1) := by decide +kernel
theorem dX6_workerTells_44 : decode cX6_workerTells 44 = .ok (.getfield 45, 3) := by decide +kernel
theorem dX6_workerTells_47 : decode cX6_workerTells 47 = .ok (.iload_n 1, 1) := by decide +kernel
theorem dX6_workerTells_48 : decode cX6_workerTells 48 = .ok (.iaload, 1) := by decide +kernel
theorem dX6_workerTells_49 : decode cX6_workerTells 49 = .ok (.ireturn, 1) := by decide +kernel
theorem dX6_workerTells_50 : decode cX6_workerTells 50 = .ok (.aload_n 0, 1) := by decide +kernel
theorem dX6_workerTells_51 : decode cX6_workerTells 51 = .ok (.getfield 48, 3) := by decide +kernel
theorem dX6_workerTells_54 : decode cX6_workerTells 54 = .ok (.iload_n 1, 1) := by decide +kernel
theorem dX6_workerTells_55 : decode cX6_workerTells 55 = .ok (.iaload, 1) := by decide +kernel
theorem dX6_workerTells_56 : decode cX6_workerTells 56 = .ok (.ireturn, 1) := by decide +kernel
theorem dX6_workerTells_57 : decode cX6_workerTells 57 = .ok (.aload_n 0, 1) := by decide +kernel
theorem dX6_workerTells_58 : decode cX6_workerTells 58 = .ok (.getfield 51, 3) := by decide +kernel
theorem dX6_workerTells_61 : decode cX6_workerTells 61 = .ok (.bipush 18, 2) := by decide +kernel
theorem dX6_workerTells_63 : decode cX6_workerTells 63 = .ok (.iload_n 1, 1) := by decide +kernel
theorem dX6_workerTells_64 : decode cX6_workerTells 64 = .ok (.iadd, 1) := by decide +kernel
theorem dX6_workerTells_65 : decode cX6_workerTells 65 = .ok (.iaload, 1) := by decide +kernel
theorem dX6_workerTells_66 : decode cX6_workerTells 66 = .ok (.ireturn, 1) := by decide +kernel
theorem dX6_workerTells_67 : decode cX6_workerTells 67 = .ok (.aload_n 0, 1) := by decide +kernel
theorem dX6_workerTells_68 : decode cX6_workerTells 68 = .ok (.iload_n 1, 1) := by decide +kernel
theorem dX6_workerTells_69 : decode cX6_workerTells 69 = .ok (.invokevirtual 162, 3) := by decide +kernel
theorem dX6_workerTells_72 : decode cX6_workerTells 72 = .ok (.ireturn, 1) := by decide +kernel
theorem dX6_workerTells_73 : decode cX6_workerTells 73 = .ok (.aload_n 0, 1) := by decide +kernel
theorem dX6_workerTells_74 : decode cX6_workerTells 74 = .ok (.iload_n 1, 1) := by decide +kernel
theorem dX6_workerTells_75 : decode cX6_workerTells 75 = .ok (.invokevirtual 156, 3) := by decide +kernel
theorem dX6_workerTells_78 : decode cX6_workerTells 78 = .ok (.ifCond .ne 7, 3) := by decide +kernel
theorem dX6_workerTells_81 : decode cX6_workerTells 81 = .ok (.iconst 1, 1) := by decide +kernel
theorem dX6_workerTells_82 : decode cX6_workerTells 82 = .ok (.goto 4, 3) := by decide +kernel
theorem dX6_workerTells_85 : decode cX6_workerTells 85 = .ok (.iconst 0, 1) := by decide +kernel
theorem dX6_workerTells_86 : decode cX6_workerTells 86 = .ok (.ireturn, 1) := by decide +kernel
set_option maxRecDepth 20000 in
theorem ggX6_worker_X6_isWorker : GoodIn wsX6_worker wsX6_isWorker := goodIn_r _ [5, 6, 7, 8, 4, 9, 49, 50, 51, 52, 53, 54, 55, 56, 57, 58, 59, 60, 61, 62, 63, 64, 65, 66, 67, 68, 69, 70, 71, 72, 73, 74, 75, 76, 77, 78, 79, 80, 81, 82] (by decide +kernel) (by decide +kernel)
set_option maxRecDepth 20000 in
theorem gX6_worker_X6_isWorker : GoodIn wsX6_worker (wsV RX6 165 RX6 yX6_isWorker wsX6_isWorker) := goodIn_app (goodIn_of _ (by decide +kernel)) ggX6_worker_X6_isWorker
set_option maxRecDepth 20000 in
theorem ggX6_worker_X6_in : GoodIn wsX6_worker wsX6_in := goodIn_r _ [9] (by decide +kernel) (by decide +kernel)
set_option maxRecDepth 20000 in
theorem gX6_worker_X6_in : GoodIn wsX6_worker (va_wsS RX6 83 yX6_in wsX6_in) := goodIn_app (goodIn_of _ (by decide +kernel)) ggX6_worker_X6_in
set_option maxRecDepth 20000 in
theorem ggX6_worker_X6_workerTells : GoodIn wsX6_worker wsX6_workerTells := goodIn_r _ [13, 14, 15, 16, 17, 18, 19, 20, 4, 21, 22, 23, 24, 25, 26, 27, 28, 29, 30, 31, 32, 33, 34, 35, 36, 37, 38, 39, 40, 41, 42, 43, 49, 50, 51, 52, 53, 54, 55, 56, 57, 58, 59, 60, 61, 62, 63, 64, 65, 66, 67, 68, 69, 70, 71, 72, 73, 74, 75, 76, 77, 78, 79, 80, 81, 82] (by decide +kernel) (by decide +kernel)
set_option maxRecDepth 20000 in
theorem gX6_worker_X6_workerTells : GoodIn wsX6_worker (wsV RX6 168 RX6 yX6_workerTells wsX6_workerTells) := goodIn_app (goodIn_of _ (by decide +kernel)) ggX6_worker_X6_workerTells
set_option maxRecDepth 20000 in
theorem ggX6_worker_X6_tells : GoodIn wsX6_worker wsX6_tells := goodIn_r _ [47, 48, 49, 50, 51, 52, 53, 54, 55, 56, 57, 58, 59, 60, 61, 62, 63, 64, 65, 66, 67, 68, 69, 70, 71, 72, 73, 74, 75, 76, 77, 78, 79, 80, 81, 82] (by decide +kernel) (by decide +kernel)
set_option maxRecDepth 20000 in
theorem gX6_worker_X6_tells : GoodIn wsX6_worker (wsV RX6 99 RX6 yX6_tells wsX6_tells) := goodIn_app (goodIn_of _ (by decide +kernel)) ggX6_worker_X6_tells
theorem dX6_worker_0 : decode cX6_worker 0 = .ok (.aload_n 0, 1) := by decide +kernel
theorem dX6_worker_1 : decode cX6_worker 1 = .ok (.iload_n 1, 1) := by decide +kernel
theorem dX6_worker_2 : decode cX6_worker 2 = .ok (.invokevirtual 165, 3) := by decide +kernel
theorem dX6_worker_5 : decode cX6_worker 5 = .ok (.ifCond .eq 26, 3) := by decide +kernel
theorem dX6_worker_8 : decode cX6_worker 8 = .ok (.iload_n 2, 1) := by decide +kernel
theorem dX6_worker_9 : decode cX6_worker 9 = .ok (.iconst 0, 1) := by decide +kernel
theorem dX6_worker_10 : decode cX6_worker 10 = .ok (.iconst 5, 1) := by decide +kernel
theorem dX6_worker_11 : decode cX6_worker 11 = .ok (.invokestatic 83, 3) := by decide +kernel
theorem dX6_worker_14 : decode cX6_worker 14 = .ok (.ifCond .eq 17, 3) := by decide +kernel
theorem dX6_worker_17 : decode cX6_worker 17 = .ok (.aload_n 0, 1) := by decide +kernel
theorem dX6_worker_18 : decode cX6_worker 18 = .ok (.aload_n 0, 1) := by decide +kernel
theorem dX6_worker_19 : decode cX6_worker 19 = .ok (.iload_n 1, 1) := by decide +kernel
theorem dX6_worker_20 : decode cX6_worker 20 = .ok (.iload_n 2, 1) := by decide +kernel
theorem dX6_worker_21 : decode cX6_worker 21 = .ok (.invokevirtual 168, 3) := by decide +kernel
theorem dX6_worker_24 : decode cX6_worker 24 = .ok (.iconst 1, 1) := by decide +kernel
theorem dX6_worker_25 : decode cX6_worker 25 = .ok (.invokevirtual 99, 3) := by decide +kernel
theorem dX6_worker_28 : decode cX6_worker 28 = .ok (.goto 4, 3) := by decide +kernel
theorem dX6_worker_31 : decode cX6_worker 31 = .ok (.iconst (-1), 1) := by decide +kernel
theorem dX6_worker_32 : decode cX6_worker 32 = .ok (.ireturn, 1) := by decide +kernel
theorem dX6_isOf_0 : decode cX6_isOf 0 = .ok (.iload_n 0, 1) := by decide +kernel
theorem dX6_isOf_1 : decode cX6_isOf 1 = .ok (.iload_n 1, 1) := by decide +kernel
theorem dX6_isOf_2 : decode cX6_isOf 2 = .ok (.if_icmp .eq 23, 3) := by decide +kernel
theorem dX6_isOf_5 : decode cX6_isOf 5 = .ok (.iload_n 1, 1) := by decide +kernel
theorem dX6_isOf_6 : decode cX6_isOf 6 = .ok (.iconst 1, 1) := by decide +kernel
theorem dX6_isOf_7 : decode cX6_isOf 7 = .ok (.if_icmp .ne 8, 3) := by decide +kernel
theorem dX6_isOf_10 : decode cX6_isOf 10 = .ok (.iload_n 0, 1) := by decide +kernel
theorem dX6_isOf_11 : decode cX6_isOf 11 = .ok (.iconst 4, 1) := by decide +kernel
theorem dX6_isOf_12 : decode cX6_isOf 12 = .ok (.if_icmp .eq 13, 3) := by decide +kernel
theorem dX6_isOf_15 : decode cX6_isOf 15 = .ok (.iload_n 1, 1) := by decide +kernel
theorem dX6_isOf_16 : decode cX6_isOf 16 = .ok (.iconst 3, 1) := by decide +kernel
theorem dX6_isOf_17 : decode cX6_isOf 17 = .ok (.if_icmp .ne 12, 3) := by decide +kernel
theorem dX6_isOf_20 : decode cX6_isOf 20 = .ok (.iload_n 0, 1) := by decide +kernel
theorem dX6_isOf_21 : decode cX6_isOf 21 = .ok (.iconst 5, 1) := by decide +kernel
theorem dX6_isOf_22 : decode cX6_isOf 22 = .ok (.if_icmp .ne 7, 3) := by decide +kernel
theorem dX6_isOf_25 : decode cX6_isOf 25 = .ok (.iconst 1, 1) := by decide +kernel
theorem dX6_isOf_26 : decode cX6_isOf 26 = .ok (.goto 4, 3) := by decide +kernel
theorem dX6_isOf_29 : decode cX6_isOf 29 = .ok (.iconst 0, 1) := by decide +kernel
theorem dX6_isOf_30 : decode cX6_isOf 30 = .ok (.ireturn, 1) := by decide +kernel
set_option maxRecDepth 20000 in
theorem ggX6_mark_X6_isWorker : GoodIn wsX6_mark wsX6_isWorker := goodIn_r _ [6, 7, 8, 9, 5, 10, 34, 35, 36, 37, 38, 39, 40, 41, 42, 43, 44, 45, 46, 47, 48, 49, 50, 51, 52, 53, 54, 55, 56, 57, 58, 59, 60, 61, 62, 63, 64, 65, 66, 67] (by decide +kernel) (by decide +kernel)
set_option maxRecDepth 20000 in
theorem gX6_mark_X6_isWorker : GoodIn wsX6_mark (wsV RX6 165 RX6 yX6_isWorker wsX6_isWorker) := goodIn_app (goodIn_of _ (by decide +kernel)) ggX6_mark_X6_isWorker
set_option maxRecDepth 20000 in
theorem ggX6_mark_X6_in : GoodIn wsX6_mark wsX6_in := goodIn_r _ [10] (by decide +kernel) (by decide +kernel)
set_option maxRecDepth 20000 in
theorem gX6_mark_X6_in : GoodIn wsX6_mark (va_wsS RX6 83 yX6_in wsX6_in) := goodIn_app (goodIn_of _ (by decide +kernel)) ggX6_mark_X6_in
set_option maxRecDepth 20000 in
theorem ggX6_mark_X6_isOf : GoodIn wsX6_mark wsX6_isOf := goodIn_r _ [13] (by decide +kernel) (by decide +kernel)
set_option maxRecDepth 20000 in
theorem gX6_mark_X6_isOf : GoodIn wsX6_mark (va_wsS RX6 171 yX6_isOf wsX6_isOf) := goodIn_app (goodIn_of _ (by decide +kernel)) ggX6_mark_X6_isOf
set_option maxRecDepth 20000 in
theorem ggX6_mark_X6_meets : GoodIn wsX6_mark wsX6_meets := goodIn_r _ [17, 18, 19, 34, 35, 36, 37, 38, 39, 40, 41, 42, 43, 44, 45, 46, 47, 48, 49, 50, 51, 52, 53, 54, 55, 56, 57, 58, 59, 60, 61, 62, 63, 64, 65, 66, 67] (by decide +kernel) (by decide +kernel)
set_option maxRecDepth 20000 in
theorem gX6_mark_X6_meets : GoodIn wsX6_mark (wsV RX6 91 RX6 yX6_meets wsX6_meets) := goodIn_app (goodIn_of _ (by decide +kernel)) ggX6_mark_X6_meets
set_option maxRecDepth 20000 in
theorem ggX6_mark_X6_allOf : GoodIn wsX6_mark wsX6_allOf := goodIn_r _ [22, 23, 24, 5, 25] (by decide +kernel) (by decide +kernel)
set_option maxRecDepth 20000 in
theorem gX6_mark_X6_allOf : GoodIn wsX6_mark (va_wsS RX6 174 yX6_allOf wsX6_allOf) := goodIn_app (goodIn_of _ (by decide +kernel)) ggX6_mark_X6_allOf
set_option maxRecDepth 20000 in
theorem ggX6_mark_X6_bits : GoodIn wsX6_mark wsX6_bits := goodIn_r _ [28] (by decide +kernel) (by decide +kernel)
set_option maxRecDepth 20000 in
theorem gX6_mark_X6_bits : GoodIn wsX6_mark (va_wsS RX6 177 yX6_bits wsX6_bits) := goodIn_app (goodIn_of _ (by decide +kernel)) ggX6_mark_X6_bits
set_option maxRecDepth 20000 in
theorem ggX6_mark_X6_lying : GoodIn wsX6_mark wsX6_lying := goodIn_r _ [32, 33, 34, 35, 36, 37, 38, 39, 40, 41, 42, 43, 44, 45, 46, 47, 48, 49, 50, 51, 52, 53, 54, 55, 56, 57, 58, 59, 60, 61, 62, 63, 64, 65, 66, 67] (by decide +kernel) (by decide +kernel)
