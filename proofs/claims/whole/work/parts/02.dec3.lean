theorem dX6_isPolicy_30 : decode cX6_isPolicy 30 = .ok (.sipush 500, 3) := by decide +kernel
theorem dX6_isPolicy_33 : decode cX6_isPolicy 33 = .ok (.invokestatic 42, 3) := by decide +kernel
theorem dX6_isPolicy_36 : decode cX6_isPolicy 36 = .ok (.ireturn, 1) := by decide +kernel
theorem dX6_isPolicy_37 : decode cX6_isPolicy 37 = .ok (.iload_n 1, 1) := by decide +kernel
theorem dX6_isPolicy_38 : decode cX6_isPolicy 38 = .ok (.iconst 1, 1) := by decide +kernel
theorem dX6_isPolicy_39 : decode cX6_isPolicy 39 = .ok (.iconst 4, 1) := by decide +kernel
theorem dX6_isPolicy_40 : decode cX6_isPolicy 40 = .ok (.invokestatic 42, 3) := by decide +kernel
theorem dX6_isPolicy_43 : decode cX6_isPolicy 43 = .ok (.ireturn, 1) := by decide +kernel
theorem dX6_isPolicy_44 : decode cX6_isPolicy 44 = .ok (.iload_n 0, 1) := by decide +kernel
theorem dX6_isPolicy_45 : decode cX6_isPolicy 45 = .ok (.iconst 0, 1) := by decide +kernel
theorem dX6_isPolicy_46 : decode cX6_isPolicy 46 = .ok (.iconst 3, 1) := by decide +kernel
theorem dX6_isPolicy_47 : decode cX6_isPolicy 47 = .ok (.invokestatic 42, 3) := by decide +kernel
theorem dX6_isPolicy_50 : decode cX6_isPolicy 50 = .ok (.ireturn, 1) := by decide +kernel
theorem dX6_wholeRun_0 : decode cX6_wholeRun 0 = .ok (.aload_n 0, 1) := by decide +kernel
theorem dX6_wholeRun_1 : decode cX6_wholeRun 1 = .ok (.getfield 27, 3) := by decide +kernel
theorem dX6_wholeRun_4 : decode cX6_wholeRun 4 = .ok (.aload_n 0, 1) := by decide +kernel
theorem dX6_wholeRun_5 : decode cX6_wholeRun 5 = .ok (.getfield 10, 3) := by decide +kernel
theorem dX6_wholeRun_8 : decode cX6_wholeRun 8 = .ok (.aload_n 0, 1) := by decide +kernel
theorem dX6_wholeRun_9 : decode cX6_wholeRun 9 = .ok (.getfield 10, 3) := by decide +kernel
theorem dX6_wholeRun_12 : decode cX6_wholeRun 12 = .ok (.getfield 111, 3) := by decide +kernel
theorem dX6_wholeRun_15 : decode cX6_wholeRun 15 = .ok (.invokevirtual 158, 3) := by decide +kernel
theorem dX6_wholeRun_18 : decode cX6_wholeRun 18 = .ok (.aload_n 0, 1) := by decide +kernel
theorem dX6_wholeRun_19 : decode cX6_wholeRun 19 = .ok (.getfield 27, 3) := by decide +kernel
theorem dX6_wholeRun_22 : decode cX6_wholeRun 22 = .ok (.areturn, 1) := by decide +kernel
theorem dX6_partOfFraction_0 : decode cX6_partOfFraction 0 = .ok (.iconst 1, 1) := by decide +kernel
theorem dX6_partOfFraction_1 : decode cX6_partOfFraction 1 = .ok (.iload_n 0, 1) := by decide +kernel
theorem dX6_partOfFraction_2 : decode cX6_partOfFraction 2 = .ok (.iload_n 1, 1) := by decide +kernel
theorem dX6_partOfFraction_3 : decode cX6_partOfFraction 3 = .ok (.invokestatic 217, 3) := by decide +kernel
theorem dX6_partOfFraction_6 : decode cX6_partOfFraction 6 = .ok (.invokestatic 220, 3) := by decide +kernel
theorem dX6_partOfFraction_9 : decode cX6_partOfFraction 9 = .ok (.istore_n 3, 1) := by decide +kernel
theorem dX6_partOfFraction_10 : decode cX6_partOfFraction 10 = .ok (.iload_n 2, 1) := by decide +kernel
theorem dX6_partOfFraction_11 : decode cX6_partOfFraction 11 = .ok (.ifCond .ne 7, 3) := by decide +kernel
theorem dX6_partOfFraction_14 : decode cX6_partOfFraction 14 = .ok (.iload_n 0, 1) := by decide +kernel
theorem dX6_partOfFraction_15 : decode cX6_partOfFraction 15 = .ok (.goto 4, 3) := by decide +kernel
theorem dX6_partOfFraction_18 : decode cX6_partOfFraction 18 = .ok (.iload_n 1, 1) := by decide +kernel
theorem dX6_partOfFraction_19 : decode cX6_partOfFraction 19 = .ok (.iload_n 3, 1) := by decide +kernel
theorem dX6_partOfFraction_20 : decode cX6_partOfFraction 20 = .ok (.idiv, 1) := by decide +kernel
theorem dX6_partOfFraction_21 : decode cX6_partOfFraction 21 = .ok (.ireturn, 1) := by decide +kernel
theorem dX6_commonDivisor_0 : decode cX6_commonDivisor 0 = .ok (.iload_n 0, 1) := by decide +kernel
theorem dX6_commonDivisor_1 : decode cX6_commonDivisor 1 = .ok (.istore_n 2, 1) := by decide +kernel
theorem dX6_commonDivisor_2 : decode cX6_commonDivisor 2 = .ok (.iload_n 1, 1) := by decide +kernel
theorem dX6_commonDivisor_3 : decode cX6_commonDivisor 3 = .ok (.istore_n 3, 1) := by decide +kernel
theorem dX6_commonDivisor_4 : decode cX6_commonDivisor 4 = .ok (.iconst 0, 1) := by decide +kernel
theorem dX6_commonDivisor_5 : decode cX6_commonDivisor 5 = .ok (.istore 4, 2) := by decide +kernel
theorem dX6_commonDivisor_7 : decode cX6_commonDivisor 7 = .ok (.iload 4, 2) := by decide +kernel
theorem dX6_commonDivisor_9 : decode cX6_commonDivisor 9 = .ok (.bipush 50, 2) := by decide +kernel
theorem dX6_commonDivisor_11 : decode cX6_commonDivisor 11 = .ok (.if_icmp .ge 23, 3) := by decide +kernel
theorem dX6_commonDivisor_14 : decode cX6_commonDivisor 14 = .ok (.iload_n 3, 1) := by decide +kernel
theorem dX6_commonDivisor_15 : decode cX6_commonDivisor 15 = .ok (.ifCond .eq 19, 3) := by decide +kernel
theorem dX6_commonDivisor_18 : decode cX6_commonDivisor 18 = .ok (.iload_n 2, 1) := by decide +kernel
theorem dX6_commonDivisor_19 : decode cX6_commonDivisor 19 = .ok (.iload_n 3, 1) := by decide +kernel
theorem dX6_commonDivisor_20 : decode cX6_commonDivisor 20 = .ok (.irem, 1) := by decide +kernel
theorem dX6_commonDivisor_21 : decode cX6_commonDivisor 21 = .ok (.istore 5, 2) := by decide +kernel
theorem dX6_commonDivisor_23 : decode cX6_commonDivisor 23 = .ok (.iload_n 3, 1) := by decide +kernel
theorem dX6_commonDivisor_24 : decode cX6_commonDivisor 24 = .ok (.istore_n 2, 1) := by decide +kernel
theorem dX6_commonDivisor_25 : decode cX6_commonDivisor 25 = .ok (.iload 5, 2) := by decide +kernel
theorem dX6_commonDivisor_27 : decode cX6_commonDivisor 27 = .ok (.istore_n 3, 1) := by decide +kernel
theorem dX6_commonDivisor_28 : decode cX6_commonDivisor 28 = .ok (.iinc 4 1, 3) := by decide +kernel
theorem dX6_commonDivisor_31 : decode cX6_commonDivisor 31 = .ok (.goto (-24), 3) := by decide +kernel
theorem dX6_commonDivisor_34 : decode cX6_commonDivisor 34 = .ok (.iload_n 2, 1) := by decide +kernel
theorem dX6_commonDivisor_35 : decode cX6_commonDivisor 35 = .ok (.ireturn, 1) := by decide +kernel
theorem dX7_init_0 : decode cX7_init 0 = .ok (.aload_n 0, 1) := by decide +kernel
theorem dX7_init_1 : decode cX7_init 1 = .ok (.invokespecial 1, 3) := by decide +kernel
theorem dX7_init_4 : decode cX7_init 4 = .ok (.aload_n 0, 1) := by decide +kernel
theorem dX7_init_5 : decode cX7_init 5 = .ok (.iconst 4, 1) := by decide +kernel
theorem dX7_init_6 : decode cX7_init 6 = .ok (.newarray .int, 2) := by decide +kernel
theorem dX7_init_8 : decode cX7_init 8 = .ok (.putfield 7, 3) := by decide +kernel
theorem dX7_init_11 : decode cX7_init 11 = .ok (.aload_n 0, 1) := by decide +kernel
theorem dX7_init_12 : decode cX7_init 12 = .ok (.bipush 16, 2) := by decide +kernel
theorem dX7_init_14 : decode cX7_init 14 = .ok (.newarray .int, 2) := by decide +kernel
theorem dX7_init_16 : decode cX7_init 16 = .ok (.putfield 13, 3) := by decide +kernel
theorem dX7_init_19 : decode cX7_init 19 = .ok (.aload_n 0, 1) := by decide +kernel
theorem dX7_init_20 : decode cX7_init 20 = .ok (.bipush 16, 2) := by decide +kernel
theorem dX7_init_22 : decode cX7_init 22 = .ok (.newarray .int, 2) := by decide +kernel
theorem dX7_init_24 : decode cX7_init 24 = .ok (.putfield 16, 3) := by decide +kernel
theorem dX7_init_27 : decode cX7_init 27 = .ok (.aload_n 0, 1) := by decide +kernel
theorem dX7_init_28 : decode cX7_init 28 = .ok (.iconst 4, 1) := by decide +kernel
theorem dX7_init_29 : decode cX7_init 29 = .ok (.newarray .int, 2) := by decide +kernel
theorem dX7_init_31 : decode cX7_init 31 = .ok (.putfield 19, 3) := by decide +kernel
theorem dX7_init_34 : decode cX7_init 34 = .ok (.aload_n 0, 1) := by decide +kernel
theorem dX7_init_35 : decode cX7_init 35 = .ok (.iconst 4, 1) := by decide +kernel
theorem dX7_init_36 : decode cX7_init 36 = .ok (.newarray .int, 2) := by decide +kernel
theorem dX7_init_38 : decode cX7_init 38 = .ok (.putfield 22, 3) := by decide +kernel
theorem dX7_init_41 : decode cX7_init 41 = .ok (.aload_n 0, 1) := by decide +kernel
theorem dX7_init_42 : decode cX7_init 42 = .ok (.bipush 40, 2) := by decide +kernel
theorem dX7_init_44 : decode cX7_init 44 = .ok (.newarray .int, 2) := by decide +kernel
theorem dX7_init_46 : decode cX7_init 46 = .ok (.putfield 25, 3) := by decide +kernel
theorem dX7_init_49 : decode cX7_init 49 = .ok (.aload_n 0, 1) := by decide +kernel
theorem dX7_init_50 : decode cX7_init 50 = .ok (.bipush 40, 2) := by decide +kernel
theorem dX7_init_52 : decode cX7_init 52 = .ok (.newarray .int, 2) := by decide +kernel
theorem dX7_init_54 : decode cX7_init 54 = .ok (.putfield 28, 3) := by decide +kernel
theorem dX7_init_57 : decode cX7_init 57 = .ok (.aload_n 0, 1) := by decide +kernel
theorem dX7_init_58 : decode cX7_init 58 = .ok (.bipush 40, 2) := by decide +kernel
theorem dX7_init_60 : decode cX7_init 60 = .ok (.newarray .int, 2) := by decide +kernel
theorem dX7_init_62 : decode cX7_init 62 = .ok (.putfield 31, 3) := by decide +kernel
theorem dX7_init_65 : decode cX7_init 65 = .ok (.aload_n 0, 1) := by decide +kernel
theorem dX7_init_66 : decode cX7_init 66 = .ok (.bipush 100, 2) := by decide +kernel
theorem dX7_init_68 : decode cX7_init 68 = .ok (.putfield 34, 3) := by decide +kernel
theorem dX7_init_71 : decode cX7_init 71 = .ok (.aload_n 0, 1) := by decide +kernel
theorem dX7_init_72 : decode cX7_init 72 = .ok (.iconst 4, 1) := by decide +kernel
theorem dX7_init_73 : decode cX7_init 73 = .ok (.newarray .int, 2) := by decide +kernel
theorem dX7_init_75 : decode cX7_init 75 = .ok (.putfield 38, 3) := by decide +kernel
theorem dX7_init_78 : decode cX7_init 78 = .ok (.aload_n 0, 1) := by decide +kernel
theorem dX7_init_79 : decode cX7_init 79 = .ok (.iconst 4, 1) := by decide +kernel
theorem dX7_init_80 : decode cX7_init 80 = .ok (.newarray .int, 2) := by decide +kernel
theorem dX7_init_82 : decode cX7_init 82 = .ok (.putfield 41, 3) := by decide +kernel
theorem dX7_init_85 : decode cX7_init 85 = .ok (.aload_n 0, 1) := by decide +kernel
theorem dX7_init_86 : decode cX7_init 86 = .ok (.iconst 4, 1) := by decide +kernel
theorem dX7_init_87 : decode cX7_init 87 = .ok (.newarray .int, 2) := by decide +kernel
theorem dX7_init_89 : decode cX7_init 89 = .ok (.putfield 44, 3) := by decide +kernel
theorem dX7_init_92 : decode cX7_init 92 = .ok (.aload_n 0, 1) := by decide +kernel
theorem dX7_init_93 : decode cX7_init 93 = .ok (.iconst 4, 1) := by decide +kernel
theorem dX7_init_94 : decode cX7_init 94 = .ok (.newarray .int, 2) := by decide +kernel
theorem dX7_init_96 : decode cX7_init 96 = .ok (.putfield 47, 3) := by decide +kernel
theorem dX7_init_99 : decode cX7_init 99 = .ok (.aload_n 0, 1) := by decide +kernel
theorem dX7_init_100 : decode cX7_init 100 = .ok (.iconst 4, 1) := by decide +kernel
theorem dX7_init_101 : decode cX7_init 101 = .ok (.newarray .int, 2) := by decide +kernel
theorem dX7_init_103 : decode cX7_init 103 = .ok (.putfield 50, 3) := by decide +kernel
theorem dX7_init_106 : decode cX7_init 106 = .ok (.aload_n 0, 1) := by decide +kernel
theorem dX7_init_107 : decode cX7_init 107 = .ok (.iconst 4, 1) := by decide +kernel
theorem dX7_init_108 : decode cX7_init 108 = .ok (.newarray .int, 2) := by decide +kernel
theorem dX7_init_110 : decode cX7_init 110 = .ok (.putfield 53, 3) := by decide +kernel
theorem dX7_init_113 : decode cX7_init 113 = .ok (.aload_n 0, 1) := by decide +kernel
theorem dX7_init_114 : decode cX7_init 114 = .ok (.iconst 4, 1) := by decide +kernel
theorem dX7_init_115 : decode cX7_init 115 = .ok (.newarray .int, 2) := by decide +kernel
theorem dX7_init_117 : decode cX7_init 117 = .ok (.putfield 56, 3) := by decide +kernel
theorem dX7_init_120 : decode cX7_init 120 = .ok (.aload_n 0, 1) := by decide +kernel
theorem dX7_init_121 : decode cX7_init 121 = .ok (.iconst 4, 1) := by decide +kernel
theorem dX7_init_122 : decode cX7_init 122 = .ok (.newarray .int, 2) := by decide +kernel
theorem dX7_init_124 : decode cX7_init 124 = .ok (.putfield 59, 3) := by decide +kernel
theorem dX7_init_127 : decode cX7_init 127 = .ok (.aload_n 0, 1) := by decide +kernel
theorem dX7_init_128 : decode cX7_init 128 = .ok (.sipush 160, 3) := by decide +kernel
theorem dX7_init_131 : decode cX7_init 131 = .ok (.newarray .int, 2) := by decide +kernel
theorem dX7_init_133 : decode cX7_init 133 = .ok (.putfield 62, 3) := by decide +kernel
theorem dX7_init_136 : decode cX7_init 136 = .ok (.aload_n 0, 1) := by decide +kernel
theorem dX7_init_137 : decode cX7_init 137 = .ok (.bipush 40, 2) := by decide +kernel
theorem dX7_init_139 : decode cX7_init 139 = .ok (.newarray .int, 2) := by decide +kernel
theorem dX7_init_141 : decode cX7_init 141 = .ok (.putfield 65, 3) := by decide +kernel
theorem dX7_init_144 : decode cX7_init 144 = .ok (.aload_n 0, 1) := by decide +kernel
theorem dX7_init_145 : decode cX7_init 145 = .ok (.bipush 8, 2) := by decide +kernel
theorem dX7_init_147 : decode cX7_init 147 = .ok (.newarray .int, 2) := by decide +kernel
theorem dX7_init_149 : decode cX7_init 149 = .ok (.putfield 68, 3) := by decide +kernel
theorem dX7_init_152 : decode cX7_init 152 = .ok (.aload_n 0, 1) := by decide +kernel
theorem dX7_init_153 : decode cX7_init 153 = .ok (.bipush 12, 2) := by decide +kernel
theorem dX7_init_155 : decode cX7_init 155 = .ok (.newarray .int, 2) := by decide +kernel
theorem dX7_init_157 : decode cX7_init 157 = .ok (.putfield 71, 3) := by decide +kernel
theorem dX7_init_160 : decode cX7_init 160 = .ok (.aload_n 0, 1) := by decide +kernel
theorem dX7_init_161 : decode cX7_init 161 = .ok (.bipush 41, 2) := by decide +kernel
theorem dX7_init_163 : decode cX7_init 163 = .ok (.newarray .int, 2) := by decide +kernel
theorem dX7_init_165 : decode cX7_init 165 = .ok (.putfield 74, 3) := by decide +kernel
theorem dX7_init_168 : decode cX7_init 168 = .ok (.aload_n 0, 1) := by decide +kernel
theorem dX7_init_169 : decode cX7_init 169 = .ok (.bipush 41, 2) := by decide +kernel
theorem dX7_init_171 : decode cX7_init 171 = .ok (.newarray .int, 2) := by decide +kernel
theorem dX7_init_173 : decode cX7_init 173 = .ok (.putfield 77, 3) := by decide +kernel
theorem dX7_init_176 : decode cX7_init 176 = .ok (.aload_n 0, 1) := by decide +kernel
theorem dX7_init_177 : decode cX7_init 177 = .ok (.bipush 41, 2) := by decide +kernel
theorem dX7_init_179 : decode cX7_init 179 = .ok (.newarray .boolean, 2) := by decide +kernel
theorem dX7_init_181 : decode cX7_init 181 = .ok (.putfield 80, 3) := by decide +kernel
theorem dX7_init_184 : decode cX7_init 184 = .ok (.aload_n 0, 1) := by decide +kernel
theorem dX7_init_185 : decode cX7_init 185 = .ok (.sipush 334, 3) := by decide +kernel
theorem dX7_init_188 : decode cX7_init 188 = .ok (.newarray .int, 2) := by decide +kernel
theorem dX7_init_190 : decode cX7_init 190 = .ok (.putfield 84, 3) := by decide +kernel
theorem dX7_init_193 : decode cX7_init 193 = .ok (.aload_n 0, 1) := by decide +kernel
theorem dX7_init_194 : decode cX7_init 194 = .ok (.iconst 2, 1) := by decide +kernel
theorem dX7_init_195 : decode cX7_init 195 = .ok (.newarray .boolean, 2) := by decide +kernel
theorem dX7_init_197 : decode cX7_init 197 = .ok (.putfield 87, 3) := by decide +kernel
theorem dX7_init_200 : decode cX7_init 200 = .ok (.iconst 0, 1) := by decide +kernel
theorem dX7_init_201 : decode cX7_init 201 = .ok (.istore_n 1, 1) := by decide +kernel
theorem dX7_init_202 : decode cX7_init 202 = .ok (.iload_n 1, 1) := by decide +kernel
theorem dX7_init_203 : decode cX7_init 203 = .ok (.iconst 4, 1) := by decide +kernel
theorem dX7_init_204 : decode cX7_init 204 = .ok (.if_icmp .ge 26, 3) := by decide +kernel
theorem dX7_init_207 : decode cX7_init 207 = .ok (.aload_n 0, 1) := by decide +kernel
theorem dX7_init_208 : decode cX7_init 208 = .ok (.getfield 13, 3) := by decide +kernel
theorem dX7_init_211 : decode cX7_init 211 = .ok (.iconst 4, 1) := by decide +kernel
theorem dX7_init_212 : decode cX7_init 212 = .ok (.iload_n 1, 1) := by decide +kernel
theorem dX7_init_213 : decode cX7_init 213 = .ok (.imul, 1) := by decide +kernel
theorem dX7_init_214 : decode cX7_init 214 = .ok (.bipush 10, 2) := by decide +kernel
theorem dX7_init_216 : decode cX7_init 216 = .ok (.iastore, 1) := by decide +kernel
theorem dX7_init_217 : decode cX7_init 217 = .ok (.aload_n 0, 1) := by decide +kernel
theorem dX7_init_218 : decode cX7_init 218 = .ok (.getfield 22, 3) := by decide +kernel
theorem dX7_init_221 : decode cX7_init 221 = .ok (.iload_n 1, 1) := by decide +kernel
theorem dX7_init_222 : decode cX7_init 222 = .ok (.iconst 1, 1) := by decide +kernel
theorem dX7_init_223 : decode cX7_init 223 = .ok (.iastore, 1) := by decide +kernel
theorem dX7_init_224 : decode cX7_init 224 = .ok (.iinc 1 1, 3) := by decide +kernel
theorem dX7_init_227 : decode cX7_init 227 = .ok (.goto (-25), 3) := by decide +kernel
theorem dX7_init_230 : decode cX7_init 230 = .ok (.return_, 1) := by decide +kernel
theorem dX7_in_0 : decode cX7_in 0 = .ok (.iload_n 0, 1) := by decide +kernel
theorem dX7_in_1 : decode cX7_in 1 = .ok (.iload_n 1, 1) := by decide +kernel
theorem dX7_in_2 : decode cX7_in 2 = .ok (.if_icmp .lt 12, 3) := by decide +kernel
theorem dX7_in_5 : decode cX7_in 5 = .ok (.iload_n 0, 1) := by decide +kernel
theorem dX7_in_6 : decode cX7_in 6 = .ok (.iload_n 2, 1) := by decide +kernel
theorem dX7_in_7 : decode cX7_in 7 = .ok (.if_icmp .gt 7, 3) := by decide +kernel
theorem dX7_in_10 : decode cX7_in 10 = .ok (.iconst 1, 1) := by decide +kernel
theorem dX7_in_11 : decode cX7_in 11 = .ok (.goto 4, 3) := by decide +kernel
theorem dX7_in_14 : decode cX7_in 14 = .ok (.iconst 0, 1) := by decide +kernel
theorem dX7_in_15 : decode cX7_in 15 = .ok (.ireturn, 1) := by decide +kernel
theorem dX7_isDisk_0 : decode cX7_isDisk 0 = .ok (.iload_n 0, 1) := by decide +kernel
theorem dX7_isDisk_1 : decode cX7_isDisk 1 = .ok (.iconst 0, 1) := by decide +kernel
theorem dX7_isDisk_2 : decode cX7_isDisk 2 = .ok (.iconst 3, 1) := by decide +kernel
theorem dX7_isDisk_3 : decode cX7_isDisk 3 = .ok (.invokestatic 90, 3) := by decide +kernel
theorem dX7_isDisk_6 : decode cX7_isDisk 6 = .ok (.ireturn, 1) := by decide +kernel
theorem dX7_isRequest_0 : decode cX7_isRequest 0 = .ok (.iload_n 1, 1) := by decide +kernel
theorem dX7_isRequest_1 : decode cX7_isRequest 1 = .ok (.iconst 0, 1) := by decide +kernel
theorem dX7_isRequest_2 : decode cX7_isRequest 2 = .ok (.aload_n 0, 1) := by decide +kernel
theorem dX7_isRequest_3 : decode cX7_isRequest 3 = .ok (.getfield 94, 3) := by decide +kernel
theorem dX7_isRequest_6 : decode cX7_isRequest 6 = .ok (.iconst 1, 1) := by decide +kernel
theorem dX7_isRequest_7 : decode cX7_isRequest 7 = .ok (.isub, 1) := by decide +kernel
theorem dX7_isRequest_8 : decode cX7_isRequest 8 = .ok (.invokestatic 90, 3) := by decide +kernel
theorem dX7_isRequest_11 : decode cX7_isRequest 11 = .ok (.ireturn, 1) := by decide +kernel
theorem dX7_power_0 : decode cX7_power 0 = .ok (.iload_n 1, 1) := by decide +kernel
theorem dX7_power_1 : decode cX7_power 1 = .ok (.invokestatic 97, 3) := by decide +kernel
theorem dX7_power_4 : decode cX7_power 4 = .ok (.ifCond .ne 5, 3) := by decide +kernel
theorem dX7_power_7 : decode cX7_power 7 = .ok (.iconst (-1), 1) := by decide +kernel
theorem dX7_power_8 : decode cX7_power 8 = .ok (.ireturn, 1) := by decide +kernel
theorem dX7_power_9 : decode cX7_power 9 = .ok (.iload_n 2, 1) := by decide +kernel
theorem dX7_power_10 : decode cX7_power 10 = .ok (.iconst 1, 1) := by decide +kernel
theorem dX7_power_11 : decode cX7_power 11 = .ok (.bipush 100, 2) := by decide +kernel
theorem dX7_power_13 : decode cX7_power 13 = .ok (.invokestatic 90, 3) := by decide +kernel
theorem dX7_power_16 : decode cX7_power 16 = .ok (.ifCond .ne 6, 3) := by decide +kernel
theorem dX7_power_19 : decode cX7_power 19 = .ok (.bipush (-2), 2) := by decide +kernel
theorem dX7_power_21 : decode cX7_power 21 = .ok (.ireturn, 1) := by decide +kernel
theorem dX7_power_22 : decode cX7_power 22 = .ok (.aload_n 0, 1) := by decide +kernel
theorem dX7_power_23 : decode cX7_power 23 = .ok (.getfield 13, 3) := by decide +kernel
theorem dX7_power_26 : decode cX7_power 26 = .ok (.iconst 4, 1) := by decide +kernel
theorem dX7_power_27 : decode cX7_power 27 = .ok (.iload_n 1, 1) := by decide +kernel
theorem dX7_power_28 : decode cX7_power 28 = .ok (.imul, 1) := by decide +kernel
theorem dX7_power_29 : decode cX7_power 29 = .ok (.iaload, 1) := by decide +kernel
theorem dX7_power_30 : decode cX7_power 30 = .ok (.istore_n 3, 1) := by decide +kernel
theorem dX7_power_31 : decode cX7_power 31 = .ok (.aload_n 0, 1) := by decide +kernel
theorem dX7_power_32 : decode cX7_power 32 = .ok (.getfield 13, 3) := by decide +kernel
theorem dX7_power_35 : decode cX7_power 35 = .ok (.iconst 4, 1) := by decide +kernel
theorem dX7_power_36 : decode cX7_power 36 = .ok (.iload_n 1, 1) := by decide +kernel
theorem dX7_power_37 : decode cX7_power 37 = .ok (.imul, 1) := by decide +kernel
theorem dX7_power_38 : decode cX7_power 38 = .ok (.iload_n 2, 1) := by decide +kernel
theorem dX7_power_39 : decode cX7_power 39 = .ok (.iastore, 1) := by decide +kernel
theorem dX7_power_40 : decode cX7_power 40 = .ok (.aload_n 0, 1) := by decide +kernel
theorem dX7_power_41 : decode cX7_power 41 = .ok (.getfield 7, 3) := by decide +kernel
theorem dX7_power_44 : decode cX7_power 44 = .ok (.iload_n 1, 1) := by decide +kernel
theorem dX7_power_45 : decode cX7_power 45 = .ok (.iconst 0, 1) := by decide +kernel
theorem dX7_power_46 : decode cX7_power 46 = .ok (.iastore, 1) := by decide +kernel
theorem dX7_power_47 : decode cX7_power 47 = .ok (.iload_n 3, 1) := by decide +kernel
theorem dX7_power_48 : decode cX7_power 48 = .ok (.ireturn, 1) := by decide +kernel
theorem dX7_deeper_0 : decode cX7_deeper 0 = .ok (.iload_n 1, 1) := by decide +kernel
theorem dX7_deeper_1 : decode cX7_deeper 1 = .ok (.invokestatic 97, 3) := by decide +kernel
theorem dX7_deeper_4 : decode cX7_deeper 4 = .ok (.ifCond .ne 5, 3) := by decide +kernel
theorem dX7_deeper_7 : decode cX7_deeper 7 = .ok (.iconst (-1), 1) := by decide +kernel
theorem dX7_deeper_8 : decode cX7_deeper 8 = .ok (.ireturn, 1) := by decide +kernel
theorem dX7_deeper_9 : decode cX7_deeper 9 = .ok (.iload_n 2, 1) := by decide +kernel
theorem dX7_deeper_10 : decode cX7_deeper 10 = .ok (.iconst 0, 1) := by decide +kernel
theorem dX7_deeper_11 : decode cX7_deeper 11 = .ok (.bipush 99, 2) := by decide +kernel
theorem dX7_deeper_13 : decode cX7_deeper 13 = .ok (.invokestatic 90, 3) := by decide +kernel
theorem dX7_deeper_16 : decode cX7_deeper 16 = .ok (.ifCond .eq 14, 3) := by decide +kernel
theorem dX7_deeper_19 : decode cX7_deeper 19 = .ok (.iload_n 3, 1) := by decide +kernel
theorem dX7_deeper_20 : decode cX7_deeper 20 = .ok (.iconst 1, 1) := by decide +kernel
theorem dX7_deeper_21 : decode cX7_deeper 21 = .ok (.sipush 999, 3) := by decide +kernel
theorem dX7_deeper_24 : decode cX7_deeper 24 = .ok (.invokestatic 90, 3) := by decide +kernel
theorem dX7_deeper_27 : decode cX7_deeper 27 = .ok (.ifCond .ne 6, 3) := by decide +kernel
theorem dX7_deeper_30 : decode cX7_deeper 30 = .ok (.bipush (-2), 2) := by decide +kernel
theorem dX7_deeper_32 : decode cX7_deeper 32 = .ok (.ireturn, 1) := by decide +kernel
theorem dX7_deeper_33 : decode cX7_deeper 33 = .ok (.iconst 4, 1) := by decide +kernel
theorem dX7_deeper_34 : decode cX7_deeper 34 = .ok (.iload_n 1, 1) := by decide +kernel
theorem dX7_deeper_35 : decode cX7_deeper 35 = .ok (.imul, 1) := by decide +kernel
theorem dX7_deeper_36 : decode cX7_deeper 36 = .ok (.aload_n 0, 1) := by decide +kernel
theorem dX7_deeper_37 : decode cX7_deeper 37 = .ok (.getfield 7, 3) := by decide +kernel
theorem dX7_deeper_40 : decode cX7_deeper 40 = .ok (.iload_n 1, 1) := by decide +kernel
theorem dX7_deeper_41 : decode cX7_deeper 41 = .ok (.iaload, 1) := by decide +kernel
theorem dX7_deeper_42 : decode cX7_deeper 42 = .ok (.iadd, 1) := by decide +kernel
theorem dX7_deeper_43 : decode cX7_deeper 43 = .ok (.istore 4, 2) := by decide +kernel
theorem dX7_deeper_45 : decode cX7_deeper 45 = .ok (.iload_n 2, 1) := by decide +kernel
theorem dX7_deeper_46 : decode cX7_deeper 46 = .ok (.aload_n 0, 1) := by decide +kernel
theorem dX7_deeper_47 : decode cX7_deeper 47 = .ok (.getfield 13, 3) := by decide +kernel
theorem dX7_deeper_50 : decode cX7_deeper 50 = .ok (.iload 4, 2) := by decide +kernel
theorem dX7_deeper_52 : decode cX7_deeper 52 = .ok (.iaload, 1) := by decide +kernel
theorem dX7_deeper_53 : decode cX7_deeper 53 = .ok (.if_icmp .ge 18, 3) := by decide +kernel
theorem dX7_deeper_56 : decode cX7_deeper 56 = .ok (.iload_n 3, 1) := by decide +kernel
theorem dX7_deeper_57 : decode cX7_deeper 57 = .ok (.aload_n 0, 1) := by decide +kernel
theorem dX7_deeper_58 : decode cX7_deeper 58 = .ok (.iload_n 1, 1) := by decide +kernel
theorem dX7_deeper_59 : decode cX7_deeper 59 = .ok (.aload_n 0, 1) := by decide +kernel
theorem dX7_deeper_60 : decode cX7_deeper 60 = .ok (.getfield 7, 3) := by decide +kernel
theorem dX7_deeper_63 : decode cX7_deeper 63 = .ok (.iload_n 1, 1) := by decide +kernel
theorem dX7_deeper_64 : decode cX7_deeper 64 = .ok (.iaload, 1) := by decide +kernel
theorem dX7_deeper_65 : decode cX7_deeper 65 = .ok (.invokevirtual 101, 3) := by decide +kernel
theorem dX7_deeper_68 : decode cX7_deeper 68 = .ok (.if_icmp .gt 6, 3) := by decide +kernel
theorem dX7_deeper_71 : decode cX7_deeper 71 = .ok (.bipush (-5), 2) := by decide +kernel
theorem dX7_deeper_73 : decode cX7_deeper 73 = .ok (.ireturn, 1) := by decide +kernel
theorem dX7_deeper_74 : decode cX7_deeper 74 = .ok (.aload_n 0, 1) := by decide +kernel
theorem dX7_deeper_75 : decode cX7_deeper 75 = .ok (.getfield 7, 3) := by decide +kernel
theorem dX7_deeper_78 : decode cX7_deeper 78 = .ok (.iload_n 1, 1) := by decide +kernel
theorem dX7_deeper_79 : decode cX7_deeper 79 = .ok (.iaload, 1) := by decide +kernel
theorem dX7_deeper_80 : decode cX7_deeper 80 = .ok (.iconst 3, 1) := by decide +kernel
theorem dX7_deeper_81 : decode cX7_deeper 81 = .ok (.if_icmp .ne 6, 3) := by decide +kernel
theorem dX7_deeper_84 : decode cX7_deeper 84 = .ok (.bipush (-4), 2) := by decide +kernel
theorem dX7_deeper_86 : decode cX7_deeper 86 = .ok (.ireturn, 1) := by decide +kernel
theorem dX7_deeper_87 : decode cX7_deeper 87 = .ok (.aload_n 0, 1) := by decide +kernel
theorem dX7_deeper_88 : decode cX7_deeper 88 = .ok (.getfield 13, 3) := by decide +kernel
theorem dX7_deeper_91 : decode cX7_deeper 91 = .ok (.iload 4, 2) := by decide +kernel
theorem dX7_deeper_93 : decode cX7_deeper 93 = .ok (.iconst 1, 1) := by decide +kernel
theorem dX7_deeper_94 : decode cX7_deeper 94 = .ok (.iadd, 1) := by decide +kernel
theorem dX7_deeper_95 : decode cX7_deeper 95 = .ok (.iload_n 2, 1) := by decide +kernel
theorem dX7_deeper_96 : decode cX7_deeper 96 = .ok (.iastore, 1) := by decide +kernel
theorem dX7_deeper_97 : decode cX7_deeper 97 = .ok (.aload_n 0, 1) := by decide +kernel
theorem dX7_deeper_98 : decode cX7_deeper 98 = .ok (.getfield 16, 3) := by decide +kernel
theorem dX7_deeper_101 : decode cX7_deeper 101 = .ok (.iload 4, 2) := by decide +kernel
theorem dX7_deeper_103 : decode cX7_deeper 103 = .ok (.iconst 1, 1) := by decide +kernel
theorem dX7_deeper_104 : decode cX7_deeper 104 = .ok (.iadd, 1) := by decide +kernel
theorem dX7_deeper_105 : decode cX7_deeper 105 = .ok (.iload_n 3, 1) := by decide +kernel
theorem dX7_deeper_106 : decode cX7_deeper 106 = .ok (.iastore, 1) := by decide +kernel
theorem dX7_deeper_107 : decode cX7_deeper 107 = .ok (.aload_n 0, 1) := by decide +kernel
theorem dX7_deeper_108 : decode cX7_deeper 108 = .ok (.getfield 7, 3) := by decide +kernel
theorem dX7_deeper_111 : decode cX7_deeper 111 = .ok (.iload_n 1, 1) := by decide +kernel
theorem dX7_deeper_112 : decode cX7_deeper 112 = .ok (.dup2, 1) := by decide +kernel
theorem dX7_deeper_113 : decode cX7_deeper 113 = .ok (.iaload, 1) := by decide +kernel
theorem dX7_deeper_114 : decode cX7_deeper 114 = .ok (.iconst 1, 1) := by decide +kernel
theorem dX7_deeper_115 : decode cX7_deeper 115 = .ok (.iadd, 1) := by decide +kernel
theorem dX7_deeper_116 : decode cX7_deeper 116 = .ok (.iastore, 1) := by decide +kernel
theorem dX7_deeper_117 : decode cX7_deeper 117 = .ok (.aload_n 0, 1) := by decide +kernel
theorem dX7_deeper_118 : decode cX7_deeper 118 = .ok (.getfield 7, 3) := by decide +kernel
theorem dX7_deeper_121 : decode cX7_deeper 121 = .ok (.iload_n 1, 1) := by decide +kernel
theorem dX7_deeper_122 : decode cX7_deeper 122 = .ok (.iaload, 1) := by decide +kernel
theorem dX7_deeper_123 : decode cX7_deeper 123 = .ok (.ireturn, 1) := by decide +kernel
theorem dX7_wakeOf_0 : decode cX7_wakeOf 0 = .ok (.iload_n 2, 1) := by decide +kernel
theorem dX7_wakeOf_1 : decode cX7_wakeOf 1 = .ok (.ifCond .ne 7, 3) := by decide +kernel
theorem dX7_wakeOf_4 : decode cX7_wakeOf 4 = .ok (.iconst 0, 1) := by decide +kernel
theorem dX7_wakeOf_5 : decode cX7_wakeOf 5 = .ok (.goto 13, 3) := by decide +kernel
theorem dX7_wakeOf_8 : decode cX7_wakeOf 8 = .ok (.aload_n 0, 1) := by decide +kernel
theorem dX7_wakeOf_9 : decode cX7_wakeOf 9 = .ok (.getfield 16, 3) := by decide +kernel
theorem dX7_wakeOf_12 : decode cX7_wakeOf 12 = .ok (.iconst 4, 1) := by decide +kernel
theorem dX7_wakeOf_13 : decode cX7_wakeOf 13 = .ok (.iload_n 1, 1) := by decide +kernel
theorem dX7_wakeOf_14 : decode cX7_wakeOf 14 = .ok (.imul, 1) := by decide +kernel
theorem dX7_wakeOf_15 : decode cX7_wakeOf 15 = .ok (.iload_n 2, 1) := by decide +kernel
theorem dX7_wakeOf_16 : decode cX7_wakeOf 16 = .ok (.iadd, 1) := by decide +kernel
theorem dX7_wakeOf_17 : decode cX7_wakeOf 17 = .ok (.iaload, 1) := by decide +kernel
theorem dX7_wakeOf_18 : decode cX7_wakeOf 18 = .ok (.ireturn, 1) := by decide +kernel
theorem dX7_level_0 : decode cX7_level 0 = .ok (.iload_n 1, 1) := by decide +kernel
theorem dX7_level_1 : decode cX7_level 1 = .ok (.invokestatic 97, 3) := by decide +kernel
theorem dX7_level_4 : decode cX7_level 4 = .ok (.ifCond .eq 17, 3) := by decide +kernel
theorem dX7_level_7 : decode cX7_level 7 = .ok (.iload_n 2, 1) := by decide +kernel
theorem dX7_level_8 : decode cX7_level 8 = .ok (.iconst 0, 1) := by decide +kernel
theorem dX7_level_9 : decode cX7_level 9 = .ok (.aload_n 0, 1) := by decide +kernel
theorem dX7_level_10 : decode cX7_level 10 = .ok (.getfield 7, 3) := by decide +kernel
theorem dX7_level_13 : decode cX7_level 13 = .ok (.iload_n 1, 1) := by decide +kernel
theorem dX7_level_14 : decode cX7_level 14 = .ok (.iaload, 1) := by decide +kernel
theorem dX7_level_15 : decode cX7_level 15 = .ok (.invokestatic 90, 3) := by decide +kernel
theorem dX7_level_18 : decode cX7_level 18 = .ok (.ifCond .ne 5, 3) := by decide +kernel
theorem dX7_level_21 : decode cX7_level 21 = .ok (.iconst (-1), 1) := by decide +kernel
theorem dX7_level_22 : decode cX7_level 22 = .ok (.ireturn, 1) := by decide +kernel
theorem dX7_level_23 : decode cX7_level 23 = .ok (.iload_n 3, 1) := by decide +kernel
theorem dX7_level_24 : decode cX7_level 24 = .ok (.iconst 0, 1) := by decide +kernel
theorem dX7_level_25 : decode cX7_level 25 = .ok (.iconst 1, 1) := by decide +kernel
theorem dX7_level_26 : decode cX7_level 26 = .ok (.invokestatic 90, 3) := by decide +kernel
theorem dX7_level_29 : decode cX7_level 29 = .ok (.ifCond .ne 6, 3) := by decide +kernel
theorem dX7_level_32 : decode cX7_level 32 = .ok (.bipush (-2), 2) := by decide +kernel
theorem dX7_level_34 : decode cX7_level 34 = .ok (.ireturn, 1) := by decide +kernel
theorem dX7_level_35 : decode cX7_level 35 = .ok (.iload_n 3, 1) := by decide +kernel
theorem dX7_level_36 : decode cX7_level 36 = .ok (.ifCond .ne 16, 3) := by decide +kernel
theorem dX7_level_39 : decode cX7_level 39 = .ok (.aload_n 0, 1) := by decide +kernel
theorem dX7_level_40 : decode cX7_level 40 = .ok (.getfield 13, 3) := by decide +kernel
theorem dX7_level_43 : decode cX7_level 43 = .ok (.iconst 4, 1) := by decide +kernel
theorem dX7_level_44 : decode cX7_level 44 = .ok (.iload_n 1, 1) := by decide +kernel
theorem dX7_level_45 : decode cX7_level 45 = .ok (.imul, 1) := by decide +kernel
theorem dX7_level_46 : decode cX7_level 46 = .ok (.iload_n 2, 1) := by decide +kernel
theorem dX7_level_47 : decode cX7_level 47 = .ok (.iadd, 1) := by decide +kernel
theorem dX7_level_48 : decode cX7_level 48 = .ok (.iaload, 1) := by decide +kernel
theorem dX7_level_49 : decode cX7_level 49 = .ok (.goto 9, 3) := by decide +kernel
theorem dX7_level_52 : decode cX7_level 52 = .ok (.aload_n 0, 1) := by decide +kernel
theorem dX7_level_53 : decode cX7_level 53 = .ok (.iload_n 1, 1) := by decide +kernel
theorem dX7_level_54 : decode cX7_level 54 = .ok (.iload_n 2, 1) := by decide +kernel
theorem dX7_level_55 : decode cX7_level 55 = .ok (.invokevirtual 101, 3) := by decide +kernel
theorem dX7_level_58 : decode cX7_level 58 = .ok (.ireturn, 1) := by decide +kernel
theorem dX7_policy_0 : decode cX7_policy 0 = .ok (.iload_n 1, 1) := by decide +kernel
theorem dX7_policy_1 : decode cX7_policy 1 = .ok (.invokestatic 97, 3) := by decide +kernel
theorem dX7_policy_4 : decode cX7_policy 4 = .ok (.ifCond .ne 5, 3) := by decide +kernel
theorem dX7_policy_7 : decode cX7_policy 7 = .ok (.iconst (-1), 1) := by decide +kernel
theorem dX7_policy_8 : decode cX7_policy 8 = .ok (.ireturn, 1) := by decide +kernel
theorem dX7_policy_9 : decode cX7_policy 9 = .ok (.iload_n 2, 1) := by decide +kernel
theorem dX7_policy_10 : decode cX7_policy 10 = .ok (.iconst 0, 1) := by decide +kernel
theorem dX7_policy_11 : decode cX7_policy 11 = .ok (.iconst 3, 1) := by decide +kernel
theorem dX7_policy_12 : decode cX7_policy 12 = .ok (.invokestatic 90, 3) := by decide +kernel
theorem dX7_policy_15 : decode cX7_policy 15 = .ok (.ifCond .eq 33, 3) := by decide +kernel
theorem dX7_policy_18 : decode cX7_policy 18 = .ok (.iload_n 2, 1) := by decide +kernel
theorem dX7_policy_19 : decode cX7_policy 19 = .ok (.iconst 1, 1) := by decide +kernel
theorem dX7_policy_20 : decode cX7_policy 20 = .ok (.if_icmp .ne 14, 3) := by decide +kernel
theorem dX7_policy_23 : decode cX7_policy 23 = .ok (.iload_n 3, 1) := by decide +kernel
theorem dX7_policy_24 : decode cX7_policy 24 = .ok (.iconst 1, 1) := by decide +kernel
theorem dX7_policy_25 : decode cX7_policy 25 = .ok (.sipush 500, 3) := by decide +kernel
theorem dX7_policy_28 : decode cX7_policy 28 = .ok (.invokestatic 90, 3) := by decide +kernel
theorem dX7_policy_31 : decode cX7_policy 31 = .ok (.ifCond .eq 17, 3) := by decide +kernel
theorem dX7_policy_34 : decode cX7_policy 34 = .ok (.iload_n 2, 1) := by decide +kernel
theorem dX7_policy_35 : decode cX7_policy 35 = .ok (.iconst 3, 1) := by decide +kernel
theorem dX7_policy_36 : decode cX7_policy 36 = .ok (.if_icmp .ne 15, 3) := by decide +kernel
theorem dX7_policy_39 : decode cX7_policy 39 = .ok (.iload_n 3, 1) := by decide +kernel
theorem dX7_policy_40 : decode cX7_policy 40 = .ok (.iconst 1, 1) := by decide +kernel
theorem dX7_policy_41 : decode cX7_policy 41 = .ok (.iconst 4, 1) := by decide +kernel
theorem dX7_policy_42 : decode cX7_policy 42 = .ok (.invokestatic 90, 3) := by decide +kernel
theorem dX7_policy_45 : decode cX7_policy 45 = .ok (.ifCond .ne 6, 3) := by decide +kernel
theorem dX7_policy_48 : decode cX7_policy 48 = .ok (.bipush (-2), 2) := by decide +kernel
theorem dX7_policy_50 : decode cX7_policy 50 = .ok (.ireturn, 1) := by decide +kernel
theorem dX7_policy_51 : decode cX7_policy 51 = .ok (.aload_n 0, 1) := by decide +kernel
theorem dX7_policy_52 : decode cX7_policy 52 = .ok (.getfield 19, 3) := by decide +kernel
theorem dX7_policy_55 : decode cX7_policy 55 = .ok (.iload_n 1, 1) := by decide +kernel
theorem dX7_policy_56 : decode cX7_policy 56 = .ok (.iaload, 1) := by decide +kernel
theorem dX7_policy_57 : decode cX7_policy 57 = .ok (.istore 4, 2) := by decide +kernel
theorem dX7_policy_59 : decode cX7_policy 59 = .ok (.aload_n 0, 1) := by decide +kernel
theorem dX7_policy_60 : decode cX7_policy 60 = .ok (.getfield 19, 3) := by decide +kernel
theorem dX7_policy_63 : decode cX7_policy 63 = .ok (.iload_n 1, 1) := by decide +kernel
theorem dX7_policy_64 : decode cX7_policy 64 = .ok (.iload_n 2, 1) := by decide +kernel
theorem dX7_policy_65 : decode cX7_policy 65 = .ok (.iastore, 1) := by decide +kernel
theorem dX7_policy_66 : decode cX7_policy 66 = .ok (.aload_n 0, 1) := by decide +kernel
theorem dX7_policy_67 : decode cX7_policy 67 = .ok (.getfield 22, 3) := by decide +kernel
theorem dX7_policy_70 : decode cX7_policy 70 = .ok (.iload_n 1, 1) := by decide +kernel
theorem dX7_policy_71 : decode cX7_policy 71 = .ok (.iload_n 2, 1) := by decide +kernel
theorem dX7_policy_72 : decode cX7_policy 72 = .ok (.iconst 2, 1) := by decide +kernel
theorem dX7_policy_73 : decode cX7_policy 73 = .ok (.irem, 1) := by decide +kernel
theorem dX7_policy_74 : decode cX7_policy 74 = .ok (.iconst 1, 1) := by decide +kernel
theorem dX7_policy_75 : decode cX7_policy 75 = .ok (.if_icmp .ne 7, 3) := by decide +kernel
theorem dX7_policy_78 : decode cX7_policy 78 = .ok (.iload_n 3, 1) := by decide +kernel
theorem dX7_policy_79 : decode cX7_policy 79 = .ok (.goto 4, 3) := by decide +kernel
theorem dX7_policy_82 : decode cX7_policy 82 = .ok (.iconst 1, 1) := by decide +kernel
theorem dX7_policy_83 : decode cX7_policy 83 = .ok (.iastore, 1) := by decide +kernel
theorem dX7_policy_84 : decode cX7_policy 84 = .ok (.iload 4, 2) := by decide +kernel
theorem dX7_policy_86 : decode cX7_policy 86 = .ok (.ireturn, 1) := by decide +kernel
theorem dX7_request_0 : decode cX7_request 0 = .ok (.iload_n 2, 1) := by decide +kernel
theorem dX7_request_1 : decode cX7_request 1 = .ok (.invokestatic 97, 3) := by decide +kernel
theorem dX7_request_4 : decode cX7_request 4 = .ok (.ifCond .ne 5, 3) := by decide +kernel
theorem dX7_request_7 : decode cX7_request 7 = .ok (.iconst (-1), 1) := by decide +kernel
theorem dX7_request_8 : decode cX7_request 8 = .ok (.ireturn, 1) := by decide +kernel
theorem dX7_request_9 : decode cX7_request 9 = .ok (.iload_n 1, 1) := by decide +kernel
theorem dX7_request_10 : decode cX7_request 10 = .ok (.iconst 0, 1) := by decide +kernel
theorem dX7_request_11 : decode cX7_request 11 = .ok (.sipush 999, 3) := by decide +kernel
theorem dX7_request_14 : decode cX7_request 14 = .ok (.invokestatic 90, 3) := by decide +kernel
theorem dX7_request_17 : decode cX7_request 17 = .ok (.ifCond .eq 12, 3) := by decide +kernel
theorem dX7_request_20 : decode cX7_request 20 = .ok (.iload_n 3, 1) := by decide +kernel
theorem dX7_request_21 : decode cX7_request 21 = .ok (.iconst 0, 1) := by decide +kernel
theorem dX7_request_22 : decode cX7_request 22 = .ok (.iconst 1, 1) := by decide +kernel
theorem dX7_request_23 : decode cX7_request 23 = .ok (.invokestatic 90, 3) := by decide +kernel
theorem dX7_request_26 : decode cX7_request 26 = .ok (.ifCond .ne 6, 3) := by decide +kernel
theorem dX7_request_29 : decode cX7_request 29 = .ok (.bipush (-2), 2) := by decide +kernel
theorem dX7_request_31 : decode cX7_request 31 = .ok (.ireturn, 1) := by decide +kernel
theorem dX7_request_32 : decode cX7_request 32 = .ok (.aload_n 0, 1) := by decide +kernel
theorem dX7_request_33 : decode cX7_request 33 = .ok (.getfield 94, 3) := by decide +kernel
theorem dX7_request_36 : decode cX7_request 36 = .ok (.bipush 40, 2) := by decide +kernel
theorem dX7_request_38 : decode cX7_request 38 = .ok (.if_icmp .ne 6, 3) := by decide +kernel
theorem dX7_request_41 : decode cX7_request 41 = .ok (.bipush (-4), 2) := by decide +kernel
theorem dX7_request_43 : decode cX7_request 43 = .ok (.ireturn, 1) := by decide +kernel
theorem dX7_request_44 : decode cX7_request 44 = .ok (.aload_n 0, 1) := by decide +kernel
theorem dX7_request_45 : decode cX7_request 45 = .ok (.getfield 25, 3) := by decide +kernel
theorem dX7_request_48 : decode cX7_request 48 = .ok (.aload_n 0, 1) := by decide +kernel
theorem dX7_request_49 : decode cX7_request 49 = .ok (.getfield 94, 3) := by decide +kernel
theorem dX7_request_52 : decode cX7_request 52 = .ok (.iload_n 1, 1) := by decide +kernel
theorem dX7_request_53 : decode cX7_request 53 = .ok (.iastore, 1) := by decide +kernel
theorem dX7_request_54 : decode cX7_request 54 = .ok (.aload_n 0, 1) := by decide +kernel
theorem dX7_request_55 : decode cX7_request 55 = .ok (.getfield 28, 3) := by decide +kernel
theorem dX7_request_58 : decode cX7_request 58 = .ok (.aload_n 0, 1) := by decide +kernel
theorem dX7_request_59 : decode cX7_request 59 = .ok (.getfield 94, 3) := by decide +kernel
theorem dX7_request_62 : decode cX7_request 62 = .ok (.iload_n 2, 1) := by decide +kernel
theorem dX7_request_63 : decode cX7_request 63 = .ok (.iastore, 1) := by decide +kernel
theorem dX7_request_64 : decode cX7_request 64 = .ok (.aload_n 0, 1) := by decide +kernel
theorem dX7_request_65 : decode cX7_request 65 = .ok (.getfield 31, 3) := by decide +kernel
theorem dX7_request_68 : decode cX7_request 68 = .ok (.aload_n 0, 1) := by decide +kernel
theorem dX7_request_69 : decode cX7_request 69 = .ok (.getfield 94, 3) := by decide +kernel
theorem dX7_request_72 : decode cX7_request 72 = .ok (.iload_n 3, 1) := by decide +kernel
theorem dX7_request_73 : decode cX7_request 73 = .ok (.iastore, 1) := by decide +kernel
theorem dX7_request_74 : decode cX7_request 74 = .ok (.aload_n 0, 1) := by decide +kernel
theorem dX7_request_75 : decode cX7_request 75 = .ok (.dup, 1) := by decide +kernel
theorem dX7_request_76 : decode cX7_request 76 = .ok (.getfield 94, 3) := by decide +kernel
theorem dX7_request_79 : decode cX7_request 79 = .ok (.iconst 1, 1) := by decide +kernel
theorem dX7_request_80 : decode cX7_request 80 = .ok (.iadd, 1) := by decide +kernel
theorem dX7_request_81 : decode cX7_request 81 = .ok (.putfield 94, 3) := by decide +kernel
theorem dX7_request_84 : decode cX7_request 84 = .ok (.aload_n 0, 1) := by decide +kernel
theorem dX7_request_85 : decode cX7_request 85 = .ok (.getfield 94, 3) := by decide +kernel
theorem dX7_request_88 : decode cX7_request 88 = .ok (.iconst 1, 1) := by decide +kernel
theorem dX7_request_89 : decode cX7_request 89 = .ok (.isub, 1) := by decide +kernel
theorem dX7_request_90 : decode cX7_request 90 = .ok (.ireturn, 1) := by decide +kernel
theorem dX7_forget_0 : decode cX7_forget 0 = .ok (.aload_n 0, 1) := by decide +kernel
theorem dX7_forget_1 : decode cX7_forget 1 = .ok (.iload_n 1, 1) := by decide +kernel
theorem dX7_forget_2 : decode cX7_forget 2 = .ok (.invokevirtual 105, 3) := by decide +kernel
theorem dX7_forget_5 : decode cX7_forget 5 = .ok (.ifCond .ne 5, 3) := by decide +kernel
theorem dX7_forget_8 : decode cX7_forget 8 = .ok (.iconst (-1), 1) := by decide +kernel
theorem dX7_forget_9 : decode cX7_forget 9 = .ok (.ireturn, 1) := by decide +kernel
theorem dX7_forget_10 : decode cX7_forget 10 = .ok (.aload_n 0, 1) := by decide +kernel
theorem dX7_forget_11 : decode cX7_forget 11 = .ok (.dup, 1) := by decide +kernel
theorem dX7_forget_12 : decode cX7_forget 12 = .ok (.getfield 94, 3) := by decide +kernel
theorem dX7_forget_15 : decode cX7_forget 15 = .ok (.iconst 1, 1) := by decide +kernel
theorem dX7_forget_16 : decode cX7_forget 16 = .ok (.isub, 1) := by decide +kernel
theorem dX7_forget_17 : decode cX7_forget 17 = .ok (.putfield 94, 3) := by decide +kernel
theorem dX7_forget_20 : decode cX7_forget 20 = .ok (.iload_n 1, 1) := by decide +kernel
theorem dX7_forget_21 : decode cX7_forget 21 = .ok (.istore_n 2, 1) := by decide +kernel
theorem dX7_forget_22 : decode cX7_forget 22 = .ok (.iload_n 2, 1) := by decide +kernel
theorem dX7_forget_23 : decode cX7_forget 23 = .ok (.aload_n 0, 1) := by decide +kernel
theorem dX7_forget_24 : decode cX7_forget 24 = .ok (.getfield 94, 3) := by decide +kernel
theorem dX7_forget_27 : decode cX7_forget 27 = .ok (.if_icmp .ge 51, 3) := by decide +kernel
theorem dX7_forget_30 : decode cX7_forget 30 = .ok (.aload_n 0, 1) := by decide +kernel
theorem dX7_forget_31 : decode cX7_forget 31 = .ok (.getfield 25, 3) := by decide +kernel
theorem dX7_forget_34 : decode cX7_forget 34 = .ok (.iload_n 2, 1) := by decide +kernel
theorem dX7_forget_35 : decode cX7_forget 35 = .ok (.aload_n 0, 1) := by decide +kernel
theorem dX7_forget_36 : decode cX7_forget 36 = .ok (.getfield 25, 3) := by decide +kernel
theorem dX7_forget_39 : decode cX7_forget 39 = .ok (.iload_n 2, 1) := by decide +kernel
theorem dX7_forget_40 : decode cX7_forget 40 = .ok (.iconst 1, 1) := by decide +kernel
theorem dX7_forget_41 : decode cX7_forget 41 = .ok (.iadd, 1) := by decide +kernel
theorem dX7_forget_42 : decode cX7_forget 42 = .ok (.iaload, 1) := by decide +kernel
theorem dX7_forget_43 : decode cX7_forget 43 = .ok (.iastore, 1) := by decide +kernel
theorem dX7_forget_44 : decode cX7_forget 44 = .ok (.aload_n 0, 1) := by decide +kernel
theorem dX7_forget_45 : decode cX7_forget 45 = .ok (.getfield 28, 3) := by decide +kernel
theorem dX7_forget_48 : decode cX7_forget 48 = .ok (.iload_n 2, 1) := by decide +kernel
theorem dX7_forget_49 : decode cX7_forget 49 = .ok (.aload_n 0, 1) := by decide +kernel
theorem dX7_forget_50 : decode cX7_forget 50 = .ok (.getfield 28, 3) := by decide +kernel
theorem dX7_forget_53 : decode cX7_forget 53 = .ok (.iload_n 2, 1) := by decide +kernel
theorem dX7_forget_54 : decode cX7_forget 54 = .ok (.iconst 1, 1) := by decide +kernel
theorem dX7_forget_55 : decode cX7_forget 55 = .ok (.iadd, 1) := by decide +kernel
theorem dX7_forget_56 : decode cX7_forget 56 = .ok (.iaload, 1) := by decide +kernel
theorem dX7_forget_57 : decode cX7_forget 57 = .ok (.iastore, 1) := by decide +kernel
theorem dX7_forget_58 : decode cX7_forget 58 = .ok (.aload_n 0, 1) := by decide +kernel
theorem dX7_forget_59 : decode cX7_forget 59 = .ok (.getfield 31, 3) := by decide +kernel
theorem dX7_forget_62 : decode cX7_forget 62 = .ok (.iload_n 2, 1) := by decide +kernel
theorem dX7_forget_63 : decode cX7_forget 63 = .ok (.aload_n 0, 1) := by decide +kernel
theorem dX7_forget_64 : decode cX7_forget 64 = .ok (.getfield 31, 3) := by decide +kernel
theorem dX7_forget_67 : decode cX7_forget 67 = .ok (.iload_n 2, 1) := by decide +kernel
theorem dX7_forget_68 : decode cX7_forget 68 = .ok (.iconst 1, 1) := by decide +kernel
theorem dX7_forget_69 : decode cX7_forget 69 = .ok (.iadd, 1) := by decide +kernel
theorem dX7_forget_70 : decode cX7_forget 70 = .ok (.iaload, 1) := by decide +kernel
theorem dX7_forget_71 : decode cX7_forget 71 = .ok (.iastore, 1) := by decide +kernel
theorem dX7_forget_72 : decode cX7_forget 72 = .ok (.iinc 2 1, 3) := by decide +kernel
theorem dX7_forget_75 : decode cX7_forget 75 = .ok (.goto (-53), 3) := by decide +kernel
theorem dX7_forget_78 : decode cX7_forget 78 = .ok (.aload_n 0, 1) := by decide +kernel
theorem dX7_forget_79 : decode cX7_forget 79 = .ok (.getfield 94, 3) := by decide +kernel
theorem dX7_forget_82 : decode cX7_forget 82 = .ok (.ireturn, 1) := by decide +kernel
theorem dX7_told_0 : decode cX7_told 0 = .ok (.aload_n 0, 1) := by decide +kernel
theorem dX7_told_1 : decode cX7_told 1 = .ok (.iload_n 1, 1) := by decide +kernel
theorem dX7_told_2 : decode cX7_told 2 = .ok (.invokevirtual 105, 3) := by decide +kernel
theorem dX7_told_5 : decode cX7_told 5 = .ok (.ifCond .ne 5, 3) := by decide +kernel
theorem dX7_told_8 : decode cX7_told 8 = .ok (.iconst (-1), 1) := by decide +kernel
theorem dX7_told_9 : decode cX7_told 9 = .ok (.ireturn, 1) := by decide +kernel
theorem dX7_told_10 : decode cX7_told 10 = .ok (.iload_n 2, 1) := by decide +kernel
theorem dX7_told_11 : decode cX7_told 11 = .ok (.ifCond .ne 12, 3) := by decide +kernel
theorem dX7_told_14 : decode cX7_told 14 = .ok (.aload_n 0, 1) := by decide +kernel
theorem dX7_told_15 : decode cX7_told 15 = .ok (.getfield 25, 3) := by decide +kernel
theorem dX7_told_18 : decode cX7_told 18 = .ok (.iload_n 1, 1) := by decide +kernel
theorem dX7_told_19 : decode cX7_told 19 = .ok (.iaload, 1) := by decide +kernel
theorem dX7_told_20 : decode cX7_told 20 = .ok (.goto 33, 3) := by decide +kernel
theorem dX7_told_23 : decode cX7_told 23 = .ok (.iload_n 2, 1) := by decide +kernel
theorem dX7_told_24 : decode cX7_told 24 = .ok (.iconst 1, 1) := by decide +kernel
theorem dX7_told_25 : decode cX7_told 25 = .ok (.if_icmp .ne 12, 3) := by decide +kernel
theorem dX7_told_28 : decode cX7_told 28 = .ok (.aload_n 0, 1) := by decide +kernel
theorem dX7_told_29 : decode cX7_told 29 = .ok (.getfield 28, 3) := by decide +kernel
theorem dX7_told_32 : decode cX7_told 32 = .ok (.iload_n 1, 1) := by decide +kernel
theorem dX7_told_33 : decode cX7_told 33 = .ok (.iaload, 1) := by decide +kernel
theorem dX7_told_34 : decode cX7_told 34 = .ok (.goto 19, 3) := by decide +kernel
theorem dX7_told_37 : decode cX7_told 37 = .ok (.iload_n 2, 1) := by decide +kernel
theorem dX7_told_38 : decode cX7_told 38 = .ok (.iconst 2, 1) := by decide +kernel
theorem dX7_told_39 : decode cX7_told 39 = .ok (.if_icmp .ne 12, 3) := by decide +kernel
theorem dX7_told_42 : decode cX7_told 42 = .ok (.aload_n 0, 1) := by decide +kernel
theorem dX7_told_43 : decode cX7_told 43 = .ok (.getfield 31, 3) := by decide +kernel
theorem dX7_told_46 : decode cX7_told 46 = .ok (.iload_n 1, 1) := by decide +kernel
theorem dX7_told_47 : decode cX7_told 47 = .ok (.iaload, 1) := by decide +kernel
theorem dX7_told_48 : decode cX7_told 48 = .ok (.goto 5, 3) := by decide +kernel
theorem dX7_told_51 : decode cX7_told 51 = .ok (.bipush (-2), 2) := by decide +kernel
theorem dX7_told_53 : decode cX7_told 53 = .ok (.ireturn, 1) := by decide +kernel
theorem dX7_end_0 : decode cX7_end 0 = .ok (.iload_n 1, 1) := by decide +kernel
theorem dX7_end_1 : decode cX7_end 1 = .ok (.iconst 1, 1) := by decide +kernel
theorem dX7_end_2 : decode cX7_end 2 = .ok (.sipush 1000, 3) := by decide +kernel
theorem dX7_end_5 : decode cX7_end 5 = .ok (.invokestatic 90, 3) := by decide +kernel
theorem dX7_end_8 : decode cX7_end 8 = .ok (.ifCond .ne 6, 3) := by decide +kernel
theorem dX7_end_11 : decode cX7_end 11 = .ok (.bipush (-2), 2) := by decide +kernel
theorem dX7_end_13 : decode cX7_end 13 = .ok (.ireturn, 1) := by decide +kernel
theorem dX7_end_14 : decode cX7_end 14 = .ok (.aload_n 0, 1) := by decide +kernel
theorem dX7_end_15 : decode cX7_end 15 = .ok (.getfield 34, 3) := by decide +kernel
theorem dX7_end_18 : decode cX7_end 18 = .ok (.istore_n 2, 1) := by decide +kernel
theorem dX7_end_19 : decode cX7_end 19 = .ok (.aload_n 0, 1) := by decide +kernel
theorem dX7_end_20 : decode cX7_end 20 = .ok (.iload_n 1, 1) := by decide +kernel
theorem dX7_end_21 : decode cX7_end 21 = .ok (.putfield 34, 3) := by decide +kernel
theorem dX7_end_24 : decode cX7_end 24 = .ok (.iload_n 2, 1) := by decide +kernel
theorem dX7_end_25 : decode cX7_end 25 = .ok (.ireturn, 1) := by decide +kernel
theorem dX7_journal_0 : decode cX7_journal 0 = .ok (.iload_n 1, 1) := by decide +kernel
theorem dX7_journal_1 : decode cX7_journal 1 = .ok (.iconst 0, 1) := by decide +kernel
theorem dX7_journal_2 : decode cX7_journal 2 = .ok (.bipush 8, 2) := by decide +kernel
theorem dX7_journal_4 : decode cX7_journal 4 = .ok (.invokestatic 90, 3) := by decide +kernel
theorem dX7_journal_7 : decode cX7_journal 7 = .ok (.ifCond .ne 6, 3) := by decide +kernel
theorem dX7_journal_10 : decode cX7_journal 10 = .ok (.bipush (-2), 2) := by decide +kernel
theorem dX7_journal_12 : decode cX7_journal 12 = .ok (.ireturn, 1) := by decide +kernel
theorem dX7_journal_13 : decode cX7_journal 13 = .ok (.aload_n 0, 1) := by decide +kernel
theorem dX7_journal_14 : decode cX7_journal 14 = .ok (.getfield 108, 3) := by decide +kernel
theorem dX7_journal_17 : decode cX7_journal 17 = .ok (.istore_n 2, 1) := by decide +kernel
theorem dX7_journal_18 : decode cX7_journal 18 = .ok (.aload_n 0, 1) := by decide +kernel
theorem dX7_journal_19 : decode cX7_journal 19 = .ok (.iload_n 1, 1) := by decide +kernel
theorem dX7_journal_20 : decode cX7_journal 20 = .ok (.putfield 108, 3) := by decide +kernel
theorem dX7_journal_23 : decode cX7_journal 23 = .ok (.iload_n 2, 1) := by decide +kernel
theorem dX7_journal_24 : decode cX7_journal 24 = .ok (.ireturn, 1) := by decide +kernel
theorem dX7_guessOf_0 : decode cX7_guessOf 0 = .ok (.aload_n 0, 1) := by decide +kernel
theorem dX7_guessOf_1 : decode cX7_guessOf 1 = .ok (.getfield 59, 3) := by decide +kernel
theorem dX7_guessOf_4 : decode cX7_guessOf 4 = .ok (.iload_n 1, 1) := by decide +kernel
theorem dX7_guessOf_5 : decode cX7_guessOf 5 = .ok (.iaload, 1) := by decide +kernel
theorem dX7_guessOf_6 : decode cX7_guessOf 6 = .ok (.ifCond .ne 6, 3) := by decide +kernel
theorem dX7_guessOf_9 : decode cX7_guessOf 9 = .ok (.bipush (-6), 2) := by decide +kernel
theorem dX7_guessOf_11 : decode cX7_guessOf 11 = .ok (.ireturn, 1) := by decide +kernel
theorem dX7_guessOf_12 : decode cX7_guessOf 12 = .ok (.iconst 0, 1) := by decide +kernel
theorem dX7_guessOf_13 : decode cX7_guessOf 13 = .ok (.istore_n 3, 1) := by decide +kernel
theorem dX7_guessOf_14 : decode cX7_guessOf 14 = .ok (.iconst 0, 1) := by decide +kernel
theorem dX7_guessOf_15 : decode cX7_guessOf 15 = .ok (.istore 4, 2) := by decide +kernel
theorem dX7_guessOf_17 : decode cX7_guessOf 17 = .ok (.aload_n 0, 1) := by decide +kernel
theorem dX7_guessOf_18 : decode cX7_guessOf 18 = .ok (.getfield 59, 3) := by decide +kernel
theorem dX7_guessOf_21 : decode cX7_guessOf 21 = .ok (.iload_n 1, 1) := by decide +kernel
theorem dX7_guessOf_22 : decode cX7_guessOf 22 = .ok (.iaload, 1) := by decide +kernel
theorem dX7_guessOf_23 : decode cX7_guessOf 23 = .ok (.iconst 1, 1) := by decide +kernel
theorem dX7_guessOf_24 : decode cX7_guessOf 24 = .ok (.isub, 1) := by decide +kernel
theorem dX7_guessOf_25 : decode cX7_guessOf 25 = .ok (.istore 5, 2) := by decide +kernel
theorem dX7_guessOf_27 : decode cX7_guessOf 27 = .ok (.iload 5, 2) := by decide +kernel
theorem dX7_guessOf_29 : decode cX7_guessOf 29 = .ok (.ifCond .lt 33, 3) := by decide +kernel
theorem dX7_guessOf_32 : decode cX7_guessOf 32 = .ok (.iload 4, 2) := by decide +kernel
theorem dX7_guessOf_34 : decode cX7_guessOf 34 = .ok (.iload_n 2, 1) := by decide +kernel
theorem dX7_guessOf_35 : decode cX7_guessOf 35 = .ok (.if_icmp .ge 27, 3) := by decide +kernel
theorem dX7_guessOf_38 : decode cX7_guessOf 38 = .ok (.iload_n 3, 1) := by decide +kernel
theorem dX7_guessOf_39 : decode cX7_guessOf 39 = .ok (.aload_n 0, 1) := by decide +kernel
theorem dX7_guessOf_40 : decode cX7_guessOf 40 = .ok (.getfield 62, 3) := by decide +kernel
theorem dX7_guessOf_43 : decode cX7_guessOf 43 = .ok (.bipush 40, 2) := by decide +kernel
theorem dX7_guessOf_45 : decode cX7_guessOf 45 = .ok (.iload_n 1, 1) := by decide +kernel
theorem dX7_guessOf_46 : decode cX7_guessOf 46 = .ok (.imul, 1) := by decide +kernel
theorem dX7_guessOf_47 : decode cX7_guessOf 47 = .ok (.iload 5, 2) := by decide +kernel
theorem dX7_guessOf_49 : decode cX7_guessOf 49 = .ok (.iadd, 1) := by decide +kernel
theorem dX7_guessOf_50 : decode cX7_guessOf 50 = .ok (.iaload, 1) := by decide +kernel
theorem dX7_guessOf_51 : decode cX7_guessOf 51 = .ok (.iadd, 1) := by decide +kernel
theorem dX7_guessOf_52 : decode cX7_guessOf 52 = .ok (.istore_n 3, 1) := by decide +kernel
theorem dX7_guessOf_53 : decode cX7_guessOf 53 = .ok (.iinc 4 1, 3) := by decide +kernel
theorem dX7_guessOf_56 : decode cX7_guessOf 56 = .ok (.iinc 5 (-1), 3) := by decide +kernel
theorem dX7_guessOf_59 : decode cX7_guessOf 59 = .ok (.goto (-32), 3) := by decide +kernel
theorem dX7_guessOf_62 : decode cX7_guessOf 62 = .ok (.iload_n 3, 1) := by decide +kernel
theorem dX7_guessOf_63 : decode cX7_guessOf 63 = .ok (.iload 4, 2) := by decide +kernel
theorem dX7_guessOf_65 : decode cX7_guessOf 65 = .ok (.idiv, 1) := by decide +kernel
theorem dX7_guessOf_66 : decode cX7_guessOf 66 = .ok (.ireturn, 1) := by decide +kernel
theorem dX7_bestFor_0 : decode cX7_bestFor 0 = .ok (.iconst 0, 1) := by decide +kernel
theorem dX7_bestFor_1 : decode cX7_bestFor 1 = .ok (.istore_n 3, 1) := by decide +kernel
theorem dX7_bestFor_2 : decode cX7_bestFor 2 = .ok (.iconst 1, 1) := by decide +kernel
theorem dX7_bestFor_3 : decode cX7_bestFor 3 = .ok (.istore 4, 2) := by decide +kernel
theorem dX7_bestFor_5 : decode cX7_bestFor 5 = .ok (.iload 4, 2) := by decide +kernel
theorem dX7_bestFor_7 : decode cX7_bestFor 7 = .ok (.aload_n 0, 1) := by decide +kernel
theorem dX7_bestFor_8 : decode cX7_bestFor 8 = .ok (.getfield 7, 3) := by decide +kernel
theorem dX7_bestFor_11 : decode cX7_bestFor 11 = .ok (.iload_n 1, 1) := by decide +kernel
theorem dX7_bestFor_12 : decode cX7_bestFor 12 = .ok (.iaload, 1) := by decide +kernel
theorem dX7_bestFor_13 : decode cX7_bestFor 13 = .ok (.if_icmp .gt 34, 3) := by decide +kernel
theorem dX7_bestFor_16 : decode cX7_bestFor 16 = .ok (.aload_n 0, 1) := by decide +kernel
theorem dX7_bestFor_17 : decode cX7_bestFor 17 = .ok (.iload_n 1, 1) := by decide +kernel
theorem dX7_bestFor_18 : decode cX7_bestFor 18 = .ok (.iload 4, 2) := by decide +kernel
theorem dX7_bestFor_20 : decode cX7_bestFor 20 = .ok (.iload_n 2, 1) := by decide +kernel
theorem dX7_bestFor_21 : decode cX7_bestFor 21 = .ok (.invokevirtual 111, 3) := by decide +kernel
theorem dX7_bestFor_24 : decode cX7_bestFor 24 = .ok (.aload_n 0, 1) := by decide +kernel
theorem dX7_bestFor_25 : decode cX7_bestFor 25 = .ok (.iload_n 1, 1) := by decide +kernel
theorem dX7_bestFor_26 : decode cX7_bestFor 26 = .ok (.iload_n 3, 1) := by decide +kernel
theorem dX7_bestFor_27 : decode cX7_bestFor 27 = .ok (.iload_n 2, 1) := by decide +kernel
theorem dX7_bestFor_28 : decode cX7_bestFor 28 = .ok (.invokevirtual 111, 3) := by decide +kernel
theorem dX7_bestFor_31 : decode cX7_bestFor 31 = .ok (.if_icmp .ge 8, 3) := by decide +kernel
theorem dX7_bestFor_34 : decode cX7_bestFor 34 = .ok (.iload 4, 2) := by decide +kernel
theorem dX7_bestFor_36 : decode cX7_bestFor 36 = .ok (.goto 4, 3) := by decide +kernel
theorem dX7_bestFor_39 : decode cX7_bestFor 39 = .ok (.iload_n 3, 1) := by decide +kernel
theorem dX7_bestFor_40 : decode cX7_bestFor 40 = .ok (.istore_n 3, 1) := by decide +kernel
theorem dX7_bestFor_41 : decode cX7_bestFor 41 = .ok (.iinc 4 1, 3) := by decide +kernel
theorem dX7_bestFor_44 : decode cX7_bestFor 44 = .ok (.goto (-39), 3) := by decide +kernel
theorem dX7_bestFor_47 : decode cX7_bestFor 47 = .ok (.iload_n 3, 1) := by decide +kernel
theorem dX7_bestFor_48 : decode cX7_bestFor 48 = .ok (.ireturn, 1) := by decide +kernel
theorem dX7_costWith_0 : decode cX7_costWith 0 = .ok (.aload_n 0, 1) := by decide +kernel
theorem dX7_costWith_1 : decode cX7_costWith 1 = .ok (.iload_n 1, 1) := by decide +kernel
theorem dX7_costWith_2 : decode cX7_costWith 2 = .ok (.iload_n 2, 1) := by decide +kernel
theorem dX7_costWith_3 : decode cX7_costWith 3 = .ok (.invokevirtual 101, 3) := by decide +kernel
theorem dX7_costWith_6 : decode cX7_costWith 6 = .ok (.aload_n 0, 1) := by decide +kernel
theorem dX7_costWith_7 : decode cX7_costWith 7 = .ok (.getfield 13, 3) := by decide +kernel
theorem dX7_costWith_10 : decode cX7_costWith 10 = .ok (.iconst 4, 1) := by decide +kernel
theorem dX7_costWith_11 : decode cX7_costWith 11 = .ok (.iload_n 1, 1) := by decide +kernel
theorem dX7_costWith_12 : decode cX7_costWith 12 = .ok (.imul, 1) := by decide +kernel
theorem dX7_costWith_13 : decode cX7_costWith 13 = .ok (.iload_n 2, 1) := by decide +kernel
theorem dX7_costWith_14 : decode cX7_costWith 14 = .ok (.iadd, 1) := by decide +kernel
theorem dX7_costWith_15 : decode cX7_costWith 15 = .ok (.iaload, 1) := by decide +kernel
theorem dX7_costWith_16 : decode cX7_costWith 16 = .ok (.iload_n 3, 1) := by decide +kernel
theorem dX7_costWith_17 : decode cX7_costWith 17 = .ok (.imul, 1) := by decide +kernel
theorem dX7_costWith_18 : decode cX7_costWith 18 = .ok (.iadd, 1) := by decide +kernel
theorem dX7_costWith_19 : decode cX7_costWith 19 = .ok (.ireturn, 1) := by decide +kernel
theorem dX7_levelFor_0 : decode cX7_levelFor 0 = .ok (.aload_n 0, 1) := by decide +kernel
theorem dX7_levelFor_1 : decode cX7_levelFor 1 = .ok (.getfield 19, 3) := by decide +kernel
theorem dX7_levelFor_4 : decode cX7_levelFor 4 = .ok (.iload_n 1, 1) := by decide +kernel
theorem dX7_levelFor_5 : decode cX7_levelFor 5 = .ok (.iaload, 1) := by decide +kernel
theorem dX7_levelFor_6 : decode cX7_levelFor 6 = .ok (.tableswitch 70 0 2 #[26, 28, 63], 26) := by decide +kernel
theorem dX7_levelFor_32 : decode cX7_levelFor 32 = .ok (.iconst 0, 1) := by decide +kernel
theorem dX7_levelFor_33 : decode cX7_levelFor 33 = .ok (.ireturn, 1) := by decide +kernel
theorem dX7_levelFor_34 : decode cX7_levelFor 34 = .ok (.iload_n 2, 1) := by decide +kernel
theorem dX7_levelFor_35 : decode cX7_levelFor 35 = .ok (.aload_n 0, 1) := by decide +kernel
theorem dX7_levelFor_36 : decode cX7_levelFor 36 = .ok (.getfield 22, 3) := by decide +kernel
theorem dX7_levelFor_39 : decode cX7_levelFor 39 = .ok (.iload_n 1, 1) := by decide +kernel
theorem dX7_levelFor_40 : decode cX7_levelFor 40 = .ok (.iaload, 1) := by decide +kernel
theorem dX7_levelFor_41 : decode cX7_levelFor 41 = .ok (.idiv, 1) := by decide +kernel
theorem dX7_levelFor_42 : decode cX7_levelFor 42 = .ok (.aload_n 0, 1) := by decide +kernel
theorem dX7_levelFor_43 : decode cX7_levelFor 43 = .ok (.getfield 7, 3) := by decide +kernel
theorem dX7_levelFor_46 : decode cX7_levelFor 46 = .ok (.iload_n 1, 1) := by decide +kernel
theorem dX7_levelFor_47 : decode cX7_levelFor 47 = .ok (.iaload, 1) := by decide +kernel
theorem dX7_levelFor_48 : decode cX7_levelFor 48 = .ok (.if_icmp .ge 14, 3) := by decide +kernel
theorem dX7_levelFor_51 : decode cX7_levelFor 51 = .ok (.iload_n 2, 1) := by decide +kernel
theorem dX7_levelFor_52 : decode cX7_levelFor 52 = .ok (.aload_n 0, 1) := by decide +kernel
theorem dX7_levelFor_53 : decode cX7_levelFor 53 = .ok (.getfield 22, 3) := by decide +kernel
theorem dX7_levelFor_56 : decode cX7_levelFor 56 = .ok (.iload_n 1, 1) := by decide +kernel
theorem dX7_levelFor_57 : decode cX7_levelFor 57 = .ok (.iaload, 1) := by decide +kernel
theorem dX7_levelFor_58 : decode cX7_levelFor 58 = .ok (.idiv, 1) := by decide +kernel
theorem dX7_levelFor_59 : decode cX7_levelFor 59 = .ok (.goto 9, 3) := by decide +kernel
theorem dX7_levelFor_62 : decode cX7_levelFor 62 = .ok (.aload_n 0, 1) := by decide +kernel
theorem dX7_levelFor_63 : decode cX7_levelFor 63 = .ok (.getfield 7, 3) := by decide +kernel
theorem dX7_levelFor_66 : decode cX7_levelFor 66 = .ok (.iload_n 1, 1) := by decide +kernel
theorem dX7_levelFor_67 : decode cX7_levelFor 67 = .ok (.iaload, 1) := by decide +kernel
theorem dX7_levelFor_68 : decode cX7_levelFor 68 = .ok (.ireturn, 1) := by decide +kernel
theorem dX7_levelFor_69 : decode cX7_levelFor 69 = .ok (.aload_n 0, 1) := by decide +kernel
theorem dX7_levelFor_70 : decode cX7_levelFor 70 = .ok (.iload_n 1, 1) := by decide +kernel
theorem dX7_levelFor_71 : decode cX7_levelFor 71 = .ok (.iload_n 2, 1) := by decide +kernel
theorem dX7_levelFor_72 : decode cX7_levelFor 72 = .ok (.invokevirtual 115, 3) := by decide +kernel
theorem dX7_levelFor_75 : decode cX7_levelFor 75 = .ok (.ireturn, 1) := by decide +kernel
theorem dX7_levelFor_76 : decode cX7_levelFor 76 = .ok (.aload_n 0, 1) := by decide +kernel
theorem dX7_levelFor_77 : decode cX7_levelFor 77 = .ok (.getfield 59, 3) := by decide +kernel
theorem dX7_levelFor_80 : decode cX7_levelFor 80 = .ok (.iload_n 1, 1) := by decide +kernel
theorem dX7_levelFor_81 : decode cX7_levelFor 81 = .ok (.iaload, 1) := by decide +kernel
theorem dX7_levelFor_82 : decode cX7_levelFor 82 = .ok (.ifCond .ne 7, 3) := by decide +kernel
theorem dX7_levelFor_85 : decode cX7_levelFor 85 = .ok (.iconst 0, 1) := by decide +kernel
theorem dX7_levelFor_86 : decode cX7_levelFor 86 = .ok (.goto 19, 3) := by decide +kernel
theorem dX7_levelFor_89 : decode cX7_levelFor 89 = .ok (.aload_n 0, 1) := by decide +kernel
theorem dX7_levelFor_90 : decode cX7_levelFor 90 = .ok (.iload_n 1, 1) := by decide +kernel
theorem dX7_levelFor_91 : decode cX7_levelFor 91 = .ok (.aload_n 0, 1) := by decide +kernel
theorem dX7_levelFor_92 : decode cX7_levelFor 92 = .ok (.iload_n 1, 1) := by decide +kernel
theorem dX7_levelFor_93 : decode cX7_levelFor 93 = .ok (.aload_n 0, 1) := by decide +kernel
theorem dX7_levelFor_94 : decode cX7_levelFor 94 = .ok (.getfield 22, 3) := by decide +kernel
theorem dX7_levelFor_97 : decode cX7_levelFor 97 = .ok (.iload_n 1, 1) := by decide +kernel
theorem dX7_levelFor_98 : decode cX7_levelFor 98 = .ok (.iaload, 1) := by decide +kernel
theorem dX7_levelFor_99 : decode cX7_levelFor 99 = .ok (.invokevirtual 118, 3) := by decide +kernel
theorem dX7_levelFor_102 : decode cX7_levelFor 102 = .ok (.invokevirtual 115, 3) := by decide +kernel
theorem dX7_levelFor_105 : decode cX7_levelFor 105 = .ok (.ireturn, 1) := by decide +kernel
theorem dX7_sleeps_0 : decode cX7_sleeps 0 = .ok (.aload_n 0, 1) := by decide +kernel
theorem dX7_sleeps_1 : decode cX7_sleeps 1 = .ok (.getfield 38, 3) := by decide +kernel
theorem dX7_sleeps_4 : decode cX7_sleeps 4 = .ok (.iload_n 1, 1) := by decide +kernel
theorem dX7_sleeps_5 : decode cX7_sleeps 5 = .ok (.iaload, 1) := by decide +kernel
theorem dX7_sleeps_6 : decode cX7_sleeps 6 = .ok (.ifCond .le 16, 3) := by decide +kernel
theorem dX7_sleeps_9 : decode cX7_sleeps 9 = .ok (.aload_n 0, 1) := by decide +kernel
theorem dX7_sleeps_10 : decode cX7_sleeps 10 = .ok (.getfield 41, 3) := by decide +kernel
theorem dX7_sleeps_13 : decode cX7_sleeps 13 = .ok (.iload_n 1, 1) := by decide +kernel
theorem dX7_sleeps_14 : decode cX7_sleeps 14 = .ok (.iaload, 1) := by decide +kernel
theorem dX7_sleeps_15 : decode cX7_sleeps 15 = .ok (.ifCond .le 7, 3) := by decide +kernel
theorem dX7_sleeps_18 : decode cX7_sleeps 18 = .ok (.iconst 1, 1) := by decide +kernel
theorem dX7_sleeps_19 : decode cX7_sleeps 19 = .ok (.goto 4, 3) := by decide +kernel
theorem dX7_sleeps_22 : decode cX7_sleeps 22 = .ok (.iconst 0, 1) := by decide +kernel
theorem dX7_sleeps_23 : decode cX7_sleeps 23 = .ok (.ireturn, 1) := by decide +kernel
theorem dX7_wake_0 : decode cX7_wake 0 = .ok (.aload_n 0, 1) := by decide +kernel
theorem dX7_wake_1 : decode cX7_wake 1 = .ok (.getfield 44, 3) := by decide +kernel
theorem dX7_wake_4 : decode cX7_wake 4 = .ok (.iload_n 1, 1) := by decide +kernel
theorem dX7_wake_5 : decode cX7_wake 5 = .ok (.dup2, 1) := by decide +kernel
theorem dX7_wake_6 : decode cX7_wake 6 = .ok (.iaload, 1) := by decide +kernel
theorem dX7_wake_7 : decode cX7_wake 7 = .ok (.aload_n 0, 1) := by decide +kernel
theorem dX7_wake_8 : decode cX7_wake 8 = .ok (.iload_n 1, 1) := by decide +kernel
theorem dX7_wake_9 : decode cX7_wake 9 = .ok (.aload_n 0, 1) := by decide +kernel
theorem dX7_wake_10 : decode cX7_wake 10 = .ok (.getfield 41, 3) := by decide +kernel
theorem dX7_wake_13 : decode cX7_wake 13 = .ok (.iload_n 1, 1) := by decide +kernel
theorem dX7_wake_14 : decode cX7_wake 14 = .ok (.iaload, 1) := by decide +kernel
theorem dX7_wake_15 : decode cX7_wake 15 = .ok (.invokevirtual 101, 3) := by decide +kernel
theorem dX7_wake_18 : decode cX7_wake 18 = .ok (.iadd, 1) := by decide +kernel
theorem dX7_wake_19 : decode cX7_wake 19 = .ok (.iastore, 1) := by decide +kernel
theorem dX7_wake_20 : decode cX7_wake 20 = .ok (.aload_n 0, 1) := by decide +kernel
theorem dX7_wake_21 : decode cX7_wake 21 = .ok (.getfield 47, 3) := by decide +kernel
theorem dX7_wake_24 : decode cX7_wake 24 = .ok (.iload_n 1, 1) := by decide +kernel
theorem dX7_wake_25 : decode cX7_wake 25 = .ok (.dup2, 1) := by decide +kernel
theorem dX7_wake_26 : decode cX7_wake 26 = .ok (.iaload, 1) := by decide +kernel
theorem dX7_wake_27 : decode cX7_wake 27 = .ok (.iconst 1, 1) := by decide +kernel
theorem dX7_wake_28 : decode cX7_wake 28 = .ok (.iadd, 1) := by decide +kernel
theorem dX7_wake_29 : decode cX7_wake 29 = .ok (.iastore, 1) := by decide +kernel
theorem dX7_wake_30 : decode cX7_wake 30 = .ok (.iconst 0, 1) := by decide +kernel
theorem dX7_wake_31 : decode cX7_wake 31 = .ok (.istore_n 2, 1) := by decide +kernel
theorem dX7_wake_32 : decode cX7_wake 32 = .ok (.iconst 0, 1) := by decide +kernel
theorem dX7_wake_33 : decode cX7_wake 33 = .ok (.istore_n 3, 1) := by decide +kernel
theorem dX7_wake_34 : decode cX7_wake 34 = .ok (.iload_n 3, 1) := by decide +kernel
theorem dX7_wake_35 : decode cX7_wake 35 = .ok (.aload_n 0, 1) := by decide +kernel
theorem dX7_wake_36 : decode cX7_wake 36 = .ok (.getfield 121, 3) := by decide +kernel
theorem dX7_wake_39 : decode cX7_wake 39 = .ok (.if_icmp .ge 54, 3) := by decide +kernel
theorem dX7_wake_42 : decode cX7_wake 42 = .ok (.aload_n 0, 1) := by decide +kernel
theorem dX7_wake_43 : decode cX7_wake 43 = .ok (.getfield 28, 3) := by decide +kernel
theorem dX7_wake_46 : decode cX7_wake 46 = .ok (.aload_n 0, 1) := by decide +kernel
theorem dX7_wake_47 : decode cX7_wake 47 = .ok (.getfield 68, 3) := by decide +kernel
theorem dX7_wake_50 : decode cX7_wake 50 = .ok (.iload_n 3, 1) := by decide +kernel
theorem dX7_wake_51 : decode cX7_wake 51 = .ok (.iaload, 1) := by decide +kernel
theorem dX7_wake_52 : decode cX7_wake 52 = .ok (.iaload, 1) := by decide +kernel
theorem dX7_wake_53 : decode cX7_wake 53 = .ok (.iload_n 1, 1) := by decide +kernel
theorem dX7_wake_54 : decode cX7_wake 54 = .ok (.if_icmp .ne 18, 3) := by decide +kernel
theorem dX7_wake_57 : decode cX7_wake 57 = .ok (.aload_n 0, 1) := by decide +kernel
theorem dX7_wake_58 : decode cX7_wake 58 = .ok (.getfield 65, 3) := by decide +kernel
theorem dX7_wake_61 : decode cX7_wake 61 = .ok (.aload_n 0, 1) := by decide +kernel
theorem dX7_wake_62 : decode cX7_wake 62 = .ok (.getfield 68, 3) := by decide +kernel
theorem dX7_wake_65 : decode cX7_wake 65 = .ok (.iload_n 3, 1) := by decide +kernel
theorem dX7_wake_66 : decode cX7_wake 66 = .ok (.iaload, 1) := by decide +kernel
theorem dX7_wake_67 : decode cX7_wake 67 = .ok (.iconst 4, 1) := by decide +kernel
theorem dX7_wake_68 : decode cX7_wake 68 = .ok (.iastore, 1) := by decide +kernel
theorem dX7_wake_69 : decode cX7_wake 69 = .ok (.goto 18, 3) := by decide +kernel
theorem dX7_wake_72 : decode cX7_wake 72 = .ok (.aload_n 0, 1) := by decide +kernel
theorem dX7_wake_73 : decode cX7_wake 73 = .ok (.getfield 68, 3) := by decide +kernel
theorem dX7_wake_76 : decode cX7_wake 76 = .ok (.iload_n 2, 1) := by decide +kernel
theorem dX7_wake_77 : decode cX7_wake 77 = .ok (.aload_n 0, 1) := by decide +kernel
theorem dX7_wake_78 : decode cX7_wake 78 = .ok (.getfield 68, 3) := by decide +kernel
theorem dX7_wake_81 : decode cX7_wake 81 = .ok (.iload_n 3, 1) := by decide +kernel
theorem dX7_wake_82 : decode cX7_wake 82 = .ok (.iaload, 1) := by decide +kernel
theorem dX7_wake_83 : decode cX7_wake 83 = .ok (.iastore, 1) := by decide +kernel
theorem dX7_wake_84 : decode cX7_wake 84 = .ok (.iinc 2 1, 3) := by decide +kernel
theorem dX7_wake_87 : decode cX7_wake 87 = .ok (.iinc 3 1, 3) := by decide +kernel
theorem dX7_wake_90 : decode cX7_wake 90 = .ok (.goto (-56), 3) := by decide +kernel
theorem dX7_wake_93 : decode cX7_wake 93 = .ok (.aload_n 0, 1) := by decide +kernel
theorem dX7_wake_94 : decode cX7_wake 94 = .ok (.iload_n 2, 1) := by decide +kernel
theorem dX7_wake_95 : decode cX7_wake 95 = .ok (.putfield 121, 3) := by decide +kernel
theorem dX7_wake_98 : decode cX7_wake 98 = .ok (.return_, 1) := by decide +kernel
theorem dX7_keepBusy_0 : decode cX7_keepBusy 0 = .ok (.aload_n 0, 1) := by decide +kernel
theorem dX7_keepBusy_1 : decode cX7_keepBusy 1 = .ok (.getfield 38, 3) := by decide +kernel
theorem dX7_keepBusy_4 : decode cX7_keepBusy 4 = .ok (.iload_n 1, 1) := by decide +kernel
theorem dX7_keepBusy_5 : decode cX7_keepBusy 5 = .ok (.iaload, 1) := by decide +kernel
theorem dX7_keepBusy_6 : decode cX7_keepBusy 6 = .ok (.ifCond .le 35, 3) := by decide +kernel
theorem dX7_keepBusy_9 : decode cX7_keepBusy 9 = .ok (.aload_n 0, 1) := by decide +kernel
theorem dX7_keepBusy_10 : decode cX7_keepBusy 10 = .ok (.getfield 62, 3) := by decide +kernel
theorem dX7_keepBusy_13 : decode cX7_keepBusy 13 = .ok (.bipush 40, 2) := by decide +kernel
theorem dX7_keepBusy_15 : decode cX7_keepBusy 15 = .ok (.iload_n 1, 1) := by decide +kernel
theorem dX7_keepBusy_16 : decode cX7_keepBusy 16 = .ok (.imul, 1) := by decide +kernel
theorem dX7_keepBusy_17 : decode cX7_keepBusy 17 = .ok (.aload_n 0, 1) := by decide +kernel
theorem dX7_keepBusy_18 : decode cX7_keepBusy 18 = .ok (.getfield 59, 3) := by decide +kernel
theorem dX7_keepBusy_21 : decode cX7_keepBusy 21 = .ok (.iload_n 1, 1) := by decide +kernel
theorem dX7_keepBusy_22 : decode cX7_keepBusy 22 = .ok (.iaload, 1) := by decide +kernel
theorem dX7_keepBusy_23 : decode cX7_keepBusy 23 = .ok (.iadd, 1) := by decide +kernel
theorem dX7_keepBusy_24 : decode cX7_keepBusy 24 = .ok (.aload_n 0, 1) := by decide +kernel
theorem dX7_keepBusy_25 : decode cX7_keepBusy 25 = .ok (.getfield 38, 3) := by decide +kernel
theorem dX7_keepBusy_28 : decode cX7_keepBusy 28 = .ok (.iload_n 1, 1) := by decide +kernel
theorem dX7_keepBusy_29 : decode cX7_keepBusy 29 = .ok (.iaload, 1) := by decide +kernel
theorem dX7_keepBusy_30 : decode cX7_keepBusy 30 = .ok (.iastore, 1) := by decide +kernel
theorem dX7_keepBusy_31 : decode cX7_keepBusy 31 = .ok (.aload_n 0, 1) := by decide +kernel
theorem dX7_keepBusy_32 : decode cX7_keepBusy 32 = .ok (.getfield 59, 3) := by decide +kernel
theorem dX7_keepBusy_35 : decode cX7_keepBusy 35 = .ok (.iload_n 1, 1) := by decide +kernel
theorem dX7_keepBusy_36 : decode cX7_keepBusy 36 = .ok (.dup2, 1) := by decide +kernel
theorem dX7_keepBusy_37 : decode cX7_keepBusy 37 = .ok (.iaload, 1) := by decide +kernel
theorem dX7_keepBusy_38 : decode cX7_keepBusy 38 = .ok (.iconst 1, 1) := by decide +kernel
theorem dX7_keepBusy_39 : decode cX7_keepBusy 39 = .ok (.iadd, 1) := by decide +kernel
theorem dX7_keepBusy_40 : decode cX7_keepBusy 40 = .ok (.iastore, 1) := by decide +kernel
theorem dX7_keepBusy_41 : decode cX7_keepBusy 41 = .ok (.aload_n 0, 1) := by decide +kernel
theorem dX7_keepBusy_42 : decode cX7_keepBusy 42 = .ok (.getfield 38, 3) := by decide +kernel
theorem dX7_keepBusy_45 : decode cX7_keepBusy 45 = .ok (.iload_n 1, 1) := by decide +kernel
theorem dX7_keepBusy_46 : decode cX7_keepBusy 46 = .ok (.iconst 0, 1) := by decide +kernel
theorem dX7_keepBusy_47 : decode cX7_keepBusy 47 = .ok (.iastore, 1) := by decide +kernel
theorem dX7_keepBusy_48 : decode cX7_keepBusy 48 = .ok (.return_, 1) := by decide +kernel
theorem dX7_meet_0 : decode cX7_meet 0 = .ok (.aload_n 0, 1) := by decide +kernel
theorem dX7_meet_1 : decode cX7_meet 1 = .ok (.getfield 28, 3) := by decide +kernel
theorem dX7_meet_4 : decode cX7_meet 4 = .ok (.iload_n 1, 1) := by decide +kernel
theorem dX7_meet_5 : decode cX7_meet 5 = .ok (.iaload, 1) := by decide +kernel
theorem dX7_meet_6 : decode cX7_meet 6 = .ok (.istore_n 2, 1) := by decide +kernel
theorem dX7_meet_7 : decode cX7_meet 7 = .ok (.aload_n 0, 1) := by decide +kernel
theorem dX7_meet_8 : decode cX7_meet 8 = .ok (.iload_n 2, 1) := by decide +kernel
theorem dX7_meet_9 : decode cX7_meet 9 = .ok (.invokevirtual 124, 3) := by decide +kernel
theorem dX7_meet_12 : decode cX7_meet 12 = .ok (.istore_n 3, 1) := by decide +kernel
theorem dX7_meet_13 : decode cX7_meet 13 = .ok (.aload_n 0, 1) := by decide +kernel
theorem dX7_meet_14 : decode cX7_meet 14 = .ok (.getfield 31, 3) := by decide +kernel
theorem dX7_meet_17 : decode cX7_meet 17 = .ok (.iload_n 1, 1) := by decide +kernel
theorem dX7_meet_18 : decode cX7_meet 18 = .ok (.iaload, 1) := by decide +kernel
theorem dX7_meet_19 : decode cX7_meet 19 = .ok (.iconst 1, 1) := by decide +kernel
theorem dX7_meet_20 : decode cX7_meet 20 = .ok (.if_icmp .ne 22, 3) := by decide +kernel
theorem dX7_meet_23 : decode cX7_meet 23 = .ok (.iload_n 3, 1) := by decide +kernel
theorem dX7_meet_24 : decode cX7_meet 24 = .ok (.ifCond .eq 18, 3) := by decide +kernel
theorem dX7_meet_27 : decode cX7_meet 27 = .ok (.aload_n 0, 1) := by decide +kernel
theorem dX7_meet_28 : decode cX7_meet 28 = .ok (.getfield 121, 3) := by decide +kernel
theorem dX7_meet_31 : decode cX7_meet 31 = .ok (.aload_n 0, 1) := by decide +kernel
theorem dX7_meet_32 : decode cX7_meet 32 = .ok (.getfield 108, 3) := by decide +kernel
theorem dX7_meet_35 : decode cX7_meet 35 = .ok (.if_icmp .ge 7, 3) := by decide +kernel
theorem dX7_meet_38 : decode cX7_meet 38 = .ok (.iconst 1, 1) := by decide +kernel
theorem dX7_meet_39 : decode cX7_meet 39 = .ok (.goto 4, 3) := by decide +kernel
theorem dX7_meet_42 : decode cX7_meet 42 = .ok (.iconst 0, 1) := by decide +kernel
theorem dX7_meet_43 : decode cX7_meet 43 = .ok (.istore 4, 2) := by decide +kernel
theorem dX7_meet_45 : decode cX7_meet 45 = .ok (.iload 4, 2) := by decide +kernel
theorem dX7_meet_47 : decode cX7_meet 47 = .ok (.ifCond .eq 69, 3) := by decide +kernel
theorem dX7_meet_50 : decode cX7_meet 50 = .ok (.aload_n 0, 1) := by decide +kernel
theorem dX7_meet_51 : decode cX7_meet 51 = .ok (.getfield 68, 3) := by decide +kernel
theorem dX7_meet_54 : decode cX7_meet 54 = .ok (.aload_n 0, 1) := by decide +kernel
theorem dX7_meet_55 : decode cX7_meet 55 = .ok (.getfield 121, 3) := by decide +kernel
theorem dX7_meet_58 : decode cX7_meet 58 = .ok (.iload_n 1, 1) := by decide +kernel
theorem dX7_meet_59 : decode cX7_meet 59 = .ok (.iastore, 1) := by decide +kernel
theorem dX7_meet_60 : decode cX7_meet 60 = .ok (.aload_n 0, 1) := by decide +kernel
theorem dX7_meet_61 : decode cX7_meet 61 = .ok (.dup, 1) := by decide +kernel
theorem dX7_meet_62 : decode cX7_meet 62 = .ok (.getfield 121, 3) := by decide +kernel
theorem dX7_meet_65 : decode cX7_meet 65 = .ok (.iconst 1, 1) := by decide +kernel
theorem dX7_meet_66 : decode cX7_meet 66 = .ok (.iadd, 1) := by decide +kernel
theorem dX7_meet_67 : decode cX7_meet 67 = .ok (.putfield 121, 3) := by decide +kernel
theorem dX7_meet_70 : decode cX7_meet 70 = .ok (.aload_n 0, 1) := by decide +kernel
theorem dX7_meet_71 : decode cX7_meet 71 = .ok (.aload_n 0, 1) := by decide +kernel
theorem dX7_meet_72 : decode cX7_meet 72 = .ok (.getfield 121, 3) := by decide +kernel
theorem dX7_meet_75 : decode cX7_meet 75 = .ok (.aload_n 0, 1) := by decide +kernel
theorem dX7_meet_76 : decode cX7_meet 76 = .ok (.getfield 127, 3) := by decide +kernel
theorem dX7_meet_79 : decode cX7_meet 79 = .ok (.if_icmp .le 10, 3) := by decide +kernel
theorem dX7_meet_82 : decode cX7_meet 82 = .ok (.aload_n 0, 1) := by decide +kernel
theorem dX7_meet_83 : decode cX7_meet 83 = .ok (.getfield 121, 3) := by decide +kernel
theorem dX7_meet_86 : decode cX7_meet 86 = .ok (.goto 7, 3) := by decide +kernel
theorem dX7_meet_89 : decode cX7_meet 89 = .ok (.aload_n 0, 1) := by decide +kernel
theorem dX7_meet_90 : decode cX7_meet 90 = .ok (.getfield 127, 3) := by decide +kernel
theorem dX7_meet_93 : decode cX7_meet 93 = .ok (.putfield 127, 3) := by decide +kernel
theorem dX7_meet_96 : decode cX7_meet 96 = .ok (.aload_n 0, 1) := by decide +kernel
theorem dX7_meet_97 : decode cX7_meet 97 = .ok (.getfield 56, 3) := by decide +kernel
theorem dX7_meet_100 : decode cX7_meet 100 = .ok (.iload_n 2, 1) := by decide +kernel
theorem dX7_meet_101 : decode cX7_meet 101 = .ok (.dup2, 1) := by decide +kernel
theorem dX7_meet_102 : decode cX7_meet 102 = .ok (.iaload, 1) := by decide +kernel
theorem dX7_meet_103 : decode cX7_meet 103 = .ok (.iconst 1, 1) := by decide +kernel
theorem dX7_meet_104 : decode cX7_meet 104 = .ok (.iadd, 1) := by decide +kernel
theorem dX7_meet_105 : decode cX7_meet 105 = .ok (.iastore, 1) := by decide +kernel
theorem dX7_meet_106 : decode cX7_meet 106 = .ok (.aload_n 0, 1) := by decide +kernel
theorem dX7_meet_107 : decode cX7_meet 107 = .ok (.getfield 65, 3) := by decide +kernel
theorem dX7_meet_110 : decode cX7_meet 110 = .ok (.iload_n 1, 1) := by decide +kernel
