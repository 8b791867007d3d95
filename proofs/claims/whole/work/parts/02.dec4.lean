theorem dX7_meet_111 : decode cX7_meet 111 = .ok (.iconst 5, 1) := by decide +kernel
theorem dX7_meet_112 : decode cX7_meet 112 = .ok (.iastore, 1) := by decide +kernel
theorem dX7_meet_113 : decode cX7_meet 113 = .ok (.goto 101, 3) := by decide +kernel
theorem dX7_meet_116 : decode cX7_meet 116 = .ok (.iload_n 3, 1) := by decide +kernel
theorem dX7_meet_117 : decode cX7_meet 117 = .ok (.ifCond .eq 8, 3) := by decide +kernel
theorem dX7_meet_120 : decode cX7_meet 120 = .ok (.aload_n 0, 1) := by decide +kernel
theorem dX7_meet_121 : decode cX7_meet 121 = .ok (.iload_n 2, 1) := by decide +kernel
theorem dX7_meet_122 : decode cX7_meet 122 = .ok (.invokevirtual 130, 3) := by decide +kernel
theorem dX7_meet_125 : decode cX7_meet 125 = .ok (.aload_n 0, 1) := by decide +kernel
theorem dX7_meet_126 : decode cX7_meet 126 = .ok (.getfield 65, 3) := by decide +kernel
theorem dX7_meet_129 : decode cX7_meet 129 = .ok (.iload_n 1, 1) := by decide +kernel
theorem dX7_meet_130 : decode cX7_meet 130 = .ok (.aload_n 0, 1) := by decide +kernel
theorem dX7_meet_131 : decode cX7_meet 131 = .ok (.getfield 31, 3) := by decide +kernel
theorem dX7_meet_134 : decode cX7_meet 134 = .ok (.iload_n 1, 1) := by decide +kernel
theorem dX7_meet_135 : decode cX7_meet 135 = .ok (.iaload, 1) := by decide +kernel
theorem dX7_meet_136 : decode cX7_meet 136 = .ok (.ifCond .ne 15, 3) := by decide +kernel
theorem dX7_meet_139 : decode cX7_meet 139 = .ok (.iload_n 3, 1) := by decide +kernel
theorem dX7_meet_140 : decode cX7_meet 140 = .ok (.ifCond .eq 7, 3) := by decide +kernel
theorem dX7_meet_143 : decode cX7_meet 143 = .ok (.iconst 2, 1) := by decide +kernel
theorem dX7_meet_144 : decode cX7_meet 144 = .ok (.goto 17, 3) := by decide +kernel
theorem dX7_meet_147 : decode cX7_meet 147 = .ok (.iconst 1, 1) := by decide +kernel
theorem dX7_meet_148 : decode cX7_meet 148 = .ok (.goto 13, 3) := by decide +kernel
theorem dX7_meet_151 : decode cX7_meet 151 = .ok (.iload_n 3, 1) := by decide +kernel
theorem dX7_meet_152 : decode cX7_meet 152 = .ok (.ifCond .eq 8, 3) := by decide +kernel
theorem dX7_meet_155 : decode cX7_meet 155 = .ok (.bipush 6, 2) := by decide +kernel
theorem dX7_meet_157 : decode cX7_meet 157 = .ok (.goto 4, 3) := by decide +kernel
theorem dX7_meet_160 : decode cX7_meet 160 = .ok (.iconst 3, 1) := by decide +kernel
theorem dX7_meet_161 : decode cX7_meet 161 = .ok (.iastore, 1) := by decide +kernel
theorem dX7_meet_162 : decode cX7_meet 162 = .ok (.aload_n 0, 1) := by decide +kernel
theorem dX7_meet_163 : decode cX7_meet 163 = .ok (.getfield 50, 3) := by decide +kernel
theorem dX7_meet_166 : decode cX7_meet 166 = .ok (.iload_n 2, 1) := by decide +kernel
theorem dX7_meet_167 : decode cX7_meet 167 = .ok (.dup2, 1) := by decide +kernel
theorem dX7_meet_168 : decode cX7_meet 168 = .ok (.iaload, 1) := by decide +kernel
theorem dX7_meet_169 : decode cX7_meet 169 = .ok (.aload_n 0, 1) := by decide +kernel
theorem dX7_meet_170 : decode cX7_meet 170 = .ok (.getfield 31, 3) := by decide +kernel
theorem dX7_meet_173 : decode cX7_meet 173 = .ok (.iload_n 1, 1) := by decide +kernel
theorem dX7_meet_174 : decode cX7_meet 174 = .ok (.iaload, 1) := by decide +kernel
theorem dX7_meet_175 : decode cX7_meet 175 = .ok (.ifCond .ne 7, 3) := by decide +kernel
theorem dX7_meet_178 : decode cX7_meet 178 = .ok (.iconst 1, 1) := by decide +kernel
theorem dX7_meet_179 : decode cX7_meet 179 = .ok (.goto 4, 3) := by decide +kernel
theorem dX7_meet_182 : decode cX7_meet 182 = .ok (.iconst 0, 1) := by decide +kernel
theorem dX7_meet_183 : decode cX7_meet 183 = .ok (.iadd, 1) := by decide +kernel
theorem dX7_meet_184 : decode cX7_meet 184 = .ok (.iastore, 1) := by decide +kernel
theorem dX7_meet_185 : decode cX7_meet 185 = .ok (.aload_n 0, 1) := by decide +kernel
theorem dX7_meet_186 : decode cX7_meet 186 = .ok (.getfield 53, 3) := by decide +kernel
theorem dX7_meet_189 : decode cX7_meet 189 = .ok (.iload_n 2, 1) := by decide +kernel
theorem dX7_meet_190 : decode cX7_meet 190 = .ok (.dup2, 1) := by decide +kernel
theorem dX7_meet_191 : decode cX7_meet 191 = .ok (.iaload, 1) := by decide +kernel
theorem dX7_meet_192 : decode cX7_meet 192 = .ok (.aload_n 0, 1) := by decide +kernel
theorem dX7_meet_193 : decode cX7_meet 193 = .ok (.getfield 31, 3) := by decide +kernel
theorem dX7_meet_196 : decode cX7_meet 196 = .ok (.iload_n 1, 1) := by decide +kernel
theorem dX7_meet_197 : decode cX7_meet 197 = .ok (.iaload, 1) := by decide +kernel
theorem dX7_meet_198 : decode cX7_meet 198 = .ok (.iconst 1, 1) := by decide +kernel
theorem dX7_meet_199 : decode cX7_meet 199 = .ok (.if_icmp .ne 7, 3) := by decide +kernel
theorem dX7_meet_202 : decode cX7_meet 202 = .ok (.iconst 1, 1) := by decide +kernel
theorem dX7_meet_203 : decode cX7_meet 203 = .ok (.goto 4, 3) := by decide +kernel
theorem dX7_meet_206 : decode cX7_meet 206 = .ok (.iconst 0, 1) := by decide +kernel
theorem dX7_meet_207 : decode cX7_meet 207 = .ok (.iadd, 1) := by decide +kernel
theorem dX7_meet_208 : decode cX7_meet 208 = .ok (.iastore, 1) := by decide +kernel
theorem dX7_meet_209 : decode cX7_meet 209 = .ok (.aload_n 0, 1) := by decide +kernel
theorem dX7_meet_210 : decode cX7_meet 210 = .ok (.iload_n 2, 1) := by decide +kernel
theorem dX7_meet_211 : decode cX7_meet 211 = .ok (.invokevirtual 134, 3) := by decide +kernel
theorem dX7_meet_214 : decode cX7_meet 214 = .ok (.return_, 1) := by decide +kernel
theorem dX7_run_0 : decode cX7_run 0 = .ok (.iconst 0, 1) := by decide +kernel
theorem dX7_run_1 : decode cX7_run 1 = .ok (.istore_n 2, 1) := by decide +kernel
theorem dX7_run_2 : decode cX7_run 2 = .ok (.iload_n 2, 1) := by decide +kernel
theorem dX7_run_3 : decode cX7_run 3 = .ok (.iconst 4, 1) := by decide +kernel
theorem dX7_run_4 : decode cX7_run 4 = .ok (.if_icmp .ge 65, 3) := by decide +kernel
theorem dX7_run_7 : decode cX7_run 7 = .ok (.aload_n 0, 1) := by decide +kernel
theorem dX7_run_8 : decode cX7_run 8 = .ok (.getfield 38, 3) := by decide +kernel
theorem dX7_run_11 : decode cX7_run 11 = .ok (.iload_n 2, 1) := by decide +kernel
theorem dX7_run_12 : decode cX7_run 12 = .ok (.iconst 0, 1) := by decide +kernel
theorem dX7_run_13 : decode cX7_run 13 = .ok (.iastore, 1) := by decide +kernel
theorem dX7_run_14 : decode cX7_run 14 = .ok (.aload_n 0, 1) := by decide +kernel
theorem dX7_run_15 : decode cX7_run 15 = .ok (.getfield 41, 3) := by decide +kernel
theorem dX7_run_18 : decode cX7_run 18 = .ok (.iload_n 2, 1) := by decide +kernel
theorem dX7_run_19 : decode cX7_run 19 = .ok (.iconst 0, 1) := by decide +kernel
theorem dX7_run_20 : decode cX7_run 20 = .ok (.iastore, 1) := by decide +kernel
theorem dX7_run_21 : decode cX7_run 21 = .ok (.aload_n 0, 1) := by decide +kernel
theorem dX7_run_22 : decode cX7_run 22 = .ok (.getfield 44, 3) := by decide +kernel
theorem dX7_run_25 : decode cX7_run 25 = .ok (.iload_n 2, 1) := by decide +kernel
theorem dX7_run_26 : decode cX7_run 26 = .ok (.iconst 0, 1) := by decide +kernel
theorem dX7_run_27 : decode cX7_run 27 = .ok (.iastore, 1) := by decide +kernel
theorem dX7_run_28 : decode cX7_run 28 = .ok (.aload_n 0, 1) := by decide +kernel
theorem dX7_run_29 : decode cX7_run 29 = .ok (.getfield 47, 3) := by decide +kernel
theorem dX7_run_32 : decode cX7_run 32 = .ok (.iload_n 2, 1) := by decide +kernel
theorem dX7_run_33 : decode cX7_run 33 = .ok (.iconst 0, 1) := by decide +kernel
theorem dX7_run_34 : decode cX7_run 34 = .ok (.iastore, 1) := by decide +kernel
theorem dX7_run_35 : decode cX7_run 35 = .ok (.aload_n 0, 1) := by decide +kernel
theorem dX7_run_36 : decode cX7_run 36 = .ok (.getfield 50, 3) := by decide +kernel
theorem dX7_run_39 : decode cX7_run 39 = .ok (.iload_n 2, 1) := by decide +kernel
theorem dX7_run_40 : decode cX7_run 40 = .ok (.iconst 0, 1) := by decide +kernel
theorem dX7_run_41 : decode cX7_run 41 = .ok (.iastore, 1) := by decide +kernel
theorem dX7_run_42 : decode cX7_run 42 = .ok (.aload_n 0, 1) := by decide +kernel
theorem dX7_run_43 : decode cX7_run 43 = .ok (.getfield 53, 3) := by decide +kernel
theorem dX7_run_46 : decode cX7_run 46 = .ok (.iload_n 2, 1) := by decide +kernel
theorem dX7_run_47 : decode cX7_run 47 = .ok (.iconst 0, 1) := by decide +kernel
theorem dX7_run_48 : decode cX7_run 48 = .ok (.iastore, 1) := by decide +kernel
theorem dX7_run_49 : decode cX7_run 49 = .ok (.aload_n 0, 1) := by decide +kernel
theorem dX7_run_50 : decode cX7_run 50 = .ok (.getfield 56, 3) := by decide +kernel
theorem dX7_run_53 : decode cX7_run 53 = .ok (.iload_n 2, 1) := by decide +kernel
theorem dX7_run_54 : decode cX7_run 54 = .ok (.iconst 0, 1) := by decide +kernel
theorem dX7_run_55 : decode cX7_run 55 = .ok (.iastore, 1) := by decide +kernel
theorem dX7_run_56 : decode cX7_run 56 = .ok (.aload_n 0, 1) := by decide +kernel
theorem dX7_run_57 : decode cX7_run 57 = .ok (.getfield 59, 3) := by decide +kernel
theorem dX7_run_60 : decode cX7_run 60 = .ok (.iload_n 2, 1) := by decide +kernel
theorem dX7_run_61 : decode cX7_run 61 = .ok (.iconst 0, 1) := by decide +kernel
theorem dX7_run_62 : decode cX7_run 62 = .ok (.iastore, 1) := by decide +kernel
theorem dX7_run_63 : decode cX7_run 63 = .ok (.iinc 2 1, 3) := by decide +kernel
theorem dX7_run_66 : decode cX7_run 66 = .ok (.goto (-64), 3) := by decide +kernel
theorem dX7_run_69 : decode cX7_run 69 = .ok (.iconst 0, 1) := by decide +kernel
theorem dX7_run_70 : decode cX7_run 70 = .ok (.istore_n 2, 1) := by decide +kernel
theorem dX7_run_71 : decode cX7_run 71 = .ok (.iload_n 2, 1) := by decide +kernel
theorem dX7_run_72 : decode cX7_run 72 = .ok (.aload_n 0, 1) := by decide +kernel
theorem dX7_run_73 : decode cX7_run 73 = .ok (.getfield 94, 3) := by decide +kernel
theorem dX7_run_76 : decode cX7_run 76 = .ok (.if_icmp .ge 16, 3) := by decide +kernel
theorem dX7_run_79 : decode cX7_run 79 = .ok (.aload_n 0, 1) := by decide +kernel
theorem dX7_run_80 : decode cX7_run 80 = .ok (.getfield 65, 3) := by decide +kernel
theorem dX7_run_83 : decode cX7_run 83 = .ok (.iload_n 2, 1) := by decide +kernel
theorem dX7_run_84 : decode cX7_run 84 = .ok (.iconst 0, 1) := by decide +kernel
theorem dX7_run_85 : decode cX7_run 85 = .ok (.iastore, 1) := by decide +kernel
theorem dX7_run_86 : decode cX7_run 86 = .ok (.iinc 2 1, 3) := by decide +kernel
theorem dX7_run_89 : decode cX7_run 89 = .ok (.goto (-18), 3) := by decide +kernel
theorem dX7_run_92 : decode cX7_run 92 = .ok (.aload_n 0, 1) := by decide +kernel
theorem dX7_run_93 : decode cX7_run 93 = .ok (.iconst 0, 1) := by decide +kernel
theorem dX7_run_94 : decode cX7_run 94 = .ok (.putfield 121, 3) := by decide +kernel
theorem dX7_run_97 : decode cX7_run 97 = .ok (.aload_n 0, 1) := by decide +kernel
theorem dX7_run_98 : decode cX7_run 98 = .ok (.iconst 0, 1) := by decide +kernel
theorem dX7_run_99 : decode cX7_run 99 = .ok (.putfield 127, 3) := by decide +kernel
theorem dX7_run_102 : decode cX7_run 102 = .ok (.iconst 0, 1) := by decide +kernel
theorem dX7_run_103 : decode cX7_run 103 = .ok (.istore_n 2, 1) := by decide +kernel
theorem dX7_run_104 : decode cX7_run 104 = .ok (.iload_n 2, 1) := by decide +kernel
theorem dX7_run_105 : decode cX7_run 105 = .ok (.aload_n 0, 1) := by decide +kernel
theorem dX7_run_106 : decode cX7_run 106 = .ok (.getfield 34, 3) := by decide +kernel
theorem dX7_run_109 : decode cX7_run 109 = .ok (.if_icmp .ge 155, 3) := by decide +kernel
theorem dX7_run_112 : decode cX7_run 112 = .ok (.iconst 0, 1) := by decide +kernel
theorem dX7_run_113 : decode cX7_run 113 = .ok (.istore_n 3, 1) := by decide +kernel
theorem dX7_run_114 : decode cX7_run 114 = .ok (.iload_n 3, 1) := by decide +kernel
theorem dX7_run_115 : decode cX7_run 115 = .ok (.aload_n 0, 1) := by decide +kernel
theorem dX7_run_116 : decode cX7_run 116 = .ok (.getfield 94, 3) := by decide +kernel
theorem dX7_run_119 : decode cX7_run 119 = .ok (.if_icmp .ge 24, 3) := by decide +kernel
theorem dX7_run_122 : decode cX7_run 122 = .ok (.aload_n 0, 1) := by decide +kernel
theorem dX7_run_123 : decode cX7_run 123 = .ok (.getfield 25, 3) := by decide +kernel
theorem dX7_run_126 : decode cX7_run 126 = .ok (.iload_n 3, 1) := by decide +kernel
theorem dX7_run_127 : decode cX7_run 127 = .ok (.iaload, 1) := by decide +kernel
theorem dX7_run_128 : decode cX7_run 128 = .ok (.iload_n 2, 1) := by decide +kernel
theorem dX7_run_129 : decode cX7_run 129 = .ok (.if_icmp .ne 8, 3) := by decide +kernel
theorem dX7_run_132 : decode cX7_run 132 = .ok (.aload_n 0, 1) := by decide +kernel
theorem dX7_run_133 : decode cX7_run 133 = .ok (.iload_n 3, 1) := by decide +kernel
theorem dX7_run_134 : decode cX7_run 134 = .ok (.invokevirtual 137, 3) := by decide +kernel
theorem dX7_run_137 : decode cX7_run 137 = .ok (.iinc 3 1, 3) := by decide +kernel
theorem dX7_run_140 : decode cX7_run 140 = .ok (.goto (-26), 3) := by decide +kernel
theorem dX7_run_143 : decode cX7_run 143 = .ok (.iconst 0, 1) := by decide +kernel
theorem dX7_run_144 : decode cX7_run 144 = .ok (.istore_n 3, 1) := by decide +kernel
theorem dX7_run_145 : decode cX7_run 145 = .ok (.iload_n 3, 1) := by decide +kernel
theorem dX7_run_146 : decode cX7_run 146 = .ok (.iconst 4, 1) := by decide +kernel
theorem dX7_run_147 : decode cX7_run 147 = .ok (.if_icmp .ge 111, 3) := by decide +kernel
theorem dX7_run_150 : decode cX7_run 150 = .ok (.aload_n 0, 1) := by decide +kernel
theorem dX7_run_151 : decode cX7_run 151 = .ok (.getfield 41, 3) := by decide +kernel
theorem dX7_run_154 : decode cX7_run 154 = .ok (.iload_n 3, 1) := by decide +kernel
theorem dX7_run_155 : decode cX7_run 155 = .ok (.aload_n 0, 1) := by decide +kernel
theorem dX7_run_156 : decode cX7_run 156 = .ok (.iload_n 3, 1) := by decide +kernel
theorem dX7_run_157 : decode cX7_run 157 = .ok (.aload_n 0, 1) := by decide +kernel
theorem dX7_run_158 : decode cX7_run 158 = .ok (.getfield 38, 3) := by decide +kernel
theorem dX7_run_161 : decode cX7_run 161 = .ok (.iload_n 3, 1) := by decide +kernel
theorem dX7_run_162 : decode cX7_run 162 = .ok (.iaload, 1) := by decide +kernel
theorem dX7_run_163 : decode cX7_run 163 = .ok (.invokevirtual 140, 3) := by decide +kernel
theorem dX7_run_166 : decode cX7_run 166 = .ok (.iastore, 1) := by decide +kernel
theorem dX7_run_167 : decode cX7_run 167 = .ok (.aload_n 0, 1) := by decide +kernel
theorem dX7_run_168 : decode cX7_run 168 = .ok (.getfield 44, 3) := by decide +kernel
theorem dX7_run_171 : decode cX7_run 171 = .ok (.iload_n 3, 1) := by decide +kernel
theorem dX7_run_172 : decode cX7_run 172 = .ok (.dup2, 1) := by decide +kernel
theorem dX7_run_173 : decode cX7_run 173 = .ok (.iaload, 1) := by decide +kernel
theorem dX7_run_174 : decode cX7_run 174 = .ok (.aload_n 0, 1) := by decide +kernel
theorem dX7_run_175 : decode cX7_run 175 = .ok (.getfield 13, 3) := by decide +kernel
theorem dX7_run_178 : decode cX7_run 178 = .ok (.iconst 4, 1) := by decide +kernel
theorem dX7_run_179 : decode cX7_run 179 = .ok (.iload_n 3, 1) := by decide +kernel
theorem dX7_run_180 : decode cX7_run 180 = .ok (.imul, 1) := by decide +kernel
theorem dX7_run_181 : decode cX7_run 181 = .ok (.aload_n 0, 1) := by decide +kernel
theorem dX7_run_182 : decode cX7_run 182 = .ok (.getfield 41, 3) := by decide +kernel
theorem dX7_run_185 : decode cX7_run 185 = .ok (.iload_n 3, 1) := by decide +kernel
theorem dX7_run_186 : decode cX7_run 186 = .ok (.iaload, 1) := by decide +kernel
theorem dX7_run_187 : decode cX7_run 187 = .ok (.iadd, 1) := by decide +kernel
theorem dX7_run_188 : decode cX7_run 188 = .ok (.iaload, 1) := by decide +kernel
theorem dX7_run_189 : decode cX7_run 189 = .ok (.iadd, 1) := by decide +kernel
theorem dX7_run_190 : decode cX7_run 190 = .ok (.iastore, 1) := by decide +kernel
theorem dX7_run_191 : decode cX7_run 191 = .ok (.iload_n 2, 1) := by decide +kernel
theorem dX7_run_192 : decode cX7_run 192 = .ok (.iload_n 1, 1) := by decide +kernel
theorem dX7_run_193 : decode cX7_run 193 = .ok (.if_icmp .ne 49, 3) := by decide +kernel
theorem dX7_run_196 : decode cX7_run 196 = .ok (.aload_n 0, 1) := by decide +kernel
theorem dX7_run_197 : decode cX7_run 197 = .ok (.getfield 71, 3) := by decide +kernel
theorem dX7_run_200 : decode cX7_run 200 = .ok (.iconst 3, 1) := by decide +kernel
theorem dX7_run_201 : decode cX7_run 201 = .ok (.iload_n 3, 1) := by decide +kernel
theorem dX7_run_202 : decode cX7_run 202 = .ok (.imul, 1) := by decide +kernel
theorem dX7_run_203 : decode cX7_run 203 = .ok (.aload_n 0, 1) := by decide +kernel
theorem dX7_run_204 : decode cX7_run 204 = .ok (.getfield 41, 3) := by decide +kernel
theorem dX7_run_207 : decode cX7_run 207 = .ok (.iload_n 3, 1) := by decide +kernel
theorem dX7_run_208 : decode cX7_run 208 = .ok (.iaload, 1) := by decide +kernel
theorem dX7_run_209 : decode cX7_run 209 = .ok (.iastore, 1) := by decide +kernel
theorem dX7_run_210 : decode cX7_run 210 = .ok (.aload_n 0, 1) := by decide +kernel
theorem dX7_run_211 : decode cX7_run 211 = .ok (.getfield 71, 3) := by decide +kernel
theorem dX7_run_214 : decode cX7_run 214 = .ok (.iconst 3, 1) := by decide +kernel
theorem dX7_run_215 : decode cX7_run 215 = .ok (.iload_n 3, 1) := by decide +kernel
theorem dX7_run_216 : decode cX7_run 216 = .ok (.imul, 1) := by decide +kernel
theorem dX7_run_217 : decode cX7_run 217 = .ok (.iconst 1, 1) := by decide +kernel
theorem dX7_run_218 : decode cX7_run 218 = .ok (.iadd, 1) := by decide +kernel
theorem dX7_run_219 : decode cX7_run 219 = .ok (.aload_n 0, 1) := by decide +kernel
theorem dX7_run_220 : decode cX7_run 220 = .ok (.getfield 38, 3) := by decide +kernel
theorem dX7_run_223 : decode cX7_run 223 = .ok (.iload_n 3, 1) := by decide +kernel
theorem dX7_run_224 : decode cX7_run 224 = .ok (.iaload, 1) := by decide +kernel
theorem dX7_run_225 : decode cX7_run 225 = .ok (.iastore, 1) := by decide +kernel
theorem dX7_run_226 : decode cX7_run 226 = .ok (.aload_n 0, 1) := by decide +kernel
theorem dX7_run_227 : decode cX7_run 227 = .ok (.getfield 71, 3) := by decide +kernel
theorem dX7_run_230 : decode cX7_run 230 = .ok (.iconst 3, 1) := by decide +kernel
theorem dX7_run_231 : decode cX7_run 231 = .ok (.iload_n 3, 1) := by decide +kernel
theorem dX7_run_232 : decode cX7_run 232 = .ok (.imul, 1) := by decide +kernel
theorem dX7_run_233 : decode cX7_run 233 = .ok (.iconst 2, 1) := by decide +kernel
theorem dX7_run_234 : decode cX7_run 234 = .ok (.iadd, 1) := by decide +kernel
theorem dX7_run_235 : decode cX7_run 235 = .ok (.aload_n 0, 1) := by decide +kernel
theorem dX7_run_236 : decode cX7_run 236 = .ok (.getfield 44, 3) := by decide +kernel
theorem dX7_run_239 : decode cX7_run 239 = .ok (.iload_n 3, 1) := by decide +kernel
theorem dX7_run_240 : decode cX7_run 240 = .ok (.iaload, 1) := by decide +kernel
theorem dX7_run_241 : decode cX7_run 241 = .ok (.iastore, 1) := by decide +kernel
theorem dX7_run_242 : decode cX7_run 242 = .ok (.aload_n 0, 1) := by decide +kernel
theorem dX7_run_243 : decode cX7_run 243 = .ok (.getfield 38, 3) := by decide +kernel
theorem dX7_run_246 : decode cX7_run 246 = .ok (.iload_n 3, 1) := by decide +kernel
theorem dX7_run_247 : decode cX7_run 247 = .ok (.dup2, 1) := by decide +kernel
theorem dX7_run_248 : decode cX7_run 248 = .ok (.iaload, 1) := by decide +kernel
theorem dX7_run_249 : decode cX7_run 249 = .ok (.iconst 1, 1) := by decide +kernel
theorem dX7_run_250 : decode cX7_run 250 = .ok (.iadd, 1) := by decide +kernel
theorem dX7_run_251 : decode cX7_run 251 = .ok (.iastore, 1) := by decide +kernel
theorem dX7_run_252 : decode cX7_run 252 = .ok (.iinc 3 1, 3) := by decide +kernel
theorem dX7_run_255 : decode cX7_run 255 = .ok (.goto (-110), 3) := by decide +kernel
theorem dX7_run_258 : decode cX7_run 258 = .ok (.iinc 2 1, 3) := by decide +kernel
theorem dX7_run_261 : decode cX7_run 261 = .ok (.goto (-157), 3) := by decide +kernel
theorem dX7_run_264 : decode cX7_run 264 = .ok (.return_, 1) := by decide +kernel
theorem dX7_stayOf_0 : decode cX7_stayOf 0 = .ok (.iconst 0, 1) := by decide +kernel
theorem dX7_stayOf_1 : decode cX7_stayOf 1 = .ok (.istore_n 2, 1) := by decide +kernel
theorem dX7_stayOf_2 : decode cX7_stayOf 2 = .ok (.iconst 0, 1) := by decide +kernel
theorem dX7_stayOf_3 : decode cX7_stayOf 3 = .ok (.istore_n 3, 1) := by decide +kernel
theorem dX7_stayOf_4 : decode cX7_stayOf 4 = .ok (.iload_n 3, 1) := by decide +kernel
theorem dX7_stayOf_5 : decode cX7_stayOf 5 = .ok (.aload_n 0, 1) := by decide +kernel
theorem dX7_stayOf_6 : decode cX7_stayOf 6 = .ok (.getfield 121, 3) := by decide +kernel
theorem dX7_stayOf_9 : decode cX7_stayOf 9 = .ok (.if_icmp .ge 32, 3) := by decide +kernel
theorem dX7_stayOf_12 : decode cX7_stayOf 12 = .ok (.iload_n 2, 1) := by decide +kernel
theorem dX7_stayOf_13 : decode cX7_stayOf 13 = .ok (.aload_n 0, 1) := by decide +kernel
theorem dX7_stayOf_14 : decode cX7_stayOf 14 = .ok (.getfield 28, 3) := by decide +kernel
theorem dX7_stayOf_17 : decode cX7_stayOf 17 = .ok (.aload_n 0, 1) := by decide +kernel
theorem dX7_stayOf_18 : decode cX7_stayOf 18 = .ok (.getfield 68, 3) := by decide +kernel
theorem dX7_stayOf_21 : decode cX7_stayOf 21 = .ok (.iload_n 3, 1) := by decide +kernel
theorem dX7_stayOf_22 : decode cX7_stayOf 22 = .ok (.iaload, 1) := by decide +kernel
theorem dX7_stayOf_23 : decode cX7_stayOf 23 = .ok (.iaload, 1) := by decide +kernel
theorem dX7_stayOf_24 : decode cX7_stayOf 24 = .ok (.iload_n 1, 1) := by decide +kernel
theorem dX7_stayOf_25 : decode cX7_stayOf 25 = .ok (.if_icmp .ne 7, 3) := by decide +kernel
theorem dX7_stayOf_28 : decode cX7_stayOf 28 = .ok (.iconst 1, 1) := by decide +kernel
theorem dX7_stayOf_29 : decode cX7_stayOf 29 = .ok (.goto 4, 3) := by decide +kernel
theorem dX7_stayOf_32 : decode cX7_stayOf 32 = .ok (.iconst 0, 1) := by decide +kernel
theorem dX7_stayOf_33 : decode cX7_stayOf 33 = .ok (.iadd, 1) := by decide +kernel
theorem dX7_stayOf_34 : decode cX7_stayOf 34 = .ok (.istore_n 2, 1) := by decide +kernel
theorem dX7_stayOf_35 : decode cX7_stayOf 35 = .ok (.iinc 3 1, 3) := by decide +kernel
theorem dX7_stayOf_38 : decode cX7_stayOf 38 = .ok (.goto (-34), 3) := by decide +kernel
theorem dX7_stayOf_41 : decode cX7_stayOf 41 = .ok (.iload_n 2, 1) := by decide +kernel
theorem dX7_stayOf_42 : decode cX7_stayOf 42 = .ok (.ireturn, 1) := by decide +kernel
theorem dX7_disk_0 : decode cX7_disk 0 = .ok (.iload_n 1, 1) := by decide +kernel
theorem dX7_disk_1 : decode cX7_disk 1 = .ok (.invokestatic 97, 3) := by decide +kernel
theorem dX7_disk_4 : decode cX7_disk 4 = .ok (.ifCond .ne 5, 3) := by decide +kernel
theorem dX7_disk_7 : decode cX7_disk 7 = .ok (.iconst (-1), 1) := by decide +kernel
theorem dX7_disk_8 : decode cX7_disk 8 = .ok (.ireturn, 1) := by decide +kernel
theorem dX7_disk_9 : decode cX7_disk 9 = .ok (.iload_n 2, 1) := by decide +kernel
theorem dX7_disk_10 : decode cX7_disk 10 = .ok (.iconst 0, 1) := by decide +kernel
theorem dX7_disk_11 : decode cX7_disk 11 = .ok (.bipush 9, 2) := by decide +kernel
theorem dX7_disk_13 : decode cX7_disk 13 = .ok (.invokestatic 90, 3) := by decide +kernel
theorem dX7_disk_16 : decode cX7_disk 16 = .ok (.ifCond .ne 6, 3) := by decide +kernel
theorem dX7_disk_19 : decode cX7_disk 19 = .ok (.bipush (-2), 2) := by decide +kernel
theorem dX7_disk_21 : decode cX7_disk 21 = .ok (.ireturn, 1) := by decide +kernel
theorem dX7_disk_22 : decode cX7_disk 22 = .ok (.aload_n 0, 1) := by decide +kernel
theorem dX7_disk_23 : decode cX7_disk 23 = .ok (.bipush (-6), 2) := by decide +kernel
theorem dX7_disk_25 : decode cX7_disk 25 = .ok (.invokevirtual 143, 3) := by decide +kernel
theorem dX7_disk_28 : decode cX7_disk 28 = .ok (.iload_n 2, 1) := by decide +kernel
theorem dX7_disk_29 : decode cX7_disk 29 = .ok (.tableswitch 113 0 8 #[51, 58, 65, 72, 79, 86, 92, 99, 106], 51) := by decide +kernel
theorem dX7_disk_80 : decode cX7_disk 80 = .ok (.aload_n 0, 1) := by decide +kernel
theorem dX7_disk_81 : decode cX7_disk 81 = .ok (.getfield 44, 3) := by decide +kernel
theorem dX7_disk_84 : decode cX7_disk 84 = .ok (.iload_n 1, 1) := by decide +kernel
theorem dX7_disk_85 : decode cX7_disk 85 = .ok (.iaload, 1) := by decide +kernel
theorem dX7_disk_86 : decode cX7_disk 86 = .ok (.ireturn, 1) := by decide +kernel
theorem dX7_disk_87 : decode cX7_disk 87 = .ok (.aload_n 0, 1) := by decide +kernel
theorem dX7_disk_88 : decode cX7_disk 88 = .ok (.getfield 47, 3) := by decide +kernel
theorem dX7_disk_91 : decode cX7_disk 91 = .ok (.iload_n 1, 1) := by decide +kernel
theorem dX7_disk_92 : decode cX7_disk 92 = .ok (.iaload, 1) := by decide +kernel
theorem dX7_disk_93 : decode cX7_disk 93 = .ok (.ireturn, 1) := by decide +kernel
theorem dX7_disk_94 : decode cX7_disk 94 = .ok (.aload_n 0, 1) := by decide +kernel
theorem dX7_disk_95 : decode cX7_disk 95 = .ok (.getfield 50, 3) := by decide +kernel
theorem dX7_disk_98 : decode cX7_disk 98 = .ok (.iload_n 1, 1) := by decide +kernel
theorem dX7_disk_99 : decode cX7_disk 99 = .ok (.iaload, 1) := by decide +kernel
theorem dX7_disk_100 : decode cX7_disk 100 = .ok (.ireturn, 1) := by decide +kernel
theorem dX7_disk_101 : decode cX7_disk 101 = .ok (.aload_n 0, 1) := by decide +kernel
theorem dX7_disk_102 : decode cX7_disk 102 = .ok (.getfield 53, 3) := by decide +kernel
theorem dX7_disk_105 : decode cX7_disk 105 = .ok (.iload_n 1, 1) := by decide +kernel
theorem dX7_disk_106 : decode cX7_disk 106 = .ok (.iaload, 1) := by decide +kernel
theorem dX7_disk_107 : decode cX7_disk 107 = .ok (.ireturn, 1) := by decide +kernel
theorem dX7_disk_108 : decode cX7_disk 108 = .ok (.aload_n 0, 1) := by decide +kernel
theorem dX7_disk_109 : decode cX7_disk 109 = .ok (.getfield 56, 3) := by decide +kernel
theorem dX7_disk_112 : decode cX7_disk 112 = .ok (.iload_n 1, 1) := by decide +kernel
theorem dX7_disk_113 : decode cX7_disk 113 = .ok (.iaload, 1) := by decide +kernel
theorem dX7_disk_114 : decode cX7_disk 114 = .ok (.ireturn, 1) := by decide +kernel
theorem dX7_disk_115 : decode cX7_disk 115 = .ok (.aload_n 0, 1) := by decide +kernel
theorem dX7_disk_116 : decode cX7_disk 116 = .ok (.iload_n 1, 1) := by decide +kernel
theorem dX7_disk_117 : decode cX7_disk 117 = .ok (.invokevirtual 146, 3) := by decide +kernel
theorem dX7_disk_120 : decode cX7_disk 120 = .ok (.ireturn, 1) := by decide +kernel
theorem dX7_disk_121 : decode cX7_disk 121 = .ok (.aload_n 0, 1) := by decide +kernel
theorem dX7_disk_122 : decode cX7_disk 122 = .ok (.getfield 59, 3) := by decide +kernel
theorem dX7_disk_125 : decode cX7_disk 125 = .ok (.iload_n 1, 1) := by decide +kernel
theorem dX7_disk_126 : decode cX7_disk 126 = .ok (.iaload, 1) := by decide +kernel
theorem dX7_disk_127 : decode cX7_disk 127 = .ok (.ireturn, 1) := by decide +kernel
theorem dX7_disk_128 : decode cX7_disk 128 = .ok (.aload_n 0, 1) := by decide +kernel
theorem dX7_disk_129 : decode cX7_disk 129 = .ok (.getfield 38, 3) := by decide +kernel
theorem dX7_disk_132 : decode cX7_disk 132 = .ok (.iload_n 1, 1) := by decide +kernel
theorem dX7_disk_133 : decode cX7_disk 133 = .ok (.iaload, 1) := by decide +kernel
theorem dX7_disk_134 : decode cX7_disk 134 = .ok (.ireturn, 1) := by decide +kernel
theorem dX7_disk_135 : decode cX7_disk 135 = .ok (.aload_n 0, 1) := by decide +kernel
theorem dX7_disk_136 : decode cX7_disk 136 = .ok (.getfield 41, 3) := by decide +kernel
theorem dX7_disk_139 : decode cX7_disk 139 = .ok (.iload_n 1, 1) := by decide +kernel
theorem dX7_disk_140 : decode cX7_disk 140 = .ok (.iaload, 1) := by decide +kernel
theorem dX7_disk_141 : decode cX7_disk 141 = .ok (.ireturn, 1) := by decide +kernel
theorem dX7_disk_142 : decode cX7_disk 142 = .ok (.aload_n 0, 1) := by decide +kernel
theorem dX7_disk_143 : decode cX7_disk 143 = .ok (.iload_n 1, 1) := by decide +kernel
theorem dX7_disk_144 : decode cX7_disk 144 = .ok (.aload_n 0, 1) := by decide +kernel
theorem dX7_disk_145 : decode cX7_disk 145 = .ok (.getfield 19, 3) := by decide +kernel
theorem dX7_disk_148 : decode cX7_disk 148 = .ok (.iload_n 1, 1) := by decide +kernel
theorem dX7_disk_149 : decode cX7_disk 149 = .ok (.iaload, 1) := by decide +kernel
theorem dX7_disk_150 : decode cX7_disk 150 = .ok (.iconst 3, 1) := by decide +kernel
theorem dX7_disk_151 : decode cX7_disk 151 = .ok (.if_icmp .ne 12, 3) := by decide +kernel
theorem dX7_disk_154 : decode cX7_disk 154 = .ok (.aload_n 0, 1) := by decide +kernel
theorem dX7_disk_155 : decode cX7_disk 155 = .ok (.getfield 22, 3) := by decide +kernel
theorem dX7_disk_158 : decode cX7_disk 158 = .ok (.iload_n 1, 1) := by decide +kernel
theorem dX7_disk_159 : decode cX7_disk 159 = .ok (.iaload, 1) := by decide +kernel
theorem dX7_disk_160 : decode cX7_disk 160 = .ok (.goto 4, 3) := by decide +kernel
theorem dX7_disk_163 : decode cX7_disk 163 = .ok (.iconst 4, 1) := by decide +kernel
theorem dX7_disk_164 : decode cX7_disk 164 = .ok (.invokevirtual 118, 3) := by decide +kernel
theorem dX7_disk_167 : decode cX7_disk 167 = .ok (.ireturn, 1) := by decide +kernel
theorem dX7_at_0 : decode cX7_at 0 = .ok (.iload_n 1, 1) := by decide +kernel
theorem dX7_at_1 : decode cX7_at 1 = .ok (.invokestatic 97, 3) := by decide +kernel
theorem dX7_at_4 : decode cX7_at 4 = .ok (.ifCond .ne 5, 3) := by decide +kernel
theorem dX7_at_7 : decode cX7_at 7 = .ok (.iconst (-1), 1) := by decide +kernel
theorem dX7_at_8 : decode cX7_at 8 = .ok (.ireturn, 1) := by decide +kernel
theorem dX7_at_9 : decode cX7_at 9 = .ok (.iload_n 2, 1) := by decide +kernel
theorem dX7_at_10 : decode cX7_at 10 = .ok (.iconst 0, 1) := by decide +kernel
theorem dX7_at_11 : decode cX7_at 11 = .ok (.aload_n 0, 1) := by decide +kernel
theorem dX7_at_12 : decode cX7_at 12 = .ok (.getfield 34, 3) := by decide +kernel
theorem dX7_at_15 : decode cX7_at 15 = .ok (.iconst 1, 1) := by decide +kernel
theorem dX7_at_16 : decode cX7_at 16 = .ok (.isub, 1) := by decide +kernel
theorem dX7_at_17 : decode cX7_at 17 = .ok (.invokestatic 90, 3) := by decide +kernel
theorem dX7_at_20 : decode cX7_at 20 = .ok (.ifCond .eq 12, 3) := by decide +kernel
theorem dX7_at_23 : decode cX7_at 23 = .ok (.iload_n 3, 1) := by decide +kernel
theorem dX7_at_24 : decode cX7_at 24 = .ok (.iconst 0, 1) := by decide +kernel
theorem dX7_at_25 : decode cX7_at 25 = .ok (.iconst 2, 1) := by decide +kernel
theorem dX7_at_26 : decode cX7_at 26 = .ok (.invokestatic 90, 3) := by decide +kernel
theorem dX7_at_29 : decode cX7_at 29 = .ok (.ifCond .ne 6, 3) := by decide +kernel
theorem dX7_at_32 : decode cX7_at 32 = .ok (.bipush (-2), 2) := by decide +kernel
theorem dX7_at_34 : decode cX7_at 34 = .ok (.ireturn, 1) := by decide +kernel
theorem dX7_at_35 : decode cX7_at 35 = .ok (.aload_n 0, 1) := by decide +kernel
theorem dX7_at_36 : decode cX7_at 36 = .ok (.iload_n 2, 1) := by decide +kernel
theorem dX7_at_37 : decode cX7_at 37 = .ok (.invokevirtual 143, 3) := by decide +kernel
theorem dX7_at_40 : decode cX7_at 40 = .ok (.aload_n 0, 1) := by decide +kernel
theorem dX7_at_41 : decode cX7_at 41 = .ok (.getfield 71, 3) := by decide +kernel
theorem dX7_at_44 : decode cX7_at 44 = .ok (.iconst 3, 1) := by decide +kernel
theorem dX7_at_45 : decode cX7_at 45 = .ok (.iload_n 1, 1) := by decide +kernel
theorem dX7_at_46 : decode cX7_at 46 = .ok (.imul, 1) := by decide +kernel
theorem dX7_at_47 : decode cX7_at 47 = .ok (.iload_n 3, 1) := by decide +kernel
theorem dX7_at_48 : decode cX7_at 48 = .ok (.iadd, 1) := by decide +kernel
theorem dX7_at_49 : decode cX7_at 49 = .ok (.iaload, 1) := by decide +kernel
theorem dX7_at_50 : decode cX7_at 50 = .ok (.ireturn, 1) := by decide +kernel
theorem dX7_fate_0 : decode cX7_fate 0 = .ok (.aload_n 0, 1) := by decide +kernel
theorem dX7_fate_1 : decode cX7_fate 1 = .ok (.iload_n 1, 1) := by decide +kernel
theorem dX7_fate_2 : decode cX7_fate 2 = .ok (.invokevirtual 105, 3) := by decide +kernel
theorem dX7_fate_5 : decode cX7_fate 5 = .ok (.ifCond .ne 5, 3) := by decide +kernel
theorem dX7_fate_8 : decode cX7_fate 8 = .ok (.iconst (-1), 1) := by decide +kernel
theorem dX7_fate_9 : decode cX7_fate 9 = .ok (.ireturn, 1) := by decide +kernel
theorem dX7_fate_10 : decode cX7_fate 10 = .ok (.aload_n 0, 1) := by decide +kernel
theorem dX7_fate_11 : decode cX7_fate 11 = .ok (.bipush (-6), 2) := by decide +kernel
theorem dX7_fate_13 : decode cX7_fate 13 = .ok (.invokevirtual 143, 3) := by decide +kernel
theorem dX7_fate_16 : decode cX7_fate 16 = .ok (.aload_n 0, 1) := by decide +kernel
theorem dX7_fate_17 : decode cX7_fate 17 = .ok (.getfield 65, 3) := by decide +kernel
theorem dX7_fate_20 : decode cX7_fate 20 = .ok (.iload_n 1, 1) := by decide +kernel
theorem dX7_fate_21 : decode cX7_fate 21 = .ok (.iaload, 1) := by decide +kernel
theorem dX7_fate_22 : decode cX7_fate 22 = .ok (.ireturn, 1) := by decide +kernel
theorem dX7_waiting_0 : decode cX7_waiting 0 = .ok (.aload_n 0, 1) := by decide +kernel
theorem dX7_waiting_1 : decode cX7_waiting 1 = .ok (.bipush (-6), 2) := by decide +kernel
theorem dX7_waiting_3 : decode cX7_waiting 3 = .ok (.invokevirtual 143, 3) := by decide +kernel
theorem dX7_waiting_6 : decode cX7_waiting 6 = .ok (.iload_n 1, 1) := by decide +kernel
theorem dX7_waiting_7 : decode cX7_waiting 7 = .ok (.iconst 0, 1) := by decide +kernel
theorem dX7_waiting_8 : decode cX7_waiting 8 = .ok (.aload_n 0, 1) := by decide +kernel
theorem dX7_waiting_9 : decode cX7_waiting 9 = .ok (.getfield 121, 3) := by decide +kernel
theorem dX7_waiting_12 : decode cX7_waiting 12 = .ok (.iconst 1, 1) := by decide +kernel
theorem dX7_waiting_13 : decode cX7_waiting 13 = .ok (.isub, 1) := by decide +kernel
theorem dX7_waiting_14 : decode cX7_waiting 14 = .ok (.invokestatic 90, 3) := by decide +kernel
theorem dX7_waiting_17 : decode cX7_waiting 17 = .ok (.ifCond .eq 12, 3) := by decide +kernel
theorem dX7_waiting_20 : decode cX7_waiting 20 = .ok (.aload_n 0, 1) := by decide +kernel
theorem dX7_waiting_21 : decode cX7_waiting 21 = .ok (.getfield 68, 3) := by decide +kernel
theorem dX7_waiting_24 : decode cX7_waiting 24 = .ok (.iload_n 1, 1) := by decide +kernel
theorem dX7_waiting_25 : decode cX7_waiting 25 = .ok (.iaload, 1) := by decide +kernel
theorem dX7_waiting_26 : decode cX7_waiting 26 = .ok (.goto 5, 3) := by decide +kernel
theorem dX7_waiting_29 : decode cX7_waiting 29 = .ok (.bipush (-6), 2) := by decide +kernel
theorem dX7_waiting_31 : decode cX7_waiting 31 = .ok (.ireturn, 1) := by decide +kernel
theorem dX7_nextAsked_0 : decode cX7_nextAsked 0 = .ok (.aload_n 0, 1) := by decide +kernel
theorem dX7_nextAsked_1 : decode cX7_nextAsked 1 = .ok (.getfield 34, 3) := by decide +kernel
theorem dX7_nextAsked_4 : decode cX7_nextAsked 4 = .ok (.istore_n 3, 1) := by decide +kernel
theorem dX7_nextAsked_5 : decode cX7_nextAsked 5 = .ok (.iconst 0, 1) := by decide +kernel
theorem dX7_nextAsked_6 : decode cX7_nextAsked 6 = .ok (.istore 4, 2) := by decide +kernel
theorem dX7_nextAsked_8 : decode cX7_nextAsked 8 = .ok (.iload 4, 2) := by decide +kernel
theorem dX7_nextAsked_10 : decode cX7_nextAsked 10 = .ok (.aload_n 0, 1) := by decide +kernel
theorem dX7_nextAsked_11 : decode cX7_nextAsked 11 = .ok (.getfield 94, 3) := by decide +kernel
theorem dX7_nextAsked_14 : decode cX7_nextAsked 14 = .ok (.if_icmp .ge 54, 3) := by decide +kernel
theorem dX7_nextAsked_17 : decode cX7_nextAsked 17 = .ok (.aload_n 0, 1) := by decide +kernel
theorem dX7_nextAsked_18 : decode cX7_nextAsked 18 = .ok (.getfield 28, 3) := by decide +kernel
theorem dX7_nextAsked_21 : decode cX7_nextAsked 21 = .ok (.iload 4, 2) := by decide +kernel
theorem dX7_nextAsked_23 : decode cX7_nextAsked 23 = .ok (.iaload, 1) := by decide +kernel
theorem dX7_nextAsked_24 : decode cX7_nextAsked 24 = .ok (.iload_n 1, 1) := by decide +kernel
theorem dX7_nextAsked_25 : decode cX7_nextAsked 25 = .ok (.if_icmp .ne 35, 3) := by decide +kernel
theorem dX7_nextAsked_28 : decode cX7_nextAsked 28 = .ok (.aload_n 0, 1) := by decide +kernel
theorem dX7_nextAsked_29 : decode cX7_nextAsked 29 = .ok (.getfield 25, 3) := by decide +kernel
theorem dX7_nextAsked_32 : decode cX7_nextAsked 32 = .ok (.iload 4, 2) := by decide +kernel
theorem dX7_nextAsked_34 : decode cX7_nextAsked 34 = .ok (.iaload, 1) := by decide +kernel
theorem dX7_nextAsked_35 : decode cX7_nextAsked 35 = .ok (.iload_n 2, 1) := by decide +kernel
theorem dX7_nextAsked_36 : decode cX7_nextAsked 36 = .ok (.if_icmp .le 24, 3) := by decide +kernel
theorem dX7_nextAsked_39 : decode cX7_nextAsked 39 = .ok (.aload_n 0, 1) := by decide +kernel
theorem dX7_nextAsked_40 : decode cX7_nextAsked 40 = .ok (.getfield 25, 3) := by decide +kernel
theorem dX7_nextAsked_43 : decode cX7_nextAsked 43 = .ok (.iload 4, 2) := by decide +kernel
theorem dX7_nextAsked_45 : decode cX7_nextAsked 45 = .ok (.iaload, 1) := by decide +kernel
theorem dX7_nextAsked_46 : decode cX7_nextAsked 46 = .ok (.iload_n 3, 1) := by decide +kernel
theorem dX7_nextAsked_47 : decode cX7_nextAsked 47 = .ok (.if_icmp .ge 13, 3) := by decide +kernel
theorem dX7_nextAsked_50 : decode cX7_nextAsked 50 = .ok (.aload_n 0, 1) := by decide +kernel
theorem dX7_nextAsked_51 : decode cX7_nextAsked 51 = .ok (.getfield 25, 3) := by decide +kernel
theorem dX7_nextAsked_54 : decode cX7_nextAsked 54 = .ok (.iload 4, 2) := by decide +kernel
theorem dX7_nextAsked_56 : decode cX7_nextAsked 56 = .ok (.iaload, 1) := by decide +kernel
theorem dX7_nextAsked_57 : decode cX7_nextAsked 57 = .ok (.goto 4, 3) := by decide +kernel
theorem dX7_nextAsked_60 : decode cX7_nextAsked 60 = .ok (.iload_n 3, 1) := by decide +kernel
theorem dX7_nextAsked_61 : decode cX7_nextAsked 61 = .ok (.istore_n 3, 1) := by decide +kernel
theorem dX7_nextAsked_62 : decode cX7_nextAsked 62 = .ok (.iinc 4 1, 3) := by decide +kernel
theorem dX7_nextAsked_65 : decode cX7_nextAsked 65 = .ok (.goto (-57), 3) := by decide +kernel
theorem dX7_nextAsked_68 : decode cX7_nextAsked 68 = .ok (.iload_n 3, 1) := by decide +kernel
theorem dX7_nextAsked_69 : decode cX7_nextAsked 69 = .ok (.ireturn, 1) := by decide +kernel
theorem dX7_leastOf_0 : decode cX7_leastOf 0 = .ok (.aload_n 0, 1) := by decide +kernel
theorem dX7_leastOf_1 : decode cX7_leastOf 1 = .ok (.iload_n 1, 1) := by decide +kernel
theorem dX7_leastOf_2 : decode cX7_leastOf 2 = .ok (.aload_n 0, 1) := by decide +kernel
theorem dX7_leastOf_3 : decode cX7_leastOf 3 = .ok (.iload_n 1, 1) := by decide +kernel
theorem dX7_leastOf_4 : decode cX7_leastOf 4 = .ok (.iload_n 2, 1) := by decide +kernel
theorem dX7_leastOf_5 : decode cX7_leastOf 5 = .ok (.invokevirtual 115, 3) := by decide +kernel
theorem dX7_leastOf_8 : decode cX7_leastOf 8 = .ok (.iload_n 2, 1) := by decide +kernel
theorem dX7_leastOf_9 : decode cX7_leastOf 9 = .ok (.invokevirtual 111, 3) := by decide +kernel
theorem dX7_leastOf_12 : decode cX7_leastOf 12 = .ok (.ireturn, 1) := by decide +kernel
theorem dX7_leastToEnd_0 : decode cX7_leastToEnd 0 = .ok (.aload_n 0, 1) := by decide +kernel
theorem dX7_leastToEnd_1 : decode cX7_leastToEnd 1 = .ok (.getfield 13, 3) := by decide +kernel
theorem dX7_leastToEnd_4 : decode cX7_leastToEnd 4 = .ok (.iconst 4, 1) := by decide +kernel
theorem dX7_leastToEnd_5 : decode cX7_leastToEnd 5 = .ok (.iload_n 1, 1) := by decide +kernel
theorem dX7_leastToEnd_6 : decode cX7_leastToEnd 6 = .ok (.imul, 1) := by decide +kernel
theorem dX7_leastToEnd_7 : decode cX7_leastToEnd 7 = .ok (.iaload, 1) := by decide +kernel
theorem dX7_leastToEnd_8 : decode cX7_leastToEnd 8 = .ok (.iload_n 2, 1) := by decide +kernel
theorem dX7_leastToEnd_9 : decode cX7_leastToEnd 9 = .ok (.imul, 1) := by decide +kernel
theorem dX7_leastToEnd_10 : decode cX7_leastToEnd 10 = .ok (.istore_n 3, 1) := by decide +kernel
theorem dX7_leastToEnd_11 : decode cX7_leastToEnd 11 = .ok (.iconst 1, 1) := by decide +kernel
theorem dX7_leastToEnd_12 : decode cX7_leastToEnd 12 = .ok (.istore 4, 2) := by decide +kernel
theorem dX7_leastToEnd_14 : decode cX7_leastToEnd 14 = .ok (.iload 4, 2) := by decide +kernel
theorem dX7_leastToEnd_16 : decode cX7_leastToEnd 16 = .ok (.aload_n 0, 1) := by decide +kernel
theorem dX7_leastToEnd_17 : decode cX7_leastToEnd 17 = .ok (.getfield 7, 3) := by decide +kernel
theorem dX7_leastToEnd_20 : decode cX7_leastToEnd 20 = .ok (.iload_n 1, 1) := by decide +kernel
theorem dX7_leastToEnd_21 : decode cX7_leastToEnd 21 = .ok (.iaload, 1) := by decide +kernel
theorem dX7_leastToEnd_22 : decode cX7_leastToEnd 22 = .ok (.if_icmp .gt 44, 3) := by decide +kernel
theorem dX7_leastToEnd_25 : decode cX7_leastToEnd 25 = .ok (.aload_n 0, 1) := by decide +kernel
theorem dX7_leastToEnd_26 : decode cX7_leastToEnd 26 = .ok (.getfield 13, 3) := by decide +kernel
theorem dX7_leastToEnd_29 : decode cX7_leastToEnd 29 = .ok (.iconst 4, 1) := by decide +kernel
theorem dX7_leastToEnd_30 : decode cX7_leastToEnd 30 = .ok (.iload_n 1, 1) := by decide +kernel
theorem dX7_leastToEnd_31 : decode cX7_leastToEnd 31 = .ok (.imul, 1) := by decide +kernel
theorem dX7_leastToEnd_32 : decode cX7_leastToEnd 32 = .ok (.iload 4, 2) := by decide +kernel
theorem dX7_leastToEnd_34 : decode cX7_leastToEnd 34 = .ok (.iadd, 1) := by decide +kernel
theorem dX7_leastToEnd_35 : decode cX7_leastToEnd 35 = .ok (.iaload, 1) := by decide +kernel
theorem dX7_leastToEnd_36 : decode cX7_leastToEnd 36 = .ok (.iload_n 2, 1) := by decide +kernel
theorem dX7_leastToEnd_37 : decode cX7_leastToEnd 37 = .ok (.imul, 1) := by decide +kernel
theorem dX7_leastToEnd_38 : decode cX7_leastToEnd 38 = .ok (.iload_n 3, 1) := by decide +kernel
theorem dX7_leastToEnd_39 : decode cX7_leastToEnd 39 = .ok (.if_icmp .ge 19, 3) := by decide +kernel
theorem dX7_leastToEnd_42 : decode cX7_leastToEnd 42 = .ok (.aload_n 0, 1) := by decide +kernel
theorem dX7_leastToEnd_43 : decode cX7_leastToEnd 43 = .ok (.getfield 13, 3) := by decide +kernel
theorem dX7_leastToEnd_46 : decode cX7_leastToEnd 46 = .ok (.iconst 4, 1) := by decide +kernel
theorem dX7_leastToEnd_47 : decode cX7_leastToEnd 47 = .ok (.iload_n 1, 1) := by decide +kernel
theorem dX7_leastToEnd_48 : decode cX7_leastToEnd 48 = .ok (.imul, 1) := by decide +kernel
theorem dX7_leastToEnd_49 : decode cX7_leastToEnd 49 = .ok (.iload 4, 2) := by decide +kernel
theorem dX7_leastToEnd_51 : decode cX7_leastToEnd 51 = .ok (.iadd, 1) := by decide +kernel
theorem dX7_leastToEnd_52 : decode cX7_leastToEnd 52 = .ok (.iaload, 1) := by decide +kernel
theorem dX7_leastToEnd_53 : decode cX7_leastToEnd 53 = .ok (.iload_n 2, 1) := by decide +kernel
theorem dX7_leastToEnd_54 : decode cX7_leastToEnd 54 = .ok (.imul, 1) := by decide +kernel
theorem dX7_leastToEnd_55 : decode cX7_leastToEnd 55 = .ok (.goto 4, 3) := by decide +kernel
theorem dX7_leastToEnd_58 : decode cX7_leastToEnd 58 = .ok (.iload_n 3, 1) := by decide +kernel
theorem dX7_leastToEnd_59 : decode cX7_leastToEnd 59 = .ok (.istore_n 3, 1) := by decide +kernel
theorem dX7_leastToEnd_60 : decode cX7_leastToEnd 60 = .ok (.iinc 4 1, 3) := by decide +kernel
theorem dX7_leastToEnd_63 : decode cX7_leastToEnd 63 = .ok (.goto (-49), 3) := by decide +kernel
theorem dX7_leastToEnd_66 : decode cX7_leastToEnd 66 = .ok (.iload_n 3, 1) := by decide +kernel
theorem dX7_leastToEnd_67 : decode cX7_leastToEnd 67 = .ok (.ireturn, 1) := by decide +kernel
theorem dX7_layGaps_0 : decode cX7_layGaps 0 = .ok (.aload_n 0, 1) := by decide +kernel
theorem dX7_layGaps_1 : decode cX7_layGaps 1 = .ok (.iconst 0, 1) := by decide +kernel
theorem dX7_layGaps_2 : decode cX7_layGaps 2 = .ok (.putfield 150, 3) := by decide +kernel
theorem dX7_layGaps_5 : decode cX7_layGaps 5 = .ok (.iconst 0, 1) := by decide +kernel
theorem dX7_layGaps_6 : decode cX7_layGaps 6 = .ok (.istore_n 2, 1) := by decide +kernel
theorem dX7_layGaps_7 : decode cX7_layGaps 7 = .ok (.iload_n 2, 1) := by decide +kernel
theorem dX7_layGaps_8 : decode cX7_layGaps 8 = .ok (.aload_n 0, 1) := by decide +kernel
theorem dX7_layGaps_9 : decode cX7_layGaps 9 = .ok (.getfield 34, 3) := by decide +kernel
theorem dX7_layGaps_12 : decode cX7_layGaps 12 = .ok (.if_icmp .ge 51, 3) := by decide +kernel
theorem dX7_layGaps_15 : decode cX7_layGaps 15 = .ok (.aload_n 0, 1) := by decide +kernel
theorem dX7_layGaps_16 : decode cX7_layGaps 16 = .ok (.getfield 74, 3) := by decide +kernel
theorem dX7_layGaps_19 : decode cX7_layGaps 19 = .ok (.aload_n 0, 1) := by decide +kernel
theorem dX7_layGaps_20 : decode cX7_layGaps 20 = .ok (.getfield 150, 3) := by decide +kernel
theorem dX7_layGaps_23 : decode cX7_layGaps 23 = .ok (.iload_n 2, 1) := by decide +kernel
theorem dX7_layGaps_24 : decode cX7_layGaps 24 = .ok (.iastore, 1) := by decide +kernel
theorem dX7_layGaps_25 : decode cX7_layGaps 25 = .ok (.aload_n 0, 1) := by decide +kernel
theorem dX7_layGaps_26 : decode cX7_layGaps 26 = .ok (.getfield 77, 3) := by decide +kernel
theorem dX7_layGaps_29 : decode cX7_layGaps 29 = .ok (.aload_n 0, 1) := by decide +kernel
theorem dX7_layGaps_30 : decode cX7_layGaps 30 = .ok (.getfield 150, 3) := by decide +kernel
theorem dX7_layGaps_33 : decode cX7_layGaps 33 = .ok (.aload_n 0, 1) := by decide +kernel
theorem dX7_layGaps_34 : decode cX7_layGaps 34 = .ok (.iload_n 1, 1) := by decide +kernel
theorem dX7_layGaps_35 : decode cX7_layGaps 35 = .ok (.iload_n 2, 1) := by decide +kernel
theorem dX7_layGaps_36 : decode cX7_layGaps 36 = .ok (.invokevirtual 153, 3) := by decide +kernel
theorem dX7_layGaps_39 : decode cX7_layGaps 39 = .ok (.iastore, 1) := by decide +kernel
theorem dX7_layGaps_40 : decode cX7_layGaps 40 = .ok (.aload_n 0, 1) := by decide +kernel
theorem dX7_layGaps_41 : decode cX7_layGaps 41 = .ok (.getfield 77, 3) := by decide +kernel
theorem dX7_layGaps_44 : decode cX7_layGaps 44 = .ok (.aload_n 0, 1) := by decide +kernel
theorem dX7_layGaps_45 : decode cX7_layGaps 45 = .ok (.getfield 150, 3) := by decide +kernel
theorem dX7_layGaps_48 : decode cX7_layGaps 48 = .ok (.iaload, 1) := by decide +kernel
theorem dX7_layGaps_49 : decode cX7_layGaps 49 = .ok (.istore_n 2, 1) := by decide +kernel
theorem dX7_layGaps_50 : decode cX7_layGaps 50 = .ok (.aload_n 0, 1) := by decide +kernel
theorem dX7_layGaps_51 : decode cX7_layGaps 51 = .ok (.dup, 1) := by decide +kernel
theorem dX7_layGaps_52 : decode cX7_layGaps 52 = .ok (.getfield 150, 3) := by decide +kernel
theorem dX7_layGaps_55 : decode cX7_layGaps 55 = .ok (.iconst 1, 1) := by decide +kernel
theorem dX7_layGaps_56 : decode cX7_layGaps 56 = .ok (.iadd, 1) := by decide +kernel
theorem dX7_layGaps_57 : decode cX7_layGaps 57 = .ok (.putfield 150, 3) := by decide +kernel
theorem dX7_layGaps_60 : decode cX7_layGaps 60 = .ok (.goto (-53), 3) := by decide +kernel
theorem dX7_layGaps_63 : decode cX7_layGaps 63 = .ok (.return_, 1) := by decide +kernel
theorem dX7_least_0 : decode cX7_least 0 = .ok (.iload_n 1, 1) := by decide +kernel
theorem dX7_least_1 : decode cX7_least 1 = .ok (.invokestatic 97, 3) := by decide +kernel
theorem dX7_least_4 : decode cX7_least 4 = .ok (.ifCond .ne 5, 3) := by decide +kernel
theorem dX7_least_7 : decode cX7_least 7 = .ok (.iconst (-1), 1) := by decide +kernel
theorem dX7_least_8 : decode cX7_least 8 = .ok (.ireturn, 1) := by decide +kernel
theorem dX7_least_9 : decode cX7_least 9 = .ok (.iload_n 2, 1) := by decide +kernel
theorem dX7_least_10 : decode cX7_least 10 = .ok (.iconst 0, 1) := by decide +kernel
theorem dX7_least_11 : decode cX7_least 11 = .ok (.iconst 2, 1) := by decide +kernel
theorem dX7_least_12 : decode cX7_least 12 = .ok (.invokestatic 90, 3) := by decide +kernel
theorem dX7_least_15 : decode cX7_least 15 = .ok (.ifCond .ne 6, 3) := by decide +kernel
theorem dX7_least_18 : decode cX7_least 18 = .ok (.bipush (-2), 2) := by decide +kernel
theorem dX7_least_20 : decode cX7_least 20 = .ok (.ireturn, 1) := by decide +kernel
theorem dX7_least_21 : decode cX7_least 21 = .ok (.aload_n 0, 1) := by decide +kernel
theorem dX7_least_22 : decode cX7_least 22 = .ok (.iload_n 1, 1) := by decide +kernel
theorem dX7_least_23 : decode cX7_least 23 = .ok (.invokevirtual 156, 3) := by decide +kernel
theorem dX7_least_26 : decode cX7_least 26 = .ok (.iconst 0, 1) := by decide +kernel
theorem dX7_least_27 : decode cX7_least 27 = .ok (.istore_n 3, 1) := by decide +kernel
theorem dX7_least_28 : decode cX7_least 28 = .ok (.iconst 0, 1) := by decide +kernel
theorem dX7_least_29 : decode cX7_least 29 = .ok (.istore 4, 2) := by decide +kernel
theorem dX7_least_31 : decode cX7_least 31 = .ok (.iconst 0, 1) := by decide +kernel
theorem dX7_least_32 : decode cX7_least 32 = .ok (.istore 5, 2) := by decide +kernel
theorem dX7_least_34 : decode cX7_least 34 = .ok (.iload 5, 2) := by decide +kernel
theorem dX7_least_36 : decode cX7_least 36 = .ok (.aload_n 0, 1) := by decide +kernel
theorem dX7_least_37 : decode cX7_least 37 = .ok (.getfield 150, 3) := by decide +kernel
theorem dX7_least_40 : decode cX7_least 40 = .ok (.if_icmp .ge 87, 3) := by decide +kernel
theorem dX7_least_43 : decode cX7_least 43 = .ok (.aload_n 0, 1) := by decide +kernel
theorem dX7_least_44 : decode cX7_least 44 = .ok (.getfield 77, 3) := by decide +kernel
theorem dX7_least_47 : decode cX7_least 47 = .ok (.iload 5, 2) := by decide +kernel
theorem dX7_least_49 : decode cX7_least 49 = .ok (.iaload, 1) := by decide +kernel
theorem dX7_least_50 : decode cX7_least 50 = .ok (.aload_n 0, 1) := by decide +kernel
theorem dX7_least_51 : decode cX7_least 51 = .ok (.getfield 74, 3) := by decide +kernel
theorem dX7_least_54 : decode cX7_least 54 = .ok (.iload 5, 2) := by decide +kernel
theorem dX7_least_56 : decode cX7_least 56 = .ok (.iaload, 1) := by decide +kernel
theorem dX7_least_57 : decode cX7_least 57 = .ok (.isub, 1) := by decide +kernel
theorem dX7_least_58 : decode cX7_least 58 = .ok (.istore 6, 2) := by decide +kernel
theorem dX7_least_60 : decode cX7_least 60 = .ok (.iload 5, 2) := by decide +kernel
theorem dX7_least_62 : decode cX7_least 62 = .ok (.aload_n 0, 1) := by decide +kernel
theorem dX7_least_63 : decode cX7_least 63 = .ok (.getfield 150, 3) := by decide +kernel
theorem dX7_least_66 : decode cX7_least 66 = .ok (.iconst 1, 1) := by decide +kernel
theorem dX7_least_67 : decode cX7_least 67 = .ok (.isub, 1) := by decide +kernel
theorem dX7_least_68 : decode cX7_least 68 = .ok (.if_icmp .ne 13, 3) := by decide +kernel
theorem dX7_least_71 : decode cX7_least 71 = .ok (.aload_n 0, 1) := by decide +kernel
theorem dX7_least_72 : decode cX7_least 72 = .ok (.iload_n 1, 1) := by decide +kernel
theorem dX7_least_73 : decode cX7_least 73 = .ok (.iload 6, 2) := by decide +kernel
theorem dX7_least_75 : decode cX7_least 75 = .ok (.invokevirtual 159, 3) := by decide +kernel
theorem dX7_least_78 : decode cX7_least 78 = .ok (.goto 10, 3) := by decide +kernel
theorem dX7_least_81 : decode cX7_least 81 = .ok (.aload_n 0, 1) := by decide +kernel
theorem dX7_least_82 : decode cX7_least 82 = .ok (.iload_n 1, 1) := by decide +kernel
theorem dX7_least_83 : decode cX7_least 83 = .ok (.iload 6, 2) := by decide +kernel
theorem dX7_least_85 : decode cX7_least 85 = .ok (.invokevirtual 162, 3) := by decide +kernel
theorem dX7_least_88 : decode cX7_least 88 = .ok (.istore 7, 2) := by decide +kernel
theorem dX7_least_90 : decode cX7_least 90 = .ok (.iload_n 3, 1) := by decide +kernel
theorem dX7_least_91 : decode cX7_least 91 = .ok (.iload 7, 2) := by decide +kernel
theorem dX7_least_93 : decode cX7_least 93 = .ok (.iadd, 1) := by decide +kernel
theorem dX7_least_94 : decode cX7_least 94 = .ok (.istore_n 3, 1) := by decide +kernel
theorem dX7_least_95 : decode cX7_least 95 = .ok (.iload 4, 2) := by decide +kernel
theorem dX7_least_97 : decode cX7_least 97 = .ok (.iload 7, 2) := by decide +kernel
theorem dX7_least_99 : decode cX7_least 99 = .ok (.aload_n 0, 1) := by decide +kernel
theorem dX7_least_100 : decode cX7_least 100 = .ok (.getfield 13, 3) := by decide +kernel
theorem dX7_least_103 : decode cX7_least 103 = .ok (.iconst 4, 1) := by decide +kernel
theorem dX7_least_104 : decode cX7_least 104 = .ok (.iload_n 1, 1) := by decide +kernel
theorem dX7_least_105 : decode cX7_least 105 = .ok (.imul, 1) := by decide +kernel
theorem dX7_least_106 : decode cX7_least 106 = .ok (.iaload, 1) := by decide +kernel
theorem dX7_least_107 : decode cX7_least 107 = .ok (.iload 6, 2) := by decide +kernel
theorem dX7_least_109 : decode cX7_least 109 = .ok (.imul, 1) := by decide +kernel
theorem dX7_least_110 : decode cX7_least 110 = .ok (.if_icmp .ge 7, 3) := by decide +kernel
theorem dX7_least_113 : decode cX7_least 113 = .ok (.iconst 1, 1) := by decide +kernel
theorem dX7_least_114 : decode cX7_least 114 = .ok (.goto 4, 3) := by decide +kernel
theorem dX7_least_117 : decode cX7_least 117 = .ok (.iconst 0, 1) := by decide +kernel
theorem dX7_least_118 : decode cX7_least 118 = .ok (.iadd, 1) := by decide +kernel
theorem dX7_least_119 : decode cX7_least 119 = .ok (.istore 4, 2) := by decide +kernel
theorem dX7_least_121 : decode cX7_least 121 = .ok (.iinc 5 1, 3) := by decide +kernel
theorem dX7_least_124 : decode cX7_least 124 = .ok (.goto (-90), 3) := by decide +kernel
theorem dX7_least_127 : decode cX7_least 127 = .ok (.iload_n 2, 1) := by decide +kernel
theorem dX7_least_128 : decode cX7_least 128 = .ok (.ifCond .ne 7, 3) := by decide +kernel
theorem dX7_least_131 : decode cX7_least 131 = .ok (.iload_n 3, 1) := by decide +kernel
theorem dX7_least_132 : decode cX7_least 132 = .ok (.goto 17, 3) := by decide +kernel
theorem dX7_least_135 : decode cX7_least 135 = .ok (.iload_n 2, 1) := by decide +kernel
theorem dX7_least_136 : decode cX7_least 136 = .ok (.iconst 1, 1) := by decide +kernel
theorem dX7_least_137 : decode cX7_least 137 = .ok (.if_icmp .ne 10, 3) := by decide +kernel
theorem dX7_least_140 : decode cX7_least 140 = .ok (.aload_n 0, 1) := by decide +kernel
theorem dX7_least_141 : decode cX7_least 141 = .ok (.getfield 150, 3) := by decide +kernel
theorem dX7_least_144 : decode cX7_least 144 = .ok (.goto 5, 3) := by decide +kernel
theorem dX7_least_147 : decode cX7_least 147 = .ok (.iload 4, 2) := by decide +kernel
theorem dX7_least_149 : decode cX7_least 149 = .ok (.ireturn, 1) := by decide +kernel
theorem dX7_dearest_0 : decode cX7_dearest 0 = .ok (.bipush (-6), 2) := by decide +kernel
theorem dX7_dearest_2 : decode cX7_dearest 2 = .ok (.istore 4, 2) := by decide +kernel
theorem dX7_dearest_4 : decode cX7_dearest 4 = .ok (.iconst 0, 1) := by decide +kernel
theorem dX7_dearest_5 : decode cX7_dearest 5 = .ok (.istore 5, 2) := by decide +kernel
theorem dX7_dearest_7 : decode cX7_dearest 7 = .ok (.iconst 0, 1) := by decide +kernel
theorem dX7_dearest_8 : decode cX7_dearest 8 = .ok (.istore 6, 2) := by decide +kernel
theorem dX7_dearest_10 : decode cX7_dearest 10 = .ok (.iload 6, 2) := by decide +kernel
theorem dX7_dearest_12 : decode cX7_dearest 12 = .ok (.aload_n 0, 1) := by decide +kernel
theorem dX7_dearest_13 : decode cX7_dearest 13 = .ok (.getfield 150, 3) := by decide +kernel
theorem dX7_dearest_16 : decode cX7_dearest 16 = .ok (.iconst 1, 1) := by decide +kernel
theorem dX7_dearest_17 : decode cX7_dearest 17 = .ok (.isub, 1) := by decide +kernel
theorem dX7_dearest_18 : decode cX7_dearest 18 = .ok (.if_icmp .ge 85, 3) := by decide +kernel
theorem dX7_dearest_21 : decode cX7_dearest 21 = .ok (.aload_n 0, 1) := by decide +kernel
theorem dX7_dearest_22 : decode cX7_dearest 22 = .ok (.getfield 77, 3) := by decide +kernel
theorem dX7_dearest_25 : decode cX7_dearest 25 = .ok (.iload 6, 2) := by decide +kernel
theorem dX7_dearest_27 : decode cX7_dearest 27 = .ok (.iaload, 1) := by decide +kernel
theorem dX7_dearest_28 : decode cX7_dearest 28 = .ok (.aload_n 0, 1) := by decide +kernel
theorem dX7_dearest_29 : decode cX7_dearest 29 = .ok (.getfield 74, 3) := by decide +kernel
theorem dX7_dearest_32 : decode cX7_dearest 32 = .ok (.iload 6, 2) := by decide +kernel
theorem dX7_dearest_34 : decode cX7_dearest 34 = .ok (.iaload, 1) := by decide +kernel
theorem dX7_dearest_35 : decode cX7_dearest 35 = .ok (.isub, 1) := by decide +kernel
theorem dX7_dearest_36 : decode cX7_dearest 36 = .ok (.istore 7, 2) := by decide +kernel
theorem dX7_dearest_38 : decode cX7_dearest 38 = .ok (.aload_n 0, 1) := by decide +kernel
theorem dX7_dearest_39 : decode cX7_dearest 39 = .ok (.getfield 13, 3) := by decide +kernel
theorem dX7_dearest_42 : decode cX7_dearest 42 = .ok (.iconst 4, 1) := by decide +kernel
theorem dX7_dearest_43 : decode cX7_dearest 43 = .ok (.iload_n 1, 1) := by decide +kernel
theorem dX7_dearest_44 : decode cX7_dearest 44 = .ok (.imul, 1) := by decide +kernel
theorem dX7_dearest_45 : decode cX7_dearest 45 = .ok (.iaload, 1) := by decide +kernel
theorem dX7_dearest_46 : decode cX7_dearest 46 = .ok (.iload 7, 2) := by decide +kernel
theorem dX7_dearest_48 : decode cX7_dearest 48 = .ok (.imul, 1) := by decide +kernel
theorem dX7_dearest_49 : decode cX7_dearest 49 = .ok (.aload_n 0, 1) := by decide +kernel
theorem dX7_dearest_50 : decode cX7_dearest 50 = .ok (.iload_n 1, 1) := by decide +kernel
theorem dX7_dearest_51 : decode cX7_dearest 51 = .ok (.iload 7, 2) := by decide +kernel
theorem dX7_dearest_53 : decode cX7_dearest 53 = .ok (.invokevirtual 162, 3) := by decide +kernel
theorem dX7_dearest_56 : decode cX7_dearest 56 = .ok (.isub, 1) := by decide +kernel
theorem dX7_dearest_57 : decode cX7_dearest 57 = .ok (.istore 8, 2) := by decide +kernel
theorem dX7_dearest_59 : decode cX7_dearest 59 = .ok (.aload_n 0, 1) := by decide +kernel
theorem dX7_dearest_60 : decode cX7_dearest 60 = .ok (.getfield 80, 3) := by decide +kernel
theorem dX7_dearest_63 : decode cX7_dearest 63 = .ok (.iload 6, 2) := by decide +kernel
theorem dX7_dearest_65 : decode cX7_dearest 65 = .ok (.baload, 1) := by decide +kernel
theorem dX7_dearest_66 : decode cX7_dearest 66 = .ok (.ifCond .ne 31, 3) := by decide +kernel
theorem dX7_dearest_69 : decode cX7_dearest 69 = .ok (.aload_n 0, 1) := by decide +kernel
theorem dX7_dearest_70 : decode cX7_dearest 70 = .ok (.getfield 77, 3) := by decide +kernel
theorem dX7_dearest_73 : decode cX7_dearest 73 = .ok (.iload 6, 2) := by decide +kernel
theorem dX7_dearest_75 : decode cX7_dearest 75 = .ok (.iaload, 1) := by decide +kernel
theorem dX7_dearest_76 : decode cX7_dearest 76 = .ok (.iload_n 2, 1) := by decide +kernel
theorem dX7_dearest_77 : decode cX7_dearest 77 = .ok (.idiv, 1) := by decide +kernel
theorem dX7_dearest_78 : decode cX7_dearest 78 = .ok (.iload_n 3, 1) := by decide +kernel
theorem dX7_dearest_79 : decode cX7_dearest 79 = .ok (.if_icmp .ne 18, 3) := by decide +kernel
theorem dX7_dearest_82 : decode cX7_dearest 82 = .ok (.iload 8, 2) := by decide +kernel
theorem dX7_dearest_84 : decode cX7_dearest 84 = .ok (.iload 5, 2) := by decide +kernel
theorem dX7_dearest_86 : decode cX7_dearest 86 = .ok (.if_icmp .le 11, 3) := by decide +kernel
theorem dX7_dearest_89 : decode cX7_dearest 89 = .ok (.iload 6, 2) := by decide +kernel
theorem dX7_dearest_91 : decode cX7_dearest 91 = .ok (.istore 4, 2) := by decide +kernel
theorem dX7_dearest_93 : decode cX7_dearest 93 = .ok (.iload 8, 2) := by decide +kernel
theorem dX7_dearest_95 : decode cX7_dearest 95 = .ok (.istore 5, 2) := by decide +kernel
theorem dX7_dearest_97 : decode cX7_dearest 97 = .ok (.iinc 6 1, 3) := by decide +kernel
theorem dX7_dearest_100 : decode cX7_dearest 100 = .ok (.goto (-90), 3) := by decide +kernel
theorem dX7_dearest_103 : decode cX7_dearest 103 = .ok (.iload 4, 2) := by decide +kernel
theorem dX7_dearest_105 : decode cX7_dearest 105 = .ok (.ireturn, 1) := by decide +kernel
theorem dX7_limited_0 : decode cX7_limited 0 = .ok (.iload_n 1, 1) := by decide +kernel
theorem dX7_limited_1 : decode cX7_limited 1 = .ok (.invokestatic 97, 3) := by decide +kernel
theorem dX7_limited_4 : decode cX7_limited 4 = .ok (.ifCond .ne 5, 3) := by decide +kernel
theorem dX7_limited_7 : decode cX7_limited 7 = .ok (.iconst (-1), 1) := by decide +kernel
theorem dX7_limited_8 : decode cX7_limited 8 = .ok (.ireturn, 1) := by decide +kernel
theorem dX7_limited_9 : decode cX7_limited 9 = .ok (.iload_n 2, 1) := by decide +kernel
theorem dX7_limited_10 : decode cX7_limited 10 = .ok (.iconst 1, 1) := by decide +kernel
theorem dX7_limited_11 : decode cX7_limited 11 = .ok (.sipush 1000, 3) := by decide +kernel
theorem dX7_limited_14 : decode cX7_limited 14 = .ok (.invokestatic 90, 3) := by decide +kernel
theorem dX7_limited_17 : decode cX7_limited 17 = .ok (.ifCond .eq 13, 3) := by decide +kernel
theorem dX7_limited_20 : decode cX7_limited 20 = .ok (.iload_n 3, 1) := by decide +kernel
theorem dX7_limited_21 : decode cX7_limited 21 = .ok (.iconst 0, 1) := by decide +kernel
theorem dX7_limited_22 : decode cX7_limited 22 = .ok (.bipush 40, 2) := by decide +kernel
theorem dX7_limited_24 : decode cX7_limited 24 = .ok (.invokestatic 90, 3) := by decide +kernel
theorem dX7_limited_27 : decode cX7_limited 27 = .ok (.ifCond .ne 6, 3) := by decide +kernel
theorem dX7_limited_30 : decode cX7_limited 30 = .ok (.bipush (-2), 2) := by decide +kernel
theorem dX7_limited_32 : decode cX7_limited 32 = .ok (.ireturn, 1) := by decide +kernel
theorem dX7_limited_33 : decode cX7_limited 33 = .ok (.aload_n 0, 1) := by decide +kernel
theorem dX7_limited_34 : decode cX7_limited 34 = .ok (.iload_n 1, 1) := by decide +kernel
theorem dX7_limited_35 : decode cX7_limited 35 = .ok (.invokevirtual 156, 3) := by decide +kernel
theorem dX7_limited_38 : decode cX7_limited 38 = .ok (.aload_n 0, 1) := by decide +kernel
theorem dX7_limited_39 : decode cX7_limited 39 = .ok (.iload_n 1, 1) := by decide +kernel
theorem dX7_limited_40 : decode cX7_limited 40 = .ok (.aload_n 0, 1) := by decide +kernel
theorem dX7_limited_41 : decode cX7_limited 41 = .ok (.getfield 77, 3) := by decide +kernel
theorem dX7_limited_44 : decode cX7_limited 44 = .ok (.aload_n 0, 1) := by decide +kernel
theorem dX7_limited_45 : decode cX7_limited 45 = .ok (.getfield 150, 3) := by decide +kernel
theorem dX7_limited_48 : decode cX7_limited 48 = .ok (.iconst 1, 1) := by decide +kernel
theorem dX7_limited_49 : decode cX7_limited 49 = .ok (.isub, 1) := by decide +kernel
theorem dX7_limited_50 : decode cX7_limited 50 = .ok (.iaload, 1) := by decide +kernel
theorem dX7_limited_51 : decode cX7_limited 51 = .ok (.aload_n 0, 1) := by decide +kernel
theorem dX7_limited_52 : decode cX7_limited 52 = .ok (.getfield 74, 3) := by decide +kernel
theorem dX7_limited_55 : decode cX7_limited 55 = .ok (.aload_n 0, 1) := by decide +kernel
theorem dX7_limited_56 : decode cX7_limited 56 = .ok (.getfield 150, 3) := by decide +kernel
theorem dX7_limited_59 : decode cX7_limited 59 = .ok (.iconst 1, 1) := by decide +kernel
theorem dX7_limited_60 : decode cX7_limited 60 = .ok (.isub, 1) := by decide +kernel
theorem dX7_limited_61 : decode cX7_limited 61 = .ok (.iaload, 1) := by decide +kernel
theorem dX7_limited_62 : decode cX7_limited 62 = .ok (.isub, 1) := by decide +kernel
theorem dX7_limited_63 : decode cX7_limited 63 = .ok (.invokevirtual 159, 3) := by decide +kernel
theorem dX7_limited_66 : decode cX7_limited 66 = .ok (.istore 4, 2) := by decide +kernel
theorem dX7_limited_68 : decode cX7_limited 68 = .ok (.iconst 0, 1) := by decide +kernel
theorem dX7_limited_69 : decode cX7_limited 69 = .ok (.istore 5, 2) := by decide +kernel
theorem dX7_limited_71 : decode cX7_limited 71 = .ok (.iload 5, 2) := by decide +kernel
theorem dX7_limited_73 : decode cX7_limited 73 = .ok (.aload_n 0, 1) := by decide +kernel
theorem dX7_limited_74 : decode cX7_limited 74 = .ok (.getfield 150, 3) := by decide +kernel
theorem dX7_limited_77 : decode cX7_limited 77 = .ok (.iconst 1, 1) := by decide +kernel
theorem dX7_limited_78 : decode cX7_limited 78 = .ok (.isub, 1) := by decide +kernel
theorem dX7_limited_79 : decode cX7_limited 79 = .ok (.if_icmp .ge 46, 3) := by decide +kernel
theorem dX7_limited_82 : decode cX7_limited 82 = .ok (.iload 4, 2) := by decide +kernel
theorem dX7_limited_84 : decode cX7_limited 84 = .ok (.aload_n 0, 1) := by decide +kernel
theorem dX7_limited_85 : decode cX7_limited 85 = .ok (.getfield 13, 3) := by decide +kernel
theorem dX7_limited_88 : decode cX7_limited 88 = .ok (.iconst 4, 1) := by decide +kernel
theorem dX7_limited_89 : decode cX7_limited 89 = .ok (.iload_n 1, 1) := by decide +kernel
theorem dX7_limited_90 : decode cX7_limited 90 = .ok (.imul, 1) := by decide +kernel
theorem dX7_limited_91 : decode cX7_limited 91 = .ok (.iaload, 1) := by decide +kernel
theorem dX7_limited_92 : decode cX7_limited 92 = .ok (.aload_n 0, 1) := by decide +kernel
theorem dX7_limited_93 : decode cX7_limited 93 = .ok (.getfield 77, 3) := by decide +kernel
theorem dX7_limited_96 : decode cX7_limited 96 = .ok (.iload 5, 2) := by decide +kernel
theorem dX7_limited_98 : decode cX7_limited 98 = .ok (.iaload, 1) := by decide +kernel
theorem dX7_limited_99 : decode cX7_limited 99 = .ok (.aload_n 0, 1) := by decide +kernel
theorem dX7_limited_100 : decode cX7_limited 100 = .ok (.getfield 74, 3) := by decide +kernel
theorem dX7_limited_103 : decode cX7_limited 103 = .ok (.iload 5, 2) := by decide +kernel
theorem dX7_limited_105 : decode cX7_limited 105 = .ok (.iaload, 1) := by decide +kernel
theorem dX7_limited_106 : decode cX7_limited 106 = .ok (.isub, 1) := by decide +kernel
theorem dX7_limited_107 : decode cX7_limited 107 = .ok (.imul, 1) := by decide +kernel
theorem dX7_limited_108 : decode cX7_limited 108 = .ok (.iadd, 1) := by decide +kernel
theorem dX7_limited_109 : decode cX7_limited 109 = .ok (.istore 4, 2) := by decide +kernel
theorem dX7_limited_111 : decode cX7_limited 111 = .ok (.aload_n 0, 1) := by decide +kernel
theorem dX7_limited_112 : decode cX7_limited 112 = .ok (.getfield 80, 3) := by decide +kernel
theorem dX7_limited_115 : decode cX7_limited 115 = .ok (.iload 5, 2) := by decide +kernel
theorem dX7_limited_117 : decode cX7_limited 117 = .ok (.iconst 0, 1) := by decide +kernel
theorem dX7_limited_118 : decode cX7_limited 118 = .ok (.bastore, 1) := by decide +kernel
theorem dX7_limited_119 : decode cX7_limited 119 = .ok (.iinc 5 1, 3) := by decide +kernel
theorem dX7_limited_122 : decode cX7_limited 122 = .ok (.goto (-51), 3) := by decide +kernel
theorem dX7_limited_125 : decode cX7_limited 125 = .ok (.iconst 0, 1) := by decide +kernel
theorem dX7_limited_126 : decode cX7_limited 126 = .ok (.istore 5, 2) := by decide +kernel
theorem dX7_limited_128 : decode cX7_limited 128 = .ok (.iload 5, 2) := by decide +kernel
theorem dX7_limited_130 : decode cX7_limited 130 = .ok (.sipush 1000, 3) := by decide +kernel
theorem dX7_limited_133 : decode cX7_limited 133 = .ok (.iload_n 2, 1) := by decide +kernel
theorem dX7_limited_134 : decode cX7_limited 134 = .ok (.idiv, 1) := by decide +kernel
theorem dX7_limited_135 : decode cX7_limited 135 = .ok (.if_icmp .gt 96, 3) := by decide +kernel
theorem dX7_limited_138 : decode cX7_limited 138 = .ok (.iconst 0, 1) := by decide +kernel
theorem dX7_limited_139 : decode cX7_limited 139 = .ok (.istore 6, 2) := by decide +kernel
theorem dX7_limited_141 : decode cX7_limited 141 = .ok (.iconst 0, 1) := by decide +kernel
theorem dX7_limited_142 : decode cX7_limited 142 = .ok (.istore 7, 2) := by decide +kernel
theorem dX7_limited_144 : decode cX7_limited 144 = .ok (.iload 7, 2) := by decide +kernel
theorem dX7_limited_146 : decode cX7_limited 146 = .ok (.iload_n 3, 1) := by decide +kernel
theorem dX7_limited_147 : decode cX7_limited 147 = .ok (.if_icmp .ge 78, 3) := by decide +kernel
theorem dX7_limited_150 : decode cX7_limited 150 = .ok (.iload 6, 2) := by decide +kernel
theorem dX7_limited_152 : decode cX7_limited 152 = .ok (.ifCond .lt 73, 3) := by decide +kernel
theorem dX7_limited_155 : decode cX7_limited 155 = .ok (.aload_n 0, 1) := by decide +kernel
theorem dX7_limited_156 : decode cX7_limited 156 = .ok (.iload_n 1, 1) := by decide +kernel
theorem dX7_limited_157 : decode cX7_limited 157 = .ok (.iload_n 2, 1) := by decide +kernel
theorem dX7_limited_158 : decode cX7_limited 158 = .ok (.iload 5, 2) := by decide +kernel
theorem dX7_limited_160 : decode cX7_limited 160 = .ok (.invokevirtual 165, 3) := by decide +kernel
theorem dX7_limited_163 : decode cX7_limited 163 = .ok (.istore 6, 2) := by decide +kernel
theorem dX7_limited_165 : decode cX7_limited 165 = .ok (.iload 6, 2) := by decide +kernel
theorem dX7_limited_167 : decode cX7_limited 167 = .ok (.ifCond .lt 52, 3) := by decide +kernel
theorem dX7_limited_170 : decode cX7_limited 170 = .ok (.aload_n 0, 1) := by decide +kernel
theorem dX7_limited_171 : decode cX7_limited 171 = .ok (.getfield 77, 3) := by decide +kernel
theorem dX7_limited_174 : decode cX7_limited 174 = .ok (.iload 6, 2) := by decide +kernel
theorem dX7_limited_176 : decode cX7_limited 176 = .ok (.iaload, 1) := by decide +kernel
theorem dX7_limited_177 : decode cX7_limited 177 = .ok (.aload_n 0, 1) := by decide +kernel
theorem dX7_limited_178 : decode cX7_limited 178 = .ok (.getfield 74, 3) := by decide +kernel
theorem dX7_limited_181 : decode cX7_limited 181 = .ok (.iload 6, 2) := by decide +kernel
theorem dX7_limited_183 : decode cX7_limited 183 = .ok (.iaload, 1) := by decide +kernel
theorem dX7_limited_184 : decode cX7_limited 184 = .ok (.isub, 1) := by decide +kernel
theorem dX7_limited_185 : decode cX7_limited 185 = .ok (.istore 8, 2) := by decide +kernel
theorem dX7_limited_187 : decode cX7_limited 187 = .ok (.iload 4, 2) := by decide +kernel
theorem dX7_limited_189 : decode cX7_limited 189 = .ok (.aload_n 0, 1) := by decide +kernel
theorem dX7_limited_190 : decode cX7_limited 190 = .ok (.getfield 13, 3) := by decide +kernel
theorem dX7_limited_193 : decode cX7_limited 193 = .ok (.iconst 4, 1) := by decide +kernel
theorem dX7_limited_194 : decode cX7_limited 194 = .ok (.iload_n 1, 1) := by decide +kernel
theorem dX7_limited_195 : decode cX7_limited 195 = .ok (.imul, 1) := by decide +kernel
theorem dX7_limited_196 : decode cX7_limited 196 = .ok (.iaload, 1) := by decide +kernel
theorem dX7_limited_197 : decode cX7_limited 197 = .ok (.iload 8, 2) := by decide +kernel
theorem dX7_limited_199 : decode cX7_limited 199 = .ok (.imul, 1) := by decide +kernel
theorem dX7_limited_200 : decode cX7_limited 200 = .ok (.aload_n 0, 1) := by decide +kernel
theorem dX7_limited_201 : decode cX7_limited 201 = .ok (.iload_n 1, 1) := by decide +kernel
theorem dX7_limited_202 : decode cX7_limited 202 = .ok (.iload 8, 2) := by decide +kernel
theorem dX7_limited_204 : decode cX7_limited 204 = .ok (.invokevirtual 162, 3) := by decide +kernel
theorem dX7_limited_207 : decode cX7_limited 207 = .ok (.isub, 1) := by decide +kernel
theorem dX7_limited_208 : decode cX7_limited 208 = .ok (.isub, 1) := by decide +kernel
theorem dX7_limited_209 : decode cX7_limited 209 = .ok (.istore 4, 2) := by decide +kernel
theorem dX7_limited_211 : decode cX7_limited 211 = .ok (.aload_n 0, 1) := by decide +kernel
theorem dX7_limited_212 : decode cX7_limited 212 = .ok (.getfield 80, 3) := by decide +kernel
theorem dX7_limited_215 : decode cX7_limited 215 = .ok (.iload 6, 2) := by decide +kernel
theorem dX7_limited_217 : decode cX7_limited 217 = .ok (.iconst 1, 1) := by decide +kernel
theorem dX7_limited_218 : decode cX7_limited 218 = .ok (.bastore, 1) := by decide +kernel
theorem dX7_limited_219 : decode cX7_limited 219 = .ok (.iinc 7 1, 3) := by decide +kernel
theorem dX7_limited_222 : decode cX7_limited 222 = .ok (.goto (-78), 3) := by decide +kernel
theorem dX7_limited_225 : decode cX7_limited 225 = .ok (.iinc 5 1, 3) := by decide +kernel
theorem dX7_limited_228 : decode cX7_limited 228 = .ok (.goto (-100), 3) := by decide +kernel
theorem dX7_limited_231 : decode cX7_limited 231 = .ok (.iload 4, 2) := by decide +kernel
theorem dX7_limited_233 : decode cX7_limited 233 = .ok (.ireturn, 1) := by decide +kernel
theorem dX7_costOf_0 : decode cX7_costOf 0 = .ok (.iconst 0, 1) := by decide +kernel
theorem dX7_costOf_1 : decode cX7_costOf 1 = .ok (.istore_n 3, 1) := by decide +kernel
theorem dX7_costOf_2 : decode cX7_costOf 2 = .ok (.iconst 0, 1) := by decide +kernel
theorem dX7_costOf_3 : decode cX7_costOf 3 = .ok (.istore 4, 2) := by decide +kernel
theorem dX7_costOf_5 : decode cX7_costOf 5 = .ok (.iconst 0, 1) := by decide +kernel
theorem dX7_costOf_6 : decode cX7_costOf 6 = .ok (.istore 5, 2) := by decide +kernel
theorem dX7_costOf_8 : decode cX7_costOf 8 = .ok (.iload 5, 2) := by decide +kernel
theorem dX7_costOf_10 : decode cX7_costOf 10 = .ok (.iload_n 2, 1) := by decide +kernel
theorem dX7_costOf_11 : decode cX7_costOf 11 = .ok (.if_icmp .ge 32, 3) := by decide +kernel
theorem dX7_costOf_14 : decode cX7_costOf 14 = .ok (.aload_n 0, 1) := by decide +kernel
theorem dX7_costOf_15 : decode cX7_costOf 15 = .ok (.iload_n 1, 1) := by decide +kernel
theorem dX7_costOf_16 : decode cX7_costOf 16 = .ok (.iload 5, 2) := by decide +kernel
theorem dX7_costOf_18 : decode cX7_costOf 18 = .ok (.invokevirtual 140, 3) := by decide +kernel
theorem dX7_costOf_21 : decode cX7_costOf 21 = .ok (.istore 4, 2) := by decide +kernel
theorem dX7_costOf_23 : decode cX7_costOf 23 = .ok (.iload_n 3, 1) := by decide +kernel
theorem dX7_costOf_24 : decode cX7_costOf 24 = .ok (.aload_n 0, 1) := by decide +kernel
theorem dX7_costOf_25 : decode cX7_costOf 25 = .ok (.getfield 13, 3) := by decide +kernel
theorem dX7_costOf_28 : decode cX7_costOf 28 = .ok (.iconst 4, 1) := by decide +kernel
theorem dX7_costOf_29 : decode cX7_costOf 29 = .ok (.iload_n 1, 1) := by decide +kernel
theorem dX7_costOf_30 : decode cX7_costOf 30 = .ok (.imul, 1) := by decide +kernel
theorem dX7_costOf_31 : decode cX7_costOf 31 = .ok (.iload 4, 2) := by decide +kernel
theorem dX7_costOf_33 : decode cX7_costOf 33 = .ok (.iadd, 1) := by decide +kernel
theorem dX7_costOf_34 : decode cX7_costOf 34 = .ok (.iaload, 1) := by decide +kernel
theorem dX7_costOf_35 : decode cX7_costOf 35 = .ok (.iadd, 1) := by decide +kernel
theorem dX7_costOf_36 : decode cX7_costOf 36 = .ok (.istore_n 3, 1) := by decide +kernel
theorem dX7_costOf_37 : decode cX7_costOf 37 = .ok (.iinc 5 1, 3) := by decide +kernel
theorem dX7_costOf_40 : decode cX7_costOf 40 = .ok (.goto (-32), 3) := by decide +kernel
theorem dX7_costOf_43 : decode cX7_costOf 43 = .ok (.iload_n 3, 1) := by decide +kernel
theorem dX7_costOf_44 : decode cX7_costOf 44 = .ok (.aload_n 0, 1) := by decide +kernel
theorem dX7_costOf_45 : decode cX7_costOf 45 = .ok (.iload_n 1, 1) := by decide +kernel
theorem dX7_costOf_46 : decode cX7_costOf 46 = .ok (.iload 4, 2) := by decide +kernel
theorem dX7_costOf_48 : decode cX7_costOf 48 = .ok (.invokevirtual 101, 3) := by decide +kernel
theorem dX7_costOf_51 : decode cX7_costOf 51 = .ok (.iadd, 1) := by decide +kernel
theorem dX7_costOf_52 : decode cX7_costOf 52 = .ok (.ireturn, 1) := by decide +kernel
theorem dX7_costs_0 : decode cX7_costs 0 = .ok (.iload_n 1, 1) := by decide +kernel
theorem dX7_costs_1 : decode cX7_costs 1 = .ok (.invokestatic 97, 3) := by decide +kernel
theorem dX7_costs_4 : decode cX7_costs 4 = .ok (.ifCond .ne 5, 3) := by decide +kernel
theorem dX7_costs_7 : decode cX7_costs 7 = .ok (.iconst (-1), 1) := by decide +kernel
theorem dX7_costs_8 : decode cX7_costs 8 = .ok (.ireturn, 1) := by decide +kernel
theorem dX7_costs_9 : decode cX7_costs 9 = .ok (.iload_n 2, 1) := by decide +kernel
theorem dX7_costs_10 : decode cX7_costs 10 = .ok (.iconst 1, 1) := by decide +kernel
theorem dX7_costs_11 : decode cX7_costs 11 = .ok (.sipush 1000, 3) := by decide +kernel
theorem dX7_costs_14 : decode cX7_costs 14 = .ok (.invokestatic 90, 3) := by decide +kernel
theorem dX7_costs_17 : decode cX7_costs 17 = .ok (.ifCond .ne 6, 3) := by decide +kernel
theorem dX7_costs_20 : decode cX7_costs 20 = .ok (.bipush (-2), 2) := by decide +kernel
theorem dX7_costs_22 : decode cX7_costs 22 = .ok (.ireturn, 1) := by decide +kernel
theorem dX7_costs_23 : decode cX7_costs 23 = .ok (.aload_n 0, 1) := by decide +kernel
theorem dX7_costs_24 : decode cX7_costs 24 = .ok (.getfield 19, 3) := by decide +kernel
theorem dX7_costs_27 : decode cX7_costs 27 = .ok (.iload_n 1, 1) := by decide +kernel
theorem dX7_costs_28 : decode cX7_costs 28 = .ok (.iaload, 1) := by decide +kernel
theorem dX7_costs_29 : decode cX7_costs 29 = .ok (.iconst 3, 1) := by decide +kernel
theorem dX7_costs_30 : decode cX7_costs 30 = .ok (.if_icmp .ne 8, 3) := by decide +kernel
theorem dX7_costs_33 : decode cX7_costs 33 = .ok (.bipush (-3), 2) := by decide +kernel
theorem dX7_costs_35 : decode cX7_costs 35 = .ok (.goto 9, 3) := by decide +kernel
theorem dX7_costs_38 : decode cX7_costs 38 = .ok (.aload_n 0, 1) := by decide +kernel
theorem dX7_costs_39 : decode cX7_costs 39 = .ok (.iload_n 1, 1) := by decide +kernel
theorem dX7_costs_40 : decode cX7_costs 40 = .ok (.iload_n 2, 1) := by decide +kernel
theorem dX7_costs_41 : decode cX7_costs 41 = .ok (.invokevirtual 168, 3) := by decide +kernel
theorem dX7_costs_44 : decode cX7_costs 44 = .ok (.ireturn, 1) := by decide +kernel
theorem dX7_common_0 : decode cX7_common 0 = .ok (.iload_n 0, 1) := by decide +kernel
theorem dX7_common_1 : decode cX7_common 1 = .ok (.istore_n 2, 1) := by decide +kernel
theorem dX7_common_2 : decode cX7_common 2 = .ok (.iload_n 1, 1) := by decide +kernel
theorem dX7_common_3 : decode cX7_common 3 = .ok (.istore_n 3, 1) := by decide +kernel
theorem dX7_common_4 : decode cX7_common 4 = .ok (.iconst 0, 1) := by decide +kernel
theorem dX7_common_5 : decode cX7_common 5 = .ok (.istore 4, 2) := by decide +kernel
theorem dX7_common_7 : decode cX7_common 7 = .ok (.iload 4, 2) := by decide +kernel
theorem dX7_common_9 : decode cX7_common 9 = .ok (.bipush 100, 2) := by decide +kernel
theorem dX7_common_11 : decode cX7_common 11 = .ok (.if_icmp .ge 23, 3) := by decide +kernel
theorem dX7_common_14 : decode cX7_common 14 = .ok (.iload_n 3, 1) := by decide +kernel
theorem dX7_common_15 : decode cX7_common 15 = .ok (.ifCond .eq 19, 3) := by decide +kernel
theorem dX7_common_18 : decode cX7_common 18 = .ok (.iload_n 2, 1) := by decide +kernel
theorem dX7_common_19 : decode cX7_common 19 = .ok (.iload_n 3, 1) := by decide +kernel
theorem dX7_common_20 : decode cX7_common 20 = .ok (.irem, 1) := by decide +kernel
theorem dX7_common_21 : decode cX7_common 21 = .ok (.istore 5, 2) := by decide +kernel
theorem dX7_common_23 : decode cX7_common 23 = .ok (.iload_n 3, 1) := by decide +kernel
theorem dX7_common_24 : decode cX7_common 24 = .ok (.istore_n 2, 1) := by decide +kernel
theorem dX7_common_25 : decode cX7_common 25 = .ok (.iload 5, 2) := by decide +kernel
theorem dX7_common_27 : decode cX7_common 27 = .ok (.istore_n 3, 1) := by decide +kernel
theorem dX7_common_28 : decode cX7_common 28 = .ok (.iinc 4 1, 3) := by decide +kernel
theorem dX7_common_31 : decode cX7_common 31 = .ok (.goto (-24), 3) := by decide +kernel
theorem dX7_common_34 : decode cX7_common 34 = .ok (.iload_n 2, 1) := by decide +kernel
theorem dX7_common_35 : decode cX7_common 35 = .ok (.ireturn, 1) := by decide +kernel
theorem dX7_part_0 : decode cX7_part 0 = .ok (.iload_n 0, 1) := by decide +kernel
theorem dX7_part_1 : decode cX7_part 1 = .ok (.iload_n 1, 1) := by decide +kernel
theorem dX7_part_2 : decode cX7_part 2 = .ok (.invokestatic 171, 3) := by decide +kernel
theorem dX7_part_5 : decode cX7_part 5 = .ok (.istore_n 3, 1) := by decide +kernel
