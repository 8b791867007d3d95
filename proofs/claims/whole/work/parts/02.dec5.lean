theorem dX7_part_6 : decode cX7_part 6 = .ok (.iload_n 2, 1) := by decide +kernel
theorem dX7_part_7 : decode cX7_part 7 = .ok (.ifCond .ne 9, 3) := by decide +kernel
theorem dX7_part_10 : decode cX7_part 10 = .ok (.iload_n 0, 1) := by decide +kernel
theorem dX7_part_11 : decode cX7_part 11 = .ok (.iload_n 3, 1) := by decide +kernel
theorem dX7_part_12 : decode cX7_part 12 = .ok (.idiv, 1) := by decide +kernel
theorem dX7_part_13 : decode cX7_part 13 = .ok (.goto 6, 3) := by decide +kernel
theorem dX7_part_16 : decode cX7_part 16 = .ok (.iload_n 1, 1) := by decide +kernel
theorem dX7_part_17 : decode cX7_part 17 = .ok (.iload_n 3, 1) := by decide +kernel
theorem dX7_part_18 : decode cX7_part 18 = .ok (.idiv, 1) := by decide +kernel
theorem dX7_part_19 : decode cX7_part 19 = .ok (.ireturn, 1) := by decide +kernel
theorem dX7_worst_0 : decode cX7_worst 0 = .ok (.iload_n 1, 1) := by decide +kernel
theorem dX7_worst_1 : decode cX7_worst 1 = .ok (.invokestatic 97, 3) := by decide +kernel
theorem dX7_worst_4 : decode cX7_worst 4 = .ok (.ifCond .ne 5, 3) := by decide +kernel
theorem dX7_worst_7 : decode cX7_worst 7 = .ok (.iconst (-1), 1) := by decide +kernel
theorem dX7_worst_8 : decode cX7_worst 8 = .ok (.ireturn, 1) := by decide +kernel
theorem dX7_worst_9 : decode cX7_worst 9 = .ok (.iload_n 2, 1) := by decide +kernel
theorem dX7_worst_10 : decode cX7_worst 10 = .ok (.iconst 1, 1) := by decide +kernel
theorem dX7_worst_11 : decode cX7_worst 11 = .ok (.sipush 1000, 3) := by decide +kernel
theorem dX7_worst_14 : decode cX7_worst 14 = .ok (.invokestatic 90, 3) := by decide +kernel
theorem dX7_worst_17 : decode cX7_worst 17 = .ok (.ifCond .eq 12, 3) := by decide +kernel
theorem dX7_worst_20 : decode cX7_worst 20 = .ok (.iload_n 3, 1) := by decide +kernel
theorem dX7_worst_21 : decode cX7_worst 21 = .ok (.iconst 0, 1) := by decide +kernel
theorem dX7_worst_22 : decode cX7_worst 22 = .ok (.iconst 2, 1) := by decide +kernel
theorem dX7_worst_23 : decode cX7_worst 23 = .ok (.invokestatic 90, 3) := by decide +kernel
theorem dX7_worst_26 : decode cX7_worst 26 = .ok (.ifCond .ne 6, 3) := by decide +kernel
theorem dX7_worst_29 : decode cX7_worst 29 = .ok (.bipush (-2), 2) := by decide +kernel
theorem dX7_worst_31 : decode cX7_worst 31 = .ok (.ireturn, 1) := by decide +kernel
theorem dX7_worst_32 : decode cX7_worst 32 = .ok (.aload_n 0, 1) := by decide +kernel
theorem dX7_worst_33 : decode cX7_worst 33 = .ok (.getfield 19, 3) := by decide +kernel
theorem dX7_worst_36 : decode cX7_worst 36 = .ok (.iload_n 1, 1) := by decide +kernel
theorem dX7_worst_37 : decode cX7_worst 37 = .ok (.iaload, 1) := by decide +kernel
theorem dX7_worst_38 : decode cX7_worst 38 = .ok (.iconst 3, 1) := by decide +kernel
theorem dX7_worst_39 : decode cX7_worst 39 = .ok (.if_icmp .ne 6, 3) := by decide +kernel
theorem dX7_worst_42 : decode cX7_worst 42 = .ok (.bipush (-3), 2) := by decide +kernel
theorem dX7_worst_44 : decode cX7_worst 44 = .ok (.ireturn, 1) := by decide +kernel
theorem dX7_worst_45 : decode cX7_worst 45 = .ok (.iconst 0, 1) := by decide +kernel
theorem dX7_worst_46 : decode cX7_worst 46 = .ok (.istore 4, 2) := by decide +kernel
theorem dX7_worst_48 : decode cX7_worst 48 = .ok (.iconst 0, 1) := by decide +kernel
theorem dX7_worst_49 : decode cX7_worst 49 = .ok (.istore 5, 2) := by decide +kernel
theorem dX7_worst_51 : decode cX7_worst 51 = .ok (.iconst 1, 1) := by decide +kernel
theorem dX7_worst_52 : decode cX7_worst 52 = .ok (.istore 6, 2) := by decide +kernel
theorem dX7_worst_54 : decode cX7_worst 54 = .ok (.iconst 0, 1) := by decide +kernel
theorem dX7_worst_55 : decode cX7_worst 55 = .ok (.istore 7, 2) := by decide +kernel
theorem dX7_worst_57 : decode cX7_worst 57 = .ok (.iconst 1, 1) := by decide +kernel
theorem dX7_worst_58 : decode cX7_worst 58 = .ok (.istore 8, 2) := by decide +kernel
theorem dX7_worst_60 : decode cX7_worst 60 = .ok (.iload 8, 2) := by decide +kernel
theorem dX7_worst_62 : decode cX7_worst 62 = .ok (.iload_n 2, 1) := by decide +kernel
theorem dX7_worst_63 : decode cX7_worst 63 = .ok (.if_icmp .gt 92, 3) := by decide +kernel
theorem dX7_worst_66 : decode cX7_worst 66 = .ok (.aload_n 0, 1) := by decide +kernel
theorem dX7_worst_67 : decode cX7_worst 67 = .ok (.iload_n 1, 1) := by decide +kernel
theorem dX7_worst_68 : decode cX7_worst 68 = .ok (.iload 8, 2) := by decide +kernel
theorem dX7_worst_70 : decode cX7_worst 70 = .ok (.iconst 1, 1) := by decide +kernel
theorem dX7_worst_71 : decode cX7_worst 71 = .ok (.isub, 1) := by decide +kernel
theorem dX7_worst_72 : decode cX7_worst 72 = .ok (.invokevirtual 140, 3) := by decide +kernel
theorem dX7_worst_75 : decode cX7_worst 75 = .ok (.istore 9, 2) := by decide +kernel
theorem dX7_worst_77 : decode cX7_worst 77 = .ok (.iload 7, 2) := by decide +kernel
theorem dX7_worst_79 : decode cX7_worst 79 = .ok (.aload_n 0, 1) := by decide +kernel
theorem dX7_worst_80 : decode cX7_worst 80 = .ok (.getfield 13, 3) := by decide +kernel
theorem dX7_worst_83 : decode cX7_worst 83 = .ok (.iconst 4, 1) := by decide +kernel
theorem dX7_worst_84 : decode cX7_worst 84 = .ok (.iload_n 1, 1) := by decide +kernel
theorem dX7_worst_85 : decode cX7_worst 85 = .ok (.imul, 1) := by decide +kernel
theorem dX7_worst_86 : decode cX7_worst 86 = .ok (.iload 9, 2) := by decide +kernel
theorem dX7_worst_88 : decode cX7_worst 88 = .ok (.iadd, 1) := by decide +kernel
theorem dX7_worst_89 : decode cX7_worst 89 = .ok (.iaload, 1) := by decide +kernel
theorem dX7_worst_90 : decode cX7_worst 90 = .ok (.iadd, 1) := by decide +kernel
theorem dX7_worst_91 : decode cX7_worst 91 = .ok (.istore 7, 2) := by decide +kernel
theorem dX7_worst_93 : decode cX7_worst 93 = .ok (.iload 7, 2) := by decide +kernel
theorem dX7_worst_95 : decode cX7_worst 95 = .ok (.aload_n 0, 1) := by decide +kernel
theorem dX7_worst_96 : decode cX7_worst 96 = .ok (.iload_n 1, 1) := by decide +kernel
theorem dX7_worst_97 : decode cX7_worst 97 = .ok (.iload 9, 2) := by decide +kernel
theorem dX7_worst_99 : decode cX7_worst 99 = .ok (.invokevirtual 101, 3) := by decide +kernel
theorem dX7_worst_102 : decode cX7_worst 102 = .ok (.iadd, 1) := by decide +kernel
theorem dX7_worst_103 : decode cX7_worst 103 = .ok (.istore 10, 2) := by decide +kernel
theorem dX7_worst_105 : decode cX7_worst 105 = .ok (.aload_n 0, 1) := by decide +kernel
theorem dX7_worst_106 : decode cX7_worst 106 = .ok (.iload_n 1, 1) := by decide +kernel
theorem dX7_worst_107 : decode cX7_worst 107 = .ok (.iload 8, 2) := by decide +kernel
theorem dX7_worst_109 : decode cX7_worst 109 = .ok (.invokevirtual 162, 3) := by decide +kernel
theorem dX7_worst_112 : decode cX7_worst 112 = .ok (.istore 11, 2) := by decide +kernel
theorem dX7_worst_114 : decode cX7_worst 114 = .ok (.iload 4, 2) := by decide +kernel
theorem dX7_worst_116 : decode cX7_worst 116 = .ok (.ifCond .eq 21, 3) := by decide +kernel
theorem dX7_worst_119 : decode cX7_worst 119 = .ok (.iload 10, 2) := by decide +kernel
theorem dX7_worst_121 : decode cX7_worst 121 = .ok (.i2l, 1) := by decide +kernel
theorem dX7_worst_122 : decode cX7_worst 122 = .ok (.iload 6, 2) := by decide +kernel
theorem dX7_worst_124 : decode cX7_worst 124 = .ok (.i2l, 1) := by decide +kernel
theorem dX7_worst_125 : decode cX7_worst 125 = .ok (.lmul, 1) := by decide +kernel
theorem dX7_worst_126 : decode cX7_worst 126 = .ok (.iload 5, 2) := by decide +kernel
theorem dX7_worst_128 : decode cX7_worst 128 = .ok (.i2l, 1) := by decide +kernel
theorem dX7_worst_129 : decode cX7_worst 129 = .ok (.iload 11, 2) := by decide +kernel
theorem dX7_worst_131 : decode cX7_worst 131 = .ok (.i2l, 1) := by decide +kernel
theorem dX7_worst_132 : decode cX7_worst 132 = .ok (.lmul, 1) := by decide +kernel
theorem dX7_worst_133 : decode cX7_worst 133 = .ok (.lcmp, 1) := by decide +kernel
theorem dX7_worst_134 : decode cX7_worst 134 = .ok (.ifCond .le 15, 3) := by decide +kernel
theorem dX7_worst_137 : decode cX7_worst 137 = .ok (.iload 8, 2) := by decide +kernel
theorem dX7_worst_139 : decode cX7_worst 139 = .ok (.istore 4, 2) := by decide +kernel
theorem dX7_worst_141 : decode cX7_worst 141 = .ok (.iload 10, 2) := by decide +kernel
theorem dX7_worst_143 : decode cX7_worst 143 = .ok (.istore 5, 2) := by decide +kernel
theorem dX7_worst_145 : decode cX7_worst 145 = .ok (.iload 11, 2) := by decide +kernel
theorem dX7_worst_147 : decode cX7_worst 147 = .ok (.istore 6, 2) := by decide +kernel
theorem dX7_worst_149 : decode cX7_worst 149 = .ok (.iinc 8 1, 3) := by decide +kernel
theorem dX7_worst_152 : decode cX7_worst 152 = .ok (.goto (-92), 3) := by decide +kernel
theorem dX7_worst_155 : decode cX7_worst 155 = .ok (.iload_n 3, 1) := by decide +kernel
theorem dX7_worst_156 : decode cX7_worst 156 = .ok (.iconst 2, 1) := by decide +kernel
theorem dX7_worst_157 : decode cX7_worst 157 = .ok (.if_icmp .ne 8, 3) := by decide +kernel
theorem dX7_worst_160 : decode cX7_worst 160 = .ok (.iload 4, 2) := by decide +kernel
theorem dX7_worst_162 : decode cX7_worst 162 = .ok (.goto 11, 3) := by decide +kernel
theorem dX7_worst_165 : decode cX7_worst 165 = .ok (.iload 5, 2) := by decide +kernel
theorem dX7_worst_167 : decode cX7_worst 167 = .ok (.iload 6, 2) := by decide +kernel
theorem dX7_worst_169 : decode cX7_worst 169 = .ok (.iload_n 3, 1) := by decide +kernel
theorem dX7_worst_170 : decode cX7_worst 170 = .ok (.invokestatic 174, 3) := by decide +kernel
theorem dX7_worst_173 : decode cX7_worst 173 = .ok (.ireturn, 1) := by decide +kernel
theorem dX7_drawn_0 : decode cX7_drawn 0 = .ok (.iload_n 1, 1) := by decide +kernel
theorem dX7_drawn_1 : decode cX7_drawn 1 = .ok (.invokestatic 97, 3) := by decide +kernel
theorem dX7_drawn_4 : decode cX7_drawn 4 = .ok (.ifCond .eq 17, 3) := by decide +kernel
theorem dX7_drawn_7 : decode cX7_drawn 7 = .ok (.iload_n 2, 1) := by decide +kernel
theorem dX7_drawn_8 : decode cX7_drawn 8 = .ok (.iconst 1, 1) := by decide +kernel
theorem dX7_drawn_9 : decode cX7_drawn 9 = .ok (.aload_n 0, 1) := by decide +kernel
theorem dX7_drawn_10 : decode cX7_drawn 10 = .ok (.getfield 7, 3) := by decide +kernel
theorem dX7_drawn_13 : decode cX7_drawn 13 = .ok (.iload_n 1, 1) := by decide +kernel
theorem dX7_drawn_14 : decode cX7_drawn 14 = .ok (.iaload, 1) := by decide +kernel
theorem dX7_drawn_15 : decode cX7_drawn 15 = .ok (.invokestatic 90, 3) := by decide +kernel
theorem dX7_drawn_18 : decode cX7_drawn 18 = .ok (.ifCond .ne 5, 3) := by decide +kernel
theorem dX7_drawn_21 : decode cX7_drawn 21 = .ok (.iconst (-1), 1) := by decide +kernel
theorem dX7_drawn_22 : decode cX7_drawn 22 = .ok (.ireturn, 1) := by decide +kernel
theorem dX7_drawn_23 : decode cX7_drawn 23 = .ok (.iload_n 3, 1) := by decide +kernel
theorem dX7_drawn_24 : decode cX7_drawn 24 = .ok (.iconst 1, 1) := by decide +kernel
theorem dX7_drawn_25 : decode cX7_drawn 25 = .ok (.sipush 1000, 3) := by decide +kernel
theorem dX7_drawn_28 : decode cX7_drawn 28 = .ok (.invokestatic 90, 3) := by decide +kernel
theorem dX7_drawn_31 : decode cX7_drawn 31 = .ok (.ifCond .eq 13, 3) := by decide +kernel
theorem dX7_drawn_34 : decode cX7_drawn 34 = .ok (.iload 4, 2) := by decide +kernel
theorem dX7_drawn_36 : decode cX7_drawn 36 = .ok (.iconst 0, 1) := by decide +kernel
theorem dX7_drawn_37 : decode cX7_drawn 37 = .ok (.iconst 2, 1) := by decide +kernel
theorem dX7_drawn_38 : decode cX7_drawn 38 = .ok (.invokestatic 90, 3) := by decide +kernel
theorem dX7_drawn_41 : decode cX7_drawn 41 = .ok (.ifCond .ne 6, 3) := by decide +kernel
theorem dX7_drawn_44 : decode cX7_drawn 44 = .ok (.bipush (-2), 2) := by decide +kernel
theorem dX7_drawn_46 : decode cX7_drawn 46 = .ok (.ireturn, 1) := by decide +kernel
theorem dX7_drawn_47 : decode cX7_drawn 47 = .ok (.aload_n 0, 1) := by decide +kernel
theorem dX7_drawn_48 : decode cX7_drawn 48 = .ok (.getfield 13, 3) := by decide +kernel
theorem dX7_drawn_51 : decode cX7_drawn 51 = .ok (.iconst 4, 1) := by decide +kernel
theorem dX7_drawn_52 : decode cX7_drawn 52 = .ok (.iload_n 1, 1) := by decide +kernel
theorem dX7_drawn_53 : decode cX7_drawn 53 = .ok (.imul, 1) := by decide +kernel
theorem dX7_drawn_54 : decode cX7_drawn 54 = .ok (.iaload, 1) := by decide +kernel
theorem dX7_drawn_55 : decode cX7_drawn 55 = .ok (.aload_n 0, 1) := by decide +kernel
theorem dX7_drawn_56 : decode cX7_drawn 56 = .ok (.getfield 13, 3) := by decide +kernel
theorem dX7_drawn_59 : decode cX7_drawn 59 = .ok (.iconst 4, 1) := by decide +kernel
theorem dX7_drawn_60 : decode cX7_drawn 60 = .ok (.iload_n 1, 1) := by decide +kernel
theorem dX7_drawn_61 : decode cX7_drawn 61 = .ok (.imul, 1) := by decide +kernel
theorem dX7_drawn_62 : decode cX7_drawn 62 = .ok (.iload_n 2, 1) := by decide +kernel
theorem dX7_drawn_63 : decode cX7_drawn 63 = .ok (.iadd, 1) := by decide +kernel
theorem dX7_drawn_64 : decode cX7_drawn 64 = .ok (.iaload, 1) := by decide +kernel
theorem dX7_drawn_65 : decode cX7_drawn 65 = .ok (.isub, 1) := by decide +kernel
theorem dX7_drawn_66 : decode cX7_drawn 66 = .ok (.istore 5, 2) := by decide +kernel
theorem dX7_drawn_68 : decode cX7_drawn 68 = .ok (.iconst 0, 1) := by decide +kernel
theorem dX7_drawn_69 : decode cX7_drawn 69 = .ok (.istore 6, 2) := by decide +kernel
theorem dX7_drawn_71 : decode cX7_drawn 71 = .ok (.iload 6, 2) := by decide +kernel
theorem dX7_drawn_73 : decode cX7_drawn 73 = .ok (.iload 5, 2) := by decide +kernel
theorem dX7_drawn_75 : decode cX7_drawn 75 = .ok (.imul, 1) := by decide +kernel
theorem dX7_drawn_76 : decode cX7_drawn 76 = .ok (.aload_n 0, 1) := by decide +kernel
theorem dX7_drawn_77 : decode cX7_drawn 77 = .ok (.getfield 16, 3) := by decide +kernel
theorem dX7_drawn_80 : decode cX7_drawn 80 = .ok (.iconst 4, 1) := by decide +kernel
theorem dX7_drawn_81 : decode cX7_drawn 81 = .ok (.iload_n 1, 1) := by decide +kernel
theorem dX7_drawn_82 : decode cX7_drawn 82 = .ok (.imul, 1) := by decide +kernel
theorem dX7_drawn_83 : decode cX7_drawn 83 = .ok (.iload_n 2, 1) := by decide +kernel
theorem dX7_drawn_84 : decode cX7_drawn 84 = .ok (.iadd, 1) := by decide +kernel
theorem dX7_drawn_85 : decode cX7_drawn 85 = .ok (.iaload, 1) := by decide +kernel
theorem dX7_drawn_86 : decode cX7_drawn 86 = .ok (.if_icmp .ge 9, 3) := by decide +kernel
theorem dX7_drawn_89 : decode cX7_drawn 89 = .ok (.iinc 6 1, 3) := by decide +kernel
theorem dX7_drawn_92 : decode cX7_drawn 92 = .ok (.goto (-21), 3) := by decide +kernel
theorem dX7_drawn_95 : decode cX7_drawn 95 = .ok (.iload 4, 2) := by decide +kernel
theorem dX7_drawn_97 : decode cX7_drawn 97 = .ok (.iconst 2, 1) := by decide +kernel
theorem dX7_drawn_98 : decode cX7_drawn 98 = .ok (.if_icmp .ne 6, 3) := by decide +kernel
theorem dX7_drawn_101 : decode cX7_drawn 101 = .ok (.iload 6, 2) := by decide +kernel
theorem dX7_drawn_103 : decode cX7_drawn 103 = .ok (.ireturn, 1) := by decide +kernel
theorem dX7_drawn_104 : decode cX7_drawn 104 = .ok (.iconst 0, 1) := by decide +kernel
theorem dX7_drawn_105 : decode cX7_drawn 105 = .ok (.istore 7, 2) := by decide +kernel
theorem dX7_drawn_107 : decode cX7_drawn 107 = .ok (.iconst 0, 1) := by decide +kernel
theorem dX7_drawn_108 : decode cX7_drawn 108 = .ok (.istore 8, 2) := by decide +kernel
theorem dX7_drawn_110 : decode cX7_drawn 110 = .ok (.iload 8, 2) := by decide +kernel
theorem dX7_drawn_112 : decode cX7_drawn 112 = .ok (.iload 6, 2) := by decide +kernel
theorem dX7_drawn_114 : decode cX7_drawn 114 = .ok (.if_icmp .ge 71, 3) := by decide +kernel
theorem dX7_drawn_117 : decode cX7_drawn 117 = .ok (.iload 7, 2) := by decide +kernel
theorem dX7_drawn_119 : decode cX7_drawn 119 = .ok (.iload_n 3, 1) := by decide +kernel
theorem dX7_drawn_120 : decode cX7_drawn 120 = .ok (.iload 8, 2) := by decide +kernel
theorem dX7_drawn_122 : decode cX7_drawn 122 = .ok (.if_icmp .gt 16, 3) := by decide +kernel
theorem dX7_drawn_125 : decode cX7_drawn 125 = .ok (.aload_n 0, 1) := by decide +kernel
theorem dX7_drawn_126 : decode cX7_drawn 126 = .ok (.getfield 13, 3) := by decide +kernel
theorem dX7_drawn_129 : decode cX7_drawn 129 = .ok (.iconst 4, 1) := by decide +kernel
theorem dX7_drawn_130 : decode cX7_drawn 130 = .ok (.iload_n 1, 1) := by decide +kernel
theorem dX7_drawn_131 : decode cX7_drawn 131 = .ok (.imul, 1) := by decide +kernel
theorem dX7_drawn_132 : decode cX7_drawn 132 = .ok (.iaload, 1) := by decide +kernel
theorem dX7_drawn_133 : decode cX7_drawn 133 = .ok (.iload_n 3, 1) := by decide +kernel
theorem dX7_drawn_134 : decode cX7_drawn 134 = .ok (.imul, 1) := by decide +kernel
theorem dX7_drawn_135 : decode cX7_drawn 135 = .ok (.goto 41, 3) := by decide +kernel
theorem dX7_drawn_138 : decode cX7_drawn 138 = .ok (.aload_n 0, 1) := by decide +kernel
theorem dX7_drawn_139 : decode cX7_drawn 139 = .ok (.getfield 13, 3) := by decide +kernel
theorem dX7_drawn_142 : decode cX7_drawn 142 = .ok (.iconst 4, 1) := by decide +kernel
theorem dX7_drawn_143 : decode cX7_drawn 143 = .ok (.iload_n 1, 1) := by decide +kernel
theorem dX7_drawn_144 : decode cX7_drawn 144 = .ok (.imul, 1) := by decide +kernel
theorem dX7_drawn_145 : decode cX7_drawn 145 = .ok (.iaload, 1) := by decide +kernel
theorem dX7_drawn_146 : decode cX7_drawn 146 = .ok (.iload 8, 2) := by decide +kernel
theorem dX7_drawn_148 : decode cX7_drawn 148 = .ok (.imul, 1) := by decide +kernel
theorem dX7_drawn_149 : decode cX7_drawn 149 = .ok (.aload_n 0, 1) := by decide +kernel
theorem dX7_drawn_150 : decode cX7_drawn 150 = .ok (.getfield 13, 3) := by decide +kernel
theorem dX7_drawn_153 : decode cX7_drawn 153 = .ok (.iconst 4, 1) := by decide +kernel
theorem dX7_drawn_154 : decode cX7_drawn 154 = .ok (.iload_n 1, 1) := by decide +kernel
theorem dX7_drawn_155 : decode cX7_drawn 155 = .ok (.imul, 1) := by decide +kernel
theorem dX7_drawn_156 : decode cX7_drawn 156 = .ok (.iload_n 2, 1) := by decide +kernel
theorem dX7_drawn_157 : decode cX7_drawn 157 = .ok (.iadd, 1) := by decide +kernel
theorem dX7_drawn_158 : decode cX7_drawn 158 = .ok (.iaload, 1) := by decide +kernel
theorem dX7_drawn_159 : decode cX7_drawn 159 = .ok (.iload_n 3, 1) := by decide +kernel
theorem dX7_drawn_160 : decode cX7_drawn 160 = .ok (.iload 8, 2) := by decide +kernel
theorem dX7_drawn_162 : decode cX7_drawn 162 = .ok (.isub, 1) := by decide +kernel
theorem dX7_drawn_163 : decode cX7_drawn 163 = .ok (.imul, 1) := by decide +kernel
theorem dX7_drawn_164 : decode cX7_drawn 164 = .ok (.iadd, 1) := by decide +kernel
theorem dX7_drawn_165 : decode cX7_drawn 165 = .ok (.aload_n 0, 1) := by decide +kernel
theorem dX7_drawn_166 : decode cX7_drawn 166 = .ok (.getfield 16, 3) := by decide +kernel
theorem dX7_drawn_169 : decode cX7_drawn 169 = .ok (.iconst 4, 1) := by decide +kernel
theorem dX7_drawn_170 : decode cX7_drawn 170 = .ok (.iload_n 1, 1) := by decide +kernel
theorem dX7_drawn_171 : decode cX7_drawn 171 = .ok (.imul, 1) := by decide +kernel
theorem dX7_drawn_172 : decode cX7_drawn 172 = .ok (.iload_n 2, 1) := by decide +kernel
theorem dX7_drawn_173 : decode cX7_drawn 173 = .ok (.iadd, 1) := by decide +kernel
theorem dX7_drawn_174 : decode cX7_drawn 174 = .ok (.iaload, 1) := by decide +kernel
theorem dX7_drawn_175 : decode cX7_drawn 175 = .ok (.iadd, 1) := by decide +kernel
theorem dX7_drawn_176 : decode cX7_drawn 176 = .ok (.iadd, 1) := by decide +kernel
theorem dX7_drawn_177 : decode cX7_drawn 177 = .ok (.istore 7, 2) := by decide +kernel
theorem dX7_drawn_179 : decode cX7_drawn 179 = .ok (.iinc 8 1, 3) := by decide +kernel
theorem dX7_drawn_182 : decode cX7_drawn 182 = .ok (.goto (-72), 3) := by decide +kernel
theorem dX7_drawn_185 : decode cX7_drawn 185 = .ok (.iload 7, 2) := by decide +kernel
theorem dX7_drawn_187 : decode cX7_drawn 187 = .ok (.iload 6, 2) := by decide +kernel
theorem dX7_drawn_189 : decode cX7_drawn 189 = .ok (.iload 4, 2) := by decide +kernel
theorem dX7_drawn_191 : decode cX7_drawn 191 = .ok (.invokestatic 174, 3) := by decide +kernel
theorem dX7_drawn_194 : decode cX7_drawn 194 = .ok (.ireturn, 1) := by decide +kernel
theorem dX7_count_0 : decode cX7_count 0 = .ok (.aload_n 0, 1) := by decide +kernel
theorem dX7_count_1 : decode cX7_count 1 = .ok (.bipush (-6), 2) := by decide +kernel
theorem dX7_count_3 : decode cX7_count 3 = .ok (.invokevirtual 143, 3) := by decide +kernel
theorem dX7_count_6 : decode cX7_count 6 = .ok (.iload_n 1, 1) := by decide +kernel
theorem dX7_count_7 : decode cX7_count 7 = .ok (.tableswitch 124 0 6 #[41, 46, 51, 56, 84, 89, 94], 41) := by decide +kernel
theorem dX7_count_48 : decode cX7_count 48 = .ok (.aload_n 0, 1) := by decide +kernel
theorem dX7_count_49 : decode cX7_count 49 = .ok (.getfield 94, 3) := by decide +kernel
theorem dX7_count_52 : decode cX7_count 52 = .ok (.ireturn, 1) := by decide +kernel
theorem dX7_count_53 : decode cX7_count 53 = .ok (.aload_n 0, 1) := by decide +kernel
theorem dX7_count_54 : decode cX7_count 54 = .ok (.getfield 34, 3) := by decide +kernel
theorem dX7_count_57 : decode cX7_count 57 = .ok (.ireturn, 1) := by decide +kernel
theorem dX7_count_58 : decode cX7_count 58 = .ok (.aload_n 0, 1) := by decide +kernel
theorem dX7_count_59 : decode cX7_count 59 = .ok (.getfield 108, 3) := by decide +kernel
theorem dX7_count_62 : decode cX7_count 62 = .ok (.ireturn, 1) := by decide +kernel
theorem dX7_count_63 : decode cX7_count 63 = .ok (.aload_n 0, 1) := by decide +kernel
theorem dX7_count_64 : decode cX7_count 64 = .ok (.getfield 44, 3) := by decide +kernel
theorem dX7_count_67 : decode cX7_count 67 = .ok (.iconst 0, 1) := by decide +kernel
theorem dX7_count_68 : decode cX7_count 68 = .ok (.iaload, 1) := by decide +kernel
theorem dX7_count_69 : decode cX7_count 69 = .ok (.aload_n 0, 1) := by decide +kernel
theorem dX7_count_70 : decode cX7_count 70 = .ok (.getfield 44, 3) := by decide +kernel
theorem dX7_count_73 : decode cX7_count 73 = .ok (.iconst 1, 1) := by decide +kernel
theorem dX7_count_74 : decode cX7_count 74 = .ok (.iaload, 1) := by decide +kernel
theorem dX7_count_75 : decode cX7_count 75 = .ok (.iadd, 1) := by decide +kernel
theorem dX7_count_76 : decode cX7_count 76 = .ok (.aload_n 0, 1) := by decide +kernel
theorem dX7_count_77 : decode cX7_count 77 = .ok (.getfield 44, 3) := by decide +kernel
theorem dX7_count_80 : decode cX7_count 80 = .ok (.iconst 2, 1) := by decide +kernel
theorem dX7_count_81 : decode cX7_count 81 = .ok (.iaload, 1) := by decide +kernel
theorem dX7_count_82 : decode cX7_count 82 = .ok (.iadd, 1) := by decide +kernel
theorem dX7_count_83 : decode cX7_count 83 = .ok (.aload_n 0, 1) := by decide +kernel
theorem dX7_count_84 : decode cX7_count 84 = .ok (.getfield 44, 3) := by decide +kernel
theorem dX7_count_87 : decode cX7_count 87 = .ok (.iconst 3, 1) := by decide +kernel
theorem dX7_count_88 : decode cX7_count 88 = .ok (.iaload, 1) := by decide +kernel
theorem dX7_count_89 : decode cX7_count 89 = .ok (.iadd, 1) := by decide +kernel
theorem dX7_count_90 : decode cX7_count 90 = .ok (.ireturn, 1) := by decide +kernel
theorem dX7_count_91 : decode cX7_count 91 = .ok (.aload_n 0, 1) := by decide +kernel
theorem dX7_count_92 : decode cX7_count 92 = .ok (.getfield 121, 3) := by decide +kernel
theorem dX7_count_95 : decode cX7_count 95 = .ok (.ireturn, 1) := by decide +kernel
theorem dX7_count_96 : decode cX7_count 96 = .ok (.aload_n 0, 1) := by decide +kernel
theorem dX7_count_97 : decode cX7_count 97 = .ok (.getfield 127, 3) := by decide +kernel
theorem dX7_count_100 : decode cX7_count 100 = .ok (.ireturn, 1) := by decide +kernel
theorem dX7_count_101 : decode cX7_count 101 = .ok (.aload_n 0, 1) := by decide +kernel
theorem dX7_count_102 : decode cX7_count 102 = .ok (.getfield 87, 3) := by decide +kernel
theorem dX7_count_105 : decode cX7_count 105 = .ok (.iconst 0, 1) := by decide +kernel
theorem dX7_count_106 : decode cX7_count 106 = .ok (.baload, 1) := by decide +kernel
theorem dX7_count_107 : decode cX7_count 107 = .ok (.ifCond .eq 7, 3) := by decide +kernel
theorem dX7_count_110 : decode cX7_count 110 = .ok (.iconst 1, 1) := by decide +kernel
theorem dX7_count_111 : decode cX7_count 111 = .ok (.goto 4, 3) := by decide +kernel
theorem dX7_count_114 : decode cX7_count 114 = .ok (.iconst 0, 1) := by decide +kernel
theorem dX7_count_115 : decode cX7_count 115 = .ok (.aload_n 0, 1) := by decide +kernel
theorem dX7_count_116 : decode cX7_count 116 = .ok (.getfield 87, 3) := by decide +kernel
theorem dX7_count_119 : decode cX7_count 119 = .ok (.iconst 1, 1) := by decide +kernel
theorem dX7_count_120 : decode cX7_count 120 = .ok (.baload, 1) := by decide +kernel
theorem dX7_count_121 : decode cX7_count 121 = .ok (.ifCond .eq 7, 3) := by decide +kernel
theorem dX7_count_124 : decode cX7_count 124 = .ok (.iconst 2, 1) := by decide +kernel
theorem dX7_count_125 : decode cX7_count 125 = .ok (.goto 4, 3) := by decide +kernel
theorem dX7_count_128 : decode cX7_count 128 = .ok (.iconst 0, 1) := by decide +kernel
theorem dX7_count_129 : decode cX7_count 129 = .ok (.iadd, 1) := by decide +kernel
theorem dX7_count_130 : decode cX7_count 130 = .ok (.ireturn, 1) := by decide +kernel
theorem dX7_count_131 : decode cX7_count 131 = .ok (.bipush (-2), 2) := by decide +kernel
theorem dX7_count_133 : decode cX7_count 133 = .ok (.ireturn, 1) := by decide +kernel
theorem dX7_image_0 : decode cX7_image 0 = .ok (.iload_n 1, 1) := by decide +kernel
theorem dX7_image_1 : decode cX7_image 1 = .ok (.iconst 0, 1) := by decide +kernel
theorem dX7_image_2 : decode cX7_image 2 = .ok (.iconst 1, 1) := by decide +kernel
theorem dX7_image_3 : decode cX7_image 3 = .ok (.invokestatic 90, 3) := by decide +kernel
theorem dX7_image_6 : decode cX7_image 6 = .ok (.ifCond .ne 6, 3) := by decide +kernel
theorem dX7_image_9 : decode cX7_image 9 = .ok (.bipush (-2), 2) := by decide +kernel
theorem dX7_image_11 : decode cX7_image 11 = .ok (.ireturn, 1) := by decide +kernel
theorem dX7_image_12 : decode cX7_image 12 = .ok (.sipush 167, 3) := by decide +kernel
theorem dX7_image_15 : decode cX7_image 15 = .ok (.iload_n 1, 1) := by decide +kernel
theorem dX7_image_16 : decode cX7_image 16 = .ok (.imul, 1) := by decide +kernel
theorem dX7_image_17 : decode cX7_image 17 = .ok (.istore_n 2, 1) := by decide +kernel
theorem dX7_image_18 : decode cX7_image 18 = .ok (.iconst 0, 1) := by decide +kernel
theorem dX7_image_19 : decode cX7_image 19 = .ok (.istore_n 3, 1) := by decide +kernel
theorem dX7_image_20 : decode cX7_image 20 = .ok (.iload_n 3, 1) := by decide +kernel
theorem dX7_image_21 : decode cX7_image 21 = .ok (.iconst 4, 1) := by decide +kernel
theorem dX7_image_22 : decode cX7_image 22 = .ok (.if_icmp .ge 136, 3) := by decide +kernel
theorem dX7_image_25 : decode cX7_image 25 = .ok (.iconst 0, 1) := by decide +kernel
theorem dX7_image_26 : decode cX7_image 26 = .ok (.istore 4, 2) := by decide +kernel
theorem dX7_image_28 : decode cX7_image 28 = .ok (.iload 4, 2) := by decide +kernel
theorem dX7_image_30 : decode cX7_image 30 = .ok (.iconst 4, 1) := by decide +kernel
theorem dX7_image_31 : decode cX7_image 31 = .ok (.if_icmp .ge 61, 3) := by decide +kernel
theorem dX7_image_34 : decode cX7_image 34 = .ok (.aload_n 0, 1) := by decide +kernel
theorem dX7_image_35 : decode cX7_image 35 = .ok (.getfield 84, 3) := by decide +kernel
theorem dX7_image_38 : decode cX7_image 38 = .ok (.iload_n 2, 1) := by decide +kernel
theorem dX7_image_39 : decode cX7_image 39 = .ok (.bipush 11, 2) := by decide +kernel
theorem dX7_image_41 : decode cX7_image 41 = .ok (.iload_n 3, 1) := by decide +kernel
theorem dX7_image_42 : decode cX7_image 42 = .ok (.imul, 1) := by decide +kernel
theorem dX7_image_43 : decode cX7_image 43 = .ok (.iadd, 1) := by decide +kernel
theorem dX7_image_44 : decode cX7_image 44 = .ok (.iload 4, 2) := by decide +kernel
theorem dX7_image_46 : decode cX7_image 46 = .ok (.iadd, 1) := by decide +kernel
theorem dX7_image_47 : decode cX7_image 47 = .ok (.aload_n 0, 1) := by decide +kernel
theorem dX7_image_48 : decode cX7_image 48 = .ok (.getfield 13, 3) := by decide +kernel
theorem dX7_image_51 : decode cX7_image 51 = .ok (.iconst 4, 1) := by decide +kernel
theorem dX7_image_52 : decode cX7_image 52 = .ok (.iload_n 3, 1) := by decide +kernel
theorem dX7_image_53 : decode cX7_image 53 = .ok (.imul, 1) := by decide +kernel
theorem dX7_image_54 : decode cX7_image 54 = .ok (.iload 4, 2) := by decide +kernel
theorem dX7_image_56 : decode cX7_image 56 = .ok (.iadd, 1) := by decide +kernel
theorem dX7_image_57 : decode cX7_image 57 = .ok (.iaload, 1) := by decide +kernel
theorem dX7_image_58 : decode cX7_image 58 = .ok (.iastore, 1) := by decide +kernel
theorem dX7_image_59 : decode cX7_image 59 = .ok (.aload_n 0, 1) := by decide +kernel
theorem dX7_image_60 : decode cX7_image 60 = .ok (.getfield 84, 3) := by decide +kernel
theorem dX7_image_63 : decode cX7_image 63 = .ok (.iload_n 2, 1) := by decide +kernel
theorem dX7_image_64 : decode cX7_image 64 = .ok (.bipush 11, 2) := by decide +kernel
theorem dX7_image_66 : decode cX7_image 66 = .ok (.iload_n 3, 1) := by decide +kernel
theorem dX7_image_67 : decode cX7_image 67 = .ok (.imul, 1) := by decide +kernel
theorem dX7_image_68 : decode cX7_image 68 = .ok (.iadd, 1) := by decide +kernel
theorem dX7_image_69 : decode cX7_image 69 = .ok (.iconst 4, 1) := by decide +kernel
theorem dX7_image_70 : decode cX7_image 70 = .ok (.iadd, 1) := by decide +kernel
theorem dX7_image_71 : decode cX7_image 71 = .ok (.iload 4, 2) := by decide +kernel
theorem dX7_image_73 : decode cX7_image 73 = .ok (.iadd, 1) := by decide +kernel
theorem dX7_image_74 : decode cX7_image 74 = .ok (.aload_n 0, 1) := by decide +kernel
theorem dX7_image_75 : decode cX7_image 75 = .ok (.getfield 16, 3) := by decide +kernel
theorem dX7_image_78 : decode cX7_image 78 = .ok (.iconst 4, 1) := by decide +kernel
theorem dX7_image_79 : decode cX7_image 79 = .ok (.iload_n 3, 1) := by decide +kernel
theorem dX7_image_80 : decode cX7_image 80 = .ok (.imul, 1) := by decide +kernel
theorem dX7_image_81 : decode cX7_image 81 = .ok (.iload 4, 2) := by decide +kernel
theorem dX7_image_83 : decode cX7_image 83 = .ok (.iadd, 1) := by decide +kernel
theorem dX7_image_84 : decode cX7_image 84 = .ok (.iaload, 1) := by decide +kernel
theorem dX7_image_85 : decode cX7_image 85 = .ok (.iastore, 1) := by decide +kernel
theorem dX7_image_86 : decode cX7_image 86 = .ok (.iinc 4 1, 3) := by decide +kernel
theorem dX7_image_89 : decode cX7_image 89 = .ok (.goto (-61), 3) := by decide +kernel
theorem dX7_image_92 : decode cX7_image 92 = .ok (.aload_n 0, 1) := by decide +kernel
theorem dX7_image_93 : decode cX7_image 93 = .ok (.getfield 84, 3) := by decide +kernel
theorem dX7_image_96 : decode cX7_image 96 = .ok (.iload_n 2, 1) := by decide +kernel
theorem dX7_image_97 : decode cX7_image 97 = .ok (.bipush 11, 2) := by decide +kernel
theorem dX7_image_99 : decode cX7_image 99 = .ok (.iload_n 3, 1) := by decide +kernel
theorem dX7_image_100 : decode cX7_image 100 = .ok (.imul, 1) := by decide +kernel
theorem dX7_image_101 : decode cX7_image 101 = .ok (.iadd, 1) := by decide +kernel
theorem dX7_image_102 : decode cX7_image 102 = .ok (.bipush 8, 2) := by decide +kernel
theorem dX7_image_104 : decode cX7_image 104 = .ok (.iadd, 1) := by decide +kernel
theorem dX7_image_105 : decode cX7_image 105 = .ok (.aload_n 0, 1) := by decide +kernel
theorem dX7_image_106 : decode cX7_image 106 = .ok (.getfield 7, 3) := by decide +kernel
theorem dX7_image_109 : decode cX7_image 109 = .ok (.iload_n 3, 1) := by decide +kernel
theorem dX7_image_110 : decode cX7_image 110 = .ok (.iaload, 1) := by decide +kernel
theorem dX7_image_111 : decode cX7_image 111 = .ok (.iastore, 1) := by decide +kernel
theorem dX7_image_112 : decode cX7_image 112 = .ok (.aload_n 0, 1) := by decide +kernel
theorem dX7_image_113 : decode cX7_image 113 = .ok (.getfield 84, 3) := by decide +kernel
theorem dX7_image_116 : decode cX7_image 116 = .ok (.iload_n 2, 1) := by decide +kernel
theorem dX7_image_117 : decode cX7_image 117 = .ok (.bipush 11, 2) := by decide +kernel
theorem dX7_image_119 : decode cX7_image 119 = .ok (.iload_n 3, 1) := by decide +kernel
theorem dX7_image_120 : decode cX7_image 120 = .ok (.imul, 1) := by decide +kernel
theorem dX7_image_121 : decode cX7_image 121 = .ok (.iadd, 1) := by decide +kernel
theorem dX7_image_122 : decode cX7_image 122 = .ok (.bipush 9, 2) := by decide +kernel
theorem dX7_image_124 : decode cX7_image 124 = .ok (.iadd, 1) := by decide +kernel
theorem dX7_image_125 : decode cX7_image 125 = .ok (.aload_n 0, 1) := by decide +kernel
theorem dX7_image_126 : decode cX7_image 126 = .ok (.getfield 19, 3) := by decide +kernel
theorem dX7_image_129 : decode cX7_image 129 = .ok (.iload_n 3, 1) := by decide +kernel
theorem dX7_image_130 : decode cX7_image 130 = .ok (.iaload, 1) := by decide +kernel
theorem dX7_image_131 : decode cX7_image 131 = .ok (.iastore, 1) := by decide +kernel
theorem dX7_image_132 : decode cX7_image 132 = .ok (.aload_n 0, 1) := by decide +kernel
theorem dX7_image_133 : decode cX7_image 133 = .ok (.getfield 84, 3) := by decide +kernel
theorem dX7_image_136 : decode cX7_image 136 = .ok (.iload_n 2, 1) := by decide +kernel
theorem dX7_image_137 : decode cX7_image 137 = .ok (.bipush 11, 2) := by decide +kernel
theorem dX7_image_139 : decode cX7_image 139 = .ok (.iload_n 3, 1) := by decide +kernel
theorem dX7_image_140 : decode cX7_image 140 = .ok (.imul, 1) := by decide +kernel
theorem dX7_image_141 : decode cX7_image 141 = .ok (.iadd, 1) := by decide +kernel
theorem dX7_image_142 : decode cX7_image 142 = .ok (.bipush 10, 2) := by decide +kernel
theorem dX7_image_144 : decode cX7_image 144 = .ok (.iadd, 1) := by decide +kernel
theorem dX7_image_145 : decode cX7_image 145 = .ok (.aload_n 0, 1) := by decide +kernel
theorem dX7_image_146 : decode cX7_image 146 = .ok (.getfield 22, 3) := by decide +kernel
theorem dX7_image_149 : decode cX7_image 149 = .ok (.iload_n 3, 1) := by decide +kernel
theorem dX7_image_150 : decode cX7_image 150 = .ok (.iaload, 1) := by decide +kernel
theorem dX7_image_151 : decode cX7_image 151 = .ok (.iastore, 1) := by decide +kernel
theorem dX7_image_152 : decode cX7_image 152 = .ok (.iinc 3 1, 3) := by decide +kernel
theorem dX7_image_155 : decode cX7_image 155 = .ok (.goto (-135), 3) := by decide +kernel
theorem dX7_image_158 : decode cX7_image 158 = .ok (.iconst 0, 1) := by decide +kernel
theorem dX7_image_159 : decode cX7_image 159 = .ok (.istore_n 3, 1) := by decide +kernel
theorem dX7_image_160 : decode cX7_image 160 = .ok (.iload_n 3, 1) := by decide +kernel
theorem dX7_image_161 : decode cX7_image 161 = .ok (.bipush 40, 2) := by decide +kernel
theorem dX7_image_163 : decode cX7_image 163 = .ok (.if_icmp .ge 66, 3) := by decide +kernel
theorem dX7_image_166 : decode cX7_image 166 = .ok (.aload_n 0, 1) := by decide +kernel
theorem dX7_image_167 : decode cX7_image 167 = .ok (.getfield 84, 3) := by decide +kernel
theorem dX7_image_170 : decode cX7_image 170 = .ok (.iload_n 2, 1) := by decide +kernel
theorem dX7_image_171 : decode cX7_image 171 = .ok (.bipush 44, 2) := by decide +kernel
theorem dX7_image_173 : decode cX7_image 173 = .ok (.iadd, 1) := by decide +kernel
theorem dX7_image_174 : decode cX7_image 174 = .ok (.iconst 3, 1) := by decide +kernel
theorem dX7_image_175 : decode cX7_image 175 = .ok (.iload_n 3, 1) := by decide +kernel
theorem dX7_image_176 : decode cX7_image 176 = .ok (.imul, 1) := by decide +kernel
theorem dX7_image_177 : decode cX7_image 177 = .ok (.iadd, 1) := by decide +kernel
theorem dX7_image_178 : decode cX7_image 178 = .ok (.aload_n 0, 1) := by decide +kernel
theorem dX7_image_179 : decode cX7_image 179 = .ok (.getfield 25, 3) := by decide +kernel
theorem dX7_image_182 : decode cX7_image 182 = .ok (.iload_n 3, 1) := by decide +kernel
theorem dX7_image_183 : decode cX7_image 183 = .ok (.iaload, 1) := by decide +kernel
theorem dX7_image_184 : decode cX7_image 184 = .ok (.iastore, 1) := by decide +kernel
theorem dX7_image_185 : decode cX7_image 185 = .ok (.aload_n 0, 1) := by decide +kernel
theorem dX7_image_186 : decode cX7_image 186 = .ok (.getfield 84, 3) := by decide +kernel
theorem dX7_image_189 : decode cX7_image 189 = .ok (.iload_n 2, 1) := by decide +kernel
theorem dX7_image_190 : decode cX7_image 190 = .ok (.bipush 45, 2) := by decide +kernel
theorem dX7_image_192 : decode cX7_image 192 = .ok (.iadd, 1) := by decide +kernel
theorem dX7_image_193 : decode cX7_image 193 = .ok (.iconst 3, 1) := by decide +kernel
theorem dX7_image_194 : decode cX7_image 194 = .ok (.iload_n 3, 1) := by decide +kernel
theorem dX7_image_195 : decode cX7_image 195 = .ok (.imul, 1) := by decide +kernel
theorem dX7_image_196 : decode cX7_image 196 = .ok (.iadd, 1) := by decide +kernel
theorem dX7_image_197 : decode cX7_image 197 = .ok (.aload_n 0, 1) := by decide +kernel
theorem dX7_image_198 : decode cX7_image 198 = .ok (.getfield 28, 3) := by decide +kernel
theorem dX7_image_201 : decode cX7_image 201 = .ok (.iload_n 3, 1) := by decide +kernel
theorem dX7_image_202 : decode cX7_image 202 = .ok (.iaload, 1) := by decide +kernel
theorem dX7_image_203 : decode cX7_image 203 = .ok (.iastore, 1) := by decide +kernel
theorem dX7_image_204 : decode cX7_image 204 = .ok (.aload_n 0, 1) := by decide +kernel
theorem dX7_image_205 : decode cX7_image 205 = .ok (.getfield 84, 3) := by decide +kernel
theorem dX7_image_208 : decode cX7_image 208 = .ok (.iload_n 2, 1) := by decide +kernel
theorem dX7_image_209 : decode cX7_image 209 = .ok (.bipush 46, 2) := by decide +kernel
theorem dX7_image_211 : decode cX7_image 211 = .ok (.iadd, 1) := by decide +kernel
theorem dX7_image_212 : decode cX7_image 212 = .ok (.iconst 3, 1) := by decide +kernel
theorem dX7_image_213 : decode cX7_image 213 = .ok (.iload_n 3, 1) := by decide +kernel
theorem dX7_image_214 : decode cX7_image 214 = .ok (.imul, 1) := by decide +kernel
theorem dX7_image_215 : decode cX7_image 215 = .ok (.iadd, 1) := by decide +kernel
theorem dX7_image_216 : decode cX7_image 216 = .ok (.aload_n 0, 1) := by decide +kernel
theorem dX7_image_217 : decode cX7_image 217 = .ok (.getfield 31, 3) := by decide +kernel
theorem dX7_image_220 : decode cX7_image 220 = .ok (.iload_n 3, 1) := by decide +kernel
theorem dX7_image_221 : decode cX7_image 221 = .ok (.iaload, 1) := by decide +kernel
theorem dX7_image_222 : decode cX7_image 222 = .ok (.iastore, 1) := by decide +kernel
theorem dX7_image_223 : decode cX7_image 223 = .ok (.iinc 3 1, 3) := by decide +kernel
theorem dX7_image_226 : decode cX7_image 226 = .ok (.goto (-66), 3) := by decide +kernel
theorem dX7_image_229 : decode cX7_image 229 = .ok (.aload_n 0, 1) := by decide +kernel
theorem dX7_image_230 : decode cX7_image 230 = .ok (.getfield 84, 3) := by decide +kernel
theorem dX7_image_233 : decode cX7_image 233 = .ok (.iload_n 2, 1) := by decide +kernel
theorem dX7_image_234 : decode cX7_image 234 = .ok (.sipush 164, 3) := by decide +kernel
theorem dX7_image_237 : decode cX7_image 237 = .ok (.iadd, 1) := by decide +kernel
theorem dX7_image_238 : decode cX7_image 238 = .ok (.aload_n 0, 1) := by decide +kernel
theorem dX7_image_239 : decode cX7_image 239 = .ok (.getfield 94, 3) := by decide +kernel
theorem dX7_image_242 : decode cX7_image 242 = .ok (.iastore, 1) := by decide +kernel
theorem dX7_image_243 : decode cX7_image 243 = .ok (.aload_n 0, 1) := by decide +kernel
theorem dX7_image_244 : decode cX7_image 244 = .ok (.getfield 84, 3) := by decide +kernel
theorem dX7_image_247 : decode cX7_image 247 = .ok (.iload_n 2, 1) := by decide +kernel
theorem dX7_image_248 : decode cX7_image 248 = .ok (.sipush 165, 3) := by decide +kernel
theorem dX7_image_251 : decode cX7_image 251 = .ok (.iadd, 1) := by decide +kernel
theorem dX7_image_252 : decode cX7_image 252 = .ok (.aload_n 0, 1) := by decide +kernel
theorem dX7_image_253 : decode cX7_image 253 = .ok (.getfield 34, 3) := by decide +kernel
theorem dX7_image_256 : decode cX7_image 256 = .ok (.iastore, 1) := by decide +kernel
theorem dX7_image_257 : decode cX7_image 257 = .ok (.aload_n 0, 1) := by decide +kernel
theorem dX7_image_258 : decode cX7_image 258 = .ok (.getfield 84, 3) := by decide +kernel
theorem dX7_image_261 : decode cX7_image 261 = .ok (.iload_n 2, 1) := by decide +kernel
theorem dX7_image_262 : decode cX7_image 262 = .ok (.sipush 166, 3) := by decide +kernel
theorem dX7_image_265 : decode cX7_image 265 = .ok (.iadd, 1) := by decide +kernel
theorem dX7_image_266 : decode cX7_image 266 = .ok (.aload_n 0, 1) := by decide +kernel
theorem dX7_image_267 : decode cX7_image 267 = .ok (.getfield 108, 3) := by decide +kernel
theorem dX7_image_270 : decode cX7_image 270 = .ok (.iastore, 1) := by decide +kernel
theorem dX7_image_271 : decode cX7_image 271 = .ok (.aload_n 0, 1) := by decide +kernel
theorem dX7_image_272 : decode cX7_image 272 = .ok (.getfield 87, 3) := by decide +kernel
theorem dX7_image_275 : decode cX7_image 275 = .ok (.iload_n 1, 1) := by decide +kernel
theorem dX7_image_276 : decode cX7_image 276 = .ok (.iconst 1, 1) := by decide +kernel
theorem dX7_image_277 : decode cX7_image 277 = .ok (.bastore, 1) := by decide +kernel
theorem dX7_image_278 : decode cX7_image 278 = .ok (.iconst 1, 1) := by decide +kernel
theorem dX7_image_279 : decode cX7_image 279 = .ok (.ireturn, 1) := by decide +kernel
theorem dX7_restore_0 : decode cX7_restore 0 = .ok (.iload_n 1, 1) := by decide +kernel
theorem dX7_restore_1 : decode cX7_restore 1 = .ok (.iconst 0, 1) := by decide +kernel
theorem dX7_restore_2 : decode cX7_restore 2 = .ok (.iconst 1, 1) := by decide +kernel
theorem dX7_restore_3 : decode cX7_restore 3 = .ok (.invokestatic 90, 3) := by decide +kernel
theorem dX7_restore_6 : decode cX7_restore 6 = .ok (.ifCond .ne 6, 3) := by decide +kernel
theorem dX7_restore_9 : decode cX7_restore 9 = .ok (.bipush (-2), 2) := by decide +kernel
theorem dX7_restore_11 : decode cX7_restore 11 = .ok (.ireturn, 1) := by decide +kernel
theorem dX7_restore_12 : decode cX7_restore 12 = .ok (.aload_n 0, 1) := by decide +kernel
theorem dX7_restore_13 : decode cX7_restore 13 = .ok (.getfield 87, 3) := by decide +kernel
theorem dX7_restore_16 : decode cX7_restore 16 = .ok (.iload_n 1, 1) := by decide +kernel
theorem dX7_restore_17 : decode cX7_restore 17 = .ok (.baload, 1) := by decide +kernel
theorem dX7_restore_18 : decode cX7_restore 18 = .ok (.ifCond .ne 6, 3) := by decide +kernel
theorem dX7_restore_21 : decode cX7_restore 21 = .ok (.bipush (-3), 2) := by decide +kernel
theorem dX7_restore_23 : decode cX7_restore 23 = .ok (.ireturn, 1) := by decide +kernel
theorem dX7_restore_24 : decode cX7_restore 24 = .ok (.sipush 167, 3) := by decide +kernel
theorem dX7_restore_27 : decode cX7_restore 27 = .ok (.iload_n 1, 1) := by decide +kernel
theorem dX7_restore_28 : decode cX7_restore 28 = .ok (.imul, 1) := by decide +kernel
theorem dX7_restore_29 : decode cX7_restore 29 = .ok (.istore_n 2, 1) := by decide +kernel
theorem dX7_restore_30 : decode cX7_restore 30 = .ok (.iconst 0, 1) := by decide +kernel
theorem dX7_restore_31 : decode cX7_restore 31 = .ok (.istore_n 3, 1) := by decide +kernel
theorem dX7_restore_32 : decode cX7_restore 32 = .ok (.iload_n 3, 1) := by decide +kernel
theorem dX7_restore_33 : decode cX7_restore 33 = .ok (.iconst 4, 1) := by decide +kernel
theorem dX7_restore_34 : decode cX7_restore 34 = .ok (.if_icmp .ge 136, 3) := by decide +kernel
theorem dX7_restore_37 : decode cX7_restore 37 = .ok (.iconst 0, 1) := by decide +kernel
theorem dX7_restore_38 : decode cX7_restore 38 = .ok (.istore 4, 2) := by decide +kernel
theorem dX7_restore_40 : decode cX7_restore 40 = .ok (.iload 4, 2) := by decide +kernel
theorem dX7_restore_42 : decode cX7_restore 42 = .ok (.iconst 4, 1) := by decide +kernel
theorem dX7_restore_43 : decode cX7_restore 43 = .ok (.if_icmp .ge 61, 3) := by decide +kernel
theorem dX7_restore_46 : decode cX7_restore 46 = .ok (.aload_n 0, 1) := by decide +kernel
theorem dX7_restore_47 : decode cX7_restore 47 = .ok (.getfield 13, 3) := by decide +kernel
theorem dX7_restore_50 : decode cX7_restore 50 = .ok (.iconst 4, 1) := by decide +kernel
theorem dX7_restore_51 : decode cX7_restore 51 = .ok (.iload_n 3, 1) := by decide +kernel
theorem dX7_restore_52 : decode cX7_restore 52 = .ok (.imul, 1) := by decide +kernel
theorem dX7_restore_53 : decode cX7_restore 53 = .ok (.iload 4, 2) := by decide +kernel
theorem dX7_restore_55 : decode cX7_restore 55 = .ok (.iadd, 1) := by decide +kernel
theorem dX7_restore_56 : decode cX7_restore 56 = .ok (.aload_n 0, 1) := by decide +kernel
theorem dX7_restore_57 : decode cX7_restore 57 = .ok (.getfield 84, 3) := by decide +kernel
theorem dX7_restore_60 : decode cX7_restore 60 = .ok (.iload_n 2, 1) := by decide +kernel
theorem dX7_restore_61 : decode cX7_restore 61 = .ok (.bipush 11, 2) := by decide +kernel
theorem dX7_restore_63 : decode cX7_restore 63 = .ok (.iload_n 3, 1) := by decide +kernel
theorem dX7_restore_64 : decode cX7_restore 64 = .ok (.imul, 1) := by decide +kernel
theorem dX7_restore_65 : decode cX7_restore 65 = .ok (.iadd, 1) := by decide +kernel
theorem dX7_restore_66 : decode cX7_restore 66 = .ok (.iload 4, 2) := by decide +kernel
theorem dX7_restore_68 : decode cX7_restore 68 = .ok (.iadd, 1) := by decide +kernel
theorem dX7_restore_69 : decode cX7_restore 69 = .ok (.iaload, 1) := by decide +kernel
theorem dX7_restore_70 : decode cX7_restore 70 = .ok (.iastore, 1) := by decide +kernel
theorem dX7_restore_71 : decode cX7_restore 71 = .ok (.aload_n 0, 1) := by decide +kernel
theorem dX7_restore_72 : decode cX7_restore 72 = .ok (.getfield 16, 3) := by decide +kernel
theorem dX7_restore_75 : decode cX7_restore 75 = .ok (.iconst 4, 1) := by decide +kernel
theorem dX7_restore_76 : decode cX7_restore 76 = .ok (.iload_n 3, 1) := by decide +kernel
theorem dX7_restore_77 : decode cX7_restore 77 = .ok (.imul, 1) := by decide +kernel
theorem dX7_restore_78 : decode cX7_restore 78 = .ok (.iload 4, 2) := by decide +kernel
theorem dX7_restore_80 : decode cX7_restore 80 = .ok (.iadd, 1) := by decide +kernel
theorem dX7_restore_81 : decode cX7_restore 81 = .ok (.aload_n 0, 1) := by decide +kernel
theorem dX7_restore_82 : decode cX7_restore 82 = .ok (.getfield 84, 3) := by decide +kernel
theorem dX7_restore_85 : decode cX7_restore 85 = .ok (.iload_n 2, 1) := by decide +kernel
theorem dX7_restore_86 : decode cX7_restore 86 = .ok (.bipush 11, 2) := by decide +kernel
theorem dX7_restore_88 : decode cX7_restore 88 = .ok (.iload_n 3, 1) := by decide +kernel
theorem dX7_restore_89 : decode cX7_restore 89 = .ok (.imul, 1) := by decide +kernel
theorem dX7_restore_90 : decode cX7_restore 90 = .ok (.iadd, 1) := by decide +kernel
theorem dX7_restore_91 : decode cX7_restore 91 = .ok (.iconst 4, 1) := by decide +kernel
theorem dX7_restore_92 : decode cX7_restore 92 = .ok (.iadd, 1) := by decide +kernel
theorem dX7_restore_93 : decode cX7_restore 93 = .ok (.iload 4, 2) := by decide +kernel
theorem dX7_restore_95 : decode cX7_restore 95 = .ok (.iadd, 1) := by decide +kernel
theorem dX7_restore_96 : decode cX7_restore 96 = .ok (.iaload, 1) := by decide +kernel
theorem dX7_restore_97 : decode cX7_restore 97 = .ok (.iastore, 1) := by decide +kernel
theorem dX7_restore_98 : decode cX7_restore 98 = .ok (.iinc 4 1, 3) := by decide +kernel
theorem dX7_restore_101 : decode cX7_restore 101 = .ok (.goto (-61), 3) := by decide +kernel
theorem dX7_restore_104 : decode cX7_restore 104 = .ok (.aload_n 0, 1) := by decide +kernel
theorem dX7_restore_105 : decode cX7_restore 105 = .ok (.getfield 7, 3) := by decide +kernel
theorem dX7_restore_108 : decode cX7_restore 108 = .ok (.iload_n 3, 1) := by decide +kernel
theorem dX7_restore_109 : decode cX7_restore 109 = .ok (.aload_n 0, 1) := by decide +kernel
theorem dX7_restore_110 : decode cX7_restore 110 = .ok (.getfield 84, 3) := by decide +kernel
theorem dX7_restore_113 : decode cX7_restore 113 = .ok (.iload_n 2, 1) := by decide +kernel
theorem dX7_restore_114 : decode cX7_restore 114 = .ok (.bipush 11, 2) := by decide +kernel
theorem dX7_restore_116 : decode cX7_restore 116 = .ok (.iload_n 3, 1) := by decide +kernel
theorem dX7_restore_117 : decode cX7_restore 117 = .ok (.imul, 1) := by decide +kernel
theorem dX7_restore_118 : decode cX7_restore 118 = .ok (.iadd, 1) := by decide +kernel
theorem dX7_restore_119 : decode cX7_restore 119 = .ok (.bipush 8, 2) := by decide +kernel
theorem dX7_restore_121 : decode cX7_restore 121 = .ok (.iadd, 1) := by decide +kernel
theorem dX7_restore_122 : decode cX7_restore 122 = .ok (.iaload, 1) := by decide +kernel
theorem dX7_restore_123 : decode cX7_restore 123 = .ok (.iastore, 1) := by decide +kernel
theorem dX7_restore_124 : decode cX7_restore 124 = .ok (.aload_n 0, 1) := by decide +kernel
theorem dX7_restore_125 : decode cX7_restore 125 = .ok (.getfield 19, 3) := by decide +kernel
theorem dX7_restore_128 : decode cX7_restore 128 = .ok (.iload_n 3, 1) := by decide +kernel
theorem dX7_restore_129 : decode cX7_restore 129 = .ok (.aload_n 0, 1) := by decide +kernel
theorem dX7_restore_130 : decode cX7_restore 130 = .ok (.getfield 84, 3) := by decide +kernel
theorem dX7_restore_133 : decode cX7_restore 133 = .ok (.iload_n 2, 1) := by decide +kernel
theorem dX7_restore_134 : decode cX7_restore 134 = .ok (.bipush 11, 2) := by decide +kernel
theorem dX7_restore_136 : decode cX7_restore 136 = .ok (.iload_n 3, 1) := by decide +kernel
theorem dX7_restore_137 : decode cX7_restore 137 = .ok (.imul, 1) := by decide +kernel
theorem dX7_restore_138 : decode cX7_restore 138 = .ok (.iadd, 1) := by decide +kernel
theorem dX7_restore_139 : decode cX7_restore 139 = .ok (.bipush 9, 2) := by decide +kernel
theorem dX7_restore_141 : decode cX7_restore 141 = .ok (.iadd, 1) := by decide +kernel
theorem dX7_restore_142 : decode cX7_restore 142 = .ok (.iaload, 1) := by decide +kernel
theorem dX7_restore_143 : decode cX7_restore 143 = .ok (.iastore, 1) := by decide +kernel
theorem dX7_restore_144 : decode cX7_restore 144 = .ok (.aload_n 0, 1) := by decide +kernel
theorem dX7_restore_145 : decode cX7_restore 145 = .ok (.getfield 22, 3) := by decide +kernel
theorem dX7_restore_148 : decode cX7_restore 148 = .ok (.iload_n 3, 1) := by decide +kernel
theorem dX7_restore_149 : decode cX7_restore 149 = .ok (.aload_n 0, 1) := by decide +kernel
theorem dX7_restore_150 : decode cX7_restore 150 = .ok (.getfield 84, 3) := by decide +kernel
theorem dX7_restore_153 : decode cX7_restore 153 = .ok (.iload_n 2, 1) := by decide +kernel
theorem dX7_restore_154 : decode cX7_restore 154 = .ok (.bipush 11, 2) := by decide +kernel
theorem dX7_restore_156 : decode cX7_restore 156 = .ok (.iload_n 3, 1) := by decide +kernel
theorem dX7_restore_157 : decode cX7_restore 157 = .ok (.imul, 1) := by decide +kernel
theorem dX7_restore_158 : decode cX7_restore 158 = .ok (.iadd, 1) := by decide +kernel
theorem dX7_restore_159 : decode cX7_restore 159 = .ok (.bipush 10, 2) := by decide +kernel
theorem dX7_restore_161 : decode cX7_restore 161 = .ok (.iadd, 1) := by decide +kernel
theorem dX7_restore_162 : decode cX7_restore 162 = .ok (.iaload, 1) := by decide +kernel
theorem dX7_restore_163 : decode cX7_restore 163 = .ok (.iastore, 1) := by decide +kernel
theorem dX7_restore_164 : decode cX7_restore 164 = .ok (.iinc 3 1, 3) := by decide +kernel
theorem dX7_restore_167 : decode cX7_restore 167 = .ok (.goto (-135), 3) := by decide +kernel
theorem dX7_restore_170 : decode cX7_restore 170 = .ok (.iconst 0, 1) := by decide +kernel
theorem dX7_restore_171 : decode cX7_restore 171 = .ok (.istore_n 3, 1) := by decide +kernel
theorem dX7_restore_172 : decode cX7_restore 172 = .ok (.iload_n 3, 1) := by decide +kernel
theorem dX7_restore_173 : decode cX7_restore 173 = .ok (.bipush 40, 2) := by decide +kernel
theorem dX7_restore_175 : decode cX7_restore 175 = .ok (.if_icmp .ge 66, 3) := by decide +kernel
theorem dX7_restore_178 : decode cX7_restore 178 = .ok (.aload_n 0, 1) := by decide +kernel
theorem dX7_restore_179 : decode cX7_restore 179 = .ok (.getfield 25, 3) := by decide +kernel
theorem dX7_restore_182 : decode cX7_restore 182 = .ok (.iload_n 3, 1) := by decide +kernel
theorem dX7_restore_183 : decode cX7_restore 183 = .ok (.aload_n 0, 1) := by decide +kernel
theorem dX7_restore_184 : decode cX7_restore 184 = .ok (.getfield 84, 3) := by decide +kernel
theorem dX7_restore_187 : decode cX7_restore 187 = .ok (.iload_n 2, 1) := by decide +kernel
theorem dX7_restore_188 : decode cX7_restore 188 = .ok (.bipush 44, 2) := by decide +kernel
theorem dX7_restore_190 : decode cX7_restore 190 = .ok (.iadd, 1) := by decide +kernel
theorem dX7_restore_191 : decode cX7_restore 191 = .ok (.iconst 3, 1) := by decide +kernel
theorem dX7_restore_192 : decode cX7_restore 192 = .ok (.iload_n 3, 1) := by decide +kernel
theorem dX7_restore_193 : decode cX7_restore 193 = .ok (.imul, 1) := by decide +kernel
theorem dX7_restore_194 : decode cX7_restore 194 = .ok (.iadd, 1) := by decide +kernel
theorem dX7_restore_195 : decode cX7_restore 195 = .ok (.iaload, 1) := by decide +kernel
theorem dX7_restore_196 : decode cX7_restore 196 = .ok (.iastore, 1) := by decide +kernel
theorem dX7_restore_197 : decode cX7_restore 197 = .ok (.aload_n 0, 1) := by decide +kernel
theorem dX7_restore_198 : decode cX7_restore 198 = .ok (.getfield 28, 3) := by decide +kernel
theorem dX7_restore_201 : decode cX7_restore 201 = .ok (.iload_n 3, 1) := by decide +kernel
theorem dX7_restore_202 : decode cX7_restore 202 = .ok (.aload_n 0, 1) := by decide +kernel
theorem dX7_restore_203 : decode cX7_restore 203 = .ok (.getfield 84, 3) := by decide +kernel
theorem dX7_restore_206 : decode cX7_restore 206 = .ok (.iload_n 2, 1) := by decide +kernel
theorem dX7_restore_207 : decode cX7_restore 207 = .ok (.bipush 45, 2) := by decide +kernel
theorem dX7_restore_209 : decode cX7_restore 209 = .ok (.iadd, 1) := by decide +kernel
theorem dX7_restore_210 : decode cX7_restore 210 = .ok (.iconst 3, 1) := by decide +kernel
theorem dX7_restore_211 : decode cX7_restore 211 = .ok (.iload_n 3, 1) := by decide +kernel
theorem dX7_restore_212 : decode cX7_restore 212 = .ok (.imul, 1) := by decide +kernel
theorem dX7_restore_213 : decode cX7_restore 213 = .ok (.iadd, 1) := by decide +kernel
theorem dX7_restore_214 : decode cX7_restore 214 = .ok (.iaload, 1) := by decide +kernel
theorem dX7_restore_215 : decode cX7_restore 215 = .ok (.iastore, 1) := by decide +kernel
theorem dX7_restore_216 : decode cX7_restore 216 = .ok (.aload_n 0, 1) := by decide +kernel
theorem dX7_restore_217 : decode cX7_restore 217 = .ok (.getfield 31, 3) := by decide +kernel
theorem dX7_restore_220 : decode cX7_restore 220 = .ok (.iload_n 3, 1) := by decide +kernel
theorem dX7_restore_221 : decode cX7_restore 221 = .ok (.aload_n 0, 1) := by decide +kernel
theorem dX7_restore_222 : decode cX7_restore 222 = .ok (.getfield 84, 3) := by decide +kernel
theorem dX7_restore_225 : decode cX7_restore 225 = .ok (.iload_n 2, 1) := by decide +kernel
theorem dX7_restore_226 : decode cX7_restore 226 = .ok (.bipush 46, 2) := by decide +kernel
theorem dX7_restore_228 : decode cX7_restore 228 = .ok (.iadd, 1) := by decide +kernel
theorem dX7_restore_229 : decode cX7_restore 229 = .ok (.iconst 3, 1) := by decide +kernel
theorem dX7_restore_230 : decode cX7_restore 230 = .ok (.iload_n 3, 1) := by decide +kernel
theorem dX7_restore_231 : decode cX7_restore 231 = .ok (.imul, 1) := by decide +kernel
theorem dX7_restore_232 : decode cX7_restore 232 = .ok (.iadd, 1) := by decide +kernel
theorem dX7_restore_233 : decode cX7_restore 233 = .ok (.iaload, 1) := by decide +kernel
theorem dX7_restore_234 : decode cX7_restore 234 = .ok (.iastore, 1) := by decide +kernel
theorem dX7_restore_235 : decode cX7_restore 235 = .ok (.iinc 3 1, 3) := by decide +kernel
theorem dX7_restore_238 : decode cX7_restore 238 = .ok (.goto (-66), 3) := by decide +kernel
theorem dX7_restore_241 : decode cX7_restore 241 = .ok (.aload_n 0, 1) := by decide +kernel
theorem dX7_restore_242 : decode cX7_restore 242 = .ok (.aload_n 0, 1) := by decide +kernel
theorem dX7_restore_243 : decode cX7_restore 243 = .ok (.getfield 84, 3) := by decide +kernel
theorem dX7_restore_246 : decode cX7_restore 246 = .ok (.iload_n 2, 1) := by decide +kernel
theorem dX7_restore_247 : decode cX7_restore 247 = .ok (.sipush 164, 3) := by decide +kernel
theorem dX7_restore_250 : decode cX7_restore 250 = .ok (.iadd, 1) := by decide +kernel
theorem dX7_restore_251 : decode cX7_restore 251 = .ok (.iaload, 1) := by decide +kernel
theorem dX7_restore_252 : decode cX7_restore 252 = .ok (.putfield 94, 3) := by decide +kernel
theorem dX7_restore_255 : decode cX7_restore 255 = .ok (.aload_n 0, 1) := by decide +kernel
theorem dX7_restore_256 : decode cX7_restore 256 = .ok (.aload_n 0, 1) := by decide +kernel
theorem dX7_restore_257 : decode cX7_restore 257 = .ok (.getfield 84, 3) := by decide +kernel
theorem dX7_restore_260 : decode cX7_restore 260 = .ok (.iload_n 2, 1) := by decide +kernel
theorem dX7_restore_261 : decode cX7_restore 261 = .ok (.sipush 165, 3) := by decide +kernel
theorem dX7_restore_264 : decode cX7_restore 264 = .ok (.iadd, 1) := by decide +kernel
theorem dX7_restore_265 : decode cX7_restore 265 = .ok (.iaload, 1) := by decide +kernel
theorem dX7_restore_266 : decode cX7_restore 266 = .ok (.putfield 34, 3) := by decide +kernel
theorem dX7_restore_269 : decode cX7_restore 269 = .ok (.aload_n 0, 1) := by decide +kernel
theorem dX7_restore_270 : decode cX7_restore 270 = .ok (.aload_n 0, 1) := by decide +kernel
theorem dX7_restore_271 : decode cX7_restore 271 = .ok (.getfield 84, 3) := by decide +kernel
theorem dX7_restore_274 : decode cX7_restore 274 = .ok (.iload_n 2, 1) := by decide +kernel
theorem dX7_restore_275 : decode cX7_restore 275 = .ok (.sipush 166, 3) := by decide +kernel
theorem dX7_restore_278 : decode cX7_restore 278 = .ok (.iadd, 1) := by decide +kernel
theorem dX7_restore_279 : decode cX7_restore 279 = .ok (.iaload, 1) := by decide +kernel
theorem dX7_restore_280 : decode cX7_restore 280 = .ok (.putfield 108, 3) := by decide +kernel
theorem dX7_restore_283 : decode cX7_restore 283 = .ok (.iconst 1, 1) := by decide +kernel
theorem dX7_restore_284 : decode cX7_restore 284 = .ok (.ireturn, 1) := by decide +kernel
