-- DiskRestsModel.restore(I)I (mode W, depth 1)
def lX7_restore_40 (v0 : Nat) (v2 : Int32) (v3 : Int32) : Nat → Int32 → ab_H → Option ab_H
  | 0, _, _ => none
  | n + 1, v4, h => if 4 ≤ (v4 : Int32) then some h else (ab_gR h v0 7 1).bind (fun r8 => (ab_gR h v0 7 29).bind (fun r9 => (ab_aI h r9 ((v2 + (11 * v3)) + v4)).bind (fun x10 => (ab_sI h r8 ((4 * v3) + v4) x10).bind (fun h11 => (ab_gR h11 v0 7 2).bind (fun r12 => (ab_gR h11 v0 7 29).bind (fun r13 => (ab_aI h11 r13 (((v2 + (11 * v3)) + 4) + v4)).bind (fun x14 => (ab_sI h11 r12 ((4 * v3) + v4) x14).bind (fun h15 => lX7_restore_40 v0 v2 v3 n (v4 + 1) h15))))))))
set_option maxRecDepth 20000 in
set_option maxHeartbeats 1000000 in
theorem klX7_restore_40 {l : Launch} {g : ab_G} {K : ab_K} {v0 : Nat} {v2 : Int32} {v3 : Int32} {q : ab_H} (hx : ab_Ev l g mX7_restore 1 0 0 104 [(0, .ref v0), (2, .int v2), (3, .int v3)] [] q 0 0 K) : ∀ (n : Nat) (v4 : Int32) (h : ab_H), lX7_restore_40 v0 v2 v3 n v4 h = some q → ab_Ev l g mX7_restore 1 0 0 40 [(0, .ref v0), (2, .int v2), (3, .int v3), (4, .int v4)] [] h 0 0 K := by
  intro n
  induction n with
  | zero => intro v4 h hf; cases (show (none : Option ab_H) = some q from hf)
  | succ n ih =>
    intro v4 h hf
    rw [lX7_restore_40] at hf
    refine ab_iload (pc' := 42) (q := 3) dX7_restore_40 rfl rfl ?_
    refine ab_iconst (pc' := 43) (v := 4) dX7_restore_42 (by decide) rfl ?_
    refine ab_icmp_ge (pc' := 46) (tgt := 104) dX7_restore_43 (by decide) rfl (fun c7 => ?_) (fun c7 => ?_)
    · have hf := ab_ip c7 hf
      have hf := Option.some.inj hf
      subst hf
      refine ab_drop (ls' := [(0, .ref v0), (2, .int v2), (3, .int v3)]) [0, 1, 2] rfl ?_
      exact hx
    · have hf := ab_iN c7 hf
      refine ab_aload_n (pc' := 47) (q := 0) dX7_restore_46 rfl rfl rfl ?_
      obtain ⟨r8, er8, hf⟩ := ab_bd hf
      refine ab_getR (pc' := 50) (ci := 7) (k := 1) dX7_restore_47 rfl (by decide) fl_X7_13 er8 rfl ?_
      refine ab_iconst (pc' := 51) (v := 4) dX7_restore_50 (by decide) rfl ?_
      refine ab_iload_n (pc' := 52) (q := 2) dX7_restore_51 rfl rfl rfl ?_
      refine ab_imul (pc' := 53) dX7_restore_52 rfl ?_
      refine ab_iload (pc' := 55) (q := 3) dX7_restore_53 rfl rfl ?_
      refine ab_iadd (pc' := 56) dX7_restore_55 rfl ?_
      refine ab_aload_n (pc' := 57) (q := 0) dX7_restore_56 rfl rfl rfl ?_
      obtain ⟨r9, er9, hf⟩ := ab_bd hf
      refine ab_getR (pc' := 60) (ci := 7) (k := 29) dX7_restore_57 rfl (by decide) fl_X7_84 er9 rfl ?_
      refine ab_iload_n (pc' := 61) (q := 1) dX7_restore_60 rfl rfl rfl ?_
      refine ab_bipush (pc' := 63) (v := 11) dX7_restore_61 (by decide) rfl ?_
      refine ab_iload_n (pc' := 64) (q := 2) dX7_restore_63 rfl rfl rfl ?_
      refine ab_imul (pc' := 65) dX7_restore_64 rfl ?_
      refine ab_iadd (pc' := 66) dX7_restore_65 rfl ?_
      refine ab_iload (pc' := 68) (q := 3) dX7_restore_66 rfl rfl ?_
      refine ab_iadd (pc' := 69) dX7_restore_68 rfl ?_
      obtain ⟨x10, ex10, hf⟩ := ab_bd hf
      refine ab_iald (pc' := 70) dX7_restore_69 ex10 rfl ?_
      obtain ⟨h11, eh11, hf⟩ := ab_bd hf
      refine ab_iast (pc' := 71) dX7_restore_70 eh11 rfl ?_
      refine ab_aload_n (pc' := 72) (q := 0) dX7_restore_71 rfl rfl rfl ?_
      obtain ⟨r12, er12, hf⟩ := ab_bd hf
      refine ab_getR (pc' := 75) (ci := 7) (k := 2) dX7_restore_72 rfl (by decide) fl_X7_16 er12 rfl ?_
      refine ab_iconst (pc' := 76) (v := 4) dX7_restore_75 (by decide) rfl ?_
      refine ab_iload_n (pc' := 77) (q := 2) dX7_restore_76 rfl rfl rfl ?_
      refine ab_imul (pc' := 78) dX7_restore_77 rfl ?_
      refine ab_iload (pc' := 80) (q := 3) dX7_restore_78 rfl rfl ?_
      refine ab_iadd (pc' := 81) dX7_restore_80 rfl ?_
      refine ab_aload_n (pc' := 82) (q := 0) dX7_restore_81 rfl rfl rfl ?_
      obtain ⟨r13, er13, hf⟩ := ab_bd hf
      refine ab_getR (pc' := 85) (ci := 7) (k := 29) dX7_restore_82 rfl (by decide) fl_X7_84 er13 rfl ?_
      refine ab_iload_n (pc' := 86) (q := 1) dX7_restore_85 rfl rfl rfl ?_
      refine ab_bipush (pc' := 88) (v := 11) dX7_restore_86 (by decide) rfl ?_
      refine ab_iload_n (pc' := 89) (q := 2) dX7_restore_88 rfl rfl rfl ?_
      refine ab_imul (pc' := 90) dX7_restore_89 rfl ?_
      refine ab_iadd (pc' := 91) dX7_restore_90 rfl ?_
      refine ab_iconst (pc' := 92) (v := 4) dX7_restore_91 (by decide) rfl ?_
      refine ab_iadd (pc' := 93) dX7_restore_92 rfl ?_
      refine ab_iload (pc' := 95) (q := 3) dX7_restore_93 rfl rfl ?_
      refine ab_iadd (pc' := 96) dX7_restore_95 rfl ?_
      obtain ⟨x14, ex14, hf⟩ := ab_bd hf
      refine ab_iald (pc' := 97) dX7_restore_96 ex14 rfl ?_
      obtain ⟨h15, eh15, hf⟩ := ab_bd hf
      refine ab_iast (pc' := 98) dX7_restore_97 eh15 rfl ?_
      refine ab_iinc (pc' := 101) (q := 3) (v := (v4 + 1)) (ls' := [(4, .int (v4 + 1)), (0, .ref v0), (2, .int v2), (3, .int v3)]) dX7_restore_98 rfl rfl (by decide) rfl rfl ?_
      refine ab_goto (tgt := 40) dX7_restore_101 (by decide) ?_
      refine ab_drop (ls' := [(0, .ref v0), (2, .int v2), (3, .int v3), (4, .int (v4 + 1))]) [1, 2, 3, 0] rfl ?_
      exact ih _ _ hf
def lX7_restore_32 (v0 : Nat) (v2 : Int32) : Nat → Int32 → ab_H → Option ab_H
  | 0, _, _ => none
  | n + 1, v3, h => if 4 ≤ (v3 : Int32) then some h else (lX7_restore_40 v0 v2 v3 ab_fu 0 h).bind (fun q16 => (ab_gR q16 v0 7 0).bind (fun r17 => (ab_gR q16 v0 7 29).bind (fun r18 => (ab_aI q16 r18 ((v2 + (11 * v3)) + 8)).bind (fun x19 => (ab_sI q16 r17 v3 x19).bind (fun h20 => (ab_gR h20 v0 7 3).bind (fun r21 => (ab_gR h20 v0 7 29).bind (fun r22 => (ab_aI h20 r22 ((v2 + (11 * v3)) + 9)).bind (fun x23 => (ab_sI h20 r21 v3 x23).bind (fun h24 => (ab_gR h24 v0 7 4).bind (fun r25 => (ab_gR h24 v0 7 29).bind (fun r26 => (ab_aI h24 r26 ((v2 + (11 * v3)) + 10)).bind (fun x27 => (ab_sI h24 r25 v3 x27).bind (fun h28 => lX7_restore_32 v0 v2 n (v3 + 1) h28)))))))))))))
set_option maxRecDepth 20000 in
set_option maxHeartbeats 1000000 in
theorem klX7_restore_32 {l : Launch} {g : ab_G} {K : ab_K} {v0 : Nat} {v2 : Int32} {q : ab_H} (hx : ab_Ev l g mX7_restore 1 0 0 170 [(0, .ref v0), (2, .int v2)] [] q 0 0 K) : ∀ (n : Nat) (v3 : Int32) (h : ab_H), lX7_restore_32 v0 v2 n v3 h = some q → ab_Ev l g mX7_restore 1 0 0 32 [(0, .ref v0), (2, .int v2), (3, .int v3)] [] h 0 0 K := by
  intro n
  induction n with
  | zero => intro v3 h hf; cases (show (none : Option ab_H) = some q from hf)
  | succ n ih =>
    intro v3 h hf
    rw [lX7_restore_32] at hf
    refine ab_iload_n (pc' := 33) (q := 2) dX7_restore_32 rfl rfl rfl ?_
    refine ab_iconst (pc' := 34) (v := 4) dX7_restore_33 (by decide) rfl ?_
    refine ab_icmp_ge (pc' := 37) (tgt := 170) dX7_restore_34 (by decide) rfl (fun c6 => ?_) (fun c6 => ?_)
    · have hf := ab_ip c6 hf
      have hf := Option.some.inj hf
      subst hf
      refine ab_drop (ls' := [(0, .ref v0), (2, .int v2)]) [0, 1] rfl ?_
      exact hx
    · have hf := ab_iN c6 hf
      refine ab_iconst (pc' := 38) (v := 0) dX7_restore_37 (by decide) rfl ?_
      refine ab_istore (pc' := 40) (ls' := [(4, .int 0), (0, .ref v0), (2, .int v2), (3, .int v3)]) dX7_restore_38 (by decide) rfl rfl ?_
      refine ab_drop (ls' := [(0, .ref v0), (2, .int v2), (3, .int v3), (4, .int 0)]) [1, 2, 3, 0] rfl ?_
      obtain ⟨q16, eq16, hf⟩ := ab_bd hf
      refine klX7_restore_40 ?_ ab_fu _ _ eq16
      refine ab_aload_n (pc' := 105) (q := 0) dX7_restore_104 rfl rfl rfl ?_
      obtain ⟨r17, er17, hf⟩ := ab_bd hf
      refine ab_getR (pc' := 108) (ci := 7) (k := 0) dX7_restore_105 rfl (by decide) fl_X7_7 er17 rfl ?_
      refine ab_iload_n (pc' := 109) (q := 2) dX7_restore_108 rfl rfl rfl ?_
      refine ab_aload_n (pc' := 110) (q := 0) dX7_restore_109 rfl rfl rfl ?_
      obtain ⟨r18, er18, hf⟩ := ab_bd hf
      refine ab_getR (pc' := 113) (ci := 7) (k := 29) dX7_restore_110 rfl (by decide) fl_X7_84 er18 rfl ?_
      refine ab_iload_n (pc' := 114) (q := 1) dX7_restore_113 rfl rfl rfl ?_
      refine ab_bipush (pc' := 116) (v := 11) dX7_restore_114 (by decide) rfl ?_
      refine ab_iload_n (pc' := 117) (q := 2) dX7_restore_116 rfl rfl rfl ?_
      refine ab_imul (pc' := 118) dX7_restore_117 rfl ?_
      refine ab_iadd (pc' := 119) dX7_restore_118 rfl ?_
      refine ab_bipush (pc' := 121) (v := 8) dX7_restore_119 (by decide) rfl ?_
      refine ab_iadd (pc' := 122) dX7_restore_121 rfl ?_
      obtain ⟨x19, ex19, hf⟩ := ab_bd hf
      refine ab_iald (pc' := 123) dX7_restore_122 ex19 rfl ?_
      obtain ⟨h20, eh20, hf⟩ := ab_bd hf
      refine ab_iast (pc' := 124) dX7_restore_123 eh20 rfl ?_
      refine ab_aload_n (pc' := 125) (q := 0) dX7_restore_124 rfl rfl rfl ?_
      obtain ⟨r21, er21, hf⟩ := ab_bd hf
      refine ab_getR (pc' := 128) (ci := 7) (k := 3) dX7_restore_125 rfl (by decide) fl_X7_19 er21 rfl ?_
      refine ab_iload_n (pc' := 129) (q := 2) dX7_restore_128 rfl rfl rfl ?_
      refine ab_aload_n (pc' := 130) (q := 0) dX7_restore_129 rfl rfl rfl ?_
      obtain ⟨r22, er22, hf⟩ := ab_bd hf
      refine ab_getR (pc' := 133) (ci := 7) (k := 29) dX7_restore_130 rfl (by decide) fl_X7_84 er22 rfl ?_
      refine ab_iload_n (pc' := 134) (q := 1) dX7_restore_133 rfl rfl rfl ?_
      refine ab_bipush (pc' := 136) (v := 11) dX7_restore_134 (by decide) rfl ?_
      refine ab_iload_n (pc' := 137) (q := 2) dX7_restore_136 rfl rfl rfl ?_
      refine ab_imul (pc' := 138) dX7_restore_137 rfl ?_
      refine ab_iadd (pc' := 139) dX7_restore_138 rfl ?_
      refine ab_bipush (pc' := 141) (v := 9) dX7_restore_139 (by decide) rfl ?_
      refine ab_iadd (pc' := 142) dX7_restore_141 rfl ?_
      obtain ⟨x23, ex23, hf⟩ := ab_bd hf
      refine ab_iald (pc' := 143) dX7_restore_142 ex23 rfl ?_
      obtain ⟨h24, eh24, hf⟩ := ab_bd hf
      refine ab_iast (pc' := 144) dX7_restore_143 eh24 rfl ?_
      refine ab_aload_n (pc' := 145) (q := 0) dX7_restore_144 rfl rfl rfl ?_
      obtain ⟨r25, er25, hf⟩ := ab_bd hf
      refine ab_getR (pc' := 148) (ci := 7) (k := 4) dX7_restore_145 rfl (by decide) fl_X7_22 er25 rfl ?_
      refine ab_iload_n (pc' := 149) (q := 2) dX7_restore_148 rfl rfl rfl ?_
      refine ab_aload_n (pc' := 150) (q := 0) dX7_restore_149 rfl rfl rfl ?_
      obtain ⟨r26, er26, hf⟩ := ab_bd hf
      refine ab_getR (pc' := 153) (ci := 7) (k := 29) dX7_restore_150 rfl (by decide) fl_X7_84 er26 rfl ?_
      refine ab_iload_n (pc' := 154) (q := 1) dX7_restore_153 rfl rfl rfl ?_
      refine ab_bipush (pc' := 156) (v := 11) dX7_restore_154 (by decide) rfl ?_
      refine ab_iload_n (pc' := 157) (q := 2) dX7_restore_156 rfl rfl rfl ?_
      refine ab_imul (pc' := 158) dX7_restore_157 rfl ?_
      refine ab_iadd (pc' := 159) dX7_restore_158 rfl ?_
      refine ab_bipush (pc' := 161) (v := 10) dX7_restore_159 (by decide) rfl ?_
      refine ab_iadd (pc' := 162) dX7_restore_161 rfl ?_
      obtain ⟨x27, ex27, hf⟩ := ab_bd hf
      refine ab_iald (pc' := 163) dX7_restore_162 ex27 rfl ?_
      obtain ⟨h28, eh28, hf⟩ := ab_bd hf
      refine ab_iast (pc' := 164) dX7_restore_163 eh28 rfl ?_
      refine ab_iinc (pc' := 167) (q := 2) (v := (v3 + 1)) (ls' := [(3, .int (v3 + 1)), (0, .ref v0), (2, .int v2)]) dX7_restore_164 rfl rfl (by decide) rfl rfl ?_
      refine ab_goto (tgt := 32) dX7_restore_167 (by decide) ?_
      refine ab_drop (ls' := [(0, .ref v0), (2, .int v2), (3, .int (v3 + 1))]) [1, 2, 0] rfl ?_
      exact ih _ _ hf
def lX7_restore_172 (v0 : Nat) (v2 : Int32) : Nat → Int32 → ab_H → Option ab_H
  | 0, _, _ => none
  | n + 1, v3, h => if 40 ≤ (v3 : Int32) then some h else (ab_gR h v0 7 6).bind (fun r31 => (ab_gR h v0 7 29).bind (fun r32 => (ab_aI h r32 ((v2 + 44) + (3 * v3))).bind (fun x33 => (ab_sI h r31 v3 x33).bind (fun h34 => (ab_gR h34 v0 7 7).bind (fun r35 => (ab_gR h34 v0 7 29).bind (fun r36 => (ab_aI h34 r36 ((v2 + 45) + (3 * v3))).bind (fun x37 => (ab_sI h34 r35 v3 x37).bind (fun h38 => (ab_gR h38 v0 7 8).bind (fun r39 => (ab_gR h38 v0 7 29).bind (fun r40 => (ab_aI h38 r40 ((v2 + 46) + (3 * v3))).bind (fun x41 => (ab_sI h38 r39 v3 x41).bind (fun h42 => lX7_restore_172 v0 v2 n (v3 + 1) h42))))))))))))
set_option maxRecDepth 20000 in
set_option maxHeartbeats 1000000 in
theorem klX7_restore_172 {l : Launch} {g : ab_G} {K : ab_K} {v0 : Nat} {v2 : Int32} {q : ab_H} (hx : ab_Ev l g mX7_restore 1 0 0 241 [(0, .ref v0), (2, .int v2)] [] q 0 0 K) : ∀ (n : Nat) (v3 : Int32) (h : ab_H), lX7_restore_172 v0 v2 n v3 h = some q → ab_Ev l g mX7_restore 1 0 0 172 [(0, .ref v0), (2, .int v2), (3, .int v3)] [] h 0 0 K := by
  intro n
  induction n with
  | zero => intro v3 h hf; cases (show (none : Option ab_H) = some q from hf)
  | succ n ih =>
    intro v3 h hf
    rw [lX7_restore_172] at hf
    refine ab_iload_n (pc' := 173) (q := 2) dX7_restore_172 rfl rfl rfl ?_
    refine ab_bipush (pc' := 175) (v := 40) dX7_restore_173 (by decide) rfl ?_
    refine ab_icmp_ge (pc' := 178) (tgt := 241) dX7_restore_175 (by decide) rfl (fun c30 => ?_) (fun c30 => ?_)
    · have hf := ab_ip c30 hf
      have hf := Option.some.inj hf
      subst hf
      refine ab_drop (ls' := [(0, .ref v0), (2, .int v2)]) [0, 1] rfl ?_
      exact hx
    · have hf := ab_iN c30 hf
      refine ab_aload_n (pc' := 179) (q := 0) dX7_restore_178 rfl rfl rfl ?_
      obtain ⟨r31, er31, hf⟩ := ab_bd hf
      refine ab_getR (pc' := 182) (ci := 7) (k := 6) dX7_restore_179 rfl (by decide) fl_X7_25 er31 rfl ?_
      refine ab_iload_n (pc' := 183) (q := 2) dX7_restore_182 rfl rfl rfl ?_
      refine ab_aload_n (pc' := 184) (q := 0) dX7_restore_183 rfl rfl rfl ?_
      obtain ⟨r32, er32, hf⟩ := ab_bd hf
      refine ab_getR (pc' := 187) (ci := 7) (k := 29) dX7_restore_184 rfl (by decide) fl_X7_84 er32 rfl ?_
      refine ab_iload_n (pc' := 188) (q := 1) dX7_restore_187 rfl rfl rfl ?_
      refine ab_bipush (pc' := 190) (v := 44) dX7_restore_188 (by decide) rfl ?_
      refine ab_iadd (pc' := 191) dX7_restore_190 rfl ?_
      refine ab_iconst (pc' := 192) (v := 3) dX7_restore_191 (by decide) rfl ?_
      refine ab_iload_n (pc' := 193) (q := 2) dX7_restore_192 rfl rfl rfl ?_
      refine ab_imul (pc' := 194) dX7_restore_193 rfl ?_
      refine ab_iadd (pc' := 195) dX7_restore_194 rfl ?_
      obtain ⟨x33, ex33, hf⟩ := ab_bd hf
      refine ab_iald (pc' := 196) dX7_restore_195 ex33 rfl ?_
      obtain ⟨h34, eh34, hf⟩ := ab_bd hf
      refine ab_iast (pc' := 197) dX7_restore_196 eh34 rfl ?_
      refine ab_aload_n (pc' := 198) (q := 0) dX7_restore_197 rfl rfl rfl ?_
      obtain ⟨r35, er35, hf⟩ := ab_bd hf
      refine ab_getR (pc' := 201) (ci := 7) (k := 7) dX7_restore_198 rfl (by decide) fl_X7_28 er35 rfl ?_
      refine ab_iload_n (pc' := 202) (q := 2) dX7_restore_201 rfl rfl rfl ?_
      refine ab_aload_n (pc' := 203) (q := 0) dX7_restore_202 rfl rfl rfl ?_
      obtain ⟨r36, er36, hf⟩ := ab_bd hf
      refine ab_getR (pc' := 206) (ci := 7) (k := 29) dX7_restore_203 rfl (by decide) fl_X7_84 er36 rfl ?_
      refine ab_iload_n (pc' := 207) (q := 1) dX7_restore_206 rfl rfl rfl ?_
      refine ab_bipush (pc' := 209) (v := 45) dX7_restore_207 (by decide) rfl ?_
      refine ab_iadd (pc' := 210) dX7_restore_209 rfl ?_
      refine ab_iconst (pc' := 211) (v := 3) dX7_restore_210 (by decide) rfl ?_
      refine ab_iload_n (pc' := 212) (q := 2) dX7_restore_211 rfl rfl rfl ?_
      refine ab_imul (pc' := 213) dX7_restore_212 rfl ?_
      refine ab_iadd (pc' := 214) dX7_restore_213 rfl ?_
      obtain ⟨x37, ex37, hf⟩ := ab_bd hf
      refine ab_iald (pc' := 215) dX7_restore_214 ex37 rfl ?_
      obtain ⟨h38, eh38, hf⟩ := ab_bd hf
      refine ab_iast (pc' := 216) dX7_restore_215 eh38 rfl ?_
      refine ab_aload_n (pc' := 217) (q := 0) dX7_restore_216 rfl rfl rfl ?_
      obtain ⟨r39, er39, hf⟩ := ab_bd hf
      refine ab_getR (pc' := 220) (ci := 7) (k := 8) dX7_restore_217 rfl (by decide) fl_X7_31 er39 rfl ?_
      refine ab_iload_n (pc' := 221) (q := 2) dX7_restore_220 rfl rfl rfl ?_
      refine ab_aload_n (pc' := 222) (q := 0) dX7_restore_221 rfl rfl rfl ?_
      obtain ⟨r40, er40, hf⟩ := ab_bd hf
      refine ab_getR (pc' := 225) (ci := 7) (k := 29) dX7_restore_222 rfl (by decide) fl_X7_84 er40 rfl ?_
      refine ab_iload_n (pc' := 226) (q := 1) dX7_restore_225 rfl rfl rfl ?_
      refine ab_bipush (pc' := 228) (v := 46) dX7_restore_226 (by decide) rfl ?_
      refine ab_iadd (pc' := 229) dX7_restore_228 rfl ?_
      refine ab_iconst (pc' := 230) (v := 3) dX7_restore_229 (by decide) rfl ?_
      refine ab_iload_n (pc' := 231) (q := 2) dX7_restore_230 rfl rfl rfl ?_
      refine ab_imul (pc' := 232) dX7_restore_231 rfl ?_
      refine ab_iadd (pc' := 233) dX7_restore_232 rfl ?_
      obtain ⟨x41, ex41, hf⟩ := ab_bd hf
      refine ab_iald (pc' := 234) dX7_restore_233 ex41 rfl ?_
      obtain ⟨h42, eh42, hf⟩ := ab_bd hf
      refine ab_iast (pc' := 235) dX7_restore_234 eh42 rfl ?_
      refine ab_iinc (pc' := 238) (q := 2) (v := (v3 + 1)) (ls' := [(3, .int (v3 + 1)), (0, .ref v0), (2, .int v2)]) dX7_restore_235 rfl rfl (by decide) rfl rfl ?_
      refine ab_goto (tgt := 172) dX7_restore_238 (by decide) ?_
      refine ab_drop (ls' := [(0, .ref v0), (2, .int v2), (3, .int (v3 + 1))]) [1, 2, 0] rfl ?_
      exact ih _ _ hf
def fX7_restore (h : ab_H) (a0 : Nat) (a1 : Int32) : Option (Int32 × ab_H) := (fX7_in a1 0 1).bind (fun x1 => if (x1 : Int32) = 0 then some ((-2), h) else (ab_gR h a0 7 30).bind (fun r3 => (ab_aZ h r3 a1).bind (fun x4 => if (x4 : Int32) = 0 then some ((-3), h) else (lX7_restore_32 a0 (167 * a1) ab_fu 0 h).bind (fun q29 => (lX7_restore_172 a0 (167 * a1) ab_fu 0 q29).bind (fun q43 => (ab_gR q43 a0 7 29).bind (fun r44 => (ab_aI q43 r44 ((167 * a1) + 164)).bind (fun x45 => (ab_pV q43 a0 7 5 (.int x45)).bind (fun h46 => (ab_gR h46 a0 7 29).bind (fun r47 => (ab_aI h46 r47 ((167 * a1) + 165)).bind (fun x48 => (ab_pV h46 a0 7 9 (.int x48)).bind (fun h49 => (ab_gR h49 a0 7 29).bind (fun r50 => (ab_aI h49 r50 ((167 * a1) + 166)).bind (fun x51 => (ab_pV h49 a0 7 10 (.int x51)).bind (fun h52 => some (1, h52)))))))))))))))
set_option maxRecDepth 20000 in
set_option maxHeartbeats 1000000 in
theorem kX7_restore {l : Launch} {g : ab_G} {K : ab_K} {h : ab_H} {a0 : Nat} {a1 : Int32} {r : (Int32 × ab_H)} (hf : fX7_restore h a0 a1 = some r) (hK : K (some (.int r.1)) r.2) : ab_S l g mX7_restore 1 0 0 [.ref a0, .int a1] h K := by
  unfold fX7_restore at hf
  refine ab_enter (ls := [(0, .ref a0), (1, .int a1)]) (by decide +kernel) rfl (Nat.le_of_ble_eq_true rfl) rfl ?_
  refine ab_iload_n (pc' := 1) (q := 1) dX7_restore_0 rfl rfl rfl ?_
  refine ab_iconst (pc' := 2) (v := 0) dX7_restore_1 (by decide) rfl ?_
  refine ab_iconst (pc' := 3) (v := 1) dX7_restore_2 (by decide) rfl ?_
  obtain ⟨x1, ex1, hf⟩ := ab_bd hf
  refine ab_callS (pc' := 6) (Mc := mX7_in) (as := [.int a1, .int 0, .int 1]) (st := []) dX7_restore_3 ml_X7_90 okX7_in ss_X7_in rfl (by decide) (Nat.le_of_ble_eq_true rfl) (Nat.le_of_ble_eq_true rfl) (Nat.le_of_ble_eq_true rfl) rfl rfl (kX7_in ex1 ?_)
  show ab_Ev l g mX7_restore 1 0 0 6 [(0, .ref a0), (1, .int a1)] [.int x1] h 0 0 K
  refine ab_if_ne (pc' := 9) (tgt := 12) dX7_restore_6 (by decide) rfl (fun c2 => ?_) (fun c2 => ?_)
  · have hf := ab_iN c2 hf
    refine ab_aload_n (pc' := 13) (q := 0) dX7_restore_12 rfl rfl rfl ?_
    obtain ⟨r3, er3, hf⟩ := ab_bd hf
    refine ab_getR (pc' := 16) (ci := 7) (k := 30) dX7_restore_13 rfl (by decide) fl_X7_87 er3 rfl ?_
    refine ab_iload_n (pc' := 17) (q := 1) dX7_restore_16 rfl rfl rfl ?_
    obtain ⟨x4, ex4, hf⟩ := ab_bd hf
    refine ab_zald (pc' := 18) dX7_restore_17 ex4 rfl ?_
    refine ab_if_ne (pc' := 21) (tgt := 24) dX7_restore_18 (by decide) rfl (fun c5 => ?_) (fun c5 => ?_)
    · have hf := ab_iN c5 hf
      refine ab_sipush (pc' := 27) (v := 167) dX7_restore_24 (by decide) rfl ?_
      refine ab_iload_n (pc' := 28) (q := 1) dX7_restore_27 rfl rfl rfl ?_
      refine ab_imul (pc' := 29) dX7_restore_28 rfl ?_
      refine ab_istore_n (pc' := 30) (ls' := [(2, .int (167 * a1)), (0, .ref a0), (1, .int a1)]) dX7_restore_29 rfl (by decide) rfl rfl ?_
      refine ab_iconst (pc' := 31) (v := 0) dX7_restore_30 (by decide) rfl ?_
      refine ab_istore_n (pc' := 32) (ls' := [(3, .int 0), (2, .int (167 * a1)), (0, .ref a0), (1, .int a1)]) dX7_restore_31 rfl (by decide) rfl rfl ?_
      refine ab_drop (ls' := [(0, .ref a0), (2, .int (167 * a1)), (3, .int 0)]) [2, 1, 0] rfl ?_
      obtain ⟨q29, eq29, hf⟩ := ab_bd hf
      refine klX7_restore_32 ?_ ab_fu _ _ eq29
      refine ab_iconst (pc' := 171) (v := 0) dX7_restore_170 (by decide) rfl ?_
      refine ab_istore_n (pc' := 172) (ls' := [(3, .int 0), (0, .ref a0), (2, .int (167 * a1))]) dX7_restore_171 rfl (by decide) rfl rfl ?_
      refine ab_drop (ls' := [(0, .ref a0), (2, .int (167 * a1)), (3, .int 0)]) [1, 2, 0] rfl ?_
      obtain ⟨q43, eq43, hf⟩ := ab_bd hf
      refine klX7_restore_172 ?_ ab_fu _ _ eq43
      refine ab_aload_n (pc' := 242) (q := 0) dX7_restore_241 rfl rfl rfl ?_
      refine ab_aload_n (pc' := 243) (q := 0) dX7_restore_242 rfl rfl rfl ?_
      obtain ⟨r44, er44, hf⟩ := ab_bd hf
      refine ab_getR (pc' := 246) (ci := 7) (k := 29) dX7_restore_243 rfl (by decide) fl_X7_84 er44 rfl ?_
      refine ab_iload_n (pc' := 247) (q := 1) dX7_restore_246 rfl rfl rfl ?_
      refine ab_sipush (pc' := 250) (v := 164) dX7_restore_247 (by decide) rfl ?_
      refine ab_iadd (pc' := 251) dX7_restore_250 rfl ?_
      obtain ⟨x45, ex45, hf⟩ := ab_bd hf
      refine ab_iald (pc' := 252) dX7_restore_251 ex45 rfl ?_
      obtain ⟨h46, eh46, hf⟩ := ab_bd hf
      refine ab_put (pc' := 255) (ci := 7) (k := 5) dX7_restore_252 rfl (by decide) fl_X7_94 rfl (tyX7_ok 5 (by decide)) rfl rfl eh46 rfl ?_
      refine ab_aload_n (pc' := 256) (q := 0) dX7_restore_255 rfl rfl rfl ?_
      refine ab_aload_n (pc' := 257) (q := 0) dX7_restore_256 rfl rfl rfl ?_
      obtain ⟨r47, er47, hf⟩ := ab_bd hf
      refine ab_getR (pc' := 260) (ci := 7) (k := 29) dX7_restore_257 rfl (by decide) fl_X7_84 er47 rfl ?_
      refine ab_iload_n (pc' := 261) (q := 1) dX7_restore_260 rfl rfl rfl ?_
      refine ab_sipush (pc' := 264) (v := 165) dX7_restore_261 (by decide) rfl ?_
      refine ab_iadd (pc' := 265) dX7_restore_264 rfl ?_
      obtain ⟨x48, ex48, hf⟩ := ab_bd hf
      refine ab_iald (pc' := 266) dX7_restore_265 ex48 rfl ?_
      obtain ⟨h49, eh49, hf⟩ := ab_bd hf
      refine ab_put (pc' := 269) (ci := 7) (k := 9) dX7_restore_266 rfl (by decide) fl_X7_34 rfl (tyX7_ok 9 (by decide)) rfl rfl eh49 rfl ?_
      refine ab_aload_n (pc' := 270) (q := 0) dX7_restore_269 rfl rfl rfl ?_
      refine ab_aload_n (pc' := 271) (q := 0) dX7_restore_270 rfl rfl rfl ?_
      obtain ⟨r50, er50, hf⟩ := ab_bd hf
      refine ab_getR (pc' := 274) (ci := 7) (k := 29) dX7_restore_271 rfl (by decide) fl_X7_84 er50 rfl ?_
      refine ab_iload_n (pc' := 275) (q := 1) dX7_restore_274 rfl rfl rfl ?_
      refine ab_sipush (pc' := 278) (v := 166) dX7_restore_275 (by decide) rfl ?_
      refine ab_iadd (pc' := 279) dX7_restore_278 rfl ?_
      obtain ⟨x51, ex51, hf⟩ := ab_bd hf
      refine ab_iald (pc' := 280) dX7_restore_279 ex51 rfl ?_
      obtain ⟨h52, eh52, hf⟩ := ab_bd hf
      refine ab_put (pc' := 283) (ci := 7) (k := 10) dX7_restore_280 rfl (by decide) fl_X7_108 rfl (tyX7_ok 10 (by decide)) rfl rfl eh52 rfl ?_
      refine ab_iconst (pc' := 284) (v := 1) dX7_restore_283 (by decide) rfl ?_
      have hf := Option.some.inj hf
      subst hf
      exact ab_iret rfl dX7_restore_284 hK
    · have hf := ab_ip c5 hf
      refine ab_bipush (pc' := 23) (v := (-3)) dX7_restore_21 (by decide) rfl ?_
      have hf := Option.some.inj hf
      subst hf
      exact ab_iret rfl dX7_restore_23 hK
  · have hf := ab_ip c2 hf
    refine ab_bipush (pc' := 11) (v := (-2)) dX7_restore_9 (by decide) rfl ?_
    have hf := Option.some.inj hf
    subst hf
    exact ab_iret rfl dX7_restore_11 hK
