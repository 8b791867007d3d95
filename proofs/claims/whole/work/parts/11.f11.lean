-- DiskRestsModel.drawn(IIII)I (mode R, depth 2)
def bX7_drawn_21  (h : ab_H) : Option Int32 := some (-1)
set_option maxRecDepth 20000 in
set_option maxHeartbeats 1000000 in
theorem kbX7_drawn_21 {l : Launch} {g : ab_G} {K : ab_K} {h : ab_H}  {r : Int32} (hf : bX7_drawn_21 h = some r) (hK : K (some (.int r)) h) : ab_Ev l g mX7_drawn 2 0 0 21 [] [] h 0 0 K := by
  unfold bX7_drawn_21 at hf
  refine ab_iconst (pc' := 22) (v := (-1)) dX7_drawn_21 (by decide) rfl ?_
  have hf := Option.some.inj hf
  subst hf
  exact ab_iret rfl dX7_drawn_22 hK
def bX7_drawn_44  (h : ab_H) : Option Int32 := some (-2)
set_option maxRecDepth 20000 in
set_option maxHeartbeats 1000000 in
theorem kbX7_drawn_44 {l : Launch} {g : ab_G} {K : ab_K} {h : ab_H}  {r : Int32} (hf : bX7_drawn_44 h = some r) (hK : K (some (.int r)) h) : ab_Ev l g mX7_drawn 2 0 0 44 [] [] h 0 0 K := by
  unfold bX7_drawn_44 at hf
  refine ab_bipush (pc' := 46) (v := (-2)) dX7_drawn_44 (by decide) rfl ?_
  have hf := Option.some.inj hf
  subst hf
  exact ab_iret rfl dX7_drawn_46 hK
def lX7_drawn_71 (h : ab_H) (v0 : Nat) (v1 : Int32) (v2 : Int32) (v3 : Int32) (v4 : Int32) (v5 : Int32) : Nat → Int32 → Option Int32
  | 0, _ => none
  | n + 1, v6 => (ab_gR h v0 7 2).bind (fun r15 => (ab_aI h r15 ((4 * v1) + v2)).bind (fun x16 => if x16 ≤ ((v6 * v5) : Int32) then some v6 else lX7_drawn_71 h v0 v1 v2 v3 v4 v5 n (v6 + 1)))
set_option maxRecDepth 20000 in
set_option maxHeartbeats 1000000 in
theorem klX7_drawn_71 {l : Launch} {g : ab_G} {K : ab_K} {h : ab_H} {v0 : Nat} {v1 : Int32} {v2 : Int32} {v3 : Int32} {v4 : Int32} {v5 : Int32} {q : Int32} (hx : ab_Ev l g mX7_drawn 2 0 0 95 [(0, .ref v0), (1, .int v1), (2, .int v2), (3, .int v3), (4, .int v4), (6, .int q)] [] h 0 0 K) : ∀ (n : Nat) (v6 : Int32), lX7_drawn_71 h v0 v1 v2 v3 v4 v5 n v6 = some q → ab_Ev l g mX7_drawn 2 0 0 71 [(0, .ref v0), (1, .int v1), (2, .int v2), (3, .int v3), (4, .int v4), (5, .int v5), (6, .int v6)] [] h 0 0 K := by
  intro n
  induction n with
  | zero => intro v6 hf; cases (show (none : Option Int32) = some q from hf)
  | succ n ih =>
    intro v6 hf
    rw [lX7_drawn_71] at hf
    refine ab_iload (pc' := 73) (q := 6) dX7_drawn_71 rfl rfl ?_
    refine ab_iload (pc' := 75) (q := 5) dX7_drawn_73 rfl rfl ?_
    refine ab_imul (pc' := 76) dX7_drawn_75 rfl ?_
    refine ab_aload_n (pc' := 77) (q := 0) dX7_drawn_76 rfl rfl rfl ?_
    obtain ⟨r15, er15, hf⟩ := ab_bd hf
    refine ab_getR (pc' := 80) (ci := 7) (k := 2) dX7_drawn_77 rfl (by decide) fl_X7_16 er15 rfl ?_
    refine ab_iconst (pc' := 81) (v := 4) dX7_drawn_80 (by decide) rfl ?_
    refine ab_iload_n (pc' := 82) (q := 1) dX7_drawn_81 rfl rfl rfl ?_
    refine ab_imul (pc' := 83) dX7_drawn_82 rfl ?_
    refine ab_iload_n (pc' := 84) (q := 2) dX7_drawn_83 rfl rfl rfl ?_
    refine ab_iadd (pc' := 85) dX7_drawn_84 rfl ?_
    obtain ⟨x16, ex16, hf⟩ := ab_bd hf
    refine ab_iald (pc' := 86) dX7_drawn_85 ex16 rfl ?_
    refine ab_icmp_ge (pc' := 89) (tgt := 95) dX7_drawn_86 (by decide) rfl (fun c17 => ?_) (fun c17 => ?_)
    · have hf := ab_ip c17 hf
      have hf := Option.some.inj hf
      subst hf
      refine ab_drop (ls' := [(0, .ref v0), (1, .int v1), (2, .int v2), (3, .int v3), (4, .int v4), (6, .int v6)]) [0, 1, 2, 3, 4, 6] rfl ?_
      exact hx
    · have hf := ab_iN c17 hf
      refine ab_iinc (pc' := 92) (q := 6) (v := (v6 + 1)) (ls' := [(6, .int (v6 + 1)), (0, .ref v0), (1, .int v1), (2, .int v2), (3, .int v3), (4, .int v4), (5, .int v5)]) dX7_drawn_89 rfl rfl (by decide) rfl rfl ?_
      refine ab_goto (tgt := 71) dX7_drawn_92 (by decide) ?_
      refine ab_drop (ls' := [(0, .ref v0), (1, .int v1), (2, .int v2), (3, .int v3), (4, .int v4), (5, .int v5), (6, .int (v6 + 1))]) [1, 2, 3, 4, 5, 6, 0] rfl ?_
      exact ih _ hf
def bX7_drawn_176 (rec : Int32 → Int32 → Option Int32) (v0 : Nat) (v1 : Int32) (v2 : Int32) (v3 : Int32) (v4 : Int32) (v6 : Int32) (v8 : Int32) (s1 : Int32) (s0 : Int32) (h : ab_H) : Option Int32 := rec (s0 + s1) (v8 + 1)
set_option maxRecDepth 20000 in
set_option maxHeartbeats 1000000 in
theorem kbX7_drawn_176 {l : Launch} {g : ab_G} {K : ab_K} {h : ab_H} {s0 : Int32} {s1 : Int32} {v0 : Nat} {v1 : Int32} {v2 : Int32} {v3 : Int32} {v4 : Int32} {v6 : Int32} {v8 : Int32} {q : Int32} {rec : Int32 → Int32 → Option Int32} (ih : ∀ (w7 : Int32) (w8 : Int32), rec w7 w8 = some q → ab_Ev l g mX7_drawn 2 0 0 110 [(0, .ref v0), (1, .int v1), (2, .int v2), (3, .int v3), (4, .int v4), (6, .int v6), (7, .int w7), (8, .int w8)] [] h 0 0 K) (hx : ab_Ev l g mX7_drawn 2 0 0 185 [(4, .int v4), (6, .int v6), (7, .int q)] [] h 0 0 K) (hf : bX7_drawn_176 rec v0 v1 v2 v3 v4 v6 v8 s1 s0 h = some q) : ab_Ev l g mX7_drawn 2 0 0 176 [(0, .ref v0), (1, .int v1), (2, .int v2), (3, .int v3), (4, .int v4), (6, .int v6), (8, .int v8)] [.int s1, .int s0] h 0 0 K := by
  unfold bX7_drawn_176 at hf
  refine ab_iadd (pc' := 177) dX7_drawn_176 rfl ?_
  refine ab_istore (pc' := 179) (ls' := [(7, .int (s0 + s1)), (0, .ref v0), (1, .int v1), (2, .int v2), (3, .int v3), (4, .int v4), (6, .int v6), (8, .int v8)]) dX7_drawn_177 (by decide) rfl rfl ?_
  refine ab_iinc (pc' := 182) (q := 7) (v := (v8 + 1)) (ls' := [(8, .int (v8 + 1)), (7, .int (s0 + s1)), (0, .ref v0), (1, .int v1), (2, .int v2), (3, .int v3), (4, .int v4), (6, .int v6)]) dX7_drawn_179 rfl rfl (by decide) rfl rfl ?_
  refine ab_goto (tgt := 110) dX7_drawn_182 (by decide) ?_
  refine ab_drop (ls' := [(0, .ref v0), (1, .int v1), (2, .int v2), (3, .int v3), (4, .int v4), (6, .int v6), (7, .int (s0 + s1)), (8, .int (v8 + 1))]) [2, 3, 4, 5, 6, 7, 1, 0] rfl ?_
  exact ih _ _ hf
def lX7_drawn_110 (h : ab_H) (v0 : Nat) (v1 : Int32) (v2 : Int32) (v3 : Int32) (v4 : Int32) (v6 : Int32) : Nat → Int32 → Int32 → Option Int32
  | 0, _, _ => none
  | n + 1, v7, v8 => if v6 ≤ (v8 : Int32) then some v7 else if v8 < (v3 : Int32) then (ab_gR h v0 7 1).bind (fun r22 => (ab_aI h r22 (4 * v1)).bind (fun x23 => (ab_gR h v0 7 1).bind (fun r24 => (ab_aI h r24 ((4 * v1) + v2)).bind (fun x25 => (ab_gR h v0 7 2).bind (fun r26 => (ab_aI h r26 ((4 * v1) + v2)).bind (fun x27 => bX7_drawn_176 (lX7_drawn_110 h v0 v1 v2 v3 v4 v6 n) v0 v1 v2 v3 v4 v6 v8 (((x23 * v8) + (x25 * (v3 - v8))) + x27) v7 h)))))) else (ab_gR h v0 7 1).bind (fun r28 => (ab_aI h r28 (4 * v1)).bind (fun x29 => bX7_drawn_176 (lX7_drawn_110 h v0 v1 v2 v3 v4 v6 n) v0 v1 v2 v3 v4 v6 v8 (x29 * v3) v7 h))
set_option maxRecDepth 20000 in
set_option maxHeartbeats 1000000 in
theorem klX7_drawn_110 {l : Launch} {g : ab_G} {K : ab_K} {h : ab_H} {v0 : Nat} {v1 : Int32} {v2 : Int32} {v3 : Int32} {v4 : Int32} {v6 : Int32} {q : Int32} (hx : ab_Ev l g mX7_drawn 2 0 0 185 [(4, .int v4), (6, .int v6), (7, .int q)] [] h 0 0 K) : ∀ (n : Nat) (v7 : Int32) (v8 : Int32), lX7_drawn_110 h v0 v1 v2 v3 v4 v6 n v7 v8 = some q → ab_Ev l g mX7_drawn 2 0 0 110 [(0, .ref v0), (1, .int v1), (2, .int v2), (3, .int v3), (4, .int v4), (6, .int v6), (7, .int v7), (8, .int v8)] [] h 0 0 K := by
  intro n
  induction n with
  | zero => intro v7 v8 hf; cases (show (none : Option Int32) = some q from hf)
  | succ n ih =>
    intro v7 v8 hf
    rw [lX7_drawn_110] at hf
    refine ab_iload (pc' := 112) (q := 7) dX7_drawn_110 rfl rfl ?_
    refine ab_iload (pc' := 114) (q := 5) dX7_drawn_112 rfl rfl ?_
    refine ab_icmp_ge (pc' := 117) (tgt := 185) dX7_drawn_114 (by decide) rfl (fun c20 => ?_) (fun c20 => ?_)
    · have hf := ab_ip c20 hf
      have hf := Option.some.inj hf
      subst hf
      refine ab_drop (ls' := [(4, .int v4), (6, .int v6), (7, .int v7)]) [4, 5, 6] rfl ?_
      exact hx
    · have hf := ab_iN c20 hf
      refine ab_iload (pc' := 119) (q := 6) dX7_drawn_117 rfl rfl ?_
      refine ab_iload_n (pc' := 120) (q := 3) dX7_drawn_119 rfl rfl rfl ?_
      refine ab_iload (pc' := 122) (q := 7) dX7_drawn_120 rfl rfl ?_
      refine ab_icmp_gt (pc' := 125) (tgt := 138) dX7_drawn_122 (by decide) rfl (fun c21 => ?_) (fun c21 => ?_)
      · have hf := ab_ip c21 hf
        refine ab_aload_n (pc' := 139) (q := 0) dX7_drawn_138 rfl rfl rfl ?_
        obtain ⟨r22, er22, hf⟩ := ab_bd hf
        refine ab_getR (pc' := 142) (ci := 7) (k := 1) dX7_drawn_139 rfl (by decide) fl_X7_13 er22 rfl ?_
        refine ab_iconst (pc' := 143) (v := 4) dX7_drawn_142 (by decide) rfl ?_
        refine ab_iload_n (pc' := 144) (q := 1) dX7_drawn_143 rfl rfl rfl ?_
        refine ab_imul (pc' := 145) dX7_drawn_144 rfl ?_
        obtain ⟨x23, ex23, hf⟩ := ab_bd hf
        refine ab_iald (pc' := 146) dX7_drawn_145 ex23 rfl ?_
        refine ab_iload (pc' := 148) (q := 7) dX7_drawn_146 rfl rfl ?_
        refine ab_imul (pc' := 149) dX7_drawn_148 rfl ?_
        refine ab_aload_n (pc' := 150) (q := 0) dX7_drawn_149 rfl rfl rfl ?_
        obtain ⟨r24, er24, hf⟩ := ab_bd hf
        refine ab_getR (pc' := 153) (ci := 7) (k := 1) dX7_drawn_150 rfl (by decide) fl_X7_13 er24 rfl ?_
        refine ab_iconst (pc' := 154) (v := 4) dX7_drawn_153 (by decide) rfl ?_
        refine ab_iload_n (pc' := 155) (q := 1) dX7_drawn_154 rfl rfl rfl ?_
        refine ab_imul (pc' := 156) dX7_drawn_155 rfl ?_
        refine ab_iload_n (pc' := 157) (q := 2) dX7_drawn_156 rfl rfl rfl ?_
        refine ab_iadd (pc' := 158) dX7_drawn_157 rfl ?_
        obtain ⟨x25, ex25, hf⟩ := ab_bd hf
        refine ab_iald (pc' := 159) dX7_drawn_158 ex25 rfl ?_
        refine ab_iload_n (pc' := 160) (q := 3) dX7_drawn_159 rfl rfl rfl ?_
        refine ab_iload (pc' := 162) (q := 7) dX7_drawn_160 rfl rfl ?_
        refine ab_isub (pc' := 163) dX7_drawn_162 rfl ?_
        refine ab_imul (pc' := 164) dX7_drawn_163 rfl ?_
        refine ab_iadd (pc' := 165) dX7_drawn_164 rfl ?_
        refine ab_aload_n (pc' := 166) (q := 0) dX7_drawn_165 rfl rfl rfl ?_
        obtain ⟨r26, er26, hf⟩ := ab_bd hf
        refine ab_getR (pc' := 169) (ci := 7) (k := 2) dX7_drawn_166 rfl (by decide) fl_X7_16 er26 rfl ?_
        refine ab_iconst (pc' := 170) (v := 4) dX7_drawn_169 (by decide) rfl ?_
        refine ab_iload_n (pc' := 171) (q := 1) dX7_drawn_170 rfl rfl rfl ?_
        refine ab_imul (pc' := 172) dX7_drawn_171 rfl ?_
        refine ab_iload_n (pc' := 173) (q := 2) dX7_drawn_172 rfl rfl rfl ?_
        refine ab_iadd (pc' := 174) dX7_drawn_173 rfl ?_
        obtain ⟨x27, ex27, hf⟩ := ab_bd hf
        refine ab_iald (pc' := 175) dX7_drawn_174 ex27 rfl ?_
        refine ab_iadd (pc' := 176) dX7_drawn_175 rfl ?_
        refine ab_drop (ls' := [(0, .ref v0), (1, .int v1), (2, .int v2), (3, .int v3), (4, .int v4), (6, .int v6), (8, .int v8)]) [0, 1, 2, 3, 4, 5, 7] rfl ?_
        exact kbX7_drawn_176 ih hx hf
      · have hf := ab_iN c21 hf
        refine ab_aload_n (pc' := 126) (q := 0) dX7_drawn_125 rfl rfl rfl ?_
        obtain ⟨r28, er28, hf⟩ := ab_bd hf
        refine ab_getR (pc' := 129) (ci := 7) (k := 1) dX7_drawn_126 rfl (by decide) fl_X7_13 er28 rfl ?_
        refine ab_iconst (pc' := 130) (v := 4) dX7_drawn_129 (by decide) rfl ?_
        refine ab_iload_n (pc' := 131) (q := 1) dX7_drawn_130 rfl rfl rfl ?_
        refine ab_imul (pc' := 132) dX7_drawn_131 rfl ?_
        obtain ⟨x29, ex29, hf⟩ := ab_bd hf
        refine ab_iald (pc' := 133) dX7_drawn_132 ex29 rfl ?_
        refine ab_iload_n (pc' := 134) (q := 3) dX7_drawn_133 rfl rfl rfl ?_
        refine ab_imul (pc' := 135) dX7_drawn_134 rfl ?_
        refine ab_goto (tgt := 176) dX7_drawn_135 (by decide) ?_
        refine ab_drop (ls' := [(0, .ref v0), (1, .int v1), (2, .int v2), (3, .int v3), (4, .int v4), (6, .int v6), (8, .int v8)]) [0, 1, 2, 3, 4, 5, 7] rfl ?_
        exact kbX7_drawn_176 ih hx hf
def fX7_drawn (h : ab_H) (a0 : Nat) (a1 : Int32) (a2 : Int32) (a3 : Int32) (a4 : Int32) : Option Int32 := (fX7_isDisk a1).bind (fun x1 => if (x1 : Int32) = 0 then bX7_drawn_21 h else (ab_gR h a0 7 0).bind (fun r3 => (ab_aI h r3 a1).bind (fun x4 => (fX7_in a2 1 x4).bind (fun x5 => if (x5 : Int32) = 0 then bX7_drawn_21 h else (fX7_in a3 1 1000).bind (fun x7 => if (x7 : Int32) = 0 then bX7_drawn_44 h else (fX7_in a4 0 2).bind (fun x9 => if (x9 : Int32) = 0 then bX7_drawn_44 h else (ab_gR h a0 7 1).bind (fun r11 => (ab_aI h r11 (4 * a1)).bind (fun x12 => (ab_gR h a0 7 1).bind (fun r13 => (ab_aI h r13 ((4 * a1) + a2)).bind (fun x14 => (lX7_drawn_71 h a0 a1 a2 a3 a4 (x12 - x14) ab_fu 0).bind (fun q18 => if (a4 : Int32) = 2 then some q18 else (lX7_drawn_110 h a0 a1 a2 a3 a4 q18 ab_fu 0 0).bind (fun q30 => (fX7_part q30 q18 a4).bind (fun x31 => some x31)))))))))))))
set_option maxRecDepth 20000 in
set_option maxHeartbeats 1000000 in
theorem kX7_drawn {l : Launch} {g : ab_G} {K : ab_K} {h : ab_H} {a0 : Nat} {a1 : Int32} {a2 : Int32} {a3 : Int32} {a4 : Int32} {r : Int32} (hf : fX7_drawn h a0 a1 a2 a3 a4 = some r) (hK : K (some (.int r)) h) : ab_S l g mX7_drawn 2 0 0 [.ref a0, .int a1, .int a2, .int a3, .int a4] h K := by
  unfold fX7_drawn at hf
  refine ab_enter (ls := [(0, .ref a0), (1, .int a1), (2, .int a2), (3, .int a3), (4, .int a4)]) (by decide +kernel) rfl (Nat.le_of_ble_eq_true rfl) rfl ?_
  refine ab_iload_n (pc' := 1) (q := 1) dX7_drawn_0 rfl rfl rfl ?_
  obtain ⟨x1, ex1, hf⟩ := ab_bd hf
  refine ab_callS (pc' := 4) (Mc := mX7_isDisk) (as := [.int a1]) (st := []) dX7_drawn_1 ml_X7_97 okX7_isDisk ss_X7_isDisk rfl (by decide) (Nat.le_of_ble_eq_true rfl) (Nat.le_of_ble_eq_true rfl) (Nat.le_of_ble_eq_true rfl) rfl rfl (kX7_isDisk ex1 ?_)
  show ab_Ev l g mX7_drawn 2 0 0 4 [(0, .ref a0), (1, .int a1), (2, .int a2), (3, .int a3), (4, .int a4)] [.int x1] h 0 0 K
  refine ab_if_eq (pc' := 7) (tgt := 21) dX7_drawn_4 (by decide) rfl (fun c2 => ?_) (fun c2 => ?_)
  · have hf := ab_ip c2 hf
    refine ab_drop (ls' := []) [] rfl ?_
    exact kbX7_drawn_21 hf hK
  · have hf := ab_iN c2 hf
    refine ab_iload_n (pc' := 8) (q := 2) dX7_drawn_7 rfl rfl rfl ?_
    refine ab_iconst (pc' := 9) (v := 1) dX7_drawn_8 (by decide) rfl ?_
    refine ab_aload_n (pc' := 10) (q := 0) dX7_drawn_9 rfl rfl rfl ?_
    obtain ⟨r3, er3, hf⟩ := ab_bd hf
    refine ab_getR (pc' := 13) (ci := 7) (k := 0) dX7_drawn_10 rfl (by decide) fl_X7_7 er3 rfl ?_
    refine ab_iload_n (pc' := 14) (q := 1) dX7_drawn_13 rfl rfl rfl ?_
    obtain ⟨x4, ex4, hf⟩ := ab_bd hf
    refine ab_iald (pc' := 15) dX7_drawn_14 ex4 rfl ?_
    obtain ⟨x5, ex5, hf⟩ := ab_bd hf
    refine ab_callS (pc' := 18) (Mc := mX7_in) (as := [.int a2, .int 1, .int x4]) (st := []) dX7_drawn_15 ml_X7_90 okX7_in ss_X7_in rfl (by decide) (Nat.le_of_ble_eq_true rfl) (Nat.le_of_ble_eq_true rfl) (Nat.le_of_ble_eq_true rfl) rfl rfl (kX7_in ex5 ?_)
    show ab_Ev l g mX7_drawn 2 0 0 18 [(0, .ref a0), (1, .int a1), (2, .int a2), (3, .int a3), (4, .int a4)] [.int x5] h 0 0 K
    refine ab_if_ne (pc' := 21) (tgt := 23) dX7_drawn_18 (by decide) rfl (fun c6 => ?_) (fun c6 => ?_)
    · have hf := ab_iN c6 hf
      refine ab_iload_n (pc' := 24) (q := 3) dX7_drawn_23 rfl rfl rfl ?_
      refine ab_iconst (pc' := 25) (v := 1) dX7_drawn_24 (by decide) rfl ?_
      refine ab_sipush (pc' := 28) (v := 1000) dX7_drawn_25 (by decide) rfl ?_
      obtain ⟨x7, ex7, hf⟩ := ab_bd hf
      refine ab_callS (pc' := 31) (Mc := mX7_in) (as := [.int a3, .int 1, .int 1000]) (st := []) dX7_drawn_28 ml_X7_90 okX7_in ss_X7_in rfl (by decide) (Nat.le_of_ble_eq_true rfl) (Nat.le_of_ble_eq_true rfl) (Nat.le_of_ble_eq_true rfl) rfl rfl (kX7_in ex7 ?_)
      show ab_Ev l g mX7_drawn 2 0 0 31 [(0, .ref a0), (1, .int a1), (2, .int a2), (3, .int a3), (4, .int a4)] [.int x7] h 0 0 K
      refine ab_if_eq (pc' := 34) (tgt := 44) dX7_drawn_31 (by decide) rfl (fun c8 => ?_) (fun c8 => ?_)
      · have hf := ab_ip c8 hf
        refine ab_drop (ls' := []) [] rfl ?_
        exact kbX7_drawn_44 hf hK
      · have hf := ab_iN c8 hf
        refine ab_iload (pc' := 36) (q := 4) dX7_drawn_34 rfl rfl ?_
        refine ab_iconst (pc' := 37) (v := 0) dX7_drawn_36 (by decide) rfl ?_
        refine ab_iconst (pc' := 38) (v := 2) dX7_drawn_37 (by decide) rfl ?_
        obtain ⟨x9, ex9, hf⟩ := ab_bd hf
        refine ab_callS (pc' := 41) (Mc := mX7_in) (as := [.int a4, .int 0, .int 2]) (st := []) dX7_drawn_38 ml_X7_90 okX7_in ss_X7_in rfl (by decide) (Nat.le_of_ble_eq_true rfl) (Nat.le_of_ble_eq_true rfl) (Nat.le_of_ble_eq_true rfl) rfl rfl (kX7_in ex9 ?_)
        show ab_Ev l g mX7_drawn 2 0 0 41 [(0, .ref a0), (1, .int a1), (2, .int a2), (3, .int a3), (4, .int a4)] [.int x9] h 0 0 K
        refine ab_if_ne (pc' := 44) (tgt := 47) dX7_drawn_41 (by decide) rfl (fun c10 => ?_) (fun c10 => ?_)
        · have hf := ab_iN c10 hf
          refine ab_aload_n (pc' := 48) (q := 0) dX7_drawn_47 rfl rfl rfl ?_
          obtain ⟨r11, er11, hf⟩ := ab_bd hf
          refine ab_getR (pc' := 51) (ci := 7) (k := 1) dX7_drawn_48 rfl (by decide) fl_X7_13 er11 rfl ?_
          refine ab_iconst (pc' := 52) (v := 4) dX7_drawn_51 (by decide) rfl ?_
          refine ab_iload_n (pc' := 53) (q := 1) dX7_drawn_52 rfl rfl rfl ?_
          refine ab_imul (pc' := 54) dX7_drawn_53 rfl ?_
          obtain ⟨x12, ex12, hf⟩ := ab_bd hf
          refine ab_iald (pc' := 55) dX7_drawn_54 ex12 rfl ?_
          refine ab_aload_n (pc' := 56) (q := 0) dX7_drawn_55 rfl rfl rfl ?_
          obtain ⟨r13, er13, hf⟩ := ab_bd hf
          refine ab_getR (pc' := 59) (ci := 7) (k := 1) dX7_drawn_56 rfl (by decide) fl_X7_13 er13 rfl ?_
          refine ab_iconst (pc' := 60) (v := 4) dX7_drawn_59 (by decide) rfl ?_
          refine ab_iload_n (pc' := 61) (q := 1) dX7_drawn_60 rfl rfl rfl ?_
          refine ab_imul (pc' := 62) dX7_drawn_61 rfl ?_
          refine ab_iload_n (pc' := 63) (q := 2) dX7_drawn_62 rfl rfl rfl ?_
          refine ab_iadd (pc' := 64) dX7_drawn_63 rfl ?_
          obtain ⟨x14, ex14, hf⟩ := ab_bd hf
          refine ab_iald (pc' := 65) dX7_drawn_64 ex14 rfl ?_
          refine ab_isub (pc' := 66) dX7_drawn_65 rfl ?_
          refine ab_istore (pc' := 68) (ls' := [(5, .int (x12 - x14)), (0, .ref a0), (1, .int a1), (2, .int a2), (3, .int a3), (4, .int a4)]) dX7_drawn_66 (by decide) rfl rfl ?_
          refine ab_iconst (pc' := 69) (v := 0) dX7_drawn_68 (by decide) rfl ?_
          refine ab_istore (pc' := 71) (ls' := [(6, .int 0), (5, .int (x12 - x14)), (0, .ref a0), (1, .int a1), (2, .int a2), (3, .int a3), (4, .int a4)]) dX7_drawn_69 (by decide) rfl rfl ?_
          refine ab_drop (ls' := [(0, .ref a0), (1, .int a1), (2, .int a2), (3, .int a3), (4, .int a4), (5, .int (x12 - x14)), (6, .int 0)]) [2, 3, 4, 5, 6, 1, 0] rfl ?_
          obtain ⟨q18, eq18, hf⟩ := ab_bd hf
          refine klX7_drawn_71 ?_ ab_fu _ eq18
          refine ab_iload (pc' := 97) (q := 4) dX7_drawn_95 rfl rfl ?_
          refine ab_iconst (pc' := 98) (v := 2) dX7_drawn_97 (by decide) rfl ?_
          refine ab_icmp_ne (pc' := 101) (tgt := 104) dX7_drawn_98 (by decide) rfl (fun c19 => ?_) (fun c19 => ?_)
          · have hf := ab_iN c19 hf
            refine ab_iconst (pc' := 105) (v := 0) dX7_drawn_104 (by decide) rfl ?_
            refine ab_istore (pc' := 107) (ls' := [(7, .int 0), (0, .ref a0), (1, .int a1), (2, .int a2), (3, .int a3), (4, .int a4), (6, .int q18)]) dX7_drawn_105 (by decide) rfl rfl ?_
            refine ab_iconst (pc' := 108) (v := 0) dX7_drawn_107 (by decide) rfl ?_
            refine ab_istore (pc' := 110) (ls' := [(8, .int 0), (7, .int 0), (0, .ref a0), (1, .int a1), (2, .int a2), (3, .int a3), (4, .int a4), (6, .int q18)]) dX7_drawn_108 (by decide) rfl rfl ?_
            refine ab_drop (ls' := [(0, .ref a0), (1, .int a1), (2, .int a2), (3, .int a3), (4, .int a4), (6, .int q18), (7, .int 0), (8, .int 0)]) [2, 3, 4, 5, 6, 7, 1, 0] rfl ?_
            obtain ⟨q30, eq30, hf⟩ := ab_bd hf
            refine klX7_drawn_110 ?_ ab_fu _ _ eq30
            refine ab_iload (pc' := 187) (q := 2) dX7_drawn_185 rfl rfl ?_
            refine ab_iload (pc' := 189) (q := 1) dX7_drawn_187 rfl rfl ?_
            refine ab_iload (pc' := 191) (q := 0) dX7_drawn_189 rfl rfl ?_
            obtain ⟨x31, ex31, hf⟩ := ab_bd hf
            refine ab_callS (pc' := 194) (Mc := mX7_part) (as := [.int q30, .int q18, .int a4]) (st := []) dX7_drawn_191 ml_X7_174 okX7_part ss_X7_part rfl (by decide) (Nat.le_of_ble_eq_true rfl) (Nat.le_of_ble_eq_true rfl) (Nat.le_of_ble_eq_true rfl) rfl rfl (kX7_part ex31 ?_)
            show ab_Ev l g mX7_drawn 2 0 0 194 [(4, .int a4), (6, .int q18), (7, .int q30)] [.int x31] h 0 0 K
            have hf := Option.some.inj hf
            subst hf
            exact ab_iret rfl dX7_drawn_194 hK
          · have hf := ab_ip c19 hf
            refine ab_iload (pc' := 103) (q := 5) dX7_drawn_101 rfl rfl ?_
            have hf := Option.some.inj hf
            subst hf
            exact ab_iret rfl dX7_drawn_103 hK
        · have hf := ab_ip c10 hf
          refine ab_drop (ls' := []) [] rfl ?_
          exact kbX7_drawn_44 hf hK
    · have hf := ab_ip c6 hf
      refine ab_drop (ls' := []) [] rfl ?_
      exact kbX7_drawn_21 hf hK
-- DiskRestsModel.count(I)I (mode W, depth 5)
def bX7_count_129 (s1 : Int32) (s0 : Int32) (h : ab_H) : Option (Int32 × ab_H) := some ((s0 + s1), h)
set_option maxRecDepth 20000 in
set_option maxHeartbeats 1000000 in
theorem kbX7_count_129 {l : Launch} {g : ab_G} {K : ab_K} {h : ab_H} {s1 : Int32} {s0 : Int32} {r : (Int32 × ab_H)} (hf : bX7_count_129 s1 s0 h = some r) (hK : K (some (.int r.1)) r.2) : ab_Ev l g mX7_count 5 0 0 129 [] [.int s1, .int s0] h 0 0 K := by
  unfold bX7_count_129 at hf
  refine ab_iadd (pc' := 130) dX7_count_129 rfl ?_
  have hf := Option.some.inj hf
  subst hf
  exact ab_iret rfl dX7_count_130 hK
def bX7_count_115 (v0 : Nat) (s0 : Int32) (h : ab_H) : Option (Int32 × ab_H) := (ab_gR h v0 7 30).bind (fun r26 => (ab_aZ h r26 1).bind (fun x27 => if (x27 : Int32) = 0 then bX7_count_129 0 s0 h else bX7_count_129 2 s0 h))
set_option maxRecDepth 20000 in
set_option maxHeartbeats 1000000 in
theorem kbX7_count_115 {l : Launch} {g : ab_G} {K : ab_K} {h : ab_H} {v0 : Nat} {s0 : Int32} {r : (Int32 × ab_H)} (hf : bX7_count_115 v0 s0 h = some r) (hK : K (some (.int r.1)) r.2) : ab_Ev l g mX7_count 5 0 0 115 [(0, .ref v0)] [.int s0] h 0 0 K := by
  unfold bX7_count_115 at hf
  refine ab_aload_n (pc' := 116) (q := 0) dX7_count_115 rfl rfl rfl ?_
  obtain ⟨r26, er26, hf⟩ := ab_bd hf
  refine ab_getR (pc' := 119) (ci := 7) (k := 30) dX7_count_116 rfl (by decide) fl_X7_87 er26 rfl ?_
  refine ab_iconst (pc' := 120) (v := 1) dX7_count_119 (by decide) rfl ?_
  obtain ⟨x27, ex27, hf⟩ := ab_bd hf
  refine ab_zald (pc' := 121) dX7_count_120 ex27 rfl ?_
  refine ab_if_eq (pc' := 124) (tgt := 128) dX7_count_121 (by decide) rfl (fun c28 => ?_) (fun c28 => ?_)
  · have hf := ab_ip c28 hf
    refine ab_iconst (pc' := 129) (v := 0) dX7_count_128 (by decide) rfl ?_
    refine ab_drop (ls' := []) [] rfl ?_
    exact kbX7_count_129 hf hK
  · have hf := ab_iN c28 hf
    refine ab_iconst (pc' := 125) (v := 2) dX7_count_124 (by decide) rfl ?_
    refine ab_goto (tgt := 129) dX7_count_125 (by decide) ?_
    refine ab_drop (ls' := []) [] rfl ?_
    exact kbX7_count_129 hf hK
def fX7_count (h : ab_H) (a0 : Nat) (a1 : Int32) : Option (Int32 × ab_H) := (ab_ob h a0 7).bind (fun u1 => (fX7_run h a0 (-6)).bind (fun h2 => if (a1 : Int32) = 0 then (ab_gI h2 a0 7 5).bind (fun x4 => some (x4, h2)) else if (a1 : Int32) = 1 then (ab_gI h2 a0 7 9).bind (fun x6 => some (x6, h2)) else if (a1 : Int32) = 2 then (ab_gI h2 a0 7 10).bind (fun x8 => some (x8, h2)) else if (a1 : Int32) = 3 then (ab_gR h2 a0 7 13).bind (fun r10 => (ab_aI h2 r10 0).bind (fun x11 => (ab_gR h2 a0 7 13).bind (fun r12 => (ab_aI h2 r12 1).bind (fun x13 => (ab_gR h2 a0 7 13).bind (fun r14 => (ab_aI h2 r14 2).bind (fun x15 => (ab_gR h2 a0 7 13).bind (fun r16 => (ab_aI h2 r16 3).bind (fun x17 => some ((((x11 + x13) + x15) + x17), h2))))))))) else if (a1 : Int32) = 4 then (ab_gI h2 a0 7 22).bind (fun x19 => some (x19, h2)) else if (a1 : Int32) = 5 then (ab_gI h2 a0 7 23).bind (fun x21 => some (x21, h2)) else if (a1 : Int32) = 6 then (ab_gR h2 a0 7 30).bind (fun r23 => (ab_aZ h2 r23 0).bind (fun x24 => if (x24 : Int32) = 0 then bX7_count_115 a0 0 h2 else bX7_count_115 a0 1 h2)) else some ((-2), h2)))
set_option maxRecDepth 20000 in
set_option maxHeartbeats 1000000 in
theorem kX7_count {l : Launch} {g : ab_G} {K : ab_K} {h : ab_H} {a0 : Nat} {a1 : Int32} {r : (Int32 × ab_H)} (hf : fX7_count h a0 a1 = some r) (hK : K (some (.int r.1)) r.2) : ab_S l g mX7_count 5 0 0 [.ref a0, .int a1] h K := by
  unfold fX7_count at hf
  refine ab_enter (ls := [(0, .ref a0), (1, .int a1)]) (by decide +kernel) rfl (Nat.le_of_ble_eq_true rfl) rfl ?_
  refine ab_aload_n (pc' := 1) (q := 0) dX7_count_0 rfl rfl rfl ?_
  refine ab_bipush (pc' := 3) (v := (-6)) dX7_count_1 (by decide) rfl ?_
  obtain ⟨u1, eu1, hf⟩ := ab_bd hf
  obtain ⟨h2, eh2, hf⟩ := ab_bd hf
  refine ab_callV (pc' := 6) (Mc := mX7_run) (as := [.int (-6)]) (st := []) dX7_count_3 ml_X7_143 okX7_run im_X7_run se_X7_run rfl eu1 rfl (by decide) (Nat.le_of_ble_eq_true rfl) (Nat.le_of_ble_eq_true rfl) (Nat.le_of_ble_eq_true rfl) rfl rfl (kX7_run eh2 ?_)
  show ab_Ev l g mX7_count 5 0 0 6 [(0, .ref a0), (1, .int a1)] [] h2 0 0 K
  refine ab_iload_n (pc' := 7) (q := 1) dX7_count_6 rfl rfl rfl ?_
  by_cases c3 : (a1 : Int32) = 0
  · have hf := ab_ip c3 hf
    refine ab_tableC (tgt := 48) dX7_count_7 c3 (by decide) (by decide) rfl (by decide) ?_
    refine ab_aload_n (pc' := 49) (q := 0) dX7_count_48 rfl rfl rfl ?_
    obtain ⟨x4, ex4, hf⟩ := ab_bd hf
    refine ab_getI (pc' := 52) (ci := 7) (k := 5) dX7_count_49 rfl (by decide) fl_X7_94 ex4 rfl ?_
    have hf := Option.some.inj hf
    subst hf
    exact ab_iret rfl dX7_count_52 hK
  have hf := ab_iN c3 hf
  by_cases c5 : (a1 : Int32) = 1
  · have hf := ab_ip c5 hf
    refine ab_tableC (tgt := 53) dX7_count_7 c5 (by decide) (by decide) rfl (by decide) ?_
    refine ab_aload_n (pc' := 54) (q := 0) dX7_count_53 rfl rfl rfl ?_
    obtain ⟨x6, ex6, hf⟩ := ab_bd hf
    refine ab_getI (pc' := 57) (ci := 7) (k := 9) dX7_count_54 rfl (by decide) fl_X7_34 ex6 rfl ?_
    have hf := Option.some.inj hf
    subst hf
    exact ab_iret rfl dX7_count_57 hK
  have hf := ab_iN c5 hf
  by_cases c7 : (a1 : Int32) = 2
  · have hf := ab_ip c7 hf
    refine ab_tableC (tgt := 58) dX7_count_7 c7 (by decide) (by decide) rfl (by decide) ?_
    refine ab_aload_n (pc' := 59) (q := 0) dX7_count_58 rfl rfl rfl ?_
    obtain ⟨x8, ex8, hf⟩ := ab_bd hf
    refine ab_getI (pc' := 62) (ci := 7) (k := 10) dX7_count_59 rfl (by decide) fl_X7_108 ex8 rfl ?_
    have hf := Option.some.inj hf
    subst hf
    exact ab_iret rfl dX7_count_62 hK
  have hf := ab_iN c7 hf
  by_cases c9 : (a1 : Int32) = 3
  · have hf := ab_ip c9 hf
    refine ab_tableC (tgt := 63) dX7_count_7 c9 (by decide) (by decide) rfl (by decide) ?_
    refine ab_aload_n (pc' := 64) (q := 0) dX7_count_63 rfl rfl rfl ?_
    obtain ⟨r10, er10, hf⟩ := ab_bd hf
    refine ab_getR (pc' := 67) (ci := 7) (k := 13) dX7_count_64 rfl (by decide) fl_X7_44 er10 rfl ?_
    refine ab_iconst (pc' := 68) (v := 0) dX7_count_67 (by decide) rfl ?_
    obtain ⟨x11, ex11, hf⟩ := ab_bd hf
    refine ab_iald (pc' := 69) dX7_count_68 ex11 rfl ?_
    refine ab_aload_n (pc' := 70) (q := 0) dX7_count_69 rfl rfl rfl ?_
    obtain ⟨r12, er12, hf⟩ := ab_bd hf
    refine ab_getR (pc' := 73) (ci := 7) (k := 13) dX7_count_70 rfl (by decide) fl_X7_44 er12 rfl ?_
    refine ab_iconst (pc' := 74) (v := 1) dX7_count_73 (by decide) rfl ?_
    obtain ⟨x13, ex13, hf⟩ := ab_bd hf
    refine ab_iald (pc' := 75) dX7_count_74 ex13 rfl ?_
    refine ab_iadd (pc' := 76) dX7_count_75 rfl ?_
    refine ab_aload_n (pc' := 77) (q := 0) dX7_count_76 rfl rfl rfl ?_
    obtain ⟨r14, er14, hf⟩ := ab_bd hf
    refine ab_getR (pc' := 80) (ci := 7) (k := 13) dX7_count_77 rfl (by decide) fl_X7_44 er14 rfl ?_
    refine ab_iconst (pc' := 81) (v := 2) dX7_count_80 (by decide) rfl ?_
    obtain ⟨x15, ex15, hf⟩ := ab_bd hf
    refine ab_iald (pc' := 82) dX7_count_81 ex15 rfl ?_
    refine ab_iadd (pc' := 83) dX7_count_82 rfl ?_
    refine ab_aload_n (pc' := 84) (q := 0) dX7_count_83 rfl rfl rfl ?_
    obtain ⟨r16, er16, hf⟩ := ab_bd hf
    refine ab_getR (pc' := 87) (ci := 7) (k := 13) dX7_count_84 rfl (by decide) fl_X7_44 er16 rfl ?_
    refine ab_iconst (pc' := 88) (v := 3) dX7_count_87 (by decide) rfl ?_
    obtain ⟨x17, ex17, hf⟩ := ab_bd hf
    refine ab_iald (pc' := 89) dX7_count_88 ex17 rfl ?_
    refine ab_iadd (pc' := 90) dX7_count_89 rfl ?_
    have hf := Option.some.inj hf
    subst hf
    exact ab_iret rfl dX7_count_90 hK
  have hf := ab_iN c9 hf
  by_cases c18 : (a1 : Int32) = 4
  · have hf := ab_ip c18 hf
    refine ab_tableC (tgt := 91) dX7_count_7 c18 (by decide) (by decide) rfl (by decide) ?_
    refine ab_aload_n (pc' := 92) (q := 0) dX7_count_91 rfl rfl rfl ?_
    obtain ⟨x19, ex19, hf⟩ := ab_bd hf
    refine ab_getI (pc' := 95) (ci := 7) (k := 22) dX7_count_92 rfl (by decide) fl_X7_121 ex19 rfl ?_
    have hf := Option.some.inj hf
    subst hf
    exact ab_iret rfl dX7_count_95 hK
  have hf := ab_iN c18 hf
  by_cases c20 : (a1 : Int32) = 5
  · have hf := ab_ip c20 hf
    refine ab_tableC (tgt := 96) dX7_count_7 c20 (by decide) (by decide) rfl (by decide) ?_
    refine ab_aload_n (pc' := 97) (q := 0) dX7_count_96 rfl rfl rfl ?_
    obtain ⟨x21, ex21, hf⟩ := ab_bd hf
    refine ab_getI (pc' := 100) (ci := 7) (k := 23) dX7_count_97 rfl (by decide) fl_X7_127 ex21 rfl ?_
    have hf := Option.some.inj hf
    subst hf
    exact ab_iret rfl dX7_count_100 hK
  have hf := ab_iN c20 hf
  by_cases c22 : (a1 : Int32) = 6
  · have hf := ab_ip c22 hf
    refine ab_tableC (tgt := 101) dX7_count_7 c22 (by decide) (by decide) rfl (by decide) ?_
    refine ab_aload_n (pc' := 102) (q := 0) dX7_count_101 rfl rfl rfl ?_
    obtain ⟨r23, er23, hf⟩ := ab_bd hf
    refine ab_getR (pc' := 105) (ci := 7) (k := 30) dX7_count_102 rfl (by decide) fl_X7_87 er23 rfl ?_
    refine ab_iconst (pc' := 106) (v := 0) dX7_count_105 (by decide) rfl ?_
    obtain ⟨x24, ex24, hf⟩ := ab_bd hf
    refine ab_zald (pc' := 107) dX7_count_106 ex24 rfl ?_
    refine ab_if_eq (pc' := 110) (tgt := 114) dX7_count_107 (by decide) rfl (fun c25 => ?_) (fun c25 => ?_)
    · have hf := ab_ip c25 hf
      refine ab_iconst (pc' := 115) (v := 0) dX7_count_114 (by decide) rfl ?_
      refine ab_drop (ls' := [(0, .ref a0)]) [0] rfl ?_
      exact kbX7_count_115 hf hK
    · have hf := ab_iN c25 hf
      refine ab_iconst (pc' := 111) (v := 1) dX7_count_110 (by decide) rfl ?_
      refine ab_goto (tgt := 115) dX7_count_111 (by decide) ?_
      refine ab_drop (ls' := [(0, .ref a0)]) [0] rfl ?_
      exact kbX7_count_115 hf hK
  have hf := ab_iN c22 hf
  refine ab_tableOut (tgt := 131) dX7_count_7 (by have := ab_ne (i := 0) (by decide) c3; have := ab_ne (i := 1) (by decide) c5; have := ab_ne (i := 2) (by decide) c7; have := ab_ne (i := 3) (by decide) c9; have := ab_ne (i := 4) (by decide) c18; have := ab_ne (i := 5) (by decide) c20; have := ab_ne (i := 6) (by decide) c22; omega) (by decide) ?_
  refine ab_bipush (pc' := 133) (v := (-2)) dX7_count_131 (by decide) rfl ?_
  have hf := Option.some.inj hf
  subst hf
  exact ab_iret rfl dX7_count_133 hK
-- DiskRestsModel.image(I)I (mode W, depth 1)
def lX7_image_28 (v0 : Nat) (v1 : Int32) (v2 : Int32) (v3 : Int32) : Nat → Int32 → ab_H → Option ab_H
  | 0, _, _ => none
  | n + 1, v4, h => if 4 ≤ (v4 : Int32) then some h else (ab_gR h v0 7 29).bind (fun r5 => (ab_gR h v0 7 1).bind (fun r6 => (ab_aI h r6 ((4 * v3) + v4)).bind (fun x7 => (ab_sI h r5 ((v2 + (11 * v3)) + v4) x7).bind (fun h8 => (ab_gR h8 v0 7 29).bind (fun r9 => (ab_gR h8 v0 7 2).bind (fun r10 => (ab_aI h8 r10 ((4 * v3) + v4)).bind (fun x11 => (ab_sI h8 r9 (((v2 + (11 * v3)) + 4) + v4) x11).bind (fun h12 => lX7_image_28 v0 v1 v2 v3 n (v4 + 1) h12))))))))
set_option maxRecDepth 20000 in
set_option maxHeartbeats 1000000 in
theorem klX7_image_28 {l : Launch} {g : ab_G} {K : ab_K} {v0 : Nat} {v1 : Int32} {v2 : Int32} {v3 : Int32} {q : ab_H} (hx : ab_Ev l g mX7_image 1 0 0 92 [(0, .ref v0), (1, .int v1), (2, .int v2), (3, .int v3)] [] q 0 0 K) : ∀ (n : Nat) (v4 : Int32) (h : ab_H), lX7_image_28 v0 v1 v2 v3 n v4 h = some q → ab_Ev l g mX7_image 1 0 0 28 [(0, .ref v0), (1, .int v1), (2, .int v2), (3, .int v3), (4, .int v4)] [] h 0 0 K := by
  intro n
  induction n with
  | zero => intro v4 h hf; cases (show (none : Option ab_H) = some q from hf)
  | succ n ih =>
    intro v4 h hf
    rw [lX7_image_28] at hf
    refine ab_iload (pc' := 30) (q := 4) dX7_image_28 rfl rfl ?_
    refine ab_iconst (pc' := 31) (v := 4) dX7_image_30 (by decide) rfl ?_
    refine ab_icmp_ge (pc' := 34) (tgt := 92) dX7_image_31 (by decide) rfl (fun c4 => ?_) (fun c4 => ?_)
    · have hf := ab_ip c4 hf
      have hf := Option.some.inj hf
      subst hf
      refine ab_drop (ls' := [(0, .ref v0), (1, .int v1), (2, .int v2), (3, .int v3)]) [0, 1, 2, 3] rfl ?_
      exact hx
    · have hf := ab_iN c4 hf
      refine ab_aload_n (pc' := 35) (q := 0) dX7_image_34 rfl rfl rfl ?_
      obtain ⟨r5, er5, hf⟩ := ab_bd hf
      refine ab_getR (pc' := 38) (ci := 7) (k := 29) dX7_image_35 rfl (by decide) fl_X7_84 er5 rfl ?_
      refine ab_iload_n (pc' := 39) (q := 2) dX7_image_38 rfl rfl rfl ?_
      refine ab_bipush (pc' := 41) (v := 11) dX7_image_39 (by decide) rfl ?_
      refine ab_iload_n (pc' := 42) (q := 3) dX7_image_41 rfl rfl rfl ?_
      refine ab_imul (pc' := 43) dX7_image_42 rfl ?_
      refine ab_iadd (pc' := 44) dX7_image_43 rfl ?_
      refine ab_iload (pc' := 46) (q := 4) dX7_image_44 rfl rfl ?_
      refine ab_iadd (pc' := 47) dX7_image_46 rfl ?_
      refine ab_aload_n (pc' := 48) (q := 0) dX7_image_47 rfl rfl rfl ?_
      obtain ⟨r6, er6, hf⟩ := ab_bd hf
      refine ab_getR (pc' := 51) (ci := 7) (k := 1) dX7_image_48 rfl (by decide) fl_X7_13 er6 rfl ?_
      refine ab_iconst (pc' := 52) (v := 4) dX7_image_51 (by decide) rfl ?_
      refine ab_iload_n (pc' := 53) (q := 3) dX7_image_52 rfl rfl rfl ?_
      refine ab_imul (pc' := 54) dX7_image_53 rfl ?_
      refine ab_iload (pc' := 56) (q := 4) dX7_image_54 rfl rfl ?_
      refine ab_iadd (pc' := 57) dX7_image_56 rfl ?_
      obtain ⟨x7, ex7, hf⟩ := ab_bd hf
      refine ab_iald (pc' := 58) dX7_image_57 ex7 rfl ?_
      obtain ⟨h8, eh8, hf⟩ := ab_bd hf
      refine ab_iast (pc' := 59) dX7_image_58 eh8 rfl ?_
      refine ab_aload_n (pc' := 60) (q := 0) dX7_image_59 rfl rfl rfl ?_
      obtain ⟨r9, er9, hf⟩ := ab_bd hf
      refine ab_getR (pc' := 63) (ci := 7) (k := 29) dX7_image_60 rfl (by decide) fl_X7_84 er9 rfl ?_
      refine ab_iload_n (pc' := 64) (q := 2) dX7_image_63 rfl rfl rfl ?_
      refine ab_bipush (pc' := 66) (v := 11) dX7_image_64 (by decide) rfl ?_
      refine ab_iload_n (pc' := 67) (q := 3) dX7_image_66 rfl rfl rfl ?_
      refine ab_imul (pc' := 68) dX7_image_67 rfl ?_
      refine ab_iadd (pc' := 69) dX7_image_68 rfl ?_
      refine ab_iconst (pc' := 70) (v := 4) dX7_image_69 (by decide) rfl ?_
      refine ab_iadd (pc' := 71) dX7_image_70 rfl ?_
      refine ab_iload (pc' := 73) (q := 4) dX7_image_71 rfl rfl ?_
      refine ab_iadd (pc' := 74) dX7_image_73 rfl ?_
      refine ab_aload_n (pc' := 75) (q := 0) dX7_image_74 rfl rfl rfl ?_
      obtain ⟨r10, er10, hf⟩ := ab_bd hf
      refine ab_getR (pc' := 78) (ci := 7) (k := 2) dX7_image_75 rfl (by decide) fl_X7_16 er10 rfl ?_
      refine ab_iconst (pc' := 79) (v := 4) dX7_image_78 (by decide) rfl ?_
      refine ab_iload_n (pc' := 80) (q := 3) dX7_image_79 rfl rfl rfl ?_
      refine ab_imul (pc' := 81) dX7_image_80 rfl ?_
      refine ab_iload (pc' := 83) (q := 4) dX7_image_81 rfl rfl ?_
      refine ab_iadd (pc' := 84) dX7_image_83 rfl ?_
      obtain ⟨x11, ex11, hf⟩ := ab_bd hf
      refine ab_iald (pc' := 85) dX7_image_84 ex11 rfl ?_
      obtain ⟨h12, eh12, hf⟩ := ab_bd hf
      refine ab_iast (pc' := 86) dX7_image_85 eh12 rfl ?_
      refine ab_iinc (pc' := 89) (q := 4) (v := (v4 + 1)) (ls' := [(4, .int (v4 + 1)), (0, .ref v0), (1, .int v1), (2, .int v2), (3, .int v3)]) dX7_image_86 rfl rfl (by decide) rfl rfl ?_
      refine ab_goto (tgt := 28) dX7_image_89 (by decide) ?_
      refine ab_drop (ls' := [(0, .ref v0), (1, .int v1), (2, .int v2), (3, .int v3), (4, .int (v4 + 1))]) [1, 2, 3, 4, 0] rfl ?_
      exact ih _ _ hf
def lX7_image_20 (v0 : Nat) (v1 : Int32) (v2 : Int32) : Nat → Int32 → ab_H → Option ab_H
  | 0, _, _ => none
  | n + 1, v3, h => if 4 ≤ (v3 : Int32) then some h else (lX7_image_28 v0 v1 v2 v3 ab_fu 0 h).bind (fun q13 => (ab_gR q13 v0 7 29).bind (fun r14 => (ab_gR q13 v0 7 0).bind (fun r15 => (ab_aI q13 r15 v3).bind (fun x16 => (ab_sI q13 r14 ((v2 + (11 * v3)) + 8) x16).bind (fun h17 => (ab_gR h17 v0 7 29).bind (fun r18 => (ab_gR h17 v0 7 3).bind (fun r19 => (ab_aI h17 r19 v3).bind (fun x20 => (ab_sI h17 r18 ((v2 + (11 * v3)) + 9) x20).bind (fun h21 => (ab_gR h21 v0 7 29).bind (fun r22 => (ab_gR h21 v0 7 4).bind (fun r23 => (ab_aI h21 r23 v3).bind (fun x24 => (ab_sI h21 r22 ((v2 + (11 * v3)) + 10) x24).bind (fun h25 => lX7_image_20 v0 v1 v2 n (v3 + 1) h25)))))))))))))
set_option maxRecDepth 20000 in
set_option maxHeartbeats 1000000 in
theorem klX7_image_20 {l : Launch} {g : ab_G} {K : ab_K} {v0 : Nat} {v1 : Int32} {v2 : Int32} {q : ab_H} (hx : ab_Ev l g mX7_image 1 0 0 158 [(0, .ref v0), (1, .int v1), (2, .int v2)] [] q 0 0 K) : ∀ (n : Nat) (v3 : Int32) (h : ab_H), lX7_image_20 v0 v1 v2 n v3 h = some q → ab_Ev l g mX7_image 1 0 0 20 [(0, .ref v0), (1, .int v1), (2, .int v2), (3, .int v3)] [] h 0 0 K := by
  intro n
  induction n with
  | zero => intro v3 h hf; cases (show (none : Option ab_H) = some q from hf)
  | succ n ih =>
    intro v3 h hf
    rw [lX7_image_20] at hf
    refine ab_iload_n (pc' := 21) (q := 3) dX7_image_20 rfl rfl rfl ?_
    refine ab_iconst (pc' := 22) (v := 4) dX7_image_21 (by decide) rfl ?_
    refine ab_icmp_ge (pc' := 25) (tgt := 158) dX7_image_22 (by decide) rfl (fun c3 => ?_) (fun c3 => ?_)
    · have hf := ab_ip c3 hf
      have hf := Option.some.inj hf
      subst hf
      refine ab_drop (ls' := [(0, .ref v0), (1, .int v1), (2, .int v2)]) [0, 1, 2] rfl ?_
      exact hx
    · have hf := ab_iN c3 hf
      refine ab_iconst (pc' := 26) (v := 0) dX7_image_25 (by decide) rfl ?_
      refine ab_istore (pc' := 28) (ls' := [(4, .int 0), (0, .ref v0), (1, .int v1), (2, .int v2), (3, .int v3)]) dX7_image_26 (by decide) rfl rfl ?_
      refine ab_drop (ls' := [(0, .ref v0), (1, .int v1), (2, .int v2), (3, .int v3), (4, .int 0)]) [1, 2, 3, 4, 0] rfl ?_
      obtain ⟨q13, eq13, hf⟩ := ab_bd hf
      refine klX7_image_28 ?_ ab_fu _ _ eq13
      refine ab_aload_n (pc' := 93) (q := 0) dX7_image_92 rfl rfl rfl ?_
      obtain ⟨r14, er14, hf⟩ := ab_bd hf
      refine ab_getR (pc' := 96) (ci := 7) (k := 29) dX7_image_93 rfl (by decide) fl_X7_84 er14 rfl ?_
      refine ab_iload_n (pc' := 97) (q := 2) dX7_image_96 rfl rfl rfl ?_
      refine ab_bipush (pc' := 99) (v := 11) dX7_image_97 (by decide) rfl ?_
      refine ab_iload_n (pc' := 100) (q := 3) dX7_image_99 rfl rfl rfl ?_
      refine ab_imul (pc' := 101) dX7_image_100 rfl ?_
      refine ab_iadd (pc' := 102) dX7_image_101 rfl ?_
      refine ab_bipush (pc' := 104) (v := 8) dX7_image_102 (by decide) rfl ?_
      refine ab_iadd (pc' := 105) dX7_image_104 rfl ?_
      refine ab_aload_n (pc' := 106) (q := 0) dX7_image_105 rfl rfl rfl ?_
      obtain ⟨r15, er15, hf⟩ := ab_bd hf
      refine ab_getR (pc' := 109) (ci := 7) (k := 0) dX7_image_106 rfl (by decide) fl_X7_7 er15 rfl ?_
      refine ab_iload_n (pc' := 110) (q := 3) dX7_image_109 rfl rfl rfl ?_
      obtain ⟨x16, ex16, hf⟩ := ab_bd hf
      refine ab_iald (pc' := 111) dX7_image_110 ex16 rfl ?_
      obtain ⟨h17, eh17, hf⟩ := ab_bd hf
      refine ab_iast (pc' := 112) dX7_image_111 eh17 rfl ?_
      refine ab_aload_n (pc' := 113) (q := 0) dX7_image_112 rfl rfl rfl ?_
      obtain ⟨r18, er18, hf⟩ := ab_bd hf
      refine ab_getR (pc' := 116) (ci := 7) (k := 29) dX7_image_113 rfl (by decide) fl_X7_84 er18 rfl ?_
      refine ab_iload_n (pc' := 117) (q := 2) dX7_image_116 rfl rfl rfl ?_
      refine ab_bipush (pc' := 119) (v := 11) dX7_image_117 (by decide) rfl ?_
      refine ab_iload_n (pc' := 120) (q := 3) dX7_image_119 rfl rfl rfl ?_
      refine ab_imul (pc' := 121) dX7_image_120 rfl ?_
      refine ab_iadd (pc' := 122) dX7_image_121 rfl ?_
      refine ab_bipush (pc' := 124) (v := 9) dX7_image_122 (by decide) rfl ?_
      refine ab_iadd (pc' := 125) dX7_image_124 rfl ?_
      refine ab_aload_n (pc' := 126) (q := 0) dX7_image_125 rfl rfl rfl ?_
      obtain ⟨r19, er19, hf⟩ := ab_bd hf
      refine ab_getR (pc' := 129) (ci := 7) (k := 3) dX7_image_126 rfl (by decide) fl_X7_19 er19 rfl ?_
      refine ab_iload_n (pc' := 130) (q := 3) dX7_image_129 rfl rfl rfl ?_
      obtain ⟨x20, ex20, hf⟩ := ab_bd hf
      refine ab_iald (pc' := 131) dX7_image_130 ex20 rfl ?_
      obtain ⟨h21, eh21, hf⟩ := ab_bd hf
      refine ab_iast (pc' := 132) dX7_image_131 eh21 rfl ?_
      refine ab_aload_n (pc' := 133) (q := 0) dX7_image_132 rfl rfl rfl ?_
      obtain ⟨r22, er22, hf⟩ := ab_bd hf
      refine ab_getR (pc' := 136) (ci := 7) (k := 29) dX7_image_133 rfl (by decide) fl_X7_84 er22 rfl ?_
      refine ab_iload_n (pc' := 137) (q := 2) dX7_image_136 rfl rfl rfl ?_
      refine ab_bipush (pc' := 139) (v := 11) dX7_image_137 (by decide) rfl ?_
      refine ab_iload_n (pc' := 140) (q := 3) dX7_image_139 rfl rfl rfl ?_
      refine ab_imul (pc' := 141) dX7_image_140 rfl ?_
      refine ab_iadd (pc' := 142) dX7_image_141 rfl ?_
      refine ab_bipush (pc' := 144) (v := 10) dX7_image_142 (by decide) rfl ?_
      refine ab_iadd (pc' := 145) dX7_image_144 rfl ?_
      refine ab_aload_n (pc' := 146) (q := 0) dX7_image_145 rfl rfl rfl ?_
      obtain ⟨r23, er23, hf⟩ := ab_bd hf
      refine ab_getR (pc' := 149) (ci := 7) (k := 4) dX7_image_146 rfl (by decide) fl_X7_22 er23 rfl ?_
      refine ab_iload_n (pc' := 150) (q := 3) dX7_image_149 rfl rfl rfl ?_
      obtain ⟨x24, ex24, hf⟩ := ab_bd hf
      refine ab_iald (pc' := 151) dX7_image_150 ex24 rfl ?_
      obtain ⟨h25, eh25, hf⟩ := ab_bd hf
      refine ab_iast (pc' := 152) dX7_image_151 eh25 rfl ?_
      refine ab_iinc (pc' := 155) (q := 3) (v := (v3 + 1)) (ls' := [(3, .int (v3 + 1)), (0, .ref v0), (1, .int v1), (2, .int v2)]) dX7_image_152 rfl rfl (by decide) rfl rfl ?_
      refine ab_goto (tgt := 20) dX7_image_155 (by decide) ?_
      refine ab_drop (ls' := [(0, .ref v0), (1, .int v1), (2, .int v2), (3, .int (v3 + 1))]) [1, 2, 3, 0] rfl ?_
      exact ih _ _ hf
def lX7_image_160 (v0 : Nat) (v1 : Int32) (v2 : Int32) : Nat → Int32 → ab_H → Option ab_H
  | 0, _, _ => none
  | n + 1, v3, h => if 40 ≤ (v3 : Int32) then some h else (ab_gR h v0 7 29).bind (fun r28 => (ab_gR h v0 7 6).bind (fun r29 => (ab_aI h r29 v3).bind (fun x30 => (ab_sI h r28 ((v2 + 44) + (3 * v3)) x30).bind (fun h31 => (ab_gR h31 v0 7 29).bind (fun r32 => (ab_gR h31 v0 7 7).bind (fun r33 => (ab_aI h31 r33 v3).bind (fun x34 => (ab_sI h31 r32 ((v2 + 45) + (3 * v3)) x34).bind (fun h35 => (ab_gR h35 v0 7 29).bind (fun r36 => (ab_gR h35 v0 7 8).bind (fun r37 => (ab_aI h35 r37 v3).bind (fun x38 => (ab_sI h35 r36 ((v2 + 46) + (3 * v3)) x38).bind (fun h39 => lX7_image_160 v0 v1 v2 n (v3 + 1) h39))))))))))))
set_option maxRecDepth 20000 in
set_option maxHeartbeats 1000000 in
theorem klX7_image_160 {l : Launch} {g : ab_G} {K : ab_K} {v0 : Nat} {v1 : Int32} {v2 : Int32} {q : ab_H} (hx : ab_Ev l g mX7_image 1 0 0 229 [(0, .ref v0), (1, .int v1), (2, .int v2)] [] q 0 0 K) : ∀ (n : Nat) (v3 : Int32) (h : ab_H), lX7_image_160 v0 v1 v2 n v3 h = some q → ab_Ev l g mX7_image 1 0 0 160 [(0, .ref v0), (1, .int v1), (2, .int v2), (3, .int v3)] [] h 0 0 K := by
  intro n
  induction n with
  | zero => intro v3 h hf; cases (show (none : Option ab_H) = some q from hf)
  | succ n ih =>
    intro v3 h hf
    rw [lX7_image_160] at hf
    refine ab_iload_n (pc' := 161) (q := 3) dX7_image_160 rfl rfl rfl ?_
    refine ab_bipush (pc' := 163) (v := 40) dX7_image_161 (by decide) rfl ?_
    refine ab_icmp_ge (pc' := 166) (tgt := 229) dX7_image_163 (by decide) rfl (fun c27 => ?_) (fun c27 => ?_)
    · have hf := ab_ip c27 hf
      have hf := Option.some.inj hf
      subst hf
      refine ab_drop (ls' := [(0, .ref v0), (1, .int v1), (2, .int v2)]) [0, 1, 2] rfl ?_
      exact hx
    · have hf := ab_iN c27 hf
      refine ab_aload_n (pc' := 167) (q := 0) dX7_image_166 rfl rfl rfl ?_
      obtain ⟨r28, er28, hf⟩ := ab_bd hf
      refine ab_getR (pc' := 170) (ci := 7) (k := 29) dX7_image_167 rfl (by decide) fl_X7_84 er28 rfl ?_
      refine ab_iload_n (pc' := 171) (q := 2) dX7_image_170 rfl rfl rfl ?_
      refine ab_bipush (pc' := 173) (v := 44) dX7_image_171 (by decide) rfl ?_
      refine ab_iadd (pc' := 174) dX7_image_173 rfl ?_
      refine ab_iconst (pc' := 175) (v := 3) dX7_image_174 (by decide) rfl ?_
      refine ab_iload_n (pc' := 176) (q := 3) dX7_image_175 rfl rfl rfl ?_
      refine ab_imul (pc' := 177) dX7_image_176 rfl ?_
      refine ab_iadd (pc' := 178) dX7_image_177 rfl ?_
      refine ab_aload_n (pc' := 179) (q := 0) dX7_image_178 rfl rfl rfl ?_
      obtain ⟨r29, er29, hf⟩ := ab_bd hf
      refine ab_getR (pc' := 182) (ci := 7) (k := 6) dX7_image_179 rfl (by decide) fl_X7_25 er29 rfl ?_
      refine ab_iload_n (pc' := 183) (q := 3) dX7_image_182 rfl rfl rfl ?_
      obtain ⟨x30, ex30, hf⟩ := ab_bd hf
      refine ab_iald (pc' := 184) dX7_image_183 ex30 rfl ?_
      obtain ⟨h31, eh31, hf⟩ := ab_bd hf
      refine ab_iast (pc' := 185) dX7_image_184 eh31 rfl ?_
      refine ab_aload_n (pc' := 186) (q := 0) dX7_image_185 rfl rfl rfl ?_
      obtain ⟨r32, er32, hf⟩ := ab_bd hf
      refine ab_getR (pc' := 189) (ci := 7) (k := 29) dX7_image_186 rfl (by decide) fl_X7_84 er32 rfl ?_
      refine ab_iload_n (pc' := 190) (q := 2) dX7_image_189 rfl rfl rfl ?_
      refine ab_bipush (pc' := 192) (v := 45) dX7_image_190 (by decide) rfl ?_
      refine ab_iadd (pc' := 193) dX7_image_192 rfl ?_
      refine ab_iconst (pc' := 194) (v := 3) dX7_image_193 (by decide) rfl ?_
      refine ab_iload_n (pc' := 195) (q := 3) dX7_image_194 rfl rfl rfl ?_
      refine ab_imul (pc' := 196) dX7_image_195 rfl ?_
      refine ab_iadd (pc' := 197) dX7_image_196 rfl ?_
      refine ab_aload_n (pc' := 198) (q := 0) dX7_image_197 rfl rfl rfl ?_
      obtain ⟨r33, er33, hf⟩ := ab_bd hf
      refine ab_getR (pc' := 201) (ci := 7) (k := 7) dX7_image_198 rfl (by decide) fl_X7_28 er33 rfl ?_
      refine ab_iload_n (pc' := 202) (q := 3) dX7_image_201 rfl rfl rfl ?_
      obtain ⟨x34, ex34, hf⟩ := ab_bd hf
      refine ab_iald (pc' := 203) dX7_image_202 ex34 rfl ?_
      obtain ⟨h35, eh35, hf⟩ := ab_bd hf
      refine ab_iast (pc' := 204) dX7_image_203 eh35 rfl ?_
      refine ab_aload_n (pc' := 205) (q := 0) dX7_image_204 rfl rfl rfl ?_
      obtain ⟨r36, er36, hf⟩ := ab_bd hf
      refine ab_getR (pc' := 208) (ci := 7) (k := 29) dX7_image_205 rfl (by decide) fl_X7_84 er36 rfl ?_
      refine ab_iload_n (pc' := 209) (q := 2) dX7_image_208 rfl rfl rfl ?_
      refine ab_bipush (pc' := 211) (v := 46) dX7_image_209 (by decide) rfl ?_
      refine ab_iadd (pc' := 212) dX7_image_211 rfl ?_
      refine ab_iconst (pc' := 213) (v := 3) dX7_image_212 (by decide) rfl ?_
      refine ab_iload_n (pc' := 214) (q := 3) dX7_image_213 rfl rfl rfl ?_
      refine ab_imul (pc' := 215) dX7_image_214 rfl ?_
      refine ab_iadd (pc' := 216) dX7_image_215 rfl ?_
      refine ab_aload_n (pc' := 217) (q := 0) dX7_image_216 rfl rfl rfl ?_
      obtain ⟨r37, er37, hf⟩ := ab_bd hf
      refine ab_getR (pc' := 220) (ci := 7) (k := 8) dX7_image_217 rfl (by decide) fl_X7_31 er37 rfl ?_
      refine ab_iload_n (pc' := 221) (q := 3) dX7_image_220 rfl rfl rfl ?_
      obtain ⟨x38, ex38, hf⟩ := ab_bd hf
      refine ab_iald (pc' := 222) dX7_image_221 ex38 rfl ?_
      obtain ⟨h39, eh39, hf⟩ := ab_bd hf
      refine ab_iast (pc' := 223) dX7_image_222 eh39 rfl ?_
      refine ab_iinc (pc' := 226) (q := 3) (v := (v3 + 1)) (ls' := [(3, .int (v3 + 1)), (0, .ref v0), (1, .int v1), (2, .int v2)]) dX7_image_223 rfl rfl (by decide) rfl rfl ?_
      refine ab_goto (tgt := 160) dX7_image_226 (by decide) ?_
      refine ab_drop (ls' := [(0, .ref v0), (1, .int v1), (2, .int v2), (3, .int (v3 + 1))]) [1, 2, 3, 0] rfl ?_
      exact ih _ _ hf
def fX7_image (h : ab_H) (a0 : Nat) (a1 : Int32) : Option (Int32 × ab_H) := (fX7_in a1 0 1).bind (fun x1 => if (x1 : Int32) = 0 then some ((-2), h) else (lX7_image_20 a0 a1 (167 * a1) ab_fu 0 h).bind (fun q26 => (lX7_image_160 a0 a1 (167 * a1) ab_fu 0 q26).bind (fun q40 => (ab_gR q40 a0 7 29).bind (fun r41 => (ab_gI q40 a0 7 5).bind (fun x42 => (ab_sI q40 r41 ((167 * a1) + 164) x42).bind (fun h43 => (ab_gR h43 a0 7 29).bind (fun r44 => (ab_gI h43 a0 7 9).bind (fun x45 => (ab_sI h43 r44 ((167 * a1) + 165) x45).bind (fun h46 => (ab_gR h46 a0 7 29).bind (fun r47 => (ab_gI h46 a0 7 10).bind (fun x48 => (ab_sI h46 r47 ((167 * a1) + 166) x48).bind (fun h49 => (ab_gR h49 a0 7 30).bind (fun r50 => (ab_sZ h49 r50 a1 1).bind (fun h51 => some (1, h51)))))))))))))))
set_option maxRecDepth 20000 in
set_option maxHeartbeats 1000000 in
theorem kX7_image {l : Launch} {g : ab_G} {K : ab_K} {h : ab_H} {a0 : Nat} {a1 : Int32} {r : (Int32 × ab_H)} (hf : fX7_image h a0 a1 = some r) (hK : K (some (.int r.1)) r.2) : ab_S l g mX7_image 1 0 0 [.ref a0, .int a1] h K := by
  unfold fX7_image at hf
  refine ab_enter (ls := [(0, .ref a0), (1, .int a1)]) (by decide +kernel) rfl (Nat.le_of_ble_eq_true rfl) rfl ?_
  refine ab_iload_n (pc' := 1) (q := 1) dX7_image_0 rfl rfl rfl ?_
  refine ab_iconst (pc' := 2) (v := 0) dX7_image_1 (by decide) rfl ?_
  refine ab_iconst (pc' := 3) (v := 1) dX7_image_2 (by decide) rfl ?_
  obtain ⟨x1, ex1, hf⟩ := ab_bd hf
  refine ab_callS (pc' := 6) (Mc := mX7_in) (as := [.int a1, .int 0, .int 1]) (st := []) dX7_image_3 ml_X7_90 okX7_in ss_X7_in rfl (by decide) (Nat.le_of_ble_eq_true rfl) (Nat.le_of_ble_eq_true rfl) (Nat.le_of_ble_eq_true rfl) rfl rfl (kX7_in ex1 ?_)
  show ab_Ev l g mX7_image 1 0 0 6 [(0, .ref a0), (1, .int a1)] [.int x1] h 0 0 K
  refine ab_if_ne (pc' := 9) (tgt := 12) dX7_image_6 (by decide) rfl (fun c2 => ?_) (fun c2 => ?_)
  · have hf := ab_iN c2 hf
    refine ab_sipush (pc' := 15) (v := 167) dX7_image_12 (by decide) rfl ?_
    refine ab_iload_n (pc' := 16) (q := 1) dX7_image_15 rfl rfl rfl ?_
    refine ab_imul (pc' := 17) dX7_image_16 rfl ?_
    refine ab_istore_n (pc' := 18) (ls' := [(2, .int (167 * a1)), (0, .ref a0), (1, .int a1)]) dX7_image_17 rfl (by decide) rfl rfl ?_
    refine ab_iconst (pc' := 19) (v := 0) dX7_image_18 (by decide) rfl ?_
    refine ab_istore_n (pc' := 20) (ls' := [(3, .int 0), (2, .int (167 * a1)), (0, .ref a0), (1, .int a1)]) dX7_image_19 rfl (by decide) rfl rfl ?_
    refine ab_drop (ls' := [(0, .ref a0), (1, .int a1), (2, .int (167 * a1)), (3, .int 0)]) [2, 3, 1, 0] rfl ?_
    obtain ⟨q26, eq26, hf⟩ := ab_bd hf
    refine klX7_image_20 ?_ ab_fu _ _ eq26
    refine ab_iconst (pc' := 159) (v := 0) dX7_image_158 (by decide) rfl ?_
    refine ab_istore_n (pc' := 160) (ls' := [(3, .int 0), (0, .ref a0), (1, .int a1), (2, .int (167 * a1))]) dX7_image_159 rfl (by decide) rfl rfl ?_
    refine ab_drop (ls' := [(0, .ref a0), (1, .int a1), (2, .int (167 * a1)), (3, .int 0)]) [1, 2, 3, 0] rfl ?_
    obtain ⟨q40, eq40, hf⟩ := ab_bd hf
    refine klX7_image_160 ?_ ab_fu _ _ eq40
    refine ab_aload_n (pc' := 230) (q := 0) dX7_image_229 rfl rfl rfl ?_
    obtain ⟨r41, er41, hf⟩ := ab_bd hf
    refine ab_getR (pc' := 233) (ci := 7) (k := 29) dX7_image_230 rfl (by decide) fl_X7_84 er41 rfl ?_
    refine ab_iload_n (pc' := 234) (q := 2) dX7_image_233 rfl rfl rfl ?_
    refine ab_sipush (pc' := 237) (v := 164) dX7_image_234 (by decide) rfl ?_
    refine ab_iadd (pc' := 238) dX7_image_237 rfl ?_
    refine ab_aload_n (pc' := 239) (q := 0) dX7_image_238 rfl rfl rfl ?_
    obtain ⟨x42, ex42, hf⟩ := ab_bd hf
    refine ab_getI (pc' := 242) (ci := 7) (k := 5) dX7_image_239 rfl (by decide) fl_X7_94 ex42 rfl ?_
    obtain ⟨h43, eh43, hf⟩ := ab_bd hf
    refine ab_iast (pc' := 243) dX7_image_242 eh43 rfl ?_
    refine ab_aload_n (pc' := 244) (q := 0) dX7_image_243 rfl rfl rfl ?_
    obtain ⟨r44, er44, hf⟩ := ab_bd hf
    refine ab_getR (pc' := 247) (ci := 7) (k := 29) dX7_image_244 rfl (by decide) fl_X7_84 er44 rfl ?_
    refine ab_iload_n (pc' := 248) (q := 2) dX7_image_247 rfl rfl rfl ?_
    refine ab_sipush (pc' := 251) (v := 165) dX7_image_248 (by decide) rfl ?_
    refine ab_iadd (pc' := 252) dX7_image_251 rfl ?_
    refine ab_aload_n (pc' := 253) (q := 0) dX7_image_252 rfl rfl rfl ?_
    obtain ⟨x45, ex45, hf⟩ := ab_bd hf
    refine ab_getI (pc' := 256) (ci := 7) (k := 9) dX7_image_253 rfl (by decide) fl_X7_34 ex45 rfl ?_
    obtain ⟨h46, eh46, hf⟩ := ab_bd hf
    refine ab_iast (pc' := 257) dX7_image_256 eh46 rfl ?_
    refine ab_aload_n (pc' := 258) (q := 0) dX7_image_257 rfl rfl rfl ?_
    obtain ⟨r47, er47, hf⟩ := ab_bd hf
    refine ab_getR (pc' := 261) (ci := 7) (k := 29) dX7_image_258 rfl (by decide) fl_X7_84 er47 rfl ?_
    refine ab_iload_n (pc' := 262) (q := 2) dX7_image_261 rfl rfl rfl ?_
    refine ab_sipush (pc' := 265) (v := 166) dX7_image_262 (by decide) rfl ?_
    refine ab_iadd (pc' := 266) dX7_image_265 rfl ?_
    refine ab_aload_n (pc' := 267) (q := 0) dX7_image_266 rfl rfl rfl ?_
    obtain ⟨x48, ex48, hf⟩ := ab_bd hf
    refine ab_getI (pc' := 270) (ci := 7) (k := 10) dX7_image_267 rfl (by decide) fl_X7_108 ex48 rfl ?_
    obtain ⟨h49, eh49, hf⟩ := ab_bd hf
    refine ab_iast (pc' := 271) dX7_image_270 eh49 rfl ?_
    refine ab_aload_n (pc' := 272) (q := 0) dX7_image_271 rfl rfl rfl ?_
    obtain ⟨r50, er50, hf⟩ := ab_bd hf
    refine ab_getR (pc' := 275) (ci := 7) (k := 30) dX7_image_272 rfl (by decide) fl_X7_87 er50 rfl ?_
    refine ab_iload_n (pc' := 276) (q := 1) dX7_image_275 rfl rfl rfl ?_
    refine ab_iconst (pc' := 277) (v := 1) dX7_image_276 (by decide) rfl ?_
    obtain ⟨h51, eh51, hf⟩ := ab_bd hf
    refine ab_zast (pc' := 278) dX7_image_277 eh51 rfl ?_
    refine ab_iconst (pc' := 279) (v := 1) dX7_image_278 (by decide) rfl ?_
    have hf := Option.some.inj hf
    subst hf
    exact ab_iret rfl dX7_image_279 hK
  · have hf := ab_ip c2 hf
    refine ab_bipush (pc' := 11) (v := (-2)) dX7_image_9 (by decide) rfl ?_
    have hf := Option.some.inj hf
    subst hf
    exact ab_iret rfl dX7_image_11 hK
