-- DiskRestsModel.disk(II)I (mode W, depth 5)
def bX7_disk_164 (s2 : Int32) (s1 : Int32) (s0 : Nat) (h : ab_H) : Option (Int32 × ab_H) := (ab_ob h s0 7).bind (fun u37 => (fX7_guessOf h s0 s1 s2).bind (fun x38 => some (x38, h)))
set_option maxRecDepth 20000 in
set_option maxHeartbeats 1000000 in
theorem kbX7_disk_164 {l : Launch} {g : ab_G} {K : ab_K} {h : ab_H} {s2 : Int32} {s1 : Int32} {s0 : Nat} {r : (Int32 × ab_H)} (hf : bX7_disk_164 s2 s1 s0 h = some r) (hK : K (some (.int r.1)) r.2) : ab_Ev l g mX7_disk 5 0 0 164 [] [.int s2, .int s1, .ref s0] h 0 0 K := by
  unfold bX7_disk_164 at hf
  obtain ⟨u37, eu37, hf⟩ := ab_bd hf
  obtain ⟨x38, ex38, hf⟩ := ab_bd hf
  refine ab_callV (pc' := 167) (Mc := mX7_guessOf) (as := [.int s1, .int s2]) (st := []) dX7_disk_164 ml_X7_118 okX7_guessOf im_X7_guessOf se_X7_guessOf rfl eu37 rfl (by decide) (Nat.le_of_ble_eq_true rfl) (Nat.le_of_ble_eq_true rfl) (Nat.le_of_ble_eq_true rfl) rfl rfl (kX7_guessOf ex38 ?_)
  show ab_Ev l g mX7_disk 5 0 0 167 [] [.int x38] h 0 0 K
  have hf := Option.some.inj hf
  subst hf
  exact ab_iret rfl dX7_disk_167 hK
def fX7_disk (h : ab_H) (a0 : Nat) (a1 : Int32) (a2 : Int32) : Option (Int32 × ab_H) := (fX7_isDisk a1).bind (fun x1 => if (x1 : Int32) = 0 then some ((-1), h) else (fX7_in a2 0 9).bind (fun x3 => if (x3 : Int32) = 0 then some ((-2), h) else (ab_ob h a0 7).bind (fun u5 => (fX7_run h a0 (-6)).bind (fun h6 => if (a2 : Int32) = 0 then (ab_gR h6 a0 7 13).bind (fun r8 => (ab_aI h6 r8 a1).bind (fun x9 => some (x9, h6))) else if (a2 : Int32) = 1 then (ab_gR h6 a0 7 14).bind (fun r11 => (ab_aI h6 r11 a1).bind (fun x12 => some (x12, h6))) else if (a2 : Int32) = 2 then (ab_gR h6 a0 7 15).bind (fun r14 => (ab_aI h6 r14 a1).bind (fun x15 => some (x15, h6))) else if (a2 : Int32) = 3 then (ab_gR h6 a0 7 16).bind (fun r17 => (ab_aI h6 r17 a1).bind (fun x18 => some (x18, h6))) else if (a2 : Int32) = 4 then (ab_gR h6 a0 7 17).bind (fun r20 => (ab_aI h6 r20 a1).bind (fun x21 => some (x21, h6))) else if (a2 : Int32) = 5 then (ab_ob h6 a0 7).bind (fun u23 => (fX7_stayOf h6 a0 a1).bind (fun x24 => some (x24, h6))) else if (a2 : Int32) = 6 then (ab_gR h6 a0 7 18).bind (fun r26 => (ab_aI h6 r26 a1).bind (fun x27 => some (x27, h6))) else if (a2 : Int32) = 7 then (ab_gR h6 a0 7 11).bind (fun r29 => (ab_aI h6 r29 a1).bind (fun x30 => some (x30, h6))) else if (a2 : Int32) = 8 then (ab_gR h6 a0 7 12).bind (fun r32 => (ab_aI h6 r32 a1).bind (fun x33 => some (x33, h6))) else (ab_gR h6 a0 7 3).bind (fun r34 => (ab_aI h6 r34 a1).bind (fun x35 => if (x35 : Int32) = 3 then (ab_gR h6 a0 7 4).bind (fun r39 => (ab_aI h6 r39 a1).bind (fun x40 => bX7_disk_164 x40 a1 a0 h6)) else bX7_disk_164 4 a1 a0 h6))))))
set_option maxRecDepth 20000 in
set_option maxHeartbeats 1000000 in
theorem kX7_disk {l : Launch} {g : ab_G} {K : ab_K} {h : ab_H} {a0 : Nat} {a1 : Int32} {a2 : Int32} {r : (Int32 × ab_H)} (hf : fX7_disk h a0 a1 a2 = some r) (hK : K (some (.int r.1)) r.2) : ab_S l g mX7_disk 5 0 0 [.ref a0, .int a1, .int a2] h K := by
  unfold fX7_disk at hf
  refine ab_enter (ls := [(0, .ref a0), (1, .int a1), (2, .int a2)]) (by decide +kernel) rfl (Nat.le_of_ble_eq_true rfl) rfl ?_
  refine ab_iload_n (pc' := 1) (q := 1) dX7_disk_0 rfl rfl rfl ?_
  obtain ⟨x1, ex1, hf⟩ := ab_bd hf
  refine ab_callS (pc' := 4) (Mc := mX7_isDisk) (as := [.int a1]) (st := []) dX7_disk_1 ml_X7_97 okX7_isDisk ss_X7_isDisk rfl (by decide) (Nat.le_of_ble_eq_true rfl) (Nat.le_of_ble_eq_true rfl) (Nat.le_of_ble_eq_true rfl) rfl rfl (kX7_isDisk ex1 ?_)
  show ab_Ev l g mX7_disk 5 0 0 4 [(0, .ref a0), (1, .int a1), (2, .int a2)] [.int x1] h 0 0 K
  refine ab_if_ne (pc' := 7) (tgt := 9) dX7_disk_4 (by decide) rfl (fun c2 => ?_) (fun c2 => ?_)
  · have hf := ab_iN c2 hf
    refine ab_iload_n (pc' := 10) (q := 2) dX7_disk_9 rfl rfl rfl ?_
    refine ab_iconst (pc' := 11) (v := 0) dX7_disk_10 (by decide) rfl ?_
    refine ab_bipush (pc' := 13) (v := 9) dX7_disk_11 (by decide) rfl ?_
    obtain ⟨x3, ex3, hf⟩ := ab_bd hf
    refine ab_callS (pc' := 16) (Mc := mX7_in) (as := [.int a2, .int 0, .int 9]) (st := []) dX7_disk_13 ml_X7_90 okX7_in ss_X7_in rfl (by decide) (Nat.le_of_ble_eq_true rfl) (Nat.le_of_ble_eq_true rfl) (Nat.le_of_ble_eq_true rfl) rfl rfl (kX7_in ex3 ?_)
    show ab_Ev l g mX7_disk 5 0 0 16 [(0, .ref a0), (1, .int a1), (2, .int a2)] [.int x3] h 0 0 K
    refine ab_if_ne (pc' := 19) (tgt := 22) dX7_disk_16 (by decide) rfl (fun c4 => ?_) (fun c4 => ?_)
    · have hf := ab_iN c4 hf
      refine ab_aload_n (pc' := 23) (q := 0) dX7_disk_22 rfl rfl rfl ?_
      refine ab_bipush (pc' := 25) (v := (-6)) dX7_disk_23 (by decide) rfl ?_
      obtain ⟨u5, eu5, hf⟩ := ab_bd hf
      obtain ⟨h6, eh6, hf⟩ := ab_bd hf
      refine ab_callV (pc' := 28) (Mc := mX7_run) (as := [.int (-6)]) (st := []) dX7_disk_25 ml_X7_143 okX7_run im_X7_run se_X7_run rfl eu5 rfl (by decide) (Nat.le_of_ble_eq_true rfl) (Nat.le_of_ble_eq_true rfl) (Nat.le_of_ble_eq_true rfl) rfl rfl (kX7_run eh6 ?_)
      show ab_Ev l g mX7_disk 5 0 0 28 [(0, .ref a0), (1, .int a1), (2, .int a2)] [] h6 0 0 K
      refine ab_iload_n (pc' := 29) (q := 2) dX7_disk_28 rfl rfl rfl ?_
      by_cases c7 : (a2 : Int32) = 0
      · have hf := ab_ip c7 hf
        refine ab_tableC (tgt := 80) dX7_disk_29 c7 (by decide) (by decide) rfl (by decide) ?_
        refine ab_aload_n (pc' := 81) (q := 0) dX7_disk_80 rfl rfl rfl ?_
        obtain ⟨r8, er8, hf⟩ := ab_bd hf
        refine ab_getR (pc' := 84) (ci := 7) (k := 13) dX7_disk_81 rfl (by decide) fl_X7_44 er8 rfl ?_
        refine ab_iload_n (pc' := 85) (q := 1) dX7_disk_84 rfl rfl rfl ?_
        obtain ⟨x9, ex9, hf⟩ := ab_bd hf
        refine ab_iald (pc' := 86) dX7_disk_85 ex9 rfl ?_
        have hf := Option.some.inj hf
        subst hf
        exact ab_iret rfl dX7_disk_86 hK
      have hf := ab_iN c7 hf
      by_cases c10 : (a2 : Int32) = 1
      · have hf := ab_ip c10 hf
        refine ab_tableC (tgt := 87) dX7_disk_29 c10 (by decide) (by decide) rfl (by decide) ?_
        refine ab_aload_n (pc' := 88) (q := 0) dX7_disk_87 rfl rfl rfl ?_
        obtain ⟨r11, er11, hf⟩ := ab_bd hf
        refine ab_getR (pc' := 91) (ci := 7) (k := 14) dX7_disk_88 rfl (by decide) fl_X7_47 er11 rfl ?_
        refine ab_iload_n (pc' := 92) (q := 1) dX7_disk_91 rfl rfl rfl ?_
        obtain ⟨x12, ex12, hf⟩ := ab_bd hf
        refine ab_iald (pc' := 93) dX7_disk_92 ex12 rfl ?_
        have hf := Option.some.inj hf
        subst hf
        exact ab_iret rfl dX7_disk_93 hK
      have hf := ab_iN c10 hf
      by_cases c13 : (a2 : Int32) = 2
      · have hf := ab_ip c13 hf
        refine ab_tableC (tgt := 94) dX7_disk_29 c13 (by decide) (by decide) rfl (by decide) ?_
        refine ab_aload_n (pc' := 95) (q := 0) dX7_disk_94 rfl rfl rfl ?_
        obtain ⟨r14, er14, hf⟩ := ab_bd hf
        refine ab_getR (pc' := 98) (ci := 7) (k := 15) dX7_disk_95 rfl (by decide) fl_X7_50 er14 rfl ?_
        refine ab_iload_n (pc' := 99) (q := 1) dX7_disk_98 rfl rfl rfl ?_
        obtain ⟨x15, ex15, hf⟩ := ab_bd hf
        refine ab_iald (pc' := 100) dX7_disk_99 ex15 rfl ?_
        have hf := Option.some.inj hf
        subst hf
        exact ab_iret rfl dX7_disk_100 hK
      have hf := ab_iN c13 hf
      by_cases c16 : (a2 : Int32) = 3
      · have hf := ab_ip c16 hf
        refine ab_tableC (tgt := 101) dX7_disk_29 c16 (by decide) (by decide) rfl (by decide) ?_
        refine ab_aload_n (pc' := 102) (q := 0) dX7_disk_101 rfl rfl rfl ?_
        obtain ⟨r17, er17, hf⟩ := ab_bd hf
        refine ab_getR (pc' := 105) (ci := 7) (k := 16) dX7_disk_102 rfl (by decide) fl_X7_53 er17 rfl ?_
        refine ab_iload_n (pc' := 106) (q := 1) dX7_disk_105 rfl rfl rfl ?_
        obtain ⟨x18, ex18, hf⟩ := ab_bd hf
        refine ab_iald (pc' := 107) dX7_disk_106 ex18 rfl ?_
        have hf := Option.some.inj hf
        subst hf
        exact ab_iret rfl dX7_disk_107 hK
      have hf := ab_iN c16 hf
      by_cases c19 : (a2 : Int32) = 4
      · have hf := ab_ip c19 hf
        refine ab_tableC (tgt := 108) dX7_disk_29 c19 (by decide) (by decide) rfl (by decide) ?_
        refine ab_aload_n (pc' := 109) (q := 0) dX7_disk_108 rfl rfl rfl ?_
        obtain ⟨r20, er20, hf⟩ := ab_bd hf
        refine ab_getR (pc' := 112) (ci := 7) (k := 17) dX7_disk_109 rfl (by decide) fl_X7_56 er20 rfl ?_
        refine ab_iload_n (pc' := 113) (q := 1) dX7_disk_112 rfl rfl rfl ?_
        obtain ⟨x21, ex21, hf⟩ := ab_bd hf
        refine ab_iald (pc' := 114) dX7_disk_113 ex21 rfl ?_
        have hf := Option.some.inj hf
        subst hf
        exact ab_iret rfl dX7_disk_114 hK
      have hf := ab_iN c19 hf
      by_cases c22 : (a2 : Int32) = 5
      · have hf := ab_ip c22 hf
        refine ab_tableC (tgt := 115) dX7_disk_29 c22 (by decide) (by decide) rfl (by decide) ?_
        refine ab_aload_n (pc' := 116) (q := 0) dX7_disk_115 rfl rfl rfl ?_
        refine ab_iload_n (pc' := 117) (q := 1) dX7_disk_116 rfl rfl rfl ?_
        obtain ⟨u23, eu23, hf⟩ := ab_bd hf
        obtain ⟨x24, ex24, hf⟩ := ab_bd hf
        refine ab_callV (pc' := 120) (Mc := mX7_stayOf) (as := [.int a1]) (st := []) dX7_disk_117 ml_X7_146 okX7_stayOf im_X7_stayOf se_X7_stayOf rfl eu23 rfl (by decide) (Nat.le_of_ble_eq_true rfl) (Nat.le_of_ble_eq_true rfl) (Nat.le_of_ble_eq_true rfl) rfl rfl (kX7_stayOf ex24 ?_)
        show ab_Ev l g mX7_disk 5 0 0 120 [(0, .ref a0), (1, .int a1), (2, .int a2)] [.int x24] h6 0 0 K
        have hf := Option.some.inj hf
        subst hf
        exact ab_iret rfl dX7_disk_120 hK
      have hf := ab_iN c22 hf
      by_cases c25 : (a2 : Int32) = 6
      · have hf := ab_ip c25 hf
        refine ab_tableC (tgt := 121) dX7_disk_29 c25 (by decide) (by decide) rfl (by decide) ?_
        refine ab_aload_n (pc' := 122) (q := 0) dX7_disk_121 rfl rfl rfl ?_
        obtain ⟨r26, er26, hf⟩ := ab_bd hf
        refine ab_getR (pc' := 125) (ci := 7) (k := 18) dX7_disk_122 rfl (by decide) fl_X7_59 er26 rfl ?_
        refine ab_iload_n (pc' := 126) (q := 1) dX7_disk_125 rfl rfl rfl ?_
        obtain ⟨x27, ex27, hf⟩ := ab_bd hf
        refine ab_iald (pc' := 127) dX7_disk_126 ex27 rfl ?_
        have hf := Option.some.inj hf
        subst hf
        exact ab_iret rfl dX7_disk_127 hK
      have hf := ab_iN c25 hf
      by_cases c28 : (a2 : Int32) = 7
      · have hf := ab_ip c28 hf
        refine ab_tableC (tgt := 128) dX7_disk_29 c28 (by decide) (by decide) rfl (by decide) ?_
        refine ab_aload_n (pc' := 129) (q := 0) dX7_disk_128 rfl rfl rfl ?_
        obtain ⟨r29, er29, hf⟩ := ab_bd hf
        refine ab_getR (pc' := 132) (ci := 7) (k := 11) dX7_disk_129 rfl (by decide) fl_X7_38 er29 rfl ?_
        refine ab_iload_n (pc' := 133) (q := 1) dX7_disk_132 rfl rfl rfl ?_
        obtain ⟨x30, ex30, hf⟩ := ab_bd hf
        refine ab_iald (pc' := 134) dX7_disk_133 ex30 rfl ?_
        have hf := Option.some.inj hf
        subst hf
        exact ab_iret rfl dX7_disk_134 hK
      have hf := ab_iN c28 hf
      by_cases c31 : (a2 : Int32) = 8
      · have hf := ab_ip c31 hf
        refine ab_tableC (tgt := 135) dX7_disk_29 c31 (by decide) (by decide) rfl (by decide) ?_
        refine ab_aload_n (pc' := 136) (q := 0) dX7_disk_135 rfl rfl rfl ?_
        obtain ⟨r32, er32, hf⟩ := ab_bd hf
        refine ab_getR (pc' := 139) (ci := 7) (k := 12) dX7_disk_136 rfl (by decide) fl_X7_41 er32 rfl ?_
        refine ab_iload_n (pc' := 140) (q := 1) dX7_disk_139 rfl rfl rfl ?_
        obtain ⟨x33, ex33, hf⟩ := ab_bd hf
        refine ab_iald (pc' := 141) dX7_disk_140 ex33 rfl ?_
        have hf := Option.some.inj hf
        subst hf
        exact ab_iret rfl dX7_disk_141 hK
      have hf := ab_iN c31 hf
      refine ab_tableOut (tgt := 142) dX7_disk_29 (by have := ab_ne (i := 0) (by decide) c7; have := ab_ne (i := 1) (by decide) c10; have := ab_ne (i := 2) (by decide) c13; have := ab_ne (i := 3) (by decide) c16; have := ab_ne (i := 4) (by decide) c19; have := ab_ne (i := 5) (by decide) c22; have := ab_ne (i := 6) (by decide) c25; have := ab_ne (i := 7) (by decide) c28; have := ab_ne (i := 8) (by decide) c31; omega) (by decide) ?_
      refine ab_aload_n (pc' := 143) (q := 0) dX7_disk_142 rfl rfl rfl ?_
      refine ab_iload_n (pc' := 144) (q := 1) dX7_disk_143 rfl rfl rfl ?_
      refine ab_aload_n (pc' := 145) (q := 0) dX7_disk_144 rfl rfl rfl ?_
      obtain ⟨r34, er34, hf⟩ := ab_bd hf
      refine ab_getR (pc' := 148) (ci := 7) (k := 3) dX7_disk_145 rfl (by decide) fl_X7_19 er34 rfl ?_
      refine ab_iload_n (pc' := 149) (q := 1) dX7_disk_148 rfl rfl rfl ?_
      obtain ⟨x35, ex35, hf⟩ := ab_bd hf
      refine ab_iald (pc' := 150) dX7_disk_149 ex35 rfl ?_
      refine ab_iconst (pc' := 151) (v := 3) dX7_disk_150 (by decide) rfl ?_
      refine ab_icmp_ne (pc' := 154) (tgt := 163) dX7_disk_151 (by decide) rfl (fun c36 => ?_) (fun c36 => ?_)
      · have hf := ab_iN c36 hf
        refine ab_iconst (pc' := 164) (v := 4) dX7_disk_163 (by decide) rfl ?_
        refine ab_drop (ls' := []) [] rfl ?_
        exact kbX7_disk_164 hf hK
      · have hf := ab_ip c36 hf
        refine ab_aload_n (pc' := 155) (q := 0) dX7_disk_154 rfl rfl rfl ?_
        obtain ⟨r39, er39, hf⟩ := ab_bd hf
        refine ab_getR (pc' := 158) (ci := 7) (k := 4) dX7_disk_155 rfl (by decide) fl_X7_22 er39 rfl ?_
        refine ab_iload_n (pc' := 159) (q := 1) dX7_disk_158 rfl rfl rfl ?_
        obtain ⟨x40, ex40, hf⟩ := ab_bd hf
        refine ab_iald (pc' := 160) dX7_disk_159 ex40 rfl ?_
        refine ab_goto (tgt := 164) dX7_disk_160 (by decide) ?_
        refine ab_drop (ls' := []) [] rfl ?_
        exact kbX7_disk_164 hf hK
    · have hf := ab_ip c4 hf
      refine ab_bipush (pc' := 21) (v := (-2)) dX7_disk_19 (by decide) rfl ?_
      have hf := Option.some.inj hf
      subst hf
      exact ab_iret rfl dX7_disk_21 hK
  · have hf := ab_ip c2 hf
    refine ab_iconst (pc' := 8) (v := (-1)) dX7_disk_7 (by decide) rfl ?_
    have hf := Option.some.inj hf
    subst hf
    exact ab_iret rfl dX7_disk_8 hK
-- DiskRestsModel.at(III)I (mode W, depth 5)
def bX7_at_32  (h : ab_H) : Option (Int32 × ab_H) := some ((-2), h)
set_option maxRecDepth 20000 in
set_option maxHeartbeats 1000000 in
theorem kbX7_at_32 {l : Launch} {g : ab_G} {K : ab_K} {h : ab_H}  {r : (Int32 × ab_H)} (hf : bX7_at_32 h = some r) (hK : K (some (.int r.1)) r.2) : ab_Ev l g mX7_at 5 0 0 32 [] [] h 0 0 K := by
  unfold bX7_at_32 at hf
  refine ab_bipush (pc' := 34) (v := (-2)) dX7_at_32 (by decide) rfl ?_
  have hf := Option.some.inj hf
  subst hf
  exact ab_iret rfl dX7_at_34 hK
def fX7_at (h : ab_H) (a0 : Nat) (a1 : Int32) (a2 : Int32) (a3 : Int32) : Option (Int32 × ab_H) := (fX7_isDisk a1).bind (fun x1 => if (x1 : Int32) = 0 then some ((-1), h) else (ab_gI h a0 7 9).bind (fun x3 => (fX7_in a2 0 (x3 - 1)).bind (fun x4 => if (x4 : Int32) = 0 then bX7_at_32 h else (fX7_in a3 0 2).bind (fun x6 => if (x6 : Int32) = 0 then bX7_at_32 h else (ab_ob h a0 7).bind (fun u8 => (fX7_run h a0 a2).bind (fun h9 => (ab_gR h9 a0 7 24).bind (fun r10 => (ab_aI h9 r10 ((3 * a1) + a3)).bind (fun x11 => some (x11, h9)))))))))
set_option maxRecDepth 20000 in
set_option maxHeartbeats 1000000 in
theorem kX7_at {l : Launch} {g : ab_G} {K : ab_K} {h : ab_H} {a0 : Nat} {a1 : Int32} {a2 : Int32} {a3 : Int32} {r : (Int32 × ab_H)} (hf : fX7_at h a0 a1 a2 a3 = some r) (hK : K (some (.int r.1)) r.2) : ab_S l g mX7_at 5 0 0 [.ref a0, .int a1, .int a2, .int a3] h K := by
  unfold fX7_at at hf
  refine ab_enter (ls := [(0, .ref a0), (1, .int a1), (2, .int a2), (3, .int a3)]) (by decide +kernel) rfl (Nat.le_of_ble_eq_true rfl) rfl ?_
  refine ab_iload_n (pc' := 1) (q := 1) dX7_at_0 rfl rfl rfl ?_
  obtain ⟨x1, ex1, hf⟩ := ab_bd hf
  refine ab_callS (pc' := 4) (Mc := mX7_isDisk) (as := [.int a1]) (st := []) dX7_at_1 ml_X7_97 okX7_isDisk ss_X7_isDisk rfl (by decide) (Nat.le_of_ble_eq_true rfl) (Nat.le_of_ble_eq_true rfl) (Nat.le_of_ble_eq_true rfl) rfl rfl (kX7_isDisk ex1 ?_)
  show ab_Ev l g mX7_at 5 0 0 4 [(0, .ref a0), (1, .int a1), (2, .int a2), (3, .int a3)] [.int x1] h 0 0 K
  refine ab_if_ne (pc' := 7) (tgt := 9) dX7_at_4 (by decide) rfl (fun c2 => ?_) (fun c2 => ?_)
  · have hf := ab_iN c2 hf
    refine ab_iload_n (pc' := 10) (q := 2) dX7_at_9 rfl rfl rfl ?_
    refine ab_iconst (pc' := 11) (v := 0) dX7_at_10 (by decide) rfl ?_
    refine ab_aload_n (pc' := 12) (q := 0) dX7_at_11 rfl rfl rfl ?_
    obtain ⟨x3, ex3, hf⟩ := ab_bd hf
    refine ab_getI (pc' := 15) (ci := 7) (k := 9) dX7_at_12 rfl (by decide) fl_X7_34 ex3 rfl ?_
    refine ab_iconst (pc' := 16) (v := 1) dX7_at_15 (by decide) rfl ?_
    refine ab_isub (pc' := 17) dX7_at_16 rfl ?_
    obtain ⟨x4, ex4, hf⟩ := ab_bd hf
    refine ab_callS (pc' := 20) (Mc := mX7_in) (as := [.int a2, .int 0, .int (x3 - 1)]) (st := []) dX7_at_17 ml_X7_90 okX7_in ss_X7_in rfl (by decide) (Nat.le_of_ble_eq_true rfl) (Nat.le_of_ble_eq_true rfl) (Nat.le_of_ble_eq_true rfl) rfl rfl (kX7_in ex4 ?_)
    show ab_Ev l g mX7_at 5 0 0 20 [(0, .ref a0), (1, .int a1), (2, .int a2), (3, .int a3)] [.int x4] h 0 0 K
    refine ab_if_eq (pc' := 23) (tgt := 32) dX7_at_20 (by decide) rfl (fun c5 => ?_) (fun c5 => ?_)
    · have hf := ab_ip c5 hf
      refine ab_drop (ls' := []) [] rfl ?_
      exact kbX7_at_32 hf hK
    · have hf := ab_iN c5 hf
      refine ab_iload_n (pc' := 24) (q := 3) dX7_at_23 rfl rfl rfl ?_
      refine ab_iconst (pc' := 25) (v := 0) dX7_at_24 (by decide) rfl ?_
      refine ab_iconst (pc' := 26) (v := 2) dX7_at_25 (by decide) rfl ?_
      obtain ⟨x6, ex6, hf⟩ := ab_bd hf
      refine ab_callS (pc' := 29) (Mc := mX7_in) (as := [.int a3, .int 0, .int 2]) (st := []) dX7_at_26 ml_X7_90 okX7_in ss_X7_in rfl (by decide) (Nat.le_of_ble_eq_true rfl) (Nat.le_of_ble_eq_true rfl) (Nat.le_of_ble_eq_true rfl) rfl rfl (kX7_in ex6 ?_)
      show ab_Ev l g mX7_at 5 0 0 29 [(0, .ref a0), (1, .int a1), (2, .int a2), (3, .int a3)] [.int x6] h 0 0 K
      refine ab_if_ne (pc' := 32) (tgt := 35) dX7_at_29 (by decide) rfl (fun c7 => ?_) (fun c7 => ?_)
      · have hf := ab_iN c7 hf
        refine ab_aload_n (pc' := 36) (q := 0) dX7_at_35 rfl rfl rfl ?_
        refine ab_iload_n (pc' := 37) (q := 2) dX7_at_36 rfl rfl rfl ?_
        obtain ⟨u8, eu8, hf⟩ := ab_bd hf
        obtain ⟨h9, eh9, hf⟩ := ab_bd hf
        refine ab_callV (pc' := 40) (Mc := mX7_run) (as := [.int a2]) (st := []) dX7_at_37 ml_X7_143 okX7_run im_X7_run se_X7_run rfl eu8 rfl (by decide) (Nat.le_of_ble_eq_true rfl) (Nat.le_of_ble_eq_true rfl) (Nat.le_of_ble_eq_true rfl) rfl rfl (kX7_run eh9 ?_)
        show ab_Ev l g mX7_at 5 0 0 40 [(0, .ref a0), (1, .int a1), (2, .int a2), (3, .int a3)] [] h9 0 0 K
        refine ab_aload_n (pc' := 41) (q := 0) dX7_at_40 rfl rfl rfl ?_
        obtain ⟨r10, er10, hf⟩ := ab_bd hf
        refine ab_getR (pc' := 44) (ci := 7) (k := 24) dX7_at_41 rfl (by decide) fl_X7_71 er10 rfl ?_
        refine ab_iconst (pc' := 45) (v := 3) dX7_at_44 (by decide) rfl ?_
        refine ab_iload_n (pc' := 46) (q := 1) dX7_at_45 rfl rfl rfl ?_
        refine ab_imul (pc' := 47) dX7_at_46 rfl ?_
        refine ab_iload_n (pc' := 48) (q := 3) dX7_at_47 rfl rfl rfl ?_
        refine ab_iadd (pc' := 49) dX7_at_48 rfl ?_
        obtain ⟨x11, ex11, hf⟩ := ab_bd hf
        refine ab_iald (pc' := 50) dX7_at_49 ex11 rfl ?_
        have hf := Option.some.inj hf
        subst hf
        exact ab_iret rfl dX7_at_50 hK
      · have hf := ab_ip c7 hf
        refine ab_drop (ls' := []) [] rfl ?_
        exact kbX7_at_32 hf hK
  · have hf := ab_ip c2 hf
    refine ab_iconst (pc' := 8) (v := (-1)) dX7_at_7 (by decide) rfl ?_
    have hf := Option.some.inj hf
    subst hf
    exact ab_iret rfl dX7_at_8 hK
-- DiskRestsModel.fate(I)I (mode W, depth 5)
def fX7_fate (h : ab_H) (a0 : Nat) (a1 : Int32) : Option (Int32 × ab_H) := (ab_ob h a0 7).bind (fun u1 => (fX7_isRequest h a0 a1).bind (fun x2 => if (x2 : Int32) = 0 then some ((-1), h) else (ab_ob h a0 7).bind (fun u4 => (fX7_run h a0 (-6)).bind (fun h5 => (ab_gR h5 a0 7 20).bind (fun r6 => (ab_aI h5 r6 a1).bind (fun x7 => some (x7, h5)))))))
set_option maxRecDepth 20000 in
set_option maxHeartbeats 1000000 in
theorem kX7_fate {l : Launch} {g : ab_G} {K : ab_K} {h : ab_H} {a0 : Nat} {a1 : Int32} {r : (Int32 × ab_H)} (hf : fX7_fate h a0 a1 = some r) (hK : K (some (.int r.1)) r.2) : ab_S l g mX7_fate 5 0 0 [.ref a0, .int a1] h K := by
  unfold fX7_fate at hf
  refine ab_enter (ls := [(0, .ref a0), (1, .int a1)]) (by decide +kernel) rfl (Nat.le_of_ble_eq_true rfl) rfl ?_
  refine ab_aload_n (pc' := 1) (q := 0) dX7_fate_0 rfl rfl rfl ?_
  refine ab_iload_n (pc' := 2) (q := 1) dX7_fate_1 rfl rfl rfl ?_
  obtain ⟨u1, eu1, hf⟩ := ab_bd hf
  obtain ⟨x2, ex2, hf⟩ := ab_bd hf
  refine ab_callV (pc' := 5) (Mc := mX7_isRequest) (as := [.int a1]) (st := []) dX7_fate_2 ml_X7_105 okX7_isRequest im_X7_isRequest se_X7_isRequest rfl eu1 rfl (by decide) (Nat.le_of_ble_eq_true rfl) (Nat.le_of_ble_eq_true rfl) (Nat.le_of_ble_eq_true rfl) rfl rfl (kX7_isRequest ex2 ?_)
  show ab_Ev l g mX7_fate 5 0 0 5 [(0, .ref a0), (1, .int a1)] [.int x2] h 0 0 K
  refine ab_if_ne (pc' := 8) (tgt := 10) dX7_fate_5 (by decide) rfl (fun c3 => ?_) (fun c3 => ?_)
  · have hf := ab_iN c3 hf
    refine ab_aload_n (pc' := 11) (q := 0) dX7_fate_10 rfl rfl rfl ?_
    refine ab_bipush (pc' := 13) (v := (-6)) dX7_fate_11 (by decide) rfl ?_
    obtain ⟨u4, eu4, hf⟩ := ab_bd hf
    obtain ⟨h5, eh5, hf⟩ := ab_bd hf
    refine ab_callV (pc' := 16) (Mc := mX7_run) (as := [.int (-6)]) (st := []) dX7_fate_13 ml_X7_143 okX7_run im_X7_run se_X7_run rfl eu4 rfl (by decide) (Nat.le_of_ble_eq_true rfl) (Nat.le_of_ble_eq_true rfl) (Nat.le_of_ble_eq_true rfl) rfl rfl (kX7_run eh5 ?_)
    show ab_Ev l g mX7_fate 5 0 0 16 [(0, .ref a0), (1, .int a1)] [] h5 0 0 K
    refine ab_aload_n (pc' := 17) (q := 0) dX7_fate_16 rfl rfl rfl ?_
    obtain ⟨r6, er6, hf⟩ := ab_bd hf
    refine ab_getR (pc' := 20) (ci := 7) (k := 20) dX7_fate_17 rfl (by decide) fl_X7_65 er6 rfl ?_
    refine ab_iload_n (pc' := 21) (q := 1) dX7_fate_20 rfl rfl rfl ?_
    obtain ⟨x7, ex7, hf⟩ := ab_bd hf
    refine ab_iald (pc' := 22) dX7_fate_21 ex7 rfl ?_
    have hf := Option.some.inj hf
    subst hf
    exact ab_iret rfl dX7_fate_22 hK
  · have hf := ab_ip c3 hf
    refine ab_iconst (pc' := 9) (v := (-1)) dX7_fate_8 (by decide) rfl ?_
    have hf := Option.some.inj hf
    subst hf
    exact ab_iret rfl dX7_fate_9 hK
-- DiskRestsModel.waiting(I)I (mode W, depth 5)
def fX7_waiting (h : ab_H) (a0 : Nat) (a1 : Int32) : Option (Int32 × ab_H) := (ab_ob h a0 7).bind (fun u1 => (fX7_run h a0 (-6)).bind (fun h2 => (ab_gI h2 a0 7 22).bind (fun x3 => (fX7_in a1 0 (x3 - 1)).bind (fun x4 => if (x4 : Int32) = 0 then some ((-6), h2) else (ab_gR h2 a0 7 21).bind (fun r6 => (ab_aI h2 r6 a1).bind (fun x7 => some (x7, h2)))))))
set_option maxRecDepth 20000 in
set_option maxHeartbeats 1000000 in
theorem kX7_waiting {l : Launch} {g : ab_G} {K : ab_K} {h : ab_H} {a0 : Nat} {a1 : Int32} {r : (Int32 × ab_H)} (hf : fX7_waiting h a0 a1 = some r) (hK : K (some (.int r.1)) r.2) : ab_S l g mX7_waiting 5 0 0 [.ref a0, .int a1] h K := by
  unfold fX7_waiting at hf
  refine ab_enter (ls := [(0, .ref a0), (1, .int a1)]) (by decide +kernel) rfl (Nat.le_of_ble_eq_true rfl) rfl ?_
  refine ab_aload_n (pc' := 1) (q := 0) dX7_waiting_0 rfl rfl rfl ?_
  refine ab_bipush (pc' := 3) (v := (-6)) dX7_waiting_1 (by decide) rfl ?_
  obtain ⟨u1, eu1, hf⟩ := ab_bd hf
  obtain ⟨h2, eh2, hf⟩ := ab_bd hf
  refine ab_callV (pc' := 6) (Mc := mX7_run) (as := [.int (-6)]) (st := []) dX7_waiting_3 ml_X7_143 okX7_run im_X7_run se_X7_run rfl eu1 rfl (by decide) (Nat.le_of_ble_eq_true rfl) (Nat.le_of_ble_eq_true rfl) (Nat.le_of_ble_eq_true rfl) rfl rfl (kX7_run eh2 ?_)
  show ab_Ev l g mX7_waiting 5 0 0 6 [(0, .ref a0), (1, .int a1)] [] h2 0 0 K
  refine ab_iload_n (pc' := 7) (q := 1) dX7_waiting_6 rfl rfl rfl ?_
  refine ab_iconst (pc' := 8) (v := 0) dX7_waiting_7 (by decide) rfl ?_
  refine ab_aload_n (pc' := 9) (q := 0) dX7_waiting_8 rfl rfl rfl ?_
  obtain ⟨x3, ex3, hf⟩ := ab_bd hf
  refine ab_getI (pc' := 12) (ci := 7) (k := 22) dX7_waiting_9 rfl (by decide) fl_X7_121 ex3 rfl ?_
  refine ab_iconst (pc' := 13) (v := 1) dX7_waiting_12 (by decide) rfl ?_
  refine ab_isub (pc' := 14) dX7_waiting_13 rfl ?_
  obtain ⟨x4, ex4, hf⟩ := ab_bd hf
  refine ab_callS (pc' := 17) (Mc := mX7_in) (as := [.int a1, .int 0, .int (x3 - 1)]) (st := []) dX7_waiting_14 ml_X7_90 okX7_in ss_X7_in rfl (by decide) (Nat.le_of_ble_eq_true rfl) (Nat.le_of_ble_eq_true rfl) (Nat.le_of_ble_eq_true rfl) rfl rfl (kX7_in ex4 ?_)
  show ab_Ev l g mX7_waiting 5 0 0 17 [(0, .ref a0), (1, .int a1)] [.int x4] h2 0 0 K
  refine ab_if_eq (pc' := 20) (tgt := 29) dX7_waiting_17 (by decide) rfl (fun c5 => ?_) (fun c5 => ?_)
  · have hf := ab_ip c5 hf
    refine ab_bipush (pc' := 31) (v := (-6)) dX7_waiting_29 (by decide) rfl ?_
    have hf := Option.some.inj hf
    subst hf
    exact ab_iret rfl dX7_waiting_31 hK
  · have hf := ab_iN c5 hf
    refine ab_aload_n (pc' := 21) (q := 0) dX7_waiting_20 rfl rfl rfl ?_
    obtain ⟨r6, er6, hf⟩ := ab_bd hf
    refine ab_getR (pc' := 24) (ci := 7) (k := 21) dX7_waiting_21 rfl (by decide) fl_X7_68 er6 rfl ?_
    refine ab_iload_n (pc' := 25) (q := 1) dX7_waiting_24 rfl rfl rfl ?_
    obtain ⟨x7, ex7, hf⟩ := ab_bd hf
    refine ab_iald (pc' := 26) dX7_waiting_25 ex7 rfl ?_
    refine ab_goto (tgt := 31) dX7_waiting_26 (by decide) ?_
    have hf := Option.some.inj hf
    subst hf
    exact ab_iret rfl dX7_waiting_31 hK
-- DiskRestsModel.nextAsked(II)I (mode R, depth 0)
def bX7_nextAsked_61 (rec : Int32 → Int32 → Option Int32) (v0 : Nat) (v1 : Int32) (v2 : Int32) (v4 : Int32) (s0 : Int32) (h : ab_H) : Option Int32 := rec s0 (v4 + 1)
set_option maxRecDepth 20000 in
set_option maxHeartbeats 1000000 in
theorem kbX7_nextAsked_61 {l : Launch} {g : ab_G} {K : ab_K} {h : ab_H} {s0 : Int32} {v0 : Nat} {v1 : Int32} {v2 : Int32} {v4 : Int32} {q : Int32} {rec : Int32 → Int32 → Option Int32} (ih : ∀ (w3 : Int32) (w4 : Int32), rec w3 w4 = some q → ab_Ev l g mX7_nextAsked 0 0 0 8 [(0, .ref v0), (1, .int v1), (2, .int v2), (3, .int w3), (4, .int w4)] [] h 0 0 K) (hx : ab_Ev l g mX7_nextAsked 0 0 0 68 [(3, .int q)] [] h 0 0 K) (hf : bX7_nextAsked_61 rec v0 v1 v2 v4 s0 h = some q) : ab_Ev l g mX7_nextAsked 0 0 0 61 [(0, .ref v0), (1, .int v1), (2, .int v2), (4, .int v4)] [.int s0] h 0 0 K := by
  unfold bX7_nextAsked_61 at hf
  refine ab_istore_n (pc' := 62) (ls' := [(3, .int s0), (0, .ref v0), (1, .int v1), (2, .int v2), (4, .int v4)]) dX7_nextAsked_61 rfl (by decide) rfl rfl ?_
  refine ab_iinc (pc' := 65) (q := 4) (v := (v4 + 1)) (ls' := [(4, .int (v4 + 1)), (3, .int s0), (0, .ref v0), (1, .int v1), (2, .int v2)]) dX7_nextAsked_62 rfl rfl (by decide) rfl rfl ?_
  refine ab_goto (tgt := 8) dX7_nextAsked_65 (by decide) ?_
  refine ab_drop (ls' := [(0, .ref v0), (1, .int v1), (2, .int v2), (3, .int s0), (4, .int (v4 + 1))]) [2, 3, 4, 1, 0] rfl ?_
  exact ih _ _ hf
def bX7_nextAsked_60 (rec : Int32 → Int32 → Option Int32) (v0 : Nat) (v1 : Int32) (v2 : Int32) (v3 : Int32) (v4 : Int32) (h : ab_H) : Option Int32 := bX7_nextAsked_61 rec v0 v1 v2 v4 v3 h
set_option maxRecDepth 20000 in
set_option maxHeartbeats 1000000 in
theorem kbX7_nextAsked_60 {l : Launch} {g : ab_G} {K : ab_K} {h : ab_H} {v0 : Nat} {v1 : Int32} {v2 : Int32} {v3 : Int32} {v4 : Int32} {q : Int32} {rec : Int32 → Int32 → Option Int32} (ih : ∀ (w3 : Int32) (w4 : Int32), rec w3 w4 = some q → ab_Ev l g mX7_nextAsked 0 0 0 8 [(0, .ref v0), (1, .int v1), (2, .int v2), (3, .int w3), (4, .int w4)] [] h 0 0 K) (hx : ab_Ev l g mX7_nextAsked 0 0 0 68 [(3, .int q)] [] h 0 0 K) (hf : bX7_nextAsked_60 rec v0 v1 v2 v3 v4 h = some q) : ab_Ev l g mX7_nextAsked 0 0 0 60 [(0, .ref v0), (1, .int v1), (2, .int v2), (3, .int v3), (4, .int v4)] [] h 0 0 K := by
  unfold bX7_nextAsked_60 at hf
  refine ab_iload_n (pc' := 61) (q := 3) dX7_nextAsked_60 rfl rfl rfl ?_
  refine ab_drop (ls' := [(0, .ref v0), (1, .int v1), (2, .int v2), (4, .int v4)]) [0, 1, 2, 4] rfl ?_
  exact kbX7_nextAsked_61 ih hx hf
def lX7_nextAsked_8 (h : ab_H) (v0 : Nat) (v1 : Int32) (v2 : Int32) : Nat → Int32 → Int32 → Option Int32
  | 0, _, _ => none
  | n + 1, v3, v4 => (ab_gI h v0 7 5).bind (fun x2 => if x2 ≤ (v4 : Int32) then some v3 else (ab_gR h v0 7 7).bind (fun r4 => (ab_aI h r4 v4).bind (fun x5 => if (x5 : Int32) = v1 then (ab_gR h v0 7 6).bind (fun r7 => (ab_aI h r7 v4).bind (fun x8 => if (x8 : Int32) ≤ v2 then bX7_nextAsked_60 (lX7_nextAsked_8 h v0 v1 v2 n) v0 v1 v2 v3 v4 h else (ab_gR h v0 7 6).bind (fun r10 => (ab_aI h r10 v4).bind (fun x11 => if v3 ≤ (x11 : Int32) then bX7_nextAsked_60 (lX7_nextAsked_8 h v0 v1 v2 n) v0 v1 v2 v3 v4 h else (ab_gR h v0 7 6).bind (fun r13 => (ab_aI h r13 v4).bind (fun x14 => bX7_nextAsked_61 (lX7_nextAsked_8 h v0 v1 v2 n) v0 v1 v2 v4 x14 h)))))) else bX7_nextAsked_60 (lX7_nextAsked_8 h v0 v1 v2 n) v0 v1 v2 v3 v4 h)))
set_option maxRecDepth 20000 in
set_option maxHeartbeats 1000000 in
theorem klX7_nextAsked_8 {l : Launch} {g : ab_G} {K : ab_K} {h : ab_H} {v0 : Nat} {v1 : Int32} {v2 : Int32} {q : Int32} (hx : ab_Ev l g mX7_nextAsked 0 0 0 68 [(3, .int q)] [] h 0 0 K) : ∀ (n : Nat) (v3 : Int32) (v4 : Int32), lX7_nextAsked_8 h v0 v1 v2 n v3 v4 = some q → ab_Ev l g mX7_nextAsked 0 0 0 8 [(0, .ref v0), (1, .int v1), (2, .int v2), (3, .int v3), (4, .int v4)] [] h 0 0 K := by
  intro n
  induction n with
  | zero => intro v3 v4 hf; cases (show (none : Option Int32) = some q from hf)
  | succ n ih =>
    intro v3 v4 hf
    rw [lX7_nextAsked_8] at hf
    refine ab_iload (pc' := 10) (q := 4) dX7_nextAsked_8 rfl rfl ?_
    refine ab_aload_n (pc' := 11) (q := 0) dX7_nextAsked_10 rfl rfl rfl ?_
    obtain ⟨x2, ex2, hf⟩ := ab_bd hf
    refine ab_getI (pc' := 14) (ci := 7) (k := 5) dX7_nextAsked_11 rfl (by decide) fl_X7_94 ex2 rfl ?_
    refine ab_icmp_ge (pc' := 17) (tgt := 68) dX7_nextAsked_14 (by decide) rfl (fun c3 => ?_) (fun c3 => ?_)
    · have hf := ab_ip c3 hf
      have hf := Option.some.inj hf
      subst hf
      refine ab_drop (ls' := [(3, .int v3)]) [3] rfl ?_
      exact hx
    · have hf := ab_iN c3 hf
      refine ab_aload_n (pc' := 18) (q := 0) dX7_nextAsked_17 rfl rfl rfl ?_
      obtain ⟨r4, er4, hf⟩ := ab_bd hf
      refine ab_getR (pc' := 21) (ci := 7) (k := 7) dX7_nextAsked_18 rfl (by decide) fl_X7_28 er4 rfl ?_
      refine ab_iload (pc' := 23) (q := 4) dX7_nextAsked_21 rfl rfl ?_
      obtain ⟨x5, ex5, hf⟩ := ab_bd hf
      refine ab_iald (pc' := 24) dX7_nextAsked_23 ex5 rfl ?_
      refine ab_iload_n (pc' := 25) (q := 1) dX7_nextAsked_24 rfl rfl rfl ?_
      refine ab_icmp_ne (pc' := 28) (tgt := 60) dX7_nextAsked_25 (by decide) rfl (fun c6 => ?_) (fun c6 => ?_)
      · have hf := ab_iN c6 hf
        exact kbX7_nextAsked_60 ih hx hf
      · have hf := ab_ip c6 hf
        refine ab_aload_n (pc' := 29) (q := 0) dX7_nextAsked_28 rfl rfl rfl ?_
        obtain ⟨r7, er7, hf⟩ := ab_bd hf
        refine ab_getR (pc' := 32) (ci := 7) (k := 6) dX7_nextAsked_29 rfl (by decide) fl_X7_25 er7 rfl ?_
        refine ab_iload (pc' := 34) (q := 4) dX7_nextAsked_32 rfl rfl ?_
        obtain ⟨x8, ex8, hf⟩ := ab_bd hf
        refine ab_iald (pc' := 35) dX7_nextAsked_34 ex8 rfl ?_
        refine ab_iload_n (pc' := 36) (q := 2) dX7_nextAsked_35 rfl rfl rfl ?_
        refine ab_icmp_le (pc' := 39) (tgt := 60) dX7_nextAsked_36 (by decide) rfl (fun c9 => ?_) (fun c9 => ?_)
        · have hf := ab_ip c9 hf
          exact kbX7_nextAsked_60 ih hx hf
        · have hf := ab_iN c9 hf
          refine ab_aload_n (pc' := 40) (q := 0) dX7_nextAsked_39 rfl rfl rfl ?_
          obtain ⟨r10, er10, hf⟩ := ab_bd hf
          refine ab_getR (pc' := 43) (ci := 7) (k := 6) dX7_nextAsked_40 rfl (by decide) fl_X7_25 er10 rfl ?_
          refine ab_iload (pc' := 45) (q := 4) dX7_nextAsked_43 rfl rfl ?_
          obtain ⟨x11, ex11, hf⟩ := ab_bd hf
          refine ab_iald (pc' := 46) dX7_nextAsked_45 ex11 rfl ?_
          refine ab_iload_n (pc' := 47) (q := 3) dX7_nextAsked_46 rfl rfl rfl ?_
          refine ab_icmp_ge (pc' := 50) (tgt := 60) dX7_nextAsked_47 (by decide) rfl (fun c12 => ?_) (fun c12 => ?_)
          · have hf := ab_ip c12 hf
            exact kbX7_nextAsked_60 ih hx hf
          · have hf := ab_iN c12 hf
            refine ab_aload_n (pc' := 51) (q := 0) dX7_nextAsked_50 rfl rfl rfl ?_
            obtain ⟨r13, er13, hf⟩ := ab_bd hf
            refine ab_getR (pc' := 54) (ci := 7) (k := 6) dX7_nextAsked_51 rfl (by decide) fl_X7_25 er13 rfl ?_
            refine ab_iload (pc' := 56) (q := 4) dX7_nextAsked_54 rfl rfl ?_
            obtain ⟨x14, ex14, hf⟩ := ab_bd hf
            refine ab_iald (pc' := 57) dX7_nextAsked_56 ex14 rfl ?_
            refine ab_goto (tgt := 61) dX7_nextAsked_57 (by decide) ?_
            refine ab_drop (ls' := [(0, .ref v0), (1, .int v1), (2, .int v2), (4, .int v4)]) [0, 1, 2, 4] rfl ?_
            exact kbX7_nextAsked_61 ih hx hf
def fX7_nextAsked (h : ab_H) (a0 : Nat) (a1 : Int32) (a2 : Int32) : Option Int32 := (ab_gI h a0 7 9).bind (fun x1 => (lX7_nextAsked_8 h a0 a1 a2 ab_fu x1 0).bind (fun q15 => some q15))
set_option maxRecDepth 20000 in
set_option maxHeartbeats 1000000 in
theorem kX7_nextAsked {l : Launch} {g : ab_G} {K : ab_K} {h : ab_H} {a0 : Nat} {a1 : Int32} {a2 : Int32} {r : Int32} (hf : fX7_nextAsked h a0 a1 a2 = some r) (hK : K (some (.int r)) h) : ab_S l g mX7_nextAsked 0 0 0 [.ref a0, .int a1, .int a2] h K := by
  unfold fX7_nextAsked at hf
  refine ab_enter (ls := [(0, .ref a0), (1, .int a1), (2, .int a2)]) (by decide +kernel) rfl (Nat.le_of_ble_eq_true rfl) rfl ?_
  refine ab_aload_n (pc' := 1) (q := 0) dX7_nextAsked_0 rfl rfl rfl ?_
  obtain ⟨x1, ex1, hf⟩ := ab_bd hf
  refine ab_getI (pc' := 4) (ci := 7) (k := 9) dX7_nextAsked_1 rfl (by decide) fl_X7_34 ex1 rfl ?_
  refine ab_istore_n (pc' := 5) (ls' := [(3, .int x1), (0, .ref a0), (1, .int a1), (2, .int a2)]) dX7_nextAsked_4 rfl (by decide) rfl rfl ?_
  refine ab_iconst (pc' := 6) (v := 0) dX7_nextAsked_5 (by decide) rfl ?_
  refine ab_istore (pc' := 8) (ls' := [(4, .int 0), (3, .int x1), (0, .ref a0), (1, .int a1), (2, .int a2)]) dX7_nextAsked_6 (by decide) rfl rfl ?_
  refine ab_drop (ls' := [(0, .ref a0), (1, .int a1), (2, .int a2), (3, .int x1), (4, .int 0)]) [2, 3, 4, 1, 0] rfl ?_
  obtain ⟨q15, eq15, hf⟩ := ab_bd hf
  refine klX7_nextAsked_8 ?_ ab_fu _ _ eq15
  refine ab_iload_n (pc' := 69) (q := 0) dX7_nextAsked_68 rfl rfl rfl ?_
  have hf := Option.some.inj hf
  subst hf
  exact ab_iret rfl dX7_nextAsked_69 hK
-- DiskRestsModel.layGaps(I)V (mode W, depth 1)
def lX7_layGaps_7 (v0 : Nat) (v1 : Int32) : Nat → Int32 → ab_H → Option ab_H
  | 0, _, _ => none
  | n + 1, v2, h => (ab_gI h v0 7 9).bind (fun x2 => if x2 ≤ (v2 : Int32) then some h else (ab_gR h v0 7 25).bind (fun r4 => (ab_gI h v0 7 27).bind (fun x5 => (ab_sI h r4 x5 v2).bind (fun h6 => (ab_gR h6 v0 7 26).bind (fun r7 => (ab_gI h6 v0 7 27).bind (fun x8 => (ab_ob h6 v0 7).bind (fun u9 => (fX7_nextAsked h6 v0 v1 v2).bind (fun x10 => (ab_sI h6 r7 x8 x10).bind (fun h11 => (ab_gR h11 v0 7 26).bind (fun r12 => (ab_gI h11 v0 7 27).bind (fun x13 => (ab_aI h11 r12 x13).bind (fun x14 => (ab_gI h11 v0 7 27).bind (fun x15 => (ab_pV h11 v0 7 27 (.int (x15 + 1))).bind (fun h16 => lX7_layGaps_7 v0 v1 n x14 h16))))))))))))))
set_option maxRecDepth 20000 in
set_option maxHeartbeats 1000000 in
theorem klX7_layGaps_7 {l : Launch} {g : ab_G} {K : ab_K} {v0 : Nat} {v1 : Int32} {q : ab_H} (hx : ab_Ev l g mX7_layGaps 1 0 0 63 [] [] q 0 0 K) : ∀ (n : Nat) (v2 : Int32) (h : ab_H), lX7_layGaps_7 v0 v1 n v2 h = some q → ab_Ev l g mX7_layGaps 1 0 0 7 [(0, .ref v0), (1, .int v1), (2, .int v2)] [] h 0 0 K := by
  intro n
  induction n with
  | zero => intro v2 h hf; cases (show (none : Option ab_H) = some q from hf)
  | succ n ih =>
    intro v2 h hf
    rw [lX7_layGaps_7] at hf
    refine ab_iload_n (pc' := 8) (q := 2) dX7_layGaps_7 rfl rfl rfl ?_
    refine ab_aload_n (pc' := 9) (q := 0) dX7_layGaps_8 rfl rfl rfl ?_
    obtain ⟨x2, ex2, hf⟩ := ab_bd hf
    refine ab_getI (pc' := 12) (ci := 7) (k := 9) dX7_layGaps_9 rfl (by decide) fl_X7_34 ex2 rfl ?_
    refine ab_icmp_ge (pc' := 15) (tgt := 63) dX7_layGaps_12 (by decide) rfl (fun c3 => ?_) (fun c3 => ?_)
    · have hf := ab_ip c3 hf
      have hf := Option.some.inj hf
      subst hf
      refine ab_drop (ls' := []) [] rfl ?_
      exact hx
    · have hf := ab_iN c3 hf
      refine ab_aload_n (pc' := 16) (q := 0) dX7_layGaps_15 rfl rfl rfl ?_
      obtain ⟨r4, er4, hf⟩ := ab_bd hf
      refine ab_getR (pc' := 19) (ci := 7) (k := 25) dX7_layGaps_16 rfl (by decide) fl_X7_74 er4 rfl ?_
      refine ab_aload_n (pc' := 20) (q := 0) dX7_layGaps_19 rfl rfl rfl ?_
      obtain ⟨x5, ex5, hf⟩ := ab_bd hf
      refine ab_getI (pc' := 23) (ci := 7) (k := 27) dX7_layGaps_20 rfl (by decide) fl_X7_150 ex5 rfl ?_
      refine ab_iload_n (pc' := 24) (q := 2) dX7_layGaps_23 rfl rfl rfl ?_
      obtain ⟨h6, eh6, hf⟩ := ab_bd hf
      refine ab_iast (pc' := 25) dX7_layGaps_24 eh6 rfl ?_
      refine ab_aload_n (pc' := 26) (q := 0) dX7_layGaps_25 rfl rfl rfl ?_
      obtain ⟨r7, er7, hf⟩ := ab_bd hf
      refine ab_getR (pc' := 29) (ci := 7) (k := 26) dX7_layGaps_26 rfl (by decide) fl_X7_77 er7 rfl ?_
      refine ab_aload_n (pc' := 30) (q := 0) dX7_layGaps_29 rfl rfl rfl ?_
      obtain ⟨x8, ex8, hf⟩ := ab_bd hf
      refine ab_getI (pc' := 33) (ci := 7) (k := 27) dX7_layGaps_30 rfl (by decide) fl_X7_150 ex8 rfl ?_
      refine ab_aload_n (pc' := 34) (q := 0) dX7_layGaps_33 rfl rfl rfl ?_
      refine ab_iload_n (pc' := 35) (q := 1) dX7_layGaps_34 rfl rfl rfl ?_
      refine ab_iload_n (pc' := 36) (q := 2) dX7_layGaps_35 rfl rfl rfl ?_
      obtain ⟨u9, eu9, hf⟩ := ab_bd hf
      obtain ⟨x10, ex10, hf⟩ := ab_bd hf
      refine ab_callV (pc' := 39) (Mc := mX7_nextAsked) (as := [.int v1, .int v2]) (st := [.int x8, .ref r7]) dX7_layGaps_36 ml_X7_153 okX7_nextAsked im_X7_nextAsked se_X7_nextAsked rfl eu9 rfl (by decide) (Nat.le_of_ble_eq_true rfl) (Nat.le_of_ble_eq_true rfl) (Nat.le_of_ble_eq_true rfl) rfl rfl (kX7_nextAsked ex10 ?_)
      show ab_Ev l g mX7_layGaps 1 0 0 39 [(0, .ref v0), (1, .int v1), (2, .int v2)] [.int x10, .int x8, .ref r7] h6 0 0 K
      obtain ⟨h11, eh11, hf⟩ := ab_bd hf
      refine ab_iast (pc' := 40) dX7_layGaps_39 eh11 rfl ?_
      refine ab_aload_n (pc' := 41) (q := 0) dX7_layGaps_40 rfl rfl rfl ?_
      obtain ⟨r12, er12, hf⟩ := ab_bd hf
      refine ab_getR (pc' := 44) (ci := 7) (k := 26) dX7_layGaps_41 rfl (by decide) fl_X7_77 er12 rfl ?_
      refine ab_aload_n (pc' := 45) (q := 0) dX7_layGaps_44 rfl rfl rfl ?_
      obtain ⟨x13, ex13, hf⟩ := ab_bd hf
      refine ab_getI (pc' := 48) (ci := 7) (k := 27) dX7_layGaps_45 rfl (by decide) fl_X7_150 ex13 rfl ?_
      obtain ⟨x14, ex14, hf⟩ := ab_bd hf
      refine ab_iald (pc' := 49) dX7_layGaps_48 ex14 rfl ?_
      refine ab_istore_n (pc' := 50) (ls' := [(2, .int x14), (0, .ref v0), (1, .int v1)]) dX7_layGaps_49 rfl (by decide) rfl rfl ?_
      refine ab_aload_n (pc' := 51) (q := 1) dX7_layGaps_50 rfl rfl rfl ?_
      refine ab_dup_ref (pc' := 52) dX7_layGaps_51 rfl ?_
      obtain ⟨x15, ex15, hf⟩ := ab_bd hf
      refine ab_getI (pc' := 55) (ci := 7) (k := 27) dX7_layGaps_52 rfl (by decide) fl_X7_150 ex15 rfl ?_
      refine ab_iconst (pc' := 56) (v := 1) dX7_layGaps_55 (by decide) rfl ?_
      refine ab_iadd (pc' := 57) dX7_layGaps_56 rfl ?_
      obtain ⟨h16, eh16, hf⟩ := ab_bd hf
      refine ab_put (pc' := 60) (ci := 7) (k := 27) dX7_layGaps_57 rfl (by decide) fl_X7_150 rfl (tyX7_ok 27 (by decide)) rfl rfl eh16 rfl ?_
      refine ab_goto (tgt := 7) dX7_layGaps_60 (by decide) ?_
      refine ab_drop (ls' := [(0, .ref v0), (1, .int v1), (2, .int x14)]) [1, 2, 0] rfl ?_
      exact ih _ _ hf
def fX7_layGaps (h : ab_H) (a0 : Nat) (a1 : Int32) : Option ab_H := (ab_pV h a0 7 27 (.int 0)).bind (fun h1 => (lX7_layGaps_7 a0 a1 ab_fu 0 h1).bind (fun q17 => some q17))
set_option maxRecDepth 20000 in
set_option maxHeartbeats 1000000 in
theorem kX7_layGaps {l : Launch} {g : ab_G} {K : ab_K} {h : ab_H} {a0 : Nat} {a1 : Int32} {r : ab_H} (hf : fX7_layGaps h a0 a1 = some r) (hK : K none r) : ab_S l g mX7_layGaps 1 0 0 [.ref a0, .int a1] h K := by
  unfold fX7_layGaps at hf
  refine ab_enter (ls := [(0, .ref a0), (1, .int a1)]) (by decide +kernel) rfl (Nat.le_of_ble_eq_true rfl) rfl ?_
  refine ab_aload_n (pc' := 1) (q := 0) dX7_layGaps_0 rfl rfl rfl ?_
  refine ab_iconst (pc' := 2) (v := 0) dX7_layGaps_1 (by decide) rfl ?_
  obtain ⟨h1, eh1, hf⟩ := ab_bd hf
  refine ab_put (pc' := 5) (ci := 7) (k := 27) dX7_layGaps_2 rfl (by decide) fl_X7_150 rfl (tyX7_ok 27 (by decide)) rfl rfl eh1 rfl ?_
  refine ab_iconst (pc' := 6) (v := 0) dX7_layGaps_5 (by decide) rfl ?_
  refine ab_istore_n (pc' := 7) (ls' := [(2, .int 0), (0, .ref a0), (1, .int a1)]) dX7_layGaps_6 rfl (by decide) rfl rfl ?_
  refine ab_drop (ls' := [(0, .ref a0), (1, .int a1), (2, .int 0)]) [1, 2, 0] rfl ?_
  obtain ⟨q17, eq17, hf⟩ := ab_bd hf
  refine klX7_layGaps_7 ?_ ab_fu _ _ eq17
  have hf := Option.some.inj hf
  subst hf
  exact ab_vret rfl dX7_layGaps_63 hK
-- DiskRestsModel.leastToEnd(II)I (mode R, depth 0)
def bX7_leastToEnd_59 (rec : Int32 → Int32 → Option Int32) (v0 : Nat) (v1 : Int32) (v2 : Int32) (v4 : Int32) (s0 : Int32) (h : ab_H) : Option Int32 := rec s0 (v4 + 1)
set_option maxRecDepth 20000 in
set_option maxHeartbeats 1000000 in
theorem kbX7_leastToEnd_59 {l : Launch} {g : ab_G} {K : ab_K} {h : ab_H} {s0 : Int32} {v0 : Nat} {v1 : Int32} {v2 : Int32} {v4 : Int32} {q : Int32} {rec : Int32 → Int32 → Option Int32} (ih : ∀ (w3 : Int32) (w4 : Int32), rec w3 w4 = some q → ab_Ev l g mX7_leastToEnd 0 0 0 14 [(0, .ref v0), (1, .int v1), (2, .int v2), (3, .int w3), (4, .int w4)] [] h 0 0 K) (hx : ab_Ev l g mX7_leastToEnd 0 0 0 66 [(3, .int q)] [] h 0 0 K) (hf : bX7_leastToEnd_59 rec v0 v1 v2 v4 s0 h = some q) : ab_Ev l g mX7_leastToEnd 0 0 0 59 [(0, .ref v0), (1, .int v1), (2, .int v2), (4, .int v4)] [.int s0] h 0 0 K := by
  unfold bX7_leastToEnd_59 at hf
  refine ab_istore_n (pc' := 60) (ls' := [(3, .int s0), (0, .ref v0), (1, .int v1), (2, .int v2), (4, .int v4)]) dX7_leastToEnd_59 rfl (by decide) rfl rfl ?_
  refine ab_iinc (pc' := 63) (q := 4) (v := (v4 + 1)) (ls' := [(4, .int (v4 + 1)), (3, .int s0), (0, .ref v0), (1, .int v1), (2, .int v2)]) dX7_leastToEnd_60 rfl rfl (by decide) rfl rfl ?_
  refine ab_goto (tgt := 14) dX7_leastToEnd_63 (by decide) ?_
  refine ab_drop (ls' := [(0, .ref v0), (1, .int v1), (2, .int v2), (3, .int s0), (4, .int (v4 + 1))]) [2, 3, 4, 1, 0] rfl ?_
  exact ih _ _ hf
def lX7_leastToEnd_14 (h : ab_H) (v0 : Nat) (v1 : Int32) (v2 : Int32) : Nat → Int32 → Int32 → Option Int32
  | 0, _, _ => none
  | n + 1, v3, v4 => (ab_gR h v0 7 0).bind (fun r3 => (ab_aI h r3 v1).bind (fun x4 => if x4 < (v4 : Int32) then some v3 else (ab_gR h v0 7 1).bind (fun r6 => (ab_aI h r6 ((4 * v1) + v4)).bind (fun x7 => if v3 ≤ ((x7 * v2) : Int32) then bX7_leastToEnd_59 (lX7_leastToEnd_14 h v0 v1 v2 n) v0 v1 v2 v4 v3 h else (ab_gR h v0 7 1).bind (fun r9 => (ab_aI h r9 ((4 * v1) + v4)).bind (fun x10 => bX7_leastToEnd_59 (lX7_leastToEnd_14 h v0 v1 v2 n) v0 v1 v2 v4 (x10 * v2) h))))))
set_option maxRecDepth 20000 in
set_option maxHeartbeats 1000000 in
theorem klX7_leastToEnd_14 {l : Launch} {g : ab_G} {K : ab_K} {h : ab_H} {v0 : Nat} {v1 : Int32} {v2 : Int32} {q : Int32} (hx : ab_Ev l g mX7_leastToEnd 0 0 0 66 [(3, .int q)] [] h 0 0 K) : ∀ (n : Nat) (v3 : Int32) (v4 : Int32), lX7_leastToEnd_14 h v0 v1 v2 n v3 v4 = some q → ab_Ev l g mX7_leastToEnd 0 0 0 14 [(0, .ref v0), (1, .int v1), (2, .int v2), (3, .int v3), (4, .int v4)] [] h 0 0 K := by
  intro n
  induction n with
  | zero => intro v3 v4 hf; cases (show (none : Option Int32) = some q from hf)
  | succ n ih =>
    intro v3 v4 hf
    rw [lX7_leastToEnd_14] at hf
    refine ab_iload (pc' := 16) (q := 4) dX7_leastToEnd_14 rfl rfl ?_
    refine ab_aload_n (pc' := 17) (q := 0) dX7_leastToEnd_16 rfl rfl rfl ?_
    obtain ⟨r3, er3, hf⟩ := ab_bd hf
    refine ab_getR (pc' := 20) (ci := 7) (k := 0) dX7_leastToEnd_17 rfl (by decide) fl_X7_7 er3 rfl ?_
    refine ab_iload_n (pc' := 21) (q := 1) dX7_leastToEnd_20 rfl rfl rfl ?_
    obtain ⟨x4, ex4, hf⟩ := ab_bd hf
    refine ab_iald (pc' := 22) dX7_leastToEnd_21 ex4 rfl ?_
    refine ab_icmp_gt (pc' := 25) (tgt := 66) dX7_leastToEnd_22 (by decide) rfl (fun c5 => ?_) (fun c5 => ?_)
    · have hf := ab_ip c5 hf
      have hf := Option.some.inj hf
      subst hf
      refine ab_drop (ls' := [(3, .int v3)]) [3] rfl ?_
      exact hx
    · have hf := ab_iN c5 hf
      refine ab_aload_n (pc' := 26) (q := 0) dX7_leastToEnd_25 rfl rfl rfl ?_
      obtain ⟨r6, er6, hf⟩ := ab_bd hf
      refine ab_getR (pc' := 29) (ci := 7) (k := 1) dX7_leastToEnd_26 rfl (by decide) fl_X7_13 er6 rfl ?_
      refine ab_iconst (pc' := 30) (v := 4) dX7_leastToEnd_29 (by decide) rfl ?_
      refine ab_iload_n (pc' := 31) (q := 1) dX7_leastToEnd_30 rfl rfl rfl ?_
      refine ab_imul (pc' := 32) dX7_leastToEnd_31 rfl ?_
      refine ab_iload (pc' := 34) (q := 4) dX7_leastToEnd_32 rfl rfl ?_
      refine ab_iadd (pc' := 35) dX7_leastToEnd_34 rfl ?_
      obtain ⟨x7, ex7, hf⟩ := ab_bd hf
      refine ab_iald (pc' := 36) dX7_leastToEnd_35 ex7 rfl ?_
      refine ab_iload_n (pc' := 37) (q := 2) dX7_leastToEnd_36 rfl rfl rfl ?_
      refine ab_imul (pc' := 38) dX7_leastToEnd_37 rfl ?_
      refine ab_iload_n (pc' := 39) (q := 3) dX7_leastToEnd_38 rfl rfl rfl ?_
      refine ab_icmp_ge (pc' := 42) (tgt := 58) dX7_leastToEnd_39 (by decide) rfl (fun c8 => ?_) (fun c8 => ?_)
      · have hf := ab_ip c8 hf
        refine ab_iload_n (pc' := 59) (q := 3) dX7_leastToEnd_58 rfl rfl rfl ?_
        refine ab_drop (ls' := [(0, .ref v0), (1, .int v1), (2, .int v2), (4, .int v4)]) [0, 1, 2, 4] rfl ?_
        exact kbX7_leastToEnd_59 ih hx hf
      · have hf := ab_iN c8 hf
        refine ab_aload_n (pc' := 43) (q := 0) dX7_leastToEnd_42 rfl rfl rfl ?_
        obtain ⟨r9, er9, hf⟩ := ab_bd hf
        refine ab_getR (pc' := 46) (ci := 7) (k := 1) dX7_leastToEnd_43 rfl (by decide) fl_X7_13 er9 rfl ?_
        refine ab_iconst (pc' := 47) (v := 4) dX7_leastToEnd_46 (by decide) rfl ?_
        refine ab_iload_n (pc' := 48) (q := 1) dX7_leastToEnd_47 rfl rfl rfl ?_
        refine ab_imul (pc' := 49) dX7_leastToEnd_48 rfl ?_
        refine ab_iload (pc' := 51) (q := 4) dX7_leastToEnd_49 rfl rfl ?_
        refine ab_iadd (pc' := 52) dX7_leastToEnd_51 rfl ?_
        obtain ⟨x10, ex10, hf⟩ := ab_bd hf
        refine ab_iald (pc' := 53) dX7_leastToEnd_52 ex10 rfl ?_
        refine ab_iload_n (pc' := 54) (q := 2) dX7_leastToEnd_53 rfl rfl rfl ?_
        refine ab_imul (pc' := 55) dX7_leastToEnd_54 rfl ?_
        refine ab_goto (tgt := 59) dX7_leastToEnd_55 (by decide) ?_
        refine ab_drop (ls' := [(0, .ref v0), (1, .int v1), (2, .int v2), (4, .int v4)]) [0, 1, 2, 4] rfl ?_
        exact kbX7_leastToEnd_59 ih hx hf
def fX7_leastToEnd (h : ab_H) (a0 : Nat) (a1 : Int32) (a2 : Int32) : Option Int32 := (ab_gR h a0 7 1).bind (fun r1 => (ab_aI h r1 (4 * a1)).bind (fun x2 => (lX7_leastToEnd_14 h a0 a1 a2 ab_fu (x2 * a2) 1).bind (fun q11 => some q11)))
set_option maxRecDepth 20000 in
set_option maxHeartbeats 1000000 in
theorem kX7_leastToEnd {l : Launch} {g : ab_G} {K : ab_K} {h : ab_H} {a0 : Nat} {a1 : Int32} {a2 : Int32} {r : Int32} (hf : fX7_leastToEnd h a0 a1 a2 = some r) (hK : K (some (.int r)) h) : ab_S l g mX7_leastToEnd 0 0 0 [.ref a0, .int a1, .int a2] h K := by
  unfold fX7_leastToEnd at hf
  refine ab_enter (ls := [(0, .ref a0), (1, .int a1), (2, .int a2)]) (by decide +kernel) rfl (Nat.le_of_ble_eq_true rfl) rfl ?_
  refine ab_aload_n (pc' := 1) (q := 0) dX7_leastToEnd_0 rfl rfl rfl ?_
  obtain ⟨r1, er1, hf⟩ := ab_bd hf
  refine ab_getR (pc' := 4) (ci := 7) (k := 1) dX7_leastToEnd_1 rfl (by decide) fl_X7_13 er1 rfl ?_
  refine ab_iconst (pc' := 5) (v := 4) dX7_leastToEnd_4 (by decide) rfl ?_
  refine ab_iload_n (pc' := 6) (q := 1) dX7_leastToEnd_5 rfl rfl rfl ?_
  refine ab_imul (pc' := 7) dX7_leastToEnd_6 rfl ?_
  obtain ⟨x2, ex2, hf⟩ := ab_bd hf
  refine ab_iald (pc' := 8) dX7_leastToEnd_7 ex2 rfl ?_
  refine ab_iload_n (pc' := 9) (q := 2) dX7_leastToEnd_8 rfl rfl rfl ?_
  refine ab_imul (pc' := 10) dX7_leastToEnd_9 rfl ?_
  refine ab_istore_n (pc' := 11) (ls' := [(3, .int (x2 * a2)), (0, .ref a0), (1, .int a1), (2, .int a2)]) dX7_leastToEnd_10 rfl (by decide) rfl rfl ?_
  refine ab_iconst (pc' := 12) (v := 1) dX7_leastToEnd_11 (by decide) rfl ?_
  refine ab_istore (pc' := 14) (ls' := [(4, .int 1), (3, .int (x2 * a2)), (0, .ref a0), (1, .int a1), (2, .int a2)]) dX7_leastToEnd_12 (by decide) rfl rfl ?_
  refine ab_drop (ls' := [(0, .ref a0), (1, .int a1), (2, .int a2), (3, .int (x2 * a2)), (4, .int 1)]) [2, 3, 4, 1, 0] rfl ?_
  obtain ⟨q11, eq11, hf⟩ := ab_bd hf
  refine klX7_leastToEnd_14 ?_ ab_fu _ _ eq11
  refine ab_iload_n (pc' := 67) (q := 0) dX7_leastToEnd_66 rfl rfl rfl ?_
  have hf := Option.some.inj hf
  subst hf
  exact ab_iret rfl dX7_leastToEnd_67 hK
-- DiskRestsModel.leastOf(II)I (mode R, depth 3)
def fX7_leastOf (h : ab_H) (a0 : Nat) (a1 : Int32) (a2 : Int32) : Option Int32 := (ab_ob h a0 7).bind (fun u1 => (fX7_bestFor h a0 a1 a2).bind (fun x2 => (ab_ob h a0 7).bind (fun u3 => (fX7_costWith h a0 a1 x2 a2).bind (fun x4 => some x4))))
set_option maxRecDepth 20000 in
set_option maxHeartbeats 1000000 in
theorem kX7_leastOf {l : Launch} {g : ab_G} {K : ab_K} {h : ab_H} {a0 : Nat} {a1 : Int32} {a2 : Int32} {r : Int32} (hf : fX7_leastOf h a0 a1 a2 = some r) (hK : K (some (.int r)) h) : ab_S l g mX7_leastOf 3 0 0 [.ref a0, .int a1, .int a2] h K := by
  unfold fX7_leastOf at hf
  refine ab_enter (ls := [(0, .ref a0), (1, .int a1), (2, .int a2)]) (by decide +kernel) rfl (Nat.le_of_ble_eq_true rfl) rfl ?_
  refine ab_aload_n (pc' := 1) (q := 0) dX7_leastOf_0 rfl rfl rfl ?_
  refine ab_iload_n (pc' := 2) (q := 1) dX7_leastOf_1 rfl rfl rfl ?_
  refine ab_aload_n (pc' := 3) (q := 0) dX7_leastOf_2 rfl rfl rfl ?_
  refine ab_iload_n (pc' := 4) (q := 1) dX7_leastOf_3 rfl rfl rfl ?_
  refine ab_iload_n (pc' := 5) (q := 2) dX7_leastOf_4 rfl rfl rfl ?_
  obtain ⟨u1, eu1, hf⟩ := ab_bd hf
  obtain ⟨x2, ex2, hf⟩ := ab_bd hf
  refine ab_callV (pc' := 8) (Mc := mX7_bestFor) (as := [.int a1, .int a2]) (st := [.int a1, .ref a0]) dX7_leastOf_5 ml_X7_115 okX7_bestFor im_X7_bestFor se_X7_bestFor rfl eu1 rfl (by decide) (Nat.le_of_ble_eq_true rfl) (Nat.le_of_ble_eq_true rfl) (Nat.le_of_ble_eq_true rfl) rfl rfl (kX7_bestFor ex2 ?_)
  show ab_Ev l g mX7_leastOf 3 0 0 8 [(0, .ref a0), (1, .int a1), (2, .int a2)] [.int x2, .int a1, .ref a0] h 0 0 K
  refine ab_iload_n (pc' := 9) (q := 2) dX7_leastOf_8 rfl rfl rfl ?_
  obtain ⟨u3, eu3, hf⟩ := ab_bd hf
  obtain ⟨x4, ex4, hf⟩ := ab_bd hf
  refine ab_callV (pc' := 12) (Mc := mX7_costWith) (as := [.int a1, .int x2, .int a2]) (st := []) dX7_leastOf_9 ml_X7_111 okX7_costWith im_X7_costWith se_X7_costWith rfl eu3 rfl (by decide) (Nat.le_of_ble_eq_true rfl) (Nat.le_of_ble_eq_true rfl) (Nat.le_of_ble_eq_true rfl) rfl rfl (kX7_costWith ex4 ?_)
  show ab_Ev l g mX7_leastOf 3 0 0 12 [(0, .ref a0), (1, .int a1), (2, .int a2)] [.int x4] h 0 0 K
  have hf := Option.some.inj hf
  subst hf
  exact ab_iret rfl dX7_leastOf_12 hK
-- DiskRestsModel.least(II)I (mode W, depth 4)
def bX7_least_118 (rec : Int32 → Int32 → Int32 → Option (Int32 × Int32)) (v0 : Nat) (v1 : Int32) (v2 : Int32) (v3 : Int32) (v5 : Int32) (s1 : Int32) (s0 : Int32) (h : ab_H) : Option (Int32 × Int32) := rec v3 (s0 + s1) (v5 + 1)
set_option maxRecDepth 20000 in
set_option maxHeartbeats 1000000 in
theorem kbX7_least_118 {l : Launch} {g : ab_G} {K : ab_K} {h : ab_H} {s0 : Int32} {s1 : Int32} {v0 : Nat} {v1 : Int32} {v2 : Int32} {v3 : Int32} {v5 : Int32} {q : (Int32 × Int32)} {rec : Int32 → Int32 → Int32 → Option (Int32 × Int32)} (ih : ∀ (w3 : Int32) (w4 : Int32) (w5 : Int32), rec w3 w4 w5 = some q → ab_Ev l g mX7_least 4 0 0 34 [(0, .ref v0), (1, .int v1), (2, .int v2), (3, .int w3), (4, .int w4), (5, .int w5)] [] h 0 0 K) (hx : ab_Ev l g mX7_least 4 0 0 127 [(0, .ref v0), (2, .int v2), (3, .int q.1), (4, .int q.2)] [] h 0 0 K) (hf : bX7_least_118 rec v0 v1 v2 v3 v5 s1 s0 h = some q) : ab_Ev l g mX7_least 4 0 0 118 [(0, .ref v0), (1, .int v1), (2, .int v2), (3, .int v3), (5, .int v5)] [.int s1, .int s0] h 0 0 K := by
  unfold bX7_least_118 at hf
  refine ab_iadd (pc' := 119) dX7_least_118 rfl ?_
  refine ab_istore (pc' := 121) (ls' := [(4, .int (s0 + s1)), (0, .ref v0), (1, .int v1), (2, .int v2), (3, .int v3), (5, .int v5)]) dX7_least_119 (by decide) rfl rfl ?_
  refine ab_iinc (pc' := 124) (q := 5) (v := (v5 + 1)) (ls' := [(5, .int (v5 + 1)), (4, .int (s0 + s1)), (0, .ref v0), (1, .int v1), (2, .int v2), (3, .int v3)]) dX7_least_121 rfl rfl (by decide) rfl rfl ?_
  refine ab_goto (tgt := 34) dX7_least_124 (by decide) ?_
  refine ab_drop (ls' := [(0, .ref v0), (1, .int v1), (2, .int v2), (3, .int v3), (4, .int (s0 + s1)), (5, .int (v5 + 1))]) [2, 3, 4, 5, 1, 0] rfl ?_
  exact ih _ _ _ hf
def bX7_least_88 (rec : Int32 → Int32 → Int32 → Option (Int32 × Int32)) (v0 : Nat) (v1 : Int32) (v2 : Int32) (v3 : Int32) (v4 : Int32) (v5 : Int32) (v6 : Int32) (s0 : Int32) (h : ab_H) : Option (Int32 × Int32) := (ab_gR h v0 7 1).bind (fun r17 => (ab_aI h r17 (4 * v1)).bind (fun x18 => if (x18 * v6) ≤ (s0 : Int32) then bX7_least_118 rec v0 v1 v2 (v3 + s0) v5 0 v4 h else bX7_least_118 rec v0 v1 v2 (v3 + s0) v5 1 v4 h))
set_option maxRecDepth 20000 in
set_option maxHeartbeats 1000000 in
theorem kbX7_least_88 {l : Launch} {g : ab_G} {K : ab_K} {h : ab_H} {s0 : Int32} {v0 : Nat} {v1 : Int32} {v2 : Int32} {v3 : Int32} {v4 : Int32} {v5 : Int32} {v6 : Int32} {q : (Int32 × Int32)} {rec : Int32 → Int32 → Int32 → Option (Int32 × Int32)} (ih : ∀ (w3 : Int32) (w4 : Int32) (w5 : Int32), rec w3 w4 w5 = some q → ab_Ev l g mX7_least 4 0 0 34 [(0, .ref v0), (1, .int v1), (2, .int v2), (3, .int w3), (4, .int w4), (5, .int w5)] [] h 0 0 K) (hx : ab_Ev l g mX7_least 4 0 0 127 [(0, .ref v0), (2, .int v2), (3, .int q.1), (4, .int q.2)] [] h 0 0 K) (hf : bX7_least_88 rec v0 v1 v2 v3 v4 v5 v6 s0 h = some q) : ab_Ev l g mX7_least 4 0 0 88 [(0, .ref v0), (1, .int v1), (2, .int v2), (3, .int v3), (4, .int v4), (5, .int v5), (6, .int v6)] [.int s0] h 0 0 K := by
  unfold bX7_least_88 at hf
  refine ab_istore (pc' := 90) (ls' := [(7, .int s0), (0, .ref v0), (1, .int v1), (2, .int v2), (3, .int v3), (4, .int v4), (5, .int v5), (6, .int v6)]) dX7_least_88 (by decide) rfl rfl ?_
  refine ab_iload_n (pc' := 91) (q := 4) dX7_least_90 rfl rfl rfl ?_
  refine ab_iload (pc' := 93) (q := 0) dX7_least_91 rfl rfl ?_
  refine ab_iadd (pc' := 94) dX7_least_93 rfl ?_
  refine ab_istore_n (pc' := 95) (ls' := [(3, .int (v3 + s0)), (7, .int s0), (0, .ref v0), (1, .int v1), (2, .int v2), (4, .int v4), (5, .int v5), (6, .int v6)]) dX7_least_94 rfl (by decide) rfl rfl ?_
  refine ab_iload (pc' := 97) (q := 5) dX7_least_95 rfl rfl ?_
  refine ab_iload (pc' := 99) (q := 1) dX7_least_97 rfl rfl ?_
  refine ab_aload_n (pc' := 100) (q := 2) dX7_least_99 rfl rfl rfl ?_
  obtain ⟨r17, er17, hf⟩ := ab_bd hf
  refine ab_getR (pc' := 103) (ci := 7) (k := 1) dX7_least_100 rfl (by decide) fl_X7_13 er17 rfl ?_
  refine ab_iconst (pc' := 104) (v := 4) dX7_least_103 (by decide) rfl ?_
  refine ab_iload_n (pc' := 105) (q := 3) dX7_least_104 rfl rfl rfl ?_
  refine ab_imul (pc' := 106) dX7_least_105 rfl ?_
  obtain ⟨x18, ex18, hf⟩ := ab_bd hf
  refine ab_iald (pc' := 107) dX7_least_106 ex18 rfl ?_
  refine ab_iload (pc' := 109) (q := 7) dX7_least_107 rfl rfl ?_
  refine ab_imul (pc' := 110) dX7_least_109 rfl ?_
  refine ab_icmp_ge (pc' := 113) (tgt := 117) dX7_least_110 (by decide) rfl (fun c19 => ?_) (fun c19 => ?_)
  · have hf := ab_ip c19 hf
    refine ab_iconst (pc' := 118) (v := 0) dX7_least_117 (by decide) rfl ?_
    refine ab_drop (ls' := [(0, .ref v0), (1, .int v1), (2, .int v2), (3, .int (v3 + s0)), (5, .int v5)]) [2, 3, 4, 0, 6] rfl ?_
    exact kbX7_least_118 ih hx hf
  · have hf := ab_iN c19 hf
    refine ab_iconst (pc' := 114) (v := 1) dX7_least_113 (by decide) rfl ?_
    refine ab_goto (tgt := 118) dX7_least_114 (by decide) ?_
    refine ab_drop (ls' := [(0, .ref v0), (1, .int v1), (2, .int v2), (3, .int (v3 + s0)), (5, .int v5)]) [2, 3, 4, 0, 6] rfl ?_
    exact kbX7_least_118 ih hx hf
def lX7_least_34 (h : ab_H) (v0 : Nat) (v1 : Int32) (v2 : Int32) : Nat → Int32 → Int32 → Int32 → Option (Int32 × Int32)
  | 0, _, _, _ => none
  | n + 1, v3, v4, v5 => (ab_gI h v0 7 27).bind (fun x7 => if x7 ≤ (v5 : Int32) then some (v3, v4) else (ab_gR h v0 7 26).bind (fun r9 => (ab_aI h r9 v5).bind (fun x10 => (ab_gR h v0 7 25).bind (fun r11 => (ab_aI h r11 v5).bind (fun x12 => (ab_gI h v0 7 27).bind (fun x13 => if (v5 : Int32) = (x13 - 1) then (ab_ob h v0 7).bind (fun u20 => (fX7_leastToEnd h v0 v1 (x10 - x12)).bind (fun x21 => bX7_least_88 (lX7_least_34 h v0 v1 v2 n) v0 v1 v2 v3 v4 v5 (x10 - x12) x21 h)) else (ab_ob h v0 7).bind (fun u15 => (fX7_leastOf h v0 v1 (x10 - x12)).bind (fun x16 => bX7_least_88 (lX7_least_34 h v0 v1 v2 n) v0 v1 v2 v3 v4 v5 (x10 - x12) x16 h))))))))
set_option maxRecDepth 20000 in
set_option maxHeartbeats 1000000 in
theorem klX7_least_34 {l : Launch} {g : ab_G} {K : ab_K} {h : ab_H} {v0 : Nat} {v1 : Int32} {v2 : Int32} {q : (Int32 × Int32)} (hx : ab_Ev l g mX7_least 4 0 0 127 [(0, .ref v0), (2, .int v2), (3, .int q.1), (4, .int q.2)] [] h 0 0 K) : ∀ (n : Nat) (v3 : Int32) (v4 : Int32) (v5 : Int32), lX7_least_34 h v0 v1 v2 n v3 v4 v5 = some q → ab_Ev l g mX7_least 4 0 0 34 [(0, .ref v0), (1, .int v1), (2, .int v2), (3, .int v3), (4, .int v4), (5, .int v5)] [] h 0 0 K := by
  intro n
  induction n with
  | zero => intro v3 v4 v5 hf; cases (show (none : Option (Int32 × Int32)) = some q from hf)
  | succ n ih =>
    intro v3 v4 v5 hf
    rw [lX7_least_34] at hf
    refine ab_iload (pc' := 36) (q := 5) dX7_least_34 rfl rfl ?_
    refine ab_aload_n (pc' := 37) (q := 0) dX7_least_36 rfl rfl rfl ?_
    obtain ⟨x7, ex7, hf⟩ := ab_bd hf
    refine ab_getI (pc' := 40) (ci := 7) (k := 27) dX7_least_37 rfl (by decide) fl_X7_150 ex7 rfl ?_
    refine ab_icmp_ge (pc' := 43) (tgt := 127) dX7_least_40 (by decide) rfl (fun c8 => ?_) (fun c8 => ?_)
    · have hf := ab_ip c8 hf
      have hf := Option.some.inj hf
      subst hf
      refine ab_drop (ls' := [(0, .ref v0), (2, .int v2), (3, .int v3), (4, .int v4)]) [0, 2, 3, 4] rfl ?_
      exact hx
    · have hf := ab_iN c8 hf
      refine ab_aload_n (pc' := 44) (q := 0) dX7_least_43 rfl rfl rfl ?_
      obtain ⟨r9, er9, hf⟩ := ab_bd hf
      refine ab_getR (pc' := 47) (ci := 7) (k := 26) dX7_least_44 rfl (by decide) fl_X7_77 er9 rfl ?_
      refine ab_iload (pc' := 49) (q := 5) dX7_least_47 rfl rfl ?_
      obtain ⟨x10, ex10, hf⟩ := ab_bd hf
      refine ab_iald (pc' := 50) dX7_least_49 ex10 rfl ?_
      refine ab_aload_n (pc' := 51) (q := 0) dX7_least_50 rfl rfl rfl ?_
      obtain ⟨r11, er11, hf⟩ := ab_bd hf
      refine ab_getR (pc' := 54) (ci := 7) (k := 25) dX7_least_51 rfl (by decide) fl_X7_74 er11 rfl ?_
      refine ab_iload (pc' := 56) (q := 5) dX7_least_54 rfl rfl ?_
      obtain ⟨x12, ex12, hf⟩ := ab_bd hf
      refine ab_iald (pc' := 57) dX7_least_56 ex12 rfl ?_
      refine ab_isub (pc' := 58) dX7_least_57 rfl ?_
      refine ab_istore (pc' := 60) (ls' := [(6, .int (x10 - x12)), (0, .ref v0), (1, .int v1), (2, .int v2), (3, .int v3), (4, .int v4), (5, .int v5)]) dX7_least_58 (by decide) rfl rfl ?_
      refine ab_iload (pc' := 62) (q := 6) dX7_least_60 rfl rfl ?_
      refine ab_aload_n (pc' := 63) (q := 1) dX7_least_62 rfl rfl rfl ?_
      obtain ⟨x13, ex13, hf⟩ := ab_bd hf
      refine ab_getI (pc' := 66) (ci := 7) (k := 27) dX7_least_63 rfl (by decide) fl_X7_150 ex13 rfl ?_
      refine ab_iconst (pc' := 67) (v := 1) dX7_least_66 (by decide) rfl ?_
      refine ab_isub (pc' := 68) dX7_least_67 rfl ?_
      refine ab_icmp_ne (pc' := 71) (tgt := 81) dX7_least_68 (by decide) rfl (fun c14 => ?_) (fun c14 => ?_)
      · have hf := ab_iN c14 hf
        refine ab_aload_n (pc' := 82) (q := 1) dX7_least_81 rfl rfl rfl ?_
        refine ab_iload_n (pc' := 83) (q := 2) dX7_least_82 rfl rfl rfl ?_
        refine ab_iload (pc' := 85) (q := 0) dX7_least_83 rfl rfl ?_
        obtain ⟨u15, eu15, hf⟩ := ab_bd hf
        obtain ⟨x16, ex16, hf⟩ := ab_bd hf
        refine ab_callV (pc' := 88) (Mc := mX7_leastOf) (as := [.int v1, .int (x10 - x12)]) (st := []) dX7_least_85 ml_X7_162 okX7_leastOf im_X7_leastOf se_X7_leastOf rfl eu15 rfl (by decide) (Nat.le_of_ble_eq_true rfl) (Nat.le_of_ble_eq_true rfl) (Nat.le_of_ble_eq_true rfl) rfl rfl (kX7_leastOf ex16 ?_)
        show ab_Ev l g mX7_least 4 0 0 88 [(6, .int (x10 - x12)), (0, .ref v0), (1, .int v1), (2, .int v2), (3, .int v3), (4, .int v4), (5, .int v5)] [.int x16] h 0 0 K
        refine ab_drop (ls' := [(0, .ref v0), (1, .int v1), (2, .int v2), (3, .int v3), (4, .int v4), (5, .int v5), (6, .int (x10 - x12))]) [1, 2, 3, 4, 5, 6, 0] rfl ?_
        exact kbX7_least_88 ih hx hf
      · have hf := ab_ip c14 hf
        refine ab_aload_n (pc' := 72) (q := 1) dX7_least_71 rfl rfl rfl ?_
        refine ab_iload_n (pc' := 73) (q := 2) dX7_least_72 rfl rfl rfl ?_
        refine ab_iload (pc' := 75) (q := 0) dX7_least_73 rfl rfl ?_
        obtain ⟨u20, eu20, hf⟩ := ab_bd hf
        obtain ⟨x21, ex21, hf⟩ := ab_bd hf
        refine ab_callV (pc' := 78) (Mc := mX7_leastToEnd) (as := [.int v1, .int (x10 - x12)]) (st := []) dX7_least_75 ml_X7_159 okX7_leastToEnd im_X7_leastToEnd se_X7_leastToEnd rfl eu20 rfl (by decide) (Nat.le_of_ble_eq_true rfl) (Nat.le_of_ble_eq_true rfl) (Nat.le_of_ble_eq_true rfl) rfl rfl (kX7_leastToEnd ex21 ?_)
        show ab_Ev l g mX7_least 4 0 0 78 [(6, .int (x10 - x12)), (0, .ref v0), (1, .int v1), (2, .int v2), (3, .int v3), (4, .int v4), (5, .int v5)] [.int x21] h 0 0 K
        refine ab_goto (tgt := 88) dX7_least_78 (by decide) ?_
        refine ab_drop (ls' := [(0, .ref v0), (1, .int v1), (2, .int v2), (3, .int v3), (4, .int v4), (5, .int v5), (6, .int (x10 - x12))]) [1, 2, 3, 4, 5, 6, 0] rfl ?_
        exact kbX7_least_88 ih hx hf
def fX7_least (h : ab_H) (a0 : Nat) (a1 : Int32) (a2 : Int32) : Option (Int32 × ab_H) := (fX7_isDisk a1).bind (fun x1 => if (x1 : Int32) = 0 then some ((-1), h) else (fX7_in a2 0 2).bind (fun x3 => if (x3 : Int32) = 0 then some ((-2), h) else (ab_ob h a0 7).bind (fun u5 => (fX7_layGaps h a0 a1).bind (fun h6 => (lX7_least_34 h6 a0 a1 a2 ab_fu 0 0 0).bind (fun q22 => if (a2 : Int32) = 0 then some (q22.1, h6) else if (a2 : Int32) = 1 then (ab_gI h6 a0 7 27).bind (fun x25 => some (x25, h6)) else some (q22.2, h6))))))
set_option maxRecDepth 20000 in
set_option maxHeartbeats 1000000 in
theorem kX7_least {l : Launch} {g : ab_G} {K : ab_K} {h : ab_H} {a0 : Nat} {a1 : Int32} {a2 : Int32} {r : (Int32 × ab_H)} (hf : fX7_least h a0 a1 a2 = some r) (hK : K (some (.int r.1)) r.2) : ab_S l g mX7_least 4 0 0 [.ref a0, .int a1, .int a2] h K := by
  unfold fX7_least at hf
  refine ab_enter (ls := [(0, .ref a0), (1, .int a1), (2, .int a2)]) (by decide +kernel) rfl (Nat.le_of_ble_eq_true rfl) rfl ?_
  refine ab_iload_n (pc' := 1) (q := 1) dX7_least_0 rfl rfl rfl ?_
  obtain ⟨x1, ex1, hf⟩ := ab_bd hf
  refine ab_callS (pc' := 4) (Mc := mX7_isDisk) (as := [.int a1]) (st := []) dX7_least_1 ml_X7_97 okX7_isDisk ss_X7_isDisk rfl (by decide) (Nat.le_of_ble_eq_true rfl) (Nat.le_of_ble_eq_true rfl) (Nat.le_of_ble_eq_true rfl) rfl rfl (kX7_isDisk ex1 ?_)
  show ab_Ev l g mX7_least 4 0 0 4 [(0, .ref a0), (1, .int a1), (2, .int a2)] [.int x1] h 0 0 K
  refine ab_if_ne (pc' := 7) (tgt := 9) dX7_least_4 (by decide) rfl (fun c2 => ?_) (fun c2 => ?_)
  · have hf := ab_iN c2 hf
    refine ab_iload_n (pc' := 10) (q := 2) dX7_least_9 rfl rfl rfl ?_
    refine ab_iconst (pc' := 11) (v := 0) dX7_least_10 (by decide) rfl ?_
    refine ab_iconst (pc' := 12) (v := 2) dX7_least_11 (by decide) rfl ?_
    obtain ⟨x3, ex3, hf⟩ := ab_bd hf
    refine ab_callS (pc' := 15) (Mc := mX7_in) (as := [.int a2, .int 0, .int 2]) (st := []) dX7_least_12 ml_X7_90 okX7_in ss_X7_in rfl (by decide) (Nat.le_of_ble_eq_true rfl) (Nat.le_of_ble_eq_true rfl) (Nat.le_of_ble_eq_true rfl) rfl rfl (kX7_in ex3 ?_)
    show ab_Ev l g mX7_least 4 0 0 15 [(0, .ref a0), (1, .int a1), (2, .int a2)] [.int x3] h 0 0 K
    refine ab_if_ne (pc' := 18) (tgt := 21) dX7_least_15 (by decide) rfl (fun c4 => ?_) (fun c4 => ?_)
    · have hf := ab_iN c4 hf
      refine ab_aload_n (pc' := 22) (q := 0) dX7_least_21 rfl rfl rfl ?_
      refine ab_iload_n (pc' := 23) (q := 1) dX7_least_22 rfl rfl rfl ?_
      obtain ⟨u5, eu5, hf⟩ := ab_bd hf
      obtain ⟨h6, eh6, hf⟩ := ab_bd hf
      refine ab_callV (pc' := 26) (Mc := mX7_layGaps) (as := [.int a1]) (st := []) dX7_least_23 ml_X7_156 okX7_layGaps im_X7_layGaps se_X7_layGaps rfl eu5 rfl (by decide) (Nat.le_of_ble_eq_true rfl) (Nat.le_of_ble_eq_true rfl) (Nat.le_of_ble_eq_true rfl) rfl rfl (kX7_layGaps eh6 ?_)
      show ab_Ev l g mX7_least 4 0 0 26 [(0, .ref a0), (1, .int a1), (2, .int a2)] [] h6 0 0 K
      refine ab_iconst (pc' := 27) (v := 0) dX7_least_26 (by decide) rfl ?_
      refine ab_istore_n (pc' := 28) (ls' := [(3, .int 0), (0, .ref a0), (1, .int a1), (2, .int a2)]) dX7_least_27 rfl (by decide) rfl rfl ?_
      refine ab_iconst (pc' := 29) (v := 0) dX7_least_28 (by decide) rfl ?_
      refine ab_istore (pc' := 31) (ls' := [(4, .int 0), (3, .int 0), (0, .ref a0), (1, .int a1), (2, .int a2)]) dX7_least_29 (by decide) rfl rfl ?_
      refine ab_iconst (pc' := 32) (v := 0) dX7_least_31 (by decide) rfl ?_
      refine ab_istore (pc' := 34) (ls' := [(5, .int 0), (4, .int 0), (3, .int 0), (0, .ref a0), (1, .int a1), (2, .int a2)]) dX7_least_32 (by decide) rfl rfl ?_
      refine ab_drop (ls' := [(0, .ref a0), (1, .int a1), (2, .int a2), (3, .int 0), (4, .int 0), (5, .int 0)]) [3, 4, 5, 2, 1, 0] rfl ?_
      obtain ⟨q22, eq22, hf⟩ := ab_bd hf
      refine klX7_least_34 ?_ ab_fu _ _ _ eq22
      refine ab_iload_n (pc' := 128) (q := 1) dX7_least_127 rfl rfl rfl ?_
      refine ab_if_ne (pc' := 131) (tgt := 135) dX7_least_128 (by decide) rfl (fun c23 => ?_) (fun c23 => ?_)
      · have hf := ab_iN c23 hf
        refine ab_iload_n (pc' := 136) (q := 1) dX7_least_135 rfl rfl rfl ?_
        refine ab_iconst (pc' := 137) (v := 1) dX7_least_136 (by decide) rfl ?_
        refine ab_icmp_ne (pc' := 140) (tgt := 147) dX7_least_137 (by decide) rfl (fun c24 => ?_) (fun c24 => ?_)
        · have hf := ab_iN c24 hf
          refine ab_iload (pc' := 149) (q := 3) dX7_least_147 rfl rfl ?_
          have hf := Option.some.inj hf
          subst hf
          exact ab_iret rfl dX7_least_149 hK
        · have hf := ab_ip c24 hf
          refine ab_aload_n (pc' := 141) (q := 0) dX7_least_140 rfl rfl rfl ?_
          obtain ⟨x25, ex25, hf⟩ := ab_bd hf
          refine ab_getI (pc' := 144) (ci := 7) (k := 27) dX7_least_141 rfl (by decide) fl_X7_150 ex25 rfl ?_
          refine ab_goto (tgt := 149) dX7_least_144 (by decide) ?_
          have hf := Option.some.inj hf
          subst hf
          exact ab_iret rfl dX7_least_149 hK
      · have hf := ab_ip c23 hf
        refine ab_iload_n (pc' := 132) (q := 2) dX7_least_131 rfl rfl rfl ?_
        refine ab_goto (tgt := 149) dX7_least_132 (by decide) ?_
        have hf := Option.some.inj hf
        subst hf
        exact ab_iret rfl dX7_least_149 hK
    · have hf := ab_ip c4 hf
      refine ab_bipush (pc' := 20) (v := (-2)) dX7_least_18 (by decide) rfl ?_
      have hf := Option.some.inj hf
      subst hf
      exact ab_iret rfl dX7_least_20 hK
  · have hf := ab_ip c2 hf
    refine ab_iconst (pc' := 8) (v := (-1)) dX7_least_7 (by decide) rfl ?_
    have hf := Option.some.inj hf
    subst hf
    exact ab_iret rfl dX7_least_8 hK
