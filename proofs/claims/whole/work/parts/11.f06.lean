-- DiskRests.restore(I)I (mode W, depth 3)
def fX6_restore (h : ab_H) (a0 : Nat) (a1 : Int32) : Option (Int32 × ab_H) := (fX6_within a1 0 1).bind (fun x1 => if (x1 : Int32) = 0 then some ((-2), h) else (ab_gR h a0 6 2).bind (fun r3 => (ab_aZ h r3 a1).bind (fun x4 => if (x4 : Int32) = 0 then some ((-3), h) else (ab_gR h a0 6 0).bind (fun r6 => (ab_gR h a0 6 1).bind (fun r7 => (ab_aR h r7 a1).bind (fun r8 => (ab_ob h r6 5).bind (fun u9 => (fX5_copyFrom h r6 r8).bind (fun h10 => (ab_gR h10 a0 6 3).bind (fun r11 => (ab_ob h10 r11 4).bind (fun u12 => (fX4_makeStale h10 r11).bind (fun h13 => some (1, h13))))))))))))
set_option maxRecDepth 20000 in
set_option maxHeartbeats 1000000 in
theorem kX6_restore {l : Launch} {g : ab_G} {K : ab_K} {h : ab_H} {a0 : Nat} {a1 : Int32} {r : (Int32 × ab_H)} (hf : fX6_restore h a0 a1 = some r) (hK : K (some (.int r.1)) r.2) : ab_S l g mX6_restore 3 0 0 [.ref a0, .int a1] h K := by
  unfold fX6_restore at hf
  refine ab_enter (ls := [(0, .ref a0), (1, .int a1)]) (by decide +kernel) rfl (Nat.le_of_ble_eq_true rfl) rfl ?_
  refine ab_iload_n (pc' := 1) (q := 1) dX6_restore_0 rfl rfl rfl ?_
  refine ab_iconst (pc' := 2) (v := 0) dX6_restore_1 (by decide) rfl ?_
  refine ab_iconst (pc' := 3) (v := 1) dX6_restore_2 (by decide) rfl ?_
  obtain ⟨x1, ex1, hf⟩ := ab_bd hf
  refine ab_callS (pc' := 6) (Mc := mX6_within) (as := [.int a1, .int 0, .int 1]) (st := []) dX6_restore_3 ml_X6_42 okX6_within ss_X6_within rfl (by decide) (Nat.le_of_ble_eq_true rfl) (Nat.le_of_ble_eq_true rfl) (Nat.le_of_ble_eq_true rfl) rfl rfl (kX6_within ex1 ?_)
  show ab_Ev l g mX6_restore 3 0 0 6 [(0, .ref a0), (1, .int a1)] [.int x1] h 0 0 K
  refine ab_if_ne (pc' := 9) (tgt := 12) dX6_restore_6 (by decide) rfl (fun c2 => ?_) (fun c2 => ?_)
  · have hf := ab_iN c2 hf
    refine ab_aload_n (pc' := 13) (q := 0) dX6_restore_12 rfl rfl rfl ?_
    obtain ⟨r3, er3, hf⟩ := ab_bd hf
    refine ab_getR (pc' := 16) (ci := 6) (k := 2) dX6_restore_13 rfl (by decide) fl_X6_20 er3 rfl ?_
    refine ab_iload_n (pc' := 17) (q := 1) dX6_restore_16 rfl rfl rfl ?_
    obtain ⟨x4, ex4, hf⟩ := ab_bd hf
    refine ab_zald (pc' := 18) dX6_restore_17 ex4 rfl ?_
    refine ab_if_ne (pc' := 21) (tgt := 24) dX6_restore_18 (by decide) rfl (fun c5 => ?_) (fun c5 => ?_)
    · have hf := ab_iN c5 hf
      refine ab_aload_n (pc' := 25) (q := 0) dX6_restore_24 rfl rfl rfl ?_
      obtain ⟨r6, er6, hf⟩ := ab_bd hf
      refine ab_getR (pc' := 28) (ci := 6) (k := 0) dX6_restore_25 rfl (by decide) fl_X6_10 er6 rfl ?_
      refine ab_aload_n (pc' := 29) (q := 0) dX6_restore_28 rfl rfl rfl ?_
      obtain ⟨r7, er7, hf⟩ := ab_bd hf
      refine ab_getR (pc' := 32) (ci := 6) (k := 1) dX6_restore_29 rfl (by decide) fl_X6_16 er7 rfl ?_
      refine ab_iload_n (pc' := 33) (q := 1) dX6_restore_32 rfl rfl rfl ?_
      obtain ⟨r8, er8, hf⟩ := ab_bd hf
      refine ab_aald (pc' := 34) dX6_restore_33 er8 rfl ?_
      obtain ⟨u9, eu9, hf⟩ := ab_bd hf
      obtain ⟨h10, eh10, hf⟩ := ab_bd hf
      refine ab_callV (pc' := 37) (Mc := mX5_copyFrom) (as := [.ref r8]) (st := []) dX6_restore_34 ml_X6_213 okX5_copyFrom im_X5_copyFrom se_X5_copyFrom rfl eu9 rfl (by decide) (Nat.le_of_ble_eq_true rfl) (Nat.le_of_ble_eq_true rfl) (Nat.le_of_ble_eq_true rfl) rfl rfl (kX5_copyFrom eh10 ?_)
      show ab_Ev l g mX6_restore 3 0 0 37 [(0, .ref a0), (1, .int a1)] [] h10 0 0 K
      refine ab_aload_n (pc' := 38) (q := 0) dX6_restore_37 rfl rfl rfl ?_
      obtain ⟨r11, er11, hf⟩ := ab_bd hf
      refine ab_getR (pc' := 41) (ci := 6) (k := 3) dX6_restore_38 rfl (by decide) fl_X6_27 er11 rfl ?_
      obtain ⟨u12, eu12, hf⟩ := ab_bd hf
      obtain ⟨h13, eh13, hf⟩ := ab_bd hf
      refine ab_callV (pc' := 44) (Mc := mX4_makeStale) (as := []) (st := []) dX6_restore_41 ml_X6_60 okX4_makeStale im_X4_makeStale se_X4_makeStale rfl eu12 rfl (by decide) (Nat.le_of_ble_eq_true rfl) (Nat.le_of_ble_eq_true rfl) (Nat.le_of_ble_eq_true rfl) rfl rfl (kX4_makeStale eh13 ?_)
      show ab_Ev l g mX6_restore 3 0 0 44 [(0, .ref a0), (1, .int a1)] [] h13 0 0 K
      refine ab_iconst (pc' := 45) (v := 1) dX6_restore_44 (by decide) rfl ?_
      have hf := Option.some.inj hf
      subst hf
      exact ab_iret rfl dX6_restore_45 hK
    · have hf := ab_ip c5 hf
      refine ab_bipush (pc' := 23) (v := (-3)) dX6_restore_21 (by decide) rfl ?_
      have hf := Option.some.inj hf
      subst hf
      exact ab_iret rfl dX6_restore_23 hK
  · have hf := ab_ip c2 hf
    refine ab_bipush (pc' := 11) (v := (-2)) dX6_restore_9 (by decide) rfl ?_
    have hf := Option.some.inj hf
    subst hf
    exact ab_iret rfl dX6_restore_11 hK
-- DiskRestsModel.<init>()V (mode W, depth 1)
def fX7_init (h : ab_H) (a0 : Nat) : Option ab_H := (ab_nI h 4).bind (fun q1 => (ab_pV q1.2 a0 7 0 (.ref q1.1)).bind (fun h2 => (ab_nI h2 16).bind (fun q3 => (ab_pV q3.2 a0 7 1 (.ref q3.1)).bind (fun h4 => (ab_nI h4 16).bind (fun q5 => (ab_pV q5.2 a0 7 2 (.ref q5.1)).bind (fun h6 => (ab_nI h6 4).bind (fun q7 => (ab_pV q7.2 a0 7 3 (.ref q7.1)).bind (fun h8 => (ab_nI h8 4).bind (fun q9 => (ab_pV q9.2 a0 7 4 (.ref q9.1)).bind (fun h10 => (ab_nI h10 40).bind (fun q11 => (ab_pV q11.2 a0 7 6 (.ref q11.1)).bind (fun h12 => (ab_nI h12 40).bind (fun q13 => (ab_pV q13.2 a0 7 7 (.ref q13.1)).bind (fun h14 => (ab_nI h14 40).bind (fun q15 => (ab_pV q15.2 a0 7 8 (.ref q15.1)).bind (fun h16 => (ab_pV h16 a0 7 9 (.int 100)).bind (fun h17 => (ab_nI h17 4).bind (fun q18 => (ab_pV q18.2 a0 7 11 (.ref q18.1)).bind (fun h19 => (ab_nI h19 4).bind (fun q20 => (ab_pV q20.2 a0 7 12 (.ref q20.1)).bind (fun h21 => (ab_nI h21 4).bind (fun q22 => (ab_pV q22.2 a0 7 13 (.ref q22.1)).bind (fun h23 => (ab_nI h23 4).bind (fun q24 => (ab_pV q24.2 a0 7 14 (.ref q24.1)).bind (fun h25 => (ab_nI h25 4).bind (fun q26 => (ab_pV q26.2 a0 7 15 (.ref q26.1)).bind (fun h27 => (ab_nI h27 4).bind (fun q28 => (ab_pV q28.2 a0 7 16 (.ref q28.1)).bind (fun h29 => (ab_nI h29 4).bind (fun q30 => (ab_pV q30.2 a0 7 17 (.ref q30.1)).bind (fun h31 => (ab_nI h31 4).bind (fun q32 => (ab_pV q32.2 a0 7 18 (.ref q32.1)).bind (fun h33 => (ab_nI h33 160).bind (fun q34 => (ab_pV q34.2 a0 7 19 (.ref q34.1)).bind (fun h35 => (ab_nI h35 40).bind (fun q36 => (ab_pV q36.2 a0 7 20 (.ref q36.1)).bind (fun h37 => (ab_nI h37 8).bind (fun q38 => (ab_pV q38.2 a0 7 21 (.ref q38.1)).bind (fun h39 => (ab_nI h39 12).bind (fun q40 => (ab_pV q40.2 a0 7 24 (.ref q40.1)).bind (fun h41 => (ab_nI h41 41).bind (fun q42 => (ab_pV q42.2 a0 7 25 (.ref q42.1)).bind (fun h43 => (ab_nI h43 41).bind (fun q44 => (ab_pV q44.2 a0 7 26 (.ref q44.1)).bind (fun h45 => (ab_nZ h45 41).bind (fun q46 => (ab_pV q46.2 a0 7 28 (.ref q46.1)).bind (fun h47 => (ab_nI h47 334).bind (fun q48 => (ab_pV q48.2 a0 7 29 (.ref q48.1)).bind (fun h49 => (ab_nZ h49 2).bind (fun q50 => (ab_pV q50.2 a0 7 30 (.ref q50.1)).bind (fun h51 => (ab_gR h51 a0 7 1).bind (fun r53 => (ab_sI h51 r53 (4 * 0) 10).bind (fun h54 => (ab_gR h54 a0 7 4).bind (fun r55 => (ab_sI h54 r55 0 1).bind (fun h56 => (ab_gR h56 a0 7 1).bind (fun r58 => (ab_sI h56 r58 (4 * 1) 10).bind (fun h59 => (ab_gR h59 a0 7 4).bind (fun r60 => (ab_sI h59 r60 1 1).bind (fun h61 => (ab_gR h61 a0 7 1).bind (fun r63 => (ab_sI h61 r63 (4 * 2) 10).bind (fun h64 => (ab_gR h64 a0 7 4).bind (fun r65 => (ab_sI h64 r65 2 1).bind (fun h66 => (ab_gR h66 a0 7 1).bind (fun r68 => (ab_sI h66 r68 (4 * 3) 10).bind (fun h69 => (ab_gR h69 a0 7 4).bind (fun r70 => (ab_sI h69 r70 3 1).bind (fun h71 => some h71)))))))))))))))))))))))))))))))))))))))))))))))))))))))))))))))))))
set_option maxRecDepth 20000 in
set_option maxHeartbeats 1000000 in
theorem kX7_init {l : Launch} {g : ab_G} {K : ab_K} {h : ab_H} {a0 : Nat} {r : ab_H} (hf : fX7_init h a0 = some r) (hK : K none r) : ab_S l g mX7_init 1 25 875 [.ref a0] h K := by
  unfold fX7_init at hf
  refine ab_enter (ls := [(0, .ref a0)]) (by decide +kernel) rfl (Nat.le_of_ble_eq_true rfl) rfl ?_
  refine ab_aload_n (pc' := 1) (q := 0) dX7_init_0 rfl rfl rfl ?_
  refine ab_objF (pc' := 4) dX7_init_1 mk_X7_1 (by decide) rfl ?_
  refine ab_aload_n (pc' := 5) (q := 0) dX7_init_4 rfl rfl rfl ?_
  refine ab_iconst (pc' := 6) (v := 4) dX7_init_5 (by decide) rfl ?_
  obtain ⟨q1, eq1, hf⟩ := ab_bd hf
  refine ab_newIF (pc' := 8) (N := 4) (ce' := 1) (sl' := 4) dX7_init_6 (by decide) (by decide) (Nat.le_of_ble_eq_true rfl) rfl rfl (Nat.le_of_ble_eq_true rfl) (Nat.le_of_ble_eq_true rfl) eq1 rfl ?_
  obtain ⟨h2, eh2, hf⟩ := ab_bd hf
  refine ab_putF (pc' := 11) (ci := 7) (k := 0) dX7_init_8 rfl (by decide) ff_X7_7 rfl rfl rfl (tyX7_ok 0 (by decide)) rfl rfl eh2 rfl ?_
  refine ab_aload_n (pc' := 12) (q := 0) dX7_init_11 rfl rfl rfl ?_
  refine ab_bipush (pc' := 14) (v := 16) dX7_init_12 (by decide) rfl ?_
  obtain ⟨q3, eq3, hf⟩ := ab_bd hf
  refine ab_newIF (pc' := 16) (N := 16) (ce' := 2) (sl' := 20) dX7_init_14 (by decide) (by decide) (Nat.le_of_ble_eq_true rfl) rfl rfl (Nat.le_of_ble_eq_true rfl) (Nat.le_of_ble_eq_true rfl) eq3 rfl ?_
  obtain ⟨h4, eh4, hf⟩ := ab_bd hf
  refine ab_putF (pc' := 19) (ci := 7) (k := 1) dX7_init_16 rfl (by decide) ff_X7_13 rfl rfl rfl (tyX7_ok 1 (by decide)) rfl rfl eh4 rfl ?_
  refine ab_aload_n (pc' := 20) (q := 0) dX7_init_19 rfl rfl rfl ?_
  refine ab_bipush (pc' := 22) (v := 16) dX7_init_20 (by decide) rfl ?_
  obtain ⟨q5, eq5, hf⟩ := ab_bd hf
  refine ab_newIF (pc' := 24) (N := 16) (ce' := 3) (sl' := 36) dX7_init_22 (by decide) (by decide) (Nat.le_of_ble_eq_true rfl) rfl rfl (Nat.le_of_ble_eq_true rfl) (Nat.le_of_ble_eq_true rfl) eq5 rfl ?_
  obtain ⟨h6, eh6, hf⟩ := ab_bd hf
  refine ab_putF (pc' := 27) (ci := 7) (k := 2) dX7_init_24 rfl (by decide) ff_X7_16 rfl rfl rfl (tyX7_ok 2 (by decide)) rfl rfl eh6 rfl ?_
  refine ab_aload_n (pc' := 28) (q := 0) dX7_init_27 rfl rfl rfl ?_
  refine ab_iconst (pc' := 29) (v := 4) dX7_init_28 (by decide) rfl ?_
  obtain ⟨q7, eq7, hf⟩ := ab_bd hf
  refine ab_newIF (pc' := 31) (N := 4) (ce' := 4) (sl' := 40) dX7_init_29 (by decide) (by decide) (Nat.le_of_ble_eq_true rfl) rfl rfl (Nat.le_of_ble_eq_true rfl) (Nat.le_of_ble_eq_true rfl) eq7 rfl ?_
  obtain ⟨h8, eh8, hf⟩ := ab_bd hf
  refine ab_putF (pc' := 34) (ci := 7) (k := 3) dX7_init_31 rfl (by decide) ff_X7_19 rfl rfl rfl (tyX7_ok 3 (by decide)) rfl rfl eh8 rfl ?_
  refine ab_aload_n (pc' := 35) (q := 0) dX7_init_34 rfl rfl rfl ?_
  refine ab_iconst (pc' := 36) (v := 4) dX7_init_35 (by decide) rfl ?_
  obtain ⟨q9, eq9, hf⟩ := ab_bd hf
  refine ab_newIF (pc' := 38) (N := 4) (ce' := 5) (sl' := 44) dX7_init_36 (by decide) (by decide) (Nat.le_of_ble_eq_true rfl) rfl rfl (Nat.le_of_ble_eq_true rfl) (Nat.le_of_ble_eq_true rfl) eq9 rfl ?_
  obtain ⟨h10, eh10, hf⟩ := ab_bd hf
  refine ab_putF (pc' := 41) (ci := 7) (k := 4) dX7_init_38 rfl (by decide) ff_X7_22 rfl rfl rfl (tyX7_ok 4 (by decide)) rfl rfl eh10 rfl ?_
  refine ab_aload_n (pc' := 42) (q := 0) dX7_init_41 rfl rfl rfl ?_
  refine ab_bipush (pc' := 44) (v := 40) dX7_init_42 (by decide) rfl ?_
  obtain ⟨q11, eq11, hf⟩ := ab_bd hf
  refine ab_newIF (pc' := 46) (N := 40) (ce' := 6) (sl' := 84) dX7_init_44 (by decide) (by decide) (Nat.le_of_ble_eq_true rfl) rfl rfl (Nat.le_of_ble_eq_true rfl) (Nat.le_of_ble_eq_true rfl) eq11 rfl ?_
  obtain ⟨h12, eh12, hf⟩ := ab_bd hf
  refine ab_putF (pc' := 49) (ci := 7) (k := 6) dX7_init_46 rfl (by decide) ff_X7_25 rfl rfl rfl (tyX7_ok 6 (by decide)) rfl rfl eh12 rfl ?_
  refine ab_aload_n (pc' := 50) (q := 0) dX7_init_49 rfl rfl rfl ?_
  refine ab_bipush (pc' := 52) (v := 40) dX7_init_50 (by decide) rfl ?_
  obtain ⟨q13, eq13, hf⟩ := ab_bd hf
  refine ab_newIF (pc' := 54) (N := 40) (ce' := 7) (sl' := 124) dX7_init_52 (by decide) (by decide) (Nat.le_of_ble_eq_true rfl) rfl rfl (Nat.le_of_ble_eq_true rfl) (Nat.le_of_ble_eq_true rfl) eq13 rfl ?_
  obtain ⟨h14, eh14, hf⟩ := ab_bd hf
  refine ab_putF (pc' := 57) (ci := 7) (k := 7) dX7_init_54 rfl (by decide) ff_X7_28 rfl rfl rfl (tyX7_ok 7 (by decide)) rfl rfl eh14 rfl ?_
  refine ab_aload_n (pc' := 58) (q := 0) dX7_init_57 rfl rfl rfl ?_
  refine ab_bipush (pc' := 60) (v := 40) dX7_init_58 (by decide) rfl ?_
  obtain ⟨q15, eq15, hf⟩ := ab_bd hf
  refine ab_newIF (pc' := 62) (N := 40) (ce' := 8) (sl' := 164) dX7_init_60 (by decide) (by decide) (Nat.le_of_ble_eq_true rfl) rfl rfl (Nat.le_of_ble_eq_true rfl) (Nat.le_of_ble_eq_true rfl) eq15 rfl ?_
  obtain ⟨h16, eh16, hf⟩ := ab_bd hf
  refine ab_putF (pc' := 65) (ci := 7) (k := 8) dX7_init_62 rfl (by decide) ff_X7_31 rfl rfl rfl (tyX7_ok 8 (by decide)) rfl rfl eh16 rfl ?_
  refine ab_aload_n (pc' := 66) (q := 0) dX7_init_65 rfl rfl rfl ?_
  refine ab_bipush (pc' := 68) (v := 100) dX7_init_66 (by decide) rfl ?_
  obtain ⟨h17, eh17, hf⟩ := ab_bd hf
  refine ab_put (pc' := 71) (ci := 7) (k := 9) dX7_init_68 rfl (by decide) fl_X7_34 rfl (tyX7_ok 9 (by decide)) rfl rfl eh17 rfl ?_
  refine ab_aload_n (pc' := 72) (q := 0) dX7_init_71 rfl rfl rfl ?_
  refine ab_iconst (pc' := 73) (v := 4) dX7_init_72 (by decide) rfl ?_
  obtain ⟨q18, eq18, hf⟩ := ab_bd hf
  refine ab_newIF (pc' := 75) (N := 4) (ce' := 9) (sl' := 168) dX7_init_73 (by decide) (by decide) (Nat.le_of_ble_eq_true rfl) rfl rfl (Nat.le_of_ble_eq_true rfl) (Nat.le_of_ble_eq_true rfl) eq18 rfl ?_
  obtain ⟨h19, eh19, hf⟩ := ab_bd hf
  refine ab_putF (pc' := 78) (ci := 7) (k := 11) dX7_init_75 rfl (by decide) ff_X7_38 rfl rfl rfl (tyX7_ok 11 (by decide)) rfl rfl eh19 rfl ?_
  refine ab_aload_n (pc' := 79) (q := 0) dX7_init_78 rfl rfl rfl ?_
  refine ab_iconst (pc' := 80) (v := 4) dX7_init_79 (by decide) rfl ?_
  obtain ⟨q20, eq20, hf⟩ := ab_bd hf
  refine ab_newIF (pc' := 82) (N := 4) (ce' := 10) (sl' := 172) dX7_init_80 (by decide) (by decide) (Nat.le_of_ble_eq_true rfl) rfl rfl (Nat.le_of_ble_eq_true rfl) (Nat.le_of_ble_eq_true rfl) eq20 rfl ?_
  obtain ⟨h21, eh21, hf⟩ := ab_bd hf
  refine ab_putF (pc' := 85) (ci := 7) (k := 12) dX7_init_82 rfl (by decide) ff_X7_41 rfl rfl rfl (tyX7_ok 12 (by decide)) rfl rfl eh21 rfl ?_
  refine ab_aload_n (pc' := 86) (q := 0) dX7_init_85 rfl rfl rfl ?_
  refine ab_iconst (pc' := 87) (v := 4) dX7_init_86 (by decide) rfl ?_
  obtain ⟨q22, eq22, hf⟩ := ab_bd hf
  refine ab_newIF (pc' := 89) (N := 4) (ce' := 11) (sl' := 176) dX7_init_87 (by decide) (by decide) (Nat.le_of_ble_eq_true rfl) rfl rfl (Nat.le_of_ble_eq_true rfl) (Nat.le_of_ble_eq_true rfl) eq22 rfl ?_
  obtain ⟨h23, eh23, hf⟩ := ab_bd hf
  refine ab_putF (pc' := 92) (ci := 7) (k := 13) dX7_init_89 rfl (by decide) ff_X7_44 rfl rfl rfl (tyX7_ok 13 (by decide)) rfl rfl eh23 rfl ?_
  refine ab_aload_n (pc' := 93) (q := 0) dX7_init_92 rfl rfl rfl ?_
  refine ab_iconst (pc' := 94) (v := 4) dX7_init_93 (by decide) rfl ?_
  obtain ⟨q24, eq24, hf⟩ := ab_bd hf
  refine ab_newIF (pc' := 96) (N := 4) (ce' := 12) (sl' := 180) dX7_init_94 (by decide) (by decide) (Nat.le_of_ble_eq_true rfl) rfl rfl (Nat.le_of_ble_eq_true rfl) (Nat.le_of_ble_eq_true rfl) eq24 rfl ?_
  obtain ⟨h25, eh25, hf⟩ := ab_bd hf
  refine ab_putF (pc' := 99) (ci := 7) (k := 14) dX7_init_96 rfl (by decide) ff_X7_47 rfl rfl rfl (tyX7_ok 14 (by decide)) rfl rfl eh25 rfl ?_
  refine ab_aload_n (pc' := 100) (q := 0) dX7_init_99 rfl rfl rfl ?_
  refine ab_iconst (pc' := 101) (v := 4) dX7_init_100 (by decide) rfl ?_
  obtain ⟨q26, eq26, hf⟩ := ab_bd hf
  refine ab_newIF (pc' := 103) (N := 4) (ce' := 13) (sl' := 184) dX7_init_101 (by decide) (by decide) (Nat.le_of_ble_eq_true rfl) rfl rfl (Nat.le_of_ble_eq_true rfl) (Nat.le_of_ble_eq_true rfl) eq26 rfl ?_
  obtain ⟨h27, eh27, hf⟩ := ab_bd hf
  refine ab_putF (pc' := 106) (ci := 7) (k := 15) dX7_init_103 rfl (by decide) ff_X7_50 rfl rfl rfl (tyX7_ok 15 (by decide)) rfl rfl eh27 rfl ?_
  refine ab_aload_n (pc' := 107) (q := 0) dX7_init_106 rfl rfl rfl ?_
  refine ab_iconst (pc' := 108) (v := 4) dX7_init_107 (by decide) rfl ?_
  obtain ⟨q28, eq28, hf⟩ := ab_bd hf
  refine ab_newIF (pc' := 110) (N := 4) (ce' := 14) (sl' := 188) dX7_init_108 (by decide) (by decide) (Nat.le_of_ble_eq_true rfl) rfl rfl (Nat.le_of_ble_eq_true rfl) (Nat.le_of_ble_eq_true rfl) eq28 rfl ?_
  obtain ⟨h29, eh29, hf⟩ := ab_bd hf
  refine ab_putF (pc' := 113) (ci := 7) (k := 16) dX7_init_110 rfl (by decide) ff_X7_53 rfl rfl rfl (tyX7_ok 16 (by decide)) rfl rfl eh29 rfl ?_
  refine ab_aload_n (pc' := 114) (q := 0) dX7_init_113 rfl rfl rfl ?_
  refine ab_iconst (pc' := 115) (v := 4) dX7_init_114 (by decide) rfl ?_
  obtain ⟨q30, eq30, hf⟩ := ab_bd hf
  refine ab_newIF (pc' := 117) (N := 4) (ce' := 15) (sl' := 192) dX7_init_115 (by decide) (by decide) (Nat.le_of_ble_eq_true rfl) rfl rfl (Nat.le_of_ble_eq_true rfl) (Nat.le_of_ble_eq_true rfl) eq30 rfl ?_
  obtain ⟨h31, eh31, hf⟩ := ab_bd hf
  refine ab_putF (pc' := 120) (ci := 7) (k := 17) dX7_init_117 rfl (by decide) ff_X7_56 rfl rfl rfl (tyX7_ok 17 (by decide)) rfl rfl eh31 rfl ?_
  refine ab_aload_n (pc' := 121) (q := 0) dX7_init_120 rfl rfl rfl ?_
  refine ab_iconst (pc' := 122) (v := 4) dX7_init_121 (by decide) rfl ?_
  obtain ⟨q32, eq32, hf⟩ := ab_bd hf
  refine ab_newIF (pc' := 124) (N := 4) (ce' := 16) (sl' := 196) dX7_init_122 (by decide) (by decide) (Nat.le_of_ble_eq_true rfl) rfl rfl (Nat.le_of_ble_eq_true rfl) (Nat.le_of_ble_eq_true rfl) eq32 rfl ?_
  obtain ⟨h33, eh33, hf⟩ := ab_bd hf
  refine ab_putF (pc' := 127) (ci := 7) (k := 18) dX7_init_124 rfl (by decide) ff_X7_59 rfl rfl rfl (tyX7_ok 18 (by decide)) rfl rfl eh33 rfl ?_
  refine ab_aload_n (pc' := 128) (q := 0) dX7_init_127 rfl rfl rfl ?_
  refine ab_sipush (pc' := 131) (v := 160) dX7_init_128 (by decide) rfl ?_
  obtain ⟨q34, eq34, hf⟩ := ab_bd hf
  refine ab_newIF (pc' := 133) (N := 160) (ce' := 17) (sl' := 356) dX7_init_131 (by decide) (by decide) (Nat.le_of_ble_eq_true rfl) rfl rfl (Nat.le_of_ble_eq_true rfl) (Nat.le_of_ble_eq_true rfl) eq34 rfl ?_
  obtain ⟨h35, eh35, hf⟩ := ab_bd hf
  refine ab_putF (pc' := 136) (ci := 7) (k := 19) dX7_init_133 rfl (by decide) ff_X7_62 rfl rfl rfl (tyX7_ok 19 (by decide)) rfl rfl eh35 rfl ?_
  refine ab_aload_n (pc' := 137) (q := 0) dX7_init_136 rfl rfl rfl ?_
  refine ab_bipush (pc' := 139) (v := 40) dX7_init_137 (by decide) rfl ?_
  obtain ⟨q36, eq36, hf⟩ := ab_bd hf
  refine ab_newIF (pc' := 141) (N := 40) (ce' := 18) (sl' := 396) dX7_init_139 (by decide) (by decide) (Nat.le_of_ble_eq_true rfl) rfl rfl (Nat.le_of_ble_eq_true rfl) (Nat.le_of_ble_eq_true rfl) eq36 rfl ?_
  obtain ⟨h37, eh37, hf⟩ := ab_bd hf
  refine ab_putF (pc' := 144) (ci := 7) (k := 20) dX7_init_141 rfl (by decide) ff_X7_65 rfl rfl rfl (tyX7_ok 20 (by decide)) rfl rfl eh37 rfl ?_
  refine ab_aload_n (pc' := 145) (q := 0) dX7_init_144 rfl rfl rfl ?_
  refine ab_bipush (pc' := 147) (v := 8) dX7_init_145 (by decide) rfl ?_
  obtain ⟨q38, eq38, hf⟩ := ab_bd hf
  refine ab_newIF (pc' := 149) (N := 8) (ce' := 19) (sl' := 404) dX7_init_147 (by decide) (by decide) (Nat.le_of_ble_eq_true rfl) rfl rfl (Nat.le_of_ble_eq_true rfl) (Nat.le_of_ble_eq_true rfl) eq38 rfl ?_
  obtain ⟨h39, eh39, hf⟩ := ab_bd hf
  refine ab_putF (pc' := 152) (ci := 7) (k := 21) dX7_init_149 rfl (by decide) ff_X7_68 rfl rfl rfl (tyX7_ok 21 (by decide)) rfl rfl eh39 rfl ?_
  refine ab_aload_n (pc' := 153) (q := 0) dX7_init_152 rfl rfl rfl ?_
  refine ab_bipush (pc' := 155) (v := 12) dX7_init_153 (by decide) rfl ?_
  obtain ⟨q40, eq40, hf⟩ := ab_bd hf
  refine ab_newIF (pc' := 157) (N := 12) (ce' := 20) (sl' := 416) dX7_init_155 (by decide) (by decide) (Nat.le_of_ble_eq_true rfl) rfl rfl (Nat.le_of_ble_eq_true rfl) (Nat.le_of_ble_eq_true rfl) eq40 rfl ?_
  obtain ⟨h41, eh41, hf⟩ := ab_bd hf
  refine ab_putF (pc' := 160) (ci := 7) (k := 24) dX7_init_157 rfl (by decide) ff_X7_71 rfl rfl rfl (tyX7_ok 24 (by decide)) rfl rfl eh41 rfl ?_
  refine ab_aload_n (pc' := 161) (q := 0) dX7_init_160 rfl rfl rfl ?_
  refine ab_bipush (pc' := 163) (v := 41) dX7_init_161 (by decide) rfl ?_
  obtain ⟨q42, eq42, hf⟩ := ab_bd hf
  refine ab_newIF (pc' := 165) (N := 41) (ce' := 21) (sl' := 457) dX7_init_163 (by decide) (by decide) (Nat.le_of_ble_eq_true rfl) rfl rfl (Nat.le_of_ble_eq_true rfl) (Nat.le_of_ble_eq_true rfl) eq42 rfl ?_
  obtain ⟨h43, eh43, hf⟩ := ab_bd hf
  refine ab_putF (pc' := 168) (ci := 7) (k := 25) dX7_init_165 rfl (by decide) ff_X7_74 rfl rfl rfl (tyX7_ok 25 (by decide)) rfl rfl eh43 rfl ?_
  refine ab_aload_n (pc' := 169) (q := 0) dX7_init_168 rfl rfl rfl ?_
  refine ab_bipush (pc' := 171) (v := 41) dX7_init_169 (by decide) rfl ?_
  obtain ⟨q44, eq44, hf⟩ := ab_bd hf
  refine ab_newIF (pc' := 173) (N := 41) (ce' := 22) (sl' := 498) dX7_init_171 (by decide) (by decide) (Nat.le_of_ble_eq_true rfl) rfl rfl (Nat.le_of_ble_eq_true rfl) (Nat.le_of_ble_eq_true rfl) eq44 rfl ?_
  obtain ⟨h45, eh45, hf⟩ := ab_bd hf
  refine ab_putF (pc' := 176) (ci := 7) (k := 26) dX7_init_173 rfl (by decide) ff_X7_77 rfl rfl rfl (tyX7_ok 26 (by decide)) rfl rfl eh45 rfl ?_
  refine ab_aload_n (pc' := 177) (q := 0) dX7_init_176 rfl rfl rfl ?_
  refine ab_bipush (pc' := 179) (v := 41) dX7_init_177 (by decide) rfl ?_
  obtain ⟨q46, eq46, hf⟩ := ab_bd hf
  refine ab_newZF (pc' := 181) (N := 41) (ce' := 23) (sl' := 539) dX7_init_179 (by decide) (by decide) (Nat.le_of_ble_eq_true rfl) rfl rfl (Nat.le_of_ble_eq_true rfl) (Nat.le_of_ble_eq_true rfl) eq46 rfl ?_
  obtain ⟨h47, eh47, hf⟩ := ab_bd hf
  refine ab_putF (pc' := 184) (ci := 7) (k := 28) dX7_init_181 rfl (by decide) ff_X7_80 rfl rfl rfl (tyX7_ok 28 (by decide)) rfl rfl eh47 rfl ?_
  refine ab_aload_n (pc' := 185) (q := 0) dX7_init_184 rfl rfl rfl ?_
  refine ab_sipush (pc' := 188) (v := 334) dX7_init_185 (by decide) rfl ?_
  obtain ⟨q48, eq48, hf⟩ := ab_bd hf
  refine ab_newIF (pc' := 190) (N := 334) (ce' := 24) (sl' := 873) dX7_init_188 (by decide) (by decide) (Nat.le_of_ble_eq_true rfl) rfl rfl (Nat.le_of_ble_eq_true rfl) (Nat.le_of_ble_eq_true rfl) eq48 rfl ?_
  obtain ⟨h49, eh49, hf⟩ := ab_bd hf
  refine ab_putF (pc' := 193) (ci := 7) (k := 29) dX7_init_190 rfl (by decide) ff_X7_84 rfl rfl rfl (tyX7_ok 29 (by decide)) rfl rfl eh49 rfl ?_
  refine ab_aload_n (pc' := 194) (q := 0) dX7_init_193 rfl rfl rfl ?_
  refine ab_iconst (pc' := 195) (v := 2) dX7_init_194 (by decide) rfl ?_
  obtain ⟨q50, eq50, hf⟩ := ab_bd hf
  refine ab_newZF (pc' := 197) (N := 2) (ce' := 25) (sl' := 875) dX7_init_195 (by decide) (by decide) (Nat.le_of_ble_eq_true rfl) rfl rfl (Nat.le_of_ble_eq_true rfl) (Nat.le_of_ble_eq_true rfl) eq50 rfl ?_
  obtain ⟨h51, eh51, hf⟩ := ab_bd hf
  refine ab_putF (pc' := 200) (ci := 7) (k := 30) dX7_init_197 rfl (by decide) ff_X7_87 rfl rfl rfl (tyX7_ok 30 (by decide)) rfl rfl eh51 rfl ?_
  refine ab_iconst (pc' := 201) (v := 0) dX7_init_200 (by decide) rfl ?_
  refine ab_istore_n (pc' := 202) (ls' := [(1, .int 0), (0, .ref a0)]) dX7_init_201 rfl (by decide) rfl rfl ?_
  refine ab_iload_n (pc' := 203) (q := 0) dX7_init_202 rfl rfl rfl ?_
  refine ab_iconst (pc' := 204) (v := 4) dX7_init_203 (by decide) rfl ?_
  refine ab_icmp_ge (pc' := 207) (tgt := 230) dX7_init_204 (by decide) rfl (fun c52 => absurd c52 (by decide)) (fun _ => ?_)
  refine ab_aload_n (pc' := 208) (q := 1) dX7_init_207 rfl rfl rfl ?_
  obtain ⟨r53, er53, hf⟩ := ab_bd hf
  refine ab_getR (pc' := 211) (ci := 7) (k := 1) dX7_init_208 rfl (by decide) fl_X7_13 er53 rfl ?_
  refine ab_iconst (pc' := 212) (v := 4) dX7_init_211 (by decide) rfl ?_
  refine ab_iload_n (pc' := 213) (q := 0) dX7_init_212 rfl rfl rfl ?_
  refine ab_imul (pc' := 214) dX7_init_213 rfl ?_
  refine ab_bipush (pc' := 216) (v := 10) dX7_init_214 (by decide) rfl ?_
  obtain ⟨h54, eh54, hf⟩ := ab_bd hf
  refine ab_iast (pc' := 217) dX7_init_216 eh54 rfl ?_
  refine ab_aload_n (pc' := 218) (q := 1) dX7_init_217 rfl rfl rfl ?_
  obtain ⟨r55, er55, hf⟩ := ab_bd hf
  refine ab_getR (pc' := 221) (ci := 7) (k := 4) dX7_init_218 rfl (by decide) fl_X7_22 er55 rfl ?_
  refine ab_iload_n (pc' := 222) (q := 0) dX7_init_221 rfl rfl rfl ?_
  refine ab_iconst (pc' := 223) (v := 1) dX7_init_222 (by decide) rfl ?_
  obtain ⟨h56, eh56, hf⟩ := ab_bd hf
  refine ab_iast (pc' := 224) dX7_init_223 eh56 rfl ?_
  refine ab_iinc (pc' := 227) (q := 0) (v := 1) (ls' := [(1, .int 1), (0, .ref a0)]) dX7_init_224 rfl (by decide) (by decide) rfl rfl ?_
  refine ab_goto (tgt := 202) dX7_init_227 (by decide) ?_
  refine ab_iload_n (pc' := 203) (q := 0) dX7_init_202 rfl rfl rfl ?_
  refine ab_iconst (pc' := 204) (v := 4) dX7_init_203 (by decide) rfl ?_
  refine ab_icmp_ge (pc' := 207) (tgt := 230) dX7_init_204 (by decide) rfl (fun c57 => absurd c57 (by decide)) (fun _ => ?_)
  refine ab_aload_n (pc' := 208) (q := 1) dX7_init_207 rfl rfl rfl ?_
  obtain ⟨r58, er58, hf⟩ := ab_bd hf
  refine ab_getR (pc' := 211) (ci := 7) (k := 1) dX7_init_208 rfl (by decide) fl_X7_13 er58 rfl ?_
  refine ab_iconst (pc' := 212) (v := 4) dX7_init_211 (by decide) rfl ?_
  refine ab_iload_n (pc' := 213) (q := 0) dX7_init_212 rfl rfl rfl ?_
  refine ab_imul (pc' := 214) dX7_init_213 rfl ?_
  refine ab_bipush (pc' := 216) (v := 10) dX7_init_214 (by decide) rfl ?_
  obtain ⟨h59, eh59, hf⟩ := ab_bd hf
  refine ab_iast (pc' := 217) dX7_init_216 eh59 rfl ?_
  refine ab_aload_n (pc' := 218) (q := 1) dX7_init_217 rfl rfl rfl ?_
  obtain ⟨r60, er60, hf⟩ := ab_bd hf
  refine ab_getR (pc' := 221) (ci := 7) (k := 4) dX7_init_218 rfl (by decide) fl_X7_22 er60 rfl ?_
  refine ab_iload_n (pc' := 222) (q := 0) dX7_init_221 rfl rfl rfl ?_
  refine ab_iconst (pc' := 223) (v := 1) dX7_init_222 (by decide) rfl ?_
  obtain ⟨h61, eh61, hf⟩ := ab_bd hf
  refine ab_iast (pc' := 224) dX7_init_223 eh61 rfl ?_
  refine ab_iinc (pc' := 227) (q := 0) (v := 2) (ls' := [(1, .int 2), (0, .ref a0)]) dX7_init_224 rfl (by decide) (by decide) rfl rfl ?_
  refine ab_goto (tgt := 202) dX7_init_227 (by decide) ?_
  refine ab_iload_n (pc' := 203) (q := 0) dX7_init_202 rfl rfl rfl ?_
  refine ab_iconst (pc' := 204) (v := 4) dX7_init_203 (by decide) rfl ?_
  refine ab_icmp_ge (pc' := 207) (tgt := 230) dX7_init_204 (by decide) rfl (fun c62 => absurd c62 (by decide)) (fun _ => ?_)
  refine ab_aload_n (pc' := 208) (q := 1) dX7_init_207 rfl rfl rfl ?_
  obtain ⟨r63, er63, hf⟩ := ab_bd hf
  refine ab_getR (pc' := 211) (ci := 7) (k := 1) dX7_init_208 rfl (by decide) fl_X7_13 er63 rfl ?_
  refine ab_iconst (pc' := 212) (v := 4) dX7_init_211 (by decide) rfl ?_
  refine ab_iload_n (pc' := 213) (q := 0) dX7_init_212 rfl rfl rfl ?_
  refine ab_imul (pc' := 214) dX7_init_213 rfl ?_
  refine ab_bipush (pc' := 216) (v := 10) dX7_init_214 (by decide) rfl ?_
  obtain ⟨h64, eh64, hf⟩ := ab_bd hf
  refine ab_iast (pc' := 217) dX7_init_216 eh64 rfl ?_
  refine ab_aload_n (pc' := 218) (q := 1) dX7_init_217 rfl rfl rfl ?_
  obtain ⟨r65, er65, hf⟩ := ab_bd hf
  refine ab_getR (pc' := 221) (ci := 7) (k := 4) dX7_init_218 rfl (by decide) fl_X7_22 er65 rfl ?_
  refine ab_iload_n (pc' := 222) (q := 0) dX7_init_221 rfl rfl rfl ?_
  refine ab_iconst (pc' := 223) (v := 1) dX7_init_222 (by decide) rfl ?_
  obtain ⟨h66, eh66, hf⟩ := ab_bd hf
  refine ab_iast (pc' := 224) dX7_init_223 eh66 rfl ?_
  refine ab_iinc (pc' := 227) (q := 0) (v := 3) (ls' := [(1, .int 3), (0, .ref a0)]) dX7_init_224 rfl (by decide) (by decide) rfl rfl ?_
  refine ab_goto (tgt := 202) dX7_init_227 (by decide) ?_
  refine ab_iload_n (pc' := 203) (q := 0) dX7_init_202 rfl rfl rfl ?_
  refine ab_iconst (pc' := 204) (v := 4) dX7_init_203 (by decide) rfl ?_
  refine ab_icmp_ge (pc' := 207) (tgt := 230) dX7_init_204 (by decide) rfl (fun c67 => absurd c67 (by decide)) (fun _ => ?_)
  refine ab_aload_n (pc' := 208) (q := 1) dX7_init_207 rfl rfl rfl ?_
  obtain ⟨r68, er68, hf⟩ := ab_bd hf
  refine ab_getR (pc' := 211) (ci := 7) (k := 1) dX7_init_208 rfl (by decide) fl_X7_13 er68 rfl ?_
  refine ab_iconst (pc' := 212) (v := 4) dX7_init_211 (by decide) rfl ?_
  refine ab_iload_n (pc' := 213) (q := 0) dX7_init_212 rfl rfl rfl ?_
  refine ab_imul (pc' := 214) dX7_init_213 rfl ?_
  refine ab_bipush (pc' := 216) (v := 10) dX7_init_214 (by decide) rfl ?_
  obtain ⟨h69, eh69, hf⟩ := ab_bd hf
  refine ab_iast (pc' := 217) dX7_init_216 eh69 rfl ?_
  refine ab_aload_n (pc' := 218) (q := 1) dX7_init_217 rfl rfl rfl ?_
  obtain ⟨r70, er70, hf⟩ := ab_bd hf
  refine ab_getR (pc' := 221) (ci := 7) (k := 4) dX7_init_218 rfl (by decide) fl_X7_22 er70 rfl ?_
  refine ab_iload_n (pc' := 222) (q := 0) dX7_init_221 rfl rfl rfl ?_
  refine ab_iconst (pc' := 223) (v := 1) dX7_init_222 (by decide) rfl ?_
  obtain ⟨h71, eh71, hf⟩ := ab_bd hf
  refine ab_iast (pc' := 224) dX7_init_223 eh71 rfl ?_
  refine ab_iinc (pc' := 227) (q := 0) (v := 4) (ls' := [(1, .int 4), (0, .ref a0)]) dX7_init_224 rfl (by decide) (by decide) rfl rfl ?_
  refine ab_goto (tgt := 202) dX7_init_227 (by decide) ?_
  refine ab_iload_n (pc' := 203) (q := 0) dX7_init_202 rfl rfl rfl ?_
  refine ab_iconst (pc' := 204) (v := 4) dX7_init_203 (by decide) rfl ?_
  refine ab_icmp_ge (pc' := 207) (tgt := 230) dX7_init_204 (by decide) rfl (fun _ => ?_) (fun c72 => absurd (by decide) c72)
  have hf := Option.some.inj hf
  subst hf
  exact ab_vret rfl dX7_init_230 hK
-- DiskRestsModel.in(III)Z (mode N, depth 0)
def bX7_in_14  : Option Int32 := some 0
set_option maxRecDepth 20000 in
set_option maxHeartbeats 1000000 in
theorem kbX7_in_14 {l : Launch} {g : ab_G} {K : ab_K} {h : ab_H}  {r : Int32} (hf : bX7_in_14  = some r) (hK : K (some (.int r)) h) : ab_Ev l g mX7_in 0 0 0 14 [] [] h 0 0 K := by
  unfold bX7_in_14 at hf
  refine ab_iconst (pc' := 15) (v := 0) dX7_in_14 (by decide) rfl ?_
  have hf := Option.some.inj hf
  subst hf
  exact ab_zret rfl rfl dX7_in_15 hK
def fX7_in (a0 : Int32) (a1 : Int32) (a2 : Int32) : Option Int32 := if (a0 : Int32) < a1 then bX7_in_14  else if a2 < (a0 : Int32) then bX7_in_14  else some 1
set_option maxRecDepth 20000 in
set_option maxHeartbeats 1000000 in
theorem kX7_in {l : Launch} {g : ab_G} {K : ab_K} {h : ab_H} {a0 : Int32} {a1 : Int32} {a2 : Int32} {r : Int32} (hf : fX7_in a0 a1 a2 = some r) (hK : K (some (.int r)) h) : ab_S l g mX7_in 0 0 0 [.int a0, .int a1, .int a2] h K := by
  unfold fX7_in at hf
  refine ab_enter (ls := [(0, .int a0), (1, .int a1), (2, .int a2)]) (by decide +kernel) rfl (Nat.le_of_ble_eq_true rfl) rfl ?_
  refine ab_iload_n (pc' := 1) (q := 0) dX7_in_0 rfl rfl rfl ?_
  refine ab_iload_n (pc' := 2) (q := 1) dX7_in_1 rfl rfl rfl ?_
  refine ab_icmp_lt (pc' := 5) (tgt := 14) dX7_in_2 (by decide) rfl (fun c1 => ?_) (fun c1 => ?_)
  · have hf := ab_ip c1 hf
    refine ab_drop (ls' := []) [] rfl ?_
    exact kbX7_in_14 hf hK
  · have hf := ab_iN c1 hf
    refine ab_iload_n (pc' := 6) (q := 0) dX7_in_5 rfl rfl rfl ?_
    refine ab_iload_n (pc' := 7) (q := 2) dX7_in_6 rfl rfl rfl ?_
    refine ab_icmp_gt (pc' := 10) (tgt := 14) dX7_in_7 (by decide) rfl (fun c2 => ?_) (fun c2 => ?_)
    · have hf := ab_ip c2 hf
      refine ab_drop (ls' := []) [] rfl ?_
      exact kbX7_in_14 hf hK
    · have hf := ab_iN c2 hf
      refine ab_iconst (pc' := 11) (v := 1) dX7_in_10 (by decide) rfl ?_
      refine ab_goto (tgt := 15) dX7_in_11 (by decide) ?_
      have hf := Option.some.inj hf
      subst hf
      exact ab_zret rfl rfl dX7_in_15 hK
-- DiskRestsModel.isDisk(I)Z (mode N, depth 1)
def fX7_isDisk (a0 : Int32) : Option Int32 := (fX7_in a0 0 3).bind (fun x1 => if (x1 : Int32) &&& 1 = x1 then some x1 else none)
set_option maxRecDepth 20000 in
set_option maxHeartbeats 1000000 in
theorem kX7_isDisk {l : Launch} {g : ab_G} {K : ab_K} {h : ab_H} {a0 : Int32} {r : Int32} (hf : fX7_isDisk a0 = some r) (hK : K (some (.int r)) h) : ab_S l g mX7_isDisk 1 0 0 [.int a0] h K := by
  unfold fX7_isDisk at hf
  refine ab_enter (ls := [(0, .int a0)]) (by decide +kernel) rfl (Nat.le_of_ble_eq_true rfl) rfl ?_
  refine ab_iload_n (pc' := 1) (q := 0) dX7_isDisk_0 rfl rfl rfl ?_
  refine ab_iconst (pc' := 2) (v := 0) dX7_isDisk_1 (by decide) rfl ?_
  refine ab_iconst (pc' := 3) (v := 3) dX7_isDisk_2 (by decide) rfl ?_
  obtain ⟨x1, ex1, hf⟩ := ab_bd hf
  refine ab_callS (pc' := 6) (Mc := mX7_in) (as := [.int a0, .int 0, .int 3]) (st := []) dX7_isDisk_3 ml_X7_90 okX7_in ss_X7_in rfl (by decide) (Nat.le_of_ble_eq_true rfl) (Nat.le_of_ble_eq_true rfl) (Nat.le_of_ble_eq_true rfl) rfl rfl (kX7_in ex1 ?_)
  show ab_Ev l g mX7_isDisk 1 0 0 6 [(0, .int a0)] [.int x1] h 0 0 K
  obtain ⟨n2, hf⟩ := ab_bg hf
  have hf := Option.some.inj hf
  subst hf
  exact ab_zretG rfl n2 dX7_isDisk_6 hK
-- DiskRestsModel.power(II)I (mode W, depth 2)
def fX7_power (h : ab_H) (a0 : Nat) (a1 : Int32) (a2 : Int32) : Option (Int32 × ab_H) := (fX7_isDisk a1).bind (fun x1 => if (x1 : Int32) = 0 then some ((-1), h) else (fX7_in a2 1 100).bind (fun x3 => if (x3 : Int32) = 0 then some ((-2), h) else (ab_gR h a0 7 1).bind (fun r5 => (ab_aI h r5 (4 * a1)).bind (fun x6 => (ab_gR h a0 7 1).bind (fun r7 => (ab_sI h r7 (4 * a1) a2).bind (fun h8 => (ab_gR h8 a0 7 0).bind (fun r9 => (ab_sI h8 r9 a1 0).bind (fun h10 => some (x6, h10)))))))))
set_option maxRecDepth 20000 in
set_option maxHeartbeats 1000000 in
theorem kX7_power {l : Launch} {g : ab_G} {K : ab_K} {h : ab_H} {a0 : Nat} {a1 : Int32} {a2 : Int32} {r : (Int32 × ab_H)} (hf : fX7_power h a0 a1 a2 = some r) (hK : K (some (.int r.1)) r.2) : ab_S l g mX7_power 2 0 0 [.ref a0, .int a1, .int a2] h K := by
  unfold fX7_power at hf
  refine ab_enter (ls := [(0, .ref a0), (1, .int a1), (2, .int a2)]) (by decide +kernel) rfl (Nat.le_of_ble_eq_true rfl) rfl ?_
  refine ab_iload_n (pc' := 1) (q := 1) dX7_power_0 rfl rfl rfl ?_
  obtain ⟨x1, ex1, hf⟩ := ab_bd hf
  refine ab_callS (pc' := 4) (Mc := mX7_isDisk) (as := [.int a1]) (st := []) dX7_power_1 ml_X7_97 okX7_isDisk ss_X7_isDisk rfl (by decide) (Nat.le_of_ble_eq_true rfl) (Nat.le_of_ble_eq_true rfl) (Nat.le_of_ble_eq_true rfl) rfl rfl (kX7_isDisk ex1 ?_)
  show ab_Ev l g mX7_power 2 0 0 4 [(0, .ref a0), (1, .int a1), (2, .int a2)] [.int x1] h 0 0 K
  refine ab_if_ne (pc' := 7) (tgt := 9) dX7_power_4 (by decide) rfl (fun c2 => ?_) (fun c2 => ?_)
  · have hf := ab_iN c2 hf
    refine ab_iload_n (pc' := 10) (q := 2) dX7_power_9 rfl rfl rfl ?_
    refine ab_iconst (pc' := 11) (v := 1) dX7_power_10 (by decide) rfl ?_
    refine ab_bipush (pc' := 13) (v := 100) dX7_power_11 (by decide) rfl ?_
    obtain ⟨x3, ex3, hf⟩ := ab_bd hf
    refine ab_callS (pc' := 16) (Mc := mX7_in) (as := [.int a2, .int 1, .int 100]) (st := []) dX7_power_13 ml_X7_90 okX7_in ss_X7_in rfl (by decide) (Nat.le_of_ble_eq_true rfl) (Nat.le_of_ble_eq_true rfl) (Nat.le_of_ble_eq_true rfl) rfl rfl (kX7_in ex3 ?_)
    show ab_Ev l g mX7_power 2 0 0 16 [(0, .ref a0), (1, .int a1), (2, .int a2)] [.int x3] h 0 0 K
    refine ab_if_ne (pc' := 19) (tgt := 22) dX7_power_16 (by decide) rfl (fun c4 => ?_) (fun c4 => ?_)
    · have hf := ab_iN c4 hf
      refine ab_aload_n (pc' := 23) (q := 0) dX7_power_22 rfl rfl rfl ?_
      obtain ⟨r5, er5, hf⟩ := ab_bd hf
      refine ab_getR (pc' := 26) (ci := 7) (k := 1) dX7_power_23 rfl (by decide) fl_X7_13 er5 rfl ?_
      refine ab_iconst (pc' := 27) (v := 4) dX7_power_26 (by decide) rfl ?_
      refine ab_iload_n (pc' := 28) (q := 1) dX7_power_27 rfl rfl rfl ?_
      refine ab_imul (pc' := 29) dX7_power_28 rfl ?_
      obtain ⟨x6, ex6, hf⟩ := ab_bd hf
      refine ab_iald (pc' := 30) dX7_power_29 ex6 rfl ?_
      refine ab_istore_n (pc' := 31) (ls' := [(3, .int x6), (0, .ref a0), (1, .int a1), (2, .int a2)]) dX7_power_30 rfl (by decide) rfl rfl ?_
      refine ab_aload_n (pc' := 32) (q := 1) dX7_power_31 rfl rfl rfl ?_
      obtain ⟨r7, er7, hf⟩ := ab_bd hf
      refine ab_getR (pc' := 35) (ci := 7) (k := 1) dX7_power_32 rfl (by decide) fl_X7_13 er7 rfl ?_
      refine ab_iconst (pc' := 36) (v := 4) dX7_power_35 (by decide) rfl ?_
      refine ab_iload_n (pc' := 37) (q := 2) dX7_power_36 rfl rfl rfl ?_
      refine ab_imul (pc' := 38) dX7_power_37 rfl ?_
      refine ab_iload_n (pc' := 39) (q := 3) dX7_power_38 rfl rfl rfl ?_
      obtain ⟨h8, eh8, hf⟩ := ab_bd hf
      refine ab_iast (pc' := 40) dX7_power_39 eh8 rfl ?_
      refine ab_aload_n (pc' := 41) (q := 1) dX7_power_40 rfl rfl rfl ?_
      obtain ⟨r9, er9, hf⟩ := ab_bd hf
      refine ab_getR (pc' := 44) (ci := 7) (k := 0) dX7_power_41 rfl (by decide) fl_X7_7 er9 rfl ?_
      refine ab_iload_n (pc' := 45) (q := 2) dX7_power_44 rfl rfl rfl ?_
      refine ab_iconst (pc' := 46) (v := 0) dX7_power_45 (by decide) rfl ?_
      obtain ⟨h10, eh10, hf⟩ := ab_bd hf
      refine ab_iast (pc' := 47) dX7_power_46 eh10 rfl ?_
      refine ab_iload_n (pc' := 48) (q := 0) dX7_power_47 rfl rfl rfl ?_
      have hf := Option.some.inj hf
      subst hf
      exact ab_iret rfl dX7_power_48 hK
    · have hf := ab_ip c4 hf
      refine ab_bipush (pc' := 21) (v := (-2)) dX7_power_19 (by decide) rfl ?_
      have hf := Option.some.inj hf
      subst hf
      exact ab_iret rfl dX7_power_21 hK
  · have hf := ab_ip c2 hf
    refine ab_iconst (pc' := 8) (v := (-1)) dX7_power_7 (by decide) rfl ?_
    have hf := Option.some.inj hf
    subst hf
    exact ab_iret rfl dX7_power_8 hK
-- DiskRestsModel.wakeOf(II)I (mode R, depth 0)
def fX7_wakeOf (h : ab_H) (a0 : Nat) (a1 : Int32) (a2 : Int32) : Option Int32 := if (a2 : Int32) = 0 then some 0 else (ab_gR h a0 7 2).bind (fun r2 => (ab_aI h r2 ((4 * a1) + a2)).bind (fun x3 => some x3))
set_option maxRecDepth 20000 in
set_option maxHeartbeats 1000000 in
theorem kX7_wakeOf {l : Launch} {g : ab_G} {K : ab_K} {h : ab_H} {a0 : Nat} {a1 : Int32} {a2 : Int32} {r : Int32} (hf : fX7_wakeOf h a0 a1 a2 = some r) (hK : K (some (.int r)) h) : ab_S l g mX7_wakeOf 0 0 0 [.ref a0, .int a1, .int a2] h K := by
  unfold fX7_wakeOf at hf
  refine ab_enter (ls := [(0, .ref a0), (1, .int a1), (2, .int a2)]) (by decide +kernel) rfl (Nat.le_of_ble_eq_true rfl) rfl ?_
  refine ab_iload_n (pc' := 1) (q := 2) dX7_wakeOf_0 rfl rfl rfl ?_
  refine ab_if_ne (pc' := 4) (tgt := 8) dX7_wakeOf_1 (by decide) rfl (fun c1 => ?_) (fun c1 => ?_)
  · have hf := ab_iN c1 hf
    refine ab_aload_n (pc' := 9) (q := 0) dX7_wakeOf_8 rfl rfl rfl ?_
    obtain ⟨r2, er2, hf⟩ := ab_bd hf
    refine ab_getR (pc' := 12) (ci := 7) (k := 2) dX7_wakeOf_9 rfl (by decide) fl_X7_16 er2 rfl ?_
    refine ab_iconst (pc' := 13) (v := 4) dX7_wakeOf_12 (by decide) rfl ?_
    refine ab_iload_n (pc' := 14) (q := 1) dX7_wakeOf_13 rfl rfl rfl ?_
    refine ab_imul (pc' := 15) dX7_wakeOf_14 rfl ?_
    refine ab_iload_n (pc' := 16) (q := 2) dX7_wakeOf_15 rfl rfl rfl ?_
    refine ab_iadd (pc' := 17) dX7_wakeOf_16 rfl ?_
    obtain ⟨x3, ex3, hf⟩ := ab_bd hf
    refine ab_iald (pc' := 18) dX7_wakeOf_17 ex3 rfl ?_
    have hf := Option.some.inj hf
    subst hf
    exact ab_iret rfl dX7_wakeOf_18 hK
  · have hf := ab_ip c1 hf
    refine ab_iconst (pc' := 5) (v := 0) dX7_wakeOf_4 (by decide) rfl ?_
    refine ab_goto (tgt := 18) dX7_wakeOf_5 (by decide) ?_
    have hf := Option.some.inj hf
    subst hf
    exact ab_iret rfl dX7_wakeOf_18 hK
-- DiskRestsModel.deeper(III)I (mode W, depth 2)
def bX7_deeper_30  (h : ab_H) : Option (Int32 × ab_H) := some ((-2), h)
set_option maxRecDepth 20000 in
set_option maxHeartbeats 1000000 in
theorem kbX7_deeper_30 {l : Launch} {g : ab_G} {K : ab_K} {h : ab_H}  {r : (Int32 × ab_H)} (hf : bX7_deeper_30 h = some r) (hK : K (some (.int r.1)) r.2) : ab_Ev l g mX7_deeper 2 0 0 30 [] [] h 0 0 K := by
  unfold bX7_deeper_30 at hf
  refine ab_bipush (pc' := 32) (v := (-2)) dX7_deeper_30 (by decide) rfl ?_
  have hf := Option.some.inj hf
  subst hf
  exact ab_iret rfl dX7_deeper_32 hK
def bX7_deeper_71  (h : ab_H) : Option (Int32 × ab_H) := some ((-5), h)
set_option maxRecDepth 20000 in
set_option maxHeartbeats 1000000 in
theorem kbX7_deeper_71 {l : Launch} {g : ab_G} {K : ab_K} {h : ab_H}  {r : (Int32 × ab_H)} (hf : bX7_deeper_71 h = some r) (hK : K (some (.int r.1)) r.2) : ab_Ev l g mX7_deeper 2 0 0 71 [] [] h 0 0 K := by
  unfold bX7_deeper_71 at hf
  refine ab_bipush (pc' := 73) (v := (-5)) dX7_deeper_71 (by decide) rfl ?_
  have hf := Option.some.inj hf
  subst hf
  exact ab_iret rfl dX7_deeper_73 hK
def fX7_deeper (h : ab_H) (a0 : Nat) (a1 : Int32) (a2 : Int32) (a3 : Int32) : Option (Int32 × ab_H) := (fX7_isDisk a1).bind (fun x1 => if (x1 : Int32) = 0 then some ((-1), h) else (fX7_in a2 0 99).bind (fun x3 => if (x3 : Int32) = 0 then bX7_deeper_30 h else (fX7_in a3 1 999).bind (fun x5 => if (x5 : Int32) = 0 then bX7_deeper_30 h else (ab_gR h a0 7 0).bind (fun r7 => (ab_aI h r7 a1).bind (fun x8 => (ab_gR h a0 7 1).bind (fun r9 => (ab_aI h r9 ((4 * a1) + x8)).bind (fun x10 => if x10 ≤ (a2 : Int32) then bX7_deeper_71 h else (ab_gR h a0 7 0).bind (fun r12 => (ab_aI h r12 a1).bind (fun x13 => (ab_ob h a0 7).bind (fun u14 => (fX7_wakeOf h a0 a1 x13).bind (fun x15 => if x15 < (a3 : Int32) then (ab_gR h a0 7 0).bind (fun r17 => (ab_aI h r17 a1).bind (fun x18 => if (x18 : Int32) = 3 then some ((-4), h) else (ab_gR h a0 7 1).bind (fun r20 => (ab_sI h r20 (((4 * a1) + x8) + 1) a2).bind (fun h21 => (ab_gR h21 a0 7 2).bind (fun r22 => (ab_sI h21 r22 (((4 * a1) + x8) + 1) a3).bind (fun h23 => (ab_gR h23 a0 7 0).bind (fun r24 => (ab_aI h23 r24 a1).bind (fun x25 => (ab_sI h23 r24 a1 (x25 + 1)).bind (fun h26 => (ab_gR h26 a0 7 0).bind (fun r27 => (ab_aI h26 r27 a1).bind (fun x28 => some (x28, h26)))))))))))) else bX7_deeper_71 h)))))))))))
set_option maxRecDepth 20000 in
set_option maxHeartbeats 1000000 in
theorem kX7_deeper {l : Launch} {g : ab_G} {K : ab_K} {h : ab_H} {a0 : Nat} {a1 : Int32} {a2 : Int32} {a3 : Int32} {r : (Int32 × ab_H)} (hf : fX7_deeper h a0 a1 a2 a3 = some r) (hK : K (some (.int r.1)) r.2) : ab_S l g mX7_deeper 2 0 0 [.ref a0, .int a1, .int a2, .int a3] h K := by
  unfold fX7_deeper at hf
  refine ab_enter (ls := [(0, .ref a0), (1, .int a1), (2, .int a2), (3, .int a3)]) (by decide +kernel) rfl (Nat.le_of_ble_eq_true rfl) rfl ?_
  refine ab_iload_n (pc' := 1) (q := 1) dX7_deeper_0 rfl rfl rfl ?_
  obtain ⟨x1, ex1, hf⟩ := ab_bd hf
  refine ab_callS (pc' := 4) (Mc := mX7_isDisk) (as := [.int a1]) (st := []) dX7_deeper_1 ml_X7_97 okX7_isDisk ss_X7_isDisk rfl (by decide) (Nat.le_of_ble_eq_true rfl) (Nat.le_of_ble_eq_true rfl) (Nat.le_of_ble_eq_true rfl) rfl rfl (kX7_isDisk ex1 ?_)
  show ab_Ev l g mX7_deeper 2 0 0 4 [(0, .ref a0), (1, .int a1), (2, .int a2), (3, .int a3)] [.int x1] h 0 0 K
  refine ab_if_ne (pc' := 7) (tgt := 9) dX7_deeper_4 (by decide) rfl (fun c2 => ?_) (fun c2 => ?_)
  · have hf := ab_iN c2 hf
    refine ab_iload_n (pc' := 10) (q := 2) dX7_deeper_9 rfl rfl rfl ?_
    refine ab_iconst (pc' := 11) (v := 0) dX7_deeper_10 (by decide) rfl ?_
    refine ab_bipush (pc' := 13) (v := 99) dX7_deeper_11 (by decide) rfl ?_
    obtain ⟨x3, ex3, hf⟩ := ab_bd hf
    refine ab_callS (pc' := 16) (Mc := mX7_in) (as := [.int a2, .int 0, .int 99]) (st := []) dX7_deeper_13 ml_X7_90 okX7_in ss_X7_in rfl (by decide) (Nat.le_of_ble_eq_true rfl) (Nat.le_of_ble_eq_true rfl) (Nat.le_of_ble_eq_true rfl) rfl rfl (kX7_in ex3 ?_)
    show ab_Ev l g mX7_deeper 2 0 0 16 [(0, .ref a0), (1, .int a1), (2, .int a2), (3, .int a3)] [.int x3] h 0 0 K
    refine ab_if_eq (pc' := 19) (tgt := 30) dX7_deeper_16 (by decide) rfl (fun c4 => ?_) (fun c4 => ?_)
    · have hf := ab_ip c4 hf
      refine ab_drop (ls' := []) [] rfl ?_
      exact kbX7_deeper_30 hf hK
    · have hf := ab_iN c4 hf
      refine ab_iload_n (pc' := 20) (q := 3) dX7_deeper_19 rfl rfl rfl ?_
      refine ab_iconst (pc' := 21) (v := 1) dX7_deeper_20 (by decide) rfl ?_
      refine ab_sipush (pc' := 24) (v := 999) dX7_deeper_21 (by decide) rfl ?_
      obtain ⟨x5, ex5, hf⟩ := ab_bd hf
      refine ab_callS (pc' := 27) (Mc := mX7_in) (as := [.int a3, .int 1, .int 999]) (st := []) dX7_deeper_24 ml_X7_90 okX7_in ss_X7_in rfl (by decide) (Nat.le_of_ble_eq_true rfl) (Nat.le_of_ble_eq_true rfl) (Nat.le_of_ble_eq_true rfl) rfl rfl (kX7_in ex5 ?_)
      show ab_Ev l g mX7_deeper 2 0 0 27 [(0, .ref a0), (1, .int a1), (2, .int a2), (3, .int a3)] [.int x5] h 0 0 K
      refine ab_if_ne (pc' := 30) (tgt := 33) dX7_deeper_27 (by decide) rfl (fun c6 => ?_) (fun c6 => ?_)
      · have hf := ab_iN c6 hf
        refine ab_iconst (pc' := 34) (v := 4) dX7_deeper_33 (by decide) rfl ?_
        refine ab_iload_n (pc' := 35) (q := 1) dX7_deeper_34 rfl rfl rfl ?_
        refine ab_imul (pc' := 36) dX7_deeper_35 rfl ?_
        refine ab_aload_n (pc' := 37) (q := 0) dX7_deeper_36 rfl rfl rfl ?_
        obtain ⟨r7, er7, hf⟩ := ab_bd hf
        refine ab_getR (pc' := 40) (ci := 7) (k := 0) dX7_deeper_37 rfl (by decide) fl_X7_7 er7 rfl ?_
        refine ab_iload_n (pc' := 41) (q := 1) dX7_deeper_40 rfl rfl rfl ?_
        obtain ⟨x8, ex8, hf⟩ := ab_bd hf
        refine ab_iald (pc' := 42) dX7_deeper_41 ex8 rfl ?_
        refine ab_iadd (pc' := 43) dX7_deeper_42 rfl ?_
        refine ab_istore (pc' := 45) (ls' := [(4, .int ((4 * a1) + x8)), (0, .ref a0), (1, .int a1), (2, .int a2), (3, .int a3)]) dX7_deeper_43 (by decide) rfl rfl ?_
        refine ab_iload_n (pc' := 46) (q := 3) dX7_deeper_45 rfl rfl rfl ?_
        refine ab_aload_n (pc' := 47) (q := 1) dX7_deeper_46 rfl rfl rfl ?_
        obtain ⟨r9, er9, hf⟩ := ab_bd hf
        refine ab_getR (pc' := 50) (ci := 7) (k := 1) dX7_deeper_47 rfl (by decide) fl_X7_13 er9 rfl ?_
        refine ab_iload (pc' := 52) (q := 0) dX7_deeper_50 rfl rfl ?_
        obtain ⟨x10, ex10, hf⟩ := ab_bd hf
        refine ab_iald (pc' := 53) dX7_deeper_52 ex10 rfl ?_
        refine ab_icmp_ge (pc' := 56) (tgt := 71) dX7_deeper_53 (by decide) rfl (fun c11 => ?_) (fun c11 => ?_)
        · have hf := ab_ip c11 hf
          refine ab_drop (ls' := []) [] rfl ?_
          exact kbX7_deeper_71 hf hK
        · have hf := ab_iN c11 hf
          refine ab_iload_n (pc' := 57) (q := 4) dX7_deeper_56 rfl rfl rfl ?_
          refine ab_aload_n (pc' := 58) (q := 1) dX7_deeper_57 rfl rfl rfl ?_
          refine ab_iload_n (pc' := 59) (q := 2) dX7_deeper_58 rfl rfl rfl ?_
          refine ab_aload_n (pc' := 60) (q := 1) dX7_deeper_59 rfl rfl rfl ?_
          obtain ⟨r12, er12, hf⟩ := ab_bd hf
          refine ab_getR (pc' := 63) (ci := 7) (k := 0) dX7_deeper_60 rfl (by decide) fl_X7_7 er12 rfl ?_
          refine ab_iload_n (pc' := 64) (q := 2) dX7_deeper_63 rfl rfl rfl ?_
          obtain ⟨x13, ex13, hf⟩ := ab_bd hf
          refine ab_iald (pc' := 65) dX7_deeper_64 ex13 rfl ?_
          obtain ⟨u14, eu14, hf⟩ := ab_bd hf
          obtain ⟨x15, ex15, hf⟩ := ab_bd hf
          refine ab_callV (pc' := 68) (Mc := mX7_wakeOf) (as := [.int a1, .int x13]) (st := [.int a3]) dX7_deeper_65 ml_X7_101 okX7_wakeOf im_X7_wakeOf se_X7_wakeOf rfl eu14 rfl (by decide) (Nat.le_of_ble_eq_true rfl) (Nat.le_of_ble_eq_true rfl) (Nat.le_of_ble_eq_true rfl) rfl rfl (kX7_wakeOf ex15 ?_)
          show ab_Ev l g mX7_deeper 2 0 0 68 [(4, .int ((4 * a1) + x8)), (0, .ref a0), (1, .int a1), (2, .int a2), (3, .int a3)] [.int x15, .int a3] h 0 0 K
          refine ab_icmp_gt (pc' := 71) (tgt := 74) dX7_deeper_68 (by decide) rfl (fun c16 => ?_) (fun c16 => ?_)
          · have hf := ab_ip c16 hf
            refine ab_aload_n (pc' := 75) (q := 1) dX7_deeper_74 rfl rfl rfl ?_
            obtain ⟨r17, er17, hf⟩ := ab_bd hf
            refine ab_getR (pc' := 78) (ci := 7) (k := 0) dX7_deeper_75 rfl (by decide) fl_X7_7 er17 rfl ?_
            refine ab_iload_n (pc' := 79) (q := 2) dX7_deeper_78 rfl rfl rfl ?_
            obtain ⟨x18, ex18, hf⟩ := ab_bd hf
            refine ab_iald (pc' := 80) dX7_deeper_79 ex18 rfl ?_
            refine ab_iconst (pc' := 81) (v := 3) dX7_deeper_80 (by decide) rfl ?_
            refine ab_icmp_ne (pc' := 84) (tgt := 87) dX7_deeper_81 (by decide) rfl (fun c19 => ?_) (fun c19 => ?_)
            · have hf := ab_iN c19 hf
              refine ab_aload_n (pc' := 88) (q := 1) dX7_deeper_87 rfl rfl rfl ?_
              obtain ⟨r20, er20, hf⟩ := ab_bd hf
              refine ab_getR (pc' := 91) (ci := 7) (k := 1) dX7_deeper_88 rfl (by decide) fl_X7_13 er20 rfl ?_
              refine ab_iload (pc' := 93) (q := 0) dX7_deeper_91 rfl rfl ?_
              refine ab_iconst (pc' := 94) (v := 1) dX7_deeper_93 (by decide) rfl ?_
              refine ab_iadd (pc' := 95) dX7_deeper_94 rfl ?_
              refine ab_iload_n (pc' := 96) (q := 3) dX7_deeper_95 rfl rfl rfl ?_
              obtain ⟨h21, eh21, hf⟩ := ab_bd hf
              refine ab_iast (pc' := 97) dX7_deeper_96 eh21 rfl ?_
              refine ab_aload_n (pc' := 98) (q := 1) dX7_deeper_97 rfl rfl rfl ?_
              obtain ⟨r22, er22, hf⟩ := ab_bd hf
              refine ab_getR (pc' := 101) (ci := 7) (k := 2) dX7_deeper_98 rfl (by decide) fl_X7_16 er22 rfl ?_
              refine ab_iload (pc' := 103) (q := 0) dX7_deeper_101 rfl rfl ?_
              refine ab_iconst (pc' := 104) (v := 1) dX7_deeper_103 (by decide) rfl ?_
              refine ab_iadd (pc' := 105) dX7_deeper_104 rfl ?_
              refine ab_iload_n (pc' := 106) (q := 4) dX7_deeper_105 rfl rfl rfl ?_
              obtain ⟨h23, eh23, hf⟩ := ab_bd hf
              refine ab_iast (pc' := 107) dX7_deeper_106 eh23 rfl ?_
              refine ab_aload_n (pc' := 108) (q := 1) dX7_deeper_107 rfl rfl rfl ?_
              obtain ⟨r24, er24, hf⟩ := ab_bd hf
              refine ab_getR (pc' := 111) (ci := 7) (k := 0) dX7_deeper_108 rfl (by decide) fl_X7_7 er24 rfl ?_
              refine ab_iload_n (pc' := 112) (q := 2) dX7_deeper_111 rfl rfl rfl ?_
              refine ab_dup2 (pc' := 113) dX7_deeper_112 rfl ?_
              obtain ⟨x25, ex25, hf⟩ := ab_bd hf
              refine ab_iald (pc' := 114) dX7_deeper_113 ex25 rfl ?_
              refine ab_iconst (pc' := 115) (v := 1) dX7_deeper_114 (by decide) rfl ?_
              refine ab_iadd (pc' := 116) dX7_deeper_115 rfl ?_
              obtain ⟨h26, eh26, hf⟩ := ab_bd hf
              refine ab_iast (pc' := 117) dX7_deeper_116 eh26 rfl ?_
              refine ab_aload_n (pc' := 118) (q := 1) dX7_deeper_117 rfl rfl rfl ?_
              obtain ⟨r27, er27, hf⟩ := ab_bd hf
              refine ab_getR (pc' := 121) (ci := 7) (k := 0) dX7_deeper_118 rfl (by decide) fl_X7_7 er27 rfl ?_
              refine ab_iload_n (pc' := 122) (q := 2) dX7_deeper_121 rfl rfl rfl ?_
              obtain ⟨x28, ex28, hf⟩ := ab_bd hf
              refine ab_iald (pc' := 123) dX7_deeper_122 ex28 rfl ?_
              have hf := Option.some.inj hf
              subst hf
              exact ab_iret rfl dX7_deeper_123 hK
            · have hf := ab_ip c19 hf
              refine ab_bipush (pc' := 86) (v := (-4)) dX7_deeper_84 (by decide) rfl ?_
              have hf := Option.some.inj hf
              subst hf
              exact ab_iret rfl dX7_deeper_86 hK
          · have hf := ab_iN c16 hf
            refine ab_drop (ls' := []) [] rfl ?_
            exact kbX7_deeper_71 hf hK
      · have hf := ab_ip c6 hf
        refine ab_drop (ls' := []) [] rfl ?_
        exact kbX7_deeper_30 hf hK
  · have hf := ab_ip c2 hf
    refine ab_iconst (pc' := 8) (v := (-1)) dX7_deeper_7 (by decide) rfl ?_
    have hf := Option.some.inj hf
    subst hf
    exact ab_iret rfl dX7_deeper_8 hK
-- DiskRestsModel.level(III)I (mode R, depth 2)
def bX7_level_21  (h : ab_H) : Option Int32 := some (-1)
set_option maxRecDepth 20000 in
set_option maxHeartbeats 1000000 in
theorem kbX7_level_21 {l : Launch} {g : ab_G} {K : ab_K} {h : ab_H}  {r : Int32} (hf : bX7_level_21 h = some r) (hK : K (some (.int r)) h) : ab_Ev l g mX7_level 2 0 0 21 [] [] h 0 0 K := by
  unfold bX7_level_21 at hf
  refine ab_iconst (pc' := 22) (v := (-1)) dX7_level_21 (by decide) rfl ?_
  have hf := Option.some.inj hf
  subst hf
  exact ab_iret rfl dX7_level_22 hK
def fX7_level (h : ab_H) (a0 : Nat) (a1 : Int32) (a2 : Int32) (a3 : Int32) : Option Int32 := (fX7_isDisk a1).bind (fun x1 => if (x1 : Int32) = 0 then bX7_level_21 h else (ab_gR h a0 7 0).bind (fun r3 => (ab_aI h r3 a1).bind (fun x4 => (fX7_in a2 0 x4).bind (fun x5 => if (x5 : Int32) = 0 then bX7_level_21 h else (fX7_in a3 0 1).bind (fun x7 => if (x7 : Int32) = 0 then some (-2) else if (a3 : Int32) = 0 then (ab_gR h a0 7 1).bind (fun r12 => (ab_aI h r12 ((4 * a1) + a2)).bind (fun x13 => some x13)) else (ab_ob h a0 7).bind (fun u10 => (fX7_wakeOf h a0 a1 a2).bind (fun x11 => some x11)))))))
set_option maxRecDepth 20000 in
set_option maxHeartbeats 1000000 in
theorem kX7_level {l : Launch} {g : ab_G} {K : ab_K} {h : ab_H} {a0 : Nat} {a1 : Int32} {a2 : Int32} {a3 : Int32} {r : Int32} (hf : fX7_level h a0 a1 a2 a3 = some r) (hK : K (some (.int r)) h) : ab_S l g mX7_level 2 0 0 [.ref a0, .int a1, .int a2, .int a3] h K := by
  unfold fX7_level at hf
  refine ab_enter (ls := [(0, .ref a0), (1, .int a1), (2, .int a2), (3, .int a3)]) (by decide +kernel) rfl (Nat.le_of_ble_eq_true rfl) rfl ?_
  refine ab_iload_n (pc' := 1) (q := 1) dX7_level_0 rfl rfl rfl ?_
  obtain ⟨x1, ex1, hf⟩ := ab_bd hf
  refine ab_callS (pc' := 4) (Mc := mX7_isDisk) (as := [.int a1]) (st := []) dX7_level_1 ml_X7_97 okX7_isDisk ss_X7_isDisk rfl (by decide) (Nat.le_of_ble_eq_true rfl) (Nat.le_of_ble_eq_true rfl) (Nat.le_of_ble_eq_true rfl) rfl rfl (kX7_isDisk ex1 ?_)
  show ab_Ev l g mX7_level 2 0 0 4 [(0, .ref a0), (1, .int a1), (2, .int a2), (3, .int a3)] [.int x1] h 0 0 K
  refine ab_if_eq (pc' := 7) (tgt := 21) dX7_level_4 (by decide) rfl (fun c2 => ?_) (fun c2 => ?_)
  · have hf := ab_ip c2 hf
    refine ab_drop (ls' := []) [] rfl ?_
    exact kbX7_level_21 hf hK
  · have hf := ab_iN c2 hf
    refine ab_iload_n (pc' := 8) (q := 2) dX7_level_7 rfl rfl rfl ?_
    refine ab_iconst (pc' := 9) (v := 0) dX7_level_8 (by decide) rfl ?_
    refine ab_aload_n (pc' := 10) (q := 0) dX7_level_9 rfl rfl rfl ?_
    obtain ⟨r3, er3, hf⟩ := ab_bd hf
    refine ab_getR (pc' := 13) (ci := 7) (k := 0) dX7_level_10 rfl (by decide) fl_X7_7 er3 rfl ?_
    refine ab_iload_n (pc' := 14) (q := 1) dX7_level_13 rfl rfl rfl ?_
    obtain ⟨x4, ex4, hf⟩ := ab_bd hf
    refine ab_iald (pc' := 15) dX7_level_14 ex4 rfl ?_
    obtain ⟨x5, ex5, hf⟩ := ab_bd hf
    refine ab_callS (pc' := 18) (Mc := mX7_in) (as := [.int a2, .int 0, .int x4]) (st := []) dX7_level_15 ml_X7_90 okX7_in ss_X7_in rfl (by decide) (Nat.le_of_ble_eq_true rfl) (Nat.le_of_ble_eq_true rfl) (Nat.le_of_ble_eq_true rfl) rfl rfl (kX7_in ex5 ?_)
    show ab_Ev l g mX7_level 2 0 0 18 [(0, .ref a0), (1, .int a1), (2, .int a2), (3, .int a3)] [.int x5] h 0 0 K
    refine ab_if_ne (pc' := 21) (tgt := 23) dX7_level_18 (by decide) rfl (fun c6 => ?_) (fun c6 => ?_)
    · have hf := ab_iN c6 hf
      refine ab_iload_n (pc' := 24) (q := 3) dX7_level_23 rfl rfl rfl ?_
      refine ab_iconst (pc' := 25) (v := 0) dX7_level_24 (by decide) rfl ?_
      refine ab_iconst (pc' := 26) (v := 1) dX7_level_25 (by decide) rfl ?_
      obtain ⟨x7, ex7, hf⟩ := ab_bd hf
      refine ab_callS (pc' := 29) (Mc := mX7_in) (as := [.int a3, .int 0, .int 1]) (st := []) dX7_level_26 ml_X7_90 okX7_in ss_X7_in rfl (by decide) (Nat.le_of_ble_eq_true rfl) (Nat.le_of_ble_eq_true rfl) (Nat.le_of_ble_eq_true rfl) rfl rfl (kX7_in ex7 ?_)
      show ab_Ev l g mX7_level 2 0 0 29 [(0, .ref a0), (1, .int a1), (2, .int a2), (3, .int a3)] [.int x7] h 0 0 K
      refine ab_if_ne (pc' := 32) (tgt := 35) dX7_level_29 (by decide) rfl (fun c8 => ?_) (fun c8 => ?_)
      · have hf := ab_iN c8 hf
        refine ab_iload_n (pc' := 36) (q := 3) dX7_level_35 rfl rfl rfl ?_
        refine ab_if_ne (pc' := 39) (tgt := 52) dX7_level_36 (by decide) rfl (fun c9 => ?_) (fun c9 => ?_)
        · have hf := ab_iN c9 hf
          refine ab_aload_n (pc' := 53) (q := 0) dX7_level_52 rfl rfl rfl ?_
          refine ab_iload_n (pc' := 54) (q := 1) dX7_level_53 rfl rfl rfl ?_
          refine ab_iload_n (pc' := 55) (q := 2) dX7_level_54 rfl rfl rfl ?_
          obtain ⟨u10, eu10, hf⟩ := ab_bd hf
          obtain ⟨x11, ex11, hf⟩ := ab_bd hf
          refine ab_callV (pc' := 58) (Mc := mX7_wakeOf) (as := [.int a1, .int a2]) (st := []) dX7_level_55 ml_X7_101 okX7_wakeOf im_X7_wakeOf se_X7_wakeOf rfl eu10 rfl (by decide) (Nat.le_of_ble_eq_true rfl) (Nat.le_of_ble_eq_true rfl) (Nat.le_of_ble_eq_true rfl) rfl rfl (kX7_wakeOf ex11 ?_)
          show ab_Ev l g mX7_level 2 0 0 58 [(0, .ref a0), (1, .int a1), (2, .int a2), (3, .int a3)] [.int x11] h 0 0 K
          have hf := Option.some.inj hf
          subst hf
          exact ab_iret rfl dX7_level_58 hK
        · have hf := ab_ip c9 hf
          refine ab_aload_n (pc' := 40) (q := 0) dX7_level_39 rfl rfl rfl ?_
          obtain ⟨r12, er12, hf⟩ := ab_bd hf
          refine ab_getR (pc' := 43) (ci := 7) (k := 1) dX7_level_40 rfl (by decide) fl_X7_13 er12 rfl ?_
          refine ab_iconst (pc' := 44) (v := 4) dX7_level_43 (by decide) rfl ?_
          refine ab_iload_n (pc' := 45) (q := 1) dX7_level_44 rfl rfl rfl ?_
          refine ab_imul (pc' := 46) dX7_level_45 rfl ?_
          refine ab_iload_n (pc' := 47) (q := 2) dX7_level_46 rfl rfl rfl ?_
          refine ab_iadd (pc' := 48) dX7_level_47 rfl ?_
          obtain ⟨x13, ex13, hf⟩ := ab_bd hf
          refine ab_iald (pc' := 49) dX7_level_48 ex13 rfl ?_
          refine ab_goto (tgt := 58) dX7_level_49 (by decide) ?_
          have hf := Option.some.inj hf
          subst hf
          exact ab_iret rfl dX7_level_58 hK
      · have hf := ab_ip c8 hf
        refine ab_bipush (pc' := 34) (v := (-2)) dX7_level_32 (by decide) rfl ?_
        have hf := Option.some.inj hf
        subst hf
        exact ab_iret rfl dX7_level_34 hK
    · have hf := ab_ip c6 hf
      refine ab_drop (ls' := []) [] rfl ?_
      exact kbX7_level_21 hf hK
-- DiskRestsModel.policy(III)I (mode W, depth 2)
def bX7_policy_48  (h : ab_H) : Option (Int32 × ab_H) := some ((-2), h)
set_option maxRecDepth 20000 in
set_option maxHeartbeats 1000000 in
theorem kbX7_policy_48 {l : Launch} {g : ab_G} {K : ab_K} {h : ab_H}  {r : (Int32 × ab_H)} (hf : bX7_policy_48 h = some r) (hK : K (some (.int r.1)) r.2) : ab_Ev l g mX7_policy 2 0 0 48 [] [] h 0 0 K := by
  unfold bX7_policy_48 at hf
  refine ab_bipush (pc' := 50) (v := (-2)) dX7_policy_48 (by decide) rfl ?_
  have hf := Option.some.inj hf
  subst hf
  exact ab_iret rfl dX7_policy_50 hK
def bX7_policy_83 (v4 : Int32) (s2 : Int32) (s1 : Int32) (s0 : Nat) (h : ab_H) : Option (Int32 × ab_H) := (ab_sI h s0 s1 s2).bind (fun h14 => some (v4, h14))
set_option maxRecDepth 20000 in
set_option maxHeartbeats 1000000 in
theorem kbX7_policy_83 {l : Launch} {g : ab_G} {K : ab_K} {h : ab_H} {v4 : Int32} {s2 : Int32} {s1 : Int32} {s0 : Nat} {r : (Int32 × ab_H)} (hf : bX7_policy_83 v4 s2 s1 s0 h = some r) (hK : K (some (.int r.1)) r.2) : ab_Ev l g mX7_policy 2 0 0 83 [(4, .int v4)] [.int s2, .int s1, .ref s0] h 0 0 K := by
  unfold bX7_policy_83 at hf
  obtain ⟨h14, eh14, hf⟩ := ab_bd hf
  refine ab_iast (pc' := 84) dX7_policy_83 eh14 rfl ?_
  refine ab_iload (pc' := 86) (q := 0) dX7_policy_84 rfl rfl ?_
  have hf := Option.some.inj hf
  subst hf
  exact ab_iret rfl dX7_policy_86 hK
def bX7_policy_51 (v0 : Nat) (v1 : Int32) (v2 : Int32) (v3 : Int32) (h : ab_H) : Option (Int32 × ab_H) := (ab_gR h v0 7 3).bind (fun r7 => (ab_aI h r7 v1).bind (fun x8 => (ab_gR h v0 7 3).bind (fun r9 => (ab_sI h r9 v1 v2).bind (fun h10 => (ab_gR h10 v0 7 4).bind (fun r11 => if (2 : Int32) = 0 then none else if ((v2 - v2 / 2 * 2) : Int32) = 1 then bX7_policy_83 x8 v3 v1 r11 h10 else bX7_policy_83 x8 1 v1 r11 h10)))))
set_option maxRecDepth 20000 in
set_option maxHeartbeats 1000000 in
theorem kbX7_policy_51 {l : Launch} {g : ab_G} {K : ab_K} {h : ab_H} {v0 : Nat} {v1 : Int32} {v2 : Int32} {v3 : Int32} {r : (Int32 × ab_H)} (hf : bX7_policy_51 v0 v1 v2 v3 h = some r) (hK : K (some (.int r.1)) r.2) : ab_Ev l g mX7_policy 2 0 0 51 [(0, .ref v0), (1, .int v1), (2, .int v2), (3, .int v3)] [] h 0 0 K := by
  unfold bX7_policy_51 at hf
  refine ab_aload_n (pc' := 52) (q := 0) dX7_policy_51 rfl rfl rfl ?_
  obtain ⟨r7, er7, hf⟩ := ab_bd hf
  refine ab_getR (pc' := 55) (ci := 7) (k := 3) dX7_policy_52 rfl (by decide) fl_X7_19 er7 rfl ?_
  refine ab_iload_n (pc' := 56) (q := 1) dX7_policy_55 rfl rfl rfl ?_
  obtain ⟨x8, ex8, hf⟩ := ab_bd hf
  refine ab_iald (pc' := 57) dX7_policy_56 ex8 rfl ?_
  refine ab_istore (pc' := 59) (ls' := [(4, .int x8), (0, .ref v0), (1, .int v1), (2, .int v2), (3, .int v3)]) dX7_policy_57 (by decide) rfl rfl ?_
  refine ab_aload_n (pc' := 60) (q := 1) dX7_policy_59 rfl rfl rfl ?_
  obtain ⟨r9, er9, hf⟩ := ab_bd hf
  refine ab_getR (pc' := 63) (ci := 7) (k := 3) dX7_policy_60 rfl (by decide) fl_X7_19 er9 rfl ?_
  refine ab_iload_n (pc' := 64) (q := 2) dX7_policy_63 rfl rfl rfl ?_
  refine ab_iload_n (pc' := 65) (q := 3) dX7_policy_64 rfl rfl rfl ?_
  obtain ⟨h10, eh10, hf⟩ := ab_bd hf
  refine ab_iast (pc' := 66) dX7_policy_65 eh10 rfl ?_
  refine ab_aload_n (pc' := 67) (q := 1) dX7_policy_66 rfl rfl rfl ?_
  obtain ⟨r11, er11, hf⟩ := ab_bd hf
  refine ab_getR (pc' := 70) (ci := 7) (k := 4) dX7_policy_67 rfl (by decide) fl_X7_22 er11 rfl ?_
  refine ab_iload_n (pc' := 71) (q := 2) dX7_policy_70 rfl rfl rfl ?_
  refine ab_iload_n (pc' := 72) (q := 3) dX7_policy_71 rfl rfl rfl ?_
  refine ab_iconst (pc' := 73) (v := 2) dX7_policy_72 (by decide) rfl ?_
  obtain ⟨n12, hf⟩ := ab_nz hf
  refine ab_irem (pc' := 74) dX7_policy_73 n12 rfl ?_
  refine ab_iconst (pc' := 75) (v := 1) dX7_policy_74 (by decide) rfl ?_
  refine ab_icmp_ne (pc' := 78) (tgt := 82) dX7_policy_75 (by decide) rfl (fun c13 => ?_) (fun c13 => ?_)
  · have hf := ab_iN c13 hf
    refine ab_iconst (pc' := 83) (v := 1) dX7_policy_82 (by decide) rfl ?_
    refine ab_drop (ls' := [(4, .int x8)]) [0] rfl ?_
    exact kbX7_policy_83 hf hK
  · have hf := ab_ip c13 hf
    refine ab_iload_n (pc' := 79) (q := 4) dX7_policy_78 rfl rfl rfl ?_
    refine ab_goto (tgt := 83) dX7_policy_79 (by decide) ?_
    refine ab_drop (ls' := [(4, .int x8)]) [0] rfl ?_
    exact kbX7_policy_83 hf hK
def bX7_policy_34 (v0 : Nat) (v1 : Int32) (v2 : Int32) (v3 : Int32) (h : ab_H) : Option (Int32 × ab_H) := if (v2 : Int32) = 3 then (fX7_in v3 1 4).bind (fun x15 => if (x15 : Int32) = 0 then bX7_policy_48 h else bX7_policy_51 v0 v1 v2 v3 h) else bX7_policy_51 v0 v1 v2 v3 h
set_option maxRecDepth 20000 in
set_option maxHeartbeats 1000000 in
theorem kbX7_policy_34 {l : Launch} {g : ab_G} {K : ab_K} {h : ab_H} {v0 : Nat} {v1 : Int32} {v2 : Int32} {v3 : Int32} {r : (Int32 × ab_H)} (hf : bX7_policy_34 v0 v1 v2 v3 h = some r) (hK : K (some (.int r.1)) r.2) : ab_Ev l g mX7_policy 2 0 0 34 [(0, .ref v0), (1, .int v1), (2, .int v2), (3, .int v3)] [] h 0 0 K := by
  unfold bX7_policy_34 at hf
  refine ab_iload_n (pc' := 35) (q := 2) dX7_policy_34 rfl rfl rfl ?_
  refine ab_iconst (pc' := 36) (v := 3) dX7_policy_35 (by decide) rfl ?_
  refine ab_icmp_ne (pc' := 39) (tgt := 51) dX7_policy_36 (by decide) rfl (fun c6 => ?_) (fun c6 => ?_)
  · have hf := ab_iN c6 hf
    exact kbX7_policy_51 hf hK
  · have hf := ab_ip c6 hf
    refine ab_iload_n (pc' := 40) (q := 3) dX7_policy_39 rfl rfl rfl ?_
    refine ab_iconst (pc' := 41) (v := 1) dX7_policy_40 (by decide) rfl ?_
    refine ab_iconst (pc' := 42) (v := 4) dX7_policy_41 (by decide) rfl ?_
    obtain ⟨x15, ex15, hf⟩ := ab_bd hf
    refine ab_callS (pc' := 45) (Mc := mX7_in) (as := [.int v3, .int 1, .int 4]) (st := []) dX7_policy_42 ml_X7_90 okX7_in ss_X7_in rfl (by decide) (Nat.le_of_ble_eq_true rfl) (Nat.le_of_ble_eq_true rfl) (Nat.le_of_ble_eq_true rfl) rfl rfl (kX7_in ex15 ?_)
    show ab_Ev l g mX7_policy 2 0 0 45 [(0, .ref v0), (1, .int v1), (2, .int v2), (3, .int v3)] [.int x15] h 0 0 K
    refine ab_if_ne (pc' := 48) (tgt := 51) dX7_policy_45 (by decide) rfl (fun c16 => ?_) (fun c16 => ?_)
    · have hf := ab_iN c16 hf
      exact kbX7_policy_51 hf hK
    · have hf := ab_ip c16 hf
      refine ab_drop (ls' := []) [] rfl ?_
      exact kbX7_policy_48 hf hK
def fX7_policy (h : ab_H) (a0 : Nat) (a1 : Int32) (a2 : Int32) (a3 : Int32) : Option (Int32 × ab_H) := (fX7_isDisk a1).bind (fun x1 => if (x1 : Int32) = 0 then some ((-1), h) else (fX7_in a2 0 3).bind (fun x3 => if (x3 : Int32) = 0 then bX7_policy_48 h else if (a2 : Int32) = 1 then (fX7_in a3 1 500).bind (fun x17 => if (x17 : Int32) = 0 then bX7_policy_48 h else bX7_policy_34 a0 a1 a2 a3 h) else bX7_policy_34 a0 a1 a2 a3 h))
set_option maxRecDepth 20000 in
set_option maxHeartbeats 1000000 in
theorem kX7_policy {l : Launch} {g : ab_G} {K : ab_K} {h : ab_H} {a0 : Nat} {a1 : Int32} {a2 : Int32} {a3 : Int32} {r : (Int32 × ab_H)} (hf : fX7_policy h a0 a1 a2 a3 = some r) (hK : K (some (.int r.1)) r.2) : ab_S l g mX7_policy 2 0 0 [.ref a0, .int a1, .int a2, .int a3] h K := by
  unfold fX7_policy at hf
  refine ab_enter (ls := [(0, .ref a0), (1, .int a1), (2, .int a2), (3, .int a3)]) (by decide +kernel) rfl (Nat.le_of_ble_eq_true rfl) rfl ?_
  refine ab_iload_n (pc' := 1) (q := 1) dX7_policy_0 rfl rfl rfl ?_
  obtain ⟨x1, ex1, hf⟩ := ab_bd hf
  refine ab_callS (pc' := 4) (Mc := mX7_isDisk) (as := [.int a1]) (st := []) dX7_policy_1 ml_X7_97 okX7_isDisk ss_X7_isDisk rfl (by decide) (Nat.le_of_ble_eq_true rfl) (Nat.le_of_ble_eq_true rfl) (Nat.le_of_ble_eq_true rfl) rfl rfl (kX7_isDisk ex1 ?_)
  show ab_Ev l g mX7_policy 2 0 0 4 [(0, .ref a0), (1, .int a1), (2, .int a2), (3, .int a3)] [.int x1] h 0 0 K
  refine ab_if_ne (pc' := 7) (tgt := 9) dX7_policy_4 (by decide) rfl (fun c2 => ?_) (fun c2 => ?_)
  · have hf := ab_iN c2 hf
    refine ab_iload_n (pc' := 10) (q := 2) dX7_policy_9 rfl rfl rfl ?_
    refine ab_iconst (pc' := 11) (v := 0) dX7_policy_10 (by decide) rfl ?_
    refine ab_iconst (pc' := 12) (v := 3) dX7_policy_11 (by decide) rfl ?_
    obtain ⟨x3, ex3, hf⟩ := ab_bd hf
    refine ab_callS (pc' := 15) (Mc := mX7_in) (as := [.int a2, .int 0, .int 3]) (st := []) dX7_policy_12 ml_X7_90 okX7_in ss_X7_in rfl (by decide) (Nat.le_of_ble_eq_true rfl) (Nat.le_of_ble_eq_true rfl) (Nat.le_of_ble_eq_true rfl) rfl rfl (kX7_in ex3 ?_)
    show ab_Ev l g mX7_policy 2 0 0 15 [(0, .ref a0), (1, .int a1), (2, .int a2), (3, .int a3)] [.int x3] h 0 0 K
    refine ab_if_eq (pc' := 18) (tgt := 48) dX7_policy_15 (by decide) rfl (fun c4 => ?_) (fun c4 => ?_)
    · have hf := ab_ip c4 hf
      refine ab_drop (ls' := []) [] rfl ?_
      exact kbX7_policy_48 hf hK
    · have hf := ab_iN c4 hf
      refine ab_iload_n (pc' := 19) (q := 2) dX7_policy_18 rfl rfl rfl ?_
      refine ab_iconst (pc' := 20) (v := 1) dX7_policy_19 (by decide) rfl ?_
      refine ab_icmp_ne (pc' := 23) (tgt := 34) dX7_policy_20 (by decide) rfl (fun c5 => ?_) (fun c5 => ?_)
      · have hf := ab_iN c5 hf
        exact kbX7_policy_34 hf hK
      · have hf := ab_ip c5 hf
        refine ab_iload_n (pc' := 24) (q := 3) dX7_policy_23 rfl rfl rfl ?_
        refine ab_iconst (pc' := 25) (v := 1) dX7_policy_24 (by decide) rfl ?_
        refine ab_sipush (pc' := 28) (v := 500) dX7_policy_25 (by decide) rfl ?_
        obtain ⟨x17, ex17, hf⟩ := ab_bd hf
        refine ab_callS (pc' := 31) (Mc := mX7_in) (as := [.int a3, .int 1, .int 500]) (st := []) dX7_policy_28 ml_X7_90 okX7_in ss_X7_in rfl (by decide) (Nat.le_of_ble_eq_true rfl) (Nat.le_of_ble_eq_true rfl) (Nat.le_of_ble_eq_true rfl) rfl rfl (kX7_in ex17 ?_)
        show ab_Ev l g mX7_policy 2 0 0 31 [(0, .ref a0), (1, .int a1), (2, .int a2), (3, .int a3)] [.int x17] h 0 0 K
        refine ab_if_eq (pc' := 34) (tgt := 48) dX7_policy_31 (by decide) rfl (fun c18 => ?_) (fun c18 => ?_)
        · have hf := ab_ip c18 hf
          refine ab_drop (ls' := []) [] rfl ?_
          exact kbX7_policy_48 hf hK
        · have hf := ab_iN c18 hf
          exact kbX7_policy_34 hf hK
  · have hf := ab_ip c2 hf
    refine ab_iconst (pc' := 8) (v := (-1)) dX7_policy_7 (by decide) rfl ?_
    have hf := Option.some.inj hf
    subst hf
    exact ab_iret rfl dX7_policy_8 hK
