-- DiskRests.partOfFraction(III)I (mode N, depth 1)
def bX6_partOfFraction_19 (v3 : Int32) (s0 : Int32) : Option Int32 := if (v3 : Int32) = 0 then none else some (s0 / v3)
set_option maxRecDepth 20000 in
set_option maxHeartbeats 1000000 in
theorem kbX6_partOfFraction_19 {l : Launch} {g : ab_G} {K : ab_K} {h : ab_H} {v3 : Int32} {s0 : Int32} {r : Int32} (hf : bX6_partOfFraction_19 v3 s0 = some r) (hK : K (some (.int r)) h) : ab_Ev l g mX6_partOfFraction 1 0 0 19 [(3, .int v3)] [.int s0] h 0 0 K := by
  unfold bX6_partOfFraction_19 at hf
  refine ab_iload_n (pc' := 20) (q := 0) dX6_partOfFraction_19 rfl rfl rfl ?_
  obtain ⟨n3, hf⟩ := ab_nz hf
  refine ab_idiv (pc' := 21) dX6_partOfFraction_20 n3 rfl ?_
  have hf := Option.some.inj hf
  subst hf
  exact ab_iret rfl dX6_partOfFraction_21 hK
def fX6_partOfFraction (a0 : Int32) (a1 : Int32) (a2 : Int32) : Option Int32 := (fX6_commonDivisor a0 a1).bind (fun x1 => if (a2 : Int32) = 0 then bX6_partOfFraction_19 (ab_max 1 x1) a0 else bX6_partOfFraction_19 (ab_max 1 x1) a1)
set_option maxRecDepth 20000 in
set_option maxHeartbeats 1000000 in
theorem kX6_partOfFraction {l : Launch} {g : ab_G} {K : ab_K} {h : ab_H} {a0 : Int32} {a1 : Int32} {a2 : Int32} {r : Int32} (hf : fX6_partOfFraction a0 a1 a2 = some r) (hK : K (some (.int r)) h) : ab_S l g mX6_partOfFraction 1 0 0 [.int a0, .int a1, .int a2] h K := by
  unfold fX6_partOfFraction at hf
  refine ab_enter (ls := [(0, .int a0), (1, .int a1), (2, .int a2)]) (by decide +kernel) rfl (Nat.le_of_ble_eq_true rfl) rfl ?_
  refine ab_iconst (pc' := 1) (v := 1) dX6_partOfFraction_0 (by decide) rfl ?_
  refine ab_iload_n (pc' := 2) (q := 0) dX6_partOfFraction_1 rfl rfl rfl ?_
  refine ab_iload_n (pc' := 3) (q := 1) dX6_partOfFraction_2 rfl rfl rfl ?_
  obtain ⟨x1, ex1, hf⟩ := ab_bd hf
  refine ab_callS (pc' := 6) (Mc := mX6_commonDivisor) (as := [.int a0, .int a1]) (st := [.int 1]) dX6_partOfFraction_3 ml_X6_217 okX6_commonDivisor ss_X6_commonDivisor rfl (by decide) (Nat.le_of_ble_eq_true rfl) (Nat.le_of_ble_eq_true rfl) (Nat.le_of_ble_eq_true rfl) rfl rfl (kX6_commonDivisor ex1 ?_)
  show ab_Ev l g mX6_partOfFraction 1 0 0 6 [(0, .int a0), (1, .int a1), (2, .int a2)] [.int x1, .int 1] h 0 0 K
  refine ab_mmaxF (pc' := 9) dX6_partOfFraction_6 mk_X6_220 (by decide) (Nat.le_of_ble_eq_true rfl) (Nat.le_of_ble_eq_true rfl) (Nat.le_of_ble_eq_true rfl) rfl ?_
  refine ab_istore_n (pc' := 10) (ls' := [(3, .int (ab_max 1 x1)), (0, .int a0), (1, .int a1), (2, .int a2)]) dX6_partOfFraction_9 rfl (by decide) rfl rfl ?_
  refine ab_iload_n (pc' := 11) (q := 3) dX6_partOfFraction_10 rfl rfl rfl ?_
  refine ab_if_ne (pc' := 14) (tgt := 18) dX6_partOfFraction_11 (by decide) rfl (fun c2 => ?_) (fun c2 => ?_)
  · have hf := ab_iN c2 hf
    refine ab_iload_n (pc' := 19) (q := 2) dX6_partOfFraction_18 rfl rfl rfl ?_
    refine ab_drop (ls' := [(3, .int (ab_max 1 x1))]) [0] rfl ?_
    exact kbX6_partOfFraction_19 hf hK
  · have hf := ab_ip c2 hf
    refine ab_iload_n (pc' := 15) (q := 1) dX6_partOfFraction_14 rfl rfl rfl ?_
    refine ab_goto (tgt := 19) dX6_partOfFraction_15 (by decide) ?_
    refine ab_drop (ls' := [(3, .int (ab_max 1 x1))]) [0] rfl ?_
    exact kbX6_partOfFraction_19 hf hK
-- DiskRests.worst(III)I (mode R, depth 4)
def bX6_worst_29  (h : ab_H) : Option Int32 := some (-2)
set_option maxRecDepth 20000 in
set_option maxHeartbeats 1000000 in
theorem kbX6_worst_29 {l : Launch} {g : ab_G} {K : ab_K} {h : ab_H}  {r : Int32} (hf : bX6_worst_29 h = some r) (hK : K (some (.int r)) h) : ab_Ev l g mX6_worst 4 0 0 29 [] [] h 0 0 K := by
  unfold bX6_worst_29 at hf
  refine ab_bipush (pc' := 31) (v := (-2)) dX6_worst_29 (by decide) rfl ?_
  have hf := Option.some.inj hf
  subst hf
  exact ab_iret rfl dX6_worst_31 hK
def fX6_worst (h : ab_H) (a0 : Nat) (a1 : Int32) (a2 : Int32) (a3 : Int32) : Option Int32 := (fX6_isDisk a1).bind (fun x1 => if (x1 : Int32) = 0 then some (-1) else (fX6_within a2 1 1000).bind (fun x3 => if (x3 : Int32) = 0 then bX6_worst_29 h else (fX6_within a3 0 2).bind (fun x5 => if (x5 : Int32) = 0 then bX6_worst_29 h else (ab_gR h a0 6 0).bind (fun r7 => (ab_gR h r7 5 0).bind (fun r8 => (ab_aR h r8 a1).bind (fun r9 => (ab_gI h r9 1 3).bind (fun x10 => if (x10 : Int32) = 3 then some (-3) else (ab_ob h r9 1).bind (fun u12 => (fX1_worstTicks h r9 a2).bind (fun x13 => if (a3 : Int32) = 2 then some x13 else (ab_ob h r9 1).bind (fun u15 => (fX1_costByPolicy h r9 x13).bind (fun x16 => (ab_ob h r9 1).bind (fun u17 => (fX1_leastCost h r9 x13).bind (fun x18 => (fX6_partOfFraction x16 x18 a3).bind (fun x19 => some x19))))))))))))))
set_option maxRecDepth 20000 in
set_option maxHeartbeats 1000000 in
theorem kX6_worst {l : Launch} {g : ab_G} {K : ab_K} {h : ab_H} {a0 : Nat} {a1 : Int32} {a2 : Int32} {a3 : Int32} {r : Int32} (hf : fX6_worst h a0 a1 a2 a3 = some r) (hK : K (some (.int r)) h) : ab_S l g mX6_worst 4 0 0 [.ref a0, .int a1, .int a2, .int a3] h K := by
  unfold fX6_worst at hf
  refine ab_enter (ls := [(0, .ref a0), (1, .int a1), (2, .int a2), (3, .int a3)]) (by decide +kernel) rfl (Nat.le_of_ble_eq_true rfl) rfl ?_
  refine ab_iload_n (pc' := 1) (q := 1) dX6_worst_0 rfl rfl rfl ?_
  obtain ⟨x1, ex1, hf⟩ := ab_bd hf
  refine ab_callS (pc' := 4) (Mc := mX6_isDisk) (as := [.int a1]) (st := []) dX6_worst_1 ml_X6_38 okX6_isDisk ss_X6_isDisk rfl (by decide) (Nat.le_of_ble_eq_true rfl) (Nat.le_of_ble_eq_true rfl) (Nat.le_of_ble_eq_true rfl) rfl rfl (kX6_isDisk ex1 ?_)
  show ab_Ev l g mX6_worst 4 0 0 4 [(0, .ref a0), (1, .int a1), (2, .int a2), (3, .int a3)] [.int x1] h 0 0 K
  refine ab_if_ne (pc' := 7) (tgt := 9) dX6_worst_4 (by decide) rfl (fun c2 => ?_) (fun c2 => ?_)
  · have hf := ab_iN c2 hf
    refine ab_iload_n (pc' := 10) (q := 2) dX6_worst_9 rfl rfl rfl ?_
    refine ab_iconst (pc' := 11) (v := 1) dX6_worst_10 (by decide) rfl ?_
    refine ab_sipush (pc' := 14) (v := 1000) dX6_worst_11 (by decide) rfl ?_
    obtain ⟨x3, ex3, hf⟩ := ab_bd hf
    refine ab_callS (pc' := 17) (Mc := mX6_within) (as := [.int a2, .int 1, .int 1000]) (st := []) dX6_worst_14 ml_X6_42 okX6_within ss_X6_within rfl (by decide) (Nat.le_of_ble_eq_true rfl) (Nat.le_of_ble_eq_true rfl) (Nat.le_of_ble_eq_true rfl) rfl rfl (kX6_within ex3 ?_)
    show ab_Ev l g mX6_worst 4 0 0 17 [(0, .ref a0), (1, .int a1), (2, .int a2), (3, .int a3)] [.int x3] h 0 0 K
    refine ab_if_eq (pc' := 20) (tgt := 29) dX6_worst_17 (by decide) rfl (fun c4 => ?_) (fun c4 => ?_)
    · have hf := ab_ip c4 hf
      refine ab_drop (ls' := []) [] rfl ?_
      exact kbX6_worst_29 hf hK
    · have hf := ab_iN c4 hf
      refine ab_iload_n (pc' := 21) (q := 3) dX6_worst_20 rfl rfl rfl ?_
      refine ab_iconst (pc' := 22) (v := 0) dX6_worst_21 (by decide) rfl ?_
      refine ab_iconst (pc' := 23) (v := 2) dX6_worst_22 (by decide) rfl ?_
      obtain ⟨x5, ex5, hf⟩ := ab_bd hf
      refine ab_callS (pc' := 26) (Mc := mX6_within) (as := [.int a3, .int 0, .int 2]) (st := []) dX6_worst_23 ml_X6_42 okX6_within ss_X6_within rfl (by decide) (Nat.le_of_ble_eq_true rfl) (Nat.le_of_ble_eq_true rfl) (Nat.le_of_ble_eq_true rfl) rfl rfl (kX6_within ex5 ?_)
      show ab_Ev l g mX6_worst 4 0 0 26 [(0, .ref a0), (1, .int a1), (2, .int a2), (3, .int a3)] [.int x5] h 0 0 K
      refine ab_if_ne (pc' := 29) (tgt := 32) dX6_worst_26 (by decide) rfl (fun c6 => ?_) (fun c6 => ?_)
      · have hf := ab_iN c6 hf
        refine ab_aload_n (pc' := 33) (q := 0) dX6_worst_32 rfl rfl rfl ?_
        obtain ⟨r7, er7, hf⟩ := ab_bd hf
        refine ab_getR (pc' := 36) (ci := 6) (k := 0) dX6_worst_33 rfl (by decide) fl_X6_10 er7 rfl ?_
        obtain ⟨r8, er8, hf⟩ := ab_bd hf
        refine ab_getR (pc' := 39) (ci := 5) (k := 0) dX6_worst_36 rfl (by decide) fl_X6_46 er8 rfl ?_
        refine ab_iload_n (pc' := 40) (q := 1) dX6_worst_39 rfl rfl rfl ?_
        obtain ⟨r9, er9, hf⟩ := ab_bd hf
        refine ab_aald (pc' := 41) dX6_worst_40 er9 rfl ?_
        refine ab_astore (pc' := 43) (ls' := [(4, .ref r9), (0, .ref a0), (1, .int a1), (2, .int a2), (3, .int a3)]) dX6_worst_41 (by decide) rfl rfl ?_
        refine ab_aload (pc' := 45) (q := 0) dX6_worst_43 rfl rfl ?_
        obtain ⟨x10, ex10, hf⟩ := ab_bd hf
        refine ab_getI (pc' := 48) (ci := 1) (k := 3) dX6_worst_45 rfl (by decide) fl_X6_77 ex10 rfl ?_
        refine ab_iconst (pc' := 49) (v := 3) dX6_worst_48 (by decide) rfl ?_
        refine ab_icmp_ne (pc' := 52) (tgt := 55) dX6_worst_49 (by decide) rfl (fun c11 => ?_) (fun c11 => ?_)
        · have hf := ab_iN c11 hf
          refine ab_aload (pc' := 57) (q := 0) dX6_worst_55 rfl rfl ?_
          refine ab_iload_n (pc' := 58) (q := 3) dX6_worst_57 rfl rfl rfl ?_
          obtain ⟨u12, eu12, hf⟩ := ab_bd hf
          obtain ⟨x13, ex13, hf⟩ := ab_bd hf
          refine ab_callV (pc' := 61) (Mc := mX1_worstTicks) (as := [.int a2]) (st := []) dX6_worst_58 ml_X6_191 okX1_worstTicks im_X1_worstTicks se_X1_worstTicks rfl eu12 rfl (by decide) (Nat.le_of_ble_eq_true rfl) (Nat.le_of_ble_eq_true rfl) (Nat.le_of_ble_eq_true rfl) rfl rfl (kX1_worstTicks ex13 ?_)
          show ab_Ev l g mX6_worst 4 0 0 61 [(4, .ref r9), (0, .ref a0), (1, .int a1), (2, .int a2), (3, .int a3)] [.int x13] h 0 0 K
          refine ab_istore (pc' := 63) (ls' := [(5, .int x13), (4, .ref r9), (0, .ref a0), (1, .int a1), (2, .int a2), (3, .int a3)]) dX6_worst_61 (by decide) rfl rfl ?_
          refine ab_iload_n (pc' := 64) (q := 5) dX6_worst_63 rfl rfl rfl ?_
          refine ab_iconst (pc' := 65) (v := 2) dX6_worst_64 (by decide) rfl ?_
          refine ab_icmp_ne (pc' := 68) (tgt := 71) dX6_worst_65 (by decide) rfl (fun c14 => ?_) (fun c14 => ?_)
          · have hf := ab_iN c14 hf
            refine ab_aload (pc' := 73) (q := 1) dX6_worst_71 rfl rfl ?_
            refine ab_iload (pc' := 75) (q := 0) dX6_worst_73 rfl rfl ?_
            obtain ⟨u15, eu15, hf⟩ := ab_bd hf
            obtain ⟨x16, ex16, hf⟩ := ab_bd hf
            refine ab_callV (pc' := 78) (Mc := mX1_costByPolicy) (as := [.int x13]) (st := []) dX6_worst_75 ml_X6_187 okX1_costByPolicy im_X1_costByPolicy se_X1_costByPolicy rfl eu15 rfl (by decide) (Nat.le_of_ble_eq_true rfl) (Nat.le_of_ble_eq_true rfl) (Nat.le_of_ble_eq_true rfl) rfl rfl (kX1_costByPolicy ex16 ?_)
            show ab_Ev l g mX6_worst 4 0 0 78 [(5, .int x13), (4, .ref r9), (0, .ref a0), (1, .int a1), (2, .int a2), (3, .int a3)] [.int x16] h 0 0 K
            refine ab_aload (pc' := 80) (q := 1) dX6_worst_78 rfl rfl ?_
            refine ab_iload (pc' := 82) (q := 0) dX6_worst_80 rfl rfl ?_
            obtain ⟨u17, eu17, hf⟩ := ab_bd hf
            obtain ⟨x18, ex18, hf⟩ := ab_bd hf
            refine ab_callV (pc' := 85) (Mc := mX1_leastCost) (as := [.int x13]) (st := [.int x16]) dX6_worst_82 ml_X6_194 okX1_leastCost im_X1_leastCost se_X1_leastCost rfl eu17 rfl (by decide) (Nat.le_of_ble_eq_true rfl) (Nat.le_of_ble_eq_true rfl) (Nat.le_of_ble_eq_true rfl) rfl rfl (kX1_leastCost ex18 ?_)
            show ab_Ev l g mX6_worst 4 0 0 85 [(5, .int x13), (4, .ref r9), (0, .ref a0), (1, .int a1), (2, .int a2), (3, .int a3)] [.int x18, .int x16] h 0 0 K
            refine ab_iload_n (pc' := 86) (q := 5) dX6_worst_85 rfl rfl rfl ?_
            obtain ⟨x19, ex19, hf⟩ := ab_bd hf
            refine ab_callS (pc' := 89) (Mc := mX6_partOfFraction) (as := [.int x16, .int x18, .int a3]) (st := []) dX6_worst_86 ml_X6_197 okX6_partOfFraction ss_X6_partOfFraction rfl (by decide) (Nat.le_of_ble_eq_true rfl) (Nat.le_of_ble_eq_true rfl) (Nat.le_of_ble_eq_true rfl) rfl rfl (kX6_partOfFraction ex19 ?_)
            show ab_Ev l g mX6_worst 4 0 0 89 [(5, .int x13), (4, .ref r9), (0, .ref a0), (1, .int a1), (2, .int a2), (3, .int a3)] [.int x19] h 0 0 K
            have hf := Option.some.inj hf
            subst hf
            exact ab_iret rfl dX6_worst_89 hK
          · have hf := ab_ip c14 hf
            refine ab_iload (pc' := 70) (q := 0) dX6_worst_68 rfl rfl ?_
            have hf := Option.some.inj hf
            subst hf
            exact ab_iret rfl dX6_worst_70 hK
        · have hf := ab_ip c11 hf
          refine ab_bipush (pc' := 54) (v := (-3)) dX6_worst_52 (by decide) rfl ?_
          have hf := Option.some.inj hf
          subst hf
          exact ab_iret rfl dX6_worst_54 hK
      · have hf := ab_ip c6 hf
        refine ab_drop (ls' := []) [] rfl ?_
        exact kbX6_worst_29 hf hK
  · have hf := ab_ip c2 hf
    refine ab_iconst (pc' := 8) (v := (-1)) dX6_worst_7 (by decide) rfl ?_
    have hf := Option.some.inj hf
    subst hf
    exact ab_iret rfl dX6_worst_8 hK
-- DiskRests$Disk.agesDrawn(I)I (mode R, depth 1)
def fX1_agesDrawn (h : ab_H) (a0 : Nat) (a1 : Int32) : Option Int32 := (ab_gR h a0 1 0).bind (fun r1 => (ab_aI h r1 0).bind (fun x2 => (ab_gR h a0 1 0).bind (fun r3 => (ab_aI h r3 a1).bind (fun x4 => (ab_gR h a0 1 1).bind (fun r5 => (ab_aI h r5 a1).bind (fun x6 => if ((ab_max 1 (x2 - x4)) : Int32) = 0 then none else some (((x6 + (ab_max 1 (x2 - x4))) - 1) / (ab_max 1 (x2 - x4)))))))))
set_option maxRecDepth 20000 in
set_option maxHeartbeats 1000000 in
theorem kX1_agesDrawn {l : Launch} {g : ab_G} {K : ab_K} {h : ab_H} {a0 : Nat} {a1 : Int32} {r : Int32} (hf : fX1_agesDrawn h a0 a1 = some r) (hK : K (some (.int r)) h) : ab_S l g mX1_agesDrawn 1 0 0 [.ref a0, .int a1] h K := by
  unfold fX1_agesDrawn at hf
  refine ab_enter (ls := [(0, .ref a0), (1, .int a1)]) (by decide +kernel) rfl (Nat.le_of_ble_eq_true rfl) rfl ?_
  refine ab_iconst (pc' := 1) (v := 1) dX1_agesDrawn_0 (by decide) rfl ?_
  refine ab_aload_n (pc' := 2) (q := 0) dX1_agesDrawn_1 rfl rfl rfl ?_
  obtain ⟨r1, er1, hf⟩ := ab_bd hf
  refine ab_getR (pc' := 5) (ci := 1) (k := 0) dX1_agesDrawn_2 rfl (by decide) fl_X1_9 er1 rfl ?_
  refine ab_iconst (pc' := 6) (v := 0) dX1_agesDrawn_5 (by decide) rfl ?_
  obtain ⟨x2, ex2, hf⟩ := ab_bd hf
  refine ab_iald (pc' := 7) dX1_agesDrawn_6 ex2 rfl ?_
  refine ab_aload_n (pc' := 8) (q := 0) dX1_agesDrawn_7 rfl rfl rfl ?_
  obtain ⟨r3, er3, hf⟩ := ab_bd hf
  refine ab_getR (pc' := 11) (ci := 1) (k := 0) dX1_agesDrawn_8 rfl (by decide) fl_X1_9 er3 rfl ?_
  refine ab_iload_n (pc' := 12) (q := 1) dX1_agesDrawn_11 rfl rfl rfl ?_
  obtain ⟨x4, ex4, hf⟩ := ab_bd hf
  refine ab_iald (pc' := 13) dX1_agesDrawn_12 ex4 rfl ?_
  refine ab_isub (pc' := 14) dX1_agesDrawn_13 rfl ?_
  refine ab_mmaxF (pc' := 17) dX1_agesDrawn_14 mk_X1_38 (by decide) (Nat.le_of_ble_eq_true rfl) (Nat.le_of_ble_eq_true rfl) (Nat.le_of_ble_eq_true rfl) rfl ?_
  refine ab_istore_n (pc' := 18) (ls' := [(2, .int (ab_max 1 (x2 - x4))), (0, .ref a0), (1, .int a1)]) dX1_agesDrawn_17 rfl (by decide) rfl rfl ?_
  refine ab_aload_n (pc' := 19) (q := 1) dX1_agesDrawn_18 rfl rfl rfl ?_
  obtain ⟨r5, er5, hf⟩ := ab_bd hf
  refine ab_getR (pc' := 22) (ci := 1) (k := 1) dX1_agesDrawn_19 rfl (by decide) fl_X1_15 er5 rfl ?_
  refine ab_iload_n (pc' := 23) (q := 2) dX1_agesDrawn_22 rfl rfl rfl ?_
  obtain ⟨x6, ex6, hf⟩ := ab_bd hf
  refine ab_iald (pc' := 24) dX1_agesDrawn_23 ex6 rfl ?_
  refine ab_iload_n (pc' := 25) (q := 0) dX1_agesDrawn_24 rfl rfl rfl ?_
  refine ab_iadd (pc' := 26) dX1_agesDrawn_25 rfl ?_
  refine ab_iconst (pc' := 27) (v := 1) dX1_agesDrawn_26 (by decide) rfl ?_
  refine ab_isub (pc' := 28) dX1_agesDrawn_27 rfl ?_
  refine ab_iload_n (pc' := 29) (q := 0) dX1_agesDrawn_28 rfl rfl rfl ?_
  obtain ⟨n7, hf⟩ := ab_nz hf
  refine ab_idiv (pc' := 30) dX1_agesDrawn_29 n7 rfl ?_
  have hf := Option.some.inj hf
  subst hf
  exact ab_iret rfl dX1_agesDrawn_30 hK
-- DiskRests$Disk.costOfAllDrawn(III)I (mode R, depth 1)
def bX1_costOfAllDrawn_50 (rec : Int32 → Int32 → Option Int32) (v0 : Nat) (v1 : Int32) (v2 : Int32) (v3 : Int32) (v5 : Int32) (s1 : Int32) (s0 : Int32) (h : ab_H) : Option Int32 := rec (s0 + s1) (v5 + 1)
set_option maxRecDepth 20000 in
set_option maxHeartbeats 1000000 in
theorem kbX1_costOfAllDrawn_50 {l : Launch} {g : ab_G} {K : ab_K} {h : ab_H} {s0 : Int32} {s1 : Int32} {v0 : Nat} {v1 : Int32} {v2 : Int32} {v3 : Int32} {v5 : Int32} {q : Int32} {rec : Int32 → Int32 → Option Int32} (ih : ∀ (w4 : Int32) (w5 : Int32), rec w4 w5 = some q → ab_Ev l g mX1_costOfAllDrawn 1 0 0 6 [(0, .ref v0), (1, .int v1), (2, .int v2), (3, .int v3), (4, .int w4), (5, .int w5)] [] h 0 0 K) (hx : ab_Ev l g mX1_costOfAllDrawn 1 0 0 59 [(4, .int q)] [] h 0 0 K) (hf : bX1_costOfAllDrawn_50 rec v0 v1 v2 v3 v5 s1 s0 h = some q) : ab_Ev l g mX1_costOfAllDrawn 1 0 0 50 [(0, .ref v0), (1, .int v1), (2, .int v2), (3, .int v3), (5, .int v5)] [.int s1, .int s0] h 0 0 K := by
  unfold bX1_costOfAllDrawn_50 at hf
  refine ab_iadd (pc' := 51) dX1_costOfAllDrawn_50 rfl ?_
  refine ab_istore (pc' := 53) (ls' := [(4, .int (s0 + s1)), (0, .ref v0), (1, .int v1), (2, .int v2), (3, .int v3), (5, .int v5)]) dX1_costOfAllDrawn_51 (by decide) rfl rfl ?_
  refine ab_iinc (pc' := 56) (q := 5) (v := (v5 + 1)) (ls' := [(5, .int (v5 + 1)), (4, .int (s0 + s1)), (0, .ref v0), (1, .int v1), (2, .int v2), (3, .int v3)]) dX1_costOfAllDrawn_53 rfl rfl (by decide) rfl rfl ?_
  refine ab_goto (tgt := 6) dX1_costOfAllDrawn_56 (by decide) ?_
  refine ab_drop (ls' := [(0, .ref v0), (1, .int v1), (2, .int v2), (3, .int v3), (4, .int (s0 + s1)), (5, .int (v5 + 1))]) [2, 3, 4, 5, 1, 0] rfl ?_
  exact ih _ _ hf
def lX1_costOfAllDrawn_6 (h : ab_H) (v0 : Nat) (v1 : Int32) (v2 : Int32) (v3 : Int32) : Nat → Int32 → Int32 → Option Int32
  | 0, _, _ => none
  | n + 1, v4, v5 => if v3 ≤ (v5 : Int32) then some v4 else if v5 < (v2 : Int32) then (ab_gR h v0 1 0).bind (fun r3 => (ab_aI h r3 0).bind (fun x4 => (ab_ob h v0 1).bind (fun u5 => (fX1_levelCost h v0 v1 (v2 - v5)).bind (fun x6 => bX1_costOfAllDrawn_50 (lX1_costOfAllDrawn_6 h v0 v1 v2 v3 n) v0 v1 v2 v3 v5 ((x4 * v5) + x6) v4 h)))) else (ab_gR h v0 1 0).bind (fun r7 => (ab_aI h r7 0).bind (fun x8 => bX1_costOfAllDrawn_50 (lX1_costOfAllDrawn_6 h v0 v1 v2 v3 n) v0 v1 v2 v3 v5 (x8 * v2) v4 h))
set_option maxRecDepth 20000 in
set_option maxHeartbeats 1000000 in
theorem klX1_costOfAllDrawn_6 {l : Launch} {g : ab_G} {K : ab_K} {h : ab_H} {v0 : Nat} {v1 : Int32} {v2 : Int32} {v3 : Int32} {q : Int32} (hx : ab_Ev l g mX1_costOfAllDrawn 1 0 0 59 [(4, .int q)] [] h 0 0 K) : ∀ (n : Nat) (v4 : Int32) (v5 : Int32), lX1_costOfAllDrawn_6 h v0 v1 v2 v3 n v4 v5 = some q → ab_Ev l g mX1_costOfAllDrawn 1 0 0 6 [(0, .ref v0), (1, .int v1), (2, .int v2), (3, .int v3), (4, .int v4), (5, .int v5)] [] h 0 0 K := by
  intro n
  induction n with
  | zero => intro v4 v5 hf; cases (show (none : Option Int32) = some q from hf)
  | succ n ih =>
    intro v4 v5 hf
    rw [lX1_costOfAllDrawn_6] at hf
    refine ab_iload (pc' := 8) (q := 5) dX1_costOfAllDrawn_6 rfl rfl ?_
    refine ab_iload_n (pc' := 9) (q := 3) dX1_costOfAllDrawn_8 rfl rfl rfl ?_
    refine ab_icmp_ge (pc' := 12) (tgt := 59) dX1_costOfAllDrawn_9 (by decide) rfl (fun c1 => ?_) (fun c1 => ?_)
    · have hf := ab_ip c1 hf
      have hf := Option.some.inj hf
      subst hf
      refine ab_drop (ls' := [(4, .int v4)]) [4] rfl ?_
      exact hx
    · have hf := ab_iN c1 hf
      refine ab_iload (pc' := 14) (q := 4) dX1_costOfAllDrawn_12 rfl rfl ?_
      refine ab_iload_n (pc' := 15) (q := 2) dX1_costOfAllDrawn_14 rfl rfl rfl ?_
      refine ab_iload (pc' := 17) (q := 5) dX1_costOfAllDrawn_15 rfl rfl ?_
      refine ab_icmp_gt (pc' := 20) (tgt := 31) dX1_costOfAllDrawn_17 (by decide) rfl (fun c2 => ?_) (fun c2 => ?_)
      · have hf := ab_ip c2 hf
        refine ab_aload_n (pc' := 32) (q := 0) dX1_costOfAllDrawn_31 rfl rfl rfl ?_
        obtain ⟨r3, er3, hf⟩ := ab_bd hf
        refine ab_getR (pc' := 35) (ci := 1) (k := 0) dX1_costOfAllDrawn_32 rfl (by decide) fl_X1_9 er3 rfl ?_
        refine ab_iconst (pc' := 36) (v := 0) dX1_costOfAllDrawn_35 (by decide) rfl ?_
        obtain ⟨x4, ex4, hf⟩ := ab_bd hf
        refine ab_iald (pc' := 37) dX1_costOfAllDrawn_36 ex4 rfl ?_
        refine ab_iload (pc' := 39) (q := 5) dX1_costOfAllDrawn_37 rfl rfl ?_
        refine ab_imul (pc' := 40) dX1_costOfAllDrawn_39 rfl ?_
        refine ab_aload_n (pc' := 41) (q := 0) dX1_costOfAllDrawn_40 rfl rfl rfl ?_
        refine ab_iload_n (pc' := 42) (q := 1) dX1_costOfAllDrawn_41 rfl rfl rfl ?_
        refine ab_iload_n (pc' := 43) (q := 2) dX1_costOfAllDrawn_42 rfl rfl rfl ?_
        refine ab_iload (pc' := 45) (q := 5) dX1_costOfAllDrawn_43 rfl rfl ?_
        refine ab_isub (pc' := 46) dX1_costOfAllDrawn_45 rfl ?_
        obtain ⟨u5, eu5, hf⟩ := ab_bd hf
        obtain ⟨x6, ex6, hf⟩ := ab_bd hf
        refine ab_callV (pc' := 49) (Mc := mX1_levelCost) (as := [.int v1, .int (v2 - v5)]) (st := [.int (x4 * v5), .int v4]) dX1_costOfAllDrawn_46 ml_X1_51 okX1_levelCost im_X1_levelCost se_X1_levelCost rfl eu5 rfl (by decide) (Nat.le_of_ble_eq_true rfl) (Nat.le_of_ble_eq_true rfl) (Nat.le_of_ble_eq_true rfl) rfl rfl (kX1_levelCost ex6 ?_)
        show ab_Ev l g mX1_costOfAllDrawn 1 0 0 49 [(0, .ref v0), (1, .int v1), (2, .int v2), (3, .int v3), (4, .int v4), (5, .int v5)] [.int x6, .int (x4 * v5), .int v4] h 0 0 K
        refine ab_iadd (pc' := 50) dX1_costOfAllDrawn_49 rfl ?_
        refine ab_drop (ls' := [(0, .ref v0), (1, .int v1), (2, .int v2), (3, .int v3), (5, .int v5)]) [0, 1, 2, 3, 5] rfl ?_
        exact kbX1_costOfAllDrawn_50 ih hx hf
      · have hf := ab_iN c2 hf
        refine ab_aload_n (pc' := 21) (q := 0) dX1_costOfAllDrawn_20 rfl rfl rfl ?_
        obtain ⟨r7, er7, hf⟩ := ab_bd hf
        refine ab_getR (pc' := 24) (ci := 1) (k := 0) dX1_costOfAllDrawn_21 rfl (by decide) fl_X1_9 er7 rfl ?_
        refine ab_iconst (pc' := 25) (v := 0) dX1_costOfAllDrawn_24 (by decide) rfl ?_
        obtain ⟨x8, ex8, hf⟩ := ab_bd hf
        refine ab_iald (pc' := 26) dX1_costOfAllDrawn_25 ex8 rfl ?_
        refine ab_iload_n (pc' := 27) (q := 2) dX1_costOfAllDrawn_26 rfl rfl rfl ?_
        refine ab_imul (pc' := 28) dX1_costOfAllDrawn_27 rfl ?_
        refine ab_goto (tgt := 50) dX1_costOfAllDrawn_28 (by decide) ?_
        refine ab_drop (ls' := [(0, .ref v0), (1, .int v1), (2, .int v2), (3, .int v3), (5, .int v5)]) [0, 1, 2, 3, 5] rfl ?_
        exact kbX1_costOfAllDrawn_50 ih hx hf
def fX1_costOfAllDrawn (h : ab_H) (a0 : Nat) (a1 : Int32) (a2 : Int32) (a3 : Int32) : Option Int32 := (lX1_costOfAllDrawn_6 h a0 a1 a2 a3 ab_fu 0 0).bind (fun q9 => some q9)
set_option maxRecDepth 20000 in
set_option maxHeartbeats 1000000 in
theorem kX1_costOfAllDrawn {l : Launch} {g : ab_G} {K : ab_K} {h : ab_H} {a0 : Nat} {a1 : Int32} {a2 : Int32} {a3 : Int32} {r : Int32} (hf : fX1_costOfAllDrawn h a0 a1 a2 a3 = some r) (hK : K (some (.int r)) h) : ab_S l g mX1_costOfAllDrawn 1 0 0 [.ref a0, .int a1, .int a2, .int a3] h K := by
  unfold fX1_costOfAllDrawn at hf
  refine ab_enter (ls := [(0, .ref a0), (1, .int a1), (2, .int a2), (3, .int a3)]) (by decide +kernel) rfl (Nat.le_of_ble_eq_true rfl) rfl ?_
  refine ab_iconst (pc' := 1) (v := 0) dX1_costOfAllDrawn_0 (by decide) rfl ?_
  refine ab_istore (pc' := 3) (ls' := [(4, .int 0), (0, .ref a0), (1, .int a1), (2, .int a2), (3, .int a3)]) dX1_costOfAllDrawn_1 (by decide) rfl rfl ?_
  refine ab_iconst (pc' := 4) (v := 0) dX1_costOfAllDrawn_3 (by decide) rfl ?_
  refine ab_istore (pc' := 6) (ls' := [(5, .int 0), (4, .int 0), (0, .ref a0), (1, .int a1), (2, .int a2), (3, .int a3)]) dX1_costOfAllDrawn_4 (by decide) rfl rfl ?_
  refine ab_drop (ls' := [(0, .ref a0), (1, .int a1), (2, .int a2), (3, .int a3), (4, .int 0), (5, .int 0)]) [2, 3, 4, 5, 1, 0] rfl ?_
  obtain ⟨q9, eq9, hf⟩ := ab_bd hf
  refine klX1_costOfAllDrawn_6 ?_ ab_fu _ _ eq9
  refine ab_iload (pc' := 61) (q := 0) dX1_costOfAllDrawn_59 rfl rfl ?_
  have hf := Option.some.inj hf
  subst hf
  exact ab_iret rfl dX1_costOfAllDrawn_61 hK
-- DiskRests.drawn(IIII)I (mode R, depth 2)
def bX6_drawn_27  (h : ab_H) : Option Int32 := some (-1)
set_option maxRecDepth 20000 in
set_option maxHeartbeats 1000000 in
theorem kbX6_drawn_27 {l : Launch} {g : ab_G} {K : ab_K} {h : ab_H}  {r : Int32} (hf : bX6_drawn_27 h = some r) (hK : K (some (.int r)) h) : ab_Ev l g mX6_drawn 2 0 0 27 [] [] h 0 0 K := by
  unfold bX6_drawn_27 at hf
  refine ab_iconst (pc' := 28) (v := (-1)) dX6_drawn_27 (by decide) rfl ?_
  have hf := Option.some.inj hf
  subst hf
  exact ab_iret rfl dX6_drawn_28 hK
def bX6_drawn_50  (h : ab_H) : Option Int32 := some (-2)
set_option maxRecDepth 20000 in
set_option maxHeartbeats 1000000 in
theorem kbX6_drawn_50 {l : Launch} {g : ab_G} {K : ab_K} {h : ab_H}  {r : Int32} (hf : bX6_drawn_50 h = some r) (hK : K (some (.int r)) h) : ab_Ev l g mX6_drawn 2 0 0 50 [] [] h 0 0 K := by
  unfold bX6_drawn_50 at hf
  refine ab_bipush (pc' := 52) (v := (-2)) dX6_drawn_50 (by decide) rfl ?_
  have hf := Option.some.inj hf
  subst hf
  exact ab_iret rfl dX6_drawn_52 hK
def fX6_drawn (h : ab_H) (a0 : Nat) (a1 : Int32) (a2 : Int32) (a3 : Int32) (a4 : Int32) : Option Int32 := (fX6_isDisk a1).bind (fun x1 => if (x1 : Int32) = 0 then bX6_drawn_27 h else if (a2 : Int32) = 0 then bX6_drawn_27 h else (ab_gR h a0 6 0).bind (fun r4 => (ab_gR h r4 5 0).bind (fun r5 => (ab_aR h r5 a1).bind (fun r6 => (ab_ob h r6 1).bind (fun u7 => (fX1_hasLevel h r6 a2).bind (fun x8 => if (x8 : Int32) = 0 then bX6_drawn_27 h else (fX6_within a3 1 1000).bind (fun x10 => if (x10 : Int32) = 0 then bX6_drawn_50 h else (fX6_within a4 0 2).bind (fun x12 => if (x12 : Int32) = 0 then bX6_drawn_50 h else (ab_gR h a0 6 0).bind (fun r14 => (ab_gR h r14 5 0).bind (fun r15 => (ab_aR h r15 a1).bind (fun r16 => (ab_ob h r16 1).bind (fun u17 => (fX1_agesDrawn h r16 a2).bind (fun x18 => if (a4 : Int32) = 2 then some x18 else (ab_gR h a0 6 0).bind (fun r20 => (ab_gR h r20 5 0).bind (fun r21 => (ab_aR h r21 a1).bind (fun r22 => (ab_ob h r22 1).bind (fun u23 => (fX1_costOfAllDrawn h r22 a2 a3 x18).bind (fun x24 => (fX6_partOfFraction x24 x18 a4).bind (fun x25 => some x25)))))))))))))))))))
set_option maxRecDepth 20000 in
set_option maxHeartbeats 1000000 in
theorem kX6_drawn {l : Launch} {g : ab_G} {K : ab_K} {h : ab_H} {a0 : Nat} {a1 : Int32} {a2 : Int32} {a3 : Int32} {a4 : Int32} {r : Int32} (hf : fX6_drawn h a0 a1 a2 a3 a4 = some r) (hK : K (some (.int r)) h) : ab_S l g mX6_drawn 2 0 0 [.ref a0, .int a1, .int a2, .int a3, .int a4] h K := by
  unfold fX6_drawn at hf
  refine ab_enter (ls := [(0, .ref a0), (1, .int a1), (2, .int a2), (3, .int a3), (4, .int a4)]) (by decide +kernel) rfl (Nat.le_of_ble_eq_true rfl) rfl ?_
  refine ab_iload_n (pc' := 1) (q := 1) dX6_drawn_0 rfl rfl rfl ?_
  obtain ⟨x1, ex1, hf⟩ := ab_bd hf
  refine ab_callS (pc' := 4) (Mc := mX6_isDisk) (as := [.int a1]) (st := []) dX6_drawn_1 ml_X6_38 okX6_isDisk ss_X6_isDisk rfl (by decide) (Nat.le_of_ble_eq_true rfl) (Nat.le_of_ble_eq_true rfl) (Nat.le_of_ble_eq_true rfl) rfl rfl (kX6_isDisk ex1 ?_)
  show ab_Ev l g mX6_drawn 2 0 0 4 [(0, .ref a0), (1, .int a1), (2, .int a2), (3, .int a3), (4, .int a4)] [.int x1] h 0 0 K
  refine ab_if_eq (pc' := 7) (tgt := 27) dX6_drawn_4 (by decide) rfl (fun c2 => ?_) (fun c2 => ?_)
  · have hf := ab_ip c2 hf
    refine ab_drop (ls' := []) [] rfl ?_
    exact kbX6_drawn_27 hf hK
  · have hf := ab_iN c2 hf
    refine ab_iload_n (pc' := 8) (q := 2) dX6_drawn_7 rfl rfl rfl ?_
    refine ab_if_eq (pc' := 11) (tgt := 27) dX6_drawn_8 (by decide) rfl (fun c3 => ?_) (fun c3 => ?_)
    · have hf := ab_ip c3 hf
      refine ab_drop (ls' := []) [] rfl ?_
      exact kbX6_drawn_27 hf hK
    · have hf := ab_iN c3 hf
      refine ab_aload_n (pc' := 12) (q := 0) dX6_drawn_11 rfl rfl rfl ?_
      obtain ⟨r4, er4, hf⟩ := ab_bd hf
      refine ab_getR (pc' := 15) (ci := 6) (k := 0) dX6_drawn_12 rfl (by decide) fl_X6_10 er4 rfl ?_
      obtain ⟨r5, er5, hf⟩ := ab_bd hf
      refine ab_getR (pc' := 18) (ci := 5) (k := 0) dX6_drawn_15 rfl (by decide) fl_X6_46 er5 rfl ?_
      refine ab_iload_n (pc' := 19) (q := 1) dX6_drawn_18 rfl rfl rfl ?_
      obtain ⟨r6, er6, hf⟩ := ab_bd hf
      refine ab_aald (pc' := 20) dX6_drawn_19 er6 rfl ?_
      refine ab_iload_n (pc' := 21) (q := 2) dX6_drawn_20 rfl rfl rfl ?_
      obtain ⟨u7, eu7, hf⟩ := ab_bd hf
      obtain ⟨x8, ex8, hf⟩ := ab_bd hf
      refine ab_callV (pc' := 24) (Mc := mX1_hasLevel) (as := [.int a2]) (st := []) dX6_drawn_21 ml_X6_70 okX1_hasLevel im_X1_hasLevel se_X1_hasLevel rfl eu7 rfl (by decide) (Nat.le_of_ble_eq_true rfl) (Nat.le_of_ble_eq_true rfl) (Nat.le_of_ble_eq_true rfl) rfl rfl (kX1_hasLevel ex8 ?_)
      show ab_Ev l g mX6_drawn 2 0 0 24 [(0, .ref a0), (1, .int a1), (2, .int a2), (3, .int a3), (4, .int a4)] [.int x8] h 0 0 K
      refine ab_if_ne (pc' := 27) (tgt := 29) dX6_drawn_24 (by decide) rfl (fun c9 => ?_) (fun c9 => ?_)
      · have hf := ab_iN c9 hf
        refine ab_iload_n (pc' := 30) (q := 3) dX6_drawn_29 rfl rfl rfl ?_
        refine ab_iconst (pc' := 31) (v := 1) dX6_drawn_30 (by decide) rfl ?_
        refine ab_sipush (pc' := 34) (v := 1000) dX6_drawn_31 (by decide) rfl ?_
        obtain ⟨x10, ex10, hf⟩ := ab_bd hf
        refine ab_callS (pc' := 37) (Mc := mX6_within) (as := [.int a3, .int 1, .int 1000]) (st := []) dX6_drawn_34 ml_X6_42 okX6_within ss_X6_within rfl (by decide) (Nat.le_of_ble_eq_true rfl) (Nat.le_of_ble_eq_true rfl) (Nat.le_of_ble_eq_true rfl) rfl rfl (kX6_within ex10 ?_)
        show ab_Ev l g mX6_drawn 2 0 0 37 [(0, .ref a0), (1, .int a1), (2, .int a2), (3, .int a3), (4, .int a4)] [.int x10] h 0 0 K
        refine ab_if_eq (pc' := 40) (tgt := 50) dX6_drawn_37 (by decide) rfl (fun c11 => ?_) (fun c11 => ?_)
        · have hf := ab_ip c11 hf
          refine ab_drop (ls' := []) [] rfl ?_
          exact kbX6_drawn_50 hf hK
        · have hf := ab_iN c11 hf
          refine ab_iload (pc' := 42) (q := 4) dX6_drawn_40 rfl rfl ?_
          refine ab_iconst (pc' := 43) (v := 0) dX6_drawn_42 (by decide) rfl ?_
          refine ab_iconst (pc' := 44) (v := 2) dX6_drawn_43 (by decide) rfl ?_
          obtain ⟨x12, ex12, hf⟩ := ab_bd hf
          refine ab_callS (pc' := 47) (Mc := mX6_within) (as := [.int a4, .int 0, .int 2]) (st := []) dX6_drawn_44 ml_X6_42 okX6_within ss_X6_within rfl (by decide) (Nat.le_of_ble_eq_true rfl) (Nat.le_of_ble_eq_true rfl) (Nat.le_of_ble_eq_true rfl) rfl rfl (kX6_within ex12 ?_)
          show ab_Ev l g mX6_drawn 2 0 0 47 [(0, .ref a0), (1, .int a1), (2, .int a2), (3, .int a3), (4, .int a4)] [.int x12] h 0 0 K
          refine ab_if_ne (pc' := 50) (tgt := 53) dX6_drawn_47 (by decide) rfl (fun c13 => ?_) (fun c13 => ?_)
          · have hf := ab_iN c13 hf
            refine ab_aload_n (pc' := 54) (q := 0) dX6_drawn_53 rfl rfl rfl ?_
            obtain ⟨r14, er14, hf⟩ := ab_bd hf
            refine ab_getR (pc' := 57) (ci := 6) (k := 0) dX6_drawn_54 rfl (by decide) fl_X6_10 er14 rfl ?_
            obtain ⟨r15, er15, hf⟩ := ab_bd hf
            refine ab_getR (pc' := 60) (ci := 5) (k := 0) dX6_drawn_57 rfl (by decide) fl_X6_46 er15 rfl ?_
            refine ab_iload_n (pc' := 61) (q := 1) dX6_drawn_60 rfl rfl rfl ?_
            obtain ⟨r16, er16, hf⟩ := ab_bd hf
            refine ab_aald (pc' := 62) dX6_drawn_61 er16 rfl ?_
            refine ab_iload_n (pc' := 63) (q := 2) dX6_drawn_62 rfl rfl rfl ?_
            obtain ⟨u17, eu17, hf⟩ := ab_bd hf
            obtain ⟨x18, ex18, hf⟩ := ab_bd hf
            refine ab_callV (pc' := 66) (Mc := mX1_agesDrawn) (as := [.int a2]) (st := []) dX6_drawn_63 ml_X6_201 okX1_agesDrawn im_X1_agesDrawn se_X1_agesDrawn rfl eu17 rfl (by decide) (Nat.le_of_ble_eq_true rfl) (Nat.le_of_ble_eq_true rfl) (Nat.le_of_ble_eq_true rfl) rfl rfl (kX1_agesDrawn ex18 ?_)
            show ab_Ev l g mX6_drawn 2 0 0 66 [(0, .ref a0), (1, .int a1), (2, .int a2), (3, .int a3), (4, .int a4)] [.int x18] h 0 0 K
            refine ab_istore (pc' := 68) (ls' := [(5, .int x18), (0, .ref a0), (1, .int a1), (2, .int a2), (3, .int a3), (4, .int a4)]) dX6_drawn_66 (by decide) rfl rfl ?_
            refine ab_iload (pc' := 70) (q := 5) dX6_drawn_68 rfl rfl ?_
            refine ab_iconst (pc' := 71) (v := 2) dX6_drawn_70 (by decide) rfl ?_
            refine ab_icmp_ne (pc' := 74) (tgt := 77) dX6_drawn_71 (by decide) rfl (fun c19 => ?_) (fun c19 => ?_)
            · have hf := ab_iN c19 hf
              refine ab_aload_n (pc' := 78) (q := 1) dX6_drawn_77 rfl rfl rfl ?_
              obtain ⟨r20, er20, hf⟩ := ab_bd hf
              refine ab_getR (pc' := 81) (ci := 6) (k := 0) dX6_drawn_78 rfl (by decide) fl_X6_10 er20 rfl ?_
              obtain ⟨r21, er21, hf⟩ := ab_bd hf
              refine ab_getR (pc' := 84) (ci := 5) (k := 0) dX6_drawn_81 rfl (by decide) fl_X6_46 er21 rfl ?_
              refine ab_iload_n (pc' := 85) (q := 2) dX6_drawn_84 rfl rfl rfl ?_
              obtain ⟨r22, er22, hf⟩ := ab_bd hf
              refine ab_aald (pc' := 86) dX6_drawn_85 er22 rfl ?_
              refine ab_iload_n (pc' := 87) (q := 3) dX6_drawn_86 rfl rfl rfl ?_
              refine ab_iload_n (pc' := 88) (q := 4) dX6_drawn_87 rfl rfl rfl ?_
              refine ab_iload (pc' := 90) (q := 0) dX6_drawn_88 rfl rfl ?_
              obtain ⟨u23, eu23, hf⟩ := ab_bd hf
              obtain ⟨x24, ex24, hf⟩ := ab_bd hf
              refine ab_callV (pc' := 93) (Mc := mX1_costOfAllDrawn) (as := [.int a2, .int a3, .int x18]) (st := []) dX6_drawn_90 ml_X6_204 okX1_costOfAllDrawn im_X1_costOfAllDrawn se_X1_costOfAllDrawn rfl eu23 rfl (by decide) (Nat.le_of_ble_eq_true rfl) (Nat.le_of_ble_eq_true rfl) (Nat.le_of_ble_eq_true rfl) rfl rfl (kX1_costOfAllDrawn ex24 ?_)
              show ab_Ev l g mX6_drawn 2 0 0 93 [(5, .int x18), (0, .ref a0), (1, .int a1), (2, .int a2), (3, .int a3), (4, .int a4)] [.int x24] h 0 0 K
              refine ab_iload (pc' := 95) (q := 0) dX6_drawn_93 rfl rfl ?_
              refine ab_iload (pc' := 97) (q := 5) dX6_drawn_95 rfl rfl ?_
              obtain ⟨x25, ex25, hf⟩ := ab_bd hf
              refine ab_callS (pc' := 100) (Mc := mX6_partOfFraction) (as := [.int x24, .int x18, .int a4]) (st := []) dX6_drawn_97 ml_X6_197 okX6_partOfFraction ss_X6_partOfFraction rfl (by decide) (Nat.le_of_ble_eq_true rfl) (Nat.le_of_ble_eq_true rfl) (Nat.le_of_ble_eq_true rfl) rfl rfl (kX6_partOfFraction ex25 ?_)
              show ab_Ev l g mX6_drawn 2 0 0 100 [(5, .int x18), (0, .ref a0), (1, .int a1), (2, .int a2), (3, .int a3), (4, .int a4)] [.int x25] h 0 0 K
              have hf := Option.some.inj hf
              subst hf
              exact ab_iret rfl dX6_drawn_100 hK
            · have hf := ab_ip c19 hf
              refine ab_iload (pc' := 76) (q := 0) dX6_drawn_74 rfl rfl ?_
              have hf := Option.some.inj hf
              subst hf
              exact ab_iret rfl dX6_drawn_76 hK
          · have hf := ab_ip c13 hf
            refine ab_drop (ls' := []) [] rfl ?_
            exact kbX6_drawn_50 hf hK
      · have hf := ab_ip c9 hf
        refine ab_drop (ls' := []) [] rfl ?_
        exact kbX6_drawn_27 hf hK
-- DiskRests$Run.energyOfAll()I (mode R, depth 0)
def lX4_energyOfAll_4 (h : ab_H) (v0 : Nat) : Nat → Int32 → Int32 → Option Int32
  | 0, _, _ => none
  | n + 1, v1, v2 => if 4 ≤ (v2 : Int32) then some v1 else (ab_gR h v0 4 0).bind (fun r2 => (ab_aR h r2 v2).bind (fun r3 => (ab_gI h r3 0 0).bind (fun x4 => lX4_energyOfAll_4 h v0 n (v1 + x4) (v2 + 1))))
set_option maxRecDepth 20000 in
set_option maxHeartbeats 1000000 in
theorem klX4_energyOfAll_4 {l : Launch} {g : ab_G} {K : ab_K} {h : ab_H} {v0 : Nat} {q : Int32} (hx : ab_Ev l g mX4_energyOfAll 0 0 0 27 [(1, .int q)] [] h 0 0 K) : ∀ (n : Nat) (v1 : Int32) (v2 : Int32), lX4_energyOfAll_4 h v0 n v1 v2 = some q → ab_Ev l g mX4_energyOfAll 0 0 0 4 [(0, .ref v0), (1, .int v1), (2, .int v2)] [] h 0 0 K := by
  intro n
  induction n with
  | zero => intro v1 v2 hf; cases (show (none : Option Int32) = some q from hf)
  | succ n ih =>
    intro v1 v2 hf
    rw [lX4_energyOfAll_4] at hf
    refine ab_iload_n (pc' := 5) (q := 2) dX4_energyOfAll_4 rfl rfl rfl ?_
    refine ab_iconst (pc' := 6) (v := 4) dX4_energyOfAll_5 (by decide) rfl ?_
    refine ab_icmp_ge (pc' := 9) (tgt := 27) dX4_energyOfAll_6 (by decide) rfl (fun c1 => ?_) (fun c1 => ?_)
    · have hf := ab_ip c1 hf
      have hf := Option.some.inj hf
      subst hf
      refine ab_drop (ls' := [(1, .int v1)]) [1] rfl ?_
      exact hx
    · have hf := ab_iN c1 hf
      refine ab_iload_n (pc' := 10) (q := 1) dX4_energyOfAll_9 rfl rfl rfl ?_
      refine ab_aload_n (pc' := 11) (q := 0) dX4_energyOfAll_10 rfl rfl rfl ?_
      obtain ⟨r2, er2, hf⟩ := ab_bd hf
      refine ab_getR (pc' := 14) (ci := 4) (k := 0) dX4_energyOfAll_11 rfl (by decide) fl_X4_11 er2 rfl ?_
      refine ab_iload_n (pc' := 15) (q := 2) dX4_energyOfAll_14 rfl rfl rfl ?_
      obtain ⟨r3, er3, hf⟩ := ab_bd hf
      refine ab_aald (pc' := 16) dX4_energyOfAll_15 er3 rfl ?_
      obtain ⟨x4, ex4, hf⟩ := ab_bd hf
      refine ab_getI (pc' := 19) (ci := 0) (k := 0) dX4_energyOfAll_16 rfl (by decide) fl_X4_129 ex4 rfl ?_
      refine ab_iadd (pc' := 20) dX4_energyOfAll_19 rfl ?_
      refine ab_istore_n (pc' := 21) (ls' := [(1, .int (v1 + x4)), (0, .ref v0), (2, .int v2)]) dX4_energyOfAll_20 rfl (by decide) rfl rfl ?_
      refine ab_iinc (pc' := 24) (q := 2) (v := (v2 + 1)) (ls' := [(2, .int (v2 + 1)), (1, .int (v1 + x4)), (0, .ref v0)]) dX4_energyOfAll_21 rfl rfl (by decide) rfl rfl ?_
      refine ab_goto (tgt := 4) dX4_energyOfAll_24 (by decide) ?_
      refine ab_drop (ls' := [(0, .ref v0), (1, .int (v1 + x4)), (2, .int (v2 + 1))]) [2, 1, 0] rfl ?_
      exact ih _ _ hf
def fX4_energyOfAll (h : ab_H) (a0 : Nat) : Option Int32 := (lX4_energyOfAll_4 h a0 ab_fu 0 0).bind (fun q5 => some q5)
set_option maxRecDepth 20000 in
set_option maxHeartbeats 1000000 in
theorem kX4_energyOfAll {l : Launch} {g : ab_G} {K : ab_K} {h : ab_H} {a0 : Nat} {r : Int32} (hf : fX4_energyOfAll h a0 = some r) (hK : K (some (.int r)) h) : ab_S l g mX4_energyOfAll 0 0 0 [.ref a0] h K := by
  unfold fX4_energyOfAll at hf
  refine ab_enter (ls := [(0, .ref a0)]) (by decide +kernel) rfl (Nat.le_of_ble_eq_true rfl) rfl ?_
  refine ab_iconst (pc' := 1) (v := 0) dX4_energyOfAll_0 (by decide) rfl ?_
  refine ab_istore_n (pc' := 2) (ls' := [(1, .int 0), (0, .ref a0)]) dX4_energyOfAll_1 rfl (by decide) rfl rfl ?_
  refine ab_iconst (pc' := 3) (v := 0) dX4_energyOfAll_2 (by decide) rfl ?_
  refine ab_istore_n (pc' := 4) (ls' := [(2, .int 0), (1, .int 0), (0, .ref a0)]) dX4_energyOfAll_3 rfl (by decide) rfl rfl ?_
  refine ab_drop (ls' := [(0, .ref a0), (1, .int 0), (2, .int 0)]) [2, 1, 0] rfl ?_
  obtain ⟨q5, eq5, hf⟩ := ab_bd hf
  refine klX4_energyOfAll_4 ?_ ab_fu _ _ eq5
  refine ab_iload_n (pc' := 28) (q := 0) dX4_energyOfAll_27 rfl rfl rfl ?_
  have hf := Option.some.inj hf
  subst hf
  exact ab_iret rfl dX4_energyOfAll_28 hK
-- DiskRests.count(I)I (mode W, depth 6)
def bX6_count_123 (s1 : Int32) (s0 : Int32) (h : ab_H) : Option (Int32 × ab_H) := some ((s0 + s1), h)
set_option maxRecDepth 20000 in
set_option maxHeartbeats 1000000 in
theorem kbX6_count_123 {l : Launch} {g : ab_G} {K : ab_K} {h : ab_H} {s1 : Int32} {s0 : Int32} {r : (Int32 × ab_H)} (hf : bX6_count_123 s1 s0 h = some r) (hK : K (some (.int r.1)) r.2) : ab_Ev l g mX6_count 6 0 0 123 [] [.int s1, .int s0] h 0 0 K := by
  unfold bX6_count_123 at hf
  refine ab_iadd (pc' := 124) dX6_count_123 rfl ?_
  have hf := Option.some.inj hf
  subst hf
  exact ab_iret rfl dX6_count_124 hK
def bX6_count_109 (v0 : Nat) (s0 : Int32) (h : ab_H) : Option (Int32 × ab_H) := (ab_gR h v0 6 2).bind (fun r28 => (ab_aZ h r28 1).bind (fun x29 => if (x29 : Int32) = 0 then bX6_count_123 0 s0 h else bX6_count_123 2 s0 h))
set_option maxRecDepth 20000 in
set_option maxHeartbeats 1000000 in
theorem kbX6_count_109 {l : Launch} {g : ab_G} {K : ab_K} {h : ab_H} {v0 : Nat} {s0 : Int32} {r : (Int32 × ab_H)} (hf : bX6_count_109 v0 s0 h = some r) (hK : K (some (.int r.1)) r.2) : ab_Ev l g mX6_count 6 0 0 109 [(0, .ref v0)] [.int s0] h 0 0 K := by
  unfold bX6_count_109 at hf
  refine ab_aload_n (pc' := 110) (q := 0) dX6_count_109 rfl rfl rfl ?_
  obtain ⟨r28, er28, hf⟩ := ab_bd hf
  refine ab_getR (pc' := 113) (ci := 6) (k := 2) dX6_count_110 rfl (by decide) fl_X6_20 er28 rfl ?_
  refine ab_iconst (pc' := 114) (v := 1) dX6_count_113 (by decide) rfl ?_
  obtain ⟨x29, ex29, hf⟩ := ab_bd hf
  refine ab_zald (pc' := 115) dX6_count_114 ex29 rfl ?_
  refine ab_if_eq (pc' := 118) (tgt := 122) dX6_count_115 (by decide) rfl (fun c30 => ?_) (fun c30 => ?_)
  · have hf := ab_ip c30 hf
    refine ab_iconst (pc' := 123) (v := 0) dX6_count_122 (by decide) rfl ?_
    refine ab_drop (ls' := []) [] rfl ?_
    exact kbX6_count_123 hf hK
  · have hf := ab_iN c30 hf
    refine ab_iconst (pc' := 119) (v := 2) dX6_count_118 (by decide) rfl ?_
    refine ab_goto (tgt := 123) dX6_count_119 (by decide) ?_
    refine ab_drop (ls' := []) [] rfl ?_
    exact kbX6_count_123 hf hK
def fX6_count (h : ab_H) (a0 : Nat) (a1 : Int32) : Option (Int32 × ab_H) := if (a1 : Int32) = 0 then (ab_gR h a0 6 0).bind (fun r2 => (ab_gR h r2 5 1).bind (fun r3 => (ab_gI h r3 3 3).bind (fun x4 => some (x4, h)))) else if (a1 : Int32) = 1 then (ab_gR h a0 6 0).bind (fun r6 => (ab_gI h r6 5 2).bind (fun x7 => some (x7, h))) else if (a1 : Int32) = 2 then (ab_gR h a0 6 0).bind (fun r9 => (ab_gI h r9 5 3).bind (fun x10 => some (x10, h))) else if (a1 : Int32) = 3 then (ab_ob h a0 6).bind (fun u12 => (fX6_wholeRun h a0).bind (fun q13 => (ab_ob q13.2 q13.1 4).bind (fun u14 => (fX4_energyOfAll q13.2 q13.1).bind (fun x15 => some (x15, q13.2))))) else if (a1 : Int32) = 4 then (ab_ob h a0 6).bind (fun u17 => (fX6_wholeRun h a0).bind (fun q18 => (ab_gI q18.2 q18.1 4 4).bind (fun x19 => some (x19, q18.2)))) else if (a1 : Int32) = 5 then (ab_ob h a0 6).bind (fun u21 => (fX6_wholeRun h a0).bind (fun q22 => (ab_gI q22.2 q22.1 4 5).bind (fun x23 => some (x23, q22.2)))) else if (a1 : Int32) = 6 then (ab_gR h a0 6 2).bind (fun r25 => (ab_aZ h r25 0).bind (fun x26 => if (x26 : Int32) = 0 then bX6_count_109 a0 0 h else bX6_count_109 a0 1 h)) else some ((-2), h)
set_option maxRecDepth 20000 in
set_option maxHeartbeats 1000000 in
theorem kX6_count {l : Launch} {g : ab_G} {K : ab_K} {h : ab_H} {a0 : Nat} {a1 : Int32} {r : (Int32 × ab_H)} (hf : fX6_count h a0 a1 = some r) (hK : K (some (.int r.1)) r.2) : ab_S l g mX6_count 6 0 0 [.ref a0, .int a1] h K := by
  unfold fX6_count at hf
  refine ab_enter (ls := [(0, .ref a0), (1, .int a1)]) (by decide +kernel) rfl (Nat.le_of_ble_eq_true rfl) rfl ?_
  refine ab_iload_n (pc' := 1) (q := 1) dX6_count_0 rfl rfl rfl ?_
  by_cases c1 : (a1 : Int32) = 0
  · have hf := ab_ip c1 hf
    refine ab_tableC (tgt := 44) dX6_count_1 c1 (by decide) (by decide) rfl (by decide) ?_
    refine ab_aload_n (pc' := 45) (q := 0) dX6_count_44 rfl rfl rfl ?_
    obtain ⟨r2, er2, hf⟩ := ab_bd hf
    refine ab_getR (pc' := 48) (ci := 6) (k := 0) dX6_count_45 rfl (by decide) fl_X6_10 er2 rfl ?_
    obtain ⟨r3, er3, hf⟩ := ab_bd hf
    refine ab_getR (pc' := 51) (ci := 5) (k := 1) dX6_count_48 rfl (by decide) fl_X6_83 er3 rfl ?_
    obtain ⟨x4, ex4, hf⟩ := ab_bd hf
    refine ab_getI (pc' := 54) (ci := 3) (k := 3) dX6_count_51 rfl (by decide) fl_X6_87 ex4 rfl ?_
    have hf := Option.some.inj hf
    subst hf
    exact ab_iret rfl dX6_count_54 hK
  have hf := ab_iN c1 hf
  by_cases c5 : (a1 : Int32) = 1
  · have hf := ab_ip c5 hf
    refine ab_tableC (tgt := 55) dX6_count_1 c5 (by decide) (by decide) rfl (by decide) ?_
    refine ab_aload_n (pc' := 56) (q := 0) dX6_count_55 rfl rfl rfl ?_
    obtain ⟨r6, er6, hf⟩ := ab_bd hf
    refine ab_getR (pc' := 59) (ci := 6) (k := 0) dX6_count_56 rfl (by decide) fl_X6_10 er6 rfl ?_
    obtain ⟨x7, ex7, hf⟩ := ab_bd hf
    refine ab_getI (pc' := 62) (ci := 5) (k := 2) dX6_count_59 rfl (by decide) fl_X6_111 ex7 rfl ?_
    have hf := Option.some.inj hf
    subst hf
    exact ab_iret rfl dX6_count_62 hK
  have hf := ab_iN c5 hf
  by_cases c8 : (a1 : Int32) = 2
  · have hf := ab_ip c8 hf
    refine ab_tableC (tgt := 63) dX6_count_1 c8 (by decide) (by decide) rfl (by decide) ?_
    refine ab_aload_n (pc' := 64) (q := 0) dX6_count_63 rfl rfl rfl ?_
    obtain ⟨r9, er9, hf⟩ := ab_bd hf
    refine ab_getR (pc' := 67) (ci := 6) (k := 0) dX6_count_64 rfl (by decide) fl_X6_10 er9 rfl ?_
    obtain ⟨x10, ex10, hf⟩ := ab_bd hf
    refine ab_getI (pc' := 70) (ci := 5) (k := 3) dX6_count_67 rfl (by decide) fl_X6_114 ex10 rfl ?_
    have hf := Option.some.inj hf
    subst hf
    exact ab_iret rfl dX6_count_70 hK
  have hf := ab_iN c8 hf
  by_cases c11 : (a1 : Int32) = 3
  · have hf := ab_ip c11 hf
    refine ab_tableC (tgt := 71) dX6_count_1 c11 (by decide) (by decide) rfl (by decide) ?_
    refine ab_aload_n (pc' := 72) (q := 0) dX6_count_71 rfl rfl rfl ?_
    obtain ⟨u12, eu12, hf⟩ := ab_bd hf
    obtain ⟨q13, eq13, hf⟩ := ab_bd hf
    refine ab_callV (pc' := 75) (Mc := mX6_wholeRun) (as := []) (st := []) dX6_count_72 ml_X6_117 okX6_wholeRun im_X6_wholeRun se_X6_wholeRun rfl eu12 rfl (by decide) (Nat.le_of_ble_eq_true rfl) (Nat.le_of_ble_eq_true rfl) (Nat.le_of_ble_eq_true rfl) rfl rfl (kX6_wholeRun eq13 ?_)
    show ab_Ev l g mX6_count 6 0 0 75 [(0, .ref a0), (1, .int a1)] [.ref q13.1] q13.2 0 0 K
    obtain ⟨u14, eu14, hf⟩ := ab_bd hf
    obtain ⟨x15, ex15, hf⟩ := ab_bd hf
    refine ab_callV (pc' := 78) (Mc := mX4_energyOfAll) (as := []) (st := []) dX6_count_75 ml_X6_207 okX4_energyOfAll im_X4_energyOfAll se_X4_energyOfAll rfl eu14 rfl (by decide) (Nat.le_of_ble_eq_true rfl) (Nat.le_of_ble_eq_true rfl) (Nat.le_of_ble_eq_true rfl) rfl rfl (kX4_energyOfAll ex15 ?_)
    show ab_Ev l g mX6_count 6 0 0 78 [(0, .ref a0), (1, .int a1)] [.int x15] q13.2 0 0 K
    have hf := Option.some.inj hf
    subst hf
    exact ab_iret rfl dX6_count_78 hK
  have hf := ab_iN c11 hf
  by_cases c16 : (a1 : Int32) = 4
  · have hf := ab_ip c16 hf
    refine ab_tableC (tgt := 79) dX6_count_1 c16 (by decide) (by decide) rfl (by decide) ?_
    refine ab_aload_n (pc' := 80) (q := 0) dX6_count_79 rfl rfl rfl ?_
    obtain ⟨u17, eu17, hf⟩ := ab_bd hf
    obtain ⟨q18, eq18, hf⟩ := ab_bd hf
    refine ab_callV (pc' := 83) (Mc := mX6_wholeRun) (as := []) (st := []) dX6_count_80 ml_X6_117 okX6_wholeRun im_X6_wholeRun se_X6_wholeRun rfl eu17 rfl (by decide) (Nat.le_of_ble_eq_true rfl) (Nat.le_of_ble_eq_true rfl) (Nat.le_of_ble_eq_true rfl) rfl rfl (kX6_wholeRun eq18 ?_)
    show ab_Ev l g mX6_count 6 0 0 83 [(0, .ref a0), (1, .int a1)] [.ref q18.1] q18.2 0 0 K
    obtain ⟨x19, ex19, hf⟩ := ab_bd hf
    refine ab_getI (pc' := 86) (ci := 4) (k := 4) dX6_count_83 rfl (by decide) fl_X6_165 ex19 rfl ?_
    have hf := Option.some.inj hf
    subst hf
    exact ab_iret rfl dX6_count_86 hK
  have hf := ab_iN c16 hf
  by_cases c20 : (a1 : Int32) = 5
  · have hf := ab_ip c20 hf
    refine ab_tableC (tgt := 87) dX6_count_1 c20 (by decide) (by decide) rfl (by decide) ?_
    refine ab_aload_n (pc' := 88) (q := 0) dX6_count_87 rfl rfl rfl ?_
    obtain ⟨u21, eu21, hf⟩ := ab_bd hf
    obtain ⟨q22, eq22, hf⟩ := ab_bd hf
    refine ab_callV (pc' := 91) (Mc := mX6_wholeRun) (as := []) (st := []) dX6_count_88 ml_X6_117 okX6_wholeRun im_X6_wholeRun se_X6_wholeRun rfl eu21 rfl (by decide) (Nat.le_of_ble_eq_true rfl) (Nat.le_of_ble_eq_true rfl) (Nat.le_of_ble_eq_true rfl) rfl rfl (kX6_wholeRun eq22 ?_)
    show ab_Ev l g mX6_count 6 0 0 91 [(0, .ref a0), (1, .int a1)] [.ref q22.1] q22.2 0 0 K
    obtain ⟨x23, ex23, hf⟩ := ab_bd hf
    refine ab_getI (pc' := 94) (ci := 4) (k := 5) dX6_count_91 rfl (by decide) fl_X6_210 ex23 rfl ?_
    have hf := Option.some.inj hf
    subst hf
    exact ab_iret rfl dX6_count_94 hK
  have hf := ab_iN c20 hf
  by_cases c24 : (a1 : Int32) = 6
  · have hf := ab_ip c24 hf
    refine ab_tableC (tgt := 95) dX6_count_1 c24 (by decide) (by decide) rfl (by decide) ?_
    refine ab_aload_n (pc' := 96) (q := 0) dX6_count_95 rfl rfl rfl ?_
    obtain ⟨r25, er25, hf⟩ := ab_bd hf
    refine ab_getR (pc' := 99) (ci := 6) (k := 2) dX6_count_96 rfl (by decide) fl_X6_20 er25 rfl ?_
    refine ab_iconst (pc' := 100) (v := 0) dX6_count_99 (by decide) rfl ?_
    obtain ⟨x26, ex26, hf⟩ := ab_bd hf
    refine ab_zald (pc' := 101) dX6_count_100 ex26 rfl ?_
    refine ab_if_eq (pc' := 104) (tgt := 108) dX6_count_101 (by decide) rfl (fun c27 => ?_) (fun c27 => ?_)
    · have hf := ab_ip c27 hf
      refine ab_iconst (pc' := 109) (v := 0) dX6_count_108 (by decide) rfl ?_
      refine ab_drop (ls' := [(0, .ref a0)]) [0] rfl ?_
      exact kbX6_count_109 hf hK
    · have hf := ab_iN c27 hf
      refine ab_iconst (pc' := 105) (v := 1) dX6_count_104 (by decide) rfl ?_
      refine ab_goto (tgt := 109) dX6_count_105 (by decide) ?_
      refine ab_drop (ls' := [(0, .ref a0)]) [0] rfl ?_
      exact kbX6_count_109 hf hK
  have hf := ab_iN c24 hf
  refine ab_tableOut (tgt := 125) dX6_count_1 (by have := ab_ne (i := 0) (by decide) c1; have := ab_ne (i := 1) (by decide) c5; have := ab_ne (i := 2) (by decide) c8; have := ab_ne (i := 3) (by decide) c11; have := ab_ne (i := 4) (by decide) c16; have := ab_ne (i := 5) (by decide) c20; have := ab_ne (i := 6) (by decide) c24; omega) (by decide) ?_
  refine ab_bipush (pc' := 127) (v := (-2)) dX6_count_125 (by decide) rfl ?_
  have hf := Option.some.inj hf
  subst hf
  exact ab_iret rfl dX6_count_127 hK
-- DiskRests$Disk.copyFrom(LDiskRests$Disk;)V (mode W, depth 1)
def fX1_copyFrom (h : ab_H) (a0 : Nat) (a1 : Nat) : Option ab_H := (ab_gR h a1 1 0).bind (fun r1 => (ab_gR h a0 1 0).bind (fun r2 => (ab_cp h r1 0 r2 0 4).bind (fun h3 => (ab_gR h3 a1 1 1).bind (fun r4 => (ab_gR h3 a0 1 1).bind (fun r5 => (ab_cp h3 r4 0 r5 0 4).bind (fun h6 => (ab_gI h6 a1 1 2).bind (fun x7 => (ab_pV h6 a0 1 2 (.int x7)).bind (fun h8 => (ab_gI h8 a1 1 3).bind (fun x9 => (ab_pV h8 a0 1 3 (.int x9)).bind (fun h10 => (ab_gI h10 a1 1 4).bind (fun x11 => (ab_pV h10 a0 1 4 (.int x11)).bind (fun h12 => some h12))))))))))))
set_option maxRecDepth 20000 in
set_option maxHeartbeats 1000000 in
theorem kX1_copyFrom {l : Launch} {g : ab_G} {K : ab_K} {h : ab_H} {a0 : Nat} {a1 : Nat} {r : ab_H} (hf : fX1_copyFrom h a0 a1 = some r) (hK : K none r) : ab_S l g mX1_copyFrom 1 0 0 [.ref a0, .ref a1] h K := by
  unfold fX1_copyFrom at hf
  refine ab_enter (ls := [(0, .ref a0), (1, .ref a1)]) (by decide +kernel) rfl (Nat.le_of_ble_eq_true rfl) rfl ?_
  refine ab_aload_n (pc' := 1) (q := 1) dX1_copyFrom_0 rfl rfl rfl ?_
  obtain ⟨r1, er1, hf⟩ := ab_bd hf
  refine ab_getR (pc' := 4) (ci := 1) (k := 0) dX1_copyFrom_1 rfl (by decide) fl_X1_9 er1 rfl ?_
  refine ab_iconst (pc' := 5) (v := 0) dX1_copyFrom_4 (by decide) rfl ?_
  refine ab_aload_n (pc' := 6) (q := 0) dX1_copyFrom_5 rfl rfl rfl ?_
  obtain ⟨r2, er2, hf⟩ := ab_bd hf
  refine ab_getR (pc' := 9) (ci := 1) (k := 0) dX1_copyFrom_6 rfl (by decide) fl_X1_9 er2 rfl ?_
  refine ab_iconst (pc' := 10) (v := 0) dX1_copyFrom_9 (by decide) rfl ?_
  refine ab_iconst (pc' := 11) (v := 4) dX1_copyFrom_10 (by decide) rfl ?_
  obtain ⟨h3, eh3, hf⟩ := ab_bd hf
  refine ab_copyF (pc' := 14) dX1_copyFrom_11 mk_X1_18 (by decide) eh3 rfl ?_
  refine ab_aload_n (pc' := 15) (q := 1) dX1_copyFrom_14 rfl rfl rfl ?_
  obtain ⟨r4, er4, hf⟩ := ab_bd hf
  refine ab_getR (pc' := 18) (ci := 1) (k := 1) dX1_copyFrom_15 rfl (by decide) fl_X1_15 er4 rfl ?_
  refine ab_iconst (pc' := 19) (v := 0) dX1_copyFrom_18 (by decide) rfl ?_
  refine ab_aload_n (pc' := 20) (q := 0) dX1_copyFrom_19 rfl rfl rfl ?_
  obtain ⟨r5, er5, hf⟩ := ab_bd hf
  refine ab_getR (pc' := 23) (ci := 1) (k := 1) dX1_copyFrom_20 rfl (by decide) fl_X1_15 er5 rfl ?_
  refine ab_iconst (pc' := 24) (v := 0) dX1_copyFrom_23 (by decide) rfl ?_
  refine ab_iconst (pc' := 25) (v := 4) dX1_copyFrom_24 (by decide) rfl ?_
  obtain ⟨h6, eh6, hf⟩ := ab_bd hf
  refine ab_copyF (pc' := 28) dX1_copyFrom_25 mk_X1_18 (by decide) eh6 rfl ?_
  refine ab_aload_n (pc' := 29) (q := 0) dX1_copyFrom_28 rfl rfl rfl ?_
  refine ab_aload_n (pc' := 30) (q := 1) dX1_copyFrom_29 rfl rfl rfl ?_
  obtain ⟨x7, ex7, hf⟩ := ab_bd hf
  refine ab_getI (pc' := 33) (ci := 1) (k := 2) dX1_copyFrom_30 rfl (by decide) fl_X1_24 ex7 rfl ?_
  obtain ⟨h8, eh8, hf⟩ := ab_bd hf
  refine ab_put (pc' := 36) (ci := 1) (k := 2) dX1_copyFrom_33 rfl (by decide) fl_X1_24 rfl (tyX1_ok 2 (by decide)) rfl rfl eh8 rfl ?_
  refine ab_aload_n (pc' := 37) (q := 0) dX1_copyFrom_36 rfl rfl rfl ?_
  refine ab_aload_n (pc' := 38) (q := 1) dX1_copyFrom_37 rfl rfl rfl ?_
  obtain ⟨x9, ex9, hf⟩ := ab_bd hf
  refine ab_getI (pc' := 41) (ci := 1) (k := 3) dX1_copyFrom_38 rfl (by decide) fl_X1_28 ex9 rfl ?_
  obtain ⟨h10, eh10, hf⟩ := ab_bd hf
  refine ab_put (pc' := 44) (ci := 1) (k := 3) dX1_copyFrom_41 rfl (by decide) fl_X1_28 rfl (tyX1_ok 3 (by decide)) rfl rfl eh10 rfl ?_
  refine ab_aload_n (pc' := 45) (q := 0) dX1_copyFrom_44 rfl rfl rfl ?_
  refine ab_aload_n (pc' := 46) (q := 1) dX1_copyFrom_45 rfl rfl rfl ?_
  obtain ⟨x11, ex11, hf⟩ := ab_bd hf
  refine ab_getI (pc' := 49) (ci := 1) (k := 4) dX1_copyFrom_46 rfl (by decide) fl_X1_31 ex11 rfl ?_
  obtain ⟨h12, eh12, hf⟩ := ab_bd hf
  refine ab_put (pc' := 52) (ci := 1) (k := 4) dX1_copyFrom_49 rfl (by decide) fl_X1_31 rfl (tyX1_ok 4 (by decide)) rfl rfl eh12 rfl ?_
  have hf := Option.some.inj hf
  subst hf
  exact ab_vret rfl dX1_copyFrom_52 hK
-- DiskRests$Requests.copyFrom(LDiskRests$Requests;)V (mode W, depth 1)
def fX3_copyFrom (h : ab_H) (a0 : Nat) (a1 : Nat) : Option ab_H := (ab_gR h a1 3 0).bind (fun r1 => (ab_gR h a0 3 0).bind (fun r2 => (ab_cp h r1 0 r2 0 40).bind (fun h3 => (ab_gR h3 a1 3 1).bind (fun r4 => (ab_gR h3 a0 3 1).bind (fun r5 => (ab_cp h3 r4 0 r5 0 40).bind (fun h6 => (ab_gR h6 a1 3 2).bind (fun r7 => (ab_gR h6 a0 3 2).bind (fun r8 => (ab_cp h6 r7 0 r8 0 40).bind (fun h9 => (ab_gI h9 a1 3 3).bind (fun x10 => (ab_pV h9 a0 3 3 (.int x10)).bind (fun h11 => some h11)))))))))))
set_option maxRecDepth 20000 in
set_option maxHeartbeats 1000000 in
theorem kX3_copyFrom {l : Launch} {g : ab_G} {K : ab_K} {h : ab_H} {a0 : Nat} {a1 : Nat} {r : ab_H} (hf : fX3_copyFrom h a0 a1 = some r) (hK : K none r) : ab_S l g mX3_copyFrom 1 0 0 [.ref a0, .ref a1] h K := by
  unfold fX3_copyFrom at hf
  refine ab_enter (ls := [(0, .ref a0), (1, .ref a1)]) (by decide +kernel) rfl (Nat.le_of_ble_eq_true rfl) rfl ?_
  refine ab_aload_n (pc' := 1) (q := 1) dX3_copyFrom_0 rfl rfl rfl ?_
  obtain ⟨r1, er1, hf⟩ := ab_bd hf
  refine ab_getR (pc' := 4) (ci := 3) (k := 0) dX3_copyFrom_1 rfl (by decide) fl_X3_9 er1 rfl ?_
  refine ab_iconst (pc' := 5) (v := 0) dX3_copyFrom_4 (by decide) rfl ?_
  refine ab_aload_n (pc' := 6) (q := 0) dX3_copyFrom_5 rfl rfl rfl ?_
  obtain ⟨r2, er2, hf⟩ := ab_bd hf
  refine ab_getR (pc' := 9) (ci := 3) (k := 0) dX3_copyFrom_6 rfl (by decide) fl_X3_9 er2 rfl ?_
  refine ab_iconst (pc' := 10) (v := 0) dX3_copyFrom_9 (by decide) rfl ?_
  refine ab_bipush (pc' := 12) (v := 40) dX3_copyFrom_10 (by decide) rfl ?_
  obtain ⟨h3, eh3, hf⟩ := ab_bd hf
  refine ab_copyF (pc' := 15) dX3_copyFrom_12 mk_X3_21 (by decide) eh3 rfl ?_
  refine ab_aload_n (pc' := 16) (q := 1) dX3_copyFrom_15 rfl rfl rfl ?_
  obtain ⟨r4, er4, hf⟩ := ab_bd hf
  refine ab_getR (pc' := 19) (ci := 3) (k := 1) dX3_copyFrom_16 rfl (by decide) fl_X3_15 er4 rfl ?_
  refine ab_iconst (pc' := 20) (v := 0) dX3_copyFrom_19 (by decide) rfl ?_
  refine ab_aload_n (pc' := 21) (q := 0) dX3_copyFrom_20 rfl rfl rfl ?_
  obtain ⟨r5, er5, hf⟩ := ab_bd hf
  refine ab_getR (pc' := 24) (ci := 3) (k := 1) dX3_copyFrom_21 rfl (by decide) fl_X3_15 er5 rfl ?_
  refine ab_iconst (pc' := 25) (v := 0) dX3_copyFrom_24 (by decide) rfl ?_
  refine ab_bipush (pc' := 27) (v := 40) dX3_copyFrom_25 (by decide) rfl ?_
  obtain ⟨h6, eh6, hf⟩ := ab_bd hf
  refine ab_copyF (pc' := 30) dX3_copyFrom_27 mk_X3_21 (by decide) eh6 rfl ?_
  refine ab_aload_n (pc' := 31) (q := 1) dX3_copyFrom_30 rfl rfl rfl ?_
  obtain ⟨r7, er7, hf⟩ := ab_bd hf
  refine ab_getR (pc' := 34) (ci := 3) (k := 2) dX3_copyFrom_31 rfl (by decide) fl_X3_18 er7 rfl ?_
  refine ab_iconst (pc' := 35) (v := 0) dX3_copyFrom_34 (by decide) rfl ?_
  refine ab_aload_n (pc' := 36) (q := 0) dX3_copyFrom_35 rfl rfl rfl ?_
  obtain ⟨r8, er8, hf⟩ := ab_bd hf
  refine ab_getR (pc' := 39) (ci := 3) (k := 2) dX3_copyFrom_36 rfl (by decide) fl_X3_18 er8 rfl ?_
  refine ab_iconst (pc' := 40) (v := 0) dX3_copyFrom_39 (by decide) rfl ?_
  refine ab_bipush (pc' := 42) (v := 40) dX3_copyFrom_40 (by decide) rfl ?_
  obtain ⟨h9, eh9, hf⟩ := ab_bd hf
  refine ab_copyF (pc' := 45) dX3_copyFrom_42 mk_X3_21 (by decide) eh9 rfl ?_
  refine ab_aload_n (pc' := 46) (q := 0) dX3_copyFrom_45 rfl rfl rfl ?_
  refine ab_aload_n (pc' := 47) (q := 1) dX3_copyFrom_46 rfl rfl rfl ?_
  obtain ⟨x10, ex10, hf⟩ := ab_bd hf
  refine ab_getI (pc' := 50) (ci := 3) (k := 3) dX3_copyFrom_47 rfl (by decide) fl_X3_27 ex10 rfl ?_
  obtain ⟨h11, eh11, hf⟩ := ab_bd hf
  refine ab_put (pc' := 53) (ci := 3) (k := 3) dX3_copyFrom_50 rfl (by decide) fl_X3_27 rfl (tyX3_ok 3 (by decide)) rfl rfl eh11 rfl ?_
  have hf := Option.some.inj hf
  subst hf
  exact ab_vret rfl dX3_copyFrom_53 hK
-- DiskRests$Setup.copyFrom(LDiskRests$Setup;)V (mode W, depth 2)
def lX5_copyFrom_2 (v0 : Nat) (v1 : Nat) : Nat → Int32 → ab_H → Option ab_H
  | 0, _, _ => none
  | n + 1, v2, h => if 4 ≤ (v2 : Int32) then some h else (ab_gR h v0 5 0).bind (fun r2 => (ab_aR h r2 v2).bind (fun r3 => (ab_gR h v1 5 0).bind (fun r4 => (ab_aR h r4 v2).bind (fun r5 => (ab_ob h r3 1).bind (fun u6 => (fX1_copyFrom h r3 r5).bind (fun h7 => lX5_copyFrom_2 v0 v1 n (v2 + 1) h7))))))
set_option maxRecDepth 20000 in
set_option maxHeartbeats 1000000 in
theorem klX5_copyFrom_2 {l : Launch} {g : ab_G} {K : ab_K} {v0 : Nat} {v1 : Nat} {q : ab_H} (hx : ab_Ev l g mX5_copyFrom 2 0 0 28 [(0, .ref v0), (1, .ref v1)] [] q 0 0 K) : ∀ (n : Nat) (v2 : Int32) (h : ab_H), lX5_copyFrom_2 v0 v1 n v2 h = some q → ab_Ev l g mX5_copyFrom 2 0 0 2 [(0, .ref v0), (1, .ref v1), (2, .int v2)] [] h 0 0 K := by
  intro n
  induction n with
  | zero => intro v2 h hf; cases (show (none : Option ab_H) = some q from hf)
  | succ n ih =>
    intro v2 h hf
    rw [lX5_copyFrom_2] at hf
    refine ab_iload_n (pc' := 3) (q := 2) dX5_copyFrom_2 rfl rfl rfl ?_
    refine ab_iconst (pc' := 4) (v := 4) dX5_copyFrom_3 (by decide) rfl ?_
    refine ab_icmp_ge (pc' := 7) (tgt := 28) dX5_copyFrom_4 (by decide) rfl (fun c1 => ?_) (fun c1 => ?_)
    · have hf := ab_ip c1 hf
      have hf := Option.some.inj hf
      subst hf
      refine ab_drop (ls' := [(0, .ref v0), (1, .ref v1)]) [0, 1] rfl ?_
      exact hx
    · have hf := ab_iN c1 hf
      refine ab_aload_n (pc' := 8) (q := 0) dX5_copyFrom_7 rfl rfl rfl ?_
      obtain ⟨r2, er2, hf⟩ := ab_bd hf
      refine ab_getR (pc' := 11) (ci := 5) (k := 0) dX5_copyFrom_8 rfl (by decide) fl_X5_11 er2 rfl ?_
      refine ab_iload_n (pc' := 12) (q := 2) dX5_copyFrom_11 rfl rfl rfl ?_
      obtain ⟨r3, er3, hf⟩ := ab_bd hf
      refine ab_aald (pc' := 13) dX5_copyFrom_12 er3 rfl ?_
      refine ab_aload_n (pc' := 14) (q := 1) dX5_copyFrom_13 rfl rfl rfl ?_
      obtain ⟨r4, er4, hf⟩ := ab_bd hf
      refine ab_getR (pc' := 17) (ci := 5) (k := 0) dX5_copyFrom_14 rfl (by decide) fl_X5_11 er4 rfl ?_
      refine ab_iload_n (pc' := 18) (q := 2) dX5_copyFrom_17 rfl rfl rfl ?_
      obtain ⟨r5, er5, hf⟩ := ab_bd hf
      refine ab_aald (pc' := 19) dX5_copyFrom_18 er5 rfl ?_
      obtain ⟨u6, eu6, hf⟩ := ab_bd hf
      obtain ⟨h7, eh7, hf⟩ := ab_bd hf
      refine ab_callV (pc' := 22) (Mc := mX1_copyFrom) (as := [.ref r5]) (st := []) dX5_copyFrom_19 ml_X5_29 okX1_copyFrom im_X1_copyFrom se_X1_copyFrom rfl eu6 rfl (by decide) (Nat.le_of_ble_eq_true rfl) (Nat.le_of_ble_eq_true rfl) (Nat.le_of_ble_eq_true rfl) rfl rfl (kX1_copyFrom eh7 ?_)
      show ab_Ev l g mX5_copyFrom 2 0 0 22 [(0, .ref v0), (1, .ref v1), (2, .int v2)] [] h7 0 0 K
      refine ab_iinc (pc' := 25) (q := 2) (v := (v2 + 1)) (ls' := [(2, .int (v2 + 1)), (0, .ref v0), (1, .ref v1)]) dX5_copyFrom_22 rfl rfl (by decide) rfl rfl ?_
      refine ab_goto (tgt := 2) dX5_copyFrom_25 (by decide) ?_
      refine ab_drop (ls' := [(0, .ref v0), (1, .ref v1), (2, .int (v2 + 1))]) [1, 2, 0] rfl ?_
      exact ih _ _ hf
def fX5_copyFrom (h : ab_H) (a0 : Nat) (a1 : Nat) : Option ab_H := (lX5_copyFrom_2 a0 a1 ab_fu 0 h).bind (fun q8 => (ab_gR q8 a0 5 1).bind (fun r9 => (ab_gR q8 a1 5 1).bind (fun r10 => (ab_ob q8 r9 3).bind (fun u11 => (fX3_copyFrom q8 r9 r10).bind (fun h12 => (ab_gI h12 a1 5 2).bind (fun x13 => (ab_pV h12 a0 5 2 (.int x13)).bind (fun h14 => (ab_gI h14 a1 5 3).bind (fun x15 => (ab_pV h14 a0 5 3 (.int x15)).bind (fun h16 => some h16)))))))))
set_option maxRecDepth 20000 in
set_option maxHeartbeats 1000000 in
theorem kX5_copyFrom {l : Launch} {g : ab_G} {K : ab_K} {h : ab_H} {a0 : Nat} {a1 : Nat} {r : ab_H} (hf : fX5_copyFrom h a0 a1 = some r) (hK : K none r) : ab_S l g mX5_copyFrom 2 0 0 [.ref a0, .ref a1] h K := by
  unfold fX5_copyFrom at hf
  refine ab_enter (ls := [(0, .ref a0), (1, .ref a1)]) (by decide +kernel) rfl (Nat.le_of_ble_eq_true rfl) rfl ?_
  refine ab_iconst (pc' := 1) (v := 0) dX5_copyFrom_0 (by decide) rfl ?_
  refine ab_istore_n (pc' := 2) (ls' := [(2, .int 0), (0, .ref a0), (1, .ref a1)]) dX5_copyFrom_1 rfl (by decide) rfl rfl ?_
  refine ab_drop (ls' := [(0, .ref a0), (1, .ref a1), (2, .int 0)]) [1, 2, 0] rfl ?_
  obtain ⟨q8, eq8, hf⟩ := ab_bd hf
  refine klX5_copyFrom_2 ?_ ab_fu _ _ eq8
  refine ab_aload_n (pc' := 29) (q := 0) dX5_copyFrom_28 rfl rfl rfl ?_
  obtain ⟨r9, er9, hf⟩ := ab_bd hf
  refine ab_getR (pc' := 32) (ci := 5) (k := 1) dX5_copyFrom_29 rfl (by decide) fl_X5_20 er9 rfl ?_
  refine ab_aload_n (pc' := 33) (q := 1) dX5_copyFrom_32 rfl rfl rfl ?_
  obtain ⟨r10, er10, hf⟩ := ab_bd hf
  refine ab_getR (pc' := 36) (ci := 5) (k := 1) dX5_copyFrom_33 rfl (by decide) fl_X5_20 er10 rfl ?_
  obtain ⟨u11, eu11, hf⟩ := ab_bd hf
  obtain ⟨h12, eh12, hf⟩ := ab_bd hf
  refine ab_callV (pc' := 39) (Mc := mX3_copyFrom) (as := [.ref r10]) (st := []) dX5_copyFrom_36 ml_X5_33 okX3_copyFrom im_X3_copyFrom se_X3_copyFrom rfl eu11 rfl (by decide) (Nat.le_of_ble_eq_true rfl) (Nat.le_of_ble_eq_true rfl) (Nat.le_of_ble_eq_true rfl) rfl rfl (kX3_copyFrom eh12 ?_)
  show ab_Ev l g mX5_copyFrom 2 0 0 39 [(0, .ref a0), (1, .ref a1)] [] h12 0 0 K
  refine ab_aload_n (pc' := 40) (q := 0) dX5_copyFrom_39 rfl rfl rfl ?_
  refine ab_aload_n (pc' := 41) (q := 1) dX5_copyFrom_40 rfl rfl rfl ?_
  obtain ⟨x13, ex13, hf⟩ := ab_bd hf
  refine ab_getI (pc' := 44) (ci := 5) (k := 2) dX5_copyFrom_41 rfl (by decide) fl_X5_24 ex13 rfl ?_
  obtain ⟨h14, eh14, hf⟩ := ab_bd hf
  refine ab_put (pc' := 47) (ci := 5) (k := 2) dX5_copyFrom_44 rfl (by decide) fl_X5_24 rfl (tyX5_ok 2 (by decide)) rfl rfl eh14 rfl ?_
  refine ab_aload_n (pc' := 48) (q := 0) dX5_copyFrom_47 rfl rfl rfl ?_
  refine ab_aload_n (pc' := 49) (q := 1) dX5_copyFrom_48 rfl rfl rfl ?_
  obtain ⟨x15, ex15, hf⟩ := ab_bd hf
  refine ab_getI (pc' := 52) (ci := 5) (k := 3) dX5_copyFrom_49 rfl (by decide) fl_X5_36 ex15 rfl ?_
  obtain ⟨h16, eh16, hf⟩ := ab_bd hf
  refine ab_put (pc' := 55) (ci := 5) (k := 3) dX5_copyFrom_52 rfl (by decide) fl_X5_36 rfl (tyX5_ok 3 (by decide)) rfl rfl eh16 rfl ?_
  have hf := Option.some.inj hf
  subst hf
  exact ab_vret rfl dX5_copyFrom_55 hK
-- DiskRests.image(I)I (mode W, depth 3)
def fX6_image (h : ab_H) (a0 : Nat) (a1 : Int32) : Option (Int32 × ab_H) := (fX6_within a1 0 1).bind (fun x1 => if (x1 : Int32) = 0 then some ((-2), h) else (ab_gR h a0 6 1).bind (fun r3 => (ab_aR h r3 a1).bind (fun r4 => (ab_gR h a0 6 0).bind (fun r5 => (ab_ob h r4 5).bind (fun u6 => (fX5_copyFrom h r4 r5).bind (fun h7 => (ab_gR h7 a0 6 2).bind (fun r8 => (ab_sZ h7 r8 a1 1).bind (fun h9 => some (1, h9)))))))))
set_option maxRecDepth 20000 in
set_option maxHeartbeats 1000000 in
theorem kX6_image {l : Launch} {g : ab_G} {K : ab_K} {h : ab_H} {a0 : Nat} {a1 : Int32} {r : (Int32 × ab_H)} (hf : fX6_image h a0 a1 = some r) (hK : K (some (.int r.1)) r.2) : ab_S l g mX6_image 3 0 0 [.ref a0, .int a1] h K := by
  unfold fX6_image at hf
  refine ab_enter (ls := [(0, .ref a0), (1, .int a1)]) (by decide +kernel) rfl (Nat.le_of_ble_eq_true rfl) rfl ?_
  refine ab_iload_n (pc' := 1) (q := 1) dX6_image_0 rfl rfl rfl ?_
  refine ab_iconst (pc' := 2) (v := 0) dX6_image_1 (by decide) rfl ?_
  refine ab_iconst (pc' := 3) (v := 1) dX6_image_2 (by decide) rfl ?_
  obtain ⟨x1, ex1, hf⟩ := ab_bd hf
  refine ab_callS (pc' := 6) (Mc := mX6_within) (as := [.int a1, .int 0, .int 1]) (st := []) dX6_image_3 ml_X6_42 okX6_within ss_X6_within rfl (by decide) (Nat.le_of_ble_eq_true rfl) (Nat.le_of_ble_eq_true rfl) (Nat.le_of_ble_eq_true rfl) rfl rfl (kX6_within ex1 ?_)
  show ab_Ev l g mX6_image 3 0 0 6 [(0, .ref a0), (1, .int a1)] [.int x1] h 0 0 K
  refine ab_if_ne (pc' := 9) (tgt := 12) dX6_image_6 (by decide) rfl (fun c2 => ?_) (fun c2 => ?_)
  · have hf := ab_iN c2 hf
    refine ab_aload_n (pc' := 13) (q := 0) dX6_image_12 rfl rfl rfl ?_
    obtain ⟨r3, er3, hf⟩ := ab_bd hf
    refine ab_getR (pc' := 16) (ci := 6) (k := 1) dX6_image_13 rfl (by decide) fl_X6_16 er3 rfl ?_
    refine ab_iload_n (pc' := 17) (q := 1) dX6_image_16 rfl rfl rfl ?_
    obtain ⟨r4, er4, hf⟩ := ab_bd hf
    refine ab_aald (pc' := 18) dX6_image_17 er4 rfl ?_
    refine ab_aload_n (pc' := 19) (q := 0) dX6_image_18 rfl rfl rfl ?_
    obtain ⟨r5, er5, hf⟩ := ab_bd hf
    refine ab_getR (pc' := 22) (ci := 6) (k := 0) dX6_image_19 rfl (by decide) fl_X6_10 er5 rfl ?_
    obtain ⟨u6, eu6, hf⟩ := ab_bd hf
    obtain ⟨h7, eh7, hf⟩ := ab_bd hf
    refine ab_callV (pc' := 25) (Mc := mX5_copyFrom) (as := [.ref r5]) (st := []) dX6_image_22 ml_X6_213 okX5_copyFrom im_X5_copyFrom se_X5_copyFrom rfl eu6 rfl (by decide) (Nat.le_of_ble_eq_true rfl) (Nat.le_of_ble_eq_true rfl) (Nat.le_of_ble_eq_true rfl) rfl rfl (kX5_copyFrom eh7 ?_)
    show ab_Ev l g mX6_image 3 0 0 25 [(0, .ref a0), (1, .int a1)] [] h7 0 0 K
    refine ab_aload_n (pc' := 26) (q := 0) dX6_image_25 rfl rfl rfl ?_
    obtain ⟨r8, er8, hf⟩ := ab_bd hf
    refine ab_getR (pc' := 29) (ci := 6) (k := 2) dX6_image_26 rfl (by decide) fl_X6_20 er8 rfl ?_
    refine ab_iload_n (pc' := 30) (q := 1) dX6_image_29 rfl rfl rfl ?_
    refine ab_iconst (pc' := 31) (v := 1) dX6_image_30 (by decide) rfl ?_
    obtain ⟨h9, eh9, hf⟩ := ab_bd hf
    refine ab_zast (pc' := 32) dX6_image_31 eh9 rfl ?_
    refine ab_iconst (pc' := 33) (v := 1) dX6_image_32 (by decide) rfl ?_
    have hf := Option.some.inj hf
    subst hf
    exact ab_iret rfl dX6_image_33 hK
  · have hf := ab_ip c2 hf
    refine ab_bipush (pc' := 11) (v := (-2)) dX6_image_9 (by decide) rfl ?_
    have hf := Option.some.inj hf
    subst hf
    exact ab_iret rfl dX6_image_11 hK
