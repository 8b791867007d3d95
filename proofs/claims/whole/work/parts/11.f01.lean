-- DiskRests.isPolicy(II)Z (mode N, depth 1)
def fX6_isPolicy (a0 : Int32) (a1 : Int32) : Option Int32 := if (a0 : Int32) = 1 then (fX6_within a1 1 500).bind (fun x2 => if (x2 : Int32) &&& 1 = x2 then some x2 else none) else if (a0 : Int32) = 3 then (fX6_within a1 1 4).bind (fun x5 => if (x5 : Int32) &&& 1 = x5 then some x5 else none) else (fX6_within a0 0 3).bind (fun x7 => if (x7 : Int32) &&& 1 = x7 then some x7 else none)
set_option maxRecDepth 20000 in
set_option maxHeartbeats 1000000 in
theorem kX6_isPolicy {l : Launch} {g : ab_G} {K : ab_K} {h : ab_H} {a0 : Int32} {a1 : Int32} {r : Int32} (hf : fX6_isPolicy a0 a1 = some r) (hK : K (some (.int r)) h) : ab_S l g mX6_isPolicy 1 0 0 [.int a0, .int a1] h K := by
  unfold fX6_isPolicy at hf
  refine ab_enter (ls := [(0, .int a0), (1, .int a1)]) (by decide +kernel) rfl (Nat.le_of_ble_eq_true rfl) rfl ?_
  refine ab_iload_n (pc' := 1) (q := 0) dX6_isPolicy_0 rfl rfl rfl ?_
  by_cases c1 : (a0 : Int32) = 1
  · have hf := ab_ip c1 hf
    refine ab_lookC (tgt := 28) dX6_isPolicy_1 c1 (by decide) rfl (by decide) ?_
    refine ab_iload_n (pc' := 29) (q := 1) dX6_isPolicy_28 rfl rfl rfl ?_
    refine ab_iconst (pc' := 30) (v := 1) dX6_isPolicy_29 (by decide) rfl ?_
    refine ab_sipush (pc' := 33) (v := 500) dX6_isPolicy_30 (by decide) rfl ?_
    obtain ⟨x2, ex2, hf⟩ := ab_bd hf
    refine ab_callS (pc' := 36) (Mc := mX6_within) (as := [.int a1, .int 1, .int 500]) (st := []) dX6_isPolicy_33 ml_X6_42 okX6_within ss_X6_within rfl (by decide) (Nat.le_of_ble_eq_true rfl) (Nat.le_of_ble_eq_true rfl) (Nat.le_of_ble_eq_true rfl) rfl rfl (kX6_within ex2 ?_)
    show ab_Ev l g mX6_isPolicy 1 0 0 36 [(0, .int a0), (1, .int a1)] [.int x2] h 0 0 K
    obtain ⟨n3, hf⟩ := ab_bg hf
    have hf := Option.some.inj hf
    subst hf
    exact ab_zretG rfl n3 dX6_isPolicy_36 hK
  have hf := ab_iN c1 hf
  by_cases c4 : (a0 : Int32) = 3
  · have hf := ab_ip c4 hf
    refine ab_lookC (tgt := 37) dX6_isPolicy_1 c4 (by decide) rfl (by decide) ?_
    refine ab_iload_n (pc' := 38) (q := 1) dX6_isPolicy_37 rfl rfl rfl ?_
    refine ab_iconst (pc' := 39) (v := 1) dX6_isPolicy_38 (by decide) rfl ?_
    refine ab_iconst (pc' := 40) (v := 4) dX6_isPolicy_39 (by decide) rfl ?_
    obtain ⟨x5, ex5, hf⟩ := ab_bd hf
    refine ab_callS (pc' := 43) (Mc := mX6_within) (as := [.int a1, .int 1, .int 4]) (st := []) dX6_isPolicy_40 ml_X6_42 okX6_within ss_X6_within rfl (by decide) (Nat.le_of_ble_eq_true rfl) (Nat.le_of_ble_eq_true rfl) (Nat.le_of_ble_eq_true rfl) rfl rfl (kX6_within ex5 ?_)
    show ab_Ev l g mX6_isPolicy 1 0 0 43 [(0, .int a0), (1, .int a1)] [.int x5] h 0 0 K
    obtain ⟨n6, hf⟩ := ab_bg hf
    have hf := Option.some.inj hf
    subst hf
    exact ab_zretG rfl n6 dX6_isPolicy_43 hK
  have hf := ab_iN c4 hf
  refine ab_look2 (tgt := 44) dX6_isPolicy_1 (ab_ne (by decide) c1) (ab_ne (by decide) c4) (by decide) (by decide) ?_
  refine ab_iload_n (pc' := 45) (q := 0) dX6_isPolicy_44 rfl rfl rfl ?_
  refine ab_iconst (pc' := 46) (v := 0) dX6_isPolicy_45 (by decide) rfl ?_
  refine ab_iconst (pc' := 47) (v := 3) dX6_isPolicy_46 (by decide) rfl ?_
  obtain ⟨x7, ex7, hf⟩ := ab_bd hf
  refine ab_callS (pc' := 50) (Mc := mX6_within) (as := [.int a0, .int 0, .int 3]) (st := []) dX6_isPolicy_47 ml_X6_42 okX6_within ss_X6_within rfl (by decide) (Nat.le_of_ble_eq_true rfl) (Nat.le_of_ble_eq_true rfl) (Nat.le_of_ble_eq_true rfl) rfl rfl (kX6_within ex7 ?_)
  show ab_Ev l g mX6_isPolicy 1 0 0 50 [(0, .int a0), (1, .int a1)] [.int x7] h 0 0 K
  obtain ⟨n8, hf⟩ := ab_bg hf
  have hf := Option.some.inj hf
  subst hf
  exact ab_zretG rfl n8 dX6_isPolicy_50 hK
-- DiskRests.policy(III)I (mode W, depth 2)
def fX6_policy (h : ab_H) (a0 : Nat) (a1 : Int32) (a2 : Int32) (a3 : Int32) : Option (Int32 × ab_H) := (fX6_isDisk a1).bind (fun x1 => if (x1 : Int32) = 0 then some ((-1), h) else (fX6_isPolicy a2 a3).bind (fun x3 => if (x3 : Int32) = 0 then some ((-2), h) else (ab_gR h a0 6 0).bind (fun r5 => (ab_gR h r5 5 0).bind (fun r6 => (ab_aR h r6 a1).bind (fun r7 => (ab_gI h r7 1 3).bind (fun x8 => (ab_pV h r7 1 3 (.int a2)).bind (fun h9 => (ab_pV h9 r7 1 4 (.int a3)).bind (fun h10 => (ab_gR h10 a0 6 3).bind (fun r11 => (ab_ob h10 r11 4).bind (fun u12 => (fX4_makeStale h10 r11).bind (fun h13 => some (x8, h13))))))))))))
set_option maxRecDepth 20000 in
set_option maxHeartbeats 1000000 in
theorem kX6_policy {l : Launch} {g : ab_G} {K : ab_K} {h : ab_H} {a0 : Nat} {a1 : Int32} {a2 : Int32} {a3 : Int32} {r : (Int32 × ab_H)} (hf : fX6_policy h a0 a1 a2 a3 = some r) (hK : K (some (.int r.1)) r.2) : ab_S l g mX6_policy 2 0 0 [.ref a0, .int a1, .int a2, .int a3] h K := by
  unfold fX6_policy at hf
  refine ab_enter (ls := [(0, .ref a0), (1, .int a1), (2, .int a2), (3, .int a3)]) (by decide +kernel) rfl (Nat.le_of_ble_eq_true rfl) rfl ?_
  refine ab_iload_n (pc' := 1) (q := 1) dX6_policy_0 rfl rfl rfl ?_
  obtain ⟨x1, ex1, hf⟩ := ab_bd hf
  refine ab_callS (pc' := 4) (Mc := mX6_isDisk) (as := [.int a1]) (st := []) dX6_policy_1 ml_X6_38 okX6_isDisk ss_X6_isDisk rfl (by decide) (Nat.le_of_ble_eq_true rfl) (Nat.le_of_ble_eq_true rfl) (Nat.le_of_ble_eq_true rfl) rfl rfl (kX6_isDisk ex1 ?_)
  show ab_Ev l g mX6_policy 2 0 0 4 [(0, .ref a0), (1, .int a1), (2, .int a2), (3, .int a3)] [.int x1] h 0 0 K
  refine ab_if_ne (pc' := 7) (tgt := 9) dX6_policy_4 (by decide) rfl (fun c2 => ?_) (fun c2 => ?_)
  · have hf := ab_iN c2 hf
    refine ab_iload_n (pc' := 10) (q := 2) dX6_policy_9 rfl rfl rfl ?_
    refine ab_iload_n (pc' := 11) (q := 3) dX6_policy_10 rfl rfl rfl ?_
    obtain ⟨x3, ex3, hf⟩ := ab_bd hf
    refine ab_callS (pc' := 14) (Mc := mX6_isPolicy) (as := [.int a2, .int a3]) (st := []) dX6_policy_11 ml_X6_73 okX6_isPolicy ss_X6_isPolicy rfl (by decide) (Nat.le_of_ble_eq_true rfl) (Nat.le_of_ble_eq_true rfl) (Nat.le_of_ble_eq_true rfl) rfl rfl (kX6_isPolicy ex3 ?_)
    show ab_Ev l g mX6_policy 2 0 0 14 [(0, .ref a0), (1, .int a1), (2, .int a2), (3, .int a3)] [.int x3] h 0 0 K
    refine ab_if_ne (pc' := 17) (tgt := 20) dX6_policy_14 (by decide) rfl (fun c4 => ?_) (fun c4 => ?_)
    · have hf := ab_iN c4 hf
      refine ab_aload_n (pc' := 21) (q := 0) dX6_policy_20 rfl rfl rfl ?_
      obtain ⟨r5, er5, hf⟩ := ab_bd hf
      refine ab_getR (pc' := 24) (ci := 6) (k := 0) dX6_policy_21 rfl (by decide) fl_X6_10 er5 rfl ?_
      obtain ⟨r6, er6, hf⟩ := ab_bd hf
      refine ab_getR (pc' := 27) (ci := 5) (k := 0) dX6_policy_24 rfl (by decide) fl_X6_46 er6 rfl ?_
      refine ab_iload_n (pc' := 28) (q := 1) dX6_policy_27 rfl rfl rfl ?_
      obtain ⟨r7, er7, hf⟩ := ab_bd hf
      refine ab_aald (pc' := 29) dX6_policy_28 er7 rfl ?_
      refine ab_astore (pc' := 31) (ls' := [(4, .ref r7), (0, .ref a0), (1, .int a1), (2, .int a2), (3, .int a3)]) dX6_policy_29 (by decide) rfl rfl ?_
      refine ab_aload (pc' := 33) (q := 0) dX6_policy_31 rfl rfl ?_
      obtain ⟨x8, ex8, hf⟩ := ab_bd hf
      refine ab_getI (pc' := 36) (ci := 1) (k := 3) dX6_policy_33 rfl (by decide) fl_X6_77 ex8 rfl ?_
      refine ab_istore (pc' := 38) (ls' := [(5, .int x8), (4, .ref r7), (0, .ref a0), (1, .int a1), (2, .int a2), (3, .int a3)]) dX6_policy_36 (by decide) rfl rfl ?_
      refine ab_aload (pc' := 40) (q := 1) dX6_policy_38 rfl rfl ?_
      refine ab_iload_n (pc' := 41) (q := 4) dX6_policy_40 rfl rfl rfl ?_
      obtain ⟨h9, eh9, hf⟩ := ab_bd hf
      refine ab_put (pc' := 44) (ci := 1) (k := 3) dX6_policy_41 rfl (by decide) fl_X6_77 rfl (tyX1_ok 3 (by decide)) rfl rfl eh9 rfl ?_
      refine ab_aload (pc' := 46) (q := 1) dX6_policy_44 rfl rfl ?_
      refine ab_iload_n (pc' := 47) (q := 5) dX6_policy_46 rfl rfl rfl ?_
      obtain ⟨h10, eh10, hf⟩ := ab_bd hf
      refine ab_put (pc' := 50) (ci := 1) (k := 4) dX6_policy_47 rfl (by decide) fl_X6_80 rfl (tyX1_ok 4 (by decide)) rfl rfl eh10 rfl ?_
      refine ab_aload_n (pc' := 51) (q := 2) dX6_policy_50 rfl rfl rfl ?_
      obtain ⟨r11, er11, hf⟩ := ab_bd hf
      refine ab_getR (pc' := 54) (ci := 6) (k := 3) dX6_policy_51 rfl (by decide) fl_X6_27 er11 rfl ?_
      obtain ⟨u12, eu12, hf⟩ := ab_bd hf
      obtain ⟨h13, eh13, hf⟩ := ab_bd hf
      refine ab_callV (pc' := 57) (Mc := mX4_makeStale) (as := []) (st := []) dX6_policy_54 ml_X6_60 okX4_makeStale im_X4_makeStale se_X4_makeStale rfl eu12 rfl (by decide) (Nat.le_of_ble_eq_true rfl) (Nat.le_of_ble_eq_true rfl) (Nat.le_of_ble_eq_true rfl) rfl rfl (kX4_makeStale eh13 ?_)
      show ab_Ev l g mX6_policy 2 0 0 57 [(5, .int x8), (4, .ref r7), (0, .ref a0), (1, .int a1), (2, .int a2), (3, .int a3)] [] h13 0 0 K
      refine ab_iload (pc' := 59) (q := 0) dX6_policy_57 rfl rfl ?_
      have hf := Option.some.inj hf
      subst hf
      exact ab_iret rfl dX6_policy_59 hK
    · have hf := ab_ip c4 hf
      refine ab_bipush (pc' := 19) (v := (-2)) dX6_policy_17 (by decide) rfl ?_
      have hf := Option.some.inj hf
      subst hf
      exact ab_iret rfl dX6_policy_19 hK
  · have hf := ab_ip c2 hf
    refine ab_iconst (pc' := 8) (v := (-1)) dX6_policy_7 (by decide) rfl ?_
    have hf := Option.some.inj hf
    subst hf
    exact ab_iret rfl dX6_policy_8 hK
-- DiskRests$Requests.add(III)V (mode W, depth 0)
def fX3_add (h : ab_H) (a0 : Nat) (a1 : Int32) (a2 : Int32) (a3 : Int32) : Option ab_H := (ab_gR h a0 3 0).bind (fun r1 => (ab_gI h a0 3 3).bind (fun x2 => (ab_sI h r1 x2 a1).bind (fun h3 => (ab_gR h3 a0 3 1).bind (fun r4 => (ab_gI h3 a0 3 3).bind (fun x5 => (ab_sI h3 r4 x5 a2).bind (fun h6 => (ab_gR h6 a0 3 2).bind (fun r7 => (ab_gI h6 a0 3 3).bind (fun x8 => (ab_sI h6 r7 x8 a3).bind (fun h9 => (ab_gI h9 a0 3 3).bind (fun x10 => (ab_pV h9 a0 3 3 (.int (x10 + 1))).bind (fun h11 => some h11)))))))))))
set_option maxRecDepth 20000 in
set_option maxHeartbeats 1000000 in
theorem kX3_add {l : Launch} {g : ab_G} {K : ab_K} {h : ab_H} {a0 : Nat} {a1 : Int32} {a2 : Int32} {a3 : Int32} {r : ab_H} (hf : fX3_add h a0 a1 a2 a3 = some r) (hK : K none r) : ab_S l g mX3_add 0 0 0 [.ref a0, .int a1, .int a2, .int a3] h K := by
  unfold fX3_add at hf
  refine ab_enter (ls := [(0, .ref a0), (1, .int a1), (2, .int a2), (3, .int a3)]) (by decide +kernel) rfl (Nat.le_of_ble_eq_true rfl) rfl ?_
  refine ab_aload_n (pc' := 1) (q := 0) dX3_add_0 rfl rfl rfl ?_
  obtain ⟨r1, er1, hf⟩ := ab_bd hf
  refine ab_getR (pc' := 4) (ci := 3) (k := 0) dX3_add_1 rfl (by decide) fl_X3_9 er1 rfl ?_
  refine ab_aload_n (pc' := 5) (q := 0) dX3_add_4 rfl rfl rfl ?_
  obtain ⟨x2, ex2, hf⟩ := ab_bd hf
  refine ab_getI (pc' := 8) (ci := 3) (k := 3) dX3_add_5 rfl (by decide) fl_X3_27 ex2 rfl ?_
  refine ab_iload_n (pc' := 9) (q := 1) dX3_add_8 rfl rfl rfl ?_
  obtain ⟨h3, eh3, hf⟩ := ab_bd hf
  refine ab_iast (pc' := 10) dX3_add_9 eh3 rfl ?_
  refine ab_aload_n (pc' := 11) (q := 0) dX3_add_10 rfl rfl rfl ?_
  obtain ⟨r4, er4, hf⟩ := ab_bd hf
  refine ab_getR (pc' := 14) (ci := 3) (k := 1) dX3_add_11 rfl (by decide) fl_X3_15 er4 rfl ?_
  refine ab_aload_n (pc' := 15) (q := 0) dX3_add_14 rfl rfl rfl ?_
  obtain ⟨x5, ex5, hf⟩ := ab_bd hf
  refine ab_getI (pc' := 18) (ci := 3) (k := 3) dX3_add_15 rfl (by decide) fl_X3_27 ex5 rfl ?_
  refine ab_iload_n (pc' := 19) (q := 2) dX3_add_18 rfl rfl rfl ?_
  obtain ⟨h6, eh6, hf⟩ := ab_bd hf
  refine ab_iast (pc' := 20) dX3_add_19 eh6 rfl ?_
  refine ab_aload_n (pc' := 21) (q := 0) dX3_add_20 rfl rfl rfl ?_
  obtain ⟨r7, er7, hf⟩ := ab_bd hf
  refine ab_getR (pc' := 24) (ci := 3) (k := 2) dX3_add_21 rfl (by decide) fl_X3_18 er7 rfl ?_
  refine ab_aload_n (pc' := 25) (q := 0) dX3_add_24 rfl rfl rfl ?_
  obtain ⟨x8, ex8, hf⟩ := ab_bd hf
  refine ab_getI (pc' := 28) (ci := 3) (k := 3) dX3_add_25 rfl (by decide) fl_X3_27 ex8 rfl ?_
  refine ab_iload_n (pc' := 29) (q := 3) dX3_add_28 rfl rfl rfl ?_
  obtain ⟨h9, eh9, hf⟩ := ab_bd hf
  refine ab_iast (pc' := 30) dX3_add_29 eh9 rfl ?_
  refine ab_aload_n (pc' := 31) (q := 0) dX3_add_30 rfl rfl rfl ?_
  refine ab_dup_ref (pc' := 32) dX3_add_31 rfl ?_
  obtain ⟨x10, ex10, hf⟩ := ab_bd hf
  refine ab_getI (pc' := 35) (ci := 3) (k := 3) dX3_add_32 rfl (by decide) fl_X3_27 ex10 rfl ?_
  refine ab_iconst (pc' := 36) (v := 1) dX3_add_35 (by decide) rfl ?_
  refine ab_iadd (pc' := 37) dX3_add_36 rfl ?_
  obtain ⟨h11, eh11, hf⟩ := ab_bd hf
  refine ab_put (pc' := 40) (ci := 3) (k := 3) dX3_add_37 rfl (by decide) fl_X3_27 rfl (tyX3_ok 3 (by decide)) rfl rfl eh11 rfl ?_
  have hf := Option.some.inj hf
  subst hf
  exact ab_vret rfl dX3_add_40 hK
-- DiskRests.request(III)I (mode W, depth 2)
def bX6_request_29  (h : ab_H) : Option (Int32 × ab_H) := some ((-2), h)
set_option maxRecDepth 20000 in
set_option maxHeartbeats 1000000 in
theorem kbX6_request_29 {l : Launch} {g : ab_G} {K : ab_K} {h : ab_H}  {r : (Int32 × ab_H)} (hf : bX6_request_29 h = some r) (hK : K (some (.int r.1)) r.2) : ab_Ev l g mX6_request 2 0 0 29 [] [] h 0 0 K := by
  unfold bX6_request_29 at hf
  refine ab_bipush (pc' := 31) (v := (-2)) dX6_request_29 (by decide) rfl ?_
  have hf := Option.some.inj hf
  subst hf
  exact ab_iret rfl dX6_request_31 hK
def fX6_request (h : ab_H) (a0 : Nat) (a1 : Int32) (a2 : Int32) (a3 : Int32) : Option (Int32 × ab_H) := (fX6_isDisk a2).bind (fun x1 => if (x1 : Int32) = 0 then some ((-1), h) else (fX6_within a1 0 999).bind (fun x3 => if (x3 : Int32) = 0 then bX6_request_29 h else (fX6_within a3 0 1).bind (fun x5 => if (x5 : Int32) = 0 then bX6_request_29 h else (ab_gR h a0 6 0).bind (fun r7 => (ab_gR h r7 5 1).bind (fun r8 => (ab_gI h r8 3 3).bind (fun x9 => if (x9 : Int32) < 40 then (ab_gR h a0 6 0).bind (fun r11 => (ab_gR h r11 5 1).bind (fun r12 => (ab_ob h r12 3).bind (fun u13 => (fX3_add h r12 a1 a2 a3).bind (fun h14 => (ab_gR h14 a0 6 3).bind (fun r15 => (ab_ob h14 r15 4).bind (fun u16 => (fX4_makeStale h14 r15).bind (fun h17 => (ab_gR h17 a0 6 0).bind (fun r18 => (ab_gR h17 r18 5 1).bind (fun r19 => (ab_gI h17 r19 3 3).bind (fun x20 => some ((x20 - 1), h17))))))))))) else some ((-4), h)))))))
set_option maxRecDepth 20000 in
set_option maxHeartbeats 1000000 in
theorem kX6_request {l : Launch} {g : ab_G} {K : ab_K} {h : ab_H} {a0 : Nat} {a1 : Int32} {a2 : Int32} {a3 : Int32} {r : (Int32 × ab_H)} (hf : fX6_request h a0 a1 a2 a3 = some r) (hK : K (some (.int r.1)) r.2) : ab_S l g mX6_request 2 0 0 [.ref a0, .int a1, .int a2, .int a3] h K := by
  unfold fX6_request at hf
  refine ab_enter (ls := [(0, .ref a0), (1, .int a1), (2, .int a2), (3, .int a3)]) (by decide +kernel) rfl (Nat.le_of_ble_eq_true rfl) rfl ?_
  refine ab_iload_n (pc' := 1) (q := 2) dX6_request_0 rfl rfl rfl ?_
  obtain ⟨x1, ex1, hf⟩ := ab_bd hf
  refine ab_callS (pc' := 4) (Mc := mX6_isDisk) (as := [.int a2]) (st := []) dX6_request_1 ml_X6_38 okX6_isDisk ss_X6_isDisk rfl (by decide) (Nat.le_of_ble_eq_true rfl) (Nat.le_of_ble_eq_true rfl) (Nat.le_of_ble_eq_true rfl) rfl rfl (kX6_isDisk ex1 ?_)
  show ab_Ev l g mX6_request 2 0 0 4 [(0, .ref a0), (1, .int a1), (2, .int a2), (3, .int a3)] [.int x1] h 0 0 K
  refine ab_if_ne (pc' := 7) (tgt := 9) dX6_request_4 (by decide) rfl (fun c2 => ?_) (fun c2 => ?_)
  · have hf := ab_iN c2 hf
    refine ab_iload_n (pc' := 10) (q := 1) dX6_request_9 rfl rfl rfl ?_
    refine ab_iconst (pc' := 11) (v := 0) dX6_request_10 (by decide) rfl ?_
    refine ab_sipush (pc' := 14) (v := 999) dX6_request_11 (by decide) rfl ?_
    obtain ⟨x3, ex3, hf⟩ := ab_bd hf
    refine ab_callS (pc' := 17) (Mc := mX6_within) (as := [.int a1, .int 0, .int 999]) (st := []) dX6_request_14 ml_X6_42 okX6_within ss_X6_within rfl (by decide) (Nat.le_of_ble_eq_true rfl) (Nat.le_of_ble_eq_true rfl) (Nat.le_of_ble_eq_true rfl) rfl rfl (kX6_within ex3 ?_)
    show ab_Ev l g mX6_request 2 0 0 17 [(0, .ref a0), (1, .int a1), (2, .int a2), (3, .int a3)] [.int x3] h 0 0 K
    refine ab_if_eq (pc' := 20) (tgt := 29) dX6_request_17 (by decide) rfl (fun c4 => ?_) (fun c4 => ?_)
    · have hf := ab_ip c4 hf
      refine ab_drop (ls' := []) [] rfl ?_
      exact kbX6_request_29 hf hK
    · have hf := ab_iN c4 hf
      refine ab_iload_n (pc' := 21) (q := 3) dX6_request_20 rfl rfl rfl ?_
      refine ab_iconst (pc' := 22) (v := 0) dX6_request_21 (by decide) rfl ?_
      refine ab_iconst (pc' := 23) (v := 1) dX6_request_22 (by decide) rfl ?_
      obtain ⟨x5, ex5, hf⟩ := ab_bd hf
      refine ab_callS (pc' := 26) (Mc := mX6_within) (as := [.int a3, .int 0, .int 1]) (st := []) dX6_request_23 ml_X6_42 okX6_within ss_X6_within rfl (by decide) (Nat.le_of_ble_eq_true rfl) (Nat.le_of_ble_eq_true rfl) (Nat.le_of_ble_eq_true rfl) rfl rfl (kX6_within ex5 ?_)
      show ab_Ev l g mX6_request 2 0 0 26 [(0, .ref a0), (1, .int a1), (2, .int a2), (3, .int a3)] [.int x5] h 0 0 K
      refine ab_if_ne (pc' := 29) (tgt := 32) dX6_request_26 (by decide) rfl (fun c6 => ?_) (fun c6 => ?_)
      · have hf := ab_iN c6 hf
        refine ab_aload_n (pc' := 33) (q := 0) dX6_request_32 rfl rfl rfl ?_
        obtain ⟨r7, er7, hf⟩ := ab_bd hf
        refine ab_getR (pc' := 36) (ci := 6) (k := 0) dX6_request_33 rfl (by decide) fl_X6_10 er7 rfl ?_
        obtain ⟨r8, er8, hf⟩ := ab_bd hf
        refine ab_getR (pc' := 39) (ci := 5) (k := 1) dX6_request_36 rfl (by decide) fl_X6_83 er8 rfl ?_
        obtain ⟨x9, ex9, hf⟩ := ab_bd hf
        refine ab_getI (pc' := 42) (ci := 3) (k := 3) dX6_request_39 rfl (by decide) fl_X6_87 ex9 rfl ?_
        refine ab_bipush (pc' := 44) (v := 40) dX6_request_42 (by decide) rfl ?_
        refine ab_icmp_lt (pc' := 47) (tgt := 50) dX6_request_44 (by decide) rfl (fun c10 => ?_) (fun c10 => ?_)
        · have hf := ab_ip c10 hf
          refine ab_aload_n (pc' := 51) (q := 0) dX6_request_50 rfl rfl rfl ?_
          obtain ⟨r11, er11, hf⟩ := ab_bd hf
          refine ab_getR (pc' := 54) (ci := 6) (k := 0) dX6_request_51 rfl (by decide) fl_X6_10 er11 rfl ?_
          obtain ⟨r12, er12, hf⟩ := ab_bd hf
          refine ab_getR (pc' := 57) (ci := 5) (k := 1) dX6_request_54 rfl (by decide) fl_X6_83 er12 rfl ?_
          refine ab_iload_n (pc' := 58) (q := 1) dX6_request_57 rfl rfl rfl ?_
          refine ab_iload_n (pc' := 59) (q := 2) dX6_request_58 rfl rfl rfl ?_
          refine ab_iload_n (pc' := 60) (q := 3) dX6_request_59 rfl rfl rfl ?_
          obtain ⟨u13, eu13, hf⟩ := ab_bd hf
          obtain ⟨h14, eh14, hf⟩ := ab_bd hf
          refine ab_callV (pc' := 63) (Mc := mX3_add) (as := [.int a1, .int a2, .int a3]) (st := []) dX6_request_60 ml_X6_92 okX3_add im_X3_add se_X3_add rfl eu13 rfl (by decide) (Nat.le_of_ble_eq_true rfl) (Nat.le_of_ble_eq_true rfl) (Nat.le_of_ble_eq_true rfl) rfl rfl (kX3_add eh14 ?_)
          show ab_Ev l g mX6_request 2 0 0 63 [(0, .ref a0), (1, .int a1), (2, .int a2), (3, .int a3)] [] h14 0 0 K
          refine ab_aload_n (pc' := 64) (q := 0) dX6_request_63 rfl rfl rfl ?_
          obtain ⟨r15, er15, hf⟩ := ab_bd hf
          refine ab_getR (pc' := 67) (ci := 6) (k := 3) dX6_request_64 rfl (by decide) fl_X6_27 er15 rfl ?_
          obtain ⟨u16, eu16, hf⟩ := ab_bd hf
          obtain ⟨h17, eh17, hf⟩ := ab_bd hf
          refine ab_callV (pc' := 70) (Mc := mX4_makeStale) (as := []) (st := []) dX6_request_67 ml_X6_60 okX4_makeStale im_X4_makeStale se_X4_makeStale rfl eu16 rfl (by decide) (Nat.le_of_ble_eq_true rfl) (Nat.le_of_ble_eq_true rfl) (Nat.le_of_ble_eq_true rfl) rfl rfl (kX4_makeStale eh17 ?_)
          show ab_Ev l g mX6_request 2 0 0 70 [(0, .ref a0), (1, .int a1), (2, .int a2), (3, .int a3)] [] h17 0 0 K
          refine ab_aload_n (pc' := 71) (q := 0) dX6_request_70 rfl rfl rfl ?_
          obtain ⟨r18, er18, hf⟩ := ab_bd hf
          refine ab_getR (pc' := 74) (ci := 6) (k := 0) dX6_request_71 rfl (by decide) fl_X6_10 er18 rfl ?_
          obtain ⟨r19, er19, hf⟩ := ab_bd hf
          refine ab_getR (pc' := 77) (ci := 5) (k := 1) dX6_request_74 rfl (by decide) fl_X6_83 er19 rfl ?_
          obtain ⟨x20, ex20, hf⟩ := ab_bd hf
          refine ab_getI (pc' := 80) (ci := 3) (k := 3) dX6_request_77 rfl (by decide) fl_X6_87 ex20 rfl ?_
          refine ab_iconst (pc' := 81) (v := 1) dX6_request_80 (by decide) rfl ?_
          refine ab_isub (pc' := 82) dX6_request_81 rfl ?_
          have hf := Option.some.inj hf
          subst hf
          exact ab_iret rfl dX6_request_82 hK
        · have hf := ab_iN c10 hf
          refine ab_bipush (pc' := 49) (v := (-4)) dX6_request_47 (by decide) rfl ?_
          have hf := Option.some.inj hf
          subst hf
          exact ab_iret rfl dX6_request_49 hK
      · have hf := ab_ip c6 hf
        refine ab_drop (ls' := []) [] rfl ?_
        exact kbX6_request_29 hf hK
  · have hf := ab_ip c2 hf
    refine ab_iconst (pc' := 8) (v := (-1)) dX6_request_7 (by decide) rfl ?_
    have hf := Option.some.inj hf
    subst hf
    exact ab_iret rfl dX6_request_8 hK
-- DiskRests$Requests.has(I)Z (mode R, depth 1)
def fX3_has (h : ab_H) (a0 : Nat) (a1 : Int32) : Option Int32 := (ab_gI h a0 3 3).bind (fun x1 => (fX6_within a1 0 (x1 - 1)).bind (fun x2 => if (x2 : Int32) &&& 1 = x2 then some x2 else none))
set_option maxRecDepth 20000 in
set_option maxHeartbeats 1000000 in
theorem kX3_has {l : Launch} {g : ab_G} {K : ab_K} {h : ab_H} {a0 : Nat} {a1 : Int32} {r : Int32} (hf : fX3_has h a0 a1 = some r) (hK : K (some (.int r)) h) : ab_S l g mX3_has 1 0 0 [.ref a0, .int a1] h K := by
  unfold fX3_has at hf
  refine ab_enter (ls := [(0, .ref a0), (1, .int a1)]) (by decide +kernel) rfl (Nat.le_of_ble_eq_true rfl) rfl ?_
  refine ab_iload_n (pc' := 1) (q := 1) dX3_has_0 rfl rfl rfl ?_
  refine ab_iconst (pc' := 2) (v := 0) dX3_has_1 (by decide) rfl ?_
  refine ab_aload_n (pc' := 3) (q := 0) dX3_has_2 rfl rfl rfl ?_
  obtain ⟨x1, ex1, hf⟩ := ab_bd hf
  refine ab_getI (pc' := 6) (ci := 3) (k := 3) dX3_has_3 rfl (by decide) fl_X3_27 ex1 rfl ?_
  refine ab_iconst (pc' := 7) (v := 1) dX3_has_6 (by decide) rfl ?_
  refine ab_isub (pc' := 8) dX3_has_7 rfl ?_
  obtain ⟨x2, ex2, hf⟩ := ab_bd hf
  refine ab_callS (pc' := 11) (Mc := mX6_within) (as := [.int a1, .int 0, .int (x1 - 1)]) (st := []) dX3_has_8 ml_X3_31 okX6_within ss_X6_within rfl (by decide) (Nat.le_of_ble_eq_true rfl) (Nat.le_of_ble_eq_true rfl) (Nat.le_of_ble_eq_true rfl) rfl rfl (kX6_within ex2 ?_)
  show ab_Ev l g mX3_has 1 0 0 11 [(0, .ref a0), (1, .int a1)] [.int x2] h 0 0 K
  obtain ⟨n3, hf⟩ := ab_bg hf
  have hf := Option.some.inj hf
  subst hf
  exact ab_zretG rfl n3 dX3_has_11 hK
-- DiskRests$Requests.drop(I)V (mode W, depth 0)
def lX3_drop_12 (v0 : Nat) : Nat → Int32 → ab_H → Option ab_H
  | 0, _, _ => none
  | n + 1, v2, h => (ab_gI h v0 3 3).bind (fun x3 => if x3 ≤ (v2 : Int32) then some h else (ab_gR h v0 3 0).bind (fun r5 => (ab_gR h v0 3 0).bind (fun r6 => (ab_aI h r6 (v2 + 1)).bind (fun x7 => (ab_sI h r5 v2 x7).bind (fun h8 => (ab_gR h8 v0 3 1).bind (fun r9 => (ab_gR h8 v0 3 1).bind (fun r10 => (ab_aI h8 r10 (v2 + 1)).bind (fun x11 => (ab_sI h8 r9 v2 x11).bind (fun h12 => (ab_gR h12 v0 3 2).bind (fun r13 => (ab_gR h12 v0 3 2).bind (fun r14 => (ab_aI h12 r14 (v2 + 1)).bind (fun x15 => (ab_sI h12 r13 v2 x15).bind (fun h16 => lX3_drop_12 v0 n (v2 + 1) h16)))))))))))))
set_option maxRecDepth 20000 in
set_option maxHeartbeats 1000000 in
theorem klX3_drop_12 {l : Launch} {g : ab_G} {K : ab_K} {v0 : Nat} {q : ab_H} (hx : ab_Ev l g mX3_drop 0 0 0 68 [] [] q 0 0 K) : ∀ (n : Nat) (v2 : Int32) (h : ab_H), lX3_drop_12 v0 n v2 h = some q → ab_Ev l g mX3_drop 0 0 0 12 [(0, .ref v0), (2, .int v2)] [] h 0 0 K := by
  intro n
  induction n with
  | zero => intro v2 h hf; cases (show (none : Option ab_H) = some q from hf)
  | succ n ih =>
    intro v2 h hf
    rw [lX3_drop_12] at hf
    refine ab_iload_n (pc' := 13) (q := 1) dX3_drop_12 rfl rfl rfl ?_
    refine ab_aload_n (pc' := 14) (q := 0) dX3_drop_13 rfl rfl rfl ?_
    obtain ⟨x3, ex3, hf⟩ := ab_bd hf
    refine ab_getI (pc' := 17) (ci := 3) (k := 3) dX3_drop_14 rfl (by decide) fl_X3_27 ex3 rfl ?_
    refine ab_icmp_ge (pc' := 20) (tgt := 68) dX3_drop_17 (by decide) rfl (fun c4 => ?_) (fun c4 => ?_)
    · have hf := ab_ip c4 hf
      have hf := Option.some.inj hf
      subst hf
      refine ab_drop (ls' := []) [] rfl ?_
      exact hx
    · have hf := ab_iN c4 hf
      refine ab_aload_n (pc' := 21) (q := 0) dX3_drop_20 rfl rfl rfl ?_
      obtain ⟨r5, er5, hf⟩ := ab_bd hf
      refine ab_getR (pc' := 24) (ci := 3) (k := 0) dX3_drop_21 rfl (by decide) fl_X3_9 er5 rfl ?_
      refine ab_iload_n (pc' := 25) (q := 1) dX3_drop_24 rfl rfl rfl ?_
      refine ab_aload_n (pc' := 26) (q := 0) dX3_drop_25 rfl rfl rfl ?_
      obtain ⟨r6, er6, hf⟩ := ab_bd hf
      refine ab_getR (pc' := 29) (ci := 3) (k := 0) dX3_drop_26 rfl (by decide) fl_X3_9 er6 rfl ?_
      refine ab_iload_n (pc' := 30) (q := 1) dX3_drop_29 rfl rfl rfl ?_
      refine ab_iconst (pc' := 31) (v := 1) dX3_drop_30 (by decide) rfl ?_
      refine ab_iadd (pc' := 32) dX3_drop_31 rfl ?_
      obtain ⟨x7, ex7, hf⟩ := ab_bd hf
      refine ab_iald (pc' := 33) dX3_drop_32 ex7 rfl ?_
      obtain ⟨h8, eh8, hf⟩ := ab_bd hf
      refine ab_iast (pc' := 34) dX3_drop_33 eh8 rfl ?_
      refine ab_aload_n (pc' := 35) (q := 0) dX3_drop_34 rfl rfl rfl ?_
      obtain ⟨r9, er9, hf⟩ := ab_bd hf
      refine ab_getR (pc' := 38) (ci := 3) (k := 1) dX3_drop_35 rfl (by decide) fl_X3_15 er9 rfl ?_
      refine ab_iload_n (pc' := 39) (q := 1) dX3_drop_38 rfl rfl rfl ?_
      refine ab_aload_n (pc' := 40) (q := 0) dX3_drop_39 rfl rfl rfl ?_
      obtain ⟨r10, er10, hf⟩ := ab_bd hf
      refine ab_getR (pc' := 43) (ci := 3) (k := 1) dX3_drop_40 rfl (by decide) fl_X3_15 er10 rfl ?_
      refine ab_iload_n (pc' := 44) (q := 1) dX3_drop_43 rfl rfl rfl ?_
      refine ab_iconst (pc' := 45) (v := 1) dX3_drop_44 (by decide) rfl ?_
      refine ab_iadd (pc' := 46) dX3_drop_45 rfl ?_
      obtain ⟨x11, ex11, hf⟩ := ab_bd hf
      refine ab_iald (pc' := 47) dX3_drop_46 ex11 rfl ?_
      obtain ⟨h12, eh12, hf⟩ := ab_bd hf
      refine ab_iast (pc' := 48) dX3_drop_47 eh12 rfl ?_
      refine ab_aload_n (pc' := 49) (q := 0) dX3_drop_48 rfl rfl rfl ?_
      obtain ⟨r13, er13, hf⟩ := ab_bd hf
      refine ab_getR (pc' := 52) (ci := 3) (k := 2) dX3_drop_49 rfl (by decide) fl_X3_18 er13 rfl ?_
      refine ab_iload_n (pc' := 53) (q := 1) dX3_drop_52 rfl rfl rfl ?_
      refine ab_aload_n (pc' := 54) (q := 0) dX3_drop_53 rfl rfl rfl ?_
      obtain ⟨r14, er14, hf⟩ := ab_bd hf
      refine ab_getR (pc' := 57) (ci := 3) (k := 2) dX3_drop_54 rfl (by decide) fl_X3_18 er14 rfl ?_
      refine ab_iload_n (pc' := 58) (q := 1) dX3_drop_57 rfl rfl rfl ?_
      refine ab_iconst (pc' := 59) (v := 1) dX3_drop_58 (by decide) rfl ?_
      refine ab_iadd (pc' := 60) dX3_drop_59 rfl ?_
      obtain ⟨x15, ex15, hf⟩ := ab_bd hf
      refine ab_iald (pc' := 61) dX3_drop_60 ex15 rfl ?_
      obtain ⟨h16, eh16, hf⟩ := ab_bd hf
      refine ab_iast (pc' := 62) dX3_drop_61 eh16 rfl ?_
      refine ab_iinc (pc' := 65) (q := 1) (v := (v2 + 1)) (ls' := [(2, .int (v2 + 1)), (0, .ref v0)]) dX3_drop_62 rfl rfl (by decide) rfl rfl ?_
      refine ab_goto (tgt := 12) dX3_drop_65 (by decide) ?_
      refine ab_drop (ls' := [(0, .ref v0), (2, .int (v2 + 1))]) [1, 0] rfl ?_
      exact ih _ _ hf
def fX3_drop (h : ab_H) (a0 : Nat) (a1 : Int32) : Option ab_H := (ab_gI h a0 3 3).bind (fun x1 => (ab_pV h a0 3 3 (.int (x1 - 1))).bind (fun h2 => (lX3_drop_12 a0 ab_fu a1 h2).bind (fun q17 => some q17)))
set_option maxRecDepth 20000 in
set_option maxHeartbeats 1000000 in
theorem kX3_drop {l : Launch} {g : ab_G} {K : ab_K} {h : ab_H} {a0 : Nat} {a1 : Int32} {r : ab_H} (hf : fX3_drop h a0 a1 = some r) (hK : K none r) : ab_S l g mX3_drop 0 0 0 [.ref a0, .int a1] h K := by
  unfold fX3_drop at hf
  refine ab_enter (ls := [(0, .ref a0), (1, .int a1)]) (by decide +kernel) rfl (Nat.le_of_ble_eq_true rfl) rfl ?_
  refine ab_aload_n (pc' := 1) (q := 0) dX3_drop_0 rfl rfl rfl ?_
  refine ab_dup_ref (pc' := 2) dX3_drop_1 rfl ?_
  obtain ⟨x1, ex1, hf⟩ := ab_bd hf
  refine ab_getI (pc' := 5) (ci := 3) (k := 3) dX3_drop_2 rfl (by decide) fl_X3_27 ex1 rfl ?_
  refine ab_iconst (pc' := 6) (v := 1) dX3_drop_5 (by decide) rfl ?_
  refine ab_isub (pc' := 7) dX3_drop_6 rfl ?_
  obtain ⟨h2, eh2, hf⟩ := ab_bd hf
  refine ab_put (pc' := 10) (ci := 3) (k := 3) dX3_drop_7 rfl (by decide) fl_X3_27 rfl (tyX3_ok 3 (by decide)) rfl rfl eh2 rfl ?_
  refine ab_iload_n (pc' := 11) (q := 1) dX3_drop_10 rfl rfl rfl ?_
  refine ab_istore_n (pc' := 12) (ls' := [(2, .int a1), (0, .ref a0), (1, .int a1)]) dX3_drop_11 rfl (by decide) rfl rfl ?_
  refine ab_drop (ls' := [(0, .ref a0), (2, .int a1)]) [1, 0] rfl ?_
  obtain ⟨q17, eq17, hf⟩ := ab_bd hf
  refine klX3_drop_12 ?_ ab_fu _ _ eq17
  have hf := Option.some.inj hf
  subst hf
  exact ab_vret rfl dX3_drop_68 hK
-- DiskRests.forget(I)I (mode W, depth 2)
def fX6_forget (h : ab_H) (a0 : Nat) (a1 : Int32) : Option (Int32 × ab_H) := (ab_gR h a0 6 0).bind (fun r1 => (ab_gR h r1 5 1).bind (fun r2 => (ab_ob h r2 3).bind (fun u3 => (fX3_has h r2 a1).bind (fun x4 => if (x4 : Int32) = 0 then some ((-1), h) else (ab_gR h a0 6 0).bind (fun r6 => (ab_gR h r6 5 1).bind (fun r7 => (ab_ob h r7 3).bind (fun u8 => (fX3_drop h r7 a1).bind (fun h9 => (ab_gR h9 a0 6 3).bind (fun r10 => (ab_ob h9 r10 4).bind (fun u11 => (fX4_makeStale h9 r10).bind (fun h12 => (ab_gR h12 a0 6 0).bind (fun r13 => (ab_gR h12 r13 5 1).bind (fun r14 => (ab_gI h12 r14 3 3).bind (fun x15 => some (x15, h12)))))))))))))))
set_option maxRecDepth 20000 in
set_option maxHeartbeats 1000000 in
theorem kX6_forget {l : Launch} {g : ab_G} {K : ab_K} {h : ab_H} {a0 : Nat} {a1 : Int32} {r : (Int32 × ab_H)} (hf : fX6_forget h a0 a1 = some r) (hK : K (some (.int r.1)) r.2) : ab_S l g mX6_forget 2 0 0 [.ref a0, .int a1] h K := by
  unfold fX6_forget at hf
  refine ab_enter (ls := [(0, .ref a0), (1, .int a1)]) (by decide +kernel) rfl (Nat.le_of_ble_eq_true rfl) rfl ?_
  refine ab_aload_n (pc' := 1) (q := 0) dX6_forget_0 rfl rfl rfl ?_
  obtain ⟨r1, er1, hf⟩ := ab_bd hf
  refine ab_getR (pc' := 4) (ci := 6) (k := 0) dX6_forget_1 rfl (by decide) fl_X6_10 er1 rfl ?_
  obtain ⟨r2, er2, hf⟩ := ab_bd hf
  refine ab_getR (pc' := 7) (ci := 5) (k := 1) dX6_forget_4 rfl (by decide) fl_X6_83 er2 rfl ?_
  refine ab_iload_n (pc' := 8) (q := 1) dX6_forget_7 rfl rfl rfl ?_
  obtain ⟨u3, eu3, hf⟩ := ab_bd hf
  obtain ⟨x4, ex4, hf⟩ := ab_bd hf
  refine ab_callV (pc' := 11) (Mc := mX3_has) (as := [.int a1]) (st := []) dX6_forget_8 ml_X6_96 okX3_has im_X3_has se_X3_has rfl eu3 rfl (by decide) (Nat.le_of_ble_eq_true rfl) (Nat.le_of_ble_eq_true rfl) (Nat.le_of_ble_eq_true rfl) rfl rfl (kX3_has ex4 ?_)
  show ab_Ev l g mX6_forget 2 0 0 11 [(0, .ref a0), (1, .int a1)] [.int x4] h 0 0 K
  refine ab_if_ne (pc' := 14) (tgt := 16) dX6_forget_11 (by decide) rfl (fun c5 => ?_) (fun c5 => ?_)
  · have hf := ab_iN c5 hf
    refine ab_aload_n (pc' := 17) (q := 0) dX6_forget_16 rfl rfl rfl ?_
    obtain ⟨r6, er6, hf⟩ := ab_bd hf
    refine ab_getR (pc' := 20) (ci := 6) (k := 0) dX6_forget_17 rfl (by decide) fl_X6_10 er6 rfl ?_
    obtain ⟨r7, er7, hf⟩ := ab_bd hf
    refine ab_getR (pc' := 23) (ci := 5) (k := 1) dX6_forget_20 rfl (by decide) fl_X6_83 er7 rfl ?_
    refine ab_iload_n (pc' := 24) (q := 1) dX6_forget_23 rfl rfl rfl ?_
    obtain ⟨u8, eu8, hf⟩ := ab_bd hf
    obtain ⟨h9, eh9, hf⟩ := ab_bd hf
    refine ab_callV (pc' := 27) (Mc := mX3_drop) (as := [.int a1]) (st := []) dX6_forget_24 ml_X6_99 okX3_drop im_X3_drop se_X3_drop rfl eu8 rfl (by decide) (Nat.le_of_ble_eq_true rfl) (Nat.le_of_ble_eq_true rfl) (Nat.le_of_ble_eq_true rfl) rfl rfl (kX3_drop eh9 ?_)
    show ab_Ev l g mX6_forget 2 0 0 27 [(0, .ref a0), (1, .int a1)] [] h9 0 0 K
    refine ab_aload_n (pc' := 28) (q := 0) dX6_forget_27 rfl rfl rfl ?_
    obtain ⟨r10, er10, hf⟩ := ab_bd hf
    refine ab_getR (pc' := 31) (ci := 6) (k := 3) dX6_forget_28 rfl (by decide) fl_X6_27 er10 rfl ?_
    obtain ⟨u11, eu11, hf⟩ := ab_bd hf
    obtain ⟨h12, eh12, hf⟩ := ab_bd hf
    refine ab_callV (pc' := 34) (Mc := mX4_makeStale) (as := []) (st := []) dX6_forget_31 ml_X6_60 okX4_makeStale im_X4_makeStale se_X4_makeStale rfl eu11 rfl (by decide) (Nat.le_of_ble_eq_true rfl) (Nat.le_of_ble_eq_true rfl) (Nat.le_of_ble_eq_true rfl) rfl rfl (kX4_makeStale eh12 ?_)
    show ab_Ev l g mX6_forget 2 0 0 34 [(0, .ref a0), (1, .int a1)] [] h12 0 0 K
    refine ab_aload_n (pc' := 35) (q := 0) dX6_forget_34 rfl rfl rfl ?_
    obtain ⟨r13, er13, hf⟩ := ab_bd hf
    refine ab_getR (pc' := 38) (ci := 6) (k := 0) dX6_forget_35 rfl (by decide) fl_X6_10 er13 rfl ?_
    obtain ⟨r14, er14, hf⟩ := ab_bd hf
    refine ab_getR (pc' := 41) (ci := 5) (k := 1) dX6_forget_38 rfl (by decide) fl_X6_83 er14 rfl ?_
    obtain ⟨x15, ex15, hf⟩ := ab_bd hf
    refine ab_getI (pc' := 44) (ci := 3) (k := 3) dX6_forget_41 rfl (by decide) fl_X6_87 ex15 rfl ?_
    have hf := Option.some.inj hf
    subst hf
    exact ab_iret rfl dX6_forget_44 hK
  · have hf := ab_ip c5 hf
    refine ab_iconst (pc' := 15) (v := (-1)) dX6_forget_14 (by decide) rfl ?_
    have hf := Option.some.inj hf
    subst hf
    exact ab_iret rfl dX6_forget_15 hK
-- DiskRests.told(II)I (mode R, depth 2)
def fX6_told (h : ab_H) (a0 : Nat) (a1 : Int32) (a2 : Int32) : Option Int32 := (ab_gR h a0 6 0).bind (fun r1 => (ab_gR h r1 5 1).bind (fun r2 => (ab_ob h r2 3).bind (fun u3 => (fX3_has h r2 a1).bind (fun x4 => if (x4 : Int32) = 0 then some (-1) else if (a2 : Int32) = 0 then (ab_gR h a0 6 0).bind (fun r7 => (ab_gR h r7 5 1).bind (fun r8 => (ab_gR h r8 3 0).bind (fun r9 => (ab_aI h r9 a1).bind (fun x10 => some x10)))) else if (a2 : Int32) = 1 then (ab_gR h a0 6 0).bind (fun r12 => (ab_gR h r12 5 1).bind (fun r13 => (ab_gR h r13 3 1).bind (fun r14 => (ab_aI h r14 a1).bind (fun x15 => some x15)))) else if (a2 : Int32) = 2 then (ab_gR h a0 6 0).bind (fun r17 => (ab_gR h r17 5 1).bind (fun r18 => (ab_gR h r18 3 2).bind (fun r19 => (ab_aI h r19 a1).bind (fun x20 => some x20)))) else some (-2)))))
set_option maxRecDepth 20000 in
set_option maxHeartbeats 1000000 in
theorem kX6_told {l : Launch} {g : ab_G} {K : ab_K} {h : ab_H} {a0 : Nat} {a1 : Int32} {a2 : Int32} {r : Int32} (hf : fX6_told h a0 a1 a2 = some r) (hK : K (some (.int r)) h) : ab_S l g mX6_told 2 0 0 [.ref a0, .int a1, .int a2] h K := by
  unfold fX6_told at hf
  refine ab_enter (ls := [(0, .ref a0), (1, .int a1), (2, .int a2)]) (by decide +kernel) rfl (Nat.le_of_ble_eq_true rfl) rfl ?_
  refine ab_aload_n (pc' := 1) (q := 0) dX6_told_0 rfl rfl rfl ?_
  obtain ⟨r1, er1, hf⟩ := ab_bd hf
  refine ab_getR (pc' := 4) (ci := 6) (k := 0) dX6_told_1 rfl (by decide) fl_X6_10 er1 rfl ?_
  obtain ⟨r2, er2, hf⟩ := ab_bd hf
  refine ab_getR (pc' := 7) (ci := 5) (k := 1) dX6_told_4 rfl (by decide) fl_X6_83 er2 rfl ?_
  refine ab_iload_n (pc' := 8) (q := 1) dX6_told_7 rfl rfl rfl ?_
  obtain ⟨u3, eu3, hf⟩ := ab_bd hf
  obtain ⟨x4, ex4, hf⟩ := ab_bd hf
  refine ab_callV (pc' := 11) (Mc := mX3_has) (as := [.int a1]) (st := []) dX6_told_8 ml_X6_96 okX3_has im_X3_has se_X3_has rfl eu3 rfl (by decide) (Nat.le_of_ble_eq_true rfl) (Nat.le_of_ble_eq_true rfl) (Nat.le_of_ble_eq_true rfl) rfl rfl (kX3_has ex4 ?_)
  show ab_Ev l g mX6_told 2 0 0 11 [(0, .ref a0), (1, .int a1), (2, .int a2)] [.int x4] h 0 0 K
  refine ab_if_ne (pc' := 14) (tgt := 16) dX6_told_11 (by decide) rfl (fun c5 => ?_) (fun c5 => ?_)
  · have hf := ab_iN c5 hf
    refine ab_iload_n (pc' := 17) (q := 2) dX6_told_16 rfl rfl rfl ?_
    by_cases c6 : (a2 : Int32) = 0
    · have hf := ab_ip c6 hf
      refine ab_tableC (tgt := 44) dX6_told_17 c6 (by decide) (by decide) rfl (by decide) ?_
      refine ab_aload_n (pc' := 45) (q := 0) dX6_told_44 rfl rfl rfl ?_
      obtain ⟨r7, er7, hf⟩ := ab_bd hf
      refine ab_getR (pc' := 48) (ci := 6) (k := 0) dX6_told_45 rfl (by decide) fl_X6_10 er7 rfl ?_
      obtain ⟨r8, er8, hf⟩ := ab_bd hf
      refine ab_getR (pc' := 51) (ci := 5) (k := 1) dX6_told_48 rfl (by decide) fl_X6_83 er8 rfl ?_
      obtain ⟨r9, er9, hf⟩ := ab_bd hf
      refine ab_getR (pc' := 54) (ci := 3) (k := 0) dX6_told_51 rfl (by decide) fl_X6_103 er9 rfl ?_
      refine ab_iload_n (pc' := 55) (q := 1) dX6_told_54 rfl rfl rfl ?_
      obtain ⟨x10, ex10, hf⟩ := ab_bd hf
      refine ab_iald (pc' := 56) dX6_told_55 ex10 rfl ?_
      have hf := Option.some.inj hf
      subst hf
      exact ab_iret rfl dX6_told_56 hK
    have hf := ab_iN c6 hf
    by_cases c11 : (a2 : Int32) = 1
    · have hf := ab_ip c11 hf
      refine ab_tableC (tgt := 57) dX6_told_17 c11 (by decide) (by decide) rfl (by decide) ?_
      refine ab_aload_n (pc' := 58) (q := 0) dX6_told_57 rfl rfl rfl ?_
      obtain ⟨r12, er12, hf⟩ := ab_bd hf
      refine ab_getR (pc' := 61) (ci := 6) (k := 0) dX6_told_58 rfl (by decide) fl_X6_10 er12 rfl ?_
      obtain ⟨r13, er13, hf⟩ := ab_bd hf
      refine ab_getR (pc' := 64) (ci := 5) (k := 1) dX6_told_61 rfl (by decide) fl_X6_83 er13 rfl ?_
      obtain ⟨r14, er14, hf⟩ := ab_bd hf
      refine ab_getR (pc' := 67) (ci := 3) (k := 1) dX6_told_64 rfl (by decide) fl_X6_106 er14 rfl ?_
      refine ab_iload_n (pc' := 68) (q := 1) dX6_told_67 rfl rfl rfl ?_
      obtain ⟨x15, ex15, hf⟩ := ab_bd hf
      refine ab_iald (pc' := 69) dX6_told_68 ex15 rfl ?_
      have hf := Option.some.inj hf
      subst hf
      exact ab_iret rfl dX6_told_69 hK
    have hf := ab_iN c11 hf
    by_cases c16 : (a2 : Int32) = 2
    · have hf := ab_ip c16 hf
      refine ab_tableC (tgt := 70) dX6_told_17 c16 (by decide) (by decide) rfl (by decide) ?_
      refine ab_aload_n (pc' := 71) (q := 0) dX6_told_70 rfl rfl rfl ?_
      obtain ⟨r17, er17, hf⟩ := ab_bd hf
      refine ab_getR (pc' := 74) (ci := 6) (k := 0) dX6_told_71 rfl (by decide) fl_X6_10 er17 rfl ?_
      obtain ⟨r18, er18, hf⟩ := ab_bd hf
      refine ab_getR (pc' := 77) (ci := 5) (k := 1) dX6_told_74 rfl (by decide) fl_X6_83 er18 rfl ?_
      obtain ⟨r19, er19, hf⟩ := ab_bd hf
      refine ab_getR (pc' := 80) (ci := 3) (k := 2) dX6_told_77 rfl (by decide) fl_X6_108 er19 rfl ?_
      refine ab_iload_n (pc' := 81) (q := 1) dX6_told_80 rfl rfl rfl ?_
      obtain ⟨x20, ex20, hf⟩ := ab_bd hf
      refine ab_iald (pc' := 82) dX6_told_81 ex20 rfl ?_
      have hf := Option.some.inj hf
      subst hf
      exact ab_iret rfl dX6_told_82 hK
    have hf := ab_iN c16 hf
    refine ab_tableOut (tgt := 83) dX6_told_17 (by have := ab_ne (i := 0) (by decide) c6; have := ab_ne (i := 1) (by decide) c11; have := ab_ne (i := 2) (by decide) c16; omega) (by decide) ?_
    refine ab_bipush (pc' := 85) (v := (-2)) dX6_told_83 (by decide) rfl ?_
    have hf := Option.some.inj hf
    subst hf
    exact ab_iret rfl dX6_told_85 hK
  · have hf := ab_ip c5 hf
    refine ab_iconst (pc' := 15) (v := (-1)) dX6_told_14 (by decide) rfl ?_
    have hf := Option.some.inj hf
    subst hf
    exact ab_iret rfl dX6_told_15 hK
-- DiskRests.end(I)I (mode W, depth 1)
def fX6_end (h : ab_H) (a0 : Nat) (a1 : Int32) : Option (Int32 × ab_H) := (fX6_within a1 1 1000).bind (fun x1 => if (x1 : Int32) = 0 then some ((-2), h) else (ab_gR h a0 6 0).bind (fun r3 => (ab_gI h r3 5 2).bind (fun x4 => (ab_gR h a0 6 0).bind (fun r5 => (ab_pV h r5 5 2 (.int a1)).bind (fun h6 => (ab_gR h6 a0 6 3).bind (fun r7 => (ab_ob h6 r7 4).bind (fun u8 => (fX4_makeStale h6 r7).bind (fun h9 => some (x4, h9)))))))))
set_option maxRecDepth 20000 in
set_option maxHeartbeats 1000000 in
theorem kX6_end {l : Launch} {g : ab_G} {K : ab_K} {h : ab_H} {a0 : Nat} {a1 : Int32} {r : (Int32 × ab_H)} (hf : fX6_end h a0 a1 = some r) (hK : K (some (.int r.1)) r.2) : ab_S l g mX6_end 1 0 0 [.ref a0, .int a1] h K := by
  unfold fX6_end at hf
  refine ab_enter (ls := [(0, .ref a0), (1, .int a1)]) (by decide +kernel) rfl (Nat.le_of_ble_eq_true rfl) rfl ?_
  refine ab_iload_n (pc' := 1) (q := 1) dX6_end_0 rfl rfl rfl ?_
  refine ab_iconst (pc' := 2) (v := 1) dX6_end_1 (by decide) rfl ?_
  refine ab_sipush (pc' := 5) (v := 1000) dX6_end_2 (by decide) rfl ?_
  obtain ⟨x1, ex1, hf⟩ := ab_bd hf
  refine ab_callS (pc' := 8) (Mc := mX6_within) (as := [.int a1, .int 1, .int 1000]) (st := []) dX6_end_5 ml_X6_42 okX6_within ss_X6_within rfl (by decide) (Nat.le_of_ble_eq_true rfl) (Nat.le_of_ble_eq_true rfl) (Nat.le_of_ble_eq_true rfl) rfl rfl (kX6_within ex1 ?_)
  show ab_Ev l g mX6_end 1 0 0 8 [(0, .ref a0), (1, .int a1)] [.int x1] h 0 0 K
  refine ab_if_ne (pc' := 11) (tgt := 14) dX6_end_8 (by decide) rfl (fun c2 => ?_) (fun c2 => ?_)
  · have hf := ab_iN c2 hf
    refine ab_aload_n (pc' := 15) (q := 0) dX6_end_14 rfl rfl rfl ?_
    obtain ⟨r3, er3, hf⟩ := ab_bd hf
    refine ab_getR (pc' := 18) (ci := 6) (k := 0) dX6_end_15 rfl (by decide) fl_X6_10 er3 rfl ?_
    obtain ⟨x4, ex4, hf⟩ := ab_bd hf
    refine ab_getI (pc' := 21) (ci := 5) (k := 2) dX6_end_18 rfl (by decide) fl_X6_111 ex4 rfl ?_
    refine ab_istore_n (pc' := 22) (ls' := [(2, .int x4), (0, .ref a0), (1, .int a1)]) dX6_end_21 rfl (by decide) rfl rfl ?_
    refine ab_aload_n (pc' := 23) (q := 1) dX6_end_22 rfl rfl rfl ?_
    obtain ⟨r5, er5, hf⟩ := ab_bd hf
    refine ab_getR (pc' := 26) (ci := 6) (k := 0) dX6_end_23 rfl (by decide) fl_X6_10 er5 rfl ?_
    refine ab_iload_n (pc' := 27) (q := 2) dX6_end_26 rfl rfl rfl ?_
    obtain ⟨h6, eh6, hf⟩ := ab_bd hf
    refine ab_put (pc' := 30) (ci := 5) (k := 2) dX6_end_27 rfl (by decide) fl_X6_111 rfl (tyX5_ok 2 (by decide)) rfl rfl eh6 rfl ?_
    refine ab_aload_n (pc' := 31) (q := 1) dX6_end_30 rfl rfl rfl ?_
    obtain ⟨r7, er7, hf⟩ := ab_bd hf
    refine ab_getR (pc' := 34) (ci := 6) (k := 3) dX6_end_31 rfl (by decide) fl_X6_27 er7 rfl ?_
    obtain ⟨u8, eu8, hf⟩ := ab_bd hf
    obtain ⟨h9, eh9, hf⟩ := ab_bd hf
    refine ab_callV (pc' := 37) (Mc := mX4_makeStale) (as := []) (st := []) dX6_end_34 ml_X6_60 okX4_makeStale im_X4_makeStale se_X4_makeStale rfl eu8 rfl (by decide) (Nat.le_of_ble_eq_true rfl) (Nat.le_of_ble_eq_true rfl) (Nat.le_of_ble_eq_true rfl) rfl rfl (kX4_makeStale eh9 ?_)
    show ab_Ev l g mX6_end 1 0 0 37 [(2, .int x4), (0, .ref a0), (1, .int a1)] [] h9 0 0 K
    refine ab_iload_n (pc' := 38) (q := 0) dX6_end_37 rfl rfl rfl ?_
    have hf := Option.some.inj hf
    subst hf
    exact ab_iret rfl dX6_end_38 hK
  · have hf := ab_ip c2 hf
    refine ab_bipush (pc' := 13) (v := (-2)) dX6_end_11 (by decide) rfl ?_
    have hf := Option.some.inj hf
    subst hf
    exact ab_iret rfl dX6_end_13 hK
-- DiskRests.journal(I)I (mode W, depth 1)
def fX6_journal (h : ab_H) (a0 : Nat) (a1 : Int32) : Option (Int32 × ab_H) := (fX6_within a1 0 8).bind (fun x1 => if (x1 : Int32) = 0 then some ((-2), h) else (ab_gR h a0 6 0).bind (fun r3 => (ab_gI h r3 5 3).bind (fun x4 => (ab_gR h a0 6 0).bind (fun r5 => (ab_pV h r5 5 3 (.int a1)).bind (fun h6 => (ab_gR h6 a0 6 3).bind (fun r7 => (ab_ob h6 r7 4).bind (fun u8 => (fX4_makeStale h6 r7).bind (fun h9 => some (x4, h9)))))))))
set_option maxRecDepth 20000 in
set_option maxHeartbeats 1000000 in
theorem kX6_journal {l : Launch} {g : ab_G} {K : ab_K} {h : ab_H} {a0 : Nat} {a1 : Int32} {r : (Int32 × ab_H)} (hf : fX6_journal h a0 a1 = some r) (hK : K (some (.int r.1)) r.2) : ab_S l g mX6_journal 1 0 0 [.ref a0, .int a1] h K := by
  unfold fX6_journal at hf
  refine ab_enter (ls := [(0, .ref a0), (1, .int a1)]) (by decide +kernel) rfl (Nat.le_of_ble_eq_true rfl) rfl ?_
  refine ab_iload_n (pc' := 1) (q := 1) dX6_journal_0 rfl rfl rfl ?_
  refine ab_iconst (pc' := 2) (v := 0) dX6_journal_1 (by decide) rfl ?_
  refine ab_bipush (pc' := 4) (v := 8) dX6_journal_2 (by decide) rfl ?_
  obtain ⟨x1, ex1, hf⟩ := ab_bd hf
  refine ab_callS (pc' := 7) (Mc := mX6_within) (as := [.int a1, .int 0, .int 8]) (st := []) dX6_journal_4 ml_X6_42 okX6_within ss_X6_within rfl (by decide) (Nat.le_of_ble_eq_true rfl) (Nat.le_of_ble_eq_true rfl) (Nat.le_of_ble_eq_true rfl) rfl rfl (kX6_within ex1 ?_)
  show ab_Ev l g mX6_journal 1 0 0 7 [(0, .ref a0), (1, .int a1)] [.int x1] h 0 0 K
  refine ab_if_ne (pc' := 10) (tgt := 13) dX6_journal_7 (by decide) rfl (fun c2 => ?_) (fun c2 => ?_)
  · have hf := ab_iN c2 hf
    refine ab_aload_n (pc' := 14) (q := 0) dX6_journal_13 rfl rfl rfl ?_
    obtain ⟨r3, er3, hf⟩ := ab_bd hf
    refine ab_getR (pc' := 17) (ci := 6) (k := 0) dX6_journal_14 rfl (by decide) fl_X6_10 er3 rfl ?_
    obtain ⟨x4, ex4, hf⟩ := ab_bd hf
    refine ab_getI (pc' := 20) (ci := 5) (k := 3) dX6_journal_17 rfl (by decide) fl_X6_114 ex4 rfl ?_
    refine ab_istore_n (pc' := 21) (ls' := [(2, .int x4), (0, .ref a0), (1, .int a1)]) dX6_journal_20 rfl (by decide) rfl rfl ?_
    refine ab_aload_n (pc' := 22) (q := 1) dX6_journal_21 rfl rfl rfl ?_
    obtain ⟨r5, er5, hf⟩ := ab_bd hf
    refine ab_getR (pc' := 25) (ci := 6) (k := 0) dX6_journal_22 rfl (by decide) fl_X6_10 er5 rfl ?_
    refine ab_iload_n (pc' := 26) (q := 2) dX6_journal_25 rfl rfl rfl ?_
    obtain ⟨h6, eh6, hf⟩ := ab_bd hf
    refine ab_put (pc' := 29) (ci := 5) (k := 3) dX6_journal_26 rfl (by decide) fl_X6_114 rfl (tyX5_ok 3 (by decide)) rfl rfl eh6 rfl ?_
    refine ab_aload_n (pc' := 30) (q := 1) dX6_journal_29 rfl rfl rfl ?_
    obtain ⟨r7, er7, hf⟩ := ab_bd hf
    refine ab_getR (pc' := 33) (ci := 6) (k := 3) dX6_journal_30 rfl (by decide) fl_X6_27 er7 rfl ?_
    obtain ⟨u8, eu8, hf⟩ := ab_bd hf
    obtain ⟨h9, eh9, hf⟩ := ab_bd hf
    refine ab_callV (pc' := 36) (Mc := mX4_makeStale) (as := []) (st := []) dX6_journal_33 ml_X6_60 okX4_makeStale im_X4_makeStale se_X4_makeStale rfl eu8 rfl (by decide) (Nat.le_of_ble_eq_true rfl) (Nat.le_of_ble_eq_true rfl) (Nat.le_of_ble_eq_true rfl) rfl rfl (kX4_makeStale eh9 ?_)
    show ab_Ev l g mX6_journal 1 0 0 36 [(2, .int x4), (0, .ref a0), (1, .int a1)] [] h9 0 0 K
    refine ab_iload_n (pc' := 37) (q := 0) dX6_journal_36 rfl rfl rfl ?_
    have hf := Option.some.inj hf
    subst hf
    exact ab_iret rfl dX6_journal_37 hK
  · have hf := ab_ip c2 hf
    refine ab_bipush (pc' := 12) (v := (-2)) dX6_journal_10 (by decide) rfl ?_
    have hf := Option.some.inj hf
    subst hf
    exact ab_iret rfl dX6_journal_12 hK
-- DiskRests$Course.begin()V (mode W, depth 0)
def fX0_begin (h : ab_H) (a0 : Nat) : Option ab_H := (ab_pV h a0 0 0 (.int 0)).bind (fun h1 => (ab_pV h1 a0 0 1 (.int 0)).bind (fun h2 => (ab_pV h2 a0 0 2 (.int 0)).bind (fun h3 => (ab_pV h3 a0 0 3 (.int 0)).bind (fun h4 => (ab_pV h4 a0 0 4 (.int 0)).bind (fun h5 => (ab_pV h5 a0 0 5 (.int 0)).bind (fun h6 => (ab_pV h6 a0 0 6 (.int 0)).bind (fun h7 => (ab_pV h7 a0 0 8 (.int 0)).bind (fun h8 => (ab_pV h8 a0 0 9 (.int (-6))).bind (fun h9 => some h9)))))))))
set_option maxRecDepth 20000 in
set_option maxHeartbeats 1000000 in
theorem kX0_begin {l : Launch} {g : ab_G} {K : ab_K} {h : ab_H} {a0 : Nat} {r : ab_H} (hf : fX0_begin h a0 = some r) (hK : K none r) : ab_S l g mX0_begin 0 0 0 [.ref a0] h K := by
  unfold fX0_begin at hf
  refine ab_enter (ls := [(0, .ref a0)]) (by decide +kernel) rfl (Nat.le_of_ble_eq_true rfl) rfl ?_
  refine ab_aload_n (pc' := 1) (q := 0) dX0_begin_0 rfl rfl rfl ?_
  refine ab_iconst (pc' := 2) (v := 0) dX0_begin_1 (by decide) rfl ?_
  obtain ⟨h1, eh1, hf⟩ := ab_bd hf
  refine ab_put (pc' := 5) (ci := 0) (k := 0) dX0_begin_2 rfl (by decide) fl_X0_19 rfl (tyX0_ok 0 (by decide)) rfl rfl eh1 rfl ?_
  refine ab_aload_n (pc' := 6) (q := 0) dX0_begin_5 rfl rfl rfl ?_
  refine ab_iconst (pc' := 7) (v := 0) dX0_begin_6 (by decide) rfl ?_
  obtain ⟨h2, eh2, hf⟩ := ab_bd hf
  refine ab_put (pc' := 10) (ci := 0) (k := 1) dX0_begin_7 rfl (by decide) fl_X0_22 rfl (tyX0_ok 1 (by decide)) rfl rfl eh2 rfl ?_
  refine ab_aload_n (pc' := 11) (q := 0) dX0_begin_10 rfl rfl rfl ?_
  refine ab_iconst (pc' := 12) (v := 0) dX0_begin_11 (by decide) rfl ?_
  obtain ⟨h3, eh3, hf⟩ := ab_bd hf
  refine ab_put (pc' := 15) (ci := 0) (k := 2) dX0_begin_12 rfl (by decide) fl_X0_25 rfl (tyX0_ok 2 (by decide)) rfl rfl eh3 rfl ?_
  refine ab_aload_n (pc' := 16) (q := 0) dX0_begin_15 rfl rfl rfl ?_
  refine ab_iconst (pc' := 17) (v := 0) dX0_begin_16 (by decide) rfl ?_
  obtain ⟨h4, eh4, hf⟩ := ab_bd hf
  refine ab_put (pc' := 20) (ci := 0) (k := 3) dX0_begin_17 rfl (by decide) fl_X0_28 rfl (tyX0_ok 3 (by decide)) rfl rfl eh4 rfl ?_
  refine ab_aload_n (pc' := 21) (q := 0) dX0_begin_20 rfl rfl rfl ?_
  refine ab_iconst (pc' := 22) (v := 0) dX0_begin_21 (by decide) rfl ?_
  obtain ⟨h5, eh5, hf⟩ := ab_bd hf
  refine ab_put (pc' := 25) (ci := 0) (k := 4) dX0_begin_22 rfl (by decide) fl_X0_31 rfl (tyX0_ok 4 (by decide)) rfl rfl eh5 rfl ?_
  refine ab_aload_n (pc' := 26) (q := 0) dX0_begin_25 rfl rfl rfl ?_
  refine ab_iconst (pc' := 27) (v := 0) dX0_begin_26 (by decide) rfl ?_
  obtain ⟨h6, eh6, hf⟩ := ab_bd hf
  refine ab_put (pc' := 30) (ci := 0) (k := 5) dX0_begin_27 rfl (by decide) fl_X0_34 rfl (tyX0_ok 5 (by decide)) rfl rfl eh6 rfl ?_
  refine ab_aload_n (pc' := 31) (q := 0) dX0_begin_30 rfl rfl rfl ?_
  refine ab_iconst (pc' := 32) (v := 0) dX0_begin_31 (by decide) rfl ?_
  obtain ⟨h7, eh7, hf⟩ := ab_bd hf
  refine ab_put (pc' := 35) (ci := 0) (k := 6) dX0_begin_32 rfl (by decide) fl_X0_37 rfl (tyX0_ok 6 (by decide)) rfl rfl eh7 rfl ?_
  refine ab_aload_n (pc' := 36) (q := 0) dX0_begin_35 rfl rfl rfl ?_
  refine ab_iconst (pc' := 37) (v := 0) dX0_begin_36 (by decide) rfl ?_
  obtain ⟨h8, eh8, hf⟩ := ab_bd hf
  refine ab_put (pc' := 40) (ci := 0) (k := 8) dX0_begin_37 rfl (by decide) fl_X0_40 rfl (tyX0_ok 8 (by decide)) rfl rfl eh8 rfl ?_
  refine ab_aload_n (pc' := 41) (q := 0) dX0_begin_40 rfl rfl rfl ?_
  refine ab_bipush (pc' := 43) (v := (-6)) dX0_begin_41 (by decide) rfl ?_
  obtain ⟨h9, eh9, hf⟩ := ab_bd hf
  refine ab_put (pc' := 46) (ci := 0) (k := 9) dX0_begin_43 rfl (by decide) fl_X0_15 rfl (tyX0_ok 9 (by decide)) rfl rfl eh9 rfl ?_
  have hf := Option.some.inj hf
  subst hf
  exact ab_vret rfl dX0_begin_46 hK
-- DiskRests$Requests.putInOrder([I)V (mode W, depth 0)
def lX3_putInOrder_12 (v0 : Nat) (v1 : Nat) (v2 : Int32) : Nat → Int32 → ab_H → Option (Int32 × ab_H)
  | 0, _, _ => none
  | n + 1, v3, h => if (v3 : Int32) ≤ 0 then some (v3, h) else (ab_gR h v0 3 0).bind (fun r4 => (ab_aI h v1 (v3 - 1)).bind (fun x5 => (ab_aI h r4 x5).bind (fun x6 => (ab_gR h v0 3 0).bind (fun r7 => (ab_aI h r7 v2).bind (fun x8 => if (x6 : Int32) ≤ x8 then some (v3, h) else (ab_aI h v1 (v3 - 1)).bind (fun x10 => (ab_sI h v1 v3 x10).bind (fun h11 => lX3_putInOrder_12 v0 v1 v2 n (v3 + (-1)) h11)))))))
set_option maxRecDepth 20000 in
set_option maxHeartbeats 1000000 in
theorem klX3_putInOrder_12 {l : Launch} {g : ab_G} {K : ab_K} {v0 : Nat} {v1 : Nat} {v2 : Int32} {q : (Int32 × ab_H)} (hx : ab_Ev l g mX3_putInOrder 0 0 0 49 [(0, .ref v0), (1, .ref v1), (2, .int v2), (3, .int q.1)] [] q.2 0 0 K) : ∀ (n : Nat) (v3 : Int32) (h : ab_H), lX3_putInOrder_12 v0 v1 v2 n v3 h = some q → ab_Ev l g mX3_putInOrder 0 0 0 12 [(0, .ref v0), (1, .ref v1), (2, .int v2), (3, .int v3)] [] h 0 0 K := by
  intro n
  induction n with
  | zero => intro v3 h hf; cases (show (none : Option (Int32 × ab_H)) = some q from hf)
  | succ n ih =>
    intro v3 h hf
    rw [lX3_putInOrder_12] at hf
    refine ab_iload_n (pc' := 13) (q := 3) dX3_putInOrder_12 rfl rfl rfl ?_
    refine ab_if_le (pc' := 16) (tgt := 49) dX3_putInOrder_13 (by decide) rfl (fun c3 => ?_) (fun c3 => ?_)
    · have hf := ab_ip c3 hf
      have hf := Option.some.inj hf
      subst hf
      exact hx
    · have hf := ab_iN c3 hf
      refine ab_aload_n (pc' := 17) (q := 0) dX3_putInOrder_16 rfl rfl rfl ?_
      obtain ⟨r4, er4, hf⟩ := ab_bd hf
      refine ab_getR (pc' := 20) (ci := 3) (k := 0) dX3_putInOrder_17 rfl (by decide) fl_X3_9 er4 rfl ?_
      refine ab_aload_n (pc' := 21) (q := 1) dX3_putInOrder_20 rfl rfl rfl ?_
      refine ab_iload_n (pc' := 22) (q := 3) dX3_putInOrder_21 rfl rfl rfl ?_
      refine ab_iconst (pc' := 23) (v := 1) dX3_putInOrder_22 (by decide) rfl ?_
      refine ab_isub (pc' := 24) dX3_putInOrder_23 rfl ?_
      obtain ⟨x5, ex5, hf⟩ := ab_bd hf
      refine ab_iald (pc' := 25) dX3_putInOrder_24 ex5 rfl ?_
      obtain ⟨x6, ex6, hf⟩ := ab_bd hf
      refine ab_iald (pc' := 26) dX3_putInOrder_25 ex6 rfl ?_
      refine ab_aload_n (pc' := 27) (q := 0) dX3_putInOrder_26 rfl rfl rfl ?_
      obtain ⟨r7, er7, hf⟩ := ab_bd hf
      refine ab_getR (pc' := 30) (ci := 3) (k := 0) dX3_putInOrder_27 rfl (by decide) fl_X3_9 er7 rfl ?_
      refine ab_iload_n (pc' := 31) (q := 2) dX3_putInOrder_30 rfl rfl rfl ?_
      obtain ⟨x8, ex8, hf⟩ := ab_bd hf
      refine ab_iald (pc' := 32) dX3_putInOrder_31 ex8 rfl ?_
      refine ab_icmp_le (pc' := 35) (tgt := 49) dX3_putInOrder_32 (by decide) rfl (fun c9 => ?_) (fun c9 => ?_)
      · have hf := ab_ip c9 hf
        have hf := Option.some.inj hf
        subst hf
        exact hx
      · have hf := ab_iN c9 hf
        refine ab_aload_n (pc' := 36) (q := 1) dX3_putInOrder_35 rfl rfl rfl ?_
        refine ab_iload_n (pc' := 37) (q := 3) dX3_putInOrder_36 rfl rfl rfl ?_
        refine ab_aload_n (pc' := 38) (q := 1) dX3_putInOrder_37 rfl rfl rfl ?_
        refine ab_iload_n (pc' := 39) (q := 3) dX3_putInOrder_38 rfl rfl rfl ?_
        refine ab_iconst (pc' := 40) (v := 1) dX3_putInOrder_39 (by decide) rfl ?_
        refine ab_isub (pc' := 41) dX3_putInOrder_40 rfl ?_
        obtain ⟨x10, ex10, hf⟩ := ab_bd hf
        refine ab_iald (pc' := 42) dX3_putInOrder_41 ex10 rfl ?_
        obtain ⟨h11, eh11, hf⟩ := ab_bd hf
        refine ab_iast (pc' := 43) dX3_putInOrder_42 eh11 rfl ?_
        refine ab_iinc (pc' := 46) (q := 3) (v := (v3 + (-1))) (ls' := [(3, .int (v3 + (-1))), (0, .ref v0), (1, .ref v1), (2, .int v2)]) dX3_putInOrder_43 rfl rfl (by decide) rfl rfl ?_
        refine ab_goto (tgt := 12) dX3_putInOrder_46 (by decide) ?_
        refine ab_drop (ls' := [(0, .ref v0), (1, .ref v1), (2, .int v2), (3, .int (v3 + (-1)))]) [1, 2, 3, 0] rfl ?_
        exact ih _ _ hf
def bX3_putInOrder_49 (rec : Int32 → ab_H → Option ab_H) (v0 : Nat) (v1 : Nat) (v2 : Int32) (v3 : Int32) (h : ab_H) : Option ab_H := (ab_sI h v1 v3 v2).bind (fun h13 => rec (v2 + 1) h13)
set_option maxRecDepth 20000 in
set_option maxHeartbeats 1000000 in
theorem kbX3_putInOrder_49 {l : Launch} {g : ab_G} {K : ab_K} {h : ab_H} {v0 : Nat} {v1 : Nat} {v2 : Int32} {v3 : Int32} {q : ab_H} {rec : Int32 → ab_H → Option ab_H} (ih : ∀ (w2 : Int32) (hw : ab_H), rec w2 hw = some q → ab_Ev l g mX3_putInOrder 0 0 0 2 [(0, .ref v0), (1, .ref v1), (2, .int w2)] [] hw 0 0 K) (hx : ab_Ev l g mX3_putInOrder 0 0 0 59 [] [] q 0 0 K) (hf : bX3_putInOrder_49 rec v0 v1 v2 v3 h = some q) : ab_Ev l g mX3_putInOrder 0 0 0 49 [(0, .ref v0), (1, .ref v1), (2, .int v2), (3, .int v3)] [] h 0 0 K := by
  unfold bX3_putInOrder_49 at hf
  refine ab_aload_n (pc' := 50) (q := 1) dX3_putInOrder_49 rfl rfl rfl ?_
  refine ab_iload_n (pc' := 51) (q := 3) dX3_putInOrder_50 rfl rfl rfl ?_
  refine ab_iload_n (pc' := 52) (q := 2) dX3_putInOrder_51 rfl rfl rfl ?_
  obtain ⟨h13, eh13, hf⟩ := ab_bd hf
  refine ab_iast (pc' := 53) dX3_putInOrder_52 eh13 rfl ?_
  refine ab_iinc (pc' := 56) (q := 2) (v := (v2 + 1)) (ls' := [(2, .int (v2 + 1)), (0, .ref v0), (1, .ref v1), (3, .int v3)]) dX3_putInOrder_53 rfl rfl (by decide) rfl rfl ?_
  refine ab_goto (tgt := 2) dX3_putInOrder_56 (by decide) ?_
  refine ab_drop (ls' := [(0, .ref v0), (1, .ref v1), (2, .int (v2 + 1))]) [1, 2, 0] rfl ?_
  exact ih _ _ hf
def lX3_putInOrder_2 (v0 : Nat) (v1 : Nat) : Nat → Int32 → ab_H → Option ab_H
  | 0, _, _ => none
  | n + 1, v2, h => (ab_gI h v0 3 3).bind (fun x1 => if x1 ≤ (v2 : Int32) then some h else (lX3_putInOrder_12 v0 v1 v2 ab_fu v2 h).bind (fun q12 => bX3_putInOrder_49 (lX3_putInOrder_2 v0 v1 n) v0 v1 v2 q12.1 q12.2))
set_option maxRecDepth 20000 in
set_option maxHeartbeats 1000000 in
theorem klX3_putInOrder_2 {l : Launch} {g : ab_G} {K : ab_K} {v0 : Nat} {v1 : Nat} {q : ab_H} (hx : ab_Ev l g mX3_putInOrder 0 0 0 59 [] [] q 0 0 K) : ∀ (n : Nat) (v2 : Int32) (h : ab_H), lX3_putInOrder_2 v0 v1 n v2 h = some q → ab_Ev l g mX3_putInOrder 0 0 0 2 [(0, .ref v0), (1, .ref v1), (2, .int v2)] [] h 0 0 K := by
  intro n
  induction n with
  | zero => intro v2 h hf; cases (show (none : Option ab_H) = some q from hf)
  | succ n ih =>
    intro v2 h hf
    rw [lX3_putInOrder_2] at hf
    refine ab_iload_n (pc' := 3) (q := 2) dX3_putInOrder_2 rfl rfl rfl ?_
    refine ab_aload_n (pc' := 4) (q := 0) dX3_putInOrder_3 rfl rfl rfl ?_
    obtain ⟨x1, ex1, hf⟩ := ab_bd hf
    refine ab_getI (pc' := 7) (ci := 3) (k := 3) dX3_putInOrder_4 rfl (by decide) fl_X3_27 ex1 rfl ?_
    refine ab_icmp_ge (pc' := 10) (tgt := 59) dX3_putInOrder_7 (by decide) rfl (fun c2 => ?_) (fun c2 => ?_)
    · have hf := ab_ip c2 hf
      have hf := Option.some.inj hf
      subst hf
      refine ab_drop (ls' := []) [] rfl ?_
      exact hx
    · have hf := ab_iN c2 hf
      refine ab_iload_n (pc' := 11) (q := 2) dX3_putInOrder_10 rfl rfl rfl ?_
      refine ab_istore_n (pc' := 12) (ls' := [(3, .int v2), (0, .ref v0), (1, .ref v1), (2, .int v2)]) dX3_putInOrder_11 rfl (by decide) rfl rfl ?_
      refine ab_drop (ls' := [(0, .ref v0), (1, .ref v1), (2, .int v2), (3, .int v2)]) [1, 2, 3, 0] rfl ?_
      obtain ⟨q12, eq12, hf⟩ := ab_bd hf
      refine klX3_putInOrder_12 ?_ ab_fu _ _ eq12
      exact kbX3_putInOrder_49 ih hx hf
def fX3_putInOrder (h : ab_H) (a0 : Nat) (a1 : Nat) : Option ab_H := (lX3_putInOrder_2 a0 a1 ab_fu 0 h).bind (fun q14 => some q14)
set_option maxRecDepth 20000 in
set_option maxHeartbeats 1000000 in
theorem kX3_putInOrder {l : Launch} {g : ab_G} {K : ab_K} {h : ab_H} {a0 : Nat} {a1 : Nat} {r : ab_H} (hf : fX3_putInOrder h a0 a1 = some r) (hK : K none r) : ab_S l g mX3_putInOrder 0 0 0 [.ref a0, .ref a1] h K := by
  unfold fX3_putInOrder at hf
  refine ab_enter (ls := [(0, .ref a0), (1, .ref a1)]) (by decide +kernel) rfl (Nat.le_of_ble_eq_true rfl) rfl ?_
  refine ab_iconst (pc' := 1) (v := 0) dX3_putInOrder_0 (by decide) rfl ?_
  refine ab_istore_n (pc' := 2) (ls' := [(2, .int 0), (0, .ref a0), (1, .ref a1)]) dX3_putInOrder_1 rfl (by decide) rfl rfl ?_
  refine ab_drop (ls' := [(0, .ref a0), (1, .ref a1), (2, .int 0)]) [1, 2, 0] rfl ?_
  obtain ⟨q14, eq14, hf⟩ := ab_bd hf
  refine klX3_putInOrder_2 ?_ ab_fu _ _ eq14
  have hf := Option.some.inj hf
  subst hf
  exact ab_vret rfl dX3_putInOrder_59 hK
-- DiskRests$Run.begin(LDiskRests$Requests;)V (mode W, depth 1)
def lX4_begin_2 (v0 : Nat) (v1 : Nat) : Nat → Int32 → ab_H → Option ab_H
  | 0, _, _ => none
  | n + 1, v2, h => if 4 ≤ (v2 : Int32) then some h else (ab_gR h v0 4 0).bind (fun r2 => (ab_aR h r2 v2).bind (fun r3 => (ab_ob h r3 0).bind (fun u4 => (fX0_begin h r3).bind (fun h5 => lX4_begin_2 v0 v1 n (v2 + 1) h5))))
set_option maxRecDepth 20000 in
set_option maxHeartbeats 1000000 in
theorem klX4_begin_2 {l : Launch} {g : ab_G} {K : ab_K} {v0 : Nat} {v1 : Nat} {q : ab_H} (hx : ab_Ev l g mX4_begin 1 0 0 22 [(0, .ref v0), (1, .ref v1)] [] q 0 0 K) : ∀ (n : Nat) (v2 : Int32) (h : ab_H), lX4_begin_2 v0 v1 n v2 h = some q → ab_Ev l g mX4_begin 1 0 0 2 [(0, .ref v0), (1, .ref v1), (2, .int v2)] [] h 0 0 K := by
  intro n
  induction n with
  | zero => intro v2 h hf; cases (show (none : Option ab_H) = some q from hf)
  | succ n ih =>
    intro v2 h hf
    rw [lX4_begin_2] at hf
    refine ab_iload_n (pc' := 3) (q := 2) dX4_begin_2 rfl rfl rfl ?_
    refine ab_iconst (pc' := 4) (v := 4) dX4_begin_3 (by decide) rfl ?_
    refine ab_icmp_ge (pc' := 7) (tgt := 22) dX4_begin_4 (by decide) rfl (fun c1 => ?_) (fun c1 => ?_)
    · have hf := ab_ip c1 hf
      have hf := Option.some.inj hf
      subst hf
      refine ab_drop (ls' := [(0, .ref v0), (1, .ref v1)]) [0, 1] rfl ?_
      exact hx
    · have hf := ab_iN c1 hf
      refine ab_aload_n (pc' := 8) (q := 0) dX4_begin_7 rfl rfl rfl ?_
      obtain ⟨r2, er2, hf⟩ := ab_bd hf
      refine ab_getR (pc' := 11) (ci := 4) (k := 0) dX4_begin_8 rfl (by decide) fl_X4_11 er2 rfl ?_
      refine ab_iload_n (pc' := 12) (q := 2) dX4_begin_11 rfl rfl rfl ?_
      obtain ⟨r3, er3, hf⟩ := ab_bd hf
      refine ab_aald (pc' := 13) dX4_begin_12 er3 rfl ?_
      obtain ⟨u4, eu4, hf⟩ := ab_bd hf
      obtain ⟨h5, eh5, hf⟩ := ab_bd hf
      refine ab_callV (pc' := 16) (Mc := mX0_begin) (as := []) (st := []) dX4_begin_13 ml_X4_58 okX0_begin im_X0_begin se_X0_begin rfl eu4 rfl (by decide) (Nat.le_of_ble_eq_true rfl) (Nat.le_of_ble_eq_true rfl) (Nat.le_of_ble_eq_true rfl) rfl rfl (kX0_begin eh5 ?_)
      show ab_Ev l g mX4_begin 1 0 0 16 [(0, .ref v0), (1, .ref v1), (2, .int v2)] [] h5 0 0 K
      refine ab_iinc (pc' := 19) (q := 2) (v := (v2 + 1)) (ls' := [(2, .int (v2 + 1)), (0, .ref v0), (1, .ref v1)]) dX4_begin_16 rfl rfl (by decide) rfl rfl ?_
      refine ab_goto (tgt := 2) dX4_begin_19 (by decide) ?_
      refine ab_drop (ls' := [(0, .ref v0), (1, .ref v1), (2, .int (v2 + 1))]) [1, 2, 0] rfl ?_
      exact ih _ _ hf
def lX4_begin_24 (v0 : Nat) (v1 : Nat) : Nat → Int32 → ab_H → Option ab_H
  | 0, _, _ => none
  | n + 1, v2, h => if 40 ≤ (v2 : Int32) then some h else (ab_gR h v0 4 2).bind (fun r8 => (ab_sI h r8 v2 0).bind (fun h9 => lX4_begin_24 v0 v1 n (v2 + 1) h9))
set_option maxRecDepth 20000 in
set_option maxHeartbeats 1000000 in
theorem klX4_begin_24 {l : Launch} {g : ab_G} {K : ab_K} {v0 : Nat} {v1 : Nat} {q : ab_H} (hx : ab_Ev l g mX4_begin 1 0 0 43 [(0, .ref v0), (1, .ref v1)] [] q 0 0 K) : ∀ (n : Nat) (v2 : Int32) (h : ab_H), lX4_begin_24 v0 v1 n v2 h = some q → ab_Ev l g mX4_begin 1 0 0 24 [(0, .ref v0), (1, .ref v1), (2, .int v2)] [] h 0 0 K := by
  intro n
  induction n with
  | zero => intro v2 h hf; cases (show (none : Option ab_H) = some q from hf)
  | succ n ih =>
    intro v2 h hf
    rw [lX4_begin_24] at hf
    refine ab_iload_n (pc' := 25) (q := 2) dX4_begin_24 rfl rfl rfl ?_
    refine ab_bipush (pc' := 27) (v := 40) dX4_begin_25 (by decide) rfl ?_
    refine ab_icmp_ge (pc' := 30) (tgt := 43) dX4_begin_27 (by decide) rfl (fun c7 => ?_) (fun c7 => ?_)
    · have hf := ab_ip c7 hf
      have hf := Option.some.inj hf
      subst hf
      refine ab_drop (ls' := [(0, .ref v0), (1, .ref v1)]) [0, 1] rfl ?_
      exact hx
    · have hf := ab_iN c7 hf
      refine ab_aload_n (pc' := 31) (q := 0) dX4_begin_30 rfl rfl rfl ?_
      obtain ⟨r8, er8, hf⟩ := ab_bd hf
      refine ab_getR (pc' := 34) (ci := 4) (k := 2) dX4_begin_31 rfl (by decide) fl_X4_21 er8 rfl ?_
      refine ab_iload_n (pc' := 35) (q := 2) dX4_begin_34 rfl rfl rfl ?_
      refine ab_iconst (pc' := 36) (v := 0) dX4_begin_35 (by decide) rfl ?_
      obtain ⟨h9, eh9, hf⟩ := ab_bd hf
      refine ab_iast (pc' := 37) dX4_begin_36 eh9 rfl ?_
      refine ab_iinc (pc' := 40) (q := 2) (v := (v2 + 1)) (ls' := [(2, .int (v2 + 1)), (0, .ref v0), (1, .ref v1)]) dX4_begin_37 rfl rfl (by decide) rfl rfl ?_
      refine ab_goto (tgt := 24) dX4_begin_40 (by decide) ?_
      refine ab_drop (ls' := [(0, .ref v0), (1, .ref v1), (2, .int (v2 + 1))]) [1, 2, 0] rfl ?_
      exact ih _ _ hf
def fX4_begin (h : ab_H) (a0 : Nat) (a1 : Nat) : Option ab_H := (lX4_begin_2 a0 a1 ab_fu 0 h).bind (fun q6 => (lX4_begin_24 a0 a1 ab_fu 0 q6).bind (fun q10 => (ab_gR q10 a0 4 1).bind (fun r11 => (ab_ob q10 a1 3).bind (fun u12 => (fX3_putInOrder q10 a1 r11).bind (fun h13 => (ab_pV h13 a0 4 4 (.int 0)).bind (fun h14 => (ab_pV h14 a0 4 5 (.int 0)).bind (fun h15 => (ab_pV h15 a0 4 6 (.int 0)).bind (fun h16 => (ab_pV h16 a0 4 7 (.int 0)).bind (fun h17 => (ab_pV h17 a0 4 8 (.int 0)).bind (fun h18 => some h18))))))))))
set_option maxRecDepth 20000 in
set_option maxHeartbeats 1000000 in
theorem kX4_begin {l : Launch} {g : ab_G} {K : ab_K} {h : ab_H} {a0 : Nat} {a1 : Nat} {r : ab_H} (hf : fX4_begin h a0 a1 = some r) (hK : K none r) : ab_S l g mX4_begin 1 0 0 [.ref a0, .ref a1] h K := by
  unfold fX4_begin at hf
  refine ab_enter (ls := [(0, .ref a0), (1, .ref a1)]) (by decide +kernel) rfl (Nat.le_of_ble_eq_true rfl) rfl ?_
  refine ab_iconst (pc' := 1) (v := 0) dX4_begin_0 (by decide) rfl ?_
  refine ab_istore_n (pc' := 2) (ls' := [(2, .int 0), (0, .ref a0), (1, .ref a1)]) dX4_begin_1 rfl (by decide) rfl rfl ?_
  refine ab_drop (ls' := [(0, .ref a0), (1, .ref a1), (2, .int 0)]) [1, 2, 0] rfl ?_
  obtain ⟨q6, eq6, hf⟩ := ab_bd hf
  refine klX4_begin_2 ?_ ab_fu _ _ eq6
  refine ab_iconst (pc' := 23) (v := 0) dX4_begin_22 (by decide) rfl ?_
  refine ab_istore_n (pc' := 24) (ls' := [(2, .int 0), (0, .ref a0), (1, .ref a1)]) dX4_begin_23 rfl (by decide) rfl rfl ?_
  refine ab_drop (ls' := [(0, .ref a0), (1, .ref a1), (2, .int 0)]) [1, 2, 0] rfl ?_
  obtain ⟨q10, eq10, hf⟩ := ab_bd hf
  refine klX4_begin_24 ?_ ab_fu _ _ eq10
  refine ab_aload_n (pc' := 44) (q := 1) dX4_begin_43 rfl rfl rfl ?_
  refine ab_aload_n (pc' := 45) (q := 0) dX4_begin_44 rfl rfl rfl ?_
  obtain ⟨r11, er11, hf⟩ := ab_bd hf
  refine ab_getR (pc' := 48) (ci := 4) (k := 1) dX4_begin_45 rfl (by decide) fl_X4_17 er11 rfl ?_
  obtain ⟨u12, eu12, hf⟩ := ab_bd hf
  obtain ⟨h13, eh13, hf⟩ := ab_bd hf
  refine ab_callV (pc' := 51) (Mc := mX3_putInOrder) (as := [.ref r11]) (st := []) dX4_begin_48 ml_X4_60 okX3_putInOrder im_X3_putInOrder se_X3_putInOrder rfl eu12 rfl (by decide) (Nat.le_of_ble_eq_true rfl) (Nat.le_of_ble_eq_true rfl) (Nat.le_of_ble_eq_true rfl) rfl rfl (kX3_putInOrder eh13 ?_)
  show ab_Ev l g mX4_begin 1 0 0 51 [(0, .ref a0), (1, .ref a1)] [] h13 0 0 K
  refine ab_aload_n (pc' := 52) (q := 0) dX4_begin_51 rfl rfl rfl ?_
  refine ab_iconst (pc' := 53) (v := 0) dX4_begin_52 (by decide) rfl ?_
  obtain ⟨h14, eh14, hf⟩ := ab_bd hf
  refine ab_put (pc' := 56) (ci := 4) (k := 4) dX4_begin_53 rfl (by decide) fl_X4_66 rfl (tyX4_ok 4 (by decide)) rfl rfl eh14 rfl ?_
  refine ab_aload_n (pc' := 57) (q := 0) dX4_begin_56 rfl rfl rfl ?_
  refine ab_iconst (pc' := 58) (v := 0) dX4_begin_57 (by decide) rfl ?_
  obtain ⟨h15, eh15, hf⟩ := ab_bd hf
  refine ab_put (pc' := 61) (ci := 4) (k := 5) dX4_begin_58 rfl (by decide) fl_X4_69 rfl (tyX4_ok 5 (by decide)) rfl rfl eh15 rfl ?_
  refine ab_aload_n (pc' := 62) (q := 0) dX4_begin_61 rfl rfl rfl ?_
  refine ab_iconst (pc' := 63) (v := 0) dX4_begin_62 (by decide) rfl ?_
  obtain ⟨h16, eh16, hf⟩ := ab_bd hf
  refine ab_put (pc' := 66) (ci := 4) (k := 6) dX4_begin_63 rfl (by decide) fl_X4_72 rfl (tyX4_ok 6 (by decide)) rfl rfl eh16 rfl ?_
  refine ab_aload_n (pc' := 67) (q := 0) dX4_begin_66 rfl rfl rfl ?_
  refine ab_iconst (pc' := 68) (v := 0) dX4_begin_67 (by decide) rfl ?_
  obtain ⟨h17, eh17, hf⟩ := ab_bd hf
  refine ab_put (pc' := 71) (ci := 4) (k := 7) dX4_begin_68 rfl (by decide) fl_X4_32 rfl (tyX4_ok 7 (by decide)) rfl rfl eh17 rfl ?_
  refine ab_aload_n (pc' := 72) (q := 0) dX4_begin_71 rfl rfl rfl ?_
  refine ab_iconst (pc' := 73) (v := 0) dX4_begin_72 (by decide) rfl ?_
  obtain ⟨h18, eh18, hf⟩ := ab_bd hf
  refine ab_put (pc' := 76) (ci := 4) (k := 8) dX4_begin_73 rfl (by decide) fl_X4_27 rfl (tyX4_ok 8 (by decide)) rfl rfl eh18 rfl ?_
  have hf := Option.some.inj hf
  subst hf
  exact ab_vret rfl dX4_begin_76 hK
