def dfX0 : List Value := [.int 0, .int 0, .int 0, .int 0, .int 0, .int 0, .int 0, .null, .int 0, .int 0]
theorem dfX0_ok (b : Nat) : ∀ j, j < 10 → defaultValue (tyX0 j) = vp_V (dfX0.map (ab_v b)) j := fun j hj => match j, hj with
  | 0, _ => rfl 
  | 1, _ => rfl 
  | 2, _ => rfl 
  | 3, _ => rfl 
  | 4, _ => rfl 
  | 5, _ => rfl 
  | 6, _ => rfl 
  | 7, _ => rfl 
  | 8, _ => rfl 
  | 9, _ => rfl
  | n + 10, z => absurd z (by omega)
def dfX1 : List Value := [.null, .null, .int 0, .int 0, .int 0]
theorem dfX1_ok (b : Nat) : ∀ j, j < 5 → defaultValue (tyX1 j) = vp_V (dfX1.map (ab_v b)) j := fun j hj => match j, hj with
  | 0, _ => rfl 
  | 1, _ => rfl 
  | 2, _ => rfl 
  | 3, _ => rfl 
  | 4, _ => rfl
  | n + 5, z => absurd z (by omega)
def dfX2 : List Value := [.null, .null, .null, .null, .int 0]
theorem dfX2_ok (b : Nat) : ∀ j, j < 5 → defaultValue (tyX2 j) = vp_V (dfX2.map (ab_v b)) j := fun j hj => match j, hj with
  | 0, _ => rfl 
  | 1, _ => rfl 
  | 2, _ => rfl 
  | 3, _ => rfl 
  | 4, _ => rfl
  | n + 5, z => absurd z (by omega)
def dfX3 : List Value := [.null, .null, .null, .int 0]
theorem dfX3_ok (b : Nat) : ∀ j, j < 4 → defaultValue (tyX3 j) = vp_V (dfX3.map (ab_v b)) j := fun j hj => match j, hj with
  | 0, _ => rfl 
  | 1, _ => rfl 
  | 2, _ => rfl 
  | 3, _ => rfl
  | n + 4, z => absurd z (by omega)
def dfX4 : List Value := [.null, .null, .null, .null, .int 0, .int 0, .int 0, .int 0, .int 0]
theorem dfX4_ok (b : Nat) : ∀ j, j < 9 → defaultValue (tyX4 j) = vp_V (dfX4.map (ab_v b)) j := fun j hj => match j, hj with
  | 0, _ => rfl 
  | 1, _ => rfl 
  | 2, _ => rfl 
  | 3, _ => rfl 
  | 4, _ => rfl 
  | 5, _ => rfl 
  | 6, _ => rfl 
  | 7, _ => rfl 
  | 8, _ => rfl
  | n + 9, z => absurd z (by omega)
def dfX5 : List Value := [.null, .null, .int 0, .int 0]
theorem dfX5_ok (b : Nat) : ∀ j, j < 4 → defaultValue (tyX5 j) = vp_V (dfX5.map (ab_v b)) j := fun j hj => match j, hj with
  | 0, _ => rfl 
  | 1, _ => rfl 
  | 2, _ => rfl 
  | 3, _ => rfl
  | n + 4, z => absurd z (by omega)
def dfX6 : List Value := [.null, .null, .null, .null, .null]
theorem dfX6_ok (b : Nat) : ∀ j, j < 5 → defaultValue (tyX6 j) = vp_V (dfX6.map (ab_v b)) j := fun j hj => match j, hj with
  | 0, _ => rfl 
  | 1, _ => rfl 
  | 2, _ => rfl 
  | 3, _ => rfl 
  | 4, _ => rfl
  | n + 5, z => absurd z (by omega)
def dfX7 : List Value := [.null, .null, .null, .null, .null, .int 0, .null, .null, .null, .int 0, .int 0, .null, .null, .null, .null, .null, .null, .null, .null, .null, .null, .null, .int 0, .int 0, .null, .null, .null, .int 0, .null, .null, .null]
theorem dfX7_ok (b : Nat) : ∀ j, j < 31 → defaultValue (tyX7 j) = vp_V (dfX7.map (ab_v b)) j := fun j hj => match j, hj with
  | 0, _ => rfl 
  | 1, _ => rfl 
  | 2, _ => rfl 
  | 3, _ => rfl 
  | 4, _ => rfl 
  | 5, _ => rfl 
  | 6, _ => rfl 
  | 7, _ => rfl 
  | 8, _ => rfl 
  | 9, _ => rfl 
  | 10, _ => rfl 
  | 11, _ => rfl 
  | 12, _ => rfl 
  | 13, _ => rfl 
  | 14, _ => rfl 
  | 15, _ => rfl 
  | 16, _ => rfl 
  | 17, _ => rfl 
  | 18, _ => rfl 
  | 19, _ => rfl 
  | 20, _ => rfl 
  | 21, _ => rfl 
  | 22, _ => rfl 
  | 23, _ => rfl 
  | 24, _ => rfl 
  | 25, _ => rfl 
  | 26, _ => rfl 
  | 27, _ => rfl 
  | 28, _ => rfl 
  | 29, _ => rfl 
  | 30, _ => rfl
  | n + 31, z => absurd z (by omega)
-- DiskRests$Requests.<init>()V (mode W, depth 1)
def fX3_init (h : ab_H) (a0 : Nat) : Option ab_H := (ab_nI h 40).bind (fun q1 => (ab_pV q1.2 a0 3 0 (.ref q1.1)).bind (fun h2 => (ab_nI h2 40).bind (fun q3 => (ab_pV q3.2 a0 3 1 (.ref q3.1)).bind (fun h4 => (ab_nI h4 40).bind (fun q5 => (ab_pV q5.2 a0 3 2 (.ref q5.1)).bind (fun h6 => some h6))))))
set_option maxRecDepth 20000 in
set_option maxHeartbeats 1000000 in
theorem kX3_init {l : Launch} {g : ab_G} {K : ab_K} {h : ab_H} {a0 : Nat} {r : ab_H} (hf : fX3_init h a0 = some r) (hK : K none r) : ab_S l g mX3_init 1 3 120 [.ref a0] h K := by
  unfold fX3_init at hf
  refine ab_enter (ls := [(0, .ref a0)]) (by decide +kernel) rfl (Nat.le_of_ble_eq_true rfl) rfl ?_
  refine ab_aload_n (pc' := 1) (q := 0) dX3_init_0 rfl rfl rfl ?_
  refine ab_objF (pc' := 4) dX3_init_1 mk_X3_3 (by decide) rfl ?_
  refine ab_aload_n (pc' := 5) (q := 0) dX3_init_4 rfl rfl rfl ?_
  refine ab_bipush (pc' := 7) (v := 40) dX3_init_5 (by decide) rfl ?_
  obtain ⟨q1, eq1, hf⟩ := ab_bd hf
  refine ab_newIF (pc' := 9) (N := 40) (ce' := 1) (sl' := 40) dX3_init_7 (by decide) (by decide) (Nat.le_of_ble_eq_true rfl) rfl rfl (Nat.le_of_ble_eq_true rfl) (Nat.le_of_ble_eq_true rfl) eq1 rfl ?_
  obtain ⟨h2, eh2, hf⟩ := ab_bd hf
  refine ab_putF (pc' := 12) (ci := 3) (k := 0) dX3_init_9 rfl (by decide) ff_X3_9 rfl rfl rfl (tyX3_ok 0 (by decide)) rfl rfl eh2 rfl ?_
  refine ab_aload_n (pc' := 13) (q := 0) dX3_init_12 rfl rfl rfl ?_
  refine ab_bipush (pc' := 15) (v := 40) dX3_init_13 (by decide) rfl ?_
  obtain ⟨q3, eq3, hf⟩ := ab_bd hf
  refine ab_newIF (pc' := 17) (N := 40) (ce' := 2) (sl' := 80) dX3_init_15 (by decide) (by decide) (Nat.le_of_ble_eq_true rfl) rfl rfl (Nat.le_of_ble_eq_true rfl) (Nat.le_of_ble_eq_true rfl) eq3 rfl ?_
  obtain ⟨h4, eh4, hf⟩ := ab_bd hf
  refine ab_putF (pc' := 20) (ci := 3) (k := 1) dX3_init_17 rfl (by decide) ff_X3_15 rfl rfl rfl (tyX3_ok 1 (by decide)) rfl rfl eh4 rfl ?_
  refine ab_aload_n (pc' := 21) (q := 0) dX3_init_20 rfl rfl rfl ?_
  refine ab_bipush (pc' := 23) (v := 40) dX3_init_21 (by decide) rfl ?_
  obtain ⟨q5, eq5, hf⟩ := ab_bd hf
  refine ab_newIF (pc' := 25) (N := 40) (ce' := 3) (sl' := 120) dX3_init_23 (by decide) (by decide) (Nat.le_of_ble_eq_true rfl) rfl rfl (Nat.le_of_ble_eq_true rfl) (Nat.le_of_ble_eq_true rfl) eq5 rfl ?_
  obtain ⟨h6, eh6, hf⟩ := ab_bd hf
  refine ab_putF (pc' := 28) (ci := 3) (k := 2) dX3_init_25 rfl (by decide) ff_X3_18 rfl rfl rfl (tyX3_ok 2 (by decide)) rfl rfl eh6 rfl ?_
  have hf := Option.some.inj hf
  subst hf
  exact ab_vret rfl dX3_init_28 hK
-- DiskRests$Disk.<init>()V (mode W, depth 1)
def fX1_init (h : ab_H) (a0 : Nat) : Option ab_H := (ab_nI h 4).bind (fun q1 => (ab_pV q1.2 a0 1 0 (.ref q1.1)).bind (fun h2 => (ab_nI h2 4).bind (fun q3 => (ab_pV q3.2 a0 1 1 (.ref q3.1)).bind (fun h4 => (ab_gR h4 a0 1 0).bind (fun r5 => (ab_sI h4 r5 0 10).bind (fun h6 => some h6))))))
set_option maxRecDepth 20000 in
set_option maxHeartbeats 1000000 in
theorem kX1_init {l : Launch} {g : ab_G} {K : ab_K} {h : ab_H} {a0 : Nat} {r : ab_H} (hf : fX1_init h a0 = some r) (hK : K none r) : ab_S l g mX1_init 1 2 8 [.ref a0] h K := by
  unfold fX1_init at hf
  refine ab_enter (ls := [(0, .ref a0)]) (by decide +kernel) rfl (Nat.le_of_ble_eq_true rfl) rfl ?_
  refine ab_aload_n (pc' := 1) (q := 0) dX1_init_0 rfl rfl rfl ?_
  refine ab_objF (pc' := 4) dX1_init_1 mk_X1_3 (by decide) rfl ?_
  refine ab_aload_n (pc' := 5) (q := 0) dX1_init_4 rfl rfl rfl ?_
  refine ab_iconst (pc' := 6) (v := 4) dX1_init_5 (by decide) rfl ?_
  obtain ⟨q1, eq1, hf⟩ := ab_bd hf
  refine ab_newIF (pc' := 8) (N := 4) (ce' := 1) (sl' := 4) dX1_init_6 (by decide) (by decide) (Nat.le_of_ble_eq_true rfl) rfl rfl (Nat.le_of_ble_eq_true rfl) (Nat.le_of_ble_eq_true rfl) eq1 rfl ?_
  obtain ⟨h2, eh2, hf⟩ := ab_bd hf
  refine ab_putF (pc' := 11) (ci := 1) (k := 0) dX1_init_8 rfl (by decide) ff_X1_9 rfl rfl rfl (tyX1_ok 0 (by decide)) rfl rfl eh2 rfl ?_
  refine ab_aload_n (pc' := 12) (q := 0) dX1_init_11 rfl rfl rfl ?_
  refine ab_iconst (pc' := 13) (v := 4) dX1_init_12 (by decide) rfl ?_
  obtain ⟨q3, eq3, hf⟩ := ab_bd hf
  refine ab_newIF (pc' := 15) (N := 4) (ce' := 2) (sl' := 8) dX1_init_13 (by decide) (by decide) (Nat.le_of_ble_eq_true rfl) rfl rfl (Nat.le_of_ble_eq_true rfl) (Nat.le_of_ble_eq_true rfl) eq3 rfl ?_
  obtain ⟨h4, eh4, hf⟩ := ab_bd hf
  refine ab_putF (pc' := 18) (ci := 1) (k := 1) dX1_init_15 rfl (by decide) ff_X1_15 rfl rfl rfl (tyX1_ok 1 (by decide)) rfl rfl eh4 rfl ?_
  refine ab_aload_n (pc' := 19) (q := 0) dX1_init_18 rfl rfl rfl ?_
  obtain ⟨r5, er5, hf⟩ := ab_bd hf
  refine ab_getR (pc' := 22) (ci := 1) (k := 0) dX1_init_19 rfl (by decide) fl_X1_9 er5 rfl ?_
  refine ab_iconst (pc' := 23) (v := 0) dX1_init_22 (by decide) rfl ?_
  refine ab_bipush (pc' := 25) (v := 10) dX1_init_23 (by decide) rfl ?_
  obtain ⟨h6, eh6, hf⟩ := ab_bd hf
  refine ab_iast (pc' := 26) dX1_init_25 eh6 rfl ?_
  have hf := Option.some.inj hf
  subst hf
  exact ab_vret rfl dX1_init_26 hK
-- DiskRests$Setup.<init>()V (mode W, depth 2)
def fX5_init (h : ab_H) (a0 : Nat) : Option ab_H := (ab_nR h 3 4).bind (fun q1 => (ab_pV q1.2 a0 5 0 (.ref q1.1)).bind (fun h2 => (ab_nO h2 3 dfX3).bind (fun q3 => (fX3_init q3.2 q3.1).bind (fun h4 => (ab_pV h4 a0 5 1 (.ref q3.1)).bind (fun h5 => (ab_pV h5 a0 5 2 (.int 100)).bind (fun h6 => (ab_gR h6 a0 5 0).bind (fun r8 => (ab_nO h6 1 dfX1).bind (fun q9 => (fX1_init q9.2 q9.1).bind (fun h10 => (ab_sR h10 r8 0 q9.1).bind (fun h11 => (ab_gR h11 a0 5 0).bind (fun r13 => (ab_nO h11 1 dfX1).bind (fun q14 => (fX1_init q14.2 q14.1).bind (fun h15 => (ab_sR h15 r13 1 q14.1).bind (fun h16 => (ab_gR h16 a0 5 0).bind (fun r18 => (ab_nO h16 1 dfX1).bind (fun q19 => (fX1_init q19.2 q19.1).bind (fun h20 => (ab_sR h20 r18 2 q19.1).bind (fun h21 => (ab_gR h21 a0 5 0).bind (fun r23 => (ab_nO h21 1 dfX1).bind (fun q24 => (fX1_init q24.2 q24.1).bind (fun h25 => (ab_sR h25 r23 3 q24.1).bind (fun h26 => some h26))))))))))))))))))))))
set_option maxRecDepth 20000 in
set_option maxHeartbeats 1000000 in
theorem kX5_init {l : Launch} {g : ab_G} {K : ab_K} {h : ab_H} {a0 : Nat} {r : ab_H} (hf : fX5_init h a0 = some r) (hK : K none r) : ab_S l g mX5_init 2 17 180 [.ref a0] h K := by
  unfold fX5_init at hf
  refine ab_enter (ls := [(0, .ref a0)]) (by decide +kernel) rfl (Nat.le_of_ble_eq_true rfl) rfl ?_
  refine ab_aload_n (pc' := 1) (q := 0) dX5_init_0 rfl rfl rfl ?_
  refine ab_objF (pc' := 4) dX5_init_1 mk_X5_3 (by decide) rfl ?_
  refine ab_aload_n (pc' := 5) (q := 0) dX5_init_4 rfl rfl rfl ?_
  refine ab_iconst (pc' := 6) (v := 4) dX5_init_5 (by decide) rfl ?_
  obtain ⟨q1, eq1, hf⟩ := ab_bd hf
  refine ab_newRF (pc' := 9) (N := 4) (t := 3) (ce' := 1) (sl' := 4) dX5_init_6 (by decide) (by decide) rfl rfl cl_X5_9 ao_X1 (by decide) (by decide) (Nat.le_of_ble_eq_true rfl) rfl rfl (Nat.le_of_ble_eq_true rfl) (Nat.le_of_ble_eq_true rfl) eq1 rfl ?_
  obtain ⟨h2, eh2, hf⟩ := ab_bd hf
  refine ab_putF (pc' := 12) (ci := 5) (k := 0) dX5_init_9 rfl (by decide) ff_X5_11 rfl rfl rfl (tyX5_ok 0 (by decide)) rfl rfl eh2 rfl ?_
  refine ab_aload_n (pc' := 13) (q := 0) dX5_init_12 rfl rfl rfl ?_
  obtain ⟨q3, eq3, hf⟩ := ab_bd hf
  refine ab_newF (pc' := 16) (ci := 3) (ce' := 2) (sl' := 8) tyX3 tyX3_ok dX5_init_13 rfl cl_X5_17 it_X3 in_X3 (dfX3_ok _) rfl rfl (Nat.le_of_ble_eq_true rfl) (Nat.le_of_ble_eq_true rfl) eq3 rfl ?_
  refine ab_dup_ref (pc' := 17) dX5_init_16 rfl ?_
  obtain ⟨h4, eh4, hf⟩ := ab_bd hf
  refine ab_callI (pc' := 20) (Mc := mX3_init) (as := []) (st := [.ref q3.1, .ref a0]) dX5_init_17 ml_X5_19 okX3_init rfl rfl im_X3_init rfl (by decide) (Nat.le_of_ble_eq_true rfl) (Nat.le_of_ble_eq_true rfl) (Nat.le_of_ble_eq_true rfl) rfl rfl (kX3_init eh4 ?_)
  show ab_Ev l g mX5_init 2 17 180 20 [(0, .ref a0)] [.ref q3.1, .ref a0] h4 5 128 K
  obtain ⟨h5, eh5, hf⟩ := ab_bd hf
  refine ab_putF (pc' := 23) (ci := 5) (k := 1) dX5_init_20 rfl (by decide) ff_X5_20 rfl rfl rfl (tyX5_ok 1 (by decide)) rfl rfl eh5 rfl ?_
  refine ab_aload_n (pc' := 24) (q := 0) dX5_init_23 rfl rfl rfl ?_
  refine ab_bipush (pc' := 26) (v := 100) dX5_init_24 (by decide) rfl ?_
  obtain ⟨h6, eh6, hf⟩ := ab_bd hf
  refine ab_put (pc' := 29) (ci := 5) (k := 2) dX5_init_26 rfl (by decide) fl_X5_24 rfl (tyX5_ok 2 (by decide)) rfl rfl eh6 rfl ?_
  refine ab_iconst (pc' := 30) (v := 0) dX5_init_29 (by decide) rfl ?_
  refine ab_istore_n (pc' := 31) (ls' := [(1, .int 0), (0, .ref a0)]) dX5_init_30 rfl (by decide) rfl rfl ?_
  refine ab_iload_n (pc' := 32) (q := 0) dX5_init_31 rfl rfl rfl ?_
  refine ab_iconst (pc' := 33) (v := 4) dX5_init_32 (by decide) rfl ?_
  refine ab_icmp_ge (pc' := 36) (tgt := 55) dX5_init_33 (by decide) rfl (fun c7 => absurd c7 (by decide)) (fun _ => ?_)
  refine ab_aload_n (pc' := 37) (q := 1) dX5_init_36 rfl rfl rfl ?_
  obtain ⟨r8, er8, hf⟩ := ab_bd hf
  refine ab_getR (pc' := 40) (ci := 5) (k := 0) dX5_init_37 rfl (by decide) fl_X5_11 er8 rfl ?_
  refine ab_iload_n (pc' := 41) (q := 0) dX5_init_40 rfl rfl rfl ?_
  obtain ⟨q9, eq9, hf⟩ := ab_bd hf
  refine ab_newF (pc' := 44) (ci := 1) (ce' := 6) (sl' := 133) tyX1 tyX1_ok dX5_init_41 rfl cl_X5_9 it_X1 in_X1 (dfX1_ok _) rfl rfl (Nat.le_of_ble_eq_true rfl) (Nat.le_of_ble_eq_true rfl) eq9 rfl ?_
  refine ab_dup_ref (pc' := 45) dX5_init_44 rfl ?_
  obtain ⟨h10, eh10, hf⟩ := ab_bd hf
  refine ab_callI (pc' := 48) (Mc := mX1_init) (as := []) (st := [.ref q9.1, .int 0, .ref r8]) dX5_init_45 ml_X5_28 okX1_init rfl rfl im_X1_init rfl (by decide) (Nat.le_of_ble_eq_true rfl) (Nat.le_of_ble_eq_true rfl) (Nat.le_of_ble_eq_true rfl) rfl rfl (kX1_init eh10 ?_)
  show ab_Ev l g mX5_init 2 17 180 48 [(1, .int 0), (0, .ref a0)] [.ref q9.1, .int 0, .ref r8] h10 8 141 K
  obtain ⟨h11, eh11, hf⟩ := ab_bd hf
  refine ab_aast (pc' := 49) dX5_init_48 eh11 rfl ?_
  refine ab_iinc (pc' := 52) (q := 0) (v := 1) (ls' := [(1, .int 1), (0, .ref a0)]) dX5_init_49 rfl (by decide) (by decide) rfl rfl ?_
  refine ab_goto (tgt := 31) dX5_init_52 (by decide) ?_
  refine ab_iload_n (pc' := 32) (q := 0) dX5_init_31 rfl rfl rfl ?_
  refine ab_iconst (pc' := 33) (v := 4) dX5_init_32 (by decide) rfl ?_
  refine ab_icmp_ge (pc' := 36) (tgt := 55) dX5_init_33 (by decide) rfl (fun c12 => absurd c12 (by decide)) (fun _ => ?_)
  refine ab_aload_n (pc' := 37) (q := 1) dX5_init_36 rfl rfl rfl ?_
  obtain ⟨r13, er13, hf⟩ := ab_bd hf
  refine ab_getR (pc' := 40) (ci := 5) (k := 0) dX5_init_37 rfl (by decide) fl_X5_11 er13 rfl ?_
  refine ab_iload_n (pc' := 41) (q := 0) dX5_init_40 rfl rfl rfl ?_
  obtain ⟨q14, eq14, hf⟩ := ab_bd hf
  refine ab_newF (pc' := 44) (ci := 1) (ce' := 9) (sl' := 146) tyX1 tyX1_ok dX5_init_41 rfl cl_X5_9 it_X1 in_X1 (dfX1_ok _) rfl rfl (Nat.le_of_ble_eq_true rfl) (Nat.le_of_ble_eq_true rfl) eq14 rfl ?_
  refine ab_dup_ref (pc' := 45) dX5_init_44 rfl ?_
  obtain ⟨h15, eh15, hf⟩ := ab_bd hf
  refine ab_callI (pc' := 48) (Mc := mX1_init) (as := []) (st := [.ref q14.1, .int 1, .ref r13]) dX5_init_45 ml_X5_28 okX1_init rfl rfl im_X1_init rfl (by decide) (Nat.le_of_ble_eq_true rfl) (Nat.le_of_ble_eq_true rfl) (Nat.le_of_ble_eq_true rfl) rfl rfl (kX1_init eh15 ?_)
  show ab_Ev l g mX5_init 2 17 180 48 [(1, .int 1), (0, .ref a0)] [.ref q14.1, .int 1, .ref r13] h15 11 154 K
  obtain ⟨h16, eh16, hf⟩ := ab_bd hf
  refine ab_aast (pc' := 49) dX5_init_48 eh16 rfl ?_
  refine ab_iinc (pc' := 52) (q := 0) (v := 2) (ls' := [(1, .int 2), (0, .ref a0)]) dX5_init_49 rfl (by decide) (by decide) rfl rfl ?_
  refine ab_goto (tgt := 31) dX5_init_52 (by decide) ?_
  refine ab_iload_n (pc' := 32) (q := 0) dX5_init_31 rfl rfl rfl ?_
  refine ab_iconst (pc' := 33) (v := 4) dX5_init_32 (by decide) rfl ?_
  refine ab_icmp_ge (pc' := 36) (tgt := 55) dX5_init_33 (by decide) rfl (fun c17 => absurd c17 (by decide)) (fun _ => ?_)
  refine ab_aload_n (pc' := 37) (q := 1) dX5_init_36 rfl rfl rfl ?_
  obtain ⟨r18, er18, hf⟩ := ab_bd hf
  refine ab_getR (pc' := 40) (ci := 5) (k := 0) dX5_init_37 rfl (by decide) fl_X5_11 er18 rfl ?_
  refine ab_iload_n (pc' := 41) (q := 0) dX5_init_40 rfl rfl rfl ?_
  obtain ⟨q19, eq19, hf⟩ := ab_bd hf
  refine ab_newF (pc' := 44) (ci := 1) (ce' := 12) (sl' := 159) tyX1 tyX1_ok dX5_init_41 rfl cl_X5_9 it_X1 in_X1 (dfX1_ok _) rfl rfl (Nat.le_of_ble_eq_true rfl) (Nat.le_of_ble_eq_true rfl) eq19 rfl ?_
  refine ab_dup_ref (pc' := 45) dX5_init_44 rfl ?_
  obtain ⟨h20, eh20, hf⟩ := ab_bd hf
  refine ab_callI (pc' := 48) (Mc := mX1_init) (as := []) (st := [.ref q19.1, .int 2, .ref r18]) dX5_init_45 ml_X5_28 okX1_init rfl rfl im_X1_init rfl (by decide) (Nat.le_of_ble_eq_true rfl) (Nat.le_of_ble_eq_true rfl) (Nat.le_of_ble_eq_true rfl) rfl rfl (kX1_init eh20 ?_)
  show ab_Ev l g mX5_init 2 17 180 48 [(1, .int 2), (0, .ref a0)] [.ref q19.1, .int 2, .ref r18] h20 14 167 K
  obtain ⟨h21, eh21, hf⟩ := ab_bd hf
  refine ab_aast (pc' := 49) dX5_init_48 eh21 rfl ?_
  refine ab_iinc (pc' := 52) (q := 0) (v := 3) (ls' := [(1, .int 3), (0, .ref a0)]) dX5_init_49 rfl (by decide) (by decide) rfl rfl ?_
  refine ab_goto (tgt := 31) dX5_init_52 (by decide) ?_
  refine ab_iload_n (pc' := 32) (q := 0) dX5_init_31 rfl rfl rfl ?_
  refine ab_iconst (pc' := 33) (v := 4) dX5_init_32 (by decide) rfl ?_
  refine ab_icmp_ge (pc' := 36) (tgt := 55) dX5_init_33 (by decide) rfl (fun c22 => absurd c22 (by decide)) (fun _ => ?_)
  refine ab_aload_n (pc' := 37) (q := 1) dX5_init_36 rfl rfl rfl ?_
  obtain ⟨r23, er23, hf⟩ := ab_bd hf
  refine ab_getR (pc' := 40) (ci := 5) (k := 0) dX5_init_37 rfl (by decide) fl_X5_11 er23 rfl ?_
  refine ab_iload_n (pc' := 41) (q := 0) dX5_init_40 rfl rfl rfl ?_
  obtain ⟨q24, eq24, hf⟩ := ab_bd hf
  refine ab_newF (pc' := 44) (ci := 1) (ce' := 15) (sl' := 172) tyX1 tyX1_ok dX5_init_41 rfl cl_X5_9 it_X1 in_X1 (dfX1_ok _) rfl rfl (Nat.le_of_ble_eq_true rfl) (Nat.le_of_ble_eq_true rfl) eq24 rfl ?_
  refine ab_dup_ref (pc' := 45) dX5_init_44 rfl ?_
  obtain ⟨h25, eh25, hf⟩ := ab_bd hf
  refine ab_callI (pc' := 48) (Mc := mX1_init) (as := []) (st := [.ref q24.1, .int 3, .ref r23]) dX5_init_45 ml_X5_28 okX1_init rfl rfl im_X1_init rfl (by decide) (Nat.le_of_ble_eq_true rfl) (Nat.le_of_ble_eq_true rfl) (Nat.le_of_ble_eq_true rfl) rfl rfl (kX1_init eh25 ?_)
  show ab_Ev l g mX5_init 2 17 180 48 [(1, .int 3), (0, .ref a0)] [.ref q24.1, .int 3, .ref r23] h25 17 180 K
  obtain ⟨h26, eh26, hf⟩ := ab_bd hf
  refine ab_aast (pc' := 49) dX5_init_48 eh26 rfl ?_
  refine ab_iinc (pc' := 52) (q := 0) (v := 4) (ls' := [(1, .int 4), (0, .ref a0)]) dX5_init_49 rfl (by decide) (by decide) rfl rfl ?_
  refine ab_goto (tgt := 31) dX5_init_52 (by decide) ?_
  refine ab_iload_n (pc' := 32) (q := 0) dX5_init_31 rfl rfl rfl ?_
  refine ab_iconst (pc' := 33) (v := 4) dX5_init_32 (by decide) rfl ?_
  refine ab_icmp_ge (pc' := 36) (tgt := 55) dX5_init_33 (by decide) rfl (fun _ => ?_) (fun c27 => absurd (by decide) c27)
  have hf := Option.some.inj hf
  subst hf
  exact ab_vret rfl dX5_init_55 hK
-- DiskRests$Course.<init>()V (mode W, depth 1)
def fX0_init (h : ab_H) (a0 : Nat) : Option ab_H := (ab_nI h 40).bind (fun q1 => (ab_pV q1.2 a0 0 7 (.ref q1.1)).bind (fun h2 => (ab_pV h2 a0 0 9 (.int (-6))).bind (fun h3 => some h3)))
set_option maxRecDepth 20000 in
set_option maxHeartbeats 1000000 in
theorem kX0_init {l : Launch} {g : ab_G} {K : ab_K} {h : ab_H} {a0 : Nat} {r : ab_H} (hf : fX0_init h a0 = some r) (hK : K none r) : ab_S l g mX0_init 1 1 40 [.ref a0] h K := by
  unfold fX0_init at hf
  refine ab_enter (ls := [(0, .ref a0)]) (by decide +kernel) rfl (Nat.le_of_ble_eq_true rfl) rfl ?_
  refine ab_aload_n (pc' := 1) (q := 0) dX0_init_0 rfl rfl rfl ?_
  refine ab_objF (pc' := 4) dX0_init_1 mk_X0_3 (by decide) rfl ?_
  refine ab_aload_n (pc' := 5) (q := 0) dX0_init_4 rfl rfl rfl ?_
  refine ab_bipush (pc' := 7) (v := 40) dX0_init_5 (by decide) rfl ?_
  obtain ⟨q1, eq1, hf⟩ := ab_bd hf
  refine ab_newIF (pc' := 9) (N := 40) (ce' := 1) (sl' := 40) dX0_init_7 (by decide) (by decide) (Nat.le_of_ble_eq_true rfl) rfl rfl (Nat.le_of_ble_eq_true rfl) (Nat.le_of_ble_eq_true rfl) eq1 rfl ?_
  obtain ⟨h2, eh2, hf⟩ := ab_bd hf
  refine ab_putF (pc' := 12) (ci := 0) (k := 7) dX0_init_9 rfl (by decide) ff_X0_9 rfl rfl rfl (tyX0_ok 7 (by decide)) rfl rfl eh2 rfl ?_
  refine ab_aload_n (pc' := 13) (q := 0) dX0_init_12 rfl rfl rfl ?_
  refine ab_bipush (pc' := 15) (v := (-6)) dX0_init_13 (by decide) rfl ?_
  obtain ⟨h3, eh3, hf⟩ := ab_bd hf
  refine ab_put (pc' := 18) (ci := 0) (k := 9) dX0_init_15 rfl (by decide) fl_X0_15 rfl (tyX0_ok 9 (by decide)) rfl rfl eh3 rfl ?_
  have hf := Option.some.inj hf
  subst hf
  exact ab_vret rfl dX0_init_18 hK
-- DiskRests$Run.<init>()V (mode W, depth 2)
def fX4_init (h : ab_H) (a0 : Nat) : Option ab_H := (ab_nR h 4 4).bind (fun q1 => (ab_pV q1.2 a0 4 0 (.ref q1.1)).bind (fun h2 => (ab_nI h2 40).bind (fun q3 => (ab_pV q3.2 a0 4 1 (.ref q3.1)).bind (fun h4 => (ab_nI h4 40).bind (fun q5 => (ab_pV q5.2 a0 4 2 (.ref q5.1)).bind (fun h6 => (ab_nI h6 8).bind (fun q7 => (ab_pV q7.2 a0 4 3 (.ref q7.1)).bind (fun h8 => (ab_pV h8 a0 4 8 (.int 1)).bind (fun h9 => (ab_gR h9 a0 4 0).bind (fun r11 => (ab_nO h9 0 dfX0).bind (fun q12 => (fX0_init q12.2 q12.1).bind (fun h13 => (ab_sR h13 r11 0 q12.1).bind (fun h14 => (ab_gR h14 a0 4 0).bind (fun r16 => (ab_nO h14 0 dfX0).bind (fun q17 => (fX0_init q17.2 q17.1).bind (fun h18 => (ab_sR h18 r16 1 q17.1).bind (fun h19 => (ab_gR h19 a0 4 0).bind (fun r21 => (ab_nO h19 0 dfX0).bind (fun q22 => (fX0_init q22.2 q22.1).bind (fun h23 => (ab_sR h23 r21 2 q22.1).bind (fun h24 => (ab_gR h24 a0 4 0).bind (fun r26 => (ab_nO h24 0 dfX0).bind (fun q27 => (fX0_init q27.2 q27.1).bind (fun h28 => (ab_sR h28 r26 3 q27.1).bind (fun h29 => some h29)))))))))))))))))))))))))
set_option maxRecDepth 20000 in
set_option maxHeartbeats 1000000 in
theorem kX4_init {l : Launch} {g : ab_G} {K : ab_K} {h : ab_H} {a0 : Nat} {r : ab_H} (hf : fX4_init h a0 = some r) (hK : K none r) : ab_S l g mX4_init 2 12 292 [.ref a0] h K := by
  unfold fX4_init at hf
  refine ab_enter (ls := [(0, .ref a0)]) (by decide +kernel) rfl (Nat.le_of_ble_eq_true rfl) rfl ?_
  refine ab_aload_n (pc' := 1) (q := 0) dX4_init_0 rfl rfl rfl ?_
  refine ab_objF (pc' := 4) dX4_init_1 mk_X4_3 (by decide) rfl ?_
  refine ab_aload_n (pc' := 5) (q := 0) dX4_init_4 rfl rfl rfl ?_
  refine ab_iconst (pc' := 6) (v := 4) dX4_init_5 (by decide) rfl ?_
  obtain ⟨q1, eq1, hf⟩ := ab_bd hf
  refine ab_newRF (pc' := 9) (N := 4) (t := 4) (ce' := 1) (sl' := 4) dX4_init_6 (by decide) (by decide) rfl rfl cl_X4_9 ao_X0 (by decide) (by decide) (Nat.le_of_ble_eq_true rfl) rfl rfl (Nat.le_of_ble_eq_true rfl) (Nat.le_of_ble_eq_true rfl) eq1 rfl ?_
  obtain ⟨h2, eh2, hf⟩ := ab_bd hf
  refine ab_putF (pc' := 12) (ci := 4) (k := 0) dX4_init_9 rfl (by decide) ff_X4_11 rfl rfl rfl (tyX4_ok 0 (by decide)) rfl rfl eh2 rfl ?_
  refine ab_aload_n (pc' := 13) (q := 0) dX4_init_12 rfl rfl rfl ?_
  refine ab_bipush (pc' := 15) (v := 40) dX4_init_13 (by decide) rfl ?_
  obtain ⟨q3, eq3, hf⟩ := ab_bd hf
  refine ab_newIF (pc' := 17) (N := 40) (ce' := 2) (sl' := 44) dX4_init_15 (by decide) (by decide) (Nat.le_of_ble_eq_true rfl) rfl rfl (Nat.le_of_ble_eq_true rfl) (Nat.le_of_ble_eq_true rfl) eq3 rfl ?_
  obtain ⟨h4, eh4, hf⟩ := ab_bd hf
  refine ab_putF (pc' := 20) (ci := 4) (k := 1) dX4_init_17 rfl (by decide) ff_X4_17 rfl rfl rfl (tyX4_ok 1 (by decide)) rfl rfl eh4 rfl ?_
  refine ab_aload_n (pc' := 21) (q := 0) dX4_init_20 rfl rfl rfl ?_
  refine ab_bipush (pc' := 23) (v := 40) dX4_init_21 (by decide) rfl ?_
  obtain ⟨q5, eq5, hf⟩ := ab_bd hf
  refine ab_newIF (pc' := 25) (N := 40) (ce' := 3) (sl' := 84) dX4_init_23 (by decide) (by decide) (Nat.le_of_ble_eq_true rfl) rfl rfl (Nat.le_of_ble_eq_true rfl) (Nat.le_of_ble_eq_true rfl) eq5 rfl ?_
  obtain ⟨h6, eh6, hf⟩ := ab_bd hf
  refine ab_putF (pc' := 28) (ci := 4) (k := 2) dX4_init_25 rfl (by decide) ff_X4_21 rfl rfl rfl (tyX4_ok 2 (by decide)) rfl rfl eh6 rfl ?_
  refine ab_aload_n (pc' := 29) (q := 0) dX4_init_28 rfl rfl rfl ?_
  refine ab_bipush (pc' := 31) (v := 8) dX4_init_29 (by decide) rfl ?_
  obtain ⟨q7, eq7, hf⟩ := ab_bd hf
  refine ab_newIF (pc' := 33) (N := 8) (ce' := 4) (sl' := 92) dX4_init_31 (by decide) (by decide) (Nat.le_of_ble_eq_true rfl) rfl rfl (Nat.le_of_ble_eq_true rfl) (Nat.le_of_ble_eq_true rfl) eq7 rfl ?_
  obtain ⟨h8, eh8, hf⟩ := ab_bd hf
  refine ab_putF (pc' := 36) (ci := 4) (k := 3) dX4_init_33 rfl (by decide) ff_X4_24 rfl rfl rfl (tyX4_ok 3 (by decide)) rfl rfl eh8 rfl ?_
  refine ab_aload_n (pc' := 37) (q := 0) dX4_init_36 rfl rfl rfl ?_
  refine ab_iconst (pc' := 38) (v := 1) dX4_init_37 (by decide) rfl ?_
  obtain ⟨h9, eh9, hf⟩ := ab_bd hf
  refine ab_put (pc' := 41) (ci := 4) (k := 8) dX4_init_38 rfl (by decide) fl_X4_27 rfl (tyX4_ok 8 (by decide)) rfl rfl eh9 rfl ?_
  refine ab_iconst (pc' := 42) (v := 0) dX4_init_41 (by decide) rfl ?_
  refine ab_istore_n (pc' := 43) (ls' := [(1, .int 0), (0, .ref a0)]) dX4_init_42 rfl (by decide) rfl rfl ?_
  refine ab_iload_n (pc' := 44) (q := 0) dX4_init_43 rfl rfl rfl ?_
  refine ab_iconst (pc' := 45) (v := 4) dX4_init_44 (by decide) rfl ?_
  refine ab_icmp_ge (pc' := 48) (tgt := 67) dX4_init_45 (by decide) rfl (fun c10 => absurd c10 (by decide)) (fun _ => ?_)
  refine ab_aload_n (pc' := 49) (q := 1) dX4_init_48 rfl rfl rfl ?_
  obtain ⟨r11, er11, hf⟩ := ab_bd hf
  refine ab_getR (pc' := 52) (ci := 4) (k := 0) dX4_init_49 rfl (by decide) fl_X4_11 er11 rfl ?_
  refine ab_iload_n (pc' := 53) (q := 0) dX4_init_52 rfl rfl rfl ?_
  obtain ⟨q12, eq12, hf⟩ := ab_bd hf
  refine ab_newF (pc' := 56) (ci := 0) (ce' := 5) (sl' := 102) tyX0 tyX0_ok dX4_init_53 rfl cl_X4_9 it_X0 in_X0 (dfX0_ok _) rfl rfl (Nat.le_of_ble_eq_true rfl) (Nat.le_of_ble_eq_true rfl) eq12 rfl ?_
  refine ab_dup_ref (pc' := 57) dX4_init_56 rfl ?_
  obtain ⟨h13, eh13, hf⟩ := ab_bd hf
  refine ab_callI (pc' := 60) (Mc := mX0_init) (as := []) (st := [.ref q12.1, .int 0, .ref r11]) dX4_init_57 ml_X4_31 okX0_init rfl rfl im_X0_init rfl (by decide) (Nat.le_of_ble_eq_true rfl) (Nat.le_of_ble_eq_true rfl) (Nat.le_of_ble_eq_true rfl) rfl rfl (kX0_init eh13 ?_)
  show ab_Ev l g mX4_init 2 12 292 60 [(1, .int 0), (0, .ref a0)] [.ref q12.1, .int 0, .ref r11] h13 6 142 K
  obtain ⟨h14, eh14, hf⟩ := ab_bd hf
  refine ab_aast (pc' := 61) dX4_init_60 eh14 rfl ?_
  refine ab_iinc (pc' := 64) (q := 0) (v := 1) (ls' := [(1, .int 1), (0, .ref a0)]) dX4_init_61 rfl (by decide) (by decide) rfl rfl ?_
  refine ab_goto (tgt := 43) dX4_init_64 (by decide) ?_
  refine ab_iload_n (pc' := 44) (q := 0) dX4_init_43 rfl rfl rfl ?_
  refine ab_iconst (pc' := 45) (v := 4) dX4_init_44 (by decide) rfl ?_
  refine ab_icmp_ge (pc' := 48) (tgt := 67) dX4_init_45 (by decide) rfl (fun c15 => absurd c15 (by decide)) (fun _ => ?_)
  refine ab_aload_n (pc' := 49) (q := 1) dX4_init_48 rfl rfl rfl ?_
  obtain ⟨r16, er16, hf⟩ := ab_bd hf
  refine ab_getR (pc' := 52) (ci := 4) (k := 0) dX4_init_49 rfl (by decide) fl_X4_11 er16 rfl ?_
  refine ab_iload_n (pc' := 53) (q := 0) dX4_init_52 rfl rfl rfl ?_
  obtain ⟨q17, eq17, hf⟩ := ab_bd hf
  refine ab_newF (pc' := 56) (ci := 0) (ce' := 7) (sl' := 152) tyX0 tyX0_ok dX4_init_53 rfl cl_X4_9 it_X0 in_X0 (dfX0_ok _) rfl rfl (Nat.le_of_ble_eq_true rfl) (Nat.le_of_ble_eq_true rfl) eq17 rfl ?_
  refine ab_dup_ref (pc' := 57) dX4_init_56 rfl ?_
  obtain ⟨h18, eh18, hf⟩ := ab_bd hf
  refine ab_callI (pc' := 60) (Mc := mX0_init) (as := []) (st := [.ref q17.1, .int 1, .ref r16]) dX4_init_57 ml_X4_31 okX0_init rfl rfl im_X0_init rfl (by decide) (Nat.le_of_ble_eq_true rfl) (Nat.le_of_ble_eq_true rfl) (Nat.le_of_ble_eq_true rfl) rfl rfl (kX0_init eh18 ?_)
  show ab_Ev l g mX4_init 2 12 292 60 [(1, .int 1), (0, .ref a0)] [.ref q17.1, .int 1, .ref r16] h18 8 192 K
  obtain ⟨h19, eh19, hf⟩ := ab_bd hf
  refine ab_aast (pc' := 61) dX4_init_60 eh19 rfl ?_
  refine ab_iinc (pc' := 64) (q := 0) (v := 2) (ls' := [(1, .int 2), (0, .ref a0)]) dX4_init_61 rfl (by decide) (by decide) rfl rfl ?_
  refine ab_goto (tgt := 43) dX4_init_64 (by decide) ?_
  refine ab_iload_n (pc' := 44) (q := 0) dX4_init_43 rfl rfl rfl ?_
  refine ab_iconst (pc' := 45) (v := 4) dX4_init_44 (by decide) rfl ?_
  refine ab_icmp_ge (pc' := 48) (tgt := 67) dX4_init_45 (by decide) rfl (fun c20 => absurd c20 (by decide)) (fun _ => ?_)
  refine ab_aload_n (pc' := 49) (q := 1) dX4_init_48 rfl rfl rfl ?_
  obtain ⟨r21, er21, hf⟩ := ab_bd hf
  refine ab_getR (pc' := 52) (ci := 4) (k := 0) dX4_init_49 rfl (by decide) fl_X4_11 er21 rfl ?_
  refine ab_iload_n (pc' := 53) (q := 0) dX4_init_52 rfl rfl rfl ?_
  obtain ⟨q22, eq22, hf⟩ := ab_bd hf
  refine ab_newF (pc' := 56) (ci := 0) (ce' := 9) (sl' := 202) tyX0 tyX0_ok dX4_init_53 rfl cl_X4_9 it_X0 in_X0 (dfX0_ok _) rfl rfl (Nat.le_of_ble_eq_true rfl) (Nat.le_of_ble_eq_true rfl) eq22 rfl ?_
  refine ab_dup_ref (pc' := 57) dX4_init_56 rfl ?_
  obtain ⟨h23, eh23, hf⟩ := ab_bd hf
  refine ab_callI (pc' := 60) (Mc := mX0_init) (as := []) (st := [.ref q22.1, .int 2, .ref r21]) dX4_init_57 ml_X4_31 okX0_init rfl rfl im_X0_init rfl (by decide) (Nat.le_of_ble_eq_true rfl) (Nat.le_of_ble_eq_true rfl) (Nat.le_of_ble_eq_true rfl) rfl rfl (kX0_init eh23 ?_)
  show ab_Ev l g mX4_init 2 12 292 60 [(1, .int 2), (0, .ref a0)] [.ref q22.1, .int 2, .ref r21] h23 10 242 K
  obtain ⟨h24, eh24, hf⟩ := ab_bd hf
  refine ab_aast (pc' := 61) dX4_init_60 eh24 rfl ?_
  refine ab_iinc (pc' := 64) (q := 0) (v := 3) (ls' := [(1, .int 3), (0, .ref a0)]) dX4_init_61 rfl (by decide) (by decide) rfl rfl ?_
  refine ab_goto (tgt := 43) dX4_init_64 (by decide) ?_
  refine ab_iload_n (pc' := 44) (q := 0) dX4_init_43 rfl rfl rfl ?_
  refine ab_iconst (pc' := 45) (v := 4) dX4_init_44 (by decide) rfl ?_
  refine ab_icmp_ge (pc' := 48) (tgt := 67) dX4_init_45 (by decide) rfl (fun c25 => absurd c25 (by decide)) (fun _ => ?_)
  refine ab_aload_n (pc' := 49) (q := 1) dX4_init_48 rfl rfl rfl ?_
  obtain ⟨r26, er26, hf⟩ := ab_bd hf
  refine ab_getR (pc' := 52) (ci := 4) (k := 0) dX4_init_49 rfl (by decide) fl_X4_11 er26 rfl ?_
  refine ab_iload_n (pc' := 53) (q := 0) dX4_init_52 rfl rfl rfl ?_
  obtain ⟨q27, eq27, hf⟩ := ab_bd hf
  refine ab_newF (pc' := 56) (ci := 0) (ce' := 11) (sl' := 252) tyX0 tyX0_ok dX4_init_53 rfl cl_X4_9 it_X0 in_X0 (dfX0_ok _) rfl rfl (Nat.le_of_ble_eq_true rfl) (Nat.le_of_ble_eq_true rfl) eq27 rfl ?_
  refine ab_dup_ref (pc' := 57) dX4_init_56 rfl ?_
  obtain ⟨h28, eh28, hf⟩ := ab_bd hf
  refine ab_callI (pc' := 60) (Mc := mX0_init) (as := []) (st := [.ref q27.1, .int 3, .ref r26]) dX4_init_57 ml_X4_31 okX0_init rfl rfl im_X0_init rfl (by decide) (Nat.le_of_ble_eq_true rfl) (Nat.le_of_ble_eq_true rfl) (Nat.le_of_ble_eq_true rfl) rfl rfl (kX0_init eh28 ?_)
  show ab_Ev l g mX4_init 2 12 292 60 [(1, .int 3), (0, .ref a0)] [.ref q27.1, .int 3, .ref r26] h28 12 292 K
  obtain ⟨h29, eh29, hf⟩ := ab_bd hf
  refine ab_aast (pc' := 61) dX4_init_60 eh29 rfl ?_
  refine ab_iinc (pc' := 64) (q := 0) (v := 4) (ls' := [(1, .int 4), (0, .ref a0)]) dX4_init_61 rfl (by decide) (by decide) rfl rfl ?_
  refine ab_goto (tgt := 43) dX4_init_64 (by decide) ?_
  refine ab_iload_n (pc' := 44) (q := 0) dX4_init_43 rfl rfl rfl ?_
  refine ab_iconst (pc' := 45) (v := 4) dX4_init_44 (by decide) rfl ?_
  refine ab_icmp_ge (pc' := 48) (tgt := 67) dX4_init_45 (by decide) rfl (fun _ => ?_) (fun c30 => absurd (by decide) c30)
  have hf := Option.some.inj hf
  subst hf
  exact ab_vret rfl dX4_init_67 hK
-- DiskRests$Gaps.<init>()V (mode W, depth 1)
def fX2_init (h : ab_H) (a0 : Nat) : Option ab_H := (ab_nI h 40).bind (fun q1 => (ab_pV q1.2 a0 2 0 (.ref q1.1)).bind (fun h2 => (ab_nI h2 41).bind (fun q3 => (ab_pV q3.2 a0 2 1 (.ref q3.1)).bind (fun h4 => (ab_nI h4 41).bind (fun q5 => (ab_pV q5.2 a0 2 2 (.ref q5.1)).bind (fun h6 => (ab_nI h6 41).bind (fun q7 => (ab_pV q7.2 a0 2 3 (.ref q7.1)).bind (fun h8 => some h8))))))))
set_option maxRecDepth 20000 in
set_option maxHeartbeats 1000000 in
theorem kX2_init {l : Launch} {g : ab_G} {K : ab_K} {h : ab_H} {a0 : Nat} {r : ab_H} (hf : fX2_init h a0 = some r) (hK : K none r) : ab_S l g mX2_init 1 4 163 [.ref a0] h K := by
  unfold fX2_init at hf
  refine ab_enter (ls := [(0, .ref a0)]) (by decide +kernel) rfl (Nat.le_of_ble_eq_true rfl) rfl ?_
  refine ab_aload_n (pc' := 1) (q := 0) dX2_init_0 rfl rfl rfl ?_
  refine ab_objF (pc' := 4) dX2_init_1 mk_X2_3 (by decide) rfl ?_
  refine ab_aload_n (pc' := 5) (q := 0) dX2_init_4 rfl rfl rfl ?_
  refine ab_bipush (pc' := 7) (v := 40) dX2_init_5 (by decide) rfl ?_
  obtain ⟨q1, eq1, hf⟩ := ab_bd hf
  refine ab_newIF (pc' := 9) (N := 40) (ce' := 1) (sl' := 40) dX2_init_7 (by decide) (by decide) (Nat.le_of_ble_eq_true rfl) rfl rfl (Nat.le_of_ble_eq_true rfl) (Nat.le_of_ble_eq_true rfl) eq1 rfl ?_
  obtain ⟨h2, eh2, hf⟩ := ab_bd hf
  refine ab_putF (pc' := 12) (ci := 2) (k := 0) dX2_init_9 rfl (by decide) ff_X2_9 rfl rfl rfl (tyX2_ok 0 (by decide)) rfl rfl eh2 rfl ?_
  refine ab_aload_n (pc' := 13) (q := 0) dX2_init_12 rfl rfl rfl ?_
  refine ab_bipush (pc' := 15) (v := 41) dX2_init_13 (by decide) rfl ?_
  obtain ⟨q3, eq3, hf⟩ := ab_bd hf
  refine ab_newIF (pc' := 17) (N := 41) (ce' := 2) (sl' := 81) dX2_init_15 (by decide) (by decide) (Nat.le_of_ble_eq_true rfl) rfl rfl (Nat.le_of_ble_eq_true rfl) (Nat.le_of_ble_eq_true rfl) eq3 rfl ?_
  obtain ⟨h4, eh4, hf⟩ := ab_bd hf
  refine ab_putF (pc' := 20) (ci := 2) (k := 1) dX2_init_17 rfl (by decide) ff_X2_15 rfl rfl rfl (tyX2_ok 1 (by decide)) rfl rfl eh4 rfl ?_
  refine ab_aload_n (pc' := 21) (q := 0) dX2_init_20 rfl rfl rfl ?_
  refine ab_bipush (pc' := 23) (v := 41) dX2_init_21 (by decide) rfl ?_
  obtain ⟨q5, eq5, hf⟩ := ab_bd hf
  refine ab_newIF (pc' := 25) (N := 41) (ce' := 3) (sl' := 122) dX2_init_23 (by decide) (by decide) (Nat.le_of_ble_eq_true rfl) rfl rfl (Nat.le_of_ble_eq_true rfl) (Nat.le_of_ble_eq_true rfl) eq5 rfl ?_
  obtain ⟨h6, eh6, hf⟩ := ab_bd hf
  refine ab_putF (pc' := 28) (ci := 2) (k := 2) dX2_init_25 rfl (by decide) ff_X2_18 rfl rfl rfl (tyX2_ok 2 (by decide)) rfl rfl eh6 rfl ?_
  refine ab_aload_n (pc' := 29) (q := 0) dX2_init_28 rfl rfl rfl ?_
  refine ab_bipush (pc' := 31) (v := 41) dX2_init_29 (by decide) rfl ?_
  obtain ⟨q7, eq7, hf⟩ := ab_bd hf
  refine ab_newIF (pc' := 33) (N := 41) (ce' := 4) (sl' := 163) dX2_init_31 (by decide) (by decide) (Nat.le_of_ble_eq_true rfl) rfl rfl (Nat.le_of_ble_eq_true rfl) (Nat.le_of_ble_eq_true rfl) eq7 rfl ?_
  obtain ⟨h8, eh8, hf⟩ := ab_bd hf
  refine ab_putF (pc' := 36) (ci := 2) (k := 3) dX2_init_33 rfl (by decide) ff_X2_21 rfl rfl rfl (tyX2_ok 3 (by decide)) rfl rfl eh8 rfl ?_
  have hf := Option.some.inj hf
  subst hf
  exact ab_vret rfl dX2_init_36 hK
-- DiskRests.<init>()V (mode W, depth 3)
def fX6_init (h : ab_H) (a0 : Nat) : Option ab_H := (ab_nO h 5 dfX5).bind (fun q1 => (fX5_init q1.2 q1.1).bind (fun h2 => (ab_pV h2 a0 6 0 (.ref q1.1)).bind (fun h3 => (ab_nR h3 2 2).bind (fun q4 => (ab_pV q4.2 a0 6 1 (.ref q4.1)).bind (fun h5 => (ab_nZ h5 2).bind (fun q6 => (ab_pV q6.2 a0 6 2 (.ref q6.1)).bind (fun h7 => (ab_nO h7 4 dfX4).bind (fun q8 => (fX4_init q8.2 q8.1).bind (fun h9 => (ab_pV h9 a0 6 3 (.ref q8.1)).bind (fun h10 => (ab_nO h10 2 dfX2).bind (fun q11 => (fX2_init q11.2 q11.1).bind (fun h12 => (ab_pV h12 a0 6 4 (.ref q11.1)).bind (fun h13 => (ab_gR h13 a0 6 1).bind (fun r15 => (ab_nO h13 5 dfX5).bind (fun q16 => (fX5_init q16.2 q16.1).bind (fun h17 => (ab_sR h17 r15 0 q16.1).bind (fun h18 => (ab_gR h18 a0 6 1).bind (fun r20 => (ab_nO h18 5 dfX5).bind (fun q21 => (fX5_init q21.2 q21.1).bind (fun h22 => (ab_sR h22 r20 1 q21.1).bind (fun h23 => some h23)))))))))))))))))))))
set_option maxRecDepth 20000 in
set_option maxHeartbeats 1000000 in
theorem kX6_init {l : Launch} {g : ab_G} {K : ab_K} {h : ab_H} {a0 : Nat} {r : ab_H} (hf : fX6_init h a0 = some r) (hK : K none r) : ab_S l g mX6_init 3 74 1025 [.ref a0] h K := by
  unfold fX6_init at hf
  refine ab_enter (ls := [(0, .ref a0)]) (by decide +kernel) rfl (Nat.le_of_ble_eq_true rfl) rfl ?_
  refine ab_aload_n (pc' := 1) (q := 0) dX6_init_0 rfl rfl rfl ?_
  refine ab_objF (pc' := 4) dX6_init_1 mk_X6_1 (by decide) rfl ?_
  refine ab_aload_n (pc' := 5) (q := 0) dX6_init_4 rfl rfl rfl ?_
  obtain ⟨q1, eq1, hf⟩ := ab_bd hf
  refine ab_newF (pc' := 8) (ci := 5) (ce' := 1) (sl' := 4) tyX5 tyX5_ok dX6_init_5 rfl cl_X6_7 it_X5 in_X5 (dfX5_ok _) rfl rfl (Nat.le_of_ble_eq_true rfl) (Nat.le_of_ble_eq_true rfl) eq1 rfl ?_
  refine ab_dup_ref (pc' := 9) dX6_init_8 rfl ?_
  obtain ⟨h2, eh2, hf⟩ := ab_bd hf
  refine ab_callI (pc' := 12) (Mc := mX5_init) (as := []) (st := [.ref q1.1, .ref a0]) dX6_init_9 ml_X6_9 okX5_init rfl rfl im_X5_init rfl (by decide) (Nat.le_of_ble_eq_true rfl) (Nat.le_of_ble_eq_true rfl) (Nat.le_of_ble_eq_true rfl) rfl rfl (kX5_init eh2 ?_)
  show ab_Ev l g mX6_init 3 74 1025 12 [(0, .ref a0)] [.ref q1.1, .ref a0] h2 18 184 K
  obtain ⟨h3, eh3, hf⟩ := ab_bd hf
  refine ab_putF (pc' := 15) (ci := 6) (k := 0) dX6_init_12 rfl (by decide) ff_X6_10 rfl rfl rfl (tyX6_ok 0 (by decide)) rfl rfl eh3 rfl ?_
  refine ab_aload_n (pc' := 16) (q := 0) dX6_init_15 rfl rfl rfl ?_
  refine ab_iconst (pc' := 17) (v := 2) dX6_init_16 (by decide) rfl ?_
  obtain ⟨q4, eq4, hf⟩ := ab_bd hf
  refine ab_newRF (pc' := 20) (N := 2) (t := 2) (ce' := 19) (sl' := 186) dX6_init_17 (by decide) (by decide) rfl rfl cl_X6_7 ao_X5 (by decide) (by decide) (Nat.le_of_ble_eq_true rfl) rfl rfl (Nat.le_of_ble_eq_true rfl) (Nat.le_of_ble_eq_true rfl) eq4 rfl ?_
  obtain ⟨h5, eh5, hf⟩ := ab_bd hf
  refine ab_putF (pc' := 23) (ci := 6) (k := 1) dX6_init_20 rfl (by decide) ff_X6_16 rfl rfl rfl (tyX6_ok 1 (by decide)) rfl rfl eh5 rfl ?_
  refine ab_aload_n (pc' := 24) (q := 0) dX6_init_23 rfl rfl rfl ?_
  refine ab_iconst (pc' := 25) (v := 2) dX6_init_24 (by decide) rfl ?_
  obtain ⟨q6, eq6, hf⟩ := ab_bd hf
  refine ab_newZF (pc' := 27) (N := 2) (ce' := 20) (sl' := 188) dX6_init_25 (by decide) (by decide) (Nat.le_of_ble_eq_true rfl) rfl rfl (Nat.le_of_ble_eq_true rfl) (Nat.le_of_ble_eq_true rfl) eq6 rfl ?_
  obtain ⟨h7, eh7, hf⟩ := ab_bd hf
  refine ab_putF (pc' := 30) (ci := 6) (k := 2) dX6_init_27 rfl (by decide) ff_X6_20 rfl rfl rfl (tyX6_ok 2 (by decide)) rfl rfl eh7 rfl ?_
  refine ab_aload_n (pc' := 31) (q := 0) dX6_init_30 rfl rfl rfl ?_
  obtain ⟨q8, eq8, hf⟩ := ab_bd hf
  refine ab_newF (pc' := 34) (ci := 4) (ce' := 21) (sl' := 197) tyX4 tyX4_ok dX6_init_31 rfl cl_X6_24 it_X4 in_X4 (dfX4_ok _) rfl rfl (Nat.le_of_ble_eq_true rfl) (Nat.le_of_ble_eq_true rfl) eq8 rfl ?_
  refine ab_dup_ref (pc' := 35) dX6_init_34 rfl ?_
  obtain ⟨h9, eh9, hf⟩ := ab_bd hf
  refine ab_callI (pc' := 38) (Mc := mX4_init) (as := []) (st := [.ref q8.1, .ref a0]) dX6_init_35 ml_X6_26 okX4_init rfl rfl im_X4_init rfl (by decide) (Nat.le_of_ble_eq_true rfl) (Nat.le_of_ble_eq_true rfl) (Nat.le_of_ble_eq_true rfl) rfl rfl (kX4_init eh9 ?_)
  show ab_Ev l g mX6_init 3 74 1025 38 [(0, .ref a0)] [.ref q8.1, .ref a0] h9 33 489 K
  obtain ⟨h10, eh10, hf⟩ := ab_bd hf
  refine ab_putF (pc' := 41) (ci := 6) (k := 3) dX6_init_38 rfl (by decide) ff_X6_27 rfl rfl rfl (tyX6_ok 3 (by decide)) rfl rfl eh10 rfl ?_
  refine ab_aload_n (pc' := 42) (q := 0) dX6_init_41 rfl rfl rfl ?_
  obtain ⟨q11, eq11, hf⟩ := ab_bd hf
  refine ab_newF (pc' := 45) (ci := 2) (ce' := 34) (sl' := 494) tyX2 tyX2_ok dX6_init_42 rfl cl_X6_31 it_X2 in_X2 (dfX2_ok _) rfl rfl (Nat.le_of_ble_eq_true rfl) (Nat.le_of_ble_eq_true rfl) eq11 rfl ?_
  refine ab_dup_ref (pc' := 46) dX6_init_45 rfl ?_
  obtain ⟨h12, eh12, hf⟩ := ab_bd hf
  refine ab_callI (pc' := 49) (Mc := mX2_init) (as := []) (st := [.ref q11.1, .ref a0]) dX6_init_46 ml_X6_33 okX2_init rfl rfl im_X2_init rfl (by decide) (Nat.le_of_ble_eq_true rfl) (Nat.le_of_ble_eq_true rfl) (Nat.le_of_ble_eq_true rfl) rfl rfl (kX2_init eh12 ?_)
  show ab_Ev l g mX6_init 3 74 1025 49 [(0, .ref a0)] [.ref q11.1, .ref a0] h12 38 657 K
  obtain ⟨h13, eh13, hf⟩ := ab_bd hf
  refine ab_putF (pc' := 52) (ci := 6) (k := 4) dX6_init_49 rfl (by decide) ff_X6_34 rfl rfl rfl (tyX6_ok 4 (by decide)) rfl rfl eh13 rfl ?_
  refine ab_iconst (pc' := 53) (v := 0) dX6_init_52 (by decide) rfl ?_
  refine ab_istore_n (pc' := 54) (ls' := [(1, .int 0), (0, .ref a0)]) dX6_init_53 rfl (by decide) rfl rfl ?_
  refine ab_iload_n (pc' := 55) (q := 0) dX6_init_54 rfl rfl rfl ?_
  refine ab_iconst (pc' := 56) (v := 2) dX6_init_55 (by decide) rfl ?_
  refine ab_icmp_ge (pc' := 59) (tgt := 78) dX6_init_56 (by decide) rfl (fun c14 => absurd c14 (by decide)) (fun _ => ?_)
  refine ab_aload_n (pc' := 60) (q := 1) dX6_init_59 rfl rfl rfl ?_
  obtain ⟨r15, er15, hf⟩ := ab_bd hf
  refine ab_getR (pc' := 63) (ci := 6) (k := 1) dX6_init_60 rfl (by decide) fl_X6_16 er15 rfl ?_
  refine ab_iload_n (pc' := 64) (q := 0) dX6_init_63 rfl rfl rfl ?_
  obtain ⟨q16, eq16, hf⟩ := ab_bd hf
  refine ab_newF (pc' := 67) (ci := 5) (ce' := 39) (sl' := 661) tyX5 tyX5_ok dX6_init_64 rfl cl_X6_7 it_X5 in_X5 (dfX5_ok _) rfl rfl (Nat.le_of_ble_eq_true rfl) (Nat.le_of_ble_eq_true rfl) eq16 rfl ?_
  refine ab_dup_ref (pc' := 68) dX6_init_67 rfl ?_
  obtain ⟨h17, eh17, hf⟩ := ab_bd hf
  refine ab_callI (pc' := 71) (Mc := mX5_init) (as := []) (st := [.ref q16.1, .int 0, .ref r15]) dX6_init_68 ml_X6_9 okX5_init rfl rfl im_X5_init rfl (by decide) (Nat.le_of_ble_eq_true rfl) (Nat.le_of_ble_eq_true rfl) (Nat.le_of_ble_eq_true rfl) rfl rfl (kX5_init eh17 ?_)
  show ab_Ev l g mX6_init 3 74 1025 71 [(1, .int 0), (0, .ref a0)] [.ref q16.1, .int 0, .ref r15] h17 56 841 K
  obtain ⟨h18, eh18, hf⟩ := ab_bd hf
  refine ab_aast (pc' := 72) dX6_init_71 eh18 rfl ?_
  refine ab_iinc (pc' := 75) (q := 0) (v := 1) (ls' := [(1, .int 1), (0, .ref a0)]) dX6_init_72 rfl (by decide) (by decide) rfl rfl ?_
  refine ab_goto (tgt := 54) dX6_init_75 (by decide) ?_
  refine ab_iload_n (pc' := 55) (q := 0) dX6_init_54 rfl rfl rfl ?_
  refine ab_iconst (pc' := 56) (v := 2) dX6_init_55 (by decide) rfl ?_
  refine ab_icmp_ge (pc' := 59) (tgt := 78) dX6_init_56 (by decide) rfl (fun c19 => absurd c19 (by decide)) (fun _ => ?_)
  refine ab_aload_n (pc' := 60) (q := 1) dX6_init_59 rfl rfl rfl ?_
  obtain ⟨r20, er20, hf⟩ := ab_bd hf
  refine ab_getR (pc' := 63) (ci := 6) (k := 1) dX6_init_60 rfl (by decide) fl_X6_16 er20 rfl ?_
  refine ab_iload_n (pc' := 64) (q := 0) dX6_init_63 rfl rfl rfl ?_
  obtain ⟨q21, eq21, hf⟩ := ab_bd hf
  refine ab_newF (pc' := 67) (ci := 5) (ce' := 57) (sl' := 845) tyX5 tyX5_ok dX6_init_64 rfl cl_X6_7 it_X5 in_X5 (dfX5_ok _) rfl rfl (Nat.le_of_ble_eq_true rfl) (Nat.le_of_ble_eq_true rfl) eq21 rfl ?_
  refine ab_dup_ref (pc' := 68) dX6_init_67 rfl ?_
  obtain ⟨h22, eh22, hf⟩ := ab_bd hf
  refine ab_callI (pc' := 71) (Mc := mX5_init) (as := []) (st := [.ref q21.1, .int 1, .ref r20]) dX6_init_68 ml_X6_9 okX5_init rfl rfl im_X5_init rfl (by decide) (Nat.le_of_ble_eq_true rfl) (Nat.le_of_ble_eq_true rfl) (Nat.le_of_ble_eq_true rfl) rfl rfl (kX5_init eh22 ?_)
  show ab_Ev l g mX6_init 3 74 1025 71 [(1, .int 1), (0, .ref a0)] [.ref q21.1, .int 1, .ref r20] h22 74 1025 K
  obtain ⟨h23, eh23, hf⟩ := ab_bd hf
  refine ab_aast (pc' := 72) dX6_init_71 eh23 rfl ?_
  refine ab_iinc (pc' := 75) (q := 0) (v := 2) (ls' := [(1, .int 2), (0, .ref a0)]) dX6_init_72 rfl (by decide) (by decide) rfl rfl ?_
  refine ab_goto (tgt := 54) dX6_init_75 (by decide) ?_
  refine ab_iload_n (pc' := 55) (q := 0) dX6_init_54 rfl rfl rfl ?_
  refine ab_iconst (pc' := 56) (v := 2) dX6_init_55 (by decide) rfl ?_
  refine ab_icmp_ge (pc' := 59) (tgt := 78) dX6_init_56 (by decide) rfl (fun _ => ?_) (fun c24 => absurd (by decide) c24)
  have hf := Option.some.inj hf
  subst hf
  exact ab_vret rfl dX6_init_78 hK
-- DiskRests.within(III)Z (mode N, depth 0)
def bX6_within_14  : Option Int32 := some 0
set_option maxRecDepth 20000 in
set_option maxHeartbeats 1000000 in
theorem kbX6_within_14 {l : Launch} {g : ab_G} {K : ab_K} {h : ab_H}  {r : Int32} (hf : bX6_within_14  = some r) (hK : K (some (.int r)) h) : ab_Ev l g mX6_within 0 0 0 14 [] [] h 0 0 K := by
  unfold bX6_within_14 at hf
  refine ab_iconst (pc' := 15) (v := 0) dX6_within_14 (by decide) rfl ?_
  have hf := Option.some.inj hf
  subst hf
  exact ab_zret rfl rfl dX6_within_15 hK
def fX6_within (a0 : Int32) (a1 : Int32) (a2 : Int32) : Option Int32 := if (a0 : Int32) < a1 then bX6_within_14  else if a2 < (a0 : Int32) then bX6_within_14  else some 1
set_option maxRecDepth 20000 in
set_option maxHeartbeats 1000000 in
theorem kX6_within {l : Launch} {g : ab_G} {K : ab_K} {h : ab_H} {a0 : Int32} {a1 : Int32} {a2 : Int32} {r : Int32} (hf : fX6_within a0 a1 a2 = some r) (hK : K (some (.int r)) h) : ab_S l g mX6_within 0 0 0 [.int a0, .int a1, .int a2] h K := by
  unfold fX6_within at hf
  refine ab_enter (ls := [(0, .int a0), (1, .int a1), (2, .int a2)]) (by decide +kernel) rfl (Nat.le_of_ble_eq_true rfl) rfl ?_
  refine ab_iload_n (pc' := 1) (q := 0) dX6_within_0 rfl rfl rfl ?_
  refine ab_iload_n (pc' := 2) (q := 1) dX6_within_1 rfl rfl rfl ?_
  refine ab_icmp_lt (pc' := 5) (tgt := 14) dX6_within_2 (by decide) rfl (fun c1 => ?_) (fun c1 => ?_)
  · have hf := ab_ip c1 hf
    refine ab_drop (ls' := []) [] rfl ?_
    exact kbX6_within_14 hf hK
  · have hf := ab_iN c1 hf
    refine ab_iload_n (pc' := 6) (q := 0) dX6_within_5 rfl rfl rfl ?_
    refine ab_iload_n (pc' := 7) (q := 2) dX6_within_6 rfl rfl rfl ?_
    refine ab_icmp_gt (pc' := 10) (tgt := 14) dX6_within_7 (by decide) rfl (fun c2 => ?_) (fun c2 => ?_)
    · have hf := ab_ip c2 hf
      refine ab_drop (ls' := []) [] rfl ?_
      exact kbX6_within_14 hf hK
    · have hf := ab_iN c2 hf
      refine ab_iconst (pc' := 11) (v := 1) dX6_within_10 (by decide) rfl ?_
      refine ab_goto (tgt := 15) dX6_within_11 (by decide) ?_
      have hf := Option.some.inj hf
      subst hf
      exact ab_zret rfl rfl dX6_within_15 hK
-- DiskRests.isDisk(I)Z (mode N, depth 1)
def fX6_isDisk (a0 : Int32) : Option Int32 := (fX6_within a0 0 3).bind (fun x1 => if (x1 : Int32) &&& 1 = x1 then some x1 else none)
set_option maxRecDepth 20000 in
set_option maxHeartbeats 1000000 in
theorem kX6_isDisk {l : Launch} {g : ab_G} {K : ab_K} {h : ab_H} {a0 : Int32} {r : Int32} (hf : fX6_isDisk a0 = some r) (hK : K (some (.int r)) h) : ab_S l g mX6_isDisk 1 0 0 [.int a0] h K := by
  unfold fX6_isDisk at hf
  refine ab_enter (ls := [(0, .int a0)]) (by decide +kernel) rfl (Nat.le_of_ble_eq_true rfl) rfl ?_
  refine ab_iload_n (pc' := 1) (q := 0) dX6_isDisk_0 rfl rfl rfl ?_
  refine ab_iconst (pc' := 2) (v := 0) dX6_isDisk_1 (by decide) rfl ?_
  refine ab_iconst (pc' := 3) (v := 3) dX6_isDisk_2 (by decide) rfl ?_
  obtain ⟨x1, ex1, hf⟩ := ab_bd hf
  refine ab_callS (pc' := 6) (Mc := mX6_within) (as := [.int a0, .int 0, .int 3]) (st := []) dX6_isDisk_3 ml_X6_42 okX6_within ss_X6_within rfl (by decide) (Nat.le_of_ble_eq_true rfl) (Nat.le_of_ble_eq_true rfl) (Nat.le_of_ble_eq_true rfl) rfl rfl (kX6_within ex1 ?_)
  show ab_Ev l g mX6_isDisk 1 0 0 6 [(0, .int a0)] [.int x1] h 0 0 K
  obtain ⟨n2, hf⟩ := ab_bg hf
  have hf := Option.some.inj hf
  subst hf
  exact ab_zretG rfl n2 dX6_isDisk_6 hK
-- DiskRests$Run.makeStale()V (mode W, depth 0)
def fX4_makeStale (h : ab_H) (a0 : Nat) : Option ab_H := (ab_pV h a0 4 8 (.int 1)).bind (fun h1 => some h1)
set_option maxRecDepth 20000 in
set_option maxHeartbeats 1000000 in
theorem kX4_makeStale {l : Launch} {g : ab_G} {K : ab_K} {h : ab_H} {a0 : Nat} {r : ab_H} (hf : fX4_makeStale h a0 = some r) (hK : K none r) : ab_S l g mX4_makeStale 0 0 0 [.ref a0] h K := by
  unfold fX4_makeStale at hf
  refine ab_enter (ls := [(0, .ref a0)]) (by decide +kernel) rfl (Nat.le_of_ble_eq_true rfl) rfl ?_
  refine ab_aload_n (pc' := 1) (q := 0) dX4_makeStale_0 rfl rfl rfl ?_
  refine ab_iconst (pc' := 2) (v := 1) dX4_makeStale_1 (by decide) rfl ?_
  obtain ⟨h1, eh1, hf⟩ := ab_bd hf
  refine ab_put (pc' := 5) (ci := 4) (k := 8) dX4_makeStale_2 rfl (by decide) fl_X4_27 rfl (tyX4_ok 8 (by decide)) rfl rfl eh1 rfl ?_
  have hf := Option.some.inj hf
  subst hf
  exact ab_vret rfl dX4_makeStale_5 hK
-- DiskRests.power(II)I (mode W, depth 2)
def fX6_power (h : ab_H) (a0 : Nat) (a1 : Int32) (a2 : Int32) : Option (Int32 × ab_H) := (fX6_isDisk a1).bind (fun x1 => if (x1 : Int32) = 0 then some ((-1), h) else (fX6_within a2 1 100).bind (fun x3 => if (x3 : Int32) = 0 then some ((-2), h) else (ab_gR h a0 6 0).bind (fun r5 => (ab_gR h r5 5 0).bind (fun r6 => (ab_aR h r6 a1).bind (fun r7 => (ab_gR h r7 1 0).bind (fun r8 => (ab_aI h r8 0).bind (fun x9 => (ab_gR h r7 1 0).bind (fun r10 => (ab_sI h r10 0 a2).bind (fun h11 => (ab_pV h11 r7 1 2 (.int 0)).bind (fun h12 => (ab_gR h12 a0 6 3).bind (fun r13 => (ab_ob h12 r13 4).bind (fun u14 => (fX4_makeStale h12 r13).bind (fun h15 => some (x9, h15))))))))))))))
set_option maxRecDepth 20000 in
set_option maxHeartbeats 1000000 in
theorem kX6_power {l : Launch} {g : ab_G} {K : ab_K} {h : ab_H} {a0 : Nat} {a1 : Int32} {a2 : Int32} {r : (Int32 × ab_H)} (hf : fX6_power h a0 a1 a2 = some r) (hK : K (some (.int r.1)) r.2) : ab_S l g mX6_power 2 0 0 [.ref a0, .int a1, .int a2] h K := by
  unfold fX6_power at hf
  refine ab_enter (ls := [(0, .ref a0), (1, .int a1), (2, .int a2)]) (by decide +kernel) rfl (Nat.le_of_ble_eq_true rfl) rfl ?_
  refine ab_iload_n (pc' := 1) (q := 1) dX6_power_0 rfl rfl rfl ?_
  obtain ⟨x1, ex1, hf⟩ := ab_bd hf
  refine ab_callS (pc' := 4) (Mc := mX6_isDisk) (as := [.int a1]) (st := []) dX6_power_1 ml_X6_38 okX6_isDisk ss_X6_isDisk rfl (by decide) (Nat.le_of_ble_eq_true rfl) (Nat.le_of_ble_eq_true rfl) (Nat.le_of_ble_eq_true rfl) rfl rfl (kX6_isDisk ex1 ?_)
  show ab_Ev l g mX6_power 2 0 0 4 [(0, .ref a0), (1, .int a1), (2, .int a2)] [.int x1] h 0 0 K
  refine ab_if_ne (pc' := 7) (tgt := 9) dX6_power_4 (by decide) rfl (fun c2 => ?_) (fun c2 => ?_)
  · have hf := ab_iN c2 hf
    refine ab_iload_n (pc' := 10) (q := 2) dX6_power_9 rfl rfl rfl ?_
    refine ab_iconst (pc' := 11) (v := 1) dX6_power_10 (by decide) rfl ?_
    refine ab_bipush (pc' := 13) (v := 100) dX6_power_11 (by decide) rfl ?_
    obtain ⟨x3, ex3, hf⟩ := ab_bd hf
    refine ab_callS (pc' := 16) (Mc := mX6_within) (as := [.int a2, .int 1, .int 100]) (st := []) dX6_power_13 ml_X6_42 okX6_within ss_X6_within rfl (by decide) (Nat.le_of_ble_eq_true rfl) (Nat.le_of_ble_eq_true rfl) (Nat.le_of_ble_eq_true rfl) rfl rfl (kX6_within ex3 ?_)
    show ab_Ev l g mX6_power 2 0 0 16 [(0, .ref a0), (1, .int a1), (2, .int a2)] [.int x3] h 0 0 K
    refine ab_if_ne (pc' := 19) (tgt := 22) dX6_power_16 (by decide) rfl (fun c4 => ?_) (fun c4 => ?_)
    · have hf := ab_iN c4 hf
      refine ab_aload_n (pc' := 23) (q := 0) dX6_power_22 rfl rfl rfl ?_
      obtain ⟨r5, er5, hf⟩ := ab_bd hf
      refine ab_getR (pc' := 26) (ci := 6) (k := 0) dX6_power_23 rfl (by decide) fl_X6_10 er5 rfl ?_
      obtain ⟨r6, er6, hf⟩ := ab_bd hf
      refine ab_getR (pc' := 29) (ci := 5) (k := 0) dX6_power_26 rfl (by decide) fl_X6_46 er6 rfl ?_
      refine ab_iload_n (pc' := 30) (q := 1) dX6_power_29 rfl rfl rfl ?_
      obtain ⟨r7, er7, hf⟩ := ab_bd hf
      refine ab_aald (pc' := 31) dX6_power_30 er7 rfl ?_
      refine ab_astore_n (pc' := 32) (ls' := [(3, .ref r7), (0, .ref a0), (1, .int a1), (2, .int a2)]) dX6_power_31 rfl (by decide) rfl rfl ?_
      refine ab_aload_n (pc' := 33) (q := 0) dX6_power_32 rfl rfl rfl ?_
      obtain ⟨r8, er8, hf⟩ := ab_bd hf
      refine ab_getR (pc' := 36) (ci := 1) (k := 0) dX6_power_33 rfl (by decide) fl_X6_50 er8 rfl ?_
      refine ab_iconst (pc' := 37) (v := 0) dX6_power_36 (by decide) rfl ?_
      obtain ⟨x9, ex9, hf⟩ := ab_bd hf
      refine ab_iald (pc' := 38) dX6_power_37 ex9 rfl ?_
      refine ab_istore (pc' := 40) (ls' := [(4, .int x9), (3, .ref r7), (0, .ref a0), (1, .int a1), (2, .int a2)]) dX6_power_38 (by decide) rfl rfl ?_
      refine ab_aload_n (pc' := 41) (q := 1) dX6_power_40 rfl rfl rfl ?_
      obtain ⟨r10, er10, hf⟩ := ab_bd hf
      refine ab_getR (pc' := 44) (ci := 1) (k := 0) dX6_power_41 rfl (by decide) fl_X6_50 er10 rfl ?_
      refine ab_iconst (pc' := 45) (v := 0) dX6_power_44 (by decide) rfl ?_
      refine ab_iload_n (pc' := 46) (q := 4) dX6_power_45 rfl rfl rfl ?_
      obtain ⟨h11, eh11, hf⟩ := ab_bd hf
      refine ab_iast (pc' := 47) dX6_power_46 eh11 rfl ?_
      refine ab_aload_n (pc' := 48) (q := 1) dX6_power_47 rfl rfl rfl ?_
      refine ab_iconst (pc' := 49) (v := 0) dX6_power_48 (by decide) rfl ?_
      obtain ⟨h12, eh12, hf⟩ := ab_bd hf
      refine ab_put (pc' := 52) (ci := 1) (k := 2) dX6_power_49 rfl (by decide) fl_X6_56 rfl (tyX1_ok 2 (by decide)) rfl rfl eh12 rfl ?_
      refine ab_aload_n (pc' := 53) (q := 2) dX6_power_52 rfl rfl rfl ?_
      obtain ⟨r13, er13, hf⟩ := ab_bd hf
      refine ab_getR (pc' := 56) (ci := 6) (k := 3) dX6_power_53 rfl (by decide) fl_X6_27 er13 rfl ?_
      obtain ⟨u14, eu14, hf⟩ := ab_bd hf
      obtain ⟨h15, eh15, hf⟩ := ab_bd hf
      refine ab_callV (pc' := 59) (Mc := mX4_makeStale) (as := []) (st := []) dX6_power_56 ml_X6_60 okX4_makeStale im_X4_makeStale se_X4_makeStale rfl eu14 rfl (by decide) (Nat.le_of_ble_eq_true rfl) (Nat.le_of_ble_eq_true rfl) (Nat.le_of_ble_eq_true rfl) rfl rfl (kX4_makeStale eh15 ?_)
      show ab_Ev l g mX6_power 2 0 0 59 [(4, .int x9), (3, .ref r7), (0, .ref a0), (1, .int a1), (2, .int a2)] [] h15 0 0 K
      refine ab_iload (pc' := 61) (q := 0) dX6_power_59 rfl rfl ?_
      have hf := Option.some.inj hf
      subst hf
      exact ab_iret rfl dX6_power_61 hK
    · have hf := ab_ip c4 hf
      refine ab_bipush (pc' := 21) (v := (-2)) dX6_power_19 (by decide) rfl ?_
      have hf := Option.some.inj hf
      subst hf
      exact ab_iret rfl dX6_power_21 hK
  · have hf := ab_ip c2 hf
    refine ab_iconst (pc' := 8) (v := (-1)) dX6_power_7 (by decide) rfl ?_
    have hf := Option.some.inj hf
    subst hf
    exact ab_iret rfl dX6_power_8 hK
-- DiskRests$Disk.addLevel(II)V (mode W, depth 0)
def fX1_addLevel (h : ab_H) (a0 : Nat) (a1 : Int32) (a2 : Int32) : Option ab_H := (ab_gI h a0 1 2).bind (fun x1 => (ab_pV h a0 1 2 (.int (x1 + 1))).bind (fun h2 => (ab_gR h2 a0 1 0).bind (fun r3 => (ab_gI h2 a0 1 2).bind (fun x4 => (ab_sI h2 r3 x4 a1).bind (fun h5 => (ab_gR h5 a0 1 1).bind (fun r6 => (ab_gI h5 a0 1 2).bind (fun x7 => (ab_sI h5 r6 x7 a2).bind (fun h8 => some h8))))))))
set_option maxRecDepth 20000 in
set_option maxHeartbeats 1000000 in
theorem kX1_addLevel {l : Launch} {g : ab_G} {K : ab_K} {h : ab_H} {a0 : Nat} {a1 : Int32} {a2 : Int32} {r : ab_H} (hf : fX1_addLevel h a0 a1 a2 = some r) (hK : K none r) : ab_S l g mX1_addLevel 0 0 0 [.ref a0, .int a1, .int a2] h K := by
  unfold fX1_addLevel at hf
  refine ab_enter (ls := [(0, .ref a0), (1, .int a1), (2, .int a2)]) (by decide +kernel) rfl (Nat.le_of_ble_eq_true rfl) rfl ?_
  refine ab_aload_n (pc' := 1) (q := 0) dX1_addLevel_0 rfl rfl rfl ?_
  refine ab_dup_ref (pc' := 2) dX1_addLevel_1 rfl ?_
  obtain ⟨x1, ex1, hf⟩ := ab_bd hf
  refine ab_getI (pc' := 5) (ci := 1) (k := 2) dX1_addLevel_2 rfl (by decide) fl_X1_24 ex1 rfl ?_
  refine ab_iconst (pc' := 6) (v := 1) dX1_addLevel_5 (by decide) rfl ?_
  refine ab_iadd (pc' := 7) dX1_addLevel_6 rfl ?_
  obtain ⟨h2, eh2, hf⟩ := ab_bd hf
  refine ab_put (pc' := 10) (ci := 1) (k := 2) dX1_addLevel_7 rfl (by decide) fl_X1_24 rfl (tyX1_ok 2 (by decide)) rfl rfl eh2 rfl ?_
  refine ab_aload_n (pc' := 11) (q := 0) dX1_addLevel_10 rfl rfl rfl ?_
  obtain ⟨r3, er3, hf⟩ := ab_bd hf
  refine ab_getR (pc' := 14) (ci := 1) (k := 0) dX1_addLevel_11 rfl (by decide) fl_X1_9 er3 rfl ?_
  refine ab_aload_n (pc' := 15) (q := 0) dX1_addLevel_14 rfl rfl rfl ?_
  obtain ⟨x4, ex4, hf⟩ := ab_bd hf
  refine ab_getI (pc' := 18) (ci := 1) (k := 2) dX1_addLevel_15 rfl (by decide) fl_X1_24 ex4 rfl ?_
  refine ab_iload_n (pc' := 19) (q := 1) dX1_addLevel_18 rfl rfl rfl ?_
  obtain ⟨h5, eh5, hf⟩ := ab_bd hf
  refine ab_iast (pc' := 20) dX1_addLevel_19 eh5 rfl ?_
  refine ab_aload_n (pc' := 21) (q := 0) dX1_addLevel_20 rfl rfl rfl ?_
  obtain ⟨r6, er6, hf⟩ := ab_bd hf
  refine ab_getR (pc' := 24) (ci := 1) (k := 1) dX1_addLevel_21 rfl (by decide) fl_X1_15 er6 rfl ?_
  refine ab_aload_n (pc' := 25) (q := 0) dX1_addLevel_24 rfl rfl rfl ?_
  obtain ⟨x7, ex7, hf⟩ := ab_bd hf
  refine ab_getI (pc' := 28) (ci := 1) (k := 2) dX1_addLevel_25 rfl (by decide) fl_X1_24 ex7 rfl ?_
  refine ab_iload_n (pc' := 29) (q := 2) dX1_addLevel_28 rfl rfl rfl ?_
  obtain ⟨h8, eh8, hf⟩ := ab_bd hf
  refine ab_iast (pc' := 30) dX1_addLevel_29 eh8 rfl ?_
  have hf := Option.some.inj hf
  subst hf
  exact ab_vret rfl dX1_addLevel_30 hK
-- DiskRests.deeper(III)I (mode W, depth 2)
def bX6_deeper_30  (h : ab_H) : Option (Int32 × ab_H) := some ((-2), h)
set_option maxRecDepth 20000 in
set_option maxHeartbeats 1000000 in
theorem kbX6_deeper_30 {l : Launch} {g : ab_G} {K : ab_K} {h : ab_H}  {r : (Int32 × ab_H)} (hf : bX6_deeper_30 h = some r) (hK : K (some (.int r.1)) r.2) : ab_Ev l g mX6_deeper 2 0 0 30 [] [] h 0 0 K := by
  unfold bX6_deeper_30 at hf
  refine ab_bipush (pc' := 32) (v := (-2)) dX6_deeper_30 (by decide) rfl ?_
  have hf := Option.some.inj hf
  subst hf
  exact ab_iret rfl dX6_deeper_32 hK
def bX6_deeper_74  (h : ab_H) : Option (Int32 × ab_H) := some ((-5), h)
set_option maxRecDepth 20000 in
set_option maxHeartbeats 1000000 in
theorem kbX6_deeper_74 {l : Launch} {g : ab_G} {K : ab_K} {h : ab_H}  {r : (Int32 × ab_H)} (hf : bX6_deeper_74 h = some r) (hK : K (some (.int r.1)) r.2) : ab_Ev l g mX6_deeper 2 0 0 74 [] [] h 0 0 K := by
  unfold bX6_deeper_74 at hf
  refine ab_bipush (pc' := 76) (v := (-5)) dX6_deeper_74 (by decide) rfl ?_
  have hf := Option.some.inj hf
  subst hf
  exact ab_iret rfl dX6_deeper_76 hK
def fX6_deeper (h : ab_H) (a0 : Nat) (a1 : Int32) (a2 : Int32) (a3 : Int32) : Option (Int32 × ab_H) := (fX6_isDisk a1).bind (fun x1 => if (x1 : Int32) = 0 then some ((-1), h) else (fX6_within a2 0 99).bind (fun x3 => if (x3 : Int32) = 0 then bX6_deeper_30 h else (fX6_within a3 1 999).bind (fun x5 => if (x5 : Int32) = 0 then bX6_deeper_30 h else (ab_gR h a0 6 0).bind (fun r7 => (ab_gR h r7 5 0).bind (fun r8 => (ab_aR h r8 a1).bind (fun r9 => (ab_gR h r9 1 0).bind (fun r10 => (ab_gI h r9 1 2).bind (fun x11 => (ab_aI h r10 x11).bind (fun x12 => if x12 ≤ (a2 : Int32) then bX6_deeper_74 h else (ab_gR h r9 1 1).bind (fun r14 => (ab_gI h r9 1 2).bind (fun x15 => (ab_aI h r14 x15).bind (fun x16 => if x16 < (a3 : Int32) then (ab_gI h r9 1 2).bind (fun x18 => if (x18 : Int32) < 3 then (ab_ob h r9 1).bind (fun u20 => (fX1_addLevel h r9 a2 a3).bind (fun h21 => (ab_gR h21 a0 6 3).bind (fun r22 => (ab_ob h21 r22 4).bind (fun u23 => (fX4_makeStale h21 r22).bind (fun h24 => (ab_gI h24 r9 1 2).bind (fun x25 => some (x25, h24))))))) else some ((-4), h)) else bX6_deeper_74 h))))))))))))
set_option maxRecDepth 20000 in
set_option maxHeartbeats 1000000 in
theorem kX6_deeper {l : Launch} {g : ab_G} {K : ab_K} {h : ab_H} {a0 : Nat} {a1 : Int32} {a2 : Int32} {a3 : Int32} {r : (Int32 × ab_H)} (hf : fX6_deeper h a0 a1 a2 a3 = some r) (hK : K (some (.int r.1)) r.2) : ab_S l g mX6_deeper 2 0 0 [.ref a0, .int a1, .int a2, .int a3] h K := by
  unfold fX6_deeper at hf
  refine ab_enter (ls := [(0, .ref a0), (1, .int a1), (2, .int a2), (3, .int a3)]) (by decide +kernel) rfl (Nat.le_of_ble_eq_true rfl) rfl ?_
  refine ab_iload_n (pc' := 1) (q := 1) dX6_deeper_0 rfl rfl rfl ?_
  obtain ⟨x1, ex1, hf⟩ := ab_bd hf
  refine ab_callS (pc' := 4) (Mc := mX6_isDisk) (as := [.int a1]) (st := []) dX6_deeper_1 ml_X6_38 okX6_isDisk ss_X6_isDisk rfl (by decide) (Nat.le_of_ble_eq_true rfl) (Nat.le_of_ble_eq_true rfl) (Nat.le_of_ble_eq_true rfl) rfl rfl (kX6_isDisk ex1 ?_)
  show ab_Ev l g mX6_deeper 2 0 0 4 [(0, .ref a0), (1, .int a1), (2, .int a2), (3, .int a3)] [.int x1] h 0 0 K
  refine ab_if_ne (pc' := 7) (tgt := 9) dX6_deeper_4 (by decide) rfl (fun c2 => ?_) (fun c2 => ?_)
  · have hf := ab_iN c2 hf
    refine ab_iload_n (pc' := 10) (q := 2) dX6_deeper_9 rfl rfl rfl ?_
    refine ab_iconst (pc' := 11) (v := 0) dX6_deeper_10 (by decide) rfl ?_
    refine ab_bipush (pc' := 13) (v := 99) dX6_deeper_11 (by decide) rfl ?_
    obtain ⟨x3, ex3, hf⟩ := ab_bd hf
    refine ab_callS (pc' := 16) (Mc := mX6_within) (as := [.int a2, .int 0, .int 99]) (st := []) dX6_deeper_13 ml_X6_42 okX6_within ss_X6_within rfl (by decide) (Nat.le_of_ble_eq_true rfl) (Nat.le_of_ble_eq_true rfl) (Nat.le_of_ble_eq_true rfl) rfl rfl (kX6_within ex3 ?_)
    show ab_Ev l g mX6_deeper 2 0 0 16 [(0, .ref a0), (1, .int a1), (2, .int a2), (3, .int a3)] [.int x3] h 0 0 K
    refine ab_if_eq (pc' := 19) (tgt := 30) dX6_deeper_16 (by decide) rfl (fun c4 => ?_) (fun c4 => ?_)
    · have hf := ab_ip c4 hf
      refine ab_drop (ls' := []) [] rfl ?_
      exact kbX6_deeper_30 hf hK
    · have hf := ab_iN c4 hf
      refine ab_iload_n (pc' := 20) (q := 3) dX6_deeper_19 rfl rfl rfl ?_
      refine ab_iconst (pc' := 21) (v := 1) dX6_deeper_20 (by decide) rfl ?_
      refine ab_sipush (pc' := 24) (v := 999) dX6_deeper_21 (by decide) rfl ?_
      obtain ⟨x5, ex5, hf⟩ := ab_bd hf
      refine ab_callS (pc' := 27) (Mc := mX6_within) (as := [.int a3, .int 1, .int 999]) (st := []) dX6_deeper_24 ml_X6_42 okX6_within ss_X6_within rfl (by decide) (Nat.le_of_ble_eq_true rfl) (Nat.le_of_ble_eq_true rfl) (Nat.le_of_ble_eq_true rfl) rfl rfl (kX6_within ex5 ?_)
      show ab_Ev l g mX6_deeper 2 0 0 27 [(0, .ref a0), (1, .int a1), (2, .int a2), (3, .int a3)] [.int x5] h 0 0 K
      refine ab_if_ne (pc' := 30) (tgt := 33) dX6_deeper_27 (by decide) rfl (fun c6 => ?_) (fun c6 => ?_)
      · have hf := ab_iN c6 hf
        refine ab_aload_n (pc' := 34) (q := 0) dX6_deeper_33 rfl rfl rfl ?_
        obtain ⟨r7, er7, hf⟩ := ab_bd hf
        refine ab_getR (pc' := 37) (ci := 6) (k := 0) dX6_deeper_34 rfl (by decide) fl_X6_10 er7 rfl ?_
        obtain ⟨r8, er8, hf⟩ := ab_bd hf
        refine ab_getR (pc' := 40) (ci := 5) (k := 0) dX6_deeper_37 rfl (by decide) fl_X6_46 er8 rfl ?_
        refine ab_iload_n (pc' := 41) (q := 1) dX6_deeper_40 rfl rfl rfl ?_
        obtain ⟨r9, er9, hf⟩ := ab_bd hf
        refine ab_aald (pc' := 42) dX6_deeper_41 er9 rfl ?_
        refine ab_astore (pc' := 44) (ls' := [(4, .ref r9), (0, .ref a0), (1, .int a1), (2, .int a2), (3, .int a3)]) dX6_deeper_42 (by decide) rfl rfl ?_
        refine ab_iload_n (pc' := 45) (q := 3) dX6_deeper_44 rfl rfl rfl ?_
        refine ab_aload (pc' := 47) (q := 0) dX6_deeper_45 rfl rfl ?_
        obtain ⟨r10, er10, hf⟩ := ab_bd hf
        refine ab_getR (pc' := 50) (ci := 1) (k := 0) dX6_deeper_47 rfl (by decide) fl_X6_50 er10 rfl ?_
        refine ab_aload (pc' := 52) (q := 0) dX6_deeper_50 rfl rfl ?_
        obtain ⟨x11, ex11, hf⟩ := ab_bd hf
        refine ab_getI (pc' := 55) (ci := 1) (k := 2) dX6_deeper_52 rfl (by decide) fl_X6_56 ex11 rfl ?_
        obtain ⟨x12, ex12, hf⟩ := ab_bd hf
        refine ab_iald (pc' := 56) dX6_deeper_55 ex12 rfl ?_
        refine ab_icmp_ge (pc' := 59) (tgt := 74) dX6_deeper_56 (by decide) rfl (fun c13 => ?_) (fun c13 => ?_)
        · have hf := ab_ip c13 hf
          refine ab_drop (ls' := []) [] rfl ?_
          exact kbX6_deeper_74 hf hK
        · have hf := ab_iN c13 hf
          refine ab_iload_n (pc' := 60) (q := 4) dX6_deeper_59 rfl rfl rfl ?_
          refine ab_aload (pc' := 62) (q := 0) dX6_deeper_60 rfl rfl ?_
          obtain ⟨r14, er14, hf⟩ := ab_bd hf
          refine ab_getR (pc' := 65) (ci := 1) (k := 1) dX6_deeper_62 rfl (by decide) fl_X6_63 er14 rfl ?_
          refine ab_aload (pc' := 67) (q := 0) dX6_deeper_65 rfl rfl ?_
          obtain ⟨x15, ex15, hf⟩ := ab_bd hf
          refine ab_getI (pc' := 70) (ci := 1) (k := 2) dX6_deeper_67 rfl (by decide) fl_X6_56 ex15 rfl ?_
          obtain ⟨x16, ex16, hf⟩ := ab_bd hf
          refine ab_iald (pc' := 71) dX6_deeper_70 ex16 rfl ?_
          refine ab_icmp_gt (pc' := 74) (tgt := 77) dX6_deeper_71 (by decide) rfl (fun c17 => ?_) (fun c17 => ?_)
          · have hf := ab_ip c17 hf
            refine ab_aload (pc' := 79) (q := 0) dX6_deeper_77 rfl rfl ?_
            obtain ⟨x18, ex18, hf⟩ := ab_bd hf
            refine ab_getI (pc' := 82) (ci := 1) (k := 2) dX6_deeper_79 rfl (by decide) fl_X6_56 ex18 rfl ?_
            refine ab_iconst (pc' := 83) (v := 3) dX6_deeper_82 (by decide) rfl ?_
            refine ab_icmp_lt (pc' := 86) (tgt := 89) dX6_deeper_83 (by decide) rfl (fun c19 => ?_) (fun c19 => ?_)
            · have hf := ab_ip c19 hf
              refine ab_aload (pc' := 91) (q := 0) dX6_deeper_89 rfl rfl ?_
              refine ab_iload_n (pc' := 92) (q := 3) dX6_deeper_91 rfl rfl rfl ?_
              refine ab_iload_n (pc' := 93) (q := 4) dX6_deeper_92 rfl rfl rfl ?_
              obtain ⟨u20, eu20, hf⟩ := ab_bd hf
              obtain ⟨h21, eh21, hf⟩ := ab_bd hf
              refine ab_callV (pc' := 96) (Mc := mX1_addLevel) (as := [.int a2, .int a3]) (st := []) dX6_deeper_93 ml_X6_66 okX1_addLevel im_X1_addLevel se_X1_addLevel rfl eu20 rfl (by decide) (Nat.le_of_ble_eq_true rfl) (Nat.le_of_ble_eq_true rfl) (Nat.le_of_ble_eq_true rfl) rfl rfl (kX1_addLevel eh21 ?_)
              show ab_Ev l g mX6_deeper 2 0 0 96 [(4, .ref r9), (0, .ref a0), (1, .int a1), (2, .int a2), (3, .int a3)] [] h21 0 0 K
              refine ab_aload_n (pc' := 97) (q := 1) dX6_deeper_96 rfl rfl rfl ?_
              obtain ⟨r22, er22, hf⟩ := ab_bd hf
              refine ab_getR (pc' := 100) (ci := 6) (k := 3) dX6_deeper_97 rfl (by decide) fl_X6_27 er22 rfl ?_
              obtain ⟨u23, eu23, hf⟩ := ab_bd hf
              obtain ⟨h24, eh24, hf⟩ := ab_bd hf
              refine ab_callV (pc' := 103) (Mc := mX4_makeStale) (as := []) (st := []) dX6_deeper_100 ml_X6_60 okX4_makeStale im_X4_makeStale se_X4_makeStale rfl eu23 rfl (by decide) (Nat.le_of_ble_eq_true rfl) (Nat.le_of_ble_eq_true rfl) (Nat.le_of_ble_eq_true rfl) rfl rfl (kX4_makeStale eh24 ?_)
              show ab_Ev l g mX6_deeper 2 0 0 103 [(4, .ref r9), (0, .ref a0), (1, .int a1), (2, .int a2), (3, .int a3)] [] h24 0 0 K
              refine ab_aload (pc' := 105) (q := 0) dX6_deeper_103 rfl rfl ?_
              obtain ⟨x25, ex25, hf⟩ := ab_bd hf
              refine ab_getI (pc' := 108) (ci := 1) (k := 2) dX6_deeper_105 rfl (by decide) fl_X6_56 ex25 rfl ?_
              have hf := Option.some.inj hf
              subst hf
              exact ab_iret rfl dX6_deeper_108 hK
            · have hf := ab_iN c19 hf
              refine ab_bipush (pc' := 88) (v := (-4)) dX6_deeper_86 (by decide) rfl ?_
              have hf := Option.some.inj hf
              subst hf
              exact ab_iret rfl dX6_deeper_88 hK
          · have hf := ab_iN c17 hf
            refine ab_drop (ls' := []) [] rfl ?_
            exact kbX6_deeper_74 hf hK
      · have hf := ab_ip c6 hf
        refine ab_drop (ls' := []) [] rfl ?_
        exact kbX6_deeper_30 hf hK
  · have hf := ab_ip c2 hf
    refine ab_iconst (pc' := 8) (v := (-1)) dX6_deeper_7 (by decide) rfl ?_
    have hf := Option.some.inj hf
    subst hf
    exact ab_iret rfl dX6_deeper_8 hK
-- DiskRests$Disk.hasLevel(I)Z (mode R, depth 1)
def fX1_hasLevel (h : ab_H) (a0 : Nat) (a1 : Int32) : Option Int32 := (ab_gI h a0 1 2).bind (fun x1 => (fX6_within a1 0 x1).bind (fun x2 => if (x2 : Int32) &&& 1 = x2 then some x2 else none))
set_option maxRecDepth 20000 in
set_option maxHeartbeats 1000000 in
theorem kX1_hasLevel {l : Launch} {g : ab_G} {K : ab_K} {h : ab_H} {a0 : Nat} {a1 : Int32} {r : Int32} (hf : fX1_hasLevel h a0 a1 = some r) (hK : K (some (.int r)) h) : ab_S l g mX1_hasLevel 1 0 0 [.ref a0, .int a1] h K := by
  unfold fX1_hasLevel at hf
  refine ab_enter (ls := [(0, .ref a0), (1, .int a1)]) (by decide +kernel) rfl (Nat.le_of_ble_eq_true rfl) rfl ?_
  refine ab_iload_n (pc' := 1) (q := 1) dX1_hasLevel_0 rfl rfl rfl ?_
  refine ab_iconst (pc' := 2) (v := 0) dX1_hasLevel_1 (by decide) rfl ?_
  refine ab_aload_n (pc' := 3) (q := 0) dX1_hasLevel_2 rfl rfl rfl ?_
  obtain ⟨x1, ex1, hf⟩ := ab_bd hf
  refine ab_getI (pc' := 6) (ci := 1) (k := 2) dX1_hasLevel_3 rfl (by decide) fl_X1_24 ex1 rfl ?_
  obtain ⟨x2, ex2, hf⟩ := ab_bd hf
  refine ab_callS (pc' := 9) (Mc := mX6_within) (as := [.int a1, .int 0, .int x1]) (st := []) dX1_hasLevel_6 ml_X1_34 okX6_within ss_X6_within rfl (by decide) (Nat.le_of_ble_eq_true rfl) (Nat.le_of_ble_eq_true rfl) (Nat.le_of_ble_eq_true rfl) rfl rfl (kX6_within ex2 ?_)
  show ab_Ev l g mX1_hasLevel 1 0 0 9 [(0, .ref a0), (1, .int a1)] [.int x2] h 0 0 K
  obtain ⟨n3, hf⟩ := ab_bg hf
  have hf := Option.some.inj hf
  subst hf
  exact ab_zretG rfl n3 dX1_hasLevel_9 hK
-- DiskRests.level(III)I (mode R, depth 2)
def bX6_level_23  (h : ab_H) : Option Int32 := some (-1)
set_option maxRecDepth 20000 in
set_option maxHeartbeats 1000000 in
theorem kbX6_level_23 {l : Launch} {g : ab_G} {K : ab_K} {h : ab_H}  {r : Int32} (hf : bX6_level_23 h = some r) (hK : K (some (.int r)) h) : ab_Ev l g mX6_level 2 0 0 23 [] [] h 0 0 K := by
  unfold bX6_level_23 at hf
  refine ab_iconst (pc' := 24) (v := (-1)) dX6_level_23 (by decide) rfl ?_
  have hf := Option.some.inj hf
  subst hf
  exact ab_iret rfl dX6_level_24 hK
def fX6_level (h : ab_H) (a0 : Nat) (a1 : Int32) (a2 : Int32) (a3 : Int32) : Option Int32 := (fX6_isDisk a1).bind (fun x1 => if (x1 : Int32) = 0 then bX6_level_23 h else (ab_gR h a0 6 0).bind (fun r3 => (ab_gR h r3 5 0).bind (fun r4 => (ab_aR h r4 a1).bind (fun r5 => (ab_ob h r5 1).bind (fun u6 => (fX1_hasLevel h r5 a2).bind (fun x7 => if (x7 : Int32) = 0 then bX6_level_23 h else if (a3 : Int32) = 0 then (ab_gR h a0 6 0).bind (fun r10 => (ab_gR h r10 5 0).bind (fun r11 => (ab_aR h r11 a1).bind (fun r12 => (ab_gR h r12 1 0).bind (fun r13 => (ab_aI h r13 a2).bind (fun x14 => some x14))))) else if (a3 : Int32) = 1 then (ab_gR h a0 6 0).bind (fun r16 => (ab_gR h r16 5 0).bind (fun r17 => (ab_aR h r17 a1).bind (fun r18 => (ab_gR h r18 1 1).bind (fun r19 => (ab_aI h r19 a2).bind (fun x20 => some x20))))) else some (-2)))))))
set_option maxRecDepth 20000 in
set_option maxHeartbeats 1000000 in
theorem kX6_level {l : Launch} {g : ab_G} {K : ab_K} {h : ab_H} {a0 : Nat} {a1 : Int32} {a2 : Int32} {a3 : Int32} {r : Int32} (hf : fX6_level h a0 a1 a2 a3 = some r) (hK : K (some (.int r)) h) : ab_S l g mX6_level 2 0 0 [.ref a0, .int a1, .int a2, .int a3] h K := by
  unfold fX6_level at hf
  refine ab_enter (ls := [(0, .ref a0), (1, .int a1), (2, .int a2), (3, .int a3)]) (by decide +kernel) rfl (Nat.le_of_ble_eq_true rfl) rfl ?_
  refine ab_iload_n (pc' := 1) (q := 1) dX6_level_0 rfl rfl rfl ?_
  obtain ⟨x1, ex1, hf⟩ := ab_bd hf
  refine ab_callS (pc' := 4) (Mc := mX6_isDisk) (as := [.int a1]) (st := []) dX6_level_1 ml_X6_38 okX6_isDisk ss_X6_isDisk rfl (by decide) (Nat.le_of_ble_eq_true rfl) (Nat.le_of_ble_eq_true rfl) (Nat.le_of_ble_eq_true rfl) rfl rfl (kX6_isDisk ex1 ?_)
  show ab_Ev l g mX6_level 2 0 0 4 [(0, .ref a0), (1, .int a1), (2, .int a2), (3, .int a3)] [.int x1] h 0 0 K
  refine ab_if_eq (pc' := 7) (tgt := 23) dX6_level_4 (by decide) rfl (fun c2 => ?_) (fun c2 => ?_)
  · have hf := ab_ip c2 hf
    refine ab_drop (ls' := []) [] rfl ?_
    exact kbX6_level_23 hf hK
  · have hf := ab_iN c2 hf
    refine ab_aload_n (pc' := 8) (q := 0) dX6_level_7 rfl rfl rfl ?_
    obtain ⟨r3, er3, hf⟩ := ab_bd hf
    refine ab_getR (pc' := 11) (ci := 6) (k := 0) dX6_level_8 rfl (by decide) fl_X6_10 er3 rfl ?_
    obtain ⟨r4, er4, hf⟩ := ab_bd hf
    refine ab_getR (pc' := 14) (ci := 5) (k := 0) dX6_level_11 rfl (by decide) fl_X6_46 er4 rfl ?_
    refine ab_iload_n (pc' := 15) (q := 1) dX6_level_14 rfl rfl rfl ?_
    obtain ⟨r5, er5, hf⟩ := ab_bd hf
    refine ab_aald (pc' := 16) dX6_level_15 er5 rfl ?_
    refine ab_iload_n (pc' := 17) (q := 2) dX6_level_16 rfl rfl rfl ?_
    obtain ⟨u6, eu6, hf⟩ := ab_bd hf
    obtain ⟨x7, ex7, hf⟩ := ab_bd hf
    refine ab_callV (pc' := 20) (Mc := mX1_hasLevel) (as := [.int a2]) (st := []) dX6_level_17 ml_X6_70 okX1_hasLevel im_X1_hasLevel se_X1_hasLevel rfl eu6 rfl (by decide) (Nat.le_of_ble_eq_true rfl) (Nat.le_of_ble_eq_true rfl) (Nat.le_of_ble_eq_true rfl) rfl rfl (kX1_hasLevel ex7 ?_)
    show ab_Ev l g mX6_level 2 0 0 20 [(0, .ref a0), (1, .int a1), (2, .int a2), (3, .int a3)] [.int x7] h 0 0 K
    refine ab_if_ne (pc' := 23) (tgt := 25) dX6_level_20 (by decide) rfl (fun c8 => ?_) (fun c8 => ?_)
    · have hf := ab_iN c8 hf
      refine ab_iload_n (pc' := 26) (q := 3) dX6_level_25 rfl rfl rfl ?_
      by_cases c9 : (a3 : Int32) = 0
      · have hf := ab_ip c9 hf
        refine ab_lookC (tgt := 52) dX6_level_26 c9 (by decide) rfl (by decide) ?_
        refine ab_aload_n (pc' := 53) (q := 0) dX6_level_52 rfl rfl rfl ?_
        obtain ⟨r10, er10, hf⟩ := ab_bd hf
        refine ab_getR (pc' := 56) (ci := 6) (k := 0) dX6_level_53 rfl (by decide) fl_X6_10 er10 rfl ?_
        obtain ⟨r11, er11, hf⟩ := ab_bd hf
        refine ab_getR (pc' := 59) (ci := 5) (k := 0) dX6_level_56 rfl (by decide) fl_X6_46 er11 rfl ?_
        refine ab_iload_n (pc' := 60) (q := 1) dX6_level_59 rfl rfl rfl ?_
        obtain ⟨r12, er12, hf⟩ := ab_bd hf
        refine ab_aald (pc' := 61) dX6_level_60 er12 rfl ?_
        obtain ⟨r13, er13, hf⟩ := ab_bd hf
        refine ab_getR (pc' := 64) (ci := 1) (k := 0) dX6_level_61 rfl (by decide) fl_X6_50 er13 rfl ?_
        refine ab_iload_n (pc' := 65) (q := 2) dX6_level_64 rfl rfl rfl ?_
        obtain ⟨x14, ex14, hf⟩ := ab_bd hf
        refine ab_iald (pc' := 66) dX6_level_65 ex14 rfl ?_
        have hf := Option.some.inj hf
        subst hf
        exact ab_iret rfl dX6_level_66 hK
      have hf := ab_iN c9 hf
      by_cases c15 : (a3 : Int32) = 1
      · have hf := ab_ip c15 hf
        refine ab_lookC (tgt := 67) dX6_level_26 c15 (by decide) rfl (by decide) ?_
        refine ab_aload_n (pc' := 68) (q := 0) dX6_level_67 rfl rfl rfl ?_
        obtain ⟨r16, er16, hf⟩ := ab_bd hf
        refine ab_getR (pc' := 71) (ci := 6) (k := 0) dX6_level_68 rfl (by decide) fl_X6_10 er16 rfl ?_
        obtain ⟨r17, er17, hf⟩ := ab_bd hf
        refine ab_getR (pc' := 74) (ci := 5) (k := 0) dX6_level_71 rfl (by decide) fl_X6_46 er17 rfl ?_
        refine ab_iload_n (pc' := 75) (q := 1) dX6_level_74 rfl rfl rfl ?_
        obtain ⟨r18, er18, hf⟩ := ab_bd hf
        refine ab_aald (pc' := 76) dX6_level_75 er18 rfl ?_
        obtain ⟨r19, er19, hf⟩ := ab_bd hf
        refine ab_getR (pc' := 79) (ci := 1) (k := 1) dX6_level_76 rfl (by decide) fl_X6_63 er19 rfl ?_
        refine ab_iload_n (pc' := 80) (q := 2) dX6_level_79 rfl rfl rfl ?_
        obtain ⟨x20, ex20, hf⟩ := ab_bd hf
        refine ab_iald (pc' := 81) dX6_level_80 ex20 rfl ?_
        have hf := Option.some.inj hf
        subst hf
        exact ab_iret rfl dX6_level_81 hK
      have hf := ab_iN c15 hf
      refine ab_look2 (tgt := 82) dX6_level_26 (ab_ne (by decide) c9) (ab_ne (by decide) c15) (by decide) (by decide) ?_
      refine ab_bipush (pc' := 84) (v := (-2)) dX6_level_82 (by decide) rfl ?_
      have hf := Option.some.inj hf
      subst hf
      exact ab_iret rfl dX6_level_84 hK
    · have hf := ab_ip c8 hf
      refine ab_drop (ls' := []) [] rfl ?_
      exact kbX6_level_23 hf hK
