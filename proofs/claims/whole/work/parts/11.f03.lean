-- DiskRests$Disk.levelFor(II)I (mode R, depth 2)
def fX1_levelFor (h : ab_H) (a0 : Nat) (a1 : Int32) (a2 : Int32) : Option Int32 := (ab_gI h a0 1 3).bind (fun x1 => if (x1 : Int32) = 1 then (ab_gI h a0 1 4).bind (fun x3 => if ((ab_max 1 x3) : Int32) = 0 then none else (ab_gI h a0 1 2).bind (fun x5 => some (ab_min (a1 / (ab_max 1 x3)) x5))) else if (x1 : Int32) = 2 then (ab_ob h a0 1).bind (fun u7 => (fX1_cheapestLevel h a0 a1).bind (fun x8 => some x8)) else if (x1 : Int32) = 3 then if (a2 : Int32) = (-6) then some 0 else (ab_ob h a0 1).bind (fun u11 => (fX1_cheapestLevel h a0 a2).bind (fun x12 => some x12)) else some 0)
set_option maxRecDepth 20000 in
set_option maxHeartbeats 1000000 in
theorem kX1_levelFor {l : Launch} {g : ab_G} {K : ab_K} {h : ab_H} {a0 : Nat} {a1 : Int32} {a2 : Int32} {r : Int32} (hf : fX1_levelFor h a0 a1 a2 = some r) (hK : K (some (.int r)) h) : ab_S l g mX1_levelFor 2 0 0 [.ref a0, .int a1, .int a2] h K := by
  unfold fX1_levelFor at hf
  refine ab_enter (ls := [(0, .ref a0), (1, .int a1), (2, .int a2)]) (by decide +kernel) rfl (Nat.le_of_ble_eq_true rfl) rfl ?_
  refine ab_aload_n (pc' := 1) (q := 0) dX1_levelFor_0 rfl rfl rfl ?_
  obtain ⟨x1, ex1, hf⟩ := ab_bd hf
  refine ab_getI (pc' := 4) (ci := 1) (k := 3) dX1_levelFor_1 rfl (by decide) fl_X1_28 ex1 rfl ?_
  by_cases c2 : (x1 : Int32) = 1
  · have hf := ab_ip c2 hf
    refine ab_tableC (tgt := 32) dX1_levelFor_4 c2 (by decide) (by decide) rfl (by decide) ?_
    refine ab_iload_n (pc' := 33) (q := 1) dX1_levelFor_32 rfl rfl rfl ?_
    refine ab_iconst (pc' := 34) (v := 1) dX1_levelFor_33 (by decide) rfl ?_
    refine ab_aload_n (pc' := 35) (q := 0) dX1_levelFor_34 rfl rfl rfl ?_
    obtain ⟨x3, ex3, hf⟩ := ab_bd hf
    refine ab_getI (pc' := 38) (ci := 1) (k := 4) dX1_levelFor_35 rfl (by decide) fl_X1_31 ex3 rfl ?_
    refine ab_mmaxF (pc' := 41) dX1_levelFor_38 mk_X1_38 (by decide) (Nat.le_of_ble_eq_true rfl) (Nat.le_of_ble_eq_true rfl) (Nat.le_of_ble_eq_true rfl) rfl ?_
    obtain ⟨n4, hf⟩ := ab_nz hf
    refine ab_idiv (pc' := 42) dX1_levelFor_41 n4 rfl ?_
    refine ab_aload_n (pc' := 43) (q := 0) dX1_levelFor_42 rfl rfl rfl ?_
    obtain ⟨x5, ex5, hf⟩ := ab_bd hf
    refine ab_getI (pc' := 46) (ci := 1) (k := 2) dX1_levelFor_43 rfl (by decide) fl_X1_24 ex5 rfl ?_
    refine ab_mminF (pc' := 49) dX1_levelFor_46 mk_X1_44 (by decide) (Nat.le_of_ble_eq_true rfl) (Nat.le_of_ble_eq_true rfl) (Nat.le_of_ble_eq_true rfl) rfl ?_
    have hf := Option.some.inj hf
    subst hf
    exact ab_iret rfl dX1_levelFor_49 hK
  have hf := ab_iN c2 hf
  by_cases c6 : (x1 : Int32) = 2
  · have hf := ab_ip c6 hf
    refine ab_tableC (tgt := 50) dX1_levelFor_4 c6 (by decide) (by decide) rfl (by decide) ?_
    refine ab_aload_n (pc' := 51) (q := 0) dX1_levelFor_50 rfl rfl rfl ?_
    refine ab_iload_n (pc' := 52) (q := 1) dX1_levelFor_51 rfl rfl rfl ?_
    obtain ⟨u7, eu7, hf⟩ := ab_bd hf
    obtain ⟨x8, ex8, hf⟩ := ab_bd hf
    refine ab_callV (pc' := 55) (Mc := mX1_cheapestLevel) (as := [.int a1]) (st := []) dX1_levelFor_52 ml_X1_47 okX1_cheapestLevel im_X1_cheapestLevel se_X1_cheapestLevel rfl eu7 rfl (by decide) (Nat.le_of_ble_eq_true rfl) (Nat.le_of_ble_eq_true rfl) (Nat.le_of_ble_eq_true rfl) rfl rfl (kX1_cheapestLevel ex8 ?_)
    show ab_Ev l g mX1_levelFor 2 0 0 55 [(0, .ref a0), (1, .int a1), (2, .int a2)] [.int x8] h 0 0 K
    have hf := Option.some.inj hf
    subst hf
    exact ab_iret rfl dX1_levelFor_55 hK
  have hf := ab_iN c6 hf
  by_cases c9 : (x1 : Int32) = 3
  · have hf := ab_ip c9 hf
    refine ab_tableC (tgt := 56) dX1_levelFor_4 c9 (by decide) (by decide) rfl (by decide) ?_
    refine ab_iload_n (pc' := 57) (q := 2) dX1_levelFor_56 rfl rfl rfl ?_
    refine ab_bipush (pc' := 59) (v := (-6)) dX1_levelFor_57 (by decide) rfl ?_
    refine ab_icmp_ne (pc' := 62) (tgt := 66) dX1_levelFor_59 (by decide) rfl (fun c10 => ?_) (fun c10 => ?_)
    · have hf := ab_iN c10 hf
      refine ab_aload_n (pc' := 67) (q := 0) dX1_levelFor_66 rfl rfl rfl ?_
      refine ab_iload_n (pc' := 68) (q := 2) dX1_levelFor_67 rfl rfl rfl ?_
      obtain ⟨u11, eu11, hf⟩ := ab_bd hf
      obtain ⟨x12, ex12, hf⟩ := ab_bd hf
      refine ab_callV (pc' := 71) (Mc := mX1_cheapestLevel) (as := [.int a2]) (st := []) dX1_levelFor_68 ml_X1_47 okX1_cheapestLevel im_X1_cheapestLevel se_X1_cheapestLevel rfl eu11 rfl (by decide) (Nat.le_of_ble_eq_true rfl) (Nat.le_of_ble_eq_true rfl) (Nat.le_of_ble_eq_true rfl) rfl rfl (kX1_cheapestLevel ex12 ?_)
      show ab_Ev l g mX1_levelFor 2 0 0 71 [(0, .ref a0), (1, .int a1), (2, .int a2)] [.int x12] h 0 0 K
      have hf := Option.some.inj hf
      subst hf
      exact ab_iret rfl dX1_levelFor_71 hK
    · have hf := ab_ip c10 hf
      refine ab_iconst (pc' := 63) (v := 0) dX1_levelFor_62 (by decide) rfl ?_
      refine ab_goto (tgt := 71) dX1_levelFor_63 (by decide) ?_
      have hf := Option.some.inj hf
      subst hf
      exact ab_iret rfl dX1_levelFor_71 hK
  have hf := ab_iN c9 hf
  refine ab_tableOut (tgt := 72) dX1_levelFor_4 (by have := ab_ne (i := 1) (by decide) c2; have := ab_ne (i := 2) (by decide) c6; have := ab_ne (i := 3) (by decide) c9; omega) (by decide) ?_
  refine ab_iconst (pc' := 73) (v := 0) dX1_levelFor_72 (by decide) rfl ?_
  have hf := Option.some.inj hf
  subst hf
  exact ab_iret rfl dX1_levelFor_73 hK
-- DiskRests$Course.passTick(LDiskRests$Disk;)V (mode W, depth 3)
def fX0_passTick (h : ab_H) (a0 : Nat) (a1 : Nat) : Option ab_H := (ab_gI h a0 0 5).bind (fun x1 => (ab_gI h a0 0 9).bind (fun x2 => (ab_ob h a1 1).bind (fun u3 => (fX1_levelFor h a1 x1 x2).bind (fun x4 => (ab_pV h a0 0 6 (.int x4)).bind (fun h5 => (ab_gI h5 a0 0 0).bind (fun x6 => (ab_gR h5 a1 1 0).bind (fun r7 => (ab_gI h5 a0 0 6).bind (fun x8 => (ab_aI h5 r7 x8).bind (fun x9 => (ab_pV h5 a0 0 0 (.int (x6 + x9))).bind (fun h10 => (ab_gI h10 a0 0 5).bind (fun x11 => (ab_pV h10 a0 0 5 (.int (x11 + 1))).bind (fun h12 => some h12))))))))))))
set_option maxRecDepth 20000 in
set_option maxHeartbeats 1000000 in
theorem kX0_passTick {l : Launch} {g : ab_G} {K : ab_K} {h : ab_H} {a0 : Nat} {a1 : Nat} {r : ab_H} (hf : fX0_passTick h a0 a1 = some r) (hK : K none r) : ab_S l g mX0_passTick 3 0 0 [.ref a0, .ref a1] h K := by
  unfold fX0_passTick at hf
  refine ab_enter (ls := [(0, .ref a0), (1, .ref a1)]) (by decide +kernel) rfl (Nat.le_of_ble_eq_true rfl) rfl ?_
  refine ab_aload_n (pc' := 1) (q := 0) dX0_passTick_0 rfl rfl rfl ?_
  refine ab_aload_n (pc' := 2) (q := 1) dX0_passTick_1 rfl rfl rfl ?_
  refine ab_aload_n (pc' := 3) (q := 0) dX0_passTick_2 rfl rfl rfl ?_
  obtain ⟨x1, ex1, hf⟩ := ab_bd hf
  refine ab_getI (pc' := 6) (ci := 0) (k := 5) dX0_passTick_3 rfl (by decide) fl_X0_34 ex1 rfl ?_
  refine ab_aload_n (pc' := 7) (q := 0) dX0_passTick_6 rfl rfl rfl ?_
  obtain ⟨x2, ex2, hf⟩ := ab_bd hf
  refine ab_getI (pc' := 10) (ci := 0) (k := 9) dX0_passTick_7 rfl (by decide) fl_X0_15 ex2 rfl ?_
  obtain ⟨u3, eu3, hf⟩ := ab_bd hf
  obtain ⟨x4, ex4, hf⟩ := ab_bd hf
  refine ab_callV (pc' := 13) (Mc := mX1_levelFor) (as := [.int x1, .int x2]) (st := [.ref a0]) dX0_passTick_10 ml_X0_47 okX1_levelFor im_X1_levelFor se_X1_levelFor rfl eu3 rfl (by decide) (Nat.le_of_ble_eq_true rfl) (Nat.le_of_ble_eq_true rfl) (Nat.le_of_ble_eq_true rfl) rfl rfl (kX1_levelFor ex4 ?_)
  show ab_Ev l g mX0_passTick 3 0 0 13 [(0, .ref a0), (1, .ref a1)] [.int x4, .ref a0] h 0 0 K
  obtain ⟨h5, eh5, hf⟩ := ab_bd hf
  refine ab_put (pc' := 16) (ci := 0) (k := 6) dX0_passTick_13 rfl (by decide) fl_X0_37 rfl (tyX0_ok 6 (by decide)) rfl rfl eh5 rfl ?_
  refine ab_aload_n (pc' := 17) (q := 0) dX0_passTick_16 rfl rfl rfl ?_
  refine ab_dup_ref (pc' := 18) dX0_passTick_17 rfl ?_
  obtain ⟨x6, ex6, hf⟩ := ab_bd hf
  refine ab_getI (pc' := 21) (ci := 0) (k := 0) dX0_passTick_18 rfl (by decide) fl_X0_19 ex6 rfl ?_
  refine ab_aload_n (pc' := 22) (q := 1) dX0_passTick_21 rfl rfl rfl ?_
  obtain ⟨r7, er7, hf⟩ := ab_bd hf
  refine ab_getR (pc' := 25) (ci := 1) (k := 0) dX0_passTick_22 rfl (by decide) fl_X0_53 er7 rfl ?_
  refine ab_aload_n (pc' := 26) (q := 0) dX0_passTick_25 rfl rfl rfl ?_
  obtain ⟨x8, ex8, hf⟩ := ab_bd hf
  refine ab_getI (pc' := 29) (ci := 0) (k := 6) dX0_passTick_26 rfl (by decide) fl_X0_37 ex8 rfl ?_
  obtain ⟨x9, ex9, hf⟩ := ab_bd hf
  refine ab_iald (pc' := 30) dX0_passTick_29 ex9 rfl ?_
  refine ab_iadd (pc' := 31) dX0_passTick_30 rfl ?_
  obtain ⟨h10, eh10, hf⟩ := ab_bd hf
  refine ab_put (pc' := 34) (ci := 0) (k := 0) dX0_passTick_31 rfl (by decide) fl_X0_19 rfl (tyX0_ok 0 (by decide)) rfl rfl eh10 rfl ?_
  refine ab_aload_n (pc' := 35) (q := 0) dX0_passTick_34 rfl rfl rfl ?_
  refine ab_dup_ref (pc' := 36) dX0_passTick_35 rfl ?_
  obtain ⟨x11, ex11, hf⟩ := ab_bd hf
  refine ab_getI (pc' := 39) (ci := 0) (k := 5) dX0_passTick_36 rfl (by decide) fl_X0_34 ex11 rfl ?_
  refine ab_iconst (pc' := 40) (v := 1) dX0_passTick_39 (by decide) rfl ?_
  refine ab_iadd (pc' := 41) dX0_passTick_40 rfl ?_
  obtain ⟨h12, eh12, hf⟩ := ab_bd hf
  refine ab_put (pc' := 44) (ci := 0) (k := 5) dX0_passTick_41 rfl (by decide) fl_X0_34 rfl (tyX0_ok 5 (by decide)) rfl rfl eh12 rfl ?_
  have hf := Option.some.inj hf
  subst hf
  exact ab_vret rfl dX0_passTick_44 hK
-- DiskRests$Run.goOnTo(LDiskRests$Setup;I)V (mode W, depth 4)
def lX4_goOnTo_42 (v0 : Nat) (v1 : Nat) (v2 : Int32) (v3 : Int32) : Nat → Int32 → ab_H → Option ab_H
  | 0, _, _ => none
  | n + 1, v4, h => if 4 ≤ (v4 : Int32) then some h else (ab_gR h v0 4 0).bind (fun r11 => (ab_aR h r11 v4).bind (fun r12 => (ab_gR h v1 5 0).bind (fun r13 => (ab_aR h r13 v4).bind (fun r14 => (ab_ob h r12 0).bind (fun u15 => (fX0_passTick h r12 r14).bind (fun h16 => lX4_goOnTo_42 v0 v1 v2 v3 n (v4 + 1) h16))))))
set_option maxRecDepth 20000 in
set_option maxHeartbeats 1000000 in
theorem klX4_goOnTo_42 {l : Launch} {g : ab_G} {K : ab_K} {v0 : Nat} {v1 : Nat} {v2 : Int32} {v3 : Int32} {q : ab_H} (hx : ab_Ev l g mX4_goOnTo 4 0 0 71 [(0, .ref v0), (1, .ref v1), (2, .int v2), (3, .int v3)] [] q 0 0 K) : ∀ (n : Nat) (v4 : Int32) (h : ab_H), lX4_goOnTo_42 v0 v1 v2 v3 n v4 h = some q → ab_Ev l g mX4_goOnTo 4 0 0 42 [(0, .ref v0), (1, .ref v1), (2, .int v2), (3, .int v3), (4, .int v4)] [] h 0 0 K := by
  intro n
  induction n with
  | zero => intro v4 h hf; cases (show (none : Option ab_H) = some q from hf)
  | succ n ih =>
    intro v4 h hf
    rw [lX4_goOnTo_42] at hf
    refine ab_iload (pc' := 44) (q := 4) dX4_goOnTo_42 rfl rfl ?_
    refine ab_iconst (pc' := 45) (v := 4) dX4_goOnTo_44 (by decide) rfl ?_
    refine ab_icmp_ge (pc' := 48) (tgt := 71) dX4_goOnTo_45 (by decide) rfl (fun c10 => ?_) (fun c10 => ?_)
    · have hf := ab_ip c10 hf
      have hf := Option.some.inj hf
      subst hf
      refine ab_drop (ls' := [(0, .ref v0), (1, .ref v1), (2, .int v2), (3, .int v3)]) [0, 1, 2, 3] rfl ?_
      exact hx
    · have hf := ab_iN c10 hf
      refine ab_aload_n (pc' := 49) (q := 0) dX4_goOnTo_48 rfl rfl rfl ?_
      obtain ⟨r11, er11, hf⟩ := ab_bd hf
      refine ab_getR (pc' := 52) (ci := 4) (k := 0) dX4_goOnTo_49 rfl (by decide) fl_X4_11 er11 rfl ?_
      refine ab_iload (pc' := 54) (q := 4) dX4_goOnTo_52 rfl rfl ?_
      obtain ⟨r12, er12, hf⟩ := ab_bd hf
      refine ab_aald (pc' := 55) dX4_goOnTo_54 er12 rfl ?_
      refine ab_aload_n (pc' := 56) (q := 1) dX4_goOnTo_55 rfl rfl rfl ?_
      obtain ⟨r13, er13, hf⟩ := ab_bd hf
      refine ab_getR (pc' := 59) (ci := 5) (k := 0) dX4_goOnTo_56 rfl (by decide) fl_X4_50 er13 rfl ?_
      refine ab_iload (pc' := 61) (q := 4) dX4_goOnTo_59 rfl rfl ?_
      obtain ⟨r14, er14, hf⟩ := ab_bd hf
      refine ab_aald (pc' := 62) dX4_goOnTo_61 er14 rfl ?_
      obtain ⟨u15, eu15, hf⟩ := ab_bd hf
      obtain ⟨h16, eh16, hf⟩ := ab_bd hf
      refine ab_callV (pc' := 65) (Mc := mX0_passTick) (as := [.ref r14]) (st := []) dX4_goOnTo_62 ml_X4_54 okX0_passTick im_X0_passTick se_X0_passTick rfl eu15 rfl (by decide) (Nat.le_of_ble_eq_true rfl) (Nat.le_of_ble_eq_true rfl) (Nat.le_of_ble_eq_true rfl) rfl rfl (kX0_passTick eh16 ?_)
      show ab_Ev l g mX4_goOnTo 4 0 0 65 [(0, .ref v0), (1, .ref v1), (2, .int v2), (3, .int v3), (4, .int v4)] [] h16 0 0 K
      refine ab_iinc (pc' := 68) (q := 4) (v := (v4 + 1)) (ls' := [(4, .int (v4 + 1)), (0, .ref v0), (1, .ref v1), (2, .int v2), (3, .int v3)]) dX4_goOnTo_65 rfl rfl (by decide) rfl rfl ?_
      refine ab_goto (tgt := 42) dX4_goOnTo_68 (by decide) ?_
      refine ab_drop (ls' := [(0, .ref v0), (1, .ref v1), (2, .int v2), (3, .int v3), (4, .int (v4 + 1))]) [1, 2, 3, 4, 0] rfl ?_
      exact ih _ _ hf
def lX4_goOnTo_28 (v0 : Nat) (v1 : Nat) (v2 : Int32) : Nat → Int32 → ab_H → Option ab_H
  | 0, _, _ => none
  | n + 1, v3, h => if v2 ≤ (v3 : Int32) then some h else (ab_ob h v0 4).bind (fun u8 => (fX4_serveAllOf h v0 v1 v3).bind (fun h9 => (lX4_goOnTo_42 v0 v1 v2 v3 ab_fu 0 h9).bind (fun q17 => lX4_goOnTo_28 v0 v1 v2 n (v3 + 1) q17)))
set_option maxRecDepth 20000 in
set_option maxHeartbeats 1000000 in
theorem klX4_goOnTo_28 {l : Launch} {g : ab_G} {K : ab_K} {v0 : Nat} {v1 : Nat} {v2 : Int32} {q : ab_H} (hx : ab_Ev l g mX4_goOnTo 4 0 0 77 [(0, .ref v0), (2, .int v2)] [] q 0 0 K) : ∀ (n : Nat) (v3 : Int32) (h : ab_H), lX4_goOnTo_28 v0 v1 v2 n v3 h = some q → ab_Ev l g mX4_goOnTo 4 0 0 28 [(0, .ref v0), (1, .ref v1), (2, .int v2), (3, .int v3)] [] h 0 0 K := by
  intro n
  induction n with
  | zero => intro v3 h hf; cases (show (none : Option ab_H) = some q from hf)
  | succ n ih =>
    intro v3 h hf
    rw [lX4_goOnTo_28] at hf
    refine ab_iload_n (pc' := 29) (q := 3) dX4_goOnTo_28 rfl rfl rfl ?_
    refine ab_iload_n (pc' := 30) (q := 2) dX4_goOnTo_29 rfl rfl rfl ?_
    refine ab_icmp_ge (pc' := 33) (tgt := 77) dX4_goOnTo_30 (by decide) rfl (fun c7 => ?_) (fun c7 => ?_)
    · have hf := ab_ip c7 hf
      have hf := Option.some.inj hf
      subst hf
      refine ab_drop (ls' := [(0, .ref v0), (2, .int v2)]) [0, 2] rfl ?_
      exact hx
    · have hf := ab_iN c7 hf
      refine ab_aload_n (pc' := 34) (q := 0) dX4_goOnTo_33 rfl rfl rfl ?_
      refine ab_aload_n (pc' := 35) (q := 1) dX4_goOnTo_34 rfl rfl rfl ?_
      refine ab_iload_n (pc' := 36) (q := 3) dX4_goOnTo_35 rfl rfl rfl ?_
      obtain ⟨u8, eu8, hf⟩ := ab_bd hf
      obtain ⟨h9, eh9, hf⟩ := ab_bd hf
      refine ab_callV (pc' := 39) (Mc := mX4_serveAllOf) (as := [.ref v1, .int v3]) (st := []) dX4_goOnTo_36 ml_X4_46 okX4_serveAllOf im_X4_serveAllOf se_X4_serveAllOf rfl eu8 rfl (by decide) (Nat.le_of_ble_eq_true rfl) (Nat.le_of_ble_eq_true rfl) (Nat.le_of_ble_eq_true rfl) rfl rfl (kX4_serveAllOf eh9 ?_)
      show ab_Ev l g mX4_goOnTo 4 0 0 39 [(0, .ref v0), (1, .ref v1), (2, .int v2), (3, .int v3)] [] h9 0 0 K
      refine ab_iconst (pc' := 40) (v := 0) dX4_goOnTo_39 (by decide) rfl ?_
      refine ab_istore (pc' := 42) (ls' := [(4, .int 0), (0, .ref v0), (1, .ref v1), (2, .int v2), (3, .int v3)]) dX4_goOnTo_40 (by decide) rfl rfl ?_
      refine ab_drop (ls' := [(0, .ref v0), (1, .ref v1), (2, .int v2), (3, .int v3), (4, .int 0)]) [1, 2, 3, 4, 0] rfl ?_
      obtain ⟨q17, eq17, hf⟩ := ab_bd hf
      refine klX4_goOnTo_42 ?_ ab_fu _ _ eq17
      refine ab_iinc (pc' := 74) (q := 3) (v := (v3 + 1)) (ls' := [(3, .int (v3 + 1)), (0, .ref v0), (1, .ref v1), (2, .int v2)]) dX4_goOnTo_71 rfl rfl (by decide) rfl rfl ?_
      refine ab_goto (tgt := 28) dX4_goOnTo_74 (by decide) ?_
      refine ab_drop (ls' := [(0, .ref v0), (1, .ref v1), (2, .int v2), (3, .int (v3 + 1))]) [1, 2, 3, 0] rfl ?_
      exact ih _ _ hf
def bX4_goOnTo_23 (v0 : Nat) (v1 : Nat) (v2 : Int32) (h : ab_H) : Option ab_H := (ab_gI h v0 4 7).bind (fun x6 => (lX4_goOnTo_28 v0 v1 v2 ab_fu x6 h).bind (fun q18 => (ab_pV q18 v0 4 7 (.int v2)).bind (fun h19 => some h19)))
set_option maxRecDepth 20000 in
set_option maxHeartbeats 1000000 in
theorem kbX4_goOnTo_23 {l : Launch} {g : ab_G} {K : ab_K} {h : ab_H} {v0 : Nat} {v1 : Nat} {v2 : Int32} {r : ab_H} (hf : bX4_goOnTo_23 v0 v1 v2 h = some r) (hK : K none r) : ab_Ev l g mX4_goOnTo 4 0 0 23 [(0, .ref v0), (1, .ref v1), (2, .int v2)] [] h 0 0 K := by
  unfold bX4_goOnTo_23 at hf
  refine ab_aload_n (pc' := 24) (q := 0) dX4_goOnTo_23 rfl rfl rfl ?_
  obtain ⟨x6, ex6, hf⟩ := ab_bd hf
  refine ab_getI (pc' := 27) (ci := 4) (k := 7) dX4_goOnTo_24 rfl (by decide) fl_X4_32 ex6 rfl ?_
  refine ab_istore_n (pc' := 28) (ls' := [(3, .int x6), (0, .ref v0), (1, .ref v1), (2, .int v2)]) dX4_goOnTo_27 rfl (by decide) rfl rfl ?_
  refine ab_drop (ls' := [(0, .ref v0), (1, .ref v1), (2, .int v2), (3, .int x6)]) [1, 2, 3, 0] rfl ?_
  obtain ⟨q18, eq18, hf⟩ := ab_bd hf
  refine klX4_goOnTo_28 ?_ ab_fu _ _ eq18
  refine ab_aload_n (pc' := 78) (q := 0) dX4_goOnTo_77 rfl rfl rfl ?_
  refine ab_iload_n (pc' := 79) (q := 1) dX4_goOnTo_78 rfl rfl rfl ?_
  obtain ⟨h19, eh19, hf⟩ := ab_bd hf
  refine ab_put (pc' := 82) (ci := 4) (k := 7) dX4_goOnTo_79 rfl (by decide) fl_X4_32 rfl (tyX4_ok 7 (by decide)) rfl rfl eh19 rfl ?_
  have hf := Option.some.inj hf
  subst hf
  exact ab_vret rfl dX4_goOnTo_82 hK
def bX4_goOnTo_15 (v0 : Nat) (v1 : Nat) (v2 : Int32) (h : ab_H) : Option ab_H := (ab_gR h v1 5 1).bind (fun r3 => (ab_ob h v0 4).bind (fun u4 => (fX4_begin h v0 r3).bind (fun h5 => bX4_goOnTo_23 v0 v1 v2 h5)))
set_option maxRecDepth 20000 in
set_option maxHeartbeats 1000000 in
theorem kbX4_goOnTo_15 {l : Launch} {g : ab_G} {K : ab_K} {h : ab_H} {v0 : Nat} {v1 : Nat} {v2 : Int32} {r : ab_H} (hf : bX4_goOnTo_15 v0 v1 v2 h = some r) (hK : K none r) : ab_Ev l g mX4_goOnTo 4 0 0 15 [(0, .ref v0), (1, .ref v1), (2, .int v2)] [] h 0 0 K := by
  unfold bX4_goOnTo_15 at hf
  refine ab_aload_n (pc' := 16) (q := 0) dX4_goOnTo_15 rfl rfl rfl ?_
  refine ab_aload_n (pc' := 17) (q := 1) dX4_goOnTo_16 rfl rfl rfl ?_
  obtain ⟨r3, er3, hf⟩ := ab_bd hf
  refine ab_getR (pc' := 20) (ci := 5) (k := 1) dX4_goOnTo_17 rfl (by decide) fl_X4_36 er3 rfl ?_
  obtain ⟨u4, eu4, hf⟩ := ab_bd hf
  obtain ⟨h5, eh5, hf⟩ := ab_bd hf
  refine ab_callV (pc' := 23) (Mc := mX4_begin) (as := [.ref r3]) (st := []) dX4_goOnTo_20 ml_X4_42 okX4_begin im_X4_begin se_X4_begin rfl eu4 rfl (by decide) (Nat.le_of_ble_eq_true rfl) (Nat.le_of_ble_eq_true rfl) (Nat.le_of_ble_eq_true rfl) rfl rfl (kX4_begin eh5 ?_)
  show ab_Ev l g mX4_goOnTo 4 0 0 23 [(0, .ref v0), (1, .ref v1), (2, .int v2)] [] h5 0 0 K
  exact kbX4_goOnTo_23 hf hK
def fX4_goOnTo (h : ab_H) (a0 : Nat) (a1 : Nat) (a2 : Int32) : Option ab_H := (ab_gI h a0 4 8).bind (fun x1 => if (x1 : Int32) = 0 then (ab_gI h a0 4 7).bind (fun x20 => if (x20 : Int32) ≤ a2 then bX4_goOnTo_23 a0 a1 a2 h else bX4_goOnTo_15 a0 a1 a2 h) else bX4_goOnTo_15 a0 a1 a2 h)
set_option maxRecDepth 20000 in
set_option maxHeartbeats 1000000 in
theorem kX4_goOnTo {l : Launch} {g : ab_G} {K : ab_K} {h : ab_H} {a0 : Nat} {a1 : Nat} {a2 : Int32} {r : ab_H} (hf : fX4_goOnTo h a0 a1 a2 = some r) (hK : K none r) : ab_S l g mX4_goOnTo 4 0 0 [.ref a0, .ref a1, .int a2] h K := by
  unfold fX4_goOnTo at hf
  refine ab_enter (ls := [(0, .ref a0), (1, .ref a1), (2, .int a2)]) (by decide +kernel) rfl (Nat.le_of_ble_eq_true rfl) rfl ?_
  refine ab_aload_n (pc' := 1) (q := 0) dX4_goOnTo_0 rfl rfl rfl ?_
  obtain ⟨x1, ex1, hf⟩ := ab_bd hf
  refine ab_getI (pc' := 4) (ci := 4) (k := 8) dX4_goOnTo_1 rfl (by decide) fl_X4_27 ex1 rfl ?_
  refine ab_if_ne (pc' := 7) (tgt := 15) dX4_goOnTo_4 (by decide) rfl (fun c2 => ?_) (fun c2 => ?_)
  · have hf := ab_iN c2 hf
    exact kbX4_goOnTo_15 hf hK
  · have hf := ab_ip c2 hf
    refine ab_aload_n (pc' := 8) (q := 0) dX4_goOnTo_7 rfl rfl rfl ?_
    obtain ⟨x20, ex20, hf⟩ := ab_bd hf
    refine ab_getI (pc' := 11) (ci := 4) (k := 7) dX4_goOnTo_8 rfl (by decide) fl_X4_32 ex20 rfl ?_
    refine ab_iload_n (pc' := 12) (q := 2) dX4_goOnTo_11 rfl rfl rfl ?_
    refine ab_icmp_le (pc' := 15) (tgt := 23) dX4_goOnTo_12 (by decide) rfl (fun c21 => ?_) (fun c21 => ?_)
    · have hf := ab_ip c21 hf
      exact kbX4_goOnTo_23 hf hK
    · have hf := ab_iN c21 hf
      exact kbX4_goOnTo_15 hf hK
-- DiskRests.wholeRun()LDiskRests$Run; (mode W, depth 5)
def fX6_wholeRun (h : ab_H) (a0 : Nat) : Option (Nat × ab_H) := (ab_gR h a0 6 3).bind (fun r1 => (ab_gR h a0 6 0).bind (fun r2 => (ab_gR h a0 6 0).bind (fun r3 => (ab_gI h r3 5 2).bind (fun x4 => (ab_ob h r1 4).bind (fun u5 => (fX4_goOnTo h r1 r2 x4).bind (fun h6 => (ab_gR h6 a0 6 3).bind (fun r7 => some (r7, h6))))))))
set_option maxRecDepth 20000 in
set_option maxHeartbeats 1000000 in
theorem kX6_wholeRun {l : Launch} {g : ab_G} {K : ab_K} {h : ab_H} {a0 : Nat} {r : (Nat × ab_H)} (hf : fX6_wholeRun h a0 = some r) (hK : K (some (.ref r.1)) r.2) : ab_S l g mX6_wholeRun 5 0 0 [.ref a0] h K := by
  unfold fX6_wholeRun at hf
  refine ab_enter (ls := [(0, .ref a0)]) (by decide +kernel) rfl (Nat.le_of_ble_eq_true rfl) rfl ?_
  refine ab_aload_n (pc' := 1) (q := 0) dX6_wholeRun_0 rfl rfl rfl ?_
  obtain ⟨r1, er1, hf⟩ := ab_bd hf
  refine ab_getR (pc' := 4) (ci := 6) (k := 3) dX6_wholeRun_1 rfl (by decide) fl_X6_27 er1 rfl ?_
  refine ab_aload_n (pc' := 5) (q := 0) dX6_wholeRun_4 rfl rfl rfl ?_
  obtain ⟨r2, er2, hf⟩ := ab_bd hf
  refine ab_getR (pc' := 8) (ci := 6) (k := 0) dX6_wholeRun_5 rfl (by decide) fl_X6_10 er2 rfl ?_
  refine ab_aload_n (pc' := 9) (q := 0) dX6_wholeRun_8 rfl rfl rfl ?_
  obtain ⟨r3, er3, hf⟩ := ab_bd hf
  refine ab_getR (pc' := 12) (ci := 6) (k := 0) dX6_wholeRun_9 rfl (by decide) fl_X6_10 er3 rfl ?_
  obtain ⟨x4, ex4, hf⟩ := ab_bd hf
  refine ab_getI (pc' := 15) (ci := 5) (k := 2) dX6_wholeRun_12 rfl (by decide) fl_X6_111 ex4 rfl ?_
  obtain ⟨u5, eu5, hf⟩ := ab_bd hf
  obtain ⟨h6, eh6, hf⟩ := ab_bd hf
  refine ab_callV (pc' := 18) (Mc := mX4_goOnTo) (as := [.ref r2, .int x4]) (st := []) dX6_wholeRun_15 ml_X6_158 okX4_goOnTo im_X4_goOnTo se_X4_goOnTo rfl eu5 rfl (by decide) (Nat.le_of_ble_eq_true rfl) (Nat.le_of_ble_eq_true rfl) (Nat.le_of_ble_eq_true rfl) rfl rfl (kX4_goOnTo eh6 ?_)
  show ab_Ev l g mX6_wholeRun 5 0 0 18 [(0, .ref a0)] [] h6 0 0 K
  refine ab_aload_n (pc' := 19) (q := 0) dX6_wholeRun_18 rfl rfl rfl ?_
  obtain ⟨r7, er7, hf⟩ := ab_bd hf
  refine ab_getR (pc' := 22) (ci := 6) (k := 3) dX6_wholeRun_19 rfl (by decide) fl_X6_27 er7 rfl ?_
  have hf := Option.some.inj hf
  subst hf
  exact ab_aret rfl dX6_wholeRun_22 hK
-- DiskRests$Run.entriesOf(LDiskRests$Requests;I)I (mode R, depth 0)
def bX4_entriesOf_33 (rec : Int32 → Int32 → Option Int32) (v0 : Nat) (v1 : Nat) (v2 : Int32) (v3 : Int32) (v4 : Int32) (h : ab_H) : Option Int32 := rec v3 (v4 + 1)
set_option maxRecDepth 20000 in
set_option maxHeartbeats 1000000 in
theorem kbX4_entriesOf_33 {l : Launch} {g : ab_G} {K : ab_K} {h : ab_H} {v0 : Nat} {v1 : Nat} {v2 : Int32} {v3 : Int32} {v4 : Int32} {q : Int32} {rec : Int32 → Int32 → Option Int32} (ih : ∀ (w3 : Int32) (w4 : Int32), rec w3 w4 = some q → ab_Ev l g mX4_entriesOf 0 0 0 5 [(0, .ref v0), (1, .ref v1), (2, .int v2), (3, .int w3), (4, .int w4)] [] h 0 0 K) (hx : ab_Ev l g mX4_entriesOf 0 0 0 39 [(3, .int q)] [] h 0 0 K) (hf : bX4_entriesOf_33 rec v0 v1 v2 v3 v4 h = some q) : ab_Ev l g mX4_entriesOf 0 0 0 33 [(0, .ref v0), (1, .ref v1), (2, .int v2), (3, .int v3), (4, .int v4)] [] h 0 0 K := by
  unfold bX4_entriesOf_33 at hf
  refine ab_iinc (pc' := 36) (q := 4) (v := (v4 + 1)) (ls' := [(4, .int (v4 + 1)), (0, .ref v0), (1, .ref v1), (2, .int v2), (3, .int v3)]) dX4_entriesOf_33 rfl rfl (by decide) rfl rfl ?_
  refine ab_goto (tgt := 5) dX4_entriesOf_36 (by decide) ?_
  refine ab_drop (ls' := [(0, .ref v0), (1, .ref v1), (2, .int v2), (3, .int v3), (4, .int (v4 + 1))]) [1, 2, 3, 4, 0] rfl ?_
  exact ih _ _ hf
def lX4_entriesOf_5 (h : ab_H) (v0 : Nat) (v1 : Nat) (v2 : Int32) : Nat → Int32 → Int32 → Option Int32
  | 0, _, _ => none
  | n + 1, v3, v4 => (ab_gI h v0 4 4).bind (fun x1 => if x1 ≤ (v4 : Int32) then some v3 else (ab_gR h v1 3 1).bind (fun r3 => (ab_gR h v0 4 3).bind (fun r4 => (ab_aI h r4 v4).bind (fun x5 => (ab_aI h r3 x5).bind (fun x6 => if (x6 : Int32) = v2 then bX4_entriesOf_33 (lX4_entriesOf_5 h v0 v1 v2 n) v0 v1 v2 (v3 + 1) v4 h else bX4_entriesOf_33 (lX4_entriesOf_5 h v0 v1 v2 n) v0 v1 v2 v3 v4 h)))))
set_option maxRecDepth 20000 in
set_option maxHeartbeats 1000000 in
theorem klX4_entriesOf_5 {l : Launch} {g : ab_G} {K : ab_K} {h : ab_H} {v0 : Nat} {v1 : Nat} {v2 : Int32} {q : Int32} (hx : ab_Ev l g mX4_entriesOf 0 0 0 39 [(3, .int q)] [] h 0 0 K) : ∀ (n : Nat) (v3 : Int32) (v4 : Int32), lX4_entriesOf_5 h v0 v1 v2 n v3 v4 = some q → ab_Ev l g mX4_entriesOf 0 0 0 5 [(0, .ref v0), (1, .ref v1), (2, .int v2), (3, .int v3), (4, .int v4)] [] h 0 0 K := by
  intro n
  induction n with
  | zero => intro v3 v4 hf; cases (show (none : Option Int32) = some q from hf)
  | succ n ih =>
    intro v3 v4 hf
    rw [lX4_entriesOf_5] at hf
    refine ab_iload (pc' := 7) (q := 4) dX4_entriesOf_5 rfl rfl ?_
    refine ab_aload_n (pc' := 8) (q := 0) dX4_entriesOf_7 rfl rfl rfl ?_
    obtain ⟨x1, ex1, hf⟩ := ab_bd hf
    refine ab_getI (pc' := 11) (ci := 4) (k := 4) dX4_entriesOf_8 rfl (by decide) fl_X4_66 ex1 rfl ?_
    refine ab_icmp_ge (pc' := 14) (tgt := 39) dX4_entriesOf_11 (by decide) rfl (fun c2 => ?_) (fun c2 => ?_)
    · have hf := ab_ip c2 hf
      have hf := Option.some.inj hf
      subst hf
      refine ab_drop (ls' := [(3, .int v3)]) [3] rfl ?_
      exact hx
    · have hf := ab_iN c2 hf
      refine ab_aload_n (pc' := 15) (q := 1) dX4_entriesOf_14 rfl rfl rfl ?_
      obtain ⟨r3, er3, hf⟩ := ab_bd hf
      refine ab_getR (pc' := 18) (ci := 3) (k := 1) dX4_entriesOf_15 rfl (by decide) fl_X4_82 er3 rfl ?_
      refine ab_aload_n (pc' := 19) (q := 0) dX4_entriesOf_18 rfl rfl rfl ?_
      obtain ⟨r4, er4, hf⟩ := ab_bd hf
      refine ab_getR (pc' := 22) (ci := 4) (k := 3) dX4_entriesOf_19 rfl (by decide) fl_X4_24 er4 rfl ?_
      refine ab_iload (pc' := 24) (q := 4) dX4_entriesOf_22 rfl rfl ?_
      obtain ⟨x5, ex5, hf⟩ := ab_bd hf
      refine ab_iald (pc' := 25) dX4_entriesOf_24 ex5 rfl ?_
      obtain ⟨x6, ex6, hf⟩ := ab_bd hf
      refine ab_iald (pc' := 26) dX4_entriesOf_25 ex6 rfl ?_
      refine ab_iload_n (pc' := 27) (q := 2) dX4_entriesOf_26 rfl rfl rfl ?_
      refine ab_icmp_ne (pc' := 30) (tgt := 33) dX4_entriesOf_27 (by decide) rfl (fun c7 => ?_) (fun c7 => ?_)
      · have hf := ab_iN c7 hf
        exact kbX4_entriesOf_33 ih hx hf
      · have hf := ab_ip c7 hf
        refine ab_iinc (pc' := 33) (q := 3) (v := (v3 + 1)) (ls' := [(3, .int (v3 + 1)), (0, .ref v0), (1, .ref v1), (2, .int v2), (4, .int v4)]) dX4_entriesOf_30 rfl rfl (by decide) rfl rfl ?_
        refine ab_drop (ls' := [(0, .ref v0), (1, .ref v1), (2, .int v2), (3, .int (v3 + 1)), (4, .int v4)]) [1, 2, 3, 0, 4] rfl ?_
        exact kbX4_entriesOf_33 ih hx hf
def fX4_entriesOf (h : ab_H) (a0 : Nat) (a1 : Nat) (a2 : Int32) : Option Int32 := (lX4_entriesOf_5 h a0 a1 a2 ab_fu 0 0).bind (fun q8 => some q8)
set_option maxRecDepth 20000 in
set_option maxHeartbeats 1000000 in
theorem kX4_entriesOf {l : Launch} {g : ab_G} {K : ab_K} {h : ab_H} {a0 : Nat} {a1 : Nat} {a2 : Int32} {r : Int32} (hf : fX4_entriesOf h a0 a1 a2 = some r) (hK : K (some (.int r)) h) : ab_S l g mX4_entriesOf 0 0 0 [.ref a0, .ref a1, .int a2] h K := by
  unfold fX4_entriesOf at hf
  refine ab_enter (ls := [(0, .ref a0), (1, .ref a1), (2, .int a2)]) (by decide +kernel) rfl (Nat.le_of_ble_eq_true rfl) rfl ?_
  refine ab_iconst (pc' := 1) (v := 0) dX4_entriesOf_0 (by decide) rfl ?_
  refine ab_istore_n (pc' := 2) (ls' := [(3, .int 0), (0, .ref a0), (1, .ref a1), (2, .int a2)]) dX4_entriesOf_1 rfl (by decide) rfl rfl ?_
  refine ab_iconst (pc' := 3) (v := 0) dX4_entriesOf_2 (by decide) rfl ?_
  refine ab_istore (pc' := 5) (ls' := [(4, .int 0), (3, .int 0), (0, .ref a0), (1, .ref a1), (2, .int a2)]) dX4_entriesOf_3 (by decide) rfl rfl ?_
  refine ab_drop (ls' := [(0, .ref a0), (1, .ref a1), (2, .int a2), (3, .int 0), (4, .int 0)]) [2, 3, 4, 1, 0] rfl ?_
  obtain ⟨q8, eq8, hf⟩ := ab_bd hf
  refine klX4_entriesOf_5 ?_ ab_fu _ _ eq8
  refine ab_iload_n (pc' := 40) (q := 0) dX4_entriesOf_39 rfl rfl rfl ?_
  have hf := Option.some.inj hf
  subst hf
  exact ab_iret rfl dX4_entriesOf_40 hK
-- DiskRests.disk(II)I (mode W, depth 6)
def fX6_disk (h : ab_H) (a0 : Nat) (a1 : Int32) (a2 : Int32) : Option (Int32 × ab_H) := (fX6_isDisk a1).bind (fun x1 => if (x1 : Int32) = 0 then some ((-1), h) else (fX6_within a2 0 9).bind (fun x3 => if (x3 : Int32) = 0 then some ((-2), h) else (ab_ob h a0 6).bind (fun u5 => (fX6_wholeRun h a0).bind (fun q6 => (ab_gR q6.2 q6.1 4 0).bind (fun r7 => (ab_aR q6.2 r7 a1).bind (fun r8 => if (a2 : Int32) = 0 then (ab_gI q6.2 r8 0 0).bind (fun x10 => some (x10, q6.2)) else if (a2 : Int32) = 1 then (ab_gI q6.2 r8 0 1).bind (fun x12 => some (x12, q6.2)) else if (a2 : Int32) = 2 then (ab_gI q6.2 r8 0 2).bind (fun x14 => some (x14, q6.2)) else if (a2 : Int32) = 3 then (ab_gI q6.2 r8 0 3).bind (fun x16 => some (x16, q6.2)) else if (a2 : Int32) = 4 then (ab_gI q6.2 r8 0 4).bind (fun x18 => some (x18, q6.2)) else if (a2 : Int32) = 5 then (ab_gR q6.2 a0 6 3).bind (fun r20 => (ab_gR q6.2 a0 6 0).bind (fun r21 => (ab_gR q6.2 r21 5 1).bind (fun r22 => (ab_ob q6.2 r20 4).bind (fun u23 => (fX4_entriesOf q6.2 r20 r22 a1).bind (fun x24 => some (x24, q6.2)))))) else if (a2 : Int32) = 6 then (ab_gI q6.2 r8 0 8).bind (fun x26 => some (x26, q6.2)) else if (a2 : Int32) = 7 then (ab_gI q6.2 r8 0 5).bind (fun x28 => some (x28, q6.2)) else if (a2 : Int32) = 8 then (ab_gI q6.2 r8 0 6).bind (fun x30 => some (x30, q6.2)) else (ab_gI q6.2 r8 0 9).bind (fun x31 => some (x31, q6.2))))))))
set_option maxRecDepth 20000 in
set_option maxHeartbeats 1000000 in
theorem kX6_disk {l : Launch} {g : ab_G} {K : ab_K} {h : ab_H} {a0 : Nat} {a1 : Int32} {a2 : Int32} {r : (Int32 × ab_H)} (hf : fX6_disk h a0 a1 a2 = some r) (hK : K (some (.int r.1)) r.2) : ab_S l g mX6_disk 6 0 0 [.ref a0, .int a1, .int a2] h K := by
  unfold fX6_disk at hf
  refine ab_enter (ls := [(0, .ref a0), (1, .int a1), (2, .int a2)]) (by decide +kernel) rfl (Nat.le_of_ble_eq_true rfl) rfl ?_
  refine ab_iload_n (pc' := 1) (q := 1) dX6_disk_0 rfl rfl rfl ?_
  obtain ⟨x1, ex1, hf⟩ := ab_bd hf
  refine ab_callS (pc' := 4) (Mc := mX6_isDisk) (as := [.int a1]) (st := []) dX6_disk_1 ml_X6_38 okX6_isDisk ss_X6_isDisk rfl (by decide) (Nat.le_of_ble_eq_true rfl) (Nat.le_of_ble_eq_true rfl) (Nat.le_of_ble_eq_true rfl) rfl rfl (kX6_isDisk ex1 ?_)
  show ab_Ev l g mX6_disk 6 0 0 4 [(0, .ref a0), (1, .int a1), (2, .int a2)] [.int x1] h 0 0 K
  refine ab_if_ne (pc' := 7) (tgt := 9) dX6_disk_4 (by decide) rfl (fun c2 => ?_) (fun c2 => ?_)
  · have hf := ab_iN c2 hf
    refine ab_iload_n (pc' := 10) (q := 2) dX6_disk_9 rfl rfl rfl ?_
    refine ab_iconst (pc' := 11) (v := 0) dX6_disk_10 (by decide) rfl ?_
    refine ab_bipush (pc' := 13) (v := 9) dX6_disk_11 (by decide) rfl ?_
    obtain ⟨x3, ex3, hf⟩ := ab_bd hf
    refine ab_callS (pc' := 16) (Mc := mX6_within) (as := [.int a2, .int 0, .int 9]) (st := []) dX6_disk_13 ml_X6_42 okX6_within ss_X6_within rfl (by decide) (Nat.le_of_ble_eq_true rfl) (Nat.le_of_ble_eq_true rfl) (Nat.le_of_ble_eq_true rfl) rfl rfl (kX6_within ex3 ?_)
    show ab_Ev l g mX6_disk 6 0 0 16 [(0, .ref a0), (1, .int a1), (2, .int a2)] [.int x3] h 0 0 K
    refine ab_if_ne (pc' := 19) (tgt := 22) dX6_disk_16 (by decide) rfl (fun c4 => ?_) (fun c4 => ?_)
    · have hf := ab_iN c4 hf
      refine ab_aload_n (pc' := 23) (q := 0) dX6_disk_22 rfl rfl rfl ?_
      obtain ⟨u5, eu5, hf⟩ := ab_bd hf
      obtain ⟨q6, eq6, hf⟩ := ab_bd hf
      refine ab_callV (pc' := 26) (Mc := mX6_wholeRun) (as := []) (st := []) dX6_disk_23 ml_X6_117 okX6_wholeRun im_X6_wholeRun se_X6_wholeRun rfl eu5 rfl (by decide) (Nat.le_of_ble_eq_true rfl) (Nat.le_of_ble_eq_true rfl) (Nat.le_of_ble_eq_true rfl) rfl rfl (kX6_wholeRun eq6 ?_)
      show ab_Ev l g mX6_disk 6 0 0 26 [(0, .ref a0), (1, .int a1), (2, .int a2)] [.ref q6.1] q6.2 0 0 K
      obtain ⟨r7, er7, hf⟩ := ab_bd hf
      refine ab_getR (pc' := 29) (ci := 4) (k := 0) dX6_disk_26 rfl (by decide) fl_X6_121 er7 rfl ?_
      refine ab_iload_n (pc' := 30) (q := 1) dX6_disk_29 rfl rfl rfl ?_
      obtain ⟨r8, er8, hf⟩ := ab_bd hf
      refine ab_aald (pc' := 31) dX6_disk_30 er8 rfl ?_
      refine ab_astore_n (pc' := 32) (ls' := [(3, .ref r8), (0, .ref a0), (1, .int a1), (2, .int a2)]) dX6_disk_31 rfl (by decide) rfl rfl ?_
      refine ab_iload_n (pc' := 33) (q := 3) dX6_disk_32 rfl rfl rfl ?_
      by_cases c9 : (a2 : Int32) = 0
      · have hf := ab_ip c9 hf
        refine ab_tableC (tgt := 84) dX6_disk_33 c9 (by decide) (by decide) rfl (by decide) ?_
        refine ab_aload_n (pc' := 85) (q := 0) dX6_disk_84 rfl rfl rfl ?_
        obtain ⟨x10, ex10, hf⟩ := ab_bd hf
        refine ab_getI (pc' := 88) (ci := 0) (k := 0) dX6_disk_85 rfl (by decide) fl_X6_125 ex10 rfl ?_
        have hf := Option.some.inj hf
        subst hf
        exact ab_iret rfl dX6_disk_88 hK
      have hf := ab_iN c9 hf
      by_cases c11 : (a2 : Int32) = 1
      · have hf := ab_ip c11 hf
        refine ab_tableC (tgt := 89) dX6_disk_33 c11 (by decide) (by decide) rfl (by decide) ?_
        refine ab_aload_n (pc' := 90) (q := 0) dX6_disk_89 rfl rfl rfl ?_
        obtain ⟨x12, ex12, hf⟩ := ab_bd hf
        refine ab_getI (pc' := 93) (ci := 0) (k := 1) dX6_disk_90 rfl (by decide) fl_X6_130 ex12 rfl ?_
        have hf := Option.some.inj hf
        subst hf
        exact ab_iret rfl dX6_disk_93 hK
      have hf := ab_iN c11 hf
      by_cases c13 : (a2 : Int32) = 2
      · have hf := ab_ip c13 hf
        refine ab_tableC (tgt := 94) dX6_disk_33 c13 (by decide) (by decide) rfl (by decide) ?_
        refine ab_aload_n (pc' := 95) (q := 0) dX6_disk_94 rfl rfl rfl ?_
        obtain ⟨x14, ex14, hf⟩ := ab_bd hf
        refine ab_getI (pc' := 98) (ci := 0) (k := 2) dX6_disk_95 rfl (by decide) fl_X6_133 ex14 rfl ?_
        have hf := Option.some.inj hf
        subst hf
        exact ab_iret rfl dX6_disk_98 hK
      have hf := ab_iN c13 hf
      by_cases c15 : (a2 : Int32) = 3
      · have hf := ab_ip c15 hf
        refine ab_tableC (tgt := 99) dX6_disk_33 c15 (by decide) (by decide) rfl (by decide) ?_
        refine ab_aload_n (pc' := 100) (q := 0) dX6_disk_99 rfl rfl rfl ?_
        obtain ⟨x16, ex16, hf⟩ := ab_bd hf
        refine ab_getI (pc' := 103) (ci := 0) (k := 3) dX6_disk_100 rfl (by decide) fl_X6_136 ex16 rfl ?_
        have hf := Option.some.inj hf
        subst hf
        exact ab_iret rfl dX6_disk_103 hK
      have hf := ab_iN c15 hf
      by_cases c17 : (a2 : Int32) = 4
      · have hf := ab_ip c17 hf
        refine ab_tableC (tgt := 104) dX6_disk_33 c17 (by decide) (by decide) rfl (by decide) ?_
        refine ab_aload_n (pc' := 105) (q := 0) dX6_disk_104 rfl rfl rfl ?_
        obtain ⟨x18, ex18, hf⟩ := ab_bd hf
        refine ab_getI (pc' := 108) (ci := 0) (k := 4) dX6_disk_105 rfl (by decide) fl_X6_139 ex18 rfl ?_
        have hf := Option.some.inj hf
        subst hf
        exact ab_iret rfl dX6_disk_108 hK
      have hf := ab_iN c17 hf
      by_cases c19 : (a2 : Int32) = 5
      · have hf := ab_ip c19 hf
        refine ab_tableC (tgt := 109) dX6_disk_33 c19 (by decide) (by decide) rfl (by decide) ?_
        refine ab_aload_n (pc' := 110) (q := 1) dX6_disk_109 rfl rfl rfl ?_
        obtain ⟨r20, er20, hf⟩ := ab_bd hf
        refine ab_getR (pc' := 113) (ci := 6) (k := 3) dX6_disk_110 rfl (by decide) fl_X6_27 er20 rfl ?_
        refine ab_aload_n (pc' := 114) (q := 1) dX6_disk_113 rfl rfl rfl ?_
        obtain ⟨r21, er21, hf⟩ := ab_bd hf
        refine ab_getR (pc' := 117) (ci := 6) (k := 0) dX6_disk_114 rfl (by decide) fl_X6_10 er21 rfl ?_
        obtain ⟨r22, er22, hf⟩ := ab_bd hf
        refine ab_getR (pc' := 120) (ci := 5) (k := 1) dX6_disk_117 rfl (by decide) fl_X6_83 er22 rfl ?_
        refine ab_iload_n (pc' := 121) (q := 2) dX6_disk_120 rfl rfl rfl ?_
        obtain ⟨u23, eu23, hf⟩ := ab_bd hf
        obtain ⟨x24, ex24, hf⟩ := ab_bd hf
        refine ab_callV (pc' := 124) (Mc := mX4_entriesOf) (as := [.ref r22, .int a1]) (st := []) dX6_disk_121 ml_X6_142 okX4_entriesOf im_X4_entriesOf se_X4_entriesOf rfl eu23 rfl (by decide) (Nat.le_of_ble_eq_true rfl) (Nat.le_of_ble_eq_true rfl) (Nat.le_of_ble_eq_true rfl) rfl rfl (kX4_entriesOf ex24 ?_)
        show ab_Ev l g mX6_disk 6 0 0 124 [(3, .ref r8), (0, .ref a0), (1, .int a1), (2, .int a2)] [.int x24] q6.2 0 0 K
        have hf := Option.some.inj hf
        subst hf
        exact ab_iret rfl dX6_disk_124 hK
      have hf := ab_iN c19 hf
      by_cases c25 : (a2 : Int32) = 6
      · have hf := ab_ip c25 hf
        refine ab_tableC (tgt := 125) dX6_disk_33 c25 (by decide) (by decide) rfl (by decide) ?_
        refine ab_aload_n (pc' := 126) (q := 0) dX6_disk_125 rfl rfl rfl ?_
        obtain ⟨x26, ex26, hf⟩ := ab_bd hf
        refine ab_getI (pc' := 129) (ci := 0) (k := 8) dX6_disk_126 rfl (by decide) fl_X6_146 ex26 rfl ?_
        have hf := Option.some.inj hf
        subst hf
        exact ab_iret rfl dX6_disk_129 hK
      have hf := ab_iN c25 hf
      by_cases c27 : (a2 : Int32) = 7
      · have hf := ab_ip c27 hf
        refine ab_tableC (tgt := 130) dX6_disk_33 c27 (by decide) (by decide) rfl (by decide) ?_
        refine ab_aload_n (pc' := 131) (q := 0) dX6_disk_130 rfl rfl rfl ?_
        obtain ⟨x28, ex28, hf⟩ := ab_bd hf
        refine ab_getI (pc' := 134) (ci := 0) (k := 5) dX6_disk_131 rfl (by decide) fl_X6_149 ex28 rfl ?_
        have hf := Option.some.inj hf
        subst hf
        exact ab_iret rfl dX6_disk_134 hK
      have hf := ab_iN c27 hf
      by_cases c29 : (a2 : Int32) = 8
      · have hf := ab_ip c29 hf
        refine ab_tableC (tgt := 135) dX6_disk_33 c29 (by decide) (by decide) rfl (by decide) ?_
        refine ab_aload_n (pc' := 136) (q := 0) dX6_disk_135 rfl rfl rfl ?_
        obtain ⟨x30, ex30, hf⟩ := ab_bd hf
        refine ab_getI (pc' := 139) (ci := 0) (k := 6) dX6_disk_136 rfl (by decide) fl_X6_152 ex30 rfl ?_
        have hf := Option.some.inj hf
        subst hf
        exact ab_iret rfl dX6_disk_139 hK
      have hf := ab_iN c29 hf
      refine ab_tableOut (tgt := 140) dX6_disk_33 (by have := ab_ne (i := 0) (by decide) c9; have := ab_ne (i := 1) (by decide) c11; have := ab_ne (i := 2) (by decide) c13; have := ab_ne (i := 3) (by decide) c15; have := ab_ne (i := 4) (by decide) c17; have := ab_ne (i := 5) (by decide) c19; have := ab_ne (i := 6) (by decide) c25; have := ab_ne (i := 7) (by decide) c27; have := ab_ne (i := 8) (by decide) c29; omega) (by decide) ?_
      refine ab_aload_n (pc' := 141) (q := 0) dX6_disk_140 rfl rfl rfl ?_
      obtain ⟨x31, ex31, hf⟩ := ab_bd hf
      refine ab_getI (pc' := 144) (ci := 0) (k := 9) dX6_disk_141 rfl (by decide) fl_X6_155 ex31 rfl ?_
      have hf := Option.some.inj hf
      subst hf
      exact ab_iret rfl dX6_disk_144 hK
    · have hf := ab_ip c4 hf
      refine ab_bipush (pc' := 21) (v := (-2)) dX6_disk_19 (by decide) rfl ?_
      have hf := Option.some.inj hf
      subst hf
      exact ab_iret rfl dX6_disk_21 hK
  · have hf := ab_ip c2 hf
    refine ab_iconst (pc' := 8) (v := (-1)) dX6_disk_7 (by decide) rfl ?_
    have hf := Option.some.inj hf
    subst hf
    exact ab_iret rfl dX6_disk_8 hK
-- DiskRests.at(III)I (mode W, depth 5)
def bX6_at_35  (h : ab_H) : Option (Int32 × ab_H) := some ((-2), h)
set_option maxRecDepth 20000 in
set_option maxHeartbeats 1000000 in
theorem kbX6_at_35 {l : Launch} {g : ab_G} {K : ab_K} {h : ab_H}  {r : (Int32 × ab_H)} (hf : bX6_at_35 h = some r) (hK : K (some (.int r.1)) r.2) : ab_Ev l g mX6_at 5 0 0 35 [] [] h 0 0 K := by
  unfold bX6_at_35 at hf
  refine ab_bipush (pc' := 37) (v := (-2)) dX6_at_35 (by decide) rfl ?_
  have hf := Option.some.inj hf
  subst hf
  exact ab_iret rfl dX6_at_37 hK
def fX6_at (h : ab_H) (a0 : Nat) (a1 : Int32) (a2 : Int32) (a3 : Int32) : Option (Int32 × ab_H) := (fX6_isDisk a1).bind (fun x1 => if (x1 : Int32) = 0 then some ((-1), h) else (ab_gR h a0 6 0).bind (fun r3 => (ab_gI h r3 5 2).bind (fun x4 => (fX6_within a2 0 (x4 - 1)).bind (fun x5 => if (x5 : Int32) = 0 then bX6_at_35 h else (fX6_within a3 0 2).bind (fun x7 => if (x7 : Int32) = 0 then bX6_at_35 h else (ab_gR h a0 6 3).bind (fun r9 => (ab_gR h a0 6 0).bind (fun r10 => (ab_ob h r9 4).bind (fun u11 => (fX4_goOnTo h r9 r10 (a2 + 1)).bind (fun h12 => (ab_gR h12 a0 6 3).bind (fun r13 => (ab_gR h12 r13 4 0).bind (fun r14 => (ab_aR h12 r14 a1).bind (fun r15 => if (a3 : Int32) = 0 then (ab_gI h12 r15 0 6).bind (fun x17 => some (x17, h12)) else if (a3 : Int32) = 1 then (ab_gI h12 r15 0 5).bind (fun x19 => some ((x19 - 1), h12)) else (ab_gI h12 r15 0 0).bind (fun x20 => some (x20, h12))))))))))))))
set_option maxRecDepth 20000 in
set_option maxHeartbeats 1000000 in
theorem kX6_at {l : Launch} {g : ab_G} {K : ab_K} {h : ab_H} {a0 : Nat} {a1 : Int32} {a2 : Int32} {a3 : Int32} {r : (Int32 × ab_H)} (hf : fX6_at h a0 a1 a2 a3 = some r) (hK : K (some (.int r.1)) r.2) : ab_S l g mX6_at 5 0 0 [.ref a0, .int a1, .int a2, .int a3] h K := by
  unfold fX6_at at hf
  refine ab_enter (ls := [(0, .ref a0), (1, .int a1), (2, .int a2), (3, .int a3)]) (by decide +kernel) rfl (Nat.le_of_ble_eq_true rfl) rfl ?_
  refine ab_iload_n (pc' := 1) (q := 1) dX6_at_0 rfl rfl rfl ?_
  obtain ⟨x1, ex1, hf⟩ := ab_bd hf
  refine ab_callS (pc' := 4) (Mc := mX6_isDisk) (as := [.int a1]) (st := []) dX6_at_1 ml_X6_38 okX6_isDisk ss_X6_isDisk rfl (by decide) (Nat.le_of_ble_eq_true rfl) (Nat.le_of_ble_eq_true rfl) (Nat.le_of_ble_eq_true rfl) rfl rfl (kX6_isDisk ex1 ?_)
  show ab_Ev l g mX6_at 5 0 0 4 [(0, .ref a0), (1, .int a1), (2, .int a2), (3, .int a3)] [.int x1] h 0 0 K
  refine ab_if_ne (pc' := 7) (tgt := 9) dX6_at_4 (by decide) rfl (fun c2 => ?_) (fun c2 => ?_)
  · have hf := ab_iN c2 hf
    refine ab_iload_n (pc' := 10) (q := 2) dX6_at_9 rfl rfl rfl ?_
    refine ab_iconst (pc' := 11) (v := 0) dX6_at_10 (by decide) rfl ?_
    refine ab_aload_n (pc' := 12) (q := 0) dX6_at_11 rfl rfl rfl ?_
    obtain ⟨r3, er3, hf⟩ := ab_bd hf
    refine ab_getR (pc' := 15) (ci := 6) (k := 0) dX6_at_12 rfl (by decide) fl_X6_10 er3 rfl ?_
    obtain ⟨x4, ex4, hf⟩ := ab_bd hf
    refine ab_getI (pc' := 18) (ci := 5) (k := 2) dX6_at_15 rfl (by decide) fl_X6_111 ex4 rfl ?_
    refine ab_iconst (pc' := 19) (v := 1) dX6_at_18 (by decide) rfl ?_
    refine ab_isub (pc' := 20) dX6_at_19 rfl ?_
    obtain ⟨x5, ex5, hf⟩ := ab_bd hf
    refine ab_callS (pc' := 23) (Mc := mX6_within) (as := [.int a2, .int 0, .int (x4 - 1)]) (st := []) dX6_at_20 ml_X6_42 okX6_within ss_X6_within rfl (by decide) (Nat.le_of_ble_eq_true rfl) (Nat.le_of_ble_eq_true rfl) (Nat.le_of_ble_eq_true rfl) rfl rfl (kX6_within ex5 ?_)
    show ab_Ev l g mX6_at 5 0 0 23 [(0, .ref a0), (1, .int a1), (2, .int a2), (3, .int a3)] [.int x5] h 0 0 K
    refine ab_if_eq (pc' := 26) (tgt := 35) dX6_at_23 (by decide) rfl (fun c6 => ?_) (fun c6 => ?_)
    · have hf := ab_ip c6 hf
      refine ab_drop (ls' := []) [] rfl ?_
      exact kbX6_at_35 hf hK
    · have hf := ab_iN c6 hf
      refine ab_iload_n (pc' := 27) (q := 3) dX6_at_26 rfl rfl rfl ?_
      refine ab_iconst (pc' := 28) (v := 0) dX6_at_27 (by decide) rfl ?_
      refine ab_iconst (pc' := 29) (v := 2) dX6_at_28 (by decide) rfl ?_
      obtain ⟨x7, ex7, hf⟩ := ab_bd hf
      refine ab_callS (pc' := 32) (Mc := mX6_within) (as := [.int a3, .int 0, .int 2]) (st := []) dX6_at_29 ml_X6_42 okX6_within ss_X6_within rfl (by decide) (Nat.le_of_ble_eq_true rfl) (Nat.le_of_ble_eq_true rfl) (Nat.le_of_ble_eq_true rfl) rfl rfl (kX6_within ex7 ?_)
      show ab_Ev l g mX6_at 5 0 0 32 [(0, .ref a0), (1, .int a1), (2, .int a2), (3, .int a3)] [.int x7] h 0 0 K
      refine ab_if_ne (pc' := 35) (tgt := 38) dX6_at_32 (by decide) rfl (fun c8 => ?_) (fun c8 => ?_)
      · have hf := ab_iN c8 hf
        refine ab_aload_n (pc' := 39) (q := 0) dX6_at_38 rfl rfl rfl ?_
        obtain ⟨r9, er9, hf⟩ := ab_bd hf
        refine ab_getR (pc' := 42) (ci := 6) (k := 3) dX6_at_39 rfl (by decide) fl_X6_27 er9 rfl ?_
        refine ab_aload_n (pc' := 43) (q := 0) dX6_at_42 rfl rfl rfl ?_
        obtain ⟨r10, er10, hf⟩ := ab_bd hf
        refine ab_getR (pc' := 46) (ci := 6) (k := 0) dX6_at_43 rfl (by decide) fl_X6_10 er10 rfl ?_
        refine ab_iload_n (pc' := 47) (q := 2) dX6_at_46 rfl rfl rfl ?_
        refine ab_iconst (pc' := 48) (v := 1) dX6_at_47 (by decide) rfl ?_
        refine ab_iadd (pc' := 49) dX6_at_48 rfl ?_
        obtain ⟨u11, eu11, hf⟩ := ab_bd hf
        obtain ⟨h12, eh12, hf⟩ := ab_bd hf
        refine ab_callV (pc' := 52) (Mc := mX4_goOnTo) (as := [.ref r10, .int (a2 + 1)]) (st := []) dX6_at_49 ml_X6_158 okX4_goOnTo im_X4_goOnTo se_X4_goOnTo rfl eu11 rfl (by decide) (Nat.le_of_ble_eq_true rfl) (Nat.le_of_ble_eq_true rfl) (Nat.le_of_ble_eq_true rfl) rfl rfl (kX4_goOnTo eh12 ?_)
        show ab_Ev l g mX6_at 5 0 0 52 [(0, .ref a0), (1, .int a1), (2, .int a2), (3, .int a3)] [] h12 0 0 K
        refine ab_aload_n (pc' := 53) (q := 0) dX6_at_52 rfl rfl rfl ?_
        obtain ⟨r13, er13, hf⟩ := ab_bd hf
        refine ab_getR (pc' := 56) (ci := 6) (k := 3) dX6_at_53 rfl (by decide) fl_X6_27 er13 rfl ?_
        obtain ⟨r14, er14, hf⟩ := ab_bd hf
        refine ab_getR (pc' := 59) (ci := 4) (k := 0) dX6_at_56 rfl (by decide) fl_X6_121 er14 rfl ?_
        refine ab_iload_n (pc' := 60) (q := 1) dX6_at_59 rfl rfl rfl ?_
        obtain ⟨r15, er15, hf⟩ := ab_bd hf
        refine ab_aald (pc' := 61) dX6_at_60 er15 rfl ?_
        refine ab_astore (pc' := 63) (ls' := [(4, .ref r15), (0, .ref a0), (1, .int a1), (2, .int a2), (3, .int a3)]) dX6_at_61 (by decide) rfl rfl ?_
        refine ab_iload_n (pc' := 64) (q := 4) dX6_at_63 rfl rfl rfl ?_
        by_cases c16 : (a3 : Int32) = 0
        · have hf := ab_ip c16 hf
          refine ab_lookC (tgt := 92) dX6_at_64 c16 (by decide) rfl (by decide) ?_
          refine ab_aload (pc' := 94) (q := 0) dX6_at_92 rfl rfl ?_
          obtain ⟨x17, ex17, hf⟩ := ab_bd hf
          refine ab_getI (pc' := 97) (ci := 0) (k := 6) dX6_at_94 rfl (by decide) fl_X6_152 ex17 rfl ?_
          have hf := Option.some.inj hf
          subst hf
          exact ab_iret rfl dX6_at_97 hK
        have hf := ab_iN c16 hf
        by_cases c18 : (a3 : Int32) = 1
        · have hf := ab_ip c18 hf
          refine ab_lookC (tgt := 98) dX6_at_64 c18 (by decide) rfl (by decide) ?_
          refine ab_aload (pc' := 100) (q := 0) dX6_at_98 rfl rfl ?_
          obtain ⟨x19, ex19, hf⟩ := ab_bd hf
          refine ab_getI (pc' := 103) (ci := 0) (k := 5) dX6_at_100 rfl (by decide) fl_X6_149 ex19 rfl ?_
          refine ab_iconst (pc' := 104) (v := 1) dX6_at_103 (by decide) rfl ?_
          refine ab_isub (pc' := 105) dX6_at_104 rfl ?_
          have hf := Option.some.inj hf
          subst hf
          exact ab_iret rfl dX6_at_105 hK
        have hf := ab_iN c18 hf
        refine ab_look2 (tgt := 106) dX6_at_64 (ab_ne (by decide) c16) (ab_ne (by decide) c18) (by decide) (by decide) ?_
        refine ab_aload (pc' := 108) (q := 0) dX6_at_106 rfl rfl ?_
        obtain ⟨x20, ex20, hf⟩ := ab_bd hf
        refine ab_getI (pc' := 111) (ci := 0) (k := 0) dX6_at_108 rfl (by decide) fl_X6_125 ex20 rfl ?_
        have hf := Option.some.inj hf
        subst hf
        exact ab_iret rfl dX6_at_111 hK
      · have hf := ab_ip c8 hf
        refine ab_drop (ls' := []) [] rfl ?_
        exact kbX6_at_35 hf hK
  · have hf := ab_ip c2 hf
    refine ab_iconst (pc' := 8) (v := (-1)) dX6_at_7 (by decide) rfl ?_
    have hf := Option.some.inj hf
    subst hf
    exact ab_iret rfl dX6_at_8 hK
-- DiskRests.fate(I)I (mode W, depth 6)
def fX6_fate (h : ab_H) (a0 : Nat) (a1 : Int32) : Option (Int32 × ab_H) := (ab_gR h a0 6 0).bind (fun r1 => (ab_gR h r1 5 1).bind (fun r2 => (ab_ob h r2 3).bind (fun u3 => (fX3_has h r2 a1).bind (fun x4 => if (x4 : Int32) = 0 then some ((-1), h) else (ab_ob h a0 6).bind (fun u6 => (fX6_wholeRun h a0).bind (fun q7 => (ab_gR q7.2 q7.1 4 2).bind (fun r8 => (ab_aI q7.2 r8 a1).bind (fun x9 => some (x9, q7.2)))))))))
set_option maxRecDepth 20000 in
set_option maxHeartbeats 1000000 in
theorem kX6_fate {l : Launch} {g : ab_G} {K : ab_K} {h : ab_H} {a0 : Nat} {a1 : Int32} {r : (Int32 × ab_H)} (hf : fX6_fate h a0 a1 = some r) (hK : K (some (.int r.1)) r.2) : ab_S l g mX6_fate 6 0 0 [.ref a0, .int a1] h K := by
  unfold fX6_fate at hf
  refine ab_enter (ls := [(0, .ref a0), (1, .int a1)]) (by decide +kernel) rfl (Nat.le_of_ble_eq_true rfl) rfl ?_
  refine ab_aload_n (pc' := 1) (q := 0) dX6_fate_0 rfl rfl rfl ?_
  obtain ⟨r1, er1, hf⟩ := ab_bd hf
  refine ab_getR (pc' := 4) (ci := 6) (k := 0) dX6_fate_1 rfl (by decide) fl_X6_10 er1 rfl ?_
  obtain ⟨r2, er2, hf⟩ := ab_bd hf
  refine ab_getR (pc' := 7) (ci := 5) (k := 1) dX6_fate_4 rfl (by decide) fl_X6_83 er2 rfl ?_
  refine ab_iload_n (pc' := 8) (q := 1) dX6_fate_7 rfl rfl rfl ?_
  obtain ⟨u3, eu3, hf⟩ := ab_bd hf
  obtain ⟨x4, ex4, hf⟩ := ab_bd hf
  refine ab_callV (pc' := 11) (Mc := mX3_has) (as := [.int a1]) (st := []) dX6_fate_8 ml_X6_96 okX3_has im_X3_has se_X3_has rfl eu3 rfl (by decide) (Nat.le_of_ble_eq_true rfl) (Nat.le_of_ble_eq_true rfl) (Nat.le_of_ble_eq_true rfl) rfl rfl (kX3_has ex4 ?_)
  show ab_Ev l g mX6_fate 6 0 0 11 [(0, .ref a0), (1, .int a1)] [.int x4] h 0 0 K
  refine ab_if_ne (pc' := 14) (tgt := 16) dX6_fate_11 (by decide) rfl (fun c5 => ?_) (fun c5 => ?_)
  · have hf := ab_iN c5 hf
    refine ab_aload_n (pc' := 17) (q := 0) dX6_fate_16 rfl rfl rfl ?_
    obtain ⟨u6, eu6, hf⟩ := ab_bd hf
    obtain ⟨q7, eq7, hf⟩ := ab_bd hf
    refine ab_callV (pc' := 20) (Mc := mX6_wholeRun) (as := []) (st := []) dX6_fate_17 ml_X6_117 okX6_wholeRun im_X6_wholeRun se_X6_wholeRun rfl eu6 rfl (by decide) (Nat.le_of_ble_eq_true rfl) (Nat.le_of_ble_eq_true rfl) (Nat.le_of_ble_eq_true rfl) rfl rfl (kX6_wholeRun eq7 ?_)
    show ab_Ev l g mX6_fate 6 0 0 20 [(0, .ref a0), (1, .int a1)] [.ref q7.1] q7.2 0 0 K
    obtain ⟨r8, er8, hf⟩ := ab_bd hf
    refine ab_getR (pc' := 23) (ci := 4) (k := 2) dX6_fate_20 rfl (by decide) fl_X6_162 er8 rfl ?_
    refine ab_iload_n (pc' := 24) (q := 1) dX6_fate_23 rfl rfl rfl ?_
    obtain ⟨x9, ex9, hf⟩ := ab_bd hf
    refine ab_iald (pc' := 25) dX6_fate_24 ex9 rfl ?_
    have hf := Option.some.inj hf
    subst hf
    exact ab_iret rfl dX6_fate_25 hK
  · have hf := ab_ip c5 hf
    refine ab_iconst (pc' := 15) (v := (-1)) dX6_fate_14 (by decide) rfl ?_
    have hf := Option.some.inj hf
    subst hf
    exact ab_iret rfl dX6_fate_15 hK
-- DiskRests.waiting(I)I (mode W, depth 6)
def fX6_waiting (h : ab_H) (a0 : Nat) (a1 : Int32) : Option (Int32 × ab_H) := (ab_ob h a0 6).bind (fun u1 => (fX6_wholeRun h a0).bind (fun q2 => (ab_gI q2.2 q2.1 4 4).bind (fun x3 => (fX6_within a1 0 (x3 - 1)).bind (fun x4 => if (x4 : Int32) = 0 then some ((-6), q2.2) else (ab_gR q2.2 q2.1 4 3).bind (fun r6 => (ab_aI q2.2 r6 a1).bind (fun x7 => some (x7, q2.2)))))))
set_option maxRecDepth 20000 in
set_option maxHeartbeats 1000000 in
theorem kX6_waiting {l : Launch} {g : ab_G} {K : ab_K} {h : ab_H} {a0 : Nat} {a1 : Int32} {r : (Int32 × ab_H)} (hf : fX6_waiting h a0 a1 = some r) (hK : K (some (.int r.1)) r.2) : ab_S l g mX6_waiting 6 0 0 [.ref a0, .int a1] h K := by
  unfold fX6_waiting at hf
  refine ab_enter (ls := [(0, .ref a0), (1, .int a1)]) (by decide +kernel) rfl (Nat.le_of_ble_eq_true rfl) rfl ?_
  refine ab_aload_n (pc' := 1) (q := 0) dX6_waiting_0 rfl rfl rfl ?_
  obtain ⟨u1, eu1, hf⟩ := ab_bd hf
  obtain ⟨q2, eq2, hf⟩ := ab_bd hf
  refine ab_callV (pc' := 4) (Mc := mX6_wholeRun) (as := []) (st := []) dX6_waiting_1 ml_X6_117 okX6_wholeRun im_X6_wholeRun se_X6_wholeRun rfl eu1 rfl (by decide) (Nat.le_of_ble_eq_true rfl) (Nat.le_of_ble_eq_true rfl) (Nat.le_of_ble_eq_true rfl) rfl rfl (kX6_wholeRun eq2 ?_)
  show ab_Ev l g mX6_waiting 6 0 0 4 [(0, .ref a0), (1, .int a1)] [.ref q2.1] q2.2 0 0 K
  refine ab_astore_n (pc' := 5) (ls' := [(2, .ref q2.1), (0, .ref a0), (1, .int a1)]) dX6_waiting_4 rfl (by decide) rfl rfl ?_
  refine ab_iload_n (pc' := 6) (q := 2) dX6_waiting_5 rfl rfl rfl ?_
  refine ab_iconst (pc' := 7) (v := 0) dX6_waiting_6 (by decide) rfl ?_
  refine ab_aload_n (pc' := 8) (q := 0) dX6_waiting_7 rfl rfl rfl ?_
  obtain ⟨x3, ex3, hf⟩ := ab_bd hf
  refine ab_getI (pc' := 11) (ci := 4) (k := 4) dX6_waiting_8 rfl (by decide) fl_X6_165 ex3 rfl ?_
  refine ab_iconst (pc' := 12) (v := 1) dX6_waiting_11 (by decide) rfl ?_
  refine ab_isub (pc' := 13) dX6_waiting_12 rfl ?_
  obtain ⟨x4, ex4, hf⟩ := ab_bd hf
  refine ab_callS (pc' := 16) (Mc := mX6_within) (as := [.int a1, .int 0, .int (x3 - 1)]) (st := []) dX6_waiting_13 ml_X6_42 okX6_within ss_X6_within rfl (by decide) (Nat.le_of_ble_eq_true rfl) (Nat.le_of_ble_eq_true rfl) (Nat.le_of_ble_eq_true rfl) rfl rfl (kX6_within ex4 ?_)
  show ab_Ev l g mX6_waiting 6 0 0 16 [(2, .ref q2.1), (0, .ref a0), (1, .int a1)] [.int x4] q2.2 0 0 K
  refine ab_if_eq (pc' := 19) (tgt := 28) dX6_waiting_16 (by decide) rfl (fun c5 => ?_) (fun c5 => ?_)
  · have hf := ab_ip c5 hf
    refine ab_bipush (pc' := 30) (v := (-6)) dX6_waiting_28 (by decide) rfl ?_
    have hf := Option.some.inj hf
    subst hf
    exact ab_iret rfl dX6_waiting_30 hK
  · have hf := ab_iN c5 hf
    refine ab_aload_n (pc' := 20) (q := 0) dX6_waiting_19 rfl rfl rfl ?_
    obtain ⟨r6, er6, hf⟩ := ab_bd hf
    refine ab_getR (pc' := 23) (ci := 4) (k := 3) dX6_waiting_20 rfl (by decide) fl_X6_166 er6 rfl ?_
    refine ab_iload_n (pc' := 24) (q := 2) dX6_waiting_23 rfl rfl rfl ?_
    obtain ⟨x7, ex7, hf⟩ := ab_bd hf
    refine ab_iald (pc' := 25) dX6_waiting_24 ex7 rfl ?_
    refine ab_goto (tgt := 30) dX6_waiting_25 (by decide) ?_
    have hf := Option.some.inj hf
    subst hf
    exact ab_iret rfl dX6_waiting_30 hK
-- DiskRests$Disk.leastCost(I)I (mode R, depth 2)
def fX1_leastCost (h : ab_H) (a0 : Nat) (a1 : Int32) : Option Int32 := (ab_ob h a0 1).bind (fun u1 => (fX1_cheapestLevel h a0 a1).bind (fun x2 => (ab_ob h a0 1).bind (fun u3 => (fX1_levelCost h a0 x2 a1).bind (fun x4 => some x4))))
set_option maxRecDepth 20000 in
set_option maxHeartbeats 1000000 in
theorem kX1_leastCost {l : Launch} {g : ab_G} {K : ab_K} {h : ab_H} {a0 : Nat} {a1 : Int32} {r : Int32} (hf : fX1_leastCost h a0 a1 = some r) (hK : K (some (.int r)) h) : ab_S l g mX1_leastCost 2 0 0 [.ref a0, .int a1] h K := by
  unfold fX1_leastCost at hf
  refine ab_enter (ls := [(0, .ref a0), (1, .int a1)]) (by decide +kernel) rfl (Nat.le_of_ble_eq_true rfl) rfl ?_
  refine ab_aload_n (pc' := 1) (q := 0) dX1_leastCost_0 rfl rfl rfl ?_
  refine ab_aload_n (pc' := 2) (q := 0) dX1_leastCost_1 rfl rfl rfl ?_
  refine ab_iload_n (pc' := 3) (q := 1) dX1_leastCost_2 rfl rfl rfl ?_
  obtain ⟨u1, eu1, hf⟩ := ab_bd hf
  obtain ⟨x2, ex2, hf⟩ := ab_bd hf
  refine ab_callV (pc' := 6) (Mc := mX1_cheapestLevel) (as := [.int a1]) (st := [.ref a0]) dX1_leastCost_3 ml_X1_47 okX1_cheapestLevel im_X1_cheapestLevel se_X1_cheapestLevel rfl eu1 rfl (by decide) (Nat.le_of_ble_eq_true rfl) (Nat.le_of_ble_eq_true rfl) (Nat.le_of_ble_eq_true rfl) rfl rfl (kX1_cheapestLevel ex2 ?_)
  show ab_Ev l g mX1_leastCost 2 0 0 6 [(0, .ref a0), (1, .int a1)] [.int x2, .ref a0] h 0 0 K
  refine ab_iload_n (pc' := 7) (q := 1) dX1_leastCost_6 rfl rfl rfl ?_
  obtain ⟨u3, eu3, hf⟩ := ab_bd hf
  obtain ⟨x4, ex4, hf⟩ := ab_bd hf
  refine ab_callV (pc' := 10) (Mc := mX1_levelCost) (as := [.int x2, .int a1]) (st := []) dX1_leastCost_7 ml_X1_51 okX1_levelCost im_X1_levelCost se_X1_levelCost rfl eu3 rfl (by decide) (Nat.le_of_ble_eq_true rfl) (Nat.le_of_ble_eq_true rfl) (Nat.le_of_ble_eq_true rfl) rfl rfl (kX1_levelCost ex4 ?_)
  show ab_Ev l g mX1_leastCost 2 0 0 10 [(0, .ref a0), (1, .int a1)] [.int x4] h 0 0 K
  have hf := Option.some.inj hf
  subst hf
  exact ab_iret rfl dX1_leastCost_10 hK
-- DiskRests$Gaps.add(III)V (mode W, depth 0)
def fX2_add (h : ab_H) (a0 : Nat) (a1 : Int32) (a2 : Int32) (a3 : Int32) : Option ab_H := (ab_gR h a0 2 1).bind (fun r1 => (ab_gI h a0 2 4).bind (fun x2 => (ab_sI h r1 x2 a1).bind (fun h3 => (ab_gR h3 a0 2 2).bind (fun r4 => (ab_gI h3 a0 2 4).bind (fun x5 => (ab_sI h3 r4 x5 a2).bind (fun h6 => (ab_gR h6 a0 2 3).bind (fun r7 => (ab_gI h6 a0 2 4).bind (fun x8 => (ab_sI h6 r7 x8 (a2 - a3)).bind (fun h9 => (ab_gI h9 a0 2 4).bind (fun x10 => (ab_pV h9 a0 2 4 (.int (x10 + 1))).bind (fun h11 => some h11)))))))))))
set_option maxRecDepth 20000 in
set_option maxHeartbeats 1000000 in
theorem kX2_add {l : Launch} {g : ab_G} {K : ab_K} {h : ab_H} {a0 : Nat} {a1 : Int32} {a2 : Int32} {a3 : Int32} {r : ab_H} (hf : fX2_add h a0 a1 a2 a3 = some r) (hK : K none r) : ab_S l g mX2_add 0 0 0 [.ref a0, .int a1, .int a2, .int a3] h K := by
  unfold fX2_add at hf
  refine ab_enter (ls := [(0, .ref a0), (1, .int a1), (2, .int a2), (3, .int a3)]) (by decide +kernel) rfl (Nat.le_of_ble_eq_true rfl) rfl ?_
  refine ab_aload_n (pc' := 1) (q := 0) dX2_add_0 rfl rfl rfl ?_
  obtain ⟨r1, er1, hf⟩ := ab_bd hf
  refine ab_getR (pc' := 4) (ci := 2) (k := 1) dX2_add_1 rfl (by decide) fl_X2_15 er1 rfl ?_
  refine ab_aload_n (pc' := 5) (q := 0) dX2_add_4 rfl rfl rfl ?_
  obtain ⟨x2, ex2, hf⟩ := ab_bd hf
  refine ab_getI (pc' := 8) (ci := 2) (k := 4) dX2_add_5 rfl (by decide) fl_X2_40 ex2 rfl ?_
  refine ab_iload_n (pc' := 9) (q := 1) dX2_add_8 rfl rfl rfl ?_
  obtain ⟨h3, eh3, hf⟩ := ab_bd hf
  refine ab_iast (pc' := 10) dX2_add_9 eh3 rfl ?_
  refine ab_aload_n (pc' := 11) (q := 0) dX2_add_10 rfl rfl rfl ?_
  obtain ⟨r4, er4, hf⟩ := ab_bd hf
  refine ab_getR (pc' := 14) (ci := 2) (k := 2) dX2_add_11 rfl (by decide) fl_X2_18 er4 rfl ?_
  refine ab_aload_n (pc' := 15) (q := 0) dX2_add_14 rfl rfl rfl ?_
  obtain ⟨x5, ex5, hf⟩ := ab_bd hf
  refine ab_getI (pc' := 18) (ci := 2) (k := 4) dX2_add_15 rfl (by decide) fl_X2_40 ex5 rfl ?_
  refine ab_iload_n (pc' := 19) (q := 2) dX2_add_18 rfl rfl rfl ?_
  obtain ⟨h6, eh6, hf⟩ := ab_bd hf
  refine ab_iast (pc' := 20) dX2_add_19 eh6 rfl ?_
  refine ab_aload_n (pc' := 21) (q := 0) dX2_add_20 rfl rfl rfl ?_
  obtain ⟨r7, er7, hf⟩ := ab_bd hf
  refine ab_getR (pc' := 24) (ci := 2) (k := 3) dX2_add_21 rfl (by decide) fl_X2_21 er7 rfl ?_
  refine ab_aload_n (pc' := 25) (q := 0) dX2_add_24 rfl rfl rfl ?_
  obtain ⟨x8, ex8, hf⟩ := ab_bd hf
  refine ab_getI (pc' := 28) (ci := 2) (k := 4) dX2_add_25 rfl (by decide) fl_X2_40 ex8 rfl ?_
  refine ab_iload_n (pc' := 29) (q := 2) dX2_add_28 rfl rfl rfl ?_
  refine ab_iload_n (pc' := 30) (q := 3) dX2_add_29 rfl rfl rfl ?_
  refine ab_isub (pc' := 31) dX2_add_30 rfl ?_
  obtain ⟨h9, eh9, hf⟩ := ab_bd hf
  refine ab_iast (pc' := 32) dX2_add_31 eh9 rfl ?_
  refine ab_aload_n (pc' := 33) (q := 0) dX2_add_32 rfl rfl rfl ?_
  refine ab_dup_ref (pc' := 34) dX2_add_33 rfl ?_
  obtain ⟨x10, ex10, hf⟩ := ab_bd hf
  refine ab_getI (pc' := 37) (ci := 2) (k := 4) dX2_add_34 rfl (by decide) fl_X2_40 ex10 rfl ?_
  refine ab_iconst (pc' := 38) (v := 1) dX2_add_37 (by decide) rfl ?_
  refine ab_iadd (pc' := 39) dX2_add_38 rfl ?_
  obtain ⟨h11, eh11, hf⟩ := ab_bd hf
  refine ab_put (pc' := 42) (ci := 2) (k := 4) dX2_add_39 rfl (by decide) fl_X2_40 rfl (tyX2_ok 4 (by decide)) rfl rfl eh11 rfl ?_
  have hf := Option.some.inj hf
  subst hf
  exact ab_vret rfl dX2_add_42 hK
-- DiskRests$Disk.leastCostToEnd(I)I (mode R, depth 0)
def fX1_leastCostToEnd (h : ab_H) (a0 : Nat) (a1 : Int32) : Option Int32 := (ab_gR h a0 1 0).bind (fun r1 => (ab_gI h a0 1 2).bind (fun x2 => (ab_aI h r1 x2).bind (fun x3 => some (x3 * a1))))
set_option maxRecDepth 20000 in
set_option maxHeartbeats 1000000 in
theorem kX1_leastCostToEnd {l : Launch} {g : ab_G} {K : ab_K} {h : ab_H} {a0 : Nat} {a1 : Int32} {r : Int32} (hf : fX1_leastCostToEnd h a0 a1 = some r) (hK : K (some (.int r)) h) : ab_S l g mX1_leastCostToEnd 0 0 0 [.ref a0, .int a1] h K := by
  unfold fX1_leastCostToEnd at hf
  refine ab_enter (ls := [(0, .ref a0), (1, .int a1)]) (by decide +kernel) rfl (Nat.le_of_ble_eq_true rfl) rfl ?_
  refine ab_aload_n (pc' := 1) (q := 0) dX1_leastCostToEnd_0 rfl rfl rfl ?_
  obtain ⟨r1, er1, hf⟩ := ab_bd hf
  refine ab_getR (pc' := 4) (ci := 1) (k := 0) dX1_leastCostToEnd_1 rfl (by decide) fl_X1_9 er1 rfl ?_
  refine ab_aload_n (pc' := 5) (q := 0) dX1_leastCostToEnd_4 rfl rfl rfl ?_
  obtain ⟨x2, ex2, hf⟩ := ab_bd hf
  refine ab_getI (pc' := 8) (ci := 1) (k := 2) dX1_leastCostToEnd_5 rfl (by decide) fl_X1_24 ex2 rfl ?_
  obtain ⟨x3, ex3, hf⟩ := ab_bd hf
  refine ab_iald (pc' := 9) dX1_leastCostToEnd_8 ex3 rfl ?_
  refine ab_iload_n (pc' := 10) (q := 1) dX1_leastCostToEnd_9 rfl rfl rfl ?_
  refine ab_imul (pc' := 11) dX1_leastCostToEnd_10 rfl ?_
  have hf := Option.some.inj hf
  subst hf
  exact ab_iret rfl dX1_leastCostToEnd_11 hK
-- DiskRests$Gaps.find(LDiskRests$Setup;I)V (mode W, depth 3)
def bX2_find_120 (rec : Int32 → Int32 → ab_H → Option (Int32 × ab_H)) (v0 : Nat) (v1 : Nat) (v2 : Int32) (v3 : Nat) (v4 : Nat) (v5 : Int32) (v6 : Int32) (h : ab_H) : Option (Int32 × ab_H) := rec v5 (v6 + 1) h
set_option maxRecDepth 20000 in
set_option maxHeartbeats 1000000 in
theorem kbX2_find_120 {l : Launch} {g : ab_G} {K : ab_K} {h : ab_H} {v0 : Nat} {v1 : Nat} {v2 : Int32} {v3 : Nat} {v4 : Nat} {v5 : Int32} {v6 : Int32} {q : (Int32 × ab_H)} {rec : Int32 → Int32 → ab_H → Option (Int32 × ab_H)} (ih : ∀ (w5 : Int32) (w6 : Int32) (hw : ab_H), rec w5 w6 hw = some q → ab_Ev l g mX2_find 3 0 0 32 [(0, .ref v0), (1, .ref v1), (2, .int v2), (3, .ref v3), (4, .ref v4), (5, .int w5), (6, .int w6)] [] hw 0 0 K) (hx : ab_Ev l g mX2_find 3 0 0 126 [(0, .ref v0), (1, .ref v1), (4, .ref v4), (5, .int q.1)] [] q.2 0 0 K) (hf : bX2_find_120 rec v0 v1 v2 v3 v4 v5 v6 h = some q) : ab_Ev l g mX2_find 3 0 0 120 [(0, .ref v0), (1, .ref v1), (2, .int v2), (3, .ref v3), (4, .ref v4), (5, .int v5), (6, .int v6)] [] h 0 0 K := by
  unfold bX2_find_120 at hf
  refine ab_iinc (pc' := 123) (q := 6) (v := (v6 + 1)) (ls' := [(6, .int (v6 + 1)), (0, .ref v0), (1, .ref v1), (2, .int v2), (3, .ref v3), (4, .ref v4), (5, .int v5)]) dX2_find_120 rfl rfl (by decide) rfl rfl ?_
  refine ab_goto (tgt := 32) dX2_find_123 (by decide) ?_
  refine ab_drop (ls' := [(0, .ref v0), (1, .ref v1), (2, .int v2), (3, .ref v3), (4, .ref v4), (5, .int v5), (6, .int (v6 + 1))]) [1, 2, 3, 4, 5, 6, 0] rfl ?_
  exact ih _ _ _ hf
def lX2_find_32 (v0 : Nat) (v1 : Nat) (v2 : Int32) (v3 : Nat) (v4 : Nat) : Nat → Int32 → Int32 → ab_H → Option (Int32 × ab_H)
  | 0, _, _, _ => none
  | n + 1, v5, v6, h => (ab_gI h v3 3 3).bind (fun x8 => if x8 ≤ (v6 : Int32) then some (v5, h) else (ab_gR h v3 3 0).bind (fun r10 => (ab_gR h v0 2 0).bind (fun r11 => (ab_aI h r11 v6).bind (fun x12 => (ab_aI h r10 x12).bind (fun x13 => (ab_gR h v3 3 1).bind (fun r14 => (ab_gR h v0 2 0).bind (fun r15 => (ab_aI h r15 v6).bind (fun x16 => (ab_aI h r14 x16).bind (fun x17 => if (x17 : Int32) = v2 then (ab_gI h v1 5 2).bind (fun x19 => if x19 ≤ (x13 : Int32) then bX2_find_120 (lX2_find_32 v0 v1 v2 v3 v4 n) v0 v1 v2 v3 v4 v5 v6 h else if (x13 : Int32) ≤ v5 then bX2_find_120 (lX2_find_32 v0 v1 v2 v3 v4 n) v0 v1 v2 v3 v4 v5 v6 h else (ab_gR h v4 1 0).bind (fun r22 => (ab_aI h r22 0).bind (fun x23 => (ab_ob h v4 1).bind (fun u24 => (fX1_leastCost h v4 (x13 - v5)).bind (fun x25 => (ab_ob h v0 2).bind (fun u26 => (fX2_add h v0 x13 (x23 * (x13 - v5)) x25).bind (fun h27 => bX2_find_120 (lX2_find_32 v0 v1 v2 v3 v4 n) v0 v1 v2 v3 v4 x13 v6 h27))))))) else bX2_find_120 (lX2_find_32 v0 v1 v2 v3 v4 n) v0 v1 v2 v3 v4 v5 v6 h)))))))))
set_option maxRecDepth 20000 in
set_option maxHeartbeats 1000000 in
theorem klX2_find_32 {l : Launch} {g : ab_G} {K : ab_K} {v0 : Nat} {v1 : Nat} {v2 : Int32} {v3 : Nat} {v4 : Nat} {q : (Int32 × ab_H)} (hx : ab_Ev l g mX2_find 3 0 0 126 [(0, .ref v0), (1, .ref v1), (4, .ref v4), (5, .int q.1)] [] q.2 0 0 K) : ∀ (n : Nat) (v5 : Int32) (v6 : Int32) (h : ab_H), lX2_find_32 v0 v1 v2 v3 v4 n v5 v6 h = some q → ab_Ev l g mX2_find 3 0 0 32 [(0, .ref v0), (1, .ref v1), (2, .int v2), (3, .ref v3), (4, .ref v4), (5, .int v5), (6, .int v6)] [] h 0 0 K := by
  intro n
  induction n with
  | zero => intro v5 v6 h hf; cases (show (none : Option (Int32 × ab_H)) = some q from hf)
  | succ n ih =>
    intro v5 v6 h hf
    rw [lX2_find_32] at hf
    refine ab_iload (pc' := 34) (q := 6) dX2_find_32 rfl rfl ?_
    refine ab_aload_n (pc' := 35) (q := 3) dX2_find_34 rfl rfl rfl ?_
    obtain ⟨x8, ex8, hf⟩ := ab_bd hf
    refine ab_getI (pc' := 38) (ci := 3) (k := 3) dX2_find_35 rfl (by decide) fl_X2_44 ex8 rfl ?_
    refine ab_icmp_ge (pc' := 41) (tgt := 126) dX2_find_38 (by decide) rfl (fun c9 => ?_) (fun c9 => ?_)
    · have hf := ab_ip c9 hf
      have hf := Option.some.inj hf
      subst hf
      refine ab_drop (ls' := [(0, .ref v0), (1, .ref v1), (4, .ref v4), (5, .int v5)]) [0, 1, 4, 5] rfl ?_
      exact hx
    · have hf := ab_iN c9 hf
      refine ab_aload_n (pc' := 42) (q := 3) dX2_find_41 rfl rfl rfl ?_
      obtain ⟨r10, er10, hf⟩ := ab_bd hf
      refine ab_getR (pc' := 45) (ci := 3) (k := 0) dX2_find_42 rfl (by decide) fl_X2_45 er10 rfl ?_
      refine ab_aload_n (pc' := 46) (q := 0) dX2_find_45 rfl rfl rfl ?_
      obtain ⟨r11, er11, hf⟩ := ab_bd hf
      refine ab_getR (pc' := 49) (ci := 2) (k := 0) dX2_find_46 rfl (by decide) fl_X2_9 er11 rfl ?_
      refine ab_iload (pc' := 51) (q := 6) dX2_find_49 rfl rfl ?_
      obtain ⟨x12, ex12, hf⟩ := ab_bd hf
      refine ab_iald (pc' := 52) dX2_find_51 ex12 rfl ?_
      obtain ⟨x13, ex13, hf⟩ := ab_bd hf
      refine ab_iald (pc' := 53) dX2_find_52 ex13 rfl ?_
      refine ab_istore (pc' := 55) (ls' := [(7, .int x13), (0, .ref v0), (1, .ref v1), (2, .int v2), (3, .ref v3), (4, .ref v4), (5, .int v5), (6, .int v6)]) dX2_find_53 (by decide) rfl rfl ?_
      refine ab_aload_n (pc' := 56) (q := 4) dX2_find_55 rfl rfl rfl ?_
      obtain ⟨r14, er14, hf⟩ := ab_bd hf
      refine ab_getR (pc' := 59) (ci := 3) (k := 1) dX2_find_56 rfl (by decide) fl_X2_48 er14 rfl ?_
      refine ab_aload_n (pc' := 60) (q := 1) dX2_find_59 rfl rfl rfl ?_
      obtain ⟨r15, er15, hf⟩ := ab_bd hf
      refine ab_getR (pc' := 63) (ci := 2) (k := 0) dX2_find_60 rfl (by decide) fl_X2_9 er15 rfl ?_
      refine ab_iload (pc' := 65) (q := 7) dX2_find_63 rfl rfl ?_
      obtain ⟨x16, ex16, hf⟩ := ab_bd hf
      refine ab_iald (pc' := 66) dX2_find_65 ex16 rfl ?_
      obtain ⟨x17, ex17, hf⟩ := ab_bd hf
      refine ab_iald (pc' := 67) dX2_find_66 ex17 rfl ?_
      refine ab_iload_n (pc' := 68) (q := 3) dX2_find_67 rfl rfl rfl ?_
      refine ab_icmp_ne (pc' := 71) (tgt := 120) dX2_find_68 (by decide) rfl (fun c18 => ?_) (fun c18 => ?_)
      · have hf := ab_iN c18 hf
        refine ab_drop (ls' := [(0, .ref v0), (1, .ref v1), (2, .int v2), (3, .ref v3), (4, .ref v4), (5, .int v5), (6, .int v6)]) [1, 2, 3, 4, 5, 6, 7] rfl ?_
        exact kbX2_find_120 ih hx hf
      · have hf := ab_ip c18 hf
        refine ab_iload (pc' := 73) (q := 0) dX2_find_71 rfl rfl ?_
        refine ab_aload_n (pc' := 74) (q := 2) dX2_find_73 rfl rfl rfl ?_
        obtain ⟨x19, ex19, hf⟩ := ab_bd hf
        refine ab_getI (pc' := 77) (ci := 5) (k := 2) dX2_find_74 rfl (by decide) fl_X2_50 ex19 rfl ?_
        refine ab_icmp_ge (pc' := 80) (tgt := 120) dX2_find_77 (by decide) rfl (fun c20 => ?_) (fun c20 => ?_)
        · have hf := ab_ip c20 hf
          refine ab_drop (ls' := [(0, .ref v0), (1, .ref v1), (2, .int v2), (3, .ref v3), (4, .ref v4), (5, .int v5), (6, .int v6)]) [1, 2, 3, 4, 5, 6, 7] rfl ?_
          exact kbX2_find_120 ih hx hf
        · have hf := ab_iN c20 hf
          refine ab_iload (pc' := 82) (q := 0) dX2_find_80 rfl rfl ?_
          refine ab_iload (pc' := 84) (q := 6) dX2_find_82 rfl rfl ?_
          refine ab_icmp_le (pc' := 87) (tgt := 120) dX2_find_84 (by decide) rfl (fun c21 => ?_) (fun c21 => ?_)
          · have hf := ab_ip c21 hf
            refine ab_drop (ls' := [(0, .ref v0), (1, .ref v1), (2, .int v2), (3, .ref v3), (4, .ref v4), (5, .int v5), (6, .int v6)]) [1, 2, 3, 4, 5, 6, 7] rfl ?_
            exact kbX2_find_120 ih hx hf
          · have hf := ab_iN c21 hf
            refine ab_aload_n (pc' := 88) (q := 1) dX2_find_87 rfl rfl rfl ?_
            refine ab_iload (pc' := 90) (q := 0) dX2_find_88 rfl rfl ?_
            refine ab_aload (pc' := 92) (q := 5) dX2_find_90 rfl rfl ?_
            obtain ⟨r22, er22, hf⟩ := ab_bd hf
            refine ab_getR (pc' := 95) (ci := 1) (k := 0) dX2_find_92 rfl (by decide) fl_X2_53 er22 rfl ?_
            refine ab_iconst (pc' := 96) (v := 0) dX2_find_95 (by decide) rfl ?_
            obtain ⟨x23, ex23, hf⟩ := ab_bd hf
            refine ab_iald (pc' := 97) dX2_find_96 ex23 rfl ?_
            refine ab_iload (pc' := 99) (q := 0) dX2_find_97 rfl rfl ?_
            refine ab_iload (pc' := 101) (q := 6) dX2_find_99 rfl rfl ?_
            refine ab_isub (pc' := 102) dX2_find_101 rfl ?_
            refine ab_imul (pc' := 103) dX2_find_102 rfl ?_
            refine ab_aload (pc' := 105) (q := 5) dX2_find_103 rfl rfl ?_
            refine ab_iload (pc' := 107) (q := 0) dX2_find_105 rfl rfl ?_
            refine ab_iload (pc' := 109) (q := 6) dX2_find_107 rfl rfl ?_
            refine ab_isub (pc' := 110) dX2_find_109 rfl ?_
            obtain ⟨u24, eu24, hf⟩ := ab_bd hf
            obtain ⟨x25, ex25, hf⟩ := ab_bd hf
            refine ab_callV (pc' := 113) (Mc := mX1_leastCost) (as := [.int (x13 - v5)]) (st := [.int (x23 * (x13 - v5)), .int x13, .ref v0]) dX2_find_110 ml_X2_58 okX1_leastCost im_X1_leastCost se_X1_leastCost rfl eu24 rfl (by decide) (Nat.le_of_ble_eq_true rfl) (Nat.le_of_ble_eq_true rfl) (Nat.le_of_ble_eq_true rfl) rfl rfl (kX1_leastCost ex25 ?_)
            show ab_Ev l g mX2_find 3 0 0 113 [(7, .int x13), (0, .ref v0), (1, .ref v1), (2, .int v2), (3, .ref v3), (4, .ref v4), (5, .int v5), (6, .int v6)] [.int x25, .int (x23 * (x13 - v5)), .int x13, .ref v0] h 0 0 K
            obtain ⟨u26, eu26, hf⟩ := ab_bd hf
            obtain ⟨h27, eh27, hf⟩ := ab_bd hf
            refine ab_callV (pc' := 116) (Mc := mX2_add) (as := [.int x13, .int (x23 * (x13 - v5)), .int x25]) (st := []) dX2_find_113 ml_X2_62 okX2_add im_X2_add se_X2_add rfl eu26 rfl (by decide) (Nat.le_of_ble_eq_true rfl) (Nat.le_of_ble_eq_true rfl) (Nat.le_of_ble_eq_true rfl) rfl rfl (kX2_add eh27 ?_)
            show ab_Ev l g mX2_find 3 0 0 116 [(7, .int x13), (0, .ref v0), (1, .ref v1), (2, .int v2), (3, .ref v3), (4, .ref v4), (5, .int v5), (6, .int v6)] [] h27 0 0 K
            refine ab_iload (pc' := 118) (q := 0) dX2_find_116 rfl rfl ?_
            refine ab_istore (pc' := 120) (ls' := [(5, .int x13), (7, .int x13), (0, .ref v0), (1, .ref v1), (2, .int v2), (3, .ref v3), (4, .ref v4), (6, .int v6)]) dX2_find_118 (by decide) rfl rfl ?_
            refine ab_drop (ls' := [(0, .ref v0), (1, .ref v1), (2, .int v2), (3, .ref v3), (4, .ref v4), (5, .int x13), (6, .int v6)]) [2, 3, 4, 5, 6, 0, 7] rfl ?_
            exact kbX2_find_120 ih hx hf
def fX2_find (h : ab_H) (a0 : Nat) (a1 : Nat) (a2 : Int32) : Option ab_H := (ab_gR h a1 5 1).bind (fun r1 => (ab_gR h a1 5 0).bind (fun r2 => (ab_aR h r2 a2).bind (fun r3 => (ab_gR h a0 2 0).bind (fun r4 => (ab_ob h r1 3).bind (fun u5 => (fX3_putInOrder h r1 r4).bind (fun h6 => (ab_pV h6 a0 2 4 (.int 0)).bind (fun h7 => (lX2_find_32 a0 a1 a2 r1 r3 ab_fu 0 0 h7).bind (fun q28 => (ab_gI q28.2 a1 5 2).bind (fun x29 => (ab_gI q28.2 a1 5 2).bind (fun x30 => (ab_gR q28.2 r3 1 0).bind (fun r31 => (ab_aI q28.2 r31 0).bind (fun x32 => (ab_ob q28.2 r3 1).bind (fun u33 => (fX1_leastCostToEnd q28.2 r3 (x29 - q28.1)).bind (fun x34 => (ab_ob q28.2 a0 2).bind (fun u35 => (fX2_add q28.2 a0 x30 (x32 * (x29 - q28.1)) x34).bind (fun h36 => some h36))))))))))))))))
set_option maxRecDepth 20000 in
set_option maxHeartbeats 1000000 in
theorem kX2_find {l : Launch} {g : ab_G} {K : ab_K} {h : ab_H} {a0 : Nat} {a1 : Nat} {a2 : Int32} {r : ab_H} (hf : fX2_find h a0 a1 a2 = some r) (hK : K none r) : ab_S l g mX2_find 3 0 0 [.ref a0, .ref a1, .int a2] h K := by
  unfold fX2_find at hf
  refine ab_enter (ls := [(0, .ref a0), (1, .ref a1), (2, .int a2)]) (by decide +kernel) rfl (Nat.le_of_ble_eq_true rfl) rfl ?_
  refine ab_aload_n (pc' := 1) (q := 1) dX2_find_0 rfl rfl rfl ?_
  obtain ⟨r1, er1, hf⟩ := ab_bd hf
  refine ab_getR (pc' := 4) (ci := 5) (k := 1) dX2_find_1 rfl (by decide) fl_X2_24 er1 rfl ?_
  refine ab_astore_n (pc' := 5) (ls' := [(3, .ref r1), (0, .ref a0), (1, .ref a1), (2, .int a2)]) dX2_find_4 rfl (by decide) rfl rfl ?_
  refine ab_aload_n (pc' := 6) (q := 2) dX2_find_5 rfl rfl rfl ?_
  obtain ⟨r2, er2, hf⟩ := ab_bd hf
  refine ab_getR (pc' := 9) (ci := 5) (k := 0) dX2_find_6 rfl (by decide) fl_X2_30 er2 rfl ?_
  refine ab_iload_n (pc' := 10) (q := 3) dX2_find_9 rfl rfl rfl ?_
  obtain ⟨r3, er3, hf⟩ := ab_bd hf
  refine ab_aald (pc' := 11) dX2_find_10 er3 rfl ?_
  refine ab_astore (pc' := 13) (ls' := [(4, .ref r3), (3, .ref r1), (0, .ref a0), (1, .ref a1), (2, .int a2)]) dX2_find_11 (by decide) rfl rfl ?_
  refine ab_aload_n (pc' := 14) (q := 1) dX2_find_13 rfl rfl rfl ?_
  refine ab_aload_n (pc' := 15) (q := 2) dX2_find_14 rfl rfl rfl ?_
  obtain ⟨r4, er4, hf⟩ := ab_bd hf
  refine ab_getR (pc' := 18) (ci := 2) (k := 0) dX2_find_15 rfl (by decide) fl_X2_9 er4 rfl ?_
  obtain ⟨u5, eu5, hf⟩ := ab_bd hf
  obtain ⟨h6, eh6, hf⟩ := ab_bd hf
  refine ab_callV (pc' := 21) (Mc := mX3_putInOrder) (as := [.ref r4]) (st := []) dX2_find_18 ml_X2_34 okX3_putInOrder im_X3_putInOrder se_X3_putInOrder rfl eu5 rfl (by decide) (Nat.le_of_ble_eq_true rfl) (Nat.le_of_ble_eq_true rfl) (Nat.le_of_ble_eq_true rfl) rfl rfl (kX3_putInOrder eh6 ?_)
  show ab_Ev l g mX2_find 3 0 0 21 [(4, .ref r3), (3, .ref r1), (0, .ref a0), (1, .ref a1), (2, .int a2)] [] h6 0 0 K
  refine ab_aload_n (pc' := 22) (q := 2) dX2_find_21 rfl rfl rfl ?_
  refine ab_iconst (pc' := 23) (v := 0) dX2_find_22 (by decide) rfl ?_
  obtain ⟨h7, eh7, hf⟩ := ab_bd hf
  refine ab_put (pc' := 26) (ci := 2) (k := 4) dX2_find_23 rfl (by decide) fl_X2_40 rfl (tyX2_ok 4 (by decide)) rfl rfl eh7 rfl ?_
  refine ab_iconst (pc' := 27) (v := 0) dX2_find_26 (by decide) rfl ?_
  refine ab_istore (pc' := 29) (ls' := [(5, .int 0), (4, .ref r3), (3, .ref r1), (0, .ref a0), (1, .ref a1), (2, .int a2)]) dX2_find_27 (by decide) rfl rfl ?_
  refine ab_iconst (pc' := 30) (v := 0) dX2_find_29 (by decide) rfl ?_
  refine ab_istore (pc' := 32) (ls' := [(6, .int 0), (5, .int 0), (4, .ref r3), (3, .ref r1), (0, .ref a0), (1, .ref a1), (2, .int a2)]) dX2_find_30 (by decide) rfl rfl ?_
  refine ab_drop (ls' := [(0, .ref a0), (1, .ref a1), (2, .int a2), (3, .ref r1), (4, .ref r3), (5, .int 0), (6, .int 0)]) [4, 5, 6, 3, 2, 1, 0] rfl ?_
  obtain ⟨q28, eq28, hf⟩ := ab_bd hf
  refine klX2_find_32 ?_ ab_fu _ _ _ eq28
  refine ab_aload_n (pc' := 127) (q := 1) dX2_find_126 rfl rfl rfl ?_
  obtain ⟨x29, ex29, hf⟩ := ab_bd hf
  refine ab_getI (pc' := 130) (ci := 5) (k := 2) dX2_find_127 rfl (by decide) fl_X2_50 ex29 rfl ?_
  refine ab_iload (pc' := 132) (q := 3) dX2_find_130 rfl rfl ?_
  refine ab_isub (pc' := 133) dX2_find_132 rfl ?_
  refine ab_istore (pc' := 135) (ls' := [(6, .int (x29 - q28.1)), (0, .ref a0), (1, .ref a1), (4, .ref r3), (5, .int q28.1)]) dX2_find_133 (by decide) rfl rfl ?_
  refine ab_aload_n (pc' := 136) (q := 1) dX2_find_135 rfl rfl rfl ?_
  refine ab_aload_n (pc' := 137) (q := 2) dX2_find_136 rfl rfl rfl ?_
  obtain ⟨x30, ex30, hf⟩ := ab_bd hf
  refine ab_getI (pc' := 140) (ci := 5) (k := 2) dX2_find_137 rfl (by decide) fl_X2_50 ex30 rfl ?_
  refine ab_aload (pc' := 142) (q := 3) dX2_find_140 rfl rfl ?_
  obtain ⟨r31, er31, hf⟩ := ab_bd hf
  refine ab_getR (pc' := 145) (ci := 1) (k := 0) dX2_find_142 rfl (by decide) fl_X2_53 er31 rfl ?_
  refine ab_iconst (pc' := 146) (v := 0) dX2_find_145 (by decide) rfl ?_
  obtain ⟨x32, ex32, hf⟩ := ab_bd hf
  refine ab_iald (pc' := 147) dX2_find_146 ex32 rfl ?_
  refine ab_iload (pc' := 149) (q := 0) dX2_find_147 rfl rfl ?_
  refine ab_imul (pc' := 150) dX2_find_149 rfl ?_
  refine ab_aload (pc' := 152) (q := 3) dX2_find_150 rfl rfl ?_
  refine ab_iload (pc' := 154) (q := 0) dX2_find_152 rfl rfl ?_
  obtain ⟨u33, eu33, hf⟩ := ab_bd hf
  obtain ⟨x34, ex34, hf⟩ := ab_bd hf
  refine ab_callV (pc' := 157) (Mc := mX1_leastCostToEnd) (as := [.int (x29 - q28.1)]) (st := [.int (x32 * (x29 - q28.1)), .int x30, .ref a0]) dX2_find_154 ml_X2_66 okX1_leastCostToEnd im_X1_leastCostToEnd se_X1_leastCostToEnd rfl eu33 rfl (by decide) (Nat.le_of_ble_eq_true rfl) (Nat.le_of_ble_eq_true rfl) (Nat.le_of_ble_eq_true rfl) rfl rfl (kX1_leastCostToEnd ex34 ?_)
  show ab_Ev l g mX2_find 3 0 0 157 [(6, .int (x29 - q28.1)), (0, .ref a0), (1, .ref a1), (4, .ref r3), (5, .int q28.1)] [.int x34, .int (x32 * (x29 - q28.1)), .int x30, .ref a0] q28.2 0 0 K
  obtain ⟨u35, eu35, hf⟩ := ab_bd hf
  obtain ⟨h36, eh36, hf⟩ := ab_bd hf
  refine ab_callV (pc' := 160) (Mc := mX2_add) (as := [.int x30, .int (x32 * (x29 - q28.1)), .int x34]) (st := []) dX2_find_157 ml_X2_62 okX2_add im_X2_add se_X2_add rfl eu35 rfl (by decide) (Nat.le_of_ble_eq_true rfl) (Nat.le_of_ble_eq_true rfl) (Nat.le_of_ble_eq_true rfl) rfl rfl (kX2_add eh36 ?_)
  show ab_Ev l g mX2_find 3 0 0 160 [(6, .int (x29 - q28.1)), (0, .ref a0), (1, .ref a1), (4, .ref r3), (5, .int q28.1)] [] h36 0 0 K
  have hf := Option.some.inj hf
  subst hf
  exact ab_vret rfl dX2_find_160 hK
