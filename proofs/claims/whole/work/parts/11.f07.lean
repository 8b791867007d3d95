-- DiskRestsModel.request(III)I (mode W, depth 2)
def bX7_request_29  (h : ab_H) : Option (Int32 × ab_H) := some ((-2), h)
set_option maxRecDepth 20000 in
set_option maxHeartbeats 1000000 in
theorem kbX7_request_29 {l : Launch} {g : ab_G} {K : ab_K} {h : ab_H}  {r : (Int32 × ab_H)} (hf : bX7_request_29 h = some r) (hK : K (some (.int r.1)) r.2) : ab_Ev l g mX7_request 2 0 0 29 [] [] h 0 0 K := by
  unfold bX7_request_29 at hf
  refine ab_bipush (pc' := 31) (v := (-2)) dX7_request_29 (by decide) rfl ?_
  have hf := Option.some.inj hf
  subst hf
  exact ab_iret rfl dX7_request_31 hK
def fX7_request (h : ab_H) (a0 : Nat) (a1 : Int32) (a2 : Int32) (a3 : Int32) : Option (Int32 × ab_H) := (fX7_isDisk a2).bind (fun x1 => if (x1 : Int32) = 0 then some ((-1), h) else (fX7_in a1 0 999).bind (fun x3 => if (x3 : Int32) = 0 then bX7_request_29 h else (fX7_in a3 0 1).bind (fun x5 => if (x5 : Int32) = 0 then bX7_request_29 h else (ab_gI h a0 7 5).bind (fun x7 => if (x7 : Int32) = 40 then some ((-4), h) else (ab_gR h a0 7 6).bind (fun r9 => (ab_gI h a0 7 5).bind (fun x10 => (ab_sI h r9 x10 a1).bind (fun h11 => (ab_gR h11 a0 7 7).bind (fun r12 => (ab_gI h11 a0 7 5).bind (fun x13 => (ab_sI h11 r12 x13 a2).bind (fun h14 => (ab_gR h14 a0 7 8).bind (fun r15 => (ab_gI h14 a0 7 5).bind (fun x16 => (ab_sI h14 r15 x16 a3).bind (fun h17 => (ab_gI h17 a0 7 5).bind (fun x18 => (ab_pV h17 a0 7 5 (.int (x18 + 1))).bind (fun h19 => (ab_gI h19 a0 7 5).bind (fun x20 => some ((x20 - 1), h19)))))))))))))))))
set_option maxRecDepth 20000 in
set_option maxHeartbeats 1000000 in
theorem kX7_request {l : Launch} {g : ab_G} {K : ab_K} {h : ab_H} {a0 : Nat} {a1 : Int32} {a2 : Int32} {a3 : Int32} {r : (Int32 × ab_H)} (hf : fX7_request h a0 a1 a2 a3 = some r) (hK : K (some (.int r.1)) r.2) : ab_S l g mX7_request 2 0 0 [.ref a0, .int a1, .int a2, .int a3] h K := by
  unfold fX7_request at hf
  refine ab_enter (ls := [(0, .ref a0), (1, .int a1), (2, .int a2), (3, .int a3)]) (by decide +kernel) rfl (Nat.le_of_ble_eq_true rfl) rfl ?_
  refine ab_iload_n (pc' := 1) (q := 2) dX7_request_0 rfl rfl rfl ?_
  obtain ⟨x1, ex1, hf⟩ := ab_bd hf
  refine ab_callS (pc' := 4) (Mc := mX7_isDisk) (as := [.int a2]) (st := []) dX7_request_1 ml_X7_97 okX7_isDisk ss_X7_isDisk rfl (by decide) (Nat.le_of_ble_eq_true rfl) (Nat.le_of_ble_eq_true rfl) (Nat.le_of_ble_eq_true rfl) rfl rfl (kX7_isDisk ex1 ?_)
  show ab_Ev l g mX7_request 2 0 0 4 [(0, .ref a0), (1, .int a1), (2, .int a2), (3, .int a3)] [.int x1] h 0 0 K
  refine ab_if_ne (pc' := 7) (tgt := 9) dX7_request_4 (by decide) rfl (fun c2 => ?_) (fun c2 => ?_)
  · have hf := ab_iN c2 hf
    refine ab_iload_n (pc' := 10) (q := 1) dX7_request_9 rfl rfl rfl ?_
    refine ab_iconst (pc' := 11) (v := 0) dX7_request_10 (by decide) rfl ?_
    refine ab_sipush (pc' := 14) (v := 999) dX7_request_11 (by decide) rfl ?_
    obtain ⟨x3, ex3, hf⟩ := ab_bd hf
    refine ab_callS (pc' := 17) (Mc := mX7_in) (as := [.int a1, .int 0, .int 999]) (st := []) dX7_request_14 ml_X7_90 okX7_in ss_X7_in rfl (by decide) (Nat.le_of_ble_eq_true rfl) (Nat.le_of_ble_eq_true rfl) (Nat.le_of_ble_eq_true rfl) rfl rfl (kX7_in ex3 ?_)
    show ab_Ev l g mX7_request 2 0 0 17 [(0, .ref a0), (1, .int a1), (2, .int a2), (3, .int a3)] [.int x3] h 0 0 K
    refine ab_if_eq (pc' := 20) (tgt := 29) dX7_request_17 (by decide) rfl (fun c4 => ?_) (fun c4 => ?_)
    · have hf := ab_ip c4 hf
      refine ab_drop (ls' := []) [] rfl ?_
      exact kbX7_request_29 hf hK
    · have hf := ab_iN c4 hf
      refine ab_iload_n (pc' := 21) (q := 3) dX7_request_20 rfl rfl rfl ?_
      refine ab_iconst (pc' := 22) (v := 0) dX7_request_21 (by decide) rfl ?_
      refine ab_iconst (pc' := 23) (v := 1) dX7_request_22 (by decide) rfl ?_
      obtain ⟨x5, ex5, hf⟩ := ab_bd hf
      refine ab_callS (pc' := 26) (Mc := mX7_in) (as := [.int a3, .int 0, .int 1]) (st := []) dX7_request_23 ml_X7_90 okX7_in ss_X7_in rfl (by decide) (Nat.le_of_ble_eq_true rfl) (Nat.le_of_ble_eq_true rfl) (Nat.le_of_ble_eq_true rfl) rfl rfl (kX7_in ex5 ?_)
      show ab_Ev l g mX7_request 2 0 0 26 [(0, .ref a0), (1, .int a1), (2, .int a2), (3, .int a3)] [.int x5] h 0 0 K
      refine ab_if_ne (pc' := 29) (tgt := 32) dX7_request_26 (by decide) rfl (fun c6 => ?_) (fun c6 => ?_)
      · have hf := ab_iN c6 hf
        refine ab_aload_n (pc' := 33) (q := 0) dX7_request_32 rfl rfl rfl ?_
        obtain ⟨x7, ex7, hf⟩ := ab_bd hf
        refine ab_getI (pc' := 36) (ci := 7) (k := 5) dX7_request_33 rfl (by decide) fl_X7_94 ex7 rfl ?_
        refine ab_bipush (pc' := 38) (v := 40) dX7_request_36 (by decide) rfl ?_
        refine ab_icmp_ne (pc' := 41) (tgt := 44) dX7_request_38 (by decide) rfl (fun c8 => ?_) (fun c8 => ?_)
        · have hf := ab_iN c8 hf
          refine ab_aload_n (pc' := 45) (q := 0) dX7_request_44 rfl rfl rfl ?_
          obtain ⟨r9, er9, hf⟩ := ab_bd hf
          refine ab_getR (pc' := 48) (ci := 7) (k := 6) dX7_request_45 rfl (by decide) fl_X7_25 er9 rfl ?_
          refine ab_aload_n (pc' := 49) (q := 0) dX7_request_48 rfl rfl rfl ?_
          obtain ⟨x10, ex10, hf⟩ := ab_bd hf
          refine ab_getI (pc' := 52) (ci := 7) (k := 5) dX7_request_49 rfl (by decide) fl_X7_94 ex10 rfl ?_
          refine ab_iload_n (pc' := 53) (q := 1) dX7_request_52 rfl rfl rfl ?_
          obtain ⟨h11, eh11, hf⟩ := ab_bd hf
          refine ab_iast (pc' := 54) dX7_request_53 eh11 rfl ?_
          refine ab_aload_n (pc' := 55) (q := 0) dX7_request_54 rfl rfl rfl ?_
          obtain ⟨r12, er12, hf⟩ := ab_bd hf
          refine ab_getR (pc' := 58) (ci := 7) (k := 7) dX7_request_55 rfl (by decide) fl_X7_28 er12 rfl ?_
          refine ab_aload_n (pc' := 59) (q := 0) dX7_request_58 rfl rfl rfl ?_
          obtain ⟨x13, ex13, hf⟩ := ab_bd hf
          refine ab_getI (pc' := 62) (ci := 7) (k := 5) dX7_request_59 rfl (by decide) fl_X7_94 ex13 rfl ?_
          refine ab_iload_n (pc' := 63) (q := 2) dX7_request_62 rfl rfl rfl ?_
          obtain ⟨h14, eh14, hf⟩ := ab_bd hf
          refine ab_iast (pc' := 64) dX7_request_63 eh14 rfl ?_
          refine ab_aload_n (pc' := 65) (q := 0) dX7_request_64 rfl rfl rfl ?_
          obtain ⟨r15, er15, hf⟩ := ab_bd hf
          refine ab_getR (pc' := 68) (ci := 7) (k := 8) dX7_request_65 rfl (by decide) fl_X7_31 er15 rfl ?_
          refine ab_aload_n (pc' := 69) (q := 0) dX7_request_68 rfl rfl rfl ?_
          obtain ⟨x16, ex16, hf⟩ := ab_bd hf
          refine ab_getI (pc' := 72) (ci := 7) (k := 5) dX7_request_69 rfl (by decide) fl_X7_94 ex16 rfl ?_
          refine ab_iload_n (pc' := 73) (q := 3) dX7_request_72 rfl rfl rfl ?_
          obtain ⟨h17, eh17, hf⟩ := ab_bd hf
          refine ab_iast (pc' := 74) dX7_request_73 eh17 rfl ?_
          refine ab_aload_n (pc' := 75) (q := 0) dX7_request_74 rfl rfl rfl ?_
          refine ab_dup_ref (pc' := 76) dX7_request_75 rfl ?_
          obtain ⟨x18, ex18, hf⟩ := ab_bd hf
          refine ab_getI (pc' := 79) (ci := 7) (k := 5) dX7_request_76 rfl (by decide) fl_X7_94 ex18 rfl ?_
          refine ab_iconst (pc' := 80) (v := 1) dX7_request_79 (by decide) rfl ?_
          refine ab_iadd (pc' := 81) dX7_request_80 rfl ?_
          obtain ⟨h19, eh19, hf⟩ := ab_bd hf
          refine ab_put (pc' := 84) (ci := 7) (k := 5) dX7_request_81 rfl (by decide) fl_X7_94 rfl (tyX7_ok 5 (by decide)) rfl rfl eh19 rfl ?_
          refine ab_aload_n (pc' := 85) (q := 0) dX7_request_84 rfl rfl rfl ?_
          obtain ⟨x20, ex20, hf⟩ := ab_bd hf
          refine ab_getI (pc' := 88) (ci := 7) (k := 5) dX7_request_85 rfl (by decide) fl_X7_94 ex20 rfl ?_
          refine ab_iconst (pc' := 89) (v := 1) dX7_request_88 (by decide) rfl ?_
          refine ab_isub (pc' := 90) dX7_request_89 rfl ?_
          have hf := Option.some.inj hf
          subst hf
          exact ab_iret rfl dX7_request_90 hK
        · have hf := ab_ip c8 hf
          refine ab_bipush (pc' := 43) (v := (-4)) dX7_request_41 (by decide) rfl ?_
          have hf := Option.some.inj hf
          subst hf
          exact ab_iret rfl dX7_request_43 hK
      · have hf := ab_ip c6 hf
        refine ab_drop (ls' := []) [] rfl ?_
        exact kbX7_request_29 hf hK
  · have hf := ab_ip c2 hf
    refine ab_iconst (pc' := 8) (v := (-1)) dX7_request_7 (by decide) rfl ?_
    have hf := Option.some.inj hf
    subst hf
    exact ab_iret rfl dX7_request_8 hK
-- DiskRestsModel.isRequest(I)Z (mode R, depth 1)
def fX7_isRequest (h : ab_H) (a0 : Nat) (a1 : Int32) : Option Int32 := (ab_gI h a0 7 5).bind (fun x1 => (fX7_in a1 0 (x1 - 1)).bind (fun x2 => if (x2 : Int32) &&& 1 = x2 then some x2 else none))
set_option maxRecDepth 20000 in
set_option maxHeartbeats 1000000 in
theorem kX7_isRequest {l : Launch} {g : ab_G} {K : ab_K} {h : ab_H} {a0 : Nat} {a1 : Int32} {r : Int32} (hf : fX7_isRequest h a0 a1 = some r) (hK : K (some (.int r)) h) : ab_S l g mX7_isRequest 1 0 0 [.ref a0, .int a1] h K := by
  unfold fX7_isRequest at hf
  refine ab_enter (ls := [(0, .ref a0), (1, .int a1)]) (by decide +kernel) rfl (Nat.le_of_ble_eq_true rfl) rfl ?_
  refine ab_iload_n (pc' := 1) (q := 1) dX7_isRequest_0 rfl rfl rfl ?_
  refine ab_iconst (pc' := 2) (v := 0) dX7_isRequest_1 (by decide) rfl ?_
  refine ab_aload_n (pc' := 3) (q := 0) dX7_isRequest_2 rfl rfl rfl ?_
  obtain ⟨x1, ex1, hf⟩ := ab_bd hf
  refine ab_getI (pc' := 6) (ci := 7) (k := 5) dX7_isRequest_3 rfl (by decide) fl_X7_94 ex1 rfl ?_
  refine ab_iconst (pc' := 7) (v := 1) dX7_isRequest_6 (by decide) rfl ?_
  refine ab_isub (pc' := 8) dX7_isRequest_7 rfl ?_
  obtain ⟨x2, ex2, hf⟩ := ab_bd hf
  refine ab_callS (pc' := 11) (Mc := mX7_in) (as := [.int a1, .int 0, .int (x1 - 1)]) (st := []) dX7_isRequest_8 ml_X7_90 okX7_in ss_X7_in rfl (by decide) (Nat.le_of_ble_eq_true rfl) (Nat.le_of_ble_eq_true rfl) (Nat.le_of_ble_eq_true rfl) rfl rfl (kX7_in ex2 ?_)
  show ab_Ev l g mX7_isRequest 1 0 0 11 [(0, .ref a0), (1, .int a1)] [.int x2] h 0 0 K
  obtain ⟨n3, hf⟩ := ab_bg hf
  have hf := Option.some.inj hf
  subst hf
  exact ab_zretG rfl n3 dX7_isRequest_11 hK
-- DiskRestsModel.forget(I)I (mode W, depth 2)
def lX7_forget_22 (v0 : Nat) : Nat → Int32 → ab_H → Option ab_H
  | 0, _, _ => none
  | n + 1, v2, h => (ab_gI h v0 7 5).bind (fun x6 => if x6 ≤ (v2 : Int32) then some h else (ab_gR h v0 7 6).bind (fun r8 => (ab_gR h v0 7 6).bind (fun r9 => (ab_aI h r9 (v2 + 1)).bind (fun x10 => (ab_sI h r8 v2 x10).bind (fun h11 => (ab_gR h11 v0 7 7).bind (fun r12 => (ab_gR h11 v0 7 7).bind (fun r13 => (ab_aI h11 r13 (v2 + 1)).bind (fun x14 => (ab_sI h11 r12 v2 x14).bind (fun h15 => (ab_gR h15 v0 7 8).bind (fun r16 => (ab_gR h15 v0 7 8).bind (fun r17 => (ab_aI h15 r17 (v2 + 1)).bind (fun x18 => (ab_sI h15 r16 v2 x18).bind (fun h19 => lX7_forget_22 v0 n (v2 + 1) h19)))))))))))))
set_option maxRecDepth 20000 in
set_option maxHeartbeats 1000000 in
theorem klX7_forget_22 {l : Launch} {g : ab_G} {K : ab_K} {v0 : Nat} {q : ab_H} (hx : ab_Ev l g mX7_forget 2 0 0 78 [(0, .ref v0)] [] q 0 0 K) : ∀ (n : Nat) (v2 : Int32) (h : ab_H), lX7_forget_22 v0 n v2 h = some q → ab_Ev l g mX7_forget 2 0 0 22 [(0, .ref v0), (2, .int v2)] [] h 0 0 K := by
  intro n
  induction n with
  | zero => intro v2 h hf; cases (show (none : Option ab_H) = some q from hf)
  | succ n ih =>
    intro v2 h hf
    rw [lX7_forget_22] at hf
    refine ab_iload_n (pc' := 23) (q := 1) dX7_forget_22 rfl rfl rfl ?_
    refine ab_aload_n (pc' := 24) (q := 0) dX7_forget_23 rfl rfl rfl ?_
    obtain ⟨x6, ex6, hf⟩ := ab_bd hf
    refine ab_getI (pc' := 27) (ci := 7) (k := 5) dX7_forget_24 rfl (by decide) fl_X7_94 ex6 rfl ?_
    refine ab_icmp_ge (pc' := 30) (tgt := 78) dX7_forget_27 (by decide) rfl (fun c7 => ?_) (fun c7 => ?_)
    · have hf := ab_ip c7 hf
      have hf := Option.some.inj hf
      subst hf
      refine ab_drop (ls' := [(0, .ref v0)]) [0] rfl ?_
      exact hx
    · have hf := ab_iN c7 hf
      refine ab_aload_n (pc' := 31) (q := 0) dX7_forget_30 rfl rfl rfl ?_
      obtain ⟨r8, er8, hf⟩ := ab_bd hf
      refine ab_getR (pc' := 34) (ci := 7) (k := 6) dX7_forget_31 rfl (by decide) fl_X7_25 er8 rfl ?_
      refine ab_iload_n (pc' := 35) (q := 1) dX7_forget_34 rfl rfl rfl ?_
      refine ab_aload_n (pc' := 36) (q := 0) dX7_forget_35 rfl rfl rfl ?_
      obtain ⟨r9, er9, hf⟩ := ab_bd hf
      refine ab_getR (pc' := 39) (ci := 7) (k := 6) dX7_forget_36 rfl (by decide) fl_X7_25 er9 rfl ?_
      refine ab_iload_n (pc' := 40) (q := 1) dX7_forget_39 rfl rfl rfl ?_
      refine ab_iconst (pc' := 41) (v := 1) dX7_forget_40 (by decide) rfl ?_
      refine ab_iadd (pc' := 42) dX7_forget_41 rfl ?_
      obtain ⟨x10, ex10, hf⟩ := ab_bd hf
      refine ab_iald (pc' := 43) dX7_forget_42 ex10 rfl ?_
      obtain ⟨h11, eh11, hf⟩ := ab_bd hf
      refine ab_iast (pc' := 44) dX7_forget_43 eh11 rfl ?_
      refine ab_aload_n (pc' := 45) (q := 0) dX7_forget_44 rfl rfl rfl ?_
      obtain ⟨r12, er12, hf⟩ := ab_bd hf
      refine ab_getR (pc' := 48) (ci := 7) (k := 7) dX7_forget_45 rfl (by decide) fl_X7_28 er12 rfl ?_
      refine ab_iload_n (pc' := 49) (q := 1) dX7_forget_48 rfl rfl rfl ?_
      refine ab_aload_n (pc' := 50) (q := 0) dX7_forget_49 rfl rfl rfl ?_
      obtain ⟨r13, er13, hf⟩ := ab_bd hf
      refine ab_getR (pc' := 53) (ci := 7) (k := 7) dX7_forget_50 rfl (by decide) fl_X7_28 er13 rfl ?_
      refine ab_iload_n (pc' := 54) (q := 1) dX7_forget_53 rfl rfl rfl ?_
      refine ab_iconst (pc' := 55) (v := 1) dX7_forget_54 (by decide) rfl ?_
      refine ab_iadd (pc' := 56) dX7_forget_55 rfl ?_
      obtain ⟨x14, ex14, hf⟩ := ab_bd hf
      refine ab_iald (pc' := 57) dX7_forget_56 ex14 rfl ?_
      obtain ⟨h15, eh15, hf⟩ := ab_bd hf
      refine ab_iast (pc' := 58) dX7_forget_57 eh15 rfl ?_
      refine ab_aload_n (pc' := 59) (q := 0) dX7_forget_58 rfl rfl rfl ?_
      obtain ⟨r16, er16, hf⟩ := ab_bd hf
      refine ab_getR (pc' := 62) (ci := 7) (k := 8) dX7_forget_59 rfl (by decide) fl_X7_31 er16 rfl ?_
      refine ab_iload_n (pc' := 63) (q := 1) dX7_forget_62 rfl rfl rfl ?_
      refine ab_aload_n (pc' := 64) (q := 0) dX7_forget_63 rfl rfl rfl ?_
      obtain ⟨r17, er17, hf⟩ := ab_bd hf
      refine ab_getR (pc' := 67) (ci := 7) (k := 8) dX7_forget_64 rfl (by decide) fl_X7_31 er17 rfl ?_
      refine ab_iload_n (pc' := 68) (q := 1) dX7_forget_67 rfl rfl rfl ?_
      refine ab_iconst (pc' := 69) (v := 1) dX7_forget_68 (by decide) rfl ?_
      refine ab_iadd (pc' := 70) dX7_forget_69 rfl ?_
      obtain ⟨x18, ex18, hf⟩ := ab_bd hf
      refine ab_iald (pc' := 71) dX7_forget_70 ex18 rfl ?_
      obtain ⟨h19, eh19, hf⟩ := ab_bd hf
      refine ab_iast (pc' := 72) dX7_forget_71 eh19 rfl ?_
      refine ab_iinc (pc' := 75) (q := 1) (v := (v2 + 1)) (ls' := [(2, .int (v2 + 1)), (0, .ref v0)]) dX7_forget_72 rfl rfl (by decide) rfl rfl ?_
      refine ab_goto (tgt := 22) dX7_forget_75 (by decide) ?_
      refine ab_drop (ls' := [(0, .ref v0), (2, .int (v2 + 1))]) [1, 0] rfl ?_
      exact ih _ _ hf
def fX7_forget (h : ab_H) (a0 : Nat) (a1 : Int32) : Option (Int32 × ab_H) := (ab_ob h a0 7).bind (fun u1 => (fX7_isRequest h a0 a1).bind (fun x2 => if (x2 : Int32) = 0 then some ((-1), h) else (ab_gI h a0 7 5).bind (fun x4 => (ab_pV h a0 7 5 (.int (x4 - 1))).bind (fun h5 => (lX7_forget_22 a0 ab_fu a1 h5).bind (fun q20 => (ab_gI q20 a0 7 5).bind (fun x21 => some (x21, q20)))))))
set_option maxRecDepth 20000 in
set_option maxHeartbeats 1000000 in
theorem kX7_forget {l : Launch} {g : ab_G} {K : ab_K} {h : ab_H} {a0 : Nat} {a1 : Int32} {r : (Int32 × ab_H)} (hf : fX7_forget h a0 a1 = some r) (hK : K (some (.int r.1)) r.2) : ab_S l g mX7_forget 2 0 0 [.ref a0, .int a1] h K := by
  unfold fX7_forget at hf
  refine ab_enter (ls := [(0, .ref a0), (1, .int a1)]) (by decide +kernel) rfl (Nat.le_of_ble_eq_true rfl) rfl ?_
  refine ab_aload_n (pc' := 1) (q := 0) dX7_forget_0 rfl rfl rfl ?_
  refine ab_iload_n (pc' := 2) (q := 1) dX7_forget_1 rfl rfl rfl ?_
  obtain ⟨u1, eu1, hf⟩ := ab_bd hf
  obtain ⟨x2, ex2, hf⟩ := ab_bd hf
  refine ab_callV (pc' := 5) (Mc := mX7_isRequest) (as := [.int a1]) (st := []) dX7_forget_2 ml_X7_105 okX7_isRequest im_X7_isRequest se_X7_isRequest rfl eu1 rfl (by decide) (Nat.le_of_ble_eq_true rfl) (Nat.le_of_ble_eq_true rfl) (Nat.le_of_ble_eq_true rfl) rfl rfl (kX7_isRequest ex2 ?_)
  show ab_Ev l g mX7_forget 2 0 0 5 [(0, .ref a0), (1, .int a1)] [.int x2] h 0 0 K
  refine ab_if_ne (pc' := 8) (tgt := 10) dX7_forget_5 (by decide) rfl (fun c3 => ?_) (fun c3 => ?_)
  · have hf := ab_iN c3 hf
    refine ab_aload_n (pc' := 11) (q := 0) dX7_forget_10 rfl rfl rfl ?_
    refine ab_dup_ref (pc' := 12) dX7_forget_11 rfl ?_
    obtain ⟨x4, ex4, hf⟩ := ab_bd hf
    refine ab_getI (pc' := 15) (ci := 7) (k := 5) dX7_forget_12 rfl (by decide) fl_X7_94 ex4 rfl ?_
    refine ab_iconst (pc' := 16) (v := 1) dX7_forget_15 (by decide) rfl ?_
    refine ab_isub (pc' := 17) dX7_forget_16 rfl ?_
    obtain ⟨h5, eh5, hf⟩ := ab_bd hf
    refine ab_put (pc' := 20) (ci := 7) (k := 5) dX7_forget_17 rfl (by decide) fl_X7_94 rfl (tyX7_ok 5 (by decide)) rfl rfl eh5 rfl ?_
    refine ab_iload_n (pc' := 21) (q := 1) dX7_forget_20 rfl rfl rfl ?_
    refine ab_istore_n (pc' := 22) (ls' := [(2, .int a1), (0, .ref a0), (1, .int a1)]) dX7_forget_21 rfl (by decide) rfl rfl ?_
    refine ab_drop (ls' := [(0, .ref a0), (2, .int a1)]) [1, 0] rfl ?_
    obtain ⟨q20, eq20, hf⟩ := ab_bd hf
    refine klX7_forget_22 ?_ ab_fu _ _ eq20
    refine ab_aload_n (pc' := 79) (q := 0) dX7_forget_78 rfl rfl rfl ?_
    obtain ⟨x21, ex21, hf⟩ := ab_bd hf
    refine ab_getI (pc' := 82) (ci := 7) (k := 5) dX7_forget_79 rfl (by decide) fl_X7_94 ex21 rfl ?_
    have hf := Option.some.inj hf
    subst hf
    exact ab_iret rfl dX7_forget_82 hK
  · have hf := ab_ip c3 hf
    refine ab_iconst (pc' := 9) (v := (-1)) dX7_forget_8 (by decide) rfl ?_
    have hf := Option.some.inj hf
    subst hf
    exact ab_iret rfl dX7_forget_9 hK
-- DiskRestsModel.told(II)I (mode R, depth 2)
def fX7_told (h : ab_H) (a0 : Nat) (a1 : Int32) (a2 : Int32) : Option Int32 := (ab_ob h a0 7).bind (fun u1 => (fX7_isRequest h a0 a1).bind (fun x2 => if (x2 : Int32) = 0 then some (-1) else if (a2 : Int32) = 0 then (ab_gR h a0 7 6).bind (fun r11 => (ab_aI h r11 a1).bind (fun x12 => some x12)) else if (a2 : Int32) = 1 then (ab_gR h a0 7 7).bind (fun r9 => (ab_aI h r9 a1).bind (fun x10 => some x10)) else if (a2 : Int32) = 2 then (ab_gR h a0 7 8).bind (fun r7 => (ab_aI h r7 a1).bind (fun x8 => some x8)) else some (-2)))
set_option maxRecDepth 20000 in
set_option maxHeartbeats 1000000 in
theorem kX7_told {l : Launch} {g : ab_G} {K : ab_K} {h : ab_H} {a0 : Nat} {a1 : Int32} {a2 : Int32} {r : Int32} (hf : fX7_told h a0 a1 a2 = some r) (hK : K (some (.int r)) h) : ab_S l g mX7_told 2 0 0 [.ref a0, .int a1, .int a2] h K := by
  unfold fX7_told at hf
  refine ab_enter (ls := [(0, .ref a0), (1, .int a1), (2, .int a2)]) (by decide +kernel) rfl (Nat.le_of_ble_eq_true rfl) rfl ?_
  refine ab_aload_n (pc' := 1) (q := 0) dX7_told_0 rfl rfl rfl ?_
  refine ab_iload_n (pc' := 2) (q := 1) dX7_told_1 rfl rfl rfl ?_
  obtain ⟨u1, eu1, hf⟩ := ab_bd hf
  obtain ⟨x2, ex2, hf⟩ := ab_bd hf
  refine ab_callV (pc' := 5) (Mc := mX7_isRequest) (as := [.int a1]) (st := []) dX7_told_2 ml_X7_105 okX7_isRequest im_X7_isRequest se_X7_isRequest rfl eu1 rfl (by decide) (Nat.le_of_ble_eq_true rfl) (Nat.le_of_ble_eq_true rfl) (Nat.le_of_ble_eq_true rfl) rfl rfl (kX7_isRequest ex2 ?_)
  show ab_Ev l g mX7_told 2 0 0 5 [(0, .ref a0), (1, .int a1), (2, .int a2)] [.int x2] h 0 0 K
  refine ab_if_ne (pc' := 8) (tgt := 10) dX7_told_5 (by decide) rfl (fun c3 => ?_) (fun c3 => ?_)
  · have hf := ab_iN c3 hf
    refine ab_iload_n (pc' := 11) (q := 2) dX7_told_10 rfl rfl rfl ?_
    refine ab_if_ne (pc' := 14) (tgt := 23) dX7_told_11 (by decide) rfl (fun c4 => ?_) (fun c4 => ?_)
    · have hf := ab_iN c4 hf
      refine ab_iload_n (pc' := 24) (q := 2) dX7_told_23 rfl rfl rfl ?_
      refine ab_iconst (pc' := 25) (v := 1) dX7_told_24 (by decide) rfl ?_
      refine ab_icmp_ne (pc' := 28) (tgt := 37) dX7_told_25 (by decide) rfl (fun c5 => ?_) (fun c5 => ?_)
      · have hf := ab_iN c5 hf
        refine ab_iload_n (pc' := 38) (q := 2) dX7_told_37 rfl rfl rfl ?_
        refine ab_iconst (pc' := 39) (v := 2) dX7_told_38 (by decide) rfl ?_
        refine ab_icmp_ne (pc' := 42) (tgt := 51) dX7_told_39 (by decide) rfl (fun c6 => ?_) (fun c6 => ?_)
        · have hf := ab_iN c6 hf
          refine ab_bipush (pc' := 53) (v := (-2)) dX7_told_51 (by decide) rfl ?_
          have hf := Option.some.inj hf
          subst hf
          exact ab_iret rfl dX7_told_53 hK
        · have hf := ab_ip c6 hf
          refine ab_aload_n (pc' := 43) (q := 0) dX7_told_42 rfl rfl rfl ?_
          obtain ⟨r7, er7, hf⟩ := ab_bd hf
          refine ab_getR (pc' := 46) (ci := 7) (k := 8) dX7_told_43 rfl (by decide) fl_X7_31 er7 rfl ?_
          refine ab_iload_n (pc' := 47) (q := 1) dX7_told_46 rfl rfl rfl ?_
          obtain ⟨x8, ex8, hf⟩ := ab_bd hf
          refine ab_iald (pc' := 48) dX7_told_47 ex8 rfl ?_
          refine ab_goto (tgt := 53) dX7_told_48 (by decide) ?_
          have hf := Option.some.inj hf
          subst hf
          exact ab_iret rfl dX7_told_53 hK
      · have hf := ab_ip c5 hf
        refine ab_aload_n (pc' := 29) (q := 0) dX7_told_28 rfl rfl rfl ?_
        obtain ⟨r9, er9, hf⟩ := ab_bd hf
        refine ab_getR (pc' := 32) (ci := 7) (k := 7) dX7_told_29 rfl (by decide) fl_X7_28 er9 rfl ?_
        refine ab_iload_n (pc' := 33) (q := 1) dX7_told_32 rfl rfl rfl ?_
        obtain ⟨x10, ex10, hf⟩ := ab_bd hf
        refine ab_iald (pc' := 34) dX7_told_33 ex10 rfl ?_
        refine ab_goto (tgt := 53) dX7_told_34 (by decide) ?_
        have hf := Option.some.inj hf
        subst hf
        exact ab_iret rfl dX7_told_53 hK
    · have hf := ab_ip c4 hf
      refine ab_aload_n (pc' := 15) (q := 0) dX7_told_14 rfl rfl rfl ?_
      obtain ⟨r11, er11, hf⟩ := ab_bd hf
      refine ab_getR (pc' := 18) (ci := 7) (k := 6) dX7_told_15 rfl (by decide) fl_X7_25 er11 rfl ?_
      refine ab_iload_n (pc' := 19) (q := 1) dX7_told_18 rfl rfl rfl ?_
      obtain ⟨x12, ex12, hf⟩ := ab_bd hf
      refine ab_iald (pc' := 20) dX7_told_19 ex12 rfl ?_
      refine ab_goto (tgt := 53) dX7_told_20 (by decide) ?_
      have hf := Option.some.inj hf
      subst hf
      exact ab_iret rfl dX7_told_53 hK
  · have hf := ab_ip c3 hf
    refine ab_iconst (pc' := 9) (v := (-1)) dX7_told_8 (by decide) rfl ?_
    have hf := Option.some.inj hf
    subst hf
    exact ab_iret rfl dX7_told_9 hK
-- DiskRestsModel.end(I)I (mode W, depth 1)
def fX7_end (h : ab_H) (a0 : Nat) (a1 : Int32) : Option (Int32 × ab_H) := (fX7_in a1 1 1000).bind (fun x1 => if (x1 : Int32) = 0 then some ((-2), h) else (ab_gI h a0 7 9).bind (fun x3 => (ab_pV h a0 7 9 (.int a1)).bind (fun h4 => some (x3, h4))))
set_option maxRecDepth 20000 in
set_option maxHeartbeats 1000000 in
theorem kX7_end {l : Launch} {g : ab_G} {K : ab_K} {h : ab_H} {a0 : Nat} {a1 : Int32} {r : (Int32 × ab_H)} (hf : fX7_end h a0 a1 = some r) (hK : K (some (.int r.1)) r.2) : ab_S l g mX7_end 1 0 0 [.ref a0, .int a1] h K := by
  unfold fX7_end at hf
  refine ab_enter (ls := [(0, .ref a0), (1, .int a1)]) (by decide +kernel) rfl (Nat.le_of_ble_eq_true rfl) rfl ?_
  refine ab_iload_n (pc' := 1) (q := 1) dX7_end_0 rfl rfl rfl ?_
  refine ab_iconst (pc' := 2) (v := 1) dX7_end_1 (by decide) rfl ?_
  refine ab_sipush (pc' := 5) (v := 1000) dX7_end_2 (by decide) rfl ?_
  obtain ⟨x1, ex1, hf⟩ := ab_bd hf
  refine ab_callS (pc' := 8) (Mc := mX7_in) (as := [.int a1, .int 1, .int 1000]) (st := []) dX7_end_5 ml_X7_90 okX7_in ss_X7_in rfl (by decide) (Nat.le_of_ble_eq_true rfl) (Nat.le_of_ble_eq_true rfl) (Nat.le_of_ble_eq_true rfl) rfl rfl (kX7_in ex1 ?_)
  show ab_Ev l g mX7_end 1 0 0 8 [(0, .ref a0), (1, .int a1)] [.int x1] h 0 0 K
  refine ab_if_ne (pc' := 11) (tgt := 14) dX7_end_8 (by decide) rfl (fun c2 => ?_) (fun c2 => ?_)
  · have hf := ab_iN c2 hf
    refine ab_aload_n (pc' := 15) (q := 0) dX7_end_14 rfl rfl rfl ?_
    obtain ⟨x3, ex3, hf⟩ := ab_bd hf
    refine ab_getI (pc' := 18) (ci := 7) (k := 9) dX7_end_15 rfl (by decide) fl_X7_34 ex3 rfl ?_
    refine ab_istore_n (pc' := 19) (ls' := [(2, .int x3), (0, .ref a0), (1, .int a1)]) dX7_end_18 rfl (by decide) rfl rfl ?_
    refine ab_aload_n (pc' := 20) (q := 1) dX7_end_19 rfl rfl rfl ?_
    refine ab_iload_n (pc' := 21) (q := 2) dX7_end_20 rfl rfl rfl ?_
    obtain ⟨h4, eh4, hf⟩ := ab_bd hf
    refine ab_put (pc' := 24) (ci := 7) (k := 9) dX7_end_21 rfl (by decide) fl_X7_34 rfl (tyX7_ok 9 (by decide)) rfl rfl eh4 rfl ?_
    refine ab_iload_n (pc' := 25) (q := 0) dX7_end_24 rfl rfl rfl ?_
    have hf := Option.some.inj hf
    subst hf
    exact ab_iret rfl dX7_end_25 hK
  · have hf := ab_ip c2 hf
    refine ab_bipush (pc' := 13) (v := (-2)) dX7_end_11 (by decide) rfl ?_
    have hf := Option.some.inj hf
    subst hf
    exact ab_iret rfl dX7_end_13 hK
-- DiskRestsModel.journal(I)I (mode W, depth 1)
def fX7_journal (h : ab_H) (a0 : Nat) (a1 : Int32) : Option (Int32 × ab_H) := (fX7_in a1 0 8).bind (fun x1 => if (x1 : Int32) = 0 then some ((-2), h) else (ab_gI h a0 7 10).bind (fun x3 => (ab_pV h a0 7 10 (.int a1)).bind (fun h4 => some (x3, h4))))
set_option maxRecDepth 20000 in
set_option maxHeartbeats 1000000 in
theorem kX7_journal {l : Launch} {g : ab_G} {K : ab_K} {h : ab_H} {a0 : Nat} {a1 : Int32} {r : (Int32 × ab_H)} (hf : fX7_journal h a0 a1 = some r) (hK : K (some (.int r.1)) r.2) : ab_S l g mX7_journal 1 0 0 [.ref a0, .int a1] h K := by
  unfold fX7_journal at hf
  refine ab_enter (ls := [(0, .ref a0), (1, .int a1)]) (by decide +kernel) rfl (Nat.le_of_ble_eq_true rfl) rfl ?_
  refine ab_iload_n (pc' := 1) (q := 1) dX7_journal_0 rfl rfl rfl ?_
  refine ab_iconst (pc' := 2) (v := 0) dX7_journal_1 (by decide) rfl ?_
  refine ab_bipush (pc' := 4) (v := 8) dX7_journal_2 (by decide) rfl ?_
  obtain ⟨x1, ex1, hf⟩ := ab_bd hf
  refine ab_callS (pc' := 7) (Mc := mX7_in) (as := [.int a1, .int 0, .int 8]) (st := []) dX7_journal_4 ml_X7_90 okX7_in ss_X7_in rfl (by decide) (Nat.le_of_ble_eq_true rfl) (Nat.le_of_ble_eq_true rfl) (Nat.le_of_ble_eq_true rfl) rfl rfl (kX7_in ex1 ?_)
  show ab_Ev l g mX7_journal 1 0 0 7 [(0, .ref a0), (1, .int a1)] [.int x1] h 0 0 K
  refine ab_if_ne (pc' := 10) (tgt := 13) dX7_journal_7 (by decide) rfl (fun c2 => ?_) (fun c2 => ?_)
  · have hf := ab_iN c2 hf
    refine ab_aload_n (pc' := 14) (q := 0) dX7_journal_13 rfl rfl rfl ?_
    obtain ⟨x3, ex3, hf⟩ := ab_bd hf
    refine ab_getI (pc' := 17) (ci := 7) (k := 10) dX7_journal_14 rfl (by decide) fl_X7_108 ex3 rfl ?_
    refine ab_istore_n (pc' := 18) (ls' := [(2, .int x3), (0, .ref a0), (1, .int a1)]) dX7_journal_17 rfl (by decide) rfl rfl ?_
    refine ab_aload_n (pc' := 19) (q := 1) dX7_journal_18 rfl rfl rfl ?_
    refine ab_iload_n (pc' := 20) (q := 2) dX7_journal_19 rfl rfl rfl ?_
    obtain ⟨h4, eh4, hf⟩ := ab_bd hf
    refine ab_put (pc' := 23) (ci := 7) (k := 10) dX7_journal_20 rfl (by decide) fl_X7_108 rfl (tyX7_ok 10 (by decide)) rfl rfl eh4 rfl ?_
    refine ab_iload_n (pc' := 24) (q := 0) dX7_journal_23 rfl rfl rfl ?_
    have hf := Option.some.inj hf
    subst hf
    exact ab_iret rfl dX7_journal_24 hK
  · have hf := ab_ip c2 hf
    refine ab_bipush (pc' := 12) (v := (-2)) dX7_journal_10 (by decide) rfl ?_
    have hf := Option.some.inj hf
    subst hf
    exact ab_iret rfl dX7_journal_12 hK
-- DiskRestsModel.sleeps(I)Z (mode R, depth 0)
def bX7_sleeps_22  (h : ab_H) : Option Int32 := some 0
set_option maxRecDepth 20000 in
set_option maxHeartbeats 1000000 in
theorem kbX7_sleeps_22 {l : Launch} {g : ab_G} {K : ab_K} {h : ab_H}  {r : Int32} (hf : bX7_sleeps_22 h = some r) (hK : K (some (.int r)) h) : ab_Ev l g mX7_sleeps 0 0 0 22 [] [] h 0 0 K := by
  unfold bX7_sleeps_22 at hf
  refine ab_iconst (pc' := 23) (v := 0) dX7_sleeps_22 (by decide) rfl ?_
  have hf := Option.some.inj hf
  subst hf
  exact ab_zret rfl rfl dX7_sleeps_23 hK
def fX7_sleeps (h : ab_H) (a0 : Nat) (a1 : Int32) : Option Int32 := (ab_gR h a0 7 11).bind (fun r1 => (ab_aI h r1 a1).bind (fun x2 => if (x2 : Int32) ≤ 0 then bX7_sleeps_22 h else (ab_gR h a0 7 12).bind (fun r4 => (ab_aI h r4 a1).bind (fun x5 => if (x5 : Int32) ≤ 0 then bX7_sleeps_22 h else some 1))))
set_option maxRecDepth 20000 in
set_option maxHeartbeats 1000000 in
theorem kX7_sleeps {l : Launch} {g : ab_G} {K : ab_K} {h : ab_H} {a0 : Nat} {a1 : Int32} {r : Int32} (hf : fX7_sleeps h a0 a1 = some r) (hK : K (some (.int r)) h) : ab_S l g mX7_sleeps 0 0 0 [.ref a0, .int a1] h K := by
  unfold fX7_sleeps at hf
  refine ab_enter (ls := [(0, .ref a0), (1, .int a1)]) (by decide +kernel) rfl (Nat.le_of_ble_eq_true rfl) rfl ?_
  refine ab_aload_n (pc' := 1) (q := 0) dX7_sleeps_0 rfl rfl rfl ?_
  obtain ⟨r1, er1, hf⟩ := ab_bd hf
  refine ab_getR (pc' := 4) (ci := 7) (k := 11) dX7_sleeps_1 rfl (by decide) fl_X7_38 er1 rfl ?_
  refine ab_iload_n (pc' := 5) (q := 1) dX7_sleeps_4 rfl rfl rfl ?_
  obtain ⟨x2, ex2, hf⟩ := ab_bd hf
  refine ab_iald (pc' := 6) dX7_sleeps_5 ex2 rfl ?_
  refine ab_if_le (pc' := 9) (tgt := 22) dX7_sleeps_6 (by decide) rfl (fun c3 => ?_) (fun c3 => ?_)
  · have hf := ab_ip c3 hf
    refine ab_drop (ls' := []) [] rfl ?_
    exact kbX7_sleeps_22 hf hK
  · have hf := ab_iN c3 hf
    refine ab_aload_n (pc' := 10) (q := 0) dX7_sleeps_9 rfl rfl rfl ?_
    obtain ⟨r4, er4, hf⟩ := ab_bd hf
    refine ab_getR (pc' := 13) (ci := 7) (k := 12) dX7_sleeps_10 rfl (by decide) fl_X7_41 er4 rfl ?_
    refine ab_iload_n (pc' := 14) (q := 1) dX7_sleeps_13 rfl rfl rfl ?_
    obtain ⟨x5, ex5, hf⟩ := ab_bd hf
    refine ab_iald (pc' := 15) dX7_sleeps_14 ex5 rfl ?_
    refine ab_if_le (pc' := 18) (tgt := 22) dX7_sleeps_15 (by decide) rfl (fun c6 => ?_) (fun c6 => ?_)
    · have hf := ab_ip c6 hf
      refine ab_drop (ls' := []) [] rfl ?_
      exact kbX7_sleeps_22 hf hK
    · have hf := ab_iN c6 hf
      refine ab_iconst (pc' := 19) (v := 1) dX7_sleeps_18 (by decide) rfl ?_
      refine ab_goto (tgt := 23) dX7_sleeps_19 (by decide) ?_
      have hf := Option.some.inj hf
      subst hf
      exact ab_zret rfl rfl dX7_sleeps_23 hK
-- DiskRestsModel.wake(I)V (mode W, depth 1)
def bX7_wake_87 (rec : Int32 → Int32 → ab_H → Option (Int32 × ab_H)) (v0 : Nat) (v1 : Int32) (v2 : Int32) (v3 : Int32) (h : ab_H) : Option (Int32 × ab_H) := rec v2 (v3 + 1) h
set_option maxRecDepth 20000 in
set_option maxHeartbeats 1000000 in
theorem kbX7_wake_87 {l : Launch} {g : ab_G} {K : ab_K} {h : ab_H} {v0 : Nat} {v1 : Int32} {v2 : Int32} {v3 : Int32} {q : (Int32 × ab_H)} {rec : Int32 → Int32 → ab_H → Option (Int32 × ab_H)} (ih : ∀ (w2 : Int32) (w3 : Int32) (hw : ab_H), rec w2 w3 hw = some q → ab_Ev l g mX7_wake 1 0 0 34 [(0, .ref v0), (1, .int v1), (2, .int w2), (3, .int w3)] [] hw 0 0 K) (hx : ab_Ev l g mX7_wake 1 0 0 93 [(0, .ref v0), (2, .int q.1)] [] q.2 0 0 K) (hf : bX7_wake_87 rec v0 v1 v2 v3 h = some q) : ab_Ev l g mX7_wake 1 0 0 87 [(0, .ref v0), (1, .int v1), (2, .int v2), (3, .int v3)] [] h 0 0 K := by
  unfold bX7_wake_87 at hf
  refine ab_iinc (pc' := 90) (q := 3) (v := (v3 + 1)) (ls' := [(3, .int (v3 + 1)), (0, .ref v0), (1, .int v1), (2, .int v2)]) dX7_wake_87 rfl rfl (by decide) rfl rfl ?_
  refine ab_goto (tgt := 34) dX7_wake_90 (by decide) ?_
  refine ab_drop (ls' := [(0, .ref v0), (1, .int v1), (2, .int v2), (3, .int (v3 + 1))]) [1, 2, 3, 0] rfl ?_
  exact ih _ _ _ hf
def lX7_wake_34 (v0 : Nat) (v1 : Int32) : Nat → Int32 → Int32 → ab_H → Option (Int32 × ab_H)
  | 0, _, _, _ => none
  | n + 1, v2, v3, h => (ab_gI h v0 7 22).bind (fun x11 => if x11 ≤ (v3 : Int32) then some (v2, h) else (ab_gR h v0 7 7).bind (fun r13 => (ab_gR h v0 7 21).bind (fun r14 => (ab_aI h r14 v3).bind (fun x15 => (ab_aI h r13 x15).bind (fun x16 => if (x16 : Int32) = v1 then (ab_gR h v0 7 20).bind (fun r22 => (ab_gR h v0 7 21).bind (fun r23 => (ab_aI h r23 v3).bind (fun x24 => (ab_sI h r22 x24 4).bind (fun h25 => bX7_wake_87 (lX7_wake_34 v0 v1 n) v0 v1 v2 v3 h25)))) else (ab_gR h v0 7 21).bind (fun r18 => (ab_gR h v0 7 21).bind (fun r19 => (ab_aI h r19 v3).bind (fun x20 => (ab_sI h r18 v2 x20).bind (fun h21 => bX7_wake_87 (lX7_wake_34 v0 v1 n) v0 v1 (v2 + 1) v3 h21)))))))))
set_option maxRecDepth 20000 in
set_option maxHeartbeats 1000000 in
theorem klX7_wake_34 {l : Launch} {g : ab_G} {K : ab_K} {v0 : Nat} {v1 : Int32} {q : (Int32 × ab_H)} (hx : ab_Ev l g mX7_wake 1 0 0 93 [(0, .ref v0), (2, .int q.1)] [] q.2 0 0 K) : ∀ (n : Nat) (v2 : Int32) (v3 : Int32) (h : ab_H), lX7_wake_34 v0 v1 n v2 v3 h = some q → ab_Ev l g mX7_wake 1 0 0 34 [(0, .ref v0), (1, .int v1), (2, .int v2), (3, .int v3)] [] h 0 0 K := by
  intro n
  induction n with
  | zero => intro v2 v3 h hf; cases (show (none : Option (Int32 × ab_H)) = some q from hf)
  | succ n ih =>
    intro v2 v3 h hf
    rw [lX7_wake_34] at hf
    refine ab_iload_n (pc' := 35) (q := 3) dX7_wake_34 rfl rfl rfl ?_
    refine ab_aload_n (pc' := 36) (q := 0) dX7_wake_35 rfl rfl rfl ?_
    obtain ⟨x11, ex11, hf⟩ := ab_bd hf
    refine ab_getI (pc' := 39) (ci := 7) (k := 22) dX7_wake_36 rfl (by decide) fl_X7_121 ex11 rfl ?_
    refine ab_icmp_ge (pc' := 42) (tgt := 93) dX7_wake_39 (by decide) rfl (fun c12 => ?_) (fun c12 => ?_)
    · have hf := ab_ip c12 hf
      have hf := Option.some.inj hf
      subst hf
      refine ab_drop (ls' := [(0, .ref v0), (2, .int v2)]) [0, 2] rfl ?_
      exact hx
    · have hf := ab_iN c12 hf
      refine ab_aload_n (pc' := 43) (q := 0) dX7_wake_42 rfl rfl rfl ?_
      obtain ⟨r13, er13, hf⟩ := ab_bd hf
      refine ab_getR (pc' := 46) (ci := 7) (k := 7) dX7_wake_43 rfl (by decide) fl_X7_28 er13 rfl ?_
      refine ab_aload_n (pc' := 47) (q := 0) dX7_wake_46 rfl rfl rfl ?_
      obtain ⟨r14, er14, hf⟩ := ab_bd hf
      refine ab_getR (pc' := 50) (ci := 7) (k := 21) dX7_wake_47 rfl (by decide) fl_X7_68 er14 rfl ?_
      refine ab_iload_n (pc' := 51) (q := 3) dX7_wake_50 rfl rfl rfl ?_
      obtain ⟨x15, ex15, hf⟩ := ab_bd hf
      refine ab_iald (pc' := 52) dX7_wake_51 ex15 rfl ?_
      obtain ⟨x16, ex16, hf⟩ := ab_bd hf
      refine ab_iald (pc' := 53) dX7_wake_52 ex16 rfl ?_
      refine ab_iload_n (pc' := 54) (q := 1) dX7_wake_53 rfl rfl rfl ?_
      refine ab_icmp_ne (pc' := 57) (tgt := 72) dX7_wake_54 (by decide) rfl (fun c17 => ?_) (fun c17 => ?_)
      · have hf := ab_iN c17 hf
        refine ab_aload_n (pc' := 73) (q := 0) dX7_wake_72 rfl rfl rfl ?_
        obtain ⟨r18, er18, hf⟩ := ab_bd hf
        refine ab_getR (pc' := 76) (ci := 7) (k := 21) dX7_wake_73 rfl (by decide) fl_X7_68 er18 rfl ?_
        refine ab_iload_n (pc' := 77) (q := 2) dX7_wake_76 rfl rfl rfl ?_
        refine ab_aload_n (pc' := 78) (q := 0) dX7_wake_77 rfl rfl rfl ?_
        obtain ⟨r19, er19, hf⟩ := ab_bd hf
        refine ab_getR (pc' := 81) (ci := 7) (k := 21) dX7_wake_78 rfl (by decide) fl_X7_68 er19 rfl ?_
        refine ab_iload_n (pc' := 82) (q := 3) dX7_wake_81 rfl rfl rfl ?_
        obtain ⟨x20, ex20, hf⟩ := ab_bd hf
        refine ab_iald (pc' := 83) dX7_wake_82 ex20 rfl ?_
        obtain ⟨h21, eh21, hf⟩ := ab_bd hf
        refine ab_iast (pc' := 84) dX7_wake_83 eh21 rfl ?_
        refine ab_iinc (pc' := 87) (q := 2) (v := (v2 + 1)) (ls' := [(2, .int (v2 + 1)), (0, .ref v0), (1, .int v1), (3, .int v3)]) dX7_wake_84 rfl rfl (by decide) rfl rfl ?_
        refine ab_drop (ls' := [(0, .ref v0), (1, .int v1), (2, .int (v2 + 1)), (3, .int v3)]) [1, 2, 0, 3] rfl ?_
        exact kbX7_wake_87 ih hx hf
      · have hf := ab_ip c17 hf
        refine ab_aload_n (pc' := 58) (q := 0) dX7_wake_57 rfl rfl rfl ?_
        obtain ⟨r22, er22, hf⟩ := ab_bd hf
        refine ab_getR (pc' := 61) (ci := 7) (k := 20) dX7_wake_58 rfl (by decide) fl_X7_65 er22 rfl ?_
        refine ab_aload_n (pc' := 62) (q := 0) dX7_wake_61 rfl rfl rfl ?_
        obtain ⟨r23, er23, hf⟩ := ab_bd hf
        refine ab_getR (pc' := 65) (ci := 7) (k := 21) dX7_wake_62 rfl (by decide) fl_X7_68 er23 rfl ?_
        refine ab_iload_n (pc' := 66) (q := 3) dX7_wake_65 rfl rfl rfl ?_
        obtain ⟨x24, ex24, hf⟩ := ab_bd hf
        refine ab_iald (pc' := 67) dX7_wake_66 ex24 rfl ?_
        refine ab_iconst (pc' := 68) (v := 4) dX7_wake_67 (by decide) rfl ?_
        obtain ⟨h25, eh25, hf⟩ := ab_bd hf
        refine ab_iast (pc' := 69) dX7_wake_68 eh25 rfl ?_
        refine ab_goto (tgt := 87) dX7_wake_69 (by decide) ?_
        exact kbX7_wake_87 ih hx hf
def fX7_wake (h : ab_H) (a0 : Nat) (a1 : Int32) : Option ab_H := (ab_gR h a0 7 13).bind (fun r1 => (ab_aI h r1 a1).bind (fun x2 => (ab_gR h a0 7 12).bind (fun r3 => (ab_aI h r3 a1).bind (fun x4 => (ab_ob h a0 7).bind (fun u5 => (fX7_wakeOf h a0 a1 x4).bind (fun x6 => (ab_sI h r1 a1 (x2 + x6)).bind (fun h7 => (ab_gR h7 a0 7 14).bind (fun r8 => (ab_aI h7 r8 a1).bind (fun x9 => (ab_sI h7 r8 a1 (x9 + 1)).bind (fun h10 => (lX7_wake_34 a0 a1 ab_fu 0 0 h10).bind (fun q26 => (ab_pV q26.2 a0 7 22 (.int q26.1)).bind (fun h27 => some h27))))))))))))
set_option maxRecDepth 20000 in
set_option maxHeartbeats 1000000 in
theorem kX7_wake {l : Launch} {g : ab_G} {K : ab_K} {h : ab_H} {a0 : Nat} {a1 : Int32} {r : ab_H} (hf : fX7_wake h a0 a1 = some r) (hK : K none r) : ab_S l g mX7_wake 1 0 0 [.ref a0, .int a1] h K := by
  unfold fX7_wake at hf
  refine ab_enter (ls := [(0, .ref a0), (1, .int a1)]) (by decide +kernel) rfl (Nat.le_of_ble_eq_true rfl) rfl ?_
  refine ab_aload_n (pc' := 1) (q := 0) dX7_wake_0 rfl rfl rfl ?_
  obtain ⟨r1, er1, hf⟩ := ab_bd hf
  refine ab_getR (pc' := 4) (ci := 7) (k := 13) dX7_wake_1 rfl (by decide) fl_X7_44 er1 rfl ?_
  refine ab_iload_n (pc' := 5) (q := 1) dX7_wake_4 rfl rfl rfl ?_
  refine ab_dup2 (pc' := 6) dX7_wake_5 rfl ?_
  obtain ⟨x2, ex2, hf⟩ := ab_bd hf
  refine ab_iald (pc' := 7) dX7_wake_6 ex2 rfl ?_
  refine ab_aload_n (pc' := 8) (q := 0) dX7_wake_7 rfl rfl rfl ?_
  refine ab_iload_n (pc' := 9) (q := 1) dX7_wake_8 rfl rfl rfl ?_
  refine ab_aload_n (pc' := 10) (q := 0) dX7_wake_9 rfl rfl rfl ?_
  obtain ⟨r3, er3, hf⟩ := ab_bd hf
  refine ab_getR (pc' := 13) (ci := 7) (k := 12) dX7_wake_10 rfl (by decide) fl_X7_41 er3 rfl ?_
  refine ab_iload_n (pc' := 14) (q := 1) dX7_wake_13 rfl rfl rfl ?_
  obtain ⟨x4, ex4, hf⟩ := ab_bd hf
  refine ab_iald (pc' := 15) dX7_wake_14 ex4 rfl ?_
  obtain ⟨u5, eu5, hf⟩ := ab_bd hf
  obtain ⟨x6, ex6, hf⟩ := ab_bd hf
  refine ab_callV (pc' := 18) (Mc := mX7_wakeOf) (as := [.int a1, .int x4]) (st := [.int x2, .int a1, .ref r1]) dX7_wake_15 ml_X7_101 okX7_wakeOf im_X7_wakeOf se_X7_wakeOf rfl eu5 rfl (by decide) (Nat.le_of_ble_eq_true rfl) (Nat.le_of_ble_eq_true rfl) (Nat.le_of_ble_eq_true rfl) rfl rfl (kX7_wakeOf ex6 ?_)
  show ab_Ev l g mX7_wake 1 0 0 18 [(0, .ref a0), (1, .int a1)] [.int x6, .int x2, .int a1, .ref r1] h 0 0 K
  refine ab_iadd (pc' := 19) dX7_wake_18 rfl ?_
  obtain ⟨h7, eh7, hf⟩ := ab_bd hf
  refine ab_iast (pc' := 20) dX7_wake_19 eh7 rfl ?_
  refine ab_aload_n (pc' := 21) (q := 0) dX7_wake_20 rfl rfl rfl ?_
  obtain ⟨r8, er8, hf⟩ := ab_bd hf
  refine ab_getR (pc' := 24) (ci := 7) (k := 14) dX7_wake_21 rfl (by decide) fl_X7_47 er8 rfl ?_
  refine ab_iload_n (pc' := 25) (q := 1) dX7_wake_24 rfl rfl rfl ?_
  refine ab_dup2 (pc' := 26) dX7_wake_25 rfl ?_
  obtain ⟨x9, ex9, hf⟩ := ab_bd hf
  refine ab_iald (pc' := 27) dX7_wake_26 ex9 rfl ?_
  refine ab_iconst (pc' := 28) (v := 1) dX7_wake_27 (by decide) rfl ?_
  refine ab_iadd (pc' := 29) dX7_wake_28 rfl ?_
  obtain ⟨h10, eh10, hf⟩ := ab_bd hf
  refine ab_iast (pc' := 30) dX7_wake_29 eh10 rfl ?_
  refine ab_iconst (pc' := 31) (v := 0) dX7_wake_30 (by decide) rfl ?_
  refine ab_istore_n (pc' := 32) (ls' := [(2, .int 0), (0, .ref a0), (1, .int a1)]) dX7_wake_31 rfl (by decide) rfl rfl ?_
  refine ab_iconst (pc' := 33) (v := 0) dX7_wake_32 (by decide) rfl ?_
  refine ab_istore_n (pc' := 34) (ls' := [(3, .int 0), (2, .int 0), (0, .ref a0), (1, .int a1)]) dX7_wake_33 rfl (by decide) rfl rfl ?_
  refine ab_drop (ls' := [(0, .ref a0), (1, .int a1), (2, .int 0), (3, .int 0)]) [2, 3, 1, 0] rfl ?_
  obtain ⟨q26, eq26, hf⟩ := ab_bd hf
  refine klX7_wake_34 ?_ ab_fu _ _ _ eq26
  refine ab_aload_n (pc' := 94) (q := 0) dX7_wake_93 rfl rfl rfl ?_
  refine ab_iload_n (pc' := 95) (q := 1) dX7_wake_94 rfl rfl rfl ?_
  obtain ⟨h27, eh27, hf⟩ := ab_bd hf
  refine ab_put (pc' := 98) (ci := 7) (k := 22) dX7_wake_95 rfl (by decide) fl_X7_121 rfl (tyX7_ok 22 (by decide)) rfl rfl eh27 rfl ?_
  have hf := Option.some.inj hf
  subst hf
  exact ab_vret rfl dX7_wake_98 hK
-- DiskRestsModel.keepBusy(I)V (mode W, depth 0)
def bX7_keepBusy_41 (v0 : Nat) (v1 : Int32) (h : ab_H) : Option ab_H := (ab_gR h v0 7 11).bind (fun r4 => (ab_sI h r4 v1 0).bind (fun h5 => some h5))
set_option maxRecDepth 20000 in
set_option maxHeartbeats 1000000 in
theorem kbX7_keepBusy_41 {l : Launch} {g : ab_G} {K : ab_K} {h : ab_H} {v0 : Nat} {v1 : Int32} {r : ab_H} (hf : bX7_keepBusy_41 v0 v1 h = some r) (hK : K none r) : ab_Ev l g mX7_keepBusy 0 0 0 41 [(0, .ref v0), (1, .int v1)] [] h 0 0 K := by
  unfold bX7_keepBusy_41 at hf
  refine ab_aload_n (pc' := 42) (q := 0) dX7_keepBusy_41 rfl rfl rfl ?_
  obtain ⟨r4, er4, hf⟩ := ab_bd hf
  refine ab_getR (pc' := 45) (ci := 7) (k := 11) dX7_keepBusy_42 rfl (by decide) fl_X7_38 er4 rfl ?_
  refine ab_iload_n (pc' := 46) (q := 1) dX7_keepBusy_45 rfl rfl rfl ?_
  refine ab_iconst (pc' := 47) (v := 0) dX7_keepBusy_46 (by decide) rfl ?_
  obtain ⟨h5, eh5, hf⟩ := ab_bd hf
  refine ab_iast (pc' := 48) dX7_keepBusy_47 eh5 rfl ?_
  have hf := Option.some.inj hf
  subst hf
  exact ab_vret rfl dX7_keepBusy_48 hK
def fX7_keepBusy (h : ab_H) (a0 : Nat) (a1 : Int32) : Option ab_H := (ab_gR h a0 7 11).bind (fun r1 => (ab_aI h r1 a1).bind (fun x2 => if (x2 : Int32) ≤ 0 then bX7_keepBusy_41 a0 a1 h else (ab_gR h a0 7 19).bind (fun r6 => (ab_gR h a0 7 18).bind (fun r7 => (ab_aI h r7 a1).bind (fun x8 => (ab_gR h a0 7 11).bind (fun r9 => (ab_aI h r9 a1).bind (fun x10 => (ab_sI h r6 ((40 * a1) + x8) x10).bind (fun h11 => (ab_gR h11 a0 7 18).bind (fun r12 => (ab_aI h11 r12 a1).bind (fun x13 => (ab_sI h11 r12 a1 (x13 + 1)).bind (fun h14 => bX7_keepBusy_41 a0 a1 h14)))))))))))
set_option maxRecDepth 20000 in
set_option maxHeartbeats 1000000 in
theorem kX7_keepBusy {l : Launch} {g : ab_G} {K : ab_K} {h : ab_H} {a0 : Nat} {a1 : Int32} {r : ab_H} (hf : fX7_keepBusy h a0 a1 = some r) (hK : K none r) : ab_S l g mX7_keepBusy 0 0 0 [.ref a0, .int a1] h K := by
  unfold fX7_keepBusy at hf
  refine ab_enter (ls := [(0, .ref a0), (1, .int a1)]) (by decide +kernel) rfl (Nat.le_of_ble_eq_true rfl) rfl ?_
  refine ab_aload_n (pc' := 1) (q := 0) dX7_keepBusy_0 rfl rfl rfl ?_
  obtain ⟨r1, er1, hf⟩ := ab_bd hf
  refine ab_getR (pc' := 4) (ci := 7) (k := 11) dX7_keepBusy_1 rfl (by decide) fl_X7_38 er1 rfl ?_
  refine ab_iload_n (pc' := 5) (q := 1) dX7_keepBusy_4 rfl rfl rfl ?_
  obtain ⟨x2, ex2, hf⟩ := ab_bd hf
  refine ab_iald (pc' := 6) dX7_keepBusy_5 ex2 rfl ?_
  refine ab_if_le (pc' := 9) (tgt := 41) dX7_keepBusy_6 (by decide) rfl (fun c3 => ?_) (fun c3 => ?_)
  · have hf := ab_ip c3 hf
    exact kbX7_keepBusy_41 hf hK
  · have hf := ab_iN c3 hf
    refine ab_aload_n (pc' := 10) (q := 0) dX7_keepBusy_9 rfl rfl rfl ?_
    obtain ⟨r6, er6, hf⟩ := ab_bd hf
    refine ab_getR (pc' := 13) (ci := 7) (k := 19) dX7_keepBusy_10 rfl (by decide) fl_X7_62 er6 rfl ?_
    refine ab_bipush (pc' := 15) (v := 40) dX7_keepBusy_13 (by decide) rfl ?_
    refine ab_iload_n (pc' := 16) (q := 1) dX7_keepBusy_15 rfl rfl rfl ?_
    refine ab_imul (pc' := 17) dX7_keepBusy_16 rfl ?_
    refine ab_aload_n (pc' := 18) (q := 0) dX7_keepBusy_17 rfl rfl rfl ?_
    obtain ⟨r7, er7, hf⟩ := ab_bd hf
    refine ab_getR (pc' := 21) (ci := 7) (k := 18) dX7_keepBusy_18 rfl (by decide) fl_X7_59 er7 rfl ?_
    refine ab_iload_n (pc' := 22) (q := 1) dX7_keepBusy_21 rfl rfl rfl ?_
    obtain ⟨x8, ex8, hf⟩ := ab_bd hf
    refine ab_iald (pc' := 23) dX7_keepBusy_22 ex8 rfl ?_
    refine ab_iadd (pc' := 24) dX7_keepBusy_23 rfl ?_
    refine ab_aload_n (pc' := 25) (q := 0) dX7_keepBusy_24 rfl rfl rfl ?_
    obtain ⟨r9, er9, hf⟩ := ab_bd hf
    refine ab_getR (pc' := 28) (ci := 7) (k := 11) dX7_keepBusy_25 rfl (by decide) fl_X7_38 er9 rfl ?_
    refine ab_iload_n (pc' := 29) (q := 1) dX7_keepBusy_28 rfl rfl rfl ?_
    obtain ⟨x10, ex10, hf⟩ := ab_bd hf
    refine ab_iald (pc' := 30) dX7_keepBusy_29 ex10 rfl ?_
    obtain ⟨h11, eh11, hf⟩ := ab_bd hf
    refine ab_iast (pc' := 31) dX7_keepBusy_30 eh11 rfl ?_
    refine ab_aload_n (pc' := 32) (q := 0) dX7_keepBusy_31 rfl rfl rfl ?_
    obtain ⟨r12, er12, hf⟩ := ab_bd hf
    refine ab_getR (pc' := 35) (ci := 7) (k := 18) dX7_keepBusy_32 rfl (by decide) fl_X7_59 er12 rfl ?_
    refine ab_iload_n (pc' := 36) (q := 1) dX7_keepBusy_35 rfl rfl rfl ?_
    refine ab_dup2 (pc' := 37) dX7_keepBusy_36 rfl ?_
    obtain ⟨x13, ex13, hf⟩ := ab_bd hf
    refine ab_iald (pc' := 38) dX7_keepBusy_37 ex13 rfl ?_
    refine ab_iconst (pc' := 39) (v := 1) dX7_keepBusy_38 (by decide) rfl ?_
    refine ab_iadd (pc' := 40) dX7_keepBusy_39 rfl ?_
    obtain ⟨h14, eh14, hf⟩ := ab_bd hf
    refine ab_iast (pc' := 41) dX7_keepBusy_40 eh14 rfl ?_
    exact kbX7_keepBusy_41 hf hK
-- DiskRestsModel.meet(I)V (mode W, depth 2)
def bX7_meet_214  (h : ab_H) : Option ab_H := some h
set_option maxRecDepth 20000 in
set_option maxHeartbeats 1000000 in
theorem kbX7_meet_214 {l : Launch} {g : ab_G} {K : ab_K} {h : ab_H}  {r : ab_H} (hf : bX7_meet_214 h = some r) (hK : K none r) : ab_Ev l g mX7_meet 2 0 0 214 [] [] h 0 0 K := by
  unfold bX7_meet_214 at hf
  have hf := Option.some.inj hf
  subst hf
  exact ab_vret rfl dX7_meet_214 hK
def bX7_meet_207 (v0 : Nat) (v2 : Int32) (s3 : Int32) (s2 : Int32) (s1 : Int32) (s0 : Nat) (h : ab_H) : Option ab_H := (ab_sI h s0 s1 (s2 + s3)).bind (fun h27 => (ab_ob h27 v0 7).bind (fun u28 => (fX7_keepBusy h27 v0 v2).bind (fun h29 => bX7_meet_214 h29)))
set_option maxRecDepth 20000 in
set_option maxHeartbeats 1000000 in
theorem kbX7_meet_207 {l : Launch} {g : ab_G} {K : ab_K} {h : ab_H} {v0 : Nat} {v2 : Int32} {s3 : Int32} {s2 : Int32} {s1 : Int32} {s0 : Nat} {r : ab_H} (hf : bX7_meet_207 v0 v2 s3 s2 s1 s0 h = some r) (hK : K none r) : ab_Ev l g mX7_meet 2 0 0 207 [(0, .ref v0), (2, .int v2)] [.int s3, .int s2, .int s1, .ref s0] h 0 0 K := by
  unfold bX7_meet_207 at hf
  refine ab_iadd (pc' := 208) dX7_meet_207 rfl ?_
  obtain ⟨h27, eh27, hf⟩ := ab_bd hf
  refine ab_iast (pc' := 209) dX7_meet_208 eh27 rfl ?_
  refine ab_aload_n (pc' := 210) (q := 0) dX7_meet_209 rfl rfl rfl ?_
  refine ab_iload_n (pc' := 211) (q := 1) dX7_meet_210 rfl rfl rfl ?_
  obtain ⟨u28, eu28, hf⟩ := ab_bd hf
  obtain ⟨h29, eh29, hf⟩ := ab_bd hf
  refine ab_callV (pc' := 214) (Mc := mX7_keepBusy) (as := [.int v2]) (st := []) dX7_meet_211 ml_X7_134 okX7_keepBusy im_X7_keepBusy se_X7_keepBusy rfl eu28 rfl (by decide) (Nat.le_of_ble_eq_true rfl) (Nat.le_of_ble_eq_true rfl) (Nat.le_of_ble_eq_true rfl) rfl rfl (kX7_keepBusy eh29 ?_)
  show ab_Ev l g mX7_meet 2 0 0 214 [(0, .ref v0), (2, .int v2)] [] h29 0 0 K
  refine ab_drop (ls' := []) [] rfl ?_
  exact kbX7_meet_214 hf hK
def bX7_meet_183 (v0 : Nat) (v1 : Int32) (v2 : Int32) (s3 : Int32) (s2 : Int32) (s1 : Int32) (s0 : Nat) (h : ab_H) : Option ab_H := (ab_sI h s0 s1 (s2 + s3)).bind (fun h21 => (ab_gR h21 v0 7 16).bind (fun r22 => (ab_aI h21 r22 v2).bind (fun x23 => (ab_gR h21 v0 7 8).bind (fun r24 => (ab_aI h21 r24 v1).bind (fun x25 => if (x25 : Int32) = 1 then bX7_meet_207 v0 v2 1 x23 v2 r22 h21 else bX7_meet_207 v0 v2 0 x23 v2 r22 h21)))))
set_option maxRecDepth 20000 in
set_option maxHeartbeats 1000000 in
theorem kbX7_meet_183 {l : Launch} {g : ab_G} {K : ab_K} {h : ab_H} {v0 : Nat} {v1 : Int32} {v2 : Int32} {s3 : Int32} {s2 : Int32} {s1 : Int32} {s0 : Nat} {r : ab_H} (hf : bX7_meet_183 v0 v1 v2 s3 s2 s1 s0 h = some r) (hK : K none r) : ab_Ev l g mX7_meet 2 0 0 183 [(0, .ref v0), (1, .int v1), (2, .int v2)] [.int s3, .int s2, .int s1, .ref s0] h 0 0 K := by
  unfold bX7_meet_183 at hf
  refine ab_iadd (pc' := 184) dX7_meet_183 rfl ?_
  obtain ⟨h21, eh21, hf⟩ := ab_bd hf
  refine ab_iast (pc' := 185) dX7_meet_184 eh21 rfl ?_
  refine ab_aload_n (pc' := 186) (q := 0) dX7_meet_185 rfl rfl rfl ?_
  obtain ⟨r22, er22, hf⟩ := ab_bd hf
  refine ab_getR (pc' := 189) (ci := 7) (k := 16) dX7_meet_186 rfl (by decide) fl_X7_53 er22 rfl ?_
  refine ab_iload_n (pc' := 190) (q := 2) dX7_meet_189 rfl rfl rfl ?_
  refine ab_dup2 (pc' := 191) dX7_meet_190 rfl ?_
  obtain ⟨x23, ex23, hf⟩ := ab_bd hf
  refine ab_iald (pc' := 192) dX7_meet_191 ex23 rfl ?_
  refine ab_aload_n (pc' := 193) (q := 0) dX7_meet_192 rfl rfl rfl ?_
  obtain ⟨r24, er24, hf⟩ := ab_bd hf
  refine ab_getR (pc' := 196) (ci := 7) (k := 8) dX7_meet_193 rfl (by decide) fl_X7_31 er24 rfl ?_
  refine ab_iload_n (pc' := 197) (q := 1) dX7_meet_196 rfl rfl rfl ?_
  obtain ⟨x25, ex25, hf⟩ := ab_bd hf
  refine ab_iald (pc' := 198) dX7_meet_197 ex25 rfl ?_
  refine ab_iconst (pc' := 199) (v := 1) dX7_meet_198 (by decide) rfl ?_
  refine ab_icmp_ne (pc' := 202) (tgt := 206) dX7_meet_199 (by decide) rfl (fun c26 => ?_) (fun c26 => ?_)
  · have hf := ab_iN c26 hf
    refine ab_iconst (pc' := 207) (v := 0) dX7_meet_206 (by decide) rfl ?_
    refine ab_drop (ls' := [(0, .ref v0), (2, .int v2)]) [0, 2] rfl ?_
    exact kbX7_meet_207 hf hK
  · have hf := ab_ip c26 hf
    refine ab_iconst (pc' := 203) (v := 1) dX7_meet_202 (by decide) rfl ?_
    refine ab_goto (tgt := 207) dX7_meet_203 (by decide) ?_
    refine ab_drop (ls' := [(0, .ref v0), (2, .int v2)]) [0, 2] rfl ?_
    exact kbX7_meet_207 hf hK
def bX7_meet_161 (v0 : Nat) (v1 : Int32) (v2 : Int32) (s2 : Int32) (s1 : Int32) (s0 : Nat) (h : ab_H) : Option ab_H := (ab_sI h s0 s1 s2).bind (fun h15 => (ab_gR h15 v0 7 15).bind (fun r16 => (ab_aI h15 r16 v2).bind (fun x17 => (ab_gR h15 v0 7 8).bind (fun r18 => (ab_aI h15 r18 v1).bind (fun x19 => if (x19 : Int32) = 0 then bX7_meet_183 v0 v1 v2 1 x17 v2 r16 h15 else bX7_meet_183 v0 v1 v2 0 x17 v2 r16 h15)))))
set_option maxRecDepth 20000 in
set_option maxHeartbeats 1000000 in
theorem kbX7_meet_161 {l : Launch} {g : ab_G} {K : ab_K} {h : ab_H} {v0 : Nat} {v1 : Int32} {v2 : Int32} {s2 : Int32} {s1 : Int32} {s0 : Nat} {r : ab_H} (hf : bX7_meet_161 v0 v1 v2 s2 s1 s0 h = some r) (hK : K none r) : ab_Ev l g mX7_meet 2 0 0 161 [(0, .ref v0), (1, .int v1), (2, .int v2)] [.int s2, .int s1, .ref s0] h 0 0 K := by
  unfold bX7_meet_161 at hf
  obtain ⟨h15, eh15, hf⟩ := ab_bd hf
  refine ab_iast (pc' := 162) dX7_meet_161 eh15 rfl ?_
  refine ab_aload_n (pc' := 163) (q := 0) dX7_meet_162 rfl rfl rfl ?_
  obtain ⟨r16, er16, hf⟩ := ab_bd hf
  refine ab_getR (pc' := 166) (ci := 7) (k := 15) dX7_meet_163 rfl (by decide) fl_X7_50 er16 rfl ?_
  refine ab_iload_n (pc' := 167) (q := 2) dX7_meet_166 rfl rfl rfl ?_
  refine ab_dup2 (pc' := 168) dX7_meet_167 rfl ?_
  obtain ⟨x17, ex17, hf⟩ := ab_bd hf
  refine ab_iald (pc' := 169) dX7_meet_168 ex17 rfl ?_
  refine ab_aload_n (pc' := 170) (q := 0) dX7_meet_169 rfl rfl rfl ?_
  obtain ⟨r18, er18, hf⟩ := ab_bd hf
  refine ab_getR (pc' := 173) (ci := 7) (k := 8) dX7_meet_170 rfl (by decide) fl_X7_31 er18 rfl ?_
  refine ab_iload_n (pc' := 174) (q := 1) dX7_meet_173 rfl rfl rfl ?_
  obtain ⟨x19, ex19, hf⟩ := ab_bd hf
  refine ab_iald (pc' := 175) dX7_meet_174 ex19 rfl ?_
  refine ab_if_ne (pc' := 178) (tgt := 182) dX7_meet_175 (by decide) rfl (fun c20 => ?_) (fun c20 => ?_)
  · have hf := ab_iN c20 hf
    refine ab_iconst (pc' := 183) (v := 0) dX7_meet_182 (by decide) rfl ?_
    exact kbX7_meet_183 hf hK
  · have hf := ab_ip c20 hf
    refine ab_iconst (pc' := 179) (v := 1) dX7_meet_178 (by decide) rfl ?_
    refine ab_goto (tgt := 183) dX7_meet_179 (by decide) ?_
    exact kbX7_meet_183 hf hK
def bX7_meet_125 (v0 : Nat) (v1 : Int32) (v2 : Int32) (v3 : Int32) (h : ab_H) : Option ab_H := (ab_gR h v0 7 20).bind (fun r10 => (ab_gR h v0 7 8).bind (fun r11 => (ab_aI h r11 v1).bind (fun x12 => if (x12 : Int32) = 0 then if (v3 : Int32) = 0 then bX7_meet_161 v0 v1 v2 1 v1 r10 h else bX7_meet_161 v0 v1 v2 2 v1 r10 h else if (v3 : Int32) = 0 then bX7_meet_161 v0 v1 v2 3 v1 r10 h else bX7_meet_161 v0 v1 v2 6 v1 r10 h)))
set_option maxRecDepth 20000 in
set_option maxHeartbeats 1000000 in
theorem kbX7_meet_125 {l : Launch} {g : ab_G} {K : ab_K} {h : ab_H} {v0 : Nat} {v1 : Int32} {v2 : Int32} {v3 : Int32} {r : ab_H} (hf : bX7_meet_125 v0 v1 v2 v3 h = some r) (hK : K none r) : ab_Ev l g mX7_meet 2 0 0 125 [(0, .ref v0), (1, .int v1), (2, .int v2), (3, .int v3)] [] h 0 0 K := by
  unfold bX7_meet_125 at hf
  refine ab_aload_n (pc' := 126) (q := 0) dX7_meet_125 rfl rfl rfl ?_
  obtain ⟨r10, er10, hf⟩ := ab_bd hf
  refine ab_getR (pc' := 129) (ci := 7) (k := 20) dX7_meet_126 rfl (by decide) fl_X7_65 er10 rfl ?_
  refine ab_iload_n (pc' := 130) (q := 1) dX7_meet_129 rfl rfl rfl ?_
  refine ab_aload_n (pc' := 131) (q := 0) dX7_meet_130 rfl rfl rfl ?_
  obtain ⟨r11, er11, hf⟩ := ab_bd hf
  refine ab_getR (pc' := 134) (ci := 7) (k := 8) dX7_meet_131 rfl (by decide) fl_X7_31 er11 rfl ?_
  refine ab_iload_n (pc' := 135) (q := 1) dX7_meet_134 rfl rfl rfl ?_
  obtain ⟨x12, ex12, hf⟩ := ab_bd hf
  refine ab_iald (pc' := 136) dX7_meet_135 ex12 rfl ?_
  refine ab_if_ne (pc' := 139) (tgt := 151) dX7_meet_136 (by decide) rfl (fun c13 => ?_) (fun c13 => ?_)
  · have hf := ab_iN c13 hf
    refine ab_iload_n (pc' := 152) (q := 3) dX7_meet_151 rfl rfl rfl ?_
    refine ab_if_eq (pc' := 155) (tgt := 160) dX7_meet_152 (by decide) rfl (fun c14 => ?_) (fun c14 => ?_)
    · have hf := ab_ip c14 hf
      refine ab_iconst (pc' := 161) (v := 3) dX7_meet_160 (by decide) rfl ?_
      refine ab_drop (ls' := [(0, .ref v0), (1, .int v1), (2, .int v2)]) [0, 1, 2] rfl ?_
      exact kbX7_meet_161 hf hK
    · have hf := ab_iN c14 hf
      refine ab_bipush (pc' := 157) (v := 6) dX7_meet_155 (by decide) rfl ?_
      refine ab_goto (tgt := 161) dX7_meet_157 (by decide) ?_
      refine ab_drop (ls' := [(0, .ref v0), (1, .int v1), (2, .int v2)]) [0, 1, 2] rfl ?_
      exact kbX7_meet_161 hf hK
  · have hf := ab_ip c13 hf
    refine ab_iload_n (pc' := 140) (q := 3) dX7_meet_139 rfl rfl rfl ?_
    refine ab_if_eq (pc' := 143) (tgt := 147) dX7_meet_140 (by decide) rfl (fun c30 => ?_) (fun c30 => ?_)
    · have hf := ab_ip c30 hf
      refine ab_iconst (pc' := 148) (v := 1) dX7_meet_147 (by decide) rfl ?_
      refine ab_goto (tgt := 161) dX7_meet_148 (by decide) ?_
      refine ab_drop (ls' := [(0, .ref v0), (1, .int v1), (2, .int v2)]) [0, 1, 2] rfl ?_
      exact kbX7_meet_161 hf hK
    · have hf := ab_iN c30 hf
      refine ab_iconst (pc' := 144) (v := 2) dX7_meet_143 (by decide) rfl ?_
      refine ab_goto (tgt := 161) dX7_meet_144 (by decide) ?_
      refine ab_drop (ls' := [(0, .ref v0), (1, .int v1), (2, .int v2)]) [0, 1, 2] rfl ?_
      exact kbX7_meet_161 hf hK
def bX7_meet_93 (v0 : Nat) (v1 : Int32) (v2 : Int32) (s1 : Int32) (s0 : Nat) (h : ab_H) : Option ab_H := (ab_pV h s0 7 23 (.int s1)).bind (fun h42 => (ab_gR h42 v0 7 17).bind (fun r43 => (ab_aI h42 r43 v2).bind (fun x44 => (ab_sI h42 r43 v2 (x44 + 1)).bind (fun h45 => (ab_gR h45 v0 7 20).bind (fun r46 => (ab_sI h45 r46 v1 5).bind (fun h47 => bX7_meet_214 h47))))))
set_option maxRecDepth 20000 in
set_option maxHeartbeats 1000000 in
theorem kbX7_meet_93 {l : Launch} {g : ab_G} {K : ab_K} {h : ab_H} {v0 : Nat} {v1 : Int32} {v2 : Int32} {s1 : Int32} {s0 : Nat} {r : ab_H} (hf : bX7_meet_93 v0 v1 v2 s1 s0 h = some r) (hK : K none r) : ab_Ev l g mX7_meet 2 0 0 93 [(0, .ref v0), (1, .int v1), (2, .int v2)] [.int s1, .ref s0] h 0 0 K := by
  unfold bX7_meet_93 at hf
  obtain ⟨h42, eh42, hf⟩ := ab_bd hf
  refine ab_put (pc' := 96) (ci := 7) (k := 23) dX7_meet_93 rfl (by decide) fl_X7_127 rfl (tyX7_ok 23 (by decide)) rfl rfl eh42 rfl ?_
  refine ab_aload_n (pc' := 97) (q := 0) dX7_meet_96 rfl rfl rfl ?_
  obtain ⟨r43, er43, hf⟩ := ab_bd hf
  refine ab_getR (pc' := 100) (ci := 7) (k := 17) dX7_meet_97 rfl (by decide) fl_X7_56 er43 rfl ?_
  refine ab_iload_n (pc' := 101) (q := 2) dX7_meet_100 rfl rfl rfl ?_
  refine ab_dup2 (pc' := 102) dX7_meet_101 rfl ?_
  obtain ⟨x44, ex44, hf⟩ := ab_bd hf
  refine ab_iald (pc' := 103) dX7_meet_102 ex44 rfl ?_
  refine ab_iconst (pc' := 104) (v := 1) dX7_meet_103 (by decide) rfl ?_
  refine ab_iadd (pc' := 105) dX7_meet_104 rfl ?_
  obtain ⟨h45, eh45, hf⟩ := ab_bd hf
  refine ab_iast (pc' := 106) dX7_meet_105 eh45 rfl ?_
  refine ab_aload_n (pc' := 107) (q := 0) dX7_meet_106 rfl rfl rfl ?_
  obtain ⟨r46, er46, hf⟩ := ab_bd hf
  refine ab_getR (pc' := 110) (ci := 7) (k := 20) dX7_meet_107 rfl (by decide) fl_X7_65 er46 rfl ?_
  refine ab_iload_n (pc' := 111) (q := 1) dX7_meet_110 rfl rfl rfl ?_
  refine ab_iconst (pc' := 112) (v := 5) dX7_meet_111 (by decide) rfl ?_
  obtain ⟨h47, eh47, hf⟩ := ab_bd hf
  refine ab_iast (pc' := 113) dX7_meet_112 eh47 rfl ?_
  refine ab_goto (tgt := 214) dX7_meet_113 (by decide) ?_
  refine ab_drop (ls' := []) [] rfl ?_
  exact kbX7_meet_214 hf hK
def bX7_meet_43 (v0 : Nat) (v1 : Int32) (v2 : Int32) (v3 : Int32) (s0 : Int32) (h : ab_H) : Option ab_H := if (s0 : Int32) = 0 then if (v3 : Int32) = 0 then bX7_meet_125 v0 v1 v2 v3 h else (ab_ob h v0 7).bind (fun u31 => (fX7_wake h v0 v2).bind (fun h32 => bX7_meet_125 v0 v1 v2 v3 h32)) else (ab_gR h v0 7 21).bind (fun r33 => (ab_gI h v0 7 22).bind (fun x34 => (ab_sI h r33 x34 v1).bind (fun h35 => (ab_gI h35 v0 7 22).bind (fun x36 => (ab_pV h35 v0 7 22 (.int (x36 + 1))).bind (fun h37 => (ab_gI h37 v0 7 22).bind (fun x38 => (ab_gI h37 v0 7 23).bind (fun x39 => if (x38 : Int32) ≤ x39 then (ab_gI h37 v0 7 23).bind (fun x41 => bX7_meet_93 v0 v1 v2 x41 v0 h37) else (ab_gI h37 v0 7 22).bind (fun x48 => bX7_meet_93 v0 v1 v2 x48 v0 h37))))))))
set_option maxRecDepth 20000 in
set_option maxHeartbeats 1000000 in
theorem kbX7_meet_43 {l : Launch} {g : ab_G} {K : ab_K} {h : ab_H} {v0 : Nat} {v1 : Int32} {v2 : Int32} {v3 : Int32} {s0 : Int32} {r : ab_H} (hf : bX7_meet_43 v0 v1 v2 v3 s0 h = some r) (hK : K none r) : ab_Ev l g mX7_meet 2 0 0 43 [(0, .ref v0), (1, .int v1), (2, .int v2), (3, .int v3)] [.int s0] h 0 0 K := by
  unfold bX7_meet_43 at hf
  refine ab_istore (pc' := 45) (ls' := [(4, .int s0), (0, .ref v0), (1, .int v1), (2, .int v2), (3, .int v3)]) dX7_meet_43 (by decide) rfl rfl ?_
  refine ab_iload (pc' := 47) (q := 0) dX7_meet_45 rfl rfl ?_
  refine ab_if_eq (pc' := 50) (tgt := 116) dX7_meet_47 (by decide) rfl (fun c8 => ?_) (fun c8 => ?_)
  · have hf := ab_ip c8 hf
    refine ab_iload_n (pc' := 117) (q := 4) dX7_meet_116 rfl rfl rfl ?_
    refine ab_if_eq (pc' := 120) (tgt := 125) dX7_meet_117 (by decide) rfl (fun c9 => ?_) (fun c9 => ?_)
    · have hf := ab_ip c9 hf
      refine ab_drop (ls' := [(0, .ref v0), (1, .int v1), (2, .int v2), (3, .int v3)]) [1, 2, 3, 4] rfl ?_
      exact kbX7_meet_125 hf hK
    · have hf := ab_iN c9 hf
      refine ab_aload_n (pc' := 121) (q := 1) dX7_meet_120 rfl rfl rfl ?_
      refine ab_iload_n (pc' := 122) (q := 3) dX7_meet_121 rfl rfl rfl ?_
      obtain ⟨u31, eu31, hf⟩ := ab_bd hf
      obtain ⟨h32, eh32, hf⟩ := ab_bd hf
      refine ab_callV (pc' := 125) (Mc := mX7_wake) (as := [.int v2]) (st := []) dX7_meet_122 ml_X7_130 okX7_wake im_X7_wake se_X7_wake rfl eu31 rfl (by decide) (Nat.le_of_ble_eq_true rfl) (Nat.le_of_ble_eq_true rfl) (Nat.le_of_ble_eq_true rfl) rfl rfl (kX7_wake eh32 ?_)
      show ab_Ev l g mX7_meet 2 0 0 125 [(4, .int s0), (0, .ref v0), (1, .int v1), (2, .int v2), (3, .int v3)] [] h32 0 0 K
      refine ab_drop (ls' := [(0, .ref v0), (1, .int v1), (2, .int v2), (3, .int v3)]) [1, 2, 3, 4] rfl ?_
      exact kbX7_meet_125 hf hK
  · have hf := ab_iN c8 hf
    refine ab_aload_n (pc' := 51) (q := 1) dX7_meet_50 rfl rfl rfl ?_
    obtain ⟨r33, er33, hf⟩ := ab_bd hf
    refine ab_getR (pc' := 54) (ci := 7) (k := 21) dX7_meet_51 rfl (by decide) fl_X7_68 er33 rfl ?_
    refine ab_aload_n (pc' := 55) (q := 1) dX7_meet_54 rfl rfl rfl ?_
    obtain ⟨x34, ex34, hf⟩ := ab_bd hf
    refine ab_getI (pc' := 58) (ci := 7) (k := 22) dX7_meet_55 rfl (by decide) fl_X7_121 ex34 rfl ?_
    refine ab_iload_n (pc' := 59) (q := 2) dX7_meet_58 rfl rfl rfl ?_
    obtain ⟨h35, eh35, hf⟩ := ab_bd hf
    refine ab_iast (pc' := 60) dX7_meet_59 eh35 rfl ?_
    refine ab_aload_n (pc' := 61) (q := 1) dX7_meet_60 rfl rfl rfl ?_
    refine ab_dup_ref (pc' := 62) dX7_meet_61 rfl ?_
    obtain ⟨x36, ex36, hf⟩ := ab_bd hf
    refine ab_getI (pc' := 65) (ci := 7) (k := 22) dX7_meet_62 rfl (by decide) fl_X7_121 ex36 rfl ?_
    refine ab_iconst (pc' := 66) (v := 1) dX7_meet_65 (by decide) rfl ?_
    refine ab_iadd (pc' := 67) dX7_meet_66 rfl ?_
    obtain ⟨h37, eh37, hf⟩ := ab_bd hf
    refine ab_put (pc' := 70) (ci := 7) (k := 22) dX7_meet_67 rfl (by decide) fl_X7_121 rfl (tyX7_ok 22 (by decide)) rfl rfl eh37 rfl ?_
    refine ab_aload_n (pc' := 71) (q := 1) dX7_meet_70 rfl rfl rfl ?_
    refine ab_aload_n (pc' := 72) (q := 1) dX7_meet_71 rfl rfl rfl ?_
    obtain ⟨x38, ex38, hf⟩ := ab_bd hf
    refine ab_getI (pc' := 75) (ci := 7) (k := 22) dX7_meet_72 rfl (by decide) fl_X7_121 ex38 rfl ?_
    refine ab_aload_n (pc' := 76) (q := 1) dX7_meet_75 rfl rfl rfl ?_
    obtain ⟨x39, ex39, hf⟩ := ab_bd hf
    refine ab_getI (pc' := 79) (ci := 7) (k := 23) dX7_meet_76 rfl (by decide) fl_X7_127 ex39 rfl ?_
    refine ab_icmp_le (pc' := 82) (tgt := 89) dX7_meet_79 (by decide) rfl (fun c40 => ?_) (fun c40 => ?_)
    · have hf := ab_ip c40 hf
      refine ab_aload_n (pc' := 90) (q := 1) dX7_meet_89 rfl rfl rfl ?_
      obtain ⟨x41, ex41, hf⟩ := ab_bd hf
      refine ab_getI (pc' := 93) (ci := 7) (k := 23) dX7_meet_90 rfl (by decide) fl_X7_127 ex41 rfl ?_
      refine ab_drop (ls' := [(0, .ref v0), (1, .int v1), (2, .int v2)]) [1, 2, 3] rfl ?_
      exact kbX7_meet_93 hf hK
    · have hf := ab_iN c40 hf
      refine ab_aload_n (pc' := 83) (q := 1) dX7_meet_82 rfl rfl rfl ?_
      obtain ⟨x48, ex48, hf⟩ := ab_bd hf
      refine ab_getI (pc' := 86) (ci := 7) (k := 22) dX7_meet_83 rfl (by decide) fl_X7_121 ex48 rfl ?_
      refine ab_goto (tgt := 93) dX7_meet_86 (by decide) ?_
      refine ab_drop (ls' := [(0, .ref v0), (1, .int v1), (2, .int v2)]) [1, 2, 3] rfl ?_
      exact kbX7_meet_93 hf hK
def bX7_meet_42 (v0 : Nat) (v1 : Int32) (v2 : Int32) (v3 : Int32) (h : ab_H) : Option ab_H := bX7_meet_43 v0 v1 v2 v3 0 h
set_option maxRecDepth 20000 in
set_option maxHeartbeats 1000000 in
theorem kbX7_meet_42 {l : Launch} {g : ab_G} {K : ab_K} {h : ab_H} {v0 : Nat} {v1 : Int32} {v2 : Int32} {v3 : Int32} {r : ab_H} (hf : bX7_meet_42 v0 v1 v2 v3 h = some r) (hK : K none r) : ab_Ev l g mX7_meet 2 0 0 42 [(0, .ref v0), (1, .int v1), (2, .int v2), (3, .int v3)] [] h 0 0 K := by
  unfold bX7_meet_42 at hf
  refine ab_iconst (pc' := 43) (v := 0) dX7_meet_42 (by decide) rfl ?_
  exact kbX7_meet_43 hf hK
def fX7_meet (h : ab_H) (a0 : Nat) (a1 : Int32) : Option ab_H := (ab_gR h a0 7 7).bind (fun r1 => (ab_aI h r1 a1).bind (fun x2 => (ab_ob h a0 7).bind (fun u3 => (fX7_sleeps h a0 x2).bind (fun x4 => (ab_gR h a0 7 8).bind (fun r5 => (ab_aI h r5 a1).bind (fun x6 => if (x6 : Int32) = 1 then if (x4 : Int32) = 0 then bX7_meet_42 a0 a1 x2 x4 h else (ab_gI h a0 7 22).bind (fun x50 => (ab_gI h a0 7 10).bind (fun x51 => if x51 ≤ (x50 : Int32) then bX7_meet_42 a0 a1 x2 x4 h else bX7_meet_43 a0 a1 x2 x4 1 h)) else bX7_meet_42 a0 a1 x2 x4 h))))))
set_option maxRecDepth 20000 in
set_option maxHeartbeats 1000000 in
theorem kX7_meet {l : Launch} {g : ab_G} {K : ab_K} {h : ab_H} {a0 : Nat} {a1 : Int32} {r : ab_H} (hf : fX7_meet h a0 a1 = some r) (hK : K none r) : ab_S l g mX7_meet 2 0 0 [.ref a0, .int a1] h K := by
  unfold fX7_meet at hf
  refine ab_enter (ls := [(0, .ref a0), (1, .int a1)]) (by decide +kernel) rfl (Nat.le_of_ble_eq_true rfl) rfl ?_
  refine ab_aload_n (pc' := 1) (q := 0) dX7_meet_0 rfl rfl rfl ?_
  obtain ⟨r1, er1, hf⟩ := ab_bd hf
  refine ab_getR (pc' := 4) (ci := 7) (k := 7) dX7_meet_1 rfl (by decide) fl_X7_28 er1 rfl ?_
  refine ab_iload_n (pc' := 5) (q := 1) dX7_meet_4 rfl rfl rfl ?_
  obtain ⟨x2, ex2, hf⟩ := ab_bd hf
  refine ab_iald (pc' := 6) dX7_meet_5 ex2 rfl ?_
  refine ab_istore_n (pc' := 7) (ls' := [(2, .int x2), (0, .ref a0), (1, .int a1)]) dX7_meet_6 rfl (by decide) rfl rfl ?_
  refine ab_aload_n (pc' := 8) (q := 1) dX7_meet_7 rfl rfl rfl ?_
  refine ab_iload_n (pc' := 9) (q := 0) dX7_meet_8 rfl rfl rfl ?_
  obtain ⟨u3, eu3, hf⟩ := ab_bd hf
  obtain ⟨x4, ex4, hf⟩ := ab_bd hf
  refine ab_callV (pc' := 12) (Mc := mX7_sleeps) (as := [.int x2]) (st := []) dX7_meet_9 ml_X7_124 okX7_sleeps im_X7_sleeps se_X7_sleeps rfl eu3 rfl (by decide) (Nat.le_of_ble_eq_true rfl) (Nat.le_of_ble_eq_true rfl) (Nat.le_of_ble_eq_true rfl) rfl rfl (kX7_sleeps ex4 ?_)
  show ab_Ev l g mX7_meet 2 0 0 12 [(2, .int x2), (0, .ref a0), (1, .int a1)] [.int x4] h 0 0 K
  refine ab_istore_n (pc' := 13) (ls' := [(3, .int x4), (2, .int x2), (0, .ref a0), (1, .int a1)]) dX7_meet_12 rfl (by decide) rfl rfl ?_
  refine ab_aload_n (pc' := 14) (q := 2) dX7_meet_13 rfl rfl rfl ?_
  obtain ⟨r5, er5, hf⟩ := ab_bd hf
  refine ab_getR (pc' := 17) (ci := 7) (k := 8) dX7_meet_14 rfl (by decide) fl_X7_31 er5 rfl ?_
  refine ab_iload_n (pc' := 18) (q := 3) dX7_meet_17 rfl rfl rfl ?_
  obtain ⟨x6, ex6, hf⟩ := ab_bd hf
  refine ab_iald (pc' := 19) dX7_meet_18 ex6 rfl ?_
  refine ab_iconst (pc' := 20) (v := 1) dX7_meet_19 (by decide) rfl ?_
  refine ab_icmp_ne (pc' := 23) (tgt := 42) dX7_meet_20 (by decide) rfl (fun c7 => ?_) (fun c7 => ?_)
  · have hf := ab_iN c7 hf
    refine ab_drop (ls' := [(0, .ref a0), (1, .int a1), (2, .int x2), (3, .int x4)]) [2, 3, 1, 0] rfl ?_
    exact kbX7_meet_42 hf hK
  · have hf := ab_ip c7 hf
    refine ab_iload_n (pc' := 24) (q := 0) dX7_meet_23 rfl rfl rfl ?_
    refine ab_if_eq (pc' := 27) (tgt := 42) dX7_meet_24 (by decide) rfl (fun c49 => ?_) (fun c49 => ?_)
    · have hf := ab_ip c49 hf
      refine ab_drop (ls' := [(0, .ref a0), (1, .int a1), (2, .int x2), (3, .int x4)]) [2, 3, 1, 0] rfl ?_
      exact kbX7_meet_42 hf hK
    · have hf := ab_iN c49 hf
      refine ab_aload_n (pc' := 28) (q := 2) dX7_meet_27 rfl rfl rfl ?_
      obtain ⟨x50, ex50, hf⟩ := ab_bd hf
      refine ab_getI (pc' := 31) (ci := 7) (k := 22) dX7_meet_28 rfl (by decide) fl_X7_121 ex50 rfl ?_
      refine ab_aload_n (pc' := 32) (q := 2) dX7_meet_31 rfl rfl rfl ?_
      obtain ⟨x51, ex51, hf⟩ := ab_bd hf
      refine ab_getI (pc' := 35) (ci := 7) (k := 10) dX7_meet_32 rfl (by decide) fl_X7_108 ex51 rfl ?_
      refine ab_icmp_ge (pc' := 38) (tgt := 42) dX7_meet_35 (by decide) rfl (fun c52 => ?_) (fun c52 => ?_)
      · have hf := ab_ip c52 hf
        refine ab_drop (ls' := [(0, .ref a0), (1, .int a1), (2, .int x2), (3, .int x4)]) [2, 3, 1, 0] rfl ?_
        exact kbX7_meet_42 hf hK
      · have hf := ab_iN c52 hf
        refine ab_iconst (pc' := 39) (v := 1) dX7_meet_38 (by decide) rfl ?_
        refine ab_goto (tgt := 43) dX7_meet_39 (by decide) ?_
        refine ab_drop (ls' := [(0, .ref a0), (1, .int a1), (2, .int x2), (3, .int x4)]) [2, 3, 1, 0] rfl ?_
        exact kbX7_meet_43 hf hK
