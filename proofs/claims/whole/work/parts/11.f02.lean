-- DiskRests$Course.sleeps()Z (mode R, depth 0)
def bX0_sleeps_18  (h : ab_H) : Option Int32 := some 0
set_option maxRecDepth 20000 in
set_option maxHeartbeats 1000000 in
theorem kbX0_sleeps_18 {l : Launch} {g : ab_G} {K : ab_K} {h : ab_H}  {r : Int32} (hf : bX0_sleeps_18 h = some r) (hK : K (some (.int r)) h) : ab_Ev l g mX0_sleeps 0 0 0 18 [] [] h 0 0 K := by
  unfold bX0_sleeps_18 at hf
  refine ab_iconst (pc' := 19) (v := 0) dX0_sleeps_18 (by decide) rfl ?_
  have hf := Option.some.inj hf
  subst hf
  exact ab_zret rfl rfl dX0_sleeps_19 hK
def fX0_sleeps (h : ab_H) (a0 : Nat) : Option Int32 := (ab_gI h a0 0 5).bind (fun x1 => if (x1 : Int32) ≤ 0 then bX0_sleeps_18 h else (ab_gI h a0 0 6).bind (fun x3 => if (x3 : Int32) ≤ 0 then bX0_sleeps_18 h else some 1))
set_option maxRecDepth 20000 in
set_option maxHeartbeats 1000000 in
theorem kX0_sleeps {l : Launch} {g : ab_G} {K : ab_K} {h : ab_H} {a0 : Nat} {r : Int32} (hf : fX0_sleeps h a0 = some r) (hK : K (some (.int r)) h) : ab_S l g mX0_sleeps 0 0 0 [.ref a0] h K := by
  unfold fX0_sleeps at hf
  refine ab_enter (ls := [(0, .ref a0)]) (by decide +kernel) rfl (Nat.le_of_ble_eq_true rfl) rfl ?_
  refine ab_aload_n (pc' := 1) (q := 0) dX0_sleeps_0 rfl rfl rfl ?_
  obtain ⟨x1, ex1, hf⟩ := ab_bd hf
  refine ab_getI (pc' := 4) (ci := 0) (k := 5) dX0_sleeps_1 rfl (by decide) fl_X0_34 ex1 rfl ?_
  refine ab_if_le (pc' := 7) (tgt := 18) dX0_sleeps_4 (by decide) rfl (fun c2 => ?_) (fun c2 => ?_)
  · have hf := ab_ip c2 hf
    refine ab_drop (ls' := []) [] rfl ?_
    exact kbX0_sleeps_18 hf hK
  · have hf := ab_iN c2 hf
    refine ab_aload_n (pc' := 8) (q := 0) dX0_sleeps_7 rfl rfl rfl ?_
    obtain ⟨x3, ex3, hf⟩ := ab_bd hf
    refine ab_getI (pc' := 11) (ci := 0) (k := 6) dX0_sleeps_8 rfl (by decide) fl_X0_37 ex3 rfl ?_
    refine ab_if_le (pc' := 14) (tgt := 18) dX0_sleeps_11 (by decide) rfl (fun c4 => ?_) (fun c4 => ?_)
    · have hf := ab_ip c4 hf
      refine ab_drop (ls' := []) [] rfl ?_
      exact kbX0_sleeps_18 hf hK
    · have hf := ab_iN c4 hf
      refine ab_iconst (pc' := 15) (v := 1) dX0_sleeps_14 (by decide) rfl ?_
      refine ab_goto (tgt := 19) dX0_sleeps_15 (by decide) ?_
      have hf := Option.some.inj hf
      subst hf
      exact ab_zret rfl rfl dX0_sleeps_19 hK
-- DiskRests$Run.enter(LDiskRests$Course;I)V (mode W, depth 1)
def fX4_enter (h : ab_H) (a0 : Nat) (a1 : Nat) (a2 : Int32) : Option ab_H := (ab_gR h a0 4 3).bind (fun r1 => (ab_gI h a0 4 4).bind (fun x2 => (ab_sI h r1 x2 a2).bind (fun h3 => (ab_gI h3 a0 4 4).bind (fun x4 => (ab_pV h3 a0 4 4 (.int (x4 + 1))).bind (fun h5 => (ab_gI h5 a0 4 5).bind (fun x6 => (ab_gI h5 a0 4 4).bind (fun x7 => (ab_pV h5 a0 4 5 (.int (ab_max x6 x7))).bind (fun h8 => (ab_gI h8 a1 0 4).bind (fun x9 => (ab_pV h8 a1 0 4 (.int (x9 + 1))).bind (fun h10 => (ab_gR h10 a0 4 2).bind (fun r11 => (ab_sI h10 r11 a2 5).bind (fun h12 => some h12))))))))))))
set_option maxRecDepth 20000 in
set_option maxHeartbeats 1000000 in
theorem kX4_enter {l : Launch} {g : ab_G} {K : ab_K} {h : ab_H} {a0 : Nat} {a1 : Nat} {a2 : Int32} {r : ab_H} (hf : fX4_enter h a0 a1 a2 = some r) (hK : K none r) : ab_S l g mX4_enter 1 0 0 [.ref a0, .ref a1, .int a2] h K := by
  unfold fX4_enter at hf
  refine ab_enter (ls := [(0, .ref a0), (1, .ref a1), (2, .int a2)]) (by decide +kernel) rfl (Nat.le_of_ble_eq_true rfl) rfl ?_
  refine ab_aload_n (pc' := 1) (q := 0) dX4_enter_0 rfl rfl rfl ?_
  obtain ⟨r1, er1, hf⟩ := ab_bd hf
  refine ab_getR (pc' := 4) (ci := 4) (k := 3) dX4_enter_1 rfl (by decide) fl_X4_24 er1 rfl ?_
  refine ab_aload_n (pc' := 5) (q := 0) dX4_enter_4 rfl rfl rfl ?_
  obtain ⟨x2, ex2, hf⟩ := ab_bd hf
  refine ab_getI (pc' := 8) (ci := 4) (k := 4) dX4_enter_5 rfl (by decide) fl_X4_66 ex2 rfl ?_
  refine ab_iload_n (pc' := 9) (q := 2) dX4_enter_8 rfl rfl rfl ?_
  obtain ⟨h3, eh3, hf⟩ := ab_bd hf
  refine ab_iast (pc' := 10) dX4_enter_9 eh3 rfl ?_
  refine ab_aload_n (pc' := 11) (q := 0) dX4_enter_10 rfl rfl rfl ?_
  refine ab_dup_ref (pc' := 12) dX4_enter_11 rfl ?_
  obtain ⟨x4, ex4, hf⟩ := ab_bd hf
  refine ab_getI (pc' := 15) (ci := 4) (k := 4) dX4_enter_12 rfl (by decide) fl_X4_66 ex4 rfl ?_
  refine ab_iconst (pc' := 16) (v := 1) dX4_enter_15 (by decide) rfl ?_
  refine ab_iadd (pc' := 17) dX4_enter_16 rfl ?_
  obtain ⟨h5, eh5, hf⟩ := ab_bd hf
  refine ab_put (pc' := 20) (ci := 4) (k := 4) dX4_enter_17 rfl (by decide) fl_X4_66 rfl (tyX4_ok 4 (by decide)) rfl rfl eh5 rfl ?_
  refine ab_aload_n (pc' := 21) (q := 0) dX4_enter_20 rfl rfl rfl ?_
  refine ab_aload_n (pc' := 22) (q := 0) dX4_enter_21 rfl rfl rfl ?_
  obtain ⟨x6, ex6, hf⟩ := ab_bd hf
  refine ab_getI (pc' := 25) (ci := 4) (k := 5) dX4_enter_22 rfl (by decide) fl_X4_69 ex6 rfl ?_
  refine ab_aload_n (pc' := 26) (q := 0) dX4_enter_25 rfl rfl rfl ?_
  obtain ⟨x7, ex7, hf⟩ := ab_bd hf
  refine ab_getI (pc' := 29) (ci := 4) (k := 4) dX4_enter_26 rfl (by decide) fl_X4_66 ex7 rfl ?_
  refine ab_mmaxF (pc' := 32) dX4_enter_29 mk_X4_123 (by decide) (Nat.le_of_ble_eq_true rfl) (Nat.le_of_ble_eq_true rfl) (Nat.le_of_ble_eq_true rfl) rfl ?_
  obtain ⟨h8, eh8, hf⟩ := ab_bd hf
  refine ab_put (pc' := 35) (ci := 4) (k := 5) dX4_enter_32 rfl (by decide) fl_X4_69 rfl (tyX4_ok 5 (by decide)) rfl rfl eh8 rfl ?_
  refine ab_aload_n (pc' := 36) (q := 1) dX4_enter_35 rfl rfl rfl ?_
  refine ab_dup_ref (pc' := 37) dX4_enter_36 rfl ?_
  obtain ⟨x9, ex9, hf⟩ := ab_bd hf
  refine ab_getI (pc' := 40) (ci := 0) (k := 4) dX4_enter_37 rfl (by decide) fl_X4_126 ex9 rfl ?_
  refine ab_iconst (pc' := 41) (v := 1) dX4_enter_40 (by decide) rfl ?_
  refine ab_iadd (pc' := 42) dX4_enter_41 rfl ?_
  obtain ⟨h10, eh10, hf⟩ := ab_bd hf
  refine ab_put (pc' := 45) (ci := 0) (k := 4) dX4_enter_42 rfl (by decide) fl_X4_126 rfl (tyX0_ok 4 (by decide)) rfl rfl eh10 rfl ?_
  refine ab_aload_n (pc' := 46) (q := 0) dX4_enter_45 rfl rfl rfl ?_
  obtain ⟨r11, er11, hf⟩ := ab_bd hf
  refine ab_getR (pc' := 49) (ci := 4) (k := 2) dX4_enter_46 rfl (by decide) fl_X4_21 er11 rfl ?_
  refine ab_iload_n (pc' := 50) (q := 2) dX4_enter_49 rfl rfl rfl ?_
  refine ab_iconst (pc' := 51) (v := 5) dX4_enter_50 (by decide) rfl ?_
  obtain ⟨h12, eh12, hf⟩ := ab_bd hf
  refine ab_iast (pc' := 52) dX4_enter_51 eh12 rfl ?_
  have hf := Option.some.inj hf
  subst hf
  exact ab_vret rfl dX4_enter_52 hK
-- DiskRests$Run.letEntriesLeave(LDiskRests$Requests;I)V (mode W, depth 0)
def bX4_letEntriesLeave_56 (rec : Int32 → Int32 → ab_H → Option (Int32 × ab_H)) (v0 : Nat) (v1 : Nat) (v2 : Int32) (v3 : Int32) (v4 : Int32) (h : ab_H) : Option (Int32 × ab_H) := rec v3 (v4 + 1) h
set_option maxRecDepth 20000 in
set_option maxHeartbeats 1000000 in
theorem kbX4_letEntriesLeave_56 {l : Launch} {g : ab_G} {K : ab_K} {h : ab_H} {v0 : Nat} {v1 : Nat} {v2 : Int32} {v3 : Int32} {v4 : Int32} {q : (Int32 × ab_H)} {rec : Int32 → Int32 → ab_H → Option (Int32 × ab_H)} (ih : ∀ (w3 : Int32) (w4 : Int32) (hw : ab_H), rec w3 w4 hw = some q → ab_Ev l g mX4_letEntriesLeave 0 0 0 5 [(0, .ref v0), (1, .ref v1), (2, .int v2), (3, .int w3), (4, .int w4)] [] hw 0 0 K) (hx : ab_Ev l g mX4_letEntriesLeave 0 0 0 62 [(0, .ref v0), (3, .int q.1)] [] q.2 0 0 K) (hf : bX4_letEntriesLeave_56 rec v0 v1 v2 v3 v4 h = some q) : ab_Ev l g mX4_letEntriesLeave 0 0 0 56 [(0, .ref v0), (1, .ref v1), (2, .int v2), (3, .int v3), (4, .int v4)] [] h 0 0 K := by
  unfold bX4_letEntriesLeave_56 at hf
  refine ab_iinc (pc' := 59) (q := 4) (v := (v4 + 1)) (ls' := [(4, .int (v4 + 1)), (0, .ref v0), (1, .ref v1), (2, .int v2), (3, .int v3)]) dX4_letEntriesLeave_56 rfl rfl (by decide) rfl rfl ?_
  refine ab_goto (tgt := 5) dX4_letEntriesLeave_59 (by decide) ?_
  refine ab_drop (ls' := [(0, .ref v0), (1, .ref v1), (2, .int v2), (3, .int v3), (4, .int (v4 + 1))]) [1, 2, 3, 4, 0] rfl ?_
  exact ih _ _ _ hf
def lX4_letEntriesLeave_5 (v0 : Nat) (v1 : Nat) (v2 : Int32) : Nat → Int32 → Int32 → ab_H → Option (Int32 × ab_H)
  | 0, _, _, _ => none
  | n + 1, v3, v4, h => (ab_gI h v0 4 4).bind (fun x1 => if x1 ≤ (v4 : Int32) then some (v3, h) else (ab_gR h v0 4 3).bind (fun r3 => (ab_aI h r3 v4).bind (fun x4 => (ab_gR h v1 3 1).bind (fun r5 => (ab_aI h r5 x4).bind (fun x6 => if (x6 : Int32) = v2 then (ab_gR h v0 4 2).bind (fun r10 => (ab_sI h r10 x4 4).bind (fun h11 => bX4_letEntriesLeave_56 (lX4_letEntriesLeave_5 v0 v1 v2 n) v0 v1 v2 v3 v4 h11)) else (ab_gR h v0 4 3).bind (fun r8 => (ab_sI h r8 v3 x4).bind (fun h9 => bX4_letEntriesLeave_56 (lX4_letEntriesLeave_5 v0 v1 v2 n) v0 v1 v2 (v3 + 1) v4 h9)))))))
set_option maxRecDepth 20000 in
set_option maxHeartbeats 1000000 in
theorem klX4_letEntriesLeave_5 {l : Launch} {g : ab_G} {K : ab_K} {v0 : Nat} {v1 : Nat} {v2 : Int32} {q : (Int32 × ab_H)} (hx : ab_Ev l g mX4_letEntriesLeave 0 0 0 62 [(0, .ref v0), (3, .int q.1)] [] q.2 0 0 K) : ∀ (n : Nat) (v3 : Int32) (v4 : Int32) (h : ab_H), lX4_letEntriesLeave_5 v0 v1 v2 n v3 v4 h = some q → ab_Ev l g mX4_letEntriesLeave 0 0 0 5 [(0, .ref v0), (1, .ref v1), (2, .int v2), (3, .int v3), (4, .int v4)] [] h 0 0 K := by
  intro n
  induction n with
  | zero => intro v3 v4 h hf; cases (show (none : Option (Int32 × ab_H)) = some q from hf)
  | succ n ih =>
    intro v3 v4 h hf
    rw [lX4_letEntriesLeave_5] at hf
    refine ab_iload (pc' := 7) (q := 4) dX4_letEntriesLeave_5 rfl rfl ?_
    refine ab_aload_n (pc' := 8) (q := 0) dX4_letEntriesLeave_7 rfl rfl rfl ?_
    obtain ⟨x1, ex1, hf⟩ := ab_bd hf
    refine ab_getI (pc' := 11) (ci := 4) (k := 4) dX4_letEntriesLeave_8 rfl (by decide) fl_X4_66 ex1 rfl ?_
    refine ab_icmp_ge (pc' := 14) (tgt := 62) dX4_letEntriesLeave_11 (by decide) rfl (fun c2 => ?_) (fun c2 => ?_)
    · have hf := ab_ip c2 hf
      have hf := Option.some.inj hf
      subst hf
      refine ab_drop (ls' := [(0, .ref v0), (3, .int v3)]) [0, 3] rfl ?_
      exact hx
    · have hf := ab_iN c2 hf
      refine ab_aload_n (pc' := 15) (q := 0) dX4_letEntriesLeave_14 rfl rfl rfl ?_
      obtain ⟨r3, er3, hf⟩ := ab_bd hf
      refine ab_getR (pc' := 18) (ci := 4) (k := 3) dX4_letEntriesLeave_15 rfl (by decide) fl_X4_24 er3 rfl ?_
      refine ab_iload (pc' := 20) (q := 4) dX4_letEntriesLeave_18 rfl rfl ?_
      obtain ⟨x4, ex4, hf⟩ := ab_bd hf
      refine ab_iald (pc' := 21) dX4_letEntriesLeave_20 ex4 rfl ?_
      refine ab_istore (pc' := 23) (ls' := [(5, .int x4), (0, .ref v0), (1, .ref v1), (2, .int v2), (3, .int v3), (4, .int v4)]) dX4_letEntriesLeave_21 (by decide) rfl rfl ?_
      refine ab_aload_n (pc' := 24) (q := 2) dX4_letEntriesLeave_23 rfl rfl rfl ?_
      obtain ⟨r5, er5, hf⟩ := ab_bd hf
      refine ab_getR (pc' := 27) (ci := 3) (k := 1) dX4_letEntriesLeave_24 rfl (by decide) fl_X4_82 er5 rfl ?_
      refine ab_iload (pc' := 29) (q := 0) dX4_letEntriesLeave_27 rfl rfl ?_
      obtain ⟨x6, ex6, hf⟩ := ab_bd hf
      refine ab_iald (pc' := 30) dX4_letEntriesLeave_29 ex6 rfl ?_
      refine ab_iload_n (pc' := 31) (q := 3) dX4_letEntriesLeave_30 rfl rfl rfl ?_
      refine ab_icmp_ne (pc' := 34) (tgt := 45) dX4_letEntriesLeave_31 (by decide) rfl (fun c7 => ?_) (fun c7 => ?_)
      · have hf := ab_iN c7 hf
        refine ab_aload_n (pc' := 46) (q := 1) dX4_letEntriesLeave_45 rfl rfl rfl ?_
        obtain ⟨r8, er8, hf⟩ := ab_bd hf
        refine ab_getR (pc' := 49) (ci := 4) (k := 3) dX4_letEntriesLeave_46 rfl (by decide) fl_X4_24 er8 rfl ?_
        refine ab_iload_n (pc' := 50) (q := 4) dX4_letEntriesLeave_49 rfl rfl rfl ?_
        refine ab_iload (pc' := 52) (q := 0) dX4_letEntriesLeave_50 rfl rfl ?_
        obtain ⟨h9, eh9, hf⟩ := ab_bd hf
        refine ab_iast (pc' := 53) dX4_letEntriesLeave_52 eh9 rfl ?_
        refine ab_iinc (pc' := 56) (q := 4) (v := (v3 + 1)) (ls' := [(3, .int (v3 + 1)), (5, .int x4), (0, .ref v0), (1, .ref v1), (2, .int v2), (4, .int v4)]) dX4_letEntriesLeave_53 rfl rfl (by decide) rfl rfl ?_
        refine ab_drop (ls' := [(0, .ref v0), (1, .ref v1), (2, .int v2), (3, .int (v3 + 1)), (4, .int v4)]) [2, 3, 4, 0, 5] rfl ?_
        exact kbX4_letEntriesLeave_56 ih hx hf
      · have hf := ab_ip c7 hf
        refine ab_aload_n (pc' := 35) (q := 1) dX4_letEntriesLeave_34 rfl rfl rfl ?_
        obtain ⟨r10, er10, hf⟩ := ab_bd hf
        refine ab_getR (pc' := 38) (ci := 4) (k := 2) dX4_letEntriesLeave_35 rfl (by decide) fl_X4_21 er10 rfl ?_
        refine ab_iload (pc' := 40) (q := 0) dX4_letEntriesLeave_38 rfl rfl ?_
        refine ab_iconst (pc' := 41) (v := 4) dX4_letEntriesLeave_40 (by decide) rfl ?_
        obtain ⟨h11, eh11, hf⟩ := ab_bd hf
        refine ab_iast (pc' := 42) dX4_letEntriesLeave_41 eh11 rfl ?_
        refine ab_goto (tgt := 56) dX4_letEntriesLeave_42 (by decide) ?_
        refine ab_drop (ls' := [(0, .ref v0), (1, .ref v1), (2, .int v2), (3, .int v3), (4, .int v4)]) [1, 2, 3, 4, 5] rfl ?_
        exact kbX4_letEntriesLeave_56 ih hx hf
def fX4_letEntriesLeave (h : ab_H) (a0 : Nat) (a1 : Nat) (a2 : Int32) : Option ab_H := (lX4_letEntriesLeave_5 a0 a1 a2 ab_fu 0 0 h).bind (fun q12 => (ab_pV q12.2 a0 4 4 (.int q12.1)).bind (fun h13 => some h13))
set_option maxRecDepth 20000 in
set_option maxHeartbeats 1000000 in
theorem kX4_letEntriesLeave {l : Launch} {g : ab_G} {K : ab_K} {h : ab_H} {a0 : Nat} {a1 : Nat} {a2 : Int32} {r : ab_H} (hf : fX4_letEntriesLeave h a0 a1 a2 = some r) (hK : K none r) : ab_S l g mX4_letEntriesLeave 0 0 0 [.ref a0, .ref a1, .int a2] h K := by
  unfold fX4_letEntriesLeave at hf
  refine ab_enter (ls := [(0, .ref a0), (1, .ref a1), (2, .int a2)]) (by decide +kernel) rfl (Nat.le_of_ble_eq_true rfl) rfl ?_
  refine ab_iconst (pc' := 1) (v := 0) dX4_letEntriesLeave_0 (by decide) rfl ?_
  refine ab_istore_n (pc' := 2) (ls' := [(3, .int 0), (0, .ref a0), (1, .ref a1), (2, .int a2)]) dX4_letEntriesLeave_1 rfl (by decide) rfl rfl ?_
  refine ab_iconst (pc' := 3) (v := 0) dX4_letEntriesLeave_2 (by decide) rfl ?_
  refine ab_istore (pc' := 5) (ls' := [(4, .int 0), (3, .int 0), (0, .ref a0), (1, .ref a1), (2, .int a2)]) dX4_letEntriesLeave_3 (by decide) rfl rfl ?_
  refine ab_drop (ls' := [(0, .ref a0), (1, .ref a1), (2, .int a2), (3, .int 0), (4, .int 0)]) [2, 3, 4, 1, 0] rfl ?_
  obtain ⟨q12, eq12, hf⟩ := ab_bd hf
  refine klX4_letEntriesLeave_5 ?_ ab_fu _ _ _ eq12
  refine ab_aload_n (pc' := 63) (q := 0) dX4_letEntriesLeave_62 rfl rfl rfl ?_
  refine ab_iload_n (pc' := 64) (q := 1) dX4_letEntriesLeave_63 rfl rfl rfl ?_
  obtain ⟨h13, eh13, hf⟩ := ab_bd hf
  refine ab_put (pc' := 67) (ci := 4) (k := 4) dX4_letEntriesLeave_64 rfl (by decide) fl_X4_66 rfl (tyX4_ok 4 (by decide)) rfl rfl eh13 rfl ?_
  have hf := Option.some.inj hf
  subst hf
  exact ab_vret rfl dX4_letEntriesLeave_67 hK
-- DiskRests$Run.wakeUp(LDiskRests$Setup;I)V (mode W, depth 1)
def fX4_wakeUp (h : ab_H) (a0 : Nat) (a1 : Nat) (a2 : Int32) : Option ab_H := (ab_gR h a0 4 0).bind (fun r1 => (ab_aR h r1 a2).bind (fun r2 => (ab_gI h r2 0 0).bind (fun x3 => (ab_gR h a1 5 0).bind (fun r4 => (ab_aR h r4 a2).bind (fun r5 => (ab_gR h r5 1 1).bind (fun r6 => (ab_gI h r2 0 6).bind (fun x7 => (ab_aI h r6 x7).bind (fun x8 => (ab_pV h r2 0 0 (.int (x3 + x8))).bind (fun h9 => (ab_gI h9 r2 0 1).bind (fun x10 => (ab_pV h9 r2 0 1 (.int (x10 + 1))).bind (fun h11 => (ab_gR h11 a1 5 1).bind (fun r12 => (ab_ob h11 a0 4).bind (fun u13 => (fX4_letEntriesLeave h11 a0 r12 a2).bind (fun h14 => some h14))))))))))))))
set_option maxRecDepth 20000 in
set_option maxHeartbeats 1000000 in
theorem kX4_wakeUp {l : Launch} {g : ab_G} {K : ab_K} {h : ab_H} {a0 : Nat} {a1 : Nat} {a2 : Int32} {r : ab_H} (hf : fX4_wakeUp h a0 a1 a2 = some r) (hK : K none r) : ab_S l g mX4_wakeUp 1 0 0 [.ref a0, .ref a1, .int a2] h K := by
  unfold fX4_wakeUp at hf
  refine ab_enter (ls := [(0, .ref a0), (1, .ref a1), (2, .int a2)]) (by decide +kernel) rfl (Nat.le_of_ble_eq_true rfl) rfl ?_
  refine ab_aload_n (pc' := 1) (q := 0) dX4_wakeUp_0 rfl rfl rfl ?_
  obtain ⟨r1, er1, hf⟩ := ab_bd hf
  refine ab_getR (pc' := 4) (ci := 4) (k := 0) dX4_wakeUp_1 rfl (by decide) fl_X4_11 er1 rfl ?_
  refine ab_iload_n (pc' := 5) (q := 2) dX4_wakeUp_4 rfl rfl rfl ?_
  obtain ⟨r2, er2, hf⟩ := ab_bd hf
  refine ab_aald (pc' := 6) dX4_wakeUp_5 er2 rfl ?_
  refine ab_astore_n (pc' := 7) (ls' := [(3, .ref r2), (0, .ref a0), (1, .ref a1), (2, .int a2)]) dX4_wakeUp_6 rfl (by decide) rfl rfl ?_
  refine ab_aload_n (pc' := 8) (q := 0) dX4_wakeUp_7 rfl rfl rfl ?_
  refine ab_dup_ref (pc' := 9) dX4_wakeUp_8 rfl ?_
  obtain ⟨x3, ex3, hf⟩ := ab_bd hf
  refine ab_getI (pc' := 12) (ci := 0) (k := 0) dX4_wakeUp_9 rfl (by decide) fl_X4_129 ex3 rfl ?_
  refine ab_aload_n (pc' := 13) (q := 2) dX4_wakeUp_12 rfl rfl rfl ?_
  obtain ⟨r4, er4, hf⟩ := ab_bd hf
  refine ab_getR (pc' := 16) (ci := 5) (k := 0) dX4_wakeUp_13 rfl (by decide) fl_X4_50 er4 rfl ?_
  refine ab_iload_n (pc' := 17) (q := 3) dX4_wakeUp_16 rfl rfl rfl ?_
  obtain ⟨r5, er5, hf⟩ := ab_bd hf
  refine ab_aald (pc' := 18) dX4_wakeUp_17 er5 rfl ?_
  obtain ⟨r6, er6, hf⟩ := ab_bd hf
  refine ab_getR (pc' := 21) (ci := 1) (k := 1) dX4_wakeUp_18 rfl (by decide) fl_X4_132 er6 rfl ?_
  refine ab_aload_n (pc' := 22) (q := 0) dX4_wakeUp_21 rfl rfl rfl ?_
  obtain ⟨x7, ex7, hf⟩ := ab_bd hf
  refine ab_getI (pc' := 25) (ci := 0) (k := 6) dX4_wakeUp_22 rfl (by decide) fl_X4_135 ex7 rfl ?_
  obtain ⟨x8, ex8, hf⟩ := ab_bd hf
  refine ab_iald (pc' := 26) dX4_wakeUp_25 ex8 rfl ?_
  refine ab_iadd (pc' := 27) dX4_wakeUp_26 rfl ?_
  obtain ⟨h9, eh9, hf⟩ := ab_bd hf
  refine ab_put (pc' := 30) (ci := 0) (k := 0) dX4_wakeUp_27 rfl (by decide) fl_X4_129 rfl (tyX0_ok 0 (by decide)) rfl rfl eh9 rfl ?_
  refine ab_aload_n (pc' := 31) (q := 0) dX4_wakeUp_30 rfl rfl rfl ?_
  refine ab_dup_ref (pc' := 32) dX4_wakeUp_31 rfl ?_
  obtain ⟨x10, ex10, hf⟩ := ab_bd hf
  refine ab_getI (pc' := 35) (ci := 0) (k := 1) dX4_wakeUp_32 rfl (by decide) fl_X4_138 ex10 rfl ?_
  refine ab_iconst (pc' := 36) (v := 1) dX4_wakeUp_35 (by decide) rfl ?_
  refine ab_iadd (pc' := 37) dX4_wakeUp_36 rfl ?_
  obtain ⟨h11, eh11, hf⟩ := ab_bd hf
  refine ab_put (pc' := 40) (ci := 0) (k := 1) dX4_wakeUp_37 rfl (by decide) fl_X4_138 rfl (tyX0_ok 1 (by decide)) rfl rfl eh11 rfl ?_
  refine ab_aload_n (pc' := 41) (q := 1) dX4_wakeUp_40 rfl rfl rfl ?_
  refine ab_aload_n (pc' := 42) (q := 2) dX4_wakeUp_41 rfl rfl rfl ?_
  obtain ⟨r12, er12, hf⟩ := ab_bd hf
  refine ab_getR (pc' := 45) (ci := 5) (k := 1) dX4_wakeUp_42 rfl (by decide) fl_X4_36 er12 rfl ?_
  refine ab_iload_n (pc' := 46) (q := 3) dX4_wakeUp_45 rfl rfl rfl ?_
  obtain ⟨u13, eu13, hf⟩ := ab_bd hf
  obtain ⟨h14, eh14, hf⟩ := ab_bd hf
  refine ab_callV (pc' := 49) (Mc := mX4_letEntriesLeave) (as := [.ref r12, .int a2]) (st := []) dX4_wakeUp_46 ml_X4_141 okX4_letEntriesLeave im_X4_letEntriesLeave se_X4_letEntriesLeave rfl eu13 rfl (by decide) (Nat.le_of_ble_eq_true rfl) (Nat.le_of_ble_eq_true rfl) (Nat.le_of_ble_eq_true rfl) rfl rfl (kX4_letEntriesLeave eh14 ?_)
  show ab_Ev l g mX4_wakeUp 1 0 0 49 [(3, .ref r2), (0, .ref a0), (1, .ref a1), (2, .int a2)] [] h14 0 0 K
  have hf := Option.some.inj hf
  subst hf
  exact ab_vret rfl dX4_wakeUp_49 hK
-- DiskRests$Disk.restsForGuess()I (mode R, depth 0)
def fX1_restsForGuess (h : ab_H) (a0 : Nat) : Option Int32 := (ab_gI h a0 1 3).bind (fun x1 => if (x1 : Int32) = 3 then (ab_gI h a0 1 4).bind (fun x3 => some x3) else some 4)
set_option maxRecDepth 20000 in
set_option maxHeartbeats 1000000 in
theorem kX1_restsForGuess {l : Launch} {g : ab_G} {K : ab_K} {h : ab_H} {a0 : Nat} {r : Int32} (hf : fX1_restsForGuess h a0 = some r) (hK : K (some (.int r)) h) : ab_S l g mX1_restsForGuess 0 0 0 [.ref a0] h K := by
  unfold fX1_restsForGuess at hf
  refine ab_enter (ls := [(0, .ref a0)]) (by decide +kernel) rfl (Nat.le_of_ble_eq_true rfl) rfl ?_
  refine ab_aload_n (pc' := 1) (q := 0) dX1_restsForGuess_0 rfl rfl rfl ?_
  obtain ⟨x1, ex1, hf⟩ := ab_bd hf
  refine ab_getI (pc' := 4) (ci := 1) (k := 3) dX1_restsForGuess_1 rfl (by decide) fl_X1_28 ex1 rfl ?_
  refine ab_iconst (pc' := 5) (v := 3) dX1_restsForGuess_4 (by decide) rfl ?_
  refine ab_icmp_ne (pc' := 8) (tgt := 15) dX1_restsForGuess_5 (by decide) rfl (fun c2 => ?_) (fun c2 => ?_)
  · have hf := ab_iN c2 hf
    refine ab_iconst (pc' := 16) (v := 4) dX1_restsForGuess_15 (by decide) rfl ?_
    have hf := Option.some.inj hf
    subst hf
    exact ab_iret rfl dX1_restsForGuess_16 hK
  · have hf := ab_ip c2 hf
    refine ab_aload_n (pc' := 9) (q := 0) dX1_restsForGuess_8 rfl rfl rfl ?_
    obtain ⟨x3, ex3, hf⟩ := ab_bd hf
    refine ab_getI (pc' := 12) (ci := 1) (k := 4) dX1_restsForGuess_9 rfl (by decide) fl_X1_31 ex3 rfl ?_
    refine ab_goto (tgt := 16) dX1_restsForGuess_12 (by decide) ?_
    have hf := Option.some.inj hf
    subst hf
    exact ab_iret rfl dX1_restsForGuess_16 hK
-- DiskRests$Course.meanOfLast(I)I (mode R, depth 0)
def lX0_meanOfLast_27 (h : ab_H) (v0 : Nat) (v2 : Int32) : Nat → Int32 → Int32 → Option Int32
  | 0, _, _ => none
  | n + 1, v3, v4 => (ab_gI h v0 0 8).bind (fun x5 => if x5 ≤ (v4 : Int32) then some v3 else (ab_gR h v0 0 7).bind (fun r7 => (ab_aI h r7 v4).bind (fun x8 => lX0_meanOfLast_27 h v0 v2 n (v3 + x8) (v4 + 1))))
set_option maxRecDepth 20000 in
set_option maxHeartbeats 1000000 in
theorem klX0_meanOfLast_27 {l : Launch} {g : ab_G} {K : ab_K} {h : ab_H} {v0 : Nat} {v2 : Int32} {q : Int32} (hx : ab_Ev l g mX0_meanOfLast 0 0 0 52 [(2, .int v2), (3, .int q)] [] h 0 0 K) : ∀ (n : Nat) (v3 : Int32) (v4 : Int32), lX0_meanOfLast_27 h v0 v2 n v3 v4 = some q → ab_Ev l g mX0_meanOfLast 0 0 0 27 [(0, .ref v0), (2, .int v2), (3, .int v3), (4, .int v4)] [] h 0 0 K := by
  intro n
  induction n with
  | zero => intro v3 v4 hf; cases (show (none : Option Int32) = some q from hf)
  | succ n ih =>
    intro v3 v4 hf
    rw [lX0_meanOfLast_27] at hf
    refine ab_iload (pc' := 29) (q := 3) dX0_meanOfLast_27 rfl rfl ?_
    refine ab_aload_n (pc' := 30) (q := 0) dX0_meanOfLast_29 rfl rfl rfl ?_
    obtain ⟨x5, ex5, hf⟩ := ab_bd hf
    refine ab_getI (pc' := 33) (ci := 0) (k := 8) dX0_meanOfLast_30 rfl (by decide) fl_X0_40 ex5 rfl ?_
    refine ab_icmp_ge (pc' := 36) (tgt := 52) dX0_meanOfLast_33 (by decide) rfl (fun c6 => ?_) (fun c6 => ?_)
    · have hf := ab_ip c6 hf
      have hf := Option.some.inj hf
      subst hf
      refine ab_drop (ls' := [(2, .int v2), (3, .int v3)]) [1, 2] rfl ?_
      exact hx
    · have hf := ab_iN c6 hf
      refine ab_iload_n (pc' := 37) (q := 2) dX0_meanOfLast_36 rfl rfl rfl ?_
      refine ab_aload_n (pc' := 38) (q := 0) dX0_meanOfLast_37 rfl rfl rfl ?_
      obtain ⟨r7, er7, hf⟩ := ab_bd hf
      refine ab_getR (pc' := 41) (ci := 0) (k := 7) dX0_meanOfLast_38 rfl (by decide) fl_X0_9 er7 rfl ?_
      refine ab_iload (pc' := 43) (q := 3) dX0_meanOfLast_41 rfl rfl ?_
      obtain ⟨x8, ex8, hf⟩ := ab_bd hf
      refine ab_iald (pc' := 44) dX0_meanOfLast_43 ex8 rfl ?_
      refine ab_iadd (pc' := 45) dX0_meanOfLast_44 rfl ?_
      refine ab_istore_n (pc' := 46) (ls' := [(3, .int (v3 + x8)), (0, .ref v0), (2, .int v2), (4, .int v4)]) dX0_meanOfLast_45 rfl (by decide) rfl rfl ?_
      refine ab_iinc (pc' := 49) (q := 3) (v := (v4 + 1)) (ls' := [(4, .int (v4 + 1)), (3, .int (v3 + x8)), (0, .ref v0), (2, .int v2)]) dX0_meanOfLast_46 rfl rfl (by decide) rfl rfl ?_
      refine ab_goto (tgt := 27) dX0_meanOfLast_49 (by decide) ?_
      refine ab_drop (ls' := [(0, .ref v0), (2, .int v2), (3, .int (v3 + x8)), (4, .int (v4 + 1))]) [2, 3, 1, 0] rfl ?_
      exact ih _ _ hf
def bX0_meanOfLast_16 (v0 : Nat) (s0 : Int32) (h : ab_H) : Option Int32 := (ab_gI h v0 0 8).bind (fun x4 => (lX0_meanOfLast_27 h v0 s0 ab_fu 0 (x4 - s0)).bind (fun q9 => if (s0 : Int32) ≤ 0 then some (-6) else if (s0 : Int32) = 0 then none else some (q9 / s0)))
set_option maxRecDepth 20000 in
set_option maxHeartbeats 1000000 in
theorem kbX0_meanOfLast_16 {l : Launch} {g : ab_G} {K : ab_K} {h : ab_H} {v0 : Nat} {s0 : Int32} {r : Int32} (hf : bX0_meanOfLast_16 v0 s0 h = some r) (hK : K (some (.int r)) h) : ab_Ev l g mX0_meanOfLast 0 0 0 16 [(0, .ref v0)] [.int s0] h 0 0 K := by
  unfold bX0_meanOfLast_16 at hf
  refine ab_istore_n (pc' := 17) (ls' := [(2, .int s0), (0, .ref v0)]) dX0_meanOfLast_16 rfl (by decide) rfl rfl ?_
  refine ab_iconst (pc' := 18) (v := 0) dX0_meanOfLast_17 (by decide) rfl ?_
  refine ab_istore_n (pc' := 19) (ls' := [(3, .int 0), (2, .int s0), (0, .ref v0)]) dX0_meanOfLast_18 rfl (by decide) rfl rfl ?_
  refine ab_aload_n (pc' := 20) (q := 2) dX0_meanOfLast_19 rfl rfl rfl ?_
  obtain ⟨x4, ex4, hf⟩ := ab_bd hf
  refine ab_getI (pc' := 23) (ci := 0) (k := 8) dX0_meanOfLast_20 rfl (by decide) fl_X0_40 ex4 rfl ?_
  refine ab_iload_n (pc' := 24) (q := 1) dX0_meanOfLast_23 rfl rfl rfl ?_
  refine ab_isub (pc' := 25) dX0_meanOfLast_24 rfl ?_
  refine ab_istore (pc' := 27) (ls' := [(4, .int (x4 - s0)), (3, .int 0), (2, .int s0), (0, .ref v0)]) dX0_meanOfLast_25 (by decide) rfl rfl ?_
  refine ab_drop (ls' := [(0, .ref v0), (2, .int s0), (3, .int 0), (4, .int (x4 - s0))]) [3, 2, 1, 0] rfl ?_
  obtain ⟨q9, eq9, hf⟩ := ab_bd hf
  refine klX0_meanOfLast_27 ?_ ab_fu _ _ eq9
  refine ab_iload_n (pc' := 53) (q := 0) dX0_meanOfLast_52 rfl rfl rfl ?_
  refine ab_if_le (pc' := 56) (tgt := 62) dX0_meanOfLast_53 (by decide) rfl (fun c10 => ?_) (fun c10 => ?_)
  · have hf := ab_ip c10 hf
    refine ab_bipush (pc' := 64) (v := (-6)) dX0_meanOfLast_62 (by decide) rfl ?_
    have hf := Option.some.inj hf
    subst hf
    exact ab_iret rfl dX0_meanOfLast_64 hK
  · have hf := ab_iN c10 hf
    refine ab_iload_n (pc' := 57) (q := 1) dX0_meanOfLast_56 rfl rfl rfl ?_
    refine ab_iload_n (pc' := 58) (q := 0) dX0_meanOfLast_57 rfl rfl rfl ?_
    obtain ⟨n11, hf⟩ := ab_nz hf
    refine ab_idiv (pc' := 59) dX0_meanOfLast_58 n11 rfl ?_
    refine ab_goto (tgt := 64) dX0_meanOfLast_59 (by decide) ?_
    have hf := Option.some.inj hf
    subst hf
    exact ab_iret rfl dX0_meanOfLast_64 hK
def fX0_meanOfLast (h : ab_H) (a0 : Nat) (a1 : Int32) : Option Int32 := (ab_gI h a0 0 8).bind (fun x1 => if x1 ≤ (a1 : Int32) then (ab_gI h a0 0 8).bind (fun x3 => bX0_meanOfLast_16 a0 x3 h) else bX0_meanOfLast_16 a0 a1 h)
set_option maxRecDepth 20000 in
set_option maxHeartbeats 1000000 in
theorem kX0_meanOfLast {l : Launch} {g : ab_G} {K : ab_K} {h : ab_H} {a0 : Nat} {a1 : Int32} {r : Int32} (hf : fX0_meanOfLast h a0 a1 = some r) (hK : K (some (.int r)) h) : ab_S l g mX0_meanOfLast 0 0 0 [.ref a0, .int a1] h K := by
  unfold fX0_meanOfLast at hf
  refine ab_enter (ls := [(0, .ref a0), (1, .int a1)]) (by decide +kernel) rfl (Nat.le_of_ble_eq_true rfl) rfl ?_
  refine ab_iload_n (pc' := 1) (q := 1) dX0_meanOfLast_0 rfl rfl rfl ?_
  refine ab_aload_n (pc' := 2) (q := 0) dX0_meanOfLast_1 rfl rfl rfl ?_
  obtain ⟨x1, ex1, hf⟩ := ab_bd hf
  refine ab_getI (pc' := 5) (ci := 0) (k := 8) dX0_meanOfLast_2 rfl (by decide) fl_X0_40 ex1 rfl ?_
  refine ab_icmp_ge (pc' := 8) (tgt := 12) dX0_meanOfLast_5 (by decide) rfl (fun c2 => ?_) (fun c2 => ?_)
  · have hf := ab_ip c2 hf
    refine ab_aload_n (pc' := 13) (q := 0) dX0_meanOfLast_12 rfl rfl rfl ?_
    obtain ⟨x3, ex3, hf⟩ := ab_bd hf
    refine ab_getI (pc' := 16) (ci := 0) (k := 8) dX0_meanOfLast_13 rfl (by decide) fl_X0_40 ex3 rfl ?_
    refine ab_drop (ls' := [(0, .ref a0)]) [0] rfl ?_
    exact kbX0_meanOfLast_16 hf hK
  · have hf := ab_iN c2 hf
    refine ab_iload_n (pc' := 9) (q := 1) dX0_meanOfLast_8 rfl rfl rfl ?_
    refine ab_goto (tgt := 16) dX0_meanOfLast_9 (by decide) ?_
    refine ab_drop (ls' := [(0, .ref a0)]) [0] rfl ?_
    exact kbX0_meanOfLast_16 hf hK
-- DiskRests$Course.becomeBusy(I)V (mode W, depth 1)
def bX0_becomeBusy_48 (v0 : Nat) (h : ab_H) : Option ab_H := (ab_pV h v0 0 5 (.int 0)).bind (fun h3 => some h3)
set_option maxRecDepth 20000 in
set_option maxHeartbeats 1000000 in
theorem kbX0_becomeBusy_48 {l : Launch} {g : ab_G} {K : ab_K} {h : ab_H} {v0 : Nat} {r : ab_H} (hf : bX0_becomeBusy_48 v0 h = some r) (hK : K none r) : ab_Ev l g mX0_becomeBusy 1 0 0 48 [(0, .ref v0)] [] h 0 0 K := by
  unfold bX0_becomeBusy_48 at hf
  refine ab_aload_n (pc' := 49) (q := 0) dX0_becomeBusy_48 rfl rfl rfl ?_
  refine ab_iconst (pc' := 50) (v := 0) dX0_becomeBusy_49 (by decide) rfl ?_
  obtain ⟨h3, eh3, hf⟩ := ab_bd hf
  refine ab_put (pc' := 53) (ci := 0) (k := 5) dX0_becomeBusy_50 rfl (by decide) fl_X0_34 rfl (tyX0_ok 5 (by decide)) rfl rfl eh3 rfl ?_
  have hf := Option.some.inj hf
  subst hf
  exact ab_vret rfl dX0_becomeBusy_53 hK
def fX0_becomeBusy (h : ab_H) (a0 : Nat) (a1 : Int32) : Option ab_H := (ab_gI h a0 0 5).bind (fun x1 => if (x1 : Int32) ≤ 0 then bX0_becomeBusy_48 a0 h else (ab_gI h a0 0 8).bind (fun x4 => if 40 ≤ (x4 : Int32) then bX0_becomeBusy_48 a0 h else (ab_gR h a0 0 7).bind (fun r6 => (ab_gI h a0 0 8).bind (fun x7 => (ab_gI h a0 0 5).bind (fun x8 => (ab_sI h r6 x7 x8).bind (fun h9 => (ab_gI h9 a0 0 8).bind (fun x10 => (ab_pV h9 a0 0 8 (.int (x10 + 1))).bind (fun h11 => (ab_ob h11 a0 0).bind (fun u12 => (fX0_meanOfLast h11 a0 a1).bind (fun x13 => (ab_pV h11 a0 0 9 (.int x13)).bind (fun h14 => bX0_becomeBusy_48 a0 h14)))))))))))
set_option maxRecDepth 20000 in
set_option maxHeartbeats 1000000 in
theorem kX0_becomeBusy {l : Launch} {g : ab_G} {K : ab_K} {h : ab_H} {a0 : Nat} {a1 : Int32} {r : ab_H} (hf : fX0_becomeBusy h a0 a1 = some r) (hK : K none r) : ab_S l g mX0_becomeBusy 1 0 0 [.ref a0, .int a1] h K := by
  unfold fX0_becomeBusy at hf
  refine ab_enter (ls := [(0, .ref a0), (1, .int a1)]) (by decide +kernel) rfl (Nat.le_of_ble_eq_true rfl) rfl ?_
  refine ab_aload_n (pc' := 1) (q := 0) dX0_becomeBusy_0 rfl rfl rfl ?_
  obtain ⟨x1, ex1, hf⟩ := ab_bd hf
  refine ab_getI (pc' := 4) (ci := 0) (k := 5) dX0_becomeBusy_1 rfl (by decide) fl_X0_34 ex1 rfl ?_
  refine ab_if_le (pc' := 7) (tgt := 48) dX0_becomeBusy_4 (by decide) rfl (fun c2 => ?_) (fun c2 => ?_)
  · have hf := ab_ip c2 hf
    refine ab_drop (ls' := [(0, .ref a0)]) [0] rfl ?_
    exact kbX0_becomeBusy_48 hf hK
  · have hf := ab_iN c2 hf
    refine ab_aload_n (pc' := 8) (q := 0) dX0_becomeBusy_7 rfl rfl rfl ?_
    obtain ⟨x4, ex4, hf⟩ := ab_bd hf
    refine ab_getI (pc' := 11) (ci := 0) (k := 8) dX0_becomeBusy_8 rfl (by decide) fl_X0_40 ex4 rfl ?_
    refine ab_bipush (pc' := 13) (v := 40) dX0_becomeBusy_11 (by decide) rfl ?_
    refine ab_icmp_ge (pc' := 16) (tgt := 48) dX0_becomeBusy_13 (by decide) rfl (fun c5 => ?_) (fun c5 => ?_)
    · have hf := ab_ip c5 hf
      refine ab_drop (ls' := [(0, .ref a0)]) [0] rfl ?_
      exact kbX0_becomeBusy_48 hf hK
    · have hf := ab_iN c5 hf
      refine ab_aload_n (pc' := 17) (q := 0) dX0_becomeBusy_16 rfl rfl rfl ?_
      obtain ⟨r6, er6, hf⟩ := ab_bd hf
      refine ab_getR (pc' := 20) (ci := 0) (k := 7) dX0_becomeBusy_17 rfl (by decide) fl_X0_9 er6 rfl ?_
      refine ab_aload_n (pc' := 21) (q := 0) dX0_becomeBusy_20 rfl rfl rfl ?_
      obtain ⟨x7, ex7, hf⟩ := ab_bd hf
      refine ab_getI (pc' := 24) (ci := 0) (k := 8) dX0_becomeBusy_21 rfl (by decide) fl_X0_40 ex7 rfl ?_
      refine ab_aload_n (pc' := 25) (q := 0) dX0_becomeBusy_24 rfl rfl rfl ?_
      obtain ⟨x8, ex8, hf⟩ := ab_bd hf
      refine ab_getI (pc' := 28) (ci := 0) (k := 5) dX0_becomeBusy_25 rfl (by decide) fl_X0_34 ex8 rfl ?_
      obtain ⟨h9, eh9, hf⟩ := ab_bd hf
      refine ab_iast (pc' := 29) dX0_becomeBusy_28 eh9 rfl ?_
      refine ab_aload_n (pc' := 30) (q := 0) dX0_becomeBusy_29 rfl rfl rfl ?_
      refine ab_dup_ref (pc' := 31) dX0_becomeBusy_30 rfl ?_
      obtain ⟨x10, ex10, hf⟩ := ab_bd hf
      refine ab_getI (pc' := 34) (ci := 0) (k := 8) dX0_becomeBusy_31 rfl (by decide) fl_X0_40 ex10 rfl ?_
      refine ab_iconst (pc' := 35) (v := 1) dX0_becomeBusy_34 (by decide) rfl ?_
      refine ab_iadd (pc' := 36) dX0_becomeBusy_35 rfl ?_
      obtain ⟨h11, eh11, hf⟩ := ab_bd hf
      refine ab_put (pc' := 39) (ci := 0) (k := 8) dX0_becomeBusy_36 rfl (by decide) fl_X0_40 rfl (tyX0_ok 8 (by decide)) rfl rfl eh11 rfl ?_
      refine ab_aload_n (pc' := 40) (q := 0) dX0_becomeBusy_39 rfl rfl rfl ?_
      refine ab_aload_n (pc' := 41) (q := 0) dX0_becomeBusy_40 rfl rfl rfl ?_
      refine ab_iload_n (pc' := 42) (q := 1) dX0_becomeBusy_41 rfl rfl rfl ?_
      obtain ⟨u12, eu12, hf⟩ := ab_bd hf
      obtain ⟨x13, ex13, hf⟩ := ab_bd hf
      refine ab_callV (pc' := 45) (Mc := mX0_meanOfLast) (as := [.int a1]) (st := [.ref a0]) dX0_becomeBusy_42 ml_X0_43 okX0_meanOfLast im_X0_meanOfLast se_X0_meanOfLast rfl eu12 rfl (by decide) (Nat.le_of_ble_eq_true rfl) (Nat.le_of_ble_eq_true rfl) (Nat.le_of_ble_eq_true rfl) rfl rfl (kX0_meanOfLast ex13 ?_)
      show ab_Ev l g mX0_becomeBusy 1 0 0 45 [(0, .ref a0), (1, .int a1)] [.int x13, .ref a0] h11 0 0 K
      obtain ⟨h14, eh14, hf⟩ := ab_bd hf
      refine ab_put (pc' := 48) (ci := 0) (k := 9) dX0_becomeBusy_45 rfl (by decide) fl_X0_15 rfl (tyX0_ok 9 (by decide)) rfl rfl eh14 rfl ?_
      refine ab_drop (ls' := [(0, .ref a0)]) [0] rfl ?_
      exact kbX0_becomeBusy_48 hf hK
-- DiskRests$Run.serve(LDiskRests$Setup;I)V (mode W, depth 2)
def bX4_serve_167  (h : ab_H) : Option ab_H := some h
set_option maxRecDepth 20000 in
set_option maxHeartbeats 1000000 in
theorem kbX4_serve_167 {l : Launch} {g : ab_G} {K : ab_K} {h : ab_H}  {r : ab_H} (hf : bX4_serve_167 h = some r) (hK : K none r) : ab_Ev l g mX4_serve 2 0 0 167 [] [] h 0 0 K := by
  unfold bX4_serve_167 at hf
  have hf := Option.some.inj hf
  subst hf
  exact ab_vret rfl dX4_serve_167 hK
def bX4_serve_166 (s2 : Int32) (s1 : Int32) (s0 : Nat) (h : ab_H) : Option ab_H := (ab_sI h s0 s1 s2).bind (fun h25 => bX4_serve_167 h25)
set_option maxRecDepth 20000 in
set_option maxHeartbeats 1000000 in
theorem kbX4_serve_166 {l : Launch} {g : ab_G} {K : ab_K} {h : ab_H} {s2 : Int32} {s1 : Int32} {s0 : Nat} {r : ab_H} (hf : bX4_serve_166 s2 s1 s0 h = some r) (hK : K none r) : ab_Ev l g mX4_serve 2 0 0 166 [] [.int s2, .int s1, .ref s0] h 0 0 K := by
  unfold bX4_serve_166 at hf
  obtain ⟨h25, eh25, hf⟩ := ab_bd hf
  refine ab_iast (pc' := 167) dX4_serve_166 eh25 rfl ?_
  exact kbX4_serve_167 hf hK
def bX4_serve_136 (s2 : Int32) (s1 : Int32) (s0 : Nat) (h : ab_H) : Option ab_H := (ab_sI h s0 s1 s2).bind (fun h30 => bX4_serve_167 h30)
set_option maxRecDepth 20000 in
set_option maxHeartbeats 1000000 in
theorem kbX4_serve_136 {l : Launch} {g : ab_G} {K : ab_K} {h : ab_H} {s2 : Int32} {s1 : Int32} {s0 : Nat} {r : ab_H} (hf : bX4_serve_136 s2 s1 s0 h = some r) (hK : K none r) : ab_Ev l g mX4_serve 2 0 0 136 [] [.int s2, .int s1, .ref s0] h 0 0 K := by
  unfold bX4_serve_136 at hf
  obtain ⟨h30, eh30, hf⟩ := ab_bd hf
  refine ab_iast (pc' := 137) dX4_serve_136 eh30 rfl ?_
  refine ab_goto (tgt := 167) dX4_serve_137 (by decide) ?_
  exact kbX4_serve_167 hf hK
def bX4_serve_90 (v0 : Nat) (v1 : Nat) (v2 : Int32) (v3 : Int32) (v4 : Int32) (v5 : Nat) (v6 : Int32) (h : ab_H) : Option ab_H := (ab_gR h v1 5 0).bind (fun r14 => (ab_aR h r14 v3).bind (fun r15 => (ab_ob h r15 1).bind (fun u16 => (fX1_restsForGuess h r15).bind (fun x17 => (ab_ob h v5 0).bind (fun u18 => (fX0_becomeBusy h v5 x17).bind (fun h19 => if (v4 : Int32) = 0 then (ab_gI h19 v5 0 2).bind (fun x21 => (ab_pV h19 v5 0 2 (.int (x21 + 1))).bind (fun h22 => (ab_gR h22 v0 4 2).bind (fun r23 => if (v6 : Int32) = 0 then bX4_serve_166 1 v2 r23 h22 else bX4_serve_166 2 v2 r23 h22))) else (ab_gI h19 v5 0 3).bind (fun x26 => (ab_pV h19 v5 0 3 (.int (x26 + 1))).bind (fun h27 => (ab_gR h27 v0 4 2).bind (fun r28 => if (v6 : Int32) = 0 then bX4_serve_136 3 v2 r28 h27 else bX4_serve_136 6 v2 r28 h27)))))))))
set_option maxRecDepth 20000 in
set_option maxHeartbeats 1000000 in
theorem kbX4_serve_90 {l : Launch} {g : ab_G} {K : ab_K} {h : ab_H} {v0 : Nat} {v1 : Nat} {v2 : Int32} {v3 : Int32} {v4 : Int32} {v5 : Nat} {v6 : Int32} {r : ab_H} (hf : bX4_serve_90 v0 v1 v2 v3 v4 v5 v6 h = some r) (hK : K none r) : ab_Ev l g mX4_serve 2 0 0 90 [(0, .ref v0), (1, .ref v1), (2, .int v2), (3, .int v3), (4, .int v4), (5, .ref v5), (6, .int v6)] [] h 0 0 K := by
  unfold bX4_serve_90 at hf
  refine ab_aload (pc' := 92) (q := 5) dX4_serve_90 rfl rfl ?_
  refine ab_aload_n (pc' := 93) (q := 1) dX4_serve_92 rfl rfl rfl ?_
  obtain ⟨r14, er14, hf⟩ := ab_bd hf
  refine ab_getR (pc' := 96) (ci := 5) (k := 0) dX4_serve_93 rfl (by decide) fl_X4_50 er14 rfl ?_
  refine ab_iload_n (pc' := 97) (q := 3) dX4_serve_96 rfl rfl rfl ?_
  obtain ⟨r15, er15, hf⟩ := ab_bd hf
  refine ab_aald (pc' := 98) dX4_serve_97 er15 rfl ?_
  obtain ⟨u16, eu16, hf⟩ := ab_bd hf
  obtain ⟨x17, ex17, hf⟩ := ab_bd hf
  refine ab_callV (pc' := 101) (Mc := mX1_restsForGuess) (as := []) (st := [.ref v5]) dX4_serve_98 ml_X4_107 okX1_restsForGuess im_X1_restsForGuess se_X1_restsForGuess rfl eu16 rfl (by decide) (Nat.le_of_ble_eq_true rfl) (Nat.le_of_ble_eq_true rfl) (Nat.le_of_ble_eq_true rfl) rfl rfl (kX1_restsForGuess ex17 ?_)
  show ab_Ev l g mX4_serve 2 0 0 101 [(0, .ref v0), (1, .ref v1), (2, .int v2), (3, .int v3), (4, .int v4), (5, .ref v5), (6, .int v6)] [.int x17, .ref v5] h 0 0 K
  obtain ⟨u18, eu18, hf⟩ := ab_bd hf
  obtain ⟨h19, eh19, hf⟩ := ab_bd hf
  refine ab_callV (pc' := 104) (Mc := mX0_becomeBusy) (as := [.int x17]) (st := []) dX4_serve_101 ml_X4_113 okX0_becomeBusy im_X0_becomeBusy se_X0_becomeBusy rfl eu18 rfl (by decide) (Nat.le_of_ble_eq_true rfl) (Nat.le_of_ble_eq_true rfl) (Nat.le_of_ble_eq_true rfl) rfl rfl (kX0_becomeBusy eh19 ?_)
  show ab_Ev l g mX4_serve 2 0 0 104 [(0, .ref v0), (1, .ref v1), (2, .int v2), (3, .int v3), (4, .int v4), (5, .ref v5), (6, .int v6)] [] h19 0 0 K
  refine ab_iload (pc' := 106) (q := 4) dX4_serve_104 rfl rfl ?_
  refine ab_if_eq (pc' := 109) (tgt := 140) dX4_serve_106 (by decide) rfl (fun c20 => ?_) (fun c20 => ?_)
  · have hf := ab_ip c20 hf
    refine ab_aload (pc' := 142) (q := 5) dX4_serve_140 rfl rfl ?_
    refine ab_dup_ref (pc' := 143) dX4_serve_142 rfl ?_
    obtain ⟨x21, ex21, hf⟩ := ab_bd hf
    refine ab_getI (pc' := 146) (ci := 0) (k := 2) dX4_serve_143 rfl (by decide) fl_X4_120 ex21 rfl ?_
    refine ab_iconst (pc' := 147) (v := 1) dX4_serve_146 (by decide) rfl ?_
    refine ab_iadd (pc' := 148) dX4_serve_147 rfl ?_
    obtain ⟨h22, eh22, hf⟩ := ab_bd hf
    refine ab_put (pc' := 151) (ci := 0) (k := 2) dX4_serve_148 rfl (by decide) fl_X4_120 rfl (tyX0_ok 2 (by decide)) rfl rfl eh22 rfl ?_
    refine ab_aload_n (pc' := 152) (q := 0) dX4_serve_151 rfl rfl rfl ?_
    obtain ⟨r23, er23, hf⟩ := ab_bd hf
    refine ab_getR (pc' := 155) (ci := 4) (k := 2) dX4_serve_152 rfl (by decide) fl_X4_21 er23 rfl ?_
    refine ab_iload_n (pc' := 156) (q := 2) dX4_serve_155 rfl rfl rfl ?_
    refine ab_iload (pc' := 158) (q := 6) dX4_serve_156 rfl rfl ?_
    refine ab_if_eq (pc' := 161) (tgt := 165) dX4_serve_158 (by decide) rfl (fun c24 => ?_) (fun c24 => ?_)
    · have hf := ab_ip c24 hf
      refine ab_iconst (pc' := 166) (v := 1) dX4_serve_165 (by decide) rfl ?_
      refine ab_drop (ls' := []) [] rfl ?_
      exact kbX4_serve_166 hf hK
    · have hf := ab_iN c24 hf
      refine ab_iconst (pc' := 162) (v := 2) dX4_serve_161 (by decide) rfl ?_
      refine ab_goto (tgt := 166) dX4_serve_162 (by decide) ?_
      refine ab_drop (ls' := []) [] rfl ?_
      exact kbX4_serve_166 hf hK
  · have hf := ab_iN c20 hf
    refine ab_aload (pc' := 111) (q := 5) dX4_serve_109 rfl rfl ?_
    refine ab_dup_ref (pc' := 112) dX4_serve_111 rfl ?_
    obtain ⟨x26, ex26, hf⟩ := ab_bd hf
    refine ab_getI (pc' := 115) (ci := 0) (k := 3) dX4_serve_112 rfl (by decide) fl_X4_117 ex26 rfl ?_
    refine ab_iconst (pc' := 116) (v := 1) dX4_serve_115 (by decide) rfl ?_
    refine ab_iadd (pc' := 117) dX4_serve_116 rfl ?_
    obtain ⟨h27, eh27, hf⟩ := ab_bd hf
    refine ab_put (pc' := 120) (ci := 0) (k := 3) dX4_serve_117 rfl (by decide) fl_X4_117 rfl (tyX0_ok 3 (by decide)) rfl rfl eh27 rfl ?_
    refine ab_aload_n (pc' := 121) (q := 0) dX4_serve_120 rfl rfl rfl ?_
    obtain ⟨r28, er28, hf⟩ := ab_bd hf
    refine ab_getR (pc' := 124) (ci := 4) (k := 2) dX4_serve_121 rfl (by decide) fl_X4_21 er28 rfl ?_
    refine ab_iload_n (pc' := 125) (q := 2) dX4_serve_124 rfl rfl rfl ?_
    refine ab_iload (pc' := 127) (q := 6) dX4_serve_125 rfl rfl ?_
    refine ab_if_eq (pc' := 130) (tgt := 135) dX4_serve_127 (by decide) rfl (fun c29 => ?_) (fun c29 => ?_)
    · have hf := ab_ip c29 hf
      refine ab_iconst (pc' := 136) (v := 3) dX4_serve_135 (by decide) rfl ?_
      refine ab_drop (ls' := []) [] rfl ?_
      exact kbX4_serve_136 hf hK
    · have hf := ab_iN c29 hf
      refine ab_bipush (pc' := 132) (v := 6) dX4_serve_130 (by decide) rfl ?_
      refine ab_goto (tgt := 136) dX4_serve_132 (by decide) ?_
      refine ab_drop (ls' := []) [] rfl ?_
      exact kbX4_serve_136 hf hK
def bX4_serve_79 (v0 : Nat) (v1 : Nat) (v2 : Int32) (v3 : Int32) (v4 : Int32) (v5 : Nat) (v6 : Int32) (h : ab_H) : Option ab_H := if (v6 : Int32) = 0 then bX4_serve_90 v0 v1 v2 v3 v4 v5 v6 h else (ab_ob h v0 4).bind (fun u31 => (fX4_wakeUp h v0 v1 v3).bind (fun h32 => bX4_serve_90 v0 v1 v2 v3 v4 v5 v6 h32))
set_option maxRecDepth 20000 in
set_option maxHeartbeats 1000000 in
theorem kbX4_serve_79 {l : Launch} {g : ab_G} {K : ab_K} {h : ab_H} {v0 : Nat} {v1 : Nat} {v2 : Int32} {v3 : Int32} {v4 : Int32} {v5 : Nat} {v6 : Int32} {r : ab_H} (hf : bX4_serve_79 v0 v1 v2 v3 v4 v5 v6 h = some r) (hK : K none r) : ab_Ev l g mX4_serve 2 0 0 79 [(0, .ref v0), (1, .ref v1), (2, .int v2), (3, .int v3), (4, .int v4), (5, .ref v5), (6, .int v6)] [] h 0 0 K := by
  unfold bX4_serve_79 at hf
  refine ab_iload (pc' := 81) (q := 6) dX4_serve_79 rfl rfl ?_
  refine ab_if_eq (pc' := 84) (tgt := 90) dX4_serve_81 (by decide) rfl (fun c13 => ?_) (fun c13 => ?_)
  · have hf := ab_ip c13 hf
    exact kbX4_serve_90 hf hK
  · have hf := ab_iN c13 hf
    refine ab_aload_n (pc' := 85) (q := 0) dX4_serve_84 rfl rfl rfl ?_
    refine ab_aload_n (pc' := 86) (q := 1) dX4_serve_85 rfl rfl rfl ?_
    refine ab_iload_n (pc' := 87) (q := 3) dX4_serve_86 rfl rfl rfl ?_
    obtain ⟨u31, eu31, hf⟩ := ab_bd hf
    obtain ⟨h32, eh32, hf⟩ := ab_bd hf
    refine ab_callV (pc' := 90) (Mc := mX4_wakeUp) (as := [.ref v1, .int v3]) (st := []) dX4_serve_87 ml_X4_104 okX4_wakeUp im_X4_wakeUp se_X4_wakeUp rfl eu31 rfl (by decide) (Nat.le_of_ble_eq_true rfl) (Nat.le_of_ble_eq_true rfl) (Nat.le_of_ble_eq_true rfl) rfl rfl (kX4_wakeUp eh32 ?_)
    show ab_Ev l g mX4_serve 2 0 0 90 [(0, .ref v0), (1, .ref v1), (2, .int v2), (3, .int v3), (4, .int v4), (5, .ref v5), (6, .int v6)] [] h32 0 0 K
    exact kbX4_serve_90 hf hK
def bX4_serve_28 (v0 : Nat) (v1 : Nat) (v2 : Int32) (v3 : Int32) (s0 : Int32) (h : ab_H) : Option ab_H := (ab_gR h v0 4 0).bind (fun r8 => (ab_aR h r8 v3).bind (fun r9 => (ab_ob h r9 0).bind (fun u10 => (fX0_sleeps h r9).bind (fun x11 => if (s0 : Int32) = 0 then bX4_serve_79 v0 v1 v2 v3 s0 r9 x11 h else if (x11 : Int32) = 0 then bX4_serve_79 v0 v1 v2 v3 s0 r9 x11 h else (ab_gI h v0 4 4).bind (fun x34 => (ab_gI h v1 5 3).bind (fun x35 => if (ab_min x35 8) ≤ (x34 : Int32) then bX4_serve_79 v0 v1 v2 v3 s0 r9 x11 h else (ab_ob h v0 4).bind (fun u37 => (fX4_enter h v0 r9 v2).bind (fun h38 => some h38))))))))
set_option maxRecDepth 20000 in
set_option maxHeartbeats 1000000 in
theorem kbX4_serve_28 {l : Launch} {g : ab_G} {K : ab_K} {h : ab_H} {v0 : Nat} {v1 : Nat} {v2 : Int32} {v3 : Int32} {s0 : Int32} {r : ab_H} (hf : bX4_serve_28 v0 v1 v2 v3 s0 h = some r) (hK : K none r) : ab_Ev l g mX4_serve 2 0 0 28 [(0, .ref v0), (1, .ref v1), (2, .int v2), (3, .int v3)] [.int s0] h 0 0 K := by
  unfold bX4_serve_28 at hf
  refine ab_istore (pc' := 30) (ls' := [(4, .int s0), (0, .ref v0), (1, .ref v1), (2, .int v2), (3, .int v3)]) dX4_serve_28 (by decide) rfl rfl ?_
  refine ab_aload_n (pc' := 31) (q := 1) dX4_serve_30 rfl rfl rfl ?_
  obtain ⟨r8, er8, hf⟩ := ab_bd hf
  refine ab_getR (pc' := 34) (ci := 4) (k := 0) dX4_serve_31 rfl (by decide) fl_X4_11 er8 rfl ?_
  refine ab_iload_n (pc' := 35) (q := 4) dX4_serve_34 rfl rfl rfl ?_
  obtain ⟨r9, er9, hf⟩ := ab_bd hf
  refine ab_aald (pc' := 36) dX4_serve_35 er9 rfl ?_
  refine ab_astore (pc' := 38) (ls' := [(5, .ref r9), (4, .int s0), (0, .ref v0), (1, .ref v1), (2, .int v2), (3, .int v3)]) dX4_serve_36 (by decide) rfl rfl ?_
  refine ab_aload (pc' := 40) (q := 0) dX4_serve_38 rfl rfl ?_
  obtain ⟨u10, eu10, hf⟩ := ab_bd hf
  obtain ⟨x11, ex11, hf⟩ := ab_bd hf
  refine ab_callV (pc' := 43) (Mc := mX0_sleeps) (as := []) (st := []) dX4_serve_40 ml_X4_87 okX0_sleeps im_X0_sleeps se_X0_sleeps rfl eu10 rfl (by decide) (Nat.le_of_ble_eq_true rfl) (Nat.le_of_ble_eq_true rfl) (Nat.le_of_ble_eq_true rfl) rfl rfl (kX0_sleeps ex11 ?_)
  show ab_Ev l g mX4_serve 2 0 0 43 [(5, .ref r9), (4, .int s0), (0, .ref v0), (1, .ref v1), (2, .int v2), (3, .int v3)] [.int x11] h 0 0 K
  refine ab_istore (pc' := 45) (ls' := [(6, .int x11), (5, .ref r9), (4, .int s0), (0, .ref v0), (1, .ref v1), (2, .int v2), (3, .int v3)]) dX4_serve_43 (by decide) rfl rfl ?_
  refine ab_iload (pc' := 47) (q := 2) dX4_serve_45 rfl rfl ?_
  refine ab_if_eq (pc' := 50) (tgt := 79) dX4_serve_47 (by decide) rfl (fun c12 => ?_) (fun c12 => ?_)
  · have hf := ab_ip c12 hf
    refine ab_drop (ls' := [(0, .ref v0), (1, .ref v1), (2, .int v2), (3, .int v3), (4, .int s0), (5, .ref r9), (6, .int x11)]) [3, 4, 5, 6, 2, 1, 0] rfl ?_
    exact kbX4_serve_79 hf hK
  · have hf := ab_iN c12 hf
    refine ab_iload (pc' := 52) (q := 0) dX4_serve_50 rfl rfl ?_
    refine ab_if_eq (pc' := 55) (tgt := 79) dX4_serve_52 (by decide) rfl (fun c33 => ?_) (fun c33 => ?_)
    · have hf := ab_ip c33 hf
      refine ab_drop (ls' := [(0, .ref v0), (1, .ref v1), (2, .int v2), (3, .int v3), (4, .int s0), (5, .ref r9), (6, .int x11)]) [3, 4, 5, 6, 2, 1, 0] rfl ?_
      exact kbX4_serve_79 hf hK
    · have hf := ab_iN c33 hf
      refine ab_aload_n (pc' := 56) (q := 3) dX4_serve_55 rfl rfl rfl ?_
      obtain ⟨x34, ex34, hf⟩ := ab_bd hf
      refine ab_getI (pc' := 59) (ci := 4) (k := 4) dX4_serve_56 rfl (by decide) fl_X4_66 ex34 rfl ?_
      refine ab_aload_n (pc' := 60) (q := 4) dX4_serve_59 rfl rfl rfl ?_
      obtain ⟨x35, ex35, hf⟩ := ab_bd hf
      refine ab_getI (pc' := 63) (ci := 5) (k := 3) dX4_serve_60 rfl (by decide) fl_X4_91 ex35 rfl ?_
      refine ab_bipush (pc' := 65) (v := 8) dX4_serve_63 (by decide) rfl ?_
      refine ab_mminF (pc' := 68) dX4_serve_65 mk_X4_94 (by decide) (Nat.le_of_ble_eq_true rfl) (Nat.le_of_ble_eq_true rfl) (Nat.le_of_ble_eq_true rfl) rfl ?_
      refine ab_icmp_ge (pc' := 71) (tgt := 79) dX4_serve_68 (by decide) rfl (fun c36 => ?_) (fun c36 => ?_)
      · have hf := ab_ip c36 hf
        refine ab_drop (ls' := [(0, .ref v0), (1, .ref v1), (2, .int v2), (3, .int v3), (4, .int s0), (5, .ref r9), (6, .int x11)]) [3, 4, 5, 6, 2, 1, 0] rfl ?_
        exact kbX4_serve_79 hf hK
      · have hf := ab_iN c36 hf
        refine ab_aload_n (pc' := 72) (q := 3) dX4_serve_71 rfl rfl rfl ?_
        refine ab_aload (pc' := 74) (q := 1) dX4_serve_72 rfl rfl ?_
        refine ab_iload_n (pc' := 75) (q := 5) dX4_serve_74 rfl rfl rfl ?_
        obtain ⟨u37, eu37, hf⟩ := ab_bd hf
        obtain ⟨h38, eh38, hf⟩ := ab_bd hf
        refine ab_callV (pc' := 78) (Mc := mX4_enter) (as := [.ref r9, .int v2]) (st := []) dX4_serve_75 ml_X4_100 okX4_enter im_X4_enter se_X4_enter rfl eu37 rfl (by decide) (Nat.le_of_ble_eq_true rfl) (Nat.le_of_ble_eq_true rfl) (Nat.le_of_ble_eq_true rfl) rfl rfl (kX4_enter eh38 ?_)
        show ab_Ev l g mX4_serve 2 0 0 78 [(6, .int x11), (5, .ref r9), (4, .int s0), (0, .ref v0), (1, .ref v1), (2, .int v2), (3, .int v3)] [] h38 0 0 K
        have hf := Option.some.inj hf
        subst hf
        exact ab_vret rfl dX4_serve_78 hK
def fX4_serve (h : ab_H) (a0 : Nat) (a1 : Nat) (a2 : Int32) : Option ab_H := (ab_gR h a1 5 1).bind (fun r1 => (ab_gR h r1 3 1).bind (fun r2 => (ab_aI h r2 a2).bind (fun x3 => (ab_gR h a1 5 1).bind (fun r4 => (ab_gR h r4 3 2).bind (fun r5 => (ab_aI h r5 a2).bind (fun x6 => if (x6 : Int32) = 1 then bX4_serve_28 a0 a1 a2 x3 1 h else bX4_serve_28 a0 a1 a2 x3 0 h))))))
set_option maxRecDepth 20000 in
set_option maxHeartbeats 1000000 in
theorem kX4_serve {l : Launch} {g : ab_G} {K : ab_K} {h : ab_H} {a0 : Nat} {a1 : Nat} {a2 : Int32} {r : ab_H} (hf : fX4_serve h a0 a1 a2 = some r) (hK : K none r) : ab_S l g mX4_serve 2 0 0 [.ref a0, .ref a1, .int a2] h K := by
  unfold fX4_serve at hf
  refine ab_enter (ls := [(0, .ref a0), (1, .ref a1), (2, .int a2)]) (by decide +kernel) rfl (Nat.le_of_ble_eq_true rfl) rfl ?_
  refine ab_aload_n (pc' := 1) (q := 1) dX4_serve_0 rfl rfl rfl ?_
  obtain ⟨r1, er1, hf⟩ := ab_bd hf
  refine ab_getR (pc' := 4) (ci := 5) (k := 1) dX4_serve_1 rfl (by decide) fl_X4_36 er1 rfl ?_
  obtain ⟨r2, er2, hf⟩ := ab_bd hf
  refine ab_getR (pc' := 7) (ci := 3) (k := 1) dX4_serve_4 rfl (by decide) fl_X4_82 er2 rfl ?_
  refine ab_iload_n (pc' := 8) (q := 2) dX4_serve_7 rfl rfl rfl ?_
  obtain ⟨x3, ex3, hf⟩ := ab_bd hf
  refine ab_iald (pc' := 9) dX4_serve_8 ex3 rfl ?_
  refine ab_istore_n (pc' := 10) (ls' := [(3, .int x3), (0, .ref a0), (1, .ref a1), (2, .int a2)]) dX4_serve_9 rfl (by decide) rfl rfl ?_
  refine ab_aload_n (pc' := 11) (q := 2) dX4_serve_10 rfl rfl rfl ?_
  obtain ⟨r4, er4, hf⟩ := ab_bd hf
  refine ab_getR (pc' := 14) (ci := 5) (k := 1) dX4_serve_11 rfl (by decide) fl_X4_36 er4 rfl ?_
  obtain ⟨r5, er5, hf⟩ := ab_bd hf
  refine ab_getR (pc' := 17) (ci := 3) (k := 2) dX4_serve_14 rfl (by decide) fl_X4_84 er5 rfl ?_
  refine ab_iload_n (pc' := 18) (q := 3) dX4_serve_17 rfl rfl rfl ?_
  obtain ⟨x6, ex6, hf⟩ := ab_bd hf
  refine ab_iald (pc' := 19) dX4_serve_18 ex6 rfl ?_
  refine ab_iconst (pc' := 20) (v := 1) dX4_serve_19 (by decide) rfl ?_
  refine ab_icmp_ne (pc' := 23) (tgt := 27) dX4_serve_20 (by decide) rfl (fun c7 => ?_) (fun c7 => ?_)
  · have hf := ab_iN c7 hf
    refine ab_iconst (pc' := 28) (v := 0) dX4_serve_27 (by decide) rfl ?_
    refine ab_drop (ls' := [(0, .ref a0), (1, .ref a1), (2, .int a2), (3, .int x3)]) [1, 2, 3, 0] rfl ?_
    exact kbX4_serve_28 hf hK
  · have hf := ab_ip c7 hf
    refine ab_iconst (pc' := 24) (v := 1) dX4_serve_23 (by decide) rfl ?_
    refine ab_goto (tgt := 28) dX4_serve_24 (by decide) ?_
    refine ab_drop (ls' := [(0, .ref a0), (1, .ref a1), (2, .int a2), (3, .int x3)]) [1, 2, 3, 0] rfl ?_
    exact kbX4_serve_28 hf hK
-- DiskRests$Run.serveAllOf(LDiskRests$Setup;I)V (mode W, depth 3)
def lX4_serveAllOf_11 (v0 : Nat) (v1 : Nat) (v2 : Int32) (v3 : Nat) : Nat → Int32 → ab_H → Option (Int32 × ab_H)
  | 0, _, _ => none
  | n + 1, v4, h => (ab_gI h v3 3 3).bind (fun x3 => if x3 ≤ (v4 : Int32) then some (v4, h) else (ab_gR h v3 3 0).bind (fun r5 => (ab_gR h v0 4 1).bind (fun r6 => (ab_aI h r6 v4).bind (fun x7 => (ab_aI h r5 x7).bind (fun x8 => if (x8 : Int32) = v2 then (ab_gR h v0 4 1).bind (fun r10 => (ab_aI h r10 v4).bind (fun x11 => (ab_ob h v0 4).bind (fun u12 => (fX4_serve h v0 v1 x11).bind (fun h13 => lX4_serveAllOf_11 v0 v1 v2 v3 n (v4 + 1) h13)))) else some (v4, h))))))
set_option maxRecDepth 20000 in
set_option maxHeartbeats 1000000 in
theorem klX4_serveAllOf_11 {l : Launch} {g : ab_G} {K : ab_K} {v0 : Nat} {v1 : Nat} {v2 : Int32} {v3 : Nat} {q : (Int32 × ab_H)} (hx : ab_Ev l g mX4_serveAllOf 3 0 0 54 [(0, .ref v0), (4, .int q.1)] [] q.2 0 0 K) : ∀ (n : Nat) (v4 : Int32) (h : ab_H), lX4_serveAllOf_11 v0 v1 v2 v3 n v4 h = some q → ab_Ev l g mX4_serveAllOf 3 0 0 11 [(0, .ref v0), (1, .ref v1), (2, .int v2), (3, .ref v3), (4, .int v4)] [] h 0 0 K := by
  intro n
  induction n with
  | zero => intro v4 h hf; cases (show (none : Option (Int32 × ab_H)) = some q from hf)
  | succ n ih =>
    intro v4 h hf
    rw [lX4_serveAllOf_11] at hf
    refine ab_iload (pc' := 13) (q := 4) dX4_serveAllOf_11 rfl rfl ?_
    refine ab_aload_n (pc' := 14) (q := 3) dX4_serveAllOf_13 rfl rfl rfl ?_
    obtain ⟨x3, ex3, hf⟩ := ab_bd hf
    refine ab_getI (pc' := 17) (ci := 3) (k := 3) dX4_serveAllOf_14 rfl (by decide) fl_X4_75 ex3 rfl ?_
    refine ab_icmp_ge (pc' := 20) (tgt := 54) dX4_serveAllOf_17 (by decide) rfl (fun c4 => ?_) (fun c4 => ?_)
    · have hf := ab_ip c4 hf
      have hf := Option.some.inj hf
      subst hf
      refine ab_drop (ls' := [(0, .ref v0), (4, .int v4)]) [0, 4] rfl ?_
      exact hx
    · have hf := ab_iN c4 hf
      refine ab_aload_n (pc' := 21) (q := 3) dX4_serveAllOf_20 rfl rfl rfl ?_
      obtain ⟨r5, er5, hf⟩ := ab_bd hf
      refine ab_getR (pc' := 24) (ci := 3) (k := 0) dX4_serveAllOf_21 rfl (by decide) fl_X4_76 er5 rfl ?_
      refine ab_aload_n (pc' := 25) (q := 0) dX4_serveAllOf_24 rfl rfl rfl ?_
      obtain ⟨r6, er6, hf⟩ := ab_bd hf
      refine ab_getR (pc' := 28) (ci := 4) (k := 1) dX4_serveAllOf_25 rfl (by decide) fl_X4_17 er6 rfl ?_
      refine ab_iload (pc' := 30) (q := 4) dX4_serveAllOf_28 rfl rfl ?_
      obtain ⟨x7, ex7, hf⟩ := ab_bd hf
      refine ab_iald (pc' := 31) dX4_serveAllOf_30 ex7 rfl ?_
      obtain ⟨x8, ex8, hf⟩ := ab_bd hf
      refine ab_iald (pc' := 32) dX4_serveAllOf_31 ex8 rfl ?_
      refine ab_iload_n (pc' := 33) (q := 2) dX4_serveAllOf_32 rfl rfl rfl ?_
      refine ab_icmp_ne (pc' := 36) (tgt := 54) dX4_serveAllOf_33 (by decide) rfl (fun c9 => ?_) (fun c9 => ?_)
      · have hf := ab_iN c9 hf
        have hf := Option.some.inj hf
        subst hf
        refine ab_drop (ls' := [(0, .ref v0), (4, .int v4)]) [0, 4] rfl ?_
        exact hx
      · have hf := ab_ip c9 hf
        refine ab_aload_n (pc' := 37) (q := 0) dX4_serveAllOf_36 rfl rfl rfl ?_
        refine ab_aload_n (pc' := 38) (q := 1) dX4_serveAllOf_37 rfl rfl rfl ?_
        refine ab_aload_n (pc' := 39) (q := 0) dX4_serveAllOf_38 rfl rfl rfl ?_
        obtain ⟨r10, er10, hf⟩ := ab_bd hf
        refine ab_getR (pc' := 42) (ci := 4) (k := 1) dX4_serveAllOf_39 rfl (by decide) fl_X4_17 er10 rfl ?_
        refine ab_iload (pc' := 44) (q := 4) dX4_serveAllOf_42 rfl rfl ?_
        obtain ⟨x11, ex11, hf⟩ := ab_bd hf
        refine ab_iald (pc' := 45) dX4_serveAllOf_44 ex11 rfl ?_
        obtain ⟨u12, eu12, hf⟩ := ab_bd hf
        obtain ⟨h13, eh13, hf⟩ := ab_bd hf
        refine ab_callV (pc' := 48) (Mc := mX4_serve) (as := [.ref v1, .int x11]) (st := []) dX4_serveAllOf_45 ml_X4_79 okX4_serve im_X4_serve se_X4_serve rfl eu12 rfl (by decide) (Nat.le_of_ble_eq_true rfl) (Nat.le_of_ble_eq_true rfl) (Nat.le_of_ble_eq_true rfl) rfl rfl (kX4_serve eh13 ?_)
        show ab_Ev l g mX4_serveAllOf 3 0 0 48 [(0, .ref v0), (1, .ref v1), (2, .int v2), (3, .ref v3), (4, .int v4)] [] h13 0 0 K
        refine ab_iinc (pc' := 51) (q := 4) (v := (v4 + 1)) (ls' := [(4, .int (v4 + 1)), (0, .ref v0), (1, .ref v1), (2, .int v2), (3, .ref v3)]) dX4_serveAllOf_48 rfl rfl (by decide) rfl rfl ?_
        refine ab_goto (tgt := 11) dX4_serveAllOf_51 (by decide) ?_
        refine ab_drop (ls' := [(0, .ref v0), (1, .ref v1), (2, .int v2), (3, .ref v3), (4, .int (v4 + 1))]) [1, 2, 3, 4, 0] rfl ?_
        exact ih _ _ hf
def bX4_serveAllOf_54 (v0 : Nat) (v4 : Int32) (h : ab_H) : Option ab_H := (ab_pV h v0 4 6 (.int v4)).bind (fun h15 => some h15)
set_option maxRecDepth 20000 in
set_option maxHeartbeats 1000000 in
theorem kbX4_serveAllOf_54 {l : Launch} {g : ab_G} {K : ab_K} {h : ab_H} {v0 : Nat} {v4 : Int32} {r : ab_H} (hf : bX4_serveAllOf_54 v0 v4 h = some r) (hK : K none r) : ab_Ev l g mX4_serveAllOf 3 0 0 54 [(0, .ref v0), (4, .int v4)] [] h 0 0 K := by
  unfold bX4_serveAllOf_54 at hf
  refine ab_aload_n (pc' := 55) (q := 0) dX4_serveAllOf_54 rfl rfl rfl ?_
  refine ab_iload (pc' := 57) (q := 1) dX4_serveAllOf_55 rfl rfl ?_
  obtain ⟨h15, eh15, hf⟩ := ab_bd hf
  refine ab_put (pc' := 60) (ci := 4) (k := 6) dX4_serveAllOf_57 rfl (by decide) fl_X4_72 rfl (tyX4_ok 6 (by decide)) rfl rfl eh15 rfl ?_
  have hf := Option.some.inj hf
  subst hf
  exact ab_vret rfl dX4_serveAllOf_60 hK
def fX4_serveAllOf (h : ab_H) (a0 : Nat) (a1 : Nat) (a2 : Int32) : Option ab_H := (ab_gR h a1 5 1).bind (fun r1 => (ab_gI h a0 4 6).bind (fun x2 => (lX4_serveAllOf_11 a0 a1 a2 r1 ab_fu x2 h).bind (fun q14 => bX4_serveAllOf_54 a0 q14.1 q14.2)))
set_option maxRecDepth 20000 in
set_option maxHeartbeats 1000000 in
theorem kX4_serveAllOf {l : Launch} {g : ab_G} {K : ab_K} {h : ab_H} {a0 : Nat} {a1 : Nat} {a2 : Int32} {r : ab_H} (hf : fX4_serveAllOf h a0 a1 a2 = some r) (hK : K none r) : ab_S l g mX4_serveAllOf 3 0 0 [.ref a0, .ref a1, .int a2] h K := by
  unfold fX4_serveAllOf at hf
  refine ab_enter (ls := [(0, .ref a0), (1, .ref a1), (2, .int a2)]) (by decide +kernel) rfl (Nat.le_of_ble_eq_true rfl) rfl ?_
  refine ab_aload_n (pc' := 1) (q := 1) dX4_serveAllOf_0 rfl rfl rfl ?_
  obtain ⟨r1, er1, hf⟩ := ab_bd hf
  refine ab_getR (pc' := 4) (ci := 5) (k := 1) dX4_serveAllOf_1 rfl (by decide) fl_X4_36 er1 rfl ?_
  refine ab_astore_n (pc' := 5) (ls' := [(3, .ref r1), (0, .ref a0), (1, .ref a1), (2, .int a2)]) dX4_serveAllOf_4 rfl (by decide) rfl rfl ?_
  refine ab_aload_n (pc' := 6) (q := 1) dX4_serveAllOf_5 rfl rfl rfl ?_
  obtain ⟨x2, ex2, hf⟩ := ab_bd hf
  refine ab_getI (pc' := 9) (ci := 4) (k := 6) dX4_serveAllOf_6 rfl (by decide) fl_X4_72 ex2 rfl ?_
  refine ab_istore (pc' := 11) (ls' := [(4, .int x2), (3, .ref r1), (0, .ref a0), (1, .ref a1), (2, .int a2)]) dX4_serveAllOf_9 (by decide) rfl rfl ?_
  refine ab_drop (ls' := [(0, .ref a0), (1, .ref a1), (2, .int a2), (3, .ref r1), (4, .int x2)]) [2, 3, 4, 1, 0] rfl ?_
  obtain ⟨q14, eq14, hf⟩ := ab_bd hf
  refine klX4_serveAllOf_11 ?_ ab_fu _ _ eq14
  exact kbX4_serveAllOf_54 hf hK
-- DiskRests$Disk.levelCost(II)I (mode R, depth 0)
def fX1_levelCost (h : ab_H) (a0 : Nat) (a1 : Int32) (a2 : Int32) : Option Int32 := (ab_gR h a0 1 0).bind (fun r1 => (ab_aI h r1 a1).bind (fun x2 => (ab_gR h a0 1 1).bind (fun r3 => (ab_aI h r3 a1).bind (fun x4 => some ((x2 * a2) + x4)))))
set_option maxRecDepth 20000 in
set_option maxHeartbeats 1000000 in
theorem kX1_levelCost {l : Launch} {g : ab_G} {K : ab_K} {h : ab_H} {a0 : Nat} {a1 : Int32} {a2 : Int32} {r : Int32} (hf : fX1_levelCost h a0 a1 a2 = some r) (hK : K (some (.int r)) h) : ab_S l g mX1_levelCost 0 0 0 [.ref a0, .int a1, .int a2] h K := by
  unfold fX1_levelCost at hf
  refine ab_enter (ls := [(0, .ref a0), (1, .int a1), (2, .int a2)]) (by decide +kernel) rfl (Nat.le_of_ble_eq_true rfl) rfl ?_
  refine ab_aload_n (pc' := 1) (q := 0) dX1_levelCost_0 rfl rfl rfl ?_
  obtain ⟨r1, er1, hf⟩ := ab_bd hf
  refine ab_getR (pc' := 4) (ci := 1) (k := 0) dX1_levelCost_1 rfl (by decide) fl_X1_9 er1 rfl ?_
  refine ab_iload_n (pc' := 5) (q := 1) dX1_levelCost_4 rfl rfl rfl ?_
  obtain ⟨x2, ex2, hf⟩ := ab_bd hf
  refine ab_iald (pc' := 6) dX1_levelCost_5 ex2 rfl ?_
  refine ab_iload_n (pc' := 7) (q := 2) dX1_levelCost_6 rfl rfl rfl ?_
  refine ab_imul (pc' := 8) dX1_levelCost_7 rfl ?_
  refine ab_aload_n (pc' := 9) (q := 0) dX1_levelCost_8 rfl rfl rfl ?_
  obtain ⟨r3, er3, hf⟩ := ab_bd hf
  refine ab_getR (pc' := 12) (ci := 1) (k := 1) dX1_levelCost_9 rfl (by decide) fl_X1_15 er3 rfl ?_
  refine ab_iload_n (pc' := 13) (q := 1) dX1_levelCost_12 rfl rfl rfl ?_
  obtain ⟨x4, ex4, hf⟩ := ab_bd hf
  refine ab_iald (pc' := 14) dX1_levelCost_13 ex4 rfl ?_
  refine ab_iadd (pc' := 15) dX1_levelCost_14 rfl ?_
  have hf := Option.some.inj hf
  subst hf
  exact ab_iret rfl dX1_levelCost_15 hK
-- DiskRests$Disk.cheapestLevel(I)I (mode R, depth 1)
def bX1_cheapestLevel_29 (rec : Int32 → Int32 → Option Int32) (v0 : Nat) (v1 : Int32) (v2 : Int32) (v3 : Int32) (h : ab_H) : Option Int32 := rec v2 (v3 + 1)
set_option maxRecDepth 20000 in
set_option maxHeartbeats 1000000 in
theorem kbX1_cheapestLevel_29 {l : Launch} {g : ab_G} {K : ab_K} {h : ab_H} {v0 : Nat} {v1 : Int32} {v2 : Int32} {v3 : Int32} {q : Int32} {rec : Int32 → Int32 → Option Int32} (ih : ∀ (w2 : Int32) (w3 : Int32), rec w2 w3 = some q → ab_Ev l g mX1_cheapestLevel 1 0 0 4 [(0, .ref v0), (1, .int v1), (2, .int w2), (3, .int w3)] [] h 0 0 K) (hx : ab_Ev l g mX1_cheapestLevel 1 0 0 35 [(2, .int q)] [] h 0 0 K) (hf : bX1_cheapestLevel_29 rec v0 v1 v2 v3 h = some q) : ab_Ev l g mX1_cheapestLevel 1 0 0 29 [(0, .ref v0), (1, .int v1), (2, .int v2), (3, .int v3)] [] h 0 0 K := by
  unfold bX1_cheapestLevel_29 at hf
  refine ab_iinc (pc' := 32) (q := 3) (v := (v3 + 1)) (ls' := [(3, .int (v3 + 1)), (0, .ref v0), (1, .int v1), (2, .int v2)]) dX1_cheapestLevel_29 rfl rfl (by decide) rfl rfl ?_
  refine ab_goto (tgt := 4) dX1_cheapestLevel_32 (by decide) ?_
  refine ab_drop (ls' := [(0, .ref v0), (1, .int v1), (2, .int v2), (3, .int (v3 + 1))]) [1, 2, 3, 0] rfl ?_
  exact ih _ _ hf
def lX1_cheapestLevel_4 (h : ab_H) (v0 : Nat) (v1 : Int32) : Nat → Int32 → Int32 → Option Int32
  | 0, _, _ => none
  | n + 1, v2, v3 => (ab_gI h v0 1 2).bind (fun x1 => if x1 < (v3 : Int32) then some v2 else (ab_ob h v0 1).bind (fun u3 => (fX1_levelCost h v0 v3 v1).bind (fun x4 => (ab_ob h v0 1).bind (fun u5 => (fX1_levelCost h v0 v2 v1).bind (fun x6 => if x6 ≤ (x4 : Int32) then bX1_cheapestLevel_29 (lX1_cheapestLevel_4 h v0 v1 n) v0 v1 v2 v3 h else bX1_cheapestLevel_29 (lX1_cheapestLevel_4 h v0 v1 n) v0 v1 v3 v3 h)))))
set_option maxRecDepth 20000 in
set_option maxHeartbeats 1000000 in
theorem klX1_cheapestLevel_4 {l : Launch} {g : ab_G} {K : ab_K} {h : ab_H} {v0 : Nat} {v1 : Int32} {q : Int32} (hx : ab_Ev l g mX1_cheapestLevel 1 0 0 35 [(2, .int q)] [] h 0 0 K) : ∀ (n : Nat) (v2 : Int32) (v3 : Int32), lX1_cheapestLevel_4 h v0 v1 n v2 v3 = some q → ab_Ev l g mX1_cheapestLevel 1 0 0 4 [(0, .ref v0), (1, .int v1), (2, .int v2), (3, .int v3)] [] h 0 0 K := by
  intro n
  induction n with
  | zero => intro v2 v3 hf; cases (show (none : Option Int32) = some q from hf)
  | succ n ih =>
    intro v2 v3 hf
    rw [lX1_cheapestLevel_4] at hf
    refine ab_iload_n (pc' := 5) (q := 3) dX1_cheapestLevel_4 rfl rfl rfl ?_
    refine ab_aload_n (pc' := 6) (q := 0) dX1_cheapestLevel_5 rfl rfl rfl ?_
    obtain ⟨x1, ex1, hf⟩ := ab_bd hf
    refine ab_getI (pc' := 9) (ci := 1) (k := 2) dX1_cheapestLevel_6 rfl (by decide) fl_X1_24 ex1 rfl ?_
    refine ab_icmp_gt (pc' := 12) (tgt := 35) dX1_cheapestLevel_9 (by decide) rfl (fun c2 => ?_) (fun c2 => ?_)
    · have hf := ab_ip c2 hf
      have hf := Option.some.inj hf
      subst hf
      refine ab_drop (ls' := [(2, .int v2)]) [2] rfl ?_
      exact hx
    · have hf := ab_iN c2 hf
      refine ab_aload_n (pc' := 13) (q := 0) dX1_cheapestLevel_12 rfl rfl rfl ?_
      refine ab_iload_n (pc' := 14) (q := 3) dX1_cheapestLevel_13 rfl rfl rfl ?_
      refine ab_iload_n (pc' := 15) (q := 1) dX1_cheapestLevel_14 rfl rfl rfl ?_
      obtain ⟨u3, eu3, hf⟩ := ab_bd hf
      obtain ⟨x4, ex4, hf⟩ := ab_bd hf
      refine ab_callV (pc' := 18) (Mc := mX1_levelCost) (as := [.int v3, .int v1]) (st := []) dX1_cheapestLevel_15 ml_X1_51 okX1_levelCost im_X1_levelCost se_X1_levelCost rfl eu3 rfl (by decide) (Nat.le_of_ble_eq_true rfl) (Nat.le_of_ble_eq_true rfl) (Nat.le_of_ble_eq_true rfl) rfl rfl (kX1_levelCost ex4 ?_)
      show ab_Ev l g mX1_cheapestLevel 1 0 0 18 [(0, .ref v0), (1, .int v1), (2, .int v2), (3, .int v3)] [.int x4] h 0 0 K
      refine ab_aload_n (pc' := 19) (q := 0) dX1_cheapestLevel_18 rfl rfl rfl ?_
      refine ab_iload_n (pc' := 20) (q := 2) dX1_cheapestLevel_19 rfl rfl rfl ?_
      refine ab_iload_n (pc' := 21) (q := 1) dX1_cheapestLevel_20 rfl rfl rfl ?_
      obtain ⟨u5, eu5, hf⟩ := ab_bd hf
      obtain ⟨x6, ex6, hf⟩ := ab_bd hf
      refine ab_callV (pc' := 24) (Mc := mX1_levelCost) (as := [.int v2, .int v1]) (st := [.int x4]) dX1_cheapestLevel_21 ml_X1_51 okX1_levelCost im_X1_levelCost se_X1_levelCost rfl eu5 rfl (by decide) (Nat.le_of_ble_eq_true rfl) (Nat.le_of_ble_eq_true rfl) (Nat.le_of_ble_eq_true rfl) rfl rfl (kX1_levelCost ex6 ?_)
      show ab_Ev l g mX1_cheapestLevel 1 0 0 24 [(0, .ref v0), (1, .int v1), (2, .int v2), (3, .int v3)] [.int x6, .int x4] h 0 0 K
      refine ab_icmp_ge (pc' := 27) (tgt := 29) dX1_cheapestLevel_24 (by decide) rfl (fun c7 => ?_) (fun c7 => ?_)
      · have hf := ab_ip c7 hf
        exact kbX1_cheapestLevel_29 ih hx hf
      · have hf := ab_iN c7 hf
        refine ab_iload_n (pc' := 28) (q := 3) dX1_cheapestLevel_27 rfl rfl rfl ?_
        refine ab_istore_n (pc' := 29) (ls' := [(2, .int v3), (0, .ref v0), (1, .int v1), (3, .int v3)]) dX1_cheapestLevel_28 rfl (by decide) rfl rfl ?_
        refine ab_drop (ls' := [(0, .ref v0), (1, .int v1), (2, .int v3), (3, .int v3)]) [1, 2, 0, 3] rfl ?_
        exact kbX1_cheapestLevel_29 ih hx hf
def fX1_cheapestLevel (h : ab_H) (a0 : Nat) (a1 : Int32) : Option Int32 := (lX1_cheapestLevel_4 h a0 a1 ab_fu 0 1).bind (fun q8 => some q8)
set_option maxRecDepth 20000 in
set_option maxHeartbeats 1000000 in
theorem kX1_cheapestLevel {l : Launch} {g : ab_G} {K : ab_K} {h : ab_H} {a0 : Nat} {a1 : Int32} {r : Int32} (hf : fX1_cheapestLevel h a0 a1 = some r) (hK : K (some (.int r)) h) : ab_S l g mX1_cheapestLevel 1 0 0 [.ref a0, .int a1] h K := by
  unfold fX1_cheapestLevel at hf
  refine ab_enter (ls := [(0, .ref a0), (1, .int a1)]) (by decide +kernel) rfl (Nat.le_of_ble_eq_true rfl) rfl ?_
  refine ab_iconst (pc' := 1) (v := 0) dX1_cheapestLevel_0 (by decide) rfl ?_
  refine ab_istore_n (pc' := 2) (ls' := [(2, .int 0), (0, .ref a0), (1, .int a1)]) dX1_cheapestLevel_1 rfl (by decide) rfl rfl ?_
  refine ab_iconst (pc' := 3) (v := 1) dX1_cheapestLevel_2 (by decide) rfl ?_
  refine ab_istore_n (pc' := 4) (ls' := [(3, .int 1), (2, .int 0), (0, .ref a0), (1, .int a1)]) dX1_cheapestLevel_3 rfl (by decide) rfl rfl ?_
  refine ab_drop (ls' := [(0, .ref a0), (1, .int a1), (2, .int 0), (3, .int 1)]) [2, 3, 1, 0] rfl ?_
  obtain ⟨q8, eq8, hf⟩ := ab_bd hf
  refine klX1_cheapestLevel_4 ?_ ab_fu _ _ eq8
  refine ab_iload_n (pc' := 36) (q := 0) dX1_cheapestLevel_35 rfl rfl rfl ?_
  have hf := Option.some.inj hf
  subst hf
  exact ab_iret rfl dX1_cheapestLevel_36 hK
