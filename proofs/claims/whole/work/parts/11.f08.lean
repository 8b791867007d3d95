-- DiskRestsModel.costWith(III)I (mode R, depth 1)
def fX7_costWith (h : ab_H) (a0 : Nat) (a1 : Int32) (a2 : Int32) (a3 : Int32) : Option Int32 := (ab_ob h a0 7).bind (fun u1 => (fX7_wakeOf h a0 a1 a2).bind (fun x2 => (ab_gR h a0 7 1).bind (fun r3 => (ab_aI h r3 ((4 * a1) + a2)).bind (fun x4 => some (x2 + (x4 * a3))))))
set_option maxRecDepth 20000 in
set_option maxHeartbeats 1000000 in
theorem kX7_costWith {l : Launch} {g : ab_G} {K : ab_K} {h : ab_H} {a0 : Nat} {a1 : Int32} {a2 : Int32} {a3 : Int32} {r : Int32} (hf : fX7_costWith h a0 a1 a2 a3 = some r) (hK : K (some (.int r)) h) : ab_S l g mX7_costWith 1 0 0 [.ref a0, .int a1, .int a2, .int a3] h K := by
  unfold fX7_costWith at hf
  refine ab_enter (ls := [(0, .ref a0), (1, .int a1), (2, .int a2), (3, .int a3)]) (by decide +kernel) rfl (Nat.le_of_ble_eq_true rfl) rfl ?_
  refine ab_aload_n (pc' := 1) (q := 0) dX7_costWith_0 rfl rfl rfl ?_
  refine ab_iload_n (pc' := 2) (q := 1) dX7_costWith_1 rfl rfl rfl ?_
  refine ab_iload_n (pc' := 3) (q := 2) dX7_costWith_2 rfl rfl rfl ?_
  obtain ⟨u1, eu1, hf⟩ := ab_bd hf
  obtain ⟨x2, ex2, hf⟩ := ab_bd hf
  refine ab_callV (pc' := 6) (Mc := mX7_wakeOf) (as := [.int a1, .int a2]) (st := []) dX7_costWith_3 ml_X7_101 okX7_wakeOf im_X7_wakeOf se_X7_wakeOf rfl eu1 rfl (by decide) (Nat.le_of_ble_eq_true rfl) (Nat.le_of_ble_eq_true rfl) (Nat.le_of_ble_eq_true rfl) rfl rfl (kX7_wakeOf ex2 ?_)
  show ab_Ev l g mX7_costWith 1 0 0 6 [(0, .ref a0), (1, .int a1), (2, .int a2), (3, .int a3)] [.int x2] h 0 0 K
  refine ab_aload_n (pc' := 7) (q := 0) dX7_costWith_6 rfl rfl rfl ?_
  obtain ⟨r3, er3, hf⟩ := ab_bd hf
  refine ab_getR (pc' := 10) (ci := 7) (k := 1) dX7_costWith_7 rfl (by decide) fl_X7_13 er3 rfl ?_
  refine ab_iconst (pc' := 11) (v := 4) dX7_costWith_10 (by decide) rfl ?_
  refine ab_iload_n (pc' := 12) (q := 1) dX7_costWith_11 rfl rfl rfl ?_
  refine ab_imul (pc' := 13) dX7_costWith_12 rfl ?_
  refine ab_iload_n (pc' := 14) (q := 2) dX7_costWith_13 rfl rfl rfl ?_
  refine ab_iadd (pc' := 15) dX7_costWith_14 rfl ?_
  obtain ⟨x4, ex4, hf⟩ := ab_bd hf
  refine ab_iald (pc' := 16) dX7_costWith_15 ex4 rfl ?_
  refine ab_iload_n (pc' := 17) (q := 3) dX7_costWith_16 rfl rfl rfl ?_
  refine ab_imul (pc' := 18) dX7_costWith_17 rfl ?_
  refine ab_iadd (pc' := 19) dX7_costWith_18 rfl ?_
  have hf := Option.some.inj hf
  subst hf
  exact ab_iret rfl dX7_costWith_19 hK
-- DiskRestsModel.bestFor(II)I (mode R, depth 2)
def bX7_bestFor_40 (rec : Int32 → Int32 → Option Int32) (v0 : Nat) (v1 : Int32) (v2 : Int32) (v4 : Int32) (s0 : Int32) (h : ab_H) : Option Int32 := rec s0 (v4 + 1)
set_option maxRecDepth 20000 in
set_option maxHeartbeats 1000000 in
theorem kbX7_bestFor_40 {l : Launch} {g : ab_G} {K : ab_K} {h : ab_H} {s0 : Int32} {v0 : Nat} {v1 : Int32} {v2 : Int32} {v4 : Int32} {q : Int32} {rec : Int32 → Int32 → Option Int32} (ih : ∀ (w3 : Int32) (w4 : Int32), rec w3 w4 = some q → ab_Ev l g mX7_bestFor 2 0 0 5 [(0, .ref v0), (1, .int v1), (2, .int v2), (3, .int w3), (4, .int w4)] [] h 0 0 K) (hx : ab_Ev l g mX7_bestFor 2 0 0 47 [(3, .int q)] [] h 0 0 K) (hf : bX7_bestFor_40 rec v0 v1 v2 v4 s0 h = some q) : ab_Ev l g mX7_bestFor 2 0 0 40 [(0, .ref v0), (1, .int v1), (2, .int v2), (4, .int v4)] [.int s0] h 0 0 K := by
  unfold bX7_bestFor_40 at hf
  refine ab_istore_n (pc' := 41) (ls' := [(3, .int s0), (0, .ref v0), (1, .int v1), (2, .int v2), (4, .int v4)]) dX7_bestFor_40 rfl (by decide) rfl rfl ?_
  refine ab_iinc (pc' := 44) (q := 4) (v := (v4 + 1)) (ls' := [(4, .int (v4 + 1)), (3, .int s0), (0, .ref v0), (1, .int v1), (2, .int v2)]) dX7_bestFor_41 rfl rfl (by decide) rfl rfl ?_
  refine ab_goto (tgt := 5) dX7_bestFor_44 (by decide) ?_
  refine ab_drop (ls' := [(0, .ref v0), (1, .int v1), (2, .int v2), (3, .int s0), (4, .int (v4 + 1))]) [2, 3, 4, 1, 0] rfl ?_
  exact ih _ _ hf
def lX7_bestFor_5 (h : ab_H) (v0 : Nat) (v1 : Int32) (v2 : Int32) : Nat → Int32 → Int32 → Option Int32
  | 0, _, _ => none
  | n + 1, v3, v4 => (ab_gR h v0 7 0).bind (fun r1 => (ab_aI h r1 v1).bind (fun x2 => if x2 < (v4 : Int32) then some v3 else (ab_ob h v0 7).bind (fun u4 => (fX7_costWith h v0 v1 v4 v2).bind (fun x5 => (ab_ob h v0 7).bind (fun u6 => (fX7_costWith h v0 v1 v3 v2).bind (fun x7 => if x7 ≤ (x5 : Int32) then bX7_bestFor_40 (lX7_bestFor_5 h v0 v1 v2 n) v0 v1 v2 v4 v3 h else bX7_bestFor_40 (lX7_bestFor_5 h v0 v1 v2 n) v0 v1 v2 v4 v4 h))))))
set_option maxRecDepth 20000 in
set_option maxHeartbeats 1000000 in
theorem klX7_bestFor_5 {l : Launch} {g : ab_G} {K : ab_K} {h : ab_H} {v0 : Nat} {v1 : Int32} {v2 : Int32} {q : Int32} (hx : ab_Ev l g mX7_bestFor 2 0 0 47 [(3, .int q)] [] h 0 0 K) : ∀ (n : Nat) (v3 : Int32) (v4 : Int32), lX7_bestFor_5 h v0 v1 v2 n v3 v4 = some q → ab_Ev l g mX7_bestFor 2 0 0 5 [(0, .ref v0), (1, .int v1), (2, .int v2), (3, .int v3), (4, .int v4)] [] h 0 0 K := by
  intro n
  induction n with
  | zero => intro v3 v4 hf; cases (show (none : Option Int32) = some q from hf)
  | succ n ih =>
    intro v3 v4 hf
    rw [lX7_bestFor_5] at hf
    refine ab_iload (pc' := 7) (q := 4) dX7_bestFor_5 rfl rfl ?_
    refine ab_aload_n (pc' := 8) (q := 0) dX7_bestFor_7 rfl rfl rfl ?_
    obtain ⟨r1, er1, hf⟩ := ab_bd hf
    refine ab_getR (pc' := 11) (ci := 7) (k := 0) dX7_bestFor_8 rfl (by decide) fl_X7_7 er1 rfl ?_
    refine ab_iload_n (pc' := 12) (q := 1) dX7_bestFor_11 rfl rfl rfl ?_
    obtain ⟨x2, ex2, hf⟩ := ab_bd hf
    refine ab_iald (pc' := 13) dX7_bestFor_12 ex2 rfl ?_
    refine ab_icmp_gt (pc' := 16) (tgt := 47) dX7_bestFor_13 (by decide) rfl (fun c3 => ?_) (fun c3 => ?_)
    · have hf := ab_ip c3 hf
      have hf := Option.some.inj hf
      subst hf
      refine ab_drop (ls' := [(3, .int v3)]) [3] rfl ?_
      exact hx
    · have hf := ab_iN c3 hf
      refine ab_aload_n (pc' := 17) (q := 0) dX7_bestFor_16 rfl rfl rfl ?_
      refine ab_iload_n (pc' := 18) (q := 1) dX7_bestFor_17 rfl rfl rfl ?_
      refine ab_iload (pc' := 20) (q := 4) dX7_bestFor_18 rfl rfl ?_
      refine ab_iload_n (pc' := 21) (q := 2) dX7_bestFor_20 rfl rfl rfl ?_
      obtain ⟨u4, eu4, hf⟩ := ab_bd hf
      obtain ⟨x5, ex5, hf⟩ := ab_bd hf
      refine ab_callV (pc' := 24) (Mc := mX7_costWith) (as := [.int v1, .int v4, .int v2]) (st := []) dX7_bestFor_21 ml_X7_111 okX7_costWith im_X7_costWith se_X7_costWith rfl eu4 rfl (by decide) (Nat.le_of_ble_eq_true rfl) (Nat.le_of_ble_eq_true rfl) (Nat.le_of_ble_eq_true rfl) rfl rfl (kX7_costWith ex5 ?_)
      show ab_Ev l g mX7_bestFor 2 0 0 24 [(0, .ref v0), (1, .int v1), (2, .int v2), (3, .int v3), (4, .int v4)] [.int x5] h 0 0 K
      refine ab_aload_n (pc' := 25) (q := 0) dX7_bestFor_24 rfl rfl rfl ?_
      refine ab_iload_n (pc' := 26) (q := 1) dX7_bestFor_25 rfl rfl rfl ?_
      refine ab_iload_n (pc' := 27) (q := 3) dX7_bestFor_26 rfl rfl rfl ?_
      refine ab_iload_n (pc' := 28) (q := 2) dX7_bestFor_27 rfl rfl rfl ?_
      obtain ⟨u6, eu6, hf⟩ := ab_bd hf
      obtain ⟨x7, ex7, hf⟩ := ab_bd hf
      refine ab_callV (pc' := 31) (Mc := mX7_costWith) (as := [.int v1, .int v3, .int v2]) (st := [.int x5]) dX7_bestFor_28 ml_X7_111 okX7_costWith im_X7_costWith se_X7_costWith rfl eu6 rfl (by decide) (Nat.le_of_ble_eq_true rfl) (Nat.le_of_ble_eq_true rfl) (Nat.le_of_ble_eq_true rfl) rfl rfl (kX7_costWith ex7 ?_)
      show ab_Ev l g mX7_bestFor 2 0 0 31 [(0, .ref v0), (1, .int v1), (2, .int v2), (3, .int v3), (4, .int v4)] [.int x7, .int x5] h 0 0 K
      refine ab_icmp_ge (pc' := 34) (tgt := 39) dX7_bestFor_31 (by decide) rfl (fun c8 => ?_) (fun c8 => ?_)
      · have hf := ab_ip c8 hf
        refine ab_iload_n (pc' := 40) (q := 3) dX7_bestFor_39 rfl rfl rfl ?_
        refine ab_drop (ls' := [(0, .ref v0), (1, .int v1), (2, .int v2), (4, .int v4)]) [0, 1, 2, 4] rfl ?_
        exact kbX7_bestFor_40 ih hx hf
      · have hf := ab_iN c8 hf
        refine ab_iload (pc' := 36) (q := 4) dX7_bestFor_34 rfl rfl ?_
        refine ab_goto (tgt := 40) dX7_bestFor_36 (by decide) ?_
        refine ab_drop (ls' := [(0, .ref v0), (1, .int v1), (2, .int v2), (4, .int v4)]) [0, 1, 2, 4] rfl ?_
        exact kbX7_bestFor_40 ih hx hf
def fX7_bestFor (h : ab_H) (a0 : Nat) (a1 : Int32) (a2 : Int32) : Option Int32 := (lX7_bestFor_5 h a0 a1 a2 ab_fu 0 1).bind (fun q9 => some q9)
set_option maxRecDepth 20000 in
set_option maxHeartbeats 1000000 in
theorem kX7_bestFor {l : Launch} {g : ab_G} {K : ab_K} {h : ab_H} {a0 : Nat} {a1 : Int32} {a2 : Int32} {r : Int32} (hf : fX7_bestFor h a0 a1 a2 = some r) (hK : K (some (.int r)) h) : ab_S l g mX7_bestFor 2 0 0 [.ref a0, .int a1, .int a2] h K := by
  unfold fX7_bestFor at hf
  refine ab_enter (ls := [(0, .ref a0), (1, .int a1), (2, .int a2)]) (by decide +kernel) rfl (Nat.le_of_ble_eq_true rfl) rfl ?_
  refine ab_iconst (pc' := 1) (v := 0) dX7_bestFor_0 (by decide) rfl ?_
  refine ab_istore_n (pc' := 2) (ls' := [(3, .int 0), (0, .ref a0), (1, .int a1), (2, .int a2)]) dX7_bestFor_1 rfl (by decide) rfl rfl ?_
  refine ab_iconst (pc' := 3) (v := 1) dX7_bestFor_2 (by decide) rfl ?_
  refine ab_istore (pc' := 5) (ls' := [(4, .int 1), (3, .int 0), (0, .ref a0), (1, .int a1), (2, .int a2)]) dX7_bestFor_3 (by decide) rfl rfl ?_
  refine ab_drop (ls' := [(0, .ref a0), (1, .int a1), (2, .int a2), (3, .int 0), (4, .int 1)]) [2, 3, 4, 1, 0] rfl ?_
  obtain ⟨q9, eq9, hf⟩ := ab_bd hf
  refine klX7_bestFor_5 ?_ ab_fu _ _ eq9
  refine ab_iload_n (pc' := 48) (q := 0) dX7_bestFor_47 rfl rfl rfl ?_
  have hf := Option.some.inj hf
  subst hf
  exact ab_iret rfl dX7_bestFor_48 hK
-- DiskRestsModel.guessOf(II)I (mode R, depth 0)
def lX7_guessOf_27 (h : ab_H) (v0 : Nat) (v1 : Int32) (v2 : Int32) : Nat → Int32 → Int32 → Int32 → Option (Int32 × Int32)
  | 0, _, _, _ => none
  | n + 1, v3, v4, v5 => if (v5 : Int32) < 0 then some (v3, v4) else if v2 ≤ (v4 : Int32) then some (v3, v4) else (ab_gR h v0 7 19).bind (fun r8 => (ab_aI h r8 ((40 * v1) + v5)).bind (fun x9 => lX7_guessOf_27 h v0 v1 v2 n (v3 + x9) (v4 + 1) (v5 + (-1))))
set_option maxRecDepth 20000 in
set_option maxHeartbeats 1000000 in
theorem klX7_guessOf_27 {l : Launch} {g : ab_G} {K : ab_K} {h : ab_H} {v0 : Nat} {v1 : Int32} {v2 : Int32} {q : (Int32 × Int32)} (hx : ab_Ev l g mX7_guessOf 0 0 0 62 [(3, .int q.1), (4, .int q.2)] [] h 0 0 K) : ∀ (n : Nat) (v3 : Int32) (v4 : Int32) (v5 : Int32), lX7_guessOf_27 h v0 v1 v2 n v3 v4 v5 = some q → ab_Ev l g mX7_guessOf 0 0 0 27 [(0, .ref v0), (1, .int v1), (2, .int v2), (3, .int v3), (4, .int v4), (5, .int v5)] [] h 0 0 K := by
  intro n
  induction n with
  | zero => intro v3 v4 v5 hf; cases (show (none : Option (Int32 × Int32)) = some q from hf)
  | succ n ih =>
    intro v3 v4 v5 hf
    rw [lX7_guessOf_27] at hf
    refine ab_iload (pc' := 29) (q := 5) dX7_guessOf_27 rfl rfl ?_
    refine ab_if_lt (pc' := 32) (tgt := 62) dX7_guessOf_29 (by decide) rfl (fun c6 => ?_) (fun c6 => ?_)
    · have hf := ab_ip c6 hf
      have hf := Option.some.inj hf
      subst hf
      refine ab_drop (ls' := [(3, .int v3), (4, .int v4)]) [3, 4] rfl ?_
      exact hx
    · have hf := ab_iN c6 hf
      refine ab_iload (pc' := 34) (q := 4) dX7_guessOf_32 rfl rfl ?_
      refine ab_iload_n (pc' := 35) (q := 2) dX7_guessOf_34 rfl rfl rfl ?_
      refine ab_icmp_ge (pc' := 38) (tgt := 62) dX7_guessOf_35 (by decide) rfl (fun c7 => ?_) (fun c7 => ?_)
      · have hf := ab_ip c7 hf
        have hf := Option.some.inj hf
        subst hf
        refine ab_drop (ls' := [(3, .int v3), (4, .int v4)]) [3, 4] rfl ?_
        exact hx
      · have hf := ab_iN c7 hf
        refine ab_iload_n (pc' := 39) (q := 3) dX7_guessOf_38 rfl rfl rfl ?_
        refine ab_aload_n (pc' := 40) (q := 0) dX7_guessOf_39 rfl rfl rfl ?_
        obtain ⟨r8, er8, hf⟩ := ab_bd hf
        refine ab_getR (pc' := 43) (ci := 7) (k := 19) dX7_guessOf_40 rfl (by decide) fl_X7_62 er8 rfl ?_
        refine ab_bipush (pc' := 45) (v := 40) dX7_guessOf_43 (by decide) rfl ?_
        refine ab_iload_n (pc' := 46) (q := 1) dX7_guessOf_45 rfl rfl rfl ?_
        refine ab_imul (pc' := 47) dX7_guessOf_46 rfl ?_
        refine ab_iload (pc' := 49) (q := 5) dX7_guessOf_47 rfl rfl ?_
        refine ab_iadd (pc' := 50) dX7_guessOf_49 rfl ?_
        obtain ⟨x9, ex9, hf⟩ := ab_bd hf
        refine ab_iald (pc' := 51) dX7_guessOf_50 ex9 rfl ?_
        refine ab_iadd (pc' := 52) dX7_guessOf_51 rfl ?_
        refine ab_istore_n (pc' := 53) (ls' := [(3, .int (v3 + x9)), (0, .ref v0), (1, .int v1), (2, .int v2), (4, .int v4), (5, .int v5)]) dX7_guessOf_52 rfl (by decide) rfl rfl ?_
        refine ab_iinc (pc' := 56) (q := 4) (v := (v4 + 1)) (ls' := [(4, .int (v4 + 1)), (3, .int (v3 + x9)), (0, .ref v0), (1, .int v1), (2, .int v2), (5, .int v5)]) dX7_guessOf_53 rfl rfl (by decide) rfl rfl ?_
        refine ab_iinc (pc' := 59) (q := 5) (v := (v5 + (-1))) (ls' := [(5, .int (v5 + (-1))), (4, .int (v4 + 1)), (3, .int (v3 + x9)), (0, .ref v0), (1, .int v1), (2, .int v2)]) dX7_guessOf_56 rfl rfl (by decide) rfl rfl ?_
        refine ab_goto (tgt := 27) dX7_guessOf_59 (by decide) ?_
        refine ab_drop (ls' := [(0, .ref v0), (1, .int v1), (2, .int v2), (3, .int (v3 + x9)), (4, .int (v4 + 1)), (5, .int (v5 + (-1)))]) [3, 4, 5, 2, 1, 0] rfl ?_
        exact ih _ _ _ hf
def bX7_guessOf_62 (v3 : Int32) (v4 : Int32) (h : ab_H) : Option Int32 := if (v4 : Int32) = 0 then none else some (v3 / v4)
set_option maxRecDepth 20000 in
set_option maxHeartbeats 1000000 in
theorem kbX7_guessOf_62 {l : Launch} {g : ab_G} {K : ab_K} {h : ab_H} {v3 : Int32} {v4 : Int32} {r : Int32} (hf : bX7_guessOf_62 v3 v4 h = some r) (hK : K (some (.int r)) h) : ab_Ev l g mX7_guessOf 0 0 0 62 [(3, .int v3), (4, .int v4)] [] h 0 0 K := by
  unfold bX7_guessOf_62 at hf
  refine ab_iload_n (pc' := 63) (q := 0) dX7_guessOf_62 rfl rfl rfl ?_
  refine ab_iload (pc' := 65) (q := 1) dX7_guessOf_63 rfl rfl ?_
  obtain ⟨n11, hf⟩ := ab_nz hf
  refine ab_idiv (pc' := 66) dX7_guessOf_65 n11 rfl ?_
  have hf := Option.some.inj hf
  subst hf
  exact ab_iret rfl dX7_guessOf_66 hK
def fX7_guessOf (h : ab_H) (a0 : Nat) (a1 : Int32) (a2 : Int32) : Option Int32 := (ab_gR h a0 7 18).bind (fun r1 => (ab_aI h r1 a1).bind (fun x2 => if (x2 : Int32) = 0 then some (-6) else (ab_gR h a0 7 18).bind (fun r4 => (ab_aI h r4 a1).bind (fun x5 => (lX7_guessOf_27 h a0 a1 a2 ab_fu 0 0 (x5 - 1)).bind (fun q10 => bX7_guessOf_62 q10.1 q10.2 h)))))
set_option maxRecDepth 20000 in
set_option maxHeartbeats 1000000 in
theorem kX7_guessOf {l : Launch} {g : ab_G} {K : ab_K} {h : ab_H} {a0 : Nat} {a1 : Int32} {a2 : Int32} {r : Int32} (hf : fX7_guessOf h a0 a1 a2 = some r) (hK : K (some (.int r)) h) : ab_S l g mX7_guessOf 0 0 0 [.ref a0, .int a1, .int a2] h K := by
  unfold fX7_guessOf at hf
  refine ab_enter (ls := [(0, .ref a0), (1, .int a1), (2, .int a2)]) (by decide +kernel) rfl (Nat.le_of_ble_eq_true rfl) rfl ?_
  refine ab_aload_n (pc' := 1) (q := 0) dX7_guessOf_0 rfl rfl rfl ?_
  obtain ⟨r1, er1, hf⟩ := ab_bd hf
  refine ab_getR (pc' := 4) (ci := 7) (k := 18) dX7_guessOf_1 rfl (by decide) fl_X7_59 er1 rfl ?_
  refine ab_iload_n (pc' := 5) (q := 1) dX7_guessOf_4 rfl rfl rfl ?_
  obtain ⟨x2, ex2, hf⟩ := ab_bd hf
  refine ab_iald (pc' := 6) dX7_guessOf_5 ex2 rfl ?_
  refine ab_if_ne (pc' := 9) (tgt := 12) dX7_guessOf_6 (by decide) rfl (fun c3 => ?_) (fun c3 => ?_)
  · have hf := ab_iN c3 hf
    refine ab_iconst (pc' := 13) (v := 0) dX7_guessOf_12 (by decide) rfl ?_
    refine ab_istore_n (pc' := 14) (ls' := [(3, .int 0), (0, .ref a0), (1, .int a1), (2, .int a2)]) dX7_guessOf_13 rfl (by decide) rfl rfl ?_
    refine ab_iconst (pc' := 15) (v := 0) dX7_guessOf_14 (by decide) rfl ?_
    refine ab_istore (pc' := 17) (ls' := [(4, .int 0), (3, .int 0), (0, .ref a0), (1, .int a1), (2, .int a2)]) dX7_guessOf_15 (by decide) rfl rfl ?_
    refine ab_aload_n (pc' := 18) (q := 2) dX7_guessOf_17 rfl rfl rfl ?_
    obtain ⟨r4, er4, hf⟩ := ab_bd hf
    refine ab_getR (pc' := 21) (ci := 7) (k := 18) dX7_guessOf_18 rfl (by decide) fl_X7_59 er4 rfl ?_
    refine ab_iload_n (pc' := 22) (q := 3) dX7_guessOf_21 rfl rfl rfl ?_
    obtain ⟨x5, ex5, hf⟩ := ab_bd hf
    refine ab_iald (pc' := 23) dX7_guessOf_22 ex5 rfl ?_
    refine ab_iconst (pc' := 24) (v := 1) dX7_guessOf_23 (by decide) rfl ?_
    refine ab_isub (pc' := 25) dX7_guessOf_24 rfl ?_
    refine ab_istore (pc' := 27) (ls' := [(5, .int (x5 - 1)), (4, .int 0), (3, .int 0), (0, .ref a0), (1, .int a1), (2, .int a2)]) dX7_guessOf_25 (by decide) rfl rfl ?_
    refine ab_drop (ls' := [(0, .ref a0), (1, .int a1), (2, .int a2), (3, .int 0), (4, .int 0), (5, .int (x5 - 1))]) [3, 4, 5, 2, 1, 0] rfl ?_
    obtain ⟨q10, eq10, hf⟩ := ab_bd hf
    refine klX7_guessOf_27 ?_ ab_fu _ _ _ eq10
    exact kbX7_guessOf_62 hf hK
  · have hf := ab_ip c3 hf
    refine ab_bipush (pc' := 11) (v := (-6)) dX7_guessOf_9 (by decide) rfl ?_
    have hf := Option.some.inj hf
    subst hf
    exact ab_iret rfl dX7_guessOf_11 hK
-- DiskRestsModel.levelFor(II)I (mode R, depth 3)
def fX7_levelFor (h : ab_H) (a0 : Nat) (a1 : Int32) (a2 : Int32) : Option Int32 := (ab_gR h a0 7 3).bind (fun r1 => (ab_aI h r1 a1).bind (fun x2 => if (x2 : Int32) = 0 then some 0 else if (x2 : Int32) = 1 then (ab_gR h a0 7 4).bind (fun r5 => (ab_aI h r5 a1).bind (fun x6 => if (x6 : Int32) = 0 then none else (ab_gR h a0 7 0).bind (fun r8 => (ab_aI h r8 a1).bind (fun x9 => if x9 ≤ ((a2 / x6) : Int32) then (ab_gR h a0 7 0).bind (fun r11 => (ab_aI h r11 a1).bind (fun x12 => some x12)) else (ab_gR h a0 7 4).bind (fun r13 => (ab_aI h r13 a1).bind (fun x14 => if (x14 : Int32) = 0 then none else some (a2 / x14))))))) else if (x2 : Int32) = 2 then (ab_ob h a0 7).bind (fun u17 => (fX7_bestFor h a0 a1 a2).bind (fun x18 => some x18)) else (ab_gR h a0 7 18).bind (fun r19 => (ab_aI h r19 a1).bind (fun x20 => if (x20 : Int32) = 0 then some 0 else (ab_gR h a0 7 4).bind (fun r22 => (ab_aI h r22 a1).bind (fun x23 => (ab_ob h a0 7).bind (fun u24 => (fX7_guessOf h a0 a1 x23).bind (fun x25 => (ab_ob h a0 7).bind (fun u26 => (fX7_bestFor h a0 a1 x25).bind (fun x27 => some x27))))))))))
set_option maxRecDepth 20000 in
set_option maxHeartbeats 1000000 in
theorem kX7_levelFor {l : Launch} {g : ab_G} {K : ab_K} {h : ab_H} {a0 : Nat} {a1 : Int32} {a2 : Int32} {r : Int32} (hf : fX7_levelFor h a0 a1 a2 = some r) (hK : K (some (.int r)) h) : ab_S l g mX7_levelFor 3 0 0 [.ref a0, .int a1, .int a2] h K := by
  unfold fX7_levelFor at hf
  refine ab_enter (ls := [(0, .ref a0), (1, .int a1), (2, .int a2)]) (by decide +kernel) rfl (Nat.le_of_ble_eq_true rfl) rfl ?_
  refine ab_aload_n (pc' := 1) (q := 0) dX7_levelFor_0 rfl rfl rfl ?_
  obtain ⟨r1, er1, hf⟩ := ab_bd hf
  refine ab_getR (pc' := 4) (ci := 7) (k := 3) dX7_levelFor_1 rfl (by decide) fl_X7_19 er1 rfl ?_
  refine ab_iload_n (pc' := 5) (q := 1) dX7_levelFor_4 rfl rfl rfl ?_
  obtain ⟨x2, ex2, hf⟩ := ab_bd hf
  refine ab_iald (pc' := 6) dX7_levelFor_5 ex2 rfl ?_
  by_cases c3 : (x2 : Int32) = 0
  · have hf := ab_ip c3 hf
    refine ab_tableC (tgt := 32) dX7_levelFor_6 c3 (by decide) (by decide) rfl (by decide) ?_
    refine ab_iconst (pc' := 33) (v := 0) dX7_levelFor_32 (by decide) rfl ?_
    have hf := Option.some.inj hf
    subst hf
    exact ab_iret rfl dX7_levelFor_33 hK
  have hf := ab_iN c3 hf
  by_cases c4 : (x2 : Int32) = 1
  · have hf := ab_ip c4 hf
    refine ab_tableC (tgt := 34) dX7_levelFor_6 c4 (by decide) (by decide) rfl (by decide) ?_
    refine ab_iload_n (pc' := 35) (q := 2) dX7_levelFor_34 rfl rfl rfl ?_
    refine ab_aload_n (pc' := 36) (q := 0) dX7_levelFor_35 rfl rfl rfl ?_
    obtain ⟨r5, er5, hf⟩ := ab_bd hf
    refine ab_getR (pc' := 39) (ci := 7) (k := 4) dX7_levelFor_36 rfl (by decide) fl_X7_22 er5 rfl ?_
    refine ab_iload_n (pc' := 40) (q := 1) dX7_levelFor_39 rfl rfl rfl ?_
    obtain ⟨x6, ex6, hf⟩ := ab_bd hf
    refine ab_iald (pc' := 41) dX7_levelFor_40 ex6 rfl ?_
    obtain ⟨n7, hf⟩ := ab_nz hf
    refine ab_idiv (pc' := 42) dX7_levelFor_41 n7 rfl ?_
    refine ab_aload_n (pc' := 43) (q := 0) dX7_levelFor_42 rfl rfl rfl ?_
    obtain ⟨r8, er8, hf⟩ := ab_bd hf
    refine ab_getR (pc' := 46) (ci := 7) (k := 0) dX7_levelFor_43 rfl (by decide) fl_X7_7 er8 rfl ?_
    refine ab_iload_n (pc' := 47) (q := 1) dX7_levelFor_46 rfl rfl rfl ?_
    obtain ⟨x9, ex9, hf⟩ := ab_bd hf
    refine ab_iald (pc' := 48) dX7_levelFor_47 ex9 rfl ?_
    refine ab_icmp_ge (pc' := 51) (tgt := 62) dX7_levelFor_48 (by decide) rfl (fun c10 => ?_) (fun c10 => ?_)
    · have hf := ab_ip c10 hf
      refine ab_aload_n (pc' := 63) (q := 0) dX7_levelFor_62 rfl rfl rfl ?_
      obtain ⟨r11, er11, hf⟩ := ab_bd hf
      refine ab_getR (pc' := 66) (ci := 7) (k := 0) dX7_levelFor_63 rfl (by decide) fl_X7_7 er11 rfl ?_
      refine ab_iload_n (pc' := 67) (q := 1) dX7_levelFor_66 rfl rfl rfl ?_
      obtain ⟨x12, ex12, hf⟩ := ab_bd hf
      refine ab_iald (pc' := 68) dX7_levelFor_67 ex12 rfl ?_
      have hf := Option.some.inj hf
      subst hf
      exact ab_iret rfl dX7_levelFor_68 hK
    · have hf := ab_iN c10 hf
      refine ab_iload_n (pc' := 52) (q := 2) dX7_levelFor_51 rfl rfl rfl ?_
      refine ab_aload_n (pc' := 53) (q := 0) dX7_levelFor_52 rfl rfl rfl ?_
      obtain ⟨r13, er13, hf⟩ := ab_bd hf
      refine ab_getR (pc' := 56) (ci := 7) (k := 4) dX7_levelFor_53 rfl (by decide) fl_X7_22 er13 rfl ?_
      refine ab_iload_n (pc' := 57) (q := 1) dX7_levelFor_56 rfl rfl rfl ?_
      obtain ⟨x14, ex14, hf⟩ := ab_bd hf
      refine ab_iald (pc' := 58) dX7_levelFor_57 ex14 rfl ?_
      obtain ⟨n15, hf⟩ := ab_nz hf
      refine ab_idiv (pc' := 59) dX7_levelFor_58 n15 rfl ?_
      refine ab_goto (tgt := 68) dX7_levelFor_59 (by decide) ?_
      have hf := Option.some.inj hf
      subst hf
      exact ab_iret rfl dX7_levelFor_68 hK
  have hf := ab_iN c4 hf
  by_cases c16 : (x2 : Int32) = 2
  · have hf := ab_ip c16 hf
    refine ab_tableC (tgt := 69) dX7_levelFor_6 c16 (by decide) (by decide) rfl (by decide) ?_
    refine ab_aload_n (pc' := 70) (q := 0) dX7_levelFor_69 rfl rfl rfl ?_
    refine ab_iload_n (pc' := 71) (q := 1) dX7_levelFor_70 rfl rfl rfl ?_
    refine ab_iload_n (pc' := 72) (q := 2) dX7_levelFor_71 rfl rfl rfl ?_
    obtain ⟨u17, eu17, hf⟩ := ab_bd hf
    obtain ⟨x18, ex18, hf⟩ := ab_bd hf
    refine ab_callV (pc' := 75) (Mc := mX7_bestFor) (as := [.int a1, .int a2]) (st := []) dX7_levelFor_72 ml_X7_115 okX7_bestFor im_X7_bestFor se_X7_bestFor rfl eu17 rfl (by decide) (Nat.le_of_ble_eq_true rfl) (Nat.le_of_ble_eq_true rfl) (Nat.le_of_ble_eq_true rfl) rfl rfl (kX7_bestFor ex18 ?_)
    show ab_Ev l g mX7_levelFor 3 0 0 75 [(0, .ref a0), (1, .int a1), (2, .int a2)] [.int x18] h 0 0 K
    have hf := Option.some.inj hf
    subst hf
    exact ab_iret rfl dX7_levelFor_75 hK
  have hf := ab_iN c16 hf
  refine ab_tableOut (tgt := 76) dX7_levelFor_6 (by have := ab_ne (i := 0) (by decide) c3; have := ab_ne (i := 1) (by decide) c4; have := ab_ne (i := 2) (by decide) c16; omega) (by decide) ?_
  refine ab_aload_n (pc' := 77) (q := 0) dX7_levelFor_76 rfl rfl rfl ?_
  obtain ⟨r19, er19, hf⟩ := ab_bd hf
  refine ab_getR (pc' := 80) (ci := 7) (k := 18) dX7_levelFor_77 rfl (by decide) fl_X7_59 er19 rfl ?_
  refine ab_iload_n (pc' := 81) (q := 1) dX7_levelFor_80 rfl rfl rfl ?_
  obtain ⟨x20, ex20, hf⟩ := ab_bd hf
  refine ab_iald (pc' := 82) dX7_levelFor_81 ex20 rfl ?_
  refine ab_if_ne (pc' := 85) (tgt := 89) dX7_levelFor_82 (by decide) rfl (fun c21 => ?_) (fun c21 => ?_)
  · have hf := ab_iN c21 hf
    refine ab_aload_n (pc' := 90) (q := 0) dX7_levelFor_89 rfl rfl rfl ?_
    refine ab_iload_n (pc' := 91) (q := 1) dX7_levelFor_90 rfl rfl rfl ?_
    refine ab_aload_n (pc' := 92) (q := 0) dX7_levelFor_91 rfl rfl rfl ?_
    refine ab_iload_n (pc' := 93) (q := 1) dX7_levelFor_92 rfl rfl rfl ?_
    refine ab_aload_n (pc' := 94) (q := 0) dX7_levelFor_93 rfl rfl rfl ?_
    obtain ⟨r22, er22, hf⟩ := ab_bd hf
    refine ab_getR (pc' := 97) (ci := 7) (k := 4) dX7_levelFor_94 rfl (by decide) fl_X7_22 er22 rfl ?_
    refine ab_iload_n (pc' := 98) (q := 1) dX7_levelFor_97 rfl rfl rfl ?_
    obtain ⟨x23, ex23, hf⟩ := ab_bd hf
    refine ab_iald (pc' := 99) dX7_levelFor_98 ex23 rfl ?_
    obtain ⟨u24, eu24, hf⟩ := ab_bd hf
    obtain ⟨x25, ex25, hf⟩ := ab_bd hf
    refine ab_callV (pc' := 102) (Mc := mX7_guessOf) (as := [.int a1, .int x23]) (st := [.int a1, .ref a0]) dX7_levelFor_99 ml_X7_118 okX7_guessOf im_X7_guessOf se_X7_guessOf rfl eu24 rfl (by decide) (Nat.le_of_ble_eq_true rfl) (Nat.le_of_ble_eq_true rfl) (Nat.le_of_ble_eq_true rfl) rfl rfl (kX7_guessOf ex25 ?_)
    show ab_Ev l g mX7_levelFor 3 0 0 102 [(0, .ref a0), (1, .int a1), (2, .int a2)] [.int x25, .int a1, .ref a0] h 0 0 K
    obtain ⟨u26, eu26, hf⟩ := ab_bd hf
    obtain ⟨x27, ex27, hf⟩ := ab_bd hf
    refine ab_callV (pc' := 105) (Mc := mX7_bestFor) (as := [.int a1, .int x25]) (st := []) dX7_levelFor_102 ml_X7_115 okX7_bestFor im_X7_bestFor se_X7_bestFor rfl eu26 rfl (by decide) (Nat.le_of_ble_eq_true rfl) (Nat.le_of_ble_eq_true rfl) (Nat.le_of_ble_eq_true rfl) rfl rfl (kX7_bestFor ex27 ?_)
    show ab_Ev l g mX7_levelFor 3 0 0 105 [(0, .ref a0), (1, .int a1), (2, .int a2)] [.int x27] h 0 0 K
    have hf := Option.some.inj hf
    subst hf
    exact ab_iret rfl dX7_levelFor_105 hK
  · have hf := ab_ip c21 hf
    refine ab_iconst (pc' := 86) (v := 0) dX7_levelFor_85 (by decide) rfl ?_
    refine ab_goto (tgt := 105) dX7_levelFor_86 (by decide) ?_
    have hf := Option.some.inj hf
    subst hf
    exact ab_iret rfl dX7_levelFor_105 hK
-- DiskRestsModel.run(I)V (mode W, depth 4)
def lX7_run_2 (v0 : Nat) (v1 : Int32) : Nat → Int32 → ab_H → Option ab_H
  | 0, _, _ => none
  | n + 1, v2, h => if 4 ≤ (v2 : Int32) then some h else (ab_gR h v0 7 11).bind (fun r2 => (ab_sI h r2 v2 0).bind (fun h3 => (ab_gR h3 v0 7 12).bind (fun r4 => (ab_sI h3 r4 v2 0).bind (fun h5 => (ab_gR h5 v0 7 13).bind (fun r6 => (ab_sI h5 r6 v2 0).bind (fun h7 => (ab_gR h7 v0 7 14).bind (fun r8 => (ab_sI h7 r8 v2 0).bind (fun h9 => (ab_gR h9 v0 7 15).bind (fun r10 => (ab_sI h9 r10 v2 0).bind (fun h11 => (ab_gR h11 v0 7 16).bind (fun r12 => (ab_sI h11 r12 v2 0).bind (fun h13 => (ab_gR h13 v0 7 17).bind (fun r14 => (ab_sI h13 r14 v2 0).bind (fun h15 => (ab_gR h15 v0 7 18).bind (fun r16 => (ab_sI h15 r16 v2 0).bind (fun h17 => lX7_run_2 v0 v1 n (v2 + 1) h17))))))))))))))))
set_option maxRecDepth 20000 in
set_option maxHeartbeats 1000000 in
theorem klX7_run_2 {l : Launch} {g : ab_G} {K : ab_K} {v0 : Nat} {v1 : Int32} {q : ab_H} (hx : ab_Ev l g mX7_run 4 0 0 69 [(0, .ref v0), (1, .int v1)] [] q 0 0 K) : ∀ (n : Nat) (v2 : Int32) (h : ab_H), lX7_run_2 v0 v1 n v2 h = some q → ab_Ev l g mX7_run 4 0 0 2 [(0, .ref v0), (1, .int v1), (2, .int v2)] [] h 0 0 K := by
  intro n
  induction n with
  | zero => intro v2 h hf; cases (show (none : Option ab_H) = some q from hf)
  | succ n ih =>
    intro v2 h hf
    rw [lX7_run_2] at hf
    refine ab_iload_n (pc' := 3) (q := 2) dX7_run_2 rfl rfl rfl ?_
    refine ab_iconst (pc' := 4) (v := 4) dX7_run_3 (by decide) rfl ?_
    refine ab_icmp_ge (pc' := 7) (tgt := 69) dX7_run_4 (by decide) rfl (fun c1 => ?_) (fun c1 => ?_)
    · have hf := ab_ip c1 hf
      have hf := Option.some.inj hf
      subst hf
      refine ab_drop (ls' := [(0, .ref v0), (1, .int v1)]) [0, 1] rfl ?_
      exact hx
    · have hf := ab_iN c1 hf
      refine ab_aload_n (pc' := 8) (q := 0) dX7_run_7 rfl rfl rfl ?_
      obtain ⟨r2, er2, hf⟩ := ab_bd hf
      refine ab_getR (pc' := 11) (ci := 7) (k := 11) dX7_run_8 rfl (by decide) fl_X7_38 er2 rfl ?_
      refine ab_iload_n (pc' := 12) (q := 2) dX7_run_11 rfl rfl rfl ?_
      refine ab_iconst (pc' := 13) (v := 0) dX7_run_12 (by decide) rfl ?_
      obtain ⟨h3, eh3, hf⟩ := ab_bd hf
      refine ab_iast (pc' := 14) dX7_run_13 eh3 rfl ?_
      refine ab_aload_n (pc' := 15) (q := 0) dX7_run_14 rfl rfl rfl ?_
      obtain ⟨r4, er4, hf⟩ := ab_bd hf
      refine ab_getR (pc' := 18) (ci := 7) (k := 12) dX7_run_15 rfl (by decide) fl_X7_41 er4 rfl ?_
      refine ab_iload_n (pc' := 19) (q := 2) dX7_run_18 rfl rfl rfl ?_
      refine ab_iconst (pc' := 20) (v := 0) dX7_run_19 (by decide) rfl ?_
      obtain ⟨h5, eh5, hf⟩ := ab_bd hf
      refine ab_iast (pc' := 21) dX7_run_20 eh5 rfl ?_
      refine ab_aload_n (pc' := 22) (q := 0) dX7_run_21 rfl rfl rfl ?_
      obtain ⟨r6, er6, hf⟩ := ab_bd hf
      refine ab_getR (pc' := 25) (ci := 7) (k := 13) dX7_run_22 rfl (by decide) fl_X7_44 er6 rfl ?_
      refine ab_iload_n (pc' := 26) (q := 2) dX7_run_25 rfl rfl rfl ?_
      refine ab_iconst (pc' := 27) (v := 0) dX7_run_26 (by decide) rfl ?_
      obtain ⟨h7, eh7, hf⟩ := ab_bd hf
      refine ab_iast (pc' := 28) dX7_run_27 eh7 rfl ?_
      refine ab_aload_n (pc' := 29) (q := 0) dX7_run_28 rfl rfl rfl ?_
      obtain ⟨r8, er8, hf⟩ := ab_bd hf
      refine ab_getR (pc' := 32) (ci := 7) (k := 14) dX7_run_29 rfl (by decide) fl_X7_47 er8 rfl ?_
      refine ab_iload_n (pc' := 33) (q := 2) dX7_run_32 rfl rfl rfl ?_
      refine ab_iconst (pc' := 34) (v := 0) dX7_run_33 (by decide) rfl ?_
      obtain ⟨h9, eh9, hf⟩ := ab_bd hf
      refine ab_iast (pc' := 35) dX7_run_34 eh9 rfl ?_
      refine ab_aload_n (pc' := 36) (q := 0) dX7_run_35 rfl rfl rfl ?_
      obtain ⟨r10, er10, hf⟩ := ab_bd hf
      refine ab_getR (pc' := 39) (ci := 7) (k := 15) dX7_run_36 rfl (by decide) fl_X7_50 er10 rfl ?_
      refine ab_iload_n (pc' := 40) (q := 2) dX7_run_39 rfl rfl rfl ?_
      refine ab_iconst (pc' := 41) (v := 0) dX7_run_40 (by decide) rfl ?_
      obtain ⟨h11, eh11, hf⟩ := ab_bd hf
      refine ab_iast (pc' := 42) dX7_run_41 eh11 rfl ?_
      refine ab_aload_n (pc' := 43) (q := 0) dX7_run_42 rfl rfl rfl ?_
      obtain ⟨r12, er12, hf⟩ := ab_bd hf
      refine ab_getR (pc' := 46) (ci := 7) (k := 16) dX7_run_43 rfl (by decide) fl_X7_53 er12 rfl ?_
      refine ab_iload_n (pc' := 47) (q := 2) dX7_run_46 rfl rfl rfl ?_
      refine ab_iconst (pc' := 48) (v := 0) dX7_run_47 (by decide) rfl ?_
      obtain ⟨h13, eh13, hf⟩ := ab_bd hf
      refine ab_iast (pc' := 49) dX7_run_48 eh13 rfl ?_
      refine ab_aload_n (pc' := 50) (q := 0) dX7_run_49 rfl rfl rfl ?_
      obtain ⟨r14, er14, hf⟩ := ab_bd hf
      refine ab_getR (pc' := 53) (ci := 7) (k := 17) dX7_run_50 rfl (by decide) fl_X7_56 er14 rfl ?_
      refine ab_iload_n (pc' := 54) (q := 2) dX7_run_53 rfl rfl rfl ?_
      refine ab_iconst (pc' := 55) (v := 0) dX7_run_54 (by decide) rfl ?_
      obtain ⟨h15, eh15, hf⟩ := ab_bd hf
      refine ab_iast (pc' := 56) dX7_run_55 eh15 rfl ?_
      refine ab_aload_n (pc' := 57) (q := 0) dX7_run_56 rfl rfl rfl ?_
      obtain ⟨r16, er16, hf⟩ := ab_bd hf
      refine ab_getR (pc' := 60) (ci := 7) (k := 18) dX7_run_57 rfl (by decide) fl_X7_59 er16 rfl ?_
      refine ab_iload_n (pc' := 61) (q := 2) dX7_run_60 rfl rfl rfl ?_
      refine ab_iconst (pc' := 62) (v := 0) dX7_run_61 (by decide) rfl ?_
      obtain ⟨h17, eh17, hf⟩ := ab_bd hf
      refine ab_iast (pc' := 63) dX7_run_62 eh17 rfl ?_
      refine ab_iinc (pc' := 66) (q := 2) (v := (v2 + 1)) (ls' := [(2, .int (v2 + 1)), (0, .ref v0), (1, .int v1)]) dX7_run_63 rfl rfl (by decide) rfl rfl ?_
      refine ab_goto (tgt := 2) dX7_run_66 (by decide) ?_
      refine ab_drop (ls' := [(0, .ref v0), (1, .int v1), (2, .int (v2 + 1))]) [1, 2, 0] rfl ?_
      exact ih _ _ hf
def lX7_run_71 (v0 : Nat) (v1 : Int32) : Nat → Int32 → ab_H → Option ab_H
  | 0, _, _ => none
  | n + 1, v2, h => (ab_gI h v0 7 5).bind (fun x19 => if x19 ≤ (v2 : Int32) then some h else (ab_gR h v0 7 20).bind (fun r21 => (ab_sI h r21 v2 0).bind (fun h22 => lX7_run_71 v0 v1 n (v2 + 1) h22)))
set_option maxRecDepth 20000 in
set_option maxHeartbeats 1000000 in
theorem klX7_run_71 {l : Launch} {g : ab_G} {K : ab_K} {v0 : Nat} {v1 : Int32} {q : ab_H} (hx : ab_Ev l g mX7_run 4 0 0 92 [(0, .ref v0), (1, .int v1)] [] q 0 0 K) : ∀ (n : Nat) (v2 : Int32) (h : ab_H), lX7_run_71 v0 v1 n v2 h = some q → ab_Ev l g mX7_run 4 0 0 71 [(0, .ref v0), (1, .int v1), (2, .int v2)] [] h 0 0 K := by
  intro n
  induction n with
  | zero => intro v2 h hf; cases (show (none : Option ab_H) = some q from hf)
  | succ n ih =>
    intro v2 h hf
    rw [lX7_run_71] at hf
    refine ab_iload_n (pc' := 72) (q := 2) dX7_run_71 rfl rfl rfl ?_
    refine ab_aload_n (pc' := 73) (q := 0) dX7_run_72 rfl rfl rfl ?_
    obtain ⟨x19, ex19, hf⟩ := ab_bd hf
    refine ab_getI (pc' := 76) (ci := 7) (k := 5) dX7_run_73 rfl (by decide) fl_X7_94 ex19 rfl ?_
    refine ab_icmp_ge (pc' := 79) (tgt := 92) dX7_run_76 (by decide) rfl (fun c20 => ?_) (fun c20 => ?_)
    · have hf := ab_ip c20 hf
      have hf := Option.some.inj hf
      subst hf
      refine ab_drop (ls' := [(0, .ref v0), (1, .int v1)]) [0, 1] rfl ?_
      exact hx
    · have hf := ab_iN c20 hf
      refine ab_aload_n (pc' := 80) (q := 0) dX7_run_79 rfl rfl rfl ?_
      obtain ⟨r21, er21, hf⟩ := ab_bd hf
      refine ab_getR (pc' := 83) (ci := 7) (k := 20) dX7_run_80 rfl (by decide) fl_X7_65 er21 rfl ?_
      refine ab_iload_n (pc' := 84) (q := 2) dX7_run_83 rfl rfl rfl ?_
      refine ab_iconst (pc' := 85) (v := 0) dX7_run_84 (by decide) rfl ?_
      obtain ⟨h22, eh22, hf⟩ := ab_bd hf
      refine ab_iast (pc' := 86) dX7_run_85 eh22 rfl ?_
      refine ab_iinc (pc' := 89) (q := 2) (v := (v2 + 1)) (ls' := [(2, .int (v2 + 1)), (0, .ref v0), (1, .int v1)]) dX7_run_86 rfl rfl (by decide) rfl rfl ?_
      refine ab_goto (tgt := 71) dX7_run_89 (by decide) ?_
      refine ab_drop (ls' := [(0, .ref v0), (1, .int v1), (2, .int (v2 + 1))]) [1, 2, 0] rfl ?_
      exact ih _ _ hf
def bX7_run_137 (rec : Int32 → ab_H → Option ab_H) (v0 : Nat) (v1 : Int32) (v2 : Int32) (v3 : Int32) (h : ab_H) : Option ab_H := rec (v3 + 1) h
set_option maxRecDepth 20000 in
set_option maxHeartbeats 1000000 in
theorem kbX7_run_137 {l : Launch} {g : ab_G} {K : ab_K} {h : ab_H} {v0 : Nat} {v1 : Int32} {v2 : Int32} {v3 : Int32} {q : ab_H} {rec : Int32 → ab_H → Option ab_H} (ih : ∀ (w3 : Int32) (hw : ab_H), rec w3 hw = some q → ab_Ev l g mX7_run 4 0 0 114 [(0, .ref v0), (1, .int v1), (2, .int v2), (3, .int w3)] [] hw 0 0 K) (hx : ab_Ev l g mX7_run 4 0 0 143 [(0, .ref v0), (1, .int v1), (2, .int v2)] [] q 0 0 K) (hf : bX7_run_137 rec v0 v1 v2 v3 h = some q) : ab_Ev l g mX7_run 4 0 0 137 [(0, .ref v0), (1, .int v1), (2, .int v2), (3, .int v3)] [] h 0 0 K := by
  unfold bX7_run_137 at hf
  refine ab_iinc (pc' := 140) (q := 3) (v := (v3 + 1)) (ls' := [(3, .int (v3 + 1)), (0, .ref v0), (1, .int v1), (2, .int v2)]) dX7_run_137 rfl rfl (by decide) rfl rfl ?_
  refine ab_goto (tgt := 114) dX7_run_140 (by decide) ?_
  refine ab_drop (ls' := [(0, .ref v0), (1, .int v1), (2, .int v2), (3, .int (v3 + 1))]) [1, 2, 3, 0] rfl ?_
  exact ih _ _ hf
def lX7_run_114 (v0 : Nat) (v1 : Int32) (v2 : Int32) : Nat → Int32 → ab_H → Option ab_H
  | 0, _, _ => none
  | n + 1, v3, h => (ab_gI h v0 7 5).bind (fun x28 => if x28 ≤ (v3 : Int32) then some h else (ab_gR h v0 7 6).bind (fun r30 => (ab_aI h r30 v3).bind (fun x31 => if (x31 : Int32) = v2 then (ab_ob h v0 7).bind (fun u33 => (fX7_meet h v0 v3).bind (fun h34 => bX7_run_137 (lX7_run_114 v0 v1 v2 n) v0 v1 v2 v3 h34)) else bX7_run_137 (lX7_run_114 v0 v1 v2 n) v0 v1 v2 v3 h)))
set_option maxRecDepth 20000 in
set_option maxHeartbeats 1000000 in
theorem klX7_run_114 {l : Launch} {g : ab_G} {K : ab_K} {v0 : Nat} {v1 : Int32} {v2 : Int32} {q : ab_H} (hx : ab_Ev l g mX7_run 4 0 0 143 [(0, .ref v0), (1, .int v1), (2, .int v2)] [] q 0 0 K) : ∀ (n : Nat) (v3 : Int32) (h : ab_H), lX7_run_114 v0 v1 v2 n v3 h = some q → ab_Ev l g mX7_run 4 0 0 114 [(0, .ref v0), (1, .int v1), (2, .int v2), (3, .int v3)] [] h 0 0 K := by
  intro n
  induction n with
  | zero => intro v3 h hf; cases (show (none : Option ab_H) = some q from hf)
  | succ n ih =>
    intro v3 h hf
    rw [lX7_run_114] at hf
    refine ab_iload_n (pc' := 115) (q := 3) dX7_run_114 rfl rfl rfl ?_
    refine ab_aload_n (pc' := 116) (q := 0) dX7_run_115 rfl rfl rfl ?_
    obtain ⟨x28, ex28, hf⟩ := ab_bd hf
    refine ab_getI (pc' := 119) (ci := 7) (k := 5) dX7_run_116 rfl (by decide) fl_X7_94 ex28 rfl ?_
    refine ab_icmp_ge (pc' := 122) (tgt := 143) dX7_run_119 (by decide) rfl (fun c29 => ?_) (fun c29 => ?_)
    · have hf := ab_ip c29 hf
      have hf := Option.some.inj hf
      subst hf
      refine ab_drop (ls' := [(0, .ref v0), (1, .int v1), (2, .int v2)]) [0, 1, 2] rfl ?_
      exact hx
    · have hf := ab_iN c29 hf
      refine ab_aload_n (pc' := 123) (q := 0) dX7_run_122 rfl rfl rfl ?_
      obtain ⟨r30, er30, hf⟩ := ab_bd hf
      refine ab_getR (pc' := 126) (ci := 7) (k := 6) dX7_run_123 rfl (by decide) fl_X7_25 er30 rfl ?_
      refine ab_iload_n (pc' := 127) (q := 3) dX7_run_126 rfl rfl rfl ?_
      obtain ⟨x31, ex31, hf⟩ := ab_bd hf
      refine ab_iald (pc' := 128) dX7_run_127 ex31 rfl ?_
      refine ab_iload_n (pc' := 129) (q := 2) dX7_run_128 rfl rfl rfl ?_
      refine ab_icmp_ne (pc' := 132) (tgt := 137) dX7_run_129 (by decide) rfl (fun c32 => ?_) (fun c32 => ?_)
      · have hf := ab_iN c32 hf
        exact kbX7_run_137 ih hx hf
      · have hf := ab_ip c32 hf
        refine ab_aload_n (pc' := 133) (q := 0) dX7_run_132 rfl rfl rfl ?_
        refine ab_iload_n (pc' := 134) (q := 3) dX7_run_133 rfl rfl rfl ?_
        obtain ⟨u33, eu33, hf⟩ := ab_bd hf
        obtain ⟨h34, eh34, hf⟩ := ab_bd hf
        refine ab_callV (pc' := 137) (Mc := mX7_meet) (as := [.int v3]) (st := []) dX7_run_134 ml_X7_137 okX7_meet im_X7_meet se_X7_meet rfl eu33 rfl (by decide) (Nat.le_of_ble_eq_true rfl) (Nat.le_of_ble_eq_true rfl) (Nat.le_of_ble_eq_true rfl) rfl rfl (kX7_meet eh34 ?_)
        show ab_Ev l g mX7_run 4 0 0 137 [(0, .ref v0), (1, .int v1), (2, .int v2), (3, .int v3)] [] h34 0 0 K
        exact kbX7_run_137 ih hx hf
def bX7_run_242 (rec : Int32 → ab_H → Option ab_H) (v0 : Nat) (v1 : Int32) (v2 : Int32) (v3 : Int32) (h : ab_H) : Option ab_H := (ab_gR h v0 7 11).bind (fun r51 => (ab_aI h r51 v3).bind (fun x52 => (ab_sI h r51 v3 (x52 + 1)).bind (fun h53 => rec (v3 + 1) h53)))
set_option maxRecDepth 20000 in
set_option maxHeartbeats 1000000 in
theorem kbX7_run_242 {l : Launch} {g : ab_G} {K : ab_K} {h : ab_H} {v0 : Nat} {v1 : Int32} {v2 : Int32} {v3 : Int32} {q : ab_H} {rec : Int32 → ab_H → Option ab_H} (ih : ∀ (w3 : Int32) (hw : ab_H), rec w3 hw = some q → ab_Ev l g mX7_run 4 0 0 145 [(0, .ref v0), (1, .int v1), (2, .int v2), (3, .int w3)] [] hw 0 0 K) (hx : ab_Ev l g mX7_run 4 0 0 258 [(0, .ref v0), (1, .int v1), (2, .int v2)] [] q 0 0 K) (hf : bX7_run_242 rec v0 v1 v2 v3 h = some q) : ab_Ev l g mX7_run 4 0 0 242 [(0, .ref v0), (1, .int v1), (2, .int v2), (3, .int v3)] [] h 0 0 K := by
  unfold bX7_run_242 at hf
  refine ab_aload_n (pc' := 243) (q := 0) dX7_run_242 rfl rfl rfl ?_
  obtain ⟨r51, er51, hf⟩ := ab_bd hf
  refine ab_getR (pc' := 246) (ci := 7) (k := 11) dX7_run_243 rfl (by decide) fl_X7_38 er51 rfl ?_
  refine ab_iload_n (pc' := 247) (q := 3) dX7_run_246 rfl rfl rfl ?_
  refine ab_dup2 (pc' := 248) dX7_run_247 rfl ?_
  obtain ⟨x52, ex52, hf⟩ := ab_bd hf
  refine ab_iald (pc' := 249) dX7_run_248 ex52 rfl ?_
  refine ab_iconst (pc' := 250) (v := 1) dX7_run_249 (by decide) rfl ?_
  refine ab_iadd (pc' := 251) dX7_run_250 rfl ?_
  obtain ⟨h53, eh53, hf⟩ := ab_bd hf
  refine ab_iast (pc' := 252) dX7_run_251 eh53 rfl ?_
  refine ab_iinc (pc' := 255) (q := 3) (v := (v3 + 1)) (ls' := [(3, .int (v3 + 1)), (0, .ref v0), (1, .int v1), (2, .int v2)]) dX7_run_252 rfl rfl (by decide) rfl rfl ?_
  refine ab_goto (tgt := 145) dX7_run_255 (by decide) ?_
  refine ab_drop (ls' := [(0, .ref v0), (1, .int v1), (2, .int v2), (3, .int (v3 + 1))]) [1, 2, 3, 0] rfl ?_
  exact ih _ _ hf
def lX7_run_145 (v0 : Nat) (v1 : Int32) (v2 : Int32) : Nat → Int32 → ab_H → Option ab_H
  | 0, _, _ => none
  | n + 1, v3, h => if 4 ≤ (v3 : Int32) then some h else (ab_gR h v0 7 12).bind (fun r37 => (ab_gR h v0 7 11).bind (fun r38 => (ab_aI h r38 v3).bind (fun x39 => (ab_ob h v0 7).bind (fun u40 => (fX7_levelFor h v0 v3 x39).bind (fun x41 => (ab_sI h r37 v3 x41).bind (fun h42 => (ab_gR h42 v0 7 13).bind (fun r43 => (ab_aI h42 r43 v3).bind (fun x44 => (ab_gR h42 v0 7 1).bind (fun r45 => (ab_gR h42 v0 7 12).bind (fun r46 => (ab_aI h42 r46 v3).bind (fun x47 => (ab_aI h42 r45 ((4 * v3) + x47)).bind (fun x48 => (ab_sI h42 r43 v3 (x44 + x48)).bind (fun h49 => if (v2 : Int32) = v1 then (ab_gR h49 v0 7 24).bind (fun r54 => (ab_gR h49 v0 7 12).bind (fun r55 => (ab_aI h49 r55 v3).bind (fun x56 => (ab_sI h49 r54 (3 * v3) x56).bind (fun h57 => (ab_gR h57 v0 7 24).bind (fun r58 => (ab_gR h57 v0 7 11).bind (fun r59 => (ab_aI h57 r59 v3).bind (fun x60 => (ab_sI h57 r58 ((3 * v3) + 1) x60).bind (fun h61 => (ab_gR h61 v0 7 24).bind (fun r62 => (ab_gR h61 v0 7 13).bind (fun r63 => (ab_aI h61 r63 v3).bind (fun x64 => (ab_sI h61 r62 ((3 * v3) + 2) x64).bind (fun h65 => bX7_run_242 (lX7_run_145 v0 v1 v2 n) v0 v1 v2 v3 h65)))))))))))) else bX7_run_242 (lX7_run_145 v0 v1 v2 n) v0 v1 v2 v3 h49)))))))))))))
set_option maxRecDepth 20000 in
set_option maxHeartbeats 1000000 in
theorem klX7_run_145 {l : Launch} {g : ab_G} {K : ab_K} {v0 : Nat} {v1 : Int32} {v2 : Int32} {q : ab_H} (hx : ab_Ev l g mX7_run 4 0 0 258 [(0, .ref v0), (1, .int v1), (2, .int v2)] [] q 0 0 K) : ∀ (n : Nat) (v3 : Int32) (h : ab_H), lX7_run_145 v0 v1 v2 n v3 h = some q → ab_Ev l g mX7_run 4 0 0 145 [(0, .ref v0), (1, .int v1), (2, .int v2), (3, .int v3)] [] h 0 0 K := by
  intro n
  induction n with
  | zero => intro v3 h hf; cases (show (none : Option ab_H) = some q from hf)
  | succ n ih =>
    intro v3 h hf
    rw [lX7_run_145] at hf
    refine ab_iload_n (pc' := 146) (q := 3) dX7_run_145 rfl rfl rfl ?_
    refine ab_iconst (pc' := 147) (v := 4) dX7_run_146 (by decide) rfl ?_
    refine ab_icmp_ge (pc' := 150) (tgt := 258) dX7_run_147 (by decide) rfl (fun c36 => ?_) (fun c36 => ?_)
    · have hf := ab_ip c36 hf
      have hf := Option.some.inj hf
      subst hf
      refine ab_drop (ls' := [(0, .ref v0), (1, .int v1), (2, .int v2)]) [0, 1, 2] rfl ?_
      exact hx
    · have hf := ab_iN c36 hf
      refine ab_aload_n (pc' := 151) (q := 0) dX7_run_150 rfl rfl rfl ?_
      obtain ⟨r37, er37, hf⟩ := ab_bd hf
      refine ab_getR (pc' := 154) (ci := 7) (k := 12) dX7_run_151 rfl (by decide) fl_X7_41 er37 rfl ?_
      refine ab_iload_n (pc' := 155) (q := 3) dX7_run_154 rfl rfl rfl ?_
      refine ab_aload_n (pc' := 156) (q := 0) dX7_run_155 rfl rfl rfl ?_
      refine ab_iload_n (pc' := 157) (q := 3) dX7_run_156 rfl rfl rfl ?_
      refine ab_aload_n (pc' := 158) (q := 0) dX7_run_157 rfl rfl rfl ?_
      obtain ⟨r38, er38, hf⟩ := ab_bd hf
      refine ab_getR (pc' := 161) (ci := 7) (k := 11) dX7_run_158 rfl (by decide) fl_X7_38 er38 rfl ?_
      refine ab_iload_n (pc' := 162) (q := 3) dX7_run_161 rfl rfl rfl ?_
      obtain ⟨x39, ex39, hf⟩ := ab_bd hf
      refine ab_iald (pc' := 163) dX7_run_162 ex39 rfl ?_
      obtain ⟨u40, eu40, hf⟩ := ab_bd hf
      obtain ⟨x41, ex41, hf⟩ := ab_bd hf
      refine ab_callV (pc' := 166) (Mc := mX7_levelFor) (as := [.int v3, .int x39]) (st := [.int v3, .ref r37]) dX7_run_163 ml_X7_140 okX7_levelFor im_X7_levelFor se_X7_levelFor rfl eu40 rfl (by decide) (Nat.le_of_ble_eq_true rfl) (Nat.le_of_ble_eq_true rfl) (Nat.le_of_ble_eq_true rfl) rfl rfl (kX7_levelFor ex41 ?_)
      show ab_Ev l g mX7_run 4 0 0 166 [(0, .ref v0), (1, .int v1), (2, .int v2), (3, .int v3)] [.int x41, .int v3, .ref r37] h 0 0 K
      obtain ⟨h42, eh42, hf⟩ := ab_bd hf
      refine ab_iast (pc' := 167) dX7_run_166 eh42 rfl ?_
      refine ab_aload_n (pc' := 168) (q := 0) dX7_run_167 rfl rfl rfl ?_
      obtain ⟨r43, er43, hf⟩ := ab_bd hf
      refine ab_getR (pc' := 171) (ci := 7) (k := 13) dX7_run_168 rfl (by decide) fl_X7_44 er43 rfl ?_
      refine ab_iload_n (pc' := 172) (q := 3) dX7_run_171 rfl rfl rfl ?_
      refine ab_dup2 (pc' := 173) dX7_run_172 rfl ?_
      obtain ⟨x44, ex44, hf⟩ := ab_bd hf
      refine ab_iald (pc' := 174) dX7_run_173 ex44 rfl ?_
      refine ab_aload_n (pc' := 175) (q := 0) dX7_run_174 rfl rfl rfl ?_
      obtain ⟨r45, er45, hf⟩ := ab_bd hf
      refine ab_getR (pc' := 178) (ci := 7) (k := 1) dX7_run_175 rfl (by decide) fl_X7_13 er45 rfl ?_
      refine ab_iconst (pc' := 179) (v := 4) dX7_run_178 (by decide) rfl ?_
      refine ab_iload_n (pc' := 180) (q := 3) dX7_run_179 rfl rfl rfl ?_
      refine ab_imul (pc' := 181) dX7_run_180 rfl ?_
      refine ab_aload_n (pc' := 182) (q := 0) dX7_run_181 rfl rfl rfl ?_
      obtain ⟨r46, er46, hf⟩ := ab_bd hf
      refine ab_getR (pc' := 185) (ci := 7) (k := 12) dX7_run_182 rfl (by decide) fl_X7_41 er46 rfl ?_
      refine ab_iload_n (pc' := 186) (q := 3) dX7_run_185 rfl rfl rfl ?_
      obtain ⟨x47, ex47, hf⟩ := ab_bd hf
      refine ab_iald (pc' := 187) dX7_run_186 ex47 rfl ?_
      refine ab_iadd (pc' := 188) dX7_run_187 rfl ?_
      obtain ⟨x48, ex48, hf⟩ := ab_bd hf
      refine ab_iald (pc' := 189) dX7_run_188 ex48 rfl ?_
      refine ab_iadd (pc' := 190) dX7_run_189 rfl ?_
      obtain ⟨h49, eh49, hf⟩ := ab_bd hf
      refine ab_iast (pc' := 191) dX7_run_190 eh49 rfl ?_
      refine ab_iload_n (pc' := 192) (q := 2) dX7_run_191 rfl rfl rfl ?_
      refine ab_iload_n (pc' := 193) (q := 1) dX7_run_192 rfl rfl rfl ?_
      refine ab_icmp_ne (pc' := 196) (tgt := 242) dX7_run_193 (by decide) rfl (fun c50 => ?_) (fun c50 => ?_)
      · have hf := ab_iN c50 hf
        exact kbX7_run_242 ih hx hf
      · have hf := ab_ip c50 hf
        refine ab_aload_n (pc' := 197) (q := 0) dX7_run_196 rfl rfl rfl ?_
        obtain ⟨r54, er54, hf⟩ := ab_bd hf
        refine ab_getR (pc' := 200) (ci := 7) (k := 24) dX7_run_197 rfl (by decide) fl_X7_71 er54 rfl ?_
        refine ab_iconst (pc' := 201) (v := 3) dX7_run_200 (by decide) rfl ?_
        refine ab_iload_n (pc' := 202) (q := 3) dX7_run_201 rfl rfl rfl ?_
        refine ab_imul (pc' := 203) dX7_run_202 rfl ?_
        refine ab_aload_n (pc' := 204) (q := 0) dX7_run_203 rfl rfl rfl ?_
        obtain ⟨r55, er55, hf⟩ := ab_bd hf
        refine ab_getR (pc' := 207) (ci := 7) (k := 12) dX7_run_204 rfl (by decide) fl_X7_41 er55 rfl ?_
        refine ab_iload_n (pc' := 208) (q := 3) dX7_run_207 rfl rfl rfl ?_
        obtain ⟨x56, ex56, hf⟩ := ab_bd hf
        refine ab_iald (pc' := 209) dX7_run_208 ex56 rfl ?_
        obtain ⟨h57, eh57, hf⟩ := ab_bd hf
        refine ab_iast (pc' := 210) dX7_run_209 eh57 rfl ?_
        refine ab_aload_n (pc' := 211) (q := 0) dX7_run_210 rfl rfl rfl ?_
        obtain ⟨r58, er58, hf⟩ := ab_bd hf
        refine ab_getR (pc' := 214) (ci := 7) (k := 24) dX7_run_211 rfl (by decide) fl_X7_71 er58 rfl ?_
        refine ab_iconst (pc' := 215) (v := 3) dX7_run_214 (by decide) rfl ?_
        refine ab_iload_n (pc' := 216) (q := 3) dX7_run_215 rfl rfl rfl ?_
        refine ab_imul (pc' := 217) dX7_run_216 rfl ?_
        refine ab_iconst (pc' := 218) (v := 1) dX7_run_217 (by decide) rfl ?_
        refine ab_iadd (pc' := 219) dX7_run_218 rfl ?_
        refine ab_aload_n (pc' := 220) (q := 0) dX7_run_219 rfl rfl rfl ?_
        obtain ⟨r59, er59, hf⟩ := ab_bd hf
        refine ab_getR (pc' := 223) (ci := 7) (k := 11) dX7_run_220 rfl (by decide) fl_X7_38 er59 rfl ?_
        refine ab_iload_n (pc' := 224) (q := 3) dX7_run_223 rfl rfl rfl ?_
        obtain ⟨x60, ex60, hf⟩ := ab_bd hf
        refine ab_iald (pc' := 225) dX7_run_224 ex60 rfl ?_
        obtain ⟨h61, eh61, hf⟩ := ab_bd hf
        refine ab_iast (pc' := 226) dX7_run_225 eh61 rfl ?_
        refine ab_aload_n (pc' := 227) (q := 0) dX7_run_226 rfl rfl rfl ?_
        obtain ⟨r62, er62, hf⟩ := ab_bd hf
        refine ab_getR (pc' := 230) (ci := 7) (k := 24) dX7_run_227 rfl (by decide) fl_X7_71 er62 rfl ?_
        refine ab_iconst (pc' := 231) (v := 3) dX7_run_230 (by decide) rfl ?_
        refine ab_iload_n (pc' := 232) (q := 3) dX7_run_231 rfl rfl rfl ?_
        refine ab_imul (pc' := 233) dX7_run_232 rfl ?_
        refine ab_iconst (pc' := 234) (v := 2) dX7_run_233 (by decide) rfl ?_
        refine ab_iadd (pc' := 235) dX7_run_234 rfl ?_
        refine ab_aload_n (pc' := 236) (q := 0) dX7_run_235 rfl rfl rfl ?_
        obtain ⟨r63, er63, hf⟩ := ab_bd hf
        refine ab_getR (pc' := 239) (ci := 7) (k := 13) dX7_run_236 rfl (by decide) fl_X7_44 er63 rfl ?_
        refine ab_iload_n (pc' := 240) (q := 3) dX7_run_239 rfl rfl rfl ?_
        obtain ⟨x64, ex64, hf⟩ := ab_bd hf
        refine ab_iald (pc' := 241) dX7_run_240 ex64 rfl ?_
        obtain ⟨h65, eh65, hf⟩ := ab_bd hf
        refine ab_iast (pc' := 242) dX7_run_241 eh65 rfl ?_
        exact kbX7_run_242 ih hx hf
def lX7_run_104 (v0 : Nat) (v1 : Int32) : Nat → Int32 → ab_H → Option ab_H
  | 0, _, _ => none
  | n + 1, v2, h => (ab_gI h v0 7 9).bind (fun x26 => if x26 ≤ (v2 : Int32) then some h else (lX7_run_114 v0 v1 v2 ab_fu 0 h).bind (fun q35 => (lX7_run_145 v0 v1 v2 ab_fu 0 q35).bind (fun q66 => lX7_run_104 v0 v1 n (v2 + 1) q66)))
set_option maxRecDepth 20000 in
set_option maxHeartbeats 1000000 in
theorem klX7_run_104 {l : Launch} {g : ab_G} {K : ab_K} {v0 : Nat} {v1 : Int32} {q : ab_H} (hx : ab_Ev l g mX7_run 4 0 0 264 [] [] q 0 0 K) : ∀ (n : Nat) (v2 : Int32) (h : ab_H), lX7_run_104 v0 v1 n v2 h = some q → ab_Ev l g mX7_run 4 0 0 104 [(0, .ref v0), (1, .int v1), (2, .int v2)] [] h 0 0 K := by
  intro n
  induction n with
  | zero => intro v2 h hf; cases (show (none : Option ab_H) = some q from hf)
  | succ n ih =>
    intro v2 h hf
    rw [lX7_run_104] at hf
    refine ab_iload_n (pc' := 105) (q := 2) dX7_run_104 rfl rfl rfl ?_
    refine ab_aload_n (pc' := 106) (q := 0) dX7_run_105 rfl rfl rfl ?_
    obtain ⟨x26, ex26, hf⟩ := ab_bd hf
    refine ab_getI (pc' := 109) (ci := 7) (k := 9) dX7_run_106 rfl (by decide) fl_X7_34 ex26 rfl ?_
    refine ab_icmp_ge (pc' := 112) (tgt := 264) dX7_run_109 (by decide) rfl (fun c27 => ?_) (fun c27 => ?_)
    · have hf := ab_ip c27 hf
      have hf := Option.some.inj hf
      subst hf
      refine ab_drop (ls' := []) [] rfl ?_
      exact hx
    · have hf := ab_iN c27 hf
      refine ab_iconst (pc' := 113) (v := 0) dX7_run_112 (by decide) rfl ?_
      refine ab_istore_n (pc' := 114) (ls' := [(3, .int 0), (0, .ref v0), (1, .int v1), (2, .int v2)]) dX7_run_113 rfl (by decide) rfl rfl ?_
      refine ab_drop (ls' := [(0, .ref v0), (1, .int v1), (2, .int v2), (3, .int 0)]) [1, 2, 3, 0] rfl ?_
      obtain ⟨q35, eq35, hf⟩ := ab_bd hf
      refine klX7_run_114 ?_ ab_fu _ _ eq35
      refine ab_iconst (pc' := 144) (v := 0) dX7_run_143 (by decide) rfl ?_
      refine ab_istore_n (pc' := 145) (ls' := [(3, .int 0), (0, .ref v0), (1, .int v1), (2, .int v2)]) dX7_run_144 rfl (by decide) rfl rfl ?_
      refine ab_drop (ls' := [(0, .ref v0), (1, .int v1), (2, .int v2), (3, .int 0)]) [1, 2, 3, 0] rfl ?_
      obtain ⟨q66, eq66, hf⟩ := ab_bd hf
      refine klX7_run_145 ?_ ab_fu _ _ eq66
      refine ab_iinc (pc' := 261) (q := 2) (v := (v2 + 1)) (ls' := [(2, .int (v2 + 1)), (0, .ref v0), (1, .int v1)]) dX7_run_258 rfl rfl (by decide) rfl rfl ?_
      refine ab_goto (tgt := 104) dX7_run_261 (by decide) ?_
      refine ab_drop (ls' := [(0, .ref v0), (1, .int v1), (2, .int (v2 + 1))]) [1, 2, 0] rfl ?_
      exact ih _ _ hf
def fX7_run (h : ab_H) (a0 : Nat) (a1 : Int32) : Option ab_H := (lX7_run_2 a0 a1 ab_fu 0 h).bind (fun q18 => (lX7_run_71 a0 a1 ab_fu 0 q18).bind (fun q23 => (ab_pV q23 a0 7 22 (.int 0)).bind (fun h24 => (ab_pV h24 a0 7 23 (.int 0)).bind (fun h25 => (lX7_run_104 a0 a1 ab_fu 0 h25).bind (fun q67 => some q67)))))
set_option maxRecDepth 20000 in
set_option maxHeartbeats 1000000 in
theorem kX7_run {l : Launch} {g : ab_G} {K : ab_K} {h : ab_H} {a0 : Nat} {a1 : Int32} {r : ab_H} (hf : fX7_run h a0 a1 = some r) (hK : K none r) : ab_S l g mX7_run 4 0 0 [.ref a0, .int a1] h K := by
  unfold fX7_run at hf
  refine ab_enter (ls := [(0, .ref a0), (1, .int a1)]) (by decide +kernel) rfl (Nat.le_of_ble_eq_true rfl) rfl ?_
  refine ab_iconst (pc' := 1) (v := 0) dX7_run_0 (by decide) rfl ?_
  refine ab_istore_n (pc' := 2) (ls' := [(2, .int 0), (0, .ref a0), (1, .int a1)]) dX7_run_1 rfl (by decide) rfl rfl ?_
  refine ab_drop (ls' := [(0, .ref a0), (1, .int a1), (2, .int 0)]) [1, 2, 0] rfl ?_
  obtain ⟨q18, eq18, hf⟩ := ab_bd hf
  refine klX7_run_2 ?_ ab_fu _ _ eq18
  refine ab_iconst (pc' := 70) (v := 0) dX7_run_69 (by decide) rfl ?_
  refine ab_istore_n (pc' := 71) (ls' := [(2, .int 0), (0, .ref a0), (1, .int a1)]) dX7_run_70 rfl (by decide) rfl rfl ?_
  refine ab_drop (ls' := [(0, .ref a0), (1, .int a1), (2, .int 0)]) [1, 2, 0] rfl ?_
  obtain ⟨q23, eq23, hf⟩ := ab_bd hf
  refine klX7_run_71 ?_ ab_fu _ _ eq23
  refine ab_aload_n (pc' := 93) (q := 0) dX7_run_92 rfl rfl rfl ?_
  refine ab_iconst (pc' := 94) (v := 0) dX7_run_93 (by decide) rfl ?_
  obtain ⟨h24, eh24, hf⟩ := ab_bd hf
  refine ab_put (pc' := 97) (ci := 7) (k := 22) dX7_run_94 rfl (by decide) fl_X7_121 rfl (tyX7_ok 22 (by decide)) rfl rfl eh24 rfl ?_
  refine ab_aload_n (pc' := 98) (q := 0) dX7_run_97 rfl rfl rfl ?_
  refine ab_iconst (pc' := 99) (v := 0) dX7_run_98 (by decide) rfl ?_
  obtain ⟨h25, eh25, hf⟩ := ab_bd hf
  refine ab_put (pc' := 102) (ci := 7) (k := 23) dX7_run_99 rfl (by decide) fl_X7_127 rfl (tyX7_ok 23 (by decide)) rfl rfl eh25 rfl ?_
  refine ab_iconst (pc' := 103) (v := 0) dX7_run_102 (by decide) rfl ?_
  refine ab_istore_n (pc' := 104) (ls' := [(2, .int 0), (0, .ref a0), (1, .int a1)]) dX7_run_103 rfl (by decide) rfl rfl ?_
  refine ab_drop (ls' := [(0, .ref a0), (1, .int a1), (2, .int 0)]) [1, 2, 0] rfl ?_
  obtain ⟨q67, eq67, hf⟩ := ab_bd hf
  refine klX7_run_104 ?_ ab_fu _ _ eq67
  have hf := Option.some.inj hf
  subst hf
  exact ab_vret rfl dX7_run_264 hK
-- DiskRestsModel.stayOf(I)I (mode R, depth 0)
def bX7_stayOf_33 (rec : Int32 → Int32 → Option Int32) (v0 : Nat) (v1 : Int32) (v3 : Int32) (s1 : Int32) (s0 : Int32) (h : ab_H) : Option Int32 := rec (s0 + s1) (v3 + 1)
set_option maxRecDepth 20000 in
set_option maxHeartbeats 1000000 in
theorem kbX7_stayOf_33 {l : Launch} {g : ab_G} {K : ab_K} {h : ab_H} {s0 : Int32} {s1 : Int32} {v0 : Nat} {v1 : Int32} {v3 : Int32} {q : Int32} {rec : Int32 → Int32 → Option Int32} (ih : ∀ (w2 : Int32) (w3 : Int32), rec w2 w3 = some q → ab_Ev l g mX7_stayOf 0 0 0 4 [(0, .ref v0), (1, .int v1), (2, .int w2), (3, .int w3)] [] h 0 0 K) (hx : ab_Ev l g mX7_stayOf 0 0 0 41 [(2, .int q)] [] h 0 0 K) (hf : bX7_stayOf_33 rec v0 v1 v3 s1 s0 h = some q) : ab_Ev l g mX7_stayOf 0 0 0 33 [(0, .ref v0), (1, .int v1), (3, .int v3)] [.int s1, .int s0] h 0 0 K := by
  unfold bX7_stayOf_33 at hf
  refine ab_iadd (pc' := 34) dX7_stayOf_33 rfl ?_
  refine ab_istore_n (pc' := 35) (ls' := [(2, .int (s0 + s1)), (0, .ref v0), (1, .int v1), (3, .int v3)]) dX7_stayOf_34 rfl (by decide) rfl rfl ?_
  refine ab_iinc (pc' := 38) (q := 3) (v := (v3 + 1)) (ls' := [(3, .int (v3 + 1)), (2, .int (s0 + s1)), (0, .ref v0), (1, .int v1)]) dX7_stayOf_35 rfl rfl (by decide) rfl rfl ?_
  refine ab_goto (tgt := 4) dX7_stayOf_38 (by decide) ?_
  refine ab_drop (ls' := [(0, .ref v0), (1, .int v1), (2, .int (s0 + s1)), (3, .int (v3 + 1))]) [2, 3, 1, 0] rfl ?_
  exact ih _ _ hf
def lX7_stayOf_4 (h : ab_H) (v0 : Nat) (v1 : Int32) : Nat → Int32 → Int32 → Option Int32
  | 0, _, _ => none
  | n + 1, v2, v3 => (ab_gI h v0 7 22).bind (fun x1 => if x1 ≤ (v3 : Int32) then some v2 else (ab_gR h v0 7 7).bind (fun r3 => (ab_gR h v0 7 21).bind (fun r4 => (ab_aI h r4 v3).bind (fun x5 => (ab_aI h r3 x5).bind (fun x6 => if (x6 : Int32) = v1 then bX7_stayOf_33 (lX7_stayOf_4 h v0 v1 n) v0 v1 v3 1 v2 h else bX7_stayOf_33 (lX7_stayOf_4 h v0 v1 n) v0 v1 v3 0 v2 h)))))
set_option maxRecDepth 20000 in
set_option maxHeartbeats 1000000 in
theorem klX7_stayOf_4 {l : Launch} {g : ab_G} {K : ab_K} {h : ab_H} {v0 : Nat} {v1 : Int32} {q : Int32} (hx : ab_Ev l g mX7_stayOf 0 0 0 41 [(2, .int q)] [] h 0 0 K) : ∀ (n : Nat) (v2 : Int32) (v3 : Int32), lX7_stayOf_4 h v0 v1 n v2 v3 = some q → ab_Ev l g mX7_stayOf 0 0 0 4 [(0, .ref v0), (1, .int v1), (2, .int v2), (3, .int v3)] [] h 0 0 K := by
  intro n
  induction n with
  | zero => intro v2 v3 hf; cases (show (none : Option Int32) = some q from hf)
  | succ n ih =>
    intro v2 v3 hf
    rw [lX7_stayOf_4] at hf
    refine ab_iload_n (pc' := 5) (q := 3) dX7_stayOf_4 rfl rfl rfl ?_
    refine ab_aload_n (pc' := 6) (q := 0) dX7_stayOf_5 rfl rfl rfl ?_
    obtain ⟨x1, ex1, hf⟩ := ab_bd hf
    refine ab_getI (pc' := 9) (ci := 7) (k := 22) dX7_stayOf_6 rfl (by decide) fl_X7_121 ex1 rfl ?_
    refine ab_icmp_ge (pc' := 12) (tgt := 41) dX7_stayOf_9 (by decide) rfl (fun c2 => ?_) (fun c2 => ?_)
    · have hf := ab_ip c2 hf
      have hf := Option.some.inj hf
      subst hf
      refine ab_drop (ls' := [(2, .int v2)]) [2] rfl ?_
      exact hx
    · have hf := ab_iN c2 hf
      refine ab_iload_n (pc' := 13) (q := 2) dX7_stayOf_12 rfl rfl rfl ?_
      refine ab_aload_n (pc' := 14) (q := 0) dX7_stayOf_13 rfl rfl rfl ?_
      obtain ⟨r3, er3, hf⟩ := ab_bd hf
      refine ab_getR (pc' := 17) (ci := 7) (k := 7) dX7_stayOf_14 rfl (by decide) fl_X7_28 er3 rfl ?_
      refine ab_aload_n (pc' := 18) (q := 0) dX7_stayOf_17 rfl rfl rfl ?_
      obtain ⟨r4, er4, hf⟩ := ab_bd hf
      refine ab_getR (pc' := 21) (ci := 7) (k := 21) dX7_stayOf_18 rfl (by decide) fl_X7_68 er4 rfl ?_
      refine ab_iload_n (pc' := 22) (q := 3) dX7_stayOf_21 rfl rfl rfl ?_
      obtain ⟨x5, ex5, hf⟩ := ab_bd hf
      refine ab_iald (pc' := 23) dX7_stayOf_22 ex5 rfl ?_
      obtain ⟨x6, ex6, hf⟩ := ab_bd hf
      refine ab_iald (pc' := 24) dX7_stayOf_23 ex6 rfl ?_
      refine ab_iload_n (pc' := 25) (q := 1) dX7_stayOf_24 rfl rfl rfl ?_
      refine ab_icmp_ne (pc' := 28) (tgt := 32) dX7_stayOf_25 (by decide) rfl (fun c7 => ?_) (fun c7 => ?_)
      · have hf := ab_iN c7 hf
        refine ab_iconst (pc' := 33) (v := 0) dX7_stayOf_32 (by decide) rfl ?_
        refine ab_drop (ls' := [(0, .ref v0), (1, .int v1), (3, .int v3)]) [0, 1, 3] rfl ?_
        exact kbX7_stayOf_33 ih hx hf
      · have hf := ab_ip c7 hf
        refine ab_iconst (pc' := 29) (v := 1) dX7_stayOf_28 (by decide) rfl ?_
        refine ab_goto (tgt := 33) dX7_stayOf_29 (by decide) ?_
        refine ab_drop (ls' := [(0, .ref v0), (1, .int v1), (3, .int v3)]) [0, 1, 3] rfl ?_
        exact kbX7_stayOf_33 ih hx hf
def fX7_stayOf (h : ab_H) (a0 : Nat) (a1 : Int32) : Option Int32 := (lX7_stayOf_4 h a0 a1 ab_fu 0 0).bind (fun q8 => some q8)
set_option maxRecDepth 20000 in
set_option maxHeartbeats 1000000 in
theorem kX7_stayOf {l : Launch} {g : ab_G} {K : ab_K} {h : ab_H} {a0 : Nat} {a1 : Int32} {r : Int32} (hf : fX7_stayOf h a0 a1 = some r) (hK : K (some (.int r)) h) : ab_S l g mX7_stayOf 0 0 0 [.ref a0, .int a1] h K := by
  unfold fX7_stayOf at hf
  refine ab_enter (ls := [(0, .ref a0), (1, .int a1)]) (by decide +kernel) rfl (Nat.le_of_ble_eq_true rfl) rfl ?_
  refine ab_iconst (pc' := 1) (v := 0) dX7_stayOf_0 (by decide) rfl ?_
  refine ab_istore_n (pc' := 2) (ls' := [(2, .int 0), (0, .ref a0), (1, .int a1)]) dX7_stayOf_1 rfl (by decide) rfl rfl ?_
  refine ab_iconst (pc' := 3) (v := 0) dX7_stayOf_2 (by decide) rfl ?_
  refine ab_istore_n (pc' := 4) (ls' := [(3, .int 0), (2, .int 0), (0, .ref a0), (1, .int a1)]) dX7_stayOf_3 rfl (by decide) rfl rfl ?_
  refine ab_drop (ls' := [(0, .ref a0), (1, .int a1), (2, .int 0), (3, .int 0)]) [2, 3, 1, 0] rfl ?_
  obtain ⟨q8, eq8, hf⟩ := ab_bd hf
  refine klX7_stayOf_4 ?_ ab_fu _ _ eq8
  refine ab_iload_n (pc' := 42) (q := 0) dX7_stayOf_41 rfl rfl rfl ?_
  have hf := Option.some.inj hf
  subst hf
  exact ab_iret rfl dX7_stayOf_42 hK
