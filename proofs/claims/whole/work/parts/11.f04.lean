-- DiskRests$Gaps.sumOf([I)I (mode R, depth 0)
def lX2_sumOf_4 (h : ab_H) (v0 : Nat) (v1 : Nat) : Nat → Int32 → Int32 → Option Int32
  | 0, _, _ => none
  | n + 1, v2, v3 => (ab_gI h v0 2 4).bind (fun x1 => if x1 ≤ (v3 : Int32) then some v2 else (ab_aI h v1 v3).bind (fun x3 => lX2_sumOf_4 h v0 v1 n (v2 + x3) (v3 + 1)))
set_option maxRecDepth 20000 in
set_option maxHeartbeats 1000000 in
theorem klX2_sumOf_4 {l : Launch} {g : ab_G} {K : ab_K} {h : ab_H} {v0 : Nat} {v1 : Nat} {q : Int32} (hx : ab_Ev l g mX2_sumOf 0 0 0 24 [(2, .int q)] [] h 0 0 K) : ∀ (n : Nat) (v2 : Int32) (v3 : Int32), lX2_sumOf_4 h v0 v1 n v2 v3 = some q → ab_Ev l g mX2_sumOf 0 0 0 4 [(0, .ref v0), (1, .ref v1), (2, .int v2), (3, .int v3)] [] h 0 0 K := by
  intro n
  induction n with
  | zero => intro v2 v3 hf; cases (show (none : Option Int32) = some q from hf)
  | succ n ih =>
    intro v2 v3 hf
    rw [lX2_sumOf_4] at hf
    refine ab_iload_n (pc' := 5) (q := 3) dX2_sumOf_4 rfl rfl rfl ?_
    refine ab_aload_n (pc' := 6) (q := 0) dX2_sumOf_5 rfl rfl rfl ?_
    obtain ⟨x1, ex1, hf⟩ := ab_bd hf
    refine ab_getI (pc' := 9) (ci := 2) (k := 4) dX2_sumOf_6 rfl (by decide) fl_X2_40 ex1 rfl ?_
    refine ab_icmp_ge (pc' := 12) (tgt := 24) dX2_sumOf_9 (by decide) rfl (fun c2 => ?_) (fun c2 => ?_)
    · have hf := ab_ip c2 hf
      have hf := Option.some.inj hf
      subst hf
      refine ab_drop (ls' := [(2, .int v2)]) [2] rfl ?_
      exact hx
    · have hf := ab_iN c2 hf
      refine ab_iload_n (pc' := 13) (q := 2) dX2_sumOf_12 rfl rfl rfl ?_
      refine ab_aload_n (pc' := 14) (q := 1) dX2_sumOf_13 rfl rfl rfl ?_
      refine ab_iload_n (pc' := 15) (q := 3) dX2_sumOf_14 rfl rfl rfl ?_
      obtain ⟨x3, ex3, hf⟩ := ab_bd hf
      refine ab_iald (pc' := 16) dX2_sumOf_15 ex3 rfl ?_
      refine ab_iadd (pc' := 17) dX2_sumOf_16 rfl ?_
      refine ab_istore_n (pc' := 18) (ls' := [(2, .int (v2 + x3)), (0, .ref v0), (1, .ref v1), (3, .int v3)]) dX2_sumOf_17 rfl (by decide) rfl rfl ?_
      refine ab_iinc (pc' := 21) (q := 3) (v := (v3 + 1)) (ls' := [(3, .int (v3 + 1)), (2, .int (v2 + x3)), (0, .ref v0), (1, .ref v1)]) dX2_sumOf_18 rfl rfl (by decide) rfl rfl ?_
      refine ab_goto (tgt := 4) dX2_sumOf_21 (by decide) ?_
      refine ab_drop (ls' := [(0, .ref v0), (1, .ref v1), (2, .int (v2 + x3)), (3, .int (v3 + 1))]) [2, 3, 1, 0] rfl ?_
      exact ih _ _ hf
def fX2_sumOf (h : ab_H) (a0 : Nat) (a1 : Nat) : Option Int32 := (lX2_sumOf_4 h a0 a1 ab_fu 0 0).bind (fun q4 => some q4)
set_option maxRecDepth 20000 in
set_option maxHeartbeats 1000000 in
theorem kX2_sumOf {l : Launch} {g : ab_G} {K : ab_K} {h : ab_H} {a0 : Nat} {a1 : Nat} {r : Int32} (hf : fX2_sumOf h a0 a1 = some r) (hK : K (some (.int r)) h) : ab_S l g mX2_sumOf 0 0 0 [.ref a0, .ref a1] h K := by
  unfold fX2_sumOf at hf
  refine ab_enter (ls := [(0, .ref a0), (1, .ref a1)]) (by decide +kernel) rfl (Nat.le_of_ble_eq_true rfl) rfl ?_
  refine ab_iconst (pc' := 1) (v := 0) dX2_sumOf_0 (by decide) rfl ?_
  refine ab_istore_n (pc' := 2) (ls' := [(2, .int 0), (0, .ref a0), (1, .ref a1)]) dX2_sumOf_1 rfl (by decide) rfl rfl ?_
  refine ab_iconst (pc' := 3) (v := 0) dX2_sumOf_2 (by decide) rfl ?_
  refine ab_istore_n (pc' := 4) (ls' := [(3, .int 0), (2, .int 0), (0, .ref a0), (1, .ref a1)]) dX2_sumOf_3 rfl (by decide) rfl rfl ?_
  refine ab_drop (ls' := [(0, .ref a0), (1, .ref a1), (2, .int 0), (3, .int 0)]) [2, 3, 1, 0] rfl ?_
  obtain ⟨q4, eq4, hf⟩ := ab_bd hf
  refine klX2_sumOf_4 ?_ ab_fu _ _ eq4
  refine ab_iload_n (pc' := 25) (q := 0) dX2_sumOf_24 rfl rfl rfl ?_
  have hf := Option.some.inj hf
  subst hf
  exact ab_iret rfl dX2_sumOf_25 hK
-- DiskRests$Gaps.costAwake()I (mode R, depth 1)
def fX2_costAwake (h : ab_H) (a0 : Nat) : Option Int32 := (ab_gR h a0 2 2).bind (fun r1 => (ab_ob h a0 2).bind (fun u2 => (fX2_sumOf h a0 r1).bind (fun x3 => some x3)))
set_option maxRecDepth 20000 in
set_option maxHeartbeats 1000000 in
theorem kX2_costAwake {l : Launch} {g : ab_G} {K : ab_K} {h : ab_H} {a0 : Nat} {r : Int32} (hf : fX2_costAwake h a0 = some r) (hK : K (some (.int r)) h) : ab_S l g mX2_costAwake 1 0 0 [.ref a0] h K := by
  unfold fX2_costAwake at hf
  refine ab_enter (ls := [(0, .ref a0)]) (by decide +kernel) rfl (Nat.le_of_ble_eq_true rfl) rfl ?_
  refine ab_aload_n (pc' := 1) (q := 0) dX2_costAwake_0 rfl rfl rfl ?_
  refine ab_aload_n (pc' := 2) (q := 0) dX2_costAwake_1 rfl rfl rfl ?_
  obtain ⟨r1, er1, hf⟩ := ab_bd hf
  refine ab_getR (pc' := 5) (ci := 2) (k := 2) dX2_costAwake_2 rfl (by decide) fl_X2_18 er1 rfl ?_
  obtain ⟨u2, eu2, hf⟩ := ab_bd hf
  obtain ⟨x3, ex3, hf⟩ := ab_bd hf
  refine ab_callV (pc' := 8) (Mc := mX2_sumOf) (as := [.ref r1]) (st := []) dX2_costAwake_5 ml_X2_69 okX2_sumOf im_X2_sumOf se_X2_sumOf rfl eu2 rfl (by decide) (Nat.le_of_ble_eq_true rfl) (Nat.le_of_ble_eq_true rfl) (Nat.le_of_ble_eq_true rfl) rfl rfl (kX2_sumOf ex3 ?_)
  show ab_Ev l g mX2_costAwake 1 0 0 8 [(0, .ref a0)] [.int x3] h 0 0 K
  have hf := Option.some.inj hf
  subst hf
  exact ab_iret rfl dX2_costAwake_8 hK
-- DiskRests$Gaps.savedByAll()I (mode R, depth 1)
def fX2_savedByAll (h : ab_H) (a0 : Nat) : Option Int32 := (ab_gR h a0 2 3).bind (fun r1 => (ab_ob h a0 2).bind (fun u2 => (fX2_sumOf h a0 r1).bind (fun x3 => some x3)))
set_option maxRecDepth 20000 in
set_option maxHeartbeats 1000000 in
theorem kX2_savedByAll {l : Launch} {g : ab_G} {K : ab_K} {h : ab_H} {a0 : Nat} {r : Int32} (hf : fX2_savedByAll h a0 = some r) (hK : K (some (.int r)) h) : ab_S l g mX2_savedByAll 1 0 0 [.ref a0] h K := by
  unfold fX2_savedByAll at hf
  refine ab_enter (ls := [(0, .ref a0)]) (by decide +kernel) rfl (Nat.le_of_ble_eq_true rfl) rfl ?_
  refine ab_aload_n (pc' := 1) (q := 0) dX2_savedByAll_0 rfl rfl rfl ?_
  refine ab_aload_n (pc' := 2) (q := 0) dX2_savedByAll_1 rfl rfl rfl ?_
  obtain ⟨r1, er1, hf⟩ := ab_bd hf
  refine ab_getR (pc' := 5) (ci := 2) (k := 3) dX2_savedByAll_2 rfl (by decide) fl_X2_21 er1 rfl ?_
  obtain ⟨u2, eu2, hf⟩ := ab_bd hf
  obtain ⟨x3, ex3, hf⟩ := ab_bd hf
  refine ab_callV (pc' := 8) (Mc := mX2_sumOf) (as := [.ref r1]) (st := []) dX2_savedByAll_5 ml_X2_69 okX2_sumOf im_X2_sumOf se_X2_sumOf rfl eu2 rfl (by decide) (Nat.le_of_ble_eq_true rfl) (Nat.le_of_ble_eq_true rfl) (Nat.le_of_ble_eq_true rfl) rfl rfl (kX2_sumOf ex3 ?_)
  show ab_Ev l g mX2_savedByAll 1 0 0 8 [(0, .ref a0)] [.int x3] h 0 0 K
  have hf := Option.some.inj hf
  subst hf
  exact ab_iret rfl dX2_savedByAll_8 hK
-- DiskRests$Gaps.worthSleeping()I (mode R, depth 0)
def bX2_worthSleeping_24 (rec : Int32 → Int32 → Option Int32) (v0 : Nat) (v1 : Int32) (v2 : Int32) (h : ab_H) : Option Int32 := rec v1 (v2 + 1)
set_option maxRecDepth 20000 in
set_option maxHeartbeats 1000000 in
theorem kbX2_worthSleeping_24 {l : Launch} {g : ab_G} {K : ab_K} {h : ab_H} {v0 : Nat} {v1 : Int32} {v2 : Int32} {q : Int32} {rec : Int32 → Int32 → Option Int32} (ih : ∀ (w1 : Int32) (w2 : Int32), rec w1 w2 = some q → ab_Ev l g mX2_worthSleeping 0 0 0 4 [(0, .ref v0), (1, .int w1), (2, .int w2)] [] h 0 0 K) (hx : ab_Ev l g mX2_worthSleeping 0 0 0 30 [(1, .int q)] [] h 0 0 K) (hf : bX2_worthSleeping_24 rec v0 v1 v2 h = some q) : ab_Ev l g mX2_worthSleeping 0 0 0 24 [(0, .ref v0), (1, .int v1), (2, .int v2)] [] h 0 0 K := by
  unfold bX2_worthSleeping_24 at hf
  refine ab_iinc (pc' := 27) (q := 2) (v := (v2 + 1)) (ls' := [(2, .int (v2 + 1)), (0, .ref v0), (1, .int v1)]) dX2_worthSleeping_24 rfl rfl (by decide) rfl rfl ?_
  refine ab_goto (tgt := 4) dX2_worthSleeping_27 (by decide) ?_
  refine ab_drop (ls' := [(0, .ref v0), (1, .int v1), (2, .int (v2 + 1))]) [1, 2, 0] rfl ?_
  exact ih _ _ hf
def lX2_worthSleeping_4 (h : ab_H) (v0 : Nat) : Nat → Int32 → Int32 → Option Int32
  | 0, _, _ => none
  | n + 1, v1, v2 => (ab_gI h v0 2 4).bind (fun x1 => if x1 ≤ (v2 : Int32) then some v1 else (ab_gR h v0 2 3).bind (fun r3 => (ab_aI h r3 v2).bind (fun x4 => if (x4 : Int32) ≤ 0 then bX2_worthSleeping_24 (lX2_worthSleeping_4 h v0 n) v0 v1 v2 h else bX2_worthSleeping_24 (lX2_worthSleeping_4 h v0 n) v0 (v1 + 1) v2 h)))
set_option maxRecDepth 20000 in
set_option maxHeartbeats 1000000 in
theorem klX2_worthSleeping_4 {l : Launch} {g : ab_G} {K : ab_K} {h : ab_H} {v0 : Nat} {q : Int32} (hx : ab_Ev l g mX2_worthSleeping 0 0 0 30 [(1, .int q)] [] h 0 0 K) : ∀ (n : Nat) (v1 : Int32) (v2 : Int32), lX2_worthSleeping_4 h v0 n v1 v2 = some q → ab_Ev l g mX2_worthSleeping 0 0 0 4 [(0, .ref v0), (1, .int v1), (2, .int v2)] [] h 0 0 K := by
  intro n
  induction n with
  | zero => intro v1 v2 hf; cases (show (none : Option Int32) = some q from hf)
  | succ n ih =>
    intro v1 v2 hf
    rw [lX2_worthSleeping_4] at hf
    refine ab_iload_n (pc' := 5) (q := 2) dX2_worthSleeping_4 rfl rfl rfl ?_
    refine ab_aload_n (pc' := 6) (q := 0) dX2_worthSleeping_5 rfl rfl rfl ?_
    obtain ⟨x1, ex1, hf⟩ := ab_bd hf
    refine ab_getI (pc' := 9) (ci := 2) (k := 4) dX2_worthSleeping_6 rfl (by decide) fl_X2_40 ex1 rfl ?_
    refine ab_icmp_ge (pc' := 12) (tgt := 30) dX2_worthSleeping_9 (by decide) rfl (fun c2 => ?_) (fun c2 => ?_)
    · have hf := ab_ip c2 hf
      have hf := Option.some.inj hf
      subst hf
      refine ab_drop (ls' := [(1, .int v1)]) [1] rfl ?_
      exact hx
    · have hf := ab_iN c2 hf
      refine ab_aload_n (pc' := 13) (q := 0) dX2_worthSleeping_12 rfl rfl rfl ?_
      obtain ⟨r3, er3, hf⟩ := ab_bd hf
      refine ab_getR (pc' := 16) (ci := 2) (k := 3) dX2_worthSleeping_13 rfl (by decide) fl_X2_21 er3 rfl ?_
      refine ab_iload_n (pc' := 17) (q := 2) dX2_worthSleeping_16 rfl rfl rfl ?_
      obtain ⟨x4, ex4, hf⟩ := ab_bd hf
      refine ab_iald (pc' := 18) dX2_worthSleeping_17 ex4 rfl ?_
      refine ab_if_le (pc' := 21) (tgt := 24) dX2_worthSleeping_18 (by decide) rfl (fun c5 => ?_) (fun c5 => ?_)
      · have hf := ab_ip c5 hf
        exact kbX2_worthSleeping_24 ih hx hf
      · have hf := ab_iN c5 hf
        refine ab_iinc (pc' := 24) (q := 1) (v := (v1 + 1)) (ls' := [(1, .int (v1 + 1)), (0, .ref v0), (2, .int v2)]) dX2_worthSleeping_21 rfl rfl (by decide) rfl rfl ?_
        refine ab_drop (ls' := [(0, .ref v0), (1, .int (v1 + 1)), (2, .int v2)]) [1, 0, 2] rfl ?_
        exact kbX2_worthSleeping_24 ih hx hf
def fX2_worthSleeping (h : ab_H) (a0 : Nat) : Option Int32 := (lX2_worthSleeping_4 h a0 ab_fu 0 0).bind (fun q6 => some q6)
set_option maxRecDepth 20000 in
set_option maxHeartbeats 1000000 in
theorem kX2_worthSleeping {l : Launch} {g : ab_G} {K : ab_K} {h : ab_H} {a0 : Nat} {r : Int32} (hf : fX2_worthSleeping h a0 = some r) (hK : K (some (.int r)) h) : ab_S l g mX2_worthSleeping 0 0 0 [.ref a0] h K := by
  unfold fX2_worthSleeping at hf
  refine ab_enter (ls := [(0, .ref a0)]) (by decide +kernel) rfl (Nat.le_of_ble_eq_true rfl) rfl ?_
  refine ab_iconst (pc' := 1) (v := 0) dX2_worthSleeping_0 (by decide) rfl ?_
  refine ab_istore_n (pc' := 2) (ls' := [(1, .int 0), (0, .ref a0)]) dX2_worthSleeping_1 rfl (by decide) rfl rfl ?_
  refine ab_iconst (pc' := 3) (v := 0) dX2_worthSleeping_2 (by decide) rfl ?_
  refine ab_istore_n (pc' := 4) (ls' := [(2, .int 0), (1, .int 0), (0, .ref a0)]) dX2_worthSleeping_3 rfl (by decide) rfl rfl ?_
  refine ab_drop (ls' := [(0, .ref a0), (1, .int 0), (2, .int 0)]) [2, 1, 0] rfl ?_
  obtain ⟨q6, eq6, hf⟩ := ab_bd hf
  refine klX2_worthSleeping_4 ?_ ab_fu _ _ eq6
  refine ab_iload_n (pc' := 31) (q := 0) dX2_worthSleeping_30 rfl rfl rfl ?_
  have hf := Option.some.inj hf
  subst hf
  exact ab_iret rfl dX2_worthSleeping_31 hK
-- DiskRests.least(II)I (mode W, depth 4)
def fX6_least (h : ab_H) (a0 : Nat) (a1 : Int32) (a2 : Int32) : Option (Int32 × ab_H) := (fX6_isDisk a1).bind (fun x1 => if (x1 : Int32) = 0 then some ((-1), h) else (fX6_within a2 0 2).bind (fun x3 => if (x3 : Int32) = 0 then some ((-2), h) else (ab_gR h a0 6 4).bind (fun r5 => (ab_gR h a0 6 0).bind (fun r6 => (ab_ob h r5 2).bind (fun u7 => (fX2_find h r5 r6 a1).bind (fun h8 => if (a2 : Int32) = 0 then (ab_gR h8 a0 6 4).bind (fun r10 => (ab_ob h8 r10 2).bind (fun u11 => (fX2_costAwake h8 r10).bind (fun x12 => (ab_gR h8 a0 6 4).bind (fun r13 => (ab_ob h8 r13 2).bind (fun u14 => (fX2_savedByAll h8 r13).bind (fun x15 => some ((x12 - x15), h8))))))) else if (a2 : Int32) = 1 then (ab_gR h8 a0 6 4).bind (fun r17 => (ab_gI h8 r17 2 4).bind (fun x18 => some (x18, h8))) else (ab_gR h8 a0 6 4).bind (fun r19 => (ab_ob h8 r19 2).bind (fun u20 => (fX2_worthSleeping h8 r19).bind (fun x21 => some (x21, h8))))))))))
set_option maxRecDepth 20000 in
set_option maxHeartbeats 1000000 in
theorem kX6_least {l : Launch} {g : ab_G} {K : ab_K} {h : ab_H} {a0 : Nat} {a1 : Int32} {a2 : Int32} {r : (Int32 × ab_H)} (hf : fX6_least h a0 a1 a2 = some r) (hK : K (some (.int r.1)) r.2) : ab_S l g mX6_least 4 0 0 [.ref a0, .int a1, .int a2] h K := by
  unfold fX6_least at hf
  refine ab_enter (ls := [(0, .ref a0), (1, .int a1), (2, .int a2)]) (by decide +kernel) rfl (Nat.le_of_ble_eq_true rfl) rfl ?_
  refine ab_iload_n (pc' := 1) (q := 1) dX6_least_0 rfl rfl rfl ?_
  obtain ⟨x1, ex1, hf⟩ := ab_bd hf
  refine ab_callS (pc' := 4) (Mc := mX6_isDisk) (as := [.int a1]) (st := []) dX6_least_1 ml_X6_38 okX6_isDisk ss_X6_isDisk rfl (by decide) (Nat.le_of_ble_eq_true rfl) (Nat.le_of_ble_eq_true rfl) (Nat.le_of_ble_eq_true rfl) rfl rfl (kX6_isDisk ex1 ?_)
  show ab_Ev l g mX6_least 4 0 0 4 [(0, .ref a0), (1, .int a1), (2, .int a2)] [.int x1] h 0 0 K
  refine ab_if_ne (pc' := 7) (tgt := 9) dX6_least_4 (by decide) rfl (fun c2 => ?_) (fun c2 => ?_)
  · have hf := ab_iN c2 hf
    refine ab_iload_n (pc' := 10) (q := 2) dX6_least_9 rfl rfl rfl ?_
    refine ab_iconst (pc' := 11) (v := 0) dX6_least_10 (by decide) rfl ?_
    refine ab_iconst (pc' := 12) (v := 2) dX6_least_11 (by decide) rfl ?_
    obtain ⟨x3, ex3, hf⟩ := ab_bd hf
    refine ab_callS (pc' := 15) (Mc := mX6_within) (as := [.int a2, .int 0, .int 2]) (st := []) dX6_least_12 ml_X6_42 okX6_within ss_X6_within rfl (by decide) (Nat.le_of_ble_eq_true rfl) (Nat.le_of_ble_eq_true rfl) (Nat.le_of_ble_eq_true rfl) rfl rfl (kX6_within ex3 ?_)
    show ab_Ev l g mX6_least 4 0 0 15 [(0, .ref a0), (1, .int a1), (2, .int a2)] [.int x3] h 0 0 K
    refine ab_if_ne (pc' := 18) (tgt := 21) dX6_least_15 (by decide) rfl (fun c4 => ?_) (fun c4 => ?_)
    · have hf := ab_iN c4 hf
      refine ab_aload_n (pc' := 22) (q := 0) dX6_least_21 rfl rfl rfl ?_
      obtain ⟨r5, er5, hf⟩ := ab_bd hf
      refine ab_getR (pc' := 25) (ci := 6) (k := 4) dX6_least_22 rfl (by decide) fl_X6_34 er5 rfl ?_
      refine ab_aload_n (pc' := 26) (q := 0) dX6_least_25 rfl rfl rfl ?_
      obtain ⟨r6, er6, hf⟩ := ab_bd hf
      refine ab_getR (pc' := 29) (ci := 6) (k := 0) dX6_least_26 rfl (by decide) fl_X6_10 er6 rfl ?_
      refine ab_iload_n (pc' := 30) (q := 1) dX6_least_29 rfl rfl rfl ?_
      obtain ⟨u7, eu7, hf⟩ := ab_bd hf
      obtain ⟨h8, eh8, hf⟩ := ab_bd hf
      refine ab_callV (pc' := 33) (Mc := mX2_find) (as := [.ref r6, .int a1]) (st := []) dX6_least_30 ml_X6_169 okX2_find im_X2_find se_X2_find rfl eu7 rfl (by decide) (Nat.le_of_ble_eq_true rfl) (Nat.le_of_ble_eq_true rfl) (Nat.le_of_ble_eq_true rfl) rfl rfl (kX2_find eh8 ?_)
      show ab_Ev l g mX6_least 4 0 0 33 [(0, .ref a0), (1, .int a1), (2, .int a2)] [] h8 0 0 K
      refine ab_iload_n (pc' := 34) (q := 2) dX6_least_33 rfl rfl rfl ?_
      by_cases c9 : (a2 : Int32) = 0
      · have hf := ab_ip c9 hf
        refine ab_lookC (tgt := 60) dX6_least_34 c9 (by decide) rfl (by decide) ?_
        refine ab_aload_n (pc' := 61) (q := 0) dX6_least_60 rfl rfl rfl ?_
        obtain ⟨r10, er10, hf⟩ := ab_bd hf
        refine ab_getR (pc' := 64) (ci := 6) (k := 4) dX6_least_61 rfl (by decide) fl_X6_34 er10 rfl ?_
        obtain ⟨u11, eu11, hf⟩ := ab_bd hf
        obtain ⟨x12, ex12, hf⟩ := ab_bd hf
        refine ab_callV (pc' := 67) (Mc := mX2_costAwake) (as := []) (st := []) dX6_least_64 ml_X6_172 okX2_costAwake im_X2_costAwake se_X2_costAwake rfl eu11 rfl (by decide) (Nat.le_of_ble_eq_true rfl) (Nat.le_of_ble_eq_true rfl) (Nat.le_of_ble_eq_true rfl) rfl rfl (kX2_costAwake ex12 ?_)
        show ab_Ev l g mX6_least 4 0 0 67 [(0, .ref a0), (1, .int a1), (2, .int a2)] [.int x12] h8 0 0 K
        refine ab_aload_n (pc' := 68) (q := 0) dX6_least_67 rfl rfl rfl ?_
        obtain ⟨r13, er13, hf⟩ := ab_bd hf
        refine ab_getR (pc' := 71) (ci := 6) (k := 4) dX6_least_68 rfl (by decide) fl_X6_34 er13 rfl ?_
        obtain ⟨u14, eu14, hf⟩ := ab_bd hf
        obtain ⟨x15, ex15, hf⟩ := ab_bd hf
        refine ab_callV (pc' := 74) (Mc := mX2_savedByAll) (as := []) (st := [.int x12]) dX6_least_71 ml_X6_176 okX2_savedByAll im_X2_savedByAll se_X2_savedByAll rfl eu14 rfl (by decide) (Nat.le_of_ble_eq_true rfl) (Nat.le_of_ble_eq_true rfl) (Nat.le_of_ble_eq_true rfl) rfl rfl (kX2_savedByAll ex15 ?_)
        show ab_Ev l g mX6_least 4 0 0 74 [(0, .ref a0), (1, .int a1), (2, .int a2)] [.int x15, .int x12] h8 0 0 K
        refine ab_isub (pc' := 75) dX6_least_74 rfl ?_
        have hf := Option.some.inj hf
        subst hf
        exact ab_iret rfl dX6_least_75 hK
      have hf := ab_iN c9 hf
      by_cases c16 : (a2 : Int32) = 1
      · have hf := ab_ip c16 hf
        refine ab_lookC (tgt := 76) dX6_least_34 c16 (by decide) rfl (by decide) ?_
        refine ab_aload_n (pc' := 77) (q := 0) dX6_least_76 rfl rfl rfl ?_
        obtain ⟨r17, er17, hf⟩ := ab_bd hf
        refine ab_getR (pc' := 80) (ci := 6) (k := 4) dX6_least_77 rfl (by decide) fl_X6_34 er17 rfl ?_
        obtain ⟨x18, ex18, hf⟩ := ab_bd hf
        refine ab_getI (pc' := 83) (ci := 2) (k := 4) dX6_least_80 rfl (by decide) fl_X6_179 ex18 rfl ?_
        have hf := Option.some.inj hf
        subst hf
        exact ab_iret rfl dX6_least_83 hK
      have hf := ab_iN c16 hf
      refine ab_look2 (tgt := 84) dX6_least_34 (ab_ne (by decide) c9) (ab_ne (by decide) c16) (by decide) (by decide) ?_
      refine ab_aload_n (pc' := 85) (q := 0) dX6_least_84 rfl rfl rfl ?_
      obtain ⟨r19, er19, hf⟩ := ab_bd hf
      refine ab_getR (pc' := 88) (ci := 6) (k := 4) dX6_least_85 rfl (by decide) fl_X6_34 er19 rfl ?_
      obtain ⟨u20, eu20, hf⟩ := ab_bd hf
      obtain ⟨x21, ex21, hf⟩ := ab_bd hf
      refine ab_callV (pc' := 91) (Mc := mX2_worthSleeping) (as := []) (st := []) dX6_least_88 ml_X6_180 okX2_worthSleeping im_X2_worthSleeping se_X2_worthSleeping rfl eu20 rfl (by decide) (Nat.le_of_ble_eq_true rfl) (Nat.le_of_ble_eq_true rfl) (Nat.le_of_ble_eq_true rfl) rfl rfl (kX2_worthSleeping ex21 ?_)
      show ab_Ev l g mX6_least 4 0 0 91 [(0, .ref a0), (1, .int a1), (2, .int a2)] [.int x21] h8 0 0 K
      have hf := Option.some.inj hf
      subst hf
      exact ab_iret rfl dX6_least_91 hK
    · have hf := ab_ip c4 hf
      refine ab_bipush (pc' := 20) (v := (-2)) dX6_least_18 (by decide) rfl ?_
      have hf := Option.some.inj hf
      subst hf
      exact ab_iret rfl dX6_least_20 hK
  · have hf := ab_ip c2 hf
    refine ab_iconst (pc' := 8) (v := (-1)) dX6_least_7 (by decide) rfl ?_
    have hf := Option.some.inj hf
    subst hf
    exact ab_iret rfl dX6_least_8 hK
-- DiskRests$Gaps.betterOfSameDay(II)I (mode R, depth 0)
def bX2_betterOfSameDay_89 (rec : Int32 → Int32 → Option Int32) (v0 : Nat) (v1 : Int32) (v2 : Int32) (v3 : Int32) (v4 : Int32) (h : ab_H) : Option Int32 := rec v3 (v4 + 1)
set_option maxRecDepth 20000 in
set_option maxHeartbeats 1000000 in
theorem kbX2_betterOfSameDay_89 {l : Launch} {g : ab_G} {K : ab_K} {h : ab_H} {v0 : Nat} {v1 : Int32} {v2 : Int32} {v3 : Int32} {v4 : Int32} {q : Int32} {rec : Int32 → Int32 → Option Int32} (ih : ∀ (w3 : Int32) (w4 : Int32), rec w3 w4 = some q → ab_Ev l g mX2_betterOfSameDay 0 0 0 5 [(0, .ref v0), (1, .int v1), (2, .int v2), (3, .int w3), (4, .int w4)] [] h 0 0 K) (hx : ab_Ev l g mX2_betterOfSameDay 0 0 0 95 [(3, .int q)] [] h 0 0 K) (hf : bX2_betterOfSameDay_89 rec v0 v1 v2 v3 v4 h = some q) : ab_Ev l g mX2_betterOfSameDay 0 0 0 89 [(0, .ref v0), (1, .int v1), (2, .int v2), (3, .int v3), (4, .int v4)] [] h 0 0 K := by
  unfold bX2_betterOfSameDay_89 at hf
  refine ab_iinc (pc' := 92) (q := 4) (v := (v4 + 1)) (ls' := [(4, .int (v4 + 1)), (0, .ref v0), (1, .int v1), (2, .int v2), (3, .int v3)]) dX2_betterOfSameDay_89 rfl rfl (by decide) rfl rfl ?_
  refine ab_goto (tgt := 5) dX2_betterOfSameDay_92 (by decide) ?_
  refine ab_drop (ls' := [(0, .ref v0), (1, .int v1), (2, .int v2), (3, .int v3), (4, .int (v4 + 1))]) [1, 2, 3, 4, 0] rfl ?_
  exact ih _ _ hf
def bX2_betterOfSameDay_59 (rec : Int32 → Int32 → Option Int32) (v0 : Nat) (v1 : Int32) (v2 : Int32) (v3 : Int32) (v4 : Int32) (s0 : Int32) (h : ab_H) : Option Int32 := if (s0 : Int32) = 0 then bX2_betterOfSameDay_89 rec v0 v1 v2 v3 v4 h else (ab_gR h v0 2 1).bind (fun r9 => (ab_aI h r9 v4).bind (fun x10 => if (v2 : Int32) = 0 then none else (ab_gR h v0 2 1).bind (fun r12 => (ab_aI h r12 v1).bind (fun x13 => if (v2 : Int32) = 0 then none else if ((x10 / v2) : Int32) = (x13 / v2) then bX2_betterOfSameDay_89 rec v0 v1 v2 (v3 + 1) v4 h else bX2_betterOfSameDay_89 rec v0 v1 v2 v3 v4 h))))
set_option maxRecDepth 20000 in
set_option maxHeartbeats 1000000 in
theorem kbX2_betterOfSameDay_59 {l : Launch} {g : ab_G} {K : ab_K} {h : ab_H} {s0 : Int32} {v0 : Nat} {v1 : Int32} {v2 : Int32} {v3 : Int32} {v4 : Int32} {q : Int32} {rec : Int32 → Int32 → Option Int32} (ih : ∀ (w3 : Int32) (w4 : Int32), rec w3 w4 = some q → ab_Ev l g mX2_betterOfSameDay 0 0 0 5 [(0, .ref v0), (1, .int v1), (2, .int v2), (3, .int w3), (4, .int w4)] [] h 0 0 K) (hx : ab_Ev l g mX2_betterOfSameDay 0 0 0 95 [(3, .int q)] [] h 0 0 K) (hf : bX2_betterOfSameDay_59 rec v0 v1 v2 v3 v4 s0 h = some q) : ab_Ev l g mX2_betterOfSameDay 0 0 0 59 [(0, .ref v0), (1, .int v1), (2, .int v2), (3, .int v3), (4, .int v4)] [.int s0] h 0 0 K := by
  unfold bX2_betterOfSameDay_59 at hf
  refine ab_istore (pc' := 61) (ls' := [(5, .int s0), (0, .ref v0), (1, .int v1), (2, .int v2), (3, .int v3), (4, .int v4)]) dX2_betterOfSameDay_59 (by decide) rfl rfl ?_
  refine ab_iload (pc' := 63) (q := 0) dX2_betterOfSameDay_61 rfl rfl ?_
  refine ab_if_eq (pc' := 66) (tgt := 89) dX2_betterOfSameDay_63 (by decide) rfl (fun c8 => ?_) (fun c8 => ?_)
  · have hf := ab_ip c8 hf
    refine ab_drop (ls' := [(0, .ref v0), (1, .int v1), (2, .int v2), (3, .int v3), (4, .int v4)]) [1, 2, 3, 4, 5] rfl ?_
    exact kbX2_betterOfSameDay_89 ih hx hf
  · have hf := ab_iN c8 hf
    refine ab_aload_n (pc' := 67) (q := 1) dX2_betterOfSameDay_66 rfl rfl rfl ?_
    obtain ⟨r9, er9, hf⟩ := ab_bd hf
    refine ab_getR (pc' := 70) (ci := 2) (k := 1) dX2_betterOfSameDay_67 rfl (by decide) fl_X2_15 er9 rfl ?_
    refine ab_iload (pc' := 72) (q := 5) dX2_betterOfSameDay_70 rfl rfl ?_
    obtain ⟨x10, ex10, hf⟩ := ab_bd hf
    refine ab_iald (pc' := 73) dX2_betterOfSameDay_72 ex10 rfl ?_
    refine ab_iload_n (pc' := 74) (q := 3) dX2_betterOfSameDay_73 rfl rfl rfl ?_
    obtain ⟨n11, hf⟩ := ab_nz hf
    refine ab_idiv (pc' := 75) dX2_betterOfSameDay_74 n11 rfl ?_
    refine ab_aload_n (pc' := 76) (q := 1) dX2_betterOfSameDay_75 rfl rfl rfl ?_
    obtain ⟨r12, er12, hf⟩ := ab_bd hf
    refine ab_getR (pc' := 79) (ci := 2) (k := 1) dX2_betterOfSameDay_76 rfl (by decide) fl_X2_15 er12 rfl ?_
    refine ab_iload_n (pc' := 80) (q := 2) dX2_betterOfSameDay_79 rfl rfl rfl ?_
    obtain ⟨x13, ex13, hf⟩ := ab_bd hf
    refine ab_iald (pc' := 81) dX2_betterOfSameDay_80 ex13 rfl ?_
    refine ab_iload_n (pc' := 82) (q := 3) dX2_betterOfSameDay_81 rfl rfl rfl ?_
    obtain ⟨n14, hf⟩ := ab_nz hf
    refine ab_idiv (pc' := 83) dX2_betterOfSameDay_82 n14 rfl ?_
    refine ab_icmp_ne (pc' := 86) (tgt := 89) dX2_betterOfSameDay_83 (by decide) rfl (fun c15 => ?_) (fun c15 => ?_)
    · have hf := ab_iN c15 hf
      refine ab_drop (ls' := [(0, .ref v0), (1, .int v1), (2, .int v2), (3, .int v3), (4, .int v4)]) [1, 2, 3, 4, 5] rfl ?_
      exact kbX2_betterOfSameDay_89 ih hx hf
    · have hf := ab_ip c15 hf
      refine ab_iinc (pc' := 89) (q := 4) (v := (v3 + 1)) (ls' := [(3, .int (v3 + 1)), (5, .int s0), (0, .ref v0), (1, .int v1), (2, .int v2), (4, .int v4)]) dX2_betterOfSameDay_86 rfl rfl (by decide) rfl rfl ?_
      refine ab_drop (ls' := [(0, .ref v0), (1, .int v1), (2, .int v2), (3, .int (v3 + 1)), (4, .int v4)]) [2, 3, 4, 0, 5] rfl ?_
      exact kbX2_betterOfSameDay_89 ih hx hf
def bX2_betterOfSameDay_54 (rec : Int32 → Int32 → Option Int32) (v0 : Nat) (v1 : Int32) (v2 : Int32) (v3 : Int32) (v4 : Int32) (h : ab_H) : Option Int32 := bX2_betterOfSameDay_59 rec v0 v1 v2 v3 v4 1 h
set_option maxRecDepth 20000 in
set_option maxHeartbeats 1000000 in
theorem kbX2_betterOfSameDay_54 {l : Launch} {g : ab_G} {K : ab_K} {h : ab_H} {v0 : Nat} {v1 : Int32} {v2 : Int32} {v3 : Int32} {v4 : Int32} {q : Int32} {rec : Int32 → Int32 → Option Int32} (ih : ∀ (w3 : Int32) (w4 : Int32), rec w3 w4 = some q → ab_Ev l g mX2_betterOfSameDay 0 0 0 5 [(0, .ref v0), (1, .int v1), (2, .int v2), (3, .int w3), (4, .int w4)] [] h 0 0 K) (hx : ab_Ev l g mX2_betterOfSameDay 0 0 0 95 [(3, .int q)] [] h 0 0 K) (hf : bX2_betterOfSameDay_54 rec v0 v1 v2 v3 v4 h = some q) : ab_Ev l g mX2_betterOfSameDay 0 0 0 54 [(0, .ref v0), (1, .int v1), (2, .int v2), (3, .int v3), (4, .int v4)] [] h 0 0 K := by
  unfold bX2_betterOfSameDay_54 at hf
  refine ab_iconst (pc' := 55) (v := 1) dX2_betterOfSameDay_54 (by decide) rfl ?_
  refine ab_goto (tgt := 59) dX2_betterOfSameDay_55 (by decide) ?_
  exact kbX2_betterOfSameDay_59 ih hx hf
def bX2_betterOfSameDay_58 (rec : Int32 → Int32 → Option Int32) (v0 : Nat) (v1 : Int32) (v2 : Int32) (v3 : Int32) (v4 : Int32) (h : ab_H) : Option Int32 := bX2_betterOfSameDay_59 rec v0 v1 v2 v3 v4 0 h
set_option maxRecDepth 20000 in
set_option maxHeartbeats 1000000 in
theorem kbX2_betterOfSameDay_58 {l : Launch} {g : ab_G} {K : ab_K} {h : ab_H} {v0 : Nat} {v1 : Int32} {v2 : Int32} {v3 : Int32} {v4 : Int32} {q : Int32} {rec : Int32 → Int32 → Option Int32} (ih : ∀ (w3 : Int32) (w4 : Int32), rec w3 w4 = some q → ab_Ev l g mX2_betterOfSameDay 0 0 0 5 [(0, .ref v0), (1, .int v1), (2, .int v2), (3, .int w3), (4, .int w4)] [] h 0 0 K) (hx : ab_Ev l g mX2_betterOfSameDay 0 0 0 95 [(3, .int q)] [] h 0 0 K) (hf : bX2_betterOfSameDay_58 rec v0 v1 v2 v3 v4 h = some q) : ab_Ev l g mX2_betterOfSameDay 0 0 0 58 [(0, .ref v0), (1, .int v1), (2, .int v2), (3, .int v3), (4, .int v4)] [] h 0 0 K := by
  unfold bX2_betterOfSameDay_58 at hf
  refine ab_iconst (pc' := 59) (v := 0) dX2_betterOfSameDay_58 (by decide) rfl ?_
  exact kbX2_betterOfSameDay_59 ih hx hf
def lX2_betterOfSameDay_5 (h : ab_H) (v0 : Nat) (v1 : Int32) (v2 : Int32) : Nat → Int32 → Int32 → Option Int32
  | 0, _, _ => none
  | n + 1, v3, v4 => (ab_gI h v0 2 4).bind (fun x1 => if (x1 - 1) ≤ (v4 : Int32) then some v3 else (ab_gR h v0 2 3).bind (fun r3 => (ab_aI h r3 v4).bind (fun x4 => (ab_gR h v0 2 3).bind (fun r5 => (ab_aI h r5 v1).bind (fun x6 => if x6 < (x4 : Int32) then bX2_betterOfSameDay_54 (lX2_betterOfSameDay_5 h v0 v1 v2 n) v0 v1 v2 v3 v4 h else (ab_gR h v0 2 3).bind (fun r16 => (ab_aI h r16 v4).bind (fun x17 => (ab_gR h v0 2 3).bind (fun r18 => (ab_aI h r18 v1).bind (fun x19 => if (x17 : Int32) = x19 then if v1 ≤ (v4 : Int32) then bX2_betterOfSameDay_58 (lX2_betterOfSameDay_5 h v0 v1 v2 n) v0 v1 v2 v3 v4 h else bX2_betterOfSameDay_54 (lX2_betterOfSameDay_5 h v0 v1 v2 n) v0 v1 v2 v3 v4 h else bX2_betterOfSameDay_58 (lX2_betterOfSameDay_5 h v0 v1 v2 n) v0 v1 v2 v3 v4 h)))))))))
set_option maxRecDepth 20000 in
set_option maxHeartbeats 1000000 in
theorem klX2_betterOfSameDay_5 {l : Launch} {g : ab_G} {K : ab_K} {h : ab_H} {v0 : Nat} {v1 : Int32} {v2 : Int32} {q : Int32} (hx : ab_Ev l g mX2_betterOfSameDay 0 0 0 95 [(3, .int q)] [] h 0 0 K) : ∀ (n : Nat) (v3 : Int32) (v4 : Int32), lX2_betterOfSameDay_5 h v0 v1 v2 n v3 v4 = some q → ab_Ev l g mX2_betterOfSameDay 0 0 0 5 [(0, .ref v0), (1, .int v1), (2, .int v2), (3, .int v3), (4, .int v4)] [] h 0 0 K := by
  intro n
  induction n with
  | zero => intro v3 v4 hf; cases (show (none : Option Int32) = some q from hf)
  | succ n ih =>
    intro v3 v4 hf
    rw [lX2_betterOfSameDay_5] at hf
    refine ab_iload (pc' := 7) (q := 4) dX2_betterOfSameDay_5 rfl rfl ?_
    refine ab_aload_n (pc' := 8) (q := 0) dX2_betterOfSameDay_7 rfl rfl rfl ?_
    obtain ⟨x1, ex1, hf⟩ := ab_bd hf
    refine ab_getI (pc' := 11) (ci := 2) (k := 4) dX2_betterOfSameDay_8 rfl (by decide) fl_X2_40 ex1 rfl ?_
    refine ab_iconst (pc' := 12) (v := 1) dX2_betterOfSameDay_11 (by decide) rfl ?_
    refine ab_isub (pc' := 13) dX2_betterOfSameDay_12 rfl ?_
    refine ab_icmp_ge (pc' := 16) (tgt := 95) dX2_betterOfSameDay_13 (by decide) rfl (fun c2 => ?_) (fun c2 => ?_)
    · have hf := ab_ip c2 hf
      have hf := Option.some.inj hf
      subst hf
      refine ab_drop (ls' := [(3, .int v3)]) [3] rfl ?_
      exact hx
    · have hf := ab_iN c2 hf
      refine ab_aload_n (pc' := 17) (q := 0) dX2_betterOfSameDay_16 rfl rfl rfl ?_
      obtain ⟨r3, er3, hf⟩ := ab_bd hf
      refine ab_getR (pc' := 20) (ci := 2) (k := 3) dX2_betterOfSameDay_17 rfl (by decide) fl_X2_21 er3 rfl ?_
      refine ab_iload (pc' := 22) (q := 4) dX2_betterOfSameDay_20 rfl rfl ?_
      obtain ⟨x4, ex4, hf⟩ := ab_bd hf
      refine ab_iald (pc' := 23) dX2_betterOfSameDay_22 ex4 rfl ?_
      refine ab_aload_n (pc' := 24) (q := 0) dX2_betterOfSameDay_23 rfl rfl rfl ?_
      obtain ⟨r5, er5, hf⟩ := ab_bd hf
      refine ab_getR (pc' := 27) (ci := 2) (k := 3) dX2_betterOfSameDay_24 rfl (by decide) fl_X2_21 er5 rfl ?_
      refine ab_iload_n (pc' := 28) (q := 1) dX2_betterOfSameDay_27 rfl rfl rfl ?_
      obtain ⟨x6, ex6, hf⟩ := ab_bd hf
      refine ab_iald (pc' := 29) dX2_betterOfSameDay_28 ex6 rfl ?_
      refine ab_icmp_gt (pc' := 32) (tgt := 54) dX2_betterOfSameDay_29 (by decide) rfl (fun c7 => ?_) (fun c7 => ?_)
      · have hf := ab_ip c7 hf
        exact kbX2_betterOfSameDay_54 ih hx hf
      · have hf := ab_iN c7 hf
        refine ab_aload_n (pc' := 33) (q := 0) dX2_betterOfSameDay_32 rfl rfl rfl ?_
        obtain ⟨r16, er16, hf⟩ := ab_bd hf
        refine ab_getR (pc' := 36) (ci := 2) (k := 3) dX2_betterOfSameDay_33 rfl (by decide) fl_X2_21 er16 rfl ?_
        refine ab_iload (pc' := 38) (q := 4) dX2_betterOfSameDay_36 rfl rfl ?_
        obtain ⟨x17, ex17, hf⟩ := ab_bd hf
        refine ab_iald (pc' := 39) dX2_betterOfSameDay_38 ex17 rfl ?_
        refine ab_aload_n (pc' := 40) (q := 0) dX2_betterOfSameDay_39 rfl rfl rfl ?_
        obtain ⟨r18, er18, hf⟩ := ab_bd hf
        refine ab_getR (pc' := 43) (ci := 2) (k := 3) dX2_betterOfSameDay_40 rfl (by decide) fl_X2_21 er18 rfl ?_
        refine ab_iload_n (pc' := 44) (q := 1) dX2_betterOfSameDay_43 rfl rfl rfl ?_
        obtain ⟨x19, ex19, hf⟩ := ab_bd hf
        refine ab_iald (pc' := 45) dX2_betterOfSameDay_44 ex19 rfl ?_
        refine ab_icmp_ne (pc' := 48) (tgt := 58) dX2_betterOfSameDay_45 (by decide) rfl (fun c20 => ?_) (fun c20 => ?_)
        · have hf := ab_iN c20 hf
          exact kbX2_betterOfSameDay_58 ih hx hf
        · have hf := ab_ip c20 hf
          refine ab_iload (pc' := 50) (q := 4) dX2_betterOfSameDay_48 rfl rfl ?_
          refine ab_iload_n (pc' := 51) (q := 1) dX2_betterOfSameDay_50 rfl rfl rfl ?_
          refine ab_icmp_ge (pc' := 54) (tgt := 58) dX2_betterOfSameDay_51 (by decide) rfl (fun c21 => ?_) (fun c21 => ?_)
          · have hf := ab_ip c21 hf
            exact kbX2_betterOfSameDay_58 ih hx hf
          · have hf := ab_iN c21 hf
            exact kbX2_betterOfSameDay_54 ih hx hf
def fX2_betterOfSameDay (h : ab_H) (a0 : Nat) (a1 : Int32) (a2 : Int32) : Option Int32 := (lX2_betterOfSameDay_5 h a0 a1 a2 ab_fu 0 0).bind (fun q22 => some q22)
set_option maxRecDepth 20000 in
set_option maxHeartbeats 1000000 in
theorem kX2_betterOfSameDay {l : Launch} {g : ab_G} {K : ab_K} {h : ab_H} {a0 : Nat} {a1 : Int32} {a2 : Int32} {r : Int32} (hf : fX2_betterOfSameDay h a0 a1 a2 = some r) (hK : K (some (.int r)) h) : ab_S l g mX2_betterOfSameDay 0 0 0 [.ref a0, .int a1, .int a2] h K := by
  unfold fX2_betterOfSameDay at hf
  refine ab_enter (ls := [(0, .ref a0), (1, .int a1), (2, .int a2)]) (by decide +kernel) rfl (Nat.le_of_ble_eq_true rfl) rfl ?_
  refine ab_iconst (pc' := 1) (v := 0) dX2_betterOfSameDay_0 (by decide) rfl ?_
  refine ab_istore_n (pc' := 2) (ls' := [(3, .int 0), (0, .ref a0), (1, .int a1), (2, .int a2)]) dX2_betterOfSameDay_1 rfl (by decide) rfl rfl ?_
  refine ab_iconst (pc' := 3) (v := 0) dX2_betterOfSameDay_2 (by decide) rfl ?_
  refine ab_istore (pc' := 5) (ls' := [(4, .int 0), (3, .int 0), (0, .ref a0), (1, .int a1), (2, .int a2)]) dX2_betterOfSameDay_3 (by decide) rfl rfl ?_
  refine ab_drop (ls' := [(0, .ref a0), (1, .int a1), (2, .int a2), (3, .int 0), (4, .int 0)]) [2, 3, 4, 1, 0] rfl ?_
  obtain ⟨q22, eq22, hf⟩ := ab_bd hf
  refine klX2_betterOfSameDay_5 ?_ ab_fu _ _ eq22
  refine ab_iload_n (pc' := 96) (q := 0) dX2_betterOfSameDay_95 rfl rfl rfl ?_
  have hf := Option.some.inj hf
  subst hf
  exact ab_iret rfl dX2_betterOfSameDay_96 hK
-- DiskRests$Gaps.savedByFew(II)I (mode R, depth 1)
def bX2_savedByFew_50 (rec : Int32 → Int32 → Option Int32) (v0 : Nat) (v1 : Int32) (v2 : Int32) (v3 : Int32) (v4 : Int32) (h : ab_H) : Option Int32 := rec v3 (v4 + 1)
set_option maxRecDepth 20000 in
set_option maxHeartbeats 1000000 in
theorem kbX2_savedByFew_50 {l : Launch} {g : ab_G} {K : ab_K} {h : ab_H} {v0 : Nat} {v1 : Int32} {v2 : Int32} {v3 : Int32} {v4 : Int32} {q : Int32} {rec : Int32 → Int32 → Option Int32} (ih : ∀ (w3 : Int32) (w4 : Int32), rec w3 w4 = some q → ab_Ev l g mX2_savedByFew 1 0 0 5 [(0, .ref v0), (1, .int v1), (2, .int v2), (3, .int w3), (4, .int w4)] [] h 0 0 K) (hx : ab_Ev l g mX2_savedByFew 1 0 0 56 [(3, .int q)] [] h 0 0 K) (hf : bX2_savedByFew_50 rec v0 v1 v2 v3 v4 h = some q) : ab_Ev l g mX2_savedByFew 1 0 0 50 [(0, .ref v0), (1, .int v1), (2, .int v2), (3, .int v3), (4, .int v4)] [] h 0 0 K := by
  unfold bX2_savedByFew_50 at hf
  refine ab_iinc (pc' := 53) (q := 4) (v := (v4 + 1)) (ls' := [(4, .int (v4 + 1)), (0, .ref v0), (1, .int v1), (2, .int v2), (3, .int v3)]) dX2_savedByFew_50 rfl rfl (by decide) rfl rfl ?_
  refine ab_goto (tgt := 5) dX2_savedByFew_53 (by decide) ?_
  refine ab_drop (ls' := [(0, .ref v0), (1, .int v1), (2, .int v2), (3, .int v3), (4, .int (v4 + 1))]) [1, 2, 3, 4, 0] rfl ?_
  exact ih _ _ hf
def bX2_savedByFew_40 (rec : Int32 → Int32 → Option Int32) (v0 : Nat) (v1 : Int32) (v2 : Int32) (v3 : Int32) (v4 : Int32) (h : ab_H) : Option Int32 := (ab_gR h v0 2 3).bind (fun r5 => (ab_aI h r5 v4).bind (fun x6 => bX2_savedByFew_50 rec v0 v1 v2 (v3 + x6) v4 h))
set_option maxRecDepth 20000 in
set_option maxHeartbeats 1000000 in
theorem kbX2_savedByFew_40 {l : Launch} {g : ab_G} {K : ab_K} {h : ab_H} {v0 : Nat} {v1 : Int32} {v2 : Int32} {v3 : Int32} {v4 : Int32} {q : Int32} {rec : Int32 → Int32 → Option Int32} (ih : ∀ (w3 : Int32) (w4 : Int32), rec w3 w4 = some q → ab_Ev l g mX2_savedByFew 1 0 0 5 [(0, .ref v0), (1, .int v1), (2, .int v2), (3, .int w3), (4, .int w4)] [] h 0 0 K) (hx : ab_Ev l g mX2_savedByFew 1 0 0 56 [(3, .int q)] [] h 0 0 K) (hf : bX2_savedByFew_40 rec v0 v1 v2 v3 v4 h = some q) : ab_Ev l g mX2_savedByFew 1 0 0 40 [(0, .ref v0), (1, .int v1), (2, .int v2), (3, .int v3), (4, .int v4)] [] h 0 0 K := by
  unfold bX2_savedByFew_40 at hf
  refine ab_iload_n (pc' := 41) (q := 3) dX2_savedByFew_40 rfl rfl rfl ?_
  refine ab_aload_n (pc' := 42) (q := 0) dX2_savedByFew_41 rfl rfl rfl ?_
  obtain ⟨r5, er5, hf⟩ := ab_bd hf
  refine ab_getR (pc' := 45) (ci := 2) (k := 3) dX2_savedByFew_42 rfl (by decide) fl_X2_21 er5 rfl ?_
  refine ab_iload (pc' := 47) (q := 4) dX2_savedByFew_45 rfl rfl ?_
  obtain ⟨x6, ex6, hf⟩ := ab_bd hf
  refine ab_iald (pc' := 48) dX2_savedByFew_47 ex6 rfl ?_
  refine ab_iadd (pc' := 49) dX2_savedByFew_48 rfl ?_
  refine ab_istore_n (pc' := 50) (ls' := [(3, .int (v3 + x6)), (0, .ref v0), (1, .int v1), (2, .int v2), (4, .int v4)]) dX2_savedByFew_49 rfl (by decide) rfl rfl ?_
  refine ab_drop (ls' := [(0, .ref v0), (1, .int v1), (2, .int v2), (3, .int (v3 + x6)), (4, .int v4)]) [1, 2, 3, 0, 4] rfl ?_
  exact kbX2_savedByFew_50 ih hx hf
def lX2_savedByFew_5 (h : ab_H) (v0 : Nat) (v1 : Int32) (v2 : Int32) : Nat → Int32 → Int32 → Option Int32
  | 0, _, _ => none
  | n + 1, v3, v4 => (ab_gI h v0 2 4).bind (fun x1 => if x1 ≤ (v4 : Int32) then some v3 else (ab_gI h v0 2 4).bind (fun x3 => if (v4 : Int32) = (x3 - 1) then bX2_savedByFew_40 (lX2_savedByFew_5 h v0 v1 v2 n) v0 v1 v2 v3 v4 h else (ab_ob h v0 2).bind (fun u7 => (fX2_betterOfSameDay h v0 v4 (ab_max 1 v1)).bind (fun x8 => if v2 ≤ (x8 : Int32) then bX2_savedByFew_50 (lX2_savedByFew_5 h v0 v1 v2 n) v0 v1 v2 v3 v4 h else bX2_savedByFew_40 (lX2_savedByFew_5 h v0 v1 v2 n) v0 v1 v2 v3 v4 h))))
set_option maxRecDepth 20000 in
set_option maxHeartbeats 1000000 in
theorem klX2_savedByFew_5 {l : Launch} {g : ab_G} {K : ab_K} {h : ab_H} {v0 : Nat} {v1 : Int32} {v2 : Int32} {q : Int32} (hx : ab_Ev l g mX2_savedByFew 1 0 0 56 [(3, .int q)] [] h 0 0 K) : ∀ (n : Nat) (v3 : Int32) (v4 : Int32), lX2_savedByFew_5 h v0 v1 v2 n v3 v4 = some q → ab_Ev l g mX2_savedByFew 1 0 0 5 [(0, .ref v0), (1, .int v1), (2, .int v2), (3, .int v3), (4, .int v4)] [] h 0 0 K := by
  intro n
  induction n with
  | zero => intro v3 v4 hf; cases (show (none : Option Int32) = some q from hf)
  | succ n ih =>
    intro v3 v4 hf
    rw [lX2_savedByFew_5] at hf
    refine ab_iload (pc' := 7) (q := 4) dX2_savedByFew_5 rfl rfl ?_
    refine ab_aload_n (pc' := 8) (q := 0) dX2_savedByFew_7 rfl rfl rfl ?_
    obtain ⟨x1, ex1, hf⟩ := ab_bd hf
    refine ab_getI (pc' := 11) (ci := 2) (k := 4) dX2_savedByFew_8 rfl (by decide) fl_X2_40 ex1 rfl ?_
    refine ab_icmp_ge (pc' := 14) (tgt := 56) dX2_savedByFew_11 (by decide) rfl (fun c2 => ?_) (fun c2 => ?_)
    · have hf := ab_ip c2 hf
      have hf := Option.some.inj hf
      subst hf
      refine ab_drop (ls' := [(3, .int v3)]) [3] rfl ?_
      exact hx
    · have hf := ab_iN c2 hf
      refine ab_iload (pc' := 16) (q := 4) dX2_savedByFew_14 rfl rfl ?_
      refine ab_aload_n (pc' := 17) (q := 0) dX2_savedByFew_16 rfl rfl rfl ?_
      obtain ⟨x3, ex3, hf⟩ := ab_bd hf
      refine ab_getI (pc' := 20) (ci := 2) (k := 4) dX2_savedByFew_17 rfl (by decide) fl_X2_40 ex3 rfl ?_
      refine ab_iconst (pc' := 21) (v := 1) dX2_savedByFew_20 (by decide) rfl ?_
      refine ab_isub (pc' := 22) dX2_savedByFew_21 rfl ?_
      refine ab_icmp_eq (pc' := 25) (tgt := 40) dX2_savedByFew_22 (by decide) rfl (fun c4 => ?_) (fun c4 => ?_)
      · have hf := ab_ip c4 hf
        exact kbX2_savedByFew_40 ih hx hf
      · have hf := ab_iN c4 hf
        refine ab_aload_n (pc' := 26) (q := 0) dX2_savedByFew_25 rfl rfl rfl ?_
        refine ab_iload (pc' := 28) (q := 4) dX2_savedByFew_26 rfl rfl ?_
        refine ab_iconst (pc' := 29) (v := 1) dX2_savedByFew_28 (by decide) rfl ?_
        refine ab_iload_n (pc' := 30) (q := 1) dX2_savedByFew_29 rfl rfl rfl ?_
        refine ab_mmaxF (pc' := 33) dX2_savedByFew_30 mk_X2_73 (by decide) (Nat.le_of_ble_eq_true rfl) (Nat.le_of_ble_eq_true rfl) (Nat.le_of_ble_eq_true rfl) rfl ?_
        obtain ⟨u7, eu7, hf⟩ := ab_bd hf
        obtain ⟨x8, ex8, hf⟩ := ab_bd hf
        refine ab_callV (pc' := 36) (Mc := mX2_betterOfSameDay) (as := [.int v4, .int (ab_max 1 v1)]) (st := []) dX2_savedByFew_33 ml_X2_79 okX2_betterOfSameDay im_X2_betterOfSameDay se_X2_betterOfSameDay rfl eu7 rfl (by decide) (Nat.le_of_ble_eq_true rfl) (Nat.le_of_ble_eq_true rfl) (Nat.le_of_ble_eq_true rfl) rfl rfl (kX2_betterOfSameDay ex8 ?_)
        show ab_Ev l g mX2_savedByFew 1 0 0 36 [(0, .ref v0), (1, .int v1), (2, .int v2), (3, .int v3), (4, .int v4)] [.int x8] h 0 0 K
        refine ab_iload_n (pc' := 37) (q := 2) dX2_savedByFew_36 rfl rfl rfl ?_
        refine ab_icmp_ge (pc' := 40) (tgt := 50) dX2_savedByFew_37 (by decide) rfl (fun c9 => ?_) (fun c9 => ?_)
        · have hf := ab_ip c9 hf
          exact kbX2_savedByFew_50 ih hx hf
        · have hf := ab_iN c9 hf
          exact kbX2_savedByFew_40 ih hx hf
def fX2_savedByFew (h : ab_H) (a0 : Nat) (a1 : Int32) (a2 : Int32) : Option Int32 := (lX2_savedByFew_5 h a0 a1 a2 ab_fu 0 0).bind (fun q10 => some q10)
set_option maxRecDepth 20000 in
set_option maxHeartbeats 1000000 in
theorem kX2_savedByFew {l : Launch} {g : ab_G} {K : ab_K} {h : ab_H} {a0 : Nat} {a1 : Int32} {a2 : Int32} {r : Int32} (hf : fX2_savedByFew h a0 a1 a2 = some r) (hK : K (some (.int r)) h) : ab_S l g mX2_savedByFew 1 0 0 [.ref a0, .int a1, .int a2] h K := by
  unfold fX2_savedByFew at hf
  refine ab_enter (ls := [(0, .ref a0), (1, .int a1), (2, .int a2)]) (by decide +kernel) rfl (Nat.le_of_ble_eq_true rfl) rfl ?_
  refine ab_iconst (pc' := 1) (v := 0) dX2_savedByFew_0 (by decide) rfl ?_
  refine ab_istore_n (pc' := 2) (ls' := [(3, .int 0), (0, .ref a0), (1, .int a1), (2, .int a2)]) dX2_savedByFew_1 rfl (by decide) rfl rfl ?_
  refine ab_iconst (pc' := 3) (v := 0) dX2_savedByFew_2 (by decide) rfl ?_
  refine ab_istore (pc' := 5) (ls' := [(4, .int 0), (3, .int 0), (0, .ref a0), (1, .int a1), (2, .int a2)]) dX2_savedByFew_3 (by decide) rfl rfl ?_
  refine ab_drop (ls' := [(0, .ref a0), (1, .int a1), (2, .int a2), (3, .int 0), (4, .int 0)]) [2, 3, 4, 1, 0] rfl ?_
  obtain ⟨q10, eq10, hf⟩ := ab_bd hf
  refine klX2_savedByFew_5 ?_ ab_fu _ _ eq10
  refine ab_iload_n (pc' := 57) (q := 0) dX2_savedByFew_56 rfl rfl rfl ?_
  have hf := Option.some.inj hf
  subst hf
  exact ab_iret rfl dX2_savedByFew_57 hK
-- DiskRests.limited(III)I (mode W, depth 4)
def bX6_limited_30  (h : ab_H) : Option (Int32 × ab_H) := some ((-2), h)
set_option maxRecDepth 20000 in
set_option maxHeartbeats 1000000 in
theorem kbX6_limited_30 {l : Launch} {g : ab_G} {K : ab_K} {h : ab_H}  {r : (Int32 × ab_H)} (hf : bX6_limited_30 h = some r) (hK : K (some (.int r.1)) r.2) : ab_Ev l g mX6_limited 4 0 0 30 [] [] h 0 0 K := by
  unfold bX6_limited_30 at hf
  refine ab_bipush (pc' := 32) (v := (-2)) dX6_limited_30 (by decide) rfl ?_
  have hf := Option.some.inj hf
  subst hf
  exact ab_iret rfl dX6_limited_32 hK
def fX6_limited (h : ab_H) (a0 : Nat) (a1 : Int32) (a2 : Int32) (a3 : Int32) : Option (Int32 × ab_H) := (fX6_isDisk a1).bind (fun x1 => if (x1 : Int32) = 0 then some ((-1), h) else (fX6_within a2 1 1000).bind (fun x3 => if (x3 : Int32) = 0 then bX6_limited_30 h else (fX6_within a3 0 40).bind (fun x5 => if (x5 : Int32) = 0 then bX6_limited_30 h else (ab_gR h a0 6 4).bind (fun r7 => (ab_gR h a0 6 0).bind (fun r8 => (ab_ob h r7 2).bind (fun u9 => (fX2_find h r7 r8 a1).bind (fun h10 => (ab_gR h10 a0 6 4).bind (fun r11 => (ab_ob h10 r11 2).bind (fun u12 => (fX2_costAwake h10 r11).bind (fun x13 => (ab_gR h10 a0 6 4).bind (fun r14 => (ab_ob h10 r14 2).bind (fun u15 => (fX2_savedByFew h10 r14 a2 a3).bind (fun x16 => some ((x13 - x16), h10))))))))))))))
set_option maxRecDepth 20000 in
set_option maxHeartbeats 1000000 in
theorem kX6_limited {l : Launch} {g : ab_G} {K : ab_K} {h : ab_H} {a0 : Nat} {a1 : Int32} {a2 : Int32} {a3 : Int32} {r : (Int32 × ab_H)} (hf : fX6_limited h a0 a1 a2 a3 = some r) (hK : K (some (.int r.1)) r.2) : ab_S l g mX6_limited 4 0 0 [.ref a0, .int a1, .int a2, .int a3] h K := by
  unfold fX6_limited at hf
  refine ab_enter (ls := [(0, .ref a0), (1, .int a1), (2, .int a2), (3, .int a3)]) (by decide +kernel) rfl (Nat.le_of_ble_eq_true rfl) rfl ?_
  refine ab_iload_n (pc' := 1) (q := 1) dX6_limited_0 rfl rfl rfl ?_
  obtain ⟨x1, ex1, hf⟩ := ab_bd hf
  refine ab_callS (pc' := 4) (Mc := mX6_isDisk) (as := [.int a1]) (st := []) dX6_limited_1 ml_X6_38 okX6_isDisk ss_X6_isDisk rfl (by decide) (Nat.le_of_ble_eq_true rfl) (Nat.le_of_ble_eq_true rfl) (Nat.le_of_ble_eq_true rfl) rfl rfl (kX6_isDisk ex1 ?_)
  show ab_Ev l g mX6_limited 4 0 0 4 [(0, .ref a0), (1, .int a1), (2, .int a2), (3, .int a3)] [.int x1] h 0 0 K
  refine ab_if_ne (pc' := 7) (tgt := 9) dX6_limited_4 (by decide) rfl (fun c2 => ?_) (fun c2 => ?_)
  · have hf := ab_iN c2 hf
    refine ab_iload_n (pc' := 10) (q := 2) dX6_limited_9 rfl rfl rfl ?_
    refine ab_iconst (pc' := 11) (v := 1) dX6_limited_10 (by decide) rfl ?_
    refine ab_sipush (pc' := 14) (v := 1000) dX6_limited_11 (by decide) rfl ?_
    obtain ⟨x3, ex3, hf⟩ := ab_bd hf
    refine ab_callS (pc' := 17) (Mc := mX6_within) (as := [.int a2, .int 1, .int 1000]) (st := []) dX6_limited_14 ml_X6_42 okX6_within ss_X6_within rfl (by decide) (Nat.le_of_ble_eq_true rfl) (Nat.le_of_ble_eq_true rfl) (Nat.le_of_ble_eq_true rfl) rfl rfl (kX6_within ex3 ?_)
    show ab_Ev l g mX6_limited 4 0 0 17 [(0, .ref a0), (1, .int a1), (2, .int a2), (3, .int a3)] [.int x3] h 0 0 K
    refine ab_if_eq (pc' := 20) (tgt := 30) dX6_limited_17 (by decide) rfl (fun c4 => ?_) (fun c4 => ?_)
    · have hf := ab_ip c4 hf
      refine ab_drop (ls' := []) [] rfl ?_
      exact kbX6_limited_30 hf hK
    · have hf := ab_iN c4 hf
      refine ab_iload_n (pc' := 21) (q := 3) dX6_limited_20 rfl rfl rfl ?_
      refine ab_iconst (pc' := 22) (v := 0) dX6_limited_21 (by decide) rfl ?_
      refine ab_bipush (pc' := 24) (v := 40) dX6_limited_22 (by decide) rfl ?_
      obtain ⟨x5, ex5, hf⟩ := ab_bd hf
      refine ab_callS (pc' := 27) (Mc := mX6_within) (as := [.int a3, .int 0, .int 40]) (st := []) dX6_limited_24 ml_X6_42 okX6_within ss_X6_within rfl (by decide) (Nat.le_of_ble_eq_true rfl) (Nat.le_of_ble_eq_true rfl) (Nat.le_of_ble_eq_true rfl) rfl rfl (kX6_within ex5 ?_)
      show ab_Ev l g mX6_limited 4 0 0 27 [(0, .ref a0), (1, .int a1), (2, .int a2), (3, .int a3)] [.int x5] h 0 0 K
      refine ab_if_ne (pc' := 30) (tgt := 33) dX6_limited_27 (by decide) rfl (fun c6 => ?_) (fun c6 => ?_)
      · have hf := ab_iN c6 hf
        refine ab_aload_n (pc' := 34) (q := 0) dX6_limited_33 rfl rfl rfl ?_
        obtain ⟨r7, er7, hf⟩ := ab_bd hf
        refine ab_getR (pc' := 37) (ci := 6) (k := 4) dX6_limited_34 rfl (by decide) fl_X6_34 er7 rfl ?_
        refine ab_aload_n (pc' := 38) (q := 0) dX6_limited_37 rfl rfl rfl ?_
        obtain ⟨r8, er8, hf⟩ := ab_bd hf
        refine ab_getR (pc' := 41) (ci := 6) (k := 0) dX6_limited_38 rfl (by decide) fl_X6_10 er8 rfl ?_
        refine ab_iload_n (pc' := 42) (q := 1) dX6_limited_41 rfl rfl rfl ?_
        obtain ⟨u9, eu9, hf⟩ := ab_bd hf
        obtain ⟨h10, eh10, hf⟩ := ab_bd hf
        refine ab_callV (pc' := 45) (Mc := mX2_find) (as := [.ref r8, .int a1]) (st := []) dX6_limited_42 ml_X6_169 okX2_find im_X2_find se_X2_find rfl eu9 rfl (by decide) (Nat.le_of_ble_eq_true rfl) (Nat.le_of_ble_eq_true rfl) (Nat.le_of_ble_eq_true rfl) rfl rfl (kX2_find eh10 ?_)
        show ab_Ev l g mX6_limited 4 0 0 45 [(0, .ref a0), (1, .int a1), (2, .int a2), (3, .int a3)] [] h10 0 0 K
        refine ab_aload_n (pc' := 46) (q := 0) dX6_limited_45 rfl rfl rfl ?_
        obtain ⟨r11, er11, hf⟩ := ab_bd hf
        refine ab_getR (pc' := 49) (ci := 6) (k := 4) dX6_limited_46 rfl (by decide) fl_X6_34 er11 rfl ?_
        obtain ⟨u12, eu12, hf⟩ := ab_bd hf
        obtain ⟨x13, ex13, hf⟩ := ab_bd hf
        refine ab_callV (pc' := 52) (Mc := mX2_costAwake) (as := []) (st := []) dX6_limited_49 ml_X6_172 okX2_costAwake im_X2_costAwake se_X2_costAwake rfl eu12 rfl (by decide) (Nat.le_of_ble_eq_true rfl) (Nat.le_of_ble_eq_true rfl) (Nat.le_of_ble_eq_true rfl) rfl rfl (kX2_costAwake ex13 ?_)
        show ab_Ev l g mX6_limited 4 0 0 52 [(0, .ref a0), (1, .int a1), (2, .int a2), (3, .int a3)] [.int x13] h10 0 0 K
        refine ab_aload_n (pc' := 53) (q := 0) dX6_limited_52 rfl rfl rfl ?_
        obtain ⟨r14, er14, hf⟩ := ab_bd hf
        refine ab_getR (pc' := 56) (ci := 6) (k := 4) dX6_limited_53 rfl (by decide) fl_X6_34 er14 rfl ?_
        refine ab_iload_n (pc' := 57) (q := 2) dX6_limited_56 rfl rfl rfl ?_
        refine ab_iload_n (pc' := 58) (q := 3) dX6_limited_57 rfl rfl rfl ?_
        obtain ⟨u15, eu15, hf⟩ := ab_bd hf
        obtain ⟨x16, ex16, hf⟩ := ab_bd hf
        refine ab_callV (pc' := 61) (Mc := mX2_savedByFew) (as := [.int a2, .int a3]) (st := [.int x13]) dX6_limited_58 ml_X6_183 okX2_savedByFew im_X2_savedByFew se_X2_savedByFew rfl eu15 rfl (by decide) (Nat.le_of_ble_eq_true rfl) (Nat.le_of_ble_eq_true rfl) (Nat.le_of_ble_eq_true rfl) rfl rfl (kX2_savedByFew ex16 ?_)
        show ab_Ev l g mX6_limited 4 0 0 61 [(0, .ref a0), (1, .int a1), (2, .int a2), (3, .int a3)] [.int x16, .int x13] h10 0 0 K
        refine ab_isub (pc' := 62) dX6_limited_61 rfl ?_
        have hf := Option.some.inj hf
        subst hf
        exact ab_iret rfl dX6_limited_62 hK
      · have hf := ab_ip c6 hf
        refine ab_drop (ls' := []) [] rfl ?_
        exact kbX6_limited_30 hf hK
  · have hf := ab_ip c2 hf
    refine ab_iconst (pc' := 8) (v := (-1)) dX6_limited_7 (by decide) rfl ?_
    have hf := Option.some.inj hf
    subst hf
    exact ab_iret rfl dX6_limited_8 hK
-- DiskRests$Disk.costByPolicy(I)I (mode R, depth 3)
def lX1_costByPolicy_7 (h : ab_H) (v0 : Nat) (v1 : Int32) : Nat → Int32 → Int32 → Int32 → Option (Int32 × Int32)
  | 0, _, _, _ => none
  | n + 1, v2, v3, v4 => if v1 ≤ (v4 : Int32) then some (v2, v3) else (ab_ob h v0 1).bind (fun u2 => (fX1_levelFor h v0 v4 (-6)).bind (fun x3 => (ab_gR h v0 1 0).bind (fun r4 => (ab_aI h r4 x3).bind (fun x5 => lX1_costByPolicy_7 h v0 v1 n (v2 + x5) x3 (v4 + 1)))))
set_option maxRecDepth 20000 in
set_option maxHeartbeats 1000000 in
theorem klX1_costByPolicy_7 {l : Launch} {g : ab_G} {K : ab_K} {h : ab_H} {v0 : Nat} {v1 : Int32} {q : (Int32 × Int32)} (hx : ab_Ev l g mX1_costByPolicy 3 0 0 37 [(0, .ref v0), (2, .int q.1), (3, .int q.2)] [] h 0 0 K) : ∀ (n : Nat) (v2 : Int32) (v3 : Int32) (v4 : Int32), lX1_costByPolicy_7 h v0 v1 n v2 v3 v4 = some q → ab_Ev l g mX1_costByPolicy 3 0 0 7 [(0, .ref v0), (1, .int v1), (2, .int v2), (3, .int v3), (4, .int v4)] [] h 0 0 K := by
  intro n
  induction n with
  | zero => intro v2 v3 v4 hf; cases (show (none : Option (Int32 × Int32)) = some q from hf)
  | succ n ih =>
    intro v2 v3 v4 hf
    rw [lX1_costByPolicy_7] at hf
    refine ab_iload (pc' := 9) (q := 4) dX1_costByPolicy_7 rfl rfl ?_
    refine ab_iload_n (pc' := 10) (q := 1) dX1_costByPolicy_9 rfl rfl rfl ?_
    refine ab_icmp_ge (pc' := 13) (tgt := 37) dX1_costByPolicy_10 (by decide) rfl (fun c1 => ?_) (fun c1 => ?_)
    · have hf := ab_ip c1 hf
      have hf := Option.some.inj hf
      subst hf
      refine ab_drop (ls' := [(0, .ref v0), (2, .int v2), (3, .int v3)]) [0, 2, 3] rfl ?_
      exact hx
    · have hf := ab_iN c1 hf
      refine ab_aload_n (pc' := 14) (q := 0) dX1_costByPolicy_13 rfl rfl rfl ?_
      refine ab_iload (pc' := 16) (q := 4) dX1_costByPolicy_14 rfl rfl ?_
      refine ab_bipush (pc' := 18) (v := (-6)) dX1_costByPolicy_16 (by decide) rfl ?_
      obtain ⟨u2, eu2, hf⟩ := ab_bd hf
      obtain ⟨x3, ex3, hf⟩ := ab_bd hf
      refine ab_callV (pc' := 21) (Mc := mX1_levelFor) (as := [.int v4, .int (-6)]) (st := []) dX1_costByPolicy_18 ml_X1_54 okX1_levelFor im_X1_levelFor se_X1_levelFor rfl eu2 rfl (by decide) (Nat.le_of_ble_eq_true rfl) (Nat.le_of_ble_eq_true rfl) (Nat.le_of_ble_eq_true rfl) rfl rfl (kX1_levelFor ex3 ?_)
      show ab_Ev l g mX1_costByPolicy 3 0 0 21 [(0, .ref v0), (1, .int v1), (2, .int v2), (3, .int v3), (4, .int v4)] [.int x3] h 0 0 K
      refine ab_istore_n (pc' := 22) (ls' := [(3, .int x3), (0, .ref v0), (1, .int v1), (2, .int v2), (4, .int v4)]) dX1_costByPolicy_21 rfl (by decide) rfl rfl ?_
      refine ab_iload_n (pc' := 23) (q := 3) dX1_costByPolicy_22 rfl rfl rfl ?_
      refine ab_aload_n (pc' := 24) (q := 1) dX1_costByPolicy_23 rfl rfl rfl ?_
      obtain ⟨r4, er4, hf⟩ := ab_bd hf
      refine ab_getR (pc' := 27) (ci := 1) (k := 0) dX1_costByPolicy_24 rfl (by decide) fl_X1_9 er4 rfl ?_
      refine ab_iload_n (pc' := 28) (q := 0) dX1_costByPolicy_27 rfl rfl rfl ?_
      obtain ⟨x5, ex5, hf⟩ := ab_bd hf
      refine ab_iald (pc' := 29) dX1_costByPolicy_28 ex5 rfl ?_
      refine ab_iadd (pc' := 30) dX1_costByPolicy_29 rfl ?_
      refine ab_istore_n (pc' := 31) (ls' := [(2, .int (v2 + x5)), (3, .int x3), (0, .ref v0), (1, .int v1), (4, .int v4)]) dX1_costByPolicy_30 rfl (by decide) rfl rfl ?_
      refine ab_iinc (pc' := 34) (q := 4) (v := (v4 + 1)) (ls' := [(4, .int (v4 + 1)), (2, .int (v2 + x5)), (3, .int x3), (0, .ref v0), (1, .int v1)]) dX1_costByPolicy_31 rfl rfl (by decide) rfl rfl ?_
      refine ab_goto (tgt := 7) dX1_costByPolicy_34 (by decide) ?_
      refine ab_drop (ls' := [(0, .ref v0), (1, .int v1), (2, .int (v2 + x5)), (3, .int x3), (4, .int (v4 + 1))]) [3, 4, 1, 2, 0] rfl ?_
      exact ih _ _ _ hf
def fX1_costByPolicy (h : ab_H) (a0 : Nat) (a1 : Int32) : Option Int32 := (lX1_costByPolicy_7 h a0 a1 ab_fu 0 0 0).bind (fun q6 => (ab_gR h a0 1 1).bind (fun r7 => (ab_aI h r7 q6.2).bind (fun x8 => some (q6.1 + x8))))
set_option maxRecDepth 20000 in
set_option maxHeartbeats 1000000 in
theorem kX1_costByPolicy {l : Launch} {g : ab_G} {K : ab_K} {h : ab_H} {a0 : Nat} {a1 : Int32} {r : Int32} (hf : fX1_costByPolicy h a0 a1 = some r) (hK : K (some (.int r)) h) : ab_S l g mX1_costByPolicy 3 0 0 [.ref a0, .int a1] h K := by
  unfold fX1_costByPolicy at hf
  refine ab_enter (ls := [(0, .ref a0), (1, .int a1)]) (by decide +kernel) rfl (Nat.le_of_ble_eq_true rfl) rfl ?_
  refine ab_iconst (pc' := 1) (v := 0) dX1_costByPolicy_0 (by decide) rfl ?_
  refine ab_istore_n (pc' := 2) (ls' := [(2, .int 0), (0, .ref a0), (1, .int a1)]) dX1_costByPolicy_1 rfl (by decide) rfl rfl ?_
  refine ab_iconst (pc' := 3) (v := 0) dX1_costByPolicy_2 (by decide) rfl ?_
  refine ab_istore_n (pc' := 4) (ls' := [(3, .int 0), (2, .int 0), (0, .ref a0), (1, .int a1)]) dX1_costByPolicy_3 rfl (by decide) rfl rfl ?_
  refine ab_iconst (pc' := 5) (v := 0) dX1_costByPolicy_4 (by decide) rfl ?_
  refine ab_istore (pc' := 7) (ls' := [(4, .int 0), (3, .int 0), (2, .int 0), (0, .ref a0), (1, .int a1)]) dX1_costByPolicy_5 (by decide) rfl rfl ?_
  refine ab_drop (ls' := [(0, .ref a0), (1, .int a1), (2, .int 0), (3, .int 0), (4, .int 0)]) [3, 4, 2, 1, 0] rfl ?_
  obtain ⟨q6, eq6, hf⟩ := ab_bd hf
  refine klX1_costByPolicy_7 ?_ ab_fu _ _ _ eq6
  refine ab_iload_n (pc' := 38) (q := 1) dX1_costByPolicy_37 rfl rfl rfl ?_
  refine ab_aload_n (pc' := 39) (q := 0) dX1_costByPolicy_38 rfl rfl rfl ?_
  obtain ⟨r7, er7, hf⟩ := ab_bd hf
  refine ab_getR (pc' := 42) (ci := 1) (k := 1) dX1_costByPolicy_39 rfl (by decide) fl_X1_15 er7 rfl ?_
  refine ab_iload_n (pc' := 43) (q := 2) dX1_costByPolicy_42 rfl rfl rfl ?_
  obtain ⟨x8, ex8, hf⟩ := ab_bd hf
  refine ab_iald (pc' := 44) dX1_costByPolicy_43 ex8 rfl ?_
  refine ab_iadd (pc' := 45) dX1_costByPolicy_44 rfl ?_
  have hf := Option.some.inj hf
  subst hf
  exact ab_iret rfl dX1_costByPolicy_45 hK
-- DiskRests.costs(II)I (mode R, depth 4)
def fX6_costs (h : ab_H) (a0 : Nat) (a1 : Int32) (a2 : Int32) : Option Int32 := (fX6_isDisk a1).bind (fun x1 => if (x1 : Int32) = 0 then some (-1) else (fX6_within a2 1 1000).bind (fun x3 => if (x3 : Int32) = 0 then some (-2) else (ab_gR h a0 6 0).bind (fun r5 => (ab_gR h r5 5 0).bind (fun r6 => (ab_aR h r6 a1).bind (fun r7 => (ab_gI h r7 1 3).bind (fun x8 => if (x8 : Int32) = 3 then some (-3) else (ab_gR h a0 6 0).bind (fun r10 => (ab_gR h r10 5 0).bind (fun r11 => (ab_aR h r11 a1).bind (fun r12 => (ab_ob h r12 1).bind (fun u13 => (fX1_costByPolicy h r12 a2).bind (fun x14 => some x14)))))))))))
set_option maxRecDepth 20000 in
set_option maxHeartbeats 1000000 in
theorem kX6_costs {l : Launch} {g : ab_G} {K : ab_K} {h : ab_H} {a0 : Nat} {a1 : Int32} {a2 : Int32} {r : Int32} (hf : fX6_costs h a0 a1 a2 = some r) (hK : K (some (.int r)) h) : ab_S l g mX6_costs 4 0 0 [.ref a0, .int a1, .int a2] h K := by
  unfold fX6_costs at hf
  refine ab_enter (ls := [(0, .ref a0), (1, .int a1), (2, .int a2)]) (by decide +kernel) rfl (Nat.le_of_ble_eq_true rfl) rfl ?_
  refine ab_iload_n (pc' := 1) (q := 1) dX6_costs_0 rfl rfl rfl ?_
  obtain ⟨x1, ex1, hf⟩ := ab_bd hf
  refine ab_callS (pc' := 4) (Mc := mX6_isDisk) (as := [.int a1]) (st := []) dX6_costs_1 ml_X6_38 okX6_isDisk ss_X6_isDisk rfl (by decide) (Nat.le_of_ble_eq_true rfl) (Nat.le_of_ble_eq_true rfl) (Nat.le_of_ble_eq_true rfl) rfl rfl (kX6_isDisk ex1 ?_)
  show ab_Ev l g mX6_costs 4 0 0 4 [(0, .ref a0), (1, .int a1), (2, .int a2)] [.int x1] h 0 0 K
  refine ab_if_ne (pc' := 7) (tgt := 9) dX6_costs_4 (by decide) rfl (fun c2 => ?_) (fun c2 => ?_)
  · have hf := ab_iN c2 hf
    refine ab_iload_n (pc' := 10) (q := 2) dX6_costs_9 rfl rfl rfl ?_
    refine ab_iconst (pc' := 11) (v := 1) dX6_costs_10 (by decide) rfl ?_
    refine ab_sipush (pc' := 14) (v := 1000) dX6_costs_11 (by decide) rfl ?_
    obtain ⟨x3, ex3, hf⟩ := ab_bd hf
    refine ab_callS (pc' := 17) (Mc := mX6_within) (as := [.int a2, .int 1, .int 1000]) (st := []) dX6_costs_14 ml_X6_42 okX6_within ss_X6_within rfl (by decide) (Nat.le_of_ble_eq_true rfl) (Nat.le_of_ble_eq_true rfl) (Nat.le_of_ble_eq_true rfl) rfl rfl (kX6_within ex3 ?_)
    show ab_Ev l g mX6_costs 4 0 0 17 [(0, .ref a0), (1, .int a1), (2, .int a2)] [.int x3] h 0 0 K
    refine ab_if_ne (pc' := 20) (tgt := 23) dX6_costs_17 (by decide) rfl (fun c4 => ?_) (fun c4 => ?_)
    · have hf := ab_iN c4 hf
      refine ab_aload_n (pc' := 24) (q := 0) dX6_costs_23 rfl rfl rfl ?_
      obtain ⟨r5, er5, hf⟩ := ab_bd hf
      refine ab_getR (pc' := 27) (ci := 6) (k := 0) dX6_costs_24 rfl (by decide) fl_X6_10 er5 rfl ?_
      obtain ⟨r6, er6, hf⟩ := ab_bd hf
      refine ab_getR (pc' := 30) (ci := 5) (k := 0) dX6_costs_27 rfl (by decide) fl_X6_46 er6 rfl ?_
      refine ab_iload_n (pc' := 31) (q := 1) dX6_costs_30 rfl rfl rfl ?_
      obtain ⟨r7, er7, hf⟩ := ab_bd hf
      refine ab_aald (pc' := 32) dX6_costs_31 er7 rfl ?_
      obtain ⟨x8, ex8, hf⟩ := ab_bd hf
      refine ab_getI (pc' := 35) (ci := 1) (k := 3) dX6_costs_32 rfl (by decide) fl_X6_77 ex8 rfl ?_
      refine ab_iconst (pc' := 36) (v := 3) dX6_costs_35 (by decide) rfl ?_
      refine ab_icmp_ne (pc' := 39) (tgt := 42) dX6_costs_36 (by decide) rfl (fun c9 => ?_) (fun c9 => ?_)
      · have hf := ab_iN c9 hf
        refine ab_aload_n (pc' := 43) (q := 0) dX6_costs_42 rfl rfl rfl ?_
        obtain ⟨r10, er10, hf⟩ := ab_bd hf
        refine ab_getR (pc' := 46) (ci := 6) (k := 0) dX6_costs_43 rfl (by decide) fl_X6_10 er10 rfl ?_
        obtain ⟨r11, er11, hf⟩ := ab_bd hf
        refine ab_getR (pc' := 49) (ci := 5) (k := 0) dX6_costs_46 rfl (by decide) fl_X6_46 er11 rfl ?_
        refine ab_iload_n (pc' := 50) (q := 1) dX6_costs_49 rfl rfl rfl ?_
        obtain ⟨r12, er12, hf⟩ := ab_bd hf
        refine ab_aald (pc' := 51) dX6_costs_50 er12 rfl ?_
        refine ab_iload_n (pc' := 52) (q := 2) dX6_costs_51 rfl rfl rfl ?_
        obtain ⟨u13, eu13, hf⟩ := ab_bd hf
        obtain ⟨x14, ex14, hf⟩ := ab_bd hf
        refine ab_callV (pc' := 55) (Mc := mX1_costByPolicy) (as := [.int a2]) (st := []) dX6_costs_52 ml_X6_187 okX1_costByPolicy im_X1_costByPolicy se_X1_costByPolicy rfl eu13 rfl (by decide) (Nat.le_of_ble_eq_true rfl) (Nat.le_of_ble_eq_true rfl) (Nat.le_of_ble_eq_true rfl) rfl rfl (kX1_costByPolicy ex14 ?_)
        show ab_Ev l g mX6_costs 4 0 0 55 [(0, .ref a0), (1, .int a1), (2, .int a2)] [.int x14] h 0 0 K
        have hf := Option.some.inj hf
        subst hf
        exact ab_iret rfl dX6_costs_55 hK
      · have hf := ab_ip c9 hf
        refine ab_bipush (pc' := 41) (v := (-3)) dX6_costs_39 (by decide) rfl ?_
        have hf := Option.some.inj hf
        subst hf
        exact ab_iret rfl dX6_costs_41 hK
    · have hf := ab_ip c4 hf
      refine ab_bipush (pc' := 22) (v := (-2)) dX6_costs_20 (by decide) rfl ?_
      have hf := Option.some.inj hf
      subst hf
      exact ab_iret rfl dX6_costs_22 hK
  · have hf := ab_ip c2 hf
    refine ab_iconst (pc' := 8) (v := (-1)) dX6_costs_7 (by decide) rfl ?_
    have hf := Option.some.inj hf
    subst hf
    exact ab_iret rfl dX6_costs_8 hK
-- DiskRests$Disk.worstTicks(I)I (mode R, depth 3)
def bX1_worstTicks_88 (rec : Int32 → Int64 → Int64 → Int32 → Int32 → Option Int32) (v0 : Nat) (v1 : Int32) (v2 : Int32) (v3 : Int64) (v5 : Int64) (v7 : Int32) (v8 : Int32) (h : ab_H) : Option Int32 := rec v2 v3 v5 v7 (v8 + 1)
set_option maxRecDepth 20000 in
set_option maxHeartbeats 1000000 in
theorem kbX1_worstTicks_88 {l : Launch} {g : ab_G} {K : ab_K} {h : ab_H} {v0 : Nat} {v1 : Int32} {v2 : Int32} {v3 : Int64} {v5 : Int64} {v7 : Int32} {v8 : Int32} {q : Int32} {rec : Int32 → Int64 → Int64 → Int32 → Int32 → Option Int32} (ih : ∀ (w2 : Int32) (w3 : Int64) (w5 : Int64) (w7 : Int32) (w8 : Int32), rec w2 w3 w5 w7 w8 = some q → ab_Ev l g mX1_worstTicks 3 0 0 13 [(0, .ref v0), (1, .int v1), (2, .int w2), (3, .long w3), (5, .long w5), (7, .int w7), (8, .int w8)] [] h 0 0 K) (hx : ab_Ev l g mX1_worstTicks 3 0 0 94 [(2, .int q)] [] h 0 0 K) (hf : bX1_worstTicks_88 rec v0 v1 v2 v3 v5 v7 v8 h = some q) : ab_Ev l g mX1_worstTicks 3 0 0 88 [(0, .ref v0), (1, .int v1), (2, .int v2), (3, .long v3), (5, .long v5), (7, .int v7), (8, .int v8)] [] h 0 0 K := by
  unfold bX1_worstTicks_88 at hf
  refine ab_iinc (pc' := 91) (q := 6) (v := (v8 + 1)) (ls' := [(8, .int (v8 + 1)), (0, .ref v0), (1, .int v1), (2, .int v2), (3, .long v3), (5, .long v5), (7, .int v7)]) dX1_worstTicks_88 rfl rfl (by decide) rfl rfl ?_
  refine ab_goto (tgt := 13) dX1_worstTicks_91 (by decide) ?_
  refine ab_drop (ls' := [(0, .ref v0), (1, .int v1), (2, .int v2), (3, .long v3), (5, .long v5), (7, .int v7), (8, .int (v8 + 1))]) [1, 2, 3, 4, 5, 6, 0] rfl ?_
  exact ih _ _ _ _ _ hf
def lX1_worstTicks_13 (h : ab_H) (v0 : Nat) (v1 : Int32) : Nat → Int32 → Int64 → Int64 → Int32 → Int32 → Option Int32
  | 0, _, _, _, _, _ => none
  | n + 1, v2, v3, v5, v7, v8 => if v1 < (v8 : Int32) then some v2 else (ab_ob h v0 1).bind (fun u2 => (fX1_levelFor h v0 (v8 - 1) (-6)).bind (fun x3 => (ab_gR h v0 1 0).bind (fun r4 => (ab_aI h r4 x3).bind (fun x5 => (ab_gR h v0 1 1).bind (fun r6 => (ab_aI h r6 x3).bind (fun x7 => (ab_ob h v0 1).bind (fun u8 => (fX1_leastCost h v0 v8).bind (fun x9 => if ((lg_cmp ((Int32.toInt64 ((v7 + x5) + x7)) * v5) (v3 * (Int32.toInt64 x9))) : Int32) ≤ 0 then bX1_worstTicks_88 (lX1_worstTicks_13 h v0 v1 n) v0 v1 v2 v3 v5 (v7 + x5) v8 h else bX1_worstTicks_88 (lX1_worstTicks_13 h v0 v1 n) v0 v1 v8 (Int32.toInt64 ((v7 + x5) + x7)) (Int32.toInt64 x9) (v7 + x5) v8 h))))))))
set_option maxRecDepth 20000 in
set_option maxHeartbeats 1000000 in
theorem klX1_worstTicks_13 {l : Launch} {g : ab_G} {K : ab_K} {h : ab_H} {v0 : Nat} {v1 : Int32} {q : Int32} (hx : ab_Ev l g mX1_worstTicks 3 0 0 94 [(2, .int q)] [] h 0 0 K) : ∀ (n : Nat) (v2 : Int32) (v3 : Int64) (v5 : Int64) (v7 : Int32) (v8 : Int32), lX1_worstTicks_13 h v0 v1 n v2 v3 v5 v7 v8 = some q → ab_Ev l g mX1_worstTicks 3 0 0 13 [(0, .ref v0), (1, .int v1), (2, .int v2), (3, .long v3), (5, .long v5), (7, .int v7), (8, .int v8)] [] h 0 0 K := by
  intro n
  induction n with
  | zero => intro v2 v3 v5 v7 v8 hf; cases (show (none : Option Int32) = some q from hf)
  | succ n ih =>
    intro v2 v3 v5 v7 v8 hf
    rw [lX1_worstTicks_13] at hf
    refine ab_iload (pc' := 15) (q := 6) dX1_worstTicks_13 rfl rfl ?_
    refine ab_iload_n (pc' := 16) (q := 1) dX1_worstTicks_15 rfl rfl rfl ?_
    refine ab_icmp_gt (pc' := 19) (tgt := 94) dX1_worstTicks_16 (by decide) rfl (fun c1 => ?_) (fun c1 => ?_)
    · have hf := ab_ip c1 hf
      have hf := Option.some.inj hf
      subst hf
      refine ab_drop (ls' := [(2, .int v2)]) [2] rfl ?_
      exact hx
    · have hf := ab_iN c1 hf
      refine ab_aload_n (pc' := 20) (q := 0) dX1_worstTicks_19 rfl rfl rfl ?_
      refine ab_iload (pc' := 22) (q := 6) dX1_worstTicks_20 rfl rfl ?_
      refine ab_iconst (pc' := 23) (v := 1) dX1_worstTicks_22 (by decide) rfl ?_
      refine ab_isub (pc' := 24) dX1_worstTicks_23 rfl ?_
      refine ab_bipush (pc' := 26) (v := (-6)) dX1_worstTicks_24 (by decide) rfl ?_
      obtain ⟨u2, eu2, hf⟩ := ab_bd hf
      obtain ⟨x3, ex3, hf⟩ := ab_bd hf
      refine ab_callV (pc' := 29) (Mc := mX1_levelFor) (as := [.int (v8 - 1), .int (-6)]) (st := []) dX1_worstTicks_26 ml_X1_54 okX1_levelFor im_X1_levelFor se_X1_levelFor rfl eu2 rfl (by decide) (Nat.le_of_ble_eq_true rfl) (Nat.le_of_ble_eq_true rfl) (Nat.le_of_ble_eq_true rfl) rfl rfl (kX1_levelFor ex3 ?_)
      show ab_Ev l g mX1_worstTicks 3 0 0 29 [(0, .ref v0), (1, .int v1), (2, .int v2), (3, .long v3), (5, .long v5), (7, .int v7), (8, .int v8)] [.int x3] h 0 0 K
      refine ab_istore (pc' := 31) (ls' := [(9, .int x3), (0, .ref v0), (1, .int v1), (2, .int v2), (3, .long v3), (5, .long v5), (7, .int v7), (8, .int v8)]) dX1_worstTicks_29 (by decide) rfl rfl ?_
      refine ab_iload (pc' := 33) (q := 6) dX1_worstTicks_31 rfl rfl ?_
      refine ab_aload_n (pc' := 34) (q := 1) dX1_worstTicks_33 rfl rfl rfl ?_
      obtain ⟨r4, er4, hf⟩ := ab_bd hf
      refine ab_getR (pc' := 37) (ci := 1) (k := 0) dX1_worstTicks_34 rfl (by decide) fl_X1_9 er4 rfl ?_
      refine ab_iload (pc' := 39) (q := 0) dX1_worstTicks_37 rfl rfl ?_
      obtain ⟨x5, ex5, hf⟩ := ab_bd hf
      refine ab_iald (pc' := 40) dX1_worstTicks_39 ex5 rfl ?_
      refine ab_iadd (pc' := 41) dX1_worstTicks_40 rfl ?_
      refine ab_istore (pc' := 43) (ls' := [(7, .int (v7 + x5)), (9, .int x3), (0, .ref v0), (1, .int v1), (2, .int v2), (3, .long v3), (5, .long v5), (8, .int v8)]) dX1_worstTicks_41 (by decide) rfl rfl ?_
      refine ab_iload (pc' := 45) (q := 0) dX1_worstTicks_43 rfl rfl ?_
      refine ab_aload_n (pc' := 46) (q := 2) dX1_worstTicks_45 rfl rfl rfl ?_
      obtain ⟨r6, er6, hf⟩ := ab_bd hf
      refine ab_getR (pc' := 49) (ci := 1) (k := 1) dX1_worstTicks_46 rfl (by decide) fl_X1_15 er6 rfl ?_
      refine ab_iload (pc' := 51) (q := 1) dX1_worstTicks_49 rfl rfl ?_
      obtain ⟨x7, ex7, hf⟩ := ab_bd hf
      refine ab_iald (pc' := 52) dX1_worstTicks_51 ex7 rfl ?_
      refine ab_iadd (pc' := 53) dX1_worstTicks_52 rfl ?_
      refine ab_i2l (pc' := 54) dX1_worstTicks_53 rfl ?_
      refine ab_lstore (pc' := 56) (ls' := [(10, .long (Int32.toInt64 ((v7 + x5) + x7))), (7, .int (v7 + x5)), (9, .int x3), (0, .ref v0), (1, .int v1), (2, .int v2), (3, .long v3), (5, .long v5), (8, .int v8)]) dX1_worstTicks_54 (by decide) rfl rfl ?_
      refine ab_aload_n (pc' := 57) (q := 3) dX1_worstTicks_56 rfl rfl rfl ?_
      refine ab_iload (pc' := 59) (q := 8) dX1_worstTicks_57 rfl rfl ?_
      obtain ⟨u8, eu8, hf⟩ := ab_bd hf
      obtain ⟨x9, ex9, hf⟩ := ab_bd hf
      refine ab_callV (pc' := 62) (Mc := mX1_leastCost) (as := [.int v8]) (st := []) dX1_worstTicks_59 ml_X1_57 okX1_leastCost im_X1_leastCost se_X1_leastCost rfl eu8 rfl (by decide) (Nat.le_of_ble_eq_true rfl) (Nat.le_of_ble_eq_true rfl) (Nat.le_of_ble_eq_true rfl) rfl rfl (kX1_leastCost ex9 ?_)
      show ab_Ev l g mX1_worstTicks 3 0 0 62 [(10, .long (Int32.toInt64 ((v7 + x5) + x7))), (7, .int (v7 + x5)), (9, .int x3), (0, .ref v0), (1, .int v1), (2, .int v2), (3, .long v3), (5, .long v5), (8, .int v8)] [.int x9] h 0 0 K
      refine ab_i2l (pc' := 63) dX1_worstTicks_62 rfl ?_
      refine ab_lstore (pc' := 65) (ls' := [(12, .long (Int32.toInt64 x9)), (10, .long (Int32.toInt64 ((v7 + x5) + x7))), (7, .int (v7 + x5)), (9, .int x3), (0, .ref v0), (1, .int v1), (2, .int v2), (3, .long v3), (5, .long v5), (8, .int v8)]) dX1_worstTicks_63 (by decide) rfl rfl ?_
      refine ab_lload (pc' := 67) (q := 1) dX1_worstTicks_65 rfl rfl ?_
      refine ab_lload (pc' := 69) (q := 8) dX1_worstTicks_67 rfl rfl ?_
      refine ab_lmul (pc' := 70) dX1_worstTicks_69 rfl ?_
      refine ab_lload_n (pc' := 71) (q := 7) dX1_worstTicks_70 rfl rfl rfl ?_
      refine ab_lload (pc' := 73) (q := 0) dX1_worstTicks_71 rfl rfl ?_
      refine ab_lmul (pc' := 74) dX1_worstTicks_73 rfl ?_
      refine ab_lcmp (pc' := 75) dX1_worstTicks_74 rfl ?_
      refine ab_if_le (pc' := 78) (tgt := 88) dX1_worstTicks_75 (by decide) rfl (fun c10 => ?_) (fun c10 => ?_)
      · have hf := ab_ip c10 hf
        refine ab_drop (ls' := [(0, .ref v0), (1, .int v1), (2, .int v2), (3, .long v3), (5, .long v5), (7, .int (v7 + x5)), (8, .int v8)]) [4, 5, 6, 7, 8, 2, 9] rfl ?_
        exact kbX1_worstTicks_88 ih hx hf
      · have hf := ab_iN c10 hf
        refine ab_lload (pc' := 80) (q := 1) dX1_worstTicks_78 rfl rfl ?_
        refine ab_lstore_n (pc' := 81) (ls' := [(3, .long (Int32.toInt64 ((v7 + x5) + x7))), (12, .long (Int32.toInt64 x9)), (10, .long (Int32.toInt64 ((v7 + x5) + x7))), (7, .int (v7 + x5)), (9, .int x3), (0, .ref v0), (1, .int v1), (2, .int v2), (5, .long v5), (8, .int v8)]) dX1_worstTicks_80 rfl (by decide) rfl rfl ?_
        refine ab_lload (pc' := 83) (q := 1) dX1_worstTicks_81 rfl rfl ?_
        refine ab_lstore (pc' := 85) (ls' := [(5, .long (Int32.toInt64 x9)), (3, .long (Int32.toInt64 ((v7 + x5) + x7))), (12, .long (Int32.toInt64 x9)), (10, .long (Int32.toInt64 ((v7 + x5) + x7))), (7, .int (v7 + x5)), (9, .int x3), (0, .ref v0), (1, .int v1), (2, .int v2), (8, .int v8)]) dX1_worstTicks_83 (by decide) rfl rfl ?_
        refine ab_iload (pc' := 87) (q := 9) dX1_worstTicks_85 rfl rfl ?_
        refine ab_istore_n (pc' := 88) (ls' := [(2, .int v8), (5, .long (Int32.toInt64 x9)), (3, .long (Int32.toInt64 ((v7 + x5) + x7))), (12, .long (Int32.toInt64 x9)), (10, .long (Int32.toInt64 ((v7 + x5) + x7))), (7, .int (v7 + x5)), (9, .int x3), (0, .ref v0), (1, .int v1), (8, .int v8)]) dX1_worstTicks_87 rfl (by decide) rfl rfl ?_
        refine ab_drop (ls' := [(0, .ref v0), (1, .int v1), (2, .int v8), (3, .long (Int32.toInt64 ((v7 + x5) + x7))), (5, .long (Int32.toInt64 x9)), (7, .int (v7 + x5)), (8, .int v8)]) [7, 8, 0, 2, 1, 5, 9] rfl ?_
        exact kbX1_worstTicks_88 ih hx hf
def fX1_worstTicks (h : ab_H) (a0 : Nat) (a1 : Int32) : Option Int32 := (lX1_worstTicks_13 h a0 a1 ab_fu 1 0 1 0 1).bind (fun q11 => some q11)
set_option maxRecDepth 20000 in
set_option maxHeartbeats 1000000 in
theorem kX1_worstTicks {l : Launch} {g : ab_G} {K : ab_K} {h : ab_H} {a0 : Nat} {a1 : Int32} {r : Int32} (hf : fX1_worstTicks h a0 a1 = some r) (hK : K (some (.int r)) h) : ab_S l g mX1_worstTicks 3 0 0 [.ref a0, .int a1] h K := by
  unfold fX1_worstTicks at hf
  refine ab_enter (ls := [(0, .ref a0), (1, .int a1)]) (by decide +kernel) rfl (Nat.le_of_ble_eq_true rfl) rfl ?_
  refine ab_iconst (pc' := 1) (v := 1) dX1_worstTicks_0 (by decide) rfl ?_
  refine ab_istore_n (pc' := 2) (ls' := [(2, .int 1), (0, .ref a0), (1, .int a1)]) dX1_worstTicks_1 rfl (by decide) rfl rfl ?_
  refine ab_lconst (pc' := 3) (v := 0) dX1_worstTicks_2 (by decide) rfl ?_
  refine ab_lstore_n (pc' := 4) (ls' := [(3, .long 0), (2, .int 1), (0, .ref a0), (1, .int a1)]) dX1_worstTicks_3 rfl (by decide) rfl rfl ?_
  refine ab_lconst (pc' := 5) (v := 1) dX1_worstTicks_4 (by decide) rfl ?_
  refine ab_lstore (pc' := 7) (ls' := [(5, .long 1), (3, .long 0), (2, .int 1), (0, .ref a0), (1, .int a1)]) dX1_worstTicks_5 (by decide) rfl rfl ?_
  refine ab_iconst (pc' := 8) (v := 0) dX1_worstTicks_7 (by decide) rfl ?_
  refine ab_istore (pc' := 10) (ls' := [(7, .int 0), (5, .long 1), (3, .long 0), (2, .int 1), (0, .ref a0), (1, .int a1)]) dX1_worstTicks_8 (by decide) rfl rfl ?_
  refine ab_iconst (pc' := 11) (v := 1) dX1_worstTicks_10 (by decide) rfl ?_
  refine ab_istore (pc' := 13) (ls' := [(8, .int 1), (7, .int 0), (5, .long 1), (3, .long 0), (2, .int 1), (0, .ref a0), (1, .int a1)]) dX1_worstTicks_11 (by decide) rfl rfl ?_
  refine ab_drop (ls' := [(0, .ref a0), (1, .int a1), (2, .int 1), (3, .long 0), (5, .long 1), (7, .int 0), (8, .int 1)]) [5, 6, 4, 3, 2, 1, 0] rfl ?_
  obtain ⟨q11, eq11, hf⟩ := ab_bd hf
  refine klX1_worstTicks_13 ?_ ab_fu _ _ _ _ _ eq11
  refine ab_iload_n (pc' := 95) (q := 0) dX1_worstTicks_94 rfl rfl rfl ?_
  have hf := Option.some.inj hf
  subst hf
  exact ab_iret rfl dX1_worstTicks_95 hK
-- DiskRests.commonDivisor(II)I (mode N, depth 0)
def lX6_commonDivisor_7  : Nat → Int32 → Int32 → Int32 → Option Int32
  | 0, _, _, _ => none
  | n + 1, v2, v3, v4 => if 50 ≤ (v4 : Int32) then some v2 else if (v3 : Int32) = 0 then some v2 else if (v3 : Int32) = 0 then none else lX6_commonDivisor_7 n v3 (v2 - v2 / v3 * v3) (v4 + 1)
set_option maxRecDepth 20000 in
set_option maxHeartbeats 1000000 in
theorem klX6_commonDivisor_7 {l : Launch} {g : ab_G} {K : ab_K} {h : ab_H}  {q : Int32} (hx : ab_Ev l g mX6_commonDivisor 0 0 0 34 [(2, .int q)] [] h 0 0 K) : ∀ (n : Nat) (v2 : Int32) (v3 : Int32) (v4 : Int32), lX6_commonDivisor_7 n v2 v3 v4 = some q → ab_Ev l g mX6_commonDivisor 0 0 0 7 [(2, .int v2), (3, .int v3), (4, .int v4)] [] h 0 0 K := by
  intro n
  induction n with
  | zero => intro v2 v3 v4 hf; cases (show (none : Option Int32) = some q from hf)
  | succ n ih =>
    intro v2 v3 v4 hf
    rw [lX6_commonDivisor_7] at hf
    refine ab_iload (pc' := 9) (q := 2) dX6_commonDivisor_7 rfl rfl ?_
    refine ab_bipush (pc' := 11) (v := 50) dX6_commonDivisor_9 (by decide) rfl ?_
    refine ab_icmp_ge (pc' := 14) (tgt := 34) dX6_commonDivisor_11 (by decide) rfl (fun c1 => ?_) (fun c1 => ?_)
    · have hf := ab_ip c1 hf
      have hf := Option.some.inj hf
      subst hf
      refine ab_drop (ls' := [(2, .int v2)]) [0] rfl ?_
      exact hx
    · have hf := ab_iN c1 hf
      refine ab_iload_n (pc' := 15) (q := 1) dX6_commonDivisor_14 rfl rfl rfl ?_
      refine ab_if_eq (pc' := 18) (tgt := 34) dX6_commonDivisor_15 (by decide) rfl (fun c2 => ?_) (fun c2 => ?_)
      · have hf := ab_ip c2 hf
        have hf := Option.some.inj hf
        subst hf
        refine ab_drop (ls' := [(2, .int v2)]) [0] rfl ?_
        exact hx
      · have hf := ab_iN c2 hf
        refine ab_iload_n (pc' := 19) (q := 0) dX6_commonDivisor_18 rfl rfl rfl ?_
        refine ab_iload_n (pc' := 20) (q := 1) dX6_commonDivisor_19 rfl rfl rfl ?_
        obtain ⟨n3, hf⟩ := ab_nz hf
        refine ab_irem (pc' := 21) dX6_commonDivisor_20 n3 rfl ?_
        refine ab_istore (pc' := 23) (ls' := [(5, .int (v2 - v2 / v3 * v3)), (2, .int v2), (3, .int v3), (4, .int v4)]) dX6_commonDivisor_21 (by decide) rfl rfl ?_
        refine ab_iload_n (pc' := 24) (q := 2) dX6_commonDivisor_23 rfl rfl rfl ?_
        refine ab_istore_n (pc' := 25) (ls' := [(2, .int v3), (5, .int (v2 - v2 / v3 * v3)), (3, .int v3), (4, .int v4)]) dX6_commonDivisor_24 rfl (by decide) rfl rfl ?_
        refine ab_iload (pc' := 27) (q := 1) dX6_commonDivisor_25 rfl rfl ?_
        refine ab_istore_n (pc' := 28) (ls' := [(3, .int (v2 - v2 / v3 * v3)), (2, .int v3), (5, .int (v2 - v2 / v3 * v3)), (4, .int v4)]) dX6_commonDivisor_27 rfl (by decide) rfl rfl ?_
        refine ab_iinc (pc' := 31) (q := 3) (v := (v4 + 1)) (ls' := [(4, .int (v4 + 1)), (3, .int (v2 - v2 / v3 * v3)), (2, .int v3), (5, .int (v2 - v2 / v3 * v3))]) dX6_commonDivisor_28 rfl rfl (by decide) rfl rfl ?_
        refine ab_goto (tgt := 7) dX6_commonDivisor_31 (by decide) ?_
        refine ab_drop (ls' := [(2, .int v3), (3, .int (v2 - v2 / v3 * v3)), (4, .int (v4 + 1))]) [2, 1, 0] rfl ?_
        exact ih _ _ _ hf
def bX6_commonDivisor_34 (v2 : Int32) : Option Int32 := some v2
set_option maxRecDepth 20000 in
set_option maxHeartbeats 1000000 in
theorem kbX6_commonDivisor_34 {l : Launch} {g : ab_G} {K : ab_K} {h : ab_H} {v2 : Int32} {r : Int32} (hf : bX6_commonDivisor_34 v2 = some r) (hK : K (some (.int r)) h) : ab_Ev l g mX6_commonDivisor 0 0 0 34 [(2, .int v2)] [] h 0 0 K := by
  unfold bX6_commonDivisor_34 at hf
  refine ab_iload_n (pc' := 35) (q := 0) dX6_commonDivisor_34 rfl rfl rfl ?_
  have hf := Option.some.inj hf
  subst hf
  exact ab_iret rfl dX6_commonDivisor_35 hK
def fX6_commonDivisor (a0 : Int32) (a1 : Int32) : Option Int32 := (lX6_commonDivisor_7 ab_fu a0 a1 0).bind (fun q4 => bX6_commonDivisor_34 q4)
set_option maxRecDepth 20000 in
set_option maxHeartbeats 1000000 in
theorem kX6_commonDivisor {l : Launch} {g : ab_G} {K : ab_K} {h : ab_H} {a0 : Int32} {a1 : Int32} {r : Int32} (hf : fX6_commonDivisor a0 a1 = some r) (hK : K (some (.int r)) h) : ab_S l g mX6_commonDivisor 0 0 0 [.int a0, .int a1] h K := by
  unfold fX6_commonDivisor at hf
  refine ab_enter (ls := [(0, .int a0), (1, .int a1)]) (by decide +kernel) rfl (Nat.le_of_ble_eq_true rfl) rfl ?_
  refine ab_iload_n (pc' := 1) (q := 0) dX6_commonDivisor_0 rfl rfl rfl ?_
  refine ab_istore_n (pc' := 2) (ls' := [(2, .int a0), (0, .int a0), (1, .int a1)]) dX6_commonDivisor_1 rfl (by decide) rfl rfl ?_
  refine ab_iload_n (pc' := 3) (q := 2) dX6_commonDivisor_2 rfl rfl rfl ?_
  refine ab_istore_n (pc' := 4) (ls' := [(3, .int a1), (2, .int a0), (0, .int a0), (1, .int a1)]) dX6_commonDivisor_3 rfl (by decide) rfl rfl ?_
  refine ab_iconst (pc' := 5) (v := 0) dX6_commonDivisor_4 (by decide) rfl ?_
  refine ab_istore (pc' := 7) (ls' := [(4, .int 0), (3, .int a1), (2, .int a0), (0, .int a0), (1, .int a1)]) dX6_commonDivisor_5 (by decide) rfl rfl ?_
  refine ab_drop (ls' := [(2, .int a0), (3, .int a1), (4, .int 0)]) [2, 1, 0] rfl ?_
  obtain ⟨q4, eq4, hf⟩ := ab_bd hf
  refine klX6_commonDivisor_7 ?_ ab_fu _ _ _ eq4
  exact kbX6_commonDivisor_34 hf hK
