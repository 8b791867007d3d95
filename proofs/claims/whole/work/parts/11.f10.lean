-- DiskRestsModel.dearest(III)I (mode R, depth 4)
def bX7_dearest_97 (rec : Int32 → Int32 → Int32 → Option Int32) (v0 : Nat) (v1 : Int32) (v2 : Int32) (v3 : Int32) (v4 : Int32) (v5 : Int32) (v6 : Int32) (h : ab_H) : Option Int32 := rec v4 v5 (v6 + 1)
set_option maxRecDepth 20000 in
set_option maxHeartbeats 1000000 in
theorem kbX7_dearest_97 {l : Launch} {g : ab_G} {K : ab_K} {h : ab_H} {v0 : Nat} {v1 : Int32} {v2 : Int32} {v3 : Int32} {v4 : Int32} {v5 : Int32} {v6 : Int32} {q : Int32} {rec : Int32 → Int32 → Int32 → Option Int32} (ih : ∀ (w4 : Int32) (w5 : Int32) (w6 : Int32), rec w4 w5 w6 = some q → ab_Ev l g mX7_dearest 4 0 0 10 [(0, .ref v0), (1, .int v1), (2, .int v2), (3, .int v3), (4, .int w4), (5, .int w5), (6, .int w6)] [] h 0 0 K) (hx : ab_Ev l g mX7_dearest 4 0 0 103 [(4, .int q)] [] h 0 0 K) (hf : bX7_dearest_97 rec v0 v1 v2 v3 v4 v5 v6 h = some q) : ab_Ev l g mX7_dearest 4 0 0 97 [(0, .ref v0), (1, .int v1), (2, .int v2), (3, .int v3), (4, .int v4), (5, .int v5), (6, .int v6)] [] h 0 0 K := by
  unfold bX7_dearest_97 at hf
  refine ab_iinc (pc' := 100) (q := 6) (v := (v6 + 1)) (ls' := [(6, .int (v6 + 1)), (0, .ref v0), (1, .int v1), (2, .int v2), (3, .int v3), (4, .int v4), (5, .int v5)]) dX7_dearest_97 rfl rfl (by decide) rfl rfl ?_
  refine ab_goto (tgt := 10) dX7_dearest_100 (by decide) ?_
  refine ab_drop (ls' := [(0, .ref v0), (1, .int v1), (2, .int v2), (3, .int v3), (4, .int v4), (5, .int v5), (6, .int (v6 + 1))]) [1, 2, 3, 4, 5, 6, 0] rfl ?_
  exact ih _ _ _ hf
def lX7_dearest_10 (h : ab_H) (v0 : Nat) (v1 : Int32) (v2 : Int32) (v3 : Int32) : Nat → Int32 → Int32 → Int32 → Option Int32
  | 0, _, _, _ => none
  | n + 1, v4, v5, v6 => (ab_gI h v0 7 27).bind (fun x1 => if (x1 - 1) ≤ (v6 : Int32) then some v4 else (ab_gR h v0 7 26).bind (fun r3 => (ab_aI h r3 v6).bind (fun x4 => (ab_gR h v0 7 25).bind (fun r5 => (ab_aI h r5 v6).bind (fun x6 => (ab_gR h v0 7 1).bind (fun r7 => (ab_aI h r7 (4 * v1)).bind (fun x8 => (ab_ob h v0 7).bind (fun u9 => (fX7_leastOf h v0 v1 (x4 - x6)).bind (fun x10 => (ab_gR h v0 7 28).bind (fun r11 => (ab_aZ h r11 v6).bind (fun x12 => if (x12 : Int32) = 0 then (ab_gR h v0 7 26).bind (fun r14 => (ab_aI h r14 v6).bind (fun x15 => if (v2 : Int32) = 0 then none else if ((x15 / v2) : Int32) = v3 then if (((x8 * (x4 - x6)) - x10) : Int32) ≤ v5 then bX7_dearest_97 (lX7_dearest_10 h v0 v1 v2 v3 n) v0 v1 v2 v3 v4 v5 v6 h else bX7_dearest_97 (lX7_dearest_10 h v0 v1 v2 v3 n) v0 v1 v2 v3 v6 ((x8 * (x4 - x6)) - x10) v6 h else bX7_dearest_97 (lX7_dearest_10 h v0 v1 v2 v3 n) v0 v1 v2 v3 v4 v5 v6 h)) else bX7_dearest_97 (lX7_dearest_10 h v0 v1 v2 v3 n) v0 v1 v2 v3 v4 v5 v6 h)))))))))))
set_option maxRecDepth 20000 in
set_option maxHeartbeats 1000000 in
theorem klX7_dearest_10 {l : Launch} {g : ab_G} {K : ab_K} {h : ab_H} {v0 : Nat} {v1 : Int32} {v2 : Int32} {v3 : Int32} {q : Int32} (hx : ab_Ev l g mX7_dearest 4 0 0 103 [(4, .int q)] [] h 0 0 K) : ∀ (n : Nat) (v4 : Int32) (v5 : Int32) (v6 : Int32), lX7_dearest_10 h v0 v1 v2 v3 n v4 v5 v6 = some q → ab_Ev l g mX7_dearest 4 0 0 10 [(0, .ref v0), (1, .int v1), (2, .int v2), (3, .int v3), (4, .int v4), (5, .int v5), (6, .int v6)] [] h 0 0 K := by
  intro n
  induction n with
  | zero => intro v4 v5 v6 hf; cases (show (none : Option Int32) = some q from hf)
  | succ n ih =>
    intro v4 v5 v6 hf
    rw [lX7_dearest_10] at hf
    refine ab_iload (pc' := 12) (q := 6) dX7_dearest_10 rfl rfl ?_
    refine ab_aload_n (pc' := 13) (q := 0) dX7_dearest_12 rfl rfl rfl ?_
    obtain ⟨x1, ex1, hf⟩ := ab_bd hf
    refine ab_getI (pc' := 16) (ci := 7) (k := 27) dX7_dearest_13 rfl (by decide) fl_X7_150 ex1 rfl ?_
    refine ab_iconst (pc' := 17) (v := 1) dX7_dearest_16 (by decide) rfl ?_
    refine ab_isub (pc' := 18) dX7_dearest_17 rfl ?_
    refine ab_icmp_ge (pc' := 21) (tgt := 103) dX7_dearest_18 (by decide) rfl (fun c2 => ?_) (fun c2 => ?_)
    · have hf := ab_ip c2 hf
      have hf := Option.some.inj hf
      subst hf
      refine ab_drop (ls' := [(4, .int v4)]) [4] rfl ?_
      exact hx
    · have hf := ab_iN c2 hf
      refine ab_aload_n (pc' := 22) (q := 0) dX7_dearest_21 rfl rfl rfl ?_
      obtain ⟨r3, er3, hf⟩ := ab_bd hf
      refine ab_getR (pc' := 25) (ci := 7) (k := 26) dX7_dearest_22 rfl (by decide) fl_X7_77 er3 rfl ?_
      refine ab_iload (pc' := 27) (q := 6) dX7_dearest_25 rfl rfl ?_
      obtain ⟨x4, ex4, hf⟩ := ab_bd hf
      refine ab_iald (pc' := 28) dX7_dearest_27 ex4 rfl ?_
      refine ab_aload_n (pc' := 29) (q := 0) dX7_dearest_28 rfl rfl rfl ?_
      obtain ⟨r5, er5, hf⟩ := ab_bd hf
      refine ab_getR (pc' := 32) (ci := 7) (k := 25) dX7_dearest_29 rfl (by decide) fl_X7_74 er5 rfl ?_
      refine ab_iload (pc' := 34) (q := 6) dX7_dearest_32 rfl rfl ?_
      obtain ⟨x6, ex6, hf⟩ := ab_bd hf
      refine ab_iald (pc' := 35) dX7_dearest_34 ex6 rfl ?_
      refine ab_isub (pc' := 36) dX7_dearest_35 rfl ?_
      refine ab_istore (pc' := 38) (ls' := [(7, .int (x4 - x6)), (0, .ref v0), (1, .int v1), (2, .int v2), (3, .int v3), (4, .int v4), (5, .int v5), (6, .int v6)]) dX7_dearest_36 (by decide) rfl rfl ?_
      refine ab_aload_n (pc' := 39) (q := 1) dX7_dearest_38 rfl rfl rfl ?_
      obtain ⟨r7, er7, hf⟩ := ab_bd hf
      refine ab_getR (pc' := 42) (ci := 7) (k := 1) dX7_dearest_39 rfl (by decide) fl_X7_13 er7 rfl ?_
      refine ab_iconst (pc' := 43) (v := 4) dX7_dearest_42 (by decide) rfl ?_
      refine ab_iload_n (pc' := 44) (q := 2) dX7_dearest_43 rfl rfl rfl ?_
      refine ab_imul (pc' := 45) dX7_dearest_44 rfl ?_
      obtain ⟨x8, ex8, hf⟩ := ab_bd hf
      refine ab_iald (pc' := 46) dX7_dearest_45 ex8 rfl ?_
      refine ab_iload (pc' := 48) (q := 0) dX7_dearest_46 rfl rfl ?_
      refine ab_imul (pc' := 49) dX7_dearest_48 rfl ?_
      refine ab_aload_n (pc' := 50) (q := 1) dX7_dearest_49 rfl rfl rfl ?_
      refine ab_iload_n (pc' := 51) (q := 2) dX7_dearest_50 rfl rfl rfl ?_
      refine ab_iload (pc' := 53) (q := 0) dX7_dearest_51 rfl rfl ?_
      obtain ⟨u9, eu9, hf⟩ := ab_bd hf
      obtain ⟨x10, ex10, hf⟩ := ab_bd hf
      refine ab_callV (pc' := 56) (Mc := mX7_leastOf) (as := [.int v1, .int (x4 - x6)]) (st := [.int (x8 * (x4 - x6))]) dX7_dearest_53 ml_X7_162 okX7_leastOf im_X7_leastOf se_X7_leastOf rfl eu9 rfl (by decide) (Nat.le_of_ble_eq_true rfl) (Nat.le_of_ble_eq_true rfl) (Nat.le_of_ble_eq_true rfl) rfl rfl (kX7_leastOf ex10 ?_)
      show ab_Ev l g mX7_dearest 4 0 0 56 [(7, .int (x4 - x6)), (0, .ref v0), (1, .int v1), (2, .int v2), (3, .int v3), (4, .int v4), (5, .int v5), (6, .int v6)] [.int x10, .int (x8 * (x4 - x6))] h 0 0 K
      refine ab_isub (pc' := 57) dX7_dearest_56 rfl ?_
      refine ab_istore (pc' := 59) (ls' := [(8, .int ((x8 * (x4 - x6)) - x10)), (7, .int (x4 - x6)), (0, .ref v0), (1, .int v1), (2, .int v2), (3, .int v3), (4, .int v4), (5, .int v5), (6, .int v6)]) dX7_dearest_57 (by decide) rfl rfl ?_
      refine ab_aload_n (pc' := 60) (q := 2) dX7_dearest_59 rfl rfl rfl ?_
      obtain ⟨r11, er11, hf⟩ := ab_bd hf
      refine ab_getR (pc' := 63) (ci := 7) (k := 28) dX7_dearest_60 rfl (by decide) fl_X7_80 er11 rfl ?_
      refine ab_iload (pc' := 65) (q := 8) dX7_dearest_63 rfl rfl ?_
      obtain ⟨x12, ex12, hf⟩ := ab_bd hf
      refine ab_zald (pc' := 66) dX7_dearest_65 ex12 rfl ?_
      refine ab_if_ne (pc' := 69) (tgt := 97) dX7_dearest_66 (by decide) rfl (fun c13 => ?_) (fun c13 => ?_)
      · have hf := ab_iN c13 hf
        refine ab_drop (ls' := [(0, .ref v0), (1, .int v1), (2, .int v2), (3, .int v3), (4, .int v4), (5, .int v5), (6, .int v6)]) [2, 3, 4, 5, 6, 7, 8] rfl ?_
        exact kbX7_dearest_97 ih hx hf
      · have hf := ab_ip c13 hf
        refine ab_aload_n (pc' := 70) (q := 2) dX7_dearest_69 rfl rfl rfl ?_
        obtain ⟨r14, er14, hf⟩ := ab_bd hf
        refine ab_getR (pc' := 73) (ci := 7) (k := 26) dX7_dearest_70 rfl (by decide) fl_X7_77 er14 rfl ?_
        refine ab_iload (pc' := 75) (q := 8) dX7_dearest_73 rfl rfl ?_
        obtain ⟨x15, ex15, hf⟩ := ab_bd hf
        refine ab_iald (pc' := 76) dX7_dearest_75 ex15 rfl ?_
        refine ab_iload_n (pc' := 77) (q := 4) dX7_dearest_76 rfl rfl rfl ?_
        obtain ⟨n16, hf⟩ := ab_nz hf
        refine ab_idiv (pc' := 78) dX7_dearest_77 n16 rfl ?_
        refine ab_iload_n (pc' := 79) (q := 5) dX7_dearest_78 rfl rfl rfl ?_
        refine ab_icmp_ne (pc' := 82) (tgt := 97) dX7_dearest_79 (by decide) rfl (fun c17 => ?_) (fun c17 => ?_)
        · have hf := ab_iN c17 hf
          refine ab_drop (ls' := [(0, .ref v0), (1, .int v1), (2, .int v2), (3, .int v3), (4, .int v4), (5, .int v5), (6, .int v6)]) [2, 3, 4, 5, 6, 7, 8] rfl ?_
          exact kbX7_dearest_97 ih hx hf
        · have hf := ab_ip c17 hf
          refine ab_iload (pc' := 84) (q := 0) dX7_dearest_82 rfl rfl ?_
          refine ab_iload (pc' := 86) (q := 7) dX7_dearest_84 rfl rfl ?_
          refine ab_icmp_le (pc' := 89) (tgt := 97) dX7_dearest_86 (by decide) rfl (fun c18 => ?_) (fun c18 => ?_)
          · have hf := ab_ip c18 hf
            refine ab_drop (ls' := [(0, .ref v0), (1, .int v1), (2, .int v2), (3, .int v3), (4, .int v4), (5, .int v5), (6, .int v6)]) [2, 3, 4, 5, 6, 7, 8] rfl ?_
            exact kbX7_dearest_97 ih hx hf
          · have hf := ab_iN c18 hf
            refine ab_iload (pc' := 91) (q := 8) dX7_dearest_89 rfl rfl ?_
            refine ab_istore (pc' := 93) (ls' := [(4, .int v6), (8, .int ((x8 * (x4 - x6)) - x10)), (7, .int (x4 - x6)), (0, .ref v0), (1, .int v1), (2, .int v2), (3, .int v3), (5, .int v5), (6, .int v6)]) dX7_dearest_91 (by decide) rfl rfl ?_
            refine ab_iload (pc' := 95) (q := 1) dX7_dearest_93 rfl rfl ?_
            refine ab_istore (pc' := 97) (ls' := [(5, .int ((x8 * (x4 - x6)) - x10)), (4, .int v6), (8, .int ((x8 * (x4 - x6)) - x10)), (7, .int (x4 - x6)), (0, .ref v0), (1, .int v1), (2, .int v2), (3, .int v3), (6, .int v6)]) dX7_dearest_95 (by decide) rfl rfl ?_
            refine ab_drop (ls' := [(0, .ref v0), (1, .int v1), (2, .int v2), (3, .int v3), (4, .int v6), (5, .int ((x8 * (x4 - x6)) - x10)), (6, .int v6)]) [4, 5, 6, 7, 1, 0, 8] rfl ?_
            exact kbX7_dearest_97 ih hx hf
def fX7_dearest (h : ab_H) (a0 : Nat) (a1 : Int32) (a2 : Int32) (a3 : Int32) : Option Int32 := (lX7_dearest_10 h a0 a1 a2 a3 ab_fu (-6) 0 0).bind (fun q19 => some q19)
set_option maxRecDepth 20000 in
set_option maxHeartbeats 1000000 in
theorem kX7_dearest {l : Launch} {g : ab_G} {K : ab_K} {h : ab_H} {a0 : Nat} {a1 : Int32} {a2 : Int32} {a3 : Int32} {r : Int32} (hf : fX7_dearest h a0 a1 a2 a3 = some r) (hK : K (some (.int r)) h) : ab_S l g mX7_dearest 4 0 0 [.ref a0, .int a1, .int a2, .int a3] h K := by
  unfold fX7_dearest at hf
  refine ab_enter (ls := [(0, .ref a0), (1, .int a1), (2, .int a2), (3, .int a3)]) (by decide +kernel) rfl (Nat.le_of_ble_eq_true rfl) rfl ?_
  refine ab_bipush (pc' := 2) (v := (-6)) dX7_dearest_0 (by decide) rfl ?_
  refine ab_istore (pc' := 4) (ls' := [(4, .int (-6)), (0, .ref a0), (1, .int a1), (2, .int a2), (3, .int a3)]) dX7_dearest_2 (by decide) rfl rfl ?_
  refine ab_iconst (pc' := 5) (v := 0) dX7_dearest_4 (by decide) rfl ?_
  refine ab_istore (pc' := 7) (ls' := [(5, .int 0), (4, .int (-6)), (0, .ref a0), (1, .int a1), (2, .int a2), (3, .int a3)]) dX7_dearest_5 (by decide) rfl rfl ?_
  refine ab_iconst (pc' := 8) (v := 0) dX7_dearest_7 (by decide) rfl ?_
  refine ab_istore (pc' := 10) (ls' := [(6, .int 0), (5, .int 0), (4, .int (-6)), (0, .ref a0), (1, .int a1), (2, .int a2), (3, .int a3)]) dX7_dearest_8 (by decide) rfl rfl ?_
  refine ab_drop (ls' := [(0, .ref a0), (1, .int a1), (2, .int a2), (3, .int a3), (4, .int (-6)), (5, .int 0), (6, .int 0)]) [3, 4, 5, 6, 2, 1, 0] rfl ?_
  obtain ⟨q19, eq19, hf⟩ := ab_bd hf
  refine klX7_dearest_10 ?_ ab_fu _ _ _ eq19
  refine ab_iload (pc' := 105) (q := 0) dX7_dearest_103 rfl rfl ?_
  have hf := Option.some.inj hf
  subst hf
  exact ab_iret rfl dX7_dearest_105 hK
-- DiskRestsModel.limited(III)I (mode W, depth 5)
def bX7_limited_30  (h : ab_H) : Option (Int32 × ab_H) := some ((-2), h)
set_option maxRecDepth 20000 in
set_option maxHeartbeats 1000000 in
theorem kbX7_limited_30 {l : Launch} {g : ab_G} {K : ab_K} {h : ab_H}  {r : (Int32 × ab_H)} (hf : bX7_limited_30 h = some r) (hK : K (some (.int r.1)) r.2) : ab_Ev l g mX7_limited 5 0 0 30 [] [] h 0 0 K := by
  unfold bX7_limited_30 at hf
  refine ab_bipush (pc' := 32) (v := (-2)) dX7_limited_30 (by decide) rfl ?_
  have hf := Option.some.inj hf
  subst hf
  exact ab_iret rfl dX7_limited_32 hK
def lX7_limited_71 (v0 : Nat) (v1 : Int32) (v2 : Int32) (v3 : Int32) : Nat → Int32 → Int32 → ab_H → Option (Int32 × ab_H)
  | 0, _, _, _ => none
  | n + 1, v4, v5, h => (ab_gI h v0 7 27).bind (fun x17 => if (x17 - 1) ≤ (v5 : Int32) then some (v4, h) else (ab_gR h v0 7 1).bind (fun r19 => (ab_aI h r19 (4 * v1)).bind (fun x20 => (ab_gR h v0 7 26).bind (fun r21 => (ab_aI h r21 v5).bind (fun x22 => (ab_gR h v0 7 25).bind (fun r23 => (ab_aI h r23 v5).bind (fun x24 => (ab_gR h v0 7 28).bind (fun r25 => (ab_sZ h r25 v5 0).bind (fun h26 => lX7_limited_71 v0 v1 v2 v3 n (v4 + (x20 * (x22 - x24))) (v5 + 1) h26)))))))))
set_option maxRecDepth 20000 in
set_option maxHeartbeats 1000000 in
theorem klX7_limited_71 {l : Launch} {g : ab_G} {K : ab_K} {v0 : Nat} {v1 : Int32} {v2 : Int32} {v3 : Int32} {q : (Int32 × ab_H)} (hx : ab_Ev l g mX7_limited 5 0 0 125 [(0, .ref v0), (1, .int v1), (2, .int v2), (3, .int v3), (4, .int q.1)] [] q.2 0 0 K) : ∀ (n : Nat) (v4 : Int32) (v5 : Int32) (h : ab_H), lX7_limited_71 v0 v1 v2 v3 n v4 v5 h = some q → ab_Ev l g mX7_limited 5 0 0 71 [(0, .ref v0), (1, .int v1), (2, .int v2), (3, .int v3), (4, .int v4), (5, .int v5)] [] h 0 0 K := by
  intro n
  induction n with
  | zero => intro v4 v5 h hf; cases (show (none : Option (Int32 × ab_H)) = some q from hf)
  | succ n ih =>
    intro v4 v5 h hf
    rw [lX7_limited_71] at hf
    refine ab_iload (pc' := 73) (q := 5) dX7_limited_71 rfl rfl ?_
    refine ab_aload_n (pc' := 74) (q := 0) dX7_limited_73 rfl rfl rfl ?_
    obtain ⟨x17, ex17, hf⟩ := ab_bd hf
    refine ab_getI (pc' := 77) (ci := 7) (k := 27) dX7_limited_74 rfl (by decide) fl_X7_150 ex17 rfl ?_
    refine ab_iconst (pc' := 78) (v := 1) dX7_limited_77 (by decide) rfl ?_
    refine ab_isub (pc' := 79) dX7_limited_78 rfl ?_
    refine ab_icmp_ge (pc' := 82) (tgt := 125) dX7_limited_79 (by decide) rfl (fun c18 => ?_) (fun c18 => ?_)
    · have hf := ab_ip c18 hf
      have hf := Option.some.inj hf
      subst hf
      refine ab_drop (ls' := [(0, .ref v0), (1, .int v1), (2, .int v2), (3, .int v3), (4, .int v4)]) [0, 1, 2, 3, 4] rfl ?_
      exact hx
    · have hf := ab_iN c18 hf
      refine ab_iload (pc' := 84) (q := 4) dX7_limited_82 rfl rfl ?_
      refine ab_aload_n (pc' := 85) (q := 0) dX7_limited_84 rfl rfl rfl ?_
      obtain ⟨r19, er19, hf⟩ := ab_bd hf
      refine ab_getR (pc' := 88) (ci := 7) (k := 1) dX7_limited_85 rfl (by decide) fl_X7_13 er19 rfl ?_
      refine ab_iconst (pc' := 89) (v := 4) dX7_limited_88 (by decide) rfl ?_
      refine ab_iload_n (pc' := 90) (q := 1) dX7_limited_89 rfl rfl rfl ?_
      refine ab_imul (pc' := 91) dX7_limited_90 rfl ?_
      obtain ⟨x20, ex20, hf⟩ := ab_bd hf
      refine ab_iald (pc' := 92) dX7_limited_91 ex20 rfl ?_
      refine ab_aload_n (pc' := 93) (q := 0) dX7_limited_92 rfl rfl rfl ?_
      obtain ⟨r21, er21, hf⟩ := ab_bd hf
      refine ab_getR (pc' := 96) (ci := 7) (k := 26) dX7_limited_93 rfl (by decide) fl_X7_77 er21 rfl ?_
      refine ab_iload (pc' := 98) (q := 5) dX7_limited_96 rfl rfl ?_
      obtain ⟨x22, ex22, hf⟩ := ab_bd hf
      refine ab_iald (pc' := 99) dX7_limited_98 ex22 rfl ?_
      refine ab_aload_n (pc' := 100) (q := 0) dX7_limited_99 rfl rfl rfl ?_
      obtain ⟨r23, er23, hf⟩ := ab_bd hf
      refine ab_getR (pc' := 103) (ci := 7) (k := 25) dX7_limited_100 rfl (by decide) fl_X7_74 er23 rfl ?_
      refine ab_iload (pc' := 105) (q := 5) dX7_limited_103 rfl rfl ?_
      obtain ⟨x24, ex24, hf⟩ := ab_bd hf
      refine ab_iald (pc' := 106) dX7_limited_105 ex24 rfl ?_
      refine ab_isub (pc' := 107) dX7_limited_106 rfl ?_
      refine ab_imul (pc' := 108) dX7_limited_107 rfl ?_
      refine ab_iadd (pc' := 109) dX7_limited_108 rfl ?_
      refine ab_istore (pc' := 111) (ls' := [(4, .int (v4 + (x20 * (x22 - x24)))), (0, .ref v0), (1, .int v1), (2, .int v2), (3, .int v3), (5, .int v5)]) dX7_limited_109 (by decide) rfl rfl ?_
      refine ab_aload_n (pc' := 112) (q := 1) dX7_limited_111 rfl rfl rfl ?_
      obtain ⟨r25, er25, hf⟩ := ab_bd hf
      refine ab_getR (pc' := 115) (ci := 7) (k := 28) dX7_limited_112 rfl (by decide) fl_X7_80 er25 rfl ?_
      refine ab_iload (pc' := 117) (q := 5) dX7_limited_115 rfl rfl ?_
      refine ab_iconst (pc' := 118) (v := 0) dX7_limited_117 (by decide) rfl ?_
      obtain ⟨h26, eh26, hf⟩ := ab_bd hf
      refine ab_zast (pc' := 119) dX7_limited_118 eh26 rfl ?_
      refine ab_iinc (pc' := 122) (q := 5) (v := (v5 + 1)) (ls' := [(5, .int (v5 + 1)), (4, .int (v4 + (x20 * (x22 - x24)))), (0, .ref v0), (1, .int v1), (2, .int v2), (3, .int v3)]) dX7_limited_119 rfl rfl (by decide) rfl rfl ?_
      refine ab_goto (tgt := 71) dX7_limited_122 (by decide) ?_
      refine ab_drop (ls' := [(0, .ref v0), (1, .int v1), (2, .int v2), (3, .int v3), (4, .int (v4 + (x20 * (x22 - x24)))), (5, .int (v5 + 1))]) [2, 3, 4, 5, 1, 0] rfl ?_
      exact ih _ _ _ hf
def bX7_limited_219 (rec : Int32 → Int32 → Int32 → ab_H → Option (Int32 × ab_H)) (v0 : Nat) (v1 : Int32) (v2 : Int32) (v3 : Int32) (v4 : Int32) (v5 : Int32) (v6 : Int32) (v7 : Int32) (h : ab_H) : Option (Int32 × ab_H) := rec v4 v6 (v7 + 1) h
set_option maxRecDepth 20000 in
set_option maxHeartbeats 1000000 in
theorem kbX7_limited_219 {l : Launch} {g : ab_G} {K : ab_K} {h : ab_H} {v0 : Nat} {v1 : Int32} {v2 : Int32} {v3 : Int32} {v4 : Int32} {v5 : Int32} {v6 : Int32} {v7 : Int32} {q : (Int32 × ab_H)} {rec : Int32 → Int32 → Int32 → ab_H → Option (Int32 × ab_H)} (ih : ∀ (w4 : Int32) (w6 : Int32) (w7 : Int32) (hw : ab_H), rec w4 w6 w7 hw = some q → ab_Ev l g mX7_limited 5 0 0 144 [(0, .ref v0), (1, .int v1), (2, .int v2), (3, .int v3), (4, .int w4), (5, .int v5), (6, .int w6), (7, .int w7)] [] hw 0 0 K) (hx : ab_Ev l g mX7_limited 5 0 0 225 [(0, .ref v0), (1, .int v1), (2, .int v2), (3, .int v3), (4, .int q.1), (5, .int v5)] [] q.2 0 0 K) (hf : bX7_limited_219 rec v0 v1 v2 v3 v4 v5 v6 v7 h = some q) : ab_Ev l g mX7_limited 5 0 0 219 [(0, .ref v0), (1, .int v1), (2, .int v2), (3, .int v3), (4, .int v4), (5, .int v5), (6, .int v6), (7, .int v7)] [] h 0 0 K := by
  unfold bX7_limited_219 at hf
  refine ab_iinc (pc' := 222) (q := 7) (v := (v7 + 1)) (ls' := [(7, .int (v7 + 1)), (0, .ref v0), (1, .int v1), (2, .int v2), (3, .int v3), (4, .int v4), (5, .int v5), (6, .int v6)]) dX7_limited_219 rfl rfl (by decide) rfl rfl ?_
  refine ab_goto (tgt := 144) dX7_limited_222 (by decide) ?_
  refine ab_drop (ls' := [(0, .ref v0), (1, .int v1), (2, .int v2), (3, .int v3), (4, .int v4), (5, .int v5), (6, .int v6), (7, .int (v7 + 1))]) [1, 2, 3, 4, 5, 6, 7, 0] rfl ?_
  exact ih _ _ _ _ hf
def lX7_limited_144 (v0 : Nat) (v1 : Int32) (v2 : Int32) (v3 : Int32) (v5 : Int32) : Nat → Int32 → Int32 → Int32 → ab_H → Option (Int32 × ab_H)
  | 0, _, _, _, _ => none
  | n + 1, v4, v6, v7, h => if v3 ≤ (v7 : Int32) then some (v4, h) else if (v6 : Int32) < 0 then some (v4, h) else (ab_ob h v0 7).bind (fun u32 => (fX7_dearest h v0 v1 v2 v5).bind (fun x33 => if (x33 : Int32) < 0 then bX7_limited_219 (lX7_limited_144 v0 v1 v2 v3 v5 n) v0 v1 v2 v3 v4 v5 x33 v7 h else (ab_gR h v0 7 26).bind (fun r35 => (ab_aI h r35 x33).bind (fun x36 => (ab_gR h v0 7 25).bind (fun r37 => (ab_aI h r37 x33).bind (fun x38 => (ab_gR h v0 7 1).bind (fun r39 => (ab_aI h r39 (4 * v1)).bind (fun x40 => (ab_ob h v0 7).bind (fun u41 => (fX7_leastOf h v0 v1 (x36 - x38)).bind (fun x42 => (ab_gR h v0 7 28).bind (fun r43 => (ab_sZ h r43 x33 1).bind (fun h44 => bX7_limited_219 (lX7_limited_144 v0 v1 v2 v3 v5 n) v0 v1 v2 v3 (v4 - ((x40 * (x36 - x38)) - x42)) v5 x33 v7 h44))))))))))))
set_option maxRecDepth 20000 in
set_option maxHeartbeats 1000000 in
theorem klX7_limited_144 {l : Launch} {g : ab_G} {K : ab_K} {v0 : Nat} {v1 : Int32} {v2 : Int32} {v3 : Int32} {v5 : Int32} {q : (Int32 × ab_H)} (hx : ab_Ev l g mX7_limited 5 0 0 225 [(0, .ref v0), (1, .int v1), (2, .int v2), (3, .int v3), (4, .int q.1), (5, .int v5)] [] q.2 0 0 K) : ∀ (n : Nat) (v4 : Int32) (v6 : Int32) (v7 : Int32) (h : ab_H), lX7_limited_144 v0 v1 v2 v3 v5 n v4 v6 v7 h = some q → ab_Ev l g mX7_limited 5 0 0 144 [(0, .ref v0), (1, .int v1), (2, .int v2), (3, .int v3), (4, .int v4), (5, .int v5), (6, .int v6), (7, .int v7)] [] h 0 0 K := by
  intro n
  induction n with
  | zero => intro v4 v6 v7 h hf; cases (show (none : Option (Int32 × ab_H)) = some q from hf)
  | succ n ih =>
    intro v4 v6 v7 h hf
    rw [lX7_limited_144] at hf
    refine ab_iload (pc' := 146) (q := 7) dX7_limited_144 rfl rfl ?_
    refine ab_iload_n (pc' := 147) (q := 3) dX7_limited_146 rfl rfl rfl ?_
    refine ab_icmp_ge (pc' := 150) (tgt := 225) dX7_limited_147 (by decide) rfl (fun c30 => ?_) (fun c30 => ?_)
    · have hf := ab_ip c30 hf
      have hf := Option.some.inj hf
      subst hf
      refine ab_drop (ls' := [(0, .ref v0), (1, .int v1), (2, .int v2), (3, .int v3), (4, .int v4), (5, .int v5)]) [0, 1, 2, 3, 4, 5] rfl ?_
      exact hx
    · have hf := ab_iN c30 hf
      refine ab_iload (pc' := 152) (q := 6) dX7_limited_150 rfl rfl ?_
      refine ab_if_lt (pc' := 155) (tgt := 225) dX7_limited_152 (by decide) rfl (fun c31 => ?_) (fun c31 => ?_)
      · have hf := ab_ip c31 hf
        have hf := Option.some.inj hf
        subst hf
        refine ab_drop (ls' := [(0, .ref v0), (1, .int v1), (2, .int v2), (3, .int v3), (4, .int v4), (5, .int v5)]) [0, 1, 2, 3, 4, 5] rfl ?_
        exact hx
      · have hf := ab_iN c31 hf
        refine ab_aload_n (pc' := 156) (q := 0) dX7_limited_155 rfl rfl rfl ?_
        refine ab_iload_n (pc' := 157) (q := 1) dX7_limited_156 rfl rfl rfl ?_
        refine ab_iload_n (pc' := 158) (q := 2) dX7_limited_157 rfl rfl rfl ?_
        refine ab_iload (pc' := 160) (q := 5) dX7_limited_158 rfl rfl ?_
        obtain ⟨u32, eu32, hf⟩ := ab_bd hf
        obtain ⟨x33, ex33, hf⟩ := ab_bd hf
        refine ab_callV (pc' := 163) (Mc := mX7_dearest) (as := [.int v1, .int v2, .int v5]) (st := []) dX7_limited_160 ml_X7_165 okX7_dearest im_X7_dearest se_X7_dearest rfl eu32 rfl (by decide) (Nat.le_of_ble_eq_true rfl) (Nat.le_of_ble_eq_true rfl) (Nat.le_of_ble_eq_true rfl) rfl rfl (kX7_dearest ex33 ?_)
        show ab_Ev l g mX7_limited 5 0 0 163 [(0, .ref v0), (1, .int v1), (2, .int v2), (3, .int v3), (4, .int v4), (5, .int v5), (6, .int v6), (7, .int v7)] [.int x33] h 0 0 K
        refine ab_istore (pc' := 165) (ls' := [(6, .int x33), (0, .ref v0), (1, .int v1), (2, .int v2), (3, .int v3), (4, .int v4), (5, .int v5), (7, .int v7)]) dX7_limited_163 (by decide) rfl rfl ?_
        refine ab_iload (pc' := 167) (q := 0) dX7_limited_165 rfl rfl ?_
        refine ab_if_lt (pc' := 170) (tgt := 219) dX7_limited_167 (by decide) rfl (fun c34 => ?_) (fun c34 => ?_)
        · have hf := ab_ip c34 hf
          refine ab_drop (ls' := [(0, .ref v0), (1, .int v1), (2, .int v2), (3, .int v3), (4, .int v4), (5, .int v5), (6, .int x33), (7, .int v7)]) [1, 2, 3, 4, 5, 6, 0, 7] rfl ?_
          exact kbX7_limited_219 ih hx hf
        · have hf := ab_iN c34 hf
          refine ab_aload_n (pc' := 171) (q := 1) dX7_limited_170 rfl rfl rfl ?_
          obtain ⟨r35, er35, hf⟩ := ab_bd hf
          refine ab_getR (pc' := 174) (ci := 7) (k := 26) dX7_limited_171 rfl (by decide) fl_X7_77 er35 rfl ?_
          refine ab_iload (pc' := 176) (q := 0) dX7_limited_174 rfl rfl ?_
          obtain ⟨x36, ex36, hf⟩ := ab_bd hf
          refine ab_iald (pc' := 177) dX7_limited_176 ex36 rfl ?_
          refine ab_aload_n (pc' := 178) (q := 1) dX7_limited_177 rfl rfl rfl ?_
          obtain ⟨r37, er37, hf⟩ := ab_bd hf
          refine ab_getR (pc' := 181) (ci := 7) (k := 25) dX7_limited_178 rfl (by decide) fl_X7_74 er37 rfl ?_
          refine ab_iload (pc' := 183) (q := 0) dX7_limited_181 rfl rfl ?_
          obtain ⟨x38, ex38, hf⟩ := ab_bd hf
          refine ab_iald (pc' := 184) dX7_limited_183 ex38 rfl ?_
          refine ab_isub (pc' := 185) dX7_limited_184 rfl ?_
          refine ab_istore (pc' := 187) (ls' := [(8, .int (x36 - x38)), (6, .int x33), (0, .ref v0), (1, .int v1), (2, .int v2), (3, .int v3), (4, .int v4), (5, .int v5), (7, .int v7)]) dX7_limited_185 (by decide) rfl rfl ?_
          refine ab_iload (pc' := 189) (q := 6) dX7_limited_187 rfl rfl ?_
          refine ab_aload_n (pc' := 190) (q := 2) dX7_limited_189 rfl rfl rfl ?_
          obtain ⟨r39, er39, hf⟩ := ab_bd hf
          refine ab_getR (pc' := 193) (ci := 7) (k := 1) dX7_limited_190 rfl (by decide) fl_X7_13 er39 rfl ?_
          refine ab_iconst (pc' := 194) (v := 4) dX7_limited_193 (by decide) rfl ?_
          refine ab_iload_n (pc' := 195) (q := 3) dX7_limited_194 rfl rfl rfl ?_
          refine ab_imul (pc' := 196) dX7_limited_195 rfl ?_
          obtain ⟨x40, ex40, hf⟩ := ab_bd hf
          refine ab_iald (pc' := 197) dX7_limited_196 ex40 rfl ?_
          refine ab_iload (pc' := 199) (q := 0) dX7_limited_197 rfl rfl ?_
          refine ab_imul (pc' := 200) dX7_limited_199 rfl ?_
          refine ab_aload_n (pc' := 201) (q := 2) dX7_limited_200 rfl rfl rfl ?_
          refine ab_iload_n (pc' := 202) (q := 3) dX7_limited_201 rfl rfl rfl ?_
          refine ab_iload (pc' := 204) (q := 0) dX7_limited_202 rfl rfl ?_
          obtain ⟨u41, eu41, hf⟩ := ab_bd hf
          obtain ⟨x42, ex42, hf⟩ := ab_bd hf
          refine ab_callV (pc' := 207) (Mc := mX7_leastOf) (as := [.int v1, .int (x36 - x38)]) (st := [.int (x40 * (x36 - x38)), .int v4]) dX7_limited_204 ml_X7_162 okX7_leastOf im_X7_leastOf se_X7_leastOf rfl eu41 rfl (by decide) (Nat.le_of_ble_eq_true rfl) (Nat.le_of_ble_eq_true rfl) (Nat.le_of_ble_eq_true rfl) rfl rfl (kX7_leastOf ex42 ?_)
          show ab_Ev l g mX7_limited 5 0 0 207 [(8, .int (x36 - x38)), (6, .int x33), (0, .ref v0), (1, .int v1), (2, .int v2), (3, .int v3), (4, .int v4), (5, .int v5), (7, .int v7)] [.int x42, .int (x40 * (x36 - x38)), .int v4] h 0 0 K
          refine ab_isub (pc' := 208) dX7_limited_207 rfl ?_
          refine ab_isub (pc' := 209) dX7_limited_208 rfl ?_
          refine ab_istore (pc' := 211) (ls' := [(4, .int (v4 - ((x40 * (x36 - x38)) - x42))), (8, .int (x36 - x38)), (6, .int x33), (0, .ref v0), (1, .int v1), (2, .int v2), (3, .int v3), (5, .int v5), (7, .int v7)]) dX7_limited_209 (by decide) rfl rfl ?_
          refine ab_aload_n (pc' := 212) (q := 3) dX7_limited_211 rfl rfl rfl ?_
          obtain ⟨r43, er43, hf⟩ := ab_bd hf
          refine ab_getR (pc' := 215) (ci := 7) (k := 28) dX7_limited_212 rfl (by decide) fl_X7_80 er43 rfl ?_
          refine ab_iload (pc' := 217) (q := 2) dX7_limited_215 rfl rfl ?_
          refine ab_iconst (pc' := 218) (v := 1) dX7_limited_217 (by decide) rfl ?_
          obtain ⟨h44, eh44, hf⟩ := ab_bd hf
          refine ab_zast (pc' := 219) dX7_limited_218 eh44 rfl ?_
          refine ab_drop (ls' := [(0, .ref v0), (1, .int v1), (2, .int v2), (3, .int v3), (4, .int (v4 - ((x40 * (x36 - x38)) - x42))), (5, .int v5), (6, .int x33), (7, .int v7)]) [3, 4, 5, 6, 0, 7, 2, 8] rfl ?_
          exact kbX7_limited_219 ih hx hf
def bX7_limited_225 (rec : Int32 → Int32 → ab_H → Option (Int32 × ab_H)) (v0 : Nat) (v1 : Int32) (v2 : Int32) (v3 : Int32) (v4 : Int32) (v5 : Int32) (h : ab_H) : Option (Int32 × ab_H) := rec v4 (v5 + 1) h
set_option maxRecDepth 20000 in
set_option maxHeartbeats 1000000 in
theorem kbX7_limited_225 {l : Launch} {g : ab_G} {K : ab_K} {h : ab_H} {v0 : Nat} {v1 : Int32} {v2 : Int32} {v3 : Int32} {v4 : Int32} {v5 : Int32} {q : (Int32 × ab_H)} {rec : Int32 → Int32 → ab_H → Option (Int32 × ab_H)} (ih : ∀ (w4 : Int32) (w5 : Int32) (hw : ab_H), rec w4 w5 hw = some q → ab_Ev l g mX7_limited 5 0 0 128 [(0, .ref v0), (1, .int v1), (2, .int v2), (3, .int v3), (4, .int w4), (5, .int w5)] [] hw 0 0 K) (hx : ab_Ev l g mX7_limited 5 0 0 231 [(4, .int q.1)] [] q.2 0 0 K) (hf : bX7_limited_225 rec v0 v1 v2 v3 v4 v5 h = some q) : ab_Ev l g mX7_limited 5 0 0 225 [(0, .ref v0), (1, .int v1), (2, .int v2), (3, .int v3), (4, .int v4), (5, .int v5)] [] h 0 0 K := by
  unfold bX7_limited_225 at hf
  refine ab_iinc (pc' := 228) (q := 5) (v := (v5 + 1)) (ls' := [(5, .int (v5 + 1)), (0, .ref v0), (1, .int v1), (2, .int v2), (3, .int v3), (4, .int v4)]) dX7_limited_225 rfl rfl (by decide) rfl rfl ?_
  refine ab_goto (tgt := 128) dX7_limited_228 (by decide) ?_
  refine ab_drop (ls' := [(0, .ref v0), (1, .int v1), (2, .int v2), (3, .int v3), (4, .int v4), (5, .int (v5 + 1))]) [1, 2, 3, 4, 5, 0] rfl ?_
  exact ih _ _ _ hf
def lX7_limited_128 (v0 : Nat) (v1 : Int32) (v2 : Int32) (v3 : Int32) : Nat → Int32 → Int32 → ab_H → Option (Int32 × ab_H)
  | 0, _, _, _ => none
  | n + 1, v4, v5, h => if (v2 : Int32) = 0 then none else if (1000 / v2) < (v5 : Int32) then some (v4, h) else (lX7_limited_144 v0 v1 v2 v3 v5 ab_fu v4 0 0 h).bind (fun q45 => bX7_limited_225 (lX7_limited_128 v0 v1 v2 v3 n) v0 v1 v2 v3 q45.1 v5 q45.2)
set_option maxRecDepth 20000 in
set_option maxHeartbeats 1000000 in
theorem klX7_limited_128 {l : Launch} {g : ab_G} {K : ab_K} {v0 : Nat} {v1 : Int32} {v2 : Int32} {v3 : Int32} {q : (Int32 × ab_H)} (hx : ab_Ev l g mX7_limited 5 0 0 231 [(4, .int q.1)] [] q.2 0 0 K) : ∀ (n : Nat) (v4 : Int32) (v5 : Int32) (h : ab_H), lX7_limited_128 v0 v1 v2 v3 n v4 v5 h = some q → ab_Ev l g mX7_limited 5 0 0 128 [(0, .ref v0), (1, .int v1), (2, .int v2), (3, .int v3), (4, .int v4), (5, .int v5)] [] h 0 0 K := by
  intro n
  induction n with
  | zero => intro v4 v5 h hf; cases (show (none : Option (Int32 × ab_H)) = some q from hf)
  | succ n ih =>
    intro v4 v5 h hf
    rw [lX7_limited_128] at hf
    refine ab_iload (pc' := 130) (q := 5) dX7_limited_128 rfl rfl ?_
    refine ab_sipush (pc' := 133) (v := 1000) dX7_limited_130 (by decide) rfl ?_
    refine ab_iload_n (pc' := 134) (q := 2) dX7_limited_133 rfl rfl rfl ?_
    obtain ⟨n28, hf⟩ := ab_nz hf
    refine ab_idiv (pc' := 135) dX7_limited_134 n28 rfl ?_
    refine ab_icmp_gt (pc' := 138) (tgt := 231) dX7_limited_135 (by decide) rfl (fun c29 => ?_) (fun c29 => ?_)
    · have hf := ab_ip c29 hf
      have hf := Option.some.inj hf
      subst hf
      refine ab_drop (ls' := [(4, .int v4)]) [4] rfl ?_
      exact hx
    · have hf := ab_iN c29 hf
      refine ab_iconst (pc' := 139) (v := 0) dX7_limited_138 (by decide) rfl ?_
      refine ab_istore (pc' := 141) (ls' := [(6, .int 0), (0, .ref v0), (1, .int v1), (2, .int v2), (3, .int v3), (4, .int v4), (5, .int v5)]) dX7_limited_139 (by decide) rfl rfl ?_
      refine ab_iconst (pc' := 142) (v := 0) dX7_limited_141 (by decide) rfl ?_
      refine ab_istore (pc' := 144) (ls' := [(7, .int 0), (6, .int 0), (0, .ref v0), (1, .int v1), (2, .int v2), (3, .int v3), (4, .int v4), (5, .int v5)]) dX7_limited_142 (by decide) rfl rfl ?_
      refine ab_drop (ls' := [(0, .ref v0), (1, .int v1), (2, .int v2), (3, .int v3), (4, .int v4), (5, .int v5), (6, .int 0), (7, .int 0)]) [2, 3, 4, 5, 6, 7, 1, 0] rfl ?_
      obtain ⟨q45, eq45, hf⟩ := ab_bd hf
      refine klX7_limited_144 ?_ ab_fu _ _ _ _ eq45
      exact kbX7_limited_225 ih hx hf
def fX7_limited (h : ab_H) (a0 : Nat) (a1 : Int32) (a2 : Int32) (a3 : Int32) : Option (Int32 × ab_H) := (fX7_isDisk a1).bind (fun x1 => if (x1 : Int32) = 0 then some ((-1), h) else (fX7_in a2 1 1000).bind (fun x3 => if (x3 : Int32) = 0 then bX7_limited_30 h else (fX7_in a3 0 40).bind (fun x5 => if (x5 : Int32) = 0 then bX7_limited_30 h else (ab_ob h a0 7).bind (fun u7 => (fX7_layGaps h a0 a1).bind (fun h8 => (ab_gR h8 a0 7 26).bind (fun r9 => (ab_gI h8 a0 7 27).bind (fun x10 => (ab_aI h8 r9 (x10 - 1)).bind (fun x11 => (ab_gR h8 a0 7 25).bind (fun r12 => (ab_gI h8 a0 7 27).bind (fun x13 => (ab_aI h8 r12 (x13 - 1)).bind (fun x14 => (ab_ob h8 a0 7).bind (fun u15 => (fX7_leastToEnd h8 a0 a1 (x11 - x14)).bind (fun x16 => (lX7_limited_71 a0 a1 a2 a3 ab_fu x16 0 h8).bind (fun q27 => (lX7_limited_128 a0 a1 a2 a3 ab_fu q27.1 0 q27.2).bind (fun q46 => some (q46.1, q46.2))))))))))))))))
set_option maxRecDepth 20000 in
set_option maxHeartbeats 1000000 in
theorem kX7_limited {l : Launch} {g : ab_G} {K : ab_K} {h : ab_H} {a0 : Nat} {a1 : Int32} {a2 : Int32} {a3 : Int32} {r : (Int32 × ab_H)} (hf : fX7_limited h a0 a1 a2 a3 = some r) (hK : K (some (.int r.1)) r.2) : ab_S l g mX7_limited 5 0 0 [.ref a0, .int a1, .int a2, .int a3] h K := by
  unfold fX7_limited at hf
  refine ab_enter (ls := [(0, .ref a0), (1, .int a1), (2, .int a2), (3, .int a3)]) (by decide +kernel) rfl (Nat.le_of_ble_eq_true rfl) rfl ?_
  refine ab_iload_n (pc' := 1) (q := 1) dX7_limited_0 rfl rfl rfl ?_
  obtain ⟨x1, ex1, hf⟩ := ab_bd hf
  refine ab_callS (pc' := 4) (Mc := mX7_isDisk) (as := [.int a1]) (st := []) dX7_limited_1 ml_X7_97 okX7_isDisk ss_X7_isDisk rfl (by decide) (Nat.le_of_ble_eq_true rfl) (Nat.le_of_ble_eq_true rfl) (Nat.le_of_ble_eq_true rfl) rfl rfl (kX7_isDisk ex1 ?_)
  show ab_Ev l g mX7_limited 5 0 0 4 [(0, .ref a0), (1, .int a1), (2, .int a2), (3, .int a3)] [.int x1] h 0 0 K
  refine ab_if_ne (pc' := 7) (tgt := 9) dX7_limited_4 (by decide) rfl (fun c2 => ?_) (fun c2 => ?_)
  · have hf := ab_iN c2 hf
    refine ab_iload_n (pc' := 10) (q := 2) dX7_limited_9 rfl rfl rfl ?_
    refine ab_iconst (pc' := 11) (v := 1) dX7_limited_10 (by decide) rfl ?_
    refine ab_sipush (pc' := 14) (v := 1000) dX7_limited_11 (by decide) rfl ?_
    obtain ⟨x3, ex3, hf⟩ := ab_bd hf
    refine ab_callS (pc' := 17) (Mc := mX7_in) (as := [.int a2, .int 1, .int 1000]) (st := []) dX7_limited_14 ml_X7_90 okX7_in ss_X7_in rfl (by decide) (Nat.le_of_ble_eq_true rfl) (Nat.le_of_ble_eq_true rfl) (Nat.le_of_ble_eq_true rfl) rfl rfl (kX7_in ex3 ?_)
    show ab_Ev l g mX7_limited 5 0 0 17 [(0, .ref a0), (1, .int a1), (2, .int a2), (3, .int a3)] [.int x3] h 0 0 K
    refine ab_if_eq (pc' := 20) (tgt := 30) dX7_limited_17 (by decide) rfl (fun c4 => ?_) (fun c4 => ?_)
    · have hf := ab_ip c4 hf
      refine ab_drop (ls' := []) [] rfl ?_
      exact kbX7_limited_30 hf hK
    · have hf := ab_iN c4 hf
      refine ab_iload_n (pc' := 21) (q := 3) dX7_limited_20 rfl rfl rfl ?_
      refine ab_iconst (pc' := 22) (v := 0) dX7_limited_21 (by decide) rfl ?_
      refine ab_bipush (pc' := 24) (v := 40) dX7_limited_22 (by decide) rfl ?_
      obtain ⟨x5, ex5, hf⟩ := ab_bd hf
      refine ab_callS (pc' := 27) (Mc := mX7_in) (as := [.int a3, .int 0, .int 40]) (st := []) dX7_limited_24 ml_X7_90 okX7_in ss_X7_in rfl (by decide) (Nat.le_of_ble_eq_true rfl) (Nat.le_of_ble_eq_true rfl) (Nat.le_of_ble_eq_true rfl) rfl rfl (kX7_in ex5 ?_)
      show ab_Ev l g mX7_limited 5 0 0 27 [(0, .ref a0), (1, .int a1), (2, .int a2), (3, .int a3)] [.int x5] h 0 0 K
      refine ab_if_ne (pc' := 30) (tgt := 33) dX7_limited_27 (by decide) rfl (fun c6 => ?_) (fun c6 => ?_)
      · have hf := ab_iN c6 hf
        refine ab_aload_n (pc' := 34) (q := 0) dX7_limited_33 rfl rfl rfl ?_
        refine ab_iload_n (pc' := 35) (q := 1) dX7_limited_34 rfl rfl rfl ?_
        obtain ⟨u7, eu7, hf⟩ := ab_bd hf
        obtain ⟨h8, eh8, hf⟩ := ab_bd hf
        refine ab_callV (pc' := 38) (Mc := mX7_layGaps) (as := [.int a1]) (st := []) dX7_limited_35 ml_X7_156 okX7_layGaps im_X7_layGaps se_X7_layGaps rfl eu7 rfl (by decide) (Nat.le_of_ble_eq_true rfl) (Nat.le_of_ble_eq_true rfl) (Nat.le_of_ble_eq_true rfl) rfl rfl (kX7_layGaps eh8 ?_)
        show ab_Ev l g mX7_limited 5 0 0 38 [(0, .ref a0), (1, .int a1), (2, .int a2), (3, .int a3)] [] h8 0 0 K
        refine ab_aload_n (pc' := 39) (q := 0) dX7_limited_38 rfl rfl rfl ?_
        refine ab_iload_n (pc' := 40) (q := 1) dX7_limited_39 rfl rfl rfl ?_
        refine ab_aload_n (pc' := 41) (q := 0) dX7_limited_40 rfl rfl rfl ?_
        obtain ⟨r9, er9, hf⟩ := ab_bd hf
        refine ab_getR (pc' := 44) (ci := 7) (k := 26) dX7_limited_41 rfl (by decide) fl_X7_77 er9 rfl ?_
        refine ab_aload_n (pc' := 45) (q := 0) dX7_limited_44 rfl rfl rfl ?_
        obtain ⟨x10, ex10, hf⟩ := ab_bd hf
        refine ab_getI (pc' := 48) (ci := 7) (k := 27) dX7_limited_45 rfl (by decide) fl_X7_150 ex10 rfl ?_
        refine ab_iconst (pc' := 49) (v := 1) dX7_limited_48 (by decide) rfl ?_
        refine ab_isub (pc' := 50) dX7_limited_49 rfl ?_
        obtain ⟨x11, ex11, hf⟩ := ab_bd hf
        refine ab_iald (pc' := 51) dX7_limited_50 ex11 rfl ?_
        refine ab_aload_n (pc' := 52) (q := 0) dX7_limited_51 rfl rfl rfl ?_
        obtain ⟨r12, er12, hf⟩ := ab_bd hf
        refine ab_getR (pc' := 55) (ci := 7) (k := 25) dX7_limited_52 rfl (by decide) fl_X7_74 er12 rfl ?_
        refine ab_aload_n (pc' := 56) (q := 0) dX7_limited_55 rfl rfl rfl ?_
        obtain ⟨x13, ex13, hf⟩ := ab_bd hf
        refine ab_getI (pc' := 59) (ci := 7) (k := 27) dX7_limited_56 rfl (by decide) fl_X7_150 ex13 rfl ?_
        refine ab_iconst (pc' := 60) (v := 1) dX7_limited_59 (by decide) rfl ?_
        refine ab_isub (pc' := 61) dX7_limited_60 rfl ?_
        obtain ⟨x14, ex14, hf⟩ := ab_bd hf
        refine ab_iald (pc' := 62) dX7_limited_61 ex14 rfl ?_
        refine ab_isub (pc' := 63) dX7_limited_62 rfl ?_
        obtain ⟨u15, eu15, hf⟩ := ab_bd hf
        obtain ⟨x16, ex16, hf⟩ := ab_bd hf
        refine ab_callV (pc' := 66) (Mc := mX7_leastToEnd) (as := [.int a1, .int (x11 - x14)]) (st := []) dX7_limited_63 ml_X7_159 okX7_leastToEnd im_X7_leastToEnd se_X7_leastToEnd rfl eu15 rfl (by decide) (Nat.le_of_ble_eq_true rfl) (Nat.le_of_ble_eq_true rfl) (Nat.le_of_ble_eq_true rfl) rfl rfl (kX7_leastToEnd ex16 ?_)
        show ab_Ev l g mX7_limited 5 0 0 66 [(0, .ref a0), (1, .int a1), (2, .int a2), (3, .int a3)] [.int x16] h8 0 0 K
        refine ab_istore (pc' := 68) (ls' := [(4, .int x16), (0, .ref a0), (1, .int a1), (2, .int a2), (3, .int a3)]) dX7_limited_66 (by decide) rfl rfl ?_
        refine ab_iconst (pc' := 69) (v := 0) dX7_limited_68 (by decide) rfl ?_
        refine ab_istore (pc' := 71) (ls' := [(5, .int 0), (4, .int x16), (0, .ref a0), (1, .int a1), (2, .int a2), (3, .int a3)]) dX7_limited_69 (by decide) rfl rfl ?_
        refine ab_drop (ls' := [(0, .ref a0), (1, .int a1), (2, .int a2), (3, .int a3), (4, .int x16), (5, .int 0)]) [2, 3, 4, 5, 1, 0] rfl ?_
        obtain ⟨q27, eq27, hf⟩ := ab_bd hf
        refine klX7_limited_71 ?_ ab_fu _ _ _ eq27
        refine ab_iconst (pc' := 126) (v := 0) dX7_limited_125 (by decide) rfl ?_
        refine ab_istore (pc' := 128) (ls' := [(5, .int 0), (0, .ref a0), (1, .int a1), (2, .int a2), (3, .int a3), (4, .int q27.1)]) dX7_limited_126 (by decide) rfl rfl ?_
        refine ab_drop (ls' := [(0, .ref a0), (1, .int a1), (2, .int a2), (3, .int a3), (4, .int q27.1), (5, .int 0)]) [1, 2, 3, 4, 5, 0] rfl ?_
        obtain ⟨q46, eq46, hf⟩ := ab_bd hf
        refine klX7_limited_128 ?_ ab_fu _ _ _ eq46
        refine ab_iload (pc' := 233) (q := 0) dX7_limited_231 rfl rfl ?_
        have hf := Option.some.inj hf
        subst hf
        exact ab_iret rfl dX7_limited_233 hK
      · have hf := ab_ip c6 hf
        refine ab_drop (ls' := []) [] rfl ?_
        exact kbX7_limited_30 hf hK
  · have hf := ab_ip c2 hf
    refine ab_iconst (pc' := 8) (v := (-1)) dX7_limited_7 (by decide) rfl ?_
    have hf := Option.some.inj hf
    subst hf
    exact ab_iret rfl dX7_limited_8 hK
-- DiskRestsModel.costOf(II)I (mode R, depth 4)
def lX7_costOf_8 (h : ab_H) (v0 : Nat) (v1 : Int32) (v2 : Int32) : Nat → Int32 → Int32 → Int32 → Option (Int32 × Int32)
  | 0, _, _, _ => none
  | n + 1, v3, v4, v5 => if v2 ≤ (v5 : Int32) then some (v3, v4) else (ab_ob h v0 7).bind (fun u2 => (fX7_levelFor h v0 v1 v5).bind (fun x3 => (ab_gR h v0 7 1).bind (fun r4 => (ab_aI h r4 ((4 * v1) + x3)).bind (fun x5 => lX7_costOf_8 h v0 v1 v2 n (v3 + x5) x3 (v5 + 1)))))
set_option maxRecDepth 20000 in
set_option maxHeartbeats 1000000 in
theorem klX7_costOf_8 {l : Launch} {g : ab_G} {K : ab_K} {h : ab_H} {v0 : Nat} {v1 : Int32} {v2 : Int32} {q : (Int32 × Int32)} (hx : ab_Ev l g mX7_costOf 4 0 0 43 [(0, .ref v0), (1, .int v1), (3, .int q.1), (4, .int q.2)] [] h 0 0 K) : ∀ (n : Nat) (v3 : Int32) (v4 : Int32) (v5 : Int32), lX7_costOf_8 h v0 v1 v2 n v3 v4 v5 = some q → ab_Ev l g mX7_costOf 4 0 0 8 [(0, .ref v0), (1, .int v1), (2, .int v2), (3, .int v3), (4, .int v4), (5, .int v5)] [] h 0 0 K := by
  intro n
  induction n with
  | zero => intro v3 v4 v5 hf; cases (show (none : Option (Int32 × Int32)) = some q from hf)
  | succ n ih =>
    intro v3 v4 v5 hf
    rw [lX7_costOf_8] at hf
    refine ab_iload (pc' := 10) (q := 5) dX7_costOf_8 rfl rfl ?_
    refine ab_iload_n (pc' := 11) (q := 2) dX7_costOf_10 rfl rfl rfl ?_
    refine ab_icmp_ge (pc' := 14) (tgt := 43) dX7_costOf_11 (by decide) rfl (fun c1 => ?_) (fun c1 => ?_)
    · have hf := ab_ip c1 hf
      have hf := Option.some.inj hf
      subst hf
      refine ab_drop (ls' := [(0, .ref v0), (1, .int v1), (3, .int v3), (4, .int v4)]) [0, 1, 3, 4] rfl ?_
      exact hx
    · have hf := ab_iN c1 hf
      refine ab_aload_n (pc' := 15) (q := 0) dX7_costOf_14 rfl rfl rfl ?_
      refine ab_iload_n (pc' := 16) (q := 1) dX7_costOf_15 rfl rfl rfl ?_
      refine ab_iload (pc' := 18) (q := 5) dX7_costOf_16 rfl rfl ?_
      obtain ⟨u2, eu2, hf⟩ := ab_bd hf
      obtain ⟨x3, ex3, hf⟩ := ab_bd hf
      refine ab_callV (pc' := 21) (Mc := mX7_levelFor) (as := [.int v1, .int v5]) (st := []) dX7_costOf_18 ml_X7_140 okX7_levelFor im_X7_levelFor se_X7_levelFor rfl eu2 rfl (by decide) (Nat.le_of_ble_eq_true rfl) (Nat.le_of_ble_eq_true rfl) (Nat.le_of_ble_eq_true rfl) rfl rfl (kX7_levelFor ex3 ?_)
      show ab_Ev l g mX7_costOf 4 0 0 21 [(0, .ref v0), (1, .int v1), (2, .int v2), (3, .int v3), (4, .int v4), (5, .int v5)] [.int x3] h 0 0 K
      refine ab_istore (pc' := 23) (ls' := [(4, .int x3), (0, .ref v0), (1, .int v1), (2, .int v2), (3, .int v3), (5, .int v5)]) dX7_costOf_21 (by decide) rfl rfl ?_
      refine ab_iload_n (pc' := 24) (q := 4) dX7_costOf_23 rfl rfl rfl ?_
      refine ab_aload_n (pc' := 25) (q := 1) dX7_costOf_24 rfl rfl rfl ?_
      obtain ⟨r4, er4, hf⟩ := ab_bd hf
      refine ab_getR (pc' := 28) (ci := 7) (k := 1) dX7_costOf_25 rfl (by decide) fl_X7_13 er4 rfl ?_
      refine ab_iconst (pc' := 29) (v := 4) dX7_costOf_28 (by decide) rfl ?_
      refine ab_iload_n (pc' := 30) (q := 2) dX7_costOf_29 rfl rfl rfl ?_
      refine ab_imul (pc' := 31) dX7_costOf_30 rfl ?_
      refine ab_iload (pc' := 33) (q := 0) dX7_costOf_31 rfl rfl ?_
      refine ab_iadd (pc' := 34) dX7_costOf_33 rfl ?_
      obtain ⟨x5, ex5, hf⟩ := ab_bd hf
      refine ab_iald (pc' := 35) dX7_costOf_34 ex5 rfl ?_
      refine ab_iadd (pc' := 36) dX7_costOf_35 rfl ?_
      refine ab_istore_n (pc' := 37) (ls' := [(3, .int (v3 + x5)), (4, .int x3), (0, .ref v0), (1, .int v1), (2, .int v2), (5, .int v5)]) dX7_costOf_36 rfl (by decide) rfl rfl ?_
      refine ab_iinc (pc' := 40) (q := 5) (v := (v5 + 1)) (ls' := [(5, .int (v5 + 1)), (3, .int (v3 + x5)), (4, .int x3), (0, .ref v0), (1, .int v1), (2, .int v2)]) dX7_costOf_37 rfl rfl (by decide) rfl rfl ?_
      refine ab_goto (tgt := 8) dX7_costOf_40 (by decide) ?_
      refine ab_drop (ls' := [(0, .ref v0), (1, .int v1), (2, .int v2), (3, .int (v3 + x5)), (4, .int x3), (5, .int (v5 + 1))]) [3, 4, 5, 1, 2, 0] rfl ?_
      exact ih _ _ _ hf
def fX7_costOf (h : ab_H) (a0 : Nat) (a1 : Int32) (a2 : Int32) : Option Int32 := (lX7_costOf_8 h a0 a1 a2 ab_fu 0 0 0).bind (fun q6 => (ab_ob h a0 7).bind (fun u7 => (fX7_wakeOf h a0 a1 q6.2).bind (fun x8 => some (q6.1 + x8))))
set_option maxRecDepth 20000 in
set_option maxHeartbeats 1000000 in
theorem kX7_costOf {l : Launch} {g : ab_G} {K : ab_K} {h : ab_H} {a0 : Nat} {a1 : Int32} {a2 : Int32} {r : Int32} (hf : fX7_costOf h a0 a1 a2 = some r) (hK : K (some (.int r)) h) : ab_S l g mX7_costOf 4 0 0 [.ref a0, .int a1, .int a2] h K := by
  unfold fX7_costOf at hf
  refine ab_enter (ls := [(0, .ref a0), (1, .int a1), (2, .int a2)]) (by decide +kernel) rfl (Nat.le_of_ble_eq_true rfl) rfl ?_
  refine ab_iconst (pc' := 1) (v := 0) dX7_costOf_0 (by decide) rfl ?_
  refine ab_istore_n (pc' := 2) (ls' := [(3, .int 0), (0, .ref a0), (1, .int a1), (2, .int a2)]) dX7_costOf_1 rfl (by decide) rfl rfl ?_
  refine ab_iconst (pc' := 3) (v := 0) dX7_costOf_2 (by decide) rfl ?_
  refine ab_istore (pc' := 5) (ls' := [(4, .int 0), (3, .int 0), (0, .ref a0), (1, .int a1), (2, .int a2)]) dX7_costOf_3 (by decide) rfl rfl ?_
  refine ab_iconst (pc' := 6) (v := 0) dX7_costOf_5 (by decide) rfl ?_
  refine ab_istore (pc' := 8) (ls' := [(5, .int 0), (4, .int 0), (3, .int 0), (0, .ref a0), (1, .int a1), (2, .int a2)]) dX7_costOf_6 (by decide) rfl rfl ?_
  refine ab_drop (ls' := [(0, .ref a0), (1, .int a1), (2, .int a2), (3, .int 0), (4, .int 0), (5, .int 0)]) [3, 4, 5, 2, 1, 0] rfl ?_
  obtain ⟨q6, eq6, hf⟩ := ab_bd hf
  refine klX7_costOf_8 ?_ ab_fu _ _ _ eq6
  refine ab_iload_n (pc' := 44) (q := 2) dX7_costOf_43 rfl rfl rfl ?_
  refine ab_aload_n (pc' := 45) (q := 0) dX7_costOf_44 rfl rfl rfl ?_
  refine ab_iload_n (pc' := 46) (q := 1) dX7_costOf_45 rfl rfl rfl ?_
  refine ab_iload (pc' := 48) (q := 3) dX7_costOf_46 rfl rfl ?_
  obtain ⟨u7, eu7, hf⟩ := ab_bd hf
  obtain ⟨x8, ex8, hf⟩ := ab_bd hf
  refine ab_callV (pc' := 51) (Mc := mX7_wakeOf) (as := [.int a1, .int q6.2]) (st := [.int q6.1]) dX7_costOf_48 ml_X7_101 okX7_wakeOf im_X7_wakeOf se_X7_wakeOf rfl eu7 rfl (by decide) (Nat.le_of_ble_eq_true rfl) (Nat.le_of_ble_eq_true rfl) (Nat.le_of_ble_eq_true rfl) rfl rfl (kX7_wakeOf ex8 ?_)
  show ab_Ev l g mX7_costOf 4 0 0 51 [(0, .ref a0), (1, .int a1), (3, .int q6.1), (4, .int q6.2)] [.int x8, .int q6.1] h 0 0 K
  refine ab_iadd (pc' := 52) dX7_costOf_51 rfl ?_
  have hf := Option.some.inj hf
  subst hf
  exact ab_iret rfl dX7_costOf_52 hK
-- DiskRestsModel.costs(II)I (mode R, depth 5)
def fX7_costs (h : ab_H) (a0 : Nat) (a1 : Int32) (a2 : Int32) : Option Int32 := (fX7_isDisk a1).bind (fun x1 => if (x1 : Int32) = 0 then some (-1) else (fX7_in a2 1 1000).bind (fun x3 => if (x3 : Int32) = 0 then some (-2) else (ab_gR h a0 7 3).bind (fun r5 => (ab_aI h r5 a1).bind (fun x6 => if (x6 : Int32) = 3 then some (-3) else (ab_ob h a0 7).bind (fun u8 => (fX7_costOf h a0 a1 a2).bind (fun x9 => some x9))))))
set_option maxRecDepth 20000 in
set_option maxHeartbeats 1000000 in
theorem kX7_costs {l : Launch} {g : ab_G} {K : ab_K} {h : ab_H} {a0 : Nat} {a1 : Int32} {a2 : Int32} {r : Int32} (hf : fX7_costs h a0 a1 a2 = some r) (hK : K (some (.int r)) h) : ab_S l g mX7_costs 5 0 0 [.ref a0, .int a1, .int a2] h K := by
  unfold fX7_costs at hf
  refine ab_enter (ls := [(0, .ref a0), (1, .int a1), (2, .int a2)]) (by decide +kernel) rfl (Nat.le_of_ble_eq_true rfl) rfl ?_
  refine ab_iload_n (pc' := 1) (q := 1) dX7_costs_0 rfl rfl rfl ?_
  obtain ⟨x1, ex1, hf⟩ := ab_bd hf
  refine ab_callS (pc' := 4) (Mc := mX7_isDisk) (as := [.int a1]) (st := []) dX7_costs_1 ml_X7_97 okX7_isDisk ss_X7_isDisk rfl (by decide) (Nat.le_of_ble_eq_true rfl) (Nat.le_of_ble_eq_true rfl) (Nat.le_of_ble_eq_true rfl) rfl rfl (kX7_isDisk ex1 ?_)
  show ab_Ev l g mX7_costs 5 0 0 4 [(0, .ref a0), (1, .int a1), (2, .int a2)] [.int x1] h 0 0 K
  refine ab_if_ne (pc' := 7) (tgt := 9) dX7_costs_4 (by decide) rfl (fun c2 => ?_) (fun c2 => ?_)
  · have hf := ab_iN c2 hf
    refine ab_iload_n (pc' := 10) (q := 2) dX7_costs_9 rfl rfl rfl ?_
    refine ab_iconst (pc' := 11) (v := 1) dX7_costs_10 (by decide) rfl ?_
    refine ab_sipush (pc' := 14) (v := 1000) dX7_costs_11 (by decide) rfl ?_
    obtain ⟨x3, ex3, hf⟩ := ab_bd hf
    refine ab_callS (pc' := 17) (Mc := mX7_in) (as := [.int a2, .int 1, .int 1000]) (st := []) dX7_costs_14 ml_X7_90 okX7_in ss_X7_in rfl (by decide) (Nat.le_of_ble_eq_true rfl) (Nat.le_of_ble_eq_true rfl) (Nat.le_of_ble_eq_true rfl) rfl rfl (kX7_in ex3 ?_)
    show ab_Ev l g mX7_costs 5 0 0 17 [(0, .ref a0), (1, .int a1), (2, .int a2)] [.int x3] h 0 0 K
    refine ab_if_ne (pc' := 20) (tgt := 23) dX7_costs_17 (by decide) rfl (fun c4 => ?_) (fun c4 => ?_)
    · have hf := ab_iN c4 hf
      refine ab_aload_n (pc' := 24) (q := 0) dX7_costs_23 rfl rfl rfl ?_
      obtain ⟨r5, er5, hf⟩ := ab_bd hf
      refine ab_getR (pc' := 27) (ci := 7) (k := 3) dX7_costs_24 rfl (by decide) fl_X7_19 er5 rfl ?_
      refine ab_iload_n (pc' := 28) (q := 1) dX7_costs_27 rfl rfl rfl ?_
      obtain ⟨x6, ex6, hf⟩ := ab_bd hf
      refine ab_iald (pc' := 29) dX7_costs_28 ex6 rfl ?_
      refine ab_iconst (pc' := 30) (v := 3) dX7_costs_29 (by decide) rfl ?_
      refine ab_icmp_ne (pc' := 33) (tgt := 38) dX7_costs_30 (by decide) rfl (fun c7 => ?_) (fun c7 => ?_)
      · have hf := ab_iN c7 hf
        refine ab_aload_n (pc' := 39) (q := 0) dX7_costs_38 rfl rfl rfl ?_
        refine ab_iload_n (pc' := 40) (q := 1) dX7_costs_39 rfl rfl rfl ?_
        refine ab_iload_n (pc' := 41) (q := 2) dX7_costs_40 rfl rfl rfl ?_
        obtain ⟨u8, eu8, hf⟩ := ab_bd hf
        obtain ⟨x9, ex9, hf⟩ := ab_bd hf
        refine ab_callV (pc' := 44) (Mc := mX7_costOf) (as := [.int a1, .int a2]) (st := []) dX7_costs_41 ml_X7_168 okX7_costOf im_X7_costOf se_X7_costOf rfl eu8 rfl (by decide) (Nat.le_of_ble_eq_true rfl) (Nat.le_of_ble_eq_true rfl) (Nat.le_of_ble_eq_true rfl) rfl rfl (kX7_costOf ex9 ?_)
        show ab_Ev l g mX7_costs 5 0 0 44 [(0, .ref a0), (1, .int a1), (2, .int a2)] [.int x9] h 0 0 K
        have hf := Option.some.inj hf
        subst hf
        exact ab_iret rfl dX7_costs_44 hK
      · have hf := ab_ip c7 hf
        refine ab_bipush (pc' := 35) (v := (-3)) dX7_costs_33 (by decide) rfl ?_
        refine ab_goto (tgt := 44) dX7_costs_35 (by decide) ?_
        have hf := Option.some.inj hf
        subst hf
        exact ab_iret rfl dX7_costs_44 hK
    · have hf := ab_ip c4 hf
      refine ab_bipush (pc' := 22) (v := (-2)) dX7_costs_20 (by decide) rfl ?_
      have hf := Option.some.inj hf
      subst hf
      exact ab_iret rfl dX7_costs_22 hK
  · have hf := ab_ip c2 hf
    refine ab_iconst (pc' := 8) (v := (-1)) dX7_costs_7 (by decide) rfl ?_
    have hf := Option.some.inj hf
    subst hf
    exact ab_iret rfl dX7_costs_8 hK
-- DiskRestsModel.common(II)I (mode N, depth 0)
def lX7_common_7  : Nat → Int32 → Int32 → Int32 → Option Int32
  | 0, _, _, _ => none
  | n + 1, v2, v3, v4 => if 100 ≤ (v4 : Int32) then some v2 else if (v3 : Int32) = 0 then some v2 else if (v3 : Int32) = 0 then none else lX7_common_7 n v3 (v2 - v2 / v3 * v3) (v4 + 1)
set_option maxRecDepth 20000 in
set_option maxHeartbeats 1000000 in
theorem klX7_common_7 {l : Launch} {g : ab_G} {K : ab_K} {h : ab_H}  {q : Int32} (hx : ab_Ev l g mX7_common 0 0 0 34 [(2, .int q)] [] h 0 0 K) : ∀ (n : Nat) (v2 : Int32) (v3 : Int32) (v4 : Int32), lX7_common_7 n v2 v3 v4 = some q → ab_Ev l g mX7_common 0 0 0 7 [(2, .int v2), (3, .int v3), (4, .int v4)] [] h 0 0 K := by
  intro n
  induction n with
  | zero => intro v2 v3 v4 hf; cases (show (none : Option Int32) = some q from hf)
  | succ n ih =>
    intro v2 v3 v4 hf
    rw [lX7_common_7] at hf
    refine ab_iload (pc' := 9) (q := 2) dX7_common_7 rfl rfl ?_
    refine ab_bipush (pc' := 11) (v := 100) dX7_common_9 (by decide) rfl ?_
    refine ab_icmp_ge (pc' := 14) (tgt := 34) dX7_common_11 (by decide) rfl (fun c1 => ?_) (fun c1 => ?_)
    · have hf := ab_ip c1 hf
      have hf := Option.some.inj hf
      subst hf
      refine ab_drop (ls' := [(2, .int v2)]) [0] rfl ?_
      exact hx
    · have hf := ab_iN c1 hf
      refine ab_iload_n (pc' := 15) (q := 1) dX7_common_14 rfl rfl rfl ?_
      refine ab_if_eq (pc' := 18) (tgt := 34) dX7_common_15 (by decide) rfl (fun c2 => ?_) (fun c2 => ?_)
      · have hf := ab_ip c2 hf
        have hf := Option.some.inj hf
        subst hf
        refine ab_drop (ls' := [(2, .int v2)]) [0] rfl ?_
        exact hx
      · have hf := ab_iN c2 hf
        refine ab_iload_n (pc' := 19) (q := 0) dX7_common_18 rfl rfl rfl ?_
        refine ab_iload_n (pc' := 20) (q := 1) dX7_common_19 rfl rfl rfl ?_
        obtain ⟨n3, hf⟩ := ab_nz hf
        refine ab_irem (pc' := 21) dX7_common_20 n3 rfl ?_
        refine ab_istore (pc' := 23) (ls' := [(5, .int (v2 - v2 / v3 * v3)), (2, .int v2), (3, .int v3), (4, .int v4)]) dX7_common_21 (by decide) rfl rfl ?_
        refine ab_iload_n (pc' := 24) (q := 2) dX7_common_23 rfl rfl rfl ?_
        refine ab_istore_n (pc' := 25) (ls' := [(2, .int v3), (5, .int (v2 - v2 / v3 * v3)), (3, .int v3), (4, .int v4)]) dX7_common_24 rfl (by decide) rfl rfl ?_
        refine ab_iload (pc' := 27) (q := 1) dX7_common_25 rfl rfl ?_
        refine ab_istore_n (pc' := 28) (ls' := [(3, .int (v2 - v2 / v3 * v3)), (2, .int v3), (5, .int (v2 - v2 / v3 * v3)), (4, .int v4)]) dX7_common_27 rfl (by decide) rfl rfl ?_
        refine ab_iinc (pc' := 31) (q := 3) (v := (v4 + 1)) (ls' := [(4, .int (v4 + 1)), (3, .int (v2 - v2 / v3 * v3)), (2, .int v3), (5, .int (v2 - v2 / v3 * v3))]) dX7_common_28 rfl rfl (by decide) rfl rfl ?_
        refine ab_goto (tgt := 7) dX7_common_31 (by decide) ?_
        refine ab_drop (ls' := [(2, .int v3), (3, .int (v2 - v2 / v3 * v3)), (4, .int (v4 + 1))]) [2, 1, 0] rfl ?_
        exact ih _ _ _ hf
def bX7_common_34 (v2 : Int32) : Option Int32 := some v2
set_option maxRecDepth 20000 in
set_option maxHeartbeats 1000000 in
theorem kbX7_common_34 {l : Launch} {g : ab_G} {K : ab_K} {h : ab_H} {v2 : Int32} {r : Int32} (hf : bX7_common_34 v2 = some r) (hK : K (some (.int r)) h) : ab_Ev l g mX7_common 0 0 0 34 [(2, .int v2)] [] h 0 0 K := by
  unfold bX7_common_34 at hf
  refine ab_iload_n (pc' := 35) (q := 0) dX7_common_34 rfl rfl rfl ?_
  have hf := Option.some.inj hf
  subst hf
  exact ab_iret rfl dX7_common_35 hK
def fX7_common (a0 : Int32) (a1 : Int32) : Option Int32 := (lX7_common_7 ab_fu a0 a1 0).bind (fun q4 => bX7_common_34 q4)
set_option maxRecDepth 20000 in
set_option maxHeartbeats 1000000 in
theorem kX7_common {l : Launch} {g : ab_G} {K : ab_K} {h : ab_H} {a0 : Int32} {a1 : Int32} {r : Int32} (hf : fX7_common a0 a1 = some r) (hK : K (some (.int r)) h) : ab_S l g mX7_common 0 0 0 [.int a0, .int a1] h K := by
  unfold fX7_common at hf
  refine ab_enter (ls := [(0, .int a0), (1, .int a1)]) (by decide +kernel) rfl (Nat.le_of_ble_eq_true rfl) rfl ?_
  refine ab_iload_n (pc' := 1) (q := 0) dX7_common_0 rfl rfl rfl ?_
  refine ab_istore_n (pc' := 2) (ls' := [(2, .int a0), (0, .int a0), (1, .int a1)]) dX7_common_1 rfl (by decide) rfl rfl ?_
  refine ab_iload_n (pc' := 3) (q := 2) dX7_common_2 rfl rfl rfl ?_
  refine ab_istore_n (pc' := 4) (ls' := [(3, .int a1), (2, .int a0), (0, .int a0), (1, .int a1)]) dX7_common_3 rfl (by decide) rfl rfl ?_
  refine ab_iconst (pc' := 5) (v := 0) dX7_common_4 (by decide) rfl ?_
  refine ab_istore (pc' := 7) (ls' := [(4, .int 0), (3, .int a1), (2, .int a0), (0, .int a0), (1, .int a1)]) dX7_common_5 (by decide) rfl rfl ?_
  refine ab_drop (ls' := [(2, .int a0), (3, .int a1), (4, .int 0)]) [2, 1, 0] rfl ?_
  obtain ⟨q4, eq4, hf⟩ := ab_bd hf
  refine klX7_common_7 ?_ ab_fu _ _ _ eq4
  exact kbX7_common_34 hf hK
-- DiskRestsModel.part(III)I (mode N, depth 1)
def fX7_part (a0 : Int32) (a1 : Int32) (a2 : Int32) : Option Int32 := (fX7_common a0 a1).bind (fun x1 => if (a2 : Int32) = 0 then if (x1 : Int32) = 0 then none else some (a0 / x1) else if (x1 : Int32) = 0 then none else some (a1 / x1))
set_option maxRecDepth 20000 in
set_option maxHeartbeats 1000000 in
theorem kX7_part {l : Launch} {g : ab_G} {K : ab_K} {h : ab_H} {a0 : Int32} {a1 : Int32} {a2 : Int32} {r : Int32} (hf : fX7_part a0 a1 a2 = some r) (hK : K (some (.int r)) h) : ab_S l g mX7_part 1 0 0 [.int a0, .int a1, .int a2] h K := by
  unfold fX7_part at hf
  refine ab_enter (ls := [(0, .int a0), (1, .int a1), (2, .int a2)]) (by decide +kernel) rfl (Nat.le_of_ble_eq_true rfl) rfl ?_
  refine ab_iload_n (pc' := 1) (q := 0) dX7_part_0 rfl rfl rfl ?_
  refine ab_iload_n (pc' := 2) (q := 1) dX7_part_1 rfl rfl rfl ?_
  obtain ⟨x1, ex1, hf⟩ := ab_bd hf
  refine ab_callS (pc' := 5) (Mc := mX7_common) (as := [.int a0, .int a1]) (st := []) dX7_part_2 ml_X7_171 okX7_common ss_X7_common rfl (by decide) (Nat.le_of_ble_eq_true rfl) (Nat.le_of_ble_eq_true rfl) (Nat.le_of_ble_eq_true rfl) rfl rfl (kX7_common ex1 ?_)
  show ab_Ev l g mX7_part 1 0 0 5 [(0, .int a0), (1, .int a1), (2, .int a2)] [.int x1] h 0 0 K
  refine ab_istore_n (pc' := 6) (ls' := [(3, .int x1), (0, .int a0), (1, .int a1), (2, .int a2)]) dX7_part_5 rfl (by decide) rfl rfl ?_
  refine ab_iload_n (pc' := 7) (q := 3) dX7_part_6 rfl rfl rfl ?_
  refine ab_if_ne (pc' := 10) (tgt := 16) dX7_part_7 (by decide) rfl (fun c2 => ?_) (fun c2 => ?_)
  · have hf := ab_iN c2 hf
    refine ab_iload_n (pc' := 17) (q := 2) dX7_part_16 rfl rfl rfl ?_
    refine ab_iload_n (pc' := 18) (q := 0) dX7_part_17 rfl rfl rfl ?_
    obtain ⟨n3, hf⟩ := ab_nz hf
    refine ab_idiv (pc' := 19) dX7_part_18 n3 rfl ?_
    have hf := Option.some.inj hf
    subst hf
    exact ab_iret rfl dX7_part_19 hK
  · have hf := ab_ip c2 hf
    refine ab_iload_n (pc' := 11) (q := 1) dX7_part_10 rfl rfl rfl ?_
    refine ab_iload_n (pc' := 12) (q := 0) dX7_part_11 rfl rfl rfl ?_
    obtain ⟨n4, hf⟩ := ab_nz hf
    refine ab_idiv (pc' := 13) dX7_part_12 n4 rfl ?_
    refine ab_goto (tgt := 19) dX7_part_13 (by decide) ?_
    have hf := Option.some.inj hf
    subst hf
    exact ab_iret rfl dX7_part_19 hK
-- DiskRestsModel.worst(III)I (mode R, depth 4)
def bX7_worst_29  (h : ab_H) : Option Int32 := some (-2)
set_option maxRecDepth 20000 in
set_option maxHeartbeats 1000000 in
theorem kbX7_worst_29 {l : Launch} {g : ab_G} {K : ab_K} {h : ab_H}  {r : Int32} (hf : bX7_worst_29 h = some r) (hK : K (some (.int r)) h) : ab_Ev l g mX7_worst 4 0 0 29 [] [] h 0 0 K := by
  unfold bX7_worst_29 at hf
  refine ab_bipush (pc' := 31) (v := (-2)) dX7_worst_29 (by decide) rfl ?_
  have hf := Option.some.inj hf
  subst hf
  exact ab_iret rfl dX7_worst_31 hK
def bX7_worst_149 (rec : Int32 → Int32 → Int32 → Int32 → Int32 → Option (Int32 × Int32 × Int32)) (v0 : Nat) (v1 : Int32) (v2 : Int32) (v3 : Int32) (v4 : Int32) (v5 : Int32) (v6 : Int32) (v7 : Int32) (v8 : Int32) (h : ab_H) : Option (Int32 × Int32 × Int32) := rec v4 v5 v6 v7 (v8 + 1)
set_option maxRecDepth 20000 in
set_option maxHeartbeats 1000000 in
theorem kbX7_worst_149 {l : Launch} {g : ab_G} {K : ab_K} {h : ab_H} {v0 : Nat} {v1 : Int32} {v2 : Int32} {v3 : Int32} {v4 : Int32} {v5 : Int32} {v6 : Int32} {v7 : Int32} {v8 : Int32} {q : (Int32 × Int32 × Int32)} {rec : Int32 → Int32 → Int32 → Int32 → Int32 → Option (Int32 × Int32 × Int32)} (ih : ∀ (w4 : Int32) (w5 : Int32) (w6 : Int32) (w7 : Int32) (w8 : Int32), rec w4 w5 w6 w7 w8 = some q → ab_Ev l g mX7_worst 4 0 0 60 [(0, .ref v0), (1, .int v1), (2, .int v2), (3, .int v3), (4, .int w4), (5, .int w5), (6, .int w6), (7, .int w7), (8, .int w8)] [] h 0 0 K) (hx : ab_Ev l g mX7_worst 4 0 0 155 [(3, .int v3), (4, .int q.1), (5, .int q.2.1), (6, .int q.2.2)] [] h 0 0 K) (hf : bX7_worst_149 rec v0 v1 v2 v3 v4 v5 v6 v7 v8 h = some q) : ab_Ev l g mX7_worst 4 0 0 149 [(0, .ref v0), (1, .int v1), (2, .int v2), (3, .int v3), (4, .int v4), (5, .int v5), (6, .int v6), (7, .int v7), (8, .int v8)] [] h 0 0 K := by
  unfold bX7_worst_149 at hf
  refine ab_iinc (pc' := 152) (q := 8) (v := (v8 + 1)) (ls' := [(8, .int (v8 + 1)), (0, .ref v0), (1, .int v1), (2, .int v2), (3, .int v3), (4, .int v4), (5, .int v5), (6, .int v6), (7, .int v7)]) dX7_worst_149 rfl rfl (by decide) rfl rfl ?_
  refine ab_goto (tgt := 60) dX7_worst_152 (by decide) ?_
  refine ab_drop (ls' := [(0, .ref v0), (1, .int v1), (2, .int v2), (3, .int v3), (4, .int v4), (5, .int v5), (6, .int v6), (7, .int v7), (8, .int (v8 + 1))]) [1, 2, 3, 4, 5, 6, 7, 8, 0] rfl ?_
  exact ih _ _ _ _ _ hf
def bX7_worst_137 (rec : Int32 → Int32 → Int32 → Int32 → Int32 → Option (Int32 × Int32 × Int32)) (v0 : Nat) (v1 : Int32) (v2 : Int32) (v3 : Int32) (v7 : Int32) (v8 : Int32) (v10 : Int32) (v11 : Int32) (h : ab_H) : Option (Int32 × Int32 × Int32) := bX7_worst_149 rec v0 v1 v2 v3 v8 v10 v11 v7 v8 h
set_option maxRecDepth 20000 in
set_option maxHeartbeats 1000000 in
theorem kbX7_worst_137 {l : Launch} {g : ab_G} {K : ab_K} {h : ab_H} {v0 : Nat} {v1 : Int32} {v10 : Int32} {v11 : Int32} {v2 : Int32} {v3 : Int32} {v7 : Int32} {v8 : Int32} {q : (Int32 × Int32 × Int32)} {rec : Int32 → Int32 → Int32 → Int32 → Int32 → Option (Int32 × Int32 × Int32)} (ih : ∀ (w4 : Int32) (w5 : Int32) (w6 : Int32) (w7 : Int32) (w8 : Int32), rec w4 w5 w6 w7 w8 = some q → ab_Ev l g mX7_worst 4 0 0 60 [(0, .ref v0), (1, .int v1), (2, .int v2), (3, .int v3), (4, .int w4), (5, .int w5), (6, .int w6), (7, .int w7), (8, .int w8)] [] h 0 0 K) (hx : ab_Ev l g mX7_worst 4 0 0 155 [(3, .int v3), (4, .int q.1), (5, .int q.2.1), (6, .int q.2.2)] [] h 0 0 K) (hf : bX7_worst_137 rec v0 v1 v2 v3 v7 v8 v10 v11 h = some q) : ab_Ev l g mX7_worst 4 0 0 137 [(0, .ref v0), (1, .int v1), (2, .int v2), (3, .int v3), (7, .int v7), (8, .int v8), (10, .int v10), (11, .int v11)] [] h 0 0 K := by
  unfold bX7_worst_137 at hf
  refine ab_iload (pc' := 139) (q := 5) dX7_worst_137 rfl rfl ?_
  refine ab_istore (pc' := 141) (ls' := [(4, .int v8), (0, .ref v0), (1, .int v1), (2, .int v2), (3, .int v3), (7, .int v7), (8, .int v8), (10, .int v10), (11, .int v11)]) dX7_worst_139 (by decide) rfl rfl ?_
  refine ab_iload (pc' := 143) (q := 7) dX7_worst_141 rfl rfl ?_
  refine ab_istore (pc' := 145) (ls' := [(5, .int v10), (4, .int v8), (0, .ref v0), (1, .int v1), (2, .int v2), (3, .int v3), (7, .int v7), (8, .int v8), (10, .int v10), (11, .int v11)]) dX7_worst_143 (by decide) rfl rfl ?_
  refine ab_iload (pc' := 147) (q := 9) dX7_worst_145 rfl rfl ?_
  refine ab_istore (pc' := 149) (ls' := [(6, .int v11), (5, .int v10), (4, .int v8), (0, .ref v0), (1, .int v1), (2, .int v2), (3, .int v3), (7, .int v7), (8, .int v8), (10, .int v10), (11, .int v11)]) dX7_worst_147 (by decide) rfl rfl ?_
  refine ab_drop (ls' := [(0, .ref v0), (1, .int v1), (2, .int v2), (3, .int v3), (4, .int v8), (5, .int v10), (6, .int v11), (7, .int v7), (8, .int v8)]) [3, 4, 5, 6, 2, 1, 0, 7, 8] rfl ?_
  exact kbX7_worst_149 ih hx hf
def lX7_worst_60 (h : ab_H) (v0 : Nat) (v1 : Int32) (v2 : Int32) (v3 : Int32) : Nat → Int32 → Int32 → Int32 → Int32 → Int32 → Option (Int32 × Int32 × Int32)
  | 0, _, _, _, _, _ => none
  | n + 1, v4, v5, v6, v7, v8 => if v2 < (v8 : Int32) then some (v4, v5, v6) else (ab_ob h v0 7).bind (fun u11 => (fX7_levelFor h v0 v1 (v8 - 1)).bind (fun x12 => (ab_gR h v0 7 1).bind (fun r13 => (ab_aI h r13 ((4 * v1) + x12)).bind (fun x14 => (ab_ob h v0 7).bind (fun u15 => (fX7_wakeOf h v0 v1 x12).bind (fun x16 => (ab_ob h v0 7).bind (fun u17 => (fX7_leastOf h v0 v1 v8).bind (fun x18 => if (v4 : Int32) = 0 then bX7_worst_137 (lX7_worst_60 h v0 v1 v2 v3 n) v0 v1 v2 v3 (v7 + x14) v8 ((v7 + x14) + x16) x18 h else if ((lg_cmp ((Int32.toInt64 ((v7 + x14) + x16)) * (Int32.toInt64 v6)) ((Int32.toInt64 v5) * (Int32.toInt64 x18))) : Int32) ≤ 0 then bX7_worst_149 (lX7_worst_60 h v0 v1 v2 v3 n) v0 v1 v2 v3 v4 v5 v6 (v7 + x14) v8 h else bX7_worst_137 (lX7_worst_60 h v0 v1 v2 v3 n) v0 v1 v2 v3 (v7 + x14) v8 ((v7 + x14) + x16) x18 h))))))))
set_option maxRecDepth 20000 in
set_option maxHeartbeats 1000000 in
theorem klX7_worst_60 {l : Launch} {g : ab_G} {K : ab_K} {h : ab_H} {v0 : Nat} {v1 : Int32} {v2 : Int32} {v3 : Int32} {q : (Int32 × Int32 × Int32)} (hx : ab_Ev l g mX7_worst 4 0 0 155 [(3, .int v3), (4, .int q.1), (5, .int q.2.1), (6, .int q.2.2)] [] h 0 0 K) : ∀ (n : Nat) (v4 : Int32) (v5 : Int32) (v6 : Int32) (v7 : Int32) (v8 : Int32), lX7_worst_60 h v0 v1 v2 v3 n v4 v5 v6 v7 v8 = some q → ab_Ev l g mX7_worst 4 0 0 60 [(0, .ref v0), (1, .int v1), (2, .int v2), (3, .int v3), (4, .int v4), (5, .int v5), (6, .int v6), (7, .int v7), (8, .int v8)] [] h 0 0 K := by
  intro n
  induction n with
  | zero => intro v4 v5 v6 v7 v8 hf; cases (show (none : Option (Int32 × Int32 × Int32)) = some q from hf)
  | succ n ih =>
    intro v4 v5 v6 v7 v8 hf
    rw [lX7_worst_60] at hf
    refine ab_iload (pc' := 62) (q := 8) dX7_worst_60 rfl rfl ?_
    refine ab_iload_n (pc' := 63) (q := 2) dX7_worst_62 rfl rfl rfl ?_
    refine ab_icmp_gt (pc' := 66) (tgt := 155) dX7_worst_63 (by decide) rfl (fun c10 => ?_) (fun c10 => ?_)
    · have hf := ab_ip c10 hf
      have hf := Option.some.inj hf
      subst hf
      refine ab_drop (ls' := [(3, .int v3), (4, .int v4), (5, .int v5), (6, .int v6)]) [3, 4, 5, 6] rfl ?_
      exact hx
    · have hf := ab_iN c10 hf
      refine ab_aload_n (pc' := 67) (q := 0) dX7_worst_66 rfl rfl rfl ?_
      refine ab_iload_n (pc' := 68) (q := 1) dX7_worst_67 rfl rfl rfl ?_
      refine ab_iload (pc' := 70) (q := 8) dX7_worst_68 rfl rfl ?_
      refine ab_iconst (pc' := 71) (v := 1) dX7_worst_70 (by decide) rfl ?_
      refine ab_isub (pc' := 72) dX7_worst_71 rfl ?_
      obtain ⟨u11, eu11, hf⟩ := ab_bd hf
      obtain ⟨x12, ex12, hf⟩ := ab_bd hf
      refine ab_callV (pc' := 75) (Mc := mX7_levelFor) (as := [.int v1, .int (v8 - 1)]) (st := []) dX7_worst_72 ml_X7_140 okX7_levelFor im_X7_levelFor se_X7_levelFor rfl eu11 rfl (by decide) (Nat.le_of_ble_eq_true rfl) (Nat.le_of_ble_eq_true rfl) (Nat.le_of_ble_eq_true rfl) rfl rfl (kX7_levelFor ex12 ?_)
      show ab_Ev l g mX7_worst 4 0 0 75 [(0, .ref v0), (1, .int v1), (2, .int v2), (3, .int v3), (4, .int v4), (5, .int v5), (6, .int v6), (7, .int v7), (8, .int v8)] [.int x12] h 0 0 K
      refine ab_istore (pc' := 77) (ls' := [(9, .int x12), (0, .ref v0), (1, .int v1), (2, .int v2), (3, .int v3), (4, .int v4), (5, .int v5), (6, .int v6), (7, .int v7), (8, .int v8)]) dX7_worst_75 (by decide) rfl rfl ?_
      refine ab_iload (pc' := 79) (q := 8) dX7_worst_77 rfl rfl ?_
      refine ab_aload_n (pc' := 80) (q := 1) dX7_worst_79 rfl rfl rfl ?_
      obtain ⟨r13, er13, hf⟩ := ab_bd hf
      refine ab_getR (pc' := 83) (ci := 7) (k := 1) dX7_worst_80 rfl (by decide) fl_X7_13 er13 rfl ?_
      refine ab_iconst (pc' := 84) (v := 4) dX7_worst_83 (by decide) rfl ?_
      refine ab_iload_n (pc' := 85) (q := 2) dX7_worst_84 rfl rfl rfl ?_
      refine ab_imul (pc' := 86) dX7_worst_85 rfl ?_
      refine ab_iload (pc' := 88) (q := 0) dX7_worst_86 rfl rfl ?_
      refine ab_iadd (pc' := 89) dX7_worst_88 rfl ?_
      obtain ⟨x14, ex14, hf⟩ := ab_bd hf
      refine ab_iald (pc' := 90) dX7_worst_89 ex14 rfl ?_
      refine ab_iadd (pc' := 91) dX7_worst_90 rfl ?_
      refine ab_istore (pc' := 93) (ls' := [(7, .int (v7 + x14)), (9, .int x12), (0, .ref v0), (1, .int v1), (2, .int v2), (3, .int v3), (4, .int v4), (5, .int v5), (6, .int v6), (8, .int v8)]) dX7_worst_91 (by decide) rfl rfl ?_
      refine ab_iload (pc' := 95) (q := 0) dX7_worst_93 rfl rfl ?_
      refine ab_aload_n (pc' := 96) (q := 2) dX7_worst_95 rfl rfl rfl ?_
      refine ab_iload_n (pc' := 97) (q := 3) dX7_worst_96 rfl rfl rfl ?_
      refine ab_iload (pc' := 99) (q := 1) dX7_worst_97 rfl rfl ?_
      obtain ⟨u15, eu15, hf⟩ := ab_bd hf
      obtain ⟨x16, ex16, hf⟩ := ab_bd hf
      refine ab_callV (pc' := 102) (Mc := mX7_wakeOf) (as := [.int v1, .int x12]) (st := [.int (v7 + x14)]) dX7_worst_99 ml_X7_101 okX7_wakeOf im_X7_wakeOf se_X7_wakeOf rfl eu15 rfl (by decide) (Nat.le_of_ble_eq_true rfl) (Nat.le_of_ble_eq_true rfl) (Nat.le_of_ble_eq_true rfl) rfl rfl (kX7_wakeOf ex16 ?_)
      show ab_Ev l g mX7_worst 4 0 0 102 [(7, .int (v7 + x14)), (9, .int x12), (0, .ref v0), (1, .int v1), (2, .int v2), (3, .int v3), (4, .int v4), (5, .int v5), (6, .int v6), (8, .int v8)] [.int x16, .int (v7 + x14)] h 0 0 K
      refine ab_iadd (pc' := 103) dX7_worst_102 rfl ?_
      refine ab_istore (pc' := 105) (ls' := [(10, .int ((v7 + x14) + x16)), (7, .int (v7 + x14)), (9, .int x12), (0, .ref v0), (1, .int v1), (2, .int v2), (3, .int v3), (4, .int v4), (5, .int v5), (6, .int v6), (8, .int v8)]) dX7_worst_103 (by decide) rfl rfl ?_
      refine ab_aload_n (pc' := 106) (q := 3) dX7_worst_105 rfl rfl rfl ?_
      refine ab_iload_n (pc' := 107) (q := 4) dX7_worst_106 rfl rfl rfl ?_
      refine ab_iload (pc' := 109) (q := 10) dX7_worst_107 rfl rfl ?_
      obtain ⟨u17, eu17, hf⟩ := ab_bd hf
      obtain ⟨x18, ex18, hf⟩ := ab_bd hf
      refine ab_callV (pc' := 112) (Mc := mX7_leastOf) (as := [.int v1, .int v8]) (st := []) dX7_worst_109 ml_X7_162 okX7_leastOf im_X7_leastOf se_X7_leastOf rfl eu17 rfl (by decide) (Nat.le_of_ble_eq_true rfl) (Nat.le_of_ble_eq_true rfl) (Nat.le_of_ble_eq_true rfl) rfl rfl (kX7_leastOf ex18 ?_)
      show ab_Ev l g mX7_worst 4 0 0 112 [(10, .int ((v7 + x14) + x16)), (7, .int (v7 + x14)), (9, .int x12), (0, .ref v0), (1, .int v1), (2, .int v2), (3, .int v3), (4, .int v4), (5, .int v5), (6, .int v6), (8, .int v8)] [.int x18] h 0 0 K
      refine ab_istore (pc' := 114) (ls' := [(11, .int x18), (10, .int ((v7 + x14) + x16)), (7, .int (v7 + x14)), (9, .int x12), (0, .ref v0), (1, .int v1), (2, .int v2), (3, .int v3), (4, .int v4), (5, .int v5), (6, .int v6), (8, .int v8)]) dX7_worst_112 (by decide) rfl rfl ?_
      refine ab_iload (pc' := 116) (q := 8) dX7_worst_114 rfl rfl ?_
      refine ab_if_eq (pc' := 119) (tgt := 137) dX7_worst_116 (by decide) rfl (fun c19 => ?_) (fun c19 => ?_)
      · have hf := ab_ip c19 hf
        refine ab_drop (ls' := [(0, .ref v0), (1, .int v1), (2, .int v2), (3, .int v3), (7, .int (v7 + x14)), (8, .int v8), (10, .int ((v7 + x14) + x16)), (11, .int x18)]) [4, 5, 6, 7, 2, 11, 1, 0] rfl ?_
        exact kbX7_worst_137 ih hx hf
      · have hf := ab_iN c19 hf
        refine ab_iload (pc' := 121) (q := 1) dX7_worst_119 rfl rfl ?_
        refine ab_i2l (pc' := 122) dX7_worst_121 rfl ?_
        refine ab_iload (pc' := 124) (q := 10) dX7_worst_122 rfl rfl ?_
        refine ab_i2l (pc' := 125) dX7_worst_124 rfl ?_
        refine ab_lmul (pc' := 126) dX7_worst_125 rfl ?_
        refine ab_iload (pc' := 128) (q := 9) dX7_worst_126 rfl rfl ?_
        refine ab_i2l (pc' := 129) dX7_worst_128 rfl ?_
        refine ab_iload (pc' := 131) (q := 0) dX7_worst_129 rfl rfl ?_
        refine ab_i2l (pc' := 132) dX7_worst_131 rfl ?_
        refine ab_lmul (pc' := 133) dX7_worst_132 rfl ?_
        refine ab_lcmp (pc' := 134) dX7_worst_133 rfl ?_
        refine ab_if_le (pc' := 137) (tgt := 149) dX7_worst_134 (by decide) rfl (fun c20 => ?_) (fun c20 => ?_)
        · have hf := ab_ip c20 hf
          refine ab_drop (ls' := [(0, .ref v0), (1, .int v1), (2, .int v2), (3, .int v3), (4, .int v4), (5, .int v5), (6, .int v6), (7, .int (v7 + x14)), (8, .int v8)]) [4, 5, 6, 7, 8, 9, 10, 2, 11] rfl ?_
          exact kbX7_worst_149 ih hx hf
        · have hf := ab_iN c20 hf
          refine ab_drop (ls' := [(0, .ref v0), (1, .int v1), (2, .int v2), (3, .int v3), (7, .int (v7 + x14)), (8, .int v8), (10, .int ((v7 + x14) + x16)), (11, .int x18)]) [4, 5, 6, 7, 2, 11, 1, 0] rfl ?_
          exact kbX7_worst_137 ih hx hf
def fX7_worst (h : ab_H) (a0 : Nat) (a1 : Int32) (a2 : Int32) (a3 : Int32) : Option Int32 := (fX7_isDisk a1).bind (fun x1 => if (x1 : Int32) = 0 then some (-1) else (fX7_in a2 1 1000).bind (fun x3 => if (x3 : Int32) = 0 then bX7_worst_29 h else (fX7_in a3 0 2).bind (fun x5 => if (x5 : Int32) = 0 then bX7_worst_29 h else (ab_gR h a0 7 3).bind (fun r7 => (ab_aI h r7 a1).bind (fun x8 => if (x8 : Int32) = 3 then some (-3) else (lX7_worst_60 h a0 a1 a2 a3 ab_fu 0 0 1 0 1).bind (fun q21 => if (a3 : Int32) = 2 then some q21.1 else (fX7_part q21.2.1 q21.2.2 a3).bind (fun x23 => some x23)))))))
set_option maxRecDepth 20000 in
set_option maxHeartbeats 1000000 in
theorem kX7_worst {l : Launch} {g : ab_G} {K : ab_K} {h : ab_H} {a0 : Nat} {a1 : Int32} {a2 : Int32} {a3 : Int32} {r : Int32} (hf : fX7_worst h a0 a1 a2 a3 = some r) (hK : K (some (.int r)) h) : ab_S l g mX7_worst 4 0 0 [.ref a0, .int a1, .int a2, .int a3] h K := by
  unfold fX7_worst at hf
  refine ab_enter (ls := [(0, .ref a0), (1, .int a1), (2, .int a2), (3, .int a3)]) (by decide +kernel) rfl (Nat.le_of_ble_eq_true rfl) rfl ?_
  refine ab_iload_n (pc' := 1) (q := 1) dX7_worst_0 rfl rfl rfl ?_
  obtain ⟨x1, ex1, hf⟩ := ab_bd hf
  refine ab_callS (pc' := 4) (Mc := mX7_isDisk) (as := [.int a1]) (st := []) dX7_worst_1 ml_X7_97 okX7_isDisk ss_X7_isDisk rfl (by decide) (Nat.le_of_ble_eq_true rfl) (Nat.le_of_ble_eq_true rfl) (Nat.le_of_ble_eq_true rfl) rfl rfl (kX7_isDisk ex1 ?_)
  show ab_Ev l g mX7_worst 4 0 0 4 [(0, .ref a0), (1, .int a1), (2, .int a2), (3, .int a3)] [.int x1] h 0 0 K
  refine ab_if_ne (pc' := 7) (tgt := 9) dX7_worst_4 (by decide) rfl (fun c2 => ?_) (fun c2 => ?_)
  · have hf := ab_iN c2 hf
    refine ab_iload_n (pc' := 10) (q := 2) dX7_worst_9 rfl rfl rfl ?_
    refine ab_iconst (pc' := 11) (v := 1) dX7_worst_10 (by decide) rfl ?_
    refine ab_sipush (pc' := 14) (v := 1000) dX7_worst_11 (by decide) rfl ?_
    obtain ⟨x3, ex3, hf⟩ := ab_bd hf
    refine ab_callS (pc' := 17) (Mc := mX7_in) (as := [.int a2, .int 1, .int 1000]) (st := []) dX7_worst_14 ml_X7_90 okX7_in ss_X7_in rfl (by decide) (Nat.le_of_ble_eq_true rfl) (Nat.le_of_ble_eq_true rfl) (Nat.le_of_ble_eq_true rfl) rfl rfl (kX7_in ex3 ?_)
    show ab_Ev l g mX7_worst 4 0 0 17 [(0, .ref a0), (1, .int a1), (2, .int a2), (3, .int a3)] [.int x3] h 0 0 K
    refine ab_if_eq (pc' := 20) (tgt := 29) dX7_worst_17 (by decide) rfl (fun c4 => ?_) (fun c4 => ?_)
    · have hf := ab_ip c4 hf
      refine ab_drop (ls' := []) [] rfl ?_
      exact kbX7_worst_29 hf hK
    · have hf := ab_iN c4 hf
      refine ab_iload_n (pc' := 21) (q := 3) dX7_worst_20 rfl rfl rfl ?_
      refine ab_iconst (pc' := 22) (v := 0) dX7_worst_21 (by decide) rfl ?_
      refine ab_iconst (pc' := 23) (v := 2) dX7_worst_22 (by decide) rfl ?_
      obtain ⟨x5, ex5, hf⟩ := ab_bd hf
      refine ab_callS (pc' := 26) (Mc := mX7_in) (as := [.int a3, .int 0, .int 2]) (st := []) dX7_worst_23 ml_X7_90 okX7_in ss_X7_in rfl (by decide) (Nat.le_of_ble_eq_true rfl) (Nat.le_of_ble_eq_true rfl) (Nat.le_of_ble_eq_true rfl) rfl rfl (kX7_in ex5 ?_)
      show ab_Ev l g mX7_worst 4 0 0 26 [(0, .ref a0), (1, .int a1), (2, .int a2), (3, .int a3)] [.int x5] h 0 0 K
      refine ab_if_ne (pc' := 29) (tgt := 32) dX7_worst_26 (by decide) rfl (fun c6 => ?_) (fun c6 => ?_)
      · have hf := ab_iN c6 hf
        refine ab_aload_n (pc' := 33) (q := 0) dX7_worst_32 rfl rfl rfl ?_
        obtain ⟨r7, er7, hf⟩ := ab_bd hf
        refine ab_getR (pc' := 36) (ci := 7) (k := 3) dX7_worst_33 rfl (by decide) fl_X7_19 er7 rfl ?_
        refine ab_iload_n (pc' := 37) (q := 1) dX7_worst_36 rfl rfl rfl ?_
        obtain ⟨x8, ex8, hf⟩ := ab_bd hf
        refine ab_iald (pc' := 38) dX7_worst_37 ex8 rfl ?_
        refine ab_iconst (pc' := 39) (v := 3) dX7_worst_38 (by decide) rfl ?_
        refine ab_icmp_ne (pc' := 42) (tgt := 45) dX7_worst_39 (by decide) rfl (fun c9 => ?_) (fun c9 => ?_)
        · have hf := ab_iN c9 hf
          refine ab_iconst (pc' := 46) (v := 0) dX7_worst_45 (by decide) rfl ?_
          refine ab_istore (pc' := 48) (ls' := [(4, .int 0), (0, .ref a0), (1, .int a1), (2, .int a2), (3, .int a3)]) dX7_worst_46 (by decide) rfl rfl ?_
          refine ab_iconst (pc' := 49) (v := 0) dX7_worst_48 (by decide) rfl ?_
          refine ab_istore (pc' := 51) (ls' := [(5, .int 0), (4, .int 0), (0, .ref a0), (1, .int a1), (2, .int a2), (3, .int a3)]) dX7_worst_49 (by decide) rfl rfl ?_
          refine ab_iconst (pc' := 52) (v := 1) dX7_worst_51 (by decide) rfl ?_
          refine ab_istore (pc' := 54) (ls' := [(6, .int 1), (5, .int 0), (4, .int 0), (0, .ref a0), (1, .int a1), (2, .int a2), (3, .int a3)]) dX7_worst_52 (by decide) rfl rfl ?_
          refine ab_iconst (pc' := 55) (v := 0) dX7_worst_54 (by decide) rfl ?_
          refine ab_istore (pc' := 57) (ls' := [(7, .int 0), (6, .int 1), (5, .int 0), (4, .int 0), (0, .ref a0), (1, .int a1), (2, .int a2), (3, .int a3)]) dX7_worst_55 (by decide) rfl rfl ?_
          refine ab_iconst (pc' := 58) (v := 1) dX7_worst_57 (by decide) rfl ?_
          refine ab_istore (pc' := 60) (ls' := [(8, .int 1), (7, .int 0), (6, .int 1), (5, .int 0), (4, .int 0), (0, .ref a0), (1, .int a1), (2, .int a2), (3, .int a3)]) dX7_worst_58 (by decide) rfl rfl ?_
          refine ab_drop (ls' := [(0, .ref a0), (1, .int a1), (2, .int a2), (3, .int a3), (4, .int 0), (5, .int 0), (6, .int 1), (7, .int 0), (8, .int 1)]) [5, 6, 7, 8, 4, 3, 2, 1, 0] rfl ?_
          obtain ⟨q21, eq21, hf⟩ := ab_bd hf
          refine klX7_worst_60 ?_ ab_fu _ _ _ _ _ eq21
          refine ab_iload_n (pc' := 156) (q := 0) dX7_worst_155 rfl rfl rfl ?_
          refine ab_iconst (pc' := 157) (v := 2) dX7_worst_156 (by decide) rfl ?_
          refine ab_icmp_ne (pc' := 160) (tgt := 165) dX7_worst_157 (by decide) rfl (fun c22 => ?_) (fun c22 => ?_)
          · have hf := ab_iN c22 hf
            refine ab_iload (pc' := 167) (q := 2) dX7_worst_165 rfl rfl ?_
            refine ab_iload (pc' := 169) (q := 3) dX7_worst_167 rfl rfl ?_
            refine ab_iload_n (pc' := 170) (q := 0) dX7_worst_169 rfl rfl rfl ?_
            obtain ⟨x23, ex23, hf⟩ := ab_bd hf
            refine ab_callS (pc' := 173) (Mc := mX7_part) (as := [.int q21.2.1, .int q21.2.2, .int a3]) (st := []) dX7_worst_170 ml_X7_174 okX7_part ss_X7_part rfl (by decide) (Nat.le_of_ble_eq_true rfl) (Nat.le_of_ble_eq_true rfl) (Nat.le_of_ble_eq_true rfl) rfl rfl (kX7_part ex23 ?_)
            show ab_Ev l g mX7_worst 4 0 0 173 [(3, .int a3), (4, .int q21.1), (5, .int q21.2.1), (6, .int q21.2.2)] [.int x23] h 0 0 K
            have hf := Option.some.inj hf
            subst hf
            exact ab_iret rfl dX7_worst_173 hK
          · have hf := ab_ip c22 hf
            refine ab_iload (pc' := 162) (q := 1) dX7_worst_160 rfl rfl ?_
            refine ab_goto (tgt := 173) dX7_worst_162 (by decide) ?_
            have hf := Option.some.inj hf
            subst hf
            exact ab_iret rfl dX7_worst_173 hK
        · have hf := ab_ip c9 hf
          refine ab_bipush (pc' := 44) (v := (-3)) dX7_worst_42 (by decide) rfl ?_
          have hf := Option.some.inj hf
          subst hf
          exact ab_iret rfl dX7_worst_44 hK
      · have hf := ab_ip c6 hf
        refine ab_drop (ls' := []) [] rfl ?_
        exact kbX7_worst_29 hf hK
  · have hf := ab_ip c2 hf
    refine ab_iconst (pc' := 8) (v := (-1)) dX7_worst_7 (by decide) rfl ?_
    have hf := Option.some.inj hf
    subst hf
    exact ab_iret rfl dX7_worst_8 hK
