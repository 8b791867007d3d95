theorem gcd_st (x y : Nat) : Nat.gcd x y = Nat.gcd y (x % y) := by
  rw [Nat.gcd_comm x y, Nat.gcd_rec y x, Nat.gcd_comm]
theorem mod_half {y z : Nat} (h0 : 0 < z) (h : z < y) : 2 * (y % z) < y := by
  have h1 := Nat.mod_lt y h0
  have h2 := Nat.mod_add_div y z
  have h3 : 1 ≤ y / z := (Nat.one_le_div_iff h0).mpr (by omega)
  have h4 : z * 1 ≤ z * (y / z) := Nat.mul_le_mul_left z h3
  omega
theorem p_gcd : ∀ (n fu x y r : Nat), 2 * n + 1 < fu → 2 * n + r < 50 → x < 2 ^ 31 → y < 2 ^ n → n ≤ 30 → lX6_commonDivisor_7 fu (nI x) (nI y) (nI r) = some (nI (Nat.gcd x y)) := by
  intro n
  induction n with
  | zero =>
    intro fu x y r hf hr hx hy hn
    obtain ⟨f, rfl⟩ : ∃ f, fu = f + 1 := ⟨fu - 1, by omega⟩
    have y0 : y = 0 := by omega
    subst y0
    rw [lX6_commonDivisor_7, if_neg (nle_c r 50 50 rfl (by omega) (by omega)), if_pos nI_0, Nat.gcd_zero_right]
  | succ n ih =>
    intro fu x y r hf hr hx hy hn
    obtain ⟨f, rfl⟩ : ∃ f, fu = f + 1 + 1 := ⟨fu - 2, by omega⟩
    have hp : 2 ^ (n + 1) ≤ 2 ^ 30 := Nat.pow_le_pow_right (by decide) hn
    have hp2 : 2 ^ (n + 1) = 2 * 2 ^ n := by rw [Nat.pow_succ, Nat.mul_comm]
    rw [lX6_commonDivisor_7, if_neg (nle_c r 50 50 rfl (by omega) (by omega))]
    by_cases y0 : y = 0
    · subst y0
      rw [if_pos nI_0, Nat.gcd_zero_right]
    have hm := Nat.mod_lt x (show y > 0 by omega)
    rw [if_neg (nz (by omega) y0), if_neg (nz (by omega) y0), pk_rem hx (by omega) (by omega), nI_1, lX6_commonDivisor_7, if_neg (nle_c (r + 1) 50 50 rfl (by omega) (by omega)), gcd_st x y]
    by_cases z0 : x % y = 0
    · rw [if_pos (by rw [z0]; rfl), z0, Nat.gcd_zero_right]
    · have hh := mod_half (y := y) (z := x % y) (by omega) hm
      rw [if_neg (nz (by omega) z0), if_neg (nz (by omega) z0), pk_rem (by omega) (by omega) (by omega), nI_1, gcd_st y (x % y)]
      exact ih f (x % y) (y % (x % y)) (r + 1 + 1) (by omega) (by omega) (by omega) (by omega) (by omega)
theorem q_gcd : ∀ (n fu x y r : Nat), 2 * n + 1 < fu → 2 * n + r < 50 → x < 2 ^ 31 → y < 2 ^ n → n ≤ 30 → lX7_common_7 fu (nI x) (nI y) (nI r) = some (nI (Nat.gcd x y)) := by
  intro n
  induction n with
  | zero =>
    intro fu x y r hf hr hx hy hn
    obtain ⟨f, rfl⟩ : ∃ f, fu = f + 1 := ⟨fu - 1, by omega⟩
    have y0 : y = 0 := by omega
    subst y0
    rw [lX7_common_7, if_neg (nle_c r 100 100 rfl (by omega) (by omega)), if_pos nI_0, Nat.gcd_zero_right]
  | succ n ih =>
    intro fu x y r hf hr hx hy hn
    obtain ⟨f, rfl⟩ : ∃ f, fu = f + 1 + 1 := ⟨fu - 2, by omega⟩
    have hp : 2 ^ (n + 1) ≤ 2 ^ 30 := Nat.pow_le_pow_right (by decide) hn
    have hp2 : 2 ^ (n + 1) = 2 * 2 ^ n := by rw [Nat.pow_succ, Nat.mul_comm]
    rw [lX7_common_7, if_neg (nle_c r 100 100 rfl (by omega) (by omega))]
    by_cases y0 : y = 0
    · subst y0
      rw [if_pos nI_0, Nat.gcd_zero_right]
    have hm := Nat.mod_lt x (show y > 0 by omega)
    rw [if_neg (nz (by omega) y0), if_neg (nz (by omega) y0), pk_rem hx (by omega) (by omega), nI_1, lX7_common_7, if_neg (nle_c (r + 1) 100 100 rfl (by omega) (by omega)), gcd_st x y]
    by_cases z0 : x % y = 0
    · rw [if_pos (by rw [z0]; rfl), z0, Nat.gcd_zero_right]
    · have hh := mod_half (y := y) (z := x % y) (by omega) hm
      rw [if_neg (nz (by omega) z0), if_neg (nz (by omega) z0), pk_rem (by omega) (by omega) (by omega), nI_1, gcd_st y (x % y)]
      exact ih f (x % y) (y % (x % y)) (r + 1 + 1) (by omega) (by omega) (by omega) (by omega) (by omega)
def prN (x y : Nat) (w : Int32) : Int32 := nI ((if w = 0 then x else y) / Nat.gcd x y)
theorem p_part {x y : Nat} (w : Int32) (hx : x < 2 ^ 31) (hy : y < 2 ^ 20) (hy0 : 1 ≤ y) : fX6_partOfFraction (nI x) (nI y) w = some (prN x y w) := by
  have hg0 : 0 < Nat.gcd x y := Nat.gcd_pos_of_pos_right x hy0
  have hgy : Nat.gcd x y ≤ y := Nat.le_of_dvd hy0 (Nat.gcd_dvd_right x y)
  have h := p_gcd 20 ab_fu x y 0 (by unfold ab_fu; omega) (by omega) hx hy (by omega)
  rw [show nI 0 = 0 from rfl] at h
  unfold fX6_partOfFraction fX6_commonDivisor bX6_commonDivisor_34 bX6_partOfFraction_19 prN
  rw [h, Option.bind_some, Option.bind_some, mx1 (by omega) (by omega), if_neg (nz (by omega) (by omega))]
  by_cases h0 : w = 0
  · rw [if_pos h0, if_pos h0, pk_div (by omega) (by omega) (by omega)]
  · rw [if_neg h0, if_neg h0, if_neg (nz (by omega) (by omega)), pk_div (by omega) (by omega) (by omega)]
theorem q_part {x y : Nat} (w : Int32) (hx : x < 2 ^ 31) (hy : y < 2 ^ 20) (hy0 : 1 ≤ y) : fX7_part (nI x) (nI y) w = some (prN x y w) := by
  have hg0 : 0 < Nat.gcd x y := Nat.gcd_pos_of_pos_right x hy0
  have hgy : Nat.gcd x y ≤ y := Nat.le_of_dvd hy0 (Nat.gcd_dvd_right x y)
  have h := q_gcd 20 ab_fu x y 0 (by unfold ab_fu; omega) (by omega) hx hy (by omega)
  rw [show nI 0 = 0 from rfl] at h
  unfold fX7_part fX7_common bX7_common_34 prN
  rw [h, Option.bind_some, Option.bind_some]
  by_cases h0 : w = 0
  · rw [if_pos h0, if_pos h0, if_neg (nz (by omega) (by omega)), pk_div (by omega) (by omega) (by omega)]
  · rw [if_neg h0, if_neg h0, if_neg (nz (by omega) (by omega)), pk_div (by omega) (by omega) (by omega)]
/-- the worst ticks so far -/
def wsN (S : bk) (d : Nat) : Nat → Nat
  | 0 => 1
  | 1 => 1
  | k + 2 => if ctN S d (k + 2) * lcN S d (wsN S d (k + 1)) ≤ ctN S d (wsN S d (k + 1)) * lcN S d (k + 2) then wsN S d (k + 1) else k + 2
theorem ws_ok (S : bk) (d : Nat) : ∀ k, 1 ≤ k → 1 ≤ wsN S d k ∧ wsN S d k ≤ k
  | 0, h => by omega
  | 1, _ => ⟨Nat.le_refl _, Nat.le_refl _⟩
  | k + 2, _ => by
    have := ws_ok S d (k + 1) (by omega)
    rw [wsN]
    split <;> omega
section
variable {S : bk} {F A : Nat → Nat → Int32} {d : Nat}
theorem ct_s (S : bk) (d k : Nat) : ctN S d (k + 1) = pwN S d k + S 77 (4 * d + lvA S d k) + S 78 (4 * d + lvA S d k) := by
  unfold ctN
  rw [pw_s]
  rfl
theorem p_ws_l {g : Nat} (hw : wf S) (hg : c1 S F A) (hd : d < 4) (hG : g ≤ 1000) : ∀ (j fu k : Nat), j < fu → k + 1 + j = g → lX1_worstTicks_13 (hp F A) (7 + 3 * d) (nI g) fu (nI (wsN S d (k + 1))) (lN (ctN S d (wsN S d (k + 1)))) (lN (lcN S d (wsN S d (k + 1)))) (nI (pwN S d (k + 1))) (nI (k + 1 + 1)) = some (nI (wsN S d g)) := by
  have hD := (hw.2.2.2.1 d hd).1
  intro j
  induction j with
  | zero =>
    intro fu k hf hk
    obtain ⟨f, rfl⟩ : ∃ f, fu = f + 1 := ⟨fu - 1, by omega⟩
    rw [lX1_worstTicks_13, if_pos (nI_lt (by omega) (by omega)), show k + 1 = g by omega]
  | succ j ih =>
    intro fu k hf hk
    obtain ⟨f, rfl⟩ : ∃ f, fu = f + 1 := ⟨fu - 1, by omega⟩
    have hl := lvA_le (S := S) (d := d) (a := k + 1)
    have h := ih f (k + 1) (by omega) (by omega)
    have hws := ws_ok S d (k + 1) (by omega)
    have c1 := ct_le hw hd (k := k + 1 + 1) (by omega)
    have c2 := ct_le hw hd (k := wsN S d (k + 1)) (by omega)
    have c3 := lc_le hw hd (k := k + 1 + 1) (by omega)
    have c4 := lc_le hw hd (k := wsN S d (k + 1)) (by omega)
    have m1 : ctN S d (k + 1 + 1) * lcN S d (wsN S d (k + 1)) ≤ 200000 * 200000 := Nat.mul_le_mul c1 c4
    have m2 : ctN S d (wsN S d (k + 1)) * lcN S d (k + 1 + 1) ≤ 200000 * 200000 := Nat.mul_le_mul c2 c3
    have hct := ct_s S d (k + 1)
    rw [lX1_worstTicks_13, if_neg (nI_nlt (by omega) (by omega)), dob hd, Option.bind_some, nI_pred, p_lvA hw hg hd (by omega), Option.bind_some, dgR0 hd, Option.bind_some, daP hd (by omega), Option.bind_some, (hg.2.2.2.2.2 d _ hd (by omega)).1, dgR1 hd, Option.bind_some, daW hd (by omega), Option.bind_some, (hg.2.2.2.2.2 d _ hd (by omega)).2, Option.bind_some, p_lc hw hg hd (by omega), Option.bind_some, nI_add, nI_add, ← hct, nI_l (by omega), nI_l (by omega), lN_mul, lN_mul]
    rw [wsN, pw_s] at h
    unfold bX1_worstTicks_88
    by_cases hc : ctN S d (k + 1 + 1) * lcN S d (wsN S d (k + 1)) ≤ ctN S d (wsN S d (k + 1)) * lcN S d (k + 1 + 1)
    · rw [if_pos (lcmp_le (by omega) (by omega) hc), nI_1]
      rw [if_pos hc] at h
      exact h
    · rw [if_neg (lcmp_gt (by omega) (by omega) (by omega)), nI_1]
      rw [if_neg hc] at h
      exact h
theorem p_ws {g : Nat} (hw : wf S) (hg : c1 S F A) (hd : d < 4) (h1 : 1 ≤ g) (hG : g ≤ 1000) : fX1_worstTicks (hp F A) (7 + 3 * d) (nI g) = some (nI (wsN S d g)) := by
  have hD := (hw.2.2.2.1 d hd).1
  have hl := lvA_le (S := S) (d := d) (a := 0)
  have h := p_ws_l (F := F) (A := A) hw hg hd hG (g - 1) 1999 0 (by omega) (by omega)
  have c1 := ct_le hw hd (k := 0 + 1) (by omega)
  have c0 : 1 ≤ ctN S d (0 + 1) := ct_pos hw hd
  have c3 := lc_le hw hd (k := 0 + 1) (by omega)
  have hct := ct_s S d 0
  rw [show wsN S d (0 + 1) = 1 from rfl, pw_s] at h
  unfold fX1_worstTicks
  rw [show ab_fu = 1999 + 1 from rfl, lX1_worstTicks_13, if_neg (show ¬ nI g < 1 from nI_nlt (b := 1) h1 (by omega)), dob hd, Option.bind_some, show (1 : Int32) - 1 = nI 0 from rfl, p_lvA hw hg hd (by omega), Option.bind_some, dgR0 hd, Option.bind_some, daP hd (by omega), Option.bind_some, (hg.2.2.2.2.2 d _ hd (by omega)).1, dgR1 hd, Option.bind_some, daW hd (by omega), Option.bind_some, (hg.2.2.2.2.2 d _ hd (by omega)).2, Option.bind_some, show (1 : Int32) = nI (0 + 1) from rfl, p_lc hw hg hd (by omega), Option.bind_some, show (0 : Int32) = nI (pwN S d 0) from rfl, nI_add, nI_add, ← hct, nI_l (by omega), nI_l (by omega), show (1 : Int64) = lN 1 from rfl, show (0 : Int64) = lN 0 from rfl, lN_mul, lN_mul]
  unfold bX1_worstTicks_88
  rw [show (nI (pwN S d 0)) = 0 from rfl, if_neg (lcmp_gt (a := ctN S d (0 + 1) * 1) (b := 0 * lcN S d (0 + 1)) (by omega) (by omega) (by omega)), nI_1]
  rw [h]
  rfl
theorem q_ws_l {g : Nat} {v3 : Int32} (hw : wf S) (hg : rg S F A) (hd : d < 4) (hG : g ≤ 1000) (k3 : ¬ S 79 d = 3) : ∀ (j fu k : Nat), j < fu → k + 1 + j = g → lX7_worst_60 (hp F A) 75 (nI d) (nI g) v3 fu (nI (wsN S d (k + 1))) (nI (ctN S d (wsN S d (k + 1)))) (nI (lcN S d (wsN S d (k + 1)))) (nI (pwN S d (k + 1))) (nI (k + 1 + 1)) = some (nI (wsN S d g), nI (ctN S d (wsN S d g)), nI (lcN S d (wsN S d g))) := by
  have hD := (hw.2.2.2.1 d hd).1
  intro j
  induction j with
  | zero =>
    intro fu k hf hk
    obtain ⟨f, rfl⟩ : ∃ f, fu = f + 1 := ⟨fu - 1, by omega⟩
    rw [lX7_worst_60, if_pos (nI_lt (by omega) (by omega)), show k + 1 = g by omega]
  | succ j ih =>
    intro fu k hf hk
    obtain ⟨f, rfl⟩ : ∃ f, fu = f + 1 := ⟨fu - 1, by omega⟩
    have hl := lvA_le (S := S) (d := d) (a := k + 1)
    have h := ih f (k + 1) (by omega) (by omega)
    have hws := ws_ok S d (k + 1) (by omega)
    have c1 := ct_le hw hd (k := k + 1 + 1) (by omega)
    have c2 := ct_le hw hd (k := wsN S d (k + 1)) (by omega)
    have c3 := lc_le hw hd (k := k + 1 + 1) (by omega)
    have c4 := lc_le hw hd (k := wsN S d (k + 1)) (by omega)
    have m1 : ctN S d (k + 1 + 1) * lcN S d (wsN S d (k + 1)) ≤ 200000 * 200000 := Nat.mul_le_mul c1 c4
    have m2 : ctN S d (wsN S d (k + 1)) * lcN S d (k + 1 + 1) ≤ 200000 * 200000 := Nat.mul_le_mul c2 c3
    have hct := ct_s S d (k + 1)
    rw [lX7_worst_60, if_neg (nI_nlt (by omega) (by omega)), ob_75, Option.bind_some, nI_pred, q_lvA hw hg hd (by omega) k3, Option.bind_some, gR_75_1, Option.bind_some, ix4, aI_77 (by omega), Option.bind_some, (hg.2.2.2.2.1 _ (by omega)).1, Option.bind_some, q_wakeOf hw hg hd (by omega), Option.bind_some, Option.bind_some, q_lc hw hg hd (by omega), Option.bind_some, nI_add, nI_add, ← hct, nI_l (by omega), nI_l (by omega), nI_l (by omega), nI_l (by omega), lN_mul, lN_mul, if_neg (nz (by omega) (by omega))]
    rw [wsN, pw_s] at h
    unfold bX7_worst_137 bX7_worst_149
    by_cases hc : ctN S d (k + 1 + 1) * lcN S d (wsN S d (k + 1)) ≤ ctN S d (wsN S d (k + 1)) * lcN S d (k + 1 + 1)
    · rw [if_pos (lcmp_le (by omega) (by omega) hc), nI_1]
      rw [if_pos hc] at h
      exact h
    · rw [if_neg (lcmp_gt (by omega) (by omega) (by omega)), nI_1]
      rw [if_neg hc] at h
      exact h
theorem q_ws {g : Nat} {v3 : Int32} (hw : wf S) (hg : rg S F A) (hd : d < 4) (h1 : 1 ≤ g) (hG : g ≤ 1000) (k3 : ¬ S 79 d = 3) : lX7_worst_60 (hp F A) 75 (nI d) (nI g) v3 ab_fu 0 0 1 0 1 = some (nI (wsN S d g), nI (ctN S d (wsN S d g)), nI (lcN S d (wsN S d g))) := by
  have hD := (hw.2.2.2.1 d hd).1
  have hl := lvA_le (S := S) (d := d) (a := 0)
  have h := q_ws_l (F := F) (A := A) (v3 := v3) hw hg hd hG k3 (g - 1) 1999 0 (by omega) (by omega)
  have hct := ct_s S d 0
  rw [show wsN S d (0 + 1) = 1 from rfl, pw_s] at h
  rw [show ab_fu = 1999 + 1 from rfl, lX7_worst_60, if_neg (show ¬ nI g < 1 from nI_nlt (b := 1) h1 (by omega)), ob_75, Option.bind_some, show (1 : Int32) - 1 = nI 0 from rfl, q_lvA hw hg hd (by omega) k3, Option.bind_some, gR_75_1, Option.bind_some, ix4, aI_77 (by omega), Option.bind_some, (hg.2.2.2.2.1 _ (by omega)).1, Option.bind_some, q_wakeOf hw hg hd (by omega), Option.bind_some, Option.bind_some, show (1 : Int32) = nI (0 + 1) from rfl, q_lc hw hg hd (by omega), Option.bind_some, if_pos rfl]
  unfold bX7_worst_137 bX7_worst_149
  rw [show (0 : Int32) = nI (pwN S d 0) from rfl, nI_add, nI_add, ← hct, nI_1]
  exact h
end
theorem pu_worst {h : ab_H} (hv : iv h) (a0 a1 a2 : Int32) : ∃ r : Int32, fX6_worst h 0 a0 a1 a2 = some r ∧ fX7_worst h 75 a0 a1 a2 = some r := by
  obtain ⟨F, A, S, e, I⟩ := hv
  rw [e]
  obtain ⟨hw, hg, hc, -⟩ := id I
  by_cases hd : ¬ (0 ≤ a0 ∧ a0 ≤ 3)
  · refine ⟨-1, ?_, ?_⟩
    · unfold fX6_worst
      rw [isD_6, Option.bind_some, wi_0 hd, if_pos rfl]
    · unfold fX7_worst
      rw [isD_7, Option.bind_some, wi_0 hd, if_pos rfl]
  have hd := Classical.not_not.mp hd
  by_cases hk : ¬ (1 ≤ a1 ∧ a1 ≤ 1000)
  · refine ⟨-2, ?_, ?_⟩
    · unfold fX6_worst bX6_worst_29
      rw [isD_6, Option.bind_some, wi_1 hd, if_neg n_10, wi_6, Option.bind_some, wi_0 hk, if_pos rfl]
    · unfold fX7_worst bX7_worst_29
      rw [isD_7, Option.bind_some, wi_1 hd, if_neg n_10, wi_7, Option.bind_some, wi_0 hk, if_pos rfl]
  have hk := Classical.not_not.mp hk
  by_cases ht : ¬ (0 ≤ a2 ∧ a2 ≤ 2)
  · refine ⟨-2, ?_, ?_⟩
    · unfold fX6_worst bX6_worst_29
      rw [isD_6, Option.bind_some, wi_1 hd, if_neg n_10, wi_6, Option.bind_some, wi_1 hk, if_neg n_10, wi_6, Option.bind_some, wi_0 ht, if_pos rfl]
    · unfold fX7_worst bX7_worst_29
      rw [isD_7, Option.bind_some, wi_1 hd, if_neg n_10, wi_7, Option.bind_some, wi_1 hk, if_neg n_10, wi_7, Option.bind_some, wi_0 ht, if_pos rfl]
  have ht := Classical.not_not.mp ht
  obtain ⟨d, hd3, rfl⟩ := rg_of 3 (by decide) hd
  obtain ⟨g, g1, g2, rfl⟩ := rg_of1 1 1000 (by decide) (by decide) hk
  have hd4 : d < 4 := by omega
  have x79 := (hc.2.2.2.2.1 d hd4).2.1
  have y79 := (hg.2.2.2.1 d hd4).2.1
  have w79 := (hw.2.2.2.1 d hd4).2.1
  by_cases k3 : S 79 d = 3
  · refine ⟨-3, ?_, ?_⟩
    · unfold fX6_worst
      rw [isD_6, Option.bind_some, wi_1 hd, if_neg n_10, wi_6, Option.bind_some, wi_1 hk, if_neg n_10, wi_6, Option.bind_some, wi_1 ht, if_neg n_10, gR_0_0, Option.bind_some, gR_1_0, Option.bind_some, daR hd4, Option.bind_some, dgI3 hd4, Option.bind_some, x79, if_pos (by rw [k3]; rfl)]
    · unfold fX7_worst
      rw [isD_7, Option.bind_some, wi_1 hd, if_neg n_10, wi_7, Option.bind_some, wi_1 hk, if_neg n_10, wi_7, Option.bind_some, wi_1 ht, if_neg n_10, gR_75_3, Option.bind_some, aI_79 hd4, Option.bind_some, y79, if_pos (by rw [k3]; rfl)]
  have n3 : ¬ nI (S 79 d) = 3 := ne_c 3 rfl (by omega) (by omega) k3
  have hws := ws_ok S d g g1
  have hct := ct_le hw hd4 (k := wsN S d g) (by omega)
  have hlc := lc_le hw hd4 (k := wsN S d g) (by omega)
  have hlp := lc_pos hw hd4 (k := wsN S d g) (by omega)
  by_cases h2 : a2 = 2
  · refine ⟨nI (wsN S d g), ?_, ?_⟩
    · unfold fX6_worst
      rw [isD_6, Option.bind_some, wi_1 hd, if_neg n_10, wi_6, Option.bind_some, wi_1 hk, if_neg n_10, wi_6, Option.bind_some, wi_1 ht, if_neg n_10, gR_0_0, Option.bind_some, gR_1_0, Option.bind_some, daR hd4, Option.bind_some, dgI3 hd4, Option.bind_some, x79, if_neg n3, dob hd4, Option.bind_some, p_ws hw hc hd4 g1 g2, Option.bind_some, if_pos h2]
    · unfold fX7_worst
      rw [isD_7, Option.bind_some, wi_1 hd, if_neg n_10, wi_7, Option.bind_some, wi_1 hk, if_neg n_10, wi_7, Option.bind_some, wi_1 ht, if_neg n_10, gR_75_3, Option.bind_some, aI_79 hd4, Option.bind_some, y79, if_neg n3, q_ws hw hg hd4 g1 g2 k3, Option.bind_some, if_pos h2]
  · refine ⟨prN (ctN S d (wsN S d g)) (lcN S d (wsN S d g)) a2, ?_, ?_⟩
    · unfold fX6_worst
      rw [isD_6, Option.bind_some, wi_1 hd, if_neg n_10, wi_6, Option.bind_some, wi_1 hk, if_neg n_10, wi_6, Option.bind_some, wi_1 ht, if_neg n_10, gR_0_0, Option.bind_some, gR_1_0, Option.bind_some, daR hd4, Option.bind_some, dgI3 hd4, Option.bind_some, x79, if_neg n3, dob hd4, Option.bind_some, p_ws hw hc hd4 g1 g2, Option.bind_some, if_neg h2, Option.bind_some, p_ct hw hc hd4 (by omega), Option.bind_some, Option.bind_some, p_lc hw hc hd4 (by omega), Option.bind_some, p_part a2 (by omega) (by omega) hlp, Option.bind_some]
    · unfold fX7_worst
      rw [isD_7, Option.bind_some, wi_1 hd, if_neg n_10, wi_7, Option.bind_some, wi_1 hk, if_neg n_10, wi_7, Option.bind_some, wi_1 ht, if_neg n_10, gR_75_3, Option.bind_some, aI_79 hd4, Option.bind_some, y79, if_neg n3, q_ws hw hg hd4 g1 g2 k3, Option.bind_some, if_neg h2, q_part a2 (by omega) (by omega) hlp, Option.bind_some]
