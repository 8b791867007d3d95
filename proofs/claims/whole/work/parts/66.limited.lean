section
variable {S : bk} {F A : Nat → Nat → Int32} {d G k day n : Nat}
def gcd6 (S : bk) (d G : Nat) (F A : Nat → Nat → Int32) : Prop := F 34 4 = nI G ∧ ∀ j, j < G → A 36 j = nI (eN S d (j + 1)) ∧ A 37 j = nI (awN S d j) ∧ A 38 j = nI (svN S d G j)
theorem sv_le (hw : wf S) (hd : d < 4) (hG : gok S d G) (hk : k < G) : svN S d G k ≤ 100000 := by
  have hg4 := gl_ok (k := k) hw (hG.2.2.2 k hk)
  have := aw_le (k := k) hw hd hg4.2.2.2
  unfold svN
  omega
theorem p_bet {i : Nat} (hw : wf S) (hd : d < 4) (hG : gok S d G) (hq : gcd6 S d G F A) (h1 : 1 ≤ day) (h2 : day ≤ 1000) (hi : i < G) : ∀ (j fu k : Nat), j < fu → k + j = G - 1 → lX2_betterOfSameDay_5 (hp F A) 34 (nI i) (nI day) fu (nI (rkN (svN S d G) (dyN S d day) k i)) (nI k) = some (nI (rkN (svN S d G) (dyN S d day) (G - 1) i)) := by
  have hGG := hG
  obtain ⟨g1, g2, g3, g4⟩ := hG
  have epr : nI G - 1 = nI (G - 1) := by
    have := nI_pred (G - 1)
    rw [show G - 1 + 1 = G by omega] at this
    exact this
  obtain ⟨z36, z37, z38⟩ := hq.2 i hi
  have hsi := sv_le hw hd hGG hi
  have hei := (gl_ok (k := i) hw (g4 i hi)).2.1
  have hdi : eN S d (i + 1) / day ≤ eN S d (i + 1) := Nat.div_le_self _ _
  intro j
  induction j with
  | zero =>
    intro fu k hf hk
    obtain ⟨f, rfl⟩ : ∃ f, fu = f + 1 := ⟨fu - 1, by omega⟩
    rw [lX2_betterOfSameDay_5, gI_34_4, Option.bind_some, hq.1, epr, if_pos (nI_le (by omega) (by omega)), show k = G - 1 by omega]
  | succ j ih =>
    intro fu k hf hk
    obtain ⟨f, rfl⟩ : ∃ f, fu = f + 1 := ⟨fu - 1, by omega⟩
    have h := ih f (k + 1) (by omega) (by omega)
    rw [show rkN (svN S d G) (dyN S d day) (k + 1) i = rkN (svN S d G) (dyN S d day) k i + (if bet (svN S d G) (dyN S d day) i k then 1 else 0) from rfl] at h
    obtain ⟨x36, x37, x38⟩ := hq.2 k (by omega)
    have hsk := sv_le (k := k) hw hd hGG (by omega)
    have hek := (gl_ok (k := k) hw (g4 k (by omega))).2.1
    have hdk : eN S d (k + 1) / day ≤ eN S d (k + 1) := Nat.div_le_self _ _
    have yes : (svN S d G i < svN S d G k ∨ (svN S d G k = svN S d G i ∧ k < i)) → bX2_betterOfSameDay_54 (lX2_betterOfSameDay_5 (hp F A) 34 (nI i) (nI day) f) 34 (nI i) (nI day) (nI (rkN (svN S d G) (dyN S d day) k i)) (nI k) (hp F A) = some (nI (rkN (svN S d G) (dyN S d day) (G - 1) i)) := fun hb => by
      unfold bX2_betterOfSameDay_54 bX2_betterOfSameDay_59 bX2_betterOfSameDay_89
      rw [if_neg n_10, gR_34_1, Option.bind_some, aI_36 (by omega), Option.bind_some, x36, if_neg (nz (by omega) (by omega)), Option.bind_some, aI_36 (by omega), Option.bind_some, z36, if_neg (nz (by omega) (by omega)), pk_div (by omega) (by omega) (by omega), pk_div (by omega) (by omega) (by omega), nI_1, nI_1]
      by_cases hc : eN S d (k + 1) / day = eN S d (i + 1) / day
      · rw [if_pos (by rw [hc])]
        rw [if_pos ⟨hb, hc⟩] at h
        exact h
      · rw [if_neg (fun e => hc ((nI_eq (by omega) (by omega)).mp e))]
        rw [if_neg (fun hh => hc hh.2)] at h
        exact h
    have no : ¬ (svN S d G i < svN S d G k ∨ (svN S d G k = svN S d G i ∧ k < i)) → bX2_betterOfSameDay_58 (lX2_betterOfSameDay_5 (hp F A) 34 (nI i) (nI day) f) 34 (nI i) (nI day) (nI (rkN (svN S d G) (dyN S d day) k i)) (nI k) (hp F A) = some (nI (rkN (svN S d G) (dyN S d day) (G - 1) i)) := fun hb => by
      unfold bX2_betterOfSameDay_58 bX2_betterOfSameDay_59 bX2_betterOfSameDay_89
      rw [if_pos rfl, nI_1]
      rw [if_neg (fun hh => hb hh.1)] at h
      exact h
    rw [lX2_betterOfSameDay_5, gI_34_4, Option.bind_some, hq.1, epr, if_neg (nI_ge (by omega) (by omega)), gR_34_3, Option.bind_some, aI_38 (by omega), Option.bind_some, x38, Option.bind_some, aI_38 (by omega), Option.bind_some, z38]
    by_cases c1 : svN S d G i < svN S d G k
    · rw [if_pos (nI_lt c1 (by omega))]
      exact yes (Or.inl c1)
    rw [if_neg (nI_nlt (by omega) (by omega)), Option.bind_some, aI_38 (by omega), Option.bind_some, x38, Option.bind_some, aI_38 (by omega), Option.bind_some, z38]
    by_cases c2 : svN S d G k = svN S d G i
    · rw [if_pos (by rw [c2])]
      by_cases c3 : i ≤ k
      · rw [if_pos (nI_le c3 (by omega))]
        exact no (by omega)
      · rw [if_neg (nI_ge (by omega) (by omega))]
        exact yes (Or.inr ⟨c2, by omega⟩)
    · rw [if_neg (fun e => c2 ((nI_eq (by omega) (by omega)).mp e))]
      exact no (by omega)
theorem rk_le (sv dy : Nat → Nat) (N i : Nat) : rkN sv dy N i ≤ N := by
  have h1 : rkN sv dy N i ≤ smN (fun _ => 1) N := sm_le N (fun k _ => by split <;> omega)
  have h2 : ∀ n, smN (fun _ => 1) n = n := fun n => by
    induction n with
    | zero => rfl
    | succ n ih => rw [smN, ih]
  rw [h2] at h1
  exact h1
def seN (S : bk) (d G day n k : Nat) : Nat := if k + 1 = G ∨ rkN (svN S d G) (dyN S d day) (G - 1) k < n then svN S d G k else 0
theorem p_few (hw : wf S) (hd : d < 4) (hG : gok S d G) (hq : gcd6 S d G F A) (h1 : 1 ≤ day) (h2 : day ≤ 1000) (hn : n ≤ 40) : ∀ (j fu k : Nat), j < fu → k + j = G → lX2_savedByFew_5 (hp F A) 34 (nI day) (nI n) fu (nI (smN (seN S d G day n) k)) (nI k) = some (nI (smN (seN S d G day n) G)) := by
  have hGG := hG
  obtain ⟨g1, g2, g3, g4⟩ := hG
  have epr : nI G - 1 = nI (G - 1) := by
    have := nI_pred (G - 1)
    rw [show G - 1 + 1 = G by omega] at this
    exact this
  intro j
  induction j with
  | zero =>
    intro fu k hf hk
    obtain ⟨f, rfl⟩ : ∃ f, fu = f + 1 := ⟨fu - 1, by omega⟩
    rw [lX2_savedByFew_5, gI_34_4, Option.bind_some, hq.1, if_pos (nI_le (by omega) (by omega)), show k = G by omega]
  | succ j ih =>
    intro fu k hf hk
    obtain ⟨f, rfl⟩ : ∃ f, fu = f + 1 := ⟨fu - 1, by omega⟩
    have h := ih f (k + 1) (by omega) (by omega)
    rw [smN] at h
    obtain ⟨x36, x37, x38⟩ := hq.2 k (by omega)
    have hrk := rk_le (svN S d G) (dyN S d day) (G - 1) k
    have yes : (k + 1 = G ∨ rkN (svN S d G) (dyN S d day) (G - 1) k < n) → bX2_savedByFew_40 (lX2_savedByFew_5 (hp F A) 34 (nI day) (nI n) f) 34 (nI day) (nI n) (nI (smN (seN S d G day n) k)) (nI k) (hp F A) = some (nI (smN (seN S d G day n) G)) := fun hb => by
      unfold bX2_savedByFew_40 bX2_savedByFew_50
      rw [gR_34_3, Option.bind_some, aI_38 (by omega), Option.bind_some, x38, nI_add, nI_1]
      rw [show seN S d G day n k = svN S d G k from if_pos hb] at h
      exact h
    rw [lX2_savedByFew_5, gI_34_4, Option.bind_some, hq.1, if_neg (nI_ge (by omega) (by omega)), Option.bind_some, epr]
    by_cases c1 : k + 1 = G
    · rw [if_pos (by rw [show k = G - 1 by omega])]
      exact yes (Or.inl c1)
    · have pb := p_bet (F := F) (A := A) (i := k) hw hd hGG hq h1 h2 (by omega) (G - 1) ab_fu 0 (by unfold ab_fu; omega) (by omega)
      rw [show nI (rkN (svN S d G) (dyN S d day) 0 k) = 0 from rfl, show nI 0 = 0 from rfl] at pb
      rw [if_neg (fun e => by have := (nI_eq (by omega) (by omega)).mp e; omega), ob_34, Option.bind_some, mx1 h1 (by omega)]
      unfold fX2_betterOfSameDay
      rw [pb, Option.bind_some, Option.bind_some]
      by_cases c2 : n ≤ rkN (svN S d G) (dyN S d day) (G - 1) k
      · rw [if_pos (nI_le c2 (by omega))]
        unfold bX2_savedByFew_50
        rw [nI_1]
        rw [show seN S d G day n k = 0 from if_neg (by omega)] at h
        exact h
      · rw [if_neg (nI_ge (by omega) (by omega))]
        exact yes (Or.inr (by omega))
end
theorem pu_limited {h : ab_H} (hv : iv h) (a0 a1 a2 : Int32) : ∃ (r : Int32) (F1 A1 : Nat → Nat → Int32) (h2 : ab_H), fX6_limited h 0 a0 a1 a2 = some (r, hp F1 A1) ∧ fX7_limited (hp F1 A1) 75 a0 a1 a2 = some (r, h2) ∧ iv h2 := by
  obtain ⟨F, A, S, e, I⟩ := hv
  rw [e]
  have hw := I.1
  have hc := I.2.2.1
  by_cases hd : ¬ (0 ≤ a0 ∧ a0 ≤ 3)
  · refine ⟨-1, F, A, hp F A, ?_, ?_, ⟨F, A, S, rfl, I⟩⟩
    · unfold fX6_limited
      rw [isD_6, Option.bind_some, wi_0 hd, if_pos rfl]
    · unfold fX7_limited
      rw [isD_7, Option.bind_some, wi_0 hd, if_pos rfl]
  have hd := Classical.not_not.mp hd
  by_cases hk : ¬ (1 ≤ a1 ∧ a1 ≤ 1000)
  · refine ⟨-2, F, A, hp F A, ?_, ?_, ⟨F, A, S, rfl, I⟩⟩
    · unfold fX6_limited bX6_limited_30
      rw [isD_6, Option.bind_some, wi_1 hd, if_neg n_10, wi_6, Option.bind_some, wi_0 hk, if_pos rfl]
    · unfold fX7_limited bX7_limited_30
      rw [isD_7, Option.bind_some, wi_1 hd, if_neg n_10, wi_7, Option.bind_some, wi_0 hk, if_pos rfl]
  have hk := Classical.not_not.mp hk
  by_cases ht : ¬ (0 ≤ a2 ∧ a2 ≤ 40)
  · refine ⟨-2, F, A, hp F A, ?_, ?_, ⟨F, A, S, rfl, I⟩⟩
    · unfold fX6_limited bX6_limited_30
      rw [isD_6, Option.bind_some, wi_1 hd, if_neg n_10, wi_6, Option.bind_some, wi_1 hk, if_neg n_10, wi_6, Option.bind_some, wi_0 ht, if_pos rfl]
    · unfold fX7_limited bX7_limited_30
      rw [isD_7, Option.bind_some, wi_1 hd, if_neg n_10, wi_7, Option.bind_some, wi_1 hk, if_neg n_10, wi_7, Option.bind_some, wi_0 ht, if_pos rfl]
  have ht := Classical.not_not.mp ht
  obtain ⟨d, hd3, rfl⟩ := rg_of 3 (by decide) hd
  obtain ⟨day, t1, t2, rfl⟩ := rg_of1 1 1000 (by decide) (by decide) hk
  obtain ⟨n, hn, rfl⟩ := rg_of 40 (by decide) ht
  have hd4 : d < 4 := by omega
  obtain ⟨G, F1, A1, p1, hG, p3, p4, p5, p6⟩ := p_find hw hc hd4
  have I1 := I.gap6 p3 p4
  obtain ⟨F2, A2, q1, q2, q3⟩ := q_lay hw hd4 hG I1.2.1
  have I2 := I1.gap7 q3
  have g1 := hG.1
  have g2 := hG.2.1
  obtain ⟨N, rfl⟩ : ∃ N, G = N + 1 := ⟨G - 1, by omega⟩
  have hg4 := gl_ok (k := N) hw (hG.2.2.2 N (by omega))
  have hgl : eN S d (N + 1) - eN S d N = glN S d N := rfl
  obtain ⟨y96, y97⟩ := q2.2 N (by omega)
  have s1 := p_sum (A := A1) (R := 37) (f0 := awN S d) (by decide +kernel) p5 g2 (fun k hk => (p6 k hk).2.1) (N + 1) ab_fu 0 (by unfold ab_fu; omega) (by omega)
  rw [show (nI (smN (awN S d) 0)) = 0 from rfl, show nI 0 = 0 from rfl] at s1
  have s2 := p_few (n := n) hw hd4 hG ⟨p5, p6⟩ t1 t2 hn (N + 1) ab_fu 0 (by unfold ab_fu; omega) (by omega)
  rw [show (nI (smN (seN S d (N + 1) day n) 0)) = 0 from rfl, show nI 0 = 0 from rfl] at s2
  obtain ⟨A3, r1, r2, r3⟩ := q_71 (F := F2) (v2 := nI day) (v3 := nI n) (c0 := teN S d N) hw hd4 hG N ab_fu 0 A2 (by unfold ab_fu; omega) (by omega) I2.2.1 q2 (fun k hk => by omega)
  rw [show teN S d N + smN (awN S d) 0 = teN S d N from rfl, show nI 0 = 0 from rfl, show N + 1 - 1 = N by omega] at r1
  have hg3 : rg S F2 A3 := I2.2.1.of rfl (fun c c1 c2 => r3 c (by omega))
  have q4 : qd S d (N + 1) F2 A3 := ⟨q2.1, fun i hi => by
    rw [r3 96 (by omega), r3 97 (by omega)]
    exact q2.2 i hi⟩
  have hday : 1000 / day ≤ 1000 := Nat.div_le_self _ _
  obtain ⟨X, A4, u1, u2, u3⟩ := q_out (F := F2) (n := n) (T := teN S d N + smN (awN S d) N) hw hd4 hG t1 t2 hn (by rw [show N + 1 - 1 = N by omega]; omega) (1000 / day + 1) ab_fu 0 (fun _ => false) A3 (by unfold ab_fu; omega) (by omega) hg3 q4 r2 (fun i hi hd => by omega) (fun _ _ _ => rfl)
  rw [show N + 1 - 1 = N by omega] at u1 u3
  have sx0 : sxN (svN S d (N + 1)) N (fun _ => false) = 0 := by
    have e : sxN (svN S d (N + 1)) N (fun _ => false) = smN (fun _ => 0) N := sm_eq N (fun k hk => if_neg (show ¬ false = true by decide))
    have z : ∀ n, smN (fun _ => 0) n = 0 := fun n => by
      induction n with
      | zero => rfl
      | succ n ih => rw [smN, ih]
    rw [e, z]
  rw [sx0, Nat.sub_zero, show nI 0 = 0 from rfl] at u1
  have hfin := sx_fin u3
  have hsel : smN (seN S d (N + 1) day n) N = smN (fun i => if rkN (svN S d (N + 1)) (dyN S d day) N i < n then svN S d (N + 1) i else 0) N := by
    refine sm_eq N (fun k hk => ?_)
    unfold seN
    rw [show N + 1 - 1 = N by omega]
    by_cases hr : rkN (svN S d (N + 1)) (dyN S d day) N k < n
    · rw [if_pos (Or.inr hr), if_pos hr]
    · rw [if_neg (by omega), if_neg hr]
  have hse : seN S d (N + 1) day n N = awN S d N - teN S d N := by
    unfold seN svN coN
    rw [if_pos (Or.inl rfl), if_pos rfl]
  have hte := te_aw (k := N) hw hd4
  have hsx := sx_le (G := N + 1) hw hd4 N X
  have hval : smN (awN S d) (N + 1) - smN (seN S d (N + 1) day n) (N + 1) = teN S d N + smN (awN S d) N - sxN (svN S d (N + 1)) N X := by
    rw [smN, smN, hsel, ← hfin, hse]
    omega
  have hle2 : smN (seN S d (N + 1) day n) (N + 1) ≤ smN (awN S d) (N + 1) := by
    rw [smN, smN, hsel, ← hfin, hse]
    omega
  have f4 : frQ F2 A2 F2 A4 := ⟨fun _ _ => rfl, fun _ _ => rfl, fun c hcc => by rw [u2 c (by omega), r3 c (by omega)]⟩
  refine ⟨nI (teN S d N + smN (awN S d) N - sxN (svN S d (N + 1)) N X), F1, A1, hp F2 A4, ?_, ?_, ⟨F2, A4, S, rfl, I2.gap7 f4⟩⟩
  · unfold fX6_limited fX2_costAwake fX2_sumOf fX2_savedByFew
    rw [isD_6, Option.bind_some, wi_1 hd, if_neg n_10, wi_6, Option.bind_some, wi_1 hk, if_neg n_10, wi_6, Option.bind_some, wi_1 ht, if_neg n_10, gR_0_4, Option.bind_some, gR_0_0, Option.bind_some, ob_34, Option.bind_some, p1, Option.bind_some, gR_0_4, Option.bind_some, ob_34, Option.bind_some, gR_34_2, Option.bind_some, Option.bind_some, s1, Option.bind_some, Option.bind_some, Option.bind_some, Option.bind_some, ob_34, Option.bind_some, s2, Option.bind_some, Option.bind_some, pk_sub hle2, hval]
  · unfold fX7_limited
    rw [isD_7, Option.bind_some, wi_1 hd, if_neg n_10, wi_7, Option.bind_some, wi_1 hk, if_neg n_10, wi_7, Option.bind_some, wi_1 ht, if_neg n_10, ob_75, Option.bind_some, q1, Option.bind_some, gR_75_26, Option.bind_some, gI_75_27, Option.bind_some, q2.1, nI_pred, aI_97 (by omega), Option.bind_some, y97, gR_75_25, Option.bind_some, Option.bind_some, nI_pred, aI_96 (by omega), Option.bind_some, y96, ob_75, Option.bind_some, pk_sub (by omega), hgl, q_te hw I2.2.1 hd4 hg4.2.2.1 hg4.2.2.2, Option.bind_some, show S 77 (4 * d + S 76 d) * glN S d N = teN S d N from rfl, r1, Option.bind_some, u1, Option.bind_some]
