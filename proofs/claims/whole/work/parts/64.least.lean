section
variable {S : bk} {F A : Nat → Nat → Int32} {d G k : Nat}
theorem rg.of2 {F' A' : Nat → Nat → Int32} (h : rg S F A) (h5 : F' 75 5 = F 75 5) (h9 : F' 75 9 = F 75 9) (h10 : F' 75 10 = F 75 10) (hA : ∀ c, 76 ≤ c → c ≤ 83 → A' c = A c) : rg S F' A' := by
  obtain ⟨g1, g2, g3, g4, g5, g6⟩ := h
  refine ⟨by rw [h5]; exact g1, by rw [h9]; exact g2, by rw [h10]; exact g3, ?_, ?_, ?_⟩
  · rw [hA 76 (by omega) (by omega), hA 79 (by omega) (by omega), hA 80 (by omega) (by omega)]; exact g4
  · rw [hA 77 (by omega) (by omega), hA 78 (by omega) (by omega)]; exact g5
  · rw [hA 81 (by omega) (by omega), hA 82 (by omega) (by omega), hA 83 (by omega) (by omega)]; exact g6
theorem q_next_l {t : Nat} (hw : wf S) (hg : rg S F A) (hd : d < 4) (ht : t ≤ 1000) : ∀ (j fu r : Nat), j < fu → r + j = S 75 5 → lX7_nextAsked_8 (hp F A) 75 (nI d) (nI t) fu (nI (nxN S d t r)) (nI r) = some (nI (nx S d t)) := by
  have hm := hw.1
  have h9 := hw.2.1.2
  intro j
  induction j with
  | zero =>
    intro fu r hf hr
    obtain ⟨f, rfl⟩ : ∃ f, fu = f + 1 := ⟨fu - 1, by omega⟩
    rw [lX7_nextAsked_8, gI_75_5, Option.bind_some, hg.1, if_pos (nI_le (by omega) (by omega)), show r = S 75 5 by omega]
    rfl
  | succ j ih =>
    intro fu r hf hr
    obtain ⟨f, rfl⟩ : ∃ f, fu = f + 1 := ⟨fu - 1, by omega⟩
    obtain ⟨y1, y2, y3⟩ := hg.2.2.2.2.2 r (by omega)
    obtain ⟨w1, w2, w3⟩ := hw.2.2.2.2.2.2 r (by omega)
    have hn := nx_le S d t r
    have h := ih f (r + 1) (by omega) (by omega)
    rw [lX7_nextAsked_8, gI_75_5, Option.bind_some, hg.1, if_neg (nI_ge (by omega) (by omega)), gR_75_7, Option.bind_some, aI_82 (by omega), Option.bind_some, y2]
    unfold bX7_nextAsked_60 bX7_nextAsked_61
    rw [nxN] at h
    by_cases c1 : S 82 r = d
    · rw [if_pos (by rw [c1]), gR_75_6, Option.bind_some, aI_81 (by omega), Option.bind_some, y1]
      by_cases c2 : S 81 r ≤ t
      · rw [if_pos (nI_le c2 (by omega)), nI_1]
        rw [if_neg (by omega)] at h
        exact h
      rw [if_neg (nI_ge (by omega) (by omega)), Option.bind_some, aI_81 (by omega), Option.bind_some, y1]
      by_cases c3 : nxN S d t r ≤ S 81 r
      · rw [if_pos (nI_le c3 (by omega)), nI_1]
        rw [if_neg (by omega)] at h
        exact h
      rw [if_neg (nI_ge (by omega) (by omega)), Option.bind_some, aI_81 (by omega), Option.bind_some, y1, nI_1]
      rw [if_pos (by omega)] at h
      exact h
    · rw [if_neg (fun e => c1 ((nI_eq (by omega) (by omega)).mp e)), nI_1]
      rw [if_neg (by omega)] at h
      exact h
theorem q_next {t : Nat} (hw : wf S) (hg : rg S F A) (hd : d < 4) (ht : t ≤ 1000) : fX7_nextAsked (hp F A) 75 (nI d) (nI t) = some (nI (nx S d t)) := by
  have h := q_next_l (F := F) (A := A) hw hg hd ht (S 75 5) ab_fu 0 (by unfold ab_fu; have := hw.1; omega) (by omega)
  unfold fX7_nextAsked
  rw [gI_75_9, Option.bind_some, hg.2.1]
  rw [show nxN S d t 0 = S 75 9 from rfl, show nI 0 = 0 from rfl] at h
  rw [h, Option.bind_some]
def qd (S : bk) (d k : Nat) (F A : Nat → Nat → Int32) : Prop := F 75 27 = nI k ∧ ∀ j, j < k → A 96 j = nI (eN S d j) ∧ A 97 j = nI (eN S d (j + 1))
def frQ (F A F' A' : Nat → Nat → Int32) : Prop := (∀ c, c ≠ 75 → F' c = F c) ∧ (∀ j, j ≠ 27 → F' 75 j = F 75 j) ∧ (∀ c, ¬ (96 ≤ c ∧ c ≤ 98) → A' c = A c)
theorem frQ.refl : frQ F A F A := ⟨fun _ _ => rfl, fun _ _ => rfl, fun _ _ => rfl⟩
theorem frQ.trans {F' A' F2 A2 : Nat → Nat → Int32} (h : frQ F A F' A') (h2 : frQ F' A' F2 A2) : frQ F A F2 A2 :=
  ⟨fun c hc => (h2.1 c hc).trans (h.1 c hc), fun j hj => (h2.2.1 j hj).trans (h.2.1 j hj), fun c hc => (h2.2.2 c hc).trans (h.2.2 c hc)⟩
theorem rg.frq {F' A' : Nat → Nat → Int32} (h : rg S F A) (f : frQ F A F' A') : rg S F' A' := h.of2 (f.2.1 5 (by omega)) (f.2.1 9 (by omega)) (f.2.1 10 (by omega)) (fun c c1 c2 => f.2.2 c (by omega))
theorem q_lay_l (hw : wf S) (hd : d < 4) (hG : gok S d G) : ∀ (j fu k : Nat) (F A : Nat → Nat → Int32), j < fu → k + j = G → rg S F A → qd S d k F A → ∃ F' A', lX7_layGaps_7 75 (nI d) fu (nI (eN S d k)) (hp F A) = some (hp F' A') ∧ qd S d G F' A' ∧ frQ F A F' A' := by
  have h9 := hw.2.1.2
  obtain ⟨g1, g2, g3, g4⟩ := hG
  intro j
  induction j with
  | zero =>
    intro fu k F A hf hk hg hq
    obtain ⟨f, rfl⟩ : ∃ f, fu = f + 1 := ⟨fu - 1, by omega⟩
    have e : k = G := by omega
    subst e
    refine ⟨F, A, ?_, hq, frQ.refl⟩
    rw [lX7_layGaps_7, gI_75_9, Option.bind_some, hg.2.1, if_pos (nI_le (by omega) (by omega))]
  | succ j ih =>
    intro fu k F A hf hk hg hq
    obtain ⟨f, rfl⟩ : ∃ f, fu = f + 1 := ⟨fu - 1, by omega⟩
    have hEk := g4 k (by omega)
    have hg4 := gl_ok (k := k) hw hEk
    have hgA : rg S F (up2 A 96 k (nI (eN S d k))) := hg.of rfl (fun c c1 c2 => up2_off (by omega))
    have fr1 : frQ F A (up2 F 75 27 (nI (k + 1))) (up2 (up2 A 96 k (nI (eN S d k))) 97 k (nI (eN S d (k + 1)))) := by
      refine ⟨fun c hc => up2_off hc, fun i hi => up2_ne (by omega), fun c hc => ?_⟩
      rw [up2_off (by omega), up2_off (by omega)]
    obtain ⟨F', A', z1, z2, z3⟩ := ih f (k + 1) (up2 F 75 27 (nI (k + 1))) (up2 (up2 A 96 k (nI (eN S d k))) 97 k (nI (eN S d (k + 1)))) (by omega) (by omega) (hg.frq fr1) ⟨up2_eq _ _ _ _, fun i hi => by
      by_cases hik : i = k
      · subst hik
        refine ⟨?_, ?_⟩
        · rw [up2_ne (by omega), up2_eq]
        · rw [up2_eq]
      · rw [up2_ne (by omega), up2_ne (by omega), up2_ne (by omega), up2_ne (by omega)]
        exact hq.2 i (by omega)⟩
    refine ⟨F', A', ?_, z2, fr1.trans z3⟩
    rw [lX7_layGaps_7, gI_75_9, Option.bind_some, hg.2.1, if_neg (nI_ge (by omega) (by omega)), gR_75_25, Option.bind_some, gI_75_27, Option.bind_some, hq.1, sI_96 (by omega), Option.bind_some, gR_75_26, Option.bind_some, gI_75_27, Option.bind_some, hq.1, ob_75, Option.bind_some, q_next hw hgA hd (by omega), Option.bind_some, show nx S d (eN S d k) = eN S d (k + 1) from rfl, sI_97 (by omega), Option.bind_some, gR_75_26, Option.bind_some, gI_75_27, Option.bind_some, hq.1, aI_97 (by omega), Option.bind_some, up2_eq, Option.bind_some, nI_1, pI_75_27, Option.bind_some]
    exact z1
theorem q_lay (hw : wf S) (hd : d < 4) (hG : gok S d G) (hg : rg S F A) : ∃ F' A', fX7_layGaps (hp F A) 75 (nI d) = some (hp F' A') ∧ qd S d G F' A' ∧ frQ F A F' A' := by
  have f1 : frQ F A (up2 F 75 27 0) A := ⟨fun c hc => up2_off hc, fun i hi => up2_ne (by omega), fun _ _ => rfl⟩
  have g2 := hG.2.1
  obtain ⟨F', A', z1, z2, z3⟩ := q_lay_l hw hd hG G ab_fu 0 (up2 F 75 27 0) A (by unfold ab_fu; omega) (by omega) (hg.frq f1) ⟨up2_eq _ _ _ _, fun j hj => by omega⟩
  refine ⟨F', A', ?_, z2, f1.trans z3⟩
  unfold fX7_layGaps
  rw [show (nI (eN S d 0)) = 0 from rfl] at z1
  rw [pI_75_27, Option.bind_some, z1, Option.bind_some]
theorem q_te_l {g : Nat} (hw : wf S) (hg : rg S F A) (hd : d < 4) (h1 : 1 ≤ g) (h2 : g ≤ 1000) : ∀ (j fu l : Nat), j < fu → l + j = S 76 d → lX7_leastToEnd_14 (hp F A) 75 (nI d) (nI g) fu (nI (S 77 (4 * d + l) * g)) (nI (l + 1)) = some (nI (S 77 (4 * d + S 76 d) * g)) := by
  have hD := (hw.2.2.2.1 d hd).1
  have y76 := (hg.2.2.2.1 d hd).1
  intro j
  induction j with
  | zero =>
    intro fu l hf hl
    obtain ⟨f, rfl⟩ : ∃ f, fu = f + 1 := ⟨fu - 1, by omega⟩
    rw [lX7_leastToEnd_14, gR_75_0, Option.bind_some, aI_76 hd, Option.bind_some, y76, if_pos (nI_lt (by omega) (by omega)), show l = S 76 d by omega]
  | succ j ih =>
    intro fu l hf hl
    obtain ⟨f, rfl⟩ : ∃ f, fu = f + 1 := ⟨fu - 1, by omega⟩
    have hb := (hw.2.2.2.2.1 d l hd (by omega)).1
    have hs := (hw.2.2.2.2.2.1 d l hd (by omega)).1
    have m1 : S 77 (4 * d + (l + 1)) * g < S 77 (4 * d + l) * g := Nat.mul_lt_mul_of_pos_right hs (by omega)
    have m2 : S 77 (4 * d + l) * g ≤ 100 * 1000 := Nat.mul_le_mul hb h2
    rw [lX7_leastToEnd_14, gR_75_0, Option.bind_some, aI_76 hd, Option.bind_some, y76, if_neg (nI_nlt (by omega) (by omega)), gR_75_1, Option.bind_some, ix4, aI_77 (by omega), Option.bind_some, (hg.2.2.2.2.1 _ (by omega)).1, pk_mul, if_neg (nI_ge (by omega) (by omega)), Option.bind_some, aI_77 (by omega), Option.bind_some, (hg.2.2.2.2.1 _ (by omega)).1]
    unfold bX7_leastToEnd_59
    rw [pk_mul, nI_1]
    exact ih f (l + 1) (by omega) (by omega)
theorem q_te {g : Nat} (hw : wf S) (hg : rg S F A) (hd : d < 4) (h1 : 1 ≤ g) (h2 : g ≤ 1000) : fX7_leastToEnd (hp F A) 75 (nI d) (nI g) = some (nI (S 77 (4 * d + S 76 d) * g)) := by
  have hD := (hw.2.2.2.1 d hd).1
  have h := q_te_l (F := F) (A := A) hw hg hd h1 h2 (S 76 d) ab_fu 0 (by unfold ab_fu; omega) (by omega)
  unfold fX7_leastToEnd
  rw [gR_75_1, Option.bind_some, ix4_0, aI_77 (by omega), Option.bind_some, (hg.2.2.2.2.1 _ (by omega)).1, pk_mul]
  rw [Nat.add_zero, show nI (0 + 1) = 1 from rfl] at h
  rw [h, Option.bind_some]
theorem co_le (hw : wf S) (hd : d < 4) (h : glN S d k ≤ 1000) : coN S d G k ≤ 100000 := Nat.le_trans (co_aw hw hd) (aw_le hw hd h)
/-- whether a gap is worth sleeping -/
def woN (S : bk) (d G k : Nat) : Nat := if awN S d k ≤ coN S d G k then 0 else 1
theorem q_least {v2 : Int32} (hw : wf S) (hg : rg S F A) (hd : d < 4) (hG : gok S d G) (hq : qd S d G F A) : ∀ (j fu k : Nat), j < fu → k + j = G → lX7_least_34 (hp F A) 75 (nI d) v2 fu (nI (smN (coN S d G) k)) (nI (smN (woN S d G) k)) (nI k) = some (nI (smN (coN S d G) G), nI (smN (woN S d G) G)) := by
  have hD := (hw.2.2.2.1 d hd).1
  obtain ⟨g1, g2, g3, g4⟩ := hG
  intro j
  induction j with
  | zero =>
    intro fu k hf hk
    obtain ⟨f, rfl⟩ : ∃ f, fu = f + 1 := ⟨fu - 1, by omega⟩
    rw [lX7_least_34, gI_75_27, Option.bind_some, hq.1, if_pos (nI_le (by omega) (by omega)), show k = G by omega]
  | succ j ih =>
    intro fu k hf hk
    obtain ⟨f, rfl⟩ : ∃ f, fu = f + 1 := ⟨fu - 1, by omega⟩
    have hg4 := gl_ok (k := k) hw (g4 k (by omega))
    obtain ⟨y96, y97⟩ := hq.2 k (by omega)
    have h := ih f (k + 1) (by omega) (by omega)
    have hgl : eN S d (k + 1) - eN S d k = glN S d k := rfl
    have ha := aw_le (k := k) hw hd hg4.2.2.2
    have hco := co_le (G := G) (k := k) hw hd hg4.2.2.2
    have epr : nI G - 1 = nI (G - 1) := by
      have := nI_pred (G - 1)
      rw [show G - 1 + 1 = G by omega] at this
      exact this
    rw [smN, smN] at h
    have fin : bX7_least_88 (lX7_least_34 (hp F A) 75 (nI d) v2 f) 75 (nI d) v2 (nI (smN (coN S d G) k)) (nI (smN (woN S d G) k)) (nI k) (nI (glN S d k)) (nI (coN S d G k)) (hp F A) = some (nI (smN (coN S d G) G), nI (smN (woN S d G) G)) := by
      unfold bX7_least_88 bX7_least_118
      rw [gR_75_1, Option.bind_some, ix4_0, aI_77 (by omega), Option.bind_some, (hg.2.2.2.2.1 _ (by omega)).1, pk_mul, show S 77 (4 * d) * glN S d k = awN S d k from rfl, nI_1, nI_add]
      by_cases hc : awN S d k ≤ coN S d G k
      · rw [if_pos (nI_le hc (by omega)), show (0 : Int32) = nI 0 from rfl, nI_add]
        rw [show woN S d G k = 0 from if_pos hc] at h
        exact h
      · rw [if_neg (nI_ge (by omega) (by omega)), nI_1]
        rw [show woN S d G k = 1 from if_neg hc] at h
        exact h
    rw [lX7_least_34, gI_75_27, Option.bind_some, hq.1, if_neg (nI_ge (by omega) (by omega)), gR_75_26, Option.bind_some, aI_97 (by omega), Option.bind_some, y97, gR_75_25, Option.bind_some, aI_96 (by omega), Option.bind_some, y96, Option.bind_some, pk_sub (by omega), hgl, epr]
    by_cases hl : k + 1 = G
    · rw [if_pos (by rw [show k = G - 1 by omega]), ob_75, Option.bind_some, q_te hw hg hd hg4.2.2.1 hg4.2.2.2, Option.bind_some]
      rw [show coN S d G k = S 77 (4 * d + S 76 d) * glN S d k from if_pos hl] at fin
      rw [show coN S d G k = S 77 (4 * d + S 76 d) * glN S d k from if_pos hl] at h
      exact fin
    · rw [if_neg (fun e => by have := (nI_eq (by omega) (by omega)).mp e; omega), ob_75, Option.bind_some, q_lc hw hg hd (by omega), Option.bind_some]
      rw [show coN S d G k = lcN S d (glN S d k) from if_neg hl] at fin
      exact fin
theorem p_sum {R : Nat} {f0 : Nat → Nat} (hR : ok_A R 0 41 = true) (hF : F 34 4 = nI G) (hG : G ≤ 41) (hA : ∀ k, k < G → A R k = nI (f0 k)) : ∀ (j fu k : Nat), j < fu → k + j = G → lX2_sumOf_4 (hp F A) 34 R fu (nI (smN f0 k)) (nI k) = some (nI (smN f0 G)) := by
  intro j
  induction j with
  | zero =>
    intro fu k hf hk
    obtain ⟨f, rfl⟩ : ∃ f, fu = f + 1 := ⟨fu - 1, by omega⟩
    rw [lX2_sumOf_4, gI_34_4, Option.bind_some, hF, if_pos (nI_le (by omega) (by omega)), show k = G by omega]
  | succ j ih =>
    intro fu k hf hk
    obtain ⟨f, rfl⟩ : ∃ f, fu = f + 1 := ⟨fu - 1, by omega⟩
    rw [lX2_sumOf_4, gI_34_4, Option.bind_some, hF, if_neg (nI_ge (by omega) (by omega)), hp_aI 41 hR (by omega) (by decide), Option.bind_some, hA k (by omega), nI_add, nI_1]
    exact ih f (k + 1) (by omega) (by omega)
theorem p_worth {f0 : Nat → Nat} (hF : F 34 4 = nI G) (hG : G ≤ 41) (hA : ∀ k, k < G → A 38 k = nI (f0 k) ∧ f0 k < 2 ^ 31) : ∀ (j fu k : Nat), j < fu → k + j = G → lX2_worthSleeping_4 (hp F A) 34 fu (nI (smN (fun k => if f0 k = 0 then 0 else 1) k)) (nI k) = some (nI (smN (fun k => if f0 k = 0 then 0 else 1) G)) := by
  intro j
  induction j with
  | zero =>
    intro fu k hf hk
    obtain ⟨f, rfl⟩ : ∃ f, fu = f + 1 := ⟨fu - 1, by omega⟩
    rw [lX2_worthSleeping_4, gI_34_4, Option.bind_some, hF, if_pos (nI_le (by omega) (by omega)), show k = G by omega]
  | succ j ih =>
    intro fu k hf hk
    obtain ⟨f, rfl⟩ : ∃ f, fu = f + 1 := ⟨fu - 1, by omega⟩
    have h := ih f (k + 1) (by omega) (by omega)
    obtain ⟨a1, a2⟩ := hA k (by omega)
    rw [smN] at h
    rw [lX2_worthSleeping_4, gI_34_4, Option.bind_some, hF, if_neg (nI_ge (by omega) (by omega)), gR_34_3, Option.bind_some, aI_38 (by omega), Option.bind_some, a1]
    unfold bX2_worthSleeping_24
    by_cases hz : f0 k = 0
    · rw [if_pos (by rw [hz]; decide), nI_1]
      rw [if_pos hz] at h
      exact h
    · rw [if_neg (nI_nle (by omega) a2), nI_1, nI_1]
      rw [if_neg hz] at h
      exact h
theorem IS.gap6 {F' A' : Nat → Nat → Int32} (I : IS S F A) (hF : ∀ c, c ≠ 34 → F' c = F c) (hA : ∀ c, ¬ (35 ≤ c ∧ c ≤ 38) → A' c = A c) : IS S F' A' := by
  obtain ⟨hw, hg, hc, i0, i1, hca⟩ := I
  refine ⟨hw, hg.of (hF 75 (by omega)) (fun c c1 c2 => hA c (by omega)), hc.of (fun c hc => hF c (by omega)) (fun c hc => hA c (by omega)), ?_, ?_, hca.of (fun c c1 c2 => hF c (by omega)) (fun c c1 c2 => hA c (by omega))⟩
  · exact i0.of (by omega) (fun c c1 c2 => hF c (by omega)) (fun c c1 c2 => hA c (by omega)) (hA 20 (by omega)) (hA 99 (by omega)) (hA 100 (by omega))
  · exact i1.of (by omega) (fun c c1 c2 => hF c (by omega)) (fun c c1 c2 => hA c (by omega)) (hA 20 (by omega)) (hA 99 (by omega)) (hA 100 (by omega))
theorem IS.gap7 {F' A' : Nat → Nat → Int32} (I : IS S F A) (f : frQ F A F' A') : IS S F' A' := by
  obtain ⟨hw, hg, hc, i0, i1, hca⟩ := I
  refine ⟨hw, hg.frq f, hc.of (fun c hc => f.1 c (by omega)) (fun c hc => f.2.2 c (by omega)), ?_, ?_, hca.of (fun c c1 c2 => f.1 c (by omega)) (fun c c1 c2 => f.2.2 c (by omega))⟩
  · exact i0.of (by omega) (fun c c1 c2 => f.1 c (by omega)) (fun c c1 c2 => f.2.2 c (by omega)) (f.2.2 20 (by omega)) (f.2.2 99 (by omega)) (f.2.2 100 (by omega))
  · exact i1.of (by omega) (fun c c1 c2 => f.1 c (by omega)) (fun c c1 c2 => f.2.2 c (by omega)) (f.2.2 20 (by omega)) (f.2.2 99 (by omega)) (f.2.2 100 (by omega))
theorem aw_sum (hw : wf S) (hd : d < 4) (n : Nat) : smN (awN S d) n = smN (coN S d G) n + smN (svN S d G) n := by
  rw [← sm_add]
  refine sm_eq n (fun k hk => ?_)
  have := co_aw (G := G) (k := k) hw hd
  unfold svN
  omega
end
theorem pu_least {h : ab_H} (hv : iv h) (a0 a1 : Int32) : ∃ (r : Int32) (F1 A1 : Nat → Nat → Int32) (h2 : ab_H), fX6_least h 0 a0 a1 = some (r, hp F1 A1) ∧ fX7_least (hp F1 A1) 75 a0 a1 = some (r, h2) ∧ iv h2 := by
  obtain ⟨F, A, S, e, I⟩ := hv
  rw [e]
  have hw := I.1
  have hc := I.2.2.1
  by_cases hd : ¬ (0 ≤ a0 ∧ a0 ≤ 3)
  · refine ⟨-1, F, A, hp F A, ?_, ?_, ⟨F, A, S, rfl, I⟩⟩
    · unfold fX6_least
      rw [isD_6, Option.bind_some, wi_0 hd, if_pos rfl]
    · unfold fX7_least
      rw [isD_7, Option.bind_some, wi_0 hd, if_pos rfl]
  have hd := Classical.not_not.mp hd
  by_cases hk : ¬ (0 ≤ a1 ∧ a1 ≤ 2)
  · refine ⟨-2, F, A, hp F A, ?_, ?_, ⟨F, A, S, rfl, I⟩⟩
    · unfold fX6_least
      rw [isD_6, Option.bind_some, wi_1 hd, if_neg n_10, wi_6, Option.bind_some, wi_0 hk, if_pos rfl]
    · unfold fX7_least
      rw [isD_7, Option.bind_some, wi_1 hd, if_neg n_10, wi_7, Option.bind_some, wi_0 hk, if_pos rfl]
  have hk := Classical.not_not.mp hk
  obtain ⟨d, hd3, rfl⟩ := rg_of 3 (by decide) hd
  have hd4 : d < 4 := by omega
  obtain ⟨G, F1, A1, p1, hG, p3, p4, p5, p6⟩ := p_find hw hc hd4
  have I1 := I.gap6 p3 p4
  obtain ⟨F2, A2, q1, q2, q3⟩ := q_lay hw hd4 hG I1.2.1
  have I2 := I1.gap7 q3
  have g2 := hG.2.1
  have ql := q_least (v2 := a1) hw I2.2.1 hd4 hG q2 G ab_fu 0 (by unfold ab_fu; omega) (by omega)
  rw [show (nI (smN (coN S d G) 0)) = 0 from rfl, show (nI (smN (woN S d G) 0)) = 0 from rfl, show nI 0 = 0 from rfl] at ql
  have hsum := aw_sum (G := G) hw hd4 G
  by_cases k0 : a1 = 0
  · have s1 := p_sum (A := A1) (R := 37) (f0 := awN S d) (by decide +kernel) p5 g2 (fun k hk => (p6 k hk).2.1) G ab_fu 0 (by unfold ab_fu; omega) (by omega)
    have s2 := p_sum (A := A1) (R := 38) (f0 := svN S d G) (by decide +kernel) p5 g2 (fun k hk => (p6 k hk).2.2) G ab_fu 0 (by unfold ab_fu; omega) (by omega)
    rw [show (nI (smN (awN S d) 0)) = 0 from rfl, show nI 0 = 0 from rfl] at s1
    rw [show (nI (smN (svN S d G) 0)) = 0 from rfl, show nI 0 = 0 from rfl] at s2
    refine ⟨nI (smN (coN S d G) G), F1, A1, hp F2 A2, ?_, ?_, ⟨F2, A2, S, rfl, I2⟩⟩
    · unfold fX6_least fX2_costAwake fX2_savedByAll fX2_sumOf
      rw [isD_6, Option.bind_some, wi_1 hd, if_neg n_10, wi_6, Option.bind_some, wi_1 hk, if_neg n_10, gR_0_4, Option.bind_some, gR_0_0, Option.bind_some, ob_34, Option.bind_some, p1, Option.bind_some, if_pos k0, gR_0_4, Option.bind_some, ob_34, Option.bind_some, gR_34_2, Option.bind_some, Option.bind_some, s1, Option.bind_some, Option.bind_some, Option.bind_some, Option.bind_some, ob_34, Option.bind_some, gR_34_3, Option.bind_some, Option.bind_some, s2, Option.bind_some, Option.bind_some, Option.bind_some, pk_sub (by omega), show smN (awN S d) G - smN (svN S d G) G = smN (coN S d G) G by omega]
    · unfold fX7_least
      rw [isD_7, Option.bind_some, wi_1 hd, if_neg n_10, wi_7, Option.bind_some, wi_1 hk, if_neg n_10, ob_75, Option.bind_some, q1, Option.bind_some, ql, Option.bind_some, if_pos k0]
  by_cases k1 : a1 = 1
  · refine ⟨nI G, F1, A1, hp F2 A2, ?_, ?_, ⟨F2, A2, S, rfl, I2⟩⟩
    · unfold fX6_least
      rw [isD_6, Option.bind_some, wi_1 hd, if_neg n_10, wi_6, Option.bind_some, wi_1 hk, if_neg n_10, gR_0_4, Option.bind_some, gR_0_0, Option.bind_some, ob_34, Option.bind_some, p1, Option.bind_some, if_neg k0, if_pos k1, gR_0_4, Option.bind_some, gI_34_4, Option.bind_some, p5]
    · unfold fX7_least
      rw [isD_7, Option.bind_some, wi_1 hd, if_neg n_10, wi_7, Option.bind_some, wi_1 hk, if_neg n_10, ob_75, Option.bind_some, q1, Option.bind_some, ql, Option.bind_some, if_neg k0, if_pos k1, gI_75_27, Option.bind_some, q2.1]
  · have s3 := p_worth (A := A1) (f0 := svN S d G) p5 g2 (fun k hk => ⟨(p6 k hk).2.2, by
      have hg4 := gl_ok (k := k) hw (hG.2.2.2 k hk)
      have := aw_le (k := k) hw hd4 hg4.2.2.2
      unfold svN
      omega⟩) G ab_fu 0 (by unfold ab_fu; omega) (by omega)
    rw [show (nI (smN (fun k => if svN S d G k = 0 then 0 else 1) 0)) = 0 from rfl, show nI 0 = 0 from rfl] at s3
    have ew : smN (fun k => if svN S d G k = 0 then 0 else 1) G = smN (woN S d G) G := by
      refine sm_eq G (fun k hk => ?_)
      unfold woN svN
      by_cases hz : awN S d k ≤ coN S d G k
      · rw [if_pos hz, if_pos (by omega)]
      · rw [if_neg hz, if_neg (by omega)]
    rw [ew] at s3
    refine ⟨nI (smN (woN S d G) G), F1, A1, hp F2 A2, ?_, ?_, ⟨F2, A2, S, rfl, I2⟩⟩
    · unfold fX6_least fX2_worthSleeping
      rw [isD_6, Option.bind_some, wi_1 hd, if_neg n_10, wi_6, Option.bind_some, wi_1 hk, if_neg n_10, gR_0_4, Option.bind_some, gR_0_0, Option.bind_some, ob_34, Option.bind_some, p1, Option.bind_some, if_neg k0, if_neg k1, gR_0_4, Option.bind_some, ob_34, Option.bind_some, s3, Option.bind_some, Option.bind_some]
    · unfold fX7_least
      rw [isD_7, Option.bind_some, wi_1 hd, if_neg n_10, wi_7, Option.bind_some, wi_1 hk, if_neg n_10, ob_75, Option.bind_some, q1, Option.bind_some, ql, Option.bind_some, if_neg k0, if_neg k1]
