def agN (S : bk) (d l : Nat) : Nat := (S 78 (4 * d + l) + (S 77 (4 * d) - S 77 (4 * d + l)) - 1) / (S 77 (4 * d) - S 77 (4 * d + l))
def drF (S : bk) (d l g a : Nat) : Nat := if a < g then S 77 (4 * d) * a + cstN S d (g - a) l else S 77 (4 * d) * g
section
variable {S : bk} {F A : Nat → Nat → Int32} {d l : Nat}
theorem pw_lt (hw : wf S) (hd : d < 4) : ∀ l, 1 ≤ l → l ≤ S 76 d → S 77 (4 * d + l) < S 77 (4 * d)
  | 0, h, _ => by omega
  | 1, _, h => (hw.2.2.2.2.2.1 d 0 hd (by omega)).1
  | l + 2, _, h => by
    have h1 := pw_lt hw hd (l + 1) (by omega) (by omega)
    have h2 : S 77 (4 * d + (l + 2)) < S 77 (4 * d + (l + 1)) := (hw.2.2.2.2.2.1 d (l + 1) hd (by omega)).1
    omega
theorem ag_iff {w s b : Nat} (hs : 1 ≤ s) : w ≤ b * s ↔ (w + s - 1) / s ≤ b := by
  rw [Nat.div_le_iff_le_mul_add_pred (by omega)]
  rw [Nat.mul_comm b s]
  omega
theorem ag_le (hw : wf S) (hd : d < 4) (h1 : 1 ≤ l) (hl : l ≤ S 76 d) : 1 ≤ agN S d l ∧ agN S d l ≤ 999 := by
  have hD := (hw.2.2.2.1 d hd).1
  have hp := pw_lt hw hd l h1 hl
  have hwk := (hw.2.2.2.2.1 d l hd (by omega)).2
  obtain ⟨m, rfl⟩ : ∃ m, l = m + 1 := ⟨l - 1, by omega⟩
  have hwp := wk_pos hw hd m (by omega)
  have i1 := ag_iff (w := S 78 (4 * d + (m + 1))) (s := S 77 (4 * d) - S 77 (4 * d + (m + 1))) (b := 999) (by omega)
  have i0 := ag_iff (w := S 78 (4 * d + (m + 1))) (s := S 77 (4 * d) - S 77 (4 * d + (m + 1))) (b := 0) (by omega)
  have hle : S 78 (4 * d + (m + 1)) ≤ 999 * (S 77 (4 * d) - S 77 (4 * d + (m + 1))) := by
    have : 999 * 1 ≤ 999 * (S 77 (4 * d) - S 77 (4 * d + (m + 1))) := Nat.mul_le_mul_left 999 (by omega)
    omega
  have h999 := i1.mp hle
  unfold agN
  rw [Nat.zero_mul] at i0
  refine ⟨?_, h999⟩
  rcases Nat.eq_zero_or_pos ((S 78 (4 * d + (m + 1)) + (S 77 (4 * d) - S 77 (4 * d + (m + 1))) - 1) / (S 77 (4 * d) - S 77 (4 * d + (m + 1)))) with h | h
  · have := i0.mpr (by omega)
    omega
  · exact h
theorem p_ag (hw : wf S) (hg : c1 S F A) (hd : d < 4) (h1 : 1 ≤ l) (hl : l ≤ S 76 d) : fX1_agesDrawn (hp F A) (7 + 3 * d) (nI l) = some (nI (agN S d l)) := by
  have hD := (hw.2.2.2.1 d hd).1
  have hp := pw_lt hw hd l h1 hl
  have hb := hw.2.2.2.2.1 d l hd (by omega)
  have hb0 := hw.2.2.2.2.1 d 0 hd (by omega)
  rw [Nat.add_zero] at hb0
  have x0 := (hg.2.2.2.2.2 d 0 hd (by omega)).1
  have hsum : nI (S 78 (4 * d + l)) + nI (S 77 (4 * d) - S 77 (4 * d + l)) - 1 = nI (S 78 (4 * d + l) + (S 77 (4 * d) - S 77 (4 * d + l)) - 1) := by
    rw [nI_add, show (1 : Int32) = nI 1 from rfl, pk_sub (by omega)]
  unfold fX1_agesDrawn
  rw [dgR0 hd, Option.bind_some, da0 hd, Option.bind_some, x0, Option.bind_some, daP hd (by omega), Option.bind_some, (hg.2.2.2.2.2 d l hd (by omega)).1, dgR1 hd, Option.bind_some, daW hd (by omega), Option.bind_some, (hg.2.2.2.2.2 d l hd (by omega)).2, Nat.add_zero, pk_sub (by omega), mx1 (by omega) (by omega), if_neg (nz (by omega) (by omega)), hsum, pk_div (by omega) (by omega) (by omega)]
  rfl
theorem q_ag {v3 v4 : Int32} (hw : wf S) (hg : rg S F A) (hd : d < 4) (h1 : 1 ≤ l) (hl : l ≤ S 76 d) : ∀ (j fu b : Nat), j < fu → b + j = agN S d l → lX7_drawn_71 (hp F A) 75 (nI d) (nI l) v3 v4 (nI (S 77 (4 * d) - S 77 (4 * d + l))) fu (nI b) = some (nI (agN S d l)) := by
  have hD := (hw.2.2.2.1 d hd).1
  have hp := pw_lt hw hd l h1 hl
  have hb := hw.2.2.2.2.1 d l hd (by omega)
  have hb0 := hw.2.2.2.2.1 d 0 hd (by omega)
  rw [Nat.add_zero] at hb0
  have ha := ag_le hw hd h1 hl
  have hx := fun b => ag_iff (w := S 78 (4 * d + l)) (s := S 77 (4 * d) - S 77 (4 * d + l)) (b := b) (by omega)
  have hmul : ∀ b, b ≤ 999 → b * (S 77 (4 * d) - S 77 (4 * d + l)) ≤ 999 * 100 := fun b hb => Nat.mul_le_mul hb (by omega)
  intro j
  induction j with
  | zero =>
    intro fu b hf hk
    obtain ⟨f, rfl⟩ : ∃ f, fu = f + 1 := ⟨fu - 1, by omega⟩
    have hm := hmul b (by omega)
    have hz := (hx b).mpr (by show agN S d l ≤ b; omega)
    rw [lX7_drawn_71, gR_75_2, Option.bind_some, ix4, aI_78 (by omega), Option.bind_some, (hg.2.2.2.2.1 _ (by omega)).2, pk_mul, if_pos (nI_le hz (by omega)), show b = agN S d l by omega]
  | succ j ih =>
    intro fu b hf hk
    obtain ⟨f, rfl⟩ : ∃ f, fu = f + 1 := ⟨fu - 1, by omega⟩
    have hm := hmul b (by omega)
    have hz : ¬ S 78 (4 * d + l) ≤ b * (S 77 (4 * d) - S 77 (4 * d + l)) := fun z => by
      have : agN S d l ≤ b := (hx b).mp z
      omega
    rw [lX7_drawn_71, gR_75_2, Option.bind_some, ix4, aI_78 (by omega), Option.bind_some, (hg.2.2.2.2.1 _ (by omega)).2, pk_mul, if_neg (nI_ge (by omega) (by omega)), nI_1]
    exact ih f (b + 1) (by omega) (by omega)
theorem dr_le (hw : wf S) (hd : d < 4) (hl : l < 4) {g a : Nat} (hg : g ≤ 1000) (ha : a ≤ 999) : drF S d l g a ≤ 300000 := by
  have hb := hw.2.2.2.2.1 d l hd hl
  have hb0 := hw.2.2.2.2.1 d 0 hd (by omega)
  rw [Nat.add_zero] at hb0
  unfold drF cstN
  split
  · have m1 : S 77 (4 * d) * a ≤ 100 * 999 := Nat.mul_le_mul hb0.1 ha
    have m2 : S 77 (4 * d + l) * (g - a) ≤ 100 * 1000 := Nat.mul_le_mul hb.1 (by omega)
    omega
  · have m1 : S 77 (4 * d) * g ≤ 100 * 1000 := Nat.mul_le_mul hb0.1 hg
    omega
theorem p_dr {g n : Nat} (hw : wf S) (hg : c1 S F A) (hd : d < 4) (hl : l < 4) (hG : g ≤ 1000) (hn : n ≤ 999) : ∀ (j fu a : Nat), j < fu → a + j = n → lX1_costOfAllDrawn_6 (hp F A) (7 + 3 * d) (nI l) (nI g) (nI n) fu (nI (sumN (drF S d l g) 0 a)) (nI a) = some (nI (sumN (drF S d l g) 0 n)) := by
  have x0 := (hg.2.2.2.2.2 d 0 hd (by omega)).1
  rw [Nat.add_zero] at x0
  intro j
  induction j with
  | zero =>
    intro fu a hf hk
    obtain ⟨f, rfl⟩ : ∃ f, fu = f + 1 := ⟨fu - 1, by omega⟩
    rw [lX1_costOfAllDrawn_6, if_pos (nI_le (by omega) (by omega)), show a = n by omega]
  | succ j ih =>
    intro fu a hf hk
    obtain ⟨f, rfl⟩ : ∃ f, fu = f + 1 := ⟨fu - 1, by omega⟩
    have h := ih f (a + 1) (by omega) (by omega)
    rw [show sumN (drF S d l g) 0 (a + 1) = sumN (drF S d l g) 0 a + drF S d l g (0 + a) from rfl, Nat.zero_add] at h
    rw [lX1_costOfAllDrawn_6, if_neg (nI_ge (by omega) (by omega))]
    unfold bX1_costOfAllDrawn_50
    by_cases hc : a < g
    · rw [if_pos (nI_lt hc (by omega)), dgR0 hd, Option.bind_some, da0 hd, Option.bind_some, x0, dob hd, Option.bind_some, pk_sub (by omega), p_cost hg hd hl, Option.bind_some, pk_mul, nI_add, nI_add, nI_1]
      rw [show drF S d l g a = S 77 (4 * d) * a + cstN S d (g - a) l from if_pos hc] at h
      exact h
    · rw [if_neg (nI_nlt (by omega) (by omega)), dgR0 hd, Option.bind_some, da0 hd, Option.bind_some, x0, pk_mul, nI_add, nI_1]
      rw [show drF S d l g a = S 77 (4 * d) * g from if_neg hc] at h
      exact h
theorem q_dr {g n : Nat} {v4 : Int32} (hw : wf S) (hg : rg S F A) (hd : d < 4) (hl : l < 4) (hG : g ≤ 1000) (hn : n ≤ 999) : ∀ (j fu a : Nat), j < fu → a + j = n → lX7_drawn_110 (hp F A) 75 (nI d) (nI l) (nI g) v4 (nI n) fu (nI (sumN (drF S d l g) 0 a)) (nI a) = some (nI (sumN (drF S d l g) 0 n)) := by
  have x0 := (hg.2.2.2.2.1 (4 * d) (by omega)).1
  intro j
  induction j with
  | zero =>
    intro fu a hf hk
    obtain ⟨f, rfl⟩ : ∃ f, fu = f + 1 := ⟨fu - 1, by omega⟩
    rw [lX7_drawn_110, if_pos (nI_le (by omega) (by omega)), show a = n by omega]
  | succ j ih =>
    intro fu a hf hk
    obtain ⟨f, rfl⟩ : ∃ f, fu = f + 1 := ⟨fu - 1, by omega⟩
    have h := ih f (a + 1) (by omega) (by omega)
    rw [show sumN (drF S d l g) 0 (a + 1) = sumN (drF S d l g) 0 a + drF S d l g (0 + a) from rfl, Nat.zero_add] at h
    rw [lX7_drawn_110, if_neg (nI_ge (by omega) (by omega))]
    unfold bX7_drawn_176
    by_cases hc : a < g
    · rw [if_pos (nI_lt hc (by omega)), gR_75_1, Option.bind_some, ix4_0, aI_77 (by omega), Option.bind_some, x0, Option.bind_some, nI_add, aI_77 (by omega), Option.bind_some, (hg.2.2.2.2.1 _ (by omega)).1, gR_75_2, Option.bind_some, aI_78 (by omega), Option.bind_some, (hg.2.2.2.2.1 _ (by omega)).2, pk_sub (by omega), pk_mul, pk_mul, nI_add, nI_add, nI_add, nI_1]
      rw [show drF S d l g a = S 77 (4 * d) * a + (S 77 (4 * d + l) * (g - a) + S 78 (4 * d + l)) from if_pos hc, ← Nat.add_assoc (S 77 (4 * d) * a)] at h
      exact h
    · rw [if_neg (nI_nlt (by omega) (by omega)), gR_75_1, Option.bind_some, ix4_0, aI_77 (by omega), Option.bind_some, x0, pk_mul, nI_add, nI_1]
      rw [show drF S d l g a = S 77 (4 * d) * g from if_neg hc] at h
      exact h
end
theorem pu_drawn {h : ab_H} (hv : iv h) (a0 a1 a2 a3 : Int32) : ∃ r : Int32, fX6_drawn h 0 a0 a1 a2 a3 = some r ∧ fX7_drawn h 75 a0 a1 a2 a3 = some r := by
  obtain ⟨F, A, S, e, I⟩ := hv
  rw [e]
  obtain ⟨hw, hg, hc, -⟩ := id I
  by_cases hd : ¬ (0 ≤ a0 ∧ a0 ≤ 3)
  · refine ⟨-1, ?_, ?_⟩
    · unfold fX6_drawn bX6_drawn_27
      rw [isD_6, Option.bind_some, wi_0 hd, if_pos rfl]
    · unfold fX7_drawn bX7_drawn_21
      rw [isD_7, Option.bind_some, wi_0 hd, if_pos rfl]
  have hd := Classical.not_not.mp hd
  obtain ⟨d, hd3, rfl⟩ := rg_of 3 (by decide) hd
  have hd4 : d < 4 := by omega
  have hD := (hw.2.2.2.1 d hd4).1
  have x76 := (hc.2.2.2.2.1 d hd4).1
  have y76 := (hg.2.2.2.1 d hd4).1
  have hh : fX1_hasLevel (hp F A) (7 + 3 * d) a1 = some (wi a1 0 (nI (S 76 d))) := by
    unfold fX1_hasLevel
    rw [dgI2 hd4, Option.bind_some, x76, wi_6, Option.bind_some, if_pos (wi_b _ _ _)]
  by_cases hl : ¬ (1 ≤ a1 ∧ a1 ≤ nI (S 76 d))
  · refine ⟨-1, ?_, ?_⟩
    · unfold fX6_drawn bX6_drawn_27
      rw [isD_6, Option.bind_some, wi_1 hd, if_neg n_10]
      by_cases h0 : a1 = 0
      · rw [if_pos h0]
      · have hn : ¬ (0 ≤ a1 ∧ a1 ≤ nI (S 76 d)) := fun z => by
          obtain ⟨l, l1, rfl⟩ := rg_of (S 76 d) (nI_toInt (by omega)) z
          refine hl ⟨?_, z.2⟩
          refine le_c l 1 1 rfl ?_ (by omega)
          rcases Nat.eq_zero_or_pos l with rfl | h
          · exact absurd rfl h0
          · exact h
        rw [if_neg h0, gR_0_0, Option.bind_some, gR_1_0, Option.bind_some, daR hd4, Option.bind_some, dob hd4, Option.bind_some, hh, Option.bind_some, wi_0 hn, if_pos rfl]
    · unfold fX7_drawn bX7_drawn_21
      rw [isD_7, Option.bind_some, wi_1 hd, if_neg n_10, gR_75_0, Option.bind_some, aI_76 hd4, Option.bind_some, y76, wi_7, Option.bind_some, wi_0 hl, if_pos rfl]
  have hl := Classical.not_not.mp hl
  obtain ⟨l, l1, l2, rfl⟩ := rg_of1 1 (S 76 d) (by decide) (nI_toInt (by omega)) hl
  have l0 : ¬ nI l = 0 := nz (by omega) (by omega)
  have hl2 : (0 : Int32) ≤ nI l ∧ nI l ≤ nI (S 76 d) := ⟨nI_pos' (by omega), hl.2⟩
  by_cases hk : ¬ (1 ≤ a2 ∧ a2 ≤ 1000)
  · refine ⟨-2, ?_, ?_⟩
    · unfold fX6_drawn bX6_drawn_50
      rw [isD_6, Option.bind_some, wi_1 hd, if_neg n_10, if_neg l0, gR_0_0, Option.bind_some, gR_1_0, Option.bind_some, daR hd4, Option.bind_some, dob hd4, Option.bind_some, hh, Option.bind_some, wi_1 hl2, if_neg n_10, wi_6, Option.bind_some, wi_0 hk, if_pos rfl]
    · unfold fX7_drawn bX7_drawn_44
      rw [isD_7, Option.bind_some, wi_1 hd, if_neg n_10, gR_75_0, Option.bind_some, aI_76 hd4, Option.bind_some, y76, wi_7, Option.bind_some, wi_1 hl, if_neg n_10, wi_7, Option.bind_some, wi_0 hk, if_pos rfl]
  have hk := Classical.not_not.mp hk
  by_cases ht : ¬ (0 ≤ a3 ∧ a3 ≤ 2)
  · refine ⟨-2, ?_, ?_⟩
    · unfold fX6_drawn bX6_drawn_50
      rw [isD_6, Option.bind_some, wi_1 hd, if_neg n_10, if_neg l0, gR_0_0, Option.bind_some, gR_1_0, Option.bind_some, daR hd4, Option.bind_some, dob hd4, Option.bind_some, hh, Option.bind_some, wi_1 hl2, if_neg n_10, wi_6, Option.bind_some, wi_1 hk, if_neg n_10, wi_6, Option.bind_some, wi_0 ht, if_pos rfl]
    · unfold fX7_drawn bX7_drawn_44
      rw [isD_7, Option.bind_some, wi_1 hd, if_neg n_10, gR_75_0, Option.bind_some, aI_76 hd4, Option.bind_some, y76, wi_7, Option.bind_some, wi_1 hl, if_neg n_10, wi_7, Option.bind_some, wi_1 hk, if_neg n_10, wi_7, Option.bind_some, wi_0 ht, if_pos rfl]
  have ht := Classical.not_not.mp ht
  obtain ⟨g, g1, g2, rfl⟩ := rg_of1 1 1000 (by decide) (by decide) hk
  have hag := ag_le hw hd4 l1 l2
  have hpl := pw_lt hw hd4 l l1 l2
  have qa := q_ag (F := F) (A := A) (v3 := nI g) (v4 := a3) hw hg hd4 l1 l2 (agN S d l) ab_fu 0 (by unfold ab_fu; omega) (by omega)
  rw [show nI 0 = 0 from rfl] at qa
  by_cases h2 : a3 = 2
  · refine ⟨nI (agN S d l), ?_, ?_⟩
    · unfold fX6_drawn
      rw [isD_6, Option.bind_some, wi_1 hd, if_neg n_10, if_neg l0, gR_0_0, Option.bind_some, gR_1_0, Option.bind_some, daR hd4, Option.bind_some, dob hd4, Option.bind_some, hh, Option.bind_some, wi_1 hl2, if_neg n_10, wi_6, Option.bind_some, wi_1 hk, if_neg n_10, wi_6, Option.bind_some, wi_1 ht, if_neg n_10, Option.bind_some, gR_1_0, Option.bind_some, daR hd4, Option.bind_some, dob hd4, Option.bind_some, p_ag hw hc hd4 l1 l2, Option.bind_some, if_pos h2]
    · unfold fX7_drawn
      rw [isD_7, Option.bind_some, wi_1 hd, if_neg n_10, gR_75_0, Option.bind_some, aI_76 hd4, Option.bind_some, y76, wi_7, Option.bind_some, wi_1 hl, if_neg n_10, wi_7, Option.bind_some, wi_1 hk, if_neg n_10, wi_7, Option.bind_some, wi_1 ht, if_neg n_10, gR_75_1, Option.bind_some, ix4_0, aI_77 (by omega), Option.bind_some, (hg.2.2.2.2.1 _ (by omega)).1, Option.bind_some, nI_add, aI_77 (by omega), Option.bind_some, (hg.2.2.2.2.1 _ (by omega)).1, pk_sub (by omega), qa, Option.bind_some, if_pos h2]
  · have pd := p_dr (F := F) (A := A) hw hc hd4 (show l < 4 by omega) g2 hag.2 (agN S d l) ab_fu 0 (by unfold ab_fu; omega) (by omega)
    have qd := q_dr (F := F) (A := A) (v4 := a3) hw hg hd4 (show l < 4 by omega) g2 hag.2 (agN S d l) ab_fu 0 (by unfold ab_fu; omega) (by omega)
    rw [show (nI (sumN (drF S d l g) 0 0)) = 0 from rfl, show nI 0 = 0 from rfl] at pd qd
    have hsm : sumN (drF S d l g) 0 (agN S d l) ≤ agN S d l * 300000 := sum_le _ _ _ _ (fun i hi => dr_le hw hd4 (by omega) g2 (by omega))
    refine ⟨prN (sumN (drF S d l g) 0 (agN S d l)) (agN S d l) a3, ?_, ?_⟩
    · unfold fX6_drawn fX1_costOfAllDrawn
      rw [isD_6, Option.bind_some, wi_1 hd, if_neg n_10, if_neg l0, gR_0_0, Option.bind_some, gR_1_0, Option.bind_some, daR hd4, Option.bind_some, dob hd4, Option.bind_some, hh, Option.bind_some, wi_1 hl2, if_neg n_10, wi_6, Option.bind_some, wi_1 hk, if_neg n_10, wi_6, Option.bind_some, wi_1 ht, if_neg n_10, Option.bind_some, gR_1_0, Option.bind_some, daR hd4, Option.bind_some, dob hd4, Option.bind_some, p_ag hw hc hd4 l1 l2, Option.bind_some, if_neg h2, Option.bind_some, gR_1_0, Option.bind_some, daR hd4, Option.bind_some, dob hd4, Option.bind_some, pd, Option.bind_some, Option.bind_some, p_part a3 (by omega) (by omega) hag.1, Option.bind_some]
    · unfold fX7_drawn
      rw [isD_7, Option.bind_some, wi_1 hd, if_neg n_10, gR_75_0, Option.bind_some, aI_76 hd4, Option.bind_some, y76, wi_7, Option.bind_some, wi_1 hl, if_neg n_10, wi_7, Option.bind_some, wi_1 hk, if_neg n_10, wi_7, Option.bind_some, wi_1 ht, if_neg n_10, gR_75_1, Option.bind_some, ix4_0, aI_77 (by omega), Option.bind_some, (hg.2.2.2.2.1 _ (by omega)).1, Option.bind_some, nI_add, aI_77 (by omega), Option.bind_some, (hg.2.2.2.2.1 _ (by omega)).1, pk_sub (by omega), qa, Option.bind_some, if_neg h2, qd, Option.bind_some, q_part a3 (by omega) (by omega) hag.1, Option.bind_some]
