theorem pu_deeper {h : ab_H} (hv : iv h) (a0 a1 a2 : Int32) : ∃ (r : Int32) (F1 A1 : Nat → Nat → Int32) (h2 : ab_H), fX6_deeper h 0 a0 a1 a2 = some (r, hp F1 A1) ∧ fX7_deeper (hp F1 A1) 75 a0 a1 a2 = some (r, h2) ∧ iv h2 := by
  obtain ⟨F, A, S, e, I⟩ := hv
  rw [e]
  obtain ⟨hw, hg, hc, -⟩ := id I
  by_cases hd : ¬ (0 ≤ a0 ∧ a0 ≤ 3)
  · refine ⟨-1, F, A, hp F A, ?_, ?_, ⟨F, A, S, rfl, I⟩⟩
    · unfold fX6_deeper
      rw [isD_6, Option.bind_some, wi_0 hd, if_pos rfl]
    · unfold fX7_deeper
      rw [isD_7, Option.bind_some, wi_0 hd, if_pos rfl]
  have hd := Classical.not_not.mp hd
  by_cases hp0 : ¬ (0 ≤ a1 ∧ a1 ≤ 99)
  · refine ⟨-2, F, A, hp F A, ?_, ?_, ⟨F, A, S, rfl, I⟩⟩
    · unfold fX6_deeper bX6_deeper_30
      rw [isD_6, Option.bind_some, wi_1 hd, if_neg n_10, wi_6, Option.bind_some, wi_0 hp0, if_pos rfl]
    · unfold fX7_deeper bX7_deeper_30
      rw [isD_7, Option.bind_some, wi_1 hd, if_neg n_10, wi_7, Option.bind_some, wi_0 hp0, if_pos rfl]
  have hp0 := Classical.not_not.mp hp0
  by_cases hw0 : ¬ (1 ≤ a2 ∧ a2 ≤ 999)
  · refine ⟨-2, F, A, hp F A, ?_, ?_, ⟨F, A, S, rfl, I⟩⟩
    · unfold fX6_deeper bX6_deeper_30
      rw [isD_6, Option.bind_some, wi_1 hd, if_neg n_10, wi_6, Option.bind_some, wi_1 hp0, if_neg n_10, wi_6, Option.bind_some, wi_0 hw0, if_pos rfl]
    · unfold fX7_deeper bX7_deeper_30
      rw [isD_7, Option.bind_some, wi_1 hd, if_neg n_10, wi_7, Option.bind_some, wi_1 hp0, if_neg n_10, wi_7, Option.bind_some, wi_0 hw0, if_pos rfl]
  have hw0 := Classical.not_not.mp hw0
  obtain ⟨d, hd3, rfl⟩ := rg_of 3 (by decide) hd
  obtain ⟨p, hp3, rfl⟩ := rg_of 99 (by decide) hp0
  obtain ⟨w, hw1, hw3, rfl⟩ := rg_of1 1 999 (by decide) (by decide) hw0
  have hd4 : d < 4 := by omega
  have hD := (hw.2.2.2.1 d hd4).1
  have hl4 : S 76 d < 4 := by omega
  have hb := hw.2.2.2.2.1 d (S 76 d) hd4 hl4
  have x76 := (hc.2.2.2.2.1 d hd4).1
  have y76 := (hg.2.2.2.1 d hd4).1
  have x77 := (hc.2.2.2.2.2 d (S 76 d) hd4 hl4).1
  have x78 := (hc.2.2.2.2.2 d (S 76 d) hd4 hl4).2
  have y77 := (hg.2.2.2.2.1 (4 * d + S 76 d) (by omega)).1
  by_cases k1 : S 77 (4 * d + S 76 d) ≤ p
  · refine ⟨-5, F, A, hp F A, ?_, ?_, ⟨F, A, S, rfl, I⟩⟩
    · unfold fX6_deeper bX6_deeper_74
      rw [isD_6, Option.bind_some, wi_1 hd, if_neg n_10, wi_6, Option.bind_some, wi_1 hp0, if_neg n_10, wi_6, Option.bind_some, wi_1 hw0, if_neg n_10, gR_0_0, Option.bind_some, gR_1_0, Option.bind_some, daR hd4, Option.bind_some, dgR0 hd4, Option.bind_some, dgI2 hd4, Option.bind_some, x76, daP hd4 hl4, Option.bind_some, x77, if_pos (nI_le k1 (by omega))]
    · unfold fX7_deeper bX7_deeper_71
      rw [isD_7, Option.bind_some, wi_1 hd, if_neg n_10, wi_7, Option.bind_some, wi_1 hp0, if_neg n_10, wi_7, Option.bind_some, wi_1 hw0, if_neg n_10, gR_75_0, Option.bind_some, aI_76 hd4, Option.bind_some, y76, gR_75_1, Option.bind_some, ix4, aI_77 (by omega), Option.bind_some, y77, if_pos (nI_le k1 (by omega))]
  have n1 : ¬ nI (S 77 (4 * d + S 76 d)) ≤ nI p := nI_ge (by omega) (by omega)
  by_cases k2 : ¬ S 78 (4 * d + S 76 d) < w
  · have n2 : ¬ nI (S 78 (4 * d + S 76 d)) < nI w := nI_nlt (by omega) (by omega)
    refine ⟨-5, F, A, hp F A, ?_, ?_, ⟨F, A, S, rfl, I⟩⟩
    · unfold fX6_deeper bX6_deeper_74
      rw [isD_6, Option.bind_some, wi_1 hd, if_neg n_10, wi_6, Option.bind_some, wi_1 hp0, if_neg n_10, wi_6, Option.bind_some, wi_1 hw0, if_neg n_10, gR_0_0, Option.bind_some, gR_1_0, Option.bind_some, daR hd4, Option.bind_some, dgR0 hd4, Option.bind_some, dgI2 hd4, Option.bind_some, x76, daP hd4 hl4, Option.bind_some, x77, if_neg n1, dgR1 hd4, Option.bind_some, Option.bind_some, daW hd4 hl4, Option.bind_some, x78, if_neg n2]
    · unfold fX7_deeper bX7_deeper_71
      rw [isD_7, Option.bind_some, wi_1 hd, if_neg n_10, wi_7, Option.bind_some, wi_1 hp0, if_neg n_10, wi_7, Option.bind_some, wi_1 hw0, if_neg n_10, gR_75_0, Option.bind_some, aI_76 hd4, Option.bind_some, y76, gR_75_1, Option.bind_some, ix4, aI_77 (by omega), Option.bind_some, y77, if_neg n1, Option.bind_some, aI_76 hd4, Option.bind_some, y76, ob_75, Option.bind_some, q_wakeOf hw hg hd4 hl4, Option.bind_some, if_neg n2]
  have k2 := Classical.not_not.mp k2
  have n2 : nI (S 78 (4 * d + S 76 d)) < nI w := nI_lt k2 (by omega)
  by_cases k3 : S 76 d = 3
  · have n3 : ¬ nI (S 76 d) < 3 := by rw [k3]; decide
    refine ⟨-4, F, A, hp F A, ?_, ?_, ⟨F, A, S, rfl, I⟩⟩
    · unfold fX6_deeper
      rw [isD_6, Option.bind_some, wi_1 hd, if_neg n_10, wi_6, Option.bind_some, wi_1 hp0, if_neg n_10, wi_6, Option.bind_some, wi_1 hw0, if_neg n_10, gR_0_0, Option.bind_some, gR_1_0, Option.bind_some, daR hd4, Option.bind_some, dgR0 hd4, Option.bind_some, dgI2 hd4, Option.bind_some, x76, daP hd4 hl4, Option.bind_some, x77, if_neg n1, dgR1 hd4, Option.bind_some, Option.bind_some, daW hd4 hl4, Option.bind_some, x78, if_pos n2, Option.bind_some, if_neg n3]
    · unfold fX7_deeper
      rw [isD_7, Option.bind_some, wi_1 hd, if_neg n_10, wi_7, Option.bind_some, wi_1 hp0, if_neg n_10, wi_7, Option.bind_some, wi_1 hw0, if_neg n_10, gR_75_0, Option.bind_some, aI_76 hd4, Option.bind_some, y76, gR_75_1, Option.bind_some, ix4, aI_77 (by omega), Option.bind_some, y77, if_neg n1, Option.bind_some, aI_76 hd4, Option.bind_some, y76, ob_75, Option.bind_some, q_wakeOf hw hg hd4 hl4, Option.bind_some, if_pos n2, Option.bind_some, aI_76 hd4, Option.bind_some, y76, if_pos (by rw [k3]; rfl)]
  have n3 : nI (S 76 d) < 3 := nI_lt (b := 3) (by omega) (by omega)
  have hl5 : S 76 d + 1 < 4 := by omega
  obtain ⟨ed, hed⟩ : ∃ ed, S 76 d = ed := ⟨_, rfl⟩
  refine ⟨nI (S 76 d + 1), up2 (up2 F (7 + 3 * d) 2 (nI (S 76 d + 1))) 21 8 1, up2 (up2 A (8 + 3 * d) (S 76 d + 1) (nI p)) (9 + 3 * d) (S 76 d + 1) (nI w), hp (up2 (up2 F (7 + 3 * d) 2 (nI (S 76 d + 1))) 21 8 1) (up2 (up2 (up2 (up2 (up2 A (8 + 3 * d) (S 76 d + 1) (nI p)) (9 + 3 * d) (S 76 d + 1) (nI w)) 77 (4 * d + (S 76 d + 1)) (nI p)) 78 (4 * d + (S 76 d + 1)) (nI w)) 76 d (nI (S 76 d + 1))), ?_, ?_, ⟨_, _, upN (upN (upN S 77 (4 * d + (S 76 d + 1)) p) 78 (4 * d + (S 76 d + 1)) w) 76 d (S 76 d + 1), rfl, ?_⟩⟩
  · unfold fX6_deeper fX1_addLevel fX4_makeStale
    rw [isD_6, Option.bind_some, wi_1 hd, if_neg n_10, wi_6, Option.bind_some, wi_1 hp0, if_neg n_10, wi_6, Option.bind_some, wi_1 hw0, if_neg n_10, gR_0_0, Option.bind_some, gR_1_0, Option.bind_some, daR hd4, Option.bind_some, dgR0 hd4, Option.bind_some, dgI2 hd4, Option.bind_some, x76, daP hd4 hl4, Option.bind_some, x77, if_neg n1, dgR1 hd4, Option.bind_some, Option.bind_some, daW hd4 hl4, Option.bind_some, x78, if_pos n2, Option.bind_some, if_pos n3, dob hd4, Option.bind_some, Option.bind_some, nI_1, dpI2 hd4, Option.bind_some, dgR0 hd4, Option.bind_some, dgI2 hd4, Option.bind_some, up2_eq, dsP hd4 hl5, Option.bind_some, dgR1 hd4, Option.bind_some, dgI2 hd4, Option.bind_some, up2_eq, dsW hd4 hl5, Option.bind_some, Option.bind_some, gR_0_3, Option.bind_some, ob_21, Option.bind_some, pI_21_8, Option.bind_some, Option.bind_some, dgI2 hd4, Option.bind_some, up2_ne (by omega), up2_eq]
  · have hg1 : rg S (up2 (up2 F (7 + 3 * d) 2 (nI (S 76 d + 1))) 21 8 1) (up2 (up2 A (8 + 3 * d) (S 76 d + 1) (nI p)) (9 + 3 * d) (S 76 d + 1) (nI w)) := (((hg.loF (by omega)).loF (by omega)).lo (by omega)).lo (by omega)
    have y76 := (hg1.2.2.2.1 d hd4).1
    have y77 := (hg1.2.2.2.2.1 (4 * d + S 76 d) (by omega)).1
    unfold fX7_deeper
    rw [isD_7, Option.bind_some, wi_1 hd, if_neg n_10, wi_7, Option.bind_some, wi_1 hp0, if_neg n_10, wi_7, Option.bind_some, wi_1 hw0, if_neg n_10, gR_75_0, Option.bind_some, aI_76 hd4, Option.bind_some, y76, gR_75_1, Option.bind_some, ix4, aI_77 (by omega), Option.bind_some, y77, if_neg n1, Option.bind_some, aI_76 hd4, Option.bind_some, y76, ob_75, Option.bind_some, q_wakeOf hw hg1 hd4 hl4, Option.bind_some, if_pos n2, Option.bind_some, aI_76 hd4, Option.bind_some, y76, if_neg (ne_c (x := 3) 3 rfl (by omega) (by omega) k3), Option.bind_some, nI_1, Nat.add_assoc, sI_77 (by omega), Option.bind_some, gR_75_2, Option.bind_some, sI_78 (by omega), Option.bind_some, gR_75_0, Option.bind_some, aI_76 hd4, Option.bind_some, up2_ne (by omega), up2_ne (by omega), y76, nI_1, sI_76 hd4, Option.bind_some, gR_75_0, Option.bind_some, aI_76 hd4, Option.bind_some, up2_eq]
  · refine I.new ?_ ?_ ?_ ?_ (fun c c1 c2 => ?_) (fun c hcc => ?_)
    · obtain ⟨w1, w2, w3, w4, w5, w6, w7⟩ := hw
      refine ⟨by simp (disch := omega) only [upN_ne]; exact w1, by simp (disch := omega) only [upN_ne]; exact w2, by simp (disch := omega) only [upN_ne]; exact w3, fun e he => ?_, fun e l he hl => ?_, fun e l he hl => ?_, fun i hi => ?_⟩
      · obtain ⟨v1, v2, v3, v4, v5, v6, v7⟩ := w4 e he
        by_cases hed : e = d
        · subst hed
          rw [upN_eq]
          simp (disch := omega) only [upN_ne]
          exact ⟨by omega, v2, v3, v4, v5, v6, v7⟩
        · simp (disch := omega) only [upN_ne]
          exact ⟨v1, v2, v3, v4, v5, v6, v7⟩
      · obtain ⟨v1, v2⟩ := w5 e l he hl
        rw [upN_ne (a := 76) (by omega), upN_ne (a := 76) (by omega), upN_ne (a := 78) (by omega)]
        by_cases hc : 4 * e + l = 4 * d + (S 76 d + 1)
        · rw [hc, upN_eq, upN_eq]; exact ⟨by omega, hw3⟩
        · rw [upN_ne (by omega), upN_ne (by omega), upN_ne (by omega)]; exact ⟨v1, v2⟩
      · have hl3 : S 76 e ≤ 3 := (w4 e he).1
        by_cases hed : e = d
        · subst hed
          rw [upN_eq] at hl
          by_cases hll : l = S 76 e
          · rw [hll]
            rw [upN_ne (a := 76) (by omega), upN_ne (a := 76) (by omega), upN_ne (a := 76) (by omega), upN_ne (a := 76) (by omega), upN_ne (a := 78) (by omega), upN_eq, upN_ne (a := 78) (by omega), upN_ne (a := 77) (by omega), upN_eq, upN_ne (a := 78) (by omega), upN_ne (a := 77) (by omega)]
            exact ⟨by omega, by omega⟩
          · simp (disch := omega) only [upN_ne]
            exact w6 e l he (by omega)
        · rw [upN_ne (by omega), upN_ne (by omega), upN_ne (by omega)] at hl
          simp (disch := omega) only [upN_ne]
          exact w6 e l he hl
      · simp (disch := omega) only [upN_ne]
        exact w7 i hi
    · have g0 : rg S (up2 (up2 F (7 + 3 * d) 2 (nI (S 76 d + 1))) 21 8 1) (up2 (up2 A (8 + 3 * d) (S 76 d + 1) (nI p)) (9 + 3 * d) (S 76 d + 1) (nI w)) := (((hg.loF (by omega)).loF (by omega)).lo (by omega)).lo (by omega)
      exact ((g0.up (c := 77) (by omega)).up (c := 78) (by omega)).up (c := 76) (by omega)
    · exact (((((hc.pow hd4 hl5).wak hd4 hl5).dep hd4).f21).hi (by omega)).hi (by omega) |>.hi (by omega)
    · rw [up2_eq]
    · rw [up2_off (by omega), up2_off (by omega)]
    · rw [up2_off (by omega), up2_off (by omega), up2_off (by omega), up2_off (by omega), up2_off (by omega)]
