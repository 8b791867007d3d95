theorem pu_told {h : ab_H} (hv : iv h) (a0 a1 : Int32) : ∃ r : Int32, fX6_told h 0 a0 a1 = some r ∧ fX7_told h 75 a0 a1 = some r := by
  obtain ⟨F, A, S, e, I⟩ := hv
  rw [e]
  obtain ⟨hw, hg, hc, -⟩ := id I
  have hm := hw.1
  by_cases hd : ¬ (0 ≤ a0 ∧ a0 ≤ nI (S 75 5) - 1)
  · refine ⟨-1, ?_, ?_⟩
    · unfold fX6_told
      rw [gR_0_0, Option.bind_some, gR_1_1, Option.bind_some, ob_3, Option.bind_some, has_6 hc, Option.bind_some, wi_0 hd, if_pos rfl]
    · unfold fX7_told
      rw [ob_75, Option.bind_some, has_7 hg, Option.bind_some, wi_0 hd, if_pos rfl]
  have hd := Classical.not_not.mp hd
  obtain ⟨r, hr, rfl⟩ := in_lt (by omega) hd
  obtain ⟨x1, x2, x3⟩ := hc.2.2.2.1 r (by omega)
  obtain ⟨y1, y2, y3⟩ := hg.2.2.2.2.2 r (by omega)
  by_cases k0 : a1 = 0
  · refine ⟨nI (S 81 r), ?_, ?_⟩
    · unfold fX6_told
      rw [gR_0_0, Option.bind_some, gR_1_1, Option.bind_some, ob_3, Option.bind_some, has_6 hc, Option.bind_some, wi_1 hd, if_neg n_10, if_pos k0, Option.bind_some, gR_1_1, Option.bind_some, gR_3_0, Option.bind_some, aI_4 (by omega), Option.bind_some, x1]
    · unfold fX7_told
      rw [ob_75, Option.bind_some, has_7 hg, Option.bind_some, wi_1 hd, if_neg n_10, if_pos k0, gR_75_6, Option.bind_some, aI_81 (by omega), Option.bind_some, y1]
  by_cases k1 : a1 = 1
  · refine ⟨nI (S 82 r), ?_, ?_⟩
    · unfold fX6_told
      rw [gR_0_0, Option.bind_some, gR_1_1, Option.bind_some, ob_3, Option.bind_some, has_6 hc, Option.bind_some, wi_1 hd, if_neg n_10, if_neg k0, if_pos k1, Option.bind_some, gR_1_1, Option.bind_some, gR_3_1, Option.bind_some, aI_5 (by omega), Option.bind_some, x2]
    · unfold fX7_told
      rw [ob_75, Option.bind_some, has_7 hg, Option.bind_some, wi_1 hd, if_neg n_10, if_neg k0, if_pos k1, gR_75_7, Option.bind_some, aI_82 (by omega), Option.bind_some, y2]
  by_cases k2 : a1 = 2
  · refine ⟨nI (S 83 r), ?_, ?_⟩
    · unfold fX6_told
      rw [gR_0_0, Option.bind_some, gR_1_1, Option.bind_some, ob_3, Option.bind_some, has_6 hc, Option.bind_some, wi_1 hd, if_neg n_10, if_neg k0, if_neg k1, if_pos k2, Option.bind_some, gR_1_1, Option.bind_some, gR_3_2, Option.bind_some, aI_6 (by omega), Option.bind_some, x3]
    · unfold fX7_told
      rw [ob_75, Option.bind_some, has_7 hg, Option.bind_some, wi_1 hd, if_neg n_10, if_neg k0, if_neg k1, if_pos k2, gR_75_8, Option.bind_some, aI_83 (by omega), Option.bind_some, y3]
  refine ⟨-2, ?_, ?_⟩
  · unfold fX6_told
    rw [gR_0_0, Option.bind_some, gR_1_1, Option.bind_some, ob_3, Option.bind_some, has_6 hc, Option.bind_some, wi_1 hd, if_neg n_10, if_neg k0, if_neg k1, if_neg k2]
  · unfold fX7_told
    rw [ob_75, Option.bind_some, has_7 hg, Option.bind_some, wi_1 hd, if_neg n_10, if_neg k0, if_neg k1, if_neg k2]
theorem pu_level {h : ab_H} (hv : iv h) (a0 a1 a2 : Int32) : ∃ r : Int32, fX6_level h 0 a0 a1 a2 = some r ∧ fX7_level h 75 a0 a1 a2 = some r := by
  obtain ⟨F, A, S, e, I⟩ := hv
  rw [e]
  obtain ⟨hw, hg, hc, -⟩ := id I
  by_cases hd : ¬ (0 ≤ a0 ∧ a0 ≤ 3)
  · refine ⟨-1, ?_, ?_⟩
    · unfold fX6_level bX6_level_23
      rw [isD_6, Option.bind_some, wi_0 hd, if_pos rfl]
    · unfold fX7_level bX7_level_21
      rw [isD_7, Option.bind_some, wi_0 hd, if_pos rfl]
  have hd := Classical.not_not.mp hd
  obtain ⟨d, hd3, rfl⟩ := rg_of 3 (by decide) hd
  have hd4 : d < 4 := by omega
  have w1 := (hw.2.2.2.1 d hd4).1
  have hl : fX1_hasLevel (hp F A) (7 + 3 * d) a1 = some (wi a1 0 (nI (S 76 d))) := by
    unfold fX1_hasLevel
    rw [dgI2 hd4, Option.bind_some, (hc.2.2.2.2.1 d hd4).1, wi_6, Option.bind_some, if_pos (wi_b _ _ _)]
  by_cases hk : ¬ (0 ≤ a1 ∧ a1 ≤ nI (S 76 d))
  · refine ⟨-1, ?_, ?_⟩
    · unfold fX6_level bX6_level_23
      rw [isD_6, Option.bind_some, wi_1 hd, if_neg n_10, gR_0_0, Option.bind_some, gR_1_0, Option.bind_some, daR hd4, Option.bind_some, dob hd4, Option.bind_some, hl, Option.bind_some, wi_0 hk, if_pos rfl]
    · unfold fX7_level bX7_level_21
      rw [isD_7, Option.bind_some, wi_1 hd, if_neg n_10, gR_75_0, Option.bind_some, aI_76 hd4, Option.bind_some, (hg.2.2.2.1 d hd4).1, wi_7, Option.bind_some, wi_0 hk, if_pos rfl]
  have hk := Classical.not_not.mp hk
  obtain ⟨l, hl3, rfl⟩ := rg_of (S 76 d) (nI_toInt (by omega)) hk
  have hl4 : l < 4 := by omega
  by_cases k0 : a2 = 0
  · refine ⟨nI (S 77 (4 * d + l)), ?_, ?_⟩
    · unfold fX6_level
      rw [isD_6, Option.bind_some, wi_1 hd, if_neg n_10, gR_0_0, Option.bind_some, gR_1_0, Option.bind_some, daR hd4, Option.bind_some, dob hd4, Option.bind_some, hl, Option.bind_some, wi_1 hk, if_neg n_10, if_pos k0, Option.bind_some, gR_1_0, Option.bind_some, daR hd4, Option.bind_some, dgR0 hd4, Option.bind_some, daP hd4 hl4, Option.bind_some, (hc.2.2.2.2.2 d l hd4 hl4).1]
    · unfold fX7_level
      rw [isD_7, Option.bind_some, wi_1 hd, if_neg n_10, gR_75_0, Option.bind_some, aI_76 hd4, Option.bind_some, (hg.2.2.2.1 d hd4).1, wi_7, Option.bind_some, wi_1 hk, if_neg n_10, wi_7, Option.bind_some, wi_1 (by rw [k0]; decide), if_neg n_10, if_pos k0, gR_75_1, Option.bind_some, ix4, aI_77 (by omega), Option.bind_some, (hg.2.2.2.2.1 _ (by omega)).1]
  by_cases k1 : a2 = 1
  · refine ⟨nI (S 78 (4 * d + l)), ?_, ?_⟩
    · unfold fX6_level
      rw [isD_6, Option.bind_some, wi_1 hd, if_neg n_10, gR_0_0, Option.bind_some, gR_1_0, Option.bind_some, daR hd4, Option.bind_some, dob hd4, Option.bind_some, hl, Option.bind_some, wi_1 hk, if_neg n_10, if_neg k0, if_pos k1, Option.bind_some, gR_1_0, Option.bind_some, daR hd4, Option.bind_some, dgR1 hd4, Option.bind_some, daW hd4 hl4, Option.bind_some, (hc.2.2.2.2.2 d l hd4 hl4).2]
    · unfold fX7_level
      rw [isD_7, Option.bind_some, wi_1 hd, if_neg n_10, gR_75_0, Option.bind_some, aI_76 hd4, Option.bind_some, (hg.2.2.2.1 d hd4).1, wi_7, Option.bind_some, wi_1 hk, if_neg n_10, wi_7, Option.bind_some, wi_1 (by rw [k1]; decide), if_neg n_10, if_neg k0, ob_75, Option.bind_some, q_wakeOf hw hg hd4 hl4, Option.bind_some]
  have hn : ¬ (0 ≤ a2 ∧ a2 ≤ 1) := by
    intro hh
    obtain ⟨j, hj, rfl⟩ := rg_of 1 (by decide) hh
    rcases (show j = 0 ∨ j = 1 by omega) with rfl | rfl
    · exact k0 rfl
    · exact k1 rfl
  refine ⟨-2, ?_, ?_⟩
  · unfold fX6_level
    rw [isD_6, Option.bind_some, wi_1 hd, if_neg n_10, gR_0_0, Option.bind_some, gR_1_0, Option.bind_some, daR hd4, Option.bind_some, dob hd4, Option.bind_some, hl, Option.bind_some, wi_1 hk, if_neg n_10, if_neg k0, if_neg k1]
  · unfold fX7_level
    rw [isD_7, Option.bind_some, wi_1 hd, if_neg n_10, gR_75_0, Option.bind_some, aI_76 hd4, Option.bind_some, (hg.2.2.2.1 d hd4).1, wi_7, Option.bind_some, wi_1 hk, if_neg n_10, wi_7, Option.bind_some, wi_0 hn, if_pos rfl]
theorem pu_request {h : ab_H} (hv : iv h) (a0 a1 a2 : Int32) : ∃ (r : Int32) (F1 A1 : Nat → Nat → Int32) (h2 : ab_H), fX6_request h 0 a0 a1 a2 = some (r, hp F1 A1) ∧ fX7_request (hp F1 A1) 75 a0 a1 a2 = some (r, h2) ∧ iv h2 := by
  obtain ⟨F, A, S, e, I⟩ := hv
  rw [e]
  obtain ⟨hw, hg, hc, -⟩ := id I
  have hm := hw.1
  by_cases hd : ¬ (0 ≤ a1 ∧ a1 ≤ 3)
  · refine ⟨-1, F, A, hp F A, ?_, ?_, ⟨F, A, S, rfl, I⟩⟩
    · unfold fX6_request
      rw [isD_6, Option.bind_some, wi_0 hd, if_pos rfl]
    · unfold fX7_request
      rw [isD_7, Option.bind_some, wi_0 hd, if_pos rfl]
  have hd := Classical.not_not.mp hd
  by_cases ht : ¬ (0 ≤ a0 ∧ a0 ≤ 999)
  · refine ⟨-2, F, A, hp F A, ?_, ?_, ⟨F, A, S, rfl, I⟩⟩
    · unfold fX6_request bX6_request_29
      rw [isD_6, Option.bind_some, wi_1 hd, if_neg n_10, wi_6, Option.bind_some, wi_0 ht, if_pos rfl]
    · unfold fX7_request bX7_request_29
      rw [isD_7, Option.bind_some, wi_1 hd, if_neg n_10, wi_7, Option.bind_some, wi_0 ht, if_pos rfl]
  have ht := Classical.not_not.mp ht
  by_cases hk : ¬ (0 ≤ a2 ∧ a2 ≤ 1)
  · refine ⟨-2, F, A, hp F A, ?_, ?_, ⟨F, A, S, rfl, I⟩⟩
    · unfold fX6_request bX6_request_29
      rw [isD_6, Option.bind_some, wi_1 hd, if_neg n_10, wi_6, Option.bind_some, wi_1 ht, if_neg n_10, wi_6, Option.bind_some, wi_0 hk, if_pos rfl]
    · unfold fX7_request bX7_request_29
      rw [isD_7, Option.bind_some, wi_1 hd, if_neg n_10, wi_7, Option.bind_some, wi_1 ht, if_neg n_10, wi_7, Option.bind_some, wi_0 hk, if_pos rfl]
  have hk := Classical.not_not.mp hk
  by_cases hf : S 75 5 = 40
  · refine ⟨-4, F, A, hp F A, ?_, ?_, ⟨F, A, S, rfl, I⟩⟩
    · unfold fX6_request
      rw [isD_6, Option.bind_some, wi_1 hd, if_neg n_10, wi_6, Option.bind_some, wi_1 ht, if_neg n_10, wi_6, Option.bind_some, wi_1 hk, if_neg n_10, gR_0_0, Option.bind_some, gR_1_1, Option.bind_some, gI_3_3, Option.bind_some, hc.2.2.1, if_neg (by rw [hf]; decide)]
    · unfold fX7_request
      rw [isD_7, Option.bind_some, wi_1 hd, if_neg n_10, wi_7, Option.bind_some, wi_1 ht, if_neg n_10, wi_7, Option.bind_some, wi_1 hk, if_neg n_10, gI_75_5, Option.bind_some, hg.1, if_pos (by rw [hf]; rfl)]
  obtain ⟨d, hd3, rfl⟩ := rg_of 3 (by decide) hd
  obtain ⟨t, ht3, rfl⟩ := rg_of 999 (by decide) ht
  obtain ⟨k, hk3, rfl⟩ := rg_of 1 (by decide) hk
  have hm4 : S 75 5 < 40 := by omega
  refine ⟨nI (S 75 5), up2 (up2 F 3 3 (nI (S 75 5 + 1))) 21 8 1, up2 (up2 (up2 A 4 (S 75 5) (nI t)) 5 (S 75 5) (nI d)) 6 (S 75 5) (nI k), hp (up2 (up2 (up2 F 3 3 (nI (S 75 5 + 1))) 21 8 1) 75 5 (nI (S 75 5 + 1))) (up2 (up2 (up2 (up2 (up2 (up2 A 4 (S 75 5) (nI t)) 5 (S 75 5) (nI d)) 6 (S 75 5) (nI k)) 81 (S 75 5) (nI t)) 82 (S 75 5) (nI d)) 83 (S 75 5) (nI k)), ?_, ?_, ⟨_, _, upN (upN (upN (upN S (81 + 0) (S 75 5) t) (81 + 1) (S 75 5) d) (81 + 2) (S 75 5) k) 75 5 (S 75 5 + 1), rfl, ?_⟩⟩
  · unfold fX6_request fX3_add fX4_makeStale
    rw [isD_6, Option.bind_some, wi_1 hd, if_neg n_10, wi_6, Option.bind_some, wi_1 ht, if_neg n_10, wi_6, Option.bind_some, wi_1 hk, if_neg n_10, gR_0_0, Option.bind_some, gR_1_1, Option.bind_some, gI_3_3, Option.bind_some, hc.2.2.1, if_pos (show nI (S 75 5) < 40 from nI_lt (b := 40) hm4 (by omega)), Option.bind_some, gR_1_1, Option.bind_some, ob_3, Option.bind_some, gR_3_0, Option.bind_some, gI_3_3, Option.bind_some, hc.2.2.1, sI_4 hm4, Option.bind_some, gR_3_1, Option.bind_some, gI_3_3, Option.bind_some, hc.2.2.1, sI_5 hm4, Option.bind_some, gR_3_2, Option.bind_some, gI_3_3, Option.bind_some, hc.2.2.1, sI_6 hm4, Option.bind_some, gI_3_3, Option.bind_some, hc.2.2.1, nI_1, pI_3_3, Option.bind_some, Option.bind_some, gR_0_3, Option.bind_some, ob_21, Option.bind_some, pI_21_8, Option.bind_some, Option.bind_some, gR_0_0, Option.bind_some, gR_1_1, Option.bind_some, gI_3_3, Option.bind_some, up2_ne (by omega), up2_eq, nI_pred]
  · unfold fX7_request
    rw [isD_7, Option.bind_some, wi_1 hd, if_neg n_10, wi_7, Option.bind_some, wi_1 ht, if_neg n_10, wi_7, Option.bind_some, wi_1 hk, if_neg n_10, gI_75_5, Option.bind_some, up2_ne (by omega), up2_ne (by omega), hg.1, if_neg (ne_c (x := 40) 40 rfl (by omega) (by omega) hf), gR_75_6, Option.bind_some, Option.bind_some, sI_81 hm4, Option.bind_some, gR_75_7, Option.bind_some, gI_75_5, Option.bind_some, up2_ne (by omega), up2_ne (by omega), hg.1, sI_82 hm4, Option.bind_some, gR_75_8, Option.bind_some, gI_75_5, Option.bind_some, up2_ne (by omega), up2_ne (by omega), hg.1, sI_83 hm4, Option.bind_some, gI_75_5, Option.bind_some, up2_ne (by omega), up2_ne (by omega), hg.1, nI_1, pI_75_5, Option.bind_some, gI_75_5, Option.bind_some, up2_eq, nI_pred]
  · refine I.new ?_ ?_ ?_ ?_ (fun c c1 c2 => ?_) (fun c hcc => ?_)
    · obtain ⟨w1, w2, w3, w4, w5, w6, w7⟩ := hw
      refine ⟨by rw [upN_eq]; omega, by simp (disch := omega) only [upN_ne]; exact w2, by simp (disch := omega) only [upN_ne]; exact w3, fun e he => ?_, fun e l he hl => ?_, fun e l he hl => ?_, fun i hi => ?_⟩
      · simp (disch := omega) only [upN_ne]; exact w4 e he
      · simp (disch := omega) only [upN_ne]; exact w5 e l he hl
      · simp (disch := omega) only [upN_ne] at hl ⊢; exact w6 e l he hl
      · obtain ⟨v1, v2, v3⟩ := w7 i hi
        by_cases hic : i = S 75 5
        · subst hic
          rw [upN_ne (a := 75) (by omega), upN_ne (a := 75) (by omega), upN_ne (a := 75) (by omega)]
          simp only [upN]
          refine ⟨?_, ?_, ?_⟩
          · simp; omega
          · simp; omega
          · simp; omega
        · simp (disch := omega) only [upN_ne]
          exact ⟨v1, v2, v3⟩
    · have g0 : rg S (up2 (up2 F 3 3 (nI (S 75 5 + 1))) 21 8 1) (up2 (up2 (up2 A 4 (S 75 5) (nI t)) 5 (S 75 5) (nI d)) 6 (S 75 5) (nI k)) := ((((hg.loF (by omega)).loF (by omega)).lo (by omega)).lo (by omega)).lo (by omega)
      exact (((g0.up (c := 81 + 0) (by omega)).up (c := 81 + 1) (by omega)).up (c := 81 + 2) (by omega)).upF
    · exact (((((((hc.req (j := 0) (by omega)).req (j := 1) (by omega)).req (j := 2) (by omega)).cnt).f21).hi (by omega)).hi (by omega)).hi (by omega) |>.hiF (by omega)
    · rw [up2_ne (by omega), up2_eq]
    · rw [up2_off (by omega), up2_off (by omega), up2_off (by omega)]
    · rw [up2_off (by omega), up2_off (by omega), up2_off (by omega), up2_off (by omega), up2_off (by omega), up2_off (by omega)]
