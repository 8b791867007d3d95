theorem in_lt {x : Int32} {m : Nat} (hm : m < 2 ^ 30) (h : 0 ≤ x ∧ x ≤ nI m - 1) : ∃ r, r < m ∧ x = nI r := by
  have h0 : (nI m - 1 : Int32).toInt = (m : Int) - 1 := pk_sub_toInt (a := m) (b := 1) hm (by omega)
  have h1 := Int32.le_iff_toInt_le.mp h.2
  have h2 := Int32.le_iff_toInt_le.mp h.1
  rw [h0] at h1
  rw [show (0 : Int32).toInt = 0 from rfl] at h2
  obtain ⟨r, hr, e⟩ := nI_of (x := x) (Int32.not_lt.mpr h.1)
  refine ⟨r, ?_, e⟩
  rw [e, nI_toInt hr] at h1
  omega
theorem has_6 {S : bk} {F A : Nat → Nat → Int32} (hg : c1 S F A) (x : Int32) : fX3_has (hp F A) 3 x = some (wi x 0 (nI (S 75 5) - 1)) := by
  unfold fX3_has
  rw [gI_3_3, Option.bind_some, hg.2.2.1, wi_6, Option.bind_some, if_pos (wi_b _ _ _)]
theorem has_7 {S : bk} {F A : Nat → Nat → Int32} (hg : rg S F A) (x : Int32) : fX7_isRequest (hp F A) 75 x = some (wi x 0 (nI (S 75 5) - 1)) := by
  unfold fX7_isRequest
  rw [gI_75_5, Option.bind_some, hg.1, wi_7, Option.bind_some, if_pos (wi_b _ _ _)]
theorem pu_fate {h : ab_H} (hv : iv h) (a0 : Int32) : ∃ (r : Int32) (F1 A1 : Nat → Nat → Int32) (h2 : ab_H), fX6_fate h 0 a0 = some (r, hp F1 A1) ∧ fX7_fate (hp F1 A1) 75 a0 = some (r, h2) ∧ iv h2 := by
  obtain ⟨F, A, S, e, I⟩ := hv
  rw [e]
  have hw := I.1
  have hm := hw.1
  by_cases hd : ¬ (0 ≤ a0 ∧ a0 ≤ nI (S 75 5) - 1)
  · refine ⟨-1, F, A, hp F A, ?_, ?_, ⟨F, A, S, rfl, I⟩⟩
    · unfold fX6_fate
      rw [gR_0_0, Option.bind_some, gR_1_1, Option.bind_some, ob_3, Option.bind_some, has_6 I.2.2.1, Option.bind_some, wi_0 hd, if_pos rfl]
    · unfold fX7_fate
      rw [ob_75, Option.bind_some, has_7 I.2.1, Option.bind_some, wi_0 hd, if_pos rfl]
  have hd := Classical.not_not.mp hd
  obtain ⟨r, hr, rfl⟩ := in_lt (by omega) hd
  obtain ⟨F1, A1, c1, c2, c3⟩ := run_c I
  obtain ⟨F2, A2, r1, r2, -, r4, -⟩ := run_r none_lk c3
  refine ⟨nI (runN S (S 75 9) 93 r), F1, A1, hp F2 A2, ?_, ?_, ⟨F2, A2, S, rfl, r4⟩⟩
  · unfold fX6_fate
    rw [gR_0_0, Option.bind_some, gR_1_1, Option.bind_some, ob_3, Option.bind_some, has_6 I.2.2.1, Option.bind_some, wi_1 hd, if_neg n_10, ob_0, Option.bind_some, c1, Option.bind_some]
    simp only []
    rw [gR_21_2, Option.bind_some, aI_24 (by omega), Option.bind_some, c2.1.2.2.1 r hr]
  · unfold fX7_fate
    rw [ob_75, Option.bind_some, has_7 c3.2.1, Option.bind_some, wi_1 hd, if_neg n_10, Option.bind_some, r1, Option.bind_some, gR_75_20, Option.bind_some, aI_93 (by omega), Option.bind_some, r2.2.2.1 r hr]
theorem pu_waiting {h : ab_H} (hv : iv h) (a0 : Int32) : ∃ (r : Int32) (F1 A1 : Nat → Nat → Int32) (h2 : ab_H), fX6_waiting h 0 a0 = some (r, hp F1 A1) ∧ fX7_waiting (hp F1 A1) 75 a0 = some (r, h2) ∧ iv h2 := by
  obtain ⟨F, A, S, e, I⟩ := hv
  rw [e]
  have hw := I.1
  have hm := hw.1
  have hb := (bnd_run hw (S 75 9)).2.2.1
  obtain ⟨F1, A1, c1, c2, c3⟩ := run_c I
  obtain ⟨F2, A2, r1, r2, -, r4, -⟩ := run_r none_lk c3
  by_cases hd : ¬ (0 ≤ a0 ∧ a0 ≤ nI (runN S (S 75 9) 75 22) - 1)
  · refine ⟨-6, F1, A1, hp F2 A2, ?_, ?_, ⟨F2, A2, S, rfl, r4⟩⟩
    · unfold fX6_waiting
      rw [ob_0, Option.bind_some, c1, Option.bind_some]
      simp only []
      rw [gI_21_4, Option.bind_some, c2.1.2.2.2.2.1, wi_6, Option.bind_some, wi_0 hd, if_pos rfl]
    · unfold fX7_waiting
      rw [ob_75, Option.bind_some, r1, Option.bind_some, gI_75_22, Option.bind_some, r2.2.2.2.2.1, wi_7, Option.bind_some, wi_0 hd, if_pos rfl]
  have hd := Classical.not_not.mp hd
  obtain ⟨r, hr, rfl⟩ := in_lt (by omega) hd
  refine ⟨nI (runN S (S 75 9) 94 r), F1, A1, hp F2 A2, ?_, ?_, ⟨F2, A2, S, rfl, r4⟩⟩
  · unfold fX6_waiting
    rw [ob_0, Option.bind_some, c1, Option.bind_some]
    simp only []
    rw [gI_21_4, Option.bind_some, c2.1.2.2.2.2.1, wi_6, Option.bind_some, wi_1 hd, if_neg n_10, gR_21_3, Option.bind_some, aI_25 (by omega), Option.bind_some, c2.1.2.2.2.1 r hr]
  · unfold fX7_waiting
    rw [ob_75, Option.bind_some, r1, Option.bind_some, gI_75_22, Option.bind_some, r2.2.2.2.2.1, wi_7, Option.bind_some, wi_1 hd, if_neg n_10, gR_75_21, Option.bind_some, aI_94 (by omega), Option.bind_some, r2.2.2.2.1 r hr]
theorem pu_at {h : ab_H} (hv : iv h) (a0 a1 a2 : Int32) : ∃ (r : Int32) (F1 A1 : Nat → Nat → Int32) (h2 : ab_H), fX6_at h 0 a0 a1 a2 = some (r, hp F1 A1) ∧ fX7_at (hp F1 A1) 75 a0 a1 a2 = some (r, h2) ∧ iv h2 := by
  obtain ⟨F, A, S, e, I⟩ := hv
  rw [e]
  have hw := I.1
  have he := hw.2.1
  by_cases hd : ¬ (0 ≤ a0 ∧ a0 ≤ 3)
  · refine ⟨-1, F, A, hp F A, ?_, ?_, ⟨F, A, S, rfl, I⟩⟩
    · unfold fX6_at
      rw [isD_6, Option.bind_some, wi_0 hd, if_pos rfl]
    · unfold fX7_at
      rw [isD_7, Option.bind_some, wi_0 hd, if_pos rfl]
  have hd := Classical.not_not.mp hd
  by_cases ht : ¬ (0 ≤ a1 ∧ a1 ≤ nI (S 75 9) - 1)
  · refine ⟨-2, F, A, hp F A, ?_, ?_, ⟨F, A, S, rfl, I⟩⟩
    · unfold fX6_at bX6_at_35
      rw [isD_6, Option.bind_some, wi_1 hd, if_neg n_10, gR_0_0, Option.bind_some, gI_1_2, Option.bind_some, I.2.2.1.1, wi_6, Option.bind_some, wi_0 ht, if_pos rfl]
    · unfold fX7_at bX7_at_32
      rw [isD_7, Option.bind_some, wi_1 hd, if_neg n_10, gI_75_9, Option.bind_some, I.2.1.2.1, wi_7, Option.bind_some, wi_0 ht, if_pos rfl]
  have ht := Classical.not_not.mp ht
  by_cases hk : ¬ (0 ≤ a2 ∧ a2 ≤ 2)
  · refine ⟨-2, F, A, hp F A, ?_, ?_, ⟨F, A, S, rfl, I⟩⟩
    · unfold fX6_at bX6_at_35
      rw [isD_6, Option.bind_some, wi_1 hd, if_neg n_10, gR_0_0, Option.bind_some, gI_1_2, Option.bind_some, I.2.2.1.1, wi_6, Option.bind_some, wi_1 ht, if_neg n_10, wi_6, Option.bind_some, wi_0 hk, if_pos rfl]
    · unfold fX7_at bX7_at_32
      rw [isD_7, Option.bind_some, wi_1 hd, if_neg n_10, gI_75_9, Option.bind_some, I.2.1.2.1, wi_7, Option.bind_some, wi_1 ht, if_neg n_10, wi_7, Option.bind_some, wi_0 hk, if_pos rfl]
  have hk := Classical.not_not.mp hk
  obtain ⟨d, hd3, rfl⟩ := rg_of 3 (by decide) hd
  obtain ⟨k, hk9, rfl⟩ := rg_of 2 (by decide) hk
  obtain ⟨t, ht2, rfl⟩ := in_lt (by omega) ht
  have hd4 : d < 4 := by omega
  obtain ⟨F1, A1, c1, c2, c3⟩ := run_g (T := t + 1) I (by omega)
  obtain ⟨F2, A2, r1, r2, r3, r4, -⟩ := run_r (lk := t) (v1 := nI t) (fun s hs => nI_eq (by omega) (by omega)) c3
  obtain ⟨s0, s1, s2⟩ := r3 ht2 d hd4
  obtain ⟨x0, x1, x2, x3, x4, x5, x6, x8, x9⟩ := c2.1.1 d hd4
  have key : ∀ (v : Int32), A2 95 (3 * d + k) = v → (k = 0 → F1 (26 + 2 * d) 6 = v) → (k = 1 → F1 (26 + 2 * d) 5 - 1 = v) → (k = 2 → F1 (26 + 2 * d) 0 = v) → ∃ (r : Int32) (F1 A1 : Nat → Nat → Int32) (h2 : ab_H), fX6_at (hp F A) 0 (nI d) (nI t) (nI k) = some (r, hp F1 A1) ∧ fX7_at (hp F1 A1) 75 (nI d) (nI t) (nI k) = some (r, h2) ∧ iv h2 := by
    intro v hv h0 h1 h2
    refine ⟨v, F1, A1, hp F2 A2, ?_, ?_, ⟨F2, A2, S, rfl, r4⟩⟩
    · unfold fX6_at
      rw [isD_6, Option.bind_some, wi_1 hd, if_neg n_10, gR_0_0, Option.bind_some, gI_1_2, Option.bind_some, I.2.2.1.1, wi_6, Option.bind_some, wi_1 ht, if_neg n_10, wi_6, Option.bind_some, wi_1 hk, if_neg n_10, gR_0_3, Option.bind_some, Option.bind_some, ob_21, Option.bind_some, nI_1, c1, Option.bind_some, gR_0_3, Option.bind_some, gR_21_0, Option.bind_some, caR hd4, Option.bind_some]
      rcases (show k = 0 ∨ k = 1 ∨ k = 2 by omega) with rfl | rfl | rfl
      · rw [if_pos (by decide), cgI6 hd4, Option.bind_some, h0 rfl]
      · rw [if_neg (by decide), if_pos (by decide), cgI5 hd4, Option.bind_some, h1 rfl]
      · rw [if_neg (by decide), if_neg (by decide), cgI0 hd4, Option.bind_some, h2 rfl]
    · unfold fX7_at
      rw [isD_7, Option.bind_some, wi_1 hd, if_neg n_10, gI_75_9, Option.bind_some, c3.2.1.2.1, wi_7, Option.bind_some, wi_1 ht, if_neg n_10, wi_7, Option.bind_some, wi_1 hk, if_neg n_10, ob_75, Option.bind_some, r1, Option.bind_some, gR_75_24, Option.bind_some, ix3, nI_add, aI_95 (by omega), Option.bind_some, hv]
  rcases (show k = 0 ∨ k = 1 ∨ k = 2 by omega) with rfl | rfl | rfl
  · exact key _ s0 (fun _ => x6) (fun h => absurd h (by decide)) (fun h => absurd h (by decide))
  · refine key (nI (runN S (t + 1) 84 d) - 1) ?_ (fun h => absurd h (by decide)) (fun _ => by rw [x5]) (fun h => absurd h (by decide))
    rw [← s1, Int32.add_sub_cancel]
  · exact key _ s2 (fun h => absurd h (by decide)) (fun h => absurd h (by decide)) (fun _ => x0)
theorem p_energy {S B : bk} {F A : Nat → Nat → Int32} (hr : cr S B F A) : fX4_energyOfAll (hp F A) 21 = some (nI (B 86 0 + B 86 1 + B 86 2 + B 86 3)) := by
  have step : ∀ (k f : Nat) (v : Int32), k < 4 → lX4_energyOfAll_4 (hp F A) 21 (f + 1) v (nI k) = lX4_energyOfAll_4 (hp F A) 21 f (v + nI (B 86 k)) (nI (k + 1)) := by
    intro k f v hk
    rw [lX4_energyOfAll_4, if_neg (show ¬ (4 : Int32) ≤ nI k from nI_ge (a := k) (b := 4) hk (by omega)), gR_21_0, Option.bind_some, caR hk, Option.bind_some, cgI0 hk, Option.bind_some, (hr.1 k hk).1, nI_1]
  unfold fX4_energyOfAll
  have h : lX4_energyOfAll_4 (hp F A) 21 ab_fu 0 0 = some (nI (B 86 0 + B 86 1 + B 86 2 + B 86 3)) := by
    rw [show ab_fu = 1995 + 1 + 1 + 1 + 1 + 1 from rfl, show (lX4_energyOfAll_4 (hp F A) 21 (1995 + 1 + 1 + 1 + 1 + 1) 0 0) = lX4_energyOfAll_4 (hp F A) 21 (1995 + 1 + 1 + 1 + 1 + 1) (nI 0) (nI 0) from rfl]
    rw [step 0 _ _ (by decide), step 1 _ _ (by decide), step 2 _ _ (by decide), step 3 _ _ (by decide), lX4_energyOfAll_4, if_pos (by decide), nI_add, nI_add, nI_add, nI_add, Nat.zero_add]
  rw [h, Option.bind_some]
theorem aZl {F A : Nat → Nat → Int32} : ab_aZ (hp F A) 20 0 = some (A 20 0) ∧ ab_aZ (hp F A) 20 1 = some (A 20 1) ∧ ab_aZ (hp F A) 100 0 = some (A 100 0) ∧ ab_aZ (hp F A) 100 1 = some (A 100 1) := ⟨aZ_20 (i := 0) (by decide), aZ_20 (i := 1) (by decide), aZ_100 (i := 0) (by decide), aZ_100 (i := 1) (by decide)⟩
theorem aIl {F A : Nat → Nat → Int32} : ab_aI (hp F A) 86 0 = some (A 86 0) ∧ ab_aI (hp F A) 86 1 = some (A 86 1) ∧ ab_aI (hp F A) 86 2 = some (A 86 2) ∧ ab_aI (hp F A) 86 3 = some (A 86 3) := ⟨aI_86 (i := 0) (by decide), aI_86 (i := 1) (by decide), aI_86 (i := 2) (by decide), aI_86 (i := 3) (by decide)⟩
theorem pu_count {h : ab_H} (hv : iv h) (a0 : Int32) : ∃ (r : Int32) (F1 A1 : Nat → Nat → Int32) (h2 : ab_H), fX6_count h 0 a0 = some (r, hp F1 A1) ∧ fX7_count (hp F1 A1) 75 a0 = some (r, h2) ∧ iv h2 := by
  obtain ⟨F, A, S, e, I⟩ := hv
  rw [e]
  obtain ⟨F1, A1, c1, c2, c3⟩ := run_c I
  obtain ⟨F2, A2, r1, r2, -, r4, -⟩ := run_r none_lk c3
  obtain ⟨F3, A3, t1, t2, -, t4, t5⟩ := run_r none_lk I
  unfold fX6_count
  by_cases k0 : a0 = 0
  · refine ⟨nI (S 75 5), F, A, hp F3 A3, ?_, ?_, ⟨F3, A3, S, rfl, t4⟩⟩
    · rw [if_pos k0, gR_0_0, Option.bind_some, gR_1_1, Option.bind_some, gI_3_3, Option.bind_some, I.2.2.1.2.2.1]
    · unfold fX7_count
      rw [ob_75, Option.bind_some, t1, Option.bind_some, if_pos k0, gI_75_5, Option.bind_some, t4.2.1.1]
  rw [if_neg k0]
  by_cases k1 : a0 = 1
  · refine ⟨nI (S 75 9), F, A, hp F3 A3, ?_, ?_, ⟨F3, A3, S, rfl, t4⟩⟩
    · rw [if_pos k1, gR_0_0, Option.bind_some, gI_1_2, Option.bind_some, I.2.2.1.1]
    · unfold fX7_count
      rw [ob_75, Option.bind_some, t1, Option.bind_some, if_neg k0, if_pos k1, gI_75_9, Option.bind_some, t4.2.1.2.1]
  rw [if_neg k1]
  by_cases k2 : a0 = 2
  · refine ⟨nI (S 75 10), F, A, hp F3 A3, ?_, ?_, ⟨F3, A3, S, rfl, t4⟩⟩
    · rw [if_pos k2, gR_0_0, Option.bind_some, gI_1_3, Option.bind_some, I.2.2.1.2.1]
    · unfold fX7_count
      rw [ob_75, Option.bind_some, t1, Option.bind_some, if_neg k0, if_neg k1, if_pos k2, gI_75_10, Option.bind_some, t4.2.1.2.2.1]
  rw [if_neg k2]
  by_cases k3 : a0 = 3
  · refine ⟨nI (runN S (S 75 9) 86 0 + runN S (S 75 9) 86 1 + runN S (S 75 9) 86 2 + runN S (S 75 9) 86 3), F1, A1, hp F2 A2, ?_, ?_, ⟨F2, A2, S, rfl, r4⟩⟩
    · rw [if_pos k3, ob_0, Option.bind_some, c1, Option.bind_some]
      simp only []
      rw [ob_21, Option.bind_some, p_energy c2.1, Option.bind_some]
    · unfold fX7_count
      rw [ob_75, Option.bind_some, r1, Option.bind_some, if_neg k0, if_neg k1, if_neg k2, if_pos k3, gR_75_13, Option.bind_some, aIl.1, Option.bind_some, Option.bind_some, aIl.2.1, Option.bind_some, Option.bind_some, aIl.2.2.1, Option.bind_some, Option.bind_some, aIl.2.2.2, Option.bind_some, (r2.1 0 (by decide)).2.2.1, (r2.1 1 (by decide)).2.2.1, (r2.1 2 (by decide)).2.2.1, (r2.1 3 (by decide)).2.2.1, nI_add, nI_add, nI_add]
  rw [if_neg k3]
  by_cases k4 : a0 = 4
  · refine ⟨nI (runN S (S 75 9) 75 22), F1, A1, hp F2 A2, ?_, ?_, ⟨F2, A2, S, rfl, r4⟩⟩
    · rw [if_pos k4, ob_0, Option.bind_some, c1, Option.bind_some]
      simp only []
      rw [gI_21_4, Option.bind_some, c2.1.2.2.2.2.1]
    · unfold fX7_count
      rw [ob_75, Option.bind_some, r1, Option.bind_some, if_neg k0, if_neg k1, if_neg k2, if_neg k3, if_pos k4, gI_75_22, Option.bind_some, r2.2.2.2.2.1]
  rw [if_neg k4]
  by_cases k5 : a0 = 5
  · refine ⟨nI (runN S (S 75 9) 75 23), F1, A1, hp F2 A2, ?_, ?_, ⟨F2, A2, S, rfl, r4⟩⟩
    · rw [if_pos k5, ob_0, Option.bind_some, c1, Option.bind_some]
      simp only []
      rw [gI_21_5, Option.bind_some, c2.1.2.2.2.2.2]
    · unfold fX7_count
      rw [ob_75, Option.bind_some, r1, Option.bind_some, if_neg k0, if_neg k1, if_neg k2, if_neg k3, if_neg k4, if_pos k5, gI_75_23, Option.bind_some, r2.2.2.2.2.2]
  rw [if_neg k5]
  by_cases k6 : a0 = 6
  · refine ⟨(if A 20 0 = 0 then 0 else 1) + (if A 20 1 = 0 then 0 else 2), F, A, hp F3 A3, ?_, ?_, ⟨F3, A3, S, rfl, t4⟩⟩
    · rw [if_pos k6, gR_0_2, Option.bind_some, aZl.1, Option.bind_some]
      unfold bX6_count_109 bX6_count_123
      rw [gR_0_2, Option.bind_some, aZl.2.1, Option.bind_some, Option.bind_some, aZl.2.1, Option.bind_some]
      by_cases z0 : A 20 0 = 0 <;> by_cases z1 : A 20 1 = 0 <;> simp [z0, z1]
    · have e0 : A3 100 0 = A 20 0 := by rw [t5 100 (by omega)]; exact I.2.2.2.1.1
      have e1 : A3 100 1 = A 20 1 := by rw [t5 100 (by omega)]; exact I.2.2.2.2.1.1
      unfold fX7_count
      rw [ob_75, Option.bind_some, t1, Option.bind_some, if_neg k0, if_neg k1, if_neg k2, if_neg k3, if_neg k4, if_neg k5, if_pos k6, gR_75_30, Option.bind_some, aZl.2.2.1, Option.bind_some, e0]
      unfold bX7_count_115 bX7_count_129
      rw [gR_75_30, Option.bind_some, aZl.2.2.2, Option.bind_some, Option.bind_some, aZl.2.2.2, Option.bind_some, e1]
      by_cases z0 : A 20 0 = 0 <;> by_cases z1 : A 20 1 = 0 <;> simp [z0, z1]
  rw [if_neg k6]
  refine ⟨-2, F, A, hp F3 A3, rfl, ?_, ⟨F3, A3, S, rfl, t4⟩⟩
  unfold fX7_count
  rw [ob_75, Option.bind_some, t1, Option.bind_some, if_neg k0, if_neg k1, if_neg k2, if_neg k3, if_neg k4, if_neg k5, if_neg k6]
