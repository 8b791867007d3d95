section
variable {S : bk} {F A : Nat → Nat → Int32}
theorem c1.pol {d k m : Nat} {y : Int32} (h : c1 S F A) (hd : d < 4) (hy : k = 1 ∨ k = 3 → y = nI m) : c1 (upN (upN S 79 d k) 80 d m) (up2 (up2 F (7 + 3 * d) 3 (nI k)) (7 + 3 * d) 4 y) A := by
  obtain ⟨h1, h2, h3, h4, h5, h6⟩ := h
  refine ⟨by simp (disch := omega) only [up2_ne, upN_ne]; exact h1, by simp (disch := omega) only [up2_ne, upN_ne]; exact h2, by simp (disch := omega) only [up2_ne, upN_ne]; exact h3, fun i hi => ?_, fun e he => ?_, fun e m he hm => ?_⟩
  · simp (disch := omega) only [upN_ne]; exact h4 i hi
  · obtain ⟨a, b, c⟩ := h5 e he
    by_cases hc : e = d
    · subst hc
      refine ⟨by simp (disch := omega) only [up2_ne, upN_ne]; exact a, by rw [up2_ne (by omega), up2_eq, upN_ne (by omega), upN_eq], ?_⟩
      rw [upN_ne (by omega), upN_eq, up2_eq, upN_eq]
      exact hy
    · simp (disch := omega) only [up2_ne, upN_ne]; exact ⟨a, b, c⟩
  · simp (disch := omega) only [upN_ne]; exact h6 e m he hm
def sh1 (X : bk) (k : Nat) : bk := upN (upN (upN X (81 + 0) k (X 81 (k + 1))) (81 + 1) k (X 82 (k + 1))) (81 + 2) k (X 83 (k + 1))
def shN : bk → Nat → Nat → bk
  | X, _, 0 => X
  | X, k, j + 1 => shN (sh1 X k) (k + 1) j
theorem sh1_off {k c i : Nat} (h : c < 81) : sh1 S k c i = S c i := by
  unfold sh1
  rw [upN_ne (by omega), upN_ne (by omega), upN_ne (by omega)]
theorem wf_sh1 {k : Nat} (hw : wf S) (hk : k + 1 < 40) : wf (sh1 S k) := by
  obtain ⟨w1, w2, w3, w4, w5, w6, w7⟩ := hw
  refine ⟨by rw [sh1_off (by omega)]; exact w1, by rw [sh1_off (by omega)]; exact w2, by rw [sh1_off (by omega)]; exact w3, fun e he => ?_, fun e l he hl => ?_, fun e l he hl => ?_, fun i hi => ?_⟩
  · simp (disch := omega) only [sh1_off]; exact w4 e he
  · simp (disch := omega) only [sh1_off]; exact w5 e l he hl
  · simp (disch := omega) only [sh1_off] at hl ⊢; exact w6 e l he hl
  · obtain ⟨v1, v2, v3⟩ := w7 i hi
    obtain ⟨u1, u2, u3⟩ := w7 (k + 1) hk
    unfold sh1
    by_cases hik : i = k
    · subst hik
      rw [upN_ne (by omega), upN_ne (by omega), upN_ne (a := 81 + 2) (by omega)]
      simp only [upN]
      refine ⟨?_, ?_, ?_⟩ <;> simp <;> omega
    · simp (disch := omega) only [upN_ne]
      exact ⟨v1, v2, v3⟩
theorem wf_shN : ∀ (j k : Nat) (X : bk), k + j < 40 → wf X → wf (shN X k j) := by
  intro j
  induction j with
  | zero => exact fun k X _ hw => hw
  | succ j ih => exact fun k X hk hw => ih (k + 1) (sh1 X k) (by omega) (wf_sh1 hw (by omega))
theorem shN_off {c i : Nat} (h : c < 81) : ∀ (j k : Nat) (X : bk), shN X k j c i = X c i := by
  intro j
  induction j with
  | zero => exact fun k X => rfl
  | succ j ih => exact fun k X => (ih (k + 1) (sh1 X k)).trans (sh1_off h)
theorem p_drop {m : Nat} (hm : m < 40) (hF : F 3 3 = nI m) : ∀ (j fu k : Nat) (X : bk) (A : Nat → Nat → Int32), j < fu → k + j = m → c1 X F A → ∃ A', lX3_drop_12 3 fu (nI k) (hp F A) = some (hp F A') ∧ c1 (shN X k j) F A' ∧ (∀ c, ¬ (4 ≤ c ∧ c ≤ 6) → A' c = A c) := by
  intro j
  induction j with
  | zero =>
    intro fu k X A hf hk hc
    obtain ⟨f, rfl⟩ : ∃ f, fu = f + 1 := ⟨fu - 1, by omega⟩
    refine ⟨A, ?_, hc, fun _ _ => rfl⟩
    rw [lX3_drop_12, gI_3_3, Option.bind_some, hF, if_pos (nI_le (by omega) (by omega))]
  | succ j ih =>
    intro fu k X A hf hk hc
    obtain ⟨f, rfl⟩ : ∃ f, fu = f + 1 := ⟨fu - 1, by omega⟩
    obtain ⟨x1, x2, x3⟩ := hc.2.2.2.1 (k + 1) (by omega)
    obtain ⟨A', g1, g2, g3⟩ := ih f (k + 1) (sh1 X k) _ (by omega) (by omega) (((hc.req (j := 0) (i := k) (x := X 81 (k + 1)) (by omega)).req (j := 1) (i := k) (x := X 82 (k + 1)) (by omega)).req (j := 2) (i := k) (x := X 83 (k + 1)) (by omega))
    refine ⟨A', ?_, g2, fun c hcc => ?_⟩
    · rw [lX3_drop_12, gI_3_3, Option.bind_some, hF, if_neg (nI_ge (by omega) (by omega)), gR_3_0, Option.bind_some, Option.bind_some, nI_1, aI_4 (by omega), Option.bind_some, x1, sI_4 (by omega), Option.bind_some, gR_3_1, Option.bind_some, Option.bind_some, aI_5 (by omega), Option.bind_some, up2_ne (by omega), x2, sI_5 (by omega), Option.bind_some, gR_3_2, Option.bind_some, Option.bind_some, aI_6 (by omega), Option.bind_some, up2_ne (by omega), up2_ne (by omega), x3, sI_6 (by omega), Option.bind_some]
      exact g1
    · rw [g3 c hcc, up2_off (by omega), up2_off (by omega), up2_off (by omega)]
theorem q_drop {m : Nat} (hm : m < 40) (hF : F 75 5 = nI m) : ∀ (j fu k : Nat) (X : bk) (A : Nat → Nat → Int32), j < fu → k + j = m → rg X F A → ∃ A', lX7_forget_22 75 fu (nI k) (hp F A) = some (hp F A') ∧ rg (shN X k j) F A' ∧ (∀ c, ¬ (81 ≤ c ∧ c ≤ 83) → A' c = A c) := by
  intro j
  induction j with
  | zero =>
    intro fu k X A hf hk hc
    obtain ⟨f, rfl⟩ : ∃ f, fu = f + 1 := ⟨fu - 1, by omega⟩
    refine ⟨A, ?_, hc, fun _ _ => rfl⟩
    rw [lX7_forget_22, gI_75_5, Option.bind_some, hF, if_pos (nI_le (by omega) (by omega))]
  | succ j ih =>
    intro fu k X A hf hk hc
    obtain ⟨f, rfl⟩ : ∃ f, fu = f + 1 := ⟨fu - 1, by omega⟩
    obtain ⟨x1, x2, x3⟩ := hc.2.2.2.2.2 (k + 1) (by omega)
    obtain ⟨A', g1, g2, g3⟩ := ih f (k + 1) (sh1 X k) _ (by omega) (by omega) (((hc.up (c := 81 + 0) (i := k) (x := X 81 (k + 1)) (by omega)).up (c := 81 + 1) (i := k) (x := X 82 (k + 1)) (by omega)).up (c := 81 + 2) (i := k) (x := X 83 (k + 1)) (by omega))
    refine ⟨A', ?_, g2, fun c hcc => ?_⟩
    · rw [lX7_forget_22, gI_75_5, Option.bind_some, hF, if_neg (nI_ge (by omega) (by omega)), gR_75_6, Option.bind_some, Option.bind_some, nI_1, aI_81 (by omega), Option.bind_some, x1, sI_81 (by omega), Option.bind_some, gR_75_7, Option.bind_some, Option.bind_some, aI_82 (by omega), Option.bind_some, up2_ne (by omega), x2, sI_82 (by omega), Option.bind_some, gR_75_8, Option.bind_some, Option.bind_some, aI_83 (by omega), Option.bind_some, up2_ne (by omega), up2_ne (by omega), x3, sI_83 (by omega), Option.bind_some]
      exact g1
    · rw [g3 c hcc, up2_off (by omega), up2_off (by omega), up2_off (by omega)]
end
theorem pu_forget {h : ab_H} (hv : iv h) (a0 : Int32) : ∃ (r : Int32) (F1 A1 : Nat → Nat → Int32) (h2 : ab_H), fX6_forget h 0 a0 = some (r, hp F1 A1) ∧ fX7_forget (hp F1 A1) 75 a0 = some (r, h2) ∧ iv h2 := by
  obtain ⟨F, A, S, e, I⟩ := hv
  rw [e]
  obtain ⟨hw, hg, hc, -⟩ := id I
  have hm := hw.1
  by_cases hd : ¬ (0 ≤ a0 ∧ a0 ≤ nI (S 75 5) - 1)
  · refine ⟨-1, F, A, hp F A, ?_, ?_, ⟨F, A, S, rfl, I⟩⟩
    · unfold fX6_forget
      rw [gR_0_0, Option.bind_some, gR_1_1, Option.bind_some, ob_3, Option.bind_some, has_6 hc, Option.bind_some, wi_0 hd, if_pos rfl]
    · unfold fX7_forget
      rw [ob_75, Option.bind_some, has_7 hg, Option.bind_some, wi_0 hd, if_pos rfl]
  have hd := Classical.not_not.mp hd
  obtain ⟨r, hr, rfl⟩ := in_lt (by omega) hd
  have em : S 75 5 = (S 75 5 - 1) + 1 := by omega
  have epr : nI (S 75 5) - 1 = nI (S 75 5 - 1) := by
    have := nI_pred (S 75 5 - 1)
    rw [← em] at this
    exact this
  have hw0 : wf (upN S 75 5 (S 75 5 - 1)) := by
    obtain ⟨w1, w2, w3, w4, w5, w6, w7⟩ := hw
    refine ⟨by rw [upN_eq]; omega, by simp (disch := omega) only [upN_ne]; exact w2, by simp (disch := omega) only [upN_ne]; exact w3, fun e he => ?_, fun e l he hl => ?_, fun e l he hl => ?_, fun i hi => ?_⟩
    · simp (disch := omega) only [upN_ne]; exact w4 e he
    · simp (disch := omega) only [upN_ne]; exact w5 e l he hl
    · simp (disch := omega) only [upN_ne] at hl ⊢; exact w6 e l he hl
    · simp (disch := omega) only [upN_ne]; exact w7 i hi
  have hw1 := wf_shN (S 75 5 - 1 - r) r _ (by omega) hw0
  obtain ⟨A1, g1, g2, g3⟩ := p_drop (F := up2 F 3 3 (nI (S 75 5 - 1))) (m := S 75 5 - 1) (by omega) (by rw [up2_eq]) (S 75 5 - 1 - r) ab_fu r _ A (by unfold ab_fu; omega) (by omega) hc.cnt
  have hg0 : rg S (up2 (up2 F 3 3 (nI (S 75 5 - 1))) 21 8 1) A1 := ((hg.loF (by omega)).loF (by omega)).of rfl (fun c c1 c2 => g3 c (by omega))
  obtain ⟨A2, k1, k2, k3⟩ := q_drop (F := up2 (up2 (up2 F 3 3 (nI (S 75 5 - 1))) 21 8 1) 75 5 (nI (S 75 5 - 1))) (m := S 75 5 - 1) (by omega) (by rw [up2_eq]) (S 75 5 - 1 - r) ab_fu r _ A1 (by unfold ab_fu; omega) (by omega) hg0.upF
  refine ⟨nI (S 75 5 - 1), up2 (up2 F 3 3 (nI (S 75 5 - 1))) 21 8 1, A1, hp _ A2, ?_, ?_, ⟨_, _, _, rfl, I.new hw1 k2 ?_ ?_ (fun c c1 c2 => ?_) (fun c hcc => ?_)⟩⟩
  · unfold fX6_forget fX3_drop fX4_makeStale
    rw [gR_0_0, Option.bind_some, gR_1_1, Option.bind_some, ob_3, Option.bind_some, has_6 hc, Option.bind_some, wi_1 hd, if_neg n_10, Option.bind_some, gR_1_1, Option.bind_some, ob_3, Option.bind_some, gI_3_3, Option.bind_some, hc.2.2.1, epr, pI_3_3, Option.bind_some, g1, Option.bind_some, Option.bind_some, gR_0_3, Option.bind_some, ob_21, Option.bind_some, pI_21_8, Option.bind_some, Option.bind_some, gR_0_0, Option.bind_some, gR_1_1, Option.bind_some, gI_3_3, Option.bind_some, up2_ne (by omega), up2_eq]
  · unfold fX7_forget
    rw [ob_75, Option.bind_some, has_7 hg0, Option.bind_some, wi_1 hd, if_neg n_10, gI_75_5, Option.bind_some, hg0.1, epr, pI_75_5, Option.bind_some, k1, Option.bind_some, gI_75_5, Option.bind_some, up2_eq]
  · exact (g2.f21.hiF (by omega)).of (fun _ _ => rfl) (fun c hcc => k3 c (by omega))
  · rw [up2_ne (by omega), up2_eq]
  · rw [up2_off (by omega), up2_off (by omega), up2_off (by omega)]
  · rw [k3 c (by omega), g3 c (by omega)]
theorem odd_k : ∀ k : Nat, k ≤ 3 → ((nI k - nI k / 2 * 2 : Int32) = 1 ↔ (k = 1 ∨ k = 3)) := by
  intro k hk
  rcases (show k = 0 ∨ k = 1 ∨ k = 2 ∨ k = 3 by omega) with rfl | rfl | rfl | rfl <;> decide
theorem pol_fin {S : bk} {F A : Nat → Nat → Int32} (I : IS S F A) {d k m : Nat} {y : Int32} (hd4 : d < 4) (hk : k ≤ 3) (hm : 1 ≤ m) (hm1 : k = 1 → m ≤ 500) (hm3 : k = 3 → m ≤ 4) (hy : k = 1 ∨ k = 3 → y = nI m) (hz : ¬ (k = 1 ∨ k = 3) → m = 1) (e6 : fX6_isPolicy (nI k) y = some 1) (e7 : ∀ h, fX7_policy h 75 (nI d) (nI k) y = bX7_policy_51 75 (nI d) (nI k) y h) : ∃ (r : Int32) (F1 A1 : Nat → Nat → Int32) (h2 : ab_H), fX6_policy (hp F A) 0 (nI d) (nI k) y = some (r, hp F1 A1) ∧ fX7_policy (hp F1 A1) 75 (nI d) (nI k) y = some (r, h2) ∧ iv h2 := by
  obtain ⟨hw, hg, hc, -⟩ := id I
  have hd : (0 : Int32) ≤ nI d ∧ nI d ≤ 3 := by
    rcases (show d = 0 ∨ d = 1 ∨ d = 2 ∨ d = 3 by omega) with rfl | rfl | rfl | rfl <;> decide
  have hg0 : rg S (up2 (up2 (up2 F (7 + 3 * d) 3 (nI k)) (7 + 3 * d) 4 y) 21 8 1) A := ((hg.loF (by omega)).loF (by omega)).loF (by omega)
  refine ⟨nI (S 79 d), up2 (up2 (up2 F (7 + 3 * d) 3 (nI k)) (7 + 3 * d) 4 y) 21 8 1, A, hp (up2 (up2 (up2 F (7 + 3 * d) 3 (nI k)) (7 + 3 * d) 4 y) 21 8 1) (up2 (up2 A 79 d (nI k)) 80 d (nI m)), ?_, ?_, ⟨_, _, upN (upN S 79 d k) 80 d m, rfl, I.new ?_ ((hg0.up (by omega)).up (by omega)) (((hc.pol hd4 hy).f21.hi (by omega)).hi (by omega)) ?_ (fun c c1 c2 => ?_) (fun c hcc => ?_)⟩⟩
  · unfold fX6_policy fX4_makeStale
    rw [isD_6, Option.bind_some, wi_1 hd, if_neg n_10, e6, Option.bind_some, if_neg n_10, gR_0_0, Option.bind_some, gR_1_0, Option.bind_some, daR hd4, Option.bind_some, dgI3 hd4, Option.bind_some, dpI3 hd4, Option.bind_some, dpI4 hd4, Option.bind_some, gR_0_3, Option.bind_some, ob_21, Option.bind_some, pI_21_8, Option.bind_some, Option.bind_some, (hc.2.2.2.2.1 d hd4).2.1]
  · rw [e7]
    unfold bX7_policy_51 bX7_policy_83
    rw [gR_75_3, Option.bind_some, aI_79 hd4, Option.bind_some, Option.bind_some, sI_79 hd4, Option.bind_some, gR_75_4, Option.bind_some, if_neg (by decide), (hg0.2.2.2.1 d hd4).2.1]
    by_cases ho : k = 1 ∨ k = 3
    · rw [if_pos ((odd_k k hk).mpr ho), hy ho, sI_80 hd4, Option.bind_some]
    · rw [if_neg (fun e => ho ((odd_k k hk).mp e)), hz ho, show (1 : Int32) = nI 1 from rfl, sI_80 hd4, Option.bind_some]
  · obtain ⟨w1, w2, w3, w4, w5, w6, w7⟩ := hw
    refine ⟨by simp (disch := omega) only [upN_ne]; exact w1, by simp (disch := omega) only [upN_ne]; exact w2, by simp (disch := omega) only [upN_ne]; exact w3, fun e he => ?_, fun e l he hl => ?_, fun e l he hl => ?_, fun i hi => ?_⟩
    · obtain ⟨v1, v2, v3, v4, v5, v6, v7⟩ := w4 e he
      by_cases hed : e = d
      · subst hed
        rw [upN_eq, upN_ne (a := 80) (b := 79) (by omega), upN_eq]
        simp (disch := omega) only [upN_ne]
        exact ⟨v1, hk, hm, hm1, hm3, v6, v7⟩
      · simp (disch := omega) only [upN_ne]
        exact ⟨v1, v2, v3, v4, v5, v6, v7⟩
    · simp (disch := omega) only [upN_ne]; exact w5 e l he hl
    · simp (disch := omega) only [upN_ne] at hl ⊢; exact w6 e l he hl
    · simp (disch := omega) only [upN_ne]; exact w7 i hi
  · rw [up2_eq]
  · rw [up2_off (by omega), up2_off (by omega), up2_off (by omega)]
  · rw [up2_off (by omega), up2_off (by omega)]
theorem pu_policy {h : ab_H} (hv : iv h) (a0 a1 a2 : Int32) : ∃ (r : Int32) (F1 A1 : Nat → Nat → Int32) (h2 : ab_H), fX6_policy h 0 a0 a1 a2 = some (r, hp F1 A1) ∧ fX7_policy (hp F1 A1) 75 a0 a1 a2 = some (r, h2) ∧ iv h2 := by
  obtain ⟨F, A, S, e, I⟩ := hv
  rw [e]
  by_cases hd : ¬ (0 ≤ a0 ∧ a0 ≤ 3)
  · refine ⟨-1, F, A, hp F A, ?_, ?_, ⟨F, A, S, rfl, I⟩⟩
    · unfold fX6_policy
      rw [isD_6, Option.bind_some, wi_0 hd, if_pos rfl]
    · unfold fX7_policy
      rw [isD_7, Option.bind_some, wi_0 hd, if_pos rfl]
  have hd := Classical.not_not.mp hd
  have bad : fX6_isPolicy a1 a2 = some 0 → (∀ h, fX7_policy h 75 a0 a1 a2 = bX7_policy_48 h) → ∃ (r : Int32) (F1 A1 : Nat → Nat → Int32) (h2 : ab_H), fX6_policy (hp F A) 0 a0 a1 a2 = some (r, hp F1 A1) ∧ fX7_policy (hp F1 A1) 75 a0 a1 a2 = some (r, h2) ∧ iv h2 := fun e6 e7 => by
    refine ⟨-2, F, A, hp F A, ?_, ?_, ⟨F, A, S, rfl, I⟩⟩
    · unfold fX6_policy
      rw [isD_6, Option.bind_some, wi_1 hd, if_neg n_10, e6, Option.bind_some, if_pos rfl]
    · rw [e7]
      rfl
  by_cases hk : ¬ (0 ≤ a1 ∧ a1 ≤ 3)
  · apply bad
    · unfold fX6_isPolicy
      rw [if_neg (fun e => hk (by rw [e]; decide)), if_neg (fun e => hk (by rw [e]; decide)), wi_6, Option.bind_some, wi_0 hk]
      rfl
    · intro h
      unfold fX7_policy
      rw [isD_7, Option.bind_some, wi_1 hd, if_neg n_10, wi_7, Option.bind_some, wi_0 hk, if_pos rfl]
  have hk := Classical.not_not.mp hk
  obtain ⟨d, hd3, rfl⟩ := rg_of 3 (by decide) hd
  obtain ⟨k, hk3, rfl⟩ := rg_of 3 (by decide) hk
  rcases (show (k = 0 ∨ k = 2) ∨ k = 1 ∨ k = 3 by omega) with hk0 | rfl | rfl
  · have k1 : ¬ nI k = 1 := ne_c 1 rfl (by omega) (by omega) (by omega)
    have k2 : ¬ nI k = 3 := ne_c 3 rfl (by omega) (by omega) (by omega)
    refine pol_fin I (m := 1) (by omega) hk3 (by omega) (by omega) (by omega) (by omega) (fun _ => rfl) ?_ (fun h => ?_)
    · unfold fX6_isPolicy
      rw [if_neg k1, if_neg k2, wi_6, Option.bind_some, wi_1 hk]
      rfl
    · unfold fX7_policy bX7_policy_34
      rw [isD_7, Option.bind_some, wi_1 hd, if_neg n_10, wi_7, Option.bind_some, wi_1 hk, if_neg n_10, if_neg k1, if_neg k2]
  · by_cases hn : ¬ (1 ≤ a2 ∧ a2 ≤ 500)
    · apply bad
      · unfold fX6_isPolicy
        rw [if_pos (by decide), wi_6, Option.bind_some, wi_0 hn]
        rfl
      · intro h
        unfold fX7_policy
        rw [isD_7, Option.bind_some, wi_1 hd, if_neg n_10, wi_7, Option.bind_some, wi_1 hk, if_neg n_10, if_pos (by decide), wi_7, Option.bind_some, wi_0 hn, if_pos rfl]
    have hn := Classical.not_not.mp hn
    obtain ⟨m, m1, m2, rfl⟩ := rg_of1 1 500 (by decide) (by decide) hn
    refine pol_fin I (m := m) (by omega) hk3 (by omega) (by omega) (by omega) (fun _ => rfl) (by omega) ?_ (fun h => ?_)
    · unfold fX6_isPolicy
      rw [if_pos (by decide), wi_6, Option.bind_some, wi_1 hn]
      rfl
    · unfold fX7_policy bX7_policy_34
      rw [isD_7, Option.bind_some, wi_1 hd, if_neg n_10, wi_7, Option.bind_some, wi_1 hk, if_neg n_10, if_pos (by decide), wi_7, Option.bind_some, wi_1 hn, if_neg n_10, if_neg (by decide)]
  · by_cases hn : ¬ (1 ≤ a2 ∧ a2 ≤ 4)
    · apply bad
      · unfold fX6_isPolicy
        rw [if_neg (by decide), if_pos (by decide), wi_6, Option.bind_some, wi_0 hn]
        rfl
      · intro h
        unfold fX7_policy bX7_policy_34
        rw [isD_7, Option.bind_some, wi_1 hd, if_neg n_10, wi_7, Option.bind_some, wi_1 hk, if_neg n_10, if_neg (by decide), if_pos (by decide), wi_7, Option.bind_some, wi_0 hn, if_pos rfl]
    have hn := Classical.not_not.mp hn
    obtain ⟨m, m1, m2, rfl⟩ := rg_of1 1 4 (by decide) (by decide) hn
    refine pol_fin I (m := m) (by omega) hk3 (by omega) (by omega) (by omega) (fun _ => rfl) (by omega) ?_ (fun h => ?_)
    · unfold fX6_isPolicy
      rw [if_neg (by decide), if_pos (by decide), wi_6, Option.bind_some, wi_1 hn]
      rfl
    · unfold fX7_policy bX7_policy_34
      rw [isD_7, Option.bind_some, wi_1 hd, if_neg n_10, wi_7, Option.bind_some, wi_1 hk, if_neg n_10, if_neg (by decide), if_pos (by decide), wi_7, Option.bind_some, wi_1 hn, if_neg n_10]
