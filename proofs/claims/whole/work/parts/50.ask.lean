/-! THE INVARIANT of the law's loop, and the calls that ask of the run -/
def IS (S : bk) (F A : Nat → Nat → Int32) : Prop := wf S ∧ rg S F A ∧ c1 S F A ∧ im 0 F A ∧ im 1 F A ∧ ca S F A
def iv (h : ab_H) : Prop := ∃ F A S, h = hp F A ∧ IS S F A
theorem iv_ob6 {h : ab_H} (hv : iv h) : ab_ob h 0 6 = some () := by
  obtain ⟨F, A, S, e, -⟩ := hv
  rw [e]
  exact ob_0
theorem iv_ob7 {h : ab_H} (hv : iv h) : ab_ob h 75 7 = some () := by
  obtain ⟨F, A, S, e, -⟩ := hv
  rw [e]
  exact ob_75
theorem cg.of {b : Nat} {S : bk} {F A F' A' : Nat → Nat → Int32} (h : cg b S F A) (hF : ∀ c, b ≤ c → c ≤ b + 17 → F' c = F c) (hA : ∀ c, b ≤ c → c ≤ b + 17 → A' c = A c) : cg b S F' A' := by
  obtain ⟨h1, h2, h3, h4, h5, h6⟩ := h
  refine ⟨by rw [hF b (by omega) (by omega)]; exact h1, by rw [hF b (by omega) (by omega)]; exact h2, by rw [hF (b + 2) (by omega) (by omega)]; exact h3, ?_, fun d hd => ?_, fun d l hd hl => ?_⟩
  · rw [hA (b + 3) (by omega) (by omega), hA (b + 4) (by omega) (by omega), hA (b + 5) (by omega) (by omega)]; exact h4
  · rw [hF _ (by omega) (by omega)]; exact h5 d hd
  · rw [hA _ (by omega) (by omega), hA (b + 8 + 3 * d) (by omega) (by omega)]; exact h6 d l hd hl
theorem im.of {k : Nat} {F A F' A' : Nat → Nat → Int32} (h : im k F A) (hk : k < 2) (hF : ∀ c, 39 ≤ c → c ≤ 74 → F' c = F c) (hA : ∀ c, 39 ≤ c → c ≤ 74 → A' c = A c) (h20 : A' 20 = A 20) (h99 : A' 99 = A 99) (h100 : A' 100 = A 100) : im k F' A' := by
  obtain ⟨h1, h2⟩ := h
  refine ⟨by rw [h20, h100]; exact h1, ?_⟩
  rw [h20]
  rcases h2 with h2 | ⟨h2, S, g1, g2, g3⟩
  · exact Or.inl h2
  · refine Or.inr ⟨h2, S, g1, g2.of (fun c c1 c2 => hF c (by omega) (by omega)) (fun c c1 c2 => hA c (by omega) (by omega)), ?_⟩
    unfold ig at g3 ⊢
    rw [h99]
    exact g3
theorem rcs.of {S : bk} {t : Nat} {F A F' A' : Nat → Nat → Int32} (h : rcs S t F A) (hF : ∀ c, 21 ≤ c → c ≤ 33 → F' c = F c) (hA : ∀ c, 21 ≤ c → c ≤ 33 → A' c = A c) : rcs S t F' A' := by
  obtain ⟨⟨r1, r2, r3, r4, r5, r6⟩, ⟨L, l1, l2⟩, h6⟩ := h
  refine ⟨⟨fun d hd => ?_, fun d k hd hk => ?_, ?_, ?_, by rw [hF 21 (by omega) (by omega)]; exact r5, by rw [hF 21 (by omega) (by omega)]; exact r6⟩, ⟨L, l1, ?_⟩, by rw [hF 21 (by omega) (by omega)]; exact h6⟩
  · rw [hF _ (by omega) (by omega)]; exact r1 d hd
  · rw [hA _ (by omega) (by omega)]; exact r2 d k hd hk
  · rw [hA 24 (by omega) (by omega)]; exact r3
  · rw [hA 25 (by omega) (by omega)]; exact r4
  · unfold oa
    rw [hA 23 (by omega) (by omega)]; exact l2
theorem ca.of {S : bk} {F A F' A' : Nat → Nat → Int32} (h : ca S F A) (hF : ∀ c, 21 ≤ c → c ≤ 33 → F' c = F c) (hA : ∀ c, 21 ≤ c → c ≤ 33 → A' c = A c) : ca S F' A' := by
  unfold ca at h ⊢
  rw [hF 21 (by omega) (by omega)]
  rcases h with h | ⟨h, t, h1, h2, h3⟩
  · exact Or.inl h
  · exact Or.inr ⟨h, t, h1, h2, h3.of hF hA⟩
section
variable {S B : bk} {F A : Nat → Nat → Int32}
theorem rg.of {F' A' : Nat → Nat → Int32} (h : rg S F A) (hF : F' 75 = F 75) (hA : ∀ c, 76 ≤ c → c ≤ 83 → A' c = A c) : rg S F' A' := by
  obtain ⟨h1, h2, h3, h4, h5, h6⟩ := h
  refine ⟨by rw [hF]; exact h1, by rw [hF]; exact h2, by rw [hF]; exact h3, ?_, ?_, ?_⟩
  · rw [hA 76 (by omega) (by omega), hA 79 (by omega) (by omega), hA 80 (by omega) (by omega)]; exact h4
  · rw [hA 77 (by omega) (by omega), hA 78 (by omega) (by omega)]; exact h5
  · rw [hA 81 (by omega) (by omega), hA 82 (by omega) (by omega), hA 83 (by omega) (by omega)]; exact h6
theorem run_g {T : Nat} (I : IS S F A) (hT : T ≤ 1000) : ∃ F1 A1, fX4_goOnTo (hp F A) 21 1 (nI T) = some (hp F1 A1) ∧ rcs S T F1 A1 ∧ IS S F1 A1 := by
  obtain ⟨hw, hg, hc, i0, i1, hca⟩ := I
  obtain ⟨F1, A1, k1, k2, k3, k4, k5⟩ := p_go hw hT hc hca
  refine ⟨F1, A1, k1, k3, hw, hg.of (k2.1 75 (by omega)) (fun c c1 c2 => k2.2 c (by omega)), hc.frg k2, ?_, ?_, Or.inr ⟨k4, T, hT, k5, k3⟩⟩
  · exact i0.of (by omega) (fun c c1 c2 => k2.1 c (by omega)) (fun c c1 c2 => k2.2 c (by omega)) (k2.2 20 (by omega)) (k2.2 99 (by omega)) (k2.2 100 (by omega))
  · exact i1.of (by omega) (fun c c1 c2 => k2.1 c (by omega)) (fun c c1 c2 => k2.2 c (by omega)) (k2.2 20 (by omega)) (k2.2 99 (by omega)) (k2.2 100 (by omega))
theorem run_c (I : IS S F A) : ∃ F1 A1, fX6_wholeRun (hp F A) 0 = some (21, hp F1 A1) ∧ rcs S (S 75 9) F1 A1 ∧ IS S F1 A1 := by
  obtain ⟨F1, A1, k1, k2, k3⟩ := run_g I I.1.2.1.2
  refine ⟨F1, A1, ?_, k2, k3⟩
  unfold fX6_wholeRun
  rw [gR_0_3, Option.bind_some, gR_0_0, Option.bind_some, Option.bind_some, gI_1_2, Option.bind_some, I.2.2.1.1, ob_21, Option.bind_some, k1, Option.bind_some, gR_0_3, Option.bind_some]
theorem run_r {lk : Nat} {v1 : Int32} (hv : ∀ t, t ≤ 1000 → (nI t = v1 ↔ t = lk)) (I : IS S F A) : ∃ F2 A2, fX7_run (hp F A) 75 v1 = some (hp F2 A2) ∧ rr S (runN S (S 75 9)) F2 A2 ∧ (lk < S 75 9 → snB (runN S (lk + 1)) A2 4) ∧ IS S F2 A2 ∧ (∀ c, ¬ (84 ≤ c ∧ c ≤ 95) → A2 c = A c) := by
  obtain ⟨hw, hg, hc, i0, i1, hca⟩ := I
  obtain ⟨F1, A1, k1, k2, k3, k4⟩ := q_run (v1 := v1) hv hw hg
  refine ⟨F1, A1, k1, k3, k4, ⟨hw, hg.frw k2, hc.of (fun c hc => k2.1 c (by omega)) (fun c hc => k2.2.2 c (by omega)), ?_, ?_, hca.of (fun c c1 c2 => k2.1 c (by omega)) (fun c c1 c2 => k2.2.2 c (by omega))⟩, k2.2.2⟩
  · exact i0.of (by omega) (fun c c1 c2 => k2.1 c (by omega)) (fun c c1 c2 => k2.2.2 c (by omega)) (k2.2.2 20 (by omega)) (k2.2.2 99 (by omega)) (k2.2.2 100 (by omega))
  · exact i1.of (by omega) (fun c c1 c2 => k2.1 c (by omega)) (fun c c1 c2 => k2.2.2 c (by omega)) (k2.2.2 20 (by omega)) (k2.2.2 99 (by omega)) (k2.2.2 100 (by omega))
theorem none_lk : ∀ t, t ≤ 1000 → (nI t = (-6 : Int32) ↔ t = 5000) := fun t ht => by
  constructor
  · intro z
    have z2 := congrArg Int32.toInt z
    rw [nI_toInt (by omega)] at z2
    have : (-6 : Int32).toInt = -6 := by decide
    omega
  · intro h
    omega
/-- how many in the journal are of a disk -/
def stN (S B : bk) (d : Nat) : Nat → Nat
  | 0 => 0
  | k + 1 => if S 82 (B 94 k) = d then stN S B d k + 1 else stN S B d k
theorem p_stay {u q d : Nat} (hw : wf S) (hg : c1 S F A) (hr : cr S B F A) (hb : bnd S u q B) (hd : d < 4) : ∀ (j fu k : Nat), j < fu → k + j = B 75 22 → lX4_entriesOf_5 (hp F A) 21 3 (nI d) fu (nI (stN S B d k)) (nI k) = some (nI (stN S B d (B 75 22))) := by
  have b22 := hb.2.2.1
  have hm := hw.1
  intro j
  induction j with
  | zero =>
    intro fu k hf hk
    obtain ⟨f, rfl⟩ : ∃ f, fu = f + 1 := ⟨fu - 1, by omega⟩
    rw [lX4_entriesOf_5, gI_21_4, Option.bind_some, hr.2.2.2.2.1, if_pos (nI_le (by omega) (by omega)), show k = B 75 22 by omega]
  | succ j ih =>
    intro fu k hf hk
    obtain ⟨f, rfl⟩ : ∃ f, fu = f + 1 := ⟨fu - 1, by omega⟩
    have h94 := hb.2.2.2.2 k (by omega)
    have s82 := (hw.2.2.2.2.2.2 (B 94 k) (by omega)).2.1
    rw [lX4_entriesOf_5, gI_21_4, Option.bind_some, hr.2.2.2.2.1, if_neg (nI_ge (by omega) (by omega)), gR_3_1, Option.bind_some, gR_21_3, Option.bind_some, aI_25 (by omega), Option.bind_some, hr.2.2.2.1 k (by omega), aI_5 (by omega), Option.bind_some, (hg.2.2.2.1 _ (by omega)).2.1]
    unfold bX4_entriesOf_33
    have h := ih f (k + 1) (by omega) (by omega)
    by_cases hc : S 82 (B 94 k) = d
    · rw [if_pos (by rw [hc]), nI_1, nI_1]
      rw [stN, if_pos hc] at h
      exact h
    · rw [if_neg (fun e => hc ((nI_eq (by omega) (by omega)).mp e)), nI_1]
      rw [stN, if_neg hc] at h
      exact h
theorem q_stay {u q d : Nat} (hw : wf S) (hg : rg S F A) (hr : rr S B F A) (hb : bnd S u q B) (hd : d < 4) : ∀ (j fu k : Nat), j < fu → k + j = B 75 22 → lX7_stayOf_4 (hp F A) 75 (nI d) fu (nI (stN S B d k)) (nI k) = some (nI (stN S B d (B 75 22))) := by
  have b22 := hb.2.2.1
  have hm := hw.1
  intro j
  induction j with
  | zero =>
    intro fu k hf hk
    obtain ⟨f, rfl⟩ : ∃ f, fu = f + 1 := ⟨fu - 1, by omega⟩
    rw [lX7_stayOf_4, gI_75_22, Option.bind_some, hr.2.2.2.2.1, if_pos (nI_le (by omega) (by omega)), show k = B 75 22 by omega]
  | succ j ih =>
    intro fu k hf hk
    obtain ⟨f, rfl⟩ : ∃ f, fu = f + 1 := ⟨fu - 1, by omega⟩
    have h94 := hb.2.2.2.2 k (by omega)
    have s82 := (hw.2.2.2.2.2.2 (B 94 k) (by omega)).2.1
    rw [lX7_stayOf_4, gI_75_22, Option.bind_some, hr.2.2.2.2.1, if_neg (nI_ge (by omega) (by omega)), gR_75_7, Option.bind_some, gR_75_21, Option.bind_some, aI_94 (by omega), Option.bind_some, hr.2.2.2.1 k (by omega), aI_82 (by omega), Option.bind_some, (hg.2.2.2.2.2 _ (by omega)).2.1]
    unfold bX7_stayOf_33
    have h := ih f (k + 1) (by omega) (by omega)
    by_cases hc : S 82 (B 94 k) = d
    · rw [if_pos (by rw [hc]), nI_1, nI_1]
      rw [stN, if_pos hc] at h
      exact h
    · rw [if_neg (fun e => hc ((nI_eq (by omega) (by omega)).mp e)), nI_1]
      rw [stN, if_neg hc] at h
      rw [show (nI (stN S B d k) + 0 : Int32) = nI (stN S B d k) from nI_add _ 0]
      exact h
end
theorem pu_disk {h : ab_H} (hv : iv h) (a0 a1 : Int32) : ∃ (r : Int32) (F1 A1 : Nat → Nat → Int32) (h2 : ab_H), fX6_disk h 0 a0 a1 = some (r, hp F1 A1) ∧ fX7_disk (hp F1 A1) 75 a0 a1 = some (r, h2) ∧ iv h2 := by
  obtain ⟨F, A, S, e, I⟩ := hv
  rw [e]
  unfold fX6_disk fX7_disk
  rw [isD_6, isD_7, Option.bind_some]
  by_cases hd : ¬ (0 ≤ a0 ∧ a0 ≤ 3)
  · exact ⟨-1, F, A, hp F A, by rw [wi_0 hd, if_pos rfl], by rw [Option.bind_some, wi_0 hd, if_pos rfl], ⟨F, A, S, rfl, I⟩⟩
  have hd := Classical.not_not.mp hd
  rw [wi_1 hd, if_neg n_10, wi_6, Option.bind_some]
  by_cases hk : ¬ (0 ≤ a1 ∧ a1 ≤ 9)
  · exact ⟨-2, F, A, hp F A, by rw [wi_0 hk, if_pos rfl], by rw [Option.bind_some, if_neg n_10, wi_7, Option.bind_some, wi_0 hk, if_pos rfl], ⟨F, A, S, rfl, I⟩⟩
  have hk := Classical.not_not.mp hk
  obtain ⟨d, hd3, rfl⟩ := rg_of 3 (by decide) hd
  obtain ⟨k, hk9, rfl⟩ := rg_of 9 (by decide) hk
  have hd4 : d < 4 := by omega
  obtain ⟨F1, A1, c1, c2, c3⟩ := run_c I
  obtain ⟨F2, A2, r1, r2, -, r4, -⟩ := run_r none_lk c3
  have hw := I.1
  have hb := bnd_wk (bnd_run hw (S 75 9)) (show _ ≤ 4000 by have := hw.2.1.2; omega) (show _ ≤ 40 by have := cq_le S (S 75 9); have := hw.1; omega)
  obtain ⟨x0, x1, x2, x3, x4, x5, x6, x8, x9⟩ := c2.1.1 d hd4
  obtain ⟨y84, y85, y86, y87, y88, y89, y90, y91⟩ := r2.1 d hd4
  rw [wi_1 hk, if_neg n_10, ob_0, Option.bind_some, c1, Option.bind_some]
  simp only []
  rw [gR_21_0, Option.bind_some, caR hd4, Option.bind_some]
  have hr : ∀ (P : ab_H → Option (Int32 × ab_H)), (some (1 : Int32)).bind (fun x1 => if x1 = 0 then some ((-1 : Int32), hp F1 A1) else (fX7_in (nI k) 0 9).bind (fun x3 => if x3 = 0 then some ((-2 : Int32), hp F1 A1) else (ab_ob (hp F1 A1) 75 7).bind (fun u5 => (fX7_run (hp F1 A1) 75 (-6)).bind P))) = P (hp F2 A2) := by
    intro P
    rw [Option.bind_some, if_neg n_10, wi_7, Option.bind_some, wi_1 hk, if_neg n_10, ob_75, Option.bind_some, r1, Option.bind_some]
  have fin : ∀ (r : Int32) (h1 : ab_H) (P : ab_H → Option (Int32 × ab_H)), P (hp F2 A2) = some (r, hp F2 A2) → ∃ (r' : Int32) (F3 A3 : Nat → Nat → Int32) (h2 : ab_H), (some (r, hp F1 A1) : Option (Int32 × ab_H)) = some (r', hp F3 A3) ∧ P (hp F2 A2) = some (r', h2) ∧ iv h2 := fun r h1 P h => ⟨r, F1, A1, hp F2 A2, rfl, h, ⟨F2, A2, S, rfl, r4⟩⟩
  rcases (show k = 0 ∨ k = 1 ∨ k = 2 ∨ k = 3 ∨ k = 4 ∨ k = 5 ∨ k = 6 ∨ k = 7 ∨ k = 8 ∨ k = 9 by omega) with rfl | rfl | rfl | rfl | rfl | rfl | rfl | rfl | rfl | rfl
  · refine ⟨nI (runN S (S 75 9) 86 d), F1, A1, hp F2 A2, ?_, ?_, ⟨F2, A2, S, rfl, r4⟩⟩
    · rw [if_pos (by decide), cgI0 hd4, Option.bind_some, x0]
    · rw [hr, if_pos (by decide), gR_75_13, Option.bind_some, aI_86 hd4, Option.bind_some, y86]
  · refine ⟨nI (runN S (S 75 9) 87 d), F1, A1, hp F2 A2, ?_, ?_, ⟨F2, A2, S, rfl, r4⟩⟩
    · rw [if_neg (by decide), if_pos (by decide), cgI1 hd4, Option.bind_some, x1]
    · rw [hr, if_neg (by decide), if_pos (by decide), gR_75_14, Option.bind_some, aI_87 hd4, Option.bind_some, y87]
  · refine ⟨nI (runN S (S 75 9) 88 d), F1, A1, hp F2 A2, ?_, ?_, ⟨F2, A2, S, rfl, r4⟩⟩
    · rw [if_neg (by decide), if_neg (by decide), if_pos (by decide), cgI2 hd4, Option.bind_some, x2]
    · rw [hr, if_neg (by decide), if_neg (by decide), if_pos (by decide), gR_75_15, Option.bind_some, aI_88 hd4, Option.bind_some, y88]
  · refine ⟨nI (runN S (S 75 9) 89 d), F1, A1, hp F2 A2, ?_, ?_, ⟨F2, A2, S, rfl, r4⟩⟩
    · rw [if_neg (by decide), if_neg (by decide), if_neg (by decide), if_pos (by decide), cgI3 hd4, Option.bind_some, x3]
    · rw [hr, if_neg (by decide), if_neg (by decide), if_neg (by decide), if_pos (by decide), gR_75_16, Option.bind_some, aI_89 hd4, Option.bind_some, y89]
  · refine ⟨nI (runN S (S 75 9) 90 d), F1, A1, hp F2 A2, ?_, ?_, ⟨F2, A2, S, rfl, r4⟩⟩
    · rw [if_neg (by decide), if_neg (by decide), if_neg (by decide), if_neg (by decide), if_pos (by decide), cgI4 hd4, Option.bind_some, x4]
    · rw [hr, if_neg (by decide), if_neg (by decide), if_neg (by decide), if_neg (by decide), if_pos (by decide), gR_75_17, Option.bind_some, aI_90 hd4, Option.bind_some, y90]
  · refine ⟨nI (stN S (runN S (S 75 9)) d (runN S (S 75 9) 75 22)), F1, A1, hp F2 A2, ?_, ?_, ⟨F2, A2, S, rfl, r4⟩⟩
    · have hs := p_stay hw c3.2.2.1 c2.1 hb hd4 (runN S (S 75 9) 75 22) ab_fu 0 (by unfold ab_fu; have := hb.2.2.1; omega) (by omega)
      rw [if_neg (by decide), if_neg (by decide), if_neg (by decide), if_neg (by decide), if_neg (by decide), if_pos (by decide), gR_0_3, Option.bind_some, gR_0_0, Option.bind_some, gR_1_1, Option.bind_some, ob_21, Option.bind_some]
      unfold fX4_entriesOf
      rw [show (0 : Int32) = nI (stN S (runN S (S 75 9)) d 0) from rfl, show (nI (stN S (runN S (S 75 9)) d 0)) = nI 0 from rfl]
      rw [show (nI (stN S (runN S (S 75 9)) d 0)) = nI 0 from rfl] at hs
      rw [hs, Option.bind_some, Option.bind_some]
    · have hs := q_stay hw r4.2.1 r2 hb hd4 (runN S (S 75 9) 75 22) ab_fu 0 (by unfold ab_fu; have := hb.2.2.1; omega) (by omega)
      rw [hr, if_neg (by decide), if_neg (by decide), if_neg (by decide), if_neg (by decide), if_neg (by decide), if_pos (by decide), ob_75, Option.bind_some]
      unfold fX7_stayOf
      rw [show (nI (stN S (runN S (S 75 9)) d 0)) = (0 : Int32) from rfl, show (nI 0) = (0 : Int32) from rfl] at hs
      rw [hs, Option.bind_some, Option.bind_some]
  · refine ⟨nI (runN S (S 75 9) 91 d), F1, A1, hp F2 A2, ?_, ?_, ⟨F2, A2, S, rfl, r4⟩⟩
    · rw [if_neg (by decide), if_neg (by decide), if_neg (by decide), if_neg (by decide), if_neg (by decide), if_neg (by decide), if_pos (by decide), cgI8 hd4, Option.bind_some, x8]
    · rw [hr, if_neg (by decide), if_neg (by decide), if_neg (by decide), if_neg (by decide), if_neg (by decide), if_neg (by decide), if_pos (by decide), gR_75_18, Option.bind_some, aI_91 hd4, Option.bind_some, y91]
  · refine ⟨nI (runN S (S 75 9) 84 d), F1, A1, hp F2 A2, ?_, ?_, ⟨F2, A2, S, rfl, r4⟩⟩
    · rw [if_neg (by decide), if_neg (by decide), if_neg (by decide), if_neg (by decide), if_neg (by decide), if_neg (by decide), if_neg (by decide), if_pos (by decide), cgI5 hd4, Option.bind_some, x5]
    · rw [hr, if_neg (by decide), if_neg (by decide), if_neg (by decide), if_neg (by decide), if_neg (by decide), if_neg (by decide), if_neg (by decide), if_pos (by decide), gR_75_11, Option.bind_some, aI_84 hd4, Option.bind_some, y84]
  · refine ⟨nI (runN S (S 75 9) 85 d), F1, A1, hp F2 A2, ?_, ?_, ⟨F2, A2, S, rfl, r4⟩⟩
    · rw [if_neg (by decide), if_neg (by decide), if_neg (by decide), if_neg (by decide), if_neg (by decide), if_neg (by decide), if_neg (by decide), if_neg (by decide), if_pos (by decide), cgI6 hd4, Option.bind_some, x6]
    · rw [hr, if_neg (by decide), if_neg (by decide), if_neg (by decide), if_neg (by decide), if_neg (by decide), if_neg (by decide), if_neg (by decide), if_neg (by decide), if_pos (by decide), gR_75_12, Option.bind_some, aI_85 hd4, Option.bind_some, y85]
  · refine ⟨gsI S (runN S (S 75 9)) d, F1, A1, hp F2 A2, ?_, ?_, ⟨F2, A2, S, rfl, r4⟩⟩
    · rw [if_neg (by decide), if_neg (by decide), if_neg (by decide), if_neg (by decide), if_neg (by decide), if_neg (by decide), if_neg (by decide), if_neg (by decide), if_neg (by decide), cgI9 hd4, Option.bind_some, x9]
    · have hgn := gn_ok hw hd4
      have h91 := (hb.1 d hd4).2.2
      have hu2 : ∀ j, j < runN S (S 75 9) 91 d → runN S (S 75 9) 92 (40 * d + j) ≤ 10000 := fun j hj => by have := (hb.2.1 d j hd4 hj).2; omega
      have hk3 := (hw.2.2.2.1 d hd4).2.1
      have hg := q_guess (n := gn S d) hd4 r2 h91 hgn.2 hgn.1 hu2
      rw [hr, if_neg (by decide), if_neg (by decide), if_neg (by decide), if_neg (by decide), if_neg (by decide), if_neg (by decide), if_neg (by decide), if_neg (by decide), if_neg (by decide), gR_75_3, Option.bind_some, aI_79 hd4, Option.bind_some, (r4.2.1.2.2.2.1 d hd4).2.1]
      unfold bX7_disk_164 gsI
      by_cases h3 : S 79 d = 3
      · rw [show gn S d = S 80 d by unfold gn; rw [if_pos h3]] at hg ⊢
        rw [if_pos (by rw [h3]; rfl), gR_75_4, Option.bind_some, aI_80 hd4, Option.bind_some, (r4.2.1.2.2.2.1 d hd4).2.2, ob_75, Option.bind_some, hg, Option.bind_some]
      · rw [show gn S d = 4 by unfold gn; rw [if_neg h3]] at hg ⊢
        rw [if_neg (ne_c (x := 3) 3 rfl (by omega) (by omega) h3), ob_75, Option.bind_some, show (4 : Int32) = nI 4 from rfl, hg, Option.bind_some]
