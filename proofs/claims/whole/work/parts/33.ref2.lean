section
variable {S B : bk} {F A : Nat → Nat → Int32}
theorem nz {n : Nat} (h : n < 2 ^ 31) (h0 : ¬ n = 0) : ¬ nI n = 0 := fun e => h0 ((nI_eq h (by omega)).mp (e.trans n_0))
theorem ne_c {n : Nat} (c : Nat) {x : Int32} (hx : x = nI c) (hn : n < 2 ^ 31) (hc : c < 2 ^ 31) (h0 : ¬ n = c) : ¬ nI n = x := fun e => h0 ((nI_eq hn hc).mp (e.trans hx))
theorem q_level {u d : Nat} (hw : wf S) (hg : rg S F A) (hd : d < 4) (hr : rr S B F A) (hb : bnd S u 40 B) (hu : u ≤ 10000) : fX7_levelFor (hp F A) 75 (nI d) (nI (B 84 d)) = some (nI (lvN S B d)) := by
  obtain ⟨w1, w2, w3, w4, w5, w6, w7⟩ := hw.2.2.2.1 d hd
  obtain ⟨b1, b2, b3⟩ := hb.1 d hd
  obtain ⟨g1, g2, g3⟩ := hg.2.2.2.1 d hd
  unfold fX7_levelFor lvN
  simp only [gR_75_3, Option.bind_some]
  rw [aI_79 hd, Option.bind_some, g2]
  by_cases k0 : S 79 d = 0
  · rw [if_pos (by rw [k0]; rfl), if_pos k0]; rfl
  rw [if_neg (nz (by omega) k0), if_neg k0]
  by_cases k1 : S 79 d = 1
  · rw [if_pos (by rw [k1]; rfl), if_pos k1]
    have w4 := w4 k1
    simp only [gR_75_4, gR_75_0, Option.bind_some]
    rw [aI_80 hd, aI_76 hd]
    simp only [Option.bind_some, g1, g3]
    rw [if_neg (nz (by omega) (by omega)), pk_div (by omega) (by omega) (by omega)]
    have hq : B 84 d / S 80 d ≤ B 84 d := Nat.div_le_self _ _
    by_cases hc : S 76 d ≤ B 84 d / S 80 d
    · rw [if_pos (nI_le hc (by omega)), Nat.min_eq_right hc]
    · rw [if_neg (nI_ge (by omega) (by omega)), if_neg (nz (by omega) (by omega)), Nat.min_eq_left (by omega)]
  rw [if_neg (ne_c (x := 1) 1 rfl (by omega) (by omega) k1), if_neg k1]
  by_cases k2 : S 79 d = 2
  · rw [if_pos (by rw [k2]; rfl), if_pos k2]
    simp only [ob_75, Option.bind_some]
    rw [q_bestFor hw hg hd (by omega)]
    rfl
  rw [if_neg (ne_c (x := 2) 2 rfl (by omega) (by omega) k2), if_neg k2]
  have k3 : S 79 d = 3 := by omega
  have w5 := w5 k3
  simp only [gR_75_18, gR_75_4, Option.bind_some]
  rw [aI_91 hd, aI_80 hd]
  simp only [Option.bind_some, (hr.1 d hd).2.2.2.2.2.2.2, g3]
  by_cases h0 : B 91 d = 0
  · rw [if_pos (by rw [h0]; rfl), if_pos h0]; rfl
  · rw [if_neg (nz (by omega) h0), if_neg h0]
    simp only [ob_75, Option.bind_some]
    have hu2 : ∀ k, k < B 91 d → B 92 (40 * d + k) ≤ 10000 := fun k hk => by have := (hb.2.1 d k hd hk).2; omega
    rw [q_guess hd hr (by omega) w5 w3 hu2, if_neg h0]
    simp only [Option.bind_some]
    have hm : menN B d (S 80 d) ≤ 10000 := by
      have hs : sumN (fun k => B 92 (40 * d + k)) (B 91 d - min (S 80 d) (B 91 d)) (min (S 80 d) (B 91 d)) ≤ min (S 80 d) (B 91 d) * 10000 := sum_le _ _ _ _ (fun i hi => hu2 _ (by omega))
      unfold menN
      exact Nat.div_le_of_le_mul hs
    rw [q_bestFor hw hg hd hm]
    rfl
theorem q_sleeps {u d : Nat} (hd : d < 4) (hr : rr S B F A) (hb : bnd S u 40 B) (hw : wf S) (hu : u ≤ 10000) : fX7_sleeps (hp F A) 75 (nI d) = some (if slN B d then 1 else 0) := by
  obtain ⟨b1, b2, b3⟩ := hb.1 d hd
  have w1 := (hw.2.2.2.1 d hd).1
  unfold fX7_sleeps slN bX7_sleeps_22
  simp only [gR_75_11, gR_75_12, Option.bind_some]
  rw [aI_84 hd, aI_85 hd]
  simp only [Option.bind_some, (hr.1 d hd).1, (hr.1 d hd).2.1]
  by_cases h1 : 0 < B 84 d
  · rw [if_neg (nI_nle h1 (by omega))]
    by_cases h2 : 0 < B 85 d
    · rw [if_neg (nI_nle h2 (by omega))]
      simp [h1, h2]
    · rw [if_pos (by rw [show B 85 d = 0 by omega]; decide)]
      simp [h2]
  · rw [if_pos (by rw [show B 84 d = 0 by omega]; decide)]
    simp [h1]
theorem q_fil {d m lie : Nat} (hd : d < 4) (hm : m ≤ 40) (hl : lie ≤ 8) (hF : F 75 22 = nI lie) (h82 : ∀ i, i < 40 → S 82 i ≤ 3) : ∀ (j fu k n : Nat) (B : bk) (A : Nat → Nat → Int32), j < fu → k + j = lie → n ≤ k → (∀ i, i < 40 → A 82 i = nI (S 82 i)) → (∀ i, i < lie → A 94 i = nI (B 94 i) ∧ B 94 i < m) → (∀ i, i < m → A 93 i = nI (B 93 i)) →
    ∃ A', lX7_wake_34 75 (nI d) fu (nI n) (nI k) (hp F A) = some (nI (filN S d j k n B).1, hp F A') ∧ (∀ c, c ≠ 93 → c ≠ 94 → A' c = A c) ∧ (∀ i, i < lie → A' 94 i = nI ((filN S d j k n B).2 94 i)) ∧ (∀ i, i < m → A' 93 i = nI ((filN S d j k n B).2 93 i)) := by
  intro j
  induction j with
  | zero =>
    intro fu k n B A hf hk hn a82 a94 a93
    obtain ⟨f, rfl⟩ : ∃ f, fu = f + 1 := ⟨fu - 1, by omega⟩
    refine ⟨A, ?_, fun _ _ _ => rfl, fun i hi => (a94 i hi).1, a93⟩
    rw [lX7_wake_34]
    simp only [gI_75_22, Option.bind_some, hF]
    rw [if_pos (nI_le (by omega) (by omega))]
    rfl
  | succ j ih =>
    intro fu k n B A hf hk hn a82 a94 a93
    obtain ⟨f, rfl⟩ : ∃ f, fu = f + 1 := ⟨fu - 1, by omega⟩
    obtain ⟨e94, l94⟩ := a94 k (by omega)
    have s82 := h82 (B 94 k) (by omega)
    rw [lX7_wake_34]
    simp only [gI_75_22, gR_75_7, gR_75_21, gR_75_20, Option.bind_some, hF]
    rw [if_neg (nI_ge (by omega) (by omega)), aI_94 (by omega)]
    simp only [Option.bind_some, e94]
    rw [aI_82 (by omega), Option.bind_some, a82 _ (by omega)]
    by_cases hc : S 82 (B 94 k) = d
    · rw [if_pos (by rw [hc]), sI_93 (by omega)]
      simp only [Option.bind_some, bX7_wake_87, nI_1]
      obtain ⟨A', r1, r2, r3, r4⟩ := ih f (k + 1) n (upN B 93 (B 94 k) 4) (up2 A 93 (B 94 k) 4) (by omega) (by omega) (by omega)
        (fun i hi => by rw [up2_ne (by omega)]; exact a82 i hi) (fun i hi => by rw [up2_ne (by omega), upN_ne (by omega)]; exact a94 i hi)
        (fun i hi => by
          by_cases e : i = B 94 k
          · subst e; rw [up2_eq, upN_eq]; rfl
          · rw [up2_ne (by omega), upN_ne (by omega)]; exact a93 i hi)
      rw [show filN S d (j + 1) k n B = filN S d j (k + 1) n (upN B 93 (B 94 k) 4) by rw [filN, if_pos hc]]
      exact ⟨A', r1, fun c c1 c2 => by rw [r2 c c1 c2, up2_off c1], r3, r4⟩
    · rw [if_neg (fun e => hc ((nI_eq (by omega) (by omega)).mp e)), sI_94 (by omega)]
      simp only [Option.bind_some, bX7_wake_87, nI_1]
      obtain ⟨A', r1, r2, r3, r4⟩ := ih f (k + 1) (n + 1) (upN B 94 n (B 94 k)) (up2 A 94 n (nI (B 94 k))) (by omega) (by omega) (by omega)
        (fun i hi => by rw [up2_ne (by omega)]; exact a82 i hi) (fun i hi => by
          by_cases e : i = n
          · subst e; rw [up2_eq, upN_eq]; exact ⟨rfl, l94⟩
          · rw [up2_ne (by omega), upN_ne (by omega)]; exact a94 i hi)
        (fun i hi => by rw [up2_ne (by omega), upN_ne (by omega)]; exact a93 i hi)
      rw [show filN S d (j + 1) k n B = filN S d j (k + 1) (n + 1) (upN B 94 n (B 94 k)) by rw [filN, if_neg hc]]
      exact ⟨A', r1, fun c c1 c2 => by rw [r2 c c1 c2, up2_off c2], r3, r4⟩
theorem q_wake {u q d : Nat} (hw : wf S) (hg : rg S F A) (hd : d < 4) (hr : rr S B F A) (hb : bnd S u q B) : ∃ F' A', fX7_wake (hp F A) 75 (nI d) = some (hp F' A') ∧ frR F A F' A' ∧ rr S (wakN S B d) F' A' := by
  obtain ⟨r1, r2, r3, r4, r5, r6⟩ := id hr
  obtain ⟨b1, b2, b3⟩ := hb.1 d hd
  have w1 := (hw.2.2.2.1 d hd).1
  have b22 := hb.2.2.1
  have b94 := hb.2.2.2.2
  have hm := hw.1
  obtain ⟨d84, d85, d86, d87, d88, d89, d90, d91⟩ := r1 d hd
  let A1 := up2 (up2 A 86 d (nI (B 86 d) + nI (S 78 (4 * d + B 85 d)))) 87 d (nI (B 87 d) + 1)
  have e82 : ∀ i, i < 40 → A1 82 i = nI (S 82 i) := fun i hi => by
    show up2 (up2 A 86 d _) 87 d _ 82 i = _
    rw [up2_ne (by omega), up2_ne (by omega)]; exact (hg.2.2.2.2.2 i hi).2.1
  have e94 : ∀ i, i < B 75 22 → A1 94 i = nI (wk1 S B d 94 i) ∧ wk1 S B d 94 i < S 75 5 := fun i hi => by
    show up2 (up2 A 86 d _) 87 d _ 94 i = nI (upN (upN B 86 d _) 87 d _ 94 i) ∧ upN (upN B 86 d _) 87 d _ 94 i < _
    rw [up2_ne (by omega), up2_ne (by omega), upN_ne (by omega), upN_ne (by omega)]; exact ⟨r4 i hi, b94 i hi⟩
  have e93 : ∀ i, i < S 75 5 → A1 93 i = nI (wk1 S B d 93 i) := fun i hi => by
    show up2 (up2 A 86 d _) 87 d _ 93 i = nI (upN (upN B 86 d _) 87 d _ 93 i)
    rw [up2_ne (by omega), up2_ne (by omega), upN_ne (by omega), upN_ne (by omega)]; exact r3 i hi
  obtain ⟨A2, l1, l2, l3, l4⟩ := q_fil (F := F) hd hm b22 r5 (fun i hi => (hw.2.2.2.2.2.2 i hi).2.1) (B 75 22) ab_fu 0 0 (wk1 S B d) A1 (by unfold ab_fu; omega) (by omega) (by omega) e82 e94 e93
  obtain ⟨k1, k2, k3⟩ := fil_ok (S := S) (d := d) (B 75 22) 0 0 (wk1 S B d) (Nat.le_refl _)
  refine ⟨up2 F 75 22 (nI (filN S d (B 75 22) 0 0 (wk1 S B d)).1), A2, ?_, ?_, ?_⟩
  · unfold fX7_wake
    simp only [gR_75_13, gR_75_12, gR_75_14, ob_75, Option.bind_some]
    rw [aI_86 hd, aI_85 hd]
    simp only [Option.bind_some, d85, d86]
    rw [q_wakeOf hw hg hd (by omega), Option.bind_some, sI_86 hd]
    simp only [gR_75_14, Option.bind_some]
    rw [aI_87 hd, Option.bind_some, up2_ne (by omega), d87, sI_87 hd, Option.bind_some]
    rw [show (0 : Int32) = nI 0 from rfl, l1]
    simp only [Option.bind_some, pI_75_22]
  · refine ⟨fun c hc => up2_off hc, fun j j1 j2 => up2_ne (by omega), fun c hc => ?_⟩
    rw [l2 c (by omega) (by omega)]
    show up2 (up2 A 86 d _) 87 d _ c = _
    rw [up2_off (by omega), up2_off (by omega)]
  · have g : ∀ c i, c ≠ 93 → c ≠ 94 → c ≠ 75 → wakN S B d c i = wk1 S B d c i := fun c i c1 c2 c3 => by
      unfold wakN
      rw [upN_ne (Or.inl c3), k2 c i c1 c2]
    have ga : ∀ c, c ≠ 93 → c ≠ 94 → A2 c = A1 c := l2
    have g1 : ∀ c i, c ≠ 86 → c ≠ 87 → A1 c i = A c i := fun c i c1 c2 => by
      show up2 (up2 A 86 d _) 87 d _ c i = _
      rw [up2_ne (Or.inl c2), up2_ne (Or.inl c1)]
    have g2 : ∀ c i, c ≠ 86 → c ≠ 87 → wk1 S B d c i = B c i := fun c i c1 c2 => by
      unfold wk1
      rw [upN_ne (Or.inl c2), upN_ne (Or.inl c1)]
    refine ⟨fun e he => ?_, fun e k he hk => ?_, fun i hi => ?_, fun k hk => ?_, ?_, ?_⟩
    · obtain ⟨x84, x85, x86, x87, x88, x89, x90, x91⟩ := r1 e he
      simp (disch := omega) only [ga, g]
      refine ⟨?_, ?_, ?_, ?_, ?_, ?_, ?_, ?_⟩
      · rw [g1 _ _ (by omega) (by omega), g2 _ _ (by omega) (by omega)]; exact x84
      · rw [g1 _ _ (by omega) (by omega), g2 _ _ (by omega) (by omega)]; exact x85
      · show up2 (up2 A 86 d _) 87 d _ 86 e = nI (upN (upN B 86 d _) 87 d _ 86 e)
        rw [up2_ne (by omega), upN_ne (by omega)]
        by_cases hed : e = d
        · subst hed; rw [up2_eq, upN_eq, nI_add]
        · rw [up2_ne (by omega), upN_ne (by omega)]; exact x86
      · show up2 (up2 A 86 d _) 87 d _ 87 e = nI (upN (upN B 86 d _) 87 d _ 87 e)
        by_cases hed : e = d
        · subst hed; rw [up2_eq, upN_eq, nI_1]
        · rw [up2_ne (by omega), upN_ne (by omega), up2_ne (by omega), upN_ne (by omega)]; exact x87
      · rw [g1 _ _ (by omega) (by omega), g2 _ _ (by omega) (by omega)]; exact x88
      · rw [g1 _ _ (by omega) (by omega), g2 _ _ (by omega) (by omega)]; exact x89
      · rw [g1 _ _ (by omega) (by omega), g2 _ _ (by omega) (by omega)]; exact x90
      · rw [g1 _ _ (by omega) (by omega), g2 _ _ (by omega) (by omega)]; exact x91
    · rw [g 91 e (by omega) (by omega) (by omega), g2 _ _ (by omega) (by omega)] at hk
      rw [ga 92 (by omega) (by omega), g 92 _ (by omega) (by omega) (by omega), g1 _ _ (by omega) (by omega), g2 _ _ (by omega) (by omega)]
      exact r2 e k he hk
    · unfold wakN
      rw [upN_ne (by omega)]; exact l4 i hi
    · unfold wakN at hk ⊢
      rw [upN_eq] at hk
      rw [upN_ne (by omega)]; exact l3 k (by omega)
    · unfold wakN
      rw [up2_eq, upN_eq]
    · unfold wakN
      rw [up2_ne (by omega), upN_ne (by omega), k2 75 23 (by omega) (by omega), g2 _ _ (by omega) (by omega)]; exact r6
end
