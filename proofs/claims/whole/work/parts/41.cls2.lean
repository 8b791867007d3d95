section
variable {S B : bk} {F A : Nat → Nat → Int32}
theorem gs_off {B' : bk} {d : Nat} (h1 : B' 91 d = B 91 d) (h2 : ∀ k, k < B 91 d → B' 92 (40 * d + k) = B 92 (40 * d + k)) : gsI S B' d = gsI S B d := by
  unfold gsI menN
  rw [h1]
  by_cases h0 : B 91 d = 0
  · rw [if_pos h0, if_pos h0]
  · rw [if_neg h0, if_neg h0]
    have : ∀ a j, a + j ≤ B 91 d → sumN (fun k => B' 92 (40 * d + k)) a j = sumN (fun k => B 92 (40 * d + k)) a j := by
      intro a j
      induction j with
      | zero => intro _; rfl
      | succ j ih =>
        intro h
        show sumN _ a j + B' 92 (40 * d + (a + j)) = sumN _ a j + B 92 (40 * d + (a + j))
        rw [ih (by omega), h2 _ (by omega)]
    rw [this _ _ (by omega)]
def fk (k c : Nat) : Prop := (k = 0 ∧ c = 86) ∨ (k = 1 ∧ c = 87) ∨ (k = 2 ∧ c = 88) ∨ (k = 3 ∧ c = 89) ∨ (k = 4 ∧ c = 90) ∨ (k = 5 ∧ c = 84) ∨ (k = 6 ∧ c = 85)
theorem cr.upC {k c d x : Nat} {y : Int32} (hr : cr S B F A) (hk : fk k c) (hy : y = nI x) : cr S (upN B c d x) (up2 F (26 + 2 * d) k y) A := by
  subst hy
  obtain ⟨r1, r2, r3, r4, r5, r6⟩ := hr
  unfold fk at hk
  refine ⟨fun e he => ?_, fun e k he hk => ?_, fun i hi => ?_, fun k hk => ?_, ?_, ?_⟩
  · obtain ⟨a0, a1, a2, a3, a4, a5, a6, a8, a9⟩ := r1 e he
    have hgs : gsI S (upN B c d x) e = gsI S B e := gs_off (upN_ne (by omega)) (fun k hk => upN_ne (by omega))
    rw [hgs]
    have key : ∀ j c', fk j c' → F (26 + 2 * e) j = nI (B c' e) → up2 F (26 + 2 * d) k (nI x) (26 + 2 * e) j = nI (upN B c d x c' e) := fun j c' hj h => by
      unfold fk at hj
      by_cases hed : e = d ∧ j = k
      · obtain ⟨rfl, rfl⟩ := hed
        rw [show c' = c by omega, up2_eq, upN_eq]
      · rw [up2_ne (by omega), upN_ne (by omega)]; exact h
    refine ⟨key 0 86 (by unfold fk; omega) a0, key 1 87 (by unfold fk; omega) a1, key 2 88 (by unfold fk; omega) a2, key 3 89 (by unfold fk; omega) a3, key 4 90 (by unfold fk; omega) a4, key 5 84 (by unfold fk; omega) a5, key 6 85 (by unfold fk; omega) a6, ?_, ?_⟩
    · rw [up2_ne (by omega), upN_ne (by omega)]; exact a8
    · rw [up2_ne (by omega)]; exact a9
  · rw [upN_ne (by omega)] at hk ⊢; exact r2 e k he hk
  · rw [upN_ne (by omega)]; exact r3 i hi
  · rw [upN_ne (by omega)] at hk ⊢; exact r4 k hk
  · rw [up2_ne (by omega), upN_ne (by omega)]; exact r5
  · rw [up2_ne (by omega), upN_ne (by omega)]; exact r6
theorem cr.upFt {r x : Nat} {y : Int32} (hr : cr S B F A) (hy : y = nI x) : cr S (upN B 93 r x) F (up2 A 24 r y) := by
  subst hy
  obtain ⟨r1, r2, r3, r4, r5, r6⟩ := hr
  refine ⟨fun e he => ?_, fun e k he hk => ?_, fun i hi => ?_, fun k hk => ?_, ?_, ?_⟩
  · rw [gs_off (B := B) (upN_ne (by omega)) (fun k hk => upN_ne (by omega))]
    simp (disch := omega) only [upN_ne]; exact r1 e he
  · simp (disch := omega) only [up2_ne, upN_ne] at hk ⊢; exact r2 e k he hk
  · by_cases e : i = r
    · subst e; rw [up2_eq, upN_eq]
    · rw [up2_ne (by omega), upN_ne (by omega)]; exact r3 i hi
  · simp (disch := omega) only [up2_ne, upN_ne] at hk ⊢; exact r4 k hk
  · rw [upN_ne (by omega)]; exact r5
  · rw [upN_ne (by omega)]; exact r6
theorem p_busy {u q d : Nat} (hw : wf S) (hd : d < 4) (hr : cr S B F A) (hb : bnd S u q B) (hq : q < 40) (hu : u ≤ 10000) : ∃ F' A', fX0_becomeBusy (hp F A) (26 + 2 * d) (nI (gn S d)) = some (hp F' A') ∧ frC F A F' A' ∧ cr S (bsyN B d) F' A' := by
  obtain ⟨r1, r2, r3, r4, r5, r6⟩ := id hr
  obtain ⟨b1, b2, b3⟩ := hb.1 d hd
  obtain ⟨a0, a1, a2, a3, a4, a5, a6, a8, a9⟩ := r1 d hd
  have hgn := gn_ok hw hd
  unfold fX0_becomeBusy bX0_becomeBusy_48 bsyN
  rw [cgI5 hd, Option.bind_some, a5]
  by_cases h0 : 0 < B 84 d
  · rw [if_neg (nI_nle h0 (by omega)), if_pos h0, cgI8 hd, Option.bind_some, a8, if_neg (show ¬ (40 : Int32) ≤ nI (B 91 d) from nI_ge (b := 40) (by omega) (by omega)), cgR7 hd, Option.bind_some, Option.bind_some, Option.bind_some, csI hd (by omega), Option.bind_some, cgI8 hd, Option.bind_some, a8, cpI8 hd, Option.bind_some, cob hd, Option.bind_some, nI_1]
    have hmean := p_mean (F := up2 F (26 + 2 * d) 8 (nI (B 91 d + 1))) (A := up2 A (27 + 2 * d) (B 91 d) (nI (B 84 d))) (n := gn S d) (u := u) (f0 := fun k => upN B 92 (40 * d + B 91 d) (B 84 d) 92 (40 * d + k)) hd (up2_eq _ _ _ _) (by omega) (by omega) hgn.1 hgn.2
      (fun k hk => by
        by_cases e : k = B 91 d
        · subst e; rw [up2_eq]; simp only [upN_eq]
        · rw [up2_ne (by omega)]; rw [upN_ne (by omega)]; exact r2 d k hd (by omega))
      (fun k hk => by
        by_cases e : k = B 91 d
        · subst e; simp only [upN_eq]; exact b1
        · rw [upN_ne (by omega)]; exact (hb.2.1 d k hd (by omega)).2) hu
    rw [hmean, Option.bind_some, cpI9 hd, Option.bind_some, cpI5 hd, Option.bind_some]
    refine ⟨_, _, rfl, ?_, ?_⟩
    · refine ⟨fun c hc => by rw [up2_off (by omega), up2_off (by omega), up2_off (by omega)], fun k hk => by rw [up2_ne (by omega), up2_ne (by omega), up2_ne (by omega)], fun c hc => up2_off (by omega)⟩
    · refine cr.upC ?_ (by unfold fk; omega) rfl
      refine ⟨fun e he => ?_, fun e k he hk => ?_, fun i hi => ?_, fun k hk => ?_, ?_, ?_⟩
      · obtain ⟨e0, e1, e2, e3, e4, e5, e6, e8, e9⟩ := r1 e he
        by_cases hed : e = d
        · subst hed
          simp (disch := omega) only [up2_eq, up2_ne, upN_eq, upN_ne]
          refine ⟨e0, e1, e2, e3, e4, e5, e6, trivial, ?_⟩
          unfold gsI
          rw [upN_eq, if_neg (by omega)]
          unfold menN
          rw [upN_eq]
          simp (disch := omega) only [upN_ne]
        · have hgs : gsI S (upN (upN B 92 (40 * d + B 91 d) (B 84 d)) 91 d (B 91 d + 1)) e = gsI S B e := by
            refine gs_off (by rw [upN_ne (by omega), upN_ne (by omega)]) (fun k hk => ?_)
            have := (hb.1 e he).2.2
            rw [upN_ne (by omega), upN_ne (by omega)]
          rw [hgs]
          simp (disch := omega) only [up2_ne, upN_ne]
          exact ⟨e0, e1, e2, e3, e4, e5, e6, e8, e9⟩
      · rw [upN_ne (by omega)]
        by_cases hed : e = d
        · subst hed
          rw [upN_eq] at hk
          by_cases hkk : k = B 91 e
          · subst hkk; rw [up2_eq, upN_eq]
          · rw [up2_ne (by omega), upN_ne (by omega)]; exact r2 e k he (by omega)
        · rw [upN_ne (by omega), upN_ne (by omega)] at hk
          have := (hb.1 e he).2.2
          rw [up2_ne (by omega), upN_ne (by omega)]; exact r2 e k he hk
      · simp (disch := omega) only [up2_ne, upN_ne]; exact r3 i hi
      · simp (disch := omega) only [up2_ne, upN_ne] at hk ⊢; exact r4 k hk
      · simp (disch := omega) only [up2_ne, upN_ne]; exact r5
      · simp (disch := omega) only [up2_ne, upN_ne]; exact r6
  · rw [if_pos (by rw [show B 84 d = 0 by omega]; decide), if_neg h0, cpI5 hd]
    exact ⟨_, _, rfl, frC.upF (by omega), cr.upC hr (by unfold fk; omega) rfl⟩
theorem p_enter {u q r : Nat} (hw : wf S) (hr : cr S B F A) (hb : bnd S u q B) (hm : r < S 75 5) (hl : B 75 22 < 8) : ∃ F' A', fX4_enter (hp F A) 21 (26 + 2 * S 82 r) (nI r) = some (hp F' A') ∧ frC F A F' A' ∧ cr S (entN S B r) F' A' := by
  have hm40 := hw.1
  obtain ⟨s81, s82, s83⟩ := hw.2.2.2.2.2.2 r (by omega)
  have hd : S 82 r < 4 := by omega
  obtain ⟨r1, r2, r3, r4, r5, r6⟩ := id hr
  obtain ⟨a0, a1, a2, a3, a4, a5, a6, a8, a9⟩ := r1 _ hd
  have b23 := hb.2.2.2.1
  unfold fX4_enter
  rw [gR_21_3, Option.bind_some, gI_21_4, Option.bind_some, r5, sI_25 hl, Option.bind_some, gI_21_4, Option.bind_some, r5, pI_21_4, Option.bind_some, gI_21_5, Option.bind_some, up2_ne (by omega), r6, gI_21_4, Option.bind_some, up2_eq, nI_1, mxN (by omega) (by omega), pI_21_5, Option.bind_some, cgI4 hd, Option.bind_some, up2_ne (by omega), up2_ne (by omega), a4, nI_1, cpI4 hd, Option.bind_some, gR_21_2, Option.bind_some, sI_24 (by omega), Option.bind_some]
  refine ⟨_, _, rfl, ?_, ?_⟩
  · exact ⟨fun c hc => by rw [up2_off (by omega), up2_off (by omega), up2_off (by omega)], fun k hk => by rw [up2_ne (by omega), up2_ne (by omega), up2_ne (by omega)], fun c hc => by rw [up2_off (by omega), up2_off (by omega)]⟩
  · unfold entN
    refine cr.upFt ?_ rfl
    refine cr.upC ?_ (by unfold fk; omega) rfl
    refine ⟨fun e he => ?_, fun e k he hk => ?_, fun i hi => ?_, fun k hk => ?_, ?_, ?_⟩
    · rw [gs_off (B := B) (by simp (disch := omega) only [upN_ne]) (fun k hk => by simp (disch := omega) only [upN_ne])]
      simp (disch := omega) only [up2_ne, upN_ne]; exact r1 e he
    · simp (disch := omega) only [up2_ne, upN_ne] at hk ⊢; exact r2 e k he hk
    · simp (disch := omega) only [up2_ne, upN_ne]; exact r3 i hi
    · rw [upN_ne (by omega), upN_eq] at hk
      rw [upN_ne (by omega), upN_ne (by omega)]
      by_cases e : k = B 75 22
      · subst e; rw [up2_eq, upN_eq]
      · rw [up2_ne (by omega), upN_ne (by omega)]; exact r4 k (by omega)
    · rw [up2_ne (by omega), up2_eq, upN_ne (by omega), upN_eq]
    · rw [up2_eq, upN_eq]
theorem p_fil {d m lie : Nat} (hd : d < 4) (hm : m ≤ 40) (hl : lie ≤ 8) (hF : F 21 4 = nI lie) (h82 : ∀ i, i < 40 → S 82 i ≤ 3) : ∀ (j fu k n : Nat) (B : bk) (A : Nat → Nat → Int32), j < fu → k + j = lie → n ≤ k → (∀ i, i < 40 → A 5 i = nI (S 82 i)) → (∀ i, i < lie → A 25 i = nI (B 94 i) ∧ B 94 i < m) → (∀ i, i < m → A 24 i = nI (B 93 i)) →
    ∃ A', lX4_letEntriesLeave_5 21 3 (nI d) fu (nI n) (nI k) (hp F A) = some (nI (filN S d j k n B).1, hp F A') ∧ (∀ c, c ≠ 24 → c ≠ 25 → A' c = A c) ∧ (∀ i, i < lie → A' 25 i = nI ((filN S d j k n B).2 94 i)) ∧ (∀ i, i < m → A' 24 i = nI ((filN S d j k n B).2 93 i)) := by
  intro j
  induction j with
  | zero =>
    intro fu k n B A hf hk hn a82 a94 a93
    obtain ⟨f, rfl⟩ : ∃ f, fu = f + 1 := ⟨fu - 1, by omega⟩
    refine ⟨A, ?_, fun _ _ _ => rfl, fun i hi => (a94 i hi).1, a93⟩
    rw [lX4_letEntriesLeave_5, gI_21_4, Option.bind_some, hF, if_pos (nI_le (by omega) (by omega))]
    rfl
  | succ j ih =>
    intro fu k n B A hf hk hn a82 a94 a93
    obtain ⟨f, rfl⟩ : ∃ f, fu = f + 1 := ⟨fu - 1, by omega⟩
    obtain ⟨e94, l94⟩ := a94 k (by omega)
    have s82 := h82 (B 94 k) (by omega)
    rw [lX4_letEntriesLeave_5, gI_21_4, Option.bind_some, hF, if_neg (nI_ge (by omega) (by omega)), gR_21_3, Option.bind_some, aI_25 (by omega), Option.bind_some, e94, gR_3_1, Option.bind_some, aI_5 (by omega), Option.bind_some, a82 _ (by omega)]
    by_cases hc : S 82 (B 94 k) = d
    · rw [if_pos (by rw [hc]), gR_21_2, Option.bind_some, sI_24 (by omega), Option.bind_some]
      unfold bX4_letEntriesLeave_56
      rw [nI_1]
      obtain ⟨A', r1, r2, r3, r4⟩ := ih f (k + 1) n (upN B 93 (B 94 k) 4) (up2 A 24 (B 94 k) 4) (by omega) (by omega) (by omega)
        (fun i hi => by rw [up2_ne (by omega)]; exact a82 i hi) (fun i hi => by rw [up2_ne (by omega), upN_ne (by omega)]; exact a94 i hi)
        (fun i hi => by
          by_cases e : i = B 94 k
          · subst e; rw [up2_eq, upN_eq]; rfl
          · rw [up2_ne (by omega), upN_ne (by omega)]; exact a93 i hi)
      rw [show filN S d (j + 1) k n B = filN S d j (k + 1) n (upN B 93 (B 94 k) 4) by rw [filN, if_pos hc]]
      exact ⟨A', r1, fun c c1 c2 => by rw [r2 c c1 c2, up2_off c1], r3, r4⟩
    · rw [if_neg (fun e => hc ((nI_eq (by omega) (by omega)).mp e)), Option.bind_some, sI_25 (by omega), Option.bind_some]
      unfold bX4_letEntriesLeave_56
      rw [nI_1, nI_1]
      obtain ⟨A', r1, r2, r3, r4⟩ := ih f (k + 1) (n + 1) (upN B 94 n (B 94 k)) (up2 A 25 n (nI (B 94 k))) (by omega) (by omega) (by omega)
        (fun i hi => by rw [up2_ne (by omega)]; exact a82 i hi) (fun i hi => by
          by_cases e : i = n
          · subst e; rw [up2_eq, upN_eq]; exact ⟨rfl, l94⟩
          · rw [up2_ne (by omega), upN_ne (by omega)]; exact a94 i hi)
        (fun i hi => by rw [up2_ne (by omega), upN_ne (by omega)]; exact a93 i hi)
      rw [show filN S d (j + 1) k n B = filN S d j (k + 1) (n + 1) (upN B 94 n (B 94 k)) by rw [filN, if_neg hc]]
      exact ⟨A', r1, fun c c1 c2 => by rw [r2 c c1 c2, up2_off c2], r3, r4⟩
theorem p_wake {u q d : Nat} (hw : wf S) (hg : c1 S F A) (hd : d < 4) (hr : cr S B F A) (hb : bnd S u q B) : ∃ F' A', fX4_wakeUp (hp F A) 21 1 (nI d) = some (hp F' A') ∧ frC F A F' A' ∧ cr S (wakN S B d) F' A' := by
  obtain ⟨b1, b2, b3⟩ := hb.1 d hd
  have w1 := (hw.2.2.2.1 d hd).1
  have b22 := hb.2.2.1
  have b94 := hb.2.2.2.2
  have hm := hw.1
  obtain ⟨a0, a1, a2, a3, a4, a5, a6, a8, a9⟩ := hr.1 d hd
  have hr1 : cr S (wk1 S B d) (up2 (up2 F (26 + 2 * d) 0 (nI (B 86 d + S 78 (4 * d + B 85 d)))) (26 + 2 * d) 1 (nI (B 87 d + 1))) A := by
    unfold wk1
    exact cr.upC (cr.upC hr (by unfold fk; omega) rfl) (by unfold fk; omega) rfl
  unfold fX4_wakeUp
  rw [gR_21_0, Option.bind_some, caR hd, Option.bind_some, cgI0 hd, Option.bind_some, a0, gR_1_0, Option.bind_some, daR hd, Option.bind_some, dgR1 hd, Option.bind_some, cgI6 hd, Option.bind_some, a6, daW hd (by omega), Option.bind_some, (hg.2.2.2.2.2 d _ hd (by omega)).2, nI_add, cpI0 hd, Option.bind_some, cgI1 hd, Option.bind_some, up2_ne (by omega), a1, nI_1, cpI1 hd, Option.bind_some, gR_1_1, Option.bind_some, ob_21, Option.bind_some]
  generalize hF1 : up2 (up2 F (26 + 2 * d) 0 (nI (B 86 d + S 78 (4 * d + B 85 d)))) (26 + 2 * d) 1 (nI (B 87 d + 1)) = F1 at hr1
  have fr1 : frC F A F1 A := by rw [← hF1]; exact (frC.upF (by omega)).trans (frC.upF (by omega))
  obtain ⟨r1, r2, r3, r4, r5, r6⟩ := id hr1
  have g2 : ∀ c i, c ≠ 86 → c ≠ 87 → wk1 S B d c i = B c i := fun c i c1 c2 => by
    unfold wk1
    rw [upN_ne (Or.inl c2), upN_ne (Or.inl c1)]
  rw [g2 75 22 (by omega) (by omega)] at r4 r5
  obtain ⟨A2, l1, l2, l3, l4⟩ := p_fil (S := S) (F := F1) hd hm b22 r5 (fun i hi => (hw.2.2.2.2.2.2 i hi).2.1) (B 75 22) ab_fu 0 0 (wk1 S B d) A (by unfold ab_fu; omega) (by omega) (by omega) (fun i hi => (hg.2.2.2.1 i hi).2.1) (fun i hi => ⟨r4 i hi, by rw [g2 94 i (by omega) (by omega)]; exact b94 i hi⟩) r3
  obtain ⟨k1, k2, k3⟩ := fil_ok (S := S) (d := d) (B 75 22) 0 0 (wk1 S B d) (Nat.le_refl _)
  unfold fX4_letEntriesLeave
  rw [show (nI 0) = (0 : Int32) from rfl] at l1
  rw [l1, Option.bind_some, pI_21_4, Option.bind_some, Option.bind_some]
  refine ⟨_, _, rfl, ?_, ?_⟩
  · refine fr1.trans ⟨fun c hc => up2_off (by omega), fun k hk => up2_ne (by omega), fun c hc => l2 c (by omega) (by omega)⟩
  · have g : ∀ c i, c ≠ 93 → c ≠ 94 → c ≠ 75 → wakN S B d c i = wk1 S B d c i := fun c i c1 c2 c3 => by
      unfold wakN
      rw [upN_ne (Or.inl c3), k2 c i c1 c2]
    refine ⟨fun e he => ?_, fun e k he hk => ?_, fun i hi => ?_, fun k hk => ?_, ?_, ?_⟩
    · rw [gs_off (B := wk1 S B d) (g 91 e (by omega) (by omega) (by omega)) (fun k hk => g 92 _ (by omega) (by omega) (by omega))]
      simp (disch := omega) only [up2_ne, g]
      exact r1 e he
    · rw [g 91 e (by omega) (by omega) (by omega)] at hk
      rw [l2 _ (by omega) (by omega), g 92 _ (by omega) (by omega) (by omega)]
      exact r2 e k he hk
    · unfold wakN
      rw [upN_ne (by omega)]; exact l4 i hi
    · unfold wakN at hk ⊢
      rw [upN_eq] at hk
      rw [upN_ne (by omega)]; exact l3 k (by omega)
    · unfold wakN
      rw [up2_eq, upN_eq]
    · unfold wakN
      rw [up2_ne (by omega), upN_ne (by omega), k2 75 23 (by omega) (by omega)]; exact r6
end
