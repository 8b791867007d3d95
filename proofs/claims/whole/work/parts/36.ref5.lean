section
variable {S B : bk} {F A : Nat → Nat → Int32}
theorem rg.fr2 {A' : Nat → Nat → Int32} (h : rg S F A) (f : ∀ c, ¬ (84 ≤ c ∧ c ≤ 95) → A' c = A c) : rg S F A' := by
  obtain ⟨h1, h2, h3, h4, h5, h6⟩ := h
  refine ⟨h1, h2, h3, ?_, ?_, ?_⟩
  · rw [f 76 (by decide), f 79 (by decide), f 80 (by decide)]; exact h4
  · rw [f 77 (by decide), f 78 (by decide)]; exact h5
  · rw [f 81 (by decide), f 82 (by decide), f 83 (by decide)]; exact h6
theorem ix3_1 (d : Nat) : (3 : Int32) * nI d + 1 = nI (3 * d + 1) := by rw [ix3, nI_1]
theorem ix3_2 (d : Nat) : (3 : Int32) * nI d + 2 = nI (3 * d + 2) := by rw [ix3, show (2 : Int32) = nI 2 from rfl, nI_add]
theorem pas_off {d e c : Nat} (h : e ≠ d) : pasN S B d c e = B c e := by
  unfold pasN
  rw [upN_ne (Or.inr h), upN_ne (Or.inr h), upN_ne (Or.inr h)]
theorem q_pass1 {u t d lk : Nat} {v1 : Int32} {rec : Int32 → ab_H → Option ab_H} (hv : nI t = v1 ↔ t = lk) (hw : wf S) (hg : rg S F A) (hr : rr S B F A) (hb : bnd S u 40 B) (hu : u ≤ 10000) (hd : d < 4) (hs : t = lk → snB B A d) :
    ∃ A', (if 4 ≤ nI d then some (hp F A) else (ab_gR (hp F A) 75 7 12).bind (fun r37 => (ab_gR (hp F A) 75 7 11).bind (fun r38 => (ab_aI (hp F A) r38 (nI d)).bind (fun x39 => (ab_ob (hp F A) 75 7).bind (fun u40 => (fX7_levelFor (hp F A) 75 (nI d) x39).bind (fun x41 => (ab_sI (hp F A) r37 (nI d) x41).bind (fun h42 => (ab_gR h42 75 7 13).bind (fun r43 => (ab_aI h42 r43 (nI d)).bind (fun x44 => (ab_gR h42 75 7 1).bind (fun r45 => (ab_gR h42 75 7 12).bind (fun r46 => (ab_aI h42 r46 (nI d)).bind (fun x47 => (ab_aI h42 r45 ((4 * nI d) + x47)).bind (fun x48 => (ab_sI h42 r43 (nI d) (x44 + x48)).bind (fun h49 => if (nI t : Int32) = v1 then (ab_gR h49 75 7 24).bind (fun r54 => (ab_gR h49 75 7 12).bind (fun r55 => (ab_aI h49 r55 (nI d)).bind (fun x56 => (ab_sI h49 r54 (3 * nI d) x56).bind (fun h57 => (ab_gR h57 75 7 24).bind (fun r58 => (ab_gR h57 75 7 11).bind (fun r59 => (ab_aI h57 r59 (nI d)).bind (fun x60 => (ab_sI h57 r58 ((3 * nI d) + 1) x60).bind (fun h61 => (ab_gR h61 75 7 24).bind (fun r62 => (ab_gR h61 75 7 13).bind (fun r63 => (ab_aI h61 r63 (nI d)).bind (fun x64 => (ab_sI h61 r62 ((3 * nI d) + 2) x64).bind (fun h65 => bX7_run_242 rec 75 v1 (nI t) (nI d) h65)))))))))))) else bX7_run_242 rec 75 v1 (nI t) (nI d) h49)))))))))))))) = rec (nI (d + 1)) (hp F A') ∧ (∀ c, ¬ (84 ≤ c ∧ c ≤ 95) → A' c = A c) ∧ rr S (pasN S B d) F A' ∧ (t = lk → snB (pasN S B d) A' (d + 1)) ∧ (t ≠ lk → A' 95 = A 95) := by
  have w1 := (hw.2.2.2.1 d hd).1
  have hl := lv_le (S := S) (B := B) (d := d)
  obtain ⟨d84, d85, d86, d87, d88, d89, d90, d91⟩ := hr.1 d hd
  have h77 : up2 A 85 d (nI (lvN S B d)) 77 (4 * d + lvN S B d) = nI (S 77 (4 * d + lvN S B d)) := by
    rw [up2_ne (by omega)]; exact (hg.2.2.2.2.1 _ (by omega)).1
  rw [if_neg (show ¬ (4 : Int32) ≤ nI d from nI_ge (a := d) (b := 4) hd (by omega))]
  rw [gR_75_12, Option.bind_some, gR_75_11, Option.bind_some, aI_84 hd, Option.bind_some, d84, ob_75, Option.bind_some, q_level hw hg hd hr hb hu, Option.bind_some, sI_85 hd, Option.bind_some, gR_75_13, Option.bind_some, aI_86 hd, Option.bind_some, up2_ne (by omega), d86, gR_75_1, Option.bind_some, gR_75_12, Option.bind_some, aI_85 hd, Option.bind_some, up2_eq, ix4, aI_77 (by omega), Option.bind_some, h77, sI_86 hd, Option.bind_some, nI_add]
  by_cases hc : t = lk
  · rw [if_pos (hv.mpr hc)]
    rw [gR_75_24, Option.bind_some, gR_75_12, Option.bind_some, aI_85 hd, Option.bind_some, up2_ne (by omega), up2_eq, ix3, sI_95 (by omega), Option.bind_some, gR_75_24, Option.bind_some, gR_75_11, Option.bind_some, aI_84 hd, Option.bind_some, up2_ne (by omega), up2_ne (by omega), up2_ne (by omega), d84, nI_1, sI_95 (by omega), Option.bind_some, gR_75_24, Option.bind_some, gR_75_13, Option.bind_some, aI_86 hd, Option.bind_some, up2_ne (by omega), up2_ne (by omega), up2_eq, show (nI (3 * d) + 2 : Int32) = nI (3 * d + 2) from nI_add (3 * d) 2, sI_95 (by omega), Option.bind_some]
    unfold bX7_run_242
    rw [gR_75_11, Option.bind_some, aI_84 hd, Option.bind_some, up2_ne (by omega), up2_ne (by omega), up2_ne (by omega), up2_ne (by omega), up2_ne (by omega), d84, nI_1, sI_84 hd, Option.bind_some, nI_1]
    refine ⟨_, rfl, fun c hc => ?_, ?_, fun _ e he => ?_, fun h => absurd hc h⟩
    · rw [up2_off (by omega), up2_off (by omega), up2_off (by omega), up2_off (by omega), up2_off (by omega), up2_off (by omega)]
    · unfold pasN
      exact rr.upD (rr.off95 (rr.off95 (rr.off95 (rr.upD (rr.upD hr (by omega) rfl) (by omega) rfl)))) (by omega) rfl
    · by_cases hed : e = d
      · subst hed
        unfold pasN
        simp (disch := omega) only [up2_eq, up2_ne, upN_eq, upN_ne, nI_1]
        exact ⟨trivial, trivial, trivial⟩
      · rw [pas_off hed, pas_off hed, pas_off hed]
        simp (disch := omega) only [up2_ne]
        exact hs hc e (by omega)
  · rw [if_neg (fun z => hc (hv.mp z))]
    unfold bX7_run_242
    rw [gR_75_11, Option.bind_some, aI_84 hd, Option.bind_some, up2_ne (by omega), up2_ne (by omega), d84, nI_1, sI_84 hd, Option.bind_some, nI_1]
    refine ⟨_, rfl, fun c hc => ?_, ?_, fun h => absurd h hc, fun _ => ?_⟩
    · rw [up2_off (by omega), up2_off (by omega), up2_off (by omega)]
    · exact rr_pas hd hr rfl
    · rw [up2_off (by omega), up2_off (by omega), up2_off (by omega)]
theorem q_pass {t lk : Nat} {v1 : Int32} (hv : nI t = v1 ↔ t = lk) (hw : wf S) : ∀ (j fu k u : Nat) (B : bk) (A : Nat → Nat → Int32), j < fu → k + j = 4 → rg S F A → rr S B F A → bnd S u 40 B → u + j ≤ 10000 → (t = lk → snB B A k) →
    ∃ A', lX7_run_145 75 v1 (nI t) fu (nI k) (hp F A) = some (hp F A') ∧ (∀ c, ¬ (84 ≤ c ∧ c ≤ 95) → A' c = A c) ∧ rr S ((List.range' k j).foldl (pasN S) B) F A' ∧ (t = lk → snB ((List.range' k j).foldl (pasN S) B) A' 4) ∧ (t ≠ lk → A' 95 = A 95) := by
  intro j
  induction j with
  | zero =>
    intro fu k u B A hf hk hg hr hb hu hs
    obtain ⟨f, rfl⟩ : ∃ f, fu = f + 1 := ⟨fu - 1, by omega⟩
    have hk4 : k = 4 := by omega
    subst hk4
    exact ⟨A, by rw [lX7_run_145, if_pos (by decide)], fun _ _ => rfl, hr, hs, fun _ => rfl⟩
  | succ j ih =>
    intro fu k u B A hf hk hg hr hb hu hs
    obtain ⟨f, rfl⟩ : ∃ f, fu = f + 1 := ⟨fu - 1, by omega⟩
    obtain ⟨A1, k1, k2, k3, k4, k5⟩ := q_pass1 (rec := lX7_run_145 75 v1 (nI t) f) hv hw hg hr hb (by omega) (show k < 4 by omega) hs
    rw [lX7_run_145, k1]
    obtain ⟨A2, l1, l2, l3, l4, l5⟩ := ih f (k + 1) (u + 1) (pasN S B k) A1 (by omega) (by omega) (hg.fr2 k2) k3 (bnd_pas hb) (by omega) k4
    refine ⟨A2, l1, fun c hc => by rw [l2 c hc, k2 c hc], ?_, ?_, fun h => by rw [l5 h, k5 h]⟩
    · rw [List.range'_succ, List.foldl_cons]; exact l3
    · rw [List.range'_succ, List.foldl_cons]; exact l4
theorem tck_eq (S B : bk) (t : Nat) : (List.range' 0 4).foldl (pasN S) (srvN S t B) = tckN S t B := rfl
theorem rq_eq (S : bk) (t : Nat) : (List.range' 0 (S 75 5)).filter (fun r => decide (S 81 r = t)) = rqN S t := by
  unfold rqN
  rw [List.range_eq_range']
/-- the frame of a whole run -/
def frW (F A F' A' : Nat → Nat → Int32) : Prop := (∀ c, c ≠ 75 → F' c = F c) ∧ (∀ k, k ≠ 22 → k ≠ 23 → F' 75 k = F 75 k) ∧ ∀ c, ¬ (84 ≤ c ∧ c ≤ 95) → A' c = A c
theorem frW.trans {F' A' F2 A2 : Nat → Nat → Int32} (h : frW F A F' A') (h2 : frW F' A' F2 A2) : frW F A F2 A2 :=
  ⟨fun c hc => (h2.1 c hc).trans (h.1 c hc), fun k k1 k2 => (h2.2.1 k k1 k2).trans (h.2.1 k k1 k2), fun c hc => (h2.2.2 c hc).trans (h.2.2 c hc)⟩
theorem frR.w {F' A' : Nat → Nat → Int32} (h : frR F A F' A') : frW F A F' A' := ⟨h.1, h.2.1, fun c hc => h.2.2 c (by omega)⟩
theorem rg.frw {F' A' : Nat → Nat → Int32} (h : rg S F A) (f : frW F A F' A') : rg S F' A' := by
  obtain ⟨h1, h2, h3, h4, h5, h6⟩ := h
  refine ⟨by rw [f.2.1 5 (by decide) (by decide)]; exact h1, by rw [f.2.1 9 (by decide) (by decide)]; exact h2, by rw [f.2.1 10 (by decide) (by decide)]; exact h3, ?_, ?_, ?_⟩
  · rw [f.2.2 76 (by decide), f.2.2 79 (by decide), f.2.2 80 (by decide)]; exact h4
  · rw [f.2.2 77 (by decide), f.2.2 78 (by decide)]; exact h5
  · rw [f.2.2 81 (by decide), f.2.2 82 (by decide), f.2.2 83 (by decide)]; exact h6
theorem q_ticks {lk : Nat} {v1 : Int32} (hv : ∀ t, t ≤ 1000 → (nI t = v1 ↔ t = lk)) (hw : wf S) : ∀ (j fu t : Nat) (F A : Nat → Nat → Int32), j < fu → t + j = S 75 9 → rg S F A → rr S (runN S t) F A → (lk < t → snB (runN S (lk + 1)) A 4) →
    ∃ F' A', lX7_run_104 75 v1 fu (nI t) (hp F A) = some (hp F' A') ∧ frW F A F' A' ∧ rr S (runN S (S 75 9)) F' A' ∧ (lk < S 75 9 → snB (runN S (lk + 1)) A' 4) := by
  have he := hw.2.1
  have hm := hw.1
  intro j
  induction j with
  | zero =>
    intro fu t F A hf ht hg hr hs
    obtain ⟨f, rfl⟩ : ∃ f, fu = f + 1 := ⟨fu - 1, by omega⟩
    have e : t = S 75 9 := by omega
    refine ⟨F, A, ?_, ⟨fun _ _ => rfl, fun _ _ _ => rfl, fun _ _ => rfl⟩, e ▸ hr, e ▸ hs⟩
    rw [lX7_run_104, gI_75_9, Option.bind_some, hg.2.1, if_pos (nI_le (by omega) (by omega))]
  | succ j ih =>
    intro fu t F A hf ht hg hr hs
    obtain ⟨f, rfl⟩ : ∃ f, fu = f + 1 := ⟨fu - 1, by omega⟩
    have hb := bnd_run hw t
    have hq1 := cq_s S t
    have hq2 := cq_le S (t + 1)
    obtain ⟨F1, A1, k1, k2, k3⟩ := q_serve (u := 4 * t) (t := t) (v1 := v1) hw (by omega) (by omega) (S 75 5) ab_fu 0 (cq S t) (runN S t) F A (by unfold ab_fu; omega) (by omega) hg hr hb (by rw [rq_eq]; omega)
    rw [rq_eq] at k3
    have hb1 := bnd_wk (bnd_srv (t := t) hw hb) (Nat.le_refl _) (show _ ≤ 40 by omega)
    obtain ⟨A2, l1, l2, l3, l4, l5⟩ := q_pass (F := F1) (hv t (by omega)) hw 4 ab_fu 0 (4 * t) (srvN S t (runN S t)) A1 (by unfold ab_fu; omega) (by omega) (hg.fr k2) k3 hb1 (by omega) (fun _ e he => absurd he (Nat.not_lt_zero _))
    rw [tck_eq] at l3 l4
    have fr : frW F A F1 A2 := k2.w.trans ⟨fun _ _ => rfl, fun _ _ _ => rfl, l2⟩
    obtain ⟨F3, A3, n1, n2, n3, n4⟩ := ih f (t + 1) F1 A2 (by omega) (by omega) (hg.frw fr) l3 (fun h => by
      by_cases hc : t = lk
      · subst hc; exact l4 rfl
      · have h1 := hs (by omega)
        have e95 : A2 95 = A 95 := by rw [l5 hc, k2.2.2 95 (by decide)]
        intro e he
        rw [e95]; exact h1 e he)
    refine ⟨F3, A3, ?_, fr.trans n2, n3, n4⟩
    rw [lX7_run_104, gI_75_9, Option.bind_some, hg.2.1, if_neg (nI_ge (by omega) (by omega)), show (0 : Int32) = nI 0 from rfl, k1, Option.bind_some, l1, Option.bind_some, nI_1]
    exact n1
theorem q_run {lk : Nat} {v1 : Int32} (hv : ∀ t, t ≤ 1000 → (nI t = v1 ↔ t = lk)) (hw : wf S) (hg : rg S F A) : ∃ F' A', fX7_run (hp F A) 75 v1 = some (hp F' A') ∧ frW F A F' A' ∧ rr S (runN S (S 75 9)) F' A' ∧ (lk < S 75 9 → snB (runN S (lk + 1)) A' 4) := by
  have he := hw.2.1
  have hm := hw.1
  obtain ⟨A1, a1, a2, a3⟩ := q_reset (F := F) (v1 := v1) 4 ab_fu 0 A (by unfold ab_fu; omega) (by omega) (fun c e _ _ h => absurd h (Nat.not_lt_zero _))
  obtain ⟨A2, b1, b2, b3⟩ := q_fates (F := F) (v1 := v1) hm hg.1 (S 75 5) ab_fu 0 A1 (by unfold ab_fu; omega) (by omega) (fun e h => absurd h (Nat.not_lt_zero _))
  have fr0 : frW F A (up2 (up2 F 75 22 0) 75 23 0) A2 := ⟨fun c hc => by rw [up2_off hc, up2_off hc], fun k k1 k2 => by rw [up2_ne (by omega), up2_ne (by omega)], fun c hc => by rw [b2 c (by omega), a2 c (by omega)]⟩
  have r0 : rr S (runN S 0) (up2 (up2 F 75 22 0) 75 23 0) A2 := by
    refine ⟨fun d hd => ?_, fun d k hd hk => absurd hk (Nat.not_lt_zero _), fun i hi => b3 i hi, fun k hk => absurd hk (Nat.not_lt_zero _), ?_, ?_⟩
    · rw [b2 84 (by decide), b2 85 (by decide), b2 86 (by decide), b2 87 (by decide), b2 88 (by decide), b2 89 (by decide), b2 90 (by decide), b2 91 (by decide)]
      exact ⟨a3 84 d (by decide) (by decide) hd, a3 85 d (by decide) (by decide) hd, a3 86 d (by decide) (by decide) hd, a3 87 d (by decide) (by decide) hd, a3 88 d (by decide) (by decide) hd, a3 89 d (by decide) (by decide) hd, a3 90 d (by decide) (by decide) hd, a3 91 d (by decide) (by decide) hd⟩
    · rw [up2_ne (by omega), up2_eq]; rfl
    · rw [up2_eq]; rfl
  obtain ⟨F3, A3, n1, n2, n3, n4⟩ := q_ticks (v1 := v1) hv hw (S 75 9) ab_fu 0 _ A2 (by unfold ab_fu; omega) (by omega) (hg.frw fr0) r0 (fun h => absurd h (Nat.not_lt_zero _))
  refine ⟨F3, A3, ?_, fr0.trans n2, n3, n4⟩
  unfold fX7_run
  rw [show (nI 0) = (0 : Int32) from rfl] at a1 b1 n1
  rw [a1, Option.bind_some, b1, Option.bind_some, pI_75_22, Option.bind_some, pI_75_23, Option.bind_some, n1, Option.bind_some]
end
