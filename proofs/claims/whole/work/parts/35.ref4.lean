/-! how many requests come before a tick -/
def cq (S : bk) (t : Nat) : Nat := ((List.range (S 75 5)).filter (fun r => decide (S 81 r < t))).length
theorem cq_l (f : Nat → Nat) (t : Nat) : ∀ l : List Nat, (l.filter (fun r => decide (f r < t + 1))).length = (l.filter (fun r => decide (f r < t))).length + (l.filter (fun r => decide (f r = t))).length
  | [] => rfl
  | a :: l => by
    have ih := cq_l f t l
    simp only [List.filter_cons]
    by_cases h1 : f a < t
    · simp [h1, show f a < t + 1 by omega, show ¬ f a = t by omega]; omega
    · by_cases h2 : f a = t
      · simp [h2]; omega
      · simp [h1, h2, show ¬ f a < t + 1 by omega]; omega
theorem cq_s (S : bk) (t : Nat) : cq S (t + 1) = cq S t + (rqN S t).length := cq_l (S 81) t _
theorem cq_le (S : bk) (t : Nat) : cq S t ≤ S 75 5 := by
  unfold cq
  have := List.length_filter_le (fun r => decide (S 81 r < t)) (List.range (S 75 5))
  rw [List.length_range] at this
  exact this
theorem rq_lt {S : bk} {t r : Nat} (h : r ∈ rqN S t) : r < S 75 5 := by
  unfold rqN at h
  simp at h
  exact h.1
theorem bnd_fold {S : bk} {u : Nat} (hw : wf S) : ∀ (l : List Nat) (q : Nat) (B : bk), (∀ r ∈ l, r < S 75 5) → bnd S u q B → bnd S u (q + l.length) (l.foldl (metN S) B)
  | [], q, B, _, h => h
  | r :: l, q, B, hl, h => by
    have h1 := bnd_met hw (hl r List.mem_cons_self) h
    have h2 := bnd_fold hw l (q + 1) (metN S B r) (fun x hx => hl x (List.mem_cons_of_mem _ hx)) h1
    rw [List.length_cons, List.foldl_cons, show q + (l.length + 1) = q + 1 + l.length by omega]
    exact h2
theorem bnd_srv {S B : bk} {u q t : Nat} (hw : wf S) (h : bnd S u q B) : bnd S u (q + (rqN S t).length) (srvN S t B) := bnd_fold hw _ q B (fun _ hr => rq_lt hr) h
theorem bnd_run {S : bk} (hw : wf S) : ∀ t, bnd S (4 * t) (cq S t) (runN S t)
  | 0 => ⟨fun d _ => ⟨Nat.zero_le _, Nat.zero_le _, Nat.zero_le _⟩, fun d k _ hk => by exact absurd hk (Nat.not_lt_zero _), Nat.zero_le _, Nat.zero_le _, fun k hk => absurd hk (Nat.not_lt_zero _)⟩
  | t + 1 => by
    have h := bnd_srv (t := t) hw (bnd_run hw t)
    rw [← cq_s] at h
    exact bnd_pas (bnd_pas (bnd_pas (bnd_pas h)))
theorem bnd_wk {S B : bk} {u q u' q' : Nat} (h : bnd S u q B) (hu : u ≤ u') (hq : q ≤ q') : bnd S u' q' B :=
  ⟨fun d hd => by have := h.1 d hd; omega, fun d k hd hk => by have := h.2.1 d k hd hk; omega, h.2.2⟩
section
variable {S B : bk} {F A : Nat → Nat → Int32}
theorem q_reset {v1 : Int32} : ∀ (j fu k : Nat) (A : Nat → Nat → Int32), j < fu → k + j = 4 → (∀ c e, 84 ≤ c → c ≤ 91 → e < k → A c e = 0) → ∃ A', lX7_run_2 75 v1 fu (nI k) (hp F A) = some (hp F A') ∧ (∀ c, ¬ (84 ≤ c ∧ c ≤ 91) → A' c = A c) ∧ (∀ c e, 84 ≤ c → c ≤ 91 → e < 4 → A' c e = 0) := by
  intro j
  induction j with
  | zero =>
    intro fu k A hf hk hz
    obtain ⟨f, rfl⟩ : ∃ f, fu = f + 1 := ⟨fu - 1, by omega⟩
    refine ⟨A, ?_, fun _ _ => rfl, fun c e c1 c2 he => hz c e c1 c2 (by omega)⟩
    rw [lX7_run_2, if_pos (by rw [show k = 4 by omega]; decide)]
  | succ j ih =>
    intro fu k A hf hk hz
    obtain ⟨f, rfl⟩ : ∃ f, fu = f + 1 := ⟨fu - 1, by omega⟩
    have hd : k < 4 := by omega
    rw [lX7_run_2, if_neg (show ¬ (4 : Int32) ≤ nI k from nI_ge (a := k) (b := 4) hd (by omega))]
    rw [gR_75_11, Option.bind_some, sI_84 hd, Option.bind_some, gR_75_12, Option.bind_some, sI_85 hd, Option.bind_some, gR_75_13, Option.bind_some, sI_86 hd, Option.bind_some, gR_75_14, Option.bind_some, sI_87 hd, Option.bind_some, gR_75_15, Option.bind_some, sI_88 hd, Option.bind_some, gR_75_16, Option.bind_some, sI_89 hd, Option.bind_some, gR_75_17, Option.bind_some, sI_90 hd, Option.bind_some, gR_75_18, Option.bind_some, sI_91 hd, Option.bind_some, nI_1]
    obtain ⟨A', r1, r2, r3⟩ := ih f (k + 1) (up2 (up2 (up2 (up2 (up2 (up2 (up2 (up2 A 84 k 0) 85 k 0) 86 k 0) 87 k 0) 88 k 0) 89 k 0) 90 k 0) 91 k 0) (by omega) (by omega) (fun c e c1 c2 he => by
      by_cases hek : e = k
      · subst hek
        rcases (show c = 84 ∨ c = 85 ∨ c = 86 ∨ c = 87 ∨ c = 88 ∨ c = 89 ∨ c = 90 ∨ c = 91 by omega) with rfl | rfl | rfl | rfl | rfl | rfl | rfl | rfl <;> simp [up2]
      · rw [up2_ne (by omega), up2_ne (by omega), up2_ne (by omega), up2_ne (by omega), up2_ne (by omega), up2_ne (by omega), up2_ne (by omega), up2_ne (by omega)]
        exact hz c e c1 c2 (by omega))
    refine ⟨A', r1, fun c hc => ?_, r3⟩
    rw [r2 c hc, up2_off (by omega), up2_off (by omega), up2_off (by omega), up2_off (by omega), up2_off (by omega), up2_off (by omega), up2_off (by omega), up2_off (by omega)]
theorem q_fates {v1 : Int32} {m : Nat} (hm : m ≤ 40) (hF : F 75 5 = nI m) : ∀ (j fu k : Nat) (A : Nat → Nat → Int32), j < fu → k + j = m → (∀ e, e < k → A 93 e = 0) → ∃ A', lX7_run_71 75 v1 fu (nI k) (hp F A) = some (hp F A') ∧ (∀ c, c ≠ 93 → A' c = A c) ∧ (∀ e, e < m → A' 93 e = 0) := by
  intro j
  induction j with
  | zero =>
    intro fu k A hf hk hz
    obtain ⟨f, rfl⟩ : ∃ f, fu = f + 1 := ⟨fu - 1, by omega⟩
    refine ⟨A, ?_, fun _ _ => rfl, fun e he => hz e (by omega)⟩
    rw [lX7_run_71, gI_75_5, Option.bind_some, hF, if_pos (nI_le (by omega) (by omega))]
  | succ j ih =>
    intro fu k A hf hk hz
    obtain ⟨f, rfl⟩ : ∃ f, fu = f + 1 := ⟨fu - 1, by omega⟩
    rw [lX7_run_71, gI_75_5, Option.bind_some, hF, if_neg (nI_ge (by omega) (by omega)), gR_75_20, Option.bind_some, sI_93 (by omega), Option.bind_some, nI_1]
    obtain ⟨A', r1, r2, r3⟩ := ih f (k + 1) (up2 A 93 k 0) (by omega) (by omega) (fun e he => by
      by_cases hek : e = k
      · subst hek; rw [up2_eq]
      · rw [up2_ne (by omega)]; exact hz e (by omega))
    exact ⟨A', r1, fun c hc => by rw [r2 c hc, up2_off hc], r3⟩
theorem q_serve {u t : Nat} {v1 : Int32} (hw : wf S) (hu : u ≤ 10000) (ht : t < 2 ^ 31) : ∀ (j fu k q : Nat) (B : bk) (F A : Nat → Nat → Int32), j < fu → k + j = S 75 5 → rg S F A → rr S B F A → bnd S u q B → q + ((List.range' k j).filter (fun r => decide (S 81 r = t))).length ≤ 40 → ∃ F' A', lX7_run_114 75 v1 (nI t) fu (nI k) (hp F A) = some (hp F' A') ∧ frR F A F' A' ∧ rr S (((List.range' k j).filter (fun r => decide (S 81 r = t))).foldl (metN S) B) F' A' := by
  have hm := hw.1
  intro j
  induction j with
  | zero =>
    intro fu k q B F A hf hk hg hr hb hq
    obtain ⟨f, rfl⟩ : ∃ f, fu = f + 1 := ⟨fu - 1, by omega⟩
    refine ⟨F, A, ?_, frR.refl, hr⟩
    rw [lX7_run_114, gI_75_5, Option.bind_some, hg.1, if_pos (nI_le (by omega) (by omega))]
  | succ j ih =>
    intro fu k q B F A hf hk hg hr hb hq
    obtain ⟨f, rfl⟩ : ∃ f, fu = f + 1 := ⟨fu - 1, by omega⟩
    have s81 := (hw.2.2.2.2.2.2 k (by omega)).1
    rw [lX7_run_114, gI_75_5, Option.bind_some, hg.1, if_neg (nI_ge (by omega) (by omega)), gR_75_6, Option.bind_some, aI_81 (by omega), Option.bind_some, (hg.2.2.2.2.2 k (by omega)).1]
    by_cases hc : S 81 k = t
    · have e : (List.range' k (j + 1)).filter (fun r => decide (S 81 r = t)) = k :: (List.range' (k + 1) j).filter (fun r => decide (S 81 r = t)) := by
        rw [List.range'_succ, List.filter_cons, if_pos (by simpa using hc)]
      rw [e] at hq ⊢
      rw [List.length_cons] at hq
      rw [if_pos (by rw [hc]), ob_75, Option.bind_some]
      obtain ⟨F1, A1, k1, k2, k3⟩ := q_meet hw hg hr hb (by omega) hu (show k < S 75 5 by omega)
      rw [k1, Option.bind_some]
      unfold bX7_run_137
      rw [nI_1]
      obtain ⟨F2, A2, l1, l2, l3⟩ := ih f (k + 1) (q + 1) (metN S B k) F1 A1 (by omega) (by omega) (hg.fr k2) k3 (bnd_met hw (by omega) hb) (by omega)
      exact ⟨F2, A2, l1, k2.trans l2, l3⟩
    · have e : (List.range' k (j + 1)).filter (fun r => decide (S 81 r = t)) = (List.range' (k + 1) j).filter (fun r => decide (S 81 r = t)) := by
        rw [List.range'_succ, List.filter_cons, if_neg (by simpa using hc)]
      rw [e] at hq ⊢
      rw [if_neg (fun z => hc ((nI_eq (by omega) ht).mp z))]
      unfold bX7_run_137
      rw [nI_1]
      exact ih f (k + 1) q B F A (by omega) (by omega) hg hr hb hq
/-- what is kept of the tick that is looked at -/
def snB (B : bk) (A : Nat → Nat → Int32) (k : Nat) : Prop := ∀ e, e < k → A 95 (3 * e) = nI (B 85 e) ∧ A 95 (3 * e + 1) + 1 = nI (B 84 e) ∧ A 95 (3 * e + 2) = nI (B 86 e)
theorem rr_pas {d : Nat} (hd : d < 4) (hr : rr S B F A) {A1 : Nat → Nat → Int32} (e1 : A1 = up2 (up2 (up2 A 85 d (nI (lvN S B d))) 86 d (nI (B 86 d + S 77 (4 * d + lvN S B d)))) 84 d (nI (B 84 d + 1))) : rr S (pasN S B d) F A1 := by
  subst e1
  exact rr.upD (rr.upD (rr.upD hr (by omega) rfl) (by omega) rfl) (by omega) rfl
theorem rr.off95 {i : Nat} {x : Int32} (hr : rr S B F A) : rr S B F (up2 A 95 i x) := by
  obtain ⟨r1, r2, r3, r4, r5, r6⟩ := hr
  refine ⟨fun e he => ?_, fun e k he hk => ?_, fun i hi => ?_, fun k hk => ?_, r5, r6⟩
  · simp (disch := omega) only [up2_ne]; exact r1 e he
  · simp (disch := omega) only [up2_ne]; exact r2 e k he hk
  · simp (disch := omega) only [up2_ne]; exact r3 i hi
  · simp (disch := omega) only [up2_ne]; exact r4 k hk
end
