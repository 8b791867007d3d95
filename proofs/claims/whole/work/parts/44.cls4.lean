def frG (F A F' A' : Nat → Nat → Int32) : Prop := (∀ c, ¬ (c = 21 ∨ (26 ≤ c ∧ c ≤ 33)) → F' c = F c) ∧ (∀ c, ¬ (23 ≤ c ∧ c ≤ 33) → A' c = A c)
theorem frG.refl {F A : Nat → Nat → Int32} : frG F A F A := ⟨fun _ _ => rfl, fun _ _ => rfl⟩
theorem frG.trans {F A F' A' F2 A2 : Nat → Nat → Int32} (h : frG F A F' A') (h2 : frG F' A' F2 A2) : frG F A F2 A2 :=
  ⟨fun c hc => (h2.1 c hc).trans (h.1 c hc), fun c hc => (h2.2 c hc).trans (h.2 c hc)⟩
theorem frC.g {F A F' A' : Nat → Nat → Int32} (h : frC F A F' A') : frG F A F' A' := ⟨h.1, fun c hc => h.2.2 c (by omega)⟩
theorem frG.up {F A : Nat → Nat → Int32} {k : Nat} {x : Int32} : frG F A (up2 F 21 k x) A := ⟨fun e he => up2_off (by omega), fun _ _ => rfl⟩
theorem c1.frg {S : bk} {F A F' A' : Nat → Nat → Int32} (h : c1 S F A) (f : frG F A F' A') : c1 S F' A' := h.of (fun c hc => f.1 c (by omega)) (fun c hc => f.2 c (by omega))
def rcs (S : bk) (t : Nat) (F A : Nat → Nat → Int32) : Prop := cr S (runN S t) F A ∧ (∃ L, od S (S 75 5) L ∧ oa L A 23) ∧ F 21 6 = nI (cq S t)
theorem cr.up21 {S B : bk} {F A : Nat → Nat → Int32} {k : Nat} {x : Int32} (hr : cr S B F A) (hk : k ≠ 4 ∧ k ≠ 5) : cr S B (up2 F 21 k x) A := by
  obtain ⟨r1, r2, r3, r4, r5, r6⟩ := hr
  refine ⟨fun e he => ?_, r2, r3, r4, ?_, ?_⟩
  · simp (disch := omega) only [up2_ne]; exact r1 e he
  · rw [up2_ne (by omega)]; exact r5
  · rw [up2_ne (by omega)]; exact r6
theorem cq_0 (S : bk) : cq S 0 = 0 := by
  unfold cq
  have e : ∀ l : List Nat, l.filter (fun r => decide (S 81 r < 0)) = [] := fun l => List.filter_eq_nil_iff.mpr (fun x _ => by simp)
  rw [e]
  rfl
section
variable {S B : bk} {F A : Nat → Nat → Int32}
/-- a course at its beginning -/
def cz (F : Nat → Nat → Int32) (d : Nat) : Prop := F (26 + 2 * d) 0 = 0 ∧ F (26 + 2 * d) 1 = 0 ∧ F (26 + 2 * d) 2 = 0 ∧ F (26 + 2 * d) 3 = 0 ∧ F (26 + 2 * d) 4 = 0 ∧ F (26 + 2 * d) 5 = 0 ∧ F (26 + 2 * d) 6 = 0 ∧ F (26 + 2 * d) 8 = 0 ∧ F (26 + 2 * d) 9 = -6
theorem p_b1 {d : Nat} (hd : d < 4) : ∃ F', fX0_begin (hp F A) (26 + 2 * d) = some (hp F' A) ∧ (∀ c, c ≠ 26 + 2 * d → F' c = F c) ∧ cz F' d := by
  unfold fX0_begin
  rw [cpI0 hd, Option.bind_some, cpI1 hd, Option.bind_some, cpI2 hd, Option.bind_some, cpI3 hd, Option.bind_some, cpI4 hd, Option.bind_some, cpI5 hd, Option.bind_some, cpI6 hd, Option.bind_some, cpI8 hd, Option.bind_some, cpI9 hd, Option.bind_some]
  refine ⟨_, rfl, fun c hc => ?_, ?_⟩
  · rw [up2_off hc, up2_off hc, up2_off hc, up2_off hc, up2_off hc, up2_off hc, up2_off hc, up2_off hc, up2_off hc]
  · unfold cz
    simp [up2]
theorem p_bl1 : ∀ (j fu k : Nat) (F : Nat → Nat → Int32), j < fu → k + j = 4 → (∀ d, d < k → cz F d) → ∃ F', lX4_begin_2 21 3 fu (nI k) (hp F A) = some (hp F' A) ∧ (∀ c, ¬ (26 ≤ c ∧ c ≤ 33) → F' c = F c) ∧ (∀ d, d < 4 → cz F' d) := by
  intro j
  induction j with
  | zero =>
    intro fu k F hf hk hz
    obtain ⟨f, rfl⟩ : ∃ f, fu = f + 1 := ⟨fu - 1, by omega⟩
    have hk4 : k = 4 := by omega
    subst hk4
    exact ⟨F, by rw [lX4_begin_2, if_pos (by decide)], fun _ _ => rfl, hz⟩
  | succ j ih =>
    intro fu k F hf hk hz
    obtain ⟨f, rfl⟩ : ∃ f, fu = f + 1 := ⟨fu - 1, by omega⟩
    have hd : k < 4 := by omega
    obtain ⟨F1, k1, k2, k3⟩ := p_b1 (F := F) (A := A) hd
    obtain ⟨F2, l1, l2, l3⟩ := ih f (k + 1) F1 (by omega) (by omega) (fun d hd2 => by
      by_cases e : d = k
      · subst e; exact k3
      · have := hz d (by omega)
        unfold cz at this ⊢
        rw [k2 _ (by omega)]
        exact this)
    refine ⟨F2, ?_, fun c hc => by rw [l2 c hc, k2 c (by omega)], l3⟩
    rw [lX4_begin_2, if_neg (show ¬ (4 : Int32) ≤ nI k from nI_ge (a := k) (b := 4) hd (by omega)), gR_21_0, Option.bind_some, caR hd, Option.bind_some, cob hd, Option.bind_some, k1, Option.bind_some, nI_1]
    exact l1
theorem p_bl2 : ∀ (j fu k : Nat) (A : Nat → Nat → Int32), j < fu → k + j = 40 → (∀ e, e < k → A 24 e = 0) → ∃ A', lX4_begin_24 21 3 fu (nI k) (hp F A) = some (hp F A') ∧ (∀ c, c ≠ 24 → A' c = A c) ∧ (∀ e, e < 40 → A' 24 e = 0) := by
  intro j
  induction j with
  | zero =>
    intro fu k A hf hk hz
    obtain ⟨f, rfl⟩ : ∃ f, fu = f + 1 := ⟨fu - 1, by omega⟩
    have hk4 : k = 40 := by omega
    subst hk4
    exact ⟨A, by rw [lX4_begin_24, if_pos (by decide)], fun _ _ => rfl, hz⟩
  | succ j ih =>
    intro fu k A hf hk hz
    obtain ⟨f, rfl⟩ : ∃ f, fu = f + 1 := ⟨fu - 1, by omega⟩
    obtain ⟨A', r1, r2, r3⟩ := ih f (k + 1) (up2 A 24 k 0) (by omega) (by omega) (fun e he => by
      by_cases hek : e = k
      · subst hek; rw [up2_eq]
      · rw [up2_ne (by omega)]; exact hz e (by omega))
    refine ⟨A', ?_, fun c hc => by rw [r2 c hc, up2_off hc], r3⟩
    rw [lX4_begin_24, if_neg (show ¬ (40 : Int32) ≤ nI k from nI_ge (a := k) (b := 40) (by omega) (by omega)), gR_21_2, Option.bind_some, sI_24 (by omega), Option.bind_some, nI_1]
    exact r1
theorem p_begin (hw : wf S) (hg : c1 S F A) : ∃ F' A', fX4_begin (hp F A) 21 3 = some (hp F' A') ∧ frG F A F' A' ∧ rcs S 0 F' A' ∧ F' 21 7 = nI 0 ∧ F' 21 8 = 0 := by
  have hm := hw.1
  obtain ⟨F1, a1, a2, a3⟩ := p_bl1 (A := A) 4 ab_fu 0 F (by unfold ab_fu; omega) (by omega) (fun d h => absurd h (Nat.not_lt_zero _))
  obtain ⟨A1, b1, b2, b3⟩ := p_bl2 (F := F1) 40 ab_fu 0 A (by unfold ab_fu; omega) (by omega) (fun d h => absurd h (Nat.not_lt_zero _))
  have hg1 : c1 S F1 A1 := hg.of (fun c hc => a2 c (by omega)) (fun c hc => b2 c (by omega))
  obtain ⟨L, A2, d1, d2, d3, d4⟩ := p_ord (R := 23) hw hg1 (by decide +kernel) (by decide)
  unfold fX4_begin
  rw [show (nI 0) = (0 : Int32) from rfl] at a1 b1
  rw [a1, Option.bind_some, b1, Option.bind_some, gR_21_1, Option.bind_some, ob_3, Option.bind_some, d1, Option.bind_some, pI_21_4, Option.bind_some, pI_21_5, Option.bind_some, pI_21_6, Option.bind_some, pI_21_7, Option.bind_some, pI_21_8, Option.bind_some]
  refine ⟨_, _, rfl, ?_, ⟨?_, ⟨L, d3, d4⟩, ?_⟩, ?_, ?_⟩
  · refine ⟨fun c hc => ?_, fun c hc => by rw [d2 c (by omega), b2 c (by omega)]⟩
    rw [up2_off (by omega), up2_off (by omega), up2_off (by omega), up2_off (by omega), up2_off (by omega), a2 c (by omega)]
  · refine cr.up21 (cr.up21 (cr.up21 ?_ (by decide)) (by decide)) (by decide)
    refine ⟨fun e he => ?_, fun e k he hk => absurd hk (Nat.not_lt_zero _), fun i hi => ?_, fun k hk => absurd hk (Nat.not_lt_zero _), ?_, ?_⟩
    · simp (disch := omega) only [up2_ne]
      exact a3 e he
    · rw [d2 24 (by decide)]; exact b3 i (by omega)
    · rw [up2_ne (by omega), up2_eq]; rfl
    · rw [up2_eq]; rfl
  · rw [up2_ne (by omega), up2_ne (by omega), up2_eq, cq_0]; rfl
  · rw [up2_ne (by omega), up2_eq]; rfl
  · rw [up2_eq]
theorem p_sl {u t : Nat} (hw : wf S) (hu : u ≤ 10000) (ht : t < 2 ^ 31) {L tl : List Nat} (hL : od S (S 75 5) L) (htl : ∀ x ∈ tl, S 81 x ≠ t) : ∀ (rs : List Nat) (fu i q : Nat) (B : bk) (F A : Nat → Nat → Int32), rs.length < fu → L.drop i = rs ++ tl → i ≤ S 75 5 → (∀ x ∈ rs, S 81 x = t) → c1 S F A → cr S B F A → oa L A 23 → bnd S u q B → q + rs.length ≤ 40 →
    ∃ F' A', lX4_serveAllOf_11 21 1 (nI t) 3 fu (nI i) (hp F A) = some (nI (i + rs.length), hp F' A') ∧ frC F A F' A' ∧ cr S (rs.foldl (metN S) B) F' A' := by
  have hm := hw.1
  have hl := hL.1
  intro rs
  induction rs with
  | nil =>
    intro fu i q B F A hf hd hi hrs hg hr ho hb hq
    obtain ⟨f, rfl⟩ : ∃ f, fu = f + 1 := ⟨fu - 1, by simp at hf; omega⟩
    refine ⟨F, A, ?_, frC.refl, hr⟩
    rw [lX4_serveAllOf_11, gI_3_3, Option.bind_some, hg.2.2.1]
    by_cases hc : S 75 5 ≤ i
    · rw [if_pos (nI_le hc (by omega))]; rfl
    · rw [if_neg (nI_ge (by omega) (by omega))]
      have hil : i < L.length := by omega
      have e1 : L[i]? = some L[i] := List.getElem?_eq_getElem hil
      have hx := hL.2.1 _ (List.getElem_mem hil)
      have hmem : L[i] ∈ tl := by
        have : L.drop i = L[i] :: L.drop (i + 1) := List.drop_eq_getElem_cons hil
        rw [hd, List.nil_append] at this
        rw [this]
        exact List.mem_cons_self
      have s1 := (hw.2.2.2.2.2.2 L[i] (by omega)).1
      rw [gR_3_0, Option.bind_some, gR_21_1, Option.bind_some, aI_23 (by omega), Option.bind_some, ho i _ e1, aI_4 (by omega), Option.bind_some, (hg.2.2.2.1 _ (by omega)).1, if_neg (fun z => htl _ hmem ((nI_eq (by omega) ht).mp z))]
      rfl
  | cons r rs ih =>
    intro fu i q B F A hf hd hi hrs hg hr ho hb hq
    obtain ⟨f, rfl⟩ : ∃ f, fu = f + 1 := ⟨fu - 1, by simp at hf; omega⟩
    rw [List.length_cons] at hf hq
    have hil : i < L.length := by
      rcases Nat.lt_or_ge i L.length with h | h
      · exact h
      · rw [List.drop_eq_nil_of_le h] at hd
        cases hd
    have hdc : L.drop i = L[i] :: L.drop (i + 1) := List.drop_eq_getElem_cons hil
    rw [hd, List.cons_append] at hdc
    injection hdc with hr0 hd1
    have e1 : L[i]? = some r := by rw [hr0]; exact List.getElem?_eq_getElem hil
    have hx : r < S 75 5 := by rw [hr0]; exact hL.2.1 _ (List.getElem_mem hil)
    have hrt := hrs r List.mem_cons_self
    have s1 := (hw.2.2.2.2.2.2 r (by omega)).1
    obtain ⟨F1, A1, k1, k2, k3⟩ := p_serve hw hg hr hb (by omega) hu hx
    obtain ⟨F2, A2, l1, l2, l3⟩ := ih f (i + 1) (q + 1) (metN S B r) F1 A1 (by omega) hd1.symm (by omega) (fun x hx => hrs x (List.mem_cons_of_mem _ hx)) (hg.fr k2) k3 (fun j x hx => by rw [k2.2.2 23 (by decide)]; exact ho j x hx) (bnd_met hw hx hb) (by omega)
    refine ⟨F2, A2, ?_, k2.trans l2, l3⟩
    rw [lX4_serveAllOf_11, gI_3_3, Option.bind_some, hg.2.2.1, if_neg (nI_ge (by omega) (by omega)), gR_3_0, Option.bind_some, gR_21_1, Option.bind_some, aI_23 (by omega), Option.bind_some, ho i _ e1, aI_4 (by omega), Option.bind_some, (hg.2.2.2.1 _ (by omega)).1, if_pos (by rw [hrt]), Option.bind_some, aI_23 (by omega), Option.bind_some, ho i _ e1, ob_21, Option.bind_some, k1, Option.bind_some, nI_1, List.length_cons, show i + (rs.length + 1) = i + 1 + rs.length by omega]
    exact l1
theorem p_tick {t : Nat} {v2 : Int32} (hw : wf S) (ht : t ≤ 1000) (hg : c1 S F A) (hr : rcs S t F A) : ∃ h1 F' A', fX4_serveAllOf (hp F A) 21 1 (nI t) = some h1 ∧ lX4_goOnTo_42 21 1 v2 (nI t) ab_fu 0 h1 = some (hp F' A') ∧ frG F A F' A' ∧ rcs S (t + 1) F' A' ∧ F' 21 7 = F 21 7 ∧ F' 21 8 = F 21 8 := by
  have hm := hw.1
  obtain ⟨hcr, ⟨L, hL, hoa⟩, h6⟩ := hr
  have hb := bnd_run hw t
  have hq1 := cq_s S t
  have hq2 := cq_le S (t + 1)
  obtain ⟨F1, A1, k1, k2, k3⟩ := p_sl (u := 4 * t) (t := t) hw (by omega) (by omega) hL (tl := L.filter (fun r => decide (t < S 81 r))) (fun x hx => by
    have := (List.mem_filter.mp hx).2
    simp at this
    omega) (rqN S t) ab_fu (cq S t) (cq S t) (runN S t) F A (by unfold ab_fu; omega) (od_drop hL t) (cq_le S t) (fun x hx => by
    unfold rqN at hx
    simp at hx
    exact hx.2) hg hcr hoa hb (by omega)
  rw [← hq1] at k1
  have k4 : cr S (srvN S t (runN S t)) (up2 F1 21 6 (nI (cq S (t + 1)))) A1 := cr.up21 k3 (by decide)
  have hb1 := bnd_wk (bnd_srv (t := t) hw hb) (Nat.le_refl _) (show _ ≤ 40 by omega)
  have hg1 : c1 S (up2 F1 21 6 (nI (cq S (t + 1)))) A1 := (hg.fr k2).of (fun c hc => up2_off (by omega)) (fun _ _ => rfl)
  obtain ⟨F2, l1, l2, l3⟩ := p_passes (A := A1) (v2 := v2) (v3 := nI t) hw 4 ab_fu 0 (4 * t) (srvN S t (runN S t)) _ (by unfold ab_fu; omega) (by omega) hg1 k4 hb1 (by omega)
  rw [tck_eq] at l3
  refine ⟨hp (up2 F1 21 6 (nI (cq S (t + 1)))) A1, F2, A1, ?_, l1, k2.g.trans (frG.up.trans l2.g), ⟨l3, ⟨L, hL, fun j x hx => by rw [k2.2.2 23 (by decide)]; exact hoa j x hx⟩, ?_⟩, ?_, ?_⟩
  · unfold fX4_serveAllOf bX4_serveAllOf_54
    rw [gR_1_1, Option.bind_some, gI_21_6, Option.bind_some, h6, k1, Option.bind_some, pI_21_6, Option.bind_some]
  · rw [l2.2.1 6 (by decide), up2_eq]
  · rw [l2.2.1 7 (by decide), up2_ne (by omega), k2.2.1 7 (by decide)]
  · rw [l2.2.1 8 (by decide), up2_ne (by omega), k2.2.1 8 (by decide)]
theorem p_go_l {T : Nat} (hw : wf S) (hT : T ≤ 1000) : ∀ (j fu t : Nat) (F A : Nat → Nat → Int32), j < fu → t + j = T → c1 S F A → rcs S t F A → ∃ F' A', lX4_goOnTo_28 21 1 (nI T) fu (nI t) (hp F A) = some (hp F' A') ∧ frG F A F' A' ∧ rcs S T F' A' ∧ F' 21 8 = F 21 8 := by
  intro j
  induction j with
  | zero =>
    intro fu t F A hf ht hg hr
    obtain ⟨f, rfl⟩ : ∃ f, fu = f + 1 := ⟨fu - 1, by omega⟩
    have e : t = T := by omega
    subst e
    exact ⟨F, A, by rw [lX4_goOnTo_28, if_pos (nI_le (Nat.le_refl _) (by omega))], frG.refl, hr, rfl⟩
  | succ j ih =>
    intro fu t F A hf ht hg hr
    obtain ⟨f, rfl⟩ : ∃ f, fu = f + 1 := ⟨fu - 1, by omega⟩
    obtain ⟨h1, F1, A1, k1, k2, k3, k4, k5, k6⟩ := p_tick (v2 := nI T) hw (show t ≤ 1000 by omega) hg hr
    obtain ⟨F2, A2, l1, l2, l3, l4⟩ := ih f (t + 1) F1 A1 (by omega) (by omega) (hg.frg k3) k4
    refine ⟨F2, A2, ?_, k3.trans l2, l3, l4.trans k6⟩
    rw [lX4_goOnTo_28, if_neg (nI_ge (by omega) (by omega)), ob_21, Option.bind_some, k1, Option.bind_some, k2, Option.bind_some, nI_1]
    exact l1
/-- the cache: stale, or the run as far as it has gone -/
def ca (S : bk) (F A : Nat → Nat → Int32) : Prop := F 21 8 = 1 ∨ (F 21 8 = 0 ∧ ∃ t, t ≤ 1000 ∧ F 21 7 = nI t ∧ rcs S t F A)
theorem p_go {T : Nat} (hw : wf S) (hT : T ≤ 1000) (hg : c1 S F A) (hc : ca S F A) : ∃ F' A', fX4_goOnTo (hp F A) 21 1 (nI T) = some (hp F' A') ∧ frG F A F' A' ∧ rcs S T F' A' ∧ F' 21 8 = 0 ∧ F' 21 7 = nI T := by
  have b23 : ∀ (t : Nat) (F A : Nat → Nat → Int32), t ≤ T → c1 S F A → rcs S t F A → F 21 7 = nI t → F 21 8 = 0 → ∃ F' A', bX4_goOnTo_23 21 1 (nI T) (hp F A) = some (hp F' A') ∧ frG F A F' A' ∧ rcs S T F' A' ∧ F' 21 8 = 0 ∧ F' 21 7 = nI T := by
    intro t F A ht hg hr h7 h8
    obtain ⟨F1, A1, k1, k2, k3, k4⟩ := p_go_l hw hT (T - t) ab_fu t F A (by unfold ab_fu; omega) (by omega) hg hr
    unfold bX4_goOnTo_23
    rw [gI_21_7, Option.bind_some, h7, k1, Option.bind_some, pI_21_7, Option.bind_some]
    refine ⟨_, _, rfl, k2.trans frG.up, ⟨cr.up21 k3.1 (by decide), k3.2.1, ?_⟩, ?_, ?_⟩
    · rw [up2_ne (by omega)]; exact k3.2.2
    · rw [up2_ne (by omega), k4, h8]
    · rw [up2_eq]
  have b15 : ∃ F' A', bX4_goOnTo_15 21 1 (nI T) (hp F A) = some (hp F' A') ∧ frG F A F' A' ∧ rcs S T F' A' ∧ F' 21 8 = 0 ∧ F' 21 7 = nI T := by
    obtain ⟨F1, A1, k1, k2, k3, k4, k5⟩ := p_begin hw hg
    obtain ⟨F2, A2, l1, l2, l3⟩ := b23 0 F1 A1 (Nat.zero_le _) (hg.frg k2) k3 k4 k5
    unfold bX4_goOnTo_15
    rw [gR_1_1, Option.bind_some, ob_21, Option.bind_some, k1, Option.bind_some]
    exact ⟨F2, A2, l1, k2.trans l2, l3⟩
  unfold fX4_goOnTo
  rw [gI_21_8, Option.bind_some]
  rcases hc with h8 | ⟨h8, t, ht, h7, hr⟩
  · rw [h8, if_neg n_10]
    exact b15
  · rw [h8, if_pos rfl, gI_21_7, Option.bind_some, h7]
    by_cases hc : t ≤ T
    · rw [if_pos (nI_le hc (by omega))]
      exact b23 t F A hc hg hr h7 h8
    · rw [if_neg (nI_ge (by omega) (by omega))]
      exact b15
end
