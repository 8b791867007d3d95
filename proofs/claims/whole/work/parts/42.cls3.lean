section
variable {S B : bk} {F A : Nat → Nat → Int32}
theorem upN_comm {B : bk} {a k x b j y : Nat} (h : a ≠ b) : upN (upN B a k x) b j y = upN (upN B b j y) a k x := by
  funext c i
  unfold upN
  by_cases h1 : c = b ∧ i = j <;> by_cases h2 : c = a ∧ i = k <;> simp [h1, h2] <;> omega
theorem bsy_up {c i x d : Nat} (hc : c ≠ 84 ∧ c ≠ 91 ∧ c ≠ 92) : bsyN (upN B c i x) d = upN (bsyN B d) c i x := by
  unfold bsyN
  simp (disch := omega) only [upN_ne]
  split
  · rw [upN_comm (a := c) (b := 92) (by omega), upN_comm (a := c) (b := 91) (by omega), upN_comm (a := c) (b := 84) (by omega)]
  · rw [upN_comm (a := c) (b := 84) (by omega)]
theorem bsy_row {c i d : Nat} (hc : c ≠ 84 ∧ c ≠ 91 ∧ c ≠ 92) : bsyN B d c i = B c i := by
  unfold bsyN
  split
  · simp (disch := omega) only [upN_ne]
  · simp (disch := omega) only [upN_ne]
theorem bsy_cnt {r x d : Nat} : bsyN (cntN S (upN B 93 r x) r) d = upN (cntN S (bsyN B d) r) 93 r x := by
  unfold cntN
  split
  · rw [bsy_up (by omega), bsy_up (by omega), upN_comm (by omega), upN_ne (by omega), bsy_row (by omega)]
  · rw [bsy_up (by omega), bsy_up (by omega), upN_comm (by omega), upN_ne (by omega), bsy_row (by omega)]
theorem p_s90 {u q r x : Nat} {z : Bool} {s0 v6 : Int32} (hw : wf S) (hg : c1 S F A) (hr : cr S B F A) (hb : bnd S u q B) (hq : q < 40) (hu : u ≤ 10000) (hm : r < S 75 5) (hz : (z = true ∧ v6 = 1) ∨ (z = false ∧ v6 = 0)) (hs : (S 83 r = 0 ∧ s0 = 0) ∨ (S 83 r = 1 ∧ s0 = 1)) (hx : x = codN S r z) : ∃ F' A', bX4_serve_90 21 1 (nI r) (nI (S 82 r)) s0 (26 + 2 * S 82 r) v6 (hp F A) = some (hp F' A') ∧ frC F A F' A' ∧ cr S (bsyN (cntN S (upN B 93 r x) r) (S 82 r)) F' A' := by
  have hm40 := hw.1
  obtain ⟨s81, s82, s83⟩ := hw.2.2.2.2.2.2 r (by omega)
  have hd : S 82 r < 4 := by omega
  obtain ⟨F1, A1, k1, k2, k3⟩ := p_busy hw hd hr hb hq hu
  unfold bX4_serve_90
  rw [gR_1_0, Option.bind_some, daR hd, Option.bind_some, dob hd, Option.bind_some, p_rfg hw hg hd, Option.bind_some, cob hd, Option.bind_some, k1, Option.bind_some, bsy_cnt]
  obtain ⟨a0, a1, a2, a3, a4, a5, a6, a8, a9⟩ := k3.1 _ hd
  rcases hs with ⟨hs, rfl⟩ | ⟨hs, rfl⟩
  · rw [if_pos rfl, cgI2 hd, Option.bind_some, a2, nI_1, cpI2 hd, Option.bind_some, gR_21_2, Option.bind_some]
    unfold bX4_serve_166 bX4_serve_167 cntN
    rw [if_pos hs]
    have hr2 := cr.upC (k := 2) (c := 88) (d := S 82 r) (x := bsyN B (S 82 r) 88 (S 82 r) + 1) k3 (by unfold fk; omega) rfl
    have fr2 := k2.trans (frC.upF (A := A1) (c := 26 + 2 * S 82 r) (k := 2) (x := nI (bsyN B (S 82 r) 88 (S 82 r) + 1)) (by omega))
    rcases hz with ⟨rfl, rfl⟩ | ⟨rfl, rfl⟩
    · rw [if_neg n_10, sI_24 (by omega), Option.bind_some]
      exact ⟨_, _, rfl, fr2.trans (frC.upA (by omega)), hr2.upFt (by rw [hx]; unfold codN; rw [if_pos hs]; rfl)⟩
    · rw [if_pos rfl, sI_24 (by omega), Option.bind_some]
      exact ⟨_, _, rfl, fr2.trans (frC.upA (by omega)), hr2.upFt (by rw [hx]; unfold codN; rw [if_pos hs]; rfl)⟩
  · rw [if_neg n_10, cgI3 hd, Option.bind_some, a3, nI_1, cpI3 hd, Option.bind_some, gR_21_2, Option.bind_some]
    unfold bX4_serve_136 bX4_serve_167 cntN
    rw [if_neg (show ¬ S 83 r = 0 by omega)]
    have hr2 := cr.upC (k := 3) (c := 89) (d := S 82 r) (x := bsyN B (S 82 r) 89 (S 82 r) + 1) k3 (by unfold fk; omega) rfl
    have fr2 := k2.trans (frC.upF (A := A1) (c := 26 + 2 * S 82 r) (k := 3) (x := nI (bsyN B (S 82 r) 89 (S 82 r) + 1)) (by omega))
    rcases hz with ⟨rfl, rfl⟩ | ⟨rfl, rfl⟩
    · rw [if_neg n_10, sI_24 (by omega), Option.bind_some]
      exact ⟨_, _, rfl, fr2.trans (frC.upA (by omega)), hr2.upFt (by rw [hx]; unfold codN; rw [if_neg (by omega)]; rfl)⟩
    · rw [if_pos rfl, sI_24 (by omega), Option.bind_some]
      exact ⟨_, _, rfl, fr2.trans (frC.upA (by omega)), hr2.upFt (by rw [hx]; unfold codN; rw [if_neg (by omega)]; rfl)⟩
theorem p_s79 {u q r : Nat} {s0 v6 : Int32} (hw : wf S) (hg : c1 S F A) (hr : cr S B F A) (hb : bnd S u q B) (hq : q < 40) (hu : u ≤ 10000) (hm : r < S 75 5) (hz : (slN B (S 82 r) = true ∧ v6 = 1) ∨ (slN B (S 82 r) = false ∧ v6 = 0)) (hs : (S 83 r = 0 ∧ s0 = 0) ∨ (S 83 r = 1 ∧ s0 = 1)) (hc : ¬ (S 83 r = 1 ∧ slN B (S 82 r) = true ∧ B 75 22 < S 75 10)) : ∃ F' A', bX4_serve_79 21 1 (nI r) (nI (S 82 r)) s0 (26 + 2 * S 82 r) v6 (hp F A) = some (hp F' A') ∧ frC F A F' A' ∧ cr S (metN S B r) F' A' := by
  have hm40 := hw.1
  obtain ⟨s81, s82, s83⟩ := hw.2.2.2.2.2.2 r (by omega)
  have hd : S 82 r < 4 := by omega
  unfold metN bX4_serve_79
  rw [if_neg hc]
  rcases hz with ⟨hz, rfl⟩ | ⟨hz, rfl⟩
  · obtain ⟨F1, A1, k1, k2, k3⟩ := p_wake hw hg hd hr hb
    obtain ⟨w1, w2, w3⟩ := wak_ok (S := S) (B := B) (d := S 82 r)
    have b22 := hb.2.2.1
    have hb1 : bnd S u q (wakN S B (S 82 r)) := by
      refine bnd_of hb (fun c i hc => w2 c i (by omega) (by omega) (by omega) (by omega) (by omega)) (by omega) ?_ (w3 _ hb.2.2.2.2)
      rw [w2 75 23 (by omega) (by omega) (by omega) (by omega) (by omega)]; exact hb.2.2.2.1
    rw [if_neg n_10, ob_21, Option.bind_some, k1, Option.bind_some, hz, if_pos rfl]
    obtain ⟨F', A', e1, e2, e3⟩ := p_s90 (z := true) (v6 := 1) hw (hg.fr k2) k3 hb1 hq hu hm (Or.inl ⟨rfl, rfl⟩) hs rfl
    exact ⟨F', A', e1, k2.trans e2, e3⟩
  · rw [if_pos rfl, hz, if_neg (by decide)]
    exact p_s90 (z := false) (v6 := 0) hw hg hr hb hq hu hm (Or.inr ⟨rfl, rfl⟩) hs rfl
theorem p_s28 {u q r : Nat} {s0 : Int32} (hw : wf S) (hg : c1 S F A) (hr : cr S B F A) (hb : bnd S u q B) (hq : q < 40) (hu : u ≤ 10000) (hm : r < S 75 5) (hs : (S 83 r = 0 ∧ s0 = 0) ∨ (S 83 r = 1 ∧ s0 = 1)) : ∃ F' A', bX4_serve_28 21 1 (nI r) (nI (S 82 r)) s0 (hp F A) = some (hp F' A') ∧ frC F A F' A' ∧ cr S (metN S B r) F' A' := by
  have hm40 := hw.1
  obtain ⟨s81, s82, s83⟩ := hw.2.2.2.2.2.2 r (by omega)
  have hd : S 82 r < 4 := by omega
  have hroom := hw.2.2.1
  have b22 := hb.2.2.1
  have r5 := hr.2.2.2.2.1
  unfold bX4_serve_28
  rw [gR_21_0, Option.bind_some, caR hd, Option.bind_some, cob hd, Option.bind_some, p_sleeps hd hr hb hw hu, Option.bind_some]
  cases hz : slN B (S 82 r)
  · rw [if_neg (by decide : ¬ (false = true))]
    have := p_s79 (s0 := s0) (v6 := 0) hw hg hr hb hq hu hm (Or.inr ⟨hz, rfl⟩) hs (by rw [hz]; simp)
    rw [if_pos (rfl : (0 : Int32) = 0)]
    split <;> exact this
  · rw [if_pos (rfl : true = true)]
    rcases hs with ⟨hs, rfl⟩ | ⟨hs, rfl⟩
    · rw [if_pos rfl]
      exact p_s79 (s0 := 0) (v6 := 1) hw hg hr hb hq hu hm (Or.inl ⟨hz, rfl⟩) (Or.inl ⟨hs, rfl⟩) (by omega)
    · rw [if_neg n_10, if_neg n_10, gI_21_4, Option.bind_some, r5, gI_1_3, Option.bind_some, hg.2.1, show (8 : Int32) = nI 8 from rfl, mnN (by omega) (by omega), show min (S 75 10) 8 = S 75 10 by omega]
      by_cases hc : B 75 22 < S 75 10
      · rw [if_neg (nI_ge hc (by omega)), ob_21, Option.bind_some]
        obtain ⟨F', A', e1, e2, e3⟩ := p_enter hw hr hb hm (by omega)
        rw [e1, Option.bind_some]
        refine ⟨F', A', rfl, e2, ?_⟩
        unfold metN
        rw [if_pos ⟨hs, hz, hc⟩]
        exact e3
      · rw [if_pos (nI_le (by omega) (by omega))]
        exact p_s79 (s0 := 1) (v6 := 1) hw hg hr hb hq hu hm (Or.inl ⟨hz, rfl⟩) (Or.inr ⟨hs, rfl⟩) (by omega)
theorem p_serve {u q r : Nat} (hw : wf S) (hg : c1 S F A) (hr : cr S B F A) (hb : bnd S u q B) (hq : q < 40) (hu : u ≤ 10000) (hm : r < S 75 5) : ∃ F' A', fX4_serve (hp F A) 21 1 (nI r) = some (hp F' A') ∧ frC F A F' A' ∧ cr S (metN S B r) F' A' := by
  have hm40 := hw.1
  obtain ⟨s81, s82, s83⟩ := hw.2.2.2.2.2.2 r (by omega)
  obtain ⟨a81, a82, a83⟩ := hg.2.2.2.1 r (by omega)
  unfold fX4_serve
  rw [gR_1_1, Option.bind_some, gR_3_1, Option.bind_some, aI_5 (by omega), Option.bind_some, a82, Option.bind_some, gR_3_2, Option.bind_some, aI_6 (by omega), Option.bind_some, a83]
  by_cases h1 : S 83 r = 1
  · rw [if_pos (by rw [h1]; rfl)]
    exact p_s28 hw hg hr hb hq hu hm (Or.inr ⟨h1, rfl⟩)
  · rw [if_neg (ne_c (x := 1) 1 rfl (by omega) (by omega) h1)]
    exact p_s28 hw hg hr hb hq hu hm (Or.inl ⟨by omega, rfl⟩)
theorem p_pass {u q d : Nat} (hw : wf S) (hg : c1 S F A) (hr : cr S B F A) (hb : bnd S u q B) (hu : u ≤ 10000) (hd : d < 4) : ∃ F', fX0_passTick (hp F A) (26 + 2 * d) (7 + 3 * d) = some (hp F' A) ∧ frC F A F' A ∧ cr S (pasN S B d) F' A := by
  have w1 := (hw.2.2.2.1 d hd).1
  have hl := lv_le (S := S) (B := B) (d := d)
  obtain ⟨a0, a1, a2, a3, a4, a5, a6, a8, a9⟩ := hr.1 d hd
  unfold fX0_passTick
  rw [cgI5 hd, Option.bind_some, a5, cgI9 hd, Option.bind_some, a9, dob hd, Option.bind_some, p_level hw hg hd hb hu, Option.bind_some, cpI6 hd, Option.bind_some, cgI0 hd, Option.bind_some, up2_ne (by omega), a0, dgR0 hd, Option.bind_some, cgI6 hd, Option.bind_some, up2_eq, daP hd (by omega), Option.bind_some, (hg.2.2.2.2.2 d _ hd (by omega)).1, nI_add, cpI0 hd, Option.bind_some, cgI5 hd, Option.bind_some, up2_ne (by omega), up2_ne (by omega), a5, nI_1, cpI5 hd, Option.bind_some]
  refine ⟨_, rfl, ?_, ?_⟩
  · exact (frC.upF (by omega)).trans ((frC.upF (by omega)).trans (frC.upF (by omega)))
  · unfold pasN
    exact cr.upC (cr.upC (cr.upC hr (by unfold fk; omega) rfl) (by unfold fk; omega) rfl) (by unfold fk; omega) rfl
theorem p_passes {v2 v3 : Int32} (hw : wf S) : ∀ (j fu k u : Nat) (B : bk) (F : Nat → Nat → Int32), j < fu → k + j = 4 → c1 S F A → cr S B F A → bnd S u 40 B → u + j ≤ 10000 → ∃ F', lX4_goOnTo_42 21 1 v2 v3 fu (nI k) (hp F A) = some (hp F' A) ∧ frC F A F' A ∧ cr S ((List.range' k j).foldl (pasN S) B) F' A := by
  intro j
  induction j with
  | zero =>
    intro fu k u B F hf hk hg hr hb hu
    obtain ⟨f, rfl⟩ : ∃ f, fu = f + 1 := ⟨fu - 1, by omega⟩
    have hk4 : k = 4 := by omega
    subst hk4
    exact ⟨F, by rw [lX4_goOnTo_42, if_pos (by decide)], frC.refl, hr⟩
  | succ j ih =>
    intro fu k u B F hf hk hg hr hb hu
    obtain ⟨f, rfl⟩ : ∃ f, fu = f + 1 := ⟨fu - 1, by omega⟩
    have hd : k < 4 := by omega
    obtain ⟨F1, k1, k2, k3⟩ := p_pass hw hg hr hb (by omega) hd
    obtain ⟨F2, l1, l2, l3⟩ := ih f (k + 1) (u + 1) (pasN S B k) F1 (by omega) (by omega) (hg.fr k2) k3 (bnd_pas hb) (by omega)
    refine ⟨F2, ?_, k2.trans l2, ?_⟩
    · rw [lX4_goOnTo_42, if_neg (show ¬ (4 : Int32) ≤ nI k from nI_ge (a := k) (b := 4) hd (by omega)), gR_21_0, Option.bind_some, caR hd, Option.bind_some, gR_1_0, Option.bind_some, daR hd, Option.bind_some, cob hd, Option.bind_some, k1, Option.bind_some, nI_1]
      exact l1
    · rw [List.range'_succ, List.foldl_cons]; exact l3
end
