def gn (S : bk) (d : Nat) : Nat := if S 79 d = 3 then S 80 d else 4
def gsI (S B : bk) (d : Nat) : Int32 := if B 91 d = 0 then -6 else nI (menN B d (gn S d))
def cr (S B : bk) (F A : Nat → Nat → Int32) : Prop :=
  (∀ d, d < 4 → F (26 + 2 * d) 0 = nI (B 86 d) ∧ F (26 + 2 * d) 1 = nI (B 87 d) ∧ F (26 + 2 * d) 2 = nI (B 88 d) ∧ F (26 + 2 * d) 3 = nI (B 89 d) ∧ F (26 + 2 * d) 4 = nI (B 90 d) ∧ F (26 + 2 * d) 5 = nI (B 84 d) ∧ F (26 + 2 * d) 6 = nI (B 85 d) ∧ F (26 + 2 * d) 8 = nI (B 91 d) ∧ F (26 + 2 * d) 9 = gsI S B d) ∧
  (∀ d k, d < 4 → k < B 91 d → A (27 + 2 * d) k = nI (B 92 (40 * d + k))) ∧ (∀ i, i < S 75 5 → A 24 i = nI (B 93 i)) ∧ (∀ k, k < B 75 22 → A 25 k = nI (B 94 k)) ∧ F 21 4 = nI (B 75 22) ∧ F 21 5 = nI (B 75 23)
def frC (F A F' A' : Nat → Nat → Int32) : Prop := (∀ c, ¬ (c = 21 ∨ (26 ≤ c ∧ c ≤ 33)) → F' c = F c) ∧ (∀ k, k = 6 ∨ k = 7 ∨ k = 8 → F' 21 k = F 21 k) ∧ (∀ c, ¬ (24 ≤ c ∧ c ≤ 33) → A' c = A c)
theorem frC.refl {F A : Nat → Nat → Int32} : frC F A F A := ⟨fun _ _ => rfl, fun _ _ => rfl, fun _ _ => rfl⟩
theorem frC.trans {F A F' A' F2 A2 : Nat → Nat → Int32} (h : frC F A F' A') (h2 : frC F' A' F2 A2) : frC F A F2 A2 :=
  ⟨fun c hc => (h2.1 c hc).trans (h.1 c hc), fun k k1 => (h2.2.1 k k1).trans (h.2.1 k k1), fun c hc => (h2.2.2 c hc).trans (h.2.2 c hc)⟩
theorem frC.upA {F A : Nat → Nat → Int32} {c i : Nat} {x : Int32} (hc : 24 ≤ c ∧ c ≤ 33) : frC F A F (up2 A c i x) := ⟨fun _ _ => rfl, fun _ _ => rfl, fun e he => up2_off (by omega)⟩
theorem frC.upF {F A : Nat → Nat → Int32} {c k : Nat} {x : Int32} (hc : 26 ≤ c ∧ c ≤ 33) : frC F A (up2 F c k x) A := ⟨fun e he => up2_off (by omega), fun j hj => up2_ne (by omega), fun _ _ => rfl⟩
theorem frC.upR {F A : Nat → Nat → Int32} {k : Nat} {x : Int32} (hk : k = 4 ∨ k = 5) : frC F A (up2 F 21 k x) A := ⟨fun e he => up2_off (by omega), fun j hj => up2_ne (by omega), fun _ _ => rfl⟩
/-- the class's setup that is in use, in plain numbers -/
def c1 (S : bk) (F A : Nat → Nat → Int32) : Prop :=
  F 1 2 = nI (S 75 9) ∧ F 1 3 = nI (S 75 10) ∧ F 3 3 = nI (S 75 5) ∧
  (∀ i, i < 40 → A 4 i = nI (S 81 i) ∧ A 5 i = nI (S 82 i) ∧ A 6 i = nI (S 83 i)) ∧
  (∀ d, d < 4 → F (7 + 3 * d) 2 = nI (S 76 d) ∧ F (7 + 3 * d) 3 = nI (S 79 d) ∧ (S 79 d = 1 ∨ S 79 d = 3 → F (7 + 3 * d) 4 = nI (S 80 d))) ∧
  (∀ d l, d < 4 → l < 4 → A (8 + 3 * d) l = nI (S 77 (4 * d + l)) ∧ A (9 + 3 * d) l = nI (S 78 (4 * d + l)))
theorem cg.c1 {S : bk} {F A : Nat → Nat → Int32} (h : cg 1 S F A) : c1 S F A := h
theorem c1.cg {S : bk} {F A : Nat → Nat → Int32} (h : c1 S F A) : cg 1 S F A := h
theorem c1.of {S : bk} {F A F' A' : Nat → Nat → Int32} (h : c1 S F A) (f : ∀ c, c ≤ 18 → F' c = F c) (f2 : ∀ c, c ≤ 18 → A' c = A c) : c1 S F' A' := by
  obtain ⟨h1, h2, h3, h4, h5, h6⟩ := h
  refine ⟨by rw [f 1 (by decide)]; exact h1, by rw [f 1 (by decide)]; exact h2, by rw [f 3 (by decide)]; exact h3, ?_, fun d hd => ?_, fun d l hd hl => ?_⟩
  · rw [f2 4 (by decide), f2 5 (by decide), f2 6 (by decide)]; exact h4
  · rw [f _ (by omega)]; exact h5 d hd
  · rw [f2 _ (by omega), f2 _ (by omega)]; exact h6 d l hd hl
theorem c1.fr {S : bk} {F A F' A' : Nat → Nat → Int32} (h : c1 S F A) (f : frC F A F' A') : c1 S F' A' := h.of (fun c hc => f.1 c (by omega)) (fun c hc => f.2.2 c (by omega))
section
variable {S B : bk} {F A : Nat → Nat → Int32}
theorem p_cost {d l t : Nat} (hg : c1 S F A) (hd : d < 4) (hl : l < 4) : fX1_levelCost (hp F A) (7 + 3 * d) (nI l) (nI t) = some (nI (cstN S d t l)) := by
  unfold fX1_levelCost
  rw [dgR0 hd, Option.bind_some, daP hd hl, Option.bind_some, dgR1 hd, Option.bind_some, daW hd hl, Option.bind_some, (hg.2.2.2.2.2 d l hd hl).1, (hg.2.2.2.2.2 d l hd hl).2, pk_mul, nI_add]
  rfl
theorem p_best_l {d t : Nat} (hw : wf S) (hg : c1 S F A) (hd : d < 4) (ht : t ≤ 10000) : ∀ (j fu l : Nat), j < fu → l + j = S 76 d → lX1_cheapestLevel_4 (hp F A) (7 + 3 * d) (nI t) fu (nI (bstN (cstN S d t) l)) (nI (l + 1)) = some (nI (bstN (cstN S d t) (S 76 d))) := by
  have hD := (hw.2.2.2.1 d hd).1
  intro j
  induction j with
  | zero =>
    intro fu l hf hl
    obtain ⟨f, rfl⟩ : ∃ f, fu = f + 1 := ⟨fu - 1, by omega⟩
    rw [lX1_cheapestLevel_4, dgI2 hd, Option.bind_some, (hg.2.2.2.2.1 d hd).1, if_pos (nI_lt (by omega) (by omega)), show l = S 76 d by omega]
  | succ j ih =>
    intro fu l hf hl
    obtain ⟨f, rfl⟩ : ∃ f, fu = f + 1 := ⟨fu - 1, by omega⟩
    have hb := bst_le (cstN S d t) l
    rw [lX1_cheapestLevel_4, dgI2 hd, Option.bind_some, (hg.2.2.2.2.1 d hd).1, if_neg (nI_nlt (by omega) (by omega)), dob hd, Option.bind_some, p_cost hg hd (by omega), Option.bind_some, Option.bind_some, p_cost hg hd (by omega), Option.bind_some]
    unfold bX1_cheapestLevel_29
    rw [nI_1]
    by_cases hc : cstN S d t (bstN (cstN S d t) l) ≤ cstN S d t (l + 1)
    · rw [if_pos (nI_le hc (cst_lt hw hd (by omega) ht))]
      have := ih f (l + 1) (by omega) (by omega)
      rw [show bstN (cstN S d t) (l + 1) = bstN (cstN S d t) l by rw [bstN, if_pos hc]] at this
      exact this
    · rw [if_neg (nI_ge (by omega) (cst_lt hw hd (by omega) ht))]
      have := ih f (l + 1) (by omega) (by omega)
      rw [show bstN (cstN S d t) (l + 1) = l + 1 by rw [bstN, if_neg hc]] at this
      exact this
theorem p_best {d t : Nat} (hw : wf S) (hg : c1 S F A) (hd : d < 4) (ht : t ≤ 10000) : fX1_cheapestLevel (hp F A) (7 + 3 * d) (nI t) = some (nI (bstN (cstN S d t) (S 76 d))) := by
  have hD := (hw.2.2.2.1 d hd).1
  unfold fX1_cheapestLevel
  have := p_best_l hw hg hd ht (S 76 d) ab_fu 0 (by unfold ab_fu; omega) (by omega)
  rw [show (0 : Int32) = nI (bstN (cstN S d t) 0) from rfl, show (1 : Int32) = nI (0 + 1) from rfl, this]
  rfl
theorem p_rfg {d : Nat} (hw : wf S) (hg : c1 S F A) (hd : d < 4) : fX1_restsForGuess (hp F A) (7 + 3 * d) = some (nI (gn S d)) := by
  have hk := (hw.2.2.2.1 d hd).2.1
  unfold fX1_restsForGuess gn
  rw [dgI3 hd, Option.bind_some, (hg.2.2.2.2.1 d hd).2.1]
  by_cases h3 : S 79 d = 3
  · rw [if_pos (by rw [h3]; rfl), if_pos h3, dgI4 hd, Option.bind_some, (hg.2.2.2.2.1 d hd).2.2 (Or.inr h3)]
  · rw [if_neg (ne_c (x := 3) 3 rfl (by omega) (by omega) h3), if_neg h3]
    rfl
theorem gn_ok {d : Nat} (hw : wf S) (hd : d < 4) : 1 ≤ gn S d ∧ gn S d ≤ 4 := by
  obtain ⟨w1, w2, w3, w4, w5, w6, w7⟩ := hw.2.2.2.1 d hd
  unfold gn
  split
  · next h => exact ⟨w3, w5 h⟩
  · omega
theorem men_ok {u q d n : Nat} (hd : d < 4) (hb : bnd S u q B) (hn : 1 ≤ n) (h0 : ¬ B 91 d = 0) : 1 ≤ menN B d n ∧ menN B d n ≤ u := by
  have h1 : sumN (fun k => B 92 (40 * d + k)) (B 91 d - min n (B 91 d)) (min n (B 91 d)) ≤ min n (B 91 d) * u := sum_le _ _ _ _ (fun i hi => (hb.2.1 d _ hd (by omega)).2)
  have h2 : min n (B 91 d) ≤ sumN (fun k => B 92 (40 * d + k)) (B 91 d - min n (B 91 d)) (min n (B 91 d)) := sum_ge _ _ _ (fun i hi => (hb.2.1 d _ hd (by omega)).1)
  unfold menN
  exact ⟨(Nat.one_le_div_iff (by omega)).mpr h2, Nat.div_le_of_le_mul h1⟩
theorem mx1 {n : Nat} (h1 : 1 ≤ n) (hn : n < 2 ^ 31) : ab_max 1 (nI n) = nI n := by
  unfold ab_max
  split
  · rfl
  · next h =>
    have : ¬ 1 < n := fun z => h (show nI 1 < nI n from nI_lt z hn)
    rw [show n = 1 by omega]
    rfl
theorem mnN {a b : Nat} (ha : a < 2 ^ 31) (hb : b < 2 ^ 31) : ab_min (nI a) (nI b) = nI (min a b) := by
  unfold ab_min
  by_cases h : b < a
  · rw [if_pos (nI_lt h ha), Nat.min_eq_right (by omega)]
  · rw [if_neg (nI_nlt (by omega) hb), Nat.min_eq_left (by omega)]
theorem mxN {a b : Nat} (ha : a < 2 ^ 31) (hb : b < 2 ^ 31) : ab_max (nI a) (nI b) = nI (max a b) := by
  unfold ab_max
  by_cases h : a < b
  · rw [if_pos (nI_lt h hb), Nat.max_eq_right (by omega)]
  · rw [if_neg (nI_nlt (by omega) ha), Nat.max_eq_left (by omega)]
theorem p_level {u q d : Nat} (hw : wf S) (hg : c1 S F A) (hd : d < 4) (hb : bnd S u q B) (hu : u ≤ 10000) : fX1_levelFor (hp F A) (7 + 3 * d) (nI (B 84 d)) (gsI S B d) = some (nI (lvN S B d)) := by
  obtain ⟨w1, w2, w3, w4, w5, w6, w7⟩ := hw.2.2.2.1 d hd
  obtain ⟨b1, b2, b3⟩ := hb.1 d hd
  obtain ⟨g1, g2, g3⟩ := hg.2.2.2.2.1 d hd
  unfold fX1_levelFor lvN
  rw [dgI3 hd, Option.bind_some, g2]
  by_cases k1 : S 79 d = 1
  · have w4 := w4 k1
    have hq : B 84 d / S 80 d ≤ B 84 d := Nat.div_le_self _ _
    rw [if_pos (by rw [k1]; rfl), if_neg (show ¬ S 79 d = 0 by omega), if_pos k1, dgI4 hd, Option.bind_some, g3 (Or.inl k1), mx1 (by omega) (by omega), if_neg (nz (by omega) (by omega)), dgI2 hd, Option.bind_some, g1, pk_div (by omega) (by omega) (by omega), mnN (by omega) (by omega)]
  rw [if_neg (ne_c (x := 1) 1 rfl (by omega) (by omega) k1)]
  by_cases k2 : S 79 d = 2
  · rw [if_pos (by rw [k2]; rfl), if_neg (show ¬ S 79 d = 0 by omega), if_neg k1, if_pos k2, dob hd, Option.bind_some, p_best hw hg hd (by omega), Option.bind_some]
  rw [if_neg (ne_c (x := 2) 2 rfl (by omega) (by omega) k2)]
  by_cases k3 : S 79 d = 3
  · rw [if_pos (by rw [k3]; rfl), if_neg (show ¬ S 79 d = 0 by omega), if_neg k1, if_neg k2]
    unfold gsI
    by_cases h0 : B 91 d = 0
    · rw [if_pos h0, if_pos h0, if_pos rfl]; rfl
    · have hm := men_ok hd hb w3 h0
      rw [if_neg h0, if_neg h0]
      have e : gn S d = S 80 d := by unfold gn; rw [if_pos k3]
      rw [e, if_neg (fun z => by
        have z2 := congrArg Int32.toInt z
        rw [nI_toInt (by omega)] at z2
        have : (-6 : Int32).toInt = -6 := by decide
        omega), dob hd, Option.bind_some, p_best hw hg hd (by omega), Option.bind_some]
  · rw [if_neg (ne_c (x := 3) 3 rfl (by omega) (by omega) k3), if_pos (by omega)]; rfl
theorem p_mean_l {d c a : Nat} {v2 : Int32} (hd : d < 4) (hF : F (26 + 2 * d) 8 = nI c) (hc : c ≤ 40) {f0 : Nat → Nat} (hA : ∀ k, k < c → A (27 + 2 * d) k = nI (f0 k)) : ∀ (j fu k : Nat), j < fu → a + k + j = c → lX0_meanOfLast_27 (hp F A) (26 + 2 * d) v2 fu (nI (sumN f0 a k)) (nI (a + k)) = some (nI (sumN f0 a (k + j))) := by
  intro j
  induction j with
  | zero =>
    intro fu k hf hk
    obtain ⟨f, rfl⟩ : ∃ f, fu = f + 1 := ⟨fu - 1, by omega⟩
    rw [lX0_meanOfLast_27, cgI8 hd, Option.bind_some, hF, if_pos (nI_le (by omega) (by omega))]
    rfl
  | succ j ih =>
    intro fu k hf hk
    obtain ⟨f, rfl⟩ : ∃ f, fu = f + 1 := ⟨fu - 1, by omega⟩
    rw [lX0_meanOfLast_27, cgI8 hd, Option.bind_some, hF, if_neg (nI_ge (by omega) (by omega)), cgR7 hd, Option.bind_some, caI hd (by omega), Option.bind_some, hA _ (by omega), nI_add, nI_1]
    have := ih f (k + 1) (by omega) (by omega)
    rw [show k + (j + 1) = k + 1 + j by omega]
    exact this
theorem p_mean {d n c u : Nat} (hd : d < 4) (hF : F (26 + 2 * d) 8 = nI c) (hc : c ≤ 40) (h0 : 1 ≤ c) (hn : 1 ≤ n) (hn4 : n ≤ 4) {f0 : Nat → Nat} (hA : ∀ k, k < c → A (27 + 2 * d) k = nI (f0 k)) (hu : ∀ k, k < c → f0 k ≤ u) (hu2 : u ≤ 10000) : fX0_meanOfLast (hp F A) (26 + 2 * d) (nI n) = some (nI (sumN f0 (c - min n c) (min n c) / min n c)) := by
  have fin : ∀ s0, s0 = min n c → bX0_meanOfLast_16 (26 + 2 * d) (nI s0) (hp F A) = some (nI (sumN f0 (c - min n c) (min n c) / min n c)) := by
    intro s0 hs
    have hb : sumN f0 (c - s0) s0 ≤ s0 * u := sum_le _ _ _ _ (fun i hi => hu _ (by omega))
    have hb2 : s0 * u ≤ 4 * 10000 := Nat.mul_le_mul (by omega) hu2
    have := p_mean_l (a := c - s0) (v2 := nI s0) hd hF hc hA s0 ab_fu 0 (by unfold ab_fu; omega) (by omega)
    rw [← hs]
    unfold bX0_meanOfLast_16
    rw [Nat.add_zero, Nat.zero_add, show (nI (sumN f0 (c - s0) 0)) = (0 : Int32) from rfl] at this
    rw [cgI8 hd, Option.bind_some, hF, pk_sub (by omega), this, Option.bind_some, if_neg (nI_nle (by omega) (by omega)), if_neg (nz (by omega) (by omega)), pk_div (by omega) (by omega) (by omega)]
  unfold fX0_meanOfLast
  rw [cgI8 hd, Option.bind_some, hF]
  by_cases h : c ≤ n
  · rw [if_pos (nI_le h (by omega)), Option.bind_some]
    exact fin c (by omega)
  · rw [if_neg (nI_ge (by omega) (by omega))]
    exact fin n (by omega)
theorem p_sleeps {u q d : Nat} (hd : d < 4) (hr : cr S B F A) (hb : bnd S u q B) (hw : wf S) (hu : u ≤ 10000) : fX0_sleeps (hp F A) (26 + 2 * d) = some (if slN B d then 1 else 0) := by
  obtain ⟨b1, b2, b3⟩ := hb.1 d hd
  have w1 := (hw.2.2.2.1 d hd).1
  obtain ⟨r0, r1, r2, r3, r4, r5, r6, r8, r9⟩ := hr.1 d hd
  unfold fX0_sleeps slN bX0_sleeps_18
  rw [cgI5 hd, Option.bind_some, r5]
  by_cases h1 : 0 < B 84 d
  · rw [if_neg (nI_nle h1 (by omega)), cgI6 hd, Option.bind_some, r6]
    by_cases h2 : 0 < B 85 d
    · rw [if_neg (nI_nle h2 (by omega))]
      simp [h1, h2]
    · rw [if_pos (by rw [show B 85 d = 0 by omega]; decide)]
      simp [h2]
  · rw [if_pos (by rw [show B 84 d = 0 by omega]; decide)]
    simp [h1]
end
