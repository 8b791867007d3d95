def rr (S B : bk) (F A : Nat → Nat → Int32) : Prop :=
  (∀ d, d < 4 → A 84 d = nI (B 84 d) ∧ A 85 d = nI (B 85 d) ∧ A 86 d = nI (B 86 d) ∧ A 87 d = nI (B 87 d) ∧ A 88 d = nI (B 88 d) ∧ A 89 d = nI (B 89 d) ∧ A 90 d = nI (B 90 d) ∧ A 91 d = nI (B 91 d)) ∧
  (∀ d k, d < 4 → k < B 91 d → A 92 (40 * d + k) = nI (B 92 (40 * d + k))) ∧ (∀ i, i < S 75 5 → A 93 i = nI (B 93 i)) ∧ (∀ k, k < B 75 22 → A 94 k = nI (B 94 k)) ∧ F 75 22 = nI (B 75 22) ∧ F 75 23 = nI (B 75 23)
def frR (F A F' A' : Nat → Nat → Int32) : Prop := (∀ c, c ≠ 75 → F' c = F c) ∧ (∀ k, k ≠ 22 → k ≠ 23 → F' 75 k = F 75 k) ∧ ∀ c, ¬ (84 ≤ c ∧ c ≤ 94) → A' c = A c
theorem frR.refl {F A : Nat → Nat → Int32} : frR F A F A := ⟨fun _ _ => rfl, fun _ _ _ => rfl, fun _ _ => rfl⟩
theorem frR.trans {F A F' A' F2 A2 : Nat → Nat → Int32} (h : frR F A F' A') (h2 : frR F' A' F2 A2) : frR F A F2 A2 :=
  ⟨fun c hc => (h2.1 c hc).trans (h.1 c hc), fun k k1 k2 => (h2.2.1 k k1 k2).trans (h.2.1 k k1 k2), fun c hc => (h2.2.2 c hc).trans (h.2.2 c hc)⟩
theorem frR.upA {F A : Nat → Nat → Int32} {c i : Nat} {x : Int32} (hc : 84 ≤ c ∧ c ≤ 94) : frR F A F (up2 A c i x) := ⟨fun _ _ => rfl, fun _ _ _ => rfl, fun e he => up2_off (by omega)⟩
theorem frR.upF {F A : Nat → Nat → Int32} {k : Nat} {x : Int32} (hk : k = 22 ∨ k = 23) : frR F A (up2 F 75 k x) A := ⟨fun c hc => up2_off hc, fun j j1 j2 => up2_ne (by omega), fun _ _ => rfl⟩
theorem rg.fr {S : bk} {F A F' A' : Nat → Nat → Int32} (h : rg S F A) (f : frR F A F' A') : rg S F' A' := by
  obtain ⟨h1, h2, h3, h4, h5, h6⟩ := h
  refine ⟨by rw [f.2.1 5 (by decide) (by decide)]; exact h1, by rw [f.2.1 9 (by decide) (by decide)]; exact h2, by rw [f.2.1 10 (by decide) (by decide)]; exact h3, ?_, ?_, ?_⟩
  · rw [f.2.2 76 (by decide), f.2.2 79 (by decide), f.2.2 80 (by decide)]; exact h4
  · rw [f.2.2 77 (by decide), f.2.2 78 (by decide)]; exact h5
  · rw [f.2.2 81 (by decide), f.2.2 82 (by decide), f.2.2 83 (by decide)]; exact h6
section
variable {S B : bk} {F A : Nat → Nat → Int32}
theorem q_wakeOf {d l : Nat} (hw : wf S) (hg : rg S F A) (hd : d < 4) (hl : l < 4) : fX7_wakeOf (hp F A) 75 (nI d) (nI l) = some (nI (S 78 (4 * d + l))) := by
  unfold fX7_wakeOf
  by_cases h0 : l = 0
  · subst h0
    have := (hw.2.2.2.1 d hd).2.2.2.2.2.1
    rw [if_pos nI_0, show 4 * d + 0 = 4 * d by omega, this]
    rfl
  · rw [if_neg (fun e => h0 ((nI_eq (by omega) (by omega)).mp (e.trans n_0)))]
    simp only [gR_75_2, Option.bind_some, ix4]
    rw [aI_78 (by omega), (hg.2.2.2.2.1 _ (by omega)).2]
    rfl
theorem q_costWith {d l t : Nat} (hw : wf S) (hg : rg S F A) (hd : d < 4) (hl : l < 4) : fX7_costWith (hp F A) 75 (nI d) (nI l) (nI t) = some (nI (cstN S d t l)) := by
  unfold fX7_costWith
  simp only [ob_75, Option.bind_some, q_wakeOf hw hg hd hl, gR_75_1, ix4]
  rw [aI_77 (by omega), (hg.2.2.2.2.1 _ (by omega)).1]
  simp only [Option.bind_some, pk_mul, nI_add, cstN]
  rw [Nat.add_comm]
theorem cst_lt {d l t : Nat} (hw : wf S) (hd : d < 4) (hl : l < 4) (ht : t ≤ 10000) : cstN S d t l < 2 ^ 31 := by
  have h := hw.2.2.2.2.1 d l hd hl
  have : S 77 (4 * d + l) * t ≤ 100 * 10000 := Nat.mul_le_mul h.1 ht
  unfold cstN
  omega
theorem q_best_l {d t : Nat} (hw : wf S) (hg : rg S F A) (hd : d < 4) (ht : t ≤ 10000) : ∀ (j fu l : Nat), j < fu → l + j = S 76 d → lX7_bestFor_5 (hp F A) 75 (nI d) (nI t) fu (nI (bstN (cstN S d t) l)) (nI (l + 1)) = some (nI (bstN (cstN S d t) (S 76 d))) := by
  have hD := (hw.2.2.2.1 d hd).1
  intro j
  induction j with
  | zero =>
    intro fu l hf hl
    obtain ⟨f, rfl⟩ : ∃ f, fu = f + 1 := ⟨fu - 1, by omega⟩
    rw [lX7_bestFor_5]
    simp only [gR_75_0, Option.bind_some]
    rw [aI_76 hd, Option.bind_some, (hg.2.2.2.1 d hd).1, if_pos (nI_lt (by omega) (by omega)), show l = S 76 d by omega]
  | succ j ih =>
    intro fu l hf hl
    obtain ⟨f, rfl⟩ : ∃ f, fu = f + 1 := ⟨fu - 1, by omega⟩
    have hb := bst_le (cstN S d t) l
    rw [lX7_bestFor_5]
    simp only [gR_75_0, Option.bind_some]
    rw [aI_76 hd, Option.bind_some, (hg.2.2.2.1 d hd).1, if_neg (nI_nlt (by omega) (by omega))]
    simp only [ob_75, Option.bind_some]
    rw [q_costWith hw hg hd (by omega), q_costWith hw hg hd (by omega)]
    simp only [Option.bind_some, bX7_bestFor_40, nI_1]
    by_cases hc : cstN S d t (bstN (cstN S d t) l) ≤ cstN S d t (l + 1)
    · rw [if_pos (nI_le hc (cst_lt hw hd (by omega) ht))]
      have := ih f (l + 1) (by omega) (by omega)
      rw [show bstN (cstN S d t) (l + 1) = bstN (cstN S d t) l by rw [bstN, if_pos hc]] at this
      exact this
    · rw [if_neg (nI_ge (by omega) (cst_lt hw hd (by omega) ht))]
      have := ih f (l + 1) (by omega) (by omega)
      rw [show bstN (cstN S d t) (l + 1) = l + 1 by rw [bstN, if_neg hc]] at this
      exact this
theorem q_bestFor {d t : Nat} (hw : wf S) (hg : rg S F A) (hd : d < 4) (ht : t ≤ 10000) : fX7_bestFor (hp F A) 75 (nI d) (nI t) = some (nI (bstN (cstN S d t) (S 76 d))) := by
  have hD := (hw.2.2.2.1 d hd).1
  unfold fX7_bestFor
  have := q_best_l hw hg hd ht (S 76 d) ab_fu 0 (by unfold ab_fu; omega) (by omega)
  rw [show (0 : Int32) = nI (bstN (cstN S d t) 0) from rfl, show (1 : Int32) = nI (0 + 1) from rfl, this]
  rfl
theorem q_guess_l {d n : Nat} (hd : d < 4) (hr : rr S B F A) (hq : B 91 d ≤ 40) (hn : n ≤ 4) : ∀ (j fu k : Nat), j < fu → k + j = min n (B 91 d) → k ≤ B 91 d → lX7_guessOf_27 (hp F A) 75 (nI d) (nI n) fu (nI (sumN (fun k => B 92 (40 * d + k)) (B 91 d - k) k)) (nI k) (nI (B 91 d - k) - 1) = some (nI (sumN (fun k => B 92 (40 * d + k)) (B 91 d - min n (B 91 d)) (min n (B 91 d))), nI (min n (B 91 d))) := by
  intro j
  induction j with
  | zero =>
    intro fu k hf hk hkc
    obtain ⟨f, rfl⟩ : ∃ f, fu = f + 1 := ⟨fu - 1, by omega⟩
    have ek : k = min n (B 91 d) := by omega
    rw [lX7_guessOf_27]
    by_cases h0 : B 91 d - k = 0
    · have hz : nI (B 91 d - k) - 1 < 0 := by rw [h0]; decide
      rw [if_pos hz, ← ek]
    · have hz : ¬ nI (B 91 d - k) - 1 < 0 := by
        rw [show B 91 d - k = (B 91 d - k - 1) + 1 by omega, nI_pred]
        exact nI_pos (by omega)
      rw [if_neg hz, if_pos (nI_le (by omega) (by omega)), ← ek]
  | succ j ih =>
    intro fu k hf hk hkc
    obtain ⟨f, rfl⟩ : ∃ f, fu = f + 1 := ⟨fu - 1, by omega⟩
    have hc : k < B 91 d ∧ k < n := by omega
    have e1 : B 91 d - k = (B 91 d - (k + 1)) + 1 := by omega
    rw [lX7_guessOf_27, e1, nI_pred, if_neg (nI_pos (by omega)), if_neg (nI_ge (by omega) (by omega))]
    simp only [gR_75_19, Option.bind_some, ix40]
    rw [aI_92 (by omega), hr.2.1 d _ hd (by omega)]
    simp only [Option.bind_some, nI_add, nI_1]
    have := ih f (k + 1) (by omega) (by omega) (by omega)
    rw [sum_front, show B 91 d - (k + 1) + 1 = B 91 d - k by omega] at this
    rw [show (nI (B 91 d - (k + 1)) + -1 : Int32) = nI (B 91 d - (k + 1)) - 1 by rw [Int32.sub_eq_add_neg], e1] at *
    rw [Nat.add_comm (sumN _ _ _)]
    rw [← e1]
    exact this
theorem q_guess {d n : Nat} (hd : d < 4) (hr : rr S B F A) (hq : B 91 d ≤ 40) (hn : n ≤ 4) (hn1 : 1 ≤ n) (hu : ∀ k, k < B 91 d → B 92 (40 * d + k) ≤ 10000) : fX7_guessOf (hp F A) 75 (nI d) (nI n) = some (if B 91 d = 0 then -6 else nI (menN B d n)) := by
  unfold fX7_guessOf
  simp only [gR_75_18, Option.bind_some]
  rw [aI_91 hd]
  simp only [Option.bind_some, (hr.1 d hd).2.2.2.2.2.2.2]
  by_cases h0 : B 91 d = 0
  · rw [if_pos (by rw [h0]; rfl), if_pos h0]
  · rw [if_neg (fun e => h0 ((nI_eq (by omega) (by omega)).mp (e.trans n_0))), if_neg h0]
    have := q_guess_l (n := n) hd hr hq hn (min n (B 91 d)) ab_fu 0 (by unfold ab_fu; omega) (by omega) (by omega)
    rw [Nat.sub_zero] at this
    rw [show (0 : Int32) = nI 0 from rfl]
    have hs : sumN (fun k => B 92 (40 * d + k)) (B 91 d) 0 = 0 := rfl
    rw [hs] at this
    rw [this]
    simp only [Option.bind_some, bX7_guessOf_62]
    rw [if_neg (fun e => by have := (nI_eq (by omega) (by omega)).mp (e.trans n_0); omega)]
    have hb : sumN (fun k => B 92 (40 * d + k)) (B 91 d - min n (B 91 d)) (min n (B 91 d)) ≤ min n (B 91 d) * 10000 := sum_le _ _ _ _ (fun i hi => hu _ (by omega))
    have hb2 : min n (B 91 d) * 10000 ≤ 4 * 10000 := Nat.mul_le_mul (by omega) (Nat.le_refl _)
    rw [pk_div (by omega) (by omega) (by omega)]
    rfl
end
