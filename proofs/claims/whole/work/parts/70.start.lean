def bt_S : bk := fun a k => if a = 75 ∧ k = 9 then 100 else if a = 77 ∧ k % 4 = 0 then 10 else if a = 80 then 1 else 0
theorem bt_wf : wf bt_S := by
  have h5 : ∀ d, d < 4 → ∀ l, l < 4 → bt_S 77 (4 * d + l) ≤ 100 ∧ bt_S 78 (4 * d + l) ≤ 999 := by decide +kernel
  have h6 : ∀ d, d < 4 → bt_S 76 d = 0 := by decide +kernel
  refine ⟨by decide, by decide, by decide, by decide +kernel, fun d l hd hl => h5 d hd l hl, fun d l hd hl => ?_, by decide +kernel⟩
  rw [h6 d hd] at hl
  omega
theorem bt_rg : rg bt_S bt_F bt_A := by
  unfold rg
  decide +kernel
theorem bt_c1 : c1 bt_S bt_F bt_A := by
  have h6 : ∀ d, d < 4 → ∀ l, l < 4 → bt_A (8 + 3 * d) l = nI (bt_S 77 (4 * d + l)) ∧ bt_A (9 + 3 * d) l = nI (bt_S 78 (4 * d + l)) := by decide +kernel
  exact ⟨by decide, by decide, by decide, by decide +kernel, by decide +kernel, fun d l hd hl => h6 d hd l hl⟩
theorem pu_boot : ∃ (h1 : ab_H) (F A : Nat → Nat → Int32), fX6_init [.inr (6, dfX6)] 0 = some h1 ∧ h1.length = 75 ∧ fX7_init (h1 ++ [.inr (7, dfX7)]) 75 = some (hp F A) ∧ iv (hp F A) :=
  ⟨bt_h, bt_F, bt_A, bt_6, bt_len, bt_7, ⟨bt_F, bt_A, bt_S, rfl, bt_wf, bt_rg, bt_c1, ⟨rfl, Or.inl rfl⟩, ⟨rfl, Or.inl rfl⟩, Or.inl rfl⟩⟩
