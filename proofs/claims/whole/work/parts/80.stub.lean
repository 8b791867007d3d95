def iv (h : ab_H) : Prop := ∃ F A, h = hp F A
theorem iv_ob6 {h : ab_H} (hv : iv h) : ab_ob h 0 6 = some () := by
  obtain ⟨F, A, rfl⟩ := hv
  exact hp_ob (by decide +kernel)
theorem iv_ob7 {h : ab_H} (hv : iv h) : ab_ob h 75 7 = some () := by
  obtain ⟨F, A, rfl⟩ := hv
  exact hp_ob (by decide +kernel)
theorem pu_power {h : ab_H} (hv : iv h) (a0 a1 : Int32) : ∃ (r : Int32) (F1 A1 : Nat → Nat → Int32) (h2 : ab_H), fX6_power h 0 a0 a1 = some (r, hp F1 A1) ∧ fX7_power (hp F1 A1) 75 a0 a1 = some (r, h2) ∧ iv h2 := sorry
theorem pu_deeper {h : ab_H} (hv : iv h) (a0 a1 a2 : Int32) : ∃ (r : Int32) (F1 A1 : Nat → Nat → Int32) (h2 : ab_H), fX6_deeper h 0 a0 a1 a2 = some (r, hp F1 A1) ∧ fX7_deeper (hp F1 A1) 75 a0 a1 a2 = some (r, h2) ∧ iv h2 := sorry
theorem pu_level {h : ab_H} (hv : iv h) (a0 a1 a2 : Int32) : ∃ r : Int32, fX6_level h 0 a0 a1 a2 = some r ∧ fX7_level h 75 a0 a1 a2 = some r := sorry
theorem pu_policy {h : ab_H} (hv : iv h) (a0 a1 a2 : Int32) : ∃ (r : Int32) (F1 A1 : Nat → Nat → Int32) (h2 : ab_H), fX6_policy h 0 a0 a1 a2 = some (r, hp F1 A1) ∧ fX7_policy (hp F1 A1) 75 a0 a1 a2 = some (r, h2) ∧ iv h2 := sorry
theorem pu_request {h : ab_H} (hv : iv h) (a0 a1 a2 : Int32) : ∃ (r : Int32) (F1 A1 : Nat → Nat → Int32) (h2 : ab_H), fX6_request h 0 a0 a1 a2 = some (r, hp F1 A1) ∧ fX7_request (hp F1 A1) 75 a0 a1 a2 = some (r, h2) ∧ iv h2 := sorry
theorem pu_forget {h : ab_H} (hv : iv h) (a0 : Int32) : ∃ (r : Int32) (F1 A1 : Nat → Nat → Int32) (h2 : ab_H), fX6_forget h 0 a0 = some (r, hp F1 A1) ∧ fX7_forget (hp F1 A1) 75 a0 = some (r, h2) ∧ iv h2 := sorry
theorem pu_told {h : ab_H} (hv : iv h) (a0 a1 : Int32) : ∃ r : Int32, fX6_told h 0 a0 a1 = some r ∧ fX7_told h 75 a0 a1 = some r := sorry
theorem pu_end {h : ab_H} (hv : iv h) (a0 : Int32) : ∃ (r : Int32) (F1 A1 : Nat → Nat → Int32) (h2 : ab_H), fX6_end h 0 a0 = some (r, hp F1 A1) ∧ fX7_end (hp F1 A1) 75 a0 = some (r, h2) ∧ iv h2 := sorry
theorem pu_journal {h : ab_H} (hv : iv h) (a0 : Int32) : ∃ (r : Int32) (F1 A1 : Nat → Nat → Int32) (h2 : ab_H), fX6_journal h 0 a0 = some (r, hp F1 A1) ∧ fX7_journal (hp F1 A1) 75 a0 = some (r, h2) ∧ iv h2 := sorry
theorem pu_disk {h : ab_H} (hv : iv h) (a0 a1 : Int32) : ∃ (r : Int32) (F1 A1 : Nat → Nat → Int32) (h2 : ab_H), fX6_disk h 0 a0 a1 = some (r, hp F1 A1) ∧ fX7_disk (hp F1 A1) 75 a0 a1 = some (r, h2) ∧ iv h2 := sorry
theorem pu_at {h : ab_H} (hv : iv h) (a0 a1 a2 : Int32) : ∃ (r : Int32) (F1 A1 : Nat → Nat → Int32) (h2 : ab_H), fX6_at h 0 a0 a1 a2 = some (r, hp F1 A1) ∧ fX7_at (hp F1 A1) 75 a0 a1 a2 = some (r, h2) ∧ iv h2 := sorry
theorem pu_fate {h : ab_H} (hv : iv h) (a0 : Int32) : ∃ (r : Int32) (F1 A1 : Nat → Nat → Int32) (h2 : ab_H), fX6_fate h 0 a0 = some (r, hp F1 A1) ∧ fX7_fate (hp F1 A1) 75 a0 = some (r, h2) ∧ iv h2 := sorry
theorem pu_waiting {h : ab_H} (hv : iv h) (a0 : Int32) : ∃ (r : Int32) (F1 A1 : Nat → Nat → Int32) (h2 : ab_H), fX6_waiting h 0 a0 = some (r, hp F1 A1) ∧ fX7_waiting (hp F1 A1) 75 a0 = some (r, h2) ∧ iv h2 := sorry
theorem pu_least {h : ab_H} (hv : iv h) (a0 a1 : Int32) : ∃ (r : Int32) (F1 A1 : Nat → Nat → Int32) (h2 : ab_H), fX6_least h 0 a0 a1 = some (r, hp F1 A1) ∧ fX7_least (hp F1 A1) 75 a0 a1 = some (r, h2) ∧ iv h2 := sorry
theorem pu_limited {h : ab_H} (hv : iv h) (a0 a1 a2 : Int32) : ∃ (r : Int32) (F1 A1 : Nat → Nat → Int32) (h2 : ab_H), fX6_limited h 0 a0 a1 a2 = some (r, hp F1 A1) ∧ fX7_limited (hp F1 A1) 75 a0 a1 a2 = some (r, h2) ∧ iv h2 := sorry
theorem pu_costs {h : ab_H} (hv : iv h) (a0 a1 : Int32) : ∃ r : Int32, fX6_costs h 0 a0 a1 = some r ∧ fX7_costs h 75 a0 a1 = some r := sorry
theorem pu_worst {h : ab_H} (hv : iv h) (a0 a1 a2 : Int32) : ∃ r : Int32, fX6_worst h 0 a0 a1 a2 = some r ∧ fX7_worst h 75 a0 a1 a2 = some r := sorry
theorem pu_drawn {h : ab_H} (hv : iv h) (a0 a1 a2 a3 : Int32) : ∃ r : Int32, fX6_drawn h 0 a0 a1 a2 a3 = some r ∧ fX7_drawn h 75 a0 a1 a2 a3 = some r := sorry
theorem pu_count {h : ab_H} (hv : iv h) (a0 : Int32) : ∃ (r : Int32) (F1 A1 : Nat → Nat → Int32) (h2 : ab_H), fX6_count h 0 a0 = some (r, hp F1 A1) ∧ fX7_count (hp F1 A1) 75 a0 = some (r, h2) ∧ iv h2 := sorry
theorem pu_image {h : ab_H} (hv : iv h) (a0 : Int32) : ∃ (r : Int32) (F1 A1 : Nat → Nat → Int32) (h2 : ab_H), fX6_image h 0 a0 = some (r, hp F1 A1) ∧ fX7_image (hp F1 A1) 75 a0 = some (r, h2) ∧ iv h2 := sorry
theorem pu_restore {h : ab_H} (hv : iv h) (a0 : Int32) : ∃ (r : Int32) (F1 A1 : Nat → Nat → Int32) (h2 : ab_H), fX6_restore h 0 a0 = some (r, hp F1 A1) ∧ fX7_restore (hp F1 A1) 75 a0 = some (r, h2) ∧ iv h2 := sorry
theorem pu_boot : ∃ (h1 : ab_H) (F A : Nat → Nat → Int32), fX6_init [.inr (6, dfX6)] 0 = some h1 ∧ h1.length = 75 ∧ fX7_init (h1 ++ [.inr (7, dfX7)]) 75 = some (hp F A) ∧ iv (hp F A) := sorry
