theorem le_c (n c : Nat) (x : Int32) (hx : x = nI c) (h : c ≤ n) (hn : n < 2 ^ 31) : x ≤ nI n := by
  rw [hx]
  exact nI_le h hn
theorem nle_c (n c : Nat) (x : Int32) (hx : x = nI c) (h : n < c) (hc : c < 2 ^ 31) : ¬ x ≤ nI n := by
  rw [hx]
  exact nI_ge h hc
def bs (b : Nat) : Prop := b = 1 ∨ b = 39 ∨ b = 57
def cpr (A : Nat → Nat → Int32) (r0 r1 n : Nat) : Nat → Nat → Int32 := fun c => if c = r1 then va_cpy (A r0) (A r1) 0 0 n else A c
theorem cpr_off {A : Nat → Nat → Int32} {r0 r1 n c : Nat} (h : c ≠ r1) : cpr A r0 r1 n c = A c := if_neg h
theorem cpr_in {A : Nat → Nat → Int32} {r0 r1 n i : Nat} (h : i < n) : cpr A r0 r1 n r1 i = A r0 i := by
  unfold cpr
  rw [if_pos rfl, pk_cpy_in (by omega) (by omega)]
  congr 1
  omega
section
variable {F A : Nat → Nat → Int32} {a b d : Nat}
theorem b_cp {r0 r1 n : Nat} (n0 : Nat) (h0 : ok_A r0 0 n0 = true) (h1 : ok_A r1 0 n0 = true) (hn0 : n ≤ n0) (hb : n ≤ 400) : ab_cp (hp F A) r0 0 r1 0 (nI n) = some (hp F (cpr A r0 r1 n)) := hp_cp n0 n0 h0 h1 hn0 hn0 hb
theorem b_ob (hb : bs b) : ab_ob (hp F A) b 5 = some () := by
  rcases hb with rfl | rfl | rfl
  · exact ob_1
  · exact ob_39
  · exact ob_57
theorem b_g0 (hb : bs b) : ab_gR (hp F A) b 5 0 = some (b + 1) := by
  rcases hb with rfl | rfl | rfl
  · exact gR_1_0
  · exact gR_39_0
  · exact gR_57_0
theorem b_g1 (hb : bs b) : ab_gR (hp F A) b 5 1 = some (b + 2) := by
  rcases hb with rfl | rfl | rfl
  · exact gR_1_1
  · exact gR_39_1
  · exact gR_57_1
theorem b_gI2 (hb : bs b) : ab_gI (hp F A) b 5 2 = some (F b 2) := by
  rcases hb with rfl | rfl | rfl
  · exact gI_1_2
  · exact gI_39_2
  · exact gI_57_2
theorem b_pI2 {x : Int32} (hb : bs b) : ab_pV (hp F A) b 5 2 (.int x) = some (hp (up2 F b 2 x) A) := by
  rcases hb with rfl | rfl | rfl
  · exact pI_1_2
  · exact pI_39_2
  · exact pI_57_2
theorem b_gI3 (hb : bs b) : ab_gI (hp F A) b 5 3 = some (F b 3) := by
  rcases hb with rfl | rfl | rfl
  · exact gI_1_3
  · exact gI_39_3
  · exact gI_57_3
theorem b_pI3 {x : Int32} (hb : bs b) : ab_pV (hp F A) b 5 3 (.int x) = some (hp (up2 F b 3 x) A) := by
  rcases hb with rfl | rfl | rfl
  · exact pI_1_3
  · exact pI_39_3
  · exact pI_57_3
theorem b_r (hb : bs b) : ab_ob (hp F A) (b + 2) 3 = some () := by
  rcases hb with rfl | rfl | rfl
  · exact ob_3
  · exact ob_41
  · exact ob_59
theorem b_r0 (hb : bs b) : ab_gR (hp F A) (b + 2) 3 0 = some (b + 3) := by
  rcases hb with rfl | rfl | rfl
  · exact gR_3_0
  · exact gR_41_0
  · exact gR_59_0
theorem b_ok0 (hb : bs b) : ok_A (b + 3) 0 40 = true := by
  rcases hb with rfl | rfl | rfl
  · exact (by decide +kernel)
  · exact (by decide +kernel)
  · exact (by decide +kernel)
theorem b_r1 (hb : bs b) : ab_gR (hp F A) (b + 2) 3 1 = some (b + 4) := by
  rcases hb with rfl | rfl | rfl
  · exact gR_3_1
  · exact gR_41_1
  · exact gR_59_1
theorem b_ok1 (hb : bs b) : ok_A (b + 4) 0 40 = true := by
  rcases hb with rfl | rfl | rfl
  · exact (by decide +kernel)
  · exact (by decide +kernel)
  · exact (by decide +kernel)
theorem b_r2 (hb : bs b) : ab_gR (hp F A) (b + 2) 3 2 = some (b + 5) := by
  rcases hb with rfl | rfl | rfl
  · exact gR_3_2
  · exact gR_41_2
  · exact gR_59_2
theorem b_ok2 (hb : bs b) : ok_A (b + 5) 0 40 = true := by
  rcases hb with rfl | rfl | rfl
  · exact (by decide +kernel)
  · exact (by decide +kernel)
  · exact (by decide +kernel)
theorem b_rg (hb : bs b) : ab_gI (hp F A) (b + 2) 3 3 = some (F (b + 2) 3) := by
  rcases hb with rfl | rfl | rfl
  · exact gI_3_3
  · exact gI_41_3
  · exact gI_59_3
theorem b_rp {x : Int32} (hb : bs b) : ab_pV (hp F A) (b + 2) 3 3 (.int x) = some (hp (up2 F (b + 2) 3 x) A) := by
  rcases hb with rfl | rfl | rfl
  · exact pI_3_3
  · exact pI_41_3
  · exact pI_59_3
theorem b_d (hd : d < 4) (hb : bs b) : ab_ob (hp F A) (b + 6 + 3 * d) 1 = some () := by
  rcases hb with rfl | rfl | rfl
  · exact dob hd
  · exact eob hd
  · exact fob hd
theorem b_dR (hd : d < 4) (hb : bs b) : ab_aR (hp F A) (b + 1) (nI d) = some (b + 6 + 3 * d) := by
  rcases hb with rfl | rfl | rfl
  · exact daR hd
  · exact eaR hd
  · exact faR hd
theorem b_d0 (hd : d < 4) (hb : bs b) : ab_gR (hp F A) (b + 6 + 3 * d) 1 0 = some (b + 7 + 3 * d) := by
  rcases hb with rfl | rfl | rfl
  · exact dgR0 hd
  · exact egR0 hd
  · exact fgR0 hd
theorem b_d1 (hd : d < 4) (hb : bs b) : ab_gR (hp F A) (b + 6 + 3 * d) 1 1 = some (b + 8 + 3 * d) := by
  rcases hb with rfl | rfl | rfl
  · exact dgR1 hd
  · exact egR1 hd
  · exact fgR1 hd
theorem b_dg2 (hd : d < 4) (hb : bs b) : ab_gI (hp F A) (b + 6 + 3 * d) 1 2 = some (F (b + 6 + 3 * d) 2) := by
  rcases hb with rfl | rfl | rfl
  · exact dgI2 hd
  · exact egI2 hd
  · exact fgI2 hd
theorem b_dp2 (hd : d < 4) {x : Int32} (hb : bs b) : ab_pV (hp F A) (b + 6 + 3 * d) 1 2 (.int x) = some (hp (up2 F (b + 6 + 3 * d) 2 x) A) := by
  rcases hb with rfl | rfl | rfl
  · exact dpI2 hd
  · exact epI2 hd
  · exact fpI2 hd
theorem b_dg3 (hd : d < 4) (hb : bs b) : ab_gI (hp F A) (b + 6 + 3 * d) 1 3 = some (F (b + 6 + 3 * d) 3) := by
  rcases hb with rfl | rfl | rfl
  · exact dgI3 hd
  · exact egI3 hd
  · exact fgI3 hd
theorem b_dp3 (hd : d < 4) {x : Int32} (hb : bs b) : ab_pV (hp F A) (b + 6 + 3 * d) 1 3 (.int x) = some (hp (up2 F (b + 6 + 3 * d) 3 x) A) := by
  rcases hb with rfl | rfl | rfl
  · exact dpI3 hd
  · exact epI3 hd
  · exact fpI3 hd
theorem b_dg4 (hd : d < 4) (hb : bs b) : ab_gI (hp F A) (b + 6 + 3 * d) 1 4 = some (F (b + 6 + 3 * d) 4) := by
  rcases hb with rfl | rfl | rfl
  · exact dgI4 hd
  · exact egI4 hd
  · exact fgI4 hd
theorem b_dp4 (hd : d < 4) {x : Int32} (hb : bs b) : ab_pV (hp F A) (b + 6 + 3 * d) 1 4 (.int x) = some (hp (up2 F (b + 6 + 3 * d) 4 x) A) := by
  rcases hb with rfl | rfl | rfl
  · exact dpI4 hd
  · exact epI4 hd
  · exact fpI4 hd
theorem b_okP (hd : d < 4) (hb : bs b) : ok_A (b + 7 + 3 * d) 0 4 = true := by
  rcases hb with rfl | rfl | rfl
  · exact dokP hd
  · exact eokP hd
  · exact fokP hd
theorem b_okW (hd : d < 4) (hb : bs b) : ok_A (b + 8 + 3 * d) 0 4 = true := by
  rcases hb with rfl | rfl | rfl
  · exact dokW hd
  · exact eokW hd
  · exact fokW hd
theorem bs_ne (ha : bs a) (hb : bs b) (hab : a ≠ b) : a + 18 ≤ b ∨ b + 18 ≤ a := by
  unfold bs at ha hb
  omega
theorem p_cd (ha : bs a) (hb : bs b) (hab : a ≠ b) (hd : d < 4) : ∃ F' A', fX1_copyFrom (hp F A) (b + 6 + 3 * d) (a + 6 + 3 * d) = some (hp F' A') ∧ (∀ c, c ≠ b + 6 + 3 * d → F' c = F c) ∧ (∀ c, c ≠ b + 7 + 3 * d → c ≠ b + 8 + 3 * d → A' c = A c) ∧ (F' (b + 6 + 3 * d) 2 = F (a + 6 + 3 * d) 2 ∧ F' (b + 6 + 3 * d) 3 = F (a + 6 + 3 * d) 3 ∧ F' (b + 6 + 3 * d) 4 = F (a + 6 + 3 * d) 4) ∧ (∀ l, l < 4 → A' (b + 7 + 3 * d) l = A (a + 7 + 3 * d) l ∧ A' (b + 8 + 3 * d) l = A (a + 8 + 3 * d) l) := by
  have hn := bs_ne ha hb hab
  refine ⟨up2 (up2 (up2 F (b + 6 + 3 * d) 2 (F (a + 6 + 3 * d) 2)) (b + 6 + 3 * d) 3 (F (a + 6 + 3 * d) 3)) (b + 6 + 3 * d) 4 (F (a + 6 + 3 * d) 4), cpr (cpr A (a + 7 + 3 * d) (b + 7 + 3 * d) 4) (a + 8 + 3 * d) (b + 8 + 3 * d) 4, ?_, fun c hc => ?_, fun c c1 c2 => ?_, ⟨?_, ?_, ?_⟩, fun l hl => ⟨?_, ?_⟩⟩
  · unfold fX1_copyFrom
    rw [b_d0 hd ha, Option.bind_some, b_d0 hd hb, Option.bind_some, show (4 : Int32) = nI 4 from rfl, b_cp 4 (b_okP hd ha) (b_okP hd hb) (by omega) (by omega), Option.bind_some, b_d1 hd ha, Option.bind_some, b_d1 hd hb, Option.bind_some, b_cp 4 (b_okW hd ha) (b_okW hd hb) (by omega) (by omega), Option.bind_some, b_dg2 hd ha, Option.bind_some, b_dp2 hd hb, Option.bind_some, b_dg3 hd ha, Option.bind_some, up2_ne (by omega), b_dp3 hd hb, Option.bind_some, b_dg4 hd ha, Option.bind_some, up2_ne (by omega), up2_ne (by omega), b_dp4 hd hb, Option.bind_some]
  · rw [up2_off (by omega), up2_off (by omega), up2_off (by omega)]
  · rw [cpr_off (by omega), cpr_off (by omega)]
  · rw [up2_ne (by omega), up2_ne (by omega), up2_eq]
  · rw [up2_ne (by omega), up2_eq]
  · rw [up2_eq]
  · rw [cpr_off (by omega), cpr_in (by omega)]
  · rw [cpr_in (by omega), cpr_off (by omega)]
theorem p_cds (ha : bs a) (hb : bs b) (hab : a ≠ b) : ∀ (j fu k : Nat) (F A : Nat → Nat → Int32), j < fu → k + j = 4 → ∃ F' A', lX5_copyFrom_2 b a fu (nI k) (hp F A) = some (hp F' A') ∧ (∀ c, ¬ (b + 6 + 3 * k ≤ c ∧ c ≤ b + 17) → F' c = F c ∧ A' c = A c) ∧ (∀ d, k ≤ d → d < 4 → (F' (b + 6 + 3 * d) 2 = F (a + 6 + 3 * d) 2 ∧ F' (b + 6 + 3 * d) 3 = F (a + 6 + 3 * d) 3 ∧ F' (b + 6 + 3 * d) 4 = F (a + 6 + 3 * d) 4) ∧ (∀ l, l < 4 → A' (b + 7 + 3 * d) l = A (a + 7 + 3 * d) l ∧ A' (b + 8 + 3 * d) l = A (a + 8 + 3 * d) l)) := by
  have hn := bs_ne ha hb hab
  intro j
  induction j with
  | zero =>
    intro fu k F A hf hk
    obtain ⟨f, rfl⟩ : ∃ f, fu = f + 1 := ⟨fu - 1, by omega⟩
    refine ⟨F, A, ?_, fun _ _ => ⟨rfl, rfl⟩, fun d d1 d2 => by omega⟩
    rw [lX5_copyFrom_2, if_pos (le_c k 4 4 rfl (by omega) (by omega))]
  | succ j ih =>
    intro fu k F A hf hk
    obtain ⟨f, rfl⟩ : ∃ f, fu = f + 1 := ⟨fu - 1, by omega⟩
    have hk4 : k < 4 := by omega
    obtain ⟨F1, A1, g1, g2, g3, g4, g5⟩ := p_cd (F := F) (A := A) ha hb hab hk4
    obtain ⟨F2, A2, k1, k2, k3⟩ := ih f (k + 1) F1 A1 (by omega) (by omega)
    refine ⟨F2, A2, ?_, fun c hc => ?_, fun d d1 d2 => ?_⟩
    · rw [lX5_copyFrom_2, if_neg (nle_c k 4 4 rfl (by omega) (by omega)), b_g0 hb, Option.bind_some, b_dR hk4 hb, Option.bind_some, b_g0 ha, Option.bind_some, b_dR hk4 ha, Option.bind_some, b_d hk4 hb, Option.bind_some, g1, Option.bind_some, nI_1]
      exact k1
    · obtain ⟨e1, e2⟩ := k2 c (by omega)
      exact ⟨e1.trans (g2 c (by omega)), e2.trans (g3 c (by omega) (by omega))⟩
    · by_cases hdk : d = k
      · subst hdk
        rw [(k2 (b + 6 + 3 * d) (by omega)).1, (k2 (b + 7 + 3 * d) (by omega)).2, (k2 (b + 8 + 3 * d) (by omega)).2]
        exact ⟨g4, g5⟩
      · have := k3 d (by omega) d2
        rw [g2 (a + 6 + 3 * d) (by omega), g3 (a + 7 + 3 * d) (by omega) (by omega), g3 (a + 8 + 3 * d) (by omega) (by omega)] at this
        exact this
theorem p_cr (ha : bs a) (hb : bs b) (hab : a ≠ b) : ∃ A', fX3_copyFrom (hp F A) (b + 2) (a + 2) = some (hp (up2 F (b + 2) 3 (F (a + 2) 3)) A') ∧ (∀ c, ¬ (b + 3 ≤ c ∧ c ≤ b + 5) → A' c = A c) ∧ (∀ i, i < 40 → A' (b + 3) i = A (a + 3) i ∧ A' (b + 4) i = A (a + 4) i ∧ A' (b + 5) i = A (a + 5) i) := by
  have hn := bs_ne ha hb hab
  refine ⟨cpr (cpr (cpr A (a + 3) (b + 3) 40) (a + 4) (b + 4) 40) (a + 5) (b + 5) 40, ?_, fun c hc => ?_, fun i hi => ⟨?_, ?_, ?_⟩⟩
  · unfold fX3_copyFrom
    rw [b_r0 ha, Option.bind_some, b_r0 hb, Option.bind_some, show (40 : Int32) = nI 40 from rfl, b_cp 40 (b_ok0 ha) (b_ok0 hb) (by omega) (by omega), Option.bind_some, b_r1 ha, Option.bind_some, b_r1 hb, Option.bind_some, b_cp 40 (b_ok1 ha) (b_ok1 hb) (by omega) (by omega), Option.bind_some, b_r2 ha, Option.bind_some, b_r2 hb, Option.bind_some, b_cp 40 (b_ok2 ha) (b_ok2 hb) (by omega) (by omega), Option.bind_some, b_rg ha, Option.bind_some, b_rp hb, Option.bind_some]
  · rw [cpr_off (by omega), cpr_off (by omega), cpr_off (by omega)]
  · rw [cpr_off (by omega), cpr_off (by omega), cpr_in hi]
  · rw [cpr_off (by omega), cpr_in hi, cpr_off (by omega)]
  · rw [cpr_in hi, cpr_off (by omega), cpr_off (by omega)]
theorem p_copy (ha : bs a) (hb : bs b) (hab : a ≠ b) : ∃ F' A', fX5_copyFrom (hp F A) b a = some (hp F' A') ∧ (∀ c, ¬ (b ≤ c ∧ c ≤ b + 17) → F' c = F c ∧ A' c = A c) ∧ (∀ S, cg a S F A → cg b S F' A') := by
  have hn := bs_ne ha hb hab
  obtain ⟨F1, A1, g1, g2, g3⟩ := p_cds (a := a) (b := b) ha hb hab 4 ab_fu 0 F A (by unfold ab_fu; omega) (by omega)
  obtain ⟨A2, k1, k2, k3⟩ := p_cr (F := F1) (A := A1) ha hb hab
  have e2 : F1 (a + 2) = F (a + 2) := (g2 (a + 2) (by omega)).1
  have ea : F1 a = F a := (g2 a (by omega)).1
  refine ⟨up2 (up2 (up2 F1 (b + 2) 3 (F (a + 2) 3)) b 2 (F a 2)) b 3 (F a 3), A2, ?_, fun c hc => ⟨?_, ?_⟩, fun S hS => ?_⟩
  · unfold fX5_copyFrom
    rw [show (0 : Int32) = nI 0 from rfl, g1, Option.bind_some, b_g1 hb, Option.bind_some, b_g1 ha, Option.bind_some, b_r hb, Option.bind_some, k1, Option.bind_some, b_gI2 ha, Option.bind_some, up2_ne (by omega), b_pI2 hb, Option.bind_some, b_gI3 ha, Option.bind_some, up2_ne (by omega), up2_ne (by omega), b_pI3 hb, Option.bind_some, e2, ea]
  · rw [up2_off (by omega), up2_off (by omega), up2_off (by omega), (g2 c (by omega)).1]
  · rw [k2 c (by omega), (g2 c (by omega)).2]
  · obtain ⟨h1, h2, h3, h4, h5, h6⟩ := hS
    refine ⟨?_, ?_, ?_, fun i hi => ?_, fun d hd => ?_, fun d l hd hl => ?_⟩
    · rw [up2_ne (by omega), up2_eq]; exact h1
    · rw [up2_eq]; exact h2
    · rw [up2_ne (by omega), up2_ne (by omega), up2_eq]; exact h3
    · obtain ⟨v1, v2, v3⟩ := k3 i hi
      rw [v1, v2, v3, (g2 (a + 3) (by omega)).2, (g2 (a + 4) (by omega)).2, (g2 (a + 5) (by omega)).2]
      exact h4 i hi
    · rw [up2_off (by omega), up2_off (by omega), up2_off (by omega)]
      obtain ⟨⟨v1, v2, v3⟩, -⟩ := g3 d (by omega) hd
      rw [v1, v2, v3]
      exact h5 d hd
    · rw [k2 _ (by omega), k2 (b + 8 + 3 * d) (by omega)]
      obtain ⟨-, v⟩ := g3 d (by omega) hd
      rw [(v l hl).1, (v l hl).2]
      exact h6 d l hd hl
end
