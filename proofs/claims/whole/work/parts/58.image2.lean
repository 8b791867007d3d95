section
variable {S : bk} {F A : Nat → Nat → Int32}
def fS (S : bk) (A A' : Nat → Nat → Int32) : Prop := (∀ c, ¬ (76 ≤ c ∧ c ≤ 83) → A' c = A c) ∧ (∀ c i, A c i = nI (S c i) → A' c i = nI (S c i))
theorem fS.refl : fS S A A := ⟨fun _ _ => rfl, fun _ _ h => h⟩
theorem fS.trans {A' A2 : Nat → Nat → Int32} (h : fS S A A') (h2 : fS S A' A2) : fS S A A2 := ⟨fun c hc => (h2.1 c hc).trans (h.1 c hc), fun c i e => h2.2 c i (h.2 c i e)⟩
theorem fS.up {c i : Nat} (hc : 76 ≤ c ∧ c ≤ 83) : fS S A (up2 A c i (nI (S c i))) := by
  refine ⟨fun e he => up2_off (by omega), fun e j h => ?_⟩
  by_cases hz : e = c ∧ j = i
  · obtain ⟨rfl, rfl⟩ := hz
    rw [up2_eq]
  · rw [up2_ne (by omega), h]
theorem ig.of {k : Nat} {A' : Nat → Nat → Int32} (h : ig k S A) (e : A' 99 = A 99) : ig k S A' := by
  unfold ig at h ⊢
  rw [e]
  exact h
theorem q_re40 {k d : Nat} (hk : k < 2) (hd : d < 4) : ∀ (j fu l : Nat) (A : Nat → Nat → Int32), j < fu → l + j = 4 → ig k S A → ∃ A', lX7_restore_40 75 (nI (167 * k)) (nI d) fu (nI l) (hp F A) = some (hp F A') ∧ fS S A A' ∧ (∀ m, l ≤ m → m < 4 → A' 77 (4 * d + m) = nI (S 77 (4 * d + m)) ∧ A' 78 (4 * d + m) = nI (S 78 (4 * d + m))) := by
  intro j
  induction j with
  | zero =>
    intro fu l A hf hl hg
    obtain ⟨f, rfl⟩ : ∃ f, fu = f + 1 := ⟨fu - 1, by omega⟩
    refine ⟨A, ?_, fS.refl, fun m m1 m2 => by omega⟩
    rw [lX7_restore_40, if_pos (le_c l 4 4 rfl (by omega) (by omega))]
  | succ j ih =>
    intro fu l A hf hl hg
    obtain ⟨f, rfl⟩ : ∃ f, fu = f + 1 := ⟨fu - 1, by omega⟩
    obtain ⟨t1, t2⟩ := hg.1 d l hd (by omega)
    have u1 : fS S A (up2 A 77 (4 * d + l) (nI (S 77 (4 * d + l)))) := fS.up (by omega)
    have u2 : fS S (up2 A 77 (4 * d + l) (nI (S 77 (4 * d + l)))) (up2 (up2 A 77 (4 * d + l) (nI (S 77 (4 * d + l)))) 78 (4 * d + l) (nI (S 78 (4 * d + l)))) := fS.up (by omega)
    obtain ⟨A', g1, g2, g3⟩ := ih f (l + 1) _ (by omega) (by omega) (hg.of ((u1.trans u2).1 99 (by omega)))
    refine ⟨A', ?_, (u1.trans u2).trans g2, fun m m1 m2 => ?_⟩
    · rw [lX7_restore_40, if_neg (nle_c l 4 4 rfl (by omega) (by omega)), gR_75_1, Option.bind_some, gR_75_29, Option.bind_some, ix11, nI_add, aI_99 (by omega), Option.bind_some, t1, ix4, sI_77 (by omega), Option.bind_some, gR_75_2, Option.bind_some, gR_75_29, Option.bind_some, ixC 4 _ 4 rfl, nI_add, aI_99 (by omega), Option.bind_some, up2_ne (by omega), t2, sI_78 (by omega), Option.bind_some, nI_1]
      exact g1
    · by_cases hml : m = l
      · subst hml
        refine ⟨g2.2 _ _ (u2.2 _ _ ?_), g2.2 _ _ ?_⟩
        · rw [up2_eq]
        · rw [up2_eq]
      · exact g3 m (by omega) m2
theorem q_re32 {k : Nat} (hk : k < 2) : ∀ (j fu d : Nat) (A : Nat → Nat → Int32), j < fu → d + j = 4 → ig k S A → ∃ A', lX7_restore_32 75 (nI (167 * k)) fu (nI d) (hp F A) = some (hp F A') ∧ fS S A A' ∧ (∀ e, d ≤ e → e < 4 → (∀ m, m < 4 → A' 77 (4 * e + m) = nI (S 77 (4 * e + m)) ∧ A' 78 (4 * e + m) = nI (S 78 (4 * e + m))) ∧ A' 76 e = nI (S 76 e) ∧ A' 79 e = nI (S 79 e) ∧ A' 80 e = nI (S 80 e)) := by
  intro j
  induction j with
  | zero =>
    intro fu l A hf hl hg
    obtain ⟨f, rfl⟩ : ∃ f, fu = f + 1 := ⟨fu - 1, by omega⟩
    refine ⟨A, ?_, fS.refl, fun m m1 m2 => by omega⟩
    rw [lX7_restore_32, if_pos (le_c l 4 4 rfl (by omega) (by omega))]
  | succ j ih =>
    intro fu d A hf hl hg
    obtain ⟨f, rfl⟩ : ∃ f, fu = f + 1 := ⟨fu - 1, by omega⟩
    have hd : d < 4 := by omega
    obtain ⟨A0, i1, i2, i3⟩ := q_re40 (F := F) hk hd 4 ab_fu 0 A (by unfold ab_fu; omega) (by omega) hg
    have hg0 : ig k S A0 := hg.of (i2.1 99 (by omega))
    obtain ⟨t1, t2, t3⟩ := hg0.2.1 d hd
    have u1 : fS S A0 (up2 A0 76 d (nI (S 76 d))) := fS.up (by omega)
    have u2 : fS S (up2 A0 76 d (nI (S 76 d))) (up2 (up2 A0 76 d (nI (S 76 d))) 79 d (nI (S 79 d))) := fS.up (by omega)
    have u3 : fS S (up2 (up2 A0 76 d (nI (S 76 d))) 79 d (nI (S 79 d))) (up2 (up2 (up2 A0 76 d (nI (S 76 d))) 79 d (nI (S 79 d))) 80 d (nI (S 80 d))) := fS.up (by omega)
    obtain ⟨A', g1, g2, g3⟩ := ih f (d + 1) _ (by omega) (by omega) (hg0.of (((u1.trans u2).trans u3).1 99 (by omega)))
    refine ⟨A', ?_, i2.trans (((u1.trans u2).trans u3).trans g2), fun e e1 e2 => ?_⟩
    · rw [lX7_restore_32, if_neg (nle_c d 4 4 rfl (by omega) (by omega)), show (0 : Int32) = nI 0 from rfl, i1, Option.bind_some, gR_75_0, Option.bind_some, gR_75_29, Option.bind_some, ix11, ixC 8 _ 8 rfl, aI_99 (by omega), Option.bind_some, t1, sI_76 hd, Option.bind_some, gR_75_3, Option.bind_some, gR_75_29, Option.bind_some, ixC 9 _ 9 rfl, aI_99 (by omega), Option.bind_some, up2_ne (by omega), t2, sI_79 hd, Option.bind_some, gR_75_4, Option.bind_some, gR_75_29, Option.bind_some, ixC 10 _ 10 rfl, aI_99 (by omega), Option.bind_some, up2_ne (by omega), up2_ne (by omega), t3, sI_80 hd, Option.bind_some, nI_1]
      exact g1
    · by_cases hed : e = d
      · subst hed
        refine ⟨fun m hm => ?_, g2.2 _ _ (u3.2 _ _ (u2.2 _ _ ?_)), g2.2 _ _ (u3.2 _ _ ?_), g2.2 _ _ ?_⟩
        · obtain ⟨z1, z2⟩ := i3 m (by omega) hm
          exact ⟨g2.2 _ _ (((u1.trans u2).trans u3).2 _ _ z1), g2.2 _ _ (((u1.trans u2).trans u3).2 _ _ z2)⟩
        · rw [up2_eq]
        · rw [up2_eq]
        · rw [up2_eq]
      · exact g3 e (by omega) e2
theorem q_re172 {k : Nat} (hk : k < 2) : ∀ (j fu d : Nat) (A : Nat → Nat → Int32), j < fu → d + j = 40 → ig k S A → ∃ A', lX7_restore_172 75 (nI (167 * k)) fu (nI d) (hp F A) = some (hp F A') ∧ fS S A A' ∧ (∀ e, d ≤ e → e < 40 → A' 81 e = nI (S 81 e) ∧ A' 82 e = nI (S 82 e) ∧ A' 83 e = nI (S 83 e)) := by
  intro j
  induction j with
  | zero =>
    intro fu l A hf hl hg
    obtain ⟨f, rfl⟩ : ∃ f, fu = f + 1 := ⟨fu - 1, by omega⟩
    refine ⟨A, ?_, fS.refl, fun m m1 m2 => by omega⟩
    rw [lX7_restore_172, if_pos (le_c l 40 40 rfl (by omega) (by omega))]
  | succ j ih =>
    intro fu d A0 hf hl hg0
    obtain ⟨f, rfl⟩ : ∃ f, fu = f + 1 := ⟨fu - 1, by omega⟩
    have hd : d < 40 := by omega
    obtain ⟨t1, t2, t3⟩ := hg0.2.2.1 d hd
    have u1 : fS S A0 (up2 A0 81 d (nI (S 81 d))) := fS.up (by omega)
    have u2 : fS S (up2 A0 81 d (nI (S 81 d))) (up2 (up2 A0 81 d (nI (S 81 d))) 82 d (nI (S 82 d))) := fS.up (by omega)
    have u3 : fS S (up2 (up2 A0 81 d (nI (S 81 d))) 82 d (nI (S 82 d))) (up2 (up2 (up2 A0 81 d (nI (S 81 d))) 82 d (nI (S 82 d))) 83 d (nI (S 83 d))) := fS.up (by omega)
    obtain ⟨A', g1, g2, g3⟩ := ih f (d + 1) _ (by omega) (by omega) (hg0.of (((u1.trans u2).trans u3).1 99 (by omega)))
    refine ⟨A', ?_, ((u1.trans u2).trans u3).trans g2, fun e e1 e2 => ?_⟩
    · rw [lX7_restore_172, if_neg (nle_c d 40 40 rfl (by omega) (by omega)), gR_75_6, Option.bind_some, gR_75_29, Option.bind_some, ix3, ixC 44 _ 44 rfl, nI_add, aI_99 (by omega), Option.bind_some, t1, sI_81 hd, Option.bind_some, gR_75_7, Option.bind_some, gR_75_29, Option.bind_some, ixC 45 _ 45 rfl, nI_add, aI_99 (by omega), Option.bind_some, up2_ne (by omega), t2, sI_82 hd, Option.bind_some, gR_75_8, Option.bind_some, gR_75_29, Option.bind_some, ixC 46 _ 46 rfl, nI_add, aI_99 (by omega), Option.bind_some, up2_ne (by omega), up2_ne (by omega), t3, sI_83 hd, Option.bind_some, nI_1]
      exact g1
    · by_cases hed : e = d
      · subst hed
        refine ⟨g2.2 _ _ (u3.2 _ _ (u2.2 _ _ ?_)), g2.2 _ _ (u3.2 _ _ ?_), g2.2 _ _ ?_⟩
        · rw [up2_eq]
        · rw [up2_eq]
        · rw [up2_eq]
      · exact g3 e (by omega) e2
theorem q_restore {k : Nat} (hk : k < 2) (hi0 : (0 : Int32) ≤ nI k ∧ nI k ≤ 1) (hz : A 100 k = 1) (hg : ig k S A) : ∃ F' A', fX7_restore (hp F A) 75 (nI k) = some (1, hp F' A') ∧ (∀ c, ¬ (76 ≤ c ∧ c ≤ 83) → A' c = A c) ∧ (∀ c, c ≠ 75 → F' c = F c) ∧ rg S F' A' := by
  obtain ⟨A1, a1, a2, a3⟩ := q_re32 (F := F) hk 4 ab_fu 0 A (by unfold ab_fu; omega) (by omega) hg
  have hg1 := hg.of (a2.1 99 (by omega))
  obtain ⟨A2, b1, b2, b3⟩ := q_re172 (F := F) hk 40 ab_fu 0 A1 (by unfold ab_fu; omega) (by omega) hg1
  have hg2 := hg1.of (b2.1 99 (by omega))
  obtain ⟨t1, t2, t3⟩ := hg2.2.2.2
  refine ⟨up2 (up2 (up2 F 75 5 (nI (S 75 5))) 75 9 (nI (S 75 9))) 75 10 (nI (S 75 10)), A2, ?_, fun c hc => (b2.1 c hc).trans (a2.1 c hc), fun c hc => ?_, ?_, ?_, ?_, fun d hd => ?_, fun j hj => ?_, fun i hi => b3 i (by omega) hi⟩
  · unfold fX7_restore
    rw [wi_7, Option.bind_some, wi_1 hi0, if_neg n_10, gR_75_30, Option.bind_some, aZ_100 hk, Option.bind_some, hz, if_neg n_10, ix167, show (0 : Int32) = nI 0 from rfl, a1, Option.bind_some, b1, Option.bind_some, gR_75_29, Option.bind_some, ixC 164 _ 164 rfl, aI_99 (by omega), Option.bind_some, t1, pI_75_5, Option.bind_some, gR_75_29, Option.bind_some, ixC 165 _ 165 rfl, aI_99 (by omega), Option.bind_some, t2, pI_75_9, Option.bind_some, gR_75_29, Option.bind_some, ixC 166 _ 166 rfl, aI_99 (by omega), Option.bind_some, t3, pI_75_10, Option.bind_some]
  · rw [up2_off hc, up2_off hc, up2_off hc]
  · rw [up2_ne (by omega), up2_ne (by omega), up2_eq]
  · rw [up2_ne (by omega), up2_eq]
  · rw [up2_eq]
  · obtain ⟨-, z1, z2, z3⟩ := a3 d (by omega) hd
    exact ⟨b2.2 _ _ z1, b2.2 _ _ z2, b2.2 _ _ z3⟩
  · obtain ⟨z, -⟩ := a3 (j / 4) (by omega) (by omega)
    obtain ⟨z1, z2⟩ := z (j % 4) (by omega)
    rw [show 4 * (j / 4) + j % 4 = j by omega] at z1 z2
    exact ⟨b2.2 _ _ z1, b2.2 _ _ z2⟩
end
theorem bs_k {k : Nat} (hk : k < 2) : bs (39 + 18 * k) := by
  unfold bs
  omega
theorem pu_image {h : ab_H} (hv : iv h) (a0 : Int32) : ∃ (r : Int32) (F1 A1 : Nat → Nat → Int32) (h2 : ab_H), fX6_image h 0 a0 = some (r, hp F1 A1) ∧ fX7_image (hp F1 A1) 75 a0 = some (r, h2) ∧ iv h2 := by
  obtain ⟨F, A, S, e, I⟩ := hv
  rw [e]
  by_cases hd : ¬ (0 ≤ a0 ∧ a0 ≤ 1)
  · refine ⟨-2, F, A, hp F A, ?_, ?_, ⟨F, A, S, rfl, I⟩⟩
    · unfold fX6_image
      rw [wi_6, Option.bind_some, wi_0 hd, if_pos rfl]
    · unfold fX7_image
      rw [wi_7, Option.bind_some, wi_0 hd, if_pos rfl]
  have hd := Classical.not_not.mp hd
  obtain ⟨k, hk1, rfl⟩ := rg_of 1 (by decide) hd
  have hk : k < 2 := by omega
  obtain ⟨hw, hg, hc, i0, i1, hca⟩ := I
  obtain ⟨F1, A1, g1, g2, g3⟩ := p_copy (F := F) (A := A) (a := 1) (b := 39 + 18 * k) (Or.inl rfl) (bs_k hk) (by omega)
  have hcg := g3 S hc
  have hnar : vp_nar .boolean 1 = (1 : Int32) := by decide
  have hg1 : rg S F1 (up2 A1 20 k 1) := (hg.of (F' := F1) (A' := A1) (g2 75 (by omega)).1 (fun c c1 c2 => (g2 c (by omega)).2)).lo (by omega)
  obtain ⟨A2, k1, k2, k3, k4, k5⟩ := q_image (F := F1) hk hg1
  have ima : ∀ m, m < 2 → im m F A → im m F1 A2 := fun m hm hi => by
    by_cases hmk : m = k
    · subst hmk
      refine ⟨?_, Or.inr ⟨?_, S, hw, ?_, k5⟩⟩
      · rw [k4, if_pos rfl, k2 20 (by omega) (by omega), up2_eq]
      · rw [k2 20 (by omega) (by omega), up2_eq]
      · exact hcg.of (fun _ _ _ => rfl) (fun c c1 c2 => by rw [k2 c (by omega) (by omega), up2_off (by omega)])
    · obtain ⟨h1, h2⟩ := hi
      have e20 : A2 20 m = A 20 m := by rw [k2 20 (by omega) (by omega), up2_ne (by omega), (g2 20 (by omega)).2]
      refine ⟨?_, ?_⟩
      · rw [e20, k4, if_neg hmk, up2_off (by omega), (g2 100 (by omega)).2, h1]
      · rw [e20]
        rcases h2 with h2 | ⟨h2, S', w1, w2, w3⟩
        · exact Or.inl h2
        · refine Or.inr ⟨h2, S', w1, w2.of (fun c c1 c2 => (g2 c (by omega)).1) (fun c c1 c2 => by rw [k2 c (by omega) (by omega), up2_off (by omega), (g2 c (by omega)).2]), ?_⟩
          have e99 : ∀ i, ¬ (167 * k ≤ i ∧ i < 167 * k + 167) → A2 99 i = A 99 i := fun i hi => by rw [k3 i hi, up2_off (by omega), (g2 99 (by omega)).2]
          obtain ⟨x1, x2, x3, x4, x5, x6⟩ := w3
          refine ⟨fun d l hd hl => ?_, fun d hd => ?_, fun i hi => ?_, ?_, ?_, ?_⟩
          · rw [e99 _ (by omega), e99 _ (by omega)]; exact x1 d l hd hl
          · rw [e99 _ (by omega), e99 _ (by omega), e99 _ (by omega)]; exact x2 d hd
          · rw [e99 _ (by omega), e99 _ (by omega), e99 _ (by omega)]; exact x3 i hi
          · rw [e99 _ (by omega)]; exact x4
          · rw [e99 _ (by omega)]; exact x5
          · rw [e99 _ (by omega)]; exact x6
  refine ⟨1, F1, up2 A1 20 k 1, hp F1 A2, ?_, k1, ⟨F1, A2, S, rfl, hw, ?_, ?_, ima 0 (by omega) i0, ima 1 (by omega) i1, ?_⟩⟩
  · unfold fX6_image
    rw [wi_6, Option.bind_some, wi_1 hd, if_neg n_10, gR_0_1, Option.bind_some, iaR hk, Option.bind_some, gR_0_0, Option.bind_some, b_ob (bs_k hk), Option.bind_some, g1, Option.bind_some, gR_0_2, Option.bind_some, sZ_20 hk, Option.bind_some, hnar]
  · exact hg1.of rfl (fun c c1 c2 => k2 c (by omega) (by omega))
  · exact hc.of (fun c hc => (g2 c (by omega)).1) (fun c hc => by rw [k2 c (by omega) (by omega), up2_off (by omega), (g2 c (by omega)).2])
  · exact hca.of (fun c c1 c2 => (g2 c (by omega)).1) (fun c c1 c2 => by rw [k2 c (by omega) (by omega), up2_off (by omega), (g2 c (by omega)).2])
theorem pu_restore {h : ab_H} (hv : iv h) (a0 : Int32) : ∃ (r : Int32) (F1 A1 : Nat → Nat → Int32) (h2 : ab_H), fX6_restore h 0 a0 = some (r, hp F1 A1) ∧ fX7_restore (hp F1 A1) 75 a0 = some (r, h2) ∧ iv h2 := by
  obtain ⟨F, A, S, e, I⟩ := hv
  rw [e]
  by_cases hd : ¬ (0 ≤ a0 ∧ a0 ≤ 1)
  · refine ⟨-2, F, A, hp F A, ?_, ?_, ⟨F, A, S, rfl, I⟩⟩
    · unfold fX6_restore
      rw [wi_6, Option.bind_some, wi_0 hd, if_pos rfl]
    · unfold fX7_restore
      rw [wi_7, Option.bind_some, wi_0 hd, if_pos rfl]
  have hd := Classical.not_not.mp hd
  obtain ⟨k, hk1, rfl⟩ := rg_of 1 (by decide) hd
  have hk : k < 2 := by omega
  have imk : im k F A := by
    rcases (show k = 0 ∨ k = 1 by omega) with rfl | rfl
    · exact I.2.2.2.1
    · exact I.2.2.2.2.1
  obtain ⟨e1, e2⟩ := imk
  rcases e2 with e2 | ⟨e2, S', w1, w2, w3⟩
  · refine ⟨-3, F, A, hp F A, ?_, ?_, ⟨F, A, S, rfl, I⟩⟩
    · unfold fX6_restore
      rw [wi_6, Option.bind_some, wi_1 hd, if_neg n_10, gR_0_2, Option.bind_some, aZ_20 hk, Option.bind_some, e2, if_pos rfl]
    · unfold fX7_restore
      rw [wi_7, Option.bind_some, wi_1 hd, if_neg n_10, gR_75_30, Option.bind_some, aZ_100 hk, Option.bind_some, e1, e2, if_pos rfl]
  obtain ⟨F1, A1, g1, g2, g3⟩ := p_copy (F := F) (A := A) (a := 39 + 18 * k) (b := 1) (bs_k hk) (Or.inl rfl) (by omega)
  have hc1 : c1 S' F1 A1 := g3 S' w2
  have e99 : A1 99 = A 99 := (g2 99 (by omega)).2
  obtain ⟨F2, A2, k1, k2, k3, k4⟩ := q_restore (S := S') (F := up2 F1 21 8 1) (A := A1) hk hd (by rw [(g2 100 (by omega)).2, e1, e2]) (w3.of e99)
  refine ⟨1, up2 F1 21 8 1, A1, hp F2 A2, ?_, k1, ⟨F2, A2, S', rfl, I.new w1 k4 ?_ ?_ (fun c c1 c2 => ?_) (fun c hcc => ?_)⟩⟩
  · unfold fX6_restore fX4_makeStale
    rw [wi_6, Option.bind_some, wi_1 hd, if_neg n_10, gR_0_2, Option.bind_some, aZ_20 hk, Option.bind_some, e2, if_neg n_10, gR_0_0, Option.bind_some, gR_0_1, Option.bind_some, iaR hk, Option.bind_some, ob_1, Option.bind_some, g1, Option.bind_some, gR_0_3, Option.bind_some, ob_21, Option.bind_some, pI_21_8, Option.bind_some, Option.bind_some]
  · exact hc1.f21.of (fun c hc => k3 c (by omega)) (fun c hc => k2 c (by omega))
  · rw [k3 21 (by omega), up2_eq]
  · rw [k3 c (by omega), up2_off (by omega), (g2 c (by omega)).1]
  · rw [k2 c (by omega), (g2 c (by omega)).2]
