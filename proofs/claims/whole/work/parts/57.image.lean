def f99 (k : Nat) (T : Nat → Int32) (A A' : Nat → Nat → Int32) : Prop := (∀ c, c ≠ 99 → A' c = A c) ∧ (∀ i, A 99 i = T i → A' 99 i = T i) ∧ (∀ i, ¬ (167 * k ≤ i ∧ i < 167 * k + 167) → A' 99 i = A 99 i)
theorem f99.refl {k : Nat} {T : Nat → Int32} {A : Nat → Nat → Int32} : f99 k T A A := ⟨fun _ _ => rfl, fun _ h => h, fun _ _ => rfl⟩
theorem f99.trans {k : Nat} {T : Nat → Int32} {A A' A2 : Nat → Nat → Int32} (h : f99 k T A A') (h2 : f99 k T A' A2) : f99 k T A A2 :=
  ⟨fun c hc => (h2.1 c hc).trans (h.1 c hc), fun i e => h2.2.1 i (h.2.1 i e), fun i hi => (h2.2.2 i hi).trans (h.2.2 i hi)⟩
theorem f99.up {k : Nat} {T : Nat → Int32} {A : Nat → Nat → Int32} {i : Nat} {x : Int32} (h : 167 * k ≤ i ∧ i < 167 * k + 167) (hx : x = T i) : f99 k T A (up2 A 99 i x) := by
  refine ⟨fun c hc => up2_off hc, fun j e => ?_, fun j hj => up2_ne (by omega)⟩
  by_cases hji : j = i
  · rw [hji, up2_eq, hx]
  · rw [up2_ne (by omega), e]
theorem ix11 (a d : Nat) : nI a + (11 : Int32) * nI d = nI (a + 11 * d) := by
  rw [show (11 : Int32) = nI 11 from rfl, pk_mul, nI_add]
theorem ixC (x : Int32) (a c : Nat) (hx : x = nI c) : nI a + x = nI (a + c) := by
  rw [hx, nI_add]
theorem ix167 (a : Nat) : (167 : Int32) * nI a = nI (167 * a) := by
  rw [show (167 : Int32) = nI 167 from rfl, pk_mul]
section
variable {S : bk} {F A : Nat → Nat → Int32}
theorem q_im28 {k d : Nat} {v1 : Int32} {T : Nat → Int32} (hk : k < 2) (hd : d < 4) (hT : ig k S (fun _ => T)) : ∀ (j fu l : Nat) (A : Nat → Nat → Int32), j < fu → l + j = 4 → rg S F A → ∃ A', lX7_image_28 75 v1 (nI (167 * k)) (nI d) fu (nI l) (hp F A) = some (hp F A') ∧ f99 k T A A' ∧ (∀ m, l ≤ m → m < 4 → A' 99 (167 * k + 11 * d + m) = T (167 * k + 11 * d + m) ∧ A' 99 (167 * k + 11 * d + 4 + m) = T (167 * k + 11 * d + 4 + m)) := by
  intro j
  induction j with
  | zero =>
    intro fu l A hf hl hg
    obtain ⟨f, rfl⟩ : ∃ f, fu = f + 1 := ⟨fu - 1, by omega⟩
    refine ⟨A, ?_, f99.refl, fun m m1 m2 => by omega⟩
    rw [lX7_image_28, if_pos (le_c l 4 4 rfl (by omega) (by omega))]
  | succ j ih =>
    intro fu l A hf hl hg
    obtain ⟨f, rfl⟩ : ∃ f, fu = f + 1 := ⟨fu - 1, by omega⟩
    obtain ⟨t1, t2⟩ := hT.1 d l hd (by omega)
    obtain ⟨y1, y2⟩ := hg.2.2.2.2.1 (4 * d + l) (by omega)
    have u1 : f99 k T A (up2 A 99 (167 * k + 11 * d + l) (nI (S 77 (4 * d + l)))) := f99.up (by omega) t1.symm
    have u2 : f99 k T (up2 A 99 (167 * k + 11 * d + l) (nI (S 77 (4 * d + l)))) (up2 (up2 A 99 (167 * k + 11 * d + l) (nI (S 77 (4 * d + l)))) 99 (167 * k + 11 * d + 4 + l) (nI (S 78 (4 * d + l)))) := f99.up (by omega) t2.symm
    have hg2 : rg S F (up2 (up2 A 99 (167 * k + 11 * d + l) (nI (S 77 (4 * d + l)))) 99 (167 * k + 11 * d + 4 + l) (nI (S 78 (4 * d + l)))) := hg.of rfl (fun c c1 c2 => (u1.trans u2).1 c (by omega))
    obtain ⟨A', g1, g2, g3⟩ := ih f (l + 1) _ (by omega) (by omega) hg2
    refine ⟨A', ?_, (u1.trans u2).trans g2, fun m m1 m2 => ?_⟩
    · rw [lX7_image_28, if_neg (nle_c l 4 4 rfl (by omega) (by omega)), gR_75_29, Option.bind_some, gR_75_1, Option.bind_some, ix4, aI_77 (by omega), Option.bind_some, y1, ix11, nI_add, sI_99 (by omega), Option.bind_some, gR_75_29, Option.bind_some, gR_75_2, Option.bind_some, aI_78 (by omega), Option.bind_some, up2_ne (by omega), y2, ixC 4 _ 4 rfl, nI_add, sI_99 (by omega), Option.bind_some, nI_1]
      exact g1
    · by_cases hml : m = l
      · subst hml
        refine ⟨g2.2.1 _ (u2.2.1 _ ?_), g2.2.1 _ ?_⟩
        · rw [up2_eq]; exact t1.symm
        · rw [up2_eq]; exact t2.symm
      · exact g3 m (by omega) m2
theorem q_im20 {k : Nat} {v1 : Int32} {T : Nat → Int32} (hk : k < 2) (hT : ig k S (fun _ => T)) : ∀ (j fu d : Nat) (A : Nat → Nat → Int32), j < fu → d + j = 4 → rg S F A → ∃ A', lX7_image_20 75 v1 (nI (167 * k)) fu (nI d) (hp F A) = some (hp F A') ∧ f99 k T A A' ∧ (∀ e, d ≤ e → e < 4 → (∀ m, m < 4 → A' 99 (167 * k + 11 * e + m) = T (167 * k + 11 * e + m) ∧ A' 99 (167 * k + 11 * e + 4 + m) = T (167 * k + 11 * e + 4 + m)) ∧ A' 99 (167 * k + 11 * e + 8) = T (167 * k + 11 * e + 8) ∧ A' 99 (167 * k + 11 * e + 9) = T (167 * k + 11 * e + 9) ∧ A' 99 (167 * k + 11 * e + 10) = T (167 * k + 11 * e + 10)) := by
  intro j
  induction j with
  | zero =>
    intro fu l A hf hl hg
    obtain ⟨f, rfl⟩ : ∃ f, fu = f + 1 := ⟨fu - 1, by omega⟩
    refine ⟨A, ?_, f99.refl, fun m m1 m2 => by omega⟩
    rw [lX7_image_20, if_pos (le_c l 4 4 rfl (by omega) (by omega))]
  | succ j ih =>
    intro fu d A hf hl hg
    obtain ⟨f, rfl⟩ : ∃ f, fu = f + 1 := ⟨fu - 1, by omega⟩
    have hd : d < 4 := by omega
    obtain ⟨A0, i1, i2, i3⟩ := q_im28 (v1 := v1) (F := F) hk hd hT 4 ab_fu 0 A (by unfold ab_fu; omega) (by omega) hg
    have hg0 : rg S F A0 := hg.of rfl (fun c c1 c2 => i2.1 c (by omega))
    obtain ⟨t1, t2, t3⟩ := hT.2.1 d hd
    obtain ⟨y1, y2, y3⟩ := hg0.2.2.2.1 d hd
    have u1 : f99 k T A0 (up2 A0 99 (167 * k + 11 * d + 8) (nI (S 76 d))) := f99.up (by omega) t1.symm
    have u2 : f99 k T (up2 A0 99 (167 * k + 11 * d + 8) (nI (S 76 d))) (up2 (up2 A0 99 (167 * k + 11 * d + 8) (nI (S 76 d))) 99 (167 * k + 11 * d + 9) (nI (S 79 d))) := f99.up (by omega) t2.symm
    have u3 : f99 k T (up2 (up2 A0 99 (167 * k + 11 * d + 8) (nI (S 76 d))) 99 (167 * k + 11 * d + 9) (nI (S 79 d))) (up2 (up2 (up2 A0 99 (167 * k + 11 * d + 8) (nI (S 76 d))) 99 (167 * k + 11 * d + 9) (nI (S 79 d))) 99 (167 * k + 11 * d + 10) (nI (S 80 d))) := f99.up (by omega) t3.symm
    have hg2 := hg0.of (A' := up2 (up2 (up2 A0 99 (167 * k + 11 * d + 8) (nI (S 76 d))) 99 (167 * k + 11 * d + 9) (nI (S 79 d))) 99 (167 * k + 11 * d + 10) (nI (S 80 d))) rfl (fun c c1 c2 => ((u1.trans u2).trans u3).1 c (by omega))
    obtain ⟨A', g1, g2, g3⟩ := ih f (d + 1) _ (by omega) (by omega) hg2
    refine ⟨A', ?_, i2.trans (((u1.trans u2).trans u3).trans g2), fun e e1 e2 => ?_⟩
    · rw [lX7_image_20, if_neg (nle_c d 4 4 rfl (by omega) (by omega)), show (0 : Int32) = nI 0 from rfl, i1, Option.bind_some, gR_75_29, Option.bind_some, gR_75_0, Option.bind_some, aI_76 hd, Option.bind_some, y1, ix11, ixC 8 _ 8 rfl, sI_99 (by omega), Option.bind_some, gR_75_29, Option.bind_some, gR_75_3, Option.bind_some, aI_79 hd, Option.bind_some, up2_ne (by omega), y2, ixC 9 _ 9 rfl, sI_99 (by omega), Option.bind_some, gR_75_29, Option.bind_some, gR_75_4, Option.bind_some, aI_80 hd, Option.bind_some, up2_ne (by omega), up2_ne (by omega), y3, ixC 10 _ 10 rfl, sI_99 (by omega), Option.bind_some, nI_1]
      exact g1
    · by_cases hed : e = d
      · subst hed
        refine ⟨fun m hm => ?_, g2.2.1 _ (u3.2.1 _ (u2.2.1 _ ?_)), g2.2.1 _ (u3.2.1 _ ?_), g2.2.1 _ ?_⟩
        · obtain ⟨z1, z2⟩ := i3 m (by omega) hm
          exact ⟨g2.2.1 _ (((u1.trans u2).trans u3).2.1 _ z1), g2.2.1 _ (((u1.trans u2).trans u3).2.1 _ z2)⟩
        · rw [up2_eq]; exact t1.symm
        · rw [up2_eq]; exact t2.symm
        · rw [up2_eq]; exact t3.symm
      · exact g3 e (by omega) e2
theorem q_im160 {k : Nat} {v1 : Int32} {T : Nat → Int32} (hk : k < 2) (hT : ig k S (fun _ => T)) : ∀ (j fu d : Nat) (A : Nat → Nat → Int32), j < fu → d + j = 40 → rg S F A → ∃ A', lX7_image_160 75 v1 (nI (167 * k)) fu (nI d) (hp F A) = some (hp F A') ∧ f99 k T A A' ∧ (∀ e, d ≤ e → e < 40 → A' 99 (167 * k + 44 + 3 * e) = T (167 * k + 44 + 3 * e) ∧ A' 99 (167 * k + 45 + 3 * e) = T (167 * k + 45 + 3 * e) ∧ A' 99 (167 * k + 46 + 3 * e) = T (167 * k + 46 + 3 * e)) := by
  intro j
  induction j with
  | zero =>
    intro fu l A hf hl hg
    obtain ⟨f, rfl⟩ : ∃ f, fu = f + 1 := ⟨fu - 1, by omega⟩
    refine ⟨A, ?_, f99.refl, fun m m1 m2 => by omega⟩
    rw [lX7_image_160, if_pos (le_c l 40 40 rfl (by omega) (by omega))]
  | succ j ih =>
    intro fu d A0 hf hl hg0
    obtain ⟨f, rfl⟩ : ∃ f, fu = f + 1 := ⟨fu - 1, by omega⟩
    have hd : d < 40 := by omega
    obtain ⟨t1, t2, t3⟩ := hT.2.2.1 d hd
    obtain ⟨y1, y2, y3⟩ := hg0.2.2.2.2.2 d hd
    have u1 : f99 k T A0 (up2 A0 99 (167 * k + 44 + 3 * d) (nI (S 81 d))) := f99.up (by omega) t1.symm
    have u2 : f99 k T (up2 A0 99 (167 * k + 44 + 3 * d) (nI (S 81 d))) (up2 (up2 A0 99 (167 * k + 44 + 3 * d) (nI (S 81 d))) 99 (167 * k + 45 + 3 * d) (nI (S 82 d))) := f99.up (by omega) t2.symm
    have u3 : f99 k T (up2 (up2 A0 99 (167 * k + 44 + 3 * d) (nI (S 81 d))) 99 (167 * k + 45 + 3 * d) (nI (S 82 d))) (up2 (up2 (up2 A0 99 (167 * k + 44 + 3 * d) (nI (S 81 d))) 99 (167 * k + 45 + 3 * d) (nI (S 82 d))) 99 (167 * k + 46 + 3 * d) (nI (S 83 d))) := f99.up (by omega) t3.symm
    have hg2 := hg0.of (A' := up2 (up2 (up2 A0 99 (167 * k + 44 + 3 * d) (nI (S 81 d))) 99 (167 * k + 45 + 3 * d) (nI (S 82 d))) 99 (167 * k + 46 + 3 * d) (nI (S 83 d))) rfl (fun c c1 c2 => ((u1.trans u2).trans u3).1 c (by omega))
    obtain ⟨A', g1, g2, g3⟩ := ih f (d + 1) _ (by omega) (by omega) hg2
    refine ⟨A', ?_, ((u1.trans u2).trans u3).trans g2, fun e e1 e2 => ?_⟩
    · rw [lX7_image_160, if_neg (nle_c d 40 40 rfl (by omega) (by omega)), gR_75_29, Option.bind_some, gR_75_6, Option.bind_some, aI_81 hd, Option.bind_some, y1, ix3, ixC 44 _ 44 rfl, nI_add, sI_99 (by omega), Option.bind_some, gR_75_29, Option.bind_some, gR_75_7, Option.bind_some, aI_82 hd, Option.bind_some, up2_ne (by omega), y2, ixC 45 _ 45 rfl, nI_add, sI_99 (by omega), Option.bind_some, gR_75_29, Option.bind_some, gR_75_8, Option.bind_some, aI_83 hd, Option.bind_some, up2_ne (by omega), up2_ne (by omega), y3, ixC 46 _ 46 rfl, nI_add, sI_99 (by omega), Option.bind_some, nI_1]
      exact g1
    · by_cases hed : e = d
      · subst hed
        refine ⟨g2.2.1 _ (u3.2.1 _ (u2.2.1 _ ?_)), g2.2.1 _ (u3.2.1 _ ?_), g2.2.1 _ ?_⟩
        · rw [up2_eq]; exact t1.symm
        · rw [up2_eq]; exact t2.symm
        · rw [up2_eq]; exact t3.symm
      · exact g3 e (by omega) e2
def imT (S : bk) (k i : Nat) : Int32 :=
  if i - 167 * k < 44 then (if (i - 167 * k) % 11 < 4 then nI (S 77 (4 * ((i - 167 * k) / 11) + (i - 167 * k) % 11)) else if (i - 167 * k) % 11 < 8 then nI (S 78 (4 * ((i - 167 * k) / 11) + ((i - 167 * k) % 11 - 4))) else if (i - 167 * k) % 11 = 8 then nI (S 76 ((i - 167 * k) / 11)) else if (i - 167 * k) % 11 = 9 then nI (S 79 ((i - 167 * k) / 11)) else nI (S 80 ((i - 167 * k) / 11)))
  else if i - 167 * k < 164 then (if (i - 167 * k - 44) % 3 = 0 then nI (S 81 ((i - 167 * k - 44) / 3)) else if (i - 167 * k - 44) % 3 = 1 then nI (S 82 ((i - 167 * k - 44) / 3)) else nI (S 83 ((i - 167 * k - 44) / 3)))
  else if i - 167 * k = 164 then nI (S 75 5) else if i - 167 * k = 165 then nI (S 75 9) else nI (S 75 10)
theorem ig_T (S : bk) (k : Nat) : ig k S (fun _ => imT S k) := by
  refine ⟨fun d l hd hl => ⟨?_, ?_⟩, fun d hd => ⟨?_, ?_, ?_⟩, fun i hi => ⟨?_, ?_, ?_⟩, ?_, ?_, ?_⟩
  · show imT S k _ = _
    unfold imT
    rw [show 167 * k + 11 * d + l - 167 * k = 11 * d + l by omega, if_pos (by omega), show (11 * d + l) % 11 = l by omega, show (11 * d + l) / 11 = d by omega, if_pos hl]
  · show imT S k _ = _
    unfold imT
    rw [show 167 * k + 11 * d + 4 + l - 167 * k = 11 * d + (4 + l) by omega, if_pos (by omega), show (11 * d + (4 + l)) % 11 = 4 + l by omega, show (11 * d + (4 + l)) / 11 = d by omega, if_neg (by omega), if_pos (by omega), show 4 + l - 4 = l by omega]
  · show imT S k _ = _
    unfold imT
    rw [show 167 * k + 11 * d + 8 - 167 * k = 11 * d + 8 by omega, if_pos (by omega), show (11 * d + 8) % 11 = 8 by omega, show (11 * d + 8) / 11 = d by omega, if_neg (by omega), if_neg (by omega), if_pos rfl]
  · show imT S k _ = _
    unfold imT
    rw [show 167 * k + 11 * d + 9 - 167 * k = 11 * d + 9 by omega, if_pos (by omega), show (11 * d + 9) % 11 = 9 by omega, show (11 * d + 9) / 11 = d by omega, if_neg (by omega), if_neg (by omega), if_neg (by omega), if_pos rfl]
  · show imT S k _ = _
    unfold imT
    rw [show 167 * k + 11 * d + 10 - 167 * k = 11 * d + 10 by omega, if_pos (by omega), show (11 * d + 10) % 11 = 10 by omega, show (11 * d + 10) / 11 = d by omega, if_neg (by omega), if_neg (by omega), if_neg (by omega), if_neg (by omega)]
  · show imT S k _ = _
    unfold imT
    rw [show 167 * k + 44 + 3 * i - 167 * k = 44 + 3 * i by omega, if_neg (by omega), if_pos (by omega), show 44 + 3 * i - 44 = 3 * i by omega, if_pos (by omega), show 3 * i / 3 = i by omega]
  · show imT S k _ = _
    unfold imT
    rw [show 167 * k + 45 + 3 * i - 167 * k = 45 + 3 * i by omega, if_neg (by omega), if_pos (by omega), show 45 + 3 * i - 44 = 3 * i + 1 by omega, if_neg (by omega), if_pos (by omega), show (3 * i + 1) / 3 = i by omega]
  · show imT S k _ = _
    unfold imT
    rw [show 167 * k + 46 + 3 * i - 167 * k = 46 + 3 * i by omega, if_neg (by omega), if_pos (by omega), show 46 + 3 * i - 44 = 3 * i + 2 by omega, if_neg (by omega), if_neg (by omega), show (3 * i + 2) / 3 = i by omega]
  · show imT S k _ = _
    unfold imT
    rw [show 167 * k + 164 - 167 * k = 164 by omega, if_neg (by omega), if_neg (by omega), if_pos rfl]
  · show imT S k _ = _
    unfold imT
    rw [show 167 * k + 165 - 167 * k = 165 by omega, if_neg (by omega), if_neg (by omega), if_neg (by omega), if_pos rfl]
  · show imT S k _ = _
    unfold imT
    rw [show 167 * k + 166 - 167 * k = 166 by omega, if_neg (by omega), if_neg (by omega), if_neg (by omega), if_neg (by omega)]
theorem q_image {k : Nat} (hk : k < 2) (hg : rg S F A) : ∃ A', fX7_image (hp F A) 75 (nI k) = some (1, hp F A') ∧ (∀ c, c ≠ 99 → c ≠ 100 → A' c = A c) ∧ (∀ i, ¬ (167 * k ≤ i ∧ i < 167 * k + 167) → A' 99 i = A 99 i) ∧ (∀ i, A' 100 i = if i = k then 1 else A 100 i) ∧ ig k S A' := by
  have hT := ig_T S k
  obtain ⟨A1, a1, a2, a3⟩ := q_im20 (v1 := nI k) (F := F) hk hT 4 ab_fu 0 A (by unfold ab_fu; omega) (by omega) hg
  have hg1 : rg S F A1 := hg.of rfl (fun c c1 c2 => a2.1 c (by omega))
  obtain ⟨A2, b1, b2, b3⟩ := q_im160 (v1 := nI k) (F := F) hk hT 40 ab_fu 0 A1 (by unfold ab_fu; omega) (by omega) hg1
  have hg2 : rg S F A2 := hg1.of rfl (fun c c1 c2 => b2.1 c (by omega))
  obtain ⟨t1, t2, t3⟩ := hT.2.2.2
  have u1 : f99 k (imT S k) A2 (up2 A2 99 (167 * k + 164) (nI (S 75 5))) := f99.up (by omega) t1.symm
  have u2 : f99 k (imT S k) (up2 A2 99 (167 * k + 164) (nI (S 75 5))) (up2 (up2 A2 99 (167 * k + 164) (nI (S 75 5))) 99 (167 * k + 165) (nI (S 75 9))) := f99.up (by omega) t2.symm
  have u3 : f99 k (imT S k) (up2 (up2 A2 99 (167 * k + 164) (nI (S 75 5))) 99 (167 * k + 165) (nI (S 75 9))) (up2 (up2 (up2 A2 99 (167 * k + 164) (nI (S 75 5))) 99 (167 * k + 165) (nI (S 75 9))) 99 (167 * k + 166) (nI (S 75 10))) := f99.up (by omega) t3.symm
  have hi : (0 : Int32) ≤ nI k ∧ nI k ≤ 1 := by
    rcases (show k = 0 ∨ k = 1 by omega) with rfl | rfl <;> decide
  have hnar : vp_nar .boolean 1 = (1 : Int32) := by decide
  have uu := (u1.trans u2).trans u3
  have ua := a2.trans (b2.trans uu)
  generalize hA3 : up2 (up2 (up2 A2 99 (167 * k + 164) (nI (S 75 5))) 99 (167 * k + 165) (nI (S 75 9))) 99 (167 * k + 166) (nI (S 75 10)) = A3 at u3 uu ua
  have e164 : A3 99 (167 * k + 164) = imT S k (167 * k + 164) := (u2.trans u3).2.1 _ (by rw [up2_eq]; exact t1.symm)
  have e165 : A3 99 (167 * k + 165) = imT S k (167 * k + 165) := u3.2.1 _ (by rw [up2_eq]; exact t2.symm)
  have e166 : A3 99 (167 * k + 166) = imT S k (167 * k + 166) := by rw [← hA3, up2_eq]; exact t3.symm
  refine ⟨up2 A3 100 k 1, ?_, fun c c1 c2 => ?_, fun i hi => ?_, fun i => ?_, ?_⟩
  · unfold fX7_image
    rw [wi_7, Option.bind_some, wi_1 hi, if_neg n_10, ix167, show (0 : Int32) = nI 0 from rfl, a1, Option.bind_some, b1, Option.bind_some, gR_75_29, Option.bind_some, gI_75_5, Option.bind_some, hg2.1, ixC 164 _ 164 rfl, sI_99 (by omega), Option.bind_some, gR_75_29, Option.bind_some, gI_75_9, Option.bind_some, hg2.2.1, ixC 165 _ 165 rfl, sI_99 (by omega), Option.bind_some, gR_75_29, Option.bind_some, gI_75_10, Option.bind_some, hg2.2.2.1, ixC 166 _ 166 rfl, sI_99 (by omega), Option.bind_some, hA3, gR_75_30, Option.bind_some, sZ_100 (by omega), Option.bind_some, hnar]
  · rw [up2_off c2, ua.1 c c1]
  · rw [up2_off (by omega), ua.2.2 i hi]
  · by_cases hik : i = k
    · rw [hik, up2_eq, if_pos rfl]
    · rw [up2_ne (by omega), if_neg hik, ua.1 100 (by omega)]
  · unfold ig
    rw [up2_off (by omega)]
    refine ⟨fun d l hd hl => ?_, fun d hd => ?_, fun i hi => ?_, e164.trans t1, e165.trans t2, e166.trans t3⟩
    · obtain ⟨z, -⟩ := a3 d (by omega) hd
      obtain ⟨z1, z2⟩ := z l hl
      obtain ⟨w1, w2⟩ := hT.1 d l hd hl
      exact ⟨((b2.trans uu).2.1 _ z1).trans w1, ((b2.trans uu).2.1 _ z2).trans w2⟩
    · obtain ⟨-, z1, z2, z3⟩ := a3 d (by omega) hd
      obtain ⟨w1, w2, w3⟩ := hT.2.1 d hd
      exact ⟨((b2.trans uu).2.1 _ z1).trans w1, ((b2.trans uu).2.1 _ z2).trans w2, ((b2.trans uu).2.1 _ z3).trans w3⟩
    · obtain ⟨z1, z2, z3⟩ := b3 i (by omega) hi
      obtain ⟨w1, w2, w3⟩ := hT.2.2.1 i hi
      exact ⟨(uu.2.1 _ z1).trans w1, (uu.2.1 _ z2).trans w2, (uu.2.1 _ z3).trans w3⟩
end
