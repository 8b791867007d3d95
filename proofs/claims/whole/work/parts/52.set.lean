section
variable {S B : bk} {F A : Nat → Nat → Int32}
theorem upK {c i x c' i' : Nat} (h : A c' i' = nI (S c' i')) : up2 A c i (nI x) c' i' = nI (upN S c i x c' i') := by
  unfold up2 upN
  split
  · rfl
  · exact h
theorem rg.up {c i x : Nat} (h : rg S F A) (hc : c ≠ 75) : rg (upN S c i x) F (up2 A c i (nI x)) := by
  obtain ⟨h1, h2, h3, h4, h5, h6⟩ := h
  refine ⟨by rw [upN_ne (by omega)]; exact h1, by rw [upN_ne (by omega)]; exact h2, by rw [upN_ne (by omega)]; exact h3, fun d hd => ?_, fun j hj => ?_, fun i hi => ?_⟩
  · obtain ⟨a, b, c⟩ := h4 d hd; exact ⟨upK a, upK b, upK c⟩
  · obtain ⟨a, b⟩ := h5 j hj; exact ⟨upK a, upK b⟩
  · obtain ⟨a, b, c⟩ := h6 i hi; exact ⟨upK a, upK b, upK c⟩
theorem rg.upF {k x : Nat} (h : rg S F A) : rg (upN S 75 k x) (up2 F 75 k (nI x)) A := by
  obtain ⟨h1, h2, h3, h4, h5, h6⟩ := h
  refine ⟨upK h1, upK h2, upK h3, fun d hd => ?_, fun j hj => ?_, fun i hi => ?_⟩
  · simp (disch := omega) only [upN_ne]; exact h4 d hd
  · simp (disch := omega) only [upN_ne]; exact h5 j hj
  · simp (disch := omega) only [upN_ne]; exact h6 i hi
theorem c1.pow {d l x : Nat} (h : c1 S F A) (hd : d < 4) (hl : l < 4) : c1 (upN S 77 (4 * d + l) x) F (up2 A (8 + 3 * d) l (nI x)) := by
  obtain ⟨h1, h2, h3, h4, h5, h6⟩ := h
  refine ⟨by rw [upN_ne (by omega)]; exact h1, by rw [upN_ne (by omega)]; exact h2, by rw [upN_ne (by omega)]; exact h3, fun i hi => ?_, fun e he => ?_, fun e m he hm => ?_⟩
  · simp (disch := omega) only [up2_ne, upN_ne]; exact h4 i hi
  · simp (disch := omega) only [upN_ne]; exact h5 e he
  · obtain ⟨a, b⟩ := h6 e m he hm
    refine ⟨?_, by rw [up2_ne (by omega), upN_ne (by omega)]; exact b⟩
    by_cases hc : e = d ∧ m = l
    · obtain ⟨rfl, rfl⟩ := hc; rw [up2_eq, upN_eq]
    · rw [up2_ne (by omega), upN_ne (by omega)]; exact a
theorem c1.wak {d l x : Nat} (h : c1 S F A) (hd : d < 4) (hl : l < 4) : c1 (upN S 78 (4 * d + l) x) F (up2 A (9 + 3 * d) l (nI x)) := by
  obtain ⟨h1, h2, h3, h4, h5, h6⟩ := h
  refine ⟨by rw [upN_ne (by omega)]; exact h1, by rw [upN_ne (by omega)]; exact h2, by rw [upN_ne (by omega)]; exact h3, fun i hi => ?_, fun e he => ?_, fun e m he hm => ?_⟩
  · simp (disch := omega) only [up2_ne, upN_ne]; exact h4 i hi
  · simp (disch := omega) only [upN_ne]; exact h5 e he
  · obtain ⟨a, b⟩ := h6 e m he hm
    refine ⟨by rw [up2_ne (by omega), upN_ne (by omega)]; exact a, ?_⟩
    by_cases hc : e = d ∧ m = l
    · obtain ⟨rfl, rfl⟩ := hc; rw [up2_eq, upN_eq]
    · rw [up2_ne (by omega), upN_ne (by omega)]; exact b
theorem c1.dep {d x : Nat} (h : c1 S F A) (hd : d < 4) : c1 (upN S 76 d x) (up2 F (7 + 3 * d) 2 (nI x)) A := by
  obtain ⟨h1, h2, h3, h4, h5, h6⟩ := h
  refine ⟨by rw [up2_ne (by omega), upN_ne (by omega)]; exact h1, by rw [up2_ne (by omega), upN_ne (by omega)]; exact h2, by rw [up2_ne (by omega), upN_ne (by omega)]; exact h3, fun i hi => ?_, fun e he => ?_, fun e m he hm => ?_⟩
  · simp (disch := omega) only [upN_ne]; exact h4 i hi
  · obtain ⟨a, b, c⟩ := h5 e he
    refine ⟨?_, by rw [up2_ne (by omega), upN_ne (by omega)]; exact b, by simp (disch := omega) only [up2_ne, upN_ne]; exact c⟩
    by_cases hc : e = d
    · subst hc; rw [up2_eq, upN_eq]
    · rw [up2_ne (by omega), upN_ne (by omega)]; exact a
  · simp (disch := omega) only [upN_ne]; exact h6 e m he hm
theorem c1.req {j i x : Nat} (h : c1 S F A) (hj : j < 3) : c1 (upN S (81 + j) i x) F (up2 A (4 + j) i (nI x)) := by
  obtain ⟨h1, h2, h3, h4, h5, h6⟩ := h
  refine ⟨by rw [upN_ne (by omega)]; exact h1, by rw [upN_ne (by omega)]; exact h2, by rw [upN_ne (by omega)]; exact h3, fun k hk => ?_, fun e he => ?_, fun e m he hm => ?_⟩
  · obtain ⟨a, b, c⟩ := h4 k hk
    have key : ∀ m, m < 3 → A (4 + m) k = nI (S (81 + m) k) → up2 A (4 + j) i (nI x) (4 + m) k = nI (upN S (81 + j) i x (81 + m) k) := fun m hm h => by
      by_cases hc : m = j ∧ k = i
      · obtain ⟨rfl, rfl⟩ := hc; rw [up2_eq, upN_eq]
      · rw [up2_ne (by omega), upN_ne (by omega)]; exact h
    exact ⟨key 0 (by omega) a, key 1 (by omega) b, key 2 (by omega) c⟩
  · simp (disch := omega) only [upN_ne]; exact h5 e he
  · simp (disch := omega) only [up2_ne, upN_ne]; exact h6 e m he hm
theorem c1.cnt {x : Nat} (h : c1 S F A) : c1 (upN S 75 5 x) (up2 F 3 3 (nI x)) A := by
  obtain ⟨h1, h2, h3, h4, h5, h6⟩ := h
  refine ⟨by rw [up2_ne (by omega), upN_ne (by omega)]; exact h1, by rw [up2_ne (by omega), upN_ne (by omega)]; exact h2, by rw [up2_eq, upN_eq], fun i hi => ?_, fun e he => ?_, fun e m he hm => ?_⟩
  · simp (disch := omega) only [upN_ne]; exact h4 i hi
  · simp (disch := omega) only [up2_ne, upN_ne]; exact h5 e he
  · simp (disch := omega) only [upN_ne]; exact h6 e m he hm
theorem c1.endd {x : Nat} (h : c1 S F A) : c1 (upN S 75 9 x) (up2 F 1 2 (nI x)) A := by
  obtain ⟨h1, h2, h3, h4, h5, h6⟩ := h
  refine ⟨by rw [up2_eq, upN_eq], by rw [up2_ne (by omega), upN_ne (by omega)]; exact h2, by rw [up2_ne (by omega), upN_ne (by omega)]; exact h3, fun i hi => ?_, fun e he => ?_, fun e m he hm => ?_⟩
  · simp (disch := omega) only [upN_ne]; exact h4 i hi
  · simp (disch := omega) only [up2_ne, upN_ne]; exact h5 e he
  · simp (disch := omega) only [upN_ne]; exact h6 e m he hm
theorem c1.room {x : Nat} (h : c1 S F A) : c1 (upN S 75 10 x) (up2 F 1 3 (nI x)) A := by
  obtain ⟨h1, h2, h3, h4, h5, h6⟩ := h
  refine ⟨by rw [up2_ne (by omega), upN_ne (by omega)]; exact h1, by rw [up2_eq, upN_eq], by rw [up2_ne (by omega), upN_ne (by omega)]; exact h3, fun i hi => ?_, fun e he => ?_, fun e m he hm => ?_⟩
  · simp (disch := omega) only [upN_ne]; exact h4 i hi
  · simp (disch := omega) only [up2_ne, upN_ne]; exact h5 e he
  · simp (disch := omega) only [upN_ne]; exact h6 e m he hm
theorem c1.f21 {k : Nat} {x : Int32} (h : c1 S F A) : c1 S (up2 F 21 k x) A := h.of (fun c hc => up2_off (by omega)) (fun _ _ => rfl)
theorem c1.hi {c i : Nat} {x : Int32} (h : c1 S F A) (hc : 18 < c) : c1 S F (up2 A c i x) := h.of (fun _ _ => rfl) (fun e he => up2_off (by omega))
theorem c1.hiF {c i : Nat} {x : Int32} (h : c1 S F A) (hc : 18 < c) : c1 S (up2 F c i x) A := h.of (fun e he => up2_off (by omega)) (fun _ _ => rfl)
theorem rg.lo {c i : Nat} {x : Int32} (h : rg S F A) (hc : c < 75) : rg S F (up2 A c i x) := h.of rfl (fun e e1 e2 => up2_off (by omega))
theorem rg.loF {c i : Nat} {x : Int32} (h : rg S F A) (hc : c < 75) : rg S (up2 F c i x) A := h.of (up2_off (by omega)) (fun _ _ _ => rfl)
/-- the invariant again, behind a change of the setup -/
theorem IS.new {S' : bk} {F' A' : Nat → Nat → Int32} (I : IS S F A) (hw : wf S') (hg : rg S' F' A') (hc : c1 S' F' A') (h8 : F' 21 8 = 1) (hF : ∀ c, 39 ≤ c → c ≤ 74 → F' c = F c) (hA : ∀ c, 39 ≤ c ∧ c ≤ 74 ∨ c = 20 ∨ c = 99 ∨ c = 100 → A' c = A c) : IS S' F' A' :=
  ⟨hw, hg, hc, I.2.2.2.1.of (by omega) hF (fun c c1 c2 => hA c (by omega)) (hA 20 (by omega)) (hA 99 (by omega)) (hA 100 (by omega)), I.2.2.2.2.1.of (by omega) hF (fun c c1 c2 => hA c (by omega)) (hA 20 (by omega)) (hA 99 (by omega)) (hA 100 (by omega)), Or.inl h8⟩
end
theorem pu_end {h : ab_H} (hv : iv h) (a0 : Int32) : ∃ (r : Int32) (F1 A1 : Nat → Nat → Int32) (h2 : ab_H), fX6_end h 0 a0 = some (r, hp F1 A1) ∧ fX7_end (hp F1 A1) 75 a0 = some (r, h2) ∧ iv h2 := by
  obtain ⟨F, A, S, e, I⟩ := hv
  rw [e]
  obtain ⟨hw, hg, hc, -⟩ := id I
  by_cases hd : ¬ (1 ≤ a0 ∧ a0 ≤ 1000)
  · refine ⟨-2, F, A, hp F A, ?_, ?_, ⟨F, A, S, rfl, I⟩⟩
    · unfold fX6_end
      rw [wi_6, Option.bind_some, wi_0 hd, if_pos rfl]
    · unfold fX7_end
      rw [wi_7, Option.bind_some, wi_0 hd, if_pos rfl]
  have hd := Classical.not_not.mp hd
  obtain ⟨t, t1, t2, rfl⟩ := rg_of1 1 1000 (by decide) (by decide) hd
  refine ⟨nI (S 75 9), up2 (up2 F 1 2 (nI t)) 21 8 1, A, hp (up2 (up2 (up2 F 1 2 (nI t)) 21 8 1) 75 9 (nI t)) A, ?_, ?_, ⟨_, _, upN S 75 9 t, rfl, ?_⟩⟩
  · unfold fX6_end fX4_makeStale
    rw [wi_6, Option.bind_some, wi_1 hd, if_neg n_10, gR_0_0, Option.bind_some, gI_1_2, Option.bind_some, hc.1, Option.bind_some, pI_1_2, Option.bind_some, gR_0_3, Option.bind_some, ob_21, Option.bind_some, pI_21_8, Option.bind_some, Option.bind_some]
  · unfold fX7_end
    rw [wi_7, Option.bind_some, wi_1 hd, if_neg n_10, gI_75_9, Option.bind_some, up2_ne (by omega), up2_ne (by omega), hg.2.1, pI_75_9, Option.bind_some]
  · refine I.new ?_ ((hg.loF (by omega)).loF (by omega)).upF ((hc.endd.f21).hiF (by omega)) ?_ (fun c c1 c2 => ?_) (fun _ _ => rfl)
    · obtain ⟨w1, w2, w3, w4, w5, w6, w7⟩ := hw
      refine ⟨by rw [upN_ne (by omega)]; exact w1, by rw [upN_eq]; exact ⟨t1, t2⟩, by rw [upN_ne (by omega)]; exact w3, ?_, ?_, ?_, ?_⟩ <;> simp (disch := omega) only [upN_ne]
      · exact w4
      · exact w5
      · exact w6
      · exact w7
    · rw [up2_ne (by omega), up2_eq]
    · rw [up2_off (by omega), up2_off (by omega), up2_off (by omega)]
theorem pu_journal {h : ab_H} (hv : iv h) (a0 : Int32) : ∃ (r : Int32) (F1 A1 : Nat → Nat → Int32) (h2 : ab_H), fX6_journal h 0 a0 = some (r, hp F1 A1) ∧ fX7_journal (hp F1 A1) 75 a0 = some (r, h2) ∧ iv h2 := by
  obtain ⟨F, A, S, e, I⟩ := hv
  rw [e]
  obtain ⟨hw, hg, hc, -⟩ := id I
  by_cases hd : ¬ (0 ≤ a0 ∧ a0 ≤ 8)
  · refine ⟨-2, F, A, hp F A, ?_, ?_, ⟨F, A, S, rfl, I⟩⟩
    · unfold fX6_journal
      rw [wi_6, Option.bind_some, wi_0 hd, if_pos rfl]
    · unfold fX7_journal
      rw [wi_7, Option.bind_some, wi_0 hd, if_pos rfl]
  have hd := Classical.not_not.mp hd
  obtain ⟨t, t2, rfl⟩ := rg_of 8 (by decide) hd
  refine ⟨nI (S 75 10), up2 (up2 F 1 3 (nI t)) 21 8 1, A, hp (up2 (up2 (up2 F 1 3 (nI t)) 21 8 1) 75 10 (nI t)) A, ?_, ?_, ⟨_, _, upN S 75 10 t, rfl, ?_⟩⟩
  · unfold fX6_journal fX4_makeStale
    rw [wi_6, Option.bind_some, wi_1 hd, if_neg n_10, gR_0_0, Option.bind_some, gI_1_3, Option.bind_some, hc.2.1, Option.bind_some, pI_1_3, Option.bind_some, gR_0_3, Option.bind_some, ob_21, Option.bind_some, pI_21_8, Option.bind_some, Option.bind_some]
  · unfold fX7_journal
    rw [wi_7, Option.bind_some, wi_1 hd, if_neg n_10, gI_75_10, Option.bind_some, up2_ne (by omega), up2_ne (by omega), hg.2.2.1, pI_75_10, Option.bind_some]
  · refine I.new ?_ ((hg.loF (by omega)).loF (by omega)).upF ((hc.room.f21).hiF (by omega)) ?_ (fun c c1 c2 => ?_) (fun _ _ => rfl)
    · obtain ⟨w1, w2, w3, w4, w5, w6, w7⟩ := hw
      refine ⟨by rw [upN_ne (by omega)]; exact w1, by rw [upN_ne (by omega)]; exact w2, by rw [upN_eq]; exact t2, ?_, ?_, ?_, ?_⟩ <;> simp (disch := omega) only [upN_ne]
      · exact w4
      · exact w5
      · exact w6
      · exact w7
    · rw [up2_ne (by omega), up2_eq]
    · rw [up2_off (by omega), up2_off (by omega), up2_off (by omega)]
theorem pu_power {h : ab_H} (hv : iv h) (a0 a1 : Int32) : ∃ (r : Int32) (F1 A1 : Nat → Nat → Int32) (h2 : ab_H), fX6_power h 0 a0 a1 = some (r, hp F1 A1) ∧ fX7_power (hp F1 A1) 75 a0 a1 = some (r, h2) ∧ iv h2 := by
  obtain ⟨F, A, S, e, I⟩ := hv
  rw [e]
  obtain ⟨hw, hg, hc, -⟩ := id I
  by_cases hd : ¬ (0 ≤ a0 ∧ a0 ≤ 3)
  · refine ⟨-1, F, A, hp F A, ?_, ?_, ⟨F, A, S, rfl, I⟩⟩
    · unfold fX6_power
      rw [isD_6, Option.bind_some, wi_0 hd, if_pos rfl]
    · unfold fX7_power
      rw [isD_7, Option.bind_some, wi_0 hd, if_pos rfl]
  have hd := Classical.not_not.mp hd
  by_cases hk : ¬ (1 ≤ a1 ∧ a1 ≤ 100)
  · refine ⟨-2, F, A, hp F A, ?_, ?_, ⟨F, A, S, rfl, I⟩⟩
    · unfold fX6_power
      rw [isD_6, Option.bind_some, wi_1 hd, if_neg n_10, wi_6, Option.bind_some, wi_0 hk, if_pos rfl]
    · unfold fX7_power
      rw [isD_7, Option.bind_some, wi_1 hd, if_neg n_10, wi_7, Option.bind_some, wi_0 hk, if_pos rfl]
  have hk := Classical.not_not.mp hk
  obtain ⟨d, hd3, rfl⟩ := rg_of 3 (by decide) hd
  obtain ⟨x, x1, x2, rfl⟩ := rg_of1 1 100 (by decide) (by decide) hk
  have hd4 : d < 4 := by omega
  refine ⟨nI (S 77 (4 * d)), up2 (up2 F (7 + 3 * d) 2 0) 21 8 1, up2 A (8 + 3 * d) 0 (nI x), hp (up2 (up2 F (7 + 3 * d) 2 0) 21 8 1) (up2 (up2 (up2 A (8 + 3 * d) 0 (nI x)) 77 (4 * d) (nI x)) 76 d 0), ?_, ?_, ⟨_, _, upN (upN S 77 (4 * d + 0) x) 76 d 0, rfl, ?_⟩⟩
  · unfold fX6_power fX4_makeStale
    rw [isD_6, Option.bind_some, wi_1 hd, if_neg n_10, wi_6, Option.bind_some, wi_1 hk, if_neg n_10, gR_0_0, Option.bind_some, gR_1_0, Option.bind_some, daR hd4, Option.bind_some, dgR0 hd4, Option.bind_some, da0 hd4, Option.bind_some, Option.bind_some, ds0 hd4, Option.bind_some, dpI2 hd4, Option.bind_some, gR_0_3, Option.bind_some, ob_21, Option.bind_some, pI_21_8, Option.bind_some, Option.bind_some, (hc.2.2.2.2.2 d 0 hd4 (by omega)).1]
    rfl
  · unfold fX7_power
    rw [isD_7, Option.bind_some, wi_1 hd, if_neg n_10, wi_7, Option.bind_some, wi_1 hk, if_neg n_10, gR_75_1, Option.bind_some, ix4_0, aI_77 (by omega), Option.bind_some, Option.bind_some, sI_77 (by omega), Option.bind_some, gR_75_0, Option.bind_some, sI_76 hd4, Option.bind_some, up2_ne (by omega), (hg.2.2.2.2.1 _ (by omega)).1]
  · refine I.new ?_ ?_ ?_ ?_ (fun c c1 c2 => ?_) (fun c hcc => ?_)
    · obtain ⟨w1, w2, w3, w4, w5, w6, w7⟩ := hw
      refine ⟨by simp (disch := omega) only [upN_ne]; exact w1, by simp (disch := omega) only [upN_ne]; exact w2, by simp (disch := omega) only [upN_ne]; exact w3, fun e he => ?_, fun e l he hl => ?_, fun e l he hl => ?_, fun i hi => ?_⟩
      · obtain ⟨v1, v2, v3, v4, v5, v6, v7⟩ := w4 e he
        by_cases hed : e = d
        · subst hed
          rw [upN_eq]
          simp (disch := omega) only [upN_ne]
          exact ⟨by omega, v2, v3, v4, v5, v6, by rw [show 4 * e = 4 * e + 0 by omega, upN_eq]; exact x1⟩
        · simp (disch := omega) only [upN_ne]
          exact ⟨v1, v2, v3, v4, v5, v6, v7⟩
      · obtain ⟨v1, v2⟩ := w5 e l he hl
        refine ⟨?_, by simp (disch := omega) only [upN_ne]; exact v2⟩
        rw [upN_ne (a := 76) (by omega)]
        by_cases hc : 4 * e + l = 4 * d + 0
        · rw [hc, upN_eq]; exact x2
        · rw [upN_ne (by omega)]; exact v1
      · by_cases hed : e = d
        · subst hed
          rw [upN_eq] at hl
          omega
        · rw [upN_ne (by omega), upN_ne (by omega)] at hl
          have := w4 e he
          simp (disch := omega) only [upN_ne]
          exact w6 e l he hl
      · simp (disch := omega) only [upN_ne]
        exact w7 i hi
    · exact (((hg.loF (by omega)).loF (by omega)).lo (by omega)).up (c := 77) (i := 4 * d + 0) (by omega) |>.up (c := 76) (x := 0) (by omega)
    · exact (((hc.pow hd4 (by omega)).dep (x := 0) hd4).f21.hi (by omega)).hi (by omega)
    · rw [up2_eq]
    · rw [up2_off (by omega), up2_off (by omega)]
    · rw [up2_off (by omega), up2_off (by omega), up2_off (by omega)]
