section
variable {S B : bk} {F A : Nat → Nat → Int32}
/-- one element of a row of the run, written on both sides -/
theorem rr.upD {c d x : Nat} {y : Int32} (hr : rr S B F A) (hc : 84 ≤ c ∧ c ≤ 90) (hy : y = nI x) : rr S (upN B c d x) F (up2 A c d y) := by
  subst hy
  obtain ⟨r1, r2, r3, r4, r5, r6⟩ := hr
  have key : ∀ c' e, A c' e = nI (B c' e) → up2 A c d (nI x) c' e = nI (upN B c d x c' e) := fun c' e h => by
    unfold up2 upN
    split
    · rfl
    · exact h
  refine ⟨fun e he => ?_, fun e k he hk => ?_, fun i hi => ?_, fun k hk => ?_, ?_, ?_⟩
  · obtain ⟨a1, a2, a3, a4, a5, a6, a7, a8⟩ := r1 e he
    exact ⟨key _ _ a1, key _ _ a2, key _ _ a3, key _ _ a4, key _ _ a5, key _ _ a6, key _ _ a7, key _ _ a8⟩
  · rw [upN_ne (by omega)] at hk
    exact key _ _ (r2 e k he hk)
  · exact key _ _ (r3 i hi)
  · rw [upN_ne (by omega)] at hk
    exact key _ _ (r4 k hk)
  · rw [upN_ne (by omega)]; exact r5
  · rw [upN_ne (by omega)]; exact r6
theorem rr.upFt {r x : Nat} {y : Int32} (hr : rr S B F A) (hy : y = nI x) : rr S (upN B 93 r x) F (up2 A 93 r y) := by
  subst hy
  obtain ⟨r1, r2, r3, r4, r5, r6⟩ := hr
  refine ⟨fun e he => ?_, fun e k he hk => ?_, fun i hi => ?_, fun k hk => ?_, ?_, ?_⟩
  · simp (disch := omega) only [up2_ne, upN_ne]; exact r1 e he
  · simp (disch := omega) only [up2_ne, upN_ne] at hk ⊢; exact r2 e k he hk
  · by_cases e : i = r
    · subst e; rw [up2_eq, upN_eq]
    · rw [up2_ne (by omega), upN_ne (by omega)]; exact r3 i hi
  · simp (disch := omega) only [up2_ne, upN_ne] at hk ⊢; exact r4 k hk
  · rw [upN_ne (by omega)]; exact r5
  · rw [upN_ne (by omega)]; exact r6
theorem q_busy {u q d : Nat} (hd : d < 4) (hr : rr S B F A) (hb : bnd S u q B) (hq : q < 40) (hu : u ≤ 10000) : ∃ A', fX7_keepBusy (hp F A) 75 (nI d) = some (hp F A') ∧ frR F A F A' ∧ rr S (bsyN B d) F A' := by
  obtain ⟨r1, r2, r3, r4, r5, r6⟩ := id hr
  obtain ⟨b1, b2, b3⟩ := hb.1 d hd
  obtain ⟨d84, d85, d86, d87, d88, d89, d90, d91⟩ := r1 d hd
  unfold fX7_keepBusy bX7_keepBusy_41 bsyN
  simp only [gR_75_11, gR_75_18, gR_75_19, Option.bind_some]
  rw [aI_84 hd]
  simp only [Option.bind_some, d84]
  by_cases h0 : 0 < B 84 d
  · rw [if_neg (nI_nle h0 (by omega)), if_pos h0, aI_91 hd]
    simp only [Option.bind_some, d91, ix40]
    rw [sI_92 (by omega)]
    simp only [gR_75_18, gR_75_11, Option.bind_some]
    rw [aI_91 hd, Option.bind_some, up2_ne (by omega), d91, sI_91 hd]
    simp only [gR_75_11, Option.bind_some]
    rw [sI_84 hd]
    refine ⟨_, rfl, ?_, ?_⟩
    · refine ⟨fun _ _ => rfl, fun _ _ _ => rfl, fun c hc => ?_⟩
      rw [up2_off (by omega), up2_off (by omega), up2_off (by omega)]
    · refine rr.upD ?_ (by omega) rfl
      refine ⟨fun e he => ?_, fun e k he hk => ?_, fun i hi => ?_, fun k hk => ?_, ?_, ?_⟩
      · obtain ⟨a1, a2, a3, a4, a5, a6, a7, a8⟩ := r1 e he
        simp (disch := omega) only [up2_ne, upN_ne]
        refine ⟨a1, a2, a3, a4, a5, a6, a7, ?_⟩
        by_cases hed : e = d
        · subst hed; rw [up2_eq, upN_eq, nI_1]
        · rw [up2_ne (by omega), upN_ne (by omega), up2_ne (by omega), upN_ne (by omega)]; exact a8
      · rw [up2_ne (by omega), upN_ne (by omega)]
        by_cases hkk : 40 * e + k = 40 * d + B 91 d
        · rw [hkk, up2_eq, upN_eq]
        · rw [up2_ne (by omega), upN_ne (by omega)]
          refine r2 e k he ?_
          by_cases hed : e = d
          · subst hed
            rw [upN_eq] at hk
            omega
          · rw [upN_ne (by omega), upN_ne (by omega)] at hk
            exact hk
      · simp (disch := omega) only [up2_ne, upN_ne]; exact r3 i hi
      · simp (disch := omega) only [up2_ne, upN_ne] at hk ⊢; exact r4 k hk
      · simp (disch := omega) only [upN_ne]; exact r5
      · simp (disch := omega) only [upN_ne]; exact r6
  · rw [if_pos (by rw [show B 84 d = 0 by omega]; decide), if_neg h0]
    rw [sI_84 hd]
    exact ⟨_, rfl, frR.upA (by omega), rr.upD hr (by omega) rfl⟩
theorem upz (B : bk) (c d : Nat) : upN B c d (B c d + 0) = B := by
  funext e f
  unfold upN
  split
  · next h => rw [h.1, h.2]; rfl
  · rfl
theorem bnd_row {u q c d x : Nat} (h : bnd S u q B) (hc : 86 ≤ c ∧ c ≤ 90 ∨ c = 93) : bnd S u q (upN B c d x) := by
  refine bnd_of h (fun c i hc => by rw [upN_ne (by omega)]) ?_ ?_ (fun k hk => ?_)
  · rw [upN_ne (by omega)]; exact h.2.2.1
  · rw [upN_ne (by omega)]; exact h.2.2.2.1
  · rw [upN_ne (by omega)] at hk ⊢; exact h.2.2.2.2 k hk
theorem q_m207 {u q r s3 : Nat} (hw : wf S) (hr : rr S B F A) (hb : bnd S u q B) (hq : q < 40) (hu : u ≤ 10000) (hm : r < S 75 5) {y : Int32} (hy : y = nI s3) : ∃ F' A', bX7_meet_207 75 (nI (S 82 r)) y (nI (B 89 (S 82 r))) (nI (S 82 r)) 89 (hp F A) = some (hp F' A') ∧ frR F A F' A' ∧ rr S (bsyN (upN B 89 (S 82 r) (B 89 (S 82 r) + s3)) (S 82 r)) F' A' := by
  subst hy
  have hm40 := hw.1
  obtain ⟨s81, s82, s83⟩ := hw.2.2.2.2.2.2 r (by omega)
  have hd : S 82 r < 4 := by omega
  unfold bX7_meet_207
  rw [sI_89 hd]
  simp only [ob_75, Option.bind_some, bX7_meet_214, nI_add]
  obtain ⟨A5, k1, k2, k3⟩ := q_busy hd (hr.upD (c := 89) (d := S 82 r) (x := B 89 (S 82 r) + s3) (by omega) rfl) (bnd_row hb (by omega)) hq hu
  rw [k1]
  exact ⟨F, A5, rfl, (frR.upA (by omega)).trans k2, k3⟩
theorem q_m183 {u q r s3 : Nat} (hw : wf S) (hg : rg S F A) (hr : rr S B F A) (hb : bnd S u q B) (hq : q < 40) (hu : u ≤ 10000) (hm : r < S 75 5) {y : Int32} (hy : y = nI s3) (hs : s3 = if S 83 r = 0 then 1 else 0) : ∃ F' A', bX7_meet_183 75 (nI r) (nI (S 82 r)) y (nI (B 88 (S 82 r))) (nI (S 82 r)) 88 (hp F A) = some (hp F' A') ∧ frR F A F' A' ∧ rr S (bsyN (cntN S B r) (S 82 r)) F' A' := by
  subst hy
  have hm40 := hw.1
  obtain ⟨s81, s82, s83⟩ := hw.2.2.2.2.2.2 r (by omega)
  have hd : S 82 r < 4 := by omega
  unfold bX7_meet_183
  rw [sI_88 hd]
  simp only [gR_75_16, gR_75_8, Option.bind_some, nI_add]
  have hr2 := hr.upD (c := 88) (d := S 82 r) (x := B 88 (S 82 r) + s3) (by omega) rfl
  have hb2 : bnd S u q (upN B 88 (S 82 r) (B 88 (S 82 r) + s3)) := bnd_row hb (by omega)
  have hf2 : frR F A F (up2 A 88 (S 82 r) (nI (B 88 (S 82 r) + s3))) := frR.upA (by omega)
  have hg2 := hg.fr hf2
  rw [aI_89 hd, aI_83 (by omega)]
  simp only [Option.bind_some, (hr2.1 _ hd).2.2.2.2.2.1, (hg2.2.2.2.2.2 r (by omega)).2.2]
  by_cases h0 : S 83 r = 0
  · rw [if_neg (ne_c (x := 1) 1 rfl (by omega) (by omega) (by omega))]
    rw [if_pos h0] at hs
    subst hs
    obtain ⟨F', A', e1, e2, e3⟩ := q_m207 (s3 := 0) (y := 0) hw hr2 hb2 hq hu hm rfl
    refine ⟨F', A', e1, hf2.trans e2, ?_⟩
    unfold cntN
    rw [if_pos h0]
    rw [upz] at e3
    exact e3
  · rw [if_pos (by rw [show S 83 r = 1 by omega]; rfl)]
    rw [if_neg h0] at hs
    subst hs
    obtain ⟨F', A', e1, e2, e3⟩ := q_m207 (s3 := 1) (y := 1) hw hr2 hb2 hq hu hm rfl
    refine ⟨F', A', e1, hf2.trans e2, ?_⟩
    unfold cntN
    rw [if_neg h0]
    rw [upz] at e3
    exact e3
theorem q_m161 {u q r x : Nat} (hw : wf S) (hg : rg S F A) (hr : rr S B F A) (hb : bnd S u q B) (hq : q < 40) (hu : u ≤ 10000) (hm : r < S 75 5) {y : Int32} (hy : y = nI x) : ∃ F' A', bX7_meet_161 75 (nI r) (nI (S 82 r)) y (nI r) 93 (hp F A) = some (hp F' A') ∧ frR F A F' A' ∧ rr S (bsyN (cntN S (upN B 93 r x) r) (S 82 r)) F' A' := by
  subst hy
  have hm40 := hw.1
  obtain ⟨s81, s82, s83⟩ := hw.2.2.2.2.2.2 r (by omega)
  have hd : S 82 r < 4 := by omega
  unfold bX7_meet_161
  rw [sI_93 (by omega)]
  simp only [gR_75_15, gR_75_8, Option.bind_some]
  have hr2 := hr.upFt (r := r) (x := x) rfl
  have hb2 : bnd S u q (upN B 93 r x) := bnd_row hb (by omega)
  have hf2 : frR F A F (up2 A 93 r (nI x)) := frR.upA (by omega)
  have hg2 := hg.fr hf2
  rw [aI_88 hd, aI_83 (by omega)]
  simp only [Option.bind_some, (hr2.1 _ hd).2.2.2.2.1, (hg2.2.2.2.2.2 r (by omega)).2.2]
  by_cases h0 : S 83 r = 0
  · rw [if_pos (by rw [h0]; rfl)]
    obtain ⟨F', A', e1, e2, e3⟩ := q_m183 (s3 := 1) (y := 1) hw hg2 hr2 hb2 hq hu hm rfl (by rw [if_pos h0])
    exact ⟨F', A', e1, hf2.trans e2, e3⟩
  · rw [if_neg (nz (by omega) h0)]
    obtain ⟨F', A', e1, e2, e3⟩ := q_m183 (s3 := 0) (y := 0) hw hg2 hr2 hb2 hq hu hm rfl (by rw [if_neg h0])
    exact ⟨F', A', e1, hf2.trans e2, e3⟩
theorem q_m125 {u q r : Nat} {z : Bool} {zi : Int32} (hw : wf S) (hg : rg S F A) (hr : rr S B F A) (hb : bnd S u q B) (hq : q < 40) (hu : u ≤ 10000) (hm : r < S 75 5) (hz : (z = true ∧ zi = 1) ∨ (z = false ∧ zi = 0)) : ∃ F' A', bX7_meet_125 75 (nI r) (nI (S 82 r)) zi (hp F A) = some (hp F' A') ∧ frR F A F' A' ∧ rr S (bsyN (cntN S (upN B 93 r (codN S r z)) r) (S 82 r)) F' A' := by
  have hm40 := hw.1
  obtain ⟨s81, s82, s83⟩ := hw.2.2.2.2.2.2 r (by omega)
  unfold bX7_meet_125
  simp only [gR_75_20, gR_75_8, Option.bind_some]
  rw [aI_83 (by omega)]
  simp only [Option.bind_some, (hg.2.2.2.2.2 r (by omega)).2.2]
  by_cases h0 : S 83 r = 0
  · rw [if_pos (by rw [h0]; rfl)]
    rcases hz with ⟨rfl, rfl⟩ | ⟨rfl, rfl⟩
    · rw [if_neg n_10]
      exact q_m161 hw hg hr hb hq hu hm (by unfold codN; rw [if_pos h0]; rfl)
    · rw [if_pos rfl]
      exact q_m161 hw hg hr hb hq hu hm (by unfold codN; rw [if_pos h0]; rfl)
  · rw [if_neg (nz (by omega) h0)]
    rcases hz with ⟨rfl, rfl⟩ | ⟨rfl, rfl⟩
    · rw [if_neg n_10]
      exact q_m161 hw hg hr hb hq hu hm (by unfold codN; rw [if_neg h0]; rfl)
    · rw [if_pos rfl]
      exact q_m161 hw hg hr hb hq hu hm (by unfold codN; rw [if_neg h0]; rfl)
theorem q_m42 {u q r : Nat} {zi : Int32} (hw : wf S) (hg : rg S F A) (hr : rr S B F A) (hb : bnd S u q B) (hq : q < 40) (hu : u ≤ 10000) (hm : r < S 75 5) (hz : (slN B (S 82 r) = true ∧ zi = 1) ∨ (slN B (S 82 r) = false ∧ zi = 0)) (hc : ¬ (S 83 r = 1 ∧ slN B (S 82 r) = true ∧ B 75 22 < S 75 10)) : ∃ F' A', bX7_meet_42 75 (nI r) (nI (S 82 r)) zi (hp F A) = some (hp F' A') ∧ frR F A F' A' ∧ rr S (metN S B r) F' A' := by
  have hm40 := hw.1
  obtain ⟨s81, s82, s83⟩ := hw.2.2.2.2.2.2 r (by omega)
  have hd : S 82 r < 4 := by omega
  unfold metN
  rw [if_neg hc]
  unfold bX7_meet_42 bX7_meet_43
  rw [if_pos rfl]
  rcases hz with ⟨hz, rfl⟩ | ⟨hz, rfl⟩
  · rw [if_neg n_10, hz, if_pos rfl]
    obtain ⟨F1, A1, k1, k2, k3⟩ := q_wake hw hg hd hr hb
    obtain ⟨w1, w2, w3⟩ := wak_ok (S := S) (B := B) (d := S 82 r)
    have b22 := hb.2.2.1
    have hb1 : bnd S u q (wakN S B (S 82 r)) := by
      refine bnd_of hb (fun c i hc => w2 c i (by omega) (by omega) (by omega) (by omega) (by omega)) (by omega) ?_ (w3 _ hb.2.2.2.2)
      rw [w2 75 23 (by omega) (by omega) (by omega) (by omega) (by omega)]; exact hb.2.2.2.1
    simp only [ob_75, Option.bind_some, k1]
    obtain ⟨F', A', e1, e2, e3⟩ := q_m125 (z := true) (zi := 1) hw (hg.fr k2) k3 hb1 hq hu hm (Or.inl ⟨rfl, rfl⟩)
    exact ⟨F', A', e1, k2.trans e2, e3⟩
  · rw [if_pos rfl, hz, if_neg (by decide)]
    exact q_m125 (z := false) (zi := 0) hw hg hr hb hq hu hm (Or.inr ⟨rfl, rfl⟩)
theorem q_m93 {u q r mx : Nat} (hw : wf S) (hr : rr S B F A) (hb : bnd S u q B) (hm : r < S 75 5) (hmx : mx = max (B 75 23) (B 75 22 + 1)) : ∃ F' A', bX7_meet_93 75 (nI r) (nI (S 82 r)) (nI mx) 75 (hp (up2 F 75 22 (nI (B 75 22 + 1))) (up2 A 94 (B 75 22) (nI r))) = some (hp F' A') ∧ frR F A F' A' ∧ rr S (entN S B r) F' A' := by
  have hm40 := hw.1
  obtain ⟨s81, s82, s83⟩ := hw.2.2.2.2.2.2 r (by omega)
  have hd : S 82 r < 4 := by omega
  obtain ⟨r1, r2, r3, r4, r5, r6⟩ := id hr
  unfold bX7_meet_93
  simp only [pI_75_23, gR_75_17, Option.bind_some]
  rw [aI_90 hd, Option.bind_some, up2_ne (by omega), (r1 _ hd).2.2.2.2.2.2.1, sI_90 hd]
  simp only [gR_75_20, Option.bind_some]
  rw [sI_93 (by omega)]
  simp only [Option.bind_some, bX7_meet_214]
  refine ⟨_, _, rfl, ?_, ?_⟩
  · exact ⟨fun c hc => by rw [up2_off hc, up2_off hc], fun j j1 j2 => by rw [up2_ne (by omega), up2_ne (by omega)], fun c hc => by rw [up2_off (by omega), up2_off (by omega), up2_off (by omega)]⟩
  · unfold entN
    refine rr.upFt ?_ rfl
    refine rr.upD ?_ (by omega) (nI_1 _)
    refine ⟨fun e he => ?_, fun e k he hk => ?_, fun i hi => ?_, fun k hk => ?_, ?_, ?_⟩
    · simp (disch := omega) only [up2_ne, upN_ne]; exact r1 e he
    · simp (disch := omega) only [up2_ne, upN_ne] at hk ⊢; exact r2 e k he hk
    · simp (disch := omega) only [up2_ne, upN_ne]; exact r3 i hi
    · rw [upN_ne (by omega), upN_eq] at hk
      rw [upN_ne (by omega), upN_ne (by omega)]
      by_cases e : k = B 75 22
      · subst e; rw [up2_eq, upN_eq]
      · rw [up2_ne (by omega), upN_ne (by omega)]; exact r4 k (by omega)
    · rw [up2_ne (by omega), up2_eq, upN_ne (by omega), upN_eq]
    · rw [up2_eq, upN_eq, hmx]
theorem q_meet {u q r : Nat} (hw : wf S) (hg : rg S F A) (hr : rr S B F A) (hb : bnd S u q B) (hq : q < 40) (hu : u ≤ 10000) (hm : r < S 75 5) : ∃ F' A', fX7_meet (hp F A) 75 (nI r) = some (hp F' A') ∧ frR F A F' A' ∧ rr S (metN S B r) F' A' := by
  have hm40 := hw.1
  obtain ⟨s81, s82, s83⟩ := hw.2.2.2.2.2.2 r (by omega)
  obtain ⟨a81, a82, a83⟩ := hg.2.2.2.2.2 r (by omega)
  have hd : S 82 r < 4 := by omega
  have hroom := hw.2.2.1
  obtain ⟨r1, r2, r3, r4, r5, r6⟩ := id hr
  have b22 := hb.2.2.1
  have b23 := hb.2.2.2.1
  have hb40 : bnd S u 40 B := ⟨fun d hd => by have := hb.1 d hd; omega, hb.2⟩
  unfold fX7_meet
  simp only [gR_75_7, gR_75_8, ob_75, Option.bind_some]
  rw [aI_82 (by omega), Option.bind_some, a82, q_sleeps hd hr hb40 hw hu, Option.bind_some, aI_83 (by omega), Option.bind_some, a83]
  cases hz : slN B (S 82 r)
  · rw [if_neg (by decide : ¬ (false = true))]
    have := q_m42 (zi := 0) hw hg hr hb hq hu hm (Or.inr ⟨hz, rfl⟩) (by rw [hz]; simp)
    rw [if_pos (rfl : (0 : Int32) = 0)]
    split <;> exact this
  · rw [if_pos (rfl : true = true)]
    by_cases h1 : S 83 r = 1
    · rw [if_pos (by rw [h1]; rfl), if_neg n_10]
      simp only [gI_75_22, gI_75_10, Option.bind_some, r5, hg.2.2.1]
      by_cases hc : B 75 22 < S 75 10
      · rw [if_neg (nI_ge hc (by omega))]
        unfold bX7_meet_43 metN
        rw [if_neg n_10, if_pos ⟨h1, hz, hc⟩]
        rw [gR_75_21, Option.bind_some, gI_75_22, Option.bind_some, r5, sI_94 (by omega), Option.bind_some, gI_75_22, Option.bind_some, r5, pI_75_22, Option.bind_some, gI_75_22, Option.bind_some, gI_75_23, Option.bind_some, up2_eq, up2_ne (by omega), r6, nI_1]
        by_cases hmx : B 75 22 + 1 ≤ B 75 23
        · rw [if_pos (nI_le hmx (by omega)), Option.bind_some]
          exact q_m93 hw hr hb hm (by omega)
        · rw [if_neg (nI_ge (by omega) (by omega)), Option.bind_some]
          exact q_m93 hw hr hb hm (by omega)
      · rw [if_pos (nI_le (by omega) (by omega))]
        exact q_m42 (zi := 1) hw hg hr hb hq hu hm (Or.inl ⟨hz, rfl⟩) (by omega)
    · rw [if_neg (ne_c (x := 1) 1 rfl (by omega) (by omega) h1)]
      exact q_m42 (zi := 1) hw hg hr hb hq hu hm (Or.inl ⟨hz, rfl⟩) (fun h => h1 h.1)
end
