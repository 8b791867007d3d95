/-! GAPS -/
def smN (f : Nat → Nat) : Nat → Nat
  | 0 => 0
  | n + 1 => smN f n + f n
theorem sm_eq {f g : Nat → Nat} : ∀ n, (∀ k, k < n → f k = g k) → smN f n = smN g n
  | 0, _ => rfl
  | n + 1, h => by
    rw [smN, smN, sm_eq n (fun k hk => h k (by omega)), h n (by omega)]
theorem sm_le {f g : Nat → Nat} : ∀ n, (∀ k, k < n → f k ≤ g k) → smN f n ≤ smN g n
  | 0, _ => Nat.le_refl _
  | n + 1, h => by
    have h1 := sm_le n (fun k hk => h k (by omega))
    have h2 := h n (by omega)
    rw [smN, smN]
    omega
theorem sm_add (f g : Nat → Nat) : ∀ n, smN (fun k => f k + g k) n = smN f n + smN g n
  | 0 => rfl
  | n + 1 => by
    have h1 := sm_add f g n
    rw [smN, smN, smN, h1]
    omega
def nxN (S : bk) (d t : Nat) : Nat → Nat
  | 0 => S 75 9
  | r + 1 => if S 82 r = d ∧ t < S 81 r ∧ S 81 r < nxN S d t r then S 81 r else nxN S d t r
theorem nx_le (S : bk) (d t : Nat) : ∀ r, nxN S d t r ≤ S 75 9
  | 0 => Nat.le_refl _
  | r + 1 => by
    have := nx_le S d t r
    rw [nxN]
    split <;> omega
theorem nx_gt {S : bk} {d t : Nat} (h : t < S 75 9) : ∀ r, t < nxN S d t r
  | 0 => h
  | r + 1 => by
    have := nx_gt (d := d) h r
    rw [nxN]
    split <;> omega
theorem nx_min {S : bk} {d t : Nat} : ∀ r r', r' < r → S 82 r' = d → t < S 81 r' → nxN S d t r ≤ S 81 r'
  | 0, r', h, _, _ => by omega
  | r + 1, r', h, h1, h2 => by
    rw [nxN]
    by_cases hr : r' = r
    · subst hr
      split <;> omega
    · have := nx_min r r' (by omega) h1 h2
      split <;> omega
theorem nx_or {S : bk} {d t : Nat} : ∀ r, nxN S d t r = S 75 9 ∨ ∃ r', r' < r ∧ S 82 r' = d ∧ t < S 81 r' ∧ nxN S d t r = S 81 r'
  | 0 => Or.inl rfl
  | r + 1 => by
    rw [nxN]
    split
    · rename_i h
      exact Or.inr ⟨r, by omega, h.1, h.2.1, rfl⟩
    · rcases nx_or (d := d) (t := t) r with h | ⟨r', h1, h2⟩
      · exact Or.inl h
      · exact Or.inr ⟨r', by omega, h2⟩
def nx (S : bk) (d t : Nat) : Nat := nxN S d t (S 75 5)
def eN (S : bk) (d : Nat) : Nat → Nat
  | 0 => 0
  | k + 1 => nx S d (eN S d k)
def glN (S : bk) (d k : Nat) : Nat := eN S d (k + 1) - eN S d k
def awN (S : bk) (d k : Nat) : Nat := S 77 (4 * d) * glN S d k
def teN (S : bk) (d k : Nat) : Nat := S 77 (4 * d + S 76 d) * glN S d k
def coN (S : bk) (d G k : Nat) : Nat := if k + 1 = G then teN S d k else lcN S d (glN S d k)
def svN (S : bk) (d G k : Nat) : Nat := awN S d k - coN S d G k
def gok (S : bk) (d G : Nat) : Prop := 1 ≤ G ∧ G ≤ 41 ∧ eN S d G = S 75 9 ∧ ∀ j, j < G → eN S d j < S 75 9
theorem bst_c0 (c : Nat → Nat) : ∀ k, c (bstN c k) ≤ c 0
  | 0 => Nat.le_refl _
  | k + 1 => by
    have := bst_c0 c k
    rw [bstN]
    split <;> omega
section
variable {S : bk} {F A : Nat → Nat → Int32} {d G k : Nat}
theorem gl_ok (hw : wf S) (h : eN S d k < S 75 9) : eN S d k < eN S d (k + 1) ∧ eN S d (k + 1) ≤ 1000 ∧ 1 ≤ glN S d k ∧ glN S d k ≤ 1000 := by
  have h1 : eN S d k < eN S d (k + 1) := nx_gt h _
  have h2 : eN S d (k + 1) ≤ S 75 9 := nx_le S d _ _
  have h3 := hw.2.1.2
  unfold glN
  omega
theorem aw_le (hw : wf S) (hd : d < 4) (h : glN S d k ≤ 1000) : awN S d k ≤ 100000 := by
  have hb0 := hw.2.2.2.2.1 d 0 hd (by omega)
  rw [Nat.add_zero] at hb0
  have : S 77 (4 * d) * glN S d k ≤ 100 * 1000 := Nat.mul_le_mul hb0.1 h
  unfold awN
  omega
theorem lc_aw (hw : wf S) (hd : d < 4) (g : Nat) : lcN S d g ≤ S 77 (4 * d) * g := by
  have h1 := bst_c0 (cstN S d g) (S 76 d)
  have h0 := (hw.2.2.2.1 d hd).2.2.2.2.2.1
  have h2 : cstN S d g 0 = S 77 (4 * d) * g + S 78 (4 * d) := rfl
  unfold lcN
  omega
theorem te_aw (hw : wf S) (hd : d < 4) : teN S d k ≤ awN S d k := by
  unfold teN awN
  refine Nat.mul_le_mul_right _ ?_
  rcases Nat.eq_zero_or_pos (S 76 d) with h | h
  · rw [h, Nat.add_zero]
    exact Nat.le_refl _
  · exact Nat.le_of_lt (pw_lt hw hd _ h (Nat.le_refl _))
theorem co_aw (hw : wf S) (hd : d < 4) : coN S d G k ≤ awN S d k := by
  unfold coN
  split
  · exact te_aw hw hd
  · exact lc_aw hw hd _
theorem p_add {a1 a2 a3 : Int32} (hF : F 34 4 = nI k) (hk : k < 41) : fX2_add (hp F A) 34 a1 a2 a3 = some (hp (up2 F 34 4 (nI (k + 1))) (up2 (up2 (up2 A 36 k a1) 37 k a2) 38 k (a2 - a3))) := by
  unfold fX2_add
  rw [gR_34_1, Option.bind_some, gI_34_4, Option.bind_some, hF, sI_36 hk, Option.bind_some, gR_34_2, Option.bind_some, gI_34_4, Option.bind_some, hF, sI_37 hk, Option.bind_some, gR_34_3, Option.bind_some, gI_34_4, Option.bind_some, hF, sI_38 hk, Option.bind_some, gI_34_4, Option.bind_some, hF, nI_1, pI_34_4, Option.bind_some]
def gd (S : bk) (d k : Nat) (F A : Nat → Nat → Int32) : Prop := F 34 4 = nI k ∧ ∀ j, j < k → A 36 j = nI (eN S d (j + 1)) ∧ A 37 j = nI (awN S d j) ∧ A 38 j = nI (awN S d j - lcN S d (glN S d j))
def frP (F A F' A' : Nat → Nat → Int32) : Prop := (∀ c, c ≠ 34 → F' c = F c) ∧ (∀ c, ¬ (36 ≤ c ∧ c ≤ 38) → A' c = A c)
theorem p_find_l {L : List Nat} (hw : wf S) (hd : d < 4) (hL : od S (S 75 5) L) : ∀ (rs pre : List Nat) (fu k : Nat) (F A : Nat → Nat → Int32), rs.length < fu → L = pre ++ rs → k ≤ pre.length → (∀ q, q ≤ k → eN S d q < S 75 9) → (∀ x, x ∈ pre → S 82 x = d → S 81 x < S 75 9 → S 81 x ≤ eN S d k) → c1 S F A → oa L A 35 → gd S d k F A →
    ∃ k' F' A', lX2_find_32 34 1 (nI d) 3 (7 + 3 * d) fu (nI (eN S d k)) (nI pre.length) (hp F A) = some (nI (eN S d k'), hp F' A') ∧ k' ≤ S 75 5 ∧ (∀ q, q ≤ k' → eN S d q < S 75 9) ∧ (∀ x, x ∈ L → S 82 x = d → S 81 x < S 75 9 → S 81 x ≤ eN S d k') ∧ gd S d k' F' A' ∧ frP F A F' A' := by
  have hm := hw.1
  intro rs
  induction rs with
  | nil =>
    intro pre fu k F A hf hpre hk hE hx hc ho hgd
    obtain ⟨f, rfl⟩ : ∃ f, fu = f + 1 := ⟨fu - 1, by simp at hf; omega⟩
    have hlen : pre.length = S 75 5 := by
      have := hL.1
      rw [hpre, List.append_nil] at this
      exact this
    refine ⟨k, F, A, ?_, by omega, hE, fun x hxL => hx x (by rw [hpre, List.append_nil] at hxL; exact hxL), hgd, ⟨fun _ _ => rfl, fun _ _ => rfl⟩⟩
    rw [lX2_find_32, gI_3_3, Option.bind_some, hc.2.2.1, if_pos (nI_le (by omega) (by omega))]
  | cons r tl ih =>
    intro pre fu k F A hf hpre hk hE hx hc ho hgd
    obtain ⟨f, rfl⟩ : ∃ f, fu = f + 1 := ⟨fu - 1, by omega⟩
    have hlen : pre.length + (tl.length + 1) = S 75 5 := by
      have := hL.1
      rw [hpre, List.length_append, List.length_cons] at this
      exact this
    have hrL : r ∈ L := by rw [hpre]; simp
    have hrm : r < S 75 5 := hL.2.1 r hrL
    have h35 : A 35 pre.length = nI r := ho pre.length r (by rw [hpre]; simp)
    obtain ⟨x1, x2, x3⟩ := hc.2.2.2.1 r (by omega)
    obtain ⟨w1, w2, w3⟩ := hw.2.2.2.2.2.2 r (by omega)
    have hEk := hE k (Nat.le_refl _)
    have h9 := hw.2.1.2
    have hpre2 : L = (pre ++ [r]) ++ tl := by rw [hpre]; simp
    have hlen2 : (pre ++ [r]).length = pre.length + 1 := by simp
    rw [lX2_find_32, gI_3_3, Option.bind_some, hc.2.2.1, if_neg (nI_ge (by omega) (by omega)), gR_3_0, Option.bind_some, gR_34_0, Option.bind_some, aI_35 (by omega), Option.bind_some, h35, aI_4 (by omega), Option.bind_some, x1, gR_3_1, Option.bind_some, Option.bind_some, aI_35 (by omega), Option.bind_some, h35, aI_5 (by omega), Option.bind_some, x2]
    unfold bX2_find_120
    have skip : (∀ x, x ∈ pre ++ [r] → S 82 x = d → S 81 x < S 75 9 → S 81 x ≤ eN S d k) → ∃ k' F' A', lX2_find_32 34 1 (nI d) 3 (7 + 3 * d) f (nI (eN S d k)) (nI pre.length + 1) (hp F A) = some (nI (eN S d k'), hp F' A') ∧ k' ≤ S 75 5 ∧ (∀ q, q ≤ k' → eN S d q < S 75 9) ∧ (∀ x, x ∈ L → S 82 x = d → S 81 x < S 75 9 → S 81 x ≤ eN S d k') ∧ gd S d k' F' A' ∧ frP F A F' A' := by
      intro hx2
      have := ih (pre ++ [r]) f k F A (by simp at hf; omega) hpre2 (by omega) hE hx2 hc ho hgd
      rw [hlen2] at this
      rw [nI_1]
      exact this
    by_cases hdd : S 82 r = d
    · rw [if_pos (by rw [hdd]), gI_1_2, Option.bind_some, hc.1]
      by_cases ht1 : S 75 9 ≤ S 81 r
      · rw [if_pos (nI_le ht1 (by omega))]
        refine skip (fun x hxp h1 h2 => ?_)
        rcases List.mem_append.mp hxp with hxp | hxp
        · exact hx x hxp h1 h2
        · have : x = r := by simpa using hxp
          subst this
          omega
      rw [if_neg (nI_ge (by omega) (by omega))]
      by_cases ht2 : S 81 r ≤ eN S d k
      · rw [if_pos (nI_le ht2 (by omega))]
        refine skip (fun x hxp h1 h2 => ?_)
        rcases List.mem_append.mp hxp with hxp | hxp
        · exact hx x hxp h1 h2
        · have : x = r := by simpa using hxp
          subst this
          omega
      rw [if_neg (nI_ge (by omega) (by omega))]
      have hsort : ∀ x, x ∈ tl → S 81 r ≤ S 81 x := by
        have := hL.2.2.1
        rw [hpre] at this
        have := (List.pairwise_append.mp this).2.1
        exact (List.pairwise_cons.mp this).1
      have hmemL : ∀ x, x < S 75 5 → x ∈ L := fun x hxm => by
        have h1 := hL.2.2.2 (S 81 x)
        have h2 : x ∈ (List.range (S 75 5)).filter (fun r => decide (S 81 r = S 81 x)) := by
          rw [List.mem_filter]
          exact ⟨List.mem_range.mpr hxm, by simp⟩
        rw [← h1, List.mem_filter] at h2
        exact h2.1
      have hnx : eN S d (k + 1) = S 81 r := by
        show nx S d (eN S d k) = S 81 r
        have n1 : nx S d (eN S d k) ≤ S 81 r := nx_min (S 75 5) r hrm hdd (by omega)
        rcases nx_or (S := S) (d := d) (t := eN S d k) (S 75 5) with h | ⟨r', r1, r2, r3, r4⟩
        · have : nx S d (eN S d k) = S 75 9 := h
          omega
        · have r4' : nx S d (eN S d k) = S 81 r' := r4
          have := hmemL r' r1
          rw [hpre] at this
          rcases List.mem_append.mp this with hm' | hm'
          · have := hx r' hm' r2 (by omega)
            omega
          · rcases List.mem_cons.mp hm' with rfl | hm'
            · exact r4'
            · have := hsort r' hm'
              omega
      have hgl : S 81 r - eN S d k = glN S d k := by unfold glN; rw [hnx]
      have hg4 := gl_ok (k := k) hw hEk
      have x0 := (hc.2.2.2.2.2 d 0 hd (by omega)).1
      rw [Nat.add_zero] at x0
      have hlca := lc_aw hw hd (glN S d k)
      rw [dgR0 hd, Option.bind_some, da0 hd, Option.bind_some, x0, dob hd, Option.bind_some, pk_sub (by omega), hgl, p_lc hw hc hd (by omega), Option.bind_some, ob_34, Option.bind_some, p_add hgd.1 (by omega), Option.bind_some, pk_mul, show S 77 (4 * d) * glN S d k = awN S d k from rfl, pk_sub (show lcN S d (glN S d k) ≤ awN S d k from hlca), ← hnx]
      have hgd2 : gd S d (k + 1) (up2 F 34 4 (nI (k + 1))) (up2 (up2 (up2 A 36 k (nI (eN S d (k + 1)))) 37 k (nI (awN S d k))) 38 k (nI (awN S d k - lcN S d (glN S d k)))) := by
        refine ⟨up2_eq _ _ _ _, fun j hj => ?_⟩
        by_cases hjk : j = k
        · subst hjk
          refine ⟨?_, ?_, ?_⟩
          · rw [up2_ne (by omega), up2_ne (by omega), up2_eq]
          · rw [up2_ne (by omega), up2_eq]
          · rw [up2_eq]
        · rw [up2_ne (by omega), up2_ne (by omega), up2_ne (by omega), up2_ne (by omega), up2_ne (by omega), up2_ne (by omega), up2_ne (by omega), up2_ne (by omega), up2_ne (by omega)]
          exact hgd.2 j (by omega)
      have hc2 : c1 S (up2 F 34 4 (nI (k + 1))) (up2 (up2 (up2 A 36 k (nI (eN S d (k + 1)))) 37 k (nI (awN S d k))) 38 k (nI (awN S d k - lcN S d (glN S d k)))) := (((hc.hiF (by omega)).hi (by omega)).hi (by omega)).hi (by omega)
      have ho2 : oa L (up2 (up2 (up2 A 36 k (nI (eN S d (k + 1)))) 37 k (nI (awN S d k))) 38 k (nI (awN S d k - lcN S d (glN S d k)))) 35 := fun i x hix => by
        rw [up2_off (by omega), up2_off (by omega), up2_off (by omega)]
        exact ho i x hix
      obtain ⟨k', F', A', z1, z2, z3, z4, z5, z6⟩ := ih (pre ++ [r]) f (k + 1) _ _ (by simp at hf; omega) hpre2 (by omega) (fun q hq => by
        by_cases hqk : q = k + 1
        · rw [hqk, hnx]; omega
        · exact hE q (by omega)) (fun x hxp h1 h2 => by
        rcases List.mem_append.mp hxp with hxp | hxp
        · have := hx x hxp h1 h2
          omega
        · have : x = r := by simpa using hxp
          subst this
          omega) hc2 ho2 hgd2
      rw [hlen2] at z1
      refine ⟨k', F', A', ?_, z2, z3, z4, z5, ⟨fun c hcc => ?_, fun c hcc => ?_⟩⟩
      · rw [nI_1]; exact z1
      · rw [z6.1 c hcc, up2_off hcc]
      · rw [z6.2 c hcc, up2_off (by omega), up2_off (by omega), up2_off (by omega)]
    · rw [if_neg (fun e => hdd ((nI_eq (by omega) (by omega)).mp e))]
      refine skip (fun x hxp h1 h2 => ?_)
      rcases List.mem_append.mp hxp with hxp | hxp
      · exact hx x hxp h1 h2
      · have : x = r := by simpa using hxp
        subst this
        exact absurd h1 hdd
theorem p_find (hw : wf S) (hc : c1 S F A) (hd : d < 4) : ∃ G F' A', fX2_find (hp F A) 34 1 (nI d) = some (hp F' A') ∧ gok S d G ∧ (∀ c, c ≠ 34 → F' c = F c) ∧ (∀ c, ¬ (35 ≤ c ∧ c ≤ 38) → A' c = A c) ∧ F' 34 4 = nI G ∧ ∀ j, j < G → A' 36 j = nI (eN S d (j + 1)) ∧ A' 37 j = nI (awN S d j) ∧ A' 38 j = nI (svN S d G j) := by
  have hm := hw.1
  obtain ⟨L, A0, o1, o2, o3, o4⟩ := p_ord (R := 35) hw hc (by decide +kernel) (by omega)
  have hc0 : c1 S (up2 F 34 4 0) A0 := (hc.of (fun _ _ => rfl) (fun c hcc => o2 c (by omega))).hiF (by omega)
  obtain ⟨k, F1, A1, z1, z2, z3, z4, z5, z6⟩ := p_find_l hw hd o3 L [] ab_fu 0 (up2 F 34 4 0) A0 (by rw [o3.1]; unfold ab_fu; omega) rfl (Nat.zero_le _) (fun q hq => by
    rw [show q = 0 by omega]
    exact hw.2.1.1) (fun x hx => by simp at hx) hc0 o4 ⟨up2_eq _ _ _ _, fun j hj => by omega⟩
  rw [show nI (eN S d 0) = 0 from rfl, show nI ([] : List Nat).length = 0 from rfl] at z1
  have hEk := z3 k (Nat.le_refl _)
  have hg4 := gl_ok (k := k) hw hEk
  have h9 := hw.2.1.2
  have hmemL : ∀ x, x < S 75 5 → x ∈ L := fun x hxm => by
    have h1 := o3.2.2.2 (S 81 x)
    have h2 : x ∈ (List.range (S 75 5)).filter (fun r => decide (S 81 r = S 81 x)) := by
      rw [List.mem_filter]
      exact ⟨List.mem_range.mpr hxm, by simp⟩
    rw [← h1, List.mem_filter] at h2
    exact h2.1
  have hnx : eN S d (k + 1) = S 75 9 := by
    show nx S d (eN S d k) = S 75 9
    rcases nx_or (S := S) (d := d) (t := eN S d k) (S 75 5) with h | ⟨r', r1, r2, r3, r4⟩
    · exact h
    · have r4' : nx S d (eN S d k) = S 81 r' := r4
      have h5 : nx S d (eN S d k) ≤ S 75 9 := nx_le S d _ _
      by_cases hlt : S 81 r' < S 75 9
      · have := z4 r' (hmemL r' r1) r2 hlt
        omega
      · omega
  have hgl : S 75 9 - eN S d k = glN S d k := by unfold glN; rw [hnx]
  have hc1 : c1 S F1 A1 := hc0.of (fun c hcc => z6.1 c (by omega)) (fun c hcc => z6.2 c (by omega))
  have x0 := (hc1.2.2.2.2.2 d 0 hd (by omega)).1
  rw [Nat.add_zero] at x0
  have hD := (hw.2.2.2.1 d hd).1
  have xD := (hc1.2.2.2.2.2 d (S 76 d) hd (by omega)).1
  have x76 := (hc1.2.2.2.2.1 d hd).1
  have hte := te_aw (k := k) hw hd
  refine ⟨k + 1, up2 F1 34 4 (nI (k + 1)), up2 (up2 (up2 A1 36 k (nI (S 75 9))) 37 k (nI (awN S d k))) 38 k (nI (awN S d k - teN S d k)), ?_, ⟨by omega, by omega, hnx, fun j hj => z3 j (by omega)⟩, fun c hcc => ?_, fun c hcc => ?_, up2_eq _ _ _ _, fun j hj => ?_⟩
  · unfold fX2_find fX1_leastCostToEnd
    rw [gR_1_1, Option.bind_some, gR_1_0, Option.bind_some, daR hd, Option.bind_some, gR_34_0, Option.bind_some, ob_3, Option.bind_some, o1, Option.bind_some, pI_34_4, Option.bind_some, z1, Option.bind_some, gI_1_2, Option.bind_some, Option.bind_some, hc1.1, dgR0 hd, Option.bind_some, da0 hd, Option.bind_some, x0, dob hd, Option.bind_some, Option.bind_some, dgI2 hd, Option.bind_some, x76, daP hd (by omega), Option.bind_some, xD, pk_sub (by omega), hgl, Option.bind_some, ob_34, Option.bind_some, p_add z5.1 (by omega), Option.bind_some, pk_mul, pk_mul, show S 77 (4 * d) * glN S d k = awN S d k from rfl, show S 77 (4 * d + S 76 d) * glN S d k = teN S d k from rfl, pk_sub hte]
  · rw [up2_off hcc, z6.1 c hcc, up2_off hcc]
  · rw [up2_off (by omega), up2_off (by omega), up2_off (by omega), z6.2 c (by omega), o2 c (by omega)]
  · by_cases hjk : j = k
    · subst hjk
      refine ⟨?_, ?_, ?_⟩
      · rw [up2_ne (by omega), up2_ne (by omega), up2_eq, hnx]
      · rw [up2_ne (by omega), up2_eq]
      · rw [up2_eq]
        unfold svN coN
        rw [if_pos rfl]
    · rw [up2_ne (by omega), up2_ne (by omega), up2_ne (by omega), up2_ne (by omega), up2_ne (by omega), up2_ne (by omega), up2_ne (by omega), up2_ne (by omega), up2_ne (by omega)]
      unfold svN coN
      rw [if_neg (by omega)]
      exact z5.2 j (by omega)
end
