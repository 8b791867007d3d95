/-! WHAT POLICIES COST: a level by an age alone -/
theorem l62 {m : Nat} (h : m < 2 ^ 62) : (lN m).toInt = (m : Int) := by
  have hn : (lN m).toBitVec.toNat = m := by
    show (BitVec.ofNat 64 m).toNat = m
    rw [BitVec.toNat_ofNat]
    exact Nat.mod_eq_of_lt (by omega)
  have c := BitVec.toInt_eq_toNat_cond (lN m).toBitVec
  rw [hn] at c
  show (lN m).toBitVec.toInt = _
  rw [c]
  split <;> omega
theorem lcmp_le {a b : Nat} (ha : a < 2 ^ 62) (hb : b < 2 ^ 62) (h : a ≤ b) : lg_cmp (lN a) (lN b) ≤ 0 := by
  unfold lg_cmp
  rw [if_neg (show ¬ lN a > lN b by
    show ¬ lN b < lN a
    rw [Int64.lt_iff_toInt_lt, l62 ha, l62 hb]
    omega)]
  split <;> decide
theorem lcmp_gt {a b : Nat} (ha : a < 2 ^ 62) (hb : b < 2 ^ 62) (h : b < a) : ¬ lg_cmp (lN a) (lN b) ≤ 0 := by
  unfold lg_cmp
  rw [if_pos (show lN a > lN b by
    show lN b < lN a
    rw [Int64.lt_iff_toInt_lt, l62 ha, l62 hb]
    omega)]
  decide
def lvA (S : bk) (d a : Nat) : Nat := if S 79 d = 1 then min (a / S 80 d) (S 76 d) else if S 79 d = 2 then bstN (cstN S d a) (S 76 d) else 0
theorem lvA_le {S : bk} {d a : Nat} : lvA S d a ≤ S 76 d := by
  unfold lvA
  split
  · omega
  · split
    · exact bst_le _ _
    · omega
def pwN (S : bk) (d : Nat) (k : Nat) : Nat := sumN (fun a => S 77 (4 * d + lvA S d a)) 0 k
def laN (S : bk) (d : Nat) : Nat → Nat
  | 0 => 0
  | k + 1 => lvA S d k
def ctN (S : bk) (d k : Nat) : Nat := pwN S d k + S 78 (4 * d + laN S d k)
def lcN (S : bk) (d k : Nat) : Nat := cstN S d k (bstN (cstN S d k) (S 76 d))
theorem pw_s (S : bk) (d k : Nat) : pwN S d (k + 1) = pwN S d k + S 77 (4 * d + lvA S d k) := by
  show sumN _ 0 k + S 77 (4 * d + lvA S d (0 + k)) = _
  rw [Nat.zero_add]
  rfl
theorem la_le {S : bk} {d : Nat} : ∀ k, laN S d k ≤ S 76 d
  | 0 => Nat.zero_le _
  | _ + 1 => lvA_le
section
variable {S : bk} {F A : Nat → Nat → Int32} {d : Nat}
theorem pw_le (hw : wf S) (hd : d < 4) (k : Nat) : pwN S d k ≤ k * 100 := by
  have hD := (hw.2.2.2.1 d hd).1
  refine sum_le _ _ _ _ (fun i _ => ?_)
  have h1 := lvA_le (S := S) (d := d) (a := 0 + i)
  exact (hw.2.2.2.2.1 d (lvA S d (0 + i)) hd (by omega)).1
theorem ct_le (hw : wf S) (hd : d < 4) {k : Nat} (hk : k ≤ 1000) : ctN S d k ≤ 200000 := by
  have hD := (hw.2.2.2.1 d hd).1
  have h1 := pw_le hw hd k
  have h2 := la_le (S := S) (d := d) k
  have h3 := (hw.2.2.2.2.1 d (laN S d k) hd (by omega)).2
  unfold ctN
  omega
theorem lc_le (hw : wf S) (hd : d < 4) {k : Nat} (hk : k ≤ 1000) : lcN S d k ≤ 200000 := by
  have hD := (hw.2.2.2.1 d hd).1
  have h1 := bst_le (cstN S d k) (S 76 d)
  have h := hw.2.2.2.2.1 d (bstN (cstN S d k) (S 76 d)) hd (by omega)
  have : S 77 (4 * d + bstN (cstN S d k) (S 76 d)) * k ≤ 100 * 1000 := Nat.mul_le_mul h.1 hk
  have e : lcN S d k = S 77 (4 * d + bstN (cstN S d k) (S 76 d)) * k + S 78 (4 * d + bstN (cstN S d k) (S 76 d)) := rfl
  omega
theorem wk_pos (hw : wf S) (hd : d < 4) : ∀ l, l < S 76 d → 1 ≤ S 78 (4 * d + (l + 1)) := by
  intro l hl
  have := (hw.2.2.2.2.2.1 d l hd hl).2
  omega
theorem cst_pos (hw : wf S) (hd : d < 4) {k l : Nat} (hk : 1 ≤ k) (hl : l ≤ S 76 d) : 1 ≤ cstN S d k l := by
  unfold cstN
  rcases l with _ | l
  · have h1 := (hw.2.2.2.1 d hd).2.2.2.2.2.2
    have : 1 * 1 ≤ S 77 (4 * d + 0) * k := Nat.mul_le_mul h1 hk
    omega
  · have := wk_pos hw hd l (by omega)
    omega
theorem lc_pos (hw : wf S) (hd : d < 4) {k : Nat} (hk : 1 ≤ k) : 1 ≤ lcN S d k := cst_pos hw hd hk (bst_le _ _)
theorem bst_0 (hw : wf S) (hd : d < 4) : ∀ l, l ≤ S 76 d → bstN (cstN S d 0) l = 0
  | 0, _ => rfl
  | l + 1, h => by
    have h0 := bst_0 hw hd l (by omega)
    have h1 := (hw.2.2.2.1 d hd).2.2.2.2.2.1
    rw [bstN, h0, if_pos]
    unfold cstN
    rw [Nat.mul_zero, Nat.mul_zero, Nat.add_zero, h1]
    omega
theorem lvA_0 (hw : wf S) (hd : d < 4) : lvA S d 0 = 0 := by
  unfold lvA
  split
  · rw [Nat.zero_div, Nat.zero_min]
  · split
    · exact bst_0 hw hd _ (Nat.le_refl _)
    · rfl
theorem ct_pos (hw : wf S) (hd : d < 4) : 1 ≤ ctN S d 1 := by
  have h1 := (hw.2.2.2.1 d hd).2.2.2.2.2.2
  unfold ctN
  rw [pw_s, lvA_0 hw hd, Nat.add_zero]
  omega
theorem p_lvA {a : Nat} (hw : wf S) (hg : c1 S F A) (hd : d < 4) (ha : a ≤ 10000) : fX1_levelFor (hp F A) (7 + 3 * d) (nI a) (-6) = some (nI (lvA S d a)) := by
  obtain ⟨w1, w2, w3, w4, w5, w6, w7⟩ := hw.2.2.2.1 d hd
  obtain ⟨g1, g2, g3⟩ := hg.2.2.2.2.1 d hd
  unfold fX1_levelFor lvA
  rw [dgI3 hd, Option.bind_some, g2]
  by_cases k1 : S 79 d = 1
  · have w4 := w4 k1
    have hq : a / S 80 d ≤ a := Nat.div_le_self _ _
    rw [if_pos (by rw [k1]; rfl), if_pos k1, dgI4 hd, Option.bind_some, g3 (Or.inl k1), mx1 (by omega) (by omega), if_neg (nz (by omega) (by omega)), dgI2 hd, Option.bind_some, g1, pk_div (by omega) (by omega) (by omega), mnN (by omega) (by omega)]
  rw [if_neg (ne_c (x := 1) 1 rfl (by omega) (by omega) k1)]
  by_cases k2 : S 79 d = 2
  · rw [if_pos (by rw [k2]; rfl), if_neg k1, if_pos k2, dob hd, Option.bind_some, p_best hw hg hd (by omega), Option.bind_some]
  rw [if_neg (ne_c (x := 2) 2 rfl (by omega) (by omega) k2), if_neg k1, if_neg k2]
  split
  · rw [if_pos rfl]
    rfl
  · rfl
theorem q_lvA {a : Nat} (hw : wf S) (hg : rg S F A) (hd : d < 4) (ha : a ≤ 10000) (k3 : ¬ S 79 d = 3) : fX7_levelFor (hp F A) 75 (nI d) (nI a) = some (nI (lvA S d a)) := by
  obtain ⟨w1, w2, w3, w4, w5, w6, w7⟩ := hw.2.2.2.1 d hd
  obtain ⟨g1, g2, g3⟩ := hg.2.2.2.1 d hd
  unfold fX7_levelFor lvA
  rw [gR_75_3, Option.bind_some, aI_79 hd, Option.bind_some, g2]
  by_cases k0 : S 79 d = 0
  · rw [if_pos (by rw [k0]; rfl), if_neg (by omega), if_neg (by omega)]; rfl
  rw [if_neg (nz (by omega) k0)]
  by_cases k1 : S 79 d = 1
  · rw [if_pos (by rw [k1]; rfl), if_pos k1]
    have w4 := w4 k1
    rw [gR_75_4, Option.bind_some, aI_80 hd, Option.bind_some, g3, if_neg (nz (by omega) (by omega)), gR_75_0, Option.bind_some, aI_76 hd, Option.bind_some, g1, pk_div (by omega) (by omega) (by omega)]
    have hq : a / S 80 d ≤ a := Nat.div_le_self _ _
    by_cases hc : S 76 d ≤ a / S 80 d
    · rw [if_pos (nI_le hc (by omega)), Option.bind_some, aI_76 hd, Option.bind_some, g1, Nat.min_eq_right hc]
    · rw [if_neg (nI_ge (by omega) (by omega)), Option.bind_some, aI_80 hd, Option.bind_some, g3, if_neg (nz (by omega) (by omega)), Nat.min_eq_left (by omega), pk_div (by omega) (by omega) (by omega)]
  rw [if_neg (ne_c (x := 1) 1 rfl (by omega) (by omega) k1), if_neg k1]
  have k2 : S 79 d = 2 := by omega
  rw [if_pos (by rw [k2]; rfl), if_pos k2, ob_75, Option.bind_some, q_bestFor hw hg hd (by omega), Option.bind_some]
theorem p_ct_l {g : Nat} (hw : wf S) (hg : c1 S F A) (hd : d < 4) (hG : g ≤ 1000) : ∀ (j fu k : Nat), j < fu → k + j = g → lX1_costByPolicy_7 (hp F A) (7 + 3 * d) (nI g) fu (nI (pwN S d k)) (nI (laN S d k)) (nI k) = some (nI (pwN S d g), nI (laN S d g)) := by
  have hD := (hw.2.2.2.1 d hd).1
  intro j
  induction j with
  | zero =>
    intro fu k hf hk
    obtain ⟨f, rfl⟩ : ∃ f, fu = f + 1 := ⟨fu - 1, by omega⟩
    rw [lX1_costByPolicy_7, if_pos (nI_le (by omega) (by omega)), show k = g by omega]
  | succ j ih =>
    intro fu k hf hk
    obtain ⟨f, rfl⟩ : ∃ f, fu = f + 1 := ⟨fu - 1, by omega⟩
    have hl := lvA_le (S := S) (d := d) (a := k)
    have h := ih f (k + 1) (by omega) (by omega)
    rw [pw_s] at h
    rw [lX1_costByPolicy_7, if_neg (nI_ge (by omega) (by omega)), dob hd, Option.bind_some, p_lvA hw hg hd (by omega), Option.bind_some, dgR0 hd, Option.bind_some, daP hd (by omega), Option.bind_some, (hg.2.2.2.2.2 d _ hd (by omega)).1, nI_add, nI_1]
    exact h
theorem p_ct {g : Nat} (hw : wf S) (hg : c1 S F A) (hd : d < 4) (hG : g ≤ 1000) : fX1_costByPolicy (hp F A) (7 + 3 * d) (nI g) = some (nI (ctN S d g)) := by
  have hD := (hw.2.2.2.1 d hd).1
  have hl := la_le (S := S) (d := d) g
  have h := p_ct_l (F := F) (A := A) hw hg hd hG g ab_fu 0 (by unfold ab_fu; omega) (by omega)
  unfold fX1_costByPolicy
  rw [show (nI (pwN S d 0)) = 0 from rfl, show (nI (laN S d 0)) = 0 from rfl, show nI 0 = 0 from rfl] at h
  rw [h, Option.bind_some, dgR1 hd, Option.bind_some, daW hd (by omega), Option.bind_some, (hg.2.2.2.2.2 d _ hd (by omega)).2, nI_add]
  rfl
theorem q_ct_l {g : Nat} (hw : wf S) (hg : rg S F A) (hd : d < 4) (hG : g ≤ 1000) (k3 : ¬ S 79 d = 3) : ∀ (j fu k : Nat), j < fu → k + j = g → lX7_costOf_8 (hp F A) 75 (nI d) (nI g) fu (nI (pwN S d k)) (nI (laN S d k)) (nI k) = some (nI (pwN S d g), nI (laN S d g)) := by
  have hD := (hw.2.2.2.1 d hd).1
  intro j
  induction j with
  | zero =>
    intro fu k hf hk
    obtain ⟨f, rfl⟩ : ∃ f, fu = f + 1 := ⟨fu - 1, by omega⟩
    rw [lX7_costOf_8, if_pos (nI_le (by omega) (by omega)), show k = g by omega]
  | succ j ih =>
    intro fu k hf hk
    obtain ⟨f, rfl⟩ : ∃ f, fu = f + 1 := ⟨fu - 1, by omega⟩
    have hl := lvA_le (S := S) (d := d) (a := k)
    have h := ih f (k + 1) (by omega) (by omega)
    rw [pw_s] at h
    rw [lX7_costOf_8, if_neg (nI_ge (by omega) (by omega)), ob_75, Option.bind_some, q_lvA hw hg hd (by omega) k3, Option.bind_some, gR_75_1, Option.bind_some, ix4, aI_77 (by omega), Option.bind_some, (hg.2.2.2.2.1 _ (by omega)).1, nI_add, nI_1]
    exact h
theorem q_ct {g : Nat} (hw : wf S) (hg : rg S F A) (hd : d < 4) (hG : g ≤ 1000) (k3 : ¬ S 79 d = 3) : fX7_costOf (hp F A) 75 (nI d) (nI g) = some (nI (ctN S d g)) := by
  have hD := (hw.2.2.2.1 d hd).1
  have hl := la_le (S := S) (d := d) g
  have h := q_ct_l (F := F) (A := A) hw hg hd hG k3 g ab_fu 0 (by unfold ab_fu; omega) (by omega)
  unfold fX7_costOf
  rw [show (nI (pwN S d 0)) = 0 from rfl, show (nI (laN S d 0)) = 0 from rfl, show nI 0 = 0 from rfl] at h
  rw [h, Option.bind_some, ob_75, Option.bind_some, q_wakeOf hw hg hd (by omega), Option.bind_some, nI_add]
  rfl
theorem p_lc {k : Nat} (hw : wf S) (hg : c1 S F A) (hd : d < 4) (hk : k ≤ 1000) : fX1_leastCost (hp F A) (7 + 3 * d) (nI k) = some (nI (lcN S d k)) := by
  have hD := (hw.2.2.2.1 d hd).1
  have h1 := bst_le (cstN S d k) (S 76 d)
  unfold fX1_leastCost
  rw [dob hd, Option.bind_some, p_best hw hg hd (by omega), Option.bind_some, Option.bind_some, p_cost hg hd (by omega), Option.bind_some]
  rfl
theorem q_lc {k : Nat} (hw : wf S) (hg : rg S F A) (hd : d < 4) (hk : k ≤ 1000) : fX7_leastOf (hp F A) 75 (nI d) (nI k) = some (nI (lcN S d k)) := by
  have hD := (hw.2.2.2.1 d hd).1
  have h1 := bst_le (cstN S d k) (S 76 d)
  unfold fX7_leastOf
  rw [ob_75, Option.bind_some, q_bestFor hw hg hd (by omega), Option.bind_some, Option.bind_some, q_costWith hw hg hd (by omega), Option.bind_some]
  rfl
end
theorem pu_costs {h : ab_H} (hv : iv h) (a0 a1 : Int32) : ∃ r : Int32, fX6_costs h 0 a0 a1 = some r ∧ fX7_costs h 75 a0 a1 = some r := by
  obtain ⟨F, A, S, e, I⟩ := hv
  rw [e]
  obtain ⟨hw, hg, hc, -⟩ := id I
  by_cases hd : ¬ (0 ≤ a0 ∧ a0 ≤ 3)
  · refine ⟨-1, ?_, ?_⟩
    · unfold fX6_costs
      rw [isD_6, Option.bind_some, wi_0 hd, if_pos rfl]
    · unfold fX7_costs
      rw [isD_7, Option.bind_some, wi_0 hd, if_pos rfl]
  have hd := Classical.not_not.mp hd
  by_cases hk : ¬ (1 ≤ a1 ∧ a1 ≤ 1000)
  · refine ⟨-2, ?_, ?_⟩
    · unfold fX6_costs
      rw [isD_6, Option.bind_some, wi_1 hd, if_neg n_10, wi_6, Option.bind_some, wi_0 hk, if_pos rfl]
    · unfold fX7_costs
      rw [isD_7, Option.bind_some, wi_1 hd, if_neg n_10, wi_7, Option.bind_some, wi_0 hk, if_pos rfl]
  have hk := Classical.not_not.mp hk
  obtain ⟨d, hd3, rfl⟩ := rg_of 3 (by decide) hd
  obtain ⟨g, g1, g2, rfl⟩ := rg_of1 1 1000 (by decide) (by decide) hk
  have hd4 : d < 4 := by omega
  have x79 := (hc.2.2.2.2.1 d hd4).2.1
  have y79 := (hg.2.2.2.1 d hd4).2.1
  have w79 := (hw.2.2.2.1 d hd4).2.1
  by_cases k3 : S 79 d = 3
  · refine ⟨-3, ?_, ?_⟩
    · unfold fX6_costs
      rw [isD_6, Option.bind_some, wi_1 hd, if_neg n_10, wi_6, Option.bind_some, wi_1 hk, if_neg n_10, gR_0_0, Option.bind_some, gR_1_0, Option.bind_some, daR hd4, Option.bind_some, dgI3 hd4, Option.bind_some, x79, if_pos (by rw [k3]; rfl)]
    · unfold fX7_costs
      rw [isD_7, Option.bind_some, wi_1 hd, if_neg n_10, wi_7, Option.bind_some, wi_1 hk, if_neg n_10, gR_75_3, Option.bind_some, aI_79 hd4, Option.bind_some, y79, if_pos (by rw [k3]; rfl)]
  have n3 : ¬ nI (S 79 d) = 3 := ne_c 3 rfl (by omega) (by omega) k3
  refine ⟨nI (ctN S d g), ?_, ?_⟩
  · unfold fX6_costs
    rw [isD_6, Option.bind_some, wi_1 hd, if_neg n_10, wi_6, Option.bind_some, wi_1 hk, if_neg n_10, gR_0_0, Option.bind_some, gR_1_0, Option.bind_some, daR hd4, Option.bind_some, dgI3 hd4, Option.bind_some, x79, if_neg n3, Option.bind_some, gR_1_0, Option.bind_some, daR hd4, Option.bind_some, dob hd4, Option.bind_some, p_ct hw hc hd4 g2, Option.bind_some]
  · unfold fX7_costs
    rw [isD_7, Option.bind_some, wi_1 hd, if_neg n_10, wi_7, Option.bind_some, wi_1 hk, if_neg n_10, gR_75_3, Option.bind_some, aI_79 hd4, Option.bind_some, y79, if_neg n3, ob_75, Option.bind_some, q_ct hw hg hd4 g2 k3, Option.bind_some]
