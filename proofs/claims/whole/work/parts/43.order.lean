/-! the requests in their order -/
def od (S : bk) (k : Nat) (L : List Nat) : Prop := L.length = k ∧ (∀ x ∈ L, x < k) ∧ L.Pairwise (fun a b => S 81 a ≤ S 81 b) ∧ ∀ t, L.filter (fun r => decide (S 81 r = t)) = (List.range k).filter (fun r => decide (S 81 r = t))
def oa (L : List Nat) (A : Nat → Nat → Int32) (R : Nat) : Prop := ∀ i x, L[i]? = some x → A R i = nI x
theorem od_ins {S : bk} {k p : Nat} {L : List Nat} (h : od S k L) (hp : p ≤ k) (h1 : ∀ i x, p ≤ i → L[i]? = some x → S 81 k < S 81 x) (h2 : ∀ x, p ≠ 0 → L[p - 1]? = some x → S 81 x ≤ S 81 k) : od S (k + 1) (L.take p ++ k :: L.drop p) := by
  obtain ⟨l1, l2, l3, l4⟩ := h
  have hd : ∀ x ∈ L.drop p, S 81 k < S 81 x := fun x hx => by
    obtain ⟨i, hi⟩ := List.getElem?_of_mem hx
    rw [List.getElem?_drop] at hi
    exact h1 (p + i) x (by omega) hi
  have ht : ∀ x ∈ L.take p, S 81 x ≤ S 81 k := fun x hx => by
    obtain ⟨i, hi⟩ := List.getElem?_of_mem hx
    have hip : i < p := by
      have := (List.getElem?_eq_some_iff.mp hi).1
      rw [List.length_take] at this
      omega
    rw [List.getElem?_take, if_pos hip] at hi
    have hpl : p - 1 < L.length := by omega
    have e1 : L[p - 1]? = some L[p - 1] := List.getElem?_eq_getElem hpl
    have h3 := h2 _ (by omega) e1
    by_cases e : i = p - 1
    · rw [e, e1] at hi
      cases hi
      exact h3
    · have hil : i < L.length := by omega
      have e2 : L[i]? = some L[i] := List.getElem?_eq_getElem hil
      rw [e2] at hi
      cases hi
      exact Nat.le_trans (List.pairwise_iff_getElem.mp l3 i (p - 1) hil hpl (by omega)) h3
  refine ⟨by simp; omega, fun x hx => ?_, ?_, fun t => ?_⟩
  · rcases List.mem_append.mp hx with hx | hx
    · have := l2 x (List.mem_of_mem_take hx); omega
    · rcases List.mem_cons.mp hx with rfl | hx
      · omega
      · have := l2 x (List.mem_of_mem_drop hx); omega
  · refine List.pairwise_append.mpr ⟨l3.sublist (List.take_sublist p L), List.pairwise_cons.mpr ⟨fun x hx => Nat.le_of_lt (hd x hx), l3.sublist (List.drop_sublist p L)⟩, fun a ha b hb => ?_⟩
    rcases List.mem_cons.mp hb with rfl | hb
    · exact ht a ha
    · exact Nat.le_trans (ht a ha) (Nat.le_of_lt (hd b hb))
  · rw [List.range_succ, List.filter_append, List.filter_append, ← l4 t]
    have e : L.filter (fun r => decide (S 81 r = t)) = (L.take p).filter (fun r => decide (S 81 r = t)) ++ (L.drop p).filter (fun r => decide (S 81 r = t)) := by
      rw [← List.filter_append, List.take_append_drop]
    rw [e]
    by_cases hk : S 81 k = t
    · have e2 : (L.drop p).filter (fun r => decide (S 81 r = t)) = [] := by
        rw [List.filter_eq_nil_iff]
        intro x hx
        have := hd x hx
        simp
        omega
      rw [List.filter_cons, if_pos (by simpa using hk), e2, List.append_nil, List.filter_cons, if_pos (by simpa using hk)]
      rfl
    · rw [List.filter_cons, if_neg (by simpa using hk), List.filter_cons, if_neg (by simpa using hk), List.filter_nil, List.append_nil]
section
variable {S B : bk} {F A : Nat → Nat → Int32}
theorem p_ins {k R : Nat} {L : List Nat} (hw : wf S) (hR : ok_A R 0 40 = true) (hR4 : R ≠ 4) (hk : k < 40) (hL : od S k L) : ∀ (p fu : Nat) (A : Nat → Nat → Int32), p < fu → p ≤ k → (∀ i, i < 40 → A 4 i = nI (S 81 i)) → (∀ i x, i < p → L[i]? = some x → A R i = nI x) → (∀ i x, p ≤ i → L[i]? = some x → A R (i + 1) = nI x ∧ S 81 k < S 81 x) →
    ∃ p' A', lX3_putInOrder_12 3 R (nI k) fu (nI p) (hp F A) = some (nI p', hp F A') ∧ p' ≤ k ∧ (∀ c, c ≠ R → A' c = A c) ∧ (∀ i x, i < p' → L[i]? = some x → A' R i = nI x) ∧ (∀ i x, p' ≤ i → L[i]? = some x → A' R (i + 1) = nI x ∧ S 81 k < S 81 x) ∧ (∀ x, p' ≠ 0 → L[p' - 1]? = some x → S 81 x ≤ S 81 k) := by
  intro p
  induction p with
  | zero =>
    intro fu A hf hpk a4 b1 b2
    obtain ⟨f, rfl⟩ : ∃ f, fu = f + 1 := ⟨fu - 1, by omega⟩
    exact ⟨0, A, by rw [lX3_putInOrder_12, if_pos (by decide)], hpk, fun _ _ => rfl, b1, b2, fun x h => absurd rfl h⟩
  | succ p ih =>
    intro fu A hf hpk a4 b1 b2
    obtain ⟨f, rfl⟩ : ∃ f, fu = f + 1 := ⟨fu - 1, by omega⟩
    have hl := hL.1
    have hpl : p < L.length := by omega
    have e1 : L[p]? = some L[p] := List.getElem?_eq_getElem hpl
    have hx := hL.2.1 L[p] (List.getElem_mem hpl)
    have hA := b1 p L[p] (by omega) e1
    have s1 := (hw.2.2.2.2.2.2 L[p] (by omega)).1
    have s2 := (hw.2.2.2.2.2.2 k (by omega)).1
    rw [lX3_putInOrder_12, if_neg (nI_nle (by omega) (by omega)), gR_3_0, Option.bind_some, nI_pred, hp_aI 40 hR (by omega) (by decide), Option.bind_some, hA, aI_4 (by omega), Option.bind_some, a4 _ (by omega), Option.bind_some, aI_4 (by omega), Option.bind_some, a4 _ (by omega)]
    by_cases hc : S 81 L[p] ≤ S 81 k
    · rw [if_pos (nI_le hc (by omega))]
      refine ⟨p + 1, A, rfl, hpk, fun _ _ => rfl, b1, b2, fun x _ hx => ?_⟩
      rw [Nat.add_sub_cancel, e1] at hx
      cases hx
      exact hc
    · rw [if_neg (nI_ge (by omega) (by omega)), Option.bind_some, hp_sI 40 hR (by omega) (by decide), Option.bind_some, pk_m1]
      obtain ⟨p', A', r1, r2, r3, r4, r5, r6⟩ := ih f (up2 A R (p + 1) (nI L[p])) (by omega) (by omega) (fun i hi => by rw [up2_ne (by omega)]; exact a4 i hi)
        (fun i x hi hx => by rw [up2_ne (by omega)]; exact b1 i x (by omega) hx)
        (fun i x hi hx2 => by
          by_cases e : i = p
          · subst e
            rw [e1] at hx2
            cases hx2
            exact ⟨up2_eq _ _ _ _, by omega⟩
          · rw [up2_ne (by omega)]; exact b2 i x (by omega) hx2)
      exact ⟨p', A', r1, r2, fun c hc => by rw [r3 c hc, up2_off hc], r4, r5, r6⟩
theorem p_ord_l {R : Nat} (hw : wf S) (hR : ok_A R 0 40 = true) (hR4 : R ≠ 4) (hF : F 3 3 = nI (S 75 5)) : ∀ (j fu k : Nat) (L : List Nat) (A : Nat → Nat → Int32), j < fu → k + j = S 75 5 → (∀ i, i < 40 → A 4 i = nI (S 81 i)) → od S k L → oa L A R → ∃ L' A', lX3_putInOrder_2 3 R fu (nI k) (hp F A) = some (hp F A') ∧ (∀ c, c ≠ R → A' c = A c) ∧ od S (S 75 5) L' ∧ oa L' A' R := by
  have hm := hw.1
  intro j
  induction j with
  | zero =>
    intro fu k L A hf hk a4 hL hA
    obtain ⟨f, rfl⟩ : ∃ f, fu = f + 1 := ⟨fu - 1, by omega⟩
    refine ⟨L, A, ?_, fun _ _ => rfl, by rw [← show k = S 75 5 by omega]; exact hL, hA⟩
    rw [lX3_putInOrder_2, gI_3_3, Option.bind_some, hF, if_pos (nI_le (by omega) (by omega))]
  | succ j ih =>
    intro fu k L A hf hk a4 hL hA
    obtain ⟨f, rfl⟩ : ∃ f, fu = f + 1 := ⟨fu - 1, by omega⟩
    have hl := hL.1
    obtain ⟨p', A1, r1, r2, r3, r4, r5, r6⟩ := p_ins (F := F) hw hR hR4 (show k < 40 by omega) hL k ab_fu A (by unfold ab_fu; omega) (Nat.le_refl _) a4 (fun i x _ hx => hA i x hx) (fun i x hi hx => by
      have := (List.getElem?_eq_some_iff.mp hx).1
      omega)
    have hL2 := od_ins hL r2 (fun i x hi hx => (r5 i x hi hx).2) r6
    have hA2 : oa (L.take p' ++ k :: L.drop p') (up2 A1 R p' (nI k)) R := by
      intro i x hx
      by_cases h1 : i < p'
      · rw [List.getElem?_append_left (by rw [List.length_take]; omega), List.getElem?_take, if_pos h1] at hx
        rw [up2_ne (by omega)]
        exact r4 i x h1 hx
      · rw [List.getElem?_append_right (by rw [List.length_take]; omega), List.length_take, Nat.min_eq_left (by omega)] at hx
        by_cases h2 : i = p'
        · subst h2
          rw [Nat.sub_self, List.getElem?_cons_zero] at hx
          cases hx
          exact up2_eq _ _ _ _
        · rw [show i - p' = (i - 1 - p') + 1 by omega, List.getElem?_cons_succ, List.getElem?_drop, show p' + (i - 1 - p') = i - 1 by omega] at hx
          have := (r5 (i - 1) x (by omega) hx).1
          rw [show i - 1 + 1 = i by omega] at this
          rw [up2_ne (by omega)]
          exact this
    obtain ⟨L', A', q1, q2, q3, q4⟩ := ih f (k + 1) _ (up2 A1 R p' (nI k)) (by omega) (by omega) (fun i hi => by rw [up2_ne (by omega), r3 4 (Ne.symm hR4)]; exact a4 i hi) hL2 hA2
    refine ⟨L', A', ?_, fun c hc => by rw [q2 c hc, up2_off hc, r3 c hc], q3, q4⟩
    rw [lX3_putInOrder_2, gI_3_3, Option.bind_some, hF, if_neg (nI_ge (by omega) (by omega)), r1, Option.bind_some]
    unfold bX3_putInOrder_49
    rw [hp_sI 40 hR (by omega) (by decide), Option.bind_some, nI_1]
    exact q1
theorem p_ord {R : Nat} (hw : wf S) (hg : c1 S F A) (hR : ok_A R 0 40 = true) (hR4 : R ≠ 4) : ∃ L A', fX3_putInOrder (hp F A) 3 R = some (hp F A') ∧ (∀ c, c ≠ R → A' c = A c) ∧ od S (S 75 5) L ∧ oa L A' R := by
  have hm := hw.1
  obtain ⟨L, A', q1, q2, q3, q4⟩ := p_ord_l (F := F) hw hR hR4 hg.2.2.1 (S 75 5) ab_fu 0 [] A (by unfold ab_fu; omega) (by omega) (fun i hi => (hg.2.2.2.1 i hi).1) ⟨rfl, fun x hx => absurd hx List.not_mem_nil, List.Pairwise.nil, fun t => rfl⟩ (fun i x hx => by cases hx)
  refine ⟨L, A', ?_, q2, q3, q4⟩
  unfold fX3_putInOrder
  rw [show (nI 0) = (0 : Int32) from rfl] at q1
  rw [q1, Option.bind_some]
/-- a row in order falls into three -/
theorem od_three (f : Nat → Nat) (t : Nat) : ∀ L : List Nat, L.Pairwise (fun a b => f a ≤ f b) → L = L.filter (fun r => decide (f r < t)) ++ (L.filter (fun r => decide (f r = t)) ++ L.filter (fun r => decide (t < f r)))
  | [], _ => rfl
  | a :: L, h => by
    obtain ⟨h1, h2⟩ := List.pairwise_cons.mp h
    have ih := od_three f t L h2
    by_cases c1 : f a < t
    · rw [List.filter_cons, if_pos (by simpa using c1), List.filter_cons, if_neg (by simp; omega), List.filter_cons, if_neg (by simp; omega), List.cons_append, ← ih]
    · have e1 : L.filter (fun r => decide (f r < t)) = [] := by
        rw [List.filter_eq_nil_iff]
        intro x hx
        have := h1 x hx
        simp; omega
      rw [e1, List.nil_append] at ih
      rw [List.filter_cons, if_neg (by simpa using c1), e1, List.nil_append]
      by_cases c2 : f a = t
      · rw [List.filter_cons, if_pos (by simpa using c2), List.filter_cons, if_neg (by simp; omega), List.cons_append, ← ih]
      · have e2 : L.filter (fun r => decide (f r = t)) = [] := by
          rw [List.filter_eq_nil_iff]
          intro x hx
          have := h1 x hx
          simp; omega
        rw [e2, List.nil_append] at ih
        rw [List.filter_cons, if_neg (by simpa using c2), e2, List.nil_append, List.filter_cons, if_pos (by simp; omega), ← ih]
theorem od_cq {k : Nat} {L : List Nat} (h : od S k L) (hk : k = S 75 5) : ∀ t, (L.filter (fun r => decide (S 81 r < t))).length = cq S t
  | 0 => by
    have e : ∀ l : List Nat, l.filter (fun r => decide (S 81 r < 0)) = [] := fun l => List.filter_eq_nil_iff.mpr (fun x _ => by simp)
    unfold cq
    rw [e, e]
  | t + 1 => by
    rw [cq_l, od_cq h hk t, h.2.2.2 t, cq_s, hk]
    rfl
theorem od_drop {L : List Nat} (h : od S (S 75 5) L) (t : Nat) : L.drop (cq S t) = rqN S t ++ L.filter (fun r => decide (t < S 81 r)) := by
  have h3 := od_three (S 81) t L h.2.2.1
  have hc := od_cq h rfl t
  rw [h.2.2.2 t] at h3
  have : L.drop (cq S t) = (L.filter (fun r => decide (S 81 r < t)) ++ (rqN S t ++ L.filter (fun r => decide (t < S 81 r)))).drop (cq S t) := congrArg _ h3
  rw [this, ← hc, List.drop_left]
end
