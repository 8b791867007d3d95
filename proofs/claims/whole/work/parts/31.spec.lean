/-! THE RUN in natural numbers. B, by the reference's rows: 84 age, 85 level, 86 energy, 87 woken, 88 reads, 89 writes, 90 journaled, 91 rests, 92 rest (40 d + k), 93 fates, 94 lying, 75 [22 lie, 23 most] -/
abbrev bk : Type := Nat → Nat → Nat
theorem upN_eq (B : bk) (a k x : Nat) : upN B a k x a k = x := by simp [upN]
theorem upN_ne {B : bk} {a k b j x : Nat} (h : b ≠ a ∨ j ≠ k) : upN B a k x b j = B b j := by
  unfold upN
  rw [if_neg]
  intro ⟨h1, h2⟩
  rcases h with h | h
  · exact h h1
  · exact h h2
def slN (B : bk) (d : Nat) : Bool := decide (0 < B 84 d) && decide (0 < B 85 d)
def filN (S : bk) (d : Nat) : Nat → Nat → Nat → bk → Nat × bk
  | 0, _, n, B => (n, B)
  | j + 1, k, n, B => if S 82 (B 94 k) = d then filN S d j (k + 1) n (upN B 93 (B 94 k) 4) else filN S d j (k + 1) (n + 1) (upN B 94 n (B 94 k))
def wk1 (S B : bk) (d : Nat) : bk := upN (upN B 86 d (B 86 d + S 78 (4 * d + B 85 d))) 87 d (B 87 d + 1)
def wakN (S B : bk) (d : Nat) : bk := upN (filN S d (B 75 22) 0 0 (wk1 S B d)).2 75 22 (filN S d (B 75 22) 0 0 (wk1 S B d)).1
def bsyN (B : bk) (d : Nat) : bk := if 0 < B 84 d then upN (upN (upN B 92 (40 * d + B 91 d) (B 84 d)) 91 d (B 91 d + 1)) 84 d 0 else upN B 84 d 0
def entN (S B : bk) (r : Nat) : bk := upN (upN (upN (upN (upN B 94 (B 75 22) r) 75 22 (B 75 22 + 1)) 75 23 (max (B 75 23) (B 75 22 + 1))) 90 (S 82 r) (B 90 (S 82 r) + 1)) 93 r 5
def codN (S : bk) (r : Nat) (z : Bool) : Nat := if S 83 r = 0 then (if z then 2 else 1) else (if z then 6 else 3)
def cntN (S B : bk) (r : Nat) : bk := if S 83 r = 0 then upN B 88 (S 82 r) (B 88 (S 82 r) + 1) else upN B 89 (S 82 r) (B 89 (S 82 r) + 1)
def metN (S B : bk) (r : Nat) : bk := if S 83 r = 1 ∧ slN B (S 82 r) = true ∧ B 75 22 < S 75 10 then entN S B r
  else bsyN (cntN S (upN (if slN B (S 82 r) then wakN S B (S 82 r) else B) 93 r (codN S r (slN B (S 82 r)))) r) (S 82 r)
def bstN (c : Nat → Nat) : Nat → Nat
  | 0 => 0
  | k + 1 => if c (bstN c k) ≤ c (k + 1) then bstN c k else k + 1
def cstN (S : bk) (d t l : Nat) : Nat := S 77 (4 * d + l) * t + S 78 (4 * d + l)
def sumN (f : Nat → Nat) (a : Nat) : Nat → Nat
  | 0 => 0
  | j + 1 => sumN f a j + f (a + j)
def menN (B : bk) (d n : Nat) : Nat := sumN (fun k => B 92 (40 * d + k)) (B 91 d - min n (B 91 d)) (min n (B 91 d)) / min n (B 91 d)
def lvN (S B : bk) (d : Nat) : Nat := if S 79 d = 0 then 0 else if S 79 d = 1 then min (B 84 d / S 80 d) (S 76 d) else if S 79 d = 2 then bstN (cstN S d (B 84 d)) (S 76 d) else if B 91 d = 0 then 0 else bstN (cstN S d (menN B d (S 80 d))) (S 76 d)
def pasN (S B : bk) (d : Nat) : bk := upN (upN (upN B 85 d (lvN S B d)) 86 d (B 86 d + S 77 (4 * d + lvN S B d))) 84 d (B 84 d + 1)
def rqN (S : bk) (t : Nat) : List Nat := (List.range (S 75 5)).filter (fun r => decide (S 81 r = t))
def srvN (S : bk) (t : Nat) (B : bk) : bk := (rqN S t).foldl (metN S) B
def tckN (S : bk) (t : Nat) (B : bk) : bk := pasN S (pasN S (pasN S (pasN S (srvN S t B) 0) 1) 2) 3
def runN (S : bk) : Nat → bk
  | 0 => fun _ _ => 0
  | t + 1 => tckN S t (runN S t)
/-- bounds: ages up to u, rests up to q -/
def bnd (S : bk) (u q : Nat) (B : bk) : Prop :=
  (∀ d, d < 4 → B 84 d ≤ u ∧ B 85 d ≤ S 76 d ∧ B 91 d ≤ q) ∧ (∀ d k, d < 4 → k < B 91 d → 1 ≤ B 92 (40 * d + k) ∧ B 92 (40 * d + k) ≤ u) ∧
  B 75 22 ≤ 8 ∧ B 75 23 ≤ 8 ∧ ∀ k, k < B 75 22 → B 94 k < S 75 5
theorem bst_le (c : Nat → Nat) : ∀ k, bstN c k ≤ k
  | 0 => Nat.le_refl _
  | k + 1 => by
    have := bst_le c k
    unfold bstN
    split <;> omega
theorem sum_front (f : Nat → Nat) (a : Nat) : ∀ j, sumN f a (j + 1) = f a + sumN f (a + 1) j
  | 0 => by simp [sumN]
  | j + 1 => by
    show sumN f a (j + 1) + f (a + (j + 1)) = f a + (sumN f (a + 1) j + f (a + 1 + j))
    rw [sum_front f a j, show a + (j + 1) = a + 1 + j by omega]
    omega
theorem sum_le (f : Nat → Nat) (a u : Nat) : ∀ j, (∀ i, i < j → f (a + i) ≤ u) → sumN f a j ≤ j * u
  | 0, _ => Nat.zero_le _
  | j + 1, h => by
    have h1 := sum_le f a u j (fun i hi => h i (by omega))
    have h2 := h j (by omega)
    show sumN f a j + f (a + j) ≤ (j + 1) * u
    rw [Nat.add_mul]
    omega
theorem sum_ge (f : Nat → Nat) (a : Nat) : ∀ j, (∀ i, i < j → 1 ≤ f (a + i)) → j ≤ sumN f a j
  | 0, _ => Nat.zero_le _
  | j + 1, h => by
    have h1 := sum_ge f a j (fun i hi => h i (by omega))
    have h2 := h j (by omega)
    show j + 1 ≤ sumN f a j + f (a + j)
    omega
theorem lv_le {S B : bk} {d : Nat} : lvN S B d ≤ S 76 d := by
  unfold lvN
  split
  · omega
  · split
    · exact Nat.min_le_right _ _
    · split
      · exact bst_le _ _
      · split
        · omega
        · exact bst_le _ _
/-- what filN keeps -/
theorem fil_ok {S : bk} {d : Nat} : ∀ (j k n : Nat) (B : bk), n ≤ k → (filN S d j k n B).1 ≤ n + j ∧ (∀ c i, c ≠ 93 → c ≠ 94 → (filN S d j k n B).2 c i = B c i) ∧ (∀ m, (∀ i, i < k + j → B 94 i < m) → ∀ i, i < k + j → (filN S d j k n B).2 94 i < m)
  | 0, k, n, B, h => ⟨by simp [filN], fun _ _ _ _ => rfl, fun m hm i hi => hm i hi⟩
  | j + 1, k, n, B, h => by
    unfold filN
    split
    · obtain ⟨h1, h2, h3⟩ := fil_ok (S := S) (d := d) j (k + 1) n (upN B 93 (B 94 k) 4) (by omega)
      refine ⟨by omega, fun c i c1 c2 => ?_, fun m hm i hi => ?_⟩
      · rw [h2 c i c1 c2, upN_ne (Or.inl c1)]
      · exact h3 m (fun i hi => by rw [upN_ne (Or.inl (by decide))]; exact hm i (by omega)) i (by omega)
    · obtain ⟨h1, h2, h3⟩ := fil_ok (S := S) (d := d) j (k + 1) (n + 1) (upN B 94 n (B 94 k)) (by omega)
      refine ⟨by omega, fun c i c1 c2 => ?_, fun m hm i hi => ?_⟩
      · rw [h2 c i c1 c2, upN_ne (Or.inl c2)]
      · refine h3 m (fun i hi => ?_) i (by omega)
        by_cases e : i = n
        · subst e; rw [upN_eq]; exact hm k (by omega)
        · rw [upN_ne (Or.inr e)]; exact hm i (by omega)
theorem wak_ok {S B : bk} {d : Nat} : (wakN S B d) 75 22 ≤ B 75 22 ∧ (∀ c i, c ≠ 93 → c ≠ 94 → c ≠ 86 → c ≠ 87 → ¬ (c = 75 ∧ i = 22) → wakN S B d c i = B c i) ∧ (∀ m, (∀ i, i < B 75 22 → B 94 i < m) → ∀ i, i < (wakN S B d) 75 22 → (wakN S B d) 94 i < m) := by
  obtain ⟨h1, h2, h3⟩ := fil_ok (S := S) (d := d) (B 75 22) 0 0 (wk1 S B d) (Nat.le_refl _)
  have e1 : ∀ c i, c ≠ 86 → c ≠ 87 → wk1 S B d c i = B c i := fun c i c1 c2 => by
    unfold wk1
    rw [upN_ne (Or.inl c2), upN_ne (Or.inl c1)]
  unfold wakN
  refine ⟨by rw [upN_eq]; omega, fun c i c1 c2 c3 c4 c5 => ?_, fun m hm i hi => ?_⟩
  · rw [upN_ne (by omega), h2 c i c1 c2, e1 c i c3 c4]
  · rw [upN_eq] at hi
    rw [upN_ne (by omega)]
    exact h3 m (fun i hi => by rw [e1 94 i (by decide) (by decide)]; exact hm i (by omega)) i (by omega)
theorem bnd_bsy {S B : bk} {u q d : Nat} (hd : d < 4) (h : bnd S u q B) : bnd S u (q + 1) (bsyN B d) := by
  obtain ⟨h1, h2, h3, h4, h5⟩ := h
  unfold bsyN
  split
  · next ha =>
    refine ⟨fun e he => ?_, fun e k he hk => ?_, ?_, ?_, fun k hk => ?_⟩
    · obtain ⟨a1, a2, a3⟩ := h1 e he
      by_cases hed : e = d
      · subst hed
        simp (disch := omega) only [upN_eq, upN_ne]
        omega
      · simp (disch := omega) only [upN_eq, upN_ne]
        omega
    · obtain ⟨a1, a2, a3⟩ := h1 e he
      by_cases hed : e = d
      · subst hed
        simp (disch := omega) only [upN_eq, upN_ne] at hk ⊢
        by_cases hkk : k = B 91 e
        · subst hkk
          rw [upN_eq]; omega
        · rw [upN_ne (by omega)]
          exact h2 e k he (by omega)
      · simp (disch := omega) only [upN_eq, upN_ne] at hk ⊢
        by_cases hkk : 40 * e + k = 40 * d + B 91 d
        · rw [hkk, upN_eq]
          have := (h1 d hd).1
          omega
        · rw [upN_ne (by omega)]
          exact h2 e k he hk
    · simp (disch := omega) only [upN_ne]; exact h3
    · simp (disch := omega) only [upN_ne]; exact h4
    · simp (disch := omega) only [upN_ne] at hk ⊢; exact h5 k hk
  · next ha =>
    refine ⟨fun e he => ?_, fun e k he hk => ?_, ?_, ?_, fun k hk => ?_⟩
    · obtain ⟨a1, a2, a3⟩ := h1 e he
      by_cases hed : e = d
      · subst hed
        simp (disch := omega) only [upN_eq, upN_ne]
        omega
      · simp (disch := omega) only [upN_eq, upN_ne]
        omega
    · simp (disch := omega) only [upN_ne] at hk ⊢
      exact h2 e k he hk
    · simp (disch := omega) only [upN_ne]; exact h3
    · simp (disch := omega) only [upN_ne]; exact h4
    · simp (disch := omega) only [upN_ne] at hk ⊢; exact h5 k hk
/-- bounds hold where the rows that they name are the same -/
theorem bnd_of {S B B' : bk} {u q : Nat} (h : bnd S u q B) (e1 : ∀ c i, c = 84 ∨ c = 85 ∨ c = 91 ∨ c = 92 → B' c i = B c i) (e2 : B' 75 22 ≤ 8) (e3 : B' 75 23 ≤ 8) (e4 : ∀ k, k < B' 75 22 → B' 94 k < S 75 5) : bnd S u q B' := by
  obtain ⟨h1, h2, h3, h4, h5⟩ := h
  refine ⟨fun d hd => ?_, fun d k hd hk => ?_, e2, e3, e4⟩
  · rw [e1 84 d (by simp), e1 85 d (by simp), e1 91 d (by simp)]; exact h1 d hd
  · rw [e1 91 d (by simp)] at hk
    rw [e1 92 _ (by simp)]; exact h2 d k hd hk
theorem bnd_met {S B : bk} {u q r : Nat} (hw : wf S) (hr : r < S 75 5) (h : bnd S u q B) : bnd S u (q + 1) (metN S B r) := by
  have hr40 : r < 40 := by have := hw.1; omega
  have hd : S 82 r < 4 := by have := (hw.2.2.2.2.2.2 r hr40).2.1; omega
  have hroom := hw.2.2.1
  have hq : bnd S u (q + 1) B := ⟨fun d hd => by have := h.1 d hd; omega, h.2⟩
  obtain ⟨h1, h2, h3, h4, h5⟩ := id h
  unfold metN
  split
  · next hc =>
    unfold entN
    refine bnd_of hq (fun c i hc => ?_) ?_ ?_ (fun k hk => ?_)
    · rw [upN_ne (by omega), upN_ne (by omega), upN_ne (by omega), upN_ne (by omega), upN_ne (by omega)]
    · rw [upN_ne (by omega), upN_ne (by omega), upN_ne (by omega), upN_eq]; omega
    · rw [upN_ne (by omega), upN_ne (by omega), upN_eq]; omega
    · rw [upN_ne (by omega), upN_ne (by omega), upN_ne (by omega), upN_eq] at hk
      rw [upN_ne (by omega), upN_ne (by omega), upN_ne (by omega), upN_ne (by omega)]
      by_cases e : k = B 75 22
      · rw [e, upN_eq]; exact hr
      · rw [upN_ne (by omega)]; exact h5 k (by omega)
  · refine bnd_bsy hd ?_
    obtain ⟨w1, w2, w3⟩ := wak_ok (S := S) (B := B) (d := S 82 r)
    have g0 : bnd S u q (if slN B (S 82 r) then wakN S B (S 82 r) else B) := by
      split
      · refine bnd_of h (fun c i hc => w2 c i (by omega) (by omega) (by omega) (by omega) (by omega)) (by omega) ?_ (w3 _ h5)
        rw [w2 75 23 (by omega) (by omega) (by omega) (by omega) (by omega)]; exact h4
      · exact h
    generalize (if slN B (S 82 r) then wakN S B (S 82 r) else B) = B1 at g0 ⊢
    have g1 : bnd S u q (upN B1 93 r (codN S r (slN B (S 82 r)))) := by
      refine bnd_of g0 (fun c i hc => by rw [upN_ne (by omega)]) ?_ ?_ (fun k hk => ?_)
      · rw [upN_ne (by omega)]; exact g0.2.2.1
      · rw [upN_ne (by omega)]; exact g0.2.2.2.1
      · rw [upN_ne (by omega)] at hk ⊢; exact g0.2.2.2.2 k hk
    generalize upN B1 93 r (codN S r (slN B (S 82 r))) = B2 at g1 ⊢
    unfold cntN
    split
    · refine bnd_of g1 (fun c i hc => by rw [upN_ne (by omega)]) ?_ ?_ (fun k hk => ?_)
      · rw [upN_ne (by omega)]; exact g1.2.2.1
      · rw [upN_ne (by omega)]; exact g1.2.2.2.1
      · rw [upN_ne (by omega)] at hk ⊢; exact g1.2.2.2.2 k hk
    · refine bnd_of g1 (fun c i hc => by rw [upN_ne (by omega)]) ?_ ?_ (fun k hk => ?_)
      · rw [upN_ne (by omega)]; exact g1.2.2.1
      · rw [upN_ne (by omega)]; exact g1.2.2.2.1
      · rw [upN_ne (by omega)] at hk ⊢; exact g1.2.2.2.2 k hk
theorem bnd_pas {S B : bk} {u q d : Nat} (h : bnd S u q B) : bnd S (u + 1) q (pasN S B d) := by
  obtain ⟨h1, h2, h3, h4, h5⟩ := h
  have hl := lv_le (S := S) (B := B) (d := d)
  unfold pasN
  refine ⟨fun e he => ?_, fun e k he hk => ?_, ?_, ?_, fun k hk => ?_⟩
  · obtain ⟨a1, a2, a3⟩ := h1 e he
    by_cases hed : e = d
    · subst hed
      simp (disch := omega) only [upN_eq, upN_ne]
      omega
    · simp (disch := omega) only [upN_eq, upN_ne]
      omega
  · simp (disch := omega) only [upN_ne] at hk ⊢
    have := h2 e k he hk
    omega
  · simp (disch := omega) only [upN_ne]; exact h3
  · simp (disch := omega) only [upN_ne]; exact h4
  · simp (disch := omega) only [upN_ne] at hk ⊢; exact h5 k hk
