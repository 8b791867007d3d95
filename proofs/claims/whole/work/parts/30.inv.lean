/-! THE INVARIANT. S: a setup in natural numbers, by the reference's rows: 75 [5 how many requests, 9 end, 10 room], 76 deepest, 77 powers, 78 wakes, 79 kinds, 80 steps, 81 ticks, 82 disks, 83 sorts. -/
def wf (S : Nat → Nat → Nat) : Prop :=
  S 75 5 ≤ 40 ∧ (1 ≤ S 75 9 ∧ S 75 9 ≤ 1000) ∧ S 75 10 ≤ 8 ∧
  (∀ d, d < 4 → S 76 d ≤ 3 ∧ S 79 d ≤ 3 ∧ 1 ≤ S 80 d ∧ (S 79 d = 1 → S 80 d ≤ 500) ∧ (S 79 d = 3 → S 80 d ≤ 4) ∧ S 78 (4 * d) = 0 ∧ 1 ≤ S 77 (4 * d)) ∧
  (∀ d l, d < 4 → l < 4 → S 77 (4 * d + l) ≤ 100 ∧ S 78 (4 * d + l) ≤ 999) ∧
  (∀ d l, d < 4 → l < S 76 d → S 77 (4 * d + (l + 1)) < S 77 (4 * d + l) ∧ S 78 (4 * d + l) < S 78 (4 * d + (l + 1))) ∧
  (∀ i, i < 40 → S 81 i ≤ 999 ∧ S 82 i ≤ 3 ∧ S 83 i ≤ 1)
/-- the class's setup that lies from b on -/
def cg (b : Nat) (S : Nat → Nat → Nat) (F A : Nat → Nat → Int32) : Prop :=
  F b 2 = nI (S 75 9) ∧ F b 3 = nI (S 75 10) ∧ F (b + 2) 3 = nI (S 75 5) ∧
  (∀ i, i < 40 → A (b + 3) i = nI (S 81 i) ∧ A (b + 4) i = nI (S 82 i) ∧ A (b + 5) i = nI (S 83 i)) ∧
  (∀ d, d < 4 → F (b + 6 + 3 * d) 2 = nI (S 76 d) ∧ F (b + 6 + 3 * d) 3 = nI (S 79 d) ∧ (S 79 d = 1 ∨ S 79 d = 3 → F (b + 6 + 3 * d) 4 = nI (S 80 d))) ∧
  (∀ d l, d < 4 → l < 4 → A (b + 7 + 3 * d) l = nI (S 77 (4 * d + l)) ∧ A (b + 8 + 3 * d) l = nI (S 78 (4 * d + l)))
/-- the reference's setup -/
def rg (S : Nat → Nat → Nat) (F A : Nat → Nat → Int32) : Prop :=
  F 75 5 = nI (S 75 5) ∧ F 75 9 = nI (S 75 9) ∧ F 75 10 = nI (S 75 10) ∧
  (∀ d, d < 4 → A 76 d = nI (S 76 d) ∧ A 79 d = nI (S 79 d) ∧ A 80 d = nI (S 80 d)) ∧
  (∀ j, j < 16 → A 77 j = nI (S 77 j) ∧ A 78 j = nI (S 78 j)) ∧
  (∀ i, i < 40 → A 81 i = nI (S 81 i) ∧ A 82 i = nI (S 82 i) ∧ A 83 i = nI (S 83 i))
/-- the reference's image k -/
def ig (k : Nat) (S : Nat → Nat → Nat) (A : Nat → Nat → Int32) : Prop :=
  (∀ d l, d < 4 → l < 4 → A 99 (167 * k + 11 * d + l) = nI (S 77 (4 * d + l)) ∧ A 99 (167 * k + 11 * d + 4 + l) = nI (S 78 (4 * d + l))) ∧
  (∀ d, d < 4 → A 99 (167 * k + 11 * d + 8) = nI (S 76 d) ∧ A 99 (167 * k + 11 * d + 9) = nI (S 79 d) ∧ A 99 (167 * k + 11 * d + 10) = nI (S 80 d)) ∧
  (∀ i, i < 40 → A 99 (167 * k + 44 + 3 * i) = nI (S 81 i) ∧ A 99 (167 * k + 45 + 3 * i) = nI (S 82 i) ∧ A 99 (167 * k + 46 + 3 * i) = nI (S 83 i)) ∧
  A 99 (167 * k + 164) = nI (S 75 5) ∧ A 99 (167 * k + 165) = nI (S 75 9) ∧ A 99 (167 * k + 166) = nI (S 75 10)
def im (k : Nat) (F A : Nat → Nat → Int32) : Prop := A 100 k = A 20 k ∧ (A 20 k = 0 ∨ (A 20 k = 1 ∧ ∃ S, wf S ∧ cg (39 + 18 * k) S F A ∧ ig k S A))
def upN (S : Nat → Nat → Nat) (a k x : Nat) : Nat → Nat → Nat := fun b j => if b = a ∧ j = k then x else S b j
