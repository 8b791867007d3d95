/-! the layout: every heap that the law's two objects come to is hp F A: F a k an int field, A r i an element -/
abbrev ly_E : Type := (Nat × List (Option Nat)) ⊕ (Nat × Nat × Option (Nat → Option Nat))
def ly_T : List ly_E := [.inl (6, [some 1, some 19, some 20, some 21, some 34]),
  .inl (5, [some 2, some 3, none, none]),
  .inr (3, 4, some (va_up (va_up (va_up (va_up (fun _ => none) 0 (some 7)) 1 (some 10)) 2 (some 13)) 3 (some 16))),
  .inl (3, [some 4, some 5, some 6, none]),
  .inr (0, 40, none),
  .inr (0, 40, none),
  .inr (0, 40, none),
  .inl (1, [some 8, some 9, none, none, none]),
  .inr (0, 4, none),
  .inr (0, 4, none),
  .inl (1, [some 11, some 12, none, none, none]),
  .inr (0, 4, none),
  .inr (0, 4, none),
  .inl (1, [some 14, some 15, none, none, none]),
  .inr (0, 4, none),
  .inr (0, 4, none),
  .inl (1, [some 17, some 18, none, none, none]),
  .inr (0, 4, none),
  .inr (0, 4, none),
  .inr (2, 2, some (va_up (va_up (fun _ => none) 0 (some 39)) 1 (some 57))),
  .inr (1, 2, none),
  .inl (4, [some 22, some 23, some 24, some 25, none, none, none, none, none]),
  .inr (4, 4, some (va_up (va_up (va_up (va_up (fun _ => none) 0 (some 26)) 1 (some 28)) 2 (some 30)) 3 (some 32))),
  .inr (0, 40, none),
  .inr (0, 40, none),
  .inr (0, 8, none),
  .inl (0, [none, none, none, none, none, none, none, some 27, none, none]),
  .inr (0, 40, none),
  .inl (0, [none, none, none, none, none, none, none, some 29, none, none]),
  .inr (0, 40, none),
  .inl (0, [none, none, none, none, none, none, none, some 31, none, none]),
  .inr (0, 40, none),
  .inl (0, [none, none, none, none, none, none, none, some 33, none, none]),
  .inr (0, 40, none),
  .inl (2, [some 35, some 36, some 37, some 38, none]),
  .inr (0, 40, none),
  .inr (0, 41, none),
  .inr (0, 41, none),
  .inr (0, 41, none),
  .inl (5, [some 40, some 41, none, none]),
  .inr (3, 4, some (va_up (va_up (va_up (va_up (fun _ => none) 0 (some 45)) 1 (some 48)) 2 (some 51)) 3 (some 54))),
  .inl (3, [some 42, some 43, some 44, none]),
  .inr (0, 40, none),
  .inr (0, 40, none),
  .inr (0, 40, none),
  .inl (1, [some 46, some 47, none, none, none]),
  .inr (0, 4, none),
  .inr (0, 4, none),
  .inl (1, [some 49, some 50, none, none, none]),
  .inr (0, 4, none),
  .inr (0, 4, none),
  .inl (1, [some 52, some 53, none, none, none]),
  .inr (0, 4, none),
  .inr (0, 4, none),
  .inl (1, [some 55, some 56, none, none, none]),
  .inr (0, 4, none),
  .inr (0, 4, none),
  .inl (5, [some 58, some 59, none, none]),
  .inr (3, 4, some (va_up (va_up (va_up (va_up (fun _ => none) 0 (some 63)) 1 (some 66)) 2 (some 69)) 3 (some 72))),
  .inl (3, [some 60, some 61, some 62, none]),
  .inr (0, 40, none),
  .inr (0, 40, none),
  .inr (0, 40, none),
  .inl (1, [some 64, some 65, none, none, none]),
  .inr (0, 4, none),
  .inr (0, 4, none),
  .inl (1, [some 67, some 68, none, none, none]),
  .inr (0, 4, none),
  .inr (0, 4, none),
  .inl (1, [some 70, some 71, none, none, none]),
  .inr (0, 4, none),
  .inr (0, 4, none),
  .inl (1, [some 73, some 74, none, none, none]),
  .inr (0, 4, none),
  .inr (0, 4, none),
  .inl (7, [some 76, some 77, some 78, some 79, some 80, none, some 81, some 82, some 83, none, none, some 84, some 85, some 86, some 87, some 88, some 89, some 90, some 91, some 92, some 93, some 94, none, none, some 95, some 96, some 97, none, some 98, some 99, some 100]),
  .inr (0, 4, none),
  .inr (0, 16, none),
  .inr (0, 16, none),
  .inr (0, 4, none),
  .inr (0, 4, none),
  .inr (0, 40, none),
  .inr (0, 40, none),
  .inr (0, 40, none),
  .inr (0, 4, none),
  .inr (0, 4, none),
  .inr (0, 4, none),
  .inr (0, 4, none),
  .inr (0, 4, none),
  .inr (0, 4, none),
  .inr (0, 4, none),
  .inr (0, 4, none),
  .inr (0, 160, none),
  .inr (0, 40, none),
  .inr (0, 8, none),
  .inr (0, 12, none),
  .inr (0, 41, none),
  .inr (0, 41, none),
  .inr (1, 41, none),
  .inr (0, 334, none),
  .inr (1, 2, none)]
def ly_c (F A : Nat → Nat → Int32) (c : Nat) (e : ly_E) : ab_C := match e with
  | .inl (ci, fs) => .inr (ci, fs.mapIdx (fun k f => match f with
    | some r => .ref r
    | none => .int (F c k)))
  | .inr (t, n, none) => .inl (t, n, .inl (A c))
  | .inr (t, n, some f) => .inl (t, n, .inr (.inr (.inr (.inr f))))
def hpG (F A : Nat → Nat → Int32) : List ly_E → Nat → ab_H
  | [], _ => []
  | e :: t, c => ly_c F A c e :: hpG F A t (c + 1)
def hpT (T : List ly_E) (F A : Nat → Nat → Int32) : ab_H := hpG F A T 0
theorem hpG_at (F A : Nat → Nat → Int32) : ∀ (T : List ly_E) (b c : Nat), (hpG F A T b)[c]? = (T[c]?).map (ly_c F A (b + c))
  | [], b, c => by simp [hpG]
  | e :: t, b, 0 => by simp [hpG]
  | e :: t, b, c + 1 => by
    simp only [hpG, List.getElem?_cons_succ]
    rw [hpG_at F A t (b + 1) c, show b + 1 + c = b + (c + 1) by omega]
theorem hpG_len (F A : Nat → Nat → Int32) : ∀ (T : List ly_E) (b : Nat), (hpG F A T b).length = T.length
  | [], b => rfl
  | e :: t, b => by simp only [hpG, List.length_cons]; rw [hpG_len F A t (b + 1)]
def hp (F A : Nat → Nat → Int32) : ab_H := hpT ly_T F A
def up2 (F : Nat → Nat → Int32) (a k : Nat) (x : Int32) : Nat → Nat → Int32 := fun b j => if b = a ∧ j = k then x else F b j
theorem up2_eq (F : Nat → Nat → Int32) (a k : Nat) (x : Int32) : up2 F a k x a k = x := by simp [up2]
theorem up2_ne {F : Nat → Nat → Int32} {a k b j : Nat} {x : Int32} (h : b ≠ a ∨ j ≠ k) : up2 F a k x b j = F b j := by
  unfold up2
  rw [if_neg]
  intro ⟨h1, h2⟩
  rcases h with h | h
  · exact h h1
  · exact h h2
theorem hpT_at (T : List ly_E) (F A : Nat → Nat → Int32) (c : Nat) : (hpT T F A)[c]? = (T[c]?).map (ly_c F A c) := by
  unfold hpT
  rw [hpG_at, Nat.zero_add]
theorem hp_at (F A : Nat → Nat → Int32) (c : Nat) : (hp F A)[c]? = (ly_T[c]?).map (ly_c F A c) := hpT_at ly_T F A c
def ly_f (F : Nat → Nat → Int32) (a : Nat) : Nat → Option Nat → Value := fun k f => match f with
  | some r => .ref r
  | none => .int (F a k)
theorem hpT_pV (T : List ly_E) {F A : Nat → Nat → Int32} {a ci k : Nat} {x : Int32} {fs : List (Option Nat)} (e1 : T[a]? = some (.inl (ci, fs))) (e2 : fs[k]? = some none) : ab_pV (hpT T F A) a ci k (.int x) = some (hpT T (up2 F a k x) A) := by
  have hk : k < fs.length := (List.getElem?_eq_some_iff.mp e2).1
  have ha : a < T.length := (List.getElem?_eq_some_iff.mp e1).1
  have e3 : ab_pV (hpT T F A) a ci k (.int x) = some ((hpT T F A).set a (.inr (ci, (fs.mapIdx (ly_f F a)).set k (.int x)))) := by
    have h1 : (hpT T F A)[a]? = some (.inr (ci, fs.mapIdx (ly_f F a))) := by rw [hpT_at, e1]; rfl
    simp only [ab_pV, h1]
    rw [if_pos ⟨trivial, by simpa using hk⟩]
  have e4 : (fs.mapIdx (ly_f F a)).set k (.int x) = fs.mapIdx (ly_f (up2 F a k x) a) := by
    apply List.ext_getElem?
    intro j
    rw [List.getElem?_set]
    by_cases hj : k = j
    · subst hj
      rw [if_pos rfl, if_pos (by simpa using hk), List.getElem?_mapIdx, e2]
      simp [up2, ly_f]
    · simp only [hj, if_false, List.getElem?_mapIdx]
      cases hfj : fs[j]? with
      | none => rfl
      | some v =>
        cases v with
        | some r => rfl
        | none => simp [up2, Ne.symm hj, ly_f]
  rw [e3, e4]
  refine congrArg some ?_
  apply List.ext_getElem?
  intro c
  rw [List.getElem?_set]
  by_cases hc : a = c
  · subst hc
    have hl : a < (hpT T F A).length := by unfold hpT; rw [hpG_len]; exact ha
    rw [if_pos rfl, if_pos hl, hpT_at, e1]
    rfl
  · rw [if_neg hc, hpT_at, hpT_at]
    cases hcc : T[c]? with
    | none => rfl
    | some v =>
      simp only [Option.map_some]
      refine congrArg some ?_
      match v with
      | .inl (ci, fs) => simp [ly_c, up2, Ne.symm hc]
      | .inr (t, n, none) => rfl
      | .inr (t, n, some f) => rfl
theorem hpT_setA (T : List ly_E) {F A A' : Nat → Nat → Int32} {r n t : Nat} (h : T[r]? = some (.inr (t, n, none))) (h' : ∀ c, c ≠ r → A' c = A c) : (hpT T F A).set r (.inl (t, n, .inl (A' r))) = hpT T F A' := by
  have ha : r < T.length := (List.getElem?_eq_some_iff.mp h).1
  apply List.ext_getElem?
  intro c
  rw [List.getElem?_set]
  by_cases hc : r = c
  · subst hc
    have hl : r < (hpT T F A).length := by unfold hpT; rw [hpG_len]; exact ha
    rw [if_pos rfl, if_pos hl, hpT_at, h]
    rfl
  · rw [if_neg hc, hpT_at, hpT_at]
    cases hcc : T[c]? with
    | none => rfl
    | some v =>
      simp only [Option.map_some]
      refine congrArg some ?_
      match v with
      | .inl (ci, fs) => rfl
      | .inr (t, n, none) => simp only [ly_c, h' c (Ne.symm hc)]
      | .inr (t, n, some f) => rfl
theorem up2_row (A : Nat → Nat → Int32) (r i : Nat) (x : Int32) : up2 A r i x r = upd (A r) i x := by
  funext j
  simp [up2, upd]
theorem up2_off {A : Nat → Nat → Int32} {r i : Nat} {x : Int32} {c : Nat} (hc : c ≠ r) : up2 A r i x c = A c := by
  funext j
  simp [up2, hc]
def ok_I (a ci k : Nat) : Bool := match ly_T[a]? with
  | some (.inl (c, fs)) => decide (c = ci) && decide (fs[k]? = some none)
  | _ => false
def ok_R (a ci k r : Nat) : Bool := match ly_T[a]? with
  | some (.inl (c, fs)) => decide (c = ci) && decide (fs[k]? = some (some r))
  | _ => false
def ok_O (a ci : Nat) : Bool := match ly_T[a]? with
  | some (.inl (c, _)) => decide (c = ci)
  | _ => false
def ok_A (a t n : Nat) : Bool := match ly_T[a]? with
  | some (.inr (t', n', none)) => decide (t' = t ∧ n' = n)
  | _ => false
theorem ok_I_of {a ci k : Nat} (h : ok_I a ci k = true) : ∃ fs, ly_T[a]? = some (.inl (ci, fs)) ∧ fs[k]? = some none := by
  unfold ok_I at h
  split at h
  · next c fs e =>
    simp only [Bool.and_eq_true, decide_eq_true_eq] at h
    exact ⟨fs, by rw [e, h.1], h.2⟩
  · cases h
theorem ok_R_of {a ci k r : Nat} (h : ok_R a ci k r = true) : ∃ fs, ly_T[a]? = some (.inl (ci, fs)) ∧ fs[k]? = some (some r) := by
  unfold ok_R at h
  split at h
  · next c fs e =>
    simp only [Bool.and_eq_true, decide_eq_true_eq] at h
    exact ⟨fs, by rw [e, h.1], h.2⟩
  · cases h
theorem ok_O_of {a ci : Nat} (h : ok_O a ci = true) : ∃ fs, ly_T[a]? = some (.inl (ci, fs)) := by
  unfold ok_O at h
  split at h
  · next c fs e =>
    simp only [decide_eq_true_eq] at h
    exact ⟨fs, by rw [e, h]⟩
  · cases h
theorem ok_A_of {a t n : Nat} (h : ok_A a t n = true) : ly_T[a]? = some (.inr (t, n, none)) := by
  unfold ok_A at h
  split at h
  · next t' n' e =>
    simp only [decide_eq_true_eq] at h
    rw [e, h.1, h.2]
  · cases h
section
variable {F A : Nat → Nat → Int32}
theorem hp_gI {a ci k : Nat} (h : ok_I a ci k = true) : ab_gI (hp F A) a ci k = some (F a k) := by
  obtain ⟨fs, e1, e2⟩ := ok_I_of h
  simp [ab_gI, hp_at, e1, ly_c, e2]
theorem hp_gR {a ci k : Nat} (r : Nat) (h : ok_R a ci k r = true) : ab_gR (hp F A) a ci k = some r := by
  obtain ⟨fs, e1, e2⟩ := ok_R_of h
  simp [ab_gR, hp_at, e1, ly_c, e2]
theorem hp_ob {a ci : Nat} (h : ok_O a ci = true) : ab_ob (hp F A) a ci = some () := by
  obtain ⟨fs, e1⟩ := ok_O_of h
  simp [ab_ob, hp_at, e1, ly_c]
theorem hp_pV {a ci k : Nat} {x : Int32} (h : ok_I a ci k = true) : ab_pV (hp F A) a ci k (.int x) = some (hp (up2 F a k x) A) := by
  obtain ⟨fs, e1, e2⟩ := ok_I_of h
  exact hpT_pV ly_T e1 e2
theorem hp_setA {r n t : Nat} (h : ly_T[r]? = some (.inr (t, n, none))) (i : Nat) (x : Int32) : (hp F A).set r (.inl (t, n, .inl (upd (A r) i x))) = hp F (up2 A r i x) := by
  rw [← up2_row]
  exact hpT_setA ly_T h (fun c hc => up2_off hc)
theorem nI_nn {i n : Nat} (hi : i < n) (hn : n ≤ 400) : ¬ (nI i < 0 ∨ n ≤ (nI i).toNatClampNeg) := nI_in hi (by omega)
theorem hp_aI {r i : Nat} (n : Nat) (h : ok_A r 0 n = true) (hi : i < n) (hn : n ≤ 400) : ab_aI (hp F A) r (nI i) = some (A r i) := by
  have e := ok_A_of h
  simp only [ab_aI, hp_at, e, Option.map_some, ly_c]
  rw [if_neg (nI_nn hi hn), nI_clamp (by omega)]
theorem hp_aZ {r i : Nat} (n : Nat) (h : ok_A r 1 n = true) (hi : i < n) (hn : n ≤ 400) : ab_aZ (hp F A) r (nI i) = some (A r i) := by
  have e := ok_A_of h
  simp only [ab_aZ, hp_at, e, Option.map_some, ly_c]
  rw [if_neg (nI_nn hi hn), nI_clamp (by omega)]
theorem hp_sI {r i : Nat} {x : Int32} (n : Nat) (h : ok_A r 0 n = true) (hi : i < n) (hn : n ≤ 400) : ab_sI (hp F A) r (nI i) x = some (hp F (up2 A r i x)) := by
  have e := ok_A_of h
  simp only [ab_sI, hp_at, e, Option.map_some, ly_c]
  rw [if_neg (nI_nn hi hn), nI_clamp (by omega)]
  exact congrArg some (hp_setA e i x)
theorem hp_sZ {r i : Nat} {x : Int32} (n : Nat) (h : ok_A r 1 n = true) (hi : i < n) (hn : n ≤ 400) : ab_sZ (hp F A) r (nI i) x = some (hp F (up2 A r i (vp_nar .boolean x))) := by
  have e := ok_A_of h
  simp only [ab_sZ, hp_at, e, Option.map_some, ly_c]
  rw [if_neg (nI_nn hi hn), nI_clamp (by omega)]
  exact congrArg some (hp_setA e i _)
theorem hp_aR {r i : Nat} {f : Nat → Option Nat} (t n : Nat) (h : ly_T[r]? = some (.inr (t, n, some f))) (ht : 2 ≤ t ∧ t ≤ 4) (hi : i < n) (hn : n ≤ 400) : ab_aR (hp F A) r (nI i) = f i := by
  simp only [ab_aR, hp_at, h, Option.map_some, ly_c]
  rw [if_neg, nI_clamp (by omega)]
  rintro (z | z | z | z)
  · exact nI_nn hi hn (Or.inl z)
  · exact nI_nn hi hn (Or.inr z)
  · omega
  · omega
end
