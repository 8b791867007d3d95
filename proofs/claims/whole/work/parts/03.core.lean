/-! THE ABSTRACT MACHINE: the heap above a base address as a list of cells (a reference is a place in it), and ab_Ev, the machine at a frame whose locals, stack and heap are such pictures. -/
abbrev ab_C : Type := (Nat × vp_A) ⊕ (Nat × List Value)
abbrev ab_H : Type := List ab_C
abbrev ab_G : Type := va_G × (Nat → ClassId) × Nat
abbrev ab_M : Type := String × MethodName × ByteArray × Nat × Option FieldType
def ab_v (b : Nat) (v : Value) : Value := match v with
  | .ref k => .ref (b + k)
  | w => w
def ab_a (b : Nat) (a : vp_A) : vp_A := match a with
  | (n, .inr (.inr (.inr (.inr f)))) => (n, .inr (.inr (.inr (.inr (fun k => (f k).map (fun j => b + j))))))
  | w => w
def ab_c (b : Nat) (cA : Nat → ClassId) (c : ab_C) : va_E := match c with
  | .inl q => .inl (cA q.1, ab_a b q.2)
  | .inr o => .inr (o.1, o.2.map (ab_v b))
def ab_w (b : Nat) (cA : Nat → ClassId) (h : ab_H) : va_W := h.mapIdx (fun k c => (b + k, ab_c b cA c))
theorem ab_w_get {b : Nat} {cA : Nat → ClassId} {h : ab_H} {k : Nat} {c : ab_C} (e : h[k]? = some c) : (ab_w b cA h)[k]? = some (b + k, ab_c b cA c) := by
  simp [ab_w, e]
theorem ab_w_at {b : Nat} {cA : Nat → ClassId} {h : ab_H} {k : Nat} {q : Nat × va_E} (e : (ab_w b cA h)[k]? = some q) : q.1 = b + k := by
  simp only [ab_w, List.getElem?_mapIdx] at e
  cases hk : h[k]? with
  | none => rw [hk] at e; cases e
  | some c => rw [hk] at e; cases e; rfl
theorem ab_w_set {b : Nat} {cA : Nat → ClassId} {h : ab_H} {k : Nat} {c : ab_C} : (ab_w b cA h).set k (b + k, ab_c b cA c) = ab_w b cA (h.set k c) := by
  apply List.ext_getElem?
  intro j
  simp only [ab_w, List.getElem?_set, List.getElem?_mapIdx, List.length_mapIdx]
  by_cases hj : k = j
  · subst hj
    by_cases hl : k < h.length <;> simp [hl]
  · simp [hj]
theorem ab_w_app {b : Nat} {cA : Nat → ClassId} {h : ab_H} {c : ab_C} : ab_w b cA (h ++ [c]) = ab_w b cA h ++ [(b + h.length, ab_c b cA c)] := by
  simp [ab_w, List.mapIdx_append]
theorem ab_w_D {b : Nat} {cA : Nat → ClassId} {h : ab_H} : va_D (fun q => b ≤ q) (ab_w b cA h) := by
  refine ⟨fun i j p q hi hj e => ?_, fun k q hk => ?_⟩
  · have e1 := ab_w_at hi
    have e2 := ab_w_at hj
    omega
  · have e1 := ab_w_at hk
    show b ≤ q.1
    omega
def ab_tb : List Cond := lw_tbl.filter goodWord
def ab_isX : Cond → Bool
  | .fieldLinkNest .. => true
  | .methodLinkNest .. => true
  | .arrayOver (.object _) => true
  | _ => false
def ab_xs : List Cond := tables_1.filter ab_isX
def ab_X (s : State) : Prop := ∀ w ∈ ab_xs, va_Nw w s
theorem ab_X.moved {s U : State} (hW : s.WarmedH U.vm) (h : ab_X s) : ab_X U := by
  intro w hw
  have h1 := h w hw
  have h2 := (List.mem_filter.mp hw).2
  match w, h1, h2 with
  | .fieldLinkNest .., h1, _ => exact va_Nw.warmF hW h1
  | .methodLinkNest .., h1, _ => exact va_Nw.warmM hW h1
  | .arrayOver (.object C), h1, _ => exact va_AO.moved (C := C) hW.alike h1
def ab_ty (cA : Nat → ClassId) : List (ClassId × FieldType) := [(cA 0, .int), (cA 1, .boolean), (cA 2, .object RX5), (cA 3, .object RX1), (cA 4, .object RX0)]
def ab_ws (M : ab_M) : List Cond := Cond.code M.2.1 M.2.2.1 M.2.2.2.1 M.2.2.2.2 :: ab_tb
def ab_R (d mc ms : Nat) : Room := { frames := d, cells := mc, slots := ms, locals := 36 * d }
def ab_E (g : ab_G) (s : State) : Prop := va_K g.1 vwCl (ab_ty g.2.1) s ∧ ab_X s ∧ g.2.2 ≤ s.heap.size
def ab_W (g : ab_G) (h : ab_H) (H : Heap) : Prop := H.size = g.2.2 + h.length ∧ va_P g.1 vwCl (ab_w g.2.2 g.2.1 h) H
def ab_F (g : ab_G) : Nat → Prop := fun q => g.2.2 ≤ q
abbrev ab_K : Type := Option Value → ab_H → Prop
def ab_Q (g : ab_G) (K : ab_K) : Array Value → State → Outcome → State → Prop := fun _ st oc t => (∃ (v : Option Value) (h : ab_H), oc = .returned (v.map (ab_v g.2.2)) ∧ K v h ∧ ab_W g h t.heap) ∧ va_F (ab_F g) st t
def ab_Pc (g : ab_G) (vs : List Value) (h : ab_H) : Array Value → State → Prop := va_Pc (vs.map (ab_v g.2.2)) (fun U => ab_E g U ∧ ab_W g h U.heap)
def ab_S (l : Launch) (g : ab_G) (M : ab_M) (d mc ms : Nat) (vs : List Value) (h : ab_H) (K : ab_K) : Prop := Met l M.2.1 (ab_ws M) (ab_R d mc ms) (ab_Pc g vs h) (ab_Q g K) mc ms (ab_F g)
def ab_Cx (M : ab_M) (p : Program) (s : State) (m : MethodId) (args : Array Value) (meth : Method) (c : Code) : Prop :=
  p.tables.exec = Jvm.exec ∧ c.code = M.2.2.1 ∧ meth.sig.returnType = M.2.2.2.2 ∧ c.maxLocals = M.2.2.2.1 ∧ s.vm.findClass M.1 = some m.cls ∧ (∀ w ∈ ab_ws M, w.before args s = true) ∧ meth.locks = false ∧ meth.name = M.2.1.name
def ab_ml (b : Nat) (ls : List (Nat × Value)) : List (Nat × Value) := ls.map (fun q => (q.1, ab_v b q.2))
def ab_Ev (l : Launch) (g : ab_G) (M : ab_M) (d mc ms : Nat) (pc : Nat) (ls : List (Nat × Value)) (st : List Value) (h : ab_H) (ce sl : Nat) (K : ab_K) : Prop :=
  ∀ (p : Program) (e : Env) (s : State) (m : MethodId) (args : Array Value) (below : List Frame) (meth : Method) (c : Code) (H : Heap) (locs : List Loc) (la : Array Slot),
    ab_Cx M p s m args meth c → ab_E g s → va_S (ab_F g) s.heap H locs → ab_W g h H → lv_has la M.2.2.2.1 (ab_ml g.2.2 ls) →
    W p l e (ab_R d mc ms) s m args below meth c H locs ce sl (MQ below (ab_Q g K) args s mc ms (ab_F g)) (F0 m pc la (st.map (ab_v g.2.2)))
theorem ab_cat (b : Nat) (v : Value) : (ab_v b v).category = v.category := by cases v <;> rfl
theorem ab_args (b : Nat) (vs : List Value) : ∀ i : Nat, lv_args i (vs.map (ab_v b)) = ab_ml b (lv_args i vs) := by
  induction vs with
  | nil => intro i; rfl
  | cons v t ih =>
    intro i
    simp only [List.map_cons, lv_args, ab_ml, ab_cat]
    rw [ih]
    rfl
theorem ab_sl (b : Nat) (vs : List Value) : (lg_sl (vs.map (ab_v b))).length = (lg_sl vs).length := by
  induction vs with
  | nil => rfl
  | cons v t ih =>
    simp only [lg_sl, List.map_cons, List.flatMap_cons, List.length_append, ab_cat] at ih ⊢
    rw [ih]
    by_cases h : v.category = 2 <;> simp [h]
theorem ab_enter {l : Launch} {g : ab_G} {M : ab_M} {d mc ms : Nat} {vs : List Value} {h : ab_H} {K : ab_K} {ls : List (Nat × Value)} (hy : plainName M.2.1.cls = true) (ho : M.1 = M.2.1.cls) (hlen : (lg_sl vs).length ≤ M.2.2.2.1) (hls : lv_args 0 vs = ls) (k : ab_Ev l g M d mc ms 0 ls [] h 0 0 K) : ab_S l g M d mc ms vs h K := by
  refine Met.ofW (cc := M.2.2.1) (maxL := M.2.2.2.1) (ret := M.2.2.2.2) hy rfl ?_
  intro p e s m args below meth c s₁ B hml hv
  obtain ⟨rfl, hE, hW⟩ := hv
  have hl := lv_entry (vs.map (ab_v g.2.2)) (n := M.2.2.2.1) (by rw [ab_sl]; exact hlen)
  rw [lg_entry_eq]
  rw [ab_args, hls] at hl
  have hown : s.vm.findClass M.1 = some m.cls := by rw [ho]; exact findClass_of_methodNamed B.named
  exact k p e s m _ below meth c s.heap [] _ ⟨B.exec, B.bytes, B.returns, hml, hown, atoms_spec (ws := ab_ws M) B.pre, B.notSynchronized, (name_of_methodNamed B.named B.method).1⟩ hE va_S.rf hW hl
