/-! the heap's own rows: what is read and written, as functions of the picture -/
def ab_gI (h : ab_H) (a ci k : Nat) : Option Int32 := match h[a]? with
  | some (.inr (c, fs)) => if c = ci then (match fs[k]? with
    | some (.int x) => some x
    | _ => none) else none
  | _ => none
def ab_gR (h : ab_H) (a ci k : Nat) : Option Nat := match h[a]? with
  | some (.inr (c, fs)) => if c = ci then (match fs[k]? with
    | some (.ref x) => some x
    | _ => none) else none
  | _ => none
def ab_pV (h : ab_H) (a ci k : Nat) (v : Value) : Option ab_H := match h[a]? with
  | some (.inr (c, fs)) => if c = ci ∧ k < fs.length then some (h.set a (.inr (ci, fs.set k v))) else none
  | _ => none
def ab_aI (h : ab_H) (r : Nat) (i : Int32) : Option Int32 := match h[r]? with
  | some (.inl (0, n, .inl f)) => if i < 0 ∨ n ≤ i.toNatClampNeg then none else some (f i.toNatClampNeg)
  | _ => none
def ab_aZ (h : ab_H) (r : Nat) (i : Int32) : Option Int32 := match h[r]? with
  | some (.inl (1, n, .inl f)) => if i < 0 ∨ n ≤ i.toNatClampNeg then none else some (f i.toNatClampNeg)
  | _ => none
def ab_aR (h : ab_H) (r : Nat) (i : Int32) : Option Nat := match h[r]? with
  | some (.inl (t, n, .inr (.inr (.inr (.inr f))))) => if i < 0 ∨ n ≤ i.toNatClampNeg ∨ t < 2 ∨ 4 < t then none else f i.toNatClampNeg
  | _ => none
def ab_sI (h : ab_H) (r : Nat) (i x : Int32) : Option ab_H := match h[r]? with
  | some (.inl (0, n, .inl f)) => if i < 0 ∨ n ≤ i.toNatClampNeg then none else some (h.set r (.inl (0, n, .inl (upd f i.toNatClampNeg x))))
  | _ => none
def ab_sZ (h : ab_H) (r : Nat) (i x : Int32) : Option ab_H := match h[r]? with
  | some (.inl (1, n, .inl f)) => if i < 0 ∨ n ≤ i.toNatClampNeg then none else some (h.set r (.inl (1, n, .inl (upd f i.toNatClampNeg (vp_nar .boolean x)))))
  | _ => none
def ab_ek (t : Nat) : Nat := if t = 2 then 5 else if t = 3 then 1 else 0
def ab_sR (h : ab_H) (r : Nat) (i : Int32) (v : Nat) : Option ab_H := match h[r]?, h[v]? with
  | some (.inl (t, n, .inr (.inr (.inr (.inr f))))), some (.inr (c, _)) => if i < 0 ∨ n ≤ i.toNatClampNeg ∨ t < 2 ∨ 4 < t ∨ c ≠ ab_ek t then none else some (h.set r (.inl (t, n, .inr (.inr (.inr (.inr (va_up f i.toNatClampNeg (some v))))))))
  | _, _ => none
def ab_cp (h : ab_H) (r0 : Nat) (sp : Int32) (r1 : Nat) (dp n : Int32) : Option ab_H := match h[r0]?, h[r1]? with
  | some (.inl (0, n0, .inl f)), some (.inl (0, n1, .inl f1)) => if sp < 0 ∨ dp < 0 ∨ n < 0 ∨ n0 < sp.toNatClampNeg + n.toNatClampNeg ∨ n1 < dp.toNatClampNeg + n.toNatClampNeg then none else some (h.set r1 (.inl (0, n1, .inl (va_cpy f f1 sp.toNatClampNeg dp.toNatClampNeg n.toNatClampNeg))))
  | _, _ => none
theorem ab_gI_of {h : ab_H} {a ci k : Nat} {x : Int32} (e : ab_gI h a ci k = some x) : ∃ fs, h[a]? = some (.inr (ci, fs)) ∧ fs[k]? = some (.int x) := by
  unfold ab_gI at e
  split at e
  · next c fs hc =>
    split at e
    · next hci =>
      split at e
      · next y hy => cases e; exact ⟨fs, by rw [hc, hci], hy⟩
      · cases e
    · cases e
  · cases e
theorem ab_gR_of {h : ab_H} {a ci k : Nat} {x : Nat} (e : ab_gR h a ci k = some x) : ∃ fs, h[a]? = some (.inr (ci, fs)) ∧ fs[k]? = some (.ref x) := by
  unfold ab_gR at e
  split at e
  · next c fs hc =>
    split at e
    · next hci =>
      split at e
      · next y hy => cases e; exact ⟨fs, by rw [hc, hci], hy⟩
      · cases e
    · cases e
  · cases e
theorem ab_pV_of {h h' : ab_H} {a ci k : Nat} {v : Value} (e : ab_pV h a ci k v = some h') : ∃ fs, h[a]? = some (.inr (ci, fs)) ∧ k < fs.length ∧ h' = h.set a (.inr (ci, fs.set k v)) := by
  unfold ab_pV at e
  split at e
  · next c fs hc =>
    split at e
    · next hci => cases e; exact ⟨fs, by rw [hc, hci.1], hci.2, rfl⟩
    · cases e
  · cases e
theorem ab_aI_of {h : ab_H} {r : Nat} {i x : Int32} (e : ab_aI h r i = some x) : ∃ n f, h[r]? = some (.inl (0, n, .inl f)) ∧ vp_in i n ∧ x = f i.toNatClampNeg := by
  unfold ab_aI at e
  split at e
  · next n f hc =>
    split at e
    · cases e
    · next hn => cases e; exact ⟨n, f, hc, hn, rfl⟩
  · cases e
theorem ab_aZ_of {h : ab_H} {r : Nat} {i x : Int32} (e : ab_aZ h r i = some x) : ∃ n f, h[r]? = some (.inl (1, n, .inl f)) ∧ vp_in i n ∧ x = f i.toNatClampNeg := by
  unfold ab_aZ at e
  split at e
  · next n f hc =>
    split at e
    · cases e
    · next hn => cases e; exact ⟨n, f, hc, hn, rfl⟩
  · cases e
theorem ab_aR_of {h : ab_H} {r x : Nat} {i : Int32} (e : ab_aR h r i = some x) : ∃ t n f, h[r]? = some (.inl (t, n, .inr (.inr (.inr (.inr f))))) ∧ vp_in i n ∧ f i.toNatClampNeg = some x ∧ ¬ t < 2 ∧ ¬ 4 < t := by
  unfold ab_aR at e
  split at e
  · next t n f hc =>
    split at e
    · cases e
    · next hn => exact ⟨t, n, f, hc, fun q => hn (q.elim Or.inl (fun z => Or.inr (Or.inl z))), e, fun q => hn (Or.inr (Or.inr (Or.inl q))), fun q => hn (Or.inr (Or.inr (Or.inr q)))⟩
  · cases e
theorem ab_sI_of {h h' : ab_H} {r : Nat} {i x : Int32} (e : ab_sI h r i x = some h') : ∃ n f, h[r]? = some (.inl (0, n, .inl f)) ∧ vp_in i n ∧ h' = h.set r (.inl (0, n, .inl (upd f i.toNatClampNeg x))) := by
  unfold ab_sI at e
  split at e
  · next n f hc =>
    split at e
    · cases e
    · next hn => cases e; exact ⟨n, f, hc, hn, rfl⟩
  · cases e
theorem ab_sZ_of {h h' : ab_H} {r : Nat} {i x : Int32} (e : ab_sZ h r i x = some h') : ∃ n f, h[r]? = some (.inl (1, n, .inl f)) ∧ vp_in i n ∧ h' = h.set r (.inl (1, n, .inl (upd f i.toNatClampNeg (vp_nar .boolean x)))) := by
  unfold ab_sZ at e
  split at e
  · next n f hc =>
    split at e
    · cases e
    · next hn => cases e; exact ⟨n, f, hc, hn, rfl⟩
  · cases e
theorem ab_sR_of {h h' : ab_H} {r v : Nat} {i : Int32} (e : ab_sR h r i v = some h') : ∃ t n f c vs, h[r]? = some (.inl (t, n, .inr (.inr (.inr (.inr f))))) ∧ h[v]? = some (.inr (c, vs)) ∧ vp_in i n ∧ ¬ t < 2 ∧ ¬ 4 < t ∧ c = ab_ek t ∧ h' = h.set r (.inl (t, n, .inr (.inr (.inr (.inr (va_up f i.toNatClampNeg (some v))))))) := by
  unfold ab_sR at e
  split at e
  · next t n f c vs hc hv =>
    split at e
    · cases e
    · next hn =>
      cases e
      refine ⟨t, n, f, c, vs, hc, hv, fun q => hn (q.elim Or.inl (fun z => Or.inr (Or.inl z))), fun q => hn (Or.inr (Or.inr (Or.inl q))), fun q => hn (Or.inr (Or.inr (Or.inr (Or.inl q)))), ?_, rfl⟩
      exact Classical.byContradiction fun q => hn (Or.inr (Or.inr (Or.inr (Or.inr q))))
  · cases e
theorem ab_cp_of {h h' : ab_H} {r0 r1 : Nat} {sp dp n : Int32} (e : ab_cp h r0 sp r1 dp n = some h') : ∃ n0 n1 f f1, h[r0]? = some (.inl (0, n0, .inl f)) ∧ h[r1]? = some (.inl (0, n1, .inl f1)) ∧ ¬ sp < 0 ∧ ¬ dp < 0 ∧ ¬ n < 0 ∧ sp.toNatClampNeg + n.toNatClampNeg ≤ n0 ∧ dp.toNatClampNeg + n.toNatClampNeg ≤ n1 ∧ h' = h.set r1 (.inl (0, n1, .inl (va_cpy f f1 sp.toNatClampNeg dp.toNatClampNeg n.toNatClampNeg))) := by
  unfold ab_cp at e
  split at e
  · next n0 f n1 f1 h0 h1 =>
    split at e
    · cases e
    · next hn =>
      cases e
      refine ⟨n0, n1, f, f1, h0, h1, fun q => hn (Or.inl q), fun q => hn (Or.inr (Or.inl q)), fun q => hn (Or.inr (Or.inr (Or.inl q))), ?_, ?_, rfl⟩
      · exact Nat.not_lt.mp fun q => hn (Or.inr (Or.inr (Or.inr (Or.inl q))))
      · exact Nat.not_lt.mp fun q => hn (Or.inr (Or.inr (Or.inr (Or.inr q))))
  · cases e
/-! words -/
theorem ab_in {w : Cond} (hw : w ∈ lw_tbl) (hg : goodWord w = true) : w ∈ ab_tb := List.mem_filter.mpr ⟨hw, hg⟩
theorem ab_inS {ws : List Cond} (hw : ∀ w ∈ ws, w ∈ lw_tbl) (hg : ws.all goodWord = true) : ∀ w ∈ ws, w ∈ ab_tb := fun w h => ab_in (hw w h) (List.all_eq_true.mp hg w h)
theorem ab_lay0 : ∀ w ∈ u_ws RX0 TX0 10, w ∈ ab_tb := ab_inS (by decide +kernel) (by decide +kernel)
theorem ab_lay1 : ∀ w ∈ u_ws RX1 TX1 5, w ∈ ab_tb := ab_inS (by decide +kernel) (by decide +kernel)
theorem ab_lay2 : ∀ w ∈ u_ws RX2 TX2 5, w ∈ ab_tb := ab_inS (by decide +kernel) (by decide +kernel)
theorem ab_lay3 : ∀ w ∈ u_ws RX3 TX3 4, w ∈ ab_tb := ab_inS (by decide +kernel) (by decide +kernel)
theorem ab_lay4 : ∀ w ∈ u_ws RX4 TX4 9, w ∈ ab_tb := ab_inS (by decide +kernel) (by decide +kernel)
theorem ab_lay5 : ∀ w ∈ u_ws RX5 TX5 4, w ∈ ab_tb := ab_inS (by decide +kernel) (by decide +kernel)
theorem ab_lay6 : ∀ w ∈ u_ws RX6 TX6 5, w ∈ ab_tb := ab_inS (by decide +kernel) (by decide +kernel)
theorem ab_lay7 : ∀ w ∈ u_ws RX7 TX7 31, w ∈ ab_tb := ab_inS (by decide +kernel) (by decide +kernel)
def ab_Cl (C : String) (T : u_T) (N : Nat) (ty : Nat → FieldType) : Prop := (∀ w ∈ u_ws C T N, w ∈ ab_tb) ∧ (∀ k, k < N → parseFieldDescriptor (T k).2.2.1 = some (ty k)) ∧ (∀ a, a < N → ∀ b, b < N → a ≠ b → (T a).2.1 ≠ (T b).2.1)
theorem ab_cl {ci : Nat} {C : String} {T : u_T} {N : Nat} (h : vwCl[ci]? = some (C, T, N)) : ∃ ty, ab_Cl C T N ty := by
  match ci, h with
  | 0, h => cases h; exact ⟨tyX0, ab_lay0, tyX0_ok, nmX0⟩
  | 1, h => cases h; exact ⟨tyX1, ab_lay1, tyX1_ok, nmX1⟩
  | 2, h => cases h; exact ⟨tyX2, ab_lay2, tyX2_ok, nmX2⟩
  | 3, h => cases h; exact ⟨tyX3, ab_lay3, tyX3_ok, nmX3⟩
  | 4, h => cases h; exact ⟨tyX4, ab_lay4, tyX4_ok, nmX4⟩
  | 5, h => cases h; exact ⟨tyX5, ab_lay5, tyX5_ok, nmX5⟩
  | 6, h => cases h; exact ⟨tyX6, ab_lay6, tyX6_ok, nmX6⟩
  | 7, h => cases h; exact ⟨tyX7, ab_lay7, tyX7_ok, nmX7⟩
  | k + 8, h => simp [vwCl] at h
/-- a field's link: of the class itself, or of a nest mate -/
def ab_FL (own : String) (idx : Nat) (q : String × String × String × Bool) : Prop := Cond.fieldLink own idx q.1 q.2.1 q.2.2.1 ∈ ab_tb ∨ Cond.fieldLinkNest own idx q.1 q.2.1 q.2.2.1 "DiskRests" ∈ ab_xs
def ab_ML (own : String) (idx : Nat) (y : MethodName) : Prop := Cond.methodLink own idx y ∈ ab_tb ∨ Cond.methodLinkNest own idx y "DiskRests" ∈ ab_xs
theorem ab_xin {w : Cond} (hw : w ∈ tables_1) (hg : ab_isX w = true) : w ∈ ab_xs := List.mem_filter.mpr ⟨hw, hg⟩
theorem ab_tsin {M : ab_M} {w : Cond} (h : w ∈ ab_tb) : w ∈ ab_ws M := List.mem_cons_of_mem _ h
section
variable {l : Launch} {g : ab_G} {M : ab_M} {d mc ms pc pc' ce sl : Nat} {ls ls' : List (Nat × Value)} {st : List Value} {h h' : ab_H} {K : ab_K}
theorem ab_getV {idx a ci k : Nat} {C : String} {T : u_T} {N : Nat} {fs : List Value} {v : Value} (hd : decode M.2.2.1 pc = .ok (.getfield idx, 3)) (hc : vwCl[ci]? = some (C, T, N)) (hk : k < N) (hl : ab_FL M.1 idx (T k)) (he : h[a]? = some (.inr (ci, fs))) (hf : fs[k]? = some v) (hp : pc + 3 = pc') (kk : ab_Ev l g M d mc ms pc' ls (v :: st) h ce sl K) : ab_Ev l g M d mc ms pc ls (.ref a :: st) h ce sl K := by
  subst hp
  intro p e s m args below meth c H locs la C0 E S Wd hla
  obtain ⟨ty, hC⟩ := ab_cl hc
  have hk2 := kk p e s m args below meth c H locs la C0 E S Wd hla
  have hw := ab_w_get (b := g.2.2) (cA := g.2.1) he
  have hv : (fs.map (ab_v g.2.2))[k]? = some (ab_v g.2.2 v) := by simp [hf]
  rcases hl with hl | hl
  · exact va_get C0.1 C0.2.1 C0.2.2.2.2.2.1 (fun w z => ab_tsin (hC.1 w z)) C0.2.2.2.2.1 E.1 Wd.2 a hw hc k hk (C0.2.2.2.2.2.1 _ (ab_tsin hl)) (fun _ z => z) hv hd hk2
  · exact va_getN C0.1 C0.2.1 C0.2.2.2.2.2.1 (fun w z => ab_tsin (hC.1 w z)) C0.2.2.2.2.1 E.1 Wd.2 a hw hc k hk (va_Nw.use rfl (E.2.1 _ hl)) (fun _ z => z) hv hd hk2
theorem ab_getI {idx a ci k : Nat} {C : String} {T : u_T} {N : Nat} {x : Int32} (hd : decode M.2.2.1 pc = .ok (.getfield idx, 3)) (hc : vwCl[ci]? = some (C, T, N)) (hk : k < N) (hl : ab_FL M.1 idx (T k)) (he : ab_gI h a ci k = some x) (hp : pc + 3 = pc') (kk : ab_Ev l g M d mc ms pc' ls (.int x :: st) h ce sl K) : ab_Ev l g M d mc ms pc ls (.ref a :: st) h ce sl K := by
  obtain ⟨fs, h1, h2⟩ := ab_gI_of he
  exact ab_getV hd hc hk hl h1 h2 hp kk
theorem ab_getR {idx a ci k : Nat} {C : String} {T : u_T} {N : Nat} {x : Nat} (hd : decode M.2.2.1 pc = .ok (.getfield idx, 3)) (hc : vwCl[ci]? = some (C, T, N)) (hk : k < N) (hl : ab_FL M.1 idx (T k)) (he : ab_gR h a ci k = some x) (hp : pc + 3 = pc') (kk : ab_Ev l g M d mc ms pc' ls (.ref x :: st) h ce sl K) : ab_Ev l g M d mc ms pc ls (.ref a :: st) h ce sl K := by
  obtain ⟨fs, h1, h2⟩ := ab_gR_of he
  exact ab_getV hd hc hk hl h1 h2 hp kk
theorem ab_W_set {H H1 : Heap} {a : Nat} {c : ab_C} (Wd : ab_W g h H) (hz : H1.size = H.size) (hP : va_P g.1 vwCl (ab_w g.2.2 g.2.1 (h.set a c)) H1) : ab_W g (h.set a c) H1 := ⟨by rw [hz, List.length_set]; exact Wd.1, hP⟩
theorem ab_setF (a ci k : Nat) (fs : List Value) (v : Value) (b : Nat) (cA : Nat → ClassId) : (ab_w b cA h).set a (b + a, .inr (ci, (fs.map (ab_v b)).set k (ab_v b v))) = ab_w b cA (h.set a (.inr (ci, fs.set k v))) := by
  rw [← ab_w_set]
  simp [ab_c, List.map_set]
end
