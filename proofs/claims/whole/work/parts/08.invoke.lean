def ab_ob (h : ab_H) (r ci : Nat) : Option Unit := match h[r]? with
  | some (.inr (c, _)) => if c = ci then some () else none
  | _ => none
theorem ab_ob_of {h : ab_H} {r ci : Nat} {u : Unit} (e : ab_ob h r ci = some u) : ∃ fs, h[r]? = some (.inr (ci, fs)) := by
  unfold ab_ob at e
  split at e
  · next c fs hc =>
    split at e
    · next hci => exact ⟨fs, by rw [hc, hci]⟩
    · cases e
  · cases e
def ab_Ok (Mc : ab_M) (n : Nat) : Prop := Cond.code Mc.2.1 Mc.2.2.1 Mc.2.2.2.1 Mc.2.2.2.2 ∈ ab_tb ∧ Cond.initialized Mc.2.1.cls ∈ ab_tb ∧ (Mc.2.1.cls ≠ "java/lang/invoke/MethodHandle" ∧ Mc.2.1.cls ≠ "java/lang/invoke/VarHandle") ∧ (parseMethodDescriptor Mc.2.1.desc).map (fun d => d.parameters.length) = some n ∧ Mc.2.2.2.1 ≤ 17
theorem ab_gi {M Mc : ab_M} (hc : Cond.code Mc.2.1 Mc.2.2.1 Mc.2.2.2.1 Mc.2.2.2.2 ∈ ab_tb) : GoodIn (ab_ws M) (ab_ws Mc) := by
  intro w hw
  have h1 : w ∈ ab_tb := (List.mem_cons.mp hw).elim (fun e => by rw [e]; exact hc) id
  exact ⟨ab_tsin h1, good_of_word (List.mem_filter.mp h1).2⟩
theorem ab_X.same {s U : State} (hv : s.vm = U.vm) (h : ab_X s) : ab_X U := by
  intro w hw
  have h1 := h w hw
  have h2 := (List.mem_filter.mp hw).2
  match w, h1, h2 with
  | .fieldLinkNest .., h1, _ => exact va_Nw.same rfl hv h1
  | .methodLinkNest .., h1, _ => exact va_Nw.same rfl hv h1
  | .arrayOver (.object C), h1, _ => exact va_AO.moved (C := C) (by rw [hv]; exact Vm.Alike.refl U.vm) h1
theorem ab_blind {g : ab_G} {vs : List Value} {h : ab_H} : FrameBlind (ab_Pc g vs h) := by
  intro a U g' mk q
  obtain ⟨q0, qE, qW⟩ := q
  exact ⟨q0, ⟨va_K.moved (u := U) (U := U.calling g' mk a) (Vm.Alike.refl U.vm) qE.1, ab_X.same (s := U) (U := U.calling g' mk a) rfl qE.2.1, qE.2.2⟩, qW⟩
theorem ab_pre {g : ab_G} {vs : List Value} {h : ab_H} {s : State} {H : Heap} (E : ab_E g s) (Wd : ab_W g h H) : ∀ U : State, U.heap = H → s.WarmedH U.vm → ab_Pc g vs h (vs.map (ab_v g.2.2)).toArray U :=
  fun U hU hW => ⟨rfl, ⟨va_K.moved hW.alike E.1, E.2.1.moved hW, by rw [hU, Wd.1]; exact Nat.le_add_right _ _⟩, by rw [hU]; exact Wd⟩
theorem ab_sumcat (b : Nat) (st : List Value) : ((st.map (ab_v b)).map fun v => v.category).sum = (st.map fun v => v.category).sum := by
  rw [List.map_map]
  congr 1
  apply List.map_congr_left
  intro v _
  exact ab_cat b v
section
variable {l : Launch} {g : ab_G} {M : ab_M} {d mc ms pc pc' ce sl : Nat} {ls ls' : List (Nat × Value)} {st : List Value} {h h' : ab_H} {K : ab_K}
theorem ab_fin {p : Program} {e : Env} {R : Room} {s : State} {m : MethodId} {args aa : Array Value} {below : List Frame} {meth : Method} {c : Code} {H : Heap} {locs : List Loc} {la : Array Slot} {stk rest : List Value} {mc' ms' : Nat} {K' : ab_K} {Q : State → Prop}
    (hr : va_Run p l e R s m args below meth c H locs ce sl mc' ms' (F0 m pc la stk) rest (ab_Q g K' aa) (ab_F g)) (S : va_S (ab_F g) s.heap H locs)
    (kk : ∀ (v : Option Value) (h' : ab_H) (H' : Heap) (locs' : List Loc), K' v h' → ab_W g h' H' → va_S (ab_F g) s.heap H' locs' → W p l e R s m args below meth c H' locs' (ce + mc') (sl + ms') Q (F0 m (pc + 3) la ((v.map (ab_v g.2.2)).toList ++ rest))) : W p l e R s m args below meth c H locs ce sl Q (F0 m pc la stk) := by
  intro T hT X
  obtain ⟨v, st₀, t, T', L, h0, X', hL, e1, e2, ⟨⟨v', h', hv, hK, hW⟩, hz, hk⟩, st⟩ := hr T hT X
  cases hv
  rw [h0] at hz hk
  obtain ⟨t2, a1, b1⟩ := kk v' h' T'.heap (locs ++ L) hK (by rw [e1]; exact hW)
    ⟨Nat.le_trans S.1 (by rw [e1]; exact hz), fun q h1 h2 => by rw [e1, hk q (Nat.lt_of_lt_of_le h1 S.1) h2]; exact S.2.1 q h1 h2, fun q hq => by
      rcases List.mem_append.mp hq with h | h
      · exact S.2.2 q h
      · exact hL q h⟩ T' rfl X'
  exact ⟨t2, st t2 a1, b1⟩
theorem ab_stl (v : Option Value) (b : Nat) (st : List Value) : (v.map (ab_v b)).toList ++ st.map (ab_v b) = (v.toList ++ st).map (ab_v b) := by
  cases v <;> simp
theorem ab_callS {idx n mc' ms' dc : Nat} {Mc : ab_M} {as stk : List Value} (hd : decode M.2.2.1 pc = .ok (.invokestatic idx, 3)) (hl : ab_ML M.1 idx Mc.2.1) (ok : ab_Ok Mc n) (hst : Cond.static Mc.2.1 ∈ ab_tb) (hn : as.length = n) (hdc : dc + 1 ≤ d) (hcat : (st.map fun v => v.category).sum ≤ 8) (h1 : ce + mc' ≤ mc) (h2 : sl + ms' ≤ ms) (hs : as.reverse ++ st = stk) (hp : pc + 3 = pc') (kk : ab_S l g Mc dc mc' ms' as h (fun v h' => ab_Ev l g M d mc ms pc' ls (v.toList ++ st) h' (ce + mc') (sl + ms') K)) : ab_Ev l g M d mc ms pc ls stk h ce sl K := by
  subst hp; subst hs
  intro p e s m args below meth c H locs la C0 E S Wd hla
  have hts := C0.2.2.2.2.2.1
  have hR : (ab_R dc mc' ms').frames + 1 ≤ (ab_R d mc ms).frames ∧ 8 + (Mc.2.2.2.1 + 11) + (ab_R dc mc' ms').locals ≤ (ab_R d mc ms).locals := ⟨hdc, by show 8 + (Mc.2.2.2.1 + 11) + 36 * dc ≤ 36 * d; have := ok.2.2.2.2; omega⟩
  have hstk : (as.reverse ++ st).map (ab_v g.2.2) = (as.map (ab_v g.2.2)).reverse ++ st.map (ab_v g.2.2) := by simp
  have hr : va_Run p l e (ab_R d mc ms) s m args below meth c H locs ce sl mc' ms' (F0 m pc la ((as.reverse ++ st).map (ab_v g.2.2))) (st.map (ab_v g.2.2)) (ab_Q g (fun v h' => ab_Ev l g M d mc ms (pc + 3) ls (v.toList ++ st) h' (ce + mc') (sl + ms') K) (as.map (ab_v g.2.2)).toArray) (ab_F g) := by
    rcases hl with hl | hl
    · exact va_runS (As := as.map (ab_v g.2.2)) ⟨C0.1, C0.2.1, C0.2.2.2.1, C0.2.2.2.2.1, hts⟩ kk ⟨callB_of n hts (ab_gi ok.1) rfl rfl rfl (hts _ (ab_tsin ok.2.1)) (hts _ (ab_tsin hl)) ⟨ok.2.2.1.1, ok.2.2.1.2, ok.2.2.2.1⟩ hR, hts _ (ab_tsin hst)⟩ ⟨ab_blind, ab_pre E Wd⟩ rfl (by rw [List.length_map]; exact hn) hla.1 hstk (by show 2 * 0 + _ ≤ 8; rw [ab_sumcat]; omega) hd ⟨h1, h2⟩
    · exact va_runSN (As := as.map (ab_v g.2.2)) ⟨C0.1, C0.2.1, C0.2.2.2.1, C0.2.2.2.2.1, hts⟩ kk ⟨va_cnB n hts (ab_gi ok.1) rfl rfl rfl (E.2.1 _ hl) (hts _ (ab_tsin ok.2.1)) ⟨ok.2.2.1.1, ok.2.2.1.2, ok.2.2.2.1⟩ hR, hts _ (ab_tsin hst), trivial⟩ ⟨ab_blind, ab_pre E Wd⟩ rfl (by rw [List.length_map]; exact hn) hla.1 hstk (by show 2 * 0 + _ ≤ 8; rw [ab_sumcat]; omega) hd ⟨h1, h2⟩
  refine ab_fin hr S (fun v h' H' locs' hK hW hS => ?_)
  rw [ab_stl]
  exact hK p e s m args below meth c H' locs' la C0 E hS hW hla
theorem ab_callV {idx n mc' ms' dc r ci : Nat} {Mc : ab_M} {T : u_T} {N : Nat} {as stk : List Value} {u : Unit} (hd : decode M.2.2.1 pc = .ok (.invokevirtual idx, 3)) (hl : ab_ML M.1 idx Mc.2.1) (ok : ab_Ok Mc n) (hin : Cond.instanceMethod Mc.2.1 ∈ ab_tb) (hsel : Cond.selects Mc.2.1.cls Mc.2.1 Mc.2.1 ∈ ab_tb) (hc : vwCl[ci]? = some (Mc.2.1.cls, T, N)) (he : ab_ob h r ci = some u) (hn : as.length = n) (hdc : dc + 1 ≤ d) (hcat : (st.map fun v => v.category).sum ≤ 8) (h1 : ce + mc' ≤ mc) (h2 : sl + ms' ≤ ms) (hs : as.reverse ++ .ref r :: st = stk) (hp : pc + 3 = pc') (kk : ab_S l g Mc dc mc' ms' (.ref r :: as) h (fun v h' => ab_Ev l g M d mc ms pc' ls (v.toList ++ st) h' (ce + mc') (sl + ms') K)) : ab_Ev l g M d mc ms pc ls stk h ce sl K := by
  obtain ⟨fs, he⟩ := ab_ob_of he
  subst hp; subst hs
  intro p e s m args below meth c H locs la C0 E S Wd hla
  have hts := C0.2.2.2.2.2.1
  have hR : (ab_R dc mc' ms').frames + 1 ≤ (ab_R d mc ms).frames ∧ 8 + (Mc.2.2.2.1 + 11) + (ab_R dc mc' ms').locals ≤ (ab_R d mc ms).locals := ⟨hdc, by show 8 + (Mc.2.2.2.1 + 11) + 36 * dc ≤ 36 * d; have := ok.2.2.2.2; omega⟩
  have hstk : (as.reverse ++ .ref r :: st).map (ab_v g.2.2) = (as.map (ab_v g.2.2)).reverse ++ .ref (g.2.2 + r) :: st.map (ab_v g.2.2) := by simp [ab_v]
  have hrc := va_recv E.1 Wd.2 hc (ab_w_get (b := g.2.2) (cA := g.2.1) he)
  have hr : va_Run p l e (ab_R d mc ms) s m args below meth c H locs ce sl mc' ms' (F0 m pc la ((as.reverse ++ .ref r :: st).map (ab_v g.2.2))) (st.map (ab_v g.2.2)) (ab_Q g (fun v h' => ab_Ev l g M d mc ms (pc + 3) ls (v.toList ++ st) h' (ce + mc') (sl + ms') K) (Value.ref (g.2.2 + r) :: as.map (ab_v g.2.2)).toArray) (ab_F g) := by
    rcases hl with hl | hl
    · exact va_runV (C := Mc.2.1.cls) (b := g.2.2 + r) (As := as.map (ab_v g.2.2)) ⟨C0.1, C0.2.1, C0.2.2.2.1, C0.2.2.2.2.1, hts⟩ kk ⟨callB_of n hts (ab_gi ok.1) rfl rfl rfl (hts _ (ab_tsin ok.2.1)) (hts _ (ab_tsin hl)) ⟨ok.2.2.1.1, ok.2.2.1.2, ok.2.2.2.1⟩ hR, hts _ (ab_tsin hin), hts _ (ab_tsin hsel)⟩ ⟨ab_blind, hrc, ab_pre (vs := .ref r :: as) E Wd⟩ rfl (by rw [List.length_map]; exact hn) hla.1 hstk (by show 2 * 0 + _ ≤ 8; rw [ab_sumcat]; omega) hd ⟨h1, h2⟩
    · exact va_runVN (C := Mc.2.1.cls) (b := g.2.2 + r) (As := as.map (ab_v g.2.2)) ⟨C0.1, C0.2.1, C0.2.2.2.1, C0.2.2.2.2.1, hts⟩ kk ⟨va_cnB n hts (ab_gi ok.1) rfl rfl rfl (E.2.1 _ hl) (hts _ (ab_tsin ok.2.1)) ⟨ok.2.2.1.1, ok.2.2.1.2, ok.2.2.2.1⟩ hR, hts _ (ab_tsin hin), hts _ (ab_tsin hsel)⟩ ⟨ab_blind, hrc, ab_pre (vs := .ref r :: as) E Wd⟩ rfl (by rw [List.length_map]; exact hn) hla.1 hstk (by show 2 * 0 + _ ≤ 8; rw [ab_sumcat]; omega) hd ⟨h1, h2⟩
  refine ab_fin hr S (fun v h' H' locs' hK hW hS => ?_)
  rw [ab_stl]
  exact hK p e s m args below meth c H' locs' la C0 E hS hW hla
theorem ab_callI {idx n mc' ms' dc r : Nat} {Mc : ab_M} {as stk : List Value} (hd : decode M.2.2.1 pc = .ok (.invokespecial idx, 3)) (hl : ab_ML M.1 idx Mc.2.1) (ok : ab_Ok Mc n) (hret : Mc.2.2.2.2 = none) (hi : Mc.2.1.name = "<init>") (hin : Cond.instanceMethod Mc.2.1 ∈ ab_tb) (hn : as.length = n) (hdc : dc + 1 ≤ d) (hcat : (st.map fun v => v.category).sum ≤ 8) (h1 : ce + mc' ≤ mc) (h2 : sl + ms' ≤ ms) (hs : as.reverse ++ .ref r :: st = stk) (hp : pc + 3 = pc') (kk : ab_S l g Mc dc mc' ms' (.ref r :: as) h (fun v h' => ab_Ev l g M d mc ms pc' ls (v.toList ++ st) h' (ce + mc') (sl + ms') K)) : ab_Ev l g M d mc ms pc ls stk h ce sl K := by
  subst hp; subst hs
  intro p e s m args below meth c H locs la C0 E S Wd hla
  have hts := C0.2.2.2.2.2.1
  have hR : (ab_R dc mc' ms').frames + 1 ≤ (ab_R d mc ms).frames ∧ 8 + (Mc.2.2.2.1 + 11) + (ab_R dc mc' ms').locals ≤ (ab_R d mc ms).locals := ⟨hdc, by show 8 + (Mc.2.2.2.1 + 11) + 36 * dc ≤ 36 * d; have := ok.2.2.2.2; omega⟩
  have hstk : (as.reverse ++ .ref r :: st).map (ab_v g.2.2) = (as.map (ab_v g.2.2)).reverse ++ .ref (g.2.2 + r) :: st.map (ab_v g.2.2) := by simp [ab_v]
  have hwn : ab_ws Mc = Cond.code Mc.2.1 Mc.2.2.1 Mc.2.2.2.1 none :: ab_tb := by rw [← hret]; rfl
  have hr : va_Run p l e (ab_R d mc ms) s m args below meth c H locs ce sl mc' ms' (F0 m pc la ((as.reverse ++ .ref r :: st).map (ab_v g.2.2))) (st.map (ab_v g.2.2)) (ab_Q g (fun v h' => ab_Ev l g M d mc ms (pc + 3) ls (v.toList ++ st) h' (ce + mc') (sl + ms') K) (Value.ref (g.2.2 + r) :: as.map (ab_v g.2.2)).toArray) (ab_F g) := by
    rcases hl with hl | hl
    · exact va_runI (b := g.2.2 + r) (As := as.map (ab_v g.2.2)) ⟨C0.1, C0.2.1, C0.2.2.2.1, C0.2.2.2.2.1, hts⟩ kk ⟨callB_of n hts (ab_gi ok.1) hwn rfl rfl (hts _ (ab_tsin ok.2.1)) (hts _ (ab_tsin hl)) ⟨ok.2.2.1.1, ok.2.2.1.2, ok.2.2.2.1⟩ hR, hi, hts _ (ab_tsin hin)⟩ ⟨ab_blind, ab_pre (vs := .ref r :: as) E Wd⟩ rfl (by rw [List.length_map]; exact hn) hla.1 hstk (by show 2 * 0 + _ ≤ 8; rw [ab_sumcat]; omega) hd ⟨h1, h2⟩
    · exact va_runIN (b := g.2.2 + r) (As := as.map (ab_v g.2.2)) ⟨C0.1, C0.2.1, C0.2.2.2.1, C0.2.2.2.2.1, hts⟩ kk ⟨va_cnB n hts (ab_gi ok.1) hwn rfl rfl (E.2.1 _ hl) (hts _ (ab_tsin ok.2.1)) ⟨ok.2.2.1.1, ok.2.2.1.2, ok.2.2.2.1⟩ hR, hi, hts _ (ab_tsin hin)⟩ ⟨ab_blind, ab_pre (vs := .ref r :: as) E Wd⟩ rfl (by rw [List.length_map]; exact hn) hla.1 hstk (by show 2 * 0 + _ ≤ 8; rw [ab_sumcat]; omega) hd ⟨h1, h2⟩
  refine ab_fin hr S (fun v h' H' locs' hK hW hS => ?_)
  rw [ab_stl]
  exact hK p e s m args below meth c H' locs' la C0 E hS hW hla
theorem ab_mmax {idx : Nat} {x y : Int32} (hd : decode M.2.2.1 pc = .ok (.invokestatic idx, 3)) (hl : Cond.methodLink M.1 idx Lib.Math.max.name ∈ ab_tb) (hst : Cond.static Lib.Math.max.name ∈ ab_tb) (hini : Cond.initialized "java/lang/Math" ∈ ab_tb) (hco : Cond.code Lib.Math.max.name Lib.Math.max.code 2 (some .int) ∈ ab_tb) (hfr : 1 ≤ d) (hcat : (st.map fun v => v.category).sum ≤ 8) (h1 : ce ≤ mc) (h2 : sl ≤ ms) (hp : pc + 3 = pc') (kk : ab_Ev l g M d mc ms pc' ls (.int (if x < y then y else x) :: st) h ce sl K) : ab_Ev l g M d mc ms pc ls (.int y :: .int x :: st) h ce sl K := by
  subst hp
  intro p e s m args below meth c H locs la C0 E S Wd hla
  have hts := C0.2.2.2.2.2.1
  exact va_mmax C0.1 C0.2.1 (by rw [C0.2.2.2.1]; exact hla.1.symm) C0.2.2.2.2.1 (hts _ (ab_tsin hl)) (hts _ (ab_tsin hst)) (hts _ (ab_tsin hini)) (hts _ (ab_tsin hco)) hfr (by rw [ab_sumcat]; show _ + 13 ≤ 36 * d; omega) h1 h2 hd (kk p e s m args below meth c H locs la C0 E S Wd hla)
theorem ab_mmin {idx : Nat} {x y : Int32} (hd : decode M.2.2.1 pc = .ok (.invokestatic idx, 3)) (hl : Cond.methodLink M.1 idx Lib.Math.min.name ∈ ab_tb) (hst : Cond.static Lib.Math.min.name ∈ ab_tb) (hini : Cond.initialized "java/lang/Math" ∈ ab_tb) (hco : Cond.code Lib.Math.min.name Lib.Math.min.code 2 (some .int) ∈ ab_tb) (hfr : 1 ≤ d) (hcat : (st.map fun v => v.category).sum ≤ 8) (h1 : ce ≤ mc) (h2 : sl ≤ ms) (hp : pc + 3 = pc') (kk : ab_Ev l g M d mc ms pc' ls (.int (if y < x then y else x) :: st) h ce sl K) : ab_Ev l g M d mc ms pc ls (.int y :: .int x :: st) h ce sl K := by
  subst hp
  intro p e s m args below meth c H locs la C0 E S Wd hla
  have hts := C0.2.2.2.2.2.1
  exact va_mmin C0.1 C0.2.1 (by rw [C0.2.2.2.1]; exact hla.1.symm) C0.2.2.2.2.1 (hts _ (ab_tsin hl)) (hts _ (ab_tsin hst)) (hts _ (ab_tsin hini)) (hts _ (ab_tsin hco)) hfr (by rw [ab_sumcat]; show _ + 13 ≤ 36 * d; omega) h1 h2 hd (kk p e s m args below meth c H locs la C0 E S Wd hla)
theorem ab_obj {idx r : Nat} (hd : decode M.2.2.1 pc = .ok (.invokespecial idx, 3)) (hl : Cond.methodLink M.1 idx objectInit ∈ ab_tb) (hin : Cond.instanceMethod objectInit ∈ ab_tb) (hco : Cond.code objectInit ⟨#[0xb1]⟩ 1 none ∈ ab_tb) (hfr : 1 ≤ d) (hst : st = []) (hp : pc + 3 = pc') (kk : ab_Ev l g M d mc ms pc' ls st h ce sl K) : ab_Ev l g M d mc ms pc ls (.ref r :: st) h ce sl K := by
  subst hp; subst hst
  intro p e s m args below meth c H locs la C0 E S Wd hla
  have hts := C0.2.2.2.2.2.1
  exact W.objInit C0.1 C0.2.1 C0.2.2.2.2.1 (hts _ (ab_tsin hl)) (hts _ (ab_tsin hin)) (hts _ (ab_tsin hco)) rfl (by rw [C0.2.2.2.1]; exact hla.1) rfl hd hfr (by show 2 * 0 + 0 + 12 ≤ 36 * d; omega) (kk p e s m args below meth c H locs la C0 E S Wd hla)
end
