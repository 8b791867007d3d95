section
variable {l : Launch} {g : ab_G} {M : ab_M} {d mc ms pc pc' ce sl : Nat} {ls ls' : List (Nat × Value)} {st : List Value} {h h' : ab_H} {K : ab_K}
theorem ab_aast {r v : Nat} {i : Int32} (hd : decode M.2.2.1 pc = .ok (.aastore, 1)) (he : ab_sR h r i v = some h') (hp : pc + 1 = pc') (kk : ab_Ev l g M d mc ms pc' ls st h' ce sl K) : ab_Ev l g M d mc ms pc ls (.ref v :: .int i :: .ref r :: st) h ce sl K := by
  obtain ⟨t, n, f, ci, vs, e1, e2, hin, t1, t2, rfl, rfl⟩ := ab_sR_of he
  subst hp
  intro p e s m args below meth c H locs la C0 E S Wd hla
  have hw := ab_w_get (b := g.2.2) (cA := g.2.1) e1
  obtain ⟨rr, hc, ht⟩ := ab_ty_at (cA := g.2.1) t1 t2
  have hlt : i.toNatClampNeg < n := Nat.not_le.mp fun q => hin (Or.inr q)
  have h0 : ¬ i < 0 := fun q => hin (Or.inl q)
  obtain ⟨r', hr', cellV, g1, g2, g3, -⟩ := Wd.2 v _ (ab_w_get e2)
  have hcls := (E.1.1 (ab_ek t) rr hc).2
  obtain ⟨kA, comp, k1, k2, k3, -⟩ := (E.1.2 t _ ht).2
  have hcomp : comp = g.1.1 (ab_ek t) := Option.some.inj (k3.symm.trans hcls.1)
  subst hcomp
  obtain ⟨kC, hkC, -⟩ := hcls.2
  refine W.aast C0.1 C0.2.1 (Wd.2 r _ hw) (fun q h => by cases h) (fun h => by cases h) k1 k2 rfl hkC ⟨h0, by show _ < (arrV _ _ _).slots.size; rw [arrV_size]; exact hlt⟩ g1 (fun q h => by rw [g3] at h; cases h) (by rw [g2]; exact hkC) (by rw [g2]; exact va_assign hcls) rfl rfl hd fun H1 e0 z oq => ?_
  have hP' := Wd.2.set (ab_D (g := g)) hw (e := ab_c g.2.2 g.2.1 (.inl (t, n, .inr (.inr (.inr (.inr (va_up f i.toNatClampNeg (some v)))))))) (H1 := H1) (by
    show H1[g.2.2 + r]? = some (vp_cell _ _)
    rw [e0]
    show some ((vp_cell (g.2.1 t) (n, .inr (.inr (.inr (.inr (fun k => (f k).map (fun j => g.2.2 + j))))))).setSlot _ _) = some (vp_cell (g.2.1 t) (n, .inr (.inr (.inr (.inr (fun k => (va_up f i.toNatClampNeg (some v) k).map (fun j => g.2.2 + j)))))))
    rw [vp_cell_q, vp_cell_q, arrV_store]
    congr 2
    funext q
    by_cases hq : q = i.toNatClampNeg
    · subst hq
      simp [updV, va_up, va_rf]
    · simp [updV, va_up, hq]) oq
  rw [ab_w_set] at hP'
  exact kk p e s m args below meth c H1 _ la C0 E (S.put z oq (ab_D.2 r _ hw)) (ab_W_set Wd z hP') hla
theorem ab_W_push {H H1 : Heap} {c : ab_C} (Wd : ab_W g h H) (hz : H1.size = H.size + 1) (o1 : ∀ q, q < H.size → H1[q]? = H[q]?) (hc : va_at g.1 vwCl (g.2.2 + h.length, ab_c g.2.2 g.2.1 c) H1) : ab_W g (h ++ [c]) H1 := by
  refine ⟨by rw [hz, Wd.1, List.length_append]; rfl, ?_⟩
  rw [ab_w_app]
  refine (Wd.2.kept (fun k x hx => o1 x.1 ((Wd.2 k x hx).lt))).app (fun k x hx => ?_)
  have hz : k < 1 := (List.getElem?_eq_some_iff.mp hx).1
  rw [show k = 0 by omega] at hx
  cases hx
  exact hc
theorem ab_S_push {A : Nat → Prop} {H0 H H1 : Heap} {locs : List Loc} (S : va_S A H0 H locs) (hz : H1.size = H.size + 1) (o1 : ∀ q, q < H.size → H1[q]? = H[q]?) : va_S A H0 H1 locs :=
  ⟨Nat.le_trans S.1 (by omega), fun x h1 h2 => (o1 x (Nat.lt_of_lt_of_le h1 S.1)).trans (S.2.1 x h1 h2), S.2.2⟩
theorem ab_new {idx ci : Nat} {C : String} {T : u_T} {N ce' sl' : Nat} {fs : List Value} (ty : Nat → FieldType) (hty : ∀ k, k < N → parseFieldDescriptor (T k).2.2.1 = some (ty k)) (hd : decode M.2.2.1 pc = .ok (.new idx, 3)) (hc : vwCl[ci]? = some (C, T, N)) (hcl : Cond.classLink M.1 idx C ∈ ab_tb) (hins : Cond.instantiable C N ∈ ab_tb) (hini : Cond.initialized C ∈ ab_tb) (hfs : ∀ j, j < N → defaultValue (ty j) = vp_V (fs.map (ab_v g.2.2)) j) (hce : ce + 1 = ce') (hsl : sl + N = sl') (h1 : ce' ≤ mc) (h2 : sl' ≤ ms) (hp : pc + 3 = pc') (kk : ab_Ev l g M d mc ms pc' ls (.ref h.length :: st) (h ++ [.inr (ci, fs)]) ce' sl' K) : ab_Ev l g M d mc ms pc ls st h ce sl K := by
  subst hp; subst hce; subst hsl
  intro p e s m args below meth c H locs la C0 E S Wd hla
  obtain ⟨ty0, hC⟩ := ab_cl hc
  have hin : ∀ w ∈ u_ws C T N, w ∈ ab_ws M := fun w z => ab_tsin (hC.1 w z)
  have hts := C0.2.2.2.2.2.1
  have hKn := E.1.1 ci _ hc
  refine W.newcK C0.1 C0.2.1 C0.2.2.2.2.1 (hts _ (ab_tsin hcl)) (hts _ (ab_tsin hins)) (hts _ (ab_tsin hini)) rfl hd h1 h2 hKn.2.1 Wd.1 fun H1 kC hkC e1 z1 o1 => ?_
  rw [← Wd.1] at z1 o1
  exact kk p e s m args below meth c H1 locs la C0 E (ab_S_push S z1 o1) (ab_W_push Wd z1 o1 ⟨_, hc, (u_born ty hts hin hKn hkC e1 hty).to hfs⟩) hla
theorem ab_newI {n : Int32} {N ce' sl' : Nat} (hd : decode M.2.2.1 pc = .ok (.newarray .int, 2)) (ha : Cond.arrayClass .int ∈ ab_tb) (hn : ¬ n < 0) (hN : n.toNatClampNeg = N) (hby : N * 4 ≤ 536870912) (hce : ce + 1 = ce') (hsl : sl + N = sl') (h1 : ce' ≤ mc) (h2 : sl' ≤ ms) (hp : pc + 2 = pc') (kk : ab_Ev l g M d mc ms pc' ls (.ref h.length :: st) (h ++ [.inl (0, N, .inl (fun _ => 0))]) ce' sl' K) : ab_Ev l g M d mc ms pc ls (.int n :: st) h ce sl K := by
  subst hp; subst hce; subst hsl
  intro p e s m args below meth c H locs la C0 E S Wd hla
  refine va_newaK (atype := .int) C0.1 C0.2.1 (C0.2.2.2.2.2.1 _ (ab_tsin ha)) rfl hd rfl hn hN hby h1 h2 Wd.1 fun H1 cA e1 z1 o1 hAr hNm => ?_
  rw [← Wd.1] at z1 o1
  have hcA : cA = g.2.1 0 := Option.some.inj (hNm.symm.trans (E.1.2 0 _ rfl).2)
  subst hcA
  exact kk p e s m args below meth c H1 locs la C0 E (ab_S_push S z1 o1) (ab_W_push Wd z1 o1 (show H1[g.2.2 + h.length]? = some (vp_cell _ _) by rw [e1]; rfl)) hla
theorem ab_newZ {n : Int32} {N ce' sl' : Nat} (hd : decode M.2.2.1 pc = .ok (.newarray .boolean, 2)) (ha : Cond.arrayClass .boolean ∈ ab_tb) (hn : ¬ n < 0) (hN : n.toNatClampNeg = N) (hby : N * 1 ≤ 536870912) (hce : ce + 1 = ce') (hsl : sl + N = sl') (h1 : ce' ≤ mc) (h2 : sl' ≤ ms) (hp : pc + 2 = pc') (kk : ab_Ev l g M d mc ms pc' ls (.ref h.length :: st) (h ++ [.inl (1, N, .inl (fun _ => 0))]) ce' sl' K) : ab_Ev l g M d mc ms pc ls (.int n :: st) h ce sl K := by
  subst hp; subst hce; subst hsl
  intro p e s m args below meth c H locs la C0 E S Wd hla
  refine va_newaK (atype := .boolean) C0.1 C0.2.1 (C0.2.2.2.2.2.1 _ (ab_tsin ha)) rfl hd rfl hn hN hby h1 h2 Wd.1 fun H1 cA e1 z1 o1 hAr hNm => ?_
  rw [← Wd.1] at z1 o1
  have hcA : cA = g.2.1 1 := Option.some.inj (hNm.symm.trans (E.1.2 1 _ rfl).2)
  subst hcA
  exact kk p e s m args below meth c H1 locs la C0 E (ab_S_push S z1 o1) (ab_W_push Wd z1 o1 (show H1[g.2.2 + h.length]? = some (vp_cell _ _) by rw [e1]; rfl)) hla
theorem ab_newR {n : Int32} {N t ce' sl' idx : Nat} {C : String} {rr : vw_C} (hd : decode M.2.2.1 pc = .ok (.anewarray idx, 3)) (t1 : ¬ t < 2) (t2 : ¬ 4 < t) (hrr : vwCl[ab_ek t]? = some rr) (hC : rr.1 = C) (hcl : Cond.classLink M.1 idx C ∈ ab_tb) (hao : Cond.arrayOver (.object C) ∈ ab_xs) (hn : ¬ n < 0) (hN : n.toNatClampNeg = N) (hby : N * 4 ≤ 536870912) (hce : ce + 1 = ce') (hsl : sl + N = sl') (h1 : ce' ≤ mc) (h2 : sl' ≤ ms) (hp : pc + 3 = pc') (kk : ab_Ev l g M d mc ms pc' ls (.ref h.length :: st) (h ++ [.inl (t, N, .inr (.inr (.inr (.inr (fun _ => none)))))]) ce' sl' K) : ab_Ev l g M d mc ms pc ls (.int n :: st) h ce sl K := by
  subst hp; subst hce; subst hsl; subst hN
  intro p e s m args below meth c H locs la C0 E S Wd hla
  obtain ⟨r2, hc2, ht⟩ := ab_ty_at (cA := g.2.1) t1 t2
  have er : r2 = rr := Option.some.inj (hc2.symm.trans hrr)
  subst er
  rw [hC] at ht
  refine W.anew C0.1 C0.2.1 C0.2.2.2.2.1 (C0.2.2.2.2.2.1 _ (ab_tsin hcl)) (va_AO.use (C := C) (E.2.1 _ hao)) rfl hd rfl hn hby h1 h2 fun cA kA comp f1 f2 f3 f4 => ?_
  generalize hH1 : H.push ({ cls := cA, slots := Array.replicate n.toNatClampNeg .null, vm := .none } : Cell) = H1
  have z1 : H1.size = H.size + 1 := by rw [← hH1, Array.size_push]
  have e1 : H1[H.size]? = some (arrV cA n.toNatClampNeg (fun _ => .null)) := by rw [← hH1, Array.getElem?_push_size, ← arrV_new]
  have o1 : ∀ q : Nat, q < H.size → H1[q]? = H[q]? := fun q hq => by rw [← hH1, Array.getElem?_push, if_neg (Nat.ne_of_lt hq)]
  obtain ⟨kA2, comp2, -, -, -, k4⟩ := (E.1.2 t _ ht).2
  have hcA : cA = g.2.1 t := Option.some.inj (f1.symm.trans k4)
  subst hcA
  have k0 := kk p e s m args below meth c H1 locs la C0 E (ab_S_push S z1 o1) (ab_W_push Wd z1 o1 (show H1[g.2.2 + h.length]? = some (vp_cell _ _) by rw [← Wd.1, e1]; rfl)) hla
  refine W.eq ?_ k0
  show F0 _ _ _ (Value.ref H.size :: _) = _
  rw [Wd.1]
  rfl
theorem ab_copy {idx r0 r1 : Nat} {sp dp n : Int32} (hd : decode M.2.2.1 pc = .ok (.invokestatic idx, 3)) (hl : Cond.methodLink M.1 idx arraycopyName ∈ ab_tb) (hnat : Cond.native arraycopyName ∈ ab_tb) (hstat : Cond.static arraycopyName ∈ ab_tb) (hini : Cond.initialized "java/lang/System" ∈ ab_tb) (hfr : 1 ≤ d) (hst : st = []) (he : ab_cp h r0 sp r1 dp n = some h') (hp : pc + 3 = pc') (kk : ab_Ev l g M d mc ms pc' ls st h' ce sl K) : ab_Ev l g M d mc ms pc ls (.int n :: .int dp :: .ref r1 :: .int sp :: .ref r0 :: st) h ce sl K := by
  obtain ⟨n0, n1, f, f1, e0, e1, s1, s2, s3, s4, s5, rfl⟩ := ab_cp_of he
  subst hp; subst hst
  intro p e s m args below meth c H locs la C0 E S Wd hla
  have hts := C0.2.2.2.2.2.1
  have hw0 := ab_w_get (b := g.2.2) (cA := g.2.1) e0
  have hw1 := ab_w_get (b := g.2.2) (cA := g.2.1) e1
  have nn : ∀ z : Int32, ¬ z < 0 → z.toInt = (z.toNatClampNeg : Int) := by
    intro z hz
    have hz0 : (0 : Int) ≤ z.toInt := by
      have := Int32.not_lt.mp hz
      simpa using Int32.le_iff_toInt_le.mp this
    show z.toInt = ((z.toInt.toNat : Nat) : Int)
    omega
  intro T hT X
  have hc0 : H[g.2.2 + r0]? = some (vp_cell (g.2.1 0) (n0, .inl f)) := Wd.2 r0 _ hw0
  have hc1 : H[g.2.2 + r1]? = some (vp_cell (g.2.1 0) (n1, .inl f1)) := Wd.2 r1 _ hw1
  obtain ⟨-, k0, hk0, cm0, hkk0⟩ := (E.1.2 0 _ rfl).1 n0 (fun j => .int (f j))
  obtain ⟨-, k1, hk1, cm1, hkk1⟩ := (E.1.2 0 _ rfl).1 n1 (fun j => .int (f1 j))
  obtain ⟨vm', X', step⟩ := X.arraycopy C0.1 C0.2.2.2.2.1 (hts _ (ab_tsin hl)) (hts _ (ab_tsin hnat)) (hts _ (ab_tsin hstat)) (hts _ (ab_tsin hini)) (src := g.2.2 + r0) (dst := g.2.2 + r1) (cs := vp_cell (g.2.1 0) (n0, .inl f)) (cd := vp_cell (g.2.1 0) (n1, .inl f1)) (srcPos := sp) (destPos := dp) (n := n) (by rw [hT]; exact hc0) (by rw [hT]; exact hc1)
    (fun _ h => by cases h) (fun _ h => by cases h) (fun h => by cases h) (fun h => by cases h) hk0 hk1 hkk0 hkk1 (by simp [refKind]) s1 s2 s3
    (by rw [nn sp s1, nn n s3]; show ¬ _ > ((arrV _ n0 (fun j => .int (f j))).slots.size : Int); rw [arrV_size]; omega)
    (by rw [nn dp s2, nn n s3]; show ¬ _ > ((arrV _ n1 (fun j => .int (f1 j))).slots.size : Int); rw [arrV_size]; omega)
    (fun vm₁ _ i hi => by
      have e : (vp_cell (g.2.1 0) (n0, .inl f)).slots.getD (sp.toNatClampNeg + i) .null = .int (f (sp.toNatClampNeg + i)) := by
        show (arrV _ n0 (fun j => .int (f j))).slots.getD _ _ = _
        rw [Array.getD_eq_getD_getElem?, arrV_read _ _ (by omega)]
        rfl
      refine ⟨?_, ?_⟩
      · rw [e]
        rfl
      · rw [e]
        exact trivial)
    (g := F0 m pc la (.int n :: .int dp :: .ref (g.2.2 + r1) :: .int sp :: .ref (g.2.2 + r0) :: [])) rfl (by rw [C0.2.2.2.1]; exact hla.1) (rest := []) rfl (by rw [C0.2.1]; exact hd) hfr (by show 2 * 0 + 0 + (nativeFrameWords "java/lang/System" "arraycopy" 5 + 11) ≤ 36 * d; rw [show nativeFrameWords "java/lang/System" "arraycopy" 5 = 7 by decide]; omega)
  have e2 : copied (vp_cell (g.2.1 0) (n0, .inl f)) (vp_cell (g.2.1 0) (n1, .inl f1)) sp dp n = vp_cell (g.2.1 0) (n1, .inl (va_cpy f f1 sp.toNatClampNeg dp.toNatClampNeg n.toNatClampNeg)) := va_copied (fun z => .int z) (g.2.1 0) (g.2.1 0) f f1 s4
  rw [e2] at X' step
  have hlt : g.2.2 + r1 < H.size := (Array.getElem?_eq_some_iff.mp hc1).1
  have hheap : ((T.setVm vm').setCell (g.2.2 + r1) (vp_cell (g.2.1 0) (n1, .inl (va_cpy f f1 sp.toNatClampNeg dp.toNatClampNeg n.toNatClampNeg)))).heap = H.setIfInBounds (g.2.2 + r1) (vp_cell (g.2.1 0) (n1, .inl (va_cpy f f1 sp.toNatClampNeg dp.toNatClampNeg n.toNatClampNeg))) := by rw [← hT]; rfl
  generalize hH1 : H.setIfInBounds (g.2.2 + r1) (vp_cell (g.2.1 0) (n1, .inl (va_cpy f f1 sp.toNatClampNeg dp.toNatClampNeg n.toNatClampNeg))) = H1 at hheap
  have oq : ∀ q : Nat, q ≠ g.2.2 + r1 → H1[q]? = H[q]? := fun q hq => by rw [← hH1]; simp [Array.getElem?_setIfInBounds, Ne.symm hq]
  have hz : H1.size = H.size := by rw [← hH1]; simp
  have hP' := Wd.2.set (ab_D (g := g)) hw1 (e := ab_c g.2.2 g.2.1 (.inl (0, n1, .inl (va_cpy f f1 sp.toNatClampNeg dp.toNatClampNeg n.toNatClampNeg)))) (H1 := H1) (by
    show H1[g.2.2 + r1]? = some (vp_cell _ _)
    rw [← hH1]
    simp [Array.getElem?_setIfInBounds, hlt, ab_a]) oq
  rw [ab_w_set] at hP'
  obtain ⟨t, a1, b1⟩ := kk p e s m args below meth c H1 _ la C0 E ⟨by rw [hz]; exact S.1, fun q g1 g2 => by
      rw [oq q (fun e => g2 (by rw [e]; exact ab_D.2 r1 _ hw1))]
      exact S.2.1 q g1 g2, fun q hq => by
      rcases List.mem_append.mp hq with h | h
      · exact S.2.2 q h
      · obtain ⟨z, -, hz⟩ := List.mem_map.mp h
        rw [← hz]
        exact ab_D.2 r1 _ hw1⟩ (ab_W_set Wd hz hP') hla _ hheap X'
  exact ⟨t, step t a1, b1⟩
end
