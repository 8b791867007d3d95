section
variable {l : Launch} {g : ab_G} {M : ab_M} {d mc ms pc pc' ce sl : Nat} {ls ls' : List (Nat × Value)} {st : List Value} {h h' : ab_H} {K : ab_K}
theorem ab_D : va_D (ab_F g) (ab_w g.2.2 g.2.1 h) := ab_w_D
theorem ab_putV {idx a ci k : Nat} {C : String} {T : u_T} {N : Nat} {fs : List Value} {v : Value} {ty : FieldType} (hd : decode M.2.2.1 pc = .ok (.putfield idx, 3)) (hc : vwCl[ci]? = some (C, T, N)) (hk : k < N) (hl : ab_FL M.1 idx (T k)) (hfin : (T k).2.2.2 = false) (hty : parseFieldDescriptor (T k).2.2.1 = some ty) (hn : narrow ty (ab_v g.2.2 v) = ab_v g.2.2 v) (hfit : fits ty (ab_v g.2.2 v) = true) (he : h[a]? = some (.inr (ci, fs))) (hlen : k < fs.length) (hp : pc + 3 = pc') (kk : ab_Ev l g M d mc ms pc' ls st (h.set a (.inr (ci, fs.set k v))) ce sl K) : ab_Ev l g M d mc ms pc ls (v :: .ref a :: st) h ce sl K := by
  subst hp
  intro p e s m args below meth c H locs la C0 E S Wd hla
  obtain ⟨ty0, hC⟩ := ab_cl hc
  have hin : ∀ w ∈ u_ws C T N, w ∈ ab_ws M := fun w z => ab_tsin (hC.1 w z)
  have hts := C0.2.2.2.2.2.1
  have hw := ab_w_get (b := g.2.2) (cA := g.2.1) he
  have hap := va_apart (own := M.1) hts hin ty0 hC.2.1 hC.2.2 E.1 hc
  obtain ⟨r, h1, cell, q1, q2, q3, q4⟩ := Wd.2 a _ hw
  have hr : r = (C, T, N) := Option.some.inj (h1.symm.trans hc)
  subst hr
  obtain ⟨hS, hfc, kC, hkC, hkind⟩ := E.1.1 ci _ hc
  obtain ⟨cf, kf, fi, f, hi, hsl⟩ := hS k hk
  have hlay := hts _ (hin _ (u_in_lay hk))
  unfold u_lay at hlay
  rw [if_neg (by rw [hfin]; decide)] at hlay
  have hst := (u_facts hfc hkC (u_lays hts hin hk) hi).1
  have h6 := u_store hfc hkC hkind hlay hi hty hn hfit
  have hlen' : k < (fs.map (ab_v g.2.2)).length := by simpa using hlen
  have fin : ∀ H' : Heap, H'[g.2.2 + a]? = some (cell.setSlot f.slot (ab_v g.2.2 v)) → H'.size = H.size → (∀ q, q ≠ g.2.2 + a → H'[q]? = H[q]?) → W p l e (ab_R d mc ms) s m args below meth c H' (locs ++ [⟨g.2.2 + a, f.slot⟩]) ce sl (MQ below (ab_Q g K) args s mc ms (ab_F g)) (F0 m (pc + 3) la (st.map (ab_v g.2.2))) := by
    intro H' e1 e2 e3
    rw [hsl] at e1
    have hP' := Wd.2.set (ab_D (g := g)) hw (e := .inr (ci, (fs.map (ab_v g.2.2)).set k (ab_v g.2.2 v))) ⟨_, hc, t_OB.to (V := updV (vp_V (fs.map (ab_v g.2.2))) k (ab_v g.2.2 v)) ⟨_, e1, q2, q3, t_set q4 hap hk (ab_v g.2.2 v)⟩ (fun j _ => vp_updV_set hlen' (ab_v g.2.2 v) j)⟩ e3
    rw [ab_setF] at hP'
    exact kk p e s m args below meth c H' _ la C0 E (S.put e2 e3 (ab_D.2 a _ hw)) (ab_W_set Wd e2 hP') hla
  rcases hl with hl | hl
  · exact W.putK C0.1 C0.2.1 (f := f) ⟨C0.2.2.2.2.1, hts _ (ab_tsin hl), ⟨_, _, _, hi⟩, hst⟩ (by rw [q2]; exact h6) q1 q3 (by rw [hsl]; exact k2_hasslot (q4 k hk)) rfl rfl hd fin
  · exact va_WputK C0.1 C0.2.1 (f := f) C0.2.2.2.2.1 (va_Nw.use rfl (E.2.1 _ hl)) hi hst (by rw [q2]; exact h6) q1 q3 (by rw [hsl]; exact k2_hasslot (q4 k hk)) rfl rfl hd fin
theorem ab_put {idx a ci k : Nat} {C : String} {T : u_T} {N : Nat} {v : Value} {ty : FieldType} (hd : decode M.2.2.1 pc = .ok (.putfield idx, 3)) (hc : vwCl[ci]? = some (C, T, N)) (hk : k < N) (hl : ab_FL M.1 idx (T k)) (hfin : (T k).2.2.2 = false) (hty : parseFieldDescriptor (T k).2.2.1 = some ty) (hn : narrow ty (ab_v g.2.2 v) = ab_v g.2.2 v) (hfit : fits ty (ab_v g.2.2 v) = true) (he : ab_pV h a ci k v = some h') (hp : pc + 3 = pc') (kk : ab_Ev l g M d mc ms pc' ls st h' ce sl K) : ab_Ev l g M d mc ms pc ls (v :: .ref a :: st) h ce sl K := by
  obtain ⟨fs, e1, e2, rfl⟩ := ab_pV_of he
  exact ab_putV hd hc hk hl hfin hty hn hfit e1 e2 hp kk
/-- a final field, in its own class's constructor -/
theorem ab_putF {idx a ci k : Nat} {C : String} {T : u_T} {N : Nat} {v : Value} {ty : FieldType} (hd : decode M.2.2.1 pc = .ok (.putfield idx, 3)) (hc : vwCl[ci]? = some (C, T, N)) (hk : k < N) (hl : Cond.fieldLink M.1 idx (T k).1 (T k).2.1 (T k).2.2.1 ∈ ab_tb) (hfin : (T k).2.2.2 = true) (hi0 : M.2.1.name = "<init>") (hdecl : (T k).1 = M.1) (hty : parseFieldDescriptor (T k).2.2.1 = some ty) (hn : narrow ty (ab_v g.2.2 v) = ab_v g.2.2 v) (hfit : fits ty (ab_v g.2.2 v) = true) (he0 : ab_pV h a ci k v = some h') (hp : pc + 3 = pc') (kk : ab_Ev l g M d mc ms pc' ls st h' ce sl K) : ab_Ev l g M d mc ms pc ls (v :: .ref a :: st) h ce sl K := by
  obtain ⟨fs, he, hlen, rfl⟩ := ab_pV_of he0
  subst hp
  intro p e s m args below meth c H locs la C0 E S Wd hla
  obtain ⟨ty0, hC⟩ := ab_cl hc
  have hin : ∀ w ∈ u_ws C T N, w ∈ ab_ws M := fun w z => ab_tsin (hC.1 w z)
  have hts := C0.2.2.2.2.2.1
  have hown := C0.2.2.2.2.1
  have hw := ab_w_get (b := g.2.2) (cA := g.2.1) he
  have hap := va_apart (own := M.1) hts hin ty0 hC.2.1 hC.2.2 E.1 hc
  obtain ⟨r, h1, cell, q1, q2, q3, q4⟩ := Wd.2 a _ hw
  have hr : r = (C, T, N) := Option.some.inj (h1.symm.trans hc)
  subst hr
  obtain ⟨hS, hfc, kC, hkC, hkind⟩ := E.1.1 ci _ hc
  obtain ⟨cf, kf, fi, f, hi, hsl⟩ := hS k hk
  have hlay := hts _ (hin _ (u_in_lay hk))
  unfold u_lay at hlay
  rw [if_pos hfin] at hlay
  have hst := (u_facts hfc hkC (u_lays hts hin hk) hi).1
  have hcf : m.cls = cf := by
    obtain ⟨_, _, c', _, _, _, -, -, hf', -, -, -, hown2, -⟩ := Cond.laysFinal_spec hlay
    have e1 : c' = cf := by have := hi.symm.trans hf'; simp at this; exact this.1.symm
    rw [hdecl] at hown2
    rw [← e1]; exact Option.some.inj (hown.symm.trans hown2)
  have h6 := u_fits hfc hkC hkind (Or.inr hlay) hi hty hn hfit
  have hlen' : k < (fs.map (ab_v g.2.2)).length := by simpa using hlen
  refine W.putFinK C0.1 C0.2.1 hown (hts _ (ab_tsin hl)) hi hst hcf (C0.2.2.2.2.2.2.2.trans hi0) (by rw [q2]; exact h6) q1 q3 (by rw [hsl]; exact k2_hasslot (q4 k hk)) rfl rfl hd fun H' e1 e2 e3 => ?_
  rw [hsl] at e1
  have hP' := Wd.2.set (ab_D (g := g)) hw (e := .inr (ci, (fs.map (ab_v g.2.2)).set k (ab_v g.2.2 v))) ⟨_, hc, t_OB.to (V := updV (vp_V (fs.map (ab_v g.2.2))) k (ab_v g.2.2 v)) ⟨_, e1, q2, q3, t_set q4 hap hk (ab_v g.2.2 v)⟩ (fun j _ => vp_updV_set hlen' (ab_v g.2.2 v) j)⟩ e3
  rw [ab_setF] at hP'
  exact kk p e s m args below meth c H' _ la C0 E (S.put e2 e3 (ab_D.2 a _ hw)) (ab_W_set Wd e2 hP') hla
theorem ab_iald {r : Nat} {i x : Int32} (hd : decode M.2.2.1 pc = .ok (.iaload, 1)) (he : ab_aI h r i = some x) (hp : pc + 1 = pc') (kk : ab_Ev l g M d mc ms pc' ls (.int x :: st) h ce sl K) : ab_Ev l g M d mc ms pc ls (.int i :: .ref r :: st) h ce sl K := by
  obtain ⟨n, f, e1, e2, rfl⟩ := ab_aI_of he
  subst hp
  intro p e s m args below meth c H locs la C0 E S Wd hla
  exact va_iald C0.1 C0.2.1 E.1 Wd.2 r 0 (ab_w_get e1) rfl e2 hd (kk p e s m args below meth c H locs la C0 E S Wd hla)
theorem ab_zald {r : Nat} {i x : Int32} (hd : decode M.2.2.1 pc = .ok (.baload, 1)) (he : ab_aZ h r i = some x) (hp : pc + 1 = pc') (kk : ab_Ev l g M d mc ms pc' ls (.int x :: st) h ce sl K) : ab_Ev l g M d mc ms pc ls (.int i :: .ref r :: st) h ce sl K := by
  obtain ⟨n, f, e1, e2, rfl⟩ := ab_aZ_of he
  subst hp
  intro p e s m args below meth c H locs la C0 E S Wd hla
  exact va_zald C0.1 C0.2.1 E.1 Wd.2 r 1 (ab_w_get e1) rfl e2 hd (kk p e s m args below meth c H locs la C0 E S Wd hla)
theorem ab_ty_at {cA : Nat → ClassId} {t : Nat} (h1 : ¬ t < 2) (h2 : ¬ 4 < t) : ∃ r, vwCl[ab_ek t]? = some r ∧ (ab_ty cA)[t]? = some (cA t, .object r.1) := by
  have h3 : t = 2 ∨ t = 3 ∨ t = 4 := by omega
  rcases h3 with rfl | rfl | rfl <;> exact ⟨_, rfl, rfl⟩
theorem ab_aald {r x : Nat} {i : Int32} (hd : decode M.2.2.1 pc = .ok (.aaload, 1)) (he : ab_aR h r i = some x) (hp : pc + 1 = pc') (kk : ab_Ev l g M d mc ms pc' ls (.ref x :: st) h ce sl K) : ab_Ev l g M d mc ms pc ls (.int i :: .ref r :: st) h ce sl K := by
  obtain ⟨t, n, f, e1, e2, e3, t1, t2⟩ := ab_aR_of he
  subst hp
  intro p e s m args below meth c H locs la C0 E S Wd hla
  obtain ⟨q, -, hq⟩ := ab_ty_at (cA := g.2.1) t1 t2
  have k0 := kk p e s m args below meth c H locs la C0 E S Wd hla
  refine va_aldq C0.1 C0.2.1 E.1 Wd.2 r t (ab_w_get e1) hq e2 hd ?_
  have ev : va_rf ((f i.toNatClampNeg).map (fun j => g.2.2 + j)) = .ref (g.2.2 + x) := by rw [e3]; rfl
  rw [ev]
  exact k0
theorem ab_iast {r : Nat} {i x : Int32} (hd : decode M.2.2.1 pc = .ok (.iastore, 1)) (he : ab_sI h r i x = some h') (hp : pc + 1 = pc') (kk : ab_Ev l g M d mc ms pc' ls st h' ce sl K) : ab_Ev l g M d mc ms pc ls (.int x :: .int i :: .ref r :: st) h ce sl K := by
  obtain ⟨n, f, e1, e2, rfl⟩ := ab_sI_of he
  subst hp
  intro p e s m args below meth c H locs la C0 E S Wd hla
  have hw := ab_w_get (b := g.2.2) (cA := g.2.1) e1
  refine W.iast C0.1 C0.2.1 (Wd.2 r _ hw) ((E.1.2 0 _ rfl).1 n (fun j => .int (f j))) (fun q => by cases q) (by show ¬ (i < 0 ∨ (arrV _ _ _).slots.size ≤ _); rw [arrV_size]; exact e2) rfl rfl hd fun H1 e0 z oq => ?_
  have hP' := Wd.2.set (ab_D (g := g)) hw (e := ab_c g.2.2 g.2.1 (.inl (0, n, .inl (upd f i.toNatClampNeg x)))) (H1 := H1) (by
    show H1[g.2.2 + r]? = some (vp_cell _ _)
    rw [e0]
    show some ((vp_cell (g.2.1 0) (n, .inl f)).setSlot _ _) = some (vp_cell (g.2.1 0) (n, .inl (upd f i.toNatClampNeg x)))
    rw [vp_cell_i, vp_cell_i, arrV_store]
    congr 2
    funext q
    by_cases hq : q = i.toNatClampNeg
    · subst hq; simp [updV, upd]
    · simp [updV, upd, hq]) oq
  rw [ab_w_set] at hP'
  exact kk p e s m args below meth c H1 _ la C0 E (S.put z oq (ab_D.2 r _ hw)) (ab_W_set Wd z hP') hla
theorem ab_zast {r : Nat} {i x : Int32} (hd : decode M.2.2.1 pc = .ok (.bastore, 1)) (he : ab_sZ h r i x = some h') (hp : pc + 1 = pc') (kk : ab_Ev l g M d mc ms pc' ls st h' ce sl K) : ab_Ev l g M d mc ms pc ls (.int x :: .int i :: .ref r :: st) h ce sl K := by
  obtain ⟨n, f, e1, e2, rfl⟩ := ab_sZ_of he
  subst hp
  intro p e s m args below meth c H locs la C0 E S Wd hla
  have hw := ab_w_get (b := g.2.2) (cA := g.2.1) e1
  refine W.zast C0.1 C0.2.1 (Wd.2 r _ hw) ((E.1.2 1 _ rfl).1 n (fun j => .int (f j))) (fun q => by cases q) (by show ¬ (i < 0 ∨ (arrV _ _ _).slots.size ≤ _); rw [arrV_size]; exact e2) rfl rfl hd fun H1 e0 z oq => ?_
  have hP' := Wd.2.set (ab_D (g := g)) hw (e := ab_c g.2.2 g.2.1 (.inl (1, n, .inl (upd f i.toNatClampNeg (vp_nar .boolean x))))) (H1 := H1) (by
    show H1[g.2.2 + r]? = some (vp_cell _ _)
    rw [e0]
    show some ((vp_cell (g.2.1 1) (n, .inl f)).setSlot _ _) = some (vp_cell (g.2.1 1) (n, .inl (upd f i.toNatClampNeg (vp_nar .boolean x))))
    rw [vp_cell_i, vp_cell_i, arrV_store]
    congr 2
    funext q
    by_cases hq : q = i.toNatClampNeg
    · subst hq; simp [updV, upd, vp_nar, narrow]
    · simp [updV, upd, hq]) oq
  rw [ab_w_set] at hP'
  exact kk p e s m args below meth c H1 _ la C0 E (S.put z oq (ab_D.2 r _ hw)) (ab_W_set Wd z hP') hla
end
