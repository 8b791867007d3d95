section
variable {l : Launch} {g : ab_G} {M : ab_M} {d mc ms pc pc' ce sl : Nat} {ls ls' : List (Nat × Value)} {st : List Value} {h : ab_H} {K : ab_K}
theorem ab_ml_get {b : Nat} {ls : List (Nat × Value)} {q i : Nat} {v : Value} (e : ls[q]? = some (i, v)) : (ab_ml b ls)[q]? = some (i, ab_v b v) := by
  simp [ab_ml, e]
theorem ab_ml_f1 (b i : Nat) (ls : List (Nat × Value)) : (ab_ml b ls).filter (fun q => !(q.1 == i) && !(q.1 + 1 == i && q.2.category == 2)) = ab_ml b (ls.filter (fun q => !(q.1 == i) && !(q.1 + 1 == i && q.2.category == 2))) := by
  unfold ab_ml
  rw [List.filter_map]
  congr 1
  congr 1
  funext q
  simp [ab_cat]
theorem ab_ml_f2 (b i : Nat) (ls : List (Nat × Value)) : (ab_ml b ls).filter (fun q => !(q.1 == i) && (!(q.1 == i + 1) && !(q.1 + 1 == i && q.2.category == 2))) = ab_ml b (ls.filter (fun q => !(q.1 == i) && (!(q.1 == i + 1) && !(q.1 + 1 == i && q.2.category == 2)))) := by
  unfold ab_ml
  rw [List.filter_map]
  congr 1
  congr 1
  funext q
  simp [ab_cat]
/-- fewer locals -/
theorem ab_drop (ks : List Nat) (e : lv_pick ls ks = ls') (k : ab_Ev l g M d mc ms pc ls' st h ce sl K) : ab_Ev l g M d mc ms pc ls st h ce sl K := by
  intro p e' s m args below meth c H locs la C E S Wd hl
  refine k p e' s m args below meth c H locs la C E S Wd ⟨hl.1, hl.2.1, fun q hq => ?_⟩
  obtain ⟨q0, hq0, rfl⟩ := List.mem_map.mp hq
  rw [← e] at hq0
  obtain ⟨i, -, hi⟩ := List.mem_filterMap.mp hq0
  exact hl.2.2 _ (List.mem_map.mpr ⟨q0, List.mem_of_getElem? hi, rfl⟩)
theorem ab_widen {k n : Nat} (h1 : ce ≤ k) (h2 : sl ≤ n) (kk : ab_Ev l g M d mc ms pc ls st h k n K) : ab_Ev l g M d mc ms pc ls st h ce sl K := by
  intro p e' s m args below meth c H locs la C E S Wd hl
  exact W.widen h1 h2 (kk p e' s m args below meth c H locs la C E S Wd hl)
theorem ab_iconst {n : Int} {v : Int32} (hd : decode M.2.2.1 pc = .ok (.iconst n, 1)) (hv : Int32.ofInt n = v) (hp : pc + 1 = pc') (k : ab_Ev l g M d mc ms pc' ls (.int v :: st) h ce sl K) : ab_Ev l g M d mc ms pc ls st h ce sl K := by
  subst hp
  intro p e s m args below meth c H locs la C E S Wd hl
  exact lv_iconst C.1 C.2.1 hd hv (k p e s m args below meth c H locs la C E S Wd hl)
theorem ab_bipush {n : Int} {v : Int32} (hd : decode M.2.2.1 pc = .ok (.bipush n, 2)) (hv : (Int8.ofInt n).toInt32 = v) (hp : pc + 2 = pc') (k : ab_Ev l g M d mc ms pc' ls (.int v :: st) h ce sl K) : ab_Ev l g M d mc ms pc ls st h ce sl K := by
  subst hp
  intro p e s m args below meth c H locs la C E S Wd hl
  exact lv_bipush C.1 C.2.1 hd hv (k p e s m args below meth c H locs la C E S Wd hl)
theorem ab_sipush {n : Int} {v : Int32} (hd : decode M.2.2.1 pc = .ok (.sipush n, 3)) (hv : (Int16.ofInt n).toInt32 = v) (hp : pc + 3 = pc') (k : ab_Ev l g M d mc ms pc' ls (.int v :: st) h ce sl K) : ab_Ev l g M d mc ms pc ls st h ce sl K := by
  subst hp
  intro p e s m args below meth c H locs la C E S Wd hl
  exact lv_sipush C.1 C.2.1 hd hv (k p e s m args below meth c H locs la C E S Wd hl)
theorem ab_lconst {n : Fin 2} {v : Int64} (hd : decode M.2.2.1 pc = .ok (.lconst n, 1)) (hv : Int64.ofNat (n : Nat) = v) (hp : pc + 1 = pc') (k : ab_Ev l g M d mc ms pc' ls (.long v :: st) h ce sl K) : ab_Ev l g M d mc ms pc ls st h ce sl K := by
  subst hp
  intro p e s m args below meth c H locs la C E S Wd hl
  exact lv_lconst C.1 C.2.1 hd hv (k p e s m args below meth c H locs la C E S Wd hl)
theorem ab_iload_n {k4 : Fin 4} {i q : Nat} {x : Int32} (hd : decode M.2.2.1 pc = .ok (.iload_n k4, 1)) (hi : (k4 : Nat) = i) (hq : ls[q]? = some (i, .int x)) (hp : pc + 1 = pc') (k : ab_Ev l g M d mc ms pc' ls (.int x :: st) h ce sl K) : ab_Ev l g M d mc ms pc ls st h ce sl K := by
  subst hp
  intro p e s m args below meth c H locs la C E S Wd hl
  exact lv_iload_n C.1 C.2.1 hd hi (lv_at hl q (ab_ml_get hq)) (k p e s m args below meth c H locs la C E S Wd hl)
theorem ab_iload {i q : Nat} {x : Int32} (hd : decode M.2.2.1 pc = .ok (.iload i, 2)) (hq : ls[q]? = some (i, .int x)) (hp : pc + 2 = pc') (k : ab_Ev l g M d mc ms pc' ls (.int x :: st) h ce sl K) : ab_Ev l g M d mc ms pc ls st h ce sl K := by
  subst hp
  intro p e s m args below meth c H locs la C E S Wd hl
  exact lv_iload C.1 C.2.1 hd (lv_at hl q (ab_ml_get hq)) (k p e s m args below meth c H locs la C E S Wd hl)
theorem ab_istore_n {k4 : Fin 4} {i : Nat} {x : Int32} (hd : decode M.2.2.1 pc = .ok (.istore_n k4, 1)) (hi : (k4 : Nat) = i) (hb : i < M.2.2.2.1) (hs : (i, Value.int x) :: ls.filter (fun q => !(q.1 == i) && !(q.1 + 1 == i && q.2.category == 2)) = ls') (hp : pc + 1 = pc') (k : ab_Ev l g M d mc ms pc' ls' st h ce sl K) : ab_Ev l g M d mc ms pc ls (.int x :: st) h ce sl K := by
  subst hp
  intro p e s m args below meth c H locs la C E S Wd hl
  refine lv_istore_n (lv' := ab_ml g.2.2 ls') C.1 C.2.1 hd hi hl hb (by rw [ab_ml_f1, ← hs]; rfl) (fun la hl => ?_)
  exact (k p e s m args below meth c H locs la C E S Wd hl)
theorem ab_istore {i : Nat} {x : Int32} (hd : decode M.2.2.1 pc = .ok (.istore i, 2)) (hb : i < M.2.2.2.1) (hs : (i, Value.int x) :: ls.filter (fun q => !(q.1 == i) && !(q.1 + 1 == i && q.2.category == 2)) = ls') (hp : pc + 2 = pc') (k : ab_Ev l g M d mc ms pc' ls' st h ce sl K) : ab_Ev l g M d mc ms pc ls (.int x :: st) h ce sl K := by
  subst hp
  intro p e s m args below meth c H locs la C E S Wd hl
  refine lv_istore (lv' := ab_ml g.2.2 ls') C.1 C.2.1 hd hl hb (by rw [ab_ml_f1, ← hs]; rfl) (fun la hl => ?_)
  exact (k p e s m args below meth c H locs la C E S Wd hl)
theorem ab_lload_n {k4 : Fin 4} {i q : Nat} {x : Int64} (hd : decode M.2.2.1 pc = .ok (.lload_n k4, 1)) (hi : (k4 : Nat) = i) (hq : ls[q]? = some (i, .long x)) (hp : pc + 1 = pc') (k : ab_Ev l g M d mc ms pc' ls (.long x :: st) h ce sl K) : ab_Ev l g M d mc ms pc ls st h ce sl K := by
  subst hp
  intro p e s m args below meth c H locs la C E S Wd hl
  exact lv_lload_n C.1 C.2.1 hd hi (lv_at hl q (ab_ml_get hq)) (k p e s m args below meth c H locs la C E S Wd hl)
theorem ab_lload {i q : Nat} {x : Int64} (hd : decode M.2.2.1 pc = .ok (.lload i, 2)) (hq : ls[q]? = some (i, .long x)) (hp : pc + 2 = pc') (k : ab_Ev l g M d mc ms pc' ls (.long x :: st) h ce sl K) : ab_Ev l g M d mc ms pc ls st h ce sl K := by
  subst hp
  intro p e s m args below meth c H locs la C E S Wd hl
  exact lv_lload C.1 C.2.1 hd (lv_at hl q (ab_ml_get hq)) (k p e s m args below meth c H locs la C E S Wd hl)
theorem ab_lstore_n {k4 : Fin 4} {i : Nat} {x : Int64} (hd : decode M.2.2.1 pc = .ok (.lstore_n k4, 1)) (hi : (k4 : Nat) = i) (hb : i + 1 < M.2.2.2.1) (hs : (i, Value.long x) :: ls.filter (fun q => !(q.1 == i) && (!(q.1 == i + 1) && !(q.1 + 1 == i && q.2.category == 2))) = ls') (hp : pc + 1 = pc') (k : ab_Ev l g M d mc ms pc' ls' st h ce sl K) : ab_Ev l g M d mc ms pc ls (.long x :: st) h ce sl K := by
  subst hp
  intro p e s m args below meth c H locs la C E S Wd hl
  refine lv_lstore_n (lv' := ab_ml g.2.2 ls') C.1 C.2.1 hd hi hl hb (by rw [ab_ml_f2, ← hs]; rfl) (fun la hl => ?_)
  exact (k p e s m args below meth c H locs la C E S Wd hl)
theorem ab_lstore {i : Nat} {x : Int64} (hd : decode M.2.2.1 pc = .ok (.lstore i, 2)) (hb : i + 1 < M.2.2.2.1) (hs : (i, Value.long x) :: ls.filter (fun q => !(q.1 == i) && (!(q.1 == i + 1) && !(q.1 + 1 == i && q.2.category == 2))) = ls') (hp : pc + 2 = pc') (k : ab_Ev l g M d mc ms pc' ls' st h ce sl K) : ab_Ev l g M d mc ms pc ls (.long x :: st) h ce sl K := by
  subst hp
  intro p e s m args below meth c H locs la C E S Wd hl
  refine lv_lstore (lv' := ab_ml g.2.2 ls') C.1 C.2.1 hd hl hb (by rw [ab_ml_f2, ← hs]; rfl) (fun la hl => ?_)
  exact (k p e s m args below meth c H locs la C E S Wd hl)
theorem ab_aload_n {k4 : Fin 4} {i q : Nat} {x : Nat} (hd : decode M.2.2.1 pc = .ok (.aload_n k4, 1)) (hi : (k4 : Nat) = i) (hq : ls[q]? = some (i, .ref x)) (hp : pc + 1 = pc') (k : ab_Ev l g M d mc ms pc' ls (.ref x :: st) h ce sl K) : ab_Ev l g M d mc ms pc ls st h ce sl K := by
  subst hp
  intro p e s m args below meth c H locs la C E S Wd hl
  exact lv_aload_n C.1 C.2.1 hd hi (lv_at hl q (ab_ml_get hq)) (k p e s m args below meth c H locs la C E S Wd hl)
theorem ab_aload {i q : Nat} {x : Nat} (hd : decode M.2.2.1 pc = .ok (.aload i, 2)) (hq : ls[q]? = some (i, .ref x)) (hp : pc + 2 = pc') (k : ab_Ev l g M d mc ms pc' ls (.ref x :: st) h ce sl K) : ab_Ev l g M d mc ms pc ls st h ce sl K := by
  subst hp
  intro p e s m args below meth c H locs la C E S Wd hl
  exact lv_aload C.1 C.2.1 hd (lv_at hl q (ab_ml_get hq)) (k p e s m args below meth c H locs la C E S Wd hl)
theorem ab_astore_n {k4 : Fin 4} {i : Nat} {x : Nat} (hd : decode M.2.2.1 pc = .ok (.astore_n k4, 1)) (hi : (k4 : Nat) = i) (hb : i < M.2.2.2.1) (hs : (i, Value.ref x) :: ls.filter (fun q => !(q.1 == i) && !(q.1 + 1 == i && q.2.category == 2)) = ls') (hp : pc + 1 = pc') (k : ab_Ev l g M d mc ms pc' ls' st h ce sl K) : ab_Ev l g M d mc ms pc ls (.ref x :: st) h ce sl K := by
  subst hp
  intro p e s m args below meth c H locs la C E S Wd hl
  refine lv_astore_n (lv' := ab_ml g.2.2 ls') C.1 C.2.1 hd hi hl hb (by rw [ab_ml_f1, ← hs]; rfl) (fun la hl => ?_)
  exact (k p e s m args below meth c H locs la C E S Wd hl)
theorem ab_astore {i : Nat} {x : Nat} (hd : decode M.2.2.1 pc = .ok (.astore i, 2)) (hb : i < M.2.2.2.1) (hs : (i, Value.ref x) :: ls.filter (fun q => !(q.1 == i) && !(q.1 + 1 == i && q.2.category == 2)) = ls') (hp : pc + 2 = pc') (k : ab_Ev l g M d mc ms pc' ls' st h ce sl K) : ab_Ev l g M d mc ms pc ls (.ref x :: st) h ce sl K := by
  subst hp
  intro p e s m args below meth c H locs la C E S Wd hl
  refine lv_astore (lv' := ab_ml g.2.2 ls') C.1 C.2.1 hd hl hb (by rw [ab_ml_f1, ← hs]; rfl) (fun la hl => ?_)
  exact (k p e s m args below meth c H locs la C E S Wd hl)
theorem ab_iinc {i q : Nat} {n : Int} {x v : Int32} (hd : decode M.2.2.1 pc = .ok (.iinc i n, 3)) (hq : ls[q]? = some (i, .int x)) (hv : x + Int32.ofInt n = v) (hb : i < M.2.2.2.1) (hs : (i, Value.int v) :: ls.filter (fun q => !(q.1 == i) && !(q.1 + 1 == i && q.2.category == 2)) = ls') (hp : pc + 3 = pc') (k : ab_Ev l g M d mc ms pc' ls' st h ce sl K) : ab_Ev l g M d mc ms pc ls st h ce sl K := by
  subst hp
  intro p e s m args below meth c H locs la C E S Wd hl
  refine lv_iinc (lv' := ab_ml g.2.2 ls') C.1 C.2.1 hd hl (ab_ml_get hq) hv hb (by rw [ab_ml_f1, ← hs]; rfl) (fun la hl => ?_)
  exact (k p e s m args below meth c H locs la C E S Wd hl)
theorem ab_iadd {x y : Int32} (hd : decode M.2.2.1 pc = .ok (.iadd, 1))  (hp : pc + 1 = pc') (k : ab_Ev l g M d mc ms pc' ls (.int (x + y) :: st) h ce sl K) : ab_Ev l g M d mc ms pc ls (.int y :: .int x :: st) h ce sl K := by
  subst hp
  intro p e s m args below meth c H locs la C E S Wd hl
  exact lv_iadd C.1 C.2.1 hd  (k p e s m args below meth c H locs la C E S Wd hl)
theorem ab_isub {x y : Int32} (hd : decode M.2.2.1 pc = .ok (.isub, 1))  (hp : pc + 1 = pc') (k : ab_Ev l g M d mc ms pc' ls (.int (x - y) :: st) h ce sl K) : ab_Ev l g M d mc ms pc ls (.int y :: .int x :: st) h ce sl K := by
  subst hp
  intro p e s m args below meth c H locs la C E S Wd hl
  exact lv_isub C.1 C.2.1 hd  (k p e s m args below meth c H locs la C E S Wd hl)
theorem ab_imul {x y : Int32} (hd : decode M.2.2.1 pc = .ok (.imul, 1))  (hp : pc + 1 = pc') (k : ab_Ev l g M d mc ms pc' ls (.int (x * y) :: st) h ce sl K) : ab_Ev l g M d mc ms pc ls (.int y :: .int x :: st) h ce sl K := by
  subst hp
  intro p e s m args below meth c H locs la C E S Wd hl
  exact lv_imul C.1 C.2.1 hd  (k p e s m args below meth c H locs la C E S Wd hl)
theorem ab_iand {x y : Int32} (hd : decode M.2.2.1 pc = .ok (.iand, 1))  (hp : pc + 1 = pc') (k : ab_Ev l g M d mc ms pc' ls (.int (x &&& y) :: st) h ce sl K) : ab_Ev l g M d mc ms pc ls (.int y :: .int x :: st) h ce sl K := by
  subst hp
  intro p e s m args below meth c H locs la C E S Wd hl
  exact lv_iand C.1 C.2.1 hd  (k p e s m args below meth c H locs la C E S Wd hl)
theorem ab_idiv {x y : Int32} (hd : decode M.2.2.1 pc = .ok (.idiv, 1)) (hne : ¬ y = 0) (hp : pc + 1 = pc') (k : ab_Ev l g M d mc ms pc' ls (.int (x / y) :: st) h ce sl K) : ab_Ev l g M d mc ms pc ls (.int y :: .int x :: st) h ce sl K := by
  subst hp
  intro p e s m args below meth c H locs la C E S Wd hl
  exact lv_idiv C.1 C.2.1 hd hne (k p e s m args below meth c H locs la C E S Wd hl)
theorem ab_irem {x y : Int32} (hd : decode M.2.2.1 pc = .ok (.irem, 1)) (hne : ¬ y = 0) (hp : pc + 1 = pc') (k : ab_Ev l g M d mc ms pc' ls (.int (x - x / y * y) :: st) h ce sl K) : ab_Ev l g M d mc ms pc ls (.int y :: .int x :: st) h ce sl K := by
  subst hp
  intro p e s m args below meth c H locs la C E S Wd hl
  exact lv_irem C.1 C.2.1 hd hne (k p e s m args below meth c H locs la C E S Wd hl)
theorem ab_lmul {x y : Int64} (hd : decode M.2.2.1 pc = .ok (.lmul, 1))  (hp : pc + 1 = pc') (k : ab_Ev l g M d mc ms pc' ls (.long (x * y) :: st) h ce sl K) : ab_Ev l g M d mc ms pc ls (.long y :: .long x :: st) h ce sl K := by
  subst hp
  intro p e s m args below meth c H locs la C E S Wd hl
  exact lv_lmul C.1 C.2.1 hd  (k p e s m args below meth c H locs la C E S Wd hl)
theorem ab_lcmp {x y : Int64} (hd : decode M.2.2.1 pc = .ok (.lcmp, 1))  (hp : pc + 1 = pc') (k : ab_Ev l g M d mc ms pc' ls (.int (lg_cmp x y) :: st) h ce sl K) : ab_Ev l g M d mc ms pc ls (.long y :: .long x :: st) h ce sl K := by
  subst hp
  intro p e s m args below meth c H locs la C E S Wd hl
  exact W.lcmp C.1 C.2.1 hd  (k p e s m args below meth c H locs la C E S Wd hl)
theorem ab_i2l {x : Int32} (hd : decode M.2.2.1 pc = .ok (.i2l, 1))  (hp : pc + 1 = pc') (k : ab_Ev l g M d mc ms pc' ls (.long x.toInt64 :: st) h ce sl K) : ab_Ev l g M d mc ms pc ls (.int x :: st) h ce sl K := by
  subst hp
  intro p e s m args below meth c H locs la C E S Wd hl
  exact lv_i2l C.1 C.2.1 hd rfl (k p e s m args below meth c H locs la C E S Wd hl)
theorem ab_dup_int {x : Int32} (hd : decode M.2.2.1 pc = .ok (.dup, 1))  (hp : pc + 1 = pc') (k : ab_Ev l g M d mc ms pc' ls (.int x :: .int x :: st) h ce sl K) : ab_Ev l g M d mc ms pc ls (.int x :: st) h ce sl K := by
  subst hp
  intro p e s m args below meth c H locs la C E S Wd hl
  exact lv_dup C.1 C.2.1 hd rfl (k p e s m args below meth c H locs la C E S Wd hl)
theorem ab_dup_ref {x : Nat} (hd : decode M.2.2.1 pc = .ok (.dup, 1))  (hp : pc + 1 = pc') (k : ab_Ev l g M d mc ms pc' ls (.ref x :: .ref x :: st) h ce sl K) : ab_Ev l g M d mc ms pc ls (.ref x :: st) h ce sl K := by
  subst hp
  intro p e s m args below meth c H locs la C E S Wd hl
  exact lv_dup C.1 C.2.1 hd rfl (k p e s m args below meth c H locs la C E S Wd hl)
theorem ab_dup2 {x : Int32} {r : Nat} (hd : decode M.2.2.1 pc = .ok (.dup2, 1))  (hp : pc + 1 = pc') (k : ab_Ev l g M d mc ms pc' ls (.int x :: .ref r :: .int x :: .ref r :: st) h ce sl K) : ab_Ev l g M d mc ms pc ls (.int x :: .ref r :: st) h ce sl K := by
  subst hp
  intro p e s m args below meth c H locs la C E S Wd hl
  exact lv_dup2_11 C.1 C.2.1 hd rfl rfl (k p e s m args below meth c H locs la C E S Wd hl)
theorem ab_if_eq {x : Int32} {off : Int} {tgt : Nat} (hd : decode M.2.2.1 pc = .ok (.ifCond .eq off, 3)) (ht : (pc : Int) + off = (tgt : Int)) (hp : pc + 3 = pc') (kt : x = 0 → ab_Ev l g M d mc ms tgt ls st h ce sl K) (kf : ¬ (x = 0) → ab_Ev l g M d mc ms pc' ls st h ce sl K) : ab_Ev l g M d mc ms pc ls (.int x :: st) h ce sl K := by
  subst hp
  intro p e s m args below meth c H locs la C E S Wd hl
  exact lv_if_eq C.1 C.2.1 hd ht (fun z => kt z p e s m args below meth c H locs la C E S Wd hl) (fun z => kf z p e s m args below meth c H locs la C E S Wd hl)
theorem ab_icmp_eq {x y : Int32} {off : Int} {tgt : Nat} (hd : decode M.2.2.1 pc = .ok (.if_icmp .eq off, 3)) (ht : (pc : Int) + off = (tgt : Int)) (hp : pc + 3 = pc') (kt : x = y → ab_Ev l g M d mc ms tgt ls st h ce sl K) (kf : ¬ (x = y) → ab_Ev l g M d mc ms pc' ls st h ce sl K) : ab_Ev l g M d mc ms pc ls (.int y :: .int x :: st) h ce sl K := by
  subst hp
  intro p e s m args below meth c H locs la C E S Wd hl
  exact lv_icmp_eq C.1 C.2.1 hd ht (fun z => kt z p e s m args below meth c H locs la C E S Wd hl) (fun z => kf z p e s m args below meth c H locs la C E S Wd hl)
theorem ab_if_ne {x : Int32} {off : Int} {tgt : Nat} (hd : decode M.2.2.1 pc = .ok (.ifCond .ne off, 3)) (ht : (pc : Int) + off = (tgt : Int)) (hp : pc + 3 = pc') (kt : ¬ x = 0 → ab_Ev l g M d mc ms tgt ls st h ce sl K) (kf : x = 0 → ab_Ev l g M d mc ms pc' ls st h ce sl K) : ab_Ev l g M d mc ms pc ls (.int x :: st) h ce sl K := by
  subst hp
  intro p e s m args below meth c H locs la C E S Wd hl
  exact lv_if_ne C.1 C.2.1 hd ht (fun z => kt z p e s m args below meth c H locs la C E S Wd hl) (fun z => kf z p e s m args below meth c H locs la C E S Wd hl)
theorem ab_icmp_ne {x y : Int32} {off : Int} {tgt : Nat} (hd : decode M.2.2.1 pc = .ok (.if_icmp .ne off, 3)) (ht : (pc : Int) + off = (tgt : Int)) (hp : pc + 3 = pc') (kt : ¬ x = y → ab_Ev l g M d mc ms tgt ls st h ce sl K) (kf : x = y → ab_Ev l g M d mc ms pc' ls st h ce sl K) : ab_Ev l g M d mc ms pc ls (.int y :: .int x :: st) h ce sl K := by
  subst hp
  intro p e s m args below meth c H locs la C E S Wd hl
  exact lv_icmp_ne C.1 C.2.1 hd ht (fun z => kt z p e s m args below meth c H locs la C E S Wd hl) (fun z => kf z p e s m args below meth c H locs la C E S Wd hl)
theorem ab_if_lt {x : Int32} {off : Int} {tgt : Nat} (hd : decode M.2.2.1 pc = .ok (.ifCond .lt off, 3)) (ht : (pc : Int) + off = (tgt : Int)) (hp : pc + 3 = pc') (kt : x < 0 → ab_Ev l g M d mc ms tgt ls st h ce sl K) (kf : ¬ (x < 0) → ab_Ev l g M d mc ms pc' ls st h ce sl K) : ab_Ev l g M d mc ms pc ls (.int x :: st) h ce sl K := by
  subst hp
  intro p e s m args below meth c H locs la C E S Wd hl
  exact lv_if_lt C.1 C.2.1 hd ht (fun z => kt z p e s m args below meth c H locs la C E S Wd hl) (fun z => kf z p e s m args below meth c H locs la C E S Wd hl)
theorem ab_icmp_lt {x y : Int32} {off : Int} {tgt : Nat} (hd : decode M.2.2.1 pc = .ok (.if_icmp .lt off, 3)) (ht : (pc : Int) + off = (tgt : Int)) (hp : pc + 3 = pc') (kt : x < y → ab_Ev l g M d mc ms tgt ls st h ce sl K) (kf : ¬ (x < y) → ab_Ev l g M d mc ms pc' ls st h ce sl K) : ab_Ev l g M d mc ms pc ls (.int y :: .int x :: st) h ce sl K := by
  subst hp
  intro p e s m args below meth c H locs la C E S Wd hl
  exact lv_icmp_lt C.1 C.2.1 hd ht (fun z => kt z p e s m args below meth c H locs la C E S Wd hl) (fun z => kf z p e s m args below meth c H locs la C E S Wd hl)
theorem ab_if_ge {x : Int32} {off : Int} {tgt : Nat} (hd : decode M.2.2.1 pc = .ok (.ifCond .ge off, 3)) (ht : (pc : Int) + off = (tgt : Int)) (hp : pc + 3 = pc') (kt : 0 ≤ x → ab_Ev l g M d mc ms tgt ls st h ce sl K) (kf : ¬ (0 ≤ x) → ab_Ev l g M d mc ms pc' ls st h ce sl K) : ab_Ev l g M d mc ms pc ls (.int x :: st) h ce sl K := by
  subst hp
  intro p e s m args below meth c H locs la C E S Wd hl
  exact lv_if_ge C.1 C.2.1 hd ht (fun z => kt z p e s m args below meth c H locs la C E S Wd hl) (fun z => kf z p e s m args below meth c H locs la C E S Wd hl)
theorem ab_icmp_ge {x y : Int32} {off : Int} {tgt : Nat} (hd : decode M.2.2.1 pc = .ok (.if_icmp .ge off, 3)) (ht : (pc : Int) + off = (tgt : Int)) (hp : pc + 3 = pc') (kt : y ≤ x → ab_Ev l g M d mc ms tgt ls st h ce sl K) (kf : ¬ (y ≤ x) → ab_Ev l g M d mc ms pc' ls st h ce sl K) : ab_Ev l g M d mc ms pc ls (.int y :: .int x :: st) h ce sl K := by
  subst hp
  intro p e s m args below meth c H locs la C E S Wd hl
  exact lv_icmp_ge C.1 C.2.1 hd ht (fun z => kt z p e s m args below meth c H locs la C E S Wd hl) (fun z => kf z p e s m args below meth c H locs la C E S Wd hl)
theorem ab_if_gt {x : Int32} {off : Int} {tgt : Nat} (hd : decode M.2.2.1 pc = .ok (.ifCond .gt off, 3)) (ht : (pc : Int) + off = (tgt : Int)) (hp : pc + 3 = pc') (kt : 0 < x → ab_Ev l g M d mc ms tgt ls st h ce sl K) (kf : ¬ (0 < x) → ab_Ev l g M d mc ms pc' ls st h ce sl K) : ab_Ev l g M d mc ms pc ls (.int x :: st) h ce sl K := by
  subst hp
  intro p e s m args below meth c H locs la C E S Wd hl
  exact lv_if_gt C.1 C.2.1 hd ht (fun z => kt z p e s m args below meth c H locs la C E S Wd hl) (fun z => kf z p e s m args below meth c H locs la C E S Wd hl)
theorem ab_icmp_gt {x y : Int32} {off : Int} {tgt : Nat} (hd : decode M.2.2.1 pc = .ok (.if_icmp .gt off, 3)) (ht : (pc : Int) + off = (tgt : Int)) (hp : pc + 3 = pc') (kt : y < x → ab_Ev l g M d mc ms tgt ls st h ce sl K) (kf : ¬ (y < x) → ab_Ev l g M d mc ms pc' ls st h ce sl K) : ab_Ev l g M d mc ms pc ls (.int y :: .int x :: st) h ce sl K := by
  subst hp
  intro p e s m args below meth c H locs la C E S Wd hl
  exact lv_icmp_gt C.1 C.2.1 hd ht (fun z => kt z p e s m args below meth c H locs la C E S Wd hl) (fun z => kf z p e s m args below meth c H locs la C E S Wd hl)
theorem ab_if_le {x : Int32} {off : Int} {tgt : Nat} (hd : decode M.2.2.1 pc = .ok (.ifCond .le off, 3)) (ht : (pc : Int) + off = (tgt : Int)) (hp : pc + 3 = pc') (kt : x ≤ 0 → ab_Ev l g M d mc ms tgt ls st h ce sl K) (kf : ¬ (x ≤ 0) → ab_Ev l g M d mc ms pc' ls st h ce sl K) : ab_Ev l g M d mc ms pc ls (.int x :: st) h ce sl K := by
  subst hp
  intro p e s m args below meth c H locs la C E S Wd hl
  exact lv_if_le C.1 C.2.1 hd ht (fun z => kt z p e s m args below meth c H locs la C E S Wd hl) (fun z => kf z p e s m args below meth c H locs la C E S Wd hl)
theorem ab_icmp_le {x y : Int32} {off : Int} {tgt : Nat} (hd : decode M.2.2.1 pc = .ok (.if_icmp .le off, 3)) (ht : (pc : Int) + off = (tgt : Int)) (hp : pc + 3 = pc') (kt : x ≤ y → ab_Ev l g M d mc ms tgt ls st h ce sl K) (kf : ¬ (x ≤ y) → ab_Ev l g M d mc ms pc' ls st h ce sl K) : ab_Ev l g M d mc ms pc ls (.int y :: .int x :: st) h ce sl K := by
  subst hp
  intro p e s m args below meth c H locs la C E S Wd hl
  exact lv_icmp_le C.1 C.2.1 hd ht (fun z => kt z p e s m args below meth c H locs la C E S Wd hl) (fun z => kf z p e s m args below meth c H locs la C E S Wd hl)
theorem ab_goto {off : Int} {tgt : Nat} (hd : decode M.2.2.1 pc = .ok (.goto off, 3)) (ht : (pc : Int) + off = (tgt : Int)) (k : ab_Ev l g M d mc ms tgt ls st h ce sl K) : ab_Ev l g M d mc ms pc ls st h ce sl K := by
  intro p e s m args below meth c H locs la C E S Wd hl
  exact lv_goto C.1 C.2.1 hd ht (k p e s m args below meth c H locs la C E S Wd hl)
theorem ab_lookup {dflt : Int} {ps : Array (Int × Int)} {len : Nat} {x : Int32} {off : Int} {tgt : Nat} (hd : decode M.2.2.1 pc = .ok (.lookupswitch dflt ps, len)) (hps : (ps.toList.zip (ps.toList.drop 1)).all (fun (a, next) => a.1 < next.1) = true) (ho : Op.lookupswitch.offset ps.toList dflt x.toInt = off) (ht : (pc : Int) + off = (tgt : Int)) (k : ab_Ev l g M d mc ms tgt ls st h ce sl K) : ab_Ev l g M d mc ms pc ls (.int x :: st) h ce sl K := by
  intro p e s m args below meth c H locs la C E S Wd hl
  exact lv_lookup C.1 C.2.1 hd hps ho ht (k p e s m args below meth c H locs la C E S Wd hl)
theorem ab_tableOut {dflt lo hi : Int} {offs : Array Int} {len : Nat} {x : Int32} {tgt : Nat} (hd : decode M.2.2.1 pc = .ok (.tableswitch dflt lo hi offs, len)) (hx : x.toInt < lo ∨ hi < x.toInt) (ht : (pc : Int) + dflt = (tgt : Int)) (k : ab_Ev l g M d mc ms tgt ls st h ce sl K) : ab_Ev l g M d mc ms pc ls (.int x :: st) h ce sl K := by
  intro p e s m args below meth c H locs la C E S Wd hl
  exact lv_tableOut C.1 C.2.1 hd hx ht (k p e s m args below meth c H locs la C E S Wd hl)
theorem ab_tableIn {dflt lo hi : Int} {offs : Array Int} {len : Nat} {x : Int32} {off : Int} {tgt : Nat} (hd : decode M.2.2.1 pc = .ok (.tableswitch dflt lo hi offs, len)) (h1 : ¬ x.toInt < lo) (h2 : ¬ hi < x.toInt) (ho : offs[(x.toInt - lo).toNat]? = some off) (ht : (pc : Int) + off = (tgt : Int)) (k : ab_Ev l g M d mc ms tgt ls st h ce sl K) : ab_Ev l g M d mc ms pc ls (.int x :: st) h ce sl K := by
  intro p e s m args below meth c H locs la C E S Wd hl
  exact lv_tableIn C.1 C.2.1 hd h1 h2 ho ht (k p e s m args below meth c H locs la C E S Wd hl)
theorem ab_ne {x c : Int32} {i : Int} (hc : c.toInt = i) (hx : ¬ x = c) : ¬ x.toInt = i := fun e => hx (Int32.toInt_inj.mp (e.trans hc.symm))
/-- the ends -/
theorem ab_iret {x : Int32} (hr : M.2.2.2.2 = some .int) (hd : decode M.2.2.1 pc = .ok (.ireturn, 1)) (hk : K (some (.int x)) h) : ab_Ev l g M d mc ms pc ls [.int x] h mc ms K := by
  intro p e s m args below meth c H locs la C E S Wd hl
  exact W.iret C.1 C.2.1 (C.2.2.1.trans hr) (fun t ht hW => ⟨⟨some (.int x), h, rfl, hk, by rw [ht]; exact Wd⟩, S.F ht⟩) S.2.2 hd C.2.2.2.2.2.2.1
theorem ab_zret {x : Int32} (hr : M.2.2.2.2 = some .boolean) (hn : narrow .boolean (.int x) = .int x) (hd : decode M.2.2.1 pc = .ok (.ireturn, 1)) (hk : K (some (.int x)) h) : ab_Ev l g M d mc ms pc ls [.int x] h mc ms K := by
  intro p e s m args below meth c H locs la C E S Wd hl
  exact W.zret C.1 C.2.1 (C.2.2.1.trans hr) hn (fun t ht hW => ⟨⟨some (.int x), h, rfl, hk, by rw [ht]; exact Wd⟩, S.F ht⟩) S.2.2 hd C.2.2.2.2.2.2.1
theorem ab_aret {r : Nat} {n : String} (hr : M.2.2.2.2 = some (.object n)) (hd : decode M.2.2.1 pc = .ok (.areturn, 1)) (hk : K (some (.ref r)) h) : ab_Ev l g M d mc ms pc ls [.ref r] h mc ms K := by
  intro p e s m args below meth c H locs la C E S Wd hl
  exact W.aret (v := .ref (g.2.2 + r)) C.1 C.2.1 (C.2.2.1.trans hr) (Or.inl ⟨_, rfl⟩) (Or.inr ⟨_, rfl⟩) (fun t ht hW => ⟨⟨some (.ref r), h, rfl, hk, by rw [ht]; exact Wd⟩, S.F ht⟩) S.2.2 hd C.2.2.2.2.2.2.1
theorem ab_vret (hr : M.2.2.2.2 = none) (hd : decode M.2.2.1 pc = .ok (.return_, 1)) (hk : K none h) : ab_Ev l g M d mc ms pc ls [] h mc ms K := by
  intro p e s m args below meth c H locs la C E S Wd hl
  exact W.vret C.1 C.2.1 (C.2.2.1.trans hr) (fun t ht hW => ⟨⟨none, h, rfl, hk, by rw [ht]; exact Wd⟩, S.F ht⟩) S.2.2 hd C.2.2.2.2.2.2.1
end
