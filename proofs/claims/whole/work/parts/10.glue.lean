def ab_max (x y : Int32) : Int32 := if x < y then y else x
def ab_min (x y : Int32) : Int32 := if y < x then y else x
def ab_fu : Nat := 2000
theorem ab_bd {α β : Type} {o : Option α} {f : α → Option β} {b : β} (h : o.bind f = some b) : ∃ a, o = some a ∧ f a = some b := Option.bind_eq_some_iff.mp h
theorem ab_ip {c : Prop} [Decidable c] {α : Type} {a b : Option α} {r : α} (hc : c) (h : (if c then a else b) = some r) : a = some r := by rw [if_pos hc] at h; exact h
theorem ab_iN {c : Prop} [Decidable c] {α : Type} {a b : Option α} {r : α} (hc : ¬ c) (h : (if c then a else b) = some r) : b = some r := by rw [if_neg hc] at h; exact h
theorem ab_nz {c : Prop} [Decidable c] {α : Type} {b : Option α} {r : α} (h : (if c then none else b) = some r) : ¬ c ∧ b = some r := by
  by_cases hc : c
  · rw [if_pos hc] at h; cases h
  · rw [if_neg hc] at h; exact ⟨hc, h⟩
theorem ab_bg {c : Prop} [Decidable c] {α : Type} {b : Option α} {r : α} (h : (if c then b else none) = some r) : c ∧ b = some r := by
  by_cases hc : c
  · rw [if_pos hc] at h; exact ⟨hc, h⟩
  · rw [if_neg hc] at h; cases h
def ab_nO (h : ab_H) (ci : Nat) (fs : List Value) : Option (Nat × ab_H) := some (h.length, h ++ [.inr (ci, fs)])
def ab_nI (h : ab_H) (n : Nat) : Option (Nat × ab_H) := some (h.length, h ++ [.inl (0, n, .inl (fun _ => 0))])
def ab_nZ (h : ab_H) (n : Nat) : Option (Nat × ab_H) := some (h.length, h ++ [.inl (1, n, .inl (fun _ => 0))])
def ab_nR (h : ab_H) (t n : Nat) : Option (Nat × ab_H) := some (h.length, h ++ [.inl (t, n, .inr (.inr (.inr (.inr (fun _ => none)))))])
section
variable {l : Launch} {g : ab_G} {M : ab_M} {d mc ms pc pc' ce sl : Nat} {ls ls' : List (Nat × Value)} {st : List Value} {h h' : ab_H} {K : ab_K}
theorem ab_mmaxF {idx : Nat} {x y : Int32} (hd : decode M.2.2.1 pc = .ok (.invokestatic idx, 3)) (hl : Cond.methodLink M.1 idx Lib.Math.max.name ∈ ab_tb) (hfr : 1 ≤ d) (hcat : (st.map fun v => v.category).sum ≤ 8) (h1 : ce ≤ mc) (h2 : sl ≤ ms) (hp : pc + 3 = pc') (kk : ab_Ev l g M d mc ms pc' ls (.int (ab_max x y) :: st) h ce sl K) : ab_Ev l g M d mc ms pc ls (.int y :: .int x :: st) h ce sl K := ab_mmax hd hl ss_max in_Math co_maxJ hfr hcat h1 h2 hp kk
theorem ab_mminF {idx : Nat} {x y : Int32} (hd : decode M.2.2.1 pc = .ok (.invokestatic idx, 3)) (hl : Cond.methodLink M.1 idx Lib.Math.min.name ∈ ab_tb) (hfr : 1 ≤ d) (hcat : (st.map fun v => v.category).sum ≤ 8) (h1 : ce ≤ mc) (h2 : sl ≤ ms) (hp : pc + 3 = pc') (kk : ab_Ev l g M d mc ms pc' ls (.int (ab_min x y) :: st) h ce sl K) : ab_Ev l g M d mc ms pc ls (.int y :: .int x :: st) h ce sl K := ab_mmin hd hl ss_min in_Math co_minJ hfr hcat h1 h2 hp kk
theorem ab_copyF {idx r0 r1 : Nat} {sp dp n : Int32} (hd : decode M.2.2.1 pc = .ok (.invokestatic idx, 3)) (hl : Cond.methodLink M.1 idx arraycopyName ∈ ab_tb) (hfr : 1 ≤ d) (he : ab_cp h r0 sp r1 dp n = some h') (hp : pc + 3 = pc') (kk : ab_Ev l g M d mc ms pc' ls [] h' ce sl K) : ab_Ev l g M d mc ms pc ls [.int n, .int dp, .ref r1, .int sp, .ref r0] h ce sl K := ab_copy hd hl nt_copy ss_copy in_System hfr rfl he hp kk
theorem ab_objF {idx r : Nat} (hd : decode M.2.2.1 pc = .ok (.invokespecial idx, 3)) (hl : Cond.methodLink M.1 idx objectInit ∈ ab_tb) (hfr : 1 ≤ d) (hp : pc + 3 = pc') (kk : ab_Ev l g M d mc ms pc' ls [] h ce sl K) : ab_Ev l g M d mc ms pc ls [.ref r] h ce sl K := ab_obj hd hl im_obj co_obj hfr rfl hp kk
theorem ab_newF {idx ci : Nat} {C : String} {T : u_T} {N ce' sl' : Nat} {fs : List Value} {q : Nat × ab_H} (ty : Nat → FieldType) (hty : ∀ k, k < N → parseFieldDescriptor (T k).2.2.1 = some (ty k)) (hd : decode M.2.2.1 pc = .ok (.new idx, 3)) (hc : vwCl[ci]? = some (C, T, N)) (hcl : Cond.classLink M.1 idx C ∈ ab_tb) (hins : Cond.instantiable C N ∈ ab_tb) (hini : Cond.initialized C ∈ ab_tb) (hfs : ∀ j, j < N → defaultValue (ty j) = vp_V (fs.map (ab_v g.2.2)) j) (hce : ce + 1 = ce') (hsl : sl + N = sl') (h1 : ce' ≤ mc) (h2 : sl' ≤ ms) (he : ab_nO h ci fs = some q) (hp : pc + 3 = pc') (kk : ab_Ev l g M d mc ms pc' ls (.ref q.1 :: st) q.2 ce' sl' K) : ab_Ev l g M d mc ms pc ls st h ce sl K := by
  cases he
  exact ab_new ty hty hd hc hcl hins hini hfs hce hsl h1 h2 hp kk
theorem ab_newIF {n : Int32} {N ce' sl' : Nat} {q : Nat × ab_H} (hd : decode M.2.2.1 pc = .ok (.newarray .int, 2)) (hn : ¬ n < 0) (hN : n.toNatClampNeg = N) (hby : N * 4 ≤ 536870912) (hce : ce + 1 = ce') (hsl : sl + N = sl') (h1 : ce' ≤ mc) (h2 : sl' ≤ ms) (he : ab_nI h N = some q) (hp : pc + 2 = pc') (kk : ab_Ev l g M d mc ms pc' ls (.ref q.1 :: st) q.2 ce' sl' K) : ab_Ev l g M d mc ms pc ls (.int n :: st) h ce sl K := by
  cases he
  exact ab_newI hd ac_int hn hN hby hce hsl h1 h2 hp kk
theorem ab_newZF {n : Int32} {N ce' sl' : Nat} {q : Nat × ab_H} (hd : decode M.2.2.1 pc = .ok (.newarray .boolean, 2)) (hn : ¬ n < 0) (hN : n.toNatClampNeg = N) (hby : N * 1 ≤ 536870912) (hce : ce + 1 = ce') (hsl : sl + N = sl') (h1 : ce' ≤ mc) (h2 : sl' ≤ ms) (he : ab_nZ h N = some q) (hp : pc + 2 = pc') (kk : ab_Ev l g M d mc ms pc' ls (.ref q.1 :: st) q.2 ce' sl' K) : ab_Ev l g M d mc ms pc ls (.int n :: st) h ce sl K := by
  cases he
  exact ab_newZ hd ac_boolean hn hN hby hce hsl h1 h2 hp kk
theorem ab_newRF {n : Int32} {N t ce' sl' idx : Nat} {C : String} {rr : vw_C} {q : Nat × ab_H} (hd : decode M.2.2.1 pc = .ok (.anewarray idx, 3)) (t1 : ¬ t < 2) (t2 : ¬ 4 < t) (hrr : vwCl[ab_ek t]? = some rr) (hC : rr.1 = C) (hcl : Cond.classLink M.1 idx C ∈ ab_tb) (hao : Cond.arrayOver (.object C) ∈ ab_xs) (hn : ¬ n < 0) (hN : n.toNatClampNeg = N) (hby : N * 4 ≤ 536870912) (hce : ce + 1 = ce') (hsl : sl + N = sl') (h1 : ce' ≤ mc) (h2 : sl' ≤ ms) (he : ab_nR h t N = some q) (hp : pc + 3 = pc') (kk : ab_Ev l g M d mc ms pc' ls (.ref q.1 :: st) q.2 ce' sl' K) : ab_Ev l g M d mc ms pc ls (.int n :: st) h ce sl K := by
  cases he
  exact ab_newR hd t1 t2 hrr hC hcl hao hn hN hby hce hsl h1 h2 hp kk
theorem ab_tableC {dflt lo hi : Int} {offs : Array Int} {len : Nat} {x c : Int32} {off : Int} {tgt : Nat} (hd : decode M.2.2.1 pc = .ok (.tableswitch dflt lo hi offs, len)) (hx : x = c) (h1 : ¬ c.toInt < lo) (h2 : ¬ hi < c.toInt) (ho : offs[(c.toInt - lo).toNat]? = some off) (ht : (pc : Int) + off = (tgt : Int)) (k : ab_Ev l g M d mc ms tgt ls st h ce sl K) : ab_Ev l g M d mc ms pc ls (.int x :: st) h ce sl K := by
  subst hx
  exact ab_tableIn hd h1 h2 ho ht k
theorem ab_lookC {dflt : Int} {ps : Array (Int × Int)} {len : Nat} {x c : Int32} {off : Int} {tgt : Nat} (hd : decode M.2.2.1 pc = .ok (.lookupswitch dflt ps, len)) (hx : x = c) (hps : (ps.toList.zip (ps.toList.drop 1)).all (fun (a, next) => a.1 < next.1) = true) (ho : Op.lookupswitch.offset ps.toList dflt c.toInt = off) (ht : (pc : Int) + off = (tgt : Int)) (k : ab_Ev l g M d mc ms tgt ls st h ce sl K) : ab_Ev l g M d mc ms pc ls (.int x :: st) h ce sl K := by
  subst hx
  exact ab_lookup hd hps ho ht k
theorem ab_look2 {dflt a b oa ob : Int} {len : Nat} {x : Int32} {tgt : Nat} (hd : decode M.2.2.1 pc = .ok (.lookupswitch dflt #[(a, oa), (b, ob)], len)) (ha : ¬ x.toInt = a) (hb : ¬ x.toInt = b) (hab : a < b) (ht : (pc : Int) + dflt = (tgt : Int)) (k : ab_Ev l g M d mc ms tgt ls st h ce sl K) : ab_Ev l g M d mc ms pc ls (.int x :: st) h ce sl K := by
  refine ab_lookup hd (by simpa using hab) ?_ ht k
  show Op.lookupswitch.offset [(a, oa), (b, ob)] dflt x.toInt = dflt
  rw [Op.lookupswitch.offset_cons, if_neg (fun e => ha e.symm), Op.lookupswitch.offset_cons, if_neg (fun e => hb e.symm), Op.lookupswitch.offset_nil]
theorem ab_zretG {x : Int32} (hr : M.2.2.2.2 = some .boolean) (hn : x &&& 1 = x) (hd : decode M.2.2.1 pc = .ok (.ireturn, 1)) (hk : K (some (.int x)) h) : ab_Ev l g M d mc ms pc ls [.int x] h mc ms K := ab_zret hr (by show Value.int (x &&& 1) = .int x; rw [hn]) hd hk
end
