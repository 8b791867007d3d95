/-! THE LAW: lv_Ev, the machine in the law's body: the script is written .null on the picture's stack, the two objects are the places 0 and 75 -/
def R_law : String := "DiskRestsLaw"
def lw_P (b : Addr) (xs : List Int32) (args : Array Value) (s : State) : Prop := args = #[.ref b] ∧ s.IntsAt b xs ∧ xs.length ≤ 2560 ∧ (Jvm.Cond.and given_1 narrow_1).before args s = true
def lw_Q (_ : Array Value) (s : State) (o : Outcome) (t : State) : Prop := o = .returned (some (.int 1)) ∧ Framed s o t [] 600000 7302249
def lw_Z (below : List Frame) (a : Array Value) (s : State) : State → Prop := fun t => ∃ o, t.status = .running ∧ Ended t below o ∧ lw_Q a s o t
/-- the law's own end, with 1 on the stack, nothing written that was there before, its room as the claim has it -/
theorem lw_ret {p : Program} {l : Launch} {e : Env} {s : State} {m : MethodId} {below : List Frame} {meth : Method} {c : Code} {b : Nat} (hx : p.tables.exec = Jvm.exec) (hb : c.code = code) (hr : meth.sig.returnType = ret) (hlocks : meth.locks = false) {pc : Nat} {H : Heap} {ls : Array Slot} (hdg : decode code pc = .ok (.ireturn, 1)) : W p l e room_1 s m #[Value.ref b] below meth c H [] 600000 7302249 (lw_Z below #[Value.ref b] s) (F0 m pc ls [.int 1]) := by
  intro T hT X
  obtain ⟨fs, hret, hrun, hended, hW, hframe⟩ := X.leave (v := some (.int 1)) (hlocks := hlocks) (fun h => by rw [hr] at h; cases h)
  have hmeth' : T.vm.method? m = some meth := X.method'
  refine ⟨T.setFrames fs, ?_, .returned (some (.int 1)), hrun, hended, rfl, ⟨_, rfl⟩, hW, hframe⟩
  jvm_step X.here [X.here.top, hx, hb, hdg, hmeth', hr, ret, narrow_b1]
  (try refine ⟨rfl, ?_⟩); (try refine ⟨rfl, ?_⟩)
  first | (intro acts; rw [hret _ acts rfl rfl rfl]) | rw [hret _ _ rfl rfl rfl]
  exact Steps.refl _
/-- what holds at the law's entry: the machine, the code, the tables' words (any of lw_tbl by 'hts w (by decide +kernel)'), the script of L ints xs at the cell b, what the Statement gives of the start (any of its parts by flat_of_before) -/
def lw_At (p : Program) (s : State) (m : MethodId) (meth : Method) (c : Code) (b L : Nat) (xs : Nat → Int32) : Prop :=
  p.tables.exec = Jvm.exec ∧ c.code = code ∧ meth.sig.returnType = ret ∧ c.maxLocals = 4 ∧ s.vm.findClass R_law = some m.cls ∧ (∀ w ∈ lw_tbl, w.before #[Value.ref b] s = true) ∧ va_X b L xs s s.heap ∧ b < s.heap.size ∧ meth.locks = false ∧ (Jvm.Cond.and given_1 narrow_1).before #[Value.ref b] s = true
def lv_v (b : Nat) (bs : Nat) (v : Value) : Value := match v with
  | .null => .ref b
  | .ref k => .ref (bs + k)
  | w => w
def lv_Ev (l : Launch) (g : ab_G) (b L : Nat) (xs : Nat → Int32) (pc : Nat) (x3 : Int32) (st : List Value) (h : ab_H) (ce sl : Nat) : Prop :=
  ∀ (p : Program) (e : Env) (s : State) (m : MethodId) (below : List Frame) (meth : Method) (c : Code) (H : Heap) (locs : List Loc) (la : Array Slot),
    lw_At p s m meth c b L xs → g.2.2 = s.heap.size → ab_E g s → va_S (ab_F g) s.heap H locs → ab_W g h H → lv_has la 4 [(0, .ref b), (1, .ref (g.2.2 + 0)), (2, .ref (g.2.2 + 75)), (3, .int x3)] →
    W p l e room_1 s m #[Value.ref b] below meth c H locs ce sl (lw_Z below #[Value.ref b] s) (F0 m pc la (st.map (lv_v b g.2.2)))
section
variable {l : Launch} {g : ab_G} {b L : Nat} {xs : Nat → Int32} {pc ce sl : Nat} {x3 : Int32} {st : List Value} {h : ab_H}
theorem lv_al1 (d1 : decode cL_law pc = .ok (.aload_n 1, 1)) (k : lv_Ev l g b L xs (pc + 1) x3 (.ref 0 :: st) h ce sl) : lv_Ev l g b L xs pc x3 st h ce sl := by
  intro p e s m below meth c H locs la C0 hg E S Wd hl
  exact lv_aload_n C0.1 C0.2.1 d1 rfl (lv_at hl 1 rfl) (k p e s m below meth c H locs la C0 hg E S Wd hl)
theorem lv_al2 (d1 : decode cL_law pc = .ok (.aload_n 2, 1)) (k : lv_Ev l g b L xs (pc + 1) x3 (.ref 75 :: st) h ce sl) : lv_Ev l g b L xs pc x3 st h ce sl := by
  intro p e s m below meth c H locs la C0 hg E S Wd hl
  exact lv_aload_n C0.1 C0.2.1 d1 rfl (lv_at hl 2 rfl) (k p e s m below meth c H locs la C0 hg E S Wd hl)
theorem lv_notA {s : State} (hg : g.2.2 = s.heap.size) (hb : b < s.heap.size) : ¬ ab_F g b := by
  show ¬ g.2.2 ≤ b
  omega
/-- script[i + k] -/
theorem lv_sc {i k : Nat} (hL : L ≤ 2560) (hi : i + 5 ≤ L) (hk : k < 5) (d1 : decode cL_law pc = .ok (.aload_n 0, 1)) (d2 : decode cL_law (pc + 1) = .ok (.iload_n 3, 1)) (d3 : decode cL_law (pc + 2) = .ok (.iconst k, 1)) (d4 : decode cL_law (pc + 3) = .ok (.iadd, 1)) (d5 : decode cL_law (pc + 4) = .ok (.iaload, 1))
    (kk : lv_Ev l g b L xs (pc + 5) (nI i) (.int (xs (i + k)) :: st) h ce sl) : lv_Ev l g b L xs pc (nI i) st h ce sl := by
  intro p e s m below meth c H locs la C0 hg E S Wd hl
  have hk2 : Int32.ofInt (k : Int) = nI k := rfl
  have hs : nI i + nI k = nI (i + k) := nI_add i k
  refine lv_aload_n C0.1 C0.2.1 d1 rfl (lv_at hl 0 rfl) ?_
  refine lv_iload_n C0.1 C0.2.1 d2 rfl (lv_at hl 3 rfl) ?_
  refine lv_iconst (v := nI k) C0.1 C0.2.1 d3 hk2 ?_
  refine lv_iadd C0.1 C0.2.1 d4 ?_
  rw [hs]
  refine va_sld C0.1 C0.2.1 C0.2.2.2.2.2.2.1 C0.2.2.2.2.2.2.2.1 (lv_notA hg C0.2.2.2.2.2.2.2.1) S (vp_in_nI (by omega) (by omega)) d5 ?_
  rw [nI_clamp (by omega)]
  exact kk p e s m below meth c H locs la C0 hg E S Wd hl
theorem lv_eq {r : Int32} {off : Int} {tgt : Nat} (hd : decode cL_law pc = .ok (.if_icmp .eq off, 3)) (ht : (pc : Int) + off = (tgt : Int)) (k : lv_Ev l g b L xs tgt x3 st h ce sl) : lv_Ev l g b L xs pc x3 (.int r :: .int r :: st) h ce sl := by
  intro p e s m below meth c H locs la C0 hg E S Wd hl
  exact lv_icmp_eq C0.1 C0.2.1 hd ht (fun _ => k p e s m below meth c H locs la C0 hg E S Wd hl) (fun z => absurd rfl z)
theorem lw_tin {w : Cond} (hw : w ∈ ab_tb) : w ∈ lw_tbl := (List.mem_filter.mp hw).1
theorem lw_gi {Mc : ab_M} (hc : Cond.code Mc.2.1 Mc.2.2.1 Mc.2.2.2.1 Mc.2.2.2.2 ∈ ab_tb) : GoodIn lw_tbl (ab_ws Mc) := by
  intro w hw
  have h1 : w ∈ ab_tb := (List.mem_cons.mp hw).elim (fun e => by rw [e]; exact hc) id
  exact ⟨lw_tin h1, good_of_word (List.mem_filter.mp h1).2⟩
theorem lv_callV {idx n dc r ci : Nat} {Mc : ab_M} {T : u_T} {N : Nat} {as stk : List Value} {u : Unit} (hce : ce ≤ 600000) (hsl : sl ≤ 7302249) (hd : decode cL_law pc = .ok (.invokevirtual idx, 3)) (hl : Cond.methodLink RL idx Mc.2.1 ∈ ab_tb) (ok : ab_Ok Mc n) (hin : Cond.instanceMethod Mc.2.1 ∈ ab_tb) (hsel : Cond.selects Mc.2.1.cls Mc.2.1 Mc.2.1 ∈ ab_tb) (hc : vwCl[ci]? = some (Mc.2.1.cls, T, N)) (he : ab_ob h r ci = some u) (hn : as.length = n) (hdc : dc ≤ 8) (hcat : (st.map fun v => v.category).sum ≤ 8) (hs : as.reverse ++ .ref r :: st = stk) (hai : as.map (lv_v b g.2.2) = as.map (ab_v g.2.2)) (hsi : st.map (lv_v b g.2.2) = st.map (ab_v g.2.2)) (kk : ab_S l g Mc dc 0 0 (.ref r :: as) h (fun v h' => ∃ x, v = some (.int x) ∧ lv_Ev l g b L xs (pc + 3) x3 (.int x :: st) h' ce sl)) : lv_Ev l g b L xs pc x3 stk h ce sl := by
  obtain ⟨fs, he⟩ := ab_ob_of he
  subst hs
  intro p e s m below meth c H locs la C0 hg E S Wd hla
  have hts := C0.2.2.2.2.2.1
  have hR : (ab_R dc 0 0).frames + 1 ≤ room_1.frames ∧ 8 + (Mc.2.2.2.1 + 11) + (ab_R dc 0 0).locals ≤ room_1.locals := ⟨by show dc + 1 ≤ 9; omega, by show 8 + (Mc.2.2.2.1 + 11) + 36 * dc ≤ 330; have := ok.2.2.2.2; omega⟩
  have hstk : (as.reverse ++ .ref r :: st).map (lv_v b g.2.2) = (as.map (ab_v g.2.2)).reverse ++ .ref (g.2.2 + r) :: st.map (ab_v g.2.2) := by
    rw [List.map_append, List.map_reverse, hai, List.map_cons, hsi]; rfl
  have hrc := va_recv E.1 Wd.2 hc (ab_w_get (b := g.2.2) (cA := g.2.1) he)
  have hr : va_Run p l e room_1 s m #[Value.ref b] below meth c H locs ce sl 0 0 (F0 m pc la ((as.reverse ++ .ref r :: st).map (lv_v b g.2.2))) (st.map (ab_v g.2.2)) (ab_Q g (fun v h' => ∃ x, v = some (.int x) ∧ lv_Ev l g b L xs (pc + 3) x3 (.int x :: st) h' ce sl) (Value.ref (g.2.2 + r) :: as.map (ab_v g.2.2)).toArray) (ab_F g) :=
    va_runV (C := Mc.2.1.cls) (b := g.2.2 + r) (As := as.map (ab_v g.2.2)) ⟨C0.1, C0.2.1, C0.2.2.2.1, C0.2.2.2.2.1, hts⟩ kk ⟨callB_of n hts (lw_gi ok.1) rfl rfl rfl (hts _ (lw_tin ok.2.1)) (hts _ (lw_tin hl)) ⟨ok.2.2.1.1, ok.2.2.1.2, ok.2.2.2.1⟩ hR, hts _ (lw_tin hin), hts _ (lw_tin hsel)⟩ ⟨ab_blind, hrc, ab_pre (vs := .ref r :: as) E Wd⟩ rfl (by rw [List.length_map]; exact hn) hla.1 hstk (by show 2 * 0 + _ ≤ 8; rw [ab_sumcat]; omega) hd ⟨hce, hsl⟩
  refine ab_fin hr S (fun v h' H' locs' hK hW hS => ?_)
  obtain ⟨x, rfl, hK⟩ := hK
  rw [← hsi]
  exact hK p e s m below meth c H' locs' la C0 hg E hS hW hla
theorem lv_head {i : Nat} (hL : L ≤ 2560) (hi : i ≤ L) (d1 : decode cL_law 18 = .ok (.iload_n 3, 1)) (d2 : decode cL_law 19 = .ok (.aload_n 0, 1)) (d3 : decode cL_law 20 = .ok (.arraylength, 1)) (d4 : decode cL_law 21 = .ok (.iconst 5, 1)) (d5 : decode cL_law 22 = .ok (.isub, 1)) (d6 : decode cL_law 23 = .ok (.if_icmp .gt 818, 3)) (k1 : L < i + 5 → lv_Ev l g b L xs 841 (nI i) [] h ce sl) (k2 : i + 5 ≤ L → lv_Ev l g b L xs 26 (nI i) [] h ce sl) : lv_Ev l g b L xs 18 (nI i) [] h ce sl := by
  intro p e s m below meth c H locs la C0 hg E S Wd hl
  have key : (nI L - 5 : Int32).toInt = (L : Int) - 5 := by
    have := pk_sub_toInt (a := L) (b := 5) (by omega) (by omega)
    exact this
  refine lv_iload_n C0.1 C0.2.1 d1 rfl (lv_at hl 3 rfl) ?_
  refine lv_aload_n C0.1 C0.2.1 d2 rfl (lv_at hl 0 rfl) ?_
  refine va_slen C0.1 C0.2.1 C0.2.2.2.2.2.2.1 C0.2.2.2.2.2.2.2.1 (lv_notA hg C0.2.2.2.2.2.2.2.1) S d3 ?_
  refine lv_iconst (v := 5) C0.1 C0.2.1 d4 (by decide) ?_
  refine lv_isub C0.1 C0.2.1 d5 ?_
  refine lv_icmp_gt (tgt := 841) C0.1 C0.2.1 d6 (by decide) (fun z => ?_) (fun z => ?_)
  · have z2 := Int32.lt_iff_toInt_lt.mp z
    rw [show (Int32.ofNat L - 5 : Int32) = nI L - 5 from rfl, key, nI_toInt (by omega)] at z2
    exact k1 (by omega) p e s m below meth c H locs la C0 hg E S Wd hl
  · have z2 : ¬ (nI L - 5 : Int32).toInt < (nI i).toInt := fun q => z (Int32.lt_iff_toInt_lt.mpr q)
    rw [key, nI_toInt (by omega)] at z2
    exact k2 (by omega) p e s m below meth c H locs la C0 hg E S Wd hl
theorem lv_sw {i : Nat} (hL : L ≤ 2560) (hi : i + 5 ≤ L) (d1 : decode cL_law 26 = .ok (.aload_n 0, 1)) (d2 : decode cL_law 27 = .ok (.iload_n 3, 1)) (d3 : decode cL_law 28 = .ok (.iaload, 1)) (d4 : decode cL_law 29 = .ok (.bipush 31, 2)) (d5 : decode cL_law 31 = .ok (.iand, 1)) (k : ∀ x : Int32, x = xs i &&& 31 → lv_Ev l g b L xs 32 (nI i) [.int x] h ce sl) : lv_Ev l g b L xs 26 (nI i) [] h ce sl := by
  intro p e s m below meth c H locs la C0 hg E S Wd hl
  refine lv_aload_n C0.1 C0.2.1 d1 rfl (lv_at hl 0 rfl) ?_
  refine lv_iload_n C0.1 C0.2.1 d2 rfl (lv_at hl 3 rfl) ?_
  refine va_sld C0.1 C0.2.1 C0.2.2.2.2.2.2.1 C0.2.2.2.2.2.2.2.1 (lv_notA hg C0.2.2.2.2.2.2.2.1) S (vp_in_nI (by omega) (by omega)) d3 ?_
  rw [nI_clamp (by omega)]
  refine lv_bipush (v := 31) C0.1 C0.2.1 d4 (by decide) ?_
  refine lv_iand C0.1 C0.2.1 d5 ?_
  exact k _ rfl p e s m below meth c H locs la C0 hg E S Wd hl
theorem lv_tabC {dflt lo hi : Int} {offs : Array Int} {len : Nat} {x c : Int32} {off : Int} {tgt : Nat} (hd : decode cL_law pc = .ok (.tableswitch dflt lo hi offs, len)) (hx : x = c) (h1 : ¬ c.toInt < lo) (h2 : ¬ hi < c.toInt) (ho : offs[(c.toInt - lo).toNat]? = some off) (ht : (pc : Int) + off = (tgt : Int)) (k : lv_Ev l g b L xs tgt x3 st h ce sl) : lv_Ev l g b L xs pc x3 (.int x :: st) h ce sl := by
  subst hx
  intro p e s m below meth c H locs la C0 hg E S Wd hl
  exact lv_tableIn C0.1 C0.2.1 hd h1 h2 ho ht (k p e s m below meth c H locs la C0 hg E S Wd hl)
theorem lv_tabO {dflt lo hi : Int} {offs : Array Int} {len : Nat} {x : Int32} {tgt : Nat} (hd : decode cL_law pc = .ok (.tableswitch dflt lo hi offs, len)) (hx : x.toInt < lo ∨ hi < x.toInt) (ht : (pc : Int) + dflt = (tgt : Int)) (k : lv_Ev l g b L xs tgt x3 st h ce sl) : lv_Ev l g b L xs pc x3 (.int x :: st) h ce sl := by
  intro p e s m below meth c H locs la C0 hg E S Wd hl
  exact lv_tableOut C0.1 C0.2.1 hd hx ht (k p e s m below meth c H locs la C0 hg E S Wd hl)
theorem lv_inc {i : Nat} (d1 : decode cL_law 835 = .ok (.iinc 3 5, 3)) (d2 : decode cL_law 838 = .ok (.goto (-820), 3)) (k : lv_Ev l g b L xs 18 (nI (i + 5)) [] h ce sl) : lv_Ev l g b L xs 835 (nI i) [] h ce sl := by
  intro p e s m below meth c H locs la C0 hg E S Wd hl
  refine lv_iinc (v := nI (i + 5)) (lv' := [(3, .int (nI (i + 5))), (0, .ref b), (1, .ref (g.2.2 + 0)), (2, .ref (g.2.2 + 75))]) C0.1 C0.2.1 d1 hl (k := 3) rfl (nI_add i 5) (by decide) rfl (fun la hl => ?_)
  refine lv_goto (tgt := 18) C0.1 C0.2.1 d2 (by decide) ?_
  exact k p e s m below meth c H locs la C0 hg E S Wd (lv_sub hl [1, 2, 3, 0] rfl)
theorem lv_end {i : Nat} (hc : ce ≤ 600000) (hs : sl ≤ 7302249) (d1 : decode cL_law 841 = .ok (.iconst 1, 1)) (d2 : decode cL_law 842 = .ok (.ireturn, 1)) : lv_Ev l g b L xs 841 (nI i) [] h ce sl := by
  intro p e s m below meth c H locs la C0 hg E S Wd hl
  refine lv_iconst (v := 1) C0.1 C0.2.1 d1 (by decide) ?_
  refine va_forget (fun q hq => by have := S.2.2 q hq; rw [← hg]; exact this) ?_
  refine W.widen hc hs ?_
  exact lw_ret C0.1 C0.2.1 C0.2.2.1 C0.2.2.2.2.2.2.2.2.1 d2
end
-- case 0: power
set_option maxRecDepth 20000 in
set_option maxHeartbeats 1000000 in
theorem lw_c0 {l : Launch} {g : ab_G} {b L : Nat} {xs : Nat → Int32} {i ce sl : Nat} {h : ab_H} (hL : L ≤ 2560) (hc : ce ≤ 600000) (hs : sl ≤ 7302249) (hi : i + 5 ≤ L) (hv : iv h) (kk : ∀ h', iv h' → lv_Ev l g b L xs 835 (nI i) [] h' ce sl) : lv_Ev l g b L xs 132 (nI i) [] h ce sl := by
  obtain ⟨r, F1, A1, h2, e1, e2, hv2⟩ := pu_power hv (xs (i + 1)) (xs (i + 2))
  have o1 := iv_ob6 hv
  have o2 : ab_ob (hp F1 A1) 75 7 = some () := hp_ob (by decide +kernel)
  refine lv_al1 dL_law_132 ?_
  refine lv_sc (k := 1) hL hi (by decide) dL_law_133 dL_law_134 dL_law_135 dL_law_136 dL_law_137 ?_
  refine lv_sc (k := 2) hL hi (by decide) dL_law_138 dL_law_139 dL_law_140 dL_law_141 dL_law_142 ?_
  refine lv_callV (Mc := mX6_power) (dc := 2) (r := 0) (ci := 6) (as := [.int (xs (i + 1)), .int (xs (i + 2))]) (st := []) hc hs dL_law_143 mk_L_13 okX6_power im_X6_power se_X6_power rfl o1 rfl (by decide) (Nat.le_of_ble_eq_true rfl) rfl rfl rfl (kX6_power e1 ⟨r, rfl, ?_⟩)
  show lv_Ev l g b L xs 146 (nI i) [.int r] (hp F1 A1) ce sl
  refine lv_al2 dL_law_146 ?_
  refine lv_sc (k := 1) hL hi (by decide) dL_law_147 dL_law_148 dL_law_149 dL_law_150 dL_law_151 ?_
  refine lv_sc (k := 2) hL hi (by decide) dL_law_152 dL_law_153 dL_law_154 dL_law_155 dL_law_156 ?_
  refine lv_callV (Mc := mX7_power) (dc := 2) (r := 75) (ci := 7) (as := [.int (xs (i + 1)), .int (xs (i + 2))]) (st := [.int r]) hc hs dL_law_157 mk_L_17 okX7_power im_X7_power se_X7_power rfl o2 rfl (by decide) (Nat.le_of_ble_eq_true rfl) rfl rfl rfl (kX7_power e2 ⟨r, rfl, ?_⟩)
  show lv_Ev l g b L xs 160 (nI i) [.int r, .int r] h2 ce sl
  exact lv_eq (tgt := 835) dL_law_160 (by decide) (kk h2 hv2)
-- case 1: deeper
set_option maxRecDepth 20000 in
set_option maxHeartbeats 1000000 in
theorem lw_c1 {l : Launch} {g : ab_G} {b L : Nat} {xs : Nat → Int32} {i ce sl : Nat} {h : ab_H} (hL : L ≤ 2560) (hc : ce ≤ 600000) (hs : sl ≤ 7302249) (hi : i + 5 ≤ L) (hv : iv h) (kk : ∀ h', iv h' → lv_Ev l g b L xs 835 (nI i) [] h' ce sl) : lv_Ev l g b L xs 165 (nI i) [] h ce sl := by
  obtain ⟨r, F1, A1, h2, e1, e2, hv2⟩ := pu_deeper hv (xs (i + 1)) (xs (i + 2)) (xs (i + 3))
  have o1 := iv_ob6 hv
  have o2 : ab_ob (hp F1 A1) 75 7 = some () := hp_ob (by decide +kernel)
  refine lv_al1 dL_law_165 ?_
  refine lv_sc (k := 1) hL hi (by decide) dL_law_166 dL_law_167 dL_law_168 dL_law_169 dL_law_170 ?_
  refine lv_sc (k := 2) hL hi (by decide) dL_law_171 dL_law_172 dL_law_173 dL_law_174 dL_law_175 ?_
  refine lv_sc (k := 3) hL hi (by decide) dL_law_176 dL_law_177 dL_law_178 dL_law_179 dL_law_180 ?_
  refine lv_callV (Mc := mX6_deeper) (dc := 2) (r := 0) (ci := 6) (as := [.int (xs (i + 1)), .int (xs (i + 2)), .int (xs (i + 3))]) (st := []) hc hs dL_law_181 mk_L_18 okX6_deeper im_X6_deeper se_X6_deeper rfl o1 rfl (by decide) (Nat.le_of_ble_eq_true rfl) rfl rfl rfl (kX6_deeper e1 ⟨r, rfl, ?_⟩)
  show lv_Ev l g b L xs 184 (nI i) [.int r] (hp F1 A1) ce sl
  refine lv_al2 dL_law_184 ?_
  refine lv_sc (k := 1) hL hi (by decide) dL_law_185 dL_law_186 dL_law_187 dL_law_188 dL_law_189 ?_
  refine lv_sc (k := 2) hL hi (by decide) dL_law_190 dL_law_191 dL_law_192 dL_law_193 dL_law_194 ?_
  refine lv_sc (k := 3) hL hi (by decide) dL_law_195 dL_law_196 dL_law_197 dL_law_198 dL_law_199 ?_
  refine lv_callV (Mc := mX7_deeper) (dc := 2) (r := 75) (ci := 7) (as := [.int (xs (i + 1)), .int (xs (i + 2)), .int (xs (i + 3))]) (st := [.int r]) hc hs dL_law_200 mk_L_22 okX7_deeper im_X7_deeper se_X7_deeper rfl o2 rfl (by decide) (Nat.le_of_ble_eq_true rfl) rfl rfl rfl (kX7_deeper e2 ⟨r, rfl, ?_⟩)
  show lv_Ev l g b L xs 203 (nI i) [.int r, .int r] h2 ce sl
  exact lv_eq (tgt := 835) dL_law_203 (by decide) (kk h2 hv2)
-- case 2: level
set_option maxRecDepth 20000 in
set_option maxHeartbeats 1000000 in
theorem lw_c2 {l : Launch} {g : ab_G} {b L : Nat} {xs : Nat → Int32} {i ce sl : Nat} {h : ab_H} (hL : L ≤ 2560) (hc : ce ≤ 600000) (hs : sl ≤ 7302249) (hi : i + 5 ≤ L) (hv : iv h) (kk : ∀ h', iv h' → lv_Ev l g b L xs 835 (nI i) [] h' ce sl) : lv_Ev l g b L xs 208 (nI i) [] h ce sl := by
  obtain ⟨r, e1, e2⟩ := pu_level hv (xs (i + 1)) (xs (i + 2)) (xs (i + 3))
  have o1 := iv_ob6 hv
  have o2 := iv_ob7 hv
  refine lv_al1 dL_law_208 ?_
  refine lv_sc (k := 1) hL hi (by decide) dL_law_209 dL_law_210 dL_law_211 dL_law_212 dL_law_213 ?_
  refine lv_sc (k := 2) hL hi (by decide) dL_law_214 dL_law_215 dL_law_216 dL_law_217 dL_law_218 ?_
  refine lv_sc (k := 3) hL hi (by decide) dL_law_219 dL_law_220 dL_law_221 dL_law_222 dL_law_223 ?_
  refine lv_callV (Mc := mX6_level) (dc := 2) (r := 0) (ci := 6) (as := [.int (xs (i + 1)), .int (xs (i + 2)), .int (xs (i + 3))]) (st := []) hc hs dL_law_224 mk_L_23 okX6_level im_X6_level se_X6_level rfl o1 rfl (by decide) (Nat.le_of_ble_eq_true rfl) rfl rfl rfl (kX6_level e1 ⟨r, rfl, ?_⟩)
  show lv_Ev l g b L xs 227 (nI i) [.int r] h ce sl
  refine lv_al2 dL_law_227 ?_
  refine lv_sc (k := 1) hL hi (by decide) dL_law_228 dL_law_229 dL_law_230 dL_law_231 dL_law_232 ?_
  refine lv_sc (k := 2) hL hi (by decide) dL_law_233 dL_law_234 dL_law_235 dL_law_236 dL_law_237 ?_
  refine lv_sc (k := 3) hL hi (by decide) dL_law_238 dL_law_239 dL_law_240 dL_law_241 dL_law_242 ?_
  refine lv_callV (Mc := mX7_level) (dc := 2) (r := 75) (ci := 7) (as := [.int (xs (i + 1)), .int (xs (i + 2)), .int (xs (i + 3))]) (st := [.int r]) hc hs dL_law_243 mk_L_26 okX7_level im_X7_level se_X7_level rfl o2 rfl (by decide) (Nat.le_of_ble_eq_true rfl) rfl rfl rfl (kX7_level e2 ⟨r, rfl, ?_⟩)
  show lv_Ev l g b L xs 246 (nI i) [.int r, .int r] h ce sl
  exact lv_eq (tgt := 835) dL_law_246 (by decide) (kk h hv)
-- case 3: policy
set_option maxRecDepth 20000 in
set_option maxHeartbeats 1000000 in
theorem lw_c3 {l : Launch} {g : ab_G} {b L : Nat} {xs : Nat → Int32} {i ce sl : Nat} {h : ab_H} (hL : L ≤ 2560) (hc : ce ≤ 600000) (hs : sl ≤ 7302249) (hi : i + 5 ≤ L) (hv : iv h) (kk : ∀ h', iv h' → lv_Ev l g b L xs 835 (nI i) [] h' ce sl) : lv_Ev l g b L xs 251 (nI i) [] h ce sl := by
  obtain ⟨r, F1, A1, h2, e1, e2, hv2⟩ := pu_policy hv (xs (i + 1)) (xs (i + 2)) (xs (i + 3))
  have o1 := iv_ob6 hv
  have o2 : ab_ob (hp F1 A1) 75 7 = some () := hp_ob (by decide +kernel)
  refine lv_al1 dL_law_251 ?_
  refine lv_sc (k := 1) hL hi (by decide) dL_law_252 dL_law_253 dL_law_254 dL_law_255 dL_law_256 ?_
  refine lv_sc (k := 2) hL hi (by decide) dL_law_257 dL_law_258 dL_law_259 dL_law_260 dL_law_261 ?_
  refine lv_sc (k := 3) hL hi (by decide) dL_law_262 dL_law_263 dL_law_264 dL_law_265 dL_law_266 ?_
  refine lv_callV (Mc := mX6_policy) (dc := 2) (r := 0) (ci := 6) (as := [.int (xs (i + 1)), .int (xs (i + 2)), .int (xs (i + 3))]) (st := []) hc hs dL_law_267 mk_L_27 okX6_policy im_X6_policy se_X6_policy rfl o1 rfl (by decide) (Nat.le_of_ble_eq_true rfl) rfl rfl rfl (kX6_policy e1 ⟨r, rfl, ?_⟩)
  show lv_Ev l g b L xs 270 (nI i) [.int r] (hp F1 A1) ce sl
  refine lv_al2 dL_law_270 ?_
  refine lv_sc (k := 1) hL hi (by decide) dL_law_271 dL_law_272 dL_law_273 dL_law_274 dL_law_275 ?_
  refine lv_sc (k := 2) hL hi (by decide) dL_law_276 dL_law_277 dL_law_278 dL_law_279 dL_law_280 ?_
  refine lv_sc (k := 3) hL hi (by decide) dL_law_281 dL_law_282 dL_law_283 dL_law_284 dL_law_285 ?_
  refine lv_callV (Mc := mX7_policy) (dc := 2) (r := 75) (ci := 7) (as := [.int (xs (i + 1)), .int (xs (i + 2)), .int (xs (i + 3))]) (st := [.int r]) hc hs dL_law_286 mk_L_30 okX7_policy im_X7_policy se_X7_policy rfl o2 rfl (by decide) (Nat.le_of_ble_eq_true rfl) rfl rfl rfl (kX7_policy e2 ⟨r, rfl, ?_⟩)
  show lv_Ev l g b L xs 289 (nI i) [.int r, .int r] h2 ce sl
  exact lv_eq (tgt := 835) dL_law_289 (by decide) (kk h2 hv2)
-- case 4: request
set_option maxRecDepth 20000 in
set_option maxHeartbeats 1000000 in
theorem lw_c4 {l : Launch} {g : ab_G} {b L : Nat} {xs : Nat → Int32} {i ce sl : Nat} {h : ab_H} (hL : L ≤ 2560) (hc : ce ≤ 600000) (hs : sl ≤ 7302249) (hi : i + 5 ≤ L) (hv : iv h) (kk : ∀ h', iv h' → lv_Ev l g b L xs 835 (nI i) [] h' ce sl) : lv_Ev l g b L xs 294 (nI i) [] h ce sl := by
  obtain ⟨r, F1, A1, h2, e1, e2, hv2⟩ := pu_request hv (xs (i + 1)) (xs (i + 2)) (xs (i + 3))
  have o1 := iv_ob6 hv
  have o2 : ab_ob (hp F1 A1) 75 7 = some () := hp_ob (by decide +kernel)
  refine lv_al1 dL_law_294 ?_
  refine lv_sc (k := 1) hL hi (by decide) dL_law_295 dL_law_296 dL_law_297 dL_law_298 dL_law_299 ?_
  refine lv_sc (k := 2) hL hi (by decide) dL_law_300 dL_law_301 dL_law_302 dL_law_303 dL_law_304 ?_
  refine lv_sc (k := 3) hL hi (by decide) dL_law_305 dL_law_306 dL_law_307 dL_law_308 dL_law_309 ?_
  refine lv_callV (Mc := mX6_request) (dc := 2) (r := 0) (ci := 6) (as := [.int (xs (i + 1)), .int (xs (i + 2)), .int (xs (i + 3))]) (st := []) hc hs dL_law_310 mk_L_31 okX6_request im_X6_request se_X6_request rfl o1 rfl (by decide) (Nat.le_of_ble_eq_true rfl) rfl rfl rfl (kX6_request e1 ⟨r, rfl, ?_⟩)
  show lv_Ev l g b L xs 313 (nI i) [.int r] (hp F1 A1) ce sl
  refine lv_al2 dL_law_313 ?_
  refine lv_sc (k := 1) hL hi (by decide) dL_law_314 dL_law_315 dL_law_316 dL_law_317 dL_law_318 ?_
  refine lv_sc (k := 2) hL hi (by decide) dL_law_319 dL_law_320 dL_law_321 dL_law_322 dL_law_323 ?_
  refine lv_sc (k := 3) hL hi (by decide) dL_law_324 dL_law_325 dL_law_326 dL_law_327 dL_law_328 ?_
  refine lv_callV (Mc := mX7_request) (dc := 2) (r := 75) (ci := 7) (as := [.int (xs (i + 1)), .int (xs (i + 2)), .int (xs (i + 3))]) (st := [.int r]) hc hs dL_law_329 mk_L_34 okX7_request im_X7_request se_X7_request rfl o2 rfl (by decide) (Nat.le_of_ble_eq_true rfl) rfl rfl rfl (kX7_request e2 ⟨r, rfl, ?_⟩)
  show lv_Ev l g b L xs 332 (nI i) [.int r, .int r] h2 ce sl
  exact lv_eq (tgt := 835) dL_law_332 (by decide) (kk h2 hv2)
-- case 5: forget
set_option maxRecDepth 20000 in
set_option maxHeartbeats 1000000 in
theorem lw_c5 {l : Launch} {g : ab_G} {b L : Nat} {xs : Nat → Int32} {i ce sl : Nat} {h : ab_H} (hL : L ≤ 2560) (hc : ce ≤ 600000) (hs : sl ≤ 7302249) (hi : i + 5 ≤ L) (hv : iv h) (kk : ∀ h', iv h' → lv_Ev l g b L xs 835 (nI i) [] h' ce sl) : lv_Ev l g b L xs 337 (nI i) [] h ce sl := by
  obtain ⟨r, F1, A1, h2, e1, e2, hv2⟩ := pu_forget hv (xs (i + 1))
  have o1 := iv_ob6 hv
  have o2 : ab_ob (hp F1 A1) 75 7 = some () := hp_ob (by decide +kernel)
  refine lv_al1 dL_law_337 ?_
  refine lv_sc (k := 1) hL hi (by decide) dL_law_338 dL_law_339 dL_law_340 dL_law_341 dL_law_342 ?_
  refine lv_callV (Mc := mX6_forget) (dc := 2) (r := 0) (ci := 6) (as := [.int (xs (i + 1))]) (st := []) hc hs dL_law_343 mk_L_35 okX6_forget im_X6_forget se_X6_forget rfl o1 rfl (by decide) (Nat.le_of_ble_eq_true rfl) rfl rfl rfl (kX6_forget e1 ⟨r, rfl, ?_⟩)
  show lv_Ev l g b L xs 346 (nI i) [.int r] (hp F1 A1) ce sl
  refine lv_al2 dL_law_346 ?_
  refine lv_sc (k := 1) hL hi (by decide) dL_law_347 dL_law_348 dL_law_349 dL_law_350 dL_law_351 ?_
  refine lv_callV (Mc := mX7_forget) (dc := 2) (r := 75) (ci := 7) (as := [.int (xs (i + 1))]) (st := [.int r]) hc hs dL_law_352 mk_L_39 okX7_forget im_X7_forget se_X7_forget rfl o2 rfl (by decide) (Nat.le_of_ble_eq_true rfl) rfl rfl rfl (kX7_forget e2 ⟨r, rfl, ?_⟩)
  show lv_Ev l g b L xs 355 (nI i) [.int r, .int r] h2 ce sl
  exact lv_eq (tgt := 835) dL_law_355 (by decide) (kk h2 hv2)
-- case 6: told
set_option maxRecDepth 20000 in
set_option maxHeartbeats 1000000 in
theorem lw_c6 {l : Launch} {g : ab_G} {b L : Nat} {xs : Nat → Int32} {i ce sl : Nat} {h : ab_H} (hL : L ≤ 2560) (hc : ce ≤ 600000) (hs : sl ≤ 7302249) (hi : i + 5 ≤ L) (hv : iv h) (kk : ∀ h', iv h' → lv_Ev l g b L xs 835 (nI i) [] h' ce sl) : lv_Ev l g b L xs 360 (nI i) [] h ce sl := by
  obtain ⟨r, e1, e2⟩ := pu_told hv (xs (i + 1)) (xs (i + 2))
  have o1 := iv_ob6 hv
  have o2 := iv_ob7 hv
  refine lv_al1 dL_law_360 ?_
  refine lv_sc (k := 1) hL hi (by decide) dL_law_361 dL_law_362 dL_law_363 dL_law_364 dL_law_365 ?_
  refine lv_sc (k := 2) hL hi (by decide) dL_law_366 dL_law_367 dL_law_368 dL_law_369 dL_law_370 ?_
  refine lv_callV (Mc := mX6_told) (dc := 2) (r := 0) (ci := 6) (as := [.int (xs (i + 1)), .int (xs (i + 2))]) (st := []) hc hs dL_law_371 mk_L_40 okX6_told im_X6_told se_X6_told rfl o1 rfl (by decide) (Nat.le_of_ble_eq_true rfl) rfl rfl rfl (kX6_told e1 ⟨r, rfl, ?_⟩)
  show lv_Ev l g b L xs 374 (nI i) [.int r] h ce sl
  refine lv_al2 dL_law_374 ?_
  refine lv_sc (k := 1) hL hi (by decide) dL_law_375 dL_law_376 dL_law_377 dL_law_378 dL_law_379 ?_
  refine lv_sc (k := 2) hL hi (by decide) dL_law_380 dL_law_381 dL_law_382 dL_law_383 dL_law_384 ?_
  refine lv_callV (Mc := mX7_told) (dc := 2) (r := 75) (ci := 7) (as := [.int (xs (i + 1)), .int (xs (i + 2))]) (st := [.int r]) hc hs dL_law_385 mk_L_43 okX7_told im_X7_told se_X7_told rfl o2 rfl (by decide) (Nat.le_of_ble_eq_true rfl) rfl rfl rfl (kX7_told e2 ⟨r, rfl, ?_⟩)
  show lv_Ev l g b L xs 388 (nI i) [.int r, .int r] h ce sl
  exact lv_eq (tgt := 835) dL_law_388 (by decide) (kk h hv)
-- case 7: end
set_option maxRecDepth 20000 in
set_option maxHeartbeats 1000000 in
theorem lw_c7 {l : Launch} {g : ab_G} {b L : Nat} {xs : Nat → Int32} {i ce sl : Nat} {h : ab_H} (hL : L ≤ 2560) (hc : ce ≤ 600000) (hs : sl ≤ 7302249) (hi : i + 5 ≤ L) (hv : iv h) (kk : ∀ h', iv h' → lv_Ev l g b L xs 835 (nI i) [] h' ce sl) : lv_Ev l g b L xs 393 (nI i) [] h ce sl := by
  obtain ⟨r, F1, A1, h2, e1, e2, hv2⟩ := pu_end hv (xs (i + 1))
  have o1 := iv_ob6 hv
  have o2 : ab_ob (hp F1 A1) 75 7 = some () := hp_ob (by decide +kernel)
  refine lv_al1 dL_law_393 ?_
  refine lv_sc (k := 1) hL hi (by decide) dL_law_394 dL_law_395 dL_law_396 dL_law_397 dL_law_398 ?_
  refine lv_callV (Mc := mX6_end) (dc := 1) (r := 0) (ci := 6) (as := [.int (xs (i + 1))]) (st := []) hc hs dL_law_399 mk_L_44 okX6_end im_X6_end se_X6_end rfl o1 rfl (by decide) (Nat.le_of_ble_eq_true rfl) rfl rfl rfl (kX6_end e1 ⟨r, rfl, ?_⟩)
  show lv_Ev l g b L xs 402 (nI i) [.int r] (hp F1 A1) ce sl
  refine lv_al2 dL_law_402 ?_
  refine lv_sc (k := 1) hL hi (by decide) dL_law_403 dL_law_404 dL_law_405 dL_law_406 dL_law_407 ?_
  refine lv_callV (Mc := mX7_end) (dc := 1) (r := 75) (ci := 7) (as := [.int (xs (i + 1))]) (st := [.int r]) hc hs dL_law_408 mk_L_47 okX7_end im_X7_end se_X7_end rfl o2 rfl (by decide) (Nat.le_of_ble_eq_true rfl) rfl rfl rfl (kX7_end e2 ⟨r, rfl, ?_⟩)
  show lv_Ev l g b L xs 411 (nI i) [.int r, .int r] h2 ce sl
  exact lv_eq (tgt := 835) dL_law_411 (by decide) (kk h2 hv2)
-- case 8: journal
set_option maxRecDepth 20000 in
set_option maxHeartbeats 1000000 in
theorem lw_c8 {l : Launch} {g : ab_G} {b L : Nat} {xs : Nat → Int32} {i ce sl : Nat} {h : ab_H} (hL : L ≤ 2560) (hc : ce ≤ 600000) (hs : sl ≤ 7302249) (hi : i + 5 ≤ L) (hv : iv h) (kk : ∀ h', iv h' → lv_Ev l g b L xs 835 (nI i) [] h' ce sl) : lv_Ev l g b L xs 416 (nI i) [] h ce sl := by
  obtain ⟨r, F1, A1, h2, e1, e2, hv2⟩ := pu_journal hv (xs (i + 1))
  have o1 := iv_ob6 hv
  have o2 : ab_ob (hp F1 A1) 75 7 = some () := hp_ob (by decide +kernel)
  refine lv_al1 dL_law_416 ?_
  refine lv_sc (k := 1) hL hi (by decide) dL_law_417 dL_law_418 dL_law_419 dL_law_420 dL_law_421 ?_
  refine lv_callV (Mc := mX6_journal) (dc := 1) (r := 0) (ci := 6) (as := [.int (xs (i + 1))]) (st := []) hc hs dL_law_422 mk_L_48 okX6_journal im_X6_journal se_X6_journal rfl o1 rfl (by decide) (Nat.le_of_ble_eq_true rfl) rfl rfl rfl (kX6_journal e1 ⟨r, rfl, ?_⟩)
  show lv_Ev l g b L xs 425 (nI i) [.int r] (hp F1 A1) ce sl
  refine lv_al2 dL_law_425 ?_
  refine lv_sc (k := 1) hL hi (by decide) dL_law_426 dL_law_427 dL_law_428 dL_law_429 dL_law_430 ?_
  refine lv_callV (Mc := mX7_journal) (dc := 1) (r := 75) (ci := 7) (as := [.int (xs (i + 1))]) (st := [.int r]) hc hs dL_law_431 mk_L_51 okX7_journal im_X7_journal se_X7_journal rfl o2 rfl (by decide) (Nat.le_of_ble_eq_true rfl) rfl rfl rfl (kX7_journal e2 ⟨r, rfl, ?_⟩)
  show lv_Ev l g b L xs 434 (nI i) [.int r, .int r] h2 ce sl
  exact lv_eq (tgt := 835) dL_law_434 (by decide) (kk h2 hv2)
-- case 9: disk
set_option maxRecDepth 20000 in
set_option maxHeartbeats 1000000 in
theorem lw_c9 {l : Launch} {g : ab_G} {b L : Nat} {xs : Nat → Int32} {i ce sl : Nat} {h : ab_H} (hL : L ≤ 2560) (hc : ce ≤ 600000) (hs : sl ≤ 7302249) (hi : i + 5 ≤ L) (hv : iv h) (kk : ∀ h', iv h' → lv_Ev l g b L xs 835 (nI i) [] h' ce sl) : lv_Ev l g b L xs 439 (nI i) [] h ce sl := by
  obtain ⟨r, F1, A1, h2, e1, e2, hv2⟩ := pu_disk hv (xs (i + 1)) (xs (i + 2))
  have o1 := iv_ob6 hv
  have o2 : ab_ob (hp F1 A1) 75 7 = some () := hp_ob (by decide +kernel)
  refine lv_al1 dL_law_439 ?_
  refine lv_sc (k := 1) hL hi (by decide) dL_law_440 dL_law_441 dL_law_442 dL_law_443 dL_law_444 ?_
  refine lv_sc (k := 2) hL hi (by decide) dL_law_445 dL_law_446 dL_law_447 dL_law_448 dL_law_449 ?_
  refine lv_callV (Mc := mX6_disk) (dc := 6) (r := 0) (ci := 6) (as := [.int (xs (i + 1)), .int (xs (i + 2))]) (st := []) hc hs dL_law_450 mk_L_52 okX6_disk im_X6_disk se_X6_disk rfl o1 rfl (by decide) (Nat.le_of_ble_eq_true rfl) rfl rfl rfl (kX6_disk e1 ⟨r, rfl, ?_⟩)
  show lv_Ev l g b L xs 453 (nI i) [.int r] (hp F1 A1) ce sl
  refine lv_al2 dL_law_453 ?_
  refine lv_sc (k := 1) hL hi (by decide) dL_law_454 dL_law_455 dL_law_456 dL_law_457 dL_law_458 ?_
  refine lv_sc (k := 2) hL hi (by decide) dL_law_459 dL_law_460 dL_law_461 dL_law_462 dL_law_463 ?_
  refine lv_callV (Mc := mX7_disk) (dc := 5) (r := 75) (ci := 7) (as := [.int (xs (i + 1)), .int (xs (i + 2))]) (st := [.int r]) hc hs dL_law_464 mk_L_55 okX7_disk im_X7_disk se_X7_disk rfl o2 rfl (by decide) (Nat.le_of_ble_eq_true rfl) rfl rfl rfl (kX7_disk e2 ⟨r, rfl, ?_⟩)
  show lv_Ev l g b L xs 467 (nI i) [.int r, .int r] h2 ce sl
  exact lv_eq (tgt := 835) dL_law_467 (by decide) (kk h2 hv2)
-- case 10: at
set_option maxRecDepth 20000 in
set_option maxHeartbeats 1000000 in
theorem lw_c10 {l : Launch} {g : ab_G} {b L : Nat} {xs : Nat → Int32} {i ce sl : Nat} {h : ab_H} (hL : L ≤ 2560) (hc : ce ≤ 600000) (hs : sl ≤ 7302249) (hi : i + 5 ≤ L) (hv : iv h) (kk : ∀ h', iv h' → lv_Ev l g b L xs 835 (nI i) [] h' ce sl) : lv_Ev l g b L xs 472 (nI i) [] h ce sl := by
  obtain ⟨r, F1, A1, h2, e1, e2, hv2⟩ := pu_at hv (xs (i + 1)) (xs (i + 2)) (xs (i + 3))
  have o1 := iv_ob6 hv
  have o2 : ab_ob (hp F1 A1) 75 7 = some () := hp_ob (by decide +kernel)
  refine lv_al1 dL_law_472 ?_
  refine lv_sc (k := 1) hL hi (by decide) dL_law_473 dL_law_474 dL_law_475 dL_law_476 dL_law_477 ?_
  refine lv_sc (k := 2) hL hi (by decide) dL_law_478 dL_law_479 dL_law_480 dL_law_481 dL_law_482 ?_
  refine lv_sc (k := 3) hL hi (by decide) dL_law_483 dL_law_484 dL_law_485 dL_law_486 dL_law_487 ?_
  refine lv_callV (Mc := mX6_at) (dc := 5) (r := 0) (ci := 6) (as := [.int (xs (i + 1)), .int (xs (i + 2)), .int (xs (i + 3))]) (st := []) hc hs dL_law_488 mk_L_56 okX6_at im_X6_at se_X6_at rfl o1 rfl (by decide) (Nat.le_of_ble_eq_true rfl) rfl rfl rfl (kX6_at e1 ⟨r, rfl, ?_⟩)
  show lv_Ev l g b L xs 491 (nI i) [.int r] (hp F1 A1) ce sl
  refine lv_al2 dL_law_491 ?_
  refine lv_sc (k := 1) hL hi (by decide) dL_law_492 dL_law_493 dL_law_494 dL_law_495 dL_law_496 ?_
  refine lv_sc (k := 2) hL hi (by decide) dL_law_497 dL_law_498 dL_law_499 dL_law_500 dL_law_501 ?_
  refine lv_sc (k := 3) hL hi (by decide) dL_law_502 dL_law_503 dL_law_504 dL_law_505 dL_law_506 ?_
  refine lv_callV (Mc := mX7_at) (dc := 5) (r := 75) (ci := 7) (as := [.int (xs (i + 1)), .int (xs (i + 2)), .int (xs (i + 3))]) (st := [.int r]) hc hs dL_law_507 mk_L_59 okX7_at im_X7_at se_X7_at rfl o2 rfl (by decide) (Nat.le_of_ble_eq_true rfl) rfl rfl rfl (kX7_at e2 ⟨r, rfl, ?_⟩)
  show lv_Ev l g b L xs 510 (nI i) [.int r, .int r] h2 ce sl
  exact lv_eq (tgt := 835) dL_law_510 (by decide) (kk h2 hv2)
-- case 11: fate
set_option maxRecDepth 20000 in
set_option maxHeartbeats 1000000 in
theorem lw_c11 {l : Launch} {g : ab_G} {b L : Nat} {xs : Nat → Int32} {i ce sl : Nat} {h : ab_H} (hL : L ≤ 2560) (hc : ce ≤ 600000) (hs : sl ≤ 7302249) (hi : i + 5 ≤ L) (hv : iv h) (kk : ∀ h', iv h' → lv_Ev l g b L xs 835 (nI i) [] h' ce sl) : lv_Ev l g b L xs 515 (nI i) [] h ce sl := by
  obtain ⟨r, F1, A1, h2, e1, e2, hv2⟩ := pu_fate hv (xs (i + 1))
  have o1 := iv_ob6 hv
  have o2 : ab_ob (hp F1 A1) 75 7 = some () := hp_ob (by decide +kernel)
  refine lv_al1 dL_law_515 ?_
  refine lv_sc (k := 1) hL hi (by decide) dL_law_516 dL_law_517 dL_law_518 dL_law_519 dL_law_520 ?_
  refine lv_callV (Mc := mX6_fate) (dc := 6) (r := 0) (ci := 6) (as := [.int (xs (i + 1))]) (st := []) hc hs dL_law_521 mk_L_60 okX6_fate im_X6_fate se_X6_fate rfl o1 rfl (by decide) (Nat.le_of_ble_eq_true rfl) rfl rfl rfl (kX6_fate e1 ⟨r, rfl, ?_⟩)
  show lv_Ev l g b L xs 524 (nI i) [.int r] (hp F1 A1) ce sl
  refine lv_al2 dL_law_524 ?_
  refine lv_sc (k := 1) hL hi (by decide) dL_law_525 dL_law_526 dL_law_527 dL_law_528 dL_law_529 ?_
  refine lv_callV (Mc := mX7_fate) (dc := 5) (r := 75) (ci := 7) (as := [.int (xs (i + 1))]) (st := [.int r]) hc hs dL_law_530 mk_L_63 okX7_fate im_X7_fate se_X7_fate rfl o2 rfl (by decide) (Nat.le_of_ble_eq_true rfl) rfl rfl rfl (kX7_fate e2 ⟨r, rfl, ?_⟩)
  show lv_Ev l g b L xs 533 (nI i) [.int r, .int r] h2 ce sl
  exact lv_eq (tgt := 835) dL_law_533 (by decide) (kk h2 hv2)
-- case 12: waiting
set_option maxRecDepth 20000 in
set_option maxHeartbeats 1000000 in
theorem lw_c12 {l : Launch} {g : ab_G} {b L : Nat} {xs : Nat → Int32} {i ce sl : Nat} {h : ab_H} (hL : L ≤ 2560) (hc : ce ≤ 600000) (hs : sl ≤ 7302249) (hi : i + 5 ≤ L) (hv : iv h) (kk : ∀ h', iv h' → lv_Ev l g b L xs 835 (nI i) [] h' ce sl) : lv_Ev l g b L xs 538 (nI i) [] h ce sl := by
  obtain ⟨r, F1, A1, h2, e1, e2, hv2⟩ := pu_waiting hv (xs (i + 1))
  have o1 := iv_ob6 hv
  have o2 : ab_ob (hp F1 A1) 75 7 = some () := hp_ob (by decide +kernel)
  refine lv_al1 dL_law_538 ?_
  refine lv_sc (k := 1) hL hi (by decide) dL_law_539 dL_law_540 dL_law_541 dL_law_542 dL_law_543 ?_
  refine lv_callV (Mc := mX6_waiting) (dc := 6) (r := 0) (ci := 6) (as := [.int (xs (i + 1))]) (st := []) hc hs dL_law_544 mk_L_64 okX6_waiting im_X6_waiting se_X6_waiting rfl o1 rfl (by decide) (Nat.le_of_ble_eq_true rfl) rfl rfl rfl (kX6_waiting e1 ⟨r, rfl, ?_⟩)
  show lv_Ev l g b L xs 547 (nI i) [.int r] (hp F1 A1) ce sl
  refine lv_al2 dL_law_547 ?_
  refine lv_sc (k := 1) hL hi (by decide) dL_law_548 dL_law_549 dL_law_550 dL_law_551 dL_law_552 ?_
  refine lv_callV (Mc := mX7_waiting) (dc := 5) (r := 75) (ci := 7) (as := [.int (xs (i + 1))]) (st := [.int r]) hc hs dL_law_553 mk_L_67 okX7_waiting im_X7_waiting se_X7_waiting rfl o2 rfl (by decide) (Nat.le_of_ble_eq_true rfl) rfl rfl rfl (kX7_waiting e2 ⟨r, rfl, ?_⟩)
  show lv_Ev l g b L xs 556 (nI i) [.int r, .int r] h2 ce sl
  exact lv_eq (tgt := 835) dL_law_556 (by decide) (kk h2 hv2)
-- case 13: least
set_option maxRecDepth 20000 in
set_option maxHeartbeats 1000000 in
theorem lw_c13 {l : Launch} {g : ab_G} {b L : Nat} {xs : Nat → Int32} {i ce sl : Nat} {h : ab_H} (hL : L ≤ 2560) (hc : ce ≤ 600000) (hs : sl ≤ 7302249) (hi : i + 5 ≤ L) (hv : iv h) (kk : ∀ h', iv h' → lv_Ev l g b L xs 835 (nI i) [] h' ce sl) : lv_Ev l g b L xs 561 (nI i) [] h ce sl := by
  obtain ⟨r, F1, A1, h2, e1, e2, hv2⟩ := pu_least hv (xs (i + 1)) (xs (i + 2))
  have o1 := iv_ob6 hv
  have o2 : ab_ob (hp F1 A1) 75 7 = some () := hp_ob (by decide +kernel)
  refine lv_al1 dL_law_561 ?_
  refine lv_sc (k := 1) hL hi (by decide) dL_law_562 dL_law_563 dL_law_564 dL_law_565 dL_law_566 ?_
  refine lv_sc (k := 2) hL hi (by decide) dL_law_567 dL_law_568 dL_law_569 dL_law_570 dL_law_571 ?_
  refine lv_callV (Mc := mX6_least) (dc := 4) (r := 0) (ci := 6) (as := [.int (xs (i + 1)), .int (xs (i + 2))]) (st := []) hc hs dL_law_572 mk_L_68 okX6_least im_X6_least se_X6_least rfl o1 rfl (by decide) (Nat.le_of_ble_eq_true rfl) rfl rfl rfl (kX6_least e1 ⟨r, rfl, ?_⟩)
  show lv_Ev l g b L xs 575 (nI i) [.int r] (hp F1 A1) ce sl
  refine lv_al2 dL_law_575 ?_
  refine lv_sc (k := 1) hL hi (by decide) dL_law_576 dL_law_577 dL_law_578 dL_law_579 dL_law_580 ?_
  refine lv_sc (k := 2) hL hi (by decide) dL_law_581 dL_law_582 dL_law_583 dL_law_584 dL_law_585 ?_
  refine lv_callV (Mc := mX7_least) (dc := 4) (r := 75) (ci := 7) (as := [.int (xs (i + 1)), .int (xs (i + 2))]) (st := [.int r]) hc hs dL_law_586 mk_L_71 okX7_least im_X7_least se_X7_least rfl o2 rfl (by decide) (Nat.le_of_ble_eq_true rfl) rfl rfl rfl (kX7_least e2 ⟨r, rfl, ?_⟩)
  show lv_Ev l g b L xs 589 (nI i) [.int r, .int r] h2 ce sl
  exact lv_eq (tgt := 835) dL_law_589 (by decide) (kk h2 hv2)
-- case 14: limited
set_option maxRecDepth 20000 in
set_option maxHeartbeats 1000000 in
theorem lw_c14 {l : Launch} {g : ab_G} {b L : Nat} {xs : Nat → Int32} {i ce sl : Nat} {h : ab_H} (hL : L ≤ 2560) (hc : ce ≤ 600000) (hs : sl ≤ 7302249) (hi : i + 5 ≤ L) (hv : iv h) (kk : ∀ h', iv h' → lv_Ev l g b L xs 835 (nI i) [] h' ce sl) : lv_Ev l g b L xs 594 (nI i) [] h ce sl := by
  obtain ⟨r, F1, A1, h2, e1, e2, hv2⟩ := pu_limited hv (xs (i + 1)) (xs (i + 2)) (xs (i + 3))
  have o1 := iv_ob6 hv
  have o2 : ab_ob (hp F1 A1) 75 7 = some () := hp_ob (by decide +kernel)
  refine lv_al1 dL_law_594 ?_
  refine lv_sc (k := 1) hL hi (by decide) dL_law_595 dL_law_596 dL_law_597 dL_law_598 dL_law_599 ?_
  refine lv_sc (k := 2) hL hi (by decide) dL_law_600 dL_law_601 dL_law_602 dL_law_603 dL_law_604 ?_
  refine lv_sc (k := 3) hL hi (by decide) dL_law_605 dL_law_606 dL_law_607 dL_law_608 dL_law_609 ?_
  refine lv_callV (Mc := mX6_limited) (dc := 4) (r := 0) (ci := 6) (as := [.int (xs (i + 1)), .int (xs (i + 2)), .int (xs (i + 3))]) (st := []) hc hs dL_law_610 mk_L_72 okX6_limited im_X6_limited se_X6_limited rfl o1 rfl (by decide) (Nat.le_of_ble_eq_true rfl) rfl rfl rfl (kX6_limited e1 ⟨r, rfl, ?_⟩)
  show lv_Ev l g b L xs 613 (nI i) [.int r] (hp F1 A1) ce sl
  refine lv_al2 dL_law_613 ?_
  refine lv_sc (k := 1) hL hi (by decide) dL_law_614 dL_law_615 dL_law_616 dL_law_617 dL_law_618 ?_
  refine lv_sc (k := 2) hL hi (by decide) dL_law_619 dL_law_620 dL_law_621 dL_law_622 dL_law_623 ?_
  refine lv_sc (k := 3) hL hi (by decide) dL_law_624 dL_law_625 dL_law_626 dL_law_627 dL_law_628 ?_
  refine lv_callV (Mc := mX7_limited) (dc := 5) (r := 75) (ci := 7) (as := [.int (xs (i + 1)), .int (xs (i + 2)), .int (xs (i + 3))]) (st := [.int r]) hc hs dL_law_629 mk_L_75 okX7_limited im_X7_limited se_X7_limited rfl o2 rfl (by decide) (Nat.le_of_ble_eq_true rfl) rfl rfl rfl (kX7_limited e2 ⟨r, rfl, ?_⟩)
  show lv_Ev l g b L xs 632 (nI i) [.int r, .int r] h2 ce sl
  exact lv_eq (tgt := 835) dL_law_632 (by decide) (kk h2 hv2)
-- case 15: costs
set_option maxRecDepth 20000 in
set_option maxHeartbeats 1000000 in
theorem lw_c15 {l : Launch} {g : ab_G} {b L : Nat} {xs : Nat → Int32} {i ce sl : Nat} {h : ab_H} (hL : L ≤ 2560) (hc : ce ≤ 600000) (hs : sl ≤ 7302249) (hi : i + 5 ≤ L) (hv : iv h) (kk : ∀ h', iv h' → lv_Ev l g b L xs 835 (nI i) [] h' ce sl) : lv_Ev l g b L xs 637 (nI i) [] h ce sl := by
  obtain ⟨r, e1, e2⟩ := pu_costs hv (xs (i + 1)) (xs (i + 2))
  have o1 := iv_ob6 hv
  have o2 := iv_ob7 hv
  refine lv_al1 dL_law_637 ?_
  refine lv_sc (k := 1) hL hi (by decide) dL_law_638 dL_law_639 dL_law_640 dL_law_641 dL_law_642 ?_
  refine lv_sc (k := 2) hL hi (by decide) dL_law_643 dL_law_644 dL_law_645 dL_law_646 dL_law_647 ?_
  refine lv_callV (Mc := mX6_costs) (dc := 4) (r := 0) (ci := 6) (as := [.int (xs (i + 1)), .int (xs (i + 2))]) (st := []) hc hs dL_law_648 mk_L_76 okX6_costs im_X6_costs se_X6_costs rfl o1 rfl (by decide) (Nat.le_of_ble_eq_true rfl) rfl rfl rfl (kX6_costs e1 ⟨r, rfl, ?_⟩)
  show lv_Ev l g b L xs 651 (nI i) [.int r] h ce sl
  refine lv_al2 dL_law_651 ?_
  refine lv_sc (k := 1) hL hi (by decide) dL_law_652 dL_law_653 dL_law_654 dL_law_655 dL_law_656 ?_
  refine lv_sc (k := 2) hL hi (by decide) dL_law_657 dL_law_658 dL_law_659 dL_law_660 dL_law_661 ?_
  refine lv_callV (Mc := mX7_costs) (dc := 5) (r := 75) (ci := 7) (as := [.int (xs (i + 1)), .int (xs (i + 2))]) (st := [.int r]) hc hs dL_law_662 mk_L_79 okX7_costs im_X7_costs se_X7_costs rfl o2 rfl (by decide) (Nat.le_of_ble_eq_true rfl) rfl rfl rfl (kX7_costs e2 ⟨r, rfl, ?_⟩)
  show lv_Ev l g b L xs 665 (nI i) [.int r, .int r] h ce sl
  exact lv_eq (tgt := 835) dL_law_665 (by decide) (kk h hv)
-- case 16: worst
set_option maxRecDepth 20000 in
set_option maxHeartbeats 1000000 in
theorem lw_c16 {l : Launch} {g : ab_G} {b L : Nat} {xs : Nat → Int32} {i ce sl : Nat} {h : ab_H} (hL : L ≤ 2560) (hc : ce ≤ 600000) (hs : sl ≤ 7302249) (hi : i + 5 ≤ L) (hv : iv h) (kk : ∀ h', iv h' → lv_Ev l g b L xs 835 (nI i) [] h' ce sl) : lv_Ev l g b L xs 670 (nI i) [] h ce sl := by
  obtain ⟨r, e1, e2⟩ := pu_worst hv (xs (i + 1)) (xs (i + 2)) (xs (i + 3))
  have o1 := iv_ob6 hv
  have o2 := iv_ob7 hv
  refine lv_al1 dL_law_670 ?_
  refine lv_sc (k := 1) hL hi (by decide) dL_law_671 dL_law_672 dL_law_673 dL_law_674 dL_law_675 ?_
  refine lv_sc (k := 2) hL hi (by decide) dL_law_676 dL_law_677 dL_law_678 dL_law_679 dL_law_680 ?_
  refine lv_sc (k := 3) hL hi (by decide) dL_law_681 dL_law_682 dL_law_683 dL_law_684 dL_law_685 ?_
  refine lv_callV (Mc := mX6_worst) (dc := 4) (r := 0) (ci := 6) (as := [.int (xs (i + 1)), .int (xs (i + 2)), .int (xs (i + 3))]) (st := []) hc hs dL_law_686 mk_L_80 okX6_worst im_X6_worst se_X6_worst rfl o1 rfl (by decide) (Nat.le_of_ble_eq_true rfl) rfl rfl rfl (kX6_worst e1 ⟨r, rfl, ?_⟩)
  show lv_Ev l g b L xs 689 (nI i) [.int r] h ce sl
  refine lv_al2 dL_law_689 ?_
  refine lv_sc (k := 1) hL hi (by decide) dL_law_690 dL_law_691 dL_law_692 dL_law_693 dL_law_694 ?_
  refine lv_sc (k := 2) hL hi (by decide) dL_law_695 dL_law_696 dL_law_697 dL_law_698 dL_law_699 ?_
  refine lv_sc (k := 3) hL hi (by decide) dL_law_700 dL_law_701 dL_law_702 dL_law_703 dL_law_704 ?_
  refine lv_callV (Mc := mX7_worst) (dc := 4) (r := 75) (ci := 7) (as := [.int (xs (i + 1)), .int (xs (i + 2)), .int (xs (i + 3))]) (st := [.int r]) hc hs dL_law_705 mk_L_83 okX7_worst im_X7_worst se_X7_worst rfl o2 rfl (by decide) (Nat.le_of_ble_eq_true rfl) rfl rfl rfl (kX7_worst e2 ⟨r, rfl, ?_⟩)
  show lv_Ev l g b L xs 708 (nI i) [.int r, .int r] h ce sl
  exact lv_eq (tgt := 835) dL_law_708 (by decide) (kk h hv)
-- case 17: drawn
set_option maxRecDepth 20000 in
set_option maxHeartbeats 1000000 in
theorem lw_c17 {l : Launch} {g : ab_G} {b L : Nat} {xs : Nat → Int32} {i ce sl : Nat} {h : ab_H} (hL : L ≤ 2560) (hc : ce ≤ 600000) (hs : sl ≤ 7302249) (hi : i + 5 ≤ L) (hv : iv h) (kk : ∀ h', iv h' → lv_Ev l g b L xs 835 (nI i) [] h' ce sl) : lv_Ev l g b L xs 713 (nI i) [] h ce sl := by
  obtain ⟨r, e1, e2⟩ := pu_drawn hv (xs (i + 1)) (xs (i + 2)) (xs (i + 3)) (xs (i + 4))
  have o1 := iv_ob6 hv
  have o2 := iv_ob7 hv
  refine lv_al1 dL_law_713 ?_
  refine lv_sc (k := 1) hL hi (by decide) dL_law_714 dL_law_715 dL_law_716 dL_law_717 dL_law_718 ?_
  refine lv_sc (k := 2) hL hi (by decide) dL_law_719 dL_law_720 dL_law_721 dL_law_722 dL_law_723 ?_
  refine lv_sc (k := 3) hL hi (by decide) dL_law_724 dL_law_725 dL_law_726 dL_law_727 dL_law_728 ?_
  refine lv_sc (k := 4) hL hi (by decide) dL_law_729 dL_law_730 dL_law_731 dL_law_732 dL_law_733 ?_
  refine lv_callV (Mc := mX6_drawn) (dc := 2) (r := 0) (ci := 6) (as := [.int (xs (i + 1)), .int (xs (i + 2)), .int (xs (i + 3)), .int (xs (i + 4))]) (st := []) hc hs dL_law_734 mk_L_84 okX6_drawn im_X6_drawn se_X6_drawn rfl o1 rfl (by decide) (Nat.le_of_ble_eq_true rfl) rfl rfl rfl (kX6_drawn e1 ⟨r, rfl, ?_⟩)
  show lv_Ev l g b L xs 737 (nI i) [.int r] h ce sl
  refine lv_al2 dL_law_737 ?_
  refine lv_sc (k := 1) hL hi (by decide) dL_law_738 dL_law_739 dL_law_740 dL_law_741 dL_law_742 ?_
  refine lv_sc (k := 2) hL hi (by decide) dL_law_743 dL_law_744 dL_law_745 dL_law_746 dL_law_747 ?_
  refine lv_sc (k := 3) hL hi (by decide) dL_law_748 dL_law_749 dL_law_750 dL_law_751 dL_law_752 ?_
  refine lv_sc (k := 4) hL hi (by decide) dL_law_753 dL_law_754 dL_law_755 dL_law_756 dL_law_757 ?_
  refine lv_callV (Mc := mX7_drawn) (dc := 2) (r := 75) (ci := 7) (as := [.int (xs (i + 1)), .int (xs (i + 2)), .int (xs (i + 3)), .int (xs (i + 4))]) (st := [.int r]) hc hs dL_law_758 mk_L_88 okX7_drawn im_X7_drawn se_X7_drawn rfl o2 rfl (by decide) (Nat.le_of_ble_eq_true rfl) rfl rfl rfl (kX7_drawn e2 ⟨r, rfl, ?_⟩)
  show lv_Ev l g b L xs 761 (nI i) [.int r, .int r] h ce sl
  exact lv_eq (tgt := 835) dL_law_761 (by decide) (kk h hv)
-- case 18: count
set_option maxRecDepth 20000 in
set_option maxHeartbeats 1000000 in
theorem lw_c18 {l : Launch} {g : ab_G} {b L : Nat} {xs : Nat → Int32} {i ce sl : Nat} {h : ab_H} (hL : L ≤ 2560) (hc : ce ≤ 600000) (hs : sl ≤ 7302249) (hi : i + 5 ≤ L) (hv : iv h) (kk : ∀ h', iv h' → lv_Ev l g b L xs 835 (nI i) [] h' ce sl) : lv_Ev l g b L xs 766 (nI i) [] h ce sl := by
  obtain ⟨r, F1, A1, h2, e1, e2, hv2⟩ := pu_count hv (xs (i + 1))
  have o1 := iv_ob6 hv
  have o2 : ab_ob (hp F1 A1) 75 7 = some () := hp_ob (by decide +kernel)
  refine lv_al1 dL_law_766 ?_
  refine lv_sc (k := 1) hL hi (by decide) dL_law_767 dL_law_768 dL_law_769 dL_law_770 dL_law_771 ?_
  refine lv_callV (Mc := mX6_count) (dc := 6) (r := 0) (ci := 6) (as := [.int (xs (i + 1))]) (st := []) hc hs dL_law_772 mk_L_89 okX6_count im_X6_count se_X6_count rfl o1 rfl (by decide) (Nat.le_of_ble_eq_true rfl) rfl rfl rfl (kX6_count e1 ⟨r, rfl, ?_⟩)
  show lv_Ev l g b L xs 775 (nI i) [.int r] (hp F1 A1) ce sl
  refine lv_al2 dL_law_775 ?_
  refine lv_sc (k := 1) hL hi (by decide) dL_law_776 dL_law_777 dL_law_778 dL_law_779 dL_law_780 ?_
  refine lv_callV (Mc := mX7_count) (dc := 5) (r := 75) (ci := 7) (as := [.int (xs (i + 1))]) (st := [.int r]) hc hs dL_law_781 mk_L_92 okX7_count im_X7_count se_X7_count rfl o2 rfl (by decide) (Nat.le_of_ble_eq_true rfl) rfl rfl rfl (kX7_count e2 ⟨r, rfl, ?_⟩)
  show lv_Ev l g b L xs 784 (nI i) [.int r, .int r] h2 ce sl
  exact lv_eq (tgt := 835) dL_law_784 (by decide) (kk h2 hv2)
-- case 19: image
set_option maxRecDepth 20000 in
set_option maxHeartbeats 1000000 in
theorem lw_c19 {l : Launch} {g : ab_G} {b L : Nat} {xs : Nat → Int32} {i ce sl : Nat} {h : ab_H} (hL : L ≤ 2560) (hc : ce ≤ 600000) (hs : sl ≤ 7302249) (hi : i + 5 ≤ L) (hv : iv h) (kk : ∀ h', iv h' → lv_Ev l g b L xs 835 (nI i) [] h' ce sl) : lv_Ev l g b L xs 789 (nI i) [] h ce sl := by
  obtain ⟨r, F1, A1, h2, e1, e2, hv2⟩ := pu_image hv (xs (i + 1))
  have o1 := iv_ob6 hv
  have o2 : ab_ob (hp F1 A1) 75 7 = some () := hp_ob (by decide +kernel)
  refine lv_al1 dL_law_789 ?_
  refine lv_sc (k := 1) hL hi (by decide) dL_law_790 dL_law_791 dL_law_792 dL_law_793 dL_law_794 ?_
  refine lv_callV (Mc := mX6_image) (dc := 3) (r := 0) (ci := 6) (as := [.int (xs (i + 1))]) (st := []) hc hs dL_law_795 mk_L_93 okX6_image im_X6_image se_X6_image rfl o1 rfl (by decide) (Nat.le_of_ble_eq_true rfl) rfl rfl rfl (kX6_image e1 ⟨r, rfl, ?_⟩)
  show lv_Ev l g b L xs 798 (nI i) [.int r] (hp F1 A1) ce sl
  refine lv_al2 dL_law_798 ?_
  refine lv_sc (k := 1) hL hi (by decide) dL_law_799 dL_law_800 dL_law_801 dL_law_802 dL_law_803 ?_
  refine lv_callV (Mc := mX7_image) (dc := 1) (r := 75) (ci := 7) (as := [.int (xs (i + 1))]) (st := [.int r]) hc hs dL_law_804 mk_L_96 okX7_image im_X7_image se_X7_image rfl o2 rfl (by decide) (Nat.le_of_ble_eq_true rfl) rfl rfl rfl (kX7_image e2 ⟨r, rfl, ?_⟩)
  show lv_Ev l g b L xs 807 (nI i) [.int r, .int r] h2 ce sl
  exact lv_eq (tgt := 835) dL_law_807 (by decide) (kk h2 hv2)
-- case 20: restore
set_option maxRecDepth 20000 in
set_option maxHeartbeats 1000000 in
theorem lw_c20 {l : Launch} {g : ab_G} {b L : Nat} {xs : Nat → Int32} {i ce sl : Nat} {h : ab_H} (hL : L ≤ 2560) (hc : ce ≤ 600000) (hs : sl ≤ 7302249) (hi : i + 5 ≤ L) (hv : iv h) (kk : ∀ h', iv h' → lv_Ev l g b L xs 835 (nI i) [] h' ce sl) : lv_Ev l g b L xs 812 (nI i) [] h ce sl := by
  obtain ⟨r, F1, A1, h2, e1, e2, hv2⟩ := pu_restore hv (xs (i + 1))
  have o1 := iv_ob6 hv
  have o2 : ab_ob (hp F1 A1) 75 7 = some () := hp_ob (by decide +kernel)
  refine lv_al1 dL_law_812 ?_
  refine lv_sc (k := 1) hL hi (by decide) dL_law_813 dL_law_814 dL_law_815 dL_law_816 dL_law_817 ?_
  refine lv_callV (Mc := mX6_restore) (dc := 3) (r := 0) (ci := 6) (as := [.int (xs (i + 1))]) (st := []) hc hs dL_law_818 mk_L_97 okX6_restore im_X6_restore se_X6_restore rfl o1 rfl (by decide) (Nat.le_of_ble_eq_true rfl) rfl rfl rfl (kX6_restore e1 ⟨r, rfl, ?_⟩)
  show lv_Ev l g b L xs 821 (nI i) [.int r] (hp F1 A1) ce sl
  refine lv_al2 dL_law_821 ?_
  refine lv_sc (k := 1) hL hi (by decide) dL_law_822 dL_law_823 dL_law_824 dL_law_825 dL_law_826 ?_
  refine lv_callV (Mc := mX7_restore) (dc := 1) (r := 75) (ci := 7) (as := [.int (xs (i + 1))]) (st := [.int r]) hc hs dL_law_827 mk_L_100 okX7_restore im_X7_restore se_X7_restore rfl o2 rfl (by decide) (Nat.le_of_ble_eq_true rfl) rfl rfl rfl (kX7_restore e2 ⟨r, rfl, ?_⟩)
  show lv_Ev l g b L xs 830 (nI i) [.int r, .int r] h2 ce sl
  exact lv_eq (tgt := 835) dL_law_830 (by decide) (kk h2 hv2)

set_option maxRecDepth 20000 in
set_option maxHeartbeats 4000000 in
theorem lw_loop {l : Launch} {g : ab_G} {b L : Nat} {xs : Nat → Int32} {ce sl : Nat} (hL : L ≤ 2560) (hc : ce ≤ 600000) (hs : sl ≤ 7302249) : ∀ (n i : Nat) (h : ab_H), L < i + n → iv h → i ≤ L → lv_Ev l g b L xs 18 (nI i) [] h ce sl := by
  intro n
  induction n with
  | zero => intro i h h1 _ h2; omega
  | succ n ih =>
    intro i h h1 hv h2
    refine lv_head hL (by omega) dL_law_18 dL_law_19 dL_law_20 dL_law_21 dL_law_22 dL_law_23 (fun _ => lv_end hc hs dL_law_841 dL_law_842) (fun hi => ?_)
    refine lv_sw hL hi dL_law_26 dL_law_27 dL_law_28 dL_law_29 dL_law_31 (fun x hx => ?_)
    have kk : ∀ h', iv h' → lv_Ev l g b L xs 835 (nI i) [] h' ce sl := fun h' hv' => lv_inc dL_law_835 dL_law_838 (ih (i + 5) h' (by omega) hv' (by omega))
    by_cases c0 : x = 0
    · exact lv_tabC (tgt := 132) dL_law_32 c0 (by decide) (by decide) rfl (by decide) (lw_c0 hL hc hs hi hv kk)
    by_cases c1 : x = 1
    · exact lv_tabC (tgt := 165) dL_law_32 c1 (by decide) (by decide) rfl (by decide) (lw_c1 hL hc hs hi hv kk)
    by_cases c2 : x = 2
    · exact lv_tabC (tgt := 208) dL_law_32 c2 (by decide) (by decide) rfl (by decide) (lw_c2 hL hc hs hi hv kk)
    by_cases c3 : x = 3
    · exact lv_tabC (tgt := 251) dL_law_32 c3 (by decide) (by decide) rfl (by decide) (lw_c3 hL hc hs hi hv kk)
    by_cases c4 : x = 4
    · exact lv_tabC (tgt := 294) dL_law_32 c4 (by decide) (by decide) rfl (by decide) (lw_c4 hL hc hs hi hv kk)
    by_cases c5 : x = 5
    · exact lv_tabC (tgt := 337) dL_law_32 c5 (by decide) (by decide) rfl (by decide) (lw_c5 hL hc hs hi hv kk)
    by_cases c6 : x = 6
    · exact lv_tabC (tgt := 360) dL_law_32 c6 (by decide) (by decide) rfl (by decide) (lw_c6 hL hc hs hi hv kk)
    by_cases c7 : x = 7
    · exact lv_tabC (tgt := 393) dL_law_32 c7 (by decide) (by decide) rfl (by decide) (lw_c7 hL hc hs hi hv kk)
    by_cases c8 : x = 8
    · exact lv_tabC (tgt := 416) dL_law_32 c8 (by decide) (by decide) rfl (by decide) (lw_c8 hL hc hs hi hv kk)
    by_cases c9 : x = 9
    · exact lv_tabC (tgt := 439) dL_law_32 c9 (by decide) (by decide) rfl (by decide) (lw_c9 hL hc hs hi hv kk)
    by_cases c10 : x = 10
    · exact lv_tabC (tgt := 472) dL_law_32 c10 (by decide) (by decide) rfl (by decide) (lw_c10 hL hc hs hi hv kk)
    by_cases c11 : x = 11
    · exact lv_tabC (tgt := 515) dL_law_32 c11 (by decide) (by decide) rfl (by decide) (lw_c11 hL hc hs hi hv kk)
    by_cases c12 : x = 12
    · exact lv_tabC (tgt := 538) dL_law_32 c12 (by decide) (by decide) rfl (by decide) (lw_c12 hL hc hs hi hv kk)
    by_cases c13 : x = 13
    · exact lv_tabC (tgt := 561) dL_law_32 c13 (by decide) (by decide) rfl (by decide) (lw_c13 hL hc hs hi hv kk)
    by_cases c14 : x = 14
    · exact lv_tabC (tgt := 594) dL_law_32 c14 (by decide) (by decide) rfl (by decide) (lw_c14 hL hc hs hi hv kk)
    by_cases c15 : x = 15
    · exact lv_tabC (tgt := 637) dL_law_32 c15 (by decide) (by decide) rfl (by decide) (lw_c15 hL hc hs hi hv kk)
    by_cases c16 : x = 16
    · exact lv_tabC (tgt := 670) dL_law_32 c16 (by decide) (by decide) rfl (by decide) (lw_c16 hL hc hs hi hv kk)
    by_cases c17 : x = 17
    · exact lv_tabC (tgt := 713) dL_law_32 c17 (by decide) (by decide) rfl (by decide) (lw_c17 hL hc hs hi hv kk)
    by_cases c18 : x = 18
    · exact lv_tabC (tgt := 766) dL_law_32 c18 (by decide) (by decide) rfl (by decide) (lw_c18 hL hc hs hi hv kk)
    by_cases c19 : x = 19
    · exact lv_tabC (tgt := 789) dL_law_32 c19 (by decide) (by decide) rfl (by decide) (lw_c19 hL hc hs hi hv kk)
    by_cases c20 : x = 20
    · exact lv_tabC (tgt := 812) dL_law_32 c20 (by decide) (by decide) rfl (by decide) (lw_c20 hL hc hs hi hv kk)
    exact lv_tabO (tgt := 835) dL_law_32 (by have := ab_ne (i := 0) (by decide) c0; have := ab_ne (i := 1) (by decide) c1; have := ab_ne (i := 2) (by decide) c2; have := ab_ne (i := 3) (by decide) c3; have := ab_ne (i := 4) (by decide) c4; have := ab_ne (i := 5) (by decide) c5; have := ab_ne (i := 6) (by decide) c6; have := ab_ne (i := 7) (by decide) c7; have := ab_ne (i := 8) (by decide) c8; have := ab_ne (i := 9) (by decide) c9; have := ab_ne (i := 10) (by decide) c10; have := ab_ne (i := 11) (by decide) c11; have := ab_ne (i := 12) (by decide) c12; have := ab_ne (i := 13) (by decide) c13; have := ab_ne (i := 14) (by decide) c14; have := ab_ne (i := 15) (by decide) c15; have := ab_ne (i := 16) (by decide) c16; have := ab_ne (i := 17) (by decide) c17; have := ab_ne (i := 18) (by decide) c18; have := ab_ne (i := 19) (by decide) c19; have := ab_ne (i := 20) (by decide) c20; omega) (by decide) (kk h hv)
set_option maxRecDepth 20000 in
set_option maxHeartbeats 4000000 in
theorem lw_boot {l : Launch} {g : ab_G} {b L : Nat} {xs : Nat → Int32} (hL : L ≤ 2560) {p : Program} {e : Env} {s : State} {m : MethodId} {below : List Frame} {meth : Method} {c : Code} {la : Array Slot} (C0 : lw_At p s m meth c b L xs) (hg : g.2.2 = s.heap.size) (E : ab_E g s) (hl : lv_has la 4 [(0, .ref b)]) : W p l e room_1 s m #[Value.ref b] below meth c s.heap [] 0 0 (lw_Z below #[Value.ref b] s) (F0 m 0 la []) := by
  obtain ⟨h1, F, A, e1, e0, e2, hv⟩ := pu_boot
  have hts := C0.2.2.2.2.2.1
  have hown := C0.2.2.2.2.1
  have S0 : va_S (ab_F g) s.heap s.heap [] := va_S.rf
  have W0 : ab_W g [] s.heap := ⟨by rw [hg]; rfl, fun k q hq => by simp [ab_w] at hq⟩
  have hA : ∀ q : Nat, s.heap.size ≤ q → ab_F g q := fun q h => by show g.2.2 ≤ q; omega
  -- new DiskRests
  have step : ∀ {H : Heap} {locs : List Loc} {la : Array Slot} {ce sl ci idx N pc : Nat} {C : String} {T : u_T} {h : ab_H} {fs st : List Value} (ty : Nat → FieldType), (∀ k, k < N → parseFieldDescriptor (T k).2.2.1 = some (ty k)) → decode cL_law pc = .ok (.new idx, 3) → vwCl[ci]? = some (C, T, N) → Cond.classLink RL idx C ∈ ab_tb → Cond.instantiable C N ∈ ab_tb → Cond.initialized C ∈ ab_tb → (∀ j, j < N → defaultValue (ty j) = vp_V (fs.map (ab_v g.2.2)) j) → ce + 1 ≤ 600000 → sl + N ≤ 7302249 → va_S (ab_F g) s.heap H locs → ab_W g h H →
      (∀ H1, va_S (ab_F g) s.heap H1 locs → ab_W g (h ++ [.inr (ci, fs)]) H1 → W p l e room_1 s m #[Value.ref b] below meth c H1 locs (ce + 1) (sl + N) (lw_Z below #[Value.ref b] s) (F0 m (pc + 3) la (.ref (g.2.2 + h.length) :: st))) → W p l e room_1 s m #[Value.ref b] below meth c H locs ce sl (lw_Z below #[Value.ref b] s) (F0 m pc la st) := by
    intro H locs la ce sl ci idx N pc C T h fs st ty hty hd hc hcl hins hini hfs z1 z2 S Wd kk
    obtain ⟨ty0, hC⟩ := ab_cl hc
    have hin : ∀ w ∈ u_ws C T N, w ∈ lw_tbl := fun w z => lw_tin (hC.1 w z)
    have hKn := E.1.1 ci _ hc
    refine W.newcK C0.1 C0.2.1 hown (hts _ (lw_tin hcl)) (hts _ (lw_tin hins)) (hts _ (lw_tin hini)) rfl hd z1 z2 hKn.2.1 Wd.1 fun H1 kC hkC e1 y1 o1 => ?_
    rw [← Wd.1] at y1 o1
    exact kk H1 (ab_S_push S y1 o1) (ab_W_push Wd y1 o1 ⟨_, hc, (u_born ty hts hin hKn hkC e1 hty).to hfs⟩)
  refine step (ci := 6) (fs := dfX6) tyX6 tyX6_ok dL_law_0 rfl cl_L_7 it_X6 in_X6 (dfX6_ok _) (Nat.le_of_ble_eq_true rfl) (Nat.le_of_ble_eq_true rfl) S0 W0 (fun H1 S1 W1 => ?_)
  refine lv_dup C0.1 C0.2.1 dL_law_3 rfl ?_
  have hR6 : (ab_R 3 74 1025).frames + 1 ≤ room_1.frames ∧ 8 + (mX6_init.2.2.2.1 + 11) + (ab_R 3 74 1025).locals ≤ room_1.locals := by decide
  have hr6 : va_Run p l e room_1 s m #[Value.ref b] below meth c H1 [] 1 5 74 1025 (F0 m 4 la [.ref (g.2.2 + 0), .ref (g.2.2 + 0)]) [.ref (g.2.2 + 0)] (ab_Q g (fun v h' => v = none ∧ h' = h1) (Value.ref (g.2.2 + 0) :: []).toArray) (ab_F g) :=
    va_runI (b := g.2.2 + 0) (As := []) ⟨C0.1, C0.2.1, C0.2.2.2.1, hown, hts⟩ (kX6_init (K := fun v h' => v = none ∧ h' = h1) e1 ⟨rfl, rfl⟩) ⟨callB_of 0 hts (lw_gi okX6_init.1) rfl rfl rfl (hts _ (lw_tin in_X6)) (hts _ (lw_tin mk_L_9)) ⟨okX6_init.2.2.1.1, okX6_init.2.2.1.2, okX6_init.2.2.2.1⟩ hR6, rfl, hts _ (lw_tin im_X6_init)⟩ ⟨ab_blind, ab_pre (vs := [.ref 0]) E W1⟩ rfl rfl hl.1 rfl (Nat.le_of_ble_eq_true rfl) dL_law_4 ⟨Nat.le_of_ble_eq_true rfl, Nat.le_of_ble_eq_true rfl⟩
  refine ab_fin hr6 S1 (fun v h' H2 locs2 hK W2 S2 => ?_)
  obtain ⟨rfl, rfl⟩ := hK
  show W p l e room_1 s m #[Value.ref b] below meth c H2 locs2 75 1030 (lw_Z below #[Value.ref b] s) (F0 m 7 la [.ref (g.2.2 + 0)])
  refine lv_astore_n (lv' := [(1, .ref (g.2.2 + 0)), (0, .ref b)]) C0.1 C0.2.1 dL_law_7 rfl hl (by decide) rfl (fun la hl => ?_)
  refine step (ci := 7) (fs := dfX7) tyX7 tyX7_ok dL_law_8 rfl cl_L_10 it_X7 in_X7 (dfX7_ok _) (Nat.le_of_ble_eq_true rfl) (Nat.le_of_ble_eq_true rfl) S2 W2 (fun H3 S3 W3 => ?_)
  rw [e0]
  refine lv_dup C0.1 C0.2.1 dL_law_11 rfl ?_
  have hR7 : (ab_R 1 25 875).frames + 1 ≤ room_1.frames ∧ 8 + (mX7_init.2.2.2.1 + 11) + (ab_R 1 25 875).locals ≤ room_1.locals := by decide
  have hr7 : va_Run p l e room_1 s m #[Value.ref b] below meth c H3 locs2 76 1061 25 875 (F0 m 12 la [.ref (g.2.2 + 75), .ref (g.2.2 + 75)]) [.ref (g.2.2 + 75)] (ab_Q g (fun v h' => v = none ∧ h' = hp F A) (Value.ref (g.2.2 + 75) :: []).toArray) (ab_F g) :=
    va_runI (b := g.2.2 + 75) (As := []) ⟨C0.1, C0.2.1, C0.2.2.2.1, hown, hts⟩ (kX7_init (K := fun v h' => v = none ∧ h' = hp F A) e2 ⟨rfl, rfl⟩) ⟨callB_of 0 hts (lw_gi okX7_init.1) rfl rfl rfl (hts _ (lw_tin in_X7)) (hts _ (lw_tin mk_L_12)) ⟨okX7_init.2.2.1.1, okX7_init.2.2.1.2, okX7_init.2.2.2.1⟩ hR7, rfl, hts _ (lw_tin im_X7_init)⟩ ⟨ab_blind, ab_pre (vs := [.ref 75]) E W3⟩ rfl rfl hl.1 rfl (Nat.le_of_ble_eq_true rfl) dL_law_12 ⟨Nat.le_of_ble_eq_true rfl, Nat.le_of_ble_eq_true rfl⟩
  refine ab_fin hr7 S3 (fun v h' H4 locs4 hK W4 S4 => ?_)
  obtain ⟨rfl, rfl⟩ := hK
  show W p l e room_1 s m #[Value.ref b] below meth c H4 locs4 101 1936 (lw_Z below #[Value.ref b] s) (F0 m 15 la [.ref (g.2.2 + 75)])
  refine lv_astore_n (lv' := [(2, .ref (g.2.2 + 75)), (1, .ref (g.2.2 + 0)), (0, .ref b)]) C0.1 C0.2.1 dL_law_15 rfl hl (by decide) rfl (fun la hl => ?_)
  refine lv_iconst (v := nI 0) C0.1 C0.2.1 dL_law_16 (by decide) ?_
  refine lv_istore_n (lv' := [(3, .int (nI 0)), (2, .ref (g.2.2 + 75)), (1, .ref (g.2.2 + 0)), (0, .ref b)]) C0.1 C0.2.1 dL_law_17 rfl hl (by decide) rfl (fun la hl => ?_)
  exact lw_loop hL (Nat.le_of_ble_eq_true rfl) (Nat.le_of_ble_eq_true rfl) (L + 1) 0 (hp F A) (by omega) hv (Nat.zero_le L) p e s m below meth c H4 locs4 la C0 hg E S4 W4 (lv_sub hl [3, 2, 1, 0] rfl)
theorem lw_kn {s : State} {args : Array Value} (hts : ∀ w ∈ lw_tbl, w.before args s = true) (ci : Nat) {C : String} {T : u_T} {N : Nat} (hc : vwCl[ci]? = some (C, T, N)) (hi : Cond.instantiable C N ∈ ab_tb) : ∃ (cC : ClassId) (iS : Nat → Nat), u_Kn s C T N cC iS := by
  obtain ⟨ty0, hC⟩ := ab_cl hc
  exact u_known hts (fun w z => lw_tin (hC.1 w z)) (hts _ (lw_tin hi))
set_option maxRecDepth 20000 in
set_option maxHeartbeats 4000000 in
theorem lw_env {s : State} {args : Array Value} (hts : ∀ w ∈ lw_tbl, w.before args s = true) : ∃ g : ab_G, g.2.2 = s.heap.size ∧ ab_E g s := by
  obtain ⟨c0, i0, k0⟩ := lw_kn hts 0 rfl it_X0
  obtain ⟨c1, i1, k1⟩ := lw_kn hts 1 rfl it_X1
  obtain ⟨c2, i2, k2⟩ := lw_kn hts 2 rfl it_X2
  obtain ⟨c3, i3, k3⟩ := lw_kn hts 3 rfl it_X3
  obtain ⟨c4, i4, k4⟩ := lw_kn hts 4 rfl it_X4
  obtain ⟨c5, i5, k5⟩ := lw_kn hts 5 rfl it_X5
  obtain ⟨c6, i6, k6⟩ := lw_kn hts 6 rfl it_X6
  obtain ⟨c7, i7, k7⟩ := lw_kn hts 7 rfl it_X7
  have hx : ab_X s := fun w hw => by
    have h1 := hts w (List.mem_append_right _ (List.mem_filter.mp hw).1)
    have h2 := (List.mem_filter.mp hw).2
    match w, h1, h2 with
    | .fieldLinkNest .., h1, _ => exact va_Nw.of rfl h1
    | .methodLinkNest .., h1, _ => exact va_Nw.of rfl h1
    | .arrayOver (.object C), h1, _ => exact va_AO.of (C := C) h1
  obtain ⟨aI, kI, pI, a1, a2, a3⟩ := Cond.arrayClass_spec (hts _ (lw_tin ac_int))
  obtain ⟨aZ, kZ, pZ, z1, z2, z3⟩ := Cond.arrayClass_spec (hts _ (lw_tin ac_boolean))
  obtain ⟨p5, a5, y5, s1, s2, s3, s4, s5⟩ := Cond.arrayOver_spec (hx _ ao_X5)
  obtain ⟨p1, a1', y1, d1, d2, d3, d4, d5⟩ := Cond.arrayOver_spec (hx _ ao_X1)
  obtain ⟨p0, a0', y0, e1, e2, e3, e4, e5⟩ := Cond.arrayOver_spec (hx _ ao_X0)
  refine ⟨((fun k => match k with
    | 0 => c0
    | 1 => c1
    | 2 => c2
    | 3 => c3
    | 4 => c4
    | 5 => c5
    | 6 => c6
    | _ => c7, fun k => match k with
    | 0 => i0
    | 1 => i1
    | 2 => i2
    | 3 => i3
    | 4 => i4
    | 5 => i5
    | 6 => i6
    | _ => i7), (fun k => match k with
    | 0 => aI
    | 1 => aZ
    | 2 => a5
    | 3 => a1'
    | _ => a0'), s.heap.size), rfl, ⟨fun k q hq => ?_, fun k q hq => ?_⟩, hx, Nat.le_refl _⟩
  · match k, hq with
    | 0, hq => cases hq; exact k0
    | 1, hq => cases hq; exact k1
    | 2, hq => cases hq; exact k2
    | 3, hq => cases hq; exact k3
    | 4, hq => cases hq; exact k4
    | 5, hq => cases hq; exact k5
    | 6, hq => cases hq; exact k6
    | 7, hq => cases hq; exact k7
    | k + 8, hq => simp [vwCl] at hq
  · match k, hq with
    | 0, hq => cases hq; exact ⟨fun n z => ⟨fun k h => (by cases h), kI, a2, pI, a3⟩, a1⟩
    | 1, hq => cases hq; exact ⟨fun n z => ⟨fun k h => (by cases h), kZ, z2, pZ, z3⟩, z1⟩
    | 2, hq => cases hq; exact ⟨fun n z => ⟨fun k h => (by cases h), y5, s3, p5, s4⟩, y5, p5, s3, s4, s1, s5⟩
    | 3, hq => cases hq; exact ⟨fun n z => ⟨fun k h => (by cases h), y1, d3, p1, d4⟩, y1, p1, d3, d4, d1, d5⟩
    | 4, hq => cases hq; exact ⟨fun n z => ⟨fun k h => (by cases h), y0, e3, p0, e4⟩, y0, p0, e3, e4, e1, e5⟩
    | k + 5, hq => simp [ab_ty] at hq
/-- THE LAW, from its entry -/
theorem whole_start {p : Program} {e : Env} {s : State} {m : MethodId} {below : List Frame} {meth : Method} {c : Code} (l : Launch) (hflags : l.flags = flags0) {b L : Nat} {xs : Nat → Int32} (hL : L ≤ 2560) (C0 : lw_At p s m meth c b L xs) : W p l e room_1 s m #[Value.ref b] below meth c s.heap [] 0 0 (lw_Z below #[Value.ref b] s) (entryFrame m ([Value.ref b] : List Value).toArray 4) := by
  obtain ⟨g, hg, E⟩ := lw_env C0.2.2.2.2.2.1
  have hl := lv_entry ([.ref b]) (n := 4) (Nat.le_of_ble_eq_true rfl)
  rw [lg_entry_eq]
  exact lw_boot hL C0 hg E hl
-- ===== YOUR PART ENDS =====
set_option maxHeartbeats 4000000 in
theorem lw_walk (l : Launch) (hflags : l.flags = flags0) (b : Addr) (xs : List Int32) : MetFree l x (headSpec (Jvm.Cond.code x code maxLocals ret :: tables_1) room_1) (lw_P b xs) (fun _ _ _ _ _ => True) lw_Q := by
  refine MetFree.of_bodyS (code := code) (maxLocals := maxLocals) (ret := ret) (by decide) ?_ ?_
  · intro args s m h hn
    obtain ⟨meth, c, h1, h2, h3, h4, h5, h6, -, -⟩ := Cond.code_spec hn (atoms_spec (ws := Jvm.Cond.code x code maxLocals ret :: tables_1) h _ List.mem_cons_self)
    exact ⟨meth, c, h1, h2, h3, h4, h5, h6⟩
  · intro p e s m args below meth c s₁ B hml0 hP _
    obtain ⟨rfl, hx, hbd, hgv⟩ := hP
    obtain ⟨scr, harrAt, hlist, hof, hsmall⟩ := hx
    obtain ⟨hcb, hkn, -, -⟩ := State.arrayAt?_spec harrAt
    have hown : s.vm.findClass R_law = some m.cls := findClass_of_methodNamed B.named
    have hts0 : ∀ c ∈ (Jvm.Cond.code x code maxLocals ret :: tables_1), c.before #[Value.ref b] s = true := atoms_spec (ws := Jvm.Cond.code x code maxLocals ret :: tables_1) B.pre
    have hts : ∀ w ∈ lw_tbl, w.before #[Value.ref b] s = true := k2_hts_sels lw_privs (fun w hw => hts0 w (List.mem_cons_of_mem _ hw)) lw_privs_ok
    have hml : c.maxLocals = 4 := B.maxLocals_eq (hts0 _ List.mem_cons_self)
    have X₀ : Stand p l e room_1 s m #[Value.ref b] below meth c s₁ [] 0 0 := Stand.of_body B
    have hh0 : s₁.heap = s.heap := by rw [B.state]; rfl
    have hsz : scr.slots.size = xs.length := by rw [← Array.length_toList, hlist, List.length_map]
    have hval : ∀ j : Nat, j < xs.length → scr.slots[j]? = some (.int (xs.getD j 0)) := fun j hj => by
      rw [← Array.getElem?_toList, hlist]
      simp [hj]
    have hbl : b < s.heap.size := (Array.getElem?_eq_some_iff.mp hcb).1
    have hX : va_X b xs.length (fun j => xs.getD j 0) s s.heap := ⟨scr, hcb, hof, hkn, hsz, hval⟩
    have K : W p l e room_1 s m #[Value.ref b] below meth c s₁.heap [] 0 0 (lw_Z below #[Value.ref b] s) (entryFrame m ([Value.ref b] : List Value).toArray 4) := by
      rw [hh0]
      exact whole_start l hflags hbd ⟨B.exec, B.bytes, B.returns, hml, hown, hts, hX, hbl, B.notSynchronized, hgv⟩
    obtain ⟨t, a1, o, b1, b2, b3⟩ := K s₁ rfl X₀
    exact ⟨t, o, a1, b1, b2, b3⟩
theorem lw_pre_spec {args : Array Value} {s : State} (h : (Jvm.Cond.and given_1 narrow_1).before args s = true) (hr : rest_1_c.before args s = true) : ∃ (b : Addr) (xs : List Int32), lw_P b xs args s := by
  have hs := flat_of_before _ h
  have hq := flat_of_before _ hr
  have hc : (Cond.count 1).before args s = true := hs _ (by decide +kernel)
  have harr : (Cond.arrayOf (.arg 0) .int).before args s = true := hs _ (by decide +kernel)
  have hle : (Cond.le (.length (.arg 0)) (.int 2560)).before args s = true := hs _ (by decide +kernel)
  have hlen : (Cond.isInt (.length (.arg 0))).before args s = true := hq _ (by decide +kernel)
  have hall : (Cond.all (.arg 0) (.isInt (.elem (.arg 0) (.index 0)))).before args s = true := hq _ (by decide +kernel)
  obtain ⟨b, xs, hb, hx⟩ := State.ints_of_pre rfl harr hlen hall
  have hsm : xs.length < 2 ^ 31 := hx.choose_spec.2.2.2
  have hev : (Term.length (.arg 0)).eval args s none [] s = some (.int xs.length.toInt32) := hx.length_eval hb
  have hv := Cond.le_ints hev (show (Term.int 2560).eval args s none [] s = some (.int 2560) from rfl)
  have hd : xs.length.toInt32 ≤ 2560 := by
    simpa [Cond.before, Cond.holds, hv] using hle
  have hN : xs.length ≤ 2560 := (Int32.ofNat_le_ofNat hsm (by decide)).mp (show Int32.ofNat xs.length ≤ Int32.ofNat 2560 from hd)
  exact ⟨b, xs, Cond.one_arg hc (show args[0]? = some (.ref b) from hb), hx, hN, h⟩
theorem lw_comes (l : Launch) (hflags : l.flags = flags0) : Comes l x (Jvm.Cond.code x code maxLocals ret :: tables_1) room_1 (fun tb e args s => Calls_1 tb e args s ∧ rest_1 tb e args s ∧ Pre_1 tb e args s)
    (fun _ _ args s o t => lw_Q args s o t) := by
  intro p e ha hc hk s m args below hf hfit hheap happ hpre
  obtain ⟨b, xs, hP⟩ := lw_pre_spec hpre.2.2 hpre.2.1
  obtain ⟨k, o, h1, h2, h3, hQ⟩ := lw_walk l hflags b xs p e ha hc hk s m args below hf ((Spec.applies_iff_loose hf).mp happ).1 hP trivial
  exact ⟨k, o, h1, h2, h3, hQ⟩
theorem lw_frame {s t : State} {o : Outcome} {args : Array Value} (h : Framed s o t [] 600000 7302249) :
    Framed s o t (fieldLocs frame_1_writes args s ++ arrayLocs frame_1_arrays args s ++ staticLocs frame_1_statics s) 600000 7302249 := h
theorem lw_limb (L : Cond) (hL : ∀ (args : Array Value) (s t : State), L.after args s (.returned (some (.int 1))) t = true) :
    ArmFor flags0 classFile x code maxLocals ret World_1 tables_1 room_1 Calls_1 rest_1 Pre_1
      (fun tb e a s o t => postC L tb e a s o t ∧ Framed s o t (fieldLocs frame_1_writes a s ++ arrayLocs frame_1_arrays a s ++ staticLocs frame_1_statics s) 600000 7302249) := by
  intro l hflags _ _ p e ha hc hk s m args below hf hfit hheap happ hpre
  obtain ⟨k, o, h1, h2, h3, rfl, hF⟩ := lw_comes l hflags p e ha hc hk s m args below hf hfit hheap happ hpre
  exact ⟨k, _, h1, h2, h3, hL args s _, lw_frame hF⟩
theorem i_vc : Claimed_1_1 ∧ Claimed_1_2 := ⟨lw_limb limb_1_1 (fun args s t => by simp [limb_1_1, Cond.after, Cond.holds, Cond.value]), lw_limb limb_1_2 (fun args s t => Cond.after_iff.mpr (by
  first | (rw [show limb_1_2 = Cond.eq .result (.int 1) from rfl, Cond.eq_ints (x := 1) (y := 1) rfl rfl]; simp; done) | (simp [limb_1_2, Cond.value, Term.eval]; done)))⟩

