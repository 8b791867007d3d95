/-! WHICH GAPS ARE SLEPT THROUGH, if few of a day are -/
theorem sm_lt {f g : Nat → Nat} {i : Nat} : ∀ n, (∀ k, k < n → f k ≤ g k) → i < n → f i < g i → smN f n < smN g n
  | 0, _, h, _ => by omega
  | n + 1, h, hi, hl => by
    rw [smN, smN]
    by_cases hin : i = n
    · subst hin
      have := sm_le i (fun k hk => h k (by omega))
      omega
    · have := sm_lt n (fun k hk => h k (by omega)) (by omega) hl
      have := h n (by omega)
      omega
theorem sm_one {f g : Nat → Nat} {b v : Nat} : ∀ n, b < n → (∀ k, k < n → k ≠ b → g k = f k) → g b = f b + v → smN g n = smN f n + v
  | 0, h, _, _ => by omega
  | n + 1, hb, h, hv => by
    rw [smN, smN]
    by_cases hbn : b = n
    · subst hbn
      rw [sm_eq b (fun k hk => h k (by omega) (by omega)), hv]
      omega
    · rw [sm_one n (by omega) (fun k hk hkb => h k (by omega) hkb) hv, h n (by omega) (by omega)]
      omega
abbrev bet (sv dy : Nat → Nat) (i k : Nat) : Prop := (sv i < sv k ∨ (sv k = sv i ∧ k < i)) ∧ dy k = dy i
def rkN (sv dy : Nat → Nat) (N i : Nat) : Nat := smN (fun k => if bet sv dy i k then 1 else 0) N
def stl (sv dy : Nat → Nat) (N n : Nat) (X : Nat → Bool) (i : Nat) : Prop := (X i = true → rkN sv dy N i < n) ∧ (rkN sv dy N i < n → X i = true ∨ sv i = 0)
def cnX (dy : Nat → Nat) (N o : Nat) (X : Nat → Bool) : Nat := smN (fun k => if dy k = o ∧ X k = true then 1 else 0) N
def inG (sv dy : Nat → Nat) (N n o : Nat) (X : Nat → Bool) (j : Nat) : Prop :=
  (∀ i k, i < N → k < N → dy i = o → X i = true → bet sv dy i k → X k = true) ∧ cnX dy N o X = j ∧ (∀ i, i < N → dy i < o → stl sv dy N n X i) ∧ (∀ i, i < N → o < dy i → X i = false)
def upB (X : Nat → Bool) (b : Nat) : Nat → Bool := fun k => if k = b then true else X k
def sxN (sv : Nat → Nat) (N : Nat) (X : Nat → Bool) : Nat := smN (fun k => if X k = true then sv k else 0) N
section
variable {sv dy : Nat → Nat} {N n o j : Nat} {X : Nat → Bool}
theorem g_exit (h : inG sv dy N n o X j) (hj : j ≤ n) (he : j = n ∨ ∀ i, i < N → X i = false → dy i = o → sv i = 0) : ∀ i, i < N → dy i < o + 1 → stl sv dy N n X i := by
  obtain ⟨h1, h2, h3, h4⟩ := h
  intro i hi hd
  by_cases hdo : dy i < o
  · exact h3 i hi hdo
  have hdi : dy i = o := by omega
  cases hX : X i with
  | true =>
    refine ⟨fun _ => ?_, fun _ => Or.inl hX⟩
    have : rkN sv dy N i < cnX dy N o X := by
      refine sm_lt (i := i) N (fun k hk => ?_) hi ?_
      · by_cases hb : bet sv dy i k
        · have hk2 := h1 i k hi hk hdi hX hb
          have hk3 := hb.2
          rw [if_pos hb, if_pos ⟨by omega, hk2⟩]
          exact Nat.le_refl _
        · rw [if_neg hb]
          exact Nat.zero_le _
      · rw [if_neg (by unfold bet; omega), if_pos ⟨hdi, hX⟩]
        omega
    omega
  | false =>
    refine ⟨fun h => absurd (hX.symm.trans h) (by decide), fun hr => Or.inr ?_⟩
    rcases he with he | he
    · have : cnX dy N o X ≤ rkN sv dy N i := by
        refine sm_le N (fun k hk => ?_)
        by_cases hc : dy k = o ∧ X k = true
        · rw [if_pos hc]
          have hb : bet sv dy i k := by
            by_cases hb2 : bet sv dy k i
            · have := h1 k i hk hi hc.1 hc.2 hb2
              rw [hX] at this
              cases this
            · have hki : k ≠ i := fun e => by
                rw [e, hX] at hc
                cases hc.2
              unfold bet at hb2 ⊢
              omega
          rw [if_pos hb]
          exact Nat.le_refl _
        · rw [if_neg hc]
          exact Nat.zero_le _
      omega
    · exact he i hi hX hdi
theorem g_pick {b : Nat} (h : inG sv dy N n o X j) (hb : b < N) (hXb : X b = false) (hdb : dy b = o) (hm : ∀ k, k < N → X k = false → dy k = o → sv k ≤ sv b ∧ (k < b → sv k < sv b)) : inG sv dy N n o (upB X b) (j + 1) := by
  obtain ⟨h1, h2, h3, h4⟩ := h
  refine ⟨fun i k hi hk hdi hXi hbt => ?_, ?_, fun i hi hd => ?_, fun i hi hd => ?_⟩
  · unfold upB at hXi ⊢
    by_cases hkb : k = b
    · rw [if_pos hkb]
    rw [if_neg hkb]
    by_cases hib : i = b
    · subst hib
      cases hXk : X k with
      | true => rfl
      | false =>
        have hd2 := hbt.2
        obtain ⟨m1, m2⟩ := hm k hk hXk (by omega)
        have hb1 := hbt.1
        omega
    · rw [if_neg hib] at hXi
      exact h1 i k hi hk hdi hXi hbt
  · rw [← h2]
    refine sm_one (b := b) N hb (fun k hk hkb => ?_) ?_
    · unfold upB
      rw [if_neg hkb]
    · unfold upB
      rw [if_pos rfl, if_pos ⟨hdb, rfl⟩, if_neg (by rw [hXb]; simp)]
  · have := h3 i hi hd
    have hib : i ≠ b := fun e => by rw [e] at hd; omega
    unfold stl upB
    rw [if_neg hib]
    exact this
  · have hib : i ≠ b := fun e => by rw [e] at hd; omega
    unfold upB
    rw [if_neg hib]
    exact h4 i hi hd
theorem sx_up {b : Nat} (hb : b < N) (hXb : X b = false) : sxN sv N (upB X b) = sxN sv N X + sv b := by
  refine sm_one (b := b) N hb (fun k hk hkb => ?_) ?_
  · unfold upB
    rw [if_neg hkb]
  · unfold upB
    rw [if_pos rfl, if_pos rfl, if_neg (by rw [hXb]; simp)]
    omega
theorem sx_fin (h : ∀ i, i < N → stl sv dy N n X i) : sxN sv N X = smN (fun i => if rkN sv dy N i < n then sv i else 0) N := by
  refine sm_eq N (fun i hi => ?_)
  obtain ⟨h1, h2⟩ := h i hi
  cases hX : X i with
  | true => rw [if_pos rfl, if_pos (h1 hX)]
  | false =>
    rw [if_neg (by simp)]
    by_cases hr : rkN sv dy N i < n
    · rw [if_pos hr]
      rcases h2 hr with h | h
      · rw [hX] at h; cases h
      · exact h.symm
    · rw [if_neg hr]
end
def dst (sv dy : Nat → Nat) (o : Nat) (X : Nat → Bool) (K : Nat) (v4 : Int32) (ms : Nat) : Prop :=
  (v4 = -6 ∧ ms = 0 ∧ ∀ k, k < K → X k = false → dy k = o → sv k = 0) ∨ ∃ b, b < K ∧ v4 = nI b ∧ ms = sv b ∧ X b = false ∧ dy b = o ∧ 0 < sv b ∧ ∀ k, k < K → X k = false → dy k = o → sv k ≤ sv b ∧ (k < b → sv k < sv b)
theorem dst_keep {sv dy : Nat → Nat} {o : Nat} {X : Nat → Bool} {K : Nat} {v4 : Int32} {ms : Nat} (h : dst sv dy o X K v4 ms) (hk : X K = false → dy K = o → sv K ≤ ms) : dst sv dy o X (K + 1) v4 ms := by
  rcases h with ⟨h1, h2, h3⟩ | ⟨b, h1, h2, h3, h4, h5, h6, h7⟩
  · refine Or.inl ⟨h1, h2, fun k hk1 a1 a2 => ?_⟩
    by_cases e : k = K
    · subst e
      have := hk a1 a2
      omega
    · exact h3 k (by omega) a1 a2
  · refine Or.inr ⟨b, by omega, h2, h3, h4, h5, h6, fun k hk1 a1 a2 => ?_⟩
    by_cases e : k = K
    · subst e
      have := hk a1 a2
      omega
    · exact h7 k (by omega) a1 a2
theorem dst_take {sv dy : Nat → Nat} {o : Nat} {X : Nat → Bool} {K : Nat} {v4 : Int32} {ms : Nat} (h : dst sv dy o X K v4 ms) (a1 : X K = false) (a2 : dy K = o) (hk : ms < sv K) : dst sv dy o X (K + 1) (nI K) (sv K) := by
  refine Or.inr ⟨K, by omega, rfl, rfl, a1, a2, by omega, fun k hk1 b1 b2 => ?_⟩
  by_cases e : k = K
  · subst e
    omega
  · rcases h with ⟨h1, h2, h3⟩ | ⟨b, h1, h2, h3, h4, h5, h6, h7⟩
    · have := h3 k (by omega) b1 b2
      omega
    · have := h7 k (by omega) b1 b2
      omega
def bI (b : Bool) : Int32 := if b = true then 1 else 0
def dyN (S : bk) (d day k : Nat) : Nat := eN S d (k + 1) / day
def dn (N : Nat) (X : Nat → Bool) (A : Nat → Nat → Int32) : Prop := ∀ k, k < N → A 98 k = bI (X k)
section
variable {S : bk} {F A : Nat → Nat → Int32} {d G k day o n : Nat} {X : Nat → Bool}
theorem sv_lc (h : k + 1 < G) : svN S d G k = awN S d k - lcN S d (glN S d k) := by
  unfold svN coN
  rw [if_neg (by omega)]
theorem q_dear_l (hw : wf S) (hg : rg S F A) (hd : d < 4) (hG : gok S d G) (hq : qd S d G F A) (hX : dn (G - 1) X A) (h1 : 1 ≤ day) (h2 : day ≤ 1000) (ho : o ≤ 1000) : ∀ (j fu k : Nat) (v4 : Int32) (ms : Nat), j < fu → k + j = G - 1 → ms ≤ 100000 → dst (svN S d G) (dyN S d day) o X k v4 ms → ∃ r ms', lX7_dearest_10 (hp F A) 75 (nI d) (nI day) (nI o) fu v4 (nI ms) (nI k) = some r ∧ dst (svN S d G) (dyN S d day) o X (G - 1) r ms' := by
  obtain ⟨g1, g2, g3, g4⟩ := hG
  have epr : nI G - 1 = nI (G - 1) := by
    have := nI_pred (G - 1)
    rw [show G - 1 + 1 = G by omega] at this
    exact this
  intro j
  induction j with
  | zero =>
    intro fu k v4 ms hf hk hms hdst
    obtain ⟨f, rfl⟩ : ∃ f, fu = f + 1 := ⟨fu - 1, by omega⟩
    refine ⟨v4, ms, ?_, by rw [← show k = G - 1 by omega]; exact hdst⟩
    rw [lX7_dearest_10, gI_75_27, Option.bind_some, hq.1, epr, if_pos (nI_le (by omega) (by omega))]
  | succ j ih =>
    intro fu k v4 ms hf hk hms hdst
    obtain ⟨f, rfl⟩ : ∃ f, fu = f + 1 := ⟨fu - 1, by omega⟩
    have hg4 := gl_ok (k := k) hw (g4 k (by omega))
    obtain ⟨y96, y97⟩ := hq.2 k (by omega)
    have hgl : eN S d (k + 1) - eN S d k = glN S d k := rfl
    have ha := aw_le (k := k) hw hd hg4.2.2.2
    have hlca := lc_aw hw hd (glN S d k)
    have hsv := sv_lc (S := S) (d := d) (G := G) (k := k) (by omega)
    have hdl : eN S d (k + 1) / day ≤ eN S d (k + 1) := Nat.div_le_self _ _
    rw [lX7_dearest_10, gI_75_27, Option.bind_some, hq.1, epr, if_neg (nI_ge (by omega) (by omega)), gR_75_26, Option.bind_some, aI_97 (by omega), Option.bind_some, y97, gR_75_25, Option.bind_some, aI_96 (by omega), Option.bind_some, y96, gR_75_1, Option.bind_some, ix4_0, aI_77 (by omega), Option.bind_some, (hg.2.2.2.2.1 _ (by omega)).1, ob_75, Option.bind_some, pk_sub (by omega), hgl, q_lc hw hg hd (by omega), Option.bind_some, gR_75_28, Option.bind_some, aZ_98 (by omega), Option.bind_some, hX k (by omega), pk_mul, show S 77 (4 * d) * glN S d k = awN S d k from rfl, pk_sub (show lcN S d (glN S d k) ≤ awN S d k from hlca), ← hsv]
    unfold bX7_dearest_97
    rw [nI_1]
    cases hXk : X k with
    | true =>
      rw [if_neg (show ¬ bI true = 0 by decide)]
      exact ih f (k + 1) v4 ms (by omega) (by omega) hms (dst_keep hdst (fun h => by rw [hXk] at h; cases h))
    | false =>
      rw [if_pos (show bI false = 0 by decide), Option.bind_some, aI_97 (by omega), Option.bind_some, y97, if_neg (nz (by omega) (by omega)), pk_div (by omega) (by omega) (by omega)]
      by_cases hdo : eN S d (k + 1) / day = o
      · rw [if_pos (by rw [hdo])]
        by_cases hle : svN S d G k ≤ ms
        · rw [if_pos (nI_le hle (by omega))]
          exact ih f (k + 1) v4 ms (by omega) (by omega) hms (dst_keep hdst (fun _ _ => hle))
        · rw [if_neg (nI_ge (by omega) (by omega))]
          exact ih f (k + 1) (nI k) (svN S d G k) (by omega) (by omega) (by omega) (dst_take hdst hXk hdo (by omega))
      · rw [if_neg (fun e => hdo ((nI_eq (by omega) (by omega)).mp e))]
        exact ih f (k + 1) v4 ms (by omega) (by omega) hms (dst_keep hdst (fun _ h => absurd h hdo))
theorem q_dear (hw : wf S) (hg : rg S F A) (hd : d < 4) (hG : gok S d G) (hq : qd S d G F A) (hX : dn (G - 1) X A) (h1 : 1 ≤ day) (h2 : day ≤ 1000) (ho : o ≤ 1000) : ∃ r ms', fX7_dearest (hp F A) 75 (nI d) (nI day) (nI o) = some r ∧ dst (svN S d G) (dyN S d day) o X (G - 1) r ms' := by
  have g2 := hG.2.1
  obtain ⟨r, ms', z1, z2⟩ := q_dear_l hw hg hd hG hq hX h1 h2 ho (G - 1) ab_fu 0 (-6) 0 (by unfold ab_fu; omega) (by omega) (by omega) (Or.inl ⟨rfl, rfl, fun k hk => by omega⟩)
  refine ⟨r, ms', ?_, z2⟩
  unfold fX7_dearest
  rw [show nI 0 = 0 from rfl] at z1
  rw [z1, Option.bind_some]
theorem sx_le (hw : wf S) (hd : d < 4) (N : Nat) (X : Nat → Bool) : sxN (svN S d G) N X ≤ smN (awN S d) N := by
  refine sm_le N (fun k hk => ?_)
  unfold svN
  split <;> omega
theorem q_in {T : Nat} (hw : wf S) (hd : d < 4) (hG : gok S d G) (h1 : 1 ≤ day) (h2 : day ≤ 1000) (ho : o ≤ 1000) (hn : n ≤ 40) (hT : smN (awN S d) (G - 1) ≤ T) : ∀ (t fu j : Nat) (X : Nat → Bool) (A : Nat → Nat → Int32) (v6 : Int32), t + 1 < fu → j + t = n → ¬ v6 < 0 → rg S F A → qd S d G F A → dn (G - 1) X A → inG (svN S d G) (dyN S d day) (G - 1) n o X j →
    ∃ X' A', lX7_limited_144 75 (nI d) (nI day) (nI n) (nI o) fu (nI (T - sxN (svN S d G) (G - 1) X)) v6 (nI j) (hp F A) = some (nI (T - sxN (svN S d G) (G - 1) X'), hp F A') ∧ dn (G - 1) X' A' ∧ (∀ c, c ≠ 98 → A' c = A c) ∧ (∀ i, i < G - 1 → dyN S d day i < o + 1 → stl (svN S d G) (dyN S d day) (G - 1) n X' i) ∧ (∀ i, i < G - 1 → o < dyN S d day i → X' i = false) := by
  intro t
  induction t with
  | zero =>
    intro fu j X A v6 hf hj hv hg hq hX hI
    obtain ⟨f, rfl⟩ : ∃ f, fu = f + 1 := ⟨fu - 1, by omega⟩
    refine ⟨X, A, ?_, hX, fun _ _ => rfl, g_exit hI (by omega) (Or.inl (by omega)), hI.2.2.2⟩
    rw [lX7_limited_144, if_pos (nI_le (by omega) (by omega))]
  | succ t ih =>
    intro fu j X A v6 hf hj hv hg hq hX hI
    obtain ⟨f, rfl⟩ : ∃ f, fu = f + 1 + 1 := ⟨fu - 2, by omega⟩
    obtain ⟨r, ms, z1, z2⟩ := q_dear hw hg hd hG hq hX h1 h2 ho
    rcases z2 with ⟨e1, e2, e3⟩ | ⟨b, b1, b2, b3, b4, b5, b6, b7⟩
    · refine ⟨X, A, ?_, hX, fun _ _ => rfl, g_exit hI (by omega) (Or.inr e3), hI.2.2.2⟩
      rw [lX7_limited_144, if_neg (nI_ge (by omega) (by omega)), if_neg hv, ob_75, Option.bind_some, z1, Option.bind_some, e1, if_pos (by decide)]
      unfold bX7_limited_219
      rw [nI_1, lX7_limited_144]
      split
      · rfl
      · rw [if_pos (by decide)]
    · have hb : b < G - 1 := b1
      have g2 := hG.2.1
      have hg4 := gl_ok (k := b) hw (hG.2.2.2 b (by omega))
      obtain ⟨y96, y97⟩ := hq.2 b (by omega)
      have hgl : eN S d (b + 1) - eN S d b = glN S d b := rfl
      have hlca := lc_aw hw hd (glN S d b)
      have hsv := sv_lc (S := S) (d := d) (G := G) (k := b) (by omega)
      have hsx := sx_up (sv := svN S d G) (N := G - 1) (X := X) hb b4
      have hle := sx_le (G := G) hw hd (G - 1) (upB X b)
      have hI2 := g_pick hI hb b4 b5 b7
      have hX2 : dn (G - 1) (upB X b) (up2 A 98 b 1) := fun k hk => by
        unfold upB
        by_cases e : k = b
        · subst e
          rw [up2_eq, if_pos rfl]
          rfl
        · rw [up2_ne (by omega), if_neg e]
          exact hX k hk
      have hg2 : rg S F (up2 A 98 b 1) := hg.of rfl (fun c c1 c2 => up2_off (by omega))
      have hq2 : qd S d G F (up2 A 98 b 1) := ⟨hq.1, fun i hi => by
        rw [up2_ne (by omega), up2_ne (by omega)]
        exact hq.2 i hi⟩
      obtain ⟨X', A', w1, w2, w3, w4, w5⟩ := ih (f + 1) (j + 1) (upB X b) (up2 A 98 b 1) (nI b) (by omega) (by omega) (nI_pos (by omega)) hg2 hq2 hX2 hI2
      refine ⟨X', A', ?_, w2, fun c hc => ?_, w4, w5⟩
      · rw [lX7_limited_144, if_neg (nI_ge (by omega) (by omega)), if_neg hv, ob_75, Option.bind_some, z1, Option.bind_some, b2, if_neg (nI_pos (by omega)), gR_75_26, Option.bind_some, aI_97 (by omega), Option.bind_some, y97, gR_75_25, Option.bind_some, aI_96 (by omega), Option.bind_some, y96, gR_75_1, Option.bind_some, ix4_0, aI_77 (by omega), Option.bind_some, (hg.2.2.2.2.1 _ (by omega)).1, Option.bind_some, pk_sub (by omega), hgl, q_lc hw hg hd (by omega), Option.bind_some, gR_75_28, Option.bind_some, sZ_98 (by omega), Option.bind_some, show vp_nar .boolean 1 = (1 : Int32) by decide, pk_mul, show S 77 (4 * d) * glN S d b = awN S d b from rfl, pk_sub (show lcN S d (glN S d b) ≤ awN S d b from hlca), ← hsv, pk_sub (by omega), show T - sxN (svN S d G) (G - 1) X - svN S d G b = T - sxN (svN S d G) (G - 1) (upB X b) by omega]
        unfold bX7_limited_219
        rw [nI_1]
        exact w1
      · rw [w3 c hc, up2_off hc]
theorem dy_le (hw : wf S) (hG : gok S d G) (hk : k < G) : dyN S d day k ≤ 1000 / day := by
  have hg4 := gl_ok (k := k) hw (hG.2.2.2 k hk)
  exact Nat.div_le_div_right hg4.2.1
theorem q_out {T : Nat} (hw : wf S) (hd : d < 4) (hG : gok S d G) (h1 : 1 ≤ day) (h2 : day ≤ 1000) (hn : n ≤ 40) (hT : smN (awN S d) (G - 1) ≤ T) : ∀ (t fu o : Nat) (X : Nat → Bool) (A : Nat → Nat → Int32), t < fu → o + t = 1000 / day + 1 → rg S F A → qd S d G F A → dn (G - 1) X A → (∀ i, i < G - 1 → dyN S d day i < o → stl (svN S d G) (dyN S d day) (G - 1) n X i) → (∀ i, i < G - 1 → o ≤ dyN S d day i → X i = false) →
    ∃ X' A', lX7_limited_128 75 (nI d) (nI day) (nI n) fu (nI (T - sxN (svN S d G) (G - 1) X)) (nI o) (hp F A) = some (nI (T - sxN (svN S d G) (G - 1) X'), hp F A') ∧ (∀ c, c ≠ 98 → A' c = A c) ∧ (∀ i, i < G - 1 → stl (svN S d G) (dyN S d day) (G - 1) n X' i) := by
  have hday : 1000 / day ≤ 1000 := Nat.div_le_self _ _
  have h1000 : (1000 : Int32) / nI day = nI (1000 / day) := by
    rw [show (1000 : Int32) = nI 1000 from rfl, pk_div (by omega) (by omega) (by omega)]
  intro t
  induction t with
  | zero =>
    intro fu o X A hf ho hg hq hX hs hx
    obtain ⟨f, rfl⟩ : ∃ f, fu = f + 1 := ⟨fu - 1, by omega⟩
    refine ⟨X, A, ?_, fun _ _ => rfl, fun i hi => hs i hi ?_⟩
    · rw [lX7_limited_128, if_neg (nz (by omega) (by omega)), h1000, if_pos (nI_lt (by omega) (by omega))]
    · have := dy_le (day := day) hw hG (show i < G by omega)
      omega
  | succ t ih =>
    intro fu o X A hf ho hg hq hX hs hx
    obtain ⟨f, rfl⟩ : ∃ f, fu = f + 1 := ⟨fu - 1, by omega⟩
    have hI : inG (svN S d G) (dyN S d day) (G - 1) n o X 0 := by
      refine ⟨fun i k hi hk hdi hXi _ => ?_, ?_, hs, fun i hi hd => hx i hi (by omega)⟩
      · have := hx i hi (by omega)
        rw [hXi] at this
        cases this
      · have e : cnX (dyN S d day) (G - 1) o X = smN (fun _ => 0) (G - 1) := sm_eq _ (fun k hk => by
          rw [if_neg]
          rintro ⟨c1, c2⟩
          have := hx k hk (by omega)
          rw [c2] at this
          cases this)
        have z : ∀ n, smN (fun _ => 0) n = 0 := fun n => by
          induction n with
          | zero => rfl
          | succ n ih => rw [smN, ih]
        rw [e, z]
    obtain ⟨X1, A1, w1, w2, w3, w4, w5⟩ := q_in (F := F) hw hd hG h1 h2 (show o ≤ 1000 by omega) hn hT n ab_fu 0 X A 0 (by unfold ab_fu; omega) (by omega) (by decide) hg hq hX hI
    obtain ⟨X', A', v1, v2, v3⟩ := ih f (o + 1) X1 A1 (by omega) (by omega) (hg.of rfl (fun c c1 c2 => w3 c (by omega))) ⟨hq.1, fun i hi => by
      rw [w3 96 (by omega), w3 97 (by omega)]
      exact hq.2 i hi⟩ w2 w4 (fun i hi hd => w5 i hi (by omega))
    refine ⟨X', A', ?_, fun c hc => (v2 c hc).trans (w3 c hc), v3⟩
    rw [show nI 0 = 0 from rfl] at w1
    rw [lX7_limited_128, if_neg (nz (by omega) (by omega)), h1000, if_neg (nI_nlt (by omega) (by omega)), w1, Option.bind_some]
    unfold bX7_limited_225
    rw [nI_1]
    exact v1
theorem q_71 {v2 v3 : Int32} {c0 : Nat} (hw : wf S) (hd : d < 4) (hG : gok S d G) : ∀ (j fu k : Nat) (A : Nat → Nat → Int32), j < fu → k + j = G - 1 → rg S F A → qd S d G F A → dn k (fun _ => false) A → ∃ A', lX7_limited_71 75 (nI d) v2 v3 fu (nI (c0 + smN (awN S d) k)) (nI k) (hp F A) = some (nI (c0 + smN (awN S d) (G - 1)), hp F A') ∧ dn (G - 1) (fun _ => false) A' ∧ (∀ c, c ≠ 98 → A' c = A c) := by
  obtain ⟨g1, g2, g3, g4⟩ := hG
  have epr : nI G - 1 = nI (G - 1) := by
    have := nI_pred (G - 1)
    rw [show G - 1 + 1 = G by omega] at this
    exact this
  intro j
  induction j with
  | zero =>
    intro fu k A hf hk hg hq hX
    obtain ⟨f, rfl⟩ : ∃ f, fu = f + 1 := ⟨fu - 1, by omega⟩
    have e : k = G - 1 := by omega
    subst e
    refine ⟨A, ?_, hX, fun _ _ => rfl⟩
    rw [lX7_limited_71, gI_75_27, Option.bind_some, hq.1, epr, if_pos (nI_le (by omega) (by omega))]
  | succ j ih =>
    intro fu k A hf hk hg hq hX
    obtain ⟨f, rfl⟩ : ∃ f, fu = f + 1 := ⟨fu - 1, by omega⟩
    have hg4 := gl_ok (k := k) hw (g4 k (by omega))
    obtain ⟨y96, y97⟩ := hq.2 k (by omega)
    have hgl : eN S d (k + 1) - eN S d k = glN S d k := rfl
    obtain ⟨A', w1, w2, w3⟩ := ih f (k + 1) (up2 A 98 k 0) (by omega) (by omega) (hg.of rfl (fun c c1 c2 => up2_off (by omega))) ⟨hq.1, fun i hi => by
      rw [up2_ne (by omega), up2_ne (by omega)]
      exact hq.2 i hi⟩ (fun i hi => by
      by_cases e : i = k
      · subst e
        rw [up2_eq]
        rfl
      · rw [up2_ne (by omega)]
        exact hX i (by omega))
    refine ⟨A', ?_, w2, fun c hc => ?_⟩
    · rw [smN, ← Nat.add_assoc] at w1
      rw [lX7_limited_71, gI_75_27, Option.bind_some, hq.1, epr, if_neg (nI_ge (by omega) (by omega)), gR_75_1, Option.bind_some, ix4_0, aI_77 (by omega), Option.bind_some, (hg.2.2.2.2.1 _ (by omega)).1, gR_75_26, Option.bind_some, aI_97 (by omega), Option.bind_some, y97, gR_75_25, Option.bind_some, aI_96 (by omega), Option.bind_some, y96, gR_75_28, Option.bind_some, sZ_98 (by omega), Option.bind_some, show vp_nar .boolean 0 = (0 : Int32) by decide, pk_sub (by omega), hgl, pk_mul, show S 77 (4 * d) * glN S d k = awN S d k from rfl, nI_add, nI_1]
      exact w1
    · rw [w3 c hc, up2_off hc]
end
