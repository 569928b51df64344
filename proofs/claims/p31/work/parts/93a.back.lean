/-! PURE: the fewest duties told from the end, by a function of the row; blocking all trips, by a function of the row. -/
theorem lastc_bf0 {T : Nat → Int32} {n s : Nat} (hI : Inv T n) (hs : s < n) (hb : bf T n s = none) : lastc (bf T n) (lastc (nx T) s) = s := by rw [lastc_bf hI hs, lastc_none hb]
/-- what is known of the trips behind, from o to the first trip -/
def bkA (T : Nat → Int32) (n : Nat) : Nat → Option Nat → (Nat → Int32) → Nat → Int32
  | 0, _, A => A
  | _ + 1, none, A => A
  | f + 1, some t, A => bkA T n f (bf T n t) (upd A t (fs T A t))
def bkv (T : Nat → Int32) (n s : Nat) : Int32 := bkA T n 20 (some (lastc (nx T) s)) (fun _ => 0) s
theorem bk_loop {h : HP} {T : Nat → Int32} {n s : Nat} (hR : RT h.1 0 T n) (hI : Inv T n) (hs : s < n) (hb : bf T n s = none) : ∀ (N f c : Nat) (o : Option Nat) (h' : HP) (A : Nat → Int32), okO n o → c + (cho (bf T n) o).length ≤ 20 → (cho (bf T n) o).length < N → (cho (bf T n) o).length ≤ f → (∀ c', c' ≠ 17 → h'.1 c' = h.1 c') →
    (∀ k ∈ (match o with | none => ch (nx T) s | some t => cho (nx T) (nx T t)), h'.1 17 k = A k) → (∀ t, o = some t → lastc (bf T n) t = s) →
    itrp (s_U_fewestBackward_11 h (nI s)) (ps_U_fewestBackward_11 h (nI s)) N (eo o, nI c, h') ∧ ∃ r, itr (s_U_fewestBackward_11 h (nI s)) N (eo o, nI c, h') = some r ∧ r.2.2.1 17 s = bkA T n f o A s ∧ ∀ c', c' ≠ 17 → r.2.2.1 c' = h.1 c' := by
  intro N
  induction N with
  | zero => intro _ _ _ _ _ _ _ h1; exact absurd h1 (Nat.not_lt_zero _)
  | succ N ih =>
    intro f c o h' A ho hc hN hf k1 k4 k5
    have h20 := hI.n20
    have hR' : RT h'.1 0 T n := hR.congr (fun j hj => k1 _ (by omega))
    cases o with
    | none =>
      have e : s_U_fewestBackward_11 h (nI s) (eo none, nI c, h') = .inr (eo none, nI c, h') := by
        show (if nI c < nI 20 then (if eo none = -1 then _ else _) else _) = _
        rw [if_pos (show eo none = -1 from rfl), ite_self]
      refine ⟨⟨⟨fun _ => ⟨fun _ => trivial, fun z => absurd rfl z⟩, fun _ => trivial⟩, fun v hv => by rw [e] at hv; cases hv⟩, (eo none, nI c, h'), by rw [itr, e], ?_, k1⟩
      have h1 : h'.1 17 s = A s := k4 s (by show s ∈ ch (nx T) s; rw [ch_step hI.fw hs]; exact List.mem_cons_self)
      rw [show (bkA T n f none A) = A by cases f <;> rfl]
      exact h1
    | some t =>
      have ht := ho t rfl
      rw [cho_some hI.bw ht] at hc hN hf
      have hc' : c + ((cho (bf T n) (bf T n t)).length + 1) ≤ 20 := hc
      have hN' : (cho (bf T n) (bf T n t)).length + 1 < N + 1 := hN
      have hf' : (cho (bf T n) (bf T n t)).length + 1 ≤ f := hf
      obtain ⟨f, rfl⟩ : ∃ f', f = f' + 1 := ⟨f - 1, by omega⟩
      have hR2 : RT (am_si h' 17 t (fs T (h'.1 17) t)).1 0 T n := hR'.congr (fun j hj => am_si_ne (by omega))
      have e : s_U_fewestBackward_11 h (nI s) (eo (some t), nI c, h') = .inl (eo (bf T n t), nI (c + 1), am_si h' 17 t (fs T (h'.1 17) t)) := by
        show (if nI c < nI 20 then (if nI t = -1 then _ else Sum.inl (v_at 20 ((v_put 20 h' 17 (nI t) (v_U_fewestToEnd h' (nI t))).1 6) (nI t), nI c + 1, v_put 20 h' 17 (nI t) (v_U_fewestToEnd h' (nI t)))) else _) = _
        rw [if_pos (nI_lt (by omega) (by omega)), if_neg (nI_m1 (by omega)), (cc_toEnd hR' hI ht).2, put20 _ _ (by omega), nI_1, cc_bf hR2 hI ht]
        rfl
      have hfs : fs T (h'.1 17) t = fs T A t := fs_congr hI ht (fun j hj => k4 j hj)
      obtain ⟨a, r, b1, b2, b3⟩ := ih f (c + 1) (bf T n t) (am_si h' 17 t (fs T (h'.1 17) t)) (upd A t (fs T A t)) (fun j e => (bfo_some e).1) (by omega) (by omega) (by omega) (fun c' hc' => by rw [am_si_ne hc']; exact k1 c' hc') (fun k hk => by
        rw [am_si1, upd_at]
        by_cases ek : k = t
        · rw [if_pos ⟨rfl, ek⟩, if_pos ek, hfs]
        · rw [if_neg (fun z => ek z.2), if_neg ek]
          refine k4 k ?_
          cases eb : bf T n t with
          | none =>
            rw [eb] at hk
            have hk' : k ∈ ch (nx T) s := hk
            have : t = s := by rw [← k5 t rfl, lastc_none eb]
            rw [← this, ch_step hI.fw ht] at hk'
            exact (List.mem_cons.mp hk').resolve_left ek
          | some t' =>
            rw [eb] at hk
            have hk' : k ∈ cho (nx T) (nx T t') := hk
            rw [(bfo_some (show bfo T t n = some t' from eb)).2, cho_some hI.fw ht] at hk'
            exact (List.mem_cons.mp hk').resolve_left ek) (fun t' et => by rw [← k5 t rfl]; exact (lastc_some hI.bw ht et).symm)
      refine ⟨⟨⟨fun _ => ⟨fun z => absurd z (nI_m1 (by omega)), fun _ => (cc_toEnd hR' hI ht).1⟩, fun _ => trivial⟩, fun v hv => by rw [e] at hv; cases hv; exact a⟩, r, by rw [itr, e]; exact b1, b2, b3⟩
theorem cc_back {h : HP} {T : Nat → Int32} {n s : Nat} (hR : RT h.1 0 T n) (hI : Inv T n) (hs : s < n) (hb : bf T n s = none) : p_U_fewestBackward h (nI s) ∧ (v_U_fewestBackward h (nI s)).1 = bkv T n s ∧ ∀ c, c ≠ 17 → (v_U_fewestBackward h (nI s)).2.1 c = h.1 c := by
  have h20 := hI.n20
  obtain ⟨hl, hln⟩ := lastc_lt hI.fw hs
  have hE := cc_end hR hI hs
  have hc := cho_20 hI.bw (okO_some hl)
  obtain ⟨a, r, b1, b2, b3⟩ := bk_loop hR hI hs hb NF 20 0 (some (lastc (nx T) s)) h (fun _ => 0) (okO_some hl) (by omega) (by rw [NF_eq]; omega) hc (fun _ _ => rfl) (fun k hk => by have hk' : k ∈ cho (nx T) (nx T (lastc (nx T) s)) := hk; rw [hln] at hk'; cases hk') (fun t e => by cases e; exact lastc_bf0 hI hs hb)
  have e0 : ((v_T_endFrom h (nI s), 0, h) : Int32 × Int32 × HP) = (eo (some (lastc (nx T) s)), nI 0, h) := by rw [hE.2]; rfl
  refine ⟨⟨hE.1, by rw [e0]; exact a⟩, ?_, ?_⟩
  · rw [v_U_fewestBackward, e0, b1]
    show v_at 20 (r.2.2.1 17) (nI s) = _
    rw [at20 _ (by omega)]; exact b2
  · intro c hc
    rw [v_U_fewestBackward, e0, b1]
    exact b3 c hc
/-! all trips are blocked -/
def ba2 (T : Nat → Int32) (n t : Nat) : Nat → Int32 := match amn (Ar T) (fun k => Nat.beq (rsn T n t k) 0) n with
  | none => T
  | some q => setN T q (some t)
def baN (T : Nat → Int32) (n t : Nat) : Option Nat := amn (rkN T) (fun k => isr T k && Nat.blt (rkN T t) (rkN T k)) n
def baS (n : Nat) : Nat → Option Nat → (Nat → Int32) → Nat → Int32
  | 0, _, T => T
  | _ + 1, none, T => T
  | f + 1, some t, T => baS n f (baN (ba2 T n t) n t) (ba2 T n t)
def baT (T : Nat → Int32) (n : Nat) : Nat → Int32 := baS n 20 (amn (rkN (clr T n)) (isr (clr T n)) n) (clr T n)
theorem ba2_inv {T : Nat → Int32} {n t : Nat} (hI : Inv T n) (ht : t < n) : Inv (ba2 T n t) n ∧ (∀ i, (∀ q, q < n → i ≠ 16 + 7 * q + 6) → ba2 T n t i = T i) := by
  unfold ba2
  cases ea : amn (Ar T) (fun k => Nat.beq (rsn T n t k) 0) n with
  | none => exact ⟨hI, fun _ _ => rfl⟩
  | some q =>
    obtain ⟨hq, hq2⟩ := amn_lt ea
    obtain ⟨r1, r2, r3, r4, r5, r6⟩ := rsn_tk hI ht hq (beq_iff.mp hq2)
    refine ⟨hI.relk hq (fun j e => ?_), fun i hi => upd_ne (hi q hq)⟩
    cases e
    refine ⟨ht, ?_, ?_, r5, r4⟩
    · unfold isr at r2; exact beq_iff.mp r2
    · unfold isr at r1; exact beq_iff.mp r1
theorem ba_cnt {T T2 : Nat → Int32} {n t : Nat} (hn : n ≤ 20) (ht : t < n) (hrt : isr T t = true) (q : ∀ i, (∀ q, q < n → i ≠ 16 + 7 * q + 6) → T2 i = T i) : cn (tk T2 (baN T2 n t)) n = cn (tk T (some t)) n + 1 ∧ isr T2 t = true := by
  have hisr : ∀ k, k < n → isr T2 k = isr T k := fun k hk => isr_ag (q _ (by omega))
  have hrkE : ∀ k, k < n → rkN T2 k = rkN T k := fun k hk => by
    have : Dp T2 k = Dp T k := nT_ag (q _ (by omega))
    unfold rkN; rw [this]
  have htk : ∀ k, k < n → tk T2 (some t) k = tk T (some t) k := fun k hk => by
    unfold tk; rw [hisr k hk]
    show (isr T k && Nat.blt (rkN T2 k) (rkN T2 t)) = _
    rw [hrkE k hk, hrkE t ht]
  have hrt2 : isr T2 t = true := (hisr t ht).trans hrt
  have hnext : ∀ k, k < n → tk T2 (baN T2 n t) k = (tk T2 (some t) k || decide (k = t)) := fun k hk => tk_next hn ht hrt2 rfl hk
  refine ⟨?_, hrt2⟩
  rw [cn_congr hnext]
  have : ∀ j, j ≤ n → cn (fun k => tk T2 (some t) k || decide (k = t)) j = cn (tk T (some t)) j + if t < j then 1 else 0 := by
    intro j
    induction j with
    | zero => intro _; rfl
    | succ j ih =>
      intro hj
      rw [cn, cn, ih (by omega), htk j (by omega)]
      by_cases e : j = t
      · subst e
        have hz : tk T (some j) j = false := by unfold tk; rw [hrt, Bool.true_and]; show Nat.blt _ _ = false; rw [blt_false]; omega
        rw [hz, decide_eq_true rfl, if_neg (by omega), if_pos (by decide), if_neg ff, if_pos (by omega)]
      · rw [decide_eq_false e, Bool.or_false]
        by_cases h1 : t < j
        · have h2 : t < j + 1 := by omega
          rw [if_pos h1, if_pos h2]; omega
        · have h2 : ¬ t < j + 1 := by omega
          rw [if_neg h1, if_neg h2]; omega
  rw [this n (Nat.le_refl _), if_pos ht]
theorem ba_loop {h : HP} {n : Nat} {y : Int32 × HP} : ∀ (N f c : Nat) (o : Option Nat) (H : HP) (T : Nat → Int32), c + f = 20 → f < N → okO n o → (∀ b, o = some b → isr T b = true) → c = cn (tk T o) n → RT H.1 0 T n → Inv T n →
    itrp (s_T_blockEverything_42 h y) (ps_T_blockEverything_42 h y) N (eo o, nI c, H) ∧ ∃ r, itr (s_T_blockEverything_42 h y) N (eo o, nI c, H) = some r ∧ RT r.2.2.1 0 (baS n f o T) n ∧ Inv (baS n f o T) n ∧ (∀ c', c' ≠ 6 → c' ≠ 7 → r.2.2.1 c' = H.1 c') := by
  intro N
  induction N with
  | zero => intro _ _ _ _ _ _ h1; exact absurd h1 (Nat.not_lt_zero _)
  | succ N ih =>
    intro f c o H T hcf hfN ho hor hc k1 k2
    have h20 := k2.n20
    cases o with
    | none =>
      have e : s_T_blockEverything_42 h y (eo none, nI c, H) = .inr (eo none, nI c, H) := by
        show (if nI c < nI 20 then (if eo none = -1 then _ else _) else _) = _
        rw [if_pos (show eo none = -1 from rfl), ite_self]
      have eb : baS n f none T = T := by cases f <;> rfl
      rw [eb]
      exact ⟨⟨⟨fun _ => ⟨fun _ => trivial, fun z => absurd rfl z⟩, fun _ => trivial⟩, fun v hv => by rw [e] at hv; cases hv⟩, (eo none, nI c, H), by rw [itr, e], k1, k2, fun _ _ _ => rfl⟩
    | some t =>
      have ht := ho t rfl
      have hrt := hor t rfl
      have htl := k2.lt ht
      have hc20 : c < 20 := by
        have h1 : cn (tk T (some t)) n < cn (fun _ => true) n := cn_lt (j := t) (fun _ _ _ => rfl) ht (by unfold tk; rw [hrt, Bool.true_and]; show Nat.blt _ _ = false; rw [blt_false]; omega) rfl
        have h2 := cn_le (fun _ => true) n
        omega
      obtain ⟨f, rfl⟩ : ∃ f', f = f' + 1 := ⟨f - 1, by omega⟩
      have hW := cc_waiting k1 k2 ht
      obtain ⟨i2, i3⟩ := ba2_inv k2 ht
      obtain ⟨c2, r2⟩ := ba_cnt h20 ht hrt i3
      have hcst : s_T_blockEverything_42 h y (nI t, nI c, H) = (if v_T_longestWaiting H (nI t) = -1 then .inl (v_T_runTripBehind H (nI t), nI c + 1, H) else .inl (v_T_runTripBehind (v_T_link H (nI t) (v_T_longestWaiting H (nI t))) (nI t), nI c + 1, v_T_link H (nI t) (v_T_longestWaiting H (nI t)))) := by
        show (if nI c < nI 20 then (if nI t = -1 then _ else (if v_T_longestWaiting H (nI t) = -1 then _ else _)) else _) = _
        rw [if_pos (nI_lt hc20 (by omega)), if_neg (nI_m1 (by omega))]
        rfl
      have key : ∃ H2, RT H2.1 0 (ba2 T n t) n ∧ (∀ c', c' ≠ 6 → c' ≠ 7 → H2.1 c' = H.1 c') ∧ s_T_blockEverything_42 h y (eo (some t), nI c, H) = .inl (eo (baN (ba2 T n t) n t), nI (c + 1), H2) ∧ ps_T_blockEverything_42 h y (eo (some t), nI c, H) := by
        cases ea : amn (Ar T) (fun k => Nat.beq (rsn T n t k) 0) n with
        | none =>
          have e2 : ba2 T n t = T := by unfold ba2; rw [ea]
          have hw : v_T_longestWaiting H (nI t) = -1 := by rw [hW.2, ea]; rfl
          have hB := cc_behind k1 k2 (o := some t) (okO_some ht)
          rw [e2]
          refine ⟨H, k1, fun _ _ _ => rfl, ?_, ⟨fun _ => ⟨fun z => absurd z (nI_m1 (by omega)), fun _ => ⟨hW.1, fun _ => hB.1, fun z => absurd hw z⟩⟩, fun _ => trivial⟩⟩
          show s_T_blockEverything_42 h y (nI t, nI c, H) = _
          rw [hcst, if_pos hw, nI_1]
          exact congrArg (fun x => Sum.inl (x, nI (c + 1), H)) hB.2
        | some q =>
          obtain ⟨hq, hq2⟩ := amn_lt ea
          obtain ⟨r1, r2, r3, r4, r5, r6⟩ := rsn_tk k2 ht hq (beq_iff.mp hq2)
          have e2 : ba2 T n t = setN T q (some t) := by unfold ba2; rw [ea]
          have hw : v_T_longestWaiting H (nI t) = nI q := by rw [hW.2, ea]; rfl
          have hql := k2.lt hq
          rw [e2] at i2 ⊢
          obtain ⟨l1, l2⟩ := cc_link k1 k2 ht hq r3 i2
          have hB := cc_behind l1 i2 (o := some t) (okO_some ht)
          refine ⟨v_T_link H (nI t) (nI q), l1, l2, ?_, ⟨fun _ => ⟨fun z => absurd z (nI_m1 (by omega)), fun _ => ⟨hW.1, fun z => absurd (hw.symm.trans z) (nI_m1 (by omega)), fun _ y3 hy => ?_⟩⟩, fun _ => trivial⟩⟩
          · show s_T_blockEverything_42 h y (nI t, nI c, H) = _
            rw [hcst, hw, if_neg (nI_m1 (by omega)), nI_1]
            exact congrArg (fun x => Sum.inl (x, nI (c + 1), v_T_link H (nI t) (nI q))) hB.2
          · have hy' : v_T_link H (nI t) (v_T_longestWaiting H (nI t)) = y3 := hy
            rw [hw] at hy'
            subst hy'
            exact hB.1
      obtain ⟨H2, g1, g2, g3, g4⟩ := key
      obtain ⟨a, r, b1, b2, b3, b4⟩ := ih f (c + 1) (baN (ba2 T n t) n t) H2 (ba2 T n t) (by omega) (by omega) (fun b e => (amn_lt e).1) (fun b e => by have := (amn_lt e).2; rw [Bool.and_eq_true] at this; exact this.1) (by rw [c2, hc]) g1 i2
      exact ⟨⟨g4, fun v hv => by rw [g3] at hv; cases hv; exact a⟩, r, by rw [itr, g3]; exact b1, b2, b3, fun c' h1 h2 => (b4 c' h1 h2).trans (g2 c' h1 h2)⟩
theorem cc_ball {h : HP} {T : Nat → Int32} {n : Nat} (hR : RT h.1 0 T n) (hI : Inv T n) : p_T_blockEverything h ∧ RT (v_T_blockEverything h).1 0 (baT T n) n ∧ Inv (baT T n) n ∧ (∀ c, c ≠ 6 → c ≠ 7 → (v_T_blockEverything h).1 c = h.1 c) := by
  have h20 := hI.n20
  obtain ⟨a1, H1, a2, a3, a4⟩ := cc_clear hR hI
  have hI1 := Inv.clrI hI n (Nat.le_refl _)
  have hB0 := cc_behind a3 hI1 (o := none) okO_none
  have hs : amn (rkN (clr T n)) (fun k => isr (clr T n) k && true) n = amn (rkN (clr T n)) (isr (clr T n)) n := amn_congr (fun k _ => Bool.and_true _)
  have hz : ∀ j, j ≤ n → cn (tk (clr T n) (amn (rkN (clr T n)) (isr (clr T n)) n)) j = 0 := by
    intro j
    induction j with
    | zero => intro _; rfl
    | succ j ih =>
      intro hj
      rw [cn, ih (by omega)]
      have : tk (clr T n) (amn (rkN (clr T n)) (isr (clr T n)) n) j = false := by
        unfold tk
        cases er : isr (clr T n) j with
        | false => rfl
        | true =>
          rw [Bool.true_and]
          cases eo' : amn (rkN (clr T n)) (isr (clr T n)) n with
          | none => have := amn_none eo' j (by omega); rw [er] at this; cases this
          | some b =>
            have := amn_le eo' j (by omega) er
            show Nat.blt _ _ = false
            rw [blt_false]; omega
      rw [this, if_neg ff]
  obtain ⟨x1, r, x2, x3, x4, x5⟩ := ba_loop (h := h) (y := (nI n, H1)) NF 20 0 (amn (rkN (clr T n)) (isr (clr T n)) n) H1 (clr T n) rfl (by rw [NF_eq]; omega) (fun b e => (amn_lt e).1) (fun b e => (amn_lt e).2) (hz n (Nat.le_refl _)).symm a3 hI1
  have e0 : ((v_T_runTripBehind H1 (-1), 0, H1) : Int32 × Int32 × HP) = (eo (amn (rkN (clr T n)) (isr (clr T n)) n), nI 0, H1) := by
    have h1 : v_T_runTripBehind H1 (-1) = eo (amn (rkN (clr T n)) (fun k => isr (clr T n) k && true) n) := hB0.2
    rw [h1, hs]; rfl
  have hv : v_T_blockEverything h = r.2.2 := by
    rw [v_T_blockEverything, a2]
    show (match itr (s_T_blockEverything_42 h (nI n, H1)) NF (v_T_runTripBehind H1 (-1), 0, H1) with | some r2 => r2.2.2 | none => h) = _
    rw [e0, x2]
  refine ⟨⟨a1, fun r1 hr => ?_⟩, by rw [hv]; exact x3, x4, fun c h1 h2 => by rw [hv, x5 c h1 h2]; exact a4 c h1 h2⟩
  rw [a2] at hr
  cases hr
  refine ⟨hB0.1, ?_⟩
  show itrp _ _ NF (v_T_runTripBehind H1 (-1), 0, H1)
  rw [e0]; exact x1
