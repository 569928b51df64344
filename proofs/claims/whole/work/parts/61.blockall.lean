/-! PURE: blocking all trips goes side by side. -/
/-- the row with nothing that follows, of the first m trips -/
def clr (T : Nat → Int32) : Nat → Nat → Int32
  | 0 => T
  | m + 1 => setN (clr T m) m none
theorem clr_ne {T : Nat → Int32} : ∀ {m i : Nat}, (∀ q, q < m → i ≠ 16 + 7 * q + 6) → clr T m i = T i
  | 0, _, _ => rfl
  | m + 1, i, h => by
    show setN (clr T m) m none i = _
    unfold setN
    rw [upd_ne (h m (by omega))]
    exact clr_ne (fun q hq => h q (by omega))
theorem clr_nx {T : Nat → Int32} : ∀ {m q : Nat}, nx (clr T m) q = if q < m then none else nx T q
  | 0, q => rfl
  | m + 1, q => by
    show nx (setN (clr T m) m none) q = _
    rw [setN_nx (o := none) (fun _ z => nomatch z), clr_nx]
    by_cases e : q = m
    · rw [if_pos e, if_pos (by omega)]
    · rw [if_neg e]
      by_cases e2 : q < m
      · rw [if_pos e2, if_pos (by omega)]
      · rw [if_neg e2, if_neg (by omega)]
theorem Inv.clrI {T : Nat → Int32} {n : Nat} (hI : Inv T n) : ∀ m, m ≤ n → Inv (clr T m) n
  | 0, _ => hI
  | m + 1, h => (Inv.clrI hI m (by omega)).cut (by omega)
theorem clr_bf {T : Nat → Int32} {n : Nat} (k : Nat) : bfo (clr T n) k n = none := bfo_nil (fun j hj => by rw [clr_nx, if_pos hj]; exact fun z => nomatch z)
section CCL
variable {h : HP} {T : Nat → Int32} {n : Nat}
theorem cc_clear (hR : RT h.1 0 T n) (hI : Inv T n) : itrp (s_T_blockEverything_2 h) (ps_T_blockEverything_2 h) NF (0, h) ∧ ∃ H, itr (s_T_blockEverything_2 h) NF (0, h) = some (nI n, H) ∧ RT H.1 0 (clr T n) n ∧ (∀ c, c ≠ 6 → c ≠ 7 → H.1 c = h.1 c) := by
  have h20 := hI.n20
  obtain ⟨a, r, b, c⟩ := itr_invN (step := s_T_blockEverything_2 h) (pst := ps_T_blockEverything_2 h) (fun v => ∃ j H, j ≤ n ∧ v = (nI j, H) ∧ (∀ c, c ≠ 6 → c ≠ 7 → H.1 c = h.1 c) ∧ (∀ i, i < j → H.1 6 i = -1 ∧ H.1 7 i = -1)) (fun v => n - am_ix v.1)
    (fun r => ∃ H, r = (nI n, H) ∧ (∀ c, c ≠ 6 → c ≠ 7 → H.1 c = h.1 c) ∧ (∀ i, i < n → H.1 6 i = -1 ∧ H.1 7 i = -1)) (0, h)
    (by show n - am_ix 0 < _; omega) ⟨0, h, Nat.zero_le _, rfl, fun _ _ _ => rfl, fun i hi => absurd hi (Nat.not_lt_zero _)⟩
    (fun v hv => by
      obtain ⟨j, H, hj, rfl, k1, k2⟩ := hv
      refine ⟨trivial, ?_⟩
      have hst : s_T_blockEverything_2 h (nI j, H) = (if nI j < H.1 0 11 then .inl (nI j + 1, v_put 20 (v_put 20 H 6 (nI j) (-1)) 7 (nI j) (-1)) else .inr (nI j, H)) := rfl
      rw [hst, k1 0 (by omega) (by omega), hR.nn]
      by_cases e : j < n
      · rw [if_pos (nI_lt e (by omega)), put20 _ _ (by omega), put20 _ _ (by omega), nI_1]
        refine Or.inl ⟨_, rfl, ⟨j + 1, _, e, rfl, fun c h6 h7 => by rw [am_si_ne h7, am_si_ne h6]; exact k1 c h6 h7, fun i hi => ⟨?_, ?_⟩⟩, ?_⟩
        · rw [am_si_ne (by omega), am_si1]
          by_cases e2 : i = j
          · rw [if_pos ⟨rfl, e2⟩]
          · rw [if_neg (fun z => e2 z.2)]; exact (k2 i (by omega)).1
        · rw [am_si1]
          by_cases e2 : i = j
          · rw [if_pos ⟨rfl, e2⟩]
          · rw [if_neg (fun z => e2 z.2), am_si_ne (by omega)]; exact (k2 i (by omega)).2
        · show n - am_ix (nI (j + 1)) < n - am_ix (nI j)
          rw [nI_ix (by omega), nI_ix (by omega)]; omega
      · have e4 : j = n := by omega
        subst e4
        rw [if_neg (nI_nlt (Nat.le_refl _) (by omega))]
        exact Or.inr ⟨_, rfl, H, rfl, k1, k2⟩)
  obtain ⟨H, rfl, k1, k2⟩ := c
  refine ⟨a, H, b, ?_, k1⟩
  have e : ∀ i, (∀ q, i ≠ 16 + 7 * q + 6) → clr T n i = T i := fun i hi => clr_ne (fun q _ => hi q)
  refine ⟨⟨?_, ?_, ?_, ?_⟩, fun i hi => ⟨?_, ?_, ?_, ?_, ?_, ?_, ?_, ?_⟩, fun t ht => ⟨?_, ?_, ?_⟩⟩
  · rw [k1 0 (by omega) (by omega)]; exact hR.nn
  · rw [k1 0 (by omega) (by omega), e 12 (by omega)]; exact hR.us
  · rw [k1 0 (by omega) (by omega), e 13 (by omega)]; exact hR.fa
  · rw [k1 0 (by omega) (by omega), e 14 (by omega)]; exact hR.re
  · rw [e _ (by omega)]; exact (congrFun (k1 1 (by omega) (by omega)) i).trans (hR.rt hi)
  · rw [e _ (by omega)]; exact (congrFun (k1 2 (by omega) (by omega)) i).trans (hR.fr hi)
  · rw [e _ (by omega)]; exact (congrFun (k1 3 (by omega) (by omega)) i).trans (hR.go hi)
  · rw [e _ (by omega)]; exact (congrFun (k1 4 (by omega) (by omega)) i).trans (hR.dp hi)
  · rw [e _ (by omega)]; exact (congrFun (k1 5 (by omega) (by omega)) i).trans (hR.ln hi)
  · rw [clr_bf]; exact (k2 i hi).1
  · have hx := (Inv.clrI hI n (Nat.le_refl _)).nxe hi
    rw [clr_nx, if_pos hi] at hx
    rw [hx]; exact (k2 i hi).2
  · rw [e _ (by omega)]; exact (congrFun (k1 8 (by omega) (by omega)) i).trans (hR.lo hi)
  · rw [e _ (by omega)]; exact (congrFun (k1 9 (by omega) (by omega)) t).trans (hR.lay ht)
  · rw [e _ (by omega)]; exact (congrFun (k1 10 (by omega) (by omega)) t).trans (hR.rel ht)
  · rw [e _ (by omega)]; exact (congrFun (k1 11 (by omega) (by omega)) t).trans (hR.se ht)
end CCL
section MCL
variable {m : HP} {T : Nat → Int32} {n : Nat}
theorem mm_clear (hT : m.1 1 = T) (hI : Inv T n) : itrp (s_M_blocksAll_2 m) (ps_M_blocksAll_2 m) NF (0, m) ∧ ∃ H, itr (s_M_blocksAll_2 m) NF (0, m) = some (nI n, H) ∧ H.1 1 = clr T n ∧ (∀ c, c ≠ 1 → H.1 c = m.1 c) ∧ H.2 = m.2 := by
  have h20 := hI.n20
  obtain ⟨a, r, b, c⟩ := itr_invN (step := s_M_blocksAll_2 m) (pst := ps_M_blocksAll_2 m) (fun v => ∃ j H, j ≤ n ∧ v = (nI j, H) ∧ H.1 1 = clr T j ∧ (∀ c, c ≠ 1 → H.1 c = m.1 c) ∧ H.2 = m.2) (fun v => n - am_ix v.1)
    (fun r => ∃ H, r = (nI n, H) ∧ H.1 1 = clr T n ∧ (∀ c, c ≠ 1 → H.1 c = m.1 c) ∧ H.2 = m.2) (0, m)
    (by show n - am_ix 0 < _; omega) ⟨0, m, Nat.zero_le _, rfl, hT, fun _ _ => rfl, rfl⟩
    (fun v hv => by
      obtain ⟨j, H, hj, rfl, k1, k2, k3⟩ := hv
      have hIj := Inv.clrI hI j hj
      refine ⟨⟨fun z => pm_becomes _ (w := 6) (by omega) (by omega) _, fun _ => trivial⟩, ?_⟩
      have hst : s_M_blocksAll_2 m (nI j, H) = (if nI j < H.1 1 (am_ix 15) then .inl (nI j + 1, v_M_becomes H (nI j) 6 (-1)) else .inr (nI j, H)) := rfl
      rw [hst]
      by_cases e : j < n
      · rw [if_pos (mm_lt k1 hIj e), nI_1, show v_M_becomes H (nI j) 6 (-1) = _ from vm_becomes H (w := 6) (by omega) (by omega) (-1)]
        refine Or.inl ⟨_, rfl, ⟨j + 1, _, e, rfl, ?_, fun c hc => by rw [am_si_ne hc]; exact k2 c hc, k3⟩, ?_⟩
        · rw [si1, k1]; rfl
        · show n - am_ix (nI (j + 1)) < n - am_ix (nI j)
          rw [nI_ix (by omega), nI_ix (by omega)]; omega
      · have e4 : j = n := by omega
        subst e4
        rw [if_neg (mm_nlt k1 hIj)]
        exact Or.inr ⟨_, rfl, H, rfl, k1, k2, k3⟩)
  obtain ⟨H, rfl, k1, k2, k3⟩ := c
  exact ⟨a, H, b, k1, k2, k3⟩
end MCL
/-- whose turn has been: all that are run and go ahead of o -/
def tk (T : Nat → Int32) (o : Option Nat) (k : Nat) : Bool := isr T k && (match o with | none => true | some b => Nat.blt (rkN T k) (rkN T b))
/-- the next in turn behind t -/
theorem tk_next {T : Nat → Int32} {n t : Nat} (hn : n ≤ 20) (ht : t < n) (hr : isr T t = true) {o : Option Nat} (ho : o = amn (rkN T) (fun k => isr T k && Nat.blt (rkN T t) (rkN T k)) n) {k : Nat} (hk : k < n) : tk T o k = (tk T (some t) k || decide (k = t)) := by
  unfold tk
  cases er : isr T k with
  | false =>
    have : k ≠ t := fun z => by rw [z, hr] at er; cases er
    rw [decide_eq_false this]; rfl
  | true =>
    rw [Bool.true_and, Bool.true_and]
    by_cases e : k = t
    · subst e
      rw [decide_eq_true rfl, Bool.or_true]
      cases o with
      | none => rfl
      | some b =>
        obtain ⟨h1, h2⟩ := amn_lt ho.symm
        rw [Bool.and_eq_true] at h2
        exact h2.2
    · rw [decide_eq_false e, Bool.or_false]
      have hne : rkN T k ≠ rkN T t := fun z => e (rkN_inj (by omega) (by omega) z)
      show _ = Nat.blt (rkN T k) (rkN T t)
      by_cases h1 : rkN T k < rkN T t
      · rw [blt_iff.mpr h1]
        cases o with
        | none => rfl
        | some b =>
          obtain ⟨h2, h3⟩ := amn_lt ho.symm
          rw [Bool.and_eq_true] at h3
          have := blt_iff.mp h3.2
          show Nat.blt (rkN T k) (rkN T b) = true
          rw [blt_iff]; omega
      · rw [blt_false.mpr h1]
        cases o with
        | none =>
          have := amn_none ho.symm k hk
          rw [er, Bool.true_and, blt_false] at this
          omega
        | some b =>
          have := amn_le ho.symm k hk (by rw [er, blt_iff.mpr (show rkN T t < rkN T k by omega)]; rfl)
          show Nat.blt (rkN T k) (rkN T b) = false
          rw [blt_false]; omega
theorem isr_ag {T T' : Nat → Int32} {k : Nat} (h : T' (16 + 7 * k + 5) = T (16 + 7 * k + 5)) : isr T' k = isr T k := by
  have e : Lo T' k = Lo T k := nT_ag h
  unfold isr
  rw [e]
/-- what a trip can follow has had its turn -/
theorem rsn_tk {T : Nat → Int32} {n t k : Nat} (hI : Inv T n) (ht : t < n) (hk : k < n) (h : rsn T n t k = 0) : isr T t = true ∧ isr T k = true ∧ nx T k = none ∧ bfo T t n = none ∧ Ar T k ≤ Dp T t ∧ tk T (some t) k = true := by
  unfold rsn at h
  split at h
  · omega
  · rename_i h1
    split at h
    · omega
    · rename_i h2
      split at h
      · omega
      · split at h
        · omega
        · rename_i h4
          have r1 : isr T t = true := by cases e : isr T t with | true => rfl | false => exact absurd (Or.inl e) h1
          have r2 : isr T k = true := by cases e : isr T k with | true => rfl | false => exact absurd (Or.inr e) h1
          have r3 : nx T k = none := by cases e : nx T k with | none => rfl | some j => exact absurd (Or.inl (by rw [e]; rfl)) h2
          have r4 : bfo T t n = none := by cases e : bfo T t n with | none => rfl | some j => exact absurd (Or.inr (by rw [e]; rfl)) h2
          have h5 : Ar T k = Dp T k + Ln T k := rfl
          have h6 := hI.ln1 hk
          have h7 := hI.lt hk
          have h8 := hI.lt ht
          refine ⟨r1, r2, r3, r4, by omega, ?_⟩
          unfold tk
          rw [r2, Bool.true_and]
          show Nat.blt (rkN T k) (rkN T t) = true
          rw [blt_iff]
          unfold rkN
          omega
/-- class and model block all trips alike -/
theorem blockAll_both {h m : HP} {T : Nat → Int32} {n : Nat} (hR : RT h.1 0 T n) (hT : m.1 1 = T) (hI : Inv T n) :
    p_T_blockEverything h ∧ p_M_blocksAll m ∧ ∃ T', RT (v_T_blockEverything h).1 0 T' n ∧ Inv T' n ∧ (v_M_blocksAll m).2.1 1 = T' ∧ (v_M_blocksAll m).1 = nI (cn (hd T' n) n) ∧ (∀ i, (∀ q, q < n → i ≠ 16 + 7 * q + 6) → T' i = T i) ∧
    (∀ c, c ≠ 6 → c ≠ 7 → (v_T_blockEverything h).1 c = h.1 c) ∧ (∀ c, c ≠ 0 → c ≠ 1 → (v_M_blocksAll m).2.1 c = m.1 c) ∧ (∀ k, k ≠ 9 → (v_M_blocksAll m).2.1 0 k = m.1 0 k) ∧ (v_M_blocksAll m).2.2 = m.2 := by
  have h20 := hI.n20
  obtain ⟨a1, H1, a2, a3, a4⟩ := cc_clear hR hI
  obtain ⟨b1, M1, b2, b3, b4, b5⟩ := mm_clear hT hI
  have hI1 := Inv.clrI hI n (Nat.le_refl _)
  let M2 := am_si M1 0 9 0
  have hM2 : M2.1 1 = clr T n := by rw [show M2.1 1 = M1.1 1 from am_si_ne (by omega)]; exact b3
  have hB0 := cc_behind a3 hI1 (o := none) okO_none
  have hE0 := mm_earliest hM2 hI1
  have hm0 : M2.1 0 9 = 0 := by show (am_si M1 0 9 0).1 0 9 = _; rw [am_si1, if_pos ⟨rfl, rfl⟩]
  have hp0 : amn (rkN (clr T n)) (fun k => isr (clr T n) k && !(zbt (M2.1 0 9) k)) n = amn (rkN (clr T n)) (fun k => isr (clr T n) k && true) n := amn_congr (fun k _ => by rw [hm0, zb_0]; rfl)
  let R : (Int32 × Int32 × HP) → (Int32 × HP) → Prop := fun v w => ∃ (T' : Nat → Int32) (o : Option Nat) (c : Nat) (H M : HP), okO n o ∧ (∀ b, o = some b → isr T' b = true) ∧ v = (eo o, nI c, H) ∧ w = (eo o, M) ∧ c = cn (tk T' o) n ∧ RT H.1 0 T' n ∧ Inv T' n ∧ M.1 1 = T' ∧ (∀ i, (∀ q, q < n → i ≠ 16 + 7 * q + 6) → T' i = T i) ∧ (∀ k, k < n → zbt (M.1 0 9) k = tk T' o k) ∧
    (∀ c, c ≠ 6 → c ≠ 7 → H.1 c = h.1 c) ∧ (∀ c, c ≠ 0 → c ≠ 1 → M.1 c = m.1 c) ∧ (∀ k, k ≠ 9 → M.1 0 k = m.1 0 k) ∧ M.2 = m.2
  let Q : (Int32 × Int32 × HP) → (Int32 × HP) → Prop := fun r q => ∃ T', RT r.2.2.1 0 T' n ∧ Inv T' n ∧ q.2.1 1 = T' ∧ (∀ i, (∀ q, q < n → i ≠ 16 + 7 * q + 6) → T' i = T i) ∧
    (∀ c, c ≠ 6 → c ≠ 7 → r.2.2.1 c = h.1 c) ∧ (∀ c, c ≠ 0 → c ≠ 1 → q.2.1 c = m.1 c) ∧ (∀ k, k ≠ 9 → q.2.1 0 k = m.1 0 k) ∧ q.2.2 = m.2
  have hR0 : R (v_T_runTripBehind H1 (-1), 0, H1) (v_M_earliest M2, M2) := by
    refine ⟨clr T n, amn (rkN (clr T n)) (fun k => isr (clr T n) k && true) n, 0, H1, M2, fun b e => (amn_lt e).1, fun b e => by have := (amn_lt e).2; rw [Bool.and_true] at this; exact this, ?_, ?_, ?_, a3, hI1, hM2, fun i hi => clr_ne hi, fun k hk => ?_, a4, fun c h0 h1 => ?_, fun k hk => ?_, b5⟩
    · have : v_T_runTripBehind H1 (-1) = _ := hB0.2
      rw [this]; rfl
    · rw [hE0.2, hp0]
    · have hz : ∀ j, j ≤ n → cn (tk (clr T n) (amn (rkN (clr T n)) (fun k => isr (clr T n) k && true) n)) j = 0 := by
        intro j
        induction j with
        | zero => intro _; rfl
        | succ j ih =>
          intro hj
          rw [cn, ih (by omega)]
          have : tk (clr T n) (amn (rkN (clr T n)) (fun k => isr (clr T n) k && true) n) j = false := by
            unfold tk
            cases er : isr (clr T n) j with
            | false => rfl
            | true =>
              rw [Bool.true_and]
              cases eo' : amn (rkN (clr T n)) (fun k => isr (clr T n) k && true) n with
              | none => have := amn_none eo' j (by omega); rw [er] at this; cases this
              | some b =>
                have := amn_le eo' j (by omega) (by rw [er]; rfl)
                show Nat.blt _ _ = false
                rw [blt_false]; omega
          rw [this, if_neg ff]
      exact (hz n (Nat.le_refl _)).symm
    · rw [hm0, zb_0]
      symm
      unfold tk
      cases er : isr (clr T n) k with
      | false => rfl
      | true =>
        rw [Bool.true_and]
        cases eo' : amn (rkN (clr T n)) (fun k => isr (clr T n) k && true) n with
        | none => have := amn_none eo' k hk; rw [er] at this; cases this
        | some b =>
          have := amn_le eo' k hk (by rw [er]; rfl)
          show Nat.blt _ _ = false
          rw [blt_false]; omega
    · rw [show M2.1 c = M1.1 c from am_si_ne h0]; exact b4 c h1
    · show (am_si M1 0 9 0).1 0 k = _
      rw [am_si1, if_neg (fun z => hk z.2), b4 0 (by omega)]
  have hgo : ∀ v w, R v w → ps_T_blockEverything_42 h (nI n, H1) v ∧ ps_M_blocksAll_37 m (nI n, M1) w ∧ ((∃ v' w', s_T_blockEverything_42 h (nI n, H1) v = .inl v' ∧ s_M_blocksAll_37 m (nI n, M1) w = .inl w' ∧ R v' w' ∧ 30 - am_ix v'.2.1 < 30 - am_ix v.2.1) ∨ ∃ r q, s_T_blockEverything_42 h (nI n, H1) v = .inr r ∧ s_M_blocksAll_37 m (nI n, M1) w = .inr q ∧ Q r q) := by
    intro v w hRv
    obtain ⟨T', o, c, H, M, ho, hor, rfl, rfl, hc, k1, k2, k3, k4, k5, k6, k7, k8, k9⟩ := hRv
    cases o with
    | none =>
      refine ⟨⟨fun _ => ⟨fun _ => trivial, fun z => absurd rfl z⟩, fun _ => trivial⟩, ⟨fun _ => trivial, fun z => absurd rfl z⟩, Or.inr ⟨(eo none, nI c, H), (eo none, M), ?_, rfl, T', k1, k2, k3, k4, k6, k7, k8, k9⟩⟩
      show (if nI c < nI 20 then (if eo none = -1 then _ else _) else _) = _
      rw [if_pos (show eo none = -1 from rfl), ite_self]
    | some t =>
      have ht := ho t rfl
      have hrt := hor t rfl
      have htl := k2.lt ht
      have hc20 : c < 20 := by
        have h1 : cn (tk T' (some t)) n < cn (fun _ => true) n := cn_lt (j := t) (fun _ _ _ => rfl) ht (by unfold tk; rw [hrt, Bool.true_and]; show Nat.blt _ _ = false; rw [blt_false]; omega) rfl
        have h2 := cn_le (fun _ => true) n
        omega
      have hW := cc_waiting k1 k2 ht
      have hA := mm_ahead k3 k2 ht
      have hrs : ∀ k, k < n → rsn T' n t k = 0 → isr T' t = true ∧ isr T' k = true ∧ nx T' k = none ∧ bfo T' t n = none ∧ Ar T' k ≤ Dp T' t ∧ tk T' (some t) k = true := fun k hk hz => rsn_tk k2 ht hk hz
      have hsame : amn (Ar T') (fun k => zbt (M.1 0 9) k && Nat.beq (rsn T' n t k) 0) n = amn (Ar T') (fun k => Nat.beq (rsn T' n t k) 0) n := amn_congr (fun k hk => by
        rw [k5 k hk]
        cases e : Nat.beq (rsn T' n t k) 0 with
        | false => rw [Bool.and_false]
        | true => rw [(hrs k hk (beq_iff.mp e)).2.2.2.2.2]; rfl)
      rw [hsame] at hA
      -- the rest of a turn, once the row is T2
      have hrest : ∀ (T2 : Nat → Int32) (H2 M3 : HP), RT H2.1 0 T2 n → Inv T2 n → M3.1 1 = T2 → (∀ i, (∀ q, q < n → i ≠ 16 + 7 * q + 6) → T2 i = T' i) → M3.1 0 9 = M.1 0 9 → (∀ c, c ≠ 6 → c ≠ 7 → H2.1 c = H.1 c) → (∀ c, c ≠ 1 → M3.1 c = M.1 c) → M3.2 = M.2 →
          p_T_runTripBehind H2 (nI t) ∧ p_M_earliest (am_si M3 0 9 (M3.1 0 9 ||| (1 <<< (nI t &&& 31)))) ∧ R (v_T_runTripBehind H2 (nI t), nI c + 1, H2) (v_M_earliest (am_si M3 0 9 (M3.1 0 9 ||| (1 <<< (nI t &&& 31)))), am_si M3 0 9 (M3.1 0 9 ||| (1 <<< (nI t &&& 31)))) := by
        intro T2 H2 M3 q1 q2 q3 q4 q5 q6 q7 q8
        let M4 := am_si M3 0 9 (M3.1 0 9 ||| (1 <<< (nI t &&& 31)))
        have hM4 : M4.1 1 = T2 := by rw [show M4.1 1 = M3.1 1 from am_si_ne (by omega)]; exact q3
        have hm4 : M4.1 0 9 = M.1 0 9 ||| (1 <<< (nI t &&& 31)) := by show (am_si M3 0 9 _).1 0 9 = _; rw [am_si1, if_pos ⟨rfl, rfl⟩, q5]
        have hisr : ∀ k, k < n → isr T2 k = isr T' k := fun k hk => isr_ag (q4 _ (by omega))
        have hrkE : ∀ k, k < n → rkN T2 k = rkN T' k := fun k hk => by
          have : Dp T2 k = Dp T' k := nT_ag (q4 _ (by omega))
          unfold rkN; rw [this]
        have htk : ∀ k, k < n → tk T2 (some t) k = tk T' (some t) k := fun k hk => by
          unfold tk; rw [hisr k hk]
          show (isr T' k && Nat.blt (rkN T2 k) (rkN T2 t)) = _
          rw [hrkE k hk, hrkE t ht]
        have hB := cc_behind q1 q2 (o := some t) (okO_some ht)
        have hE := mm_earliest hM4 q2
        have hbit : ∀ k, k < n → zbt (M4.1 0 9) k = (tk T2 (some t) k || decide (k = t)) := fun k hk => by
          have := k2.lt hk
          rw [hm4, zbt_or _ (by omega) (by omega), k5 k hk, htk k hk]
        have hrt2 : isr T2 t = true := (hisr t ht).trans hrt
        let o' := amn (rkN T2) (fun k => isr T2 k && Nat.blt (rkN T2 t) (rkN T2 k)) n
        have hEE : amn (rkN T2) (fun k => isr T2 k && !(zbt (M4.1 0 9) k)) n = o' := amn_congr (fun k hk => by
          rw [hbit k hk]
          unfold tk
          cases er : isr T2 k with
          | false => rfl
          | true =>
            rw [Bool.true_and, Bool.true_and, Bool.true_and]
            show (!(Nat.blt (rkN T2 k) (rkN T2 t) || decide (k = t))) = Nat.blt (rkN T2 t) (rkN T2 k)
            have hkl := q2.lt hk
            by_cases e : k = t
            · rw [decide_eq_true e, Bool.or_true]
              subst e
              symm
              rw [Bool.not_true, blt_false]; omega
            · rw [decide_eq_false e, Bool.or_false]
              have hne : rkN T2 k ≠ rkN T2 t := fun z => e (rkN_inj hkl htl z)
              by_cases h1 : rkN T2 k < rkN T2 t
              · rw [blt_iff.mpr h1]; symm; rw [Bool.not_true, blt_false]; omega
              · rw [blt_false.mpr h1]; symm; rw [Bool.not_false, blt_iff]; omega)
        have hnext : ∀ k, k < n → tk T2 o' k = (tk T2 (some t) k || decide (k = t)) := fun k hk => tk_next h20 ht hrt2 rfl hk
        refine ⟨hB.1, hE.1, T2, o', c + 1, H2, M4, fun b e => (amn_lt e).1, fun b e => by have := (amn_lt e).2; rw [Bool.and_eq_true] at this; exact this.1, ?_, ?_, ?_, q1, q2, hM4, fun i hi => (q4 i hi).trans (k4 i hi), fun k hk => by rw [hbit k hk, hnext k hk], fun c h6 h7 => (q6 c h6 h7).trans (k6 c h6 h7), fun c h0 h1 => ?_, fun k hk => ?_, q8.trans k9⟩
        · have : v_T_runTripBehind H2 (nI t) = eo o' := hB.2
          rw [this, nI_1]
        · rw [hE.2, hEE]
        · rw [cn_congr hnext, hc]
          have : ∀ j, j ≤ n → cn (fun k => tk T2 (some t) k || decide (k = t)) j = cn (tk T' (some t)) j + if t < j then 1 else 0 := by
            intro j
            induction j with
            | zero => intro _; rfl
            | succ j ih =>
              intro hj
              rw [cn, cn, ih (by omega), htk j (by omega)]
              by_cases e : j = t
              · subst e
                have hz : tk T' (some j) j = false := by unfold tk; rw [hrt, Bool.true_and]; show Nat.blt _ _ = false; rw [blt_false]; omega
                rw [hz, decide_eq_true rfl, if_neg (by omega), if_pos (by decide), if_neg ff, if_pos (by omega)]
              · rw [decide_eq_false e, Bool.or_false]
                by_cases h1 : t < j
                · have h2 : t < j + 1 := by omega
                  rw [if_pos h1, if_pos h2]; omega
                · have h2 : ¬ t < j + 1 := by omega
                  rw [if_neg h1, if_neg h2]; omega
          rw [this n (Nat.le_refl _), if_pos ht]
        · rw [show M4.1 c = M3.1 c from am_si_ne h0, q7 c h1]; exact k7 c h0 h1
        · show (am_si M3 0 9 _).1 0 k = _
          rw [am_si1, if_neg (fun z => hk z.2), q7 0 (by omega)]; exact k8 k hk
      have hmeas : 30 - am_ix (nI c + 1) < 30 - am_ix (nI c) := by rw [nI_1, nI_ix (by omega), nI_ix (by omega)]; omega
      have hcst : s_T_blockEverything_42 h (nI n, H1) (nI t, nI c, H) = (if v_T_longestWaiting H (nI t) = -1 then .inl (v_T_runTripBehind H (nI t), nI c + 1, H) else .inl (v_T_runTripBehind (v_T_link H (nI t) (v_T_longestWaiting H (nI t))) (nI t), nI c + 1, v_T_link H (nI t) (v_T_longestWaiting H (nI t)))) := by
        show (if nI c < nI 20 then (if nI t = -1 then _ else (if v_T_longestWaiting H (nI t) = -1 then _ else _)) else _) = _
        rw [if_pos (nI_lt hc20 (by omega)), if_neg (nI_m1 (by omega))]
        rfl
      have hmst : s_M_blocksAll_37 m (nI n, M1) (nI t, M) = (if v_M_ahead M (nI t) = -1 then .inl (v_M_earliest (am_si M 0 9 (M.1 0 9 ||| (1 <<< (nI t &&& 31)))), am_si M 0 9 (M.1 0 9 ||| (1 <<< (nI t &&& 31)))) else .inl (v_M_earliest (am_si (v_M_becomes M (v_M_ahead M (nI t)) 6 (nI t)) 0 9 ((v_M_becomes M (v_M_ahead M (nI t)) 6 (nI t)).1 0 9 ||| (1 <<< (nI t &&& 31)))), am_si (v_M_becomes M (v_M_ahead M (nI t)) 6 (nI t)) 0 9 ((v_M_becomes M (v_M_ahead M (nI t)) 6 (nI t)).1 0 9 ||| (1 <<< (nI t &&& 31))))) := by
        show (if nI t = -1 then _ else (if v_M_ahead M (nI t) = -1 then _ else _)) = _
        rw [if_neg (nI_m1 (by omega))]
        rfl
      cases ea : amn (Ar T') (fun k => Nat.beq (rsn T' n t k) 0) n with
      | none =>
        have hw : v_T_longestWaiting H (nI t) = -1 := by rw [hW.2, ea]; rfl
        have ha : v_M_ahead M (nI t) = -1 := by rw [hA.2, ea]; rfl
        obtain ⟨g1, g2, g3⟩ := hrest T' H M k1 k2 k3 (fun _ _ => rfl) rfl (fun _ _ _ => rfl) (fun _ _ => rfl) rfl
        refine ⟨⟨fun _ => ⟨fun _ => trivial, fun _ => ⟨hW.1, fun _ => g1, fun z => absurd hw z⟩⟩, fun _ => trivial⟩, ⟨fun _ => trivial, fun _ => ⟨hA.1, fun _ => g2, fun z => absurd ha z⟩⟩, Or.inl ⟨_, _, ?_, ?_, g3, hmeas⟩⟩
        · show s_T_blockEverything_42 h (nI n, H1) (nI t, nI c, H) = _
          rw [hcst, if_pos hw]
        · show s_M_blocksAll_37 m (nI n, M1) (nI t, M) = _
          rw [hmst, if_pos ha]
      | some q =>
        obtain ⟨hq, hq2⟩ := amn_lt ea
        obtain ⟨r1, r2, r3, r4, r5, r6⟩ := hrs q hq (beq_iff.mp hq2)
        have hql := k2.lt hq
        have hw : v_T_longestWaiting H (nI t) = nI q := by rw [hW.2, ea]; rfl
        have ha : v_M_ahead M (nI t) = nI q := by rw [hA.2, ea]; rfl
        have hIq : Inv (setN T' q (some t)) n := k2.relk hq (fun j e => by
          cases e
          refine ⟨ht, ?_, ?_, r5, r4⟩
          · unfold isr at r2; exact beq_iff.mp r2
          · unfold isr at r1; exact beq_iff.mp r1)
        obtain ⟨l1, l2⟩ := cc_link k1 k2 ht hq r3 hIq
        have hb : v_M_becomes M (nI q) 6 (nI t) = am_si M 1 (16 + 7 * q + 6) (nI t) := vm_becomes M (w := 6) (by omega) (by omega) _
        obtain ⟨g1, g2, g3⟩ := hrest (setN T' q (some t)) (v_T_link H (nI t) (nI q)) (am_si M 1 (16 + 7 * q + 6) (nI t)) l1 hIq (by rw [si1, k3]; rfl) (fun i hi => upd_ne (hi q hq)) (by rw [am_si_ne (by omega)]) l2 (fun c hc => am_si_ne hc) rfl
        refine ⟨⟨fun _ => ⟨fun _ => trivial, fun _ => ⟨hW.1, fun z => ?_, fun _ y3 hy => ?_⟩⟩, fun _ => trivial⟩, ⟨fun _ => trivial, fun _ => ⟨hA.1, fun z => ?_, fun _ => ⟨?_, fun y4 hy => ?_⟩⟩⟩, Or.inl ⟨_, _, ?_, ?_, g3, hmeas⟩⟩
        · exact absurd (hw.symm.trans z) (nI_m1 (by omega))
        · have hy' : v_T_link H (nI t) (v_T_longestWaiting H (nI t)) = y3 := hy
          rw [hw] at hy'
          subst hy'
          exact g1
        · exact absurd (ha.symm.trans z) (nI_m1 (by omega))
        · show p_M_becomes M (v_M_ahead M (nI t)) 6 (nI t)
          rw [ha]; exact pm_becomes M (w := 6) (by omega) (by omega) _
        · have hy' : v_M_becomes M (v_M_ahead M (nI t)) 6 (nI t) = y4 := hy
          rw [ha, hb] at hy'
          subst hy'
          exact g2
        · show s_T_blockEverything_42 h (nI n, H1) (nI t, nI c, H) = _
          rw [hcst, hw, if_neg (nI_m1 (by omega))]
        · show s_M_blocksAll_37 m (nI n, M1) (nI t, M) = _
          rw [hmst, ha, if_neg (nI_m1 (by omega)), hb]
  obtain ⟨x1, x2, r, q, x3, x4, T', y1, y2, y3, y4, y5, y6, y7, y8⟩ := itr_relN R (fun v _ => 30 - am_ix v.2.1) Q (v_T_runTripBehind H1 (-1), 0, H1) (v_M_earliest M2, M2) (by show 30 - am_ix 0 < _; omega) hR0 hgo
  have hMb := mm_blocks y3 y2
  have hvT : v_T_blockEverything h = r.2.2 := by
    rw [v_T_blockEverything, a2]
    show (match itr (s_T_blockEverything_42 h (nI n, H1)) NF (v_T_runTripBehind H1 (-1), 0, H1) with | some r2 => r2.2.2 | none => h) = _
    rw [x3]
  have hvM : v_M_blocksAll m = (v_M_blocks q.2, q.2) := by
    rw [v_M_blocksAll, b2]
    show (match itr (s_M_blocksAll_37 m (nI n, M1)) NF (v_M_earliest M2, M2) with | some r3 => (v_M_blocks r3.2, r3.2) | none => (0, m)) = _
    rw [x4]
  refine ⟨⟨a1, fun r1 hr => ?_⟩, ⟨b1, fun r1 hr => ?_⟩, T', ?_⟩
  · rw [a2] at hr
    cases hr
    exact ⟨hB0.1, x1⟩
  · rw [b2] at hr
    cases hr
    refine ⟨hE0.1, x2, fun r3 hr3 => ?_⟩
    have hr3' : itr (s_M_blocksAll_37 m (nI n, M1)) NF (v_M_earliest M2, M2) = some r3 := hr3
    rw [x4] at hr3'
    cases hr3'
    exact hMb.1
  · rw [hvT, hvM]
    exact ⟨y1, y2, y3, hMb.2, y4, y5, y6, y7, y8⟩
