/-! PURE: blocking all trips goes side by side. -/
/-- the row with nothing that follows, of the first m trips -/
def clr (T : Nat → Int32) : Nat → Nat → Int32
  | 0 => T
  | m + 1 => setN (clr T m) m none
theorem clr_ne {T : Nat → Int32} : ∀ {m i : Nat}, (∀ q, q < m → i ≠ 16 + 7 * q + 6) → clr T m i = T i
  | 0, _, _ => rfl
  | m + 1, i, h => by
    show setN (clr T m) m none i = _
    unfold setN
    rw [upd_ne (h m (by omega))]
    exact clr_ne (fun q hq => h q (by omega))
theorem clr_nx {T : Nat → Int32} : ∀ {m q : Nat}, nx (clr T m) q = if q < m then none else nx T q
  | 0, q => rfl
  | m + 1, q => by
    show nx (setN (clr T m) m none) q = _
    rw [setN_nx (o := none) (fun _ z => nomatch z), clr_nx]
    by_cases e : q = m
    · rw [if_pos e, if_pos (by omega)]
    · rw [if_neg e]
      by_cases e2 : q < m
      · rw [if_pos e2, if_pos (by omega)]
      · rw [if_neg e2, if_neg (by omega)]
theorem Inv.clrI {T : Nat → Int32} {n : Nat} (hI : Inv T n) : ∀ m, m ≤ n → Inv (clr T m) n
  | 0, _ => hI
  | m + 1, h => (Inv.clrI hI m (by omega)).cut (by omega)
theorem clr_bf {T : Nat → Int32} {n : Nat} (k : Nat) : bfo (clr T n) k n = none := bfo_nil (fun j hj => by rw [clr_nx, if_pos hj]; exact fun z => nomatch z)
section CCL
variable {h : HP} {T : Nat → Int32} {n : Nat}
theorem cc_clear (hR : RT h.1 0 T n) (hI : Inv T n) : itrp (s_T_blockEverything_2 h) (ps_T_blockEverything_2 h) NF (0, h) ∧ ∃ H, itr (s_T_blockEverything_2 h) NF (0, h) = some (nI n, H) ∧ RT H.1 0 (clr T n) n ∧ (∀ c, c ≠ 6 → c ≠ 7 → H.1 c = h.1 c) := by
  have h20 := hI.n20
  obtain ⟨a, r, b, c⟩ := itr_invN (step := s_T_blockEverything_2 h) (pst := ps_T_blockEverything_2 h) (fun v => ∃ j H, j ≤ n ∧ v = (nI j, H) ∧ (∀ c, c ≠ 6 → c ≠ 7 → H.1 c = h.1 c) ∧ (∀ i, i < j → H.1 6 i = -1 ∧ H.1 7 i = -1)) (fun v => n - am_ix v.1)
    (fun r => ∃ H, r = (nI n, H) ∧ (∀ c, c ≠ 6 → c ≠ 7 → H.1 c = h.1 c) ∧ (∀ i, i < n → H.1 6 i = -1 ∧ H.1 7 i = -1)) (0, h)
    (by show n - am_ix 0 < _; omega) ⟨0, h, Nat.zero_le _, rfl, fun _ _ _ => rfl, fun i hi => absurd hi (Nat.not_lt_zero _)⟩
    (fun v hv => by
      obtain ⟨j, H, hj, rfl, k1, k2⟩ := hv
      refine ⟨trivial, ?_⟩
      have hst : s_T_blockEverything_2 h (nI j, H) = (if nI j < H.1 0 11 then .inl (nI j + 1, v_put 20 (v_put 20 H 6 (nI j) (-1)) 7 (nI j) (-1)) else .inr (nI j, H)) := rfl
      rw [hst, k1 0 (by omega) (by omega), hR.nn]
      by_cases e : j < n
      · rw [if_pos (nI_lt e (by omega)), put20 _ _ (by omega), put20 _ _ (by omega), nI_1]
        refine Or.inl ⟨_, rfl, ⟨j + 1, _, e, rfl, fun c h6 h7 => by rw [am_si_ne h7, am_si_ne h6]; exact k1 c h6 h7, fun i hi => ⟨?_, ?_⟩⟩, ?_⟩
        · rw [am_si_ne (by omega), am_si1]
          by_cases e2 : i = j
          · rw [if_pos ⟨rfl, e2⟩]
          · rw [if_neg (fun z => e2 z.2)]; exact (k2 i (by omega)).1
        · rw [am_si1]
          by_cases e2 : i = j
          · rw [if_pos ⟨rfl, e2⟩]
          · rw [if_neg (fun z => e2 z.2), am_si_ne (by omega)]; exact (k2 i (by omega)).2
        · show n - am_ix (nI (j + 1)) < n - am_ix (nI j)
          rw [nI_ix (by omega), nI_ix (by omega)]; omega
      · have e4 : j = n := by omega
        subst e4
        rw [if_neg (nI_nlt (Nat.le_refl _) (by omega))]
        exact Or.inr ⟨_, rfl, H, rfl, k1, k2⟩)
  obtain ⟨H, rfl, k1, k2⟩ := c
  refine ⟨a, H, b, ?_, k1⟩
  have e : ∀ i, (∀ q, i ≠ 16 + 7 * q + 6) → clr T n i = T i := fun i hi => clr_ne (fun q _ => hi q)
  refine ⟨⟨?_, ?_, ?_, ?_⟩, fun i hi => ⟨?_, ?_, ?_, ?_, ?_, ?_, ?_, ?_⟩, fun t ht => ⟨?_, ?_, ?_⟩⟩
  · rw [k1 0 (by omega) (by omega)]; exact hR.nn
  · rw [k1 0 (by omega) (by omega), e 12 (by omega)]; exact hR.us
  · rw [k1 0 (by omega) (by omega), e 13 (by omega)]; exact hR.fa
  · rw [k1 0 (by omega) (by omega), e 14 (by omega)]; exact hR.re
  · rw [e _ (by omega)]; exact (congrFun (k1 1 (by omega) (by omega)) i).trans (hR.rt hi)
  · rw [e _ (by omega)]; exact (congrFun (k1 2 (by omega) (by omega)) i).trans (hR.fr hi)
  · rw [e _ (by omega)]; exact (congrFun (k1 3 (by omega) (by omega)) i).trans (hR.go hi)
  · rw [e _ (by omega)]; exact (congrFun (k1 4 (by omega) (by omega)) i).trans (hR.dp hi)
  · rw [e _ (by omega)]; exact (congrFun (k1 5 (by omega) (by omega)) i).trans (hR.ln hi)
  · rw [clr_bf]; exact (k2 i hi).1
  · have hx := (Inv.clrI hI n (Nat.le_refl _)).nxe hi
    rw [clr_nx, if_pos hi] at hx
    rw [hx]; exact (k2 i hi).2
  · rw [e _ (by omega)]; exact (congrFun (k1 8 (by omega) (by omega)) i).trans (hR.lo hi)
  · rw [e _ (by omega)]; exact (congrFun (k1 9 (by omega) (by omega)) t).trans (hR.lay ht)
  · rw [e _ (by omega)]; exact (congrFun (k1 10 (by omega) (by omega)) t).trans (hR.rel ht)
  · rw [e _ (by omega)]; exact (congrFun (k1 11 (by omega) (by omega)) t).trans (hR.se ht)
end CCL
section MCL
variable {m : HP} {T : Nat → Int32} {n : Nat}
end MCL
/-- whose turn has been: all that are run and go ahead of o -/
def tk (T : Nat → Int32) (o : Option Nat) (k : Nat) : Bool := isr T k && (match o with | none => true | some b => Nat.blt (rkN T k) (rkN T b))
/-- the next in turn behind t -/
theorem tk_next {T : Nat → Int32} {n t : Nat} (hn : n ≤ 20) (ht : t < n) (hr : isr T t = true) {o : Option Nat} (ho : o = amn (rkN T) (fun k => isr T k && Nat.blt (rkN T t) (rkN T k)) n) {k : Nat} (hk : k < n) : tk T o k = (tk T (some t) k || decide (k = t)) := by
  unfold tk
  cases er : isr T k with
  | false =>
    have : k ≠ t := fun z => by rw [z, hr] at er; cases er
    rw [decide_eq_false this]; rfl
  | true =>
    rw [Bool.true_and, Bool.true_and]
    by_cases e : k = t
    · subst e
      rw [decide_eq_true rfl, Bool.or_true]
      cases o with
      | none => rfl
      | some b =>
        obtain ⟨h1, h2⟩ := amn_lt ho.symm
        rw [Bool.and_eq_true] at h2
        exact h2.2
    · rw [decide_eq_false e, Bool.or_false]
      have hne : rkN T k ≠ rkN T t := fun z => e (rkN_inj (by omega) (by omega) z)
      show _ = Nat.blt (rkN T k) (rkN T t)
      by_cases h1 : rkN T k < rkN T t
      · rw [blt_iff.mpr h1]
        cases o with
        | none => rfl
        | some b =>
          obtain ⟨h2, h3⟩ := amn_lt ho.symm
          rw [Bool.and_eq_true] at h3
          have := blt_iff.mp h3.2
          show Nat.blt (rkN T k) (rkN T b) = true
          rw [blt_iff]; omega
      · rw [blt_false.mpr h1]
        cases o with
        | none =>
          have := amn_none ho.symm k hk
          rw [er, Bool.true_and, blt_false] at this
          omega
        | some b =>
          have := amn_le ho.symm k hk (by rw [er, blt_iff.mpr (show rkN T t < rkN T k by omega)]; rfl)
          show Nat.blt (rkN T k) (rkN T b) = false
          rw [blt_false]; omega
theorem isr_ag {T T' : Nat → Int32} {k : Nat} (h : T' (16 + 7 * k + 5) = T (16 + 7 * k + 5)) : isr T' k = isr T k := by
  have e : Lo T' k = Lo T k := nT_ag h
  unfold isr
  rw [e]
/-- what a trip can follow has had its turn -/
theorem rsn_tk {T : Nat → Int32} {n t k : Nat} (hI : Inv T n) (ht : t < n) (hk : k < n) (h : rsn T n t k = 0) : isr T t = true ∧ isr T k = true ∧ nx T k = none ∧ bfo T t n = none ∧ Ar T k ≤ Dp T t ∧ tk T (some t) k = true := by
  unfold rsn at h
  split at h
  · omega
  · rename_i h1
    split at h
    · omega
    · rename_i h2
      split at h
      · omega
      · split at h
        · omega
        · rename_i h4
          have r1 : isr T t = true := by cases e : isr T t with | true => rfl | false => exact absurd (Or.inl e) h1
          have r2 : isr T k = true := by cases e : isr T k with | true => rfl | false => exact absurd (Or.inr e) h1
          have r3 : nx T k = none := by cases e : nx T k with | none => rfl | some j => exact absurd (Or.inl (by rw [e]; rfl)) h2
          have r4 : bfo T t n = none := by cases e : bfo T t n with | none => rfl | some j => exact absurd (Or.inr (by rw [e]; rfl)) h2
          have h5 : Ar T k = Dp T k + Ln T k := rfl
          have h6 := hI.ln1 hk
          have h7 := hI.lt hk
          have h8 := hI.lt ht
          refine ⟨r1, r2, r3, r4, by omega, ?_⟩
          unfold tk
          rw [r2, Bool.true_and]
          show Nat.blt (rkN T k) (rkN T t) = true
          rw [blt_iff]
          unfold rkN
          omega