/-! PURE: the duties of all blocks, a duty by its rank. -/
def dk (T : Nat → Int32) (s r : Nat) : Nat := ((ch (nd T) s)[r]?).getD 0
def dl (T : Nat → Int32) (s r : Nat) : Nat := (ld T (dk T s r)).getD 0
/-- what a duty's question is answered -/
def dv (T : Nat → Int32) (s r : Nat) (w : Int32) : Int32 := match ndu T s with
  | none => -1
  | some d => if r < d then (if w = 0 then nI (dk T s r) else if w = 1 then nI (dl T s r) else nI (Ar T (dl T s r)) - nI (Dp T (dk T s r))) else -1
section DUS
variable {T : Nat → Int32} {n : Nat}
theorem ndu_le (hI : Inv T n) {s d : Nat} (hs : s < n) (e : ndu T s = some d) : d ≤ 20 ∧ d = (ch (nd T) s).length ∧ ∀ k ∈ ch (nd T) s, k < n ∧ (ld T k).isSome = true := by
  unfold ndu at e
  cases ha : (ch (nd T) s).all (fun k => (ld T k).isSome) with
  | false => rw [ha, if_neg ff] at e; cases e
  | true =>
    rw [ha, if_pos tr] at e
    cases e
    have := ch_n (nd_gd hI) hs
    have := hI.n20
    exact ⟨by omega, rfl, fun k hk => ⟨cho_lt (nd_gd hI) (some s) (okO_some hs) k hk, List.all_eq_true.mp ha k hk⟩⟩
theorem dk_at (hI : Inv T n) {s d r : Nat} (hs : s < n) (e : ndu T s = some d) (hr : r < d) : (ch (nd T) s)[r]? = some (dk T s r) ∧ dk T s r < n ∧ ld T (dk T s r) = some (dl T s r) ∧ dl T s r < n := by
  obtain ⟨h1, h2, h3⟩ := ndu_le hI hs e
  have e1 : (ch (nd T) s)[r]? = some (dk T s r) := by
    unfold dk
    rw [List.getElem?_eq_getElem (by omega)]; rfl
  obtain ⟨h4, h5⟩ := h3 _ (List.mem_of_getElem? e1)
  have e2 : ld T (dk T s r) = some (dl T s r) := by
    unfold dl
    cases e3 : ld T (dk T s r) with
    | none => rw [e3] at h5; cases h5
    | some l => rfl
  exact ⟨e1, h4, e2, ld_lt hI h4 e2⟩
/-- the next duty -/
theorem dk_next (hI : Inv T n) {s d r : Nat} (hs : s < n) (e : ndu T s = some d) (hr : r + 1 < d) : nx T (dl T s r) = some (dk T s (r + 1)) := by
  obtain ⟨a1, a2, a3, a4⟩ := dk_at hI hs e (r := r) (by omega)
  obtain ⟨b1, b2, -, -⟩ := dk_at hI hs e hr
  have hnext : ∀ (o : Option Nat), okO n o → ∀ i k, (cho (nd T) o)[i]? = some k → (cho (nd T) o)[i + 1]? = (cho (nd T) (nd T k))[0]? :=
    ch_ind (nd_gd hI) (fun i k e => nomatch e) (fun j hj ih i k e => by
      rw [cho_some (nd_gd hI) hj] at e ⊢
      match i, e with
      | 0, e => cases e; rfl
      | i + 1, e => exact ih i k e)
  have h := hnext (some s) (okO_some hs) r _ a1
  have h' : (ch (nd T) s)[r + 1]? = (cho (nd T) (nd T (dk T s r)))[0]? := h
  rw [b1] at h'
  have e2 : nd T (dk T s r) = nx T (dl T s r) := by rw [nd, a3]
  rw [e2] at h'
  cases e3 : nx T (dl T s r) with
  | none => rw [e3] at h'; cases h'
  | some j =>
    rw [e3, cho_some (nd_gd hI) (hI.nxs a4 e3).1] at h'
    cases h'
    rfl
end DUS
section CDY
variable {h : HP} {T : Nat → Int32} {n : Nat}
theorem cc_duty (hR : RT h.1 0 T n) (hI : Inv T n) {s r : Nat} (hs : s < n) (hr : r < 2 ^ 31) (w : Int32) : p_U_fewestForward h (nI s) ∧ (¬ v_U_fewestForward h (nI s) ≤ nI r → p_U_firstOfDuty h (nI s) (nI r) ∧ p_U_lastOfDuty h (v_U_firstOfDuty h (nI s) (nI r))) ∧
    (if v_U_fewestForward h (nI s) ≤ nI r then -1 else (if w = 0 then v_U_firstOfDuty h (nI s) (nI r) else (if w = 1 then v_U_lastOfDuty h (v_U_firstOfDuty h (nI s) (nI r)) else v_T_arrivalOf h (v_U_lastOfDuty h (v_U_firstOfDuty h (nI s) (nI r))) - v_at 20 (h.1 4) (v_U_firstOfDuty h (nI s) (nI r))))) = dv T s r w := by
  have h20 := hI.n20
  obtain ⟨a, b⟩ := cc_forward hR hI hs
  rw [b, dv]
  refine ⟨a, ?_⟩
  cases e : ndu T s with
  | none =>
    have hle : eo none ≤ nI r := by
      show (-1 : Int32) ≤ nI r
      rw [Int32.le_iff_toInt_le, nI_toInt hr]
      have : (-1 : Int32).toInt = -1 := by decide +kernel
      omega
    exact ⟨fun z => absurd hle z, if_pos hle⟩
  | some d =>
    obtain ⟨h1, -, -⟩ := ndu_le hI hs e
    show (¬ nI d ≤ nI r → _) ∧ (if nI d ≤ nI r then _ else _) = _
    by_cases hrd : r < d
    · have hn : ¬ nI d ≤ nI r := nI_ge hrd (by omega)
      obtain ⟨k, k1, k2, k3, k4, k5⟩ := cc_firstOf hR hI hs e hrd
      obtain ⟨a1, a2, a3, a4⟩ := dk_at hI hs e hrd
      rw [a1] at k1
      cases k1
      rw [if_neg hn, k5]
      refine ⟨fun _ => ⟨k4, (cc_lastOf hR hI a2).1⟩, ?_⟩
      rw [(cc_lastOf hR hI a2).2, a3]
      show _ = (if r < d then _ else _)
      rw [if_pos hrd]
      show (if w = 0 then _ else (if w = 1 then nI (dl T s r) else v_T_arrivalOf h (nI (dl T s r)) - v_at 20 (h.1 4) (nI (dk T s r)))) = _
      rw [cc_arr hR hI a4, cc_dep hR hI a2]
    · have hp : nI d ≤ nI r := nI_le (by omega) (by omega)
      refine ⟨fun z => absurd hp z, ?_⟩
      rw [if_pos hp]
      exact (if_neg hrd).symm
end CDY
section MDY
variable {m : HP} {T : Nat → Int32} {n : Nat}
theorem mm_dutyTold (hT : m.1 1 = T) (hI : Inv T n) {s r : Nat} (hs : s < n) (hh : hd T n s = true) (hr : r < 2 ^ 31) (w : Int32) : p_M_dutyTold m (nI (cn (hd T n) s)) (nI r) w ∧ (v_M_dutyTold m (nI (cn (hd T n) s)) (nI r) w).1 = dv T s r w ∧ ((∀ c, c ≠ 7 → (v_M_dutyTold m (nI (cn (hd T n) s)) (nI r) w).2.1 c = m.1 c) ∧ (v_M_dutyTold m (nI (cn (hd T n) s)) (nI r) w).2.2 = m.2) := by
  have h20 := hI.n20
  obtain ⟨f1, f2⟩ := mm_firstOf hT hI hs hh
  obtain ⟨c1, c2, c3, c4⟩ := mm_cuts hT hI hs
  rw [p_M_dutyTold, v_M_dutyTold, f2]
  obtain ⟨y, hy⟩ : ∃ y, v_M_cuts m (nI s) = y := ⟨_, rfl⟩
  rw [hy] at c2 c3 c4 ⊢
  have hT' : y.2.1 1 = T := (c3.1 1 (by omega)).trans hT
  have key : p_M_firstOf m (nI (cn (hd T n) s)) ∧ (nI r < y.1 → (((nI r = 0 → True) ∧ (¬ nI r = 0 → ((am_in (nI r - 1) 20) ∧ (p_M_next y.2 (y.2.1 7 (am_ix (nI r - 1))))))) ∧ ((w = 0 → True) ∧ (¬ w = 0 → ((w = 1 → (am_in (nI r) 20)) ∧ (¬ w = 1 → ((am_in (nI r) 20) ∧ ((p_M_arrival y.2 (y.2.1 7 (am_ix (nI r)))) ∧ (p_M_of y.2 (if nI r = 0 then (nI s) else (v_M_next y.2 (y.2.1 7 (am_ix (nI r - 1))))) 3))))))))) ∧
      (if nI r < y.1 then (if w = 0 then (if nI r = 0 then nI s else (v_M_next y.2 (y.2.1 7 (am_ix (nI r - 1))))) else (if w = 1 then y.2.1 7 (am_ix (nI r)) else ((v_M_arrival y.2 (y.2.1 7 (am_ix (nI r)))) - (v_M_of y.2 (if nI r = 0 then (nI s) else (v_M_next y.2 (y.2.1 7 (am_ix (nI r - 1))))) 3)))) else -1) = dv T s r w := by
    refine ⟨f1, ?_⟩
    rw [c2, dv]
    cases e : ndu T s with
    | none =>
      have hn : ¬ nI r < eo none := by
        show ¬ nI r < (-1 : Int32)
        rw [Int32.lt_iff_toInt_lt, nI_toInt hr]
        have : (-1 : Int32).toInt = -1 := by decide +kernel
        omega
      exact ⟨fun z => absurd z hn, if_neg hn⟩
    | some d =>
      obtain ⟨h1, -, -⟩ := ndu_le hI hs e
      show (nI r < nI d → _) ∧ (if nI r < nI d then _ else _) = _
      by_cases hrd : r < d
      · have hp : nI r < nI d := nI_lt hrd (by omega)
        obtain ⟨a1, a2, a3, a4⟩ := dk_at hI hs e hrd
        have hE : y.2.1 7 (am_ix (nI r)) = nI (dl T s r) := by rw [nI_ix hr, c4 d e r _ a1, a3]; rfl
        have hF : (nI r = 0 → True) ∧ (¬ nI r = 0 → ((am_in (nI r - 1) 20) ∧ (p_M_next y.2 (y.2.1 7 (am_ix (nI r - 1)))))) := by
          refine ⟨fun _ => trivial, fun z => ?_⟩
          match r, hr, hrd, z with
          | 0, _, _, z => exact absurd nI_0 z
          | r + 1, hr, hrd, _ =>
            obtain ⟨b1, b2, b3, b4⟩ := dk_at hI hs e (r := r) (by omega)
            rw [nI_pred, nI_ix (by omega), c4 d e r _ b1, b3]
            exact ⟨nI_am (by omega) (by omega), (mm_next hT' hI b4).1⟩
        have hG : (if nI r = 0 then nI s else (v_M_next y.2 (y.2.1 7 (am_ix (nI r - 1))))) = nI (dk T s r) := by
          match r, hr, hrd with
          | 0, _, _ =>
            rw [if_pos nI_0]
            have : (ch (nd T) s)[0]? = some s := by rw [ch_step (nd_gd hI) hs]; rfl
            unfold dk
            rw [this]; rfl
          | r + 1, hr, hrd =>
            rw [if_neg (nI_ne0 (by omega) hr)]
            obtain ⟨b1, b2, b3, b4⟩ := dk_at hI hs e (r := r) (by omega)
            rw [nI_pred, nI_ix (by omega), c4 d e r _ b1, b3]
            show v_M_next y.2 (nI (dl T s r)) = _
            rw [(mm_next hT' hI b4).2, dk_next hI hs e hrd]; rfl
        rw [hG, hE]
        refine ⟨fun _ => ⟨hF, fun _ => trivial, fun _ => ⟨fun _ => nI_am (by omega) (by omega), fun _ => ⟨nI_am (by omega) (by omega), (mm_arr hT' hI a4).1, (mm_dp hT' hI a2).1⟩⟩⟩, ?_⟩
        rw [if_pos hp]
        show _ = (if r < d then _ else _)
        rw [if_pos hrd, (mm_arr hT' hI a4).2, (mm_dp hT' hI a2).2]
      · have hn : ¬ nI r < nI d := nI_nlt (by omega) hr
        refine ⟨fun z => absurd z hn, ?_⟩
        rw [if_neg hn]
        exact (if_neg hrd).symm
  refine ⟨⟨key.1, c1, fun y1 e1 => ?_⟩, ?_⟩
  · subst e1
    exact ⟨key.2.1, fun _ => trivial⟩
  · rw [← key.2.2]
    unfold bnd
    dsimp only
    by_cases hc : nI r < y.1
    · rw [if_pos hc, if_pos hc]
      exact ⟨rfl, c3⟩
    · rw [if_neg hc, if_neg hc]
      exact ⟨rfl, c3⟩
theorem mm_duties (hT : m.1 1 = T) (hI : Inv T n) : p_M_duties m ∧ (v_M_duties m).1 = eo (ado T n n) ∧ ((∀ c, c ≠ 7 → (v_M_duties m).2.1 c = m.1 c) ∧ (v_M_duties m).2.2 = m.2) := by
  have h20 := hI.n20
  have hado : ∀ j, j ≤ n → ∀ a, ado T n j = some a → a ≤ 20 * j := by
    intro j
    induction j with
    | zero => intro _ a e; cases e; exact Nat.le_refl _
    | succ j ih =>
      intro hj a e
      rw [ado] at e
      by_cases hh : hd T n j = true
      · rw [if_pos hh] at e
        cases e1 : ado T n j with
        | none => rw [e1] at e; cases e
        | some b =>
          cases e2 : ndu T j with
          | none => rw [e1, e2] at e; cases e
          | some c =>
            rw [e1, e2] at e
            cases e
            have h1 := ih (by omega) b e1
            have h2 := (ndu_le hI (s := j) (by omega) e2).1
            omega
      · rw [if_neg hh] at e
        have := ih (by omega) a e
        omega
  obtain ⟨a, r, b, c⟩ := itr_invN (step := s_M_duties_4 m) (pst := ps_M_duties_4 m) (fun v => ∃ j H, j ≤ n ∧ v = (eo (ado T n j), nI j, H) ∧ (∀ c, c ≠ 7 → H.1 c = m.1 c) ∧ H.2 = m.2) (fun v => n - am_ix v.2.1)
    (fun r => ∃ H, r = (eo (ado T n n), nI n, H) ∧ (∀ c, c ≠ 7 → H.1 c = m.1 c) ∧ H.2 = m.2) (0, 0, m)
    (by show n - am_ix 0 < _; omega) ⟨0, m, Nat.zero_le _, rfl, fun _ _ => rfl, rfl⟩
    (fun v hv => by
      obtain ⟨j, H, hj, rfl, k1, k2⟩ := hv
      have hT' : H.1 1 = T := (k1 1 (by omega)).trans hT
      refine ⟨mm_ps hT' hI hj (fun h => ⟨(mm_isFirst hT' hI h).1, fun _ => trivial, fun _ => (mm_cuts hT' hI h).1⟩), ?_⟩
      by_cases e : j < n
      · have hs : s_M_duties_4 m (eo (ado T n j), nI j, H) = (if v_M_isFirst H (nI j) = 0 then .inl (eo (ado T n j), nI j + 1, H) else .inl ((if (v_M_cuts H (nI j)).1 = -1 then -1 else (if eo (ado T n j) = -1 then -1 else (eo (ado T n j) + (v_M_cuts H (nI j)).1))), nI j + 1, (v_M_cuts H (nI j)).2)) := by
          show (if nI j < H.1 1 (am_ix 15) then _ else _) = _
          rw [if_pos (mm_lt hT' hI e)]
          rfl
        have hm : n - am_ix (nI (j + 1)) < n - am_ix (nI j) := by rw [nI_ix (by omega), nI_ix (by omega)]; omega
        obtain ⟨d1, d2, d3, -⟩ := mm_cuts hT' hI e
        rw [hs, (mm_isFirst hT' hI e).2, d2, nI_1]
        cases e2 : hd T n j with
        | false =>
          rw [if_pos b01_f]
          exact Or.inl ⟨_, rfl, ⟨j + 1, H, e, by rw [ado, e2, if_neg ff], k1, k2⟩, hm⟩
        | true =>
          rw [if_neg b01_t]
          refine Or.inl ⟨_, rfl, ⟨j + 1, (v_M_cuts H (nI j)).2, e, ?_, fun c hc => (d3.1 c hc).trans (k1 c hc), d3.2.trans k2⟩, hm⟩
          rw [ado, e2, if_pos tr]
          cases e3 : ndu T j with
          | none =>
            rw [if_pos (show eo none = -1 from rfl)]
            cases ado T n j <;> rfl
          | some c =>
            have hc := (ndu_le hI e e3).1
            rw [if_neg (show ¬ eo (some c) = -1 from nI_m1 (by omega))]
            cases e4 : ado T n j with
            | none => rw [if_pos (show eo none = -1 from rfl)]; rfl
            | some a =>
              have ha := hado j hj a e4
              rw [if_neg (show ¬ eo (some a) = -1 from nI_m1 (by omega))]
              show (nI a + nI c, _, _) = _
              rw [nI_add]; rfl
      · have e4 : j = n := by omega
        subst e4
        refine Or.inr ⟨(eo (ado T j j), nI j, H), ?_, H, rfl, k1, k2⟩
        show (if nI j < H.1 1 (am_ix 15) then _ else _) = _
        rw [if_neg (mm_nlt hT' hI)])
  obtain ⟨H, rfl, k1, k2⟩ := c
  refine ⟨a, ?_⟩
  rw [v_M_duties, b]
  exact ⟨rfl, k1, k2⟩
end MDY
