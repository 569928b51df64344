/-! PURE: the duties of all blocks, a duty by its rank. -/
def dk (T : Nat → Int32) (s r : Nat) : Nat := ((ch (nd T) s)[r]?).getD 0
def dl (T : Nat → Int32) (s r : Nat) : Nat := (ld T (dk T s r)).getD 0
/-- what a duty's question is answered -/
def dv (T : Nat → Int32) (s r : Nat) (w : Int32) : Int32 := match ndu T s with
  | none => -1
  | some d => if r < d then (if w = 0 then nI (dk T s r) else if w = 1 then nI (dl T s r) else nI (Ar T (dl T s r)) - nI (Dp T (dk T s r))) else -1
section DUS
variable {T : Nat → Int32} {n : Nat}
theorem ndu_le (hI : Inv T n) {s d : Nat} (hs : s < n) (e : ndu T s = some d) : d ≤ 20 ∧ d = (ch (nd T) s).length ∧ ∀ k ∈ ch (nd T) s, k < n ∧ (ld T k).isSome = true := by
  unfold ndu at e
  cases ha : (ch (nd T) s).all (fun k => (ld T k).isSome) with
  | false => rw [ha, if_neg ff] at e; cases e
  | true =>
    rw [ha, if_pos tr] at e
    cases e
    have := ch_n (nd_gd hI) hs
    have := hI.n20
    exact ⟨by omega, rfl, fun k hk => ⟨cho_lt (nd_gd hI) (some s) (okO_some hs) k hk, List.all_eq_true.mp ha k hk⟩⟩
theorem dk_at (hI : Inv T n) {s d r : Nat} (hs : s < n) (e : ndu T s = some d) (hr : r < d) : (ch (nd T) s)[r]? = some (dk T s r) ∧ dk T s r < n ∧ ld T (dk T s r) = some (dl T s r) ∧ dl T s r < n := by
  obtain ⟨h1, h2, h3⟩ := ndu_le hI hs e
  have e1 : (ch (nd T) s)[r]? = some (dk T s r) := by
    unfold dk
    rw [List.getElem?_eq_getElem (by omega)]; rfl
  obtain ⟨h4, h5⟩ := h3 _ (List.mem_of_getElem? e1)
  have e2 : ld T (dk T s r) = some (dl T s r) := by
    unfold dl
    cases e3 : ld T (dk T s r) with
    | none => rw [e3] at h5; cases h5
    | some l => rfl
  exact ⟨e1, h4, e2, ld_lt hI h4 e2⟩
/-- the next duty -/
theorem dk_next (hI : Inv T n) {s d r : Nat} (hs : s < n) (e : ndu T s = some d) (hr : r + 1 < d) : nx T (dl T s r) = some (dk T s (r + 1)) := by
  obtain ⟨a1, a2, a3, a4⟩ := dk_at hI hs e (r := r) (by omega)
  obtain ⟨b1, b2, -, -⟩ := dk_at hI hs e hr
  have hnext : ∀ (o : Option Nat), okO n o → ∀ i k, (cho (nd T) o)[i]? = some k → (cho (nd T) o)[i + 1]? = (cho (nd T) (nd T k))[0]? :=
    ch_ind (nd_gd hI) (fun i k e => nomatch e) (fun j hj ih i k e => by
      rw [cho_some (nd_gd hI) hj] at e ⊢
      match i, e with
      | 0, e => cases e; rfl
      | i + 1, e => exact ih i k e)
  have h := hnext (some s) (okO_some hs) r _ a1
  have h' : (ch (nd T) s)[r + 1]? = (cho (nd T) (nd T (dk T s r)))[0]? := h
  rw [b1] at h'
  have e2 : nd T (dk T s r) = nx T (dl T s r) := by rw [nd, a3]
  rw [e2] at h'
  cases e3 : nx T (dl T s r) with
  | none => rw [e3] at h'; cases h'
  | some j =>
    rw [e3, cho_some (nd_gd hI) (hI.nxs a4 e3).1] at h'
    cases h'
    rfl
end DUS
section CDY
variable {h : HP} {T : Nat → Int32} {n : Nat}
theorem cc_duty (hR : RT h.1 0 T n) (hI : Inv T n) {s r : Nat} (hs : s < n) (hr : r < 2 ^ 31) (w : Int32) : p_U_fewestForward h (nI s) ∧ (¬ v_U_fewestForward h (nI s) ≤ nI r → p_U_firstOfDuty h (nI s) (nI r) ∧ p_U_lastOfDuty h (v_U_firstOfDuty h (nI s) (nI r))) ∧
    (if v_U_fewestForward h (nI s) ≤ nI r then -1 else (if w = 0 then v_U_firstOfDuty h (nI s) (nI r) else (if w = 1 then v_U_lastOfDuty h (v_U_firstOfDuty h (nI s) (nI r)) else v_T_arrivalOf h (v_U_lastOfDuty h (v_U_firstOfDuty h (nI s) (nI r))) - v_at 20 (h.1 4) (v_U_firstOfDuty h (nI s) (nI r))))) = dv T s r w := by
  have h20 := hI.n20
  obtain ⟨a, b⟩ := cc_forward hR hI hs
  rw [b, dv]
  refine ⟨a, ?_⟩
  cases e : ndu T s with
  | none =>
    have hle : eo none ≤ nI r := by
      show (-1 : Int32) ≤ nI r
      rw [Int32.le_iff_toInt_le, nI_toInt hr]
      have : (-1 : Int32).toInt = -1 := by decide +kernel
      omega
    exact ⟨fun z => absurd hle z, if_pos hle⟩
  | some d =>
    obtain ⟨h1, -, -⟩ := ndu_le hI hs e
    show (¬ nI d ≤ nI r → _) ∧ (if nI d ≤ nI r then _ else _) = _
    by_cases hrd : r < d
    · have hn : ¬ nI d ≤ nI r := nI_ge hrd (by omega)
      obtain ⟨k, k1, k2, k3, k4, k5⟩ := cc_firstOf hR hI hs e hrd
      obtain ⟨a1, a2, a3, a4⟩ := dk_at hI hs e hrd
      rw [a1] at k1
      cases k1
      rw [if_neg hn, k5]
      refine ⟨fun _ => ⟨k4, (cc_lastOf hR hI a2).1⟩, ?_⟩
      rw [(cc_lastOf hR hI a2).2, a3]
      show _ = (if r < d then _ else _)
      rw [if_pos hrd]
      show (if w = 0 then _ else (if w = 1 then nI (dl T s r) else v_T_arrivalOf h (nI (dl T s r)) - v_at 20 (h.1 4) (nI (dk T s r)))) = _
      rw [cc_arr hR hI a4, cc_dep hR hI a2]
    · have hp : nI d ≤ nI r := nI_le (by omega) (by omega)
      refine ⟨fun z => absurd hp z, ?_⟩
      rw [if_pos hp]
      exact (if_neg hrd).symm
end CDY
section MDY
variable {m : HP} {T : Nat → Int32} {n : Nat}
end MDY
