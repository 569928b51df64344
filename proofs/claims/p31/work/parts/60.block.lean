/-! PURE: all trips are blocked, in class and model. (Rows of bits: turned from the kit's texts for pasting.) -/
def zbt (x : Int32) (i : Nat) : Bool := x.toBitVec.getLsbD i
theorem zb_ext {x y : Int32} (h : ∀ i, i < 32 → zbt x i = zbt y i) : x = y := Int32.toBitVec_inj.mp (BitVec.eq_of_getLsbD_eq (fun i hi => h i hi))
theorem zb_or (x y : Int32) (i : Nat) : zbt (x ||| y) i = (zbt x i || zbt y i) := by unfold zbt; rw [Int32.toBitVec_or, BitVec.getLsbD_or]
theorem zb_and (x y : Int32) (i : Nat) : zbt (x &&& y) i = (zbt x i && zbt y i) := by unfold zbt; rw [Int32.toBitVec_and, BitVec.getLsbD_and]
theorem zb_0 (i : Nat) : zbt 0 i = false := BitVec.getLsbD_zero
theorem zs_l : ∀ n, n < 32 → ((nI n &&& 31).toBitVec.smod 32).toNat = n := by decide +kernel
theorem zb_shl (n : Nat) (hn : n < 32) (x : Int32) {i : Nat} (hi : i < 32) : zbt (x <<< (nI n &&& 31)) i = (decide (n ≤ i) && zbt x (i - n)) := by
  unfold zbt
  rw [Int32.toBitVec_shiftLeft]
  show (x.toBitVec <<< ((nI n &&& 31).toBitVec.smod 32).toNat).getLsbD i = _
  rw [zs_l n hn, BitVec.getLsbD_shiftLeft]
  rcases Nat.lt_or_ge i n with h | h
  · simp [h, Nat.not_le.mpr h]
  · simp [hi, h, Nat.not_lt.mpr h]
theorem zb_sshr (n : Nat) (hn : n < 32) (x : Int32) {i : Nat} (hi : i < 32) : zbt (x >>> (nI n &&& 31)) i = if n + i < 32 then zbt x (n + i) else zbt x 31 := by
  unfold zbt
  rw [Int32.toBitVec_shiftRight]
  show (x.toBitVec.sshiftRight ((nI n &&& 31).toBitVec.smod 32).toNat).getLsbD i = _
  rw [zs_l n hn, BitVec.getLsbD_sshiftRight, BitVec.msb_eq_getLsbD_last]
  simp [hi]
theorem zbt_1 : ∀ i, i < 32 → zbt 1 i = decide (i = 0) := by decide +kernel
theorem zbt_get (x : Int32) {k : Nat} (hk : k < 31) : (x >>> (nI k &&& 31)) &&& 1 = b01 (zbt x k) := by
  refine zb_ext (fun i hi => ?_)
  rw [zb_and, zb_sshr k (by omega) x hi, zbt_1 i hi]
  by_cases e : i = 0
  · subst e
    rw [if_pos (by omega), Nat.add_zero]
    cases zbt x k with
    | true => rfl
    | false => rfl
  · rw [decide_eq_false e, Bool.and_false]
    cases zbt x k with
    | true => show false = zbt 1 i; rw [zbt_1 i hi, decide_eq_false e]
    | false => exact (zb_0 i).symm
theorem zbt_or (x : Int32) {k j : Nat} (hk : k < 31) (hj : j < 32) : zbt (x ||| (1 <<< (nI k &&& 31))) j = (zbt x j || decide (j = k)) := by
  rw [zb_or, zb_shl k (by omega) 1 hj]
  congr 1
  by_cases e : k ≤ j
  · rw [decide_eq_true e, Bool.true_and, zbt_1 _ (by omega)]
    by_cases e2 : j = k
    · rw [decide_eq_true e2, decide_eq_true (by omega)]
    · rw [decide_eq_false e2, decide_eq_false (by omega)]
  · rw [decide_eq_false e, Bool.false_and, decide_eq_false (by omega)]
/-- the first that has the least key, of those that p takes -/
def amn (f : Nat → Nat) (p : Nat → Bool) : Nat → Option Nat
  | 0 => none
  | j + 1 => if p j = true then (match amn f p j with | none => some j | some b => if f j < f b then some j else some b) else amn f p j
theorem amn_lt {f : Nat → Nat} {p : Nat → Bool} : ∀ {n b : Nat}, amn f p n = some b → b < n ∧ p b = true
  | 0, _, h => nomatch h
  | n + 1, b, h => by
    rw [amn] at h
    by_cases e : p n = true
    · rw [if_pos e] at h
      cases e2 : amn f p n with
      | none => rw [e2] at h; cases h; exact ⟨by omega, e⟩
      | some c =>
        rw [e2] at h
        obtain ⟨a, d⟩ := amn_lt e2
        have h' : (if f n < f c then some n else some c) = some b := h
        split at h'
        · cases h'; exact ⟨by omega, e⟩
        · cases h'; exact ⟨by omega, d⟩
    · rw [if_neg e] at h
      obtain ⟨a, d⟩ := amn_lt h
      exact ⟨by omega, d⟩
theorem amn_none {f : Nat → Nat} {p : Nat → Bool} : ∀ {n : Nat}, amn f p n = none → ∀ k, k < n → p k = false
  | 0, _, k, hk => absurd hk (Nat.not_lt_zero _)
  | n + 1, h, k, hk => by
    rw [amn] at h
    cases e : p n with
    | true =>
      rw [e, if_pos tr] at h
      cases e2 : amn f p n with
      | none => rw [e2] at h; cases h
      | some c =>
        rw [e2] at h
        have h' : (if f n < f c then some n else some c) = none := h
        split at h' <;> cases h'
    | false =>
      rw [e, if_neg ff] at h
      by_cases e2 : k = n
      · rw [e2]; exact e
      · exact amn_none h k (by omega)
theorem amn_le {f : Nat → Nat} {p : Nat → Bool} : ∀ {n b : Nat}, amn f p n = some b → ∀ k, k < n → p k = true → f b ≤ f k
  | 0, _, h, _, _, _ => nomatch h
  | n + 1, b, h, k, hk, hp => by
    rw [amn] at h
    cases e : p n with
    | true =>
      rw [e, if_pos tr] at h
      cases e2 : amn f p n with
      | none =>
        rw [e2] at h; cases h
        by_cases e3 : k = n
        · rw [e3]; exact Nat.le_refl _
        · rw [amn_none e2 k (by omega)] at hp; cases hp
      | some c =>
        rw [e2] at h
        have h' : (if f n < f c then some n else some c) = some b := h
        have hc := amn_le e2
        split at h'
        · cases h'
          by_cases e3 : k = n
          · rw [e3]; exact Nat.le_refl _
          · have := hc k (by omega) hp; omega
        · cases h'
          by_cases e3 : k = n
          · rw [e3]; omega
          · exact hc k (by omega) hp
    | false =>
      rw [e, if_neg ff] at h
      by_cases e3 : k = n
      · rw [e3, e] at hp; cases hp
      · exact amn_le h k (by omega) hp
theorem amn_congr {f : Nat → Nat} {p q : Nat → Bool} : ∀ {n : Nat}, (∀ k, k < n → p k = q k) → amn f p n = amn f q n
  | 0, _ => rfl
  | n + 1, h => by rw [amn, amn, h n (by omega), amn_congr (fun k hk => h k (by omega))]
def rkN (T : Nat → Int32) (k : Nat) : Nat := Dp T k * 20 + k
theorem rkN_inj {T : Nat → Int32} {a b : Nat} (ha : a < 20) (hb : b < 20) (h : rkN T a = rkN T b) : a = b := by unfold rkN at h; omega
section CBL
variable {h : HP} {T : Nat → Int32} {n : Nat}
theorem cc_rankO (hR : RT h.1 0 T n) (hI : Inv T n) {o : Option Nat} (ho : okO n o) : v_T_rankOf h (eo o) = match o with | none => -1 | some k => nI (rkN T k) := by
  cases o with
  | none => rw [v_T_rankOf, if_pos (show eo none = -1 from rfl)]
  | some k => exact cc_rank hR hI (ho k rfl)
/-- the next trip by departures -/
theorem cc_behind (hR : RT h.1 0 T n) (hI : Inv T n) {o : Option Nat} (ho : okO n o) : p_T_runTripBehind h (eo o) ∧ v_T_runTripBehind h (eo o) = eo (amn (rkN T) (fun k => isr T k && (match o with | none => true | some b => Nat.blt (rkN T b) (rkN T k))) n) := by
  have h20 := hI.n20
  have hrk : ∀ k, k < n → rkN T k < 100000 := fun k hk => by have := hI.dpL hk; unfold rkN; omega
  let p : Nat → Bool := fun k => isr T k && (match o with | none => true | some b => Nat.blt (rkN T b) (rkN T k))
  obtain ⟨a, b⟩ := itr_for (step := s_T_runTripBehind_11 h (eo o)) (pst := ps_T_runTripBehind_11 h (eo o)) (fun j => (eo (amn (rkN T) p j), nI j)) n (eo (amn (rkN T) p n), nI n) (by omega)
    (fun j hj => by
      have hj20 := hI.lt hj
      have e1 : (if v_T_isRun h (nI j) = 0 then (0 : Int32) else (if v_T_rankOf h (nI j) ≤ v_T_rankOf h (eo o) then (0 : Int32) else 1)) = b01 (p j) := by
        rw [cc_isRun hR hI hj, cc_rank hR hI hj, cc_rankO hR hI ho]
        show _ = b01 (isr T j && (match o with | none => true | some b => Nat.blt (rkN T b) (rkN T j)))
        cases isr T j with
        | false => rfl
        | true =>
          rw [if_neg b01_t, Bool.true_and]
          cases o with
          | none =>
            have : ¬ nI (Dp T j * 20 + j) ≤ (-1 : Int32) := by
              have h1 := hrk j hj
              unfold rkN at h1
              rw [Int32.le_iff_toInt_le, nI_toInt (by omega)]
              have : (-1 : Int32).toInt = -1 := by decide +kernel
              omega
            exact if_neg this
          | some c =>
            have h1 := hrk j hj
            have h2 := hrk c (ho c rfl)
            show (if nI (rkN T j) ≤ nI (rkN T c) then (0 : Int32) else 1) = b01 (Nat.blt (rkN T c) (rkN T j))
            exact if_nb _ (by rw [nI_leI (by omega) (by omega), blt_false]; omega)
      show (if nI j < h.1 0 11 then Sum.inl ((if (if v_T_isRun h (nI j) = 0 then (0 : Int32) else (if v_T_rankOf h (nI j) ≤ v_T_rankOf h (eo o) then (0 : Int32) else 1)) = 0 then eo (amn (rkN T) p j) else (if eo (amn (rkN T) p j) = -1 then nI j else (if v_T_rankOf h (nI j) < v_T_rankOf h (eo (amn (rkN T) p j)) then nI j else eo (amn (rkN T) p j)))), nI j + 1) else _) = _
      rw [if_pos (cc_lt hR hI hj), e1, nI_1, amn]
      congr 2
      cases p j with
      | false => rw [if_pos b01_f, if_neg ff]
      | true =>
        rw [if_neg b01_t, if_pos tr]
        cases e2 : amn (rkN T) p j with
        | none => rw [if_pos (show eo none = -1 from rfl)]; rfl
        | some c =>
          have hc := (amn_lt e2).1
          have h1 := hrk j hj
          have h2 := hrk c (by omega)
          rw [if_neg (show ¬ eo (some c) = -1 from nI_m1 (by omega)), cc_rank hR hI hj, cc_rankO hR hI (okO_some (show c < n by omega))]
          show (if nI (rkN T j) < nI (rkN T c) then nI j else nI c) = eo (if rkN T j < rkN T c then some j else some c)
          by_cases e3 : rkN T j < rkN T c
          · rw [if_pos e3, if_pos (nI_lt e3 (by omega))]; rfl
          · rw [if_neg e3, if_neg (nI_nlt (by omega) (by omega))]; rfl)
    (by
      show (if nI n < h.1 0 11 then _ else _) = _
      rw [if_neg (cc_nlt hR hI)]) (fun _ _ => trivial)
  have e0 : (((-1 : Int32), (0 : Int32)) : Int32 × Int32) = (eo (amn (rkN T) p 0), nI 0) := rfl
  exact ⟨by rw [p_T_runTripBehind, e0]; exact a, by rw [v_T_runTripBehind, e0, b]⟩
/-- the trip that one should follow -/
theorem cc_waiting (hR : RT h.1 0 T n) (hI : Inv T n) {t : Nat} (ht : t < n) : p_T_longestWaiting h (nI t) ∧ v_T_longestWaiting h (nI t) = eo (amn (Ar T) (fun k => Nat.beq (rsn T n t k) 0) n) := by
  have h20 := hI.n20
  have hA : ∀ k, k < n → Ar T k < 100000 := fun k hk => by have := hI.dpL hk; have := hI.lnL hk; show Dp T k + Ln T k < _; omega
  let p : Nat → Bool := fun k => Nat.beq (rsn T n t k) 0
  have hr5 : ∀ k, rsn T n t k < 100 := fun k => by unfold rsn; repeat' (first | omega | split)
  obtain ⟨a, b⟩ := itr_for (step := s_T_longestWaiting_4 h (nI t)) (pst := ps_T_longestWaiting_4 h (nI t)) (fun j => (eo (amn (Ar T) p j), nI j)) n (eo (amn (Ar T) p n), nI n) (by omega)
    (fun j hj => by
      have e1 : (if v_T_reasonAgainst h (nI t) (nI j) = 0 then (1 : Int32) else 0) = b01 (p j) := by
        rw [cc_reason hR hI ht hj]
        have := hr5 j
        exact if_b _ (by rw [nI_z (by omega)]; exact beq_iff.symm)
      show (if nI j < h.1 0 11 then Sum.inl ((if (if v_T_reasonAgainst h (nI t) (nI j) = 0 then (1 : Int32) else 0) = 0 then eo (amn (Ar T) p j) else (if eo (amn (Ar T) p j) = -1 then nI j else (if v_T_arrivalOf h (nI j) < v_T_arrivalOf h (eo (amn (Ar T) p j)) then nI j else eo (amn (Ar T) p j)))), nI j + 1) else _) = _
      rw [if_pos (cc_lt hR hI hj), e1, nI_1, amn]
      congr 2
      cases p j with
      | false => rw [if_pos b01_f, if_neg ff]
      | true =>
        rw [if_neg b01_t, if_pos tr]
        cases e2 : amn (Ar T) p j with
        | none => rw [if_pos (show eo none = -1 from rfl)]; rfl
        | some c =>
          have hc := (amn_lt e2).1
          have h1 := hA j hj
          have h2 := hA c (by omega)
          rw [if_neg (show ¬ eo (some c) = -1 from nI_m1 (by omega)), cc_arr hR hI hj]
          show (if nI (Ar T j) < v_T_arrivalOf h (nI c) then nI j else nI c) = eo (if Ar T j < Ar T c then some j else some c)
          rw [cc_arr hR hI (show c < n by omega)]
          by_cases e3 : Ar T j < Ar T c
          · rw [if_pos e3, if_pos (nI_lt e3 (by omega))]; rfl
          · rw [if_neg e3, if_neg (nI_nlt (by omega) (by omega))]; rfl)
    (by
      show (if nI n < h.1 0 11 then _ else _) = _
      rw [if_neg (cc_nlt hR hI)]) (fun _ _ => trivial)
  have e0 : (((-1 : Int32), (0 : Int32)) : Int32 × Int32) = (eo (amn (Ar T) p 0), nI 0) := rfl
  exact ⟨by rw [p_T_longestWaiting, e0]; exact a, by rw [v_T_longestWaiting, e0, b]⟩
end CBL
section MBL
variable {m : HP} {T : Nat → Int32} {n : Nat}
theorem mm_bit (hT : m.1 1 = T) (hI : Inv T n) {k : Nat} (hk : k < n) : ((m.1 0 9) >>> (nI k &&& 31)) &&& 1 = b01 (zbt (m.1 0 9) k) := by
  have := hI.lt hk
  exact zbt_get _ (by omega)
end MBL
