/-! PURE: texts: the class reads to the first error, counts the journeys. -/
def TX (h : HP) (L : Nat) (s : Nat → Nat) : Prop := h.1 18 2 = nI L ∧ ∀ i, i < L → h.1 19 i = nI (s i)
theorem TX.k {h h' : HP} {L : Nat} {s : Nat → Nat} (t : TX h L s) (a : hK h h') : TX h' L s := ⟨by rw [a.2]; exact t.1, fun i hi => by rw [a.1 19 (by omega)]; exact t.2 i hi⟩
/-- reading to the first error -/
def rd (s : Nat → Nat) : Nat → Nat → Nat → (Nat → Option Nat) → Nat × Nat × (Nat → Option Nat)
  | 0, i, p, f => (i, p, f)
  | n + 1, i, p, f => match xt p f (s i) with
    | none => (i, p, f)
    | some y => rd s n (i + 1) y.1 y.2
theorem rd_none {s : Nat → Nat} {n i p : Nat} {f : Nat → Option Nat} (e : xt p f (s i) = none) : rd s (n + 1) i p f = (i, p, f) := by rw [rd, e]
theorem rd_some {s : Nat → Nat} {n i p : Nat} {f : Nat → Option Nat} {y : Nat × (Nat → Option Nat)} (e : xt p f (s i) = some y) : rd s (n + 1) i p f = rd s n (i + 1) y.1 y.2 := by rw [rd, e]
theorem rd_le (s : Nat → Nat) : ∀ (n i p : Nat) (f : Nat → Option Nat), i ≤ (rd s n i p f).1 ∧ (rd s n i p f).1 ≤ i + n
  | 0, _, _, _ => ⟨Nat.le_refl _, Nat.le_refl _⟩
  | n + 1, i, p, f => by
    cases e : xt p f (s i) with
    | none => rw [rd_none e]; exact ⟨Nat.le_refl _, Nat.le_add_right _ _⟩
    | some y => rw [rd_some e]; have := rd_le s n (i + 1) y.1 y.2; omega
theorem xt_xo {p c : Nat} {f : Nat → Option Nat} {y : Nat × (Nat → Option Nat)} (h : XO p f) (e : xt p f c = some y) : XO y.1 y.2 := by
  have h5 := h.1
  unfold xt at e
  by_cases h3 : p < 3
  · rw [if_pos h3] at e
    by_cases h1 : 48 ≤ c ∧ c ≤ 51
    · rw [if_pos h1] at e; cases e; exact h.sto (by omega) (by omega)
    · rw [if_neg h1] at e; cases e
  · rw [if_neg h3] at e
    by_cases h4 : p = 3
    · rw [if_pos h4] at e
      by_cases h1 : c = 64
      · rw [if_pos h1] at e; cases e; exact ⟨by show 4 ≤ 5; omega, h.2⟩
      · rw [if_neg h1] at e; cases e
    · rw [if_neg h4] at e
      have hmo : mo p ≤ 1439 := by unfold mo; split <;> omega
      by_cases h1 : 48 ≤ c ∧ c ≤ 57
      · rw [if_pos h1] at e
        cases ef : f p with
        | none =>
          rw [ef] at e
          have e' : (if p = 5 ∧ c = 48 then none else some (p, st f p (c - 48))) = some y := e
          by_cases h6 : p = 5 ∧ c = 48
          · rw [if_pos h6] at e'; cases e'
          · rw [if_neg h6] at e'; cases e'
            exact h.sto (by omega) h5
        | some v =>
          rw [ef] at e
          have e' : (if v = 0 ∨ mo p < 10 * v + (c - 48) then none else some (p, st f p (10 * v + (c - 48)))) = some y := e
          by_cases h6 : v = 0 ∨ mo p < 10 * v + (c - 48)
          · rw [if_pos h6] at e'; cases e'
          · rw [if_neg h6] at e'; cases e'
            exact h.sto (by omega) h5
      · rw [if_neg h1] at e
        cases ef : f p with
        | none => rw [ef] at e; cases e
        | some v =>
          rw [ef] at e
          have e' : (if p = 4 then (if c = 43 then some (5, f) else none) else (if c = 59 then some (0, f0) else none)) = some y := e
          by_cases h6 : p = 4
          · rw [if_pos h6] at e'
            by_cases h7 : c = 43
            · rw [if_pos h7] at e'; cases e'; exact ⟨by show 5 ≤ 5; omega, h.2⟩
            · rw [if_neg h7] at e'; cases e'
          · rw [if_neg h6] at e'
            by_cases h7 : c = 59
            · rw [if_pos h7] at e'; cases e'; exact XO.z
            · rw [if_neg h7] at e'; cases e'
theorem rd_xo (s : Nat → Nat) : ∀ (n i p : Nat) (f : Nat → Option Nat), XO p f → XO (rd s n i p f).2.1 (rd s n i p f).2.2
  | 0, _, _, _, h => h
  | n + 1, i, p, f, h => by
    cases e : xt p f (s i) with
    | none => rw [rd_none e]; exact h
    | some y => rw [rd_some e]; exact rd_xo s n (i + 1) y.1 y.2 (xt_xo h e)
section CRD
variable {s : Nat → Nat} {L : Nat}
theorem cx_loop (hL : L ≤ 60) (hs : ∀ i, i < L → s i ≤ 126) (h y : HP) : ∀ (n i : Nat) (H : HP) (p : Nat) (f : Nat → Option Nat) (N : Nat), i + n = L → n < N → CX H p f → XO p f → TX H L s → itrp (s_X_readToError_6 h y) (ps_X_readToError_6 h y) N (nI i, H) ∧ ∃ r, itr (s_X_readToError_6 h y) N (nI i, H) = some r ∧ r.1 = nI (rd s n i p f).1 ∧ hK H r.2 ∧ ((rd s n i p f).1 = L → CX r.2 (rd s n i p f).2.1 (rd s n i p f).2.2)
  | _, _, _, _, _, 0, _, hN, _, _, _ => absurd hN (Nat.not_lt_zero _)
  | 0, i, H, p, f, N + 1, hi, hN, hc, hx, ht => by
    have hn : ¬ nI i < H.1 18 2 := by rw [ht.1]; exact nI_nlt (b := L) (by omega) (by omega)
    have e1 : s_X_readToError_6 h y (nI i, H) = .inr (nI i, H) := by
      show (if nI i < H.1 18 2 then _ else Sum.inr (nI i, H)) = _
      rw [if_neg hn]
    refine ⟨⟨⟨fun z => absurd z hn, fun _ => trivial⟩, fun v' hv => by rw [e1] at hv; cases hv⟩, (nI i, H), by rw [itr, e1], rfl, hK.rf, fun _ => hc⟩
  | n + 1, i, H, p, f, N + 1, hi, hN, hc, hx, ht => by
    have hn : nI i < H.1 18 2 := by rw [ht.1]; exact nI_lt (b := L) (by omega) (by omega)
    have ea : v_at 60 (H.1 19) (nI i) = nI (s i) := by rw [at_nI (by omega) _ (by omega)]; exact ht.2 i (by omega)
    obtain ⟨t1, t2⟩ := cx_takes hc hx (hs i (by omega))
    have e1 : s_X_readToError_6 h y (nI i, H) = (if (v_X_takes H (nI (s i))).1 = 0 then .inr (nI i, (v_X_takes H (nI (s i))).2) else .inl (nI (i + 1), (v_X_takes H (nI (s i))).2)) := by
      show (if nI i < H.1 18 2 then (if (v_X_takes H (v_at 60 (H.1 19) (nI i))).1 = 0 then Sum.inr (nI i, (v_X_takes H (v_at 60 (H.1 19) (nI i))).2) else Sum.inl (nI i + 1, (v_X_takes H (v_at 60 (H.1 19) (nI i))).2)) else _) = _
      rw [if_pos hn, ea, nI_1]
    have hp : ps_X_readToError_6 h y (nI i, H) := ⟨fun _ => by show p_X_takes H (v_at 60 (H.1 19) (nI i)); rw [ea]; exact t1, fun z => absurd hn z⟩
    cases e : xt p f (s i) with
    | none =>
      rw [e] at t2
      rw [rd_none e]
      rw [if_pos t2.2] at e1
      refine ⟨⟨hp, fun v' hv => by rw [e1] at hv; cases hv⟩, (nI i, (v_X_takes H (nI (s i))).2), by rw [itr, e1], rfl, t2.1, fun z => ?_⟩
      exact absurd (show i = L from z) (by omega)
    | some w =>
      rw [e] at t2
      obtain ⟨k1, k2, k3, k4⟩ := t2
      rw [rd_some e]
      rw [if_neg (by rw [k2]; exact one0)] at e1
      obtain ⟨a, r, b1, b2, b3, b4⟩ := cx_loop hL hs h y n (i + 1) (v_X_takes H (nI (s i))).2 w.1 w.2 N (by omega) (by omega) k3 k4 (ht.k k1)
      exact ⟨⟨hp, fun v' hv => by rw [e1] at hv; cases hv; exact a⟩, r, by rw [itr, e1]; exact b1, b2, k1.tr b3, b4⟩
theorem cx_read (hL : L ≤ 60) (hs : ∀ i, i < L → s i ≤ 126) {h : HP} (ht : TX h L s) : p_X_readToError h ∧ (v_X_readToError h).1 = nI (rd s L 0 0 f0).1 ∧ hK h (v_X_readToError h).2 ∧ ((rd s L 0 0 f0).1 = L → CX (v_X_readToError h).2 (rd s L 0 0 f0).2.1 (rd s L 0 0 f0).2.2) := by
  obtain ⟨b1, b2⟩ := cx_begin h
  obtain ⟨a, r, c1, c2, c3, c4⟩ := cx_loop hL hs h (v_X_beginJourney h) L 0 _ 0 f0 NF (by omega) (by rw [NF_eq]; omega) b1 XO.z (ht.k b2)
  have ev : v_X_readToError h = r := by
    show (match itr (s_X_readToError_6 h (v_X_beginJourney h)) NF (0, v_X_beginJourney h) with | some r2 => (r2.1, r2.2) | none => (0, h)) = r
    rw [show ((0 : Int32), v_X_beginJourney h) = (nI 0, v_X_beginJourney h) from rfl, c1]
  refine ⟨fun y hy => by subst hy; exact a, ?_⟩
  rw [ev]
  exact ⟨c2, b2.tr c3, c4⟩
/-- the whole text, read by the class -/
def fi (p : Nat) (f : Nat → Option Nat) : Bool := Nat.beq p 5 && (f 5).isSome
theorem cx_whole (hL : L ≤ 60) (hs : ∀ i, i < L → s i ≤ 126) {h : HP} (ht : TX h L s) : p_X_isWhole h ∧ hK h (v_X_isWhole h).2 ∧ (v_X_isWhole h).1 = b01 (Nat.beq (rd s L 0 0 f0).1 L && fi (rd s L 0 0 f0).2.1 (rd s L 0 0 f0).2.2) := by
  obtain ⟨a1, a2, a3, a4⟩ := cx_read hL hs ht
  have hle := rd_le s L 0 0 f0
  have hL2 : (v_X_readToError h).2.1 18 2 = nI L := by rw [a3.2]; exact ht.1
  refine ⟨a1, a3, ?_⟩
  show (if (v_X_readToError h).1 = (v_X_readToError h).2.1 18 2 then (if (v_X_readToError h).2.1 18 3 = 5 then (if v_at 6 ((v_X_readToError h).2.1 20) 5 = -1 then (0 : Int32) else 1) else 0) else 0) = _
  rw [a2, hL2]
  by_cases e : (rd s L 0 0 f0).1 = L
  · obtain ⟨c1, c2⟩ := a4 e
    rw [if_pos (by rw [e]), c1, show v_at 6 ((v_X_readToError h).2.1 20) 5 = eo ((rd s L 0 0 f0).2.2 5) from (at_nI (n := 6) (by omega) _ (i := 5) (by omega)).trans (c2 5 (by omega)), show Nat.beq (rd s L 0 0 f0).1 L = true from Nat.beq_eq.mpr e]
    have hx := rd_xo s L 0 0 f0 XO.z
    unfold fi
    by_cases e5 : (rd s L 0 0 f0).2.1 = 5
    · rw [e5, if_pos (show nI 5 = 5 from rfl), show Nat.beq 5 5 = true from rfl]
      cases e6 : (rd s L 0 0 f0).2.2 5 with
      | none => rw [eo_none, if_pos rfl]; rfl
      | some v => rw [eo_some, if_neg (nI_m1 (by have := hx.2 5 v e6; omega))]; rfl
    · have := hx.1
      have n5 : ¬ nI (rd s L 0 0 f0).2.1 = 5 := fun z => e5 ((nI_eq (b := 5) (by omega) (by omega)).mp z)
      rw [if_neg n5, show Nat.beq (rd s L 0 0 f0).2.1 5 = false from Bool.eq_false_iff.mpr (fun z => e5 (Nat.eq_of_beq_eq_true z))]; rfl
  · rw [if_neg (fun z => e (nI_inj (by omega) (by omega) z)), show Nat.beq (rd s L 0 0 f0).1 L = false from Bool.eq_false_iff.mpr (fun z => e (Nat.eq_of_beq_eq_true z))]; rfl
/-- how many journeys a text tells -/
def jn (s : Nat → Nat) (L : Nat) : Nat := 1 + sn (fun i => if s i = 59 then 1 else 0) L
theorem cx_journeys (hL : L ≤ 60) (hs : ∀ i, i < L → s i ≤ 126) {h : HP} (ht : TX h L s) : p_X_journeys h ∧ v_X_journeys h = nI (jn s L) := by
  obtain ⟨a, b⟩ := itr_for (step := s_X_journeys_4 h) (pst := ps_X_journeys_4 h) (fun j => (nI (jn s j), nI j)) L _ (by omega)
    (fun j hj => by
      have hj2 := hs j hj
      show (if nI j < h.1 18 2 then Sum.inl (nI (jn s j) + (if v_at 60 (h.1 19) (nI j) = 59 then (1 : Int32) else 0), nI j + 1) else _) = _
      rw [if_pos (by rw [ht.1]; exact nI_lt (b := L) hj (by omega)), at_nI (by omega) _ (by omega), ht.2 j hj, nI_1]
      have e59 : nI (s j) = 59 ↔ s j = 59 := nI_eq (b := 59) (by omega) (by omega)
      have e1 : jn s (j + 1) = jn s j + (if s j = 59 then 1 else 0) := by unfold jn; rw [sn]; omega
      by_cases e : s j = 59
      · rw [if_pos (e59.mpr e), e1, if_pos e, nI_1]
      · rw [if_neg (fun z => e (e59.mp z)), e1, if_neg e, Int32.add_zero]; rfl)
    (by
      show (if nI L < h.1 18 2 then _ else _) = _
      rw [if_neg (by rw [ht.1]; exact nI_nlt (b := L) (by omega) (by omega))])
    (fun _ _ => trivial)
  refine ⟨a, ?_⟩
  rw [v_X_journeys]
  rw [show ((1 : Int32), (0 : Int32)) = (nI (jn s 0), nI 0) from rfl, b]
end CRD
