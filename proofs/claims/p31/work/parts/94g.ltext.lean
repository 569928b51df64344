/-! PURE: words typed, and whether the first error is as told. -/
def kj : Nat → Int32
  | 0 => -8
  | j + 1 => nI (8 * j)
theorem kj_s : ∀ j, j < 8 → ¬ kj (j + 1) < 0 ∧ kj (j + 1) + (-8) = kj j := by decide +kernel
theorem kj_0 : kj 0 < 0 := by decide +kernel
/-- the text behind what is typed of a word's last j characters -/
def tyB (w : Int64) : Nat → List Nat → Option (List Nat)
  | 0, s => some s
  | j + 1, s => if bcode w (kj (j + 1)) = 0 then tyB w j s else match rnN (bcode w (kj (j + 1))) 33 126 with
    | none => none
    | some c => if s.length < 60 then tyB w j (s ++ [c]) else none
theorem ty_loop {h0 : HP} {w : Int64} : ∀ (N j : Nat) (H : HP) (S : Sta) (s' : List Nat), j < N → j ≤ 8 → RS H S → tyB w j S.2.2.2 = some s' →
    itrp (s_L_types_38_6 h0 w) (ps_L_types_38_6 h0 w) N (1, kj j, H) ∧ ∃ r, itr (s_L_types_38_6 h0 w) N (1, kj j, H) = some r ∧ r.1 = 1 ∧ RS r.2.2 (S.1, S.2.1, S.2.2.1, s') := by
  intro N
  induction N with
  | zero => intro _ _ _ _ h1; exact absurd h1 (Nat.not_lt_zero _)
  | succ N ih =>
    intro j H S s' hN hj hs ht
    cases j with
    | zero =>
      have e1 : s_L_types_38_6 h0 w (1, kj 0, H) = .inr (1, kj 0, H) := by
        show (if kj 0 < 0 then _ else _) = _
        rw [if_pos kj_0]
      have e2 : S.2.2.2 = s' := Option.some.inj ht
      refine ⟨⟨⟨fun _ => trivial, fun z => absurd kj_0 z⟩, fun v hv => by rw [e1] at hv; cases hv⟩, (1, kj 0, H), by rw [itr, e1], rfl, ?_⟩
      rw [← e2]; exact hs
    | succ j =>
      obtain ⟨k1, k2⟩ := kj_s j (by omega)
      rw [tyB] at ht
      by_cases e0 : bcode w (kj (j + 1)) = 0
      · rw [if_pos e0] at ht
        have e1 : s_L_types_38_6 h0 w (1, kj (j + 1), H) = .inl (1, kj j, H) := by
          show (if kj (j + 1) < 0 then _ else (if (1 : Int32) = 0 then _ else (if bcode w (kj (j + 1)) = 0 then Sum.inl (1, kj (j + 1) + (-8), H) else _))) = _
          rw [if_neg k1, if_neg one0, if_pos e0, k2]
        obtain ⟨a, r, b1, b2, b3⟩ := ih j H S s' (by omega) (by omega) hs ht
        exact ⟨⟨⟨fun z => absurd z k1, fun _ => ⟨fun _ => trivial, fun _ => ⟨fun _ => trivial, fun z => absurd e0 z⟩⟩⟩, fun v hv => by rw [e1] at hv; cases hv; exact a⟩, r, by rw [itr, e1]; exact b1, b2, b3⟩
      · rw [if_neg e0] at ht
        cases ec : rnN (bcode w (kj (j + 1))) 33 126 with
        | none => rw [ec] at ht; cases ht
        | some c =>
          rw [ec] at ht
          have ht' : (if S.2.2.2.length < 60 then tyB w j (S.2.2.2 ++ [c]) else none) = some s' := ht
          by_cases e6 : S.2.2.2.length < 60
          · rw [if_pos e6] at ht'
            have h1 := append_s hs (bcode w (kj (j + 1)))
            have h2 : s_append S (bcode w (kj (j + 1))) = .inr (nI (S.2.2.2.length + 1), (S.1, S.2.1, S.2.2.1, S.2.2.2 ++ [c])) := by
              unfold s_append; rw [ec]; show (if S.2.2.2.length < 60 then _ else _) = _; rw [if_pos e6]
            rw [h2] at h1
            obtain ⟨q, f1, f2, f3⟩ := co_inr h1
            have hpos : ¬ q.1 ≤ 0 := by
              rw [f2]
              intro z
              have := Int32.le_iff_toInt_le.mp z
              rw [show ((nI (S.2.2.2.length + 1), ((S.1, S.2.1, S.2.2.1, S.2.2.2 ++ [c]) : Sta)) : Int32 × Sta).1 = nI (S.2.2.2.length + 1) from rfl, nI_toInt (by omega)] at this
              have e2 : (0 : Int32).toInt = 0 := by decide +kernel
              omega
            have e1 : s_L_types_38_6 h0 w (1, kj (j + 1), H) = .inl (1, kj j, q.2) := by
              show (if kj (j + 1) < 0 then _ else (if (1 : Int32) = 0 then _ else (if bcode w (kj (j + 1)) = 0 then _ else (match v_B_append H (bcode w (kj (j + 1))) with | .inl _ => _ | .inr y2 => Sum.inl ((if y2.1 ≤ 0 then (0 : Int32) else 1), kj (j + 1) + (-8), y2.2))))) = _
              rw [if_neg k1, if_neg one0, if_neg e0, f1, k2]
              show Sum.inl ((if q.1 ≤ 0 then (0 : Int32) else 1), kj j, q.2) = _
              rw [if_neg hpos]
            obtain ⟨a, r, b1, b2, b3⟩ := ih j q.2 (S.1, S.2.1, S.2.2.1, S.2.2.2 ++ [c]) s' (by omega) (by omega) f3 ht'
            exact ⟨⟨⟨fun z => absurd z k1, fun _ => ⟨fun _ => trivial, fun _ => ⟨fun z => absurd z e0, fun _ => ⟨q, f1⟩⟩⟩⟩, fun v hv => by rw [e1] at hv; cases hv; exact a⟩, r, by rw [itr, e1]; exact b1, b2, b3⟩
          · rw [if_neg e6] at ht'; cases ht'
theorem types_s {h : HP} {S : Sta} (hs : RS h S) {w : Int64} {s' : List Nat} (ht : tyB w 8 S.2.2.2 = some s') : p_L_types_38 h w ∧ (v_L_types_38 h w).1 = 1 ∧ RS (v_L_types_38 h w).2 (S.1, S.2.1, S.2.2.1, s') := by
  obtain ⟨a, r, b1, b2, b3⟩ := ty_loop (h0 := h) NF 8 h S s' (by rw [NF_eq]; omega) (by omega) hs ht
  have e0 : ((1, 56, h) : Int32 × Int32 × HP) = (1, kj 8, h) := rfl
  have hv : v_L_types_38 h w = (r.1, r.2.2) := by unfold v_L_types_38; rw [e0, b1]
  refine ⟨⟨by rw [e0]; exact a, fun r1 hr => ?_⟩, by rw [hv]; exact b2, by rw [hv]; exact b3⟩
  rw [e0, b1] at hr
  cases hr
  exact .inr b2
def fE (s : List Nat) : Nat := (rd (fun i => s.getD i 0) s.length 0 0 f0).1
theorem isE_s {h : HP} {S : Sta} (hs : RS h S) {u w : Int64} {x : Int32} {s1 s2 : List Nat} (h1 : tyB u 8 [] = some s1) (h2 : tyB w 8 s1 = some s2) (he : nI (fE s2) = x) : p_L_isError_38 h u w x ∧ (v_L_isError_38 h u w x).1 = 1 ∧ RS (v_L_isError_38 h u w x).2 (S.1, S.2.1, S.2.2.1, s2) := by
  obtain ⟨c1, c2⟩ := clear_s hs
  have c2 : RS (v_B_clearBuffer h).2 (S.1, S.2.1, S.2.2.1, []) := c2
  have hl := hs.2.2.2.1.1
  have n0 : ¬ (v_B_clearBuffer h).1 < 0 := by rw [c1]; exact nI_pos (show S.2.2.2.length < 2 ^ 31 by omega)
  obtain ⟨t1, t2, t3⟩ := types_s c2 h1
  obtain ⟨u1, u2, u3⟩ := types_s t3 h2
  obtain ⟨w1, w2, w3⟩ := firstError_s u3
  have n1 : ¬ (v_L_types_38 (v_B_clearBuffer h).2 u).1 = 0 := by rw [t2]; exact one0
  have n2 : ¬ (v_L_types_38 (v_L_types_38 (v_B_clearBuffer h).2 u).2 w).1 = 0 := by rw [u2]; exact one0
  have hv : v_L_isError_38 h u w x = (1, (v_B_firstError (v_L_types_38 (v_L_types_38 (v_B_clearBuffer h).2 u).2 w).2).2) := by
    show (if (v_B_clearBuffer h).1 < 0 then _ else (if (v_L_types_38 (v_B_clearBuffer h).2 u).1 = 0 then _ else (if (v_L_types_38 (v_L_types_38 (v_B_clearBuffer h).2 u).2 w).1 = 0 then _ else ((if (v_B_firstError (v_L_types_38 (v_L_types_38 (v_B_clearBuffer h).2 u).2 w).2).1 = x then (1 : Int32) else 0), (v_B_firstError (v_L_types_38 (v_L_types_38 (v_B_clearBuffer h).2 u).2 w).2).2)))) = _
    rw [if_neg n0, if_neg n1, if_neg n2, w2]
    rw [if_pos (show l_firstError (S.1, S.2.1, S.2.2.1, s2) = x from he)]
  refine ⟨fun y1 hy1 => ?_, by rw [hv], by rw [hv]; exact w3⟩
  subst hy1
  refine ⟨fun _ => trivial, fun _ => ⟨t1, fun y2 hy2 => ?_⟩⟩
  subst hy2
  refine ⟨fun _ => trivial, fun _ => ⟨u1, fun y3 hy3 => ?_⟩⟩
  subst hy3
  exact ⟨fun _ => trivial, fun _ => w1⟩
