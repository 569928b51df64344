/-! PURE: what the law's acts do to the state. -/
/-- refused and nothing changed, or answered from 0 on and the state before it saved -/
def AcO (S : Sta) (q : Int32 × Sta) : Prop := (q.1 < 0 ∧ q.2 = S) ∨ (¬ q.1 < 0 ∧ ∃ t, q.2 = sav S t)
theorem aco_I {S : Sta} : AcO S (rs (.inl xI) S) := .inl ⟨by show hcode hs_call xI < 0; rw [hcI]; decide, rfl⟩
theorem aco_A {S : Sta} : AcO S (rs (.inl xA) S) := .inl ⟨by show hcode hs_call xA < 0; rw [hcA]; decide, rfl⟩
theorem aco_S {S : Sta} : AcO S (rs (.inl xS) S) := .inl ⟨by show hcode hs_call xS < 0; rw [hcS]; decide, rfl⟩
theorem aco_r {S : Sta} {v : Int32} {t : TN} (h : ¬ v < 0) : AcO S (rs (.inr (v, sav S t)) S) := .inr ⟨h, t, rfl⟩
theorem bd_nn {T : Nat → Int32} {i b : Nat} (h : bd T i b) (hb : b < 1000000) : ¬ T i < 0 := by
  rw [h.1]; exact nI_pos (h.lt hb)
theorem ixN_lt {a : Int32} {N t : Nat} (h : ixN a N = some t) : t < N := by
  unfold ixN at h
  split at h
  · rename_i e
    have e2 := Option.some.inj h
    have : a.toNatClampNeg = a.toInt.toNat := rfl
    omega
  · cases h
theorem chf_len (g : Nat → Option Nat) : ∀ (f k : Nat), (chf g f k).length ≤ f
  | 0, _ => Nat.le_refl _
  | f + 1, k => by
    rw [chf, List.length_cons]
    cases e : g k with
    | none => exact Nat.succ_le_succ (Nat.zero_le _)
    | some j => exact Nat.succ_le_succ (chf_len g f j)
section ACO
variable {h : HP} {S : Sta}
theorem aco_layover (hs : RS h S) (a b : Int32) : AcO S (rs (s_layover S a b) S) := by
  unfold s_layover
  cases e : ixN a 4 with
  | none => exact aco_I
  | some t =>
    dsimp only
    cases rnN b 0 60 with
    | none => exact aco_A
    | some _ => exact aco_r (bd_nn (hs.1.2.1.2.1 t (ixN_lt e)) (by omega))
theorem aco_relief (hs : RS h S) (a : Int32) : AcO S (rs (s_relief S a) S) := by
  unfold s_relief
  cases e : ixN a 4 with
  | none => exact aco_I
  | some t =>
    refine aco_r ?_
    have h1 := hs.1.2.1.2.2.1 t (ixN_lt e)
    have h2 := h1.2
    rw [h1.1, show (1 : Int32) = nI 1 from rfl, nI_sub h2]
    exact nI_pos (by omega)
theorem aco_set (hs : RS h S) (a b : Int32) : AcO S (rs (s_set S a b) S) := by
  unfold s_set
  cases e : ixN a 4 with
  | none => exact aco_I
  | some t =>
    dsimp only
    cases rnN b (setLo t) (setHi t) with
    | none => exact aco_A
    | some _ =>
      refine aco_r ?_
      have ht := ixN_lt e
      obtain ⟨h0, h1, h2, h3, -⟩ := hs.1.2.1.2.2.2
      match t, ht with
      | 0, _ => exact bd_nn h0 (by omega)
      | 1, _ => exact bd_nn h1 (by omega)
      | 2, _ => exact bd_nn h2 (by omega)
      | 3, _ => exact bd_nn h3 (by omega)
      | t + 4, z => omega
theorem aco_trip (hs : RS h S) (a b C D E : Int32) : AcO S (rs (s_trip S a b C D E) S) := by
  have h20 := hs.1.2.n20
  unfold s_trip
  split
  · split
    · exact aco_r (nI_pos (by omega))
    · exact aco_S
  · exact aco_A
theorem aco_shift (hs : RS h S) (a b : Int32) : AcO S (rs (s_shift S a b) S) := by
  unfold s_shift
  cases e : ixN a S.1.2 with
  | none => exact aco_I
  | some t =>
    dsimp only
    cases rnN b 0 1439 with
    | none => exact aco_A
    | some _ =>
      dsimp only
      split
      · exact aco_r (bd_nn (hs.1.2.2.1 t (ixN_lt e)).2.2.2.1 (by omega))
      · exact aco_S
theorem rsn_le (T : Nat → Int32) (n a b : Nat) : rsn T n a b ≤ 5 := by
  unfold rsn
  repeat' split
  all_goals omega
theorem aco_follow (hs : RS h S) (a b : Int32) : AcO S (rs (s_follow S a b) S) := by
  unfold s_follow
  cases e : ixN a S.1.2 with
  | none => exact aco_I
  | some s =>
    dsimp only
    cases ixN b S.1.2 with
    | none => exact aco_I
    | some t =>
      dsimp only
      split
      · exact aco_r (nI_pos (by omega))
      · have := rsn_le S.1.1 S.1.2 s t
        exact aco_r (nI_pos (by omega))
theorem aco_part (hs : RS h S) (a : Int32) : AcO S (rs (s_part S a) S) := by
  unfold s_part
  cases e : ixN a S.1.2 with
  | none => exact aco_I
  | some t =>
    dsimp only
    cases e2 : nx S.1.1 t with
    | none => exact aco_S
    | some j =>
      have h1 := (hs.1.2.2.2.2.1 t j (ixN_lt e) e2).1
      have h20 := hs.1.2.n20
      exact aco_r (nI_pos (by omega))
theorem aco_fail (hs : RS h S) (a : Int32) : AcO S (rs (s_fail S a) S) := by
  unfold s_fail
  cases e : ixN a S.1.2 with
  | none => exact aco_I
  | some t =>
    dsimp only
    split
    · have h1 : (lsl S.1.1 t).length ≤ 20 := Nat.le_trans (List.takeWhile_sublist (lq S.1.1 t)).length_le (chf_len (nx S.1.1) 20 t)
      exact aco_r (nI_pos (by omega))
    · exact aco_S
theorem slot_n (hs : RS h S) {p : Nat} (hp : p ≤ 1) {t : TN} (e : slot S p = some t) : t.2 ≤ 20 := by
  obtain ⟨k3, k4⟩ := hs.2.2.1
  unfold slot at e
  split at e
  · rw [e] at k3; exact k3.2.n20
  · rw [e] at k4; exact k4.2.n20
theorem aco_goBack (hs : RS h S) (a : Int32) : AcO S (rs (s_goBack S a) S) := by
  unfold s_goBack
  cases e : rnN a 0 1 with
  | none => exact aco_A
  | some p =>
    dsimp only
    cases e2 : slot S p with
    | none => exact aco_S
    | some t =>
      have hp : p ≤ 1 := by
        unfold rnN at e
        split at e
        · have e3 := Option.some.inj e
          have : a.toNatClampNeg = a.toInt.toNat := rfl
          omega
        · cases e
      have := slot_n hs hp e2
      exact aco_r (nI_pos (by omega))
theorem aco_blockAll (hs : RS h S) : AcO S (s_blockAll S) := by
  have h1 := cn_le (hd (baT S.1.1 S.1.2) S.1.2) S.1.2
  have h20 := hs.1.2.n20
  exact .inr ⟨nI_pos (by omega), _, rfl⟩
theorem aco_call (hs : RS h S) {w a b : Int32} {m : Int64} {j : Nat} (hj : cj w = j) (h : j = 0 ∨ j = 1 ∨ j = 2 ∨ j = 3 ∨ j = 4 ∨ j = 5 ∨ j = 6 ∨ j = 8 ∨ j = 12) : AcO S (s_call S w a b m) := by
  show AcO S (rs (s_leafR S (cj w) a b (mc1 m) (mc2 m) (mc3 m)) S)
  rw [hj]
  rcases h with rfl | rfl | rfl | rfl | rfl | rfl | rfl | rfl | rfl
  · exact aco_layover hs a b
  · exact aco_relief hs a
  · exact aco_trip hs a b _ _ _
  · exact aco_shift hs a b
  · exact aco_set hs a b
  · exact aco_follow hs a b
  · exact aco_part hs a
  · exact aco_fail hs a
  · exact aco_goBack hs a
end ACO
/-! what is saved, the newest first -/
theorem psh_rev (l : List TN) (x : TN) (hl : l.length ≤ 6) : (psh l x).reverse[0]? = some x ∧ ∀ i t, (psh l x).reverse[i + 1]? = some t → l.reverse[i]? = some t := by
  have e : (psh l x).reverse = x :: (if l.length = 6 then l.tail else l).reverse := by
    unfold psh
    split <;> rw [List.reverse_append] <;> rfl
  refine ⟨by rw [e]; rfl, fun i t h => ?_⟩
  rw [e, List.getElem?_cons_succ] at h
  split at h
  · rename_i h6
    have hi := (List.getElem?_eq_some_iff.mp h).1
    rw [List.length_reverse, List.length_tail] at hi
    rw [List.getElem?_reverse (by rw [List.length_tail]; omega), List.length_tail, List.getElem?_tail] at h
    rw [List.getElem?_reverse (by omega)]
    rw [show l.length - 1 - 1 - i + 1 = l.length - 1 - i by omega] at h
    exact h
  · exact h
theorem undo_rev {S : Sta} {t : TN} {r : List TN} (e : S.2.1.reverse = t :: r) : s_undo S = .inr (nI (S.2.1.length - 1), (t, r.reverse, S.2.2)) := by
  have e2 : S.2.1 = r.reverse ++ [t] := by
    have := congrArg List.reverse e
    rw [List.reverse_reverse, List.reverse_cons] at this
    exact this
  unfold s_undo
  rw [e2, List.getLast?_concat, List.dropLast_concat]
/-- the row of longs shows what was seen: now, and before each of the acts that are saved -/
def Ch (h : HP) (S : Sta) (a : Nat) : Prop := ∀ i t, i < a → S.2.1.reverse[i]? = some t → h.2 135 (a - 1 - i) = seenV t
theorem Ch.kp {h H : HP} {S : Sta} {a : Nat} (c : Ch h S a) (k : Kp h H) : Ch H S a := fun i t hi e => by rw [(k 135 (Nat.le_refl _) (by omega)).2]; exact c i t hi e
/-- an act more -/
theorem Ch.sav {h : HP} {S : Sta} {a : Nat} {t : TN} (c : Ch h S a) (hl : S.2.1.length ≤ 6) (e : h.2 135 a = seenV S.1) : Ch h (sav S t) (a + 1) := fun i u hi eu => by
  obtain ⟨p1, p2⟩ := psh_rev S.2.1 S.1 hl
  have eu : (psh S.2.1 S.1).reverse[i]? = some u := eu
  match i with
  | 0 =>
    rw [p1] at eu
    rw [← Option.some.inj eu]
    exact e
  | i + 1 =>
    have := c i u (by omega) (p2 i u eu)
    rw [show a + 1 - 1 - (i + 1) = a - 1 - i by omega]
    exact this
/-- an act back -/
theorem Ch.undo {h : HP} {S : Sta} {a : Nat} {t : TN} {r : List TN} (c : Ch h S (a + 1)) (e : S.2.1.reverse = t :: r) : h.2 135 a = seenV t ∧ Ch h (t, r.reverse, S.2.2) a := by
  refine ⟨c 0 t (by omega) (by rw [e]; rfl), fun i u hi eu => ?_⟩
  have eu : r.reverse.reverse[i]? = some u := eu
  rw [List.reverse_reverse] at eu
  have := c (i + 1) u (by omega) (by rw [e]; exact eu)
  rw [show a + 1 - 1 - (i + 1) = a - 1 - i by omega] at this
  exact this
theorem RS.sl {h : HP} {S : Sta} (hs : RS h S) : S.2.1.length ≤ 6 := by obtain ⟨o, k, -⟩ := hs.2.1; exact k
theorem l10 (S : Sta) : vlK (l_count S 10) = some (nI S.2.1.length) := by
  unfold l_count
  rw [show (10 : Int32) = nI 10 from rfl, rnN_nI (lo := 0) (hi := 10) (by omega) (by omega) (by omega)]
  rfl
