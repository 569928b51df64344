/-! PURE: the dispatcher by the state. -/
def rE {α : Type} (r : String ⊕ α) : Prop := ∀ E, r = .inl E → E ∈ hs_call.map (fun q => q.1)
theorem rE_I {α : Type} : rE (.inl xI : String ⊕ α) := fun E h => by cases h; exact .head _
theorem rE_A {α : Type} : rE (.inl xA : String ⊕ α) := fun E h => by cases h; exact .tail _ (.head _)
theorem rE_S {α : Type} : rE (.inl xS : String ⊕ α) := fun E h => by cases h; exact .tail _ (.tail _ (.head _))
theorem rE_r {α : Type} {q : α} : rE (.inr q : String ⊕ α) := fun E h => nomatch h
theorem rE_l {S : Sta} {l : Lk0} (h : rE l) : rE (lks S l) := fun E e => by
  cases l with
  | inl E2 => cases e; exact h _ rfl
  | inr q => cases e
def rs (r : Rsl) (S : Sta) : Int32 × Sta := match r with
  | .inl E => (hcode hs_call E, S)
  | .inr w => w
theorem co_hx {h : HP} {S : Sta} {c : String ⊕ (Int32 × HP)} {r : Rsl} (hs : RS h S) (hc : Co c r) (hr : rE r) : okE (rthr c) ∧ (hx h c).1 = (rs r S).1 ∧ RS (hx h c).2 (rs r S).2 := by
  cases c with
  | inl E =>
    cases r with
    | inl E2 =>
      have e : E = E2 := hc
      subst e
      exact ⟨fun E3 e3 => by cases e3; exact hr _ rfl, rfl, hs⟩
    | inr w => exact (show False from hc).elim
  | inr q =>
    cases r with
    | inl E2 => exact (show False from hc).elim
    | inr w => exact ⟨(fun E3 e3 => nomatch e3), hc.1, hc.2⟩
theorem eq_hy {h : HP} {S : Sta} {c l : Lk0} (hs : RS h S) (hc : c = l) (hr : rE l) : okE (rthr c) ∧ (hy h c).1 = (rs (lks S l) S).1 ∧ RS (hy h c).2 (rs (lks S l) S).2 := by
  subst hc
  cases c with
  | inl E => exact ⟨fun E3 e3 => by cases e3; exact hr _ rfl, rfl, hs⟩
  | inr q => exact ⟨(fun E3 e3 => nomatch e3), rfl, hs⟩
theorem co_hu {S : Sta} {c : (String × HP) ⊕ (Int32 × HP)} {r : Rsl} (hc : Co2 c r S) (hr : rE r) : okE (rthrU c) ∧ (hu c).1 = (rs r S).1 ∧ RS (hu c).2 (rs r S).2 := by
  cases c with
  | inl E =>
    cases r with
    | inl E2 =>
      obtain ⟨e, h2⟩ : E.1 = E2 ∧ RS E.2 S := hc
      subst e
      exact ⟨fun E3 e3 => by cases e3; exact hr _ rfl, rfl, h2⟩
    | inr w => exact (show False from hc).elim
  | inr q =>
    cases r with
    | inl E2 => exact (show False from hc).elim
    | inr w => exact ⟨(fun E3 e3 => nomatch e3), hc.1, hc.2⟩
theorem rE_layover (S : Sta) (a b : Int32) : rE (s_layover S a b) := by
  unfold s_layover
  repeat' split
  all_goals first | exact rE_I | exact rE_A | exact rE_S | exact rE_r
theorem rE_relief (S : Sta) (a : Int32) : rE (s_relief S a) := by
  unfold s_relief
  repeat' split
  all_goals first | exact rE_I | exact rE_A | exact rE_S | exact rE_r
theorem rE_trip (S : Sta) (a b C D E : Int32) : rE (s_trip S a b C D E) := by
  unfold s_trip
  repeat' split
  all_goals first | exact rE_I | exact rE_A | exact rE_S | exact rE_r
theorem rE_shift (S : Sta) (a b : Int32) : rE (s_shift S a b) := by
  unfold s_shift
  repeat' split
  all_goals first | exact rE_I | exact rE_A | exact rE_S | exact rE_r
theorem rE_set (S : Sta) (a b : Int32) : rE (s_set S a b) := by
  unfold s_set
  repeat' split
  all_goals first | exact rE_I | exact rE_A | exact rE_S | exact rE_r
theorem rE_follow (S : Sta) (a b : Int32) : rE (s_follow S a b) := by
  unfold s_follow
  repeat' split
  all_goals first | exact rE_I | exact rE_A | exact rE_S | exact rE_r
theorem rE_part (S : Sta) (a : Int32) : rE (s_part S a) := by
  unfold s_part
  repeat' split
  all_goals first | exact rE_I | exact rE_A | exact rE_S | exact rE_r
theorem rE_fail (S : Sta) (a : Int32) : rE (s_fail S a) := by
  unfold s_fail
  repeat' split
  all_goals first | exact rE_I | exact rE_A | exact rE_S | exact rE_r
theorem rE_append (S : Sta) (a : Int32) : rE (s_append S a) := by
  unfold s_append
  repeat' split
  all_goals first | exact rE_I | exact rE_A | exact rE_S | exact rE_r
theorem rE_keep (S : Sta) (a : Int32) : rE (s_keep S a) := by
  unfold s_keep
  repeat' split
  all_goals first | exact rE_I | exact rE_A | exact rE_S | exact rE_r
theorem rE_goBack (S : Sta) (a : Int32) : rE (s_goBack S a) := by
  unfold s_goBack
  repeat' split
  all_goals first | exact rE_I | exact rE_A | exact rE_S | exact rE_r
theorem rE_undo (S : Sta) : rE (s_undo S) := by
  unfold s_undo
  repeat' split
  all_goals first | exact rE_I | exact rE_A | exact rE_S | exact rE_r
theorem rE_load (S : Sta) : rE (s_load S) := by
  unfold s_load
  repeat' split
  all_goals first | exact rE_I | exact rE_A | exact rE_S | exact rE_r
theorem rE_terminalOf (S : Sta) (a b : Int32) : rE (l_terminalOf S a b) := by
  unfold l_terminalOf
  repeat' split
  all_goals first | exact rE_I | exact rE_A | exact rE_S | exact rE_r
theorem rE_blockOf (S : Sta) (a b : Int32) : rE (l_blockOf S a b) := by
  unfold l_blockOf
  repeat' split
  all_goals first | exact rE_I | exact rE_A | exact rE_S | exact rE_r
theorem rE_count (S : Sta) (a : Int32) : rE (l_count S a) := by
  unfold l_count
  repeat' split
  all_goals first | exact rE_I | exact rE_A | exact rE_S | exact rE_r
theorem rE_ifTrip (S : Sta) (a b C D E : Int32) : rE (l_ifTrip S a b C D E) := by
  unfold l_ifTrip
  repeat' split
  all_goals first | exact rE_I | exact rE_A | exact rE_S | exact rE_r
theorem rE_bestTime (S : Sta) (a b : Int32) : rE (l_bestTime S a b) := by
  unfold l_bestTime
  repeat' split
  all_goals first | exact rE_I | exact rE_A | exact rE_S | exact rE_r
theorem rE_tripOf (S : Sta) (a b : Int32) : rE (l_tripOf S a b) := by
  unfold l_tripOf
  repeat' split
  all_goals first | exact rE_I | exact rE_A | exact rE_S | exact rE_r
theorem rE_duty (S : Sta) (a b E : Int32) : rE (l_duty S a b E) := by
  unfold l_duty
  repeat' split
  all_goals first | exact rE_I | exact rE_A | exact rE_S | exact rE_r
theorem rE_setting (S : Sta) (a : Int32) : rE (l_setting S a) := by
  unfold l_setting
  repeat' split
  all_goals first | exact rE_I | exact rE_A | exact rE_S | exact rE_r
theorem rE_whyNot (S : Sta) (a b : Int32) : rE (l_whyNot S a b) := by
  unfold l_whyNot
  repeat' split
  all_goals first | exact rE_I | exact rE_A | exact rE_S | exact rE_r
theorem rE_ifFailed (S : Sta) (a : Int32) : rE (l_ifFailed S a) := by
  unfold l_ifFailed
  repeat' split
  all_goals first | exact rE_I | exact rE_A | exact rE_S | exact rE_r
def s_leafR (S : Sta) (j : Nat) (a b C D E : Int32) : Rsl := match j with
  | 0 => s_layover S a b
  | 1 => s_relief S a
  | 2 => s_trip S a b C D E
  | 3 => s_shift S a b
  | 4 => s_set S a b
  | 5 => s_follow S a b
  | 6 => s_part S a
  | 7 => .inr (s_blockAll S)
  | 8 => s_fail S a
  | 9 => s_append S a
  | 10 => s_load S
  | 11 => s_keep S a
  | 12 => s_goBack S a
  | 13 => s_undo S
  | 14 => lks S (l_terminalOf S a b)
  | 15 => lks S (l_tripOf S a b)
  | 16 => lks S (l_blockOf S a b)
  | 17 => lks S (l_duty S a b E)
  | 18 => lks S (l_count S a)
  | 19 => lks S (l_setting S a)
  | 20 => lks S (l_whyNot S a b)
  | 21 => lks S (l_ifTrip S a b C D E)
  | 22 => lks S (l_bestTime S a b)
  | _ => lks S (l_ifFailed S a)
def s_leaf (S : Sta) (j : Nat) (a b C D E : Int32) : Int32 × Sta := rs (s_leafR S j a b C D E) S
def s_call (S : Sta) (w a b : Int32) (m : Int64) : Int32 × Sta := s_leaf S (cj w) a b (mc1 m) (mc2 m) (mc3 m)
theorem leaf_s {h : HP} {S : Sta} (hs : RS h S) (a b C D E : Int32) : ∀ j, j < 24 → p_leaf h j a b C D E ∧ (v_leaf h j a b C D E).1 = (s_leaf S j a b C D E).1 ∧ RS (v_leaf h j a b C D E).2 (s_leaf S j a b C D E).2 := fun j hj => match j, hj with
  | 0, _ => let c := co_hx hs ((layover_s hs a b).2) (rE_layover S a b); ⟨⟨(layover_s hs a b).1, c.1⟩, c.2⟩
  | 1, _ => let c := co_hx hs ((relief_s hs a).2) (rE_relief S a); ⟨⟨(relief_s hs a).1, c.1⟩, c.2⟩
  | 2, _ => let c := co_hx hs ((trip_s hs a b C D E).2) (rE_trip S a b C D E); ⟨⟨(trip_s hs a b C D E).1, c.1⟩, c.2⟩
  | 3, _ => let c := co_hx hs ((shift_s hs a b).2) (rE_shift S a b); ⟨⟨(shift_s hs a b).1, c.1⟩, c.2⟩
  | 4, _ => let c := co_hx hs ((set_s hs a b).2) (rE_set S a b); ⟨⟨(set_s hs a b).1, c.1⟩, c.2⟩
  | 5, _ => let c := co_hx hs ((follow_s hs a b).2) (rE_follow S a b); ⟨⟨(follow_s hs a b).1, c.1⟩, c.2⟩
  | 6, _ => let c := co_hx hs ((part_s hs a).2) (rE_part S a); ⟨⟨(part_s hs a).1, c.1⟩, c.2⟩
  | 7, _ => ⟨⟨(blockAll_s hs).1, trivial⟩, (blockAll_s hs).2⟩
  | 8, _ => let c := co_hx hs ((fail_s hs a).2) (rE_fail S a); ⟨⟨(fail_s hs a).1, c.1⟩, c.2⟩
  | 9, _ => let c := co_hx hs (append_s hs a) (rE_append S a); ⟨⟨trivial, c.1⟩, c.2⟩
  | 10, _ => let c := co_hu (load_s hs).2 (rE_load S); ⟨⟨(load_s hs).1, c.1⟩, c.2⟩
  | 11, _ => let c := co_hx hs ((keep_s hs a).2) (rE_keep S a); ⟨⟨(keep_s hs a).1, c.1⟩, c.2⟩
  | 12, _ => let c := co_hx hs ((goBack_s hs a).2) (rE_goBack S a); ⟨⟨(goBack_s hs a).1, c.1⟩, c.2⟩
  | 13, _ => let c := co_hx hs ((undo_s hs).2) (rE_undo S); ⟨⟨(undo_s hs).1, c.1⟩, c.2⟩
  | 14, _ => let c := co_hx hs (terminalOf_s hs a b).2 (rE_l (rE_terminalOf S a b)); ⟨⟨(terminalOf_s hs a b).1, c.1⟩, c.2⟩
  | 15, _ => let c := eq_hy hs ((tripOf_s hs a b).2) (rE_tripOf S a b); ⟨⟨(tripOf_s hs a b).1, c.1⟩, c.2⟩
  | 16, _ => let c := co_hx hs (blockOf_s hs a b).2 (rE_l (rE_blockOf S a b)); ⟨⟨(blockOf_s hs a b).1, c.1⟩, c.2⟩
  | 17, _ => let c := eq_hy hs ((duty_s hs a b E).2) (rE_duty S a b E); ⟨⟨(duty_s hs a b E).1, c.1⟩, c.2⟩
  | 18, _ => let c := co_hx hs (count_s hs a).2 (rE_l (rE_count S a)); ⟨⟨(count_s hs a).1, c.1⟩, c.2⟩
  | 19, _ => let c := eq_hy hs (setting_s hs a) (rE_setting S a); ⟨⟨trivial, c.1⟩, c.2⟩
  | 20, _ => let c := eq_hy hs (whyNot_s hs a b) (rE_whyNot S a b); ⟨⟨trivial, c.1⟩, c.2⟩
  | 21, _ => let c := co_hx hs (ifTrip_s hs a b C D E).2 (rE_l (rE_ifTrip S a b C D E)); ⟨⟨(ifTrip_s hs a b C D E).1, c.1⟩, c.2⟩
  | 22, _ => let c := co_hx hs (bestTime_s hs a b).2 (rE_l (rE_bestTime S a b)); ⟨⟨(bestTime_s hs a b).1, c.1⟩, c.2⟩
  | 23, _ => let c := eq_hy hs ((ifFailed_s hs a).2) (rE_ifFailed S a); ⟨⟨(ifFailed_s hs a).1, c.1⟩, c.2⟩
  | j + 24, z => absurd z (by omega)
theorem ite_lt {c : Prop} [Decidable c] {a b n : Nat} (ha : a < n) (hb : b < n) : (if c then a else b) < n := by
  split
  · exact ha
  · exact hb
theorem cj_lt (w : Int32) : cj w < 24 := by
  unfold cj
  iterate 23 refine ite_lt (by omega) ?_
  omega
theorem call_s {h : HP} {S : Sta} (hs : RS h S) (w a b : Int32) (m : Int64) : p_L_call h w a b m ∧ (v_L_call h w a b m).1 = (s_call S w a b m).1 ∧ RS (v_L_call h w a b m).2 (s_call S w a b m).2 := leaf_s hs a b (mc1 m) (mc2 m) (mc3 m) (cj w) (cj_lt w)
theorem co_inl {c : String ⊕ (Int32 × HP)} {X : String} (hc : Co c (.inl X)) : c = .inl X := by
  cases c with
  | inl E => rw [show E = X from hc]
  | inr q => exact (show False from hc).elim
theorem lks_inl {S : Sta} {l : Lk0} {X : String} (e : lks S l = .inl X) : l = .inl X := by
  cases l with
  | inl E => cases e; rfl
  | inr q => cases e
/-- what is thrown leaves the heap as it was -/
theorem leaf_x {h : HP} {S : Sta} (hs : RS h S) (a b C D E : Int32) {X : String} : ∀ j, j < 24 → j ≠ 10 → s_leafR S j a b C D E = .inl X → v_leaf h j a b C D E = (hcode hs_call X, h) := fun j hj h10 => match j, hj, h10 with
  | 0, _, _ => fun e => by
    have e : s_layover S a b = .inl X := e
    have h2 := (layover_s hs a b).2
    rw [e] at h2
    show hx h (v_B_layover h a b) = _
    rw [co_inl h2]; rfl
  | 1, _, _ => fun e => by
    have e : s_relief S a = .inl X := e
    have h2 := (relief_s hs a).2
    rw [e] at h2
    show hx h (v_B_relief h a) = _
    rw [co_inl h2]; rfl
  | 2, _, _ => fun e => by
    have e : s_trip S a b C D E = .inl X := e
    have h2 := (trip_s hs a b C D E).2
    rw [e] at h2
    show hx h (v_B_trip h a b C D E) = _
    rw [co_inl h2]; rfl
  | 3, _, _ => fun e => by
    have e : s_shift S a b = .inl X := e
    have h2 := (shift_s hs a b).2
    rw [e] at h2
    show hx h (v_B_shift h a b) = _
    rw [co_inl h2]; rfl
  | 4, _, _ => fun e => by
    have e : s_set S a b = .inl X := e
    have h2 := (set_s hs a b).2
    rw [e] at h2
    show hx h (v_B_set h a b) = _
    rw [co_inl h2]; rfl
  | 5, _, _ => fun e => by
    have e : s_follow S a b = .inl X := e
    have h2 := (follow_s hs a b).2
    rw [e] at h2
    show hx h (v_B_follow h a b) = _
    rw [co_inl h2]; rfl
  | 6, _, _ => fun e => by
    have e : s_part S a = .inl X := e
    have h2 := (part_s hs a).2
    rw [e] at h2
    show hx h (v_B_part h a) = _
    rw [co_inl h2]; rfl
  | 7, _, _ => fun e => nomatch e
  | 8, _, _ => fun e => by
    have e : s_fail S a = .inl X := e
    have h2 := (fail_s hs a).2
    rw [e] at h2
    show hx h (v_B_fail h a) = _
    rw [co_inl h2]; rfl
  | 9, _, _ => fun e => by
    have e : s_append S a = .inl X := e
    have h2 := (append_s hs a)
    rw [e] at h2
    show hx h (v_B_append h a) = _
    rw [co_inl h2]; rfl
  | 10, _, z => absurd rfl z
  | 11, _, _ => fun e => by
    have e : s_keep S a = .inl X := e
    have h2 := (keep_s hs a).2
    rw [e] at h2
    show hx h (v_B_keep h a) = _
    rw [co_inl h2]; rfl
  | 12, _, _ => fun e => by
    have e : s_goBack S a = .inl X := e
    have h2 := (goBack_s hs a).2
    rw [e] at h2
    show hx h (v_B_goBack h a) = _
    rw [co_inl h2]; rfl
  | 13, _, _ => fun e => by
    have e : s_undo S = .inl X := e
    have h2 := (undo_s hs).2
    rw [e] at h2
    show hx h (v_B_undo h) = _
    rw [co_inl h2]; rfl
  | 14, _, _ => fun e => by
    have e : lks S (l_terminalOf S a b) = .inl X := e
    have h2 := (terminalOf_s hs a b).2
    rw [e] at h2
    show hx h (v_B_terminalOf h a b) = _
    rw [co_inl h2]; rfl
  | 15, _, _ => fun e => by
    have h1 : v_B_tripOf h a b = .inl X := ((tripOf_s hs a b).2).trans (lks_inl e)
    show hy h (v_B_tripOf h a b) = _
    rw [h1]; rfl
  | 16, _, _ => fun e => by
    have e : lks S (l_blockOf S a b) = .inl X := e
    have h2 := (blockOf_s hs a b).2
    rw [e] at h2
    show hx h (v_B_blockOf h a b) = _
    rw [co_inl h2]; rfl
  | 17, _, _ => fun e => by
    have h1 : v_B_duty h a b E = .inl X := ((duty_s hs a b E).2).trans (lks_inl e)
    show hy h (v_B_duty h a b E) = _
    rw [h1]; rfl
  | 18, _, _ => fun e => by
    have e : lks S (l_count S a) = .inl X := e
    have h2 := (count_s hs a).2
    rw [e] at h2
    show hx h (v_B_count h a) = _
    rw [co_inl h2]; rfl
  | 19, _, _ => fun e => by
    have h1 : v_B_setting h a = .inl X := ((setting_s hs a)).trans (lks_inl e)
    show hy h (v_B_setting h a) = _
    rw [h1]; rfl
  | 20, _, _ => fun e => by
    have h1 : v_B_whyNot h a b = .inl X := ((whyNot_s hs a b)).trans (lks_inl e)
    show hy h (v_B_whyNot h a b) = _
    rw [h1]; rfl
  | 21, _, _ => fun e => by
    have e : lks S (l_ifTrip S a b C D E) = .inl X := e
    have h2 := (ifTrip_s hs a b C D E).2
    rw [e] at h2
    show hx h (v_B_ifTrip h a b C D E) = _
    rw [co_inl h2]; rfl
  | 22, _, _ => fun e => by
    have e : lks S (l_bestTime S a b) = .inl X := e
    have h2 := (bestTime_s hs a b).2
    rw [e] at h2
    show hx h (v_B_bestTime h a b) = _
    rw [co_inl h2]; rfl
  | 23, _, _ => fun e => by
    have h1 : v_B_ifFailed h a = .inl X := ((ifFailed_s hs a).2).trans (lks_inl e)
    show hy h (v_B_ifFailed h a) = _
    rw [h1]; rfl
  | j + 24, z, _ => absurd z (by omega)
theorem call_x {h : HP} {S : Sta} (hs : RS h S) (w a b : Int32) (m : Int64) (j : Nat) {X : String} (hj : cj w = j) (h10 : j ≠ 10) (e : s_leafR S j a b (mc1 m) (mc2 m) (mc3 m) = .inl X) : v_L_call h w a b m = (hcode hs_call X, h) := by
  unfold v_L_call
  rw [hj]
  exact leaf_x hs _ _ _ _ _ j (by have := cj_lt w; omega) h10 e
/-! what is seen -/
def sv (f : Nat → Int32) : Nat → Int64 → Int64
  | 0, a => a
  | k + 1, a => 31 * sv f k a + (f k).toInt64
def seenV (t : TN) : Int64 := sv (fun k => t.1 (8 + k)) 4 (sv (fun k => tvl t.1 t.2 (k / 9) (k % 9)) (9 * t.2) (sv (fun k => tml t.1 t.2 (k / 5) (k % 5)) 20 (sv (cnl t.1 t.2) 10 223)))
theorem co_inr {c : String ⊕ (Int32 × HP)} {w : Int32 × Sta} (hc : Co c (.inr w)) : ∃ q, c = .inr q ∧ q.1 = w.1 ∧ RS q.2 w.2 := by
  cases c with
  | inl E => exact (show False from hc).elim
  | inr q => exact ⟨q, rfl, hc⟩
theorem cnt_at {h : HP} {S : Sta} (hs : RS h S) {k : Nat} (hk : k ≤ 10) : ∃ q, v_B_count h (nI k) = .inr q ∧ q.1 = (if k = 10 then nI S.2.1.length else cnl S.1.1 S.1.2 k) ∧ RS q.2 S := by
  have h1 := (count_s hs (nI k)).2
  have e : l_count S (nI k) = .inr (if k = 10 then nI S.2.1.length else cnl S.1.1 S.1.2 k) := by unfold l_count; rw [rnN_nI (lo := 0) (hi := 10) (by omega) hk (by omega)]
  rw [e] at h1
  exact co_inr (w := (_, S)) h1
theorem seen_s {h : HP} {S : Sta} (hs : RS h S) : p_L_seen_38 h ∧ (v_L_seen_38 h).1 = seenV S.1 ∧ RS (v_L_seen_38 h).2 S := by
  have h20 := hs.1.2.n20
  -- counts
  obtain ⟨a1, r1, b1, ⟨c1, d1⟩⟩ := itr_invN (step := s_L_seen_38_6 h) (pst := ps_L_seen_38_6 h) (fun v => ∃ k H, v = (sv (cnl S.1.1 S.1.2) k 223, nI k, H) ∧ k ≤ 10 ∧ RS H S) (fun v => 10 - am_ix v.2.1)
    (fun r => r.1 = sv (cnl S.1.1 S.1.2) 10 223 ∧ RS r.2.2 S) (223, 0, h) (by show 10 - _ < 100000; omega) ⟨0, h, rfl, by omega, hs⟩ (fun v hv => by
      obtain ⟨k, H, rfl, hk, hH⟩ := hv
      obtain ⟨q, e, e1, e2⟩ := cnt_at hH hk
      have p := (count_s hH (nI k)).1
      by_cases hk2 : k < 10
      · refine ⟨⟨fun _ => ⟨p, q, e⟩, fun _ => trivial⟩, .inl ⟨_, ?_, ⟨k + 1, q.2, rfl, by omega, e2⟩, ?_⟩⟩
        · show (if nI k < 10 then (match v_B_count H (nI k) with | .inl _ => _ | .inr y2 => Sum.inl (31 * sv (cnl S.1.1 S.1.2) k 223 + y2.1.toInt64, nI k + 1, y2.2)) else _) = _
          rw [if_pos (show nI k < 10 from nI_lt (b := 10) hk2 (by omega)), e, nI_1]
          show Sum.inl (31 * sv (cnl S.1.1 S.1.2) k 223 + q.1.toInt64, nI (k + 1), q.2) = _
          rw [e1, if_neg (by omega)]; rfl
        · show 10 - am_ix (nI (k + 1)) < 10 - am_ix (nI k)
          rw [nI_ix (by omega), nI_ix (by omega)]; omega
      · have e3 : k = 10 := by omega
        subst e3
        refine ⟨⟨fun z => absurd z (show ¬ nI 10 < 10 from nI_nlt (b := 10) (Nat.le_refl _) (by omega)), fun _ => trivial⟩, .inr ⟨(sv (cnl S.1.1 S.1.2) 10 223, nI 10, H), ?_, rfl, hH⟩⟩
        show (if nI 10 < 10 then _ else Sum.inr (sv (cnl S.1.1 S.1.2) 10 223, nI 10, H)) = _
        rw [if_neg (show ¬ nI 10 < 10 from nI_nlt (b := 10) (Nat.le_refl _) (by omega))])
  -- terminals
  obtain ⟨a3, r3, b3, ⟨c3, d3⟩⟩ := itr_invN (step := s_L_seen_38_33 h r1) (pst := ps_L_seen_38_33 h r1) (fun v => ∃ k H, v = (sv (fun k => tml S.1.1 S.1.2 (k / 5) (k % 5)) k r1.1, nI k, H) ∧ k ≤ 20 ∧ RS H S) (fun v => 20 - am_ix v.2.1)
    (fun r => r.1 = sv (fun k => tml S.1.1 S.1.2 (k / 5) (k % 5)) 20 r1.1 ∧ RS r.2.2 S) (r1.1, 0, r1.2.2) (by show 20 - _ < 100000; omega) ⟨0, r1.2.2, rfl, by omega, d1⟩ (fun v hv => by
      obtain ⟨k, H, rfl, hk, hH⟩ := hv
      have m1 : nI k / 5 = nI (k / 5) := nI_div (b := 5) (by omega) (by omega)
      have m2 : nI k - nI k / 5 * 5 = nI (k % 5) := nI_mod (b := 5) (by omega) (by omega)
      have hT := terminalOf_s hH (nI (k / 5)) (nI (k % 5))
      by_cases hk2 : k < 20
      · have el : l_terminalOf S (nI (k / 5)) (nI (k % 5)) = .inr (tml S.1.1 S.1.2 (k / 5) (k % 5)) := by
          unfold l_terminalOf
          rw [ixN_nI (by omega) (by omega)]
          show (match rnN (nI (k % 5)) 0 4 with | none => _ | some v => _) = _
          rw [rnN_nI (by omega) (by omega) (by omega)]
        have h2 := hT.2
        rw [el] at h2
        obtain ⟨q, e, e1, e2⟩ := co_inr (w := (_, S)) h2
        refine ⟨⟨fun _ => ?_, fun _ => trivial⟩, .inl ⟨_, ?_, ⟨k + 1, q.2, rfl, by omega, e2⟩, ?_⟩⟩
        · show p_B_terminalOf H (nI k / 5) (nI k - nI k / 5 * 5) ∧ ∃ y, v_B_terminalOf H (nI k / 5) (nI k - nI k / 5 * 5) = .inr y
          rw [m2, m1]; exact ⟨hT.1, q, e⟩
        · show (if nI k < 20 then (match v_B_terminalOf H (nI k / 5) (nI k - nI k / 5 * 5) with | .inl _ => _ | .inr y4 => Sum.inl (31 * sv (fun k => tml S.1.1 S.1.2 (k / 5) (k % 5)) k r1.1 + y4.1.toInt64, nI k + 1, y4.2)) else _) = _
          rw [if_pos (show nI k < 20 from nI_lt (b := 20) hk2 (by omega)), m2, m1, e, nI_1]
          show Sum.inl (31 * sv (fun k => tml S.1.1 S.1.2 (k / 5) (k % 5)) k r1.1 + q.1.toInt64, nI (k + 1), q.2) = _
          rw [e1]; rfl
        · show 20 - am_ix (nI (k + 1)) < 20 - am_ix (nI k)
          rw [nI_ix (by omega), nI_ix (by omega)]; omega
      · have e3 : k = 20 := by omega
        subst e3
        refine ⟨⟨fun z => absurd z (show ¬ nI 20 < 20 from nI_nlt (b := 20) (Nat.le_refl _) (by omega)), fun _ => trivial⟩, .inr ⟨(sv (fun k => tml S.1.1 S.1.2 (k / 5) (k % 5)) 20 r1.1, nI 20, H), ?_, rfl, hH⟩⟩
        show (if nI 20 < 20 then _ else Sum.inr (sv (fun k => tml S.1.1 S.1.2 (k / 5) (k % 5)) 20 r1.1, nI 20, H)) = _
        rw [if_neg (show ¬ nI 20 < 20 from nI_nlt (b := 20) (Nat.le_refl _) (by omega))])
  -- trips
  obtain ⟨a5, r5, b5, ⟨c5, d5⟩⟩ := itr_invN (step := s_L_seen_38_65 h r1 r3) (pst := ps_L_seen_38_65 h r1 r3) (fun v => ∃ k H, v = (sv (fun k => tvl S.1.1 S.1.2 (k / 9) (k % 9)) k r3.1, nI k, H) ∧ k ≤ 9 * S.1.2 ∧ RS H S) (fun v => 9 * S.1.2 - am_ix v.2.1)
    (fun r => r.1 = sv (fun k => tvl S.1.1 S.1.2 (k / 9) (k % 9)) (9 * S.1.2) r3.1 ∧ RS r.2.2 S) (r3.1, 0, r3.2.2) (by show 9 * S.1.2 - _ < 100000; omega) ⟨0, r3.2.2, rfl, by omega, d3⟩ (fun v hv => by
      obtain ⟨k, H, rfl, hk, hH⟩ := hv
      obtain ⟨q0, f, f1, f2⟩ := cnt_at hH (k := 0) (by omega)
      have f' : v_B_count H 0 = .inr q0 := f
      have p0 : p_B_count H 0 := (count_s hH (nI 0)).1
      have f3 : (9 : Int32) * q0.1 = nI (9 * S.1.2) := by rw [f1]; show (9 : Int32) * nI S.1.2 = _; rw [show (9 : Int32) = nI 9 from rfl, nI_mul]
      have m1 : nI k / 9 = nI (k / 9) := nI_div (b := 9) (by omega) (by omega)
      have m2 : nI k - nI k / 9 * 9 = nI (k % 9) := nI_mod (b := 9) (by omega) (by omega)
      have hT := tripOf_s f2 (nI (k / 9)) (nI (k % 9))
      by_cases hk2 : k < 9 * S.1.2
      · have el : l_tripOf S (nI (k / 9)) (nI (k % 9)) = .inr (tvl S.1.1 S.1.2 (k / 9) (k % 9)) := by
          unfold l_tripOf
          rw [ixN_nI (by omega) (by omega)]
          show (match rnN (nI (k % 9)) 0 8 with | none => _ | some v => _) = _
          rw [rnN_nI (by omega) (by omega) (by omega)]
        have h2 := hT.2
        rw [el] at h2
        refine ⟨⟨p0, ⟨q0, f'⟩, fun y6 hy6 => ?_⟩, .inl ⟨_, ?_, ⟨k + 1, q0.2, rfl, by omega, f2⟩, ?_⟩⟩
        · have : q0 = y6 := by rw [f'] at hy6; exact Sum.inr.inj hy6
          subst this
          refine ⟨fun _ => ?_, fun _ => trivial⟩
          show p_B_tripOf q0.2 (nI k / 9) (nI k - nI k / 9 * 9) ∧ ∃ y, v_B_tripOf q0.2 (nI k / 9) (nI k - nI k / 9 * 9) = .inr y
          rw [m2, m1]; exact ⟨hT.1, _, h2⟩
        · show (match v_B_count H 0 with | .inl _ => Sum.inl (sv (fun k => tvl S.1.1 S.1.2 (k / 9) (k % 9)) k r3.1, nI k, H) | .inr y6 => (if nI k < 9 * y6.1 then (match v_B_tripOf y6.2 (nI k / 9) (nI k - nI k / 9 * 9) with | .inl _ => Sum.inl (sv (fun k => tvl S.1.1 S.1.2 (k / 9) (k % 9)) k r3.1, nI k, H) | .inr y7 => Sum.inl (31 * sv (fun k => tvl S.1.1 S.1.2 (k / 9) (k % 9)) k r3.1 + y7.toInt64, nI k + 1, y6.2)) else _)) = _
          rw [f']
          show (if nI k < 9 * q0.1 then (match v_B_tripOf q0.2 (nI k / 9) (nI k - nI k / 9 * 9) with | .inl _ => Sum.inl (sv (fun k => tvl S.1.1 S.1.2 (k / 9) (k % 9)) k r3.1, nI k, H) | .inr y7 => Sum.inl (31 * sv (fun k => tvl S.1.1 S.1.2 (k / 9) (k % 9)) k r3.1 + y7.toInt64, nI k + 1, q0.2)) else _) = _
          rw [f3, if_pos (nI_lt hk2 (by omega)), m2, m1, h2, nI_1]
          rfl
        · show 9 * S.1.2 - am_ix (nI (k + 1)) < 9 * S.1.2 - am_ix (nI k)
          rw [nI_ix (by omega), nI_ix (by omega)]; omega
      · have e3 : k = 9 * S.1.2 := by omega
        refine ⟨⟨p0, ⟨q0, f'⟩, fun y6 hy6 => ?_⟩, .inr ⟨(sv (fun k => tvl S.1.1 S.1.2 (k / 9) (k % 9)) k r3.1, nI k, q0.2), ?_, by rw [e3], f2⟩⟩
        · have : q0 = y6 := by rw [f'] at hy6; exact Sum.inr.inj hy6
          subst this
          refine ⟨fun z => absurd z ?_, fun _ => trivial⟩
          show ¬ nI k < 9 * q0.1
          rw [f3]; exact nI_nlt (by omega) (by omega)
        · show (match v_B_count H 0 with | .inl _ => Sum.inl (sv (fun k => tvl S.1.1 S.1.2 (k / 9) (k % 9)) k r3.1, nI k, H) | .inr y6 => (if nI k < 9 * y6.1 then _ else Sum.inr (sv (fun k => tvl S.1.1 S.1.2 (k / 9) (k % 9)) k r3.1, nI k, y6.2))) = _
          rw [f']
          show (if nI k < 9 * q0.1 then _ else _) = _
          rw [f3, if_neg (nI_nlt (by omega) (by omega))])
  -- settings
  obtain ⟨a8, r8, b8, c8⟩ := itr_invN (step := s_L_seen_38_105 h r1 r3 r5) (pst := ps_L_seen_38_105 h r1 r3 r5) (fun v => ∃ k, v = (sv (fun k => S.1.1 (8 + k)) k r5.1, nI k) ∧ k ≤ 4) (fun v => 4 - am_ix v.2)
    (fun r => r.1 = sv (fun k => S.1.1 (8 + k)) 4 r5.1) (r5.1, 0) (by show 4 - _ < 100000; omega) ⟨0, rfl, by omega⟩ (fun v hv => by
      obtain ⟨k, rfl, hk⟩ := hv
      by_cases hk2 : k < 4
      · have el : v_B_setting r5.2.2 (nI k) = .inr (S.1.1 (8 + k)) := by
          rw [setting_s d5]; unfold l_setting; rw [ixN_nI hk2 (by omega)]
        refine ⟨⟨fun _ => ⟨_, el⟩, fun _ => trivial⟩, .inl ⟨_, ?_, ⟨k + 1, rfl, by omega⟩, ?_⟩⟩
        · show (if nI k < 4 then (match v_B_setting r5.2.2 (nI k) with | .inl _ => _ | .inr y9 => Sum.inl (31 * sv (fun k => S.1.1 (8 + k)) k r5.1 + y9.toInt64, nI k + 1)) else _) = _
          rw [if_pos (show nI k < 4 from nI_lt (b := 4) hk2 (by omega)), el, nI_1]; rfl
        · show 4 - am_ix (nI (k + 1)) < 4 - am_ix (nI k)
          rw [nI_ix (by omega), nI_ix (by omega)]; omega
      · have e3 : k = 4 := by omega
        subst e3
        refine ⟨⟨fun z => absurd z (show ¬ nI 4 < 4 from nI_nlt (b := 4) (Nat.le_refl _) (by omega)), fun _ => trivial⟩, .inr ⟨(sv (fun k => S.1.1 (8 + k)) 4 r5.1, nI 4), ?_, rfl⟩⟩
        show (if nI 4 < 4 then _ else Sum.inr (sv (fun k => S.1.1 (8 + k)) 4 r5.1, nI 4)) = _
        rw [if_neg (show ¬ nI 4 < 4 from nI_nlt (b := 4) (Nat.le_refl _) (by omega))])
  have hv : v_L_seen_38 h = (r8.1, r5.2.2) := by unfold v_L_seen_38; rw [b1]; show (match itr (s_L_seen_38_33 h r1) NF (r1.1, 0, r1.2.2) with | some r3 => _ | none => _) = _; rw [b3]; show (match itr (s_L_seen_38_65 h r1 r3) NF (r3.1, 0, r3.2.2) with | some r5 => _ | none => _) = _; rw [b5]; show (match itr (s_L_seen_38_105 h r1 r3 r5) NF (r5.1, 0) with | some r8 => _ | none => _) = _; rw [b8]
  refine ⟨⟨a1, fun x1 h1 => ?_⟩, ?_, ?_⟩
  · rw [b1] at h1; cases h1
    refine ⟨a3, fun x3 h3 => ?_⟩
    rw [b3] at h3; cases h3
    refine ⟨a5, fun x5 h5 => ?_⟩
    rw [b5] at h5; cases h5
    exact a8
  · rw [hv]; show r8.1 = _; rw [c8, c5, c3, c1]; rfl
  · rw [hv]; exact d5
