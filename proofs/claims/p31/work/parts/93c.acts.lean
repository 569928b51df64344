/-! PURE: the class's methods by the state: those that change the timetable. -/
def s_layover (S : Sta) (a b : Int32) : Rsl := match ixN a 4 with
  | none => .inl xI
  | some t => match rnN b 0 60 with
    | none => .inl xA
    | some _ => .inr (S.1.1 t, sav S (upd S.1.1 t b, S.1.2))
def s_relief (S : Sta) (a : Int32) : Rsl := match ixN a 4 with
  | none => .inl xI
  | some t => .inr (1 - S.1.1 (4 + t), sav S (upd S.1.1 (4 + t) (1 - S.1.1 (4 + t)), S.1.2))
def setLo (t : Nat) : Nat := if t = 1 then 60 else 0
def setHi (t : Nat) : Nat := if t = 0 then 1 else if t = 1 then 900 else if t = 2 then 9 else 240
def s_set (S : Sta) (a b : Int32) : Rsl := match ixN a 4 with
  | none => .inl xI
  | some t => match rnN b (setLo t) (setHi t) with
    | none => .inl xA
    | some _ => .inr (S.1.1 (8 + t), sav S (upd S.1.1 (8 + t) b, S.1.2))
def s_trip (S : Sta) (a b c d e : Int32) : Rsl := if told a b c d e = true then (if S.1.2 < 20 then .inr (nI S.1.2, sav S (addT S.1.1 S.1.2 a b c d e, S.1.2 + 1)) else .inl xS) else .inl xA
def aloneT (T : Nat → Int32) (n k : Nat) : Nat → Int32 := setN (cutAT T n k) k none
def s_shift (S : Sta) (a b : Int32) : Rsl := match ixN a S.1.2 with
  | none => .inl xI
  | some t => match rnN b 0 1439 with
    | none => .inl xA
    | some _ => if isr S.1.1 t = true then .inr (S.1.1 (16 + 7 * t + 3), sav S (upd (aloneT S.1.1 S.1.2 t) (16 + 7 * t + 3) b, S.1.2)) else .inl xS
def s_follow (S : Sta) (a b : Int32) : Rsl := match ixN a S.1.2 with
  | none => .inl xI
  | some s => match ixN b S.1.2 with
    | none => .inl xI
    | some t => if rsn S.1.1 S.1.2 s t = 0 then .inr (nI 0, sav S (setN S.1.1 t (some s), S.1.2)) else .inr (nI (rsn S.1.1 S.1.2 s t), sav S (upd S.1.1 14 (S.1.1 14 + 1), S.1.2))
def s_part (S : Sta) (a : Int32) : Rsl := match ixN a S.1.2 with
  | none => .inl xI
  | some t => match nx S.1.1 t with
    | none => .inl xS
    | some j => .inr (nI j, sav S (setN S.1.1 t none, S.1.2))
def s_blockAll (S : Sta) : Int32 × Sta := (nI (cn (hd (baT S.1.1 S.1.2) S.1.2) S.1.2), sav S (baT S.1.1 S.1.2, S.1.2))
def s_fail (S : Sta) (a : Int32) : Rsl := match ixN a S.1.2 with
  | none => .inl xI
  | some t => if isr S.1.1 t = true then .inr (nI (lsl S.1.1 t).length, sav S (failT S.1.1 S.1.2 t, S.1.2)) else .inl xS
section ACT
variable {h : HP} {S : Sta}
theorem RS.th (hs : RS h S) : TH (v_B_save h) 0 S.1 := hs.save.2.1.1
theorem layover_s (hs : RS h S) (a b : Int32) : p_B_layover h a b ∧ Co (v_B_layover h a b) (s_layover S a b) := by
  have s1 := hs.save.1
  refine ⟨fun _ _ => s1, ?_⟩
  rcases term_c h a with ⟨t, ht, ea, e1, e2⟩ | ⟨e1, e2⟩
  · rcases rng_c (lo := 0) (hi := 60) (by omega) (by omega) h b with ⟨v, _, hv, eb, f1, f2⟩ | ⟨f1, f2⟩
    · have hc : v_B_layover h a b = .inr (v_at 4 ((v_B_save h).1 9) a, v_put 4 (v_B_save h) 9 a b) := by
        rw [v_B_layover, e1]
        show (match v_B_checkRange h b (nI 0) (nI 60) with | some E => _ | none => _) = _
        rw [f1]; rfl
      rw [hc, s_layover, e2, f2, ea, put_nI (by omega) _ _ ht, at_nI (by omega) _ ht, eb]
      refine ⟨hs.savT.lay ht, hs.sav (fun c hc => am_si_ne (by omega)) ?_⟩
      exact hs.th.up (by omega) (fun k _ => ⟨by omega, by omega, by omega, by omega, by omega, by omega, by omega, by omega, by omega⟩) (fun k _ => ⟨by omega, by omega, by omega⟩) (hs.1.2.low (by omega) (by omega) (by omega))
    · have hc : v_B_layover h a b = .inl xA := by
        rw [v_B_layover, e1]
        show (match v_B_checkRange h b (nI 0) (nI 60) with | some E => _ | none => _) = _
        rw [f1]
      rw [hc, s_layover, e2, f2]
      rfl
  · rw [v_B_layover, e1, s_layover, e2]
    rfl
theorem relief_s (hs : RS h S) (a : Int32) : p_B_relief h a ∧ Co (v_B_relief h a) (s_relief S a) := by
  have s1 := hs.save.1
  refine ⟨fun _ => s1, ?_⟩
  rcases term_c h a with ⟨t, ht, ea, e1, e2⟩ | ⟨e1, e2⟩
  · have hc : v_B_relief h a = .inr (1 - (v_at 4 ((v_B_save h).1 10) a), v_put 4 (v_B_save h) 10 a (1 - (v_at 4 ((v_B_save h).1 10) a))) := by
      rw [v_B_relief, e1]; rfl
    have hb := hs.1.2.rel ht
    have e3 : (v_B_save h).1 10 t = S.1.1 (4 + t) := hs.savT.rel ht
    obtain ⟨v, hv, ev⟩ : ∃ v, v ≤ 1 ∧ S.1.1 (4 + t) = nI v := ⟨_, hb.2, hb.1⟩
    have e4 : (1 : Int32) - nI v = nI (1 - v) := nI_sub (a := 1) hv
    rw [hc, s_relief, e2, ea, at_nI (by omega) _ ht, e3]
    refine ⟨rfl, ?_⟩
    rw [ev, e4, put_nI (by omega) _ _ ht]
    refine hs.sav (fun c hc => am_si_ne (by omega)) ?_
    exact hs.th.up (by omega) (fun k _ => ⟨by omega, by omega, by omega, by omega, by omega, by omega, by omega, by omega, by omega⟩) (fun k _ => ⟨by omega, by omega, by omega⟩) (hs.1.2.low (by omega) (by omega) (by omega))
  · rw [v_B_relief, e1, s_relief, e2]
    rfl
theorem set_s (hs : RS h S) (a b : Int32) : p_B_set h a b ∧ Co (v_B_set h a b) (s_set S a b) := by
  have s1 := hs.save.1
  refine ⟨fun _ _ => s1, ?_⟩
  rcases sett_c h a with ⟨t, ht, ea, e1, e2⟩ | ⟨e1, e2⟩
  · obtain ⟨l1, l2, l3, l4, l6⟩ : setLo t ≤ setHi t ∧ setHi t ≤ 900 ∧ v_at 4 (h.1 1002) a = nI (setLo t) ∧ v_at 4 (h.1 1003) a = nI (setHi t) ∧ ((t = 0 → setHi t ≤ 1) ∧ (t = 2 → setHi t ≤ 9) ∧ (t = 3 → setHi t ≤ 240)) := by
      obtain ⟨⟨z0, z1, z2, z3⟩, y0, y1, y2, y3⟩ := hs.2.2.2.2
      rw [ea, at_nI (by omega) _ ht, at_nI (by omega) _ ht]
      match t, ht with
      | 0, _ => exact ⟨by decide, by decide, z0, y0, by decide⟩
      | 1, _ => exact ⟨by decide, by decide, z1, y1, by decide⟩
      | 2, _ => exact ⟨by decide, by decide, z2, y2, by decide⟩
      | 3, _ => exact ⟨by decide, by decide, z3, y3, by decide⟩
      | t + 4, z => omega
    rcases rng_c (lo := setLo t) (hi := setHi t) (by omega) l1 h b with ⟨v, _, hv, eb, f1, f2⟩ | ⟨f1, f2⟩
    · have hc : v_B_set h a b = .inr (v_at 4 ((v_B_save h).1 11) a, v_put 4 (v_B_save h) 11 a b) := by
        rw [v_B_set, e1]
        show (match v_B_checkRange h b (v_at 4 (h.1 1002) a) (v_at 4 (h.1 1003) a) with | some E => _ | none => _) = _
        rw [l3, l4, f1]; rfl
      rw [hc, s_set, e2]
      show Co _ (match rnN b (setLo t) (setHi t) with | none => _ | some _ => _)
      rw [f2, ea, put_nI (by omega) _ _ ht, at_nI (by omega) _ ht, eb]
      refine ⟨hs.savT.se ht, hs.sav (fun c hc => am_si_ne (by omega)) ?_⟩
      exact hs.th.up (by omega) (fun k _ => ⟨by omega, by omega, by omega, by omega, by omega, by omega, by omega, by omega, by omega⟩) (fun k _ => ⟨by omega, by omega, by omega⟩) (hs.1.2.low (by omega) (by omega) (by omega))
    · have hc : v_B_set h a b = .inl xA := by
        rw [v_B_set, e1]
        show (match v_B_checkRange h b (v_at 4 (h.1 1002) a) (v_at 4 (h.1 1003) a) with | some E => _ | none => _) = _
        rw [l3, l4, f1]
      rw [hc, s_set, e2]
      show Co _ (match rnN b (setLo t) (setHi t) with | none => _ | some _ => _)
      rw [f2]
      rfl
  · rw [v_B_set, e1, s_set, e2]
    rfl
theorem trip_s (hs : RS h S) (a b c d e : Int32) : p_B_trip h a b c d e ∧ Co (v_B_trip h a b c d e) (s_trip S a b c d e) := by
  have s1 := hs.save.1
  have h20 := hs.1.2.n20
  refine ⟨fun _ => ⟨fun _ => s1, fun _ => trivial⟩, ?_⟩
  rcases told_c h a b c d e with ⟨r, f, t, p, l, b1, b2, b3, b4, b5, b6, ea, eb, ec, ed, ee, t1, t2⟩ | ⟨t1, t2⟩
  · by_cases e0 : S.1.2 < 20
    · have hlt : h.1 0 11 < 20 := by rw [hs.nn]; exact nI_lt (b := 20) e0 (by omega)
      obtain ⟨c1, c2, c3⟩ := cc_add hs.savT hs.1.2 e0 a b c d e
      have hcv : v_B_trip h a b c d e = .inr (v_T_addTrip (v_B_save h) a b c d e) := by
        rw [v_B_trip, t1]
        show (if h.1 0 11 < 20 then Sum.inr (v_T_addTrip (v_B_save h) a b c d e) else _) = _
        rw [if_pos hlt]
      rw [hcv, s_trip, if_pos t2, if_pos e0]
      refine ⟨c2, hs.sav (fun c hc => c3 c (by omega)) ⟨c1, ?_⟩⟩
      show Inv (addT S.1.1 S.1.2 a b c d e) (S.1.2 + 1)
      rw [ea, eb, ec, ed, ee]
      exact hs.1.2.add e0 b1 b2 b3 b4 b6 b5
    · have hlt : ¬ h.1 0 11 < 20 := by rw [hs.nn]; exact nI_nlt (b := 20) (by omega) (by omega)
      rw [v_B_trip, t1, s_trip, if_pos t2, if_neg e0]
      show Co (if h.1 0 11 < 20 then _ else _) _
      rw [if_neg hlt]
      rfl
  · have hcv : v_B_trip h a b c d e = .inl xA := by rw [v_B_trip, t1]
    rw [hcv, s_trip, if_neg (show ¬ told a b c d e = true by rw [t2]; decide)]
    rfl
theorem follow_s (hs : RS h S) (a b : Int32) : p_B_follow h a b ∧ Co (v_B_follow h a b) (s_follow S a b) := by
  have s1 := hs.save.1
  have h20 := hs.1.2.n20
  refine ⟨fun _ _ => s1, ?_⟩
  rcases trip_c hs.1.1 hs.1.2 a with ⟨s, hs', ea, e1, e2⟩ | ⟨e1, e2⟩
  · rcases trip_c hs.1.1 hs.1.2 b with ⟨t, ht, eb, f1, f2⟩ | ⟨f1, f2⟩
    · have hc := cc_reason hs.savT hs.1.2 hs' ht
      by_cases e0 : rsn S.1.1 S.1.2 s t = 0
      · obtain ⟨r1, r2, z1, r4, r5, r6⟩ := rsn_tk hs.1.2 hs' ht e0
        have z2 : Inv (setN S.1.1 t (some s)) S.1.2 := hs.1.2.relk ht (fun j e => by
          cases e
          refine ⟨hs', ?_, ?_, r5, r4⟩
          · unfold isr at r2; exact beq_iff.mp r2
          · unfold isr at r1; exact beq_iff.mp r1)
        obtain ⟨l1, l2⟩ := cc_link hs.savT hs.1.2 hs' ht z1 z2
        have hcv : v_B_follow h a b = .inr (nI 0, v_T_link (v_B_save h) (nI s) (nI t)) := by
          rw [v_B_follow, e1, f1, ea, eb]
          show (if v_T_reasonAgainst (v_B_save h) (nI s) (nI t) = 0 then Sum.inr (v_T_reasonAgainst (v_B_save h) (nI s) (nI t), v_T_link (v_B_save h) (nI s) (nI t)) else Sum.inr (v_T_reasonAgainst (v_B_save h) (nI s) (nI t), am_si (v_B_save h) 0 14 (((v_B_save h).1 0 14) + 1))) = _
          rw [hc, e0, if_pos (show nI 0 = 0 from rfl)]
        rw [hcv, s_follow, e2]
        show Co _ (match ixN b S.1.2 with | none => _ | some t => _)
        rw [f2]
        show Co _ (if rsn S.1.1 S.1.2 s t = 0 then _ else _)
        rw [if_pos e0]
        exact ⟨rfl, hs.sav (fun c hc => l2 c (by omega) (by omega)) ⟨l1, z2⟩⟩
      · have hlt : ∀ T, rsn T S.1.2 s t < 100 := fun T => by unfold rsn; repeat' (first | omega | split)
        have hne : ¬ nI (rsn S.1.1 S.1.2 s t) = 0 := fun z => e0 ((nI_z (by have := hlt S.1.1; omega)).mp z)
        have e14 : (v_B_save h).1 0 14 = S.1.1 14 := hs.savT.re
        have hcv : v_B_follow h a b = .inr (nI (rsn S.1.1 S.1.2 s t), am_si (v_B_save h) 0 14 (S.1.1 14 + 1)) := by
          rw [v_B_follow, e1, f1, ea, eb]
          show (if v_T_reasonAgainst (v_B_save h) (nI s) (nI t) = 0 then Sum.inr (v_T_reasonAgainst (v_B_save h) (nI s) (nI t), v_T_link (v_B_save h) (nI s) (nI t)) else Sum.inr (v_T_reasonAgainst (v_B_save h) (nI s) (nI t), am_si (v_B_save h) 0 14 (((v_B_save h).1 0 14) + 1))) = _
          rw [hc, if_neg hne, e14]
        rw [hcv, s_follow, e2]
        show Co _ (match ixN b S.1.2 with | none => _ | some t => _)
        rw [f2]
        show Co _ (if rsn S.1.1 S.1.2 s t = 0 then _ else _)
        rw [if_neg e0]
        refine ⟨rfl, hs.sav (fun c hc => am_si_ne (by omega)) ?_⟩
        exact hs.th.up (by omega) (fun k _ => ⟨by omega, by omega, by omega, by omega, by omega, by omega, by omega, by omega, by omega⟩) (fun k _ => ⟨by omega, by omega, by omega⟩) (hs.1.2.any (.inr rfl))
    · rw [v_B_follow, e1, f1, s_follow, e2]
      show Co _ (match ixN b S.1.2 with | none => _ | some t => _)
      rw [f2]
      rfl
  · rw [v_B_follow, e1, s_follow, e2]
    rfl
theorem part_s (hs : RS h S) (a : Int32) : p_B_part h a ∧ Co (v_B_part h a) (s_part S a) := by
  have s1 := hs.save.1
  have h20 := hs.1.2.n20
  refine ⟨fun _ => ⟨fun _ => trivial, fun _ => s1⟩, ?_⟩
  rcases trip_c hs.1.1 hs.1.2 a with ⟨t, ht, ea, e1, e2⟩ | ⟨e1, e2⟩
  · have e7 : v_at 20 (h.1 7) a = eo (nx S.1.1 t) := by rw [ea]; exact cc_nx hs.1.1 hs.1.2 ht
    cases en : nx S.1.1 t with
    | none =>
      rw [v_B_part, e1, s_part, e2]
      show Co (if v_at 20 (h.1 7) a = -1 then _ else _) (match nx S.1.1 t with | none => _ | some j => _)
      rw [e7, en, if_pos (show eo none = -1 from rfl)]
      rfl
    | some j =>
      have hj := (hs.1.2.nxs ht en).1
      have hne : ¬ eo (some j) = -1 := nI_m1 (by omega)
      obtain ⟨l1, l2⟩ := cc_cutB hs.savT hs.1.2 ht
      have hcv : v_B_part h a = .inr (eo (some j), v_T_cutBehind (v_B_save h) (nI t)) := by
        rw [v_B_part, e1]
        show (if v_at 20 (h.1 7) a = -1 then _ else Sum.inr (v_at 20 (h.1 7) a, v_T_cutBehind (v_B_save h) a)) = _
        rw [e7, en, if_neg hne, ea]
      rw [hcv, s_part, e2]
      show Co _ (match nx S.1.1 t with | none => _ | some j => _)
      rw [en]
      exact ⟨rfl, hs.sav (fun c hc => l2 c (by omega) (by omega)) ⟨l1, hs.1.2.cut ht⟩⟩
  · rw [v_B_part, e1, s_part, e2]
    rfl
theorem blockAll_s (hs : RS h S) : p_B_blockAll h ∧ (v_B_blockAll h).1 = (s_blockAll S).1 ∧ RS (v_B_blockAll h).2 (s_blockAll S).2 := by
  have s1 := hs.save.1
  obtain ⟨a1, a3, a4, a8⟩ := cc_ball hs.savT hs.1.2
  obtain ⟨b1, b2⟩ := cc_blocks a3 a4
  refine ⟨⟨s1, fun y1 hy => by subst hy; exact ⟨a1, fun y2 hy => by subst hy; exact b1⟩⟩, b2, ?_⟩
  exact hs.sav (h' := v_T_blockEverything (v_B_save h)) (fun c hc => a8 c (by omega) (by omega)) ⟨a3, a4⟩
theorem checkRun_c (hs : RS h S) {t : Nat} (ht : t < S.1.2) : v_B_checkRun h (nI t) = if isr S.1.1 t = true then none else some xS := by
  have hc := cc_isRun hs.1.1 hs.1.2 ht
  unfold v_B_checkRun
  rw [hc]
  cases isr S.1.1 t with
  | false => rfl
  | true => rfl
theorem fail_s (hs : RS h S) (a : Int32) : p_B_fail h a ∧ Co (v_B_fail h a) (s_fail S a) := by
  have s1 := hs.save.1
  rcases trip_c hs.1.1 hs.1.2 a with ⟨t, ht, ea, e1, e2⟩ | ⟨e1, e2⟩
  · have hz := checkRun_c hs ht
    obtain ⟨a1, a2, a3, a4⟩ := cc_loseBus hs.savT hs.1.2 ht
    refine ⟨fun _ _ => ⟨s1, fun y hy => by subst hy; rw [ea]; exact a1⟩, ?_⟩
    by_cases en : isr S.1.1 t = true
    · have hcv : v_B_fail h a = .inr (v_T_loseBus (v_B_save h) (nI t)) := by
        rw [v_B_fail, e1, ea]
        show (match v_B_checkRun h (nI t) with | some E => _ | none => _) = _
        rw [hz, if_pos en]; rfl
      rw [hcv, s_fail, e2]
      show Co _ (if isr S.1.1 t = true then _ else _)
      rw [if_pos en]
      exact ⟨a2, hs.sav (fun c hc => a4 c (by omega)) ⟨a3, fT_inv hs.1.2.cnt ht _⟩⟩
    · rw [v_B_fail, e1, ea, s_fail, ← ea, e2]
      show Co (match v_B_checkRun h a with | some E => _ | none => _) (if isr S.1.1 t = true then _ else _)
      rw [ea, hz, if_neg en, if_neg en]
      rfl
  · refine ⟨fun z => (nomatch (e1.symm.trans z)), ?_⟩
    rw [v_B_fail, e1, s_fail, e2]
    rfl
theorem alone_inv {T : Nat → Int32} {n k : Nat} (hI : Inv T n) (hk : k < n) : Inv (aloneT T n k) n := (cutAT_inv hI hk).cut hk
theorem alone_nx {T : Nat → Int32} {n k : Nat} (hI : Inv T n) (hk : k < n) : nx (aloneT T n k) k = none := by
  unfold aloneT; rw [setN_nx (o := none) (fun _ z => nomatch z), if_pos rfl]
theorem alone_bf {T : Nat → Int32} {n k : Nat} (hI : Inv T n) (hk : k < n) : bfo (aloneT T n k) k n = none := by
  cases e : bfo (aloneT T n k) k n with
  | none => rfl
  | some j =>
    have h1 := (bfo_some e).1
    have h2 := (bfo_some e).2
    unfold aloneT at h2
    rw [setN_nx (o := none) (fun _ z => nomatch z)] at h2
    split at h2
    · cases h2
    · exact absurd h2 (bfo_none (cutAT_bf hI hk) j h1)
theorem Inv.dep {T : Nat → Int32} {n k v : Nat} (hI : Inv T n) (hk : k < n) (hv : v ≤ 1439) (hn : nx T k = none) (hb : bfo T k n = none) : Inv (upd T (16 + 7 * k + 3) (nI v)) n := by
  have h20 := hI.n20
  have hnx : ∀ q, nx (upd T (16 + 7 * k + 3) (nI v)) q = nx T q := fun q => nx_ne (by omega)
  refine ⟨InvA_ag hI (fun i hi => upd_ne (by omega)), fun q hq => ⟨bd_ne (by omega) (hI.rt hq), bd_ne (by omega) (hI.fr hq), bd_ne (by omega) (hI.go hq), ?_, ⟨bd_ne (by omega) (hI.ln hq), ?_⟩, bd_ne (by omega) (hI.lo hq)⟩, fun q hq => ?_, fun q j hq ej => ?_, fun q q' j hq hq' ej ej' => ?_⟩
  · by_cases e : q = k
    · subst e; exact bd_nI (upd_self ..) hv (by omega)
    · exact bd_ne (by omega) (hI.dp hq)
  · show 1 ≤ nT (upd _ _ _) (16 + 7 * q + 4)
    rw [nT_ne (by omega)]; exact hI.ln1 hq
  · rw [hnx, upd_ne (by omega)]; exact hI.nxe hq
  · rw [hnx] at ej
    have e1 : q ≠ k := fun e => by rw [e, hn] at ej; cases ej
    have e2 : j ≠ k := fun e => bfo_none hb q hq (by rw [ej, e])
    show j < n ∧ nT (upd _ _ _) (16 + 7 * q + 5) = 0 ∧ nT (upd _ _ _) (16 + 7 * j + 5) = 0 ∧ nT (upd _ _ _) (16 + 7 * q + 3) + nT (upd _ _ _) (16 + 7 * q + 4) ≤ nT (upd _ _ _) (16 + 7 * j + 3)
    rw [nT_ne (by omega), nT_ne (by omega), nT_ne (by omega), nT_ne (by omega), nT_ne (by omega)]
    exact hI.nxs hq ej
  · rw [hnx] at ej ej'
    exact hI.inj hq hq' ej ej'
theorem shift_s (hs : RS h S) (a b : Int32) : p_B_shift h a b ∧ Co (v_B_shift h a b) (s_shift S a b) := by
  have s1 := hs.save.1
  have h20 := hs.1.2.n20
  refine ⟨fun _ _ _ => s1, ?_⟩
  rcases trip_c hs.1.1 hs.1.2 a with ⟨t, ht, ea, e1, e2⟩ | ⟨e1, e2⟩
  · have hz := checkRun_c hs ht
    rcases rng_c (lo := 0) (hi := 1439) (by omega) (by omega) h b with ⟨v, _, hv, eb, f1, f2⟩ | ⟨f1, f2⟩
    · have f1' : v_B_checkRange h b 0 1439 = none := f1
      by_cases en : isr S.1.1 t = true
      · obtain ⟨a1, a2⟩ := cc_cutA hs.savT hs.1.2 ht
        have a1' : RT (v_T_cutAhead (v_B_save h) (nI t)).1 0 (cutAT S.1.1 S.1.2 t) S.1.2 := a1
        obtain ⟨a3, a4⟩ := cc_cutB a1' (cutAT_inv hs.1.2 ht) ht
        have a3' : TH (v_T_cutBehind (v_T_cutAhead (v_B_save h) (nI t)) (nI t)) 0 (aloneT S.1.1 S.1.2 t, S.1.2) := ⟨a3, alone_inv hs.1.2 ht⟩
        have hcv : v_B_shift h a b = .inr ((v_B_save h).1 4 t, am_si (v_T_cutBehind (v_T_cutAhead (v_B_save h) (nI t)) (nI t)) 4 t (nI v)) := by
          rw [v_B_shift, e1, f1', ea, eb]
          show (match v_B_checkRun h (nI t) with | some E => _ | none => Sum.inr (v_at 20 ((v_B_save h).1 4) (nI t), v_put 20 (v_T_cutBehind (v_T_cutAhead (v_B_save h) (nI t)) (nI t)) 4 (nI t) (nI v))) = _
          rw [hz, if_pos en, at20 _ (by omega), put20 _ _ (by omega)]
        rw [hcv, s_shift, e2]
        show Co _ (match rnN b 0 1439 with | none => _ | some _ => _)
        rw [f2]
        show Co _ (if isr S.1.1 t = true then _ else _)
        rw [if_pos en, eb]
        refine ⟨hs.savT.dp ht, hs.sav (fun c hc => by rw [am_si_ne (by omega), a4 c (by omega) (by omega), a2 c (by omega) (by omega)]) ?_⟩
        exact a3'.up (by omega) (fun k _ => ⟨by omega, by omega, by omega, by omega, by omega, by omega, by omega, by omega, by omega⟩) (fun k _ => ⟨by omega, by omega, by omega⟩) ((alone_inv hs.1.2 ht).dep ht hv (alone_nx hs.1.2 ht) (alone_bf hs.1.2 ht))
      · rw [v_B_shift, e1, f1', s_shift, e2]
        show Co (match v_B_checkRun h a with | some E => _ | none => _) (match rnN b 0 1439 with | none => _ | some _ => _)
        rw [f2, ea, hz, if_neg en]
        show Co _ (if isr S.1.1 t = true then _ else _)
        rw [if_neg en]
        rfl
    · have f1' : v_B_checkRange h b 0 1439 = some xA := f1
      rw [v_B_shift, e1, f1', s_shift, e2]
      show Co _ (match rnN b 0 1439 with | none => _ | some _ => _)
      rw [f2]
      rfl
  · rw [v_B_shift, e1, s_shift, e2]
    rfl
end ACT
