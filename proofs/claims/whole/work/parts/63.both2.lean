/-! PURE: the methods of the face, class and model side by side: those of trips. -/
theorem trip_cases {n : Nat} {h : HP} {T : Nat → Int32} (hR : RT h.1 0 T n) (hI : Inv T n) (a : Int32) : (∃ t, t < n ∧ a = nI t ∧ v_B_checkTrip h a = none ∧ ∀ m : HP, m.1 1 = T → v_M_isTrip m a = 1) ∨ (v_B_checkTrip h a = some xI ∧ ∀ m : HP, m.1 1 = T → v_M_isTrip m a = 0) := by
  have h20 := hI.n20
  have h11 : h.1 0 11 = nI n := hR.nn
  have hb : ∀ m : HP, m.1 1 = T → v_M_isTrip m a = v_M_in m a 0 (nI n - 1) := fun m hm => by rw [v_M_isTrip, ix15, hm, hI.t15]
  cases n with
  | zero =>
    refine .inr ⟨?_, fun m hm => ?_⟩
    · rw [v_B_checkTrip, h11]
      by_cases h1 : a < 0
      · rw [if_pos h1]; rfl
      · rw [if_neg h1, if_neg (show ¬ a < nI 0 from h1)]; rfl
    · rw [hb m hm, v_M_in]
      by_cases h1 : a < 0
      · rw [if_pos h1]
      · rw [if_neg h1, if_neg]
        intro z
        have z1 := Int32.le_iff_toInt_le.mp z
        have z2 : ¬ a.toInt < (0 : Int32).toInt := fun z => h1 (Int32.lt_iff_toInt_lt.mpr z)
        have e1 : (nI 0 - 1).toInt = -1 := by decide +kernel
        have e2 : (0 : Int32).toInt = 0 := by decide +kernel
        omega
  | succ N =>
    rcases idx_cases (N := N) (by omega) a with ⟨t, h1, h2, h3, h4⟩ | ⟨h3, h4⟩
    · refine .inl ⟨t, h1, h2, by rw [v_B_checkTrip, h11]; exact h3 _ _ _, fun m hm => ?_⟩
      rw [hb m hm, nI_pred]; exact h4 m
    · refine .inr ⟨by rw [v_B_checkTrip, h11]; exact h3 _ _, fun m hm => ?_⟩
      rw [hb m hm, nI_pred]; exact h4 m
theorem pm_trip (m : HP) (a : Int32) : p_M_isTrip m a := in01 _ _ _ _
theorem rsn_z {T : Nat → Int32} {n a b : Nat} (hI : Inv T n) (ha : a < n) (hb : b < n) (h : rsn T n a b = 0) : nx T b = none ∧ Inv (setN T b (some a)) n := by
  obtain ⟨r1, r2, r3, r4, r5, r6⟩ := rsn_tk hI ha hb h
  refine ⟨r3, hI.relk hb (fun j e => ?_)⟩
  cases e
  refine ⟨ha, ?_, ?_, r5, r4⟩
  · unfold isr at r2; exact beq_iff.mp r2
  · unfold isr at r1; exact beq_iff.mp r1
theorem whyNot_both {n : Nat} {h m : HP} (hr : RR n h m) (a b : Int32) : p_M_whyNot m a b ∧ Bo [(xI, 1)] h ((v_B_whyNot h a b).map id (fun q => (q, h))) (v_M_whyNot m a b) := by
  have hm0 : (am_si m 0 8 0).1 1 = m.1 1 := am_si_ne (by omega)
  rcases trip_cases hr.1 hr.2.1 a with ⟨s, hs, ea, e1, e2⟩ | ⟨e1, e2⟩
  · rcases trip_cases hr.1 hr.2.1 b with ⟨t, ht, eb, f1, f2⟩ | ⟨f1, f2⟩
    · have hq := mm_reason hm0 hr.2.1 hs ht
      refine ⟨⟨pm_trip _ _, fun _ => trivial, fun _ => ⟨pm_trip _ _, fun _ => trivial, fun _ => by rw [ea, eb]; exact hq.1⟩⟩, ?_⟩
      rw [v_B_whyNot, e1, f1, v_M_whyNot, e2 _ hm0, if_neg one0, f2 _ hm0, if_neg one0]
      refine ⟨th8 m 0, ?_, n, hr.th 0⟩
      show v_M_reason (am_si m 0 8 0) a b = v_T_reasonAgainst h a b
      rw [ea, eb, hq.2, cc_reason hr.1 hr.2.1 hs ht]
    · refine ⟨⟨pm_trip _ _, fun _ => trivial, fun _ => ⟨pm_trip _ _, fun _ => trivial, fun z => absurd (f2 _ hm0) z⟩⟩, ?_⟩
      rw [v_B_whyNot, e1, f1, v_M_whyNot, e2 _ hm0, if_neg one0, f2 _ hm0, if_pos rfl]
      exact Bo.thr hr (.head _)
  · refine ⟨⟨pm_trip _ _, fun _ => trivial, fun z => absurd (e2 _ hm0) z⟩, ?_⟩
    rw [v_B_whyNot, e1, v_M_whyNot, e2 _ hm0, if_pos rfl]
    exact Bo.thr hr (.head _)
theorem blockAll_bo {n : Nat} {h m : HP} (hr : RR n h m) : p_B_blockAll h ∧ p_M_blockAll m ∧ Bo [] h (.inr (v_B_blockAll h)) (v_M_blockAll m) := by
  obtain ⟨s1, s2, s3, s4, s5, s6, s7⟩ := RR_save (hr.th 0)
  obtain ⟨a1, a2, T', a3, a4, a5, a6, a7, a8, a9, a10, a11⟩ := blockAll_both s3.1 rfl s3.2.1
  obtain ⟨b1, b2⟩ := cc_blocks a3 a4
  refine ⟨⟨s1, fun y1 hy => by subst hy; exact ⟨a1, fun y2 hy => by subst hy; exact b1⟩⟩, ⟨s2, fun y1 hy => by subst hy; exact a2⟩, ?_⟩
  refine ⟨?_, ?_, n, ?_⟩
  · show (v_M_blocksAll (v_M_saves (am_si m 0 8 0))).2.1 0 8 = 0
    rw [a10 8 (by omega), s6, th8]
  · show (v_M_blocksAll (v_M_saves (am_si m 0 8 0))).1 = v_T_blocks (v_T_blockEverything (v_B_save h))
    rw [a6, b2]
  · refine s3.put (h' := v_T_blockEverything (v_B_save h)) (m' := (v_M_blocksAll (v_M_saves (am_si m 0 8 0))).2) ⟨fun c hc => a8 c (by omega) (by omega), by rw [a8 18 (by omega) (by omega)]⟩ ⟨a9 3 (by omega) (by omega), a9 4 (by omega) (by omega), a9 5 (by omega) (by omega), a9 6 (by omega) (by omega), a10 3 (by omega), a10 7 (by omega)⟩ ?_ ?_
    · rw [a5]; exact a3
    · rw [a5]; exact a4
/-- class and row after a change of who comes next -/
theorem RR.nxt {n : Nat} {H M H' : HP} {k : Nat} {o : Option Nat} (hr : RR n H M) (hR : RT H'.1 0 (setN (M.1 1) k o) n) (hI : Inv (setN (M.1 1) k o) n) (hf : ∀ c, c ≠ 6 → c ≠ 7 → H'.1 c = H.1 c) : RR n H' (am_si M 1 (16 + 7 * k + 6) (eo o)) :=
  hr.put ⟨fun c hc => hf c (by omega) (by omega), by rw [hf 18 (by omega) (by omega)]⟩
    ⟨am_si_ne (by omega), am_si_ne (by omega), am_si_ne (by omega), am_si_ne (by omega), by rw [am_si_ne (by omega)], by rw [am_si_ne (by omega)]⟩
    (by rw [si1]; exact hR) (by rw [si1]; exact hI)
theorem follow_both {n : Nat} {h m : HP} (hr : RR n h m) (a b : Int32) : p_B_follow h a b ∧ p_M_follow m a b ∧ Bo [(xI, 1)] h (v_B_follow h a b) (v_M_follow m a b) := by
  obtain ⟨s1, s2, s3, s4, s5, s6, s7⟩ := RR_save (hr.th 0)
  refine ⟨fun _ _ => s1, ?_⟩
  have hm0 : (am_si m 0 8 0).1 1 = m.1 1 := am_si_ne (by omega)
  have h20 := hr.2.1.n20
  rcases trip_cases hr.1 hr.2.1 a with ⟨s, hs, ea, e1, e2⟩ | ⟨e1, e2⟩
  · rcases trip_cases hr.1 hr.2.1 b with ⟨t, ht, eb, f1, f2⟩ | ⟨f1, f2⟩
    · have hq := mm_reason (m := v_M_saves (am_si m 0 8 0)) rfl s3.2.1 hs ht
      have hc := cc_reason s3.1 s3.2.1 hs ht
      refine ⟨⟨pm_trip _ _, fun _ => trivial, fun _ => ⟨pm_trip _ _, fun _ => trivial, fun _ => ⟨s2, fun y hy => ?_⟩⟩⟩, ?_⟩
      · subst hy
        rw [ea, eb]
        exact ⟨hq.1, fun _ => pm_becomes _ (w := 6) (by omega) (by omega) _, fun _ => trivial⟩
      · by_cases e0 : rsn ((v_M_saves (am_si m 0 8 0)).1 1) n s t = 0
        · obtain ⟨z1, z2⟩ := rsn_z s3.2.1 hs ht e0
          obtain ⟨l1, l2⟩ := cc_link s3.1 s3.2.1 hs ht z1 z2
          have hcv : v_B_follow h a b = .inr (nI 0, v_T_link (v_B_save h) (nI s) (nI t)) := by
            rw [v_B_follow, e1, f1, ea, eb]
            show (if v_T_reasonAgainst (v_B_save h) (nI s) (nI t) = 0 then Sum.inr (v_T_reasonAgainst (v_B_save h) (nI s) (nI t), v_T_link (v_B_save h) (nI s) (nI t)) else Sum.inr (v_T_reasonAgainst (v_B_save h) (nI s) (nI t), am_si (v_B_save h) 0 14 (((v_B_save h).1 0 14) + 1))) = _
            rw [hc, e0, if_pos (show nI 0 = 0 from rfl)]
          have hmv : v_M_follow m a b = (nI 0, am_si (v_M_saves (am_si m 0 8 0)) 1 (16 + 7 * t + 6) (nI s)) := by
            rw [v_M_follow, e2 _ hm0, if_neg one0, f2 _ hm0, if_neg one0, ea, eb]
            show (if v_M_reason (v_M_saves (am_si m 0 8 0)) (nI s) (nI t) = 0 then (v_M_reason (v_M_saves (am_si m 0 8 0)) (nI s) (nI t), v_M_becomes (v_M_saves (am_si m 0 8 0)) (nI t) 6 (nI s)) else _) = _
            rw [hq.2, e0, if_pos (show nI 0 = 0 from rfl), show v_M_becomes (v_M_saves (am_si m 0 8 0)) (nI t) 6 (nI s) = _ from vm_becomes _ (w := 6) (by omega) (by omega) _]
          rw [hcv, hmv]
          refine ⟨?_, rfl, n, s3.nxt (o := some s) l1 z2 l2⟩
          show (am_si _ 1 _ _).1 0 8 = 0
          rw [am_si_ne (by omega), s6, th8]
        · have hlt : ∀ T, rsn T n s t < 100 := fun T => by unfold rsn; repeat' (first | omega | split)
          have hne : ¬ nI (rsn ((v_M_saves (am_si m 0 8 0)).1 1) n s t) = 0 := fun z => e0 ((nI_z (by have := hlt ((v_M_saves (am_si m 0 8 0)).1 1); omega)).mp z)
          have hcv : v_B_follow h a b = .inr (nI (rsn ((v_M_saves (am_si m 0 8 0)).1 1) n s t), am_si (v_B_save h) 0 14 ((v_B_save h).1 0 14 + 1)) := by
            rw [v_B_follow, e1, f1, ea, eb]
            show (if v_T_reasonAgainst (v_B_save h) (nI s) (nI t) = 0 then Sum.inr (v_T_reasonAgainst (v_B_save h) (nI s) (nI t), v_T_link (v_B_save h) (nI s) (nI t)) else Sum.inr (v_T_reasonAgainst (v_B_save h) (nI s) (nI t), am_si (v_B_save h) 0 14 (((v_B_save h).1 0 14) + 1))) = _
            rw [hc, if_neg hne]
          have hmv : v_M_follow m a b = (nI (rsn ((v_M_saves (am_si m 0 8 0)).1 1) n s t), am_si (v_M_saves (am_si m 0 8 0)) 1 14 ((v_M_saves (am_si m 0 8 0)).1 1 14 + 1)) := by
            rw [v_M_follow, e2 _ hm0, if_neg one0, f2 _ hm0, if_neg one0, ea, eb]
            show (if v_M_reason (v_M_saves (am_si m 0 8 0)) (nI s) (nI t) = 0 then (v_M_reason (v_M_saves (am_si m 0 8 0)) (nI s) (nI t), v_M_becomes (v_M_saves (am_si m 0 8 0)) (nI t) 6 (nI s)) else (v_M_reason (v_M_saves (am_si m 0 8 0)) (nI s) (nI t), am_si (v_M_saves (am_si m 0 8 0)) 1 (am_ix 14) ((v_M_saves (am_si m 0 8 0)).1 1 (am_ix 14) + 1))) = _
            rw [hq.2, if_neg hne, ix14]
          have e14 : (v_B_save h).1 0 14 = (v_M_saves (am_si m 0 8 0)).1 1 14 := s3.1.re
          rw [hcv, hmv, e14]
          refine ⟨?_, rfl, n, s3.up (by omega) (by omega) (fun k _ => ⟨by omega, by omega, by omega, by omega, by omega, by omega, by omega, by omega, by omega⟩) (fun k _ => ⟨by omega, by omega, by omega⟩) (s3.2.1.any (.inr rfl))⟩
          show (am_si _ 1 _ _).1 0 8 = 0
          rw [am_si_ne (by omega), s6, th8]
    · refine ⟨⟨pm_trip _ _, fun _ => trivial, fun _ => ⟨pm_trip _ _, fun _ => trivial, fun z => absurd (f2 _ hm0) z⟩⟩, ?_⟩
      rw [v_B_follow, e1, f1, v_M_follow, e2 _ hm0, if_neg one0, f2 _ hm0, if_pos rfl]
      exact Bo.thr hr (.head _)
  · refine ⟨⟨pm_trip _ _, fun _ => trivial, fun z => absurd (e2 _ hm0) z⟩, ?_⟩
    rw [v_B_follow, e1, v_M_follow, e2 _ hm0, if_pos rfl]
    exact Bo.thr hr (.head _)
theorem part_both {n : Nat} {h m : HP} (hr : RR n h m) (a : Int32) : p_B_part h a ∧ p_M_part m a ∧ Bo [(xI, 1), (xS, 2)] h (v_B_part h a) (v_M_part m a) := by
  obtain ⟨s1, s2, s3, s4, s5, s6, s7⟩ := RR_save (hr.th 0)
  refine ⟨fun _ => ⟨fun _ => trivial, fun _ => s1⟩, ?_⟩
  have hm0 : (am_si m 0 8 0).1 1 = m.1 1 := am_si_ne (by omega)
  have h20 := hr.2.1.n20
  rcases trip_cases hr.1 hr.2.1 a with ⟨t, ht, ea, e1, e2⟩ | ⟨e1, e2⟩
  · have hn := mm_next hm0 hr.2.1 ht
    have hn' := mm_next (s5.trans hm0) hr.2.1 ht
    have e7 : v_at 20 (h.1 7) a = eo (nx (m.1 1) t) := by rw [ea, at20 _ (by omega), (hr.1.nx ht : h.1 7 t = _), hr.2.1.nxe ht]
    refine ⟨⟨pm_trip _ _, fun _ => trivial, fun _ => ⟨by rw [ea]; exact hn.1, fun _ => trivial, fun _ => ⟨s2, fun y hy => ?_⟩⟩⟩, ?_⟩
    · subst hy
      rw [ea]
      exact ⟨hn'.1, pm_becomes _ (w := 6) (by omega) (by omega) _⟩
    · cases en : nx (m.1 1) t with
      | none =>
        rw [v_B_part, e1, v_M_part, e2 _ hm0, if_neg one0, ea, hn.2, en, if_pos (show eo none = -1 from rfl)]
        show Bo _ h (if v_at 20 (h.1 7) (nI t) = -1 then _ else _) _
        rw [← ea, e7, en, if_pos (show eo none = -1 from rfl)]
        exact Bo.thr hr (.tail _ (.head _))
      | some j =>
        have hj := (hr.2.1.nxs ht en).1
        have hne : ¬ eo (some j) = -1 := nI_m1 (by omega)
        obtain ⟨l1, l2⟩ := cc_cutB s3.1 s3.2.1 ht
        have hcv : v_B_part h a = .inr (eo (some j), v_T_cutBehind (v_B_save h) (nI t)) := by
          rw [v_B_part, e1]
          show (if v_at 20 (h.1 7) a = -1 then _ else Sum.inr (v_at 20 (h.1 7) a, v_T_cutBehind (v_B_save h) a)) = _
          rw [e7, en, if_neg hne, ea]
        have hmv : v_M_part m a = (eo (some j), am_si (v_M_saves (am_si m 0 8 0)) 1 (16 + 7 * t + 6) (-1)) := by
          rw [v_M_part, e2 _ hm0, if_neg one0, ea, hn.2, en, if_neg hne]
          show (v_M_next (v_M_saves (am_si m 0 8 0)) (nI t), v_M_becomes (v_M_saves (am_si m 0 8 0)) (nI t) 6 (-1)) = _
          rw [hn'.2, en, show v_M_becomes (v_M_saves (am_si m 0 8 0)) (nI t) 6 (-1) = _ from vm_becomes _ (w := 6) (by omega) (by omega) _]
        rw [hcv, hmv]
        refine ⟨?_, rfl, n, s3.nxt (o := none) l1 (s3.2.1.cut ht) l2⟩
        show (am_si _ 1 _ _).1 0 8 = 0
        rw [am_si_ne (by omega), s6, th8]
  · refine ⟨⟨pm_trip _ _, fun _ => trivial, fun z => absurd (e2 _ hm0) z⟩, ?_⟩
    rw [v_B_part, e1, v_M_part, e2 _ hm0, if_pos rfl]
    exact Bo.thr hr (.head _)
theorem fail_both {n : Nat} {h m : HP} (hr : RR n h m) (a : Int32) : p_B_fail h a ∧ p_M_fail m a ∧ Bo [(xI, 1), (xS, 2)] h (v_B_fail h a) (v_M_fail m a) := by
  obtain ⟨s1, s2, s3, s4, s5, s6, s7⟩ := RR_save (hr.th 0)
  have hm0 : (am_si m 0 8 0).1 1 = m.1 1 := am_si_ne (by omega)
  rcases trip_cases hr.1 hr.2.1 a with ⟨t, ht, ea, e1, e2⟩ | ⟨e1, e2⟩
  · have hn := mm_isRun hm0 hr.2.1 ht
    have hc := cc_isRun hr.1 hr.2.1 ht
    obtain ⟨a1, a2, a3, a4⟩ := cc_loseBus s3.1 s3.2.1 ht
    obtain ⟨b1, b2, b3, b4, b5⟩ := mm_fails (m := v_M_saves (am_si m 0 8 0)) rfl s3.2.1 ht
    refine ⟨fun _ _ => ⟨s1, fun y hy => by subst hy; rw [ea]; exact a1⟩, ⟨pm_trip _ _, fun _ => trivial, fun _ => ⟨by rw [ea]; exact hn.1, fun _ => trivial, fun _ => ⟨s2, fun y hy => by subst hy; rw [ea]; exact b1⟩⟩⟩, ?_⟩
    cases en : isr (m.1 1) t with
    | false =>
      have z : v_B_checkRun h (nI t) = some xS := by rw [v_B_checkRun, hc, en, if_pos (show b01 false = 0 from rfl)]; rfl
      rw [v_B_fail, e1, v_M_fail, e2 _ hm0, if_neg one0, ea, hn.2, en, if_pos (show b01 false = 0 from rfl)]
      show Bo _ h (match v_B_checkRun h (nI t) with | some E => _ | none => _) _
      rw [z]
      exact Bo.thr hr (.tail _ (.head _))
    | true =>
      have hne : ¬ b01 true = 0 := one0
      have hcv : v_B_fail h a = .inr (v_T_loseBus (v_B_save h) (nI t)) := by
        have z : v_B_checkRun h (nI t) = none := by rw [v_B_checkRun, hc, en, if_neg hne]
        rw [v_B_fail, e1, ea]
        show (match v_B_checkRun h (nI t) with | some E => _ | none => _) = _
        rw [z]; rfl
      have hmv : v_M_fail m a = v_M_fails (v_M_saves (am_si m 0 8 0)) (nI t) := by
        rw [v_M_fail, e2 _ hm0, if_neg one0, ea, hn.2, en, if_neg hne]; rfl
      rw [hcv, hmv]
      refine ⟨?_, ?_, n, s3.put ⟨fun c hc => a4 c (by omega), by rw [a4 18 (by omega)]⟩ ⟨b4 3 (by omega), b4 4 (by omega), b4 5 (by omega), b4 6 (by omega), by rw [b4 0 (by omega)], by rw [b4 0 (by omega)]⟩ (by rw [b3]; exact a3) (by rw [b3]; exact fT_inv s3.2.1.cnt ht _)⟩
      · rw [b4 0 (by omega), s6, th8]
      · rw [b2, a2]
  · refine ⟨fun z => (nomatch (e1.symm.trans z)), ⟨pm_trip _ _, fun _ => trivial, fun z => absurd (e2 _ hm0) z⟩, ?_⟩
    rw [v_B_fail, e1, v_M_fail, e2 _ hm0, if_pos rfl]
    exact Bo.thr hr (.head _)
