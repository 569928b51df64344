/-! PURE: the digest, class and model side by side: all that is mixed of the timetable. -/
theorem dig_all {n : Nat} {a : Int64} {h m : HP} (hr : DR n a h m) : p_M_mixesAll m ∧ ∃ r1 r3 r4, itrp (s_B_digest_6 h) (ps_B_digest_6 h) NF (a, 0, h) ∧ itr (s_B_digest_6 h) NF (a, 0, h) = some r1 ∧ itrp (s_B_digest_33 h r1) (ps_B_digest_33 h r1) NF (r1.1, 0) ∧ itr (s_B_digest_33 h r1) NF (r1.1, 0) = some r3 ∧
    itrp (s_B_digest_65 h r1 r3) (ps_B_digest_65 h r1 r3) NF (r3.1, 0, r1.2.2) ∧ itr (s_B_digest_65 h r1 r3) NF (r3.1, 0, r1.2.2) = some r4 ∧ p_B_hashTrips r4.2.2 r4.1 ∧ p_B_hashBlocks (v_B_hashTrips r4.2.2 r4.1).2 (v_B_hashTrips r4.2.2 r4.1).1 ∧
    DR n (v_B_hashBlocks (v_B_hashTrips r4.2.2 r4.1).2 (v_B_hashTrips r4.2.2 r4.1).1).1 (v_B_hashBlocks (v_B_hashTrips r4.2.2 r4.1).2 (v_B_hashTrips r4.2.2 r4.1).1).2 (v_M_mixesAll m) := by
  obtain ⟨a1, a2, r1, q1, a3, a4, a5⟩ := dig_count (h0 := h) (m0 := m) hr
  obtain ⟨b1, b2, r3, q4, b3, b4, b5⟩ := dig_set (h0 := h) (m0 := m) (r1 := r1) (r1' := q1) a5
  obtain ⟨c1, c2, r4, q6, c3, c4, c5⟩ := dig_term (h0 := h) (m0 := m) (r1 := r1) (r3 := r3) (q1 := q1) (q4 := q4) b5
  obtain ⟨d1, d2, r5, q8, d3, d4, d5⟩ := dig_trips (h0 := r4.2.2) (a0 := r4.1) (m0 := m) (q1 := q1) (q4 := q4) (q6 := q6) c5
  have hT : v_B_hashTrips r4.2.2 r4.1 = (r5.1, r5.2.2) := by rw [v_B_hashTrips, d3]
  obtain ⟨e1, e2, q10, e3, e4⟩ := dig_blocks (a0 := 0) (m0 := m) (q1 := q1) (q4 := q4) (q6 := q6) (q8 := q8) d5
  have hA : v_M_mixesAll m = q10.2 := by
    rw [v_M_mixesAll, a4]
    show (match itr (s_M_mixesAll_26 m q1) NF (0, q1.2) with | some r4 => (match itr (s_M_mixesAll_53 m q1 r4) NF (0, r4.2) with | some r6 => (match itr (s_M_mixesAll_82 m q1 r4 r6) NF (0, r6.2) with | some r8 => (match itr (s_M_mixesAll_106 m q1 r4 r6 r8) NF (0, r8.2) with | some r10 => r10.2 | none => m) | none => m) | none => m) | none => m) = _
    rw [b4]
    show (match itr (s_M_mixesAll_53 m q1 q4) NF (0, q4.2) with | some r6 => (match itr (s_M_mixesAll_82 m q1 q4 r6) NF (0, r6.2) with | some r8 => (match itr (s_M_mixesAll_106 m q1 q4 r6 r8) NF (0, r8.2) with | some r10 => r10.2 | none => m) | none => m) | none => m) = _
    rw [c4]
    show (match itr (s_M_mixesAll_82 m q1 q4 q6) NF (0, q6.2) with | some r8 => (match itr (s_M_mixesAll_106 m q1 q4 q6 r8) NF (0, r8.2) with | some r10 => r10.2 | none => m) | none => m) = _
    rw [d4]
    show (match itr (s_M_mixesAll_106 m q1 q4 q6 q8) NF (0, q8.2) with | some r10 => r10.2 | none => m) = _
    rw [e3]
  refine ⟨⟨a2, fun r z => ?_⟩, r1, r3, r4, a1, a3, b1, b3, c1, c3, d1, ?_, ?_⟩
  · rw [a4] at z; cases z
    refine ⟨b2, fun r z => ?_⟩
    rw [b4] at z; cases z
    refine ⟨c2, fun r z => ?_⟩
    rw [c4] at z; cases z
    refine ⟨d2, fun r z => ?_⟩
    rw [d4] at z; cases z
    exact e2
  · rw [hT]; exact e1
  · rw [hT, hA]; exact e4
