/-! PURE: the digest, class and model side by side: the loop over trips. -/
theorem dig_trip20 {n t : Nat} {b : Int64} {H M h0 m0 : HP} {a0 : Int64} (ht : t < n) (hD : DR n b H M) : itrp (s_B_hashTrips_20 h0 a0 (b, nI t, H)) (ps_B_hashTrips_20 h0 a0 (b, nI t, H)) NF (b, 0) ∧ itrp (s_M_mixesTrip_2 m0 (nI t)) (ps_M_mixesTrip_2 m0 (nI t)) NF (0, M) ∧ ∃ r q, itr (s_B_hashTrips_20 h0 a0 (b, nI t, H)) NF (b, 0) = some r ∧ itr (s_M_mixesTrip_2 m0 (nI t)) NF (0, M) = some q ∧ DR n r.1 H q.2 := by
  refine itr_relN (s₁ := s_B_hashTrips_20 h0 a0 (b, nI t, H)) (s₂ := s_M_mixesTrip_2 m0 (nI t)) (p₁ := ps_B_hashTrips_20 h0 a0 (b, nI t, H)) (p₂ := ps_M_mixesTrip_2 m0 (nI t))
    (fun x y => ∃ v c M, v ≤ 9 ∧ x = (c, nI v) ∧ y = (nI v, M) ∧ DR n c H M) (fun x _ => 9 - am_ix x.2) (fun r q => DR n r.1 H q.2) _ _ (by show 9 - _ < 100000; omega) ⟨0, b, M, by omega, rfl, rfl, hD⟩ ?_
  rintro x y ⟨v, c, M, hv, rfl, rfl, hD⟩
  by_cases e : v ≤ 8
  · obtain ⟨c1, c2, c3⟩ := trip_lk hD.1 hD.2.1 ht e
    have l1 : nI v ≤ 8 := (nI_lei (b := 8) (by omega) (by omega)).mpr e
    have l2 : nI v < 9 := nI_lt (b := 9) (by omega) (by omega)
    refine ⟨⟨fun _ => ⟨c1, _, c3⟩, fun _ => trivial⟩, ⟨fun _ => c2, fun _ => trivial⟩, .inl ⟨_, _, ?_, ?_, ⟨v + 1, _, _, by omega, rfl, rfl, hD.mix (q := (v_M_aboutTrip M (nI t) (nI v)).toInt64)⟩, ?_⟩⟩
    · show (if nI v ≤ 8 then (match v_B_tripOf H (nI t) (nI v) with | Sum.inl _ => Sum.inl (c, nI v) | Sum.inr y3 => (Sum.inl (((31 * c) + ((y3).toInt64)), (nI v + 1)))) else _) = _
      rw [if_pos l1, c3, nI_1]
    · show (if nI v < 9 then Sum.inl (nI v + 1, v_M_mixes M (v_M_aboutTrip M (nI t) (nI v)).toInt64) else _) = _
      rw [if_pos l2, nI_1]
    · show 9 - am_ix (nI (v + 1)) < 9 - am_ix (nI v)
      rw [nI_ix (by omega), nI_ix (by omega)]; omega
  · have l1 : ¬ nI v ≤ 8 := fun z => e ((nI_lei (b := 8) (by omega) (by omega)).mp z)
    have l2 : ¬ nI v < 9 := nI_nlt (b := 9) (by omega) (by omega)
    refine ⟨⟨fun z => absurd z l1, fun _ => trivial⟩, ⟨fun z => absurd z l2, fun _ => trivial⟩, .inr ⟨(c, nI v), (nI v, M), ?_, ?_, hD⟩⟩
    · show (if nI v ≤ 8 then _ else _) = _
      rw [if_neg l1]
    · show (if nI v < 9 then _ else _) = _
      rw [if_neg l2]
/-- one trip -/
theorem dig_trip1 {n t : Nat} {b : Int64} {H M h0 : HP} {a0 : Int64} (ht : t < n) (hD : DR n b H M) : ps_B_hashTrips_5 h0 a0 (b, nI t, H) ∧ p_M_mixesTrip M (nI t) ∧ ∃ c H', s_B_hashTrips_5 h0 a0 (b, nI t, H) = .inl (c, nI (t + 1), H') ∧ DR n c H' (v_M_mixesTrip M (nI t)) := by
  obtain ⟨a1, a2, r, q, a3, a4, a5⟩ := dig_trip20 (h0 := h0) (m0 := M) (a0 := a0) ht hD
  have hm := mm_isRun (m := q.2) rfl a5.1.2.1 ht
  have hc : v_T_isRun H (nI t) = b01 (isr (q.2.1 1) t) := cc_isRun a5.1.1 a5.1.2.1 ht
  have l1 : nI t < H.1 0 11 := cc_lt hD.1.1 hD.1.2.1 ht
  have hs : s_B_hashTrips_5 h0 a0 (b, nI t, H) = (if (v_T_isRun H (nI t)) = 0 then (Sum.inl (r.1, (nI t + 1), H)) else (match v_B_bestTime H (nI t) 10 with | Sum.inl _ => Sum.inl (b, nI t, H) | Sum.inr y4 => (match v_B_ifFailed y4.2 (nI t) with | Sum.inl _ => Sum.inl (b, nI t, H) | Sum.inr y5 => (Sum.inl (((31 * ((31 * r.1) + ((y4.1).toInt64))) + ((y5).toInt64)), (nI t + 1), y4.2))))) := by
    show (if nI t < H.1 0 11 then (match itr (s_B_hashTrips_20 h0 a0 (b, nI t, H)) NF (b, 0) with | some r2 => (if (v_T_isRun H (nI t)) = 0 then (Sum.inl (r2.1, (nI t + 1), H)) else (match v_B_bestTime H (nI t) 10 with | Sum.inl _ => Sum.inl (b, nI t, H) | Sum.inr y4 => (match v_B_ifFailed y4.2 (nI t) with | Sum.inl _ => Sum.inl (b, nI t, H) | Sum.inr y5 => (Sum.inl (((31 * ((31 * r2.1) + ((y4.1).toInt64))) + ((y5).toInt64)), (nI t + 1), y4.2))))) | none => Sum.inl (b, nI t, H)) else _) = _
    rw [if_pos l1, a3]
  have hmv : v_M_mixesTrip M (nI t) = (if v_M_isRun q.2 (nI t) = 0 then q.2 else v_M_mixes (v_M_failed (v_M_mixes (v_M_best q.2 (nI t) 10).2 ((v_M_best q.2 (nI t) 10).1).toInt64) (nI t)).2 ((v_M_failed (v_M_mixes (v_M_best q.2 (nI t) 10).2 ((v_M_best q.2 (nI t) 10).1).toInt64) (nI t)).1).toInt64) := by
    rw [v_M_mixesTrip, a4]; rfl
  cases en : isr (q.2.1 1) t with
  | false =>
    have z1 : v_T_isRun H (nI t) = 0 := by rw [hc, en]; rfl
    have z2 : v_M_isRun q.2 (nI t) = 0 := by rw [hm.2, en]; rfl
    refine ⟨⟨fun _ => ⟨a1, fun r2 e => ?_⟩, fun _ => trivial⟩, ⟨a2, fun r1 e => ?_⟩, r.1, H, ?_, ?_⟩
    · exact ⟨fun _ => trivial, fun z => absurd z1 z⟩
    · rw [a4] at e; cases e
      exact ⟨hm.1, fun _ => trivial, fun z => absurd z2 z⟩
    · rw [hs, if_pos z1, nI_1]
    · rw [hmv, if_pos z2]; exact a5
  | true =>
    have z1 : ¬ v_T_isRun H (nI t) = 0 := by rw [hc, en]; exact one0
    have z2 : ¬ v_M_isRun q.2 (nI t) = 0 := by rw [hm.2, en]; exact one0
    obtain ⟨b1, b2, H', b3, b4, b5, b6, b7⟩ := best_lk a5.1 a5.2.1 ht en
    obtain ⟨y3, hy3⟩ : ∃ y3, v_M_best q.2 (nI t) 10 = y3 := ⟨_, rfl⟩
    rw [hy3] at b3 b4 b5 b6 b7
    have hD1 : DR n (31 * r.1 + (y3.1).toInt64) H' (v_M_mixes y3.2 (y3.1).toInt64) := DR.mix (h := H') ⟨b4, b5, by rw [b6]; exact a5.2.2⟩
    have en1 : isr ((v_M_mixes y3.2 (y3.1).toInt64).1 1) t = true := by
      have e1 : nT (y3.2.1 1) (16 + 7 * t + 5) = nT (q.2.1 1) (16 + 7 * t + 5) := nT_ag (b7 _ (by omega))
      unfold isr at en ⊢
      show Nat.beq (nT (y3.2.1 1) (16 + 7 * t + 5)) 0 = true
      rw [e1]; exact en
    obtain ⟨c1, c2, c3, c4, c5, c6⟩ := failed_lk hD1.1 ht en1
    have hD2 : DR n (31 * (31 * r.1 + (y3.1).toInt64) + ((v_M_failed (v_M_mixes y3.2 (y3.1).toInt64) (nI t)).1).toInt64) H' (v_M_mixes (v_M_failed (v_M_mixes y3.2 (y3.1).toInt64) (nI t)).2 ((v_M_failed (v_M_mixes y3.2 (y3.1).toInt64) (nI t)).1).toInt64) := DR.mix (h := H') ⟨c4, c5.trans hD1.2.1, by rw [c6]; exact hD1.2.2⟩
    refine ⟨⟨fun _ => ⟨a1, fun r2 e => ⟨fun _ => trivial, fun _ => ⟨b1, ⟨_, b3⟩, fun y4 e4 => ?_⟩⟩⟩, fun _ => trivial⟩, ⟨a2, fun r1 e => ?_⟩, 31 * (31 * r.1 + (y3.1).toInt64) + ((v_M_failed (v_M_mixes y3.2 (y3.1).toInt64) (nI t)).1).toInt64, H', ?_, ?_⟩
    · have e5 : v_B_bestTime H (nI t) 10 = .inr y4 := e4
      rw [b3] at e5
      cases e5
      exact ⟨c1, _, c3⟩
    · rw [a4] at e; cases e
      refine ⟨hm.1, fun _ => trivial, fun _ => ⟨b2, fun y e3 y4 e4 => ?_⟩⟩
      rw [hy3] at e3
      subst e3
      subst e4
      exact c2
    · rw [hs, if_neg z1, b3]
      show (match v_B_ifFailed H' (nI t) with | Sum.inl _ => Sum.inl (b, nI t, H) | Sum.inr y5 => (Sum.inl (((31 * ((31 * r.1) + ((y3.1).toInt64))) + ((y5).toInt64)), (nI t + 1), H'))) = _
      rw [c3, nI_1]
    · rw [hmv, if_neg z2, hy3]; exact hD2
theorem dig_trips {n : Nat} {a : Int64} {h m h0 m0 : HP} {a0 : Int64} {q1 q4 q6 : Int32 × HP} (hr : DR n a h m) : itrp (s_B_hashTrips_5 h0 a0) (ps_B_hashTrips_5 h0 a0) NF (a, 0, h) ∧ itrp (s_M_mixesAll_82 m0 q1 q4 q6) (ps_M_mixesAll_82 m0 q1 q4 q6) NF (0, m) ∧ ∃ r q, itr (s_B_hashTrips_5 h0 a0) NF (a, 0, h) = some r ∧ itr (s_M_mixesAll_82 m0 q1 q4 q6) NF (0, m) = some q ∧ DR n r.1 r.2.2 q.2 := by
  have h20 := hr.1.2.1.n20
  refine itr_relN (s₁ := s_B_hashTrips_5 h0 a0) (s₂ := s_M_mixesAll_82 m0 q1 q4 q6) (p₁ := ps_B_hashTrips_5 h0 a0) (p₂ := ps_M_mixesAll_82 m0 q1 q4 q6)
    (fun x y => ∃ t b H M, t ≤ n ∧ x = (b, nI t, H) ∧ y = (nI t, M) ∧ DR n b H M) (fun x _ => n - am_ix x.2.1) (fun r q => DR n r.1 r.2.2 q.2) _ _ (by show n - _ < 100000; omega) ⟨0, a, h, m, by omega, rfl, rfl, hr⟩ ?_
  rintro x y ⟨t, b, H, M, ht, rfl, rfl, hD⟩
  by_cases e : t < n
  · obtain ⟨c1, c2, c, H', c3, c4⟩ := dig_trip1 (h0 := h0) (a0 := a0) e hD
    have l2 : nI t < M.1 1 (am_ix 15) := mm_lt rfl hD.1.2.1 e
    refine ⟨c1, ⟨fun _ => c2, fun _ => trivial⟩, .inl ⟨_, _, c3, ?_, ⟨t + 1, c, H', _, by omega, rfl, rfl, c4⟩, ?_⟩⟩
    · show (if nI t < M.1 1 (am_ix 15) then Sum.inl (nI t + 1, v_M_mixesTrip M (nI t)) else _) = _
      rw [if_pos l2, nI_1]
    · show n - am_ix (nI (t + 1)) < n - am_ix (nI t)
      rw [nI_ix (by omega), nI_ix (by omega)]; omega
  · have et : t = n := by omega
    subst et
    have l1 : ¬ nI t < H.1 0 11 := cc_nlt hD.1.1 hD.1.2.1
    have l2 : ¬ nI t < M.1 1 (am_ix 15) := mm_nlt rfl hD.1.2.1
    refine ⟨⟨fun z => absurd z l1, fun _ => trivial⟩, ⟨fun z => absurd z l2, fun _ => trivial⟩, .inr ⟨(b, nI t, H), (nI t, M), ?_, ?_, hD⟩⟩
    · show (if nI t < H.1 0 11 then _ else _) = _
      rw [if_neg l1]
    · show (if nI t < M.1 1 (am_ix 15) then _ else _) = _
      rw [if_neg l2]
