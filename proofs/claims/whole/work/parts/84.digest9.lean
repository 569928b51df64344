/-! PURE: the digest, class and model side by side: the trip that isn't, the buffer. -/
theorem with_keep {n : Nat} {m : HP} {T : Nat → Int32} (hT : m.1 1 = T) (hI : Inv T n) (a b c d e : Int32) : (v_M_withTrip m a b c d e).2.2 = m.2 ∧ (v_M_withTrip m a b c d e).2.1 0 8 = m.1 0 8 ∧ (v_M_withTrip m a b c d e).2.1 1 15 = m.1 1 15 := by
  have h20 := hI.n20
  obtain ⟨q1, q2, q3, q4⟩ := mm_puts m (k := n) (by omega) a b c d e
  obtain ⟨y1, hy⟩ : ∃ y1, v_M_puts m (nI n) a b c d e = y1 := ⟨_, rfl⟩
  rw [hy] at q2 q3 q4
  have e15 : m.1 1 (am_ix 15) = nI n := mm_tr hT hI
  have y15 : y1.1 1 (am_ix 15) = nI n := by rw [q2, ix15, newT_ne (by omega), hT, hI.t15]
  obtain ⟨u1, u2, u3, u4⟩ := mm_puts y1 (k := n) (by omega) 0 0 0 0 0
  have hvw : (v_M_withTrip m a b c d e).2 = v_M_puts y1 (nI n) 0 0 0 0 0 := by
    rw [v_M_withTrip, e15, hy]
    show v_M_puts y1 (y1.1 1 (am_ix 15)) 0 0 0 0 0 = _
    rw [y15]
  rw [hvw]
  refine ⟨u4.trans q4, by rw [u3 0 (by omega), q3 0 (by omega)], ?_⟩
  rw [u2, newT_ne (by omega), q2, newT_ne (by omega)]
theorem with_lk {n : Nat} {a : Int64} {h m : HP} (hD : DR n a h m) : p_B_ifTrip h 0 0 1 600 30 ∧ p_M_withTrip m 0 0 1 600 30 ∧ ∃ H, v_B_ifTrip h 0 0 1 600 30 = .inr ((v_M_withTrip m 0 0 1 600 30).1, H) ∧ DR n (31 * a + ((v_M_withTrip m 0 0 1 600 30).1).toInt64) H (v_M_mixes (v_M_withTrip m 0 0 1 600 30).2 ((v_M_withTrip m 0 0 1 600 30).1).toInt64) := by
  obtain ⟨a1, a2, a3⟩ := ifTrip_both hD.1 0 0 1 600 30
  obtain ⟨g1, g2, g3⟩ := with_keep (m := m) rfl hD.1.2.1 0 0 1 600 30
  have hit : v_M_isTold m 0 0 1 600 30 = 1 := rfl
  have n1 : ¬ v_M_isTold (am_si m 0 8 0) 0 0 1 600 30 = 0 := by rw [si8 hD.2.1, hit]; exact one0
  have hmv : v_M_ifTrip m 0 0 1 600 30 = v_M_withTrip m 0 0 1 600 30 := by rw [v_M_ifTrip, if_neg n1, si8 hD.2.1]; rfl
  have hp : p_M_withTrip m 0 0 1 600 30 := by have := a2.2.2 n1; rw [si8 hD.2.1] at this; exact this
  rw [hmv] at a3
  refine ⟨a1, hp, ?_⟩
  cases ec : v_B_ifTrip h 0 0 1 600 30 with
  | inl E =>
    rw [ec] at a3
    have a4 : (E, (v_M_withTrip m 0 0 1 600 30).2.1 0 8) ∈ [(xA, (1 : Int32))] := a3.1
    rw [g2, hD.2.1, List.mem_singleton] at a4
    exact absurd (Prod.mk.inj a4).2 (by decide)
  | inr r =>
    rw [ec] at a3
    obtain ⟨b1, b2, n', b3⟩ := a3
    refine ⟨r.2, ?_, DR.mix (h := r.2) ⟨hD.1.same b3 g3, g2.trans hD.2.1, by rw [g1]; exact hD.2.2⟩⟩
    rw [show (v_M_withTrip m 0 0 1 600 30).1 = r.1 from b2]
/-- the buffer -/
theorem dig_buf {n : Nat} {a : Int64} {H m : HP} {m0 y1 : HP} {y2 : Int32 × HP} {y3 y4 y5 y6 y7 : HP} (hD : DR n a H m) : p_B_hashBuffer H a ∧ itrp (s_M_digest_91 m0 y1 y2 y3 y4 y5 y6 y7) (ps_M_digest_91 m0 y1 y2 y3 y4 y5 y6 y7) NF (0, v_M_mixes m ((m.1 0 7).toInt64)) ∧
    ∃ q, itr (s_M_digest_91 m0 y1 y2 y3 y4 y5 y6 y7) NF (0, v_M_mixes m ((m.1 0 7).toInt64)) = some q ∧ DR n (v_B_hashBuffer H a) H q.2 := by
  obtain ⟨l, x1, x2, x3, x4⟩ := hD.1.2.2.2.2.1
  obtain ⟨z1, z2, r, q, z3, z4, z5⟩ := itr_relN (s₁ := s_B_hashBuffer_18 H a) (s₂ := s_M_digest_91 m0 y1 y2 y3 y4 y5 y6 y7) (p₁ := ps_B_hashBuffer_18 H a) (p₂ := ps_M_digest_91 m0 y1 y2 y3 y4 y5 y6 y7)
    (fun x y => ∃ i b M, i ≤ l ∧ x = (b, nI i) ∧ y = (nI i, M) ∧ DR n b H M ∧ M.1 = m.1) (fun x _ => l - am_ix x.2) (fun r q => DR n r.1 H q.2) ((31 * a) + (H.1 18 2).toInt64, 0) (0, v_M_mixes m ((m.1 0 7).toInt64)) (by show l - _ < 100000; omega)
    ⟨0, _, _, by omega, rfl, rfl, by rw [x2, ← x3]; exact hD.mix, rfl⟩ (by
      rintro x y ⟨i, b, M, hi, rfl, rfl, hE, hM⟩
      by_cases e : i < l
      · have l1 : nI i < H.1 18 2 := by rw [x2]; exact nI_lt e (by omega)
        have l2 : nI i < M.1 0 7 := by rw [hM, x3]; exact nI_lt e (by omega)
        obtain ⟨c, _, _, c3, c4⟩ := x4 i e
        refine ⟨trivial, ⟨fun _ => nI_am (by omega) (by omega), fun _ => trivial⟩, .inl ⟨_, _, ?_, ?_, ⟨i + 1, _, _, by omega, rfl, rfl, hE.mix (q := (nI c).toInt64), hM⟩, ?_⟩⟩
        · show (if nI i < H.1 18 2 then Sum.inl (31 * b + (v_at 60 (H.1 19) (nI i)).toInt64, nI i + 1) else _) = _
          rw [if_pos l1, at_nI (by omega) _ (by omega), c3, nI_1]
        · show (if nI i < M.1 0 7 then Sum.inl (nI i + 1, v_M_mixes M (M.1 6 (am_ix (nI i))).toInt64) else _) = _
          rw [if_pos l2, nI_ix (by omega), hM, c4, nI_1]
        · show l - am_ix (nI (i + 1)) < l - am_ix (nI i)
          rw [nI_ix (by omega), nI_ix (by omega)]; omega
      · have l1 : ¬ nI i < H.1 18 2 := by rw [x2]; exact nI_nlt (by omega) (by omega)
        have l2 : ¬ nI i < M.1 0 7 := by rw [hM, x3]; exact nI_nlt (by omega) (by omega)
        refine ⟨trivial, ⟨fun z => absurd z l2, fun _ => trivial⟩, .inr ⟨(b, nI i), (nI i, M), ?_, ?_, hE⟩⟩
        · show (if nI i < H.1 18 2 then _ else _) = _
          rw [if_neg l1]
        · show (if nI i < M.1 0 7 then _ else _) = _
          rw [if_neg l2])
  refine ⟨z1, z2, q, z4, ?_⟩
  rw [v_B_hashBuffer, z3]
  exact z5
