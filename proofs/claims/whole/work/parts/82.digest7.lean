/-! PURE: the digest, class and model side by side: the loop over blocks, whole. -/
theorem dig_blocks {n : Nat} {a a0 : Int64} {h m m0 : HP} {q1 q4 q6 q8 : Int32 × HP} (hr : DR n a h m) : p_B_hashBlocks h a ∧ itrp (s_M_mixesAll_106 m0 q1 q4 q6 q8) (ps_M_mixesAll_106 m0 q1 q4 q6 q8) NF (0, m) ∧ ∃ q, itr (s_M_mixesAll_106 m0 q1 q4 q6 q8) NF (0, m) = some q ∧ DR n (v_B_hashBlocks h a).1 (v_B_hashBlocks h a).2 q.2 := by
  have h20 := hr.1.2.1.n20
  obtain ⟨T, hT0⟩ : ∃ T, m.1 1 = T := ⟨_, rfl⟩
  have hcn : cn (hd T n) n ≤ n := cn_le _ _
  have hbl := cc_blocks hr.1.1 hr.1.2.1
  rw [hT0] at hbl
  obtain ⟨x1, x2, r, q, x3, x4, x5⟩ := itr_relN (s₁ := s_B_hashBlocks_14 h a) (s₂ := s_M_mixesAll_106 m0 q1 q4 q6 q8) (p₁ := ps_B_hashBlocks_14 h a) (p₂ := ps_M_mixesAll_106 m0 q1 q4 q6 q8)
    (fun x y => ∃ c b H M, c ≤ cn (hd T n) n ∧ x = (b, nI c, H) ∧ y = (nI c, M) ∧ DR n b H M ∧ M.1 1 = T) (fun x _ => cn (hd T n) n - am_ix x.2.1) (fun r q => DR n r.1 r.2.2 q.2) (a, 0, h) (0, m) (by show cn (hd T n) n - _ < 100000; omega) ⟨0, a, h, m, by omega, rfl, rfl, hr, hT0⟩ (by
      rintro x y ⟨c, b, H, M, hc, rfl, rfl, hD, hT⟩
      have hmb := mm_blocks (m := M) hT (by have := hD.1.2.1; rw [hT] at this; exact this)
      by_cases e : c < cn (hd T n) n
      · have l1 : nI c < v_T_blocks h := by rw [hbl.2]; exact nI_lt e (by omega)
        have l2 : nI c < v_M_blocks M := by rw [hmb.2]; exact nI_lt e (by omega)
        obtain ⟨c1, c2, r2, q2, c3, c4, c5, c6⟩ := dig_b24 (h0 := h) (a0 := a) (m0 := M) (v1 := (b, nI c, H)) rfl e hD hT
        obtain ⟨d1, d2, r4, q5, d3, d4, d5, d6⟩ := dig_b56 (h0 := h) (a0 := a) (m0 := M) (q1 := q2) (v1 := (b, nI c, H)) (r2 := r2) rfl e c5 c6
        have hmv : v_M_mixesBlock M (nI c) = q5.2 := by rw [v_M_mixesBlock, c4]; show (match itr (s_M_mixesBlock_27 M (nI c) q2) NF (0, q2.2) with | some r4 => r4.2 | none => M) = _; rw [d4]
        refine ⟨⟨fun _ => ⟨c1, fun r e2 => ?_⟩, fun _ => trivial⟩, ⟨hmb.1, fun _ => ⟨c2, fun r e2 => ?_⟩, fun _ => trivial⟩, .inl ⟨_, _, ?_, ?_, ⟨c + 1, r4.1, r2.2.2, q5.2, by omega, rfl, rfl, d5, d6⟩, ?_⟩⟩
        · rw [show itr (s_B_hashBlocks_24 h a (b, nI c, H)) NF ((b, nI c, H).1, 0, (b, nI c, H).2.2) = some r2 from c3] at e2
          cases e2; exact d1
        · rw [c4] at e2
          cases e2; exact d2
        · show (if nI c < v_T_blocks h then (match itr (s_B_hashBlocks_24 h a (b, nI c, H)) NF (b, 0, H) with | some r2 => (match itr (s_B_hashBlocks_56 h a (b, nI c, H) r2) NF (r2.1, 0) with | some r4 => (Sum.inl (r4.1, (nI c + 1), r2.2.2)) | none => Sum.inl (b, nI c, H)) | none => Sum.inl (b, nI c, H)) else _) = _
          rw [if_pos l1, c3]
          show (match itr (s_B_hashBlocks_56 h a (b, nI c, H) r2) NF (r2.1, 0) with | some r4 => (Sum.inl (r4.1, (nI c + 1), r2.2.2)) | none => Sum.inl (b, nI c, H)) = _
          rw [d3, nI_1]
        · show (if nI c < v_M_blocks M then Sum.inl (nI c + 1, v_M_mixesBlock M (nI c)) else _) = _
          rw [if_pos l2, hmv, nI_1]
        · show cn (hd T n) n - am_ix (nI (c + 1)) < cn (hd T n) n - am_ix (nI c)
          rw [nI_ix (by omega), nI_ix (by omega)]; omega
      · have l1 : ¬ nI c < v_T_blocks h := by rw [hbl.2]; exact nI_nlt (by omega) (by omega)
        have l2 : ¬ nI c < v_M_blocks M := by rw [hmb.2]; exact nI_nlt (by omega) (by omega)
        refine ⟨⟨fun z => absurd z l1, fun _ => trivial⟩, ⟨hmb.1, fun z => absurd z l2, fun _ => trivial⟩, .inr ⟨(b, nI c, H), (nI c, M), ?_, ?_, hD⟩⟩
        · show (if nI c < v_T_blocks h then _ else _) = _
          rw [if_neg l1]
        · show (if nI c < v_M_blocks M then _ else _) = _
          rw [if_neg l2])
  refine ⟨⟨hbl.1, x1⟩, x2, q, x4, ?_⟩
  rw [v_B_hashBlocks, x3]
  exact x5
