/-! PURE: the digest, class and model side by side: the loop over blocks. -/
theorem dig_b24 {n c : Nat} {T : Nat → Int32} {a0 : Int64} {h0 m0 : HP} {v1 : Int64 × Int32 × HP} {b : Int64} {H M : HP} (hv1 : v1.2.1 = nI c) (hc : c < cn (hd T n) n) (hD : DR n b H M) (hT : M.1 1 = T) :
    itrp (s_B_hashBlocks_24 h0 a0 v1) (ps_B_hashBlocks_24 h0 a0 v1) NF (b, 0, H) ∧ itrp (s_M_mixesBlock_2 m0 (nI c)) (ps_M_mixesBlock_2 m0 (nI c)) NF (0, M) ∧ ∃ r q, itr (s_B_hashBlocks_24 h0 a0 v1) NF (b, 0, H) = some r ∧ itr (s_M_mixesBlock_2 m0 (nI c)) NF (0, M) = some q ∧ DR n r.1 r.2.2 q.2 ∧ q.2.1 1 = T := by
  refine itr_relN (s₁ := s_B_hashBlocks_24 h0 a0 v1) (s₂ := s_M_mixesBlock_2 m0 (nI c)) (p₁ := ps_B_hashBlocks_24 h0 a0 v1) (p₂ := ps_M_mixesBlock_2 m0 (nI c))
    (fun x y => ∃ v b H M, v ≤ 7 ∧ x = (b, nI v, H) ∧ y = (nI v, M) ∧ DR n b H M ∧ M.1 1 = T) (fun x _ => 7 - am_ix x.2.1) (fun r q => DR n r.1 r.2.2 q.2 ∧ q.2.1 1 = T) _ _ (by show 7 - _ < 100000; omega) ⟨0, b, H, M, by omega, rfl, rfl, hD, hT⟩ ?_
  rintro x y ⟨v, b, H, M, hv, rfl, rfl, hD, hT⟩
  by_cases e : v ≤ 6
  · have hc' : c < cn (hd (M.1 1) n) n := by rw [hT]; exact hc
    obtain ⟨c1, c2, H', c3, c4⟩ := blockOf_lk hD.1 hD.2.1 hc' e
    obtain ⟨k1, k2, k3⟩ := block_keep (v := v) hD.1 hc' e
    have l1 : nI v ≤ 6 := (nI_lei (b := 6) (by omega) (by omega)).mpr e
    have l2 : nI v < 7 := nI_lt (b := 7) (by omega) (by omega)
    have hD' : DR n b H' (v_M_aboutBlock M (nI c) (nI v)).2 := ⟨c4, k2.trans hD.2.1, by rw [k1]; exact hD.2.2⟩
    refine ⟨⟨fun _ => ⟨by rw [hv1]; exact c1, _, by rw [hv1]; exact c3⟩, fun _ => trivial⟩, ⟨fun _ => c2, fun _ => trivial⟩, .inl ⟨_, _, ?_, ?_, ⟨v + 1, _, _, _, by omega, rfl, rfl, hD'.mix (q := ((v_M_aboutBlock M (nI c) (nI v)).1).toInt64), k3.trans hT⟩, ?_⟩⟩
    · show (if nI v ≤ 6 then (match v_B_blockOf H v1.2.1 (nI v) with | Sum.inl _ => Sum.inl (b, nI v, H) | Sum.inr y3 => (Sum.inl (((31 * b) + ((y3.1).toInt64)), (nI v + 1), y3.2))) else _) = _
      rw [if_pos l1, hv1, c3, nI_1]
    · show (if nI v < 7 then Sum.inl (nI v + 1, v_M_mixes (v_M_aboutBlock M (nI c) (nI v)).2 ((v_M_aboutBlock M (nI c) (nI v)).1).toInt64) else _) = _
      rw [if_pos l2, nI_1]
    · show 7 - am_ix (nI (v + 1)) < 7 - am_ix (nI v)
      rw [nI_ix (by omega), nI_ix (by omega)]; omega
  · have l1 : ¬ nI v ≤ 6 := fun z => e ((nI_lei (b := 6) (by omega) (by omega)).mp z)
    have l2 : ¬ nI v < 7 := nI_nlt (b := 7) (by omega) (by omega)
    refine ⟨⟨fun z => absurd z l1, fun _ => trivial⟩, ⟨fun z => absurd z l2, fun _ => trivial⟩, .inr ⟨(b, nI v, H), (nI v, M), ?_, ?_, hD, hT⟩⟩
    · show (if nI v ≤ 6 then _ else _) = _
      rw [if_neg l1]
    · show (if nI v < 7 then _ else _) = _
      rw [if_neg l2]
/-- one duty: three steps of the model -/
theorem dig_duty3 {n c t : Nat} {T : Nat → Int32} {a0 : Int64} {h0 m0 : HP} {v1 r2 : Int64 × Int32 × HP} {v2 : Int64 × Int32} {q1 : Int32 × HP} (hv1 : v1.2.1 = nI c) (hv2 : v2.2 = nI t) (ht : t < 3) (hc : c < cn (hd T n) n) : ∀ (d j : Nat) (b : Int64) (M : HP), j + d = 3 → DR n b r2.2.2 M → M.1 1 = T → ∀ N, d < N →
    itrp (s_B_hashBlocks_65 h0 a0 v1 r2 v2) (ps_B_hashBlocks_65 h0 a0 v1 r2 v2) N (b, nI j) ∧ ∃ r M', itr (s_B_hashBlocks_65 h0 a0 v1 r2 v2) N (b, nI j) = some r ∧ pth (s_M_mixesBlock_27 m0 (nI c) q1) (ps_M_mixesBlock_27 m0 (nI c) q1) d (nI (3 * t + j), M) (nI (3 * t + 3), M') ∧ DR n r.1 r2.2.2 M' ∧ M'.1 1 = T
  | 0, j, b, M, hj, hD, hT, N, hN => by
    obtain ⟨N, rfl⟩ : ∃ k, N = k + 1 := ⟨N - 1, by omega⟩
    have ej : j = 3 := by omega
    subst ej
    have l1 : ¬ nI 3 ≤ 2 := by decide +kernel
    have hs : s_B_hashBlocks_65 h0 a0 v1 r2 v2 (b, nI 3) = .inr (b, nI 3) := by
      show (if nI 3 ≤ 2 then _ else _) = _
      rw [if_neg l1]
    exact ⟨⟨⟨fun z => absurd z l1, fun _ => trivial⟩, fun x hx => by rw [hs] at hx; cases hx⟩, _, M, by rw [itr, hs], rfl, hD, hT⟩
  | d + 1, j, b, M, hj, hD, hT, N, hN => by
    obtain ⟨N, rfl⟩ : ∃ k, N = k + 1 := ⟨N - 1, by omega⟩
    have hj4 : j ≤ 2 := by omega
    have hc' : c < cn (hd (M.1 1) n) n := by rw [hT]; exact hc
    have l1 : nI j ≤ 2 := (nI_lei (b := 2) (by omega) (by omega)).mpr hj4
    have l2 : nI (3 * t + j) < 9 := nI_lt (b := 9) (by omega) (by omega)
    have ed : nI (3 * t + j) / 3 = nI t := by
      rw [show (3 : Int32) = nI 3 from rfl, nI_div (by omega) (by omega)]; congr 1; omega
    have em : nI (3 * t + j) - nI (3 * t + j) / 3 * 3 = nI j := by
      rw [show (3 : Int32) = nI 3 from rfl, nI_mod (by omega) (by omega)]; congr 1; omega
    obtain ⟨c1, c2, c3, c4, c5, c6, c7⟩ := duty_lk hD.1 hD.2.1 hc' (r := t) (w := j) (by omega) hj4
    have hD' : DR n (31 * b + ((v_M_dutyTold M (nI c) (nI t) (nI j)).1).toInt64) r2.2.2 (v_M_mixes (v_M_dutyTold M (nI c) (nI t) (nI j)).2 ((v_M_dutyTold M (nI c) (nI t) (nI j)).1).toInt64) := DR.mix ⟨c4, c5, by rw [c6]; exact hD.2.2⟩
    have hs : s_B_hashBlocks_65 h0 a0 v1 r2 v2 (b, nI j) = .inl (31 * b + ((v_M_dutyTold M (nI c) (nI t) (nI j)).1).toInt64, nI (j + 1)) := by
      show (if nI j ≤ 2 then (match v_B_duty r2.2.2 v1.2.1 v2.2 (nI j) with | Sum.inl _ => Sum.inl (b, nI j) | Sum.inr y6 => (Sum.inl (((31 * b) + ((y6).toInt64)), (nI j + 1)))) else _) = _
      rw [if_pos l1, hv1, hv2, c3, nI_1]
    have hs2 : s_M_mixesBlock_27 m0 (nI c) q1 (nI (3 * t + j), M) = .inl (nI (3 * t + (j + 1)), v_M_mixes (v_M_dutyTold M (nI c) (nI t) (nI j)).2 ((v_M_dutyTold M (nI c) (nI t) (nI j)).1).toInt64) := by
      show (if nI (3 * t + j) < 9 then Sum.inl (nI (3 * t + j) + 1, v_M_mixes (v_M_dutyTold M (nI c) (nI (3 * t + j) / 3) (nI (3 * t + j) - nI (3 * t + j) / 3 * 3)).2 ((v_M_dutyTold M (nI c) (nI (3 * t + j) / 3) (nI (3 * t + j) - nI (3 * t + j) / 3 * 3)).1).toInt64) else _) = _
      rw [if_pos l2, em, ed, nI_1]
      rfl
    obtain ⟨e1, r, M', e2, e3, e4⟩ := dig_duty3 (h0 := h0) (m0 := m0) (a0 := a0) (q1 := q1) hv1 hv2 ht hc d (j + 1) _ _ (by omega) hD' (c7.trans hT) N (by omega)
    refine ⟨⟨⟨fun _ => ⟨by rw [hv1, hv2]; exact c1, _, by rw [hv1, hv2]; exact c3⟩, fun _ => trivial⟩, fun x hx => by rw [hs] at hx; cases hx; exact e1⟩, r, M', by rw [itr, hs]; exact e2, ⟨⟨fun _ => ?_, fun _ => trivial⟩, _, hs2, e3⟩, e4⟩
    show p_M_dutyTold M (nI c) (nI (3 * t + j) / 3) (nI (3 * t + j) - nI (3 * t + j) / 3 * 3)
    rw [em, ed]; exact c2
theorem dig_b56 {n c : Nat} {T : Nat → Int32} {a0 : Int64} {h0 m0 : HP} {v1 r2 : Int64 × Int32 × HP} {q1 : Int32 × HP} {b : Int64} {M : HP} (hv1 : v1.2.1 = nI c) (hc : c < cn (hd T n) n) (hD : DR n b r2.2.2 M) (hT : M.1 1 = T) :
    itrp (s_B_hashBlocks_56 h0 a0 v1 r2) (ps_B_hashBlocks_56 h0 a0 v1 r2) NF (b, 0) ∧ itrp (s_M_mixesBlock_27 m0 (nI c) q1) (ps_M_mixesBlock_27 m0 (nI c) q1) NF (0, M) ∧ ∃ r q, itr (s_B_hashBlocks_56 h0 a0 v1 r2) NF (b, 0) = some r ∧ itr (s_M_mixesBlock_27 m0 (nI c) q1) NF (0, M) = some q ∧ DR n r.1 r2.2.2 q.2 ∧ q.2.1 1 = T := by
  refine itr_relK (s₁ := s_B_hashBlocks_56 h0 a0 v1 r2) (s₂ := s_M_mixesBlock_27 m0 (nI c) q1) (p₁ := ps_B_hashBlocks_56 h0 a0 v1 r2) (p₂ := ps_M_mixesBlock_27 m0 (nI c) q1)
    (fun x y => ∃ t b M, t ≤ 3 ∧ x = (b, nI t) ∧ y = (nI (3 * t), M) ∧ DR n b r2.2.2 M ∧ M.1 1 = T) (fun x => 3 - am_ix x.2) (fun r q => DR n r.1 r2.2.2 q.2 ∧ q.2.1 1 = T) 3 ?_ 3 _ _ (by show 3 - _ ≤ 3; omega) ⟨0, b, M, by omega, rfl, rfl, hD, hT⟩ NF NF (by rw [NF_eq]; omega) (by rw [NF_eq]; omega)
  rintro x y ⟨t, b, M, ht, rfl, rfl, hD, hT⟩
  by_cases e : t < 3
  · have l1 : nI t ≤ 2 := (nI_lei (b := 2) (by omega) (by omega)).mpr (by omega)
    obtain ⟨c1, r, M', c2, c3, c4, c5⟩ := dig_duty3 (h0 := h0) (m0 := m0) (a0 := a0) (q1 := q1) (v2 := (b, nI t)) hv1 rfl e hc 3 0 b M (by omega) hD hT NF (by rw [NF_eq]; omega)
    refine ⟨⟨fun _ => c1, fun _ => trivial⟩, .inl ⟨_, _, ?_, c3, ⟨t + 1, r.1, M', by omega, rfl, rfl, c4, c5⟩, ?_⟩⟩
    · show (if nI t ≤ 2 then (match itr (s_B_hashBlocks_65 h0 a0 v1 r2 (b, nI t)) NF (b, 0) with | some r5 => (Sum.inl (r5.1, (nI t + 1))) | none => Sum.inl (b, nI t)) else _) = _
      rw [if_pos l1, show itr (s_B_hashBlocks_65 h0 a0 v1 r2 (b, nI t)) NF (b, 0) = some r from c2, nI_1]
    · show 3 - am_ix (nI (t + 1)) < 3 - am_ix (nI t)
      rw [nI_ix (by omega), nI_ix (by omega)]; omega
  · have l1 : ¬ nI t ≤ 2 := fun z => e (by have := (nI_lei (b := 2) (by omega) (by omega)).mp z; omega)
    have l2 : ¬ nI (3 * t) < 9 := nI_nlt (b := 9) (by omega) (by omega)
    refine ⟨⟨fun z => absurd z l1, fun _ => trivial⟩, .inr ⟨⟨fun z => absurd z l2, fun _ => trivial⟩, (b, nI t), (nI (3 * t), M), ?_, ?_, hD, hT⟩⟩
    · show (if nI t ≤ 2 then _ else _) = _
      rw [if_neg l1]
    · show (if nI (3 * t) < 9 then _ else _) = _
      rw [if_neg l2]
