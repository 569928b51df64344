/-! PURE: the digest, class and model side by side (what is asked of doubles is left as hypotheses). -/
def BitsOK : Prop := ∀ (T : Nat → Int32) (n : Nat) (h : HP), Inv T n → p_B_bitsOf h (shr T n) ∧ v_B_bitsOf h (shr T n) = v_dbits (shr T n)
def kf (H : HP) (b : Int64) : Nat → Int64
  | 0 => b
  | j + 1 => 31 * kf H b j + (H.1 37 j).toInt64
theorem cc_kept {h : HP} {r1 : Int64 × Int32 × HP} {r3 : Int64 × Int32} {r4 : Int64 × Int32 × HP} {y7 y8 : Int64 × HP} {y9 : Int32 × HP} (b : Int64) : itrp (s_B_digest_154 h r1 r3 r4 y7 y8 y9) (ps_B_digest_154 h r1 r3 r4 y7 y8 y9) NF (b, 0) ∧ itr (s_B_digest_154 h r1 r3 r4 y7 y8 y9) NF (b, 0) = some (kf y9.2 b 2, nI 2) :=
  itr_for (step := s_B_digest_154 h r1 r3 r4 y7 y8 y9) (pst := ps_B_digest_154 h r1 r3 r4 y7 y8 y9) (fun j => (kf y9.2 b j, nI j)) 2 _ (by omega)
    (fun j hj => by
      show (if nI j < 2 then Sum.inl (31 * kf y9.2 b j + (v_at 2 (y9.2.1 37) (nI j)).toInt64, nI j + 1) else _) = _
      rw [if_pos (show nI j < 2 from nI_lt (b := 2) hj (by omega)), at_nI (by omega) _ hj, nI_1]
      rfl)
    (by
      show (if nI 2 < 2 then _ else _) = _
      rw [if_neg (show ¬ nI 2 < 2 from nI_nlt (b := 2) (by omega) (by omega))])
    (fun _ _ => trivial)
theorem kept_i {n : Nat} {a : Int64} {H M : HP} (hD : DR n a H M) {j : Nat} (hj : j < 2) : (if M.1 5 (am_ix (nI j)) = 0 then (0 : Int64) else 1) = (H.1 37 j).toInt64 := by
  obtain ⟨k1, k2⟩ := hD.1.2.2.2.1 j hj
  rw [nI_ix (by omega), k1]
  rcases k2 with k2 | ⟨k2, -⟩
  · rw [k2, if_pos rfl]; decide +kernel
  · rw [k2, if_neg one0]; decide +kernel
theorem digest_both (hQ : QuoOK) (hB : BitsOK) {n : Nat} {h m : HP} (hr : RR n h m) : p_B_digest h ∧ p_M_digest m ∧ (v_B_digest h).1 = (v_M_digest m).1 ∧ RR n (v_B_digest h).2 (v_M_digest m).2 ∧ (v_M_digest m).2.1 0 8 = 0 := by
  have hD0 : DR n 3457 h (am_sl (am_si m 0 8 0) 0 15 3457) := by
    refine ⟨hr.th 0, th8 m 0, ?_⟩
    show am_upL (am_si m 0 8 0).2 0 15 3457 0 15 = _
    unfold am_upL
    rw [if_pos rfl]
    exact if_pos rfl
  obtain ⟨a0, r1, r3, r4, a1, a2, a3, a4, a5, a6, a7, a8, a9⟩ := dig_all hD0
  obtain ⟨y1, hy1⟩ : ∃ y1, v_M_mixesAll (am_sl (am_si m 0 8 0) 0 15 3457) = y1 := ⟨_, rfl⟩
  rw [hy1] at a9
  obtain ⟨y7, hy7⟩ : ∃ y7, v_B_hashTrips r4.2.2 r4.1 = y7 := ⟨_, rfl⟩
  rw [hy7] at a8 a9
  obtain ⟨y8, hy8⟩ : ∃ y8, v_B_hashBlocks y7.2 y7.1 = y8 := ⟨_, rfl⟩
  rw [hy8] at a9
  obtain ⟨b1, b2, H, b3, b4⟩ := with_lk a9
  obtain ⟨y2, hy2⟩ : ∃ y2, v_M_withTrip y1 0 0 1 600 30 = y2 := ⟨_, rfl⟩
  rw [hy2] at b3 b4
  obtain ⟨y3, hy3⟩ : ∃ y3, v_M_mixes y2.2 (y2.1).toInt64 = y3 := ⟨_, rfl⟩
  rw [hy3] at b4
  obtain ⟨c1, c2⟩ := cc_shr hQ b4.1.1 b4.1.2.1
  obtain ⟨d1, d2⟩ := mm_shr (m := y3) hQ rfl b4.1.2.1
  obtain ⟨e1, e2⟩ := hB (y3.1 1) n H b4.1.2.1
  have hD4 : DR n (31 * (31 * y8.1 + (y2.1).toInt64) + v_B_bitsOf H (v_B_drivenShare H)) H (v_M_mixes y3 (v_dbits (v_M_share y3))) := by
    rw [c2, d2, e2]; exact b4.mix
  obtain ⟨f1, f2⟩ := cc_kept (h := h) (r1 := r1) (r3 := r3) (r4 := r4) (y7 := y7) (y8 := y8) (y9 := (y2.1, H)) (31 * (31 * y8.1 + (y2.1).toInt64) + v_B_bitsOf H (v_B_drivenShare H))
  obtain ⟨y4, hy4⟩ : ∃ y4, v_M_mixes y3 (v_dbits (v_M_share y3)) = y4 := ⟨_, rfl⟩
  rw [hy4] at hD4
  have hD5 := hD4.mix (q := if y4.1 5 (am_ix 0) = 0 then 0 else 1)
  obtain ⟨y5, hy5⟩ : ∃ y5, v_M_mixes y4 (if y4.1 5 (am_ix 0) = 0 then 0 else 1) = y5 := ⟨_, rfl⟩
  rw [hy5] at hD5
  have hD6 := hD5.mix (q := if y5.1 5 (am_ix 1) = 0 then 0 else 1)
  obtain ⟨y6, hy6⟩ : ∃ y6, v_M_mixes y5 (if y5.1 5 (am_ix 1) = 0 then 0 else 1) = y6 := ⟨_, rfl⟩
  rw [hy6] at hD6
  have k0 : (if y4.1 5 (am_ix 0) = 0 then (0 : Int64) else 1) = (H.1 37 0).toInt64 := kept_i hD4 (j := 0) (by omega)
  have k1 : (if y5.1 5 (am_ix 1) = 0 then (0 : Int64) else 1) = (H.1 37 1).toInt64 := kept_i hD5 (j := 1) (by omega)
  rw [k0, k1] at hD6
  obtain ⟨g1, g2, q, g3, g4⟩ := dig_buf (m0 := m) (y1 := y1) (y2 := y2) (y3 := y3) (y4 := y4) (y5 := y5) (y6 := y6) (y7 := v_M_mixes y6 (y6.1 0 7).toInt64) hD6
  have hcv : v_B_digest h = (v_B_hashBuffer H (kf H (31 * (31 * y8.1 + (y2.1).toInt64) + v_B_bitsOf H (v_B_drivenShare H)) 2), H) := by
    rw [v_B_digest, a2]
    simp only []
    rw [a4]
    simp only []
    rw [a6]
    simp only [bnd]
    rw [hy7, hy8, b3]
    simp only []
    rw [f2]
  have hmv : v_M_digest m = (q.2.2 0 15, q.2) := by
    rw [v_M_digest]
    simp only [bnd]
    rw [hy1, hy2, hy3, hy4, hy5, hy6, g3]
  refine ⟨⟨a1, fun r z => ?_⟩, ⟨a0, fun y z => ?_⟩, ?_, ?_, ?_⟩
  · rw [a2] at z; cases z
    refine ⟨a3, fun r z => ?_⟩
    rw [a4] at z; cases z
    refine ⟨a5, fun r z => ?_⟩
    rw [a6] at z; cases z
    refine ⟨a7, fun y z => ?_⟩
    rw [hy7] at z; subst z
    refine ⟨a8, fun y z => ?_⟩
    rw [hy8] at z; subst z
    refine ⟨b1, ⟨_, b3⟩, fun y z => ?_⟩
    rw [b3] at z; cases z
    refine ⟨c1, by rw [c2]; exact e1, f1, fun r z => ?_⟩
    rw [f2] at z; cases z
    exact g1
  · rw [hy1] at z; subst z
    refine ⟨b2, fun y z => ?_⟩
    rw [hy2] at z; subst z
    intro y z
    rw [hy3] at z; subst z
    refine ⟨d1, fun y z => ?_⟩
    rw [hy4] at z; subst z
    intro y z
    rw [hy5] at z; subst z
    intro y z
    rw [hy6] at z; subst z
    intro y z
    subst z
    exact g2
  · rw [hcv, hmv]; exact g4.2.2.symm
  · rw [hcv, hmv]; exact g4.1
  · rw [hmv]; exact g4.2.1
