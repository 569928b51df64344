/-! PURE: the digest, class and model side by side: looks of blocks and duties. -/
theorem isBlock1 {n c : Nat} {m : HP} {T : Nat → Int32} (hT : m.1 1 = T) (hI : Inv T n) (hc : c < cn (hd T n) n) : v_M_isBlock m (nI c) = 1 := by
  have h20 := hI.n20
  have hcn : cn (hd T n) n ≤ n := cn_le _ _
  obtain ⟨N, hN⟩ : ∃ N, cn (hd T n) n = N + 1 := ⟨cn (hd T n) n - 1, by omega⟩
  rw [v_M_isBlock, (mm_blocks hT hI).2, hN, nI_pred, v_M_in, if_neg (nI_pos (by omega)), if_pos ((nI_lei (by omega) (by omega)).mpr (by omega))]
theorem block_keep {n c v : Nat} {h m : HP} (hr : RR n h m) (hc : c < cn (hd (m.1 1) n) n) (hv : v ≤ 6) : (v_M_aboutBlock m (nI c) (nI v)).2.2 = m.2 ∧ (v_M_aboutBlock m (nI c) (nI v)).2.1 0 8 = m.1 0 8 ∧ (v_M_aboutBlock m (nI c) (nI v)).2.1 1 = m.1 1 := by
  obtain ⟨k, hk, hh, ek⟩ := nth_ex hc
  have hf := (mm_firstOf (m := m) rfl hr.2.1 hk hh).2
  rw [ek] at hf
  obtain ⟨u1, u2, u3, u4, u5, u6⟩ := told_both (m := m) hr.1 rfl hr.2.1 hk (hd_bf hh hk)
  obtain ⟨w1, w2, ⟨w3, w4⟩, -⟩ := mm_cuts (m := m) rfl hr.2.1 hk
  rw [v_M_aboutBlock, hf]
  match v, hv with
  | 0, _ => exact ⟨rfl, rfl, rfl⟩
  | 1, _ => exact ⟨rfl, rfl, rfl⟩
  | 2, _ => exact ⟨rfl, rfl, rfl⟩
  | 3, _ => exact ⟨rfl, rfl, rfl⟩
  | 4, _ => exact ⟨rfl, rfl, rfl⟩
  | 5, _ => exact ⟨w4, congrFun (w3 0 (by omega)) 8, w3 1 (by omega)⟩
  | 6, _ => exact ⟨u6, congrFun (u5 0 (by omega)) 8, u5 1 (by omega)⟩
  | v + 7, z => omega
theorem blockOf_lk {n c v : Nat} {h m : HP} (hr : RR n h m) (h8 : m.1 0 8 = 0) (hc : c < cn (hd (m.1 1) n) n) (hv : v ≤ 6) : p_B_blockOf h (nI c) (nI v) ∧ p_M_aboutBlock m (nI c) (nI v) ∧ ∃ H, v_B_blockOf h (nI c) (nI v) = .inr ((v_M_aboutBlock m (nI c) (nI v)).1, H) ∧ RR n H (v_M_aboutBlock m (nI c) (nI v)).2 := by
  obtain ⟨a1, a2, a3⟩ := blockOf_both hr (nI c) (nI v)
  obtain ⟨k1, k2, k3⟩ := block_keep (v := v) hr hc hv
  have hin : v_M_in m (nI v) 0 6 = 1 := by
    rw [v_M_in, if_neg (nI_pos (by omega)), if_pos (show nI v ≤ 6 from (nI_lei (b := 6) (by omega) (by omega)).mpr hv)]
  have n1 : ¬ v_M_isBlock (am_si m 0 8 0) (nI c) = 0 := by rw [si8 h8, isBlock1 (m := m) rfl hr.2.1 hc]; exact one0
  have n2 : ¬ v_M_in (am_si m 0 8 0) (nI v) 0 6 = 0 := by rw [si8 h8, hin]; exact one0
  have hmv : v_M_blockOf m (nI c) (nI v) = v_M_aboutBlock m (nI c) (nI v) := by rw [v_M_blockOf, if_neg n1, if_neg n2, si8 h8]; rfl
  have hp : p_M_aboutBlock m (nI c) (nI v) := by have := (a2.2.2 n1).2 n2; rw [si8 h8] at this; exact this
  rw [hmv] at a3
  refine ⟨a1, hp, ?_⟩
  cases ec : v_B_blockOf h (nI c) (nI v) with
  | inl E =>
    rw [ec] at a3
    have a4 : (E, (v_M_aboutBlock m (nI c) (nI v)).2.1 0 8) ∈ [(xI, (1 : Int32)), (xA, 2)] := a3.1
    rw [k2, h8, List.mem_cons, List.mem_singleton] at a4
    rcases a4 with a4 | a4
    · exact absurd (Prod.mk.inj a4).2 (by decide)
    · exact absurd (Prod.mk.inj a4).2 (by decide)
  | inr r =>
    rw [ec] at a3
    obtain ⟨b1, b2, n', b3⟩ := a3
    refine ⟨r.2, ?_, hr.same b3 (by rw [k3])⟩
    rw [show (v_M_aboutBlock m (nI c) (nI v)).1 = r.1 from b2]
theorem duty_lk {n c r w : Nat} {h m : HP} (hr : RR n h m) (h8 : m.1 0 8 = 0) (hc : c < cn (hd (m.1 1) n) n) (hrr : r < 100) (hw : w ≤ 2) : p_B_duty h (nI c) (nI r) (nI w) ∧ p_M_dutyTold m (nI c) (nI r) (nI w) ∧ v_B_duty h (nI c) (nI r) (nI w) = .inr (v_M_dutyTold m (nI c) (nI r) (nI w)).1 ∧ RR n h (v_M_dutyTold m (nI c) (nI r) (nI w)).2 ∧
    (v_M_dutyTold m (nI c) (nI r) (nI w)).2.1 0 8 = 0 ∧ (v_M_dutyTold m (nI c) (nI r) (nI w)).2.2 = m.2 ∧ (v_M_dutyTold m (nI c) (nI r) (nI w)).2.1 1 = m.1 1 := by
  obtain ⟨a1, a2, a3⟩ := duty_both hr (nI c) (nI r) (nI w)
  obtain ⟨k, hk, hh, ek⟩ := nth_ex hc
  obtain ⟨d1, d2, d3, d4⟩ := mm_dutyTold (m := m) rfl hr.2.1 hk hh (r := r) (by omega) (nI w)
  rw [ek] at d1 d2 d3 d4
  have hin : v_M_in m (nI w) 0 2 = 1 := by
    rw [v_M_in, if_neg (nI_pos (by omega)), if_pos (show nI w ≤ 2 from (nI_lei (b := 2) (by omega) (by omega)).mpr hw)]
  have n1 : ¬ v_M_isBlock (am_si m 0 8 0) (nI c) = 0 := by rw [si8 h8, isBlock1 (m := m) rfl hr.2.1 hc]; exact one0
  have n2 : ¬ v_M_in (am_si m 0 8 0) (nI w) 0 2 = 0 := by rw [si8 h8, hin]; exact one0
  have n3 : ¬ nI r < 0 := nI_pos (by omega)
  have hmv : v_M_duty m (nI c) (nI r) (nI w) = v_M_dutyTold m (nI c) (nI r) (nI w) := by rw [v_M_duty, if_neg n1, if_neg n3, if_neg n2, si8 h8]; rfl
  rw [hmv] at a3
  refine ⟨a1, d1, ?_, hr.look hK.rf (mk_of (fun c h1 _ _ _ => d3 c h1)) (fun i _ => by rw [d3 1 (by omega)]), by rw [d3 0 (by omega)]; exact h8, d4, d3 1 (by omega)⟩
  cases ec : v_B_duty h (nI c) (nI r) (nI w) with
  | inl E =>
    rw [ec] at a3
    have a4 : (E, (v_M_dutyTold m (nI c) (nI r) (nI w)).2.1 0 8) ∈ [(xI, (1 : Int32)), (xA, 2)] := a3.1
    rw [d3 0 (by omega), h8, List.mem_cons, List.mem_singleton] at a4
    rcases a4 with a4 | a4
    · exact absurd (Prod.mk.inj a4).2 (by decide)
    · exact absurd (Prod.mk.inj a4).2 (by decide)
  | inr q =>
    rw [ec] at a3
    rw [show (v_M_dutyTold m (nI c) (nI r) (nI w)).1 = q from a3.2.1]
