/-! PURE: the digest, class and model side by side: the counts. -/
theorem si8 {m : HP} (h8 : m.1 0 8 = 0) : am_si m 0 8 0 = m := by
  refine Prod.ext (funext fun c => funext fun i => ?_) rfl
  show (am_si m 0 8 0).1 c i = m.1 c i
  rw [am_si1]
  by_cases e : c = 0 ∧ i = 8
  · rw [if_pos e, e.1, e.2, h8]
  · rw [if_neg e]
theorem byBlocks_g {h m : HP} {T : Nat → Int32} {n : Nat} (hR : RT h.1 0 T n) (hT : m.1 1 = T) (hI : Inv T n) : (v_M_byBlocks m).2.2 = m.2 ∧ (v_M_byBlocks m).2.1 0 8 = m.1 0 8 := by
  let m1 := v_lays m 1 (nI 0) 2 (nI 0)
  have hm1 : m1.1 1 = T := by rw [show m1.1 1 = m.1 1 from lay_ne (by omega)]; exact hT
  obtain ⟨-, -, T', -, -, -, -, -, -, -, a10, a11⟩ := blockAll_both hR hm1 hI
  obtain ⟨y, hy⟩ : ∃ y, v_M_blocksAll m1 = y := ⟨_, rfl⟩
  rw [hy] at a10 a11
  have hv : v_M_byBlocks m = (y.1, v_lays y.2 2 (nI 0) 1 (nI 0)) := by rw [← hy]; rfl
  rw [hv]
  refine ⟨a11, ?_⟩
  show (v_lays y.2 2 (nI 0) 1 (nI 0)).1 0 8 = _
  rw [lay_ne (by omega), a10 8 (by omega)]
  show (v_lays m 1 (nI 0) 2 (nI 0)).1 0 8 = _
  rw [lay_ne (by omega)]
theorem counted_k {h m : HP} {T : Nat → Int32} {n v : Nat} (hR : RT h.1 0 T n) (hT : m.1 1 = T) (hI : Inv T n) (hv : v ≤ 10) : (v_M_counted m (nI v)).2.2 = m.2 ∧ (v_M_counted m (nI v)).2.1 0 8 = m.1 0 8 ∧ (v_M_counted m (nI v)).2.1 1 15 = m.1 1 15 := by
  obtain ⟨g1, g2⟩ := byBlocks_g hR hT hI
  have g3 : (v_M_byBlocks m).2.1 1 15 = m.1 1 15 := by obtain ⟨-, -, -, -, t5, -⟩ := trial_both hR hT hI; rw [t5 15 (by omega), hT]
  obtain ⟨w1, w2, w3, w4⟩ := mm_duties hT hI
  rw [v_M_counted]
  match v, hv with
  | 0, _ => exact ⟨rfl, rfl, rfl⟩
  | 1, _ => exact ⟨rfl, rfl, rfl⟩
  | 2, _ => exact ⟨rfl, rfl, rfl⟩
  | 3, _ => exact ⟨g1, g2, g3⟩
  | 4, _ => exact ⟨rfl, rfl, rfl⟩
  | 5, _ => exact ⟨rfl, rfl, rfl⟩
  | 6, _ => exact ⟨rfl, rfl, rfl⟩
  | 7, _ => exact ⟨rfl, rfl, rfl⟩
  | 8, _ => exact ⟨rfl, rfl, rfl⟩
  | 9, _ => exact ⟨w4, congrFun (w3 0 (by omega)) 8, congrFun (w3 1 (by omega)) 15⟩
  | 10, _ => exact ⟨rfl, rfl, rfl⟩
  | v + 11, z => omega
theorem count_lk {n v : Nat} {h m : HP} (hr : RR n h m) (h8 : m.1 0 8 = 0) (hv : v ≤ 10) : p_B_count h (nI v) ∧ p_M_counted m (nI v) ∧ ∃ H, v_B_count h (nI v) = .inr ((v_M_counted m (nI v)).1, H) ∧ RR n H (v_M_counted m (nI v)).2 ∧ (v_M_counted m (nI v)).2.1 0 8 = 0 ∧ (v_M_counted m (nI v)).2.2 = m.2 := by
  obtain ⟨a1, a2, a3⟩ := count_both hr (nI v)
  obtain ⟨k1, k2, k3⟩ := counted_k (v := v) hr.1 rfl hr.2.1 hv
  have hin : v_M_in m (nI v) 0 10 = 1 := by
    rw [v_M_in, if_neg (nI_pos (by omega)), if_pos (show nI v ≤ 10 from (nI_lei (b := 10) (by omega) (by omega)).mpr hv)]
  have hne : ¬ v_M_in (am_si m 0 8 0) (nI v) 0 10 = 0 := by rw [si8 h8, hin]; exact one0
  have hmv : v_M_count m (nI v) = v_M_counted m (nI v) := by rw [v_M_count, if_neg hne, si8 h8]; rfl
  have hp : p_M_counted m (nI v) := by have := a2.2 hne; rw [si8 h8] at this; exact this
  rw [hmv] at a3
  refine ⟨a1, hp, ?_⟩
  cases ec : v_B_count h (nI v) with
  | inl E =>
    rw [ec] at a3
    have a4 : (E, (v_M_counted m (nI v)).2.1 0 8) ∈ [(xA, (1 : Int32))] := a3.1
    rw [k2, h8, List.mem_singleton] at a4
    exact absurd (Prod.mk.inj a4).2 (by decide)
  | inr r =>
    rw [ec] at a3
    obtain ⟨b1, b2, n', b3⟩ := a3
    refine ⟨r.2, ?_, ?_, k2.trans h8, k1⟩
    · rw [show (v_M_counted m (nI v)).1 = r.1 from b2]
    · have e1 : (v_M_counted m (nI v)).2.1 1 15 = nI n' := b3.2.1.t15
      rw [k3, hr.2.1.t15] at e1
      have h20 := hr.2.1.n20
      have h20' := b3.2.1.n20
      have e2 : n = n' := nI_inj (by omega) (by omega) e1
      rw [e2]; exact b3
/-- the state in the digest: what is mixed so far -/
def DR (n : Nat) (a : Int64) (h m : HP) : Prop := RR n h m ∧ m.1 0 8 = 0 ∧ m.2 0 15 = a
theorem DR.mix {n : Nat} {a q : Int64} {h m : HP} (hr : DR n a h m) : DR n (31 * a + q) h (v_M_mixes m q) := by
  refine ⟨hr.1, hr.2.1, ?_⟩
  show am_upL m.2 0 15 (31 * m.2 0 15 + q) 0 15 = _
  rw [hr.2.2]
  unfold am_upL
  rw [if_pos rfl]
  exact if_pos rfl
theorem dig_count {n : Nat} {a : Int64} {h m h0 m0 : HP} (hr : DR n a h m) : itrp (s_B_digest_6 h0) (ps_B_digest_6 h0) NF (a, 0, h) ∧ itrp (s_M_mixesAll_2 m0) (ps_M_mixesAll_2 m0) NF (0, m) ∧ ∃ r q, itr (s_B_digest_6 h0) NF (a, 0, h) = some r ∧ itr (s_M_mixesAll_2 m0) NF (0, m) = some q ∧ DR n r.1 r.2.2 q.2 := by
  refine itr_relN (s₁ := s_B_digest_6 h0) (s₂ := s_M_mixesAll_2 m0) (p₁ := ps_B_digest_6 h0) (p₂ := ps_M_mixesAll_2 m0)
    (fun x y => ∃ v b H M, v ≤ 11 ∧ x = (b, nI v, H) ∧ y = (nI v, M) ∧ DR n b H M) (fun x _ => 11 - am_ix x.2.1) (fun r q => DR n r.1 r.2.2 q.2) _ _ (by show 11 - _ < 100000; omega) ⟨0, a, h, m, by omega, rfl, rfl, hr⟩ ?_
  rintro x y ⟨v, b, H, M, hv, rfl, rfl, hD⟩
  by_cases e : v ≤ 10
  · obtain ⟨c1, c2, H', c3, c4, c5, c6⟩ := count_lk hD.1 hD.2.1 e
    have l1 : nI v ≤ 10 := (nI_lei (b := 10) (by omega) (by omega)).mpr e
    have l2 : nI v < 11 := nI_lt (b := 11) (by omega) (by omega)
    have hD' : DR n b H' (v_M_counted M (nI v)).2 := ⟨c4, c5, by rw [c6]; exact hD.2.2⟩
    refine ⟨⟨fun _ => ⟨c1, _, c3⟩, fun _ => trivial⟩, ⟨fun _ => c2, fun _ => trivial⟩, .inl ⟨_, _, ?_, ?_, ⟨v + 1, _, _, _, by omega, rfl, rfl, hD'.mix (q := ((v_M_counted M (nI v)).1).toInt64)⟩, ?_⟩⟩
    · show (if nI v ≤ 10 then (match v_B_count H (nI v) with | Sum.inl _ => Sum.inl (b, nI v, H) | Sum.inr y2 => (Sum.inl (((31 * b) + ((y2.1).toInt64)), (nI v + 1), y2.2))) else _) = _
      rw [if_pos l1, c3, nI_1]
    · show (if nI v < 11 then Sum.inl (nI v + 1, v_M_mixes (v_M_counted M (nI v)).2 ((v_M_counted M (nI v)).1).toInt64) else _) = _
      rw [if_pos l2, nI_1]
    · show 11 - am_ix (nI (v + 1)) < 11 - am_ix (nI v)
      rw [nI_ix (by omega), nI_ix (by omega)]; omega
  · have l1 : ¬ nI v ≤ 10 := fun z => e ((nI_lei (b := 10) (by omega) (by omega)).mp z)
    have l2 : ¬ nI v < 11 := nI_nlt (b := 11) (by omega) (by omega)
    refine ⟨⟨fun z => absurd z l1, fun _ => trivial⟩, ⟨fun z => absurd z l2, fun _ => trivial⟩, .inr ⟨(b, nI v, H), (nI v, M), ?_, ?_, hD⟩⟩
    · show (if nI v ≤ 10 then _ else _) = _
      rw [if_neg l1]
    · show (if nI v < 11 then _ else _) = _
      rw [if_neg l2]
