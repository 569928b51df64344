/-! PURE: looks, class and model side by side: counts. -/
theorem RT.shift {f f' : Nat → Nat → Int32} {b b' n : Nat} {T : Nat → Int32} (h : RT f b T n) (e : ∀ j, j < 12 → f' (b' + j) = f (b + j)) : RT f' b' T n := by
  have e0 : f' b' = f b := e 0 (by omega)
  refine ⟨?_, fun k hk => ?_, fun i hi => ?_⟩
  · rw [e0]; exact h.1
  · rw [e 1 (by omega), e 2 (by omega), e 3 (by omega), e 4 (by omega), e 5 (by omega), e 6 (by omega), e 7 (by omega), e 8 (by omega)]; exact h.2.1 k hk
  · rw [e 9 (by omega), e 10 (by omega), e 11 (by omega)]; exact h.2.2 i hi
theorem pi21 : ∀ j, j < 12 → am_pi pl21 j = 21 + j := by decide +kernel
theorem ip21 : ∀ j, j < 12 → am_ip pl21 (21 + j) = some j := by decide +kernel
theorem ip21n {c : Nat} (h : c < 21 ∨ 33 ≤ c) : am_ip pl21 c = none := am_ip_out (by unfold pl21; simp only [List.mem_cons, List.not_mem_nil, or_false]; omega)
/-- blocks by a trial, in class and model -/
theorem trial_both {h m : HP} {T : Nat → Int32} {n : Nat} (hR : RT h.1 0 T n) (hT : m.1 1 = T) (hI : Inv T n) :
    (∀ y1, v_copyFrom h 21 0 = y1 → (p_T_blockEverything (am_pull pl21 y1) ∧ ∀ y2, am_push pl21 y1 (v_T_blockEverything (am_pull pl21 y1)) = y2 → p_T_blocks (am_pull pl21 y2))) ∧ p_M_byBlocks m ∧
    v_T_blocks (am_pull pl21 (am_push pl21 (v_copyFrom h 21 0) (v_T_blockEverything (am_pull pl21 (v_copyFrom h 21 0))))) = (v_M_byBlocks m).1 ∧
    hK h (am_push pl21 (v_copyFrom h 21 0) (v_T_blockEverything (am_pull pl21 (v_copyFrom h 21 0)))) ∧ (∀ i, i < 163 → (v_M_byBlocks m).2.1 1 i = T i) ∧ (∀ c, c ≠ 0 → c ≠ 1 → c ≠ 2 → (v_M_byBlocks m).2.1 c = m.1 c) ∧ (∀ k, k ≠ 9 → (v_M_byBlocks m).2.1 0 k = m.1 0 k) := by
  have h20 := hI.n20
  have hq : (21, 0) ∈ cql := by decide
  have hR1 : RT (am_pull pl21 (v_copyFrom h 21 0)).1 0 T n := (copy_RT hq hR h20).shift (fun j hj => by
    show (v_copyFrom h 21 0).1 (am_pi pl21 (0 + j)) = _
    rw [Nat.zero_add, pi21 j hj])
  let m1 := v_lays m 1 (nI 0) 2 (nI 0)
  have hm1 : m1.1 1 = T := by rw [show m1.1 1 = m.1 1 from lay_ne (by omega)]; exact hT
  obtain ⟨a1, a2, T', a3, a4, a5, a6, a7, a8, a9, a10, a11⟩ := blockAll_both hR1 hm1 hI
  obtain ⟨y, hy⟩ : ∃ y, v_M_blocksAll m1 = y := ⟨_, rfl⟩
  rw [hy] at a5 a6 a9 a10 a11
  have hv : v_M_byBlocks m = (y.1, v_lays y.2 2 (nI 0) 1 (nI 0)) := by rw [← hy]; rfl
  have hR2 : RT (am_pull pl21 (am_push pl21 (v_copyFrom h 21 0) (v_T_blockEverything (am_pull pl21 (v_copyFrom h 21 0))))).1 0 T' n := a3.shift (fun j hj => by
    show (match am_ip pl21 (am_pi pl21 (0 + j)) with | some k => (v_T_blockEverything (am_pull pl21 (v_copyFrom h 21 0))).1 k | none => _) = _
    rw [Nat.zero_add, pi21 j hj, ip21 j hj])
  obtain ⟨b1, b2⟩ := cc_blocks hR2 a4
  have hH : ∀ c, c < 21 ∨ 33 ≤ c → (am_push pl21 (v_copyFrom h 21 0) (v_T_blockEverything (am_pull pl21 (v_copyFrom h 21 0)))).1 c = h.1 c := fun c hc => by
    show (match am_ip pl21 c with | some k => _ | none => (v_copyFrom h 21 0).1 c) = _
    rw [ip21n hc]
    exact copy_rest hq _ (by omega)
  refine ⟨fun y1 hy1 => by subst hy1; exact ⟨a1, fun y2 hy2 => by subst hy2; exact b1⟩, ⟨p_lay (p1 := 0) (p2 := 0) (by omega) (by omega) (by omega) (by omega), a2, fun _ _ => p_lay (p1 := 0) (p2 := 0) (by omega) (by omega) (by omega) (by omega)⟩, ?_, ⟨fun c hc => hH c (by omega), by rw [hH 18 (by omega)]⟩, fun i hi => ?_, fun c h0 h1 h2 => ?_, fun k hk => ?_⟩
  · rw [b2, hv, a6]
  · rw [hv]
    show (v_lays y.2 2 (nI 0) 1 (nI 0)).1 1 i = T i
    rw [lay_at (by omega) (by omega), if_pos (by omega), a9 2 (by omega) (by omega)]
    show (v_lays m 1 (nI 0) 2 (nI 0)).1 2 (0 + (i - 0)) = _
    rw [lay_at (by omega) (by omega), if_pos (by omega), hT]
    exact congrArg T (by omega)
  · rw [hv]
    show (v_lays y.2 2 (nI 0) 1 (nI 0)).1 c = _
    rw [lay_ne h1, a9 c h0 h1]
    exact lay_ne h2
  · rw [hv]
    show (v_lays y.2 2 (nI 0) 1 (nI 0)).1 0 k = _
    rw [lay_ne (by omega), a10 k hk]
    show (v_lays m 1 (nI 0) 2 (nI 0)).1 0 k = _
    rw [lay_ne (by omega)]
theorem count_both {n : Nat} {h m : HP} (hr : RR n h m) (a : Int32) : p_B_count h a ∧ p_M_count m a ∧ Bo [(xA, 1)] h (v_B_count h a) (v_M_count m a) := by
  have hm0 : (am_si m 0 8 0).1 1 = m.1 1 := am_si_ne (by omega)
  have h20 := hr.2.1.n20
  have hR := hr.1
  have hI := hr.2.1
  obtain ⟨d1, d2, d3, d4, d5⟩ := cc_deficits hR hI
  have hmd := mi_by (m := am_si m 0 8 0) hm0 hI.IB
  have h15 := mm_tr hm0 hI
  obtain ⟨t1, t2, t3, t4, t5, t6, t7⟩ := trial_both hR hm0 hI
  obtain ⟨w1, w2, w3, w4⟩ := mm_duties hm0 hI
  refine ⟨fun _ => ⟨fun _ => trivial, fun _ => ⟨fun _ => (cc_run hR hI).1, fun _ => ⟨fun _ => (cc_blocks hR hI).1, fun _ => ⟨fun _ => t1, fun _ => ⟨fun _ => ⟨d1, fun y hy => by subst hy; exact d2⟩, fun _ => ⟨fun _ => trivial, fun _ => ⟨fun _ => trivial, fun _ => ⟨fun _ => trivial, fun _ => ⟨fun _ => (cc_most hR hI).1, fun _ => ⟨fun _ => (cc_all hR hI).1, fun _ => trivial⟩⟩⟩⟩⟩⟩⟩⟩⟩⟩, ?_⟩
  rcases rng_cases (lo := 0) (hi := 10) (by omega) (by omega) h a with ⟨v, _, hv, ea, f1, f2⟩ | ⟨f1, f2⟩
  · have f1' : v_B_checkRange h (nI v) 0 10 = none := by rw [← ea]; exact f1
    have f2' : v_M_in (am_si m 0 8 0) a 0 10 = 1 := f2 _
    have r6 : (13 : Int32) + 6 - 6 = 13 := by decide +kernel
    have r7 : (13 : Int32) + 7 - 6 = 14 := by decide +kernel
    refine ⟨⟨fun _ => trivial, fun _ => ⟨fun _ => trivial, fun _ => ⟨fun _ => (mm_running hm0 hI).1, fun _ => ⟨fun _ => (mm_blocks hm0 hI).1, fun _ => ⟨fun _ => t2, fun _ => ⟨fun _ => by rw [h15]; exact hmd.1, fun _ => ⟨fun _ => trivial, fun _ => ⟨fun z => by rw [z, r6]; exact nI_am (a := 13) (by omega) (by omega), fun _ => ⟨fun z => by rw [z, r7]; exact nI_am (a := 14) (by omega) (by omega), fun _ => ⟨fun _ => (mm_under hm0 hI).1, fun _ => ⟨fun _ => w1, fun _ => trivial⟩⟩⟩⟩⟩⟩⟩⟩⟩⟩⟩, ?_⟩
    have key : ∃ q H M, v_B_count h (nI v) = .inr (q, H) ∧ v_M_counted (am_si m 0 8 0) (nI v) = (q, M) ∧ hK h H ∧ mk (am_si m 0 8 0) M ∧ M.1 0 8 = 0 ∧ (∀ i, i < 163 → M.1 1 i = (am_si m 0 8 0).1 1 i) := by
      have th := th8 m 0
      rw [v_B_count, f1', v_M_counted]
      match v, hv with
      | 0, _ => exact ⟨_, _, _, congrArg (fun x => Sum.inr (x, h)) hR.nn, congrArg (fun x => (x, am_si m 0 8 0)) h15, hK.rf, mk.rf, th, fun _ _ => rfl⟩
      | 1, _ => exact ⟨_, _, _, congrArg (fun x => Sum.inr (x, h)) (cc_run hR hI).2, congrArg (fun x => (x, am_si m 0 8 0)) (mm_running hm0 hI).2, hK.rf, mk.rf, th, fun _ _ => rfl⟩
      | 2, _ => exact ⟨_, _, _, congrArg (fun x => Sum.inr (x, h)) (cc_blocks hR hI).2, congrArg (fun x => (x, am_si m 0 8 0)) (mm_blocks hm0 hI).2, hK.rf, mk.rf, th, fun _ _ => rfl⟩
      | 3, _ => exact ⟨_, _, (v_M_byBlocks (am_si m 0 8 0)).2, congrArg (fun x => Sum.inr (x, am_push pl21 (v_copyFrom h 21 0) (v_T_blockEverything (am_pull pl21 (v_copyFrom h 21 0))))) t3, rfl, t4, ⟨t6 3 (by omega) (by omega) (by omega), t6 4 (by omega) (by omega) (by omega), t6 5 (by omega) (by omega) (by omega), t6 6 (by omega) (by omega) (by omega), t7 3 (by omega), t7 7 (by omega)⟩, by rw [t7 8 (by omega)]; exact th, fun i hi => by rw [t5 i hi, hm0]⟩
      | 4, _ => exact ⟨_, (v_D_fewest (v_D_gather h (-1))).2, _, congrArg (fun x => Sum.inr (x, (v_D_fewest (v_D_gather h (-1))).2)) d3, (show (v_M_byDeficits (am_si m 0 8 0) ((am_si m 0 8 0).1 1 (am_ix 15)), am_si m 0 8 0) = _ by rw [h15, hmd.2]), d5, mk.rf, th, fun _ _ => rfl⟩
      | 5, _ => exact ⟨_, _, _, congrArg (fun x => Sum.inr (x, h)) (cc_spares hR hI), congrArg (fun x => (x, am_si m 0 8 0)) (mm_spares hm0 hI), hK.rf, mk.rf, th, fun _ _ => rfl⟩
      | 6, _ => exact ⟨_, _, _, congrArg (fun x => Sum.inr (x, h)) hR.fa, (show ((am_si m 0 8 0).1 1 (am_ix (13 + 6 - 6)), am_si m 0 8 0) = _ by rw [r6, ix13, hm0]), hK.rf, mk.rf, th, fun _ _ => rfl⟩
      | 7, _ => exact ⟨_, _, _, congrArg (fun x => Sum.inr (x, h)) hR.re, (show ((am_si m 0 8 0).1 1 (am_ix (13 + 7 - 6)), am_si m 0 8 0) = _ by rw [r7, ix14, hm0]), hK.rf, mk.rf, th, fun _ _ => rfl⟩
      | 8, _ => exact ⟨_, _, _, congrArg (fun x => Sum.inr (x, h)) (cc_most hR hI).2, congrArg (fun x => (x, am_si m 0 8 0)) (mm_under hm0 hI).2, hK.rf, mk.rf, th, fun _ _ => rfl⟩
      | 9, _ => exact ⟨_, _, (v_M_duties (am_si m 0 8 0)).2, congrArg (fun x => Sum.inr (x, h)) (cc_all hR hI).2, Prod.ext w2 rfl, hK.rf, mk_of (fun c h1 _ _ _ => w3 c h1), by rw [w3 0 (by omega)]; exact th, fun i _ => by rw [w3 1 (by omega)]⟩
      | 10, _ =>
        obtain ⟨s, o, k1, k2, k3, k4, k5, k6⟩ := hr.2.2.1
        exact ⟨_, _, _, congrArg (fun x => Sum.inr (x, h)) k3, (show ((am_si m 0 8 0).1 0 3, am_si m 0 8 0) = _ by rw [am_si1, if_neg (by omega), k5]), hK.rf, mk.rf, th, fun _ _ => rfl⟩
      | v + 11, z => omega
    obtain ⟨q, H, M, k1, k2, k3, k4, k5, k6⟩ := key
    rw [v_M_count, f2', if_neg one0, ea, k1]
    show Bo _ h _ ((v_M_counted (am_si m 0 8 0) (nI v)).1, (v_M_counted (am_si m 0 8 0) (nI v)).2)
    rw [k2]
    exact ⟨k5, rfl, n, (hr.th 0).look k3 k4 (fun i hi => k6 i (by omega))⟩
  · have f1' : v_B_checkRange h a 0 10 = some xA := f1
    have f2' : v_M_in (am_si m 0 8 0) a 0 10 = 0 := f2 _
    refine ⟨⟨fun _ => trivial, fun z => absurd f2' z⟩, ?_⟩
    rw [v_B_count, f1', v_M_count, f2', if_pos rfl]
    exact Bo.thr hr (.head _)
