/-! PURE: looks, class and model side by side: trips, blocks, duties. -/
/-- an index below a count, as the model asks -/
theorem pred_cases {N : Nat} (hN : N < 100000) (a : Int32) : (∃ t, t < N ∧ a = nI t ∧ ∀ m, v_M_in m a 0 (nI N - 1) = 1) ∨ ((∀ t, t < N → ¬ a = nI t) ∧ ∀ m, v_M_in m a 0 (nI N - 1) = 0) := by
  cases N with
  | zero =>
    refine .inr ⟨fun t ht => absurd ht (by omega), fun m => ?_⟩
    rw [v_M_in]
    by_cases h1 : a < 0
    · rw [if_pos h1]
    · rw [if_neg h1, if_neg]
      intro z
      have z1 := Int32.le_iff_toInt_le.mp z
      have z2 : ¬ a.toInt < (0 : Int32).toInt := fun z => h1 (Int32.lt_iff_toInt_lt.mpr z)
      have e1 : (nI 0 - 1).toInt = -1 := by decide +kernel
      have e2 : (0 : Int32).toInt = 0 := by decide +kernel
      omega
  | succ N =>
    rw [nI_pred]
    rcases idx_cases (N := N) (by omega) a with ⟨t, h1, h2, h3, h4⟩ | ⟨h3, h4⟩
    · exact .inl ⟨t, h1, h2, h4⟩
    · refine .inr ⟨fun t ht e => ?_, h4⟩
      have h5 := h4 (fun _ _ => 0, fun _ _ => 0)
      rw [v_M_in, e, if_neg (nI_pos (by omega)), if_pos ((lt_le (by omega)).mp (nI_lt ht (by omega)))] at h5
      exact one0 h5
theorem mk_of {m m' : HP} (h : ∀ c, c ≠ 7 → c ≠ 8 → c ≠ 2 → c ≠ 1 → m'.1 c = m.1 c) : mk m m' := ⟨h 3 (by omega) (by omega) (by omega) (by omega), h 4 (by omega) (by omega) (by omega) (by omega), h 5 (by omega) (by omega) (by omega) (by omega), h 6 (by omega) (by omega) (by omega) (by omega), by rw [h 0 (by omega) (by omega) (by omega) (by omega)], by rw [h 0 (by omega) (by omega) (by omega) (by omega)]⟩
theorem ifFailed_both {n : Nat} {h m : HP} (hr : RR n h m) (a : Int32) : p_B_ifFailed h a ∧ p_M_ifFailed m a ∧ Bo [(xI, 1), (xS, 2)] h ((v_B_ifFailed h a).map id (fun q => (q, h))) (v_M_ifFailed m a) := by
  have hm0 : (am_si m 0 8 0).1 1 = m.1 1 := am_si_ne (by omega)
  rcases trip_cases hr.1 hr.2.1 a with ⟨t, ht, ea, e1, e2⟩ | ⟨e1, e2⟩
  · have hn := mm_isRun hm0 hr.2.1 ht
    have hc := cc_isRun hr.1 hr.2.1 ht
    obtain ⟨a1, a2⟩ := cc_losses hr.1 hr.2.1 ht
    obtain ⟨b1, b2, b3, b4, b5⟩ := mm_failed hm0 hr.2.1 ht
    refine ⟨fun _ _ => by rw [ea]; exact a1, ⟨pm_trip _ _, fun _ => trivial, fun _ => ⟨by rw [ea]; exact hn.1, fun _ => trivial, fun _ => by rw [ea]; exact b1⟩⟩, ?_⟩
    cases en : isr (m.1 1) t with
    | false =>
      have z : v_B_checkRun h (nI t) = some xS := by rw [v_B_checkRun, hc, en, if_pos (show b01 false = 0 from rfl)]; rfl
      rw [v_B_ifFailed, e1, v_M_ifFailed, e2 _ hm0, if_neg one0, ea, hn.2, en, if_pos (show b01 false = 0 from rfl)]
      show Bo _ h (Sum.map id _ (match v_B_checkRun h (nI t) with | some E => Sum.inl E | none => Sum.inr (v_T_lossesFrom h (nI t)))) _
      rw [z]
      exact Bo.thr hr (.tail _ (.head _))
    | true =>
      have hne : ¬ b01 true = 0 := one0
      have hcv : v_B_ifFailed h a = .inr (v_T_lossesFrom h (nI t)) := by
        have z : v_B_checkRun h (nI t) = none := by rw [v_B_checkRun, hc, en, if_neg hne]
        rw [v_B_ifFailed, e1, ea]
        show (match v_B_checkRun h (nI t) with | some E => Sum.inl E | none => Sum.inr (v_T_lossesFrom h (nI t))) = _
        rw [z]
      have hmv : v_M_ifFailed m a = v_M_failed (am_si m 0 8 0) (nI t) := by
        rw [v_M_ifFailed, e2 _ hm0, if_neg one0, ea, hn.2, en, if_neg hne]; rfl
      rw [hcv, hmv]
      refine ⟨?_, ?_, n, (hr.th 0).look hK.rf (mk_of (fun c _ _ h2 h1 => b4 c h1 h2)) (fun i _ => by rw [b3, hm0])⟩
      · rw [b4 0 (by omega) (by omega), th8]
      · rw [b2]; exact a2.symm
  · refine ⟨fun z => (nomatch (e1.symm.trans z)), ⟨pm_trip _ _, fun _ => trivial, fun z => absurd (e2 _ hm0) z⟩, ?_⟩
    rw [v_B_ifFailed, e1, v_M_ifFailed, e2 _ hm0, if_pos rfl]
    exact Bo.thr hr (.head _)
theorem tripOf_both {n : Nat} {h m : HP} (hr : RR n h m) (a b : Int32) : p_B_tripOf h a b ∧ p_M_tripOf m a b ∧ Bo [(xI, 1), (xA, 2)] h ((v_B_tripOf h a b).map id (fun q => (q, h))) (v_M_tripOf m a b) := by
  have hm0 : (am_si m 0 8 0).1 1 = m.1 1 := am_si_ne (by omega)
  have h20 := hr.2.1.n20
  have hR := hr.1
  have hI := hr.2.1
  rcases trip_cases hr.1 hr.2.1 a with ⟨t, ht, ea, e1, e2⟩ | ⟨e1, e2⟩
  · have hn := mm_isRun hm0 hI ht
    have hbw := cc_blockWith hR hI ht
    have hbt := mm_blockOfTrip hm0 hI ht
    refine ⟨fun _ _ => ⟨fun _ => trivial, fun _ => ⟨fun _ => trivial, fun _ => ⟨fun _ => trivial, fun _ => ⟨fun _ => trivial, fun _ => ⟨fun _ => trivial, fun _ => ⟨fun _ => trivial, fun _ => ⟨fun _ => trivial, fun _ => ⟨fun _ => by rw [ea]; exact hbw.1, fun _ => trivial⟩⟩⟩⟩⟩⟩⟩⟩, ?_⟩
    rcases rng_cases (lo := 0) (hi := 8) (by omega) (by omega) h b with ⟨v, _, hv, eb, f1, f2⟩ | ⟨f1, f2⟩
    · have f1' : v_B_checkRange h (nI v) 0 8 = none := by rw [← eb]; exact f1
      have e1' : v_B_checkTrip h (nI t) = none := by rw [← ea]; exact e1
      have f2' : v_M_in (am_si m 0 8 0) b 0 8 = 1 := f2 _
      have hof : p_M_of (am_si m 0 8 0) (nI t) (nI v) := by
        rw [p_M_of, show (16 : Int32) = nI 16 from rfl, show (7 : Int32) = nI 7 from rfl, nI_mul, nI_add, nI_add]; exact nI_am (by omega) (by omega)
      refine ⟨⟨pm_trip _ _, fun _ => trivial, fun _ => ⟨fun _ => trivial, fun _ => ?_⟩⟩, ?_⟩
      · rw [ea, eb]
        exact ⟨fun _ => (mm_arr hm0 hI ht).1, fun _ => ⟨fun _ => (mm_before hm0 hI (by omega)).1, fun _ => ⟨fun _ => (mm_next hm0 hI ht).1, fun _ => ⟨fun _ => ⟨hn.1, fun _ => trivial, fun _ => hbt.1⟩, fun _ => ⟨fun _ => (mm_lo hm0 hI ht).1, fun _ => hof⟩⟩⟩⟩⟩
      · have key : ∃ q, v_B_tripOf h (nI t) (nI v) = .inr q ∧ v_M_aboutTrip (am_si m 0 8 0) (nI t) (nI v) = q := by
          rw [v_B_tripOf, e1', f1', v_M_aboutTrip]
          match v, hv with
          | 0, _ => exact ⟨_, congrArg Sum.inr (cc_rt hR hI ht), (mm_rt hm0 hI ht).2⟩
          | 1, _ => exact ⟨_, congrArg Sum.inr (cc_fr hR hI ht), (mm_fr hm0 hI ht).2⟩
          | 2, _ => exact ⟨_, congrArg Sum.inr (cc_go hR hI ht), (mm_go hm0 hI ht).2⟩
          | 3, _ => exact ⟨_, congrArg Sum.inr (cc_dep hR hI ht), (mm_dp hm0 hI ht).2⟩
          | 4, _ => exact ⟨_, congrArg Sum.inr (cc_arr hR hI ht), (mm_arr hm0 hI ht).2⟩
          | 5, _ => exact ⟨_, congrArg Sum.inr (cc_bf hR hI ht), (mm_before hm0 hI (by omega)).2⟩
          | 6, _ => exact ⟨_, congrArg Sum.inr (cc_nx hR hI ht), (mm_next hm0 hI ht).2⟩
          | 7, _ =>
            refine ⟨_, congrArg Sum.inr hbw.2, ?_⟩
            show (if v_M_isRun (am_si m 0 8 0) (nI t) = 0 then (-1 : Int32) else v_M_blockOfTrip (am_si m 0 8 0) (nI t)) = _
            rw [hn.2, hbt.2]
            cases isr (m.1 1) t with
            | true => rfl
            | false => rfl
          | 8, _ =>
            have hc : (if v_T_isRun h (nI t) = 0 then (1 : Int32) else 0) = nI (Lo (m.1 1) t) := by
              rw [cc_isRun hR hI ht]
              have hl : Lo (m.1 1) t ≤ 1 := (hI.lo ht).2
              unfold isr
              rcases (show Lo (m.1 1) t = 0 ∨ Lo (m.1 1) t = 1 by omega) with e | e
              · rw [e]; rfl
              · rw [e]; rfl
            exact ⟨_, congrArg Sum.inr hc, (mm_lo hm0 hI ht).2⟩
          | v + 9, z => omega
        obtain ⟨q, k1, k2⟩ := key
        rw [v_M_tripOf, e2 _ hm0, if_neg one0, f2', if_neg one0, ea, eb, k1, k2]
        exact ⟨th8 m 0, rfl, n, hr.th 0⟩
    · have f1' : v_B_checkRange h b 0 8 = some xA := f1
      have f2' : v_M_in (am_si m 0 8 0) b 0 8 = 0 := f2 _
      refine ⟨⟨pm_trip _ _, fun _ => trivial, fun _ => ⟨fun _ => trivial, fun z => absurd f2' z⟩⟩, ?_⟩
      rw [v_B_tripOf, e1, f1', v_M_tripOf, e2 _ hm0, if_neg one0, f2', if_pos rfl]
      exact Bo.thr hr (.tail _ (.head _))
  · refine ⟨fun z => (nomatch (e1.symm.trans z)), ⟨pm_trip _ _, fun _ => trivial, fun z => absurd (e2 _ hm0) z⟩, ?_⟩
    rw [v_B_tripOf, e1, v_M_tripOf, e2 _ hm0, if_pos rfl]
    exact Bo.thr hr (.head _)
