/-! PURE: looks, class and model side by side: terminals, counts. -/
theorem Inv.IB {T : Nat → Int32} {n : Nat} (hI : Inv T n) : _root_.Jvm.Pilot.@@N@@.IB T n := ⟨by have := hI.n20; omega, fun k hk => hI.2.1 k hk, fun i hi => hI.lay hi, hI.s0⟩
theorem evn_evM (T : Nat → Int32) (q : Nat → Bool) (n : Nat) : evn T none q n = evM T n q := by
  unfold evn evM
  refine sn_congr (fun k _ => ?_)
  by_cases e : isr T k = true
  · rw [if_pos ⟨e, fun z => nomatch z⟩, if_pos e]
  · rw [if_neg (fun z => e z.1), if_neg e]
/-- the deficits of the timetable that is now -/
theorem cc_deficits {h : HP} {T : Nat → Int32} {n : Nat} (hR : RT h.1 0 T n) (hI : Inv T n) : p_D_gather h (-1) ∧ p_D_fewest (v_D_gather h (-1)) ∧ (v_D_fewest (v_D_gather h (-1))).1 = nI (sn (dfc T n) 4) ∧
    (∀ t, t < 4 → p_D_deficitOf (v_D_fewest (v_D_gather h (-1))).2 (nI t) ∧ v_D_deficitOf (v_D_fewest (v_D_gather h (-1))).2 (nI t) = nI (dfc T n t)) ∧ hK h (v_D_fewest (v_D_gather h (-1))).2 := by
  obtain ⟨g1, A, s, hE, h2n, hq, hf, -⟩ := cc_gather hR hI none okO_none
  have hE' : EvS (v_D_gather h (-1)) A s := hE
  obtain ⟨f1, f2, f3, f4, f5⟩ := cc_fewest hE'
  have hq' : ∀ q : Nat → Bool, cn (fun i => q (A i)) s = evM T n q := fun q => (hq q).trans (evn_evM T q n)
  refine ⟨g1, f1, ?_, fun t ht => ?_, fun c hc => ?_, ?_⟩
  · rw [f2, sw_sum hI.IB hE'.2.2.1 hq']
  · obtain ⟨k1, k2⟩ := cc_deficitOf f3 ht
    exact ⟨k1, by rw [k2, sw_all hI.IB hE'.2.2.1 hq' ht]⟩
  · rw [f4 c (by omega) (by omega) (by omega)]; exact hf c (by omega) (by omega)
  · rw [f4 18 (by omega) (by omega) (by omega)]; exact congrFun (hf 18 (by omega) (by omega)) 2
theorem terminalOf_both {n : Nat} {h m : HP} (hr : RR n h m) (a b : Int32) : p_B_terminalOf h a b ∧ p_M_terminalOf m a b ∧ Bo [(xI, 1), (xA, 2)] h (v_B_terminalOf h a b) (v_M_terminalOf m a b) := by
  have hm0 : (am_si m 0 8 0).1 1 = m.1 1 := am_si_ne (by omega)
  have h20 := hr.2.1.n20
  have hR := hr.1
  have hI := hr.2.1
  rcases term_cases h a with ⟨t, ht, ea, e1, e2⟩ | ⟨e1, e2⟩
  · obtain ⟨d1, d2, d3, d4, d5⟩ := cc_deficits hR hI
    have hmd := mi_deficit (m := am_si m 0 8 0) hm0 hI.IB ht
    have h15 := mm_tr hm0 hI
    refine ⟨fun _ _ => by rw [ea]; exact ⟨fun _ => trivial, fun _ => ⟨fun _ => trivial, fun _ => ⟨fun _ => (cc_runAt2 hR hI ht).1, fun _ => ⟨fun _ => (cc_runAt3 hR hI ht).1, fun _ => ⟨d1, fun y hy => by subst hy; exact ⟨d2, fun y2 hy2 => by subst hy2; exact (d4 t ht).1⟩⟩⟩⟩⟩⟩, ?_⟩
    rcases rng_cases (lo := 0) (hi := 4) (by omega) (by omega) h b with ⟨v, _, hv, eb, f1, f2⟩ | ⟨f1, f2⟩
    · have f1' : v_B_checkRange h (nI v) 0 4 = none := by rw [← eb]; exact f1
      have e1' : v_B_checkTerminal h (nI t) = none := by rw [← ea]; exact e1
      have f2' : v_M_in (am_si m 0 8 0) b 0 4 = 1 := f2 _
      have hij : (0 + 4 * nI v) + nI t = nI (4 * v + t) := by rw [show (4 : Int32) = nI 4 from rfl, show (0 : Int32) = nI 0 from rfl, nI_mul, nI_add, nI_add]; congr 1; omega
      have ham : am_in ((0 + 4 * nI v) + nI t) 163 := by rw [hij]; exact nI_am (by omega) (by omega)
      have r1 : (1 : Int32) + nI 2 - 2 = 1 := by decide +kernel
      have r2 : (1 : Int32) + nI 3 - 2 = 2 := by decide +kernel
      refine ⟨⟨in01 _ _ _ _, fun _ => trivial, fun _ => ⟨fun _ => trivial, fun _ => ?_⟩⟩, ?_⟩
      · rw [ea, eb]
        refine ⟨fun _ => ham, fun _ => ⟨fun _ => ham, fun _ => ⟨fun z => ?_, fun _ => ⟨fun z => ?_, fun _ => by rw [h15]; exact hmd.1⟩⟩⟩⟩
        · rw [z, show (1 : Int32) + 2 - 2 = 1 from r1]; exact (mm_runs1 hm0 hI ht).1
        · rw [z, show (1 : Int32) + 3 - 2 = 2 from r2]; exact (mm_runs2 hm0 hI ht).1
      · have key : ∃ q H, v_B_terminalOf h (nI t) (nI v) = .inr (q, H) ∧ v_M_aboutTerminal (am_si m 0 8 0) (nI t) (nI v) = q ∧ hK h H := by
          rw [v_B_terminalOf, e1', f1', v_M_aboutTerminal, hij, nI_ix (by omega), hm0]
          match v, hv with
          | 0, _ => exact ⟨_, _, congrArg (fun x => Sum.inr (x, h)) (cc_lay hR hI ht), by rw [show 4 * 0 + t = t by omega]; exact (hI.lay ht).1, hK.rf⟩
          | 1, _ => exact ⟨_, _, congrArg (fun x => Sum.inr (x, h)) (cc_rel hR hI ht), by rw [show 4 * 1 + t = 4 + t by omega]; exact (hI.rel ht).1, hK.rf⟩
          | 2, _ => exact ⟨_, _, congrArg (fun x => Sum.inr (x, h)) (cc_runAt2 hR hI ht).2, (show v_M_runs (am_si m 0 8 0) (nI t) (1 + nI 2 - 2) = _ by rw [r1]; exact (mm_runs1 hm0 hI ht).2), hK.rf⟩
          | 3, _ => exact ⟨_, _, congrArg (fun x => Sum.inr (x, h)) (cc_runAt3 hR hI ht).2, (show v_M_runs (am_si m 0 8 0) (nI t) (1 + nI 3 - 2) = _ by rw [r2]; exact (mm_runs2 hm0 hI ht).2), hK.rf⟩
          | 4, _ => exact ⟨_, _, congrArg (fun x => Sum.inr (x, (v_D_fewest (v_D_gather h (-1))).2)) (d4 t ht).2, (show v_M_deficit (am_si m 0 8 0) (nI t) (m.1 1 (am_ix 15)) = _ by rw [← hm0, h15]; exact hmd.2), d5⟩
          | v + 5, z => omega
        obtain ⟨q, H, k1, k2, k3⟩ := key
        rw [v_M_terminalOf, e2, if_neg one0, f2', if_neg one0, ea, eb, k1, k2]
        exact ⟨th8 m 0, rfl, n, (hr.th 0).look k3 mk.rf (fun _ _ => rfl)⟩
    · have f1' : v_B_checkRange h b 0 4 = some xA := f1
      have f2' : v_M_in (am_si m 0 8 0) b 0 4 = 0 := f2 _
      refine ⟨⟨in01 _ _ _ _, fun _ => trivial, fun _ => ⟨fun _ => trivial, fun z => absurd f2' z⟩⟩, ?_⟩
      rw [v_B_terminalOf, e1, f1', v_M_terminalOf, e2, if_neg one0, f2', if_pos rfl]
      exact Bo.thr hr (.tail _ (.head _))
  · refine ⟨fun z => (nomatch (e1.symm.trans z)), ⟨in01 _ _ _ _, fun _ => trivial, fun z => absurd (e2 _) z⟩, ?_⟩
    rw [v_B_terminalOf, e1, v_M_terminalOf, e2, if_pos rfl]
    exact Bo.thr hr (.head _)
