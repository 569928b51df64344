/-! PURE: looks, class and model side by side: terminals, counts. -/
theorem Inv.IB {T : Nat → Int32} {n : Nat} (hI : Inv T n) : _root_.Jvm.Pilot.@@N@@.IB T n := ⟨by have := hI.n20; omega, fun k hk => hI.2.1 k hk, fun i hi => hI.lay hi, hI.s0⟩
theorem evn_evM (T : Nat → Int32) (q : Nat → Bool) (n : Nat) : evn T none q n = evM T n q := by
  unfold evn evM
  refine sn_congr (fun k _ => ?_)
  by_cases e : isr T k = true
  · rw [if_pos ⟨e, fun z => nomatch z⟩, if_pos e]
  · rw [if_neg (fun z => e z.1), if_neg e]
/-- the deficits of the timetable that is now -/
theorem cc_deficits {h : HP} {T : Nat → Int32} {n : Nat} (hR : RT h.1 0 T n) (hI : Inv T n) : p_D_gather h (-1) ∧ p_D_fewest (v_D_gather h (-1)) ∧ (v_D_fewest (v_D_gather h (-1))).1 = nI (sn (dfc T n) 4) ∧
    (∀ t, t < 4 → p_D_deficitOf (v_D_fewest (v_D_gather h (-1))).2 (nI t) ∧ v_D_deficitOf (v_D_fewest (v_D_gather h (-1))).2 (nI t) = nI (dfc T n t)) ∧ hK h (v_D_fewest (v_D_gather h (-1))).2 := by
  obtain ⟨g1, A, s, hE, h2n, hq, hf, -⟩ := cc_gather hR hI none okO_none
  have hE' : EvS (v_D_gather h (-1)) A s := hE
  obtain ⟨f1, f2, f3, f4, f5⟩ := cc_fewest hE'
  have hq' : ∀ q : Nat → Bool, cn (fun i => q (A i)) s = evM T n q := fun q => (hq q).trans (evn_evM T q n)
  refine ⟨g1, f1, ?_, fun t ht => ?_, fun c hc => ?_, ?_⟩
  · rw [f2, sw_sum hI.IB hE'.2.2.1 hq']
  · obtain ⟨k1, k2⟩ := cc_deficitOf f3 ht
    exact ⟨k1, by rw [k2, sw_all hI.IB hE'.2.2.1 hq' ht]⟩
  · rw [f4 c (by omega) (by omega) (by omega)]; exact hf c (by omega) (by omega)
  · rw [f4 18 (by omega) (by omega) (by omega)]; exact congrFun (hf 18 (by omega) (by omega)) 2