/-! PURE: the search for the best time, class and model side by side. -/
theorem EvS.fr {h h' : HP} {A : Nat → Nat} {s : Nat} (hE : EvS h A s) (d : dF h h') : EvS h' A s :=
  ⟨(d.2 4 (by omega)).trans hE.1, fun i hi => by rw [d.1 13 (by omega) (by omega) (by omega)]; exact hE.2.1 i hi, hE.2.2⟩
/-- the search for the best time, side by side -/
theorem best_loop {h m G : HP} {T : Nat → Int32} {n k w : Nat} (hI : Inv T n) (hk : k < n) (hr : isr T k = true) (hw : w ≤ 120) (hm : m.1 1 = T) (y2 : Int32 × HP) {A : Nat → Nat} {s : Nat}
    (hR : RT h.1 0 T n) (hG : ∀ c, c ≠ 12 → c ≠ 13 → G.1 c = h.1 c) (hE : EvS y2.2 A s) (hq : ∀ q : Nat → Bool, cn (fun i => q (A i)) s = evn T (some k) q n) (hy : ∀ c, c ≠ 12 → c ≠ 13 → c ≠ 14 → c ≠ 15 → y2.2.1 c = h.1 c) (le : Int32) :
    itrp (s_B_bestTime_114 h (nI k) (nI w) G y2) (ps_B_bestTime_114 h (nI k) (nI w) G y2) NF (nI (Dp T k), le, 1, y2.2) ∧ itrp (s_M_best_26 m (nI k) (nI w)) (ps_M_best_26 m (nI k) (nI w)) NF (nI (Dp T k), le, 1, m) ∧
    ∃ r q, itr (s_B_bestTime_114 h (nI k) (nI w) G y2) NF (nI (Dp T k), le, 1, y2.2) = some r ∧ itr (s_M_best_26 m (nI k) (nI w)) NF (nI (Dp T k), le, 1, m) = some q ∧ r.1 = q.1 ∧ (∀ c, c ≠ 12 → c ≠ 13 → c ≠ 14 → c ≠ 15 → r.2.2.2.1 c = h.1 c) ∧ (∃ x, q.2.2.2.1 1 = upd T (16 + 7 * k + 3) x) ∧ (∀ c, c ≠ 1 → q.2.2.2.1 c = m.1 c) := by
  have h20 := hI.n20
  have hRG : RT G.1 0 T n := hR.congr (fun j hj => hG _ (by omega) (by omega))
  have c1 := cc_rt hRG hI hk
  have c2 := cc_fr hRG hI hk
  have c3 := cc_go hRG hI hk
  have c4 := cc_dep hRG hI hk
  have c5 := cc_len hRG hI hk
  have d3 : v_M_of m (nI k) 3 = nI (Dp T k) := (mm_dp hm hI hk).2
  have e2w : (2 : Int32) * nI w = nI (2 * w) := by rw [show (2 : Int32) = nI 2 from rfl, nI_mul]
  refine itr_relN (s₁ := s_B_bestTime_114 h (nI k) (nI w) G y2) (s₂ := s_M_best_26 m (nI k) (nI w)) (p₁ := ps_B_bestTime_114 h (nI k) (nI w) G y2) (p₂ := ps_M_best_26 m (nI k) (nI w))
    (fun v u => ∃ i bb le H M, v = (bb, le, nI i, H) ∧ u = (bb, le, nI i, M) ∧ i ≤ 2 * w + 1 ∧ (∀ c, c ≠ 12 → c ≠ 13 → c ≠ 14 → c ≠ 15 → H.1 c = h.1 c) ∧ EvS H A s ∧ (∃ x, M.1 1 = upd T (16 + 7 * k + 3) x) ∧ (∀ c, c ≠ 1 → M.1 c = m.1 c))
    (fun v _ => 2 * w + 1 - am_ix v.2.2.1)
    (fun r q => r.1 = q.1 ∧ (∀ c, c ≠ 12 → c ≠ 13 → c ≠ 14 → c ≠ 15 → r.2.2.2.1 c = h.1 c) ∧ (∃ x, q.2.2.2.1 1 = upd T (16 + 7 * k + 3) x) ∧ (∀ c, c ≠ 1 → q.2.2.2.1 c = m.1 c))
    _ _ (by show 2 * w + 1 - _ < 100000; omega) ⟨1, _, _, _, _, rfl, rfl, by omega, hy, hE, ⟨nI (Dp T k), by rw [hm]; exact (upd_id (hI.dp hk).1).symm⟩, fun _ _ => rfl⟩ ?_
  rintro v u ⟨i, bb, le, H, M, rfl, rfl, hi1, hH, hEH, ⟨x0, hx0⟩, hM⟩
  obtain ⟨X, hX⟩ : ∃ X, (if nI i - nI i / 2 * 2 = 1 then nI (Dp T k) - (nI i + 1) / 2 else nI (Dp T k) + nI i / 2) = X := ⟨_, rfl⟩
  obtain ⟨M', hM'⟩ : ∃ M', v_M_becomes M (nI k) 3 X = M' := ⟨_, rfl⟩
  have hM'2 : M' = am_si M 1 (16 + 7 * k + 3) X := by rw [← hM']; exact vm_becomes M (w := 3) (by omega) (by omega) X
  have hrow : M'.1 1 = upd T (16 + 7 * k + 3) X := by
    rw [hM'2, si1, hx0]; funext j; rw [upd_at, upd_at, upd_at]; split <;> rfl
  have hMf : ∀ c, c ≠ 1 → M'.1 c = m.1 c := fun c hc => by rw [hM'2, am_si_ne hc]; exact hM c hc
  have hs1 : s_B_bestTime_114 h (nI k) (nI w) G y2 (bb, le, nI i, H) = if nI i ≤ nI (2 * w) then (if X < 0 then .inl (bb, le, nI i + 1, H) else (if X ≤ 1439 then .inl ((if (v_D_fewestWith H (nI (Rt T k)) (nI (Fr T k)) (nI (Go T k)) X (nI (Ln T k))).1 < le then X else bb), v_min le (v_D_fewestWith H (nI (Rt T k)) (nI (Fr T k)) (nI (Go T k)) X (nI (Ln T k))).1, nI i + 1, (v_D_fewestWith H (nI (Rt T k)) (nI (Fr T k)) (nI (Go T k)) X (nI (Ln T k))).2) else .inl (bb, le, nI i + 1, H))) else .inr (bb, le, nI i, H) := by
    unfold s_B_bestTime_114
    dsimp only [bnd]
    rw [c1, c2, c3, c4, c5, e2w, hX]
  have hs2 : s_M_best_26 m (nI k) (nI w) (bb, le, nI i, M) = if nI i ≤ nI (2 * w) then .inl ((if (if v_M_in M' X 0 1439 = 0 then le else v_M_byDeficits M' (M'.1 1 (am_ix 15))) < le then X else bb), (if (if v_M_in M' X 0 1439 = 0 then le else v_M_byDeficits M' (M'.1 1 (am_ix 15))) < le then (if v_M_in M' X 0 1439 = 0 then le else v_M_byDeficits M' (M'.1 1 (am_ix 15))) else le), nI i + 1, M') else .inr (bb, le, nI i, M) := by
    unfold s_M_best_26
    dsimp only [bnd]
    rw [d3, e2w, hX, hM']
  have hp1 : (X < 0 → True) ∧ (¬ X < 0 → ((X ≤ 1439 → p_D_fewestWith H (nI (Rt T k)) (nI (Fr T k)) (nI (Go T k)) X (nI (Ln T k))) ∧ (¬ X ≤ 1439 → True))) → ps_B_bestTime_114 h (nI k) (nI w) G y2 (bb, le, nI i, H) := by
    intro z
    unfold ps_B_bestTime_114
    dsimp only
    rw [c1, c2, c3, c4, c5, e2w, hX]
    exact ⟨fun _ => z, fun _ => trivial⟩
  have hp2 : (¬ v_M_in M' X 0 1439 = 0 → p_M_byDeficits M' (M'.1 1 (am_ix 15))) → ps_M_best_26 m (nI k) (nI w) (bb, le, nI i, M) := by
    intro z
    unfold ps_M_best_26
    dsimp only
    rw [d3, e2w, hX]
    refine ⟨fun _ => ⟨pm_becomes _ (w := 3) (by omega) (by omega) _, fun y hy => ?_⟩, fun _ => trivial⟩
    rw [hM'] at hy
    subst hy
    exact ⟨fun _ => trivial, z⟩
  have hRH : RT H.1 0 T n := hR.congr (fun j hj => hH _ (by omega) (by omega) (by omega) (by omega))
  by_cases hi : i ≤ 2 * w
  · have hle : nI i ≤ nI (2 * w) := (nI_lei (by omega) (by omega)).mpr hi
    have hmeas : 2 * w + 1 - am_ix (nI (i + 1)) < 2 * w + 1 - am_ix (nI i) := by rw [nI_ix (by omega), nI_ix (by omega)]; omega
    rw [hs1, hs2, if_pos hle, if_pos hle, nI_1]
    rcases ran_cases (lo := 0) (hi := 1439) (by omega) (by omega) X with ⟨d, _, hd, eX, g1, g2⟩ | g
    · have g1' : ¬ X < 0 := g1
      have g2' : X ≤ 1439 := g2
      have gin : v_M_in M' X 0 1439 = 1 := by rw [v_M_in, if_neg g1', if_pos g2']
      obtain ⟨w1, w2, w3⟩ := cc_at hI hk hr hd hRH hEH hq (h := H)
      have hrow' : M'.1 1 = atT T k d := by rw [hrow, eX]; rfl
      have y15 : M'.1 1 (am_ix 15) = nI n := by rw [hrow, ix15, upd_ne (by omega), hI.t15]
      obtain ⟨z1, z2⟩ := mi_by hrow' (at_IB hI hd)
      have z3 : v_M_byDeficits M' (nI n) = nI (dfA T n k d) := z2
      refine ⟨hp1 ⟨fun _ => trivial, fun _ => ⟨fun _ => by rw [eX]; exact w1, fun _ => trivial⟩⟩, hp2 (fun _ => by rw [y15]; exact z1), .inl ?_⟩
      rw [if_neg g1', if_pos g2', gin, if_neg one0, y15, z3, eX, w2, min_lt]
      exact ⟨_, _, rfl, rfl, ⟨i + 1, _, _, _, _, rfl, rfl, by omega, fun c q1 q2 q3 q4 => by rw [w3.1 c q1 q3 q4]; exact hH c q1 q2 q3 q4, hEH.fr w3, ⟨X, hrow⟩, hMf⟩, hmeas⟩
    · have gin : v_M_in M' X 0 1439 = 0 := by
        rw [v_M_in]
        by_cases g1 : X < 0
        · rw [if_pos g1]
        · rw [if_neg g1, if_neg (show ¬ X ≤ 1439 from g.resolve_left g1)]
      have hcl : (if X < 0 then (Sum.inl (bb, le, nI (i + 1), H) : (Int32 × Int32 × Int32 × HP) ⊕ (Int32 × Int32 × Int32 × HP)) else (if X ≤ 1439 then .inl ((if (v_D_fewestWith H (nI (Rt T k)) (nI (Fr T k)) (nI (Go T k)) X (nI (Ln T k))).1 < le then X else bb), v_min le (v_D_fewestWith H (nI (Rt T k)) (nI (Fr T k)) (nI (Go T k)) X (nI (Ln T k))).1, nI (i + 1), (v_D_fewestWith H (nI (Rt T k)) (nI (Fr T k)) (nI (Go T k)) X (nI (Ln T k))).2) else .inl (bb, le, nI (i + 1), H))) = .inl (bb, le, nI (i + 1), H) := by
        by_cases g1 : X < 0
        · rw [if_pos g1]
        · rw [if_neg g1, if_neg (show ¬ X ≤ 1439 from g.resolve_left g1)]
      refine ⟨hp1 ⟨fun _ => trivial, fun g1 => ⟨fun g2 => absurd g2 (g.resolve_left g1), fun _ => trivial⟩⟩, hp2 (fun z => absurd gin z), .inl ?_⟩
      rw [hcl, gin, if_pos rfl, if_neg (lt_irr le), if_neg (lt_irr le)]
      exact ⟨_, _, rfl, rfl, ⟨i + 1, _, _, _, _, rfl, rfl, by omega, hH, hEH, ⟨X, hrow⟩, hMf⟩, hmeas⟩
  · have hle : ¬ nI i ≤ nI (2 * w) := fun z => hi ((nI_lei (by omega) (by omega)).mp z)
    have q1 : ps_B_bestTime_114 h (nI k) (nI w) G y2 (bb, le, nI i, H) := by
      unfold ps_B_bestTime_114
      dsimp only
      rw [e2w]
      exact ⟨fun z => absurd z hle, fun _ => trivial⟩
    have q2 : ps_M_best_26 m (nI k) (nI w) (bb, le, nI i, M) := by
      unfold ps_M_best_26
      dsimp only
      rw [e2w]
      exact ⟨fun z => absurd z hle, fun _ => trivial⟩
    rw [hs1, hs2, if_neg hle, if_neg hle]
    exact ⟨q1, q2, .inr ⟨_, _, rfl, rfl, rfl, hH, ⟨x0, hx0⟩, hM⟩⟩
theorem bestTime_both {n : Nat} {h m : HP} (hr : RR n h m) (a b : Int32) : p_B_bestTime h a b ∧ p_M_bestTime m a b ∧ Bo [(xI, 1), (xA, 2), (xS, 3)] h (v_B_bestTime h a b) (v_M_bestTime m a b) := by
  have hm0 : (am_si m 0 8 0).1 1 = m.1 1 := am_si_ne (by omega)
  have h20 := hr.2.1.n20
  have hR := hr.1
  have hI := hr.2.1
  rcases trip_cases hr.1 hr.2.1 a with ⟨k, hk, ea, e1, e2⟩ | ⟨e1, e2⟩
  · have hn := mm_isRun hm0 hI hk
    have hc := cc_isRun hR hI hk
    rcases rng_cases (lo := 0) (hi := 120) (by omega) (by omega) h b with ⟨w, _, hw, eb, f1, f2⟩ | ⟨f1, f2⟩
    · have f1' : v_B_checkRange h b 0 120 = none := f1
      have f2' : v_M_in (am_si m 0 8 0) b 0 120 = 1 := f2 _
      cases en : isr (m.1 1) k with
      | false =>
        have z : v_B_checkRun h (nI k) = some xS := by rw [v_B_checkRun, hc, en, if_pos (show b01 false = 0 from rfl)]; rfl
        have zm : v_M_isRun (am_si m 0 8 0) (nI k) = 0 := by rw [hn.2, en]; rfl
        refine ⟨fun _ _ y => (by rw [ea, z] at y; cases y), ⟨pm_trip _ _, fun _ => trivial, fun _ => ⟨fun _ => trivial, fun _ => ⟨by rw [ea]; exact hn.1, fun _ => trivial, fun y => by rw [ea] at y; exact absurd zm y⟩⟩⟩, ?_⟩
        have hcv : v_B_bestTime h a b = .inl xS := by
          rw [v_B_bestTime, e1, f1', ea]
          show (match v_B_checkRun h (nI k) with | some E => _ | none => _) = _
          rw [z]
        rw [hcv, v_M_bestTime, e2 _ hm0, if_neg one0, f2', if_neg one0, ea, zm, if_pos rfl]
        exact Bo.thr hr (.tail _ (.tail _ (.head _)))
      | true =>
        have z : v_B_checkRun h (nI k) = none := by rw [v_B_checkRun, hc, en, if_neg (show ¬ b01 true = 0 from one0)]
        have zm : ¬ v_M_isRun (am_si m 0 8 0) (nI k) = 0 := by rw [hn.2, en]; exact one0
        obtain ⟨g1, A, s, hE, h2n, hq, hf, -⟩ := cc_gather hR hI (some k) (okO_some hk)
        have hE' : EvS (v_D_gather h (nI k)) A s := hE
        have hf' : ∀ c, c ≠ 12 → c ≠ 13 → (v_D_gather h (nI k)).1 c = h.1 c := hf
        have g1' : p_D_gather h (nI k) := g1
        obtain ⟨G, hG⟩ : ∃ G, v_D_gather h (nI k) = G := ⟨_, rfl⟩
        rw [hG] at hE' hf'
        have hRG : RT G.1 0 (m.1 1) n := hR.congr (fun j hj => hf' _ (by omega) (by omega))
        have c1 := cc_rt hRG hI hk
        have c2 := cc_fr hRG hI hk
        have c3 := cc_go hRG hI hk
        have c4 := cc_dep hRG hI hk
        have c5 := cc_len hRG hI hk
        have hdp : Dp (m.1 1) k ≤ 1439 := (hI.dp hk).2
        obtain ⟨w1, w2, w3⟩ := cc_at hI hk en hdp hRG hE' hq (h := h)
        obtain ⟨y2, hy2⟩ : ∃ y2, v_D_fewestWith G (nI (Rt (m.1 1) k)) (nI (Fr (m.1 1) k)) (nI (Go (m.1 1) k)) (nI (Dp (m.1 1) k)) (nI (Ln (m.1 1) k)) = y2 := ⟨_, rfl⟩
        rw [hy2] at w2 w3
        obtain ⟨l1, l2, r, q, l3, l4, l5, l6, ⟨x, l7⟩, l8⟩ := best_loop (m := am_si m 0 8 0) hI hk en hw hm0 y2 hR hf' (hE'.fr w3) hq (fun c q1 q2 q3 q4 => by rw [w3.1 c q1 q3 q4]; exact hf' c q1 q2) (nI (dfA (m.1 1) n k (Dp (m.1 1) k)))
        have e15 : (am_si m 0 8 0).1 1 (am_ix 15) = nI n := mm_tr hm0 hI
        obtain ⟨u1, u2⟩ := mi_by hm0 hI.IB
        have u3 : v_M_byDeficits (am_si m 0 8 0) (nI n) = nI (dfA (m.1 1) n k (Dp (m.1 1) k)) := by
          rw [u2]; unfold dfA; rw [at_id hI hk]
        have d3 := mm_dp hm0 hI hk
        have hby : v_M_becomes q.2.2.2 (nI k) 3 (nI (Dp (m.1 1) k)) = am_si q.2.2.2 1 (16 + 7 * k + 3) (nI (Dp (m.1 1) k)) := vm_becomes _ (w := 3) (by omega) (by omega) _
        refine ⟨fun _ _ _ => ?_, ⟨pm_trip _ _, fun _ => trivial, fun _ => ⟨fun _ => trivial, fun _ => ⟨by rw [ea]; exact hn.1, fun _ => trivial, fun _ => ?_⟩⟩⟩, ?_⟩
        · rw [ea, eb, hG]
          refine ⟨g1', fun y hy => ?_⟩
          subst hy
          rw [c1, c2, c3, c4, c5]
          refine ⟨w1, fun y hy => ?_⟩
          rw [hy2] at hy
          subst hy
          rw [w2]
          exact l1
        · rw [ea, eb]
          refine ⟨d3.1, by rw [e15]; exact u1, ?_⟩
          rw [d3.2, e15, u3]
          exact ⟨l2, fun r1 _ => pm_becomes _ (w := 3) (by omega) (by omega) _⟩
        · have hcv : v_B_bestTime h a b = .inr (r.1, r.2.2.2) := by
            rw [v_B_bestTime, e1, f1', ea, eb]
            show (match v_B_checkRun h (nI k) with | some E => _ | none => (match itr (s_B_bestTime_114 h (nI k) (nI w) (v_D_gather h (nI k)) (v_D_fewestWith (v_D_gather h (nI k)) (v_at 20 ((v_D_gather h (nI k)).1 1) (nI k)) (v_at 20 ((v_D_gather h (nI k)).1 2) (nI k)) (v_at 20 ((v_D_gather h (nI k)).1 3) (nI k)) (v_at 20 ((v_D_gather h (nI k)).1 4) (nI k)) (v_at 20 ((v_D_gather h (nI k)).1 5) (nI k)))) NF ((v_at 20 ((v_D_gather h (nI k)).1 4) (nI k)), (v_D_fewestWith (v_D_gather h (nI k)) (v_at 20 ((v_D_gather h (nI k)).1 1) (nI k)) (v_at 20 ((v_D_gather h (nI k)).1 2) (nI k)) (v_at 20 ((v_D_gather h (nI k)).1 3) (nI k)) (v_at 20 ((v_D_gather h (nI k)).1 4) (nI k)) (v_at 20 ((v_D_gather h (nI k)).1 5) (nI k))).1, 1, (v_D_fewestWith (v_D_gather h (nI k)) (v_at 20 ((v_D_gather h (nI k)).1 1) (nI k)) (v_at 20 ((v_D_gather h (nI k)).1 2) (nI k)) (v_at 20 ((v_D_gather h (nI k)).1 3) (nI k)) (v_at 20 ((v_D_gather h (nI k)).1 4) (nI k)) (v_at 20 ((v_D_gather h (nI k)).1 5) (nI k))).2) with | some r3 => (Sum.inr (r3.1, r3.2.2.2)) | none => Sum.inr (0, h))) = _
            rw [z, hG, c1, c2, c3, c4, c5, hy2, w2, l3]
          have hmv : v_M_bestTime m a b = (q.1, am_si q.2.2.2 1 (16 + 7 * k + 3) (nI (Dp (m.1 1) k))) := by
            rw [v_M_bestTime, e2 _ hm0, if_neg one0, f2', if_neg one0, ea, if_neg zm, eb]
            show ((v_M_best (am_si m 0 8 0) (nI k) (nI w)).1, (v_M_best (am_si m 0 8 0) (nI k) (nI w)).2) = _
            have hb : v_M_best (am_si m 0 8 0) (nI k) (nI w) = (q.1, am_si q.2.2.2 1 (16 + 7 * k + 3) (nI (Dp (m.1 1) k))) := by
              rw [v_M_best, d3.2, e15, u3, l4]
              show (q.1, v_M_becomes q.2.2.2 (nI k) 3 (nI (Dp (m.1 1) k))) = _
              rw [hby]
            rw [hb]
          rw [hcv, hmv]
          refine ⟨?_, l5.symm, n, (hr.th 0).look ⟨fun c hc' => l6 c (by omega) (by omega) (by omega) (by omega), by rw [l6 18 (by omega) (by omega) (by omega) (by omega)]⟩ (mk_of (fun c _ _ _ h1 => by rw [am_si_ne h1, l8 c h1])) (fun i hi => ?_)⟩
          · show (am_si q.2.2.2 1 _ _).1 0 8 = 0
            rw [am_si_ne (by omega), l8 0 (by omega), th8]
          · rw [si1, l7, upd_at, upd_at, hm0]
            by_cases ei : i = 16 + 7 * k + 3
            · rw [if_pos ei, ei]; exact (hI.dp hk).1.symm
            · rw [if_neg ei, if_neg ei]
    · have f1' : v_B_checkRange h b 0 120 = some xA := f1
      have f2' : v_M_in (am_si m 0 8 0) b 0 120 = 0 := f2 _
      refine ⟨fun _ y => (nomatch (f1'.symm.trans y)), ⟨pm_trip _ _, fun _ => trivial, fun _ => ⟨fun _ => trivial, fun y => absurd f2' y⟩⟩, ?_⟩
      rw [v_B_bestTime, e1, f1', v_M_bestTime, e2 _ hm0, if_neg one0, f2', if_pos rfl]
      exact Bo.thr hr (.tail _ (.head _))
  · refine ⟨fun y => (nomatch (e1.symm.trans y)), ⟨pm_trip _ _, fun _ => trivial, fun y => absurd (e2 _ hm0) y⟩, ?_⟩
    rw [v_B_bestTime, e1, v_M_bestTime, e2 _ hm0, if_pos rfl]
    exact Bo.thr hr (.head _)
