/-! PURE: load, class and model side by side. -/
theorem load_both {n : Nat} {h m : HP} (hr : RR n h m) : p_B_load h ∧ p_M_load m ∧ Bo2 [(xA, 1), (xS, 2)] (v_B_load h) (v_M_load m) := by
  obtain ⟨L, s, hL, hs, t1, t2, t3⟩ := hr.2.2.2.2.1.txt
  obtain ⟨a1, a2, a3⟩ := cx_whole hL hs t1
  obtain ⟨b1, b2, b3, j, q', b4, b5, b7, b6⟩ := ms_whole hL hs (M := am_si m 0 8 0) (by rw [am_si1, if_neg (by omega)]; exact t2) (fun k hk => by rw [am_si_ne (by omega)]; exact t3 k hk)
  obtain ⟨w, hw⟩ : ∃ w, v_M_isWhole (am_si m 0 8 0) = w := ⟨_, rfl⟩
  rw [hw] at b2 b3 b4 b6
  obtain ⟨y1, hy⟩ : ∃ y1, v_X_isWhole h = y1 := ⟨_, rfl⟩
  rw [hy] at a2 a3
  have rr1 : RR n y1.2 w.2 := (hr.th 0).look a2 b2.1 (fun i _ => by rw [b2.2.1])
  have w8 : w.2.1 0 8 = 0 := by rw [b2.2.2]; exact th8 _ _
  have h20 := hr.2.1.n20
  rcases b6 with ⟨c1, c2, c3⟩ | ⟨c1, c2, c3⟩
  · have hrd := Wh.rd c3
    have hjn := Wh.jn c3
    rw [Nat.sub_zero, Nat.zero_add] at hrd
    rw [Nat.sub_zero] at hjn
    rw [Nat.sub_zero] at c3
    have hq : q' = jn s L := by unfold jn; rw [sn, Nat.zero_add, Nat.zero_add] at hjn; omega
    have e1 : y1.1 = 1 := by rw [a3, show Nat.beq (rd s L 0 0 f0).1 L = true from Nat.beq_eq.mpr hrd.1, hrd.2]; rfl
    obtain ⟨j1, j2⟩ := cx_journeys hL hs (t1.k a2)
    rw [← hq] at j2
    have e11 : y1.2.1 0 11 + v_X_journeys y1.2 = nI (n + q') := by rw [j2, show y1.2.1 0 11 = nI n from rr1.1.nn, nI_add]
    have e15 : w.2.1 1 (am_ix 15) + w.2.1 0 14 = nI (n + q') := by rw [b4.2.1, ix15, rr1.2.1.t15, nI_add]
    have hle : nI (n + q') ≤ 20 ↔ n + q' ≤ 20 := nI_lei (b := 20) (by omega) (by omega)
    obtain ⟨s1, s2, s3, s4, s5, s6, s7⟩ := RR_save rr1
    obtain ⟨y2, hy2⟩ : ∃ y2, v_B_save y1.2 = y2 := ⟨_, rfl⟩
    obtain ⟨m2, hm2⟩ : ∃ m2, v_M_saves w.2 = m2 := ⟨_, rfl⟩
    have mq : (∀ c, c ≠ 0 → c ≠ 3 → m2.1 c = w.2.1 c) ∧ ∀ k, k ≠ 3 → m2.1 0 k = w.2.1 0 k := by
      obtain ⟨-, -, ⟨s', o', q1, q2, q3, q4, q5, q6⟩, -⟩ := rr1
      obtain ⟨-, -, z1, z2, -⟩ := mm_saves q1 q5
      rw [hm2] at z1 z2
      exact ⟨z1, z2⟩
    rw [hy2, hm2] at s3
    rw [hy2] at s4
    rw [hm2] at s5 s6
    obtain ⟨w1, w2⟩ := Wh.rg c3
    have hrg : ∀ x, x < q' → Rg (m2.1 9) x := fun x hx => by rw [mq.1 9 (by omega) (by omega)]; exact w2 x (by omega) hx
    have hwh : Wh s (m2.1 9) L 0 0 f0 0 q' := by rw [mq.1 9 (by omega) (by omega)]; exact c3
    obtain ⟨g1, g2⟩ := cx_begin y2
    have ty2 : TX y2 L s := ⟨by rw [s4 18 (by omega)]; exact (t1.k a2).1, fun i hi => by rw [s4 19 (by omega)]; exact (t1.k a2).2 i hi⟩
    have key : n + q' ≤ 20 → p_X_addTo_0 y2 ∧ (itrp (s_M_load_47 m w m2) (ps_M_load_47 m w m2) NF (0, m2)) ∧ ∃ H M, v_X_addTo_0 y2 = H ∧ itr (s_M_load_47 m w m2) NF (0, m2) = some (nI (5 * q'), M) ∧ RR (n + q') H M ∧ M.1 0 8 = 0 := fun hn => by
      obtain ⟨x1, H', x2, x3, p', f', q2, x4, x5, x6, x7⟩ := cx_addTo hL hs y2 (v_X_beginJourney y2) s3.2.1 hrg hn NF L 0 0 0 f0 (v_X_beginJourney y2) (by omega) (by rw [NF_eq]; omega) g1 XO.z (ty2.k g2) (g2.RT s3.1) hwh
      obtain ⟨k1, k2⟩ := cx_add s3.2.1 hrg hn (q := q2) (by omega) x6 x4 x7
      rw [x5] at k1
      obtain ⟨z1, M', z2, z3, z4⟩ := mm_load m w m2 s3.2.1 hrg hn b7 NF q' 0 m2 (by omega) (by rw [NF_eq]; omega) rfl (by rw [mq.2 14 (by omega)]; exact b4.2.1) rfl
      refine ⟨fun y hy' => by subst hy'; exact x1, z1, v_X_addJourney_0 H', M', ?_, z2, s3.put ((g2.k.tr x3).tr ⟨fun c hc => k2 c (by omega), by rw [k2 18 (by omega)]⟩) ⟨z4 3 (by omega), z4 4 (by omega), z4 5 (by omega), z4 6 (by omega), by rw [z4 0 (by omega)], by rw [z4 0 (by omega)]⟩ (by rw [z3]; exact k1) (by rw [z3]; exact TT.inv s3.2.1 hrg hn (Nat.le_refl _)), by rw [z4 0 (by omega), mq.2 8 (by omega)]; exact w8⟩
      show (match itr (s_X_addTo_0_6 y2 (v_X_beginJourney y2)) NF (0, v_X_beginJourney y2) with | some r2 => v_X_addJourney_0 r2.2 | none => y2) = _
      rw [show ((0 : Int32), v_X_beginJourney y2) = (nI 0, v_X_beginJourney y2) from rfl, x2]
    refine ⟨⟨a1, fun y hy' => ⟨fun _ => trivial, fun _ => ?_⟩⟩, ⟨b1, fun y hy' => ⟨fun _ => trivial, fun _ => ⟨fun hn => ?_, fun _ => trivial⟩⟩⟩, ?_⟩
    · have : y1 = y := hy.symm.trans hy'
      subst this
      refine ⟨j1, fun hn => ⟨s1, fun y' hy'' => ?_⟩, fun _ => trivial⟩
      have : y2 = y' := hy2.symm.trans hy''
      subst this
      rw [e11] at hn
      exact (key (hle.mp hn)).1
    · have : w = y := hw.symm.trans hy'
      subst this
      rw [e15] at hn
      refine ⟨s2, fun y' hy'' => ?_⟩
      have : m2 = y' := hm2.symm.trans hy''
      subst this
      exact (key (hle.mp hn)).2.1
    · by_cases hn : n + q' ≤ 20
      · obtain ⟨-, -, H, M, k1, k2, k3, k4⟩ := key hn
        have hcv : v_B_load h = .inr (H.1 0 11, am_si H 18 2 0) := by
          show (if (v_X_isWhole h).1 = 0 then _ else (if (v_X_isWhole h).2.1 0 11 + v_X_journeys (v_X_isWhole h).2 ≤ 20 then Sum.inr ((v_X_addTo_0 (v_B_save (v_X_isWhole h).2)).1 0 11, am_si (v_X_addTo_0 (v_B_save (v_X_isWhole h).2)) 18 2 0) else _)) = _
          rw [hy, if_neg (by rw [e1]; exact one0), e11, if_pos (hle.mpr hn), hy2, k1]
        have hmv : v_M_load m = ((am_si M 0 7 0).1 1 (am_ix 15), am_si M 0 7 0) := by
          show (if (v_M_isWhole (am_si m 0 8 0)).1 = 0 then _ else (if (v_M_isWhole (am_si m 0 8 0)).2.1 1 (am_ix 15) + (v_M_isWhole (am_si m 0 8 0)).2.1 0 14 ≤ 20 then (match itr (s_M_load_47 m (v_M_isWhole (am_si m 0 8 0)) (v_M_saves (v_M_isWhole (am_si m 0 8 0)).2)) NF (0, v_M_saves (v_M_isWhole (am_si m 0 8 0)).2) with | some r3 => ((am_si r3.2 0 7 0).1 1 (am_ix 15), am_si r3.2 0 7 0) | none => (0, m)) else _)) = _
          rw [hw, if_neg (by rw [c1]; exact one0), e15, if_pos (hle.mpr hn), hm2, k2]
        rw [hcv, hmv]
        obtain ⟨-, -, n', z⟩ := clearBuffer_both k3
        have z' : RR n' (am_si H 18 2 0) (am_si (am_si M 0 8 0) 0 7 0) := z
        rw [si_self k4] at z'
        refine ⟨?_, ?_, n', z'⟩
        · show (am_si M 0 7 0).1 0 8 = 0
          rw [am_si1, if_neg (by omega)]; exact k4
        · show (am_si M 0 7 0).1 1 (am_ix 15) = H.1 0 11
          rw [am_si_ne (by omega), ix15, k3.2.1.t15]; exact k3.1.nn.symm
      · have hcv : v_B_load h = .inl (xS, y1.2) := by
          show (if (v_X_isWhole h).1 = 0 then _ else (if (v_X_isWhole h).2.1 0 11 + v_X_journeys (v_X_isWhole h).2 ≤ 20 then _ else Sum.inl (xS, (v_X_isWhole h).2))) = _
          rw [hy, if_neg (by rw [e1]; exact one0), e11, if_neg (fun z => hn (hle.mp z))]
        have hmv : v_M_load m = (0, am_si w.2 0 8 2) := by
          show (if (v_M_isWhole (am_si m 0 8 0)).1 = 0 then _ else (if (v_M_isWhole (am_si m 0 8 0)).2.1 1 (am_ix 15) + (v_M_isWhole (am_si m 0 8 0)).2.1 0 14 ≤ 20 then _ else (0, am_si (v_M_isWhole (am_si m 0 8 0)).2 0 8 2))) = _
          rw [hw, if_neg (by rw [c1]; exact one0), e15, if_neg (fun z => hn (hle.mp z))]
        rw [hcv, hmv]
        exact ⟨by show (xS, (am_si w.2 0 8 2).1 0 8) ∈ _; rw [th8]; exact .tail _ (.head _), n, rr1.th 2⟩
  · rw [Nat.sub_zero] at c2 c3
    have e1 : y1.1 = 0 := by
      rw [a3]
      by_cases e : (rd s L 0 0 f0).1 = L
      · have : fi (rd s L 0 0 f0).2.1 (rd s L 0 0 f0).2.2 = false := Bool.eq_false_iff.mpr (fun z => c3 ⟨by omega, z⟩)
        rw [this, Bool.and_false]; rfl
      · rw [show Nat.beq (rd s L 0 0 f0).1 L = false from Bool.eq_false_iff.mpr (fun z => e (Nat.eq_of_beq_eq_true z))]; rfl
    refine ⟨⟨a1, fun y hy' => ⟨fun _ => trivial, fun z => absurd (by rw [← hy', hy]; exact e1) z⟩⟩, ⟨b1, fun y hy' => ⟨fun _ => trivial, fun z => absurd (by rw [← hy', hw]; exact c1) z⟩⟩, ?_⟩
    have hcv : v_B_load h = .inl (xA, y1.2) := by
      show (if (v_X_isWhole h).1 = 0 then Sum.inl (xA, (v_X_isWhole h).2) else _) = _
      rw [hy, if_pos e1]
    have hmv : v_M_load m = (0, am_si w.2 0 8 1) := by
      show (if (v_M_isWhole (am_si m 0 8 0)).1 = 0 then (0, am_si (v_M_isWhole (am_si m 0 8 0)).2 0 8 1) else _) = _
      rw [hw, if_pos c1]
    rw [hcv, hmv]
    exact ⟨by show (xA, (am_si w.2 0 8 1).1 0 8) ∈ _; rw [th8]; exact .head _, n, rr1.th 1⟩
