/-! PURE: a bus fails, in class and model. -/
theorem tw_lt {p : Nat → Bool} : ∀ (l : List Nat) (i x : Nat), i < (l.takeWhile p).length → l[i]? = some x → p x = true
  | [], i, x, h, _ => absurd h (Nat.not_lt_zero _)
  | a :: l, i, x, h, hx => by
    rw [List.takeWhile_cons] at h
    cases e : p a with
    | false => rw [e, if_neg ff] at h; exact absurd h (Nat.not_lt_zero _)
    | true =>
      rw [e, if_pos tr] at h
      match i, h, hx with
      | 0, _, hx => cases hx; exact e
      | i + 1, h, hx => exact tw_lt l i x (by have h' : i + 1 < (l.takeWhile p).length + 1 := h; omega) hx
theorem tw_at {p : Nat → Bool} : ∀ (l : List Nat) (x : Nat), l[(l.takeWhile p).length]? = some x → p x = false
  | [], x, h => nomatch h
  | a :: l, x, h => by
    rw [List.takeWhile_cons] at h
    cases e : p a with
    | false => rw [e, if_neg ff] at h; cases h; exact e
    | true => rw [e, if_pos tr] at h; exact tw_at l x h
theorem tw_len {p : Nat → Bool} : ∀ (l : List Nat), (l.takeWhile p).length ≤ l.length
  | [] => Nat.le_refl _
  | a :: l => by
    have := tw_len (p := p) l
    rw [List.takeWhile_cons]
    split
    · rw [List.length_cons, List.length_cons]; omega
    · exact Nat.zero_le _
/-- what is counted when a bus fails -/
def cntT (T : Nat → Int32) : Nat → Int32 := upd (upd T 13 (T 13 + 1)) 12 (nI (nT T 12 + if 0 < nT T 10 - nT T 12 then 1 else 0))
theorem cntT_ne {T : Nat → Int32} {i : Nat} (h1 : i ≠ 12) (h2 : i ≠ 13) : cntT T i = T i := by unfold cntT; rw [upd_ne h1, upd_ne h2]
theorem cntT_nx (T : Nat → Int32) : nx (cntT T) = nx T := funext fun q => nx_ag (cntT_ne (by omega) (by omega))
theorem Inv.cnt {T : Nat → Int32} {n : Nat} (hI : Inv T n) : Inv (cntT T) n := by
  have h1 := hI.us.2
  have h2 := hI.s2.2
  refine (hI.any (i := 13) (x := T 13 + 1) (Or.inl rfl)).low (i := 12) (by omega) (by split <;> omega) ⟨by omega, by omega, by omega, by omega, by omega, fun _ => ?_⟩
  split <;> omega
/-- the row when a bus has failed ahead of k -/
def failT (T : Nat → Int32) (n k : Nat) : Nat → Int32 := fT0 (cntT T) n k (lsl T k).length
section LBU
variable {h : HP} {T : Nat → Int32} {n : Nat}
theorem cc_loseBus (hR : RT h.1 0 T n) (hI : Inv T n) {k : Nat} (hk : k < n) : p_T_loseBus h (nI k) ∧ (v_T_loseBus h (nI k)).1 = nI (lsl T k).length ∧ RT (v_T_loseBus h (nI k)).2.1 0 (failT T n k) n ∧ (∀ c, 9 ≤ c → (v_T_loseBus h (nI k)).2.1 c = h.1 c) := by
  have h20 := hI.n20
  have u1 := hI.us
  have u2 := hI.s2.2
  have hL := cc_losses hR hI hk
  have hcs : ch (nx (cntT T)) k = ch (nx T) k := by rw [cntT_nx]
  have hlen : (lsl T k).length ≤ (ch (nx T) k).length := tw_len _
  have hlen20 := ch_n hI.fw hk
  let h1 := am_si (am_si h 0 13 (T 13 + 1)) 0 12 (nI (nT T 12 + if 0 < nT T 10 - nT T 12 then 1 else 0))
  have e1 : am_si (am_si h 0 13 (h.1 0 13 + 1)) 0 12 (h.1 0 12 + (if v_T_sparesLeft (am_si h 0 13 (h.1 0 13 + 1)) ≤ 0 then (0 : Int32) else 1)) = h1 := by
    have hR0 : RT (am_si h 0 13 (T 13 + 1)).1 0 (upd T 13 (T 13 + 1)) n := hR.up ⟨by omega, by omega, by omega, by omega⟩ (fun q hq => ⟨by omega, by omega, by omega, by omega, by omega, by omega, by omega, by omega, by omega⟩) (fun t ht => ⟨by omega, by omega, by omega⟩)
    have hs := cc_spares hR0 (hI.any (i := 13) (x := T 13 + 1) (Or.inl rfl))
    rw [nT_ne (by omega), nT_ne (by omega)] at hs
    rw [hR.fa, hs, hR.us, u1.1]
    show am_si _ 0 12 _ = am_si _ 0 12 _
    congr 1
    by_cases e : 0 < nT T 10 - nT T 12
    · rw [if_neg (nI_nle e (by omega)), if_pos e, nI_1]
    · rw [if_pos (by rw [show nT T 10 - nT T 12 = 0 by omega]; decide +kernel), if_neg e, Int32.add_zero]; rfl
  have hR1 : RT h1.1 0 (cntT T) n := by
    refine RT.up (RT.up hR ⟨by omega, by omega, by omega, by omega⟩ (fun q hq => ⟨by omega, by omega, by omega, by omega, by omega, by omega, by omega, by omega, by omega⟩) (fun t ht => ⟨by omega, by omega, by omega⟩)) ⟨by omega, by omega, by omega, by omega⟩ (fun q hq => ⟨by omega, by omega, by omega, by omega, by omega, by omega, by omega, by omega, by omega⟩) (fun t ht => ⟨by omega, by omega, by omega⟩)
  have hI1 := hI.cnt
  obtain ⟨a1, a2⟩ := cc_cutA hR1 hI1 hk
  obtain ⟨y1, hy⟩ : ∃ y, v_T_cutAhead h1 (nI k) = y := ⟨_, rfl⟩
  rw [hy] at a1 a2
  have hf1 : ∀ c, 9 ≤ c → y1.1 c = h.1 c := fun c hc => by
    rw [a2 c (by omega) (by omega)]
    show (am_si (am_si h 0 13 _) 0 12 _).1 c = _
    rw [am_si_ne (by omega), am_si_ne (by omega)]
  obtain ⟨b1, r, b2, b3⟩ := itr_invN (step := s_T_loseBus_47 h (nI k) y1) (pst := ps_T_loseBus_47 h (nI k) y1) (fun v => ∃ i H, i ≤ (lsl T k).length ∧ v = (eo ((ch (nx T) k)[i]?), nI i, H) ∧ RT H.1 0 (fT0 (cntT T) n k i) n ∧ (∀ c, 9 ≤ c → H.1 c = h.1 c)) (fun v => (lsl T k).length - am_ix v.2.1)
    (fun r => ∃ q i H, r = (q, i, H) ∧ RT H.1 0 (failT T n k) n ∧ (∀ c, 9 ≤ c → H.1 c = h.1 c)) (nI k, 0, y1)
    (by show (lsl T k).length - am_ix 0 < _; omega) ⟨0, y1, Nat.zero_le _, by rw [ch_at0 hI hk]; rfl, a1, hf1⟩
    (fun v hv => by
      obtain ⟨i, H, hi, rfl, k1, k2⟩ := hv
      refine ⟨trivial, ?_⟩
      have hst : s_T_loseBus_47 h (nI k) y1 (eo ((ch (nx T) k)[i]?), nI i, H) = (if nI i < v_T_lossesFrom h (nI k) then .inl (v_at 20 (H.1 7) (eo ((ch (nx T) k)[i]?)), nI i + 1, v_put 20 (v_T_cutBehind H (eo ((ch (nx T) k)[i]?))) 8 (eo ((ch (nx T) k)[i]?)) 1) else .inr (eo ((ch (nx T) k)[i]?), nI i, H)) := rfl
      rw [hst, hL.2]
      by_cases e : i < (lsl T k).length
      · have e2 : (ch (nx T) k)[i]? = some ((ch (nx T) k)[i]'(by omega)) := List.getElem?_eq_getElem (by omega)
        generalize (ch (nx T) k)[i]'(by omega) = q at e2
        obtain ⟨g1, g2, -⟩ := ch_atS hI hk i q e2
        have e2' : (ch (nx (cntT T)) k)[i]? = some q := by rw [hcs]; exact e2
        have hIi := fT_inv hI1 hk i
        obtain ⟨l1, l2⟩ := cc_lose k1 hIi g1
        rw [if_pos (nI_lt e (by omega)), e2]
        show (∃ v', Sum.inl (v_at 20 (H.1 7) (nI q), nI i + 1, v_put 20 (v_T_cutBehind H (nI q)) 8 (nI q) 1) = .inl v' ∧ _) ∨ _
        rw [cc_nx k1 hIi g1, fT_nx hI1 hk e2', cntT_nx, g2, nI_1]
        refine Or.inl ⟨_, rfl, ⟨i + 1, _, e, rfl, ?_, fun c hc => by rw [l2 c hc]; exact k2 c hc⟩, ?_⟩
        · rw [fT_s hI1 hk e2']; exact l1
        · show (lsl T k).length - am_ix (nI (i + 1)) < (lsl T k).length - am_ix (nI i)
          rw [nI_ix (by omega), nI_ix (by omega)]; omega
      · have e3 : i = (lsl T k).length := by omega
        rw [if_neg (nI_nlt (by omega) (by omega))]
        refine Or.inr ⟨_, rfl, _, _, H, rfl, ?_, k2⟩
        unfold failT
        rw [← e3]; exact k1)
  obtain ⟨q, i, H, rfl, b4, b5⟩ := b3
  have hv : v_T_loseBus h (nI k) = (nI (lsl T k).length, H) := by
    rw [v_T_loseBus, e1]
    show (match itr (s_T_loseBus_47 h (nI k) (v_T_cutAhead h1 (nI k))) NF (nI k, 0, v_T_cutAhead h1 (nI k)) with | some r2 => (v_T_lossesFrom h (nI k), r2.2.2) | none => (0, h)) = _
    rw [hy, b2, hL.2]
  refine ⟨⟨hL.1, fun y hy2 => ?_⟩, ?_⟩
  · rw [e1, hy] at hy2
    subst hy2
    exact b1
  · rw [hv]; exact ⟨rfl, b4, b5⟩
end LBU
section MFA
variable {m : HP} {T : Nat → Int32} {n : Nat}
/-- the model's loop, from a row where the failing trip is a first one -/
theorem mm_failLoop (hT : m.1 1 = T) (hI : Inv T n) {k : Nat} (hk : k < n) {m1 : HP} (h1 : m1.1 1 = cutAT (cntT T) n k) : itrp (s_M_fails_86 m (nI k)) (ps_M_fails_86 m (nI k)) NF (0, nI k, m1) ∧ ∃ q H, itr (s_M_fails_86 m (nI k)) NF (0, nI k, m1) = some (nI (lsl T k).length, q, H) ∧ H.1 1 = failT T n k ∧ (∀ c, c ≠ 1 → H.1 c = m1.1 c) ∧ H.2 = m1.2 := by
  have h20 := hI.n20
  have u1 := hI.us
  have u2 := hI.s2.2
  have hcs : ch (nx (cntT T)) k = ch (nx T) k := by rw [cntT_nx]
  have hlen : (lsl T k).length ≤ (ch (nx T) k).length := tw_len _
  have hlen20 := ch_n hI.fw hk
  have hI1 := hI.cnt
  have hsp := mm_spares hT hI
  have hdk := mm_dp hT hI hk
  have d1 := hI.dpL hk
  have d2 := hI.s3.2
  have hs3 : m.1 1 (am_ix 11) = nI (nT T 11) := by rw [ix11, hT, hI.s3.1]
  obtain ⟨b1, r, b2, b3⟩ := itr_invN (step := s_M_fails_86 m (nI k)) (pst := ps_M_fails_86 m (nI k)) (fun v => ∃ i H, i ≤ (lsl T k).length ∧ v = (nI i, eo ((ch (nx T) k)[i]?), H) ∧ H.1 1 = fT0 (cntT T) n k i ∧ (∀ c, c ≠ 1 → H.1 c = m1.1 c) ∧ H.2 = m1.2) (fun v => (lsl T k).length - am_ix v.1)
    (fun r => ∃ q H, r = (nI (lsl T k).length, q, H) ∧ H.1 1 = failT T n k ∧ (∀ c, c ≠ 1 → H.1 c = m1.1 c) ∧ H.2 = m1.2) (0, nI k, m1)
    (by show (lsl T k).length - am_ix 0 < _; omega) ⟨0, m1, Nat.zero_le _, by rw [ch_at0 hI hk]; rfl, h1, fun _ _ => rfl, rfl⟩
    (fun v hv => by
      obtain ⟨i, H, hi, rfl, k1, k2, k3⟩ := hv
      have hIi := fT_inv hI1 hk i
      cases e2 : (ch (nx T) k)[i]? with
      | none =>
        have e3 : i = (lsl T k).length := by
          by_cases e : i < (lsl T k).length
          · rw [List.getElem?_eq_getElem (by omega)] at e2; cases e2
          · omega
        refine ⟨⟨fun _ => trivial, fun z => absurd rfl z⟩, Or.inr ⟨(nI i, eo none, H), rfl, _, H, by rw [e3], ?_, k2, k3⟩⟩
        unfold failT
        rw [← e3]; exact k1
      | some q =>
        obtain ⟨g1, g2, g3⟩ := ch_atS hI hk i q e2
        have e2' : (ch (nx (cntT T)) k)[i]? = some q := by rw [hcs]; exact e2
        have d3 := hI.dpL g1
        have hdq : v_M_of H (nI q) 3 = nI (Dp T q) := by
          rw [(mm_dp k1 hIi g1).2]
          congr 1
          show nT _ _ = nT _ _
          exact nT_ag ((fT_ne hI1 hk (fun j hj => by omega)).trans (cntT_ne (by omega) (by omega)))
        have hnq : v_M_next H (nI q) = eo ((ch (nx T) k)[i + 1]?) := by
          rw [(mm_next k1 hIi g1).2, fT_nx hI1 hk e2', cntT_nx, g2]
        let H2 := am_si (am_si H 1 (16 + 7 * q + 5) 1) 1 (16 + 7 * q + 6) (-1)
        have hb : v_M_becomes (v_M_becomes H (nI q) 5 1) (nI q) 6 (-1) = H2 := by
          rw [show v_M_becomes H (nI q) 5 1 = _ from vm_becomes H (w := 5) (by omega) (by omega) 1]
          exact vm_becomes _ (w := 6) (by omega) (by omega) _
        have hH2 : H2.1 1 = fT0 (cntT T) n k (i + 1) := by
          show (am_si (am_si H 1 _ 1) 1 _ (-1)).1 1 = _
          rw [si1, si1, k1, fT_s hI1 hk e2']
          exact upd_comm (by omega)
        have hst : s_M_fails_86 m (nI k) (nI i, nI q, H) = (if lq T k q = true then .inl (nI (i + 1), eo ((ch (nx T) k)[i + 1]?), H2) else .inr (nI i, nI q, H)) := by
          show (if nI q = -1 then _ else (if (if v_M_spares m ≤ 0 then (0 : Int32) else 1) = 0 then Sum.inl (nI i + 1, v_M_next H (nI q), v_M_becomes (v_M_becomes H (nI q) 5 1) (nI q) 6 (-1)) else (if v_M_of H (nI q) 3 < v_M_of m (nI k) 3 + m.1 1 (am_ix 11) then Sum.inl (nI i + 1, v_M_next H (nI q), v_M_becomes (v_M_becomes H (nI q) 5 1) (nI q) 6 (-1)) else Sum.inr (nI i, nI q, H)))) = _
          rw [if_neg (nI_m1 (by omega)), hsp, hb, hnq, hdq, hdk.2, hs3, nI_add, nI_1, lq]
          by_cases e4 : nT T 10 - nT T 12 = 0
          · have z1 : (if nI (nT T 10 - nT T 12) ≤ 0 then (0 : Int32) else 1) = 0 := by rw [e4]; decide +kernel
            rw [if_pos z1, if_pos (by rw [e4]; rfl)]
          · have z1 : ¬ (if nI (nT T 10 - nT T 12) ≤ 0 then (0 : Int32) else 1) = 0 := by rw [if_neg (nI_nle (by omega) (by omega))]; decide +kernel
            rw [if_neg z1, beq_false.mpr e4, Bool.false_or]
            by_cases e5 : Dp T q < Dp T k + nT T 11
            · rw [if_pos ((nI_ltI (by omega) (by omega)).mpr e5), if_pos (blt_iff.mpr e5)]
            · rw [if_neg (fun z => e5 ((nI_ltI (by omega) (by omega)).mp z)), if_neg (by rw [blt_iff]; exact e5)]
        have pn : p_M_next H (nI q) := pm_next _ (by omega)
        have pb : p_M_becomes H (nI q) 5 1 ∧ ∀ y, v_M_becomes H (nI q) 5 1 = y → p_M_becomes y (nI q) 6 (-1) := ⟨pm_becomes _ (w := 5) (by omega) (by omega) _, fun y _ => pm_becomes _ (w := 6) (by omega) (by omega) _⟩
        refine ⟨⟨fun _ => trivial, fun _ => ⟨fun _ => ⟨pn, pb⟩, fun _ => ⟨pm_of _ (w := 3) (by omega) (by omega), fun _ => ⟨pn, pb⟩, fun _ => trivial⟩⟩⟩, ?_⟩
        show (∃ v', s_M_fails_86 m (nI k) (nI i, nI q, H) = .inl v' ∧ _) ∨ (∃ r, s_M_fails_86 m (nI k) (nI i, nI q, H) = .inr r ∧ _)
        rw [hst]
        by_cases e : i < (lsl T k).length
        · have hq := tw_lt _ i q e e2
          rw [if_pos hq]
          refine Or.inl ⟨_, rfl, ⟨i + 1, H2, e, rfl, hH2, fun c hc => ?_, ?_⟩, ?_⟩
          · show (am_si (am_si H 1 _ 1) 1 _ (-1)).1 c = _
            rw [am_si_ne hc, am_si_ne hc]; exact k2 c hc
          · exact k3
          · show (lsl T k).length - am_ix (nI (i + 1)) < (lsl T k).length - am_ix (nI i)
            rw [nI_ix (by omega), nI_ix (by omega)]; omega
        · have e3 : i = (lsl T k).length := by omega
          have hq : lq T k q = false := tw_at (ch (nx T) k) q (by
            have : (List.takeWhile (lq T k) (ch (nx T) k)).length = i := e3.symm
            rw [this]; exact e2)
          rw [hq, if_neg ff]
          refine Or.inr ⟨_, rfl, _, H, by rw [e3], ?_, k2, k3⟩
          unfold failT
          rw [← e3]; exact k1)
  obtain ⟨q, H, rfl, c1, c2, c3⟩ := b3
  exact ⟨b1, q, H, b2, c1, c2, c3⟩
theorem mm_fails (hT : m.1 1 = T) (hI : Inv T n) {k : Nat} (hk : k < n) : p_M_fails m (nI k) ∧ (v_M_fails m (nI k)).1 = nI (lsl T k).length ∧ (v_M_fails m (nI k)).2.1 1 = failT T n k ∧ (∀ c, c ≠ 1 → (v_M_fails m (nI k)).2.1 c = m.1 c) ∧ (v_M_fails m (nI k)).2.2 = m.2 := by
  have h20 := hI.n20
  have u1 := hI.us
  have u2 := hI.s2.2
  have hI1 := hI.cnt
  have hsp := mm_spares hT hI
  let m1 := am_si (am_si m 1 13 (T 13 + 1)) 1 12 (nI (nT T 12 + if 0 < nT T 10 - nT T 12 then 1 else 0))
  have e1 : am_si (am_si m 1 (am_ix 13) (m.1 1 (am_ix 13) + 1)) 1 (am_ix 12) ((am_si m 1 (am_ix 13) (m.1 1 (am_ix 13) + 1)).1 1 (am_ix 12) + (if (if v_M_spares m ≤ 0 then (0 : Int32) else 1) = 0 then (0 : Int32) else 1)) = m1 := by
    rw [ix13, ix12, am_si1, if_neg (by omega), hT, u1.1, hsp]
    show am_si _ 1 12 _ = am_si _ 1 12 _
    congr 1
    by_cases e : 0 < nT T 10 - nT T 12
    · have z1 : ¬ (if nI (nT T 10 - nT T 12) ≤ 0 then (0 : Int32) else 1) = 0 := by rw [if_neg (nI_nle e (by omega))]; decide +kernel
      rw [if_neg z1, if_pos e, nI_1]
    · have z1 : (if nI (nT T 10 - nT T 12) ≤ 0 then (0 : Int32) else 1) = 0 := by rw [show nT T 10 - nT T 12 = 0 by omega]; decide +kernel
      rw [if_pos z1, if_neg e, Int32.add_zero]; rfl
  have hm1 : m1.1 1 = cntT T := by
    show (am_si (am_si m 1 13 (T 13 + 1)) 1 12 _).1 1 = _
    rw [si1, si1, hT]; rfl
  have hf1 : ∀ c, c ≠ 1 → m1.1 c = m.1 c := fun c hc => by
    show (am_si (am_si m 1 13 (T 13 + 1)) 1 12 _).1 c = _
    rw [am_si_ne hc, am_si_ne hc]
  have hbf := mm_before hm1 hI1 (k := k) (by omega)
  cases e : bfo (cntT T) k n with
  | none =>
    have hb1 : v_M_before m1 (nI k) = -1 := by rw [hbf.2, e]; rfl
    obtain ⟨a, q, H, b, c, d, f⟩ := mm_failLoop hT hI hk (m1 := m1) (by rw [hm1]; unfold cutAT; rw [e])
    have hv : v_M_fails m (nI k) = (nI (lsl T k).length, H) := by
      rw [v_M_fails, e1, hb1, if_pos rfl, b]
    refine ⟨?_, ?_⟩
    · rw [p_M_fails, e1]
      refine ⟨(mm_dp hT hI hk).1, hbf.1, fun _ => a, fun z => absurd hb1 z⟩
    · rw [hv]; exact ⟨rfl, c, fun x hx => by rw [d x hx]; exact hf1 x hx, by rw [f]⟩
  | some j =>
    have hj := (bfo_some e).1
    have hb1 : v_M_before m1 (nI k) = nI j := by rw [hbf.2, e]; rfl
    have hbm : v_M_becomes m1 (nI j) 6 (-1) = am_si m1 1 (16 + 7 * j + 6) (-1) := vm_becomes _ (w := 6) (by omega) (by omega) _
    obtain ⟨a, q, H, b, c, d, f⟩ := mm_failLoop hT hI hk (m1 := am_si m1 1 (16 + 7 * j + 6) (-1)) (by rw [si1, hm1]; unfold cutAT; rw [e]; rfl)
    have hv : v_M_fails m (nI k) = (nI (lsl T k).length, H) := by
      rw [v_M_fails, e1, hb1, if_neg (nI_m1 (by omega)), hbm]
      show (match itr (s_M_fails_86 m (nI k)) NF (0, nI k, am_si m1 1 (16 + 7 * j + 6) (-1)) with | some r7 => (r7.1, r7.2.2) | none => (0, m)) = _
      rw [b]
    refine ⟨?_, ?_⟩
    · rw [p_M_fails, e1, hb1]
      refine ⟨(mm_dp hT hI hk).1, hbf.1, fun z => absurd z (nI_m1 (by omega)), fun _ => ⟨pm_becomes _ (w := 6) (by omega) (by omega) _, fun y6 hy => ?_⟩⟩
      rw [hbm] at hy
      subst hy
      exact a
    · rw [hv]; exact ⟨rfl, c, fun x hx => by rw [d x hx, am_si_ne hx]; exact hf1 x hx, by rw [f]⟩
/-- what a failure would take; the row is put back -/
theorem mm_failed (hT : m.1 1 = T) (hI : Inv T n) {k : Nat} (hk : k < n) : p_M_failed m (nI k) ∧ (v_M_failed m (nI k)).1 = nI (lsl T k).length ∧ (v_M_failed m (nI k)).2.1 1 = T ∧ (∀ c, c ≠ 1 → c ≠ 2 → (v_M_failed m (nI k)).2.1 c = m.1 c) ∧ (v_M_failed m (nI k)).2.2 = m.2 := by
  have h20 := hI.n20
  let m1 := v_lays m 1 (nI 0) 2 (nI 0)
  have hm1 : m1.1 1 = T := by rw [show m1.1 1 = m.1 1 from lay_ne (by omega)]; exact hT
  obtain ⟨a, b, c, d, e⟩ := mm_fails hm1 hI hk
  obtain ⟨y, hy⟩ : ∃ y, v_M_fails m1 (nI k) = y := ⟨_, rfl⟩
  rw [hy] at b c d e
  have hv : v_M_failed m (nI k) = (y.1, v_lays y.2 2 (nI 0) 1 (nI 0)) := by
    rw [← hy]; rfl
  refine ⟨⟨p_lay (p1 := 0) (p2 := 0) (by omega) (by omega) (by omega) (by omega), a, fun _ _ => p_lay (p1 := 0) (p2 := 0) (by omega) (by omega) (by omega) (by omega)⟩, ?_⟩
  rw [hv]
  refine ⟨b, ?_, fun q h1 h2 => ?_, e⟩
  · funext i
    show (v_lays y.2 2 (nI 0) 1 (nI 0)).1 1 i = T i
    rw [lay_at (by omega) (by omega)]
    by_cases hi : 0 ≤ i ∧ i < 0 + 163
    · rw [if_pos hi, d 2 (by omega)]
      show (v_lays m 1 (nI 0) 2 (nI 0)).1 2 (0 + (i - 0)) = _
      rw [lay_at (by omega) (by omega), if_pos (by omega), hT]
      congr 1; omega
    · rw [if_neg hi, c]
      unfold failT
      have hI1 := hI.cnt
      rw [fT_ne hI1 hk (fun j hj => by omega), cntT_ne (by omega) (by omega)]
  · show (v_lays y.2 2 (nI 0) 1 (nI 0)).1 q = _
    rw [lay_ne h1, d q h1]
    exact lay_ne h2
end MFA
