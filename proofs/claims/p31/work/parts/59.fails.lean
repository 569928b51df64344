/-! PURE: a bus fails, in class and model. -/
theorem tw_lt {p : Nat → Bool} : ∀ (l : List Nat) (i x : Nat), i < (l.takeWhile p).length → l[i]? = some x → p x = true
  | [], i, x, h, _ => absurd h (Nat.not_lt_zero _)
  | a :: l, i, x, h, hx => by
    rw [List.takeWhile_cons] at h
    cases e : p a with
    | false => rw [e, if_neg ff] at h; exact absurd h (Nat.not_lt_zero _)
    | true =>
      rw [e, if_pos tr] at h
      match i, h, hx with
      | 0, _, hx => cases hx; exact e
      | i + 1, h, hx => exact tw_lt l i x (by have h' : i + 1 < (l.takeWhile p).length + 1 := h; omega) hx
theorem tw_at {p : Nat → Bool} : ∀ (l : List Nat) (x : Nat), l[(l.takeWhile p).length]? = some x → p x = false
  | [], x, h => nomatch h
  | a :: l, x, h => by
    rw [List.takeWhile_cons] at h
    cases e : p a with
    | false => rw [e, if_neg ff] at h; cases h; exact e
    | true => rw [e, if_pos tr] at h; exact tw_at l x h
theorem tw_len {p : Nat → Bool} : ∀ (l : List Nat), (l.takeWhile p).length ≤ l.length
  | [] => Nat.le_refl _
  | a :: l => by
    have := tw_len (p := p) l
    rw [List.takeWhile_cons]
    split
    · rw [List.length_cons, List.length_cons]; omega
    · exact Nat.zero_le _
/-- what is counted when a bus fails -/
def cntT (T : Nat → Int32) : Nat → Int32 := upd (upd T 13 (T 13 + 1)) 12 (nI (nT T 12 + if 0 < nT T 10 - nT T 12 then 1 else 0))
theorem cntT_ne {T : Nat → Int32} {i : Nat} (h1 : i ≠ 12) (h2 : i ≠ 13) : cntT T i = T i := by unfold cntT; rw [upd_ne h1, upd_ne h2]
theorem cntT_nx (T : Nat → Int32) : nx (cntT T) = nx T := funext fun q => nx_ag (cntT_ne (by omega) (by omega))
theorem Inv.cnt {T : Nat → Int32} {n : Nat} (hI : Inv T n) : Inv (cntT T) n := by
  have h1 := hI.us.2
  have h2 := hI.s2.2
  refine (hI.any (i := 13) (x := T 13 + 1) (Or.inl rfl)).low (i := 12) (by omega) (by split <;> omega) ⟨by omega, by omega, by omega, by omega, by omega, fun _ => ?_⟩
  split <;> omega
/-- the row when a bus has failed ahead of k -/
def failT (T : Nat → Int32) (n k : Nat) : Nat → Int32 := fT0 (cntT T) n k (lsl T k).length
section LBU
variable {h : HP} {T : Nat → Int32} {n : Nat}
theorem cc_loseBus (hR : RT h.1 0 T n) (hI : Inv T n) {k : Nat} (hk : k < n) : p_T_loseBus h (nI k) ∧ (v_T_loseBus h (nI k)).1 = nI (lsl T k).length ∧ RT (v_T_loseBus h (nI k)).2.1 0 (failT T n k) n ∧ (∀ c, 9 ≤ c → (v_T_loseBus h (nI k)).2.1 c = h.1 c) := by
  have h20 := hI.n20
  have u1 := hI.us
  have u2 := hI.s2.2
  have hL := cc_losses hR hI hk
  have hcs : ch (nx (cntT T)) k = ch (nx T) k := by rw [cntT_nx]
  have hlen : (lsl T k).length ≤ (ch (nx T) k).length := tw_len _
  have hlen20 := ch_n hI.fw hk
  let h1 := am_si (am_si h 0 13 (T 13 + 1)) 0 12 (nI (nT T 12 + if 0 < nT T 10 - nT T 12 then 1 else 0))
  have e1 : am_si (am_si h 0 13 (h.1 0 13 + 1)) 0 12 (h.1 0 12 + (if v_T_sparesLeft (am_si h 0 13 (h.1 0 13 + 1)) ≤ 0 then (0 : Int32) else 1)) = h1 := by
    have hR0 : RT (am_si h 0 13 (T 13 + 1)).1 0 (upd T 13 (T 13 + 1)) n := hR.up ⟨by omega, by omega, by omega, by omega⟩ (fun q hq => ⟨by omega, by omega, by omega, by omega, by omega, by omega, by omega, by omega, by omega⟩) (fun t ht => ⟨by omega, by omega, by omega⟩)
    have hs := cc_spares hR0 (hI.any (i := 13) (x := T 13 + 1) (Or.inl rfl))
    rw [nT_ne (by omega), nT_ne (by omega)] at hs
    rw [hR.fa, hs, hR.us, u1.1]
    show am_si _ 0 12 _ = am_si _ 0 12 _
    congr 1
    by_cases e : 0 < nT T 10 - nT T 12
    · rw [if_neg (nI_nle e (by omega)), if_pos e, nI_1]
    · rw [if_pos (by rw [show nT T 10 - nT T 12 = 0 by omega]; decide +kernel), if_neg e, Int32.add_zero]; rfl
  have hR1 : RT h1.1 0 (cntT T) n := by
    refine RT.up (RT.up hR ⟨by omega, by omega, by omega, by omega⟩ (fun q hq => ⟨by omega, by omega, by omega, by omega, by omega, by omega, by omega, by omega, by omega⟩) (fun t ht => ⟨by omega, by omega, by omega⟩)) ⟨by omega, by omega, by omega, by omega⟩ (fun q hq => ⟨by omega, by omega, by omega, by omega, by omega, by omega, by omega, by omega, by omega⟩) (fun t ht => ⟨by omega, by omega, by omega⟩)
  have hI1 := hI.cnt
  obtain ⟨a1, a2⟩ := cc_cutA hR1 hI1 hk
  obtain ⟨y1, hy⟩ : ∃ y, v_T_cutAhead h1 (nI k) = y := ⟨_, rfl⟩
  rw [hy] at a1 a2
  have hf1 : ∀ c, 9 ≤ c → y1.1 c = h.1 c := fun c hc => by
    rw [a2 c (by omega) (by omega)]
    show (am_si (am_si h 0 13 _) 0 12 _).1 c = _
    rw [am_si_ne (by omega), am_si_ne (by omega)]
  obtain ⟨b1, r, b2, b3⟩ := itr_invN (step := s_T_loseBus_47 h (nI k) y1) (pst := ps_T_loseBus_47 h (nI k) y1) (fun v => ∃ i H, i ≤ (lsl T k).length ∧ v = (eo ((ch (nx T) k)[i]?), nI i, H) ∧ RT H.1 0 (fT0 (cntT T) n k i) n ∧ (∀ c, 9 ≤ c → H.1 c = h.1 c)) (fun v => (lsl T k).length - am_ix v.2.1)
    (fun r => ∃ q i H, r = (q, i, H) ∧ RT H.1 0 (failT T n k) n ∧ (∀ c, 9 ≤ c → H.1 c = h.1 c)) (nI k, 0, y1)
    (by show (lsl T k).length - am_ix 0 < _; omega) ⟨0, y1, Nat.zero_le _, by rw [ch_at0 hI hk]; rfl, a1, hf1⟩
    (fun v hv => by
      obtain ⟨i, H, hi, rfl, k1, k2⟩ := hv
      refine ⟨trivial, ?_⟩
      have hst : s_T_loseBus_47 h (nI k) y1 (eo ((ch (nx T) k)[i]?), nI i, H) = (if nI i < v_T_lossesFrom h (nI k) then .inl (v_at 20 (H.1 7) (eo ((ch (nx T) k)[i]?)), nI i + 1, v_put 20 (v_T_cutBehind H (eo ((ch (nx T) k)[i]?))) 8 (eo ((ch (nx T) k)[i]?)) 1) else .inr (eo ((ch (nx T) k)[i]?), nI i, H)) := rfl
      rw [hst, hL.2]
      by_cases e : i < (lsl T k).length
      · have e2 : (ch (nx T) k)[i]? = some ((ch (nx T) k)[i]'(by omega)) := List.getElem?_eq_getElem (by omega)
        generalize (ch (nx T) k)[i]'(by omega) = q at e2
        obtain ⟨g1, g2, -⟩ := ch_atS hI hk i q e2
        have e2' : (ch (nx (cntT T)) k)[i]? = some q := by rw [hcs]; exact e2
        have hIi := fT_inv hI1 hk i
        obtain ⟨l1, l2⟩ := cc_lose k1 hIi g1
        rw [if_pos (nI_lt e (by omega)), e2]
        show (∃ v', Sum.inl (v_at 20 (H.1 7) (nI q), nI i + 1, v_put 20 (v_T_cutBehind H (nI q)) 8 (nI q) 1) = .inl v' ∧ _) ∨ _
        rw [cc_nx k1 hIi g1, fT_nx hI1 hk e2', cntT_nx, g2, nI_1]
        refine Or.inl ⟨_, rfl, ⟨i + 1, _, e, rfl, ?_, fun c hc => by rw [l2 c hc]; exact k2 c hc⟩, ?_⟩
        · rw [fT_s hI1 hk e2']; exact l1
        · show (lsl T k).length - am_ix (nI (i + 1)) < (lsl T k).length - am_ix (nI i)
          rw [nI_ix (by omega), nI_ix (by omega)]; omega
      · have e3 : i = (lsl T k).length := by omega
        rw [if_neg (nI_nlt (by omega) (by omega))]
        refine Or.inr ⟨_, rfl, _, _, H, rfl, ?_, k2⟩
        unfold failT
        rw [← e3]; exact k1)
  obtain ⟨q, i, H, rfl, b4, b5⟩ := b3
  have hv : v_T_loseBus h (nI k) = (nI (lsl T k).length, H) := by
    rw [v_T_loseBus, e1]
    show (match itr (s_T_loseBus_47 h (nI k) (v_T_cutAhead h1 (nI k))) NF (nI k, 0, v_T_cutAhead h1 (nI k)) with | some r2 => (v_T_lossesFrom h (nI k), r2.2.2) | none => (0, h)) = _
    rw [hy, b2, hL.2]
  refine ⟨⟨hL.1, fun y hy2 => ?_⟩, ?_⟩
  · rw [e1, hy] at hy2
    subst hy2
    exact b1
  · rw [hv]; exact ⟨rfl, b4, b5⟩
end LBU
section MFA
variable {m : HP} {T : Nat → Int32} {n : Nat}
end MFA
