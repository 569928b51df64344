/-! REFUSALS: numbers out of their ranges, and what a call answers to them. -/
def fv (k lo hi : Int32) : Int32 := if k = 0 then lo - 1 else if k = 1 then hi + 1 else if k = 2 then (-2147483648 : Int32) else 2147483647
theorem fv_0 (lo hi : Int32) : fv (nI 0) lo hi = lo - 1 := rfl
theorem fv_1 (lo hi : Int32) : fv (nI 1) lo hi = hi + 1 := rfl
theorem fv_2 (lo hi : Int32) : fv (nI 2) lo hi = (-2147483648 : Int32) := rfl
theorem fv_3 (lo hi : Int32) : fv (nI 3) lo hi = 2147483647 := rfl
theorem tI_min : (-2147483648 : Int32).toInt = -2147483648 := by decide +kernel
theorem tI_max : (2147483647 : Int32).toInt = 2147483647 := by decide +kernel
theorem tI_m1 : (-1 : Int32).toInt = -1 := by decide +kernel
theorem nI_prd {l : Nat} (h : l < 1000000) : (nI l - 1).toInt = (l : Int) - 1 := by
  cases l with
  | zero => decide +kernel
  | succ l =>
    rw [show (1 : Int32) = nI 1 from rfl, nI_sub (by omega), nI_toInt (by omega)]; omega
theorem fv_rn {k lo hi : Nat} (hk : k < 4) (hl : lo ≤ hi) (hN : hi < 1000000) : rnN (fv (nI k) (nI lo) (nI hi)) lo hi = none := by
  unfold rnN
  refine if_neg ?_
  match k, hk with
  | 0, _ => rw [fv_0, nI_prd (by omega)]; omega
  | 1, _ => rw [fv_1, nI_1, nI_toInt (by omega)]; omega
  | 2, _ => rw [fv_2, tI_min]; omega
  | 3, _ => rw [fv_3, tI_max]; omega
  | k + 4, z => omega
theorem fv_ix {k n : Nat} (hk : k < 4) (hn : n < 1000000) : ixN (fv (nI k) 0 (nI n - 1)) n = none := by
  unfold ixN
  refine if_neg ?_
  match k, hk with
  | 0, _ => rw [fv_0, show ((0 : Int32) - 1) = nI 0 - 1 from rfl, nI_prd (by omega)]; omega
  | 1, _ => rw [fv_1, Int32.sub_add_cancel, nI_toInt (by omega)]; omega
  | 2, _ => rw [fv_2, tI_min]; omega
  | 3, _ => rw [fv_3, tI_max]; omega
  | k + 4, z => omega
theorem cn_ltk {p : Nat → Bool} {k m : Nat} (h : p k = true) (hk : k < m) : cn p k < cn p m := cn_step h hk
theorem fv_hd {p : Nat → Bool} {k m : Nat} (hk : k < 4) (hm : m ≤ 20) : hdo p (fv (nI k) 0 (nI (cn p m) - 1)) m = none := by
  cases e : hdo p (fv (nI k) 0 (nI (cn p m) - 1)) m with
  | none => rfl
  | some q =>
    obtain ⟨h1, h2, h3⟩ := hdo_some e
    have h4 := cn_ltk h2 h1
    have h5 := cn_le p m
    have h6 : (fv (nI k) 0 (nI (cn p m) - 1)).toInt = cn p q := by rw [h3, nI_toInt (by omega)]
    have h7 := fv_ix (k := k) (n := cn p m) hk (by omega)
    unfold ixN at h7
    rw [if_pos (by rw [h6]; omega)] at h7
    cases h7
theorem hdo_0 {p : Nat → Bool} : ∀ {m : Nat}, 0 < cn p m → ∃ k, hdo p 0 m = some k
  | 0, h => absurd h (Nat.lt_irrefl _)
  | m + 1, h => by
    rw [hdo]
    by_cases e : p m = true ∧ (0 : Int32) = nI (cn p m)
    · exact ⟨m, if_pos e⟩
    · rw [if_neg e]
      refine hdo_0 ?_
      rw [cn] at h
      by_cases e2 : p m = true
      · rcases Nat.eq_zero_or_pos (cn p m) with z | z
        · exact absurd ⟨e2, by rw [z]; rfl⟩ e
        · exact z
      · rw [if_neg e2] at h; omega
section RF
variable {S : Sta} {a b C D E : Int32}
theorem tl_a (h : rnN a 0 3 = none) : told a b C D E = false := by unfold told; rw [h]; rfl
theorem tl_b (h : rnN b 0 3 = none) : told a b C D E = false := by unfold told; rw [h]; cases rnN a 0 3 <;> rfl
theorem rf_layI (h : ixN a 4 = none) : s_leafR S 0 a b C D E = .inl xI := by show s_layover S a b = _; unfold s_layover; rw [h]
theorem rf_layA {i : Nat} (h : ixN a 4 = some i) (h2 : rnN b 0 60 = none) : s_leafR S 0 a b C D E = .inl xA := by show s_layover S a b = _; unfold s_layover; rw [h]; show (match rnN b 0 60 with | none => _ | some _ => _) = _; rw [h2]
theorem rf_relI (h : ixN a 4 = none) : s_leafR S 1 a b C D E = .inl xI := by show s_relief S a = _; unfold s_relief; rw [h]
theorem rf_tripA (h : told a b C D E = false) : s_leafR S 2 a b C D E = .inl xA := by show s_trip S a b C D E = _; unfold s_trip; rw [h]; rfl
theorem rf_shiftI (h : ixN a S.1.2 = none) : s_leafR S 3 a b C D E = .inl xI := by show s_shift S a b = _; unfold s_shift; rw [h]
theorem rf_shiftA {i : Nat} (h : ixN a S.1.2 = some i) (h2 : rnN b 0 1439 = none) : s_leafR S 3 a b C D E = .inl xA := by show s_shift S a b = _; unfold s_shift; rw [h]; show (match rnN b 0 1439 with | none => _ | some _ => _) = _; rw [h2]
theorem rf_setI (h : ixN a 4 = none) : s_leafR S 4 a b C D E = .inl xI := by show s_set S a b = _; unfold s_set; rw [h]
theorem rf_setA {i : Nat} (h : ixN a 4 = some i) (h2 : rnN b (setLo i) (setHi i) = none) : s_leafR S 4 a b C D E = .inl xA := by show s_set S a b = _; unfold s_set; rw [h]; show (match rnN b (setLo i) (setHi i) with | none => _ | some _ => _) = _; rw [h2]
theorem rf_followI (h : ixN a S.1.2 = none) : s_leafR S 5 a b C D E = .inl xI := by show s_follow S a b = _; unfold s_follow; rw [h]
theorem rf_followB {i : Nat} (h : ixN a S.1.2 = some i) (h2 : ixN b S.1.2 = none) : s_leafR S 5 a b C D E = .inl xI := by show s_follow S a b = _; unfold s_follow; rw [h]; show (match ixN b S.1.2 with | none => _ | some _ => _) = _; rw [h2]
theorem rf_partI (h : ixN a S.1.2 = none) : s_leafR S 6 a b C D E = .inl xI := by show s_part S a = _; unfold s_part; rw [h]
theorem rf_failI (h : ixN a S.1.2 = none) : s_leafR S 8 a b C D E = .inl xI := by show s_fail S a = _; unfold s_fail; rw [h]
theorem rf_appendA (h : rnN a 33 126 = none) : s_leafR S 9 a b C D E = .inl xA := by show s_append S a = _; unfold s_append; rw [h]
theorem rf_keepA (h : rnN a 0 1 = none) : s_leafR S 11 a b C D E = .inl xA := by show s_keep S a = _; unfold s_keep; rw [h]
theorem rf_goBackA (h : rnN a 0 1 = none) : s_leafR S 12 a b C D E = .inl xA := by show s_goBack S a = _; unfold s_goBack; rw [h]
theorem lks_l {l : Lk0} {X : String} (h : l = .inl X) : lks S l = .inl X := by rw [h]; rfl
theorem rf_termI (h : ixN a 4 = none) : s_leafR S 14 a b C D E = .inl xI := lks_l (by unfold l_terminalOf; rw [h])
theorem rf_termA {i : Nat} (h : ixN a 4 = some i) (h2 : rnN b 0 4 = none) : s_leafR S 14 a b C D E = .inl xA := lks_l (by unfold l_terminalOf; rw [h]; show (match rnN b 0 4 with | none => _ | some _ => _) = _; rw [h2])
theorem rf_tripI (h : ixN a S.1.2 = none) : s_leafR S 15 a b C D E = .inl xI := lks_l (by unfold l_tripOf; rw [h])
theorem rf_tripB {i : Nat} (h : ixN a S.1.2 = some i) (h2 : rnN b 0 8 = none) : s_leafR S 15 a b C D E = .inl xA := lks_l (by unfold l_tripOf; rw [h]; show (match rnN b 0 8 with | none => _ | some _ => _) = _; rw [h2])
theorem rf_blockI (h : hdo (hd S.1.1 S.1.2) a S.1.2 = none) : s_leafR S 16 a b C D E = .inl xI := lks_l (by unfold l_blockOf; rw [h])
theorem rf_blockA {i : Nat} (h : hdo (hd S.1.1 S.1.2) a S.1.2 = some i) (h2 : rnN b 0 6 = none) : s_leafR S 16 a b C D E = .inl xA := lks_l (by unfold l_blockOf; rw [h]; show (match rnN b 0 6 with | none => _ | some _ => _) = _; rw [h2])
theorem rf_dutyI (h : hdo (hd S.1.1 S.1.2) a S.1.2 = none) : s_leafR S 17 a b C D E = .inl xI := lks_l (by unfold l_duty; rw [h])
theorem rf_dutyA {i : Nat} (h : hdo (hd S.1.1 S.1.2) a S.1.2 = some i) (h2 : b < 0) : s_leafR S 17 a b C D E = .inl xA := lks_l (by unfold l_duty; rw [h]; exact if_pos h2)
theorem rf_dutyB {i : Nat} (h : hdo (hd S.1.1 S.1.2) a S.1.2 = some i) (h2 : ¬ b < 0) (h3 : rnN E 0 2 = none) : s_leafR S 17 a b C D E = .inl xA := lks_l (by unfold l_duty; rw [h]; show (if b < 0 then _ else (match rnN E 0 2 with | none => _ | some _ => _)) = _; rw [if_neg h2, h3])
theorem rf_countA (h : rnN a 0 10 = none) : s_leafR S 18 a b C D E = .inl xA := lks_l (by unfold l_count; rw [h])
theorem rf_settI (h : ixN a 4 = none) : s_leafR S 19 a b C D E = .inl xI := lks_l (by unfold l_setting; rw [h])
theorem rf_whyI (h : ixN a S.1.2 = none) : s_leafR S 20 a b C D E = .inl xI := lks_l (by unfold l_whyNot; rw [h])
theorem rf_whyB {i : Nat} (h : ixN a S.1.2 = some i) (h2 : ixN b S.1.2 = none) : s_leafR S 20 a b C D E = .inl xI := lks_l (by unfold l_whyNot; rw [h]; show (match ixN b S.1.2 with | none => _ | some _ => _) = _; rw [h2])
theorem rf_ifTripA (h : told a b C D E = false) : s_leafR S 21 a b C D E = .inl xA := lks_l (by unfold l_ifTrip; rw [h]; rfl)
theorem rf_bestI (h : ixN a S.1.2 = none) : s_leafR S 22 a b C D E = .inl xI := lks_l (by unfold l_bestTime; rw [h])
theorem rf_bestA {i : Nat} (h : ixN a S.1.2 = some i) (h2 : rnN b 0 120 = none) : s_leafR S 22 a b C D E = .inl xA := lks_l (by unfold l_bestTime; rw [h]; show (match rnN b 0 120 with | none => _ | some _ => _) = _; rw [h2])
theorem rf_failedI (h : ixN a S.1.2 = none) : s_leafR S 23 a b C D E = .inl xI := lks_l (by unfold l_ifFailed; rw [h])
theorem rf_loadA (h : S.2.2.2 = []) : s_load S = .inl xA := by
  have e : ldw S = false := by unfold ldw sg; rw [h]; rfl
  unfold s_load
  rw [e]; rfl
end RF
/-! WALKS: steps that are the same in each. -/
section WK
variable {M : MI} {sh ro : List Sh} {P : AR → HP → Prop} {pc i : Nat} {ls st : List Value} {h : HP}
theorem wk_ne {off : Int} {x y : Int32} (hc : (m_code M pc).1 = .if_icmp .ne off) (e : x = y) (k : am_Ev M sh ro P (pc + 3, ls, st, h)) : am_Ev M sh ro P (pc, ls, .int y :: .int x :: st, h) := am_Ev_F (by
  unfold am_F am_Fi; dsimp only; rw [hc]; exact ⟨fun z => absurd e z, fun _ => k⟩)
theorem wk_ne1 {off : Int} {x y : Int32} (hc : (m_code M pc).1 = .if_icmp .ne off) (e : ¬ x = y) (k : am_Ev M sh ro P ((m_code M pc).2.2.1, ls, st, h)) : am_Ev M sh ro P (pc, ls, .int y :: .int x :: st, h) := am_Ev_F (by
  unfold am_F am_Fi; dsimp only; rw [hc]; exact ⟨fun _ => k, fun z => absurd z e⟩)
theorem wk_eq1 {off : Int} {x y : Int32} (hc : (m_code M pc).1 = .if_icmp .eq off) (e : x = y) (k : am_Ev M sh ro P ((m_code M pc).2.2.1, ls, st, h)) : am_Ev M sh ro P (pc, ls, .int y :: .int x :: st, h) := am_Ev_F (by
  unfold am_F am_Fi; dsimp only; rw [hc]; exact ⟨fun _ => k, fun z => absurd e z⟩)
theorem wk_le1 {off : Int} {x : Int32} (hc : (m_code M pc).1 = .ifCond .le off) (e : x ≤ 0) (k : am_Ev M sh ro P ((m_code M pc).2.2.1, ls, st, h)) : am_Ev M sh ro P (pc, ls, .int x :: st, h) := am_Ev_F (by
  unfold am_F am_Fi; dsimp only; rw [hc]; exact ⟨fun _ => k, fun z => absurd e z⟩)
theorem wk_le {off : Int} {x : Int32} (hc : (m_code M pc).1 = .ifCond .le off) (e : ¬ x ≤ 0) (k : am_Ev M sh ro P (pc + 3, ls, st, h)) : am_Ev M sh ro P (pc, ls, .int x :: st, h) := am_Ev_F (by
  unfold am_F am_Fi; dsimp only; rw [hc]; exact ⟨fun z => absurd z e, fun _ => k⟩)
theorem wk_ifne1 {off : Int} {x : Int32} (hc : (m_code M pc).1 = .ifCond .ne off) (e : ¬ x = 0) (k : am_Ev M sh ro P ((m_code M pc).2.2.1, ls, st, h)) : am_Ev M sh ro P (pc, ls, .int x :: st, h) := am_Ev_F (by
  unfold am_F am_Fi; dsimp only; rw [hc]; exact ⟨fun _ => k, fun z => absurd z e⟩)
theorem wk_ifne {off : Int} {x : Int32} (hc : (m_code M pc).1 = .ifCond .ne off) (e : x = 0) (k : am_Ev M sh ro P (pc + 3, ls, st, h)) : am_Ev M sh ro P (pc, ls, .int x :: st, h) := am_Ev_F (by
  unfold am_F am_Fi; dsimp only; rw [hc]; exact ⟨fun z => absurd e z, fun _ => k⟩)
theorem wk_ifeq {off : Int} {x : Int32} (hc : (m_code M pc).1 = .ifCond .eq off) (e : ¬ x = 0) (k : am_Ev M sh ro P (pc + 3, ls, st, h)) : am_Ev M sh ro P (pc, ls, .int x :: st, h) := am_Ev_F (by
  unfold am_F am_Fi; dsimp only; rw [hc]; exact ⟨fun z => absurd z e, fun _ => k⟩)
theorem wk_ifeq1 {off : Int} {x : Int32} (hc : (m_code M pc).1 = .ifCond .eq off) (e : x = 0) (k : am_Ev M sh ro P ((m_code M pc).2.2.1, ls, st, h)) : am_Ev M sh ro P (pc, ls, .int x :: st, h) := am_Ev_F (by
  unfold am_F am_Fi; dsimp only; rw [hc]; exact ⟨fun _ => k, fun z => absurd e z⟩)
theorem wk_ge {off : Int} {x y : Int32} (hc : (m_code M pc).1 = .if_icmp .ge off) (e : x < y) (k : am_Ev M sh ro P (pc + 3, ls, st, h)) : am_Ev M sh ro P (pc, ls, .int y :: .int x :: st, h) := am_Ev_F (by
  unfold am_F am_Fi; dsimp only; rw [hc]; exact ⟨fun z => absurd e z, fun _ => k⟩)
theorem wk_ge1 {off : Int} {x y : Int32} (hc : (m_code M pc).1 = .if_icmp .ge off) (e : ¬ x < y) (k : am_Ev M sh ro P ((m_code M pc).2.2.1, ls, st, h)) : am_Ev M sh ro P (pc, ls, .int y :: .int x :: st, h) := am_Ev_F (by
  unfold am_F am_Fi; dsimp only; rw [hc]; exact ⟨fun _ => k, fun z => absurd z e⟩)
theorem wk_gt {off : Int} {x y : Int32} (hc : (m_code M pc).1 = .if_icmp .gt off) (e : x ≤ y) (k : am_Ev M sh ro P (pc + 3, ls, st, h)) : am_Ev M sh ro P (pc, ls, .int y :: .int x :: st, h) := am_Ev_F (by
  unfold am_F am_Fi; dsimp only; rw [hc]; exact ⟨fun z => absurd e z, fun _ => k⟩)
theorem wk_ifge1 {off : Int} {x : Int32} (hc : (m_code M pc).1 = .ifCond .ge off) (e : ¬ x < 0) (k : am_Ev M sh ro P ((m_code M pc).2.2.1, ls, st, h)) : am_Ev M sh ro P (pc, ls, .int x :: st, h) := am_Ev_F (by
  unfold am_F am_Fi; dsimp only; rw [hc]; exact ⟨fun _ => k, fun z => absurd z e⟩)
theorem wk_ifge {off : Int} {x : Int32} (hc : (m_code M pc).1 = .ifCond .ge off) (e : x < 0) (k : am_Ev M sh ro P (pc + 3, ls, st, h)) : am_Ev M sh ro P (pc, ls, .int x :: st, h) := am_Ev_F (by
  unfold am_F am_Fi; dsimp only; rw [hc]; exact ⟨fun z => absurd e z, fun _ => k⟩)
theorem wk_ret {v : Int32} (hc : (m_code M pc).1 = .ireturn) (hr : m_rt M = some .boolean) (hv : v = 0 ∨ v = 1) (k : P (.inl (some (.int v))) h) : am_Ev M sh ro P (pc, ls, [.int v], h) := am_Ev_F (by
  unfold am_F am_Fi; dsimp only; rw [hc]; dsimp only; rw [hr]; exact ⟨hv, k⟩)
/-- a call whose answer and whose heap are known -/
theorem wk_call (virt : Bool) {cd : CD} {x g : Nat} {as : List Value} {v : Value} {H : HP} (hcode : (m_code M pc).1 = (bif virt then .invokevirtual i else .invokestatic i)) (hlk : am_lk (m_inv M) i = some (dG (nI x) cd))
    (hst : (am_kind sh virt (c_k cd) (st.take (c_n cd)).reverse && Nat.ble (c_n cd) st.length && Nat.ble (am_csum (st.drop (c_n cd))) 10 && Nat.ble (c_fr cd + 1) (m_fr M) && Nat.ble (10 + (c_mL cd + 11) + c_lo cd) (m_lo M)) = true)
    (ha : (st.take (c_n cd)).reverse = as) (hmc : c_mc cd ≤ x) (hbud : ∀ h, m_bud M h = (h.1 2000 0).toNatClampNeg) (hB : g + x + 1 ≤ m_B M) (hg : g + x < 1000000) (hgst : h.1 2000 0 = nI g)
    (he : g_ok (c_g cd sh ro as h) = true ∧ g_pre (c_g cd sh ro as h) ∧ g_thr (c_g cd sh ro as h) = none ∧ g_val (c_g cd sh ro as h) = some v ∧ g_hp (c_g cd sh ro as h) = H)
    (k : am_Ev M sh ro P (pc + 3, ls, v :: st.drop (c_n cd), am_si H 2000 0 (nI (g + x)))) : am_Ev M sh ro P (pc, ls, st, h) := by
  obtain ⟨f1, f2, f3, f4, f5⟩ := he
  have hh : am_si H 2000 0 (h.1 2000 0 + nI x) = am_si H 2000 0 (nI (g + x)) := by rw [hgst, nI_add]
  refine am_Ev_callH virt (cd := dG (nI x) cd) (g := gG (nI x) (c_g cd sh ro as h) h) hcode hlk hst (by show gG (nI x) (c_g cd sh ro (st.take (c_n cd)).reverse h) h = _; rw [ha]) f1 ?_ ?_ f2 (fun E _ hE => absurd (f3.symm.trans hE) (fun z => nomatch z)) (fun _ => ?_)
  · show m_bud M h + c_mc cd ≤ m_bud M (am_si (g_hp (c_g cd sh ro as h)) 2000 0 (h.1 2000 0 + nI x))
    rw [f5, hh, hbud, hbud, am_si1, if_pos ⟨rfl, rfl⟩, hgst, nI_clamp (by omega), nI_clamp (by omega)]
    omega
  · show m_bud M h + c_mc cd + 1 ≤ m_B M
    rw [hbud, hgst, nI_clamp (by omega)]
    omega
  · have e1 : g_val (gG (nI x) (c_g cd sh ro as h) h) = some v := f4
    have e2 : g_hp (gG (nI x) (c_g cd sh ro as h) h) = am_si H 2000 0 (nI (g + x)) := by
      show am_si (g_hp (c_g cd sh ro as h)) 2000 0 (h.1 2000 0 + nI x) = _
      rw [f5, hh]
    rw [e1, e2]; exact k
end WK
theorem gs_at (h : HP) (j : Nat) : (am_si h 2000 0 (nI j)).1 2000 0 = nI j := by rw [am_si1, if_pos ⟨rfl, rfl⟩]
theorem RS.gs {h : HP} {S : Sta} (hs : RS h S) (j : Nat) : RS (am_si h 2000 0 (nI j)) S := hs.ext (fun c hc => am_si_ne (by omega)) (hs.2.2.2.2.fr (am_si_ne (by omega)) (am_si_ne (by omega)))
theorem cnt0 (h : HP) : v_B_count h 0 = .inr (h.1 0 11, h) := rfl
theorem cnt2 (h : HP) : v_B_count h 2 = .inr (v_T_blocks h, h) := rfl
theorem cnt10 (h : HP) : v_B_count h 10 = .inr (h.1 38 9, h) := rfl
/-- a count that leaves the heap as it was -/
theorem cntE {h : HP} {S : Sta} (hs : RS h S) {k : Nat} (hk : k ≤ 10) {x : Int32} (e : v_B_count h (nI k) = .inr (x, h)) {sh ro : List Sh} : g_ok (c_g (d_B_count 15) sh ro [.ref 38, .int (nI k)] h) = true ∧ g_pre (c_g (d_B_count 15) sh ro [.ref 38, .int (nI k)] h) ∧ g_thr (c_g (d_B_count 15) sh ro [.ref 38, .int (nI k)] h) = none ∧ g_val (c_g (d_B_count 15) sh ro [.ref 38, .int (nI k)] h) = some (.int (if k = 10 then nI S.2.1.length else cnl S.1.1 S.1.2 k)) ∧ g_hp (c_g (d_B_count 15) sh ro [.ref 38, .int (nI k)] h) = h := by
  obtain ⟨q, e1, e2, -⟩ := cnt_at hs hk
  rw [e] at e1
  have e3 : q = (x, h) := (Sum.inr.inj e1).symm
  rw [e3] at e2
  refine ⟨rfl, (count_s hs (nI k)).1, ?_, ?_, ?_⟩
  · show rthr (v_B_count h (nI k)) = none; rw [e]; rfl
  · show rvIW (v_B_count h (nI k)) = _; rw [e, ← e2]; rfl
  · show rhpI h (v_B_count h (nI k)) = h; rw [e]; rfl
/-- a call that is refused -/
theorem callE {h : HP} {S : Sta} (hs : RS h S) {w a b code : Int32} {m : Int64} {j : Nat} {X : String} (hj : cj w = j) (h10 : j ≠ 10) (e : s_leafR S j a b (mc1 m) (mc2 m) (mc3 m) = .inl X) (hc : hcode hs_call X = code) {sh ro : List Sh} : g_ok (c_g d_L_call sh ro [.ref 38, .int w, .int a, .int b, .long m] h) = true ∧ g_pre (c_g d_L_call sh ro [.ref 38, .int w, .int a, .int b, .long m] h) ∧ g_thr (c_g d_L_call sh ro [.ref 38, .int w, .int a, .int b, .long m] h) = none ∧ g_val (c_g d_L_call sh ro [.ref 38, .int w, .int a, .int b, .long m] h) = some (.int code) ∧ g_hp (c_g d_L_call sh ro [.ref 38, .int w, .int a, .int b, .long m] h) = h := by
  have e2 := call_x hs w a b m j hj h10 e
  refine ⟨rfl, (call_s hs w a b m).1, rfl, ?_, ?_⟩
  · show some (Value.int (v_L_call h w a b m).1) = _; rw [e2, hc]
  · show (v_L_call h w a b m).2 = h; rw [e2]
theorem farE {h : HP} {k lo hi : Int32} {sh ro : List Sh} : g_ok (c_g (d_L_far 0) sh ro [.int k, .int lo, .int hi] h) = true ∧ g_pre (c_g (d_L_far 0) sh ro [.int k, .int lo, .int hi] h) ∧ g_thr (c_g (d_L_far 0) sh ro [.int k, .int lo, .int hi] h) = none ∧ g_val (c_g (d_L_far 0) sh ro [.int k, .int lo, .int hi] h) = some (.int (fv k lo hi)) ∧ g_hp (c_g (d_L_far 0) sh ro [.int k, .int lo, .int hi] h) = h := ⟨rfl, trivial, rfl, rfl, rfl⟩
/-- the load that is refused -/
theorem loadE {h : HP} {S : Sta} (hs : RS h S) (hx : S.2.2.2 = []) {sh ro : List Sh} : g_ok (c_g d_L_call sh ro [.ref 38, .int 10, .int 0, .int 0, .long 0] h) = true ∧ g_pre (c_g d_L_call sh ro [.ref 38, .int 10, .int 0, .int 0, .long 0] h) ∧ g_thr (c_g d_L_call sh ro [.ref 38, .int 10, .int 0, .int 0, .long 0] h) = none ∧ g_val (c_g d_L_call sh ro [.ref 38, .int 10, .int 0, .int 0, .long 0] h) = some (.int (-12)) ∧ g_hp (c_g d_L_call sh ro [.ref 38, .int 10, .int 0, .int 0, .long 0] h) = (v_L_call h 10 0 0 0).2 ∧ RS (v_L_call h 10 0 0 0).2 S := by
  obtain ⟨p, q, c⟩ := call_s hs 10 0 0 0
  have e : s_call S 10 0 0 0 = (-12, S) := by
    show rs (s_load S) S = _
    rw [rf_loadA hx]
    rfl
  rw [e] at q c
  refine ⟨rfl, p, rfl, ?_, rfl, c⟩
  show some (Value.int (v_L_call h 10 0 0 0).1) = _; rw [q]
theorem WB_len : (WB ++ []).length ≤ 1000 := by decide +kernel
