/-! REFUSALS: all of them, four times (written by gen/refd31.py). -/
noncomputable section
def k_L_refused_0 (pc : Nat) : Ent := bif Nat.ble 13 pc then (bif Nat.ble 21 pc then (bif Nat.ble 24 pc then (bif Nat.ble 27 pc then (bif Nat.beq pc 27 then (.ifCond .ne 5, 0, 32, []) else am_nop) else (bif Nat.beq pc 24 then (.invokestatic 130, 0, 0, []) else am_nop)) else (bif Nat.ble 22 pc then (bif Nat.beq pc 22 then (.iload 4, 0, 4, []) else am_nop) else (bif Nat.beq pc 21 then (.aload_n 0, 0, 0, []) else am_nop))) else (bif Nat.ble 17 pc then (bif Nat.ble 18 pc then (bif Nat.beq pc 18 then (.if_icmp .ge 20, 0, 38, []) else am_nop) else (bif Nat.beq pc 17 then (.iconst 4, 4, 0, []) else am_nop)) else (bif Nat.ble 15 pc then (bif Nat.beq pc 15 then (.iload 4, 0, 4, []) else am_nop) else (bif Nat.beq pc 13 then (.istore 4, 0, 4, []) else am_nop)))) else (bif Nat.ble 6 pc then (bif Nat.ble 11 pc then (bif Nat.ble 12 pc then (bif Nat.beq pc 12 then (.iconst 0, 0, 0, []) else am_nop) else (bif Nat.beq pc 11 then (.istore_n 3, 0, 3, []) else am_nop)) else (bif Nat.ble 8 pc then (bif Nat.beq pc 8 then (.invokevirtual 78, 0, 0, []) else am_nop) else (bif Nat.beq pc 6 then (.bipush 10, 10, 0, []) else am_nop))) else (bif Nat.ble 4 pc then (bif Nat.ble 5 pc then (bif Nat.beq pc 5 then (.aload_n 0, 0, 0, []) else am_nop) else (bif Nat.beq pc 4 then (.lstore_n 1, 0, 1, []) else am_nop)) else (bif Nat.ble 1 pc then (bif Nat.beq pc 1 then (.invokestatic 126, 0, 0, []) else am_nop) else (bif Nat.beq pc 0 then (.aload_n 0, 0, 0, []) else am_nop))))
def k_L_refused_1 (pc : Nat) : Ent := bif Nat.ble 44 pc then (bif Nat.ble 53 pc then (bif Nat.ble 57 pc then (bif Nat.ble 58 pc then (bif Nat.beq pc 58 then (.goto 4, 0, 62, []) else am_nop) else (bif Nat.beq pc 57 then (.iconst 1, 1, 0, []) else am_nop)) else (bif Nat.ble 54 pc then (bif Nat.beq pc 54 then (.if_icmp .ne 7, 0, 61, []) else am_nop) else (bif Nat.beq pc 53 then (.iload_n 3, 0, 3, []) else am_nop))) else (bif Nat.ble 48 pc then (bif Nat.ble 50 pc then (bif Nat.beq pc 50 then (.invokevirtual 78, 0, 0, []) else am_nop) else (bif Nat.beq pc 48 then (.bipush 10, 10, 0, []) else am_nop)) else (bif Nat.ble 47 pc then (bif Nat.beq pc 47 then (.aload_n 0, 0, 0, []) else am_nop) else (bif Nat.beq pc 44 then (.ifCond .ne 17, 0, 61, []) else am_nop)))) else (bif Nat.ble 38 pc then (bif Nat.ble 42 pc then (bif Nat.ble 43 pc then (bif Nat.beq pc 43 then (.lcmp, 0, 0, []) else am_nop) else (bif Nat.beq pc 42 then (.lload_n 1, 0, 1, []) else am_nop)) else (bif Nat.ble 39 pc then (bif Nat.beq pc 39 then (.invokestatic 126, 0, 0, []) else am_nop) else (bif Nat.beq pc 38 then (.aload_n 0, 0, 0, []) else am_nop))) else (bif Nat.ble 32 pc then (bif Nat.ble 35 pc then (bif Nat.beq pc 35 then (.goto (-20), 0, 15, []) else am_nop) else (bif Nat.beq pc 32 then (.iinc 4 1, 1, 4, []) else am_nop)) else (bif Nat.ble 31 pc then (bif Nat.beq pc 31 then (.ireturn, 0, 0, []) else am_nop) else (bif Nat.beq pc 30 then (.iconst 0, 0, 0, []) else am_nop))))
def k_L_refused_2 (pc : Nat) : Ent := bif Nat.ble 62 pc then (bif Nat.beq pc 62 then (.ireturn, 0, 0, []) else am_nop) else (bif Nat.beq pc 61 then (.iconst 0, 0, 0, []) else am_nop)
def k_L_refused (pc : Nat) : Ent := bif Nat.ble 63 pc then am_nop else bif Nat.ble 30 pc then (bif Nat.ble 61 pc then (k_L_refused_2 pc) else (k_L_refused_1 pc)) else (k_L_refused_0 pc)
theorem ln_refused_78 : am_lnk RL 78 (dG 0 (d_B_count 15)) := ⟨⟨by decide, by decide⟩, am_tb 1 (by decide +kernel) rfl, Or.inr ⟨by decide, rfl, am_tb 420 (by decide +kernel) rfl, am_tb 421 (by decide +kernel) rfl, ⟨TX5, 10, rfl⟩, Or.inl (am_tb 419 (by decide +kernel) rfl)⟩⟩
theorem ln_refused_126 : am_lnk RL 126 (dG 0 (d_L_seen 0)) := ⟨⟨by decide, by decide⟩, am_tb 0 (by decide +kernel) rfl, Or.inl ⟨by decide, rfl, am_tb 773 (by decide +kernel) rfl, Or.inl ⟨by decide, am_tb 772 (by decide +kernel) rfl⟩⟩⟩
theorem ln_refused_130 : am_lnk RL 130 (dG 41 (d_L_refusesAny 0)) := ⟨⟨by decide, by decide⟩, am_tb 0 (by decide +kernel) rfl, Or.inl ⟨by decide, rfl, am_tb 781 (by decide +kernel) rfl, Or.inl ⟨by decide, am_tb 780 (by decide +kernel) rfl⟩⟩⟩
def m_L_refused : MI := (k_L_refused, [], [(78, (dG 0 (d_B_count 15))), (126, (dG 0 (d_L_seen 0))), (130, (dG 41 (d_L_refusesAny 0)))], [], [], [], [], 11, 224, some .boolean, fun h => (h.1 2000 0).toNatClampNeg, 165)
theorem chk_L_refused : ∀ pc, am_chk cL_refused k_L_refused pc = true := am_chkall 63 (by decide +kernel) (fun pc h => by unfold k_L_refused; rw [Nat.ble_eq_true_of_le h]; rfl)
theorem mok_L_refused : am_Mok RL cL_refused m_L_refused := ⟨chk_L_refused, am_n, am_c (ln_refused_78) (am_c (ln_refused_126) (am_c (ln_refused_130) am_n)), am_n, am_n⟩
def v_RX (h : HP) : Nat → HP
  | 0 => (v_L_seen_38 (am_si h 2000 0 (nI 0))).2
  | j + 1 => v_RA (am_si (v_RX h j) 2000 0 (nI (41 * j)))
def v_RF (h : HP) : HP := (v_L_seen_38 (am_si (v_RX h 4) 2000 0 (nI 164))).2
theorem RA_s {h : HP} {S : Sta} (hs : RS h S) (hx : S.2.2.2 = []) : RS (v_RA h) S := (loadE (hs.gs 18) hx (sh := []) (ro := [])).2.2.2.2.2
theorem RX_s {h : HP} {S : Sta} (hs : RS h S) (hx : S.2.2.2 = []) : ∀ j, RS (v_RX h j) S
  | 0 => (seen_s (hs.gs 0)).2.2
  | j + 1 => RA_s ((RX_s hs hx j).gs (41 * j)) hx
theorem RF_s {h : HP} {S : Sta} (hs : RS h S) (hx : S.2.2.2 = []) : RS (v_RF h) S := (seen_s ((RX_s hs hx 4).gs 164)).2.2
theorem seenE {h : HP} {S : Sta} (hs : RS h S) {sh ro : List Sh} : g_ok (c_g (d_L_seen 0) sh ro [.ref 38] h) = true ∧ g_pre (c_g (d_L_seen 0) sh ro [.ref 38] h) ∧ g_thr (c_g (d_L_seen 0) sh ro [.ref 38] h) = none ∧ g_val (c_g (d_L_seen 0) sh ro [.ref 38] h) = some (.long (seenV S.1)) ∧ g_hp (c_g (d_L_seen 0) sh ro [.ref 38] h) = (v_L_seen_38 h).2 := by
  obtain ⟨p, q, c⟩ := seen_s hs
  refine ⟨rfl, p, rfl, ?_, rfl⟩
  show some (Value.long (v_L_seen_38 h).1) = _; rw [q]
theorem refE {h : HP} {S : Sta} (hs : RS h S) (hx : S.2.2.2 = []) {j : Nat} (hj : j < 4) {sh ro : List Sh} : g_ok (c_g (d_L_refusesAny 0) sh ro [.ref 38, .int (nI j)] h) = true ∧ g_pre (c_g (d_L_refusesAny 0) sh ro [.ref 38, .int (nI j)] h) ∧ g_thr (c_g (d_L_refusesAny 0) sh ro [.ref 38, .int (nI j)] h) = none ∧ g_val (c_g (d_L_refusesAny 0) sh ro [.ref 38, .int (nI j)] h) = some (.int 1) ∧ g_hp (c_g (d_L_refusesAny 0) sh ro [.ref 38, .int (nI j)] h) = v_RA h := ⟨rfl, ⟨S, hs, hx, j, hj, rfl⟩, rfl, rfl, rfl⟩
theorem lg_self (x : Int64) : lg_cmp x x = 0 := by
  unfold lg_cmp
  rw [if_neg (Int64.lt_irrefl), if_pos rfl]
section RFD
variable {e1 e2 : List Sh} {P : AR → HP → Prop} {h : HP} {S : Sta}
abbrev rfL (v : Int64) (c : Int32) (x : Value) : List Value := [.ref 38, .long v, .retAddr 0, .int c, x]
set_option maxRecDepth 100000 in
theorem rf_end (hs : RS h S) (hx : S.2.2.2 = []) {x : Value} (hP : ∀ H : HP, (∀ k, k < 1900 → (v_RF h).1 k = H.1 k ∧ (v_RF h).2 k = H.2 k) → (H.1 2000 0).toNatClampNeg ≤ 164 → P (.inl (some (.int 1))) H) : am_Ev m_L_refused (WB ++ e1) (RO ++ e2) P (38, rfL (seenV S.1) (nI S.2.1.length) x, [], am_si (v_RX h 4) 2000 0 (nI 164)) := by
  have h4 := RX_s hs hx 4
  refine am_Ev_G [39] 5 _ ?_
  show am_Ev m_L_refused (WB ++ e1) (RO ++ e2) P (39, rfL (seenV S.1) (nI S.2.1.length) x, [.ref 38], am_si (v_RX h 4) 2000 0 (nI 164))
  refine wk_call false (i := 126) (cd := d_L_seen 0) (x := 0) (g := 164) (as := [.ref 38]) rfl rfl rfl rfl (Nat.le_of_ble_eq_true rfl) (fun _ => rfl) (Nat.le_of_ble_eq_true rfl) (by omega) (gs_at _ 164) (seenE (h4.gs 164)) ?_
  have h5 := RF_s hs hx
  refine am_Ev_G [44] 5 _ ?_
  show am_Ev m_L_refused (WB ++ e1) (RO ++ e2) P (44, rfL (seenV S.1) (nI S.2.1.length) x, [.int (lg_cmp (seenV S.1) (seenV S.1))], am_si (v_RF h) 2000 0 (nI 164))
  refine wk_ifne rfl (lg_self _) ?_
  refine am_Ev_G [50] 5 _ ?_
  show am_Ev m_L_refused (WB ++ e1) (RO ++ e2) P (50, rfL (seenV S.1) (nI S.2.1.length) x, [.int (nI 10), .ref 38], am_si (v_RF h) 2000 0 (nI 164))
  refine wk_call true (i := 78) (cd := d_B_count 15) (x := 0) (g := 164) (as := [.ref 38, .int (nI 10)]) rfl rfl rfl rfl (Nat.le_of_ble_eq_true rfl) (fun _ => rfl) (Nat.le_of_ble_eq_true rfl) (by omega) (gs_at _ 164) (cntE (k := 10) (h5.gs 164) (Nat.le_refl _) (cnt10 _)) ?_
  rw [am_si_si]
  refine am_Ev_G [54] 5 _ ?_
  show am_Ev m_L_refused (WB ++ e1) (RO ++ e2) P (54, rfL (seenV S.1) (nI S.2.1.length) x, [.int (nI S.2.1.length), .int (nI S.2.1.length)], am_si (v_RF h) 2000 0 (nI 164))
  refine wk_ne rfl rfl ?_
  refine am_Ev_G [62] 5 _ ?_
  show am_Ev m_L_refused (WB ++ e1) (RO ++ e2) P (62, rfL (seenV S.1) (nI S.2.1.length) x, [.int 1], am_si (v_RF h) 2000 0 (nI 164))
  refine wk_ret rfl rfl (.inr rfl) (hP _ (fun k hk => ⟨(ghost_ag _ _ k hk).1.symm, (ghost_ag _ _ k hk).2.symm⟩) ?_)
  rw [gs_at, nI_clamp (by omega)]; omega
set_option maxRecDepth 100000 in
theorem rf_loop (hs : RS h S) (hx : S.2.2.2 = []) (hP : ∀ H : HP, (∀ k, k < 1900 → (v_RF h).1 k = H.1 k ∧ (v_RF h).2 k = H.2 k) → (H.1 2000 0).toNatClampNeg ≤ 164 → P (.inl (some (.int 1))) H) : ∀ (n j : Nat), j + n = 4 → am_Ev m_L_refused (WB ++ e1) (RO ++ e2) P (15, rfL (seenV S.1) (nI S.2.1.length) (.int (nI j)), [], am_si (v_RX h j) 2000 0 (nI (41 * j)))
  | 0, j, hj => by
    have e : j = 4 := by omega
    subst e
    refine am_Ev_G [18] 5 _ ?_
    show am_Ev m_L_refused (WB ++ e1) (RO ++ e2) P (18, rfL (seenV S.1) (nI S.2.1.length) (.int (nI 4)), [.int 4, .int (nI 4)], am_si (v_RX h 4) 2000 0 (nI 164))
    refine wk_ge1 rfl (by decide) ?_
    exact rf_end hs hx hP
  | n + 1, j, hj => by
    refine am_Ev_G [18] 5 _ ?_
    show am_Ev m_L_refused (WB ++ e1) (RO ++ e2) P (18, rfL (seenV S.1) (nI S.2.1.length) (.int (nI j)), [.int 4, .int (nI j)], am_si (v_RX h j) 2000 0 (nI (41 * j)))
    refine wk_ge rfl (show nI j < 4 from nI_lt (b := 4) (by omega) (by omega)) ?_
    refine am_Ev_G [24] 5 _ ?_
    show am_Ev m_L_refused (WB ++ e1) (RO ++ e2) P (24, rfL (seenV S.1) (nI S.2.1.length) (.int (nI j)), [.int (nI j), .ref 38], am_si (v_RX h j) 2000 0 (nI (41 * j)))
    refine wk_call false (i := 130) (cd := d_L_refusesAny 0) (x := 41) (g := 41 * j) (as := [.ref 38, .int (nI j)]) rfl rfl rfl rfl (Nat.le_of_ble_eq_true rfl) (fun _ => rfl) (by show 41 * j + 41 + 1 ≤ 165; omega) (by omega) (gs_at _ (41 * j)) (refE ((RX_s hs hx j).gs (41 * j)) hx (by omega)) ?_
    show am_Ev m_L_refused (WB ++ e1) (RO ++ e2) P (27, rfL (seenV S.1) (nI S.2.1.length) (.int (nI j)), [.int 1], am_si (v_RX h (j + 1)) 2000 0 (nI (41 * j + 41)))
    refine wk_ifne1 rfl one0 ?_
    refine am_Ev_G [15] 5 _ ?_
    show am_Ev m_L_refused (WB ++ e1) (RO ++ e2) P (15, rfL (seenV S.1) (nI S.2.1.length) (.int (nI j + 1)), [], am_si (v_RX h (j + 1)) 2000 0 (nI (41 * j + 41)))
    rw [nI_1, show 41 * j + 41 = 41 * (j + 1) by omega]
    exact rf_loop hs hx hP n (j + 1) (by omega)
set_option maxRecDepth 100000 in
theorem rf_all (hs : RS h S) (hx : S.2.2.2 = []) (hP : ∀ H : HP, (∀ k, k < 1900 → (v_RF h).1 k = H.1 k ∧ (v_RF h).2 k = H.2 k) → (H.1 2000 0).toNatClampNeg ≤ 164 → P (.inl (some (.int 1))) H) : am_Ev m_L_refused (WB ++ e1) (RO ++ e2) P (0, [.ref 38, .retAddr 0, .retAddr 0, .retAddr 0, .retAddr 0], [], am_si h 2000 0 (nI 0)) := by
  refine am_Ev_G [1] 5 _ ?_
  show am_Ev m_L_refused (WB ++ e1) (RO ++ e2) P (1, [.ref 38, .retAddr 0, .retAddr 0, .retAddr 0, .retAddr 0], [.ref 38], am_si h 2000 0 (nI 0))
  refine wk_call false (i := 126) (cd := d_L_seen 0) (x := 0) (g := 0) (as := [.ref 38]) rfl rfl rfl rfl (Nat.le_of_ble_eq_true rfl) (fun _ => rfl) (Nat.le_of_ble_eq_true rfl) (by omega) (gs_at h 0) (seenE (hs.gs 0)) ?_
  refine am_Ev_G [8] 5 _ ?_
  show am_Ev m_L_refused (WB ++ e1) (RO ++ e2) P (8, [.ref 38, .long (seenV S.1), .retAddr 0, .retAddr 0, .retAddr 0], [.int (nI 10), .ref 38], am_si (v_RX h 0) 2000 0 (nI 0))
  refine wk_call true (i := 78) (cd := d_B_count 15) (x := 0) (g := 0) (as := [.ref 38, .int (nI 10)]) rfl rfl rfl rfl (Nat.le_of_ble_eq_true rfl) (fun _ => rfl) (Nat.le_of_ble_eq_true rfl) (by omega) (gs_at _ 0) (cntE (k := 10) ((RX_s hs hx 0).gs 0) (Nat.le_refl _) (cnt10 _)) ?_
  rw [am_si_si]
  refine am_Ev_G [15] 5 _ ?_
  show am_Ev m_L_refused (WB ++ e1) (RO ++ e2) P (15, rfL (seenV S.1) (nI S.2.1.length) (.int 0), [], am_si (v_RX h 0) 2000 0 (nI 0))
  exact rf_loop hs hx hP 4 0 rfl
end RFD
def g_L_refused (_ _ : List Sh) (as : List Value) (h : HP) : GR := match as with
  | [.ref o] => (Nat.beq o 38, (∃ S, RS h S ∧ S.2.2.2 = []), none, some (.int 1), v_RF h)
  | _ => bad h
def d_L_refused (k : Nat) : CD := (k, yL_refused, cL_refused, 5, some .boolean, 1, 11, 224, 164, false, true, g_L_refused)
theorem pf_L_refused : plainFor yL_refused = true := by decide +kernel
theorem cu_L_refused : Cond.code yL_refused cL_refused 5 (some .boolean) ∈ am_U := am_in_U (List.mem_append_right _ (List.mem_append_right _ (List.mem_append_right _ (List.mem_append_right _ (List.mem_of_getElem? (i := 59) (show tables_1_4[59]? = some _ from rfl)))))) rfl
theorem ok_L_refused {l : Launch} (hl : l.stackTraces = false) {e2 : List Sh} (he : e2.length ≤ 800) (k : Nat) : am_Ok l (WB ++ []) (RO ++ e2) (d_L_refused k) := by
  have hw : (WB ++ []).length ≤ 1000 := WB_len
  have hr : (RO ++ e2).length ≤ 900 := by rw [List.length_append]; have : RO.length = 5 := rfl; omega
  refine am_metB (own := RL) (M := m_L_refused) rfl pf_L_refused cu_L_refused rfl rfl rfl rfl (fun _ => rfl) rfl rfl mok_L_refused (am_c (ok_g 0 hw hr (ok_B_count hl [] _ 15)) (am_c (ok_g 0 hw hr (ok_L_seen hl [] _ 0)) (am_c (ok_g 41 hw hr (ok_L_refusesAny hl he 0)) am_n))) rfl ?_ hw hr ?_
  · intro as h _
    show g_thr (g_L_refused (WB ++ []) (RO ++ e2) as h) = none
    unfold g_L_refused
    split <;> rfl
  · intro as h
    show g_ok (g_L_refused (WB ++ []) (RO ++ e2) as h) = true → g_pre (g_L_refused (WB ++ []) (RO ++ e2) as h) → _ ∧ am_Ev _ _ _ (am_eqB (g_L_refused (WB ++ []) (RO ++ e2) as h) 164) _
    unfold g_L_refused
    split
    · rename_i o
      intro hg hp
      obtain rfl := am_beq hg
      obtain ⟨S, hs, hx⟩ := hp
      refine ⟨Nat.le_of_ble_eq_true rfl, ?_⟩
      exact rf_all hs hx (fun H a b => ⟨rfl, a, b⟩)
    · exact fun z => nomatch z
theorem dz_refused {ro : List Sh} {S : Sta} (hx : S.2.2.2 = []) : Dz (d_L_refused 0) ro [] S (.int 1) S := fun h hs => ⟨rfl, ⟨S, hs, hx⟩, rfl, rfl, RF_s hs hx⟩
theorem nv_refused {ro : List Sh} : ∀ as h v, g_val (c_g (d_L_refused 0) WB ro as h) = some v → isN v = true := fun as h v e => by
  have e : g_val (g_L_refused WB ro as h) = some v := e
  unfold g_L_refused at e
  split at e
  · cases e; rfl
  · cases e
end
