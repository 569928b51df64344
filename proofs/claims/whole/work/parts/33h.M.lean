/-! BusBlocksModel, out of its code (written by gen/meth.py). -/
noncomputable section
def k_M_failed (pc : Nat) : Ent := bif Nat.ble 34 pc then am_nop else bif Nat.ble 18 pc then (bif Nat.ble 25 pc then (bif Nat.ble 29 pc then (bif Nat.ble 32 pc then (bif Nat.ble 33 pc then (bif Nat.beq pc 33 then (.ireturn, 0, 0, []) else am_nop) else (bif Nat.beq pc 32 then (.iload_n 2, 0, 2, []) else am_nop)) else (bif Nat.beq pc 29 then (.invokestatic 45, 0, 0, []) else am_nop)) else (bif Nat.ble 28 pc then (bif Nat.beq pc 28 then (.iconst 0, 0, 0, []) else am_nop) else (bif Nat.beq pc 25 then (.getfield 7, 0, 0, []) else am_nop))) else (bif Nat.ble 20 pc then (bif Nat.ble 23 pc then (bif Nat.ble 24 pc then (bif Nat.beq pc 24 then (.aload_n 0, 0, 0, []) else am_nop) else (bif Nat.beq pc 23 then (.iconst 0, 0, 0, []) else am_nop)) else (bif Nat.beq pc 20 then (.getfield 13, 0, 0, []) else am_nop)) else (bif Nat.ble 19 pc then (bif Nat.beq pc 19 then (.aload_n 0, 0, 0, []) else am_nop) else (bif Nat.beq pc 18 then (.istore_n 2, 0, 2, []) else am_nop)))) else (bif Nat.ble 9 pc then (bif Nat.ble 13 pc then (bif Nat.ble 14 pc then (bif Nat.ble 15 pc then (bif Nat.beq pc 15 then (.invokevirtual 160, 0, 0, []) else am_nop) else (bif Nat.beq pc 14 then (.iload_n 1, 0, 1, []) else am_nop)) else (bif Nat.beq pc 13 then (.aload_n 0, 0, 0, []) else am_nop)) else (bif Nat.ble 10 pc then (bif Nat.beq pc 10 then (.invokestatic 45, 0, 0, []) else am_nop) else (bif Nat.beq pc 9 then (.iconst 0, 0, 0, []) else am_nop))) else (bif Nat.ble 4 pc then (bif Nat.ble 5 pc then (bif Nat.ble 6 pc then (bif Nat.beq pc 6 then (.getfield 13, 0, 0, []) else am_nop) else (bif Nat.beq pc 5 then (.aload_n 0, 0, 0, []) else am_nop)) else (bif Nat.beq pc 4 then (.iconst 0, 0, 0, []) else am_nop)) else (bif Nat.ble 1 pc then (bif Nat.beq pc 1 then (.getfield 7, 0, 0, []) else am_nop) else (bif Nat.beq pc 0 then (.aload_n 0, 0, 0, []) else am_nop))))
def m_M_failed : MI := (k_M_failed, [(7, 6, 0), (13, 6, 1)], [(45, d_M_lays 0), (160, d_M_fails 16)], [], [], [], [], 4, 93, some .int, fun _ => 0, 1)
def v_M_failed (h : HP) (a1 : Int32) : Int32 × HP := (bnd (v_M_fails (v_lays h 1 0 2 0) a1) fun y1 => (y1.1, (v_lays y1.2 2 0 1 0)))
def p_M_failed (h : HP) (a1 : Int32) : Prop := ((p_lays 0 0 163 163) ∧ ((p_M_fails (v_lays h 1 0 2 0) a1) ∧ (∀ y1, v_M_fails (v_lays h 1 0 2 0) a1 = y1 → (p_lays 0 0 163 163))))
def g_M_failed (_ _ : List Sh) (as : List Value) (h : HP) : GR := match as with
  | [.ref o1, .int a1] => (Nat.beq o1 0, p_M_failed h a1, none, some (.int (v_M_failed h a1).1), (v_M_failed h a1).2)
  | _ => bad h
def d_M_failed (k : Nat) : CD := (k, yX6_failed, cX6_failed, 3, some .int, 2, 4, 93, 0, false, true, g_M_failed)
theorem chk_M_failed : ∀ pc, am_chk cX6_failed k_M_failed pc = true := am_chkall 34 (by decide +kernel) (fun pc h => by unfold k_M_failed; rw [Nat.ble_eq_true_of_le h]; rfl)
theorem pf_M_failed : plainFor yX6_failed = true := by decide +kernel
theorem cu_M_failed : Cond.code yX6_failed cX6_failed 3 (some .int) ∈ am_U := am_tb 1284 (by decide +kernel) rfl
set_option maxHeartbeats 20000000 in
set_option maxRecDepth 100000 in
theorem ev_M_failed {e1 ro : List Sh} {P : AR → HP → Prop} (h : HP) (a1 : Int32) (hp : p_M_failed h a1) (hP : ∀ q, v_M_failed h a1 = q → RIW P h q) : am_Ev m_M_failed (WM ++ e1) ro P (0, [.ref 0, .int a1, .retAddr 0], [], h) := by
  unfold p_M_failed at hp
  refine am_Ev_G [13] 400 _ ?_
  show ((p_lays 0 0 163 163) ∧ am_Ev m_M_failed (WM ++ e1) ro P (13, [.ref 0, .int a1, .retAddr 0], [], (v_lays h 1 0 2 0)))
  obtain ⟨hob, hp⟩ := hp
  refine ⟨hob, ?_⟩
  refine am_Ev_G [18] 400 _ ?_
  show ((p_M_fails (v_lays h 1 0 2 0) a1) ∧ am_Ev m_M_failed (WM ++ e1) ro P (18, [.ref 0, .int a1, .retAddr 0], [.int ((v_M_fails (v_lays h 1 0 2 0) a1).1)], ((v_M_fails (v_lays h 1 0 2 0) a1).2)))
  obtain ⟨hob, hp⟩ := hp
  refine ⟨hob, ?_⟩
  obtain ⟨y1, c1⟩ : ∃ y, v_M_fails (v_lays h 1 0 2 0) a1 = y := ⟨_, rfl⟩
  rw [c1]
  have hp := hp _ c1
  show am_Ev m_M_failed (WM ++ e1) ro P (18, [.ref 0, .int a1, .retAddr 0], [.int y1.1], y1.2)
  refine am_Ev_G [32] 400 _ ?_
  show ((p_lays 0 0 163 163) ∧ am_Ev m_M_failed (WM ++ e1) ro P (32, [.ref 0, .int a1, .int y1.1], [], (v_lays y1.2 2 0 1 0)))
  refine ⟨hp, ?_⟩
  refine am_Ev_G [] 400 _ ?_
  show P (.inl (some (.int y1.1))) (v_lays y1.2 2 0 1 0)
  exact hP (y1.1, (v_lays y1.2 2 0 1 0)) (by unfold v_M_failed; simp only [bnd, c1])
theorem ok_M_failed {l : Launch} (hl : l.stackTraces = false) (e1 ro : List Sh) (k : Nat) : am_Ok l (WM ++ e1) ro (d_M_failed k) := by
  refine am_met hl (own := RX6) (M := m_M_failed) rfl pf_M_failed cu_M_failed rfl rfl rfl rfl (fun _ => rfl) rfl ⟨chk_M_failed, (am_c (fl_M_7) (am_c (fl_M_13) am_n)), (am_c (lk_M_45) (am_c (lk_M_160) am_n)), (am_n), (am_n)⟩ (am_n) (am_c (ok_M_lays hl _ _ 0) (am_c (ok_M_fails hl e1 _ 16) am_n)) (fun z => nomatch z) ?_ ?_
  · intro _ as h hg
    show g_thr (g_M_failed (WM ++ e1) ro as h) = none
    unfold g_M_failed
    split <;> rfl
  · intro as h hg hp
    revert hg hp
    show g_ok (g_M_failed (WM ++ e1) ro as h) = true → g_pre (g_M_failed (WM ++ e1) ro as h) → _ ∧ am_Ev m_M_failed (WM ++ e1) ro (am_eq (g_M_failed (WM ++ e1) ro as h)) (0, am_ent as 3, [], h)
    unfold g_M_failed
    split
    · rename_i o1 a1
      intro hc hp
      change (Nat.beq o1 0) = true at hc
      obtain rfl := am_beq hc
      exact ⟨Nat.le_of_ble_eq_true rfl, ev_M_failed h a1 hp eqRIW⟩
    · exact fun z => nomatch z
def k_M_ifFailed (pc : Nat) : Ent := bif Nat.ble 41 pc then am_nop else bif Nat.ble 19 pc then (bif Nat.ble 29 pc then (bif Nat.ble 36 pc then (bif Nat.ble 37 pc then (bif Nat.ble 40 pc then (bif Nat.beq pc 40 then (.ireturn, 0, 0, []) else am_nop) else (bif Nat.beq pc 37 then (.invokevirtual 134, 0, 0, []) else am_nop)) else (bif Nat.beq pc 36 then (.iconst 2, 2, 0, []) else am_nop)) else (bif Nat.ble 32 pc then (bif Nat.ble 35 pc then (bif Nat.beq pc 35 then (.aload_n 0, 0, 0, []) else am_nop) else (bif Nat.beq pc 32 then (.goto 8, 0, 40, []) else am_nop)) else (bif Nat.beq pc 29 then (.invokevirtual 255, 0, 0, []) else am_nop))) else (bif Nat.ble 24 pc then (bif Nat.ble 27 pc then (bif Nat.ble 28 pc then (bif Nat.beq pc 28 then (.iload_n 1, 0, 1, []) else am_nop) else (bif Nat.beq pc 27 then (.aload_n 0, 0, 0, []) else am_nop)) else (bif Nat.beq pc 24 then (.ifCond .eq 11, 0, 35, []) else am_nop)) else (bif Nat.ble 20 pc then (bif Nat.ble 21 pc then (bif Nat.beq pc 21 then (.invokevirtual 60, 0, 0, []) else am_nop) else (bif Nat.beq pc 20 then (.iload_n 1, 0, 1, []) else am_nop)) else (bif Nat.beq pc 19 then (.aload_n 0, 0, 0, []) else am_nop)))) else (bif Nat.ble 7 pc then (bif Nat.ble 14 pc then (bif Nat.ble 15 pc then (bif Nat.ble 18 pc then (bif Nat.beq pc 18 then (.ireturn, 0, 0, []) else am_nop) else (bif Nat.beq pc 15 then (.invokevirtual 134, 0, 0, []) else am_nop)) else (bif Nat.beq pc 14 then (.iconst 1, 1, 0, []) else am_nop)) else (bif Nat.ble 10 pc then (bif Nat.ble 13 pc then (bif Nat.beq pc 13 then (.aload_n 0, 0, 0, []) else am_nop) else (bif Nat.beq pc 10 then (.ifCond .ne 9, 0, 19, []) else am_nop)) else (bif Nat.beq pc 7 then (.invokevirtual 148, 0, 0, []) else am_nop))) else (bif Nat.ble 2 pc then (bif Nat.ble 5 pc then (bif Nat.ble 6 pc then (bif Nat.beq pc 6 then (.iload_n 1, 0, 1, []) else am_nop) else (bif Nat.beq pc 5 then (.aload_n 0, 0, 0, []) else am_nop)) else (bif Nat.beq pc 2 then (.putfield 38, 0, 0, []) else am_nop)) else (bif Nat.ble 1 pc then (bif Nat.beq pc 1 then (.iconst 0, 0, 0, []) else am_nop) else (bif Nat.beq pc 0 then (.aload_n 0, 0, 0, []) else am_nop))))
theorem lk_M_255 : am_lnk RX6 255 (d_M_failed 16) := ⟨⟨by decide, by decide⟩, am_tb 8 (by decide +kernel) rfl, Or.inr ⟨by decide, rfl, am_tb 1283 (by decide +kernel) rfl, am_tp 125 (by decide +kernel) rfl, ⟨TX6, 16, rfl⟩, Or.inl (am_tb 1281 (by decide +kernel) rfl)⟩⟩
def m_M_ifFailed : MI := (k_M_ifFailed, [(38, 6, 8)], [(60, d_M_isRun 16), (134, d_M_refuses 16), (148, d_M_isTrip 16), (255, d_M_failed 16)], [], [], [], [], 5, 115, some .int, fun _ => 0, 1)
def v_M_ifFailed (h : HP) (a1 : Int32) : Int32 × HP := (if (v_M_isTrip (am_si h 0 8 0) a1) = 0 then (bnd (v_M_refuses (am_si h 0 8 0) 1) fun y3 => (y3.1, y3.2)) else (if (v_M_isRun (am_si h 0 8 0) a1) = 0 then (bnd (v_M_refuses (am_si h 0 8 0) 2) fun y1 => (y1.1, y1.2)) else (bnd (v_M_failed (am_si h 0 8 0) a1) fun y2 => (y2.1, y2.2))))
def p_M_ifFailed (h : HP) (a1 : Int32) : Prop := ((p_M_isTrip (am_si h 0 8 0) a1) ∧ (((v_M_isTrip (am_si h 0 8 0) a1) = 0 → True) ∧ (¬ (v_M_isTrip (am_si h 0 8 0) a1) = 0 → ((p_M_isRun (am_si h 0 8 0) a1) ∧ (((v_M_isRun (am_si h 0 8 0) a1) = 0 → True) ∧ (¬ (v_M_isRun (am_si h 0 8 0) a1) = 0 → (p_M_failed (am_si h 0 8 0) a1)))))))
def g_M_ifFailed (_ _ : List Sh) (as : List Value) (h : HP) : GR := match as with
  | [.ref o1, .int a1] => (Nat.beq o1 0, p_M_ifFailed h a1, none, some (.int (v_M_ifFailed h a1).1), (v_M_ifFailed h a1).2)
  | _ => bad h
def d_M_ifFailed (k : Nat) : CD := (k, yX6_ifFailed, cX6_ifFailed, 2, some .int, 2, 5, 115, 0, false, true, g_M_ifFailed)
theorem chk_M_ifFailed : ∀ pc, am_chk cX6_ifFailed k_M_ifFailed pc = true := am_chkall 41 (by decide +kernel) (fun pc h => by unfold k_M_ifFailed; rw [Nat.ble_eq_true_of_le h]; rfl)
theorem pf_M_ifFailed : plainFor yX6_ifFailed = true := by decide +kernel
theorem cu_M_ifFailed : Cond.code yX6_ifFailed cX6_ifFailed 2 (some .int) ∈ am_U := am_tb 1280 (by decide +kernel) rfl
set_option maxHeartbeats 20000000 in
set_option maxRecDepth 100000 in
theorem ev_M_ifFailed {e1 ro : List Sh} {P : AR → HP → Prop} (h : HP) (a1 : Int32) (hp : p_M_ifFailed h a1) (hP : ∀ q, v_M_ifFailed h a1 = q → RIW P h q) : am_Ev m_M_ifFailed (WM ++ e1) ro P (0, [.ref 0, .int a1], [], h) := by
  unfold p_M_ifFailed at hp
  refine am_Ev_G [5] 400 _ ?_
  show am_Ev m_M_ifFailed (WM ++ e1) ro P (5, [.ref 0, .int a1], [], (am_si h 0 8 0))
  refine am_Ev_G [18, 32, 40] 400 _ ?_
  show ((p_M_isTrip (am_si h 0 8 0) a1) ∧ ((¬ (v_M_isTrip (am_si h 0 8 0) a1) = 0 → ((p_M_isRun (am_si h 0 8 0) a1) ∧ (((v_M_isRun (am_si h 0 8 0) a1) = 0 → am_Ev m_M_ifFailed (WM ++ e1) ro P (40, [.ref 0, .int a1], [.int ((v_M_refuses (am_si h 0 8 0) 2).1)], ((v_M_refuses (am_si h 0 8 0) 2).2))) ∧ (¬ (v_M_isRun (am_si h 0 8 0) a1) = 0 → ((p_M_failed (am_si h 0 8 0) a1) ∧ am_Ev m_M_ifFailed (WM ++ e1) ro P (32, [.ref 0, .int a1], [.int ((v_M_failed (am_si h 0 8 0) a1).1)], ((v_M_failed (am_si h 0 8 0) a1).2))))))) ∧ ((v_M_isTrip (am_si h 0 8 0) a1) = 0 → am_Ev m_M_ifFailed (WM ++ e1) ro P (18, [.ref 0, .int a1], [.int ((v_M_refuses (am_si h 0 8 0) 1).1)], ((v_M_refuses (am_si h 0 8 0) 1).2)))))
  obtain ⟨hob, hp⟩ := hp
  refine ⟨hob, ?_⟩
  refine ⟨fun c1 => ?_, fun c1 => ?_⟩
  · have hp := hp.2 c1
    obtain ⟨hob, hp⟩ := hp
    refine ⟨hob, ?_⟩
    refine ⟨fun c2 => ?_, fun c2 => ?_⟩
    · skip
      obtain ⟨y1, c3⟩ : ∃ y, v_M_refuses (am_si h 0 8 0) 2 = y := ⟨_, rfl⟩
      rw [c3]
      show am_Ev m_M_ifFailed (WM ++ e1) ro P (40, [.ref 0, .int a1], [.int y1.1], y1.2)
      refine am_Ev_G [] 400 _ ?_
      show P (.inl (some (.int y1.1))) y1.2
      exact hP (y1.1, y1.2) (by unfold v_M_ifFailed; simp only [if_neg c1, if_pos c2, bnd, c3])
    · have hp := hp.2 c2
      refine ⟨hp, ?_⟩
      obtain ⟨y2, c4⟩ : ∃ y, v_M_failed (am_si h 0 8 0) a1 = y := ⟨_, rfl⟩
      rw [c4]
      show am_Ev m_M_ifFailed (WM ++ e1) ro P (32, [.ref 0, .int a1], [.int y2.1], y2.2)
      refine am_Ev_G [40] 400 _ ?_
      show am_Ev m_M_ifFailed (WM ++ e1) ro P (40, [.ref 0, .int a1], [.int y2.1], y2.2)
      refine am_Ev_G [] 400 _ ?_
      show P (.inl (some (.int y2.1))) y2.2
      exact hP (y2.1, y2.2) (by unfold v_M_ifFailed; simp only [if_neg c1, if_neg c2, bnd, c4])
  · skip
    obtain ⟨y3, c5⟩ : ∃ y, v_M_refuses (am_si h 0 8 0) 1 = y := ⟨_, rfl⟩
    rw [c5]
    show am_Ev m_M_ifFailed (WM ++ e1) ro P (18, [.ref 0, .int a1], [.int y3.1], y3.2)
    refine am_Ev_G [] 400 _ ?_
    show P (.inl (some (.int y3.1))) y3.2
    exact hP (y3.1, y3.2) (by unfold v_M_ifFailed; simp only [if_pos c1, bnd, c5])
theorem ok_M_ifFailed {l : Launch} (hl : l.stackTraces = false) (e1 ro : List Sh) (k : Nat) : am_Ok l (WM ++ e1) ro (d_M_ifFailed k) := by
  refine am_met hl (own := RX6) (M := m_M_ifFailed) rfl pf_M_ifFailed cu_M_ifFailed rfl rfl rfl rfl (fun _ => rfl) rfl ⟨chk_M_ifFailed, (am_c (fl_M_38) am_n), (am_c (lk_M_60) (am_c (lk_M_134) (am_c (lk_M_148) (am_c (lk_M_255) am_n)))), (am_n), (am_n)⟩ (am_n) (am_c (ok_M_isRun hl e1 _ 16) (am_c (ok_M_refuses hl e1 _ 16) (am_c (ok_M_isTrip hl e1 _ 16) (am_c (ok_M_failed hl e1 _ 16) am_n)))) (fun z => nomatch z) ?_ ?_
  · intro _ as h hg
    show g_thr (g_M_ifFailed (WM ++ e1) ro as h) = none
    unfold g_M_ifFailed
    split <;> rfl
  · intro as h hg hp
    revert hg hp
    show g_ok (g_M_ifFailed (WM ++ e1) ro as h) = true → g_pre (g_M_ifFailed (WM ++ e1) ro as h) → _ ∧ am_Ev m_M_ifFailed (WM ++ e1) ro (am_eq (g_M_ifFailed (WM ++ e1) ro as h)) (0, am_ent as 2, [], h)
    unfold g_M_ifFailed
    split
    · rename_i o1 a1
      intro hc hp
      change (Nat.beq o1 0) = true at hc
      obtain rfl := am_beq hc
      exact ⟨Nat.le_of_ble_eq_true rfl, ev_M_ifFailed h a1 hp eqRIW⟩
    · exact fun z => nomatch z
end
