/-! Duties, out of its code (written by gen/meth.py). -/
noncomputable section
def k_U_mayEnd (pc : Nat) : Ent := bif Nat.ble 36 pc then am_nop else bif Nat.ble 19 pc then (bif Nat.ble 27 pc then (bif Nat.ble 31 pc then (bif Nat.ble 34 pc then (bif Nat.ble 35 pc then (bif Nat.beq pc 35 then (.ireturn, 0, 0, []) else am_nop) else (bif Nat.beq pc 34 then (.iconst 0, 0, 0, []) else am_nop)) else (bif Nat.beq pc 31 then (.goto 4, 0, 35, []) else am_nop)) else (bif Nat.ble 30 pc then (bif Nat.beq pc 30 then (.iconst 1, 1, 0, []) else am_nop) else (bif Nat.beq pc 27 then (.if_icmp .ne 7, 0, 34, []) else am_nop))) else (bif Nat.ble 23 pc then (bif Nat.ble 26 pc then (bif Nat.beq pc 26 then (.iconst 1, 1, 0, []) else am_nop) else (bif Nat.beq pc 23 then (.invokestatic 27, 0, 0, []) else am_nop)) else (bif Nat.ble 20 pc then (bif Nat.beq pc 20 then (.invokestatic 27, 0, 0, []) else am_nop) else (bif Nat.beq pc 19 then (.iload_n 1, 0, 1, []) else am_nop)))) else (bif Nat.ble 6 pc then (bif Nat.ble 12 pc then (bif Nat.ble 13 pc then (bif Nat.ble 16 pc then (bif Nat.beq pc 16 then (.getfield 24, 0, 0, []) else am_nop) else (bif Nat.beq pc 13 then (.getfield 9, 0, 0, []) else am_nop)) else (bif Nat.beq pc 12 then (.aload_n 0, 0, 0, []) else am_nop)) else (bif Nat.ble 9 pc then (bif Nat.beq pc 9 then (.getfield 19, 0, 0, []) else am_nop) else (bif Nat.beq pc 6 then (.getfield 9, 0, 0, []) else am_nop))) else (bif Nat.ble 2 pc then (bif Nat.ble 5 pc then (bif Nat.beq pc 5 then (.aload_n 0, 0, 0, []) else am_nop) else (bif Nat.beq pc 2 then (.if_icmp .eq 28, 0, 30, []) else am_nop)) else (bif Nat.ble 1 pc then (bif Nat.beq pc 1 then (.iconst (-1), (-1 : Int32), 0, []) else am_nop) else (bif Nat.beq pc 0 then (.iload_n 2, 0, 2, []) else am_nop))))
theorem fl_U_9 : am_fok RX1 9 (1, 0) := ⟨RX1, TX1, 2, rfl, by decide, rfl, Or.inl (am_tb 148 (by decide +kernel) rfl)⟩
theorem fl_U_19 : am_fok RX1 19 (4, 9) := ⟨RX4, TX4, 15, rfl, by decide, rfl, Or.inr ⟨"BusBlocks", am_tb 70 (by decide +kernel) rfl⟩⟩
theorem fl_U_24 : am_fok RX1 24 (4, 2) := ⟨RX4, TX4, 15, rfl, by decide, rfl, Or.inr ⟨"BusBlocks", am_tb 50 (by decide +kernel) rfl⟩⟩
theorem lk_U_27 : am_lnk RX1 27 (d_B_at 1) := ⟨⟨by decide, by decide⟩, am_tb 1 (by decide +kernel) rfl, Or.inl ⟨by decide, rfl, am_tb 361 (by decide +kernel) rfl, Or.inr ⟨rfl, "BusBlocks", am_tb 502 (by decide +kernel) rfl⟩⟩⟩
def m_U_mayEnd : MI := (k_U_mayEnd, [(9, 1, 0), (19, 4, 9), (24, 4, 2)], [(27, d_B_at 1)], [], [], [], [], 1, 23, some .boolean, fun _ => 0, 1)
def v_U_mayEnd (h : HP) (a1 : Int32) (a2 : Int32) : Int32 := (if a2 = (-1 : Int32) then (1 : Int32) else (if (v_at 4 (h.1 10) (v_at 20 (h.1 3) a1)) = 1 then (1 : Int32) else 0))
def g_U_mayEnd (_ _ : List Sh) (as : List Value) (h : HP) : GR := match as with
  | [.ref o1, .int a1, .int a2] => (Nat.beq o1 16, True, none, some (.int (v_U_mayEnd h a1 a2)), h)
  | _ => bad h
def d_U_mayEnd (k : Nat) : CD := (k, yX1_mayEnd, cX1_mayEnd, 3, some .boolean, 3, 1, 23, 0, false, false, g_U_mayEnd)
theorem chk_U_mayEnd : ∀ pc, am_chk cX1_mayEnd k_U_mayEnd pc = true := am_chkall 36 (by decide +kernel) (fun pc h => by unfold k_U_mayEnd; rw [Nat.ble_eq_true_of_le h]; rfl)
theorem pf_U_mayEnd : plainFor yX1_mayEnd = true := by decide +kernel
theorem cu_U_mayEnd : Cond.code yX1_mayEnd cX1_mayEnd 3 (some .boolean) ∈ am_U := am_tb 507 (by decide +kernel) rfl
set_option maxRecDepth 100000 in
theorem ev_U_mayEnd {e1 ro : List Sh} {P : AR → HP → Prop} (h : HP) (a1 : Int32) (a2 : Int32) (hP : ∀ q, v_U_mayEnd h a1 a2 = q → RI P h q) : am_Ev m_U_mayEnd (WW ++ e1) ro P (0, [.ref 16, .int a1, .int a2], [], h) := by
  refine am_Ev_G [2] 400 _ ?_
  show am_Ev m_U_mayEnd (WW ++ e1) ro P (2, [.ref 16, .int a1, .int a2], [.int (-1 : Int32), .int a2], h)
  have key1 : am_Ev m_U_mayEnd (WW ++ e1) ro P (35, [.ref 16, .int a1, .int a2], [.int (if a2 = (-1 : Int32) then (1 : Int32) else (if (v_at 4 (h.1 10) (v_at 20 (h.1 3) a1)) = 1 then (1 : Int32) else 0))], h) := by
    refine am_Ev_G [] 400 _ ?_
    show (((((if a2 = (-1 : Int32) then (1 : Int32) else (if (v_at 4 (h.1 10) (v_at 20 (h.1 3) a1)) = 1 then (1 : Int32) else 0)) : Int32) = 0 ∨ ((if a2 = (-1 : Int32) then (1 : Int32) else (if (v_at 4 (h.1 10) (v_at 20 (h.1 3) a1)) = 1 then (1 : Int32) else 0)) : Int32) = 1)) ∧ P (.inl (some (.int (if a2 = (-1 : Int32) then (1 : Int32) else (if (v_at 4 (h.1 10) (v_at 20 (h.1 3) a1)) = 1 then (1 : Int32) else 0))))) h)
    refine ⟨(by (repeat' split) <;> decide), ?_⟩
    exact hP (if a2 = (-1 : Int32) then (1 : Int32) else (if (v_at 4 (h.1 10) (v_at 20 (h.1 3) a1)) = 1 then (1 : Int32) else 0)) rfl
  refine am_Ev_G [35] 400 _ ?_
  show ((a2 = (-1 : Int32) → am_Ev m_U_mayEnd (WW ++ e1) ro P (35, [.ref 16, .int a1, .int a2], [.int 1], h)) ∧ (¬ a2 = (-1 : Int32) → ((¬ (v_at 4 (h.1 10) (v_at 20 (h.1 3) a1)) = 1 → am_Ev m_U_mayEnd (WW ++ e1) ro P (35, [.ref 16, .int a1, .int a2], [.int 0], h)) ∧ ((v_at 4 (h.1 10) (v_at 20 (h.1 3) a1)) = 1 → am_Ev m_U_mayEnd (WW ++ e1) ro P (35, [.ref 16, .int a1, .int a2], [.int 1], h)))))
  refine ⟨fun c2 => ?_, fun c2 => ?_⟩
  · skip
    simpa only [if_pos c2] using key1
  · skip
    refine ⟨fun c3 => ?_, fun c3 => ?_⟩
    · skip
      simpa only [if_neg c2, if_neg c3] using key1
    · skip
      simpa only [if_neg c2, if_pos c3] using key1
theorem ok_U_mayEnd {l : Launch} (hl : l.stackTraces = false) (e1 ro : List Sh) (k : Nat) : am_Ok l (WW ++ e1) ro (d_U_mayEnd k) := by
  refine am_met hl (own := RX1) (M := m_U_mayEnd) rfl pf_U_mayEnd cu_U_mayEnd rfl rfl rfl rfl (fun _ => rfl) rfl ⟨chk_U_mayEnd, (am_c (fl_U_9) (am_c (fl_U_19) (am_c (fl_U_24) am_n))), (am_c (lk_U_27) am_n), (am_n), (am_n)⟩ (am_n) (am_c (ok_B_at hl _ _ 1) am_n) ?_ ?_ ?_
  · intro _ as h hg
    show g_pre (g_U_mayEnd (WW ++ e1) ro as h)
    unfold g_U_mayEnd
    split <;> exact trivial
  · intro _ as h hg
    show g_thr (g_U_mayEnd (WW ++ e1) ro as h) = none
    unfold g_U_mayEnd
    split <;> rfl
  · intro as h hg hp
    revert hg hp
    show g_ok (g_U_mayEnd (WW ++ e1) ro as h) = true → g_pre (g_U_mayEnd (WW ++ e1) ro as h) → _ ∧ am_Ev m_U_mayEnd (WW ++ e1) ro (am_eq (g_U_mayEnd (WW ++ e1) ro as h)) (0, am_ent as 3, [], h)
    unfold g_U_mayEnd
    split
    · rename_i o1 a1 a2
      intro hc hp
      change (Nat.beq o1 16) = true at hc
      obtain rfl := am_beq hc
      exact ⟨Nat.le_of_ble_eq_true rfl, ev_U_mayEnd h a1 a2 eqRI⟩
    · exact fun z => nomatch z
def k_U_latestEnd (pc : Nat) : Ent := bif Nat.ble 24 pc then am_nop else bif Nat.ble 12 pc then (bif Nat.ble 19 pc then (bif Nat.ble 22 pc then (bif Nat.ble 23 pc then (bif Nat.beq pc 23 then (.ireturn, 0, 0, []) else am_nop) else (bif Nat.beq pc 22 then (.iadd, 0, 0, []) else am_nop)) else (bif Nat.beq pc 19 then (.invokestatic 27, 0, 0, []) else am_nop)) else (bif Nat.ble 15 pc then (bif Nat.ble 18 pc then (bif Nat.beq pc 18 then (.iconst 1, 1, 0, []) else am_nop) else (bif Nat.beq pc 15 then (.getfield 34, 0, 0, []) else am_nop)) else (bif Nat.beq pc 12 then (.getfield 9, 0, 0, []) else am_nop))) else (bif Nat.ble 7 pc then (bif Nat.ble 8 pc then (bif Nat.ble 11 pc then (bif Nat.beq pc 11 then (.aload_n 0, 0, 0, []) else am_nop) else (bif Nat.beq pc 8 then (.invokestatic 27, 0, 0, []) else am_nop)) else (bif Nat.beq pc 7 then (.iload_n 1, 0, 1, []) else am_nop)) else (bif Nat.ble 1 pc then (bif Nat.ble 4 pc then (bif Nat.beq pc 4 then (.getfield 31, 0, 0, []) else am_nop) else (bif Nat.beq pc 1 then (.getfield 9, 0, 0, []) else am_nop)) else (bif Nat.beq pc 0 then (.aload_n 0, 0, 0, []) else am_nop)))
theorem fl_U_31 : am_fok RX1 31 (4, 3) := ⟨RX4, TX4, 15, rfl, by decide, rfl, Or.inr ⟨"BusBlocks", am_tb 55 (by decide +kernel) rfl⟩⟩
theorem fl_U_34 : am_fok RX1 34 (4, 10) := ⟨RX4, TX4, 15, rfl, by decide, rfl, Or.inr ⟨"BusBlocks", am_tb 73 (by decide +kernel) rfl⟩⟩
def m_U_latestEnd : MI := (k_U_latestEnd, [(9, 1, 0), (31, 4, 3), (34, 4, 10)], [(27, d_B_at 1)], [], [], [], [], 1, 23, some .int, fun _ => 0, 1)
def v_U_latestEnd (h : HP) (a1 : Int32) : Int32 := ((v_at 20 (h.1 4) a1) + (v_at 4 (h.1 11) 1))
def g_U_latestEnd (_ _ : List Sh) (as : List Value) (h : HP) : GR := match as with
  | [.ref o1, .int a1] => (Nat.beq o1 16, True, none, some (.int (v_U_latestEnd h a1)), h)
  | _ => bad h
def d_U_latestEnd (k : Nat) : CD := (k, yX1_latestEnd, cX1_latestEnd, 2, some .int, 2, 1, 23, 0, false, false, g_U_latestEnd)
theorem chk_U_latestEnd : ∀ pc, am_chk cX1_latestEnd k_U_latestEnd pc = true := am_chkall 24 (by decide +kernel) (fun pc h => by unfold k_U_latestEnd; rw [Nat.ble_eq_true_of_le h]; rfl)
theorem pf_U_latestEnd : plainFor yX1_latestEnd = true := by decide +kernel
theorem cu_U_latestEnd : Cond.code yX1_latestEnd cX1_latestEnd 2 (some .int) ∈ am_U := am_tb 501 (by decide +kernel) rfl
set_option maxRecDepth 100000 in
theorem ev_U_latestEnd {e1 ro : List Sh} {P : AR → HP → Prop} (h : HP) (a1 : Int32) (hP : ∀ q, v_U_latestEnd h a1 = q → RI P h q) : am_Ev m_U_latestEnd (WW ++ e1) ro P (0, [.ref 16, .int a1], [], h) := by
  refine am_Ev_G [22] 400 _ ?_
  show am_Ev m_U_latestEnd (WW ++ e1) ro P (22, [.ref 16, .int a1], [.int (v_at 4 (h.1 11) 1), .int (v_at 20 (h.1 4) a1)], h)
  refine am_Ev_G [] 400 _ ?_
  show P (.inl (some (.int ((v_at 20 (h.1 4) a1) + (v_at 4 (h.1 11) 1))))) h
  exact hP ((v_at 20 (h.1 4) a1) + (v_at 4 (h.1 11) 1)) rfl
theorem ok_U_latestEnd {l : Launch} (hl : l.stackTraces = false) (e1 ro : List Sh) (k : Nat) : am_Ok l (WW ++ e1) ro (d_U_latestEnd k) := by
  refine am_met hl (own := RX1) (M := m_U_latestEnd) rfl pf_U_latestEnd cu_U_latestEnd rfl rfl rfl rfl (fun _ => rfl) rfl ⟨chk_U_latestEnd, (am_c (fl_U_9) (am_c (fl_U_31) (am_c (fl_U_34) am_n))), (am_c (lk_U_27) am_n), (am_n), (am_n)⟩ (am_n) (am_c (ok_B_at hl _ _ 1) am_n) ?_ ?_ ?_
  · intro _ as h hg
    show g_pre (g_U_latestEnd (WW ++ e1) ro as h)
    unfold g_U_latestEnd
    split <;> exact trivial
  · intro _ as h hg
    show g_thr (g_U_latestEnd (WW ++ e1) ro as h) = none
    unfold g_U_latestEnd
    split <;> rfl
  · intro as h hg hp
    revert hg hp
    show g_ok (g_U_latestEnd (WW ++ e1) ro as h) = true → g_pre (g_U_latestEnd (WW ++ e1) ro as h) → _ ∧ am_Ev m_U_latestEnd (WW ++ e1) ro (am_eq (g_U_latestEnd (WW ++ e1) ro as h)) (0, am_ent as 2, [], h)
    unfold g_U_latestEnd
    split
    · rename_i o1 a1
      intro hc hp
      change (Nat.beq o1 16) = true at hc
      obtain rfl := am_beq hc
      exact ⟨Nat.le_of_ble_eq_true rfl, ev_U_latestEnd h a1 eqRI⟩
    · exact fun z => nomatch z
def k_U_lastOfDuty (pc : Nat) : Ent := bif Nat.ble 84 pc then am_nop else bif Nat.ble 37 pc then (bif Nat.ble 62 pc then (bif Nat.ble 72 pc then (bif Nat.ble 79 pc then (bif Nat.ble 82 pc then (bif Nat.ble 83 pc then (bif Nat.beq pc 83 then (.ireturn, 0, 0, []) else am_nop) else (bif Nat.beq pc 82 then (.iload_n 3, 0, 3, []) else am_nop)) else (bif Nat.beq pc 79 then (.goto (-65), 0, 14, []) else am_nop)) else (bif Nat.ble 74 pc then (bif Nat.ble 76 pc then (bif Nat.beq pc 76 then (.iinc 5 1, 1, 5, []) else am_nop) else (bif Nat.beq pc 74 then (.istore 4, 0, 4, []) else am_nop)) else (bif Nat.beq pc 72 then (.iload 6, 0, 6, []) else am_nop))) else (bif Nat.ble 67 pc then (bif Nat.ble 70 pc then (bif Nat.ble 71 pc then (bif Nat.beq pc 71 then (.istore_n 3, 0, 3, []) else am_nop) else (bif Nat.beq pc 70 then (.iload_n 3, 0, 3, []) else am_nop)) else (bif Nat.beq pc 67 then (.goto 4, 0, 71, []) else am_nop)) else (bif Nat.ble 65 pc then (bif Nat.beq pc 65 then (.iload 4, 0, 4, []) else am_nop) else (bif Nat.beq pc 62 then (.ifCond .eq 8, 0, 70, []) else am_nop)))) else (bif Nat.ble 49 pc then (bif Nat.ble 55 pc then (bif Nat.ble 57 pc then (bif Nat.ble 59 pc then (bif Nat.beq pc 59 then (.invokevirtual 47, 0, 0, []) else am_nop) else (bif Nat.beq pc 57 then (.iload 6, 0, 6, []) else am_nop)) else (bif Nat.beq pc 55 then (.iload 4, 0, 4, []) else am_nop)) else (bif Nat.ble 52 pc then (bif Nat.ble 54 pc then (bif Nat.beq pc 54 then (.aload_n 0, 0, 0, []) else am_nop) else (bif Nat.beq pc 52 then (.istore 6, 0, 6, []) else am_nop)) else (bif Nat.beq pc 49 then (.invokestatic 27, 0, 0, []) else am_nop))) else (bif Nat.ble 41 pc then (bif Nat.ble 44 pc then (bif Nat.ble 47 pc then (bif Nat.beq pc 47 then (.iload 4, 0, 4, []) else am_nop) else (bif Nat.beq pc 44 then (.getfield 44, 0, 0, []) else am_nop)) else (bif Nat.beq pc 41 then (.getfield 9, 0, 0, []) else am_nop)) else (bif Nat.ble 40 pc then (bif Nat.beq pc 40 then (.aload_n 0, 0, 0, []) else am_nop) else (bif Nat.beq pc 37 then (.if_icmp .gt 45, 0, 82, []) else am_nop))))) else (bif Nat.ble 14 pc then (bif Nat.ble 24 pc then (bif Nat.ble 31 pc then (bif Nat.ble 33 pc then (bif Nat.ble 36 pc then (bif Nat.beq pc 36 then (.iload_n 2, 0, 2, []) else am_nop) else (bif Nat.beq pc 33 then (.invokevirtual 41, 0, 0, []) else am_nop)) else (bif Nat.beq pc 31 then (.iload 4, 0, 4, []) else am_nop)) else (bif Nat.ble 27 pc then (bif Nat.ble 28 pc then (bif Nat.beq pc 28 then (.getfield 9, 0, 0, []) else am_nop) else (bif Nat.beq pc 27 then (.aload_n 0, 0, 0, []) else am_nop)) else (bif Nat.beq pc 24 then (.if_icmp .eq 58, 0, 82, []) else am_nop))) else (bif Nat.ble 18 pc then (bif Nat.ble 21 pc then (bif Nat.ble 23 pc then (bif Nat.beq pc 23 then (.iconst (-1), (-1 : Int32), 0, []) else am_nop) else (bif Nat.beq pc 21 then (.iload 4, 0, 4, []) else am_nop)) else (bif Nat.beq pc 18 then (.if_icmp .ge 64, 0, 82, []) else am_nop)) else (bif Nat.ble 16 pc then (bif Nat.beq pc 16 then (.bipush 20, 20, 0, []) else am_nop) else (bif Nat.beq pc 14 then (.iload 5, 0, 5, []) else am_nop)))) else (bif Nat.ble 7 pc then (bif Nat.ble 9 pc then (bif Nat.ble 11 pc then (bif Nat.ble 12 pc then (bif Nat.beq pc 12 then (.istore 5, 0, 5, []) else am_nop) else (bif Nat.beq pc 11 then (.iconst 0, 0, 0, []) else am_nop)) else (bif Nat.beq pc 9 then (.istore 4, 0, 4, []) else am_nop)) else (bif Nat.ble 8 pc then (bif Nat.beq pc 8 then (.iload_n 1, 0, 1, []) else am_nop) else (bif Nat.beq pc 7 then (.istore_n 3, 0, 3, []) else am_nop))) else (bif Nat.ble 2 pc then (bif Nat.ble 5 pc then (bif Nat.ble 6 pc then (bif Nat.beq pc 6 then (.iconst (-1), (-1 : Int32), 0, []) else am_nop) else (bif Nat.beq pc 5 then (.istore_n 2, 0, 2, []) else am_nop)) else (bif Nat.beq pc 2 then (.invokevirtual 37, 0, 0, []) else am_nop)) else (bif Nat.ble 1 pc then (bif Nat.beq pc 1 then (.iload_n 1, 0, 1, []) else am_nop) else (bif Nat.beq pc 0 then (.aload_n 0, 0, 0, []) else am_nop)))))
theorem fl_U_44 : am_fok RX1 44 (4, 6) := ⟨RX4, TX4, 15, rfl, by decide, rfl, Or.inr ⟨"BusBlocks", am_tb 63 (by decide +kernel) rfl⟩⟩
theorem lk_U_37 : am_lnk RX1 37 (d_U_latestEnd 11) := ⟨⟨by decide, by decide⟩, am_tb 4 (by decide +kernel) rfl, Or.inr ⟨by decide, rfl, am_tb 500 (by decide +kernel) rfl, am_tp 34 (by decide +kernel) rfl, ⟨TX1, 2, rfl⟩, Or.inl (am_tb 498 (by decide +kernel) rfl)⟩⟩
theorem lk_U_41 : am_lnk RX1 41 (d_T_arrivalOf 24) := ⟨⟨by decide, by decide⟩, am_tb 2 (by decide +kernel) rfl, Or.inr ⟨by decide, rfl, am_tb 381 (by decide +kernel) rfl, am_tp 12 (by decide +kernel) rfl, ⟨TX4, 15, rfl⟩, Or.inr ⟨"BusBlocks", am_tb 503 (by decide +kernel) rfl⟩⟩⟩
theorem lk_U_47 : am_lnk RX1 47 (d_U_mayEnd 11) := ⟨⟨by decide, by decide⟩, am_tb 4 (by decide +kernel) rfl, Or.inr ⟨by decide, rfl, am_tb 506 (by decide +kernel) rfl, am_tp 35 (by decide +kernel) rfl, ⟨TX1, 2, rfl⟩, Or.inl (am_tb 504 (by decide +kernel) rfl)⟩⟩
def m_U_lastOfDuty : MI := (k_U_lastOfDuty, [(9, 1, 0), (44, 4, 6)], [(27, d_B_at 1), (37, d_U_latestEnd 11), (41, d_T_arrivalOf 24), (47, d_U_mayEnd 11)], [], [], [], [], 2, 47, some .int, fun _ => 0, 1)
def s_U_lastOfDuty_14 (h : HP) (a1 : Int32) (v1 : Int32 × Int32 × Int32) : (Int32 × Int32 × Int32) ⊕ (Int32 × Int32 × Int32) := (if v1.2.2 < 20 then (if v1.2.1 = (-1 : Int32) then (.inr (v1.1, v1.2.1, v1.2.2)) else (if (v_T_arrivalOf h v1.2.1) ≤ (v_U_latestEnd h a1) then (.inl ((if (v_U_mayEnd h v1.2.1 (v_at 20 (h.1 7) v1.2.1)) = 0 then v1.1 else v1.2.1), (v_at 20 (h.1 7) v1.2.1), (v1.2.2 + 1))) else (.inr (v1.1, v1.2.1, v1.2.2)))) else (.inr (v1.1, v1.2.1, v1.2.2)))
def ps_U_lastOfDuty_14 (h : HP) (a1 : Int32) (v1 : Int32 × Int32 × Int32) : Prop := True
def v_U_lastOfDuty (h : HP) (a1 : Int32) : Int32 := (match itr (s_U_lastOfDuty_14 h a1) NF ((-1 : Int32), a1, 0) with | some r1 => r1.1 | none => 0)
def p_U_lastOfDuty (h : HP) (a1 : Int32) : Prop := (itrp (s_U_lastOfDuty_14 h a1) (ps_U_lastOfDuty_14 h a1) NF ((-1 : Int32), a1, 0))
def g_U_lastOfDuty (_ _ : List Sh) (as : List Value) (h : HP) : GR := match as with
  | [.ref o1, .int a1] => (Nat.beq o1 16, p_U_lastOfDuty h a1, none, some (.int (v_U_lastOfDuty h a1)), h)
  | _ => bad h
def d_U_lastOfDuty (k : Nat) : CD := (k, yX1_lastOfDuty, cX1_lastOfDuty, 7, some .int, 2, 2, 47, 0, false, true, g_U_lastOfDuty)
theorem chk_U_lastOfDuty : ∀ pc, am_chk cX1_lastOfDuty k_U_lastOfDuty pc = true := am_chkall 84 (by decide +kernel) (fun pc h => by unfold k_U_lastOfDuty; rw [Nat.ble_eq_true_of_le h]; rfl)
theorem pf_U_lastOfDuty : plainFor yX1_lastOfDuty = true := by decide +kernel
theorem cu_U_lastOfDuty : Cond.code yX1_lastOfDuty cX1_lastOfDuty 7 (some .int) ∈ am_U := am_tb 497 (by decide +kernel) rfl
set_option maxRecDepth 100000 in
theorem ev_U_lastOfDuty {e1 ro : List Sh} {P : AR → HP → Prop} (h : HP) (a1 : Int32) (hp : p_U_lastOfDuty h a1) (hP : ∀ q, v_U_lastOfDuty h a1 = q → RI P h q) : am_Ev m_U_lastOfDuty (WW ++ e1) ro P (0, [.ref 16, .int a1, .retAddr 0, .retAddr 0, .retAddr 0, .retAddr 0, .retAddr 0], [], h) := by
  unfold p_U_lastOfDuty at hp
  refine am_Ev_G [14] 400 _ ?_
  show am_Ev m_U_lastOfDuty (WW ++ e1) ro P (14, [.ref 16, .int a1, .int (v_U_latestEnd h a1), .int (-1 : Int32), .int a1, .int 0, .retAddr 0], [], h)
  refine am_fg 1 ?_
  have hpl := hp
  refine am_itr (E := (fun (v1 : Int32 × Int32 × Int32) => am_Ev m_U_lastOfDuty (WW ++ e1) ro P (14, [.ref 16, .retAddr 0, .int (v_U_latestEnd h a1), .int v1.1, .int v1.2.1, .int v1.2.2, .retAddr 0], [], h))) (E' := (fun (r1 : Int32 × Int32 × Int32) => am_Ev m_U_lastOfDuty (WW ++ e1) ro P (82, [.ref 16, .retAddr 0, .int (v_U_latestEnd h a1), .int r1.1, .int r1.2.1, .int r1.2.2, .retAddr 0], [], h))) (s_U_lastOfDuty_14 h a1) (ps_U_lastOfDuty_14 h a1) ?_ NF ((-1 : Int32), a1, 0) hpl ?_
  · intro v1 hp hc1 hx1
    show am_Ev m_U_lastOfDuty (WW ++ e1) ro P (14, [.ref 16, .retAddr 0, .int (v_U_latestEnd h a1), .int v1.1, .int v1.2.1, .int v1.2.2, .retAddr 0], [], h)
    refine am_Ev_G [24, 82] 400 _ ?_
    show ((¬ v1.2.2 < 20 → am_Ev m_U_lastOfDuty (WW ++ e1) ro P (82, [.ref 16, .retAddr 0, .int (v_U_latestEnd h a1), .int v1.1, .int v1.2.1, .int v1.2.2, .retAddr 0], [], h)) ∧ (v1.2.2 < 20 → am_Ev m_U_lastOfDuty (WW ++ e1) ro P (24, [.ref 16, .retAddr 0, .int (v_U_latestEnd h a1), .int v1.1, .int v1.2.1, .int v1.2.2, .retAddr 0], [.int (-1 : Int32), .int v1.2.1], h)))
    refine ⟨fun c1 => ?_, fun c1 => ?_⟩
    · skip
      exact hx1 (v1.1, v1.2.1, v1.2.2) (by unfold s_U_lastOfDuty_14; simp only [if_neg c1])
    · skip
      refine am_Ev_G [52, 82] 400 _ ?_
      show ((v1.2.1 = (-1 : Int32) → am_Ev m_U_lastOfDuty (WW ++ e1) ro P (82, [.ref 16, .retAddr 0, .int (v_U_latestEnd h a1), .int v1.1, .int v1.2.1, .int v1.2.2, .retAddr 0], [], h)) ∧ (¬ v1.2.1 = (-1 : Int32) → ((¬ (v_T_arrivalOf h v1.2.1) ≤ (v_U_latestEnd h a1) → am_Ev m_U_lastOfDuty (WW ++ e1) ro P (82, [.ref 16, .retAddr 0, .int (v_U_latestEnd h a1), .int v1.1, .int v1.2.1, .int v1.2.2, .retAddr 0], [], h)) ∧ ((v_T_arrivalOf h v1.2.1) ≤ (v_U_latestEnd h a1) → am_Ev m_U_lastOfDuty (WW ++ e1) ro P (52, [.ref 16, .retAddr 0, .int (v_U_latestEnd h a1), .int v1.1, .int v1.2.1, .int v1.2.2, .retAddr 0], [.int (v_at 20 (h.1 7) v1.2.1)], h)))))
      refine ⟨fun c2 => ?_, fun c2 => ?_⟩
      · skip
        exact hx1 (v1.1, v1.2.1, v1.2.2) (by unfold s_U_lastOfDuty_14; simp only [if_pos c1, if_pos c2])
      · skip
        refine ⟨fun c3 => ?_, fun c3 => ?_⟩
        · skip
          exact hx1 (v1.1, v1.2.1, v1.2.2) (by unfold s_U_lastOfDuty_14; simp only [if_pos c1, if_neg c2, if_neg c3])
        · skip
          refine am_Ev_G [62] 400 _ ?_
          show am_Ev m_U_lastOfDuty (WW ++ e1) ro P (62, [.ref 16, .retAddr 0, .int (v_U_latestEnd h a1), .int v1.1, .int v1.2.1, .int v1.2.2, .int (v_at 20 (h.1 7) v1.2.1)], [.int (v_U_mayEnd h v1.2.1 (v_at 20 (h.1 7) v1.2.1))], h)
          have key4 : am_Ev m_U_lastOfDuty (WW ++ e1) ro P (71, [.ref 16, .retAddr 0, .int (v_U_latestEnd h a1), .int v1.1, .int v1.2.1, .int v1.2.2, .int (v_at 20 (h.1 7) v1.2.1)], [.int (if (v_U_mayEnd h v1.2.1 (v_at 20 (h.1 7) v1.2.1)) = 0 then v1.1 else v1.2.1)], h) := by
            refine am_Ev_G [14] 400 _ ?_
            show am_Ev m_U_lastOfDuty (WW ++ e1) ro P (14, [.ref 16, .retAddr 0, .int (v_U_latestEnd h a1), .int (if (v_U_mayEnd h v1.2.1 (v_at 20 (h.1 7) v1.2.1)) = 0 then v1.1 else v1.2.1), .int (v_at 20 (h.1 7) v1.2.1), .int (v1.2.2 + 1), .int (v_at 20 (h.1 7) v1.2.1)], [], h)
            refine am_fg 6 ?_
            exact hc1 ((if (v_U_mayEnd h v1.2.1 (v_at 20 (h.1 7) v1.2.1)) = 0 then v1.1 else v1.2.1), (v_at 20 (h.1 7) v1.2.1), (v1.2.2 + 1)) (by unfold s_U_lastOfDuty_14; simp only [if_pos c1, if_neg c2, if_pos c3])
          refine am_Ev_G [71] 400 _ ?_
          show (((v_U_mayEnd h v1.2.1 (v_at 20 (h.1 7) v1.2.1)) = 0 → am_Ev m_U_lastOfDuty (WW ++ e1) ro P (71, [.ref 16, .retAddr 0, .int (v_U_latestEnd h a1), .int v1.1, .int v1.2.1, .int v1.2.2, .int (v_at 20 (h.1 7) v1.2.1)], [.int v1.1], h)) ∧ (¬ (v_U_mayEnd h v1.2.1 (v_at 20 (h.1 7) v1.2.1)) = 0 → am_Ev m_U_lastOfDuty (WW ++ e1) ro P (71, [.ref 16, .retAddr 0, .int (v_U_latestEnd h a1), .int v1.1, .int v1.2.1, .int v1.2.2, .int (v_at 20 (h.1 7) v1.2.1)], [.int v1.2.1], h)))
          refine ⟨fun c5 => ?_, fun c5 => ?_⟩
          · skip
            simpa only [if_pos c5] using key4
          · skip
            simpa only [if_neg c5] using key4
  · intro r1 hr6
    show am_Ev m_U_lastOfDuty (WW ++ e1) ro P (82, [.ref 16, .retAddr 0, .int (v_U_latestEnd h a1), .int r1.1, .int r1.2.1, .int r1.2.2, .retAddr 0], [], h)
    refine am_Ev_G [] 400 _ ?_
    show P (.inl (some (.int r1.1))) h
    exact hP r1.1 (by unfold v_U_lastOfDuty; simp only [hr6])
theorem ok_U_lastOfDuty {l : Launch} (hl : l.stackTraces = false) (e1 ro : List Sh) (k : Nat) : am_Ok l (WW ++ e1) ro (d_U_lastOfDuty k) := by
  refine am_met hl (own := RX1) (M := m_U_lastOfDuty) rfl pf_U_lastOfDuty cu_U_lastOfDuty rfl rfl rfl rfl (fun _ => rfl) rfl ⟨chk_U_lastOfDuty, (am_c (fl_U_9) (am_c (fl_U_44) am_n)), (am_c (lk_U_27) (am_c (lk_U_37) (am_c (lk_U_41) (am_c (lk_U_47) am_n)))), (am_n), (am_n)⟩ (am_n) (am_c (ok_B_at hl _ _ 1) (am_c (ok_U_latestEnd hl e1 _ 11) (am_c (ok_T_arrivalOf hl (W21b ++ e1) _ 24) (am_c (ok_U_mayEnd hl e1 _ 11) am_n)))) (fun z => nomatch z) ?_ ?_
  · intro _ as h hg
    show g_thr (g_U_lastOfDuty (WW ++ e1) ro as h) = none
    unfold g_U_lastOfDuty
    split <;> rfl
  · intro as h hg hp
    revert hg hp
    show g_ok (g_U_lastOfDuty (WW ++ e1) ro as h) = true → g_pre (g_U_lastOfDuty (WW ++ e1) ro as h) → _ ∧ am_Ev m_U_lastOfDuty (WW ++ e1) ro (am_eq (g_U_lastOfDuty (WW ++ e1) ro as h)) (0, am_ent as 7, [], h)
    unfold g_U_lastOfDuty
    split
    · rename_i o1 a1
      intro hc hp
      change (Nat.beq o1 16) = true at hc
      obtain rfl := am_beq hc
      exact ⟨Nat.le_of_ble_eq_true rfl, ev_U_lastOfDuty h a1 hp eqRI⟩
    · exact fun z => nomatch z
def k_U_fewestForward (pc : Nat) : Ent := bif Nat.ble 51 pc then am_nop else bif Nat.ble 22 pc then (bif Nat.ble 34 pc then (bif Nat.ble 45 pc then (bif Nat.ble 49 pc then (bif Nat.ble 50 pc then (bif Nat.beq pc 50 then (.ireturn, 0, 0, []) else am_nop) else (bif Nat.beq pc 49 then (.iload_n 2, 0, 2, []) else am_nop)) else (bif Nat.ble 46 pc then (bif Nat.beq pc 46 then (.goto (-42), 0, 4, []) else am_nop) else (bif Nat.beq pc 45 then (.istore_n 3, 0, 3, []) else am_nop))) else (bif Nat.ble 40 pc then (bif Nat.ble 42 pc then (bif Nat.beq pc 42 then (.invokestatic 27, 0, 0, []) else am_nop) else (bif Nat.beq pc 40 then (.iload 4, 0, 4, []) else am_nop)) else (bif Nat.ble 37 pc then (bif Nat.beq pc 37 then (.getfield 44, 0, 0, []) else am_nop) else (bif Nat.beq pc 34 then (.getfield 9, 0, 0, []) else am_nop)))) else (bif Nat.ble 28 pc then (bif Nat.ble 30 pc then (bif Nat.ble 33 pc then (bif Nat.beq pc 33 then (.aload_n 0, 0, 0, []) else am_nop) else (bif Nat.beq pc 30 then (.iinc 2 1, 1, 2, []) else am_nop)) else (bif Nat.ble 29 pc then (bif Nat.beq pc 29 then (.ireturn, 0, 0, []) else am_nop) else (bif Nat.beq pc 28 then (.iconst (-1), (-1 : Int32), 0, []) else am_nop))) else (bif Nat.ble 24 pc then (bif Nat.ble 25 pc then (bif Nat.beq pc 25 then (.if_icmp .ne 5, 0, 30, []) else am_nop) else (bif Nat.beq pc 24 then (.iconst (-1), (-1 : Int32), 0, []) else am_nop)) else (bif Nat.beq pc 22 then (.iload 4, 0, 4, []) else am_nop)))) else (bif Nat.ble 9 pc then (bif Nat.ble 15 pc then (bif Nat.ble 17 pc then (bif Nat.ble 20 pc then (bif Nat.beq pc 20 then (.istore 4, 0, 4, []) else am_nop) else (bif Nat.beq pc 17 then (.invokevirtual 51, 0, 0, []) else am_nop)) else (bif Nat.ble 16 pc then (bif Nat.beq pc 16 then (.iload_n 3, 0, 3, []) else am_nop) else (bif Nat.beq pc 15 then (.aload_n 0, 0, 0, []) else am_nop))) else (bif Nat.ble 10 pc then (bif Nat.ble 12 pc then (bif Nat.beq pc 12 then (.if_icmp .ge 37, 0, 49, []) else am_nop) else (bif Nat.beq pc 10 then (.bipush 20, 20, 0, []) else am_nop)) else (bif Nat.beq pc 9 then (.iload_n 2, 0, 2, []) else am_nop))) else (bif Nat.ble 3 pc then (bif Nat.ble 5 pc then (bif Nat.ble 6 pc then (bif Nat.beq pc 6 then (.if_icmp .eq 43, 0, 49, []) else am_nop) else (bif Nat.beq pc 5 then (.iconst (-1), (-1 : Int32), 0, []) else am_nop)) else (bif Nat.ble 4 pc then (bif Nat.beq pc 4 then (.iload_n 3, 0, 3, []) else am_nop) else (bif Nat.beq pc 3 then (.istore_n 3, 0, 3, []) else am_nop))) else (bif Nat.ble 1 pc then (bif Nat.ble 2 pc then (bif Nat.beq pc 2 then (.iload_n 1, 0, 1, []) else am_nop) else (bif Nat.beq pc 1 then (.istore_n 2, 0, 2, []) else am_nop)) else (bif Nat.beq pc 0 then (.iconst 0, 0, 0, []) else am_nop))))
theorem lk_U_51 : am_lnk RX1 51 (d_U_lastOfDuty 11) := ⟨⟨by decide, by decide⟩, am_tb 4 (by decide +kernel) rfl, Or.inr ⟨by decide, rfl, am_tb 496 (by decide +kernel) rfl, am_tp 33 (by decide +kernel) rfl, ⟨TX1, 2, rfl⟩, Or.inl (am_tb 494 (by decide +kernel) rfl)⟩⟩
def m_U_fewestForward : MI := (k_U_fewestForward, [(9, 1, 0), (44, 4, 6)], [(27, d_B_at 1), (51, d_U_lastOfDuty 11)], [], [], [], [], 3, 75, some .int, fun _ => 0, 1)
def s_U_fewestForward_4 (h : HP) (a1 : Int32) (v1 : Int32 × Int32) : (Int32 × Int32) ⊕ ((Int32 × Int32) ⊕ (Int32)) := (if v1.2 = (-1 : Int32) then (.inr (.inl (v1.1, v1.2))) else (if v1.1 < 20 then (if (v_U_lastOfDuty h v1.2) = (-1 : Int32) then (.inr (.inr (-1 : Int32))) else (.inl ((v1.1 + 1), (v_at 20 (h.1 7) (v_U_lastOfDuty h v1.2))))) else (.inr (.inl (v1.1, v1.2)))))
def ps_U_fewestForward_4 (h : HP) (a1 : Int32) (v1 : Int32 × Int32) : Prop := ((v1.2 = (-1 : Int32) → True) ∧ (¬ v1.2 = (-1 : Int32) → ((v1.1 < 20 → (p_U_lastOfDuty h v1.2)) ∧ (¬ v1.1 < 20 → True))))
def v_U_fewestForward (h : HP) (a1 : Int32) : Int32 := (match itr (s_U_fewestForward_4 h a1) NF (0, a1) with | some (.inl r1) => r1.1 | some (.inr q) => q | none => 0)
def p_U_fewestForward (h : HP) (a1 : Int32) : Prop := (itrp (s_U_fewestForward_4 h a1) (ps_U_fewestForward_4 h a1) NF (0, a1))
def g_U_fewestForward (_ _ : List Sh) (as : List Value) (h : HP) : GR := match as with
  | [.ref o1, .int a1] => (Nat.beq o1 16, p_U_fewestForward h a1, none, some (.int (v_U_fewestForward h a1)), h)
  | _ => bad h
def d_U_fewestForward (k : Nat) : CD := (k, yX1_fewestForward, cX1_fewestForward, 5, some .int, 2, 3, 75, 0, false, true, g_U_fewestForward)
theorem chk_U_fewestForward : ∀ pc, am_chk cX1_fewestForward k_U_fewestForward pc = true := am_chkall 51 (by decide +kernel) (fun pc h => by unfold k_U_fewestForward; rw [Nat.ble_eq_true_of_le h]; rfl)
theorem pf_U_fewestForward : plainFor yX1_fewestForward = true := by decide +kernel
theorem cu_U_fewestForward : Cond.code yX1_fewestForward cX1_fewestForward 5 (some .int) ∈ am_U := am_tb 493 (by decide +kernel) rfl
set_option maxRecDepth 100000 in
theorem ev_U_fewestForward {e1 ro : List Sh} {P : AR → HP → Prop} (h : HP) (a1 : Int32) (hp : p_U_fewestForward h a1) (hP : ∀ q, v_U_fewestForward h a1 = q → RI P h q) : am_Ev m_U_fewestForward (WW ++ e1) ro P (0, [.ref 16, .int a1, .retAddr 0, .retAddr 0, .retAddr 0], [], h) := by
  unfold p_U_fewestForward at hp
  refine am_Ev_G [4] 400 _ ?_
  show am_Ev m_U_fewestForward (WW ++ e1) ro P (4, [.ref 16, .int a1, .int 0, .int a1, .retAddr 0], [], h)
  refine am_fg 1 ?_
  have hpl := hp
  refine am_itr (E := (fun (v1 : Int32 × Int32) => am_Ev m_U_fewestForward (WW ++ e1) ro P (4, [.ref 16, .retAddr 0, .int v1.1, .int v1.2, .retAddr 0], [], h))) (E' := (fun (x : (Int32 × Int32) ⊕ (Int32)) => match x with | .inl r1 => am_Ev m_U_fewestForward (WW ++ e1) ro P (49, [.ref 16, .retAddr 0, .int r1.1, .int r1.2, .retAddr 0], [], h) | .inr q => RI P h q)) (s_U_fewestForward_4 h a1) (ps_U_fewestForward_4 h a1) ?_ NF (0, a1) hpl ?_
  · intro v1 hp hc1 hx1
    show am_Ev m_U_fewestForward (WW ++ e1) ro P (4, [.ref 16, .retAddr 0, .int v1.1, .int v1.2, .retAddr 0], [], h)
    unfold ps_U_fewestForward_4 at hp
    refine am_Ev_G [20, 49] 400 _ ?_
    show ((v1.2 = (-1 : Int32) → am_Ev m_U_fewestForward (WW ++ e1) ro P (49, [.ref 16, .retAddr 0, .int v1.1, .int v1.2, .retAddr 0], [], h)) ∧ (¬ v1.2 = (-1 : Int32) → ((¬ v1.1 < 20 → am_Ev m_U_fewestForward (WW ++ e1) ro P (49, [.ref 16, .retAddr 0, .int v1.1, .int v1.2, .retAddr 0], [], h)) ∧ (v1.1 < 20 → ((p_U_lastOfDuty h v1.2) ∧ am_Ev m_U_fewestForward (WW ++ e1) ro P (20, [.ref 16, .retAddr 0, .int v1.1, .int v1.2, .retAddr 0], [.int (v_U_lastOfDuty h v1.2)], h))))))
    refine ⟨fun c1 => ?_, fun c1 => ?_⟩
    · skip
      exact hx1 (.inl (v1.1, v1.2)) (by unfold s_U_fewestForward_4; simp only [if_pos c1])
    · have hp := hp.2 c1
      refine ⟨fun c2 => ?_, fun c2 => ?_⟩
      · skip
        exact hx1 (.inl (v1.1, v1.2)) (by unfold s_U_fewestForward_4; simp only [if_neg c1, if_neg c2])
      · have hp := hp.1 c2
        refine ⟨hp, ?_⟩
        refine am_Ev_G [45] 400 _ ?_
        show ((¬ (v_U_lastOfDuty h v1.2) = (-1 : Int32) → am_Ev m_U_fewestForward (WW ++ e1) ro P (45, [.ref 16, .retAddr 0, .int (v1.1 + 1), .int v1.2, .int (v_U_lastOfDuty h v1.2)], [.int (v_at 20 (h.1 7) (v_U_lastOfDuty h v1.2))], h)) ∧ ((v_U_lastOfDuty h v1.2) = (-1 : Int32) → P (.inl (some (.int (-1 : Int32)))) h))
        refine ⟨fun c3 => ?_, fun c3 => ?_⟩
        · skip
          refine am_Ev_G [4] 400 _ ?_
          show am_Ev m_U_fewestForward (WW ++ e1) ro P (4, [.ref 16, .retAddr 0, .int (v1.1 + 1), .int (v_at 20 (h.1 7) (v_U_lastOfDuty h v1.2)), .int (v_U_lastOfDuty h v1.2)], [], h)
          refine am_fg 4 ?_
          exact hc1 ((v1.1 + 1), (v_at 20 (h.1 7) (v_U_lastOfDuty h v1.2))) (by unfold s_U_fewestForward_4; simp only [if_neg c1, if_pos c2, if_neg c3])
        · skip
          exact hx1 (.inr (-1 : Int32)) (by unfold s_U_fewestForward_4; simp only [if_neg c1, if_pos c2, if_pos c3])
  · intro x hr4
    rcases x with r1 | q
    · skip
      show am_Ev m_U_fewestForward (WW ++ e1) ro P (49, [.ref 16, .retAddr 0, .int r1.1, .int r1.2, .retAddr 0], [], h)
      refine am_Ev_G [] 400 _ ?_
      show P (.inl (some (.int r1.1))) h
      exact hP r1.1 (by unfold v_U_fewestForward; simp only [hr4])
    · show RI P h q
      exact hP q (by unfold v_U_fewestForward; simp only [hr4])
theorem ok_U_fewestForward {l : Launch} (hl : l.stackTraces = false) (e1 ro : List Sh) (k : Nat) : am_Ok l (WW ++ e1) ro (d_U_fewestForward k) := by
  refine am_met hl (own := RX1) (M := m_U_fewestForward) rfl pf_U_fewestForward cu_U_fewestForward rfl rfl rfl rfl (fun _ => rfl) rfl ⟨chk_U_fewestForward, (am_c (fl_U_9) (am_c (fl_U_44) am_n)), (am_c (lk_U_27) (am_c (lk_U_51) am_n)), (am_n), (am_n)⟩ (am_n) (am_c (ok_B_at hl _ _ 1) (am_c (ok_U_lastOfDuty hl e1 _ 11) am_n)) (fun z => nomatch z) ?_ ?_
  · intro _ as h hg
    show g_thr (g_U_fewestForward (WW ++ e1) ro as h) = none
    unfold g_U_fewestForward
    split <;> rfl
  · intro as h hg hp
    revert hg hp
    show g_ok (g_U_fewestForward (WW ++ e1) ro as h) = true → g_pre (g_U_fewestForward (WW ++ e1) ro as h) → _ ∧ am_Ev m_U_fewestForward (WW ++ e1) ro (am_eq (g_U_fewestForward (WW ++ e1) ro as h)) (0, am_ent as 5, [], h)
    unfold g_U_fewestForward
    split
    · rename_i o1 a1
      intro hc hp
      change (Nat.beq o1 16) = true at hc
      obtain rfl := am_beq hc
      exact ⟨Nat.le_of_ble_eq_true rfl, ev_U_fewestForward h a1 hp eqRI⟩
    · exact fun z => nomatch z
def k_U_firstOfDuty (pc : Nat) : Ent := bif Nat.ble 42 pc then am_nop else bif Nat.ble 19 pc then (bif Nat.ble 30 pc then (bif Nat.ble 37 pc then (bif Nat.ble 40 pc then (bif Nat.ble 41 pc then (bif Nat.beq pc 41 then (.ireturn, 0, 0, []) else am_nop) else (bif Nat.beq pc 40 then (.iload_n 3, 0, 3, []) else am_nop)) else (bif Nat.beq pc 37 then (.goto (-32), 0, 5, []) else am_nop)) else (bif Nat.ble 33 pc then (bif Nat.ble 34 pc then (bif Nat.beq pc 34 then (.iinc 4 1, 1, 4, []) else am_nop) else (bif Nat.beq pc 33 then (.istore_n 3, 0, 3, []) else am_nop)) else (bif Nat.beq pc 30 then (.invokestatic 27, 0, 0, []) else am_nop))) else (bif Nat.ble 25 pc then (bif Nat.ble 26 pc then (bif Nat.ble 27 pc then (bif Nat.beq pc 27 then (.invokevirtual 51, 0, 0, []) else am_nop) else (bif Nat.beq pc 26 then (.iload_n 3, 0, 3, []) else am_nop)) else (bif Nat.beq pc 25 then (.aload_n 0, 0, 0, []) else am_nop)) else (bif Nat.ble 22 pc then (bif Nat.beq pc 22 then (.getfield 44, 0, 0, []) else am_nop) else (bif Nat.beq pc 19 then (.getfield 9, 0, 0, []) else am_nop)))) else (bif Nat.ble 7 pc then (bif Nat.ble 13 pc then (bif Nat.ble 15 pc then (bif Nat.ble 18 pc then (bif Nat.beq pc 18 then (.aload_n 0, 0, 0, []) else am_nop) else (bif Nat.beq pc 15 then (.if_icmp .ge 25, 0, 40, []) else am_nop)) else (bif Nat.beq pc 13 then (.bipush 20, 20, 0, []) else am_nop)) else (bif Nat.ble 8 pc then (bif Nat.ble 11 pc then (bif Nat.beq pc 11 then (.iload 4, 0, 4, []) else am_nop) else (bif Nat.beq pc 8 then (.if_icmp .ge 32, 0, 40, []) else am_nop)) else (bif Nat.beq pc 7 then (.iload_n 2, 0, 2, []) else am_nop))) else (bif Nat.ble 2 pc then (bif Nat.ble 3 pc then (bif Nat.ble 5 pc then (bif Nat.beq pc 5 then (.iload 4, 0, 4, []) else am_nop) else (bif Nat.beq pc 3 then (.istore 4, 0, 4, []) else am_nop)) else (bif Nat.beq pc 2 then (.iconst 0, 0, 0, []) else am_nop)) else (bif Nat.ble 1 pc then (bif Nat.beq pc 1 then (.istore_n 3, 0, 3, []) else am_nop) else (bif Nat.beq pc 0 then (.iload_n 1, 0, 1, []) else am_nop))))
def m_U_firstOfDuty : MI := (k_U_firstOfDuty, [(9, 1, 0), (44, 4, 6)], [(27, d_B_at 1), (51, d_U_lastOfDuty 11)], [], [], [], [], 3, 75, some .int, fun _ => 0, 1)
def s_U_firstOfDuty_5 (h : HP) (a1 : Int32) (a2 : Int32) (v1 : Int32 × Int32) : (Int32 × Int32) ⊕ (Int32 × Int32) := (if v1.2 < a2 then (if v1.2 < 20 then (.inl ((v_at 20 (h.1 7) (v_U_lastOfDuty h v1.1)), (v1.2 + 1))) else (.inr (v1.1, v1.2))) else (.inr (v1.1, v1.2)))
def ps_U_firstOfDuty_5 (h : HP) (a1 : Int32) (a2 : Int32) (v1 : Int32 × Int32) : Prop := ((v1.2 < a2 → ((v1.2 < 20 → (p_U_lastOfDuty h v1.1)) ∧ (¬ v1.2 < 20 → True))) ∧ (¬ v1.2 < a2 → True))
def v_U_firstOfDuty (h : HP) (a1 : Int32) (a2 : Int32) : Int32 := (match itr (s_U_firstOfDuty_5 h a1 a2) NF (a1, 0) with | some r1 => r1.1 | none => 0)
def p_U_firstOfDuty (h : HP) (a1 : Int32) (a2 : Int32) : Prop := (itrp (s_U_firstOfDuty_5 h a1 a2) (ps_U_firstOfDuty_5 h a1 a2) NF (a1, 0))
def g_U_firstOfDuty (_ _ : List Sh) (as : List Value) (h : HP) : GR := match as with
  | [.ref o1, .int a1, .int a2] => (Nat.beq o1 16, p_U_firstOfDuty h a1 a2, none, some (.int (v_U_firstOfDuty h a1 a2)), h)
  | _ => bad h
def d_U_firstOfDuty (k : Nat) : CD := (k, yX1_firstOfDuty, cX1_firstOfDuty, 5, some .int, 3, 3, 75, 0, false, true, g_U_firstOfDuty)
theorem chk_U_firstOfDuty : ∀ pc, am_chk cX1_firstOfDuty k_U_firstOfDuty pc = true := am_chkall 42 (by decide +kernel) (fun pc h => by unfold k_U_firstOfDuty; rw [Nat.ble_eq_true_of_le h]; rfl)
theorem pf_U_firstOfDuty : plainFor yX1_firstOfDuty = true := by decide +kernel
theorem cu_U_firstOfDuty : Cond.code yX1_firstOfDuty cX1_firstOfDuty 5 (some .int) ∈ am_U := am_tb 745 (by decide +kernel) rfl
set_option maxRecDepth 100000 in
theorem ev_U_firstOfDuty {e1 ro : List Sh} {P : AR → HP → Prop} (h : HP) (a1 : Int32) (a2 : Int32) (hp : p_U_firstOfDuty h a1 a2) (hP : ∀ q, v_U_firstOfDuty h a1 a2 = q → RI P h q) : am_Ev m_U_firstOfDuty (WW ++ e1) ro P (0, [.ref 16, .int a1, .int a2, .retAddr 0, .retAddr 0], [], h) := by
  unfold p_U_firstOfDuty at hp
  refine am_Ev_G [5] 400 _ ?_
  show am_Ev m_U_firstOfDuty (WW ++ e1) ro P (5, [.ref 16, .int a1, .int a2, .int a1, .int 0], [], h)
  refine am_fg 1 ?_
  have hpl := hp
  refine am_itr (E := (fun (v1 : Int32 × Int32) => am_Ev m_U_firstOfDuty (WW ++ e1) ro P (5, [.ref 16, .retAddr 0, .int a2, .int v1.1, .int v1.2], [], h))) (E' := (fun (r1 : Int32 × Int32) => am_Ev m_U_firstOfDuty (WW ++ e1) ro P (40, [.ref 16, .retAddr 0, .int a2, .int r1.1, .int r1.2], [], h))) (s_U_firstOfDuty_5 h a1 a2) (ps_U_firstOfDuty_5 h a1 a2) ?_ NF (a1, 0) hpl ?_
  · intro v1 hp hc1 hx1
    show am_Ev m_U_firstOfDuty (WW ++ e1) ro P (5, [.ref 16, .retAddr 0, .int a2, .int v1.1, .int v1.2], [], h)
    unfold ps_U_firstOfDuty_5 at hp
    refine am_Ev_G [27, 40] 400 _ ?_
    show ((¬ v1.2 < a2 → am_Ev m_U_firstOfDuty (WW ++ e1) ro P (40, [.ref 16, .retAddr 0, .int a2, .int v1.1, .int v1.2], [], h)) ∧ (v1.2 < a2 → ((¬ v1.2 < 20 → am_Ev m_U_firstOfDuty (WW ++ e1) ro P (40, [.ref 16, .retAddr 0, .int a2, .int v1.1, .int v1.2], [], h)) ∧ (v1.2 < 20 → am_Ev m_U_firstOfDuty (WW ++ e1) ro P (27, [.ref 16, .retAddr 0, .int a2, .int v1.1, .int v1.2], [.int v1.1, .ref 16, .ref 7], h)))))
    refine ⟨fun c1 => ?_, fun c1 => ?_⟩
    · skip
      exact hx1 (v1.1, v1.2) (by unfold s_U_firstOfDuty_5; simp only [if_neg c1])
    · have hp := hp.1 c1
      refine ⟨fun c2 => ?_, fun c2 => ?_⟩
      · skip
        exact hx1 (v1.1, v1.2) (by unfold s_U_firstOfDuty_5; simp only [if_pos c1, if_neg c2])
      · have hp := hp.1 c2
        refine am_Ev_G [5] 400 _ ?_
        show ((p_U_lastOfDuty h v1.1) ∧ am_Ev m_U_firstOfDuty (WW ++ e1) ro P (5, [.ref 16, .retAddr 0, .int a2, .int (v_at 20 (h.1 7) (v_U_lastOfDuty h v1.1)), .int (v1.2 + 1)], [], h))
        refine ⟨hp, ?_⟩
        exact hc1 ((v_at 20 (h.1 7) (v_U_lastOfDuty h v1.1)), (v1.2 + 1)) (by unfold s_U_firstOfDuty_5; simp only [if_pos c1, if_pos c2])
  · intro r1 hr3
    show am_Ev m_U_firstOfDuty (WW ++ e1) ro P (40, [.ref 16, .retAddr 0, .int a2, .int r1.1, .int r1.2], [], h)
    refine am_Ev_G [] 400 _ ?_
    show P (.inl (some (.int r1.1))) h
    exact hP r1.1 (by unfold v_U_firstOfDuty; simp only [hr3])
theorem ok_U_firstOfDuty {l : Launch} (hl : l.stackTraces = false) (e1 ro : List Sh) (k : Nat) : am_Ok l (WW ++ e1) ro (d_U_firstOfDuty k) := by
  refine am_met hl (own := RX1) (M := m_U_firstOfDuty) rfl pf_U_firstOfDuty cu_U_firstOfDuty rfl rfl rfl rfl (fun _ => rfl) rfl ⟨chk_U_firstOfDuty, (am_c (fl_U_9) (am_c (fl_U_44) am_n)), (am_c (lk_U_27) (am_c (lk_U_51) am_n)), (am_n), (am_n)⟩ (am_n) (am_c (ok_B_at hl _ _ 1) (am_c (ok_U_lastOfDuty hl e1 _ 11) am_n)) (fun z => nomatch z) ?_ ?_
  · intro _ as h hg
    show g_thr (g_U_firstOfDuty (WW ++ e1) ro as h) = none
    unfold g_U_firstOfDuty
    split <;> rfl
  · intro as h hg hp
    revert hg hp
    show g_ok (g_U_firstOfDuty (WW ++ e1) ro as h) = true → g_pre (g_U_firstOfDuty (WW ++ e1) ro as h) → _ ∧ am_Ev m_U_firstOfDuty (WW ++ e1) ro (am_eq (g_U_firstOfDuty (WW ++ e1) ro as h)) (0, am_ent as 5, [], h)
    unfold g_U_firstOfDuty
    split
    · rename_i o1 a1 a2
      intro hc hp
      change (Nat.beq o1 16) = true at hc
      obtain rfl := am_beq hc
      exact ⟨Nat.le_of_ble_eq_true rfl, ev_U_firstOfDuty h a1 a2 hp eqRI⟩
    · exact fun z => nomatch z
def k_U_fewestToEnd (pc : Nat) : Ent := bif Nat.ble 122 pc then am_nop else bif Nat.ble 61 pc then (bif Nat.ble 94 pc then (bif Nat.ble 108 pc then (bif Nat.ble 114 pc then (bif Nat.ble 120 pc then (bif Nat.ble 121 pc then (bif Nat.beq pc 121 then (.ireturn, 0, 0, []) else am_nop) else (bif Nat.beq pc 120 then (.iload_n 3, 0, 3, []) else am_nop)) else (bif Nat.ble 117 pc then (bif Nat.beq pc 117 then (.goto (-103), 0, 14, []) else am_nop) else (bif Nat.beq pc 114 then (.iinc 5 1, 1, 5, []) else am_nop))) else (bif Nat.ble 110 pc then (bif Nat.ble 112 pc then (bif Nat.beq pc 112 then (.istore 4, 0, 4, []) else am_nop) else (bif Nat.beq pc 110 then (.iload 6, 0, 6, []) else am_nop)) else (bif Nat.ble 109 pc then (bif Nat.beq pc 109 then (.istore_n 3, 0, 3, []) else am_nop) else (bif Nat.beq pc 108 then (.iadd, 0, 0, []) else am_nop)))) else (bif Nat.ble 101 pc then (bif Nat.ble 105 pc then (bif Nat.ble 107 pc then (bif Nat.beq pc 107 then (.iconst 1, 1, 0, []) else am_nop) else (bif Nat.beq pc 105 then (.iload 7, 0, 7, []) else am_nop)) else (bif Nat.ble 102 pc then (bif Nat.beq pc 102 then (.if_icmp .ge 8, 0, 110, []) else am_nop) else (bif Nat.beq pc 101 then (.iload_n 3, 0, 3, []) else am_nop))) else (bif Nat.ble 99 pc then (bif Nat.ble 100 pc then (bif Nat.beq pc 100 then (.iadd, 0, 0, []) else am_nop) else (bif Nat.beq pc 99 then (.iconst 1, 1, 0, []) else am_nop)) else (bif Nat.ble 97 pc then (bif Nat.beq pc 97 then (.iload 7, 0, 7, []) else am_nop) else (bif Nat.beq pc 94 then (.if_icmp .eq 11, 0, 105, []) else am_nop))))) else (bif Nat.ble 78 pc then (bif Nat.ble 88 pc then (bif Nat.ble 92 pc then (bif Nat.ble 93 pc then (bif Nat.beq pc 93 then (.iconst (-1), (-1 : Int32), 0, []) else am_nop) else (bif Nat.beq pc 92 then (.iload_n 3, 0, 3, []) else am_nop)) else (bif Nat.ble 89 pc then (bif Nat.beq pc 89 then (.if_icmp .eq 21, 0, 110, []) else am_nop) else (bif Nat.beq pc 88 then (.iconst (-1), (-1 : Int32), 0, []) else am_nop))) else (bif Nat.ble 83 pc then (bif Nat.ble 86 pc then (bif Nat.beq pc 86 then (.iload 7, 0, 7, []) else am_nop) else (bif Nat.beq pc 83 then (.ifCond .eq 27, 0, 110, []) else am_nop)) else (bif Nat.ble 80 pc then (bif Nat.beq pc 80 then (.invokevirtual 47, 0, 0, []) else am_nop) else (bif Nat.beq pc 78 then (.iload 6, 0, 6, []) else am_nop)))) else (bif Nat.ble 70 pc then (bif Nat.ble 75 pc then (bif Nat.ble 76 pc then (bif Nat.beq pc 76 then (.iload 4, 0, 4, []) else am_nop) else (bif Nat.beq pc 75 then (.aload_n 0, 0, 0, []) else am_nop)) else (bif Nat.ble 73 pc then (bif Nat.beq pc 73 then (.istore 7, 0, 7, []) else am_nop) else (bif Nat.beq pc 70 then (.invokestatic 27, 0, 0, []) else am_nop))) else (bif Nat.ble 65 pc then (bif Nat.ble 68 pc then (bif Nat.beq pc 68 then (.iload 6, 0, 6, []) else am_nop) else (bif Nat.beq pc 65 then (.getfield 15, 0, 0, []) else am_nop)) else (bif Nat.ble 64 pc then (bif Nat.beq pc 64 then (.aload_n 0, 0, 0, []) else am_nop) else (bif Nat.beq pc 61 then (.goto 12, 0, 73, []) else am_nop)))))) else (bif Nat.ble 27 pc then (bif Nat.ble 44 pc then (bif Nat.ble 54 pc then (bif Nat.ble 57 pc then (bif Nat.ble 60 pc then (bif Nat.beq pc 60 then (.iconst 0, 0, 0, []) else am_nop) else (bif Nat.beq pc 57 then (.if_icmp .ne 7, 0, 64, []) else am_nop)) else (bif Nat.ble 56 pc then (bif Nat.beq pc 56 then (.iconst (-1), (-1 : Int32), 0, []) else am_nop) else (bif Nat.beq pc 54 then (.iload 6, 0, 6, []) else am_nop))) else (bif Nat.ble 49 pc then (bif Nat.ble 52 pc then (bif Nat.beq pc 52 then (.istore 6, 0, 6, []) else am_nop) else (bif Nat.beq pc 49 then (.invokestatic 27, 0, 0, []) else am_nop)) else (bif Nat.ble 47 pc then (bif Nat.beq pc 47 then (.iload 4, 0, 4, []) else am_nop) else (bif Nat.beq pc 44 then (.getfield 44, 0, 0, []) else am_nop)))) else (bif Nat.ble 36 pc then (bif Nat.ble 40 pc then (bif Nat.ble 41 pc then (bif Nat.beq pc 41 then (.getfield 9, 0, 0, []) else am_nop) else (bif Nat.beq pc 40 then (.aload_n 0, 0, 0, []) else am_nop)) else (bif Nat.ble 37 pc then (bif Nat.beq pc 37 then (.if_icmp .gt 83, 0, 120, []) else am_nop) else (bif Nat.beq pc 36 then (.iload_n 2, 0, 2, []) else am_nop))) else (bif Nat.ble 31 pc then (bif Nat.ble 33 pc then (bif Nat.beq pc 33 then (.invokevirtual 41, 0, 0, []) else am_nop) else (bif Nat.beq pc 31 then (.iload 4, 0, 4, []) else am_nop)) else (bif Nat.ble 28 pc then (bif Nat.beq pc 28 then (.getfield 9, 0, 0, []) else am_nop) else (bif Nat.beq pc 27 then (.aload_n 0, 0, 0, []) else am_nop))))) else (bif Nat.ble 11 pc then (bif Nat.ble 18 pc then (bif Nat.ble 23 pc then (bif Nat.ble 24 pc then (bif Nat.beq pc 24 then (.if_icmp .eq 96, 0, 120, []) else am_nop) else (bif Nat.beq pc 23 then (.iconst (-1), (-1 : Int32), 0, []) else am_nop)) else (bif Nat.ble 21 pc then (bif Nat.beq pc 21 then (.iload 4, 0, 4, []) else am_nop) else (bif Nat.beq pc 18 then (.if_icmp .ge 102, 0, 120, []) else am_nop))) else (bif Nat.ble 14 pc then (bif Nat.ble 16 pc then (bif Nat.beq pc 16 then (.bipush 20, 20, 0, []) else am_nop) else (bif Nat.beq pc 14 then (.iload 5, 0, 5, []) else am_nop)) else (bif Nat.ble 12 pc then (bif Nat.beq pc 12 then (.istore 5, 0, 5, []) else am_nop) else (bif Nat.beq pc 11 then (.iconst 0, 0, 0, []) else am_nop)))) else (bif Nat.ble 6 pc then (bif Nat.ble 8 pc then (bif Nat.ble 9 pc then (bif Nat.beq pc 9 then (.istore 4, 0, 4, []) else am_nop) else (bif Nat.beq pc 8 then (.iload_n 1, 0, 1, []) else am_nop)) else (bif Nat.ble 7 pc then (bif Nat.beq pc 7 then (.istore_n 3, 0, 3, []) else am_nop) else (bif Nat.beq pc 6 then (.iconst (-1), (-1 : Int32), 0, []) else am_nop))) else (bif Nat.ble 2 pc then (bif Nat.ble 5 pc then (bif Nat.beq pc 5 then (.istore_n 2, 0, 2, []) else am_nop) else (bif Nat.beq pc 2 then (.invokevirtual 37, 0, 0, []) else am_nop)) else (bif Nat.ble 1 pc then (bif Nat.beq pc 1 then (.iload_n 1, 0, 1, []) else am_nop) else (bif Nat.beq pc 0 then (.aload_n 0, 0, 0, []) else am_nop))))))
theorem fl_U_15 : am_fok RX1 15 (1, 1) := ⟨RX1, TX1, 2, rfl, by decide, rfl, Or.inl (am_tb 149 (by decide +kernel) rfl)⟩
def m_U_fewestToEnd : MI := (k_U_fewestToEnd, [(9, 1, 0), (15, 1, 1), (44, 4, 6)], [(27, d_B_at 1), (37, d_U_latestEnd 11), (41, d_T_arrivalOf 24), (47, d_U_mayEnd 11)], [], [], [], [], 2, 47, some .int, fun _ => 0, 1)
def s_U_fewestToEnd_14 (h : HP) (a1 : Int32) (v1 : Int32 × Int32 × Int32) : (Int32 × Int32 × Int32) ⊕ (Int32 × Int32 × Int32) := (if v1.2.2 < 20 then (if v1.2.1 = (-1 : Int32) then (.inr (v1.1, v1.2.1, v1.2.2)) else (if (v_T_arrivalOf h v1.2.1) ≤ (v_U_latestEnd h a1) then (.inl ((if (v_U_mayEnd h v1.2.1 (v_at 20 (h.1 7) v1.2.1)) = 0 then v1.1 else (if ((if (v_at 20 (h.1 7) v1.2.1) = (-1 : Int32) then (0 : Int32) else (v_at 20 (h.1 17) (v_at 20 (h.1 7) v1.2.1))) : Int32) = (-1 : Int32) then v1.1 else (if v1.1 = (-1 : Int32) then ((if (v_at 20 (h.1 7) v1.2.1) = (-1 : Int32) then (0 : Int32) else (v_at 20 (h.1 17) (v_at 20 (h.1 7) v1.2.1))) + 1) else (if ((if (v_at 20 (h.1 7) v1.2.1) = (-1 : Int32) then (0 : Int32) else (v_at 20 (h.1 17) (v_at 20 (h.1 7) v1.2.1))) + 1) < v1.1 then ((if (v_at 20 (h.1 7) v1.2.1) = (-1 : Int32) then (0 : Int32) else (v_at 20 (h.1 17) (v_at 20 (h.1 7) v1.2.1))) + 1) else v1.1)))), (v_at 20 (h.1 7) v1.2.1), (v1.2.2 + 1))) else (.inr (v1.1, v1.2.1, v1.2.2)))) else (.inr (v1.1, v1.2.1, v1.2.2)))
def ps_U_fewestToEnd_14 (h : HP) (a1 : Int32) (v1 : Int32 × Int32 × Int32) : Prop := True
def v_U_fewestToEnd (h : HP) (a1 : Int32) : Int32 := (match itr (s_U_fewestToEnd_14 h a1) NF ((-1 : Int32), a1, 0) with | some r1 => r1.1 | none => 0)
def p_U_fewestToEnd (h : HP) (a1 : Int32) : Prop := (itrp (s_U_fewestToEnd_14 h a1) (ps_U_fewestToEnd_14 h a1) NF ((-1 : Int32), a1, 0))
def g_U_fewestToEnd (_ _ : List Sh) (as : List Value) (h : HP) : GR := match as with
  | [.ref o1, .int a1] => (Nat.beq o1 16, p_U_fewestToEnd h a1, none, some (.int (v_U_fewestToEnd h a1)), h)
  | _ => bad h
def d_U_fewestToEnd (k : Nat) : CD := (k, yX1_fewestToEnd, cX1_fewestToEnd, 8, some .int, 2, 2, 47, 0, false, true, g_U_fewestToEnd)
theorem chk_U_fewestToEnd : ∀ pc, am_chk cX1_fewestToEnd k_U_fewestToEnd pc = true := am_chkall 122 (by decide +kernel) (fun pc h => by unfold k_U_fewestToEnd; rw [Nat.ble_eq_true_of_le h]; rfl)
theorem pf_U_fewestToEnd : plainFor yX1_fewestToEnd = true := by decide +kernel
theorem cu_U_fewestToEnd : Cond.code yX1_fewestToEnd cX1_fewestToEnd 8 (some .int) ∈ am_U := am_tb 735 (by decide +kernel) rfl
set_option maxRecDepth 100000 in
theorem ev_U_fewestToEnd {e1 ro : List Sh} {P : AR → HP → Prop} (h : HP) (a1 : Int32) (hp : p_U_fewestToEnd h a1) (hP : ∀ q, v_U_fewestToEnd h a1 = q → RI P h q) : am_Ev m_U_fewestToEnd (WW ++ e1) ro P (0, [.ref 16, .int a1, .retAddr 0, .retAddr 0, .retAddr 0, .retAddr 0, .retAddr 0, .retAddr 0], [], h) := by
  unfold p_U_fewestToEnd at hp
  refine am_Ev_G [14] 400 _ ?_
  show am_Ev m_U_fewestToEnd (WW ++ e1) ro P (14, [.ref 16, .int a1, .int (v_U_latestEnd h a1), .int (-1 : Int32), .int a1, .int 0, .retAddr 0, .retAddr 0], [], h)
  refine am_fg 1 ?_
  have hpl := hp
  refine am_itr (E := (fun (v1 : Int32 × Int32 × Int32) => am_Ev m_U_fewestToEnd (WW ++ e1) ro P (14, [.ref 16, .retAddr 0, .int (v_U_latestEnd h a1), .int v1.1, .int v1.2.1, .int v1.2.2, .retAddr 0, .retAddr 0], [], h))) (E' := (fun (r1 : Int32 × Int32 × Int32) => am_Ev m_U_fewestToEnd (WW ++ e1) ro P (120, [.ref 16, .retAddr 0, .int (v_U_latestEnd h a1), .int r1.1, .int r1.2.1, .int r1.2.2, .retAddr 0, .retAddr 0], [], h))) (s_U_fewestToEnd_14 h a1) (ps_U_fewestToEnd_14 h a1) ?_ NF ((-1 : Int32), a1, 0) hpl ?_
  · intro v1 hp hc1 hx1
    show am_Ev m_U_fewestToEnd (WW ++ e1) ro P (14, [.ref 16, .retAddr 0, .int (v_U_latestEnd h a1), .int v1.1, .int v1.2.1, .int v1.2.2, .retAddr 0, .retAddr 0], [], h)
    refine am_Ev_G [24, 120] 400 _ ?_
    show ((¬ v1.2.2 < 20 → am_Ev m_U_fewestToEnd (WW ++ e1) ro P (120, [.ref 16, .retAddr 0, .int (v_U_latestEnd h a1), .int v1.1, .int v1.2.1, .int v1.2.2, .retAddr 0, .retAddr 0], [], h)) ∧ (v1.2.2 < 20 → am_Ev m_U_fewestToEnd (WW ++ e1) ro P (24, [.ref 16, .retAddr 0, .int (v_U_latestEnd h a1), .int v1.1, .int v1.2.1, .int v1.2.2, .retAddr 0, .retAddr 0], [.int (-1 : Int32), .int v1.2.1], h)))
    refine ⟨fun c1 => ?_, fun c1 => ?_⟩
    · skip
      exact hx1 (v1.1, v1.2.1, v1.2.2) (by unfold s_U_fewestToEnd_14; simp only [if_neg c1])
    · skip
      refine am_Ev_G [52, 120] 400 _ ?_
      show ((v1.2.1 = (-1 : Int32) → am_Ev m_U_fewestToEnd (WW ++ e1) ro P (120, [.ref 16, .retAddr 0, .int (v_U_latestEnd h a1), .int v1.1, .int v1.2.1, .int v1.2.2, .retAddr 0, .retAddr 0], [], h)) ∧ (¬ v1.2.1 = (-1 : Int32) → ((¬ (v_T_arrivalOf h v1.2.1) ≤ (v_U_latestEnd h a1) → am_Ev m_U_fewestToEnd (WW ++ e1) ro P (120, [.ref 16, .retAddr 0, .int (v_U_latestEnd h a1), .int v1.1, .int v1.2.1, .int v1.2.2, .retAddr 0, .retAddr 0], [], h)) ∧ ((v_T_arrivalOf h v1.2.1) ≤ (v_U_latestEnd h a1) → am_Ev m_U_fewestToEnd (WW ++ e1) ro P (52, [.ref 16, .retAddr 0, .int (v_U_latestEnd h a1), .int v1.1, .int v1.2.1, .int v1.2.2, .retAddr 0, .retAddr 0], [.int (v_at 20 (h.1 7) v1.2.1)], h)))))
      refine ⟨fun c2 => ?_, fun c2 => ?_⟩
      · skip
        exact hx1 (v1.1, v1.2.1, v1.2.2) (by unfold s_U_fewestToEnd_14; simp only [if_pos c1, if_pos c2])
      · skip
        refine ⟨fun c3 => ?_, fun c3 => ?_⟩
        · skip
          exact hx1 (v1.1, v1.2.1, v1.2.2) (by unfold s_U_fewestToEnd_14; simp only [if_pos c1, if_neg c2, if_neg c3])
        · skip
          refine am_Ev_G [57] 400 _ ?_
          show am_Ev m_U_fewestToEnd (WW ++ e1) ro P (57, [.ref 16, .retAddr 0, .int (v_U_latestEnd h a1), .int v1.1, .int v1.2.1, .int v1.2.2, .int (v_at 20 (h.1 7) v1.2.1), .retAddr 0], [.int (-1 : Int32), .int (v_at 20 (h.1 7) v1.2.1)], h)
          have key4 : am_Ev m_U_fewestToEnd (WW ++ e1) ro P (73, [.ref 16, .retAddr 0, .int (v_U_latestEnd h a1), .int v1.1, .int v1.2.1, .int v1.2.2, .int (v_at 20 (h.1 7) v1.2.1), .retAddr 0], [.int (if (v_at 20 (h.1 7) v1.2.1) = (-1 : Int32) then (0 : Int32) else (v_at 20 (h.1 17) (v_at 20 (h.1 7) v1.2.1)))], h) := by
            refine am_Ev_G [83] 400 _ ?_
            show am_Ev m_U_fewestToEnd (WW ++ e1) ro P (83, [.ref 16, .retAddr 0, .int (v_U_latestEnd h a1), .int v1.1, .int v1.2.1, .int v1.2.2, .int (v_at 20 (h.1 7) v1.2.1), .int (if (v_at 20 (h.1 7) v1.2.1) = (-1 : Int32) then (0 : Int32) else (v_at 20 (h.1 17) (v_at 20 (h.1 7) v1.2.1)))], [.int (v_U_mayEnd h v1.2.1 (v_at 20 (h.1 7) v1.2.1))], h)
            have key5 : am_Ev m_U_fewestToEnd (WW ++ e1) ro P (110, [.ref 16, .retAddr 0, .int (v_U_latestEnd h a1), .int (if (v_U_mayEnd h v1.2.1 (v_at 20 (h.1 7) v1.2.1)) = 0 then v1.1 else (if ((if (v_at 20 (h.1 7) v1.2.1) = (-1 : Int32) then (0 : Int32) else (v_at 20 (h.1 17) (v_at 20 (h.1 7) v1.2.1))) : Int32) = (-1 : Int32) then v1.1 else (if v1.1 = (-1 : Int32) then ((if (v_at 20 (h.1 7) v1.2.1) = (-1 : Int32) then (0 : Int32) else (v_at 20 (h.1 17) (v_at 20 (h.1 7) v1.2.1))) + 1) else (if ((if (v_at 20 (h.1 7) v1.2.1) = (-1 : Int32) then (0 : Int32) else (v_at 20 (h.1 17) (v_at 20 (h.1 7) v1.2.1))) + 1) < v1.1 then ((if (v_at 20 (h.1 7) v1.2.1) = (-1 : Int32) then (0 : Int32) else (v_at 20 (h.1 17) (v_at 20 (h.1 7) v1.2.1))) + 1) else v1.1)))), .int v1.2.1, .int v1.2.2, .int (v_at 20 (h.1 7) v1.2.1), .int (if (v_at 20 (h.1 7) v1.2.1) = (-1 : Int32) then (0 : Int32) else (v_at 20 (h.1 17) (v_at 20 (h.1 7) v1.2.1)))], [], h) := by
              refine am_Ev_G [14] 400 _ ?_
              show am_Ev m_U_fewestToEnd (WW ++ e1) ro P (14, [.ref 16, .retAddr 0, .int (v_U_latestEnd h a1), .int (if (v_U_mayEnd h v1.2.1 (v_at 20 (h.1 7) v1.2.1)) = 0 then v1.1 else (if ((if (v_at 20 (h.1 7) v1.2.1) = (-1 : Int32) then (0 : Int32) else (v_at 20 (h.1 17) (v_at 20 (h.1 7) v1.2.1))) : Int32) = (-1 : Int32) then v1.1 else (if v1.1 = (-1 : Int32) then ((if (v_at 20 (h.1 7) v1.2.1) = (-1 : Int32) then (0 : Int32) else (v_at 20 (h.1 17) (v_at 20 (h.1 7) v1.2.1))) + 1) else (if ((if (v_at 20 (h.1 7) v1.2.1) = (-1 : Int32) then (0 : Int32) else (v_at 20 (h.1 17) (v_at 20 (h.1 7) v1.2.1))) + 1) < v1.1 then ((if (v_at 20 (h.1 7) v1.2.1) = (-1 : Int32) then (0 : Int32) else (v_at 20 (h.1 17) (v_at 20 (h.1 7) v1.2.1))) + 1) else v1.1)))), .int (v_at 20 (h.1 7) v1.2.1), .int (v1.2.2 + 1), .int (v_at 20 (h.1 7) v1.2.1), .int (if (v_at 20 (h.1 7) v1.2.1) = (-1 : Int32) then (0 : Int32) else (v_at 20 (h.1 17) (v_at 20 (h.1 7) v1.2.1)))], [], h)
              refine am_fg 6 ?_
              refine am_fg 7 ?_
              exact hc1 ((if (v_U_mayEnd h v1.2.1 (v_at 20 (h.1 7) v1.2.1)) = 0 then v1.1 else (if ((if (v_at 20 (h.1 7) v1.2.1) = (-1 : Int32) then (0 : Int32) else (v_at 20 (h.1 17) (v_at 20 (h.1 7) v1.2.1))) : Int32) = (-1 : Int32) then v1.1 else (if v1.1 = (-1 : Int32) then ((if (v_at 20 (h.1 7) v1.2.1) = (-1 : Int32) then (0 : Int32) else (v_at 20 (h.1 17) (v_at 20 (h.1 7) v1.2.1))) + 1) else (if ((if (v_at 20 (h.1 7) v1.2.1) = (-1 : Int32) then (0 : Int32) else (v_at 20 (h.1 17) (v_at 20 (h.1 7) v1.2.1))) + 1) < v1.1 then ((if (v_at 20 (h.1 7) v1.2.1) = (-1 : Int32) then (0 : Int32) else (v_at 20 (h.1 17) (v_at 20 (h.1 7) v1.2.1))) + 1) else v1.1)))), (v_at 20 (h.1 7) v1.2.1), (v1.2.2 + 1)) (by unfold s_U_fewestToEnd_14; simp only [if_pos c1, if_neg c2, if_pos c3])
            refine am_Ev_G [110] 400 _ ?_
            show (((v_U_mayEnd h v1.2.1 (v_at 20 (h.1 7) v1.2.1)) = 0 → am_Ev m_U_fewestToEnd (WW ++ e1) ro P (110, [.ref 16, .retAddr 0, .int (v_U_latestEnd h a1), .int v1.1, .int v1.2.1, .int v1.2.2, .int (v_at 20 (h.1 7) v1.2.1), .int (if (v_at 20 (h.1 7) v1.2.1) = (-1 : Int32) then (0 : Int32) else (v_at 20 (h.1 17) (v_at 20 (h.1 7) v1.2.1)))], [], h)) ∧ (¬ (v_U_mayEnd h v1.2.1 (v_at 20 (h.1 7) v1.2.1)) = 0 → ((((if (v_at 20 (h.1 7) v1.2.1) = (-1 : Int32) then (0 : Int32) else (v_at 20 (h.1 17) (v_at 20 (h.1 7) v1.2.1))) : Int32) = (-1 : Int32) → am_Ev m_U_fewestToEnd (WW ++ e1) ro P (110, [.ref 16, .retAddr 0, .int (v_U_latestEnd h a1), .int v1.1, .int v1.2.1, .int v1.2.2, .int (v_at 20 (h.1 7) v1.2.1), .int (if (v_at 20 (h.1 7) v1.2.1) = (-1 : Int32) then (0 : Int32) else (v_at 20 (h.1 17) (v_at 20 (h.1 7) v1.2.1)))], [], h)) ∧ (¬ ((if (v_at 20 (h.1 7) v1.2.1) = (-1 : Int32) then (0 : Int32) else (v_at 20 (h.1 17) (v_at 20 (h.1 7) v1.2.1))) : Int32) = (-1 : Int32) → ((v1.1 = (-1 : Int32) → am_Ev m_U_fewestToEnd (WW ++ e1) ro P (110, [.ref 16, .retAddr 0, .int (v_U_latestEnd h a1), .int ((if (v_at 20 (h.1 7) v1.2.1) = (-1 : Int32) then (0 : Int32) else (v_at 20 (h.1 17) (v_at 20 (h.1 7) v1.2.1))) + 1), .int v1.2.1, .int v1.2.2, .int (v_at 20 (h.1 7) v1.2.1), .int (if (v_at 20 (h.1 7) v1.2.1) = (-1 : Int32) then (0 : Int32) else (v_at 20 (h.1 17) (v_at 20 (h.1 7) v1.2.1)))], [], h)) ∧ (¬ v1.1 = (-1 : Int32) → ((¬ ((if (v_at 20 (h.1 7) v1.2.1) = (-1 : Int32) then (0 : Int32) else (v_at 20 (h.1 17) (v_at 20 (h.1 7) v1.2.1))) + 1) < v1.1 → am_Ev m_U_fewestToEnd (WW ++ e1) ro P (110, [.ref 16, .retAddr 0, .int (v_U_latestEnd h a1), .int v1.1, .int v1.2.1, .int v1.2.2, .int (v_at 20 (h.1 7) v1.2.1), .int (if (v_at 20 (h.1 7) v1.2.1) = (-1 : Int32) then (0 : Int32) else (v_at 20 (h.1 17) (v_at 20 (h.1 7) v1.2.1)))], [], h)) ∧ (((if (v_at 20 (h.1 7) v1.2.1) = (-1 : Int32) then (0 : Int32) else (v_at 20 (h.1 17) (v_at 20 (h.1 7) v1.2.1))) + 1) < v1.1 → am_Ev m_U_fewestToEnd (WW ++ e1) ro P (110, [.ref 16, .retAddr 0, .int (v_U_latestEnd h a1), .int ((if (v_at 20 (h.1 7) v1.2.1) = (-1 : Int32) then (0 : Int32) else (v_at 20 (h.1 17) (v_at 20 (h.1 7) v1.2.1))) + 1), .int v1.2.1, .int v1.2.2, .int (v_at 20 (h.1 7) v1.2.1), .int (if (v_at 20 (h.1 7) v1.2.1) = (-1 : Int32) then (0 : Int32) else (v_at 20 (h.1 17) (v_at 20 (h.1 7) v1.2.1)))], [], h)))))))))
            refine ⟨fun c6 => ?_, fun c6 => ?_⟩
            · skip
              simpa only [if_pos c6] using key5
            · skip
              refine ⟨fun c7 => ?_, fun c7 => ?_⟩
              · skip
                simpa only [if_neg c6, if_pos c7] using key5
              · skip
                refine ⟨fun c8 => ?_, fun c8 => ?_⟩
                · skip
                  simpa only [if_neg c6, if_neg c7, if_pos c8] using key5
                · skip
                  refine ⟨fun c9 => ?_, fun c9 => ?_⟩
                  · skip
                    simpa only [if_neg c6, if_neg c7, if_neg c8, if_neg c9] using key5
                  · skip
                    simpa only [if_neg c6, if_neg c7, if_neg c8, if_pos c9] using key5
          refine am_Ev_G [73] 400 _ ?_
          show ((¬ (v_at 20 (h.1 7) v1.2.1) = (-1 : Int32) → am_Ev m_U_fewestToEnd (WW ++ e1) ro P (73, [.ref 16, .retAddr 0, .int (v_U_latestEnd h a1), .int v1.1, .int v1.2.1, .int v1.2.2, .int (v_at 20 (h.1 7) v1.2.1), .retAddr 0], [.int (v_at 20 (h.1 17) (v_at 20 (h.1 7) v1.2.1))], h)) ∧ ((v_at 20 (h.1 7) v1.2.1) = (-1 : Int32) → am_Ev m_U_fewestToEnd (WW ++ e1) ro P (73, [.ref 16, .retAddr 0, .int (v_U_latestEnd h a1), .int v1.1, .int v1.2.1, .int v1.2.2, .int (v_at 20 (h.1 7) v1.2.1), .retAddr 0], [.int 0], h)))
          refine ⟨fun c10 => ?_, fun c10 => ?_⟩
          · skip
            simpa only [if_neg c10] using key4
          · skip
            simpa only [if_pos c10] using key4
  · intro r1 hr11
    show am_Ev m_U_fewestToEnd (WW ++ e1) ro P (120, [.ref 16, .retAddr 0, .int (v_U_latestEnd h a1), .int r1.1, .int r1.2.1, .int r1.2.2, .retAddr 0, .retAddr 0], [], h)
    refine am_Ev_G [] 400 _ ?_
    show P (.inl (some (.int r1.1))) h
    exact hP r1.1 (by unfold v_U_fewestToEnd; simp only [hr11])
theorem ok_U_fewestToEnd {l : Launch} (hl : l.stackTraces = false) (e1 ro : List Sh) (k : Nat) : am_Ok l (WW ++ e1) ro (d_U_fewestToEnd k) := by
  refine am_met hl (own := RX1) (M := m_U_fewestToEnd) rfl pf_U_fewestToEnd cu_U_fewestToEnd rfl rfl rfl rfl (fun _ => rfl) rfl ⟨chk_U_fewestToEnd, (am_c (fl_U_9) (am_c (fl_U_15) (am_c (fl_U_44) am_n))), (am_c (lk_U_27) (am_c (lk_U_37) (am_c (lk_U_41) (am_c (lk_U_47) am_n)))), (am_n), (am_n)⟩ (am_n) (am_c (ok_B_at hl _ _ 1) (am_c (ok_U_latestEnd hl e1 _ 11) (am_c (ok_T_arrivalOf hl (W21b ++ e1) _ 24) (am_c (ok_U_mayEnd hl e1 _ 11) am_n)))) (fun z => nomatch z) ?_ ?_
  · intro _ as h hg
    show g_thr (g_U_fewestToEnd (WW ++ e1) ro as h) = none
    unfold g_U_fewestToEnd
    split <;> rfl
  · intro as h hg hp
    revert hg hp
    show g_ok (g_U_fewestToEnd (WW ++ e1) ro as h) = true → g_pre (g_U_fewestToEnd (WW ++ e1) ro as h) → _ ∧ am_Ev m_U_fewestToEnd (WW ++ e1) ro (am_eq (g_U_fewestToEnd (WW ++ e1) ro as h)) (0, am_ent as 8, [], h)
    unfold g_U_fewestToEnd
    split
    · rename_i o1 a1
      intro hc hp
      change (Nat.beq o1 16) = true at hc
      obtain rfl := am_beq hc
      exact ⟨Nat.le_of_ble_eq_true rfl, ev_U_fewestToEnd h a1 hp eqRI⟩
    · exact fun z => nomatch z
def k_U_fewestBackward (pc : Nat) : Ent := bif Nat.ble 62 pc then am_nop else bif Nat.ble 27 pc then (bif Nat.ble 43 pc then (bif Nat.ble 53 pc then (bif Nat.ble 57 pc then (bif Nat.ble 58 pc then (bif Nat.ble 61 pc then (bif Nat.beq pc 61 then (.ireturn, 0, 0, []) else am_nop) else (bif Nat.beq pc 58 then (.invokestatic 27, 0, 0, []) else am_nop)) else (bif Nat.beq pc 57 then (.iload_n 1, 0, 1, []) else am_nop)) else (bif Nat.ble 54 pc then (bif Nat.beq pc 54 then (.getfield 15, 0, 0, []) else am_nop) else (bif Nat.beq pc 53 then (.aload_n 0, 0, 0, []) else am_nop))) else (bif Nat.ble 47 pc then (bif Nat.ble 50 pc then (bif Nat.beq pc 50 then (.goto (-39), 0, 11, []) else am_nop) else (bif Nat.beq pc 47 then (.iinc 3 1, 1, 3, []) else am_nop)) else (bif Nat.ble 46 pc then (bif Nat.beq pc 46 then (.istore_n 2, 0, 2, []) else am_nop) else (bif Nat.beq pc 43 then (.invokestatic 27, 0, 0, []) else am_nop)))) else (bif Nat.ble 35 pc then (bif Nat.ble 39 pc then (bif Nat.ble 42 pc then (bif Nat.beq pc 42 then (.iload_n 2, 0, 2, []) else am_nop) else (bif Nat.beq pc 39 then (.getfield 64, 0, 0, []) else am_nop)) else (bif Nat.ble 36 pc then (bif Nat.beq pc 36 then (.getfield 9, 0, 0, []) else am_nop) else (bif Nat.beq pc 35 then (.aload_n 0, 0, 0, []) else am_nop))) else (bif Nat.ble 29 pc then (bif Nat.ble 32 pc then (bif Nat.beq pc 32 then (.invokestatic 60, 0, 0, []) else am_nop) else (bif Nat.beq pc 29 then (.invokevirtual 57, 0, 0, []) else am_nop)) else (bif Nat.ble 28 pc then (bif Nat.beq pc 28 then (.iload_n 2, 0, 2, []) else am_nop) else (bif Nat.beq pc 27 then (.aload_n 0, 0, 0, []) else am_nop))))) else (bif Nat.ble 12 pc then (bif Nat.ble 19 pc then (bif Nat.ble 23 pc then (bif Nat.ble 26 pc then (bif Nat.beq pc 26 then (.iload_n 2, 0, 2, []) else am_nop) else (bif Nat.beq pc 23 then (.getfield 15, 0, 0, []) else am_nop)) else (bif Nat.ble 22 pc then (bif Nat.beq pc 22 then (.aload_n 0, 0, 0, []) else am_nop) else (bif Nat.beq pc 19 then (.if_icmp .eq 34, 0, 53, []) else am_nop))) else (bif Nat.ble 17 pc then (bif Nat.ble 18 pc then (bif Nat.beq pc 18 then (.iconst (-1), (-1 : Int32), 0, []) else am_nop) else (bif Nat.beq pc 17 then (.iload_n 2, 0, 2, []) else am_nop)) else (bif Nat.ble 14 pc then (bif Nat.beq pc 14 then (.if_icmp .ge 39, 0, 53, []) else am_nop) else (bif Nat.beq pc 12 then (.bipush 20, 20, 0, []) else am_nop)))) else (bif Nat.ble 8 pc then (bif Nat.ble 10 pc then (bif Nat.ble 11 pc then (bif Nat.beq pc 11 then (.iload_n 3, 0, 3, []) else am_nop) else (bif Nat.beq pc 10 then (.istore_n 3, 0, 3, []) else am_nop)) else (bif Nat.ble 9 pc then (bif Nat.beq pc 9 then (.iconst 0, 0, 0, []) else am_nop) else (bif Nat.beq pc 8 then (.istore_n 2, 0, 2, []) else am_nop))) else (bif Nat.ble 4 pc then (bif Nat.ble 5 pc then (bif Nat.beq pc 5 then (.invokevirtual 54, 0, 0, []) else am_nop) else (bif Nat.beq pc 4 then (.iload_n 1, 0, 1, []) else am_nop)) else (bif Nat.ble 1 pc then (bif Nat.beq pc 1 then (.getfield 9, 0, 0, []) else am_nop) else (bif Nat.beq pc 0 then (.aload_n 0, 0, 0, []) else am_nop)))))
theorem fl_U_64 : am_fok RX1 64 (4, 5) := ⟨RX4, TX4, 15, rfl, by decide, rfl, Or.inr ⟨"BusBlocks", am_tb 60 (by decide +kernel) rfl⟩⟩
theorem lk_U_54 : am_lnk RX1 54 (d_T_endFrom 24) := ⟨⟨by decide, by decide⟩, am_tb 2 (by decide +kernel) rfl, Or.inr ⟨by decide, rfl, am_tb 716 (by decide +kernel) rfl, am_tp 59 (by decide +kernel) rfl, ⟨TX4, 15, rfl⟩, Or.inr ⟨"BusBlocks", am_tb 731 (by decide +kernel) rfl⟩⟩⟩
theorem lk_U_57 : am_lnk RX1 57 (d_U_fewestToEnd 11) := ⟨⟨by decide, by decide⟩, am_tb 4 (by decide +kernel) rfl, Or.inr ⟨by decide, rfl, am_tb 734 (by decide +kernel) rfl, am_tp 63 (by decide +kernel) rfl, ⟨TX1, 2, rfl⟩, Or.inl (am_tb 732 (by decide +kernel) rfl)⟩⟩
theorem lk_U_60 : am_lnk RX1 60 (d_B_put 1) := ⟨⟨by decide, by decide⟩, am_tb 1 (by decide +kernel) rfl, Or.inl ⟨by decide, rfl, am_tb 342 (by decide +kernel) rfl, Or.inr ⟨rfl, "BusBlocks", am_tb 736 (by decide +kernel) rfl⟩⟩⟩
def m_U_fewestBackward : MI := (k_U_fewestBackward, [(9, 1, 0), (15, 1, 1), (64, 4, 5)], [(27, d_B_at 1), (54, d_T_endFrom 24), (57, d_U_fewestToEnd 11), (60, d_B_put 1)], [], [], [], [], 3, 76, some .int, fun _ => 0, 1)
def s_U_fewestBackward_11 (h : HP) (a1 : Int32) (v1 : Int32 × Int32 × HP) : (Int32 × Int32 × HP) ⊕ (Int32 × Int32 × HP) := (if v1.2.1 < 20 then (if v1.1 = (-1 : Int32) then (.inr (v1.1, v1.2.1, v1.2.2)) else (.inl ((v_at 20 ((v_put 20 v1.2.2 17 v1.1 (v_U_fewestToEnd v1.2.2 v1.1)).1 6) v1.1), (v1.2.1 + 1), (v_put 20 v1.2.2 17 v1.1 (v_U_fewestToEnd v1.2.2 v1.1))))) else (.inr (v1.1, v1.2.1, v1.2.2)))
def ps_U_fewestBackward_11 (h : HP) (a1 : Int32) (v1 : Int32 × Int32 × HP) : Prop := ((v1.2.1 < 20 → ((v1.1 = (-1 : Int32) → True) ∧ (¬ v1.1 = (-1 : Int32) → (p_U_fewestToEnd v1.2.2 v1.1)))) ∧ (¬ v1.2.1 < 20 → True))
def v_U_fewestBackward (h : HP) (a1 : Int32) : Int32 × HP := (match itr (s_U_fewestBackward_11 h a1) NF ((v_T_endFrom h a1), 0, h) with | some r1 => ((v_at 20 (r1.2.2.1 17) a1), r1.2.2) | none => (0, h))
def p_U_fewestBackward (h : HP) (a1 : Int32) : Prop := ((p_T_endFrom h a1) ∧ (itrp (s_U_fewestBackward_11 h a1) (ps_U_fewestBackward_11 h a1) NF ((v_T_endFrom h a1), 0, h)))
def g_U_fewestBackward (_ _ : List Sh) (as : List Value) (h : HP) : GR := match as with
  | [.ref o1, .int a1] => (Nat.beq o1 16, p_U_fewestBackward h a1, none, some (.int (v_U_fewestBackward h a1).1), (v_U_fewestBackward h a1).2)
  | _ => bad h
def d_U_fewestBackward (k : Nat) : CD := (k, yX1_fewestBackward, cX1_fewestBackward, 4, some .int, 2, 3, 76, 0, false, true, g_U_fewestBackward)
theorem chk_U_fewestBackward : ∀ pc, am_chk cX1_fewestBackward k_U_fewestBackward pc = true := am_chkall 62 (by decide +kernel) (fun pc h => by unfold k_U_fewestBackward; rw [Nat.ble_eq_true_of_le h]; rfl)
theorem pf_U_fewestBackward : plainFor yX1_fewestBackward = true := by decide +kernel
theorem cu_U_fewestBackward : Cond.code yX1_fewestBackward cX1_fewestBackward 4 (some .int) ∈ am_U := am_tb 730 (by decide +kernel) rfl
set_option maxRecDepth 100000 in
theorem ev_U_fewestBackward {e1 ro : List Sh} {P : AR → HP → Prop} (h : HP) (a1 : Int32) (hp : p_U_fewestBackward h a1) (hP : ∀ q, v_U_fewestBackward h a1 = q → RIW P h q) : am_Ev m_U_fewestBackward (WW ++ e1) ro P (0, [.ref 16, .int a1, .retAddr 0, .retAddr 0], [], h) := by
  unfold p_U_fewestBackward at hp
  refine am_Ev_G [11] 400 _ ?_
  show ((p_T_endFrom h a1) ∧ am_Ev m_U_fewestBackward (WW ++ e1) ro P (11, [.ref 16, .int a1, .int (v_T_endFrom h a1), .int 0], [], h))
  obtain ⟨hob, hp⟩ := hp
  refine ⟨hob, ?_⟩
  have hpl := hp
  refine am_itr (E := (fun (v1 : Int32 × Int32 × HP) => am_Ev m_U_fewestBackward (WW ++ e1) ro P (11, [.ref 16, .int a1, .int v1.1, .int v1.2.1], [], v1.2.2))) (E' := (fun (r1 : Int32 × Int32 × HP) => am_Ev m_U_fewestBackward (WW ++ e1) ro P (53, [.ref 16, .int a1, .int r1.1, .int r1.2.1], [], r1.2.2))) (s_U_fewestBackward_11 h a1) (ps_U_fewestBackward_11 h a1) ?_ NF ((v_T_endFrom h a1), 0, h) hpl ?_
  · intro v1 hp hc1 hx1
    show am_Ev m_U_fewestBackward (WW ++ e1) ro P (11, [.ref 16, .int a1, .int v1.1, .int v1.2.1], [], v1.2.2)
    unfold ps_U_fewestBackward_11 at hp
    refine am_Ev_G [26, 53] 400 _ ?_
    show ((¬ v1.2.1 < 20 → am_Ev m_U_fewestBackward (WW ++ e1) ro P (53, [.ref 16, .int a1, .int v1.1, .int v1.2.1], [], v1.2.2)) ∧ (v1.2.1 < 20 → ((v1.1 = (-1 : Int32) → am_Ev m_U_fewestBackward (WW ++ e1) ro P (53, [.ref 16, .int a1, .int v1.1, .int v1.2.1], [], v1.2.2)) ∧ (¬ v1.1 = (-1 : Int32) → am_Ev m_U_fewestBackward (WW ++ e1) ro P (26, [.ref 16, .int a1, .int v1.1, .int v1.2.1], [.ref 17], v1.2.2)))))
    refine ⟨fun c1 => ?_, fun c1 => ?_⟩
    · skip
      exact hx1 (v1.1, v1.2.1, v1.2.2) (by unfold s_U_fewestBackward_11; simp only [if_neg c1])
    · have hp := hp.1 c1
      refine ⟨fun c2 => ?_, fun c2 => ?_⟩
      · skip
        exact hx1 (v1.1, v1.2.1, v1.2.2) (by unfold s_U_fewestBackward_11; simp only [if_pos c1, if_pos c2])
      · have hp := hp.2 c2
        refine am_Ev_G [46] 400 _ ?_
        show ((p_U_fewestToEnd v1.2.2 v1.1) ∧ am_Ev m_U_fewestBackward (WW ++ e1) ro P (46, [.ref 16, .int a1, .int v1.1, .int v1.2.1], [.int (v_at 20 ((v_put 20 v1.2.2 17 v1.1 (v_U_fewestToEnd v1.2.2 v1.1)).1 6) v1.1)], (v_put 20 v1.2.2 17 v1.1 (v_U_fewestToEnd v1.2.2 v1.1))))
        refine ⟨hp, ?_⟩
        refine am_Ev_G [11] 400 _ ?_
        show am_Ev m_U_fewestBackward (WW ++ e1) ro P (11, [.ref 16, .int a1, .int (v_at 20 ((v_put 20 v1.2.2 17 v1.1 (v_U_fewestToEnd v1.2.2 v1.1)).1 6) v1.1), .int (v1.2.1 + 1)], [], (v_put 20 v1.2.2 17 v1.1 (v_U_fewestToEnd v1.2.2 v1.1)))
        exact hc1 ((v_at 20 ((v_put 20 v1.2.2 17 v1.1 (v_U_fewestToEnd v1.2.2 v1.1)).1 6) v1.1), (v1.2.1 + 1), (v_put 20 v1.2.2 17 v1.1 (v_U_fewestToEnd v1.2.2 v1.1))) (by unfold s_U_fewestBackward_11; simp only [if_pos c1, if_neg c2])
  · intro r1 hr3
    show am_Ev m_U_fewestBackward (WW ++ e1) ro P (53, [.ref 16, .int a1, .int r1.1, .int r1.2.1], [], r1.2.2)
    refine am_Ev_G [] 400 _ ?_
    show P (.inl (some (.int (v_at 20 (r1.2.2.1 17) a1)))) r1.2.2
    exact hP ((v_at 20 (r1.2.2.1 17) a1), r1.2.2) (by unfold v_U_fewestBackward; simp only [hr3])
theorem ok_U_fewestBackward {l : Launch} (hl : l.stackTraces = false) (e1 ro : List Sh) (k : Nat) : am_Ok l (WW ++ e1) ro (d_U_fewestBackward k) := by
  refine am_met hl (own := RX1) (M := m_U_fewestBackward) rfl pf_U_fewestBackward cu_U_fewestBackward rfl rfl rfl rfl (fun _ => rfl) rfl ⟨chk_U_fewestBackward, (am_c (fl_U_9) (am_c (fl_U_15) (am_c (fl_U_64) am_n))), (am_c (lk_U_27) (am_c (lk_U_54) (am_c (lk_U_57) (am_c (lk_U_60) am_n)))), (am_n), (am_n)⟩ (am_n) (am_c (ok_B_at hl _ _ 1) (am_c (ok_T_endFrom hl (W21b ++ e1) _ 24) (am_c (ok_U_fewestToEnd hl e1 _ 11) (am_c (ok_B_put hl _ _ 1) am_n)))) (fun z => nomatch z) ?_ ?_
  · intro _ as h hg
    show g_thr (g_U_fewestBackward (WW ++ e1) ro as h) = none
    unfold g_U_fewestBackward
    split <;> rfl
  · intro as h hg hp
    revert hg hp
    show g_ok (g_U_fewestBackward (WW ++ e1) ro as h) = true → g_pre (g_U_fewestBackward (WW ++ e1) ro as h) → _ ∧ am_Ev m_U_fewestBackward (WW ++ e1) ro (am_eq (g_U_fewestBackward (WW ++ e1) ro as h)) (0, am_ent as 4, [], h)
    unfold g_U_fewestBackward
    split
    · rename_i o1 a1
      intro hc hp
      change (Nat.beq o1 16) = true at hc
      obtain rfl := am_beq hc
      exact ⟨Nat.le_of_ble_eq_true rfl, ev_U_fewestBackward h a1 hp eqRIW⟩
    · exact fun z => nomatch z
def k_U_fewestOfAll (pc : Nat) : Ent := bif Nat.ble 51 pc then am_nop else bif Nat.ble 27 pc then (bif Nat.ble 39 pc then (bif Nat.ble 43 pc then (bif Nat.ble 49 pc then (bif Nat.ble 50 pc then (bif Nat.beq pc 50 then (.ireturn, 0, 0, []) else am_nop) else (bif Nat.beq pc 49 then (.iload_n 1, 0, 1, []) else am_nop)) else (bif Nat.ble 46 pc then (bif Nat.beq pc 46 then (.goto (-42), 0, 4, []) else am_nop) else (bif Nat.beq pc 43 then (.iinc 2 1, 1, 2, []) else am_nop))) else (bif Nat.ble 41 pc then (bif Nat.ble 42 pc then (bif Nat.beq pc 42 then (.istore_n 1, 0, 1, []) else am_nop) else (bif Nat.beq pc 41 then (.iadd, 0, 0, []) else am_nop)) else (bif Nat.ble 40 pc then (bif Nat.beq pc 40 then (.iload_n 3, 0, 3, []) else am_nop) else (bif Nat.beq pc 39 then (.iload_n 1, 0, 1, []) else am_nop)))) else (bif Nat.ble 33 pc then (bif Nat.ble 37 pc then (bif Nat.ble 38 pc then (bif Nat.beq pc 38 then (.ireturn, 0, 0, []) else am_nop) else (bif Nat.beq pc 37 then (.iconst (-1), (-1 : Int32), 0, []) else am_nop)) else (bif Nat.ble 34 pc then (bif Nat.beq pc 34 then (.if_icmp .ne 5, 0, 39, []) else am_nop) else (bif Nat.beq pc 33 then (.iconst (-1), (-1 : Int32), 0, []) else am_nop))) else (bif Nat.ble 31 pc then (bif Nat.ble 32 pc then (bif Nat.beq pc 32 then (.iload_n 3, 0, 3, []) else am_nop) else (bif Nat.beq pc 31 then (.istore_n 3, 0, 3, []) else am_nop)) else (bif Nat.ble 28 pc then (bif Nat.beq pc 28 then (.invokevirtual 75, 0, 0, []) else am_nop) else (bif Nat.beq pc 27 then (.iload_n 2, 0, 2, []) else am_nop))))) else (bif Nat.ble 9 pc then (bif Nat.ble 19 pc then (bif Nat.ble 23 pc then (bif Nat.ble 26 pc then (bif Nat.beq pc 26 then (.aload_n 0, 0, 0, []) else am_nop) else (bif Nat.beq pc 23 then (.ifCond .eq 20, 0, 43, []) else am_nop)) else (bif Nat.ble 20 pc then (bif Nat.beq pc 20 then (.invokevirtual 71, 0, 0, []) else am_nop) else (bif Nat.beq pc 19 then (.iload_n 2, 0, 2, []) else am_nop))) else (bif Nat.ble 15 pc then (bif Nat.ble 16 pc then (bif Nat.beq pc 16 then (.getfield 9, 0, 0, []) else am_nop) else (bif Nat.beq pc 15 then (.aload_n 0, 0, 0, []) else am_nop)) else (bif Nat.ble 12 pc then (bif Nat.beq pc 12 then (.if_icmp .ge 37, 0, 49, []) else am_nop) else (bif Nat.beq pc 9 then (.getfield 67, 0, 0, []) else am_nop)))) else (bif Nat.ble 3 pc then (bif Nat.ble 5 pc then (bif Nat.ble 6 pc then (bif Nat.beq pc 6 then (.getfield 9, 0, 0, []) else am_nop) else (bif Nat.beq pc 5 then (.aload_n 0, 0, 0, []) else am_nop)) else (bif Nat.ble 4 pc then (bif Nat.beq pc 4 then (.iload_n 2, 0, 2, []) else am_nop) else (bif Nat.beq pc 3 then (.istore_n 2, 0, 2, []) else am_nop))) else (bif Nat.ble 1 pc then (bif Nat.ble 2 pc then (bif Nat.beq pc 2 then (.iconst 0, 0, 0, []) else am_nop) else (bif Nat.beq pc 1 then (.istore_n 1, 0, 1, []) else am_nop)) else (bif Nat.beq pc 0 then (.iconst 0, 0, 0, []) else am_nop))))
theorem fl_U_67 : am_fok RX1 67 (4, 11) := ⟨RX4, TX4, 15, rfl, by decide, rfl, Or.inr ⟨"BusBlocks", am_tb 79 (by decide +kernel) rfl⟩⟩
theorem lk_U_71 : am_lnk RX1 71 (d_T_isHead 24) := ⟨⟨by decide, by decide⟩, am_tb 2 (by decide +kernel) rfl, Or.inr ⟨by decide, rfl, am_tb 397 (by decide +kernel) rfl, am_tp 16 (by decide +kernel) rfl, ⟨TX4, 15, rfl⟩, Or.inr ⟨"BusBlocks", am_tb 489 (by decide +kernel) rfl⟩⟩⟩
theorem lk_U_75 : am_lnk RX1 75 (d_U_fewestForward 11) := ⟨⟨by decide, by decide⟩, am_tb 4 (by decide +kernel) rfl, Or.inr ⟨by decide, rfl, am_tb 492 (by decide +kernel) rfl, am_tp 32 (by decide +kernel) rfl, ⟨TX1, 2, rfl⟩, Or.inl (am_tb 490 (by decide +kernel) rfl)⟩⟩
def m_U_fewestOfAll : MI := (k_U_fewestOfAll, [(9, 1, 0), (67, 4, 11)], [(71, d_T_isHead 24), (75, d_U_fewestForward 11)], [], [], [], [], 4, 101, some .int, fun _ => 0, 1)
def s_U_fewestOfAll_4 (h : HP) (v1 : Int32 × Int32) : (Int32 × Int32) ⊕ ((Int32 × Int32) ⊕ (Int32)) := (if v1.2 < (h.1 0 11) then (if (v_T_isHead h v1.2) = 0 then (.inl (v1.1, (v1.2 + 1))) else (if (v_U_fewestForward h v1.2) = (-1 : Int32) then (.inr (.inr (-1 : Int32))) else (.inl ((v1.1 + (v_U_fewestForward h v1.2)), (v1.2 + 1))))) else (.inr (.inl (v1.1, v1.2))))
def ps_U_fewestOfAll_4 (h : HP) (v1 : Int32 × Int32) : Prop := ((v1.2 < (h.1 0 11) → (((v_T_isHead h v1.2) = 0 → True) ∧ (¬ (v_T_isHead h v1.2) = 0 → (p_U_fewestForward h v1.2)))) ∧ (¬ v1.2 < (h.1 0 11) → True))
def v_U_fewestOfAll (h : HP) : Int32 := (match itr (s_U_fewestOfAll_4 h) NF (0, 0) with | some (.inl r1) => r1.1 | some (.inr q) => q | none => 0)
def p_U_fewestOfAll (h : HP) : Prop := (itrp (s_U_fewestOfAll_4 h) (ps_U_fewestOfAll_4 h) NF (0, 0))
def g_U_fewestOfAll (_ _ : List Sh) (as : List Value) (h : HP) : GR := match as with
  | [.ref o1] => (Nat.beq o1 16, p_U_fewestOfAll h, none, some (.int (v_U_fewestOfAll h)), h)
  | _ => bad h
def d_U_fewestOfAll (k : Nat) : CD := (k, yX1_fewestOfAll, cX1_fewestOfAll, 4, some .int, 1, 4, 101, 0, false, true, g_U_fewestOfAll)
theorem chk_U_fewestOfAll : ∀ pc, am_chk cX1_fewestOfAll k_U_fewestOfAll pc = true := am_chkall 51 (by decide +kernel) (fun pc h => by unfold k_U_fewestOfAll; rw [Nat.ble_eq_true_of_le h]; rfl)
theorem pf_U_fewestOfAll : plainFor yX1_fewestOfAll = true := by decide +kernel
theorem cu_U_fewestOfAll : Cond.code yX1_fewestOfAll cX1_fewestOfAll 4 (some .int) ∈ am_U := am_tb 488 (by decide +kernel) rfl
set_option maxRecDepth 100000 in
theorem ev_U_fewestOfAll {e1 ro : List Sh} {P : AR → HP → Prop} (h : HP) (hp : p_U_fewestOfAll h) (hP : ∀ q, v_U_fewestOfAll h = q → RI P h q) : am_Ev m_U_fewestOfAll (WW ++ e1) ro P (0, [.ref 16, .retAddr 0, .retAddr 0, .retAddr 0], [], h) := by
  unfold p_U_fewestOfAll at hp
  refine am_Ev_G [4] 400 _ ?_
  show am_Ev m_U_fewestOfAll (WW ++ e1) ro P (4, [.ref 16, .int 0, .int 0, .retAddr 0], [], h)
  have hpl := hp
  refine am_itr (E := (fun (v1 : Int32 × Int32) => am_Ev m_U_fewestOfAll (WW ++ e1) ro P (4, [.ref 16, .int v1.1, .int v1.2, .retAddr 0], [], h))) (E' := (fun (x : (Int32 × Int32) ⊕ (Int32)) => match x with | .inl r1 => am_Ev m_U_fewestOfAll (WW ++ e1) ro P (49, [.ref 16, .int r1.1, .int r1.2, .retAddr 0], [], h) | .inr q => RI P h q)) (s_U_fewestOfAll_4 h) (ps_U_fewestOfAll_4 h) ?_ NF (0, 0) hpl ?_
  · intro v1 hp hc1 hx1
    show am_Ev m_U_fewestOfAll (WW ++ e1) ro P (4, [.ref 16, .int v1.1, .int v1.2, .retAddr 0], [], h)
    unfold ps_U_fewestOfAll_4 at hp
    refine am_Ev_G [23, 49] 400 _ ?_
    show ((¬ v1.2 < (h.1 0 11) → am_Ev m_U_fewestOfAll (WW ++ e1) ro P (49, [.ref 16, .int v1.1, .int v1.2, .retAddr 0], [], h)) ∧ (v1.2 < (h.1 0 11) → am_Ev m_U_fewestOfAll (WW ++ e1) ro P (23, [.ref 16, .int v1.1, .int v1.2, .retAddr 0], [.int (v_T_isHead h v1.2)], h)))
    refine ⟨fun c1 => ?_, fun c1 => ?_⟩
    · skip
      exact hx1 (.inl (v1.1, v1.2)) (by unfold s_U_fewestOfAll_4; simp only [if_neg c1])
    · have hp := hp.1 c1
      refine am_Ev_G [4] 400 _ ?_
      show (((v_T_isHead h v1.2) = 0 → am_Ev m_U_fewestOfAll (WW ++ e1) ro P (4, [.ref 16, .int v1.1, .int (v1.2 + 1), .retAddr 0], [], h)) ∧ (¬ (v_T_isHead h v1.2) = 0 → ((p_U_fewestForward h v1.2) ∧ ((¬ (v_U_fewestForward h v1.2) = (-1 : Int32) → am_Ev m_U_fewestOfAll (WW ++ e1) ro P (4, [.ref 16, .int (v1.1 + (v_U_fewestForward h v1.2)), .int (v1.2 + 1), .int (v_U_fewestForward h v1.2)], [], h)) ∧ ((v_U_fewestForward h v1.2) = (-1 : Int32) → P (.inl (some (.int (-1 : Int32)))) h)))))
      refine ⟨fun c2 => ?_, fun c2 => ?_⟩
      · skip
        exact hc1 (v1.1, (v1.2 + 1)) (by unfold s_U_fewestOfAll_4; simp only [if_pos c1, if_pos c2])
      · have hp := hp.2 c2
        refine ⟨hp, ?_⟩
        refine ⟨fun c3 => ?_, fun c3 => ?_⟩
        · skip
          refine am_fg 3 ?_
          exact hc1 ((v1.1 + (v_U_fewestForward h v1.2)), (v1.2 + 1)) (by unfold s_U_fewestOfAll_4; simp only [if_pos c1, if_neg c2, if_neg c3])
        · skip
          exact hx1 (.inr (-1 : Int32)) (by unfold s_U_fewestOfAll_4; simp only [if_pos c1, if_neg c2, if_pos c3])
  · intro x hr4
    rcases x with r1 | q
    · skip
      show am_Ev m_U_fewestOfAll (WW ++ e1) ro P (49, [.ref 16, .int r1.1, .int r1.2, .retAddr 0], [], h)
      refine am_Ev_G [] 400 _ ?_
      show P (.inl (some (.int r1.1))) h
      exact hP r1.1 (by unfold v_U_fewestOfAll; simp only [hr4])
    · show RI P h q
      exact hP q (by unfold v_U_fewestOfAll; simp only [hr4])
theorem ok_U_fewestOfAll {l : Launch} (hl : l.stackTraces = false) (e1 ro : List Sh) (k : Nat) : am_Ok l (WW ++ e1) ro (d_U_fewestOfAll k) := by
  refine am_met hl (own := RX1) (M := m_U_fewestOfAll) rfl pf_U_fewestOfAll cu_U_fewestOfAll rfl rfl rfl rfl (fun _ => rfl) rfl ⟨chk_U_fewestOfAll, (am_c (fl_U_9) (am_c (fl_U_67) am_n)), (am_c (lk_U_71) (am_c (lk_U_75) am_n)), (am_n), (am_n)⟩ (am_n) (am_c (ok_T_isHead hl (W21b ++ e1) _ 24) (am_c (ok_U_fewestForward hl e1 _ 11) am_n)) (fun z => nomatch z) ?_ ?_
  · intro _ as h hg
    show g_thr (g_U_fewestOfAll (WW ++ e1) ro as h) = none
    unfold g_U_fewestOfAll
    split <;> rfl
  · intro as h hg hp
    revert hg hp
    show g_ok (g_U_fewestOfAll (WW ++ e1) ro as h) = true → g_pre (g_U_fewestOfAll (WW ++ e1) ro as h) → _ ∧ am_Ev m_U_fewestOfAll (WW ++ e1) ro (am_eq (g_U_fewestOfAll (WW ++ e1) ro as h)) (0, am_ent as 4, [], h)
    unfold g_U_fewestOfAll
    split
    · rename_i o1
      intro hc hp
      change (Nat.beq o1 16) = true at hc
      obtain rfl := am_beq hc
      exact ⟨Nat.le_of_ble_eq_true rfl, ev_U_fewestOfAll h hp eqRI⟩
    · exact fun z => nomatch z
end
