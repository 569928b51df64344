/-! BusBlocksModel, out of its code (written by gen/meth.py). -/
noncomputable section
def k_M_shift (pc : Nat) : Ent := bif Nat.ble 75 pc then am_nop else bif Nat.ble 38 pc then (bif Nat.ble 57 pc then (bif Nat.ble 67 pc then (bif Nat.ble 70 pc then (bif Nat.ble 73 pc then (bif Nat.ble 74 pc then (bif Nat.beq pc 74 then (.ireturn, 0, 0, []) else am_nop) else (bif Nat.beq pc 73 then (.iload_n 3, 0, 3, []) else am_nop)) else (bif Nat.beq pc 70 then (.invokevirtual 82, 0, 0, []) else am_nop)) else (bif Nat.ble 68 pc then (bif Nat.ble 69 pc then (bif Nat.beq pc 69 then (.iload_n 2, 0, 2, []) else am_nop) else (bif Nat.beq pc 68 then (.iconst 3, 3, 0, []) else am_nop)) else (bif Nat.beq pc 67 then (.iload_n 1, 0, 1, []) else am_nop))) else (bif Nat.ble 62 pc then (bif Nat.ble 63 pc then (bif Nat.ble 66 pc then (bif Nat.beq pc 66 then (.aload_n 0, 0, 0, []) else am_nop) else (bif Nat.beq pc 63 then (.invokevirtual 151, 0, 0, []) else am_nop)) else (bif Nat.beq pc 62 then (.iload_n 1, 0, 1, []) else am_nop)) else (bif Nat.ble 60 pc then (bif Nat.ble 61 pc then (bif Nat.beq pc 61 then (.aload_n 0, 0, 0, []) else am_nop) else (bif Nat.beq pc 60 then (.istore_n 3, 0, 3, []) else am_nop)) else (bif Nat.beq pc 57 then (.invokevirtual 49, 0, 0, []) else am_nop)))) else (bif Nat.ble 49 pc then (bif Nat.ble 54 pc then (bif Nat.ble 55 pc then (bif Nat.ble 56 pc then (bif Nat.beq pc 56 then (.iconst 3, 3, 0, []) else am_nop) else (bif Nat.beq pc 55 then (.iload_n 1, 0, 1, []) else am_nop)) else (bif Nat.beq pc 54 then (.aload_n 0, 0, 0, []) else am_nop)) else (bif Nat.ble 50 pc then (bif Nat.ble 51 pc then (bif Nat.beq pc 51 then (.invokevirtual 137, 0, 0, []) else am_nop) else (bif Nat.beq pc 50 then (.aload_n 0, 0, 0, []) else am_nop)) else (bif Nat.beq pc 49 then (.ireturn, 0, 0, []) else am_nop))) else (bif Nat.ble 44 pc then (bif Nat.ble 45 pc then (bif Nat.ble 46 pc then (bif Nat.beq pc 46 then (.invokevirtual 134, 0, 0, []) else am_nop) else (bif Nat.beq pc 45 then (.iconst 3, 3, 0, []) else am_nop)) else (bif Nat.beq pc 44 then (.aload_n 0, 0, 0, []) else am_nop)) else (bif Nat.ble 41 pc then (bif Nat.beq pc 41 then (.ifCond .ne 9, 0, 50, []) else am_nop) else (bif Nat.beq pc 38 then (.invokevirtual 60, 0, 0, []) else am_nop))))) else (bif Nat.ble 19 pc then (bif Nat.ble 30 pc then (bif Nat.ble 35 pc then (bif Nat.ble 36 pc then (bif Nat.ble 37 pc then (bif Nat.beq pc 37 then (.iload_n 1, 0, 1, []) else am_nop) else (bif Nat.beq pc 36 then (.aload_n 0, 0, 0, []) else am_nop)) else (bif Nat.beq pc 35 then (.ireturn, 0, 0, []) else am_nop)) else (bif Nat.ble 31 pc then (bif Nat.ble 32 pc then (bif Nat.beq pc 32 then (.invokevirtual 134, 0, 0, []) else am_nop) else (bif Nat.beq pc 31 then (.iconst 2, 2, 0, []) else am_nop)) else (bif Nat.beq pc 30 then (.aload_n 0, 0, 0, []) else am_nop))) else (bif Nat.ble 21 pc then (bif Nat.ble 24 pc then (bif Nat.ble 27 pc then (bif Nat.beq pc 27 then (.ifCond .ne 9, 0, 36, []) else am_nop) else (bif Nat.beq pc 24 then (.invokestatic 127, 0, 0, []) else am_nop)) else (bif Nat.beq pc 21 then (.sipush 1439, 1439, 0, []) else am_nop)) else (bif Nat.ble 20 pc then (bif Nat.beq pc 20 then (.iconst 0, 0, 0, []) else am_nop) else (bif Nat.beq pc 19 then (.iload_n 2, 0, 2, []) else am_nop)))) else (bif Nat.ble 7 pc then (bif Nat.ble 14 pc then (bif Nat.ble 15 pc then (bif Nat.ble 18 pc then (bif Nat.beq pc 18 then (.ireturn, 0, 0, []) else am_nop) else (bif Nat.beq pc 15 then (.invokevirtual 134, 0, 0, []) else am_nop)) else (bif Nat.beq pc 14 then (.iconst 1, 1, 0, []) else am_nop)) else (bif Nat.ble 10 pc then (bif Nat.ble 13 pc then (bif Nat.beq pc 13 then (.aload_n 0, 0, 0, []) else am_nop) else (bif Nat.beq pc 10 then (.ifCond .ne 9, 0, 19, []) else am_nop)) else (bif Nat.beq pc 7 then (.invokevirtual 148, 0, 0, []) else am_nop))) else (bif Nat.ble 2 pc then (bif Nat.ble 5 pc then (bif Nat.ble 6 pc then (bif Nat.beq pc 6 then (.iload_n 1, 0, 1, []) else am_nop) else (bif Nat.beq pc 5 then (.aload_n 0, 0, 0, []) else am_nop)) else (bif Nat.beq pc 2 then (.putfield 38, 0, 0, []) else am_nop)) else (bif Nat.ble 1 pc then (bif Nat.beq pc 1 then (.iconst 0, 0, 0, []) else am_nop) else (bif Nat.beq pc 0 then (.aload_n 0, 0, 0, []) else am_nop)))))
theorem lk_M_148 : am_lnk RX6 148 (d_M_isTrip 16) := ⟨⟨by decide, by decide⟩, am_tb 8 (by decide +kernel) rfl, Or.inr ⟨by decide, rfl, am_tb 984 (by decide +kernel) rfl, am_tp 73 (by decide +kernel) rfl, ⟨TX6, 16, rfl⟩, Or.inl (am_tb 982 (by decide +kernel) rfl)⟩⟩
theorem lk_M_151 : am_lnk RX6 151 (d_M_parts 16) := ⟨⟨by decide, by decide⟩, am_tb 8 (by decide +kernel) rfl, Or.inr ⟨by decide, rfl, am_tb 996 (by decide +kernel) rfl, am_tp 76 (by decide +kernel) rfl, ⟨TX6, 16, rfl⟩, Or.inl (am_tb 994 (by decide +kernel) rfl)⟩⟩
def m_M_shift : MI := (k_M_shift, [(38, 6, 8)], [(49, d_M_of 16), (60, d_M_isRun 16), (82, d_M_becomes 16), (127, d_M_in 0), (134, d_M_refuses 16), (137, d_M_saves 16), (148, d_M_isTrip 16), (151, d_M_parts 16)], [], [], [], [], 4, 88, some .int, fun _ => 0, 1)
def v_M_shift (h : HP) (a1 : Int32) (a2 : Int32) : Int32 × HP := (if (v_M_isTrip (am_si h 0 8 0) a1) = 0 then (bnd (v_M_refuses (am_si h 0 8 0) 1) fun y6 => (y6.1, y6.2)) else (if (v_M_in (am_si h 0 8 0) a2 0 1439) = 0 then (bnd (v_M_refuses (am_si h 0 8 0) 2) fun y5 => (y5.1, y5.2)) else (if (v_M_isRun (am_si h 0 8 0) a1) = 0 then (bnd (v_M_refuses (am_si h 0 8 0) 3) fun y4 => (y4.1, y4.2)) else (bnd (v_M_saves (am_si h 0 8 0)) fun y1 => (bnd (v_M_parts y1 a1) fun y2 => (bnd (v_M_becomes y2 a1 3 a2) fun y3 => ((v_M_of y1 a1 3), y3)))))))
def p_M_shift (h : HP) (a1 : Int32) (a2 : Int32) : Prop := ((p_M_isTrip (am_si h 0 8 0) a1) ∧ (((v_M_isTrip (am_si h 0 8 0) a1) = 0 → True) ∧ (¬ (v_M_isTrip (am_si h 0 8 0) a1) = 0 → (((v_M_in (am_si h 0 8 0) a2 0 1439) = 0 → True) ∧ (¬ (v_M_in (am_si h 0 8 0) a2 0 1439) = 0 → ((p_M_isRun (am_si h 0 8 0) a1) ∧ (((v_M_isRun (am_si h 0 8 0) a1) = 0 → True) ∧ (¬ (v_M_isRun (am_si h 0 8 0) a1) = 0 → ((p_M_saves (am_si h 0 8 0)) ∧ (∀ y1, v_M_saves (am_si h 0 8 0) = y1 → ((p_M_of y1 a1 3) ∧ ((p_M_parts y1 a1) ∧ (∀ y2, v_M_parts y1 a1 = y2 → (p_M_becomes y2 a1 3 a2))))))))))))))
def g_M_shift (_ _ : List Sh) (as : List Value) (h : HP) : GR := match as with
  | [.ref o1, .int a1, .int a2] => (Nat.beq o1 0, p_M_shift h a1 a2, none, some (.int (v_M_shift h a1 a2).1), (v_M_shift h a1 a2).2)
  | _ => bad h
def d_M_shift (k : Nat) : CD := (k, yX6_shift, cX6_shift, 4, some .int, 3, 4, 88, 0, false, true, g_M_shift)
theorem chk_M_shift : ∀ pc, am_chk cX6_shift k_M_shift pc = true := am_chkall 75 (by decide +kernel) (fun pc h => by unfold k_M_shift; rw [Nat.ble_eq_true_of_le h]; rfl)
theorem pf_M_shift : plainFor yX6_shift = true := by decide +kernel
theorem cu_M_shift : Cond.code yX6_shift cX6_shift 4 (some .int) ∈ am_U := am_tb 981 (by decide +kernel) rfl
set_option maxHeartbeats 20000000 in
set_option maxRecDepth 100000 in
theorem ev_M_shift {e1 ro : List Sh} {P : AR → HP → Prop} (h : HP) (a1 : Int32) (a2 : Int32) (hp : p_M_shift h a1 a2) (hP : ∀ q, v_M_shift h a1 a2 = q → RIW P h q) : am_Ev m_M_shift (WM ++ e1) ro P (0, [.ref 0, .int a1, .int a2, .retAddr 0], [], h) := by
  unfold p_M_shift at hp
  refine am_Ev_G [5] 400 _ ?_
  show am_Ev m_M_shift (WM ++ e1) ro P (5, [.ref 0, .int a1, .int a2, .retAddr 0], [], (am_si h 0 8 0))
  refine am_Ev_G [18, 35, 49, 54] 400 _ ?_
  show ((p_M_isTrip (am_si h 0 8 0) a1) ∧ ((¬ (v_M_isTrip (am_si h 0 8 0) a1) = 0 → ((¬ (v_M_in (am_si h 0 8 0) a2 0 1439) = 0 → ((p_M_isRun (am_si h 0 8 0) a1) ∧ ((¬ (v_M_isRun (am_si h 0 8 0) a1) = 0 → ((g_pre (g_M_saves (WM ++ e1) ro [.ref 0] (am_si h 0 8 0))) ∧ am_Ev m_M_shift (WM ++ e1) ro P (54, [.ref 0, .int a1, .int a2, .retAddr 0], [], (g_hp (g_M_saves (WM ++ e1) ro [.ref 0] (am_si h 0 8 0)))))) ∧ ((v_M_isRun (am_si h 0 8 0) a1) = 0 → am_Ev m_M_shift (WM ++ e1) ro P (49, [.ref 0, .int a1, .int a2, .retAddr 0], [.int ((v_M_refuses (am_si h 0 8 0) 3).1)], ((v_M_refuses (am_si h 0 8 0) 3).2)))))) ∧ ((v_M_in (am_si h 0 8 0) a2 0 1439) = 0 → am_Ev m_M_shift (WM ++ e1) ro P (35, [.ref 0, .int a1, .int a2, .retAddr 0], [.int ((v_M_refuses (am_si h 0 8 0) 2).1)], ((v_M_refuses (am_si h 0 8 0) 2).2))))) ∧ ((v_M_isTrip (am_si h 0 8 0) a1) = 0 → am_Ev m_M_shift (WM ++ e1) ro P (18, [.ref 0, .int a1, .int a2, .retAddr 0], [.int ((v_M_refuses (am_si h 0 8 0) 1).1)], ((v_M_refuses (am_si h 0 8 0) 1).2)))))
  show ((p_M_isTrip (am_si h 0 8 0) a1) ∧ ((¬ (v_M_isTrip (am_si h 0 8 0) a1) = 0 → ((¬ (v_M_in (am_si h 0 8 0) a2 0 1439) = 0 → ((p_M_isRun (am_si h 0 8 0) a1) ∧ ((¬ (v_M_isRun (am_si h 0 8 0) a1) = 0 → ((p_M_saves (am_si h 0 8 0)) ∧ am_Ev m_M_shift (WM ++ e1) ro P (54, [.ref 0, .int a1, .int a2, .retAddr 0], [], (v_M_saves (am_si h 0 8 0))))) ∧ ((v_M_isRun (am_si h 0 8 0) a1) = 0 → am_Ev m_M_shift (WM ++ e1) ro P (49, [.ref 0, .int a1, .int a2, .retAddr 0], [.int ((v_M_refuses (am_si h 0 8 0) 3).1)], ((v_M_refuses (am_si h 0 8 0) 3).2)))))) ∧ ((v_M_in (am_si h 0 8 0) a2 0 1439) = 0 → am_Ev m_M_shift (WM ++ e1) ro P (35, [.ref 0, .int a1, .int a2, .retAddr 0], [.int ((v_M_refuses (am_si h 0 8 0) 2).1)], ((v_M_refuses (am_si h 0 8 0) 2).2))))) ∧ ((v_M_isTrip (am_si h 0 8 0) a1) = 0 → am_Ev m_M_shift (WM ++ e1) ro P (18, [.ref 0, .int a1, .int a2, .retAddr 0], [.int ((v_M_refuses (am_si h 0 8 0) 1).1)], ((v_M_refuses (am_si h 0 8 0) 1).2)))))
  obtain ⟨hob, hp⟩ := hp
  refine ⟨hob, ?_⟩
  refine ⟨fun c1 => ?_, fun c1 => ?_⟩
  · have hp := hp.2 c1
    refine ⟨fun c2 => ?_, fun c2 => ?_⟩
    · have hp := hp.2 c2
      obtain ⟨hob, hp⟩ := hp
      refine ⟨hob, ?_⟩
      refine ⟨fun c3 => ?_, fun c3 => ?_⟩
      · have hp := hp.2 c3
        obtain ⟨hob, hp⟩ := hp
        refine ⟨hob, ?_⟩
        obtain ⟨y1, c4⟩ : ∃ y, v_M_saves (am_si h 0 8 0) = y := ⟨_, rfl⟩
        rw [c4]
        have hp := hp _ c4
        show am_Ev m_M_shift (WM ++ e1) ro P (54, [.ref 0, .int a1, .int a2, .retAddr 0], [], y1)
        refine am_Ev_G [66] 400 _ ?_
        show ((p_M_of y1 a1 3) ∧ ((p_M_parts y1 a1) ∧ am_Ev m_M_shift (WM ++ e1) ro P (66, [.ref 0, .int a1, .int a2, .int (v_M_of y1 a1 3)], [], (v_M_parts y1 a1))))
        obtain ⟨hob, hp⟩ := hp
        refine ⟨hob, ?_⟩
        obtain ⟨hob, hp⟩ := hp
        refine ⟨hob, ?_⟩
        obtain ⟨y2, c5⟩ : ∃ y, v_M_parts y1 a1 = y := ⟨_, rfl⟩
        rw [c5]
        have hp := hp _ c5
        show am_Ev m_M_shift (WM ++ e1) ro P (66, [.ref 0, .int a1, .int a2, .int (v_M_of y1 a1 3)], [], y2)
        refine am_Ev_G [73] 400 _ ?_
        show ((p_M_becomes y2 a1 3 a2) ∧ am_Ev m_M_shift (WM ++ e1) ro P (73, [.ref 0, .int a1, .int a2, .int (v_M_of y1 a1 3)], [], (v_M_becomes y2 a1 3 a2)))
        refine ⟨hp, ?_⟩
        obtain ⟨y3, c6⟩ : ∃ y, v_M_becomes y2 a1 3 a2 = y := ⟨_, rfl⟩
        rw [c6]
        show am_Ev m_M_shift (WM ++ e1) ro P (73, [.ref 0, .int a1, .int a2, .int (v_M_of y1 a1 3)], [], y3)
        refine am_Ev_G [] 400 _ ?_
        show P (.inl (some (.int (v_M_of y1 a1 3)))) y3
        exact hP ((v_M_of y1 a1 3), y3) (by unfold v_M_shift; simp only [if_neg c1, if_neg c2, if_neg c3, bnd, c4, bnd, c5, bnd, c6])
      · skip
        obtain ⟨y4, c7⟩ : ∃ y, v_M_refuses (am_si h 0 8 0) 3 = y := ⟨_, rfl⟩
        rw [c7]
        show am_Ev m_M_shift (WM ++ e1) ro P (49, [.ref 0, .int a1, .int a2, .retAddr 0], [.int y4.1], y4.2)
        refine am_Ev_G [] 400 _ ?_
        show P (.inl (some (.int y4.1))) y4.2
        exact hP (y4.1, y4.2) (by unfold v_M_shift; simp only [if_neg c1, if_neg c2, if_pos c3, bnd, c7])
    · skip
      obtain ⟨y5, c8⟩ : ∃ y, v_M_refuses (am_si h 0 8 0) 2 = y := ⟨_, rfl⟩
      rw [c8]
      show am_Ev m_M_shift (WM ++ e1) ro P (35, [.ref 0, .int a1, .int a2, .retAddr 0], [.int y5.1], y5.2)
      refine am_Ev_G [] 400 _ ?_
      show P (.inl (some (.int y5.1))) y5.2
      exact hP (y5.1, y5.2) (by unfold v_M_shift; simp only [if_neg c1, if_pos c2, bnd, c8])
  · skip
    obtain ⟨y6, c9⟩ : ∃ y, v_M_refuses (am_si h 0 8 0) 1 = y := ⟨_, rfl⟩
    rw [c9]
    show am_Ev m_M_shift (WM ++ e1) ro P (18, [.ref 0, .int a1, .int a2, .retAddr 0], [.int y6.1], y6.2)
    refine am_Ev_G [] 400 _ ?_
    show P (.inl (some (.int y6.1))) y6.2
    exact hP (y6.1, y6.2) (by unfold v_M_shift; simp only [if_pos c1, bnd, c9])
theorem ok_M_shift {l : Launch} (hl : l.stackTraces = false) (e1 ro : List Sh) (k : Nat) : am_Ok l (WM ++ e1) ro (d_M_shift k) := by
  refine am_met hl (own := RX6) (M := m_M_shift) rfl pf_M_shift cu_M_shift rfl rfl rfl rfl (fun _ => rfl) rfl ⟨chk_M_shift, (am_c (fl_M_38) am_n), (am_c (lk_M_49) (am_c (lk_M_60) (am_c (lk_M_82) (am_c (lk_M_127) (am_c (lk_M_134) (am_c (lk_M_137) (am_c (lk_M_148) (am_c (lk_M_151) am_n)))))))), (am_n), (am_n)⟩ (am_n) (am_c (ok_M_of hl e1 _ 16) (am_c (ok_M_isRun hl e1 _ 16) (am_c (ok_M_becomes hl e1 _ 16) (am_c (ok_M_in hl e1 _ 0) (am_c (ok_M_refuses hl e1 _ 16) (am_c (ok_M_saves hl e1 _ 16) (am_c (ok_M_isTrip hl e1 _ 16) (am_c (ok_M_parts hl e1 _ 16) am_n)))))))) (fun z => nomatch z) ?_ ?_
  · intro _ as h hg
    show g_thr (g_M_shift (WM ++ e1) ro as h) = none
    unfold g_M_shift
    split <;> rfl
  · intro as h hg hp
    revert hg hp
    show g_ok (g_M_shift (WM ++ e1) ro as h) = true → g_pre (g_M_shift (WM ++ e1) ro as h) → _ ∧ am_Ev m_M_shift (WM ++ e1) ro (am_eq (g_M_shift (WM ++ e1) ro as h)) (0, am_ent as 4, [], h)
    unfold g_M_shift
    split
    · rename_i o1 a1 a2
      intro hc hp
      change (Nat.beq o1 0) = true at hc
      obtain rfl := am_beq hc
      exact ⟨Nat.le_of_ble_eq_true rfl, ev_M_shift h a1 a2 hp eqRIW⟩
    · exact fun z => nomatch z
def k_M_mostOf (pc : Nat) : Ent := bif Nat.ble 41 pc then am_nop else bif Nat.ble 33 pc then (bif Nat.ble 36 pc then (bif Nat.ble 37 pc then (bif Nat.ble 40 pc then (bif Nat.beq pc 40 then (.ireturn, 0, 0, []) else am_nop) else (bif Nat.beq pc 37 then (.sipush 240, 240, 0, []) else am_nop)) else (bif Nat.beq pc 36 then (.ireturn, 0, 0, []) else am_nop)) else (bif Nat.ble 34 pc then (bif Nat.beq pc 34 then (.bipush 9, 9, 0, []) else am_nop) else (bif Nat.beq pc 33 then (.ireturn, 0, 0, []) else am_nop))) else (bif Nat.ble 28 pc then (bif Nat.ble 29 pc then (bif Nat.ble 30 pc then (bif Nat.beq pc 30 then (.sipush 900, 900, 0, []) else am_nop) else (bif Nat.beq pc 29 then (.ireturn, 0, 0, []) else am_nop)) else (bif Nat.beq pc 28 then (.iconst 1, 1, 0, []) else am_nop)) else (bif Nat.ble 1 pc then (bif Nat.beq pc 1 then (.tableswitch 36 0 2 #[27, 29, 33], 0, 37, [(0, 28), (1, 30), (2, 34)]) else am_nop) else (bif Nat.beq pc 0 then (.iload_n 0, 0, 0, []) else am_nop)))
def m_M_mostOf : MI := (k_M_mostOf, [], [], [], [], [], [], 0, 0, some .int, fun _ => 0, 1)
def v_M_mostOf (h : HP) (a1 : Int32) : Int32 := (if a1 = 0 then 1 else (if a1 = 1 then 900 else (if a1 = 2 then 9 else 240)))
def g_M_mostOf (_ _ : List Sh) (as : List Value) (h : HP) : GR := match as with
  | [.int a1] => (true, True, none, some (.int (v_M_mostOf h a1)), h)
  | _ => bad h
def d_M_mostOf (k : Nat) : CD := (k, yX6_mostOf, cX6_mostOf, 1, some .int, 1, 0, 0, 0, false, false, g_M_mostOf)
theorem chk_M_mostOf : ∀ pc, am_chk cX6_mostOf k_M_mostOf pc = true := am_chkall 41 (by decide +kernel) (fun pc h => by unfold k_M_mostOf; rw [Nat.ble_eq_true_of_le h]; rfl)
theorem pf_M_mostOf : plainFor yX6_mostOf = true := by decide +kernel
theorem cu_M_mostOf : Cond.code yX6_mostOf cX6_mostOf 1 (some .int) ∈ am_U := am_tb 1012 (by decide +kernel) rfl
set_option maxHeartbeats 20000000 in
set_option maxRecDepth 100000 in
theorem ev_M_mostOf {e1 ro : List Sh} {P : AR → HP → Prop} (h : HP) (a1 : Int32) (hP : ∀ q, v_M_mostOf h a1 = q → RI P h q) : am_Ev m_M_mostOf (WM ++ e1) ro P (0, [.int a1], [], h) := by
  refine am_Ev_G [] 400 _ ?_
  show ((a1 = 0 → P (.inl (some (.int 1))) h) ∧ (¬ a1 = 0 → ((a1 = 1 → P (.inl (some (.int 900))) h) ∧ (¬ a1 = 1 → ((a1 = 2 → P (.inl (some (.int 9))) h) ∧ (¬ a1 = 2 → P (.inl (some (.int 240))) h))))))
  refine ⟨fun c1 => ?_, fun c1 => ?_⟩
  · skip
    exact hP 1 (by unfold v_M_mostOf; simp only [if_pos c1])
  · skip
    refine ⟨fun c2 => ?_, fun c2 => ?_⟩
    · skip
      exact hP 900 (by unfold v_M_mostOf; simp only [if_neg c1, if_pos c2])
    · skip
      refine ⟨fun c3 => ?_, fun c3 => ?_⟩
      · skip
        exact hP 9 (by unfold v_M_mostOf; simp only [if_neg c1, if_neg c2, if_pos c3])
      · skip
        exact hP 240 (by unfold v_M_mostOf; simp only [if_neg c1, if_neg c2, if_neg c3])
theorem ok_M_mostOf {l : Launch} (hl : l.stackTraces = false) (e1 ro : List Sh) (k : Nat) : am_Ok l (WM ++ e1) ro (d_M_mostOf k) := by
  refine am_met hl (own := RX6) (M := m_M_mostOf) rfl pf_M_mostOf cu_M_mostOf rfl rfl rfl rfl (fun _ => rfl) rfl ⟨chk_M_mostOf, (am_n), (am_n), (am_n), (am_n)⟩ (am_n) (am_n) ?_ ?_ ?_
  · intro _ as h hg
    show g_pre (g_M_mostOf (WM ++ e1) ro as h)
    unfold g_M_mostOf
    split <;> exact trivial
  · intro _ as h hg
    show g_thr (g_M_mostOf (WM ++ e1) ro as h) = none
    unfold g_M_mostOf
    split <;> rfl
  · intro as h hg hp
    revert hg hp
    show g_ok (g_M_mostOf (WM ++ e1) ro as h) = true → g_pre (g_M_mostOf (WM ++ e1) ro as h) → _ ∧ am_Ev m_M_mostOf (WM ++ e1) ro (am_eq (g_M_mostOf (WM ++ e1) ro as h)) (0, am_ent as 1, [], h)
    unfold g_M_mostOf
    split
    · rename_i a1
      intro hc hp
      exact ⟨Nat.le_of_ble_eq_true rfl, ev_M_mostOf h a1 eqRI⟩
    · exact fun z => nomatch z
def k_M_set (pc : Nat) : Ent := bif Nat.ble 74 pc then am_nop else bif Nat.ble 39 pc then (bif Nat.ble 59 pc then (bif Nat.ble 68 pc then (bif Nat.ble 71 pc then (bif Nat.ble 72 pc then (bif Nat.ble 73 pc then (bif Nat.beq pc 73 then (.ireturn, 0, 0, []) else am_nop) else (bif Nat.beq pc 72 then (.iload_n 3, 0, 3, []) else am_nop)) else (bif Nat.beq pc 71 then (.iastore, 0, 0, []) else am_nop)) else (bif Nat.ble 69 pc then (bif Nat.ble 70 pc then (bif Nat.beq pc 70 then (.iload_n 2, 0, 2, []) else am_nop) else (bif Nat.beq pc 69 then (.iadd, 0, 0, []) else am_nop)) else (bif Nat.beq pc 68 then (.iload_n 1, 0, 1, []) else am_nop))) else (bif Nat.ble 62 pc then (bif Nat.ble 63 pc then (bif Nat.ble 66 pc then (bif Nat.beq pc 66 then (.bipush 8, 8, 0, []) else am_nop) else (bif Nat.beq pc 63 then (.getfield 7, 0, 0, []) else am_nop)) else (bif Nat.beq pc 62 then (.aload_n 0, 0, 0, []) else am_nop)) else (bif Nat.ble 60 pc then (bif Nat.ble 61 pc then (bif Nat.beq pc 61 then (.istore_n 3, 0, 3, []) else am_nop) else (bif Nat.beq pc 60 then (.iaload, 0, 0, []) else am_nop)) else (bif Nat.beq pc 59 then (.iadd, 0, 0, []) else am_nop)))) else (bif Nat.ble 48 pc then (bif Nat.ble 53 pc then (bif Nat.ble 56 pc then (bif Nat.ble 58 pc then (bif Nat.beq pc 58 then (.iload_n 1, 0, 1, []) else am_nop) else (bif Nat.beq pc 56 then (.bipush 8, 8, 0, []) else am_nop)) else (bif Nat.beq pc 53 then (.getfield 7, 0, 0, []) else am_nop)) else (bif Nat.ble 49 pc then (bif Nat.ble 52 pc then (bif Nat.beq pc 52 then (.aload_n 0, 0, 0, []) else am_nop) else (bif Nat.beq pc 49 then (.invokevirtual 137, 0, 0, []) else am_nop)) else (bif Nat.beq pc 48 then (.aload_n 0, 0, 0, []) else am_nop))) else (bif Nat.ble 43 pc then (bif Nat.ble 44 pc then (bif Nat.ble 47 pc then (bif Nat.beq pc 47 then (.ireturn, 0, 0, []) else am_nop) else (bif Nat.beq pc 44 then (.invokevirtual 134, 0, 0, []) else am_nop)) else (bif Nat.beq pc 43 then (.iconst 2, 2, 0, []) else am_nop)) else (bif Nat.ble 42 pc then (bif Nat.beq pc 42 then (.aload_n 0, 0, 0, []) else am_nop) else (bif Nat.beq pc 39 then (.ifCond .ne 9, 0, 48, []) else am_nop))))) else (bif Nat.ble 19 pc then (bif Nat.ble 26 pc then (bif Nat.ble 32 pc then (bif Nat.ble 33 pc then (bif Nat.ble 36 pc then (bif Nat.beq pc 36 then (.invokestatic 127, 0, 0, []) else am_nop) else (bif Nat.beq pc 33 then (.invokestatic 154, 0, 0, []) else am_nop)) else (bif Nat.beq pc 32 then (.iload_n 1, 0, 1, []) else am_nop)) else (bif Nat.ble 28 pc then (bif Nat.ble 31 pc then (bif Nat.beq pc 31 then (.iconst 0, 0, 0, []) else am_nop) else (bif Nat.beq pc 28 then (.goto 4, 0, 32, []) else am_nop)) else (bif Nat.beq pc 26 then (.bipush 60, 60, 0, []) else am_nop))) else (bif Nat.ble 21 pc then (bif Nat.ble 22 pc then (bif Nat.ble 23 pc then (bif Nat.beq pc 23 then (.if_icmp .ne 8, 0, 31, []) else am_nop) else (bif Nat.beq pc 22 then (.iconst 1, 1, 0, []) else am_nop)) else (bif Nat.beq pc 21 then (.iload_n 1, 0, 1, []) else am_nop)) else (bif Nat.ble 20 pc then (bif Nat.beq pc 20 then (.iload_n 2, 0, 2, []) else am_nop) else (bif Nat.beq pc 19 then (.ireturn, 0, 0, []) else am_nop)))) else (bif Nat.ble 7 pc then (bif Nat.ble 14 pc then (bif Nat.ble 15 pc then (bif Nat.ble 16 pc then (bif Nat.beq pc 16 then (.invokevirtual 134, 0, 0, []) else am_nop) else (bif Nat.beq pc 15 then (.iconst 1, 1, 0, []) else am_nop)) else (bif Nat.beq pc 14 then (.aload_n 0, 0, 0, []) else am_nop)) else (bif Nat.ble 8 pc then (bif Nat.ble 11 pc then (bif Nat.beq pc 11 then (.ifCond .ne 9, 0, 20, []) else am_nop) else (bif Nat.beq pc 8 then (.invokestatic 127, 0, 0, []) else am_nop)) else (bif Nat.beq pc 7 then (.iconst 3, 3, 0, []) else am_nop))) else (bif Nat.ble 2 pc then (bif Nat.ble 5 pc then (bif Nat.ble 6 pc then (bif Nat.beq pc 6 then (.iconst 0, 0, 0, []) else am_nop) else (bif Nat.beq pc 5 then (.iload_n 1, 0, 1, []) else am_nop)) else (bif Nat.beq pc 2 then (.putfield 38, 0, 0, []) else am_nop)) else (bif Nat.ble 1 pc then (bif Nat.beq pc 1 then (.iconst 0, 0, 0, []) else am_nop) else (bif Nat.beq pc 0 then (.aload_n 0, 0, 0, []) else am_nop)))))
theorem lk_M_154 : am_lnk RX6 154 (d_M_mostOf 0) := ⟨⟨by decide, by decide⟩, am_tb 8 (by decide +kernel) rfl, Or.inl ⟨by decide, rfl, am_tb 1011 (by decide +kernel) rfl, Or.inl ⟨by decide, am_tb 1010 (by decide +kernel) rfl⟩⟩⟩
def m_M_set : MI := (k_M_set, [(7, 6, 0), (38, 6, 8)], [(127, d_M_in 0), (134, d_M_refuses 16), (137, d_M_saves 16), (154, d_M_mostOf 0)], [], [], [], [], 2, 45, some .int, fun _ => 0, 1)
def v_M_set (h : HP) (a1 : Int32) (a2 : Int32) : Int32 × HP := (if (v_M_in (am_si h 0 8 0) a1 0 3) = 0 then (bnd (v_M_refuses (am_si h 0 8 0) 1) fun y3 => (y3.1, y3.2)) else (if (v_M_in (am_si h 0 8 0) a2 (if a1 = 1 then (60 : Int32) else 0) (v_M_mostOf (am_si h 0 8 0) a1)) = 0 then (bnd (v_M_refuses (am_si h 0 8 0) 2) fun y2 => (y2.1, y2.2)) else (bnd (v_M_saves (am_si h 0 8 0)) fun y1 => (y1.1 1 (am_ix (8 + a1)), (am_si y1 1 (am_ix (8 + a1)) a2)))))
def p_M_set (h : HP) (a1 : Int32) (a2 : Int32) : Prop := (((v_M_in (am_si h 0 8 0) a1 0 3) = 0 → True) ∧ (¬ (v_M_in (am_si h 0 8 0) a1 0 3) = 0 → (((v_M_in (am_si h 0 8 0) a2 (if a1 = 1 then (60 : Int32) else 0) (v_M_mostOf (am_si h 0 8 0) a1)) = 0 → True) ∧ (¬ (v_M_in (am_si h 0 8 0) a2 (if a1 = 1 then (60 : Int32) else 0) (v_M_mostOf (am_si h 0 8 0) a1)) = 0 → ((p_M_saves (am_si h 0 8 0)) ∧ (∀ y1, v_M_saves (am_si h 0 8 0) = y1 → ((am_in (8 + a1) 163) ∧ (am_in (8 + a1) 163))))))))
def g_M_set (_ _ : List Sh) (as : List Value) (h : HP) : GR := match as with
  | [.ref o1, .int a1, .int a2] => (Nat.beq o1 0, p_M_set h a1 a2, none, some (.int (v_M_set h a1 a2).1), (v_M_set h a1 a2).2)
  | _ => bad h
def d_M_set (k : Nat) : CD := (k, yX6_set, cX6_set, 4, some .int, 3, 2, 45, 0, false, true, g_M_set)
theorem chk_M_set : ∀ pc, am_chk cX6_set k_M_set pc = true := am_chkall 74 (by decide +kernel) (fun pc h => by unfold k_M_set; rw [Nat.ble_eq_true_of_le h]; rfl)
theorem pf_M_set : plainFor yX6_set = true := by decide +kernel
theorem cu_M_set : Cond.code yX6_set cX6_set 4 (some .int) ∈ am_U := am_tb 1009 (by decide +kernel) rfl
set_option maxHeartbeats 20000000 in
set_option maxRecDepth 100000 in
theorem ev_M_set {e1 ro : List Sh} {P : AR → HP → Prop} (h : HP) (a1 : Int32) (a2 : Int32) (hp : p_M_set h a1 a2) (hP : ∀ q, v_M_set h a1 a2 = q → RIW P h q) : am_Ev m_M_set (WM ++ e1) ro P (0, [.ref 0, .int a1, .int a2, .retAddr 0], [], h) := by
  unfold p_M_set at hp
  refine am_Ev_G [5] 400 _ ?_
  show am_Ev m_M_set (WM ++ e1) ro P (5, [.ref 0, .int a1, .int a2, .retAddr 0], [], (am_si h 0 8 0))
  refine am_Ev_G [11] 400 _ ?_
  show am_Ev m_M_set (WM ++ e1) ro P (11, [.ref 0, .int a1, .int a2, .retAddr 0], [.int (v_M_in (am_si h 0 8 0) a1 0 3)], (am_si h 0 8 0))
  refine am_Ev_G [19, 23] 400 _ ?_
  show ((¬ (v_M_in (am_si h 0 8 0) a1 0 3) = 0 → am_Ev m_M_set (WM ++ e1) ro P (23, [.ref 0, .int a1, .int a2, .retAddr 0], [.int 1, .int a1, .int a2], (am_si h 0 8 0))) ∧ ((v_M_in (am_si h 0 8 0) a1 0 3) = 0 → am_Ev m_M_set (WM ++ e1) ro P (19, [.ref 0, .int a1, .int a2, .retAddr 0], [.int ((v_M_refuses (am_si h 0 8 0) 1).1)], ((v_M_refuses (am_si h 0 8 0) 1).2))))
  refine ⟨fun c1 => ?_, fun c1 => ?_⟩
  · have hp := hp.2 c1
    have key2 : am_Ev m_M_set (WM ++ e1) ro P (32, [.ref 0, .int a1, .int a2, .retAddr 0], [.int (if a1 = 1 then (60 : Int32) else 0), .int a2], (am_si h 0 8 0)) := by
      refine am_Ev_G [36] 400 _ ?_
      show am_Ev m_M_set (WM ++ e1) ro P (36, [.ref 0, .int a1, .int a2, .retAddr 0], [.int (v_M_mostOf (am_si h 0 8 0) a1), .int (if a1 = 1 then (60 : Int32) else 0), .int a2], (am_si h 0 8 0))
      refine am_Ev_G [47, 52] 400 _ ?_
      show ((¬ (v_M_in (am_si h 0 8 0) a2 (if a1 = 1 then (60 : Int32) else 0) (v_M_mostOf (am_si h 0 8 0) a1)) = 0 → ((g_pre (g_M_saves (WM ++ e1) ro [.ref 0] (am_si h 0 8 0))) ∧ am_Ev m_M_set (WM ++ e1) ro P (52, [.ref 0, .int a1, .int a2, .retAddr 0], [], (g_hp (g_M_saves (WM ++ e1) ro [.ref 0] (am_si h 0 8 0)))))) ∧ ((v_M_in (am_si h 0 8 0) a2 (if a1 = 1 then (60 : Int32) else 0) (v_M_mostOf (am_si h 0 8 0) a1)) = 0 → am_Ev m_M_set (WM ++ e1) ro P (47, [.ref 0, .int a1, .int a2, .retAddr 0], [.int ((v_M_refuses (am_si h 0 8 0) 2).1)], ((v_M_refuses (am_si h 0 8 0) 2).2))))
      show ((¬ (v_M_in (am_si h 0 8 0) a2 (if a1 = 1 then (60 : Int32) else 0) (v_M_mostOf (am_si h 0 8 0) a1)) = 0 → ((p_M_saves (am_si h 0 8 0)) ∧ am_Ev m_M_set (WM ++ e1) ro P (52, [.ref 0, .int a1, .int a2, .retAddr 0], [], (v_M_saves (am_si h 0 8 0))))) ∧ ((v_M_in (am_si h 0 8 0) a2 (if a1 = 1 then (60 : Int32) else 0) (v_M_mostOf (am_si h 0 8 0) a1)) = 0 → am_Ev m_M_set (WM ++ e1) ro P (47, [.ref 0, .int a1, .int a2, .retAddr 0], [.int ((v_M_refuses (am_si h 0 8 0) 2).1)], ((v_M_refuses (am_si h 0 8 0) 2).2))))
      refine ⟨fun c3 => ?_, fun c3 => ?_⟩
      · have hp := hp.2 c3
        obtain ⟨hob, hp⟩ := hp
        refine ⟨hob, ?_⟩
        obtain ⟨y1, c4⟩ : ∃ y, v_M_saves (am_si h 0 8 0) = y := ⟨_, rfl⟩
        rw [c4]
        have hp := hp _ c4
        show am_Ev m_M_set (WM ++ e1) ro P (52, [.ref 0, .int a1, .int a2, .retAddr 0], [], y1)
        refine am_Ev_G [72] 400 _ ?_
        show ((am_in (8 + a1) 163) ∧ ((am_in (8 + a1) 163) ∧ am_Ev m_M_set (WM ++ e1) ro P (72, [.ref 0, .int a1, .int a2, .int (y1.1 1 (am_ix (8 + a1)))], [], (am_si y1 1 (am_ix (8 + a1)) a2))))
        obtain ⟨hob, hp⟩ := hp
        refine ⟨hob, ?_⟩
        refine ⟨hp, ?_⟩
        refine am_Ev_G [] 400 _ ?_
        show P (.inl (some (.int (y1.1 1 (am_ix (8 + a1)))))) (am_si y1 1 (am_ix (8 + a1)) a2)
        exact hP (y1.1 1 (am_ix (8 + a1)), (am_si y1 1 (am_ix (8 + a1)) a2)) (by unfold v_M_set; simp only [if_neg c1, if_neg c3, bnd, c4])
      · skip
        obtain ⟨y2, c5⟩ : ∃ y, v_M_refuses (am_si h 0 8 0) 2 = y := ⟨_, rfl⟩
        rw [c5]
        show am_Ev m_M_set (WM ++ e1) ro P (47, [.ref 0, .int a1, .int a2, .retAddr 0], [.int y2.1], y2.2)
        refine am_Ev_G [] 400 _ ?_
        show P (.inl (some (.int y2.1))) y2.2
        exact hP (y2.1, y2.2) (by unfold v_M_set; simp only [if_neg c1, if_pos c3, bnd, c5])
    refine am_Ev_G [32] 400 _ ?_
    show ((¬ a1 = 1 → am_Ev m_M_set (WM ++ e1) ro P (32, [.ref 0, .int a1, .int a2, .retAddr 0], [.int 0, .int a2], (am_si h 0 8 0))) ∧ (a1 = 1 → am_Ev m_M_set (WM ++ e1) ro P (32, [.ref 0, .int a1, .int a2, .retAddr 0], [.int 60, .int a2], (am_si h 0 8 0))))
    refine ⟨fun c6 => ?_, fun c6 => ?_⟩
    · skip
      simpa only [if_neg c6] using key2
    · skip
      simpa only [if_pos c6] using key2
  · skip
    obtain ⟨y3, c7⟩ : ∃ y, v_M_refuses (am_si h 0 8 0) 1 = y := ⟨_, rfl⟩
    rw [c7]
    show am_Ev m_M_set (WM ++ e1) ro P (19, [.ref 0, .int a1, .int a2, .retAddr 0], [.int y3.1], y3.2)
    refine am_Ev_G [] 400 _ ?_
    show P (.inl (some (.int y3.1))) y3.2
    exact hP (y3.1, y3.2) (by unfold v_M_set; simp only [if_pos c1, bnd, c7])
theorem ok_M_set {l : Launch} (hl : l.stackTraces = false) (e1 ro : List Sh) (k : Nat) : am_Ok l (WM ++ e1) ro (d_M_set k) := by
  refine am_met hl (own := RX6) (M := m_M_set) rfl pf_M_set cu_M_set rfl rfl rfl rfl (fun _ => rfl) rfl ⟨chk_M_set, (am_c (fl_M_7) (am_c (fl_M_38) am_n)), (am_c (lk_M_127) (am_c (lk_M_134) (am_c (lk_M_137) (am_c (lk_M_154) am_n)))), (am_n), (am_n)⟩ (am_n) (am_c (ok_M_in hl e1 _ 0) (am_c (ok_M_refuses hl e1 _ 16) (am_c (ok_M_saves hl e1 _ 16) (am_c (ok_M_mostOf hl e1 _ 0) am_n)))) (fun z => nomatch z) ?_ ?_
  · intro _ as h hg
    show g_thr (g_M_set (WM ++ e1) ro as h) = none
    unfold g_M_set
    split <;> rfl
  · intro as h hg hp
    revert hg hp
    show g_ok (g_M_set (WM ++ e1) ro as h) = true → g_pre (g_M_set (WM ++ e1) ro as h) → _ ∧ am_Ev m_M_set (WM ++ e1) ro (am_eq (g_M_set (WM ++ e1) ro as h)) (0, am_ent as 4, [], h)
    unfold g_M_set
    split
    · rename_i o1 a1 a2
      intro hc hp
      change (Nat.beq o1 0) = true at hc
      obtain rfl := am_beq hc
      exact ⟨Nat.le_of_ble_eq_true rfl, ev_M_set h a1 a2 hp eqRIW⟩
    · exact fun z => nomatch z
def k_M_follow (pc : Nat) : Ent := bif Nat.ble 66 pc then am_nop else bif Nat.ble 34 pc then (bif Nat.ble 53 pc then (bif Nat.ble 61 pc then (bif Nat.ble 63 pc then (bif Nat.ble 64 pc then (bif Nat.ble 65 pc then (bif Nat.beq pc 65 then (.ireturn, 0, 0, []) else am_nop) else (bif Nat.beq pc 64 then (.iload_n 3, 0, 3, []) else am_nop)) else (bif Nat.beq pc 63 then (.iastore, 0, 0, []) else am_nop)) else (bif Nat.ble 62 pc then (bif Nat.beq pc 62 then (.iadd, 0, 0, []) else am_nop) else (bif Nat.beq pc 61 then (.iconst 1, 1, 0, []) else am_nop))) else (bif Nat.ble 57 pc then (bif Nat.ble 59 pc then (bif Nat.ble 60 pc then (bif Nat.beq pc 60 then (.iaload, 0, 0, []) else am_nop) else (bif Nat.beq pc 59 then (.dup2, 0, 0, []) else am_nop)) else (bif Nat.beq pc 57 then (.bipush 14, 14, 0, []) else am_nop)) else (bif Nat.ble 54 pc then (bif Nat.beq pc 54 then (.getfield 7, 0, 0, []) else am_nop) else (bif Nat.beq pc 53 then (.aload_n 0, 0, 0, []) else am_nop)))) else (bif Nat.ble 43 pc then (bif Nat.ble 46 pc then (bif Nat.ble 47 pc then (bif Nat.ble 50 pc then (bif Nat.beq pc 50 then (.goto 14, 0, 64, []) else am_nop) else (bif Nat.beq pc 47 then (.invokevirtual 82, 0, 0, []) else am_nop)) else (bif Nat.beq pc 46 then (.iload_n 1, 0, 1, []) else am_nop)) else (bif Nat.ble 44 pc then (bif Nat.beq pc 44 then (.bipush 6, 6, 0, []) else am_nop) else (bif Nat.beq pc 43 then (.iload_n 2, 0, 2, []) else am_nop))) else (bif Nat.ble 38 pc then (bif Nat.ble 39 pc then (bif Nat.ble 42 pc then (bif Nat.beq pc 42 then (.aload_n 0, 0, 0, []) else am_nop) else (bif Nat.beq pc 39 then (.ifCond .ne 14, 0, 53, []) else am_nop)) else (bif Nat.beq pc 38 then (.iload_n 3, 0, 3, []) else am_nop)) else (bif Nat.ble 37 pc then (bif Nat.beq pc 37 then (.istore_n 3, 0, 3, []) else am_nop) else (bif Nat.beq pc 34 then (.invokevirtual 79, 0, 0, []) else am_nop))))) else (bif Nat.ble 18 pc then (bif Nat.ble 27 pc then (bif Nat.ble 31 pc then (bif Nat.ble 32 pc then (bif Nat.ble 33 pc then (bif Nat.beq pc 33 then (.iload_n 2, 0, 2, []) else am_nop) else (bif Nat.beq pc 32 then (.iload_n 1, 0, 1, []) else am_nop)) else (bif Nat.beq pc 31 then (.aload_n 0, 0, 0, []) else am_nop)) else (bif Nat.ble 28 pc then (bif Nat.beq pc 28 then (.invokevirtual 137, 0, 0, []) else am_nop) else (bif Nat.beq pc 27 then (.aload_n 0, 0, 0, []) else am_nop))) else (bif Nat.ble 22 pc then (bif Nat.ble 23 pc then (bif Nat.ble 26 pc then (bif Nat.beq pc 26 then (.ireturn, 0, 0, []) else am_nop) else (bif Nat.beq pc 23 then (.invokevirtual 134, 0, 0, []) else am_nop)) else (bif Nat.beq pc 22 then (.iconst 1, 1, 0, []) else am_nop)) else (bif Nat.ble 21 pc then (bif Nat.beq pc 21 then (.aload_n 0, 0, 0, []) else am_nop) else (bif Nat.beq pc 18 then (.ifCond .ne 9, 0, 27, []) else am_nop)))) else (bif Nat.ble 7 pc then (bif Nat.ble 13 pc then (bif Nat.ble 14 pc then (bif Nat.ble 15 pc then (bif Nat.beq pc 15 then (.invokevirtual 148, 0, 0, []) else am_nop) else (bif Nat.beq pc 14 then (.iload_n 2, 0, 2, []) else am_nop)) else (bif Nat.beq pc 13 then (.aload_n 0, 0, 0, []) else am_nop)) else (bif Nat.ble 10 pc then (bif Nat.beq pc 10 then (.ifCond .eq 11, 0, 21, []) else am_nop) else (bif Nat.beq pc 7 then (.invokevirtual 148, 0, 0, []) else am_nop))) else (bif Nat.ble 2 pc then (bif Nat.ble 5 pc then (bif Nat.ble 6 pc then (bif Nat.beq pc 6 then (.iload_n 1, 0, 1, []) else am_nop) else (bif Nat.beq pc 5 then (.aload_n 0, 0, 0, []) else am_nop)) else (bif Nat.beq pc 2 then (.putfield 38, 0, 0, []) else am_nop)) else (bif Nat.ble 1 pc then (bif Nat.beq pc 1 then (.iconst 0, 0, 0, []) else am_nop) else (bif Nat.beq pc 0 then (.aload_n 0, 0, 0, []) else am_nop)))))
def m_M_follow : MI := (k_M_follow, [(7, 6, 0), (38, 6, 8)], [(79, d_M_reason 16), (82, d_M_becomes 16), (134, d_M_refuses 16), (137, d_M_saves 16), (148, d_M_isTrip 16)], [], [], [], [], 4, 88, some .int, fun _ => 0, 1)
def v_M_follow (h : HP) (a1 : Int32) (a2 : Int32) : Int32 × HP := (if (v_M_isTrip (am_si h 0 8 0) a1) = 0 then (bnd (v_M_refuses (am_si h 0 8 0) 1) fun y1 => (y1.1, y1.2)) else (if (v_M_isTrip (am_si h 0 8 0) a2) = 0 then (bnd (v_M_refuses (am_si h 0 8 0) 1) fun y4 => (y4.1, y4.2)) else (bnd (v_M_saves (am_si h 0 8 0)) fun y2 => (if (v_M_reason y2 a1 a2) = 0 then (bnd (v_M_becomes y2 a2 6 a1) fun y3 => ((v_M_reason y2 a1 a2), y3)) else ((v_M_reason y2 a1 a2), (am_si y2 1 (am_ix 14) ((y2.1 1 (am_ix 14)) + 1)))))))
def p_M_follow (h : HP) (a1 : Int32) (a2 : Int32) : Prop := ((p_M_isTrip (am_si h 0 8 0) a1) ∧ (((v_M_isTrip (am_si h 0 8 0) a1) = 0 → True) ∧ (¬ (v_M_isTrip (am_si h 0 8 0) a1) = 0 → ((p_M_isTrip (am_si h 0 8 0) a2) ∧ (((v_M_isTrip (am_si h 0 8 0) a2) = 0 → True) ∧ (¬ (v_M_isTrip (am_si h 0 8 0) a2) = 0 → ((p_M_saves (am_si h 0 8 0)) ∧ (∀ y2, v_M_saves (am_si h 0 8 0) = y2 → ((p_M_reason y2 a1 a2) ∧ (((v_M_reason y2 a1 a2) = 0 → (p_M_becomes y2 a2 6 a1)) ∧ (¬ (v_M_reason y2 a1 a2) = 0 → True)))))))))))
def g_M_follow (_ _ : List Sh) (as : List Value) (h : HP) : GR := match as with
  | [.ref o1, .int a1, .int a2] => (Nat.beq o1 0, p_M_follow h a1 a2, none, some (.int (v_M_follow h a1 a2).1), (v_M_follow h a1 a2).2)
  | _ => bad h
def d_M_follow (k : Nat) : CD := (k, yX6_follow, cX6_follow, 4, some .int, 3, 4, 88, 0, false, true, g_M_follow)
theorem chk_M_follow : ∀ pc, am_chk cX6_follow k_M_follow pc = true := am_chkall 66 (by decide +kernel) (fun pc h => by unfold k_M_follow; rw [Nat.ble_eq_true_of_le h]; rfl)
theorem pf_M_follow : plainFor yX6_follow = true := by decide +kernel
theorem cu_M_follow : Cond.code yX6_follow cX6_follow 4 (some .int) ∈ am_U := am_tb 1016 (by decide +kernel) rfl
set_option maxHeartbeats 20000000 in
set_option maxRecDepth 100000 in
theorem ev_M_follow {e1 ro : List Sh} {P : AR → HP → Prop} (h : HP) (a1 : Int32) (a2 : Int32) (hp : p_M_follow h a1 a2) (hP : ∀ q, v_M_follow h a1 a2 = q → RIW P h q) : am_Ev m_M_follow (WM ++ e1) ro P (0, [.ref 0, .int a1, .int a2, .retAddr 0], [], h) := by
  unfold p_M_follow at hp
  refine am_Ev_G [5] 400 _ ?_
  show am_Ev m_M_follow (WM ++ e1) ro P (5, [.ref 0, .int a1, .int a2, .retAddr 0], [], (am_si h 0 8 0))
  refine am_Ev_G [18, 26] 400 _ ?_
  show ((p_M_isTrip (am_si h 0 8 0) a1) ∧ (((v_M_isTrip (am_si h 0 8 0) a1) = 0 → am_Ev m_M_follow (WM ++ e1) ro P (26, [.ref 0, .int a1, .int a2, .retAddr 0], [.int ((v_M_refuses (am_si h 0 8 0) 1).1)], ((v_M_refuses (am_si h 0 8 0) 1).2))) ∧ (¬ (v_M_isTrip (am_si h 0 8 0) a1) = 0 → ((p_M_isTrip (am_si h 0 8 0) a2) ∧ am_Ev m_M_follow (WM ++ e1) ro P (18, [.ref 0, .int a1, .int a2, .retAddr 0], [.int (v_M_isTrip (am_si h 0 8 0) a2)], (am_si h 0 8 0))))))
  obtain ⟨hob, hp⟩ := hp
  refine ⟨hob, ?_⟩
  refine ⟨fun c1 => ?_, fun c1 => ?_⟩
  · skip
    obtain ⟨y1, c2⟩ : ∃ y, v_M_refuses (am_si h 0 8 0) 1 = y := ⟨_, rfl⟩
    rw [c2]
    show am_Ev m_M_follow (WM ++ e1) ro P (26, [.ref 0, .int a1, .int a2, .retAddr 0], [.int y1.1], y1.2)
    refine am_Ev_G [] 400 _ ?_
    show P (.inl (some (.int y1.1))) y1.2
    exact hP (y1.1, y1.2) (by unfold v_M_follow; simp only [if_pos c1, bnd, c2])
  · have hp := hp.2 c1
    obtain ⟨hob, hp⟩ := hp
    refine ⟨hob, ?_⟩
    refine am_Ev_G [26, 31] 400 _ ?_
    show ((¬ (v_M_isTrip (am_si h 0 8 0) a2) = 0 → ((g_pre (g_M_saves (WM ++ e1) ro [.ref 0] (am_si h 0 8 0))) ∧ am_Ev m_M_follow (WM ++ e1) ro P (31, [.ref 0, .int a1, .int a2, .retAddr 0], [], (g_hp (g_M_saves (WM ++ e1) ro [.ref 0] (am_si h 0 8 0)))))) ∧ ((v_M_isTrip (am_si h 0 8 0) a2) = 0 → am_Ev m_M_follow (WM ++ e1) ro P (26, [.ref 0, .int a1, .int a2, .retAddr 0], [.int ((v_M_refuses (am_si h 0 8 0) 1).1)], ((v_M_refuses (am_si h 0 8 0) 1).2))))
    show ((¬ (v_M_isTrip (am_si h 0 8 0) a2) = 0 → ((p_M_saves (am_si h 0 8 0)) ∧ am_Ev m_M_follow (WM ++ e1) ro P (31, [.ref 0, .int a1, .int a2, .retAddr 0], [], (v_M_saves (am_si h 0 8 0))))) ∧ ((v_M_isTrip (am_si h 0 8 0) a2) = 0 → am_Ev m_M_follow (WM ++ e1) ro P (26, [.ref 0, .int a1, .int a2, .retAddr 0], [.int ((v_M_refuses (am_si h 0 8 0) 1).1)], ((v_M_refuses (am_si h 0 8 0) 1).2))))
    refine ⟨fun c3 => ?_, fun c3 => ?_⟩
    · have hp := hp.2 c3
      obtain ⟨hob, hp⟩ := hp
      refine ⟨hob, ?_⟩
      obtain ⟨y2, c4⟩ : ∃ y, v_M_saves (am_si h 0 8 0) = y := ⟨_, rfl⟩
      rw [c4]
      have hp := hp _ c4
      show am_Ev m_M_follow (WM ++ e1) ro P (31, [.ref 0, .int a1, .int a2, .retAddr 0], [], y2)
      refine am_Ev_G [37] 400 _ ?_
      show ((p_M_reason y2 a1 a2) ∧ am_Ev m_M_follow (WM ++ e1) ro P (37, [.ref 0, .int a1, .int a2, .retAddr 0], [.int (v_M_reason y2 a1 a2)], y2))
      obtain ⟨hob, hp⟩ := hp
      refine ⟨hob, ?_⟩
      refine am_Ev_G [50, 64] 400 _ ?_
      show ((¬ (v_M_reason y2 a1 a2) = 0 → ((am_in 14 163) ∧ ((am_in 14 163) ∧ am_Ev m_M_follow (WM ++ e1) ro P (64, [.ref 0, .int a1, .int a2, .int (v_M_reason y2 a1 a2)], [], (am_si y2 1 (am_ix 14) ((y2.1 1 (am_ix 14)) + 1)))))) ∧ ((v_M_reason y2 a1 a2) = 0 → ((p_M_becomes y2 a2 6 a1) ∧ am_Ev m_M_follow (WM ++ e1) ro P (50, [.ref 0, .int a1, .int a2, .int (v_M_reason y2 a1 a2)], [], (v_M_becomes y2 a2 6 a1)))))
      refine ⟨fun c5 => ?_, fun c5 => ?_⟩
      · skip
        refine ⟨⟨by decide, by decide⟩, ?_⟩
        refine ⟨⟨by decide, by decide⟩, ?_⟩
        refine am_Ev_G [] 400 _ ?_
        show P (.inl (some (.int (v_M_reason y2 a1 a2)))) (am_si y2 1 (am_ix 14) ((y2.1 1 (am_ix 14)) + 1))
        exact hP ((v_M_reason y2 a1 a2), (am_si y2 1 (am_ix 14) ((y2.1 1 (am_ix 14)) + 1))) (by unfold v_M_follow; simp only [if_neg c1, if_neg c3, bnd, c4, if_neg c5])
      · have hp := hp.1 c5
        refine ⟨hp, ?_⟩
        obtain ⟨y3, c6⟩ : ∃ y, v_M_becomes y2 a2 6 a1 = y := ⟨_, rfl⟩
        rw [c6]
        show am_Ev m_M_follow (WM ++ e1) ro P (50, [.ref 0, .int a1, .int a2, .int (v_M_reason y2 a1 a2)], [], y3)
        refine am_Ev_G [64] 400 _ ?_
        show am_Ev m_M_follow (WM ++ e1) ro P (64, [.ref 0, .int a1, .int a2, .int (v_M_reason y2 a1 a2)], [], y3)
        refine am_Ev_G [] 400 _ ?_
        show P (.inl (some (.int (v_M_reason y2 a1 a2)))) y3
        exact hP ((v_M_reason y2 a1 a2), y3) (by unfold v_M_follow; simp only [if_neg c1, if_neg c3, bnd, c4, if_pos c5, bnd, c6])
    · skip
      obtain ⟨y4, c7⟩ : ∃ y, v_M_refuses (am_si h 0 8 0) 1 = y := ⟨_, rfl⟩
      rw [c7]
      show am_Ev m_M_follow (WM ++ e1) ro P (26, [.ref 0, .int a1, .int a2, .retAddr 0], [.int y4.1], y4.2)
      refine am_Ev_G [] 400 _ ?_
      show P (.inl (some (.int y4.1))) y4.2
      exact hP (y4.1, y4.2) (by unfold v_M_follow; simp only [if_neg c1, if_pos c3, bnd, c7])
theorem ok_M_follow {l : Launch} (hl : l.stackTraces = false) (e1 ro : List Sh) (k : Nat) : am_Ok l (WM ++ e1) ro (d_M_follow k) := by
  refine am_met hl (own := RX6) (M := m_M_follow) rfl pf_M_follow cu_M_follow rfl rfl rfl rfl (fun _ => rfl) rfl ⟨chk_M_follow, (am_c (fl_M_7) (am_c (fl_M_38) am_n)), (am_c (lk_M_79) (am_c (lk_M_82) (am_c (lk_M_134) (am_c (lk_M_137) (am_c (lk_M_148) am_n))))), (am_n), (am_n)⟩ (am_n) (am_c (ok_M_reason hl e1 _ 16) (am_c (ok_M_becomes hl e1 _ 16) (am_c (ok_M_refuses hl e1 _ 16) (am_c (ok_M_saves hl e1 _ 16) (am_c (ok_M_isTrip hl e1 _ 16) am_n))))) (fun z => nomatch z) ?_ ?_
  · intro _ as h hg
    show g_thr (g_M_follow (WM ++ e1) ro as h) = none
    unfold g_M_follow
    split <;> rfl
  · intro as h hg hp
    revert hg hp
    show g_ok (g_M_follow (WM ++ e1) ro as h) = true → g_pre (g_M_follow (WM ++ e1) ro as h) → _ ∧ am_Ev m_M_follow (WM ++ e1) ro (am_eq (g_M_follow (WM ++ e1) ro as h)) (0, am_ent as 4, [], h)
    unfold g_M_follow
    split
    · rename_i o1 a1 a2
      intro hc hp
      change (Nat.beq o1 0) = true at hc
      obtain rfl := am_beq hc
      exact ⟨Nat.le_of_ble_eq_true rfl, ev_M_follow h a1 a2 hp eqRIW⟩
    · exact fun z => nomatch z
end
