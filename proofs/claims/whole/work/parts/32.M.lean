/-! BusBlocksModel, out of its code (written by gen/meth.py). -/
def k_M_shift (pc : Nat) : Ent := bif Nat.ble 75 pc then am_nop else bif Nat.ble 38 pc then (bif Nat.ble 57 pc then (bif Nat.ble 67 pc then (bif Nat.ble 70 pc then (bif Nat.ble 73 pc then (bif Nat.ble 74 pc then (bif Nat.beq pc 74 then (.ireturn, 0, 0, []) else am_nop) else (bif Nat.beq pc 73 then (.iload_n 3, 0, 3, []) else am_nop)) else (bif Nat.beq pc 70 then (.invokevirtual 82, 0, 0, []) else am_nop)) else (bif Nat.ble 68 pc then (bif Nat.ble 69 pc then (bif Nat.beq pc 69 then (.iload_n 2, 0, 2, []) else am_nop) else (bif Nat.beq pc 68 then (.iconst 3, 3, 0, []) else am_nop)) else (bif Nat.beq pc 67 then (.iload_n 1, 0, 1, []) else am_nop))) else (bif Nat.ble 62 pc then (bif Nat.ble 63 pc then (bif Nat.ble 66 pc then (bif Nat.beq pc 66 then (.aload_n 0, 0, 0, []) else am_nop) else (bif Nat.beq pc 63 then (.invokevirtual 151, 0, 0, []) else am_nop)) else (bif Nat.beq pc 62 then (.iload_n 1, 0, 1, []) else am_nop)) else (bif Nat.ble 60 pc then (bif Nat.ble 61 pc then (bif Nat.beq pc 61 then (.aload_n 0, 0, 0, []) else am_nop) else (bif Nat.beq pc 60 then (.istore_n 3, 0, 3, []) else am_nop)) else (bif Nat.beq pc 57 then (.invokevirtual 49, 0, 0, []) else am_nop)))) else (bif Nat.ble 49 pc then (bif Nat.ble 54 pc then (bif Nat.ble 55 pc then (bif Nat.ble 56 pc then (bif Nat.beq pc 56 then (.iconst 3, 3, 0, []) else am_nop) else (bif Nat.beq pc 55 then (.iload_n 1, 0, 1, []) else am_nop)) else (bif Nat.beq pc 54 then (.aload_n 0, 0, 0, []) else am_nop)) else (bif Nat.ble 50 pc then (bif Nat.ble 51 pc then (bif Nat.beq pc 51 then (.invokevirtual 137, 0, 0, []) else am_nop) else (bif Nat.beq pc 50 then (.aload_n 0, 0, 0, []) else am_nop)) else (bif Nat.beq pc 49 then (.ireturn, 0, 0, []) else am_nop))) else (bif Nat.ble 44 pc then (bif Nat.ble 45 pc then (bif Nat.ble 46 pc then (bif Nat.beq pc 46 then (.invokevirtual 134, 0, 0, []) else am_nop) else (bif Nat.beq pc 45 then (.iconst 3, 3, 0, []) else am_nop)) else (bif Nat.beq pc 44 then (.aload_n 0, 0, 0, []) else am_nop)) else (bif Nat.ble 41 pc then (bif Nat.beq pc 41 then (.ifCond .ne 9, 0, 50, []) else am_nop) else (bif Nat.beq pc 38 then (.invokevirtual 60, 0, 0, []) else am_nop))))) else (bif Nat.ble 19 pc then (bif Nat.ble 30 pc then (bif Nat.ble 35 pc then (bif Nat.ble 36 pc then (bif Nat.ble 37 pc then (bif Nat.beq pc 37 then (.iload_n 1, 0, 1, []) else am_nop) else (bif Nat.beq pc 36 then (.aload_n 0, 0, 0, []) else am_nop)) else (bif Nat.beq pc 35 then (.ireturn, 0, 0, []) else am_nop)) else (bif Nat.ble 31 pc then (bif Nat.ble 32 pc then (bif Nat.beq pc 32 then (.invokevirtual 134, 0, 0, []) else am_nop) else (bif Nat.beq pc 31 then (.iconst 2, 2, 0, []) else am_nop)) else (bif Nat.beq pc 30 then (.aload_n 0, 0, 0, []) else am_nop))) else (bif Nat.ble 21 pc then (bif Nat.ble 24 pc then (bif Nat.ble 27 pc then (bif Nat.beq pc 27 then (.ifCond .ne 9, 0, 36, []) else am_nop) else (bif Nat.beq pc 24 then (.invokestatic 127, 0, 0, []) else am_nop)) else (bif Nat.beq pc 21 then (.sipush 1439, 1439, 0, []) else am_nop)) else (bif Nat.ble 20 pc then (bif Nat.beq pc 20 then (.iconst 0, 0, 0, []) else am_nop) else (bif Nat.beq pc 19 then (.iload_n 2, 0, 2, []) else am_nop)))) else (bif Nat.ble 7 pc then (bif Nat.ble 14 pc then (bif Nat.ble 15 pc then (bif Nat.ble 18 pc then (bif Nat.beq pc 18 then (.ireturn, 0, 0, []) else am_nop) else (bif Nat.beq pc 15 then (.invokevirtual 134, 0, 0, []) else am_nop)) else (bif Nat.beq pc 14 then (.iconst 1, 1, 0, []) else am_nop)) else (bif Nat.ble 10 pc then (bif Nat.ble 13 pc then (bif Nat.beq pc 13 then (.aload_n 0, 0, 0, []) else am_nop) else (bif Nat.beq pc 10 then (.ifCond .ne 9, 0, 19, []) else am_nop)) else (bif Nat.beq pc 7 then (.invokevirtual 148, 0, 0, []) else am_nop))) else (bif Nat.ble 2 pc then (bif Nat.ble 5 pc then (bif Nat.ble 6 pc then (bif Nat.beq pc 6 then (.iload_n 1, 0, 1, []) else am_nop) else (bif Nat.beq pc 5 then (.aload_n 0, 0, 0, []) else am_nop)) else (bif Nat.beq pc 2 then (.putfield 38, 0, 0, []) else am_nop)) else (bif Nat.ble 1 pc then (bif Nat.beq pc 1 then (.iconst 0, 0, 0, []) else am_nop) else (bif Nat.beq pc 0 then (.aload_n 0, 0, 0, []) else am_nop)))))
theorem lk_M_148 : am_lnk RX6 148 (d_M_isTrip 16) := ⟨⟨by decide, by decide⟩, am_tb 8 (by decide +kernel) rfl, Or.inr ⟨by decide, rfl, am_tb 984 (by decide +kernel) rfl, am_tp 73 (by decide +kernel) rfl, ⟨TX6, 16, rfl⟩, Or.inl (am_tb 982 (by decide +kernel) rfl)⟩⟩
theorem lk_M_151 : am_lnk RX6 151 (d_M_parts 16) := ⟨⟨by decide, by decide⟩, am_tb 8 (by decide +kernel) rfl, Or.inr ⟨by decide, rfl, am_tb 996 (by decide +kernel) rfl, am_tp 76 (by decide +kernel) rfl, ⟨TX6, 16, rfl⟩, Or.inl (am_tb 994 (by decide +kernel) rfl)⟩⟩
def m_M_shift : MI := (k_M_shift, [(38, 6, 8)], [(49, d_M_of 16), (60, d_M_isRun 16), (82, d_M_becomes 16), (127, d_M_in 0), (134, d_M_refuses 16), (137, d_M_saves 16), (148, d_M_isTrip 16), (151, d_M_parts 16)], [], [], [], [], 4, 88, some .int, fun _ => 0, 1)
def v_M_shift (h : HP) (a1 : Int32) (a2 : Int32) : Int32 × HP := (if (v_M_isTrip (am_si h 0 8 0) a1) = 0 then (bnd (v_M_refuses (am_si h 0 8 0) 1) fun y6 => (y6.1, y6.2)) else (if (v_M_in (am_si h 0 8 0) a2 0 1439) = 0 then (bnd (v_M_refuses (am_si h 0 8 0) 2) fun y5 => (y5.1, y5.2)) else (if (v_M_isRun (am_si h 0 8 0) a1) = 0 then (bnd (v_M_refuses (am_si h 0 8 0) 3) fun y4 => (y4.1, y4.2)) else (bnd (v_M_saves (am_si h 0 8 0)) fun y1 => (bnd (v_M_parts y1 a1) fun y2 => (bnd (v_M_becomes y2 a1 3 a2) fun y3 => ((v_M_of y1 a1 3), y3)))))))
def p_M_shift (h : HP) (a1 : Int32) (a2 : Int32) : Prop := ((p_M_isTrip (am_si h 0 8 0) a1) ∧ (((v_M_isTrip (am_si h 0 8 0) a1) = 0 → True) ∧ (¬ (v_M_isTrip (am_si h 0 8 0) a1) = 0 → (((v_M_in (am_si h 0 8 0) a2 0 1439) = 0 → True) ∧ (¬ (v_M_in (am_si h 0 8 0) a2 0 1439) = 0 → ((p_M_isRun (am_si h 0 8 0) a1) ∧ (((v_M_isRun (am_si h 0 8 0) a1) = 0 → True) ∧ (¬ (v_M_isRun (am_si h 0 8 0) a1) = 0 → ((p_M_saves (am_si h 0 8 0)) ∧ (∀ y1, v_M_saves (am_si h 0 8 0) = y1 → ((p_M_of y1 a1 3) ∧ ((p_M_parts y1 a1) ∧ (∀ y2, v_M_parts y1 a1 = y2 → (p_M_becomes y2 a1 3 a2))))))))))))))
def g_M_shift (_ _ : List Sh) (as : List Value) (h : HP) : GR := match as with
  | [.ref o1, .int a1, .int a2] => (Nat.beq o1 0, p_M_shift h a1 a2, none, some (.int (v_M_shift h a1 a2).1), (v_M_shift h a1 a2).2)
  | _ => bad h
def d_M_shift (k : Nat) : CD := (k, yX6_shift, cX6_shift, 4, some .int, 3, 4, 88, 0, false, true, g_M_shift)
theorem chk_M_shift : ∀ pc, am_chk cX6_shift k_M_shift pc = true := am_chkall 75 (by decide +kernel) (fun pc h => by unfold k_M_shift; rw [Nat.ble_eq_true_of_le h]; rfl)
theorem pf_M_shift : plainFor yX6_shift = true := by decide +kernel
theorem cu_M_shift : Cond.code yX6_shift cX6_shift 4 (some .int) ∈ am_U := am_tb 981 (by decide +kernel) rfl
set_option maxHeartbeats 20000000 in
set_option maxRecDepth 100000 in
theorem ev_M_shift {e1 ro : List Sh} {P : AR → HP → Prop} (h : HP) (a1 : Int32) (a2 : Int32) (hp : p_M_shift h a1 a2) (hP : ∀ q, v_M_shift h a1 a2 = q → RIW P h q) : am_Ev m_M_shift (WM ++ e1) ro P (0, [.ref 0, .int a1, .int a2, .retAddr 0], [], h) := by
  unfold p_M_shift at hp
  refine am_Ev_G [18, 35, 49, 54] 400 _ ?_
  show ((p_M_isTrip (am_si h 0 8 0) a1) ∧ ((¬ (v_M_isTrip (am_si h 0 8 0) a1) = 0 → ((¬ (v_M_in (am_si h 0 8 0) a2 0 1439) = 0 → ((p_M_isRun (am_si h 0 8 0) a1) ∧ ((¬ (v_M_isRun (am_si h 0 8 0) a1) = 0 → ((p_M_saves (am_si h 0 8 0)) ∧ am_Ev m_M_shift (WM ++ e1) ro P (54, [.ref 0, .int a1, .int a2, .retAddr 0], [], (v_M_saves (am_si h 0 8 0))))) ∧ ((v_M_isRun (am_si h 0 8 0) a1) = 0 → am_Ev m_M_shift (WM ++ e1) ro P (49, [.ref 0, .int a1, .int a2, .retAddr 0], [.int ((v_M_refuses (am_si h 0 8 0) 3).1)], ((v_M_refuses (am_si h 0 8 0) 3).2)))))) ∧ ((v_M_in (am_si h 0 8 0) a2 0 1439) = 0 → am_Ev m_M_shift (WM ++ e1) ro P (35, [.ref 0, .int a1, .int a2, .retAddr 0], [.int ((v_M_refuses (am_si h 0 8 0) 2).1)], ((v_M_refuses (am_si h 0 8 0) 2).2))))) ∧ ((v_M_isTrip (am_si h 0 8 0) a1) = 0 → am_Ev m_M_shift (WM ++ e1) ro P (18, [.ref 0, .int a1, .int a2, .retAddr 0], [.int ((v_M_refuses (am_si h 0 8 0) 1).1)], ((v_M_refuses (am_si h 0 8 0) 1).2)))))
  obtain ⟨hob, hp⟩ := hp
  refine ⟨hob, ?_⟩
  refine ⟨fun c1 => ?_, fun c1 => ?_⟩
  · have hp := hp.2 c1
    refine ⟨fun c2 => ?_, fun c2 => ?_⟩
    · have hp := hp.2 c2
      obtain ⟨hob, hp⟩ := hp
      refine ⟨hob, ?_⟩
      refine ⟨fun c3 => ?_, fun c3 => ?_⟩
      · have hp := hp.2 c3
        obtain ⟨hob, hp⟩ := hp
        refine ⟨hob, ?_⟩
        obtain ⟨y1, c4⟩ : ∃ y, v_M_saves (am_si h 0 8 0) = y := ⟨_, rfl⟩
        rw [c4]
        have hp := hp _ c4
        show am_Ev m_M_shift (WM ++ e1) ro P (54, [.ref 0, .int a1, .int a2, .retAddr 0], [], y1)
        refine am_Ev_G [66] 400 _ ?_
        show ((p_M_of y1 a1 3) ∧ ((p_M_parts y1 a1) ∧ am_Ev m_M_shift (WM ++ e1) ro P (66, [.ref 0, .int a1, .int a2, .int (v_M_of y1 a1 3)], [], (v_M_parts y1 a1))))
        obtain ⟨hob, hp⟩ := hp
        refine ⟨hob, ?_⟩
        obtain ⟨hob, hp⟩ := hp
        refine ⟨hob, ?_⟩
        obtain ⟨y2, c5⟩ : ∃ y, v_M_parts y1 a1 = y := ⟨_, rfl⟩
        rw [c5]
        have hp := hp _ c5
        show am_Ev m_M_shift (WM ++ e1) ro P (66, [.ref 0, .int a1, .int a2, .int (v_M_of y1 a1 3)], [], y2)
        refine am_Ev_G [73] 400 _ ?_
        show ((p_M_becomes y2 a1 3 a2) ∧ am_Ev m_M_shift (WM ++ e1) ro P (73, [.ref 0, .int a1, .int a2, .int (v_M_of y1 a1 3)], [], (v_M_becomes y2 a1 3 a2)))
        refine ⟨hp, ?_⟩
        obtain ⟨y3, c6⟩ : ∃ y, v_M_becomes y2 a1 3 a2 = y := ⟨_, rfl⟩
        rw [c6]
        show am_Ev m_M_shift (WM ++ e1) ro P (73, [.ref 0, .int a1, .int a2, .int (v_M_of y1 a1 3)], [], y3)
        refine am_Ev_G [] 400 _ ?_
        show P (.inl (some (.int (v_M_of y1 a1 3)))) y3
        exact hP ((v_M_of y1 a1 3), y3) (by unfold v_M_shift; simp only [if_neg c1, if_neg c2, if_neg c3, bnd, c4, bnd, c5, bnd, c6])
      · skip
        obtain ⟨y4, c7⟩ : ∃ y, v_M_refuses (am_si h 0 8 0) 3 = y := ⟨_, rfl⟩
        rw [c7]
        show am_Ev m_M_shift (WM ++ e1) ro P (49, [.ref 0, .int a1, .int a2, .retAddr 0], [.int y4.1], y4.2)
        refine am_Ev_G [] 400 _ ?_
        show P (.inl (some (.int y4.1))) y4.2
        exact hP (y4.1, y4.2) (by unfold v_M_shift; simp only [if_neg c1, if_neg c2, if_pos c3, bnd, c7])
    · skip
      obtain ⟨y5, c8⟩ : ∃ y, v_M_refuses (am_si h 0 8 0) 2 = y := ⟨_, rfl⟩
      rw [c8]
      show am_Ev m_M_shift (WM ++ e1) ro P (35, [.ref 0, .int a1, .int a2, .retAddr 0], [.int y5.1], y5.2)
      refine am_Ev_G [] 400 _ ?_
      show P (.inl (some (.int y5.1))) y5.2
      exact hP (y5.1, y5.2) (by unfold v_M_shift; simp only [if_neg c1, if_pos c2, bnd, c8])
  · skip
    obtain ⟨y6, c9⟩ : ∃ y, v_M_refuses (am_si h 0 8 0) 1 = y := ⟨_, rfl⟩
    rw [c9]
    show am_Ev m_M_shift (WM ++ e1) ro P (18, [.ref 0, .int a1, .int a2, .retAddr 0], [.int y6.1], y6.2)
    refine am_Ev_G [] 400 _ ?_
    show P (.inl (some (.int y6.1))) y6.2
    exact hP (y6.1, y6.2) (by unfold v_M_shift; simp only [if_pos c1, bnd, c9])
theorem ok_M_shift {l : Launch} (hl : l.stackTraces = false) (e1 ro : List Sh) (k : Nat) : am_Ok l (WM ++ e1) ro (d_M_shift k) := by
  refine am_met hl (own := RX6) (M := m_M_shift) rfl pf_M_shift cu_M_shift rfl rfl rfl rfl (fun _ => rfl) rfl ⟨chk_M_shift, (am_c (fl_M_38) am_n), (am_c (lk_M_49) (am_c (lk_M_60) (am_c (lk_M_82) (am_c (lk_M_127) (am_c (lk_M_134) (am_c (lk_M_137) (am_c (lk_M_148) (am_c (lk_M_151) am_n)))))))), (am_n), (am_n)⟩ (am_n) (am_c (ok_M_of hl e1 _ 16) (am_c (ok_M_isRun hl e1 _ 16) (am_c (ok_M_becomes hl e1 _ 16) (am_c (ok_M_in hl e1 _ 0) (am_c (ok_M_refuses hl e1 _ 16) (am_c (ok_M_saves hl e1 _ 16) (am_c (ok_M_isTrip hl e1 _ 16) (am_c (ok_M_parts hl e1 _ 16) am_n)))))))) (fun z => nomatch z) ?_ ?_
  · intro _ as h hg
    show g_thr (g_M_shift (WM ++ e1) ro as h) = none
    unfold g_M_shift
    split <;> rfl
  · intro as h hg hp
    revert hg hp
    show g_ok (g_M_shift (WM ++ e1) ro as h) = true → g_pre (g_M_shift (WM ++ e1) ro as h) → _ ∧ am_Ev m_M_shift (WM ++ e1) ro (am_eq (g_M_shift (WM ++ e1) ro as h)) (0, am_ent as 4, [], h)
    unfold g_M_shift
    split
    · rename_i o1 a1 a2
      intro hc hp
      change (Nat.beq o1 0) = true at hc
      obtain rfl := am_beq hc
      exact ⟨Nat.le_of_ble_eq_true rfl, ev_M_shift h a1 a2 hp eqRIW⟩
    · exact fun z => nomatch z
def k_M_mostOf (pc : Nat) : Ent := bif Nat.ble 41 pc then am_nop else bif Nat.ble 33 pc then (bif Nat.ble 36 pc then (bif Nat.ble 37 pc then (bif Nat.ble 40 pc then (bif Nat.beq pc 40 then (.ireturn, 0, 0, []) else am_nop) else (bif Nat.beq pc 37 then (.sipush 240, 240, 0, []) else am_nop)) else (bif Nat.beq pc 36 then (.ireturn, 0, 0, []) else am_nop)) else (bif Nat.ble 34 pc then (bif Nat.beq pc 34 then (.bipush 9, 9, 0, []) else am_nop) else (bif Nat.beq pc 33 then (.ireturn, 0, 0, []) else am_nop))) else (bif Nat.ble 28 pc then (bif Nat.ble 29 pc then (bif Nat.ble 30 pc then (bif Nat.beq pc 30 then (.sipush 900, 900, 0, []) else am_nop) else (bif Nat.beq pc 29 then (.ireturn, 0, 0, []) else am_nop)) else (bif Nat.beq pc 28 then (.iconst 1, 1, 0, []) else am_nop)) else (bif Nat.ble 1 pc then (bif Nat.beq pc 1 then (.tableswitch 36 0 2 #[27, 29, 33], 0, 37, [(0, 28), (1, 30), (2, 34)]) else am_nop) else (bif Nat.beq pc 0 then (.iload_n 0, 0, 0, []) else am_nop)))
def m_M_mostOf : MI := (k_M_mostOf, [], [], [], [], [], [], 0, 0, some .int, fun _ => 0, 1)
def v_M_mostOf (h : HP) (a1 : Int32) : Int32 := (if a1 = 0 then 1 else (if a1 = 1 then 900 else (if a1 = 2 then 9 else 240)))
def g_M_mostOf (_ _ : List Sh) (as : List Value) (h : HP) : GR := match as with
  | [.int a1] => (true, True, none, some (.int (v_M_mostOf h a1)), h)
  | _ => bad h
def d_M_mostOf (k : Nat) : CD := (k, yX6_mostOf, cX6_mostOf, 1, some .int, 1, 0, 0, 0, false, false, g_M_mostOf)
theorem chk_M_mostOf : ∀ pc, am_chk cX6_mostOf k_M_mostOf pc = true := am_chkall 41 (by decide +kernel) (fun pc h => by unfold k_M_mostOf; rw [Nat.ble_eq_true_of_le h]; rfl)
theorem pf_M_mostOf : plainFor yX6_mostOf = true := by decide +kernel
theorem cu_M_mostOf : Cond.code yX6_mostOf cX6_mostOf 1 (some .int) ∈ am_U := am_tb 1012 (by decide +kernel) rfl
set_option maxHeartbeats 20000000 in
set_option maxRecDepth 100000 in
theorem ev_M_mostOf {e1 ro : List Sh} {P : AR → HP → Prop} (h : HP) (a1 : Int32) (hP : ∀ q, v_M_mostOf h a1 = q → RI P h q) : am_Ev m_M_mostOf (WM ++ e1) ro P (0, [.int a1], [], h) := by
  refine am_Ev_G [] 400 _ ?_
  show ((a1 = 0 → P (.inl (some (.int 1))) h) ∧ (¬ a1 = 0 → ((a1 = 1 → P (.inl (some (.int 900))) h) ∧ (¬ a1 = 1 → ((a1 = 2 → P (.inl (some (.int 9))) h) ∧ (¬ a1 = 2 → P (.inl (some (.int 240))) h))))))
  refine ⟨fun c1 => ?_, fun c1 => ?_⟩
  · skip
    exact hP 1 (by unfold v_M_mostOf; simp only [if_pos c1])
  · skip
    refine ⟨fun c2 => ?_, fun c2 => ?_⟩
    · skip
      exact hP 900 (by unfold v_M_mostOf; simp only [if_neg c1, if_pos c2])
    · skip
      refine ⟨fun c3 => ?_, fun c3 => ?_⟩
      · skip
        exact hP 9 (by unfold v_M_mostOf; simp only [if_neg c1, if_neg c2, if_pos c3])
      · skip
        exact hP 240 (by unfold v_M_mostOf; simp only [if_neg c1, if_neg c2, if_neg c3])
theorem ok_M_mostOf {l : Launch} (hl : l.stackTraces = false) (e1 ro : List Sh) (k : Nat) : am_Ok l (WM ++ e1) ro (d_M_mostOf k) := by
  refine am_met hl (own := RX6) (M := m_M_mostOf) rfl pf_M_mostOf cu_M_mostOf rfl rfl rfl rfl (fun _ => rfl) rfl ⟨chk_M_mostOf, (am_n), (am_n), (am_n), (am_n)⟩ (am_n) (am_n) ?_ ?_ ?_
  · intro _ as h hg
    show g_pre (g_M_mostOf (WM ++ e1) ro as h)
    unfold g_M_mostOf
    split <;> exact trivial
  · intro _ as h hg
    show g_thr (g_M_mostOf (WM ++ e1) ro as h) = none
    unfold g_M_mostOf
    split <;> rfl
  · intro as h hg hp
    revert hg hp
    show g_ok (g_M_mostOf (WM ++ e1) ro as h) = true → g_pre (g_M_mostOf (WM ++ e1) ro as h) → _ ∧ am_Ev m_M_mostOf (WM ++ e1) ro (am_eq (g_M_mostOf (WM ++ e1) ro as h)) (0, am_ent as 1, [], h)
    unfold g_M_mostOf
    split
    · rename_i a1
      intro hc hp
      exact ⟨Nat.le_of_ble_eq_true rfl, ev_M_mostOf h a1 eqRI⟩
    · exact fun z => nomatch z
def k_M_set (pc : Nat) : Ent := bif Nat.ble 74 pc then am_nop else bif Nat.ble 39 pc then (bif Nat.ble 59 pc then (bif Nat.ble 68 pc then (bif Nat.ble 71 pc then (bif Nat.ble 72 pc then (bif Nat.ble 73 pc then (bif Nat.beq pc 73 then (.ireturn, 0, 0, []) else am_nop) else (bif Nat.beq pc 72 then (.iload_n 3, 0, 3, []) else am_nop)) else (bif Nat.beq pc 71 then (.iastore, 0, 0, []) else am_nop)) else (bif Nat.ble 69 pc then (bif Nat.ble 70 pc then (bif Nat.beq pc 70 then (.iload_n 2, 0, 2, []) else am_nop) else (bif Nat.beq pc 69 then (.iadd, 0, 0, []) else am_nop)) else (bif Nat.beq pc 68 then (.iload_n 1, 0, 1, []) else am_nop))) else (bif Nat.ble 62 pc then (bif Nat.ble 63 pc then (bif Nat.ble 66 pc then (bif Nat.beq pc 66 then (.bipush 8, 8, 0, []) else am_nop) else (bif Nat.beq pc 63 then (.getfield 7, 0, 0, []) else am_nop)) else (bif Nat.beq pc 62 then (.aload_n 0, 0, 0, []) else am_nop)) else (bif Nat.ble 60 pc then (bif Nat.ble 61 pc then (bif Nat.beq pc 61 then (.istore_n 3, 0, 3, []) else am_nop) else (bif Nat.beq pc 60 then (.iaload, 0, 0, []) else am_nop)) else (bif Nat.beq pc 59 then (.iadd, 0, 0, []) else am_nop)))) else (bif Nat.ble 48 pc then (bif Nat.ble 53 pc then (bif Nat.ble 56 pc then (bif Nat.ble 58 pc then (bif Nat.beq pc 58 then (.iload_n 1, 0, 1, []) else am_nop) else (bif Nat.beq pc 56 then (.bipush 8, 8, 0, []) else am_nop)) else (bif Nat.beq pc 53 then (.getfield 7, 0, 0, []) else am_nop)) else (bif Nat.ble 49 pc then (bif Nat.ble 52 pc then (bif Nat.beq pc 52 then (.aload_n 0, 0, 0, []) else am_nop) else (bif Nat.beq pc 49 then (.invokevirtual 137, 0, 0, []) else am_nop)) else (bif Nat.beq pc 48 then (.aload_n 0, 0, 0, []) else am_nop))) else (bif Nat.ble 43 pc then (bif Nat.ble 44 pc then (bif Nat.ble 47 pc then (bif Nat.beq pc 47 then (.ireturn, 0, 0, []) else am_nop) else (bif Nat.beq pc 44 then (.invokevirtual 134, 0, 0, []) else am_nop)) else (bif Nat.beq pc 43 then (.iconst 2, 2, 0, []) else am_nop)) else (bif Nat.ble 42 pc then (bif Nat.beq pc 42 then (.aload_n 0, 0, 0, []) else am_nop) else (bif Nat.beq pc 39 then (.ifCond .ne 9, 0, 48, []) else am_nop))))) else (bif Nat.ble 19 pc then (bif Nat.ble 26 pc then (bif Nat.ble 32 pc then (bif Nat.ble 33 pc then (bif Nat.ble 36 pc then (bif Nat.beq pc 36 then (.invokestatic 127, 0, 0, []) else am_nop) else (bif Nat.beq pc 33 then (.invokestatic 154, 0, 0, []) else am_nop)) else (bif Nat.beq pc 32 then (.iload_n 1, 0, 1, []) else am_nop)) else (bif Nat.ble 28 pc then (bif Nat.ble 31 pc then (bif Nat.beq pc 31 then (.iconst 0, 0, 0, []) else am_nop) else (bif Nat.beq pc 28 then (.goto 4, 0, 32, []) else am_nop)) else (bif Nat.beq pc 26 then (.bipush 60, 60, 0, []) else am_nop))) else (bif Nat.ble 21 pc then (bif Nat.ble 22 pc then (bif Nat.ble 23 pc then (bif Nat.beq pc 23 then (.if_icmp .ne 8, 0, 31, []) else am_nop) else (bif Nat.beq pc 22 then (.iconst 1, 1, 0, []) else am_nop)) else (bif Nat.beq pc 21 then (.iload_n 1, 0, 1, []) else am_nop)) else (bif Nat.ble 20 pc then (bif Nat.beq pc 20 then (.iload_n 2, 0, 2, []) else am_nop) else (bif Nat.beq pc 19 then (.ireturn, 0, 0, []) else am_nop)))) else (bif Nat.ble 7 pc then (bif Nat.ble 14 pc then (bif Nat.ble 15 pc then (bif Nat.ble 16 pc then (bif Nat.beq pc 16 then (.invokevirtual 134, 0, 0, []) else am_nop) else (bif Nat.beq pc 15 then (.iconst 1, 1, 0, []) else am_nop)) else (bif Nat.beq pc 14 then (.aload_n 0, 0, 0, []) else am_nop)) else (bif Nat.ble 8 pc then (bif Nat.ble 11 pc then (bif Nat.beq pc 11 then (.ifCond .ne 9, 0, 20, []) else am_nop) else (bif Nat.beq pc 8 then (.invokestatic 127, 0, 0, []) else am_nop)) else (bif Nat.beq pc 7 then (.iconst 3, 3, 0, []) else am_nop))) else (bif Nat.ble 2 pc then (bif Nat.ble 5 pc then (bif Nat.ble 6 pc then (bif Nat.beq pc 6 then (.iconst 0, 0, 0, []) else am_nop) else (bif Nat.beq pc 5 then (.iload_n 1, 0, 1, []) else am_nop)) else (bif Nat.beq pc 2 then (.putfield 38, 0, 0, []) else am_nop)) else (bif Nat.ble 1 pc then (bif Nat.beq pc 1 then (.iconst 0, 0, 0, []) else am_nop) else (bif Nat.beq pc 0 then (.aload_n 0, 0, 0, []) else am_nop)))))
theorem lk_M_154 : am_lnk RX6 154 (d_M_mostOf 0) := ⟨⟨by decide, by decide⟩, am_tb 8 (by decide +kernel) rfl, Or.inl ⟨by decide, rfl, am_tb 1011 (by decide +kernel) rfl, Or.inl ⟨by decide, am_tb 1010 (by decide +kernel) rfl⟩⟩⟩
def m_M_set : MI := (k_M_set, [(7, 6, 0), (38, 6, 8)], [(127, d_M_in 0), (134, d_M_refuses 16), (137, d_M_saves 16), (154, d_M_mostOf 0)], [], [], [], [], 2, 45, some .int, fun _ => 0, 1)
def v_M_set (h : HP) (a1 : Int32) (a2 : Int32) : Int32 × HP := (if (v_M_in (am_si h 0 8 0) a1 0 3) = 0 then (bnd (v_M_refuses (am_si h 0 8 0) 1) fun y3 => (y3.1, y3.2)) else (if (v_M_in (am_si h 0 8 0) a2 (if a1 = 1 then (60 : Int32) else 0) (v_M_mostOf (am_si h 0 8 0) a1)) = 0 then (bnd (v_M_refuses (am_si h 0 8 0) 2) fun y2 => (y2.1, y2.2)) else (bnd (v_M_saves (am_si h 0 8 0)) fun y1 => (y1.1 1 (am_ix (8 + a1)), (am_si y1 1 (am_ix (8 + a1)) a2)))))
def p_M_set (h : HP) (a1 : Int32) (a2 : Int32) : Prop := (((v_M_in (am_si h 0 8 0) a1 0 3) = 0 → True) ∧ (¬ (v_M_in (am_si h 0 8 0) a1 0 3) = 0 → (((v_M_in (am_si h 0 8 0) a2 (if a1 = 1 then (60 : Int32) else 0) (v_M_mostOf (am_si h 0 8 0) a1)) = 0 → True) ∧ (¬ (v_M_in (am_si h 0 8 0) a2 (if a1 = 1 then (60 : Int32) else 0) (v_M_mostOf (am_si h 0 8 0) a1)) = 0 → ((p_M_saves (am_si h 0 8 0)) ∧ (∀ y1, v_M_saves (am_si h 0 8 0) = y1 → ((am_in (8 + a1) 163) ∧ (am_in (8 + a1) 163))))))))
def g_M_set (_ _ : List Sh) (as : List Value) (h : HP) : GR := match as with
  | [.ref o1, .int a1, .int a2] => (Nat.beq o1 0, p_M_set h a1 a2, none, some (.int (v_M_set h a1 a2).1), (v_M_set h a1 a2).2)
  | _ => bad h
def d_M_set (k : Nat) : CD := (k, yX6_set, cX6_set, 4, some .int, 3, 2, 45, 0, false, true, g_M_set)
theorem chk_M_set : ∀ pc, am_chk cX6_set k_M_set pc = true := am_chkall 74 (by decide +kernel) (fun pc h => by unfold k_M_set; rw [Nat.ble_eq_true_of_le h]; rfl)
theorem pf_M_set : plainFor yX6_set = true := by decide +kernel
theorem cu_M_set : Cond.code yX6_set cX6_set 4 (some .int) ∈ am_U := am_tb 1009 (by decide +kernel) rfl
set_option maxHeartbeats 20000000 in
set_option maxRecDepth 100000 in
theorem ev_M_set {e1 ro : List Sh} {P : AR → HP → Prop} (h : HP) (a1 : Int32) (a2 : Int32) (hp : p_M_set h a1 a2) (hP : ∀ q, v_M_set h a1 a2 = q → RIW P h q) : am_Ev m_M_set (WM ++ e1) ro P (0, [.ref 0, .int a1, .int a2, .retAddr 0], [], h) := by
  unfold p_M_set at hp
  refine am_Ev_G [11] 400 _ ?_
  show am_Ev m_M_set (WM ++ e1) ro P (11, [.ref 0, .int a1, .int a2, .retAddr 0], [.int (v_M_in (am_si h 0 8 0) a1 0 3)], (am_si h 0 8 0))
  refine am_Ev_G [19, 23] 400 _ ?_
  show ((¬ (v_M_in (am_si h 0 8 0) a1 0 3) = 0 → am_Ev m_M_set (WM ++ e1) ro P (23, [.ref 0, .int a1, .int a2, .retAddr 0], [.int 1, .int a1, .int a2], (am_si h 0 8 0))) ∧ ((v_M_in (am_si h 0 8 0) a1 0 3) = 0 → am_Ev m_M_set (WM ++ e1) ro P (19, [.ref 0, .int a1, .int a2, .retAddr 0], [.int ((v_M_refuses (am_si h 0 8 0) 1).1)], ((v_M_refuses (am_si h 0 8 0) 1).2))))
  refine ⟨fun c1 => ?_, fun c1 => ?_⟩
  · have hp := hp.2 c1
    have key2 : am_Ev m_M_set (WM ++ e1) ro P (32, [.ref 0, .int a1, .int a2, .retAddr 0], [.int (if a1 = 1 then (60 : Int32) else 0), .int a2], (am_si h 0 8 0)) := by
      refine am_Ev_G [36] 400 _ ?_
      show am_Ev m_M_set (WM ++ e1) ro P (36, [.ref 0, .int a1, .int a2, .retAddr 0], [.int (v_M_mostOf (am_si h 0 8 0) a1), .int (if a1 = 1 then (60 : Int32) else 0), .int a2], (am_si h 0 8 0))
      refine am_Ev_G [47, 52] 400 _ ?_
      show ((¬ (v_M_in (am_si h 0 8 0) a2 (if a1 = 1 then (60 : Int32) else 0) (v_M_mostOf (am_si h 0 8 0) a1)) = 0 → ((p_M_saves (am_si h 0 8 0)) ∧ am_Ev m_M_set (WM ++ e1) ro P (52, [.ref 0, .int a1, .int a2, .retAddr 0], [], (v_M_saves (am_si h 0 8 0))))) ∧ ((v_M_in (am_si h 0 8 0) a2 (if a1 = 1 then (60 : Int32) else 0) (v_M_mostOf (am_si h 0 8 0) a1)) = 0 → am_Ev m_M_set (WM ++ e1) ro P (47, [.ref 0, .int a1, .int a2, .retAddr 0], [.int ((v_M_refuses (am_si h 0 8 0) 2).1)], ((v_M_refuses (am_si h 0 8 0) 2).2))))
      refine ⟨fun c3 => ?_, fun c3 => ?_⟩
      · have hp := hp.2 c3
        obtain ⟨hob, hp⟩ := hp
        refine ⟨hob, ?_⟩
        obtain ⟨y1, c4⟩ : ∃ y, v_M_saves (am_si h 0 8 0) = y := ⟨_, rfl⟩
        rw [c4]
        have hp := hp _ c4
        show am_Ev m_M_set (WM ++ e1) ro P (52, [.ref 0, .int a1, .int a2, .retAddr 0], [], y1)
        refine am_Ev_G [] 400 _ ?_
        show ((am_in (8 + a1) 163) ∧ ((am_in (8 + a1) 163) ∧ P (.inl (some (.int (y1.1 1 (am_ix (8 + a1)))))) (am_si y1 1 (am_ix (8 + a1)) a2)))
        obtain ⟨hob, hp⟩ := hp
        refine ⟨hob, ?_⟩
        refine ⟨hp, ?_⟩
        exact hP (y1.1 1 (am_ix (8 + a1)), (am_si y1 1 (am_ix (8 + a1)) a2)) (by unfold v_M_set; simp only [if_neg c1, if_neg c3, bnd, c4])
      · skip
        obtain ⟨y2, c5⟩ : ∃ y, v_M_refuses (am_si h 0 8 0) 2 = y := ⟨_, rfl⟩
        rw [c5]
        show am_Ev m_M_set (WM ++ e1) ro P (47, [.ref 0, .int a1, .int a2, .retAddr 0], [.int y2.1], y2.2)
        refine am_Ev_G [] 400 _ ?_
        show P (.inl (some (.int y2.1))) y2.2
        exact hP (y2.1, y2.2) (by unfold v_M_set; simp only [if_neg c1, if_pos c3, bnd, c5])
    refine am_Ev_G [32] 400 _ ?_
    show ((¬ a1 = 1 → am_Ev m_M_set (WM ++ e1) ro P (32, [.ref 0, .int a1, .int a2, .retAddr 0], [.int 0, .int a2], (am_si h 0 8 0))) ∧ (a1 = 1 → am_Ev m_M_set (WM ++ e1) ro P (32, [.ref 0, .int a1, .int a2, .retAddr 0], [.int 60, .int a2], (am_si h 0 8 0))))
    refine ⟨fun c6 => ?_, fun c6 => ?_⟩
    · skip
      simpa only [if_neg c6] using key2
    · skip
      simpa only [if_pos c6] using key2
  · skip
    obtain ⟨y3, c7⟩ : ∃ y, v_M_refuses (am_si h 0 8 0) 1 = y := ⟨_, rfl⟩
    rw [c7]
    show am_Ev m_M_set (WM ++ e1) ro P (19, [.ref 0, .int a1, .int a2, .retAddr 0], [.int y3.1], y3.2)
    refine am_Ev_G [] 400 _ ?_
    show P (.inl (some (.int y3.1))) y3.2
    exact hP (y3.1, y3.2) (by unfold v_M_set; simp only [if_pos c1, bnd, c7])
theorem ok_M_set {l : Launch} (hl : l.stackTraces = false) (e1 ro : List Sh) (k : Nat) : am_Ok l (WM ++ e1) ro (d_M_set k) := by
  refine am_met hl (own := RX6) (M := m_M_set) rfl pf_M_set cu_M_set rfl rfl rfl rfl (fun _ => rfl) rfl ⟨chk_M_set, (am_c (fl_M_7) (am_c (fl_M_38) am_n)), (am_c (lk_M_127) (am_c (lk_M_134) (am_c (lk_M_137) (am_c (lk_M_154) am_n)))), (am_n), (am_n)⟩ (am_n) (am_c (ok_M_in hl e1 _ 0) (am_c (ok_M_refuses hl e1 _ 16) (am_c (ok_M_saves hl e1 _ 16) (am_c (ok_M_mostOf hl e1 _ 0) am_n)))) (fun z => nomatch z) ?_ ?_
  · intro _ as h hg
    show g_thr (g_M_set (WM ++ e1) ro as h) = none
    unfold g_M_set
    split <;> rfl
  · intro as h hg hp
    revert hg hp
    show g_ok (g_M_set (WM ++ e1) ro as h) = true → g_pre (g_M_set (WM ++ e1) ro as h) → _ ∧ am_Ev m_M_set (WM ++ e1) ro (am_eq (g_M_set (WM ++ e1) ro as h)) (0, am_ent as 4, [], h)
    unfold g_M_set
    split
    · rename_i o1 a1 a2
      intro hc hp
      change (Nat.beq o1 0) = true at hc
      obtain rfl := am_beq hc
      exact ⟨Nat.le_of_ble_eq_true rfl, ev_M_set h a1 a2 hp eqRIW⟩
    · exact fun z => nomatch z
def k_M_follow (pc : Nat) : Ent := bif Nat.ble 66 pc then am_nop else bif Nat.ble 34 pc then (bif Nat.ble 53 pc then (bif Nat.ble 61 pc then (bif Nat.ble 63 pc then (bif Nat.ble 64 pc then (bif Nat.ble 65 pc then (bif Nat.beq pc 65 then (.ireturn, 0, 0, []) else am_nop) else (bif Nat.beq pc 64 then (.iload_n 3, 0, 3, []) else am_nop)) else (bif Nat.beq pc 63 then (.iastore, 0, 0, []) else am_nop)) else (bif Nat.ble 62 pc then (bif Nat.beq pc 62 then (.iadd, 0, 0, []) else am_nop) else (bif Nat.beq pc 61 then (.iconst 1, 1, 0, []) else am_nop))) else (bif Nat.ble 57 pc then (bif Nat.ble 59 pc then (bif Nat.ble 60 pc then (bif Nat.beq pc 60 then (.iaload, 0, 0, []) else am_nop) else (bif Nat.beq pc 59 then (.dup2, 0, 0, []) else am_nop)) else (bif Nat.beq pc 57 then (.bipush 14, 14, 0, []) else am_nop)) else (bif Nat.ble 54 pc then (bif Nat.beq pc 54 then (.getfield 7, 0, 0, []) else am_nop) else (bif Nat.beq pc 53 then (.aload_n 0, 0, 0, []) else am_nop)))) else (bif Nat.ble 43 pc then (bif Nat.ble 46 pc then (bif Nat.ble 47 pc then (bif Nat.ble 50 pc then (bif Nat.beq pc 50 then (.goto 14, 0, 64, []) else am_nop) else (bif Nat.beq pc 47 then (.invokevirtual 82, 0, 0, []) else am_nop)) else (bif Nat.beq pc 46 then (.iload_n 1, 0, 1, []) else am_nop)) else (bif Nat.ble 44 pc then (bif Nat.beq pc 44 then (.bipush 6, 6, 0, []) else am_nop) else (bif Nat.beq pc 43 then (.iload_n 2, 0, 2, []) else am_nop))) else (bif Nat.ble 38 pc then (bif Nat.ble 39 pc then (bif Nat.ble 42 pc then (bif Nat.beq pc 42 then (.aload_n 0, 0, 0, []) else am_nop) else (bif Nat.beq pc 39 then (.ifCond .ne 14, 0, 53, []) else am_nop)) else (bif Nat.beq pc 38 then (.iload_n 3, 0, 3, []) else am_nop)) else (bif Nat.ble 37 pc then (bif Nat.beq pc 37 then (.istore_n 3, 0, 3, []) else am_nop) else (bif Nat.beq pc 34 then (.invokevirtual 79, 0, 0, []) else am_nop))))) else (bif Nat.ble 18 pc then (bif Nat.ble 27 pc then (bif Nat.ble 31 pc then (bif Nat.ble 32 pc then (bif Nat.ble 33 pc then (bif Nat.beq pc 33 then (.iload_n 2, 0, 2, []) else am_nop) else (bif Nat.beq pc 32 then (.iload_n 1, 0, 1, []) else am_nop)) else (bif Nat.beq pc 31 then (.aload_n 0, 0, 0, []) else am_nop)) else (bif Nat.ble 28 pc then (bif Nat.beq pc 28 then (.invokevirtual 137, 0, 0, []) else am_nop) else (bif Nat.beq pc 27 then (.aload_n 0, 0, 0, []) else am_nop))) else (bif Nat.ble 22 pc then (bif Nat.ble 23 pc then (bif Nat.ble 26 pc then (bif Nat.beq pc 26 then (.ireturn, 0, 0, []) else am_nop) else (bif Nat.beq pc 23 then (.invokevirtual 134, 0, 0, []) else am_nop)) else (bif Nat.beq pc 22 then (.iconst 1, 1, 0, []) else am_nop)) else (bif Nat.ble 21 pc then (bif Nat.beq pc 21 then (.aload_n 0, 0, 0, []) else am_nop) else (bif Nat.beq pc 18 then (.ifCond .ne 9, 0, 27, []) else am_nop)))) else (bif Nat.ble 7 pc then (bif Nat.ble 13 pc then (bif Nat.ble 14 pc then (bif Nat.ble 15 pc then (bif Nat.beq pc 15 then (.invokevirtual 148, 0, 0, []) else am_nop) else (bif Nat.beq pc 14 then (.iload_n 2, 0, 2, []) else am_nop)) else (bif Nat.beq pc 13 then (.aload_n 0, 0, 0, []) else am_nop)) else (bif Nat.ble 10 pc then (bif Nat.beq pc 10 then (.ifCond .eq 11, 0, 21, []) else am_nop) else (bif Nat.beq pc 7 then (.invokevirtual 148, 0, 0, []) else am_nop))) else (bif Nat.ble 2 pc then (bif Nat.ble 5 pc then (bif Nat.ble 6 pc then (bif Nat.beq pc 6 then (.iload_n 1, 0, 1, []) else am_nop) else (bif Nat.beq pc 5 then (.aload_n 0, 0, 0, []) else am_nop)) else (bif Nat.beq pc 2 then (.putfield 38, 0, 0, []) else am_nop)) else (bif Nat.ble 1 pc then (bif Nat.beq pc 1 then (.iconst 0, 0, 0, []) else am_nop) else (bif Nat.beq pc 0 then (.aload_n 0, 0, 0, []) else am_nop)))))
def m_M_follow : MI := (k_M_follow, [(7, 6, 0), (38, 6, 8)], [(79, d_M_reason 16), (82, d_M_becomes 16), (134, d_M_refuses 16), (137, d_M_saves 16), (148, d_M_isTrip 16)], [], [], [], [], 4, 88, some .int, fun _ => 0, 1)
def v_M_follow (h : HP) (a1 : Int32) (a2 : Int32) : Int32 × HP := (if (v_M_isTrip (am_si h 0 8 0) a1) = 0 then (bnd (v_M_refuses (am_si h 0 8 0) 1) fun y1 => (y1.1, y1.2)) else (if (v_M_isTrip (am_si h 0 8 0) a2) = 0 then (bnd (v_M_refuses (am_si h 0 8 0) 1) fun y4 => (y4.1, y4.2)) else (bnd (v_M_saves (am_si h 0 8 0)) fun y2 => (if (v_M_reason y2 a1 a2) = 0 then (bnd (v_M_becomes y2 a2 6 a1) fun y3 => ((v_M_reason y2 a1 a2), y3)) else ((v_M_reason y2 a1 a2), (am_si y2 1 (am_ix 14) ((y2.1 1 (am_ix 14)) + 1)))))))
def p_M_follow (h : HP) (a1 : Int32) (a2 : Int32) : Prop := ((p_M_isTrip (am_si h 0 8 0) a1) ∧ (((v_M_isTrip (am_si h 0 8 0) a1) = 0 → True) ∧ (¬ (v_M_isTrip (am_si h 0 8 0) a1) = 0 → ((p_M_isTrip (am_si h 0 8 0) a2) ∧ (((v_M_isTrip (am_si h 0 8 0) a2) = 0 → True) ∧ (¬ (v_M_isTrip (am_si h 0 8 0) a2) = 0 → ((p_M_saves (am_si h 0 8 0)) ∧ (∀ y2, v_M_saves (am_si h 0 8 0) = y2 → ((p_M_reason y2 a1 a2) ∧ (((v_M_reason y2 a1 a2) = 0 → (p_M_becomes y2 a2 6 a1)) ∧ (¬ (v_M_reason y2 a1 a2) = 0 → True)))))))))))
def g_M_follow (_ _ : List Sh) (as : List Value) (h : HP) : GR := match as with
  | [.ref o1, .int a1, .int a2] => (Nat.beq o1 0, p_M_follow h a1 a2, none, some (.int (v_M_follow h a1 a2).1), (v_M_follow h a1 a2).2)
  | _ => bad h
def d_M_follow (k : Nat) : CD := (k, yX6_follow, cX6_follow, 4, some .int, 3, 4, 88, 0, false, true, g_M_follow)
theorem chk_M_follow : ∀ pc, am_chk cX6_follow k_M_follow pc = true := am_chkall 66 (by decide +kernel) (fun pc h => by unfold k_M_follow; rw [Nat.ble_eq_true_of_le h]; rfl)
theorem pf_M_follow : plainFor yX6_follow = true := by decide +kernel
theorem cu_M_follow : Cond.code yX6_follow cX6_follow 4 (some .int) ∈ am_U := am_tb 1016 (by decide +kernel) rfl
set_option maxHeartbeats 20000000 in
set_option maxRecDepth 100000 in
theorem ev_M_follow {e1 ro : List Sh} {P : AR → HP → Prop} (h : HP) (a1 : Int32) (a2 : Int32) (hp : p_M_follow h a1 a2) (hP : ∀ q, v_M_follow h a1 a2 = q → RIW P h q) : am_Ev m_M_follow (WM ++ e1) ro P (0, [.ref 0, .int a1, .int a2, .retAddr 0], [], h) := by
  unfold p_M_follow at hp
  refine am_Ev_G [18, 26] 400 _ ?_
  show ((p_M_isTrip (am_si h 0 8 0) a1) ∧ (((v_M_isTrip (am_si h 0 8 0) a1) = 0 → am_Ev m_M_follow (WM ++ e1) ro P (26, [.ref 0, .int a1, .int a2, .retAddr 0], [.int ((v_M_refuses (am_si h 0 8 0) 1).1)], ((v_M_refuses (am_si h 0 8 0) 1).2))) ∧ (¬ (v_M_isTrip (am_si h 0 8 0) a1) = 0 → ((p_M_isTrip (am_si h 0 8 0) a2) ∧ am_Ev m_M_follow (WM ++ e1) ro P (18, [.ref 0, .int a1, .int a2, .retAddr 0], [.int (v_M_isTrip (am_si h 0 8 0) a2)], (am_si h 0 8 0))))))
  obtain ⟨hob, hp⟩ := hp
  refine ⟨hob, ?_⟩
  refine ⟨fun c1 => ?_, fun c1 => ?_⟩
  · skip
    obtain ⟨y1, c2⟩ : ∃ y, v_M_refuses (am_si h 0 8 0) 1 = y := ⟨_, rfl⟩
    rw [c2]
    show am_Ev m_M_follow (WM ++ e1) ro P (26, [.ref 0, .int a1, .int a2, .retAddr 0], [.int y1.1], y1.2)
    refine am_Ev_G [] 400 _ ?_
    show P (.inl (some (.int y1.1))) y1.2
    exact hP (y1.1, y1.2) (by unfold v_M_follow; simp only [if_pos c1, bnd, c2])
  · have hp := hp.2 c1
    obtain ⟨hob, hp⟩ := hp
    refine ⟨hob, ?_⟩
    refine am_Ev_G [26, 31] 400 _ ?_
    show ((¬ (v_M_isTrip (am_si h 0 8 0) a2) = 0 → ((p_M_saves (am_si h 0 8 0)) ∧ am_Ev m_M_follow (WM ++ e1) ro P (31, [.ref 0, .int a1, .int a2, .retAddr 0], [], (v_M_saves (am_si h 0 8 0))))) ∧ ((v_M_isTrip (am_si h 0 8 0) a2) = 0 → am_Ev m_M_follow (WM ++ e1) ro P (26, [.ref 0, .int a1, .int a2, .retAddr 0], [.int ((v_M_refuses (am_si h 0 8 0) 1).1)], ((v_M_refuses (am_si h 0 8 0) 1).2))))
    refine ⟨fun c3 => ?_, fun c3 => ?_⟩
    · have hp := hp.2 c3
      obtain ⟨hob, hp⟩ := hp
      refine ⟨hob, ?_⟩
      obtain ⟨y2, c4⟩ : ∃ y, v_M_saves (am_si h 0 8 0) = y := ⟨_, rfl⟩
      rw [c4]
      have hp := hp _ c4
      show am_Ev m_M_follow (WM ++ e1) ro P (31, [.ref 0, .int a1, .int a2, .retAddr 0], [], y2)
      refine am_Ev_G [37] 400 _ ?_
      show ((p_M_reason y2 a1 a2) ∧ am_Ev m_M_follow (WM ++ e1) ro P (37, [.ref 0, .int a1, .int a2, .retAddr 0], [.int (v_M_reason y2 a1 a2)], y2))
      obtain ⟨hob, hp⟩ := hp
      refine ⟨hob, ?_⟩
      refine am_Ev_G [50] 400 _ ?_
      show ((¬ (v_M_reason y2 a1 a2) = 0 → ((am_in 14 163) ∧ ((am_in 14 163) ∧ P (.inl (some (.int (v_M_reason y2 a1 a2)))) (am_si y2 1 (am_ix 14) ((y2.1 1 (am_ix 14)) + 1))))) ∧ ((v_M_reason y2 a1 a2) = 0 → ((p_M_becomes y2 a2 6 a1) ∧ am_Ev m_M_follow (WM ++ e1) ro P (50, [.ref 0, .int a1, .int a2, .int (v_M_reason y2 a1 a2)], [], (v_M_becomes y2 a2 6 a1)))))
      refine ⟨fun c5 => ?_, fun c5 => ?_⟩
      · skip
        refine ⟨⟨by decide, by decide⟩, ?_⟩
        refine ⟨⟨by decide, by decide⟩, ?_⟩
        exact hP ((v_M_reason y2 a1 a2), (am_si y2 1 (am_ix 14) ((y2.1 1 (am_ix 14)) + 1))) (by unfold v_M_follow; simp only [if_neg c1, if_neg c3, bnd, c4, if_neg c5])
      · have hp := hp.1 c5
        refine ⟨hp, ?_⟩
        obtain ⟨y3, c6⟩ : ∃ y, v_M_becomes y2 a2 6 a1 = y := ⟨_, rfl⟩
        rw [c6]
        show am_Ev m_M_follow (WM ++ e1) ro P (50, [.ref 0, .int a1, .int a2, .int (v_M_reason y2 a1 a2)], [], y3)
        refine am_Ev_G [] 400 _ ?_
        show P (.inl (some (.int (v_M_reason y2 a1 a2)))) y3
        exact hP ((v_M_reason y2 a1 a2), y3) (by unfold v_M_follow; simp only [if_neg c1, if_neg c3, bnd, c4, if_pos c5, bnd, c6])
    · skip
      obtain ⟨y4, c7⟩ : ∃ y, v_M_refuses (am_si h 0 8 0) 1 = y := ⟨_, rfl⟩
      rw [c7]
      show am_Ev m_M_follow (WM ++ e1) ro P (26, [.ref 0, .int a1, .int a2, .retAddr 0], [.int y4.1], y4.2)
      refine am_Ev_G [] 400 _ ?_
      show P (.inl (some (.int y4.1))) y4.2
      exact hP (y4.1, y4.2) (by unfold v_M_follow; simp only [if_neg c1, if_pos c3, bnd, c7])
theorem ok_M_follow {l : Launch} (hl : l.stackTraces = false) (e1 ro : List Sh) (k : Nat) : am_Ok l (WM ++ e1) ro (d_M_follow k) := by
  refine am_met hl (own := RX6) (M := m_M_follow) rfl pf_M_follow cu_M_follow rfl rfl rfl rfl (fun _ => rfl) rfl ⟨chk_M_follow, (am_c (fl_M_7) (am_c (fl_M_38) am_n)), (am_c (lk_M_79) (am_c (lk_M_82) (am_c (lk_M_134) (am_c (lk_M_137) (am_c (lk_M_148) am_n))))), (am_n), (am_n)⟩ (am_n) (am_c (ok_M_reason hl e1 _ 16) (am_c (ok_M_becomes hl e1 _ 16) (am_c (ok_M_refuses hl e1 _ 16) (am_c (ok_M_saves hl e1 _ 16) (am_c (ok_M_isTrip hl e1 _ 16) am_n))))) (fun z => nomatch z) ?_ ?_
  · intro _ as h hg
    show g_thr (g_M_follow (WM ++ e1) ro as h) = none
    unfold g_M_follow
    split <;> rfl
  · intro as h hg hp
    revert hg hp
    show g_ok (g_M_follow (WM ++ e1) ro as h) = true → g_pre (g_M_follow (WM ++ e1) ro as h) → _ ∧ am_Ev m_M_follow (WM ++ e1) ro (am_eq (g_M_follow (WM ++ e1) ro as h)) (0, am_ent as 4, [], h)
    unfold g_M_follow
    split
    · rename_i o1 a1 a2
      intro hc hp
      change (Nat.beq o1 0) = true at hc
      obtain rfl := am_beq hc
      exact ⟨Nat.le_of_ble_eq_true rfl, ev_M_follow h a1 a2 hp eqRIW⟩
    · exact fun z => nomatch z
def k_M_part (pc : Nat) : Ent := bif Nat.ble 54 pc then am_nop else bif Nat.ble 28 pc then (bif Nat.ble 40 pc then (bif Nat.ble 46 pc then (bif Nat.ble 49 pc then (bif Nat.ble 52 pc then (bif Nat.ble 53 pc then (bif Nat.beq pc 53 then (.ireturn, 0, 0, []) else am_nop) else (bif Nat.beq pc 52 then (.iload_n 2, 0, 2, []) else am_nop)) else (bif Nat.beq pc 49 then (.invokevirtual 82, 0, 0, []) else am_nop)) else (bif Nat.ble 48 pc then (bif Nat.beq pc 48 then (.iconst (-1), (-1 : Int32), 0, []) else am_nop) else (bif Nat.beq pc 46 then (.bipush 6, 6, 0, []) else am_nop))) else (bif Nat.ble 44 pc then (bif Nat.ble 45 pc then (bif Nat.beq pc 45 then (.iload_n 1, 0, 1, []) else am_nop) else (bif Nat.beq pc 44 then (.aload_n 0, 0, 0, []) else am_nop)) else (bif Nat.ble 43 pc then (bif Nat.beq pc 43 then (.istore_n 2, 0, 2, []) else am_nop) else (bif Nat.beq pc 40 then (.invokevirtual 57, 0, 0, []) else am_nop)))) else (bif Nat.ble 34 pc then (bif Nat.ble 38 pc then (bif Nat.ble 39 pc then (bif Nat.beq pc 39 then (.iload_n 1, 0, 1, []) else am_nop) else (bif Nat.beq pc 38 then (.aload_n 0, 0, 0, []) else am_nop)) else (bif Nat.ble 35 pc then (bif Nat.beq pc 35 then (.invokevirtual 137, 0, 0, []) else am_nop) else (bif Nat.beq pc 34 then (.aload_n 0, 0, 0, []) else am_nop))) else (bif Nat.ble 30 pc then (bif Nat.ble 33 pc then (bif Nat.beq pc 33 then (.ireturn, 0, 0, []) else am_nop) else (bif Nat.beq pc 30 then (.invokevirtual 134, 0, 0, []) else am_nop)) else (bif Nat.ble 29 pc then (bif Nat.beq pc 29 then (.iconst 2, 2, 0, []) else am_nop) else (bif Nat.beq pc 28 then (.aload_n 0, 0, 0, []) else am_nop))))) else (bif Nat.ble 14 pc then (bif Nat.ble 20 pc then (bif Nat.ble 24 pc then (bif Nat.ble 25 pc then (bif Nat.beq pc 25 then (.if_icmp .ne 9, 0, 34, []) else am_nop) else (bif Nat.beq pc 24 then (.iconst (-1), (-1 : Int32), 0, []) else am_nop)) else (bif Nat.ble 21 pc then (bif Nat.beq pc 21 then (.invokevirtual 57, 0, 0, []) else am_nop) else (bif Nat.beq pc 20 then (.iload_n 1, 0, 1, []) else am_nop))) else (bif Nat.ble 18 pc then (bif Nat.ble 19 pc then (bif Nat.beq pc 19 then (.aload_n 0, 0, 0, []) else am_nop) else (bif Nat.beq pc 18 then (.ireturn, 0, 0, []) else am_nop)) else (bif Nat.ble 15 pc then (bif Nat.beq pc 15 then (.invokevirtual 134, 0, 0, []) else am_nop) else (bif Nat.beq pc 14 then (.iconst 1, 1, 0, []) else am_nop)))) else (bif Nat.ble 6 pc then (bif Nat.ble 10 pc then (bif Nat.ble 13 pc then (bif Nat.beq pc 13 then (.aload_n 0, 0, 0, []) else am_nop) else (bif Nat.beq pc 10 then (.ifCond .ne 9, 0, 19, []) else am_nop)) else (bif Nat.ble 7 pc then (bif Nat.beq pc 7 then (.invokevirtual 148, 0, 0, []) else am_nop) else (bif Nat.beq pc 6 then (.iload_n 1, 0, 1, []) else am_nop))) else (bif Nat.ble 2 pc then (bif Nat.ble 5 pc then (bif Nat.beq pc 5 then (.aload_n 0, 0, 0, []) else am_nop) else (bif Nat.beq pc 2 then (.putfield 38, 0, 0, []) else am_nop)) else (bif Nat.ble 1 pc then (bif Nat.beq pc 1 then (.iconst 0, 0, 0, []) else am_nop) else (bif Nat.beq pc 0 then (.aload_n 0, 0, 0, []) else am_nop)))))
def m_M_part : MI := (k_M_part, [(38, 6, 8)], [(57, d_M_next 16), (82, d_M_becomes 16), (134, d_M_refuses 16), (137, d_M_saves 16), (148, d_M_isTrip 16)], [], [], [], [], 2, 45, some .int, fun _ => 0, 1)
def v_M_part (h : HP) (a1 : Int32) : Int32 × HP := (if (v_M_isTrip (am_si h 0 8 0) a1) = 0 then (bnd (v_M_refuses (am_si h 0 8 0) 1) fun y4 => (y4.1, y4.2)) else (if (v_M_next (am_si h 0 8 0) a1) = (-1 : Int32) then (bnd (v_M_refuses (am_si h 0 8 0) 2) fun y3 => (y3.1, y3.2)) else (bnd (v_M_saves (am_si h 0 8 0)) fun y1 => (bnd (v_M_becomes y1 a1 6 (-1 : Int32)) fun y2 => ((v_M_next y1 a1), y2)))))
def p_M_part (h : HP) (a1 : Int32) : Prop := ((p_M_isTrip (am_si h 0 8 0) a1) ∧ (((v_M_isTrip (am_si h 0 8 0) a1) = 0 → True) ∧ (¬ (v_M_isTrip (am_si h 0 8 0) a1) = 0 → ((p_M_next (am_si h 0 8 0) a1) ∧ (((v_M_next (am_si h 0 8 0) a1) = (-1 : Int32) → True) ∧ (¬ (v_M_next (am_si h 0 8 0) a1) = (-1 : Int32) → ((p_M_saves (am_si h 0 8 0)) ∧ (∀ y1, v_M_saves (am_si h 0 8 0) = y1 → ((p_M_next y1 a1) ∧ (p_M_becomes y1 a1 6 (-1 : Int32)))))))))))
def g_M_part (_ _ : List Sh) (as : List Value) (h : HP) : GR := match as with
  | [.ref o1, .int a1] => (Nat.beq o1 0, p_M_part h a1, none, some (.int (v_M_part h a1).1), (v_M_part h a1).2)
  | _ => bad h
def d_M_part (k : Nat) : CD := (k, yX6_part, cX6_part, 3, some .int, 2, 2, 45, 0, false, true, g_M_part)
theorem chk_M_part : ∀ pc, am_chk cX6_part k_M_part pc = true := am_chkall 54 (by decide +kernel) (fun pc h => by unfold k_M_part; rw [Nat.ble_eq_true_of_le h]; rfl)
theorem pf_M_part : plainFor yX6_part = true := by decide +kernel
theorem cu_M_part : Cond.code yX6_part cX6_part 3 (some .int) ∈ am_U := am_tb 1032 (by decide +kernel) rfl
set_option maxHeartbeats 20000000 in
set_option maxRecDepth 100000 in
theorem ev_M_part {e1 ro : List Sh} {P : AR → HP → Prop} (h : HP) (a1 : Int32) (hp : p_M_part h a1) (hP : ∀ q, v_M_part h a1 = q → RIW P h q) : am_Ev m_M_part (WM ++ e1) ro P (0, [.ref 0, .int a1, .retAddr 0], [], h) := by
  unfold p_M_part at hp
  refine am_Ev_G [18, 33, 38] 400 _ ?_
  show ((p_M_isTrip (am_si h 0 8 0) a1) ∧ ((¬ (v_M_isTrip (am_si h 0 8 0) a1) = 0 → ((p_M_next (am_si h 0 8 0) a1) ∧ ((¬ (v_M_next (am_si h 0 8 0) a1) = (-1 : Int32) → ((p_M_saves (am_si h 0 8 0)) ∧ am_Ev m_M_part (WM ++ e1) ro P (38, [.ref 0, .int a1, .retAddr 0], [], (v_M_saves (am_si h 0 8 0))))) ∧ ((v_M_next (am_si h 0 8 0) a1) = (-1 : Int32) → am_Ev m_M_part (WM ++ e1) ro P (33, [.ref 0, .int a1, .retAddr 0], [.int ((v_M_refuses (am_si h 0 8 0) 2).1)], ((v_M_refuses (am_si h 0 8 0) 2).2)))))) ∧ ((v_M_isTrip (am_si h 0 8 0) a1) = 0 → am_Ev m_M_part (WM ++ e1) ro P (18, [.ref 0, .int a1, .retAddr 0], [.int ((v_M_refuses (am_si h 0 8 0) 1).1)], ((v_M_refuses (am_si h 0 8 0) 1).2)))))
  obtain ⟨hob, hp⟩ := hp
  refine ⟨hob, ?_⟩
  refine ⟨fun c1 => ?_, fun c1 => ?_⟩
  · have hp := hp.2 c1
    obtain ⟨hob, hp⟩ := hp
    refine ⟨hob, ?_⟩
    refine ⟨fun c2 => ?_, fun c2 => ?_⟩
    · have hp := hp.2 c2
      obtain ⟨hob, hp⟩ := hp
      refine ⟨hob, ?_⟩
      obtain ⟨y1, c3⟩ : ∃ y, v_M_saves (am_si h 0 8 0) = y := ⟨_, rfl⟩
      rw [c3]
      have hp := hp _ c3
      show am_Ev m_M_part (WM ++ e1) ro P (38, [.ref 0, .int a1, .retAddr 0], [], y1)
      refine am_Ev_G [52] 400 _ ?_
      show ((p_M_next y1 a1) ∧ ((p_M_becomes y1 a1 6 (-1 : Int32)) ∧ am_Ev m_M_part (WM ++ e1) ro P (52, [.ref 0, .int a1, .int (v_M_next y1 a1)], [], (v_M_becomes y1 a1 6 (-1 : Int32)))))
      obtain ⟨hob, hp⟩ := hp
      refine ⟨hob, ?_⟩
      refine ⟨hp, ?_⟩
      obtain ⟨y2, c4⟩ : ∃ y, v_M_becomes y1 a1 6 (-1 : Int32) = y := ⟨_, rfl⟩
      rw [c4]
      show am_Ev m_M_part (WM ++ e1) ro P (52, [.ref 0, .int a1, .int (v_M_next y1 a1)], [], y2)
      refine am_Ev_G [] 400 _ ?_
      show P (.inl (some (.int (v_M_next y1 a1)))) y2
      exact hP ((v_M_next y1 a1), y2) (by unfold v_M_part; simp only [if_neg c1, if_neg c2, bnd, c3, bnd, c4])
    · skip
      obtain ⟨y3, c5⟩ : ∃ y, v_M_refuses (am_si h 0 8 0) 2 = y := ⟨_, rfl⟩
      rw [c5]
      show am_Ev m_M_part (WM ++ e1) ro P (33, [.ref 0, .int a1, .retAddr 0], [.int y3.1], y3.2)
      refine am_Ev_G [] 400 _ ?_
      show P (.inl (some (.int y3.1))) y3.2
      exact hP (y3.1, y3.2) (by unfold v_M_part; simp only [if_neg c1, if_pos c2, bnd, c5])
  · skip
    obtain ⟨y4, c6⟩ : ∃ y, v_M_refuses (am_si h 0 8 0) 1 = y := ⟨_, rfl⟩
    rw [c6]
    show am_Ev m_M_part (WM ++ e1) ro P (18, [.ref 0, .int a1, .retAddr 0], [.int y4.1], y4.2)
    refine am_Ev_G [] 400 _ ?_
    show P (.inl (some (.int y4.1))) y4.2
    exact hP (y4.1, y4.2) (by unfold v_M_part; simp only [if_pos c1, bnd, c6])
theorem ok_M_part {l : Launch} (hl : l.stackTraces = false) (e1 ro : List Sh) (k : Nat) : am_Ok l (WM ++ e1) ro (d_M_part k) := by
  refine am_met hl (own := RX6) (M := m_M_part) rfl pf_M_part cu_M_part rfl rfl rfl rfl (fun _ => rfl) rfl ⟨chk_M_part, (am_c (fl_M_38) am_n), (am_c (lk_M_57) (am_c (lk_M_82) (am_c (lk_M_134) (am_c (lk_M_137) (am_c (lk_M_148) am_n))))), (am_n), (am_n)⟩ (am_n) (am_c (ok_M_next hl e1 _ 16) (am_c (ok_M_becomes hl e1 _ 16) (am_c (ok_M_refuses hl e1 _ 16) (am_c (ok_M_saves hl e1 _ 16) (am_c (ok_M_isTrip hl e1 _ 16) am_n))))) (fun z => nomatch z) ?_ ?_
  · intro _ as h hg
    show g_thr (g_M_part (WM ++ e1) ro as h) = none
    unfold g_M_part
    split <;> rfl
  · intro as h hg hp
    revert hg hp
    show g_ok (g_M_part (WM ++ e1) ro as h) = true → g_pre (g_M_part (WM ++ e1) ro as h) → _ ∧ am_Ev m_M_part (WM ++ e1) ro (am_eq (g_M_part (WM ++ e1) ro as h)) (0, am_ent as 3, [], h)
    unfold g_M_part
    split
    · rename_i o1 a1
      intro hc hp
      change (Nat.beq o1 0) = true at hc
      obtain rfl := am_beq hc
      exact ⟨Nat.le_of_ble_eq_true rfl, ev_M_part h a1 hp eqRIW⟩
    · exact fun z => nomatch z
def k_M_blockAll (pc : Nat) : Ent := bif Nat.ble 14 pc then am_nop else bif Nat.ble 6 pc then (bif Nat.ble 10 pc then (bif Nat.ble 13 pc then (bif Nat.beq pc 13 then (.ireturn, 0, 0, []) else am_nop) else (bif Nat.beq pc 10 then (.invokevirtual 96, 0, 0, []) else am_nop)) else (bif Nat.ble 9 pc then (bif Nat.beq pc 9 then (.aload_n 0, 0, 0, []) else am_nop) else (bif Nat.beq pc 6 then (.invokevirtual 137, 0, 0, []) else am_nop))) else (bif Nat.ble 2 pc then (bif Nat.ble 5 pc then (bif Nat.beq pc 5 then (.aload_n 0, 0, 0, []) else am_nop) else (bif Nat.beq pc 2 then (.putfield 38, 0, 0, []) else am_nop)) else (bif Nat.ble 1 pc then (bif Nat.beq pc 1 then (.iconst 0, 0, 0, []) else am_nop) else (bif Nat.beq pc 0 then (.aload_n 0, 0, 0, []) else am_nop)))
def m_M_blockAll : MI := (k_M_blockAll, [(38, 6, 8)], [(96, d_M_blocksAll 16), (137, d_M_saves 16)], [], [], [], [], 6, 134, some .int, fun _ => 0, 1)
def v_M_blockAll (h : HP) : Int32 × HP := (bnd (v_M_saves (am_si h 0 8 0)) fun y1 => (bnd (v_M_blocksAll y1) fun y2 => (y2.1, y2.2)))
def p_M_blockAll (h : HP) : Prop := ((p_M_saves (am_si h 0 8 0)) ∧ (∀ y1, v_M_saves (am_si h 0 8 0) = y1 → (p_M_blocksAll y1)))
def g_M_blockAll (_ _ : List Sh) (as : List Value) (h : HP) : GR := match as with
  | [.ref o1] => (Nat.beq o1 0, p_M_blockAll h, none, some (.int (v_M_blockAll h).1), (v_M_blockAll h).2)
  | _ => bad h
def d_M_blockAll (k : Nat) : CD := (k, yX6_blockAll, cX6_blockAll, 1, some .int, 1, 6, 134, 0, false, true, g_M_blockAll)
theorem chk_M_blockAll : ∀ pc, am_chk cX6_blockAll k_M_blockAll pc = true := am_chkall 14 (by decide +kernel) (fun pc h => by unfold k_M_blockAll; rw [Nat.ble_eq_true_of_le h]; rfl)
theorem pf_M_blockAll : plainFor yX6_blockAll = true := by decide +kernel
theorem cu_M_blockAll : Cond.code yX6_blockAll cX6_blockAll 1 (some .int) ∈ am_U := am_tb 1036 (by decide +kernel) rfl
set_option maxHeartbeats 20000000 in
set_option maxRecDepth 100000 in
theorem ev_M_blockAll {e1 ro : List Sh} {P : AR → HP → Prop} (h : HP) (hp : p_M_blockAll h) (hP : ∀ q, v_M_blockAll h = q → RIW P h q) : am_Ev m_M_blockAll (WM ++ e1) ro P (0, [.ref 0], [], h) := by
  unfold p_M_blockAll at hp
  refine am_Ev_G [9] 400 _ ?_
  show ((p_M_saves (am_si h 0 8 0)) ∧ am_Ev m_M_blockAll (WM ++ e1) ro P (9, [.ref 0], [], (v_M_saves (am_si h 0 8 0))))
  obtain ⟨hob, hp⟩ := hp
  refine ⟨hob, ?_⟩
  obtain ⟨y1, c1⟩ : ∃ y, v_M_saves (am_si h 0 8 0) = y := ⟨_, rfl⟩
  rw [c1]
  have hp := hp _ c1
  show am_Ev m_M_blockAll (WM ++ e1) ro P (9, [.ref 0], [], y1)
  refine am_Ev_G [13] 400 _ ?_
  show ((p_M_blocksAll y1) ∧ am_Ev m_M_blockAll (WM ++ e1) ro P (13, [.ref 0], [.int ((v_M_blocksAll y1).1)], ((v_M_blocksAll y1).2)))
  refine ⟨hp, ?_⟩
  obtain ⟨y2, c2⟩ : ∃ y, v_M_blocksAll y1 = y := ⟨_, rfl⟩
  rw [c2]
  show am_Ev m_M_blockAll (WM ++ e1) ro P (13, [.ref 0], [.int y2.1], y2.2)
  refine am_Ev_G [] 400 _ ?_
  show P (.inl (some (.int y2.1))) y2.2
  exact hP (y2.1, y2.2) (by unfold v_M_blockAll; simp only [bnd, c1, bnd, c2])
theorem ok_M_blockAll {l : Launch} (hl : l.stackTraces = false) (e1 ro : List Sh) (k : Nat) : am_Ok l (WM ++ e1) ro (d_M_blockAll k) := by
  refine am_met hl (own := RX6) (M := m_M_blockAll) rfl pf_M_blockAll cu_M_blockAll rfl rfl rfl rfl (fun _ => rfl) rfl ⟨chk_M_blockAll, (am_c (fl_M_38) am_n), (am_c (lk_M_96) (am_c (lk_M_137) am_n)), (am_n), (am_n)⟩ (am_n) (am_c (ok_M_blocksAll hl e1 _ 16) (am_c (ok_M_saves hl e1 _ 16) am_n)) (fun z => nomatch z) ?_ ?_
  · intro _ as h hg
    show g_thr (g_M_blockAll (WM ++ e1) ro as h) = none
    unfold g_M_blockAll
    split <;> rfl
  · intro as h hg hp
    revert hg hp
    show g_ok (g_M_blockAll (WM ++ e1) ro as h) = true → g_pre (g_M_blockAll (WM ++ e1) ro as h) → _ ∧ am_Ev m_M_blockAll (WM ++ e1) ro (am_eq (g_M_blockAll (WM ++ e1) ro as h)) (0, am_ent as 1, [], h)
    unfold g_M_blockAll
    split
    · rename_i o1
      intro hc hp
      change (Nat.beq o1 0) = true at hc
      obtain rfl := am_beq hc
      exact ⟨Nat.le_of_ble_eq_true rfl, ev_M_blockAll h hp eqRIW⟩
    · exact fun z => nomatch z
def k_M_spares (pc : Nat) : Ent := bif Nat.ble 26 pc then am_nop else bif Nat.ble 14 pc then (bif Nat.ble 20 pc then (bif Nat.ble 24 pc then (bif Nat.ble 25 pc then (bif Nat.beq pc 25 then (.ireturn, 0, 0, []) else am_nop) else (bif Nat.beq pc 24 then (.iload_n 1, 0, 1, []) else am_nop)) else (bif Nat.ble 21 pc then (bif Nat.beq pc 21 then (.goto 4, 0, 25, []) else am_nop) else (bif Nat.beq pc 20 then (.iconst 0, 0, 0, []) else am_nop))) else (bif Nat.ble 16 pc then (bif Nat.ble 17 pc then (bif Nat.beq pc 17 then (.ifCond .ge 7, 0, 24, []) else am_nop) else (bif Nat.beq pc 16 then (.iload_n 1, 0, 1, []) else am_nop)) else (bif Nat.ble 15 pc then (bif Nat.beq pc 15 then (.istore_n 1, 0, 1, []) else am_nop) else (bif Nat.beq pc 14 then (.isub, 0, 0, []) else am_nop)))) else (bif Nat.ble 7 pc then (bif Nat.ble 11 pc then (bif Nat.ble 13 pc then (bif Nat.beq pc 13 then (.iaload, 0, 0, []) else am_nop) else (bif Nat.beq pc 11 then (.bipush 12, 12, 0, []) else am_nop)) else (bif Nat.ble 8 pc then (bif Nat.beq pc 8 then (.getfield 7, 0, 0, []) else am_nop) else (bif Nat.beq pc 7 then (.aload_n 0, 0, 0, []) else am_nop))) else (bif Nat.ble 4 pc then (bif Nat.ble 6 pc then (bif Nat.beq pc 6 then (.iaload, 0, 0, []) else am_nop) else (bif Nat.beq pc 4 then (.bipush 10, 10, 0, []) else am_nop)) else (bif Nat.ble 1 pc then (bif Nat.beq pc 1 then (.getfield 7, 0, 0, []) else am_nop) else (bif Nat.beq pc 0 then (.aload_n 0, 0, 0, []) else am_nop))))
def m_M_spares : MI := (k_M_spares, [(7, 6, 0)], [], [], [], [], [], 0, 0, some .int, fun _ => 0, 1)
def v_M_spares (h : HP) : Int32 := (if ((h.1 1 (am_ix 10)) - (h.1 1 (am_ix 12))) < 0 then (0 : Int32) else ((h.1 1 (am_ix 10)) - (h.1 1 (am_ix 12))))
def g_M_spares (_ _ : List Sh) (as : List Value) (h : HP) : GR := match as with
  | [.ref o1] => (Nat.beq o1 0, True, none, some (.int (v_M_spares h)), h)
  | _ => bad h
def d_M_spares (k : Nat) : CD := (k, yX6_spares, cX6_spares, 2, some .int, 1, 0, 0, 0, false, false, g_M_spares)
theorem chk_M_spares : ∀ pc, am_chk cX6_spares k_M_spares pc = true := am_chkall 26 (by decide +kernel) (fun pc h => by unfold k_M_spares; rw [Nat.ble_eq_true_of_le h]; rfl)
theorem pf_M_spares : plainFor yX6_spares = true := by decide +kernel
theorem cu_M_spares : Cond.code yX6_spares cX6_spares 2 (some .int) ∈ am_U := am_tb 1068 (by decide +kernel) rfl
set_option maxHeartbeats 20000000 in
set_option maxRecDepth 100000 in
theorem ev_M_spares {e1 ro : List Sh} {P : AR → HP → Prop} (h : HP) (hP : ∀ q, v_M_spares h = q → RI P h q) : am_Ev m_M_spares (WM ++ e1) ro P (0, [.ref 0, .retAddr 0], [], h) := by
  refine am_Ev_G [17] 400 _ ?_
  show ((am_in 10 163) ∧ ((am_in 12 163) ∧ am_Ev m_M_spares (WM ++ e1) ro P (17, [.ref 0, .int ((h.1 1 (am_ix 10)) - (h.1 1 (am_ix 12)))], [.int ((h.1 1 (am_ix 10)) - (h.1 1 (am_ix 12)))], h)))
  refine ⟨⟨by decide, by decide⟩, ?_⟩
  refine ⟨⟨by decide, by decide⟩, ?_⟩
  have key1 : am_Ev m_M_spares (WM ++ e1) ro P (25, [.ref 0, .int ((h.1 1 (am_ix 10)) - (h.1 1 (am_ix 12)))], [.int (if ((h.1 1 (am_ix 10)) - (h.1 1 (am_ix 12))) < 0 then (0 : Int32) else ((h.1 1 (am_ix 10)) - (h.1 1 (am_ix 12))))], h) := by
    refine am_Ev_G [] 400 _ ?_
    show P (.inl (some (.int (if ((h.1 1 (am_ix 10)) - (h.1 1 (am_ix 12))) < 0 then (0 : Int32) else ((h.1 1 (am_ix 10)) - (h.1 1 (am_ix 12))))))) h
    exact hP (if ((h.1 1 (am_ix 10)) - (h.1 1 (am_ix 12))) < 0 then (0 : Int32) else ((h.1 1 (am_ix 10)) - (h.1 1 (am_ix 12)))) rfl
  refine am_Ev_G [25] 400 _ ?_
  show ((¬ ((h.1 1 (am_ix 10)) - (h.1 1 (am_ix 12))) < 0 → am_Ev m_M_spares (WM ++ e1) ro P (25, [.ref 0, .int ((h.1 1 (am_ix 10)) - (h.1 1 (am_ix 12)))], [.int ((h.1 1 (am_ix 10)) - (h.1 1 (am_ix 12)))], h)) ∧ (((h.1 1 (am_ix 10)) - (h.1 1 (am_ix 12))) < 0 → am_Ev m_M_spares (WM ++ e1) ro P (25, [.ref 0, .int ((h.1 1 (am_ix 10)) - (h.1 1 (am_ix 12)))], [.int 0], h)))
  refine ⟨fun c2 => ?_, fun c2 => ?_⟩
  · skip
    simpa only [if_neg c2] using key1
  · skip
    simpa only [if_pos c2] using key1
theorem ok_M_spares {l : Launch} (hl : l.stackTraces = false) (e1 ro : List Sh) (k : Nat) : am_Ok l (WM ++ e1) ro (d_M_spares k) := by
  refine am_met hl (own := RX6) (M := m_M_spares) rfl pf_M_spares cu_M_spares rfl rfl rfl rfl (fun _ => rfl) rfl ⟨chk_M_spares, (am_c (fl_M_7) am_n), (am_n), (am_n), (am_n)⟩ (am_n) (am_n) ?_ ?_ ?_
  · intro _ as h hg
    show g_pre (g_M_spares (WM ++ e1) ro as h)
    unfold g_M_spares
    split <;> exact trivial
  · intro _ as h hg
    show g_thr (g_M_spares (WM ++ e1) ro as h) = none
    unfold g_M_spares
    split <;> rfl
  · intro as h hg hp
    revert hg hp
    show g_ok (g_M_spares (WM ++ e1) ro as h) = true → g_pre (g_M_spares (WM ++ e1) ro as h) → _ ∧ am_Ev m_M_spares (WM ++ e1) ro (am_eq (g_M_spares (WM ++ e1) ro as h)) (0, am_ent as 2, [], h)
    unfold g_M_spares
    split
    · rename_i o1
      intro hc hp
      change (Nat.beq o1 0) = true at hc
      obtain rfl := am_beq hc
      exact ⟨Nat.le_of_ble_eq_true rfl, ev_M_spares h eqRI⟩
    · exact fun z => nomatch z
def k_M_fails (pc : Nat) : Ent := bif Nat.ble 145 pc then am_nop else bif Nat.ble 67 pc then (bif Nat.ble 104 pc then (bif Nat.ble 123 pc then (bif Nat.ble 132 pc then (bif Nat.ble 139 pc then (bif Nat.ble 142 pc then (bif Nat.ble 144 pc then (bif Nat.beq pc 144 then (.ireturn, 0, 0, []) else am_nop) else (bif Nat.beq pc 142 then (.iload 5, 0, 5, []) else am_nop)) else (bif Nat.beq pc 139 then (.goto (-53), 0, 86, []) else am_nop)) else (bif Nat.ble 134 pc then (bif Nat.ble 136 pc then (bif Nat.beq pc 136 then (.iinc 5 1, 1, 5, []) else am_nop) else (bif Nat.beq pc 134 then (.istore 6, 0, 6, []) else am_nop)) else (bif Nat.beq pc 132 then (.iload 7, 0, 7, []) else am_nop))) else (bif Nat.ble 126 pc then (bif Nat.ble 128 pc then (bif Nat.ble 129 pc then (bif Nat.beq pc 129 then (.invokevirtual 82, 0, 0, []) else am_nop) else (bif Nat.beq pc 128 then (.iconst (-1), (-1 : Int32), 0, []) else am_nop)) else (bif Nat.beq pc 126 then (.bipush 6, 6, 0, []) else am_nop)) else (bif Nat.ble 124 pc then (bif Nat.beq pc 124 then (.iload 6, 0, 6, []) else am_nop) else (bif Nat.beq pc 123 then (.aload_n 0, 0, 0, []) else am_nop)))) else (bif Nat.ble 115 pc then (bif Nat.ble 118 pc then (bif Nat.ble 119 pc then (bif Nat.ble 120 pc then (bif Nat.beq pc 120 then (.invokevirtual 82, 0, 0, []) else am_nop) else (bif Nat.beq pc 119 then (.iconst 1, 1, 0, []) else am_nop)) else (bif Nat.beq pc 118 then (.iconst 5, 5, 0, []) else am_nop)) else (bif Nat.ble 116 pc then (bif Nat.beq pc 116 then (.iload 6, 0, 6, []) else am_nop) else (bif Nat.beq pc 115 then (.aload_n 0, 0, 0, []) else am_nop))) else (bif Nat.ble 108 pc then (bif Nat.ble 110 pc then (bif Nat.ble 113 pc then (bif Nat.beq pc 113 then (.istore 7, 0, 7, []) else am_nop) else (bif Nat.beq pc 110 then (.invokevirtual 57, 0, 0, []) else am_nop)) else (bif Nat.beq pc 108 then (.iload 6, 0, 6, []) else am_nop)) else (bif Nat.ble 107 pc then (bif Nat.beq pc 107 then (.aload_n 0, 0, 0, []) else am_nop) else (bif Nat.beq pc 104 then (.if_icmp .ge 38, 0, 142, []) else am_nop))))) else (bif Nat.ble 84 pc then (bif Nat.ble 93 pc then (bif Nat.ble 99 pc then (bif Nat.ble 100 pc then (bif Nat.ble 103 pc then (bif Nat.beq pc 103 then (.iload_n 3, 0, 3, []) else am_nop) else (bif Nat.beq pc 100 then (.invokevirtual 49, 0, 0, []) else am_nop)) else (bif Nat.beq pc 99 then (.iconst 3, 3, 0, []) else am_nop)) else (bif Nat.ble 96 pc then (bif Nat.ble 97 pc then (bif Nat.beq pc 97 then (.iload 6, 0, 6, []) else am_nop) else (bif Nat.beq pc 96 then (.aload_n 0, 0, 0, []) else am_nop)) else (bif Nat.beq pc 93 then (.ifCond .eq 14, 0, 107, []) else am_nop))) else (bif Nat.ble 88 pc then (bif Nat.ble 89 pc then (bif Nat.ble 92 pc then (bif Nat.beq pc 92 then (.iload_n 2, 0, 2, []) else am_nop) else (bif Nat.beq pc 89 then (.if_icmp .eq 53, 0, 142, []) else am_nop)) else (bif Nat.beq pc 88 then (.iconst (-1), (-1 : Int32), 0, []) else am_nop)) else (bif Nat.ble 86 pc then (bif Nat.beq pc 86 then (.iload 6, 0, 6, []) else am_nop) else (bif Nat.beq pc 84 then (.istore 6, 0, 6, []) else am_nop)))) else (bif Nat.ble 76 pc then (bif Nat.ble 80 pc then (bif Nat.ble 81 pc then (bif Nat.ble 83 pc then (bif Nat.beq pc 83 then (.iload_n 1, 0, 1, []) else am_nop) else (bif Nat.beq pc 81 then (.istore 5, 0, 5, []) else am_nop)) else (bif Nat.beq pc 80 then (.iconst 0, 0, 0, []) else am_nop)) else (bif Nat.ble 77 pc then (bif Nat.beq pc 77 then (.invokevirtual 82, 0, 0, []) else am_nop) else (bif Nat.beq pc 76 then (.iconst (-1), (-1 : Int32), 0, []) else am_nop))) else (bif Nat.ble 71 pc then (bif Nat.ble 72 pc then (bif Nat.ble 74 pc then (bif Nat.beq pc 74 then (.bipush 6, 6, 0, []) else am_nop) else (bif Nat.beq pc 72 then (.iload 4, 0, 4, []) else am_nop)) else (bif Nat.beq pc 71 then (.aload_n 0, 0, 0, []) else am_nop)) else (bif Nat.ble 68 pc then (bif Nat.beq pc 68 then (.if_icmp .eq 12, 0, 80, []) else am_nop) else (bif Nat.beq pc 67 then (.iconst (-1), (-1 : Int32), 0, []) else am_nop)))))) else (bif Nat.ble 35 pc then (bif Nat.ble 48 pc then (bif Nat.ble 57 pc then (bif Nat.ble 60 pc then (bif Nat.ble 63 pc then (bif Nat.ble 65 pc then (bif Nat.beq pc 65 then (.iload 4, 0, 4, []) else am_nop) else (bif Nat.beq pc 63 then (.istore 4, 0, 4, []) else am_nop)) else (bif Nat.beq pc 60 then (.invokevirtual 64, 0, 0, []) else am_nop)) else (bif Nat.ble 58 pc then (bif Nat.ble 59 pc then (bif Nat.beq pc 59 then (.iload_n 1, 0, 1, []) else am_nop) else (bif Nat.beq pc 58 then (.aload_n 0, 0, 0, []) else am_nop)) else (bif Nat.beq pc 57 then (.iastore, 0, 0, []) else am_nop))) else (bif Nat.ble 52 pc then (bif Nat.ble 55 pc then (bif Nat.ble 56 pc then (bif Nat.beq pc 56 then (.iadd, 0, 0, []) else am_nop) else (bif Nat.beq pc 55 then (.iconst 0, 0, 0, []) else am_nop)) else (bif Nat.beq pc 52 then (.goto 4, 0, 56, []) else am_nop)) else (bif Nat.ble 51 pc then (bif Nat.beq pc 51 then (.iconst 1, 1, 0, []) else am_nop) else (bif Nat.beq pc 48 then (.ifCond .eq 7, 0, 55, []) else am_nop)))) else (bif Nat.ble 40 pc then (bif Nat.ble 45 pc then (bif Nat.ble 46 pc then (bif Nat.ble 47 pc then (bif Nat.beq pc 47 then (.iload_n 2, 0, 2, []) else am_nop) else (bif Nat.beq pc 46 then (.iaload, 0, 0, []) else am_nop)) else (bif Nat.beq pc 45 then (.dup2, 0, 0, []) else am_nop)) else (bif Nat.ble 43 pc then (bif Nat.beq pc 43 then (.bipush 12, 12, 0, []) else am_nop) else (bif Nat.beq pc 40 then (.getfield 7, 0, 0, []) else am_nop))) else (bif Nat.ble 37 pc then (bif Nat.ble 38 pc then (bif Nat.ble 39 pc then (bif Nat.beq pc 39 then (.aload_n 0, 0, 0, []) else am_nop) else (bif Nat.beq pc 38 then (.iastore, 0, 0, []) else am_nop)) else (bif Nat.beq pc 37 then (.iadd, 0, 0, []) else am_nop)) else (bif Nat.ble 36 pc then (bif Nat.beq pc 36 then (.iconst 1, 1, 0, []) else am_nop) else (bif Nat.beq pc 35 then (.iaload, 0, 0, []) else am_nop))))) else (bif Nat.ble 16 pc then (bif Nat.ble 26 pc then (bif Nat.ble 29 pc then (bif Nat.ble 32 pc then (bif Nat.ble 34 pc then (bif Nat.beq pc 34 then (.dup2, 0, 0, []) else am_nop) else (bif Nat.beq pc 32 then (.bipush 13, 13, 0, []) else am_nop)) else (bif Nat.beq pc 29 then (.getfield 7, 0, 0, []) else am_nop)) else (bif Nat.ble 27 pc then (bif Nat.ble 28 pc then (bif Nat.beq pc 28 then (.aload_n 0, 0, 0, []) else am_nop) else (bif Nat.beq pc 27 then (.istore_n 3, 0, 3, []) else am_nop)) else (bif Nat.beq pc 26 then (.iadd, 0, 0, []) else am_nop))) else (bif Nat.ble 20 pc then (bif Nat.ble 23 pc then (bif Nat.ble 25 pc then (bif Nat.beq pc 25 then (.iaload, 0, 0, []) else am_nop) else (bif Nat.beq pc 23 then (.bipush 11, 11, 0, []) else am_nop)) else (bif Nat.beq pc 20 then (.getfield 7, 0, 0, []) else am_nop)) else (bif Nat.ble 19 pc then (bif Nat.beq pc 19 then (.aload_n 0, 0, 0, []) else am_nop) else (bif Nat.beq pc 16 then (.invokevirtual 49, 0, 0, []) else am_nop)))) else (bif Nat.ble 11 pc then (bif Nat.ble 13 pc then (bif Nat.ble 14 pc then (bif Nat.ble 15 pc then (bif Nat.beq pc 15 then (.iconst 3, 3, 0, []) else am_nop) else (bif Nat.beq pc 14 then (.iload_n 1, 0, 1, []) else am_nop)) else (bif Nat.beq pc 13 then (.aload_n 0, 0, 0, []) else am_nop)) else (bif Nat.ble 12 pc then (bif Nat.beq pc 12 then (.istore_n 2, 0, 2, []) else am_nop) else (bif Nat.beq pc 11 then (.iconst 0, 0, 0, []) else am_nop))) else (bif Nat.ble 4 pc then (bif Nat.ble 7 pc then (bif Nat.ble 8 pc then (bif Nat.beq pc 8 then (.goto 4, 0, 12, []) else am_nop) else (bif Nat.beq pc 7 then (.iconst 1, 1, 0, []) else am_nop)) else (bif Nat.beq pc 4 then (.ifCond .le 7, 0, 11, []) else am_nop)) else (bif Nat.ble 1 pc then (bif Nat.beq pc 1 then (.invokevirtual 157, 0, 0, []) else am_nop) else (bif Nat.beq pc 0 then (.aload_n 0, 0, 0, []) else am_nop))))))
theorem lk_M_157 : am_lnk RX6 157 (d_M_spares 16) := ⟨⟨by decide, by decide⟩, am_tb 8 (by decide +kernel) rfl, Or.inr ⟨by decide, rfl, am_tb 1067 (by decide +kernel) rfl, am_tp 88 (by decide +kernel) rfl, ⟨TX6, 16, rfl⟩, Or.inl (am_tb 1065 (by decide +kernel) rfl)⟩⟩
def m_M_fails : MI := (k_M_fails, [(7, 6, 0)], [(49, d_M_of 16), (57, d_M_next 16), (64, d_M_before 16), (82, d_M_becomes 16), (157, d_M_spares 16)], [], [], [], [], 3, 66, some .int, fun _ => 0, 1)
def s_M_fails_86 (h : HP) (a1 : Int32) (v1 : Int32 × Int32 × HP) : (Int32 × Int32 × HP) ⊕ (Int32 × Int32 × HP) := (if v1.2.1 = (-1 : Int32) then (.inr (v1.1, v1.2.1, v1.2.2)) else (if ((if (v_M_spares h) ≤ 0 then (0 : Int32) else 1) : Int32) = 0 then (bnd (v_M_becomes v1.2.2 v1.2.1 5 1) fun y2 => (bnd (v_M_becomes y2 v1.2.1 6 (-1 : Int32)) fun y3 => (.inl ((v1.1 + 1), (v_M_next v1.2.2 v1.2.1), y3)))) else (if (v_M_of v1.2.2 v1.2.1 3) < ((v_M_of h a1 3) + (h.1 1 (am_ix 11))) then (bnd (v_M_becomes v1.2.2 v1.2.1 5 1) fun y4 => (bnd (v_M_becomes y4 v1.2.1 6 (-1 : Int32)) fun y5 => (.inl ((v1.1 + 1), (v_M_next v1.2.2 v1.2.1), y5)))) else (.inr (v1.1, v1.2.1, v1.2.2)))))
def ps_M_fails_86 (h : HP) (a1 : Int32) (v1 : Int32 × Int32 × HP) : Prop := ((v1.2.1 = (-1 : Int32) → True) ∧ (¬ v1.2.1 = (-1 : Int32) → ((((if (v_M_spares h) ≤ 0 then (0 : Int32) else 1) : Int32) = 0 → ((p_M_next v1.2.2 v1.2.1) ∧ ((p_M_becomes v1.2.2 v1.2.1 5 1) ∧ (∀ y2, v_M_becomes v1.2.2 v1.2.1 5 1 = y2 → (p_M_becomes y2 v1.2.1 6 (-1 : Int32)))))) ∧ (¬ ((if (v_M_spares h) ≤ 0 then (0 : Int32) else 1) : Int32) = 0 → ((p_M_of v1.2.2 v1.2.1 3) ∧ (((v_M_of v1.2.2 v1.2.1 3) < ((v_M_of h a1 3) + (h.1 1 (am_ix 11))) → ((p_M_next v1.2.2 v1.2.1) ∧ ((p_M_becomes v1.2.2 v1.2.1 5 1) ∧ (∀ y4, v_M_becomes v1.2.2 v1.2.1 5 1 = y4 → (p_M_becomes y4 v1.2.1 6 (-1 : Int32)))))) ∧ (¬ (v_M_of v1.2.2 v1.2.1 3) < ((v_M_of h a1 3) + (h.1 1 (am_ix 11))) → True)))))))
def s_M_fails_86b (h : HP) (a1 : Int32) (y6 : HP) (v1 : Int32 × Int32 × HP) : (Int32 × Int32 × HP) ⊕ (Int32 × Int32 × HP) := (if v1.2.1 = (-1 : Int32) then (.inr (v1.1, v1.2.1, v1.2.2)) else (if ((if (v_M_spares h) ≤ 0 then (0 : Int32) else 1) : Int32) = 0 then (bnd (v_M_becomes v1.2.2 v1.2.1 5 1) fun y8 => (bnd (v_M_becomes y8 v1.2.1 6 (-1 : Int32)) fun y9 => (.inl ((v1.1 + 1), (v_M_next v1.2.2 v1.2.1), y9)))) else (if (v_M_of v1.2.2 v1.2.1 3) < ((v_M_of h a1 3) + (h.1 1 (am_ix 11))) then (bnd (v_M_becomes v1.2.2 v1.2.1 5 1) fun y10 => (bnd (v_M_becomes y10 v1.2.1 6 (-1 : Int32)) fun y11 => (.inl ((v1.1 + 1), (v_M_next v1.2.2 v1.2.1), y11)))) else (.inr (v1.1, v1.2.1, v1.2.2)))))
def ps_M_fails_86b (h : HP) (a1 : Int32) (y6 : HP) (v1 : Int32 × Int32 × HP) : Prop := ((v1.2.1 = (-1 : Int32) → True) ∧ (¬ v1.2.1 = (-1 : Int32) → ((((if (v_M_spares h) ≤ 0 then (0 : Int32) else 1) : Int32) = 0 → ((p_M_next v1.2.2 v1.2.1) ∧ ((p_M_becomes v1.2.2 v1.2.1 5 1) ∧ (∀ y8, v_M_becomes v1.2.2 v1.2.1 5 1 = y8 → (p_M_becomes y8 v1.2.1 6 (-1 : Int32)))))) ∧ (¬ ((if (v_M_spares h) ≤ 0 then (0 : Int32) else 1) : Int32) = 0 → ((p_M_of v1.2.2 v1.2.1 3) ∧ (((v_M_of v1.2.2 v1.2.1 3) < ((v_M_of h a1 3) + (h.1 1 (am_ix 11))) → ((p_M_next v1.2.2 v1.2.1) ∧ ((p_M_becomes v1.2.2 v1.2.1 5 1) ∧ (∀ y10, v_M_becomes v1.2.2 v1.2.1 5 1 = y10 → (p_M_becomes y10 v1.2.1 6 (-1 : Int32)))))) ∧ (¬ (v_M_of v1.2.2 v1.2.1 3) < ((v_M_of h a1 3) + (h.1 1 (am_ix 11))) → True)))))))
def v_M_fails (h : HP) (a1 : Int32) : Int32 × HP := (if (v_M_before (am_si (am_si h 1 (am_ix 13) ((h.1 1 (am_ix 13)) + 1)) 1 (am_ix 12) (((am_si h 1 (am_ix 13) ((h.1 1 (am_ix 13)) + 1)).1 1 (am_ix 12)) + (if ((if (v_M_spares h) ≤ 0 then (0 : Int32) else 1) : Int32) = 0 then (0 : Int32) else 1))) a1) = (-1 : Int32) then (match itr (s_M_fails_86 h a1) NF (0, a1, (am_si (am_si h 1 (am_ix 13) ((h.1 1 (am_ix 13)) + 1)) 1 (am_ix 12) (((am_si h 1 (am_ix 13) ((h.1 1 (am_ix 13)) + 1)).1 1 (am_ix 12)) + (if ((if (v_M_spares h) ≤ 0 then (0 : Int32) else 1) : Int32) = 0 then (0 : Int32) else 1)))) with | some r1 => (r1.1, r1.2.2) | none => (0, h)) else (bnd (v_M_becomes (am_si (am_si h 1 (am_ix 13) ((h.1 1 (am_ix 13)) + 1)) 1 (am_ix 12) (((am_si h 1 (am_ix 13) ((h.1 1 (am_ix 13)) + 1)).1 1 (am_ix 12)) + (if ((if (v_M_spares h) ≤ 0 then (0 : Int32) else 1) : Int32) = 0 then (0 : Int32) else 1))) (v_M_before (am_si (am_si h 1 (am_ix 13) ((h.1 1 (am_ix 13)) + 1)) 1 (am_ix 12) (((am_si h 1 (am_ix 13) ((h.1 1 (am_ix 13)) + 1)).1 1 (am_ix 12)) + (if ((if (v_M_spares h) ≤ 0 then (0 : Int32) else 1) : Int32) = 0 then (0 : Int32) else 1))) a1) 6 (-1 : Int32)) fun y6 => (match itr (s_M_fails_86b h a1 y6) NF (0, a1, y6) with | some r7 => (r7.1, r7.2.2) | none => (0, h))))
def p_M_fails (h : HP) (a1 : Int32) : Prop := ((p_M_of h a1 3) ∧ ((p_M_before (am_si (am_si h 1 (am_ix 13) ((h.1 1 (am_ix 13)) + 1)) 1 (am_ix 12) (((am_si h 1 (am_ix 13) ((h.1 1 (am_ix 13)) + 1)).1 1 (am_ix 12)) + (if ((if (v_M_spares h) ≤ 0 then (0 : Int32) else 1) : Int32) = 0 then (0 : Int32) else 1))) a1) ∧ (((v_M_before (am_si (am_si h 1 (am_ix 13) ((h.1 1 (am_ix 13)) + 1)) 1 (am_ix 12) (((am_si h 1 (am_ix 13) ((h.1 1 (am_ix 13)) + 1)).1 1 (am_ix 12)) + (if ((if (v_M_spares h) ≤ 0 then (0 : Int32) else 1) : Int32) = 0 then (0 : Int32) else 1))) a1) = (-1 : Int32) → (itrp (s_M_fails_86 h a1) (ps_M_fails_86 h a1) NF (0, a1, (am_si (am_si h 1 (am_ix 13) ((h.1 1 (am_ix 13)) + 1)) 1 (am_ix 12) (((am_si h 1 (am_ix 13) ((h.1 1 (am_ix 13)) + 1)).1 1 (am_ix 12)) + (if ((if (v_M_spares h) ≤ 0 then (0 : Int32) else 1) : Int32) = 0 then (0 : Int32) else 1)))))) ∧ (¬ (v_M_before (am_si (am_si h 1 (am_ix 13) ((h.1 1 (am_ix 13)) + 1)) 1 (am_ix 12) (((am_si h 1 (am_ix 13) ((h.1 1 (am_ix 13)) + 1)).1 1 (am_ix 12)) + (if ((if (v_M_spares h) ≤ 0 then (0 : Int32) else 1) : Int32) = 0 then (0 : Int32) else 1))) a1) = (-1 : Int32) → ((p_M_becomes (am_si (am_si h 1 (am_ix 13) ((h.1 1 (am_ix 13)) + 1)) 1 (am_ix 12) (((am_si h 1 (am_ix 13) ((h.1 1 (am_ix 13)) + 1)).1 1 (am_ix 12)) + (if ((if (v_M_spares h) ≤ 0 then (0 : Int32) else 1) : Int32) = 0 then (0 : Int32) else 1))) (v_M_before (am_si (am_si h 1 (am_ix 13) ((h.1 1 (am_ix 13)) + 1)) 1 (am_ix 12) (((am_si h 1 (am_ix 13) ((h.1 1 (am_ix 13)) + 1)).1 1 (am_ix 12)) + (if ((if (v_M_spares h) ≤ 0 then (0 : Int32) else 1) : Int32) = 0 then (0 : Int32) else 1))) a1) 6 (-1 : Int32)) ∧ (∀ y6, v_M_becomes (am_si (am_si h 1 (am_ix 13) ((h.1 1 (am_ix 13)) + 1)) 1 (am_ix 12) (((am_si h 1 (am_ix 13) ((h.1 1 (am_ix 13)) + 1)).1 1 (am_ix 12)) + (if ((if (v_M_spares h) ≤ 0 then (0 : Int32) else 1) : Int32) = 0 then (0 : Int32) else 1))) (v_M_before (am_si (am_si h 1 (am_ix 13) ((h.1 1 (am_ix 13)) + 1)) 1 (am_ix 12) (((am_si h 1 (am_ix 13) ((h.1 1 (am_ix 13)) + 1)).1 1 (am_ix 12)) + (if ((if (v_M_spares h) ≤ 0 then (0 : Int32) else 1) : Int32) = 0 then (0 : Int32) else 1))) a1) 6 (-1 : Int32) = y6 → (itrp (s_M_fails_86b h a1 y6) (ps_M_fails_86b h a1 y6) NF (0, a1, y6))))))))
def g_M_fails (_ _ : List Sh) (as : List Value) (h : HP) : GR := match as with
  | [.ref o1, .int a1] => (Nat.beq o1 0, p_M_fails h a1, none, some (.int (v_M_fails h a1).1), (v_M_fails h a1).2)
  | _ => bad h
def d_M_fails (k : Nat) : CD := (k, yX6_fails, cX6_fails, 8, some .int, 2, 3, 66, 0, false, true, g_M_fails)
theorem chk_M_fails : ∀ pc, am_chk cX6_fails k_M_fails pc = true := am_chkall 145 (by decide +kernel) (fun pc h => by unfold k_M_fails; rw [Nat.ble_eq_true_of_le h]; rfl)
theorem pf_M_fails : plainFor yX6_fails = true := by decide +kernel
theorem cu_M_fails : Cond.code yX6_fails cX6_fails 8 (some .int) ∈ am_U := am_tb 1064 (by decide +kernel) rfl
set_option maxHeartbeats 20000000 in
set_option maxRecDepth 100000 in
theorem ev_M_fails {e1 ro : List Sh} {P : AR → HP → Prop} (h : HP) (a1 : Int32) (hp : p_M_fails h a1) (hP : ∀ q, v_M_fails h a1 = q → RIW P h q) : am_Ev m_M_fails (WM ++ e1) ro P (0, [.ref 0, .int a1, .retAddr 0, .retAddr 0, .retAddr 0, .retAddr 0, .retAddr 0, .retAddr 0], [], h) := by
  unfold p_M_fails at hp
  refine am_Ev_G [4] 400 _ ?_
  show am_Ev m_M_fails (WM ++ e1) ro P (4, [.ref 0, .int a1, .retAddr 0, .retAddr 0, .retAddr 0, .retAddr 0, .retAddr 0, .retAddr 0], [.int (v_M_spares h)], h)
  have key1 : am_Ev m_M_fails (WM ++ e1) ro P (12, [.ref 0, .int a1, .retAddr 0, .retAddr 0, .retAddr 0, .retAddr 0, .retAddr 0, .retAddr 0], [.int (if (v_M_spares h) ≤ 0 then (0 : Int32) else 1)], h) := by
    refine am_Ev_G [19] 400 _ ?_
    show ((p_M_of h a1 3) ∧ am_Ev m_M_fails (WM ++ e1) ro P (19, [.ref 0, .int a1, .int (if (v_M_spares h) ≤ 0 then (0 : Int32) else 1), .retAddr 0, .retAddr 0, .retAddr 0, .retAddr 0, .retAddr 0], [.int (v_M_of h a1 3)], h))
    obtain ⟨hob, hp⟩ := hp
    refine ⟨hob, ?_⟩
    refine am_Ev_G [43] 400 _ ?_
    show ((am_in 11 163) ∧ ((am_in 13 163) ∧ ((am_in 13 163) ∧ am_Ev m_M_fails (WM ++ e1) ro P (43, [.ref 0, .int a1, .int (if (v_M_spares h) ≤ 0 then (0 : Int32) else 1), .int ((v_M_of h a1 3) + (h.1 1 (am_ix 11))), .retAddr 0, .retAddr 0, .retAddr 0, .retAddr 0], [.ref 1], (am_si h 1 (am_ix 13) ((h.1 1 (am_ix 13)) + 1))))))
    refine ⟨⟨by decide, by decide⟩, ?_⟩
    refine ⟨⟨by decide, by decide⟩, ?_⟩
    refine ⟨⟨by decide, by decide⟩, ?_⟩
    refine am_Ev_G [48] 400 _ ?_
    show ((am_in 12 163) ∧ am_Ev m_M_fails (WM ++ e1) ro P (48, [.ref 0, .int a1, .int (if (v_M_spares h) ≤ 0 then (0 : Int32) else 1), .int ((v_M_of h a1 3) + (h.1 1 (am_ix 11))), .retAddr 0, .retAddr 0, .retAddr 0, .retAddr 0], [.int (if (v_M_spares h) ≤ 0 then (0 : Int32) else 1), .int ((am_si h 1 (am_ix 13) ((h.1 1 (am_ix 13)) + 1)).1 1 (am_ix 12)), .int 12, .ref 1], (am_si h 1 (am_ix 13) ((h.1 1 (am_ix 13)) + 1))))
    refine ⟨⟨by decide, by decide⟩, ?_⟩
    have key2 : am_Ev m_M_fails (WM ++ e1) ro P (56, [.ref 0, .int a1, .int (if (v_M_spares h) ≤ 0 then (0 : Int32) else 1), .int ((v_M_of h a1 3) + (h.1 1 (am_ix 11))), .retAddr 0, .retAddr 0, .retAddr 0, .retAddr 0], [.int (if ((if (v_M_spares h) ≤ 0 then (0 : Int32) else 1) : Int32) = 0 then (0 : Int32) else 1), .int ((am_si h 1 (am_ix 13) ((h.1 1 (am_ix 13)) + 1)).1 1 (am_ix 12)), .int 12, .ref 1], (am_si h 1 (am_ix 13) ((h.1 1 (am_ix 13)) + 1))) := by
      refine am_Ev_G [63] 400 _ ?_
      show ((am_in 12 163) ∧ ((p_M_before (am_si (am_si h 1 (am_ix 13) ((h.1 1 (am_ix 13)) + 1)) 1 (am_ix 12) (((am_si h 1 (am_ix 13) ((h.1 1 (am_ix 13)) + 1)).1 1 (am_ix 12)) + (if ((if (v_M_spares h) ≤ 0 then (0 : Int32) else 1) : Int32) = 0 then (0 : Int32) else 1))) a1) ∧ am_Ev m_M_fails (WM ++ e1) ro P (63, [.ref 0, .int a1, .int (if (v_M_spares h) ≤ 0 then (0 : Int32) else 1), .int ((v_M_of h a1 3) + (h.1 1 (am_ix 11))), .retAddr 0, .retAddr 0, .retAddr 0, .retAddr 0], [.int (v_M_before (am_si (am_si h 1 (am_ix 13) ((h.1 1 (am_ix 13)) + 1)) 1 (am_ix 12) (((am_si h 1 (am_ix 13) ((h.1 1 (am_ix 13)) + 1)).1 1 (am_ix 12)) + (if ((if (v_M_spares h) ≤ 0 then (0 : Int32) else 1) : Int32) = 0 then (0 : Int32) else 1))) a1)], (am_si (am_si h 1 (am_ix 13) ((h.1 1 (am_ix 13)) + 1)) 1 (am_ix 12) (((am_si h 1 (am_ix 13) ((h.1 1 (am_ix 13)) + 1)).1 1 (am_ix 12)) + (if ((if (v_M_spares h) ≤ 0 then (0 : Int32) else 1) : Int32) = 0 then (0 : Int32) else 1))))))
      refine ⟨⟨by decide, by decide⟩, ?_⟩
      obtain ⟨hob, hp⟩ := hp
      refine ⟨hob, ?_⟩
      refine am_Ev_G [80] 400 _ ?_
      show (((v_M_before (am_si (am_si h 1 (am_ix 13) ((h.1 1 (am_ix 13)) + 1)) 1 (am_ix 12) (((am_si h 1 (am_ix 13) ((h.1 1 (am_ix 13)) + 1)).1 1 (am_ix 12)) + (if ((if (v_M_spares h) ≤ 0 then (0 : Int32) else 1) : Int32) = 0 then (0 : Int32) else 1))) a1) = (-1 : Int32) → am_Ev m_M_fails (WM ++ e1) ro P (80, [.ref 0, .int a1, .int (if (v_M_spares h) ≤ 0 then (0 : Int32) else 1), .int ((v_M_of h a1 3) + (h.1 1 (am_ix 11))), .int (v_M_before (am_si (am_si h 1 (am_ix 13) ((h.1 1 (am_ix 13)) + 1)) 1 (am_ix 12) (((am_si h 1 (am_ix 13) ((h.1 1 (am_ix 13)) + 1)).1 1 (am_ix 12)) + (if ((if (v_M_spares h) ≤ 0 then (0 : Int32) else 1) : Int32) = 0 then (0 : Int32) else 1))) a1), .retAddr 0, .retAddr 0, .retAddr 0], [], (am_si (am_si h 1 (am_ix 13) ((h.1 1 (am_ix 13)) + 1)) 1 (am_ix 12) (((am_si h 1 (am_ix 13) ((h.1 1 (am_ix 13)) + 1)).1 1 (am_ix 12)) + (if ((if (v_M_spares h) ≤ 0 then (0 : Int32) else 1) : Int32) = 0 then (0 : Int32) else 1))))) ∧ (¬ (v_M_before (am_si (am_si h 1 (am_ix 13) ((h.1 1 (am_ix 13)) + 1)) 1 (am_ix 12) (((am_si h 1 (am_ix 13) ((h.1 1 (am_ix 13)) + 1)).1 1 (am_ix 12)) + (if ((if (v_M_spares h) ≤ 0 then (0 : Int32) else 1) : Int32) = 0 then (0 : Int32) else 1))) a1) = (-1 : Int32) → ((p_M_becomes (am_si (am_si h 1 (am_ix 13) ((h.1 1 (am_ix 13)) + 1)) 1 (am_ix 12) (((am_si h 1 (am_ix 13) ((h.1 1 (am_ix 13)) + 1)).1 1 (am_ix 12)) + (if ((if (v_M_spares h) ≤ 0 then (0 : Int32) else 1) : Int32) = 0 then (0 : Int32) else 1))) (v_M_before (am_si (am_si h 1 (am_ix 13) ((h.1 1 (am_ix 13)) + 1)) 1 (am_ix 12) (((am_si h 1 (am_ix 13) ((h.1 1 (am_ix 13)) + 1)).1 1 (am_ix 12)) + (if ((if (v_M_spares h) ≤ 0 then (0 : Int32) else 1) : Int32) = 0 then (0 : Int32) else 1))) a1) 6 (-1 : Int32)) ∧ am_Ev m_M_fails (WM ++ e1) ro P (80, [.ref 0, .int a1, .int (if (v_M_spares h) ≤ 0 then (0 : Int32) else 1), .int ((v_M_of h a1 3) + (h.1 1 (am_ix 11))), .int (v_M_before (am_si (am_si h 1 (am_ix 13) ((h.1 1 (am_ix 13)) + 1)) 1 (am_ix 12) (((am_si h 1 (am_ix 13) ((h.1 1 (am_ix 13)) + 1)).1 1 (am_ix 12)) + (if ((if (v_M_spares h) ≤ 0 then (0 : Int32) else 1) : Int32) = 0 then (0 : Int32) else 1))) a1), .retAddr 0, .retAddr 0, .retAddr 0], [], (v_M_becomes (am_si (am_si h 1 (am_ix 13) ((h.1 1 (am_ix 13)) + 1)) 1 (am_ix 12) (((am_si h 1 (am_ix 13) ((h.1 1 (am_ix 13)) + 1)).1 1 (am_ix 12)) + (if ((if (v_M_spares h) ≤ 0 then (0 : Int32) else 1) : Int32) = 0 then (0 : Int32) else 1))) (v_M_before (am_si (am_si h 1 (am_ix 13) ((h.1 1 (am_ix 13)) + 1)) 1 (am_ix 12) (((am_si h 1 (am_ix 13) ((h.1 1 (am_ix 13)) + 1)).1 1 (am_ix 12)) + (if ((if (v_M_spares h) ≤ 0 then (0 : Int32) else 1) : Int32) = 0 then (0 : Int32) else 1))) a1) 6 (-1 : Int32))))))
      refine ⟨fun c3 => ?_, fun c3 => ?_⟩
      · have hp := hp.1 c3
        refine am_Ev_G [86] 400 _ ?_
        show am_Ev m_M_fails (WM ++ e1) ro P (86, [.ref 0, .int a1, .int (if (v_M_spares h) ≤ 0 then (0 : Int32) else 1), .int ((v_M_of h a1 3) + (h.1 1 (am_ix 11))), .int (v_M_before (am_si (am_si h 1 (am_ix 13) ((h.1 1 (am_ix 13)) + 1)) 1 (am_ix 12) (((am_si h 1 (am_ix 13) ((h.1 1 (am_ix 13)) + 1)).1 1 (am_ix 12)) + (if ((if (v_M_spares h) ≤ 0 then (0 : Int32) else 1) : Int32) = 0 then (0 : Int32) else 1))) a1), .int 0, .int a1, .retAddr 0], [], (am_si (am_si h 1 (am_ix 13) ((h.1 1 (am_ix 13)) + 1)) 1 (am_ix 12) (((am_si h 1 (am_ix 13) ((h.1 1 (am_ix 13)) + 1)).1 1 (am_ix 12)) + (if ((if (v_M_spares h) ≤ 0 then (0 : Int32) else 1) : Int32) = 0 then (0 : Int32) else 1))))
        refine am_fg 1 ?_
        refine am_fg 4 ?_
        have hpl := hp
        refine am_itr (E := (fun (v1 : Int32 × Int32 × HP) => am_Ev m_M_fails (WM ++ e1) ro P (86, [.ref 0, .retAddr 0, .int (if (v_M_spares h) ≤ 0 then (0 : Int32) else 1), .int ((v_M_of h a1 3) + (h.1 1 (am_ix 11))), .retAddr 0, .int v1.1, .int v1.2.1, .retAddr 0], [], v1.2.2))) (E' := (fun (r1 : Int32 × Int32 × HP) => am_Ev m_M_fails (WM ++ e1) ro P (142, [.ref 0, .retAddr 0, .int (if (v_M_spares h) ≤ 0 then (0 : Int32) else 1), .int ((v_M_of h a1 3) + (h.1 1 (am_ix 11))), .retAddr 0, .int r1.1, .int r1.2.1, .retAddr 0], [], r1.2.2))) (s_M_fails_86 h a1) (ps_M_fails_86 h a1) ?_ NF (0, a1, (am_si (am_si h 1 (am_ix 13) ((h.1 1 (am_ix 13)) + 1)) 1 (am_ix 12) (((am_si h 1 (am_ix 13) ((h.1 1 (am_ix 13)) + 1)).1 1 (am_ix 12)) + (if ((if (v_M_spares h) ≤ 0 then (0 : Int32) else 1) : Int32) = 0 then (0 : Int32) else 1)))) hpl ?_
        · intro v1 hp hc1 hx1
          show am_Ev m_M_fails (WM ++ e1) ro P (86, [.ref 0, .retAddr 0, .int (if (v_M_spares h) ≤ 0 then (0 : Int32) else 1), .int ((v_M_of h a1 3) + (h.1 1 (am_ix 11))), .retAddr 0, .int v1.1, .int v1.2.1, .retAddr 0], [], v1.2.2)
          unfold ps_M_fails_86 at hp
          refine am_Ev_G [103, 123, 142] 400 _ ?_
          show ((v1.2.1 = (-1 : Int32) → am_Ev m_M_fails (WM ++ e1) ro P (142, [.ref 0, .retAddr 0, .int (if (v_M_spares h) ≤ 0 then (0 : Int32) else 1), .int ((v_M_of h a1 3) + (h.1 1 (am_ix 11))), .retAddr 0, .int v1.1, .int v1.2.1, .retAddr 0], [], v1.2.2)) ∧ (¬ v1.2.1 = (-1 : Int32) → ((((if (v_M_spares h) ≤ 0 then (0 : Int32) else 1) : Int32) = 0 → ((p_M_next v1.2.2 v1.2.1) ∧ ((p_M_becomes v1.2.2 v1.2.1 5 1) ∧ am_Ev m_M_fails (WM ++ e1) ro P (123, [.ref 0, .retAddr 0, .int (if (v_M_spares h) ≤ 0 then (0 : Int32) else 1), .int ((v_M_of h a1 3) + (h.1 1 (am_ix 11))), .retAddr 0, .int v1.1, .int v1.2.1, .int (v_M_next v1.2.2 v1.2.1)], [], (v_M_becomes v1.2.2 v1.2.1 5 1))))) ∧ (¬ ((if (v_M_spares h) ≤ 0 then (0 : Int32) else 1) : Int32) = 0 → ((p_M_of v1.2.2 v1.2.1 3) ∧ am_Ev m_M_fails (WM ++ e1) ro P (103, [.ref 0, .retAddr 0, .int (if (v_M_spares h) ≤ 0 then (0 : Int32) else 1), .int ((v_M_of h a1 3) + (h.1 1 (am_ix 11))), .retAddr 0, .int v1.1, .int v1.2.1, .retAddr 0], [.int (v_M_of v1.2.2 v1.2.1 3)], v1.2.2))))))
          refine ⟨fun c4 => ?_, fun c4 => ?_⟩
          · skip
            exact hx1 (v1.1, v1.2.1, v1.2.2) (by unfold s_M_fails_86; simp only [if_pos c4])
          · have hp := hp.2 c4
            refine ⟨fun c5 => ?_, fun c5 => ?_⟩
            · have hp := hp.1 c5
              obtain ⟨hob, hp⟩ := hp
              refine ⟨hob, ?_⟩
              obtain ⟨hob, hp⟩ := hp
              refine ⟨hob, ?_⟩
              obtain ⟨y2, c6⟩ : ∃ y, v_M_becomes v1.2.2 v1.2.1 5 1 = y := ⟨_, rfl⟩
              rw [c6]
              have hp := hp _ c6
              show am_Ev m_M_fails (WM ++ e1) ro P (123, [.ref 0, .retAddr 0, .int (if (v_M_spares h) ≤ 0 then (0 : Int32) else 1), .int ((v_M_of h a1 3) + (h.1 1 (am_ix 11))), .retAddr 0, .int v1.1, .int v1.2.1, .int (v_M_next v1.2.2 v1.2.1)], [], y2)
              refine am_Ev_G [132] 400 _ ?_
              show ((p_M_becomes y2 v1.2.1 6 (-1 : Int32)) ∧ am_Ev m_M_fails (WM ++ e1) ro P (132, [.ref 0, .retAddr 0, .int (if (v_M_spares h) ≤ 0 then (0 : Int32) else 1), .int ((v_M_of h a1 3) + (h.1 1 (am_ix 11))), .retAddr 0, .int v1.1, .int v1.2.1, .int (v_M_next v1.2.2 v1.2.1)], [], (v_M_becomes y2 v1.2.1 6 (-1 : Int32))))
              refine ⟨hp, ?_⟩
              obtain ⟨y3, c7⟩ : ∃ y, v_M_becomes y2 v1.2.1 6 (-1 : Int32) = y := ⟨_, rfl⟩
              rw [c7]
              show am_Ev m_M_fails (WM ++ e1) ro P (132, [.ref 0, .retAddr 0, .int (if (v_M_spares h) ≤ 0 then (0 : Int32) else 1), .int ((v_M_of h a1 3) + (h.1 1 (am_ix 11))), .retAddr 0, .int v1.1, .int v1.2.1, .int (v_M_next v1.2.2 v1.2.1)], [], y3)
              refine am_Ev_G [86] 400 _ ?_
              show am_Ev m_M_fails (WM ++ e1) ro P (86, [.ref 0, .retAddr 0, .int (if (v_M_spares h) ≤ 0 then (0 : Int32) else 1), .int ((v_M_of h a1 3) + (h.1 1 (am_ix 11))), .retAddr 0, .int (v1.1 + 1), .int (v_M_next v1.2.2 v1.2.1), .int (v_M_next v1.2.2 v1.2.1)], [], y3)
              refine am_fg 7 ?_
              exact hc1 ((v1.1 + 1), (v_M_next v1.2.2 v1.2.1), y3) (by unfold s_M_fails_86; simp only [if_neg c4, if_pos c5, bnd, c6, bnd, c7])
            · have hp := hp.2 c5
              obtain ⟨hob, hp⟩ := hp
              refine ⟨hob, ?_⟩
              refine am_Ev_G [123, 142] 400 _ ?_
              show ((¬ (v_M_of v1.2.2 v1.2.1 3) < ((v_M_of h a1 3) + (h.1 1 (am_ix 11))) → am_Ev m_M_fails (WM ++ e1) ro P (142, [.ref 0, .retAddr 0, .int (if (v_M_spares h) ≤ 0 then (0 : Int32) else 1), .int ((v_M_of h a1 3) + (h.1 1 (am_ix 11))), .retAddr 0, .int v1.1, .int v1.2.1, .retAddr 0], [], v1.2.2)) ∧ ((v_M_of v1.2.2 v1.2.1 3) < ((v_M_of h a1 3) + (h.1 1 (am_ix 11))) → ((p_M_next v1.2.2 v1.2.1) ∧ ((p_M_becomes v1.2.2 v1.2.1 5 1) ∧ am_Ev m_M_fails (WM ++ e1) ro P (123, [.ref 0, .retAddr 0, .int (if (v_M_spares h) ≤ 0 then (0 : Int32) else 1), .int ((v_M_of h a1 3) + (h.1 1 (am_ix 11))), .retAddr 0, .int v1.1, .int v1.2.1, .int (v_M_next v1.2.2 v1.2.1)], [], (v_M_becomes v1.2.2 v1.2.1 5 1))))))
              refine ⟨fun c8 => ?_, fun c8 => ?_⟩
              · skip
                exact hx1 (v1.1, v1.2.1, v1.2.2) (by unfold s_M_fails_86; simp only [if_neg c4, if_neg c5, if_neg c8])
              · have hp := hp.1 c8
                obtain ⟨hob, hp⟩ := hp
                refine ⟨hob, ?_⟩
                obtain ⟨hob, hp⟩ := hp
                refine ⟨hob, ?_⟩
                obtain ⟨y4, c9⟩ : ∃ y, v_M_becomes v1.2.2 v1.2.1 5 1 = y := ⟨_, rfl⟩
                rw [c9]
                have hp := hp _ c9
                show am_Ev m_M_fails (WM ++ e1) ro P (123, [.ref 0, .retAddr 0, .int (if (v_M_spares h) ≤ 0 then (0 : Int32) else 1), .int ((v_M_of h a1 3) + (h.1 1 (am_ix 11))), .retAddr 0, .int v1.1, .int v1.2.1, .int (v_M_next v1.2.2 v1.2.1)], [], y4)
                refine am_Ev_G [132] 400 _ ?_
                show ((p_M_becomes y4 v1.2.1 6 (-1 : Int32)) ∧ am_Ev m_M_fails (WM ++ e1) ro P (132, [.ref 0, .retAddr 0, .int (if (v_M_spares h) ≤ 0 then (0 : Int32) else 1), .int ((v_M_of h a1 3) + (h.1 1 (am_ix 11))), .retAddr 0, .int v1.1, .int v1.2.1, .int (v_M_next v1.2.2 v1.2.1)], [], (v_M_becomes y4 v1.2.1 6 (-1 : Int32))))
                refine ⟨hp, ?_⟩
                obtain ⟨y5, c10⟩ : ∃ y, v_M_becomes y4 v1.2.1 6 (-1 : Int32) = y := ⟨_, rfl⟩
                rw [c10]
                show am_Ev m_M_fails (WM ++ e1) ro P (132, [.ref 0, .retAddr 0, .int (if (v_M_spares h) ≤ 0 then (0 : Int32) else 1), .int ((v_M_of h a1 3) + (h.1 1 (am_ix 11))), .retAddr 0, .int v1.1, .int v1.2.1, .int (v_M_next v1.2.2 v1.2.1)], [], y5)
                refine am_Ev_G [86] 400 _ ?_
                show am_Ev m_M_fails (WM ++ e1) ro P (86, [.ref 0, .retAddr 0, .int (if (v_M_spares h) ≤ 0 then (0 : Int32) else 1), .int ((v_M_of h a1 3) + (h.1 1 (am_ix 11))), .retAddr 0, .int (v1.1 + 1), .int (v_M_next v1.2.2 v1.2.1), .int (v_M_next v1.2.2 v1.2.1)], [], y5)
                refine am_fg 7 ?_
                exact hc1 ((v1.1 + 1), (v_M_next v1.2.2 v1.2.1), y5) (by unfold s_M_fails_86; simp only [if_neg c4, if_neg c5, if_pos c8, bnd, c9, bnd, c10])
        · intro r1 hr11
          show am_Ev m_M_fails (WM ++ e1) ro P (142, [.ref 0, .retAddr 0, .int (if (v_M_spares h) ≤ 0 then (0 : Int32) else 1), .int ((v_M_of h a1 3) + (h.1 1 (am_ix 11))), .retAddr 0, .int r1.1, .int r1.2.1, .retAddr 0], [], r1.2.2)
          refine am_Ev_G [] 400 _ ?_
          show P (.inl (some (.int r1.1))) r1.2.2
          exact hP (r1.1, r1.2.2) (by unfold v_M_fails; simp only [if_pos c3, hr11])
      · have hp := hp.2 c3
        obtain ⟨hob, hp⟩ := hp
        refine ⟨hob, ?_⟩
        obtain ⟨y6, c12⟩ : ∃ y, v_M_becomes (am_si (am_si h 1 (am_ix 13) ((h.1 1 (am_ix 13)) + 1)) 1 (am_ix 12) (((am_si h 1 (am_ix 13) ((h.1 1 (am_ix 13)) + 1)).1 1 (am_ix 12)) + (if ((if (v_M_spares h) ≤ 0 then (0 : Int32) else 1) : Int32) = 0 then (0 : Int32) else 1))) (v_M_before (am_si (am_si h 1 (am_ix 13) ((h.1 1 (am_ix 13)) + 1)) 1 (am_ix 12) (((am_si h 1 (am_ix 13) ((h.1 1 (am_ix 13)) + 1)).1 1 (am_ix 12)) + (if ((if (v_M_spares h) ≤ 0 then (0 : Int32) else 1) : Int32) = 0 then (0 : Int32) else 1))) a1) 6 (-1 : Int32) = y := ⟨_, rfl⟩
        rw [c12]
        have hp := hp _ c12
        show am_Ev m_M_fails (WM ++ e1) ro P (80, [.ref 0, .int a1, .int (if (v_M_spares h) ≤ 0 then (0 : Int32) else 1), .int ((v_M_of h a1 3) + (h.1 1 (am_ix 11))), .int (v_M_before (am_si (am_si h 1 (am_ix 13) ((h.1 1 (am_ix 13)) + 1)) 1 (am_ix 12) (((am_si h 1 (am_ix 13) ((h.1 1 (am_ix 13)) + 1)).1 1 (am_ix 12)) + (if ((if (v_M_spares h) ≤ 0 then (0 : Int32) else 1) : Int32) = 0 then (0 : Int32) else 1))) a1), .retAddr 0, .retAddr 0, .retAddr 0], [], y6)
        refine am_Ev_G [86] 400 _ ?_
        show am_Ev m_M_fails (WM ++ e1) ro P (86, [.ref 0, .int a1, .int (if (v_M_spares h) ≤ 0 then (0 : Int32) else 1), .int ((v_M_of h a1 3) + (h.1 1 (am_ix 11))), .int (v_M_before (am_si (am_si h 1 (am_ix 13) ((h.1 1 (am_ix 13)) + 1)) 1 (am_ix 12) (((am_si h 1 (am_ix 13) ((h.1 1 (am_ix 13)) + 1)).1 1 (am_ix 12)) + (if ((if (v_M_spares h) ≤ 0 then (0 : Int32) else 1) : Int32) = 0 then (0 : Int32) else 1))) a1), .int 0, .int a1, .retAddr 0], [], y6)
        refine am_fg 1 ?_
        refine am_fg 4 ?_
        have hpl := hp
        refine am_itr (E := (fun (v1 : Int32 × Int32 × HP) => am_Ev m_M_fails (WM ++ e1) ro P (86, [.ref 0, .retAddr 0, .int (if (v_M_spares h) ≤ 0 then (0 : Int32) else 1), .int ((v_M_of h a1 3) + (h.1 1 (am_ix 11))), .retAddr 0, .int v1.1, .int v1.2.1, .retAddr 0], [], v1.2.2))) (E' := (fun (r7 : Int32 × Int32 × HP) => am_Ev m_M_fails (WM ++ e1) ro P (142, [.ref 0, .retAddr 0, .int (if (v_M_spares h) ≤ 0 then (0 : Int32) else 1), .int ((v_M_of h a1 3) + (h.1 1 (am_ix 11))), .retAddr 0, .int r7.1, .int r7.2.1, .retAddr 0], [], r7.2.2))) (s_M_fails_86b h a1 y6) (ps_M_fails_86b h a1 y6) ?_ NF (0, a1, y6) hpl ?_
        · intro v1 hp hc1 hx1
          show am_Ev m_M_fails (WM ++ e1) ro P (86, [.ref 0, .retAddr 0, .int (if (v_M_spares h) ≤ 0 then (0 : Int32) else 1), .int ((v_M_of h a1 3) + (h.1 1 (am_ix 11))), .retAddr 0, .int v1.1, .int v1.2.1, .retAddr 0], [], v1.2.2)
          unfold ps_M_fails_86b at hp
          refine am_Ev_G [103, 123, 142] 400 _ ?_
          show ((v1.2.1 = (-1 : Int32) → am_Ev m_M_fails (WM ++ e1) ro P (142, [.ref 0, .retAddr 0, .int (if (v_M_spares h) ≤ 0 then (0 : Int32) else 1), .int ((v_M_of h a1 3) + (h.1 1 (am_ix 11))), .retAddr 0, .int v1.1, .int v1.2.1, .retAddr 0], [], v1.2.2)) ∧ (¬ v1.2.1 = (-1 : Int32) → ((((if (v_M_spares h) ≤ 0 then (0 : Int32) else 1) : Int32) = 0 → ((p_M_next v1.2.2 v1.2.1) ∧ ((p_M_becomes v1.2.2 v1.2.1 5 1) ∧ am_Ev m_M_fails (WM ++ e1) ro P (123, [.ref 0, .retAddr 0, .int (if (v_M_spares h) ≤ 0 then (0 : Int32) else 1), .int ((v_M_of h a1 3) + (h.1 1 (am_ix 11))), .retAddr 0, .int v1.1, .int v1.2.1, .int (v_M_next v1.2.2 v1.2.1)], [], (v_M_becomes v1.2.2 v1.2.1 5 1))))) ∧ (¬ ((if (v_M_spares h) ≤ 0 then (0 : Int32) else 1) : Int32) = 0 → ((p_M_of v1.2.2 v1.2.1 3) ∧ am_Ev m_M_fails (WM ++ e1) ro P (103, [.ref 0, .retAddr 0, .int (if (v_M_spares h) ≤ 0 then (0 : Int32) else 1), .int ((v_M_of h a1 3) + (h.1 1 (am_ix 11))), .retAddr 0, .int v1.1, .int v1.2.1, .retAddr 0], [.int (v_M_of v1.2.2 v1.2.1 3)], v1.2.2))))))
          refine ⟨fun c13 => ?_, fun c13 => ?_⟩
          · skip
            exact hx1 (v1.1, v1.2.1, v1.2.2) (by unfold s_M_fails_86b; simp only [if_pos c13])
          · have hp := hp.2 c13
            refine ⟨fun c14 => ?_, fun c14 => ?_⟩
            · have hp := hp.1 c14
              obtain ⟨hob, hp⟩ := hp
              refine ⟨hob, ?_⟩
              obtain ⟨hob, hp⟩ := hp
              refine ⟨hob, ?_⟩
              obtain ⟨y8, c15⟩ : ∃ y, v_M_becomes v1.2.2 v1.2.1 5 1 = y := ⟨_, rfl⟩
              rw [c15]
              have hp := hp _ c15
              show am_Ev m_M_fails (WM ++ e1) ro P (123, [.ref 0, .retAddr 0, .int (if (v_M_spares h) ≤ 0 then (0 : Int32) else 1), .int ((v_M_of h a1 3) + (h.1 1 (am_ix 11))), .retAddr 0, .int v1.1, .int v1.2.1, .int (v_M_next v1.2.2 v1.2.1)], [], y8)
              refine am_Ev_G [132] 400 _ ?_
              show ((p_M_becomes y8 v1.2.1 6 (-1 : Int32)) ∧ am_Ev m_M_fails (WM ++ e1) ro P (132, [.ref 0, .retAddr 0, .int (if (v_M_spares h) ≤ 0 then (0 : Int32) else 1), .int ((v_M_of h a1 3) + (h.1 1 (am_ix 11))), .retAddr 0, .int v1.1, .int v1.2.1, .int (v_M_next v1.2.2 v1.2.1)], [], (v_M_becomes y8 v1.2.1 6 (-1 : Int32))))
              refine ⟨hp, ?_⟩
              obtain ⟨y9, c16⟩ : ∃ y, v_M_becomes y8 v1.2.1 6 (-1 : Int32) = y := ⟨_, rfl⟩
              rw [c16]
              show am_Ev m_M_fails (WM ++ e1) ro P (132, [.ref 0, .retAddr 0, .int (if (v_M_spares h) ≤ 0 then (0 : Int32) else 1), .int ((v_M_of h a1 3) + (h.1 1 (am_ix 11))), .retAddr 0, .int v1.1, .int v1.2.1, .int (v_M_next v1.2.2 v1.2.1)], [], y9)
              refine am_Ev_G [86] 400 _ ?_
              show am_Ev m_M_fails (WM ++ e1) ro P (86, [.ref 0, .retAddr 0, .int (if (v_M_spares h) ≤ 0 then (0 : Int32) else 1), .int ((v_M_of h a1 3) + (h.1 1 (am_ix 11))), .retAddr 0, .int (v1.1 + 1), .int (v_M_next v1.2.2 v1.2.1), .int (v_M_next v1.2.2 v1.2.1)], [], y9)
              refine am_fg 7 ?_
              exact hc1 ((v1.1 + 1), (v_M_next v1.2.2 v1.2.1), y9) (by unfold s_M_fails_86b; simp only [if_neg c13, if_pos c14, bnd, c15, bnd, c16])
            · have hp := hp.2 c14
              obtain ⟨hob, hp⟩ := hp
              refine ⟨hob, ?_⟩
              refine am_Ev_G [123, 142] 400 _ ?_
              show ((¬ (v_M_of v1.2.2 v1.2.1 3) < ((v_M_of h a1 3) + (h.1 1 (am_ix 11))) → am_Ev m_M_fails (WM ++ e1) ro P (142, [.ref 0, .retAddr 0, .int (if (v_M_spares h) ≤ 0 then (0 : Int32) else 1), .int ((v_M_of h a1 3) + (h.1 1 (am_ix 11))), .retAddr 0, .int v1.1, .int v1.2.1, .retAddr 0], [], v1.2.2)) ∧ ((v_M_of v1.2.2 v1.2.1 3) < ((v_M_of h a1 3) + (h.1 1 (am_ix 11))) → ((p_M_next v1.2.2 v1.2.1) ∧ ((p_M_becomes v1.2.2 v1.2.1 5 1) ∧ am_Ev m_M_fails (WM ++ e1) ro P (123, [.ref 0, .retAddr 0, .int (if (v_M_spares h) ≤ 0 then (0 : Int32) else 1), .int ((v_M_of h a1 3) + (h.1 1 (am_ix 11))), .retAddr 0, .int v1.1, .int v1.2.1, .int (v_M_next v1.2.2 v1.2.1)], [], (v_M_becomes v1.2.2 v1.2.1 5 1))))))
              refine ⟨fun c17 => ?_, fun c17 => ?_⟩
              · skip
                exact hx1 (v1.1, v1.2.1, v1.2.2) (by unfold s_M_fails_86b; simp only [if_neg c13, if_neg c14, if_neg c17])
              · have hp := hp.1 c17
                obtain ⟨hob, hp⟩ := hp
                refine ⟨hob, ?_⟩
                obtain ⟨hob, hp⟩ := hp
                refine ⟨hob, ?_⟩
                obtain ⟨y10, c18⟩ : ∃ y, v_M_becomes v1.2.2 v1.2.1 5 1 = y := ⟨_, rfl⟩
                rw [c18]
                have hp := hp _ c18
                show am_Ev m_M_fails (WM ++ e1) ro P (123, [.ref 0, .retAddr 0, .int (if (v_M_spares h) ≤ 0 then (0 : Int32) else 1), .int ((v_M_of h a1 3) + (h.1 1 (am_ix 11))), .retAddr 0, .int v1.1, .int v1.2.1, .int (v_M_next v1.2.2 v1.2.1)], [], y10)
                refine am_Ev_G [132] 400 _ ?_
                show ((p_M_becomes y10 v1.2.1 6 (-1 : Int32)) ∧ am_Ev m_M_fails (WM ++ e1) ro P (132, [.ref 0, .retAddr 0, .int (if (v_M_spares h) ≤ 0 then (0 : Int32) else 1), .int ((v_M_of h a1 3) + (h.1 1 (am_ix 11))), .retAddr 0, .int v1.1, .int v1.2.1, .int (v_M_next v1.2.2 v1.2.1)], [], (v_M_becomes y10 v1.2.1 6 (-1 : Int32))))
                refine ⟨hp, ?_⟩
                obtain ⟨y11, c19⟩ : ∃ y, v_M_becomes y10 v1.2.1 6 (-1 : Int32) = y := ⟨_, rfl⟩
                rw [c19]
                show am_Ev m_M_fails (WM ++ e1) ro P (132, [.ref 0, .retAddr 0, .int (if (v_M_spares h) ≤ 0 then (0 : Int32) else 1), .int ((v_M_of h a1 3) + (h.1 1 (am_ix 11))), .retAddr 0, .int v1.1, .int v1.2.1, .int (v_M_next v1.2.2 v1.2.1)], [], y11)
                refine am_Ev_G [86] 400 _ ?_
                show am_Ev m_M_fails (WM ++ e1) ro P (86, [.ref 0, .retAddr 0, .int (if (v_M_spares h) ≤ 0 then (0 : Int32) else 1), .int ((v_M_of h a1 3) + (h.1 1 (am_ix 11))), .retAddr 0, .int (v1.1 + 1), .int (v_M_next v1.2.2 v1.2.1), .int (v_M_next v1.2.2 v1.2.1)], [], y11)
                refine am_fg 7 ?_
                exact hc1 ((v1.1 + 1), (v_M_next v1.2.2 v1.2.1), y11) (by unfold s_M_fails_86b; simp only [if_neg c13, if_neg c14, if_pos c17, bnd, c18, bnd, c19])
        · intro r7 hr20
          show am_Ev m_M_fails (WM ++ e1) ro P (142, [.ref 0, .retAddr 0, .int (if (v_M_spares h) ≤ 0 then (0 : Int32) else 1), .int ((v_M_of h a1 3) + (h.1 1 (am_ix 11))), .retAddr 0, .int r7.1, .int r7.2.1, .retAddr 0], [], r7.2.2)
          refine am_Ev_G [] 400 _ ?_
          show P (.inl (some (.int r7.1))) r7.2.2
          exact hP (r7.1, r7.2.2) (by unfold v_M_fails; simp only [if_neg c3, bnd, c12, hr20])
    refine am_Ev_G [56] 400 _ ?_
    show ((((if (v_M_spares h) ≤ 0 then (0 : Int32) else 1) : Int32) = 0 → am_Ev m_M_fails (WM ++ e1) ro P (56, [.ref 0, .int a1, .int (if (v_M_spares h) ≤ 0 then (0 : Int32) else 1), .int ((v_M_of h a1 3) + (h.1 1 (am_ix 11))), .retAddr 0, .retAddr 0, .retAddr 0, .retAddr 0], [.int 0, .int ((am_si h 1 (am_ix 13) ((h.1 1 (am_ix 13)) + 1)).1 1 (am_ix 12)), .int 12, .ref 1], (am_si h 1 (am_ix 13) ((h.1 1 (am_ix 13)) + 1)))) ∧ (¬ ((if (v_M_spares h) ≤ 0 then (0 : Int32) else 1) : Int32) = 0 → am_Ev m_M_fails (WM ++ e1) ro P (56, [.ref 0, .int a1, .int (if (v_M_spares h) ≤ 0 then (0 : Int32) else 1), .int ((v_M_of h a1 3) + (h.1 1 (am_ix 11))), .retAddr 0, .retAddr 0, .retAddr 0, .retAddr 0], [.int 1, .int ((am_si h 1 (am_ix 13) ((h.1 1 (am_ix 13)) + 1)).1 1 (am_ix 12)), .int 12, .ref 1], (am_si h 1 (am_ix 13) ((h.1 1 (am_ix 13)) + 1)))))
    refine ⟨fun c21 => ?_, fun c21 => ?_⟩
    · skip
      simpa only [if_pos c21] using key2
    · skip
      simpa only [if_neg c21] using key2
  refine am_Ev_G [12] 400 _ ?_
  show (((v_M_spares h) ≤ 0 → am_Ev m_M_fails (WM ++ e1) ro P (12, [.ref 0, .int a1, .retAddr 0, .retAddr 0, .retAddr 0, .retAddr 0, .retAddr 0, .retAddr 0], [.int 0], h)) ∧ (¬ (v_M_spares h) ≤ 0 → am_Ev m_M_fails (WM ++ e1) ro P (12, [.ref 0, .int a1, .retAddr 0, .retAddr 0, .retAddr 0, .retAddr 0, .retAddr 0, .retAddr 0], [.int 1], h)))
  refine ⟨fun c22 => ?_, fun c22 => ?_⟩
  · skip
    simpa only [if_pos c22] using key1
  · skip
    simpa only [if_neg c22] using key1
theorem ok_M_fails {l : Launch} (hl : l.stackTraces = false) (e1 ro : List Sh) (k : Nat) : am_Ok l (WM ++ e1) ro (d_M_fails k) := by
  refine am_met hl (own := RX6) (M := m_M_fails) rfl pf_M_fails cu_M_fails rfl rfl rfl rfl (fun _ => rfl) rfl ⟨chk_M_fails, (am_c (fl_M_7) am_n), (am_c (lk_M_49) (am_c (lk_M_57) (am_c (lk_M_64) (am_c (lk_M_82) (am_c (lk_M_157) am_n))))), (am_n), (am_n)⟩ (am_n) (am_c (ok_M_of hl e1 _ 16) (am_c (ok_M_next hl e1 _ 16) (am_c (ok_M_before hl e1 _ 16) (am_c (ok_M_becomes hl e1 _ 16) (am_c (ok_M_spares hl e1 _ 16) am_n))))) (fun z => nomatch z) ?_ ?_
  · intro _ as h hg
    show g_thr (g_M_fails (WM ++ e1) ro as h) = none
    unfold g_M_fails
    split <;> rfl
  · intro as h hg hp
    revert hg hp
    show g_ok (g_M_fails (WM ++ e1) ro as h) = true → g_pre (g_M_fails (WM ++ e1) ro as h) → _ ∧ am_Ev m_M_fails (WM ++ e1) ro (am_eq (g_M_fails (WM ++ e1) ro as h)) (0, am_ent as 8, [], h)
    unfold g_M_fails
    split
    · rename_i o1 a1
      intro hc hp
      change (Nat.beq o1 0) = true at hc
      obtain rfl := am_beq hc
      exact ⟨Nat.le_of_ble_eq_true rfl, ev_M_fails h a1 hp eqRIW⟩
    · exact fun z => nomatch z
def k_M_fail (pc : Nat) : Ent := bif Nat.ble 43 pc then am_nop else bif Nat.ble 20 pc then (bif Nat.ble 32 pc then (bif Nat.ble 37 pc then (bif Nat.ble 39 pc then (bif Nat.ble 42 pc then (bif Nat.beq pc 42 then (.ireturn, 0, 0, []) else am_nop) else (bif Nat.beq pc 39 then (.invokevirtual 160, 0, 0, []) else am_nop)) else (bif Nat.ble 38 pc then (bif Nat.beq pc 38 then (.iload_n 1, 0, 1, []) else am_nop) else (bif Nat.beq pc 37 then (.aload_n 0, 0, 0, []) else am_nop))) else (bif Nat.ble 33 pc then (bif Nat.ble 34 pc then (bif Nat.beq pc 34 then (.invokevirtual 137, 0, 0, []) else am_nop) else (bif Nat.beq pc 33 then (.aload_n 0, 0, 0, []) else am_nop)) else (bif Nat.beq pc 32 then (.ireturn, 0, 0, []) else am_nop))) else (bif Nat.ble 27 pc then (bif Nat.ble 28 pc then (bif Nat.ble 29 pc then (bif Nat.beq pc 29 then (.invokevirtual 134, 0, 0, []) else am_nop) else (bif Nat.beq pc 28 then (.iconst 2, 2, 0, []) else am_nop)) else (bif Nat.beq pc 27 then (.aload_n 0, 0, 0, []) else am_nop)) else (bif Nat.ble 21 pc then (bif Nat.ble 24 pc then (bif Nat.beq pc 24 then (.ifCond .ne 9, 0, 33, []) else am_nop) else (bif Nat.beq pc 21 then (.invokevirtual 60, 0, 0, []) else am_nop)) else (bif Nat.beq pc 20 then (.iload_n 1, 0, 1, []) else am_nop)))) else (bif Nat.ble 10 pc then (bif Nat.ble 15 pc then (bif Nat.ble 18 pc then (bif Nat.ble 19 pc then (bif Nat.beq pc 19 then (.aload_n 0, 0, 0, []) else am_nop) else (bif Nat.beq pc 18 then (.ireturn, 0, 0, []) else am_nop)) else (bif Nat.beq pc 15 then (.invokevirtual 134, 0, 0, []) else am_nop)) else (bif Nat.ble 13 pc then (bif Nat.ble 14 pc then (bif Nat.beq pc 14 then (.iconst 1, 1, 0, []) else am_nop) else (bif Nat.beq pc 13 then (.aload_n 0, 0, 0, []) else am_nop)) else (bif Nat.beq pc 10 then (.ifCond .ne 9, 0, 19, []) else am_nop))) else (bif Nat.ble 5 pc then (bif Nat.ble 6 pc then (bif Nat.ble 7 pc then (bif Nat.beq pc 7 then (.invokevirtual 148, 0, 0, []) else am_nop) else (bif Nat.beq pc 6 then (.iload_n 1, 0, 1, []) else am_nop)) else (bif Nat.beq pc 5 then (.aload_n 0, 0, 0, []) else am_nop)) else (bif Nat.ble 1 pc then (bif Nat.ble 2 pc then (bif Nat.beq pc 2 then (.putfield 38, 0, 0, []) else am_nop) else (bif Nat.beq pc 1 then (.iconst 0, 0, 0, []) else am_nop)) else (bif Nat.beq pc 0 then (.aload_n 0, 0, 0, []) else am_nop))))
theorem lk_M_160 : am_lnk RX6 160 (d_M_fails 16) := ⟨⟨by decide, by decide⟩, am_tb 8 (by decide +kernel) rfl, Or.inr ⟨by decide, rfl, am_tb 1063 (by decide +kernel) rfl, am_tp 87 (by decide +kernel) rfl, ⟨TX6, 16, rfl⟩, Or.inl (am_tb 1061 (by decide +kernel) rfl)⟩⟩
def m_M_fail : MI := (k_M_fail, [(38, 6, 8)], [(60, d_M_isRun 16), (134, d_M_refuses 16), (137, d_M_saves 16), (148, d_M_isTrip 16), (160, d_M_fails 16)], [], [], [], [], 4, 93, some .int, fun _ => 0, 1)
def v_M_fail (h : HP) (a1 : Int32) : Int32 × HP := (if (v_M_isTrip (am_si h 0 8 0) a1) = 0 then (bnd (v_M_refuses (am_si h 0 8 0) 1) fun y4 => (y4.1, y4.2)) else (if (v_M_isRun (am_si h 0 8 0) a1) = 0 then (bnd (v_M_refuses (am_si h 0 8 0) 2) fun y3 => (y3.1, y3.2)) else (bnd (v_M_saves (am_si h 0 8 0)) fun y1 => (bnd (v_M_fails y1 a1) fun y2 => (y2.1, y2.2)))))
def p_M_fail (h : HP) (a1 : Int32) : Prop := ((p_M_isTrip (am_si h 0 8 0) a1) ∧ (((v_M_isTrip (am_si h 0 8 0) a1) = 0 → True) ∧ (¬ (v_M_isTrip (am_si h 0 8 0) a1) = 0 → ((p_M_isRun (am_si h 0 8 0) a1) ∧ (((v_M_isRun (am_si h 0 8 0) a1) = 0 → True) ∧ (¬ (v_M_isRun (am_si h 0 8 0) a1) = 0 → ((p_M_saves (am_si h 0 8 0)) ∧ (∀ y1, v_M_saves (am_si h 0 8 0) = y1 → (p_M_fails y1 a1)))))))))
def g_M_fail (_ _ : List Sh) (as : List Value) (h : HP) : GR := match as with
  | [.ref o1, .int a1] => (Nat.beq o1 0, p_M_fail h a1, none, some (.int (v_M_fail h a1).1), (v_M_fail h a1).2)
  | _ => bad h
def d_M_fail (k : Nat) : CD := (k, yX6_fail, cX6_fail, 2, some .int, 2, 4, 93, 0, false, true, g_M_fail)
theorem chk_M_fail : ∀ pc, am_chk cX6_fail k_M_fail pc = true := am_chkall 43 (by decide +kernel) (fun pc h => by unfold k_M_fail; rw [Nat.ble_eq_true_of_le h]; rfl)
theorem pf_M_fail : plainFor yX6_fail = true := by decide +kernel
theorem cu_M_fail : Cond.code yX6_fail cX6_fail 2 (some .int) ∈ am_U := am_tb 1060 (by decide +kernel) rfl
set_option maxHeartbeats 20000000 in
set_option maxRecDepth 100000 in
theorem ev_M_fail {e1 ro : List Sh} {P : AR → HP → Prop} (h : HP) (a1 : Int32) (hp : p_M_fail h a1) (hP : ∀ q, v_M_fail h a1 = q → RIW P h q) : am_Ev m_M_fail (WM ++ e1) ro P (0, [.ref 0, .int a1], [], h) := by
  unfold p_M_fail at hp
  refine am_Ev_G [18, 32, 37] 400 _ ?_
  show ((p_M_isTrip (am_si h 0 8 0) a1) ∧ ((¬ (v_M_isTrip (am_si h 0 8 0) a1) = 0 → ((p_M_isRun (am_si h 0 8 0) a1) ∧ ((¬ (v_M_isRun (am_si h 0 8 0) a1) = 0 → ((p_M_saves (am_si h 0 8 0)) ∧ am_Ev m_M_fail (WM ++ e1) ro P (37, [.ref 0, .int a1], [], (v_M_saves (am_si h 0 8 0))))) ∧ ((v_M_isRun (am_si h 0 8 0) a1) = 0 → am_Ev m_M_fail (WM ++ e1) ro P (32, [.ref 0, .int a1], [.int ((v_M_refuses (am_si h 0 8 0) 2).1)], ((v_M_refuses (am_si h 0 8 0) 2).2)))))) ∧ ((v_M_isTrip (am_si h 0 8 0) a1) = 0 → am_Ev m_M_fail (WM ++ e1) ro P (18, [.ref 0, .int a1], [.int ((v_M_refuses (am_si h 0 8 0) 1).1)], ((v_M_refuses (am_si h 0 8 0) 1).2)))))
  obtain ⟨hob, hp⟩ := hp
  refine ⟨hob, ?_⟩
  refine ⟨fun c1 => ?_, fun c1 => ?_⟩
  · have hp := hp.2 c1
    obtain ⟨hob, hp⟩ := hp
    refine ⟨hob, ?_⟩
    refine ⟨fun c2 => ?_, fun c2 => ?_⟩
    · have hp := hp.2 c2
      obtain ⟨hob, hp⟩ := hp
      refine ⟨hob, ?_⟩
      obtain ⟨y1, c3⟩ : ∃ y, v_M_saves (am_si h 0 8 0) = y := ⟨_, rfl⟩
      rw [c3]
      have hp := hp _ c3
      show am_Ev m_M_fail (WM ++ e1) ro P (37, [.ref 0, .int a1], [], y1)
      refine am_Ev_G [42] 400 _ ?_
      show ((p_M_fails y1 a1) ∧ am_Ev m_M_fail (WM ++ e1) ro P (42, [.ref 0, .int a1], [.int ((v_M_fails y1 a1).1)], ((v_M_fails y1 a1).2)))
      refine ⟨hp, ?_⟩
      obtain ⟨y2, c4⟩ : ∃ y, v_M_fails y1 a1 = y := ⟨_, rfl⟩
      rw [c4]
      show am_Ev m_M_fail (WM ++ e1) ro P (42, [.ref 0, .int a1], [.int y2.1], y2.2)
      refine am_Ev_G [] 400 _ ?_
      show P (.inl (some (.int y2.1))) y2.2
      exact hP (y2.1, y2.2) (by unfold v_M_fail; simp only [if_neg c1, if_neg c2, bnd, c3, bnd, c4])
    · skip
      obtain ⟨y3, c5⟩ : ∃ y, v_M_refuses (am_si h 0 8 0) 2 = y := ⟨_, rfl⟩
      rw [c5]
      show am_Ev m_M_fail (WM ++ e1) ro P (32, [.ref 0, .int a1], [.int y3.1], y3.2)
      refine am_Ev_G [] 400 _ ?_
      show P (.inl (some (.int y3.1))) y3.2
      exact hP (y3.1, y3.2) (by unfold v_M_fail; simp only [if_neg c1, if_pos c2, bnd, c5])
  · skip
    obtain ⟨y4, c6⟩ : ∃ y, v_M_refuses (am_si h 0 8 0) 1 = y := ⟨_, rfl⟩
    rw [c6]
    show am_Ev m_M_fail (WM ++ e1) ro P (18, [.ref 0, .int a1], [.int y4.1], y4.2)
    refine am_Ev_G [] 400 _ ?_
    show P (.inl (some (.int y4.1))) y4.2
    exact hP (y4.1, y4.2) (by unfold v_M_fail; simp only [if_pos c1, bnd, c6])
theorem ok_M_fail {l : Launch} (hl : l.stackTraces = false) (e1 ro : List Sh) (k : Nat) : am_Ok l (WM ++ e1) ro (d_M_fail k) := by
  refine am_met hl (own := RX6) (M := m_M_fail) rfl pf_M_fail cu_M_fail rfl rfl rfl rfl (fun _ => rfl) rfl ⟨chk_M_fail, (am_c (fl_M_38) am_n), (am_c (lk_M_60) (am_c (lk_M_134) (am_c (lk_M_137) (am_c (lk_M_148) (am_c (lk_M_160) am_n))))), (am_n), (am_n)⟩ (am_n) (am_c (ok_M_isRun hl e1 _ 16) (am_c (ok_M_refuses hl e1 _ 16) (am_c (ok_M_saves hl e1 _ 16) (am_c (ok_M_isTrip hl e1 _ 16) (am_c (ok_M_fails hl e1 _ 16) am_n))))) (fun z => nomatch z) ?_ ?_
  · intro _ as h hg
    show g_thr (g_M_fail (WM ++ e1) ro as h) = none
    unfold g_M_fail
    split <;> rfl
  · intro as h hg hp
    revert hg hp
    show g_ok (g_M_fail (WM ++ e1) ro as h) = true → g_pre (g_M_fail (WM ++ e1) ro as h) → _ ∧ am_Ev m_M_fail (WM ++ e1) ro (am_eq (g_M_fail (WM ++ e1) ro as h)) (0, am_ent as 2, [], h)
    unfold g_M_fail
    split
    · rename_i o1 a1
      intro hc hp
      change (Nat.beq o1 0) = true at hc
      obtain rfl := am_beq hc
      exact ⟨Nat.le_of_ble_eq_true rfl, ev_M_fail h a1 hp eqRIW⟩
    · exact fun z => nomatch z
def k_M_append (pc : Nat) : Ent := bif Nat.ble 62 pc then am_nop else bif Nat.ble 32 pc then (bif Nat.ble 47 pc then (bif Nat.ble 53 pc then (bif Nat.ble 57 pc then (bif Nat.ble 58 pc then (bif Nat.ble 61 pc then (bif Nat.beq pc 61 then (.ireturn, 0, 0, []) else am_nop) else (bif Nat.beq pc 58 then (.getfield 163, 0, 0, []) else am_nop)) else (bif Nat.beq pc 57 then (.aload_n 0, 0, 0, []) else am_nop)) else (bif Nat.ble 54 pc then (bif Nat.beq pc 54 then (.putfield 163, 0, 0, []) else am_nop) else (bif Nat.beq pc 53 then (.iadd, 0, 0, []) else am_nop))) else (bif Nat.ble 49 pc then (bif Nat.ble 52 pc then (bif Nat.beq pc 52 then (.iconst 1, 1, 0, []) else am_nop) else (bif Nat.beq pc 49 then (.getfield 163, 0, 0, []) else am_nop)) else (bif Nat.ble 48 pc then (bif Nat.beq pc 48 then (.dup, 0, 0, []) else am_nop) else (bif Nat.beq pc 47 then (.aload_n 0, 0, 0, []) else am_nop)))) else (bif Nat.ble 38 pc then (bif Nat.ble 42 pc then (bif Nat.ble 45 pc then (bif Nat.ble 46 pc then (bif Nat.beq pc 46 then (.iastore, 0, 0, []) else am_nop) else (bif Nat.beq pc 45 then (.iload_n 1, 0, 1, []) else am_nop)) else (bif Nat.beq pc 42 then (.getfield 163, 0, 0, []) else am_nop)) else (bif Nat.ble 41 pc then (bif Nat.beq pc 41 then (.aload_n 0, 0, 0, []) else am_nop) else (bif Nat.beq pc 38 then (.getfield 26, 0, 0, []) else am_nop))) else (bif Nat.ble 36 pc then (bif Nat.ble 37 pc then (bif Nat.beq pc 37 then (.aload_n 0, 0, 0, []) else am_nop) else (bif Nat.beq pc 36 then (.ireturn, 0, 0, []) else am_nop)) else (bif Nat.ble 33 pc then (bif Nat.beq pc 33 then (.invokevirtual 134, 0, 0, []) else am_nop) else (bif Nat.beq pc 32 then (.iconst 2, 2, 0, []) else am_nop))))) else (bif Nat.ble 16 pc then (bif Nat.ble 22 pc then (bif Nat.ble 26 pc then (bif Nat.ble 28 pc then (bif Nat.ble 31 pc then (bif Nat.beq pc 31 then (.aload_n 0, 0, 0, []) else am_nop) else (bif Nat.beq pc 28 then (.if_icmp .ne 9, 0, 37, []) else am_nop)) else (bif Nat.beq pc 26 then (.bipush 60, 60, 0, []) else am_nop)) else (bif Nat.ble 23 pc then (bif Nat.beq pc 23 then (.getfield 163, 0, 0, []) else am_nop) else (bif Nat.beq pc 22 then (.aload_n 0, 0, 0, []) else am_nop))) else (bif Nat.ble 18 pc then (bif Nat.ble 21 pc then (bif Nat.beq pc 21 then (.ireturn, 0, 0, []) else am_nop) else (bif Nat.beq pc 18 then (.invokevirtual 134, 0, 0, []) else am_nop)) else (bif Nat.ble 17 pc then (bif Nat.beq pc 17 then (.iconst 1, 1, 0, []) else am_nop) else (bif Nat.beq pc 16 then (.aload_n 0, 0, 0, []) else am_nop)))) else (bif Nat.ble 6 pc then (bif Nat.ble 10 pc then (bif Nat.ble 13 pc then (bif Nat.beq pc 13 then (.ifCond .ne 9, 0, 22, []) else am_nop) else (bif Nat.beq pc 10 then (.invokestatic 127, 0, 0, []) else am_nop)) else (bif Nat.ble 8 pc then (bif Nat.beq pc 8 then (.bipush 126, 126, 0, []) else am_nop) else (bif Nat.beq pc 6 then (.bipush 33, 33, 0, []) else am_nop))) else (bif Nat.ble 2 pc then (bif Nat.ble 5 pc then (bif Nat.beq pc 5 then (.iload_n 1, 0, 1, []) else am_nop) else (bif Nat.beq pc 2 then (.putfield 38, 0, 0, []) else am_nop)) else (bif Nat.ble 1 pc then (bif Nat.beq pc 1 then (.iconst 0, 0, 0, []) else am_nop) else (bif Nat.beq pc 0 then (.aload_n 0, 0, 0, []) else am_nop)))))
theorem fl_M_26 : am_fok RX6 26 (6, 6) := ⟨RX6, TX6, 16, rfl, by decide, rfl, Or.inl (am_tb 890 (by decide +kernel) rfl)⟩
theorem fl_M_163 : am_fok RX6 163 (6, 7) := ⟨RX6, TX6, 16, rfl, by decide, rfl, Or.inl (am_tb 891 (by decide +kernel) rfl)⟩
def m_M_append : MI := (k_M_append, [(26, 6, 6), (38, 6, 8), (163, 6, 7)], [(127, d_M_in 0), (134, d_M_refuses 16)], [], [], [], [], 1, 22, some .int, fun _ => 0, 1)
def v_M_append (h : HP) (a1 : Int32) : Int32 × HP := (if (v_M_in (am_si h 0 8 0) a1 33 126) = 0 then (bnd (v_M_refuses (am_si h 0 8 0) 1) fun y2 => (y2.1, y2.2)) else (if (h.1 0 7) = 60 then (bnd (v_M_refuses (am_si h 0 8 0) 2) fun y1 => (y1.1, y1.2)) else (((h.1 0 7) + 1), (am_si (am_si (am_si h 0 8 0) 6 (am_ix (h.1 0 7)) a1) 0 7 ((h.1 0 7) + 1)))))
def p_M_append (h : HP) (a1 : Int32) : Prop := (((v_M_in (am_si h 0 8 0) a1 33 126) = 0 → True) ∧ (¬ (v_M_in (am_si h 0 8 0) a1 33 126) = 0 → (((h.1 0 7) = 60 → True) ∧ (¬ (h.1 0 7) = 60 → (am_in (h.1 0 7) 60)))))
def g_M_append (_ _ : List Sh) (as : List Value) (h : HP) : GR := match as with
  | [.ref o1, .int a1] => (Nat.beq o1 0, p_M_append h a1, none, some (.int (v_M_append h a1).1), (v_M_append h a1).2)
  | _ => bad h
def d_M_append (k : Nat) : CD := (k, yX6_append, cX6_append, 2, some .int, 2, 1, 22, 0, false, true, g_M_append)
theorem chk_M_append : ∀ pc, am_chk cX6_append k_M_append pc = true := am_chkall 62 (by decide +kernel) (fun pc h => by unfold k_M_append; rw [Nat.ble_eq_true_of_le h]; rfl)
theorem pf_M_append : plainFor yX6_append = true := by decide +kernel
theorem cu_M_append : Cond.code yX6_append cX6_append 2 (some .int) ∈ am_U := am_tb 1072 (by decide +kernel) rfl
set_option maxHeartbeats 20000000 in
set_option maxRecDepth 100000 in
theorem ev_M_append {e1 ro : List Sh} {P : AR → HP → Prop} (h : HP) (a1 : Int32) (hp : p_M_append h a1) (hP : ∀ q, v_M_append h a1 = q → RIW P h q) : am_Ev m_M_append (WM ++ e1) ro P (0, [.ref 0, .int a1], [], h) := by
  unfold p_M_append at hp
  refine am_Ev_G [13] 400 _ ?_
  show am_Ev m_M_append (WM ++ e1) ro P (13, [.ref 0, .int a1], [.int (v_M_in (am_si h 0 8 0) a1 33 126)], (am_si h 0 8 0))
  refine am_Ev_G [21, 36] 400 _ ?_
  show ((¬ (v_M_in (am_si h 0 8 0) a1 33 126) = 0 → ((¬ (h.1 0 7) = 60 → ((am_in (h.1 0 7) 60) ∧ P (.inl (some (.int ((h.1 0 7) + 1)))) (am_si (am_si (am_si h 0 8 0) 6 (am_ix (h.1 0 7)) a1) 0 7 ((h.1 0 7) + 1)))) ∧ ((h.1 0 7) = 60 → am_Ev m_M_append (WM ++ e1) ro P (36, [.ref 0, .int a1], [.int ((v_M_refuses (am_si h 0 8 0) 2).1)], ((v_M_refuses (am_si h 0 8 0) 2).2))))) ∧ ((v_M_in (am_si h 0 8 0) a1 33 126) = 0 → am_Ev m_M_append (WM ++ e1) ro P (21, [.ref 0, .int a1], [.int ((v_M_refuses (am_si h 0 8 0) 1).1)], ((v_M_refuses (am_si h 0 8 0) 1).2))))
  refine ⟨fun c1 => ?_, fun c1 => ?_⟩
  · have hp := hp.2 c1
    refine ⟨fun c2 => ?_, fun c2 => ?_⟩
    · have hp := hp.2 c2
      refine ⟨hp, ?_⟩
      exact hP (((h.1 0 7) + 1), (am_si (am_si (am_si h 0 8 0) 6 (am_ix (h.1 0 7)) a1) 0 7 ((h.1 0 7) + 1))) (by unfold v_M_append; simp only [if_neg c1, if_neg c2])
    · skip
      obtain ⟨y1, c3⟩ : ∃ y, v_M_refuses (am_si h 0 8 0) 2 = y := ⟨_, rfl⟩
      rw [c3]
      show am_Ev m_M_append (WM ++ e1) ro P (36, [.ref 0, .int a1], [.int y1.1], y1.2)
      refine am_Ev_G [] 400 _ ?_
      show P (.inl (some (.int y1.1))) y1.2
      exact hP (y1.1, y1.2) (by unfold v_M_append; simp only [if_neg c1, if_pos c2, bnd, c3])
  · skip
    obtain ⟨y2, c4⟩ : ∃ y, v_M_refuses (am_si h 0 8 0) 1 = y := ⟨_, rfl⟩
    rw [c4]
    show am_Ev m_M_append (WM ++ e1) ro P (21, [.ref 0, .int a1], [.int y2.1], y2.2)
    refine am_Ev_G [] 400 _ ?_
    show P (.inl (some (.int y2.1))) y2.2
    exact hP (y2.1, y2.2) (by unfold v_M_append; simp only [if_pos c1, bnd, c4])
theorem ok_M_append {l : Launch} (hl : l.stackTraces = false) (e1 ro : List Sh) (k : Nat) : am_Ok l (WM ++ e1) ro (d_M_append k) := by
  refine am_met hl (own := RX6) (M := m_M_append) rfl pf_M_append cu_M_append rfl rfl rfl rfl (fun _ => rfl) rfl ⟨chk_M_append, (am_c (fl_M_26) (am_c (fl_M_38) (am_c (fl_M_163) am_n))), (am_c (lk_M_127) (am_c (lk_M_134) am_n)), (am_n), (am_n)⟩ (am_n) (am_c (ok_M_in hl e1 _ 0) (am_c (ok_M_refuses hl e1 _ 16) am_n)) (fun z => nomatch z) ?_ ?_
  · intro _ as h hg
    show g_thr (g_M_append (WM ++ e1) ro as h) = none
    unfold g_M_append
    split <;> rfl
  · intro as h hg hp
    revert hg hp
    show g_ok (g_M_append (WM ++ e1) ro as h) = true → g_pre (g_M_append (WM ++ e1) ro as h) → _ ∧ am_Ev m_M_append (WM ++ e1) ro (am_eq (g_M_append (WM ++ e1) ro as h)) (0, am_ent as 2, [], h)
    unfold g_M_append
    split
    · rename_i o1 a1
      intro hc hp
      change (Nat.beq o1 0) = true at hc
      obtain rfl := am_beq hc
      exact ⟨Nat.le_of_ble_eq_true rfl, ev_M_append h a1 hp eqRIW⟩
    · exact fun z => nomatch z
def k_M_clearBuffer (pc : Nat) : Ent := bif Nat.ble 17 pc then am_nop else bif Nat.ble 9 pc then (bif Nat.ble 12 pc then (bif Nat.ble 15 pc then (bif Nat.ble 16 pc then (bif Nat.beq pc 16 then (.ireturn, 0, 0, []) else am_nop) else (bif Nat.beq pc 15 then (.iload_n 1, 0, 1, []) else am_nop)) else (bif Nat.beq pc 12 then (.putfield 163, 0, 0, []) else am_nop)) else (bif Nat.ble 10 pc then (bif Nat.ble 11 pc then (bif Nat.beq pc 11 then (.iconst 0, 0, 0, []) else am_nop) else (bif Nat.beq pc 10 then (.aload_n 0, 0, 0, []) else am_nop)) else (bif Nat.beq pc 9 then (.istore_n 1, 0, 1, []) else am_nop))) else (bif Nat.ble 2 pc then (bif Nat.ble 5 pc then (bif Nat.ble 6 pc then (bif Nat.beq pc 6 then (.getfield 163, 0, 0, []) else am_nop) else (bif Nat.beq pc 5 then (.aload_n 0, 0, 0, []) else am_nop)) else (bif Nat.beq pc 2 then (.putfield 38, 0, 0, []) else am_nop)) else (bif Nat.ble 1 pc then (bif Nat.beq pc 1 then (.iconst 0, 0, 0, []) else am_nop) else (bif Nat.beq pc 0 then (.aload_n 0, 0, 0, []) else am_nop)))
def m_M_clearBuffer : MI := (k_M_clearBuffer, [(38, 6, 8), (163, 6, 7)], [], [], [], [], [], 0, 0, some .int, fun _ => 0, 1)
def v_M_clearBuffer (h : HP) : Int32 × HP := (h.1 0 7, (am_si (am_si h 0 8 0) 0 7 0))
def g_M_clearBuffer (_ _ : List Sh) (as : List Value) (h : HP) : GR := match as with
  | [.ref o1] => (Nat.beq o1 0, True, none, some (.int (v_M_clearBuffer h).1), (v_M_clearBuffer h).2)
  | _ => bad h
def d_M_clearBuffer (k : Nat) : CD := (k, yX6_clearBuffer, cX6_clearBuffer, 2, some .int, 1, 0, 0, 0, false, false, g_M_clearBuffer)
theorem chk_M_clearBuffer : ∀ pc, am_chk cX6_clearBuffer k_M_clearBuffer pc = true := am_chkall 17 (by decide +kernel) (fun pc h => by unfold k_M_clearBuffer; rw [Nat.ble_eq_true_of_le h]; rfl)
theorem pf_M_clearBuffer : plainFor yX6_clearBuffer = true := by decide +kernel
theorem cu_M_clearBuffer : Cond.code yX6_clearBuffer cX6_clearBuffer 2 (some .int) ∈ am_U := am_tb 1076 (by decide +kernel) rfl
set_option maxHeartbeats 20000000 in
set_option maxRecDepth 100000 in
theorem ev_M_clearBuffer {e1 ro : List Sh} {P : AR → HP → Prop} (h : HP) (hP : ∀ q, v_M_clearBuffer h = q → RIW P h q) : am_Ev m_M_clearBuffer (WM ++ e1) ro P (0, [.ref 0, .retAddr 0], [], h) := by
  refine am_Ev_G [] 400 _ ?_
  show P (.inl (some (.int (h.1 0 7)))) (am_si (am_si h 0 8 0) 0 7 0)
  exact hP (h.1 0 7, (am_si (am_si h 0 8 0) 0 7 0)) rfl
theorem ok_M_clearBuffer {l : Launch} (hl : l.stackTraces = false) (e1 ro : List Sh) (k : Nat) : am_Ok l (WM ++ e1) ro (d_M_clearBuffer k) := by
  refine am_met hl (own := RX6) (M := m_M_clearBuffer) rfl pf_M_clearBuffer cu_M_clearBuffer rfl rfl rfl rfl (fun _ => rfl) rfl ⟨chk_M_clearBuffer, (am_c (fl_M_38) (am_c (fl_M_163) am_n)), (am_n), (am_n), (am_n)⟩ (am_n) (am_n) ?_ ?_ ?_
  · intro _ as h hg
    show g_pre (g_M_clearBuffer (WM ++ e1) ro as h)
    unfold g_M_clearBuffer
    split <;> exact trivial
  · intro _ as h hg
    show g_thr (g_M_clearBuffer (WM ++ e1) ro as h) = none
    unfold g_M_clearBuffer
    split <;> rfl
  · intro as h hg hp
    revert hg hp
    show g_ok (g_M_clearBuffer (WM ++ e1) ro as h) = true → g_pre (g_M_clearBuffer (WM ++ e1) ro as h) → _ ∧ am_Ev m_M_clearBuffer (WM ++ e1) ro (am_eq (g_M_clearBuffer (WM ++ e1) ro as h)) (0, am_ent as 2, [], h)
    unfold g_M_clearBuffer
    split
    · rename_i o1
      intro hc hp
      change (Nat.beq o1 0) = true at hc
      obtain rfl := am_beq hc
      exact ⟨Nat.le_of_ble_eq_true rfl, ev_M_clearBuffer h eqRIW⟩
    · exact fun z => nomatch z
def k_M_sees (pc : Nat) : Ent := bif Nat.ble 34 pc then am_nop else bif Nat.ble 19 pc then (bif Nat.ble 25 pc then (bif Nat.ble 29 pc then (bif Nat.ble 32 pc then (bif Nat.ble 33 pc then (bif Nat.beq pc 33 then (.ireturn, 0, 0, []) else am_nop) else (bif Nat.beq pc 32 then (.iconst 0, 0, 0, []) else am_nop)) else (bif Nat.beq pc 29 then (.goto 4, 0, 33, []) else am_nop)) else (bif Nat.ble 28 pc then (bif Nat.beq pc 28 then (.iconst 1, 1, 0, []) else am_nop) else (bif Nat.beq pc 25 then (.ifCond .eq 7, 0, 32, []) else am_nop))) else (bif Nat.ble 21 pc then (bif Nat.ble 22 pc then (bif Nat.beq pc 22 then (.invokestatic 127, 0, 0, []) else am_nop) else (bif Nat.beq pc 21 then (.iload_n 2, 0, 2, []) else am_nop)) else (bif Nat.ble 20 pc then (bif Nat.beq pc 20 then (.iload_n 1, 0, 1, []) else am_nop) else (bif Nat.beq pc 19 then (.iaload, 0, 0, []) else am_nop)))) else (bif Nat.ble 8 pc then (bif Nat.ble 12 pc then (bif Nat.ble 15 pc then (bif Nat.ble 16 pc then (bif Nat.beq pc 16 then (.getfield 166, 0, 0, []) else am_nop) else (bif Nat.beq pc 15 then (.aload_n 0, 0, 0, []) else am_nop)) else (bif Nat.beq pc 12 then (.getfield 26, 0, 0, []) else am_nop)) else (bif Nat.ble 11 pc then (bif Nat.beq pc 11 then (.aload_n 0, 0, 0, []) else am_nop) else (bif Nat.beq pc 8 then (.if_icmp .ge 24, 0, 32, []) else am_nop))) else (bif Nat.ble 4 pc then (bif Nat.ble 5 pc then (bif Nat.beq pc 5 then (.getfield 163, 0, 0, []) else am_nop) else (bif Nat.beq pc 4 then (.aload_n 0, 0, 0, []) else am_nop)) else (bif Nat.ble 1 pc then (bif Nat.beq pc 1 then (.getfield 166, 0, 0, []) else am_nop) else (bif Nat.beq pc 0 then (.aload_n 0, 0, 0, []) else am_nop))))
theorem fl_M_166 : am_fok RX6 166 (6, 12) := ⟨RX6, TX6, 16, rfl, by decide, rfl, Or.inl (am_tb 896 (by decide +kernel) rfl)⟩
def m_M_sees : MI := (k_M_sees, [(26, 6, 6), (163, 6, 7), (166, 6, 12)], [(127, d_M_in 0)], [], [], [], [], 1, 22, some .boolean, fun _ => 0, 1)
def v_M_sees (h : HP) (a1 : Int32) (a2 : Int32) : Int32 := (if (h.1 0 12) < (h.1 0 7) then (if (v_M_in h (h.1 6 (am_ix (h.1 0 12))) a1 a2) = 0 then (0 : Int32) else 1) else 0)
def p_M_sees (h : HP) (a1 : Int32) (a2 : Int32) : Prop := (((h.1 0 12) < (h.1 0 7) → (am_in (h.1 0 12) 60)) ∧ (¬ (h.1 0 12) < (h.1 0 7) → True))
def g_M_sees (_ _ : List Sh) (as : List Value) (h : HP) : GR := match as with
  | [.ref o1, .int a1, .int a2] => (Nat.beq o1 0, p_M_sees h a1 a2, none, some (.int (v_M_sees h a1 a2)), h)
  | _ => bad h
def d_M_sees (k : Nat) : CD := (k, yX6_sees, cX6_sees, 3, some .boolean, 3, 1, 22, 0, false, true, g_M_sees)
theorem chk_M_sees : ∀ pc, am_chk cX6_sees k_M_sees pc = true := am_chkall 34 (by decide +kernel) (fun pc h => by unfold k_M_sees; rw [Nat.ble_eq_true_of_le h]; rfl)
theorem pf_M_sees : plainFor yX6_sees = true := by decide +kernel
theorem cu_M_sees : Cond.code yX6_sees cX6_sees 3 (some .boolean) ∈ am_U := am_tb 1096 (by decide +kernel) rfl
set_option maxHeartbeats 20000000 in
set_option maxRecDepth 100000 in
theorem ev_M_sees {e1 ro : List Sh} {P : AR → HP → Prop} (h : HP) (a1 : Int32) (a2 : Int32) (hp : p_M_sees h a1 a2) (hP : ∀ q, v_M_sees h a1 a2 = q → RI P h q) : am_Ev m_M_sees (WM ++ e1) ro P (0, [.ref 0, .int a1, .int a2], [], h) := by
  unfold p_M_sees at hp
  refine am_Ev_G [8] 400 _ ?_
  show am_Ev m_M_sees (WM ++ e1) ro P (8, [.ref 0, .int a1, .int a2], [.int (h.1 0 7), .int (h.1 0 12)], h)
  have hpa := hp
  have key1 : am_Ev m_M_sees (WM ++ e1) ro P (33, [.ref 0, .int a1, .int a2], [.int (if (h.1 0 12) < (h.1 0 7) then (if (v_M_in h (h.1 6 (am_ix (h.1 0 12))) a1 a2) = 0 then (0 : Int32) else 1) else 0)], h) := by
    refine am_Ev_G [] 400 _ ?_
    show (((((if (h.1 0 12) < (h.1 0 7) then (if (v_M_in h (h.1 6 (am_ix (h.1 0 12))) a1 a2) = 0 then (0 : Int32) else 1) else 0) : Int32) = 0 ∨ ((if (h.1 0 12) < (h.1 0 7) then (if (v_M_in h (h.1 6 (am_ix (h.1 0 12))) a1 a2) = 0 then (0 : Int32) else 1) else 0) : Int32) = 1)) ∧ P (.inl (some (.int (if (h.1 0 12) < (h.1 0 7) then (if (v_M_in h (h.1 6 (am_ix (h.1 0 12))) a1 a2) = 0 then (0 : Int32) else 1) else 0)))) h)
    refine ⟨(by (repeat' split) <;> decide), ?_⟩
    exact hP (if (h.1 0 12) < (h.1 0 7) then (if (v_M_in h (h.1 6 (am_ix (h.1 0 12))) a1 a2) = 0 then (0 : Int32) else 1) else 0) rfl
  have hp := hpa
  refine am_Ev_G [33] 400 _ ?_
  show ((¬ (h.1 0 12) < (h.1 0 7) → am_Ev m_M_sees (WM ++ e1) ro P (33, [.ref 0, .int a1, .int a2], [.int 0], h)) ∧ ((h.1 0 12) < (h.1 0 7) → ((am_in (h.1 0 12) 60) ∧ (((v_M_in h (h.1 6 (am_ix (h.1 0 12))) a1 a2) = 0 → am_Ev m_M_sees (WM ++ e1) ro P (33, [.ref 0, .int a1, .int a2], [.int 0], h)) ∧ (¬ (v_M_in h (h.1 6 (am_ix (h.1 0 12))) a1 a2) = 0 → am_Ev m_M_sees (WM ++ e1) ro P (33, [.ref 0, .int a1, .int a2], [.int 1], h))))))
  refine ⟨fun c2 => ?_, fun c2 => ?_⟩
  · skip
    simpa only [if_neg c2] using key1
  · have hp := hp.1 c2
    refine ⟨hp, ?_⟩
    refine ⟨fun c3 => ?_, fun c3 => ?_⟩
    · skip
      simpa only [if_pos c2, if_pos c3] using key1
    · skip
      simpa only [if_pos c2, if_neg c3] using key1
theorem ok_M_sees {l : Launch} (hl : l.stackTraces = false) (e1 ro : List Sh) (k : Nat) : am_Ok l (WM ++ e1) ro (d_M_sees k) := by
  refine am_met hl (own := RX6) (M := m_M_sees) rfl pf_M_sees cu_M_sees rfl rfl rfl rfl (fun _ => rfl) rfl ⟨chk_M_sees, (am_c (fl_M_26) (am_c (fl_M_163) (am_c (fl_M_166) am_n))), (am_c (lk_M_127) am_n), (am_n), (am_n)⟩ (am_n) (am_c (ok_M_in hl e1 _ 0) am_n) (fun z => nomatch z) ?_ ?_
  · intro _ as h hg
    show g_thr (g_M_sees (WM ++ e1) ro as h) = none
    unfold g_M_sees
    split <;> rfl
  · intro as h hg hp
    revert hg hp
    show g_ok (g_M_sees (WM ++ e1) ro as h) = true → g_pre (g_M_sees (WM ++ e1) ro as h) → _ ∧ am_Ev m_M_sees (WM ++ e1) ro (am_eq (g_M_sees (WM ++ e1) ro as h)) (0, am_ent as 3, [], h)
    unfold g_M_sees
    split
    · rename_i o1 a1 a2
      intro hc hp
      change (Nat.beq o1 0) = true at hc
      obtain rfl := am_beq hc
      exact ⟨Nat.le_of_ble_eq_true rfl, ev_M_sees h a1 a2 hp eqRI⟩
    · exact fun z => nomatch z
def k_M_takes (pc : Nat) : Ent := bif Nat.ble 27 pc then am_nop else bif Nat.ble 12 pc then (bif Nat.ble 20 pc then (bif Nat.ble 22 pc then (bif Nat.ble 25 pc then (bif Nat.ble 26 pc then (bif Nat.beq pc 26 then (.ireturn, 0, 0, []) else am_nop) else (bif Nat.beq pc 25 then (.iload_n 2, 0, 2, []) else am_nop)) else (bif Nat.beq pc 22 then (.putfield 166, 0, 0, []) else am_nop)) else (bif Nat.ble 21 pc then (bif Nat.beq pc 21 then (.iadd, 0, 0, []) else am_nop) else (bif Nat.beq pc 20 then (.iconst 0, 0, 0, []) else am_nop))) else (bif Nat.ble 16 pc then (bif Nat.ble 17 pc then (bif Nat.beq pc 17 then (.goto 4, 0, 21, []) else am_nop) else (bif Nat.beq pc 16 then (.iconst 1, 1, 0, []) else am_nop)) else (bif Nat.ble 13 pc then (bif Nat.beq pc 13 then (.ifCond .eq 7, 0, 20, []) else am_nop) else (bif Nat.beq pc 12 then (.iload_n 2, 0, 2, []) else am_nop)))) else (bif Nat.ble 6 pc then (bif Nat.ble 8 pc then (bif Nat.ble 9 pc then (bif Nat.beq pc 9 then (.getfield 166, 0, 0, []) else am_nop) else (bif Nat.beq pc 8 then (.dup, 0, 0, []) else am_nop)) else (bif Nat.ble 7 pc then (bif Nat.beq pc 7 then (.aload_n 0, 0, 0, []) else am_nop) else (bif Nat.beq pc 6 then (.istore_n 2, 0, 2, []) else am_nop))) else (bif Nat.ble 2 pc then (bif Nat.ble 3 pc then (bif Nat.beq pc 3 then (.invokevirtual 169, 0, 0, []) else am_nop) else (bif Nat.beq pc 2 then (.iload_n 1, 0, 1, []) else am_nop)) else (bif Nat.ble 1 pc then (bif Nat.beq pc 1 then (.iload_n 1, 0, 1, []) else am_nop) else (bif Nat.beq pc 0 then (.aload_n 0, 0, 0, []) else am_nop))))
theorem lk_M_169 : am_lnk RX6 169 (d_M_sees 16) := ⟨⟨by decide, by decide⟩, am_tb 8 (by decide +kernel) rfl, Or.inr ⟨by decide, rfl, am_tb 1095 (by decide +kernel) rfl, am_tp 92 (by decide +kernel) rfl, ⟨TX6, 16, rfl⟩, Or.inl (am_tb 1093 (by decide +kernel) rfl)⟩⟩
def m_M_takes : MI := (k_M_takes, [(166, 6, 12)], [(169, d_M_sees 16)], [], [], [], [], 2, 44, some .boolean, fun _ => 0, 1)
def v_M_takes (h : HP) (a1 : Int32) : Int32 × HP := ((v_M_sees h a1 a1), (am_si h 0 12 ((h.1 0 12) + (if (v_M_sees h a1 a1) = 0 then (0 : Int32) else 1))))
def p_M_takes (h : HP) (a1 : Int32) : Prop := ((p_M_sees h a1 a1) ∧ ((((v_M_sees h a1 a1) : Int32) = 0 ∨ ((v_M_sees h a1 a1) : Int32) = 1)))
def g_M_takes (_ _ : List Sh) (as : List Value) (h : HP) : GR := match as with
  | [.ref o1, .int a1] => (Nat.beq o1 0, p_M_takes h a1, none, some (.int (v_M_takes h a1).1), (v_M_takes h a1).2)
  | _ => bad h
def d_M_takes (k : Nat) : CD := (k, yX6_takes, cX6_takes, 3, some .boolean, 2, 2, 44, 0, false, true, g_M_takes)
theorem chk_M_takes : ∀ pc, am_chk cX6_takes k_M_takes pc = true := am_chkall 27 (by decide +kernel) (fun pc h => by unfold k_M_takes; rw [Nat.ble_eq_true_of_le h]; rfl)
theorem pf_M_takes : plainFor yX6_takes = true := by decide +kernel
theorem cu_M_takes : Cond.code yX6_takes cX6_takes 3 (some .boolean) ∈ am_U := am_tb 1100 (by decide +kernel) rfl
set_option maxHeartbeats 20000000 in
set_option maxRecDepth 100000 in
theorem ev_M_takes {e1 ro : List Sh} {P : AR → HP → Prop} (h : HP) (a1 : Int32) (hp : p_M_takes h a1) (hP : ∀ q, v_M_takes h a1 = q → RIW P h q) : am_Ev m_M_takes (WM ++ e1) ro P (0, [.ref 0, .int a1, .retAddr 0], [], h) := by
  unfold p_M_takes at hp
  refine am_Ev_G [13] 400 _ ?_
  show ((p_M_sees h a1 a1) ∧ am_Ev m_M_takes (WM ++ e1) ro P (13, [.ref 0, .int a1, .int (v_M_sees h a1 a1)], [.int (v_M_sees h a1 a1), .int (h.1 0 12), .ref 0], h))
  obtain ⟨hob, hp⟩ := hp
  refine ⟨hob, ?_⟩
  have key1 : am_Ev m_M_takes (WM ++ e1) ro P (21, [.ref 0, .int a1, .int (v_M_sees h a1 a1)], [.int (if (v_M_sees h a1 a1) = 0 then (0 : Int32) else 1), .int (h.1 0 12), .ref 0], h) := by
    refine am_Ev_G [25] 400 _ ?_
    show am_Ev m_M_takes (WM ++ e1) ro P (25, [.ref 0, .int a1, .int (v_M_sees h a1 a1)], [], (am_si h 0 12 ((h.1 0 12) + (if (v_M_sees h a1 a1) = 0 then (0 : Int32) else 1))))
    refine am_Ev_G [] 400 _ ?_
    show (((((v_M_sees h a1 a1) : Int32) = 0 ∨ ((v_M_sees h a1 a1) : Int32) = 1)) ∧ P (.inl (some (.int (v_M_sees h a1 a1)))) (am_si h 0 12 ((h.1 0 12) + (if (v_M_sees h a1 a1) = 0 then (0 : Int32) else 1))))
    refine ⟨hp, ?_⟩
    exact hP ((v_M_sees h a1 a1), (am_si h 0 12 ((h.1 0 12) + (if (v_M_sees h a1 a1) = 0 then (0 : Int32) else 1)))) rfl
  refine am_Ev_G [21] 400 _ ?_
  show (((v_M_sees h a1 a1) = 0 → am_Ev m_M_takes (WM ++ e1) ro P (21, [.ref 0, .int a1, .int (v_M_sees h a1 a1)], [.int 0, .int (h.1 0 12), .ref 0], h)) ∧ (¬ (v_M_sees h a1 a1) = 0 → am_Ev m_M_takes (WM ++ e1) ro P (21, [.ref 0, .int a1, .int (v_M_sees h a1 a1)], [.int 1, .int (h.1 0 12), .ref 0], h)))
  refine ⟨fun c2 => ?_, fun c2 => ?_⟩
  · skip
    simpa only [if_pos c2] using key1
  · skip
    simpa only [if_neg c2] using key1
theorem ok_M_takes {l : Launch} (hl : l.stackTraces = false) (e1 ro : List Sh) (k : Nat) : am_Ok l (WM ++ e1) ro (d_M_takes k) := by
  refine am_met hl (own := RX6) (M := m_M_takes) rfl pf_M_takes cu_M_takes rfl rfl rfl rfl (fun _ => rfl) rfl ⟨chk_M_takes, (am_c (fl_M_166) am_n), (am_c (lk_M_169) am_n), (am_n), (am_n)⟩ (am_n) (am_c (ok_M_sees hl e1 _ 16) am_n) (fun z => nomatch z) ?_ ?_
  · intro _ as h hg
    show g_thr (g_M_takes (WM ++ e1) ro as h) = none
    unfold g_M_takes
    split <;> rfl
  · intro as h hg hp
    revert hg hp
    show g_ok (g_M_takes (WM ++ e1) ro as h) = true → g_pre (g_M_takes (WM ++ e1) ro as h) → _ ∧ am_Ev m_M_takes (WM ++ e1) ro (am_eq (g_M_takes (WM ++ e1) ro as h)) (0, am_ent as 3, [], h)
    unfold g_M_takes
    split
    · rename_i o1 a1
      intro hc hp
      change (Nat.beq o1 0) = true at hc
      obtain rfl := am_beq hc
      exact ⟨Nat.le_of_ble_eq_true rfl, ev_M_takes h a1 hp eqRIW⟩
    · exact fun z => nomatch z
def k_M_isDigit (pc : Nat) : Ent := bif Nat.ble 50 pc then am_nop else bif Nat.ble 25 pc then (bif Nat.ble 38 pc then (bif Nat.ble 44 pc then (bif Nat.ble 48 pc then (bif Nat.ble 49 pc then (bif Nat.beq pc 49 then (.ireturn, 0, 0, []) else am_nop) else (bif Nat.beq pc 48 then (.iconst 1, 1, 0, []) else am_nop)) else (bif Nat.ble 45 pc then (bif Nat.beq pc 45 then (.putfield 166, 0, 0, []) else am_nop) else (bif Nat.beq pc 44 then (.iadd, 0, 0, []) else am_nop))) else (bif Nat.ble 40 pc then (bif Nat.ble 43 pc then (bif Nat.beq pc 43 then (.iconst 1, 1, 0, []) else am_nop) else (bif Nat.beq pc 40 then (.getfield 166, 0, 0, []) else am_nop)) else (bif Nat.ble 39 pc then (bif Nat.beq pc 39 then (.dup, 0, 0, []) else am_nop) else (bif Nat.beq pc 38 then (.aload_n 0, 0, 0, []) else am_nop)))) else (bif Nat.ble 33 pc then (bif Nat.ble 36 pc then (bif Nat.ble 37 pc then (bif Nat.beq pc 37 then (.iastore, 0, 0, []) else am_nop) else (bif Nat.beq pc 36 then (.isub, 0, 0, []) else am_nop)) else (bif Nat.ble 34 pc then (bif Nat.beq pc 34 then (.bipush 48, 48, 0, []) else am_nop) else (bif Nat.beq pc 33 then (.iaload, 0, 0, []) else am_nop))) else (bif Nat.ble 29 pc then (bif Nat.ble 30 pc then (bif Nat.beq pc 30 then (.getfield 166, 0, 0, []) else am_nop) else (bif Nat.beq pc 29 then (.aload_n 0, 0, 0, []) else am_nop)) else (bif Nat.ble 26 pc then (bif Nat.beq pc 26 then (.getfield 26, 0, 0, []) else am_nop) else (bif Nat.beq pc 25 then (.aload_n 0, 0, 0, []) else am_nop))))) else (bif Nat.ble 13 pc then (bif Nat.ble 19 pc then (bif Nat.ble 23 pc then (bif Nat.ble 24 pc then (bif Nat.beq pc 24 then (.iadd, 0, 0, []) else am_nop) else (bif Nat.beq pc 23 then (.iload_n 1, 0, 1, []) else am_nop)) else (bif Nat.ble 22 pc then (bif Nat.beq pc 22 then (.imul, 0, 0, []) else am_nop) else (bif Nat.beq pc 19 then (.getfield 172, 0, 0, []) else am_nop))) else (bif Nat.ble 17 pc then (bif Nat.ble 18 pc then (bif Nat.beq pc 18 then (.aload_n 0, 0, 0, []) else am_nop) else (bif Nat.beq pc 17 then (.iconst 5, 5, 0, []) else am_nop)) else (bif Nat.ble 14 pc then (bif Nat.beq pc 14 then (.getfield 35, 0, 0, []) else am_nop) else (bif Nat.beq pc 13 then (.aload_n 0, 0, 0, []) else am_nop)))) else (bif Nat.ble 5 pc then (bif Nat.ble 11 pc then (bif Nat.ble 12 pc then (bif Nat.beq pc 12 then (.ireturn, 0, 0, []) else am_nop) else (bif Nat.beq pc 11 then (.iconst 0, 0, 0, []) else am_nop)) else (bif Nat.ble 8 pc then (bif Nat.beq pc 8 then (.ifCond .ne 5, 0, 13, []) else am_nop) else (bif Nat.beq pc 5 then (.invokevirtual 169, 0, 0, []) else am_nop))) else (bif Nat.ble 1 pc then (bif Nat.ble 3 pc then (bif Nat.beq pc 3 then (.bipush 51, 51, 0, []) else am_nop) else (bif Nat.beq pc 1 then (.bipush 48, 48, 0, []) else am_nop)) else (bif Nat.beq pc 0 then (.aload_n 0, 0, 0, []) else am_nop))))
theorem fl_M_35 : am_fok RX6 35 (6, 13) := ⟨RX6, TX6, 16, rfl, by decide, rfl, Or.inl (am_tb 897 (by decide +kernel) rfl)⟩
theorem fl_M_172 : am_fok RX6 172 (6, 14) := ⟨RX6, TX6, 16, rfl, by decide, rfl, Or.inl (am_tb 898 (by decide +kernel) rfl)⟩
def m_M_isDigit : MI := (k_M_isDigit, [(26, 6, 6), (35, 6, 13), (166, 6, 12), (172, 6, 14)], [(169, d_M_sees 16)], [], [], [], [], 2, 44, some .boolean, fun _ => 0, 1)
def v_M_isDigit (h : HP) (a1 : Int32) : Int32 × HP := (if (v_M_sees h 48 51) = 0 then (0, h) else (1, (am_si (am_si h 9 (am_ix ((5 * (h.1 0 14)) + a1)) ((h.1 6 (am_ix (h.1 0 12))) - 48)) 0 12 ((h.1 0 12) + 1))))
def p_M_isDigit (h : HP) (a1 : Int32) : Prop := ((p_M_sees h 48 51) ∧ (((v_M_sees h 48 51) = 0 → True) ∧ (¬ (v_M_sees h 48 51) = 0 → ((am_in (h.1 0 12) 60) ∧ (am_in ((5 * (h.1 0 14)) + a1) 40)))))
def g_M_isDigit (_ _ : List Sh) (as : List Value) (h : HP) : GR := match as with
  | [.ref o1, .int a1] => (Nat.beq o1 0, p_M_isDigit h a1, none, some (.int (v_M_isDigit h a1).1), (v_M_isDigit h a1).2)
  | _ => bad h
def d_M_isDigit (k : Nat) : CD := (k, yX6_isDigit, cX6_isDigit, 2, some .boolean, 2, 2, 44, 0, false, true, g_M_isDigit)
theorem chk_M_isDigit : ∀ pc, am_chk cX6_isDigit k_M_isDigit pc = true := am_chkall 50 (by decide +kernel) (fun pc h => by unfold k_M_isDigit; rw [Nat.ble_eq_true_of_le h]; rfl)
theorem pf_M_isDigit : plainFor yX6_isDigit = true := by decide +kernel
theorem cu_M_isDigit : Cond.code yX6_isDigit cX6_isDigit 2 (some .boolean) ∈ am_U := am_tb 1092 (by decide +kernel) rfl
set_option maxHeartbeats 20000000 in
set_option maxRecDepth 100000 in
theorem ev_M_isDigit {e1 ro : List Sh} {P : AR → HP → Prop} (h : HP) (a1 : Int32) (hp : p_M_isDigit h a1) (hP : ∀ q, v_M_isDigit h a1 = q → RIW P h q) : am_Ev m_M_isDigit (WM ++ e1) ro P (0, [.ref 0, .int a1], [], h) := by
  unfold p_M_isDigit at hp
  refine am_Ev_G [25] 400 _ ?_
  show ((p_M_sees h 48 51) ∧ ((¬ (v_M_sees h 48 51) = 0 → am_Ev m_M_isDigit (WM ++ e1) ro P (25, [.ref 0, .int a1], [.int ((5 * (h.1 0 14)) + a1), .ref 9], h)) ∧ ((v_M_sees h 48 51) = 0 → ((((0 : Int32) = 0 ∨ (0 : Int32) = 1)) ∧ P (.inl (some (.int 0))) h))))
  obtain ⟨hob, hp⟩ := hp
  refine ⟨hob, ?_⟩
  refine ⟨fun c1 => ?_, fun c1 => ?_⟩
  · have hp := hp.2 c1
    refine am_Ev_G [] 400 _ ?_
    show ((am_in (h.1 0 12) 60) ∧ ((am_in ((5 * (h.1 0 14)) + a1) 40) ∧ ((((1 : Int32) = 0 ∨ (1 : Int32) = 1)) ∧ P (.inl (some (.int 1))) (am_si (am_si h 9 (am_ix ((5 * (h.1 0 14)) + a1)) ((h.1 6 (am_ix (h.1 0 12))) - 48)) 0 12 ((h.1 0 12) + 1)))))
    obtain ⟨hob, hp⟩ := hp
    refine ⟨hob, ?_⟩
    refine ⟨hp, ?_⟩
    refine ⟨(by decide), ?_⟩
    exact hP (1, (am_si (am_si h 9 (am_ix ((5 * (h.1 0 14)) + a1)) ((h.1 6 (am_ix (h.1 0 12))) - 48)) 0 12 ((h.1 0 12) + 1))) (by unfold v_M_isDigit; simp only [if_neg c1])
  · skip
    refine ⟨(by decide), ?_⟩
    exact hP (0, h) (by unfold v_M_isDigit; simp only [if_pos c1])
theorem ok_M_isDigit {l : Launch} (hl : l.stackTraces = false) (e1 ro : List Sh) (k : Nat) : am_Ok l (WM ++ e1) ro (d_M_isDigit k) := by
  refine am_met hl (own := RX6) (M := m_M_isDigit) rfl pf_M_isDigit cu_M_isDigit rfl rfl rfl rfl (fun _ => rfl) rfl ⟨chk_M_isDigit, (am_c (fl_M_26) (am_c (fl_M_35) (am_c (fl_M_166) (am_c (fl_M_172) am_n)))), (am_c (lk_M_169) am_n), (am_n), (am_n)⟩ (am_n) (am_c (ok_M_sees hl e1 _ 16) am_n) (fun z => nomatch z) ?_ ?_
  · intro _ as h hg
    show g_thr (g_M_isDigit (WM ++ e1) ro as h) = none
    unfold g_M_isDigit
    split <;> rfl
  · intro as h hg hp
    revert hg hp
    show g_ok (g_M_isDigit (WM ++ e1) ro as h) = true → g_pre (g_M_isDigit (WM ++ e1) ro as h) → _ ∧ am_Ev m_M_isDigit (WM ++ e1) ro (am_eq (g_M_isDigit (WM ++ e1) ro as h)) (0, am_ent as 2, [], h)
    unfold g_M_isDigit
    split
    · rename_i o1 a1
      intro hc hp
      change (Nat.beq o1 0) = true at hc
      obtain rfl := am_beq hc
      exact ⟨Nat.le_of_ble_eq_true rfl, ev_M_isDigit h a1 hp eqRIW⟩
    · exact fun z => nomatch z
def k_M_isNumber (pc : Nat) : Ent := bif Nat.ble 127 pc then am_nop else bif Nat.ble 68 pc then (bif Nat.ble 97 pc then (bif Nat.ble 114 pc then (bif Nat.ble 121 pc then (bif Nat.ble 124 pc then (bif Nat.ble 125 pc then (bif Nat.ble 126 pc then (bif Nat.beq pc 126 then (.ireturn, 0, 0, []) else am_nop) else (bif Nat.beq pc 125 then (.iconst 1, 1, 0, []) else am_nop)) else (bif Nat.beq pc 124 then (.iastore, 0, 0, []) else am_nop)) else (bif Nat.ble 122 pc then (bif Nat.beq pc 122 then (.iload 4, 0, 4, []) else am_nop) else (bif Nat.beq pc 121 then (.iadd, 0, 0, []) else am_nop))) else (bif Nat.ble 116 pc then (bif Nat.ble 119 pc then (bif Nat.ble 120 pc then (bif Nat.beq pc 120 then (.iload_n 1, 0, 1, []) else am_nop) else (bif Nat.beq pc 119 then (.imul, 0, 0, []) else am_nop)) else (bif Nat.beq pc 116 then (.getfield 172, 0, 0, []) else am_nop)) else (bif Nat.ble 115 pc then (bif Nat.beq pc 115 then (.aload_n 0, 0, 0, []) else am_nop) else (bif Nat.beq pc 114 then (.iconst 5, 5, 0, []) else am_nop)))) else (bif Nat.ble 103 pc then (bif Nat.ble 107 pc then (bif Nat.ble 110 pc then (bif Nat.ble 111 pc then (bif Nat.beq pc 111 then (.getfield 35, 0, 0, []) else am_nop) else (bif Nat.beq pc 110 then (.aload_n 0, 0, 0, []) else am_nop)) else (bif Nat.beq pc 107 then (.goto (-68), 0, 39, []) else am_nop)) else (bif Nat.ble 104 pc then (bif Nat.beq pc 104 then (.putfield 166, 0, 0, []) else am_nop) else (bif Nat.beq pc 103 then (.iadd, 0, 0, []) else am_nop))) else (bif Nat.ble 99 pc then (bif Nat.ble 102 pc then (bif Nat.beq pc 102 then (.iconst 1, 1, 0, []) else am_nop) else (bif Nat.beq pc 99 then (.getfield 166, 0, 0, []) else am_nop)) else (bif Nat.ble 98 pc then (bif Nat.beq pc 98 then (.dup, 0, 0, []) else am_nop) else (bif Nat.beq pc 97 then (.aload_n 0, 0, 0, []) else am_nop))))) else (bif Nat.ble 82 pc then (bif Nat.ble 90 pc then (bif Nat.ble 92 pc then (bif Nat.ble 94 pc then (bif Nat.ble 95 pc then (bif Nat.beq pc 95 then (.istore 4, 0, 4, []) else am_nop) else (bif Nat.beq pc 94 then (.isub, 0, 0, []) else am_nop)) else (bif Nat.beq pc 92 then (.bipush 48, 48, 0, []) else am_nop)) else (bif Nat.ble 91 pc then (bif Nat.beq pc 91 then (.iadd, 0, 0, []) else am_nop) else (bif Nat.beq pc 90 then (.iaload, 0, 0, []) else am_nop))) else (bif Nat.ble 86 pc then (bif Nat.ble 87 pc then (bif Nat.beq pc 87 then (.getfield 166, 0, 0, []) else am_nop) else (bif Nat.beq pc 86 then (.aload_n 0, 0, 0, []) else am_nop)) else (bif Nat.ble 83 pc then (bif Nat.beq pc 83 then (.getfield 26, 0, 0, []) else am_nop) else (bif Nat.beq pc 82 then (.aload_n 0, 0, 0, []) else am_nop)))) else (bif Nat.ble 73 pc then (bif Nat.ble 77 pc then (bif Nat.ble 79 pc then (bif Nat.ble 81 pc then (bif Nat.beq pc 81 then (.imul, 0, 0, []) else am_nop) else (bif Nat.beq pc 79 then (.iload 4, 0, 4, []) else am_nop)) else (bif Nat.beq pc 77 then (.bipush 10, 10, 0, []) else am_nop)) else (bif Nat.ble 74 pc then (bif Nat.beq pc 74 then (.if_icmp .gt 36, 0, 110, []) else am_nop) else (bif Nat.beq pc 73 then (.iload_n 3, 0, 3, []) else am_nop))) else (bif Nat.ble 70 pc then (bif Nat.ble 72 pc then (bif Nat.beq pc 72 then (.isub, 0, 0, []) else am_nop) else (bif Nat.beq pc 70 then (.bipush 48, 48, 0, []) else am_nop)) else (bif Nat.ble 69 pc then (bif Nat.beq pc 69 then (.iadd, 0, 0, []) else am_nop) else (bif Nat.beq pc 68 then (.iaload, 0, 0, []) else am_nop)))))) else (bif Nat.ble 30 pc then (bif Nat.ble 47 pc then (bif Nat.ble 59 pc then (bif Nat.ble 61 pc then (bif Nat.ble 64 pc then (bif Nat.ble 65 pc then (bif Nat.beq pc 65 then (.getfield 166, 0, 0, []) else am_nop) else (bif Nat.beq pc 64 then (.aload_n 0, 0, 0, []) else am_nop)) else (bif Nat.beq pc 61 then (.getfield 26, 0, 0, []) else am_nop)) else (bif Nat.ble 60 pc then (bif Nat.beq pc 60 then (.aload_n 0, 0, 0, []) else am_nop) else (bif Nat.beq pc 59 then (.imul, 0, 0, []) else am_nop))) else (bif Nat.ble 52 pc then (bif Nat.ble 55 pc then (bif Nat.ble 57 pc then (bif Nat.beq pc 57 then (.iload 4, 0, 4, []) else am_nop) else (bif Nat.beq pc 55 then (.bipush 10, 10, 0, []) else am_nop)) else (bif Nat.beq pc 52 then (.ifCond .eq 58, 0, 110, []) else am_nop)) else (bif Nat.ble 49 pc then (bif Nat.beq pc 49 then (.invokevirtual 169, 0, 0, []) else am_nop) else (bif Nat.beq pc 47 then (.bipush 57, 57, 0, []) else am_nop)))) else (bif Nat.ble 36 pc then (bif Nat.ble 41 pc then (bif Nat.ble 44 pc then (bif Nat.ble 45 pc then (bif Nat.beq pc 45 then (.bipush 48, 48, 0, []) else am_nop) else (bif Nat.beq pc 44 then (.aload_n 0, 0, 0, []) else am_nop)) else (bif Nat.beq pc 41 then (.ifCond .le 69, 0, 110, []) else am_nop)) else (bif Nat.ble 39 pc then (bif Nat.beq pc 39 then (.iload 4, 0, 4, []) else am_nop) else (bif Nat.beq pc 36 then (.putfield 166, 0, 0, []) else am_nop))) else (bif Nat.ble 34 pc then (bif Nat.ble 35 pc then (bif Nat.beq pc 35 then (.iadd, 0, 0, []) else am_nop) else (bif Nat.beq pc 34 then (.iconst 1, 1, 0, []) else am_nop)) else (bif Nat.ble 31 pc then (bif Nat.beq pc 31 then (.getfield 166, 0, 0, []) else am_nop) else (bif Nat.beq pc 30 then (.dup, 0, 0, []) else am_nop))))) else (bif Nat.ble 15 pc then (bif Nat.ble 23 pc then (bif Nat.ble 26 pc then (bif Nat.ble 27 pc then (bif Nat.ble 29 pc then (bif Nat.beq pc 29 then (.aload_n 0, 0, 0, []) else am_nop) else (bif Nat.beq pc 27 then (.istore 4, 0, 4, []) else am_nop)) else (bif Nat.beq pc 26 then (.isub, 0, 0, []) else am_nop)) else (bif Nat.ble 24 pc then (bif Nat.beq pc 24 then (.bipush 48, 48, 0, []) else am_nop) else (bif Nat.beq pc 23 then (.iaload, 0, 0, []) else am_nop))) else (bif Nat.ble 19 pc then (bif Nat.ble 20 pc then (bif Nat.beq pc 20 then (.getfield 166, 0, 0, []) else am_nop) else (bif Nat.beq pc 19 then (.aload_n 0, 0, 0, []) else am_nop)) else (bif Nat.ble 16 pc then (bif Nat.beq pc 16 then (.getfield 26, 0, 0, []) else am_nop) else (bif Nat.beq pc 15 then (.aload_n 0, 0, 0, []) else am_nop)))) else (bif Nat.ble 5 pc then (bif Nat.ble 10 pc then (bif Nat.ble 13 pc then (bif Nat.ble 14 pc then (bif Nat.beq pc 14 then (.ireturn, 0, 0, []) else am_nop) else (bif Nat.beq pc 13 then (.iconst 0, 0, 0, []) else am_nop)) else (bif Nat.beq pc 10 then (.ifCond .ne 5, 0, 15, []) else am_nop)) else (bif Nat.ble 7 pc then (bif Nat.beq pc 7 then (.invokevirtual 169, 0, 0, []) else am_nop) else (bif Nat.beq pc 5 then (.bipush 57, 57, 0, []) else am_nop))) else (bif Nat.ble 3 pc then (bif Nat.ble 4 pc then (bif Nat.beq pc 4 then (.iadd, 0, 0, []) else am_nop) else (bif Nat.beq pc 3 then (.iload_n 2, 0, 2, []) else am_nop)) else (bif Nat.ble 1 pc then (bif Nat.beq pc 1 then (.bipush 48, 48, 0, []) else am_nop) else (bif Nat.beq pc 0 then (.aload_n 0, 0, 0, []) else am_nop))))))
def m_M_isNumber : MI := (k_M_isNumber, [(26, 6, 6), (35, 6, 13), (166, 6, 12), (172, 6, 14)], [(169, d_M_sees 16)], [], [], [], [], 2, 44, some .boolean, fun _ => 0, 1)
def s_M_isNumber_39 (h : HP) (a1 : Int32) (a2 : Int32) (a3 : Int32) (v1 : Int32 × HP) : (Int32 × HP) ⊕ (Int32 × HP) := (if v1.1 ≤ 0 then (.inr (v1.1, v1.2)) else (if (v_M_sees v1.2 48 57) = 0 then (.inr (v1.1, v1.2)) else (if (((10 * v1.1) + (v1.2.1 6 (am_ix (v1.2.1 0 12)))) - 48) ≤ a3 then (.inl ((((10 * v1.1) + (v1.2.1 6 (am_ix (v1.2.1 0 12)))) - 48), (am_si v1.2 0 12 ((v1.2.1 0 12) + 1)))) else (.inr (v1.1, v1.2)))))
def ps_M_isNumber_39 (h : HP) (a1 : Int32) (a2 : Int32) (a3 : Int32) (v1 : Int32 × HP) : Prop := ((v1.1 ≤ 0 → True) ∧ (¬ v1.1 ≤ 0 → ((p_M_sees v1.2 48 57) ∧ (((v_M_sees v1.2 48 57) = 0 → True) ∧ (¬ (v_M_sees v1.2 48 57) = 0 → ((am_in (v1.2.1 0 12) 60) ∧ (((((10 * v1.1) + (v1.2.1 6 (am_ix (v1.2.1 0 12)))) - 48) ≤ a3 → (am_in (v1.2.1 0 12) 60)) ∧ (¬ (((10 * v1.1) + (v1.2.1 6 (am_ix (v1.2.1 0 12)))) - 48) ≤ a3 → True))))))))
def v_M_isNumber (h : HP) (a1 : Int32) (a2 : Int32) (a3 : Int32) : Int32 × HP := (if (v_M_sees h (48 + a2) 57) = 0 then (0, h) else (match itr (s_M_isNumber_39 h a1 a2 a3) NF (((h.1 6 (am_ix (h.1 0 12))) - 48), (am_si h 0 12 ((h.1 0 12) + 1))) with | some r1 => (1, (am_si r1.2 9 (am_ix ((5 * (r1.2.1 0 14)) + a1)) r1.1)) | none => (0, h)))
def p_M_isNumber (h : HP) (a1 : Int32) (a2 : Int32) (a3 : Int32) : Prop := ((p_M_sees h (48 + a2) 57) ∧ (((v_M_sees h (48 + a2) 57) = 0 → True) ∧ (¬ (v_M_sees h (48 + a2) 57) = 0 → ((am_in (h.1 0 12) 60) ∧ (itrp (s_M_isNumber_39 h a1 a2 a3) (ps_M_isNumber_39 h a1 a2 a3) NF (((h.1 6 (am_ix (h.1 0 12))) - 48), (am_si h 0 12 ((h.1 0 12) + 1))) ∧ ∀ r1, itr (s_M_isNumber_39 h a1 a2 a3) NF (((h.1 6 (am_ix (h.1 0 12))) - 48), (am_si h 0 12 ((h.1 0 12) + 1))) = some r1 → (am_in ((5 * (r1.2.1 0 14)) + a1) 40))))))
def g_M_isNumber (_ _ : List Sh) (as : List Value) (h : HP) : GR := match as with
  | [.ref o1, .int a1, .int a2, .int a3] => (Nat.beq o1 0, p_M_isNumber h a1 a2 a3, none, some (.int (v_M_isNumber h a1 a2 a3).1), (v_M_isNumber h a1 a2 a3).2)
  | _ => bad h
def d_M_isNumber (k : Nat) : CD := (k, yX6_isNumber, cX6_isNumber, 5, some .boolean, 4, 2, 44, 0, false, true, g_M_isNumber)
theorem chk_M_isNumber : ∀ pc, am_chk cX6_isNumber k_M_isNumber pc = true := am_chkall 127 (by decide +kernel) (fun pc h => by unfold k_M_isNumber; rw [Nat.ble_eq_true_of_le h]; rfl)
theorem pf_M_isNumber : plainFor yX6_isNumber = true := by decide +kernel
theorem cu_M_isNumber : Cond.code yX6_isNumber cX6_isNumber 5 (some .boolean) ∈ am_U := am_tb 1104 (by decide +kernel) rfl
set_option maxHeartbeats 20000000 in
set_option maxRecDepth 100000 in
theorem ev_M_isNumber {e1 ro : List Sh} {P : AR → HP → Prop} (h : HP) (a1 : Int32) (a2 : Int32) (a3 : Int32) (hp : p_M_isNumber h a1 a2 a3) (hP : ∀ q, v_M_isNumber h a1 a2 a3 = q → RIW P h q) : am_Ev m_M_isNumber (WM ++ e1) ro P (0, [.ref 0, .int a1, .int a2, .int a3, .retAddr 0], [], h) := by
  unfold p_M_isNumber at hp
  refine am_Ev_G [26] 400 _ ?_
  show ((p_M_sees h (48 + a2) 57) ∧ ((¬ (v_M_sees h (48 + a2) 57) = 0 → ((am_in (h.1 0 12) 60) ∧ am_Ev m_M_isNumber (WM ++ e1) ro P (26, [.ref 0, .int a1, .int a2, .int a3, .retAddr 0], [.int 48, .int (h.1 6 (am_ix (h.1 0 12)))], h))) ∧ ((v_M_sees h (48 + a2) 57) = 0 → ((((0 : Int32) = 0 ∨ (0 : Int32) = 1)) ∧ P (.inl (some (.int 0))) h))))
  obtain ⟨hob, hp⟩ := hp
  refine ⟨hob, ?_⟩
  refine ⟨fun c1 => ?_, fun c1 => ?_⟩
  · have hp := hp.2 c1
    obtain ⟨hob, hp⟩ := hp
    refine ⟨hob, ?_⟩
    refine am_Ev_G [39] 400 _ ?_
    show am_Ev m_M_isNumber (WM ++ e1) ro P (39, [.ref 0, .int a1, .int a2, .int a3, .int ((h.1 6 (am_ix (h.1 0 12))) - 48)], [], (am_si h 0 12 ((h.1 0 12) + 1)))
    refine am_fg 2 ?_
    obtain ⟨hpl, hp⟩ := hp
    refine am_itr (E := (fun (v1 : Int32 × HP) => am_Ev m_M_isNumber (WM ++ e1) ro P (39, [.ref 0, .int a1, .retAddr 0, .int a3, .int v1.1], [], v1.2))) (E' := (fun (r1 : Int32 × HP) => am_Ev m_M_isNumber (WM ++ e1) ro P (110, [.ref 0, .int a1, .retAddr 0, .int a3, .int r1.1], [], r1.2))) (s_M_isNumber_39 h a1 a2 a3) (ps_M_isNumber_39 h a1 a2 a3) ?_ NF (((h.1 6 (am_ix (h.1 0 12))) - 48), (am_si h 0 12 ((h.1 0 12) + 1))) hpl ?_
    · intro v1 hp hc1 hx1
      show am_Ev m_M_isNumber (WM ++ e1) ro P (39, [.ref 0, .int a1, .retAddr 0, .int a3, .int v1.1], [], v1.2)
      unfold ps_M_isNumber_39 at hp
      refine am_Ev_G [52, 110] 400 _ ?_
      show ((v1.1 ≤ 0 → am_Ev m_M_isNumber (WM ++ e1) ro P (110, [.ref 0, .int a1, .retAddr 0, .int a3, .int v1.1], [], v1.2)) ∧ (¬ v1.1 ≤ 0 → ((p_M_sees v1.2 48 57) ∧ am_Ev m_M_isNumber (WM ++ e1) ro P (52, [.ref 0, .int a1, .retAddr 0, .int a3, .int v1.1], [.int (v_M_sees v1.2 48 57)], v1.2))))
      refine ⟨fun c2 => ?_, fun c2 => ?_⟩
      · skip
        exact hx1 (v1.1, v1.2) (by unfold s_M_isNumber_39; simp only [if_pos c2])
      · have hp := hp.2 c2
        obtain ⟨hob, hp⟩ := hp
        refine ⟨hob, ?_⟩
        refine am_Ev_G [81, 110] 400 _ ?_
        show (((v_M_sees v1.2 48 57) = 0 → am_Ev m_M_isNumber (WM ++ e1) ro P (110, [.ref 0, .int a1, .retAddr 0, .int a3, .int v1.1], [], v1.2)) ∧ (¬ (v_M_sees v1.2 48 57) = 0 → ((am_in (v1.2.1 0 12) 60) ∧ ((¬ (((10 * v1.1) + (v1.2.1 6 (am_ix (v1.2.1 0 12)))) - 48) ≤ a3 → am_Ev m_M_isNumber (WM ++ e1) ro P (110, [.ref 0, .int a1, .retAddr 0, .int a3, .int v1.1], [], v1.2)) ∧ ((((10 * v1.1) + (v1.2.1 6 (am_ix (v1.2.1 0 12)))) - 48) ≤ a3 → am_Ev m_M_isNumber (WM ++ e1) ro P (81, [.ref 0, .int a1, .retAddr 0, .int a3, .int v1.1], [.int v1.1, .int 10], v1.2))))))
        refine ⟨fun c3 => ?_, fun c3 => ?_⟩
        · skip
          exact hx1 (v1.1, v1.2) (by unfold s_M_isNumber_39; simp only [if_neg c2, if_pos c3])
        · have hp := hp.2 c3
          obtain ⟨hob, hp⟩ := hp
          refine ⟨hob, ?_⟩
          refine ⟨fun c4 => ?_, fun c4 => ?_⟩
          · skip
            exact hx1 (v1.1, v1.2) (by unfold s_M_isNumber_39; simp only [if_neg c2, if_neg c3, if_neg c4])
          · have hp := hp.1 c4
            refine am_Ev_G [107] 400 _ ?_
            show ((am_in (v1.2.1 0 12) 60) ∧ am_Ev m_M_isNumber (WM ++ e1) ro P (107, [.ref 0, .int a1, .retAddr 0, .int a3, .int (((10 * v1.1) + (v1.2.1 6 (am_ix (v1.2.1 0 12)))) - 48)], [], (am_si v1.2 0 12 ((v1.2.1 0 12) + 1))))
            refine ⟨hp, ?_⟩
            refine am_Ev_G [39] 400 _ ?_
            show am_Ev m_M_isNumber (WM ++ e1) ro P (39, [.ref 0, .int a1, .retAddr 0, .int a3, .int (((10 * v1.1) + (v1.2.1 6 (am_ix (v1.2.1 0 12)))) - 48)], [], (am_si v1.2 0 12 ((v1.2.1 0 12) + 1)))
            exact hc1 ((((10 * v1.1) + (v1.2.1 6 (am_ix (v1.2.1 0 12)))) - 48), (am_si v1.2 0 12 ((v1.2.1 0 12) + 1))) (by unfold s_M_isNumber_39; simp only [if_neg c2, if_neg c3, if_pos c4])
    · intro r1 hr5
      have hp := hp _ hr5
      show am_Ev m_M_isNumber (WM ++ e1) ro P (110, [.ref 0, .int a1, .retAddr 0, .int a3, .int r1.1], [], r1.2)
      refine am_Ev_G [] 400 _ ?_
      show ((am_in ((5 * (r1.2.1 0 14)) + a1) 40) ∧ ((((1 : Int32) = 0 ∨ (1 : Int32) = 1)) ∧ P (.inl (some (.int 1))) (am_si r1.2 9 (am_ix ((5 * (r1.2.1 0 14)) + a1)) r1.1)))
      refine ⟨hp, ?_⟩
      refine ⟨(by decide), ?_⟩
      exact hP (1, (am_si r1.2 9 (am_ix ((5 * (r1.2.1 0 14)) + a1)) r1.1)) (by unfold v_M_isNumber; simp only [if_neg c1, hr5])
  · skip
    refine ⟨(by decide), ?_⟩
    exact hP (0, h) (by unfold v_M_isNumber; simp only [if_pos c1])
theorem ok_M_isNumber {l : Launch} (hl : l.stackTraces = false) (e1 ro : List Sh) (k : Nat) : am_Ok l (WM ++ e1) ro (d_M_isNumber k) := by
  refine am_met hl (own := RX6) (M := m_M_isNumber) rfl pf_M_isNumber cu_M_isNumber rfl rfl rfl rfl (fun _ => rfl) rfl ⟨chk_M_isNumber, (am_c (fl_M_26) (am_c (fl_M_35) (am_c (fl_M_166) (am_c (fl_M_172) am_n)))), (am_c (lk_M_169) am_n), (am_n), (am_n)⟩ (am_n) (am_c (ok_M_sees hl e1 _ 16) am_n) (fun z => nomatch z) ?_ ?_
  · intro _ as h hg
    show g_thr (g_M_isNumber (WM ++ e1) ro as h) = none
    unfold g_M_isNumber
    split <;> rfl
  · intro as h hg hp
    revert hg hp
    show g_ok (g_M_isNumber (WM ++ e1) ro as h) = true → g_pre (g_M_isNumber (WM ++ e1) ro as h) → _ ∧ am_Ev m_M_isNumber (WM ++ e1) ro (am_eq (g_M_isNumber (WM ++ e1) ro as h)) (0, am_ent as 5, [], h)
    unfold g_M_isNumber
    split
    · rename_i o1 a1 a2 a3
      intro hc hp
      change (Nat.beq o1 0) = true at hc
      obtain rfl := am_beq hc
      exact ⟨Nat.le_of_ble_eq_true rfl, ev_M_isNumber h a1 a2 a3 hp eqRIW⟩
    · exact fun z => nomatch z
def k_M_isPart (pc : Nat) : Ent := bif Nat.ble 72 pc then am_nop else bif Nat.ble 35 pc then (bif Nat.ble 55 pc then (bif Nat.ble 63 pc then (bif Nat.ble 67 pc then (bif Nat.ble 70 pc then (bif Nat.ble 71 pc then (bif Nat.beq pc 71 then (.ireturn, 0, 0, []) else am_nop) else (bif Nat.beq pc 70 then (.iconst 0, 0, 0, []) else am_nop)) else (bif Nat.beq pc 67 then (.goto 4, 0, 71, []) else am_nop)) else (bif Nat.ble 66 pc then (bif Nat.beq pc 66 then (.iconst 1, 1, 0, []) else am_nop) else (bif Nat.beq pc 63 then (.ifCond .eq 7, 0, 70, []) else am_nop))) else (bif Nat.ble 57 pc then (bif Nat.ble 60 pc then (bif Nat.beq pc 60 then (.invokevirtual 181, 0, 0, []) else am_nop) else (bif Nat.beq pc 57 then (.sipush 240, 240, 0, []) else am_nop)) else (bif Nat.ble 56 pc then (bif Nat.beq pc 56 then (.iconst 1, 1, 0, []) else am_nop) else (bif Nat.beq pc 55 then (.iconst 4, 4, 0, []) else am_nop)))) else (bif Nat.ble 45 pc then (bif Nat.ble 48 pc then (bif Nat.ble 51 pc then (bif Nat.ble 54 pc then (bif Nat.beq pc 54 then (.aload_n 0, 0, 0, []) else am_nop) else (bif Nat.beq pc 51 then (.ifCond .eq 19, 0, 70, []) else am_nop)) else (bif Nat.beq pc 48 then (.invokevirtual 178, 0, 0, []) else am_nop)) else (bif Nat.ble 46 pc then (bif Nat.beq pc 46 then (.bipush 43, 43, 0, []) else am_nop) else (bif Nat.beq pc 45 then (.aload_n 0, 0, 0, []) else am_nop))) else (bif Nat.ble 39 pc then (bif Nat.ble 42 pc then (bif Nat.beq pc 42 then (.ifCond .eq 28, 0, 70, []) else am_nop) else (bif Nat.beq pc 39 then (.invokevirtual 181, 0, 0, []) else am_nop)) else (bif Nat.ble 36 pc then (bif Nat.beq pc 36 then (.sipush 1439, 1439, 0, []) else am_nop) else (bif Nat.beq pc 35 then (.iconst 0, 0, 0, []) else am_nop))))) else (bif Nat.ble 17 pc then (bif Nat.ble 25 pc then (bif Nat.ble 30 pc then (bif Nat.ble 33 pc then (bif Nat.ble 34 pc then (bif Nat.beq pc 34 then (.iconst 3, 3, 0, []) else am_nop) else (bif Nat.beq pc 33 then (.aload_n 0, 0, 0, []) else am_nop)) else (bif Nat.beq pc 30 then (.ifCond .eq 40, 0, 70, []) else am_nop)) else (bif Nat.ble 27 pc then (bif Nat.beq pc 27 then (.invokevirtual 178, 0, 0, []) else am_nop) else (bif Nat.beq pc 25 then (.bipush 64, 64, 0, []) else am_nop))) else (bif Nat.ble 21 pc then (bif Nat.ble 24 pc then (bif Nat.beq pc 24 then (.aload_n 0, 0, 0, []) else am_nop) else (bif Nat.beq pc 21 then (.ifCond .eq 49, 0, 70, []) else am_nop)) else (bif Nat.ble 18 pc then (bif Nat.beq pc 18 then (.invokevirtual 175, 0, 0, []) else am_nop) else (bif Nat.beq pc 17 then (.iconst 2, 2, 0, []) else am_nop)))) else (bif Nat.ble 8 pc then (bif Nat.ble 10 pc then (bif Nat.ble 13 pc then (bif Nat.ble 16 pc then (bif Nat.beq pc 16 then (.aload_n 0, 0, 0, []) else am_nop) else (bif Nat.beq pc 13 then (.ifCond .eq 57, 0, 70, []) else am_nop)) else (bif Nat.beq pc 10 then (.invokevirtual 175, 0, 0, []) else am_nop)) else (bif Nat.ble 9 pc then (bif Nat.beq pc 9 then (.iconst 1, 1, 0, []) else am_nop) else (bif Nat.beq pc 8 then (.aload_n 0, 0, 0, []) else am_nop))) else (bif Nat.ble 2 pc then (bif Nat.ble 5 pc then (bif Nat.beq pc 5 then (.ifCond .eq 65, 0, 70, []) else am_nop) else (bif Nat.beq pc 2 then (.invokevirtual 175, 0, 0, []) else am_nop)) else (bif Nat.ble 1 pc then (bif Nat.beq pc 1 then (.iconst 0, 0, 0, []) else am_nop) else (bif Nat.beq pc 0 then (.aload_n 0, 0, 0, []) else am_nop)))))
theorem lk_M_175 : am_lnk RX6 175 (d_M_isDigit 16) := ⟨⟨by decide, by decide⟩, am_tb 8 (by decide +kernel) rfl, Or.inr ⟨by decide, rfl, am_tb 1091 (by decide +kernel) rfl, am_tp 91 (by decide +kernel) rfl, ⟨TX6, 16, rfl⟩, Or.inl (am_tb 1089 (by decide +kernel) rfl)⟩⟩
theorem lk_M_178 : am_lnk RX6 178 (d_M_takes 16) := ⟨⟨by decide, by decide⟩, am_tb 8 (by decide +kernel) rfl, Or.inr ⟨by decide, rfl, am_tb 1099 (by decide +kernel) rfl, am_tp 93 (by decide +kernel) rfl, ⟨TX6, 16, rfl⟩, Or.inl (am_tb 1097 (by decide +kernel) rfl)⟩⟩
theorem lk_M_181 : am_lnk RX6 181 (d_M_isNumber 16) := ⟨⟨by decide, by decide⟩, am_tb 8 (by decide +kernel) rfl, Or.inr ⟨by decide, rfl, am_tb 1103 (by decide +kernel) rfl, am_tp 94 (by decide +kernel) rfl, ⟨TX6, 16, rfl⟩, Or.inl (am_tb 1101 (by decide +kernel) rfl)⟩⟩
def m_M_isPart : MI := (k_M_isPart, [], [(175, d_M_isDigit 16), (178, d_M_takes 16), (181, d_M_isNumber 16)], [], [], [], [], 3, 68, some .boolean, fun _ => 0, 1)
def v_M_isPart (h : HP) : Int32 × HP := (bnd (v_M_isDigit h 0) fun y1 => (if y1.1 = 0 then (0, y1.2) else (bnd (v_M_isDigit y1.2 1) fun y2 => (if y2.1 = 0 then (0, y2.2) else (bnd (v_M_isDigit y2.2 2) fun y3 => (if y3.1 = 0 then (0, y3.2) else (bnd (v_M_takes y3.2 64) fun y4 => (if y4.1 = 0 then (0, y4.2) else (bnd (v_M_isNumber y4.2 3 0 1439) fun y5 => (if y5.1 = 0 then (0, y5.2) else (bnd (v_M_takes y5.2 43) fun y6 => (if y6.1 = 0 then (0, y6.2) else (bnd (v_M_isNumber y6.2 4 1 240) fun y7 => ((if y7.1 = 0 then (0 : Int32) else 1), y7.2))))))))))))))
def p_M_isPart (h : HP) : Prop := ((p_M_isDigit h 0) ∧ (∀ y1, v_M_isDigit h 0 = y1 → ((y1.1 = 0 → True) ∧ (¬ y1.1 = 0 → ((p_M_isDigit y1.2 1) ∧ (∀ y2, v_M_isDigit y1.2 1 = y2 → ((y2.1 = 0 → True) ∧ (¬ y2.1 = 0 → ((p_M_isDigit y2.2 2) ∧ (∀ y3, v_M_isDigit y2.2 2 = y3 → ((y3.1 = 0 → True) ∧ (¬ y3.1 = 0 → ((p_M_takes y3.2 64) ∧ (∀ y4, v_M_takes y3.2 64 = y4 → ((y4.1 = 0 → True) ∧ (¬ y4.1 = 0 → ((p_M_isNumber y4.2 3 0 1439) ∧ (∀ y5, v_M_isNumber y4.2 3 0 1439 = y5 → ((y5.1 = 0 → True) ∧ (¬ y5.1 = 0 → ((p_M_takes y5.2 43) ∧ (∀ y6, v_M_takes y5.2 43 = y6 → ((y6.1 = 0 → True) ∧ (¬ y6.1 = 0 → (p_M_isNumber y6.2 4 1 240)))))))))))))))))))))))))
def g_M_isPart (_ _ : List Sh) (as : List Value) (h : HP) : GR := match as with
  | [.ref o1] => (Nat.beq o1 0, p_M_isPart h, none, some (.int (v_M_isPart h).1), (v_M_isPart h).2)
  | _ => bad h
def d_M_isPart (k : Nat) : CD := (k, yX6_isPart, cX6_isPart, 1, some .boolean, 1, 3, 68, 0, false, true, g_M_isPart)
theorem chk_M_isPart : ∀ pc, am_chk cX6_isPart k_M_isPart pc = true := am_chkall 72 (by decide +kernel) (fun pc h => by unfold k_M_isPart; rw [Nat.ble_eq_true_of_le h]; rfl)
theorem pf_M_isPart : plainFor yX6_isPart = true := by decide +kernel
theorem cu_M_isPart : Cond.code yX6_isPart cX6_isPart 1 (some .boolean) ∈ am_U := am_tb 1088 (by decide +kernel) rfl
set_option maxHeartbeats 20000000 in
set_option maxRecDepth 100000 in
theorem ev_M_isPart {e1 ro : List Sh} {P : AR → HP → Prop} (h : HP) (hp : p_M_isPart h) (hP : ∀ q, v_M_isPart h = q → RIW P h q) : am_Ev m_M_isPart (WM ++ e1) ro P (0, [.ref 0], [], h) := by
  unfold p_M_isPart at hp
  refine am_Ev_G [5] 400 _ ?_
  show ((p_M_isDigit h 0) ∧ am_Ev m_M_isPart (WM ++ e1) ro P (5, [.ref 0], [.int ((v_M_isDigit h 0).1)], ((v_M_isDigit h 0).2)))
  obtain ⟨hob, hp⟩ := hp
  refine ⟨hob, ?_⟩
  obtain ⟨y1, c1⟩ : ∃ y, v_M_isDigit h 0 = y := ⟨_, rfl⟩
  rw [c1]
  have hp := hp _ c1
  show am_Ev m_M_isPart (WM ++ e1) ro P (5, [.ref 0], [.int y1.1], y1.2)
  refine am_Ev_G [13] 400 _ ?_
  show ((y1.1 = 0 → ((((0 : Int32) = 0 ∨ (0 : Int32) = 1)) ∧ P (.inl (some (.int 0))) y1.2)) ∧ (¬ y1.1 = 0 → ((p_M_isDigit y1.2 1) ∧ am_Ev m_M_isPart (WM ++ e1) ro P (13, [.ref 0], [.int ((v_M_isDigit y1.2 1).1)], ((v_M_isDigit y1.2 1).2)))))
  refine ⟨fun c2 => ?_, fun c2 => ?_⟩
  · skip
    refine ⟨(by decide), ?_⟩
    exact hP (0, y1.2) (by unfold v_M_isPart; simp only [bnd, c1, if_pos c2])
  · have hp := hp.2 c2
    obtain ⟨hob, hp⟩ := hp
    refine ⟨hob, ?_⟩
    obtain ⟨y2, c3⟩ : ∃ y, v_M_isDigit y1.2 1 = y := ⟨_, rfl⟩
    rw [c3]
    have hp := hp _ c3
    show am_Ev m_M_isPart (WM ++ e1) ro P (13, [.ref 0], [.int y2.1], y2.2)
    refine am_Ev_G [21] 400 _ ?_
    show ((y2.1 = 0 → ((((0 : Int32) = 0 ∨ (0 : Int32) = 1)) ∧ P (.inl (some (.int 0))) y2.2)) ∧ (¬ y2.1 = 0 → ((p_M_isDigit y2.2 2) ∧ am_Ev m_M_isPart (WM ++ e1) ro P (21, [.ref 0], [.int ((v_M_isDigit y2.2 2).1)], ((v_M_isDigit y2.2 2).2)))))
    refine ⟨fun c4 => ?_, fun c4 => ?_⟩
    · skip
      refine ⟨(by decide), ?_⟩
      exact hP (0, y2.2) (by unfold v_M_isPart; simp only [bnd, c1, if_neg c2, bnd, c3, if_pos c4])
    · have hp := hp.2 c4
      obtain ⟨hob, hp⟩ := hp
      refine ⟨hob, ?_⟩
      obtain ⟨y3, c5⟩ : ∃ y, v_M_isDigit y2.2 2 = y := ⟨_, rfl⟩
      rw [c5]
      have hp := hp _ c5
      show am_Ev m_M_isPart (WM ++ e1) ro P (21, [.ref 0], [.int y3.1], y3.2)
      refine am_Ev_G [30] 400 _ ?_
      show ((y3.1 = 0 → ((((0 : Int32) = 0 ∨ (0 : Int32) = 1)) ∧ P (.inl (some (.int 0))) y3.2)) ∧ (¬ y3.1 = 0 → ((p_M_takes y3.2 64) ∧ am_Ev m_M_isPart (WM ++ e1) ro P (30, [.ref 0], [.int ((v_M_takes y3.2 64).1)], ((v_M_takes y3.2 64).2)))))
      refine ⟨fun c6 => ?_, fun c6 => ?_⟩
      · skip
        refine ⟨(by decide), ?_⟩
        exact hP (0, y3.2) (by unfold v_M_isPart; simp only [bnd, c1, if_neg c2, bnd, c3, if_neg c4, bnd, c5, if_pos c6])
      · have hp := hp.2 c6
        obtain ⟨hob, hp⟩ := hp
        refine ⟨hob, ?_⟩
        obtain ⟨y4, c7⟩ : ∃ y, v_M_takes y3.2 64 = y := ⟨_, rfl⟩
        rw [c7]
        have hp := hp _ c7
        show am_Ev m_M_isPart (WM ++ e1) ro P (30, [.ref 0], [.int y4.1], y4.2)
        refine am_Ev_G [42] 400 _ ?_
        show ((y4.1 = 0 → ((((0 : Int32) = 0 ∨ (0 : Int32) = 1)) ∧ P (.inl (some (.int 0))) y4.2)) ∧ (¬ y4.1 = 0 → ((p_M_isNumber y4.2 3 0 1439) ∧ am_Ev m_M_isPart (WM ++ e1) ro P (42, [.ref 0], [.int ((v_M_isNumber y4.2 3 0 1439).1)], ((v_M_isNumber y4.2 3 0 1439).2)))))
        refine ⟨fun c8 => ?_, fun c8 => ?_⟩
        · skip
          refine ⟨(by decide), ?_⟩
          exact hP (0, y4.2) (by unfold v_M_isPart; simp only [bnd, c1, if_neg c2, bnd, c3, if_neg c4, bnd, c5, if_neg c6, bnd, c7, if_pos c8])
        · have hp := hp.2 c8
          obtain ⟨hob, hp⟩ := hp
          refine ⟨hob, ?_⟩
          obtain ⟨y5, c9⟩ : ∃ y, v_M_isNumber y4.2 3 0 1439 = y := ⟨_, rfl⟩
          rw [c9]
          have hp := hp _ c9
          show am_Ev m_M_isPart (WM ++ e1) ro P (42, [.ref 0], [.int y5.1], y5.2)
          refine am_Ev_G [51] 400 _ ?_
          show ((y5.1 = 0 → ((((0 : Int32) = 0 ∨ (0 : Int32) = 1)) ∧ P (.inl (some (.int 0))) y5.2)) ∧ (¬ y5.1 = 0 → ((p_M_takes y5.2 43) ∧ am_Ev m_M_isPart (WM ++ e1) ro P (51, [.ref 0], [.int ((v_M_takes y5.2 43).1)], ((v_M_takes y5.2 43).2)))))
          refine ⟨fun c10 => ?_, fun c10 => ?_⟩
          · skip
            refine ⟨(by decide), ?_⟩
            exact hP (0, y5.2) (by unfold v_M_isPart; simp only [bnd, c1, if_neg c2, bnd, c3, if_neg c4, bnd, c5, if_neg c6, bnd, c7, if_neg c8, bnd, c9, if_pos c10])
          · have hp := hp.2 c10
            obtain ⟨hob, hp⟩ := hp
            refine ⟨hob, ?_⟩
            obtain ⟨y6, c11⟩ : ∃ y, v_M_takes y5.2 43 = y := ⟨_, rfl⟩
            rw [c11]
            have hp := hp _ c11
            show am_Ev m_M_isPart (WM ++ e1) ro P (51, [.ref 0], [.int y6.1], y6.2)
            refine am_Ev_G [63] 400 _ ?_
            show ((y6.1 = 0 → ((((0 : Int32) = 0 ∨ (0 : Int32) = 1)) ∧ P (.inl (some (.int 0))) y6.2)) ∧ (¬ y6.1 = 0 → ((p_M_isNumber y6.2 4 1 240) ∧ am_Ev m_M_isPart (WM ++ e1) ro P (63, [.ref 0], [.int ((v_M_isNumber y6.2 4 1 240).1)], ((v_M_isNumber y6.2 4 1 240).2)))))
            refine ⟨fun c12 => ?_, fun c12 => ?_⟩
            · skip
              refine ⟨(by decide), ?_⟩
              exact hP (0, y6.2) (by unfold v_M_isPart; simp only [bnd, c1, if_neg c2, bnd, c3, if_neg c4, bnd, c5, if_neg c6, bnd, c7, if_neg c8, bnd, c9, if_neg c10, bnd, c11, if_pos c12])
            · have hp := hp.2 c12
              refine ⟨hp, ?_⟩
              obtain ⟨y7, c13⟩ : ∃ y, v_M_isNumber y6.2 4 1 240 = y := ⟨_, rfl⟩
              rw [c13]
              show am_Ev m_M_isPart (WM ++ e1) ro P (63, [.ref 0], [.int y7.1], y7.2)
              have key14 : am_Ev m_M_isPart (WM ++ e1) ro P (71, [.ref 0], [.int (if y7.1 = 0 then (0 : Int32) else 1)], y7.2) := by
                refine am_Ev_G [] 400 _ ?_
                show (((((if y7.1 = 0 then (0 : Int32) else 1) : Int32) = 0 ∨ ((if y7.1 = 0 then (0 : Int32) else 1) : Int32) = 1)) ∧ P (.inl (some (.int (if y7.1 = 0 then (0 : Int32) else 1)))) y7.2)
                refine ⟨(by (repeat' split) <;> decide), ?_⟩
                exact hP ((if y7.1 = 0 then (0 : Int32) else 1), y7.2) (by unfold v_M_isPart; simp only [bnd, c1, if_neg c2, bnd, c3, if_neg c4, bnd, c5, if_neg c6, bnd, c7, if_neg c8, bnd, c9, if_neg c10, bnd, c11, if_neg c12, bnd, c13])
              refine am_Ev_G [71] 400 _ ?_
              show ((y7.1 = 0 → am_Ev m_M_isPart (WM ++ e1) ro P (71, [.ref 0], [.int 0], y7.2)) ∧ (¬ y7.1 = 0 → am_Ev m_M_isPart (WM ++ e1) ro P (71, [.ref 0], [.int 1], y7.2)))
              refine ⟨fun c15 => ?_, fun c15 => ?_⟩
              · skip
                simpa only [if_pos c15] using key14
              · skip
                simpa only [if_neg c15] using key14
theorem ok_M_isPart {l : Launch} (hl : l.stackTraces = false) (e1 ro : List Sh) (k : Nat) : am_Ok l (WM ++ e1) ro (d_M_isPart k) := by
  refine am_met hl (own := RX6) (M := m_M_isPart) rfl pf_M_isPart cu_M_isPart rfl rfl rfl rfl (fun _ => rfl) rfl ⟨chk_M_isPart, (am_n), (am_c (lk_M_175) (am_c (lk_M_178) (am_c (lk_M_181) am_n))), (am_n), (am_n)⟩ (am_n) (am_c (ok_M_isDigit hl e1 _ 16) (am_c (ok_M_takes hl e1 _ 16) (am_c (ok_M_isNumber hl e1 _ 16) am_n))) (fun z => nomatch z) ?_ ?_
  · intro _ as h hg
    show g_thr (g_M_isPart (WM ++ e1) ro as h) = none
    unfold g_M_isPart
    split <;> rfl
  · intro as h hg hp
    revert hg hp
    show g_ok (g_M_isPart (WM ++ e1) ro as h) = true → g_pre (g_M_isPart (WM ++ e1) ro as h) → _ ∧ am_Ev m_M_isPart (WM ++ e1) ro (am_eq (g_M_isPart (WM ++ e1) ro as h)) (0, am_ent as 1, [], h)
    unfold g_M_isPart
    split
    · rename_i o1
      intro hc hp
      change (Nat.beq o1 0) = true at hc
      obtain rfl := am_beq hc
      exact ⟨Nat.le_of_ble_eq_true rfl, ev_M_isPart h hp eqRIW⟩
    · exact fun z => nomatch z
def k_M_isWhole (pc : Nat) : Ent := bif Nat.ble 62 pc then am_nop else bif Nat.ble 27 pc then (bif Nat.ble 45 pc then (bif Nat.ble 53 pc then (bif Nat.ble 57 pc then (bif Nat.ble 60 pc then (bif Nat.ble 61 pc then (bif Nat.beq pc 61 then (.ireturn, 0, 0, []) else am_nop) else (bif Nat.beq pc 60 then (.iconst 0, 0, 0, []) else am_nop)) else (bif Nat.beq pc 57 then (.goto 4, 0, 61, []) else am_nop)) else (bif Nat.ble 56 pc then (bif Nat.beq pc 56 then (.iconst 1, 1, 0, []) else am_nop) else (bif Nat.beq pc 53 then (.if_icmp .ne 7, 0, 60, []) else am_nop))) else (bif Nat.ble 49 pc then (bif Nat.ble 50 pc then (bif Nat.beq pc 50 then (.getfield 163, 0, 0, []) else am_nop) else (bif Nat.beq pc 49 then (.aload_n 0, 0, 0, []) else am_nop)) else (bif Nat.ble 46 pc then (bif Nat.beq pc 46 then (.getfield 166, 0, 0, []) else am_nop) else (bif Nat.beq pc 45 then (.aload_n 0, 0, 0, []) else am_nop)))) else (bif Nat.ble 35 pc then (bif Nat.ble 38 pc then (bif Nat.ble 41 pc then (bif Nat.ble 42 pc then (bif Nat.beq pc 42 then (.goto (-30), 0, 12, []) else am_nop) else (bif Nat.beq pc 41 then (.istore_n 1, 0, 1, []) else am_nop)) else (bif Nat.beq pc 38 then (.invokevirtual 178, 0, 0, []) else am_nop)) else (bif Nat.ble 36 pc then (bif Nat.beq pc 36 then (.bipush 59, 59, 0, []) else am_nop) else (bif Nat.beq pc 35 then (.aload_n 0, 0, 0, []) else am_nop))) else (bif Nat.ble 31 pc then (bif Nat.ble 32 pc then (bif Nat.beq pc 32 then (.putfield 172, 0, 0, []) else am_nop) else (bif Nat.beq pc 31 then (.iadd, 0, 0, []) else am_nop)) else (bif Nat.ble 30 pc then (bif Nat.beq pc 30 then (.iconst 1, 1, 0, []) else am_nop) else (bif Nat.beq pc 27 then (.getfield 172, 0, 0, []) else am_nop))))) else (bif Nat.ble 12 pc then (bif Nat.ble 20 pc then (bif Nat.ble 24 pc then (bif Nat.ble 25 pc then (bif Nat.ble 26 pc then (bif Nat.beq pc 26 then (.dup, 0, 0, []) else am_nop) else (bif Nat.beq pc 25 then (.aload_n 0, 0, 0, []) else am_nop)) else (bif Nat.beq pc 24 then (.ireturn, 0, 0, []) else am_nop)) else (bif Nat.ble 23 pc then (bif Nat.beq pc 23 then (.iconst 0, 0, 0, []) else am_nop) else (bif Nat.beq pc 20 then (.ifCond .ne 5, 0, 25, []) else am_nop))) else (bif Nat.ble 16 pc then (bif Nat.ble 17 pc then (bif Nat.beq pc 17 then (.invokevirtual 184, 0, 0, []) else am_nop) else (bif Nat.beq pc 16 then (.aload_n 0, 0, 0, []) else am_nop)) else (bif Nat.ble 13 pc then (bif Nat.beq pc 13 then (.ifCond .eq 32, 0, 45, []) else am_nop) else (bif Nat.beq pc 12 then (.iload_n 1, 0, 1, []) else am_nop)))) else (bif Nat.ble 6 pc then (bif Nat.ble 10 pc then (bif Nat.ble 11 pc then (bif Nat.beq pc 11 then (.istore_n 1, 0, 1, []) else am_nop) else (bif Nat.beq pc 10 then (.iconst 1, 1, 0, []) else am_nop)) else (bif Nat.ble 7 pc then (bif Nat.beq pc 7 then (.putfield 172, 0, 0, []) else am_nop) else (bif Nat.beq pc 6 then (.iconst 0, 0, 0, []) else am_nop))) else (bif Nat.ble 2 pc then (bif Nat.ble 5 pc then (bif Nat.beq pc 5 then (.aload_n 0, 0, 0, []) else am_nop) else (bif Nat.beq pc 2 then (.putfield 166, 0, 0, []) else am_nop)) else (bif Nat.ble 1 pc then (bif Nat.beq pc 1 then (.iconst 0, 0, 0, []) else am_nop) else (bif Nat.beq pc 0 then (.aload_n 0, 0, 0, []) else am_nop)))))
theorem lk_M_184 : am_lnk RX6 184 (d_M_isPart 16) := ⟨⟨by decide, by decide⟩, am_tb 8 (by decide +kernel) rfl, Or.inr ⟨by decide, rfl, am_tb 1087 (by decide +kernel) rfl, am_tp 90 (by decide +kernel) rfl, ⟨TX6, 16, rfl⟩, Or.inl (am_tb 1085 (by decide +kernel) rfl)⟩⟩
def m_M_isWhole : MI := (k_M_isWhole, [(163, 6, 7), (166, 6, 12), (172, 6, 14)], [(178, d_M_takes 16), (184, d_M_isPart 16)], [], [], [], [], 4, 88, some .boolean, fun _ => 0, 1)
def s_M_isWhole_12 (h : HP) (v1 : Int32 × HP) : (Int32 × HP) ⊕ ((Int32 × HP) ⊕ (Int32 × HP)) := (if v1.1 = 0 then (.inr (.inl (v1.1, v1.2))) else (bnd (v_M_isPart v1.2) fun y2 => (if y2.1 = 0 then (.inr (.inr (0, y2.2))) else (bnd (v_M_takes (am_si y2.2 0 14 ((y2.2.1 0 14) + 1)) 59) fun y3 => (.inl (y3.1, y3.2))))))
def ps_M_isWhole_12 (h : HP) (v1 : Int32 × HP) : Prop := ((v1.1 = 0 → True) ∧ (¬ v1.1 = 0 → ((p_M_isPart v1.2) ∧ (∀ y2, v_M_isPart v1.2 = y2 → ((y2.1 = 0 → True) ∧ (¬ y2.1 = 0 → (p_M_takes (am_si y2.2 0 14 ((y2.2.1 0 14) + 1)) 59)))))))
def v_M_isWhole (h : HP) : Int32 × HP := (match itr (s_M_isWhole_12 h) NF (1, (am_si (am_si h 0 12 0) 0 14 0)) with | some (.inl r1) => ((if (r1.2.1 0 12) = (r1.2.1 0 7) then (1 : Int32) else 0), r1.2) | some (.inr q) => q | none => (0, h))
def p_M_isWhole (h : HP) : Prop := (itrp (s_M_isWhole_12 h) (ps_M_isWhole_12 h) NF (1, (am_si (am_si h 0 12 0) 0 14 0)))
def g_M_isWhole (_ _ : List Sh) (as : List Value) (h : HP) : GR := match as with
  | [.ref o1] => (Nat.beq o1 0, p_M_isWhole h, none, some (.int (v_M_isWhole h).1), (v_M_isWhole h).2)
  | _ => bad h
def d_M_isWhole (k : Nat) : CD := (k, yX6_isWhole, cX6_isWhole, 2, some .boolean, 1, 4, 88, 0, false, true, g_M_isWhole)
theorem chk_M_isWhole : ∀ pc, am_chk cX6_isWhole k_M_isWhole pc = true := am_chkall 62 (by decide +kernel) (fun pc h => by unfold k_M_isWhole; rw [Nat.ble_eq_true_of_le h]; rfl)
theorem pf_M_isWhole : plainFor yX6_isWhole = true := by decide +kernel
theorem cu_M_isWhole : Cond.code yX6_isWhole cX6_isWhole 2 (some .boolean) ∈ am_U := am_tb 1084 (by decide +kernel) rfl
set_option maxHeartbeats 20000000 in
set_option maxRecDepth 100000 in
theorem ev_M_isWhole {e1 ro : List Sh} {P : AR → HP → Prop} (h : HP) (hp : p_M_isWhole h) (hP : ∀ q, v_M_isWhole h = q → RIW P h q) : am_Ev m_M_isWhole (WM ++ e1) ro P (0, [.ref 0, .retAddr 0], [], h) := by
  unfold p_M_isWhole at hp
  refine am_Ev_G [12] 400 _ ?_
  show am_Ev m_M_isWhole (WM ++ e1) ro P (12, [.ref 0, .int 1], [], (am_si (am_si h 0 12 0) 0 14 0))
  have hpl := hp
  refine am_itr (E := (fun (v1 : Int32 × HP) => am_Ev m_M_isWhole (WM ++ e1) ro P (12, [.ref 0, .int v1.1], [], v1.2))) (E' := (fun (x : (Int32 × HP) ⊕ (Int32 × HP)) => match x with | .inl r1 => am_Ev m_M_isWhole (WM ++ e1) ro P (45, [.ref 0, .int r1.1], [], r1.2) | .inr q => RIW P h q)) (s_M_isWhole_12 h) (ps_M_isWhole_12 h) ?_ NF (1, (am_si (am_si h 0 12 0) 0 14 0)) hpl ?_
  · intro v1 hp hc1 hx1
    show am_Ev m_M_isWhole (WM ++ e1) ro P (12, [.ref 0, .int v1.1], [], v1.2)
    unfold ps_M_isWhole_12 at hp
    refine am_Ev_G [20, 45] 400 _ ?_
    show ((v1.1 = 0 → am_Ev m_M_isWhole (WM ++ e1) ro P (45, [.ref 0, .int v1.1], [], v1.2)) ∧ (¬ v1.1 = 0 → ((p_M_isPart v1.2) ∧ am_Ev m_M_isWhole (WM ++ e1) ro P (20, [.ref 0, .int v1.1], [.int ((v_M_isPart v1.2).1)], ((v_M_isPart v1.2).2)))))
    refine ⟨fun c1 => ?_, fun c1 => ?_⟩
    · skip
      exact hx1 (.inl (v1.1, v1.2)) (by unfold s_M_isWhole_12; simp only [if_pos c1])
    · have hp := hp.2 c1
      obtain ⟨hob, hp⟩ := hp
      refine ⟨hob, ?_⟩
      obtain ⟨y2, c2⟩ : ∃ y, v_M_isPart v1.2 = y := ⟨_, rfl⟩
      rw [c2]
      have hp := hp _ c2
      show am_Ev m_M_isWhole (WM ++ e1) ro P (20, [.ref 0, .int v1.1], [.int y2.1], y2.2)
      refine am_Ev_G [41] 400 _ ?_
      show ((¬ y2.1 = 0 → ((p_M_takes (am_si y2.2 0 14 ((y2.2.1 0 14) + 1)) 59) ∧ am_Ev m_M_isWhole (WM ++ e1) ro P (41, [.ref 0, .int v1.1], [.int ((v_M_takes (am_si y2.2 0 14 ((y2.2.1 0 14) + 1)) 59).1)], ((v_M_takes (am_si y2.2 0 14 ((y2.2.1 0 14) + 1)) 59).2)))) ∧ (y2.1 = 0 → ((((0 : Int32) = 0 ∨ (0 : Int32) = 1)) ∧ P (.inl (some (.int 0))) y2.2)))
      refine ⟨fun c3 => ?_, fun c3 => ?_⟩
      · have hp := hp.2 c3
        refine ⟨hp, ?_⟩
        obtain ⟨y3, c4⟩ : ∃ y, v_M_takes (am_si y2.2 0 14 ((y2.2.1 0 14) + 1)) 59 = y := ⟨_, rfl⟩
        rw [c4]
        show am_Ev m_M_isWhole (WM ++ e1) ro P (41, [.ref 0, .int v1.1], [.int y3.1], y3.2)
        refine am_Ev_G [12] 400 _ ?_
        show am_Ev m_M_isWhole (WM ++ e1) ro P (12, [.ref 0, .int y3.1], [], y3.2)
        exact hc1 (y3.1, y3.2) (by unfold s_M_isWhole_12; simp only [if_neg c1, bnd, c2, if_neg c3, bnd, c4])
      · skip
        refine ⟨(by decide), ?_⟩
        exact hx1 (.inr (0, y2.2)) (by unfold s_M_isWhole_12; simp only [if_neg c1, bnd, c2, if_pos c3])
  · intro x hr5
    rcases x with r1 | q
    · skip
      show am_Ev m_M_isWhole (WM ++ e1) ro P (45, [.ref 0, .int r1.1], [], r1.2)
      refine am_Ev_G [53] 400 _ ?_
      show am_Ev m_M_isWhole (WM ++ e1) ro P (53, [.ref 0, .int r1.1], [.int (r1.2.1 0 7), .int (r1.2.1 0 12)], r1.2)
      have key6 : am_Ev m_M_isWhole (WM ++ e1) ro P (61, [.ref 0, .int r1.1], [.int (if (r1.2.1 0 12) = (r1.2.1 0 7) then (1 : Int32) else 0)], r1.2) := by
        refine am_Ev_G [] 400 _ ?_
        show (((((if (r1.2.1 0 12) = (r1.2.1 0 7) then (1 : Int32) else 0) : Int32) = 0 ∨ ((if (r1.2.1 0 12) = (r1.2.1 0 7) then (1 : Int32) else 0) : Int32) = 1)) ∧ P (.inl (some (.int (if (r1.2.1 0 12) = (r1.2.1 0 7) then (1 : Int32) else 0)))) r1.2)
        refine ⟨(by (repeat' split) <;> decide), ?_⟩
        exact hP ((if (r1.2.1 0 12) = (r1.2.1 0 7) then (1 : Int32) else 0), r1.2) (by unfold v_M_isWhole; simp only [hr5])
      refine am_Ev_G [61] 400 _ ?_
      show ((¬ (r1.2.1 0 12) = (r1.2.1 0 7) → am_Ev m_M_isWhole (WM ++ e1) ro P (61, [.ref 0, .int r1.1], [.int 0], r1.2)) ∧ ((r1.2.1 0 12) = (r1.2.1 0 7) → am_Ev m_M_isWhole (WM ++ e1) ro P (61, [.ref 0, .int r1.1], [.int 1], r1.2)))
      refine ⟨fun c7 => ?_, fun c7 => ?_⟩
      · skip
        simpa only [if_neg c7] using key6
      · skip
        simpa only [if_pos c7] using key6
    · show RIW P h q
      exact hP q (by unfold v_M_isWhole; simp only [hr5])
theorem ok_M_isWhole {l : Launch} (hl : l.stackTraces = false) (e1 ro : List Sh) (k : Nat) : am_Ok l (WM ++ e1) ro (d_M_isWhole k) := by
  refine am_met hl (own := RX6) (M := m_M_isWhole) rfl pf_M_isWhole cu_M_isWhole rfl rfl rfl rfl (fun _ => rfl) rfl ⟨chk_M_isWhole, (am_c (fl_M_163) (am_c (fl_M_166) (am_c (fl_M_172) am_n))), (am_c (lk_M_178) (am_c (lk_M_184) am_n)), (am_n), (am_n)⟩ (am_n) (am_c (ok_M_takes hl e1 _ 16) (am_c (ok_M_isPart hl e1 _ 16) am_n)) (fun z => nomatch z) ?_ ?_
  · intro _ as h hg
    show g_thr (g_M_isWhole (WM ++ e1) ro as h) = none
    unfold g_M_isWhole
    split <;> rfl
  · intro as h hg hp
    revert hg hp
    show g_ok (g_M_isWhole (WM ++ e1) ro as h) = true → g_pre (g_M_isWhole (WM ++ e1) ro as h) → _ ∧ am_Ev m_M_isWhole (WM ++ e1) ro (am_eq (g_M_isWhole (WM ++ e1) ro as h)) (0, am_ent as 2, [], h)
    unfold g_M_isWhole
    split
    · rename_i o1
      intro hc hp
      change (Nat.beq o1 0) = true at hc
      obtain rfl := am_beq hc
      exact ⟨Nat.le_of_ble_eq_true rfl, ev_M_isWhole h hp eqRIW⟩
    · exact fun z => nomatch z
def k_M_firstError (pc : Nat) : Ent := bif Nat.ble 24 pc then am_nop else bif Nat.ble 12 pc then (bif Nat.ble 19 pc then (bif Nat.ble 20 pc then (bif Nat.ble 23 pc then (bif Nat.beq pc 23 then (.ireturn, 0, 0, []) else am_nop) else (bif Nat.beq pc 20 then (.getfield 166, 0, 0, []) else am_nop)) else (bif Nat.beq pc 19 then (.aload_n 0, 0, 0, []) else am_nop)) else (bif Nat.ble 13 pc then (bif Nat.ble 16 pc then (bif Nat.beq pc 16 then (.goto 7, 0, 23, []) else am_nop) else (bif Nat.beq pc 13 then (.getfield 163, 0, 0, []) else am_nop)) else (bif Nat.beq pc 12 then (.aload_n 0, 0, 0, []) else am_nop))) else (bif Nat.ble 5 pc then (bif Nat.ble 6 pc then (bif Nat.ble 9 pc then (bif Nat.beq pc 9 then (.ifCond .eq 10, 0, 19, []) else am_nop) else (bif Nat.beq pc 6 then (.invokevirtual 188, 0, 0, []) else am_nop)) else (bif Nat.beq pc 5 then (.aload_n 0, 0, 0, []) else am_nop)) else (bif Nat.ble 1 pc then (bif Nat.ble 2 pc then (bif Nat.beq pc 2 then (.putfield 38, 0, 0, []) else am_nop) else (bif Nat.beq pc 1 then (.iconst 0, 0, 0, []) else am_nop)) else (bif Nat.beq pc 0 then (.aload_n 0, 0, 0, []) else am_nop)))
theorem lk_M_188 : am_lnk RX6 188 (d_M_isWhole 16) := ⟨⟨by decide, by decide⟩, am_tb 8 (by decide +kernel) rfl, Or.inr ⟨by decide, rfl, am_tb 1083 (by decide +kernel) rfl, am_tp 89 (by decide +kernel) rfl, ⟨TX6, 16, rfl⟩, Or.inl (am_tb 1081 (by decide +kernel) rfl)⟩⟩
def m_M_firstError : MI := (k_M_firstError, [(38, 6, 8), (163, 6, 7), (166, 6, 12)], [(188, d_M_isWhole 16)], [], [], [], [], 5, 109, some .int, fun _ => 0, 1)
def v_M_firstError (h : HP) : Int32 × HP := (bnd (v_M_isWhole (am_si h 0 8 0)) fun y1 => ((if y1.1 = 0 then y1.2.1 0 12 else y1.2.1 0 7), y1.2))
def p_M_firstError (h : HP) : Prop := (p_M_isWhole (am_si h 0 8 0))
def g_M_firstError (_ _ : List Sh) (as : List Value) (h : HP) : GR := match as with
  | [.ref o1] => (Nat.beq o1 0, p_M_firstError h, none, some (.int (v_M_firstError h).1), (v_M_firstError h).2)
  | _ => bad h
def d_M_firstError (k : Nat) : CD := (k, yX6_firstError, cX6_firstError, 1, some .int, 1, 5, 109, 0, false, true, g_M_firstError)
theorem chk_M_firstError : ∀ pc, am_chk cX6_firstError k_M_firstError pc = true := am_chkall 24 (by decide +kernel) (fun pc h => by unfold k_M_firstError; rw [Nat.ble_eq_true_of_le h]; rfl)
theorem pf_M_firstError : plainFor yX6_firstError = true := by decide +kernel
theorem cu_M_firstError : Cond.code yX6_firstError cX6_firstError 1 (some .int) ∈ am_U := am_tb 1080 (by decide +kernel) rfl
set_option maxHeartbeats 20000000 in
set_option maxRecDepth 100000 in
theorem ev_M_firstError {e1 ro : List Sh} {P : AR → HP → Prop} (h : HP) (hp : p_M_firstError h) (hP : ∀ q, v_M_firstError h = q → RIW P h q) : am_Ev m_M_firstError (WM ++ e1) ro P (0, [.ref 0], [], h) := by
  unfold p_M_firstError at hp
  refine am_Ev_G [9] 400 _ ?_
  show ((p_M_isWhole (am_si h 0 8 0)) ∧ am_Ev m_M_firstError (WM ++ e1) ro P (9, [.ref 0], [.int ((v_M_isWhole (am_si h 0 8 0)).1)], ((v_M_isWhole (am_si h 0 8 0)).2)))
  refine ⟨hp, ?_⟩
  obtain ⟨y1, c1⟩ : ∃ y, v_M_isWhole (am_si h 0 8 0) = y := ⟨_, rfl⟩
  rw [c1]
  show am_Ev m_M_firstError (WM ++ e1) ro P (9, [.ref 0], [.int y1.1], y1.2)
  have key2 : am_Ev m_M_firstError (WM ++ e1) ro P (23, [.ref 0], [.int (if y1.1 = 0 then y1.2.1 0 12 else y1.2.1 0 7)], y1.2) := by
    refine am_Ev_G [] 400 _ ?_
    show P (.inl (some (.int (if y1.1 = 0 then y1.2.1 0 12 else y1.2.1 0 7)))) y1.2
    exact hP ((if y1.1 = 0 then y1.2.1 0 12 else y1.2.1 0 7), y1.2) (by unfold v_M_firstError; simp only [bnd, c1])
  refine am_Ev_G [23] 400 _ ?_
  show ((y1.1 = 0 → am_Ev m_M_firstError (WM ++ e1) ro P (23, [.ref 0], [.int (y1.2.1 0 12)], y1.2)) ∧ (¬ y1.1 = 0 → am_Ev m_M_firstError (WM ++ e1) ro P (23, [.ref 0], [.int (y1.2.1 0 7)], y1.2)))
  refine ⟨fun c3 => ?_, fun c3 => ?_⟩
  · skip
    simpa only [if_pos c3] using key2
  · skip
    simpa only [if_neg c3] using key2
theorem ok_M_firstError {l : Launch} (hl : l.stackTraces = false) (e1 ro : List Sh) (k : Nat) : am_Ok l (WM ++ e1) ro (d_M_firstError k) := by
  refine am_met hl (own := RX6) (M := m_M_firstError) rfl pf_M_firstError cu_M_firstError rfl rfl rfl rfl (fun _ => rfl) rfl ⟨chk_M_firstError, (am_c (fl_M_38) (am_c (fl_M_163) (am_c (fl_M_166) am_n))), (am_c (lk_M_188) am_n), (am_n), (am_n)⟩ (am_n) (am_c (ok_M_isWhole hl e1 _ 16) am_n) (fun z => nomatch z) ?_ ?_
  · intro _ as h hg
    show g_thr (g_M_firstError (WM ++ e1) ro as h) = none
    unfold g_M_firstError
    split <;> rfl
  · intro as h hg hp
    revert hg hp
    show g_ok (g_M_firstError (WM ++ e1) ro as h) = true → g_pre (g_M_firstError (WM ++ e1) ro as h) → _ ∧ am_Ev m_M_firstError (WM ++ e1) ro (am_eq (g_M_firstError (WM ++ e1) ro as h)) (0, am_ent as 1, [], h)
    unfold g_M_firstError
    split
    · rename_i o1
      intro hc hp
      change (Nat.beq o1 0) = true at hc
      obtain rfl := am_beq hc
      exact ⟨Nat.le_of_ble_eq_true rfl, ev_M_firstError h hp eqRIW⟩
    · exact fun z => nomatch z
def k_M_load (pc : Nat) : Ent := bif Nat.ble 136 pc then am_nop else bif Nat.ble 71 pc then (bif Nat.ble 100 pc then (bif Nat.ble 116 pc then (bif Nat.ble 125 pc then (bif Nat.ble 132 pc then (bif Nat.ble 134 pc then (bif Nat.ble 135 pc then (bif Nat.beq pc 135 then (.ireturn, 0, 0, []) else am_nop) else (bif Nat.beq pc 134 then (.iaload, 0, 0, []) else am_nop)) else (bif Nat.beq pc 132 then (.bipush 15, 15, 0, []) else am_nop)) else (bif Nat.ble 128 pc then (bif Nat.ble 129 pc then (bif Nat.beq pc 129 then (.getfield 7, 0, 0, []) else am_nop) else (bif Nat.beq pc 128 then (.aload_n 0, 0, 0, []) else am_nop)) else (bif Nat.beq pc 125 then (.putfield 163, 0, 0, []) else am_nop))) else (bif Nat.ble 120 pc then (bif Nat.ble 123 pc then (bif Nat.ble 124 pc then (bif Nat.beq pc 124 then (.iconst 0, 0, 0, []) else am_nop) else (bif Nat.beq pc 123 then (.aload_n 0, 0, 0, []) else am_nop)) else (bif Nat.beq pc 120 then (.goto (-73), 0, 47, []) else am_nop)) else (bif Nat.ble 117 pc then (bif Nat.beq pc 117 then (.iinc 1 5, 5, 1, []) else am_nop) else (bif Nat.beq pc 116 then (.iastore, 0, 0, []) else am_nop)))) else (bif Nat.ble 107 pc then (bif Nat.ble 113 pc then (bif Nat.ble 114 pc then (bif Nat.ble 115 pc then (bif Nat.beq pc 115 then (.iadd, 0, 0, []) else am_nop) else (bif Nat.beq pc 114 then (.iconst 1, 1, 0, []) else am_nop)) else (bif Nat.beq pc 113 then (.iaload, 0, 0, []) else am_nop)) else (bif Nat.ble 110 pc then (bif Nat.ble 112 pc then (bif Nat.beq pc 112 then (.dup2, 0, 0, []) else am_nop) else (bif Nat.beq pc 110 then (.bipush 15, 15, 0, []) else am_nop)) else (bif Nat.beq pc 107 then (.getfield 7, 0, 0, []) else am_nop))) else (bif Nat.ble 102 pc then (bif Nat.ble 103 pc then (bif Nat.ble 106 pc then (bif Nat.beq pc 106 then (.aload_n 0, 0, 0, []) else am_nop) else (bif Nat.beq pc 103 then (.invokevirtual 144, 0, 0, []) else am_nop)) else (bif Nat.beq pc 102 then (.iaload, 0, 0, []) else am_nop)) else (bif Nat.ble 101 pc then (bif Nat.beq pc 101 then (.iadd, 0, 0, []) else am_nop) else (bif Nat.beq pc 100 then (.iconst 4, 4, 0, []) else am_nop))))) else (bif Nat.ble 85 pc then (bif Nat.ble 92 pc then (bif Nat.ble 95 pc then (bif Nat.ble 96 pc then (bif Nat.ble 99 pc then (bif Nat.beq pc 99 then (.iload_n 1, 0, 1, []) else am_nop) else (bif Nat.beq pc 96 then (.getfield 35, 0, 0, []) else am_nop)) else (bif Nat.beq pc 95 then (.aload_n 0, 0, 0, []) else am_nop)) else (bif Nat.ble 93 pc then (bif Nat.ble 94 pc then (bif Nat.beq pc 94 then (.iaload, 0, 0, []) else am_nop) else (bif Nat.beq pc 93 then (.iadd, 0, 0, []) else am_nop)) else (bif Nat.beq pc 92 then (.iconst 3, 3, 0, []) else am_nop))) else (bif Nat.ble 87 pc then (bif Nat.ble 88 pc then (bif Nat.ble 91 pc then (bif Nat.beq pc 91 then (.iload_n 1, 0, 1, []) else am_nop) else (bif Nat.beq pc 88 then (.getfield 35, 0, 0, []) else am_nop)) else (bif Nat.beq pc 87 then (.aload_n 0, 0, 0, []) else am_nop)) else (bif Nat.ble 86 pc then (bif Nat.beq pc 86 then (.iaload, 0, 0, []) else am_nop) else (bif Nat.beq pc 85 then (.iadd, 0, 0, []) else am_nop)))) else (bif Nat.ble 78 pc then (bif Nat.ble 80 pc then (bif Nat.ble 83 pc then (bif Nat.ble 84 pc then (bif Nat.beq pc 84 then (.iconst 2, 2, 0, []) else am_nop) else (bif Nat.beq pc 83 then (.iload_n 1, 0, 1, []) else am_nop)) else (bif Nat.beq pc 80 then (.getfield 35, 0, 0, []) else am_nop)) else (bif Nat.ble 79 pc then (bif Nat.beq pc 79 then (.aload_n 0, 0, 0, []) else am_nop) else (bif Nat.beq pc 78 then (.iaload, 0, 0, []) else am_nop))) else (bif Nat.ble 75 pc then (bif Nat.ble 76 pc then (bif Nat.ble 77 pc then (bif Nat.beq pc 77 then (.iadd, 0, 0, []) else am_nop) else (bif Nat.beq pc 76 then (.iconst 1, 1, 0, []) else am_nop)) else (bif Nat.beq pc 75 then (.iload_n 1, 0, 1, []) else am_nop)) else (bif Nat.ble 72 pc then (bif Nat.beq pc 72 then (.getfield 35, 0, 0, []) else am_nop) else (bif Nat.beq pc 71 then (.aload_n 0, 0, 0, []) else am_nop)))))) else (bif Nat.ble 37 pc then (bif Nat.ble 53 pc then (bif Nat.ble 62 pc then (bif Nat.ble 66 pc then (bif Nat.ble 69 pc then (bif Nat.ble 70 pc then (bif Nat.beq pc 70 then (.iaload, 0, 0, []) else am_nop) else (bif Nat.beq pc 69 then (.iload_n 1, 0, 1, []) else am_nop)) else (bif Nat.beq pc 66 then (.getfield 35, 0, 0, []) else am_nop)) else (bif Nat.ble 64 pc then (bif Nat.ble 65 pc then (bif Nat.beq pc 65 then (.aload_n 0, 0, 0, []) else am_nop) else (bif Nat.beq pc 64 then (.iaload, 0, 0, []) else am_nop)) else (bif Nat.beq pc 62 then (.bipush 15, 15, 0, []) else am_nop))) else (bif Nat.ble 57 pc then (bif Nat.ble 58 pc then (bif Nat.ble 59 pc then (bif Nat.beq pc 59 then (.getfield 7, 0, 0, []) else am_nop) else (bif Nat.beq pc 58 then (.aload_n 0, 0, 0, []) else am_nop)) else (bif Nat.beq pc 57 then (.aload_n 0, 0, 0, []) else am_nop)) else (bif Nat.ble 54 pc then (bif Nat.beq pc 54 then (.if_icmp .ge 69, 0, 123, []) else am_nop) else (bif Nat.beq pc 53 then (.imul, 0, 0, []) else am_nop)))) else (bif Nat.ble 46 pc then (bif Nat.ble 48 pc then (bif Nat.ble 49 pc then (bif Nat.ble 50 pc then (bif Nat.beq pc 50 then (.getfield 172, 0, 0, []) else am_nop) else (bif Nat.beq pc 49 then (.aload_n 0, 0, 0, []) else am_nop)) else (bif Nat.beq pc 48 then (.iconst 5, 5, 0, []) else am_nop)) else (bif Nat.ble 47 pc then (bif Nat.beq pc 47 then (.iload_n 1, 0, 1, []) else am_nop) else (bif Nat.beq pc 46 then (.istore_n 1, 0, 1, []) else am_nop))) else (bif Nat.ble 41 pc then (bif Nat.ble 42 pc then (bif Nat.ble 45 pc then (bif Nat.beq pc 45 then (.iconst 0, 0, 0, []) else am_nop) else (bif Nat.beq pc 42 then (.invokevirtual 137, 0, 0, []) else am_nop)) else (bif Nat.beq pc 41 then (.aload_n 0, 0, 0, []) else am_nop)) else (bif Nat.ble 40 pc then (bif Nat.beq pc 40 then (.ireturn, 0, 0, []) else am_nop) else (bif Nat.beq pc 37 then (.invokevirtual 134, 0, 0, []) else am_nop))))) else (bif Nat.ble 18 pc then (bif Nat.ble 26 pc then (bif Nat.ble 32 pc then (bif Nat.ble 35 pc then (bif Nat.ble 36 pc then (bif Nat.beq pc 36 then (.iconst 2, 2, 0, []) else am_nop) else (bif Nat.beq pc 35 then (.aload_n 0, 0, 0, []) else am_nop)) else (bif Nat.beq pc 32 then (.if_icmp .le 9, 0, 41, []) else am_nop)) else (bif Nat.ble 29 pc then (bif Nat.ble 30 pc then (bif Nat.beq pc 30 then (.bipush 20, 20, 0, []) else am_nop) else (bif Nat.beq pc 29 then (.iadd, 0, 0, []) else am_nop)) else (bif Nat.beq pc 26 then (.getfield 172, 0, 0, []) else am_nop))) else (bif Nat.ble 22 pc then (bif Nat.ble 24 pc then (bif Nat.ble 25 pc then (bif Nat.beq pc 25 then (.aload_n 0, 0, 0, []) else am_nop) else (bif Nat.beq pc 24 then (.iaload, 0, 0, []) else am_nop)) else (bif Nat.beq pc 22 then (.bipush 15, 15, 0, []) else am_nop)) else (bif Nat.ble 19 pc then (bif Nat.beq pc 19 then (.getfield 7, 0, 0, []) else am_nop) else (bif Nat.beq pc 18 then (.aload_n 0, 0, 0, []) else am_nop)))) else (bif Nat.ble 9 pc then (bif Nat.ble 13 pc then (bif Nat.ble 14 pc then (bif Nat.ble 17 pc then (bif Nat.beq pc 17 then (.ireturn, 0, 0, []) else am_nop) else (bif Nat.beq pc 14 then (.invokevirtual 134, 0, 0, []) else am_nop)) else (bif Nat.beq pc 13 then (.iconst 1, 1, 0, []) else am_nop)) else (bif Nat.ble 12 pc then (bif Nat.beq pc 12 then (.aload_n 0, 0, 0, []) else am_nop) else (bif Nat.beq pc 9 then (.ifCond .ne 9, 0, 18, []) else am_nop))) else (bif Nat.ble 2 pc then (bif Nat.ble 5 pc then (bif Nat.ble 6 pc then (bif Nat.beq pc 6 then (.invokevirtual 188, 0, 0, []) else am_nop) else (bif Nat.beq pc 5 then (.aload_n 0, 0, 0, []) else am_nop)) else (bif Nat.beq pc 2 then (.putfield 38, 0, 0, []) else am_nop)) else (bif Nat.ble 1 pc then (bif Nat.beq pc 1 then (.iconst 0, 0, 0, []) else am_nop) else (bif Nat.beq pc 0 then (.aload_n 0, 0, 0, []) else am_nop))))))
def m_M_load : MI := (k_M_load, [(7, 6, 0), (35, 6, 13), (38, 6, 8), (163, 6, 7), (172, 6, 14)], [(134, d_M_refuses 16), (137, d_M_saves 16), (144, d_M_puts 16), (188, d_M_isWhole 16)], [], [], [], [], 5, 109, some .int, fun _ => 0, 1)
def s_M_load_47 (h : HP) (y1 : Int32 × HP) (y2 : HP) (v1 : Int32 × HP) : (Int32 × HP) ⊕ (Int32 × HP) := (if v1.1 < (5 * (v1.2.1 0 14)) then (bnd (v_M_puts v1.2 (v1.2.1 1 (am_ix 15)) (v1.2.1 9 (am_ix v1.1)) (v1.2.1 9 (am_ix (v1.1 + 1))) (v1.2.1 9 (am_ix (v1.1 + 2))) (v1.2.1 9 (am_ix (v1.1 + 3))) (v1.2.1 9 (am_ix (v1.1 + 4)))) fun y4 => (.inl ((v1.1 + 5), (am_si y4 1 (am_ix 15) ((y4.1 1 (am_ix 15)) + 1))))) else (.inr (v1.1, v1.2)))
def ps_M_load_47 (h : HP) (y1 : Int32 × HP) (y2 : HP) (v1 : Int32 × HP) : Prop := ((v1.1 < (5 * (v1.2.1 0 14)) → ((am_in v1.1 40) ∧ ((am_in (v1.1 + 1) 40) ∧ ((am_in (v1.1 + 2) 40) ∧ ((am_in (v1.1 + 3) 40) ∧ ((am_in (v1.1 + 4) 40) ∧ (p_M_puts v1.2 (v1.2.1 1 (am_ix 15)) (v1.2.1 9 (am_ix v1.1)) (v1.2.1 9 (am_ix (v1.1 + 1))) (v1.2.1 9 (am_ix (v1.1 + 2))) (v1.2.1 9 (am_ix (v1.1 + 3))) (v1.2.1 9 (am_ix (v1.1 + 4)))))))))) ∧ (¬ v1.1 < (5 * (v1.2.1 0 14)) → True))
def v_M_load (h : HP) : Int32 × HP := (bnd (v_M_isWhole (am_si h 0 8 0)) fun y1 => (if y1.1 = 0 then (bnd (v_M_refuses y1.2 1) fun y6 => (y6.1, y6.2)) else (if ((y1.2.1 1 (am_ix 15)) + (y1.2.1 0 14)) ≤ 20 then (bnd (v_M_saves y1.2) fun y2 => (match itr (s_M_load_47 h y1 y2) NF (0, y2) with | some r3 => ((am_si r3.2 0 7 0).1 1 (am_ix 15), (am_si r3.2 0 7 0)) | none => (0, h))) else (bnd (v_M_refuses y1.2 2) fun y5 => (y5.1, y5.2)))))
def p_M_load (h : HP) : Prop := ((p_M_isWhole (am_si h 0 8 0)) ∧ (∀ y1, v_M_isWhole (am_si h 0 8 0) = y1 → ((y1.1 = 0 → True) ∧ (¬ y1.1 = 0 → ((((y1.2.1 1 (am_ix 15)) + (y1.2.1 0 14)) ≤ 20 → ((p_M_saves y1.2) ∧ (∀ y2, v_M_saves y1.2 = y2 → (itrp (s_M_load_47 h y1 y2) (ps_M_load_47 h y1 y2) NF (0, y2))))) ∧ (¬ ((y1.2.1 1 (am_ix 15)) + (y1.2.1 0 14)) ≤ 20 → True))))))
def g_M_load (_ _ : List Sh) (as : List Value) (h : HP) : GR := match as with
  | [.ref o1] => (Nat.beq o1 0, p_M_load h, none, some (.int (v_M_load h).1), (v_M_load h).2)
  | _ => bad h
def d_M_load (k : Nat) : CD := (k, yX6_load, cX6_load, 2, some .int, 1, 5, 109, 0, false, true, g_M_load)
theorem chk_M_load : ∀ pc, am_chk cX6_load k_M_load pc = true := am_chkall 136 (by decide +kernel) (fun pc h => by unfold k_M_load; rw [Nat.ble_eq_true_of_le h]; rfl)
theorem pf_M_load : plainFor yX6_load = true := by decide +kernel
theorem cu_M_load : Cond.code yX6_load cX6_load 2 (some .int) ∈ am_U := am_tb 1108 (by decide +kernel) rfl
set_option maxHeartbeats 20000000 in
set_option maxRecDepth 100000 in
theorem ev_M_load {e1 ro : List Sh} {P : AR → HP → Prop} (h : HP) (hp : p_M_load h) (hP : ∀ q, v_M_load h = q → RIW P h q) : am_Ev m_M_load (WM ++ e1) ro P (0, [.ref 0, .retAddr 0], [], h) := by
  unfold p_M_load at hp
  refine am_Ev_G [9] 400 _ ?_
  show ((p_M_isWhole (am_si h 0 8 0)) ∧ am_Ev m_M_load (WM ++ e1) ro P (9, [.ref 0, .retAddr 0], [.int ((v_M_isWhole (am_si h 0 8 0)).1)], ((v_M_isWhole (am_si h 0 8 0)).2)))
  obtain ⟨hob, hp⟩ := hp
  refine ⟨hob, ?_⟩
  obtain ⟨y1, c1⟩ : ∃ y, v_M_isWhole (am_si h 0 8 0) = y := ⟨_, rfl⟩
  rw [c1]
  have hp := hp _ c1
  show am_Ev m_M_load (WM ++ e1) ro P (9, [.ref 0, .retAddr 0], [.int y1.1], y1.2)
  refine am_Ev_G [17, 40, 45] 400 _ ?_
  show ((¬ y1.1 = 0 → ((am_in 15 163) ∧ ((((y1.2.1 1 (am_ix 15)) + (y1.2.1 0 14)) ≤ 20 → ((p_M_saves y1.2) ∧ am_Ev m_M_load (WM ++ e1) ro P (45, [.ref 0, .retAddr 0], [], (v_M_saves y1.2)))) ∧ (¬ ((y1.2.1 1 (am_ix 15)) + (y1.2.1 0 14)) ≤ 20 → am_Ev m_M_load (WM ++ e1) ro P (40, [.ref 0, .retAddr 0], [.int ((v_M_refuses y1.2 2).1)], ((v_M_refuses y1.2 2).2)))))) ∧ (y1.1 = 0 → am_Ev m_M_load (WM ++ e1) ro P (17, [.ref 0, .retAddr 0], [.int ((v_M_refuses y1.2 1).1)], ((v_M_refuses y1.2 1).2))))
  refine ⟨fun c2 => ?_, fun c2 => ?_⟩
  · have hp := hp.2 c2
    refine ⟨⟨by decide, by decide⟩, ?_⟩
    refine ⟨fun c3 => ?_, fun c3 => ?_⟩
    · have hp := hp.1 c3
      obtain ⟨hob, hp⟩ := hp
      refine ⟨hob, ?_⟩
      obtain ⟨y2, c4⟩ : ∃ y, v_M_saves y1.2 = y := ⟨_, rfl⟩
      rw [c4]
      have hp := hp _ c4
      show am_Ev m_M_load (WM ++ e1) ro P (45, [.ref 0, .retAddr 0], [], y2)
      refine am_Ev_G [47] 400 _ ?_
      show am_Ev m_M_load (WM ++ e1) ro P (47, [.ref 0, .int 0], [], y2)
      have hpl := hp
      refine am_itr (E := (fun (v1 : Int32 × HP) => am_Ev m_M_load (WM ++ e1) ro P (47, [.ref 0, .int v1.1], [], v1.2))) (E' := (fun (r3 : Int32 × HP) => am_Ev m_M_load (WM ++ e1) ro P (123, [.ref 0, .int r3.1], [], r3.2))) (s_M_load_47 h y1 y2) (ps_M_load_47 h y1 y2) ?_ NF (0, y2) hpl ?_
      · intro v1 hp hc1 hx1
        show am_Ev m_M_load (WM ++ e1) ro P (47, [.ref 0, .int v1.1], [], v1.2)
        unfold ps_M_load_47 at hp
        refine am_Ev_G [65, 123] 400 _ ?_
        show ((¬ v1.1 < (5 * (v1.2.1 0 14)) → am_Ev m_M_load (WM ++ e1) ro P (123, [.ref 0, .int v1.1], [], v1.2)) ∧ (v1.1 < (5 * (v1.2.1 0 14)) → ((am_in 15 163) ∧ am_Ev m_M_load (WM ++ e1) ro P (65, [.ref 0, .int v1.1], [.int (v1.2.1 1 (am_ix 15)), .ref 0], v1.2))))
        refine ⟨fun c5 => ?_, fun c5 => ?_⟩
        · skip
          exact hx1 (v1.1, v1.2) (by unfold s_M_load_47; simp only [if_neg c5])
        · have hp := hp.1 c5
          refine ⟨⟨by decide, by decide⟩, ?_⟩
          refine am_Ev_G [87] 400 _ ?_
          show ((am_in v1.1 40) ∧ ((am_in (v1.1 + 1) 40) ∧ ((am_in (v1.1 + 2) 40) ∧ am_Ev m_M_load (WM ++ e1) ro P (87, [.ref 0, .int v1.1], [.int (v1.2.1 9 (am_ix (v1.1 + 2))), .int (v1.2.1 9 (am_ix (v1.1 + 1))), .int (v1.2.1 9 (am_ix v1.1)), .int (v1.2.1 1 (am_ix 15)), .ref 0], v1.2))))
          obtain ⟨hob, hp⟩ := hp
          refine ⟨hob, ?_⟩
          obtain ⟨hob, hp⟩ := hp
          refine ⟨hob, ?_⟩
          obtain ⟨hob, hp⟩ := hp
          refine ⟨hob, ?_⟩
          refine am_Ev_G [106] 400 _ ?_
          show ((am_in (v1.1 + 3) 40) ∧ ((am_in (v1.1 + 4) 40) ∧ ((p_M_puts v1.2 (v1.2.1 1 (am_ix 15)) (v1.2.1 9 (am_ix v1.1)) (v1.2.1 9 (am_ix (v1.1 + 1))) (v1.2.1 9 (am_ix (v1.1 + 2))) (v1.2.1 9 (am_ix (v1.1 + 3))) (v1.2.1 9 (am_ix (v1.1 + 4)))) ∧ am_Ev m_M_load (WM ++ e1) ro P (106, [.ref 0, .int v1.1], [], (v_M_puts v1.2 (v1.2.1 1 (am_ix 15)) (v1.2.1 9 (am_ix v1.1)) (v1.2.1 9 (am_ix (v1.1 + 1))) (v1.2.1 9 (am_ix (v1.1 + 2))) (v1.2.1 9 (am_ix (v1.1 + 3))) (v1.2.1 9 (am_ix (v1.1 + 4))))))))
          obtain ⟨hob, hp⟩ := hp
          refine ⟨hob, ?_⟩
          obtain ⟨hob, hp⟩ := hp
          refine ⟨hob, ?_⟩
          refine ⟨hp, ?_⟩
          obtain ⟨y4, c6⟩ : ∃ y, v_M_puts v1.2 (v1.2.1 1 (am_ix 15)) (v1.2.1 9 (am_ix v1.1)) (v1.2.1 9 (am_ix (v1.1 + 1))) (v1.2.1 9 (am_ix (v1.1 + 2))) (v1.2.1 9 (am_ix (v1.1 + 3))) (v1.2.1 9 (am_ix (v1.1 + 4))) = y := ⟨_, rfl⟩
          rw [c6]
          show am_Ev m_M_load (WM ++ e1) ro P (106, [.ref 0, .int v1.1], [], y4)
          refine am_Ev_G [47] 400 _ ?_
          show ((am_in 15 163) ∧ ((am_in 15 163) ∧ am_Ev m_M_load (WM ++ e1) ro P (47, [.ref 0, .int (v1.1 + 5)], [], (am_si y4 1 (am_ix 15) ((y4.1 1 (am_ix 15)) + 1)))))
          refine ⟨⟨by decide, by decide⟩, ?_⟩
          refine ⟨⟨by decide, by decide⟩, ?_⟩
          exact hc1 ((v1.1 + 5), (am_si y4 1 (am_ix 15) ((y4.1 1 (am_ix 15)) + 1))) (by unfold s_M_load_47; simp only [if_pos c5, bnd, c6])
      · intro r3 hr7
        show am_Ev m_M_load (WM ++ e1) ro P (123, [.ref 0, .int r3.1], [], r3.2)
        refine am_Ev_G [134] 400 _ ?_
        show am_Ev m_M_load (WM ++ e1) ro P (134, [.ref 0, .int r3.1], [.int 15, .ref 1], (am_si r3.2 0 7 0))
        refine am_Ev_G [] 400 _ ?_
        show ((am_in 15 163) ∧ P (.inl (some (.int ((am_si r3.2 0 7 0).1 1 (am_ix 15))))) (am_si r3.2 0 7 0))
        refine ⟨⟨by decide, by decide⟩, ?_⟩
        exact hP ((am_si r3.2 0 7 0).1 1 (am_ix 15), (am_si r3.2 0 7 0)) (by unfold v_M_load; simp only [bnd, c1, if_neg c2, if_pos c3, bnd, c4, hr7])
    · skip
      obtain ⟨y5, c8⟩ : ∃ y, v_M_refuses y1.2 2 = y := ⟨_, rfl⟩
      rw [c8]
      show am_Ev m_M_load (WM ++ e1) ro P (40, [.ref 0, .retAddr 0], [.int y5.1], y5.2)
      refine am_Ev_G [] 400 _ ?_
      show P (.inl (some (.int y5.1))) y5.2
      exact hP (y5.1, y5.2) (by unfold v_M_load; simp only [bnd, c1, if_neg c2, if_neg c3, bnd, c8])
  · skip
    obtain ⟨y6, c9⟩ : ∃ y, v_M_refuses y1.2 1 = y := ⟨_, rfl⟩
    rw [c9]
    show am_Ev m_M_load (WM ++ e1) ro P (17, [.ref 0, .retAddr 0], [.int y6.1], y6.2)
    refine am_Ev_G [] 400 _ ?_
    show P (.inl (some (.int y6.1))) y6.2
    exact hP (y6.1, y6.2) (by unfold v_M_load; simp only [bnd, c1, if_pos c2, bnd, c9])
theorem ok_M_load {l : Launch} (hl : l.stackTraces = false) (e1 ro : List Sh) (k : Nat) : am_Ok l (WM ++ e1) ro (d_M_load k) := by
  refine am_met hl (own := RX6) (M := m_M_load) rfl pf_M_load cu_M_load rfl rfl rfl rfl (fun _ => rfl) rfl ⟨chk_M_load, (am_c (fl_M_7) (am_c (fl_M_35) (am_c (fl_M_38) (am_c (fl_M_163) (am_c (fl_M_172) am_n))))), (am_c (lk_M_134) (am_c (lk_M_137) (am_c (lk_M_144) (am_c (lk_M_188) am_n)))), (am_n), (am_n)⟩ (am_n) (am_c (ok_M_refuses hl e1 _ 16) (am_c (ok_M_saves hl e1 _ 16) (am_c (ok_M_puts hl e1 _ 16) (am_c (ok_M_isWhole hl e1 _ 16) am_n)))) (fun z => nomatch z) ?_ ?_
  · intro _ as h hg
    show g_thr (g_M_load (WM ++ e1) ro as h) = none
    unfold g_M_load
    split <;> rfl
  · intro as h hg hp
    revert hg hp
    show g_ok (g_M_load (WM ++ e1) ro as h) = true → g_pre (g_M_load (WM ++ e1) ro as h) → _ ∧ am_Ev m_M_load (WM ++ e1) ro (am_eq (g_M_load (WM ++ e1) ro as h)) (0, am_ent as 2, [], h)
    unfold g_M_load
    split
    · rename_i o1
      intro hc hp
      change (Nat.beq o1 0) = true at hc
      obtain rfl := am_beq hc
      exact ⟨Nat.le_of_ble_eq_true rfl, ev_M_load h hp eqRIW⟩
    · exact fun z => nomatch z
def k_M_keep (pc : Nat) : Ent := bif Nat.ble 52 pc then am_nop else bif Nat.ble 25 pc then (bif Nat.ble 41 pc then (bif Nat.ble 45 pc then (bif Nat.ble 50 pc then (bif Nat.ble 51 pc then (bif Nat.beq pc 51 then (.ireturn, 0, 0, []) else am_nop) else (bif Nat.beq pc 50 then (.iaload, 0, 0, []) else am_nop)) else (bif Nat.ble 48 pc then (bif Nat.beq pc 48 then (.bipush 15, 15, 0, []) else am_nop) else (bif Nat.beq pc 45 then (.getfield 7, 0, 0, []) else am_nop))) else (bif Nat.ble 43 pc then (bif Nat.ble 44 pc then (bif Nat.beq pc 44 then (.aload_n 0, 0, 0, []) else am_nop) else (bif Nat.beq pc 43 then (.bastore, 0, 0, []) else am_nop)) else (bif Nat.ble 42 pc then (bif Nat.beq pc 42 then (.iconst 1, 1, 0, []) else am_nop) else (bif Nat.beq pc 41 then (.iload_n 1, 0, 1, []) else am_nop)))) else (bif Nat.ble 33 pc then (bif Nat.ble 37 pc then (bif Nat.ble 38 pc then (bif Nat.beq pc 38 then (.getfield 22, 0, 0, []) else am_nop) else (bif Nat.beq pc 37 then (.aload_n 0, 0, 0, []) else am_nop)) else (bif Nat.ble 34 pc then (bif Nat.beq pc 34 then (.invokestatic 45, 0, 0, []) else am_nop) else (bif Nat.beq pc 33 then (.imul, 0, 0, []) else am_nop))) else (bif Nat.ble 29 pc then (bif Nat.ble 32 pc then (bif Nat.beq pc 32 then (.iload_n 1, 0, 1, []) else am_nop) else (bif Nat.beq pc 29 then (.sipush 163, 163, 0, []) else am_nop)) else (bif Nat.ble 26 pc then (bif Nat.beq pc 26 then (.getfield 19, 0, 0, []) else am_nop) else (bif Nat.beq pc 25 then (.aload_n 0, 0, 0, []) else am_nop))))) else (bif Nat.ble 11 pc then (bif Nat.ble 19 pc then (bif Nat.ble 21 pc then (bif Nat.ble 24 pc then (bif Nat.beq pc 24 then (.iconst 0, 0, 0, []) else am_nop) else (bif Nat.beq pc 21 then (.getfield 7, 0, 0, []) else am_nop)) else (bif Nat.ble 20 pc then (bif Nat.beq pc 20 then (.aload_n 0, 0, 0, []) else am_nop) else (bif Nat.beq pc 19 then (.ireturn, 0, 0, []) else am_nop))) else (bif Nat.ble 15 pc then (bif Nat.ble 16 pc then (bif Nat.beq pc 16 then (.invokevirtual 134, 0, 0, []) else am_nop) else (bif Nat.beq pc 15 then (.iconst 1, 1, 0, []) else am_nop)) else (bif Nat.ble 14 pc then (bif Nat.beq pc 14 then (.aload_n 0, 0, 0, []) else am_nop) else (bif Nat.beq pc 11 then (.ifCond .ne 9, 0, 20, []) else am_nop)))) else (bif Nat.ble 5 pc then (bif Nat.ble 7 pc then (bif Nat.ble 8 pc then (bif Nat.beq pc 8 then (.invokestatic 127, 0, 0, []) else am_nop) else (bif Nat.beq pc 7 then (.iconst 1, 1, 0, []) else am_nop)) else (bif Nat.ble 6 pc then (bif Nat.beq pc 6 then (.iconst 0, 0, 0, []) else am_nop) else (bif Nat.beq pc 5 then (.iload_n 1, 0, 1, []) else am_nop))) else (bif Nat.ble 1 pc then (bif Nat.ble 2 pc then (bif Nat.beq pc 2 then (.putfield 38, 0, 0, []) else am_nop) else (bif Nat.beq pc 1 then (.iconst 0, 0, 0, []) else am_nop)) else (bif Nat.beq pc 0 then (.aload_n 0, 0, 0, []) else am_nop))))
theorem fl_M_19 : am_fok RX6 19 (6, 4) := ⟨RX6, TX6, 16, rfl, by decide, rfl, Or.inl (am_tb 888 (by decide +kernel) rfl)⟩
theorem fl_M_22 : am_fok RX6 22 (6, 5) := ⟨RX6, TX6, 16, rfl, by decide, rfl, Or.inl (am_tb 889 (by decide +kernel) rfl)⟩
def m_M_keep : MI := (k_M_keep, [(7, 6, 0), (19, 6, 4), (22, 6, 5), (38, 6, 8)], [(45, d_M_lays 0), (127, d_M_in 0), (134, d_M_refuses 16)], [], [], [], [], 1, 24, some .int, fun _ => 0, 1)
def v_M_keep (h : HP) (a1 : Int32) : Int32 × HP := (if (v_M_in (am_si h 0 8 0) a1 0 1) = 0 then (bnd (v_M_refuses (am_si h 0 8 0) 1) fun y1 => (y1.1, y1.2)) else ((am_si (v_lays (am_si h 0 8 0) 1 0 4 (163 * a1)) 5 (am_ix a1) 1).1 1 (am_ix 15), (am_si (v_lays (am_si h 0 8 0) 1 0 4 (163 * a1)) 5 (am_ix a1) 1)))
def p_M_keep (h : HP) (a1 : Int32) : Prop := (((v_M_in (am_si h 0 8 0) a1 0 1) = 0 → True) ∧ (¬ (v_M_in (am_si h 0 8 0) a1 0 1) = 0 → ((p_lays 0 (163 * a1) 163 326) ∧ (am_in a1 2))))
def g_M_keep (_ _ : List Sh) (as : List Value) (h : HP) : GR := match as with
  | [.ref o1, .int a1] => (Nat.beq o1 0, p_M_keep h a1, none, some (.int (v_M_keep h a1).1), (v_M_keep h a1).2)
  | _ => bad h
def d_M_keep (k : Nat) : CD := (k, yX6_keep, cX6_keep, 2, some .int, 2, 1, 24, 0, false, true, g_M_keep)
theorem chk_M_keep : ∀ pc, am_chk cX6_keep k_M_keep pc = true := am_chkall 52 (by decide +kernel) (fun pc h => by unfold k_M_keep; rw [Nat.ble_eq_true_of_le h]; rfl)
theorem pf_M_keep : plainFor yX6_keep = true := by decide +kernel
theorem cu_M_keep : Cond.code yX6_keep cX6_keep 2 (some .int) ∈ am_U := am_tb 1112 (by decide +kernel) rfl
set_option maxHeartbeats 20000000 in
set_option maxRecDepth 100000 in
theorem ev_M_keep {e1 ro : List Sh} {P : AR → HP → Prop} (h : HP) (a1 : Int32) (hp : p_M_keep h a1) (hP : ∀ q, v_M_keep h a1 = q → RIW P h q) : am_Ev m_M_keep (WM ++ e1) ro P (0, [.ref 0, .int a1], [], h) := by
  unfold p_M_keep at hp
  refine am_Ev_G [11] 400 _ ?_
  show am_Ev m_M_keep (WM ++ e1) ro P (11, [.ref 0, .int a1], [.int (v_M_in (am_si h 0 8 0) a1 0 1)], (am_si h 0 8 0))
  refine am_Ev_G [19, 37] 400 _ ?_
  show ((¬ (v_M_in (am_si h 0 8 0) a1 0 1) = 0 → ((p_lays 0 (163 * a1) 163 326) ∧ am_Ev m_M_keep (WM ++ e1) ro P (37, [.ref 0, .int a1], [], (v_lays (am_si h 0 8 0) 1 0 4 (163 * a1))))) ∧ ((v_M_in (am_si h 0 8 0) a1 0 1) = 0 → am_Ev m_M_keep (WM ++ e1) ro P (19, [.ref 0, .int a1], [.int ((v_M_refuses (am_si h 0 8 0) 1).1)], ((v_M_refuses (am_si h 0 8 0) 1).2))))
  refine ⟨fun c1 => ?_, fun c1 => ?_⟩
  · have hp := hp.2 c1
    obtain ⟨hob, hp⟩ := hp
    refine ⟨hob, ?_⟩
    refine am_Ev_G [] 400 _ ?_
    show ((((1 : Int32) = 0 ∨ (1 : Int32) = 1)) ∧ ((am_in a1 2) ∧ ((am_in 15 163) ∧ P (.inl (some (.int ((am_si (v_lays (am_si h 0 8 0) 1 0 4 (163 * a1)) 5 (am_ix a1) 1).1 1 (am_ix 15))))) (am_si (v_lays (am_si h 0 8 0) 1 0 4 (163 * a1)) 5 (am_ix a1) 1))))
    refine ⟨(by decide), ?_⟩
    refine ⟨hp, ?_⟩
    refine ⟨⟨by decide, by decide⟩, ?_⟩
    exact hP ((am_si (v_lays (am_si h 0 8 0) 1 0 4 (163 * a1)) 5 (am_ix a1) 1).1 1 (am_ix 15), (am_si (v_lays (am_si h 0 8 0) 1 0 4 (163 * a1)) 5 (am_ix a1) 1)) (by unfold v_M_keep; simp only [if_neg c1])
  · skip
    obtain ⟨y1, c2⟩ : ∃ y, v_M_refuses (am_si h 0 8 0) 1 = y := ⟨_, rfl⟩
    rw [c2]
    show am_Ev m_M_keep (WM ++ e1) ro P (19, [.ref 0, .int a1], [.int y1.1], y1.2)
    refine am_Ev_G [] 400 _ ?_
    show P (.inl (some (.int y1.1))) y1.2
    exact hP (y1.1, y1.2) (by unfold v_M_keep; simp only [if_pos c1, bnd, c2])
theorem ok_M_keep {l : Launch} (hl : l.stackTraces = false) (e1 ro : List Sh) (k : Nat) : am_Ok l (WM ++ e1) ro (d_M_keep k) := by
  refine am_met hl (own := RX6) (M := m_M_keep) rfl pf_M_keep cu_M_keep rfl rfl rfl rfl (fun _ => rfl) rfl ⟨chk_M_keep, (am_c (fl_M_7) (am_c (fl_M_19) (am_c (fl_M_22) (am_c (fl_M_38) am_n)))), (am_c (lk_M_45) (am_c (lk_M_127) (am_c (lk_M_134) am_n))), (am_n), (am_n)⟩ (am_n) (am_c (ok_M_lays hl _ _ 0) (am_c (ok_M_in hl e1 _ 0) (am_c (ok_M_refuses hl e1 _ 16) am_n))) (fun z => nomatch z) ?_ ?_
  · intro _ as h hg
    show g_thr (g_M_keep (WM ++ e1) ro as h) = none
    unfold g_M_keep
    split <;> rfl
  · intro as h hg hp
    revert hg hp
    show g_ok (g_M_keep (WM ++ e1) ro as h) = true → g_pre (g_M_keep (WM ++ e1) ro as h) → _ ∧ am_Ev m_M_keep (WM ++ e1) ro (am_eq (g_M_keep (WM ++ e1) ro as h)) (0, am_ent as 2, [], h)
    unfold g_M_keep
    split
    · rename_i o1 a1
      intro hc hp
      change (Nat.beq o1 0) = true at hc
      obtain rfl := am_beq hc
      exact ⟨Nat.le_of_ble_eq_true rfl, ev_M_keep h a1 hp eqRIW⟩
    · exact fun z => nomatch z
