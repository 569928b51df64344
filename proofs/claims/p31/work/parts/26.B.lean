/-! BusBlocks, out of its code (written by gen/meth.py). -/
noncomputable section
def RO : List Sh := [(5, 4, []), (5, 4, []), (5, 4, []), (5, 4, []), (5, 4, [])]
def k_B_checkTerminal (pc : Nat) : Ent := bif Nat.ble 21 pc then am_nop else bif Nat.ble 9 pc then (bif Nat.ble 16 pc then (bif Nat.ble 19 pc then (bif Nat.ble 20 pc then (bif Nat.beq pc 20 then (.return_, 0, 0, []) else am_nop) else (bif Nat.beq pc 19 then (.athrow, 0, 0, []) else am_nop)) else (bif Nat.beq pc 16 then (.invokespecial 363, 0, 0, []) else am_nop)) else (bif Nat.ble 12 pc then (bif Nat.ble 13 pc then (bif Nat.beq pc 13 then (.ldc_w 361, 0, 0, []) else am_nop) else (bif Nat.beq pc 12 then (.dup, 0, 0, []) else am_nop)) else (bif Nat.beq pc 9 then (.new 359, 0, 0, []) else am_nop))) else (bif Nat.ble 4 pc then (bif Nat.ble 5 pc then (bif Nat.ble 6 pc then (bif Nat.beq pc 6 then (.if_icmp .lt 14, 0, 20, []) else am_nop) else (bif Nat.beq pc 5 then (.iconst 4, 4, 0, []) else am_nop)) else (bif Nat.beq pc 4 then (.iload_n 0, 0, 0, []) else am_nop)) else (bif Nat.ble 1 pc then (bif Nat.beq pc 1 then (.ifCond .lt 8, 0, 9, []) else am_nop) else (bif Nat.beq pc 0 then (.iload_n 0, 0, 0, []) else am_nop)))
def m_B_checkTerminal : MI := (k_B_checkTerminal, [], [], [], [], [(9, "java/lang/IndexOutOfBoundsException")], [], 6, 90, none, fun _ => 0, 1)
def v_B_checkTerminal (h : HP) (a1 : Int32) : Option String := (if a1 < 0 then (some "java/lang/IndexOutOfBoundsException") else (if a1 < 4 then none else (some "java/lang/IndexOutOfBoundsException")))
def g_B_checkTerminal (_ _ : List Sh) (as : List Value) (h : HP) : GR := match as with
  | [.int a1] => (true, True, v_B_checkTerminal h a1, none, h)
  | _ => bad h
def d_B_checkTerminal (k : Nat) : CD := (k, yX5_checkTerminal, cX5_checkTerminal, 1, none, 1, 6, 90, 0, true, false, g_B_checkTerminal)
theorem chk_B_checkTerminal : ∀ pc, am_chk cX5_checkTerminal k_B_checkTerminal pc = true := am_chkall 21 (by decide +kernel) (fun pc h => by unfold k_B_checkTerminal; rw [Nat.ble_eq_true_of_le h]; rfl)
theorem pf_B_checkTerminal : plainFor yX5_checkTerminal = true := by decide +kernel
theorem cu_B_checkTerminal : Cond.code yX5_checkTerminal cX5_checkTerminal 1 (none) ∈ am_U := am_tb 532 (by decide +kernel) rfl
theorem th_B_checkTerminal_9 : am_thok "BusBlocks" cX5_checkTerminal m_B_checkTerminal 9 "java/lang/IndexOutOfBoundsException" := ex_th (ik := 359) (ic := 363) (is := 361) (text := "no such terminal") ex_fO exw_IOE (by decide +kernel) (Nat.le_of_ble_eq_true rfl) (Nat.le_of_ble_eq_true rfl) (by decide +kernel) (by decide +kernel) (Or.inr ⟨by decide +kernel, by decide +kernel, by decide +kernel⟩)
set_option maxRecDepth 100000 in
theorem ev_B_checkTerminal {e1 e2 : List Sh} {P : AR → HP → Prop} (h : HP) (a1 : Int32) (hP : ∀ q, v_B_checkTerminal h a1 = q → RVT P h q) : am_Ev m_B_checkTerminal (WB ++ e1) (RO ++ e2) P (0, [.int a1], [], h) := by
  refine am_Ev_G [] 400 _ ?_
  show ((a1 < 0 → P (.inr "java/lang/IndexOutOfBoundsException") h) ∧ (¬ a1 < 0 → ((a1 < 4 → P (.inl none) h) ∧ (¬ a1 < 4 → P (.inr "java/lang/IndexOutOfBoundsException") h))))
  refine ⟨fun c1 => ?_, fun c1 => ?_⟩
  · skip
    exact hP (some "java/lang/IndexOutOfBoundsException") (by unfold v_B_checkTerminal; simp only [if_pos c1])
  · skip
    refine ⟨fun c2 => ?_, fun c2 => ?_⟩
    · skip
      exact hP none (by unfold v_B_checkTerminal; simp only [if_neg c1, if_pos c2])
    · skip
      exact hP (some "java/lang/IndexOutOfBoundsException") (by unfold v_B_checkTerminal; simp only [if_neg c1, if_neg c2])
theorem ok_B_checkTerminal {l : Launch} (hl : l.stackTraces = false) (e1 e2 : List Sh) (k : Nat) : am_Ok l (WB ++ e1) (RO ++ e2) (d_B_checkTerminal k) := by
  refine am_met hl (own := RX5) (M := m_B_checkTerminal) rfl pf_B_checkTerminal cu_B_checkTerminal rfl rfl rfl rfl (fun _ => rfl) rfl ⟨chk_B_checkTerminal, (am_n), (am_n), (am_n), (am_n)⟩ (am_c (th_B_checkTerminal_9) am_n) (am_n) ?_ (fun z => nomatch z) ?_
  · intro _ as h hg
    show g_pre (g_B_checkTerminal (WB ++ e1) (RO ++ e2) as h)
    unfold g_B_checkTerminal
    split <;> exact trivial
  · intro as h hg hp
    revert hg hp
    show g_ok (g_B_checkTerminal (WB ++ e1) (RO ++ e2) as h) = true → g_pre (g_B_checkTerminal (WB ++ e1) (RO ++ e2) as h) → _ ∧ am_Ev m_B_checkTerminal (WB ++ e1) (RO ++ e2) (am_eq (g_B_checkTerminal (WB ++ e1) (RO ++ e2) as h)) (0, am_ent as 1, [], h)
    unfold g_B_checkTerminal
    split
    · rename_i a1
      intro hc hp
      exact ⟨Nat.le_of_ble_eq_true rfl, ev_B_checkTerminal h a1 eqRVT⟩
    · exact fun z => nomatch z
def k_B_checkRange (pc : Nat) : Ent := bif Nat.ble 22 pc then am_nop else bif Nat.ble 10 pc then (bif Nat.ble 17 pc then (bif Nat.ble 20 pc then (bif Nat.ble 21 pc then (bif Nat.beq pc 21 then (.return_, 0, 0, []) else am_nop) else (bif Nat.beq pc 20 then (.athrow, 0, 0, []) else am_nop)) else (bif Nat.beq pc 17 then (.invokespecial 180, 0, 0, []) else am_nop)) else (bif Nat.ble 13 pc then (bif Nat.ble 14 pc then (bif Nat.beq pc 14 then (.ldc_w 372, 0, 0, []) else am_nop) else (bif Nat.beq pc 13 then (.dup, 0, 0, []) else am_nop)) else (bif Nat.beq pc 10 then (.new 176, 0, 0, []) else am_nop))) else (bif Nat.ble 5 pc then (bif Nat.ble 6 pc then (bif Nat.ble 7 pc then (bif Nat.beq pc 7 then (.if_icmp .le 14, 0, 21, []) else am_nop) else (bif Nat.beq pc 6 then (.iload_n 2, 0, 2, []) else am_nop)) else (bif Nat.beq pc 5 then (.iload_n 0, 0, 0, []) else am_nop)) else (bif Nat.ble 1 pc then (bif Nat.ble 2 pc then (bif Nat.beq pc 2 then (.if_icmp .lt 8, 0, 10, []) else am_nop) else (bif Nat.beq pc 1 then (.iload_n 1, 0, 1, []) else am_nop)) else (bif Nat.beq pc 0 then (.iload_n 0, 0, 0, []) else am_nop)))
def m_B_checkRange : MI := (k_B_checkRange, [], [], [], [], [(10, "java/lang/IllegalArgumentException")], [], 6, 90, none, fun _ => 0, 1)
def v_B_checkRange (h : HP) (a1 : Int32) (a2 : Int32) (a3 : Int32) : Option String := (if a1 < a2 then (some "java/lang/IllegalArgumentException") else (if a1 ≤ a3 then none else (some "java/lang/IllegalArgumentException")))
def g_B_checkRange (_ _ : List Sh) (as : List Value) (h : HP) : GR := match as with
  | [.int a1, .int a2, .int a3] => (true, True, v_B_checkRange h a1 a2 a3, none, h)
  | _ => bad h
def d_B_checkRange (k : Nat) : CD := (k, yX5_checkRange, cX5_checkRange, 3, none, 3, 6, 90, 0, true, false, g_B_checkRange)
theorem chk_B_checkRange : ∀ pc, am_chk cX5_checkRange k_B_checkRange pc = true := am_chkall 22 (by decide +kernel) (fun pc h => by unfold k_B_checkRange; rw [Nat.ble_eq_true_of_le h]; rfl)
theorem pf_B_checkRange : plainFor yX5_checkRange = true := by decide +kernel
theorem cu_B_checkRange : Cond.code yX5_checkRange cX5_checkRange 3 (none) ∈ am_U := am_tb 231 (by decide +kernel) rfl
theorem th_B_checkRange_10 : am_thok "BusBlocks" cX5_checkRange m_B_checkRange 10 "java/lang/IllegalArgumentException" := ex_th (ik := 176) (ic := 180) (is := 372) (text := "an argument is out of range") ex_fA exw_IAE (by decide +kernel) (Nat.le_of_ble_eq_true rfl) (Nat.le_of_ble_eq_true rfl) (by decide +kernel) (by decide +kernel) (Or.inr ⟨by decide +kernel, by decide +kernel, by decide +kernel⟩)
set_option maxRecDepth 100000 in
theorem ev_B_checkRange {e1 e2 : List Sh} {P : AR → HP → Prop} (h : HP) (a1 : Int32) (a2 : Int32) (a3 : Int32) (hP : ∀ q, v_B_checkRange h a1 a2 a3 = q → RVT P h q) : am_Ev m_B_checkRange (WB ++ e1) (RO ++ e2) P (0, [.int a1, .int a2, .int a3], [], h) := by
  refine am_Ev_G [] 400 _ ?_
  show ((a1 < a2 → P (.inr "java/lang/IllegalArgumentException") h) ∧ (¬ a1 < a2 → ((a1 ≤ a3 → P (.inl none) h) ∧ (¬ a1 ≤ a3 → P (.inr "java/lang/IllegalArgumentException") h))))
  refine ⟨fun c1 => ?_, fun c1 => ?_⟩
  · skip
    exact hP (some "java/lang/IllegalArgumentException") (by unfold v_B_checkRange; simp only [if_pos c1])
  · skip
    refine ⟨fun c2 => ?_, fun c2 => ?_⟩
    · skip
      exact hP none (by unfold v_B_checkRange; simp only [if_neg c1, if_pos c2])
    · skip
      exact hP (some "java/lang/IllegalArgumentException") (by unfold v_B_checkRange; simp only [if_neg c1, if_neg c2])
theorem ok_B_checkRange {l : Launch} (hl : l.stackTraces = false) (e1 e2 : List Sh) (k : Nat) : am_Ok l (WB ++ e1) (RO ++ e2) (d_B_checkRange k) := by
  refine am_met hl (own := RX5) (M := m_B_checkRange) rfl pf_B_checkRange cu_B_checkRange rfl rfl rfl rfl (fun _ => rfl) rfl ⟨chk_B_checkRange, (am_n), (am_n), (am_n), (am_n)⟩ (am_c (th_B_checkRange_10) am_n) (am_n) ?_ (fun z => nomatch z) ?_
  · intro _ as h hg
    show g_pre (g_B_checkRange (WB ++ e1) (RO ++ e2) as h)
    unfold g_B_checkRange
    split <;> exact trivial
  · intro as h hg hp
    revert hg hp
    show g_ok (g_B_checkRange (WB ++ e1) (RO ++ e2) as h) = true → g_pre (g_B_checkRange (WB ++ e1) (RO ++ e2) as h) → _ ∧ am_Ev m_B_checkRange (WB ++ e1) (RO ++ e2) (am_eq (g_B_checkRange (WB ++ e1) (RO ++ e2) as h)) (0, am_ent as 3, [], h)
    unfold g_B_checkRange
    split
    · rename_i a1 a2 a3
      intro hc hp
      exact ⟨Nat.le_of_ble_eq_true rfl, ev_B_checkRange h a1 a2 a3 eqRVT⟩
    · exact fun z => nomatch z
def k_B_save (pc : Nat) : Ent := bif Nat.ble 61 pc then am_nop else bif Nat.ble 31 pc then (bif Nat.ble 47 pc then (bif Nat.ble 52 pc then (bif Nat.ble 54 pc then (bif Nat.ble 57 pc then (bif Nat.ble 60 pc then (bif Nat.beq pc 60 then (.return_, 0, 0, []) else am_nop) else (bif Nat.beq pc 57 then (.invokevirtual 189, 0, 0, []) else am_nop)) else (bif Nat.beq pc 54 then (.getfield 10, 0, 0, []) else am_nop)) else (bif Nat.ble 53 pc then (bif Nat.beq pc 53 then (.aload_n 0, 0, 0, []) else am_nop) else (bif Nat.beq pc 52 then (.irem, 0, 0, []) else am_nop))) else (bif Nat.ble 49 pc then (bif Nat.ble 50 pc then (bif Nat.beq pc 50 then (.bipush 6, 6, 0, []) else am_nop) else (bif Nat.beq pc 49 then (.isub, 0, 0, []) else am_nop)) else (bif Nat.ble 48 pc then (bif Nat.beq pc 48 then (.iconst 1, 1, 0, []) else am_nop) else (bif Nat.beq pc 47 then (.iadd, 0, 0, []) else am_nop)))) else (bif Nat.ble 39 pc then (bif Nat.ble 43 pc then (bif Nat.ble 44 pc then (bif Nat.beq pc 44 then (.getfield 62, 0, 0, []) else am_nop) else (bif Nat.beq pc 43 then (.aload_n 0, 0, 0, []) else am_nop)) else (bif Nat.ble 40 pc then (bif Nat.beq pc 40 then (.getfield 58, 0, 0, []) else am_nop) else (bif Nat.beq pc 39 then (.aload_n 0, 0, 0, []) else am_nop))) else (bif Nat.ble 35 pc then (bif Nat.ble 36 pc then (bif Nat.beq pc 36 then (.getfield 47, 0, 0, []) else am_nop) else (bif Nat.beq pc 35 then (.aload_n 0, 0, 0, []) else am_nop)) else (bif Nat.ble 32 pc then (bif Nat.beq pc 32 then (.putfield 58, 0, 0, []) else am_nop) else (bif Nat.beq pc 31 then (.irem, 0, 0, []) else am_nop))))) else (bif Nat.ble 15 pc then (bif Nat.ble 23 pc then (bif Nat.ble 27 pc then (bif Nat.ble 28 pc then (bif Nat.ble 29 pc then (bif Nat.beq pc 29 then (.bipush 6, 6, 0, []) else am_nop) else (bif Nat.beq pc 28 then (.iadd, 0, 0, []) else am_nop)) else (bif Nat.beq pc 27 then (.iconst 1, 1, 0, []) else am_nop)) else (bif Nat.ble 24 pc then (bif Nat.beq pc 24 then (.getfield 58, 0, 0, []) else am_nop) else (bif Nat.beq pc 23 then (.aload_n 0, 0, 0, []) else am_nop))) else (bif Nat.ble 19 pc then (bif Nat.ble 22 pc then (bif Nat.beq pc 22 then (.aload_n 0, 0, 0, []) else am_nop) else (bif Nat.beq pc 19 then (.goto 16, 0, 35, []) else am_nop)) else (bif Nat.ble 16 pc then (bif Nat.beq pc 16 then (.putfield 62, 0, 0, []) else am_nop) else (bif Nat.beq pc 15 then (.iadd, 0, 0, []) else am_nop)))) else (bif Nat.ble 9 pc then (bif Nat.ble 11 pc then (bif Nat.ble 14 pc then (bif Nat.beq pc 14 then (.iconst 1, 1, 0, []) else am_nop) else (bif Nat.beq pc 11 then (.getfield 62, 0, 0, []) else am_nop)) else (bif Nat.ble 10 pc then (bif Nat.beq pc 10 then (.dup, 0, 0, []) else am_nop) else (bif Nat.beq pc 9 then (.aload_n 0, 0, 0, []) else am_nop))) else (bif Nat.ble 4 pc then (bif Nat.ble 6 pc then (bif Nat.beq pc 6 then (.if_icmp .ge 16, 0, 22, []) else am_nop) else (bif Nat.beq pc 4 then (.bipush 6, 6, 0, []) else am_nop)) else (bif Nat.ble 1 pc then (bif Nat.beq pc 1 then (.getfield 62, 0, 0, []) else am_nop) else (bif Nat.beq pc 0 then (.aload_n 0, 0, 0, []) else am_nop)))))
theorem fl_B_10 : am_fok RX5 10 (5, 0) := ⟨RX5, TX5, 10, rfl, by decide, rfl, Or.inl (am_tb 191 (by decide +kernel) rfl)⟩
theorem fl_B_47 : am_fok RX5 47 (5, 5) := ⟨RX5, TX5, 10, rfl, by decide, rfl, Or.inl (am_tb 196 (by decide +kernel) rfl)⟩
theorem fl_B_58 : am_fok RX5 58 (5, 8) := ⟨RX5, TX5, 10, rfl, by decide, rfl, Or.inl (am_tb 199 (by decide +kernel) rfl)⟩
theorem fl_B_62 : am_fok RX5 62 (5, 9) := ⟨RX5, TX5, 10, rfl, by decide, rfl, Or.inl (am_tb 200 (by decide +kernel) rfl)⟩
theorem lk_B_189 : am_lnk RX5 189 (d_S_store 22) := ⟨⟨by decide, by decide⟩, am_tb 6 (by decide +kernel) rfl, Or.inr ⟨by decide, rfl, am_tb 322 (by decide +kernel) rfl, am_tp 2 (by decide +kernel) rfl, ⟨TX2, 1, rfl⟩, Or.inr ⟨"BusBlocks", am_tb 320 (by decide +kernel) rfl⟩⟩⟩
def m_B_save : MI := (k_B_save, [(10, 5, 0), (47, 5, 5), (58, 5, 8), (62, 5, 9)], [(189, d_S_store 22)], [], [], [], [], 4, 111, none, fun _ => 0, 1)
def v_B_save (h : HP) : HP := (bnd (v_S_store_0_33 (if (h.1 38 9) < 6 then (am_si h 38 9 ((h.1 38 9) + 1)) else (am_si h 38 8 (((h.1 38 8) + 1) - ((h.1 38 8) + 1) / 6 * 6))) (((((if (h.1 38 9) < 6 then (am_si h 38 9 ((h.1 38 9) + 1)) else (am_si h 38 8 (((h.1 38 8) + 1) - ((h.1 38 8) + 1) / 6 * 6))).1 38 8) + ((if (h.1 38 9) < 6 then (am_si h 38 9 ((h.1 38 9) + 1)) else (am_si h 38 8 (((h.1 38 8) + 1) - ((h.1 38 8) + 1) / 6 * 6))).1 38 9)) - 1) - ((((if (h.1 38 9) < 6 then (am_si h 38 9 ((h.1 38 9) + 1)) else (am_si h 38 8 (((h.1 38 8) + 1) - ((h.1 38 8) + 1) / 6 * 6))).1 38 8) + ((if (h.1 38 9) < 6 then (am_si h 38 9 ((h.1 38 9) + 1)) else (am_si h 38 8 (((h.1 38 8) + 1) - ((h.1 38 8) + 1) / 6 * 6))).1 38 9)) - 1) / 6 * 6)) fun y1 => y1)
def p_B_save (h : HP) : Prop := (p_S_store_0_33 (if (h.1 38 9) < 6 then (am_si h 38 9 ((h.1 38 9) + 1)) else (am_si h 38 8 (((h.1 38 8) + 1) - ((h.1 38 8) + 1) / 6 * 6))) (((((if (h.1 38 9) < 6 then (am_si h 38 9 ((h.1 38 9) + 1)) else (am_si h 38 8 (((h.1 38 8) + 1) - ((h.1 38 8) + 1) / 6 * 6))).1 38 8) + ((if (h.1 38 9) < 6 then (am_si h 38 9 ((h.1 38 9) + 1)) else (am_si h 38 8 (((h.1 38 8) + 1) - ((h.1 38 8) + 1) / 6 * 6))).1 38 9)) - 1) - ((((if (h.1 38 9) < 6 then (am_si h 38 9 ((h.1 38 9) + 1)) else (am_si h 38 8 (((h.1 38 8) + 1) - ((h.1 38 8) + 1) / 6 * 6))).1 38 8) + ((if (h.1 38 9) < 6 then (am_si h 38 9 ((h.1 38 9) + 1)) else (am_si h 38 8 (((h.1 38 8) + 1) - ((h.1 38 8) + 1) / 6 * 6))).1 38 9)) - 1) / 6 * 6))
def g_B_save (_ _ : List Sh) (as : List Value) (h : HP) : GR := match as with
  | [.ref o1] => (Nat.beq o1 38, p_B_save h, none, none, v_B_save h)
  | _ => bad h
def d_B_save (k : Nat) : CD := (k, yX5_save, cX5_save, 1, none, 1, 4, 111, 0, false, true, g_B_save)
theorem chk_B_save : ∀ pc, am_chk cX5_save k_B_save pc = true := am_chkall 61 (by decide +kernel) (fun pc h => by unfold k_B_save; rw [Nat.ble_eq_true_of_le h]; rfl)
theorem pf_B_save : plainFor yX5_save = true := by decide +kernel
theorem cu_B_save : Cond.code yX5_save cX5_save 1 (none) ∈ am_U := am_tb 319 (by decide +kernel) rfl
set_option maxRecDepth 100000 in
theorem ev_B_save {e1 e2 : List Sh} {P : AR → HP → Prop} (h : HP) (hp : p_B_save h) (hP : ∀ q, v_B_save h = q → RVW P h q) : am_Ev m_B_save (WB ++ e1) (RO ++ e2) P (0, [.ref 38], [], h) := by
  unfold p_B_save at hp
  refine am_Ev_G [6] 400 _ ?_
  show am_Ev m_B_save (WB ++ e1) (RO ++ e2) P (6, [.ref 38], [.int 6, .int (h.1 38 9)], h)
  have key1 : am_Ev m_B_save (WB ++ e1) (RO ++ e2) P (35, [.ref 38], [], (if (h.1 38 9) < 6 then (am_si h 38 9 ((h.1 38 9) + 1)) else (am_si h 38 8 (((h.1 38 8) + 1) - ((h.1 38 8) + 1) / 6 * 6)))) := by
    refine am_Ev_G [54] 400 _ ?_
    show ((¬ 6 = 0) ∧ am_Ev m_B_save (WB ++ e1) (RO ++ e2) P (54, [.ref 38], [.ref 38, .int (((((if (h.1 38 9) < 6 then (am_si h 38 9 ((h.1 38 9) + 1)) else (am_si h 38 8 (((h.1 38 8) + 1) - ((h.1 38 8) + 1) / 6 * 6))).1 38 8) + ((if (h.1 38 9) < 6 then (am_si h 38 9 ((h.1 38 9) + 1)) else (am_si h 38 8 (((h.1 38 8) + 1) - ((h.1 38 8) + 1) / 6 * 6))).1 38 9)) - 1) - ((((if (h.1 38 9) < 6 then (am_si h 38 9 ((h.1 38 9) + 1)) else (am_si h 38 8 (((h.1 38 8) + 1) - ((h.1 38 8) + 1) / 6 * 6))).1 38 8) + ((if (h.1 38 9) < 6 then (am_si h 38 9 ((h.1 38 9) + 1)) else (am_si h 38 8 (((h.1 38 8) + 1) - ((h.1 38 8) + 1) / 6 * 6))).1 38 9)) - 1) / 6 * 6), .ref 33], (if (h.1 38 9) < 6 then (am_si h 38 9 ((h.1 38 9) + 1)) else (am_si h 38 8 (((h.1 38 8) + 1) - ((h.1 38 8) + 1) / 6 * 6)))))
    refine ⟨(by decide), ?_⟩
    refine am_Ev_G [60] 400 _ ?_
    show ((p_S_store_0_33 (if (h.1 38 9) < 6 then (am_si h 38 9 ((h.1 38 9) + 1)) else (am_si h 38 8 (((h.1 38 8) + 1) - ((h.1 38 8) + 1) / 6 * 6))) (((((if (h.1 38 9) < 6 then (am_si h 38 9 ((h.1 38 9) + 1)) else (am_si h 38 8 (((h.1 38 8) + 1) - ((h.1 38 8) + 1) / 6 * 6))).1 38 8) + ((if (h.1 38 9) < 6 then (am_si h 38 9 ((h.1 38 9) + 1)) else (am_si h 38 8 (((h.1 38 8) + 1) - ((h.1 38 8) + 1) / 6 * 6))).1 38 9)) - 1) - ((((if (h.1 38 9) < 6 then (am_si h 38 9 ((h.1 38 9) + 1)) else (am_si h 38 8 (((h.1 38 8) + 1) - ((h.1 38 8) + 1) / 6 * 6))).1 38 8) + ((if (h.1 38 9) < 6 then (am_si h 38 9 ((h.1 38 9) + 1)) else (am_si h 38 8 (((h.1 38 8) + 1) - ((h.1 38 8) + 1) / 6 * 6))).1 38 9)) - 1) / 6 * 6)) ∧ am_Ev m_B_save (WB ++ e1) (RO ++ e2) P (60, [.ref 38], [], (v_S_store_0_33 (if (h.1 38 9) < 6 then (am_si h 38 9 ((h.1 38 9) + 1)) else (am_si h 38 8 (((h.1 38 8) + 1) - ((h.1 38 8) + 1) / 6 * 6))) (((((if (h.1 38 9) < 6 then (am_si h 38 9 ((h.1 38 9) + 1)) else (am_si h 38 8 (((h.1 38 8) + 1) - ((h.1 38 8) + 1) / 6 * 6))).1 38 8) + ((if (h.1 38 9) < 6 then (am_si h 38 9 ((h.1 38 9) + 1)) else (am_si h 38 8 (((h.1 38 8) + 1) - ((h.1 38 8) + 1) / 6 * 6))).1 38 9)) - 1) - ((((if (h.1 38 9) < 6 then (am_si h 38 9 ((h.1 38 9) + 1)) else (am_si h 38 8 (((h.1 38 8) + 1) - ((h.1 38 8) + 1) / 6 * 6))).1 38 8) + ((if (h.1 38 9) < 6 then (am_si h 38 9 ((h.1 38 9) + 1)) else (am_si h 38 8 (((h.1 38 8) + 1) - ((h.1 38 8) + 1) / 6 * 6))).1 38 9)) - 1) / 6 * 6))))
    refine ⟨hp, ?_⟩
    obtain ⟨y1, c2⟩ : ∃ y, v_S_store_0_33 (if (h.1 38 9) < 6 then (am_si h 38 9 ((h.1 38 9) + 1)) else (am_si h 38 8 (((h.1 38 8) + 1) - ((h.1 38 8) + 1) / 6 * 6))) (((((if (h.1 38 9) < 6 then (am_si h 38 9 ((h.1 38 9) + 1)) else (am_si h 38 8 (((h.1 38 8) + 1) - ((h.1 38 8) + 1) / 6 * 6))).1 38 8) + ((if (h.1 38 9) < 6 then (am_si h 38 9 ((h.1 38 9) + 1)) else (am_si h 38 8 (((h.1 38 8) + 1) - ((h.1 38 8) + 1) / 6 * 6))).1 38 9)) - 1) - ((((if (h.1 38 9) < 6 then (am_si h 38 9 ((h.1 38 9) + 1)) else (am_si h 38 8 (((h.1 38 8) + 1) - ((h.1 38 8) + 1) / 6 * 6))).1 38 8) + ((if (h.1 38 9) < 6 then (am_si h 38 9 ((h.1 38 9) + 1)) else (am_si h 38 8 (((h.1 38 8) + 1) - ((h.1 38 8) + 1) / 6 * 6))).1 38 9)) - 1) / 6 * 6) = y := ⟨_, rfl⟩
    rw [c2]
    show am_Ev m_B_save (WB ++ e1) (RO ++ e2) P (60, [.ref 38], [], y1)
    refine am_Ev_G [] 400 _ ?_
    show P (.inl none) y1
    exact hP y1 (by unfold v_B_save; simp only [bnd, c2])
  refine am_Ev_G [35] 400 _ ?_
  show ((¬ (h.1 38 9) < 6 → ((¬ 6 = 0) ∧ am_Ev m_B_save (WB ++ e1) (RO ++ e2) P (35, [.ref 38], [], (am_si h 38 8 (((h.1 38 8) + 1) - ((h.1 38 8) + 1) / 6 * 6))))) ∧ ((h.1 38 9) < 6 → am_Ev m_B_save (WB ++ e1) (RO ++ e2) P (35, [.ref 38], [], (am_si h 38 9 ((h.1 38 9) + 1)))))
  refine ⟨fun c3 => ?_, fun c3 => ?_⟩
  · skip
    refine ⟨(by decide), ?_⟩
    simpa only [if_neg c3] using key1
  · skip
    simpa only [if_pos c3] using key1
theorem ok_B_save {l : Launch} (hl : l.stackTraces = false) (e1 e2 : List Sh) (k : Nat) : am_Ok l (WB ++ e1) (RO ++ e2) (d_B_save k) := by
  refine am_met hl (own := RX5) (M := m_B_save) rfl pf_B_save cu_B_save rfl rfl rfl rfl (fun _ => rfl) rfl ⟨chk_B_save, (am_c (fl_B_10) (am_c (fl_B_47) (am_c (fl_B_58) (am_c (fl_B_62) am_n)))), (am_c (lk_B_189) am_n), (am_n), (am_n)⟩ (am_n) (am_c (ok_S_store hl e1 _ 22) am_n) (fun z => nomatch z) ?_ ?_
  · intro _ as h hg
    show g_thr (g_B_save (WB ++ e1) (RO ++ e2) as h) = none
    unfold g_B_save
    split <;> rfl
  · intro as h hg hp
    revert hg hp
    show g_ok (g_B_save (WB ++ e1) (RO ++ e2) as h) = true → g_pre (g_B_save (WB ++ e1) (RO ++ e2) as h) → _ ∧ am_Ev m_B_save (WB ++ e1) (RO ++ e2) (am_eq (g_B_save (WB ++ e1) (RO ++ e2) as h)) (0, am_ent as 1, [], h)
    unfold g_B_save
    split
    · rename_i o1
      intro hc hp
      change (Nat.beq o1 38) = true at hc
      obtain rfl := am_beq hc
      exact ⟨Nat.le_of_ble_eq_true rfl, ev_B_save h hp eqRVW⟩
    · exact fun z => nomatch z
def k_B_layover (pc : Nat) : Ent := bif Nat.ble 41 pc then am_nop else bif Nat.ble 22 pc then (bif Nat.ble 31 pc then (bif Nat.ble 36 pc then (bif Nat.ble 39 pc then (bif Nat.ble 40 pc then (bif Nat.beq pc 40 then (.ireturn, 0, 0, []) else am_nop) else (bif Nat.beq pc 39 then (.iload_n 3, 0, 3, []) else am_nop)) else (bif Nat.beq pc 36 then (.invokestatic 82, 0, 0, []) else am_nop)) else (bif Nat.ble 34 pc then (bif Nat.ble 35 pc then (bif Nat.beq pc 35 then (.iload_n 2, 0, 2, []) else am_nop) else (bif Nat.beq pc 34 then (.iload_n 1, 0, 1, []) else am_nop)) else (bif Nat.beq pc 31 then (.getfield 75, 0, 0, []) else am_nop))) else (bif Nat.ble 26 pc then (bif Nat.ble 27 pc then (bif Nat.ble 28 pc then (bif Nat.beq pc 28 then (.getfield 10, 0, 0, []) else am_nop) else (bif Nat.beq pc 27 then (.aload_n 0, 0, 0, []) else am_nop)) else (bif Nat.beq pc 26 then (.istore_n 3, 0, 3, []) else am_nop)) else (bif Nat.ble 23 pc then (bif Nat.beq pc 23 then (.invokestatic 78, 0, 0, []) else am_nop) else (bif Nat.beq pc 22 then (.iload_n 1, 0, 1, []) else am_nop)))) else (bif Nat.ble 8 pc then (bif Nat.ble 15 pc then (bif Nat.ble 16 pc then (bif Nat.ble 19 pc then (bif Nat.beq pc 19 then (.getfield 75, 0, 0, []) else am_nop) else (bif Nat.beq pc 16 then (.getfield 10, 0, 0, []) else am_nop)) else (bif Nat.beq pc 15 then (.aload_n 0, 0, 0, []) else am_nop)) else (bif Nat.ble 11 pc then (bif Nat.ble 12 pc then (bif Nat.beq pc 12 then (.invokevirtual 72, 0, 0, []) else am_nop) else (bif Nat.beq pc 11 then (.aload_n 0, 0, 0, []) else am_nop)) else (bif Nat.beq pc 8 then (.invokestatic 68, 0, 0, []) else am_nop))) else (bif Nat.ble 4 pc then (bif Nat.ble 5 pc then (bif Nat.ble 6 pc then (bif Nat.beq pc 6 then (.bipush 60, 60, 0, []) else am_nop) else (bif Nat.beq pc 5 then (.iconst 0, 0, 0, []) else am_nop)) else (bif Nat.beq pc 4 then (.iload_n 2, 0, 2, []) else am_nop)) else (bif Nat.ble 1 pc then (bif Nat.beq pc 1 then (.invokestatic 65, 0, 0, []) else am_nop) else (bif Nat.beq pc 0 then (.iload_n 1, 0, 1, []) else am_nop))))
theorem fl_B_75 : am_fok RX5 75 (4, 8) := ⟨RX4, TX4, 15, rfl, by decide, rfl, Or.inr ⟨"BusBlocks", am_tb 67 (by decide +kernel) rfl⟩⟩
theorem lk_B_65 : am_lnk RX5 65 (d_B_checkTerminal 0) := ⟨⟨by decide, by decide⟩, am_tb 1 (by decide +kernel) rfl, Or.inl ⟨by decide, rfl, am_tb 531 (by decide +kernel) rfl, Or.inl ⟨by decide, am_tb 530 (by decide +kernel) rfl⟩⟩⟩
theorem lk_B_68 : am_lnk RX5 68 (d_B_checkRange 0) := ⟨⟨by decide, by decide⟩, am_tb 1 (by decide +kernel) rfl, Or.inl ⟨by decide, rfl, am_tb 230 (by decide +kernel) rfl, Or.inl ⟨by decide, am_tb 229 (by decide +kernel) rfl⟩⟩⟩
theorem lk_B_72 : am_lnk RX5 72 (d_B_save 15) := ⟨⟨by decide, by decide⟩, am_tb 1 (by decide +kernel) rfl, Or.inr ⟨by decide, rfl, am_tb 318 (by decide +kernel) rfl, am_tp 1 (by decide +kernel) rfl, ⟨TX5, 10, rfl⟩, Or.inl (am_tb 316 (by decide +kernel) rfl)⟩⟩
theorem lk_B_78 : am_lnk RX5 78 (d_B_at 0) := ⟨⟨by decide, by decide⟩, am_tb 1 (by decide +kernel) rfl, Or.inl ⟨by decide, rfl, am_tb 361 (by decide +kernel) rfl, Or.inl ⟨by decide, am_tb 408 (by decide +kernel) rfl⟩⟩⟩
theorem lk_B_82 : am_lnk RX5 82 (d_B_put 0) := ⟨⟨by decide, by decide⟩, am_tb 1 (by decide +kernel) rfl, Or.inl ⟨by decide, rfl, am_tb 342 (by decide +kernel) rfl, Or.inl ⟨by decide, am_tb 403 (by decide +kernel) rfl⟩⟩⟩
def m_B_layover : MI := (k_B_layover, [(10, 5, 0), (75, 4, 8)], [(65, d_B_checkTerminal 0), (68, d_B_checkRange 0), (72, d_B_save 15), (78, d_B_at 0), (82, d_B_put 0)], [], [], [], [], 7, 133, some .int, fun _ => 0, 1)
def v_B_layover (h : HP) (a1 : Int32) (a2 : Int32) : String ⊕ (Int32 × HP) := (match v_B_checkTerminal h a1 with | some E => (.inl E) | none => (match v_B_checkRange h a2 0 60 with | some E => (.inl E) | none => (bnd (v_B_save h) fun y1 => (.inr ((v_at 4 (y1.1 9) a1), (v_put 4 y1 9 a1 a2))))))
def p_B_layover (h : HP) (a1 : Int32) (a2 : Int32) : Prop := (v_B_checkTerminal h a1 = none → (v_B_checkRange h a2 0 60 = none → (p_B_save h)))
def g_B_layover (_ _ : List Sh) (as : List Value) (h : HP) : GR := match as with
  | [.ref o1, .int a1, .int a2] => (Nat.beq o1 38, p_B_layover h a1 a2, rthr (v_B_layover h a1 a2), rvIW (v_B_layover h a1 a2), rhpI h (v_B_layover h a1 a2))
  | _ => bad h
def d_B_layover (k : Nat) : CD := (k, yX5_layover, cX5_layover, 4, some .int, 3, 7, 133, 0, true, true, g_B_layover)
theorem chk_B_layover : ∀ pc, am_chk cX5_layover k_B_layover pc = true := am_chkall 41 (by decide +kernel) (fun pc h => by unfold k_B_layover; rw [Nat.ble_eq_true_of_le h]; rfl)
theorem pf_B_layover : plainFor yX5_layover = true := by decide +kernel
theorem cu_B_layover : Cond.code yX5_layover cX5_layover 4 (some .int) ∈ am_U := am_tb 529 (by decide +kernel) rfl
set_option maxRecDepth 100000 in
theorem ev_B_layover {e1 e2 : List Sh} {P : AR → HP → Prop} (h : HP) (a1 : Int32) (a2 : Int32) (hp : p_B_layover h a1 a2) (hP : ∀ q, v_B_layover h a1 a2 = q → RIWT P h q) : am_Ev m_B_layover (WB ++ e1) (RO ++ e2) P (0, [.ref 38, .int a1, .int a2, .retAddr 0], [], h) := by
  unfold p_B_layover at hp
  refine am_Ev_G [4] 400 _ ?_
  show ((∀ E, v_B_checkTerminal h a1 = some E → P (.inr E) h) ∧ (v_B_checkTerminal h a1 = none → am_Ev m_B_layover (WB ++ e1) (RO ++ e2) P (4, [.ref 38, .int a1, .int a2, .retAddr 0], [], h)))
  refine ⟨fun E c1 => ?_, fun c1 => ?_⟩
  · skip
    exact hP (.inl E) (by unfold v_B_layover; simp only [c1])
  · have hp := hp c1
    refine am_Ev_G [11] 400 _ ?_
    show ((∀ E, v_B_checkRange h a2 0 60 = some E → P (.inr E) h) ∧ (v_B_checkRange h a2 0 60 = none → am_Ev m_B_layover (WB ++ e1) (RO ++ e2) P (11, [.ref 38, .int a1, .int a2, .retAddr 0], [], h)))
    refine ⟨fun E c2 => ?_, fun c2 => ?_⟩
    · skip
      exact hP (.inl E) (by unfold v_B_layover; simp only [c1, c2])
    · have hp := hp c2
      refine am_Ev_G [15] 400 _ ?_
      show ((p_B_save h) ∧ am_Ev m_B_layover (WB ++ e1) (RO ++ e2) P (15, [.ref 38, .int a1, .int a2, .retAddr 0], [], (v_B_save h)))
      refine ⟨hp, ?_⟩
      obtain ⟨y1, c3⟩ : ∃ y, v_B_save h = y := ⟨_, rfl⟩
      rw [c3]
      show am_Ev m_B_layover (WB ++ e1) (RO ++ e2) P (15, [.ref 38, .int a1, .int a2, .retAddr 0], [], y1)
      refine am_Ev_G [39] 400 _ ?_
      show am_Ev m_B_layover (WB ++ e1) (RO ++ e2) P (39, [.ref 38, .int a1, .int a2, .int (v_at 4 (y1.1 9) a1)], [], (v_put 4 y1 9 a1 a2))
      refine am_Ev_G [] 400 _ ?_
      show P (.inl (some (.int (v_at 4 (y1.1 9) a1)))) (v_put 4 y1 9 a1 a2)
      exact hP (.inr ((v_at 4 (y1.1 9) a1), (v_put 4 y1 9 a1 a2))) (by unfold v_B_layover; simp only [c1, c2, bnd, c3])
theorem ok_B_layover {l : Launch} (hl : l.stackTraces = false) (e1 e2 : List Sh) (k : Nat) : am_Ok l (WB ++ e1) (RO ++ e2) (d_B_layover k) := by
  refine am_met hl (own := RX5) (M := m_B_layover) rfl pf_B_layover cu_B_layover rfl rfl rfl rfl (fun _ => rfl) rfl ⟨chk_B_layover, (am_c (fl_B_10) (am_c (fl_B_75) am_n)), (am_c (lk_B_65) (am_c (lk_B_68) (am_c (lk_B_72) (am_c (lk_B_78) (am_c (lk_B_82) am_n))))), (am_n), (am_n)⟩ (am_n) (am_c (ok_B_checkTerminal hl e1 _ 0) (am_c (ok_B_checkRange hl e1 _ 0) (am_c (ok_B_save hl e1 _ 15) (am_c (ok_B_at hl _ _ 0) (am_c (ok_B_put hl _ _ 0) am_n))))) (fun z => nomatch z) (fun z => nomatch z) ?_
  · intro as h hg hp
    revert hg hp
    show g_ok (g_B_layover (WB ++ e1) (RO ++ e2) as h) = true → g_pre (g_B_layover (WB ++ e1) (RO ++ e2) as h) → _ ∧ am_Ev m_B_layover (WB ++ e1) (RO ++ e2) (am_eq (g_B_layover (WB ++ e1) (RO ++ e2) as h)) (0, am_ent as 4, [], h)
    unfold g_B_layover
    split
    · rename_i o1 a1 a2
      intro hc hp
      change (Nat.beq o1 38) = true at hc
      obtain rfl := am_beq hc
      exact ⟨Nat.le_of_ble_eq_true rfl, ev_B_layover h a1 a2 hp eqRIWT⟩
    · exact fun z => nomatch z
def k_B_relief (pc : Nat) : Ent := bif Nat.ble 36 pc then am_nop else bif Nat.ble 20 pc then (bif Nat.ble 29 pc then (bif Nat.ble 31 pc then (bif Nat.ble 34 pc then (bif Nat.ble 35 pc then (bif Nat.beq pc 35 then (.ireturn, 0, 0, []) else am_nop) else (bif Nat.beq pc 34 then (.iload_n 2, 0, 2, []) else am_nop)) else (bif Nat.beq pc 31 then (.invokestatic 82, 0, 0, []) else am_nop)) else (bif Nat.ble 30 pc then (bif Nat.beq pc 30 then (.iload_n 2, 0, 2, []) else am_nop) else (bif Nat.beq pc 29 then (.iload_n 1, 0, 1, []) else am_nop))) else (bif Nat.ble 22 pc then (bif Nat.ble 23 pc then (bif Nat.ble 26 pc then (bif Nat.beq pc 26 then (.getfield 86, 0, 0, []) else am_nop) else (bif Nat.beq pc 23 then (.getfield 10, 0, 0, []) else am_nop)) else (bif Nat.beq pc 22 then (.aload_n 0, 0, 0, []) else am_nop)) else (bif Nat.ble 21 pc then (bif Nat.beq pc 21 then (.istore_n 2, 0, 2, []) else am_nop) else (bif Nat.beq pc 20 then (.isub, 0, 0, []) else am_nop)))) else (bif Nat.ble 9 pc then (bif Nat.ble 13 pc then (bif Nat.ble 16 pc then (bif Nat.ble 17 pc then (bif Nat.beq pc 17 then (.invokestatic 78, 0, 0, []) else am_nop) else (bif Nat.beq pc 16 then (.iload_n 1, 0, 1, []) else am_nop)) else (bif Nat.beq pc 13 then (.getfield 86, 0, 0, []) else am_nop)) else (bif Nat.ble 10 pc then (bif Nat.beq pc 10 then (.getfield 10, 0, 0, []) else am_nop) else (bif Nat.beq pc 9 then (.aload_n 0, 0, 0, []) else am_nop))) else (bif Nat.ble 4 pc then (bif Nat.ble 5 pc then (bif Nat.ble 8 pc then (bif Nat.beq pc 8 then (.iconst 1, 1, 0, []) else am_nop) else (bif Nat.beq pc 5 then (.invokevirtual 72, 0, 0, []) else am_nop)) else (bif Nat.beq pc 4 then (.aload_n 0, 0, 0, []) else am_nop)) else (bif Nat.ble 1 pc then (bif Nat.beq pc 1 then (.invokestatic 65, 0, 0, []) else am_nop) else (bif Nat.beq pc 0 then (.iload_n 1, 0, 1, []) else am_nop))))
theorem fl_B_86 : am_fok RX5 86 (4, 9) := ⟨RX4, TX4, 15, rfl, by decide, rfl, Or.inr ⟨"BusBlocks", am_tb 71 (by decide +kernel) rfl⟩⟩
def m_B_relief : MI := (k_B_relief, [(10, 5, 0), (86, 4, 9)], [(65, d_B_checkTerminal 0), (72, d_B_save 15), (78, d_B_at 0), (82, d_B_put 0)], [], [], [], [], 7, 133, some .int, fun _ => 0, 1)
def v_B_relief (h : HP) (a1 : Int32) : String ⊕ (Int32 × HP) := (match v_B_checkTerminal h a1 with | some E => (.inl E) | none => (bnd (v_B_save h) fun y1 => (.inr ((1 - (v_at 4 (y1.1 10) a1)), (v_put 4 y1 10 a1 (1 - (v_at 4 (y1.1 10) a1)))))))
def p_B_relief (h : HP) (a1 : Int32) : Prop := (v_B_checkTerminal h a1 = none → (p_B_save h))
def g_B_relief (_ _ : List Sh) (as : List Value) (h : HP) : GR := match as with
  | [.ref o1, .int a1] => (Nat.beq o1 38, p_B_relief h a1, rthr (v_B_relief h a1), rvIW (v_B_relief h a1), rhpI h (v_B_relief h a1))
  | _ => bad h
def d_B_relief (k : Nat) : CD := (k, yX5_relief, cX5_relief, 3, some .int, 2, 7, 133, 0, true, true, g_B_relief)
theorem chk_B_relief : ∀ pc, am_chk cX5_relief k_B_relief pc = true := am_chkall 36 (by decide +kernel) (fun pc h => by unfold k_B_relief; rw [Nat.ble_eq_true_of_le h]; rfl)
theorem pf_B_relief : plainFor yX5_relief = true := by decide +kernel
theorem cu_B_relief : Cond.code yX5_relief cX5_relief 3 (some .int) ∈ am_U := am_tb 552 (by decide +kernel) rfl
set_option maxRecDepth 100000 in
theorem ev_B_relief {e1 e2 : List Sh} {P : AR → HP → Prop} (h : HP) (a1 : Int32) (hp : p_B_relief h a1) (hP : ∀ q, v_B_relief h a1 = q → RIWT P h q) : am_Ev m_B_relief (WB ++ e1) (RO ++ e2) P (0, [.ref 38, .int a1, .retAddr 0], [], h) := by
  unfold p_B_relief at hp
  refine am_Ev_G [4] 400 _ ?_
  show ((∀ E, v_B_checkTerminal h a1 = some E → P (.inr E) h) ∧ (v_B_checkTerminal h a1 = none → am_Ev m_B_relief (WB ++ e1) (RO ++ e2) P (4, [.ref 38, .int a1, .retAddr 0], [], h)))
  refine ⟨fun E c1 => ?_, fun c1 => ?_⟩
  · skip
    exact hP (.inl E) (by unfold v_B_relief; simp only [c1])
  · have hp := hp c1
    refine am_Ev_G [8] 400 _ ?_
    show ((p_B_save h) ∧ am_Ev m_B_relief (WB ++ e1) (RO ++ e2) P (8, [.ref 38, .int a1, .retAddr 0], [], (v_B_save h)))
    refine ⟨hp, ?_⟩
    obtain ⟨y1, c2⟩ : ∃ y, v_B_save h = y := ⟨_, rfl⟩
    rw [c2]
    show am_Ev m_B_relief (WB ++ e1) (RO ++ e2) P (8, [.ref 38, .int a1, .retAddr 0], [], y1)
    refine am_Ev_G [20] 400 _ ?_
    show am_Ev m_B_relief (WB ++ e1) (RO ++ e2) P (20, [.ref 38, .int a1, .retAddr 0], [.int (v_at 4 (y1.1 10) a1), .int 1], y1)
    refine am_Ev_G [34] 400 _ ?_
    show am_Ev m_B_relief (WB ++ e1) (RO ++ e2) P (34, [.ref 38, .int a1, .int (1 - (v_at 4 (y1.1 10) a1))], [], (v_put 4 y1 10 a1 (1 - (v_at 4 (y1.1 10) a1))))
    refine am_Ev_G [] 400 _ ?_
    show P (.inl (some (.int (1 - (v_at 4 (y1.1 10) a1))))) (v_put 4 y1 10 a1 (1 - (v_at 4 (y1.1 10) a1)))
    exact hP (.inr ((1 - (v_at 4 (y1.1 10) a1)), (v_put 4 y1 10 a1 (1 - (v_at 4 (y1.1 10) a1))))) (by unfold v_B_relief; simp only [c1, bnd, c2])
theorem ok_B_relief {l : Launch} (hl : l.stackTraces = false) (e1 e2 : List Sh) (k : Nat) : am_Ok l (WB ++ e1) (RO ++ e2) (d_B_relief k) := by
  refine am_met hl (own := RX5) (M := m_B_relief) rfl pf_B_relief cu_B_relief rfl rfl rfl rfl (fun _ => rfl) rfl ⟨chk_B_relief, (am_c (fl_B_10) (am_c (fl_B_86) am_n)), (am_c (lk_B_65) (am_c (lk_B_72) (am_c (lk_B_78) (am_c (lk_B_82) am_n)))), (am_n), (am_n)⟩ (am_n) (am_c (ok_B_checkTerminal hl e1 _ 0) (am_c (ok_B_save hl e1 _ 15) (am_c (ok_B_at hl _ _ 0) (am_c (ok_B_put hl _ _ 0) am_n)))) (fun z => nomatch z) (fun z => nomatch z) ?_
  · intro as h hg hp
    revert hg hp
    show g_ok (g_B_relief (WB ++ e1) (RO ++ e2) as h) = true → g_pre (g_B_relief (WB ++ e1) (RO ++ e2) as h) → _ ∧ am_Ev m_B_relief (WB ++ e1) (RO ++ e2) (am_eq (g_B_relief (WB ++ e1) (RO ++ e2) as h)) (0, am_ent as 3, [], h)
    unfold g_B_relief
    split
    · rename_i o1 a1
      intro hc hp
      change (Nat.beq o1 38) = true at hc
      obtain rfl := am_beq hc
      exact ⟨Nat.le_of_ble_eq_true rfl, ev_B_relief h a1 hp eqRIWT⟩
    · exact fun z => nomatch z
def k_B_checkJourney (pc : Nat) : Ent := bif Nat.ble 36 pc then am_nop else bif Nat.ble 14 pc then (bif Nat.ble 23 pc then (bif Nat.ble 29 pc then (bif Nat.ble 32 pc then (bif Nat.ble 35 pc then (bif Nat.beq pc 35 then (.return_, 0, 0, []) else am_nop) else (bif Nat.beq pc 32 then (.invokestatic 68, 0, 0, []) else am_nop)) else (bif Nat.beq pc 29 then (.sipush 240, 240, 0, []) else am_nop)) else (bif Nat.ble 26 pc then (bif Nat.ble 28 pc then (bif Nat.beq pc 28 then (.iconst 1, 1, 0, []) else am_nop) else (bif Nat.beq pc 26 then (.iload 4, 0, 4, []) else am_nop)) else (bif Nat.beq pc 23 then (.invokestatic 68, 0, 0, []) else am_nop))) else (bif Nat.ble 18 pc then (bif Nat.ble 19 pc then (bif Nat.ble 20 pc then (bif Nat.beq pc 20 then (.sipush 1439, 1439, 0, []) else am_nop) else (bif Nat.beq pc 19 then (.iconst 0, 0, 0, []) else am_nop)) else (bif Nat.beq pc 18 then (.iload_n 3, 0, 3, []) else am_nop)) else (bif Nat.ble 15 pc then (bif Nat.beq pc 15 then (.invokestatic 68, 0, 0, []) else am_nop) else (bif Nat.beq pc 14 then (.iconst 3, 3, 0, []) else am_nop)))) else (bif Nat.ble 7 pc then (bif Nat.ble 9 pc then (bif Nat.ble 12 pc then (bif Nat.ble 13 pc then (bif Nat.beq pc 13 then (.iconst 0, 0, 0, []) else am_nop) else (bif Nat.beq pc 12 then (.iload_n 2, 0, 2, []) else am_nop)) else (bif Nat.beq pc 9 then (.invokestatic 68, 0, 0, []) else am_nop)) else (bif Nat.ble 8 pc then (bif Nat.beq pc 8 then (.iconst 3, 3, 0, []) else am_nop) else (bif Nat.beq pc 7 then (.iconst 0, 0, 0, []) else am_nop))) else (bif Nat.ble 2 pc then (bif Nat.ble 3 pc then (bif Nat.ble 6 pc then (bif Nat.beq pc 6 then (.iload_n 1, 0, 1, []) else am_nop) else (bif Nat.beq pc 3 then (.invokestatic 68, 0, 0, []) else am_nop)) else (bif Nat.beq pc 2 then (.iconst 3, 3, 0, []) else am_nop)) else (bif Nat.ble 1 pc then (bif Nat.beq pc 1 then (.iconst 0, 0, 0, []) else am_nop) else (bif Nat.beq pc 0 then (.iload_n 0, 0, 0, []) else am_nop))))
def m_B_checkJourney : MI := (k_B_checkJourney, [], [(68, d_B_checkRange 0)], [], [], [], [], 7, 114, none, fun _ => 0, 1)
def v_B_checkJourney (h : HP) (a1 : Int32) (a2 : Int32) (a3 : Int32) (a4 : Int32) (a5 : Int32) : Option String := (match v_B_checkRange h a1 0 3 with | some E => (some E) | none => (match v_B_checkRange h a2 0 3 with | some E => (some E) | none => (match v_B_checkRange h a3 0 3 with | some E => (some E) | none => (match v_B_checkRange h a4 0 1439 with | some E => (some E) | none => (match v_B_checkRange h a5 1 240 with | some E => (some E) | none => none)))))
def g_B_checkJourney (_ _ : List Sh) (as : List Value) (h : HP) : GR := match as with
  | [.int a1, .int a2, .int a3, .int a4, .int a5] => (true, True, v_B_checkJourney h a1 a2 a3 a4 a5, none, h)
  | _ => bad h
def d_B_checkJourney (k : Nat) : CD := (k, yX5_checkJourney, cX5_checkJourney, 5, none, 5, 7, 114, 0, true, false, g_B_checkJourney)
theorem chk_B_checkJourney : ∀ pc, am_chk cX5_checkJourney k_B_checkJourney pc = true := am_chkall 36 (by decide +kernel) (fun pc h => by unfold k_B_checkJourney; rw [Nat.ble_eq_true_of_le h]; rfl)
theorem pf_B_checkJourney : plainFor yX5_checkJourney = true := by decide +kernel
theorem cu_B_checkJourney : Cond.code yX5_checkJourney cX5_checkJourney 5 (none) ∈ am_U := am_tb 228 (by decide +kernel) rfl
set_option maxRecDepth 100000 in
theorem ev_B_checkJourney {e1 e2 : List Sh} {P : AR → HP → Prop} (h : HP) (a1 : Int32) (a2 : Int32) (a3 : Int32) (a4 : Int32) (a5 : Int32) (hP : ∀ q, v_B_checkJourney h a1 a2 a3 a4 a5 = q → RVT P h q) : am_Ev m_B_checkJourney (WB ++ e1) (RO ++ e2) P (0, [.int a1, .int a2, .int a3, .int a4, .int a5], [], h) := by
  refine am_Ev_G [6] 400 _ ?_
  show ((∀ E, v_B_checkRange h a1 0 3 = some E → P (.inr E) h) ∧ (v_B_checkRange h a1 0 3 = none → am_Ev m_B_checkJourney (WB ++ e1) (RO ++ e2) P (6, [.int a1, .int a2, .int a3, .int a4, .int a5], [], h)))
  refine ⟨fun E c1 => ?_, fun c1 => ?_⟩
  · skip
    exact hP (some E) (by unfold v_B_checkJourney; simp only [c1])
  · skip
    refine am_Ev_G [12] 400 _ ?_
    show ((∀ E, v_B_checkRange h a2 0 3 = some E → P (.inr E) h) ∧ (v_B_checkRange h a2 0 3 = none → am_Ev m_B_checkJourney (WB ++ e1) (RO ++ e2) P (12, [.int a1, .int a2, .int a3, .int a4, .int a5], [], h)))
    refine ⟨fun E c2 => ?_, fun c2 => ?_⟩
    · skip
      exact hP (some E) (by unfold v_B_checkJourney; simp only [c1, c2])
    · skip
      refine am_Ev_G [18] 400 _ ?_
      show ((∀ E, v_B_checkRange h a3 0 3 = some E → P (.inr E) h) ∧ (v_B_checkRange h a3 0 3 = none → am_Ev m_B_checkJourney (WB ++ e1) (RO ++ e2) P (18, [.int a1, .int a2, .int a3, .int a4, .int a5], [], h)))
      refine ⟨fun E c3 => ?_, fun c3 => ?_⟩
      · skip
        exact hP (some E) (by unfold v_B_checkJourney; simp only [c1, c2, c3])
      · skip
        refine am_Ev_G [26] 400 _ ?_
        show ((∀ E, v_B_checkRange h a4 0 1439 = some E → P (.inr E) h) ∧ (v_B_checkRange h a4 0 1439 = none → am_Ev m_B_checkJourney (WB ++ e1) (RO ++ e2) P (26, [.int a1, .int a2, .int a3, .int a4, .int a5], [], h)))
        refine ⟨fun E c4 => ?_, fun c4 => ?_⟩
        · skip
          exact hP (some E) (by unfold v_B_checkJourney; simp only [c1, c2, c3, c4])
        · skip
          refine am_Ev_G [35] 400 _ ?_
          show ((∀ E, v_B_checkRange h a5 1 240 = some E → P (.inr E) h) ∧ (v_B_checkRange h a5 1 240 = none → am_Ev m_B_checkJourney (WB ++ e1) (RO ++ e2) P (35, [.int a1, .int a2, .int a3, .int a4, .int a5], [], h)))
          refine ⟨fun E c5 => ?_, fun c5 => ?_⟩
          · skip
            exact hP (some E) (by unfold v_B_checkJourney; simp only [c1, c2, c3, c4, c5])
          · skip
            refine am_Ev_G [] 400 _ ?_
            show P (.inl none) h
            exact hP none (by unfold v_B_checkJourney; simp only [c1, c2, c3, c4, c5])
theorem ok_B_checkJourney {l : Launch} (hl : l.stackTraces = false) (e1 e2 : List Sh) (k : Nat) : am_Ok l (WB ++ e1) (RO ++ e2) (d_B_checkJourney k) := by
  refine am_met hl (own := RX5) (M := m_B_checkJourney) rfl pf_B_checkJourney cu_B_checkJourney rfl rfl rfl rfl (fun _ => rfl) rfl ⟨chk_B_checkJourney, (am_n), (am_c (lk_B_68) am_n), (am_n), (am_n)⟩ (am_n) (am_c (ok_B_checkRange hl e1 _ 0) am_n) ?_ (fun z => nomatch z) ?_
  · intro _ as h hg
    show g_pre (g_B_checkJourney (WB ++ e1) (RO ++ e2) as h)
    unfold g_B_checkJourney
    split <;> exact trivial
  · intro as h hg hp
    revert hg hp
    show g_ok (g_B_checkJourney (WB ++ e1) (RO ++ e2) as h) = true → g_pre (g_B_checkJourney (WB ++ e1) (RO ++ e2) as h) → _ ∧ am_Ev m_B_checkJourney (WB ++ e1) (RO ++ e2) (am_eq (g_B_checkJourney (WB ++ e1) (RO ++ e2) as h)) (0, am_ent as 5, [], h)
    unfold g_B_checkJourney
    split
    · rename_i a1 a2 a3 a4 a5
      intro hc hp
      exact ⟨Nat.le_of_ble_eq_true rfl, ev_B_checkJourney h a1 a2 a3 a4 a5 eqRVT⟩
    · exact fun z => nomatch z
def k_B_trip (pc : Nat) : Ent := bif Nat.ble 51 pc then am_nop else bif Nat.ble 26 pc then (bif Nat.ble 40 pc then (bif Nat.ble 43 pc then (bif Nat.ble 47 pc then (bif Nat.ble 50 pc then (bif Nat.beq pc 50 then (.ireturn, 0, 0, []) else am_nop) else (bif Nat.beq pc 47 then (.invokevirtual 103, 0, 0, []) else am_nop)) else (bif Nat.ble 45 pc then (bif Nat.beq pc 45 then (.iload 5, 0, 5, []) else am_nop) else (bif Nat.beq pc 43 then (.iload 4, 0, 4, []) else am_nop))) else (bif Nat.ble 41 pc then (bif Nat.ble 42 pc then (bif Nat.beq pc 42 then (.iload_n 3, 0, 3, []) else am_nop) else (bif Nat.beq pc 41 then (.iload_n 2, 0, 2, []) else am_nop)) else (bif Nat.beq pc 40 then (.iload_n 1, 0, 1, []) else am_nop))) else (bif Nat.ble 32 pc then (bif Nat.ble 36 pc then (bif Nat.ble 37 pc then (bif Nat.beq pc 37 then (.getfield 10, 0, 0, []) else am_nop) else (bif Nat.beq pc 36 then (.aload_n 0, 0, 0, []) else am_nop)) else (bif Nat.ble 33 pc then (bif Nat.beq pc 33 then (.invokevirtual 72, 0, 0, []) else am_nop) else (bif Nat.beq pc 32 then (.aload_n 0, 0, 0, []) else am_nop))) else (bif Nat.ble 28 pc then (bif Nat.ble 31 pc then (bif Nat.beq pc 31 then (.athrow, 0, 0, []) else am_nop) else (bif Nat.beq pc 28 then (.invokespecial 100, 0, 0, []) else am_nop)) else (bif Nat.beq pc 26 then (.ldc 98, 0, 0, []) else am_nop)))) else (bif Nat.ble 10 pc then (bif Nat.ble 17 pc then (bif Nat.ble 22 pc then (bif Nat.ble 25 pc then (bif Nat.beq pc 25 then (.dup, 0, 0, []) else am_nop) else (bif Nat.beq pc 22 then (.new 96, 0, 0, []) else am_nop)) else (bif Nat.ble 19 pc then (bif Nat.beq pc 19 then (.if_icmp .lt 13, 0, 32, []) else am_nop) else (bif Nat.beq pc 17 then (.bipush 20, 20, 0, []) else am_nop))) else (bif Nat.ble 11 pc then (bif Nat.ble 14 pc then (bif Nat.beq pc 14 then (.getfield 93, 0, 0, []) else am_nop) else (bif Nat.beq pc 11 then (.getfield 10, 0, 0, []) else am_nop)) else (bif Nat.beq pc 10 then (.aload_n 0, 0, 0, []) else am_nop))) else (bif Nat.ble 3 pc then (bif Nat.ble 5 pc then (bif Nat.ble 7 pc then (bif Nat.beq pc 7 then (.invokestatic 89, 0, 0, []) else am_nop) else (bif Nat.beq pc 5 then (.iload 5, 0, 5, []) else am_nop)) else (bif Nat.beq pc 3 then (.iload 4, 0, 4, []) else am_nop)) else (bif Nat.ble 1 pc then (bif Nat.ble 2 pc then (bif Nat.beq pc 2 then (.iload_n 3, 0, 3, []) else am_nop) else (bif Nat.beq pc 1 then (.iload_n 2, 0, 2, []) else am_nop)) else (bif Nat.beq pc 0 then (.iload_n 1, 0, 1, []) else am_nop))))
theorem fl_B_93 : am_fok RX5 93 (4, 11) := ⟨RX4, TX4, 15, rfl, by decide, rfl, Or.inr ⟨"BusBlocks", am_tb 78 (by decide +kernel) rfl⟩⟩
theorem lk_B_89 : am_lnk RX5 89 (d_B_checkJourney 0) := ⟨⟨by decide, by decide⟩, am_tb 1 (by decide +kernel) rfl, Or.inl ⟨by decide, rfl, am_tb 227 (by decide +kernel) rfl, Or.inl ⟨by decide, am_tb 226 (by decide +kernel) rfl⟩⟩⟩
theorem lk_B_103 : am_lnk RX5 103 (d_T_addTrip 24) := ⟨⟨by decide, by decide⟩, am_tb 2 (by decide +kernel) rfl, Or.inr ⟨by decide, rfl, am_tb 339 (by decide +kernel) rfl, am_tp 4 (by decide +kernel) rfl, ⟨TX4, 15, rfl⟩, Or.inr ⟨"BusBlocks", am_tb 337 (by decide +kernel) rfl⟩⟩⟩
def m_B_trip : MI := (k_B_trip, [(10, 5, 0), (93, 4, 11)], [(72, d_B_save 15), (89, d_B_checkJourney 0), (103, d_T_addTrip 24)], [], [], [(22, "java/lang/IllegalStateException")], [], 8, 140, some .int, fun _ => 0, 1)
def v_B_trip (h : HP) (a1 : Int32) (a2 : Int32) (a3 : Int32) (a4 : Int32) (a5 : Int32) : String ⊕ (Int32 × HP) := (match v_B_checkJourney h a1 a2 a3 a4 a5 with | some E => (.inl E) | none => (if (h.1 0 11) < 20 then (bnd (v_B_save h) fun y1 => (bnd (v_T_addTrip y1 a1 a2 a3 a4 a5) fun y2 => (.inr (y2.1, y2.2)))) else (.inl "java/lang/IllegalStateException")))
def p_B_trip (h : HP) (a1 : Int32) (a2 : Int32) (a3 : Int32) (a4 : Int32) (a5 : Int32) : Prop := (v_B_checkJourney h a1 a2 a3 a4 a5 = none → (((h.1 0 11) < 20 → (p_B_save h)) ∧ (¬ (h.1 0 11) < 20 → True)))
def g_B_trip (_ _ : List Sh) (as : List Value) (h : HP) : GR := match as with
  | [.ref o1, .int a1, .int a2, .int a3, .int a4, .int a5] => (Nat.beq o1 38, p_B_trip h a1 a2 a3 a4 a5, rthr (v_B_trip h a1 a2 a3 a4 a5), rvIW (v_B_trip h a1 a2 a3 a4 a5), rhpI h (v_B_trip h a1 a2 a3 a4 a5))
  | _ => bad h
def d_B_trip (k : Nat) : CD := (k, yX5_trip, cX5_trip, 6, some .int, 6, 8, 140, 0, true, true, g_B_trip)
theorem chk_B_trip : ∀ pc, am_chk cX5_trip k_B_trip pc = true := am_chkall 51 (by decide +kernel) (fun pc h => by unfold k_B_trip; rw [Nat.ble_eq_true_of_le h]; rfl)
theorem pf_B_trip : plainFor yX5_trip = true := by decide +kernel
theorem cu_B_trip : Cond.code yX5_trip cX5_trip 6 (some .int) ∈ am_U := am_tb 225 (by decide +kernel) rfl
theorem th_B_trip_22 : am_thok "BusBlocks" cX5_trip m_B_trip 22 "java/lang/IllegalStateException" := ex_th (ik := 96) (ic := 100) (is := 98) (text := "there are 20 trips") ex_fS exw_ISE (by decide +kernel) (Nat.le_of_ble_eq_true rfl) (Nat.le_of_ble_eq_true rfl) (by decide +kernel) (by decide +kernel) (Or.inl ⟨by decide +kernel, by decide +kernel, by decide +kernel⟩)
set_option maxRecDepth 100000 in
theorem ev_B_trip {e1 e2 : List Sh} {P : AR → HP → Prop} (h : HP) (a1 : Int32) (a2 : Int32) (a3 : Int32) (a4 : Int32) (a5 : Int32) (hp : p_B_trip h a1 a2 a3 a4 a5) (hP : ∀ q, v_B_trip h a1 a2 a3 a4 a5 = q → RIWT P h q) : am_Ev m_B_trip (WB ++ e1) (RO ++ e2) P (0, [.ref 38, .int a1, .int a2, .int a3, .int a4, .int a5], [], h) := by
  unfold p_B_trip at hp
  refine am_Ev_G [10] 400 _ ?_
  show ((∀ E, v_B_checkJourney h a1 a2 a3 a4 a5 = some E → P (.inr E) h) ∧ (v_B_checkJourney h a1 a2 a3 a4 a5 = none → am_Ev m_B_trip (WB ++ e1) (RO ++ e2) P (10, [.ref 38, .int a1, .int a2, .int a3, .int a4, .int a5], [], h)))
  refine ⟨fun E c1 => ?_, fun c1 => ?_⟩
  · skip
    exact hP (.inl E) (by unfold v_B_trip; simp only [c1])
  · have hp := hp c1
    refine am_Ev_G [36] 400 _ ?_
    show (((h.1 0 11) < 20 → ((p_B_save h) ∧ am_Ev m_B_trip (WB ++ e1) (RO ++ e2) P (36, [.ref 38, .int a1, .int a2, .int a3, .int a4, .int a5], [], (v_B_save h)))) ∧ (¬ (h.1 0 11) < 20 → P (.inr "java/lang/IllegalStateException") h))
    refine ⟨fun c2 => ?_, fun c2 => ?_⟩
    · have hp := hp.1 c2
      refine ⟨hp, ?_⟩
      obtain ⟨y1, c3⟩ : ∃ y, v_B_save h = y := ⟨_, rfl⟩
      rw [c3]
      show am_Ev m_B_trip (WB ++ e1) (RO ++ e2) P (36, [.ref 38, .int a1, .int a2, .int a3, .int a4, .int a5], [], y1)
      refine am_Ev_G [50] 400 _ ?_
      show am_Ev m_B_trip (WB ++ e1) (RO ++ e2) P (50, [.ref 38, .int a1, .int a2, .int a3, .int a4, .int a5], [.int ((v_T_addTrip y1 a1 a2 a3 a4 a5).1)], ((v_T_addTrip y1 a1 a2 a3 a4 a5).2))
      obtain ⟨y2, c4⟩ : ∃ y, v_T_addTrip y1 a1 a2 a3 a4 a5 = y := ⟨_, rfl⟩
      rw [c4]
      show am_Ev m_B_trip (WB ++ e1) (RO ++ e2) P (50, [.ref 38, .int a1, .int a2, .int a3, .int a4, .int a5], [.int y2.1], y2.2)
      refine am_Ev_G [] 400 _ ?_
      show P (.inl (some (.int y2.1))) y2.2
      exact hP (.inr (y2.1, y2.2)) (by unfold v_B_trip; simp only [c1, if_pos c2, bnd, c3, bnd, c4])
    · skip
      exact hP (.inl "java/lang/IllegalStateException") (by unfold v_B_trip; simp only [c1, if_neg c2])
theorem ok_B_trip {l : Launch} (hl : l.stackTraces = false) (e1 e2 : List Sh) (k : Nat) : am_Ok l (WB ++ e1) (RO ++ e2) (d_B_trip k) := by
  refine am_met hl (own := RX5) (M := m_B_trip) rfl pf_B_trip cu_B_trip rfl rfl rfl rfl (fun _ => rfl) rfl ⟨chk_B_trip, (am_c (fl_B_10) (am_c (fl_B_93) am_n)), (am_c (lk_B_72) (am_c (lk_B_89) (am_c (lk_B_103) am_n))), (am_n), (am_n)⟩ (am_c (th_B_trip_22) am_n) (am_c (ok_B_save hl e1 _ 15) (am_c (ok_B_checkJourney hl e1 _ 0) (am_c (ok_T_addTrip hl (W21b ++ (WBb ++ e1)) _ 24) am_n))) (fun z => nomatch z) (fun z => nomatch z) ?_
  · intro as h hg hp
    revert hg hp
    show g_ok (g_B_trip (WB ++ e1) (RO ++ e2) as h) = true → g_pre (g_B_trip (WB ++ e1) (RO ++ e2) as h) → _ ∧ am_Ev m_B_trip (WB ++ e1) (RO ++ e2) (am_eq (g_B_trip (WB ++ e1) (RO ++ e2) as h)) (0, am_ent as 6, [], h)
    unfold g_B_trip
    split
    · rename_i o1 a1 a2 a3 a4 a5
      intro hc hp
      change (Nat.beq o1 38) = true at hc
      obtain rfl := am_beq hc
      exact ⟨Nat.le_of_ble_eq_true rfl, ev_B_trip h a1 a2 a3 a4 a5 hp eqRIWT⟩
    · exact fun z => nomatch z
def k_B_checkTrip (pc : Nat) : Ent := bif Nat.ble 27 pc then am_nop else bif Nat.ble 12 pc then (bif Nat.ble 19 pc then (bif Nat.ble 25 pc then (bif Nat.ble 26 pc then (bif Nat.beq pc 26 then (.return_, 0, 0, []) else am_nop) else (bif Nat.beq pc 25 then (.athrow, 0, 0, []) else am_nop)) else (bif Nat.ble 22 pc then (bif Nat.beq pc 22 then (.invokespecial 363, 0, 0, []) else am_nop) else (bif Nat.beq pc 19 then (.ldc_w 366, 0, 0, []) else am_nop))) else (bif Nat.ble 15 pc then (bif Nat.ble 18 pc then (bif Nat.beq pc 18 then (.dup, 0, 0, []) else am_nop) else (bif Nat.beq pc 15 then (.new 359, 0, 0, []) else am_nop)) else (bif Nat.beq pc 12 then (.if_icmp .lt 14, 0, 26, []) else am_nop))) else (bif Nat.ble 5 pc then (bif Nat.ble 6 pc then (bif Nat.ble 9 pc then (bif Nat.beq pc 9 then (.getfield 93, 0, 0, []) else am_nop) else (bif Nat.beq pc 6 then (.getfield 10, 0, 0, []) else am_nop)) else (bif Nat.beq pc 5 then (.aload_n 0, 0, 0, []) else am_nop)) else (bif Nat.ble 1 pc then (bif Nat.ble 4 pc then (bif Nat.beq pc 4 then (.iload_n 1, 0, 1, []) else am_nop) else (bif Nat.beq pc 1 then (.ifCond .lt 14, 0, 15, []) else am_nop)) else (bif Nat.beq pc 0 then (.iload_n 1, 0, 1, []) else am_nop)))
def m_B_checkTrip : MI := (k_B_checkTrip, [(10, 5, 0), (93, 4, 11)], [], [], [], [(15, "java/lang/IndexOutOfBoundsException")], [], 6, 90, none, fun _ => 0, 1)
def v_B_checkTrip (h : HP) (a1 : Int32) : Option String := (if a1 < 0 then (some "java/lang/IndexOutOfBoundsException") else (if a1 < (h.1 0 11) then none else (some "java/lang/IndexOutOfBoundsException")))
def g_B_checkTrip (_ _ : List Sh) (as : List Value) (h : HP) : GR := match as with
  | [.ref o1, .int a1] => (Nat.beq o1 38, True, v_B_checkTrip h a1, none, h)
  | _ => bad h
def d_B_checkTrip (k : Nat) : CD := (k, yX5_checkTrip, cX5_checkTrip, 2, none, 2, 6, 90, 0, true, false, g_B_checkTrip)
theorem chk_B_checkTrip : ∀ pc, am_chk cX5_checkTrip k_B_checkTrip pc = true := am_chkall 27 (by decide +kernel) (fun pc h => by unfold k_B_checkTrip; rw [Nat.ble_eq_true_of_le h]; rfl)
theorem pf_B_checkTrip : plainFor yX5_checkTrip = true := by decide +kernel
theorem cu_B_checkTrip : Cond.code yX5_checkTrip cX5_checkTrip 2 (none) ∈ am_U := am_tb 560 (by decide +kernel) rfl
theorem th_B_checkTrip_15 : am_thok "BusBlocks" cX5_checkTrip m_B_checkTrip 15 "java/lang/IndexOutOfBoundsException" := ex_th (ik := 359) (ic := 363) (is := 366) (text := "no such trip") ex_fO exw_IOE (by decide +kernel) (Nat.le_of_ble_eq_true rfl) (Nat.le_of_ble_eq_true rfl) (by decide +kernel) (by decide +kernel) (Or.inr ⟨by decide +kernel, by decide +kernel, by decide +kernel⟩)
set_option maxRecDepth 100000 in
theorem ev_B_checkTrip {e1 e2 : List Sh} {P : AR → HP → Prop} (h : HP) (a1 : Int32) (hP : ∀ q, v_B_checkTrip h a1 = q → RVT P h q) : am_Ev m_B_checkTrip (WB ++ e1) (RO ++ e2) P (0, [.ref 38, .int a1], [], h) := by
  refine am_Ev_G [] 400 _ ?_
  show ((a1 < 0 → P (.inr "java/lang/IndexOutOfBoundsException") h) ∧ (¬ a1 < 0 → ((a1 < (h.1 0 11) → P (.inl none) h) ∧ (¬ a1 < (h.1 0 11) → P (.inr "java/lang/IndexOutOfBoundsException") h))))
  refine ⟨fun c1 => ?_, fun c1 => ?_⟩
  · skip
    exact hP (some "java/lang/IndexOutOfBoundsException") (by unfold v_B_checkTrip; simp only [if_pos c1])
  · skip
    refine ⟨fun c2 => ?_, fun c2 => ?_⟩
    · skip
      exact hP none (by unfold v_B_checkTrip; simp only [if_neg c1, if_pos c2])
    · skip
      exact hP (some "java/lang/IndexOutOfBoundsException") (by unfold v_B_checkTrip; simp only [if_neg c1, if_neg c2])
theorem ok_B_checkTrip {l : Launch} (hl : l.stackTraces = false) (e1 e2 : List Sh) (k : Nat) : am_Ok l (WB ++ e1) (RO ++ e2) (d_B_checkTrip k) := by
  refine am_met hl (own := RX5) (M := m_B_checkTrip) rfl pf_B_checkTrip cu_B_checkTrip rfl rfl rfl rfl (fun _ => rfl) rfl ⟨chk_B_checkTrip, (am_c (fl_B_10) (am_c (fl_B_93) am_n)), (am_n), (am_n), (am_n)⟩ (am_c (th_B_checkTrip_15) am_n) (am_n) ?_ (fun z => nomatch z) ?_
  · intro _ as h hg
    show g_pre (g_B_checkTrip (WB ++ e1) (RO ++ e2) as h)
    unfold g_B_checkTrip
    split <;> exact trivial
  · intro as h hg hp
    revert hg hp
    show g_ok (g_B_checkTrip (WB ++ e1) (RO ++ e2) as h) = true → g_pre (g_B_checkTrip (WB ++ e1) (RO ++ e2) as h) → _ ∧ am_Ev m_B_checkTrip (WB ++ e1) (RO ++ e2) (am_eq (g_B_checkTrip (WB ++ e1) (RO ++ e2) as h)) (0, am_ent as 2, [], h)
    unfold g_B_checkTrip
    split
    · rename_i o1 a1
      intro hc hp
      change (Nat.beq o1 38) = true at hc
      obtain rfl := am_beq hc
      exact ⟨Nat.le_of_ble_eq_true rfl, ev_B_checkTrip h a1 eqRVT⟩
    · exact fun z => nomatch z
def k_B_checkRun (pc : Nat) : Ent := bif Nat.ble 23 pc then am_nop else bif Nat.ble 11 pc then (bif Nat.ble 18 pc then (bif Nat.ble 21 pc then (bif Nat.ble 22 pc then (bif Nat.beq pc 22 then (.return_, 0, 0, []) else am_nop) else (bif Nat.beq pc 21 then (.athrow, 0, 0, []) else am_nop)) else (bif Nat.beq pc 18 then (.invokespecial 100, 0, 0, []) else am_nop)) else (bif Nat.ble 14 pc then (bif Nat.ble 15 pc then (bif Nat.beq pc 15 then (.ldc_w 370, 0, 0, []) else am_nop) else (bif Nat.beq pc 14 then (.dup, 0, 0, []) else am_nop)) else (bif Nat.beq pc 11 then (.new 96, 0, 0, []) else am_nop))) else (bif Nat.ble 4 pc then (bif Nat.ble 5 pc then (bif Nat.ble 8 pc then (bif Nat.beq pc 8 then (.ifCond .ne 14, 0, 22, []) else am_nop) else (bif Nat.beq pc 5 then (.invokevirtual 230, 0, 0, []) else am_nop)) else (bif Nat.beq pc 4 then (.iload_n 1, 0, 1, []) else am_nop)) else (bif Nat.ble 1 pc then (bif Nat.beq pc 1 then (.getfield 10, 0, 0, []) else am_nop) else (bif Nat.beq pc 0 then (.aload_n 0, 0, 0, []) else am_nop)))
theorem lk_B_230 : am_lnk RX5 230 (d_T_isRun 24) := ⟨⟨by decide, by decide⟩, am_tb 2 (by decide +kernel) rfl, Or.inr ⟨by decide, rfl, am_tb 365 (by decide +kernel) rfl, am_tp 8 (by decide +kernel) rfl, ⟨TX4, 15, rfl⟩, Or.inr ⟨"BusBlocks", am_tb 566 (by decide +kernel) rfl⟩⟩⟩
def m_B_checkRun : MI := (k_B_checkRun, [(10, 5, 0)], [(230, d_T_isRun 24)], [], [], [(11, "java/lang/IllegalStateException")], [], 6, 90, none, fun _ => 0, 1)
def v_B_checkRun (h : HP) (a1 : Int32) : Option String := (if (v_T_isRun h a1) = 0 then (some "java/lang/IllegalStateException") else none)
def g_B_checkRun (_ _ : List Sh) (as : List Value) (h : HP) : GR := match as with
  | [.ref o1, .int a1] => (Nat.beq o1 38, True, v_B_checkRun h a1, none, h)
  | _ => bad h
def d_B_checkRun (k : Nat) : CD := (k, yX5_checkRun, cX5_checkRun, 2, none, 2, 6, 90, 0, true, false, g_B_checkRun)
theorem chk_B_checkRun : ∀ pc, am_chk cX5_checkRun k_B_checkRun pc = true := am_chkall 23 (by decide +kernel) (fun pc h => by unfold k_B_checkRun; rw [Nat.ble_eq_true_of_le h]; rfl)
theorem pf_B_checkRun : plainFor yX5_checkRun = true := by decide +kernel
theorem cu_B_checkRun : Cond.code yX5_checkRun cX5_checkRun 2 (none) ∈ am_U := am_tb 565 (by decide +kernel) rfl
theorem th_B_checkRun_11 : am_thok "BusBlocks" cX5_checkRun m_B_checkRun 11 "java/lang/IllegalStateException" := ex_th (ik := 96) (ic := 100) (is := 370) (text := "the trip is lost") ex_fS exw_ISE (by decide +kernel) (Nat.le_of_ble_eq_true rfl) (Nat.le_of_ble_eq_true rfl) (by decide +kernel) (by decide +kernel) (Or.inr ⟨by decide +kernel, by decide +kernel, by decide +kernel⟩)
set_option maxRecDepth 100000 in
theorem ev_B_checkRun {e1 e2 : List Sh} {P : AR → HP → Prop} (h : HP) (a1 : Int32) (hP : ∀ q, v_B_checkRun h a1 = q → RVT P h q) : am_Ev m_B_checkRun (WB ++ e1) (RO ++ e2) P (0, [.ref 38, .int a1], [], h) := by
  refine am_Ev_G [] 400 _ ?_
  show ((¬ (v_T_isRun h a1) = 0 → P (.inl none) h) ∧ ((v_T_isRun h a1) = 0 → P (.inr "java/lang/IllegalStateException") h))
  refine ⟨fun c1 => ?_, fun c1 => ?_⟩
  · skip
    exact hP none (by unfold v_B_checkRun; simp only [if_neg c1])
  · skip
    exact hP (some "java/lang/IllegalStateException") (by unfold v_B_checkRun; simp only [if_pos c1])
theorem ok_B_checkRun {l : Launch} (hl : l.stackTraces = false) (e1 e2 : List Sh) (k : Nat) : am_Ok l (WB ++ e1) (RO ++ e2) (d_B_checkRun k) := by
  refine am_met hl (own := RX5) (M := m_B_checkRun) rfl pf_B_checkRun cu_B_checkRun rfl rfl rfl rfl (fun _ => rfl) rfl ⟨chk_B_checkRun, (am_c (fl_B_10) am_n), (am_c (lk_B_230) am_n), (am_n), (am_n)⟩ (am_c (th_B_checkRun_11) am_n) (am_c (ok_T_isRun hl (W21b ++ (WBb ++ e1)) _ 24) am_n) ?_ (fun z => nomatch z) ?_
  · intro _ as h hg
    show g_pre (g_B_checkRun (WB ++ e1) (RO ++ e2) as h)
    unfold g_B_checkRun
    split <;> exact trivial
  · intro as h hg hp
    revert hg hp
    show g_ok (g_B_checkRun (WB ++ e1) (RO ++ e2) as h) = true → g_pre (g_B_checkRun (WB ++ e1) (RO ++ e2) as h) → _ ∧ am_Ev m_B_checkRun (WB ++ e1) (RO ++ e2) (am_eq (g_B_checkRun (WB ++ e1) (RO ++ e2) as h)) (0, am_ent as 2, [], h)
    unfold g_B_checkRun
    split
    · rename_i o1 a1
      intro hc hp
      change (Nat.beq o1 38) = true at hc
      obtain rfl := am_beq hc
      exact ⟨Nat.le_of_ble_eq_true rfl, ev_B_checkRun h a1 eqRVT⟩
    · exact fun z => nomatch z
def k_B_shift (pc : Nat) : Ent := bif Nat.ble 64 pc then am_nop else bif Nat.ble 33 pc then (bif Nat.ble 47 pc then (bif Nat.ble 57 pc then (bif Nat.ble 59 pc then (bif Nat.ble 62 pc then (bif Nat.ble 63 pc then (bif Nat.beq pc 63 then (.ireturn, 0, 0, []) else am_nop) else (bif Nat.beq pc 62 then (.iload_n 3, 0, 3, []) else am_nop)) else (bif Nat.beq pc 59 then (.invokestatic 82, 0, 0, []) else am_nop)) else (bif Nat.ble 58 pc then (bif Nat.beq pc 58 then (.iload_n 2, 0, 2, []) else am_nop) else (bif Nat.beq pc 57 then (.iload_n 1, 0, 1, []) else am_nop))) else (bif Nat.ble 51 pc then (bif Nat.ble 54 pc then (bif Nat.beq pc 54 then (.getfield 113, 0, 0, []) else am_nop) else (bif Nat.beq pc 51 then (.getfield 10, 0, 0, []) else am_nop)) else (bif Nat.ble 50 pc then (bif Nat.beq pc 50 then (.aload_n 0, 0, 0, []) else am_nop) else (bif Nat.beq pc 47 then (.invokevirtual 119, 0, 0, []) else am_nop)))) else (bif Nat.ble 39 pc then (bif Nat.ble 43 pc then (bif Nat.ble 46 pc then (bif Nat.beq pc 46 then (.iload_n 1, 0, 1, []) else am_nop) else (bif Nat.beq pc 43 then (.getfield 10, 0, 0, []) else am_nop)) else (bif Nat.ble 42 pc then (bif Nat.beq pc 42 then (.aload_n 0, 0, 0, []) else am_nop) else (bif Nat.beq pc 39 then (.invokevirtual 116, 0, 0, []) else am_nop))) else (bif Nat.ble 35 pc then (bif Nat.ble 38 pc then (bif Nat.beq pc 38 then (.iload_n 1, 0, 1, []) else am_nop) else (bif Nat.beq pc 35 then (.getfield 10, 0, 0, []) else am_nop)) else (bif Nat.ble 34 pc then (bif Nat.beq pc 34 then (.aload_n 0, 0, 0, []) else am_nop) else (bif Nat.beq pc 33 then (.istore_n 3, 0, 3, []) else am_nop))))) else (bif Nat.ble 14 pc then (bif Nat.ble 22 pc then (bif Nat.ble 26 pc then (bif Nat.ble 29 pc then (bif Nat.ble 30 pc then (bif Nat.beq pc 30 then (.invokestatic 78, 0, 0, []) else am_nop) else (bif Nat.beq pc 29 then (.iload_n 1, 0, 1, []) else am_nop)) else (bif Nat.beq pc 26 then (.getfield 113, 0, 0, []) else am_nop)) else (bif Nat.ble 23 pc then (bif Nat.beq pc 23 then (.getfield 10, 0, 0, []) else am_nop) else (bif Nat.beq pc 22 then (.aload_n 0, 0, 0, []) else am_nop))) else (bif Nat.ble 18 pc then (bif Nat.ble 19 pc then (bif Nat.beq pc 19 then (.invokevirtual 72, 0, 0, []) else am_nop) else (bif Nat.beq pc 18 then (.aload_n 0, 0, 0, []) else am_nop)) else (bif Nat.ble 15 pc then (bif Nat.beq pc 15 then (.invokevirtual 110, 0, 0, []) else am_nop) else (bif Nat.beq pc 14 then (.iload_n 1, 0, 1, []) else am_nop)))) else (bif Nat.ble 6 pc then (bif Nat.ble 10 pc then (bif Nat.ble 13 pc then (bif Nat.beq pc 13 then (.aload_n 0, 0, 0, []) else am_nop) else (bif Nat.beq pc 10 then (.invokestatic 68, 0, 0, []) else am_nop)) else (bif Nat.ble 7 pc then (bif Nat.beq pc 7 then (.sipush 1439, 1439, 0, []) else am_nop) else (bif Nat.beq pc 6 then (.iconst 0, 0, 0, []) else am_nop))) else (bif Nat.ble 2 pc then (bif Nat.ble 5 pc then (bif Nat.beq pc 5 then (.iload_n 2, 0, 2, []) else am_nop) else (bif Nat.beq pc 2 then (.invokevirtual 107, 0, 0, []) else am_nop)) else (bif Nat.ble 1 pc then (bif Nat.beq pc 1 then (.iload_n 1, 0, 1, []) else am_nop) else (bif Nat.beq pc 0 then (.aload_n 0, 0, 0, []) else am_nop)))))
theorem fl_B_113 : am_fok RX5 113 (4, 3) := ⟨RX4, TX4, 15, rfl, by decide, rfl, Or.inr ⟨"BusBlocks", am_tb 56 (by decide +kernel) rfl⟩⟩
theorem lk_B_107 : am_lnk RX5 107 (d_B_checkTrip 15) := ⟨⟨by decide, by decide⟩, am_tb 1 (by decide +kernel) rfl, Or.inr ⟨by decide, rfl, am_tb 559 (by decide +kernel) rfl, am_tp 36 (by decide +kernel) rfl, ⟨TX5, 10, rfl⟩, Or.inl (am_tb 557 (by decide +kernel) rfl)⟩⟩
theorem lk_B_110 : am_lnk RX5 110 (d_B_checkRun 15) := ⟨⟨by decide, by decide⟩, am_tb 1 (by decide +kernel) rfl, Or.inr ⟨by decide, rfl, am_tb 564 (by decide +kernel) rfl, am_tp 37 (by decide +kernel) rfl, ⟨TX5, 10, rfl⟩, Or.inl (am_tb 562 (by decide +kernel) rfl)⟩⟩
theorem lk_B_116 : am_lnk RX5 116 (d_T_cutAhead 24) := ⟨⟨by decide, by decide⟩, am_tb 2 (by decide +kernel) rfl, Or.inr ⟨by decide, rfl, am_tb 570 (by decide +kernel) rfl, am_tp 38 (by decide +kernel) rfl, ⟨TX4, 15, rfl⟩, Or.inr ⟨"BusBlocks", am_tb 568 (by decide +kernel) rfl⟩⟩⟩
theorem lk_B_119 : am_lnk RX5 119 (d_T_cutBehind 24) := ⟨⟨by decide, by decide⟩, am_tb 2 (by decide +kernel) rfl, Or.inr ⟨by decide, rfl, am_tb 574 (by decide +kernel) rfl, am_tp 39 (by decide +kernel) rfl, ⟨TX4, 15, rfl⟩, Or.inr ⟨"BusBlocks", am_tb 572 (by decide +kernel) rfl⟩⟩⟩
def m_B_shift : MI := (k_B_shift, [(10, 5, 0), (113, 4, 3)], [(68, d_B_checkRange 0), (72, d_B_save 15), (78, d_B_at 0), (82, d_B_put 0), (107, d_B_checkTrip 15), (110, d_B_checkRun 15), (116, d_T_cutAhead 24), (119, d_T_cutBehind 24)], [], [], [], [], 7, 133, some .int, fun _ => 0, 1)
def v_B_shift (h : HP) (a1 : Int32) (a2 : Int32) : String ⊕ (Int32 × HP) := (match v_B_checkTrip h a1 with | some E => (.inl E) | none => (match v_B_checkRange h a2 0 1439 with | some E => (.inl E) | none => (match v_B_checkRun h a1 with | some E => (.inl E) | none => (bnd (v_B_save h) fun y1 => (bnd (v_T_cutAhead y1 a1) fun y2 => (bnd (v_T_cutBehind y2 a1) fun y3 => (.inr ((v_at 20 (y1.1 4) a1), (v_put 20 y3 4 a1 a2)))))))))
def p_B_shift (h : HP) (a1 : Int32) (a2 : Int32) : Prop := (v_B_checkTrip h a1 = none → (v_B_checkRange h a2 0 1439 = none → (v_B_checkRun h a1 = none → (p_B_save h))))
def g_B_shift (_ _ : List Sh) (as : List Value) (h : HP) : GR := match as with
  | [.ref o1, .int a1, .int a2] => (Nat.beq o1 38, p_B_shift h a1 a2, rthr (v_B_shift h a1 a2), rvIW (v_B_shift h a1 a2), rhpI h (v_B_shift h a1 a2))
  | _ => bad h
def d_B_shift (k : Nat) : CD := (k, yX5_shift, cX5_shift, 4, some .int, 3, 7, 133, 0, true, true, g_B_shift)
theorem chk_B_shift : ∀ pc, am_chk cX5_shift k_B_shift pc = true := am_chkall 64 (by decide +kernel) (fun pc h => by unfold k_B_shift; rw [Nat.ble_eq_true_of_le h]; rfl)
theorem pf_B_shift : plainFor yX5_shift = true := by decide +kernel
theorem cu_B_shift : Cond.code yX5_shift cX5_shift 4 (some .int) ∈ am_U := am_tb 556 (by decide +kernel) rfl
set_option maxRecDepth 100000 in
theorem ev_B_shift {e1 e2 : List Sh} {P : AR → HP → Prop} (h : HP) (a1 : Int32) (a2 : Int32) (hp : p_B_shift h a1 a2) (hP : ∀ q, v_B_shift h a1 a2 = q → RIWT P h q) : am_Ev m_B_shift (WB ++ e1) (RO ++ e2) P (0, [.ref 38, .int a1, .int a2, .retAddr 0], [], h) := by
  unfold p_B_shift at hp
  refine am_Ev_G [5] 400 _ ?_
  show ((∀ E, v_B_checkTrip h a1 = some E → P (.inr E) h) ∧ (v_B_checkTrip h a1 = none → am_Ev m_B_shift (WB ++ e1) (RO ++ e2) P (5, [.ref 38, .int a1, .int a2, .retAddr 0], [], h)))
  refine ⟨fun E c1 => ?_, fun c1 => ?_⟩
  · skip
    exact hP (.inl E) (by unfold v_B_shift; simp only [c1])
  · have hp := hp c1
    refine am_Ev_G [13] 400 _ ?_
    show ((∀ E, v_B_checkRange h a2 0 1439 = some E → P (.inr E) h) ∧ (v_B_checkRange h a2 0 1439 = none → am_Ev m_B_shift (WB ++ e1) (RO ++ e2) P (13, [.ref 38, .int a1, .int a2, .retAddr 0], [], h)))
    refine ⟨fun E c2 => ?_, fun c2 => ?_⟩
    · skip
      exact hP (.inl E) (by unfold v_B_shift; simp only [c1, c2])
    · have hp := hp c2
      refine am_Ev_G [18] 400 _ ?_
      show ((∀ E, v_B_checkRun h a1 = some E → P (.inr E) h) ∧ (v_B_checkRun h a1 = none → am_Ev m_B_shift (WB ++ e1) (RO ++ e2) P (18, [.ref 38, .int a1, .int a2, .retAddr 0], [], h)))
      refine ⟨fun E c3 => ?_, fun c3 => ?_⟩
      · skip
        exact hP (.inl E) (by unfold v_B_shift; simp only [c1, c2, c3])
      · have hp := hp c3
        refine am_Ev_G [22] 400 _ ?_
        show ((p_B_save h) ∧ am_Ev m_B_shift (WB ++ e1) (RO ++ e2) P (22, [.ref 38, .int a1, .int a2, .retAddr 0], [], (v_B_save h)))
        refine ⟨hp, ?_⟩
        obtain ⟨y1, c4⟩ : ∃ y, v_B_save h = y := ⟨_, rfl⟩
        rw [c4]
        show am_Ev m_B_shift (WB ++ e1) (RO ++ e2) P (22, [.ref 38, .int a1, .int a2, .retAddr 0], [], y1)
        refine am_Ev_G [33] 400 _ ?_
        show am_Ev m_B_shift (WB ++ e1) (RO ++ e2) P (33, [.ref 38, .int a1, .int a2, .retAddr 0], [.int (v_at 20 (y1.1 4) a1)], y1)
        refine am_Ev_G [42] 400 _ ?_
        show am_Ev m_B_shift (WB ++ e1) (RO ++ e2) P (42, [.ref 38, .int a1, .int a2, .int (v_at 20 (y1.1 4) a1)], [], (v_T_cutAhead y1 a1))
        obtain ⟨y2, c5⟩ : ∃ y, v_T_cutAhead y1 a1 = y := ⟨_, rfl⟩
        rw [c5]
        show am_Ev m_B_shift (WB ++ e1) (RO ++ e2) P (42, [.ref 38, .int a1, .int a2, .int (v_at 20 (y1.1 4) a1)], [], y2)
        refine am_Ev_G [50] 400 _ ?_
        show am_Ev m_B_shift (WB ++ e1) (RO ++ e2) P (50, [.ref 38, .int a1, .int a2, .int (v_at 20 (y1.1 4) a1)], [], (v_T_cutBehind y2 a1))
        obtain ⟨y3, c6⟩ : ∃ y, v_T_cutBehind y2 a1 = y := ⟨_, rfl⟩
        rw [c6]
        show am_Ev m_B_shift (WB ++ e1) (RO ++ e2) P (50, [.ref 38, .int a1, .int a2, .int (v_at 20 (y1.1 4) a1)], [], y3)
        refine am_Ev_G [] 400 _ ?_
        show P (.inl (some (.int (v_at 20 (y1.1 4) a1)))) (v_put 20 y3 4 a1 a2)
        exact hP (.inr ((v_at 20 (y1.1 4) a1), (v_put 20 y3 4 a1 a2))) (by unfold v_B_shift; simp only [c1, c2, c3, bnd, c4, bnd, c5, bnd, c6])
theorem ok_B_shift {l : Launch} (hl : l.stackTraces = false) (e1 e2 : List Sh) (k : Nat) : am_Ok l (WB ++ e1) (RO ++ e2) (d_B_shift k) := by
  refine am_met hl (own := RX5) (M := m_B_shift) rfl pf_B_shift cu_B_shift rfl rfl rfl rfl (fun _ => rfl) rfl ⟨chk_B_shift, (am_c (fl_B_10) (am_c (fl_B_113) am_n)), (am_c (lk_B_68) (am_c (lk_B_72) (am_c (lk_B_78) (am_c (lk_B_82) (am_c (lk_B_107) (am_c (lk_B_110) (am_c (lk_B_116) (am_c (lk_B_119) am_n)))))))), (am_n), (am_n)⟩ (am_n) (am_c (ok_B_checkRange hl e1 _ 0) (am_c (ok_B_save hl e1 _ 15) (am_c (ok_B_at hl _ _ 0) (am_c (ok_B_put hl _ _ 0) (am_c (ok_B_checkTrip hl e1 _ 15) (am_c (ok_B_checkRun hl e1 _ 15) (am_c (ok_T_cutAhead hl (W21b ++ (WBb ++ e1)) _ 24) (am_c (ok_T_cutBehind hl (W21b ++ (WBb ++ e1)) _ 24) am_n)))))))) (fun z => nomatch z) (fun z => nomatch z) ?_
  · intro as h hg hp
    revert hg hp
    show g_ok (g_B_shift (WB ++ e1) (RO ++ e2) as h) = true → g_pre (g_B_shift (WB ++ e1) (RO ++ e2) as h) → _ ∧ am_Ev m_B_shift (WB ++ e1) (RO ++ e2) (am_eq (g_B_shift (WB ++ e1) (RO ++ e2) as h)) (0, am_ent as 4, [], h)
    unfold g_B_shift
    split
    · rename_i o1 a1 a2
      intro hc hp
      change (Nat.beq o1 38) = true at hc
      obtain rfl := am_beq hc
      exact ⟨Nat.le_of_ble_eq_true rfl, ev_B_shift h a1 a2 hp eqRIWT⟩
    · exact fun z => nomatch z
def k_B_checkSetting (pc : Nat) : Ent := bif Nat.ble 21 pc then am_nop else bif Nat.ble 9 pc then (bif Nat.ble 16 pc then (bif Nat.ble 19 pc then (bif Nat.ble 20 pc then (bif Nat.beq pc 20 then (.return_, 0, 0, []) else am_nop) else (bif Nat.beq pc 19 then (.athrow, 0, 0, []) else am_nop)) else (bif Nat.beq pc 16 then (.invokespecial 363, 0, 0, []) else am_nop)) else (bif Nat.ble 12 pc then (bif Nat.ble 13 pc then (bif Nat.beq pc 13 then (.ldc_w 364, 0, 0, []) else am_nop) else (bif Nat.beq pc 12 then (.dup, 0, 0, []) else am_nop)) else (bif Nat.beq pc 9 then (.new 359, 0, 0, []) else am_nop))) else (bif Nat.ble 4 pc then (bif Nat.ble 5 pc then (bif Nat.ble 6 pc then (bif Nat.beq pc 6 then (.if_icmp .lt 14, 0, 20, []) else am_nop) else (bif Nat.beq pc 5 then (.iconst 4, 4, 0, []) else am_nop)) else (bif Nat.beq pc 4 then (.iload_n 0, 0, 0, []) else am_nop)) else (bif Nat.ble 1 pc then (bif Nat.beq pc 1 then (.ifCond .lt 8, 0, 9, []) else am_nop) else (bif Nat.beq pc 0 then (.iload_n 0, 0, 0, []) else am_nop)))
def m_B_checkSetting : MI := (k_B_checkSetting, [], [], [], [], [(9, "java/lang/IndexOutOfBoundsException")], [], 6, 90, none, fun _ => 0, 1)
def v_B_checkSetting (h : HP) (a1 : Int32) : Option String := (if a1 < 0 then (some "java/lang/IndexOutOfBoundsException") else (if a1 < 4 then none else (some "java/lang/IndexOutOfBoundsException")))
def g_B_checkSetting (_ _ : List Sh) (as : List Value) (h : HP) : GR := match as with
  | [.int a1] => (true, True, v_B_checkSetting h a1, none, h)
  | _ => bad h
def d_B_checkSetting (k : Nat) : CD := (k, yX5_checkSetting, cX5_checkSetting, 1, none, 1, 6, 90, 0, true, false, g_B_checkSetting)
theorem chk_B_checkSetting : ∀ pc, am_chk cX5_checkSetting k_B_checkSetting pc = true := am_chkall 21 (by decide +kernel) (fun pc h => by unfold k_B_checkSetting; rw [Nat.ble_eq_true_of_le h]; rfl)
theorem pf_B_checkSetting : plainFor yX5_checkSetting = true := by decide +kernel
theorem cu_B_checkSetting : Cond.code yX5_checkSetting cX5_checkSetting 1 (none) ∈ am_U := am_tb 582 (by decide +kernel) rfl
theorem th_B_checkSetting_9 : am_thok "BusBlocks" cX5_checkSetting m_B_checkSetting 9 "java/lang/IndexOutOfBoundsException" := ex_th (ik := 359) (ic := 363) (is := 364) (text := "no such setting") ex_fO exw_IOE (by decide +kernel) (Nat.le_of_ble_eq_true rfl) (Nat.le_of_ble_eq_true rfl) (by decide +kernel) (by decide +kernel) (Or.inr ⟨by decide +kernel, by decide +kernel, by decide +kernel⟩)
set_option maxRecDepth 100000 in
theorem ev_B_checkSetting {e1 e2 : List Sh} {P : AR → HP → Prop} (h : HP) (a1 : Int32) (hP : ∀ q, v_B_checkSetting h a1 = q → RVT P h q) : am_Ev m_B_checkSetting (WB ++ e1) (RO ++ e2) P (0, [.int a1], [], h) := by
  refine am_Ev_G [] 400 _ ?_
  show ((a1 < 0 → P (.inr "java/lang/IndexOutOfBoundsException") h) ∧ (¬ a1 < 0 → ((a1 < 4 → P (.inl none) h) ∧ (¬ a1 < 4 → P (.inr "java/lang/IndexOutOfBoundsException") h))))
  refine ⟨fun c1 => ?_, fun c1 => ?_⟩
  · skip
    exact hP (some "java/lang/IndexOutOfBoundsException") (by unfold v_B_checkSetting; simp only [if_pos c1])
  · skip
    refine ⟨fun c2 => ?_, fun c2 => ?_⟩
    · skip
      exact hP none (by unfold v_B_checkSetting; simp only [if_neg c1, if_pos c2])
    · skip
      exact hP (some "java/lang/IndexOutOfBoundsException") (by unfold v_B_checkSetting; simp only [if_neg c1, if_neg c2])
theorem ok_B_checkSetting {l : Launch} (hl : l.stackTraces = false) (e1 e2 : List Sh) (k : Nat) : am_Ok l (WB ++ e1) (RO ++ e2) (d_B_checkSetting k) := by
  refine am_met hl (own := RX5) (M := m_B_checkSetting) rfl pf_B_checkSetting cu_B_checkSetting rfl rfl rfl rfl (fun _ => rfl) rfl ⟨chk_B_checkSetting, (am_n), (am_n), (am_n), (am_n)⟩ (am_c (th_B_checkSetting_9) am_n) (am_n) ?_ (fun z => nomatch z) ?_
  · intro _ as h hg
    show g_pre (g_B_checkSetting (WB ++ e1) (RO ++ e2) as h)
    unfold g_B_checkSetting
    split <;> exact trivial
  · intro as h hg hp
    revert hg hp
    show g_ok (g_B_checkSetting (WB ++ e1) (RO ++ e2) as h) = true → g_pre (g_B_checkSetting (WB ++ e1) (RO ++ e2) as h) → _ ∧ am_Ev m_B_checkSetting (WB ++ e1) (RO ++ e2) (am_eq (g_B_checkSetting (WB ++ e1) (RO ++ e2) as h)) (0, am_ent as 1, [], h)
    unfold g_B_checkSetting
    split
    · rename_i a1
      intro hc hp
      exact ⟨Nat.le_of_ble_eq_true rfl, ev_B_checkSetting h a1 eqRVT⟩
    · exact fun z => nomatch z
def k_B_set (pc : Nat) : Ent := bif Nat.ble 52 pc then am_nop else bif Nat.ble 27 pc then (bif Nat.ble 39 pc then (bif Nat.ble 46 pc then (bif Nat.ble 50 pc then (bif Nat.ble 51 pc then (bif Nat.beq pc 51 then (.ireturn, 0, 0, []) else am_nop) else (bif Nat.beq pc 50 then (.iload_n 3, 0, 3, []) else am_nop)) else (bif Nat.ble 47 pc then (bif Nat.beq pc 47 then (.invokestatic 82, 0, 0, []) else am_nop) else (bif Nat.beq pc 46 then (.iload_n 2, 0, 2, []) else am_nop))) else (bif Nat.ble 42 pc then (bif Nat.ble 45 pc then (bif Nat.beq pc 45 then (.iload_n 1, 0, 1, []) else am_nop) else (bif Nat.beq pc 42 then (.getfield 131, 0, 0, []) else am_nop)) else (bif Nat.beq pc 39 then (.getfield 10, 0, 0, []) else am_nop))) else (bif Nat.ble 34 pc then (bif Nat.ble 37 pc then (bif Nat.ble 38 pc then (bif Nat.beq pc 38 then (.aload_n 0, 0, 0, []) else am_nop) else (bif Nat.beq pc 37 then (.istore_n 3, 0, 3, []) else am_nop)) else (bif Nat.beq pc 34 then (.invokestatic 78, 0, 0, []) else am_nop)) else (bif Nat.ble 30 pc then (bif Nat.ble 33 pc then (bif Nat.beq pc 33 then (.iload_n 1, 0, 1, []) else am_nop) else (bif Nat.beq pc 30 then (.getfield 131, 0, 0, []) else am_nop)) else (bif Nat.beq pc 27 then (.getfield 10, 0, 0, []) else am_nop)))) else (bif Nat.ble 12 pc then (bif Nat.ble 19 pc then (bif Nat.ble 23 pc then (bif Nat.ble 26 pc then (bif Nat.beq pc 26 then (.aload_n 0, 0, 0, []) else am_nop) else (bif Nat.beq pc 23 then (.invokevirtual 72, 0, 0, []) else am_nop)) else (bif Nat.ble 22 pc then (bif Nat.beq pc 22 then (.aload_n 0, 0, 0, []) else am_nop) else (bif Nat.beq pc 19 then (.invokestatic 68, 0, 0, []) else am_nop))) else (bif Nat.ble 15 pc then (bif Nat.ble 16 pc then (bif Nat.beq pc 16 then (.invokestatic 78, 0, 0, []) else am_nop) else (bif Nat.beq pc 15 then (.iload_n 1, 0, 1, []) else am_nop)) else (bif Nat.beq pc 12 then (.getstatic 128, 0, 0, []) else am_nop))) else (bif Nat.ble 5 pc then (bif Nat.ble 8 pc then (bif Nat.ble 9 pc then (bif Nat.beq pc 9 then (.invokestatic 78, 0, 0, []) else am_nop) else (bif Nat.beq pc 8 then (.iload_n 1, 0, 1, []) else am_nop)) else (bif Nat.beq pc 5 then (.getstatic 125, 0, 0, []) else am_nop)) else (bif Nat.ble 1 pc then (bif Nat.ble 4 pc then (bif Nat.beq pc 4 then (.iload_n 2, 0, 2, []) else am_nop) else (bif Nat.beq pc 1 then (.invokestatic 122, 0, 0, []) else am_nop)) else (bif Nat.beq pc 0 then (.iload_n 1, 0, 1, []) else am_nop))))
theorem fl_B_131 : am_fok RX5 131 (4, 10) := ⟨RX4, TX4, 15, rfl, by decide, rfl, Or.inr ⟨"BusBlocks", am_tb 75 (by decide +kernel) rfl⟩⟩
theorem lk_B_122 : am_lnk RX5 122 (d_B_checkSetting 0) := ⟨⟨by decide, by decide⟩, am_tb 1 (by decide +kernel) rfl, Or.inl ⟨by decide, rfl, am_tb 581 (by decide +kernel) rfl, Or.inl ⟨by decide, am_tb 580 (by decide +kernel) rfl⟩⟩⟩
theorem sk_B_125 : am_sok RX5 125 1002 := ⟨"LEAST_VALUES", by decide +kernel, Or.inl (am_tb 584 (by decide +kernel) rfl)⟩
theorem sk_B_128 : am_sok RX5 128 1003 := ⟨"MOST_VALUES", by decide +kernel, Or.inl (am_tb 586 (by decide +kernel) rfl)⟩
def m_B_set : MI := (k_B_set, [(10, 5, 0), (131, 4, 10)], [(68, d_B_checkRange 0), (72, d_B_save 15), (78, d_B_at 0), (82, d_B_put 0), (122, d_B_checkSetting 0)], [], [(125, 1002), (128, 1003)], [], [], 7, 133, some .int, fun _ => 0, 1)
def v_B_set (h : HP) (a1 : Int32) (a2 : Int32) : String ⊕ (Int32 × HP) := (match v_B_checkSetting h a1 with | some E => (.inl E) | none => (match v_B_checkRange h a2 (v_at 4 (h.1 1002) a1) (v_at 4 (h.1 1003) a1) with | some E => (.inl E) | none => (bnd (v_B_save h) fun y1 => (.inr ((v_at 4 (y1.1 11) a1), (v_put 4 y1 11 a1 a2))))))
def p_B_set (h : HP) (a1 : Int32) (a2 : Int32) : Prop := (v_B_checkSetting h a1 = none → (v_B_checkRange h a2 (v_at 4 (h.1 1002) a1) (v_at 4 (h.1 1003) a1) = none → (p_B_save h)))
def g_B_set (_ _ : List Sh) (as : List Value) (h : HP) : GR := match as with
  | [.ref o1, .int a1, .int a2] => (Nat.beq o1 38, p_B_set h a1 a2, rthr (v_B_set h a1 a2), rvIW (v_B_set h a1 a2), rhpI h (v_B_set h a1 a2))
  | _ => bad h
def d_B_set (k : Nat) : CD := (k, yX5_set, cX5_set, 4, some .int, 3, 7, 133, 0, true, true, g_B_set)
theorem chk_B_set : ∀ pc, am_chk cX5_set k_B_set pc = true := am_chkall 52 (by decide +kernel) (fun pc h => by unfold k_B_set; rw [Nat.ble_eq_true_of_le h]; rfl)
theorem pf_B_set : plainFor yX5_set = true := by decide +kernel
theorem cu_B_set : Cond.code yX5_set cX5_set 4 (some .int) ∈ am_U := am_tb 579 (by decide +kernel) rfl
set_option maxRecDepth 100000 in
theorem ev_B_set {e1 e2 : List Sh} {P : AR → HP → Prop} (h : HP) (a1 : Int32) (a2 : Int32) (hp : p_B_set h a1 a2) (hP : ∀ q, v_B_set h a1 a2 = q → RIWT P h q) : am_Ev m_B_set (WB ++ e1) (RO ++ e2) P (0, [.ref 38, .int a1, .int a2, .retAddr 0], [], h) := by
  unfold p_B_set at hp
  refine am_Ev_G [4] 400 _ ?_
  show ((∀ E, v_B_checkSetting h a1 = some E → P (.inr E) h) ∧ (v_B_checkSetting h a1 = none → am_Ev m_B_set (WB ++ e1) (RO ++ e2) P (4, [.ref 38, .int a1, .int a2, .retAddr 0], [], h)))
  refine ⟨fun E c1 => ?_, fun c1 => ?_⟩
  · skip
    exact hP (.inl E) (by unfold v_B_set; simp only [c1])
  · have hp := hp c1
    refine am_Ev_G [19] 400 _ ?_
    show am_Ev m_B_set (WB ++ e1) (RO ++ e2) P (19, [.ref 38, .int a1, .int a2, .retAddr 0], [.int (v_at 4 (h.1 1003) a1), .int (v_at 4 (h.1 1002) a1), .int a2], h)
    refine am_Ev_G [22] 400 _ ?_
    show ((∀ E, v_B_checkRange h a2 (v_at 4 (h.1 1002) a1) (v_at 4 (h.1 1003) a1) = some E → P (.inr E) h) ∧ (v_B_checkRange h a2 (v_at 4 (h.1 1002) a1) (v_at 4 (h.1 1003) a1) = none → am_Ev m_B_set (WB ++ e1) (RO ++ e2) P (22, [.ref 38, .int a1, .int a2, .retAddr 0], [], h)))
    refine ⟨fun E c2 => ?_, fun c2 => ?_⟩
    · skip
      exact hP (.inl E) (by unfold v_B_set; simp only [c1, c2])
    · have hp := hp c2
      refine am_Ev_G [26] 400 _ ?_
      show ((p_B_save h) ∧ am_Ev m_B_set (WB ++ e1) (RO ++ e2) P (26, [.ref 38, .int a1, .int a2, .retAddr 0], [], (v_B_save h)))
      refine ⟨hp, ?_⟩
      obtain ⟨y1, c3⟩ : ∃ y, v_B_save h = y := ⟨_, rfl⟩
      rw [c3]
      show am_Ev m_B_set (WB ++ e1) (RO ++ e2) P (26, [.ref 38, .int a1, .int a2, .retAddr 0], [], y1)
      refine am_Ev_G [37] 400 _ ?_
      show am_Ev m_B_set (WB ++ e1) (RO ++ e2) P (37, [.ref 38, .int a1, .int a2, .retAddr 0], [.int (v_at 4 (y1.1 11) a1)], y1)
      refine am_Ev_G [] 400 _ ?_
      show P (.inl (some (.int (v_at 4 (y1.1 11) a1)))) (v_put 4 y1 11 a1 a2)
      exact hP (.inr ((v_at 4 (y1.1 11) a1), (v_put 4 y1 11 a1 a2))) (by unfold v_B_set; simp only [c1, c2, bnd, c3])
theorem ok_B_set {l : Launch} (hl : l.stackTraces = false) (e1 e2 : List Sh) (k : Nat) : am_Ok l (WB ++ e1) (RO ++ e2) (d_B_set k) := by
  refine am_met hl (own := RX5) (M := m_B_set) rfl pf_B_set cu_B_set rfl rfl rfl rfl (fun _ => rfl) rfl ⟨chk_B_set, (am_c (fl_B_10) (am_c (fl_B_131) am_n)), (am_c (lk_B_68) (am_c (lk_B_72) (am_c (lk_B_78) (am_c (lk_B_82) (am_c (lk_B_122) am_n))))), (am_n), (am_c (sk_B_125) (am_c (sk_B_128) am_n))⟩ (am_n) (am_c (ok_B_checkRange hl e1 _ 0) (am_c (ok_B_save hl e1 _ 15) (am_c (ok_B_at hl _ _ 0) (am_c (ok_B_put hl _ _ 0) (am_c (ok_B_checkSetting hl e1 _ 0) am_n))))) (fun z => nomatch z) (fun z => nomatch z) ?_
  · intro as h hg hp
    revert hg hp
    show g_ok (g_B_set (WB ++ e1) (RO ++ e2) as h) = true → g_pre (g_B_set (WB ++ e1) (RO ++ e2) as h) → _ ∧ am_Ev m_B_set (WB ++ e1) (RO ++ e2) (am_eq (g_B_set (WB ++ e1) (RO ++ e2) as h)) (0, am_ent as 4, [], h)
    unfold g_B_set
    split
    · rename_i o1 a1 a2
      intro hc hp
      change (Nat.beq o1 38) = true at hc
      obtain rfl := am_beq hc
      exact ⟨Nat.le_of_ble_eq_true rfl, ev_B_set h a1 a2 hp eqRIWT⟩
    · exact fun z => nomatch z
def k_B_follow (pc : Nat) : Ent := bif Nat.ble 55 pc then am_nop else bif Nat.ble 25 pc then (bif Nat.ble 41 pc then (bif Nat.ble 49 pc then (bif Nat.ble 53 pc then (bif Nat.ble 54 pc then (bif Nat.beq pc 54 then (.ireturn, 0, 0, []) else am_nop) else (bif Nat.beq pc 53 then (.iload_n 3, 0, 3, []) else am_nop)) else (bif Nat.ble 50 pc then (bif Nat.beq pc 50 then (.putfield 142, 0, 0, []) else am_nop) else (bif Nat.beq pc 49 then (.iadd, 0, 0, []) else am_nop))) else (bif Nat.ble 45 pc then (bif Nat.ble 48 pc then (bif Nat.beq pc 48 then (.iconst 1, 1, 0, []) else am_nop) else (bif Nat.beq pc 45 then (.getfield 142, 0, 0, []) else am_nop)) else (bif Nat.ble 44 pc then (bif Nat.beq pc 44 then (.dup, 0, 0, []) else am_nop) else (bif Nat.beq pc 41 then (.getfield 10, 0, 0, []) else am_nop)))) else (bif Nat.ble 33 pc then (bif Nat.ble 37 pc then (bif Nat.ble 40 pc then (bif Nat.beq pc 40 then (.aload_n 0, 0, 0, []) else am_nop) else (bif Nat.beq pc 37 then (.goto 16, 0, 53, []) else am_nop)) else (bif Nat.ble 34 pc then (bif Nat.beq pc 34 then (.invokevirtual 138, 0, 0, []) else am_nop) else (bif Nat.beq pc 33 then (.iload_n 2, 0, 2, []) else am_nop))) else (bif Nat.ble 29 pc then (bif Nat.ble 32 pc then (bif Nat.beq pc 32 then (.iload_n 1, 0, 1, []) else am_nop) else (bif Nat.beq pc 29 then (.getfield 10, 0, 0, []) else am_nop)) else (bif Nat.ble 28 pc then (bif Nat.beq pc 28 then (.aload_n 0, 0, 0, []) else am_nop) else (bif Nat.beq pc 25 then (.ifCond .ne 15, 0, 40, []) else am_nop))))) else (bif Nat.ble 11 pc then (bif Nat.ble 19 pc then (bif Nat.ble 23 pc then (bif Nat.ble 24 pc then (bif Nat.beq pc 24 then (.iload_n 3, 0, 3, []) else am_nop) else (bif Nat.beq pc 23 then (.istore_n 3, 0, 3, []) else am_nop)) else (bif Nat.ble 20 pc then (bif Nat.beq pc 20 then (.invokevirtual 134, 0, 0, []) else am_nop) else (bif Nat.beq pc 19 then (.iload_n 2, 0, 2, []) else am_nop))) else (bif Nat.ble 15 pc then (bif Nat.ble 18 pc then (bif Nat.beq pc 18 then (.iload_n 1, 0, 1, []) else am_nop) else (bif Nat.beq pc 15 then (.getfield 10, 0, 0, []) else am_nop)) else (bif Nat.ble 14 pc then (bif Nat.beq pc 14 then (.aload_n 0, 0, 0, []) else am_nop) else (bif Nat.beq pc 11 then (.invokevirtual 72, 0, 0, []) else am_nop)))) else (bif Nat.ble 5 pc then (bif Nat.ble 7 pc then (bif Nat.ble 10 pc then (bif Nat.beq pc 10 then (.aload_n 0, 0, 0, []) else am_nop) else (bif Nat.beq pc 7 then (.invokevirtual 107, 0, 0, []) else am_nop)) else (bif Nat.ble 6 pc then (bif Nat.beq pc 6 then (.iload_n 2, 0, 2, []) else am_nop) else (bif Nat.beq pc 5 then (.aload_n 0, 0, 0, []) else am_nop))) else (bif Nat.ble 1 pc then (bif Nat.ble 2 pc then (bif Nat.beq pc 2 then (.invokevirtual 107, 0, 0, []) else am_nop) else (bif Nat.beq pc 1 then (.iload_n 1, 0, 1, []) else am_nop)) else (bif Nat.beq pc 0 then (.aload_n 0, 0, 0, []) else am_nop))))
theorem fl_B_142 : am_fok RX5 142 (4, 14) := ⟨RX4, TX4, 15, rfl, by decide, rfl, Or.inr ⟨"BusBlocks", am_tb 84 (by decide +kernel) rfl⟩⟩
theorem lk_B_134 : am_lnk RX5 134 (d_T_reasonAgainst 24) := ⟨⟨by decide, by decide⟩, am_tb 2 (by decide +kernel) rfl, Or.inr ⟨by decide, rfl, am_tb 373 (by decide +kernel) rfl, am_tp 10 (by decide +kernel) rfl, ⟨TX4, 15, rfl⟩, Or.inr ⟨"BusBlocks", am_tb 592 (by decide +kernel) rfl⟩⟩⟩
theorem lk_B_138 : am_lnk RX5 138 (d_T_link 24) := ⟨⟨by decide, by decide⟩, am_tb 2 (by decide +kernel) rfl, Or.inr ⟨by decide, rfl, am_tb 385 (by decide +kernel) rfl, am_tp 13 (by decide +kernel) rfl, ⟨TX4, 15, rfl⟩, Or.inr ⟨"BusBlocks", am_tb 593 (by decide +kernel) rfl⟩⟩⟩
def m_B_follow : MI := (k_B_follow, [(10, 5, 0), (142, 4, 14)], [(72, d_B_save 15), (107, d_B_checkTrip 15), (134, d_T_reasonAgainst 24), (138, d_T_link 24)], [], [], [], [], 7, 133, some .int, fun _ => 0, 1)
def v_B_follow (h : HP) (a1 : Int32) (a2 : Int32) : String ⊕ (Int32 × HP) := (match v_B_checkTrip h a1 with | some E => (.inl E) | none => (match v_B_checkTrip h a2 with | some E => (.inl E) | none => (bnd (v_B_save h) fun y1 => (if (v_T_reasonAgainst y1 a1 a2) = 0 then (bnd (v_T_link y1 a1 a2) fun y2 => (.inr ((v_T_reasonAgainst y1 a1 a2), y2))) else (.inr ((v_T_reasonAgainst y1 a1 a2), (am_si y1 0 14 ((y1.1 0 14) + 1))))))))
def p_B_follow (h : HP) (a1 : Int32) (a2 : Int32) : Prop := (v_B_checkTrip h a1 = none → (v_B_checkTrip h a2 = none → (p_B_save h)))
def g_B_follow (_ _ : List Sh) (as : List Value) (h : HP) : GR := match as with
  | [.ref o1, .int a1, .int a2] => (Nat.beq o1 38, p_B_follow h a1 a2, rthr (v_B_follow h a1 a2), rvIW (v_B_follow h a1 a2), rhpI h (v_B_follow h a1 a2))
  | _ => bad h
def d_B_follow (k : Nat) : CD := (k, yX5_follow, cX5_follow, 4, some .int, 3, 7, 133, 0, true, true, g_B_follow)
theorem chk_B_follow : ∀ pc, am_chk cX5_follow k_B_follow pc = true := am_chkall 55 (by decide +kernel) (fun pc h => by unfold k_B_follow; rw [Nat.ble_eq_true_of_le h]; rfl)
theorem pf_B_follow : plainFor yX5_follow = true := by decide +kernel
theorem cu_B_follow : Cond.code yX5_follow cX5_follow 4 (some .int) ∈ am_U := am_tb 591 (by decide +kernel) rfl
set_option maxRecDepth 100000 in
theorem ev_B_follow {e1 e2 : List Sh} {P : AR → HP → Prop} (h : HP) (a1 : Int32) (a2 : Int32) (hp : p_B_follow h a1 a2) (hP : ∀ q, v_B_follow h a1 a2 = q → RIWT P h q) : am_Ev m_B_follow (WB ++ e1) (RO ++ e2) P (0, [.ref 38, .int a1, .int a2, .retAddr 0], [], h) := by
  unfold p_B_follow at hp
  refine am_Ev_G [5] 400 _ ?_
  show ((∀ E, v_B_checkTrip h a1 = some E → P (.inr E) h) ∧ (v_B_checkTrip h a1 = none → am_Ev m_B_follow (WB ++ e1) (RO ++ e2) P (5, [.ref 38, .int a1, .int a2, .retAddr 0], [], h)))
  refine ⟨fun E c1 => ?_, fun c1 => ?_⟩
  · skip
    exact hP (.inl E) (by unfold v_B_follow; simp only [c1])
  · have hp := hp c1
    refine am_Ev_G [10] 400 _ ?_
    show ((∀ E, v_B_checkTrip h a2 = some E → P (.inr E) h) ∧ (v_B_checkTrip h a2 = none → am_Ev m_B_follow (WB ++ e1) (RO ++ e2) P (10, [.ref 38, .int a1, .int a2, .retAddr 0], [], h)))
    refine ⟨fun E c2 => ?_, fun c2 => ?_⟩
    · skip
      exact hP (.inl E) (by unfold v_B_follow; simp only [c1, c2])
    · have hp := hp c2
      refine am_Ev_G [14] 400 _ ?_
      show ((p_B_save h) ∧ am_Ev m_B_follow (WB ++ e1) (RO ++ e2) P (14, [.ref 38, .int a1, .int a2, .retAddr 0], [], (v_B_save h)))
      refine ⟨hp, ?_⟩
      obtain ⟨y1, c3⟩ : ∃ y, v_B_save h = y := ⟨_, rfl⟩
      rw [c3]
      show am_Ev m_B_follow (WB ++ e1) (RO ++ e2) P (14, [.ref 38, .int a1, .int a2, .retAddr 0], [], y1)
      refine am_Ev_G [37] 400 _ ?_
      show ((¬ (v_T_reasonAgainst y1 a1 a2) = 0 → P (.inl (some (.int (v_T_reasonAgainst y1 a1 a2)))) (am_si y1 0 14 ((y1.1 0 14) + 1))) ∧ ((v_T_reasonAgainst y1 a1 a2) = 0 → am_Ev m_B_follow (WB ++ e1) (RO ++ e2) P (37, [.ref 38, .int a1, .int a2, .int (v_T_reasonAgainst y1 a1 a2)], [], (v_T_link y1 a1 a2))))
      refine ⟨fun c4 => ?_, fun c4 => ?_⟩
      · skip
        exact hP (.inr ((v_T_reasonAgainst y1 a1 a2), (am_si y1 0 14 ((y1.1 0 14) + 1)))) (by unfold v_B_follow; simp only [c1, c2, bnd, c3, if_neg c4])
      · skip
        obtain ⟨y2, c5⟩ : ∃ y, v_T_link y1 a1 a2 = y := ⟨_, rfl⟩
        rw [c5]
        show am_Ev m_B_follow (WB ++ e1) (RO ++ e2) P (37, [.ref 38, .int a1, .int a2, .int (v_T_reasonAgainst y1 a1 a2)], [], y2)
        refine am_Ev_G [] 400 _ ?_
        show P (.inl (some (.int (v_T_reasonAgainst y1 a1 a2)))) y2
        exact hP (.inr ((v_T_reasonAgainst y1 a1 a2), y2)) (by unfold v_B_follow; simp only [c1, c2, bnd, c3, if_pos c4, bnd, c5])
theorem ok_B_follow {l : Launch} (hl : l.stackTraces = false) (e1 e2 : List Sh) (k : Nat) : am_Ok l (WB ++ e1) (RO ++ e2) (d_B_follow k) := by
  refine am_met hl (own := RX5) (M := m_B_follow) rfl pf_B_follow cu_B_follow rfl rfl rfl rfl (fun _ => rfl) rfl ⟨chk_B_follow, (am_c (fl_B_10) (am_c (fl_B_142) am_n)), (am_c (lk_B_72) (am_c (lk_B_107) (am_c (lk_B_134) (am_c (lk_B_138) am_n)))), (am_n), (am_n)⟩ (am_n) (am_c (ok_B_save hl e1 _ 15) (am_c (ok_B_checkTrip hl e1 _ 15) (am_c (ok_T_reasonAgainst hl (W21b ++ (WBb ++ e1)) _ 24) (am_c (ok_T_link hl (W21b ++ (WBb ++ e1)) _ 24) am_n)))) (fun z => nomatch z) (fun z => nomatch z) ?_
  · intro as h hg hp
    revert hg hp
    show g_ok (g_B_follow (WB ++ e1) (RO ++ e2) as h) = true → g_pre (g_B_follow (WB ++ e1) (RO ++ e2) as h) → _ ∧ am_Ev m_B_follow (WB ++ e1) (RO ++ e2) (am_eq (g_B_follow (WB ++ e1) (RO ++ e2) as h)) (0, am_ent as 4, [], h)
    unfold g_B_follow
    split
    · rename_i o1 a1 a2
      intro hc hp
      change (Nat.beq o1 38) = true at hc
      obtain rfl := am_beq hc
      exact ⟨Nat.le_of_ble_eq_true rfl, ev_B_follow h a1 a2 hp eqRIWT⟩
    · exact fun z => nomatch z
def k_B_part (pc : Nat) : Ent := bif Nat.ble 46 pc then am_nop else bif Nat.ble 22 pc then (bif Nat.ble 33 pc then (bif Nat.ble 40 pc then (bif Nat.ble 44 pc then (bif Nat.ble 45 pc then (bif Nat.beq pc 45 then (.ireturn, 0, 0, []) else am_nop) else (bif Nat.beq pc 44 then (.iload_n 2, 0, 2, []) else am_nop)) else (bif Nat.ble 41 pc then (bif Nat.beq pc 41 then (.invokevirtual 119, 0, 0, []) else am_nop) else (bif Nat.beq pc 40 then (.iload_n 1, 0, 1, []) else am_nop))) else (bif Nat.ble 36 pc then (bif Nat.ble 37 pc then (bif Nat.beq pc 37 then (.getfield 10, 0, 0, []) else am_nop) else (bif Nat.beq pc 36 then (.aload_n 0, 0, 0, []) else am_nop)) else (bif Nat.beq pc 33 then (.invokevirtual 72, 0, 0, []) else am_nop))) else (bif Nat.ble 28 pc then (bif Nat.ble 31 pc then (bif Nat.ble 32 pc then (bif Nat.beq pc 32 then (.aload_n 0, 0, 0, []) else am_nop) else (bif Nat.beq pc 31 then (.athrow, 0, 0, []) else am_nop)) else (bif Nat.beq pc 28 then (.invokespecial 100, 0, 0, []) else am_nop)) else (bif Nat.ble 25 pc then (bif Nat.ble 26 pc then (bif Nat.beq pc 26 then (.ldc 148, 0, 0, []) else am_nop) else (bif Nat.beq pc 25 then (.dup, 0, 0, []) else am_nop)) else (bif Nat.beq pc 22 then (.new 96, 0, 0, []) else am_nop)))) else (bif Nat.ble 12 pc then (bif Nat.ble 17 pc then (bif Nat.ble 18 pc then (bif Nat.ble 19 pc then (bif Nat.beq pc 19 then (.if_icmp .ne 13, 0, 32, []) else am_nop) else (bif Nat.beq pc 18 then (.iconst (-1), (-1 : Int32), 0, []) else am_nop)) else (bif Nat.beq pc 17 then (.iload_n 2, 0, 2, []) else am_nop)) else (bif Nat.ble 13 pc then (bif Nat.ble 16 pc then (bif Nat.beq pc 16 then (.istore_n 2, 0, 2, []) else am_nop) else (bif Nat.beq pc 13 then (.invokestatic 78, 0, 0, []) else am_nop)) else (bif Nat.beq pc 12 then (.iload_n 1, 0, 1, []) else am_nop))) else (bif Nat.ble 5 pc then (bif Nat.ble 6 pc then (bif Nat.ble 9 pc then (bif Nat.beq pc 9 then (.getfield 145, 0, 0, []) else am_nop) else (bif Nat.beq pc 6 then (.getfield 10, 0, 0, []) else am_nop)) else (bif Nat.beq pc 5 then (.aload_n 0, 0, 0, []) else am_nop)) else (bif Nat.ble 1 pc then (bif Nat.ble 2 pc then (bif Nat.beq pc 2 then (.invokevirtual 107, 0, 0, []) else am_nop) else (bif Nat.beq pc 1 then (.iload_n 1, 0, 1, []) else am_nop)) else (bif Nat.beq pc 0 then (.aload_n 0, 0, 0, []) else am_nop))))
theorem fl_B_145 : am_fok RX5 145 (4, 6) := ⟨RX4, TX4, 15, rfl, by decide, rfl, Or.inr ⟨"BusBlocks", am_tb 64 (by decide +kernel) rfl⟩⟩
def m_B_part : MI := (k_B_part, [(10, 5, 0), (145, 4, 6)], [(72, d_B_save 15), (78, d_B_at 0), (107, d_B_checkTrip 15), (119, d_T_cutBehind 24)], [], [], [(22, "java/lang/IllegalStateException")], [], 7, 133, some .int, fun _ => 0, 1)
def v_B_part (h : HP) (a1 : Int32) : String ⊕ (Int32 × HP) := (match v_B_checkTrip h a1 with | some E => (.inl E) | none => (if (v_at 20 (h.1 7) a1) = (-1 : Int32) then (.inl "java/lang/IllegalStateException") else (bnd (v_B_save h) fun y1 => (bnd (v_T_cutBehind y1 a1) fun y2 => (.inr ((v_at 20 (h.1 7) a1), y2))))))
def p_B_part (h : HP) (a1 : Int32) : Prop := (v_B_checkTrip h a1 = none → (((v_at 20 (h.1 7) a1) = (-1 : Int32) → True) ∧ (¬ (v_at 20 (h.1 7) a1) = (-1 : Int32) → (p_B_save h))))
def g_B_part (_ _ : List Sh) (as : List Value) (h : HP) : GR := match as with
  | [.ref o1, .int a1] => (Nat.beq o1 38, p_B_part h a1, rthr (v_B_part h a1), rvIW (v_B_part h a1), rhpI h (v_B_part h a1))
  | _ => bad h
def d_B_part (k : Nat) : CD := (k, yX5_part, cX5_part, 3, some .int, 2, 7, 133, 0, true, true, g_B_part)
theorem chk_B_part : ∀ pc, am_chk cX5_part k_B_part pc = true := am_chkall 46 (by decide +kernel) (fun pc h => by unfold k_B_part; rw [Nat.ble_eq_true_of_le h]; rfl)
theorem pf_B_part : plainFor yX5_part = true := by decide +kernel
theorem cu_B_part : Cond.code yX5_part cX5_part 3 (some .int) ∈ am_U := am_tb 597 (by decide +kernel) rfl
theorem th_B_part_22 : am_thok "BusBlocks" cX5_part m_B_part 22 "java/lang/IllegalStateException" := ex_th (ik := 96) (ic := 100) (is := 148) (text := "no trip follows it") ex_fS exw_ISE (by decide +kernel) (Nat.le_of_ble_eq_true rfl) (Nat.le_of_ble_eq_true rfl) (by decide +kernel) (by decide +kernel) (Or.inl ⟨by decide +kernel, by decide +kernel, by decide +kernel⟩)
set_option maxRecDepth 100000 in
theorem ev_B_part {e1 e2 : List Sh} {P : AR → HP → Prop} (h : HP) (a1 : Int32) (hp : p_B_part h a1) (hP : ∀ q, v_B_part h a1 = q → RIWT P h q) : am_Ev m_B_part (WB ++ e1) (RO ++ e2) P (0, [.ref 38, .int a1, .retAddr 0], [], h) := by
  unfold p_B_part at hp
  refine am_Ev_G [5] 400 _ ?_
  show ((∀ E, v_B_checkTrip h a1 = some E → P (.inr E) h) ∧ (v_B_checkTrip h a1 = none → am_Ev m_B_part (WB ++ e1) (RO ++ e2) P (5, [.ref 38, .int a1, .retAddr 0], [], h)))
  refine ⟨fun E c1 => ?_, fun c1 => ?_⟩
  · skip
    exact hP (.inl E) (by unfold v_B_part; simp only [c1])
  · have hp := hp c1
    refine am_Ev_G [16] 400 _ ?_
    show am_Ev m_B_part (WB ++ e1) (RO ++ e2) P (16, [.ref 38, .int a1, .retAddr 0], [.int (v_at 20 (h.1 7) a1)], h)
    refine am_Ev_G [36] 400 _ ?_
    show ((¬ (v_at 20 (h.1 7) a1) = (-1 : Int32) → ((p_B_save h) ∧ am_Ev m_B_part (WB ++ e1) (RO ++ e2) P (36, [.ref 38, .int a1, .int (v_at 20 (h.1 7) a1)], [], (v_B_save h)))) ∧ ((v_at 20 (h.1 7) a1) = (-1 : Int32) → P (.inr "java/lang/IllegalStateException") h))
    refine ⟨fun c2 => ?_, fun c2 => ?_⟩
    · have hp := hp.2 c2
      refine ⟨hp, ?_⟩
      obtain ⟨y1, c3⟩ : ∃ y, v_B_save h = y := ⟨_, rfl⟩
      rw [c3]
      show am_Ev m_B_part (WB ++ e1) (RO ++ e2) P (36, [.ref 38, .int a1, .int (v_at 20 (h.1 7) a1)], [], y1)
      refine am_Ev_G [44] 400 _ ?_
      show am_Ev m_B_part (WB ++ e1) (RO ++ e2) P (44, [.ref 38, .int a1, .int (v_at 20 (h.1 7) a1)], [], (v_T_cutBehind y1 a1))
      obtain ⟨y2, c4⟩ : ∃ y, v_T_cutBehind y1 a1 = y := ⟨_, rfl⟩
      rw [c4]
      show am_Ev m_B_part (WB ++ e1) (RO ++ e2) P (44, [.ref 38, .int a1, .int (v_at 20 (h.1 7) a1)], [], y2)
      refine am_Ev_G [] 400 _ ?_
      show P (.inl (some (.int (v_at 20 (h.1 7) a1)))) y2
      exact hP (.inr ((v_at 20 (h.1 7) a1), y2)) (by unfold v_B_part; simp only [c1, if_neg c2, bnd, c3, bnd, c4])
    · skip
      exact hP (.inl "java/lang/IllegalStateException") (by unfold v_B_part; simp only [c1, if_pos c2])
theorem ok_B_part {l : Launch} (hl : l.stackTraces = false) (e1 e2 : List Sh) (k : Nat) : am_Ok l (WB ++ e1) (RO ++ e2) (d_B_part k) := by
  refine am_met hl (own := RX5) (M := m_B_part) rfl pf_B_part cu_B_part rfl rfl rfl rfl (fun _ => rfl) rfl ⟨chk_B_part, (am_c (fl_B_10) (am_c (fl_B_145) am_n)), (am_c (lk_B_72) (am_c (lk_B_78) (am_c (lk_B_107) (am_c (lk_B_119) am_n)))), (am_n), (am_n)⟩ (am_c (th_B_part_22) am_n) (am_c (ok_B_save hl e1 _ 15) (am_c (ok_B_at hl _ _ 0) (am_c (ok_B_checkTrip hl e1 _ 15) (am_c (ok_T_cutBehind hl (W21b ++ (WBb ++ e1)) _ 24) am_n)))) (fun z => nomatch z) (fun z => nomatch z) ?_
  · intro as h hg hp
    revert hg hp
    show g_ok (g_B_part (WB ++ e1) (RO ++ e2) as h) = true → g_pre (g_B_part (WB ++ e1) (RO ++ e2) as h) → _ ∧ am_Ev m_B_part (WB ++ e1) (RO ++ e2) (am_eq (g_B_part (WB ++ e1) (RO ++ e2) as h)) (0, am_ent as 3, [], h)
    unfold g_B_part
    split
    · rename_i o1 a1
      intro hc hp
      change (Nat.beq o1 38) = true at hc
      obtain rfl := am_beq hc
      exact ⟨Nat.le_of_ble_eq_true rfl, ev_B_part h a1 hp eqRIWT⟩
    · exact fun z => nomatch z
def k_B_blockAll (pc : Nat) : Ent := bif Nat.ble 19 pc then am_nop else bif Nat.ble 8 pc then (bif Nat.ble 12 pc then (bif Nat.ble 15 pc then (bif Nat.ble 18 pc then (bif Nat.beq pc 18 then (.ireturn, 0, 0, []) else am_nop) else (bif Nat.beq pc 15 then (.invokevirtual 153, 0, 0, []) else am_nop)) else (bif Nat.beq pc 12 then (.getfield 10, 0, 0, []) else am_nop)) else (bif Nat.ble 11 pc then (bif Nat.beq pc 11 then (.aload_n 0, 0, 0, []) else am_nop) else (bif Nat.beq pc 8 then (.invokevirtual 150, 0, 0, []) else am_nop))) else (bif Nat.ble 4 pc then (bif Nat.ble 5 pc then (bif Nat.beq pc 5 then (.getfield 10, 0, 0, []) else am_nop) else (bif Nat.beq pc 4 then (.aload_n 0, 0, 0, []) else am_nop)) else (bif Nat.ble 1 pc then (bif Nat.beq pc 1 then (.invokevirtual 72, 0, 0, []) else am_nop) else (bif Nat.beq pc 0 then (.aload_n 0, 0, 0, []) else am_nop)))
theorem lk_B_150 : am_lnk RX5 150 (d_TB_blockEverything 24) := ⟨⟨by decide, by decide⟩, am_tb 2 (by decide +kernel) rfl, Or.inr ⟨by decide, rfl, am_tb 350 (by decide +kernel) rfl, am_tp 5 (by decide +kernel) rfl, ⟨TX4, 15, rfl⟩, Or.inr ⟨"BusBlocks", am_tb 348 (by decide +kernel) rfl⟩⟩⟩
theorem lk_B_153 : am_lnk RX5 153 (d_TB_blocks 24) := ⟨⟨by decide, by decide⟩, am_tb 2 (by decide +kernel) rfl, Or.inr ⟨by decide, rfl, am_tb 389 (by decide +kernel) rfl, am_tp 14 (by decide +kernel) rfl, ⟨TX4, 15, rfl⟩, Or.inr ⟨"BusBlocks", am_tb 387 (by decide +kernel) rfl⟩⟩⟩
def m_B_blockAll : MI := (k_B_blockAll, [(10, 5, 0)], [(72, d_B_save 15), (150, d_TB_blockEverything 24), (153, d_TB_blocks 24)], [], [], [], [], 5, 133, some .int, fun _ => 0, 1)
def v_B_blockAll (h : HP) : Int32 × HP := (bnd (v_B_save h) fun y1 => (bnd (v_T_blockEverything y1) fun y2 => ((v_T_blocks y2), y2)))
def p_B_blockAll (h : HP) : Prop := ((p_B_save h) ∧ (∀ y1, v_B_save h = y1 → ((p_T_blockEverything y1) ∧ (∀ y2, v_T_blockEverything y1 = y2 → (p_T_blocks y2)))))
def g_B_blockAll (_ _ : List Sh) (as : List Value) (h : HP) : GR := match as with
  | [.ref o1] => (Nat.beq o1 38, p_B_blockAll h, none, some (.int (v_B_blockAll h).1), (v_B_blockAll h).2)
  | _ => bad h
def d_B_blockAll (k : Nat) : CD := (k, yX5_blockAll, cX5_blockAll, 1, some .int, 1, 5, 133, 0, false, true, g_B_blockAll)
theorem chk_B_blockAll : ∀ pc, am_chk cX5_blockAll k_B_blockAll pc = true := am_chkall 19 (by decide +kernel) (fun pc h => by unfold k_B_blockAll; rw [Nat.ble_eq_true_of_le h]; rfl)
theorem pf_B_blockAll : plainFor yX5_blockAll = true := by decide +kernel
theorem cu_B_blockAll : Cond.code yX5_blockAll cX5_blockAll 1 (some .int) ∈ am_U := am_tb 347 (by decide +kernel) rfl
set_option maxRecDepth 100000 in
theorem ev_B_blockAll {e1 e2 : List Sh} {P : AR → HP → Prop} (h : HP) (hp : p_B_blockAll h) (hP : ∀ q, v_B_blockAll h = q → RIW P h q) : am_Ev m_B_blockAll (WB ++ e1) (RO ++ e2) P (0, [.ref 38], [], h) := by
  unfold p_B_blockAll at hp
  refine am_Ev_G [4] 400 _ ?_
  show ((p_B_save h) ∧ am_Ev m_B_blockAll (WB ++ e1) (RO ++ e2) P (4, [.ref 38], [], (v_B_save h)))
  obtain ⟨hob, hp⟩ := hp
  refine ⟨hob, ?_⟩
  obtain ⟨y1, c1⟩ : ∃ y, v_B_save h = y := ⟨_, rfl⟩
  rw [c1]
  have hp := hp _ c1
  show am_Ev m_B_blockAll (WB ++ e1) (RO ++ e2) P (4, [.ref 38], [], y1)
  refine am_Ev_G [11] 400 _ ?_
  show ((p_T_blockEverything y1) ∧ am_Ev m_B_blockAll (WB ++ e1) (RO ++ e2) P (11, [.ref 38], [], (v_T_blockEverything y1)))
  obtain ⟨hob, hp⟩ := hp
  refine ⟨hob, ?_⟩
  obtain ⟨y2, c2⟩ : ∃ y, v_T_blockEverything y1 = y := ⟨_, rfl⟩
  rw [c2]
  have hp := hp _ c2
  show am_Ev m_B_blockAll (WB ++ e1) (RO ++ e2) P (11, [.ref 38], [], y2)
  refine am_Ev_G [18] 400 _ ?_
  show ((p_T_blocks y2) ∧ am_Ev m_B_blockAll (WB ++ e1) (RO ++ e2) P (18, [.ref 38], [.int (v_T_blocks y2)], y2))
  refine ⟨hp, ?_⟩
  refine am_Ev_G [] 400 _ ?_
  show P (.inl (some (.int (v_T_blocks y2)))) y2
  exact hP ((v_T_blocks y2), y2) (by unfold v_B_blockAll; simp only [bnd, c1, bnd, c2])
theorem ok_B_blockAll {l : Launch} (hl : l.stackTraces = false) (e1 e2 : List Sh) (k : Nat) : am_Ok l (WB ++ e1) (RO ++ e2) (d_B_blockAll k) := by
  refine am_met hl (own := RX5) (M := m_B_blockAll) rfl pf_B_blockAll cu_B_blockAll rfl rfl rfl rfl (fun _ => rfl) rfl ⟨chk_B_blockAll, (am_c (fl_B_10) am_n), (am_c (lk_B_72) (am_c (lk_B_150) (am_c (lk_B_153) am_n))), (am_n), (am_n)⟩ (am_n) (am_c (ok_B_save hl e1 _ 15) (am_c (ok_TB_blockEverything hl e1 _ 24 (by decide)) (am_c (ok_TB_blocks hl e1 _ 24 (by decide)) am_n))) (fun z => nomatch z) ?_ ?_
  · intro _ as h hg
    show g_thr (g_B_blockAll (WB ++ e1) (RO ++ e2) as h) = none
    unfold g_B_blockAll
    split <;> rfl
  · intro as h hg hp
    revert hg hp
    show g_ok (g_B_blockAll (WB ++ e1) (RO ++ e2) as h) = true → g_pre (g_B_blockAll (WB ++ e1) (RO ++ e2) as h) → _ ∧ am_Ev m_B_blockAll (WB ++ e1) (RO ++ e2) (am_eq (g_B_blockAll (WB ++ e1) (RO ++ e2) as h)) (0, am_ent as 1, [], h)
    unfold g_B_blockAll
    split
    · rename_i o1
      intro hc hp
      change (Nat.beq o1 38) = true at hc
      obtain rfl := am_beq hc
      exact ⟨Nat.le_of_ble_eq_true rfl, ev_B_blockAll h hp eqRIW⟩
    · exact fun z => nomatch z
def k_B_fail (pc : Nat) : Ent := bif Nat.ble 23 pc then am_nop else bif Nat.ble 10 pc then (bif Nat.ble 15 pc then (bif Nat.ble 19 pc then (bif Nat.ble 22 pc then (bif Nat.beq pc 22 then (.ireturn, 0, 0, []) else am_nop) else (bif Nat.beq pc 19 then (.invokevirtual 157, 0, 0, []) else am_nop)) else (bif Nat.ble 18 pc then (bif Nat.beq pc 18 then (.iload_n 1, 0, 1, []) else am_nop) else (bif Nat.beq pc 15 then (.getfield 10, 0, 0, []) else am_nop))) else (bif Nat.ble 11 pc then (bif Nat.ble 14 pc then (bif Nat.beq pc 14 then (.aload_n 0, 0, 0, []) else am_nop) else (bif Nat.beq pc 11 then (.invokevirtual 72, 0, 0, []) else am_nop)) else (bif Nat.beq pc 10 then (.aload_n 0, 0, 0, []) else am_nop))) else (bif Nat.ble 5 pc then (bif Nat.ble 6 pc then (bif Nat.ble 7 pc then (bif Nat.beq pc 7 then (.invokevirtual 110, 0, 0, []) else am_nop) else (bif Nat.beq pc 6 then (.iload_n 1, 0, 1, []) else am_nop)) else (bif Nat.beq pc 5 then (.aload_n 0, 0, 0, []) else am_nop)) else (bif Nat.ble 1 pc then (bif Nat.ble 2 pc then (bif Nat.beq pc 2 then (.invokevirtual 107, 0, 0, []) else am_nop) else (bif Nat.beq pc 1 then (.iload_n 1, 0, 1, []) else am_nop)) else (bif Nat.beq pc 0 then (.aload_n 0, 0, 0, []) else am_nop)))
theorem lk_B_157 : am_lnk RX5 157 (d_T_loseBus 24) := ⟨⟨by decide, by decide⟩, am_tb 2 (by decide +kernel) rfl, Or.inr ⟨by decide, rfl, am_tb 605 (by decide +kernel) rfl, am_tp 40 (by decide +kernel) rfl, ⟨TX4, 15, rfl⟩, Or.inr ⟨"BusBlocks", am_tb 603 (by decide +kernel) rfl⟩⟩⟩
def m_B_fail : MI := (k_B_fail, [(10, 5, 0)], [(72, d_B_save 15), (107, d_B_checkTrip 15), (110, d_B_checkRun 15), (157, d_T_loseBus 24)], [], [], [], [], 7, 133, some .int, fun _ => 0, 1)
def v_B_fail (h : HP) (a1 : Int32) : String ⊕ (Int32 × HP) := (match v_B_checkTrip h a1 with | some E => (.inl E) | none => (match v_B_checkRun h a1 with | some E => (.inl E) | none => (bnd (v_B_save h) fun y1 => (bnd (v_T_loseBus y1 a1) fun y2 => (.inr (y2.1, y2.2))))))
def p_B_fail (h : HP) (a1 : Int32) : Prop := (v_B_checkTrip h a1 = none → (v_B_checkRun h a1 = none → ((p_B_save h) ∧ (∀ y1, v_B_save h = y1 → (p_T_loseBus y1 a1)))))
def g_B_fail (_ _ : List Sh) (as : List Value) (h : HP) : GR := match as with
  | [.ref o1, .int a1] => (Nat.beq o1 38, p_B_fail h a1, rthr (v_B_fail h a1), rvIW (v_B_fail h a1), rhpI h (v_B_fail h a1))
  | _ => bad h
def d_B_fail (k : Nat) : CD := (k, yX5_fail, cX5_fail, 2, some .int, 2, 7, 133, 0, true, true, g_B_fail)
theorem chk_B_fail : ∀ pc, am_chk cX5_fail k_B_fail pc = true := am_chkall 23 (by decide +kernel) (fun pc h => by unfold k_B_fail; rw [Nat.ble_eq_true_of_le h]; rfl)
theorem pf_B_fail : plainFor yX5_fail = true := by decide +kernel
theorem cu_B_fail : Cond.code yX5_fail cX5_fail 2 (some .int) ∈ am_U := am_tb 602 (by decide +kernel) rfl
set_option maxRecDepth 100000 in
theorem ev_B_fail {e1 e2 : List Sh} {P : AR → HP → Prop} (h : HP) (a1 : Int32) (hp : p_B_fail h a1) (hP : ∀ q, v_B_fail h a1 = q → RIWT P h q) : am_Ev m_B_fail (WB ++ e1) (RO ++ e2) P (0, [.ref 38, .int a1], [], h) := by
  unfold p_B_fail at hp
  refine am_Ev_G [5] 400 _ ?_
  show ((∀ E, v_B_checkTrip h a1 = some E → P (.inr E) h) ∧ (v_B_checkTrip h a1 = none → am_Ev m_B_fail (WB ++ e1) (RO ++ e2) P (5, [.ref 38, .int a1], [], h)))
  refine ⟨fun E c1 => ?_, fun c1 => ?_⟩
  · skip
    exact hP (.inl E) (by unfold v_B_fail; simp only [c1])
  · have hp := hp c1
    refine am_Ev_G [10] 400 _ ?_
    show ((∀ E, v_B_checkRun h a1 = some E → P (.inr E) h) ∧ (v_B_checkRun h a1 = none → am_Ev m_B_fail (WB ++ e1) (RO ++ e2) P (10, [.ref 38, .int a1], [], h)))
    refine ⟨fun E c2 => ?_, fun c2 => ?_⟩
    · skip
      exact hP (.inl E) (by unfold v_B_fail; simp only [c1, c2])
    · have hp := hp c2
      refine am_Ev_G [14] 400 _ ?_
      show ((p_B_save h) ∧ am_Ev m_B_fail (WB ++ e1) (RO ++ e2) P (14, [.ref 38, .int a1], [], (v_B_save h)))
      obtain ⟨hob, hp⟩ := hp
      refine ⟨hob, ?_⟩
      obtain ⟨y1, c3⟩ : ∃ y, v_B_save h = y := ⟨_, rfl⟩
      rw [c3]
      have hp := hp _ c3
      show am_Ev m_B_fail (WB ++ e1) (RO ++ e2) P (14, [.ref 38, .int a1], [], y1)
      refine am_Ev_G [22] 400 _ ?_
      show ((p_T_loseBus y1 a1) ∧ am_Ev m_B_fail (WB ++ e1) (RO ++ e2) P (22, [.ref 38, .int a1], [.int ((v_T_loseBus y1 a1).1)], ((v_T_loseBus y1 a1).2)))
      refine ⟨hp, ?_⟩
      obtain ⟨y2, c4⟩ : ∃ y, v_T_loseBus y1 a1 = y := ⟨_, rfl⟩
      rw [c4]
      show am_Ev m_B_fail (WB ++ e1) (RO ++ e2) P (22, [.ref 38, .int a1], [.int y2.1], y2.2)
      refine am_Ev_G [] 400 _ ?_
      show P (.inl (some (.int y2.1))) y2.2
      exact hP (.inr (y2.1, y2.2)) (by unfold v_B_fail; simp only [c1, c2, bnd, c3, bnd, c4])
theorem ok_B_fail {l : Launch} (hl : l.stackTraces = false) (e1 e2 : List Sh) (k : Nat) : am_Ok l (WB ++ e1) (RO ++ e2) (d_B_fail k) := by
  refine am_met hl (own := RX5) (M := m_B_fail) rfl pf_B_fail cu_B_fail rfl rfl rfl rfl (fun _ => rfl) rfl ⟨chk_B_fail, (am_c (fl_B_10) am_n), (am_c (lk_B_72) (am_c (lk_B_107) (am_c (lk_B_110) (am_c (lk_B_157) am_n)))), (am_n), (am_n)⟩ (am_n) (am_c (ok_B_save hl e1 _ 15) (am_c (ok_B_checkTrip hl e1 _ 15) (am_c (ok_B_checkRun hl e1 _ 15) (am_c (ok_T_loseBus hl (W21b ++ (WBb ++ e1)) _ 24) am_n)))) (fun z => nomatch z) (fun z => nomatch z) ?_
  · intro as h hg hp
    revert hg hp
    show g_ok (g_B_fail (WB ++ e1) (RO ++ e2) as h) = true → g_pre (g_B_fail (WB ++ e1) (RO ++ e2) as h) → _ ∧ am_Ev m_B_fail (WB ++ e1) (RO ++ e2) (am_eq (g_B_fail (WB ++ e1) (RO ++ e2) as h)) (0, am_ent as 2, [], h)
    unfold g_B_fail
    split
    · rename_i o1 a1
      intro hc hp
      change (Nat.beq o1 38) = true at hc
      obtain rfl := am_beq hc
      exact ⟨Nat.le_of_ble_eq_true rfl, ev_B_fail h a1 hp eqRIWT⟩
    · exact fun z => nomatch z
end
