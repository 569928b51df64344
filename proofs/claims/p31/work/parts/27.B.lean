/-! BusBlocks, out of its code (written by gen/meth.py). -/
noncomputable section
def RIWU (P : AR → HP → Prop) (_ : HP) : (String × HP) ⊕ (Int32 × HP) → Prop
  | .inl q => P (.inr q.1) q.2
  | .inr q => P (.inl (some (.int q.1))) q.2
def rthrU : (String × HP) ⊕ (Int32 × HP) → Option String
  | .inl q => some q.1
  | .inr _ => none
def rvIU : (String × HP) ⊕ (Int32 × HP) → Option Value
  | .inl _ => none
  | .inr q => some (.int q.1)
def rhpU : (String × HP) ⊕ (Int32 × HP) → HP
  | .inl q => q.2
  | .inr q => q.2
theorem eqRIWU {h : HP} {p : Prop} {v : (String × HP) ⊕ (Int32 × HP)} : ∀ q, v = q → RIWU (am_eq (true, p, rthrU v, rvIU v, rhpU v)) h q := fun q e => by subst e; cases v <;> exact ⟨rfl, by first | exact ⟨rfl, rfl⟩ | rfl⟩
def k_B_append (pc : Nat) : Ent := bif Nat.ble 39 pc then am_nop else bif Nat.ble 20 pc then (bif Nat.ble 30 pc then (bif Nat.ble 34 pc then (bif Nat.ble 35 pc then (bif Nat.ble 38 pc then (bif Nat.beq pc 38 then (.ireturn, 0, 0, []) else am_nop) else (bif Nat.beq pc 35 then (.invokevirtual 166, 0, 0, []) else am_nop)) else (bif Nat.beq pc 34 then (.iload_n 1, 0, 1, []) else am_nop)) else (bif Nat.ble 31 pc then (bif Nat.beq pc 31 then (.getfield 38, 0, 0, []) else am_nop) else (bif Nat.beq pc 30 then (.aload_n 0, 0, 0, []) else am_nop))) else (bif Nat.ble 24 pc then (bif Nat.ble 26 pc then (bif Nat.ble 29 pc then (bif Nat.beq pc 29 then (.athrow, 0, 0, []) else am_nop) else (bif Nat.beq pc 26 then (.invokespecial 100, 0, 0, []) else am_nop)) else (bif Nat.beq pc 24 then (.ldc 164, 0, 0, []) else am_nop)) else (bif Nat.ble 23 pc then (bif Nat.beq pc 23 then (.dup, 0, 0, []) else am_nop) else (bif Nat.beq pc 20 then (.new 96, 0, 0, []) else am_nop)))) else (bif Nat.ble 8 pc then (bif Nat.ble 12 pc then (bif Nat.ble 15 pc then (bif Nat.ble 17 pc then (bif Nat.beq pc 17 then (.if_icmp .lt 13, 0, 30, []) else am_nop) else (bif Nat.beq pc 15 then (.bipush 60, 60, 0, []) else am_nop)) else (bif Nat.beq pc 12 then (.getfield 161, 0, 0, []) else am_nop)) else (bif Nat.ble 9 pc then (bif Nat.beq pc 9 then (.getfield 38, 0, 0, []) else am_nop) else (bif Nat.beq pc 8 then (.aload_n 0, 0, 0, []) else am_nop))) else (bif Nat.ble 3 pc then (bif Nat.ble 5 pc then (bif Nat.beq pc 5 then (.invokestatic 68, 0, 0, []) else am_nop) else (bif Nat.beq pc 3 then (.bipush 126, 126, 0, []) else am_nop)) else (bif Nat.ble 1 pc then (bif Nat.beq pc 1 then (.bipush 33, 33, 0, []) else am_nop) else (bif Nat.beq pc 0 then (.iload_n 1, 0, 1, []) else am_nop))))
theorem fl_B_38 : am_fok RX5 38 (5, 4) := ⟨RX5, TX5, 10, rfl, by decide, rfl, Or.inl (am_tb 195 (by decide +kernel) rfl)⟩
theorem fl_B_161 : am_fok RX5 161 (3, 2) := ⟨RX3, TX3, 4, rfl, by decide, rfl, Or.inr ⟨"BusBlocks", am_tb 164 (by decide +kernel) rfl⟩⟩
theorem lk_B_166 : am_lnk RX5 166 (d_X_addSign 23) := ⟨⟨by decide, by decide⟩, am_tb 5 (by decide +kernel) rfl, Or.inr ⟨by decide, rfl, am_tb 621 (by decide +kernel) rfl, am_tp 42 (by decide +kernel) rfl, ⟨TX3, 4, rfl⟩, Or.inr ⟨"BusBlocks", am_tb 619 (by decide +kernel) rfl⟩⟩⟩
def m_B_append : MI := (k_B_append, [(38, 5, 4), (161, 3, 2)], [(68, d_B_checkRange 0), (166, d_X_addSign 23)], [], [], [(20, "java/lang/IllegalStateException")], [], 7, 114, some .int, fun _ => 0, 1)
def v_B_append (h : HP) (a1 : Int32) : String ⊕ (Int32 × HP) := (match v_B_checkRange h a1 33 126 with | some E => (.inl E) | none => (if (h.1 18 2) < 60 then (bnd (v_X_addSign h a1) fun y1 => (.inr (y1.1, y1.2))) else (.inl "java/lang/IllegalStateException")))
def g_B_append (_ _ : List Sh) (as : List Value) (h : HP) : GR := match as with
  | [.ref o1, .int a1] => (Nat.beq o1 38, True, rthr (v_B_append h a1), rvIW (v_B_append h a1), rhpI h (v_B_append h a1))
  | _ => bad h
def d_B_append (k : Nat) : CD := (k, yX5_append, cX5_append, 2, some .int, 2, 7, 114, 0, true, false, g_B_append)
theorem chk_B_append : ∀ pc, am_chk cX5_append k_B_append pc = true := am_chkall 39 (by decide +kernel) (fun pc h => by unfold k_B_append; rw [Nat.ble_eq_true_of_le h]; rfl)
theorem pf_B_append : plainFor yX5_append = true := by decide +kernel
theorem cu_B_append : Cond.code yX5_append cX5_append 2 (some .int) ∈ am_U := am_tb 617 (by decide +kernel) rfl
theorem th_B_append_20 : am_thok "BusBlocks" cX5_append m_B_append 20 "java/lang/IllegalStateException" := ex_th (ik := 96) (ic := 100) (is := 164) (text := "the buffer has 60 characters") ex_fS exw_ISE (by decide +kernel) (Nat.le_of_ble_eq_true rfl) (Nat.le_of_ble_eq_true rfl) (by decide +kernel) (by decide +kernel) (Or.inl ⟨by decide +kernel, by decide +kernel, by decide +kernel⟩)
set_option maxRecDepth 100000 in
theorem ev_B_append {e1 e2 : List Sh} {P : AR → HP → Prop} (h : HP) (a1 : Int32) (hP : ∀ q, v_B_append h a1 = q → RIWT P h q) : am_Ev m_B_append (WB ++ e1) (RO ++ e2) P (0, [.ref 38, .int a1], [], h) := by
  refine am_Ev_G [8] 400 _ ?_
  show ((∀ E, v_B_checkRange h a1 33 126 = some E → P (.inr E) h) ∧ (v_B_checkRange h a1 33 126 = none → am_Ev m_B_append (WB ++ e1) (RO ++ e2) P (8, [.ref 38, .int a1], [], h)))
  refine ⟨fun E c1 => ?_, fun c1 => ?_⟩
  · skip
    exact hP (.inl E) (by unfold v_B_append; simp only [c1])
  · skip
    refine am_Ev_G [38] 400 _ ?_
    show (((h.1 18 2) < 60 → am_Ev m_B_append (WB ++ e1) (RO ++ e2) P (38, [.ref 38, .int a1], [.int ((v_X_addSign h a1).1)], ((v_X_addSign h a1).2))) ∧ (¬ (h.1 18 2) < 60 → P (.inr "java/lang/IllegalStateException") h))
    refine ⟨fun c2 => ?_, fun c2 => ?_⟩
    · skip
      obtain ⟨y1, c3⟩ : ∃ y, v_X_addSign h a1 = y := ⟨_, rfl⟩
      rw [c3]
      show am_Ev m_B_append (WB ++ e1) (RO ++ e2) P (38, [.ref 38, .int a1], [.int y1.1], y1.2)
      refine am_Ev_G [] 400 _ ?_
      show P (.inl (some (.int y1.1))) y1.2
      exact hP (.inr (y1.1, y1.2)) (by unfold v_B_append; simp only [c1, if_pos c2, bnd, c3])
    · skip
      exact hP (.inl "java/lang/IllegalStateException") (by unfold v_B_append; simp only [c1, if_neg c2])
theorem ok_B_append {l : Launch} (hl : l.stackTraces = false) (e1 e2 : List Sh) (k : Nat) : am_Ok l (WB ++ e1) (RO ++ e2) (d_B_append k) := by
  refine am_met hl (own := RX5) (M := m_B_append) rfl pf_B_append cu_B_append rfl rfl rfl rfl (fun _ => rfl) rfl ⟨chk_B_append, (am_c (fl_B_38) (am_c (fl_B_161) am_n)), (am_c (lk_B_68) (am_c (lk_B_166) am_n)), (am_n), (am_n)⟩ (am_c (th_B_append_20) am_n) (am_c (ok_B_checkRange hl e1 _ 0) (am_c (ok_X_addSign hl (WBb ++ e1) _ 23) am_n)) ?_ (fun z => nomatch z) ?_
  · intro _ as h hg
    show g_pre (g_B_append (WB ++ e1) (RO ++ e2) as h)
    unfold g_B_append
    split <;> exact trivial
  · intro as h hg hp
    revert hg hp
    show g_ok (g_B_append (WB ++ e1) (RO ++ e2) as h) = true → g_pre (g_B_append (WB ++ e1) (RO ++ e2) as h) → _ ∧ am_Ev m_B_append (WB ++ e1) (RO ++ e2) (am_eq (g_B_append (WB ++ e1) (RO ++ e2) as h)) (0, am_ent as 2, [], h)
    unfold g_B_append
    split
    · rename_i o1 a1
      intro hc hp
      change (Nat.beq o1 38) = true at hc
      obtain rfl := am_beq hc
      exact ⟨Nat.le_of_ble_eq_true rfl, ev_B_append h a1 eqRIWT⟩
    · exact fun z => nomatch z
def k_B_clearBuffer (pc : Nat) : Ent := bif Nat.ble 18 pc then am_nop else bif Nat.ble 9 pc then (bif Nat.ble 13 pc then (bif Nat.ble 16 pc then (bif Nat.ble 17 pc then (bif Nat.beq pc 17 then (.ireturn, 0, 0, []) else am_nop) else (bif Nat.beq pc 16 then (.iload_n 1, 0, 1, []) else am_nop)) else (bif Nat.beq pc 13 then (.putfield 161, 0, 0, []) else am_nop)) else (bif Nat.ble 12 pc then (bif Nat.beq pc 12 then (.iconst 0, 0, 0, []) else am_nop) else (bif Nat.beq pc 9 then (.getfield 38, 0, 0, []) else am_nop))) else (bif Nat.ble 4 pc then (bif Nat.ble 7 pc then (bif Nat.ble 8 pc then (bif Nat.beq pc 8 then (.aload_n 0, 0, 0, []) else am_nop) else (bif Nat.beq pc 7 then (.istore_n 1, 0, 1, []) else am_nop)) else (bif Nat.beq pc 4 then (.getfield 161, 0, 0, []) else am_nop)) else (bif Nat.ble 1 pc then (bif Nat.beq pc 1 then (.getfield 38, 0, 0, []) else am_nop) else (bif Nat.beq pc 0 then (.aload_n 0, 0, 0, []) else am_nop)))
def m_B_clearBuffer : MI := (k_B_clearBuffer, [(38, 5, 4), (161, 3, 2)], [], [], [], [], [], 0, 0, some .int, fun _ => 0, 1)
def v_B_clearBuffer (h : HP) : Int32 × HP := (h.1 18 2, (am_si h 18 2 0))
def g_B_clearBuffer (_ _ : List Sh) (as : List Value) (h : HP) : GR := match as with
  | [.ref o1] => (Nat.beq o1 38, True, none, some (.int (v_B_clearBuffer h).1), (v_B_clearBuffer h).2)
  | _ => bad h
def d_B_clearBuffer (k : Nat) : CD := (k, yX5_clearBuffer, cX5_clearBuffer, 2, some .int, 1, 0, 0, 0, false, false, g_B_clearBuffer)
theorem chk_B_clearBuffer : ∀ pc, am_chk cX5_clearBuffer k_B_clearBuffer pc = true := am_chkall 18 (by decide +kernel) (fun pc h => by unfold k_B_clearBuffer; rw [Nat.ble_eq_true_of_le h]; rfl)
theorem pf_B_clearBuffer : plainFor yX5_clearBuffer = true := by decide +kernel
theorem cu_B_clearBuffer : Cond.code yX5_clearBuffer cX5_clearBuffer 2 (some .int) ∈ am_U := am_tb 815 (by decide +kernel) rfl
set_option maxRecDepth 100000 in
theorem ev_B_clearBuffer {e1 e2 : List Sh} {P : AR → HP → Prop} (h : HP) (hP : ∀ q, v_B_clearBuffer h = q → RIW P h q) : am_Ev m_B_clearBuffer (WB ++ e1) (RO ++ e2) P (0, [.ref 38, .retAddr 0], [], h) := by
  refine am_Ev_G [] 400 _ ?_
  show P (.inl (some (.int (h.1 18 2)))) (am_si h 18 2 0)
  exact hP (h.1 18 2, (am_si h 18 2 0)) rfl
theorem ok_B_clearBuffer {l : Launch} (hl : l.stackTraces = false) (e1 e2 : List Sh) (k : Nat) : am_Ok l (WB ++ e1) (RO ++ e2) (d_B_clearBuffer k) := by
  refine am_met hl (own := RX5) (M := m_B_clearBuffer) rfl pf_B_clearBuffer cu_B_clearBuffer rfl rfl rfl rfl (fun _ => rfl) rfl ⟨chk_B_clearBuffer, (am_c (fl_B_38) (am_c (fl_B_161) am_n)), (am_n), (am_n), (am_n)⟩ (am_n) (am_n) ?_ ?_ ?_
  · intro _ as h hg
    show g_pre (g_B_clearBuffer (WB ++ e1) (RO ++ e2) as h)
    unfold g_B_clearBuffer
    split <;> exact trivial
  · intro _ as h hg
    show g_thr (g_B_clearBuffer (WB ++ e1) (RO ++ e2) as h) = none
    unfold g_B_clearBuffer
    split <;> rfl
  · intro as h hg hp
    revert hg hp
    show g_ok (g_B_clearBuffer (WB ++ e1) (RO ++ e2) as h) = true → g_pre (g_B_clearBuffer (WB ++ e1) (RO ++ e2) as h) → _ ∧ am_Ev m_B_clearBuffer (WB ++ e1) (RO ++ e2) (am_eq (g_B_clearBuffer (WB ++ e1) (RO ++ e2) as h)) (0, am_ent as 2, [], h)
    unfold g_B_clearBuffer
    split
    · rename_i o1
      intro hc hp
      change (Nat.beq o1 38) = true at hc
      obtain rfl := am_beq hc
      exact ⟨Nat.le_of_ble_eq_true rfl, ev_B_clearBuffer h eqRIW⟩
    · exact fun z => nomatch z
def k_B_firstError (pc : Nat) : Ent := bif Nat.ble 8 pc then am_nop else bif Nat.ble 4 pc then (bif Nat.ble 7 pc then (bif Nat.beq pc 7 then (.ireturn, 0, 0, []) else am_nop) else (bif Nat.beq pc 4 then (.invokevirtual 169, 0, 0, []) else am_nop)) else (bif Nat.ble 1 pc then (bif Nat.beq pc 1 then (.getfield 38, 0, 0, []) else am_nop) else (bif Nat.beq pc 0 then (.aload_n 0, 0, 0, []) else am_nop))
theorem lk_B_169 : am_lnk RX5 169 (d_X_readToError 23) := ⟨⟨by decide, by decide⟩, am_tb 5 (by decide +kernel) rfl, Or.inr ⟨by decide, rfl, am_tb 634 (by decide +kernel) rfl, am_tp 44 (by decide +kernel) rfl, ⟨TX3, 4, rfl⟩, Or.inr ⟨"BusBlocks", am_tb 824 (by decide +kernel) rfl⟩⟩⟩
def m_B_firstError : MI := (k_B_firstError, [(38, 5, 4)], [(169, d_X_readToError 23)], [], [], [], [], 5, 116, some .int, fun _ => 0, 1)
def v_B_firstError (h : HP) : Int32 × HP := (bnd (v_X_readToError h) fun y1 => (y1.1, y1.2))
def p_B_firstError (h : HP) : Prop := (p_X_readToError h)
def g_B_firstError (_ _ : List Sh) (as : List Value) (h : HP) : GR := match as with
  | [.ref o1] => (Nat.beq o1 38, p_B_firstError h, none, some (.int (v_B_firstError h).1), (v_B_firstError h).2)
  | _ => bad h
def d_B_firstError (k : Nat) : CD := (k, yX5_firstError, cX5_firstError, 1, some .int, 1, 5, 116, 0, false, true, g_B_firstError)
theorem chk_B_firstError : ∀ pc, am_chk cX5_firstError k_B_firstError pc = true := am_chkall 8 (by decide +kernel) (fun pc h => by unfold k_B_firstError; rw [Nat.ble_eq_true_of_le h]; rfl)
theorem pf_B_firstError : plainFor yX5_firstError = true := by decide +kernel
theorem cu_B_firstError : Cond.code yX5_firstError cX5_firstError 1 (some .int) ∈ am_U := am_tb 823 (by decide +kernel) rfl
set_option maxRecDepth 100000 in
theorem ev_B_firstError {e1 e2 : List Sh} {P : AR → HP → Prop} (h : HP) (hp : p_B_firstError h) (hP : ∀ q, v_B_firstError h = q → RIW P h q) : am_Ev m_B_firstError (WB ++ e1) (RO ++ e2) P (0, [.ref 38], [], h) := by
  unfold p_B_firstError at hp
  refine am_Ev_G [7] 400 _ ?_
  show ((p_X_readToError h) ∧ am_Ev m_B_firstError (WB ++ e1) (RO ++ e2) P (7, [.ref 38], [.int ((v_X_readToError h).1)], ((v_X_readToError h).2)))
  refine ⟨hp, ?_⟩
  obtain ⟨y1, c1⟩ : ∃ y, v_X_readToError h = y := ⟨_, rfl⟩
  rw [c1]
  show am_Ev m_B_firstError (WB ++ e1) (RO ++ e2) P (7, [.ref 38], [.int y1.1], y1.2)
  refine am_Ev_G [] 400 _ ?_
  show P (.inl (some (.int y1.1))) y1.2
  exact hP (y1.1, y1.2) (by unfold v_B_firstError; simp only [bnd, c1])
theorem ok_B_firstError {l : Launch} (hl : l.stackTraces = false) (e1 e2 : List Sh) (k : Nat) : am_Ok l (WB ++ e1) (RO ++ e2) (d_B_firstError k) := by
  refine am_met hl (own := RX5) (M := m_B_firstError) rfl pf_B_firstError cu_B_firstError rfl rfl rfl rfl (fun _ => rfl) rfl ⟨chk_B_firstError, (am_c (fl_B_38) am_n), (am_c (lk_B_169) am_n), (am_n), (am_n)⟩ (am_n) (am_c (ok_X_readToError hl (WBb ++ e1) _ 23) am_n) (fun z => nomatch z) ?_ ?_
  · intro _ as h hg
    show g_thr (g_B_firstError (WB ++ e1) (RO ++ e2) as h) = none
    unfold g_B_firstError
    split <;> rfl
  · intro as h hg hp
    revert hg hp
    show g_ok (g_B_firstError (WB ++ e1) (RO ++ e2) as h) = true → g_pre (g_B_firstError (WB ++ e1) (RO ++ e2) as h) → _ ∧ am_Ev m_B_firstError (WB ++ e1) (RO ++ e2) (am_eq (g_B_firstError (WB ++ e1) (RO ++ e2) as h)) (0, am_ent as 1, [], h)
    unfold g_B_firstError
    split
    · rename_i o1
      intro hc hp
      change (Nat.beq o1 38) = true at hc
      obtain rfl := am_beq hc
      exact ⟨Nat.le_of_ble_eq_true rfl, ev_B_firstError h hp eqRIW⟩
    · exact fun z => nomatch z
def k_B_load (pc : Nat) : Ent := bif Nat.ble 81 pc then am_nop else bif Nat.ble 43 pc then (bif Nat.ble 59 pc then (bif Nat.ble 70 pc then (bif Nat.ble 74 pc then (bif Nat.ble 77 pc then (bif Nat.ble 80 pc then (bif Nat.beq pc 80 then (.ireturn, 0, 0, []) else am_nop) else (bif Nat.beq pc 77 then (.getfield 93, 0, 0, []) else am_nop)) else (bif Nat.beq pc 74 then (.getfield 10, 0, 0, []) else am_nop)) else (bif Nat.ble 73 pc then (bif Nat.beq pc 73 then (.aload_n 0, 0, 0, []) else am_nop) else (bif Nat.beq pc 70 then (.putfield 161, 0, 0, []) else am_nop))) else (bif Nat.ble 65 pc then (bif Nat.ble 66 pc then (bif Nat.ble 69 pc then (bif Nat.beq pc 69 then (.iconst 0, 0, 0, []) else am_nop) else (bif Nat.beq pc 66 then (.getfield 38, 0, 0, []) else am_nop)) else (bif Nat.beq pc 65 then (.aload_n 0, 0, 0, []) else am_nop)) else (bif Nat.ble 62 pc then (bif Nat.beq pc 62 then (.invokevirtual 186, 0, 0, []) else am_nop) else (bif Nat.beq pc 59 then (.getfield 10, 0, 0, []) else am_nop)))) else (bif Nat.ble 50 pc then (bif Nat.ble 54 pc then (bif Nat.ble 55 pc then (bif Nat.ble 58 pc then (bif Nat.beq pc 58 then (.aload_n 0, 0, 0, []) else am_nop) else (bif Nat.beq pc 55 then (.getfield 38, 0, 0, []) else am_nop)) else (bif Nat.beq pc 54 then (.aload_n 0, 0, 0, []) else am_nop)) else (bif Nat.ble 51 pc then (bif Nat.beq pc 51 then (.invokevirtual 72, 0, 0, []) else am_nop) else (bif Nat.beq pc 50 then (.aload_n 0, 0, 0, []) else am_nop))) else (bif Nat.ble 46 pc then (bif Nat.ble 49 pc then (bif Nat.beq pc 49 then (.athrow, 0, 0, []) else am_nop) else (bif Nat.beq pc 46 then (.invokespecial 100, 0, 0, []) else am_nop)) else (bif Nat.ble 44 pc then (bif Nat.beq pc 44 then (.ldc 184, 0, 0, []) else am_nop) else (bif Nat.beq pc 43 then (.dup, 0, 0, []) else am_nop))))) else (bif Nat.ble 20 pc then (bif Nat.ble 31 pc then (bif Nat.ble 35 pc then (bif Nat.ble 37 pc then (bif Nat.ble 40 pc then (bif Nat.beq pc 40 then (.new 96, 0, 0, []) else am_nop) else (bif Nat.beq pc 37 then (.if_icmp .le 13, 0, 50, []) else am_nop)) else (bif Nat.beq pc 35 then (.bipush 20, 20, 0, []) else am_nop)) else (bif Nat.ble 34 pc then (bif Nat.beq pc 34 then (.iadd, 0, 0, []) else am_nop) else (bif Nat.beq pc 31 then (.invokevirtual 181, 0, 0, []) else am_nop))) else (bif Nat.ble 24 pc then (bif Nat.ble 27 pc then (bif Nat.ble 28 pc then (bif Nat.beq pc 28 then (.getfield 38, 0, 0, []) else am_nop) else (bif Nat.beq pc 27 then (.aload_n 0, 0, 0, []) else am_nop)) else (bif Nat.beq pc 24 then (.getfield 93, 0, 0, []) else am_nop)) else (bif Nat.ble 21 pc then (bif Nat.beq pc 21 then (.getfield 10, 0, 0, []) else am_nop) else (bif Nat.beq pc 20 then (.aload_n 0, 0, 0, []) else am_nop)))) else (bif Nat.ble 10 pc then (bif Nat.ble 14 pc then (bif Nat.ble 16 pc then (bif Nat.ble 19 pc then (bif Nat.beq pc 19 then (.athrow, 0, 0, []) else am_nop) else (bif Nat.beq pc 16 then (.invokespecial 180, 0, 0, []) else am_nop)) else (bif Nat.beq pc 14 then (.ldc 178, 0, 0, []) else am_nop)) else (bif Nat.ble 13 pc then (bif Nat.beq pc 13 then (.dup, 0, 0, []) else am_nop) else (bif Nat.beq pc 10 then (.new 176, 0, 0, []) else am_nop))) else (bif Nat.ble 4 pc then (bif Nat.ble 7 pc then (bif Nat.beq pc 7 then (.ifCond .ne 13, 0, 20, []) else am_nop) else (bif Nat.beq pc 4 then (.invokevirtual 172, 0, 0, []) else am_nop)) else (bif Nat.ble 1 pc then (bif Nat.beq pc 1 then (.getfield 38, 0, 0, []) else am_nop) else (bif Nat.beq pc 0 then (.aload_n 0, 0, 0, []) else am_nop)))))
theorem lk_B_172 : am_lnk RX5 172 (d_X_isWhole 23) := ⟨⟨by decide, by decide⟩, am_tb 5 (by decide +kernel) rfl, Or.inr ⟨by decide, rfl, am_tb 630 (by decide +kernel) rfl, am_tp 43 (by decide +kernel) rfl, ⟨TX3, 4, rfl⟩, Or.inr ⟨"BusBlocks", am_tb 628 (by decide +kernel) rfl⟩⟩⟩
theorem lk_B_181 : am_lnk RX5 181 (d_X_journeys 23) := ⟨⟨by decide, by decide⟩, am_tb 5 (by decide +kernel) rfl, Or.inr ⟨by decide, rfl, am_tb 661 (by decide +kernel) rfl, am_tp 50 (by decide +kernel) rfl, ⟨TX3, 4, rfl⟩, Or.inr ⟨"BusBlocks", am_tb 659 (by decide +kernel) rfl⟩⟩⟩
theorem lk_B_186 : am_lnk RX5 186 (d_X_addTo 23) := ⟨⟨by decide, by decide⟩, am_tb 5 (by decide +kernel) rfl, Or.inr ⟨by decide, rfl, am_tb 666 (by decide +kernel) rfl, am_tp 51 (by decide +kernel) rfl, ⟨TX3, 4, rfl⟩, Or.inr ⟨"BusBlocks", am_tb 664 (by decide +kernel) rfl⟩⟩⟩
def m_B_load : MI := (k_B_load, [(10, 5, 0), (38, 5, 4), (93, 4, 11), (161, 3, 2)], [(72, d_B_save 15), (172, d_X_isWhole 23), (181, d_X_journeys 23), (186, d_X_addTo 23)], [], [], [(10, "java/lang/IllegalArgumentException"), (40, "java/lang/IllegalStateException")], [], 6, 138, some .int, fun _ => 0, 1)
def v_B_load (h : HP) : (String × HP) ⊕ (Int32 × HP) := (bnd (v_X_isWhole h) fun y1 => (if y1.1 = 0 then (.inl ("java/lang/IllegalArgumentException", y1.2)) else (if ((y1.2.1 0 11) + (v_X_journeys y1.2)) ≤ 20 then (bnd (v_B_save y1.2) fun y2 => (bnd (v_X_addTo_0 y2) fun y3 => (.inr (y3.1 0 11, (am_si y3 18 2 0))))) else (.inl ("java/lang/IllegalStateException", y1.2)))))
def p_B_load (h : HP) : Prop := ((p_X_isWhole h) ∧ (∀ y1, v_X_isWhole h = y1 → ((y1.1 = 0 → True) ∧ (¬ y1.1 = 0 → ((p_X_journeys y1.2) ∧ ((((y1.2.1 0 11) + (v_X_journeys y1.2)) ≤ 20 → ((p_B_save y1.2) ∧ (∀ y2, v_B_save y1.2 = y2 → (p_X_addTo_0 y2)))) ∧ (¬ ((y1.2.1 0 11) + (v_X_journeys y1.2)) ≤ 20 → True)))))))
def g_B_load (_ _ : List Sh) (as : List Value) (h : HP) : GR := match as with
  | [.ref o1] => (Nat.beq o1 38, p_B_load h, rthrU (v_B_load h), rvIU (v_B_load h), rhpU (v_B_load h))
  | _ => bad h
def d_B_load (k : Nat) : CD := (k, yX5_load, cX5_load, 1, some .int, 1, 6, 138, 0, true, true, g_B_load)
theorem chk_B_load : ∀ pc, am_chk cX5_load k_B_load pc = true := am_chkall 81 (by decide +kernel) (fun pc h => by unfold k_B_load; rw [Nat.ble_eq_true_of_le h]; rfl)
theorem pf_B_load : plainFor yX5_load = true := by decide +kernel
theorem cu_B_load : Cond.code yX5_load cX5_load 1 (some .int) ∈ am_U := am_tb 627 (by decide +kernel) rfl
theorem th_B_load_10 : am_thok "BusBlocks" cX5_load m_B_load 10 "java/lang/IllegalArgumentException" := ex_th (ik := 176) (ic := 180) (is := 178) (text := "the buffer does not tell a timetable") ex_fA exw_IAE (by decide +kernel) (Nat.le_of_ble_eq_true rfl) (Nat.le_of_ble_eq_true rfl) (by decide +kernel) (by decide +kernel) (Or.inl ⟨by decide +kernel, by decide +kernel, by decide +kernel⟩)
theorem th_B_load_40 : am_thok "BusBlocks" cX5_load m_B_load 40 "java/lang/IllegalStateException" := ex_th (ik := 96) (ic := 100) (is := 184) (text := "there would be more than 20 trips") ex_fS exw_ISE (by decide +kernel) (Nat.le_of_ble_eq_true rfl) (Nat.le_of_ble_eq_true rfl) (by decide +kernel) (by decide +kernel) (Or.inl ⟨by decide +kernel, by decide +kernel, by decide +kernel⟩)
set_option maxRecDepth 100000 in
theorem ev_B_load {e1 e2 : List Sh} {P : AR → HP → Prop} (h : HP) (hp : p_B_load h) (hP : ∀ q, v_B_load h = q → RIWU P h q) : am_Ev m_B_load (WB ++ e1) (RO ++ e2) P (0, [.ref 38], [], h) := by
  unfold p_B_load at hp
  refine am_Ev_G [7] 400 _ ?_
  show ((p_X_isWhole h) ∧ am_Ev m_B_load (WB ++ e1) (RO ++ e2) P (7, [.ref 38], [.int ((v_X_isWhole h).1)], ((v_X_isWhole h).2)))
  obtain ⟨hob, hp⟩ := hp
  refine ⟨hob, ?_⟩
  obtain ⟨y1, c1⟩ : ∃ y, v_X_isWhole h = y := ⟨_, rfl⟩
  rw [c1]
  have hp := hp _ c1
  show am_Ev m_B_load (WB ++ e1) (RO ++ e2) P (7, [.ref 38], [.int y1.1], y1.2)
  refine am_Ev_G [34] 400 _ ?_
  show ((¬ y1.1 = 0 → ((p_X_journeys y1.2) ∧ am_Ev m_B_load (WB ++ e1) (RO ++ e2) P (34, [.ref 38], [.int (v_X_journeys y1.2), .int (y1.2.1 0 11)], y1.2))) ∧ (y1.1 = 0 → P (.inr "java/lang/IllegalArgumentException") y1.2))
  refine ⟨fun c2 => ?_, fun c2 => ?_⟩
  · have hp := hp.2 c2
    obtain ⟨hob, hp⟩ := hp
    refine ⟨hob, ?_⟩
    refine am_Ev_G [54] 400 _ ?_
    show ((((y1.2.1 0 11) + (v_X_journeys y1.2)) ≤ 20 → ((p_B_save y1.2) ∧ am_Ev m_B_load (WB ++ e1) (RO ++ e2) P (54, [.ref 38], [], (v_B_save y1.2)))) ∧ (¬ ((y1.2.1 0 11) + (v_X_journeys y1.2)) ≤ 20 → P (.inr "java/lang/IllegalStateException") y1.2))
    refine ⟨fun c3 => ?_, fun c3 => ?_⟩
    · have hp := hp.1 c3
      obtain ⟨hob, hp⟩ := hp
      refine ⟨hob, ?_⟩
      obtain ⟨y2, c4⟩ : ∃ y, v_B_save y1.2 = y := ⟨_, rfl⟩
      rw [c4]
      have hp := hp _ c4
      show am_Ev m_B_load (WB ++ e1) (RO ++ e2) P (54, [.ref 38], [], y2)
      refine am_Ev_G [65] 400 _ ?_
      show ((p_X_addTo_0 y2) ∧ am_Ev m_B_load (WB ++ e1) (RO ++ e2) P (65, [.ref 38], [], (v_X_addTo_0 y2)))
      refine ⟨hp, ?_⟩
      obtain ⟨y3, c5⟩ : ∃ y, v_X_addTo_0 y2 = y := ⟨_, rfl⟩
      rw [c5]
      show am_Ev m_B_load (WB ++ e1) (RO ++ e2) P (65, [.ref 38], [], y3)
      refine am_Ev_G [] 400 _ ?_
      show P (.inl (some (.int (y3.1 0 11)))) (am_si y3 18 2 0)
      exact hP (.inr (y3.1 0 11, (am_si y3 18 2 0))) (by unfold v_B_load; simp only [bnd, c1, if_neg c2, if_pos c3, bnd, c4, bnd, c5])
    · skip
      exact hP (.inl ("java/lang/IllegalStateException", y1.2)) (by unfold v_B_load; simp only [bnd, c1, if_neg c2, if_neg c3])
  · skip
    exact hP (.inl ("java/lang/IllegalArgumentException", y1.2)) (by unfold v_B_load; simp only [bnd, c1, if_pos c2])
theorem ok_B_load {l : Launch} (hl : l.stackTraces = false) (e1 e2 : List Sh) (k : Nat) : am_Ok l (WB ++ e1) (RO ++ e2) (d_B_load k) := by
  refine am_met hl (own := RX5) (M := m_B_load) rfl pf_B_load cu_B_load rfl rfl rfl rfl (fun _ => rfl) rfl ⟨chk_B_load, (am_c (fl_B_10) (am_c (fl_B_38) (am_c (fl_B_93) (am_c (fl_B_161) am_n)))), (am_c (lk_B_72) (am_c (lk_B_172) (am_c (lk_B_181) (am_c (lk_B_186) am_n)))), (am_n), (am_n)⟩ (am_c (th_B_load_10) (am_c (th_B_load_40) am_n)) (am_c (ok_B_save hl e1 _ 15) (am_c (ok_X_isWhole hl (WBb ++ e1) _ 23) (am_c (ok_X_journeys hl (WBb ++ e1) _ 23) (am_c (ok_X_addTo hl (WBb ++ e1) _ 23) am_n)))) (fun z => nomatch z) (fun z => nomatch z) ?_
  · intro as h hg hp
    revert hg hp
    show g_ok (g_B_load (WB ++ e1) (RO ++ e2) as h) = true → g_pre (g_B_load (WB ++ e1) (RO ++ e2) as h) → _ ∧ am_Ev m_B_load (WB ++ e1) (RO ++ e2) (am_eq (g_B_load (WB ++ e1) (RO ++ e2) as h)) (0, am_ent as 1, [], h)
    unfold g_B_load
    split
    · rename_i o1
      intro hc hp
      change (Nat.beq o1 38) = true at hc
      obtain rfl := am_beq hc
      exact ⟨Nat.le_of_ble_eq_true rfl, ev_B_load h hp eqRIWU⟩
    · exact fun z => nomatch z
def k_B_keep (pc : Nat) : Ent := bif Nat.ble 35 pc then am_nop else bif Nat.ble 15 pc then (bif Nat.ble 24 pc then (bif Nat.ble 28 pc then (bif Nat.ble 31 pc then (bif Nat.ble 34 pc then (bif Nat.beq pc 34 then (.ireturn, 0, 0, []) else am_nop) else (bif Nat.beq pc 31 then (.getfield 93, 0, 0, []) else am_nop)) else (bif Nat.beq pc 28 then (.getfield 10, 0, 0, []) else am_nop)) else (bif Nat.ble 27 pc then (bif Nat.beq pc 27 then (.aload_n 0, 0, 0, []) else am_nop) else (bif Nat.beq pc 24 then (.invokestatic 82, 0, 0, []) else am_nop))) else (bif Nat.ble 19 pc then (bif Nat.ble 22 pc then (bif Nat.ble 23 pc then (bif Nat.beq pc 23 then (.iconst 1, 1, 0, []) else am_nop) else (bif Nat.beq pc 22 then (.iload_n 1, 0, 1, []) else am_nop)) else (bif Nat.beq pc 19 then (.getfield 54, 0, 0, []) else am_nop)) else (bif Nat.ble 18 pc then (bif Nat.beq pc 18 then (.aload_n 0, 0, 0, []) else am_nop) else (bif Nat.beq pc 15 then (.invokevirtual 189, 0, 0, []) else am_nop)))) else (bif Nat.ble 6 pc then (bif Nat.ble 10 pc then (bif Nat.ble 11 pc then (bif Nat.ble 12 pc then (bif Nat.beq pc 12 then (.getfield 10, 0, 0, []) else am_nop) else (bif Nat.beq pc 11 then (.aload_n 0, 0, 0, []) else am_nop)) else (bif Nat.beq pc 10 then (.iload_n 1, 0, 1, []) else am_nop)) else (bif Nat.ble 7 pc then (bif Nat.beq pc 7 then (.getfield 51, 0, 0, []) else am_nop) else (bif Nat.beq pc 6 then (.aload_n 0, 0, 0, []) else am_nop))) else (bif Nat.ble 2 pc then (bif Nat.ble 3 pc then (bif Nat.beq pc 3 then (.invokestatic 68, 0, 0, []) else am_nop) else (bif Nat.beq pc 2 then (.iconst 1, 1, 0, []) else am_nop)) else (bif Nat.ble 1 pc then (bif Nat.beq pc 1 then (.iconst 0, 0, 0, []) else am_nop) else (bif Nat.beq pc 0 then (.iload_n 1, 0, 1, []) else am_nop))))
theorem fl_B_51 : am_fok RX5 51 (5, 6) := ⟨RX5, TX5, 10, rfl, by decide, rfl, Or.inl (am_tb 197 (by decide +kernel) rfl)⟩
theorem fl_B_54 : am_fok RX5 54 (5, 7) := ⟨RX5, TX5, 10, rfl, by decide, rfl, Or.inl (am_tb 198 (by decide +kernel) rfl)⟩
def m_B_keep : MI := (k_B_keep, [(10, 5, 0), (51, 5, 6), (54, 5, 7), (93, 4, 11)], [(68, d_B_checkRange 0), (82, d_B_put 0), (189, d_S_store 22)], [], [], [], [], 7, 114, some .int, fun _ => 0, 1)
def v_B_keep (h : HP) (a1 : Int32) : String ⊕ (Int32 × HP) := (match v_B_checkRange h a1 0 1 with | some E => (.inl E) | none => (bnd (v_S_store_0_35 h a1) fun y1 => (.inr ((v_put 2 y1 37 a1 1).1 0 11, (v_put 2 y1 37 a1 1)))))
def p_B_keep (h : HP) (a1 : Int32) : Prop := (v_B_checkRange h a1 0 1 = none → (p_S_store_0_35 h a1))
def g_B_keep (_ _ : List Sh) (as : List Value) (h : HP) : GR := match as with
  | [.ref o1, .int a1] => (Nat.beq o1 38, p_B_keep h a1, rthr (v_B_keep h a1), rvIW (v_B_keep h a1), rhpI h (v_B_keep h a1))
  | _ => bad h
def d_B_keep (k : Nat) : CD := (k, yX5_keep, cX5_keep, 2, some .int, 2, 7, 114, 0, true, true, g_B_keep)
theorem chk_B_keep : ∀ pc, am_chk cX5_keep k_B_keep pc = true := am_chkall 35 (by decide +kernel) (fun pc h => by unfold k_B_keep; rw [Nat.ble_eq_true_of_le h]; rfl)
theorem pf_B_keep : plainFor yX5_keep = true := by decide +kernel
theorem cu_B_keep : Cond.code yX5_keep cX5_keep 2 (some .int) ∈ am_U := am_tb 402 (by decide +kernel) rfl
set_option maxRecDepth 100000 in
theorem ev_B_keep {e1 e2 : List Sh} {P : AR → HP → Prop} (h : HP) (a1 : Int32) (hp : p_B_keep h a1) (hP : ∀ q, v_B_keep h a1 = q → RIWT P h q) : am_Ev m_B_keep (WB ++ e1) (RO ++ e2) P (0, [.ref 38, .int a1], [], h) := by
  unfold p_B_keep at hp
  refine am_Ev_G [6] 400 _ ?_
  show ((∀ E, v_B_checkRange h a1 0 1 = some E → P (.inr E) h) ∧ (v_B_checkRange h a1 0 1 = none → am_Ev m_B_keep (WB ++ e1) (RO ++ e2) P (6, [.ref 38, .int a1], [], h)))
  refine ⟨fun E c1 => ?_, fun c1 => ?_⟩
  · skip
    exact hP (.inl E) (by unfold v_B_keep; simp only [c1])
  · have hp := hp c1
    refine am_Ev_G [18] 400 _ ?_
    show ((p_S_store_0_35 h a1) ∧ am_Ev m_B_keep (WB ++ e1) (RO ++ e2) P (18, [.ref 38, .int a1], [], (v_S_store_0_35 h a1)))
    refine ⟨hp, ?_⟩
    obtain ⟨y1, c2⟩ : ∃ y, v_S_store_0_35 h a1 = y := ⟨_, rfl⟩
    rw [c2]
    show am_Ev m_B_keep (WB ++ e1) (RO ++ e2) P (18, [.ref 38, .int a1], [], y1)
    refine am_Ev_G [] 400 _ ?_
    show P (.inl (some (.int ((v_put 2 y1 37 a1 1).1 0 11)))) (v_put 2 y1 37 a1 1)
    exact hP (.inr ((v_put 2 y1 37 a1 1).1 0 11, (v_put 2 y1 37 a1 1))) (by unfold v_B_keep; simp only [c1, bnd, c2])
theorem ok_B_keep {l : Launch} (hl : l.stackTraces = false) (e1 e2 : List Sh) (k : Nat) : am_Ok l (WB ++ e1) (RO ++ e2) (d_B_keep k) := by
  refine am_met hl (own := RX5) (M := m_B_keep) rfl pf_B_keep cu_B_keep rfl rfl rfl rfl (fun _ => rfl) rfl ⟨chk_B_keep, (am_c (fl_B_10) (am_c (fl_B_51) (am_c (fl_B_54) (am_c (fl_B_93) am_n)))), (am_c (lk_B_68) (am_c (lk_B_82) (am_c (lk_B_189) am_n))), (am_n), (am_n)⟩ (am_n) (am_c (ok_B_checkRange hl e1 _ 0) (am_c (ok_B_put hl _ _ 0) (am_c (ok_S_store hl e1 _ 22) am_n))) (fun z => nomatch z) (fun z => nomatch z) ?_
  · intro as h hg hp
    revert hg hp
    show g_ok (g_B_keep (WB ++ e1) (RO ++ e2) as h) = true → g_pre (g_B_keep (WB ++ e1) (RO ++ e2) as h) → _ ∧ am_Ev m_B_keep (WB ++ e1) (RO ++ e2) (am_eq (g_B_keep (WB ++ e1) (RO ++ e2) as h)) (0, am_ent as 2, [], h)
    unfold g_B_keep
    split
    · rename_i o1 a1
      intro hc hp
      change (Nat.beq o1 38) = true at hc
      obtain rfl := am_beq hc
      exact ⟨Nat.le_of_ble_eq_true rfl, ev_B_keep h a1 hp eqRIWT⟩
    · exact fun z => nomatch z
def k_B_goBack (pc : Nat) : Ent := bif Nat.ble 52 pc then am_nop else bif Nat.ble 24 pc then (bif Nat.ble 37 pc then (bif Nat.ble 44 pc then (bif Nat.ble 48 pc then (bif Nat.ble 51 pc then (bif Nat.beq pc 51 then (.ireturn, 0, 0, []) else am_nop) else (bif Nat.beq pc 48 then (.getfield 93, 0, 0, []) else am_nop)) else (bif Nat.ble 45 pc then (bif Nat.beq pc 45 then (.getfield 10, 0, 0, []) else am_nop) else (bif Nat.beq pc 44 then (.aload_n 0, 0, 0, []) else am_nop))) else (bif Nat.ble 38 pc then (bif Nat.ble 41 pc then (bif Nat.beq pc 41 then (.invokevirtual 195, 0, 0, []) else am_nop) else (bif Nat.beq pc 38 then (.getfield 10, 0, 0, []) else am_nop)) else (bif Nat.beq pc 37 then (.aload_n 0, 0, 0, []) else am_nop))) else (bif Nat.ble 29 pc then (bif Nat.ble 33 pc then (bif Nat.ble 36 pc then (bif Nat.beq pc 36 then (.iload_n 1, 0, 1, []) else am_nop) else (bif Nat.beq pc 33 then (.getfield 51, 0, 0, []) else am_nop)) else (bif Nat.ble 32 pc then (bif Nat.beq pc 32 then (.aload_n 0, 0, 0, []) else am_nop) else (bif Nat.beq pc 29 then (.invokevirtual 72, 0, 0, []) else am_nop))) else (bif Nat.ble 27 pc then (bif Nat.ble 28 pc then (bif Nat.beq pc 28 then (.aload_n 0, 0, 0, []) else am_nop) else (bif Nat.beq pc 27 then (.athrow, 0, 0, []) else am_nop)) else (bif Nat.beq pc 24 then (.invokespecial 100, 0, 0, []) else am_nop)))) else (bif Nat.ble 10 pc then (bif Nat.ble 15 pc then (bif Nat.ble 21 pc then (bif Nat.ble 22 pc then (bif Nat.beq pc 22 then (.ldc 193, 0, 0, []) else am_nop) else (bif Nat.beq pc 21 then (.dup, 0, 0, []) else am_nop)) else (bif Nat.ble 18 pc then (bif Nat.beq pc 18 then (.new 96, 0, 0, []) else am_nop) else (bif Nat.beq pc 15 then (.if_icmp .eq 13, 0, 28, []) else am_nop))) else (bif Nat.ble 11 pc then (bif Nat.ble 14 pc then (bif Nat.beq pc 14 then (.iconst 1, 1, 0, []) else am_nop) else (bif Nat.beq pc 11 then (.invokestatic 78, 0, 0, []) else am_nop)) else (bif Nat.beq pc 10 then (.iload_n 1, 0, 1, []) else am_nop))) else (bif Nat.ble 3 pc then (bif Nat.ble 6 pc then (bif Nat.ble 7 pc then (bif Nat.beq pc 7 then (.getfield 54, 0, 0, []) else am_nop) else (bif Nat.beq pc 6 then (.aload_n 0, 0, 0, []) else am_nop)) else (bif Nat.beq pc 3 then (.invokestatic 68, 0, 0, []) else am_nop)) else (bif Nat.ble 1 pc then (bif Nat.ble 2 pc then (bif Nat.beq pc 2 then (.iconst 1, 1, 0, []) else am_nop) else (bif Nat.beq pc 1 then (.iconst 0, 0, 0, []) else am_nop)) else (bif Nat.beq pc 0 then (.iload_n 1, 0, 1, []) else am_nop))))
theorem lk_B_195 : am_lnk RX5 195 (d_S_fetch 22) := ⟨⟨by decide, by decide⟩, am_tb 6 (by decide +kernel) rfl, Or.inr ⟨by decide, rfl, am_tb 412 (by decide +kernel) rfl, am_tp 17 (by decide +kernel) rfl, ⟨TX2, 1, rfl⟩, Or.inr ⟨"BusBlocks", am_tb 410 (by decide +kernel) rfl⟩⟩⟩
def m_B_goBack : MI := (k_B_goBack, [(10, 5, 0), (51, 5, 6), (54, 5, 7), (93, 4, 11)], [(68, d_B_checkRange 0), (72, d_B_save 15), (78, d_B_at 0), (195, d_S_fetch 22)], [], [], [(18, "java/lang/IllegalStateException")], [], 7, 133, some .int, fun _ => 0, 1)
def v_B_goBack (h : HP) (a1 : Int32) : String ⊕ (Int32 × HP) := (match v_B_checkRange h a1 0 1 with | some E => (.inl E) | none => (if (v_at 2 (h.1 37) a1) = 1 then (bnd (v_B_save h) fun y1 => (bnd (v_S_fetch_0_35 y1 a1) fun y2 => (.inr (y2.1 0 11, y2)))) else (.inl "java/lang/IllegalStateException")))
def p_B_goBack (h : HP) (a1 : Int32) : Prop := (v_B_checkRange h a1 0 1 = none → (((v_at 2 (h.1 37) a1) = 1 → ((p_B_save h) ∧ (∀ y1, v_B_save h = y1 → (p_S_fetch_0_35 y1 a1)))) ∧ (¬ (v_at 2 (h.1 37) a1) = 1 → True)))
def g_B_goBack (_ _ : List Sh) (as : List Value) (h : HP) : GR := match as with
  | [.ref o1, .int a1] => (Nat.beq o1 38, p_B_goBack h a1, rthr (v_B_goBack h a1), rvIW (v_B_goBack h a1), rhpI h (v_B_goBack h a1))
  | _ => bad h
def d_B_goBack (k : Nat) : CD := (k, yX5_goBack, cX5_goBack, 2, some .int, 2, 7, 133, 0, true, true, g_B_goBack)
theorem chk_B_goBack : ∀ pc, am_chk cX5_goBack k_B_goBack pc = true := am_chkall 52 (by decide +kernel) (fun pc h => by unfold k_B_goBack; rw [Nat.ble_eq_true_of_le h]; rfl)
theorem pf_B_goBack : plainFor yX5_goBack = true := by decide +kernel
theorem cu_B_goBack : Cond.code yX5_goBack cX5_goBack 2 (some .int) ∈ am_U := am_tb 407 (by decide +kernel) rfl
theorem th_B_goBack_18 : am_thok "BusBlocks" cX5_goBack m_B_goBack 18 "java/lang/IllegalStateException" := ex_th (ik := 96) (ic := 100) (is := 193) (text := "no snapshot is in the slot") ex_fS exw_ISE (by decide +kernel) (Nat.le_of_ble_eq_true rfl) (Nat.le_of_ble_eq_true rfl) (by decide +kernel) (by decide +kernel) (Or.inl ⟨by decide +kernel, by decide +kernel, by decide +kernel⟩)
set_option maxRecDepth 100000 in
theorem ev_B_goBack {e1 e2 : List Sh} {P : AR → HP → Prop} (h : HP) (a1 : Int32) (hp : p_B_goBack h a1) (hP : ∀ q, v_B_goBack h a1 = q → RIWT P h q) : am_Ev m_B_goBack (WB ++ e1) (RO ++ e2) P (0, [.ref 38, .int a1], [], h) := by
  unfold p_B_goBack at hp
  refine am_Ev_G [6] 400 _ ?_
  show ((∀ E, v_B_checkRange h a1 0 1 = some E → P (.inr E) h) ∧ (v_B_checkRange h a1 0 1 = none → am_Ev m_B_goBack (WB ++ e1) (RO ++ e2) P (6, [.ref 38, .int a1], [], h)))
  refine ⟨fun E c1 => ?_, fun c1 => ?_⟩
  · skip
    exact hP (.inl E) (by unfold v_B_goBack; simp only [c1])
  · have hp := hp c1
    refine am_Ev_G [14] 400 _ ?_
    show am_Ev m_B_goBack (WB ++ e1) (RO ++ e2) P (14, [.ref 38, .int a1], [.int (v_at 2 (h.1 37) a1)], h)
    refine am_Ev_G [32] 400 _ ?_
    show (((v_at 2 (h.1 37) a1) = 1 → ((p_B_save h) ∧ am_Ev m_B_goBack (WB ++ e1) (RO ++ e2) P (32, [.ref 38, .int a1], [], (v_B_save h)))) ∧ (¬ (v_at 2 (h.1 37) a1) = 1 → P (.inr "java/lang/IllegalStateException") h))
    refine ⟨fun c2 => ?_, fun c2 => ?_⟩
    · have hp := hp.1 c2
      obtain ⟨hob, hp⟩ := hp
      refine ⟨hob, ?_⟩
      obtain ⟨y1, c3⟩ : ∃ y, v_B_save h = y := ⟨_, rfl⟩
      rw [c3]
      have hp := hp _ c3
      show am_Ev m_B_goBack (WB ++ e1) (RO ++ e2) P (32, [.ref 38, .int a1], [], y1)
      refine am_Ev_G [44] 400 _ ?_
      show ((p_S_fetch_0_35 y1 a1) ∧ am_Ev m_B_goBack (WB ++ e1) (RO ++ e2) P (44, [.ref 38, .int a1], [], (v_S_fetch_0_35 y1 a1)))
      refine ⟨hp, ?_⟩
      obtain ⟨y2, c4⟩ : ∃ y, v_S_fetch_0_35 y1 a1 = y := ⟨_, rfl⟩
      rw [c4]
      show am_Ev m_B_goBack (WB ++ e1) (RO ++ e2) P (44, [.ref 38, .int a1], [], y2)
      refine am_Ev_G [] 400 _ ?_
      show P (.inl (some (.int (y2.1 0 11)))) y2
      exact hP (.inr (y2.1 0 11, y2)) (by unfold v_B_goBack; simp only [c1, if_pos c2, bnd, c3, bnd, c4])
    · skip
      exact hP (.inl "java/lang/IllegalStateException") (by unfold v_B_goBack; simp only [c1, if_neg c2])
theorem ok_B_goBack {l : Launch} (hl : l.stackTraces = false) (e1 e2 : List Sh) (k : Nat) : am_Ok l (WB ++ e1) (RO ++ e2) (d_B_goBack k) := by
  refine am_met hl (own := RX5) (M := m_B_goBack) rfl pf_B_goBack cu_B_goBack rfl rfl rfl rfl (fun _ => rfl) rfl ⟨chk_B_goBack, (am_c (fl_B_10) (am_c (fl_B_51) (am_c (fl_B_54) (am_c (fl_B_93) am_n)))), (am_c (lk_B_68) (am_c (lk_B_72) (am_c (lk_B_78) (am_c (lk_B_195) am_n)))), (am_n), (am_n)⟩ (am_c (th_B_goBack_18) am_n) (am_c (ok_B_checkRange hl e1 _ 0) (am_c (ok_B_save hl e1 _ 15) (am_c (ok_B_at hl _ _ 0) (am_c (ok_S_fetch hl e1 _ 22) am_n)))) (fun z => nomatch z) (fun z => nomatch z) ?_
  · intro as h hg hp
    revert hg hp
    show g_ok (g_B_goBack (WB ++ e1) (RO ++ e2) as h) = true → g_pre (g_B_goBack (WB ++ e1) (RO ++ e2) as h) → _ ∧ am_Ev m_B_goBack (WB ++ e1) (RO ++ e2) (am_eq (g_B_goBack (WB ++ e1) (RO ++ e2) as h)) (0, am_ent as 2, [], h)
    unfold g_B_goBack
    split
    · rename_i o1 a1
      intro hc hp
      change (Nat.beq o1 38) = true at hc
      obtain rfl := am_beq hc
      exact ⟨Nat.le_of_ble_eq_true rfl, ev_B_goBack h a1 hp eqRIWT⟩
    · exact fun z => nomatch z
def k_B_undo (pc : Nat) : Ent := bif Nat.ble 55 pc then am_nop else bif Nat.ble 27 pc then (bif Nat.ble 40 pc then (bif Nat.ble 47 pc then (bif Nat.ble 51 pc then (bif Nat.ble 54 pc then (bif Nat.beq pc 54 then (.ireturn, 0, 0, []) else am_nop) else (bif Nat.beq pc 51 then (.getfield 62, 0, 0, []) else am_nop)) else (bif Nat.ble 50 pc then (bif Nat.beq pc 50 then (.aload_n 0, 0, 0, []) else am_nop) else (bif Nat.beq pc 47 then (.invokevirtual 195, 0, 0, []) else am_nop))) else (bif Nat.ble 43 pc then (bif Nat.ble 44 pc then (bif Nat.beq pc 44 then (.getfield 10, 0, 0, []) else am_nop) else (bif Nat.beq pc 43 then (.aload_n 0, 0, 0, []) else am_nop)) else (bif Nat.ble 42 pc then (bif Nat.beq pc 42 then (.irem, 0, 0, []) else am_nop) else (bif Nat.beq pc 40 then (.bipush 6, 6, 0, []) else am_nop)))) else (bif Nat.ble 32 pc then (bif Nat.ble 36 pc then (bif Nat.ble 39 pc then (bif Nat.beq pc 39 then (.iadd, 0, 0, []) else am_nop) else (bif Nat.beq pc 36 then (.getfield 62, 0, 0, []) else am_nop)) else (bif Nat.ble 35 pc then (bif Nat.beq pc 35 then (.aload_n 0, 0, 0, []) else am_nop) else (bif Nat.beq pc 32 then (.getfield 58, 0, 0, []) else am_nop))) else (bif Nat.ble 28 pc then (bif Nat.ble 31 pc then (bif Nat.beq pc 31 then (.aload_n 0, 0, 0, []) else am_nop) else (bif Nat.beq pc 28 then (.getfield 47, 0, 0, []) else am_nop)) else (bif Nat.beq pc 27 then (.aload_n 0, 0, 0, []) else am_nop)))) else (bif Nat.ble 16 pc then (bif Nat.ble 19 pc then (bif Nat.ble 23 pc then (bif Nat.ble 24 pc then (bif Nat.beq pc 24 then (.putfield 62, 0, 0, []) else am_nop) else (bif Nat.beq pc 23 then (.isub, 0, 0, []) else am_nop)) else (bif Nat.ble 22 pc then (bif Nat.beq pc 22 then (.iconst 1, 1, 0, []) else am_nop) else (bif Nat.beq pc 19 then (.getfield 62, 0, 0, []) else am_nop))) else (bif Nat.ble 17 pc then (bif Nat.ble 18 pc then (bif Nat.beq pc 18 then (.dup, 0, 0, []) else am_nop) else (bif Nat.beq pc 17 then (.aload_n 0, 0, 0, []) else am_nop)) else (bif Nat.beq pc 16 then (.athrow, 0, 0, []) else am_nop))) else (bif Nat.ble 7 pc then (bif Nat.ble 11 pc then (bif Nat.ble 13 pc then (bif Nat.beq pc 13 then (.invokespecial 100, 0, 0, []) else am_nop) else (bif Nat.beq pc 11 then (.ldc 198, 0, 0, []) else am_nop)) else (bif Nat.ble 10 pc then (bif Nat.beq pc 10 then (.dup, 0, 0, []) else am_nop) else (bif Nat.beq pc 7 then (.new 96, 0, 0, []) else am_nop))) else (bif Nat.ble 1 pc then (bif Nat.ble 4 pc then (bif Nat.beq pc 4 then (.ifCond .gt 13, 0, 17, []) else am_nop) else (bif Nat.beq pc 1 then (.getfield 62, 0, 0, []) else am_nop)) else (bif Nat.beq pc 0 then (.aload_n 0, 0, 0, []) else am_nop))))
def m_B_undo : MI := (k_B_undo, [(10, 5, 0), (47, 5, 5), (58, 5, 8), (62, 5, 9)], [(195, d_S_fetch 22)], [], [], [(7, "java/lang/IllegalStateException")], [], 6, 111, some .int, fun _ => 0, 1)
def v_B_undo (h : HP) : String ⊕ (Int32 × HP) := (if (h.1 38 9) ≤ 0 then (.inl "java/lang/IllegalStateException") else (bnd (v_S_fetch_0_33 (am_si h 38 9 ((h.1 38 9) - 1)) (((h.1 38 8) + ((h.1 38 9) - 1)) - ((h.1 38 8) + ((h.1 38 9) - 1)) / 6 * 6)) fun y1 => (.inr (y1.1 38 9, y1))))
def p_B_undo (h : HP) : Prop := (((h.1 38 9) ≤ 0 → True) ∧ (¬ (h.1 38 9) ≤ 0 → (p_S_fetch_0_33 (am_si h 38 9 ((h.1 38 9) - 1)) (((h.1 38 8) + ((h.1 38 9) - 1)) - ((h.1 38 8) + ((h.1 38 9) - 1)) / 6 * 6))))
def g_B_undo (_ _ : List Sh) (as : List Value) (h : HP) : GR := match as with
  | [.ref o1] => (Nat.beq o1 38, p_B_undo h, rthr (v_B_undo h), rvIW (v_B_undo h), rhpI h (v_B_undo h))
  | _ => bad h
def d_B_undo (k : Nat) : CD := (k, yX5_undo, cX5_undo, 1, some .int, 1, 6, 111, 0, true, true, g_B_undo)
theorem chk_B_undo : ∀ pc, am_chk cX5_undo k_B_undo pc = true := am_chkall 55 (by decide +kernel) (fun pc h => by unfold k_B_undo; rw [Nat.ble_eq_true_of_le h]; rfl)
theorem pf_B_undo : plainFor yX5_undo = true := by decide +kernel
theorem cu_B_undo : Cond.code yX5_undo cX5_undo 1 (some .int) ∈ am_U := am_tb 417 (by decide +kernel) rfl
theorem th_B_undo_7 : am_thok "BusBlocks" cX5_undo m_B_undo 7 "java/lang/IllegalStateException" := ex_th (ik := 96) (ic := 100) (is := 198) (text := "no state is saved") ex_fS exw_ISE (by decide +kernel) (Nat.le_of_ble_eq_true rfl) (Nat.le_of_ble_eq_true rfl) (by decide +kernel) (by decide +kernel) (Or.inl ⟨by decide +kernel, by decide +kernel, by decide +kernel⟩)
set_option maxRecDepth 100000 in
theorem ev_B_undo {e1 e2 : List Sh} {P : AR → HP → Prop} (h : HP) (hp : p_B_undo h) (hP : ∀ q, v_B_undo h = q → RIWT P h q) : am_Ev m_B_undo (WB ++ e1) (RO ++ e2) P (0, [.ref 38], [], h) := by
  unfold p_B_undo at hp
  refine am_Ev_G [36] 400 _ ?_
  show ((¬ (h.1 38 9) ≤ 0 → am_Ev m_B_undo (WB ++ e1) (RO ++ e2) P (36, [.ref 38], [.ref 38, .int (h.1 38 8), .ref 33], (am_si h 38 9 ((h.1 38 9) - 1)))) ∧ ((h.1 38 9) ≤ 0 → P (.inr "java/lang/IllegalStateException") h))
  refine ⟨fun c1 => ?_, fun c1 => ?_⟩
  · have hp := hp.2 c1
    refine am_Ev_G [50] 400 _ ?_
    show ((¬ 6 = 0) ∧ ((p_S_fetch_0_33 (am_si h 38 9 ((h.1 38 9) - 1)) (((h.1 38 8) + ((h.1 38 9) - 1)) - ((h.1 38 8) + ((h.1 38 9) - 1)) / 6 * 6)) ∧ am_Ev m_B_undo (WB ++ e1) (RO ++ e2) P (50, [.ref 38], [], (v_S_fetch_0_33 (am_si h 38 9 ((h.1 38 9) - 1)) (((h.1 38 8) + ((h.1 38 9) - 1)) - ((h.1 38 8) + ((h.1 38 9) - 1)) / 6 * 6)))))
    refine ⟨(by decide), ?_⟩
    refine ⟨hp, ?_⟩
    obtain ⟨y1, c2⟩ : ∃ y, v_S_fetch_0_33 (am_si h 38 9 ((h.1 38 9) - 1)) (((h.1 38 8) + ((h.1 38 9) - 1)) - ((h.1 38 8) + ((h.1 38 9) - 1)) / 6 * 6) = y := ⟨_, rfl⟩
    rw [c2]
    show am_Ev m_B_undo (WB ++ e1) (RO ++ e2) P (50, [.ref 38], [], y1)
    refine am_Ev_G [] 400 _ ?_
    show P (.inl (some (.int (y1.1 38 9)))) y1
    exact hP (.inr (y1.1 38 9, y1)) (by unfold v_B_undo; simp only [if_neg c1, bnd, c2])
  · skip
    exact hP (.inl "java/lang/IllegalStateException") (by unfold v_B_undo; simp only [if_pos c1])
theorem ok_B_undo {l : Launch} (hl : l.stackTraces = false) (e1 e2 : List Sh) (k : Nat) : am_Ok l (WB ++ e1) (RO ++ e2) (d_B_undo k) := by
  refine am_met hl (own := RX5) (M := m_B_undo) rfl pf_B_undo cu_B_undo rfl rfl rfl rfl (fun _ => rfl) rfl ⟨chk_B_undo, (am_c (fl_B_10) (am_c (fl_B_47) (am_c (fl_B_58) (am_c (fl_B_62) am_n)))), (am_c (lk_B_195) am_n), (am_n), (am_n)⟩ (am_c (th_B_undo_7) am_n) (am_c (ok_S_fetch hl e1 _ 22) am_n) (fun z => nomatch z) (fun z => nomatch z) ?_
  · intro as h hg hp
    revert hg hp
    show g_ok (g_B_undo (WB ++ e1) (RO ++ e2) as h) = true → g_pre (g_B_undo (WB ++ e1) (RO ++ e2) as h) → _ ∧ am_Ev m_B_undo (WB ++ e1) (RO ++ e2) (am_eq (g_B_undo (WB ++ e1) (RO ++ e2) as h)) (0, am_ent as 1, [], h)
    unfold g_B_undo
    split
    · rename_i o1
      intro hc hp
      change (Nat.beq o1 38) = true at hc
      obtain rfl := am_beq hc
      exact ⟨Nat.le_of_ble_eq_true rfl, ev_B_undo h hp eqRIWT⟩
    · exact fun z => nomatch z
def k_B_terminalOf (pc : Nat) : Ent := bif Nat.ble 121 pc then am_nop else bif Nat.ble 72 pc then (bif Nat.ble 96 pc then (bif Nat.ble 108 pc then (bif Nat.ble 113 pc then (bif Nat.ble 117 pc then (bif Nat.ble 120 pc then (bif Nat.beq pc 120 then (.ireturn, 0, 0, []) else am_nop) else (bif Nat.beq pc 117 then (.invokevirtual 215, 0, 0, []) else am_nop)) else (bif Nat.ble 116 pc then (bif Nat.beq pc 116 then (.iload_n 1, 0, 1, []) else am_nop) else (bif Nat.beq pc 113 then (.getfield 24, 0, 0, []) else am_nop))) else (bif Nat.ble 111 pc then (bif Nat.ble 112 pc then (bif Nat.beq pc 112 then (.aload_n 0, 0, 0, []) else am_nop) else (bif Nat.beq pc 111 then (.pop, 0, 0, []) else am_nop)) else (bif Nat.beq pc 108 then (.invokevirtual 212, 0, 0, []) else am_nop))) else (bif Nat.ble 101 pc then (bif Nat.ble 104 pc then (bif Nat.ble 105 pc then (bif Nat.beq pc 105 then (.getfield 24, 0, 0, []) else am_nop) else (bif Nat.beq pc 104 then (.aload_n 0, 0, 0, []) else am_nop)) else (bif Nat.beq pc 101 then (.invokevirtual 209, 0, 0, []) else am_nop)) else (bif Nat.ble 97 pc then (bif Nat.ble 100 pc then (bif Nat.beq pc 100 then (.iconst (-1), (-1 : Int32), 0, []) else am_nop) else (bif Nat.beq pc 97 then (.getfield 24, 0, 0, []) else am_nop)) else (bif Nat.beq pc 96 then (.aload_n 0, 0, 0, []) else am_nop)))) else (bif Nat.ble 84 pc then (bif Nat.ble 91 pc then (bif Nat.ble 92 pc then (bif Nat.ble 95 pc then (bif Nat.beq pc 95 then (.ireturn, 0, 0, []) else am_nop) else (bif Nat.beq pc 92 then (.invokevirtual 203, 0, 0, []) else am_nop)) else (bif Nat.beq pc 91 then (.iload_n 1, 0, 1, []) else am_nop)) else (bif Nat.ble 85 pc then (bif Nat.ble 88 pc then (bif Nat.beq pc 88 then (.getfield 206, 0, 0, []) else am_nop) else (bif Nat.beq pc 85 then (.getfield 10, 0, 0, []) else am_nop)) else (bif Nat.beq pc 84 then (.aload_n 0, 0, 0, []) else am_nop))) else (bif Nat.ble 79 pc then (bif Nat.ble 80 pc then (bif Nat.ble 81 pc then (bif Nat.beq pc 81 then (.getfield 10, 0, 0, []) else am_nop) else (bif Nat.beq pc 80 then (.aload_n 0, 0, 0, []) else am_nop)) else (bif Nat.beq pc 79 then (.ireturn, 0, 0, []) else am_nop)) else (bif Nat.ble 75 pc then (bif Nat.ble 76 pc then (bif Nat.beq pc 76 then (.invokevirtual 203, 0, 0, []) else am_nop) else (bif Nat.beq pc 75 then (.iload_n 1, 0, 1, []) else am_nop)) else (bif Nat.beq pc 72 then (.getfield 200, 0, 0, []) else am_nop))))) else (bif Nat.ble 48 pc then (bif Nat.ble 60 pc then (bif Nat.ble 65 pc then (bif Nat.ble 68 pc then (bif Nat.ble 69 pc then (bif Nat.beq pc 69 then (.getfield 10, 0, 0, []) else am_nop) else (bif Nat.beq pc 68 then (.aload_n 0, 0, 0, []) else am_nop)) else (bif Nat.beq pc 65 then (.getfield 10, 0, 0, []) else am_nop)) else (bif Nat.ble 63 pc then (bif Nat.ble 64 pc then (bif Nat.beq pc 64 then (.aload_n 0, 0, 0, []) else am_nop) else (bif Nat.beq pc 63 then (.ireturn, 0, 0, []) else am_nop)) else (bif Nat.beq pc 60 then (.invokestatic 78, 0, 0, []) else am_nop))) else (bif Nat.ble 53 pc then (bif Nat.ble 56 pc then (bif Nat.ble 59 pc then (bif Nat.beq pc 59 then (.iload_n 1, 0, 1, []) else am_nop) else (bif Nat.beq pc 56 then (.getfield 86, 0, 0, []) else am_nop)) else (bif Nat.beq pc 53 then (.getfield 10, 0, 0, []) else am_nop)) else (bif Nat.ble 51 pc then (bif Nat.ble 52 pc then (bif Nat.beq pc 52 then (.aload_n 0, 0, 0, []) else am_nop) else (bif Nat.beq pc 51 then (.ireturn, 0, 0, []) else am_nop)) else (bif Nat.beq pc 48 then (.invokestatic 78, 0, 0, []) else am_nop)))) else (bif Nat.ble 10 pc then (bif Nat.ble 41 pc then (bif Nat.ble 44 pc then (bif Nat.ble 47 pc then (bif Nat.beq pc 47 then (.iload_n 1, 0, 1, []) else am_nop) else (bif Nat.beq pc 44 then (.getfield 75, 0, 0, []) else am_nop)) else (bif Nat.beq pc 41 then (.getfield 10, 0, 0, []) else am_nop)) else (bif Nat.ble 11 pc then (bif Nat.ble 40 pc then (bif Nat.beq pc 40 then (.aload_n 0, 0, 0, []) else am_nop) else (bif Nat.beq pc 11 then (.tableswitch 85 0 3 #[29, 41, 53, 69], 0, 96, [(0, 40), (1, 52), (2, 64), (3, 80)]) else am_nop)) else (bif Nat.beq pc 10 then (.iload_n 2, 0, 2, []) else am_nop))) else (bif Nat.ble 5 pc then (bif Nat.ble 6 pc then (bif Nat.ble 7 pc then (bif Nat.beq pc 7 then (.invokestatic 68, 0, 0, []) else am_nop) else (bif Nat.beq pc 6 then (.iconst 4, 4, 0, []) else am_nop)) else (bif Nat.beq pc 5 then (.iconst 0, 0, 0, []) else am_nop)) else (bif Nat.ble 1 pc then (bif Nat.ble 4 pc then (bif Nat.beq pc 4 then (.iload_n 2, 0, 2, []) else am_nop) else (bif Nat.beq pc 1 then (.invokestatic 65, 0, 0, []) else am_nop)) else (bif Nat.beq pc 0 then (.iload_n 1, 0, 1, []) else am_nop)))))
theorem fl_B_24 : am_fok RX5 24 (5, 2) := ⟨RX5, TX5, 10, rfl, by decide, rfl, Or.inl (am_tb 193 (by decide +kernel) rfl)⟩
theorem fl_B_200 : am_fok RX5 200 (4, 1) := ⟨RX4, TX4, 15, rfl, by decide, rfl, Or.inr ⟨"BusBlocks", am_tb 48 (by decide +kernel) rfl⟩⟩
theorem fl_B_206 : am_fok RX5 206 (4, 2) := ⟨RX4, TX4, 15, rfl, by decide, rfl, Or.inr ⟨"BusBlocks", am_tb 52 (by decide +kernel) rfl⟩⟩
theorem lk_B_203 : am_lnk RX5 203 (d_T_runTripsAt 24) := ⟨⟨by decide, by decide⟩, am_tb 2 (by decide +kernel) rfl, Or.inr ⟨by decide, rfl, am_tb 679 (by decide +kernel) rfl, am_tp 53 (by decide +kernel) rfl, ⟨TX4, 15, rfl⟩, Or.inr ⟨"BusBlocks", am_tb 677 (by decide +kernel) rfl⟩⟩⟩
theorem lk_B_209 : am_lnk RX5 209 (d_D_gather 20) := ⟨⟨by decide, by decide⟩, am_tb 3 (by decide +kernel) rfl, Or.inr ⟨by decide, rfl, am_tb 430 (by decide +kernel) rfl, am_tp 19 (by decide +kernel) rfl, ⟨TX0, 6, rfl⟩, Or.inr ⟨"BusBlocks", am_tb 428 (by decide +kernel) rfl⟩⟩⟩
theorem lk_B_212 : am_lnk RX5 212 (d_D_fewest 20) := ⟨⟨by decide, by decide⟩, am_tb 3 (by decide +kernel) rfl, Or.inr ⟨by decide, rfl, am_tb 454 (by decide +kernel) rfl, am_tp 24 (by decide +kernel) rfl, ⟨TX0, 6, rfl⟩, Or.inr ⟨"BusBlocks", am_tb 452 (by decide +kernel) rfl⟩⟩⟩
theorem lk_B_215 : am_lnk RX5 215 (d_D_deficitOf 20) := ⟨⟨by decide, by decide⟩, am_tb 3 (by decide +kernel) rfl, Or.inr ⟨by decide, rfl, am_tb 683 (by decide +kernel) rfl, am_tp 54 (by decide +kernel) rfl, ⟨TX0, 6, rfl⟩, Or.inr ⟨"BusBlocks", am_tb 681 (by decide +kernel) rfl⟩⟩⟩
def m_B_terminalOf : MI := (k_B_terminalOf, [(10, 5, 0), (24, 5, 2), (75, 4, 8), (86, 4, 9), (200, 4, 1), (206, 4, 2)], [(65, d_B_checkTerminal 0), (68, d_B_checkRange 0), (78, d_B_at 0), (203, d_T_runTripsAt 24), (209, d_D_gather 20), (212, d_D_fewest 20), (215, d_D_deficitOf 20)], [], [], [], [], 7, 114, some .int, fun _ => 0, 1)
def v_B_terminalOf (h : HP) (a1 : Int32) (a2 : Int32) : String ⊕ (Int32 × HP) := (match v_B_checkTerminal h a1 with | some E => (.inl E) | none => (match v_B_checkRange h a2 0 4 with | some E => (.inl E) | none => (if a2 = 0 then (.inr ((v_at 4 (h.1 9) a1), h)) else (if a2 = 1 then (.inr ((v_at 4 (h.1 10) a1), h)) else (if a2 = 2 then (.inr ((v_T_runTripsAt_2 h a1), h)) else (if a2 = 3 then (.inr ((v_T_runTripsAt_3 h a1), h)) else (bnd (v_D_gather h (-1 : Int32)) fun y1 => (bnd (v_D_fewest y1) fun y2 => (.inr ((v_D_deficitOf y2.2 a1), y2.2))))))))))
def p_B_terminalOf (h : HP) (a1 : Int32) (a2 : Int32) : Prop := (v_B_checkTerminal h a1 = none → (v_B_checkRange h a2 0 4 = none → ((a2 = 0 → True) ∧ (¬ a2 = 0 → ((a2 = 1 → True) ∧ (¬ a2 = 1 → ((a2 = 2 → (p_T_runTripsAt_2 h a1)) ∧ (¬ a2 = 2 → ((a2 = 3 → (p_T_runTripsAt_3 h a1)) ∧ (¬ a2 = 3 → ((p_D_gather h (-1 : Int32)) ∧ (∀ y1, v_D_gather h (-1 : Int32) = y1 → ((p_D_fewest y1) ∧ (∀ y2, v_D_fewest y1 = y2 → (p_D_deficitOf y2.2 a1)))))))))))))))
def g_B_terminalOf (_ _ : List Sh) (as : List Value) (h : HP) : GR := match as with
  | [.ref o1, .int a1, .int a2] => (Nat.beq o1 38, p_B_terminalOf h a1 a2, rthr (v_B_terminalOf h a1 a2), rvIW (v_B_terminalOf h a1 a2), rhpI h (v_B_terminalOf h a1 a2))
  | _ => bad h
def d_B_terminalOf (k : Nat) : CD := (k, yX5_terminalOf, cX5_terminalOf, 3, some .int, 3, 7, 114, 0, true, true, g_B_terminalOf)
theorem chk_B_terminalOf : ∀ pc, am_chk cX5_terminalOf k_B_terminalOf pc = true := am_chkall 121 (by decide +kernel) (fun pc h => by unfold k_B_terminalOf; rw [Nat.ble_eq_true_of_le h]; rfl)
theorem pf_B_terminalOf : plainFor yX5_terminalOf = true := by decide +kernel
theorem cu_B_terminalOf : Cond.code yX5_terminalOf cX5_terminalOf 3 (some .int) ∈ am_U := am_tb 676 (by decide +kernel) rfl
set_option maxRecDepth 100000 in
theorem ev_B_terminalOf {e1 e2 : List Sh} {P : AR → HP → Prop} (h : HP) (a1 : Int32) (a2 : Int32) (hp : p_B_terminalOf h a1 a2) (hP : ∀ q, v_B_terminalOf h a1 a2 = q → RIWT P h q) : am_Ev m_B_terminalOf (WB ++ e1) (RO ++ e2) P (0, [.ref 38, .int a1, .int a2], [], h) := by
  unfold p_B_terminalOf at hp
  refine am_Ev_G [4] 400 _ ?_
  show ((∀ E, v_B_checkTerminal h a1 = some E → P (.inr E) h) ∧ (v_B_checkTerminal h a1 = none → am_Ev m_B_terminalOf (WB ++ e1) (RO ++ e2) P (4, [.ref 38, .int a1, .int a2], [], h)))
  refine ⟨fun E c1 => ?_, fun c1 => ?_⟩
  · skip
    exact hP (.inl E) (by unfold v_B_terminalOf; simp only [c1])
  · have hp := hp c1
    refine am_Ev_G [10] 400 _ ?_
    show ((∀ E, v_B_checkRange h a2 0 4 = some E → P (.inr E) h) ∧ (v_B_checkRange h a2 0 4 = none → am_Ev m_B_terminalOf (WB ++ e1) (RO ++ e2) P (10, [.ref 38, .int a1, .int a2], [], h)))
    refine ⟨fun E c2 => ?_, fun c2 => ?_⟩
    · skip
      exact hP (.inl E) (by unfold v_B_terminalOf; simp only [c1, c2])
    · have hp := hp c2
      refine am_Ev_G [51, 79, 95, 104] 400 _ ?_
      show ((a2 = 0 → am_Ev m_B_terminalOf (WB ++ e1) (RO ++ e2) P (51, [.ref 38, .int a1, .int a2], [.int (v_at 4 (h.1 9) a1)], h)) ∧ (¬ a2 = 0 → ((a2 = 1 → P (.inl (some (.int (v_at 4 (h.1 10) a1)))) h) ∧ (¬ a2 = 1 → ((a2 = 2 → ((p_T_runTripsAt_2 h a1) ∧ am_Ev m_B_terminalOf (WB ++ e1) (RO ++ e2) P (79, [.ref 38, .int a1, .int a2], [.int (v_T_runTripsAt_2 h a1)], h))) ∧ (¬ a2 = 2 → ((a2 = 3 → ((p_T_runTripsAt_3 h a1) ∧ am_Ev m_B_terminalOf (WB ++ e1) (RO ++ e2) P (95, [.ref 38, .int a1, .int a2], [.int (v_T_runTripsAt_3 h a1)], h))) ∧ (¬ a2 = 3 → ((p_D_gather h (-1 : Int32)) ∧ am_Ev m_B_terminalOf (WB ++ e1) (RO ++ e2) P (104, [.ref 38, .int a1, .int a2], [], (v_D_gather h (-1 : Int32))))))))))))
      refine ⟨fun c3 => ?_, fun c3 => ?_⟩
      · skip
        refine am_Ev_G [] 400 _ ?_
        show P (.inl (some (.int (v_at 4 (h.1 9) a1)))) h
        exact hP (.inr ((v_at 4 (h.1 9) a1), h)) (by unfold v_B_terminalOf; simp only [c1, c2, if_pos c3])
      · have hp := hp.2 c3
        refine ⟨fun c4 => ?_, fun c4 => ?_⟩
        · skip
          exact hP (.inr ((v_at 4 (h.1 10) a1), h)) (by unfold v_B_terminalOf; simp only [c1, c2, if_neg c3, if_pos c4])
        · have hp := hp.2 c4
          refine ⟨fun c5 => ?_, fun c5 => ?_⟩
          · have hp := hp.1 c5
            refine ⟨hp, ?_⟩
            refine am_Ev_G [] 400 _ ?_
            show P (.inl (some (.int (v_T_runTripsAt_2 h a1)))) h
            exact hP (.inr ((v_T_runTripsAt_2 h a1), h)) (by unfold v_B_terminalOf; simp only [c1, c2, if_neg c3, if_neg c4, if_pos c5])
          · have hp := hp.2 c5
            refine ⟨fun c6 => ?_, fun c6 => ?_⟩
            · have hp := hp.1 c6
              refine ⟨hp, ?_⟩
              refine am_Ev_G [] 400 _ ?_
              show P (.inl (some (.int (v_T_runTripsAt_3 h a1)))) h
              exact hP (.inr ((v_T_runTripsAt_3 h a1), h)) (by unfold v_B_terminalOf; simp only [c1, c2, if_neg c3, if_neg c4, if_neg c5, if_pos c6])
            · have hp := hp.2 c6
              obtain ⟨hob, hp⟩ := hp
              refine ⟨hob, ?_⟩
              obtain ⟨y1, c7⟩ : ∃ y, v_D_gather h (-1 : Int32) = y := ⟨_, rfl⟩
              rw [c7]
              have hp := hp _ c7
              show am_Ev m_B_terminalOf (WB ++ e1) (RO ++ e2) P (104, [.ref 38, .int a1, .int a2], [], y1)
              refine am_Ev_G [111] 400 _ ?_
              show ((p_D_fewest y1) ∧ am_Ev m_B_terminalOf (WB ++ e1) (RO ++ e2) P (111, [.ref 38, .int a1, .int a2], [.int ((v_D_fewest y1).1)], ((v_D_fewest y1).2)))
              obtain ⟨hob, hp⟩ := hp
              refine ⟨hob, ?_⟩
              obtain ⟨y2, c8⟩ : ∃ y, v_D_fewest y1 = y := ⟨_, rfl⟩
              rw [c8]
              have hp := hp _ c8
              show am_Ev m_B_terminalOf (WB ++ e1) (RO ++ e2) P (111, [.ref 38, .int a1, .int a2], [.int y2.1], y2.2)
              refine am_Ev_G [] 400 _ ?_
              show ((p_D_deficitOf y2.2 a1) ∧ P (.inl (some (.int (v_D_deficitOf y2.2 a1)))) y2.2)
              refine ⟨hp, ?_⟩
              exact hP (.inr ((v_D_deficitOf y2.2 a1), y2.2)) (by unfold v_B_terminalOf; simp only [c1, c2, if_neg c3, if_neg c4, if_neg c5, if_neg c6, bnd, c7, bnd, c8])
theorem ok_B_terminalOf {l : Launch} (hl : l.stackTraces = false) (e1 e2 : List Sh) (k : Nat) : am_Ok l (WB ++ e1) (RO ++ e2) (d_B_terminalOf k) := by
  refine am_met hl (own := RX5) (M := m_B_terminalOf) rfl pf_B_terminalOf cu_B_terminalOf rfl rfl rfl rfl (fun _ => rfl) rfl ⟨chk_B_terminalOf, (am_c (fl_B_10) (am_c (fl_B_24) (am_c (fl_B_75) (am_c (fl_B_86) (am_c (fl_B_200) (am_c (fl_B_206) am_n)))))), (am_c (lk_B_65) (am_c (lk_B_68) (am_c (lk_B_78) (am_c (lk_B_203) (am_c (lk_B_209) (am_c (lk_B_212) (am_c (lk_B_215) am_n))))))), (am_n), (am_n)⟩ (am_n) (am_c (ok_B_checkTerminal hl e1 _ 0) (am_c (ok_B_checkRange hl e1 _ 0) (am_c (ok_B_at hl _ _ 0) (am_c (ok_T_runTripsAt hl (W21b ++ (WBb ++ e1)) _ 24) (am_c (ok_D_gather hl (WBb ++ e1) _ 20) (am_c (ok_D_fewest hl (WBb ++ e1) _ 20) (am_c (ok_D_deficitOf hl (WBb ++ e1) _ 20) am_n))))))) (fun z => nomatch z) (fun z => nomatch z) ?_
  · intro as h hg hp
    revert hg hp
    show g_ok (g_B_terminalOf (WB ++ e1) (RO ++ e2) as h) = true → g_pre (g_B_terminalOf (WB ++ e1) (RO ++ e2) as h) → _ ∧ am_Ev m_B_terminalOf (WB ++ e1) (RO ++ e2) (am_eq (g_B_terminalOf (WB ++ e1) (RO ++ e2) as h)) (0, am_ent as 3, [], h)
    unfold g_B_terminalOf
    split
    · rename_i o1 a1 a2
      intro hc hp
      change (Nat.beq o1 38) = true at hc
      obtain rfl := am_beq hc
      exact ⟨Nat.le_of_ble_eq_true rfl, ev_B_terminalOf h a1 a2 hp eqRIWT⟩
    · exact fun z => nomatch z
def k_B_tripOf (pc : Nat) : Ent := bif Nat.ble 167 pc then am_nop else bif Nat.ble 107 pc then (bif Nat.ble 137 pc then (bif Nat.ble 151 pc then (bif Nat.ble 161 pc then (bif Nat.ble 165 pc then (bif Nat.ble 166 pc then (bif Nat.beq pc 166 then (.ireturn, 0, 0, []) else am_nop) else (bif Nat.beq pc 165 then (.iconst 1, 1, 0, []) else am_nop)) else (bif Nat.ble 162 pc then (bif Nat.beq pc 162 then (.goto 4, 0, 166, []) else am_nop) else (bif Nat.beq pc 161 then (.iconst 0, 0, 0, []) else am_nop))) else (bif Nat.ble 155 pc then (bif Nat.ble 158 pc then (bif Nat.beq pc 158 then (.ifCond .eq 7, 0, 165, []) else am_nop) else (bif Nat.beq pc 155 then (.invokevirtual 230, 0, 0, []) else am_nop)) else (bif Nat.ble 154 pc then (bif Nat.beq pc 154 then (.iload_n 1, 0, 1, []) else am_nop) else (bif Nat.beq pc 151 then (.getfield 10, 0, 0, []) else am_nop)))) else (bif Nat.ble 145 pc then (bif Nat.ble 149 pc then (bif Nat.ble 150 pc then (bif Nat.beq pc 150 then (.aload_n 0, 0, 0, []) else am_nop) else (bif Nat.beq pc 149 then (.ireturn, 0, 0, []) else am_nop)) else (bif Nat.ble 146 pc then (bif Nat.beq pc 146 then (.invokevirtual 227, 0, 0, []) else am_nop) else (bif Nat.beq pc 145 then (.iload_n 1, 0, 1, []) else am_nop))) else (bif Nat.ble 141 pc then (bif Nat.ble 142 pc then (bif Nat.beq pc 142 then (.getfield 10, 0, 0, []) else am_nop) else (bif Nat.beq pc 141 then (.aload_n 0, 0, 0, []) else am_nop)) else (bif Nat.ble 140 pc then (bif Nat.beq pc 140 then (.ireturn, 0, 0, []) else am_nop) else (bif Nat.beq pc 137 then (.invokestatic 78, 0, 0, []) else am_nop))))) else (bif Nat.ble 121 pc then (bif Nat.ble 129 pc then (bif Nat.ble 133 pc then (bif Nat.ble 136 pc then (bif Nat.beq pc 136 then (.iload_n 1, 0, 1, []) else am_nop) else (bif Nat.beq pc 133 then (.getfield 145, 0, 0, []) else am_nop)) else (bif Nat.ble 130 pc then (bif Nat.beq pc 130 then (.getfield 10, 0, 0, []) else am_nop) else (bif Nat.beq pc 129 then (.aload_n 0, 0, 0, []) else am_nop))) else (bif Nat.ble 125 pc then (bif Nat.ble 128 pc then (bif Nat.beq pc 128 then (.ireturn, 0, 0, []) else am_nop) else (bif Nat.beq pc 125 then (.invokestatic 78, 0, 0, []) else am_nop)) else (bif Nat.ble 124 pc then (bif Nat.beq pc 124 then (.iload_n 1, 0, 1, []) else am_nop) else (bif Nat.beq pc 121 then (.getfield 224, 0, 0, []) else am_nop)))) else (bif Nat.ble 113 pc then (bif Nat.ble 117 pc then (bif Nat.ble 118 pc then (bif Nat.beq pc 118 then (.getfield 10, 0, 0, []) else am_nop) else (bif Nat.beq pc 117 then (.aload_n 0, 0, 0, []) else am_nop)) else (bif Nat.ble 116 pc then (bif Nat.beq pc 116 then (.ireturn, 0, 0, []) else am_nop) else (bif Nat.beq pc 113 then (.invokevirtual 221, 0, 0, []) else am_nop))) else (bif Nat.ble 109 pc then (bif Nat.ble 112 pc then (bif Nat.beq pc 112 then (.iload_n 1, 0, 1, []) else am_nop) else (bif Nat.beq pc 109 then (.getfield 10, 0, 0, []) else am_nop)) else (bif Nat.ble 108 pc then (bif Nat.beq pc 108 then (.aload_n 0, 0, 0, []) else am_nop) else (bif Nat.beq pc 107 then (.ireturn, 0, 0, []) else am_nop)))))) else (bif Nat.ble 73 pc then (bif Nat.ble 91 pc then (bif Nat.ble 97 pc then (bif Nat.ble 103 pc then (bif Nat.ble 104 pc then (bif Nat.beq pc 104 then (.invokestatic 78, 0, 0, []) else am_nop) else (bif Nat.beq pc 103 then (.iload_n 1, 0, 1, []) else am_nop)) else (bif Nat.ble 100 pc then (bif Nat.beq pc 100 then (.getfield 113, 0, 0, []) else am_nop) else (bif Nat.beq pc 97 then (.getfield 10, 0, 0, []) else am_nop))) else (bif Nat.ble 95 pc then (bif Nat.ble 96 pc then (bif Nat.beq pc 96 then (.aload_n 0, 0, 0, []) else am_nop) else (bif Nat.beq pc 95 then (.ireturn, 0, 0, []) else am_nop)) else (bif Nat.ble 92 pc then (bif Nat.beq pc 92 then (.invokestatic 78, 0, 0, []) else am_nop) else (bif Nat.beq pc 91 then (.iload_n 1, 0, 1, []) else am_nop)))) else (bif Nat.ble 83 pc then (bif Nat.ble 85 pc then (bif Nat.ble 88 pc then (bif Nat.beq pc 88 then (.getfield 206, 0, 0, []) else am_nop) else (bif Nat.beq pc 85 then (.getfield 10, 0, 0, []) else am_nop)) else (bif Nat.ble 84 pc then (bif Nat.beq pc 84 then (.aload_n 0, 0, 0, []) else am_nop) else (bif Nat.beq pc 83 then (.ireturn, 0, 0, []) else am_nop))) else (bif Nat.ble 79 pc then (bif Nat.ble 80 pc then (bif Nat.beq pc 80 then (.invokestatic 78, 0, 0, []) else am_nop) else (bif Nat.beq pc 79 then (.iload_n 1, 0, 1, []) else am_nop)) else (bif Nat.ble 76 pc then (bif Nat.beq pc 76 then (.getfield 200, 0, 0, []) else am_nop) else (bif Nat.beq pc 73 then (.getfield 10, 0, 0, []) else am_nop))))) else (bif Nat.ble 13 pc then (bif Nat.ble 67 pc then (bif Nat.ble 71 pc then (bif Nat.ble 72 pc then (bif Nat.beq pc 72 then (.aload_n 0, 0, 0, []) else am_nop) else (bif Nat.beq pc 71 then (.ireturn, 0, 0, []) else am_nop)) else (bif Nat.ble 68 pc then (bif Nat.beq pc 68 then (.invokestatic 78, 0, 0, []) else am_nop) else (bif Nat.beq pc 67 then (.iload_n 1, 0, 1, []) else am_nop))) else (bif Nat.ble 61 pc then (bif Nat.ble 64 pc then (bif Nat.beq pc 64 then (.getfield 218, 0, 0, []) else am_nop) else (bif Nat.beq pc 61 then (.getfield 10, 0, 0, []) else am_nop)) else (bif Nat.ble 60 pc then (bif Nat.beq pc 60 then (.aload_n 0, 0, 0, []) else am_nop) else (bif Nat.beq pc 13 then (.tableswitch 137 0 7 #[47, 59, 71, 83, 95, 104, 116, 128], 0, 150, [(0, 60), (1, 72), (2, 84), (3, 96), (4, 108), (5, 117), (6, 129), (7, 141)]) else am_nop)))) else (bif Nat.ble 6 pc then (bif Nat.ble 9 pc then (bif Nat.ble 12 pc then (bif Nat.beq pc 12 then (.iload_n 2, 0, 2, []) else am_nop) else (bif Nat.beq pc 9 then (.invokestatic 68, 0, 0, []) else am_nop)) else (bif Nat.ble 7 pc then (bif Nat.beq pc 7 then (.bipush 8, 8, 0, []) else am_nop) else (bif Nat.beq pc 6 then (.iconst 0, 0, 0, []) else am_nop))) else (bif Nat.ble 2 pc then (bif Nat.ble 5 pc then (bif Nat.beq pc 5 then (.iload_n 2, 0, 2, []) else am_nop) else (bif Nat.beq pc 2 then (.invokevirtual 107, 0, 0, []) else am_nop)) else (bif Nat.ble 1 pc then (bif Nat.beq pc 1 then (.iload_n 1, 0, 1, []) else am_nop) else (bif Nat.beq pc 0 then (.aload_n 0, 0, 0, []) else am_nop))))))
theorem fl_B_218 : am_fok RX5 218 (4, 0) := ⟨RX4, TX4, 15, rfl, by decide, rfl, Or.inr ⟨"BusBlocks", am_tb 45 (by decide +kernel) rfl⟩⟩
theorem fl_B_224 : am_fok RX5 224 (4, 5) := ⟨RX4, TX4, 15, rfl, by decide, rfl, Or.inr ⟨"BusBlocks", am_tb 61 (by decide +kernel) rfl⟩⟩
theorem lk_B_221 : am_lnk RX5 221 (d_T_arrivalOf 24) := ⟨⟨by decide, by decide⟩, am_tb 2 (by decide +kernel) rfl, Or.inr ⟨by decide, rfl, am_tb 381 (by decide +kernel) rfl, am_tp 12 (by decide +kernel) rfl, ⟨TX4, 15, rfl⟩, Or.inr ⟨"BusBlocks", am_tb 689 (by decide +kernel) rfl⟩⟩⟩
theorem lk_B_227 : am_lnk RX5 227 (d_T_blockWith 24) := ⟨⟨by decide, by decide⟩, am_tb 2 (by decide +kernel) rfl, Or.inr ⟨by decide, rfl, am_tb 692 (by decide +kernel) rfl, am_tp 55 (by decide +kernel) rfl, ⟨TX4, 15, rfl⟩, Or.inr ⟨"BusBlocks", am_tb 690 (by decide +kernel) rfl⟩⟩⟩
def m_B_tripOf : MI := (k_B_tripOf, [(10, 5, 0), (113, 4, 3), (145, 4, 6), (200, 4, 1), (206, 4, 2), (218, 4, 0), (224, 4, 5)], [(68, d_B_checkRange 0), (78, d_B_at 0), (107, d_B_checkTrip 15), (221, d_T_arrivalOf 24), (227, d_T_blockWith 24), (230, d_T_isRun 24)], [], [], [], [], 7, 114, some .int, fun _ => 0, 1)
def v_B_tripOf (h : HP) (a1 : Int32) (a2 : Int32) : String ⊕ Int32 := (match v_B_checkTrip h a1 with | some E => (.inl E) | none => (match v_B_checkRange h a2 0 8 with | some E => (.inl E) | none => (if a2 = 0 then (.inr (v_at 20 (h.1 1) a1)) else (if a2 = 1 then (.inr (v_at 20 (h.1 2) a1)) else (if a2 = 2 then (.inr (v_at 20 (h.1 3) a1)) else (if a2 = 3 then (.inr (v_at 20 (h.1 4) a1)) else (if a2 = 4 then (.inr (v_T_arrivalOf h a1)) else (if a2 = 5 then (.inr (v_at 20 (h.1 6) a1)) else (if a2 = 6 then (.inr (v_at 20 (h.1 7) a1)) else (if a2 = 7 then (.inr (v_T_blockWith h a1)) else (.inr (if (v_T_isRun h a1) = 0 then (1 : Int32) else 0))))))))))))
def p_B_tripOf (h : HP) (a1 : Int32) (a2 : Int32) : Prop := (v_B_checkTrip h a1 = none → (v_B_checkRange h a2 0 8 = none → ((a2 = 0 → True) ∧ (¬ a2 = 0 → ((a2 = 1 → True) ∧ (¬ a2 = 1 → ((a2 = 2 → True) ∧ (¬ a2 = 2 → ((a2 = 3 → True) ∧ (¬ a2 = 3 → ((a2 = 4 → True) ∧ (¬ a2 = 4 → ((a2 = 5 → True) ∧ (¬ a2 = 5 → ((a2 = 6 → True) ∧ (¬ a2 = 6 → ((a2 = 7 → (p_T_blockWith h a1)) ∧ (¬ a2 = 7 → True))))))))))))))))))
def g_B_tripOf (_ _ : List Sh) (as : List Value) (h : HP) : GR := match as with
  | [.ref o1, .int a1, .int a2] => (Nat.beq o1 38, p_B_tripOf h a1 a2, rthr (v_B_tripOf h a1 a2), rvI (v_B_tripOf h a1 a2), h)
  | _ => bad h
def d_B_tripOf (k : Nat) : CD := (k, yX5_tripOf, cX5_tripOf, 3, some .int, 3, 7, 114, 0, true, true, g_B_tripOf)
theorem chk_B_tripOf : ∀ pc, am_chk cX5_tripOf k_B_tripOf pc = true := am_chkall 167 (by decide +kernel) (fun pc h => by unfold k_B_tripOf; rw [Nat.ble_eq_true_of_le h]; rfl)
theorem pf_B_tripOf : plainFor yX5_tripOf = true := by decide +kernel
theorem cu_B_tripOf : Cond.code yX5_tripOf cX5_tripOf 3 (some .int) ∈ am_U := am_tb 688 (by decide +kernel) rfl
set_option maxRecDepth 100000 in
theorem ev_B_tripOf {e1 e2 : List Sh} {P : AR → HP → Prop} (h : HP) (a1 : Int32) (a2 : Int32) (hp : p_B_tripOf h a1 a2) (hP : ∀ q, v_B_tripOf h a1 a2 = q → RIT P h q) : am_Ev m_B_tripOf (WB ++ e1) (RO ++ e2) P (0, [.ref 38, .int a1, .int a2], [], h) := by
  unfold p_B_tripOf at hp
  refine am_Ev_G [5] 400 _ ?_
  show ((∀ E, v_B_checkTrip h a1 = some E → P (.inr E) h) ∧ (v_B_checkTrip h a1 = none → am_Ev m_B_tripOf (WB ++ e1) (RO ++ e2) P (5, [.ref 38, .int a1, .int a2], [], h)))
  refine ⟨fun E c1 => ?_, fun c1 => ?_⟩
  · skip
    exact hP (.inl E) (by unfold v_B_tripOf; simp only [c1])
  · have hp := hp c1
    refine am_Ev_G [12] 400 _ ?_
    show ((∀ E, v_B_checkRange h a2 0 8 = some E → P (.inr E) h) ∧ (v_B_checkRange h a2 0 8 = none → am_Ev m_B_tripOf (WB ++ e1) (RO ++ e2) P (12, [.ref 38, .int a1, .int a2], [], h)))
    refine ⟨fun E c2 => ?_, fun c2 => ?_⟩
    · skip
      exact hP (.inl E) (by unfold v_B_tripOf; simp only [c1, c2])
    · have hp := hp c2
      refine am_Ev_G [83, 107, 128, 149, 158] 400 _ ?_
      show ((a2 = 0 → P (.inl (some (.int (v_at 20 (h.1 1) a1)))) h) ∧ (¬ a2 = 0 → ((a2 = 1 → am_Ev m_B_tripOf (WB ++ e1) (RO ++ e2) P (83, [.ref 38, .int a1, .int a2], [.int (v_at 20 (h.1 2) a1)], h)) ∧ (¬ a2 = 1 → ((a2 = 2 → P (.inl (some (.int (v_at 20 (h.1 3) a1)))) h) ∧ (¬ a2 = 2 → ((a2 = 3 → am_Ev m_B_tripOf (WB ++ e1) (RO ++ e2) P (107, [.ref 38, .int a1, .int a2], [.int (v_at 20 (h.1 4) a1)], h)) ∧ (¬ a2 = 3 → ((a2 = 4 → P (.inl (some (.int (v_T_arrivalOf h a1)))) h) ∧ (¬ a2 = 4 → ((a2 = 5 → am_Ev m_B_tripOf (WB ++ e1) (RO ++ e2) P (128, [.ref 38, .int a1, .int a2], [.int (v_at 20 (h.1 6) a1)], h)) ∧ (¬ a2 = 5 → ((a2 = 6 → P (.inl (some (.int (v_at 20 (h.1 7) a1)))) h) ∧ (¬ a2 = 6 → ((a2 = 7 → ((p_T_blockWith h a1) ∧ am_Ev m_B_tripOf (WB ++ e1) (RO ++ e2) P (149, [.ref 38, .int a1, .int a2], [.int (v_T_blockWith h a1)], h))) ∧ (¬ a2 = 7 → am_Ev m_B_tripOf (WB ++ e1) (RO ++ e2) P (158, [.ref 38, .int a1, .int a2], [.int (v_T_isRun h a1)], h)))))))))))))))))
      refine ⟨fun c3 => ?_, fun c3 => ?_⟩
      · skip
        exact hP (.inr (v_at 20 (h.1 1) a1)) (by unfold v_B_tripOf; simp only [c1, c2, if_pos c3])
      · have hp := hp.2 c3
        refine ⟨fun c4 => ?_, fun c4 => ?_⟩
        · skip
          refine am_Ev_G [] 400 _ ?_
          show P (.inl (some (.int (v_at 20 (h.1 2) a1)))) h
          exact hP (.inr (v_at 20 (h.1 2) a1)) (by unfold v_B_tripOf; simp only [c1, c2, if_neg c3, if_pos c4])
        · have hp := hp.2 c4
          refine ⟨fun c5 => ?_, fun c5 => ?_⟩
          · skip
            exact hP (.inr (v_at 20 (h.1 3) a1)) (by unfold v_B_tripOf; simp only [c1, c2, if_neg c3, if_neg c4, if_pos c5])
          · have hp := hp.2 c5
            refine ⟨fun c6 => ?_, fun c6 => ?_⟩
            · skip
              refine am_Ev_G [] 400 _ ?_
              show P (.inl (some (.int (v_at 20 (h.1 4) a1)))) h
              exact hP (.inr (v_at 20 (h.1 4) a1)) (by unfold v_B_tripOf; simp only [c1, c2, if_neg c3, if_neg c4, if_neg c5, if_pos c6])
            · have hp := hp.2 c6
              refine ⟨fun c7 => ?_, fun c7 => ?_⟩
              · skip
                exact hP (.inr (v_T_arrivalOf h a1)) (by unfold v_B_tripOf; simp only [c1, c2, if_neg c3, if_neg c4, if_neg c5, if_neg c6, if_pos c7])
              · have hp := hp.2 c7
                refine ⟨fun c8 => ?_, fun c8 => ?_⟩
                · skip
                  refine am_Ev_G [] 400 _ ?_
                  show P (.inl (some (.int (v_at 20 (h.1 6) a1)))) h
                  exact hP (.inr (v_at 20 (h.1 6) a1)) (by unfold v_B_tripOf; simp only [c1, c2, if_neg c3, if_neg c4, if_neg c5, if_neg c6, if_neg c7, if_pos c8])
                · have hp := hp.2 c8
                  refine ⟨fun c9 => ?_, fun c9 => ?_⟩
                  · skip
                    exact hP (.inr (v_at 20 (h.1 7) a1)) (by unfold v_B_tripOf; simp only [c1, c2, if_neg c3, if_neg c4, if_neg c5, if_neg c6, if_neg c7, if_neg c8, if_pos c9])
                  · have hp := hp.2 c9
                    refine ⟨fun c10 => ?_, fun c10 => ?_⟩
                    · have hp := hp.1 c10
                      refine ⟨hp, ?_⟩
                      refine am_Ev_G [] 400 _ ?_
                      show P (.inl (some (.int (v_T_blockWith h a1)))) h
                      exact hP (.inr (v_T_blockWith h a1)) (by unfold v_B_tripOf; simp only [c1, c2, if_neg c3, if_neg c4, if_neg c5, if_neg c6, if_neg c7, if_neg c8, if_neg c9, if_pos c10])
                    · skip
                      have key11 : am_Ev m_B_tripOf (WB ++ e1) (RO ++ e2) P (166, [.ref 38, .int a1, .int a2], [.int (if (v_T_isRun h a1) = 0 then (1 : Int32) else 0)], h) := by
                        refine am_Ev_G [] 400 _ ?_
                        show P (.inl (some (.int (if (v_T_isRun h a1) = 0 then (1 : Int32) else 0)))) h
                        exact hP (.inr (if (v_T_isRun h a1) = 0 then (1 : Int32) else 0)) (by unfold v_B_tripOf; simp only [c1, c2, if_neg c3, if_neg c4, if_neg c5, if_neg c6, if_neg c7, if_neg c8, if_neg c9, if_neg c10])
                      refine am_Ev_G [166] 400 _ ?_
                      show (((v_T_isRun h a1) = 0 → am_Ev m_B_tripOf (WB ++ e1) (RO ++ e2) P (166, [.ref 38, .int a1, .int a2], [.int 1], h)) ∧ (¬ (v_T_isRun h a1) = 0 → am_Ev m_B_tripOf (WB ++ e1) (RO ++ e2) P (166, [.ref 38, .int a1, .int a2], [.int 0], h)))
                      refine ⟨fun c12 => ?_, fun c12 => ?_⟩
                      · skip
                        simpa only [if_pos c12] using key11
                      · skip
                        simpa only [if_neg c12] using key11
theorem ok_B_tripOf {l : Launch} (hl : l.stackTraces = false) (e1 e2 : List Sh) (k : Nat) : am_Ok l (WB ++ e1) (RO ++ e2) (d_B_tripOf k) := by
  refine am_met hl (own := RX5) (M := m_B_tripOf) rfl pf_B_tripOf cu_B_tripOf rfl rfl rfl rfl (fun _ => rfl) rfl ⟨chk_B_tripOf, (am_c (fl_B_10) (am_c (fl_B_113) (am_c (fl_B_145) (am_c (fl_B_200) (am_c (fl_B_206) (am_c (fl_B_218) (am_c (fl_B_224) am_n))))))), (am_c (lk_B_68) (am_c (lk_B_78) (am_c (lk_B_107) (am_c (lk_B_221) (am_c (lk_B_227) (am_c (lk_B_230) am_n)))))), (am_n), (am_n)⟩ (am_n) (am_c (ok_B_checkRange hl e1 _ 0) (am_c (ok_B_at hl _ _ 0) (am_c (ok_B_checkTrip hl e1 _ 15) (am_c (ok_T_arrivalOf hl (W21b ++ (WBb ++ e1)) _ 24) (am_c (ok_T_blockWith hl (W21b ++ (WBb ++ e1)) _ 24) (am_c (ok_T_isRun hl (W21b ++ (WBb ++ e1)) _ 24) am_n)))))) (fun z => nomatch z) (fun z => nomatch z) ?_
  · intro as h hg hp
    revert hg hp
    show g_ok (g_B_tripOf (WB ++ e1) (RO ++ e2) as h) = true → g_pre (g_B_tripOf (WB ++ e1) (RO ++ e2) as h) → _ ∧ am_Ev m_B_tripOf (WB ++ e1) (RO ++ e2) (am_eq (g_B_tripOf (WB ++ e1) (RO ++ e2) as h)) (0, am_ent as 3, [], h)
    unfold g_B_tripOf
    split
    · rename_i o1 a1 a2
      intro hc hp
      change (Nat.beq o1 38) = true at hc
      obtain rfl := am_beq hc
      exact ⟨Nat.le_of_ble_eq_true rfl, ev_B_tripOf h a1 a2 hp eqRIT⟩
    · exact fun z => nomatch z
def k_B_checkHead (pc : Nat) : Ent := bif Nat.ble 17 pc then am_nop else bif Nat.ble 8 pc then (bif Nat.ble 12 pc then (bif Nat.ble 15 pc then (bif Nat.ble 16 pc then (bif Nat.beq pc 16 then (.return_, 0, 0, []) else am_nop) else (bif Nat.beq pc 15 then (.athrow, 0, 0, []) else am_nop)) else (bif Nat.beq pc 12 then (.invokespecial 363, 0, 0, []) else am_nop)) else (bif Nat.ble 9 pc then (bif Nat.beq pc 9 then (.ldc_w 368, 0, 0, []) else am_nop) else (bif Nat.beq pc 8 then (.dup, 0, 0, []) else am_nop))) else (bif Nat.ble 2 pc then (bif Nat.ble 5 pc then (bif Nat.beq pc 5 then (.new 359, 0, 0, []) else am_nop) else (bif Nat.beq pc 2 then (.if_icmp .ne 14, 0, 16, []) else am_nop)) else (bif Nat.ble 1 pc then (bif Nat.beq pc 1 then (.iconst (-1), (-1 : Int32), 0, []) else am_nop) else (bif Nat.beq pc 0 then (.iload_n 0, 0, 0, []) else am_nop)))
def m_B_checkHead : MI := (k_B_checkHead, [], [], [], [], [(5, "java/lang/IndexOutOfBoundsException")], [], 6, 90, none, fun _ => 0, 1)
def v_B_checkHead (h : HP) (a1 : Int32) : Option String := (if a1 = (-1 : Int32) then (some "java/lang/IndexOutOfBoundsException") else none)
def g_B_checkHead (_ _ : List Sh) (as : List Value) (h : HP) : GR := match as with
  | [.int a1] => (true, True, v_B_checkHead h a1, none, h)
  | _ => bad h
def d_B_checkHead (k : Nat) : CD := (k, yX5_checkHead, cX5_checkHead, 1, none, 1, 6, 90, 0, true, false, g_B_checkHead)
theorem chk_B_checkHead : ∀ pc, am_chk cX5_checkHead k_B_checkHead pc = true := am_chkall 17 (by decide +kernel) (fun pc h => by unfold k_B_checkHead; rw [Nat.ble_eq_true_of_le h]; rfl)
theorem pf_B_checkHead : plainFor yX5_checkHead = true := by decide +kernel
theorem cu_B_checkHead : Cond.code yX5_checkHead cX5_checkHead 1 (none) ∈ am_U := am_tb 704 (by decide +kernel) rfl
theorem th_B_checkHead_5 : am_thok "BusBlocks" cX5_checkHead m_B_checkHead 5 "java/lang/IndexOutOfBoundsException" := ex_th (ik := 359) (ic := 363) (is := 368) (text := "no such block") ex_fO exw_IOE (by decide +kernel) (Nat.le_of_ble_eq_true rfl) (Nat.le_of_ble_eq_true rfl) (by decide +kernel) (by decide +kernel) (Or.inr ⟨by decide +kernel, by decide +kernel, by decide +kernel⟩)
set_option maxRecDepth 100000 in
theorem ev_B_checkHead {e1 e2 : List Sh} {P : AR → HP → Prop} (h : HP) (a1 : Int32) (hP : ∀ q, v_B_checkHead h a1 = q → RVT P h q) : am_Ev m_B_checkHead (WB ++ e1) (RO ++ e2) P (0, [.int a1], [], h) := by
  refine am_Ev_G [] 400 _ ?_
  show ((¬ a1 = (-1 : Int32) → P (.inl none) h) ∧ (a1 = (-1 : Int32) → P (.inr "java/lang/IndexOutOfBoundsException") h))
  refine ⟨fun c1 => ?_, fun c1 => ?_⟩
  · skip
    exact hP none (by unfold v_B_checkHead; simp only [if_neg c1])
  · skip
    exact hP (some "java/lang/IndexOutOfBoundsException") (by unfold v_B_checkHead; simp only [if_pos c1])
theorem ok_B_checkHead {l : Launch} (hl : l.stackTraces = false) (e1 e2 : List Sh) (k : Nat) : am_Ok l (WB ++ e1) (RO ++ e2) (d_B_checkHead k) := by
  refine am_met hl (own := RX5) (M := m_B_checkHead) rfl pf_B_checkHead cu_B_checkHead rfl rfl rfl rfl (fun _ => rfl) rfl ⟨chk_B_checkHead, (am_n), (am_n), (am_n), (am_n)⟩ (am_c (th_B_checkHead_5) am_n) (am_n) ?_ (fun z => nomatch z) ?_
  · intro _ as h hg
    show g_pre (g_B_checkHead (WB ++ e1) (RO ++ e2) as h)
    unfold g_B_checkHead
    split <;> exact trivial
  · intro as h hg hp
    revert hg hp
    show g_ok (g_B_checkHead (WB ++ e1) (RO ++ e2) as h) = true → g_pre (g_B_checkHead (WB ++ e1) (RO ++ e2) as h) → _ ∧ am_Ev m_B_checkHead (WB ++ e1) (RO ++ e2) (am_eq (g_B_checkHead (WB ++ e1) (RO ++ e2) as h)) (0, am_ent as 1, [], h)
    unfold g_B_checkHead
    split
    · rename_i a1
      intro hc hp
      exact ⟨Nat.le_of_ble_eq_true rfl, ev_B_checkHead h a1 eqRVT⟩
    · exact fun z => nomatch z
def k_B_blockOf (pc : Nat) : Ent := bif Nat.ble 125 pc then am_nop else bif Nat.ble 80 pc then (bif Nat.ble 102 pc then (bif Nat.ble 112 pc then (bif Nat.ble 117 pc then (bif Nat.ble 121 pc then (bif Nat.ble 124 pc then (bif Nat.beq pc 124 then (.ireturn, 0, 0, []) else am_nop) else (bif Nat.beq pc 121 then (.invokevirtual 255, 0, 0, []) else am_nop)) else (bif Nat.ble 120 pc then (bif Nat.beq pc 120 then (.iload_n 3, 0, 3, []) else am_nop) else (bif Nat.beq pc 117 then (.getfield 31, 0, 0, []) else am_nop))) else (bif Nat.ble 115 pc then (bif Nat.ble 116 pc then (bif Nat.beq pc 116 then (.aload_n 0, 0, 0, []) else am_nop) else (bif Nat.beq pc 115 then (.ireturn, 0, 0, []) else am_nop)) else (bif Nat.beq pc 112 then (.invokevirtual 252, 0, 0, []) else am_nop))) else (bif Nat.ble 107 pc then (bif Nat.ble 108 pc then (bif Nat.ble 111 pc then (bif Nat.beq pc 111 then (.iload_n 3, 0, 3, []) else am_nop) else (bif Nat.beq pc 108 then (.getfield 31, 0, 0, []) else am_nop)) else (bif Nat.beq pc 107 then (.aload_n 0, 0, 0, []) else am_nop)) else (bif Nat.ble 103 pc then (bif Nat.ble 106 pc then (bif Nat.beq pc 106 then (.ireturn, 0, 0, []) else am_nop) else (bif Nat.beq pc 103 then (.invokevirtual 249, 0, 0, []) else am_nop)) else (bif Nat.beq pc 102 then (.iload_n 3, 0, 3, []) else am_nop)))) else (bif Nat.ble 92 pc then (bif Nat.ble 97 pc then (bif Nat.ble 98 pc then (bif Nat.ble 99 pc then (bif Nat.beq pc 99 then (.getfield 10, 0, 0, []) else am_nop) else (bif Nat.beq pc 98 then (.aload_n 0, 0, 0, []) else am_nop)) else (bif Nat.beq pc 97 then (.ireturn, 0, 0, []) else am_nop)) else (bif Nat.ble 93 pc then (bif Nat.ble 96 pc then (bif Nat.beq pc 96 then (.isub, 0, 0, []) else am_nop) else (bif Nat.beq pc 93 then (.invokevirtual 246, 0, 0, []) else am_nop)) else (bif Nat.beq pc 92 then (.iload_n 3, 0, 3, []) else am_nop))) else (bif Nat.ble 85 pc then (bif Nat.ble 88 pc then (bif Nat.ble 89 pc then (bif Nat.beq pc 89 then (.getfield 10, 0, 0, []) else am_nop) else (bif Nat.beq pc 88 then (.aload_n 0, 0, 0, []) else am_nop)) else (bif Nat.beq pc 85 then (.invokevirtual 243, 0, 0, []) else am_nop)) else (bif Nat.ble 81 pc then (bif Nat.ble 84 pc then (bif Nat.beq pc 84 then (.iload_n 3, 0, 3, []) else am_nop) else (bif Nat.beq pc 81 then (.getfield 10, 0, 0, []) else am_nop)) else (bif Nat.beq pc 80 then (.aload_n 0, 0, 0, []) else am_nop))))) else (bif Nat.ble 21 pc then (bif Nat.ble 67 pc then (bif Nat.ble 72 pc then (bif Nat.ble 76 pc then (bif Nat.ble 79 pc then (bif Nat.beq pc 79 then (.ireturn, 0, 0, []) else am_nop) else (bif Nat.beq pc 76 then (.invokevirtual 243, 0, 0, []) else am_nop)) else (bif Nat.ble 75 pc then (bif Nat.beq pc 75 then (.iload_n 3, 0, 3, []) else am_nop) else (bif Nat.beq pc 72 then (.getfield 10, 0, 0, []) else am_nop))) else (bif Nat.ble 70 pc then (bif Nat.ble 71 pc then (bif Nat.beq pc 71 then (.aload_n 0, 0, 0, []) else am_nop) else (bif Nat.beq pc 70 then (.ireturn, 0, 0, []) else am_nop)) else (bif Nat.beq pc 67 then (.invokevirtual 240, 0, 0, []) else am_nop))) else (bif Nat.ble 62 pc then (bif Nat.ble 63 pc then (bif Nat.ble 66 pc then (bif Nat.beq pc 66 then (.iload_n 3, 0, 3, []) else am_nop) else (bif Nat.beq pc 63 then (.getfield 10, 0, 0, []) else am_nop)) else (bif Nat.beq pc 62 then (.aload_n 0, 0, 0, []) else am_nop)) else (bif Nat.ble 60 pc then (bif Nat.ble 61 pc then (bif Nat.beq pc 61 then (.ireturn, 0, 0, []) else am_nop) else (bif Nat.beq pc 60 then (.iload_n 3, 0, 3, []) else am_nop)) else (bif Nat.beq pc 21 then (.tableswitch 95 0 5 #[39, 41, 50, 59, 77, 86], 0, 116, [(0, 60), (1, 62), (2, 71), (3, 80), (4, 98), (5, 107)]) else am_nop)))) else (bif Nat.ble 10 pc then (bif Nat.ble 15 pc then (bif Nat.ble 17 pc then (bif Nat.ble 20 pc then (bif Nat.beq pc 20 then (.iload_n 2, 0, 2, []) else am_nop) else (bif Nat.beq pc 17 then (.invokestatic 68, 0, 0, []) else am_nop)) else (bif Nat.beq pc 15 then (.bipush 6, 6, 0, []) else am_nop)) else (bif Nat.ble 13 pc then (bif Nat.ble 14 pc then (bif Nat.beq pc 14 then (.iconst 0, 0, 0, []) else am_nop) else (bif Nat.beq pc 13 then (.iload_n 2, 0, 2, []) else am_nop)) else (bif Nat.beq pc 10 then (.invokestatic 237, 0, 0, []) else am_nop))) else (bif Nat.ble 5 pc then (bif Nat.ble 8 pc then (bif Nat.ble 9 pc then (bif Nat.beq pc 9 then (.iload_n 3, 0, 3, []) else am_nop) else (bif Nat.beq pc 8 then (.istore_n 3, 0, 3, []) else am_nop)) else (bif Nat.beq pc 5 then (.invokevirtual 234, 0, 0, []) else am_nop)) else (bif Nat.ble 1 pc then (bif Nat.ble 4 pc then (bif Nat.beq pc 4 then (.iload_n 1, 0, 1, []) else am_nop) else (bif Nat.beq pc 1 then (.getfield 10, 0, 0, []) else am_nop)) else (bif Nat.beq pc 0 then (.aload_n 0, 0, 0, []) else am_nop)))))
theorem fl_B_31 : am_fok RX5 31 (5, 3) := ⟨RX5, TX5, 10, rfl, by decide, rfl, Or.inl (am_tb 194 (by decide +kernel) rfl)⟩
theorem lk_B_234 : am_lnk RX5 234 (d_T_headOf 24) := ⟨⟨by decide, by decide⟩, am_tb 2 (by decide +kernel) rfl, Or.inr ⟨by decide, rfl, am_tb 700 (by decide +kernel) rfl, am_tp 56 (by decide +kernel) rfl, ⟨TX4, 15, rfl⟩, Or.inr ⟨"BusBlocks", am_tb 698 (by decide +kernel) rfl⟩⟩⟩
theorem lk_B_237 : am_lnk RX5 237 (d_B_checkHead 0) := ⟨⟨by decide, by decide⟩, am_tb 1 (by decide +kernel) rfl, Or.inl ⟨by decide, rfl, am_tb 703 (by decide +kernel) rfl, Or.inl ⟨by decide, am_tb 702 (by decide +kernel) rfl⟩⟩⟩
theorem lk_B_240 : am_lnk RX5 240 (d_T_tripsFrom 24) := ⟨⟨by decide, by decide⟩, am_tb 2 (by decide +kernel) rfl, Or.inr ⟨by decide, rfl, am_tb 708 (by decide +kernel) rfl, am_tp 57 (by decide +kernel) rfl, ⟨TX4, 15, rfl⟩, Or.inr ⟨"BusBlocks", am_tb 706 (by decide +kernel) rfl⟩⟩⟩
theorem lk_B_243 : am_lnk RX5 243 (d_T_spanFrom 24) := ⟨⟨by decide, by decide⟩, am_tb 2 (by decide +kernel) rfl, Or.inr ⟨by decide, rfl, am_tb 712 (by decide +kernel) rfl, am_tp 58 (by decide +kernel) rfl, ⟨TX4, 15, rfl⟩, Or.inr ⟨"BusBlocks", am_tb 710 (by decide +kernel) rfl⟩⟩⟩
theorem lk_B_246 : am_lnk RX5 246 (d_T_drivenFrom 24) := ⟨⟨by decide, by decide⟩, am_tb 2 (by decide +kernel) rfl, Or.inr ⟨by decide, rfl, am_tb 720 (by decide +kernel) rfl, am_tp 60 (by decide +kernel) rfl, ⟨TX4, 15, rfl⟩, Or.inr ⟨"BusBlocks", am_tb 718 (by decide +kernel) rfl⟩⟩⟩
theorem lk_B_249 : am_lnk RX5 249 (d_T_routeChangesFrom 24) := ⟨⟨by decide, by decide⟩, am_tb 2 (by decide +kernel) rfl, Or.inr ⟨by decide, rfl, am_tb 724 (by decide +kernel) rfl, am_tp 61 (by decide +kernel) rfl, ⟨TX4, 15, rfl⟩, Or.inr ⟨"BusBlocks", am_tb 722 (by decide +kernel) rfl⟩⟩⟩
theorem lk_B_252 : am_lnk RX5 252 (d_U_fewestForward 21) := ⟨⟨by decide, by decide⟩, am_tb 4 (by decide +kernel) rfl, Or.inr ⟨by decide, rfl, am_tb 492 (by decide +kernel) rfl, am_tp 32 (by decide +kernel) rfl, ⟨TX1, 2, rfl⟩, Or.inr ⟨"BusBlocks", am_tb 726 (by decide +kernel) rfl⟩⟩⟩
theorem lk_B_255 : am_lnk RX5 255 (d_U_fewestBackward 21) := ⟨⟨by decide, by decide⟩, am_tb 4 (by decide +kernel) rfl, Or.inr ⟨by decide, rfl, am_tb 729 (by decide +kernel) rfl, am_tp 62 (by decide +kernel) rfl, ⟨TX1, 2, rfl⟩, Or.inr ⟨"BusBlocks", am_tb 727 (by decide +kernel) rfl⟩⟩⟩
def m_B_blockOf : MI := (k_B_blockOf, [(10, 5, 0), (31, 5, 3)], [(68, d_B_checkRange 0), (234, d_T_headOf 24), (237, d_B_checkHead 0), (240, d_T_tripsFrom 24), (243, d_T_spanFrom 24), (246, d_T_drivenFrom 24), (249, d_T_routeChangesFrom 24), (252, d_U_fewestForward 21), (255, d_U_fewestBackward 21)], [], [], [], [], 7, 114, some .int, fun _ => 0, 1)
def v_B_blockOf (h : HP) (a1 : Int32) (a2 : Int32) : String ⊕ (Int32 × HP) := (match v_B_checkHead h (v_T_headOf h a1) with | some E => (.inl E) | none => (match v_B_checkRange h a2 0 6 with | some E => (.inl E) | none => (if a2 = 0 then (.inr ((v_T_headOf h a1), h)) else (if a2 = 1 then (.inr ((v_T_tripsFrom h (v_T_headOf h a1)), h)) else (if a2 = 2 then (.inr ((v_T_spanFrom h (v_T_headOf h a1)), h)) else (if a2 = 3 then (.inr (((v_T_spanFrom h (v_T_headOf h a1)) - (v_T_drivenFrom h (v_T_headOf h a1))), h)) else (if a2 = 4 then (.inr ((v_T_routeChangesFrom h (v_T_headOf h a1)), h)) else (if a2 = 5 then (.inr ((v_U_fewestForward h (v_T_headOf h a1)), h)) else (bnd (v_U_fewestBackward h (v_T_headOf h a1)) fun y1 => (.inr (y1.1, y1.2)))))))))))
def p_B_blockOf (h : HP) (a1 : Int32) (a2 : Int32) : Prop := ((p_T_headOf h a1) ∧ (v_B_checkHead h (v_T_headOf h a1) = none → (v_B_checkRange h a2 0 6 = none → ((a2 = 0 → True) ∧ (¬ a2 = 0 → ((a2 = 1 → (p_T_tripsFrom h (v_T_headOf h a1))) ∧ (¬ a2 = 1 → ((a2 = 2 → (p_T_spanFrom h (v_T_headOf h a1))) ∧ (¬ a2 = 2 → ((a2 = 3 → ((p_T_spanFrom h (v_T_headOf h a1)) ∧ (p_T_drivenFrom h (v_T_headOf h a1)))) ∧ (¬ a2 = 3 → ((a2 = 4 → (p_T_routeChangesFrom h (v_T_headOf h a1))) ∧ (¬ a2 = 4 → ((a2 = 5 → (p_U_fewestForward h (v_T_headOf h a1))) ∧ (¬ a2 = 5 → (p_U_fewestBackward h (v_T_headOf h a1)))))))))))))))))
def g_B_blockOf (_ _ : List Sh) (as : List Value) (h : HP) : GR := match as with
  | [.ref o1, .int a1, .int a2] => (Nat.beq o1 38, p_B_blockOf h a1 a2, rthr (v_B_blockOf h a1 a2), rvIW (v_B_blockOf h a1 a2), rhpI h (v_B_blockOf h a1 a2))
  | _ => bad h
def d_B_blockOf (k : Nat) : CD := (k, yX5_blockOf, cX5_blockOf, 4, some .int, 3, 7, 114, 0, true, true, g_B_blockOf)
theorem chk_B_blockOf : ∀ pc, am_chk cX5_blockOf k_B_blockOf pc = true := am_chkall 125 (by decide +kernel) (fun pc h => by unfold k_B_blockOf; rw [Nat.ble_eq_true_of_le h]; rfl)
theorem pf_B_blockOf : plainFor yX5_blockOf = true := by decide +kernel
theorem cu_B_blockOf : Cond.code yX5_blockOf cX5_blockOf 4 (some .int) ∈ am_U := am_tb 697 (by decide +kernel) rfl
set_option maxRecDepth 100000 in
theorem ev_B_blockOf {e1 e2 : List Sh} {P : AR → HP → Prop} (h : HP) (a1 : Int32) (a2 : Int32) (hp : p_B_blockOf h a1 a2) (hP : ∀ q, v_B_blockOf h a1 a2 = q → RIWT P h q) : am_Ev m_B_blockOf (WB ++ e1) (RO ++ e2) P (0, [.ref 38, .int a1, .int a2, .retAddr 0], [], h) := by
  unfold p_B_blockOf at hp
  refine am_Ev_G [13] 400 _ ?_
  show ((p_T_headOf h a1) ∧ ((∀ E, v_B_checkHead h (v_T_headOf h a1) = some E → P (.inr E) h) ∧ (v_B_checkHead h (v_T_headOf h a1) = none → am_Ev m_B_blockOf (WB ++ e1) (RO ++ e2) P (13, [.ref 38, .int a1, .int a2, .int (v_T_headOf h a1)], [], h))))
  obtain ⟨hob, hp⟩ := hp
  refine ⟨hob, ?_⟩
  refine ⟨fun E c1 => ?_, fun c1 => ?_⟩
  · skip
    exact hP (.inl E) (by unfold v_B_blockOf; simp only [c1])
  · have hp := hp c1
    refine am_Ev_G [20] 400 _ ?_
    show ((∀ E, v_B_checkRange h a2 0 6 = some E → P (.inr E) h) ∧ (v_B_checkRange h a2 0 6 = none → am_Ev m_B_blockOf (WB ++ e1) (RO ++ e2) P (20, [.ref 38, .int a1, .int a2, .int (v_T_headOf h a1)], [], h)))
    refine ⟨fun E c2 => ?_, fun c2 => ?_⟩
    · skip
      exact hP (.inl E) (by unfold v_B_blockOf; simp only [c1, c2])
    · have hp := hp c2
      refine am_Ev_G [70, 88, 106, 124] 400 _ ?_
      show ((a2 = 0 → P (.inl (some (.int (v_T_headOf h a1)))) h) ∧ (¬ a2 = 0 → ((a2 = 1 → ((p_T_tripsFrom h (v_T_headOf h a1)) ∧ am_Ev m_B_blockOf (WB ++ e1) (RO ++ e2) P (70, [.ref 38, .int a1, .int a2, .int (v_T_headOf h a1)], [.int (v_T_tripsFrom h (v_T_headOf h a1))], h))) ∧ (¬ a2 = 1 → ((a2 = 2 → ((p_T_spanFrom h (v_T_headOf h a1)) ∧ P (.inl (some (.int (v_T_spanFrom h (v_T_headOf h a1))))) h)) ∧ (¬ a2 = 2 → ((a2 = 3 → ((p_T_spanFrom h (v_T_headOf h a1)) ∧ am_Ev m_B_blockOf (WB ++ e1) (RO ++ e2) P (88, [.ref 38, .int a1, .int a2, .int (v_T_headOf h a1)], [.int (v_T_spanFrom h (v_T_headOf h a1))], h))) ∧ (¬ a2 = 3 → ((a2 = 4 → ((p_T_routeChangesFrom h (v_T_headOf h a1)) ∧ am_Ev m_B_blockOf (WB ++ e1) (RO ++ e2) P (106, [.ref 38, .int a1, .int a2, .int (v_T_headOf h a1)], [.int (v_T_routeChangesFrom h (v_T_headOf h a1))], h))) ∧ (¬ a2 = 4 → ((a2 = 5 → ((p_U_fewestForward h (v_T_headOf h a1)) ∧ P (.inl (some (.int (v_U_fewestForward h (v_T_headOf h a1))))) h)) ∧ (¬ a2 = 5 → ((p_U_fewestBackward h (v_T_headOf h a1)) ∧ am_Ev m_B_blockOf (WB ++ e1) (RO ++ e2) P (124, [.ref 38, .int a1, .int a2, .int (v_T_headOf h a1)], [.int ((v_U_fewestBackward h (v_T_headOf h a1)).1)], ((v_U_fewestBackward h (v_T_headOf h a1)).2)))))))))))))))
      refine ⟨fun c3 => ?_, fun c3 => ?_⟩
      · skip
        exact hP (.inr ((v_T_headOf h a1), h)) (by unfold v_B_blockOf; simp only [c1, c2, if_pos c3])
      · have hp := hp.2 c3
        refine ⟨fun c4 => ?_, fun c4 => ?_⟩
        · have hp := hp.1 c4
          refine ⟨hp, ?_⟩
          refine am_Ev_G [] 400 _ ?_
          show P (.inl (some (.int (v_T_tripsFrom h (v_T_headOf h a1))))) h
          exact hP (.inr ((v_T_tripsFrom h (v_T_headOf h a1)), h)) (by unfold v_B_blockOf; simp only [c1, c2, if_neg c3, if_pos c4])
        · have hp := hp.2 c4
          refine ⟨fun c5 => ?_, fun c5 => ?_⟩
          · have hp := hp.1 c5
            refine ⟨hp, ?_⟩
            exact hP (.inr ((v_T_spanFrom h (v_T_headOf h a1)), h)) (by unfold v_B_blockOf; simp only [c1, c2, if_neg c3, if_neg c4, if_pos c5])
          · have hp := hp.2 c5
            refine ⟨fun c6 => ?_, fun c6 => ?_⟩
            · have hp := hp.1 c6
              obtain ⟨hob, hp⟩ := hp
              refine ⟨hob, ?_⟩
              refine am_Ev_G [] 400 _ ?_
              show ((p_T_drivenFrom h (v_T_headOf h a1)) ∧ P (.inl (some (.int ((v_T_spanFrom h (v_T_headOf h a1)) - (v_T_drivenFrom h (v_T_headOf h a1)))))) h)
              refine ⟨hp, ?_⟩
              exact hP (.inr (((v_T_spanFrom h (v_T_headOf h a1)) - (v_T_drivenFrom h (v_T_headOf h a1))), h)) (by unfold v_B_blockOf; simp only [c1, c2, if_neg c3, if_neg c4, if_neg c5, if_pos c6])
            · have hp := hp.2 c6
              refine ⟨fun c7 => ?_, fun c7 => ?_⟩
              · have hp := hp.1 c7
                refine ⟨hp, ?_⟩
                refine am_Ev_G [] 400 _ ?_
                show P (.inl (some (.int (v_T_routeChangesFrom h (v_T_headOf h a1))))) h
                exact hP (.inr ((v_T_routeChangesFrom h (v_T_headOf h a1)), h)) (by unfold v_B_blockOf; simp only [c1, c2, if_neg c3, if_neg c4, if_neg c5, if_neg c6, if_pos c7])
              · have hp := hp.2 c7
                refine ⟨fun c8 => ?_, fun c8 => ?_⟩
                · have hp := hp.1 c8
                  refine ⟨hp, ?_⟩
                  exact hP (.inr ((v_U_fewestForward h (v_T_headOf h a1)), h)) (by unfold v_B_blockOf; simp only [c1, c2, if_neg c3, if_neg c4, if_neg c5, if_neg c6, if_neg c7, if_pos c8])
                · have hp := hp.2 c8
                  refine ⟨hp, ?_⟩
                  obtain ⟨y1, c9⟩ : ∃ y, v_U_fewestBackward h (v_T_headOf h a1) = y := ⟨_, rfl⟩
                  rw [c9]
                  show am_Ev m_B_blockOf (WB ++ e1) (RO ++ e2) P (124, [.ref 38, .int a1, .int a2, .int (v_T_headOf h a1)], [.int y1.1], y1.2)
                  refine am_Ev_G [] 400 _ ?_
                  show P (.inl (some (.int y1.1))) y1.2
                  exact hP (.inr (y1.1, y1.2)) (by unfold v_B_blockOf; simp only [c1, c2, if_neg c3, if_neg c4, if_neg c5, if_neg c6, if_neg c7, if_neg c8, bnd, c9])
theorem ok_B_blockOf {l : Launch} (hl : l.stackTraces = false) (e1 e2 : List Sh) (k : Nat) : am_Ok l (WB ++ e1) (RO ++ e2) (d_B_blockOf k) := by
  refine am_met hl (own := RX5) (M := m_B_blockOf) rfl pf_B_blockOf cu_B_blockOf rfl rfl rfl rfl (fun _ => rfl) rfl ⟨chk_B_blockOf, (am_c (fl_B_10) (am_c (fl_B_31) am_n)), (am_c (lk_B_68) (am_c (lk_B_234) (am_c (lk_B_237) (am_c (lk_B_240) (am_c (lk_B_243) (am_c (lk_B_246) (am_c (lk_B_249) (am_c (lk_B_252) (am_c (lk_B_255) am_n))))))))), (am_n), (am_n)⟩ (am_n) (am_c (ok_B_checkRange hl e1 _ 0) (am_c (ok_T_headOf hl (W21b ++ (WBb ++ e1)) _ 24) (am_c (ok_B_checkHead hl e1 _ 0) (am_c (ok_T_tripsFrom hl (W21b ++ (WBb ++ e1)) _ 24) (am_c (ok_T_spanFrom hl (W21b ++ (WBb ++ e1)) _ 24) (am_c (ok_T_drivenFrom hl (W21b ++ (WBb ++ e1)) _ 24) (am_c (ok_T_routeChangesFrom hl (W21b ++ (WBb ++ e1)) _ 24) (am_c (ok_U_fewestForward hl (WBb ++ e1) _ 21) (am_c (ok_U_fewestBackward hl (WBb ++ e1) _ 21) am_n))))))))) (fun z => nomatch z) (fun z => nomatch z) ?_
  · intro as h hg hp
    revert hg hp
    show g_ok (g_B_blockOf (WB ++ e1) (RO ++ e2) as h) = true → g_pre (g_B_blockOf (WB ++ e1) (RO ++ e2) as h) → _ ∧ am_Ev m_B_blockOf (WB ++ e1) (RO ++ e2) (am_eq (g_B_blockOf (WB ++ e1) (RO ++ e2) as h)) (0, am_ent as 4, [], h)
    unfold g_B_blockOf
    split
    · rename_i o1 a1 a2
      intro hc hp
      change (Nat.beq o1 38) = true at hc
      obtain rfl := am_beq hc
      exact ⟨Nat.le_of_ble_eq_true rfl, ev_B_blockOf h a1 a2 hp eqRIWT⟩
    · exact fun z => nomatch z
def k_B_duty (pc : Nat) : Ent := bif Nat.ble 129 pc then am_nop else bif Nat.ble 52 pc then (bif Nat.ble 102 pc then (bif Nat.ble 115 pc then (bif Nat.ble 122 pc then (bif Nat.ble 127 pc then (bif Nat.ble 128 pc then (bif Nat.beq pc 128 then (.ireturn, 0, 0, []) else am_nop) else (bif Nat.beq pc 127 then (.isub, 0, 0, []) else am_nop)) else (bif Nat.ble 124 pc then (bif Nat.beq pc 124 then (.invokestatic 78, 0, 0, []) else am_nop) else (bif Nat.beq pc 122 then (.iload 5, 0, 5, []) else am_nop))) else (bif Nat.ble 116 pc then (bif Nat.ble 119 pc then (bif Nat.beq pc 119 then (.getfield 113, 0, 0, []) else am_nop) else (bif Nat.beq pc 116 then (.getfield 10, 0, 0, []) else am_nop)) else (bif Nat.beq pc 115 then (.aload_n 0, 0, 0, []) else am_nop))) else (bif Nat.ble 106 pc then (bif Nat.ble 110 pc then (bif Nat.ble 112 pc then (bif Nat.beq pc 112 then (.invokevirtual 221, 0, 0, []) else am_nop) else (bif Nat.beq pc 110 then (.iload 6, 0, 6, []) else am_nop)) else (bif Nat.ble 107 pc then (bif Nat.beq pc 107 then (.getfield 10, 0, 0, []) else am_nop) else (bif Nat.beq pc 106 then (.aload_n 0, 0, 0, []) else am_nop))) else (bif Nat.ble 103 pc then (bif Nat.ble 105 pc then (bif Nat.beq pc 105 then (.ireturn, 0, 0, []) else am_nop) else (bif Nat.beq pc 103 then (.iload 6, 0, 6, []) else am_nop)) else (bif Nat.beq pc 102 then (.ireturn, 0, 0, []) else am_nop)))) else (bif Nat.ble 64 pc then (bif Nat.ble 72 pc then (bif Nat.ble 75 pc then (bif Nat.ble 100 pc then (bif Nat.beq pc 100 then (.iload 5, 0, 5, []) else am_nop) else (bif Nat.beq pc 75 then (.lookupswitch 31 #[(0, 25), (1, 28)], 0, 106, [(0, 100), (1, 103)]) else am_nop)) else (bif Nat.ble 74 pc then (bif Nat.beq pc 74 then (.iload_n 3, 0, 3, []) else am_nop) else (bif Nat.beq pc 72 then (.istore 6, 0, 6, []) else am_nop))) else (bif Nat.ble 67 pc then (bif Nat.ble 69 pc then (bif Nat.beq pc 69 then (.invokevirtual 263, 0, 0, []) else am_nop) else (bif Nat.beq pc 67 then (.iload 5, 0, 5, []) else am_nop)) else (bif Nat.beq pc 64 then (.getfield 31, 0, 0, []) else am_nop))) else (bif Nat.ble 58 pc then (bif Nat.ble 61 pc then (bif Nat.ble 63 pc then (bif Nat.beq pc 63 then (.aload_n 0, 0, 0, []) else am_nop) else (bif Nat.beq pc 61 then (.istore 5, 0, 5, []) else am_nop)) else (bif Nat.beq pc 58 then (.invokevirtual 260, 0, 0, []) else am_nop)) else (bif Nat.ble 55 pc then (bif Nat.ble 57 pc then (bif Nat.beq pc 57 then (.iload_n 2, 0, 2, []) else am_nop) else (bif Nat.beq pc 55 then (.iload 4, 0, 4, []) else am_nop)) else (bif Nat.beq pc 52 then (.getfield 31, 0, 0, []) else am_nop))))) else (bif Nat.ble 29 pc then (bif Nat.ble 40 pc then (bif Nat.ble 46 pc then (bif Nat.ble 50 pc then (bif Nat.ble 51 pc then (bif Nat.beq pc 51 then (.aload_n 0, 0, 0, []) else am_nop) else (bif Nat.beq pc 50 then (.ireturn, 0, 0, []) else am_nop)) else (bif Nat.ble 49 pc then (bif Nat.beq pc 49 then (.iconst (-1), (-1 : Int32), 0, []) else am_nop) else (bif Nat.beq pc 46 then (.if_icmp .gt 5, 0, 51, []) else am_nop))) else (bif Nat.ble 42 pc then (bif Nat.ble 45 pc then (bif Nat.beq pc 45 then (.iload_n 2, 0, 2, []) else am_nop) else (bif Nat.beq pc 42 then (.invokevirtual 252, 0, 0, []) else am_nop)) else (bif Nat.beq pc 40 then (.iload 4, 0, 4, []) else am_nop))) else (bif Nat.ble 32 pc then (bif Nat.ble 36 pc then (bif Nat.ble 37 pc then (bif Nat.beq pc 37 then (.getfield 31, 0, 0, []) else am_nop) else (bif Nat.beq pc 36 then (.aload_n 0, 0, 0, []) else am_nop)) else (bif Nat.ble 33 pc then (bif Nat.beq pc 33 then (.invokestatic 68, 0, 0, []) else am_nop) else (bif Nat.beq pc 32 then (.iconst 2, 2, 0, []) else am_nop))) else (bif Nat.ble 30 pc then (bif Nat.ble 31 pc then (bif Nat.beq pc 31 then (.iconst 0, 0, 0, []) else am_nop) else (bif Nat.beq pc 30 then (.iload_n 3, 0, 3, []) else am_nop)) else (bif Nat.beq pc 29 then (.athrow, 0, 0, []) else am_nop)))) else (bif Nat.ble 12 pc then (bif Nat.ble 19 pc then (bif Nat.ble 23 pc then (bif Nat.ble 26 pc then (bif Nat.beq pc 26 then (.invokespecial 180, 0, 0, []) else am_nop) else (bif Nat.beq pc 23 then (.ldc_w 258, 0, 0, []) else am_nop)) else (bif Nat.ble 22 pc then (bif Nat.beq pc 22 then (.dup, 0, 0, []) else am_nop) else (bif Nat.beq pc 19 then (.new 176, 0, 0, []) else am_nop))) else (bif Nat.ble 15 pc then (bif Nat.ble 16 pc then (bif Nat.beq pc 16 then (.ifCond .ge 14, 0, 30, []) else am_nop) else (bif Nat.beq pc 15 then (.iload_n 2, 0, 2, []) else am_nop)) else (bif Nat.beq pc 12 then (.invokestatic 237, 0, 0, []) else am_nop))) else (bif Nat.ble 5 pc then (bif Nat.ble 8 pc then (bif Nat.ble 10 pc then (bif Nat.beq pc 10 then (.iload 4, 0, 4, []) else am_nop) else (bif Nat.beq pc 8 then (.istore 4, 0, 4, []) else am_nop)) else (bif Nat.beq pc 5 then (.invokevirtual 234, 0, 0, []) else am_nop)) else (bif Nat.ble 1 pc then (bif Nat.ble 4 pc then (bif Nat.beq pc 4 then (.iload_n 1, 0, 1, []) else am_nop) else (bif Nat.beq pc 1 then (.getfield 10, 0, 0, []) else am_nop)) else (bif Nat.beq pc 0 then (.aload_n 0, 0, 0, []) else am_nop)))))
theorem lk_B_260 : am_lnk RX5 260 (d_U_firstOfDuty 21) := ⟨⟨by decide, by decide⟩, am_tb 4 (by decide +kernel) rfl, Or.inr ⟨by decide, rfl, am_tb 744 (by decide +kernel) rfl, am_tp 64 (by decide +kernel) rfl, ⟨TX1, 2, rfl⟩, Or.inr ⟨"BusBlocks", am_tb 742 (by decide +kernel) rfl⟩⟩⟩
theorem lk_B_263 : am_lnk RX5 263 (d_U_lastOfDuty 21) := ⟨⟨by decide, by decide⟩, am_tb 4 (by decide +kernel) rfl, Or.inr ⟨by decide, rfl, am_tb 496 (by decide +kernel) rfl, am_tp 33 (by decide +kernel) rfl, ⟨TX1, 2, rfl⟩, Or.inr ⟨"BusBlocks", am_tb 746 (by decide +kernel) rfl⟩⟩⟩
def m_B_duty : MI := (k_B_duty, [(10, 5, 0), (31, 5, 3), (113, 4, 3)], [(68, d_B_checkRange 0), (78, d_B_at 0), (221, d_T_arrivalOf 24), (234, d_T_headOf 24), (237, d_B_checkHead 0), (252, d_U_fewestForward 21), (260, d_U_firstOfDuty 21), (263, d_U_lastOfDuty 21)], [], [], [(19, "java/lang/IllegalArgumentException")], [], 7, 114, some .int, fun _ => 0, 1)
def v_B_duty (h : HP) (a1 : Int32) (a2 : Int32) (a3 : Int32) : String ⊕ Int32 := (match v_B_checkHead h (v_T_headOf h a1) with | some E => (.inl E) | none => (if a2 < 0 then (.inl "java/lang/IllegalArgumentException") else (match v_B_checkRange h a3 0 2 with | some E => (.inl E) | none => (if (v_U_fewestForward h (v_T_headOf h a1)) ≤ a2 then (.inr (-1 : Int32)) else (if a3 = 0 then (.inr (v_U_firstOfDuty h (v_T_headOf h a1) a2)) else (if a3 = 1 then (.inr (v_U_lastOfDuty h (v_U_firstOfDuty h (v_T_headOf h a1) a2))) else (.inr ((v_T_arrivalOf h (v_U_lastOfDuty h (v_U_firstOfDuty h (v_T_headOf h a1) a2))) - (v_at 20 (h.1 4) (v_U_firstOfDuty h (v_T_headOf h a1) a2))))))))))
def p_B_duty (h : HP) (a1 : Int32) (a2 : Int32) (a3 : Int32) : Prop := ((p_T_headOf h a1) ∧ (v_B_checkHead h (v_T_headOf h a1) = none → ((a2 < 0 → True) ∧ (¬ a2 < 0 → (v_B_checkRange h a3 0 2 = none → ((p_U_fewestForward h (v_T_headOf h a1)) ∧ (((v_U_fewestForward h (v_T_headOf h a1)) ≤ a2 → True) ∧ (¬ (v_U_fewestForward h (v_T_headOf h a1)) ≤ a2 → ((p_U_firstOfDuty h (v_T_headOf h a1) a2) ∧ (p_U_lastOfDuty h (v_U_firstOfDuty h (v_T_headOf h a1) a2)))))))))))
def g_B_duty (_ _ : List Sh) (as : List Value) (h : HP) : GR := match as with
  | [.ref o1, .int a1, .int a2, .int a3] => (Nat.beq o1 38, p_B_duty h a1 a2 a3, rthr (v_B_duty h a1 a2 a3), rvI (v_B_duty h a1 a2 a3), h)
  | _ => bad h
def d_B_duty (k : Nat) : CD := (k, yX5_duty, cX5_duty, 7, some .int, 4, 7, 114, 0, true, true, g_B_duty)
theorem chk_B_duty : ∀ pc, am_chk cX5_duty k_B_duty pc = true := am_chkall 129 (by decide +kernel) (fun pc h => by unfold k_B_duty; rw [Nat.ble_eq_true_of_le h]; rfl)
theorem pf_B_duty : plainFor yX5_duty = true := by decide +kernel
theorem cu_B_duty : Cond.code yX5_duty cX5_duty 7 (some .int) ∈ am_U := am_tb 740 (by decide +kernel) rfl
theorem th_B_duty_19 : am_thok "BusBlocks" cX5_duty m_B_duty 19 "java/lang/IllegalArgumentException" := ex_th (ik := 176) (ic := 180) (is := 258) (text := "the rank is below 0") ex_fA exw_IAE (by decide +kernel) (Nat.le_of_ble_eq_true rfl) (Nat.le_of_ble_eq_true rfl) (by decide +kernel) (by decide +kernel) (Or.inr ⟨by decide +kernel, by decide +kernel, by decide +kernel⟩)
set_option maxRecDepth 100000 in
theorem ev_B_duty {e1 e2 : List Sh} {P : AR → HP → Prop} (h : HP) (a1 : Int32) (a2 : Int32) (a3 : Int32) (hp : p_B_duty h a1 a2 a3) (hP : ∀ q, v_B_duty h a1 a2 a3 = q → RIT P h q) : am_Ev m_B_duty (WB ++ e1) (RO ++ e2) P (0, [.ref 38, .int a1, .int a2, .int a3, .retAddr 0, .retAddr 0, .retAddr 0], [], h) := by
  unfold p_B_duty at hp
  refine am_Ev_G [15] 400 _ ?_
  show ((p_T_headOf h a1) ∧ ((∀ E, v_B_checkHead h (v_T_headOf h a1) = some E → P (.inr E) h) ∧ (v_B_checkHead h (v_T_headOf h a1) = none → am_Ev m_B_duty (WB ++ e1) (RO ++ e2) P (15, [.ref 38, .int a1, .int a2, .int a3, .int (v_T_headOf h a1), .retAddr 0, .retAddr 0], [], h))))
  obtain ⟨hob, hp⟩ := hp
  refine ⟨hob, ?_⟩
  refine ⟨fun E c1 => ?_, fun c1 => ?_⟩
  · skip
    exact hP (.inl E) (by unfold v_B_duty; simp only [c1])
  · have hp := hp c1
    refine am_Ev_G [36] 400 _ ?_
    show ((¬ a2 < 0 → ((∀ E, v_B_checkRange h a3 0 2 = some E → P (.inr E) h) ∧ (v_B_checkRange h a3 0 2 = none → am_Ev m_B_duty (WB ++ e1) (RO ++ e2) P (36, [.ref 38, .int a1, .int a2, .int a3, .int (v_T_headOf h a1), .retAddr 0, .retAddr 0], [], h)))) ∧ (a2 < 0 → P (.inr "java/lang/IllegalArgumentException") h))
    refine ⟨fun c2 => ?_, fun c2 => ?_⟩
    · have hp := hp.2 c2
      refine ⟨fun E c3 => ?_, fun c3 => ?_⟩
      · skip
        exact hP (.inl E) (by unfold v_B_duty; simp only [c1, if_neg c2, c3])
      · have hp := hp c3
        refine am_Ev_G [45] 400 _ ?_
        show ((p_U_fewestForward h (v_T_headOf h a1)) ∧ am_Ev m_B_duty (WB ++ e1) (RO ++ e2) P (45, [.ref 38, .int a1, .int a2, .int a3, .int (v_T_headOf h a1), .retAddr 0, .retAddr 0], [.int (v_U_fewestForward h (v_T_headOf h a1))], h))
        obtain ⟨hob, hp⟩ := hp
        refine ⟨hob, ?_⟩
        refine am_Ev_G [61] 400 _ ?_
        show ((¬ (v_U_fewestForward h (v_T_headOf h a1)) ≤ a2 → ((p_U_firstOfDuty h (v_T_headOf h a1) a2) ∧ am_Ev m_B_duty (WB ++ e1) (RO ++ e2) P (61, [.ref 38, .int a1, .int a2, .int a3, .int (v_T_headOf h a1), .retAddr 0, .retAddr 0], [.int (v_U_firstOfDuty h (v_T_headOf h a1) a2)], h))) ∧ ((v_U_fewestForward h (v_T_headOf h a1)) ≤ a2 → P (.inl (some (.int (-1 : Int32)))) h))
        refine ⟨fun c4 => ?_, fun c4 => ?_⟩
        · have hp := hp.2 c4
          obtain ⟨hob, hp⟩ := hp
          refine ⟨hob, ?_⟩
          refine am_Ev_G [115] 400 _ ?_
          show ((p_U_lastOfDuty h (v_U_firstOfDuty h (v_T_headOf h a1) a2)) ∧ ((a3 = 0 → P (.inl (some (.int (v_U_firstOfDuty h (v_T_headOf h a1) a2)))) h) ∧ (¬ a3 = 0 → ((a3 = 1 → P (.inl (some (.int (v_U_lastOfDuty h (v_U_firstOfDuty h (v_T_headOf h a1) a2))))) h) ∧ (¬ a3 = 1 → am_Ev m_B_duty (WB ++ e1) (RO ++ e2) P (115, [.ref 38, .int a1, .int a2, .int a3, .int (v_T_headOf h a1), .int (v_U_firstOfDuty h (v_T_headOf h a1) a2), .int (v_U_lastOfDuty h (v_U_firstOfDuty h (v_T_headOf h a1) a2))], [.int (v_T_arrivalOf h (v_U_lastOfDuty h (v_U_firstOfDuty h (v_T_headOf h a1) a2)))], h))))))
          refine ⟨hp, ?_⟩
          refine ⟨fun c5 => ?_, fun c5 => ?_⟩
          · skip
            exact hP (.inr (v_U_firstOfDuty h (v_T_headOf h a1) a2)) (by unfold v_B_duty; simp only [c1, if_neg c2, c3, if_neg c4, if_pos c5])
          · skip
            refine ⟨fun c6 => ?_, fun c6 => ?_⟩
            · skip
              exact hP (.inr (v_U_lastOfDuty h (v_U_firstOfDuty h (v_T_headOf h a1) a2))) (by unfold v_B_duty; simp only [c1, if_neg c2, c3, if_neg c4, if_neg c5, if_pos c6])
            · skip
              refine am_Ev_G [] 400 _ ?_
              show P (.inl (some (.int ((v_T_arrivalOf h (v_U_lastOfDuty h (v_U_firstOfDuty h (v_T_headOf h a1) a2))) - (v_at 20 (h.1 4) (v_U_firstOfDuty h (v_T_headOf h a1) a2)))))) h
              exact hP (.inr ((v_T_arrivalOf h (v_U_lastOfDuty h (v_U_firstOfDuty h (v_T_headOf h a1) a2))) - (v_at 20 (h.1 4) (v_U_firstOfDuty h (v_T_headOf h a1) a2)))) (by unfold v_B_duty; simp only [c1, if_neg c2, c3, if_neg c4, if_neg c5, if_neg c6])
        · skip
          exact hP (.inr (-1 : Int32)) (by unfold v_B_duty; simp only [c1, if_neg c2, c3, if_pos c4])
    · skip
      exact hP (.inl "java/lang/IllegalArgumentException") (by unfold v_B_duty; simp only [c1, if_pos c2])
theorem ok_B_duty {l : Launch} (hl : l.stackTraces = false) (e1 e2 : List Sh) (k : Nat) : am_Ok l (WB ++ e1) (RO ++ e2) (d_B_duty k) := by
  refine am_met hl (own := RX5) (M := m_B_duty) rfl pf_B_duty cu_B_duty rfl rfl rfl rfl (fun _ => rfl) rfl ⟨chk_B_duty, (am_c (fl_B_10) (am_c (fl_B_31) (am_c (fl_B_113) am_n))), (am_c (lk_B_68) (am_c (lk_B_78) (am_c (lk_B_221) (am_c (lk_B_234) (am_c (lk_B_237) (am_c (lk_B_252) (am_c (lk_B_260) (am_c (lk_B_263) am_n)))))))), (am_n), (am_n)⟩ (am_c (th_B_duty_19) am_n) (am_c (ok_B_checkRange hl e1 _ 0) (am_c (ok_B_at hl _ _ 0) (am_c (ok_T_arrivalOf hl (W21b ++ (WBb ++ e1)) _ 24) (am_c (ok_T_headOf hl (W21b ++ (WBb ++ e1)) _ 24) (am_c (ok_B_checkHead hl e1 _ 0) (am_c (ok_U_fewestForward hl (WBb ++ e1) _ 21) (am_c (ok_U_firstOfDuty hl (WBb ++ e1) _ 21) (am_c (ok_U_lastOfDuty hl (WBb ++ e1) _ 21) am_n)))))))) (fun z => nomatch z) (fun z => nomatch z) ?_
  · intro as h hg hp
    revert hg hp
    show g_ok (g_B_duty (WB ++ e1) (RO ++ e2) as h) = true → g_pre (g_B_duty (WB ++ e1) (RO ++ e2) as h) → _ ∧ am_Ev m_B_duty (WB ++ e1) (RO ++ e2) (am_eq (g_B_duty (WB ++ e1) (RO ++ e2) as h)) (0, am_ent as 7, [], h)
    unfold g_B_duty
    split
    · rename_i o1 a1 a2 a3
      intro hc hp
      change (Nat.beq o1 38) = true at hc
      obtain rfl := am_beq hc
      exact ⟨Nat.le_of_ble_eq_true rfl, ev_B_duty h a1 a2 a3 hp eqRIT⟩
    · exact fun z => nomatch z
end
