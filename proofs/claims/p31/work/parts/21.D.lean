/-! Deficits, out of its code (written by gen/meth.py). -/
noncomputable section
def k_D_keyOf (pc : Nat) : Ent := bif Nat.ble 24 pc then am_nop else bif Nat.ble 11 pc then (bif Nat.ble 18 pc then (bif Nat.ble 22 pc then (bif Nat.ble 23 pc then (bif Nat.beq pc 23 then (.ireturn, 0, 0, []) else am_nop) else (bif Nat.beq pc 22 then (.iadd, 0, 0, []) else am_nop)) else (bif Nat.ble 21 pc then (bif Nat.beq pc 21 then (.iconst 0, 0, 0, []) else am_nop) else (bif Nat.beq pc 18 then (.goto 4, 0, 22, []) else am_nop))) else (bif Nat.ble 14 pc then (bif Nat.ble 17 pc then (bif Nat.beq pc 17 then (.iload_n 1, 0, 1, []) else am_nop) else (bif Nat.beq pc 14 then (.ifCond .ne 7, 0, 21, []) else am_nop)) else (bif Nat.beq pc 11 then (.invokestatic 44, 0, 0, []) else am_nop))) else (bif Nat.ble 3 pc then (bif Nat.ble 7 pc then (bif Nat.ble 10 pc then (bif Nat.beq pc 10 then (.iconst 0, 0, 0, []) else am_nop) else (bif Nat.beq pc 7 then (.getfield 83, 0, 0, []) else am_nop)) else (bif Nat.ble 4 pc then (bif Nat.beq pc 4 then (.getfield 11, 0, 0, []) else am_nop) else (bif Nat.beq pc 3 then (.aload_n 0, 0, 0, []) else am_nop))) else (bif Nat.ble 1 pc then (bif Nat.ble 2 pc then (bif Nat.beq pc 2 then (.imul, 0, 0, []) else am_nop) else (bif Nat.beq pc 1 then (.iconst 4, 4, 0, []) else am_nop)) else (bif Nat.beq pc 0 then (.iload_n 2, 0, 2, []) else am_nop)))
theorem fl_D_11 : am_fok RX0 11 (0, 0) := ⟨RX0, TX0, 6, rfl, by decide, rfl, Or.inl (am_tb 123 (by decide +kernel) rfl)⟩
theorem fl_D_83 : am_fok RX0 83 (4, 10) := ⟨RX4, TX4, 15, rfl, by decide, rfl, Or.inr ⟨"BusBlocks", am_tb 74 (by decide +kernel) rfl⟩⟩
theorem lk_D_44 : am_lnk RX0 44 (d_B_at 1) := ⟨⟨by decide, by decide⟩, am_tb 1 (by decide +kernel) rfl, Or.inl ⟨by decide, rfl, am_tb 361 (by decide +kernel) rfl, Or.inr ⟨rfl, "BusBlocks", am_tb 433 (by decide +kernel) rfl⟩⟩⟩
def m_D_keyOf : MI := (k_D_keyOf, [(11, 0, 0), (83, 4, 10)], [(44, d_B_at 1)], [], [], [], [], 1, 23, some .int, fun _ => 0, 1)
def v_D_keyOf (h : HP) (a1 : Int32) (a2 : Int32) : Int32 := ((a2 * 4) + (if (v_at 4 (h.1 11) 0) = 0 then a1 else 0))
def g_D_keyOf (_ _ : List Sh) (as : List Value) (h : HP) : GR := match as with
  | [.ref o1, .int a1, .int a2] => (Nat.beq o1 12, True, none, some (.int (v_D_keyOf h a1 a2)), h)
  | _ => bad h
def d_D_keyOf (k : Nat) : CD := (k, yX0_keyOf, cX0_keyOf, 3, some .int, 3, 1, 23, 0, false, false, g_D_keyOf)
theorem chk_D_keyOf : ∀ pc, am_chk cX0_keyOf k_D_keyOf pc = true := am_chkall 24 (by decide +kernel) (fun pc h => by unfold k_D_keyOf; rw [Nat.ble_eq_true_of_le h]; rfl)
theorem pf_D_keyOf : plainFor yX0_keyOf = true := by decide +kernel
theorem cu_D_keyOf : Cond.code yX0_keyOf cX0_keyOf 3 (some .int) ∈ am_U := am_tb 441 (by decide +kernel) rfl
set_option maxRecDepth 100000 in
theorem ev_D_keyOf {e1 ro : List Sh} {P : AR → HP → Prop} (h : HP) (a1 : Int32) (a2 : Int32) (hP : ∀ q, v_D_keyOf h a1 a2 = q → RI P h q) : am_Ev m_D_keyOf (WW ++ e1) ro P (0, [.ref 12, .int a1, .int a2], [], h) := by
  refine am_Ev_G [14] 400 _ ?_
  show am_Ev m_D_keyOf (WW ++ e1) ro P (14, [.ref 12, .int a1, .int a2], [.int (v_at 4 (h.1 11) 0), .int (a2 * 4)], h)
  have key1 : am_Ev m_D_keyOf (WW ++ e1) ro P (22, [.ref 12, .int a1, .int a2], [.int (if (v_at 4 (h.1 11) 0) = 0 then a1 else 0), .int (a2 * 4)], h) := by
    refine am_Ev_G [] 400 _ ?_
    show P (.inl (some (.int ((a2 * 4) + (if (v_at 4 (h.1 11) 0) = 0 then a1 else 0))))) h
    exact hP ((a2 * 4) + (if (v_at 4 (h.1 11) 0) = 0 then a1 else 0)) rfl
  refine am_Ev_G [22] 400 _ ?_
  show ((¬ (v_at 4 (h.1 11) 0) = 0 → am_Ev m_D_keyOf (WW ++ e1) ro P (22, [.ref 12, .int a1, .int a2], [.int 0, .int (a2 * 4)], h)) ∧ ((v_at 4 (h.1 11) 0) = 0 → am_Ev m_D_keyOf (WW ++ e1) ro P (22, [.ref 12, .int a1, .int a2], [.int a1, .int (a2 * 4)], h)))
  refine ⟨fun c2 => ?_, fun c2 => ?_⟩
  · skip
    simpa only [if_neg c2] using key1
  · skip
    simpa only [if_pos c2] using key1
theorem ok_D_keyOf {l : Launch} (hl : l.stackTraces = false) (e1 ro : List Sh) (k : Nat) : am_Ok l (WW ++ e1) ro (d_D_keyOf k) := by
  refine am_met hl (own := RX0) (M := m_D_keyOf) rfl pf_D_keyOf cu_D_keyOf rfl rfl rfl rfl (fun _ => rfl) rfl ⟨chk_D_keyOf, (am_c (fl_D_11) (am_c (fl_D_83) am_n)), (am_c (lk_D_44) am_n), (am_n), (am_n)⟩ (am_n) (am_c (ok_B_at hl _ _ 1) am_n) ?_ ?_ ?_
  · intro _ as h hg
    show g_pre (g_D_keyOf (WW ++ e1) ro as h)
    unfold g_D_keyOf
    split <;> exact trivial
  · intro _ as h hg
    show g_thr (g_D_keyOf (WW ++ e1) ro as h) = none
    unfold g_D_keyOf
    split <;> rfl
  · intro as h hg hp
    revert hg hp
    show g_ok (g_D_keyOf (WW ++ e1) ro as h) = true → g_pre (g_D_keyOf (WW ++ e1) ro as h) → _ ∧ am_Ev m_D_keyOf (WW ++ e1) ro (am_eq (g_D_keyOf (WW ++ e1) ro as h)) (0, am_ent as 3, [], h)
    unfold g_D_keyOf
    split
    · rename_i o1 a1 a2
      intro hc hp
      change (Nat.beq o1 12) = true at hc
      obtain rfl := am_beq hc
      exact ⟨Nat.le_of_ble_eq_true rfl, ev_D_keyOf h a1 a2 eqRI⟩
    · exact fun z => nomatch z
def k_D_leavingEvent (pc : Nat) : Ent := bif Nat.ble 15 pc then am_nop else bif Nat.ble 7 pc then (bif Nat.ble 10 pc then (bif Nat.ble 13 pc then (bif Nat.ble 14 pc then (bif Nat.beq pc 14 then (.ireturn, 0, 0, []) else am_nop) else (bif Nat.beq pc 13 then (.iadd, 0, 0, []) else am_nop)) else (bif Nat.beq pc 10 then (.invokevirtual 76, 0, 0, []) else am_nop)) else (bif Nat.ble 8 pc then (bif Nat.ble 9 pc then (bif Nat.beq pc 9 then (.iload_n 2, 0, 2, []) else am_nop) else (bif Nat.beq pc 8 then (.iload_n 1, 0, 1, []) else am_nop)) else (bif Nat.beq pc 7 then (.aload_n 0, 0, 0, []) else am_nop))) else (bif Nat.ble 3 pc then (bif Nat.ble 4 pc then (bif Nat.ble 6 pc then (bif Nat.beq pc 6 then (.iadd, 0, 0, []) else am_nop) else (bif Nat.beq pc 4 then (.bipush 16, 16, 0, []) else am_nop)) else (bif Nat.beq pc 3 then (.imul, 0, 0, []) else am_nop)) else (bif Nat.ble 1 pc then (bif Nat.beq pc 1 then (.bipush 32, 32, 0, []) else am_nop) else (bif Nat.beq pc 0 then (.iload_n 3, 0, 3, []) else am_nop)))
theorem lk_D_76 : am_lnk RX0 76 (d_D_keyOf 10) := ⟨⟨by decide, by decide⟩, am_tb 3 (by decide +kernel) rfl, Or.inr ⟨by decide, rfl, am_tb 440 (by decide +kernel) rfl, am_tp 21 (by decide +kernel) rfl, ⟨TX0, 6, rfl⟩, Or.inl (am_tb 438 (by decide +kernel) rfl)⟩⟩
def m_D_leavingEvent : MI := (k_D_leavingEvent, [], [(76, d_D_keyOf 10)], [], [], [], [], 2, 47, some .int, fun _ => 0, 1)
def v_D_leavingEvent (h : HP) (a1 : Int32) (a2 : Int32) (a3 : Int32) : Int32 := (((a3 * 32) + 16) + (v_D_keyOf h a1 a2))
def g_D_leavingEvent (_ _ : List Sh) (as : List Value) (h : HP) : GR := match as with
  | [.ref o1, .int a1, .int a2, .int a3] => (Nat.beq o1 12, True, none, some (.int (v_D_leavingEvent h a1 a2 a3)), h)
  | _ => bad h
def d_D_leavingEvent (k : Nat) : CD := (k, yX0_leavingEvent, cX0_leavingEvent, 4, some .int, 4, 2, 47, 0, false, false, g_D_leavingEvent)
theorem chk_D_leavingEvent : ∀ pc, am_chk cX0_leavingEvent k_D_leavingEvent pc = true := am_chkall 15 (by decide +kernel) (fun pc h => by unfold k_D_leavingEvent; rw [Nat.ble_eq_true_of_le h]; rfl)
theorem pf_D_leavingEvent : plainFor yX0_leavingEvent = true := by decide +kernel
theorem cu_D_leavingEvent : Cond.code yX0_leavingEvent cX0_leavingEvent 4 (some .int) ∈ am_U := am_tb 437 (by decide +kernel) rfl
set_option maxRecDepth 100000 in
theorem ev_D_leavingEvent {e1 ro : List Sh} {P : AR → HP → Prop} (h : HP) (a1 : Int32) (a2 : Int32) (a3 : Int32) (hP : ∀ q, v_D_leavingEvent h a1 a2 a3 = q → RI P h q) : am_Ev m_D_leavingEvent (WW ++ e1) ro P (0, [.ref 12, .int a1, .int a2, .int a3], [], h) := by
  refine am_Ev_G [13] 400 _ ?_
  show am_Ev m_D_leavingEvent (WW ++ e1) ro P (13, [.ref 12, .int a1, .int a2, .int a3], [.int (v_D_keyOf h a1 a2), .int ((a3 * 32) + 16)], h)
  refine am_Ev_G [] 400 _ ?_
  show P (.inl (some (.int (((a3 * 32) + 16) + (v_D_keyOf h a1 a2))))) h
  exact hP (((a3 * 32) + 16) + (v_D_keyOf h a1 a2)) rfl
theorem ok_D_leavingEvent {l : Launch} (hl : l.stackTraces = false) (e1 ro : List Sh) (k : Nat) : am_Ok l (WW ++ e1) ro (d_D_leavingEvent k) := by
  refine am_met hl (own := RX0) (M := m_D_leavingEvent) rfl pf_D_leavingEvent cu_D_leavingEvent rfl rfl rfl rfl (fun _ => rfl) rfl ⟨chk_D_leavingEvent, (am_n), (am_c (lk_D_76) am_n), (am_n), (am_n)⟩ (am_n) (am_c (ok_D_keyOf hl e1 _ 10) am_n) ?_ ?_ ?_
  · intro _ as h hg
    show g_pre (g_D_leavingEvent (WW ++ e1) ro as h)
    unfold g_D_leavingEvent
    split <;> exact trivial
  · intro _ as h hg
    show g_thr (g_D_leavingEvent (WW ++ e1) ro as h) = none
    unfold g_D_leavingEvent
    split <;> rfl
  · intro as h hg hp
    revert hg hp
    show g_ok (g_D_leavingEvent (WW ++ e1) ro as h) = true → g_pre (g_D_leavingEvent (WW ++ e1) ro as h) → _ ∧ am_Ev m_D_leavingEvent (WW ++ e1) ro (am_eq (g_D_leavingEvent (WW ++ e1) ro as h)) (0, am_ent as 4, [], h)
    unfold g_D_leavingEvent
    split
    · rename_i o1 a1 a2 a3
      intro hc hp
      change (Nat.beq o1 12) = true at hc
      obtain rfl := am_beq hc
      exact ⟨Nat.le_of_ble_eq_true rfl, ev_D_leavingEvent h a1 a2 a3 eqRI⟩
    · exact fun z => nomatch z
def k_D_insert (pc : Nat) : Ent := bif Nat.ble 67 pc then am_nop else bif Nat.ble 32 pc then (bif Nat.ble 51 pc then (bif Nat.ble 58 pc then (bif Nat.ble 62 pc then (bif Nat.ble 63 pc then (bif Nat.ble 66 pc then (bif Nat.beq pc 66 then (.return_, 0, 0, []) else am_nop) else (bif Nat.beq pc 63 then (.putfield 25, 0, 0, []) else am_nop)) else (bif Nat.beq pc 62 then (.iadd, 0, 0, []) else am_nop)) else (bif Nat.ble 61 pc then (bif Nat.beq pc 61 then (.iconst 1, 1, 0, []) else am_nop) else (bif Nat.beq pc 58 then (.getfield 25, 0, 0, []) else am_nop))) else (bif Nat.ble 53 pc then (bif Nat.ble 56 pc then (bif Nat.ble 57 pc then (bif Nat.beq pc 57 then (.dup, 0, 0, []) else am_nop) else (bif Nat.beq pc 56 then (.aload_n 0, 0, 0, []) else am_nop)) else (bif Nat.beq pc 53 then (.invokestatic 72, 0, 0, []) else am_nop)) else (bif Nat.ble 52 pc then (bif Nat.beq pc 52 then (.iload_n 1, 0, 1, []) else am_nop) else (bif Nat.beq pc 51 then (.iload_n 2, 0, 2, []) else am_nop)))) else (bif Nat.ble 38 pc then (bif Nat.ble 44 pc then (bif Nat.ble 47 pc then (bif Nat.ble 48 pc then (bif Nat.beq pc 48 then (.getfield 15, 0, 0, []) else am_nop) else (bif Nat.beq pc 47 then (.aload_n 0, 0, 0, []) else am_nop)) else (bif Nat.beq pc 44 then (.goto (-39), 0, 5, []) else am_nop)) else (bif Nat.ble 41 pc then (bif Nat.beq pc 41 then (.iinc 2 (-1), (-1 : Int32), 2, []) else am_nop) else (bif Nat.beq pc 38 then (.invokestatic 72, 0, 0, []) else am_nop))) else (bif Nat.ble 34 pc then (bif Nat.ble 35 pc then (bif Nat.beq pc 35 then (.invokestatic 44, 0, 0, []) else am_nop) else (bif Nat.beq pc 34 then (.isub, 0, 0, []) else am_nop)) else (bif Nat.ble 33 pc then (bif Nat.beq pc 33 then (.iconst 1, 1, 0, []) else am_nop) else (bif Nat.beq pc 32 then (.iload_n 2, 0, 2, []) else am_nop))))) else (bif Nat.ble 15 pc then (bif Nat.ble 23 pc then (bif Nat.ble 27 pc then (bif Nat.ble 28 pc then (bif Nat.ble 29 pc then (bif Nat.beq pc 29 then (.getfield 15, 0, 0, []) else am_nop) else (bif Nat.beq pc 28 then (.aload_n 0, 0, 0, []) else am_nop)) else (bif Nat.beq pc 27 then (.iload_n 2, 0, 2, []) else am_nop)) else (bif Nat.ble 24 pc then (bif Nat.beq pc 24 then (.getfield 15, 0, 0, []) else am_nop) else (bif Nat.beq pc 23 then (.aload_n 0, 0, 0, []) else am_nop))) else (bif Nat.ble 19 pc then (bif Nat.ble 20 pc then (bif Nat.beq pc 20 then (.if_icmp .le 27, 0, 47, []) else am_nop) else (bif Nat.beq pc 19 then (.iload_n 1, 0, 1, []) else am_nop)) else (bif Nat.ble 16 pc then (bif Nat.beq pc 16 then (.invokestatic 44, 0, 0, []) else am_nop) else (bif Nat.beq pc 15 then (.isub, 0, 0, []) else am_nop)))) else (bif Nat.ble 6 pc then (bif Nat.ble 10 pc then (bif Nat.ble 13 pc then (bif Nat.ble 14 pc then (bif Nat.beq pc 14 then (.iconst 1, 1, 0, []) else am_nop) else (bif Nat.beq pc 13 then (.iload_n 2, 0, 2, []) else am_nop)) else (bif Nat.beq pc 10 then (.getfield 15, 0, 0, []) else am_nop)) else (bif Nat.ble 9 pc then (bif Nat.beq pc 9 then (.aload_n 0, 0, 0, []) else am_nop) else (bif Nat.beq pc 6 then (.ifCond .le 41, 0, 47, []) else am_nop))) else (bif Nat.ble 4 pc then (bif Nat.ble 5 pc then (bif Nat.beq pc 5 then (.iload_n 2, 0, 2, []) else am_nop) else (bif Nat.beq pc 4 then (.istore_n 2, 0, 2, []) else am_nop)) else (bif Nat.ble 1 pc then (bif Nat.beq pc 1 then (.getfield 25, 0, 0, []) else am_nop) else (bif Nat.beq pc 0 then (.aload_n 0, 0, 0, []) else am_nop)))))
theorem fl_D_15 : am_fok RX0 15 (0, 1) := ⟨RX0, TX0, 6, rfl, by decide, rfl, Or.inl (am_tb 124 (by decide +kernel) rfl)⟩
theorem fl_D_25 : am_fok RX0 25 (0, 4) := ⟨RX0, TX0, 6, rfl, by decide, rfl, Or.inl (am_tb 127 (by decide +kernel) rfl)⟩
theorem lk_D_72 : am_lnk RX0 72 (d_B_put 1) := ⟨⟨by decide, by decide⟩, am_tb 1 (by decide +kernel) rfl, Or.inl ⟨by decide, rfl, am_tb 342 (by decide +kernel) rfl, Or.inr ⟨rfl, "BusBlocks", am_tb 446 (by decide +kernel) rfl⟩⟩⟩
def m_D_insert : MI := (k_D_insert, [(15, 0, 1), (25, 0, 4)], [(44, d_B_at 1), (72, d_B_put 1)], [], [], [], [], 1, 24, none, fun _ => 0, 1)
def s_D_insert_5 (h : HP) (a1 : Int32) (v1 : Int32 × HP) : (Int32 × HP) ⊕ (Int32 × HP) := (if v1.1 ≤ 0 then (.inr (v1.1, v1.2)) else (if (v_at 40 (v1.2.1 13) (v1.1 - 1)) ≤ a1 then (.inr (v1.1, v1.2)) else (.inl ((v1.1 + (-1 : Int32)), (v_put 40 v1.2 13 v1.1 (v_at 40 (v1.2.1 13) (v1.1 - 1)))))))
def ps_D_insert_5 (h : HP) (a1 : Int32) (v1 : Int32 × HP) : Prop := True
def v_D_insert (h : HP) (a1 : Int32) : HP := (match itr (s_D_insert_5 h a1) NF (h.1 12 4, h) with | some r1 => (am_si (v_put 40 r1.2 13 r1.1 a1) 12 4 (((v_put 40 r1.2 13 r1.1 a1).1 12 4) + 1)) | none => h)
def p_D_insert (h : HP) (a1 : Int32) : Prop := (itrp (s_D_insert_5 h a1) (ps_D_insert_5 h a1) NF (h.1 12 4, h))
def g_D_insert (_ _ : List Sh) (as : List Value) (h : HP) : GR := match as with
  | [.ref o1, .int a1] => (Nat.beq o1 12, p_D_insert h a1, none, none, v_D_insert h a1)
  | _ => bad h
def d_D_insert (k : Nat) : CD := (k, yX0_insert, cX0_insert, 3, none, 2, 1, 24, 0, false, true, g_D_insert)
theorem chk_D_insert : ∀ pc, am_chk cX0_insert k_D_insert pc = true := am_chkall 67 (by decide +kernel) (fun pc h => by unfold k_D_insert; rw [Nat.ble_eq_true_of_le h]; rfl)
theorem pf_D_insert : plainFor yX0_insert = true := by decide +kernel
theorem cu_D_insert : Cond.code yX0_insert cX0_insert 3 (none) ∈ am_U := am_tb 445 (by decide +kernel) rfl
set_option maxRecDepth 100000 in
theorem ev_D_insert {e1 ro : List Sh} {P : AR → HP → Prop} (h : HP) (a1 : Int32) (hp : p_D_insert h a1) (hP : ∀ q, v_D_insert h a1 = q → RVW P h q) : am_Ev m_D_insert (WW ++ e1) ro P (0, [.ref 12, .int a1, .retAddr 0], [], h) := by
  unfold p_D_insert at hp
  refine am_Ev_G [5] 400 _ ?_
  show am_Ev m_D_insert (WW ++ e1) ro P (5, [.ref 12, .int a1, .int (h.1 12 4)], [], h)
  have hpl := hp
  refine am_itr (E := (fun (v1 : Int32 × HP) => am_Ev m_D_insert (WW ++ e1) ro P (5, [.ref 12, .int a1, .int v1.1], [], v1.2))) (E' := (fun (r1 : Int32 × HP) => am_Ev m_D_insert (WW ++ e1) ro P (47, [.ref 12, .int a1, .int r1.1], [], r1.2))) (s_D_insert_5 h a1) (ps_D_insert_5 h a1) ?_ NF (h.1 12 4, h) hpl ?_
  · intro v1 hp hc1 hx1
    show am_Ev m_D_insert (WW ++ e1) ro P (5, [.ref 12, .int a1, .int v1.1], [], v1.2)
    refine am_Ev_G [19, 47] 400 _ ?_
    show ((v1.1 ≤ 0 → am_Ev m_D_insert (WW ++ e1) ro P (47, [.ref 12, .int a1, .int v1.1], [], v1.2)) ∧ (¬ v1.1 ≤ 0 → am_Ev m_D_insert (WW ++ e1) ro P (19, [.ref 12, .int a1, .int v1.1], [.int (v_at 40 (v1.2.1 13) (v1.1 - 1))], v1.2)))
    refine ⟨fun c1 => ?_, fun c1 => ?_⟩
    · skip
      exact hx1 (v1.1, v1.2) (by unfold s_D_insert_5; simp only [if_pos c1])
    · skip
      refine am_Ev_G [38, 47] 400 _ ?_
      show (((v_at 40 (v1.2.1 13) (v1.1 - 1)) ≤ a1 → am_Ev m_D_insert (WW ++ e1) ro P (47, [.ref 12, .int a1, .int v1.1], [], v1.2)) ∧ (¬ (v_at 40 (v1.2.1 13) (v1.1 - 1)) ≤ a1 → am_Ev m_D_insert (WW ++ e1) ro P (38, [.ref 12, .int a1, .int v1.1], [.int (v_at 40 (v1.2.1 13) (v1.1 - 1)), .int v1.1, .ref 13], v1.2)))
      refine ⟨fun c2 => ?_, fun c2 => ?_⟩
      · skip
        exact hx1 (v1.1, v1.2) (by unfold s_D_insert_5; simp only [if_neg c1, if_pos c2])
      · skip
        refine am_Ev_G [5] 400 _ ?_
        show am_Ev m_D_insert (WW ++ e1) ro P (5, [.ref 12, .int a1, .int (v1.1 + (-1 : Int32))], [], (v_put 40 v1.2 13 v1.1 (v_at 40 (v1.2.1 13) (v1.1 - 1))))
        exact hc1 ((v1.1 + (-1 : Int32)), (v_put 40 v1.2 13 v1.1 (v_at 40 (v1.2.1 13) (v1.1 - 1)))) (by unfold s_D_insert_5; simp only [if_neg c1, if_neg c2])
  · intro r1 hr3
    show am_Ev m_D_insert (WW ++ e1) ro P (47, [.ref 12, .int a1, .int r1.1], [], r1.2)
    refine am_Ev_G [56] 400 _ ?_
    show am_Ev m_D_insert (WW ++ e1) ro P (56, [.ref 12, .int a1, .int r1.1], [], (v_put 40 r1.2 13 r1.1 a1))
    refine am_Ev_G [] 400 _ ?_
    show P (.inl none) (am_si (v_put 40 r1.2 13 r1.1 a1) 12 4 (((v_put 40 r1.2 13 r1.1 a1).1 12 4) + 1))
    exact hP (am_si (v_put 40 r1.2 13 r1.1 a1) 12 4 (((v_put 40 r1.2 13 r1.1 a1).1 12 4) + 1)) (by unfold v_D_insert; simp only [hr3])
theorem ok_D_insert {l : Launch} (hl : l.stackTraces = false) (e1 ro : List Sh) (k : Nat) : am_Ok l (WW ++ e1) ro (d_D_insert k) := by
  refine am_met hl (own := RX0) (M := m_D_insert) rfl pf_D_insert cu_D_insert rfl rfl rfl rfl (fun _ => rfl) rfl ⟨chk_D_insert, (am_c (fl_D_15) (am_c (fl_D_25) am_n)), (am_c (lk_D_44) (am_c (lk_D_72) am_n)), (am_n), (am_n)⟩ (am_n) (am_c (ok_B_at hl _ _ 1) (am_c (ok_B_put hl _ _ 1) am_n)) (fun z => nomatch z) ?_ ?_
  · intro _ as h hg
    show g_thr (g_D_insert (WW ++ e1) ro as h) = none
    unfold g_D_insert
    split <;> rfl
  · intro as h hg hp
    revert hg hp
    show g_ok (g_D_insert (WW ++ e1) ro as h) = true → g_pre (g_D_insert (WW ++ e1) ro as h) → _ ∧ am_Ev m_D_insert (WW ++ e1) ro (am_eq (g_D_insert (WW ++ e1) ro as h)) (0, am_ent as 3, [], h)
    unfold g_D_insert
    split
    · rename_i o1 a1
      intro hc hp
      change (Nat.beq o1 12) = true at hc
      obtain rfl := am_beq hc
      exact ⟨Nat.le_of_ble_eq_true rfl, ev_D_insert h a1 hp eqRVW⟩
    · exact fun z => nomatch z
def k_D_readyEvent (pc : Nat) : Ent := bif Nat.ble 24 pc then am_nop else bif Nat.ble 13 pc then (bif Nat.ble 18 pc then (bif Nat.ble 22 pc then (bif Nat.ble 23 pc then (bif Nat.beq pc 23 then (.ireturn, 0, 0, []) else am_nop) else (bif Nat.beq pc 22 then (.iadd, 0, 0, []) else am_nop)) else (bif Nat.ble 19 pc then (bif Nat.beq pc 19 then (.invokevirtual 76, 0, 0, []) else am_nop) else (bif Nat.beq pc 18 then (.iload_n 2, 0, 2, []) else am_nop))) else (bif Nat.ble 16 pc then (bif Nat.ble 17 pc then (bif Nat.beq pc 17 then (.iload_n 1, 0, 1, []) else am_nop) else (bif Nat.beq pc 16 then (.aload_n 0, 0, 0, []) else am_nop)) else (bif Nat.ble 15 pc then (bif Nat.beq pc 15 then (.imul, 0, 0, []) else am_nop) else (bif Nat.beq pc 13 then (.bipush 32, 32, 0, []) else am_nop)))) else (bif Nat.ble 5 pc then (bif Nat.ble 9 pc then (bif Nat.ble 12 pc then (bif Nat.beq pc 12 then (.iadd, 0, 0, []) else am_nop) else (bif Nat.beq pc 9 then (.invokestatic 44, 0, 0, []) else am_nop)) else (bif Nat.ble 8 pc then (bif Nat.beq pc 8 then (.iload_n 2, 0, 2, []) else am_nop) else (bif Nat.beq pc 5 then (.getfield 80, 0, 0, []) else am_nop))) else (bif Nat.ble 1 pc then (bif Nat.ble 2 pc then (bif Nat.beq pc 2 then (.getfield 11, 0, 0, []) else am_nop) else (bif Nat.beq pc 1 then (.aload_n 0, 0, 0, []) else am_nop)) else (bif Nat.beq pc 0 then (.iload_n 3, 0, 3, []) else am_nop)))
theorem fl_D_80 : am_fok RX0 80 (4, 8) := ⟨RX4, TX4, 15, rfl, by decide, rfl, Or.inr ⟨"BusBlocks", am_tb 68 (by decide +kernel) rfl⟩⟩
def m_D_readyEvent : MI := (k_D_readyEvent, [(11, 0, 0), (80, 4, 8)], [(44, d_B_at 1), (76, d_D_keyOf 10)], [], [], [], [], 2, 47, some .int, fun _ => 0, 1)
def v_D_readyEvent (h : HP) (a1 : Int32) (a2 : Int32) (a3 : Int32) : Int32 := (((a3 + (v_at 4 (h.1 9) a2)) * 32) + (v_D_keyOf h a1 a2))
def g_D_readyEvent (_ _ : List Sh) (as : List Value) (h : HP) : GR := match as with
  | [.ref o1, .int a1, .int a2, .int a3] => (Nat.beq o1 12, True, none, some (.int (v_D_readyEvent h a1 a2 a3)), h)
  | _ => bad h
def d_D_readyEvent (k : Nat) : CD := (k, yX0_readyEvent, cX0_readyEvent, 4, some .int, 4, 2, 47, 0, false, false, g_D_readyEvent)
theorem chk_D_readyEvent : ∀ pc, am_chk cX0_readyEvent k_D_readyEvent pc = true := am_chkall 24 (by decide +kernel) (fun pc h => by unfold k_D_readyEvent; rw [Nat.ble_eq_true_of_le h]; rfl)
theorem pf_D_readyEvent : plainFor yX0_readyEvent = true := by decide +kernel
theorem cu_D_readyEvent : Cond.code yX0_readyEvent cX0_readyEvent 4 (some .int) ∈ am_U := am_tb 451 (by decide +kernel) rfl
set_option maxRecDepth 100000 in
theorem ev_D_readyEvent {e1 ro : List Sh} {P : AR → HP → Prop} (h : HP) (a1 : Int32) (a2 : Int32) (a3 : Int32) (hP : ∀ q, v_D_readyEvent h a1 a2 a3 = q → RI P h q) : am_Ev m_D_readyEvent (WW ++ e1) ro P (0, [.ref 12, .int a1, .int a2, .int a3], [], h) := by
  refine am_Ev_G [22] 400 _ ?_
  show am_Ev m_D_readyEvent (WW ++ e1) ro P (22, [.ref 12, .int a1, .int a2, .int a3], [.int (v_D_keyOf h a1 a2), .int ((a3 + (v_at 4 (h.1 9) a2)) * 32)], h)
  refine am_Ev_G [] 400 _ ?_
  show P (.inl (some (.int (((a3 + (v_at 4 (h.1 9) a2)) * 32) + (v_D_keyOf h a1 a2))))) h
  exact hP (((a3 + (v_at 4 (h.1 9) a2)) * 32) + (v_D_keyOf h a1 a2)) rfl
theorem ok_D_readyEvent {l : Launch} (hl : l.stackTraces = false) (e1 ro : List Sh) (k : Nat) : am_Ok l (WW ++ e1) ro (d_D_readyEvent k) := by
  refine am_met hl (own := RX0) (M := m_D_readyEvent) rfl pf_D_readyEvent cu_D_readyEvent rfl rfl rfl rfl (fun _ => rfl) rfl ⟨chk_D_readyEvent, (am_c (fl_D_11) (am_c (fl_D_80) am_n)), (am_c (lk_D_44) (am_c (lk_D_76) am_n)), (am_n), (am_n)⟩ (am_n) (am_c (ok_B_at hl _ _ 1) (am_c (ok_D_keyOf hl e1 _ 10) am_n)) ?_ ?_ ?_
  · intro _ as h hg
    show g_pre (g_D_readyEvent (WW ++ e1) ro as h)
    unfold g_D_readyEvent
    split <;> exact trivial
  · intro _ as h hg
    show g_thr (g_D_readyEvent (WW ++ e1) ro as h) = none
    unfold g_D_readyEvent
    split <;> rfl
  · intro as h hg hp
    revert hg hp
    show g_ok (g_D_readyEvent (WW ++ e1) ro as h) = true → g_pre (g_D_readyEvent (WW ++ e1) ro as h) → _ ∧ am_Ev m_D_readyEvent (WW ++ e1) ro (am_eq (g_D_readyEvent (WW ++ e1) ro as h)) (0, am_ent as 4, [], h)
    unfold g_D_readyEvent
    split
    · rename_i o1 a1 a2 a3
      intro hc hp
      change (Nat.beq o1 12) = true at hc
      obtain rfl := am_beq hc
      exact ⟨Nat.le_of_ble_eq_true rfl, ev_D_readyEvent h a1 a2 a3 eqRI⟩
    · exact fun z => nomatch z
def k_D_gather (pc : Nat) : Ent := bif Nat.ble 112 pc then am_nop else bif Nat.ble 50 pc then (bif Nat.ble 80 pc then (bif Nat.ble 95 pc then (bif Nat.ble 102 pc then (bif Nat.ble 108 pc then (bif Nat.ble 111 pc then (bif Nat.beq pc 111 then (.return_, 0, 0, []) else am_nop) else (bif Nat.beq pc 108 then (.goto (-101), 0, 7, []) else am_nop)) else (bif Nat.ble 105 pc then (bif Nat.beq pc 105 then (.iinc 2 1, 1, 2, []) else am_nop) else (bif Nat.beq pc 102 then (.invokevirtual 58, 0, 0, []) else am_nop))) else (bif Nat.ble 96 pc then (bif Nat.ble 99 pc then (bif Nat.beq pc 99 then (.invokevirtual 69, 0, 0, []) else am_nop) else (bif Nat.beq pc 96 then (.invokevirtual 65, 0, 0, []) else am_nop)) else (bif Nat.beq pc 95 then (.iload_n 2, 0, 2, []) else am_nop))) else (bif Nat.ble 87 pc then (bif Nat.ble 91 pc then (bif Nat.ble 92 pc then (bif Nat.beq pc 92 then (.getfield 11, 0, 0, []) else am_nop) else (bif Nat.beq pc 91 then (.aload_n 0, 0, 0, []) else am_nop)) else (bif Nat.ble 88 pc then (bif Nat.beq pc 88 then (.invokestatic 44, 0, 0, []) else am_nop) else (bif Nat.beq pc 87 then (.iload_n 2, 0, 2, []) else am_nop))) else (bif Nat.ble 81 pc then (bif Nat.ble 84 pc then (bif Nat.beq pc 84 then (.getfield 62, 0, 0, []) else am_nop) else (bif Nat.beq pc 81 then (.getfield 11, 0, 0, []) else am_nop)) else (bif Nat.beq pc 80 then (.aload_n 0, 0, 0, []) else am_nop)))) else (bif Nat.ble 67 pc then (bif Nat.ble 74 pc then (bif Nat.ble 78 pc then (bif Nat.ble 79 pc then (bif Nat.beq pc 79 then (.iload_n 3, 0, 3, []) else am_nop) else (bif Nat.beq pc 78 then (.aload_n 0, 0, 0, []) else am_nop)) else (bif Nat.ble 77 pc then (bif Nat.beq pc 77 then (.aload_n 0, 0, 0, []) else am_nop) else (bif Nat.beq pc 74 then (.invokevirtual 58, 0, 0, []) else am_nop))) else (bif Nat.ble 68 pc then (bif Nat.ble 71 pc then (bif Nat.beq pc 71 then (.invokevirtual 54, 0, 0, []) else am_nop) else (bif Nat.beq pc 68 then (.invokestatic 44, 0, 0, []) else am_nop)) else (bif Nat.beq pc 67 then (.iload_n 2, 0, 2, []) else am_nop))) else (bif Nat.ble 57 pc then (bif Nat.ble 61 pc then (bif Nat.ble 64 pc then (bif Nat.beq pc 64 then (.getfield 51, 0, 0, []) else am_nop) else (bif Nat.beq pc 61 then (.getfield 11, 0, 0, []) else am_nop)) else (bif Nat.ble 60 pc then (bif Nat.beq pc 60 then (.aload_n 0, 0, 0, []) else am_nop) else (bif Nat.beq pc 57 then (.invokestatic 44, 0, 0, []) else am_nop))) else (bif Nat.ble 53 pc then (bif Nat.ble 56 pc then (bif Nat.beq pc 56 then (.iload_n 2, 0, 2, []) else am_nop) else (bif Nat.beq pc 53 then (.getfield 48, 0, 0, []) else am_nop)) else (bif Nat.beq pc 50 then (.getfield 11, 0, 0, []) else am_nop))))) else (bif Nat.ble 24 pc then (bif Nat.ble 41 pc then (bif Nat.ble 46 pc then (bif Nat.ble 48 pc then (bif Nat.ble 49 pc then (bif Nat.beq pc 49 then (.aload_n 0, 0, 0, []) else am_nop) else (bif Nat.beq pc 48 then (.iload_n 3, 0, 3, []) else am_nop)) else (bif Nat.ble 47 pc then (bif Nat.beq pc 47 then (.aload_n 0, 0, 0, []) else am_nop) else (bif Nat.beq pc 46 then (.aload_n 0, 0, 0, []) else am_nop))) else (bif Nat.ble 42 pc then (bif Nat.ble 45 pc then (bif Nat.beq pc 45 then (.istore_n 3, 0, 3, []) else am_nop) else (bif Nat.beq pc 42 then (.invokestatic 44, 0, 0, []) else am_nop)) else (bif Nat.beq pc 41 then (.iload_n 2, 0, 2, []) else am_nop))) else (bif Nat.ble 31 pc then (bif Nat.ble 35 pc then (bif Nat.ble 38 pc then (bif Nat.beq pc 38 then (.getfield 41, 0, 0, []) else am_nop) else (bif Nat.beq pc 35 then (.getfield 11, 0, 0, []) else am_nop)) else (bif Nat.ble 34 pc then (bif Nat.beq pc 34 then (.aload_n 0, 0, 0, []) else am_nop) else (bif Nat.beq pc 31 then (.ifCond .eq 74, 0, 105, []) else am_nop))) else (bif Nat.ble 27 pc then (bif Nat.ble 28 pc then (bif Nat.beq pc 28 then (.invokevirtual 37, 0, 0, []) else am_nop) else (bif Nat.beq pc 27 then (.iload_n 2, 0, 2, []) else am_nop)) else (bif Nat.beq pc 24 then (.getfield 11, 0, 0, []) else am_nop)))) else (bif Nat.ble 9 pc then (bif Nat.ble 18 pc then (bif Nat.ble 20 pc then (bif Nat.ble 23 pc then (bif Nat.beq pc 23 then (.aload_n 0, 0, 0, []) else am_nop) else (bif Nat.beq pc 20 then (.if_icmp .eq 85, 0, 105, []) else am_nop)) else (bif Nat.ble 19 pc then (bif Nat.beq pc 19 then (.iload_n 1, 0, 1, []) else am_nop) else (bif Nat.beq pc 18 then (.iload_n 2, 0, 2, []) else am_nop))) else (bif Nat.ble 12 pc then (bif Nat.ble 15 pc then (bif Nat.beq pc 15 then (.if_icmp .ge 96, 0, 111, []) else am_nop) else (bif Nat.beq pc 12 then (.getfield 32, 0, 0, []) else am_nop)) else (bif Nat.beq pc 9 then (.getfield 11, 0, 0, []) else am_nop))) else (bif Nat.ble 5 pc then (bif Nat.ble 7 pc then (bif Nat.ble 8 pc then (bif Nat.beq pc 8 then (.aload_n 0, 0, 0, []) else am_nop) else (bif Nat.beq pc 7 then (.iload_n 2, 0, 2, []) else am_nop)) else (bif Nat.ble 6 pc then (bif Nat.beq pc 6 then (.istore_n 2, 0, 2, []) else am_nop) else (bif Nat.beq pc 5 then (.iconst 0, 0, 0, []) else am_nop))) else (bif Nat.ble 1 pc then (bif Nat.ble 2 pc then (bif Nat.beq pc 2 then (.putfield 25, 0, 0, []) else am_nop) else (bif Nat.beq pc 1 then (.iconst 0, 0, 0, []) else am_nop)) else (bif Nat.beq pc 0 then (.aload_n 0, 0, 0, []) else am_nop)))))
theorem fl_D_32 : am_fok RX0 32 (4, 11) := ⟨RX4, TX4, 15, rfl, by decide, rfl, Or.inr ⟨"BusBlocks", am_tb 77 (by decide +kernel) rfl⟩⟩
theorem fl_D_41 : am_fok RX0 41 (4, 0) := ⟨RX4, TX4, 15, rfl, by decide, rfl, Or.inr ⟨"BusBlocks", am_tb 44 (by decide +kernel) rfl⟩⟩
theorem fl_D_48 : am_fok RX0 48 (4, 1) := ⟨RX4, TX4, 15, rfl, by decide, rfl, Or.inr ⟨"BusBlocks", am_tb 47 (by decide +kernel) rfl⟩⟩
theorem fl_D_51 : am_fok RX0 51 (4, 3) := ⟨RX4, TX4, 15, rfl, by decide, rfl, Or.inr ⟨"BusBlocks", am_tb 54 (by decide +kernel) rfl⟩⟩
theorem fl_D_62 : am_fok RX0 62 (4, 2) := ⟨RX4, TX4, 15, rfl, by decide, rfl, Or.inr ⟨"BusBlocks", am_tb 51 (by decide +kernel) rfl⟩⟩
theorem lk_D_37 : am_lnk RX0 37 (d_T_isRun 24) := ⟨⟨by decide, by decide⟩, am_tb 2 (by decide +kernel) rfl, Or.inr ⟨by decide, rfl, am_tb 365 (by decide +kernel) rfl, am_tp 8 (by decide +kernel) rfl, ⟨TX4, 15, rfl⟩, Or.inr ⟨"BusBlocks", am_tb 432 (by decide +kernel) rfl⟩⟩⟩
theorem lk_D_54 : am_lnk RX0 54 (d_D_leavingEvent 10) := ⟨⟨by decide, by decide⟩, am_tb 3 (by decide +kernel) rfl, Or.inr ⟨by decide, rfl, am_tb 436 (by decide +kernel) rfl, am_tp 20 (by decide +kernel) rfl, ⟨TX0, 6, rfl⟩, Or.inl (am_tb 434 (by decide +kernel) rfl)⟩⟩
theorem lk_D_58 : am_lnk RX0 58 (d_D_insert 10) := ⟨⟨by decide, by decide⟩, am_tb 3 (by decide +kernel) rfl, Or.inr ⟨by decide, rfl, am_tb 444 (by decide +kernel) rfl, am_tp 22 (by decide +kernel) rfl, ⟨TX0, 6, rfl⟩, Or.inl (am_tb 442 (by decide +kernel) rfl)⟩⟩
theorem lk_D_65 : am_lnk RX0 65 (d_T_arrivalOf 24) := ⟨⟨by decide, by decide⟩, am_tb 2 (by decide +kernel) rfl, Or.inr ⟨by decide, rfl, am_tb 381 (by decide +kernel) rfl, am_tp 12 (by decide +kernel) rfl, ⟨TX4, 15, rfl⟩, Or.inr ⟨"BusBlocks", am_tb 447 (by decide +kernel) rfl⟩⟩⟩
theorem lk_D_69 : am_lnk RX0 69 (d_D_readyEvent 10) := ⟨⟨by decide, by decide⟩, am_tb 3 (by decide +kernel) rfl, Or.inr ⟨by decide, rfl, am_tb 450 (by decide +kernel) rfl, am_tp 23 (by decide +kernel) rfl, ⟨TX0, 6, rfl⟩, Or.inl (am_tb 448 (by decide +kernel) rfl)⟩⟩
def m_D_gather : MI := (k_D_gather, [(11, 0, 0), (25, 0, 4), (32, 4, 11), (41, 4, 0), (48, 4, 1), (51, 4, 3), (62, 4, 2)], [(37, d_T_isRun 24), (44, d_B_at 1), (54, d_D_leavingEvent 10), (58, d_D_insert 10), (65, d_T_arrivalOf 24), (69, d_D_readyEvent 10)], [], [], [], [], 3, 72, none, fun _ => 0, 1)
def s_D_gather_7 (h : HP) (a1 : Int32) (v1 : Int32 × HP) : (Int32 × HP) ⊕ (Int32 × HP) := (if v1.1 < (v1.2.1 0 11) then (if v1.1 = a1 then (.inl ((v1.1 + 1), v1.2)) else (if (v_T_isRun v1.2 v1.1) = 0 then (.inl ((v1.1 + 1), v1.2)) else (bnd (v_D_insert v1.2 (v_D_leavingEvent v1.2 (v_at 20 (v1.2.1 1) v1.1) (v_at 20 (v1.2.1 2) v1.1) (v_at 20 (v1.2.1 4) v1.1))) fun y2 => (bnd (v_D_insert y2 (v_D_readyEvent y2 (v_at 20 (v1.2.1 1) v1.1) (v_at 20 (y2.1 3) v1.1) (v_T_arrivalOf y2 v1.1))) fun y3 => (.inl ((v1.1 + 1), y3)))))) else (.inr (v1.1, v1.2)))
def ps_D_gather_7 (h : HP) (a1 : Int32) (v1 : Int32 × HP) : Prop := ((v1.1 < (v1.2.1 0 11) → ((v1.1 = a1 → True) ∧ (¬ v1.1 = a1 → (((v_T_isRun v1.2 v1.1) = 0 → True) ∧ (¬ (v_T_isRun v1.2 v1.1) = 0 → ((p_D_insert v1.2 (v_D_leavingEvent v1.2 (v_at 20 (v1.2.1 1) v1.1) (v_at 20 (v1.2.1 2) v1.1) (v_at 20 (v1.2.1 4) v1.1))) ∧ (∀ y2, v_D_insert v1.2 (v_D_leavingEvent v1.2 (v_at 20 (v1.2.1 1) v1.1) (v_at 20 (v1.2.1 2) v1.1) (v_at 20 (v1.2.1 4) v1.1)) = y2 → (p_D_insert y2 (v_D_readyEvent y2 (v_at 20 (v1.2.1 1) v1.1) (v_at 20 (y2.1 3) v1.1) (v_T_arrivalOf y2 v1.1)))))))))) ∧ (¬ v1.1 < (v1.2.1 0 11) → True))
def v_D_gather (h : HP) (a1 : Int32) : HP := (match itr (s_D_gather_7 h a1) NF (0, (am_si h 12 4 0)) with | some r1 => r1.2 | none => h)
def p_D_gather (h : HP) (a1 : Int32) : Prop := (itrp (s_D_gather_7 h a1) (ps_D_gather_7 h a1) NF (0, (am_si h 12 4 0)))
def g_D_gather (_ _ : List Sh) (as : List Value) (h : HP) : GR := match as with
  | [.ref o1, .int a1] => (Nat.beq o1 12, p_D_gather h a1, none, none, v_D_gather h a1)
  | _ => bad h
def d_D_gather (k : Nat) : CD := (k, yX0_gather, cX0_gather, 4, none, 2, 3, 72, 0, false, true, g_D_gather)
theorem chk_D_gather : ∀ pc, am_chk cX0_gather k_D_gather pc = true := am_chkall 112 (by decide +kernel) (fun pc h => by unfold k_D_gather; rw [Nat.ble_eq_true_of_le h]; rfl)
theorem pf_D_gather : plainFor yX0_gather = true := by decide +kernel
theorem cu_D_gather : Cond.code yX0_gather cX0_gather 4 (none) ∈ am_U := am_tb 431 (by decide +kernel) rfl
set_option maxRecDepth 100000 in
theorem ev_D_gather {e1 ro : List Sh} {P : AR → HP → Prop} (h : HP) (a1 : Int32) (hp : p_D_gather h a1) (hP : ∀ q, v_D_gather h a1 = q → RVW P h q) : am_Ev m_D_gather (WW ++ e1) ro P (0, [.ref 12, .int a1, .retAddr 0, .retAddr 0], [], h) := by
  unfold p_D_gather at hp
  refine am_Ev_G [7] 400 _ ?_
  show am_Ev m_D_gather (WW ++ e1) ro P (7, [.ref 12, .int a1, .int 0, .retAddr 0], [], (am_si h 12 4 0))
  have hpl := hp
  refine am_itr (E := (fun (v1 : Int32 × HP) => am_Ev m_D_gather (WW ++ e1) ro P (7, [.ref 12, .int a1, .int v1.1, .retAddr 0], [], v1.2))) (E' := (fun (r1 : Int32 × HP) => am_Ev m_D_gather (WW ++ e1) ro P (111, [.ref 12, .int a1, .int r1.1, .retAddr 0], [], r1.2))) (s_D_gather_7 h a1) (ps_D_gather_7 h a1) ?_ NF (0, (am_si h 12 4 0)) hpl ?_
  · intro v1 hp hc1 hx1
    show am_Ev m_D_gather (WW ++ e1) ro P (7, [.ref 12, .int a1, .int v1.1, .retAddr 0], [], v1.2)
    unfold ps_D_gather_7 at hp
    refine am_Ev_G [27, 105, 111] 400 _ ?_
    show ((¬ v1.1 < (v1.2.1 0 11) → am_Ev m_D_gather (WW ++ e1) ro P (111, [.ref 12, .int a1, .int v1.1, .retAddr 0], [], v1.2)) ∧ (v1.1 < (v1.2.1 0 11) → ((v1.1 = a1 → am_Ev m_D_gather (WW ++ e1) ro P (105, [.ref 12, .int a1, .int v1.1, .retAddr 0], [], v1.2)) ∧ (¬ v1.1 = a1 → am_Ev m_D_gather (WW ++ e1) ro P (27, [.ref 12, .int a1, .int v1.1, .retAddr 0], [.ref 0], v1.2)))))
    refine ⟨fun c1 => ?_, fun c1 => ?_⟩
    · skip
      exact hx1 (v1.1, v1.2) (by unfold s_D_gather_7; simp only [if_neg c1])
    · have hp := hp.1 c1
      refine ⟨fun c2 => ?_, fun c2 => ?_⟩
      · skip
        refine am_Ev_G [7] 400 _ ?_
        show am_Ev m_D_gather (WW ++ e1) ro P (7, [.ref 12, .int a1, .int (v1.1 + 1), .retAddr 0], [], v1.2)
        exact hc1 ((v1.1 + 1), v1.2) (by unfold s_D_gather_7; simp only [if_pos c1, if_pos c2])
      · have hp := hp.2 c2
        refine am_Ev_G [45, 105] 400 _ ?_
        show (((v_T_isRun v1.2 v1.1) = 0 → am_Ev m_D_gather (WW ++ e1) ro P (105, [.ref 12, .int a1, .int v1.1, .retAddr 0], [], v1.2)) ∧ (¬ (v_T_isRun v1.2 v1.1) = 0 → am_Ev m_D_gather (WW ++ e1) ro P (45, [.ref 12, .int a1, .int v1.1, .retAddr 0], [.int (v_at 20 (v1.2.1 1) v1.1)], v1.2)))
        refine ⟨fun c3 => ?_, fun c3 => ?_⟩
        · skip
          refine am_Ev_G [7] 400 _ ?_
          show am_Ev m_D_gather (WW ++ e1) ro P (7, [.ref 12, .int a1, .int (v1.1 + 1), .retAddr 0], [], v1.2)
          exact hc1 ((v1.1 + 1), v1.2) (by unfold s_D_gather_7; simp only [if_pos c1, if_neg c2, if_pos c3])
        · have hp := hp.2 c3
          refine am_Ev_G [60] 400 _ ?_
          show am_Ev m_D_gather (WW ++ e1) ro P (60, [.ref 12, .int a1, .int v1.1, .int (v_at 20 (v1.2.1 1) v1.1)], [.int (v_at 20 (v1.2.1 2) v1.1), .int (v_at 20 (v1.2.1 1) v1.1), .ref 12, .ref 12], v1.2)
          refine am_Ev_G [77] 400 _ ?_
          show ((p_D_insert v1.2 (v_D_leavingEvent v1.2 (v_at 20 (v1.2.1 1) v1.1) (v_at 20 (v1.2.1 2) v1.1) (v_at 20 (v1.2.1 4) v1.1))) ∧ am_Ev m_D_gather (WW ++ e1) ro P (77, [.ref 12, .int a1, .int v1.1, .int (v_at 20 (v1.2.1 1) v1.1)], [], (v_D_insert v1.2 (v_D_leavingEvent v1.2 (v_at 20 (v1.2.1 1) v1.1) (v_at 20 (v1.2.1 2) v1.1) (v_at 20 (v1.2.1 4) v1.1)))))
          obtain ⟨hob, hp⟩ := hp
          refine ⟨hob, ?_⟩
          obtain ⟨y2, c4⟩ : ∃ y, v_D_insert v1.2 (v_D_leavingEvent v1.2 (v_at 20 (v1.2.1 1) v1.1) (v_at 20 (v1.2.1 2) v1.1) (v_at 20 (v1.2.1 4) v1.1)) = y := ⟨_, rfl⟩
          rw [c4]
          have hp := hp _ c4
          show am_Ev m_D_gather (WW ++ e1) ro P (77, [.ref 12, .int a1, .int v1.1, .int (v_at 20 (v1.2.1 1) v1.1)], [], y2)
          refine am_Ev_G [91] 400 _ ?_
          show am_Ev m_D_gather (WW ++ e1) ro P (91, [.ref 12, .int a1, .int v1.1, .int (v_at 20 (v1.2.1 1) v1.1)], [.int (v_at 20 (y2.1 3) v1.1), .int (v_at 20 (v1.2.1 1) v1.1), .ref 12, .ref 12], y2)
          refine am_Ev_G [105] 400 _ ?_
          show ((p_D_insert y2 (v_D_readyEvent y2 (v_at 20 (v1.2.1 1) v1.1) (v_at 20 (y2.1 3) v1.1) (v_T_arrivalOf y2 v1.1))) ∧ am_Ev m_D_gather (WW ++ e1) ro P (105, [.ref 12, .int a1, .int v1.1, .int (v_at 20 (v1.2.1 1) v1.1)], [], (v_D_insert y2 (v_D_readyEvent y2 (v_at 20 (v1.2.1 1) v1.1) (v_at 20 (y2.1 3) v1.1) (v_T_arrivalOf y2 v1.1)))))
          refine ⟨hp, ?_⟩
          obtain ⟨y3, c5⟩ : ∃ y, v_D_insert y2 (v_D_readyEvent y2 (v_at 20 (v1.2.1 1) v1.1) (v_at 20 (y2.1 3) v1.1) (v_T_arrivalOf y2 v1.1)) = y := ⟨_, rfl⟩
          rw [c5]
          show am_Ev m_D_gather (WW ++ e1) ro P (105, [.ref 12, .int a1, .int v1.1, .int (v_at 20 (v1.2.1 1) v1.1)], [], y3)
          refine am_Ev_G [7] 400 _ ?_
          show am_Ev m_D_gather (WW ++ e1) ro P (7, [.ref 12, .int a1, .int (v1.1 + 1), .int (v_at 20 (v1.2.1 1) v1.1)], [], y3)
          refine am_fg 3 ?_
          exact hc1 ((v1.1 + 1), y3) (by unfold s_D_gather_7; simp only [if_pos c1, if_neg c2, if_neg c3, bnd, c4, bnd, c5])
  · intro r1 hr6
    show am_Ev m_D_gather (WW ++ e1) ro P (111, [.ref 12, .int a1, .int r1.1, .retAddr 0], [], r1.2)
    refine am_Ev_G [] 400 _ ?_
    show P (.inl none) r1.2
    exact hP r1.2 (by unfold v_D_gather; simp only [hr6])
theorem ok_D_gather {l : Launch} (hl : l.stackTraces = false) (e1 ro : List Sh) (k : Nat) : am_Ok l (WW ++ e1) ro (d_D_gather k) := by
  refine am_met hl (own := RX0) (M := m_D_gather) rfl pf_D_gather cu_D_gather rfl rfl rfl rfl (fun _ => rfl) rfl ⟨chk_D_gather, (am_c (fl_D_11) (am_c (fl_D_25) (am_c (fl_D_32) (am_c (fl_D_41) (am_c (fl_D_48) (am_c (fl_D_51) (am_c (fl_D_62) am_n))))))), (am_c (lk_D_37) (am_c (lk_D_44) (am_c (lk_D_54) (am_c (lk_D_58) (am_c (lk_D_65) (am_c (lk_D_69) am_n)))))), (am_n), (am_n)⟩ (am_n) (am_c (ok_T_isRun hl (W21b ++ e1) _ 24) (am_c (ok_B_at hl _ _ 1) (am_c (ok_D_leavingEvent hl e1 _ 10) (am_c (ok_D_insert hl e1 _ 10) (am_c (ok_T_arrivalOf hl (W21b ++ e1) _ 24) (am_c (ok_D_readyEvent hl e1 _ 10) am_n)))))) (fun z => nomatch z) ?_ ?_
  · intro _ as h hg
    show g_thr (g_D_gather (WW ++ e1) ro as h) = none
    unfold g_D_gather
    split <;> rfl
  · intro as h hg hp
    revert hg hp
    show g_ok (g_D_gather (WW ++ e1) ro as h) = true → g_pre (g_D_gather (WW ++ e1) ro as h) → _ ∧ am_Ev m_D_gather (WW ++ e1) ro (am_eq (g_D_gather (WW ++ e1) ro as h)) (0, am_ent as 4, [], h)
    unfold g_D_gather
    split
    · rename_i o1 a1
      intro hc hp
      change (Nat.beq o1 12) = true at hc
      obtain rfl := am_beq hc
      exact ⟨Nat.le_of_ble_eq_true rfl, ev_D_gather h a1 hp eqRVW⟩
    · exact fun z => nomatch z
def k_D_restart (pc : Nat) : Ent := bif Nat.ble 22 pc then am_nop else bif Nat.ble 12 pc then (bif Nat.ble 17 pc then (bif Nat.ble 18 pc then (bif Nat.ble 21 pc then (bif Nat.beq pc 21 then (.return_, 0, 0, []) else am_nop) else (bif Nat.beq pc 18 then (.putfield 29, 0, 0, []) else am_nop)) else (bif Nat.beq pc 17 then (.iconst 0, 0, 0, []) else am_nop)) else (bif Nat.ble 13 pc then (bif Nat.ble 16 pc then (bif Nat.beq pc 16 then (.aload_n 0, 0, 0, []) else am_nop) else (bif Nat.beq pc 13 then (.invokestatic 96, 0, 0, []) else am_nop)) else (bif Nat.beq pc 12 then (.iconst 0, 0, 0, []) else am_nop))) else (bif Nat.ble 5 pc then (bif Nat.ble 8 pc then (bif Nat.ble 9 pc then (bif Nat.beq pc 9 then (.getfield 22, 0, 0, []) else am_nop) else (bif Nat.beq pc 8 then (.aload_n 0, 0, 0, []) else am_nop)) else (bif Nat.beq pc 5 then (.invokestatic 96, 0, 0, []) else am_nop)) else (bif Nat.ble 1 pc then (bif Nat.ble 4 pc then (bif Nat.beq pc 4 then (.iconst 0, 0, 0, []) else am_nop) else (bif Nat.beq pc 1 then (.getfield 19, 0, 0, []) else am_nop)) else (bif Nat.beq pc 0 then (.aload_n 0, 0, 0, []) else am_nop)))
theorem fl_D_19 : am_fok RX0 19 (0, 2) := ⟨RX0, TX0, 6, rfl, by decide, rfl, Or.inl (am_tb 125 (by decide +kernel) rfl)⟩
theorem fl_D_22 : am_fok RX0 22 (0, 3) := ⟨RX0, TX0, 6, rfl, by decide, rfl, Or.inl (am_tb 126 (by decide +kernel) rfl)⟩
theorem fl_D_29 : am_fok RX0 29 (0, 5) := ⟨RX0, TX0, 6, rfl, by decide, rfl, Or.inl (am_tb 128 (by decide +kernel) rfl)⟩
theorem lk_D_96 : am_lnk RX0 96 (d_A_fill 0) := ⟨⟨by decide, by decide⟩, am_tb 15 (by decide +kernel) rfl, Or.inl ⟨by decide, rfl, am_tb 461 (by decide +kernel) rfl, Or.inl ⟨by decide, am_tb 460 (by decide +kernel) rfl⟩⟩⟩
def m_D_restart : MI := (k_D_restart, [(19, 0, 2), (22, 0, 3), (29, 0, 5)], [(96, d_A_fill 0)], [], [], [], [], 1, 25, none, fun _ => 0, 1)
def v_D_restart (h : HP) : HP := (am_si (v_fill 16 (v_fill 16 h 14 0) 15 0) 12 5 0)
def g_D_restart (_ _ : List Sh) (as : List Value) (h : HP) : GR := match as with
  | [.ref o1] => (Nat.beq o1 12, True, none, none, v_D_restart h)
  | _ => bad h
def d_D_restart (k : Nat) : CD := (k, yX0_restart, cX0_restart, 1, none, 1, 1, 25, 0, false, false, g_D_restart)
theorem chk_D_restart : ∀ pc, am_chk cX0_restart k_D_restart pc = true := am_chkall 22 (by decide +kernel) (fun pc h => by unfold k_D_restart; rw [Nat.ble_eq_true_of_le h]; rfl)
theorem pf_D_restart : plainFor yX0_restart = true := by decide +kernel
theorem cu_D_restart : Cond.code yX0_restart cX0_restart 1 (none) ∈ am_U := am_tb 459 (by decide +kernel) rfl
set_option maxRecDepth 100000 in
theorem ev_D_restart {e1 ro : List Sh} {P : AR → HP → Prop} (h : HP) (hP : ∀ q, v_D_restart h = q → RVW P h q) : am_Ev m_D_restart (WW ++ e1) ro P (0, [.ref 12], [], h) := by
  refine am_Ev_G [16] 400 _ ?_
  show am_Ev m_D_restart (WW ++ e1) ro P (16, [.ref 12], [], (v_fill 16 (v_fill 16 h 14 0) 15 0))
  refine am_Ev_G [] 400 _ ?_
  show P (.inl none) (am_si (v_fill 16 (v_fill 16 h 14 0) 15 0) 12 5 0)
  exact hP (am_si (v_fill 16 (v_fill 16 h 14 0) 15 0) 12 5 0) rfl
theorem ok_D_restart {l : Launch} (hl : l.stackTraces = false) (e1 ro : List Sh) (k : Nat) : am_Ok l (WW ++ e1) ro (d_D_restart k) := by
  refine am_met hl (own := RX0) (M := m_D_restart) rfl pf_D_restart cu_D_restart rfl rfl rfl rfl (fun _ => rfl) rfl ⟨chk_D_restart, (am_c (fl_D_19) (am_c (fl_D_22) (am_c (fl_D_29) am_n))), (am_c (lk_D_96) am_n), (am_n), (am_n)⟩ (am_n) (am_c (ok_A_fill hl _ _ 0) am_n) ?_ ?_ ?_
  · intro _ as h hg
    show g_pre (g_D_restart (WW ++ e1) ro as h)
    unfold g_D_restart
    split <;> exact trivial
  · intro _ as h hg
    show g_thr (g_D_restart (WW ++ e1) ro as h) = none
    unfold g_D_restart
    split <;> rfl
  · intro as h hg hp
    revert hg hp
    show g_ok (g_D_restart (WW ++ e1) ro as h) = true → g_pre (g_D_restart (WW ++ e1) ro as h) → _ ∧ am_Ev m_D_restart (WW ++ e1) ro (am_eq (g_D_restart (WW ++ e1) ro as h)) (0, am_ent as 1, [], h)
    unfold g_D_restart
    split
    · rename_i o1
      intro hc hp
      change (Nat.beq o1 12) = true at hc
      obtain rfl := am_beq hc
      exact ⟨Nat.le_of_ble_eq_true rfl, ev_D_restart h eqRVW⟩
    · exact fun z => nomatch z
def k_D_meet (pc : Nat) : Ent := bif Nat.ble 85 pc then am_nop else bif Nat.ble 42 pc then (bif Nat.ble 62 pc then (bif Nat.ble 74 pc then (bif Nat.ble 79 pc then (bif Nat.ble 81 pc then (bif Nat.ble 84 pc then (bif Nat.beq pc 84 then (.return_, 0, 0, []) else am_nop) else (bif Nat.beq pc 81 then (.putfield 29, 0, 0, []) else am_nop)) else (bif Nat.ble 80 pc then (bif Nat.beq pc 80 then (.iadd, 0, 0, []) else am_nop) else (bif Nat.beq pc 79 then (.iconst 1, 1, 0, []) else am_nop))) else (bif Nat.ble 75 pc then (bif Nat.ble 76 pc then (bif Nat.beq pc 76 then (.getfield 29, 0, 0, []) else am_nop) else (bif Nat.beq pc 75 then (.dup, 0, 0, []) else am_nop)) else (bif Nat.beq pc 74 then (.aload_n 0, 0, 0, []) else am_nop))) else (bif Nat.ble 69 pc then (bif Nat.ble 70 pc then (bif Nat.ble 71 pc then (bif Nat.beq pc 71 then (.invokestatic 72, 0, 0, []) else am_nop) else (bif Nat.beq pc 70 then (.iload_n 3, 0, 3, []) else am_nop)) else (bif Nat.beq pc 69 then (.iload_n 2, 0, 2, []) else am_nop)) else (bif Nat.ble 65 pc then (bif Nat.ble 66 pc then (bif Nat.beq pc 66 then (.getfield 22, 0, 0, []) else am_nop) else (bif Nat.beq pc 65 then (.aload_n 0, 0, 0, []) else am_nop)) else (bif Nat.beq pc 62 then (.if_icmp .le 22, 0, 84, []) else am_nop)))) else (bif Nat.ble 50 pc then (bif Nat.ble 55 pc then (bif Nat.ble 58 pc then (bif Nat.ble 59 pc then (bif Nat.beq pc 59 then (.invokestatic 44, 0, 0, []) else am_nop) else (bif Nat.beq pc 58 then (.iload_n 2, 0, 2, []) else am_nop)) else (bif Nat.beq pc 55 then (.getfield 22, 0, 0, []) else am_nop)) else (bif Nat.ble 53 pc then (bif Nat.ble 54 pc then (bif Nat.beq pc 54 then (.aload_n 0, 0, 0, []) else am_nop) else (bif Nat.beq pc 53 then (.iload_n 3, 0, 3, []) else am_nop)) else (bif Nat.beq pc 50 then (.invokestatic 72, 0, 0, []) else am_nop))) else (bif Nat.ble 45 pc then (bif Nat.ble 48 pc then (bif Nat.ble 49 pc then (bif Nat.beq pc 49 then (.iload_n 3, 0, 3, []) else am_nop) else (bif Nat.beq pc 48 then (.iload_n 2, 0, 2, []) else am_nop)) else (bif Nat.beq pc 45 then (.getfield 19, 0, 0, []) else am_nop)) else (bif Nat.ble 43 pc then (bif Nat.ble 44 pc then (bif Nat.beq pc 44 then (.aload_n 0, 0, 0, []) else am_nop) else (bif Nat.beq pc 43 then (.istore_n 3, 0, 3, []) else am_nop)) else (bif Nat.beq pc 42 then (.iadd, 0, 0, []) else am_nop))))) else (bif Nat.ble 19 pc then (bif Nat.ble 29 pc then (bif Nat.ble 34 pc then (bif Nat.ble 38 pc then (bif Nat.ble 41 pc then (bif Nat.beq pc 41 then (.iconst 1, 1, 0, []) else am_nop) else (bif Nat.beq pc 38 then (.invokestatic 44, 0, 0, []) else am_nop)) else (bif Nat.ble 37 pc then (bif Nat.beq pc 37 then (.iload_n 2, 0, 2, []) else am_nop) else (bif Nat.beq pc 34 then (.getfield 19, 0, 0, []) else am_nop))) else (bif Nat.ble 32 pc then (bif Nat.ble 33 pc then (bif Nat.beq pc 33 then (.aload_n 0, 0, 0, []) else am_nop) else (bif Nat.beq pc 32 then (.return_, 0, 0, []) else am_nop)) else (bif Nat.beq pc 29 then (.invokestatic 72, 0, 0, []) else am_nop))) else (bif Nat.ble 24 pc then (bif Nat.ble 27 pc then (bif Nat.ble 28 pc then (bif Nat.beq pc 28 then (.isub, 0, 0, []) else am_nop) else (bif Nat.beq pc 27 then (.iconst 1, 1, 0, []) else am_nop)) else (bif Nat.beq pc 24 then (.invokestatic 44, 0, 0, []) else am_nop)) else (bif Nat.ble 20 pc then (bif Nat.ble 23 pc then (bif Nat.beq pc 23 then (.iload_n 2, 0, 2, []) else am_nop) else (bif Nat.beq pc 20 then (.getfield 19, 0, 0, []) else am_nop)) else (bif Nat.beq pc 19 then (.aload_n 0, 0, 0, []) else am_nop)))) else (bif Nat.ble 8 pc then (bif Nat.ble 14 pc then (bif Nat.ble 15 pc then (bif Nat.ble 18 pc then (bif Nat.beq pc 18 then (.iload_n 2, 0, 2, []) else am_nop) else (bif Nat.beq pc 15 then (.getfield 19, 0, 0, []) else am_nop)) else (bif Nat.beq pc 14 then (.aload_n 0, 0, 0, []) else am_nop)) else (bif Nat.ble 9 pc then (bif Nat.ble 11 pc then (bif Nat.beq pc 11 then (.if_icmp .ge 22, 0, 33, []) else am_nop) else (bif Nat.beq pc 9 then (.bipush 16, 16, 0, []) else am_nop)) else (bif Nat.beq pc 8 then (.irem, 0, 0, []) else am_nop))) else (bif Nat.ble 4 pc then (bif Nat.ble 5 pc then (bif Nat.ble 6 pc then (bif Nat.beq pc 6 then (.bipush 32, 32, 0, []) else am_nop) else (bif Nat.beq pc 5 then (.iload_n 1, 0, 1, []) else am_nop)) else (bif Nat.beq pc 4 then (.istore_n 2, 0, 2, []) else am_nop)) else (bif Nat.ble 1 pc then (bif Nat.ble 3 pc then (bif Nat.beq pc 3 then (.irem, 0, 0, []) else am_nop) else (bif Nat.beq pc 1 then (.bipush 16, 16, 0, []) else am_nop)) else (bif Nat.beq pc 0 then (.iload_n 1, 0, 1, []) else am_nop)))))
def m_D_meet : MI := (k_D_meet, [(19, 0, 2), (22, 0, 3), (29, 0, 5)], [(44, d_B_at 1), (72, d_B_put 1)], [], [], [], [], 1, 24, none, fun _ => 0, 1)
def v_D_meet (h : HP) (a1 : Int32) : HP := (if (a1 - a1 / 32 * 32) < 16 then (v_put 16 h 14 (a1 - a1 / 16 * 16) ((v_at 16 (h.1 14) (a1 - a1 / 16 * 16)) - 1)) else (if ((v_at 16 (h.1 14) (a1 - a1 / 16 * 16)) + 1) ≤ (v_at 16 ((v_put 16 h 14 (a1 - a1 / 16 * 16) ((v_at 16 (h.1 14) (a1 - a1 / 16 * 16)) + 1)).1 15) (a1 - a1 / 16 * 16)) then (v_put 16 h 14 (a1 - a1 / 16 * 16) ((v_at 16 (h.1 14) (a1 - a1 / 16 * 16)) + 1)) else (am_si (v_put 16 (v_put 16 h 14 (a1 - a1 / 16 * 16) ((v_at 16 (h.1 14) (a1 - a1 / 16 * 16)) + 1)) 15 (a1 - a1 / 16 * 16) ((v_at 16 (h.1 14) (a1 - a1 / 16 * 16)) + 1)) 12 5 (((v_put 16 (v_put 16 h 14 (a1 - a1 / 16 * 16) ((v_at 16 (h.1 14) (a1 - a1 / 16 * 16)) + 1)) 15 (a1 - a1 / 16 * 16) ((v_at 16 (h.1 14) (a1 - a1 / 16 * 16)) + 1)).1 12 5) + 1))))
def g_D_meet (_ _ : List Sh) (as : List Value) (h : HP) : GR := match as with
  | [.ref o1, .int a1] => (Nat.beq o1 12, True, none, none, v_D_meet h a1)
  | _ => bad h
def d_D_meet (k : Nat) : CD := (k, yX0_meet, cX0_meet, 4, none, 2, 1, 24, 0, false, false, g_D_meet)
theorem chk_D_meet : ∀ pc, am_chk cX0_meet k_D_meet pc = true := am_chkall 85 (by decide +kernel) (fun pc h => by unfold k_D_meet; rw [Nat.ble_eq_true_of_le h]; rfl)
theorem pf_D_meet : plainFor yX0_meet = true := by decide +kernel
theorem cu_D_meet : Cond.code yX0_meet cX0_meet 4 (none) ∈ am_U := am_tb 471 (by decide +kernel) rfl
set_option maxRecDepth 100000 in
theorem ev_D_meet {e1 ro : List Sh} {P : AR → HP → Prop} (h : HP) (a1 : Int32) (hP : ∀ q, v_D_meet h a1 = q → RVW P h q) : am_Ev m_D_meet (WW ++ e1) ro P (0, [.ref 12, .int a1, .retAddr 0, .retAddr 0], [], h) := by
  refine am_Ev_G [24, 41] 400 _ ?_
  show ((¬ 16 = 0) ∧ ((¬ 32 = 0) ∧ ((¬ (a1 - a1 / 32 * 32) < 16 → am_Ev m_D_meet (WW ++ e1) ro P (41, [.ref 12, .int a1, .int (a1 - a1 / 16 * 16), .retAddr 0], [.int (v_at 16 (h.1 14) (a1 - a1 / 16 * 16))], h)) ∧ ((a1 - a1 / 32 * 32) < 16 → am_Ev m_D_meet (WW ++ e1) ro P (24, [.ref 12, .int a1, .int (a1 - a1 / 16 * 16), .retAddr 0], [.int (a1 - a1 / 16 * 16), .ref 14, .int (a1 - a1 / 16 * 16), .ref 14], h)))))
  refine ⟨(by decide), ?_⟩
  refine ⟨(by decide), ?_⟩
  refine ⟨fun c1 => ?_, fun c1 => ?_⟩
  · skip
    refine am_Ev_G [53] 400 _ ?_
    show am_Ev m_D_meet (WW ++ e1) ro P (53, [.ref 12, .int a1, .int (a1 - a1 / 16 * 16), .int ((v_at 16 (h.1 14) (a1 - a1 / 16 * 16)) + 1)], [], (v_put 16 h 14 (a1 - a1 / 16 * 16) ((v_at 16 (h.1 14) (a1 - a1 / 16 * 16)) + 1)))
    refine am_Ev_G [62] 400 _ ?_
    show am_Ev m_D_meet (WW ++ e1) ro P (62, [.ref 12, .int a1, .int (a1 - a1 / 16 * 16), .int ((v_at 16 (h.1 14) (a1 - a1 / 16 * 16)) + 1)], [.int (v_at 16 ((v_put 16 h 14 (a1 - a1 / 16 * 16) ((v_at 16 (h.1 14) (a1 - a1 / 16 * 16)) + 1)).1 15) (a1 - a1 / 16 * 16)), .int ((v_at 16 (h.1 14) (a1 - a1 / 16 * 16)) + 1)], (v_put 16 h 14 (a1 - a1 / 16 * 16) ((v_at 16 (h.1 14) (a1 - a1 / 16 * 16)) + 1)))
    have key2 : am_Ev m_D_meet (WW ++ e1) ro P (84, [.ref 12, .int a1, .int (a1 - a1 / 16 * 16), .int ((v_at 16 (h.1 14) (a1 - a1 / 16 * 16)) + 1)], [], (if ((v_at 16 (h.1 14) (a1 - a1 / 16 * 16)) + 1) ≤ (v_at 16 ((v_put 16 h 14 (a1 - a1 / 16 * 16) ((v_at 16 (h.1 14) (a1 - a1 / 16 * 16)) + 1)).1 15) (a1 - a1 / 16 * 16)) then (v_put 16 h 14 (a1 - a1 / 16 * 16) ((v_at 16 (h.1 14) (a1 - a1 / 16 * 16)) + 1)) else (am_si (v_put 16 (v_put 16 h 14 (a1 - a1 / 16 * 16) ((v_at 16 (h.1 14) (a1 - a1 / 16 * 16)) + 1)) 15 (a1 - a1 / 16 * 16) ((v_at 16 (h.1 14) (a1 - a1 / 16 * 16)) + 1)) 12 5 (((v_put 16 (v_put 16 h 14 (a1 - a1 / 16 * 16) ((v_at 16 (h.1 14) (a1 - a1 / 16 * 16)) + 1)) 15 (a1 - a1 / 16 * 16) ((v_at 16 (h.1 14) (a1 - a1 / 16 * 16)) + 1)).1 12 5) + 1)))) := by
      refine am_Ev_G [] 400 _ ?_
      show P (.inl none) (if ((v_at 16 (h.1 14) (a1 - a1 / 16 * 16)) + 1) ≤ (v_at 16 ((v_put 16 h 14 (a1 - a1 / 16 * 16) ((v_at 16 (h.1 14) (a1 - a1 / 16 * 16)) + 1)).1 15) (a1 - a1 / 16 * 16)) then (v_put 16 h 14 (a1 - a1 / 16 * 16) ((v_at 16 (h.1 14) (a1 - a1 / 16 * 16)) + 1)) else (am_si (v_put 16 (v_put 16 h 14 (a1 - a1 / 16 * 16) ((v_at 16 (h.1 14) (a1 - a1 / 16 * 16)) + 1)) 15 (a1 - a1 / 16 * 16) ((v_at 16 (h.1 14) (a1 - a1 / 16 * 16)) + 1)) 12 5 (((v_put 16 (v_put 16 h 14 (a1 - a1 / 16 * 16) ((v_at 16 (h.1 14) (a1 - a1 / 16 * 16)) + 1)) 15 (a1 - a1 / 16 * 16) ((v_at 16 (h.1 14) (a1 - a1 / 16 * 16)) + 1)).1 12 5) + 1)))
      exact hP (if ((v_at 16 (h.1 14) (a1 - a1 / 16 * 16)) + 1) ≤ (v_at 16 ((v_put 16 h 14 (a1 - a1 / 16 * 16) ((v_at 16 (h.1 14) (a1 - a1 / 16 * 16)) + 1)).1 15) (a1 - a1 / 16 * 16)) then (v_put 16 h 14 (a1 - a1 / 16 * 16) ((v_at 16 (h.1 14) (a1 - a1 / 16 * 16)) + 1)) else (am_si (v_put 16 (v_put 16 h 14 (a1 - a1 / 16 * 16) ((v_at 16 (h.1 14) (a1 - a1 / 16 * 16)) + 1)) 15 (a1 - a1 / 16 * 16) ((v_at 16 (h.1 14) (a1 - a1 / 16 * 16)) + 1)) 12 5 (((v_put 16 (v_put 16 h 14 (a1 - a1 / 16 * 16) ((v_at 16 (h.1 14) (a1 - a1 / 16 * 16)) + 1)) 15 (a1 - a1 / 16 * 16) ((v_at 16 (h.1 14) (a1 - a1 / 16 * 16)) + 1)).1 12 5) + 1))) (by unfold v_D_meet; simp only [if_neg c1])
    refine am_Ev_G [84] 400 _ ?_
    show ((((v_at 16 (h.1 14) (a1 - a1 / 16 * 16)) + 1) ≤ (v_at 16 ((v_put 16 h 14 (a1 - a1 / 16 * 16) ((v_at 16 (h.1 14) (a1 - a1 / 16 * 16)) + 1)).1 15) (a1 - a1 / 16 * 16)) → am_Ev m_D_meet (WW ++ e1) ro P (84, [.ref 12, .int a1, .int (a1 - a1 / 16 * 16), .int ((v_at 16 (h.1 14) (a1 - a1 / 16 * 16)) + 1)], [], (v_put 16 h 14 (a1 - a1 / 16 * 16) ((v_at 16 (h.1 14) (a1 - a1 / 16 * 16)) + 1)))) ∧ (¬ ((v_at 16 (h.1 14) (a1 - a1 / 16 * 16)) + 1) ≤ (v_at 16 ((v_put 16 h 14 (a1 - a1 / 16 * 16) ((v_at 16 (h.1 14) (a1 - a1 / 16 * 16)) + 1)).1 15) (a1 - a1 / 16 * 16)) → am_Ev m_D_meet (WW ++ e1) ro P (84, [.ref 12, .int a1, .int (a1 - a1 / 16 * 16), .int ((v_at 16 (h.1 14) (a1 - a1 / 16 * 16)) + 1)], [], (am_si (v_put 16 (v_put 16 h 14 (a1 - a1 / 16 * 16) ((v_at 16 (h.1 14) (a1 - a1 / 16 * 16)) + 1)) 15 (a1 - a1 / 16 * 16) ((v_at 16 (h.1 14) (a1 - a1 / 16 * 16)) + 1)) 12 5 (((v_put 16 (v_put 16 h 14 (a1 - a1 / 16 * 16) ((v_at 16 (h.1 14) (a1 - a1 / 16 * 16)) + 1)) 15 (a1 - a1 / 16 * 16) ((v_at 16 (h.1 14) (a1 - a1 / 16 * 16)) + 1)).1 12 5) + 1)))))
    refine ⟨fun c3 => ?_, fun c3 => ?_⟩
    · skip
      simpa only [if_pos c3] using key2
    · skip
      simpa only [if_neg c3] using key2
  · skip
    refine am_Ev_G [] 400 _ ?_
    show P (.inl none) (v_put 16 h 14 (a1 - a1 / 16 * 16) ((v_at 16 (h.1 14) (a1 - a1 / 16 * 16)) - 1))
    exact hP (v_put 16 h 14 (a1 - a1 / 16 * 16) ((v_at 16 (h.1 14) (a1 - a1 / 16 * 16)) - 1)) (by unfold v_D_meet; simp only [if_pos c1])
theorem ok_D_meet {l : Launch} (hl : l.stackTraces = false) (e1 ro : List Sh) (k : Nat) : am_Ok l (WW ++ e1) ro (d_D_meet k) := by
  refine am_met hl (own := RX0) (M := m_D_meet) rfl pf_D_meet cu_D_meet rfl rfl rfl rfl (fun _ => rfl) rfl ⟨chk_D_meet, (am_c (fl_D_19) (am_c (fl_D_22) (am_c (fl_D_29) am_n))), (am_c (lk_D_44) (am_c (lk_D_72) am_n)), (am_n), (am_n)⟩ (am_n) (am_c (ok_B_at hl _ _ 1) (am_c (ok_B_put hl _ _ 1) am_n)) ?_ ?_ ?_
  · intro _ as h hg
    show g_pre (g_D_meet (WW ++ e1) ro as h)
    unfold g_D_meet
    split <;> exact trivial
  · intro _ as h hg
    show g_thr (g_D_meet (WW ++ e1) ro as h) = none
    unfold g_D_meet
    split <;> rfl
  · intro as h hg hp
    revert hg hp
    show g_ok (g_D_meet (WW ++ e1) ro as h) = true → g_pre (g_D_meet (WW ++ e1) ro as h) → _ ∧ am_Ev m_D_meet (WW ++ e1) ro (am_eq (g_D_meet (WW ++ e1) ro as h)) (0, am_ent as 4, [], h)
    unfold g_D_meet
    split
    · rename_i o1 a1
      intro hc hp
      change (Nat.beq o1 12) = true at hc
      obtain rfl := am_beq hc
      exact ⟨Nat.le_of_ble_eq_true rfl, ev_D_meet h a1 eqRVW⟩
    · exact fun z => nomatch z
def k_D_meetUpTo (pc : Nat) : Ent := bif Nat.ble 45 pc then am_nop else bif Nat.ble 22 pc then (bif Nat.ble 31 pc then (bif Nat.ble 40 pc then (bif Nat.ble 41 pc then (bif Nat.ble 44 pc then (bif Nat.beq pc 44 then (.ireturn, 0, 0, []) else am_nop) else (bif Nat.beq pc 41 then (.getfield 25, 0, 0, []) else am_nop)) else (bif Nat.beq pc 40 then (.aload_n 0, 0, 0, []) else am_nop)) else (bif Nat.ble 34 pc then (bif Nat.ble 37 pc then (bif Nat.beq pc 37 then (.goto (-35), 0, 2, []) else am_nop) else (bif Nat.beq pc 34 then (.iinc 3 1, 1, 3, []) else am_nop)) else (bif Nat.beq pc 31 then (.invokevirtual 93, 0, 0, []) else am_nop))) else (bif Nat.ble 27 pc then (bif Nat.ble 28 pc then (bif Nat.ble 29 pc then (bif Nat.beq pc 29 then (.iload 4, 0, 4, []) else am_nop) else (bif Nat.beq pc 28 then (.aload_n 0, 0, 0, []) else am_nop)) else (bif Nat.beq pc 27 then (.ireturn, 0, 0, []) else am_nop)) else (bif Nat.ble 23 pc then (bif Nat.ble 26 pc then (bif Nat.beq pc 26 then (.iload_n 3, 0, 3, []) else am_nop) else (bif Nat.beq pc 23 then (.if_icmp .lt 5, 0, 28, []) else am_nop)) else (bif Nat.beq pc 22 then (.iload_n 2, 0, 2, []) else am_nop)))) else (bif Nat.ble 10 pc then (bif Nat.ble 15 pc then (bif Nat.ble 18 pc then (bif Nat.ble 20 pc then (bif Nat.beq pc 20 then (.iload 4, 0, 4, []) else am_nop) else (bif Nat.beq pc 18 then (.istore 4, 0, 4, []) else am_nop)) else (bif Nat.beq pc 15 then (.invokestatic 44, 0, 0, []) else am_nop)) else (bif Nat.ble 11 pc then (bif Nat.ble 14 pc then (bif Nat.beq pc 14 then (.iload_n 3, 0, 3, []) else am_nop) else (bif Nat.beq pc 11 then (.getfield 15, 0, 0, []) else am_nop)) else (bif Nat.beq pc 10 then (.aload_n 0, 0, 0, []) else am_nop))) else (bif Nat.ble 3 pc then (bif Nat.ble 4 pc then (bif Nat.ble 7 pc then (bif Nat.beq pc 7 then (.if_icmp .ge 33, 0, 40, []) else am_nop) else (bif Nat.beq pc 4 then (.getfield 25, 0, 0, []) else am_nop)) else (bif Nat.beq pc 3 then (.aload_n 0, 0, 0, []) else am_nop)) else (bif Nat.ble 1 pc then (bif Nat.ble 2 pc then (bif Nat.beq pc 2 then (.iload_n 3, 0, 3, []) else am_nop) else (bif Nat.beq pc 1 then (.istore_n 3, 0, 3, []) else am_nop)) else (bif Nat.beq pc 0 then (.iload_n 1, 0, 1, []) else am_nop))))
theorem lk_D_93 : am_lnk RX0 93 (d_D_meet 10) := ⟨⟨by decide, by decide⟩, am_tb 3 (by decide +kernel) rfl, Or.inr ⟨by decide, rfl, am_tb 470 (by decide +kernel) rfl, am_tp 27 (by decide +kernel) rfl, ⟨TX0, 6, rfl⟩, Or.inl (am_tb 468 (by decide +kernel) rfl)⟩⟩
def m_D_meetUpTo : MI := (k_D_meetUpTo, [(15, 0, 1), (25, 0, 4)], [(44, d_B_at 1), (93, d_D_meet 10)], [], [], [], [], 2, 49, some .int, fun _ => 0, 1)
def s_D_meetUpTo_2 (h : HP) (a1 : Int32) (a2 : Int32) (v1 : Int32 × HP) : (Int32 × HP) ⊕ ((Int32 × HP) ⊕ (Int32 × HP)) := (if v1.1 < (v1.2.1 12 4) then (if (v_at 40 (v1.2.1 13) v1.1) < a2 then (bnd (v_D_meet v1.2 (v_at 40 (v1.2.1 13) v1.1)) fun y2 => (.inl ((v1.1 + 1), y2))) else (.inr (.inr (v1.1, v1.2)))) else (.inr (.inl (v1.1, v1.2))))
def ps_D_meetUpTo_2 (h : HP) (a1 : Int32) (a2 : Int32) (v1 : Int32 × HP) : Prop := True
def v_D_meetUpTo (h : HP) (a1 : Int32) (a2 : Int32) : Int32 × HP := (match itr (s_D_meetUpTo_2 h a1 a2) NF (a1, h) with | some (.inl r1) => (r1.2.1 12 4, r1.2) | some (.inr q) => q | none => (0, h))
def p_D_meetUpTo (h : HP) (a1 : Int32) (a2 : Int32) : Prop := (itrp (s_D_meetUpTo_2 h a1 a2) (ps_D_meetUpTo_2 h a1 a2) NF (a1, h))
def g_D_meetUpTo (_ _ : List Sh) (as : List Value) (h : HP) : GR := match as with
  | [.ref o1, .int a1, .int a2] => (Nat.beq o1 12, p_D_meetUpTo h a1 a2, none, some (.int (v_D_meetUpTo h a1 a2).1), (v_D_meetUpTo h a1 a2).2)
  | _ => bad h
def d_D_meetUpTo (k : Nat) : CD := (k, yX0_meetUpTo, cX0_meetUpTo, 5, some .int, 3, 2, 49, 0, false, true, g_D_meetUpTo)
theorem chk_D_meetUpTo : ∀ pc, am_chk cX0_meetUpTo k_D_meetUpTo pc = true := am_chkall 45 (by decide +kernel) (fun pc h => by unfold k_D_meetUpTo; rw [Nat.ble_eq_true_of_le h]; rfl)
theorem pf_D_meetUpTo : plainFor yX0_meetUpTo = true := by decide +kernel
theorem cu_D_meetUpTo : Cond.code yX0_meetUpTo cX0_meetUpTo 5 (some .int) ∈ am_U := am_tb 467 (by decide +kernel) rfl
set_option maxRecDepth 100000 in
theorem ev_D_meetUpTo {e1 ro : List Sh} {P : AR → HP → Prop} (h : HP) (a1 : Int32) (a2 : Int32) (hp : p_D_meetUpTo h a1 a2) (hP : ∀ q, v_D_meetUpTo h a1 a2 = q → RIW P h q) : am_Ev m_D_meetUpTo (WW ++ e1) ro P (0, [.ref 12, .int a1, .int a2, .retAddr 0, .retAddr 0], [], h) := by
  unfold p_D_meetUpTo at hp
  refine am_Ev_G [2] 400 _ ?_
  show am_Ev m_D_meetUpTo (WW ++ e1) ro P (2, [.ref 12, .int a1, .int a2, .int a1, .retAddr 0], [], h)
  refine am_fg 1 ?_
  have hpl := hp
  refine am_itr (E := (fun (v1 : Int32 × HP) => am_Ev m_D_meetUpTo (WW ++ e1) ro P (2, [.ref 12, .retAddr 0, .int a2, .int v1.1, .retAddr 0], [], v1.2))) (E' := (fun (x : (Int32 × HP) ⊕ (Int32 × HP)) => match x with | .inl r1 => am_Ev m_D_meetUpTo (WW ++ e1) ro P (40, [.ref 12, .retAddr 0, .int a2, .int r1.1, .retAddr 0], [], r1.2) | .inr q => RIW P h q)) (s_D_meetUpTo_2 h a1 a2) (ps_D_meetUpTo_2 h a1 a2) ?_ NF (a1, h) hpl ?_
  · intro v1 hp hc1 hx1
    show am_Ev m_D_meetUpTo (WW ++ e1) ro P (2, [.ref 12, .retAddr 0, .int a2, .int v1.1, .retAddr 0], [], v1.2)
    refine am_Ev_G [18, 40] 400 _ ?_
    show ((¬ v1.1 < (v1.2.1 12 4) → am_Ev m_D_meetUpTo (WW ++ e1) ro P (40, [.ref 12, .retAddr 0, .int a2, .int v1.1, .retAddr 0], [], v1.2)) ∧ (v1.1 < (v1.2.1 12 4) → am_Ev m_D_meetUpTo (WW ++ e1) ro P (18, [.ref 12, .retAddr 0, .int a2, .int v1.1, .retAddr 0], [.int (v_at 40 (v1.2.1 13) v1.1)], v1.2)))
    refine ⟨fun c1 => ?_, fun c1 => ?_⟩
    · skip
      exact hx1 (.inl (v1.1, v1.2)) (by unfold s_D_meetUpTo_2; simp only [if_neg c1])
    · skip
      refine am_Ev_G [34] 400 _ ?_
      show (((v_at 40 (v1.2.1 13) v1.1) < a2 → am_Ev m_D_meetUpTo (WW ++ e1) ro P (34, [.ref 12, .retAddr 0, .int a2, .int v1.1, .int (v_at 40 (v1.2.1 13) v1.1)], [], (v_D_meet v1.2 (v_at 40 (v1.2.1 13) v1.1)))) ∧ (¬ (v_at 40 (v1.2.1 13) v1.1) < a2 → P (.inl (some (.int v1.1))) v1.2))
      refine ⟨fun c2 => ?_, fun c2 => ?_⟩
      · skip
        obtain ⟨y2, c3⟩ : ∃ y, v_D_meet v1.2 (v_at 40 (v1.2.1 13) v1.1) = y := ⟨_, rfl⟩
        rw [c3]
        show am_Ev m_D_meetUpTo (WW ++ e1) ro P (34, [.ref 12, .retAddr 0, .int a2, .int v1.1, .int (v_at 40 (v1.2.1 13) v1.1)], [], y2)
        refine am_Ev_G [2] 400 _ ?_
        show am_Ev m_D_meetUpTo (WW ++ e1) ro P (2, [.ref 12, .retAddr 0, .int a2, .int (v1.1 + 1), .int (v_at 40 (v1.2.1 13) v1.1)], [], y2)
        refine am_fg 4 ?_
        exact hc1 ((v1.1 + 1), y2) (by unfold s_D_meetUpTo_2; simp only [if_pos c1, if_pos c2, bnd, c3])
      · skip
        exact hx1 (.inr (v1.1, v1.2)) (by unfold s_D_meetUpTo_2; simp only [if_pos c1, if_neg c2])
  · intro x hr4
    rcases x with r1 | q
    · skip
      show am_Ev m_D_meetUpTo (WW ++ e1) ro P (40, [.ref 12, .retAddr 0, .int a2, .int r1.1, .retAddr 0], [], r1.2)
      refine am_Ev_G [] 400 _ ?_
      show P (.inl (some (.int (r1.2.1 12 4)))) r1.2
      exact hP (r1.2.1 12 4, r1.2) (by unfold v_D_meetUpTo; simp only [hr4])
    · show RIW P h q
      exact hP q (by unfold v_D_meetUpTo; simp only [hr4])
theorem ok_D_meetUpTo {l : Launch} (hl : l.stackTraces = false) (e1 ro : List Sh) (k : Nat) : am_Ok l (WW ++ e1) ro (d_D_meetUpTo k) := by
  refine am_met hl (own := RX0) (M := m_D_meetUpTo) rfl pf_D_meetUpTo cu_D_meetUpTo rfl rfl rfl rfl (fun _ => rfl) rfl ⟨chk_D_meetUpTo, (am_c (fl_D_15) (am_c (fl_D_25) am_n)), (am_c (lk_D_44) (am_c (lk_D_93) am_n)), (am_n), (am_n)⟩ (am_n) (am_c (ok_B_at hl _ _ 1) (am_c (ok_D_meet hl e1 _ 10) am_n)) (fun z => nomatch z) ?_ ?_
  · intro _ as h hg
    show g_thr (g_D_meetUpTo (WW ++ e1) ro as h) = none
    unfold g_D_meetUpTo
    split <;> rfl
  · intro as h hg hp
    revert hg hp
    show g_ok (g_D_meetUpTo (WW ++ e1) ro as h) = true → g_pre (g_D_meetUpTo (WW ++ e1) ro as h) → _ ∧ am_Ev m_D_meetUpTo (WW ++ e1) ro (am_eq (g_D_meetUpTo (WW ++ e1) ro as h)) (0, am_ent as 5, [], h)
    unfold g_D_meetUpTo
    split
    · rename_i o1 a1 a2
      intro hc hp
      change (Nat.beq o1 12) = true at hc
      obtain rfl := am_beq hc
      exact ⟨Nat.le_of_ble_eq_true rfl, ev_D_meetUpTo h a1 a2 hp eqRIW⟩
    · exact fun z => nomatch z
def k_D_fewest (pc : Nat) : Ent := bif Nat.ble 17 pc then am_nop else bif Nat.ble 8 pc then (bif Nat.ble 12 pc then (bif Nat.ble 13 pc then (bif Nat.ble 16 pc then (bif Nat.beq pc 16 then (.ireturn, 0, 0, []) else am_nop) else (bif Nat.beq pc 13 then (.getfield 29, 0, 0, []) else am_nop)) else (bif Nat.beq pc 12 then (.aload_n 0, 0, 0, []) else am_nop)) else (bif Nat.ble 11 pc then (bif Nat.beq pc 11 then (.pop, 0, 0, []) else am_nop) else (bif Nat.beq pc 8 then (.invokevirtual 90, 0, 0, []) else am_nop))) else (bif Nat.ble 4 pc then (bif Nat.ble 5 pc then (bif Nat.ble 6 pc then (bif Nat.beq pc 6 then (.ldc 89, 0, 0, []) else am_nop) else (bif Nat.beq pc 5 then (.iconst 0, 0, 0, []) else am_nop)) else (bif Nat.beq pc 4 then (.aload_n 0, 0, 0, []) else am_nop)) else (bif Nat.ble 1 pc then (bif Nat.beq pc 1 then (.invokevirtual 86, 0, 0, []) else am_nop) else (bif Nat.beq pc 0 then (.aload_n 0, 0, 0, []) else am_nop)))
theorem lk_D_86 : am_lnk RX0 86 (d_D_restart 10) := ⟨⟨by decide, by decide⟩, am_tb 3 (by decide +kernel) rfl, Or.inr ⟨by decide, rfl, am_tb 458 (by decide +kernel) rfl, am_tp 25 (by decide +kernel) rfl, ⟨TX0, 6, rfl⟩, Or.inl (am_tb 456 (by decide +kernel) rfl)⟩⟩
theorem lk_D_90 : am_lnk RX0 90 (d_D_meetUpTo 10) := ⟨⟨by decide, by decide⟩, am_tb 3 (by decide +kernel) rfl, Or.inr ⟨by decide, rfl, am_tb 466 (by decide +kernel) rfl, am_tp 26 (by decide +kernel) rfl, ⟨TX0, 6, rfl⟩, Or.inl (am_tb 464 (by decide +kernel) rfl)⟩⟩
theorem ck_D_89 : am_cok RX0 89 (.int 1000000) := am_tb 463 (by decide +kernel) rfl
def m_D_fewest : MI := (k_D_fewest, [(29, 0, 5)], [(86, d_D_restart 10), (90, d_D_meetUpTo 10)], [(89, .int 1000000)], [], [], [], 3, 75, some .int, fun _ => 0, 1)
def v_D_fewest (h : HP) : Int32 × HP := (bnd (v_D_restart h) fun y1 => (bnd (v_D_meetUpTo y1 0 1000000) fun y2 => (y2.2.1 12 5, y2.2)))
def p_D_fewest (h : HP) : Prop := (∀ y1, v_D_restart h = y1 → (p_D_meetUpTo y1 0 1000000))
def g_D_fewest (_ _ : List Sh) (as : List Value) (h : HP) : GR := match as with
  | [.ref o1] => (Nat.beq o1 12, p_D_fewest h, none, some (.int (v_D_fewest h).1), (v_D_fewest h).2)
  | _ => bad h
def d_D_fewest (k : Nat) : CD := (k, yX0_fewest, cX0_fewest, 1, some .int, 1, 3, 75, 0, false, true, g_D_fewest)
theorem chk_D_fewest : ∀ pc, am_chk cX0_fewest k_D_fewest pc = true := am_chkall 17 (by decide +kernel) (fun pc h => by unfold k_D_fewest; rw [Nat.ble_eq_true_of_le h]; rfl)
theorem pf_D_fewest : plainFor yX0_fewest = true := by decide +kernel
theorem cu_D_fewest : Cond.code yX0_fewest cX0_fewest 1 (some .int) ∈ am_U := am_tb 455 (by decide +kernel) rfl
set_option maxRecDepth 100000 in
theorem ev_D_fewest {e1 ro : List Sh} {P : AR → HP → Prop} (h : HP) (hp : p_D_fewest h) (hP : ∀ q, v_D_fewest h = q → RIW P h q) : am_Ev m_D_fewest (WW ++ e1) ro P (0, [.ref 12], [], h) := by
  unfold p_D_fewest at hp
  refine am_Ev_G [4] 400 _ ?_
  show am_Ev m_D_fewest (WW ++ e1) ro P (4, [.ref 12], [], (v_D_restart h))
  obtain ⟨y1, c1⟩ : ∃ y, v_D_restart h = y := ⟨_, rfl⟩
  rw [c1]
  have hp := hp _ c1
  show am_Ev m_D_fewest (WW ++ e1) ro P (4, [.ref 12], [], y1)
  refine am_Ev_G [11] 400 _ ?_
  show ((p_D_meetUpTo y1 0 1000000) ∧ am_Ev m_D_fewest (WW ++ e1) ro P (11, [.ref 12], [.int ((v_D_meetUpTo y1 0 1000000).1)], ((v_D_meetUpTo y1 0 1000000).2)))
  refine ⟨hp, ?_⟩
  obtain ⟨y2, c2⟩ : ∃ y, v_D_meetUpTo y1 0 1000000 = y := ⟨_, rfl⟩
  rw [c2]
  show am_Ev m_D_fewest (WW ++ e1) ro P (11, [.ref 12], [.int y2.1], y2.2)
  refine am_Ev_G [] 400 _ ?_
  show P (.inl (some (.int (y2.2.1 12 5)))) y2.2
  exact hP (y2.2.1 12 5, y2.2) (by unfold v_D_fewest; simp only [bnd, c1, bnd, c2])
theorem ok_D_fewest {l : Launch} (hl : l.stackTraces = false) (e1 ro : List Sh) (k : Nat) : am_Ok l (WW ++ e1) ro (d_D_fewest k) := by
  refine am_met hl (own := RX0) (M := m_D_fewest) rfl pf_D_fewest cu_D_fewest rfl rfl rfl rfl (fun _ => rfl) rfl ⟨chk_D_fewest, (am_c (fl_D_29) am_n), (am_c (lk_D_86) (am_c (lk_D_90) am_n)), (am_c (ck_D_89) am_n), (am_n)⟩ (am_n) (am_c (ok_D_restart hl e1 _ 10) (am_c (ok_D_meetUpTo hl e1 _ 10) am_n)) (fun z => nomatch z) ?_ ?_
  · intro _ as h hg
    show g_thr (g_D_fewest (WW ++ e1) ro as h) = none
    unfold g_D_fewest
    split <;> rfl
  · intro as h hg hp
    revert hg hp
    show g_ok (g_D_fewest (WW ++ e1) ro as h) = true → g_pre (g_D_fewest (WW ++ e1) ro as h) → _ ∧ am_Ev m_D_fewest (WW ++ e1) ro (am_eq (g_D_fewest (WW ++ e1) ro as h)) (0, am_ent as 1, [], h)
    unfold g_D_fewest
    split
    · rename_i o1
      intro hc hp
      change (Nat.beq o1 12) = true at hc
      obtain rfl := am_beq hc
      exact ⟨Nat.le_of_ble_eq_true rfl, ev_D_fewest h hp eqRIW⟩
    · exact fun z => nomatch z
def k_D_fewestWith (pc : Nat) : Ent := bif Nat.ble 72 pc then am_nop else bif Nat.ble 34 pc then (bif Nat.ble 53 pc then (bif Nat.ble 63 pc then (bif Nat.ble 67 pc then (bif Nat.ble 68 pc then (bif Nat.ble 71 pc then (bif Nat.beq pc 71 then (.ireturn, 0, 0, []) else am_nop) else (bif Nat.beq pc 68 then (.getfield 29, 0, 0, []) else am_nop)) else (bif Nat.beq pc 67 then (.aload_n 0, 0, 0, []) else am_nop)) else (bif Nat.ble 66 pc then (bif Nat.beq pc 66 then (.pop, 0, 0, []) else am_nop) else (bif Nat.beq pc 63 then (.invokevirtual 90, 0, 0, []) else am_nop))) else (bif Nat.ble 58 pc then (bif Nat.ble 59 pc then (bif Nat.ble 61 pc then (bif Nat.beq pc 61 then (.ldc 89, 0, 0, []) else am_nop) else (bif Nat.beq pc 59 then (.iload 8, 0, 8, []) else am_nop)) else (bif Nat.beq pc 58 then (.aload_n 0, 0, 0, []) else am_nop)) else (bif Nat.ble 55 pc then (bif Nat.beq pc 55 then (.invokevirtual 93, 0, 0, []) else am_nop) else (bif Nat.beq pc 53 then (.iload 7, 0, 7, []) else am_nop)))) else (bif Nat.ble 43 pc then (bif Nat.ble 47 pc then (bif Nat.ble 50 pc then (bif Nat.ble 52 pc then (bif Nat.beq pc 52 then (.aload_n 0, 0, 0, []) else am_nop) else (bif Nat.beq pc 50 then (.istore 8, 0, 8, []) else am_nop)) else (bif Nat.beq pc 47 then (.invokevirtual 90, 0, 0, []) else am_nop)) else (bif Nat.ble 45 pc then (bif Nat.beq pc 45 then (.iload 7, 0, 7, []) else am_nop) else (bif Nat.beq pc 43 then (.iload 8, 0, 8, []) else am_nop))) else (bif Nat.ble 37 pc then (bif Nat.ble 39 pc then (bif Nat.ble 42 pc then (bif Nat.beq pc 42 then (.aload_n 0, 0, 0, []) else am_nop) else (bif Nat.beq pc 39 then (.invokevirtual 93, 0, 0, []) else am_nop)) else (bif Nat.beq pc 37 then (.iload 6, 0, 6, []) else am_nop)) else (bif Nat.ble 36 pc then (bif Nat.beq pc 36 then (.aload_n 0, 0, 0, []) else am_nop) else (bif Nat.beq pc 34 then (.istore 8, 0, 8, []) else am_nop))))) else (bif Nat.ble 15 pc then (bif Nat.ble 24 pc then (bif Nat.ble 28 pc then (bif Nat.ble 29 pc then (bif Nat.ble 31 pc then (bif Nat.beq pc 31 then (.invokevirtual 90, 0, 0, []) else am_nop) else (bif Nat.beq pc 29 then (.iload 6, 0, 6, []) else am_nop)) else (bif Nat.beq pc 28 then (.iconst 0, 0, 0, []) else am_nop)) else (bif Nat.ble 27 pc then (bif Nat.beq pc 27 then (.aload_n 0, 0, 0, []) else am_nop) else (bif Nat.beq pc 24 then (.invokevirtual 86, 0, 0, []) else am_nop))) else (bif Nat.ble 18 pc then (bif Nat.ble 21 pc then (bif Nat.ble 23 pc then (bif Nat.beq pc 23 then (.aload_n 0, 0, 0, []) else am_nop) else (bif Nat.beq pc 21 then (.istore 7, 0, 7, []) else am_nop)) else (bif Nat.beq pc 18 then (.invokevirtual 69, 0, 0, []) else am_nop)) else (bif Nat.ble 17 pc then (bif Nat.beq pc 17 then (.iadd, 0, 0, []) else am_nop) else (bif Nat.beq pc 15 then (.iload 5, 0, 5, []) else am_nop)))) else (bif Nat.ble 8 pc then (bif Nat.ble 11 pc then (bif Nat.ble 12 pc then (bif Nat.ble 13 pc then (bif Nat.beq pc 13 then (.iload 4, 0, 4, []) else am_nop) else (bif Nat.beq pc 12 then (.iload_n 3, 0, 3, []) else am_nop)) else (bif Nat.beq pc 11 then (.iload_n 1, 0, 1, []) else am_nop)) else (bif Nat.ble 10 pc then (bif Nat.beq pc 10 then (.aload_n 0, 0, 0, []) else am_nop) else (bif Nat.beq pc 8 then (.istore 6, 0, 6, []) else am_nop))) else (bif Nat.ble 2 pc then (bif Nat.ble 3 pc then (bif Nat.ble 5 pc then (bif Nat.beq pc 5 then (.invokevirtual 54, 0, 0, []) else am_nop) else (bif Nat.beq pc 3 then (.iload 4, 0, 4, []) else am_nop)) else (bif Nat.beq pc 2 then (.iload_n 2, 0, 2, []) else am_nop)) else (bif Nat.ble 1 pc then (bif Nat.beq pc 1 then (.iload_n 1, 0, 1, []) else am_nop) else (bif Nat.beq pc 0 then (.aload_n 0, 0, 0, []) else am_nop)))))
def m_D_fewestWith : MI := (k_D_fewestWith, [(29, 0, 5)], [(54, d_D_leavingEvent 10), (69, d_D_readyEvent 10), (86, d_D_restart 10), (90, d_D_meetUpTo 10), (93, d_D_meet 10)], [(89, .int 1000000)], [], [], [], 3, 75, some .int, fun _ => 0, 1)
def v_D_fewestWith (h : HP) (a1 : Int32) (a2 : Int32) (a3 : Int32) (a4 : Int32) (a5 : Int32) : Int32 × HP := (bnd (v_D_restart h) fun y1 => (bnd (v_D_meetUpTo y1 0 (v_D_leavingEvent h a1 a2 a4)) fun y2 => (bnd (v_D_meet y2.2 (v_D_leavingEvent h a1 a2 a4)) fun y3 => (bnd (v_D_meetUpTo y3 y2.1 (v_D_readyEvent h a1 a3 (a4 + a5))) fun y4 => (bnd (v_D_meet y4.2 (v_D_readyEvent h a1 a3 (a4 + a5))) fun y5 => (bnd (v_D_meetUpTo y5 y4.1 1000000) fun y6 => (y6.2.1 12 5, y6.2)))))))
def p_D_fewestWith (h : HP) (a1 : Int32) (a2 : Int32) (a3 : Int32) (a4 : Int32) (a5 : Int32) : Prop := (∀ y1, v_D_restart h = y1 → ((p_D_meetUpTo y1 0 (v_D_leavingEvent h a1 a2 a4)) ∧ (∀ y2, v_D_meetUpTo y1 0 (v_D_leavingEvent h a1 a2 a4) = y2 → (∀ y3, v_D_meet y2.2 (v_D_leavingEvent h a1 a2 a4) = y3 → ((p_D_meetUpTo y3 y2.1 (v_D_readyEvent h a1 a3 (a4 + a5))) ∧ (∀ y4, v_D_meetUpTo y3 y2.1 (v_D_readyEvent h a1 a3 (a4 + a5)) = y4 → (∀ y5, v_D_meet y4.2 (v_D_readyEvent h a1 a3 (a4 + a5)) = y5 → (p_D_meetUpTo y5 y4.1 1000000))))))))
def g_D_fewestWith (_ _ : List Sh) (as : List Value) (h : HP) : GR := match as with
  | [.ref o1, .int a1, .int a2, .int a3, .int a4, .int a5] => (Nat.beq o1 12, p_D_fewestWith h a1 a2 a3 a4 a5, none, some (.int (v_D_fewestWith h a1 a2 a3 a4 a5).1), (v_D_fewestWith h a1 a2 a3 a4 a5).2)
  | _ => bad h
def d_D_fewestWith (k : Nat) : CD := (k, yX0_fewestWith, cX0_fewestWith, 9, some .int, 6, 3, 75, 0, false, true, g_D_fewestWith)
theorem chk_D_fewestWith : ∀ pc, am_chk cX0_fewestWith k_D_fewestWith pc = true := am_chkall 72 (by decide +kernel) (fun pc h => by unfold k_D_fewestWith; rw [Nat.ble_eq_true_of_le h]; rfl)
theorem pf_D_fewestWith : plainFor yX0_fewestWith = true := by decide +kernel
theorem cu_D_fewestWith : Cond.code yX0_fewestWith cX0_fewestWith 9 (some .int) ∈ am_U := am_tb 762 (by decide +kernel) rfl
set_option maxRecDepth 100000 in
theorem ev_D_fewestWith {e1 ro : List Sh} {P : AR → HP → Prop} (h : HP) (a1 : Int32) (a2 : Int32) (a3 : Int32) (a4 : Int32) (a5 : Int32) (hp : p_D_fewestWith h a1 a2 a3 a4 a5) (hP : ∀ q, v_D_fewestWith h a1 a2 a3 a4 a5 = q → RIW P h q) : am_Ev m_D_fewestWith (WW ++ e1) ro P (0, [.ref 12, .int a1, .int a2, .int a3, .int a4, .int a5, .retAddr 0, .retAddr 0, .retAddr 0], [], h) := by
  unfold p_D_fewestWith at hp
  refine am_Ev_G [21] 400 _ ?_
  show am_Ev m_D_fewestWith (WW ++ e1) ro P (21, [.ref 12, .int a1, .int a2, .int a3, .int a4, .int a5, .int (v_D_leavingEvent h a1 a2 a4), .retAddr 0, .retAddr 0], [.int (v_D_readyEvent h a1 a3 (a4 + a5))], h)
  refine am_Ev_G [27] 400 _ ?_
  show am_Ev m_D_fewestWith (WW ++ e1) ro P (27, [.ref 12, .int a1, .int a2, .int a3, .int a4, .int a5, .int (v_D_leavingEvent h a1 a2 a4), .int (v_D_readyEvent h a1 a3 (a4 + a5)), .retAddr 0], [], (v_D_restart h))
  obtain ⟨y1, c1⟩ : ∃ y, v_D_restart h = y := ⟨_, rfl⟩
  rw [c1]
  have hp := hp _ c1
  show am_Ev m_D_fewestWith (WW ++ e1) ro P (27, [.ref 12, .int a1, .int a2, .int a3, .int a4, .int a5, .int (v_D_leavingEvent h a1 a2 a4), .int (v_D_readyEvent h a1 a3 (a4 + a5)), .retAddr 0], [], y1)
  refine am_Ev_G [34] 400 _ ?_
  show ((p_D_meetUpTo y1 0 (v_D_leavingEvent h a1 a2 a4)) ∧ am_Ev m_D_fewestWith (WW ++ e1) ro P (34, [.ref 12, .int a1, .int a2, .int a3, .int a4, .int a5, .int (v_D_leavingEvent h a1 a2 a4), .int (v_D_readyEvent h a1 a3 (a4 + a5)), .retAddr 0], [.int ((v_D_meetUpTo y1 0 (v_D_leavingEvent h a1 a2 a4)).1)], ((v_D_meetUpTo y1 0 (v_D_leavingEvent h a1 a2 a4)).2)))
  obtain ⟨hob, hp⟩ := hp
  refine ⟨hob, ?_⟩
  obtain ⟨y2, c2⟩ : ∃ y, v_D_meetUpTo y1 0 (v_D_leavingEvent h a1 a2 a4) = y := ⟨_, rfl⟩
  rw [c2]
  have hp := hp _ c2
  show am_Ev m_D_fewestWith (WW ++ e1) ro P (34, [.ref 12, .int a1, .int a2, .int a3, .int a4, .int a5, .int (v_D_leavingEvent h a1 a2 a4), .int (v_D_readyEvent h a1 a3 (a4 + a5)), .retAddr 0], [.int y2.1], y2.2)
  refine am_Ev_G [42] 400 _ ?_
  show am_Ev m_D_fewestWith (WW ++ e1) ro P (42, [.ref 12, .int a1, .int a2, .int a3, .int a4, .int a5, .int (v_D_leavingEvent h a1 a2 a4), .int (v_D_readyEvent h a1 a3 (a4 + a5)), .int y2.1], [], (v_D_meet y2.2 (v_D_leavingEvent h a1 a2 a4)))
  obtain ⟨y3, c3⟩ : ∃ y, v_D_meet y2.2 (v_D_leavingEvent h a1 a2 a4) = y := ⟨_, rfl⟩
  rw [c3]
  have hp := hp _ c3
  show am_Ev m_D_fewestWith (WW ++ e1) ro P (42, [.ref 12, .int a1, .int a2, .int a3, .int a4, .int a5, .int (v_D_leavingEvent h a1 a2 a4), .int (v_D_readyEvent h a1 a3 (a4 + a5)), .int y2.1], [], y3)
  refine am_Ev_G [50] 400 _ ?_
  show ((p_D_meetUpTo y3 y2.1 (v_D_readyEvent h a1 a3 (a4 + a5))) ∧ am_Ev m_D_fewestWith (WW ++ e1) ro P (50, [.ref 12, .int a1, .int a2, .int a3, .int a4, .int a5, .int (v_D_leavingEvent h a1 a2 a4), .int (v_D_readyEvent h a1 a3 (a4 + a5)), .int y2.1], [.int ((v_D_meetUpTo y3 y2.1 (v_D_readyEvent h a1 a3 (a4 + a5))).1)], ((v_D_meetUpTo y3 y2.1 (v_D_readyEvent h a1 a3 (a4 + a5))).2)))
  obtain ⟨hob, hp⟩ := hp
  refine ⟨hob, ?_⟩
  obtain ⟨y4, c4⟩ : ∃ y, v_D_meetUpTo y3 y2.1 (v_D_readyEvent h a1 a3 (a4 + a5)) = y := ⟨_, rfl⟩
  rw [c4]
  have hp := hp _ c4
  show am_Ev m_D_fewestWith (WW ++ e1) ro P (50, [.ref 12, .int a1, .int a2, .int a3, .int a4, .int a5, .int (v_D_leavingEvent h a1 a2 a4), .int (v_D_readyEvent h a1 a3 (a4 + a5)), .int y2.1], [.int y4.1], y4.2)
  refine am_Ev_G [58] 400 _ ?_
  show am_Ev m_D_fewestWith (WW ++ e1) ro P (58, [.ref 12, .int a1, .int a2, .int a3, .int a4, .int a5, .int (v_D_leavingEvent h a1 a2 a4), .int (v_D_readyEvent h a1 a3 (a4 + a5)), .int y4.1], [], (v_D_meet y4.2 (v_D_readyEvent h a1 a3 (a4 + a5))))
  obtain ⟨y5, c5⟩ : ∃ y, v_D_meet y4.2 (v_D_readyEvent h a1 a3 (a4 + a5)) = y := ⟨_, rfl⟩
  rw [c5]
  have hp := hp _ c5
  show am_Ev m_D_fewestWith (WW ++ e1) ro P (58, [.ref 12, .int a1, .int a2, .int a3, .int a4, .int a5, .int (v_D_leavingEvent h a1 a2 a4), .int (v_D_readyEvent h a1 a3 (a4 + a5)), .int y4.1], [], y5)
  refine am_Ev_G [66] 400 _ ?_
  show ((p_D_meetUpTo y5 y4.1 1000000) ∧ am_Ev m_D_fewestWith (WW ++ e1) ro P (66, [.ref 12, .int a1, .int a2, .int a3, .int a4, .int a5, .int (v_D_leavingEvent h a1 a2 a4), .int (v_D_readyEvent h a1 a3 (a4 + a5)), .int y4.1], [.int ((v_D_meetUpTo y5 y4.1 1000000).1)], ((v_D_meetUpTo y5 y4.1 1000000).2)))
  refine ⟨hp, ?_⟩
  obtain ⟨y6, c6⟩ : ∃ y, v_D_meetUpTo y5 y4.1 1000000 = y := ⟨_, rfl⟩
  rw [c6]
  show am_Ev m_D_fewestWith (WW ++ e1) ro P (66, [.ref 12, .int a1, .int a2, .int a3, .int a4, .int a5, .int (v_D_leavingEvent h a1 a2 a4), .int (v_D_readyEvent h a1 a3 (a4 + a5)), .int y4.1], [.int y6.1], y6.2)
  refine am_Ev_G [] 400 _ ?_
  show P (.inl (some (.int (y6.2.1 12 5)))) y6.2
  exact hP (y6.2.1 12 5, y6.2) (by unfold v_D_fewestWith; simp only [bnd, c1, bnd, c2, bnd, c3, bnd, c4, bnd, c5, bnd, c6])
theorem ok_D_fewestWith {l : Launch} (hl : l.stackTraces = false) (e1 ro : List Sh) (k : Nat) : am_Ok l (WW ++ e1) ro (d_D_fewestWith k) := by
  refine am_met hl (own := RX0) (M := m_D_fewestWith) rfl pf_D_fewestWith cu_D_fewestWith rfl rfl rfl rfl (fun _ => rfl) rfl ⟨chk_D_fewestWith, (am_c (fl_D_29) am_n), (am_c (lk_D_54) (am_c (lk_D_69) (am_c (lk_D_86) (am_c (lk_D_90) (am_c (lk_D_93) am_n))))), (am_c (ck_D_89) am_n), (am_n)⟩ (am_n) (am_c (ok_D_leavingEvent hl e1 _ 10) (am_c (ok_D_readyEvent hl e1 _ 10) (am_c (ok_D_restart hl e1 _ 10) (am_c (ok_D_meetUpTo hl e1 _ 10) (am_c (ok_D_meet hl e1 _ 10) am_n))))) (fun z => nomatch z) ?_ ?_
  · intro _ as h hg
    show g_thr (g_D_fewestWith (WW ++ e1) ro as h) = none
    unfold g_D_fewestWith
    split <;> rfl
  · intro as h hg hp
    revert hg hp
    show g_ok (g_D_fewestWith (WW ++ e1) ro as h) = true → g_pre (g_D_fewestWith (WW ++ e1) ro as h) → _ ∧ am_Ev m_D_fewestWith (WW ++ e1) ro (am_eq (g_D_fewestWith (WW ++ e1) ro as h)) (0, am_ent as 9, [], h)
    unfold g_D_fewestWith
    split
    · rename_i o1 a1 a2 a3 a4 a5
      intro hc hp
      change (Nat.beq o1 12) = true at hc
      obtain rfl := am_beq hc
      exact ⟨Nat.le_of_ble_eq_true rfl, ev_D_fewestWith h a1 a2 a3 a4 a5 hp eqRIW⟩
    · exact fun z => nomatch z
def k_D_deficitOf (pc : Nat) : Ent := bif Nat.ble 32 pc then am_nop else bif Nat.ble 15 pc then (bif Nat.ble 22 pc then (bif Nat.ble 27 pc then (bif Nat.ble 30 pc then (bif Nat.ble 31 pc then (bif Nat.beq pc 31 then (.ireturn, 0, 0, []) else am_nop) else (bif Nat.beq pc 30 then (.iload_n 2, 0, 2, []) else am_nop)) else (bif Nat.beq pc 27 then (.goto (-23), 0, 4, []) else am_nop)) else (bif Nat.ble 23 pc then (bif Nat.ble 24 pc then (bif Nat.beq pc 24 then (.iinc 3 1, 1, 3, []) else am_nop) else (bif Nat.beq pc 23 then (.istore_n 2, 0, 2, []) else am_nop)) else (bif Nat.beq pc 22 then (.iadd, 0, 0, []) else am_nop))) else (bif Nat.ble 17 pc then (bif Nat.ble 18 pc then (bif Nat.ble 19 pc then (bif Nat.beq pc 19 then (.invokestatic 44, 0, 0, []) else am_nop) else (bif Nat.beq pc 18 then (.iadd, 0, 0, []) else am_nop)) else (bif Nat.beq pc 17 then (.iload_n 3, 0, 3, []) else am_nop)) else (bif Nat.ble 16 pc then (bif Nat.beq pc 16 then (.imul, 0, 0, []) else am_nop) else (bif Nat.beq pc 15 then (.iconst 4, 4, 0, []) else am_nop)))) else (bif Nat.ble 5 pc then (bif Nat.ble 10 pc then (bif Nat.ble 11 pc then (bif Nat.ble 14 pc then (bif Nat.beq pc 14 then (.iload_n 1, 0, 1, []) else am_nop) else (bif Nat.beq pc 11 then (.getfield 22, 0, 0, []) else am_nop)) else (bif Nat.beq pc 10 then (.aload_n 0, 0, 0, []) else am_nop)) else (bif Nat.ble 6 pc then (bif Nat.ble 9 pc then (bif Nat.beq pc 9 then (.iload_n 2, 0, 2, []) else am_nop) else (bif Nat.beq pc 6 then (.if_icmp .ge 24, 0, 30, []) else am_nop)) else (bif Nat.beq pc 5 then (.iconst 4, 4, 0, []) else am_nop))) else (bif Nat.ble 2 pc then (bif Nat.ble 3 pc then (bif Nat.ble 4 pc then (bif Nat.beq pc 4 then (.iload_n 3, 0, 3, []) else am_nop) else (bif Nat.beq pc 3 then (.istore_n 3, 0, 3, []) else am_nop)) else (bif Nat.beq pc 2 then (.iconst 0, 0, 0, []) else am_nop)) else (bif Nat.ble 1 pc then (bif Nat.beq pc 1 then (.istore_n 2, 0, 2, []) else am_nop) else (bif Nat.beq pc 0 then (.iconst 0, 0, 0, []) else am_nop))))
def m_D_deficitOf : MI := (k_D_deficitOf, [(22, 0, 3)], [(44, d_B_at 1)], [], [], [], [], 1, 23, some .int, fun _ => 0, 1)
def s_D_deficitOf_4 (h : HP) (a1 : Int32) (v1 : Int32 × Int32) : (Int32 × Int32) ⊕ (Int32 × Int32) := (if v1.2 < 4 then (.inl ((v1.1 + (v_at 16 (h.1 15) ((a1 * 4) + v1.2))), (v1.2 + 1))) else (.inr (v1.1, v1.2)))
def ps_D_deficitOf_4 (h : HP) (a1 : Int32) (v1 : Int32 × Int32) : Prop := True
def v_D_deficitOf (h : HP) (a1 : Int32) : Int32 := (match itr (s_D_deficitOf_4 h a1) NF (0, 0) with | some r1 => r1.1 | none => 0)
def p_D_deficitOf (h : HP) (a1 : Int32) : Prop := (itrp (s_D_deficitOf_4 h a1) (ps_D_deficitOf_4 h a1) NF (0, 0))
def g_D_deficitOf (_ _ : List Sh) (as : List Value) (h : HP) : GR := match as with
  | [.ref o1, .int a1] => (Nat.beq o1 12, p_D_deficitOf h a1, none, some (.int (v_D_deficitOf h a1)), h)
  | _ => bad h
def d_D_deficitOf (k : Nat) : CD := (k, yX0_deficitOf, cX0_deficitOf, 4, some .int, 2, 1, 23, 0, false, true, g_D_deficitOf)
theorem chk_D_deficitOf : ∀ pc, am_chk cX0_deficitOf k_D_deficitOf pc = true := am_chkall 32 (by decide +kernel) (fun pc h => by unfold k_D_deficitOf; rw [Nat.ble_eq_true_of_le h]; rfl)
theorem pf_D_deficitOf : plainFor yX0_deficitOf = true := by decide +kernel
theorem cu_D_deficitOf : Cond.code yX0_deficitOf cX0_deficitOf 4 (some .int) ∈ am_U := am_tb 684 (by decide +kernel) rfl
set_option maxRecDepth 100000 in
theorem ev_D_deficitOf {e1 ro : List Sh} {P : AR → HP → Prop} (h : HP) (a1 : Int32) (hp : p_D_deficitOf h a1) (hP : ∀ q, v_D_deficitOf h a1 = q → RI P h q) : am_Ev m_D_deficitOf (WW ++ e1) ro P (0, [.ref 12, .int a1, .retAddr 0, .retAddr 0], [], h) := by
  unfold p_D_deficitOf at hp
  refine am_Ev_G [4] 400 _ ?_
  show am_Ev m_D_deficitOf (WW ++ e1) ro P (4, [.ref 12, .int a1, .int 0, .int 0], [], h)
  have hpl := hp
  refine am_itr (E := (fun (v1 : Int32 × Int32) => am_Ev m_D_deficitOf (WW ++ e1) ro P (4, [.ref 12, .int a1, .int v1.1, .int v1.2], [], h))) (E' := (fun (r1 : Int32 × Int32) => am_Ev m_D_deficitOf (WW ++ e1) ro P (30, [.ref 12, .int a1, .int r1.1, .int r1.2], [], h))) (s_D_deficitOf_4 h a1) (ps_D_deficitOf_4 h a1) ?_ NF (0, 0) hpl ?_
  · intro v1 hp hc1 hx1
    show am_Ev m_D_deficitOf (WW ++ e1) ro P (4, [.ref 12, .int a1, .int v1.1, .int v1.2], [], h)
    refine am_Ev_G [19, 30] 400 _ ?_
    show ((¬ v1.2 < 4 → am_Ev m_D_deficitOf (WW ++ e1) ro P (30, [.ref 12, .int a1, .int v1.1, .int v1.2], [], h)) ∧ (v1.2 < 4 → am_Ev m_D_deficitOf (WW ++ e1) ro P (19, [.ref 12, .int a1, .int v1.1, .int v1.2], [.int ((a1 * 4) + v1.2), .ref 15, .int v1.1], h)))
    refine ⟨fun c1 => ?_, fun c1 => ?_⟩
    · skip
      exact hx1 (v1.1, v1.2) (by unfold s_D_deficitOf_4; simp only [if_neg c1])
    · skip
      refine am_Ev_G [4] 400 _ ?_
      show am_Ev m_D_deficitOf (WW ++ e1) ro P (4, [.ref 12, .int a1, .int (v1.1 + (v_at 16 (h.1 15) ((a1 * 4) + v1.2))), .int (v1.2 + 1)], [], h)
      exact hc1 ((v1.1 + (v_at 16 (h.1 15) ((a1 * 4) + v1.2))), (v1.2 + 1)) (by unfold s_D_deficitOf_4; simp only [if_pos c1])
  · intro r1 hr2
    show am_Ev m_D_deficitOf (WW ++ e1) ro P (30, [.ref 12, .int a1, .int r1.1, .int r1.2], [], h)
    refine am_Ev_G [] 400 _ ?_
    show P (.inl (some (.int r1.1))) h
    exact hP r1.1 (by unfold v_D_deficitOf; simp only [hr2])
theorem ok_D_deficitOf {l : Launch} (hl : l.stackTraces = false) (e1 ro : List Sh) (k : Nat) : am_Ok l (WW ++ e1) ro (d_D_deficitOf k) := by
  refine am_met hl (own := RX0) (M := m_D_deficitOf) rfl pf_D_deficitOf cu_D_deficitOf rfl rfl rfl rfl (fun _ => rfl) rfl ⟨chk_D_deficitOf, (am_c (fl_D_22) am_n), (am_c (lk_D_44) am_n), (am_n), (am_n)⟩ (am_n) (am_c (ok_B_at hl _ _ 1) am_n) (fun z => nomatch z) ?_ ?_
  · intro _ as h hg
    show g_thr (g_D_deficitOf (WW ++ e1) ro as h) = none
    unfold g_D_deficitOf
    split <;> rfl
  · intro as h hg hp
    revert hg hp
    show g_ok (g_D_deficitOf (WW ++ e1) ro as h) = true → g_pre (g_D_deficitOf (WW ++ e1) ro as h) → _ ∧ am_Ev m_D_deficitOf (WW ++ e1) ro (am_eq (g_D_deficitOf (WW ++ e1) ro as h)) (0, am_ent as 4, [], h)
    unfold g_D_deficitOf
    split
    · rename_i o1 a1
      intro hc hp
      change (Nat.beq o1 12) = true at hc
      obtain rfl := am_beq hc
      exact ⟨Nat.le_of_ble_eq_true rfl, ev_D_deficitOf h a1 hp eqRI⟩
    · exact fun z => nomatch z
end
