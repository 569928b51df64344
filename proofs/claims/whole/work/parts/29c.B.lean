/-! BusBlocks, out of its code (written by gen/meth.py). -/
def k_B_hashBuffer (pc : Nat) : Ent := bif Nat.ble 58 pc then am_nop else bif Nat.ble 27 pc then (bif Nat.ble 44 pc then (bif Nat.ble 50 pc then (bif Nat.ble 56 pc then (bif Nat.ble 57 pc then (bif Nat.beq pc 57 then (.lreturn, 0, 0, []) else am_nop) else (bif Nat.beq pc 56 then (.lload_n 3, 0, 3, []) else am_nop)) else (bif Nat.ble 53 pc then (bif Nat.beq pc 53 then (.goto (-35), 0, 18, []) else am_nop) else (bif Nat.beq pc 50 then (.iinc 5 1, 1, 5, []) else am_nop))) else (bif Nat.ble 48 pc then (bif Nat.ble 49 pc then (bif Nat.beq pc 49 then (.lstore_n 3, 0, 3, []) else am_nop) else (bif Nat.beq pc 48 then (.ladd, 0, 0, []) else am_nop)) else (bif Nat.ble 47 pc then (bif Nat.beq pc 47 then (.i2l, 0, 0, []) else am_nop) else (bif Nat.beq pc 44 then (.invokestatic 78, 0, 0, []) else am_nop)))) else (bif Nat.ble 35 pc then (bif Nat.ble 39 pc then (bif Nat.ble 42 pc then (bif Nat.beq pc 42 then (.iload 5, 0, 5, []) else am_nop) else (bif Nat.beq pc 39 then (.getfield 348, 0, 0, []) else am_nop)) else (bif Nat.ble 36 pc then (bif Nat.beq pc 36 then (.getfield 38, 0, 0, []) else am_nop) else (bif Nat.beq pc 35 then (.aload_n 0, 0, 0, []) else am_nop))) else (bif Nat.ble 33 pc then (bif Nat.ble 34 pc then (bif Nat.beq pc 34 then (.lmul, 0, 0, []) else am_nop) else (bif Nat.beq pc 33 then (.lload_n 3, 0, 3, []) else am_nop)) else (bif Nat.ble 30 pc then (bif Nat.beq pc 30 then (.ldc2_w 303, 0, 0, []) else am_nop) else (bif Nat.beq pc 27 then (.if_icmp .ge 29, 0, 56, []) else am_nop))))) else (bif Nat.ble 13 pc then (bif Nat.ble 18 pc then (bif Nat.ble 21 pc then (bif Nat.ble 24 pc then (bif Nat.beq pc 24 then (.getfield 161, 0, 0, []) else am_nop) else (bif Nat.beq pc 21 then (.getfield 38, 0, 0, []) else am_nop)) else (bif Nat.ble 20 pc then (bif Nat.beq pc 20 then (.aload_n 0, 0, 0, []) else am_nop) else (bif Nat.beq pc 18 then (.iload 5, 0, 5, []) else am_nop))) else (bif Nat.ble 15 pc then (bif Nat.ble 16 pc then (bif Nat.beq pc 16 then (.istore 5, 0, 5, []) else am_nop) else (bif Nat.beq pc 15 then (.iconst 0, 0, 0, []) else am_nop)) else (bif Nat.ble 14 pc then (bif Nat.beq pc 14 then (.lstore_n 3, 0, 3, []) else am_nop) else (bif Nat.beq pc 13 then (.ladd, 0, 0, []) else am_nop)))) else (bif Nat.ble 5 pc then (bif Nat.ble 9 pc then (bif Nat.ble 12 pc then (bif Nat.beq pc 12 then (.i2l, 0, 0, []) else am_nop) else (bif Nat.beq pc 9 then (.getfield 161, 0, 0, []) else am_nop)) else (bif Nat.ble 6 pc then (bif Nat.beq pc 6 then (.getfield 38, 0, 0, []) else am_nop) else (bif Nat.beq pc 5 then (.aload_n 0, 0, 0, []) else am_nop))) else (bif Nat.ble 3 pc then (bif Nat.ble 4 pc then (bif Nat.beq pc 4 then (.lmul, 0, 0, []) else am_nop) else (bif Nat.beq pc 3 then (.lload_n 1, 0, 1, []) else am_nop)) else (bif Nat.beq pc 0 then (.ldc2_w 303, 0, 0, []) else am_nop))))
theorem fl_B_348 : am_fok RX5 348 (3, 0) := ⟨RX3, TX3, 4, rfl, by decide, rfl, Or.inr ⟨"BusBlocks", am_tb 165 (by decide +kernel) rfl⟩⟩
def m_B_hashBuffer : MI := (k_B_hashBuffer, [(38, 5, 4), (161, 3, 2), (348, 3, 0)], [(78, d_B_at 0)], [(303, .long 31)], [], [], [], 1, 21, some .long, fun _ => 0, 1)
def s_B_hashBuffer_18 (h : HP) (a1 : Int64) (v1 : Int64 × Int32) : (Int64 × Int32) ⊕ (Int64 × Int32) := (if v1.2 < (h.1 18 2) then (.inl (((31 * v1.1) + (((v_at 60 (h.1 19) v1.2)).toInt64)), (v1.2 + 1))) else (.inr (v1.1, v1.2)))
def ps_B_hashBuffer_18 (h : HP) (a1 : Int64) (v1 : Int64 × Int32) : Prop := True
def v_B_hashBuffer (h : HP) (a1 : Int64) : Int64 := (match itr (s_B_hashBuffer_18 h a1) NF (((31 * a1) + (((h.1 18 2)).toInt64)), 0) with | some r1 => r1.1 | none => 0)
def p_B_hashBuffer (h : HP) (a1 : Int64) : Prop := (itrp (s_B_hashBuffer_18 h a1) (ps_B_hashBuffer_18 h a1) NF (((31 * a1) + (((h.1 18 2)).toInt64)), 0))
def g_B_hashBuffer (_ _ : List Sh) (as : List Value) (h : HP) : GR := match as with
  | [.ref o1, .long a1] => (Nat.beq o1 38, p_B_hashBuffer h a1, none, some (.long (v_B_hashBuffer h a1)), h)
  | _ => bad h
def d_B_hashBuffer (k : Nat) : CD := (k, yX5_hashBuffer, cX5_hashBuffer, 6, some .long, 2, 1, 21, 0, false, true, g_B_hashBuffer)
theorem chk_B_hashBuffer : ∀ pc, am_chk cX5_hashBuffer k_B_hashBuffer pc = true := am_chkall 58 (by decide +kernel) (fun pc h => by unfold k_B_hashBuffer; rw [Nat.ble_eq_true_of_le h]; rfl)
theorem pf_B_hashBuffer : plainFor yX5_hashBuffer = true := by decide +kernel
theorem cu_B_hashBuffer : Cond.code yX5_hashBuffer cX5_hashBuffer 6 (some .long) ∈ am_U := am_tb 674 (by decide +kernel) rfl
set_option maxRecDepth 100000 in
theorem ev_B_hashBuffer {e1 e2 : List Sh} {P : AR → HP → Prop} (h : HP) (a1 : Int64) (hp : p_B_hashBuffer h a1) (hP : ∀ q, v_B_hashBuffer h a1 = q → RJ P h q) : am_Ev m_B_hashBuffer (WB ++ e1) (RO ++ e2) P (0, [.ref 38, .long a1, .retAddr 0, .retAddr 0, .retAddr 0, .retAddr 0], [], h) := by
  unfold p_B_hashBuffer at hp
  refine am_Ev_G [18] 400 _ ?_
  show am_Ev m_B_hashBuffer (WB ++ e1) (RO ++ e2) P (18, [.ref 38, .long a1, .retAddr 0, .long ((31 * a1) + (((h.1 18 2)).toInt64)), .retAddr 0, .int 0], [], h)
  refine am_fg 1 ?_
  have hpl := hp
  refine am_itr (E := (fun (v1 : Int64 × Int32) => am_Ev m_B_hashBuffer (WB ++ e1) (RO ++ e2) P (18, [.ref 38, .retAddr 0, .retAddr 0, .long v1.1, .retAddr 0, .int v1.2], [], h))) (E' := (fun (r1 : Int64 × Int32) => am_Ev m_B_hashBuffer (WB ++ e1) (RO ++ e2) P (56, [.ref 38, .retAddr 0, .retAddr 0, .long r1.1, .retAddr 0, .int r1.2], [], h))) (s_B_hashBuffer_18 h a1) (ps_B_hashBuffer_18 h a1) ?_ NF (((31 * a1) + (((h.1 18 2)).toInt64)), 0) hpl ?_
  · intro v1 hp hc1 hx1
    show am_Ev m_B_hashBuffer (WB ++ e1) (RO ++ e2) P (18, [.ref 38, .retAddr 0, .retAddr 0, .long v1.1, .retAddr 0, .int v1.2], [], h)
    refine am_Ev_G [27] 400 _ ?_
    show am_Ev m_B_hashBuffer (WB ++ e1) (RO ++ e2) P (27, [.ref 38, .retAddr 0, .retAddr 0, .long v1.1, .retAddr 0, .int v1.2], [.int (h.1 18 2), .int v1.2], h)
    refine am_Ev_G [47, 56] 400 _ ?_
    show ((¬ v1.2 < (h.1 18 2) → am_Ev m_B_hashBuffer (WB ++ e1) (RO ++ e2) P (56, [.ref 38, .retAddr 0, .retAddr 0, .long v1.1, .retAddr 0, .int v1.2], [], h)) ∧ (v1.2 < (h.1 18 2) → am_Ev m_B_hashBuffer (WB ++ e1) (RO ++ e2) P (47, [.ref 38, .retAddr 0, .retAddr 0, .long v1.1, .retAddr 0, .int v1.2], [.int (v_at 60 (h.1 19) v1.2), .long (31 * v1.1)], h)))
    refine ⟨fun c1 => ?_, fun c1 => ?_⟩
    · skip
      exact hx1 (v1.1, v1.2) (by unfold s_B_hashBuffer_18; simp only [if_neg c1])
    · skip
      refine am_Ev_G [18] 400 _ ?_
      show am_Ev m_B_hashBuffer (WB ++ e1) (RO ++ e2) P (18, [.ref 38, .retAddr 0, .retAddr 0, .long ((31 * v1.1) + (((v_at 60 (h.1 19) v1.2)).toInt64)), .retAddr 0, .int (v1.2 + 1)], [], h)
      exact hc1 (((31 * v1.1) + (((v_at 60 (h.1 19) v1.2)).toInt64)), (v1.2 + 1)) (by unfold s_B_hashBuffer_18; simp only [if_pos c1])
  · intro r1 hr2
    show am_Ev m_B_hashBuffer (WB ++ e1) (RO ++ e2) P (56, [.ref 38, .retAddr 0, .retAddr 0, .long r1.1, .retAddr 0, .int r1.2], [], h)
    refine am_Ev_G [] 400 _ ?_
    show P (.inl (some (.long r1.1))) h
    exact hP r1.1 (by unfold v_B_hashBuffer; simp only [hr2])
theorem ok_B_hashBuffer {l : Launch} (hl : l.stackTraces = false) (e1 e2 : List Sh) (k : Nat) : am_Ok l (WB ++ e1) (RO ++ e2) (d_B_hashBuffer k) := by
  refine am_met hl (own := RX5) (M := m_B_hashBuffer) rfl pf_B_hashBuffer cu_B_hashBuffer rfl rfl rfl rfl (fun _ => rfl) rfl ⟨chk_B_hashBuffer, (am_c (fl_B_38) (am_c (fl_B_161) (am_c (fl_B_348) am_n))), (am_c (lk_B_78) am_n), (am_c (ck_B_303) am_n), (am_n)⟩ (am_n) (am_c (ok_B_at hl _ _ 0) am_n) (fun z => nomatch z) ?_ ?_
  · intro _ as h hg
    show g_thr (g_B_hashBuffer (WB ++ e1) (RO ++ e2) as h) = none
    unfold g_B_hashBuffer
    split <;> rfl
  · intro as h hg hp
    revert hg hp
    show g_ok (g_B_hashBuffer (WB ++ e1) (RO ++ e2) as h) = true → g_pre (g_B_hashBuffer (WB ++ e1) (RO ++ e2) as h) → _ ∧ am_Ev m_B_hashBuffer (WB ++ e1) (RO ++ e2) (am_eq (g_B_hashBuffer (WB ++ e1) (RO ++ e2) as h)) (0, am_ent as 6, [], h)
    unfold g_B_hashBuffer
    split
    · rename_i o1 a1
      intro hc hp
      change (Nat.beq o1 38) = true at hc
      obtain rfl := am_beq hc
      exact ⟨Nat.le_of_ble_eq_true rfl, ev_B_hashBuffer h a1 hp eqRJ⟩
    · exact fun z => nomatch z
