/-! BusBlocksModel, out of its code (written by gen/meth.py). -/
noncomputable section
def k_M_append (pc : Nat) : Ent := bif Nat.ble 62 pc then am_nop else bif Nat.ble 32 pc then (bif Nat.ble 47 pc then (bif Nat.ble 53 pc then (bif Nat.ble 57 pc then (bif Nat.ble 58 pc then (bif Nat.ble 61 pc then (bif Nat.beq pc 61 then (.ireturn, 0, 0, []) else am_nop) else (bif Nat.beq pc 58 then (.getfield 163, 0, 0, []) else am_nop)) else (bif Nat.beq pc 57 then (.aload_n 0, 0, 0, []) else am_nop)) else (bif Nat.ble 54 pc then (bif Nat.beq pc 54 then (.putfield 163, 0, 0, []) else am_nop) else (bif Nat.beq pc 53 then (.iadd, 0, 0, []) else am_nop))) else (bif Nat.ble 49 pc then (bif Nat.ble 52 pc then (bif Nat.beq pc 52 then (.iconst 1, 1, 0, []) else am_nop) else (bif Nat.beq pc 49 then (.getfield 163, 0, 0, []) else am_nop)) else (bif Nat.ble 48 pc then (bif Nat.beq pc 48 then (.dup, 0, 0, []) else am_nop) else (bif Nat.beq pc 47 then (.aload_n 0, 0, 0, []) else am_nop)))) else (bif Nat.ble 38 pc then (bif Nat.ble 42 pc then (bif Nat.ble 45 pc then (bif Nat.ble 46 pc then (bif Nat.beq pc 46 then (.iastore, 0, 0, []) else am_nop) else (bif Nat.beq pc 45 then (.iload_n 1, 0, 1, []) else am_nop)) else (bif Nat.beq pc 42 then (.getfield 163, 0, 0, []) else am_nop)) else (bif Nat.ble 41 pc then (bif Nat.beq pc 41 then (.aload_n 0, 0, 0, []) else am_nop) else (bif Nat.beq pc 38 then (.getfield 26, 0, 0, []) else am_nop))) else (bif Nat.ble 36 pc then (bif Nat.ble 37 pc then (bif Nat.beq pc 37 then (.aload_n 0, 0, 0, []) else am_nop) else (bif Nat.beq pc 36 then (.ireturn, 0, 0, []) else am_nop)) else (bif Nat.ble 33 pc then (bif Nat.beq pc 33 then (.invokevirtual 134, 0, 0, []) else am_nop) else (bif Nat.beq pc 32 then (.iconst 2, 2, 0, []) else am_nop))))) else (bif Nat.ble 16 pc then (bif Nat.ble 22 pc then (bif Nat.ble 26 pc then (bif Nat.ble 28 pc then (bif Nat.ble 31 pc then (bif Nat.beq pc 31 then (.aload_n 0, 0, 0, []) else am_nop) else (bif Nat.beq pc 28 then (.if_icmp .ne 9, 0, 37, []) else am_nop)) else (bif Nat.beq pc 26 then (.bipush 60, 60, 0, []) else am_nop)) else (bif Nat.ble 23 pc then (bif Nat.beq pc 23 then (.getfield 163, 0, 0, []) else am_nop) else (bif Nat.beq pc 22 then (.aload_n 0, 0, 0, []) else am_nop))) else (bif Nat.ble 18 pc then (bif Nat.ble 21 pc then (bif Nat.beq pc 21 then (.ireturn, 0, 0, []) else am_nop) else (bif Nat.beq pc 18 then (.invokevirtual 134, 0, 0, []) else am_nop)) else (bif Nat.ble 17 pc then (bif Nat.beq pc 17 then (.iconst 1, 1, 0, []) else am_nop) else (bif Nat.beq pc 16 then (.aload_n 0, 0, 0, []) else am_nop)))) else (bif Nat.ble 6 pc then (bif Nat.ble 10 pc then (bif Nat.ble 13 pc then (bif Nat.beq pc 13 then (.ifCond .ne 9, 0, 22, []) else am_nop) else (bif Nat.beq pc 10 then (.invokestatic 127, 0, 0, []) else am_nop)) else (bif Nat.ble 8 pc then (bif Nat.beq pc 8 then (.bipush 126, 126, 0, []) else am_nop) else (bif Nat.beq pc 6 then (.bipush 33, 33, 0, []) else am_nop))) else (bif Nat.ble 2 pc then (bif Nat.ble 5 pc then (bif Nat.beq pc 5 then (.iload_n 1, 0, 1, []) else am_nop) else (bif Nat.beq pc 2 then (.putfield 38, 0, 0, []) else am_nop)) else (bif Nat.ble 1 pc then (bif Nat.beq pc 1 then (.iconst 0, 0, 0, []) else am_nop) else (bif Nat.beq pc 0 then (.aload_n 0, 0, 0, []) else am_nop)))))
theorem fl_M_26 : am_fok RX6 26 (6, 6) := ⟨RX6, TX6, 16, rfl, by decide, rfl, Or.inl (am_tb 890 (by decide +kernel) rfl)⟩
theorem fl_M_163 : am_fok RX6 163 (6, 7) := ⟨RX6, TX6, 16, rfl, by decide, rfl, Or.inl (am_tb 891 (by decide +kernel) rfl)⟩
def m_M_append : MI := (k_M_append, [(26, 6, 6), (38, 6, 8), (163, 6, 7)], [(127, d_M_in 0), (134, d_M_refuses 16)], [], [], [], [], 1, 22, some .int, fun _ => 0, 1)
def v_M_append (h : HP) (a1 : Int32) : Int32 × HP := (if (v_M_in (am_si h 0 8 0) a1 33 126) = 0 then (bnd (v_M_refuses (am_si h 0 8 0) 1) fun y2 => (y2.1, y2.2)) else (if (h.1 0 7) = 60 then (bnd (v_M_refuses (am_si h 0 8 0) 2) fun y1 => (y1.1, y1.2)) else (((h.1 0 7) + 1), (am_si (am_si (am_si h 0 8 0) 6 (am_ix (h.1 0 7)) a1) 0 7 ((h.1 0 7) + 1)))))
def p_M_append (h : HP) (a1 : Int32) : Prop := (((v_M_in (am_si h 0 8 0) a1 33 126) = 0 → True) ∧ (¬ (v_M_in (am_si h 0 8 0) a1 33 126) = 0 → (((h.1 0 7) = 60 → True) ∧ (¬ (h.1 0 7) = 60 → (am_in (h.1 0 7) 60)))))
def g_M_append (_ _ : List Sh) (as : List Value) (h : HP) : GR := match as with
  | [.ref o1, .int a1] => (Nat.beq o1 0, p_M_append h a1, none, some (.int (v_M_append h a1).1), (v_M_append h a1).2)
  | _ => bad h
def d_M_append (k : Nat) : CD := (k, yX6_append, cX6_append, 2, some .int, 2, 1, 22, 0, false, true, g_M_append)
theorem chk_M_append : ∀ pc, am_chk cX6_append k_M_append pc = true := am_chkall 62 (by decide +kernel) (fun pc h => by unfold k_M_append; rw [Nat.ble_eq_true_of_le h]; rfl)
theorem pf_M_append : plainFor yX6_append = true := by decide +kernel
theorem cu_M_append : Cond.code yX6_append cX6_append 2 (some .int) ∈ am_U := am_tb 1072 (by decide +kernel) rfl
set_option maxHeartbeats 20000000 in
set_option maxRecDepth 100000 in
theorem ev_M_append {e1 ro : List Sh} {P : AR → HP → Prop} (h : HP) (a1 : Int32) (hp : p_M_append h a1) (hP : ∀ q, v_M_append h a1 = q → RIW P h q) : am_Ev m_M_append (WM ++ e1) ro P (0, [.ref 0, .int a1], [], h) := by
  unfold p_M_append at hp
  refine am_Ev_G [5] 400 _ ?_
  show am_Ev m_M_append (WM ++ e1) ro P (5, [.ref 0, .int a1], [], (am_si h 0 8 0))
  refine am_Ev_G [13] 400 _ ?_
  show am_Ev m_M_append (WM ++ e1) ro P (13, [.ref 0, .int a1], [.int (v_M_in (am_si h 0 8 0) a1 33 126)], (am_si h 0 8 0))
  refine am_Ev_G [21, 36, 47] 400 _ ?_
  show ((¬ (v_M_in (am_si h 0 8 0) a1 33 126) = 0 → ((¬ (h.1 0 7) = 60 → ((am_in (h.1 0 7) 60) ∧ am_Ev m_M_append (WM ++ e1) ro P (47, [.ref 0, .int a1], [], (am_si (am_si h 0 8 0) 6 (am_ix (h.1 0 7)) a1)))) ∧ ((h.1 0 7) = 60 → am_Ev m_M_append (WM ++ e1) ro P (36, [.ref 0, .int a1], [.int ((v_M_refuses (am_si h 0 8 0) 2).1)], ((v_M_refuses (am_si h 0 8 0) 2).2))))) ∧ ((v_M_in (am_si h 0 8 0) a1 33 126) = 0 → am_Ev m_M_append (WM ++ e1) ro P (21, [.ref 0, .int a1], [.int ((v_M_refuses (am_si h 0 8 0) 1).1)], ((v_M_refuses (am_si h 0 8 0) 1).2))))
  refine ⟨fun c1 => ?_, fun c1 => ?_⟩
  · have hp := hp.2 c1
    refine ⟨fun c2 => ?_, fun c2 => ?_⟩
    · have hp := hp.2 c2
      refine ⟨hp, ?_⟩
      refine am_Ev_G [57] 400 _ ?_
      show am_Ev m_M_append (WM ++ e1) ro P (57, [.ref 0, .int a1], [], (am_si (am_si (am_si h 0 8 0) 6 (am_ix (h.1 0 7)) a1) 0 7 ((h.1 0 7) + 1)))
      refine am_Ev_G [] 400 _ ?_
      show P (.inl (some (.int ((h.1 0 7) + 1)))) (am_si (am_si (am_si h 0 8 0) 6 (am_ix (h.1 0 7)) a1) 0 7 ((h.1 0 7) + 1))
      exact hP (((h.1 0 7) + 1), (am_si (am_si (am_si h 0 8 0) 6 (am_ix (h.1 0 7)) a1) 0 7 ((h.1 0 7) + 1))) (by unfold v_M_append; simp only [if_neg c1, if_neg c2])
    · skip
      obtain ⟨y1, c3⟩ : ∃ y, v_M_refuses (am_si h 0 8 0) 2 = y := ⟨_, rfl⟩
      rw [c3]
      show am_Ev m_M_append (WM ++ e1) ro P (36, [.ref 0, .int a1], [.int y1.1], y1.2)
      refine am_Ev_G [] 400 _ ?_
      show P (.inl (some (.int y1.1))) y1.2
      exact hP (y1.1, y1.2) (by unfold v_M_append; simp only [if_neg c1, if_pos c2, bnd, c3])
  · skip
    obtain ⟨y2, c4⟩ : ∃ y, v_M_refuses (am_si h 0 8 0) 1 = y := ⟨_, rfl⟩
    rw [c4]
    show am_Ev m_M_append (WM ++ e1) ro P (21, [.ref 0, .int a1], [.int y2.1], y2.2)
    refine am_Ev_G [] 400 _ ?_
    show P (.inl (some (.int y2.1))) y2.2
    exact hP (y2.1, y2.2) (by unfold v_M_append; simp only [if_pos c1, bnd, c4])
theorem ok_M_append {l : Launch} (hl : l.stackTraces = false) (e1 ro : List Sh) (k : Nat) : am_Ok l (WM ++ e1) ro (d_M_append k) := by
  refine am_met hl (own := RX6) (M := m_M_append) rfl pf_M_append cu_M_append rfl rfl rfl rfl (fun _ => rfl) rfl ⟨chk_M_append, (am_c (fl_M_26) (am_c (fl_M_38) (am_c (fl_M_163) am_n))), (am_c (lk_M_127) (am_c (lk_M_134) am_n)), (am_n), (am_n)⟩ (am_n) (am_c (ok_M_in hl e1 _ 0) (am_c (ok_M_refuses hl e1 _ 16) am_n)) (fun z => nomatch z) ?_ ?_
  · intro _ as h hg
    show g_thr (g_M_append (WM ++ e1) ro as h) = none
    unfold g_M_append
    split <;> rfl
  · intro as h hg hp
    revert hg hp
    show g_ok (g_M_append (WM ++ e1) ro as h) = true → g_pre (g_M_append (WM ++ e1) ro as h) → _ ∧ am_Ev m_M_append (WM ++ e1) ro (am_eq (g_M_append (WM ++ e1) ro as h)) (0, am_ent as 2, [], h)
    unfold g_M_append
    split
    · rename_i o1 a1
      intro hc hp
      change (Nat.beq o1 0) = true at hc
      obtain rfl := am_beq hc
      exact ⟨Nat.le_of_ble_eq_true rfl, ev_M_append h a1 hp eqRIW⟩
    · exact fun z => nomatch z
def k_M_clearBuffer (pc : Nat) : Ent := bif Nat.ble 17 pc then am_nop else bif Nat.ble 9 pc then (bif Nat.ble 12 pc then (bif Nat.ble 15 pc then (bif Nat.ble 16 pc then (bif Nat.beq pc 16 then (.ireturn, 0, 0, []) else am_nop) else (bif Nat.beq pc 15 then (.iload_n 1, 0, 1, []) else am_nop)) else (bif Nat.beq pc 12 then (.putfield 163, 0, 0, []) else am_nop)) else (bif Nat.ble 10 pc then (bif Nat.ble 11 pc then (bif Nat.beq pc 11 then (.iconst 0, 0, 0, []) else am_nop) else (bif Nat.beq pc 10 then (.aload_n 0, 0, 0, []) else am_nop)) else (bif Nat.beq pc 9 then (.istore_n 1, 0, 1, []) else am_nop))) else (bif Nat.ble 2 pc then (bif Nat.ble 5 pc then (bif Nat.ble 6 pc then (bif Nat.beq pc 6 then (.getfield 163, 0, 0, []) else am_nop) else (bif Nat.beq pc 5 then (.aload_n 0, 0, 0, []) else am_nop)) else (bif Nat.beq pc 2 then (.putfield 38, 0, 0, []) else am_nop)) else (bif Nat.ble 1 pc then (bif Nat.beq pc 1 then (.iconst 0, 0, 0, []) else am_nop) else (bif Nat.beq pc 0 then (.aload_n 0, 0, 0, []) else am_nop)))
def m_M_clearBuffer : MI := (k_M_clearBuffer, [(38, 6, 8), (163, 6, 7)], [], [], [], [], [], 0, 0, some .int, fun _ => 0, 1)
def v_M_clearBuffer (h : HP) : Int32 × HP := (h.1 0 7, (am_si (am_si h 0 8 0) 0 7 0))
def g_M_clearBuffer (_ _ : List Sh) (as : List Value) (h : HP) : GR := match as with
  | [.ref o1] => (Nat.beq o1 0, True, none, some (.int (v_M_clearBuffer h).1), (v_M_clearBuffer h).2)
  | _ => bad h
def d_M_clearBuffer (k : Nat) : CD := (k, yX6_clearBuffer, cX6_clearBuffer, 2, some .int, 1, 0, 0, 0, false, false, g_M_clearBuffer)
theorem chk_M_clearBuffer : ∀ pc, am_chk cX6_clearBuffer k_M_clearBuffer pc = true := am_chkall 17 (by decide +kernel) (fun pc h => by unfold k_M_clearBuffer; rw [Nat.ble_eq_true_of_le h]; rfl)
theorem pf_M_clearBuffer : plainFor yX6_clearBuffer = true := by decide +kernel
theorem cu_M_clearBuffer : Cond.code yX6_clearBuffer cX6_clearBuffer 2 (some .int) ∈ am_U := am_tb 1076 (by decide +kernel) rfl
set_option maxHeartbeats 20000000 in
set_option maxRecDepth 100000 in
theorem ev_M_clearBuffer {e1 ro : List Sh} {P : AR → HP → Prop} (h : HP) (hP : ∀ q, v_M_clearBuffer h = q → RIW P h q) : am_Ev m_M_clearBuffer (WM ++ e1) ro P (0, [.ref 0, .retAddr 0], [], h) := by
  refine am_Ev_G [5] 400 _ ?_
  show am_Ev m_M_clearBuffer (WM ++ e1) ro P (5, [.ref 0, .retAddr 0], [], (am_si h 0 8 0))
  refine am_Ev_G [15] 400 _ ?_
  show am_Ev m_M_clearBuffer (WM ++ e1) ro P (15, [.ref 0, .int (h.1 0 7)], [], (am_si (am_si h 0 8 0) 0 7 0))
  refine am_Ev_G [] 400 _ ?_
  show P (.inl (some (.int (h.1 0 7)))) (am_si (am_si h 0 8 0) 0 7 0)
  exact hP (h.1 0 7, (am_si (am_si h 0 8 0) 0 7 0)) rfl
theorem ok_M_clearBuffer {l : Launch} (hl : l.stackTraces = false) (e1 ro : List Sh) (k : Nat) : am_Ok l (WM ++ e1) ro (d_M_clearBuffer k) := by
  refine am_met hl (own := RX6) (M := m_M_clearBuffer) rfl pf_M_clearBuffer cu_M_clearBuffer rfl rfl rfl rfl (fun _ => rfl) rfl ⟨chk_M_clearBuffer, (am_c (fl_M_38) (am_c (fl_M_163) am_n)), (am_n), (am_n), (am_n)⟩ (am_n) (am_n) ?_ ?_ ?_
  · intro _ as h hg
    show g_pre (g_M_clearBuffer (WM ++ e1) ro as h)
    unfold g_M_clearBuffer
    split <;> exact trivial
  · intro _ as h hg
    show g_thr (g_M_clearBuffer (WM ++ e1) ro as h) = none
    unfold g_M_clearBuffer
    split <;> rfl
  · intro as h hg hp
    revert hg hp
    show g_ok (g_M_clearBuffer (WM ++ e1) ro as h) = true → g_pre (g_M_clearBuffer (WM ++ e1) ro as h) → _ ∧ am_Ev m_M_clearBuffer (WM ++ e1) ro (am_eq (g_M_clearBuffer (WM ++ e1) ro as h)) (0, am_ent as 2, [], h)
    unfold g_M_clearBuffer
    split
    · rename_i o1
      intro hc hp
      change (Nat.beq o1 0) = true at hc
      obtain rfl := am_beq hc
      exact ⟨Nat.le_of_ble_eq_true rfl, ev_M_clearBuffer h eqRIW⟩
    · exact fun z => nomatch z
def k_M_sees (pc : Nat) : Ent := bif Nat.ble 34 pc then am_nop else bif Nat.ble 19 pc then (bif Nat.ble 25 pc then (bif Nat.ble 29 pc then (bif Nat.ble 32 pc then (bif Nat.ble 33 pc then (bif Nat.beq pc 33 then (.ireturn, 0, 0, []) else am_nop) else (bif Nat.beq pc 32 then (.iconst 0, 0, 0, []) else am_nop)) else (bif Nat.beq pc 29 then (.goto 4, 0, 33, []) else am_nop)) else (bif Nat.ble 28 pc then (bif Nat.beq pc 28 then (.iconst 1, 1, 0, []) else am_nop) else (bif Nat.beq pc 25 then (.ifCond .eq 7, 0, 32, []) else am_nop))) else (bif Nat.ble 21 pc then (bif Nat.ble 22 pc then (bif Nat.beq pc 22 then (.invokestatic 127, 0, 0, []) else am_nop) else (bif Nat.beq pc 21 then (.iload_n 2, 0, 2, []) else am_nop)) else (bif Nat.ble 20 pc then (bif Nat.beq pc 20 then (.iload_n 1, 0, 1, []) else am_nop) else (bif Nat.beq pc 19 then (.iaload, 0, 0, []) else am_nop)))) else (bif Nat.ble 8 pc then (bif Nat.ble 12 pc then (bif Nat.ble 15 pc then (bif Nat.ble 16 pc then (bif Nat.beq pc 16 then (.getfield 166, 0, 0, []) else am_nop) else (bif Nat.beq pc 15 then (.aload_n 0, 0, 0, []) else am_nop)) else (bif Nat.beq pc 12 then (.getfield 26, 0, 0, []) else am_nop)) else (bif Nat.ble 11 pc then (bif Nat.beq pc 11 then (.aload_n 0, 0, 0, []) else am_nop) else (bif Nat.beq pc 8 then (.if_icmp .ge 24, 0, 32, []) else am_nop))) else (bif Nat.ble 4 pc then (bif Nat.ble 5 pc then (bif Nat.beq pc 5 then (.getfield 163, 0, 0, []) else am_nop) else (bif Nat.beq pc 4 then (.aload_n 0, 0, 0, []) else am_nop)) else (bif Nat.ble 1 pc then (bif Nat.beq pc 1 then (.getfield 166, 0, 0, []) else am_nop) else (bif Nat.beq pc 0 then (.aload_n 0, 0, 0, []) else am_nop))))
theorem fl_M_166 : am_fok RX6 166 (6, 12) := ⟨RX6, TX6, 16, rfl, by decide, rfl, Or.inl (am_tb 896 (by decide +kernel) rfl)⟩
def m_M_sees : MI := (k_M_sees, [(26, 6, 6), (163, 6, 7), (166, 6, 12)], [(127, d_M_in 0)], [], [], [], [], 1, 22, some .boolean, fun _ => 0, 1)
def v_M_sees (h : HP) (a1 : Int32) (a2 : Int32) : Int32 := (if (h.1 0 12) < (h.1 0 7) then (if (v_M_in h (h.1 6 (am_ix (h.1 0 12))) a1 a2) = 0 then (0 : Int32) else 1) else 0)
def p_M_sees (h : HP) (a1 : Int32) (a2 : Int32) : Prop := (((h.1 0 12) < (h.1 0 7) → (am_in (h.1 0 12) 60)) ∧ (¬ (h.1 0 12) < (h.1 0 7) → True))
def g_M_sees (_ _ : List Sh) (as : List Value) (h : HP) : GR := match as with
  | [.ref o1, .int a1, .int a2] => (Nat.beq o1 0, p_M_sees h a1 a2, none, some (.int (v_M_sees h a1 a2)), h)
  | _ => bad h
def d_M_sees (k : Nat) : CD := (k, yX6_sees, cX6_sees, 3, some .boolean, 3, 1, 22, 0, false, true, g_M_sees)
theorem chk_M_sees : ∀ pc, am_chk cX6_sees k_M_sees pc = true := am_chkall 34 (by decide +kernel) (fun pc h => by unfold k_M_sees; rw [Nat.ble_eq_true_of_le h]; rfl)
theorem pf_M_sees : plainFor yX6_sees = true := by decide +kernel
theorem cu_M_sees : Cond.code yX6_sees cX6_sees 3 (some .boolean) ∈ am_U := am_tb 1096 (by decide +kernel) rfl
set_option maxHeartbeats 20000000 in
set_option maxRecDepth 100000 in
theorem ev_M_sees {e1 ro : List Sh} {P : AR → HP → Prop} (h : HP) (a1 : Int32) (a2 : Int32) (hp : p_M_sees h a1 a2) (hP : ∀ q, v_M_sees h a1 a2 = q → RI P h q) : am_Ev m_M_sees (WM ++ e1) ro P (0, [.ref 0, .int a1, .int a2], [], h) := by
  unfold p_M_sees at hp
  refine am_Ev_G [8] 400 _ ?_
  show am_Ev m_M_sees (WM ++ e1) ro P (8, [.ref 0, .int a1, .int a2], [.int (h.1 0 7), .int (h.1 0 12)], h)
  have hpa := hp
  have key1 : am_Ev m_M_sees (WM ++ e1) ro P (33, [.ref 0, .int a1, .int a2], [.int (if (h.1 0 12) < (h.1 0 7) then (if (v_M_in h (h.1 6 (am_ix (h.1 0 12))) a1 a2) = 0 then (0 : Int32) else 1) else 0)], h) := by
    refine am_Ev_G [] 400 _ ?_
    show (((((if (h.1 0 12) < (h.1 0 7) then (if (v_M_in h (h.1 6 (am_ix (h.1 0 12))) a1 a2) = 0 then (0 : Int32) else 1) else 0) : Int32) = 0 ∨ ((if (h.1 0 12) < (h.1 0 7) then (if (v_M_in h (h.1 6 (am_ix (h.1 0 12))) a1 a2) = 0 then (0 : Int32) else 1) else 0) : Int32) = 1)) ∧ P (.inl (some (.int (if (h.1 0 12) < (h.1 0 7) then (if (v_M_in h (h.1 6 (am_ix (h.1 0 12))) a1 a2) = 0 then (0 : Int32) else 1) else 0)))) h)
    refine ⟨(by (repeat' split) <;> decide), ?_⟩
    exact hP (if (h.1 0 12) < (h.1 0 7) then (if (v_M_in h (h.1 6 (am_ix (h.1 0 12))) a1 a2) = 0 then (0 : Int32) else 1) else 0) rfl
  have hp := hpa
  refine am_Ev_G [33] 400 _ ?_
  show ((¬ (h.1 0 12) < (h.1 0 7) → am_Ev m_M_sees (WM ++ e1) ro P (33, [.ref 0, .int a1, .int a2], [.int 0], h)) ∧ ((h.1 0 12) < (h.1 0 7) → ((am_in (h.1 0 12) 60) ∧ (((v_M_in h (h.1 6 (am_ix (h.1 0 12))) a1 a2) = 0 → am_Ev m_M_sees (WM ++ e1) ro P (33, [.ref 0, .int a1, .int a2], [.int 0], h)) ∧ (¬ (v_M_in h (h.1 6 (am_ix (h.1 0 12))) a1 a2) = 0 → am_Ev m_M_sees (WM ++ e1) ro P (33, [.ref 0, .int a1, .int a2], [.int 1], h))))))
  refine ⟨fun c2 => ?_, fun c2 => ?_⟩
  · skip
    simpa only [if_neg c2] using key1
  · have hp := hp.1 c2
    refine ⟨hp, ?_⟩
    refine ⟨fun c3 => ?_, fun c3 => ?_⟩
    · skip
      simpa only [if_pos c2, if_pos c3] using key1
    · skip
      simpa only [if_pos c2, if_neg c3] using key1
theorem ok_M_sees {l : Launch} (hl : l.stackTraces = false) (e1 ro : List Sh) (k : Nat) : am_Ok l (WM ++ e1) ro (d_M_sees k) := by
  refine am_met hl (own := RX6) (M := m_M_sees) rfl pf_M_sees cu_M_sees rfl rfl rfl rfl (fun _ => rfl) rfl ⟨chk_M_sees, (am_c (fl_M_26) (am_c (fl_M_163) (am_c (fl_M_166) am_n))), (am_c (lk_M_127) am_n), (am_n), (am_n)⟩ (am_n) (am_c (ok_M_in hl e1 _ 0) am_n) (fun z => nomatch z) ?_ ?_
  · intro _ as h hg
    show g_thr (g_M_sees (WM ++ e1) ro as h) = none
    unfold g_M_sees
    split <;> rfl
  · intro as h hg hp
    revert hg hp
    show g_ok (g_M_sees (WM ++ e1) ro as h) = true → g_pre (g_M_sees (WM ++ e1) ro as h) → _ ∧ am_Ev m_M_sees (WM ++ e1) ro (am_eq (g_M_sees (WM ++ e1) ro as h)) (0, am_ent as 3, [], h)
    unfold g_M_sees
    split
    · rename_i o1 a1 a2
      intro hc hp
      change (Nat.beq o1 0) = true at hc
      obtain rfl := am_beq hc
      exact ⟨Nat.le_of_ble_eq_true rfl, ev_M_sees h a1 a2 hp eqRI⟩
    · exact fun z => nomatch z
def k_M_takes (pc : Nat) : Ent := bif Nat.ble 27 pc then am_nop else bif Nat.ble 12 pc then (bif Nat.ble 20 pc then (bif Nat.ble 22 pc then (bif Nat.ble 25 pc then (bif Nat.ble 26 pc then (bif Nat.beq pc 26 then (.ireturn, 0, 0, []) else am_nop) else (bif Nat.beq pc 25 then (.iload_n 2, 0, 2, []) else am_nop)) else (bif Nat.beq pc 22 then (.putfield 166, 0, 0, []) else am_nop)) else (bif Nat.ble 21 pc then (bif Nat.beq pc 21 then (.iadd, 0, 0, []) else am_nop) else (bif Nat.beq pc 20 then (.iconst 0, 0, 0, []) else am_nop))) else (bif Nat.ble 16 pc then (bif Nat.ble 17 pc then (bif Nat.beq pc 17 then (.goto 4, 0, 21, []) else am_nop) else (bif Nat.beq pc 16 then (.iconst 1, 1, 0, []) else am_nop)) else (bif Nat.ble 13 pc then (bif Nat.beq pc 13 then (.ifCond .eq 7, 0, 20, []) else am_nop) else (bif Nat.beq pc 12 then (.iload_n 2, 0, 2, []) else am_nop)))) else (bif Nat.ble 6 pc then (bif Nat.ble 8 pc then (bif Nat.ble 9 pc then (bif Nat.beq pc 9 then (.getfield 166, 0, 0, []) else am_nop) else (bif Nat.beq pc 8 then (.dup, 0, 0, []) else am_nop)) else (bif Nat.ble 7 pc then (bif Nat.beq pc 7 then (.aload_n 0, 0, 0, []) else am_nop) else (bif Nat.beq pc 6 then (.istore_n 2, 0, 2, []) else am_nop))) else (bif Nat.ble 2 pc then (bif Nat.ble 3 pc then (bif Nat.beq pc 3 then (.invokevirtual 169, 0, 0, []) else am_nop) else (bif Nat.beq pc 2 then (.iload_n 1, 0, 1, []) else am_nop)) else (bif Nat.ble 1 pc then (bif Nat.beq pc 1 then (.iload_n 1, 0, 1, []) else am_nop) else (bif Nat.beq pc 0 then (.aload_n 0, 0, 0, []) else am_nop))))
theorem lk_M_169 : am_lnk RX6 169 (d_M_sees 16) := ⟨⟨by decide, by decide⟩, am_tb 8 (by decide +kernel) rfl, Or.inr ⟨by decide, rfl, am_tb 1095 (by decide +kernel) rfl, am_tp 92 (by decide +kernel) rfl, ⟨TX6, 16, rfl⟩, Or.inl (am_tb 1093 (by decide +kernel) rfl)⟩⟩
def m_M_takes : MI := (k_M_takes, [(166, 6, 12)], [(169, d_M_sees 16)], [], [], [], [], 2, 44, some .boolean, fun _ => 0, 1)
def v_M_takes (h : HP) (a1 : Int32) : Int32 × HP := ((v_M_sees h a1 a1), (am_si h 0 12 ((h.1 0 12) + (if (v_M_sees h a1 a1) = 0 then (0 : Int32) else 1))))
def p_M_takes (h : HP) (a1 : Int32) : Prop := ((p_M_sees h a1 a1) ∧ ((((v_M_sees h a1 a1) : Int32) = 0 ∨ ((v_M_sees h a1 a1) : Int32) = 1)))
def g_M_takes (_ _ : List Sh) (as : List Value) (h : HP) : GR := match as with
  | [.ref o1, .int a1] => (Nat.beq o1 0, p_M_takes h a1, none, some (.int (v_M_takes h a1).1), (v_M_takes h a1).2)
  | _ => bad h
def d_M_takes (k : Nat) : CD := (k, yX6_takes, cX6_takes, 3, some .boolean, 2, 2, 44, 0, false, true, g_M_takes)
theorem chk_M_takes : ∀ pc, am_chk cX6_takes k_M_takes pc = true := am_chkall 27 (by decide +kernel) (fun pc h => by unfold k_M_takes; rw [Nat.ble_eq_true_of_le h]; rfl)
theorem pf_M_takes : plainFor yX6_takes = true := by decide +kernel
theorem cu_M_takes : Cond.code yX6_takes cX6_takes 3 (some .boolean) ∈ am_U := am_tb 1100 (by decide +kernel) rfl
set_option maxHeartbeats 20000000 in
set_option maxRecDepth 100000 in
theorem ev_M_takes {e1 ro : List Sh} {P : AR → HP → Prop} (h : HP) (a1 : Int32) (hp : p_M_takes h a1) (hP : ∀ q, v_M_takes h a1 = q → RIW P h q) : am_Ev m_M_takes (WM ++ e1) ro P (0, [.ref 0, .int a1, .retAddr 0], [], h) := by
  unfold p_M_takes at hp
  refine am_Ev_G [13] 400 _ ?_
  show ((p_M_sees h a1 a1) ∧ am_Ev m_M_takes (WM ++ e1) ro P (13, [.ref 0, .int a1, .int (v_M_sees h a1 a1)], [.int (v_M_sees h a1 a1), .int (h.1 0 12), .ref 0], h))
  obtain ⟨hob, hp⟩ := hp
  refine ⟨hob, ?_⟩
  have key1 : am_Ev m_M_takes (WM ++ e1) ro P (21, [.ref 0, .int a1, .int (v_M_sees h a1 a1)], [.int (if (v_M_sees h a1 a1) = 0 then (0 : Int32) else 1), .int (h.1 0 12), .ref 0], h) := by
    refine am_Ev_G [25] 400 _ ?_
    show am_Ev m_M_takes (WM ++ e1) ro P (25, [.ref 0, .int a1, .int (v_M_sees h a1 a1)], [], (am_si h 0 12 ((h.1 0 12) + (if (v_M_sees h a1 a1) = 0 then (0 : Int32) else 1))))
    refine am_Ev_G [] 400 _ ?_
    show (((((v_M_sees h a1 a1) : Int32) = 0 ∨ ((v_M_sees h a1 a1) : Int32) = 1)) ∧ P (.inl (some (.int (v_M_sees h a1 a1)))) (am_si h 0 12 ((h.1 0 12) + (if (v_M_sees h a1 a1) = 0 then (0 : Int32) else 1))))
    refine ⟨hp, ?_⟩
    exact hP ((v_M_sees h a1 a1), (am_si h 0 12 ((h.1 0 12) + (if (v_M_sees h a1 a1) = 0 then (0 : Int32) else 1)))) rfl
  refine am_Ev_G [21] 400 _ ?_
  show (((v_M_sees h a1 a1) = 0 → am_Ev m_M_takes (WM ++ e1) ro P (21, [.ref 0, .int a1, .int (v_M_sees h a1 a1)], [.int 0, .int (h.1 0 12), .ref 0], h)) ∧ (¬ (v_M_sees h a1 a1) = 0 → am_Ev m_M_takes (WM ++ e1) ro P (21, [.ref 0, .int a1, .int (v_M_sees h a1 a1)], [.int 1, .int (h.1 0 12), .ref 0], h)))
  refine ⟨fun c2 => ?_, fun c2 => ?_⟩
  · skip
    simpa only [if_pos c2] using key1
  · skip
    simpa only [if_neg c2] using key1
theorem ok_M_takes {l : Launch} (hl : l.stackTraces = false) (e1 ro : List Sh) (k : Nat) : am_Ok l (WM ++ e1) ro (d_M_takes k) := by
  refine am_met hl (own := RX6) (M := m_M_takes) rfl pf_M_takes cu_M_takes rfl rfl rfl rfl (fun _ => rfl) rfl ⟨chk_M_takes, (am_c (fl_M_166) am_n), (am_c (lk_M_169) am_n), (am_n), (am_n)⟩ (am_n) (am_c (ok_M_sees hl e1 _ 16) am_n) (fun z => nomatch z) ?_ ?_
  · intro _ as h hg
    show g_thr (g_M_takes (WM ++ e1) ro as h) = none
    unfold g_M_takes
    split <;> rfl
  · intro as h hg hp
    revert hg hp
    show g_ok (g_M_takes (WM ++ e1) ro as h) = true → g_pre (g_M_takes (WM ++ e1) ro as h) → _ ∧ am_Ev m_M_takes (WM ++ e1) ro (am_eq (g_M_takes (WM ++ e1) ro as h)) (0, am_ent as 3, [], h)
    unfold g_M_takes
    split
    · rename_i o1 a1
      intro hc hp
      change (Nat.beq o1 0) = true at hc
      obtain rfl := am_beq hc
      exact ⟨Nat.le_of_ble_eq_true rfl, ev_M_takes h a1 hp eqRIW⟩
    · exact fun z => nomatch z
end
