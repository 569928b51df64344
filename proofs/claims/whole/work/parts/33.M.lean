/-! BusBlocksModel, out of its code (written by gen/meth.py). -/
def k_M_goBack (pc : Nat) : Ent := bif Nat.ble 64 pc then am_nop else bif Nat.ble 30 pc then (bif Nat.ble 47 pc then (bif Nat.ble 56 pc then (bif Nat.ble 60 pc then (bif Nat.ble 62 pc then (bif Nat.ble 63 pc then (bif Nat.beq pc 63 then (.ireturn, 0, 0, []) else am_nop) else (bif Nat.beq pc 62 then (.iaload, 0, 0, []) else am_nop)) else (bif Nat.beq pc 60 then (.bipush 15, 15, 0, []) else am_nop)) else (bif Nat.ble 57 pc then (bif Nat.beq pc 57 then (.getfield 7, 0, 0, []) else am_nop) else (bif Nat.beq pc 56 then (.aload_n 0, 0, 0, []) else am_nop))) else (bif Nat.ble 49 pc then (bif Nat.ble 52 pc then (bif Nat.ble 53 pc then (bif Nat.beq pc 53 then (.invokestatic 45, 0, 0, []) else am_nop) else (bif Nat.beq pc 52 then (.iconst 0, 0, 0, []) else am_nop)) else (bif Nat.beq pc 49 then (.getfield 7, 0, 0, []) else am_nop)) else (bif Nat.ble 48 pc then (bif Nat.beq pc 48 then (.aload_n 0, 0, 0, []) else am_nop) else (bif Nat.beq pc 47 then (.imul, 0, 0, []) else am_nop)))) else (bif Nat.ble 36 pc then (bif Nat.ble 40 pc then (bif Nat.ble 43 pc then (bif Nat.ble 46 pc then (bif Nat.beq pc 46 then (.iload_n 1, 0, 1, []) else am_nop) else (bif Nat.beq pc 43 then (.sipush 163, 163, 0, []) else am_nop)) else (bif Nat.beq pc 40 then (.getfield 19, 0, 0, []) else am_nop)) else (bif Nat.ble 39 pc then (bif Nat.beq pc 39 then (.aload_n 0, 0, 0, []) else am_nop) else (bif Nat.beq pc 36 then (.invokevirtual 137, 0, 0, []) else am_nop))) else (bif Nat.ble 34 pc then (bif Nat.ble 35 pc then (bif Nat.beq pc 35 then (.aload_n 0, 0, 0, []) else am_nop) else (bif Nat.beq pc 34 then (.ireturn, 0, 0, []) else am_nop)) else (bif Nat.ble 31 pc then (bif Nat.beq pc 31 then (.invokevirtual 134, 0, 0, []) else am_nop) else (bif Nat.beq pc 30 then (.iconst 2, 2, 0, []) else am_nop))))) else (bif Nat.ble 15 pc then (bif Nat.ble 21 pc then (bif Nat.ble 25 pc then (bif Nat.ble 26 pc then (bif Nat.ble 29 pc then (bif Nat.beq pc 29 then (.aload_n 0, 0, 0, []) else am_nop) else (bif Nat.beq pc 26 then (.ifCond .ne 9, 0, 35, []) else am_nop)) else (bif Nat.beq pc 25 then (.baload, 0, 0, []) else am_nop)) else (bif Nat.ble 24 pc then (bif Nat.beq pc 24 then (.iload_n 1, 0, 1, []) else am_nop) else (bif Nat.beq pc 21 then (.getfield 22, 0, 0, []) else am_nop))) else (bif Nat.ble 19 pc then (bif Nat.ble 20 pc then (bif Nat.beq pc 20 then (.aload_n 0, 0, 0, []) else am_nop) else (bif Nat.beq pc 19 then (.ireturn, 0, 0, []) else am_nop)) else (bif Nat.ble 16 pc then (bif Nat.beq pc 16 then (.invokevirtual 134, 0, 0, []) else am_nop) else (bif Nat.beq pc 15 then (.iconst 1, 1, 0, []) else am_nop)))) else (bif Nat.ble 6 pc then (bif Nat.ble 8 pc then (bif Nat.ble 11 pc then (bif Nat.ble 14 pc then (bif Nat.beq pc 14 then (.aload_n 0, 0, 0, []) else am_nop) else (bif Nat.beq pc 11 then (.ifCond .ne 9, 0, 20, []) else am_nop)) else (bif Nat.beq pc 8 then (.invokestatic 127, 0, 0, []) else am_nop)) else (bif Nat.ble 7 pc then (bif Nat.beq pc 7 then (.iconst 1, 1, 0, []) else am_nop) else (bif Nat.beq pc 6 then (.iconst 0, 0, 0, []) else am_nop))) else (bif Nat.ble 2 pc then (bif Nat.ble 5 pc then (bif Nat.beq pc 5 then (.iload_n 1, 0, 1, []) else am_nop) else (bif Nat.beq pc 2 then (.putfield 38, 0, 0, []) else am_nop)) else (bif Nat.ble 1 pc then (bif Nat.beq pc 1 then (.iconst 0, 0, 0, []) else am_nop) else (bif Nat.beq pc 0 then (.aload_n 0, 0, 0, []) else am_nop)))))
def m_M_goBack : MI := (k_M_goBack, [(7, 6, 0), (19, 6, 4), (22, 6, 5), (38, 6, 8)], [(45, d_M_lays 0), (127, d_M_in 0), (134, d_M_refuses 16), (137, d_M_saves 16)], [], [], [], [], 2, 45, some .int, fun _ => 0, 1)
def v_M_goBack (h : HP) (a1 : Int32) : Int32 × HP := (if (v_M_in (am_si h 0 8 0) a1 0 1) = 0 then (bnd (v_M_refuses (am_si h 0 8 0) 1) fun y3 => (y3.1, y3.2)) else (if ((am_si h 0 8 0).1 5 (am_ix a1)) = 0 then (bnd (v_M_refuses (am_si h 0 8 0) 2) fun y2 => (y2.1, y2.2)) else (bnd (v_M_saves (am_si h 0 8 0)) fun y1 => ((v_lays y1 4 (163 * a1) 1 0).1 1 (am_ix 15), (v_lays y1 4 (163 * a1) 1 0)))))
def p_M_goBack (h : HP) (a1 : Int32) : Prop := (((v_M_in (am_si h 0 8 0) a1 0 1) = 0 → True) ∧ (¬ (v_M_in (am_si h 0 8 0) a1 0 1) = 0 → ((am_in a1 2) ∧ ((((am_si h 0 8 0).1 5 (am_ix a1)) = 0 → True) ∧ (¬ ((am_si h 0 8 0).1 5 (am_ix a1)) = 0 → ((p_M_saves (am_si h 0 8 0)) ∧ (∀ y1, v_M_saves (am_si h 0 8 0) = y1 → (p_lays (163 * a1) 0 326 163))))))))
def g_M_goBack (_ _ : List Sh) (as : List Value) (h : HP) : GR := match as with
  | [.ref o1, .int a1] => (Nat.beq o1 0, p_M_goBack h a1, none, some (.int (v_M_goBack h a1).1), (v_M_goBack h a1).2)
  | _ => bad h
def d_M_goBack (k : Nat) : CD := (k, yX6_goBack, cX6_goBack, 2, some .int, 2, 2, 45, 0, false, true, g_M_goBack)
theorem chk_M_goBack : ∀ pc, am_chk cX6_goBack k_M_goBack pc = true := am_chkall 64 (by decide +kernel) (fun pc h => by unfold k_M_goBack; rw [Nat.ble_eq_true_of_le h]; rfl)
theorem pf_M_goBack : plainFor yX6_goBack = true := by decide +kernel
theorem cu_M_goBack : Cond.code yX6_goBack cX6_goBack 2 (some .int) ∈ am_U := am_tb 1116 (by decide +kernel) rfl
set_option maxHeartbeats 20000000 in
set_option maxRecDepth 100000 in
theorem ev_M_goBack {e1 ro : List Sh} {P : AR → HP → Prop} (h : HP) (a1 : Int32) (hp : p_M_goBack h a1) (hP : ∀ q, v_M_goBack h a1 = q → RIW P h q) : am_Ev m_M_goBack (WM ++ e1) ro P (0, [.ref 0, .int a1], [], h) := by
  unfold p_M_goBack at hp
  refine am_Ev_G [11] 400 _ ?_
  show am_Ev m_M_goBack (WM ++ e1) ro P (11, [.ref 0, .int a1], [.int (v_M_in (am_si h 0 8 0) a1 0 1)], (am_si h 0 8 0))
  refine am_Ev_G [19, 34, 39] 400 _ ?_
  show ((¬ (v_M_in (am_si h 0 8 0) a1 0 1) = 0 → ((am_in a1 2) ∧ ((¬ ((am_si h 0 8 0).1 5 (am_ix a1)) = 0 → ((p_M_saves (am_si h 0 8 0)) ∧ am_Ev m_M_goBack (WM ++ e1) ro P (39, [.ref 0, .int a1], [], (v_M_saves (am_si h 0 8 0))))) ∧ (((am_si h 0 8 0).1 5 (am_ix a1)) = 0 → am_Ev m_M_goBack (WM ++ e1) ro P (34, [.ref 0, .int a1], [.int ((v_M_refuses (am_si h 0 8 0) 2).1)], ((v_M_refuses (am_si h 0 8 0) 2).2)))))) ∧ ((v_M_in (am_si h 0 8 0) a1 0 1) = 0 → am_Ev m_M_goBack (WM ++ e1) ro P (19, [.ref 0, .int a1], [.int ((v_M_refuses (am_si h 0 8 0) 1).1)], ((v_M_refuses (am_si h 0 8 0) 1).2))))
  refine ⟨fun c1 => ?_, fun c1 => ?_⟩
  · have hp := hp.2 c1
    obtain ⟨hob, hp⟩ := hp
    refine ⟨hob, ?_⟩
    refine ⟨fun c2 => ?_, fun c2 => ?_⟩
    · have hp := hp.2 c2
      obtain ⟨hob, hp⟩ := hp
      refine ⟨hob, ?_⟩
      obtain ⟨y1, c3⟩ : ∃ y, v_M_saves (am_si h 0 8 0) = y := ⟨_, rfl⟩
      rw [c3]
      have hp := hp _ c3
      show am_Ev m_M_goBack (WM ++ e1) ro P (39, [.ref 0, .int a1], [], y1)
      refine am_Ev_G [56] 400 _ ?_
      show ((p_lays (163 * a1) 0 326 163) ∧ am_Ev m_M_goBack (WM ++ e1) ro P (56, [.ref 0, .int a1], [], (v_lays y1 4 (163 * a1) 1 0)))
      refine ⟨hp, ?_⟩
      refine am_Ev_G [] 400 _ ?_
      show ((am_in 15 163) ∧ P (.inl (some (.int ((v_lays y1 4 (163 * a1) 1 0).1 1 (am_ix 15))))) (v_lays y1 4 (163 * a1) 1 0))
      refine ⟨⟨by decide, by decide⟩, ?_⟩
      exact hP ((v_lays y1 4 (163 * a1) 1 0).1 1 (am_ix 15), (v_lays y1 4 (163 * a1) 1 0)) (by unfold v_M_goBack; simp only [if_neg c1, if_neg c2, bnd, c3])
    · skip
      obtain ⟨y2, c4⟩ : ∃ y, v_M_refuses (am_si h 0 8 0) 2 = y := ⟨_, rfl⟩
      rw [c4]
      show am_Ev m_M_goBack (WM ++ e1) ro P (34, [.ref 0, .int a1], [.int y2.1], y2.2)
      refine am_Ev_G [] 400 _ ?_
      show P (.inl (some (.int y2.1))) y2.2
      exact hP (y2.1, y2.2) (by unfold v_M_goBack; simp only [if_neg c1, if_pos c2, bnd, c4])
  · skip
    obtain ⟨y3, c5⟩ : ∃ y, v_M_refuses (am_si h 0 8 0) 1 = y := ⟨_, rfl⟩
    rw [c5]
    show am_Ev m_M_goBack (WM ++ e1) ro P (19, [.ref 0, .int a1], [.int y3.1], y3.2)
    refine am_Ev_G [] 400 _ ?_
    show P (.inl (some (.int y3.1))) y3.2
    exact hP (y3.1, y3.2) (by unfold v_M_goBack; simp only [if_pos c1, bnd, c5])
theorem ok_M_goBack {l : Launch} (hl : l.stackTraces = false) (e1 ro : List Sh) (k : Nat) : am_Ok l (WM ++ e1) ro (d_M_goBack k) := by
  refine am_met hl (own := RX6) (M := m_M_goBack) rfl pf_M_goBack cu_M_goBack rfl rfl rfl rfl (fun _ => rfl) rfl ⟨chk_M_goBack, (am_c (fl_M_7) (am_c (fl_M_19) (am_c (fl_M_22) (am_c (fl_M_38) am_n)))), (am_c (lk_M_45) (am_c (lk_M_127) (am_c (lk_M_134) (am_c (lk_M_137) am_n)))), (am_n), (am_n)⟩ (am_n) (am_c (ok_M_lays hl _ _ 0) (am_c (ok_M_in hl e1 _ 0) (am_c (ok_M_refuses hl e1 _ 16) (am_c (ok_M_saves hl e1 _ 16) am_n)))) (fun z => nomatch z) ?_ ?_
  · intro _ as h hg
    show g_thr (g_M_goBack (WM ++ e1) ro as h) = none
    unfold g_M_goBack
    split <;> rfl
  · intro as h hg hp
    revert hg hp
    show g_ok (g_M_goBack (WM ++ e1) ro as h) = true → g_pre (g_M_goBack (WM ++ e1) ro as h) → _ ∧ am_Ev m_M_goBack (WM ++ e1) ro (am_eq (g_M_goBack (WM ++ e1) ro as h)) (0, am_ent as 2, [], h)
    unfold g_M_goBack
    split
    · rename_i o1 a1
      intro hc hp
      change (Nat.beq o1 0) = true at hc
      obtain rfl := am_beq hc
      exact ⟨Nat.le_of_ble_eq_true rfl, ev_M_goBack h a1 hp eqRIW⟩
    · exact fun z => nomatch z
def k_M_undo (pc : Nat) : Ent := bif Nat.ble 53 pc then am_nop else bif Nat.ble 24 pc then (bif Nat.ble 39 pc then (bif Nat.ble 45 pc then (bif Nat.ble 49 pc then (bif Nat.ble 52 pc then (bif Nat.beq pc 52 then (.ireturn, 0, 0, []) else am_nop) else (bif Nat.beq pc 49 then (.getfield 42, 0, 0, []) else am_nop)) else (bif Nat.ble 48 pc then (bif Nat.beq pc 48 then (.aload_n 0, 0, 0, []) else am_nop) else (bif Nat.beq pc 45 then (.invokestatic 45, 0, 0, []) else am_nop))) else (bif Nat.ble 41 pc then (bif Nat.ble 44 pc then (bif Nat.beq pc 44 then (.iconst 0, 0, 0, []) else am_nop) else (bif Nat.beq pc 41 then (.getfield 7, 0, 0, []) else am_nop)) else (bif Nat.ble 40 pc then (bif Nat.beq pc 40 then (.aload_n 0, 0, 0, []) else am_nop) else (bif Nat.beq pc 39 then (.imul, 0, 0, []) else am_nop)))) else (bif Nat.ble 29 pc then (bif Nat.ble 35 pc then (bif Nat.ble 36 pc then (bif Nat.beq pc 36 then (.getfield 42, 0, 0, []) else am_nop) else (bif Nat.beq pc 35 then (.aload_n 0, 0, 0, []) else am_nop)) else (bif Nat.ble 32 pc then (bif Nat.beq pc 32 then (.sipush 163, 163, 0, []) else am_nop) else (bif Nat.beq pc 29 then (.getfield 16, 0, 0, []) else am_nop))) else (bif Nat.ble 25 pc then (bif Nat.ble 28 pc then (bif Nat.beq pc 28 then (.aload_n 0, 0, 0, []) else am_nop) else (bif Nat.beq pc 25 then (.putfield 42, 0, 0, []) else am_nop)) else (bif Nat.beq pc 24 then (.isub, 0, 0, []) else am_nop)))) else (bif Nat.ble 13 pc then (bif Nat.ble 18 pc then (bif Nat.ble 20 pc then (bif Nat.ble 23 pc then (bif Nat.beq pc 23 then (.iconst 1, 1, 0, []) else am_nop) else (bif Nat.beq pc 20 then (.getfield 42, 0, 0, []) else am_nop)) else (bif Nat.ble 19 pc then (bif Nat.beq pc 19 then (.dup, 0, 0, []) else am_nop) else (bif Nat.beq pc 18 then (.aload_n 0, 0, 0, []) else am_nop))) else (bif Nat.ble 14 pc then (bif Nat.ble 17 pc then (bif Nat.beq pc 17 then (.ireturn, 0, 0, []) else am_nop) else (bif Nat.beq pc 14 then (.invokevirtual 134, 0, 0, []) else am_nop)) else (bif Nat.beq pc 13 then (.iconst 1, 1, 0, []) else am_nop))) else (bif Nat.ble 5 pc then (bif Nat.ble 9 pc then (bif Nat.ble 12 pc then (bif Nat.beq pc 12 then (.aload_n 0, 0, 0, []) else am_nop) else (bif Nat.beq pc 9 then (.ifCond .ne 9, 0, 18, []) else am_nop)) else (bif Nat.ble 6 pc then (bif Nat.beq pc 6 then (.getfield 42, 0, 0, []) else am_nop) else (bif Nat.beq pc 5 then (.aload_n 0, 0, 0, []) else am_nop))) else (bif Nat.ble 1 pc then (bif Nat.ble 2 pc then (bif Nat.beq pc 2 then (.putfield 38, 0, 0, []) else am_nop) else (bif Nat.beq pc 1 then (.iconst 0, 0, 0, []) else am_nop)) else (bif Nat.beq pc 0 then (.aload_n 0, 0, 0, []) else am_nop))))
def m_M_undo : MI := (k_M_undo, [(7, 6, 0), (16, 6, 2), (38, 6, 8), (42, 6, 3)], [(45, d_M_lays 0), (134, d_M_refuses 16)], [], [], [], [], 1, 24, some .int, fun _ => 0, 1)
def v_M_undo (h : HP) : Int32 × HP := (if (h.1 0 3) = 0 then (bnd (v_M_refuses (am_si h 0 8 0) 1) fun y1 => (y1.1, y1.2)) else ((v_lays (am_si (am_si h 0 8 0) 0 3 ((h.1 0 3) - 1)) 3 (163 * ((h.1 0 3) - 1)) 1 0).1 0 3, (v_lays (am_si (am_si h 0 8 0) 0 3 ((h.1 0 3) - 1)) 3 (163 * ((h.1 0 3) - 1)) 1 0)))
def p_M_undo (h : HP) : Prop := (((h.1 0 3) = 0 → True) ∧ (¬ (h.1 0 3) = 0 → (p_lays (163 * ((h.1 0 3) - 1)) 0 978 163)))
def g_M_undo (_ _ : List Sh) (as : List Value) (h : HP) : GR := match as with
  | [.ref o1] => (Nat.beq o1 0, p_M_undo h, none, some (.int (v_M_undo h).1), (v_M_undo h).2)
  | _ => bad h
def d_M_undo (k : Nat) : CD := (k, yX6_undo, cX6_undo, 1, some .int, 1, 1, 24, 0, false, true, g_M_undo)
theorem chk_M_undo : ∀ pc, am_chk cX6_undo k_M_undo pc = true := am_chkall 53 (by decide +kernel) (fun pc h => by unfold k_M_undo; rw [Nat.ble_eq_true_of_le h]; rfl)
theorem pf_M_undo : plainFor yX6_undo = true := by decide +kernel
theorem cu_M_undo : Cond.code yX6_undo cX6_undo 1 (some .int) ∈ am_U := am_tb 1120 (by decide +kernel) rfl
set_option maxHeartbeats 20000000 in
set_option maxRecDepth 100000 in
theorem ev_M_undo {e1 ro : List Sh} {P : AR → HP → Prop} (h : HP) (hp : p_M_undo h) (hP : ∀ q, v_M_undo h = q → RIW P h q) : am_Ev m_M_undo (WM ++ e1) ro P (0, [.ref 0], [], h) := by
  unfold p_M_undo at hp
  refine am_Ev_G [17, 45] 400 _ ?_
  show ((¬ (h.1 0 3) = 0 → am_Ev m_M_undo (WM ++ e1) ro P (45, [.ref 0], [.int 0, .ref 1, .int (163 * ((h.1 0 3) - 1)), .ref 3], (am_si (am_si h 0 8 0) 0 3 ((h.1 0 3) - 1)))) ∧ ((h.1 0 3) = 0 → am_Ev m_M_undo (WM ++ e1) ro P (17, [.ref 0], [.int ((v_M_refuses (am_si h 0 8 0) 1).1)], ((v_M_refuses (am_si h 0 8 0) 1).2))))
  refine ⟨fun c1 => ?_, fun c1 => ?_⟩
  · have hp := hp.2 c1
    refine am_Ev_G [] 400 _ ?_
    show ((p_lays (163 * ((h.1 0 3) - 1)) 0 978 163) ∧ P (.inl (some (.int ((v_lays (am_si (am_si h 0 8 0) 0 3 ((h.1 0 3) - 1)) 3 (163 * ((h.1 0 3) - 1)) 1 0).1 0 3)))) (v_lays (am_si (am_si h 0 8 0) 0 3 ((h.1 0 3) - 1)) 3 (163 * ((h.1 0 3) - 1)) 1 0))
    refine ⟨hp, ?_⟩
    exact hP ((v_lays (am_si (am_si h 0 8 0) 0 3 ((h.1 0 3) - 1)) 3 (163 * ((h.1 0 3) - 1)) 1 0).1 0 3, (v_lays (am_si (am_si h 0 8 0) 0 3 ((h.1 0 3) - 1)) 3 (163 * ((h.1 0 3) - 1)) 1 0)) (by unfold v_M_undo; simp only [if_neg c1])
  · skip
    obtain ⟨y1, c2⟩ : ∃ y, v_M_refuses (am_si h 0 8 0) 1 = y := ⟨_, rfl⟩
    rw [c2]
    show am_Ev m_M_undo (WM ++ e1) ro P (17, [.ref 0], [.int y1.1], y1.2)
    refine am_Ev_G [] 400 _ ?_
    show P (.inl (some (.int y1.1))) y1.2
    exact hP (y1.1, y1.2) (by unfold v_M_undo; simp only [if_pos c1, bnd, c2])
theorem ok_M_undo {l : Launch} (hl : l.stackTraces = false) (e1 ro : List Sh) (k : Nat) : am_Ok l (WM ++ e1) ro (d_M_undo k) := by
  refine am_met hl (own := RX6) (M := m_M_undo) rfl pf_M_undo cu_M_undo rfl rfl rfl rfl (fun _ => rfl) rfl ⟨chk_M_undo, (am_c (fl_M_7) (am_c (fl_M_16) (am_c (fl_M_38) (am_c (fl_M_42) am_n)))), (am_c (lk_M_45) (am_c (lk_M_134) am_n)), (am_n), (am_n)⟩ (am_n) (am_c (ok_M_lays hl _ _ 0) (am_c (ok_M_refuses hl e1 _ 16) am_n)) (fun z => nomatch z) ?_ ?_
  · intro _ as h hg
    show g_thr (g_M_undo (WM ++ e1) ro as h) = none
    unfold g_M_undo
    split <;> rfl
  · intro as h hg hp
    revert hg hp
    show g_ok (g_M_undo (WM ++ e1) ro as h) = true → g_pre (g_M_undo (WM ++ e1) ro as h) → _ ∧ am_Ev m_M_undo (WM ++ e1) ro (am_eq (g_M_undo (WM ++ e1) ro as h)) (0, am_ent as 1, [], h)
    unfold g_M_undo
    split
    · rename_i o1
      intro hc hp
      change (Nat.beq o1 0) = true at hc
      obtain rfl := am_beq hc
      exact ⟨Nat.le_of_ble_eq_true rfl, ev_M_undo h hp eqRIW⟩
    · exact fun z => nomatch z
def k_M_runs (pc : Nat) : Ent := bif Nat.ble 53 pc then am_nop else bif Nat.ble 27 pc then (bif Nat.ble 39 pc then (bif Nat.ble 45 pc then (bif Nat.ble 51 pc then (bif Nat.ble 52 pc then (bif Nat.beq pc 52 then (.ireturn, 0, 0, []) else am_nop) else (bif Nat.beq pc 51 then (.iload_n 3, 0, 3, []) else am_nop)) else (bif Nat.ble 48 pc then (bif Nat.beq pc 48 then (.goto (-43), 0, 5, []) else am_nop) else (bif Nat.beq pc 45 then (.iinc 4 1, 1, 4, []) else am_nop))) else (bif Nat.ble 43 pc then (bif Nat.ble 44 pc then (bif Nat.beq pc 44 then (.istore_n 3, 0, 3, []) else am_nop) else (bif Nat.beq pc 43 then (.iadd, 0, 0, []) else am_nop)) else (bif Nat.ble 42 pc then (bif Nat.beq pc 42 then (.iconst 0, 0, 0, []) else am_nop) else (bif Nat.beq pc 39 then (.goto 4, 0, 43, []) else am_nop)))) else (bif Nat.ble 31 pc then (bif Nat.ble 35 pc then (bif Nat.ble 38 pc then (bif Nat.beq pc 38 then (.iconst 1, 1, 0, []) else am_nop) else (bif Nat.beq pc 35 then (.if_icmp .ne 7, 0, 42, []) else am_nop)) else (bif Nat.ble 34 pc then (bif Nat.beq pc 34 then (.iload_n 1, 0, 1, []) else am_nop) else (bif Nat.beq pc 31 then (.invokevirtual 49, 0, 0, []) else am_nop))) else (bif Nat.ble 28 pc then (bif Nat.ble 30 pc then (bif Nat.beq pc 30 then (.iload_n 2, 0, 2, []) else am_nop) else (bif Nat.beq pc 28 then (.iload 4, 0, 4, []) else am_nop)) else (bif Nat.beq pc 27 then (.aload_n 0, 0, 0, []) else am_nop)))) else (bif Nat.ble 11 pc then (bif Nat.ble 18 pc then (bif Nat.ble 21 pc then (bif Nat.ble 24 pc then (bif Nat.beq pc 24 then (.ifCond .eq 18, 0, 42, []) else am_nop) else (bif Nat.beq pc 21 then (.invokevirtual 60, 0, 0, []) else am_nop)) else (bif Nat.ble 19 pc then (bif Nat.beq pc 19 then (.iload 4, 0, 4, []) else am_nop) else (bif Nat.beq pc 18 then (.aload_n 0, 0, 0, []) else am_nop))) else (bif Nat.ble 14 pc then (bif Nat.ble 17 pc then (bif Nat.beq pc 17 then (.iload_n 3, 0, 3, []) else am_nop) else (bif Nat.beq pc 14 then (.if_icmp .ge 37, 0, 51, []) else am_nop)) else (bif Nat.ble 13 pc then (bif Nat.beq pc 13 then (.iaload, 0, 0, []) else am_nop) else (bif Nat.beq pc 11 then (.bipush 15, 15, 0, []) else am_nop)))) else (bif Nat.ble 3 pc then (bif Nat.ble 7 pc then (bif Nat.ble 8 pc then (bif Nat.beq pc 8 then (.getfield 7, 0, 0, []) else am_nop) else (bif Nat.beq pc 7 then (.aload_n 0, 0, 0, []) else am_nop)) else (bif Nat.ble 5 pc then (bif Nat.beq pc 5 then (.iload 4, 0, 4, []) else am_nop) else (bif Nat.beq pc 3 then (.istore 4, 0, 4, []) else am_nop))) else (bif Nat.ble 1 pc then (bif Nat.ble 2 pc then (bif Nat.beq pc 2 then (.iconst 0, 0, 0, []) else am_nop) else (bif Nat.beq pc 1 then (.istore_n 3, 0, 3, []) else am_nop)) else (bif Nat.beq pc 0 then (.iconst 0, 0, 0, []) else am_nop))))
def m_M_runs : MI := (k_M_runs, [(7, 6, 0)], [(49, d_M_of 16), (60, d_M_isRun 16)], [], [], [], [], 2, 43, some .int, fun _ => 0, 1)
def s_M_runs_5 (h : HP) (a1 : Int32) (a2 : Int32) (v1 : Int32 × Int32) : (Int32 × Int32) ⊕ (Int32 × Int32) := (if v1.2 < (h.1 1 (am_ix 15)) then (.inl ((v1.1 + (if (v_M_isRun h v1.2) = 0 then (0 : Int32) else (if (v_M_of h v1.2 a2) = a1 then (1 : Int32) else 0))), (v1.2 + 1))) else (.inr (v1.1, v1.2)))
def ps_M_runs_5 (h : HP) (a1 : Int32) (a2 : Int32) (v1 : Int32 × Int32) : Prop := ((v1.2 < (h.1 1 (am_ix 15)) → ((p_M_isRun h v1.2) ∧ (((v_M_isRun h v1.2) = 0 → True) ∧ (¬ (v_M_isRun h v1.2) = 0 → (p_M_of h v1.2 a2))))) ∧ (¬ v1.2 < (h.1 1 (am_ix 15)) → True))
def v_M_runs (h : HP) (a1 : Int32) (a2 : Int32) : Int32 := (match itr (s_M_runs_5 h a1 a2) NF (0, 0) with | some r1 => r1.1 | none => 0)
def p_M_runs (h : HP) (a1 : Int32) (a2 : Int32) : Prop := (itrp (s_M_runs_5 h a1 a2) (ps_M_runs_5 h a1 a2) NF (0, 0))
def g_M_runs (_ _ : List Sh) (as : List Value) (h : HP) : GR := match as with
  | [.ref o1, .int a1, .int a2] => (Nat.beq o1 0, p_M_runs h a1 a2, none, some (.int (v_M_runs h a1 a2)), h)
  | _ => bad h
def d_M_runs (k : Nat) : CD := (k, yX6_runs, cX6_runs, 5, some .int, 3, 2, 43, 0, false, true, g_M_runs)
theorem chk_M_runs : ∀ pc, am_chk cX6_runs k_M_runs pc = true := am_chkall 53 (by decide +kernel) (fun pc h => by unfold k_M_runs; rw [Nat.ble_eq_true_of_le h]; rfl)
theorem pf_M_runs : plainFor yX6_runs = true := by decide +kernel
theorem cu_M_runs : Cond.code yX6_runs cX6_runs 5 (some .int) ∈ am_U := am_tb 1132 (by decide +kernel) rfl
set_option maxHeartbeats 20000000 in
set_option maxRecDepth 100000 in
theorem ev_M_runs {e1 ro : List Sh} {P : AR → HP → Prop} (h : HP) (a1 : Int32) (a2 : Int32) (hp : p_M_runs h a1 a2) (hP : ∀ q, v_M_runs h a1 a2 = q → RI P h q) : am_Ev m_M_runs (WM ++ e1) ro P (0, [.ref 0, .int a1, .int a2, .retAddr 0, .retAddr 0], [], h) := by
  unfold p_M_runs at hp
  refine am_Ev_G [5] 400 _ ?_
  show am_Ev m_M_runs (WM ++ e1) ro P (5, [.ref 0, .int a1, .int a2, .int 0, .int 0], [], h)
  have hpl := hp
  refine am_itr (E := (fun (v1 : Int32 × Int32) => am_Ev m_M_runs (WM ++ e1) ro P (5, [.ref 0, .int a1, .int a2, .int v1.1, .int v1.2], [], h))) (E' := (fun (r1 : Int32 × Int32) => am_Ev m_M_runs (WM ++ e1) ro P (51, [.ref 0, .int a1, .int a2, .int r1.1, .int r1.2], [], h))) (s_M_runs_5 h a1 a2) (ps_M_runs_5 h a1 a2) ?_ NF (0, 0) hpl ?_
  · intro v1 hp hc1 hx1
    show am_Ev m_M_runs (WM ++ e1) ro P (5, [.ref 0, .int a1, .int a2, .int v1.1, .int v1.2], [], h)
    unfold ps_M_runs_5 at hp
    refine am_Ev_G [24, 51] 400 _ ?_
    show ((am_in 15 163) ∧ ((¬ v1.2 < (h.1 1 (am_ix 15)) → am_Ev m_M_runs (WM ++ e1) ro P (51, [.ref 0, .int a1, .int a2, .int v1.1, .int v1.2], [], h)) ∧ (v1.2 < (h.1 1 (am_ix 15)) → ((p_M_isRun h v1.2) ∧ am_Ev m_M_runs (WM ++ e1) ro P (24, [.ref 0, .int a1, .int a2, .int v1.1, .int v1.2], [.int (v_M_isRun h v1.2), .int v1.1], h)))))
    refine ⟨⟨by decide, by decide⟩, ?_⟩
    refine ⟨fun c1 => ?_, fun c1 => ?_⟩
    · skip
      exact hx1 (v1.1, v1.2) (by unfold s_M_runs_5; simp only [if_neg c1])
    · have hp := hp.1 c1
      obtain ⟨hob, hp⟩ := hp
      refine ⟨hob, ?_⟩
      have hpa := hp
      have key2 : am_Ev m_M_runs (WM ++ e1) ro P (43, [.ref 0, .int a1, .int a2, .int v1.1, .int v1.2], [.int (if (v_M_isRun h v1.2) = 0 then (0 : Int32) else (if (v_M_of h v1.2 a2) = a1 then (1 : Int32) else 0)), .int v1.1], h) := by
        refine am_Ev_G [5] 400 _ ?_
        show am_Ev m_M_runs (WM ++ e1) ro P (5, [.ref 0, .int a1, .int a2, .int (v1.1 + (if (v_M_isRun h v1.2) = 0 then (0 : Int32) else (if (v_M_of h v1.2 a2) = a1 then (1 : Int32) else 0))), .int (v1.2 + 1)], [], h)
        exact hc1 ((v1.1 + (if (v_M_isRun h v1.2) = 0 then (0 : Int32) else (if (v_M_of h v1.2 a2) = a1 then (1 : Int32) else 0))), (v1.2 + 1)) (by unfold s_M_runs_5; simp only [if_pos c1])
      have hp := hpa
      refine am_Ev_G [43] 400 _ ?_
      show (((v_M_isRun h v1.2) = 0 → am_Ev m_M_runs (WM ++ e1) ro P (43, [.ref 0, .int a1, .int a2, .int v1.1, .int v1.2], [.int 0, .int v1.1], h)) ∧ (¬ (v_M_isRun h v1.2) = 0 → ((p_M_of h v1.2 a2) ∧ ((¬ (v_M_of h v1.2 a2) = a1 → am_Ev m_M_runs (WM ++ e1) ro P (43, [.ref 0, .int a1, .int a2, .int v1.1, .int v1.2], [.int 0, .int v1.1], h)) ∧ ((v_M_of h v1.2 a2) = a1 → am_Ev m_M_runs (WM ++ e1) ro P (43, [.ref 0, .int a1, .int a2, .int v1.1, .int v1.2], [.int 1, .int v1.1], h))))))
      refine ⟨fun c3 => ?_, fun c3 => ?_⟩
      · skip
        simpa only [if_pos c3] using key2
      · have hp := hp.2 c3
        refine ⟨hp, ?_⟩
        refine ⟨fun c4 => ?_, fun c4 => ?_⟩
        · skip
          simpa only [if_neg c3, if_neg c4] using key2
        · skip
          simpa only [if_neg c3, if_pos c4] using key2
  · intro r1 hr5
    show am_Ev m_M_runs (WM ++ e1) ro P (51, [.ref 0, .int a1, .int a2, .int r1.1, .int r1.2], [], h)
    refine am_Ev_G [] 400 _ ?_
    show P (.inl (some (.int r1.1))) h
    exact hP r1.1 (by unfold v_M_runs; simp only [hr5])
theorem ok_M_runs {l : Launch} (hl : l.stackTraces = false) (e1 ro : List Sh) (k : Nat) : am_Ok l (WM ++ e1) ro (d_M_runs k) := by
  refine am_met hl (own := RX6) (M := m_M_runs) rfl pf_M_runs cu_M_runs rfl rfl rfl rfl (fun _ => rfl) rfl ⟨chk_M_runs, (am_c (fl_M_7) am_n), (am_c (lk_M_49) (am_c (lk_M_60) am_n)), (am_n), (am_n)⟩ (am_n) (am_c (ok_M_of hl e1 _ 16) (am_c (ok_M_isRun hl e1 _ 16) am_n)) (fun z => nomatch z) ?_ ?_
  · intro _ as h hg
    show g_thr (g_M_runs (WM ++ e1) ro as h) = none
    unfold g_M_runs
    split <;> rfl
  · intro as h hg hp
    revert hg hp
    show g_ok (g_M_runs (WM ++ e1) ro as h) = true → g_pre (g_M_runs (WM ++ e1) ro as h) → _ ∧ am_Ev m_M_runs (WM ++ e1) ro (am_eq (g_M_runs (WM ++ e1) ro as h)) (0, am_ent as 5, [], h)
    unfold g_M_runs
    split
    · rename_i o1 a1 a2
      intro hc hp
      change (Nat.beq o1 0) = true at hc
      obtain rfl := am_beq hc
      exact ⟨Nat.le_of_ble_eq_true rfl, ev_M_runs h a1 a2 hp eqRI⟩
    · exact fun z => nomatch z
def k_M_aboutTerminal (pc : Nat) : Ent := bif Nat.ble 69 pc then am_nop else bif Nat.ble 47 pc then (bif Nat.ble 56 pc then (bif Nat.ble 62 pc then (bif Nat.ble 65 pc then (bif Nat.ble 68 pc then (bif Nat.beq pc 68 then (.ireturn, 0, 0, []) else am_nop) else (bif Nat.beq pc 65 then (.invokevirtual 111, 0, 0, []) else am_nop)) else (bif Nat.ble 64 pc then (bif Nat.beq pc 64 then (.iaload, 0, 0, []) else am_nop) else (bif Nat.beq pc 62 then (.bipush 15, 15, 0, []) else am_nop))) else (bif Nat.ble 58 pc then (bif Nat.ble 59 pc then (bif Nat.beq pc 59 then (.getfield 7, 0, 0, []) else am_nop) else (bif Nat.beq pc 58 then (.aload_n 0, 0, 0, []) else am_nop)) else (bif Nat.ble 57 pc then (bif Nat.beq pc 57 then (.iload_n 1, 0, 1, []) else am_nop) else (bif Nat.beq pc 56 then (.aload_n 0, 0, 0, []) else am_nop)))) else (bif Nat.ble 50 pc then (bif Nat.ble 52 pc then (bif Nat.ble 55 pc then (bif Nat.beq pc 55 then (.ireturn, 0, 0, []) else am_nop) else (bif Nat.beq pc 52 then (.invokevirtual 191, 0, 0, []) else am_nop)) else (bif Nat.ble 51 pc then (bif Nat.beq pc 51 then (.isub, 0, 0, []) else am_nop) else (bif Nat.beq pc 50 then (.iconst 2, 2, 0, []) else am_nop))) else (bif Nat.ble 48 pc then (bif Nat.ble 49 pc then (bif Nat.beq pc 49 then (.iadd, 0, 0, []) else am_nop) else (bif Nat.beq pc 48 then (.iload_n 2, 0, 2, []) else am_nop)) else (bif Nat.beq pc 47 then (.iconst 1, 1, 0, []) else am_nop)))) else (bif Nat.ble 39 pc then (bif Nat.ble 43 pc then (bif Nat.ble 45 pc then (bif Nat.ble 46 pc then (bif Nat.beq pc 46 then (.iload_n 1, 0, 1, []) else am_nop) else (bif Nat.beq pc 45 then (.aload_n 0, 0, 0, []) else am_nop)) else (bif Nat.ble 44 pc then (bif Nat.beq pc 44 then (.ireturn, 0, 0, []) else am_nop) else (bif Nat.beq pc 43 then (.iaload, 0, 0, []) else am_nop))) else (bif Nat.ble 41 pc then (bif Nat.ble 42 pc then (bif Nat.beq pc 42 then (.iadd, 0, 0, []) else am_nop) else (bif Nat.beq pc 41 then (.iload_n 1, 0, 1, []) else am_nop)) else (bif Nat.ble 40 pc then (bif Nat.beq pc 40 then (.iadd, 0, 0, []) else am_nop) else (bif Nat.beq pc 39 then (.imul, 0, 0, []) else am_nop)))) else (bif Nat.ble 33 pc then (bif Nat.ble 37 pc then (bif Nat.ble 38 pc then (bif Nat.beq pc 38 then (.iload_n 2, 0, 2, []) else am_nop) else (bif Nat.beq pc 37 then (.iconst 4, 4, 0, []) else am_nop)) else (bif Nat.ble 36 pc then (bif Nat.beq pc 36 then (.iconst 0, 0, 0, []) else am_nop) else (bif Nat.beq pc 33 then (.getfield 7, 0, 0, []) else am_nop))) else (bif Nat.ble 1 pc then (bif Nat.ble 32 pc then (bif Nat.beq pc 32 then (.aload_n 0, 0, 0, []) else am_nop) else (bif Nat.beq pc 1 then (.tableswitch 55 0 3 #[31, 31, 44, 44], 0, 56, [(0, 32), (1, 32), (2, 45), (3, 45)]) else am_nop)) else (bif Nat.beq pc 0 then (.iload_n 2, 0, 2, []) else am_nop))))
theorem lk_M_191 : am_lnk RX6 191 (d_M_runs 16) := ⟨⟨by decide, by decide⟩, am_tb 8 (by decide +kernel) rfl, Or.inr ⟨by decide, rfl, am_tb 1131 (by decide +kernel) rfl, am_tp 96 (by decide +kernel) rfl, ⟨TX6, 16, rfl⟩, Or.inl (am_tb 1129 (by decide +kernel) rfl)⟩⟩
def m_M_aboutTerminal : MI := (k_M_aboutTerminal, [(7, 6, 0)], [(111, d_M_deficit 16), (191, d_M_runs 16)], [], [], [], [], 6, 139, some .int, fun _ => 0, 1)
def v_M_aboutTerminal (h : HP) (a1 : Int32) (a2 : Int32) : Int32 := (if a2 = 0 then (h.1 1 (am_ix ((0 + (4 * a2)) + a1))) else (if a2 = 1 then (h.1 1 (am_ix ((0 + (4 * a2)) + a1))) else (if a2 = 2 then (v_M_runs h a1 ((1 + a2) - 2)) else (if a2 = 3 then (v_M_runs h a1 ((1 + a2) - 2)) else (v_M_deficit h a1 (h.1 1 (am_ix 15)))))))
def p_M_aboutTerminal (h : HP) (a1 : Int32) (a2 : Int32) : Prop := ((a2 = 0 → (am_in ((0 + (4 * a2)) + a1) 163)) ∧ (¬ a2 = 0 → ((a2 = 1 → (am_in ((0 + (4 * a2)) + a1) 163)) ∧ (¬ a2 = 1 → ((a2 = 2 → (p_M_runs h a1 ((1 + a2) - 2))) ∧ (¬ a2 = 2 → ((a2 = 3 → (p_M_runs h a1 ((1 + a2) - 2))) ∧ (¬ a2 = 3 → (p_M_deficit h a1 (h.1 1 (am_ix 15)))))))))))
def g_M_aboutTerminal (_ _ : List Sh) (as : List Value) (h : HP) : GR := match as with
  | [.ref o1, .int a1, .int a2] => (Nat.beq o1 0, p_M_aboutTerminal h a1 a2, none, some (.int (v_M_aboutTerminal h a1 a2)), h)
  | _ => bad h
def d_M_aboutTerminal (k : Nat) : CD := (k, yX6_aboutTerminal, cX6_aboutTerminal, 3, some .int, 3, 6, 139, 0, false, true, g_M_aboutTerminal)
theorem chk_M_aboutTerminal : ∀ pc, am_chk cX6_aboutTerminal k_M_aboutTerminal pc = true := am_chkall 69 (by decide +kernel) (fun pc h => by unfold k_M_aboutTerminal; rw [Nat.ble_eq_true_of_le h]; rfl)
theorem pf_M_aboutTerminal : plainFor yX6_aboutTerminal = true := by decide +kernel
theorem cu_M_aboutTerminal : Cond.code yX6_aboutTerminal cX6_aboutTerminal 3 (some .int) ∈ am_U := am_tb 1128 (by decide +kernel) rfl
set_option maxHeartbeats 20000000 in
set_option maxRecDepth 100000 in
theorem ev_M_aboutTerminal {e1 ro : List Sh} {P : AR → HP → Prop} (h : HP) (a1 : Int32) (a2 : Int32) (hp : p_M_aboutTerminal h a1 a2) (hP : ∀ q, v_M_aboutTerminal h a1 a2 = q → RI P h q) : am_Ev m_M_aboutTerminal (WM ++ e1) ro P (0, [.ref 0, .int a1, .int a2], [], h) := by
  unfold p_M_aboutTerminal at hp
  refine am_Ev_G [47, 68] 400 _ ?_
  show ((a2 = 0 → ((am_in ((0 + (4 * a2)) + a1) 163) ∧ P (.inl (some (.int (h.1 1 (am_ix ((0 + (4 * a2)) + a1)))))) h)) ∧ (¬ a2 = 0 → ((a2 = 1 → ((am_in ((0 + (4 * a2)) + a1) 163) ∧ P (.inl (some (.int (h.1 1 (am_ix ((0 + (4 * a2)) + a1)))))) h)) ∧ (¬ a2 = 1 → ((a2 = 2 → am_Ev m_M_aboutTerminal (WM ++ e1) ro P (47, [.ref 0, .int a1, .int a2], [.int a1, .ref 0], h)) ∧ (¬ a2 = 2 → ((a2 = 3 → am_Ev m_M_aboutTerminal (WM ++ e1) ro P (47, [.ref 0, .int a1, .int a2], [.int a1, .ref 0], h)) ∧ (¬ a2 = 3 → ((am_in 15 163) ∧ ((p_M_deficit h a1 (h.1 1 (am_ix 15))) ∧ am_Ev m_M_aboutTerminal (WM ++ e1) ro P (68, [.ref 0, .int a1, .int a2], [.int (v_M_deficit h a1 (h.1 1 (am_ix 15)))], h)))))))))))
  refine ⟨fun c1 => ?_, fun c1 => ?_⟩
  · have hp := hp.1 c1
    refine ⟨hp, ?_⟩
    exact hP (h.1 1 (am_ix ((0 + (4 * a2)) + a1))) (by unfold v_M_aboutTerminal; simp only [if_pos c1])
  · have hp := hp.2 c1
    refine ⟨fun c2 => ?_, fun c2 => ?_⟩
    · have hp := hp.1 c2
      refine ⟨hp, ?_⟩
      exact hP (h.1 1 (am_ix ((0 + (4 * a2)) + a1))) (by unfold v_M_aboutTerminal; simp only [if_neg c1, if_pos c2])
    · have hp := hp.2 c2
      refine ⟨fun c3 => ?_, fun c3 => ?_⟩
      · have hp := hp.1 c3
        refine am_Ev_G [] 400 _ ?_
        show ((p_M_runs h a1 ((1 + a2) - 2)) ∧ P (.inl (some (.int (v_M_runs h a1 ((1 + a2) - 2))))) h)
        refine ⟨hp, ?_⟩
        exact hP (v_M_runs h a1 ((1 + a2) - 2)) (by unfold v_M_aboutTerminal; simp only [if_neg c1, if_neg c2, if_pos c3])
      · have hp := hp.2 c3
        refine ⟨fun c4 => ?_, fun c4 => ?_⟩
        · have hp := hp.1 c4
          refine am_Ev_G [] 400 _ ?_
          show ((p_M_runs h a1 ((1 + a2) - 2)) ∧ P (.inl (some (.int (v_M_runs h a1 ((1 + a2) - 2))))) h)
          refine ⟨hp, ?_⟩
          exact hP (v_M_runs h a1 ((1 + a2) - 2)) (by unfold v_M_aboutTerminal; simp only [if_neg c1, if_neg c2, if_neg c3, if_pos c4])
        · have hp := hp.2 c4
          refine ⟨⟨by decide, by decide⟩, ?_⟩
          refine ⟨hp, ?_⟩
          refine am_Ev_G [] 400 _ ?_
          show P (.inl (some (.int (v_M_deficit h a1 (h.1 1 (am_ix 15)))))) h
          exact hP (v_M_deficit h a1 (h.1 1 (am_ix 15))) (by unfold v_M_aboutTerminal; simp only [if_neg c1, if_neg c2, if_neg c3, if_neg c4])
theorem ok_M_aboutTerminal {l : Launch} (hl : l.stackTraces = false) (e1 ro : List Sh) (k : Nat) : am_Ok l (WM ++ e1) ro (d_M_aboutTerminal k) := by
  refine am_met hl (own := RX6) (M := m_M_aboutTerminal) rfl pf_M_aboutTerminal cu_M_aboutTerminal rfl rfl rfl rfl (fun _ => rfl) rfl ⟨chk_M_aboutTerminal, (am_c (fl_M_7) am_n), (am_c (lk_M_111) (am_c (lk_M_191) am_n)), (am_n), (am_n)⟩ (am_n) (am_c (ok_M_deficit hl e1 _ 16) (am_c (ok_M_runs hl e1 _ 16) am_n)) (fun z => nomatch z) ?_ ?_
  · intro _ as h hg
    show g_thr (g_M_aboutTerminal (WM ++ e1) ro as h) = none
    unfold g_M_aboutTerminal
    split <;> rfl
  · intro as h hg hp
    revert hg hp
    show g_ok (g_M_aboutTerminal (WM ++ e1) ro as h) = true → g_pre (g_M_aboutTerminal (WM ++ e1) ro as h) → _ ∧ am_Ev m_M_aboutTerminal (WM ++ e1) ro (am_eq (g_M_aboutTerminal (WM ++ e1) ro as h)) (0, am_ent as 3, [], h)
    unfold g_M_aboutTerminal
    split
    · rename_i o1 a1 a2
      intro hc hp
      change (Nat.beq o1 0) = true at hc
      obtain rfl := am_beq hc
      exact ⟨Nat.le_of_ble_eq_true rfl, ev_M_aboutTerminal h a1 a2 hp eqRI⟩
    · exact fun z => nomatch z
def k_M_terminalOf (pc : Nat) : Ent := bif Nat.ble 42 pc then am_nop else bif Nat.ble 20 pc then (bif Nat.ble 30 pc then (bif Nat.ble 37 pc then (bif Nat.ble 38 pc then (bif Nat.ble 41 pc then (bif Nat.beq pc 41 then (.ireturn, 0, 0, []) else am_nop) else (bif Nat.beq pc 38 then (.invokevirtual 134, 0, 0, []) else am_nop)) else (bif Nat.beq pc 37 then (.iconst 2, 2, 0, []) else am_nop)) else (bif Nat.ble 33 pc then (bif Nat.ble 36 pc then (bif Nat.beq pc 36 then (.aload_n 0, 0, 0, []) else am_nop) else (bif Nat.beq pc 33 then (.goto 8, 0, 41, []) else am_nop)) else (bif Nat.beq pc 30 then (.invokevirtual 194, 0, 0, []) else am_nop))) else (bif Nat.ble 27 pc then (bif Nat.ble 28 pc then (bif Nat.ble 29 pc then (bif Nat.beq pc 29 then (.iload_n 2, 0, 2, []) else am_nop) else (bif Nat.beq pc 28 then (.iload_n 1, 0, 1, []) else am_nop)) else (bif Nat.beq pc 27 then (.aload_n 0, 0, 0, []) else am_nop)) else (bif Nat.ble 21 pc then (bif Nat.ble 24 pc then (bif Nat.beq pc 24 then (.ifCond .eq 12, 0, 36, []) else am_nop) else (bif Nat.beq pc 21 then (.invokestatic 127, 0, 0, []) else am_nop)) else (bif Nat.beq pc 20 then (.iconst 4, 4, 0, []) else am_nop)))) else (bif Nat.ble 12 pc then (bif Nat.ble 17 pc then (bif Nat.ble 18 pc then (bif Nat.ble 19 pc then (bif Nat.beq pc 19 then (.iconst 0, 0, 0, []) else am_nop) else (bif Nat.beq pc 18 then (.iload_n 2, 0, 2, []) else am_nop)) else (bif Nat.beq pc 17 then (.ireturn, 0, 0, []) else am_nop)) else (bif Nat.ble 13 pc then (bif Nat.ble 14 pc then (bif Nat.beq pc 14 then (.invokevirtual 134, 0, 0, []) else am_nop) else (bif Nat.beq pc 13 then (.iconst 1, 1, 0, []) else am_nop)) else (bif Nat.beq pc 12 then (.aload_n 0, 0, 0, []) else am_nop))) else (bif Nat.ble 5 pc then (bif Nat.ble 6 pc then (bif Nat.ble 9 pc then (bif Nat.beq pc 9 then (.ifCond .ne 9, 0, 18, []) else am_nop) else (bif Nat.beq pc 6 then (.invokestatic 131, 0, 0, []) else am_nop)) else (bif Nat.beq pc 5 then (.iload_n 1, 0, 1, []) else am_nop)) else (bif Nat.ble 1 pc then (bif Nat.ble 2 pc then (bif Nat.beq pc 2 then (.putfield 38, 0, 0, []) else am_nop) else (bif Nat.beq pc 1 then (.iconst 0, 0, 0, []) else am_nop)) else (bif Nat.beq pc 0 then (.aload_n 0, 0, 0, []) else am_nop))))
theorem lk_M_194 : am_lnk RX6 194 (d_M_aboutTerminal 16) := ⟨⟨by decide, by decide⟩, am_tb 8 (by decide +kernel) rfl, Or.inr ⟨by decide, rfl, am_tb 1127 (by decide +kernel) rfl, am_tp 95 (by decide +kernel) rfl, ⟨TX6, 16, rfl⟩, Or.inl (am_tb 1125 (by decide +kernel) rfl)⟩⟩
def m_M_terminalOf : MI := (k_M_terminalOf, [(38, 6, 8)], [(127, d_M_in 0), (131, d_M_isTerminal 0), (134, d_M_refuses 16), (194, d_M_aboutTerminal 16)], [], [], [], [], 7, 161, some .int, fun _ => 0, 1)
def v_M_terminalOf (h : HP) (a1 : Int32) (a2 : Int32) : Int32 × HP := (if (v_M_isTerminal (am_si h 0 8 0) a1) = 0 then (bnd (v_M_refuses (am_si h 0 8 0) 1) fun y2 => (y2.1, y2.2)) else (if (v_M_in (am_si h 0 8 0) a2 0 4) = 0 then (bnd (v_M_refuses (am_si h 0 8 0) 2) fun y1 => (y1.1, y1.2)) else ((v_M_aboutTerminal (am_si h 0 8 0) a1 a2), (am_si h 0 8 0))))
def p_M_terminalOf (h : HP) (a1 : Int32) (a2 : Int32) : Prop := ((p_M_isTerminal (am_si h 0 8 0) a1) ∧ (((v_M_isTerminal (am_si h 0 8 0) a1) = 0 → True) ∧ (¬ (v_M_isTerminal (am_si h 0 8 0) a1) = 0 → (((v_M_in (am_si h 0 8 0) a2 0 4) = 0 → True) ∧ (¬ (v_M_in (am_si h 0 8 0) a2 0 4) = 0 → (p_M_aboutTerminal (am_si h 0 8 0) a1 a2))))))
def g_M_terminalOf (_ _ : List Sh) (as : List Value) (h : HP) : GR := match as with
  | [.ref o1, .int a1, .int a2] => (Nat.beq o1 0, p_M_terminalOf h a1 a2, none, some (.int (v_M_terminalOf h a1 a2).1), (v_M_terminalOf h a1 a2).2)
  | _ => bad h
def d_M_terminalOf (k : Nat) : CD := (k, yX6_terminalOf, cX6_terminalOf, 3, some .int, 3, 7, 161, 0, false, true, g_M_terminalOf)
theorem chk_M_terminalOf : ∀ pc, am_chk cX6_terminalOf k_M_terminalOf pc = true := am_chkall 42 (by decide +kernel) (fun pc h => by unfold k_M_terminalOf; rw [Nat.ble_eq_true_of_le h]; rfl)
theorem pf_M_terminalOf : plainFor yX6_terminalOf = true := by decide +kernel
theorem cu_M_terminalOf : Cond.code yX6_terminalOf cX6_terminalOf 3 (some .int) ∈ am_U := am_tb 1124 (by decide +kernel) rfl
set_option maxHeartbeats 20000000 in
set_option maxRecDepth 100000 in
theorem ev_M_terminalOf {e1 ro : List Sh} {P : AR → HP → Prop} (h : HP) (a1 : Int32) (a2 : Int32) (hp : p_M_terminalOf h a1 a2) (hP : ∀ q, v_M_terminalOf h a1 a2 = q → RIW P h q) : am_Ev m_M_terminalOf (WM ++ e1) ro P (0, [.ref 0, .int a1, .int a2], [], h) := by
  unfold p_M_terminalOf at hp
  refine am_Ev_G [17, 33, 41] 400 _ ?_
  show ((p_M_isTerminal (am_si h 0 8 0) a1) ∧ ((¬ (v_M_isTerminal (am_si h 0 8 0) a1) = 0 → (((v_M_in (am_si h 0 8 0) a2 0 4) = 0 → am_Ev m_M_terminalOf (WM ++ e1) ro P (41, [.ref 0, .int a1, .int a2], [.int ((v_M_refuses (am_si h 0 8 0) 2).1)], ((v_M_refuses (am_si h 0 8 0) 2).2))) ∧ (¬ (v_M_in (am_si h 0 8 0) a2 0 4) = 0 → ((p_M_aboutTerminal (am_si h 0 8 0) a1 a2) ∧ am_Ev m_M_terminalOf (WM ++ e1) ro P (33, [.ref 0, .int a1, .int a2], [.int (v_M_aboutTerminal (am_si h 0 8 0) a1 a2)], (am_si h 0 8 0)))))) ∧ ((v_M_isTerminal (am_si h 0 8 0) a1) = 0 → am_Ev m_M_terminalOf (WM ++ e1) ro P (17, [.ref 0, .int a1, .int a2], [.int ((v_M_refuses (am_si h 0 8 0) 1).1)], ((v_M_refuses (am_si h 0 8 0) 1).2)))))
  obtain ⟨hob, hp⟩ := hp
  refine ⟨hob, ?_⟩
  refine ⟨fun c1 => ?_, fun c1 => ?_⟩
  · have hp := hp.2 c1
    refine ⟨fun c2 => ?_, fun c2 => ?_⟩
    · skip
      obtain ⟨y1, c3⟩ : ∃ y, v_M_refuses (am_si h 0 8 0) 2 = y := ⟨_, rfl⟩
      rw [c3]
      show am_Ev m_M_terminalOf (WM ++ e1) ro P (41, [.ref 0, .int a1, .int a2], [.int y1.1], y1.2)
      refine am_Ev_G [] 400 _ ?_
      show P (.inl (some (.int y1.1))) y1.2
      exact hP (y1.1, y1.2) (by unfold v_M_terminalOf; simp only [if_neg c1, if_pos c2, bnd, c3])
    · have hp := hp.2 c2
      refine ⟨hp, ?_⟩
      refine am_Ev_G [41] 400 _ ?_
      show am_Ev m_M_terminalOf (WM ++ e1) ro P (41, [.ref 0, .int a1, .int a2], [.int (v_M_aboutTerminal (am_si h 0 8 0) a1 a2)], (am_si h 0 8 0))
      refine am_Ev_G [] 400 _ ?_
      show P (.inl (some (.int (v_M_aboutTerminal (am_si h 0 8 0) a1 a2)))) (am_si h 0 8 0)
      exact hP ((v_M_aboutTerminal (am_si h 0 8 0) a1 a2), (am_si h 0 8 0)) (by unfold v_M_terminalOf; simp only [if_neg c1, if_neg c2])
  · skip
    obtain ⟨y2, c4⟩ : ∃ y, v_M_refuses (am_si h 0 8 0) 1 = y := ⟨_, rfl⟩
    rw [c4]
    show am_Ev m_M_terminalOf (WM ++ e1) ro P (17, [.ref 0, .int a1, .int a2], [.int y2.1], y2.2)
    refine am_Ev_G [] 400 _ ?_
    show P (.inl (some (.int y2.1))) y2.2
    exact hP (y2.1, y2.2) (by unfold v_M_terminalOf; simp only [if_pos c1, bnd, c4])
theorem ok_M_terminalOf {l : Launch} (hl : l.stackTraces = false) (e1 ro : List Sh) (k : Nat) : am_Ok l (WM ++ e1) ro (d_M_terminalOf k) := by
  refine am_met hl (own := RX6) (M := m_M_terminalOf) rfl pf_M_terminalOf cu_M_terminalOf rfl rfl rfl rfl (fun _ => rfl) rfl ⟨chk_M_terminalOf, (am_c (fl_M_38) am_n), (am_c (lk_M_127) (am_c (lk_M_131) (am_c (lk_M_134) (am_c (lk_M_194) am_n)))), (am_n), (am_n)⟩ (am_n) (am_c (ok_M_in hl e1 _ 0) (am_c (ok_M_isTerminal hl e1 _ 0) (am_c (ok_M_refuses hl e1 _ 16) (am_c (ok_M_aboutTerminal hl e1 _ 16) am_n)))) (fun z => nomatch z) ?_ ?_
  · intro _ as h hg
    show g_thr (g_M_terminalOf (WM ++ e1) ro as h) = none
    unfold g_M_terminalOf
    split <;> rfl
  · intro as h hg hp
    revert hg hp
    show g_ok (g_M_terminalOf (WM ++ e1) ro as h) = true → g_pre (g_M_terminalOf (WM ++ e1) ro as h) → _ ∧ am_Ev m_M_terminalOf (WM ++ e1) ro (am_eq (g_M_terminalOf (WM ++ e1) ro as h)) (0, am_ent as 3, [], h)
    unfold g_M_terminalOf
    split
    · rename_i o1 a1 a2
      intro hc hp
      change (Nat.beq o1 0) = true at hc
      obtain rfl := am_beq hc
      exact ⟨Nat.le_of_ble_eq_true rfl, ev_M_terminalOf h a1 a2 hp eqRIW⟩
    · exact fun z => nomatch z
def k_M_aboutTrip (pc : Nat) : Ent := bif Nat.ble 86 pc then am_nop else bif Nat.ble 59 pc then (bif Nat.ble 73 pc then (bif Nat.ble 79 pc then (bif Nat.ble 81 pc then (bif Nat.ble 82 pc then (bif Nat.ble 85 pc then (bif Nat.beq pc 85 then (.ireturn, 0, 0, []) else am_nop) else (bif Nat.beq pc 82 then (.invokevirtual 49, 0, 0, []) else am_nop)) else (bif Nat.beq pc 81 then (.iload_n 2, 0, 2, []) else am_nop)) else (bif Nat.ble 80 pc then (bif Nat.beq pc 80 then (.iload_n 1, 0, 1, []) else am_nop) else (bif Nat.beq pc 79 then (.aload_n 0, 0, 0, []) else am_nop))) else (bif Nat.ble 75 pc then (bif Nat.ble 78 pc then (bif Nat.beq pc 78 then (.ireturn, 0, 0, []) else am_nop) else (bif Nat.beq pc 75 then (.invokevirtual 49, 0, 0, []) else am_nop)) else (bif Nat.ble 74 pc then (bif Nat.beq pc 74 then (.iconst 5, 5, 0, []) else am_nop) else (bif Nat.beq pc 73 then (.iload_n 1, 0, 1, []) else am_nop)))) else (bif Nat.ble 67 pc then (bif Nat.ble 71 pc then (bif Nat.ble 72 pc then (bif Nat.beq pc 72 then (.aload_n 0, 0, 0, []) else am_nop) else (bif Nat.beq pc 71 then (.ireturn, 0, 0, []) else am_nop)) else (bif Nat.ble 70 pc then (bif Nat.beq pc 70 then (.iconst (-1), (-1 : Int32), 0, []) else am_nop) else (bif Nat.beq pc 67 then (.goto 4, 0, 71, []) else am_nop))) else (bif Nat.ble 63 pc then (bif Nat.ble 64 pc then (bif Nat.beq pc 64 then (.invokevirtual 197, 0, 0, []) else am_nop) else (bif Nat.beq pc 63 then (.iload_n 1, 0, 1, []) else am_nop)) else (bif Nat.ble 62 pc then (bif Nat.beq pc 62 then (.aload_n 0, 0, 0, []) else am_nop) else (bif Nat.beq pc 59 then (.ifCond .eq 11, 0, 70, []) else am_nop))))) else (bif Nat.ble 44 pc then (bif Nat.ble 50 pc then (bif Nat.ble 54 pc then (bif Nat.ble 55 pc then (bif Nat.ble 56 pc then (bif Nat.beq pc 56 then (.invokevirtual 60, 0, 0, []) else am_nop) else (bif Nat.beq pc 55 then (.iload_n 1, 0, 1, []) else am_nop)) else (bif Nat.beq pc 54 then (.aload_n 0, 0, 0, []) else am_nop)) else (bif Nat.ble 53 pc then (bif Nat.beq pc 53 then (.ireturn, 0, 0, []) else am_nop) else (bif Nat.beq pc 50 then (.invokevirtual 57, 0, 0, []) else am_nop))) else (bif Nat.ble 48 pc then (bif Nat.ble 49 pc then (bif Nat.beq pc 49 then (.iload_n 1, 0, 1, []) else am_nop) else (bif Nat.beq pc 48 then (.aload_n 0, 0, 0, []) else am_nop)) else (bif Nat.ble 47 pc then (bif Nat.beq pc 47 then (.ireturn, 0, 0, []) else am_nop) else (bif Nat.beq pc 44 then (.invokevirtual 64, 0, 0, []) else am_nop)))) else (bif Nat.ble 38 pc then (bif Nat.ble 42 pc then (bif Nat.ble 43 pc then (bif Nat.beq pc 43 then (.iload_n 1, 0, 1, []) else am_nop) else (bif Nat.beq pc 42 then (.aload_n 0, 0, 0, []) else am_nop)) else (bif Nat.ble 41 pc then (bif Nat.beq pc 41 then (.ireturn, 0, 0, []) else am_nop) else (bif Nat.beq pc 38 then (.invokevirtual 53, 0, 0, []) else am_nop))) else (bif Nat.ble 36 pc then (bif Nat.ble 37 pc then (bif Nat.beq pc 37 then (.iload_n 1, 0, 1, []) else am_nop) else (bif Nat.beq pc 36 then (.aload_n 0, 0, 0, []) else am_nop)) else (bif Nat.ble 1 pc then (bif Nat.beq pc 1 then (.tableswitch 78 4 8 #[35, 41, 47, 53, 71], 0, 79, [(4, 36), (5, 42), (6, 48), (7, 54), (8, 72)]) else am_nop) else (bif Nat.beq pc 0 then (.iload_n 2, 0, 2, []) else am_nop)))))
theorem lk_M_197 : am_lnk RX6 197 (d_M_blockOfTrip 16) := ⟨⟨by decide, by decide⟩, am_tb 8 (by decide +kernel) rfl, Or.inr ⟨by decide, rfl, am_tb 1159 (by decide +kernel) rfl, am_tp 102 (by decide +kernel) rfl, ⟨TX6, 16, rfl⟩, Or.inl (am_tb 1157 (by decide +kernel) rfl)⟩⟩
def m_M_aboutTrip : MI := (k_M_aboutTrip, [], [(49, d_M_of 16), (53, d_M_arrival 16), (57, d_M_next 16), (60, d_M_isRun 16), (64, d_M_before 16), (197, d_M_blockOfTrip 16)], [], [], [], [], 5, 113, some .int, fun _ => 0, 1)
def v_M_aboutTrip (h : HP) (a1 : Int32) (a2 : Int32) : Int32 := (if a2 = 4 then (v_M_arrival h a1) else (if a2 = 5 then (v_M_before h a1) else (if a2 = 6 then (v_M_next h a1) else (if a2 = 7 then (if (v_M_isRun h a1) = 0 then (-1 : Int32) else (v_M_blockOfTrip h a1)) else (if a2 = 8 then (v_M_of h a1 5) else (v_M_of h a1 a2))))))
def p_M_aboutTrip (h : HP) (a1 : Int32) (a2 : Int32) : Prop := ((a2 = 4 → (p_M_arrival h a1)) ∧ (¬ a2 = 4 → ((a2 = 5 → (p_M_before h a1)) ∧ (¬ a2 = 5 → ((a2 = 6 → (p_M_next h a1)) ∧ (¬ a2 = 6 → ((a2 = 7 → ((p_M_isRun h a1) ∧ (((v_M_isRun h a1) = 0 → True) ∧ (¬ (v_M_isRun h a1) = 0 → (p_M_blockOfTrip h a1))))) ∧ (¬ a2 = 7 → ((a2 = 8 → (p_M_of h a1 5)) ∧ (¬ a2 = 8 → (p_M_of h a1 a2)))))))))))
def g_M_aboutTrip (_ _ : List Sh) (as : List Value) (h : HP) : GR := match as with
  | [.ref o1, .int a1, .int a2] => (Nat.beq o1 0, p_M_aboutTrip h a1 a2, none, some (.int (v_M_aboutTrip h a1 a2)), h)
  | _ => bad h
def d_M_aboutTrip (k : Nat) : CD := (k, yX6_aboutTrip, cX6_aboutTrip, 3, some .int, 3, 5, 113, 0, false, true, g_M_aboutTrip)
theorem chk_M_aboutTrip : ∀ pc, am_chk cX6_aboutTrip k_M_aboutTrip pc = true := am_chkall 86 (by decide +kernel) (fun pc h => by unfold k_M_aboutTrip; rw [Nat.ble_eq_true_of_le h]; rfl)
theorem pf_M_aboutTrip : plainFor yX6_aboutTrip = true := by decide +kernel
theorem cu_M_aboutTrip : Cond.code yX6_aboutTrip cX6_aboutTrip 3 (some .int) ∈ am_U := am_tb 1156 (by decide +kernel) rfl
set_option maxHeartbeats 20000000 in
set_option maxRecDepth 100000 in
theorem ev_M_aboutTrip {e1 ro : List Sh} {P : AR → HP → Prop} (h : HP) (a1 : Int32) (a2 : Int32) (hp : p_M_aboutTrip h a1 a2) (hP : ∀ q, v_M_aboutTrip h a1 a2 = q → RI P h q) : am_Ev m_M_aboutTrip (WM ++ e1) ro P (0, [.ref 0, .int a1, .int a2], [], h) := by
  unfold p_M_aboutTrip at hp
  refine am_Ev_G [47, 59, 78] 400 _ ?_
  show ((a2 = 4 → ((p_M_arrival h a1) ∧ P (.inl (some (.int (v_M_arrival h a1)))) h)) ∧ (¬ a2 = 4 → ((a2 = 5 → ((p_M_before h a1) ∧ am_Ev m_M_aboutTrip (WM ++ e1) ro P (47, [.ref 0, .int a1, .int a2], [.int (v_M_before h a1)], h))) ∧ (¬ a2 = 5 → ((a2 = 6 → ((p_M_next h a1) ∧ P (.inl (some (.int (v_M_next h a1)))) h)) ∧ (¬ a2 = 6 → ((a2 = 7 → ((p_M_isRun h a1) ∧ am_Ev m_M_aboutTrip (WM ++ e1) ro P (59, [.ref 0, .int a1, .int a2], [.int (v_M_isRun h a1)], h))) ∧ (¬ a2 = 7 → ((a2 = 8 → ((p_M_of h a1 5) ∧ am_Ev m_M_aboutTrip (WM ++ e1) ro P (78, [.ref 0, .int a1, .int a2], [.int (v_M_of h a1 5)], h))) ∧ (¬ a2 = 8 → ((p_M_of h a1 a2) ∧ P (.inl (some (.int (v_M_of h a1 a2)))) h)))))))))))
  refine ⟨fun c1 => ?_, fun c1 => ?_⟩
  · have hp := hp.1 c1
    refine ⟨hp, ?_⟩
    exact hP (v_M_arrival h a1) (by unfold v_M_aboutTrip; simp only [if_pos c1])
  · have hp := hp.2 c1
    refine ⟨fun c2 => ?_, fun c2 => ?_⟩
    · have hp := hp.1 c2
      refine ⟨hp, ?_⟩
      refine am_Ev_G [] 400 _ ?_
      show P (.inl (some (.int (v_M_before h a1)))) h
      exact hP (v_M_before h a1) (by unfold v_M_aboutTrip; simp only [if_neg c1, if_pos c2])
    · have hp := hp.2 c2
      refine ⟨fun c3 => ?_, fun c3 => ?_⟩
      · have hp := hp.1 c3
        refine ⟨hp, ?_⟩
        exact hP (v_M_next h a1) (by unfold v_M_aboutTrip; simp only [if_neg c1, if_neg c2, if_pos c3])
      · have hp := hp.2 c3
        refine ⟨fun c4 => ?_, fun c4 => ?_⟩
        · have hp := hp.1 c4
          obtain ⟨hob, hp⟩ := hp
          refine ⟨hob, ?_⟩
          have hpa := hp
          have key5 : am_Ev m_M_aboutTrip (WM ++ e1) ro P (71, [.ref 0, .int a1, .int a2], [.int (if (v_M_isRun h a1) = 0 then (-1 : Int32) else (v_M_blockOfTrip h a1))], h) := by
            refine am_Ev_G [] 400 _ ?_
            show P (.inl (some (.int (if (v_M_isRun h a1) = 0 then (-1 : Int32) else (v_M_blockOfTrip h a1))))) h
            exact hP (if (v_M_isRun h a1) = 0 then (-1 : Int32) else (v_M_blockOfTrip h a1)) (by unfold v_M_aboutTrip; simp only [if_neg c1, if_neg c2, if_neg c3, if_pos c4])
          have hp := hpa
          refine am_Ev_G [71] 400 _ ?_
          show (((v_M_isRun h a1) = 0 → am_Ev m_M_aboutTrip (WM ++ e1) ro P (71, [.ref 0, .int a1, .int a2], [.int (-1 : Int32)], h)) ∧ (¬ (v_M_isRun h a1) = 0 → ((p_M_blockOfTrip h a1) ∧ am_Ev m_M_aboutTrip (WM ++ e1) ro P (71, [.ref 0, .int a1, .int a2], [.int (v_M_blockOfTrip h a1)], h))))
          refine ⟨fun c6 => ?_, fun c6 => ?_⟩
          · skip
            simpa only [if_pos c6] using key5
          · have hp := hp.2 c6
            refine ⟨hp, ?_⟩
            simpa only [if_neg c6] using key5
        · have hp := hp.2 c4
          refine ⟨fun c7 => ?_, fun c7 => ?_⟩
          · have hp := hp.1 c7
            refine ⟨hp, ?_⟩
            refine am_Ev_G [] 400 _ ?_
            show P (.inl (some (.int (v_M_of h a1 5)))) h
            exact hP (v_M_of h a1 5) (by unfold v_M_aboutTrip; simp only [if_neg c1, if_neg c2, if_neg c3, if_neg c4, if_pos c7])
          · have hp := hp.2 c7
            refine ⟨hp, ?_⟩
            exact hP (v_M_of h a1 a2) (by unfold v_M_aboutTrip; simp only [if_neg c1, if_neg c2, if_neg c3, if_neg c4, if_neg c7])
theorem ok_M_aboutTrip {l : Launch} (hl : l.stackTraces = false) (e1 ro : List Sh) (k : Nat) : am_Ok l (WM ++ e1) ro (d_M_aboutTrip k) := by
  refine am_met hl (own := RX6) (M := m_M_aboutTrip) rfl pf_M_aboutTrip cu_M_aboutTrip rfl rfl rfl rfl (fun _ => rfl) rfl ⟨chk_M_aboutTrip, (am_n), (am_c (lk_M_49) (am_c (lk_M_53) (am_c (lk_M_57) (am_c (lk_M_60) (am_c (lk_M_64) (am_c (lk_M_197) am_n)))))), (am_n), (am_n)⟩ (am_n) (am_c (ok_M_of hl e1 _ 16) (am_c (ok_M_arrival hl e1 _ 16) (am_c (ok_M_next hl e1 _ 16) (am_c (ok_M_isRun hl e1 _ 16) (am_c (ok_M_before hl e1 _ 16) (am_c (ok_M_blockOfTrip hl e1 _ 16) am_n)))))) (fun z => nomatch z) ?_ ?_
  · intro _ as h hg
    show g_thr (g_M_aboutTrip (WM ++ e1) ro as h) = none
    unfold g_M_aboutTrip
    split <;> rfl
  · intro as h hg hp
    revert hg hp
    show g_ok (g_M_aboutTrip (WM ++ e1) ro as h) = true → g_pre (g_M_aboutTrip (WM ++ e1) ro as h) → _ ∧ am_Ev m_M_aboutTrip (WM ++ e1) ro (am_eq (g_M_aboutTrip (WM ++ e1) ro as h)) (0, am_ent as 3, [], h)
    unfold g_M_aboutTrip
    split
    · rename_i o1 a1 a2
      intro hc hp
      change (Nat.beq o1 0) = true at hc
      obtain rfl := am_beq hc
      exact ⟨Nat.le_of_ble_eq_true rfl, ev_M_aboutTrip h a1 a2 hp eqRI⟩
    · exact fun z => nomatch z
def k_M_tripOf (pc : Nat) : Ent := bif Nat.ble 44 pc then am_nop else bif Nat.ble 20 pc then (bif Nat.ble 31 pc then (bif Nat.ble 38 pc then (bif Nat.ble 40 pc then (bif Nat.ble 43 pc then (bif Nat.beq pc 43 then (.ireturn, 0, 0, []) else am_nop) else (bif Nat.beq pc 40 then (.invokevirtual 134, 0, 0, []) else am_nop)) else (bif Nat.ble 39 pc then (bif Nat.beq pc 39 then (.iconst 2, 2, 0, []) else am_nop) else (bif Nat.beq pc 38 then (.aload_n 0, 0, 0, []) else am_nop))) else (bif Nat.ble 32 pc then (bif Nat.ble 35 pc then (bif Nat.beq pc 35 then (.goto 8, 0, 43, []) else am_nop) else (bif Nat.beq pc 32 then (.invokevirtual 200, 0, 0, []) else am_nop)) else (bif Nat.beq pc 31 then (.iload_n 2, 0, 2, []) else am_nop))) else (bif Nat.ble 26 pc then (bif Nat.ble 29 pc then (bif Nat.ble 30 pc then (bif Nat.beq pc 30 then (.iload_n 1, 0, 1, []) else am_nop) else (bif Nat.beq pc 29 then (.aload_n 0, 0, 0, []) else am_nop)) else (bif Nat.beq pc 26 then (.ifCond .eq 12, 0, 38, []) else am_nop)) else (bif Nat.ble 21 pc then (bif Nat.ble 23 pc then (bif Nat.beq pc 23 then (.invokestatic 127, 0, 0, []) else am_nop) else (bif Nat.beq pc 21 then (.bipush 8, 8, 0, []) else am_nop)) else (bif Nat.beq pc 20 then (.iconst 0, 0, 0, []) else am_nop)))) else (bif Nat.ble 10 pc then (bif Nat.ble 15 pc then (bif Nat.ble 18 pc then (bif Nat.ble 19 pc then (bif Nat.beq pc 19 then (.iload_n 2, 0, 2, []) else am_nop) else (bif Nat.beq pc 18 then (.ireturn, 0, 0, []) else am_nop)) else (bif Nat.beq pc 15 then (.invokevirtual 134, 0, 0, []) else am_nop)) else (bif Nat.ble 13 pc then (bif Nat.ble 14 pc then (bif Nat.beq pc 14 then (.iconst 1, 1, 0, []) else am_nop) else (bif Nat.beq pc 13 then (.aload_n 0, 0, 0, []) else am_nop)) else (bif Nat.beq pc 10 then (.ifCond .ne 9, 0, 19, []) else am_nop))) else (bif Nat.ble 5 pc then (bif Nat.ble 6 pc then (bif Nat.ble 7 pc then (bif Nat.beq pc 7 then (.invokevirtual 148, 0, 0, []) else am_nop) else (bif Nat.beq pc 6 then (.iload_n 1, 0, 1, []) else am_nop)) else (bif Nat.beq pc 5 then (.aload_n 0, 0, 0, []) else am_nop)) else (bif Nat.ble 1 pc then (bif Nat.ble 2 pc then (bif Nat.beq pc 2 then (.putfield 38, 0, 0, []) else am_nop) else (bif Nat.beq pc 1 then (.iconst 0, 0, 0, []) else am_nop)) else (bif Nat.beq pc 0 then (.aload_n 0, 0, 0, []) else am_nop))))
theorem lk_M_200 : am_lnk RX6 200 (d_M_aboutTrip 16) := ⟨⟨by decide, by decide⟩, am_tb 8 (by decide +kernel) rfl, Or.inr ⟨by decide, rfl, am_tb 1155 (by decide +kernel) rfl, am_tp 101 (by decide +kernel) rfl, ⟨TX6, 16, rfl⟩, Or.inl (am_tb 1153 (by decide +kernel) rfl)⟩⟩
def m_M_tripOf : MI := (k_M_tripOf, [(38, 6, 8)], [(127, d_M_in 0), (134, d_M_refuses 16), (148, d_M_isTrip 16), (200, d_M_aboutTrip 16)], [], [], [], [], 6, 135, some .int, fun _ => 0, 1)
def v_M_tripOf (h : HP) (a1 : Int32) (a2 : Int32) : Int32 × HP := (if (v_M_isTrip (am_si h 0 8 0) a1) = 0 then (bnd (v_M_refuses (am_si h 0 8 0) 1) fun y2 => (y2.1, y2.2)) else (if (v_M_in (am_si h 0 8 0) a2 0 8) = 0 then (bnd (v_M_refuses (am_si h 0 8 0) 2) fun y1 => (y1.1, y1.2)) else ((v_M_aboutTrip (am_si h 0 8 0) a1 a2), (am_si h 0 8 0))))
def p_M_tripOf (h : HP) (a1 : Int32) (a2 : Int32) : Prop := ((p_M_isTrip (am_si h 0 8 0) a1) ∧ (((v_M_isTrip (am_si h 0 8 0) a1) = 0 → True) ∧ (¬ (v_M_isTrip (am_si h 0 8 0) a1) = 0 → (((v_M_in (am_si h 0 8 0) a2 0 8) = 0 → True) ∧ (¬ (v_M_in (am_si h 0 8 0) a2 0 8) = 0 → (p_M_aboutTrip (am_si h 0 8 0) a1 a2))))))
def g_M_tripOf (_ _ : List Sh) (as : List Value) (h : HP) : GR := match as with
  | [.ref o1, .int a1, .int a2] => (Nat.beq o1 0, p_M_tripOf h a1 a2, none, some (.int (v_M_tripOf h a1 a2).1), (v_M_tripOf h a1 a2).2)
  | _ => bad h
def d_M_tripOf (k : Nat) : CD := (k, yX6_tripOf, cX6_tripOf, 3, some .int, 3, 6, 135, 0, false, true, g_M_tripOf)
theorem chk_M_tripOf : ∀ pc, am_chk cX6_tripOf k_M_tripOf pc = true := am_chkall 44 (by decide +kernel) (fun pc h => by unfold k_M_tripOf; rw [Nat.ble_eq_true_of_le h]; rfl)
theorem pf_M_tripOf : plainFor yX6_tripOf = true := by decide +kernel
theorem cu_M_tripOf : Cond.code yX6_tripOf cX6_tripOf 3 (some .int) ∈ am_U := am_tb 1152 (by decide +kernel) rfl
set_option maxHeartbeats 20000000 in
set_option maxRecDepth 100000 in
theorem ev_M_tripOf {e1 ro : List Sh} {P : AR → HP → Prop} (h : HP) (a1 : Int32) (a2 : Int32) (hp : p_M_tripOf h a1 a2) (hP : ∀ q, v_M_tripOf h a1 a2 = q → RIW P h q) : am_Ev m_M_tripOf (WM ++ e1) ro P (0, [.ref 0, .int a1, .int a2], [], h) := by
  unfold p_M_tripOf at hp
  refine am_Ev_G [18, 35, 43] 400 _ ?_
  show ((p_M_isTrip (am_si h 0 8 0) a1) ∧ ((¬ (v_M_isTrip (am_si h 0 8 0) a1) = 0 → (((v_M_in (am_si h 0 8 0) a2 0 8) = 0 → am_Ev m_M_tripOf (WM ++ e1) ro P (43, [.ref 0, .int a1, .int a2], [.int ((v_M_refuses (am_si h 0 8 0) 2).1)], ((v_M_refuses (am_si h 0 8 0) 2).2))) ∧ (¬ (v_M_in (am_si h 0 8 0) a2 0 8) = 0 → ((p_M_aboutTrip (am_si h 0 8 0) a1 a2) ∧ am_Ev m_M_tripOf (WM ++ e1) ro P (35, [.ref 0, .int a1, .int a2], [.int (v_M_aboutTrip (am_si h 0 8 0) a1 a2)], (am_si h 0 8 0)))))) ∧ ((v_M_isTrip (am_si h 0 8 0) a1) = 0 → am_Ev m_M_tripOf (WM ++ e1) ro P (18, [.ref 0, .int a1, .int a2], [.int ((v_M_refuses (am_si h 0 8 0) 1).1)], ((v_M_refuses (am_si h 0 8 0) 1).2)))))
  obtain ⟨hob, hp⟩ := hp
  refine ⟨hob, ?_⟩
  refine ⟨fun c1 => ?_, fun c1 => ?_⟩
  · have hp := hp.2 c1
    refine ⟨fun c2 => ?_, fun c2 => ?_⟩
    · skip
      obtain ⟨y1, c3⟩ : ∃ y, v_M_refuses (am_si h 0 8 0) 2 = y := ⟨_, rfl⟩
      rw [c3]
      show am_Ev m_M_tripOf (WM ++ e1) ro P (43, [.ref 0, .int a1, .int a2], [.int y1.1], y1.2)
      refine am_Ev_G [] 400 _ ?_
      show P (.inl (some (.int y1.1))) y1.2
      exact hP (y1.1, y1.2) (by unfold v_M_tripOf; simp only [if_neg c1, if_pos c2, bnd, c3])
    · have hp := hp.2 c2
      refine ⟨hp, ?_⟩
      refine am_Ev_G [43] 400 _ ?_
      show am_Ev m_M_tripOf (WM ++ e1) ro P (43, [.ref 0, .int a1, .int a2], [.int (v_M_aboutTrip (am_si h 0 8 0) a1 a2)], (am_si h 0 8 0))
      refine am_Ev_G [] 400 _ ?_
      show P (.inl (some (.int (v_M_aboutTrip (am_si h 0 8 0) a1 a2)))) (am_si h 0 8 0)
      exact hP ((v_M_aboutTrip (am_si h 0 8 0) a1 a2), (am_si h 0 8 0)) (by unfold v_M_tripOf; simp only [if_neg c1, if_neg c2])
  · skip
    obtain ⟨y2, c4⟩ : ∃ y, v_M_refuses (am_si h 0 8 0) 1 = y := ⟨_, rfl⟩
    rw [c4]
    show am_Ev m_M_tripOf (WM ++ e1) ro P (18, [.ref 0, .int a1, .int a2], [.int y2.1], y2.2)
    refine am_Ev_G [] 400 _ ?_
    show P (.inl (some (.int y2.1))) y2.2
    exact hP (y2.1, y2.2) (by unfold v_M_tripOf; simp only [if_pos c1, bnd, c4])
theorem ok_M_tripOf {l : Launch} (hl : l.stackTraces = false) (e1 ro : List Sh) (k : Nat) : am_Ok l (WM ++ e1) ro (d_M_tripOf k) := by
  refine am_met hl (own := RX6) (M := m_M_tripOf) rfl pf_M_tripOf cu_M_tripOf rfl rfl rfl rfl (fun _ => rfl) rfl ⟨chk_M_tripOf, (am_c (fl_M_38) am_n), (am_c (lk_M_127) (am_c (lk_M_134) (am_c (lk_M_148) (am_c (lk_M_200) am_n)))), (am_n), (am_n)⟩ (am_n) (am_c (ok_M_in hl e1 _ 0) (am_c (ok_M_refuses hl e1 _ 16) (am_c (ok_M_isTrip hl e1 _ 16) (am_c (ok_M_aboutTrip hl e1 _ 16) am_n)))) (fun z => nomatch z) ?_ ?_
  · intro _ as h hg
    show g_thr (g_M_tripOf (WM ++ e1) ro as h) = none
    unfold g_M_tripOf
    split <;> rfl
  · intro as h hg hp
    revert hg hp
    show g_ok (g_M_tripOf (WM ++ e1) ro as h) = true → g_pre (g_M_tripOf (WM ++ e1) ro as h) → _ ∧ am_Ev m_M_tripOf (WM ++ e1) ro (am_eq (g_M_tripOf (WM ++ e1) ro as h)) (0, am_ent as 3, [], h)
    unfold g_M_tripOf
    split
    · rename_i o1 a1 a2
      intro hc hp
      change (Nat.beq o1 0) = true at hc
      obtain rfl := am_beq hc
      exact ⟨Nat.le_of_ble_eq_true rfl, ev_M_tripOf h a1 a2 hp eqRIW⟩
    · exact fun z => nomatch z
def k_M_tripsFrom (pc : Nat) : Ent := bif Nat.ble 23 pc then am_nop else bif Nat.ble 9 pc then (bif Nat.ble 17 pc then (bif Nat.ble 21 pc then (bif Nat.ble 22 pc then (bif Nat.beq pc 22 then (.ireturn, 0, 0, []) else am_nop) else (bif Nat.beq pc 21 then (.iload_n 2, 0, 2, []) else am_nop)) else (bif Nat.ble 18 pc then (bif Nat.beq pc 18 then (.goto (-14), 0, 4, []) else am_nop) else (bif Nat.beq pc 17 then (.istore_n 3, 0, 3, []) else am_nop))) else (bif Nat.ble 13 pc then (bif Nat.ble 14 pc then (bif Nat.beq pc 14 then (.invokevirtual 57, 0, 0, []) else am_nop) else (bif Nat.beq pc 13 then (.iload_n 3, 0, 3, []) else am_nop)) else (bif Nat.ble 12 pc then (bif Nat.beq pc 12 then (.aload_n 0, 0, 0, []) else am_nop) else (bif Nat.beq pc 9 then (.iinc 2 1, 1, 2, []) else am_nop)))) else (bif Nat.ble 3 pc then (bif Nat.ble 5 pc then (bif Nat.ble 6 pc then (bif Nat.beq pc 6 then (.if_icmp .eq 15, 0, 21, []) else am_nop) else (bif Nat.beq pc 5 then (.iconst (-1), (-1 : Int32), 0, []) else am_nop)) else (bif Nat.ble 4 pc then (bif Nat.beq pc 4 then (.iload_n 3, 0, 3, []) else am_nop) else (bif Nat.beq pc 3 then (.istore_n 3, 0, 3, []) else am_nop))) else (bif Nat.ble 1 pc then (bif Nat.ble 2 pc then (bif Nat.beq pc 2 then (.iload_n 1, 0, 1, []) else am_nop) else (bif Nat.beq pc 1 then (.istore_n 2, 0, 2, []) else am_nop)) else (bif Nat.beq pc 0 then (.iconst 0, 0, 0, []) else am_nop)))
def m_M_tripsFrom : MI := (k_M_tripsFrom, [], [(57, d_M_next 16)], [], [], [], [], 2, 43, some .int, fun _ => 0, 1)
def s_M_tripsFrom_4 (h : HP) (a1 : Int32) (v1 : Int32 × Int32) : (Int32 × Int32) ⊕ (Int32 × Int32) := (if v1.2 = (-1 : Int32) then (.inr (v1.1, v1.2)) else (.inl ((v1.1 + 1), (v_M_next h v1.2))))
def ps_M_tripsFrom_4 (h : HP) (a1 : Int32) (v1 : Int32 × Int32) : Prop := ((v1.2 = (-1 : Int32) → True) ∧ (¬ v1.2 = (-1 : Int32) → (p_M_next h v1.2)))
def v_M_tripsFrom (h : HP) (a1 : Int32) : Int32 := (match itr (s_M_tripsFrom_4 h a1) NF (0, a1) with | some r1 => r1.1 | none => 0)
def p_M_tripsFrom (h : HP) (a1 : Int32) : Prop := (itrp (s_M_tripsFrom_4 h a1) (ps_M_tripsFrom_4 h a1) NF (0, a1))
def g_M_tripsFrom (_ _ : List Sh) (as : List Value) (h : HP) : GR := match as with
  | [.ref o1, .int a1] => (Nat.beq o1 0, p_M_tripsFrom h a1, none, some (.int (v_M_tripsFrom h a1)), h)
  | _ => bad h
def d_M_tripsFrom (k : Nat) : CD := (k, yX6_tripsFrom, cX6_tripsFrom, 4, some .int, 2, 2, 43, 0, false, true, g_M_tripsFrom)
theorem chk_M_tripsFrom : ∀ pc, am_chk cX6_tripsFrom k_M_tripsFrom pc = true := am_chkall 23 (by decide +kernel) (fun pc h => by unfold k_M_tripsFrom; rw [Nat.ble_eq_true_of_le h]; rfl)
theorem pf_M_tripsFrom : plainFor yX6_tripsFrom = true := by decide +kernel
theorem cu_M_tripsFrom : Cond.code yX6_tripsFrom cX6_tripsFrom 4 (some .int) ∈ am_U := am_tb 1184 (by decide +kernel) rfl
set_option maxHeartbeats 20000000 in
set_option maxRecDepth 100000 in
theorem ev_M_tripsFrom {e1 ro : List Sh} {P : AR → HP → Prop} (h : HP) (a1 : Int32) (hp : p_M_tripsFrom h a1) (hP : ∀ q, v_M_tripsFrom h a1 = q → RI P h q) : am_Ev m_M_tripsFrom (WM ++ e1) ro P (0, [.ref 0, .int a1, .retAddr 0, .retAddr 0], [], h) := by
  unfold p_M_tripsFrom at hp
  refine am_Ev_G [4] 400 _ ?_
  show am_Ev m_M_tripsFrom (WM ++ e1) ro P (4, [.ref 0, .int a1, .int 0, .int a1], [], h)
  refine am_fg 1 ?_
  have hpl := hp
  refine am_itr (E := (fun (v1 : Int32 × Int32) => am_Ev m_M_tripsFrom (WM ++ e1) ro P (4, [.ref 0, .retAddr 0, .int v1.1, .int v1.2], [], h))) (E' := (fun (r1 : Int32 × Int32) => am_Ev m_M_tripsFrom (WM ++ e1) ro P (21, [.ref 0, .retAddr 0, .int r1.1, .int r1.2], [], h))) (s_M_tripsFrom_4 h a1) (ps_M_tripsFrom_4 h a1) ?_ NF (0, a1) hpl ?_
  · intro v1 hp hc1 hx1
    show am_Ev m_M_tripsFrom (WM ++ e1) ro P (4, [.ref 0, .retAddr 0, .int v1.1, .int v1.2], [], h)
    unfold ps_M_tripsFrom_4 at hp
    refine am_Ev_G [17, 21] 400 _ ?_
    show ((v1.2 = (-1 : Int32) → am_Ev m_M_tripsFrom (WM ++ e1) ro P (21, [.ref 0, .retAddr 0, .int v1.1, .int v1.2], [], h)) ∧ (¬ v1.2 = (-1 : Int32) → ((p_M_next h v1.2) ∧ am_Ev m_M_tripsFrom (WM ++ e1) ro P (17, [.ref 0, .retAddr 0, .int (v1.1 + 1), .int v1.2], [.int (v_M_next h v1.2)], h))))
    refine ⟨fun c1 => ?_, fun c1 => ?_⟩
    · skip
      exact hx1 (v1.1, v1.2) (by unfold s_M_tripsFrom_4; simp only [if_pos c1])
    · have hp := hp.2 c1
      refine ⟨hp, ?_⟩
      refine am_Ev_G [4] 400 _ ?_
      show am_Ev m_M_tripsFrom (WM ++ e1) ro P (4, [.ref 0, .retAddr 0, .int (v1.1 + 1), .int (v_M_next h v1.2)], [], h)
      exact hc1 ((v1.1 + 1), (v_M_next h v1.2)) (by unfold s_M_tripsFrom_4; simp only [if_neg c1])
  · intro r1 hr2
    show am_Ev m_M_tripsFrom (WM ++ e1) ro P (21, [.ref 0, .retAddr 0, .int r1.1, .int r1.2], [], h)
    refine am_Ev_G [] 400 _ ?_
    show P (.inl (some (.int r1.1))) h
    exact hP r1.1 (by unfold v_M_tripsFrom; simp only [hr2])
theorem ok_M_tripsFrom {l : Launch} (hl : l.stackTraces = false) (e1 ro : List Sh) (k : Nat) : am_Ok l (WM ++ e1) ro (d_M_tripsFrom k) := by
  refine am_met hl (own := RX6) (M := m_M_tripsFrom) rfl pf_M_tripsFrom cu_M_tripsFrom rfl rfl rfl rfl (fun _ => rfl) rfl ⟨chk_M_tripsFrom, (am_n), (am_c (lk_M_57) am_n), (am_n), (am_n)⟩ (am_n) (am_c (ok_M_next hl e1 _ 16) am_n) (fun z => nomatch z) ?_ ?_
  · intro _ as h hg
    show g_thr (g_M_tripsFrom (WM ++ e1) ro as h) = none
    unfold g_M_tripsFrom
    split <;> rfl
  · intro as h hg hp
    revert hg hp
    show g_ok (g_M_tripsFrom (WM ++ e1) ro as h) = true → g_pre (g_M_tripsFrom (WM ++ e1) ro as h) → _ ∧ am_Ev m_M_tripsFrom (WM ++ e1) ro (am_eq (g_M_tripsFrom (WM ++ e1) ro as h)) (0, am_ent as 4, [], h)
    unfold g_M_tripsFrom
    split
    · rename_i o1 a1
      intro hc hp
      change (Nat.beq o1 0) = true at hc
      obtain rfl := am_beq hc
      exact ⟨Nat.le_of_ble_eq_true rfl, ev_M_tripsFrom h a1 hp eqRI⟩
    · exact fun z => nomatch z
def k_M_span (pc : Nat) : Ent := bif Nat.ble 17 pc then am_nop else bif Nat.ble 9 pc then (bif Nat.ble 12 pc then (bif Nat.ble 15 pc then (bif Nat.ble 16 pc then (bif Nat.beq pc 16 then (.ireturn, 0, 0, []) else am_nop) else (bif Nat.beq pc 15 then (.isub, 0, 0, []) else am_nop)) else (bif Nat.beq pc 12 then (.invokevirtual 49, 0, 0, []) else am_nop)) else (bif Nat.ble 10 pc then (bif Nat.ble 11 pc then (bif Nat.beq pc 11 then (.iconst 3, 3, 0, []) else am_nop) else (bif Nat.beq pc 10 then (.iload_n 1, 0, 1, []) else am_nop)) else (bif Nat.beq pc 9 then (.aload_n 0, 0, 0, []) else am_nop))) else (bif Nat.ble 2 pc then (bif Nat.ble 3 pc then (bif Nat.ble 6 pc then (bif Nat.beq pc 6 then (.invokevirtual 53, 0, 0, []) else am_nop) else (bif Nat.beq pc 3 then (.invokevirtual 117, 0, 0, []) else am_nop)) else (bif Nat.beq pc 2 then (.iload_n 1, 0, 1, []) else am_nop)) else (bif Nat.ble 1 pc then (bif Nat.beq pc 1 then (.aload_n 0, 0, 0, []) else am_nop) else (bif Nat.beq pc 0 then (.aload_n 0, 0, 0, []) else am_nop)))
def m_M_span : MI := (k_M_span, [], [(49, d_M_of 16), (53, d_M_arrival 16), (117, d_M_lastOf 16)], [], [], [], [], 3, 65, some .int, fun _ => 0, 1)
def v_M_span (h : HP) (a1 : Int32) : Int32 := ((v_M_arrival h (v_M_lastOf h a1)) - (v_M_of h a1 3))
def p_M_span (h : HP) (a1 : Int32) : Prop := ((p_M_lastOf h a1) ∧ ((p_M_arrival h (v_M_lastOf h a1)) ∧ (p_M_of h a1 3)))
def g_M_span (_ _ : List Sh) (as : List Value) (h : HP) : GR := match as with
  | [.ref o1, .int a1] => (Nat.beq o1 0, p_M_span h a1, none, some (.int (v_M_span h a1)), h)
  | _ => bad h
def d_M_span (k : Nat) : CD := (k, yX6_span, cX6_span, 2, some .int, 2, 3, 65, 0, false, true, g_M_span)
theorem chk_M_span : ∀ pc, am_chk cX6_span k_M_span pc = true := am_chkall 17 (by decide +kernel) (fun pc h => by unfold k_M_span; rw [Nat.ble_eq_true_of_le h]; rfl)
theorem pf_M_span : plainFor yX6_span = true := by decide +kernel
theorem cu_M_span : Cond.code yX6_span cX6_span 2 (some .int) ∈ am_U := am_tb 1188 (by decide +kernel) rfl
set_option maxHeartbeats 20000000 in
set_option maxRecDepth 100000 in
theorem ev_M_span {e1 ro : List Sh} {P : AR → HP → Prop} (h : HP) (a1 : Int32) (hp : p_M_span h a1) (hP : ∀ q, v_M_span h a1 = q → RI P h q) : am_Ev m_M_span (WM ++ e1) ro P (0, [.ref 0, .int a1], [], h) := by
  unfold p_M_span at hp
  refine am_Ev_G [15] 400 _ ?_
  show ((p_M_lastOf h a1) ∧ ((p_M_arrival h (v_M_lastOf h a1)) ∧ ((p_M_of h a1 3) ∧ am_Ev m_M_span (WM ++ e1) ro P (15, [.ref 0, .int a1], [.int (v_M_of h a1 3), .int (v_M_arrival h (v_M_lastOf h a1))], h))))
  obtain ⟨hob, hp⟩ := hp
  refine ⟨hob, ?_⟩
  obtain ⟨hob, hp⟩ := hp
  refine ⟨hob, ?_⟩
  refine ⟨hp, ?_⟩
  refine am_Ev_G [] 400 _ ?_
  show P (.inl (some (.int ((v_M_arrival h (v_M_lastOf h a1)) - (v_M_of h a1 3))))) h
  exact hP ((v_M_arrival h (v_M_lastOf h a1)) - (v_M_of h a1 3)) rfl
theorem ok_M_span {l : Launch} (hl : l.stackTraces = false) (e1 ro : List Sh) (k : Nat) : am_Ok l (WM ++ e1) ro (d_M_span k) := by
  refine am_met hl (own := RX6) (M := m_M_span) rfl pf_M_span cu_M_span rfl rfl rfl rfl (fun _ => rfl) rfl ⟨chk_M_span, (am_n), (am_c (lk_M_49) (am_c (lk_M_53) (am_c (lk_M_117) am_n))), (am_n), (am_n)⟩ (am_n) (am_c (ok_M_of hl e1 _ 16) (am_c (ok_M_arrival hl e1 _ 16) (am_c (ok_M_lastOf hl e1 _ 16) am_n))) (fun z => nomatch z) ?_ ?_
  · intro _ as h hg
    show g_thr (g_M_span (WM ++ e1) ro as h) = none
    unfold g_M_span
    split <;> rfl
  · intro as h hg hp
    revert hg hp
    show g_ok (g_M_span (WM ++ e1) ro as h) = true → g_pre (g_M_span (WM ++ e1) ro as h) → _ ∧ am_Ev m_M_span (WM ++ e1) ro (am_eq (g_M_span (WM ++ e1) ro as h)) (0, am_ent as 2, [], h)
    unfold g_M_span
    split
    · rename_i o1 a1
      intro hc hp
      change (Nat.beq o1 0) = true at hc
      obtain rfl := am_beq hc
      exact ⟨Nat.le_of_ble_eq_true rfl, ev_M_span h a1 hp eqRI⟩
    · exact fun z => nomatch z
def k_M_driven (pc : Nat) : Ent := bif Nat.ble 29 pc then am_nop else bif Nat.ble 12 pc then (bif Nat.ble 19 pc then (bif Nat.ble 24 pc then (bif Nat.ble 27 pc then (bif Nat.ble 28 pc then (bif Nat.beq pc 28 then (.ireturn, 0, 0, []) else am_nop) else (bif Nat.beq pc 27 then (.iload_n 2, 0, 2, []) else am_nop)) else (bif Nat.beq pc 24 then (.goto (-20), 0, 4, []) else am_nop)) else (bif Nat.ble 20 pc then (bif Nat.ble 23 pc then (bif Nat.beq pc 23 then (.istore_n 3, 0, 3, []) else am_nop) else (bif Nat.beq pc 20 then (.invokevirtual 57, 0, 0, []) else am_nop)) else (bif Nat.beq pc 19 then (.iload_n 3, 0, 3, []) else am_nop))) else (bif Nat.ble 16 pc then (bif Nat.ble 17 pc then (bif Nat.ble 18 pc then (bif Nat.beq pc 18 then (.aload_n 0, 0, 0, []) else am_nop) else (bif Nat.beq pc 17 then (.istore_n 2, 0, 2, []) else am_nop)) else (bif Nat.beq pc 16 then (.iadd, 0, 0, []) else am_nop)) else (bif Nat.ble 13 pc then (bif Nat.beq pc 13 then (.invokevirtual 49, 0, 0, []) else am_nop) else (bif Nat.beq pc 12 then (.iconst 4, 4, 0, []) else am_nop)))) else (bif Nat.ble 5 pc then (bif Nat.ble 9 pc then (bif Nat.ble 10 pc then (bif Nat.ble 11 pc then (bif Nat.beq pc 11 then (.iload_n 3, 0, 3, []) else am_nop) else (bif Nat.beq pc 10 then (.aload_n 0, 0, 0, []) else am_nop)) else (bif Nat.beq pc 9 then (.iload_n 2, 0, 2, []) else am_nop)) else (bif Nat.ble 6 pc then (bif Nat.beq pc 6 then (.if_icmp .eq 21, 0, 27, []) else am_nop) else (bif Nat.beq pc 5 then (.iconst (-1), (-1 : Int32), 0, []) else am_nop))) else (bif Nat.ble 2 pc then (bif Nat.ble 3 pc then (bif Nat.ble 4 pc then (bif Nat.beq pc 4 then (.iload_n 3, 0, 3, []) else am_nop) else (bif Nat.beq pc 3 then (.istore_n 3, 0, 3, []) else am_nop)) else (bif Nat.beq pc 2 then (.iload_n 1, 0, 1, []) else am_nop)) else (bif Nat.ble 1 pc then (bif Nat.beq pc 1 then (.istore_n 2, 0, 2, []) else am_nop) else (bif Nat.beq pc 0 then (.iconst 0, 0, 0, []) else am_nop))))
def m_M_driven : MI := (k_M_driven, [], [(49, d_M_of 16), (57, d_M_next 16)], [], [], [], [], 2, 43, some .int, fun _ => 0, 1)
def s_M_driven_4 (h : HP) (a1 : Int32) (v1 : Int32 × Int32) : (Int32 × Int32) ⊕ (Int32 × Int32) := (if v1.2 = (-1 : Int32) then (.inr (v1.1, v1.2)) else (.inl ((v1.1 + (v_M_of h v1.2 4)), (v_M_next h v1.2))))
def ps_M_driven_4 (h : HP) (a1 : Int32) (v1 : Int32 × Int32) : Prop := ((v1.2 = (-1 : Int32) → True) ∧ (¬ v1.2 = (-1 : Int32) → ((p_M_of h v1.2 4) ∧ (p_M_next h v1.2))))
def v_M_driven (h : HP) (a1 : Int32) : Int32 := (match itr (s_M_driven_4 h a1) NF (0, a1) with | some r1 => r1.1 | none => 0)
def p_M_driven (h : HP) (a1 : Int32) : Prop := (itrp (s_M_driven_4 h a1) (ps_M_driven_4 h a1) NF (0, a1))
def g_M_driven (_ _ : List Sh) (as : List Value) (h : HP) : GR := match as with
  | [.ref o1, .int a1] => (Nat.beq o1 0, p_M_driven h a1, none, some (.int (v_M_driven h a1)), h)
  | _ => bad h
def d_M_driven (k : Nat) : CD := (k, yX6_driven, cX6_driven, 4, some .int, 2, 2, 43, 0, false, true, g_M_driven)
theorem chk_M_driven : ∀ pc, am_chk cX6_driven k_M_driven pc = true := am_chkall 29 (by decide +kernel) (fun pc h => by unfold k_M_driven; rw [Nat.ble_eq_true_of_le h]; rfl)
theorem pf_M_driven : plainFor yX6_driven = true := by decide +kernel
theorem cu_M_driven : Cond.code yX6_driven cX6_driven 4 (some .int) ∈ am_U := am_tb 1196 (by decide +kernel) rfl
set_option maxHeartbeats 20000000 in
set_option maxRecDepth 100000 in
theorem ev_M_driven {e1 ro : List Sh} {P : AR → HP → Prop} (h : HP) (a1 : Int32) (hp : p_M_driven h a1) (hP : ∀ q, v_M_driven h a1 = q → RI P h q) : am_Ev m_M_driven (WM ++ e1) ro P (0, [.ref 0, .int a1, .retAddr 0, .retAddr 0], [], h) := by
  unfold p_M_driven at hp
  refine am_Ev_G [4] 400 _ ?_
  show am_Ev m_M_driven (WM ++ e1) ro P (4, [.ref 0, .int a1, .int 0, .int a1], [], h)
  refine am_fg 1 ?_
  have hpl := hp
  refine am_itr (E := (fun (v1 : Int32 × Int32) => am_Ev m_M_driven (WM ++ e1) ro P (4, [.ref 0, .retAddr 0, .int v1.1, .int v1.2], [], h))) (E' := (fun (r1 : Int32 × Int32) => am_Ev m_M_driven (WM ++ e1) ro P (27, [.ref 0, .retAddr 0, .int r1.1, .int r1.2], [], h))) (s_M_driven_4 h a1) (ps_M_driven_4 h a1) ?_ NF (0, a1) hpl ?_
  · intro v1 hp hc1 hx1
    show am_Ev m_M_driven (WM ++ e1) ro P (4, [.ref 0, .retAddr 0, .int v1.1, .int v1.2], [], h)
    unfold ps_M_driven_4 at hp
    refine am_Ev_G [16, 27] 400 _ ?_
    show ((v1.2 = (-1 : Int32) → am_Ev m_M_driven (WM ++ e1) ro P (27, [.ref 0, .retAddr 0, .int v1.1, .int v1.2], [], h)) ∧ (¬ v1.2 = (-1 : Int32) → ((p_M_of h v1.2 4) ∧ am_Ev m_M_driven (WM ++ e1) ro P (16, [.ref 0, .retAddr 0, .int v1.1, .int v1.2], [.int (v_M_of h v1.2 4), .int v1.1], h))))
    refine ⟨fun c1 => ?_, fun c1 => ?_⟩
    · skip
      exact hx1 (v1.1, v1.2) (by unfold s_M_driven_4; simp only [if_pos c1])
    · have hp := hp.2 c1
      obtain ⟨hob, hp⟩ := hp
      refine ⟨hob, ?_⟩
      refine am_Ev_G [4] 400 _ ?_
      show ((p_M_next h v1.2) ∧ am_Ev m_M_driven (WM ++ e1) ro P (4, [.ref 0, .retAddr 0, .int (v1.1 + (v_M_of h v1.2 4)), .int (v_M_next h v1.2)], [], h))
      refine ⟨hp, ?_⟩
      exact hc1 ((v1.1 + (v_M_of h v1.2 4)), (v_M_next h v1.2)) (by unfold s_M_driven_4; simp only [if_neg c1])
  · intro r1 hr2
    show am_Ev m_M_driven (WM ++ e1) ro P (27, [.ref 0, .retAddr 0, .int r1.1, .int r1.2], [], h)
    refine am_Ev_G [] 400 _ ?_
    show P (.inl (some (.int r1.1))) h
    exact hP r1.1 (by unfold v_M_driven; simp only [hr2])
theorem ok_M_driven {l : Launch} (hl : l.stackTraces = false) (e1 ro : List Sh) (k : Nat) : am_Ok l (WM ++ e1) ro (d_M_driven k) := by
  refine am_met hl (own := RX6) (M := m_M_driven) rfl pf_M_driven cu_M_driven rfl rfl rfl rfl (fun _ => rfl) rfl ⟨chk_M_driven, (am_n), (am_c (lk_M_49) (am_c (lk_M_57) am_n)), (am_n), (am_n)⟩ (am_n) (am_c (ok_M_of hl e1 _ 16) (am_c (ok_M_next hl e1 _ 16) am_n)) (fun z => nomatch z) ?_ ?_
  · intro _ as h hg
    show g_thr (g_M_driven (WM ++ e1) ro as h) = none
    unfold g_M_driven
    split <;> rfl
  · intro as h hg hp
    revert hg hp
    show g_ok (g_M_driven (WM ++ e1) ro as h) = true → g_pre (g_M_driven (WM ++ e1) ro as h) → _ ∧ am_Ev m_M_driven (WM ++ e1) ro (am_eq (g_M_driven (WM ++ e1) ro as h)) (0, am_ent as 4, [], h)
    unfold g_M_driven
    split
    · rename_i o1 a1
      intro hc hp
      change (Nat.beq o1 0) = true at hc
      obtain rfl := am_beq hc
      exact ⟨Nat.le_of_ble_eq_true rfl, ev_M_driven h a1 hp eqRI⟩
    · exact fun z => nomatch z
def k_M_changes (pc : Nat) : Ent := bif Nat.ble 51 pc then am_nop else bif Nat.ble 22 pc then (bif Nat.ble 38 pc then (bif Nat.ble 42 pc then (bif Nat.ble 46 pc then (bif Nat.ble 49 pc then (bif Nat.ble 50 pc then (bif Nat.beq pc 50 then (.ireturn, 0, 0, []) else am_nop) else (bif Nat.beq pc 49 then (.iload_n 2, 0, 2, []) else am_nop)) else (bif Nat.beq pc 46 then (.goto (-42), 0, 4, []) else am_nop)) else (bif Nat.ble 45 pc then (bif Nat.beq pc 45 then (.istore_n 3, 0, 3, []) else am_nop) else (bif Nat.beq pc 42 then (.invokevirtual 57, 0, 0, []) else am_nop))) else (bif Nat.ble 40 pc then (bif Nat.ble 41 pc then (bif Nat.beq pc 41 then (.iload_n 3, 0, 3, []) else am_nop) else (bif Nat.beq pc 40 then (.aload_n 0, 0, 0, []) else am_nop)) else (bif Nat.ble 39 pc then (bif Nat.beq pc 39 then (.istore_n 2, 0, 2, []) else am_nop) else (bif Nat.beq pc 38 then (.iadd, 0, 0, []) else am_nop)))) else (bif Nat.ble 30 pc then (bif Nat.ble 34 pc then (bif Nat.ble 37 pc then (bif Nat.beq pc 37 then (.iconst 0, 0, 0, []) else am_nop) else (bif Nat.beq pc 34 then (.goto 4, 0, 38, []) else am_nop)) else (bif Nat.ble 33 pc then (bif Nat.beq pc 33 then (.iconst 1, 1, 0, []) else am_nop) else (bif Nat.beq pc 30 then (.if_icmp .eq 7, 0, 37, []) else am_nop))) else (bif Nat.ble 26 pc then (bif Nat.ble 27 pc then (bif Nat.beq pc 27 then (.invokevirtual 49, 0, 0, []) else am_nop) else (bif Nat.beq pc 26 then (.iconst 0, 0, 0, []) else am_nop)) else (bif Nat.ble 23 pc then (bif Nat.beq pc 23 then (.invokevirtual 57, 0, 0, []) else am_nop) else (bif Nat.beq pc 22 then (.iload_n 3, 0, 3, []) else am_nop))))) else (bif Nat.ble 10 pc then (bif Nat.ble 16 pc then (bif Nat.ble 20 pc then (bif Nat.ble 21 pc then (bif Nat.beq pc 21 then (.aload_n 0, 0, 0, []) else am_nop) else (bif Nat.beq pc 20 then (.aload_n 0, 0, 0, []) else am_nop)) else (bif Nat.ble 17 pc then (bif Nat.beq pc 17 then (.invokevirtual 49, 0, 0, []) else am_nop) else (bif Nat.beq pc 16 then (.iconst 0, 0, 0, []) else am_nop))) else (bif Nat.ble 14 pc then (bif Nat.ble 15 pc then (bif Nat.beq pc 15 then (.iload_n 3, 0, 3, []) else am_nop) else (bif Nat.beq pc 14 then (.aload_n 0, 0, 0, []) else am_nop)) else (bif Nat.ble 13 pc then (bif Nat.beq pc 13 then (.iload_n 2, 0, 2, []) else am_nop) else (bif Nat.beq pc 10 then (.if_icmp .eq 39, 0, 49, []) else am_nop)))) else (bif Nat.ble 4 pc then (bif Nat.ble 6 pc then (bif Nat.ble 9 pc then (bif Nat.beq pc 9 then (.iconst (-1), (-1 : Int32), 0, []) else am_nop) else (bif Nat.beq pc 6 then (.invokevirtual 57, 0, 0, []) else am_nop)) else (bif Nat.ble 5 pc then (bif Nat.beq pc 5 then (.iload_n 3, 0, 3, []) else am_nop) else (bif Nat.beq pc 4 then (.aload_n 0, 0, 0, []) else am_nop))) else (bif Nat.ble 2 pc then (bif Nat.ble 3 pc then (bif Nat.beq pc 3 then (.istore_n 3, 0, 3, []) else am_nop) else (bif Nat.beq pc 2 then (.iload_n 1, 0, 1, []) else am_nop)) else (bif Nat.ble 1 pc then (bif Nat.beq pc 1 then (.istore_n 2, 0, 2, []) else am_nop) else (bif Nat.beq pc 0 then (.iconst 0, 0, 0, []) else am_nop)))))
def m_M_changes : MI := (k_M_changes, [], [(49, d_M_of 16), (57, d_M_next 16)], [], [], [], [], 2, 43, some .int, fun _ => 0, 1)
def s_M_changes_4 (h : HP) (a1 : Int32) (v1 : Int32 × Int32) : (Int32 × Int32) ⊕ (Int32 × Int32) := (if (v_M_next h v1.2) = (-1 : Int32) then (.inr (v1.1, v1.2)) else (.inl ((v1.1 + (if (v_M_of h v1.2 0) = (v_M_of h (v_M_next h v1.2) 0) then (0 : Int32) else 1)), (v_M_next h v1.2))))
def ps_M_changes_4 (h : HP) (a1 : Int32) (v1 : Int32 × Int32) : Prop := ((p_M_next h v1.2) ∧ (((v_M_next h v1.2) = (-1 : Int32) → True) ∧ (¬ (v_M_next h v1.2) = (-1 : Int32) → ((p_M_of h v1.2 0) ∧ ((p_M_next h v1.2) ∧ ((p_M_of h (v_M_next h v1.2) 0) ∧ (p_M_next h v1.2)))))))
def v_M_changes (h : HP) (a1 : Int32) : Int32 := (match itr (s_M_changes_4 h a1) NF (0, a1) with | some r1 => r1.1 | none => 0)
def p_M_changes (h : HP) (a1 : Int32) : Prop := (itrp (s_M_changes_4 h a1) (ps_M_changes_4 h a1) NF (0, a1))
def g_M_changes (_ _ : List Sh) (as : List Value) (h : HP) : GR := match as with
  | [.ref o1, .int a1] => (Nat.beq o1 0, p_M_changes h a1, none, some (.int (v_M_changes h a1)), h)
  | _ => bad h
def d_M_changes (k : Nat) : CD := (k, yX6_changes, cX6_changes, 4, some .int, 2, 2, 43, 0, false, true, g_M_changes)
theorem chk_M_changes : ∀ pc, am_chk cX6_changes k_M_changes pc = true := am_chkall 51 (by decide +kernel) (fun pc h => by unfold k_M_changes; rw [Nat.ble_eq_true_of_le h]; rfl)
theorem pf_M_changes : plainFor yX6_changes = true := by decide +kernel
theorem cu_M_changes : Cond.code yX6_changes cX6_changes 4 (some .int) ∈ am_U := am_tb 1200 (by decide +kernel) rfl
set_option maxHeartbeats 20000000 in
set_option maxRecDepth 100000 in
theorem ev_M_changes {e1 ro : List Sh} {P : AR → HP → Prop} (h : HP) (a1 : Int32) (hp : p_M_changes h a1) (hP : ∀ q, v_M_changes h a1 = q → RI P h q) : am_Ev m_M_changes (WM ++ e1) ro P (0, [.ref 0, .int a1, .retAddr 0, .retAddr 0], [], h) := by
  unfold p_M_changes at hp
  refine am_Ev_G [4] 400 _ ?_
  show am_Ev m_M_changes (WM ++ e1) ro P (4, [.ref 0, .int a1, .int 0, .int a1], [], h)
  refine am_fg 1 ?_
  have hpl := hp
  refine am_itr (E := (fun (v1 : Int32 × Int32) => am_Ev m_M_changes (WM ++ e1) ro P (4, [.ref 0, .retAddr 0, .int v1.1, .int v1.2], [], h))) (E' := (fun (r1 : Int32 × Int32) => am_Ev m_M_changes (WM ++ e1) ro P (49, [.ref 0, .retAddr 0, .int r1.1, .int r1.2], [], h))) (s_M_changes_4 h a1) (ps_M_changes_4 h a1) ?_ NF (0, a1) hpl ?_
  · intro v1 hp hc1 hx1
    show am_Ev m_M_changes (WM ++ e1) ro P (4, [.ref 0, .retAddr 0, .int v1.1, .int v1.2], [], h)
    unfold ps_M_changes_4 at hp
    refine am_Ev_G [9] 400 _ ?_
    show ((p_M_next h v1.2) ∧ am_Ev m_M_changes (WM ++ e1) ro P (9, [.ref 0, .retAddr 0, .int v1.1, .int v1.2], [.int (v_M_next h v1.2)], h))
    obtain ⟨hob, hp⟩ := hp
    refine ⟨hob, ?_⟩
    refine am_Ev_G [26, 49] 400 _ ?_
    show (((v_M_next h v1.2) = (-1 : Int32) → am_Ev m_M_changes (WM ++ e1) ro P (49, [.ref 0, .retAddr 0, .int v1.1, .int v1.2], [], h)) ∧ (¬ (v_M_next h v1.2) = (-1 : Int32) → ((p_M_of h v1.2 0) ∧ ((p_M_next h v1.2) ∧ am_Ev m_M_changes (WM ++ e1) ro P (26, [.ref 0, .retAddr 0, .int v1.1, .int v1.2], [.int (v_M_next h v1.2), .ref 0, .int (v_M_of h v1.2 0), .int v1.1], h)))))
    refine ⟨fun c1 => ?_, fun c1 => ?_⟩
    · skip
      exact hx1 (v1.1, v1.2) (by unfold s_M_changes_4; simp only [if_pos c1])
    · have hp := hp.2 c1
      obtain ⟨hob, hp⟩ := hp
      refine ⟨hob, ?_⟩
      obtain ⟨hob, hp⟩ := hp
      refine ⟨hob, ?_⟩
      refine am_Ev_G [30] 400 _ ?_
      show ((p_M_of h (v_M_next h v1.2) 0) ∧ am_Ev m_M_changes (WM ++ e1) ro P (30, [.ref 0, .retAddr 0, .int v1.1, .int v1.2], [.int (v_M_of h (v_M_next h v1.2) 0), .int (v_M_of h v1.2 0), .int v1.1], h))
      obtain ⟨hob, hp⟩ := hp
      refine ⟨hob, ?_⟩
      have key2 : am_Ev m_M_changes (WM ++ e1) ro P (38, [.ref 0, .retAddr 0, .int v1.1, .int v1.2], [.int (if (v_M_of h v1.2 0) = (v_M_of h (v_M_next h v1.2) 0) then (0 : Int32) else 1), .int v1.1], h) := by
        refine am_Ev_G [45] 400 _ ?_
        show ((p_M_next h v1.2) ∧ am_Ev m_M_changes (WM ++ e1) ro P (45, [.ref 0, .retAddr 0, .int (v1.1 + (if (v_M_of h v1.2 0) = (v_M_of h (v_M_next h v1.2) 0) then (0 : Int32) else 1)), .int v1.2], [.int (v_M_next h v1.2)], h))
        refine ⟨hp, ?_⟩
        refine am_Ev_G [4] 400 _ ?_
        show am_Ev m_M_changes (WM ++ e1) ro P (4, [.ref 0, .retAddr 0, .int (v1.1 + (if (v_M_of h v1.2 0) = (v_M_of h (v_M_next h v1.2) 0) then (0 : Int32) else 1)), .int (v_M_next h v1.2)], [], h)
        exact hc1 ((v1.1 + (if (v_M_of h v1.2 0) = (v_M_of h (v_M_next h v1.2) 0) then (0 : Int32) else 1)), (v_M_next h v1.2)) (by unfold s_M_changes_4; simp only [if_neg c1])
      refine am_Ev_G [38] 400 _ ?_
      show (((v_M_of h v1.2 0) = (v_M_of h (v_M_next h v1.2) 0) → am_Ev m_M_changes (WM ++ e1) ro P (38, [.ref 0, .retAddr 0, .int v1.1, .int v1.2], [.int 0, .int v1.1], h)) ∧ (¬ (v_M_of h v1.2 0) = (v_M_of h (v_M_next h v1.2) 0) → am_Ev m_M_changes (WM ++ e1) ro P (38, [.ref 0, .retAddr 0, .int v1.1, .int v1.2], [.int 1, .int v1.1], h)))
      refine ⟨fun c3 => ?_, fun c3 => ?_⟩
      · skip
        simpa only [if_pos c3] using key2
      · skip
        simpa only [if_neg c3] using key2
  · intro r1 hr4
    show am_Ev m_M_changes (WM ++ e1) ro P (49, [.ref 0, .retAddr 0, .int r1.1, .int r1.2], [], h)
    refine am_Ev_G [] 400 _ ?_
    show P (.inl (some (.int r1.1))) h
    exact hP r1.1 (by unfold v_M_changes; simp only [hr4])
theorem ok_M_changes {l : Launch} (hl : l.stackTraces = false) (e1 ro : List Sh) (k : Nat) : am_Ok l (WM ++ e1) ro (d_M_changes k) := by
  refine am_met hl (own := RX6) (M := m_M_changes) rfl pf_M_changes cu_M_changes rfl rfl rfl rfl (fun _ => rfl) rfl ⟨chk_M_changes, (am_n), (am_c (lk_M_49) (am_c (lk_M_57) am_n)), (am_n), (am_n)⟩ (am_n) (am_c (ok_M_of hl e1 _ 16) (am_c (ok_M_next hl e1 _ 16) am_n)) (fun z => nomatch z) ?_ ?_
  · intro _ as h hg
    show g_thr (g_M_changes (WM ++ e1) ro as h) = none
    unfold g_M_changes
    split <;> rfl
  · intro as h hg hp
    revert hg hp
    show g_ok (g_M_changes (WM ++ e1) ro as h) = true → g_pre (g_M_changes (WM ++ e1) ro as h) → _ ∧ am_Ev m_M_changes (WM ++ e1) ro (am_eq (g_M_changes (WM ++ e1) ro as h)) (0, am_ent as 4, [], h)
    unfold g_M_changes
    split
    · rename_i o1 a1
      intro hc hp
      change (Nat.beq o1 0) = true at hc
      obtain rfl := am_beq hc
      exact ⟨Nat.le_of_ble_eq_true rfl, ev_M_changes h a1 hp eqRI⟩
    · exact fun z => nomatch z
def k_M_aboutBlock (pc : Nat) : Ent := bif Nat.ble 88 pc then am_nop else bif Nat.ble 60 pc then (bif Nat.ble 75 pc then (bif Nat.ble 81 pc then (bif Nat.ble 83 pc then (bif Nat.ble 84 pc then (bif Nat.ble 87 pc then (bif Nat.beq pc 87 then (.ireturn, 0, 0, []) else am_nop) else (bif Nat.beq pc 84 then (.invokevirtual 218, 0, 0, []) else am_nop)) else (bif Nat.beq pc 83 then (.iload_n 3, 0, 3, []) else am_nop)) else (bif Nat.ble 82 pc then (bif Nat.beq pc 82 then (.aload_n 0, 0, 0, []) else am_nop) else (bif Nat.beq pc 81 then (.ireturn, 0, 0, []) else am_nop))) else (bif Nat.ble 77 pc then (bif Nat.ble 78 pc then (bif Nat.beq pc 78 then (.invokevirtual 124, 0, 0, []) else am_nop) else (bif Nat.beq pc 77 then (.iload_n 3, 0, 3, []) else am_nop)) else (bif Nat.ble 76 pc then (bif Nat.beq pc 76 then (.aload_n 0, 0, 0, []) else am_nop) else (bif Nat.beq pc 75 then (.ireturn, 0, 0, []) else am_nop)))) else (bif Nat.ble 68 pc then (bif Nat.ble 70 pc then (bif Nat.ble 71 pc then (bif Nat.ble 72 pc then (bif Nat.beq pc 72 then (.invokevirtual 215, 0, 0, []) else am_nop) else (bif Nat.beq pc 71 then (.iload_n 3, 0, 3, []) else am_nop)) else (bif Nat.beq pc 70 then (.aload_n 0, 0, 0, []) else am_nop)) else (bif Nat.ble 69 pc then (bif Nat.beq pc 69 then (.ireturn, 0, 0, []) else am_nop) else (bif Nat.beq pc 68 then (.isub, 0, 0, []) else am_nop))) else (bif Nat.ble 64 pc then (bif Nat.ble 65 pc then (bif Nat.beq pc 65 then (.invokevirtual 212, 0, 0, []) else am_nop) else (bif Nat.beq pc 64 then (.iload_n 3, 0, 3, []) else am_nop)) else (bif Nat.ble 63 pc then (bif Nat.beq pc 63 then (.aload_n 0, 0, 0, []) else am_nop) else (bif Nat.beq pc 60 then (.invokevirtual 209, 0, 0, []) else am_nop))))) else (bif Nat.ble 47 pc then (bif Nat.ble 53 pc then (bif Nat.ble 57 pc then (bif Nat.ble 58 pc then (bif Nat.ble 59 pc then (bif Nat.beq pc 59 then (.iload_n 3, 0, 3, []) else am_nop) else (bif Nat.beq pc 58 then (.aload_n 0, 0, 0, []) else am_nop)) else (bif Nat.beq pc 57 then (.ireturn, 0, 0, []) else am_nop)) else (bif Nat.ble 54 pc then (bif Nat.beq pc 54 then (.invokevirtual 209, 0, 0, []) else am_nop) else (bif Nat.beq pc 53 then (.iload_n 3, 0, 3, []) else am_nop))) else (bif Nat.ble 51 pc then (bif Nat.ble 52 pc then (bif Nat.beq pc 52 then (.aload_n 0, 0, 0, []) else am_nop) else (bif Nat.beq pc 51 then (.ireturn, 0, 0, []) else am_nop)) else (bif Nat.ble 48 pc then (bif Nat.beq pc 48 then (.invokevirtual 206, 0, 0, []) else am_nop) else (bif Nat.beq pc 47 then (.iload_n 3, 0, 3, []) else am_nop)))) else (bif Nat.ble 6 pc then (bif Nat.ble 44 pc then (bif Nat.ble 45 pc then (bif Nat.ble 46 pc then (bif Nat.beq pc 46 then (.aload_n 0, 0, 0, []) else am_nop) else (bif Nat.beq pc 45 then (.ireturn, 0, 0, []) else am_nop)) else (bif Nat.beq pc 44 then (.iload_n 3, 0, 3, []) else am_nop)) else (bif Nat.ble 7 pc then (bif Nat.beq pc 7 then (.tableswitch 75 0 5 #[37, 39, 45, 51, 63, 69], 0, 82, [(0, 44), (1, 46), (2, 52), (3, 58), (4, 70), (5, 76)]) else am_nop) else (bif Nat.beq pc 6 then (.iload_n 2, 0, 2, []) else am_nop))) else (bif Nat.ble 2 pc then (bif Nat.ble 5 pc then (bif Nat.beq pc 5 then (.istore_n 3, 0, 3, []) else am_nop) else (bif Nat.beq pc 2 then (.invokevirtual 203, 0, 0, []) else am_nop)) else (bif Nat.ble 1 pc then (bif Nat.beq pc 1 then (.iload_n 1, 0, 1, []) else am_nop) else (bif Nat.beq pc 0 then (.aload_n 0, 0, 0, []) else am_nop)))))
theorem lk_M_203 : am_lnk RX6 203 (d_M_firstOf 16) := ⟨⟨by decide, by decide⟩, am_tb 8 (by decide +kernel) rfl, Or.inr ⟨by decide, rfl, am_tb 1179 (by decide +kernel) rfl, am_tp 106 (by decide +kernel) rfl, ⟨TX6, 16, rfl⟩, Or.inl (am_tb 1177 (by decide +kernel) rfl)⟩⟩
theorem lk_M_206 : am_lnk RX6 206 (d_M_tripsFrom 16) := ⟨⟨by decide, by decide⟩, am_tb 8 (by decide +kernel) rfl, Or.inr ⟨by decide, rfl, am_tb 1183 (by decide +kernel) rfl, am_tp 107 (by decide +kernel) rfl, ⟨TX6, 16, rfl⟩, Or.inl (am_tb 1181 (by decide +kernel) rfl)⟩⟩
theorem lk_M_209 : am_lnk RX6 209 (d_M_span 16) := ⟨⟨by decide, by decide⟩, am_tb 8 (by decide +kernel) rfl, Or.inr ⟨by decide, rfl, am_tb 1187 (by decide +kernel) rfl, am_tp 108 (by decide +kernel) rfl, ⟨TX6, 16, rfl⟩, Or.inl (am_tb 1185 (by decide +kernel) rfl)⟩⟩
theorem lk_M_212 : am_lnk RX6 212 (d_M_driven 16) := ⟨⟨by decide, by decide⟩, am_tb 8 (by decide +kernel) rfl, Or.inr ⟨by decide, rfl, am_tb 1195 (by decide +kernel) rfl, am_tp 110 (by decide +kernel) rfl, ⟨TX6, 16, rfl⟩, Or.inl (am_tb 1193 (by decide +kernel) rfl)⟩⟩
theorem lk_M_215 : am_lnk RX6 215 (d_M_changes 16) := ⟨⟨by decide, by decide⟩, am_tb 8 (by decide +kernel) rfl, Or.inr ⟨by decide, rfl, am_tb 1199 (by decide +kernel) rfl, am_tp 111 (by decide +kernel) rfl, ⟨TX6, 16, rfl⟩, Or.inl (am_tb 1197 (by decide +kernel) rfl)⟩⟩
theorem lk_M_218 : am_lnk RX6 218 (d_M_told 16) := ⟨⟨by decide, by decide⟩, am_tb 8 (by decide +kernel) rfl, Or.inr ⟨by decide, rfl, am_tb 1211 (by decide +kernel) rfl, am_tp 114 (by decide +kernel) rfl, ⟨TX6, 16, rfl⟩, Or.inl (am_tb 1209 (by decide +kernel) rfl)⟩⟩
def m_M_aboutBlock : MI := (k_M_aboutBlock, [], [(124, d_M_cuts 16), (203, d_M_firstOf 16), (206, d_M_tripsFrom 16), (209, d_M_span 16), (212, d_M_driven 16), (215, d_M_changes 16), (218, d_M_told 16)], [], [], [], [], 5, 110, some .int, fun _ => 0, 1)
def v_M_aboutBlock (h : HP) (a1 : Int32) (a2 : Int32) : Int32 × HP := (if a2 = 0 then ((v_M_firstOf h a1), h) else (if a2 = 1 then ((v_M_tripsFrom h (v_M_firstOf h a1)), h) else (if a2 = 2 then ((v_M_span h (v_M_firstOf h a1)), h) else (if a2 = 3 then (((v_M_span h (v_M_firstOf h a1)) - (v_M_driven h (v_M_firstOf h a1))), h) else (if a2 = 4 then ((v_M_changes h (v_M_firstOf h a1)), h) else (if a2 = 5 then (bnd (v_M_cuts h (v_M_firstOf h a1)) fun y1 => (y1.1, y1.2)) else (bnd (v_M_told h (v_M_firstOf h a1)) fun y2 => (y2.1, y2.2))))))))
def p_M_aboutBlock (h : HP) (a1 : Int32) (a2 : Int32) : Prop := ((p_M_firstOf h a1) ∧ ((a2 = 0 → True) ∧ (¬ a2 = 0 → ((a2 = 1 → (p_M_tripsFrom h (v_M_firstOf h a1))) ∧ (¬ a2 = 1 → ((a2 = 2 → (p_M_span h (v_M_firstOf h a1))) ∧ (¬ a2 = 2 → ((a2 = 3 → ((p_M_span h (v_M_firstOf h a1)) ∧ (p_M_driven h (v_M_firstOf h a1)))) ∧ (¬ a2 = 3 → ((a2 = 4 → (p_M_changes h (v_M_firstOf h a1))) ∧ (¬ a2 = 4 → ((a2 = 5 → (p_M_cuts h (v_M_firstOf h a1))) ∧ (¬ a2 = 5 → (p_M_told h (v_M_firstOf h a1)))))))))))))))
def g_M_aboutBlock (_ _ : List Sh) (as : List Value) (h : HP) : GR := match as with
  | [.ref o1, .int a1, .int a2] => (Nat.beq o1 0, p_M_aboutBlock h a1 a2, none, some (.int (v_M_aboutBlock h a1 a2).1), (v_M_aboutBlock h a1 a2).2)
  | _ => bad h
def d_M_aboutBlock (k : Nat) : CD := (k, yX6_aboutBlock, cX6_aboutBlock, 4, some .int, 3, 5, 110, 0, false, true, g_M_aboutBlock)
theorem chk_M_aboutBlock : ∀ pc, am_chk cX6_aboutBlock k_M_aboutBlock pc = true := am_chkall 88 (by decide +kernel) (fun pc h => by unfold k_M_aboutBlock; rw [Nat.ble_eq_true_of_le h]; rfl)
theorem pf_M_aboutBlock : plainFor yX6_aboutBlock = true := by decide +kernel
theorem cu_M_aboutBlock : Cond.code yX6_aboutBlock cX6_aboutBlock 4 (some .int) ∈ am_U := am_tb 1176 (by decide +kernel) rfl
set_option maxHeartbeats 20000000 in
set_option maxRecDepth 100000 in
theorem ev_M_aboutBlock {e1 ro : List Sh} {P : AR → HP → Prop} (h : HP) (a1 : Int32) (a2 : Int32) (hp : p_M_aboutBlock h a1 a2) (hP : ∀ q, v_M_aboutBlock h a1 a2 = q → RIW P h q) : am_Ev m_M_aboutBlock (WM ++ e1) ro P (0, [.ref 0, .int a1, .int a2, .retAddr 0], [], h) := by
  unfold p_M_aboutBlock at hp
  refine am_Ev_G [51, 63, 75, 81, 87] 400 _ ?_
  show ((p_M_firstOf h a1) ∧ ((a2 = 0 → P (.inl (some (.int (v_M_firstOf h a1)))) h) ∧ (¬ a2 = 0 → ((a2 = 1 → ((p_M_tripsFrom h (v_M_firstOf h a1)) ∧ am_Ev m_M_aboutBlock (WM ++ e1) ro P (51, [.ref 0, .int a1, .int a2, .int (v_M_firstOf h a1)], [.int (v_M_tripsFrom h (v_M_firstOf h a1))], h))) ∧ (¬ a2 = 1 → ((a2 = 2 → ((p_M_span h (v_M_firstOf h a1)) ∧ P (.inl (some (.int (v_M_span h (v_M_firstOf h a1))))) h)) ∧ (¬ a2 = 2 → ((a2 = 3 → ((p_M_span h (v_M_firstOf h a1)) ∧ am_Ev m_M_aboutBlock (WM ++ e1) ro P (63, [.ref 0, .int a1, .int a2, .int (v_M_firstOf h a1)], [.int (v_M_span h (v_M_firstOf h a1))], h))) ∧ (¬ a2 = 3 → ((a2 = 4 → ((p_M_changes h (v_M_firstOf h a1)) ∧ am_Ev m_M_aboutBlock (WM ++ e1) ro P (75, [.ref 0, .int a1, .int a2, .int (v_M_firstOf h a1)], [.int (v_M_changes h (v_M_firstOf h a1))], h))) ∧ (¬ a2 = 4 → ((a2 = 5 → ((p_M_cuts h (v_M_firstOf h a1)) ∧ am_Ev m_M_aboutBlock (WM ++ e1) ro P (81, [.ref 0, .int a1, .int a2, .int (v_M_firstOf h a1)], [.int ((v_M_cuts h (v_M_firstOf h a1)).1)], ((v_M_cuts h (v_M_firstOf h a1)).2)))) ∧ (¬ a2 = 5 → ((p_M_told h (v_M_firstOf h a1)) ∧ am_Ev m_M_aboutBlock (WM ++ e1) ro P (87, [.ref 0, .int a1, .int a2, .int (v_M_firstOf h a1)], [.int ((v_M_told h (v_M_firstOf h a1)).1)], ((v_M_told h (v_M_firstOf h a1)).2))))))))))))))))
  obtain ⟨hob, hp⟩ := hp
  refine ⟨hob, ?_⟩
  refine ⟨fun c1 => ?_, fun c1 => ?_⟩
  · skip
    exact hP ((v_M_firstOf h a1), h) (by unfold v_M_aboutBlock; simp only [if_pos c1])
  · have hp := hp.2 c1
    refine ⟨fun c2 => ?_, fun c2 => ?_⟩
    · have hp := hp.1 c2
      refine ⟨hp, ?_⟩
      refine am_Ev_G [] 400 _ ?_
      show P (.inl (some (.int (v_M_tripsFrom h (v_M_firstOf h a1))))) h
      exact hP ((v_M_tripsFrom h (v_M_firstOf h a1)), h) (by unfold v_M_aboutBlock; simp only [if_neg c1, if_pos c2])
    · have hp := hp.2 c2
      refine ⟨fun c3 => ?_, fun c3 => ?_⟩
      · have hp := hp.1 c3
        refine ⟨hp, ?_⟩
        exact hP ((v_M_span h (v_M_firstOf h a1)), h) (by unfold v_M_aboutBlock; simp only [if_neg c1, if_neg c2, if_pos c3])
      · have hp := hp.2 c3
        refine ⟨fun c4 => ?_, fun c4 => ?_⟩
        · have hp := hp.1 c4
          obtain ⟨hob, hp⟩ := hp
          refine ⟨hob, ?_⟩
          refine am_Ev_G [] 400 _ ?_
          show ((p_M_driven h (v_M_firstOf h a1)) ∧ P (.inl (some (.int ((v_M_span h (v_M_firstOf h a1)) - (v_M_driven h (v_M_firstOf h a1)))))) h)
          refine ⟨hp, ?_⟩
          exact hP (((v_M_span h (v_M_firstOf h a1)) - (v_M_driven h (v_M_firstOf h a1))), h) (by unfold v_M_aboutBlock; simp only [if_neg c1, if_neg c2, if_neg c3, if_pos c4])
        · have hp := hp.2 c4
          refine ⟨fun c5 => ?_, fun c5 => ?_⟩
          · have hp := hp.1 c5
            refine ⟨hp, ?_⟩
            refine am_Ev_G [] 400 _ ?_
            show P (.inl (some (.int (v_M_changes h (v_M_firstOf h a1))))) h
            exact hP ((v_M_changes h (v_M_firstOf h a1)), h) (by unfold v_M_aboutBlock; simp only [if_neg c1, if_neg c2, if_neg c3, if_neg c4, if_pos c5])
          · have hp := hp.2 c5
            refine ⟨fun c6 => ?_, fun c6 => ?_⟩
            · have hp := hp.1 c6
              refine ⟨hp, ?_⟩
              obtain ⟨y1, c7⟩ : ∃ y, v_M_cuts h (v_M_firstOf h a1) = y := ⟨_, rfl⟩
              rw [c7]
              show am_Ev m_M_aboutBlock (WM ++ e1) ro P (81, [.ref 0, .int a1, .int a2, .int (v_M_firstOf h a1)], [.int y1.1], y1.2)
              refine am_Ev_G [] 400 _ ?_
              show P (.inl (some (.int y1.1))) y1.2
              exact hP (y1.1, y1.2) (by unfold v_M_aboutBlock; simp only [if_neg c1, if_neg c2, if_neg c3, if_neg c4, if_neg c5, if_pos c6, bnd, c7])
            · have hp := hp.2 c6
              refine ⟨hp, ?_⟩
              obtain ⟨y2, c8⟩ : ∃ y, v_M_told h (v_M_firstOf h a1) = y := ⟨_, rfl⟩
              rw [c8]
              show am_Ev m_M_aboutBlock (WM ++ e1) ro P (87, [.ref 0, .int a1, .int a2, .int (v_M_firstOf h a1)], [.int y2.1], y2.2)
              refine am_Ev_G [] 400 _ ?_
              show P (.inl (some (.int y2.1))) y2.2
              exact hP (y2.1, y2.2) (by unfold v_M_aboutBlock; simp only [if_neg c1, if_neg c2, if_neg c3, if_neg c4, if_neg c5, if_neg c6, bnd, c8])
theorem ok_M_aboutBlock {l : Launch} (hl : l.stackTraces = false) (e1 ro : List Sh) (k : Nat) : am_Ok l (WM ++ e1) ro (d_M_aboutBlock k) := by
  refine am_met hl (own := RX6) (M := m_M_aboutBlock) rfl pf_M_aboutBlock cu_M_aboutBlock rfl rfl rfl rfl (fun _ => rfl) rfl ⟨chk_M_aboutBlock, (am_n), (am_c (lk_M_124) (am_c (lk_M_203) (am_c (lk_M_206) (am_c (lk_M_209) (am_c (lk_M_212) (am_c (lk_M_215) (am_c (lk_M_218) am_n))))))), (am_n), (am_n)⟩ (am_n) (am_c (ok_M_cuts hl e1 _ 16) (am_c (ok_M_firstOf hl e1 _ 16) (am_c (ok_M_tripsFrom hl e1 _ 16) (am_c (ok_M_span hl e1 _ 16) (am_c (ok_M_driven hl e1 _ 16) (am_c (ok_M_changes hl e1 _ 16) (am_c (ok_M_told hl e1 _ 16) am_n))))))) (fun z => nomatch z) ?_ ?_
  · intro _ as h hg
    show g_thr (g_M_aboutBlock (WM ++ e1) ro as h) = none
    unfold g_M_aboutBlock
    split <;> rfl
  · intro as h hg hp
    revert hg hp
    show g_ok (g_M_aboutBlock (WM ++ e1) ro as h) = true → g_pre (g_M_aboutBlock (WM ++ e1) ro as h) → _ ∧ am_Ev m_M_aboutBlock (WM ++ e1) ro (am_eq (g_M_aboutBlock (WM ++ e1) ro as h)) (0, am_ent as 4, [], h)
    unfold g_M_aboutBlock
    split
    · rename_i o1 a1 a2
      intro hc hp
      change (Nat.beq o1 0) = true at hc
      obtain rfl := am_beq hc
      exact ⟨Nat.le_of_ble_eq_true rfl, ev_M_aboutBlock h a1 a2 hp eqRIW⟩
    · exact fun z => nomatch z
def k_M_isBlock (pc : Nat) : Ent := bif Nat.ble 12 pc then am_nop else bif Nat.ble 6 pc then (bif Nat.ble 8 pc then (bif Nat.ble 11 pc then (bif Nat.beq pc 11 then (.ireturn, 0, 0, []) else am_nop) else (bif Nat.beq pc 8 then (.invokestatic 127, 0, 0, []) else am_nop)) else (bif Nat.ble 7 pc then (bif Nat.beq pc 7 then (.isub, 0, 0, []) else am_nop) else (bif Nat.beq pc 6 then (.iconst 1, 1, 0, []) else am_nop))) else (bif Nat.ble 2 pc then (bif Nat.ble 3 pc then (bif Nat.beq pc 3 then (.invokevirtual 93, 0, 0, []) else am_nop) else (bif Nat.beq pc 2 then (.aload_n 0, 0, 0, []) else am_nop)) else (bif Nat.ble 1 pc then (bif Nat.beq pc 1 then (.iconst 0, 0, 0, []) else am_nop) else (bif Nat.beq pc 0 then (.iload_n 1, 0, 1, []) else am_nop)))
def m_M_isBlock : MI := (k_M_isBlock, [], [(93, d_M_blocks 16), (127, d_M_in 0)], [], [], [], [], 5, 109, some .boolean, fun _ => 0, 1)
def v_M_isBlock (h : HP) (a1 : Int32) : Int32 := (v_M_in h a1 0 ((v_M_blocks h) - 1))
def p_M_isBlock (h : HP) (a1 : Int32) : Prop := ((p_M_blocks h) ∧ ((((v_M_in h a1 0 ((v_M_blocks h) - 1)) : Int32) = 0 ∨ ((v_M_in h a1 0 ((v_M_blocks h) - 1)) : Int32) = 1)))
def g_M_isBlock (_ _ : List Sh) (as : List Value) (h : HP) : GR := match as with
  | [.ref o1, .int a1] => (Nat.beq o1 0, p_M_isBlock h a1, none, some (.int (v_M_isBlock h a1)), h)
  | _ => bad h
def d_M_isBlock (k : Nat) : CD := (k, yX6_isBlock, cX6_isBlock, 2, some .boolean, 2, 5, 109, 0, false, true, g_M_isBlock)
theorem chk_M_isBlock : ∀ pc, am_chk cX6_isBlock k_M_isBlock pc = true := am_chkall 12 (by decide +kernel) (fun pc h => by unfold k_M_isBlock; rw [Nat.ble_eq_true_of_le h]; rfl)
theorem pf_M_isBlock : plainFor yX6_isBlock = true := by decide +kernel
theorem cu_M_isBlock : Cond.code yX6_isBlock cX6_isBlock 2 (some .boolean) ∈ am_U := am_tb 1172 (by decide +kernel) rfl
set_option maxHeartbeats 20000000 in
set_option maxRecDepth 100000 in
theorem ev_M_isBlock {e1 ro : List Sh} {P : AR → HP → Prop} (h : HP) (a1 : Int32) (hp : p_M_isBlock h a1) (hP : ∀ q, v_M_isBlock h a1 = q → RI P h q) : am_Ev m_M_isBlock (WM ++ e1) ro P (0, [.ref 0, .int a1], [], h) := by
  unfold p_M_isBlock at hp
  refine am_Ev_G [11] 400 _ ?_
  show ((p_M_blocks h) ∧ am_Ev m_M_isBlock (WM ++ e1) ro P (11, [.ref 0, .int a1], [.int (v_M_in h a1 0 ((v_M_blocks h) - 1))], h))
  obtain ⟨hob, hp⟩ := hp
  refine ⟨hob, ?_⟩
  refine am_Ev_G [] 400 _ ?_
  show (((((v_M_in h a1 0 ((v_M_blocks h) - 1)) : Int32) = 0 ∨ ((v_M_in h a1 0 ((v_M_blocks h) - 1)) : Int32) = 1)) ∧ P (.inl (some (.int (v_M_in h a1 0 ((v_M_blocks h) - 1))))) h)
  refine ⟨hp, ?_⟩
  exact hP (v_M_in h a1 0 ((v_M_blocks h) - 1)) rfl
theorem ok_M_isBlock {l : Launch} (hl : l.stackTraces = false) (e1 ro : List Sh) (k : Nat) : am_Ok l (WM ++ e1) ro (d_M_isBlock k) := by
  refine am_met hl (own := RX6) (M := m_M_isBlock) rfl pf_M_isBlock cu_M_isBlock rfl rfl rfl rfl (fun _ => rfl) rfl ⟨chk_M_isBlock, (am_n), (am_c (lk_M_93) (am_c (lk_M_127) am_n)), (am_n), (am_n)⟩ (am_n) (am_c (ok_M_blocks hl e1 _ 16) (am_c (ok_M_in hl e1 _ 0) am_n)) (fun z => nomatch z) ?_ ?_
  · intro _ as h hg
    show g_thr (g_M_isBlock (WM ++ e1) ro as h) = none
    unfold g_M_isBlock
    split <;> rfl
  · intro as h hg hp
    revert hg hp
    show g_ok (g_M_isBlock (WM ++ e1) ro as h) = true → g_pre (g_M_isBlock (WM ++ e1) ro as h) → _ ∧ am_Ev m_M_isBlock (WM ++ e1) ro (am_eq (g_M_isBlock (WM ++ e1) ro as h)) (0, am_ent as 2, [], h)
    unfold g_M_isBlock
    split
    · rename_i o1 a1
      intro hc hp
      change (Nat.beq o1 0) = true at hc
      obtain rfl := am_beq hc
      exact ⟨Nat.le_of_ble_eq_true rfl, ev_M_isBlock h a1 hp eqRI⟩
    · exact fun z => nomatch z
def k_M_blockOf (pc : Nat) : Ent := bif Nat.ble 44 pc then am_nop else bif Nat.ble 20 pc then (bif Nat.ble 31 pc then (bif Nat.ble 38 pc then (bif Nat.ble 40 pc then (bif Nat.ble 43 pc then (bif Nat.beq pc 43 then (.ireturn, 0, 0, []) else am_nop) else (bif Nat.beq pc 40 then (.invokevirtual 134, 0, 0, []) else am_nop)) else (bif Nat.ble 39 pc then (bif Nat.beq pc 39 then (.iconst 2, 2, 0, []) else am_nop) else (bif Nat.beq pc 38 then (.aload_n 0, 0, 0, []) else am_nop))) else (bif Nat.ble 32 pc then (bif Nat.ble 35 pc then (bif Nat.beq pc 35 then (.goto 8, 0, 43, []) else am_nop) else (bif Nat.beq pc 32 then (.invokevirtual 224, 0, 0, []) else am_nop)) else (bif Nat.beq pc 31 then (.iload_n 2, 0, 2, []) else am_nop))) else (bif Nat.ble 26 pc then (bif Nat.ble 29 pc then (bif Nat.ble 30 pc then (bif Nat.beq pc 30 then (.iload_n 1, 0, 1, []) else am_nop) else (bif Nat.beq pc 29 then (.aload_n 0, 0, 0, []) else am_nop)) else (bif Nat.beq pc 26 then (.ifCond .eq 12, 0, 38, []) else am_nop)) else (bif Nat.ble 21 pc then (bif Nat.ble 23 pc then (bif Nat.beq pc 23 then (.invokestatic 127, 0, 0, []) else am_nop) else (bif Nat.beq pc 21 then (.bipush 6, 6, 0, []) else am_nop)) else (bif Nat.beq pc 20 then (.iconst 0, 0, 0, []) else am_nop)))) else (bif Nat.ble 10 pc then (bif Nat.ble 15 pc then (bif Nat.ble 18 pc then (bif Nat.ble 19 pc then (bif Nat.beq pc 19 then (.iload_n 2, 0, 2, []) else am_nop) else (bif Nat.beq pc 18 then (.ireturn, 0, 0, []) else am_nop)) else (bif Nat.beq pc 15 then (.invokevirtual 134, 0, 0, []) else am_nop)) else (bif Nat.ble 13 pc then (bif Nat.ble 14 pc then (bif Nat.beq pc 14 then (.iconst 1, 1, 0, []) else am_nop) else (bif Nat.beq pc 13 then (.aload_n 0, 0, 0, []) else am_nop)) else (bif Nat.beq pc 10 then (.ifCond .ne 9, 0, 19, []) else am_nop))) else (bif Nat.ble 5 pc then (bif Nat.ble 6 pc then (bif Nat.ble 7 pc then (bif Nat.beq pc 7 then (.invokevirtual 221, 0, 0, []) else am_nop) else (bif Nat.beq pc 6 then (.iload_n 1, 0, 1, []) else am_nop)) else (bif Nat.beq pc 5 then (.aload_n 0, 0, 0, []) else am_nop)) else (bif Nat.ble 1 pc then (bif Nat.ble 2 pc then (bif Nat.beq pc 2 then (.putfield 38, 0, 0, []) else am_nop) else (bif Nat.beq pc 1 then (.iconst 0, 0, 0, []) else am_nop)) else (bif Nat.beq pc 0 then (.aload_n 0, 0, 0, []) else am_nop))))
theorem lk_M_221 : am_lnk RX6 221 (d_M_isBlock 16) := ⟨⟨by decide, by decide⟩, am_tb 8 (by decide +kernel) rfl, Or.inr ⟨by decide, rfl, am_tb 1171 (by decide +kernel) rfl, am_tp 104 (by decide +kernel) rfl, ⟨TX6, 16, rfl⟩, Or.inl (am_tb 1169 (by decide +kernel) rfl)⟩⟩
theorem lk_M_224 : am_lnk RX6 224 (d_M_aboutBlock 16) := ⟨⟨by decide, by decide⟩, am_tb 8 (by decide +kernel) rfl, Or.inr ⟨by decide, rfl, am_tb 1175 (by decide +kernel) rfl, am_tp 105 (by decide +kernel) rfl, ⟨TX6, 16, rfl⟩, Or.inl (am_tb 1173 (by decide +kernel) rfl)⟩⟩
def m_M_blockOf : MI := (k_M_blockOf, [(38, 6, 8)], [(127, d_M_in 0), (134, d_M_refuses 16), (221, d_M_isBlock 16), (224, d_M_aboutBlock 16)], [], [], [], [], 6, 133, some .int, fun _ => 0, 1)
def v_M_blockOf (h : HP) (a1 : Int32) (a2 : Int32) : Int32 × HP := (if (v_M_isBlock (am_si h 0 8 0) a1) = 0 then (bnd (v_M_refuses (am_si h 0 8 0) 1) fun y3 => (y3.1, y3.2)) else (if (v_M_in (am_si h 0 8 0) a2 0 6) = 0 then (bnd (v_M_refuses (am_si h 0 8 0) 2) fun y1 => (y1.1, y1.2)) else (bnd (v_M_aboutBlock (am_si h 0 8 0) a1 a2) fun y2 => (y2.1, y2.2))))
def p_M_blockOf (h : HP) (a1 : Int32) (a2 : Int32) : Prop := ((p_M_isBlock (am_si h 0 8 0) a1) ∧ (((v_M_isBlock (am_si h 0 8 0) a1) = 0 → True) ∧ (¬ (v_M_isBlock (am_si h 0 8 0) a1) = 0 → (((v_M_in (am_si h 0 8 0) a2 0 6) = 0 → True) ∧ (¬ (v_M_in (am_si h 0 8 0) a2 0 6) = 0 → (p_M_aboutBlock (am_si h 0 8 0) a1 a2))))))
def g_M_blockOf (_ _ : List Sh) (as : List Value) (h : HP) : GR := match as with
  | [.ref o1, .int a1, .int a2] => (Nat.beq o1 0, p_M_blockOf h a1 a2, none, some (.int (v_M_blockOf h a1 a2).1), (v_M_blockOf h a1 a2).2)
  | _ => bad h
def d_M_blockOf (k : Nat) : CD := (k, yX6_blockOf, cX6_blockOf, 3, some .int, 3, 6, 133, 0, false, true, g_M_blockOf)
theorem chk_M_blockOf : ∀ pc, am_chk cX6_blockOf k_M_blockOf pc = true := am_chkall 44 (by decide +kernel) (fun pc h => by unfold k_M_blockOf; rw [Nat.ble_eq_true_of_le h]; rfl)
theorem pf_M_blockOf : plainFor yX6_blockOf = true := by decide +kernel
theorem cu_M_blockOf : Cond.code yX6_blockOf cX6_blockOf 3 (some .int) ∈ am_U := am_tb 1168 (by decide +kernel) rfl
set_option maxHeartbeats 20000000 in
set_option maxRecDepth 100000 in
theorem ev_M_blockOf {e1 ro : List Sh} {P : AR → HP → Prop} (h : HP) (a1 : Int32) (a2 : Int32) (hp : p_M_blockOf h a1 a2) (hP : ∀ q, v_M_blockOf h a1 a2 = q → RIW P h q) : am_Ev m_M_blockOf (WM ++ e1) ro P (0, [.ref 0, .int a1, .int a2], [], h) := by
  unfold p_M_blockOf at hp
  refine am_Ev_G [18, 35, 43] 400 _ ?_
  show ((p_M_isBlock (am_si h 0 8 0) a1) ∧ ((¬ (v_M_isBlock (am_si h 0 8 0) a1) = 0 → (((v_M_in (am_si h 0 8 0) a2 0 6) = 0 → am_Ev m_M_blockOf (WM ++ e1) ro P (43, [.ref 0, .int a1, .int a2], [.int ((v_M_refuses (am_si h 0 8 0) 2).1)], ((v_M_refuses (am_si h 0 8 0) 2).2))) ∧ (¬ (v_M_in (am_si h 0 8 0) a2 0 6) = 0 → ((p_M_aboutBlock (am_si h 0 8 0) a1 a2) ∧ am_Ev m_M_blockOf (WM ++ e1) ro P (35, [.ref 0, .int a1, .int a2], [.int ((v_M_aboutBlock (am_si h 0 8 0) a1 a2).1)], ((v_M_aboutBlock (am_si h 0 8 0) a1 a2).2)))))) ∧ ((v_M_isBlock (am_si h 0 8 0) a1) = 0 → am_Ev m_M_blockOf (WM ++ e1) ro P (18, [.ref 0, .int a1, .int a2], [.int ((v_M_refuses (am_si h 0 8 0) 1).1)], ((v_M_refuses (am_si h 0 8 0) 1).2)))))
  obtain ⟨hob, hp⟩ := hp
  refine ⟨hob, ?_⟩
  refine ⟨fun c1 => ?_, fun c1 => ?_⟩
  · have hp := hp.2 c1
    refine ⟨fun c2 => ?_, fun c2 => ?_⟩
    · skip
      obtain ⟨y1, c3⟩ : ∃ y, v_M_refuses (am_si h 0 8 0) 2 = y := ⟨_, rfl⟩
      rw [c3]
      show am_Ev m_M_blockOf (WM ++ e1) ro P (43, [.ref 0, .int a1, .int a2], [.int y1.1], y1.2)
      refine am_Ev_G [] 400 _ ?_
      show P (.inl (some (.int y1.1))) y1.2
      exact hP (y1.1, y1.2) (by unfold v_M_blockOf; simp only [if_neg c1, if_pos c2, bnd, c3])
    · have hp := hp.2 c2
      refine ⟨hp, ?_⟩
      obtain ⟨y2, c4⟩ : ∃ y, v_M_aboutBlock (am_si h 0 8 0) a1 a2 = y := ⟨_, rfl⟩
      rw [c4]
      show am_Ev m_M_blockOf (WM ++ e1) ro P (35, [.ref 0, .int a1, .int a2], [.int y2.1], y2.2)
      refine am_Ev_G [43] 400 _ ?_
      show am_Ev m_M_blockOf (WM ++ e1) ro P (43, [.ref 0, .int a1, .int a2], [.int y2.1], y2.2)
      refine am_Ev_G [] 400 _ ?_
      show P (.inl (some (.int y2.1))) y2.2
      exact hP (y2.1, y2.2) (by unfold v_M_blockOf; simp only [if_neg c1, if_neg c2, bnd, c4])
  · skip
    obtain ⟨y3, c5⟩ : ∃ y, v_M_refuses (am_si h 0 8 0) 1 = y := ⟨_, rfl⟩
    rw [c5]
    show am_Ev m_M_blockOf (WM ++ e1) ro P (18, [.ref 0, .int a1, .int a2], [.int y3.1], y3.2)
    refine am_Ev_G [] 400 _ ?_
    show P (.inl (some (.int y3.1))) y3.2
    exact hP (y3.1, y3.2) (by unfold v_M_blockOf; simp only [if_pos c1, bnd, c5])
theorem ok_M_blockOf {l : Launch} (hl : l.stackTraces = false) (e1 ro : List Sh) (k : Nat) : am_Ok l (WM ++ e1) ro (d_M_blockOf k) := by
  refine am_met hl (own := RX6) (M := m_M_blockOf) rfl pf_M_blockOf cu_M_blockOf rfl rfl rfl rfl (fun _ => rfl) rfl ⟨chk_M_blockOf, (am_c (fl_M_38) am_n), (am_c (lk_M_127) (am_c (lk_M_134) (am_c (lk_M_221) (am_c (lk_M_224) am_n)))), (am_n), (am_n)⟩ (am_n) (am_c (ok_M_in hl e1 _ 0) (am_c (ok_M_refuses hl e1 _ 16) (am_c (ok_M_isBlock hl e1 _ 16) (am_c (ok_M_aboutBlock hl e1 _ 16) am_n)))) (fun z => nomatch z) ?_ ?_
  · intro _ as h hg
    show g_thr (g_M_blockOf (WM ++ e1) ro as h) = none
    unfold g_M_blockOf
    split <;> rfl
  · intro as h hg hp
    revert hg hp
    show g_ok (g_M_blockOf (WM ++ e1) ro as h) = true → g_pre (g_M_blockOf (WM ++ e1) ro as h) → _ ∧ am_Ev m_M_blockOf (WM ++ e1) ro (am_eq (g_M_blockOf (WM ++ e1) ro as h)) (0, am_ent as 3, [], h)
    unfold g_M_blockOf
    split
    · rename_i o1 a1 a2
      intro hc hp
      change (Nat.beq o1 0) = true at hc
      obtain rfl := am_beq hc
      exact ⟨Nat.le_of_ble_eq_true rfl, ev_M_blockOf h a1 a2 hp eqRIW⟩
    · exact fun z => nomatch z
def k_M_dutyTold (pc : Nat) : Ent := bif Nat.ble 88 pc then am_nop else bif Nat.ble 44 pc then (bif Nat.ble 66 pc then (bif Nat.ble 76 pc then (bif Nat.ble 82 pc then (bif Nat.ble 86 pc then (bif Nat.ble 87 pc then (bif Nat.beq pc 87 then (.ireturn, 0, 0, []) else am_nop) else (bif Nat.beq pc 86 then (.isub, 0, 0, []) else am_nop)) else (bif Nat.ble 83 pc then (bif Nat.beq pc 83 then (.invokevirtual 49, 0, 0, []) else am_nop) else (bif Nat.beq pc 82 then (.iconst 3, 3, 0, []) else am_nop))) else (bif Nat.ble 79 pc then (bif Nat.ble 80 pc then (bif Nat.beq pc 80 then (.iload 6, 0, 6, []) else am_nop) else (bif Nat.beq pc 79 then (.aload_n 0, 0, 0, []) else am_nop)) else (bif Nat.beq pc 76 then (.invokevirtual 53, 0, 0, []) else am_nop))) else (bif Nat.ble 71 pc then (bif Nat.ble 74 pc then (bif Nat.ble 75 pc then (bif Nat.beq pc 75 then (.iaload, 0, 0, []) else am_nop) else (bif Nat.beq pc 74 then (.iload_n 2, 0, 2, []) else am_nop)) else (bif Nat.beq pc 71 then (.getfield 29, 0, 0, []) else am_nop)) else (bif Nat.ble 69 pc then (bif Nat.ble 70 pc then (bif Nat.beq pc 70 then (.aload_n 0, 0, 0, []) else am_nop) else (bif Nat.beq pc 69 then (.aload_n 0, 0, 0, []) else am_nop)) else (bif Nat.beq pc 66 then (.goto 21, 0, 87, []) else am_nop)))) else (bif Nat.ble 56 pc then (bif Nat.ble 61 pc then (bif Nat.ble 64 pc then (bif Nat.ble 65 pc then (bif Nat.beq pc 65 then (.iaload, 0, 0, []) else am_nop) else (bif Nat.beq pc 64 then (.iload_n 2, 0, 2, []) else am_nop)) else (bif Nat.beq pc 61 then (.getfield 29, 0, 0, []) else am_nop)) else (bif Nat.ble 57 pc then (bif Nat.ble 60 pc then (bif Nat.beq pc 60 then (.aload_n 0, 0, 0, []) else am_nop) else (bif Nat.beq pc 57 then (.if_icmp .ne 12, 0, 69, []) else am_nop)) else (bif Nat.beq pc 56 then (.iconst 1, 1, 0, []) else am_nop))) else (bif Nat.ble 50 pc then (bif Nat.ble 52 pc then (bif Nat.ble 55 pc then (bif Nat.beq pc 55 then (.iload_n 3, 0, 3, []) else am_nop) else (bif Nat.beq pc 52 then (.goto 35, 0, 87, []) else am_nop)) else (bif Nat.beq pc 50 then (.iload 6, 0, 6, []) else am_nop)) else (bif Nat.ble 46 pc then (bif Nat.ble 47 pc then (bif Nat.beq pc 47 then (.ifCond .ne 8, 0, 55, []) else am_nop) else (bif Nat.beq pc 46 then (.iload_n 3, 0, 3, []) else am_nop)) else (bif Nat.beq pc 44 then (.istore 6, 0, 6, []) else am_nop))))) else (bif Nat.ble 22 pc then (bif Nat.ble 33 pc then (bif Nat.ble 38 pc then (bif Nat.ble 40 pc then (bif Nat.ble 41 pc then (bif Nat.beq pc 41 then (.invokevirtual 57, 0, 0, []) else am_nop) else (bif Nat.beq pc 40 then (.iaload, 0, 0, []) else am_nop)) else (bif Nat.ble 39 pc then (bif Nat.beq pc 39 then (.isub, 0, 0, []) else am_nop) else (bif Nat.beq pc 38 then (.iconst 1, 1, 0, []) else am_nop))) else (bif Nat.ble 34 pc then (bif Nat.ble 37 pc then (bif Nat.beq pc 37 then (.iload_n 2, 0, 2, []) else am_nop) else (bif Nat.beq pc 34 then (.getfield 29, 0, 0, []) else am_nop)) else (bif Nat.beq pc 33 then (.aload_n 0, 0, 0, []) else am_nop))) else (bif Nat.ble 27 pc then (bif Nat.ble 29 pc then (bif Nat.ble 32 pc then (bif Nat.beq pc 32 then (.aload_n 0, 0, 0, []) else am_nop) else (bif Nat.beq pc 29 then (.goto 15, 0, 44, []) else am_nop)) else (bif Nat.beq pc 27 then (.iload 4, 0, 4, []) else am_nop)) else (bif Nat.ble 23 pc then (bif Nat.ble 24 pc then (bif Nat.beq pc 24 then (.ifCond .ne 8, 0, 32, []) else am_nop) else (bif Nat.beq pc 23 then (.iload_n 2, 0, 2, []) else am_nop)) else (bif Nat.beq pc 22 then (.ireturn, 0, 0, []) else am_nop)))) else (bif Nat.ble 10 pc then (bif Nat.ble 16 pc then (bif Nat.ble 18 pc then (bif Nat.ble 21 pc then (bif Nat.beq pc 21 then (.iconst (-1), (-1 : Int32), 0, []) else am_nop) else (bif Nat.beq pc 18 then (.if_icmp .lt 5, 0, 23, []) else am_nop)) else (bif Nat.beq pc 16 then (.iload 5, 0, 5, []) else am_nop)) else (bif Nat.ble 13 pc then (bif Nat.ble 15 pc then (bif Nat.beq pc 15 then (.iload_n 2, 0, 2, []) else am_nop) else (bif Nat.beq pc 13 then (.istore 5, 0, 5, []) else am_nop)) else (bif Nat.beq pc 10 then (.invokevirtual 124, 0, 0, []) else am_nop))) else (bif Nat.ble 5 pc then (bif Nat.ble 7 pc then (bif Nat.ble 8 pc then (bif Nat.beq pc 8 then (.iload 4, 0, 4, []) else am_nop) else (bif Nat.beq pc 7 then (.aload_n 0, 0, 0, []) else am_nop)) else (bif Nat.beq pc 5 then (.istore 4, 0, 4, []) else am_nop)) else (bif Nat.ble 1 pc then (bif Nat.ble 2 pc then (bif Nat.beq pc 2 then (.invokevirtual 203, 0, 0, []) else am_nop) else (bif Nat.beq pc 1 then (.iload_n 1, 0, 1, []) else am_nop)) else (bif Nat.beq pc 0 then (.aload_n 0, 0, 0, []) else am_nop)))))
def m_M_dutyTold : MI := (k_M_dutyTold, [(29, 6, 10)], [(49, d_M_of 16), (53, d_M_arrival 16), (57, d_M_next 16), (124, d_M_cuts 16), (203, d_M_firstOf 16)], [], [], [], [], 5, 110, some .int, fun _ => 0, 1)
def v_M_dutyTold (h : HP) (a1 : Int32) (a2 : Int32) (a3 : Int32) : Int32 × HP := (bnd (v_M_cuts h (v_M_firstOf h a1)) fun y1 => (if a2 < y1.1 then ((if a3 = 0 then (if a2 = 0 then (v_M_firstOf h a1) else (v_M_next y1.2 (y1.2.1 7 (am_ix (a2 - 1))))) else (if a3 = 1 then y1.2.1 7 (am_ix a2) else ((v_M_arrival y1.2 (y1.2.1 7 (am_ix a2))) - (v_M_of y1.2 (if a2 = 0 then (v_M_firstOf h a1) else (v_M_next y1.2 (y1.2.1 7 (am_ix (a2 - 1))))) 3)))), y1.2) else ((-1 : Int32), y1.2)))
def p_M_dutyTold (h : HP) (a1 : Int32) (a2 : Int32) (a3 : Int32) : Prop := ((p_M_firstOf h a1) ∧ ((p_M_cuts h (v_M_firstOf h a1)) ∧ (∀ y1, v_M_cuts h (v_M_firstOf h a1) = y1 → ((a2 < y1.1 → (((a2 = 0 → True) ∧ (¬ a2 = 0 → ((am_in (a2 - 1) 20) ∧ (p_M_next y1.2 (y1.2.1 7 (am_ix (a2 - 1))))))) ∧ ((a3 = 0 → True) ∧ (¬ a3 = 0 → ((a3 = 1 → (am_in a2 20)) ∧ (¬ a3 = 1 → ((am_in a2 20) ∧ ((p_M_arrival y1.2 (y1.2.1 7 (am_ix a2))) ∧ (p_M_of y1.2 (if a2 = 0 then (v_M_firstOf h a1) else (v_M_next y1.2 (y1.2.1 7 (am_ix (a2 - 1))))) 3))))))))) ∧ (¬ a2 < y1.1 → True)))))
def g_M_dutyTold (_ _ : List Sh) (as : List Value) (h : HP) : GR := match as with
  | [.ref o1, .int a1, .int a2, .int a3] => (Nat.beq o1 0, p_M_dutyTold h a1 a2 a3, none, some (.int (v_M_dutyTold h a1 a2 a3).1), (v_M_dutyTold h a1 a2 a3).2)
  | _ => bad h
def d_M_dutyTold (k : Nat) : CD := (k, yX6_dutyTold, cX6_dutyTold, 7, some .int, 4, 5, 110, 0, false, true, g_M_dutyTold)
theorem chk_M_dutyTold : ∀ pc, am_chk cX6_dutyTold k_M_dutyTold pc = true := am_chkall 88 (by decide +kernel) (fun pc h => by unfold k_M_dutyTold; rw [Nat.ble_eq_true_of_le h]; rfl)
theorem pf_M_dutyTold : plainFor yX6_dutyTold = true := by decide +kernel
theorem cu_M_dutyTold : Cond.code yX6_dutyTold cX6_dutyTold 7 (some .int) ∈ am_U := am_tb 1224 (by decide +kernel) rfl
set_option maxHeartbeats 20000000 in
set_option maxRecDepth 100000 in
theorem ev_M_dutyTold {e1 ro : List Sh} {P : AR → HP → Prop} (h : HP) (a1 : Int32) (a2 : Int32) (a3 : Int32) (hp : p_M_dutyTold h a1 a2 a3) (hP : ∀ q, v_M_dutyTold h a1 a2 a3 = q → RIW P h q) : am_Ev m_M_dutyTold (WM ++ e1) ro P (0, [.ref 0, .int a1, .int a2, .int a3, .retAddr 0, .retAddr 0, .retAddr 0], [], h) := by
  unfold p_M_dutyTold at hp
  refine am_Ev_G [13] 400 _ ?_
  show ((p_M_firstOf h a1) ∧ ((p_M_cuts h (v_M_firstOf h a1)) ∧ am_Ev m_M_dutyTold (WM ++ e1) ro P (13, [.ref 0, .int a1, .int a2, .int a3, .int (v_M_firstOf h a1), .retAddr 0, .retAddr 0], [.int ((v_M_cuts h (v_M_firstOf h a1)).1)], ((v_M_cuts h (v_M_firstOf h a1)).2))))
  obtain ⟨hob, hp⟩ := hp
  refine ⟨hob, ?_⟩
  obtain ⟨hob, hp⟩ := hp
  refine ⟨hob, ?_⟩
  obtain ⟨y1, c1⟩ : ∃ y, v_M_cuts h (v_M_firstOf h a1) = y := ⟨_, rfl⟩
  rw [c1]
  have hp := hp _ c1
  show am_Ev m_M_dutyTold (WM ++ e1) ro P (13, [.ref 0, .int a1, .int a2, .int a3, .int (v_M_firstOf h a1), .retAddr 0, .retAddr 0], [.int y1.1], y1.2)
  refine am_Ev_G [24] 400 _ ?_
  show ((a2 < y1.1 → am_Ev m_M_dutyTold (WM ++ e1) ro P (24, [.ref 0, .int a1, .int a2, .int a3, .int (v_M_firstOf h a1), .int y1.1, .retAddr 0], [.int a2], y1.2)) ∧ (¬ a2 < y1.1 → P (.inl (some (.int (-1 : Int32)))) y1.2))
  refine ⟨fun c2 => ?_, fun c2 => ?_⟩
  · have hp := hp.1 c2
    obtain ⟨hpa, hp⟩ := hp
    have key3 : am_Ev m_M_dutyTold (WM ++ e1) ro P (44, [.ref 0, .int a1, .int a2, .int a3, .int (v_M_firstOf h a1), .int y1.1, .retAddr 0], [.int (if a2 = 0 then (v_M_firstOf h a1) else (v_M_next y1.2 (y1.2.1 7 (am_ix (a2 - 1)))))], y1.2) := by
      refine am_Ev_G [47] 400 _ ?_
      show am_Ev m_M_dutyTold (WM ++ e1) ro P (47, [.ref 0, .int a1, .int a2, .int a3, .int (v_M_firstOf h a1), .int y1.1, .int (if a2 = 0 then (v_M_firstOf h a1) else (v_M_next y1.2 (y1.2.1 7 (am_ix (a2 - 1)))))], [.int a3], y1.2)
      have hpa := hp
      have key4 : am_Ev m_M_dutyTold (WM ++ e1) ro P (87, [.ref 0, .int a1, .int a2, .int a3, .int (v_M_firstOf h a1), .int y1.1, .int (if a2 = 0 then (v_M_firstOf h a1) else (v_M_next y1.2 (y1.2.1 7 (am_ix (a2 - 1)))))], [.int (if a3 = 0 then (if a2 = 0 then (v_M_firstOf h a1) else (v_M_next y1.2 (y1.2.1 7 (am_ix (a2 - 1))))) else (if a3 = 1 then y1.2.1 7 (am_ix a2) else ((v_M_arrival y1.2 (y1.2.1 7 (am_ix a2))) - (v_M_of y1.2 (if a2 = 0 then (v_M_firstOf h a1) else (v_M_next y1.2 (y1.2.1 7 (am_ix (a2 - 1))))) 3))))], y1.2) := by
        refine am_Ev_G [] 400 _ ?_
        show P (.inl (some (.int (if a3 = 0 then (if a2 = 0 then (v_M_firstOf h a1) else (v_M_next y1.2 (y1.2.1 7 (am_ix (a2 - 1))))) else (if a3 = 1 then y1.2.1 7 (am_ix a2) else ((v_M_arrival y1.2 (y1.2.1 7 (am_ix a2))) - (v_M_of y1.2 (if a2 = 0 then (v_M_firstOf h a1) else (v_M_next y1.2 (y1.2.1 7 (am_ix (a2 - 1))))) 3))))))) y1.2
        exact hP ((if a3 = 0 then (if a2 = 0 then (v_M_firstOf h a1) else (v_M_next y1.2 (y1.2.1 7 (am_ix (a2 - 1))))) else (if a3 = 1 then y1.2.1 7 (am_ix a2) else ((v_M_arrival y1.2 (y1.2.1 7 (am_ix a2))) - (v_M_of y1.2 (if a2 = 0 then (v_M_firstOf h a1) else (v_M_next y1.2 (y1.2.1 7 (am_ix (a2 - 1))))) 3)))), y1.2) (by unfold v_M_dutyTold; simp only [bnd, c1, if_pos c2])
      have hp := hpa
      refine am_Ev_G [87] 400 _ ?_
      show ((¬ a3 = 0 → ((¬ a3 = 1 → ((am_in a2 20) ∧ ((p_M_arrival y1.2 (y1.2.1 7 (am_ix a2))) ∧ ((p_M_of y1.2 (if a2 = 0 then (v_M_firstOf h a1) else (v_M_next y1.2 (y1.2.1 7 (am_ix (a2 - 1))))) 3) ∧ am_Ev m_M_dutyTold (WM ++ e1) ro P (87, [.ref 0, .int a1, .int a2, .int a3, .int (v_M_firstOf h a1), .int y1.1, .int (if a2 = 0 then (v_M_firstOf h a1) else (v_M_next y1.2 (y1.2.1 7 (am_ix (a2 - 1)))))], [.int ((v_M_arrival y1.2 (y1.2.1 7 (am_ix a2))) - (v_M_of y1.2 (if a2 = 0 then (v_M_firstOf h a1) else (v_M_next y1.2 (y1.2.1 7 (am_ix (a2 - 1))))) 3))], y1.2))))) ∧ (a3 = 1 → ((am_in a2 20) ∧ am_Ev m_M_dutyTold (WM ++ e1) ro P (87, [.ref 0, .int a1, .int a2, .int a3, .int (v_M_firstOf h a1), .int y1.1, .int (if a2 = 0 then (v_M_firstOf h a1) else (v_M_next y1.2 (y1.2.1 7 (am_ix (a2 - 1)))))], [.int (y1.2.1 7 (am_ix a2))], y1.2))))) ∧ (a3 = 0 → am_Ev m_M_dutyTold (WM ++ e1) ro P (87, [.ref 0, .int a1, .int a2, .int a3, .int (v_M_firstOf h a1), .int y1.1, .int (if a2 = 0 then (v_M_firstOf h a1) else (v_M_next y1.2 (y1.2.1 7 (am_ix (a2 - 1)))))], [.int (if a2 = 0 then (v_M_firstOf h a1) else (v_M_next y1.2 (y1.2.1 7 (am_ix (a2 - 1)))))], y1.2)))
      refine ⟨fun c5 => ?_, fun c5 => ?_⟩
      · have hp := hp.2 c5
        refine ⟨fun c6 => ?_, fun c6 => ?_⟩
        · have hp := hp.2 c6
          obtain ⟨hob, hp⟩ := hp
          refine ⟨hob, ?_⟩
          obtain ⟨hob, hp⟩ := hp
          refine ⟨hob, ?_⟩
          refine ⟨hp, ?_⟩
          simpa only [if_neg c5, if_neg c6] using key4
        · have hp := hp.1 c6
          refine ⟨hp, ?_⟩
          simpa only [if_neg c5, if_pos c6] using key4
      · skip
        simpa only [if_pos c5] using key4
    have hp := hpa
    refine am_Ev_G [44] 400 _ ?_
    show ((¬ a2 = 0 → ((am_in (a2 - 1) 20) ∧ ((p_M_next y1.2 (y1.2.1 7 (am_ix (a2 - 1)))) ∧ am_Ev m_M_dutyTold (WM ++ e1) ro P (44, [.ref 0, .int a1, .int a2, .int a3, .int (v_M_firstOf h a1), .int y1.1, .retAddr 0], [.int (v_M_next y1.2 (y1.2.1 7 (am_ix (a2 - 1))))], y1.2)))) ∧ (a2 = 0 → am_Ev m_M_dutyTold (WM ++ e1) ro P (44, [.ref 0, .int a1, .int a2, .int a3, .int (v_M_firstOf h a1), .int y1.1, .retAddr 0], [.int (v_M_firstOf h a1)], y1.2)))
    refine ⟨fun c7 => ?_, fun c7 => ?_⟩
    · have hp := hp.2 c7
      obtain ⟨hob, hp⟩ := hp
      refine ⟨hob, ?_⟩
      refine ⟨hp, ?_⟩
      simpa only [if_neg c7] using key3
    · skip
      simpa only [if_pos c7] using key3
  · skip
    exact hP ((-1 : Int32), y1.2) (by unfold v_M_dutyTold; simp only [bnd, c1, if_neg c2])
theorem ok_M_dutyTold {l : Launch} (hl : l.stackTraces = false) (e1 ro : List Sh) (k : Nat) : am_Ok l (WM ++ e1) ro (d_M_dutyTold k) := by
  refine am_met hl (own := RX6) (M := m_M_dutyTold) rfl pf_M_dutyTold cu_M_dutyTold rfl rfl rfl rfl (fun _ => rfl) rfl ⟨chk_M_dutyTold, (am_c (fl_M_29) am_n), (am_c (lk_M_49) (am_c (lk_M_53) (am_c (lk_M_57) (am_c (lk_M_124) (am_c (lk_M_203) am_n))))), (am_n), (am_n)⟩ (am_n) (am_c (ok_M_of hl e1 _ 16) (am_c (ok_M_arrival hl e1 _ 16) (am_c (ok_M_next hl e1 _ 16) (am_c (ok_M_cuts hl e1 _ 16) (am_c (ok_M_firstOf hl e1 _ 16) am_n))))) (fun z => nomatch z) ?_ ?_
  · intro _ as h hg
    show g_thr (g_M_dutyTold (WM ++ e1) ro as h) = none
    unfold g_M_dutyTold
    split <;> rfl
  · intro as h hg hp
    revert hg hp
    show g_ok (g_M_dutyTold (WM ++ e1) ro as h) = true → g_pre (g_M_dutyTold (WM ++ e1) ro as h) → _ ∧ am_Ev m_M_dutyTold (WM ++ e1) ro (am_eq (g_M_dutyTold (WM ++ e1) ro as h)) (0, am_ent as 7, [], h)
    unfold g_M_dutyTold
    split
    · rename_i o1 a1 a2 a3
      intro hc hp
      change (Nat.beq o1 0) = true at hc
      obtain rfl := am_beq hc
      exact ⟨Nat.le_of_ble_eq_true rfl, ev_M_dutyTold h a1 a2 a3 hp eqRIW⟩
    · exact fun z => nomatch z
def k_M_duty (pc : Nat) : Ent := bif Nat.ble 48 pc then am_nop else bif Nat.ble 24 pc then (bif Nat.ble 35 pc then (bif Nat.ble 42 pc then (bif Nat.ble 44 pc then (bif Nat.ble 47 pc then (bif Nat.beq pc 47 then (.ireturn, 0, 0, []) else am_nop) else (bif Nat.beq pc 44 then (.invokevirtual 134, 0, 0, []) else am_nop)) else (bif Nat.ble 43 pc then (bif Nat.beq pc 43 then (.iconst 2, 2, 0, []) else am_nop) else (bif Nat.beq pc 42 then (.aload_n 0, 0, 0, []) else am_nop))) else (bif Nat.ble 36 pc then (bif Nat.ble 39 pc then (bif Nat.beq pc 39 then (.goto 8, 0, 47, []) else am_nop) else (bif Nat.beq pc 36 then (.invokevirtual 227, 0, 0, []) else am_nop)) else (bif Nat.beq pc 35 then (.iload_n 3, 0, 3, []) else am_nop))) else (bif Nat.ble 29 pc then (bif Nat.ble 33 pc then (bif Nat.ble 34 pc then (bif Nat.beq pc 34 then (.iload_n 2, 0, 2, []) else am_nop) else (bif Nat.beq pc 33 then (.iload_n 1, 0, 1, []) else am_nop)) else (bif Nat.ble 32 pc then (bif Nat.beq pc 32 then (.aload_n 0, 0, 0, []) else am_nop) else (bif Nat.beq pc 29 then (.ifCond .eq 13, 0, 42, []) else am_nop))) else (bif Nat.ble 25 pc then (bif Nat.ble 26 pc then (bif Nat.beq pc 26 then (.invokestatic 127, 0, 0, []) else am_nop) else (bif Nat.beq pc 25 then (.iconst 2, 2, 0, []) else am_nop)) else (bif Nat.beq pc 24 then (.iconst 0, 0, 0, []) else am_nop)))) else (bif Nat.ble 13 pc then (bif Nat.ble 18 pc then (bif Nat.ble 20 pc then (bif Nat.ble 23 pc then (bif Nat.beq pc 23 then (.iload_n 3, 0, 3, []) else am_nop) else (bif Nat.beq pc 20 then (.ifCond .lt 22, 0, 42, []) else am_nop)) else (bif Nat.ble 19 pc then (bif Nat.beq pc 19 then (.iload_n 2, 0, 2, []) else am_nop) else (bif Nat.beq pc 18 then (.ireturn, 0, 0, []) else am_nop))) else (bif Nat.ble 14 pc then (bif Nat.ble 15 pc then (bif Nat.beq pc 15 then (.invokevirtual 134, 0, 0, []) else am_nop) else (bif Nat.beq pc 14 then (.iconst 1, 1, 0, []) else am_nop)) else (bif Nat.beq pc 13 then (.aload_n 0, 0, 0, []) else am_nop))) else (bif Nat.ble 5 pc then (bif Nat.ble 7 pc then (bif Nat.ble 10 pc then (bif Nat.beq pc 10 then (.ifCond .ne 9, 0, 19, []) else am_nop) else (bif Nat.beq pc 7 then (.invokevirtual 221, 0, 0, []) else am_nop)) else (bif Nat.ble 6 pc then (bif Nat.beq pc 6 then (.iload_n 1, 0, 1, []) else am_nop) else (bif Nat.beq pc 5 then (.aload_n 0, 0, 0, []) else am_nop))) else (bif Nat.ble 1 pc then (bif Nat.ble 2 pc then (bif Nat.beq pc 2 then (.putfield 38, 0, 0, []) else am_nop) else (bif Nat.beq pc 1 then (.iconst 0, 0, 0, []) else am_nop)) else (bif Nat.beq pc 0 then (.aload_n 0, 0, 0, []) else am_nop))))
theorem lk_M_227 : am_lnk RX6 227 (d_M_dutyTold 16) := ⟨⟨by decide, by decide⟩, am_tb 8 (by decide +kernel) rfl, Or.inr ⟨by decide, rfl, am_tb 1223 (by decide +kernel) rfl, am_tp 116 (by decide +kernel) rfl, ⟨TX6, 16, rfl⟩, Or.inl (am_tb 1221 (by decide +kernel) rfl)⟩⟩
def m_M_duty : MI := (k_M_duty, [(38, 6, 8)], [(127, d_M_in 0), (134, d_M_refuses 16), (221, d_M_isBlock 16), (227, d_M_dutyTold 16)], [], [], [], [], 6, 136, some .int, fun _ => 0, 1)
def v_M_duty (h : HP) (a1 : Int32) (a2 : Int32) (a3 : Int32) : Int32 × HP := (if (v_M_isBlock (am_si h 0 8 0) a1) = 0 then (bnd (v_M_refuses (am_si h 0 8 0) 1) fun y4 => (y4.1, y4.2)) else (if a2 < 0 then (bnd (v_M_refuses (am_si h 0 8 0) 2) fun y1 => (y1.1, y1.2)) else (if (v_M_in (am_si h 0 8 0) a3 0 2) = 0 then (bnd (v_M_refuses (am_si h 0 8 0) 2) fun y2 => (y2.1, y2.2)) else (bnd (v_M_dutyTold (am_si h 0 8 0) a1 a2 a3) fun y3 => (y3.1, y3.2)))))
def p_M_duty (h : HP) (a1 : Int32) (a2 : Int32) (a3 : Int32) : Prop := ((p_M_isBlock (am_si h 0 8 0) a1) ∧ (((v_M_isBlock (am_si h 0 8 0) a1) = 0 → True) ∧ (¬ (v_M_isBlock (am_si h 0 8 0) a1) = 0 → ((a2 < 0 → True) ∧ (¬ a2 < 0 → (((v_M_in (am_si h 0 8 0) a3 0 2) = 0 → True) ∧ (¬ (v_M_in (am_si h 0 8 0) a3 0 2) = 0 → (p_M_dutyTold (am_si h 0 8 0) a1 a2 a3))))))))
def g_M_duty (_ _ : List Sh) (as : List Value) (h : HP) : GR := match as with
  | [.ref o1, .int a1, .int a2, .int a3] => (Nat.beq o1 0, p_M_duty h a1 a2 a3, none, some (.int (v_M_duty h a1 a2 a3).1), (v_M_duty h a1 a2 a3).2)
  | _ => bad h
def d_M_duty (k : Nat) : CD := (k, yX6_duty, cX6_duty, 4, some .int, 4, 6, 136, 0, false, true, g_M_duty)
theorem chk_M_duty : ∀ pc, am_chk cX6_duty k_M_duty pc = true := am_chkall 48 (by decide +kernel) (fun pc h => by unfold k_M_duty; rw [Nat.ble_eq_true_of_le h]; rfl)
theorem pf_M_duty : plainFor yX6_duty = true := by decide +kernel
theorem cu_M_duty : Cond.code yX6_duty cX6_duty 4 (some .int) ∈ am_U := am_tb 1220 (by decide +kernel) rfl
set_option maxHeartbeats 20000000 in
set_option maxRecDepth 100000 in
theorem ev_M_duty {e1 ro : List Sh} {P : AR → HP → Prop} (h : HP) (a1 : Int32) (a2 : Int32) (a3 : Int32) (hp : p_M_duty h a1 a2 a3) (hP : ∀ q, v_M_duty h a1 a2 a3 = q → RIW P h q) : am_Ev m_M_duty (WM ++ e1) ro P (0, [.ref 0, .int a1, .int a2, .int a3], [], h) := by
  unfold p_M_duty at hp
  refine am_Ev_G [18, 39, 47] 400 _ ?_
  show ((p_M_isBlock (am_si h 0 8 0) a1) ∧ ((¬ (v_M_isBlock (am_si h 0 8 0) a1) = 0 → ((a2 < 0 → am_Ev m_M_duty (WM ++ e1) ro P (47, [.ref 0, .int a1, .int a2, .int a3], [.int ((v_M_refuses (am_si h 0 8 0) 2).1)], ((v_M_refuses (am_si h 0 8 0) 2).2))) ∧ (¬ a2 < 0 → (((v_M_in (am_si h 0 8 0) a3 0 2) = 0 → am_Ev m_M_duty (WM ++ e1) ro P (47, [.ref 0, .int a1, .int a2, .int a3], [.int ((v_M_refuses (am_si h 0 8 0) 2).1)], ((v_M_refuses (am_si h 0 8 0) 2).2))) ∧ (¬ (v_M_in (am_si h 0 8 0) a3 0 2) = 0 → ((p_M_dutyTold (am_si h 0 8 0) a1 a2 a3) ∧ am_Ev m_M_duty (WM ++ e1) ro P (39, [.ref 0, .int a1, .int a2, .int a3], [.int ((v_M_dutyTold (am_si h 0 8 0) a1 a2 a3).1)], ((v_M_dutyTold (am_si h 0 8 0) a1 a2 a3).2)))))))) ∧ ((v_M_isBlock (am_si h 0 8 0) a1) = 0 → am_Ev m_M_duty (WM ++ e1) ro P (18, [.ref 0, .int a1, .int a2, .int a3], [.int ((v_M_refuses (am_si h 0 8 0) 1).1)], ((v_M_refuses (am_si h 0 8 0) 1).2)))))
  obtain ⟨hob, hp⟩ := hp
  refine ⟨hob, ?_⟩
  refine ⟨fun c1 => ?_, fun c1 => ?_⟩
  · have hp := hp.2 c1
    refine ⟨fun c2 => ?_, fun c2 => ?_⟩
    · skip
      obtain ⟨y1, c3⟩ : ∃ y, v_M_refuses (am_si h 0 8 0) 2 = y := ⟨_, rfl⟩
      rw [c3]
      show am_Ev m_M_duty (WM ++ e1) ro P (47, [.ref 0, .int a1, .int a2, .int a3], [.int y1.1], y1.2)
      refine am_Ev_G [] 400 _ ?_
      show P (.inl (some (.int y1.1))) y1.2
      exact hP (y1.1, y1.2) (by unfold v_M_duty; simp only [if_neg c1, if_pos c2, bnd, c3])
    · have hp := hp.2 c2
      refine ⟨fun c4 => ?_, fun c4 => ?_⟩
      · skip
        obtain ⟨y2, c5⟩ : ∃ y, v_M_refuses (am_si h 0 8 0) 2 = y := ⟨_, rfl⟩
        rw [c5]
        show am_Ev m_M_duty (WM ++ e1) ro P (47, [.ref 0, .int a1, .int a2, .int a3], [.int y2.1], y2.2)
        refine am_Ev_G [] 400 _ ?_
        show P (.inl (some (.int y2.1))) y2.2
        exact hP (y2.1, y2.2) (by unfold v_M_duty; simp only [if_neg c1, if_neg c2, if_pos c4, bnd, c5])
      · have hp := hp.2 c4
        refine ⟨hp, ?_⟩
        obtain ⟨y3, c6⟩ : ∃ y, v_M_dutyTold (am_si h 0 8 0) a1 a2 a3 = y := ⟨_, rfl⟩
        rw [c6]
        show am_Ev m_M_duty (WM ++ e1) ro P (39, [.ref 0, .int a1, .int a2, .int a3], [.int y3.1], y3.2)
        refine am_Ev_G [47] 400 _ ?_
        show am_Ev m_M_duty (WM ++ e1) ro P (47, [.ref 0, .int a1, .int a2, .int a3], [.int y3.1], y3.2)
        refine am_Ev_G [] 400 _ ?_
        show P (.inl (some (.int y3.1))) y3.2
        exact hP (y3.1, y3.2) (by unfold v_M_duty; simp only [if_neg c1, if_neg c2, if_neg c4, bnd, c6])
  · skip
    obtain ⟨y4, c7⟩ : ∃ y, v_M_refuses (am_si h 0 8 0) 1 = y := ⟨_, rfl⟩
    rw [c7]
    show am_Ev m_M_duty (WM ++ e1) ro P (18, [.ref 0, .int a1, .int a2, .int a3], [.int y4.1], y4.2)
    refine am_Ev_G [] 400 _ ?_
    show P (.inl (some (.int y4.1))) y4.2
    exact hP (y4.1, y4.2) (by unfold v_M_duty; simp only [if_pos c1, bnd, c7])
theorem ok_M_duty {l : Launch} (hl : l.stackTraces = false) (e1 ro : List Sh) (k : Nat) : am_Ok l (WM ++ e1) ro (d_M_duty k) := by
  refine am_met hl (own := RX6) (M := m_M_duty) rfl pf_M_duty cu_M_duty rfl rfl rfl rfl (fun _ => rfl) rfl ⟨chk_M_duty, (am_c (fl_M_38) am_n), (am_c (lk_M_127) (am_c (lk_M_134) (am_c (lk_M_221) (am_c (lk_M_227) am_n)))), (am_n), (am_n)⟩ (am_n) (am_c (ok_M_in hl e1 _ 0) (am_c (ok_M_refuses hl e1 _ 16) (am_c (ok_M_isBlock hl e1 _ 16) (am_c (ok_M_dutyTold hl e1 _ 16) am_n)))) (fun z => nomatch z) ?_ ?_
  · intro _ as h hg
    show g_thr (g_M_duty (WM ++ e1) ro as h) = none
    unfold g_M_duty
    split <;> rfl
  · intro as h hg hp
    revert hg hp
    show g_ok (g_M_duty (WM ++ e1) ro as h) = true → g_pre (g_M_duty (WM ++ e1) ro as h) → _ ∧ am_Ev m_M_duty (WM ++ e1) ro (am_eq (g_M_duty (WM ++ e1) ro as h)) (0, am_ent as 4, [], h)
    unfold g_M_duty
    split
    · rename_i o1 a1 a2 a3
      intro hc hp
      change (Nat.beq o1 0) = true at hc
      obtain rfl := am_beq hc
      exact ⟨Nat.le_of_ble_eq_true rfl, ev_M_duty h a1 a2 a3 hp eqRIW⟩
    · exact fun z => nomatch z
def k_M_underWay (pc : Nat) : Ent := bif Nat.ble 115 pc then am_nop else bif Nat.ble 51 pc then (bif Nat.ble 84 pc then (bif Nat.ble 100 pc then (bif Nat.ble 107 pc then (bif Nat.ble 113 pc then (bif Nat.ble 114 pc then (bif Nat.beq pc 114 then (.ireturn, 0, 0, []) else am_nop) else (bif Nat.beq pc 113 then (.iload_n 1, 0, 1, []) else am_nop)) else (bif Nat.ble 110 pc then (bif Nat.beq pc 110 then (.goto (-106), 0, 4, []) else am_nop) else (bif Nat.beq pc 107 then (.iinc 2 1, 1, 2, []) else am_nop))) else (bif Nat.ble 105 pc then (bif Nat.ble 106 pc then (bif Nat.beq pc 106 then (.istore_n 1, 0, 1, []) else am_nop) else (bif Nat.beq pc 105 then (.iload_n 1, 0, 1, []) else am_nop)) else (bif Nat.ble 102 pc then (bif Nat.beq pc 102 then (.goto 4, 0, 106, []) else am_nop) else (bif Nat.beq pc 100 then (.iload 4, 0, 4, []) else am_nop)))) else (bif Nat.ble 91 pc then (bif Nat.ble 96 pc then (bif Nat.ble 97 pc then (bif Nat.beq pc 97 then (.if_icmp .le 8, 0, 105, []) else am_nop) else (bif Nat.beq pc 96 then (.iload_n 1, 0, 1, []) else am_nop)) else (bif Nat.ble 94 pc then (bif Nat.beq pc 94 then (.iload 4, 0, 4, []) else am_nop) else (bif Nat.beq pc 91 then (.goto (-63), 0, 28, []) else am_nop))) else (bif Nat.ble 86 pc then (bif Nat.ble 88 pc then (bif Nat.beq pc 88 then (.iinc 5 1, 1, 5, []) else am_nop) else (bif Nat.beq pc 86 then (.istore 4, 0, 4, []) else am_nop)) else (bif Nat.ble 85 pc then (bif Nat.beq pc 85 then (.iadd, 0, 0, []) else am_nop) else (bif Nat.beq pc 84 then (.iconst 0, 0, 0, []) else am_nop))))) else (bif Nat.ble 67 pc then (bif Nat.ble 74 pc then (bif Nat.ble 80 pc then (bif Nat.ble 81 pc then (bif Nat.beq pc 81 then (.goto 4, 0, 85, []) else am_nop) else (bif Nat.beq pc 80 then (.iconst 1, 1, 0, []) else am_nop)) else (bif Nat.ble 77 pc then (bif Nat.beq pc 77 then (.if_icmp .ge 7, 0, 84, []) else am_nop) else (bif Nat.beq pc 74 then (.invokevirtual 53, 0, 0, []) else am_nop))) else (bif Nat.ble 71 pc then (bif Nat.ble 72 pc then (bif Nat.beq pc 72 then (.iload 5, 0, 5, []) else am_nop) else (bif Nat.beq pc 71 then (.aload_n 0, 0, 0, []) else am_nop)) else (bif Nat.ble 70 pc then (bif Nat.beq pc 70 then (.iload_n 3, 0, 3, []) else am_nop) else (bif Nat.beq pc 67 then (.if_icmp .gt 17, 0, 84, []) else am_nop)))) else (bif Nat.ble 60 pc then (bif Nat.ble 63 pc then (bif Nat.ble 66 pc then (bif Nat.beq pc 66 then (.iload_n 3, 0, 3, []) else am_nop) else (bif Nat.beq pc 63 then (.invokevirtual 49, 0, 0, []) else am_nop)) else (bif Nat.ble 62 pc then (bif Nat.beq pc 62 then (.iconst 3, 3, 0, []) else am_nop) else (bif Nat.beq pc 60 then (.iload 5, 0, 5, []) else am_nop))) else (bif Nat.ble 56 pc then (bif Nat.ble 59 pc then (bif Nat.beq pc 59 then (.aload_n 0, 0, 0, []) else am_nop) else (bif Nat.beq pc 56 then (.ifCond .eq 28, 0, 84, []) else am_nop)) else (bif Nat.ble 53 pc then (bif Nat.beq pc 53 then (.invokevirtual 60, 0, 0, []) else am_nop) else (bif Nat.beq pc 51 then (.iload 5, 0, 5, []) else am_nop)))))) else (bif Nat.ble 22 pc then (bif Nat.ble 36 pc then (bif Nat.ble 43 pc then (bif Nat.ble 47 pc then (bif Nat.ble 50 pc then (bif Nat.beq pc 50 then (.aload_n 0, 0, 0, []) else am_nop) else (bif Nat.beq pc 47 then (.ifCond .eq 37, 0, 84, []) else am_nop)) else (bif Nat.ble 44 pc then (bif Nat.beq pc 44 then (.invokevirtual 60, 0, 0, []) else am_nop) else (bif Nat.beq pc 43 then (.iload_n 2, 0, 2, []) else am_nop))) else (bif Nat.ble 40 pc then (bif Nat.ble 42 pc then (bif Nat.beq pc 42 then (.aload_n 0, 0, 0, []) else am_nop) else (bif Nat.beq pc 40 then (.iload 4, 0, 4, []) else am_nop)) else (bif Nat.ble 37 pc then (bif Nat.beq pc 37 then (.if_icmp .ge 57, 0, 94, []) else am_nop) else (bif Nat.beq pc 36 then (.iaload, 0, 0, []) else am_nop)))) else (bif Nat.ble 28 pc then (bif Nat.ble 31 pc then (bif Nat.ble 34 pc then (bif Nat.beq pc 34 then (.bipush 15, 15, 0, []) else am_nop) else (bif Nat.beq pc 31 then (.getfield 7, 0, 0, []) else am_nop)) else (bif Nat.ble 30 pc then (bif Nat.beq pc 30 then (.aload_n 0, 0, 0, []) else am_nop) else (bif Nat.beq pc 28 then (.iload 5, 0, 5, []) else am_nop))) else (bif Nat.ble 25 pc then (bif Nat.ble 26 pc then (bif Nat.beq pc 26 then (.istore 5, 0, 5, []) else am_nop) else (bif Nat.beq pc 25 then (.iconst 0, 0, 0, []) else am_nop)) else (bif Nat.ble 23 pc then (bif Nat.beq pc 23 then (.istore 4, 0, 4, []) else am_nop) else (bif Nat.beq pc 22 then (.iconst 0, 0, 0, []) else am_nop))))) else (bif Nat.ble 9 pc then (bif Nat.ble 16 pc then (bif Nat.ble 18 pc then (bif Nat.ble 21 pc then (bif Nat.beq pc 21 then (.istore_n 3, 0, 3, []) else am_nop) else (bif Nat.beq pc 18 then (.invokevirtual 49, 0, 0, []) else am_nop)) else (bif Nat.ble 17 pc then (bif Nat.beq pc 17 then (.iconst 3, 3, 0, []) else am_nop) else (bif Nat.beq pc 16 then (.iload_n 2, 0, 2, []) else am_nop))) else (bif Nat.ble 12 pc then (bif Nat.ble 15 pc then (bif Nat.beq pc 15 then (.aload_n 0, 0, 0, []) else am_nop) else (bif Nat.beq pc 12 then (.if_icmp .ge 101, 0, 113, []) else am_nop)) else (bif Nat.ble 11 pc then (bif Nat.beq pc 11 then (.iaload, 0, 0, []) else am_nop) else (bif Nat.beq pc 9 then (.bipush 15, 15, 0, []) else am_nop)))) else (bif Nat.ble 3 pc then (bif Nat.ble 5 pc then (bif Nat.ble 6 pc then (bif Nat.beq pc 6 then (.getfield 7, 0, 0, []) else am_nop) else (bif Nat.beq pc 5 then (.aload_n 0, 0, 0, []) else am_nop)) else (bif Nat.ble 4 pc then (bif Nat.beq pc 4 then (.iload_n 2, 0, 2, []) else am_nop) else (bif Nat.beq pc 3 then (.istore_n 2, 0, 2, []) else am_nop))) else (bif Nat.ble 1 pc then (bif Nat.ble 2 pc then (bif Nat.beq pc 2 then (.iconst 0, 0, 0, []) else am_nop) else (bif Nat.beq pc 1 then (.istore_n 1, 0, 1, []) else am_nop)) else (bif Nat.beq pc 0 then (.iconst 0, 0, 0, []) else am_nop)))))
def m_M_underWay : MI := (k_M_underWay, [(7, 6, 0)], [(49, d_M_of 16), (53, d_M_arrival 16), (60, d_M_isRun 16)], [], [], [], [], 2, 43, some .int, fun _ => 0, 1)
def s_M_underWay_28 (h : HP) (v1 : Int32 × Int32) (v2 : Int32 × Int32) : (Int32 × Int32) ⊕ (Int32 × Int32) := (if v2.2 < (h.1 1 (am_ix 15)) then (.inl ((v2.1 + (if (v_M_isRun h v1.2) = 0 then (0 : Int32) else (if (v_M_isRun h v2.2) = 0 then (0 : Int32) else (if (v_M_of h v2.2 3) ≤ (v_M_of h v1.2 3) then (if (v_M_of h v1.2 3) < (v_M_arrival h v2.2) then (1 : Int32) else 0) else 0)))), (v2.2 + 1))) else (.inr (v2.1, v2.2)))
def ps_M_underWay_28 (h : HP) (v1 : Int32 × Int32) (v2 : Int32 × Int32) : Prop := ((v2.2 < (h.1 1 (am_ix 15)) → ((p_M_isRun h v1.2) ∧ (((v_M_isRun h v1.2) = 0 → True) ∧ (¬ (v_M_isRun h v1.2) = 0 → ((p_M_isRun h v2.2) ∧ (((v_M_isRun h v2.2) = 0 → True) ∧ (¬ (v_M_isRun h v2.2) = 0 → ((p_M_of h v2.2 3) ∧ (((v_M_of h v2.2 3) ≤ (v_M_of h v1.2 3) → (p_M_arrival h v2.2)) ∧ (¬ (v_M_of h v2.2 3) ≤ (v_M_of h v1.2 3) → True)))))))))) ∧ (¬ v2.2 < (h.1 1 (am_ix 15)) → True))
def s_M_underWay_4 (h : HP) (v1 : Int32 × Int32) : (Int32 × Int32) ⊕ (Int32 × Int32) := (if v1.2 < (h.1 1 (am_ix 15)) then (match itr (s_M_underWay_28 h v1) NF (0, 0) with | some r2 => (.inl ((if r2.1 ≤ v1.1 then v1.1 else r2.1), (v1.2 + 1))) | none => .inl v1) else (.inr (v1.1, v1.2)))
def ps_M_underWay_4 (h : HP) (v1 : Int32 × Int32) : Prop := ((v1.2 < (h.1 1 (am_ix 15)) → ((p_M_of h v1.2 3) ∧ (itrp (s_M_underWay_28 h v1) (ps_M_underWay_28 h v1) NF (0, 0)))) ∧ (¬ v1.2 < (h.1 1 (am_ix 15)) → True))
def v_M_underWay (h : HP) : Int32 := (match itr (s_M_underWay_4 h) NF (0, 0) with | some r1 => r1.1 | none => 0)
def p_M_underWay (h : HP) : Prop := (itrp (s_M_underWay_4 h) (ps_M_underWay_4 h) NF (0, 0))
def g_M_underWay (_ _ : List Sh) (as : List Value) (h : HP) : GR := match as with
  | [.ref o1] => (Nat.beq o1 0, p_M_underWay h, none, some (.int (v_M_underWay h)), h)
  | _ => bad h
def d_M_underWay (k : Nat) : CD := (k, yX6_underWay, cX6_underWay, 6, some .int, 1, 2, 43, 0, false, true, g_M_underWay)
theorem chk_M_underWay : ∀ pc, am_chk cX6_underWay k_M_underWay pc = true := am_chkall 115 (by decide +kernel) (fun pc h => by unfold k_M_underWay; rw [Nat.ble_eq_true_of_le h]; rfl)
theorem pf_M_underWay : plainFor yX6_underWay = true := by decide +kernel
theorem cu_M_underWay : Cond.code yX6_underWay cX6_underWay 6 (some .int) ∈ am_U := am_tb 1248 (by decide +kernel) rfl
set_option maxHeartbeats 20000000 in
set_option maxRecDepth 100000 in
theorem ev_M_underWay {e1 ro : List Sh} {P : AR → HP → Prop} (h : HP) (hp : p_M_underWay h) (hP : ∀ q, v_M_underWay h = q → RI P h q) : am_Ev m_M_underWay (WM ++ e1) ro P (0, [.ref 0, .retAddr 0, .retAddr 0, .retAddr 0, .retAddr 0, .retAddr 0], [], h) := by
  unfold p_M_underWay at hp
  refine am_Ev_G [4] 400 _ ?_
  show am_Ev m_M_underWay (WM ++ e1) ro P (4, [.ref 0, .int 0, .int 0, .retAddr 0, .retAddr 0, .retAddr 0], [], h)
  have hpl := hp
  refine am_itr (E := (fun (v1 : Int32 × Int32) => am_Ev m_M_underWay (WM ++ e1) ro P (4, [.ref 0, .int v1.1, .int v1.2, .retAddr 0, .retAddr 0, .retAddr 0], [], h))) (E' := (fun (r1 : Int32 × Int32) => am_Ev m_M_underWay (WM ++ e1) ro P (113, [.ref 0, .int r1.1, .int r1.2, .retAddr 0, .retAddr 0, .retAddr 0], [], h))) (s_M_underWay_4 h) (ps_M_underWay_4 h) ?_ NF (0, 0) hpl ?_
  · intro v1 hp hc1 hx1
    show am_Ev m_M_underWay (WM ++ e1) ro P (4, [.ref 0, .int v1.1, .int v1.2, .retAddr 0, .retAddr 0, .retAddr 0], [], h)
    unfold ps_M_underWay_4 at hp
    refine am_Ev_G [21, 113] 400 _ ?_
    show ((am_in 15 163) ∧ ((¬ v1.2 < (h.1 1 (am_ix 15)) → am_Ev m_M_underWay (WM ++ e1) ro P (113, [.ref 0, .int v1.1, .int v1.2, .retAddr 0, .retAddr 0, .retAddr 0], [], h)) ∧ (v1.2 < (h.1 1 (am_ix 15)) → ((p_M_of h v1.2 3) ∧ am_Ev m_M_underWay (WM ++ e1) ro P (21, [.ref 0, .int v1.1, .int v1.2, .retAddr 0, .retAddr 0, .retAddr 0], [.int (v_M_of h v1.2 3)], h)))))
    refine ⟨⟨by decide, by decide⟩, ?_⟩
    refine ⟨fun c1 => ?_, fun c1 => ?_⟩
    · skip
      exact hx1 (v1.1, v1.2) (by unfold s_M_underWay_4; simp only [if_neg c1])
    · have hp := hp.1 c1
      obtain ⟨hob, hp⟩ := hp
      refine ⟨hob, ?_⟩
      refine am_Ev_G [28] 400 _ ?_
      show am_Ev m_M_underWay (WM ++ e1) ro P (28, [.ref 0, .int v1.1, .int v1.2, .int (v_M_of h v1.2 3), .int 0, .int 0], [], h)
      have hpl := hp
      refine am_itr (E := (fun (v2 : Int32 × Int32) => am_Ev m_M_underWay (WM ++ e1) ro P (28, [.ref 0, .int v1.1, .int v1.2, .int (v_M_of h v1.2 3), .int v2.1, .int v2.2], [], h))) (E' := (fun (r2 : Int32 × Int32) => am_Ev m_M_underWay (WM ++ e1) ro P (94, [.ref 0, .int v1.1, .int v1.2, .int (v_M_of h v1.2 3), .int r2.1, .int r2.2], [], h))) (s_M_underWay_28 h v1) (ps_M_underWay_28 h v1) ?_ NF (0, 0) hpl ?_
      · intro v2 hp hc2 hx2
        show am_Ev m_M_underWay (WM ++ e1) ro P (28, [.ref 0, .int v1.1, .int v1.2, .int (v_M_of h v1.2 3), .int v2.1, .int v2.2], [], h)
        unfold ps_M_underWay_28 at hp
        refine am_Ev_G [47, 94] 400 _ ?_
        show ((am_in 15 163) ∧ ((¬ v2.2 < (h.1 1 (am_ix 15)) → am_Ev m_M_underWay (WM ++ e1) ro P (94, [.ref 0, .int v1.1, .int v1.2, .int (v_M_of h v1.2 3), .int v2.1, .int v2.2], [], h)) ∧ (v2.2 < (h.1 1 (am_ix 15)) → ((p_M_isRun h v1.2) ∧ am_Ev m_M_underWay (WM ++ e1) ro P (47, [.ref 0, .int v1.1, .int v1.2, .int (v_M_of h v1.2 3), .int v2.1, .int v2.2], [.int (v_M_isRun h v1.2), .int v2.1], h)))))
        refine ⟨⟨by decide, by decide⟩, ?_⟩
        refine ⟨fun c2 => ?_, fun c2 => ?_⟩
        · skip
          exact hx2 (v2.1, v2.2) (by unfold s_M_underWay_28; simp only [if_neg c2])
        · have hp := hp.1 c2
          obtain ⟨hob, hp⟩ := hp
          refine ⟨hob, ?_⟩
          have hpa := hp
          have key3 : am_Ev m_M_underWay (WM ++ e1) ro P (85, [.ref 0, .int v1.1, .int v1.2, .int (v_M_of h v1.2 3), .int v2.1, .int v2.2], [.int (if (v_M_isRun h v1.2) = 0 then (0 : Int32) else (if (v_M_isRun h v2.2) = 0 then (0 : Int32) else (if (v_M_of h v2.2 3) ≤ (v_M_of h v1.2 3) then (if (v_M_of h v1.2 3) < (v_M_arrival h v2.2) then (1 : Int32) else 0) else 0))), .int v2.1], h) := by
            refine am_Ev_G [28] 400 _ ?_
            show am_Ev m_M_underWay (WM ++ e1) ro P (28, [.ref 0, .int v1.1, .int v1.2, .int (v_M_of h v1.2 3), .int (v2.1 + (if (v_M_isRun h v1.2) = 0 then (0 : Int32) else (if (v_M_isRun h v2.2) = 0 then (0 : Int32) else (if (v_M_of h v2.2 3) ≤ (v_M_of h v1.2 3) then (if (v_M_of h v1.2 3) < (v_M_arrival h v2.2) then (1 : Int32) else 0) else 0)))), .int (v2.2 + 1)], [], h)
            exact hc2 ((v2.1 + (if (v_M_isRun h v1.2) = 0 then (0 : Int32) else (if (v_M_isRun h v2.2) = 0 then (0 : Int32) else (if (v_M_of h v2.2 3) ≤ (v_M_of h v1.2 3) then (if (v_M_of h v1.2 3) < (v_M_arrival h v2.2) then (1 : Int32) else 0) else 0)))), (v2.2 + 1)) (by unfold s_M_underWay_28; simp only [if_pos c2])
          have hp := hpa
          refine am_Ev_G [85] 400 _ ?_
          show (((v_M_isRun h v1.2) = 0 → am_Ev m_M_underWay (WM ++ e1) ro P (85, [.ref 0, .int v1.1, .int v1.2, .int (v_M_of h v1.2 3), .int v2.1, .int v2.2], [.int 0, .int v2.1], h)) ∧ (¬ (v_M_isRun h v1.2) = 0 → ((p_M_isRun h v2.2) ∧ (((v_M_isRun h v2.2) = 0 → am_Ev m_M_underWay (WM ++ e1) ro P (85, [.ref 0, .int v1.1, .int v1.2, .int (v_M_of h v1.2 3), .int v2.1, .int v2.2], [.int 0, .int v2.1], h)) ∧ (¬ (v_M_isRun h v2.2) = 0 → ((p_M_of h v2.2 3) ∧ ((¬ (v_M_of h v2.2 3) ≤ (v_M_of h v1.2 3) → am_Ev m_M_underWay (WM ++ e1) ro P (85, [.ref 0, .int v1.1, .int v1.2, .int (v_M_of h v1.2 3), .int v2.1, .int v2.2], [.int 0, .int v2.1], h)) ∧ ((v_M_of h v2.2 3) ≤ (v_M_of h v1.2 3) → ((p_M_arrival h v2.2) ∧ ((¬ (v_M_of h v1.2 3) < (v_M_arrival h v2.2) → am_Ev m_M_underWay (WM ++ e1) ro P (85, [.ref 0, .int v1.1, .int v1.2, .int (v_M_of h v1.2 3), .int v2.1, .int v2.2], [.int 0, .int v2.1], h)) ∧ ((v_M_of h v1.2 3) < (v_M_arrival h v2.2) → am_Ev m_M_underWay (WM ++ e1) ro P (85, [.ref 0, .int v1.1, .int v1.2, .int (v_M_of h v1.2 3), .int v2.1, .int v2.2], [.int 1, .int v2.1], h))))))))))))
          refine ⟨fun c4 => ?_, fun c4 => ?_⟩
          · skip
            simpa only [if_pos c4] using key3
          · have hp := hp.2 c4
            obtain ⟨hob, hp⟩ := hp
            refine ⟨hob, ?_⟩
            refine ⟨fun c5 => ?_, fun c5 => ?_⟩
            · skip
              simpa only [if_neg c4, if_pos c5] using key3
            · have hp := hp.2 c5
              obtain ⟨hob, hp⟩ := hp
              refine ⟨hob, ?_⟩
              refine ⟨fun c6 => ?_, fun c6 => ?_⟩
              · skip
                simpa only [if_neg c4, if_neg c5, if_neg c6] using key3
              · have hp := hp.1 c6
                refine ⟨hp, ?_⟩
                refine ⟨fun c7 => ?_, fun c7 => ?_⟩
                · skip
                  simpa only [if_neg c4, if_neg c5, if_pos c6, if_neg c7] using key3
                · skip
                  simpa only [if_neg c4, if_neg c5, if_pos c6, if_pos c7] using key3
      · intro r2 hr8
        show am_Ev m_M_underWay (WM ++ e1) ro P (94, [.ref 0, .int v1.1, .int v1.2, .int (v_M_of h v1.2 3), .int r2.1, .int r2.2], [], h)
        refine am_Ev_G [97] 400 _ ?_
        show am_Ev m_M_underWay (WM ++ e1) ro P (97, [.ref 0, .int v1.1, .int v1.2, .int (v_M_of h v1.2 3), .int r2.1, .int r2.2], [.int v1.1, .int r2.1], h)
        have key9 : am_Ev m_M_underWay (WM ++ e1) ro P (106, [.ref 0, .int v1.1, .int v1.2, .int (v_M_of h v1.2 3), .int r2.1, .int r2.2], [.int (if r2.1 ≤ v1.1 then v1.1 else r2.1)], h) := by
          refine am_Ev_G [4] 400 _ ?_
          show am_Ev m_M_underWay (WM ++ e1) ro P (4, [.ref 0, .int (if r2.1 ≤ v1.1 then v1.1 else r2.1), .int (v1.2 + 1), .int (v_M_of h v1.2 3), .int r2.1, .int r2.2], [], h)
          refine am_fg 3 ?_
          refine am_fg 4 ?_
          refine am_fg 5 ?_
          exact hc1 ((if r2.1 ≤ v1.1 then v1.1 else r2.1), (v1.2 + 1)) (by unfold s_M_underWay_4; simp only [if_pos c1, hr8])
        refine am_Ev_G [106] 400 _ ?_
        show ((r2.1 ≤ v1.1 → am_Ev m_M_underWay (WM ++ e1) ro P (106, [.ref 0, .int v1.1, .int v1.2, .int (v_M_of h v1.2 3), .int r2.1, .int r2.2], [.int v1.1], h)) ∧ (¬ r2.1 ≤ v1.1 → am_Ev m_M_underWay (WM ++ e1) ro P (106, [.ref 0, .int v1.1, .int v1.2, .int (v_M_of h v1.2 3), .int r2.1, .int r2.2], [.int r2.1], h)))
        refine ⟨fun c10 => ?_, fun c10 => ?_⟩
        · skip
          simpa only [if_pos c10] using key9
        · skip
          simpa only [if_neg c10] using key9
  · intro r1 hr11
    show am_Ev m_M_underWay (WM ++ e1) ro P (113, [.ref 0, .int r1.1, .int r1.2, .retAddr 0, .retAddr 0, .retAddr 0], [], h)
    refine am_Ev_G [] 400 _ ?_
    show P (.inl (some (.int r1.1))) h
    exact hP r1.1 (by unfold v_M_underWay; simp only [hr11])
theorem ok_M_underWay {l : Launch} (hl : l.stackTraces = false) (e1 ro : List Sh) (k : Nat) : am_Ok l (WM ++ e1) ro (d_M_underWay k) := by
  refine am_met hl (own := RX6) (M := m_M_underWay) rfl pf_M_underWay cu_M_underWay rfl rfl rfl rfl (fun _ => rfl) rfl ⟨chk_M_underWay, (am_c (fl_M_7) am_n), (am_c (lk_M_49) (am_c (lk_M_53) (am_c (lk_M_60) am_n))), (am_n), (am_n)⟩ (am_n) (am_c (ok_M_of hl e1 _ 16) (am_c (ok_M_arrival hl e1 _ 16) (am_c (ok_M_isRun hl e1 _ 16) am_n))) (fun z => nomatch z) ?_ ?_
  · intro _ as h hg
    show g_thr (g_M_underWay (WM ++ e1) ro as h) = none
    unfold g_M_underWay
    split <;> rfl
  · intro as h hg hp
    revert hg hp
    show g_ok (g_M_underWay (WM ++ e1) ro as h) = true → g_pre (g_M_underWay (WM ++ e1) ro as h) → _ ∧ am_Ev m_M_underWay (WM ++ e1) ro (am_eq (g_M_underWay (WM ++ e1) ro as h)) (0, am_ent as 6, [], h)
    unfold g_M_underWay
    split
    · rename_i o1
      intro hc hp
      change (Nat.beq o1 0) = true at hc
      obtain rfl := am_beq hc
      exact ⟨Nat.le_of_ble_eq_true rfl, ev_M_underWay h hp eqRI⟩
    · exact fun z => nomatch z
def k_M_running (pc : Nat) : Ent := bif Nat.ble 39 pc then am_nop else bif Nat.ble 17 pc then (bif Nat.ble 29 pc then (bif Nat.ble 34 pc then (bif Nat.ble 37 pc then (bif Nat.ble 38 pc then (bif Nat.beq pc 38 then (.ireturn, 0, 0, []) else am_nop) else (bif Nat.beq pc 37 then (.iload_n 1, 0, 1, []) else am_nop)) else (bif Nat.beq pc 34 then (.goto (-30), 0, 4, []) else am_nop)) else (bif Nat.ble 30 pc then (bif Nat.ble 31 pc then (bif Nat.beq pc 31 then (.iinc 2 1, 1, 2, []) else am_nop) else (bif Nat.beq pc 30 then (.istore_n 1, 0, 1, []) else am_nop)) else (bif Nat.beq pc 29 then (.iadd, 0, 0, []) else am_nop))) else (bif Nat.ble 24 pc then (bif Nat.ble 25 pc then (bif Nat.ble 28 pc then (bif Nat.beq pc 28 then (.iconst 0, 0, 0, []) else am_nop) else (bif Nat.beq pc 25 then (.goto 4, 0, 29, []) else am_nop)) else (bif Nat.beq pc 24 then (.iconst 1, 1, 0, []) else am_nop)) else (bif Nat.ble 18 pc then (bif Nat.ble 21 pc then (bif Nat.beq pc 21 then (.ifCond .eq 7, 0, 28, []) else am_nop) else (bif Nat.beq pc 18 then (.invokevirtual 60, 0, 0, []) else am_nop)) else (bif Nat.beq pc 17 then (.iload_n 2, 0, 2, []) else am_nop)))) else (bif Nat.ble 6 pc then (bif Nat.ble 12 pc then (bif Nat.ble 15 pc then (bif Nat.ble 16 pc then (bif Nat.beq pc 16 then (.aload_n 0, 0, 0, []) else am_nop) else (bif Nat.beq pc 15 then (.iload_n 1, 0, 1, []) else am_nop)) else (bif Nat.beq pc 12 then (.if_icmp .ge 25, 0, 37, []) else am_nop)) else (bif Nat.ble 9 pc then (bif Nat.ble 11 pc then (bif Nat.beq pc 11 then (.iaload, 0, 0, []) else am_nop) else (bif Nat.beq pc 9 then (.bipush 15, 15, 0, []) else am_nop)) else (bif Nat.beq pc 6 then (.getfield 7, 0, 0, []) else am_nop))) else (bif Nat.ble 3 pc then (bif Nat.ble 4 pc then (bif Nat.ble 5 pc then (bif Nat.beq pc 5 then (.aload_n 0, 0, 0, []) else am_nop) else (bif Nat.beq pc 4 then (.iload_n 2, 0, 2, []) else am_nop)) else (bif Nat.beq pc 3 then (.istore_n 2, 0, 2, []) else am_nop)) else (bif Nat.ble 1 pc then (bif Nat.ble 2 pc then (bif Nat.beq pc 2 then (.iconst 0, 0, 0, []) else am_nop) else (bif Nat.beq pc 1 then (.istore_n 1, 0, 1, []) else am_nop)) else (bif Nat.beq pc 0 then (.iconst 0, 0, 0, []) else am_nop))))
def m_M_running : MI := (k_M_running, [(7, 6, 0)], [(60, d_M_isRun 16)], [], [], [], [], 2, 43, some .int, fun _ => 0, 1)
def s_M_running_4 (h : HP) (v1 : Int32 × Int32) : (Int32 × Int32) ⊕ (Int32 × Int32) := (if v1.2 < (h.1 1 (am_ix 15)) then (.inl ((v1.1 + (if (v_M_isRun h v1.2) = 0 then (0 : Int32) else 1)), (v1.2 + 1))) else (.inr (v1.1, v1.2)))
def ps_M_running_4 (h : HP) (v1 : Int32 × Int32) : Prop := ((v1.2 < (h.1 1 (am_ix 15)) → (p_M_isRun h v1.2)) ∧ (¬ v1.2 < (h.1 1 (am_ix 15)) → True))
def v_M_running (h : HP) : Int32 := (match itr (s_M_running_4 h) NF (0, 0) with | some r1 => r1.1 | none => 0)
def p_M_running (h : HP) : Prop := (itrp (s_M_running_4 h) (ps_M_running_4 h) NF (0, 0))
def g_M_running (_ _ : List Sh) (as : List Value) (h : HP) : GR := match as with
  | [.ref o1] => (Nat.beq o1 0, p_M_running h, none, some (.int (v_M_running h)), h)
  | _ => bad h
def d_M_running (k : Nat) : CD := (k, yX6_running, cX6_running, 3, some .int, 1, 2, 43, 0, false, true, g_M_running)
theorem chk_M_running : ∀ pc, am_chk cX6_running k_M_running pc = true := am_chkall 39 (by decide +kernel) (fun pc h => by unfold k_M_running; rw [Nat.ble_eq_true_of_le h]; rfl)
theorem pf_M_running : plainFor yX6_running = true := by decide +kernel
theorem cu_M_running : Cond.code yX6_running cX6_running 3 (some .int) ∈ am_U := am_tb 1236 (by decide +kernel) rfl
set_option maxHeartbeats 20000000 in
set_option maxRecDepth 100000 in
theorem ev_M_running {e1 ro : List Sh} {P : AR → HP → Prop} (h : HP) (hp : p_M_running h) (hP : ∀ q, v_M_running h = q → RI P h q) : am_Ev m_M_running (WM ++ e1) ro P (0, [.ref 0, .retAddr 0, .retAddr 0], [], h) := by
  unfold p_M_running at hp
  refine am_Ev_G [4] 400 _ ?_
  show am_Ev m_M_running (WM ++ e1) ro P (4, [.ref 0, .int 0, .int 0], [], h)
  have hpl := hp
  refine am_itr (E := (fun (v1 : Int32 × Int32) => am_Ev m_M_running (WM ++ e1) ro P (4, [.ref 0, .int v1.1, .int v1.2], [], h))) (E' := (fun (r1 : Int32 × Int32) => am_Ev m_M_running (WM ++ e1) ro P (37, [.ref 0, .int r1.1, .int r1.2], [], h))) (s_M_running_4 h) (ps_M_running_4 h) ?_ NF (0, 0) hpl ?_
  · intro v1 hp hc1 hx1
    show am_Ev m_M_running (WM ++ e1) ro P (4, [.ref 0, .int v1.1, .int v1.2], [], h)
    unfold ps_M_running_4 at hp
    refine am_Ev_G [21, 37] 400 _ ?_
    show ((am_in 15 163) ∧ ((¬ v1.2 < (h.1 1 (am_ix 15)) → am_Ev m_M_running (WM ++ e1) ro P (37, [.ref 0, .int v1.1, .int v1.2], [], h)) ∧ (v1.2 < (h.1 1 (am_ix 15)) → ((p_M_isRun h v1.2) ∧ am_Ev m_M_running (WM ++ e1) ro P (21, [.ref 0, .int v1.1, .int v1.2], [.int (v_M_isRun h v1.2), .int v1.1], h)))))
    refine ⟨⟨by decide, by decide⟩, ?_⟩
    refine ⟨fun c1 => ?_, fun c1 => ?_⟩
    · skip
      exact hx1 (v1.1, v1.2) (by unfold s_M_running_4; simp only [if_neg c1])
    · have hp := hp.1 c1
      refine ⟨hp, ?_⟩
      have key2 : am_Ev m_M_running (WM ++ e1) ro P (29, [.ref 0, .int v1.1, .int v1.2], [.int (if (v_M_isRun h v1.2) = 0 then (0 : Int32) else 1), .int v1.1], h) := by
        refine am_Ev_G [4] 400 _ ?_
        show am_Ev m_M_running (WM ++ e1) ro P (4, [.ref 0, .int (v1.1 + (if (v_M_isRun h v1.2) = 0 then (0 : Int32) else 1)), .int (v1.2 + 1)], [], h)
        exact hc1 ((v1.1 + (if (v_M_isRun h v1.2) = 0 then (0 : Int32) else 1)), (v1.2 + 1)) (by unfold s_M_running_4; simp only [if_pos c1])
      refine am_Ev_G [29] 400 _ ?_
      show (((v_M_isRun h v1.2) = 0 → am_Ev m_M_running (WM ++ e1) ro P (29, [.ref 0, .int v1.1, .int v1.2], [.int 0, .int v1.1], h)) ∧ (¬ (v_M_isRun h v1.2) = 0 → am_Ev m_M_running (WM ++ e1) ro P (29, [.ref 0, .int v1.1, .int v1.2], [.int 1, .int v1.1], h)))
      refine ⟨fun c3 => ?_, fun c3 => ?_⟩
      · skip
        simpa only [if_pos c3] using key2
      · skip
        simpa only [if_neg c3] using key2
  · intro r1 hr4
    show am_Ev m_M_running (WM ++ e1) ro P (37, [.ref 0, .int r1.1, .int r1.2], [], h)
    refine am_Ev_G [] 400 _ ?_
    show P (.inl (some (.int r1.1))) h
    exact hP r1.1 (by unfold v_M_running; simp only [hr4])
theorem ok_M_running {l : Launch} (hl : l.stackTraces = false) (e1 ro : List Sh) (k : Nat) : am_Ok l (WM ++ e1) ro (d_M_running k) := by
  refine am_met hl (own := RX6) (M := m_M_running) rfl pf_M_running cu_M_running rfl rfl rfl rfl (fun _ => rfl) rfl ⟨chk_M_running, (am_c (fl_M_7) am_n), (am_c (lk_M_60) am_n), (am_n), (am_n)⟩ (am_n) (am_c (ok_M_isRun hl e1 _ 16) am_n) (fun z => nomatch z) ?_ ?_
  · intro _ as h hg
    show g_thr (g_M_running (WM ++ e1) ro as h) = none
    unfold g_M_running
    split <;> rfl
  · intro as h hg hp
    revert hg hp
    show g_ok (g_M_running (WM ++ e1) ro as h) = true → g_pre (g_M_running (WM ++ e1) ro as h) → _ ∧ am_Ev m_M_running (WM ++ e1) ro (am_eq (g_M_running (WM ++ e1) ro as h)) (0, am_ent as 3, [], h)
    unfold g_M_running
    split
    · rename_i o1
      intro hc hp
      change (Nat.beq o1 0) = true at hc
      obtain rfl := am_beq hc
      exact ⟨Nat.le_of_ble_eq_true rfl, ev_M_running h hp eqRI⟩
    · exact fun z => nomatch z
def k_M_counted (pc : Nat) : Ent := bif Nat.ble 124 pc then am_nop else bif Nat.ble 90 pc then (bif Nat.ble 107 pc then (bif Nat.ble 114 pc then (bif Nat.ble 119 pc then (bif Nat.ble 120 pc then (bif Nat.ble 123 pc then (bif Nat.beq pc 123 then (.ireturn, 0, 0, []) else am_nop) else (bif Nat.beq pc 120 then (.getfield 42, 0, 0, []) else am_nop)) else (bif Nat.beq pc 119 then (.aload_n 0, 0, 0, []) else am_nop)) else (bif Nat.ble 115 pc then (bif Nat.ble 118 pc then (bif Nat.beq pc 118 then (.ireturn, 0, 0, []) else am_nop) else (bif Nat.beq pc 115 then (.invokevirtual 242, 0, 0, []) else am_nop)) else (bif Nat.beq pc 114 then (.aload_n 0, 0, 0, []) else am_nop))) else (bif Nat.ble 109 pc then (bif Nat.ble 110 pc then (bif Nat.ble 113 pc then (bif Nat.beq pc 113 then (.ireturn, 0, 0, []) else am_nop) else (bif Nat.beq pc 110 then (.invokevirtual 239, 0, 0, []) else am_nop)) else (bif Nat.beq pc 109 then (.aload_n 0, 0, 0, []) else am_nop)) else (bif Nat.ble 108 pc then (bif Nat.beq pc 108 then (.ireturn, 0, 0, []) else am_nop) else (bif Nat.beq pc 107 then (.iaload, 0, 0, []) else am_nop)))) else (bif Nat.ble 97 pc then (bif Nat.ble 103 pc then (bif Nat.ble 104 pc then (bif Nat.ble 106 pc then (bif Nat.beq pc 106 then (.isub, 0, 0, []) else am_nop) else (bif Nat.beq pc 104 then (.bipush 6, 6, 0, []) else am_nop)) else (bif Nat.beq pc 103 then (.iadd, 0, 0, []) else am_nop)) else (bif Nat.ble 100 pc then (bif Nat.ble 102 pc then (bif Nat.beq pc 102 then (.iload_n 1, 0, 1, []) else am_nop) else (bif Nat.beq pc 100 then (.bipush 13, 13, 0, []) else am_nop)) else (bif Nat.beq pc 97 then (.getfield 7, 0, 0, []) else am_nop))) else (bif Nat.ble 92 pc then (bif Nat.ble 95 pc then (bif Nat.ble 96 pc then (bif Nat.beq pc 96 then (.aload_n 0, 0, 0, []) else am_nop) else (bif Nat.beq pc 95 then (.ireturn, 0, 0, []) else am_nop)) else (bif Nat.beq pc 92 then (.invokevirtual 157, 0, 0, []) else am_nop)) else (bif Nat.ble 91 pc then (bif Nat.beq pc 91 then (.aload_n 0, 0, 0, []) else am_nop) else (bif Nat.beq pc 90 then (.ireturn, 0, 0, []) else am_nop))))) else (bif Nat.ble 70 pc then (bif Nat.ble 79 pc then (bif Nat.ble 84 pc then (bif Nat.ble 86 pc then (bif Nat.ble 87 pc then (bif Nat.beq pc 87 then (.invokevirtual 236, 0, 0, []) else am_nop) else (bif Nat.beq pc 86 then (.iaload, 0, 0, []) else am_nop)) else (bif Nat.beq pc 84 then (.bipush 15, 15, 0, []) else am_nop)) else (bif Nat.ble 80 pc then (bif Nat.ble 81 pc then (bif Nat.beq pc 81 then (.getfield 7, 0, 0, []) else am_nop) else (bif Nat.beq pc 80 then (.aload_n 0, 0, 0, []) else am_nop)) else (bif Nat.beq pc 79 then (.aload_n 0, 0, 0, []) else am_nop))) else (bif Nat.ble 74 pc then (bif Nat.ble 75 pc then (bif Nat.ble 78 pc then (bif Nat.beq pc 78 then (.ireturn, 0, 0, []) else am_nop) else (bif Nat.beq pc 75 then (.invokevirtual 233, 0, 0, []) else am_nop)) else (bif Nat.beq pc 74 then (.aload_n 0, 0, 0, []) else am_nop)) else (bif Nat.ble 73 pc then (bif Nat.beq pc 73 then (.ireturn, 0, 0, []) else am_nop) else (bif Nat.beq pc 70 then (.invokevirtual 93, 0, 0, []) else am_nop)))) else (bif Nat.ble 62 pc then (bif Nat.ble 65 pc then (bif Nat.ble 68 pc then (bif Nat.ble 69 pc then (bif Nat.beq pc 69 then (.aload_n 0, 0, 0, []) else am_nop) else (bif Nat.beq pc 68 then (.ireturn, 0, 0, []) else am_nop)) else (bif Nat.beq pc 65 then (.invokevirtual 230, 0, 0, []) else am_nop)) else (bif Nat.ble 63 pc then (bif Nat.ble 64 pc then (bif Nat.beq pc 64 then (.aload_n 0, 0, 0, []) else am_nop) else (bif Nat.beq pc 63 then (.ireturn, 0, 0, []) else am_nop)) else (bif Nat.beq pc 62 then (.iaload, 0, 0, []) else am_nop))) else (bif Nat.ble 56 pc then (bif Nat.ble 57 pc then (bif Nat.ble 60 pc then (bif Nat.beq pc 60 then (.bipush 15, 15, 0, []) else am_nop) else (bif Nat.beq pc 57 then (.getfield 7, 0, 0, []) else am_nop)) else (bif Nat.beq pc 56 then (.aload_n 0, 0, 0, []) else am_nop)) else (bif Nat.ble 1 pc then (bif Nat.beq pc 1 then (.tableswitch 118 0 9 #[55, 63, 68, 73, 78, 90, 95, 95, 108, 113], 0, 119, [(0, 56), (1, 64), (2, 69), (3, 74), (4, 79), (5, 91), (6, 96), (7, 96), (8, 109), (9, 114)]) else am_nop) else (bif Nat.beq pc 0 then (.iload_n 1, 0, 1, []) else am_nop)))))
theorem lk_M_230 : am_lnk RX6 230 (d_M_running 16) := ⟨⟨by decide, by decide⟩, am_tb 8 (by decide +kernel) rfl, Or.inr ⟨by decide, rfl, am_tb 1235 (by decide +kernel) rfl, am_tp 118 (by decide +kernel) rfl, ⟨TX6, 16, rfl⟩, Or.inl (am_tb 1233 (by decide +kernel) rfl)⟩⟩
theorem lk_M_233 : am_lnk RX6 233 (d_M_byBlocks 16) := ⟨⟨by decide, by decide⟩, am_tb 8 (by decide +kernel) rfl, Or.inr ⟨by decide, rfl, am_tb 1239 (by decide +kernel) rfl, am_tp 119 (by decide +kernel) rfl, ⟨TX6, 16, rfl⟩, Or.inl (am_tb 1237 (by decide +kernel) rfl)⟩⟩
theorem lk_M_236 : am_lnk RX6 236 (d_M_byDeficits 16) := ⟨⟨by decide, by decide⟩, am_tb 8 (by decide +kernel) rfl, Or.inr ⟨by decide, rfl, am_tb 1243 (by decide +kernel) rfl, am_tp 120 (by decide +kernel) rfl, ⟨TX6, 16, rfl⟩, Or.inl (am_tb 1241 (by decide +kernel) rfl)⟩⟩
theorem lk_M_239 : am_lnk RX6 239 (d_M_underWay 16) := ⟨⟨by decide, by decide⟩, am_tb 8 (by decide +kernel) rfl, Or.inr ⟨by decide, rfl, am_tb 1247 (by decide +kernel) rfl, am_tp 121 (by decide +kernel) rfl, ⟨TX6, 16, rfl⟩, Or.inl (am_tb 1245 (by decide +kernel) rfl)⟩⟩
theorem lk_M_242 : am_lnk RX6 242 (d_M_duties 16) := ⟨⟨by decide, by decide⟩, am_tb 8 (by decide +kernel) rfl, Or.inr ⟨by decide, rfl, am_tb 1251 (by decide +kernel) rfl, am_tp 122 (by decide +kernel) rfl, ⟨TX6, 16, rfl⟩, Or.inl (am_tb 1249 (by decide +kernel) rfl)⟩⟩
def m_M_counted : MI := (k_M_counted, [(7, 6, 0), (42, 6, 3)], [(93, d_M_blocks 16), (157, d_M_spares 16), (230, d_M_running 16), (233, d_M_byBlocks 16), (236, d_M_byDeficits 16), (239, d_M_underWay 16), (242, d_M_duties 16)], [], [], [], [], 7, 160, some .int, fun _ => 0, 1)
def v_M_counted (h : HP) (a1 : Int32) : Int32 × HP := (if a1 = 0 then (h.1 1 (am_ix 15), h) else (if a1 = 1 then ((v_M_running h), h) else (if a1 = 2 then ((v_M_blocks h), h) else (if a1 = 3 then (bnd (v_M_byBlocks h) fun y1 => (y1.1, y1.2)) else (if a1 = 4 then ((v_M_byDeficits h (h.1 1 (am_ix 15))), h) else (if a1 = 5 then ((v_M_spares h), h) else (if a1 = 6 then (h.1 1 (am_ix ((13 + a1) - 6)), h) else (if a1 = 7 then (h.1 1 (am_ix ((13 + a1) - 6)), h) else (if a1 = 8 then ((v_M_underWay h), h) else (if a1 = 9 then (bnd (v_M_duties h) fun y2 => (y2.1, y2.2)) else (h.1 0 3, h)))))))))))
def p_M_counted (h : HP) (a1 : Int32) : Prop := ((a1 = 0 → True) ∧ (¬ a1 = 0 → ((a1 = 1 → (p_M_running h)) ∧ (¬ a1 = 1 → ((a1 = 2 → (p_M_blocks h)) ∧ (¬ a1 = 2 → ((a1 = 3 → (p_M_byBlocks h)) ∧ (¬ a1 = 3 → ((a1 = 4 → (p_M_byDeficits h (h.1 1 (am_ix 15)))) ∧ (¬ a1 = 4 → ((a1 = 5 → True) ∧ (¬ a1 = 5 → ((a1 = 6 → (am_in ((13 + a1) - 6) 163)) ∧ (¬ a1 = 6 → ((a1 = 7 → (am_in ((13 + a1) - 6) 163)) ∧ (¬ a1 = 7 → ((a1 = 8 → (p_M_underWay h)) ∧ (¬ a1 = 8 → ((a1 = 9 → (p_M_duties h)) ∧ (¬ a1 = 9 → True))))))))))))))))))))
def g_M_counted (_ _ : List Sh) (as : List Value) (h : HP) : GR := match as with
  | [.ref o1, .int a1] => (Nat.beq o1 0, p_M_counted h a1, none, some (.int (v_M_counted h a1).1), (v_M_counted h a1).2)
  | _ => bad h
def d_M_counted (k : Nat) : CD := (k, yX6_counted, cX6_counted, 2, some .int, 2, 7, 160, 0, false, true, g_M_counted)
theorem chk_M_counted : ∀ pc, am_chk cX6_counted k_M_counted pc = true := am_chkall 124 (by decide +kernel) (fun pc h => by unfold k_M_counted; rw [Nat.ble_eq_true_of_le h]; rfl)
theorem pf_M_counted : plainFor yX6_counted = true := by decide +kernel
theorem cu_M_counted : Cond.code yX6_counted cX6_counted 2 (some .int) ∈ am_U := am_tb 1232 (by decide +kernel) rfl
set_option maxHeartbeats 20000000 in
set_option maxRecDepth 100000 in
theorem ev_M_counted {e1 ro : List Sh} {P : AR → HP → Prop} (h : HP) (a1 : Int32) (hp : p_M_counted h a1) (hP : ∀ q, v_M_counted h a1 = q → RIW P h q) : am_Ev m_M_counted (WM ++ e1) ro P (0, [.ref 0, .int a1], [], h) := by
  unfold p_M_counted at hp
  refine am_Ev_G [68, 78, 90, 113, 118] 400 _ ?_
  show ((a1 = 0 → ((am_in 15 163) ∧ P (.inl (some (.int (h.1 1 (am_ix 15))))) h)) ∧ (¬ a1 = 0 → ((a1 = 1 → ((p_M_running h) ∧ am_Ev m_M_counted (WM ++ e1) ro P (68, [.ref 0, .int a1], [.int (v_M_running h)], h))) ∧ (¬ a1 = 1 → ((a1 = 2 → ((p_M_blocks h) ∧ P (.inl (some (.int (v_M_blocks h)))) h)) ∧ (¬ a1 = 2 → ((a1 = 3 → ((p_M_byBlocks h) ∧ am_Ev m_M_counted (WM ++ e1) ro P (78, [.ref 0, .int a1], [.int ((v_M_byBlocks h).1)], ((v_M_byBlocks h).2)))) ∧ (¬ a1 = 3 → ((a1 = 4 → ((am_in 15 163) ∧ ((p_M_byDeficits h (h.1 1 (am_ix 15))) ∧ am_Ev m_M_counted (WM ++ e1) ro P (90, [.ref 0, .int a1], [.int (v_M_byDeficits h (h.1 1 (am_ix 15)))], h)))) ∧ (¬ a1 = 4 → ((a1 = 5 → P (.inl (some (.int (v_M_spares h)))) h) ∧ (¬ a1 = 5 → ((a1 = 6 → ((am_in ((13 + a1) - 6) 163) ∧ P (.inl (some (.int (h.1 1 (am_ix ((13 + a1) - 6)))))) h)) ∧ (¬ a1 = 6 → ((a1 = 7 → ((am_in ((13 + a1) - 6) 163) ∧ P (.inl (some (.int (h.1 1 (am_ix ((13 + a1) - 6)))))) h)) ∧ (¬ a1 = 7 → ((a1 = 8 → ((p_M_underWay h) ∧ am_Ev m_M_counted (WM ++ e1) ro P (113, [.ref 0, .int a1], [.int (v_M_underWay h)], h))) ∧ (¬ a1 = 8 → ((a1 = 9 → ((p_M_duties h) ∧ am_Ev m_M_counted (WM ++ e1) ro P (118, [.ref 0, .int a1], [.int ((v_M_duties h).1)], ((v_M_duties h).2)))) ∧ (¬ a1 = 9 → P (.inl (some (.int (h.1 0 3)))) h))))))))))))))))))))
  refine ⟨fun c1 => ?_, fun c1 => ?_⟩
  · skip
    refine ⟨⟨by decide, by decide⟩, ?_⟩
    exact hP (h.1 1 (am_ix 15), h) (by unfold v_M_counted; simp only [if_pos c1])
  · have hp := hp.2 c1
    refine ⟨fun c2 => ?_, fun c2 => ?_⟩
    · have hp := hp.1 c2
      refine ⟨hp, ?_⟩
      refine am_Ev_G [] 400 _ ?_
      show P (.inl (some (.int (v_M_running h)))) h
      exact hP ((v_M_running h), h) (by unfold v_M_counted; simp only [if_neg c1, if_pos c2])
    · have hp := hp.2 c2
      refine ⟨fun c3 => ?_, fun c3 => ?_⟩
      · have hp := hp.1 c3
        refine ⟨hp, ?_⟩
        exact hP ((v_M_blocks h), h) (by unfold v_M_counted; simp only [if_neg c1, if_neg c2, if_pos c3])
      · have hp := hp.2 c3
        refine ⟨fun c4 => ?_, fun c4 => ?_⟩
        · have hp := hp.1 c4
          refine ⟨hp, ?_⟩
          obtain ⟨y1, c5⟩ : ∃ y, v_M_byBlocks h = y := ⟨_, rfl⟩
          rw [c5]
          show am_Ev m_M_counted (WM ++ e1) ro P (78, [.ref 0, .int a1], [.int y1.1], y1.2)
          refine am_Ev_G [] 400 _ ?_
          show P (.inl (some (.int y1.1))) y1.2
          exact hP (y1.1, y1.2) (by unfold v_M_counted; simp only [if_neg c1, if_neg c2, if_neg c3, if_pos c4, bnd, c5])
        · have hp := hp.2 c4
          refine ⟨fun c6 => ?_, fun c6 => ?_⟩
          · have hp := hp.1 c6
            refine ⟨⟨by decide, by decide⟩, ?_⟩
            refine ⟨hp, ?_⟩
            refine am_Ev_G [] 400 _ ?_
            show P (.inl (some (.int (v_M_byDeficits h (h.1 1 (am_ix 15)))))) h
            exact hP ((v_M_byDeficits h (h.1 1 (am_ix 15))), h) (by unfold v_M_counted; simp only [if_neg c1, if_neg c2, if_neg c3, if_neg c4, if_pos c6])
          · have hp := hp.2 c6
            refine ⟨fun c7 => ?_, fun c7 => ?_⟩
            · skip
              exact hP ((v_M_spares h), h) (by unfold v_M_counted; simp only [if_neg c1, if_neg c2, if_neg c3, if_neg c4, if_neg c6, if_pos c7])
            · have hp := hp.2 c7
              refine ⟨fun c8 => ?_, fun c8 => ?_⟩
              · have hp := hp.1 c8
                refine ⟨hp, ?_⟩
                exact hP (h.1 1 (am_ix ((13 + a1) - 6)), h) (by unfold v_M_counted; simp only [if_neg c1, if_neg c2, if_neg c3, if_neg c4, if_neg c6, if_neg c7, if_pos c8])
              · have hp := hp.2 c8
                refine ⟨fun c9 => ?_, fun c9 => ?_⟩
                · have hp := hp.1 c9
                  refine ⟨hp, ?_⟩
                  exact hP (h.1 1 (am_ix ((13 + a1) - 6)), h) (by unfold v_M_counted; simp only [if_neg c1, if_neg c2, if_neg c3, if_neg c4, if_neg c6, if_neg c7, if_neg c8, if_pos c9])
                · have hp := hp.2 c9
                  refine ⟨fun c10 => ?_, fun c10 => ?_⟩
                  · have hp := hp.1 c10
                    refine ⟨hp, ?_⟩
                    refine am_Ev_G [] 400 _ ?_
                    show P (.inl (some (.int (v_M_underWay h)))) h
                    exact hP ((v_M_underWay h), h) (by unfold v_M_counted; simp only [if_neg c1, if_neg c2, if_neg c3, if_neg c4, if_neg c6, if_neg c7, if_neg c8, if_neg c9, if_pos c10])
                  · have hp := hp.2 c10
                    refine ⟨fun c11 => ?_, fun c11 => ?_⟩
                    · have hp := hp.1 c11
                      refine ⟨hp, ?_⟩
                      obtain ⟨y2, c12⟩ : ∃ y, v_M_duties h = y := ⟨_, rfl⟩
                      rw [c12]
                      show am_Ev m_M_counted (WM ++ e1) ro P (118, [.ref 0, .int a1], [.int y2.1], y2.2)
                      refine am_Ev_G [] 400 _ ?_
                      show P (.inl (some (.int y2.1))) y2.2
                      exact hP (y2.1, y2.2) (by unfold v_M_counted; simp only [if_neg c1, if_neg c2, if_neg c3, if_neg c4, if_neg c6, if_neg c7, if_neg c8, if_neg c9, if_neg c10, if_pos c11, bnd, c12])
                    · skip
                      exact hP (h.1 0 3, h) (by unfold v_M_counted; simp only [if_neg c1, if_neg c2, if_neg c3, if_neg c4, if_neg c6, if_neg c7, if_neg c8, if_neg c9, if_neg c10, if_neg c11])
theorem ok_M_counted {l : Launch} (hl : l.stackTraces = false) (e1 ro : List Sh) (k : Nat) : am_Ok l (WM ++ e1) ro (d_M_counted k) := by
  refine am_met hl (own := RX6) (M := m_M_counted) rfl pf_M_counted cu_M_counted rfl rfl rfl rfl (fun _ => rfl) rfl ⟨chk_M_counted, (am_c (fl_M_7) (am_c (fl_M_42) am_n)), (am_c (lk_M_93) (am_c (lk_M_157) (am_c (lk_M_230) (am_c (lk_M_233) (am_c (lk_M_236) (am_c (lk_M_239) (am_c (lk_M_242) am_n))))))), (am_n), (am_n)⟩ (am_n) (am_c (ok_M_blocks hl e1 _ 16) (am_c (ok_M_spares hl e1 _ 16) (am_c (ok_M_running hl e1 _ 16) (am_c (ok_M_byBlocks hl e1 _ 16) (am_c (ok_M_byDeficits hl e1 _ 16) (am_c (ok_M_underWay hl e1 _ 16) (am_c (ok_M_duties hl e1 _ 16) am_n))))))) (fun z => nomatch z) ?_ ?_
  · intro _ as h hg
    show g_thr (g_M_counted (WM ++ e1) ro as h) = none
    unfold g_M_counted
    split <;> rfl
  · intro as h hg hp
    revert hg hp
    show g_ok (g_M_counted (WM ++ e1) ro as h) = true → g_pre (g_M_counted (WM ++ e1) ro as h) → _ ∧ am_Ev m_M_counted (WM ++ e1) ro (am_eq (g_M_counted (WM ++ e1) ro as h)) (0, am_ent as 2, [], h)
    unfold g_M_counted
    split
    · rename_i o1 a1
      intro hc hp
      change (Nat.beq o1 0) = true at hc
      obtain rfl := am_beq hc
      exact ⟨Nat.le_of_ble_eq_true rfl, ev_M_counted h a1 hp eqRIW⟩
    · exact fun z => nomatch z
def k_M_count (pc : Nat) : Ent := bif Nat.ble 29 pc then am_nop else bif Nat.ble 15 pc then (bif Nat.ble 23 pc then (bif Nat.ble 25 pc then (bif Nat.ble 28 pc then (bif Nat.beq pc 28 then (.ireturn, 0, 0, []) else am_nop) else (bif Nat.beq pc 25 then (.invokevirtual 134, 0, 0, []) else am_nop)) else (bif Nat.ble 24 pc then (bif Nat.beq pc 24 then (.iconst 1, 1, 0, []) else am_nop) else (bif Nat.beq pc 23 then (.aload_n 0, 0, 0, []) else am_nop))) else (bif Nat.ble 17 pc then (bif Nat.ble 20 pc then (bif Nat.beq pc 20 then (.goto 8, 0, 28, []) else am_nop) else (bif Nat.beq pc 17 then (.invokevirtual 245, 0, 0, []) else am_nop)) else (bif Nat.ble 16 pc then (bif Nat.beq pc 16 then (.iload_n 1, 0, 1, []) else am_nop) else (bif Nat.beq pc 15 then (.aload_n 0, 0, 0, []) else am_nop)))) else (bif Nat.ble 6 pc then (bif Nat.ble 9 pc then (bif Nat.ble 12 pc then (bif Nat.beq pc 12 then (.ifCond .eq 11, 0, 23, []) else am_nop) else (bif Nat.beq pc 9 then (.invokestatic 127, 0, 0, []) else am_nop)) else (bif Nat.ble 7 pc then (bif Nat.beq pc 7 then (.bipush 10, 10, 0, []) else am_nop) else (bif Nat.beq pc 6 then (.iconst 0, 0, 0, []) else am_nop))) else (bif Nat.ble 2 pc then (bif Nat.ble 5 pc then (bif Nat.beq pc 5 then (.iload_n 1, 0, 1, []) else am_nop) else (bif Nat.beq pc 2 then (.putfield 38, 0, 0, []) else am_nop)) else (bif Nat.ble 1 pc then (bif Nat.beq pc 1 then (.iconst 0, 0, 0, []) else am_nop) else (bif Nat.beq pc 0 then (.aload_n 0, 0, 0, []) else am_nop))))
theorem lk_M_245 : am_lnk RX6 245 (d_M_counted 16) := ⟨⟨by decide, by decide⟩, am_tb 8 (by decide +kernel) rfl, Or.inr ⟨by decide, rfl, am_tb 1231 (by decide +kernel) rfl, am_tp 117 (by decide +kernel) rfl, ⟨TX6, 16, rfl⟩, Or.inl (am_tb 1229 (by decide +kernel) rfl)⟩⟩
def m_M_count : MI := (k_M_count, [(38, 6, 8)], [(127, d_M_in 0), (134, d_M_refuses 16), (245, d_M_counted 16)], [], [], [], [], 8, 181, some .int, fun _ => 0, 1)
def v_M_count (h : HP) (a1 : Int32) : Int32 × HP := (if (v_M_in (am_si h 0 8 0) a1 0 10) = 0 then (bnd (v_M_refuses (am_si h 0 8 0) 1) fun y1 => (y1.1, y1.2)) else (bnd (v_M_counted (am_si h 0 8 0) a1) fun y2 => (y2.1, y2.2)))
def p_M_count (h : HP) (a1 : Int32) : Prop := (((v_M_in (am_si h 0 8 0) a1 0 10) = 0 → True) ∧ (¬ (v_M_in (am_si h 0 8 0) a1 0 10) = 0 → (p_M_counted (am_si h 0 8 0) a1)))
def g_M_count (_ _ : List Sh) (as : List Value) (h : HP) : GR := match as with
  | [.ref o1, .int a1] => (Nat.beq o1 0, p_M_count h a1, none, some (.int (v_M_count h a1).1), (v_M_count h a1).2)
  | _ => bad h
def d_M_count (k : Nat) : CD := (k, yX6_count, cX6_count, 2, some .int, 2, 8, 181, 0, false, true, g_M_count)
theorem chk_M_count : ∀ pc, am_chk cX6_count k_M_count pc = true := am_chkall 29 (by decide +kernel) (fun pc h => by unfold k_M_count; rw [Nat.ble_eq_true_of_le h]; rfl)
theorem pf_M_count : plainFor yX6_count = true := by decide +kernel
theorem cu_M_count : Cond.code yX6_count cX6_count 2 (some .int) ∈ am_U := am_tb 1228 (by decide +kernel) rfl
set_option maxHeartbeats 20000000 in
set_option maxRecDepth 100000 in
theorem ev_M_count {e1 ro : List Sh} {P : AR → HP → Prop} (h : HP) (a1 : Int32) (hp : p_M_count h a1) (hP : ∀ q, v_M_count h a1 = q → RIW P h q) : am_Ev m_M_count (WM ++ e1) ro P (0, [.ref 0, .int a1], [], h) := by
  unfold p_M_count at hp
  refine am_Ev_G [12] 400 _ ?_
  show am_Ev m_M_count (WM ++ e1) ro P (12, [.ref 0, .int a1], [.int (v_M_in (am_si h 0 8 0) a1 0 10)], (am_si h 0 8 0))
  refine am_Ev_G [20, 28] 400 _ ?_
  show (((v_M_in (am_si h 0 8 0) a1 0 10) = 0 → am_Ev m_M_count (WM ++ e1) ro P (28, [.ref 0, .int a1], [.int ((v_M_refuses (am_si h 0 8 0) 1).1)], ((v_M_refuses (am_si h 0 8 0) 1).2))) ∧ (¬ (v_M_in (am_si h 0 8 0) a1 0 10) = 0 → ((p_M_counted (am_si h 0 8 0) a1) ∧ am_Ev m_M_count (WM ++ e1) ro P (20, [.ref 0, .int a1], [.int ((v_M_counted (am_si h 0 8 0) a1).1)], ((v_M_counted (am_si h 0 8 0) a1).2)))))
  refine ⟨fun c1 => ?_, fun c1 => ?_⟩
  · skip
    obtain ⟨y1, c2⟩ : ∃ y, v_M_refuses (am_si h 0 8 0) 1 = y := ⟨_, rfl⟩
    rw [c2]
    show am_Ev m_M_count (WM ++ e1) ro P (28, [.ref 0, .int a1], [.int y1.1], y1.2)
    refine am_Ev_G [] 400 _ ?_
    show P (.inl (some (.int y1.1))) y1.2
    exact hP (y1.1, y1.2) (by unfold v_M_count; simp only [if_pos c1, bnd, c2])
  · have hp := hp.2 c1
    refine ⟨hp, ?_⟩
    obtain ⟨y2, c3⟩ : ∃ y, v_M_counted (am_si h 0 8 0) a1 = y := ⟨_, rfl⟩
    rw [c3]
    show am_Ev m_M_count (WM ++ e1) ro P (20, [.ref 0, .int a1], [.int y2.1], y2.2)
    refine am_Ev_G [28] 400 _ ?_
    show am_Ev m_M_count (WM ++ e1) ro P (28, [.ref 0, .int a1], [.int y2.1], y2.2)
    refine am_Ev_G [] 400 _ ?_
    show P (.inl (some (.int y2.1))) y2.2
    exact hP (y2.1, y2.2) (by unfold v_M_count; simp only [if_neg c1, bnd, c3])
theorem ok_M_count {l : Launch} (hl : l.stackTraces = false) (e1 ro : List Sh) (k : Nat) : am_Ok l (WM ++ e1) ro (d_M_count k) := by
  refine am_met hl (own := RX6) (M := m_M_count) rfl pf_M_count cu_M_count rfl rfl rfl rfl (fun _ => rfl) rfl ⟨chk_M_count, (am_c (fl_M_38) am_n), (am_c (lk_M_127) (am_c (lk_M_134) (am_c (lk_M_245) am_n))), (am_n), (am_n)⟩ (am_n) (am_c (ok_M_in hl e1 _ 0) (am_c (ok_M_refuses hl e1 _ 16) (am_c (ok_M_counted hl e1 _ 16) am_n))) (fun z => nomatch z) ?_ ?_
  · intro _ as h hg
    show g_thr (g_M_count (WM ++ e1) ro as h) = none
    unfold g_M_count
    split <;> rfl
  · intro as h hg hp
    revert hg hp
    show g_ok (g_M_count (WM ++ e1) ro as h) = true → g_pre (g_M_count (WM ++ e1) ro as h) → _ ∧ am_Ev m_M_count (WM ++ e1) ro (am_eq (g_M_count (WM ++ e1) ro as h)) (0, am_ent as 2, [], h)
    unfold g_M_count
    split
    · rename_i o1 a1
      intro hc hp
      change (Nat.beq o1 0) = true at hc
      obtain rfl := am_beq hc
      exact ⟨Nat.le_of_ble_eq_true rfl, ev_M_count h a1 hp eqRIW⟩
    · exact fun z => nomatch z
def k_M_setting (pc : Nat) : Ent := bif Nat.ble 32 pc then am_nop else bif Nat.ble 15 pc then (bif Nat.ble 23 pc then (bif Nat.ble 27 pc then (bif Nat.ble 28 pc then (bif Nat.ble 31 pc then (bif Nat.beq pc 31 then (.ireturn, 0, 0, []) else am_nop) else (bif Nat.beq pc 28 then (.invokevirtual 134, 0, 0, []) else am_nop)) else (bif Nat.beq pc 27 then (.iconst 1, 1, 0, []) else am_nop)) else (bif Nat.ble 26 pc then (bif Nat.beq pc 26 then (.aload_n 0, 0, 0, []) else am_nop) else (bif Nat.beq pc 23 then (.goto 8, 0, 31, []) else am_nop))) else (bif Nat.ble 20 pc then (bif Nat.ble 21 pc then (bif Nat.ble 22 pc then (bif Nat.beq pc 22 then (.iaload, 0, 0, []) else am_nop) else (bif Nat.beq pc 21 then (.iadd, 0, 0, []) else am_nop)) else (bif Nat.beq pc 20 then (.iload_n 1, 0, 1, []) else am_nop)) else (bif Nat.ble 18 pc then (bif Nat.beq pc 18 then (.bipush 8, 8, 0, []) else am_nop) else (bif Nat.beq pc 15 then (.getfield 7, 0, 0, []) else am_nop)))) else (bif Nat.ble 6 pc then (bif Nat.ble 8 pc then (bif Nat.ble 11 pc then (bif Nat.ble 14 pc then (bif Nat.beq pc 14 then (.aload_n 0, 0, 0, []) else am_nop) else (bif Nat.beq pc 11 then (.ifCond .eq 15, 0, 26, []) else am_nop)) else (bif Nat.beq pc 8 then (.invokestatic 127, 0, 0, []) else am_nop)) else (bif Nat.ble 7 pc then (bif Nat.beq pc 7 then (.iconst 3, 3, 0, []) else am_nop) else (bif Nat.beq pc 6 then (.iconst 0, 0, 0, []) else am_nop))) else (bif Nat.ble 2 pc then (bif Nat.ble 5 pc then (bif Nat.beq pc 5 then (.iload_n 1, 0, 1, []) else am_nop) else (bif Nat.beq pc 2 then (.putfield 38, 0, 0, []) else am_nop)) else (bif Nat.ble 1 pc then (bif Nat.beq pc 1 then (.iconst 0, 0, 0, []) else am_nop) else (bif Nat.beq pc 0 then (.aload_n 0, 0, 0, []) else am_nop))))
def m_M_setting : MI := (k_M_setting, [(7, 6, 0), (38, 6, 8)], [(127, d_M_in 0), (134, d_M_refuses 16)], [], [], [], [], 1, 22, some .int, fun _ => 0, 1)
def v_M_setting (h : HP) (a1 : Int32) : Int32 × HP := (if (v_M_in (am_si h 0 8 0) a1 0 3) = 0 then (bnd (v_M_refuses (am_si h 0 8 0) 1) fun y1 => (y1.1, y1.2)) else ((am_si h 0 8 0).1 1 (am_ix (8 + a1)), (am_si h 0 8 0)))
def p_M_setting (h : HP) (a1 : Int32) : Prop := (((v_M_in (am_si h 0 8 0) a1 0 3) = 0 → True) ∧ (¬ (v_M_in (am_si h 0 8 0) a1 0 3) = 0 → (am_in (8 + a1) 163)))
def g_M_setting (_ _ : List Sh) (as : List Value) (h : HP) : GR := match as with
  | [.ref o1, .int a1] => (Nat.beq o1 0, p_M_setting h a1, none, some (.int (v_M_setting h a1).1), (v_M_setting h a1).2)
  | _ => bad h
def d_M_setting (k : Nat) : CD := (k, yX6_setting, cX6_setting, 2, some .int, 2, 1, 22, 0, false, true, g_M_setting)
theorem chk_M_setting : ∀ pc, am_chk cX6_setting k_M_setting pc = true := am_chkall 32 (by decide +kernel) (fun pc h => by unfold k_M_setting; rw [Nat.ble_eq_true_of_le h]; rfl)
theorem pf_M_setting : plainFor yX6_setting = true := by decide +kernel
theorem cu_M_setting : Cond.code yX6_setting cX6_setting 2 (some .int) ∈ am_U := am_tb 1256 (by decide +kernel) rfl
set_option maxHeartbeats 20000000 in
set_option maxRecDepth 100000 in
theorem ev_M_setting {e1 ro : List Sh} {P : AR → HP → Prop} (h : HP) (a1 : Int32) (hp : p_M_setting h a1) (hP : ∀ q, v_M_setting h a1 = q → RIW P h q) : am_Ev m_M_setting (WM ++ e1) ro P (0, [.ref 0, .int a1], [], h) := by
  unfold p_M_setting at hp
  refine am_Ev_G [11] 400 _ ?_
  show am_Ev m_M_setting (WM ++ e1) ro P (11, [.ref 0, .int a1], [.int (v_M_in (am_si h 0 8 0) a1 0 3)], (am_si h 0 8 0))
  refine am_Ev_G [31] 400 _ ?_
  show (((v_M_in (am_si h 0 8 0) a1 0 3) = 0 → am_Ev m_M_setting (WM ++ e1) ro P (31, [.ref 0, .int a1], [.int ((v_M_refuses (am_si h 0 8 0) 1).1)], ((v_M_refuses (am_si h 0 8 0) 1).2))) ∧ (¬ (v_M_in (am_si h 0 8 0) a1 0 3) = 0 → ((am_in (8 + a1) 163) ∧ am_Ev m_M_setting (WM ++ e1) ro P (31, [.ref 0, .int a1], [.int ((am_si h 0 8 0).1 1 (am_ix (8 + a1)))], (am_si h 0 8 0)))))
  refine ⟨fun c1 => ?_, fun c1 => ?_⟩
  · skip
    obtain ⟨y1, c2⟩ : ∃ y, v_M_refuses (am_si h 0 8 0) 1 = y := ⟨_, rfl⟩
    rw [c2]
    show am_Ev m_M_setting (WM ++ e1) ro P (31, [.ref 0, .int a1], [.int y1.1], y1.2)
    refine am_Ev_G [] 400 _ ?_
    show P (.inl (some (.int y1.1))) y1.2
    exact hP (y1.1, y1.2) (by unfold v_M_setting; simp only [if_pos c1, bnd, c2])
  · have hp := hp.2 c1
    refine ⟨hp, ?_⟩
    refine am_Ev_G [] 400 _ ?_
    show P (.inl (some (.int ((am_si h 0 8 0).1 1 (am_ix (8 + a1)))))) (am_si h 0 8 0)
    exact hP ((am_si h 0 8 0).1 1 (am_ix (8 + a1)), (am_si h 0 8 0)) (by unfold v_M_setting; simp only [if_neg c1])
theorem ok_M_setting {l : Launch} (hl : l.stackTraces = false) (e1 ro : List Sh) (k : Nat) : am_Ok l (WM ++ e1) ro (d_M_setting k) := by
  refine am_met hl (own := RX6) (M := m_M_setting) rfl pf_M_setting cu_M_setting rfl rfl rfl rfl (fun _ => rfl) rfl ⟨chk_M_setting, (am_c (fl_M_7) (am_c (fl_M_38) am_n)), (am_c (lk_M_127) (am_c (lk_M_134) am_n)), (am_n), (am_n)⟩ (am_n) (am_c (ok_M_in hl e1 _ 0) (am_c (ok_M_refuses hl e1 _ 16) am_n)) (fun z => nomatch z) ?_ ?_
  · intro _ as h hg
    show g_thr (g_M_setting (WM ++ e1) ro as h) = none
    unfold g_M_setting
    split <;> rfl
  · intro as h hg hp
    revert hg hp
    show g_ok (g_M_setting (WM ++ e1) ro as h) = true → g_pre (g_M_setting (WM ++ e1) ro as h) → _ ∧ am_Ev m_M_setting (WM ++ e1) ro (am_eq (g_M_setting (WM ++ e1) ro as h)) (0, am_ent as 2, [], h)
    unfold g_M_setting
    split
    · rename_i o1 a1
      intro hc hp
      change (Nat.beq o1 0) = true at hc
      obtain rfl := am_beq hc
      exact ⟨Nat.le_of_ble_eq_true rfl, ev_M_setting h a1 hp eqRIW⟩
    · exact fun z => nomatch z
def k_M_whyNot (pc : Nat) : Ent := bif Nat.ble 36 pc then am_nop else bif Nat.ble 18 pc then (bif Nat.ble 27 pc then (bif Nat.ble 31 pc then (bif Nat.ble 32 pc then (bif Nat.ble 35 pc then (bif Nat.beq pc 35 then (.ireturn, 0, 0, []) else am_nop) else (bif Nat.beq pc 32 then (.invokevirtual 134, 0, 0, []) else am_nop)) else (bif Nat.beq pc 31 then (.iconst 1, 1, 0, []) else am_nop)) else (bif Nat.ble 30 pc then (bif Nat.beq pc 30 then (.aload_n 0, 0, 0, []) else am_nop) else (bif Nat.beq pc 27 then (.goto 8, 0, 35, []) else am_nop))) else (bif Nat.ble 22 pc then (bif Nat.ble 23 pc then (bif Nat.ble 24 pc then (bif Nat.beq pc 24 then (.invokevirtual 79, 0, 0, []) else am_nop) else (bif Nat.beq pc 23 then (.iload_n 2, 0, 2, []) else am_nop)) else (bif Nat.beq pc 22 then (.iload_n 1, 0, 1, []) else am_nop)) else (bif Nat.ble 21 pc then (bif Nat.beq pc 21 then (.aload_n 0, 0, 0, []) else am_nop) else (bif Nat.beq pc 18 then (.ifCond .eq 12, 0, 30, []) else am_nop)))) else (bif Nat.ble 7 pc then (bif Nat.ble 13 pc then (bif Nat.ble 14 pc then (bif Nat.ble 15 pc then (bif Nat.beq pc 15 then (.invokevirtual 148, 0, 0, []) else am_nop) else (bif Nat.beq pc 14 then (.iload_n 2, 0, 2, []) else am_nop)) else (bif Nat.beq pc 13 then (.aload_n 0, 0, 0, []) else am_nop)) else (bif Nat.ble 10 pc then (bif Nat.beq pc 10 then (.ifCond .eq 20, 0, 30, []) else am_nop) else (bif Nat.beq pc 7 then (.invokevirtual 148, 0, 0, []) else am_nop))) else (bif Nat.ble 2 pc then (bif Nat.ble 5 pc then (bif Nat.ble 6 pc then (bif Nat.beq pc 6 then (.iload_n 1, 0, 1, []) else am_nop) else (bif Nat.beq pc 5 then (.aload_n 0, 0, 0, []) else am_nop)) else (bif Nat.beq pc 2 then (.putfield 38, 0, 0, []) else am_nop)) else (bif Nat.ble 1 pc then (bif Nat.beq pc 1 then (.iconst 0, 0, 0, []) else am_nop) else (bif Nat.beq pc 0 then (.aload_n 0, 0, 0, []) else am_nop))))
def m_M_whyNot : MI := (k_M_whyNot, [(38, 6, 8)], [(79, d_M_reason 16), (134, d_M_refuses 16), (148, d_M_isTrip 16)], [], [], [], [], 4, 88, some .int, fun _ => 0, 1)
def v_M_whyNot (h : HP) (a1 : Int32) (a2 : Int32) : Int32 × HP := (if (v_M_isTrip (am_si h 0 8 0) a1) = 0 then (bnd (v_M_refuses (am_si h 0 8 0) 1) fun y1 => (y1.1, y1.2)) else (if (v_M_isTrip (am_si h 0 8 0) a2) = 0 then (bnd (v_M_refuses (am_si h 0 8 0) 1) fun y2 => (y2.1, y2.2)) else ((v_M_reason (am_si h 0 8 0) a1 a2), (am_si h 0 8 0))))
def p_M_whyNot (h : HP) (a1 : Int32) (a2 : Int32) : Prop := ((p_M_isTrip (am_si h 0 8 0) a1) ∧ (((v_M_isTrip (am_si h 0 8 0) a1) = 0 → True) ∧ (¬ (v_M_isTrip (am_si h 0 8 0) a1) = 0 → ((p_M_isTrip (am_si h 0 8 0) a2) ∧ (((v_M_isTrip (am_si h 0 8 0) a2) = 0 → True) ∧ (¬ (v_M_isTrip (am_si h 0 8 0) a2) = 0 → (p_M_reason (am_si h 0 8 0) a1 a2)))))))
def g_M_whyNot (_ _ : List Sh) (as : List Value) (h : HP) : GR := match as with
  | [.ref o1, .int a1, .int a2] => (Nat.beq o1 0, p_M_whyNot h a1 a2, none, some (.int (v_M_whyNot h a1 a2).1), (v_M_whyNot h a1 a2).2)
  | _ => bad h
def d_M_whyNot (k : Nat) : CD := (k, yX6_whyNot, cX6_whyNot, 3, some .int, 3, 4, 88, 0, false, true, g_M_whyNot)
theorem chk_M_whyNot : ∀ pc, am_chk cX6_whyNot k_M_whyNot pc = true := am_chkall 36 (by decide +kernel) (fun pc h => by unfold k_M_whyNot; rw [Nat.ble_eq_true_of_le h]; rfl)
theorem pf_M_whyNot : plainFor yX6_whyNot = true := by decide +kernel
theorem cu_M_whyNot : Cond.code yX6_whyNot cX6_whyNot 3 (some .int) ∈ am_U := am_tb 1260 (by decide +kernel) rfl
set_option maxHeartbeats 20000000 in
set_option maxRecDepth 100000 in
theorem ev_M_whyNot {e1 ro : List Sh} {P : AR → HP → Prop} (h : HP) (a1 : Int32) (a2 : Int32) (hp : p_M_whyNot h a1 a2) (hP : ∀ q, v_M_whyNot h a1 a2 = q → RIW P h q) : am_Ev m_M_whyNot (WM ++ e1) ro P (0, [.ref 0, .int a1, .int a2], [], h) := by
  unfold p_M_whyNot at hp
  refine am_Ev_G [18, 35] 400 _ ?_
  show ((p_M_isTrip (am_si h 0 8 0) a1) ∧ (((v_M_isTrip (am_si h 0 8 0) a1) = 0 → am_Ev m_M_whyNot (WM ++ e1) ro P (35, [.ref 0, .int a1, .int a2], [.int ((v_M_refuses (am_si h 0 8 0) 1).1)], ((v_M_refuses (am_si h 0 8 0) 1).2))) ∧ (¬ (v_M_isTrip (am_si h 0 8 0) a1) = 0 → ((p_M_isTrip (am_si h 0 8 0) a2) ∧ am_Ev m_M_whyNot (WM ++ e1) ro P (18, [.ref 0, .int a1, .int a2], [.int (v_M_isTrip (am_si h 0 8 0) a2)], (am_si h 0 8 0))))))
  obtain ⟨hob, hp⟩ := hp
  refine ⟨hob, ?_⟩
  refine ⟨fun c1 => ?_, fun c1 => ?_⟩
  · skip
    obtain ⟨y1, c2⟩ : ∃ y, v_M_refuses (am_si h 0 8 0) 1 = y := ⟨_, rfl⟩
    rw [c2]
    show am_Ev m_M_whyNot (WM ++ e1) ro P (35, [.ref 0, .int a1, .int a2], [.int y1.1], y1.2)
    refine am_Ev_G [] 400 _ ?_
    show P (.inl (some (.int y1.1))) y1.2
    exact hP (y1.1, y1.2) (by unfold v_M_whyNot; simp only [if_pos c1, bnd, c2])
  · have hp := hp.2 c1
    obtain ⟨hob, hp⟩ := hp
    refine ⟨hob, ?_⟩
    refine am_Ev_G [35] 400 _ ?_
    show (((v_M_isTrip (am_si h 0 8 0) a2) = 0 → am_Ev m_M_whyNot (WM ++ e1) ro P (35, [.ref 0, .int a1, .int a2], [.int ((v_M_refuses (am_si h 0 8 0) 1).1)], ((v_M_refuses (am_si h 0 8 0) 1).2))) ∧ (¬ (v_M_isTrip (am_si h 0 8 0) a2) = 0 → ((p_M_reason (am_si h 0 8 0) a1 a2) ∧ am_Ev m_M_whyNot (WM ++ e1) ro P (35, [.ref 0, .int a1, .int a2], [.int (v_M_reason (am_si h 0 8 0) a1 a2)], (am_si h 0 8 0)))))
    refine ⟨fun c3 => ?_, fun c3 => ?_⟩
    · skip
      obtain ⟨y2, c4⟩ : ∃ y, v_M_refuses (am_si h 0 8 0) 1 = y := ⟨_, rfl⟩
      rw [c4]
      show am_Ev m_M_whyNot (WM ++ e1) ro P (35, [.ref 0, .int a1, .int a2], [.int y2.1], y2.2)
      refine am_Ev_G [] 400 _ ?_
      show P (.inl (some (.int y2.1))) y2.2
      exact hP (y2.1, y2.2) (by unfold v_M_whyNot; simp only [if_neg c1, if_pos c3, bnd, c4])
    · have hp := hp.2 c3
      refine ⟨hp, ?_⟩
      refine am_Ev_G [] 400 _ ?_
      show P (.inl (some (.int (v_M_reason (am_si h 0 8 0) a1 a2)))) (am_si h 0 8 0)
      exact hP ((v_M_reason (am_si h 0 8 0) a1 a2), (am_si h 0 8 0)) (by unfold v_M_whyNot; simp only [if_neg c1, if_neg c3])
theorem ok_M_whyNot {l : Launch} (hl : l.stackTraces = false) (e1 ro : List Sh) (k : Nat) : am_Ok l (WM ++ e1) ro (d_M_whyNot k) := by
  refine am_met hl (own := RX6) (M := m_M_whyNot) rfl pf_M_whyNot cu_M_whyNot rfl rfl rfl rfl (fun _ => rfl) rfl ⟨chk_M_whyNot, (am_c (fl_M_38) am_n), (am_c (lk_M_79) (am_c (lk_M_134) (am_c (lk_M_148) am_n))), (am_n), (am_n)⟩ (am_n) (am_c (ok_M_reason hl e1 _ 16) (am_c (ok_M_refuses hl e1 _ 16) (am_c (ok_M_isTrip hl e1 _ 16) am_n))) (fun z => nomatch z) ?_ ?_
  · intro _ as h hg
    show g_thr (g_M_whyNot (WM ++ e1) ro as h) = none
    unfold g_M_whyNot
    split <;> rfl
  · intro as h hg hp
    revert hg hp
    show g_ok (g_M_whyNot (WM ++ e1) ro as h) = true → g_pre (g_M_whyNot (WM ++ e1) ro as h) → _ ∧ am_Ev m_M_whyNot (WM ++ e1) ro (am_eq (g_M_whyNot (WM ++ e1) ro as h)) (0, am_ent as 3, [], h)
    unfold g_M_whyNot
    split
    · rename_i o1 a1 a2
      intro hc hp
      change (Nat.beq o1 0) = true at hc
      obtain rfl := am_beq hc
      exact ⟨Nat.le_of_ble_eq_true rfl, ev_M_whyNot h a1 a2 hp eqRIW⟩
    · exact fun z => nomatch z
def k_M_withTrip (pc : Nat) : Ent := bif Nat.ble 52 pc then am_nop else bif Nat.ble 26 pc then (bif Nat.ble 40 pc then (bif Nat.ble 44 pc then (bif Nat.ble 46 pc then (bif Nat.ble 49 pc then (bif Nat.ble 51 pc then (bif Nat.beq pc 51 then (.ireturn, 0, 0, []) else am_nop) else (bif Nat.beq pc 49 then (.iload 6, 0, 6, []) else am_nop)) else (bif Nat.beq pc 46 then (.invokevirtual 144, 0, 0, []) else am_nop)) else (bif Nat.ble 45 pc then (bif Nat.beq pc 45 then (.iconst 0, 0, 0, []) else am_nop) else (bif Nat.beq pc 44 then (.iconst 0, 0, 0, []) else am_nop))) else (bif Nat.ble 42 pc then (bif Nat.ble 43 pc then (bif Nat.beq pc 43 then (.iconst 0, 0, 0, []) else am_nop) else (bif Nat.beq pc 42 then (.iconst 0, 0, 0, []) else am_nop)) else (bif Nat.ble 41 pc then (bif Nat.beq pc 41 then (.iconst 0, 0, 0, []) else am_nop) else (bif Nat.beq pc 40 then (.iaload, 0, 0, []) else am_nop)))) else (bif Nat.ble 33 pc then (bif Nat.ble 35 pc then (bif Nat.ble 38 pc then (bif Nat.beq pc 38 then (.bipush 15, 15, 0, []) else am_nop) else (bif Nat.beq pc 35 then (.getfield 7, 0, 0, []) else am_nop)) else (bif Nat.ble 34 pc then (bif Nat.beq pc 34 then (.aload_n 0, 0, 0, []) else am_nop) else (bif Nat.beq pc 33 then (.aload_n 0, 0, 0, []) else am_nop))) else (bif Nat.ble 28 pc then (bif Nat.ble 31 pc then (bif Nat.beq pc 31 then (.istore 6, 0, 6, []) else am_nop) else (bif Nat.beq pc 28 then (.invokevirtual 236, 0, 0, []) else am_nop)) else (bif Nat.ble 27 pc then (bif Nat.beq pc 27 then (.iadd, 0, 0, []) else am_nop) else (bif Nat.beq pc 26 then (.iconst 1, 1, 0, []) else am_nop))))) else (bif Nat.ble 11 pc then (bif Nat.ble 19 pc then (bif Nat.ble 23 pc then (bif Nat.ble 25 pc then (bif Nat.beq pc 25 then (.iaload, 0, 0, []) else am_nop) else (bif Nat.beq pc 23 then (.bipush 15, 15, 0, []) else am_nop)) else (bif Nat.ble 20 pc then (bif Nat.beq pc 20 then (.getfield 7, 0, 0, []) else am_nop) else (bif Nat.beq pc 19 then (.aload_n 0, 0, 0, []) else am_nop))) else (bif Nat.ble 15 pc then (bif Nat.ble 18 pc then (bif Nat.beq pc 18 then (.aload_n 0, 0, 0, []) else am_nop) else (bif Nat.beq pc 15 then (.invokevirtual 144, 0, 0, []) else am_nop)) else (bif Nat.ble 13 pc then (bif Nat.beq pc 13 then (.iload 5, 0, 5, []) else am_nop) else (bif Nat.beq pc 11 then (.iload 4, 0, 4, []) else am_nop)))) else (bif Nat.ble 7 pc then (bif Nat.ble 9 pc then (bif Nat.ble 10 pc then (bif Nat.beq pc 10 then (.iload_n 3, 0, 3, []) else am_nop) else (bif Nat.beq pc 9 then (.iload_n 2, 0, 2, []) else am_nop)) else (bif Nat.ble 8 pc then (bif Nat.beq pc 8 then (.iload_n 1, 0, 1, []) else am_nop) else (bif Nat.beq pc 7 then (.iaload, 0, 0, []) else am_nop))) else (bif Nat.ble 2 pc then (bif Nat.ble 5 pc then (bif Nat.beq pc 5 then (.bipush 15, 15, 0, []) else am_nop) else (bif Nat.beq pc 2 then (.getfield 7, 0, 0, []) else am_nop)) else (bif Nat.ble 1 pc then (bif Nat.beq pc 1 then (.aload_n 0, 0, 0, []) else am_nop) else (bif Nat.beq pc 0 then (.aload_n 0, 0, 0, []) else am_nop)))))
def m_M_withTrip : MI := (k_M_withTrip, [(7, 6, 0)], [(144, d_M_puts 16), (236, d_M_byDeficits 16)], [], [], [], [], 7, 160, some .int, fun _ => 0, 1)
def v_M_withTrip (h : HP) (a1 : Int32) (a2 : Int32) (a3 : Int32) (a4 : Int32) (a5 : Int32) : Int32 × HP := (bnd (v_M_puts h (h.1 1 (am_ix 15)) a1 a2 a3 a4 a5) fun y1 => (bnd (v_M_puts y1 (y1.1 1 (am_ix 15)) 0 0 0 0 0) fun y2 => ((v_M_byDeficits y1 ((y1.1 1 (am_ix 15)) + 1)), y2)))
def p_M_withTrip (h : HP) (a1 : Int32) (a2 : Int32) (a3 : Int32) (a4 : Int32) (a5 : Int32) : Prop := ((p_M_puts h (h.1 1 (am_ix 15)) a1 a2 a3 a4 a5) ∧ (∀ y1, v_M_puts h (h.1 1 (am_ix 15)) a1 a2 a3 a4 a5 = y1 → ((p_M_byDeficits y1 ((y1.1 1 (am_ix 15)) + 1)) ∧ (p_M_puts y1 (y1.1 1 (am_ix 15)) 0 0 0 0 0))))
def g_M_withTrip (_ _ : List Sh) (as : List Value) (h : HP) : GR := match as with
  | [.ref o1, .int a1, .int a2, .int a3, .int a4, .int a5] => (Nat.beq o1 0, p_M_withTrip h a1 a2 a3 a4 a5, none, some (.int (v_M_withTrip h a1 a2 a3 a4 a5).1), (v_M_withTrip h a1 a2 a3 a4 a5).2)
  | _ => bad h
def d_M_withTrip (k : Nat) : CD := (k, yX6_withTrip, cX6_withTrip, 7, some .int, 6, 7, 160, 0, false, true, g_M_withTrip)
theorem chk_M_withTrip : ∀ pc, am_chk cX6_withTrip k_M_withTrip pc = true := am_chkall 52 (by decide +kernel) (fun pc h => by unfold k_M_withTrip; rw [Nat.ble_eq_true_of_le h]; rfl)
theorem pf_M_withTrip : plainFor yX6_withTrip = true := by decide +kernel
theorem cu_M_withTrip : Cond.code yX6_withTrip cX6_withTrip 7 (some .int) ∈ am_U := am_tb 1268 (by decide +kernel) rfl
set_option maxHeartbeats 20000000 in
set_option maxRecDepth 100000 in
theorem ev_M_withTrip {e1 ro : List Sh} {P : AR → HP → Prop} (h : HP) (a1 : Int32) (a2 : Int32) (a3 : Int32) (a4 : Int32) (a5 : Int32) (hp : p_M_withTrip h a1 a2 a3 a4 a5) (hP : ∀ q, v_M_withTrip h a1 a2 a3 a4 a5 = q → RIW P h q) : am_Ev m_M_withTrip (WM ++ e1) ro P (0, [.ref 0, .int a1, .int a2, .int a3, .int a4, .int a5, .retAddr 0], [], h) := by
  unfold p_M_withTrip at hp
  refine am_Ev_G [18] 400 _ ?_
  show ((am_in 15 163) ∧ ((p_M_puts h (h.1 1 (am_ix 15)) a1 a2 a3 a4 a5) ∧ am_Ev m_M_withTrip (WM ++ e1) ro P (18, [.ref 0, .int a1, .int a2, .int a3, .int a4, .int a5, .retAddr 0], [], (v_M_puts h (h.1 1 (am_ix 15)) a1 a2 a3 a4 a5))))
  refine ⟨⟨by decide, by decide⟩, ?_⟩
  obtain ⟨hob, hp⟩ := hp
  refine ⟨hob, ?_⟩
  obtain ⟨y1, c1⟩ : ∃ y, v_M_puts h (h.1 1 (am_ix 15)) a1 a2 a3 a4 a5 = y := ⟨_, rfl⟩
  rw [c1]
  have hp := hp _ c1
  show am_Ev m_M_withTrip (WM ++ e1) ro P (18, [.ref 0, .int a1, .int a2, .int a3, .int a4, .int a5, .retAddr 0], [], y1)
  refine am_Ev_G [31] 400 _ ?_
  show ((am_in 15 163) ∧ ((p_M_byDeficits y1 ((y1.1 1 (am_ix 15)) + 1)) ∧ am_Ev m_M_withTrip (WM ++ e1) ro P (31, [.ref 0, .int a1, .int a2, .int a3, .int a4, .int a5, .retAddr 0], [.int (v_M_byDeficits y1 ((y1.1 1 (am_ix 15)) + 1))], y1)))
  refine ⟨⟨by decide, by decide⟩, ?_⟩
  obtain ⟨hob, hp⟩ := hp
  refine ⟨hob, ?_⟩
  refine am_Ev_G [49] 400 _ ?_
  show ((am_in 15 163) ∧ ((p_M_puts y1 (y1.1 1 (am_ix 15)) 0 0 0 0 0) ∧ am_Ev m_M_withTrip (WM ++ e1) ro P (49, [.ref 0, .int a1, .int a2, .int a3, .int a4, .int a5, .int (v_M_byDeficits y1 ((y1.1 1 (am_ix 15)) + 1))], [], (v_M_puts y1 (y1.1 1 (am_ix 15)) 0 0 0 0 0))))
  refine ⟨⟨by decide, by decide⟩, ?_⟩
  refine ⟨hp, ?_⟩
  obtain ⟨y2, c2⟩ : ∃ y, v_M_puts y1 (y1.1 1 (am_ix 15)) 0 0 0 0 0 = y := ⟨_, rfl⟩
  rw [c2]
  show am_Ev m_M_withTrip (WM ++ e1) ro P (49, [.ref 0, .int a1, .int a2, .int a3, .int a4, .int a5, .int (v_M_byDeficits y1 ((y1.1 1 (am_ix 15)) + 1))], [], y2)
  refine am_Ev_G [] 400 _ ?_
  show P (.inl (some (.int (v_M_byDeficits y1 ((y1.1 1 (am_ix 15)) + 1))))) y2
  exact hP ((v_M_byDeficits y1 ((y1.1 1 (am_ix 15)) + 1)), y2) (by unfold v_M_withTrip; simp only [bnd, c1, bnd, c2])
theorem ok_M_withTrip {l : Launch} (hl : l.stackTraces = false) (e1 ro : List Sh) (k : Nat) : am_Ok l (WM ++ e1) ro (d_M_withTrip k) := by
  refine am_met hl (own := RX6) (M := m_M_withTrip) rfl pf_M_withTrip cu_M_withTrip rfl rfl rfl rfl (fun _ => rfl) rfl ⟨chk_M_withTrip, (am_c (fl_M_7) am_n), (am_c (lk_M_144) (am_c (lk_M_236) am_n)), (am_n), (am_n)⟩ (am_n) (am_c (ok_M_puts hl e1 _ 16) (am_c (ok_M_byDeficits hl e1 _ 16) am_n)) (fun z => nomatch z) ?_ ?_
  · intro _ as h hg
    show g_thr (g_M_withTrip (WM ++ e1) ro as h) = none
    unfold g_M_withTrip
    split <;> rfl
  · intro as h hg hp
    revert hg hp
    show g_ok (g_M_withTrip (WM ++ e1) ro as h) = true → g_pre (g_M_withTrip (WM ++ e1) ro as h) → _ ∧ am_Ev m_M_withTrip (WM ++ e1) ro (am_eq (g_M_withTrip (WM ++ e1) ro as h)) (0, am_ent as 7, [], h)
    unfold g_M_withTrip
    split
    · rename_i o1 a1 a2 a3 a4 a5
      intro hc hp
      change (Nat.beq o1 0) = true at hc
      obtain rfl := am_beq hc
      exact ⟨Nat.le_of_ble_eq_true rfl, ev_M_withTrip h a1 a2 a3 a4 a5 hp eqRIW⟩
    · exact fun z => nomatch z
def k_M_ifTrip (pc : Nat) : Ent := bif Nat.ble 38 pc then am_nop else bif Nat.ble 19 pc then (bif Nat.ble 26 pc then (bif Nat.ble 33 pc then (bif Nat.ble 34 pc then (bif Nat.ble 37 pc then (bif Nat.beq pc 37 then (.ireturn, 0, 0, []) else am_nop) else (bif Nat.beq pc 34 then (.invokevirtual 134, 0, 0, []) else am_nop)) else (bif Nat.beq pc 33 then (.iconst 1, 1, 0, []) else am_nop)) else (bif Nat.ble 29 pc then (bif Nat.ble 32 pc then (bif Nat.beq pc 32 then (.aload_n 0, 0, 0, []) else am_nop) else (bif Nat.beq pc 29 then (.goto 8, 0, 37, []) else am_nop)) else (bif Nat.beq pc 26 then (.invokevirtual 248, 0, 0, []) else am_nop))) else (bif Nat.ble 21 pc then (bif Nat.ble 22 pc then (bif Nat.ble 24 pc then (bif Nat.beq pc 24 then (.iload 5, 0, 5, []) else am_nop) else (bif Nat.beq pc 22 then (.iload 4, 0, 4, []) else am_nop)) else (bif Nat.beq pc 21 then (.iload_n 3, 0, 3, []) else am_nop)) else (bif Nat.ble 20 pc then (bif Nat.beq pc 20 then (.iload_n 2, 0, 2, []) else am_nop) else (bif Nat.beq pc 19 then (.iload_n 1, 0, 1, []) else am_nop)))) else (bif Nat.ble 7 pc then (bif Nat.ble 12 pc then (bif Nat.ble 15 pc then (bif Nat.ble 18 pc then (bif Nat.beq pc 18 then (.aload_n 0, 0, 0, []) else am_nop) else (bif Nat.beq pc 15 then (.ifCond .eq 17, 0, 32, []) else am_nop)) else (bif Nat.beq pc 12 then (.invokestatic 140, 0, 0, []) else am_nop)) else (bif Nat.ble 8 pc then (bif Nat.ble 10 pc then (bif Nat.beq pc 10 then (.iload 5, 0, 5, []) else am_nop) else (bif Nat.beq pc 8 then (.iload 4, 0, 4, []) else am_nop)) else (bif Nat.beq pc 7 then (.iload_n 3, 0, 3, []) else am_nop))) else (bif Nat.ble 2 pc then (bif Nat.ble 5 pc then (bif Nat.ble 6 pc then (bif Nat.beq pc 6 then (.iload_n 2, 0, 2, []) else am_nop) else (bif Nat.beq pc 5 then (.iload_n 1, 0, 1, []) else am_nop)) else (bif Nat.beq pc 2 then (.putfield 38, 0, 0, []) else am_nop)) else (bif Nat.ble 1 pc then (bif Nat.beq pc 1 then (.iconst 0, 0, 0, []) else am_nop) else (bif Nat.beq pc 0 then (.aload_n 0, 0, 0, []) else am_nop))))
theorem lk_M_248 : am_lnk RX6 248 (d_M_withTrip 16) := ⟨⟨by decide, by decide⟩, am_tb 8 (by decide +kernel) rfl, Or.inr ⟨by decide, rfl, am_tb 1267 (by decide +kernel) rfl, am_tp 123 (by decide +kernel) rfl, ⟨TX6, 16, rfl⟩, Or.inl (am_tb 1265 (by decide +kernel) rfl)⟩⟩
def m_M_ifTrip : MI := (k_M_ifTrip, [(38, 6, 8)], [(134, d_M_refuses 16), (140, d_M_isTold 0), (248, d_M_withTrip 16)], [], [], [], [], 8, 186, some .int, fun _ => 0, 1)
def v_M_ifTrip (h : HP) (a1 : Int32) (a2 : Int32) (a3 : Int32) (a4 : Int32) (a5 : Int32) : Int32 × HP := (if (v_M_isTold (am_si h 0 8 0) a1 a2 a3 a4 a5) = 0 then (bnd (v_M_refuses (am_si h 0 8 0) 1) fun y1 => (y1.1, y1.2)) else (bnd (v_M_withTrip (am_si h 0 8 0) a1 a2 a3 a4 a5) fun y2 => (y2.1, y2.2)))
def p_M_ifTrip (h : HP) (a1 : Int32) (a2 : Int32) (a3 : Int32) (a4 : Int32) (a5 : Int32) : Prop := ((p_M_isTold (am_si h 0 8 0) a1 a2 a3 a4 a5) ∧ (((v_M_isTold (am_si h 0 8 0) a1 a2 a3 a4 a5) = 0 → True) ∧ (¬ (v_M_isTold (am_si h 0 8 0) a1 a2 a3 a4 a5) = 0 → (p_M_withTrip (am_si h 0 8 0) a1 a2 a3 a4 a5))))
def g_M_ifTrip (_ _ : List Sh) (as : List Value) (h : HP) : GR := match as with
  | [.ref o1, .int a1, .int a2, .int a3, .int a4, .int a5] => (Nat.beq o1 0, p_M_ifTrip h a1 a2 a3 a4 a5, none, some (.int (v_M_ifTrip h a1 a2 a3 a4 a5).1), (v_M_ifTrip h a1 a2 a3 a4 a5).2)
  | _ => bad h
def d_M_ifTrip (k : Nat) : CD := (k, yX6_ifTrip, cX6_ifTrip, 6, some .int, 6, 8, 186, 0, false, true, g_M_ifTrip)
theorem chk_M_ifTrip : ∀ pc, am_chk cX6_ifTrip k_M_ifTrip pc = true := am_chkall 38 (by decide +kernel) (fun pc h => by unfold k_M_ifTrip; rw [Nat.ble_eq_true_of_le h]; rfl)
theorem pf_M_ifTrip : plainFor yX6_ifTrip = true := by decide +kernel
theorem cu_M_ifTrip : Cond.code yX6_ifTrip cX6_ifTrip 6 (some .int) ∈ am_U := am_tb 1264 (by decide +kernel) rfl
set_option maxHeartbeats 20000000 in
set_option maxRecDepth 100000 in
theorem ev_M_ifTrip {e1 ro : List Sh} {P : AR → HP → Prop} (h : HP) (a1 : Int32) (a2 : Int32) (a3 : Int32) (a4 : Int32) (a5 : Int32) (hp : p_M_ifTrip h a1 a2 a3 a4 a5) (hP : ∀ q, v_M_ifTrip h a1 a2 a3 a4 a5 = q → RIW P h q) : am_Ev m_M_ifTrip (WM ++ e1) ro P (0, [.ref 0, .int a1, .int a2, .int a3, .int a4, .int a5], [], h) := by
  unfold p_M_ifTrip at hp
  refine am_Ev_G [15] 400 _ ?_
  show ((p_M_isTold (am_si h 0 8 0) a1 a2 a3 a4 a5) ∧ am_Ev m_M_ifTrip (WM ++ e1) ro P (15, [.ref 0, .int a1, .int a2, .int a3, .int a4, .int a5], [.int (v_M_isTold (am_si h 0 8 0) a1 a2 a3 a4 a5)], (am_si h 0 8 0)))
  obtain ⟨hob, hp⟩ := hp
  refine ⟨hob, ?_⟩
  refine am_Ev_G [29, 37] 400 _ ?_
  show (((v_M_isTold (am_si h 0 8 0) a1 a2 a3 a4 a5) = 0 → am_Ev m_M_ifTrip (WM ++ e1) ro P (37, [.ref 0, .int a1, .int a2, .int a3, .int a4, .int a5], [.int ((v_M_refuses (am_si h 0 8 0) 1).1)], ((v_M_refuses (am_si h 0 8 0) 1).2))) ∧ (¬ (v_M_isTold (am_si h 0 8 0) a1 a2 a3 a4 a5) = 0 → ((p_M_withTrip (am_si h 0 8 0) a1 a2 a3 a4 a5) ∧ am_Ev m_M_ifTrip (WM ++ e1) ro P (29, [.ref 0, .int a1, .int a2, .int a3, .int a4, .int a5], [.int ((v_M_withTrip (am_si h 0 8 0) a1 a2 a3 a4 a5).1)], ((v_M_withTrip (am_si h 0 8 0) a1 a2 a3 a4 a5).2)))))
  refine ⟨fun c1 => ?_, fun c1 => ?_⟩
  · skip
    obtain ⟨y1, c2⟩ : ∃ y, v_M_refuses (am_si h 0 8 0) 1 = y := ⟨_, rfl⟩
    rw [c2]
    show am_Ev m_M_ifTrip (WM ++ e1) ro P (37, [.ref 0, .int a1, .int a2, .int a3, .int a4, .int a5], [.int y1.1], y1.2)
    refine am_Ev_G [] 400 _ ?_
    show P (.inl (some (.int y1.1))) y1.2
    exact hP (y1.1, y1.2) (by unfold v_M_ifTrip; simp only [if_pos c1, bnd, c2])
  · have hp := hp.2 c1
    refine ⟨hp, ?_⟩
    obtain ⟨y2, c3⟩ : ∃ y, v_M_withTrip (am_si h 0 8 0) a1 a2 a3 a4 a5 = y := ⟨_, rfl⟩
    rw [c3]
    show am_Ev m_M_ifTrip (WM ++ e1) ro P (29, [.ref 0, .int a1, .int a2, .int a3, .int a4, .int a5], [.int y2.1], y2.2)
    refine am_Ev_G [37] 400 _ ?_
    show am_Ev m_M_ifTrip (WM ++ e1) ro P (37, [.ref 0, .int a1, .int a2, .int a3, .int a4, .int a5], [.int y2.1], y2.2)
    refine am_Ev_G [] 400 _ ?_
    show P (.inl (some (.int y2.1))) y2.2
    exact hP (y2.1, y2.2) (by unfold v_M_ifTrip; simp only [if_neg c1, bnd, c3])
theorem ok_M_ifTrip {l : Launch} (hl : l.stackTraces = false) (e1 ro : List Sh) (k : Nat) : am_Ok l (WM ++ e1) ro (d_M_ifTrip k) := by
  refine am_met hl (own := RX6) (M := m_M_ifTrip) rfl pf_M_ifTrip cu_M_ifTrip rfl rfl rfl rfl (fun _ => rfl) rfl ⟨chk_M_ifTrip, (am_c (fl_M_38) am_n), (am_c (lk_M_134) (am_c (lk_M_140) (am_c (lk_M_248) am_n))), (am_n), (am_n)⟩ (am_n) (am_c (ok_M_refuses hl e1 _ 16) (am_c (ok_M_isTold hl e1 _ 0) (am_c (ok_M_withTrip hl e1 _ 16) am_n))) (fun z => nomatch z) ?_ ?_
  · intro _ as h hg
    show g_thr (g_M_ifTrip (WM ++ e1) ro as h) = none
    unfold g_M_ifTrip
    split <;> rfl
  · intro as h hg hp
    revert hg hp
    show g_ok (g_M_ifTrip (WM ++ e1) ro as h) = true → g_pre (g_M_ifTrip (WM ++ e1) ro as h) → _ ∧ am_Ev m_M_ifTrip (WM ++ e1) ro (am_eq (g_M_ifTrip (WM ++ e1) ro as h)) (0, am_ent as 6, [], h)
    unfold g_M_ifTrip
    split
    · rename_i o1 a1 a2 a3 a4 a5
      intro hc hp
      change (Nat.beq o1 0) = true at hc
      obtain rfl := am_beq hc
      exact ⟨Nat.le_of_ble_eq_true rfl, ev_M_ifTrip h a1 a2 a3 a4 a5 hp eqRIW⟩
    · exact fun z => nomatch z
def k_M_best (pc : Nat) : Ent := bif Nat.ble 147 pc then am_nop else bif Nat.ble 62 pc then (bif Nat.ble 103 pc then (bif Nat.ble 127 pc then (bif Nat.ble 138 pc then (bif Nat.ble 141 pc then (bif Nat.ble 144 pc then (bif Nat.ble 146 pc then (bif Nat.beq pc 146 then (.ireturn, 0, 0, []) else am_nop) else (bif Nat.beq pc 144 then (.iload 4, 0, 4, []) else am_nop)) else (bif Nat.beq pc 141 then (.invokevirtual 82, 0, 0, []) else am_nop)) else (bif Nat.ble 139 pc then (bif Nat.ble 140 pc then (bif Nat.beq pc 140 then (.iload_n 3, 0, 3, []) else am_nop) else (bif Nat.beq pc 139 then (.iconst 3, 3, 0, []) else am_nop)) else (bif Nat.beq pc 138 then (.iload_n 1, 0, 1, []) else am_nop))) else (bif Nat.ble 131 pc then (bif Nat.ble 134 pc then (bif Nat.ble 137 pc then (bif Nat.beq pc 137 then (.aload_n 0, 0, 0, []) else am_nop) else (bif Nat.beq pc 134 then (.goto (-108), 0, 26, []) else am_nop)) else (bif Nat.beq pc 131 then (.iinc 6 1, 1, 6, []) else am_nop)) else (bif Nat.ble 129 pc then (bif Nat.beq pc 129 then (.istore 5, 0, 5, []) else am_nop) else (bif Nat.beq pc 127 then (.iload 5, 0, 5, []) else am_nop)))) else (bif Nat.ble 115 pc then (bif Nat.ble 119 pc then (bif Nat.ble 122 pc then (bif Nat.ble 124 pc then (bif Nat.beq pc 124 then (.goto 5, 0, 129, []) else am_nop) else (bif Nat.beq pc 122 then (.iload 8, 0, 8, []) else am_nop)) else (bif Nat.beq pc 119 then (.if_icmp .ge 8, 0, 127, []) else am_nop)) else (bif Nat.ble 117 pc then (bif Nat.beq pc 117 then (.iload 5, 0, 5, []) else am_nop) else (bif Nat.beq pc 115 then (.iload 8, 0, 8, []) else am_nop))) else (bif Nat.ble 108 pc then (bif Nat.ble 111 pc then (bif Nat.ble 113 pc then (bif Nat.beq pc 113 then (.istore 4, 0, 4, []) else am_nop) else (bif Nat.beq pc 111 then (.iload 4, 0, 4, []) else am_nop)) else (bif Nat.beq pc 108 then (.goto 5, 0, 113, []) else am_nop)) else (bif Nat.ble 106 pc then (bif Nat.beq pc 106 then (.iload 7, 0, 7, []) else am_nop) else (bif Nat.beq pc 103 then (.if_icmp .ge 8, 0, 111, []) else am_nop))))) else (bif Nat.ble 82 pc then (bif Nat.ble 92 pc then (bif Nat.ble 97 pc then (bif Nat.ble 99 pc then (bif Nat.ble 101 pc then (bif Nat.beq pc 101 then (.iload 5, 0, 5, []) else am_nop) else (bif Nat.beq pc 99 then (.iload 8, 0, 8, []) else am_nop)) else (bif Nat.beq pc 97 then (.istore 8, 0, 8, []) else am_nop)) else (bif Nat.ble 95 pc then (bif Nat.beq pc 95 then (.iload 5, 0, 5, []) else am_nop) else (bif Nat.beq pc 92 then (.goto 5, 0, 97, []) else am_nop))) else (bif Nat.ble 86 pc then (bif Nat.ble 88 pc then (bif Nat.ble 89 pc then (bif Nat.beq pc 89 then (.invokevirtual 236, 0, 0, []) else am_nop) else (bif Nat.beq pc 88 then (.iaload, 0, 0, []) else am_nop)) else (bif Nat.beq pc 86 then (.bipush 15, 15, 0, []) else am_nop)) else (bif Nat.ble 83 pc then (bif Nat.beq pc 83 then (.getfield 7, 0, 0, []) else am_nop) else (bif Nat.beq pc 82 then (.aload_n 0, 0, 0, []) else am_nop)))) else (bif Nat.ble 71 pc then (bif Nat.ble 75 pc then (bif Nat.ble 78 pc then (bif Nat.ble 81 pc then (bif Nat.beq pc 81 then (.aload_n 0, 0, 0, []) else am_nop) else (bif Nat.beq pc 78 then (.ifCond .eq 17, 0, 95, []) else am_nop)) else (bif Nat.beq pc 75 then (.invokestatic 127, 0, 0, []) else am_nop)) else (bif Nat.ble 72 pc then (bif Nat.beq pc 72 then (.sipush 1439, 1439, 0, []) else am_nop) else (bif Nat.beq pc 71 then (.iconst 0, 0, 0, []) else am_nop))) else (bif Nat.ble 64 pc then (bif Nat.ble 66 pc then (bif Nat.ble 69 pc then (bif Nat.beq pc 69 then (.iload 7, 0, 7, []) else am_nop) else (bif Nat.beq pc 66 then (.invokevirtual 82, 0, 0, []) else am_nop)) else (bif Nat.beq pc 64 then (.iload 7, 0, 7, []) else am_nop)) else (bif Nat.ble 63 pc then (bif Nat.beq pc 63 then (.iconst 3, 3, 0, []) else am_nop) else (bif Nat.beq pc 62 then (.iload_n 1, 0, 1, []) else am_nop)))))) else (bif Nat.ble 31 pc then (bif Nat.ble 47 pc then (bif Nat.ble 54 pc then (bif Nat.ble 58 pc then (bif Nat.ble 59 pc then (bif Nat.ble 61 pc then (bif Nat.beq pc 61 then (.aload_n 0, 0, 0, []) else am_nop) else (bif Nat.beq pc 59 then (.istore 7, 0, 7, []) else am_nop)) else (bif Nat.beq pc 58 then (.iadd, 0, 0, []) else am_nop)) else (bif Nat.ble 56 pc then (bif Nat.ble 57 pc then (bif Nat.beq pc 57 then (.idiv, 0, 0, []) else am_nop) else (bif Nat.beq pc 56 then (.iconst 2, 2, 0, []) else am_nop)) else (bif Nat.beq pc 54 then (.iload 6, 0, 6, []) else am_nop))) else (bif Nat.ble 49 pc then (bif Nat.ble 50 pc then (bif Nat.ble 53 pc then (bif Nat.beq pc 53 then (.iload_n 3, 0, 3, []) else am_nop) else (bif Nat.beq pc 50 then (.goto 9, 0, 59, []) else am_nop)) else (bif Nat.beq pc 49 then (.isub, 0, 0, []) else am_nop)) else (bif Nat.ble 48 pc then (bif Nat.beq pc 48 then (.idiv, 0, 0, []) else am_nop) else (bif Nat.beq pc 47 then (.iconst 2, 2, 0, []) else am_nop)))) else (bif Nat.ble 39 pc then (bif Nat.ble 43 pc then (bif Nat.ble 45 pc then (bif Nat.ble 46 pc then (bif Nat.beq pc 46 then (.iadd, 0, 0, []) else am_nop) else (bif Nat.beq pc 45 then (.iconst 1, 1, 0, []) else am_nop)) else (bif Nat.beq pc 43 then (.iload 6, 0, 6, []) else am_nop)) else (bif Nat.ble 42 pc then (bif Nat.beq pc 42 then (.iload_n 3, 0, 3, []) else am_nop) else (bif Nat.beq pc 39 then (.if_icmp .ne 14, 0, 53, []) else am_nop))) else (bif Nat.ble 36 pc then (bif Nat.ble 37 pc then (bif Nat.ble 38 pc then (bif Nat.beq pc 38 then (.iconst 1, 1, 0, []) else am_nop) else (bif Nat.beq pc 37 then (.irem, 0, 0, []) else am_nop)) else (bif Nat.beq pc 36 then (.iconst 2, 2, 0, []) else am_nop)) else (bif Nat.ble 34 pc then (bif Nat.beq pc 34 then (.iload 6, 0, 6, []) else am_nop) else (bif Nat.beq pc 31 then (.if_icmp .gt 106, 0, 137, []) else am_nop))))) else (bif Nat.ble 15 pc then (bif Nat.ble 24 pc then (bif Nat.ble 28 pc then (bif Nat.ble 29 pc then (bif Nat.ble 30 pc then (bif Nat.beq pc 30 then (.imul, 0, 0, []) else am_nop) else (bif Nat.beq pc 29 then (.iload_n 2, 0, 2, []) else am_nop)) else (bif Nat.beq pc 28 then (.iconst 2, 2, 0, []) else am_nop)) else (bif Nat.ble 26 pc then (bif Nat.beq pc 26 then (.iload 6, 0, 6, []) else am_nop) else (bif Nat.beq pc 24 then (.istore 6, 0, 6, []) else am_nop))) else (bif Nat.ble 18 pc then (bif Nat.ble 21 pc then (bif Nat.ble 23 pc then (bif Nat.beq pc 23 then (.iconst 1, 1, 0, []) else am_nop) else (bif Nat.beq pc 21 then (.istore 5, 0, 5, []) else am_nop)) else (bif Nat.beq pc 18 then (.invokevirtual 236, 0, 0, []) else am_nop)) else (bif Nat.ble 17 pc then (bif Nat.beq pc 17 then (.iaload, 0, 0, []) else am_nop) else (bif Nat.beq pc 15 then (.bipush 15, 15, 0, []) else am_nop)))) else (bif Nat.ble 7 pc then (bif Nat.ble 10 pc then (bif Nat.ble 11 pc then (bif Nat.ble 12 pc then (bif Nat.beq pc 12 then (.getfield 7, 0, 0, []) else am_nop) else (bif Nat.beq pc 11 then (.aload_n 0, 0, 0, []) else am_nop)) else (bif Nat.beq pc 10 then (.aload_n 0, 0, 0, []) else am_nop)) else (bif Nat.ble 8 pc then (bif Nat.beq pc 8 then (.istore 4, 0, 4, []) else am_nop) else (bif Nat.beq pc 7 then (.iload_n 3, 0, 3, []) else am_nop))) else (bif Nat.ble 2 pc then (bif Nat.ble 3 pc then (bif Nat.ble 6 pc then (bif Nat.beq pc 6 then (.istore_n 3, 0, 3, []) else am_nop) else (bif Nat.beq pc 3 then (.invokevirtual 49, 0, 0, []) else am_nop)) else (bif Nat.beq pc 2 then (.iconst 3, 3, 0, []) else am_nop)) else (bif Nat.ble 1 pc then (bif Nat.beq pc 1 then (.iload_n 1, 0, 1, []) else am_nop) else (bif Nat.beq pc 0 then (.aload_n 0, 0, 0, []) else am_nop))))))
def m_M_best : MI := (k_M_best, [(7, 6, 0)], [(49, d_M_of 16), (82, d_M_becomes 16), (127, d_M_in 0), (236, d_M_byDeficits 16)], [], [], [], [], 7, 160, some .int, fun _ => 0, 1)
def s_M_best_26 (h : HP) (a1 : Int32) (a2 : Int32) (v1 : Int32 × Int32 × Int32 × HP) : (Int32 × Int32 × Int32 × HP) ⊕ (Int32 × Int32 × Int32 × HP) := (if v1.2.2.1 ≤ (2 * a2) then (bnd (v_M_becomes v1.2.2.2 a1 3 (if (v1.2.2.1 - v1.2.2.1 / 2 * 2) = 1 then ((v_M_of h a1 3) - ((v1.2.2.1 + 1) / 2)) else ((v_M_of h a1 3) + (v1.2.2.1 / 2)))) fun y2 => (.inl ((if ((if (v_M_in y2 (if (v1.2.2.1 - v1.2.2.1 / 2 * 2) = 1 then ((v_M_of h a1 3) - ((v1.2.2.1 + 1) / 2)) else ((v_M_of h a1 3) + (v1.2.2.1 / 2))) 0 1439) = 0 then v1.2.1 else (v_M_byDeficits y2 (y2.1 1 (am_ix 15)))) : Int32) < v1.2.1 then (if (v1.2.2.1 - v1.2.2.1 / 2 * 2) = 1 then ((v_M_of h a1 3) - ((v1.2.2.1 + 1) / 2)) else ((v_M_of h a1 3) + (v1.2.2.1 / 2))) else v1.1), (if ((if (v_M_in y2 (if (v1.2.2.1 - v1.2.2.1 / 2 * 2) = 1 then ((v_M_of h a1 3) - ((v1.2.2.1 + 1) / 2)) else ((v_M_of h a1 3) + (v1.2.2.1 / 2))) 0 1439) = 0 then v1.2.1 else (v_M_byDeficits y2 (y2.1 1 (am_ix 15)))) : Int32) < v1.2.1 then (if (v_M_in y2 (if (v1.2.2.1 - v1.2.2.1 / 2 * 2) = 1 then ((v_M_of h a1 3) - ((v1.2.2.1 + 1) / 2)) else ((v_M_of h a1 3) + (v1.2.2.1 / 2))) 0 1439) = 0 then v1.2.1 else (v_M_byDeficits y2 (y2.1 1 (am_ix 15)))) else v1.2.1), (v1.2.2.1 + 1), y2))) else (.inr (v1.1, v1.2.1, v1.2.2.1, v1.2.2.2)))
def ps_M_best_26 (h : HP) (a1 : Int32) (a2 : Int32) (v1 : Int32 × Int32 × Int32 × HP) : Prop := ((v1.2.2.1 ≤ (2 * a2) → ((p_M_becomes v1.2.2.2 a1 3 (if (v1.2.2.1 - v1.2.2.1 / 2 * 2) = 1 then ((v_M_of h a1 3) - ((v1.2.2.1 + 1) / 2)) else ((v_M_of h a1 3) + (v1.2.2.1 / 2)))) ∧ (∀ y2, v_M_becomes v1.2.2.2 a1 3 (if (v1.2.2.1 - v1.2.2.1 / 2 * 2) = 1 then ((v_M_of h a1 3) - ((v1.2.2.1 + 1) / 2)) else ((v_M_of h a1 3) + (v1.2.2.1 / 2))) = y2 → (((v_M_in y2 (if (v1.2.2.1 - v1.2.2.1 / 2 * 2) = 1 then ((v_M_of h a1 3) - ((v1.2.2.1 + 1) / 2)) else ((v_M_of h a1 3) + (v1.2.2.1 / 2))) 0 1439) = 0 → True) ∧ (¬ (v_M_in y2 (if (v1.2.2.1 - v1.2.2.1 / 2 * 2) = 1 then ((v_M_of h a1 3) - ((v1.2.2.1 + 1) / 2)) else ((v_M_of h a1 3) + (v1.2.2.1 / 2))) 0 1439) = 0 → (p_M_byDeficits y2 (y2.1 1 (am_ix 15)))))))) ∧ (¬ v1.2.2.1 ≤ (2 * a2) → True))
def v_M_best (h : HP) (a1 : Int32) (a2 : Int32) : Int32 × HP := (match itr (s_M_best_26 h a1 a2) NF ((v_M_of h a1 3), (v_M_byDeficits h (h.1 1 (am_ix 15))), 1, h) with | some r1 => (bnd (v_M_becomes r1.2.2.2 a1 3 (v_M_of h a1 3)) fun y3 => (r1.1, y3)) | none => (0, h))
def p_M_best (h : HP) (a1 : Int32) (a2 : Int32) : Prop := ((p_M_of h a1 3) ∧ ((p_M_byDeficits h (h.1 1 (am_ix 15))) ∧ (itrp (s_M_best_26 h a1 a2) (ps_M_best_26 h a1 a2) NF ((v_M_of h a1 3), (v_M_byDeficits h (h.1 1 (am_ix 15))), 1, h) ∧ ∀ r1, itr (s_M_best_26 h a1 a2) NF ((v_M_of h a1 3), (v_M_byDeficits h (h.1 1 (am_ix 15))), 1, h) = some r1 → (p_M_becomes r1.2.2.2 a1 3 (v_M_of h a1 3)))))
def g_M_best (_ _ : List Sh) (as : List Value) (h : HP) : GR := match as with
  | [.ref o1, .int a1, .int a2] => (Nat.beq o1 0, p_M_best h a1 a2, none, some (.int (v_M_best h a1 a2).1), (v_M_best h a1 a2).2)
  | _ => bad h
def d_M_best (k : Nat) : CD := (k, yX6_best, cX6_best, 9, some .int, 3, 7, 160, 0, false, true, g_M_best)
theorem chk_M_best : ∀ pc, am_chk cX6_best k_M_best pc = true := am_chkall 147 (by decide +kernel) (fun pc h => by unfold k_M_best; rw [Nat.ble_eq_true_of_le h]; rfl)
theorem pf_M_best : plainFor yX6_best = true := by decide +kernel
theorem cu_M_best : Cond.code yX6_best cX6_best 9 (some .int) ∈ am_U := am_tb 1276 (by decide +kernel) rfl
set_option maxHeartbeats 20000000 in
set_option maxRecDepth 100000 in
theorem ev_M_best {e1 ro : List Sh} {P : AR → HP → Prop} (h : HP) (a1 : Int32) (a2 : Int32) (hp : p_M_best h a1 a2) (hP : ∀ q, v_M_best h a1 a2 = q → RIW P h q) : am_Ev m_M_best (WM ++ e1) ro P (0, [.ref 0, .int a1, .int a2, .retAddr 0, .retAddr 0, .retAddr 0, .retAddr 0, .retAddr 0, .retAddr 0], [], h) := by
  unfold p_M_best at hp
  refine am_Ev_G [21] 400 _ ?_
  show ((p_M_of h a1 3) ∧ ((am_in 15 163) ∧ ((p_M_byDeficits h (h.1 1 (am_ix 15))) ∧ am_Ev m_M_best (WM ++ e1) ro P (21, [.ref 0, .int a1, .int a2, .int (v_M_of h a1 3), .int (v_M_of h a1 3), .retAddr 0, .retAddr 0, .retAddr 0, .retAddr 0], [.int (v_M_byDeficits h (h.1 1 (am_ix 15)))], h))))
  obtain ⟨hob, hp⟩ := hp
  refine ⟨hob, ?_⟩
  refine ⟨⟨by decide, by decide⟩, ?_⟩
  obtain ⟨hob, hp⟩ := hp
  refine ⟨hob, ?_⟩
  refine am_Ev_G [26] 400 _ ?_
  show am_Ev m_M_best (WM ++ e1) ro P (26, [.ref 0, .int a1, .int a2, .int (v_M_of h a1 3), .int (v_M_of h a1 3), .int (v_M_byDeficits h (h.1 1 (am_ix 15))), .int 1, .retAddr 0, .retAddr 0], [], h)
  obtain ⟨hpl, hp⟩ := hp
  refine am_itr (E := (fun (v1 : Int32 × Int32 × Int32 × HP) => am_Ev m_M_best (WM ++ e1) ro P (26, [.ref 0, .int a1, .int a2, .int (v_M_of h a1 3), .int v1.1, .int v1.2.1, .int v1.2.2.1, .retAddr 0, .retAddr 0], [], v1.2.2.2))) (E' := (fun (r1 : Int32 × Int32 × Int32 × HP) => am_Ev m_M_best (WM ++ e1) ro P (137, [.ref 0, .int a1, .int a2, .int (v_M_of h a1 3), .int r1.1, .int r1.2.1, .int r1.2.2.1, .retAddr 0, .retAddr 0], [], r1.2.2.2))) (s_M_best_26 h a1 a2) (ps_M_best_26 h a1 a2) ?_ NF ((v_M_of h a1 3), (v_M_byDeficits h (h.1 1 (am_ix 15))), 1, h) hpl ?_
  · intro v1 hp hc1 hx1
    show am_Ev m_M_best (WM ++ e1) ro P (26, [.ref 0, .int a1, .int a2, .int (v_M_of h a1 3), .int v1.1, .int v1.2.1, .int v1.2.2.1, .retAddr 0, .retAddr 0], [], v1.2.2.2)
    unfold ps_M_best_26 at hp
    refine am_Ev_G [39, 137] 400 _ ?_
    show ((¬ v1.2.2.1 ≤ (2 * a2) → am_Ev m_M_best (WM ++ e1) ro P (137, [.ref 0, .int a1, .int a2, .int (v_M_of h a1 3), .int v1.1, .int v1.2.1, .int v1.2.2.1, .retAddr 0, .retAddr 0], [], v1.2.2.2)) ∧ (v1.2.2.1 ≤ (2 * a2) → ((¬ 2 = 0) ∧ am_Ev m_M_best (WM ++ e1) ro P (39, [.ref 0, .int a1, .int a2, .int (v_M_of h a1 3), .int v1.1, .int v1.2.1, .int v1.2.2.1, .retAddr 0, .retAddr 0], [.int 1, .int (v1.2.2.1 - v1.2.2.1 / 2 * 2)], v1.2.2.2))))
    refine ⟨fun c1 => ?_, fun c1 => ?_⟩
    · skip
      exact hx1 (v1.1, v1.2.1, v1.2.2.1, v1.2.2.2) (by unfold s_M_best_26; simp only [if_neg c1])
    · have hp := hp.1 c1
      refine ⟨(by decide), ?_⟩
      have key2 : am_Ev m_M_best (WM ++ e1) ro P (59, [.ref 0, .int a1, .int a2, .int (v_M_of h a1 3), .int v1.1, .int v1.2.1, .int v1.2.2.1, .retAddr 0, .retAddr 0], [.int (if (v1.2.2.1 - v1.2.2.1 / 2 * 2) = 1 then ((v_M_of h a1 3) - ((v1.2.2.1 + 1) / 2)) else ((v_M_of h a1 3) + (v1.2.2.1 / 2)))], v1.2.2.2) := by
        refine am_Ev_G [69] 400 _ ?_
        show ((p_M_becomes v1.2.2.2 a1 3 (if (v1.2.2.1 - v1.2.2.1 / 2 * 2) = 1 then ((v_M_of h a1 3) - ((v1.2.2.1 + 1) / 2)) else ((v_M_of h a1 3) + (v1.2.2.1 / 2)))) ∧ am_Ev m_M_best (WM ++ e1) ro P (69, [.ref 0, .int a1, .int a2, .int (v_M_of h a1 3), .int v1.1, .int v1.2.1, .int v1.2.2.1, .int (if (v1.2.2.1 - v1.2.2.1 / 2 * 2) = 1 then ((v_M_of h a1 3) - ((v1.2.2.1 + 1) / 2)) else ((v_M_of h a1 3) + (v1.2.2.1 / 2))), .retAddr 0], [], (v_M_becomes v1.2.2.2 a1 3 (if (v1.2.2.1 - v1.2.2.1 / 2 * 2) = 1 then ((v_M_of h a1 3) - ((v1.2.2.1 + 1) / 2)) else ((v_M_of h a1 3) + (v1.2.2.1 / 2))))))
        obtain ⟨hob, hp⟩ := hp
        refine ⟨hob, ?_⟩
        obtain ⟨y2, c3⟩ : ∃ y, v_M_becomes v1.2.2.2 a1 3 (if (v1.2.2.1 - v1.2.2.1 / 2 * 2) = 1 then ((v_M_of h a1 3) - ((v1.2.2.1 + 1) / 2)) else ((v_M_of h a1 3) + (v1.2.2.1 / 2))) = y := ⟨_, rfl⟩
        rw [c3]
        have hp := hp _ c3
        show am_Ev m_M_best (WM ++ e1) ro P (69, [.ref 0, .int a1, .int a2, .int (v_M_of h a1 3), .int v1.1, .int v1.2.1, .int v1.2.2.1, .int (if (v1.2.2.1 - v1.2.2.1 / 2 * 2) = 1 then ((v_M_of h a1 3) - ((v1.2.2.1 + 1) / 2)) else ((v_M_of h a1 3) + (v1.2.2.1 / 2))), .retAddr 0], [], y2)
        refine am_Ev_G [78] 400 _ ?_
        show am_Ev m_M_best (WM ++ e1) ro P (78, [.ref 0, .int a1, .int a2, .int (v_M_of h a1 3), .int v1.1, .int v1.2.1, .int v1.2.2.1, .int (if (v1.2.2.1 - v1.2.2.1 / 2 * 2) = 1 then ((v_M_of h a1 3) - ((v1.2.2.1 + 1) / 2)) else ((v_M_of h a1 3) + (v1.2.2.1 / 2))), .retAddr 0], [.int (v_M_in y2 (if (v1.2.2.1 - v1.2.2.1 / 2 * 2) = 1 then ((v_M_of h a1 3) - ((v1.2.2.1 + 1) / 2)) else ((v_M_of h a1 3) + (v1.2.2.1 / 2))) 0 1439)], y2)
        have hpa := hp
        have key4 : am_Ev m_M_best (WM ++ e1) ro P (97, [.ref 0, .int a1, .int a2, .int (v_M_of h a1 3), .int v1.1, .int v1.2.1, .int v1.2.2.1, .int (if (v1.2.2.1 - v1.2.2.1 / 2 * 2) = 1 then ((v_M_of h a1 3) - ((v1.2.2.1 + 1) / 2)) else ((v_M_of h a1 3) + (v1.2.2.1 / 2))), .retAddr 0], [.int (if (v_M_in y2 (if (v1.2.2.1 - v1.2.2.1 / 2 * 2) = 1 then ((v_M_of h a1 3) - ((v1.2.2.1 + 1) / 2)) else ((v_M_of h a1 3) + (v1.2.2.1 / 2))) 0 1439) = 0 then v1.2.1 else (v_M_byDeficits y2 (y2.1 1 (am_ix 15))))], y2) := by
          refine am_Ev_G [103] 400 _ ?_
          show am_Ev m_M_best (WM ++ e1) ro P (103, [.ref 0, .int a1, .int a2, .int (v_M_of h a1 3), .int v1.1, .int v1.2.1, .int v1.2.2.1, .int (if (v1.2.2.1 - v1.2.2.1 / 2 * 2) = 1 then ((v_M_of h a1 3) - ((v1.2.2.1 + 1) / 2)) else ((v_M_of h a1 3) + (v1.2.2.1 / 2))), .int (if (v_M_in y2 (if (v1.2.2.1 - v1.2.2.1 / 2 * 2) = 1 then ((v_M_of h a1 3) - ((v1.2.2.1 + 1) / 2)) else ((v_M_of h a1 3) + (v1.2.2.1 / 2))) 0 1439) = 0 then v1.2.1 else (v_M_byDeficits y2 (y2.1 1 (am_ix 15))))], [.int v1.2.1, .int (if (v_M_in y2 (if (v1.2.2.1 - v1.2.2.1 / 2 * 2) = 1 then ((v_M_of h a1 3) - ((v1.2.2.1 + 1) / 2)) else ((v_M_of h a1 3) + (v1.2.2.1 / 2))) 0 1439) = 0 then v1.2.1 else (v_M_byDeficits y2 (y2.1 1 (am_ix 15))))], y2)
          have key5 : am_Ev m_M_best (WM ++ e1) ro P (113, [.ref 0, .int a1, .int a2, .int (v_M_of h a1 3), .int v1.1, .int v1.2.1, .int v1.2.2.1, .int (if (v1.2.2.1 - v1.2.2.1 / 2 * 2) = 1 then ((v_M_of h a1 3) - ((v1.2.2.1 + 1) / 2)) else ((v_M_of h a1 3) + (v1.2.2.1 / 2))), .int (if (v_M_in y2 (if (v1.2.2.1 - v1.2.2.1 / 2 * 2) = 1 then ((v_M_of h a1 3) - ((v1.2.2.1 + 1) / 2)) else ((v_M_of h a1 3) + (v1.2.2.1 / 2))) 0 1439) = 0 then v1.2.1 else (v_M_byDeficits y2 (y2.1 1 (am_ix 15))))], [.int (if ((if (v_M_in y2 (if (v1.2.2.1 - v1.2.2.1 / 2 * 2) = 1 then ((v_M_of h a1 3) - ((v1.2.2.1 + 1) / 2)) else ((v_M_of h a1 3) + (v1.2.2.1 / 2))) 0 1439) = 0 then v1.2.1 else (v_M_byDeficits y2 (y2.1 1 (am_ix 15)))) : Int32) < v1.2.1 then (if (v1.2.2.1 - v1.2.2.1 / 2 * 2) = 1 then ((v_M_of h a1 3) - ((v1.2.2.1 + 1) / 2)) else ((v_M_of h a1 3) + (v1.2.2.1 / 2))) else v1.1)], y2) := by
            refine am_Ev_G [119] 400 _ ?_
            show am_Ev m_M_best (WM ++ e1) ro P (119, [.ref 0, .int a1, .int a2, .int (v_M_of h a1 3), .int (if ((if (v_M_in y2 (if (v1.2.2.1 - v1.2.2.1 / 2 * 2) = 1 then ((v_M_of h a1 3) - ((v1.2.2.1 + 1) / 2)) else ((v_M_of h a1 3) + (v1.2.2.1 / 2))) 0 1439) = 0 then v1.2.1 else (v_M_byDeficits y2 (y2.1 1 (am_ix 15)))) : Int32) < v1.2.1 then (if (v1.2.2.1 - v1.2.2.1 / 2 * 2) = 1 then ((v_M_of h a1 3) - ((v1.2.2.1 + 1) / 2)) else ((v_M_of h a1 3) + (v1.2.2.1 / 2))) else v1.1), .int v1.2.1, .int v1.2.2.1, .int (if (v1.2.2.1 - v1.2.2.1 / 2 * 2) = 1 then ((v_M_of h a1 3) - ((v1.2.2.1 + 1) / 2)) else ((v_M_of h a1 3) + (v1.2.2.1 / 2))), .int (if (v_M_in y2 (if (v1.2.2.1 - v1.2.2.1 / 2 * 2) = 1 then ((v_M_of h a1 3) - ((v1.2.2.1 + 1) / 2)) else ((v_M_of h a1 3) + (v1.2.2.1 / 2))) 0 1439) = 0 then v1.2.1 else (v_M_byDeficits y2 (y2.1 1 (am_ix 15))))], [.int v1.2.1, .int (if (v_M_in y2 (if (v1.2.2.1 - v1.2.2.1 / 2 * 2) = 1 then ((v_M_of h a1 3) - ((v1.2.2.1 + 1) / 2)) else ((v_M_of h a1 3) + (v1.2.2.1 / 2))) 0 1439) = 0 then v1.2.1 else (v_M_byDeficits y2 (y2.1 1 (am_ix 15))))], y2)
            have key6 : am_Ev m_M_best (WM ++ e1) ro P (129, [.ref 0, .int a1, .int a2, .int (v_M_of h a1 3), .int (if ((if (v_M_in y2 (if (v1.2.2.1 - v1.2.2.1 / 2 * 2) = 1 then ((v_M_of h a1 3) - ((v1.2.2.1 + 1) / 2)) else ((v_M_of h a1 3) + (v1.2.2.1 / 2))) 0 1439) = 0 then v1.2.1 else (v_M_byDeficits y2 (y2.1 1 (am_ix 15)))) : Int32) < v1.2.1 then (if (v1.2.2.1 - v1.2.2.1 / 2 * 2) = 1 then ((v_M_of h a1 3) - ((v1.2.2.1 + 1) / 2)) else ((v_M_of h a1 3) + (v1.2.2.1 / 2))) else v1.1), .int v1.2.1, .int v1.2.2.1, .int (if (v1.2.2.1 - v1.2.2.1 / 2 * 2) = 1 then ((v_M_of h a1 3) - ((v1.2.2.1 + 1) / 2)) else ((v_M_of h a1 3) + (v1.2.2.1 / 2))), .int (if (v_M_in y2 (if (v1.2.2.1 - v1.2.2.1 / 2 * 2) = 1 then ((v_M_of h a1 3) - ((v1.2.2.1 + 1) / 2)) else ((v_M_of h a1 3) + (v1.2.2.1 / 2))) 0 1439) = 0 then v1.2.1 else (v_M_byDeficits y2 (y2.1 1 (am_ix 15))))], [.int (if ((if (v_M_in y2 (if (v1.2.2.1 - v1.2.2.1 / 2 * 2) = 1 then ((v_M_of h a1 3) - ((v1.2.2.1 + 1) / 2)) else ((v_M_of h a1 3) + (v1.2.2.1 / 2))) 0 1439) = 0 then v1.2.1 else (v_M_byDeficits y2 (y2.1 1 (am_ix 15)))) : Int32) < v1.2.1 then (if (v_M_in y2 (if (v1.2.2.1 - v1.2.2.1 / 2 * 2) = 1 then ((v_M_of h a1 3) - ((v1.2.2.1 + 1) / 2)) else ((v_M_of h a1 3) + (v1.2.2.1 / 2))) 0 1439) = 0 then v1.2.1 else (v_M_byDeficits y2 (y2.1 1 (am_ix 15)))) else v1.2.1)], y2) := by
              refine am_Ev_G [26] 400 _ ?_
              show am_Ev m_M_best (WM ++ e1) ro P (26, [.ref 0, .int a1, .int a2, .int (v_M_of h a1 3), .int (if ((if (v_M_in y2 (if (v1.2.2.1 - v1.2.2.1 / 2 * 2) = 1 then ((v_M_of h a1 3) - ((v1.2.2.1 + 1) / 2)) else ((v_M_of h a1 3) + (v1.2.2.1 / 2))) 0 1439) = 0 then v1.2.1 else (v_M_byDeficits y2 (y2.1 1 (am_ix 15)))) : Int32) < v1.2.1 then (if (v1.2.2.1 - v1.2.2.1 / 2 * 2) = 1 then ((v_M_of h a1 3) - ((v1.2.2.1 + 1) / 2)) else ((v_M_of h a1 3) + (v1.2.2.1 / 2))) else v1.1), .int (if ((if (v_M_in y2 (if (v1.2.2.1 - v1.2.2.1 / 2 * 2) = 1 then ((v_M_of h a1 3) - ((v1.2.2.1 + 1) / 2)) else ((v_M_of h a1 3) + (v1.2.2.1 / 2))) 0 1439) = 0 then v1.2.1 else (v_M_byDeficits y2 (y2.1 1 (am_ix 15)))) : Int32) < v1.2.1 then (if (v_M_in y2 (if (v1.2.2.1 - v1.2.2.1 / 2 * 2) = 1 then ((v_M_of h a1 3) - ((v1.2.2.1 + 1) / 2)) else ((v_M_of h a1 3) + (v1.2.2.1 / 2))) 0 1439) = 0 then v1.2.1 else (v_M_byDeficits y2 (y2.1 1 (am_ix 15)))) else v1.2.1), .int (v1.2.2.1 + 1), .int (if (v1.2.2.1 - v1.2.2.1 / 2 * 2) = 1 then ((v_M_of h a1 3) - ((v1.2.2.1 + 1) / 2)) else ((v_M_of h a1 3) + (v1.2.2.1 / 2))), .int (if (v_M_in y2 (if (v1.2.2.1 - v1.2.2.1 / 2 * 2) = 1 then ((v_M_of h a1 3) - ((v1.2.2.1 + 1) / 2)) else ((v_M_of h a1 3) + (v1.2.2.1 / 2))) 0 1439) = 0 then v1.2.1 else (v_M_byDeficits y2 (y2.1 1 (am_ix 15))))], [], y2)
              refine am_fg 7 ?_
              refine am_fg 8 ?_
              exact hc1 ((if ((if (v_M_in y2 (if (v1.2.2.1 - v1.2.2.1 / 2 * 2) = 1 then ((v_M_of h a1 3) - ((v1.2.2.1 + 1) / 2)) else ((v_M_of h a1 3) + (v1.2.2.1 / 2))) 0 1439) = 0 then v1.2.1 else (v_M_byDeficits y2 (y2.1 1 (am_ix 15)))) : Int32) < v1.2.1 then (if (v1.2.2.1 - v1.2.2.1 / 2 * 2) = 1 then ((v_M_of h a1 3) - ((v1.2.2.1 + 1) / 2)) else ((v_M_of h a1 3) + (v1.2.2.1 / 2))) else v1.1), (if ((if (v_M_in y2 (if (v1.2.2.1 - v1.2.2.1 / 2 * 2) = 1 then ((v_M_of h a1 3) - ((v1.2.2.1 + 1) / 2)) else ((v_M_of h a1 3) + (v1.2.2.1 / 2))) 0 1439) = 0 then v1.2.1 else (v_M_byDeficits y2 (y2.1 1 (am_ix 15)))) : Int32) < v1.2.1 then (if (v_M_in y2 (if (v1.2.2.1 - v1.2.2.1 / 2 * 2) = 1 then ((v_M_of h a1 3) - ((v1.2.2.1 + 1) / 2)) else ((v_M_of h a1 3) + (v1.2.2.1 / 2))) 0 1439) = 0 then v1.2.1 else (v_M_byDeficits y2 (y2.1 1 (am_ix 15)))) else v1.2.1), (v1.2.2.1 + 1), y2) (by unfold s_M_best_26; simp only [if_pos c1, bnd, c3])
            refine am_Ev_G [129] 400 _ ?_
            show ((¬ ((if (v_M_in y2 (if (v1.2.2.1 - v1.2.2.1 / 2 * 2) = 1 then ((v_M_of h a1 3) - ((v1.2.2.1 + 1) / 2)) else ((v_M_of h a1 3) + (v1.2.2.1 / 2))) 0 1439) = 0 then v1.2.1 else (v_M_byDeficits y2 (y2.1 1 (am_ix 15)))) : Int32) < v1.2.1 → am_Ev m_M_best (WM ++ e1) ro P (129, [.ref 0, .int a1, .int a2, .int (v_M_of h a1 3), .int (if ((if (v_M_in y2 (if (v1.2.2.1 - v1.2.2.1 / 2 * 2) = 1 then ((v_M_of h a1 3) - ((v1.2.2.1 + 1) / 2)) else ((v_M_of h a1 3) + (v1.2.2.1 / 2))) 0 1439) = 0 then v1.2.1 else (v_M_byDeficits y2 (y2.1 1 (am_ix 15)))) : Int32) < v1.2.1 then (if (v1.2.2.1 - v1.2.2.1 / 2 * 2) = 1 then ((v_M_of h a1 3) - ((v1.2.2.1 + 1) / 2)) else ((v_M_of h a1 3) + (v1.2.2.1 / 2))) else v1.1), .int v1.2.1, .int v1.2.2.1, .int (if (v1.2.2.1 - v1.2.2.1 / 2 * 2) = 1 then ((v_M_of h a1 3) - ((v1.2.2.1 + 1) / 2)) else ((v_M_of h a1 3) + (v1.2.2.1 / 2))), .int (if (v_M_in y2 (if (v1.2.2.1 - v1.2.2.1 / 2 * 2) = 1 then ((v_M_of h a1 3) - ((v1.2.2.1 + 1) / 2)) else ((v_M_of h a1 3) + (v1.2.2.1 / 2))) 0 1439) = 0 then v1.2.1 else (v_M_byDeficits y2 (y2.1 1 (am_ix 15))))], [.int v1.2.1], y2)) ∧ (((if (v_M_in y2 (if (v1.2.2.1 - v1.2.2.1 / 2 * 2) = 1 then ((v_M_of h a1 3) - ((v1.2.2.1 + 1) / 2)) else ((v_M_of h a1 3) + (v1.2.2.1 / 2))) 0 1439) = 0 then v1.2.1 else (v_M_byDeficits y2 (y2.1 1 (am_ix 15)))) : Int32) < v1.2.1 → am_Ev m_M_best (WM ++ e1) ro P (129, [.ref 0, .int a1, .int a2, .int (v_M_of h a1 3), .int (if ((if (v_M_in y2 (if (v1.2.2.1 - v1.2.2.1 / 2 * 2) = 1 then ((v_M_of h a1 3) - ((v1.2.2.1 + 1) / 2)) else ((v_M_of h a1 3) + (v1.2.2.1 / 2))) 0 1439) = 0 then v1.2.1 else (v_M_byDeficits y2 (y2.1 1 (am_ix 15)))) : Int32) < v1.2.1 then (if (v1.2.2.1 - v1.2.2.1 / 2 * 2) = 1 then ((v_M_of h a1 3) - ((v1.2.2.1 + 1) / 2)) else ((v_M_of h a1 3) + (v1.2.2.1 / 2))) else v1.1), .int v1.2.1, .int v1.2.2.1, .int (if (v1.2.2.1 - v1.2.2.1 / 2 * 2) = 1 then ((v_M_of h a1 3) - ((v1.2.2.1 + 1) / 2)) else ((v_M_of h a1 3) + (v1.2.2.1 / 2))), .int (if (v_M_in y2 (if (v1.2.2.1 - v1.2.2.1 / 2 * 2) = 1 then ((v_M_of h a1 3) - ((v1.2.2.1 + 1) / 2)) else ((v_M_of h a1 3) + (v1.2.2.1 / 2))) 0 1439) = 0 then v1.2.1 else (v_M_byDeficits y2 (y2.1 1 (am_ix 15))))], [.int (if (v_M_in y2 (if (v1.2.2.1 - v1.2.2.1 / 2 * 2) = 1 then ((v_M_of h a1 3) - ((v1.2.2.1 + 1) / 2)) else ((v_M_of h a1 3) + (v1.2.2.1 / 2))) 0 1439) = 0 then v1.2.1 else (v_M_byDeficits y2 (y2.1 1 (am_ix 15))))], y2)))
            refine ⟨fun c7 => ?_, fun c7 => ?_⟩
            · skip
              simpa only [if_neg c7] using key6
            · skip
              simpa only [if_pos c7] using key6
          refine am_Ev_G [113] 400 _ ?_
          show ((¬ ((if (v_M_in y2 (if (v1.2.2.1 - v1.2.2.1 / 2 * 2) = 1 then ((v_M_of h a1 3) - ((v1.2.2.1 + 1) / 2)) else ((v_M_of h a1 3) + (v1.2.2.1 / 2))) 0 1439) = 0 then v1.2.1 else (v_M_byDeficits y2 (y2.1 1 (am_ix 15)))) : Int32) < v1.2.1 → am_Ev m_M_best (WM ++ e1) ro P (113, [.ref 0, .int a1, .int a2, .int (v_M_of h a1 3), .int v1.1, .int v1.2.1, .int v1.2.2.1, .int (if (v1.2.2.1 - v1.2.2.1 / 2 * 2) = 1 then ((v_M_of h a1 3) - ((v1.2.2.1 + 1) / 2)) else ((v_M_of h a1 3) + (v1.2.2.1 / 2))), .int (if (v_M_in y2 (if (v1.2.2.1 - v1.2.2.1 / 2 * 2) = 1 then ((v_M_of h a1 3) - ((v1.2.2.1 + 1) / 2)) else ((v_M_of h a1 3) + (v1.2.2.1 / 2))) 0 1439) = 0 then v1.2.1 else (v_M_byDeficits y2 (y2.1 1 (am_ix 15))))], [.int v1.1], y2)) ∧ (((if (v_M_in y2 (if (v1.2.2.1 - v1.2.2.1 / 2 * 2) = 1 then ((v_M_of h a1 3) - ((v1.2.2.1 + 1) / 2)) else ((v_M_of h a1 3) + (v1.2.2.1 / 2))) 0 1439) = 0 then v1.2.1 else (v_M_byDeficits y2 (y2.1 1 (am_ix 15)))) : Int32) < v1.2.1 → am_Ev m_M_best (WM ++ e1) ro P (113, [.ref 0, .int a1, .int a2, .int (v_M_of h a1 3), .int v1.1, .int v1.2.1, .int v1.2.2.1, .int (if (v1.2.2.1 - v1.2.2.1 / 2 * 2) = 1 then ((v_M_of h a1 3) - ((v1.2.2.1 + 1) / 2)) else ((v_M_of h a1 3) + (v1.2.2.1 / 2))), .int (if (v_M_in y2 (if (v1.2.2.1 - v1.2.2.1 / 2 * 2) = 1 then ((v_M_of h a1 3) - ((v1.2.2.1 + 1) / 2)) else ((v_M_of h a1 3) + (v1.2.2.1 / 2))) 0 1439) = 0 then v1.2.1 else (v_M_byDeficits y2 (y2.1 1 (am_ix 15))))], [.int (if (v1.2.2.1 - v1.2.2.1 / 2 * 2) = 1 then ((v_M_of h a1 3) - ((v1.2.2.1 + 1) / 2)) else ((v_M_of h a1 3) + (v1.2.2.1 / 2)))], y2)))
          refine ⟨fun c8 => ?_, fun c8 => ?_⟩
          · skip
            simpa only [if_neg c8] using key5
          · skip
            simpa only [if_pos c8] using key5
        have hp := hpa
        refine am_Ev_G [97] 400 _ ?_
        show (((v_M_in y2 (if (v1.2.2.1 - v1.2.2.1 / 2 * 2) = 1 then ((v_M_of h a1 3) - ((v1.2.2.1 + 1) / 2)) else ((v_M_of h a1 3) + (v1.2.2.1 / 2))) 0 1439) = 0 → am_Ev m_M_best (WM ++ e1) ro P (97, [.ref 0, .int a1, .int a2, .int (v_M_of h a1 3), .int v1.1, .int v1.2.1, .int v1.2.2.1, .int (if (v1.2.2.1 - v1.2.2.1 / 2 * 2) = 1 then ((v_M_of h a1 3) - ((v1.2.2.1 + 1) / 2)) else ((v_M_of h a1 3) + (v1.2.2.1 / 2))), .retAddr 0], [.int v1.2.1], y2)) ∧ (¬ (v_M_in y2 (if (v1.2.2.1 - v1.2.2.1 / 2 * 2) = 1 then ((v_M_of h a1 3) - ((v1.2.2.1 + 1) / 2)) else ((v_M_of h a1 3) + (v1.2.2.1 / 2))) 0 1439) = 0 → ((am_in 15 163) ∧ ((p_M_byDeficits y2 (y2.1 1 (am_ix 15))) ∧ am_Ev m_M_best (WM ++ e1) ro P (97, [.ref 0, .int a1, .int a2, .int (v_M_of h a1 3), .int v1.1, .int v1.2.1, .int v1.2.2.1, .int (if (v1.2.2.1 - v1.2.2.1 / 2 * 2) = 1 then ((v_M_of h a1 3) - ((v1.2.2.1 + 1) / 2)) else ((v_M_of h a1 3) + (v1.2.2.1 / 2))), .retAddr 0], [.int (v_M_byDeficits y2 (y2.1 1 (am_ix 15)))], y2)))))
        refine ⟨fun c9 => ?_, fun c9 => ?_⟩
        · skip
          simpa only [if_pos c9] using key4
        · have hp := hp.2 c9
          refine ⟨⟨by decide, by decide⟩, ?_⟩
          refine ⟨hp, ?_⟩
          simpa only [if_neg c9] using key4
      refine am_Ev_G [59] 400 _ ?_
      show ((¬ (v1.2.2.1 - v1.2.2.1 / 2 * 2) = 1 → ((¬ 2 = 0) ∧ am_Ev m_M_best (WM ++ e1) ro P (59, [.ref 0, .int a1, .int a2, .int (v_M_of h a1 3), .int v1.1, .int v1.2.1, .int v1.2.2.1, .retAddr 0, .retAddr 0], [.int ((v_M_of h a1 3) + (v1.2.2.1 / 2))], v1.2.2.2))) ∧ ((v1.2.2.1 - v1.2.2.1 / 2 * 2) = 1 → ((¬ 2 = 0) ∧ am_Ev m_M_best (WM ++ e1) ro P (59, [.ref 0, .int a1, .int a2, .int (v_M_of h a1 3), .int v1.1, .int v1.2.1, .int v1.2.2.1, .retAddr 0, .retAddr 0], [.int ((v_M_of h a1 3) - ((v1.2.2.1 + 1) / 2))], v1.2.2.2))))
      refine ⟨fun c10 => ?_, fun c10 => ?_⟩
      · skip
        refine ⟨(by decide), ?_⟩
        simpa only [if_neg c10] using key2
      · skip
        refine ⟨(by decide), ?_⟩
        simpa only [if_pos c10] using key2
  · intro r1 hr11
    have hp := hp _ hr11
    show am_Ev m_M_best (WM ++ e1) ro P (137, [.ref 0, .int a1, .int a2, .int (v_M_of h a1 3), .int r1.1, .int r1.2.1, .int r1.2.2.1, .retAddr 0, .retAddr 0], [], r1.2.2.2)
    refine am_Ev_G [144] 400 _ ?_
    show ((p_M_becomes r1.2.2.2 a1 3 (v_M_of h a1 3)) ∧ am_Ev m_M_best (WM ++ e1) ro P (144, [.ref 0, .int a1, .int a2, .int (v_M_of h a1 3), .int r1.1, .int r1.2.1, .int r1.2.2.1, .retAddr 0, .retAddr 0], [], (v_M_becomes r1.2.2.2 a1 3 (v_M_of h a1 3))))
    refine ⟨hp, ?_⟩
    obtain ⟨y3, c12⟩ : ∃ y, v_M_becomes r1.2.2.2 a1 3 (v_M_of h a1 3) = y := ⟨_, rfl⟩
    rw [c12]
    show am_Ev m_M_best (WM ++ e1) ro P (144, [.ref 0, .int a1, .int a2, .int (v_M_of h a1 3), .int r1.1, .int r1.2.1, .int r1.2.2.1, .retAddr 0, .retAddr 0], [], y3)
    refine am_Ev_G [] 400 _ ?_
    show P (.inl (some (.int r1.1))) y3
    exact hP (r1.1, y3) (by unfold v_M_best; simp only [hr11, bnd, c12])
theorem ok_M_best {l : Launch} (hl : l.stackTraces = false) (e1 ro : List Sh) (k : Nat) : am_Ok l (WM ++ e1) ro (d_M_best k) := by
  refine am_met hl (own := RX6) (M := m_M_best) rfl pf_M_best cu_M_best rfl rfl rfl rfl (fun _ => rfl) rfl ⟨chk_M_best, (am_c (fl_M_7) am_n), (am_c (lk_M_49) (am_c (lk_M_82) (am_c (lk_M_127) (am_c (lk_M_236) am_n)))), (am_n), (am_n)⟩ (am_n) (am_c (ok_M_of hl e1 _ 16) (am_c (ok_M_becomes hl e1 _ 16) (am_c (ok_M_in hl e1 _ 0) (am_c (ok_M_byDeficits hl e1 _ 16) am_n)))) (fun z => nomatch z) ?_ ?_
  · intro _ as h hg
    show g_thr (g_M_best (WM ++ e1) ro as h) = none
    unfold g_M_best
    split <;> rfl
  · intro as h hg hp
    revert hg hp
    show g_ok (g_M_best (WM ++ e1) ro as h) = true → g_pre (g_M_best (WM ++ e1) ro as h) → _ ∧ am_Ev m_M_best (WM ++ e1) ro (am_eq (g_M_best (WM ++ e1) ro as h)) (0, am_ent as 9, [], h)
    unfold g_M_best
    split
    · rename_i o1 a1 a2
      intro hc hp
      change (Nat.beq o1 0) = true at hc
      obtain rfl := am_beq hc
      exact ⟨Nat.le_of_ble_eq_true rfl, ev_M_best h a1 a2 hp eqRIW⟩
    · exact fun z => nomatch z
def k_M_bestTime (pc : Nat) : Ent := bif Nat.ble 58 pc then am_nop else bif Nat.ble 29 pc then (bif Nat.ble 43 pc then (bif Nat.ble 49 pc then (bif Nat.ble 53 pc then (bif Nat.ble 54 pc then (bif Nat.ble 57 pc then (bif Nat.beq pc 57 then (.ireturn, 0, 0, []) else am_nop) else (bif Nat.beq pc 54 then (.invokevirtual 134, 0, 0, []) else am_nop)) else (bif Nat.beq pc 53 then (.iconst 3, 3, 0, []) else am_nop)) else (bif Nat.ble 52 pc then (bif Nat.beq pc 52 then (.aload_n 0, 0, 0, []) else am_nop) else (bif Nat.beq pc 49 then (.goto 8, 0, 57, []) else am_nop))) else (bif Nat.ble 45 pc then (bif Nat.ble 46 pc then (bif Nat.beq pc 46 then (.invokevirtual 252, 0, 0, []) else am_nop) else (bif Nat.beq pc 45 then (.iload_n 2, 0, 2, []) else am_nop)) else (bif Nat.ble 44 pc then (bif Nat.beq pc 44 then (.iload_n 1, 0, 1, []) else am_nop) else (bif Nat.beq pc 43 then (.aload_n 0, 0, 0, []) else am_nop)))) else (bif Nat.ble 35 pc then (bif Nat.ble 37 pc then (bif Nat.ble 40 pc then (bif Nat.beq pc 40 then (.ifCond .eq 12, 0, 52, []) else am_nop) else (bif Nat.beq pc 37 then (.invokevirtual 60, 0, 0, []) else am_nop)) else (bif Nat.ble 36 pc then (bif Nat.beq pc 36 then (.iload_n 1, 0, 1, []) else am_nop) else (bif Nat.beq pc 35 then (.aload_n 0, 0, 0, []) else am_nop))) else (bif Nat.ble 31 pc then (bif Nat.ble 34 pc then (bif Nat.beq pc 34 then (.ireturn, 0, 0, []) else am_nop) else (bif Nat.beq pc 31 then (.invokevirtual 134, 0, 0, []) else am_nop)) else (bif Nat.ble 30 pc then (bif Nat.beq pc 30 then (.iconst 2, 2, 0, []) else am_nop) else (bif Nat.beq pc 29 then (.aload_n 0, 0, 0, []) else am_nop))))) else (bif Nat.ble 14 pc then (bif Nat.ble 20 pc then (bif Nat.ble 23 pc then (bif Nat.ble 26 pc then (bif Nat.beq pc 26 then (.ifCond .ne 9, 0, 35, []) else am_nop) else (bif Nat.beq pc 23 then (.invokestatic 127, 0, 0, []) else am_nop)) else (bif Nat.ble 21 pc then (bif Nat.beq pc 21 then (.bipush 120, 120, 0, []) else am_nop) else (bif Nat.beq pc 20 then (.iconst 0, 0, 0, []) else am_nop))) else (bif Nat.ble 18 pc then (bif Nat.ble 19 pc then (bif Nat.beq pc 19 then (.iload_n 2, 0, 2, []) else am_nop) else (bif Nat.beq pc 18 then (.ireturn, 0, 0, []) else am_nop)) else (bif Nat.ble 15 pc then (bif Nat.beq pc 15 then (.invokevirtual 134, 0, 0, []) else am_nop) else (bif Nat.beq pc 14 then (.iconst 1, 1, 0, []) else am_nop)))) else (bif Nat.ble 6 pc then (bif Nat.ble 10 pc then (bif Nat.ble 13 pc then (bif Nat.beq pc 13 then (.aload_n 0, 0, 0, []) else am_nop) else (bif Nat.beq pc 10 then (.ifCond .ne 9, 0, 19, []) else am_nop)) else (bif Nat.ble 7 pc then (bif Nat.beq pc 7 then (.invokevirtual 148, 0, 0, []) else am_nop) else (bif Nat.beq pc 6 then (.iload_n 1, 0, 1, []) else am_nop))) else (bif Nat.ble 2 pc then (bif Nat.ble 5 pc then (bif Nat.beq pc 5 then (.aload_n 0, 0, 0, []) else am_nop) else (bif Nat.beq pc 2 then (.putfield 38, 0, 0, []) else am_nop)) else (bif Nat.ble 1 pc then (bif Nat.beq pc 1 then (.iconst 0, 0, 0, []) else am_nop) else (bif Nat.beq pc 0 then (.aload_n 0, 0, 0, []) else am_nop)))))
theorem lk_M_252 : am_lnk RX6 252 (d_M_best 16) := ⟨⟨by decide, by decide⟩, am_tb 8 (by decide +kernel) rfl, Or.inr ⟨by decide, rfl, am_tb 1275 (by decide +kernel) rfl, am_tp 124 (by decide +kernel) rfl, ⟨TX6, 16, rfl⟩, Or.inl (am_tb 1273 (by decide +kernel) rfl)⟩⟩
def m_M_bestTime : MI := (k_M_bestTime, [(38, 6, 8)], [(60, d_M_isRun 16), (127, d_M_in 0), (134, d_M_refuses 16), (148, d_M_isTrip 16), (252, d_M_best 16)], [], [], [], [], 8, 188, some .int, fun _ => 0, 1)
def v_M_bestTime (h : HP) (a1 : Int32) (a2 : Int32) : Int32 × HP := (if (v_M_isTrip (am_si h 0 8 0) a1) = 0 then (bnd (v_M_refuses (am_si h 0 8 0) 1) fun y4 => (y4.1, y4.2)) else (if (v_M_in (am_si h 0 8 0) a2 0 120) = 0 then (bnd (v_M_refuses (am_si h 0 8 0) 2) fun y3 => (y3.1, y3.2)) else (if (v_M_isRun (am_si h 0 8 0) a1) = 0 then (bnd (v_M_refuses (am_si h 0 8 0) 3) fun y1 => (y1.1, y1.2)) else (bnd (v_M_best (am_si h 0 8 0) a1 a2) fun y2 => (y2.1, y2.2)))))
def p_M_bestTime (h : HP) (a1 : Int32) (a2 : Int32) : Prop := ((p_M_isTrip (am_si h 0 8 0) a1) ∧ (((v_M_isTrip (am_si h 0 8 0) a1) = 0 → True) ∧ (¬ (v_M_isTrip (am_si h 0 8 0) a1) = 0 → (((v_M_in (am_si h 0 8 0) a2 0 120) = 0 → True) ∧ (¬ (v_M_in (am_si h 0 8 0) a2 0 120) = 0 → ((p_M_isRun (am_si h 0 8 0) a1) ∧ (((v_M_isRun (am_si h 0 8 0) a1) = 0 → True) ∧ (¬ (v_M_isRun (am_si h 0 8 0) a1) = 0 → (p_M_best (am_si h 0 8 0) a1 a2)))))))))
def g_M_bestTime (_ _ : List Sh) (as : List Value) (h : HP) : GR := match as with
  | [.ref o1, .int a1, .int a2] => (Nat.beq o1 0, p_M_bestTime h a1 a2, none, some (.int (v_M_bestTime h a1 a2).1), (v_M_bestTime h a1 a2).2)
  | _ => bad h
def d_M_bestTime (k : Nat) : CD := (k, yX6_bestTime, cX6_bestTime, 3, some .int, 3, 8, 188, 0, false, true, g_M_bestTime)
theorem chk_M_bestTime : ∀ pc, am_chk cX6_bestTime k_M_bestTime pc = true := am_chkall 58 (by decide +kernel) (fun pc h => by unfold k_M_bestTime; rw [Nat.ble_eq_true_of_le h]; rfl)
theorem pf_M_bestTime : plainFor yX6_bestTime = true := by decide +kernel
theorem cu_M_bestTime : Cond.code yX6_bestTime cX6_bestTime 3 (some .int) ∈ am_U := am_tb 1272 (by decide +kernel) rfl
set_option maxHeartbeats 20000000 in
set_option maxRecDepth 100000 in
theorem ev_M_bestTime {e1 ro : List Sh} {P : AR → HP → Prop} (h : HP) (a1 : Int32) (a2 : Int32) (hp : p_M_bestTime h a1 a2) (hP : ∀ q, v_M_bestTime h a1 a2 = q → RIW P h q) : am_Ev m_M_bestTime (WM ++ e1) ro P (0, [.ref 0, .int a1, .int a2], [], h) := by
  unfold p_M_bestTime at hp
  refine am_Ev_G [18, 34, 49, 57] 400 _ ?_
  show ((p_M_isTrip (am_si h 0 8 0) a1) ∧ ((¬ (v_M_isTrip (am_si h 0 8 0) a1) = 0 → ((¬ (v_M_in (am_si h 0 8 0) a2 0 120) = 0 → ((p_M_isRun (am_si h 0 8 0) a1) ∧ (((v_M_isRun (am_si h 0 8 0) a1) = 0 → am_Ev m_M_bestTime (WM ++ e1) ro P (57, [.ref 0, .int a1, .int a2], [.int ((v_M_refuses (am_si h 0 8 0) 3).1)], ((v_M_refuses (am_si h 0 8 0) 3).2))) ∧ (¬ (v_M_isRun (am_si h 0 8 0) a1) = 0 → ((p_M_best (am_si h 0 8 0) a1 a2) ∧ am_Ev m_M_bestTime (WM ++ e1) ro P (49, [.ref 0, .int a1, .int a2], [.int ((v_M_best (am_si h 0 8 0) a1 a2).1)], ((v_M_best (am_si h 0 8 0) a1 a2).2))))))) ∧ ((v_M_in (am_si h 0 8 0) a2 0 120) = 0 → am_Ev m_M_bestTime (WM ++ e1) ro P (34, [.ref 0, .int a1, .int a2], [.int ((v_M_refuses (am_si h 0 8 0) 2).1)], ((v_M_refuses (am_si h 0 8 0) 2).2))))) ∧ ((v_M_isTrip (am_si h 0 8 0) a1) = 0 → am_Ev m_M_bestTime (WM ++ e1) ro P (18, [.ref 0, .int a1, .int a2], [.int ((v_M_refuses (am_si h 0 8 0) 1).1)], ((v_M_refuses (am_si h 0 8 0) 1).2)))))
  obtain ⟨hob, hp⟩ := hp
  refine ⟨hob, ?_⟩
  refine ⟨fun c1 => ?_, fun c1 => ?_⟩
  · have hp := hp.2 c1
    refine ⟨fun c2 => ?_, fun c2 => ?_⟩
    · have hp := hp.2 c2
      obtain ⟨hob, hp⟩ := hp
      refine ⟨hob, ?_⟩
      refine ⟨fun c3 => ?_, fun c3 => ?_⟩
      · skip
        obtain ⟨y1, c4⟩ : ∃ y, v_M_refuses (am_si h 0 8 0) 3 = y := ⟨_, rfl⟩
        rw [c4]
        show am_Ev m_M_bestTime (WM ++ e1) ro P (57, [.ref 0, .int a1, .int a2], [.int y1.1], y1.2)
        refine am_Ev_G [] 400 _ ?_
        show P (.inl (some (.int y1.1))) y1.2
        exact hP (y1.1, y1.2) (by unfold v_M_bestTime; simp only [if_neg c1, if_neg c2, if_pos c3, bnd, c4])
      · have hp := hp.2 c3
        refine ⟨hp, ?_⟩
        obtain ⟨y2, c5⟩ : ∃ y, v_M_best (am_si h 0 8 0) a1 a2 = y := ⟨_, rfl⟩
        rw [c5]
        show am_Ev m_M_bestTime (WM ++ e1) ro P (49, [.ref 0, .int a1, .int a2], [.int y2.1], y2.2)
        refine am_Ev_G [57] 400 _ ?_
        show am_Ev m_M_bestTime (WM ++ e1) ro P (57, [.ref 0, .int a1, .int a2], [.int y2.1], y2.2)
        refine am_Ev_G [] 400 _ ?_
        show P (.inl (some (.int y2.1))) y2.2
        exact hP (y2.1, y2.2) (by unfold v_M_bestTime; simp only [if_neg c1, if_neg c2, if_neg c3, bnd, c5])
    · skip
      obtain ⟨y3, c6⟩ : ∃ y, v_M_refuses (am_si h 0 8 0) 2 = y := ⟨_, rfl⟩
      rw [c6]
      show am_Ev m_M_bestTime (WM ++ e1) ro P (34, [.ref 0, .int a1, .int a2], [.int y3.1], y3.2)
      refine am_Ev_G [] 400 _ ?_
      show P (.inl (some (.int y3.1))) y3.2
      exact hP (y3.1, y3.2) (by unfold v_M_bestTime; simp only [if_neg c1, if_pos c2, bnd, c6])
  · skip
    obtain ⟨y4, c7⟩ : ∃ y, v_M_refuses (am_si h 0 8 0) 1 = y := ⟨_, rfl⟩
    rw [c7]
    show am_Ev m_M_bestTime (WM ++ e1) ro P (18, [.ref 0, .int a1, .int a2], [.int y4.1], y4.2)
    refine am_Ev_G [] 400 _ ?_
    show P (.inl (some (.int y4.1))) y4.2
    exact hP (y4.1, y4.2) (by unfold v_M_bestTime; simp only [if_pos c1, bnd, c7])
theorem ok_M_bestTime {l : Launch} (hl : l.stackTraces = false) (e1 ro : List Sh) (k : Nat) : am_Ok l (WM ++ e1) ro (d_M_bestTime k) := by
  refine am_met hl (own := RX6) (M := m_M_bestTime) rfl pf_M_bestTime cu_M_bestTime rfl rfl rfl rfl (fun _ => rfl) rfl ⟨chk_M_bestTime, (am_c (fl_M_38) am_n), (am_c (lk_M_60) (am_c (lk_M_127) (am_c (lk_M_134) (am_c (lk_M_148) (am_c (lk_M_252) am_n))))), (am_n), (am_n)⟩ (am_n) (am_c (ok_M_isRun hl e1 _ 16) (am_c (ok_M_in hl e1 _ 0) (am_c (ok_M_refuses hl e1 _ 16) (am_c (ok_M_isTrip hl e1 _ 16) (am_c (ok_M_best hl e1 _ 16) am_n))))) (fun z => nomatch z) ?_ ?_
  · intro _ as h hg
    show g_thr (g_M_bestTime (WM ++ e1) ro as h) = none
    unfold g_M_bestTime
    split <;> rfl
  · intro as h hg hp
    revert hg hp
    show g_ok (g_M_bestTime (WM ++ e1) ro as h) = true → g_pre (g_M_bestTime (WM ++ e1) ro as h) → _ ∧ am_Ev m_M_bestTime (WM ++ e1) ro (am_eq (g_M_bestTime (WM ++ e1) ro as h)) (0, am_ent as 3, [], h)
    unfold g_M_bestTime
    split
    · rename_i o1 a1 a2
      intro hc hp
      change (Nat.beq o1 0) = true at hc
      obtain rfl := am_beq hc
      exact ⟨Nat.le_of_ble_eq_true rfl, ev_M_bestTime h a1 a2 hp eqRIW⟩
    · exact fun z => nomatch z
def k_M_failed (pc : Nat) : Ent := bif Nat.ble 34 pc then am_nop else bif Nat.ble 18 pc then (bif Nat.ble 25 pc then (bif Nat.ble 29 pc then (bif Nat.ble 32 pc then (bif Nat.ble 33 pc then (bif Nat.beq pc 33 then (.ireturn, 0, 0, []) else am_nop) else (bif Nat.beq pc 32 then (.iload_n 2, 0, 2, []) else am_nop)) else (bif Nat.beq pc 29 then (.invokestatic 45, 0, 0, []) else am_nop)) else (bif Nat.ble 28 pc then (bif Nat.beq pc 28 then (.iconst 0, 0, 0, []) else am_nop) else (bif Nat.beq pc 25 then (.getfield 7, 0, 0, []) else am_nop))) else (bif Nat.ble 20 pc then (bif Nat.ble 23 pc then (bif Nat.ble 24 pc then (bif Nat.beq pc 24 then (.aload_n 0, 0, 0, []) else am_nop) else (bif Nat.beq pc 23 then (.iconst 0, 0, 0, []) else am_nop)) else (bif Nat.beq pc 20 then (.getfield 13, 0, 0, []) else am_nop)) else (bif Nat.ble 19 pc then (bif Nat.beq pc 19 then (.aload_n 0, 0, 0, []) else am_nop) else (bif Nat.beq pc 18 then (.istore_n 2, 0, 2, []) else am_nop)))) else (bif Nat.ble 9 pc then (bif Nat.ble 13 pc then (bif Nat.ble 14 pc then (bif Nat.ble 15 pc then (bif Nat.beq pc 15 then (.invokevirtual 160, 0, 0, []) else am_nop) else (bif Nat.beq pc 14 then (.iload_n 1, 0, 1, []) else am_nop)) else (bif Nat.beq pc 13 then (.aload_n 0, 0, 0, []) else am_nop)) else (bif Nat.ble 10 pc then (bif Nat.beq pc 10 then (.invokestatic 45, 0, 0, []) else am_nop) else (bif Nat.beq pc 9 then (.iconst 0, 0, 0, []) else am_nop))) else (bif Nat.ble 4 pc then (bif Nat.ble 5 pc then (bif Nat.ble 6 pc then (bif Nat.beq pc 6 then (.getfield 13, 0, 0, []) else am_nop) else (bif Nat.beq pc 5 then (.aload_n 0, 0, 0, []) else am_nop)) else (bif Nat.beq pc 4 then (.iconst 0, 0, 0, []) else am_nop)) else (bif Nat.ble 1 pc then (bif Nat.beq pc 1 then (.getfield 7, 0, 0, []) else am_nop) else (bif Nat.beq pc 0 then (.aload_n 0, 0, 0, []) else am_nop))))
def m_M_failed : MI := (k_M_failed, [(7, 6, 0), (13, 6, 1)], [(45, d_M_lays 0), (160, d_M_fails 16)], [], [], [], [], 4, 93, some .int, fun _ => 0, 1)
def v_M_failed (h : HP) (a1 : Int32) : Int32 × HP := (bnd (v_M_fails (v_lays h 1 0 2 0) a1) fun y1 => (y1.1, (v_lays y1.2 2 0 1 0)))
def p_M_failed (h : HP) (a1 : Int32) : Prop := ((p_lays 0 0 163 163) ∧ ((p_M_fails (v_lays h 1 0 2 0) a1) ∧ (∀ y1, v_M_fails (v_lays h 1 0 2 0) a1 = y1 → (p_lays 0 0 163 163))))
def g_M_failed (_ _ : List Sh) (as : List Value) (h : HP) : GR := match as with
  | [.ref o1, .int a1] => (Nat.beq o1 0, p_M_failed h a1, none, some (.int (v_M_failed h a1).1), (v_M_failed h a1).2)
  | _ => bad h
def d_M_failed (k : Nat) : CD := (k, yX6_failed, cX6_failed, 3, some .int, 2, 4, 93, 0, false, true, g_M_failed)
theorem chk_M_failed : ∀ pc, am_chk cX6_failed k_M_failed pc = true := am_chkall 34 (by decide +kernel) (fun pc h => by unfold k_M_failed; rw [Nat.ble_eq_true_of_le h]; rfl)
theorem pf_M_failed : plainFor yX6_failed = true := by decide +kernel
theorem cu_M_failed : Cond.code yX6_failed cX6_failed 3 (some .int) ∈ am_U := am_tb 1284 (by decide +kernel) rfl
set_option maxHeartbeats 20000000 in
set_option maxRecDepth 100000 in
theorem ev_M_failed {e1 ro : List Sh} {P : AR → HP → Prop} (h : HP) (a1 : Int32) (hp : p_M_failed h a1) (hP : ∀ q, v_M_failed h a1 = q → RIW P h q) : am_Ev m_M_failed (WM ++ e1) ro P (0, [.ref 0, .int a1, .retAddr 0], [], h) := by
  unfold p_M_failed at hp
  refine am_Ev_G [13] 400 _ ?_
  show ((p_lays 0 0 163 163) ∧ am_Ev m_M_failed (WM ++ e1) ro P (13, [.ref 0, .int a1, .retAddr 0], [], (v_lays h 1 0 2 0)))
  obtain ⟨hob, hp⟩ := hp
  refine ⟨hob, ?_⟩
  refine am_Ev_G [18] 400 _ ?_
  show ((p_M_fails (v_lays h 1 0 2 0) a1) ∧ am_Ev m_M_failed (WM ++ e1) ro P (18, [.ref 0, .int a1, .retAddr 0], [.int ((v_M_fails (v_lays h 1 0 2 0) a1).1)], ((v_M_fails (v_lays h 1 0 2 0) a1).2)))
  obtain ⟨hob, hp⟩ := hp
  refine ⟨hob, ?_⟩
  obtain ⟨y1, c1⟩ : ∃ y, v_M_fails (v_lays h 1 0 2 0) a1 = y := ⟨_, rfl⟩
  rw [c1]
  have hp := hp _ c1
  show am_Ev m_M_failed (WM ++ e1) ro P (18, [.ref 0, .int a1, .retAddr 0], [.int y1.1], y1.2)
  refine am_Ev_G [32] 400 _ ?_
  show ((p_lays 0 0 163 163) ∧ am_Ev m_M_failed (WM ++ e1) ro P (32, [.ref 0, .int a1, .int y1.1], [], (v_lays y1.2 2 0 1 0)))
  refine ⟨hp, ?_⟩
  refine am_Ev_G [] 400 _ ?_
  show P (.inl (some (.int y1.1))) (v_lays y1.2 2 0 1 0)
  exact hP (y1.1, (v_lays y1.2 2 0 1 0)) (by unfold v_M_failed; simp only [bnd, c1])
theorem ok_M_failed {l : Launch} (hl : l.stackTraces = false) (e1 ro : List Sh) (k : Nat) : am_Ok l (WM ++ e1) ro (d_M_failed k) := by
  refine am_met hl (own := RX6) (M := m_M_failed) rfl pf_M_failed cu_M_failed rfl rfl rfl rfl (fun _ => rfl) rfl ⟨chk_M_failed, (am_c (fl_M_7) (am_c (fl_M_13) am_n)), (am_c (lk_M_45) (am_c (lk_M_160) am_n)), (am_n), (am_n)⟩ (am_n) (am_c (ok_M_lays hl _ _ 0) (am_c (ok_M_fails hl e1 _ 16) am_n)) (fun z => nomatch z) ?_ ?_
  · intro _ as h hg
    show g_thr (g_M_failed (WM ++ e1) ro as h) = none
    unfold g_M_failed
    split <;> rfl
  · intro as h hg hp
    revert hg hp
    show g_ok (g_M_failed (WM ++ e1) ro as h) = true → g_pre (g_M_failed (WM ++ e1) ro as h) → _ ∧ am_Ev m_M_failed (WM ++ e1) ro (am_eq (g_M_failed (WM ++ e1) ro as h)) (0, am_ent as 3, [], h)
    unfold g_M_failed
    split
    · rename_i o1 a1
      intro hc hp
      change (Nat.beq o1 0) = true at hc
      obtain rfl := am_beq hc
      exact ⟨Nat.le_of_ble_eq_true rfl, ev_M_failed h a1 hp eqRIW⟩
    · exact fun z => nomatch z
def k_M_ifFailed (pc : Nat) : Ent := bif Nat.ble 41 pc then am_nop else bif Nat.ble 19 pc then (bif Nat.ble 29 pc then (bif Nat.ble 36 pc then (bif Nat.ble 37 pc then (bif Nat.ble 40 pc then (bif Nat.beq pc 40 then (.ireturn, 0, 0, []) else am_nop) else (bif Nat.beq pc 37 then (.invokevirtual 134, 0, 0, []) else am_nop)) else (bif Nat.beq pc 36 then (.iconst 2, 2, 0, []) else am_nop)) else (bif Nat.ble 32 pc then (bif Nat.ble 35 pc then (bif Nat.beq pc 35 then (.aload_n 0, 0, 0, []) else am_nop) else (bif Nat.beq pc 32 then (.goto 8, 0, 40, []) else am_nop)) else (bif Nat.beq pc 29 then (.invokevirtual 255, 0, 0, []) else am_nop))) else (bif Nat.ble 24 pc then (bif Nat.ble 27 pc then (bif Nat.ble 28 pc then (bif Nat.beq pc 28 then (.iload_n 1, 0, 1, []) else am_nop) else (bif Nat.beq pc 27 then (.aload_n 0, 0, 0, []) else am_nop)) else (bif Nat.beq pc 24 then (.ifCond .eq 11, 0, 35, []) else am_nop)) else (bif Nat.ble 20 pc then (bif Nat.ble 21 pc then (bif Nat.beq pc 21 then (.invokevirtual 60, 0, 0, []) else am_nop) else (bif Nat.beq pc 20 then (.iload_n 1, 0, 1, []) else am_nop)) else (bif Nat.beq pc 19 then (.aload_n 0, 0, 0, []) else am_nop)))) else (bif Nat.ble 7 pc then (bif Nat.ble 14 pc then (bif Nat.ble 15 pc then (bif Nat.ble 18 pc then (bif Nat.beq pc 18 then (.ireturn, 0, 0, []) else am_nop) else (bif Nat.beq pc 15 then (.invokevirtual 134, 0, 0, []) else am_nop)) else (bif Nat.beq pc 14 then (.iconst 1, 1, 0, []) else am_nop)) else (bif Nat.ble 10 pc then (bif Nat.ble 13 pc then (bif Nat.beq pc 13 then (.aload_n 0, 0, 0, []) else am_nop) else (bif Nat.beq pc 10 then (.ifCond .ne 9, 0, 19, []) else am_nop)) else (bif Nat.beq pc 7 then (.invokevirtual 148, 0, 0, []) else am_nop))) else (bif Nat.ble 2 pc then (bif Nat.ble 5 pc then (bif Nat.ble 6 pc then (bif Nat.beq pc 6 then (.iload_n 1, 0, 1, []) else am_nop) else (bif Nat.beq pc 5 then (.aload_n 0, 0, 0, []) else am_nop)) else (bif Nat.beq pc 2 then (.putfield 38, 0, 0, []) else am_nop)) else (bif Nat.ble 1 pc then (bif Nat.beq pc 1 then (.iconst 0, 0, 0, []) else am_nop) else (bif Nat.beq pc 0 then (.aload_n 0, 0, 0, []) else am_nop))))
theorem lk_M_255 : am_lnk RX6 255 (d_M_failed 16) := ⟨⟨by decide, by decide⟩, am_tb 8 (by decide +kernel) rfl, Or.inr ⟨by decide, rfl, am_tb 1283 (by decide +kernel) rfl, am_tp 125 (by decide +kernel) rfl, ⟨TX6, 16, rfl⟩, Or.inl (am_tb 1281 (by decide +kernel) rfl)⟩⟩
def m_M_ifFailed : MI := (k_M_ifFailed, [(38, 6, 8)], [(60, d_M_isRun 16), (134, d_M_refuses 16), (148, d_M_isTrip 16), (255, d_M_failed 16)], [], [], [], [], 5, 115, some .int, fun _ => 0, 1)
def v_M_ifFailed (h : HP) (a1 : Int32) : Int32 × HP := (if (v_M_isTrip (am_si h 0 8 0) a1) = 0 then (bnd (v_M_refuses (am_si h 0 8 0) 1) fun y3 => (y3.1, y3.2)) else (if (v_M_isRun (am_si h 0 8 0) a1) = 0 then (bnd (v_M_refuses (am_si h 0 8 0) 2) fun y1 => (y1.1, y1.2)) else (bnd (v_M_failed (am_si h 0 8 0) a1) fun y2 => (y2.1, y2.2))))
def p_M_ifFailed (h : HP) (a1 : Int32) : Prop := ((p_M_isTrip (am_si h 0 8 0) a1) ∧ (((v_M_isTrip (am_si h 0 8 0) a1) = 0 → True) ∧ (¬ (v_M_isTrip (am_si h 0 8 0) a1) = 0 → ((p_M_isRun (am_si h 0 8 0) a1) ∧ (((v_M_isRun (am_si h 0 8 0) a1) = 0 → True) ∧ (¬ (v_M_isRun (am_si h 0 8 0) a1) = 0 → (p_M_failed (am_si h 0 8 0) a1)))))))
def g_M_ifFailed (_ _ : List Sh) (as : List Value) (h : HP) : GR := match as with
  | [.ref o1, .int a1] => (Nat.beq o1 0, p_M_ifFailed h a1, none, some (.int (v_M_ifFailed h a1).1), (v_M_ifFailed h a1).2)
  | _ => bad h
def d_M_ifFailed (k : Nat) : CD := (k, yX6_ifFailed, cX6_ifFailed, 2, some .int, 2, 5, 115, 0, false, true, g_M_ifFailed)
theorem chk_M_ifFailed : ∀ pc, am_chk cX6_ifFailed k_M_ifFailed pc = true := am_chkall 41 (by decide +kernel) (fun pc h => by unfold k_M_ifFailed; rw [Nat.ble_eq_true_of_le h]; rfl)
theorem pf_M_ifFailed : plainFor yX6_ifFailed = true := by decide +kernel
theorem cu_M_ifFailed : Cond.code yX6_ifFailed cX6_ifFailed 2 (some .int) ∈ am_U := am_tb 1280 (by decide +kernel) rfl
set_option maxHeartbeats 20000000 in
set_option maxRecDepth 100000 in
theorem ev_M_ifFailed {e1 ro : List Sh} {P : AR → HP → Prop} (h : HP) (a1 : Int32) (hp : p_M_ifFailed h a1) (hP : ∀ q, v_M_ifFailed h a1 = q → RIW P h q) : am_Ev m_M_ifFailed (WM ++ e1) ro P (0, [.ref 0, .int a1], [], h) := by
  unfold p_M_ifFailed at hp
  refine am_Ev_G [18, 32, 40] 400 _ ?_
  show ((p_M_isTrip (am_si h 0 8 0) a1) ∧ ((¬ (v_M_isTrip (am_si h 0 8 0) a1) = 0 → ((p_M_isRun (am_si h 0 8 0) a1) ∧ (((v_M_isRun (am_si h 0 8 0) a1) = 0 → am_Ev m_M_ifFailed (WM ++ e1) ro P (40, [.ref 0, .int a1], [.int ((v_M_refuses (am_si h 0 8 0) 2).1)], ((v_M_refuses (am_si h 0 8 0) 2).2))) ∧ (¬ (v_M_isRun (am_si h 0 8 0) a1) = 0 → ((p_M_failed (am_si h 0 8 0) a1) ∧ am_Ev m_M_ifFailed (WM ++ e1) ro P (32, [.ref 0, .int a1], [.int ((v_M_failed (am_si h 0 8 0) a1).1)], ((v_M_failed (am_si h 0 8 0) a1).2))))))) ∧ ((v_M_isTrip (am_si h 0 8 0) a1) = 0 → am_Ev m_M_ifFailed (WM ++ e1) ro P (18, [.ref 0, .int a1], [.int ((v_M_refuses (am_si h 0 8 0) 1).1)], ((v_M_refuses (am_si h 0 8 0) 1).2)))))
  obtain ⟨hob, hp⟩ := hp
  refine ⟨hob, ?_⟩
  refine ⟨fun c1 => ?_, fun c1 => ?_⟩
  · have hp := hp.2 c1
    obtain ⟨hob, hp⟩ := hp
    refine ⟨hob, ?_⟩
    refine ⟨fun c2 => ?_, fun c2 => ?_⟩
    · skip
      obtain ⟨y1, c3⟩ : ∃ y, v_M_refuses (am_si h 0 8 0) 2 = y := ⟨_, rfl⟩
      rw [c3]
      show am_Ev m_M_ifFailed (WM ++ e1) ro P (40, [.ref 0, .int a1], [.int y1.1], y1.2)
      refine am_Ev_G [] 400 _ ?_
      show P (.inl (some (.int y1.1))) y1.2
      exact hP (y1.1, y1.2) (by unfold v_M_ifFailed; simp only [if_neg c1, if_pos c2, bnd, c3])
    · have hp := hp.2 c2
      refine ⟨hp, ?_⟩
      obtain ⟨y2, c4⟩ : ∃ y, v_M_failed (am_si h 0 8 0) a1 = y := ⟨_, rfl⟩
      rw [c4]
      show am_Ev m_M_ifFailed (WM ++ e1) ro P (32, [.ref 0, .int a1], [.int y2.1], y2.2)
      refine am_Ev_G [40] 400 _ ?_
      show am_Ev m_M_ifFailed (WM ++ e1) ro P (40, [.ref 0, .int a1], [.int y2.1], y2.2)
      refine am_Ev_G [] 400 _ ?_
      show P (.inl (some (.int y2.1))) y2.2
      exact hP (y2.1, y2.2) (by unfold v_M_ifFailed; simp only [if_neg c1, if_neg c2, bnd, c4])
  · skip
    obtain ⟨y3, c5⟩ : ∃ y, v_M_refuses (am_si h 0 8 0) 1 = y := ⟨_, rfl⟩
    rw [c5]
    show am_Ev m_M_ifFailed (WM ++ e1) ro P (18, [.ref 0, .int a1], [.int y3.1], y3.2)
    refine am_Ev_G [] 400 _ ?_
    show P (.inl (some (.int y3.1))) y3.2
    exact hP (y3.1, y3.2) (by unfold v_M_ifFailed; simp only [if_pos c1, bnd, c5])
theorem ok_M_ifFailed {l : Launch} (hl : l.stackTraces = false) (e1 ro : List Sh) (k : Nat) : am_Ok l (WM ++ e1) ro (d_M_ifFailed k) := by
  refine am_met hl (own := RX6) (M := m_M_ifFailed) rfl pf_M_ifFailed cu_M_ifFailed rfl rfl rfl rfl (fun _ => rfl) rfl ⟨chk_M_ifFailed, (am_c (fl_M_38) am_n), (am_c (lk_M_60) (am_c (lk_M_134) (am_c (lk_M_148) (am_c (lk_M_255) am_n)))), (am_n), (am_n)⟩ (am_n) (am_c (ok_M_isRun hl e1 _ 16) (am_c (ok_M_refuses hl e1 _ 16) (am_c (ok_M_isTrip hl e1 _ 16) (am_c (ok_M_failed hl e1 _ 16) am_n)))) (fun z => nomatch z) ?_ ?_
  · intro _ as h hg
    show g_thr (g_M_ifFailed (WM ++ e1) ro as h) = none
    unfold g_M_ifFailed
    split <;> rfl
  · intro as h hg hp
    revert hg hp
    show g_ok (g_M_ifFailed (WM ++ e1) ro as h) = true → g_pre (g_M_ifFailed (WM ++ e1) ro as h) → _ ∧ am_Ev m_M_ifFailed (WM ++ e1) ro (am_eq (g_M_ifFailed (WM ++ e1) ro as h)) (0, am_ent as 2, [], h)
    unfold g_M_ifFailed
    split
    · rename_i o1 a1
      intro hc hp
      change (Nat.beq o1 0) = true at hc
      obtain rfl := am_beq hc
      exact ⟨Nat.le_of_ble_eq_true rfl, ev_M_ifFailed h a1 hp eqRIW⟩
    · exact fun z => nomatch z
def k_M_share (pc : Nat) : Ent := bif Nat.ble 84 pc then am_nop else bif Nat.ble 39 pc then (bif Nat.ble 64 pc then (bif Nat.ble 72 pc then (bif Nat.ble 79 pc then (bif Nat.ble 82 pc then (bif Nat.ble 83 pc then (bif Nat.beq pc 83 then (.dreturn, 0, 0, []) else am_nop) else (bif Nat.beq pc 82 then (.ddiv, 0, 0, []) else am_nop)) else (bif Nat.ble 80 pc then (bif Nat.beq pc 80 then (.dload 5, 0, 5, []) else am_nop) else (bif Nat.beq pc 79 then (.dload_n 3, 0, 3, []) else am_nop))) else (bif Nat.ble 75 pc then (bif Nat.ble 76 pc then (bif Nat.beq pc 76 then (.goto 7, 0, 83, []) else am_nop) else (bif Nat.beq pc 75 then (.dconst 1, 0, 0, []) else am_nop)) else (bif Nat.beq pc 72 then (.ifCond .ne 7, 0, 79, []) else am_nop))) else (bif Nat.ble 67 pc then (bif Nat.ble 69 pc then (bif Nat.ble 71 pc then (bif Nat.beq pc 71 then (.iload_n 1, 0, 1, []) else am_nop) else (bif Nat.beq pc 69 then (.dstore 5, 0, 5, []) else am_nop)) else (bif Nat.ble 68 pc then (bif Nat.beq pc 68 then (.i2d, 0, 0, []) else am_nop) else (bif Nat.beq pc 67 then (.iload_n 1, 0, 1, []) else am_nop))) else (bif Nat.ble 65 pc then (bif Nat.ble 66 pc then (bif Nat.beq pc 66 then (.dstore_n 3, 0, 3, []) else am_nop) else (bif Nat.beq pc 65 then (.i2d, 0, 0, []) else am_nop)) else (bif Nat.beq pc 64 then (.iload_n 2, 0, 2, []) else am_nop)))) else (bif Nat.ble 49 pc then (bif Nat.ble 56 pc then (bif Nat.ble 58 pc then (bif Nat.ble 61 pc then (bif Nat.beq pc 61 then (.goto (-55), 0, 6, []) else am_nop) else (bif Nat.beq pc 58 then (.iinc 3 1, 1, 3, []) else am_nop)) else (bif Nat.ble 57 pc then (bif Nat.beq pc 57 then (.istore_n 2, 0, 2, []) else am_nop) else (bif Nat.beq pc 56 then (.iadd, 0, 0, []) else am_nop))) else (bif Nat.ble 52 pc then (bif Nat.ble 55 pc then (bif Nat.beq pc 55 then (.iconst 0, 0, 0, []) else am_nop) else (bif Nat.beq pc 52 then (.goto 4, 0, 56, []) else am_nop)) else (bif Nat.beq pc 49 then (.invokevirtual 49, 0, 0, []) else am_nop))) else (bif Nat.ble 46 pc then (bif Nat.ble 47 pc then (bif Nat.ble 48 pc then (bif Nat.beq pc 48 then (.iconst 4, 4, 0, []) else am_nop) else (bif Nat.beq pc 47 then (.iload_n 3, 0, 3, []) else am_nop)) else (bif Nat.beq pc 46 then (.aload_n 0, 0, 0, []) else am_nop)) else (bif Nat.ble 40 pc then (bif Nat.ble 43 pc then (bif Nat.beq pc 43 then (.ifCond .eq 12, 0, 55, []) else am_nop) else (bif Nat.beq pc 40 then (.invokevirtual 60, 0, 0, []) else am_nop)) else (bif Nat.beq pc 39 then (.iload_n 3, 0, 3, []) else am_nop))))) else (bif Nat.ble 18 pc then (bif Nat.ble 28 pc then (bif Nat.ble 35 pc then (bif Nat.ble 37 pc then (bif Nat.ble 38 pc then (bif Nat.beq pc 38 then (.aload_n 0, 0, 0, []) else am_nop) else (bif Nat.beq pc 37 then (.iload_n 2, 0, 2, []) else am_nop)) else (bif Nat.ble 36 pc then (bif Nat.beq pc 36 then (.istore_n 1, 0, 1, []) else am_nop) else (bif Nat.beq pc 35 then (.iadd, 0, 0, []) else am_nop))) else (bif Nat.ble 31 pc then (bif Nat.ble 34 pc then (bif Nat.beq pc 34 then (.iconst 0, 0, 0, []) else am_nop) else (bif Nat.beq pc 31 then (.goto 4, 0, 35, []) else am_nop)) else (bif Nat.beq pc 28 then (.invokevirtual 209, 0, 0, []) else am_nop))) else (bif Nat.ble 23 pc then (bif Nat.ble 26 pc then (bif Nat.ble 27 pc then (bif Nat.beq pc 27 then (.iload_n 3, 0, 3, []) else am_nop) else (bif Nat.beq pc 26 then (.aload_n 0, 0, 0, []) else am_nop)) else (bif Nat.beq pc 23 then (.ifCond .eq 11, 0, 34, []) else am_nop)) else (bif Nat.ble 19 pc then (bif Nat.ble 20 pc then (bif Nat.beq pc 20 then (.invokevirtual 70, 0, 0, []) else am_nop) else (bif Nat.beq pc 19 then (.iload_n 3, 0, 3, []) else am_nop)) else (bif Nat.beq pc 18 then (.aload_n 0, 0, 0, []) else am_nop)))) else (bif Nat.ble 6 pc then (bif Nat.ble 11 pc then (bif Nat.ble 14 pc then (bif Nat.ble 17 pc then (bif Nat.beq pc 17 then (.iload_n 1, 0, 1, []) else am_nop) else (bif Nat.beq pc 14 then (.if_icmp .ge 50, 0, 64, []) else am_nop)) else (bif Nat.ble 13 pc then (bif Nat.beq pc 13 then (.iaload, 0, 0, []) else am_nop) else (bif Nat.beq pc 11 then (.bipush 15, 15, 0, []) else am_nop))) else (bif Nat.ble 7 pc then (bif Nat.ble 8 pc then (bif Nat.beq pc 8 then (.getfield 7, 0, 0, []) else am_nop) else (bif Nat.beq pc 7 then (.aload_n 0, 0, 0, []) else am_nop)) else (bif Nat.beq pc 6 then (.iload_n 3, 0, 3, []) else am_nop))) else (bif Nat.ble 3 pc then (bif Nat.ble 4 pc then (bif Nat.ble 5 pc then (bif Nat.beq pc 5 then (.istore_n 3, 0, 3, []) else am_nop) else (bif Nat.beq pc 4 then (.iconst 0, 0, 0, []) else am_nop)) else (bif Nat.beq pc 3 then (.istore_n 2, 0, 2, []) else am_nop)) else (bif Nat.ble 1 pc then (bif Nat.ble 2 pc then (bif Nat.beq pc 2 then (.iconst 0, 0, 0, []) else am_nop) else (bif Nat.beq pc 1 then (.istore_n 1, 0, 1, []) else am_nop)) else (bif Nat.beq pc 0 then (.iconst 0, 0, 0, []) else am_nop)))))
def m_M_share : MI := (k_M_share, [(7, 6, 0)], [(49, d_M_of 16), (60, d_M_isRun 16), (70, d_M_isFirst 16), (209, d_M_span 16)], [], [], [], [], 4, 87, some .double, fun _ => 0, 1)
def s_M_share_6 (h : HP) (v1 : Int32 × Int32 × Int32) : (Int32 × Int32 × Int32) ⊕ (Int32 × Int32 × Int32) := (if v1.2.2 < (h.1 1 (am_ix 15)) then (.inl ((v1.1 + (if (v_M_isFirst h v1.2.2) = 0 then (0 : Int32) else (v_M_span h v1.2.2))), (v1.2.1 + (if (v_M_isRun h v1.2.2) = 0 then (0 : Int32) else (v_M_of h v1.2.2 4))), (v1.2.2 + 1))) else (.inr (v1.1, v1.2.1, v1.2.2)))
def ps_M_share_6 (h : HP) (v1 : Int32 × Int32 × Int32) : Prop := ((v1.2.2 < (h.1 1 (am_ix 15)) → ((p_M_isFirst h v1.2.2) ∧ ((((v_M_isFirst h v1.2.2) = 0 → True) ∧ (¬ (v_M_isFirst h v1.2.2) = 0 → (p_M_span h v1.2.2))) ∧ ((p_M_isRun h v1.2.2) ∧ (((v_M_isRun h v1.2.2) = 0 → True) ∧ (¬ (v_M_isRun h v1.2.2) = 0 → (p_M_of h v1.2.2 4))))))) ∧ (¬ v1.2.2 < (h.1 1 (am_ix 15)) → True))
def v_M_share (h : HP) : UInt64 := (match itr (s_M_share_6 h) NF (0, 0, 0) with | some r1 => (if r1.1 = 0 then FP.dconst1 else (FP.ddiv (FP.i2d r1.2.1) (FP.i2d r1.1))) | none => 0)
def p_M_share (h : HP) : Prop := (itrp (s_M_share_6 h) (ps_M_share_6 h) NF (0, 0, 0) ∧ ∀ r1, itr (s_M_share_6 h) NF (0, 0, 0) = some r1 → ((r1.1 = 0 → True) ∧ (¬ r1.1 = 0 → (vf_n64 (FP.ddiv (FP.i2d r1.2.1) (FP.i2d r1.1))))))
def g_M_share (_ _ : List Sh) (as : List Value) (h : HP) : GR := match as with
  | [.ref o1] => (Nat.beq o1 0, p_M_share h, none, some (.double (v_M_share h)), h)
  | _ => bad h
def d_M_share (k : Nat) : CD := (k, yX6_share, cX6_share, 7, some .double, 1, 4, 87, 0, false, true, g_M_share)
theorem chk_M_share : ∀ pc, am_chk cX6_share k_M_share pc = true := am_chkall 84 (by decide +kernel) (fun pc h => by unfold k_M_share; rw [Nat.ble_eq_true_of_le h]; rfl)
theorem pf_M_share : plainFor yX6_share = true := by decide +kernel
theorem cu_M_share : Cond.code yX6_share cX6_share 7 (some .double) ∈ am_U := am_tb 1292 (by decide +kernel) rfl
set_option maxHeartbeats 20000000 in
set_option maxRecDepth 100000 in
theorem ev_M_share {e1 ro : List Sh} {P : AR → HP → Prop} (h : HP) (hp : p_M_share h) (hP : ∀ q, v_M_share h = q → RD P h q) : am_Ev m_M_share (WM ++ e1) ro P (0, [.ref 0, .retAddr 0, .retAddr 0, .retAddr 0, .retAddr 0, .retAddr 0, .retAddr 0], [], h) := by
  unfold p_M_share at hp
  refine am_Ev_G [6] 400 _ ?_
  show am_Ev m_M_share (WM ++ e1) ro P (6, [.ref 0, .int 0, .int 0, .int 0, .retAddr 0, .retAddr 0, .retAddr 0], [], h)
  obtain ⟨hpl, hp⟩ := hp
  refine am_itr (E := (fun (v1 : Int32 × Int32 × Int32) => am_Ev m_M_share (WM ++ e1) ro P (6, [.ref 0, .int v1.1, .int v1.2.1, .int v1.2.2, .retAddr 0, .retAddr 0, .retAddr 0], [], h))) (E' := (fun (r1 : Int32 × Int32 × Int32) => am_Ev m_M_share (WM ++ e1) ro P (64, [.ref 0, .int r1.1, .int r1.2.1, .int r1.2.2, .retAddr 0, .retAddr 0, .retAddr 0], [], h))) (s_M_share_6 h) (ps_M_share_6 h) ?_ NF (0, 0, 0) hpl ?_
  · intro v1 hp hc1 hx1
    show am_Ev m_M_share (WM ++ e1) ro P (6, [.ref 0, .int v1.1, .int v1.2.1, .int v1.2.2, .retAddr 0, .retAddr 0, .retAddr 0], [], h)
    unfold ps_M_share_6 at hp
    refine am_Ev_G [20, 64] 400 _ ?_
    show ((am_in 15 163) ∧ ((¬ v1.2.2 < (h.1 1 (am_ix 15)) → am_Ev m_M_share (WM ++ e1) ro P (64, [.ref 0, .int v1.1, .int v1.2.1, .int v1.2.2, .retAddr 0, .retAddr 0, .retAddr 0], [], h)) ∧ (v1.2.2 < (h.1 1 (am_ix 15)) → am_Ev m_M_share (WM ++ e1) ro P (20, [.ref 0, .int v1.1, .int v1.2.1, .int v1.2.2, .retAddr 0, .retAddr 0, .retAddr 0], [.int v1.2.2, .ref 0, .int v1.1], h))))
    refine ⟨⟨by decide, by decide⟩, ?_⟩
    refine ⟨fun c1 => ?_, fun c1 => ?_⟩
    · skip
      exact hx1 (v1.1, v1.2.1, v1.2.2) (by unfold s_M_share_6; simp only [if_neg c1])
    · have hp := hp.1 c1
      refine am_Ev_G [23] 400 _ ?_
      show ((p_M_isFirst h v1.2.2) ∧ am_Ev m_M_share (WM ++ e1) ro P (23, [.ref 0, .int v1.1, .int v1.2.1, .int v1.2.2, .retAddr 0, .retAddr 0, .retAddr 0], [.int (v_M_isFirst h v1.2.2), .int v1.1], h))
      obtain ⟨hob, hp⟩ := hp
      refine ⟨hob, ?_⟩
      obtain ⟨hpa, hp⟩ := hp
      have key2 : am_Ev m_M_share (WM ++ e1) ro P (35, [.ref 0, .int v1.1, .int v1.2.1, .int v1.2.2, .retAddr 0, .retAddr 0, .retAddr 0], [.int (if (v_M_isFirst h v1.2.2) = 0 then (0 : Int32) else (v_M_span h v1.2.2)), .int v1.1], h) := by
        refine am_Ev_G [43] 400 _ ?_
        show ((p_M_isRun h v1.2.2) ∧ am_Ev m_M_share (WM ++ e1) ro P (43, [.ref 0, .int (v1.1 + (if (v_M_isFirst h v1.2.2) = 0 then (0 : Int32) else (v_M_span h v1.2.2))), .int v1.2.1, .int v1.2.2, .retAddr 0, .retAddr 0, .retAddr 0], [.int (v_M_isRun h v1.2.2), .int v1.2.1], h))
        obtain ⟨hob, hp⟩ := hp
        refine ⟨hob, ?_⟩
        have hpa := hp
        have key3 : am_Ev m_M_share (WM ++ e1) ro P (56, [.ref 0, .int (v1.1 + (if (v_M_isFirst h v1.2.2) = 0 then (0 : Int32) else (v_M_span h v1.2.2))), .int v1.2.1, .int v1.2.2, .retAddr 0, .retAddr 0, .retAddr 0], [.int (if (v_M_isRun h v1.2.2) = 0 then (0 : Int32) else (v_M_of h v1.2.2 4)), .int v1.2.1], h) := by
          refine am_Ev_G [6] 400 _ ?_
          show am_Ev m_M_share (WM ++ e1) ro P (6, [.ref 0, .int (v1.1 + (if (v_M_isFirst h v1.2.2) = 0 then (0 : Int32) else (v_M_span h v1.2.2))), .int (v1.2.1 + (if (v_M_isRun h v1.2.2) = 0 then (0 : Int32) else (v_M_of h v1.2.2 4))), .int (v1.2.2 + 1), .retAddr 0, .retAddr 0, .retAddr 0], [], h)
          exact hc1 ((v1.1 + (if (v_M_isFirst h v1.2.2) = 0 then (0 : Int32) else (v_M_span h v1.2.2))), (v1.2.1 + (if (v_M_isRun h v1.2.2) = 0 then (0 : Int32) else (v_M_of h v1.2.2 4))), (v1.2.2 + 1)) (by unfold s_M_share_6; simp only [if_pos c1])
        have hp := hpa
        refine am_Ev_G [56] 400 _ ?_
        show (((v_M_isRun h v1.2.2) = 0 → am_Ev m_M_share (WM ++ e1) ro P (56, [.ref 0, .int (v1.1 + (if (v_M_isFirst h v1.2.2) = 0 then (0 : Int32) else (v_M_span h v1.2.2))), .int v1.2.1, .int v1.2.2, .retAddr 0, .retAddr 0, .retAddr 0], [.int 0, .int v1.2.1], h)) ∧ (¬ (v_M_isRun h v1.2.2) = 0 → ((p_M_of h v1.2.2 4) ∧ am_Ev m_M_share (WM ++ e1) ro P (56, [.ref 0, .int (v1.1 + (if (v_M_isFirst h v1.2.2) = 0 then (0 : Int32) else (v_M_span h v1.2.2))), .int v1.2.1, .int v1.2.2, .retAddr 0, .retAddr 0, .retAddr 0], [.int (v_M_of h v1.2.2 4), .int v1.2.1], h))))
        refine ⟨fun c4 => ?_, fun c4 => ?_⟩
        · skip
          simpa only [if_pos c4] using key3
        · have hp := hp.2 c4
          refine ⟨hp, ?_⟩
          simpa only [if_neg c4] using key3
      have hp := hpa
      refine am_Ev_G [35] 400 _ ?_
      show (((v_M_isFirst h v1.2.2) = 0 → am_Ev m_M_share (WM ++ e1) ro P (35, [.ref 0, .int v1.1, .int v1.2.1, .int v1.2.2, .retAddr 0, .retAddr 0, .retAddr 0], [.int 0, .int v1.1], h)) ∧ (¬ (v_M_isFirst h v1.2.2) = 0 → ((p_M_span h v1.2.2) ∧ am_Ev m_M_share (WM ++ e1) ro P (35, [.ref 0, .int v1.1, .int v1.2.1, .int v1.2.2, .retAddr 0, .retAddr 0, .retAddr 0], [.int (v_M_span h v1.2.2), .int v1.1], h))))
      refine ⟨fun c5 => ?_, fun c5 => ?_⟩
      · skip
        simpa only [if_pos c5] using key2
      · have hp := hp.2 c5
        refine ⟨hp, ?_⟩
        simpa only [if_neg c5] using key2
  · intro r1 hr6
    have hp := hp _ hr6
    show am_Ev m_M_share (WM ++ e1) ro P (64, [.ref 0, .int r1.1, .int r1.2.1, .int r1.2.2, .retAddr 0, .retAddr 0, .retAddr 0], [], h)
    refine am_Ev_G [69] 400 _ ?_
    show am_Ev m_M_share (WM ++ e1) ro P (69, [.ref 0, .int r1.1, .int r1.2.1, .double (FP.i2d r1.2.1), .retAddr 0, .retAddr 0, .retAddr 0], [.double (FP.i2d r1.1)], h)
    refine am_Ev_G [72] 400 _ ?_
    show am_Ev m_M_share (WM ++ e1) ro P (72, [.ref 0, .int r1.1, .int r1.2.1, .double (FP.i2d r1.2.1), .retAddr 0, .double (FP.i2d r1.1), .retAddr 0], [.int r1.1], h)
    have hpa := hp
    have key7 : am_Ev m_M_share (WM ++ e1) ro P (83, [.ref 0, .int r1.1, .int r1.2.1, .double (FP.i2d r1.2.1), .retAddr 0, .double (FP.i2d r1.1), .retAddr 0], [.double (if r1.1 = 0 then FP.dconst1 else (FP.ddiv (FP.i2d r1.2.1) (FP.i2d r1.1)))], h) := by
      refine am_Ev_G [] 400 _ ?_
      show P (.inl (some (.double (if r1.1 = 0 then FP.dconst1 else (FP.ddiv (FP.i2d r1.2.1) (FP.i2d r1.1)))))) h
      exact hP (if r1.1 = 0 then FP.dconst1 else (FP.ddiv (FP.i2d r1.2.1) (FP.i2d r1.1))) (by unfold v_M_share; simp only [hr6])
    have hp := hpa
    refine am_Ev_G [83] 400 _ ?_
    show ((¬ r1.1 = 0 → ((vf_n64 (FP.ddiv (FP.i2d r1.2.1) (FP.i2d r1.1))) ∧ am_Ev m_M_share (WM ++ e1) ro P (83, [.ref 0, .int r1.1, .int r1.2.1, .double (FP.i2d r1.2.1), .retAddr 0, .double (FP.i2d r1.1), .retAddr 0], [.double (FP.ddiv (FP.i2d r1.2.1) (FP.i2d r1.1))], h))) ∧ (r1.1 = 0 → am_Ev m_M_share (WM ++ e1) ro P (83, [.ref 0, .int r1.1, .int r1.2.1, .double (FP.i2d r1.2.1), .retAddr 0, .double (FP.i2d r1.1), .retAddr 0], [.double FP.dconst1], h)))
    refine ⟨fun c8 => ?_, fun c8 => ?_⟩
    · have hp := hp.2 c8
      refine ⟨hp, ?_⟩
      simpa only [if_neg c8] using key7
    · skip
      simpa only [if_pos c8] using key7
theorem ok_M_share {l : Launch} (hl : l.stackTraces = false) (e1 ro : List Sh) (k : Nat) : am_Ok l (WM ++ e1) ro (d_M_share k) := by
  refine am_met hl (own := RX6) (M := m_M_share) rfl pf_M_share cu_M_share rfl rfl rfl rfl (fun _ => rfl) rfl ⟨chk_M_share, (am_c (fl_M_7) am_n), (am_c (lk_M_49) (am_c (lk_M_60) (am_c (lk_M_70) (am_c (lk_M_209) am_n)))), (am_n), (am_n)⟩ (am_n) (am_c (ok_M_of hl e1 _ 16) (am_c (ok_M_isRun hl e1 _ 16) (am_c (ok_M_isFirst hl e1 _ 16) (am_c (ok_M_span hl e1 _ 16) am_n)))) (fun z => nomatch z) ?_ ?_
  · intro _ as h hg
    show g_thr (g_M_share (WM ++ e1) ro as h) = none
    unfold g_M_share
    split <;> rfl
  · intro as h hg hp
    revert hg hp
    show g_ok (g_M_share (WM ++ e1) ro as h) = true → g_pre (g_M_share (WM ++ e1) ro as h) → _ ∧ am_Ev m_M_share (WM ++ e1) ro (am_eq (g_M_share (WM ++ e1) ro as h)) (0, am_ent as 7, [], h)
    unfold g_M_share
    split
    · rename_i o1
      intro hc hp
      change (Nat.beq o1 0) = true at hc
      obtain rfl := am_beq hc
      exact ⟨Nat.le_of_ble_eq_true rfl, ev_M_share h hp eqRD⟩
    · exact fun z => nomatch z
def k_M_drivenShare (pc : Nat) : Ent := bif Nat.ble 10 pc then am_nop else bif Nat.ble 5 pc then (bif Nat.ble 6 pc then (bif Nat.ble 9 pc then (bif Nat.beq pc 9 then (.dreturn, 0, 0, []) else am_nop) else (bif Nat.beq pc 6 then (.invokevirtual 258, 0, 0, []) else am_nop)) else (bif Nat.beq pc 5 then (.aload_n 0, 0, 0, []) else am_nop)) else (bif Nat.ble 1 pc then (bif Nat.ble 2 pc then (bif Nat.beq pc 2 then (.putfield 38, 0, 0, []) else am_nop) else (bif Nat.beq pc 1 then (.iconst 0, 0, 0, []) else am_nop)) else (bif Nat.beq pc 0 then (.aload_n 0, 0, 0, []) else am_nop))
theorem lk_M_258 : am_lnk RX6 258 (d_M_share 16) := ⟨⟨by decide, by decide⟩, am_tb 8 (by decide +kernel) rfl, Or.inr ⟨by decide, rfl, am_tb 1291 (by decide +kernel) rfl, am_tp 126 (by decide +kernel) rfl, ⟨TX6, 16, rfl⟩, Or.inl (am_tb 1289 (by decide +kernel) rfl)⟩⟩
def m_M_drivenShare : MI := (k_M_drivenShare, [(38, 6, 8)], [(258, d_M_share 16)], [], [], [], [], 5, 113, some .double, fun _ => 0, 1)
def v_M_drivenShare (h : HP) : UInt64 × HP := ((v_M_share (am_si h 0 8 0)), (am_si h 0 8 0))
def p_M_drivenShare (h : HP) : Prop := (p_M_share (am_si h 0 8 0))
def g_M_drivenShare (_ _ : List Sh) (as : List Value) (h : HP) : GR := match as with
  | [.ref o1] => (Nat.beq o1 0, p_M_drivenShare h, none, some (.double (v_M_drivenShare h).1), (v_M_drivenShare h).2)
  | _ => bad h
def d_M_drivenShare (k : Nat) : CD := (k, yX6_drivenShare, cX6_drivenShare, 1, some .double, 1, 5, 113, 0, false, true, g_M_drivenShare)
theorem chk_M_drivenShare : ∀ pc, am_chk cX6_drivenShare k_M_drivenShare pc = true := am_chkall 10 (by decide +kernel) (fun pc h => by unfold k_M_drivenShare; rw [Nat.ble_eq_true_of_le h]; rfl)
theorem pf_M_drivenShare : plainFor yX6_drivenShare = true := by decide +kernel
theorem cu_M_drivenShare : Cond.code yX6_drivenShare cX6_drivenShare 1 (some .double) ∈ am_U := am_tb 1288 (by decide +kernel) rfl
set_option maxHeartbeats 20000000 in
set_option maxRecDepth 100000 in
theorem ev_M_drivenShare {e1 ro : List Sh} {P : AR → HP → Prop} (h : HP) (hp : p_M_drivenShare h) (hP : ∀ q, v_M_drivenShare h = q → RDW P h q) : am_Ev m_M_drivenShare (WM ++ e1) ro P (0, [.ref 0], [], h) := by
  unfold p_M_drivenShare at hp
  refine am_Ev_G [] 400 _ ?_
  show ((p_M_share (am_si h 0 8 0)) ∧ P (.inl (some (.double (v_M_share (am_si h 0 8 0))))) (am_si h 0 8 0))
  refine ⟨hp, ?_⟩
  exact hP ((v_M_share (am_si h 0 8 0)), (am_si h 0 8 0)) rfl
theorem ok_M_drivenShare {l : Launch} (hl : l.stackTraces = false) (e1 ro : List Sh) (k : Nat) : am_Ok l (WM ++ e1) ro (d_M_drivenShare k) := by
  refine am_met hl (own := RX6) (M := m_M_drivenShare) rfl pf_M_drivenShare cu_M_drivenShare rfl rfl rfl rfl (fun _ => rfl) rfl ⟨chk_M_drivenShare, (am_c (fl_M_38) am_n), (am_c (lk_M_258) am_n), (am_n), (am_n)⟩ (am_n) (am_c (ok_M_share hl e1 _ 16) am_n) (fun z => nomatch z) ?_ ?_
  · intro _ as h hg
    show g_thr (g_M_drivenShare (WM ++ e1) ro as h) = none
    unfold g_M_drivenShare
    split <;> rfl
  · intro as h hg hp
    revert hg hp
    show g_ok (g_M_drivenShare (WM ++ e1) ro as h) = true → g_pre (g_M_drivenShare (WM ++ e1) ro as h) → _ ∧ am_Ev m_M_drivenShare (WM ++ e1) ro (am_eq (g_M_drivenShare (WM ++ e1) ro as h)) (0, am_ent as 1, [], h)
    unfold g_M_drivenShare
    split
    · rename_i o1
      intro hc hp
      change (Nat.beq o1 0) = true at hc
      obtain rfl := am_beq hc
      exact ⟨Nat.le_of_ble_eq_true rfl, ev_M_drivenShare h hp eqRDW⟩
    · exact fun z => nomatch z
def k_M_mixes (pc : Nat) : Ent := bif Nat.ble 15 pc then am_nop else bif Nat.ble 8 pc then (bif Nat.ble 10 pc then (bif Nat.ble 11 pc then (bif Nat.ble 14 pc then (bif Nat.beq pc 14 then (.return_, 0, 0, []) else am_nop) else (bif Nat.beq pc 11 then (.putfield 264, 0, 0, []) else am_nop)) else (bif Nat.beq pc 10 then (.ladd, 0, 0, []) else am_nop)) else (bif Nat.ble 9 pc then (bif Nat.beq pc 9 then (.lload_n 1, 0, 1, []) else am_nop) else (bif Nat.beq pc 8 then (.lmul, 0, 0, []) else am_nop))) else (bif Nat.ble 4 pc then (bif Nat.ble 5 pc then (bif Nat.beq pc 5 then (.getfield 264, 0, 0, []) else am_nop) else (bif Nat.beq pc 4 then (.aload_n 0, 0, 0, []) else am_nop)) else (bif Nat.ble 1 pc then (bif Nat.beq pc 1 then (.ldc2_w 262, 0, 0, []) else am_nop) else (bif Nat.beq pc 0 then (.aload_n 0, 0, 0, []) else am_nop)))
theorem fl_M_264 : am_fok RX6 264 (6, 15) := ⟨RX6, TX6, 16, rfl, by decide, rfl, Or.inl (am_tb 899 (by decide +kernel) rfl)⟩
theorem ck_M_262 : am_cok RX6 262 (.long 31) := am_tb 1306 (by decide +kernel) rfl
def m_M_mixes : MI := (k_M_mixes, [(264, 6, 15)], [], [(262, .long 31)], [], [], [], 0, 0, none, fun _ => 0, 1)
def v_M_mixes (h : HP) (a1 : Int64) : HP := (am_sl h 0 15 ((31 * (h.2 0 15)) + a1))
def g_M_mixes (_ _ : List Sh) (as : List Value) (h : HP) : GR := match as with
  | [.ref o1, .long a1] => (Nat.beq o1 0, True, none, none, v_M_mixes h a1)
  | _ => bad h
def d_M_mixes (k : Nat) : CD := (k, yX6_mixes, cX6_mixes, 3, none, 2, 0, 0, 0, false, false, g_M_mixes)
theorem chk_M_mixes : ∀ pc, am_chk cX6_mixes k_M_mixes pc = true := am_chkall 15 (by decide +kernel) (fun pc h => by unfold k_M_mixes; rw [Nat.ble_eq_true_of_le h]; rfl)
theorem pf_M_mixes : plainFor yX6_mixes = true := by decide +kernel
theorem cu_M_mixes : Cond.code yX6_mixes cX6_mixes 3 (none) ∈ am_U := am_tb 1305 (by decide +kernel) rfl
set_option maxHeartbeats 20000000 in
set_option maxRecDepth 100000 in
theorem ev_M_mixes {e1 ro : List Sh} {P : AR → HP → Prop} (h : HP) (a1 : Int64) (hP : ∀ q, v_M_mixes h a1 = q → RVW P h q) : am_Ev m_M_mixes (WM ++ e1) ro P (0, [.ref 0, .long a1, .retAddr 0], [], h) := by
  refine am_Ev_G [] 400 _ ?_
  show P (.inl none) (am_sl h 0 15 ((31 * (h.2 0 15)) + a1))
  exact hP (am_sl h 0 15 ((31 * (h.2 0 15)) + a1)) rfl
theorem ok_M_mixes {l : Launch} (hl : l.stackTraces = false) (e1 ro : List Sh) (k : Nat) : am_Ok l (WM ++ e1) ro (d_M_mixes k) := by
  refine am_met hl (own := RX6) (M := m_M_mixes) rfl pf_M_mixes cu_M_mixes rfl rfl rfl rfl (fun _ => rfl) rfl ⟨chk_M_mixes, (am_c (fl_M_264) am_n), (am_n), (am_c (ck_M_262) am_n), (am_n)⟩ (am_n) (am_n) ?_ ?_ ?_
  · intro _ as h hg
    show g_pre (g_M_mixes (WM ++ e1) ro as h)
    unfold g_M_mixes
    split <;> exact trivial
  · intro _ as h hg
    show g_thr (g_M_mixes (WM ++ e1) ro as h) = none
    unfold g_M_mixes
    split <;> rfl
  · intro as h hg hp
    revert hg hp
    show g_ok (g_M_mixes (WM ++ e1) ro as h) = true → g_pre (g_M_mixes (WM ++ e1) ro as h) → _ ∧ am_Ev m_M_mixes (WM ++ e1) ro (am_eq (g_M_mixes (WM ++ e1) ro as h)) (0, am_ent as 3, [], h)
    unfold g_M_mixes
    split
    · rename_i o1 a1
      intro hc hp
      change (Nat.beq o1 0) = true at hc
      obtain rfl := am_beq hc
      exact ⟨Nat.le_of_ble_eq_true rfl, ev_M_mixes h a1 eqRVW⟩
    · exact fun z => nomatch z
def k_M_mixesTrip (pc : Nat) : Ent := bif Nat.ble 56 pc then am_nop else bif Nat.ble 27 pc then (bif Nat.ble 42 pc then (bif Nat.ble 48 pc then (bif Nat.ble 52 pc then (bif Nat.ble 55 pc then (bif Nat.beq pc 55 then (.return_, 0, 0, []) else am_nop) else (bif Nat.beq pc 52 then (.invokevirtual 268, 0, 0, []) else am_nop)) else (bif Nat.ble 51 pc then (bif Nat.beq pc 51 then (.i2l, 0, 0, []) else am_nop) else (bif Nat.beq pc 48 then (.invokevirtual 255, 0, 0, []) else am_nop))) else (bif Nat.ble 46 pc then (bif Nat.ble 47 pc then (bif Nat.beq pc 47 then (.iload_n 1, 0, 1, []) else am_nop) else (bif Nat.beq pc 46 then (.aload_n 0, 0, 0, []) else am_nop)) else (bif Nat.ble 45 pc then (bif Nat.beq pc 45 then (.aload_n 0, 0, 0, []) else am_nop) else (bif Nat.beq pc 42 then (.invokevirtual 268, 0, 0, []) else am_nop)))) else (bif Nat.ble 35 pc then (bif Nat.ble 38 pc then (bif Nat.ble 41 pc then (bif Nat.beq pc 41 then (.i2l, 0, 0, []) else am_nop) else (bif Nat.beq pc 38 then (.invokevirtual 252, 0, 0, []) else am_nop)) else (bif Nat.ble 36 pc then (bif Nat.beq pc 36 then (.bipush 10, 10, 0, []) else am_nop) else (bif Nat.beq pc 35 then (.iload_n 1, 0, 1, []) else am_nop))) else (bif Nat.ble 33 pc then (bif Nat.ble 34 pc then (bif Nat.beq pc 34 then (.aload_n 0, 0, 0, []) else am_nop) else (bif Nat.beq pc 33 then (.aload_n 0, 0, 0, []) else am_nop)) else (bif Nat.ble 30 pc then (bif Nat.beq pc 30 then (.ifCond .eq 25, 0, 55, []) else am_nop) else (bif Nat.beq pc 27 then (.invokevirtual 60, 0, 0, []) else am_nop))))) else (bif Nat.ble 11 pc then (bif Nat.ble 19 pc then (bif Nat.ble 25 pc then (bif Nat.ble 26 pc then (bif Nat.beq pc 26 then (.iload_n 1, 0, 1, []) else am_nop) else (bif Nat.beq pc 25 then (.aload_n 0, 0, 0, []) else am_nop)) else (bif Nat.ble 22 pc then (bif Nat.beq pc 22 then (.goto (-20), 0, 2, []) else am_nop) else (bif Nat.beq pc 19 then (.iinc 2 1, 1, 2, []) else am_nop))) else (bif Nat.ble 15 pc then (bif Nat.ble 16 pc then (bif Nat.beq pc 16 then (.invokevirtual 268, 0, 0, []) else am_nop) else (bif Nat.beq pc 15 then (.i2l, 0, 0, []) else am_nop)) else (bif Nat.ble 12 pc then (bif Nat.beq pc 12 then (.invokevirtual 200, 0, 0, []) else am_nop) else (bif Nat.beq pc 11 then (.iload_n 2, 0, 2, []) else am_nop)))) else (bif Nat.ble 5 pc then (bif Nat.ble 9 pc then (bif Nat.ble 10 pc then (bif Nat.beq pc 10 then (.iload_n 1, 0, 1, []) else am_nop) else (bif Nat.beq pc 9 then (.aload_n 0, 0, 0, []) else am_nop)) else (bif Nat.ble 8 pc then (bif Nat.beq pc 8 then (.aload_n 0, 0, 0, []) else am_nop) else (bif Nat.beq pc 5 then (.if_icmp .ge 20, 0, 25, []) else am_nop))) else (bif Nat.ble 2 pc then (bif Nat.ble 3 pc then (bif Nat.beq pc 3 then (.bipush 9, 9, 0, []) else am_nop) else (bif Nat.beq pc 2 then (.iload_n 2, 0, 2, []) else am_nop)) else (bif Nat.ble 1 pc then (bif Nat.beq pc 1 then (.istore_n 2, 0, 2, []) else am_nop) else (bif Nat.beq pc 0 then (.iconst 0, 0, 0, []) else am_nop)))))
theorem lk_M_268 : am_lnk RX6 268 (d_M_mixes 16) := ⟨⟨by decide, by decide⟩, am_tb 8 (by decide +kernel) rfl, Or.inr ⟨by decide, rfl, am_tb 1304 (by decide +kernel) rfl, am_tp 128 (by decide +kernel) rfl, ⟨TX6, 16, rfl⟩, Or.inl (am_tb 1302 (by decide +kernel) rfl)⟩⟩
def m_M_mixesTrip : MI := (k_M_mixesTrip, [], [(60, d_M_isRun 16), (200, d_M_aboutTrip 16), (252, d_M_best 16), (255, d_M_failed 16), (268, d_M_mixes 16)], [], [], [], [], 8, 188, none, fun _ => 0, 1)
def s_M_mixesTrip_2 (h : HP) (a1 : Int32) (v1 : Int32 × HP) : (Int32 × HP) ⊕ (Int32 × HP) := (if v1.1 < 9 then (bnd (v_M_mixes v1.2 (((v_M_aboutTrip v1.2 a1 v1.1)).toInt64)) fun y2 => (.inl ((v1.1 + 1), y2))) else (.inr (v1.1, v1.2)))
def ps_M_mixesTrip_2 (h : HP) (a1 : Int32) (v1 : Int32 × HP) : Prop := ((v1.1 < 9 → (p_M_aboutTrip v1.2 a1 v1.1)) ∧ (¬ v1.1 < 9 → True))
def v_M_mixesTrip (h : HP) (a1 : Int32) : HP := (match itr (s_M_mixesTrip_2 h a1) NF (0, h) with | some r1 => (if (v_M_isRun r1.2 a1) = 0 then r1.2 else (bnd (v_M_best r1.2 a1 10) fun y3 => (bnd (v_M_mixes y3.2 ((y3.1).toInt64)) fun y4 => (bnd (v_M_failed y4 a1) fun y5 => (bnd (v_M_mixes y5.2 ((y5.1).toInt64)) fun y6 => y6))))) | none => h)
def p_M_mixesTrip (h : HP) (a1 : Int32) : Prop := (itrp (s_M_mixesTrip_2 h a1) (ps_M_mixesTrip_2 h a1) NF (0, h) ∧ ∀ r1, itr (s_M_mixesTrip_2 h a1) NF (0, h) = some r1 → ((p_M_isRun r1.2 a1) ∧ (((v_M_isRun r1.2 a1) = 0 → True) ∧ (¬ (v_M_isRun r1.2 a1) = 0 → ((p_M_best r1.2 a1 10) ∧ (∀ y3, v_M_best r1.2 a1 10 = y3 → (∀ y4, v_M_mixes y3.2 ((y3.1).toInt64) = y4 → (p_M_failed y4 a1))))))))
def g_M_mixesTrip (_ _ : List Sh) (as : List Value) (h : HP) : GR := match as with
  | [.ref o1, .int a1] => (Nat.beq o1 0, p_M_mixesTrip h a1, none, none, v_M_mixesTrip h a1)
  | _ => bad h
def d_M_mixesTrip (k : Nat) : CD := (k, yX6_mixesTrip, cX6_mixesTrip, 3, none, 2, 8, 188, 0, false, true, g_M_mixesTrip)
theorem chk_M_mixesTrip : ∀ pc, am_chk cX6_mixesTrip k_M_mixesTrip pc = true := am_chkall 56 (by decide +kernel) (fun pc h => by unfold k_M_mixesTrip; rw [Nat.ble_eq_true_of_le h]; rfl)
theorem pf_M_mixesTrip : plainFor yX6_mixesTrip = true := by decide +kernel
theorem cu_M_mixesTrip : Cond.code yX6_mixesTrip cX6_mixesTrip 3 (none) ∈ am_U := am_tb 1310 (by decide +kernel) rfl
set_option maxHeartbeats 20000000 in
set_option maxRecDepth 100000 in
theorem ev_M_mixesTrip {e1 ro : List Sh} {P : AR → HP → Prop} (h : HP) (a1 : Int32) (hp : p_M_mixesTrip h a1) (hP : ∀ q, v_M_mixesTrip h a1 = q → RVW P h q) : am_Ev m_M_mixesTrip (WM ++ e1) ro P (0, [.ref 0, .int a1, .retAddr 0], [], h) := by
  unfold p_M_mixesTrip at hp
  refine am_Ev_G [2] 400 _ ?_
  show am_Ev m_M_mixesTrip (WM ++ e1) ro P (2, [.ref 0, .int a1, .int 0], [], h)
  obtain ⟨hpl, hp⟩ := hp
  refine am_itr (E := (fun (v1 : Int32 × HP) => am_Ev m_M_mixesTrip (WM ++ e1) ro P (2, [.ref 0, .int a1, .int v1.1], [], v1.2))) (E' := (fun (r1 : Int32 × HP) => am_Ev m_M_mixesTrip (WM ++ e1) ro P (25, [.ref 0, .int a1, .int r1.1], [], r1.2))) (s_M_mixesTrip_2 h a1) (ps_M_mixesTrip_2 h a1) ?_ NF (0, h) hpl ?_
  · intro v1 hp hc1 hx1
    show am_Ev m_M_mixesTrip (WM ++ e1) ro P (2, [.ref 0, .int a1, .int v1.1], [], v1.2)
    unfold ps_M_mixesTrip_2 at hp
    refine am_Ev_G [15, 25] 400 _ ?_
    show ((¬ v1.1 < 9 → am_Ev m_M_mixesTrip (WM ++ e1) ro P (25, [.ref 0, .int a1, .int v1.1], [], v1.2)) ∧ (v1.1 < 9 → ((p_M_aboutTrip v1.2 a1 v1.1) ∧ am_Ev m_M_mixesTrip (WM ++ e1) ro P (15, [.ref 0, .int a1, .int v1.1], [.int (v_M_aboutTrip v1.2 a1 v1.1), .ref 0], v1.2))))
    refine ⟨fun c1 => ?_, fun c1 => ?_⟩
    · skip
      exact hx1 (v1.1, v1.2) (by unfold s_M_mixesTrip_2; simp only [if_neg c1])
    · have hp := hp.1 c1
      refine ⟨hp, ?_⟩
      refine am_Ev_G [19] 400 _ ?_
      show am_Ev m_M_mixesTrip (WM ++ e1) ro P (19, [.ref 0, .int a1, .int v1.1], [], (v_M_mixes v1.2 (((v_M_aboutTrip v1.2 a1 v1.1)).toInt64)))
      obtain ⟨y2, c2⟩ : ∃ y, v_M_mixes v1.2 (((v_M_aboutTrip v1.2 a1 v1.1)).toInt64) = y := ⟨_, rfl⟩
      rw [c2]
      show am_Ev m_M_mixesTrip (WM ++ e1) ro P (19, [.ref 0, .int a1, .int v1.1], [], y2)
      refine am_Ev_G [2] 400 _ ?_
      show am_Ev m_M_mixesTrip (WM ++ e1) ro P (2, [.ref 0, .int a1, .int (v1.1 + 1)], [], y2)
      exact hc1 ((v1.1 + 1), y2) (by unfold s_M_mixesTrip_2; simp only [if_pos c1, bnd, c2])
  · intro r1 hr3
    have hp := hp _ hr3
    show am_Ev m_M_mixesTrip (WM ++ e1) ro P (25, [.ref 0, .int a1, .int r1.1], [], r1.2)
    refine am_Ev_G [41, 55] 400 _ ?_
    show ((p_M_isRun r1.2 a1) ∧ (((v_M_isRun r1.2 a1) = 0 → am_Ev m_M_mixesTrip (WM ++ e1) ro P (55, [.ref 0, .int a1, .int r1.1], [], r1.2)) ∧ (¬ (v_M_isRun r1.2 a1) = 0 → ((p_M_best r1.2 a1 10) ∧ am_Ev m_M_mixesTrip (WM ++ e1) ro P (41, [.ref 0, .int a1, .int r1.1], [.int ((v_M_best r1.2 a1 10).1), .ref 0], ((v_M_best r1.2 a1 10).2))))))
    obtain ⟨hob, hp⟩ := hp
    refine ⟨hob, ?_⟩
    refine ⟨fun c4 => ?_, fun c4 => ?_⟩
    · skip
      refine am_Ev_G [] 400 _ ?_
      show P (.inl none) r1.2
      exact hP r1.2 (by unfold v_M_mixesTrip; simp only [hr3, if_pos c4])
    · have hp := hp.2 c4
      obtain ⟨hob, hp⟩ := hp
      refine ⟨hob, ?_⟩
      obtain ⟨y3, c5⟩ : ∃ y, v_M_best r1.2 a1 10 = y := ⟨_, rfl⟩
      rw [c5]
      have hp := hp _ c5
      show am_Ev m_M_mixesTrip (WM ++ e1) ro P (41, [.ref 0, .int a1, .int r1.1], [.int y3.1, .ref 0], y3.2)
      refine am_Ev_G [45] 400 _ ?_
      show am_Ev m_M_mixesTrip (WM ++ e1) ro P (45, [.ref 0, .int a1, .int r1.1], [], (v_M_mixes y3.2 ((y3.1).toInt64)))
      obtain ⟨y4, c6⟩ : ∃ y, v_M_mixes y3.2 ((y3.1).toInt64) = y := ⟨_, rfl⟩
      rw [c6]
      have hp := hp _ c6
      show am_Ev m_M_mixesTrip (WM ++ e1) ro P (45, [.ref 0, .int a1, .int r1.1], [], y4)
      refine am_Ev_G [51] 400 _ ?_
      show ((p_M_failed y4 a1) ∧ am_Ev m_M_mixesTrip (WM ++ e1) ro P (51, [.ref 0, .int a1, .int r1.1], [.int ((v_M_failed y4 a1).1), .ref 0], ((v_M_failed y4 a1).2)))
      refine ⟨hp, ?_⟩
      obtain ⟨y5, c7⟩ : ∃ y, v_M_failed y4 a1 = y := ⟨_, rfl⟩
      rw [c7]
      show am_Ev m_M_mixesTrip (WM ++ e1) ro P (51, [.ref 0, .int a1, .int r1.1], [.int y5.1, .ref 0], y5.2)
      refine am_Ev_G [55] 400 _ ?_
      show am_Ev m_M_mixesTrip (WM ++ e1) ro P (55, [.ref 0, .int a1, .int r1.1], [], (v_M_mixes y5.2 ((y5.1).toInt64)))
      obtain ⟨y6, c8⟩ : ∃ y, v_M_mixes y5.2 ((y5.1).toInt64) = y := ⟨_, rfl⟩
      rw [c8]
      show am_Ev m_M_mixesTrip (WM ++ e1) ro P (55, [.ref 0, .int a1, .int r1.1], [], y6)
      refine am_Ev_G [] 400 _ ?_
      show P (.inl none) y6
      exact hP y6 (by unfold v_M_mixesTrip; simp only [hr3, if_neg c4, bnd, c5, bnd, c6, bnd, c7, bnd, c8])
theorem ok_M_mixesTrip {l : Launch} (hl : l.stackTraces = false) (e1 ro : List Sh) (k : Nat) : am_Ok l (WM ++ e1) ro (d_M_mixesTrip k) := by
  refine am_met hl (own := RX6) (M := m_M_mixesTrip) rfl pf_M_mixesTrip cu_M_mixesTrip rfl rfl rfl rfl (fun _ => rfl) rfl ⟨chk_M_mixesTrip, (am_n), (am_c (lk_M_60) (am_c (lk_M_200) (am_c (lk_M_252) (am_c (lk_M_255) (am_c (lk_M_268) am_n))))), (am_n), (am_n)⟩ (am_n) (am_c (ok_M_isRun hl e1 _ 16) (am_c (ok_M_aboutTrip hl e1 _ 16) (am_c (ok_M_best hl e1 _ 16) (am_c (ok_M_failed hl e1 _ 16) (am_c (ok_M_mixes hl e1 _ 16) am_n))))) (fun z => nomatch z) ?_ ?_
  · intro _ as h hg
    show g_thr (g_M_mixesTrip (WM ++ e1) ro as h) = none
    unfold g_M_mixesTrip
    split <;> rfl
  · intro as h hg hp
    revert hg hp
    show g_ok (g_M_mixesTrip (WM ++ e1) ro as h) = true → g_pre (g_M_mixesTrip (WM ++ e1) ro as h) → _ ∧ am_Ev m_M_mixesTrip (WM ++ e1) ro (am_eq (g_M_mixesTrip (WM ++ e1) ro as h)) (0, am_ent as 3, [], h)
    unfold g_M_mixesTrip
    split
    · rename_i o1 a1
      intro hc hp
      change (Nat.beq o1 0) = true at hc
      obtain rfl := am_beq hc
      exact ⟨Nat.le_of_ble_eq_true rfl, ev_M_mixesTrip h a1 hp eqRVW⟩
    · exact fun z => nomatch z
def k_M_mixesBlock (pc : Nat) : Ent := bif Nat.ble 56 pc then am_nop else bif Nat.ble 28 pc then (bif Nat.ble 39 pc then (bif Nat.ble 45 pc then (bif Nat.ble 49 pc then (bif Nat.ble 52 pc then (bif Nat.ble 55 pc then (bif Nat.beq pc 55 then (.return_, 0, 0, []) else am_nop) else (bif Nat.beq pc 52 then (.goto (-25), 0, 27, []) else am_nop)) else (bif Nat.beq pc 49 then (.iinc 2 1, 1, 2, []) else am_nop)) else (bif Nat.ble 46 pc then (bif Nat.beq pc 46 then (.invokevirtual 268, 0, 0, []) else am_nop) else (bif Nat.beq pc 45 then (.i2l, 0, 0, []) else am_nop))) else (bif Nat.ble 41 pc then (bif Nat.ble 42 pc then (bif Nat.beq pc 42 then (.invokevirtual 227, 0, 0, []) else am_nop) else (bif Nat.beq pc 41 then (.irem, 0, 0, []) else am_nop)) else (bif Nat.ble 40 pc then (bif Nat.beq pc 40 then (.iconst 3, 3, 0, []) else am_nop) else (bif Nat.beq pc 39 then (.iload_n 2, 0, 2, []) else am_nop)))) else (bif Nat.ble 35 pc then (bif Nat.ble 37 pc then (bif Nat.ble 38 pc then (bif Nat.beq pc 38 then (.idiv, 0, 0, []) else am_nop) else (bif Nat.beq pc 37 then (.iconst 3, 3, 0, []) else am_nop)) else (bif Nat.ble 36 pc then (bif Nat.beq pc 36 then (.iload_n 2, 0, 2, []) else am_nop) else (bif Nat.beq pc 35 then (.iload_n 1, 0, 1, []) else am_nop))) else (bif Nat.ble 33 pc then (bif Nat.ble 34 pc then (bif Nat.beq pc 34 then (.aload_n 0, 0, 0, []) else am_nop) else (bif Nat.beq pc 33 then (.aload_n 0, 0, 0, []) else am_nop)) else (bif Nat.ble 30 pc then (bif Nat.beq pc 30 then (.if_icmp .ge 25, 0, 55, []) else am_nop) else (bif Nat.beq pc 28 then (.bipush 9, 9, 0, []) else am_nop))))) else (bif Nat.ble 11 pc then (bif Nat.ble 19 pc then (bif Nat.ble 25 pc then (bif Nat.ble 26 pc then (bif Nat.ble 27 pc then (bif Nat.beq pc 27 then (.iload_n 2, 0, 2, []) else am_nop) else (bif Nat.beq pc 26 then (.istore_n 2, 0, 2, []) else am_nop)) else (bif Nat.beq pc 25 then (.iconst 0, 0, 0, []) else am_nop)) else (bif Nat.ble 22 pc then (bif Nat.beq pc 22 then (.goto (-20), 0, 2, []) else am_nop) else (bif Nat.beq pc 19 then (.iinc 2 1, 1, 2, []) else am_nop))) else (bif Nat.ble 15 pc then (bif Nat.ble 16 pc then (bif Nat.beq pc 16 then (.invokevirtual 268, 0, 0, []) else am_nop) else (bif Nat.beq pc 15 then (.i2l, 0, 0, []) else am_nop)) else (bif Nat.ble 12 pc then (bif Nat.beq pc 12 then (.invokevirtual 224, 0, 0, []) else am_nop) else (bif Nat.beq pc 11 then (.iload_n 2, 0, 2, []) else am_nop)))) else (bif Nat.ble 5 pc then (bif Nat.ble 9 pc then (bif Nat.ble 10 pc then (bif Nat.beq pc 10 then (.iload_n 1, 0, 1, []) else am_nop) else (bif Nat.beq pc 9 then (.aload_n 0, 0, 0, []) else am_nop)) else (bif Nat.ble 8 pc then (bif Nat.beq pc 8 then (.aload_n 0, 0, 0, []) else am_nop) else (bif Nat.beq pc 5 then (.if_icmp .ge 20, 0, 25, []) else am_nop))) else (bif Nat.ble 2 pc then (bif Nat.ble 3 pc then (bif Nat.beq pc 3 then (.bipush 7, 7, 0, []) else am_nop) else (bif Nat.beq pc 2 then (.iload_n 2, 0, 2, []) else am_nop)) else (bif Nat.ble 1 pc then (bif Nat.beq pc 1 then (.istore_n 2, 0, 2, []) else am_nop) else (bif Nat.beq pc 0 then (.iconst 0, 0, 0, []) else am_nop)))))
def m_M_mixesBlock : MI := (k_M_mixesBlock, [], [(224, d_M_aboutBlock 16), (227, d_M_dutyTold 16), (268, d_M_mixes 16)], [], [], [], [], 6, 136, none, fun _ => 0, 1)
def s_M_mixesBlock_2 (h : HP) (a1 : Int32) (v1 : Int32 × HP) : (Int32 × HP) ⊕ (Int32 × HP) := (if v1.1 < 7 then (bnd (v_M_aboutBlock v1.2 a1 v1.1) fun y2 => (bnd (v_M_mixes y2.2 ((y2.1).toInt64)) fun y3 => (.inl ((v1.1 + 1), y3)))) else (.inr (v1.1, v1.2)))
def ps_M_mixesBlock_2 (h : HP) (a1 : Int32) (v1 : Int32 × HP) : Prop := ((v1.1 < 7 → (p_M_aboutBlock v1.2 a1 v1.1)) ∧ (¬ v1.1 < 7 → True))
def s_M_mixesBlock_27 (h : HP) (a1 : Int32) (r1 : Int32 × HP) (v1 : Int32 × HP) : (Int32 × HP) ⊕ (Int32 × HP) := (if v1.1 < 9 then (bnd (v_M_dutyTold v1.2 a1 (v1.1 / 3) (v1.1 - v1.1 / 3 * 3)) fun y5 => (bnd (v_M_mixes y5.2 ((y5.1).toInt64)) fun y6 => (.inl ((v1.1 + 1), y6)))) else (.inr (v1.1, v1.2)))
def ps_M_mixesBlock_27 (h : HP) (a1 : Int32) (r1 : Int32 × HP) (v1 : Int32 × HP) : Prop := ((v1.1 < 9 → (p_M_dutyTold v1.2 a1 (v1.1 / 3) (v1.1 - v1.1 / 3 * 3))) ∧ (¬ v1.1 < 9 → True))
def v_M_mixesBlock (h : HP) (a1 : Int32) : HP := (match itr (s_M_mixesBlock_2 h a1) NF (0, h) with | some r1 => (match itr (s_M_mixesBlock_27 h a1 r1) NF (0, r1.2) with | some r4 => r4.2 | none => h) | none => h)
def p_M_mixesBlock (h : HP) (a1 : Int32) : Prop := (itrp (s_M_mixesBlock_2 h a1) (ps_M_mixesBlock_2 h a1) NF (0, h) ∧ ∀ r1, itr (s_M_mixesBlock_2 h a1) NF (0, h) = some r1 → (itrp (s_M_mixesBlock_27 h a1 r1) (ps_M_mixesBlock_27 h a1 r1) NF (0, r1.2)))
def g_M_mixesBlock (_ _ : List Sh) (as : List Value) (h : HP) : GR := match as with
  | [.ref o1, .int a1] => (Nat.beq o1 0, p_M_mixesBlock h a1, none, none, v_M_mixesBlock h a1)
  | _ => bad h
def d_M_mixesBlock (k : Nat) : CD := (k, yX6_mixesBlock, cX6_mixesBlock, 3, none, 2, 6, 136, 0, false, true, g_M_mixesBlock)
theorem chk_M_mixesBlock : ∀ pc, am_chk cX6_mixesBlock k_M_mixesBlock pc = true := am_chkall 56 (by decide +kernel) (fun pc h => by unfold k_M_mixesBlock; rw [Nat.ble_eq_true_of_le h]; rfl)
theorem pf_M_mixesBlock : plainFor yX6_mixesBlock = true := by decide +kernel
theorem cu_M_mixesBlock : Cond.code yX6_mixesBlock cX6_mixesBlock 3 (none) ∈ am_U := am_tb 1314 (by decide +kernel) rfl
set_option maxHeartbeats 20000000 in
set_option maxRecDepth 100000 in
theorem ev_M_mixesBlock {e1 ro : List Sh} {P : AR → HP → Prop} (h : HP) (a1 : Int32) (hp : p_M_mixesBlock h a1) (hP : ∀ q, v_M_mixesBlock h a1 = q → RVW P h q) : am_Ev m_M_mixesBlock (WM ++ e1) ro P (0, [.ref 0, .int a1, .retAddr 0], [], h) := by
  unfold p_M_mixesBlock at hp
  refine am_Ev_G [2] 400 _ ?_
  show am_Ev m_M_mixesBlock (WM ++ e1) ro P (2, [.ref 0, .int a1, .int 0], [], h)
  obtain ⟨hpl, hp⟩ := hp
  refine am_itr (E := (fun (v1 : Int32 × HP) => am_Ev m_M_mixesBlock (WM ++ e1) ro P (2, [.ref 0, .int a1, .int v1.1], [], v1.2))) (E' := (fun (r1 : Int32 × HP) => am_Ev m_M_mixesBlock (WM ++ e1) ro P (25, [.ref 0, .int a1, .int r1.1], [], r1.2))) (s_M_mixesBlock_2 h a1) (ps_M_mixesBlock_2 h a1) ?_ NF (0, h) hpl ?_
  · intro v1 hp hc1 hx1
    show am_Ev m_M_mixesBlock (WM ++ e1) ro P (2, [.ref 0, .int a1, .int v1.1], [], v1.2)
    unfold ps_M_mixesBlock_2 at hp
    refine am_Ev_G [15, 25] 400 _ ?_
    show ((¬ v1.1 < 7 → am_Ev m_M_mixesBlock (WM ++ e1) ro P (25, [.ref 0, .int a1, .int v1.1], [], v1.2)) ∧ (v1.1 < 7 → ((p_M_aboutBlock v1.2 a1 v1.1) ∧ am_Ev m_M_mixesBlock (WM ++ e1) ro P (15, [.ref 0, .int a1, .int v1.1], [.int ((v_M_aboutBlock v1.2 a1 v1.1).1), .ref 0], ((v_M_aboutBlock v1.2 a1 v1.1).2)))))
    refine ⟨fun c1 => ?_, fun c1 => ?_⟩
    · skip
      exact hx1 (v1.1, v1.2) (by unfold s_M_mixesBlock_2; simp only [if_neg c1])
    · have hp := hp.1 c1
      refine ⟨hp, ?_⟩
      obtain ⟨y2, c2⟩ : ∃ y, v_M_aboutBlock v1.2 a1 v1.1 = y := ⟨_, rfl⟩
      rw [c2]
      show am_Ev m_M_mixesBlock (WM ++ e1) ro P (15, [.ref 0, .int a1, .int v1.1], [.int y2.1, .ref 0], y2.2)
      refine am_Ev_G [19] 400 _ ?_
      show am_Ev m_M_mixesBlock (WM ++ e1) ro P (19, [.ref 0, .int a1, .int v1.1], [], (v_M_mixes y2.2 ((y2.1).toInt64)))
      obtain ⟨y3, c3⟩ : ∃ y, v_M_mixes y2.2 ((y2.1).toInt64) = y := ⟨_, rfl⟩
      rw [c3]
      show am_Ev m_M_mixesBlock (WM ++ e1) ro P (19, [.ref 0, .int a1, .int v1.1], [], y3)
      refine am_Ev_G [2] 400 _ ?_
      show am_Ev m_M_mixesBlock (WM ++ e1) ro P (2, [.ref 0, .int a1, .int (v1.1 + 1)], [], y3)
      exact hc1 ((v1.1 + 1), y3) (by unfold s_M_mixesBlock_2; simp only [if_pos c1, bnd, c2, bnd, c3])
  · intro r1 hr4
    have hp := hp _ hr4
    show am_Ev m_M_mixesBlock (WM ++ e1) ro P (25, [.ref 0, .int a1, .int r1.1], [], r1.2)
    refine am_Ev_G [27] 400 _ ?_
    show am_Ev m_M_mixesBlock (WM ++ e1) ro P (27, [.ref 0, .int a1, .int 0], [], r1.2)
    have hpl := hp
    refine am_itr (E := (fun (v1 : Int32 × HP) => am_Ev m_M_mixesBlock (WM ++ e1) ro P (27, [.ref 0, .int a1, .int v1.1], [], v1.2))) (E' := (fun (r4 : Int32 × HP) => am_Ev m_M_mixesBlock (WM ++ e1) ro P (55, [.ref 0, .int a1, .int r4.1], [], r4.2))) (s_M_mixesBlock_27 h a1 r1) (ps_M_mixesBlock_27 h a1 r1) ?_ NF (0, r1.2) hpl ?_
    · intro v1 hp hc1 hx1
      show am_Ev m_M_mixesBlock (WM ++ e1) ro P (27, [.ref 0, .int a1, .int v1.1], [], v1.2)
      unfold ps_M_mixesBlock_27 at hp
      refine am_Ev_G [40, 55] 400 _ ?_
      show ((¬ v1.1 < 9 → am_Ev m_M_mixesBlock (WM ++ e1) ro P (55, [.ref 0, .int a1, .int v1.1], [], v1.2)) ∧ (v1.1 < 9 → ((¬ 3 = 0) ∧ am_Ev m_M_mixesBlock (WM ++ e1) ro P (40, [.ref 0, .int a1, .int v1.1], [.int v1.1, .int (v1.1 / 3), .int a1, .ref 0, .ref 0], v1.2))))
      refine ⟨fun c5 => ?_, fun c5 => ?_⟩
      · skip
        exact hx1 (v1.1, v1.2) (by unfold s_M_mixesBlock_27; simp only [if_neg c5])
      · have hp := hp.1 c5
        refine ⟨(by decide), ?_⟩
        refine am_Ev_G [45] 400 _ ?_
        show ((¬ 3 = 0) ∧ ((p_M_dutyTold v1.2 a1 (v1.1 / 3) (v1.1 - v1.1 / 3 * 3)) ∧ am_Ev m_M_mixesBlock (WM ++ e1) ro P (45, [.ref 0, .int a1, .int v1.1], [.int ((v_M_dutyTold v1.2 a1 (v1.1 / 3) (v1.1 - v1.1 / 3 * 3)).1), .ref 0], ((v_M_dutyTold v1.2 a1 (v1.1 / 3) (v1.1 - v1.1 / 3 * 3)).2))))
        refine ⟨(by decide), ?_⟩
        refine ⟨hp, ?_⟩
        obtain ⟨y5, c6⟩ : ∃ y, v_M_dutyTold v1.2 a1 (v1.1 / 3) (v1.1 - v1.1 / 3 * 3) = y := ⟨_, rfl⟩
        rw [c6]
        show am_Ev m_M_mixesBlock (WM ++ e1) ro P (45, [.ref 0, .int a1, .int v1.1], [.int y5.1, .ref 0], y5.2)
        refine am_Ev_G [49] 400 _ ?_
        show am_Ev m_M_mixesBlock (WM ++ e1) ro P (49, [.ref 0, .int a1, .int v1.1], [], (v_M_mixes y5.2 ((y5.1).toInt64)))
        obtain ⟨y6, c7⟩ : ∃ y, v_M_mixes y5.2 ((y5.1).toInt64) = y := ⟨_, rfl⟩
        rw [c7]
        show am_Ev m_M_mixesBlock (WM ++ e1) ro P (49, [.ref 0, .int a1, .int v1.1], [], y6)
        refine am_Ev_G [27] 400 _ ?_
        show am_Ev m_M_mixesBlock (WM ++ e1) ro P (27, [.ref 0, .int a1, .int (v1.1 + 1)], [], y6)
        exact hc1 ((v1.1 + 1), y6) (by unfold s_M_mixesBlock_27; simp only [if_pos c5, bnd, c6, bnd, c7])
    · intro r4 hr8
      show am_Ev m_M_mixesBlock (WM ++ e1) ro P (55, [.ref 0, .int a1, .int r4.1], [], r4.2)
      refine am_Ev_G [] 400 _ ?_
      show P (.inl none) r4.2
      exact hP r4.2 (by unfold v_M_mixesBlock; simp only [hr4, hr8])
theorem ok_M_mixesBlock {l : Launch} (hl : l.stackTraces = false) (e1 ro : List Sh) (k : Nat) : am_Ok l (WM ++ e1) ro (d_M_mixesBlock k) := by
  refine am_met hl (own := RX6) (M := m_M_mixesBlock) rfl pf_M_mixesBlock cu_M_mixesBlock rfl rfl rfl rfl (fun _ => rfl) rfl ⟨chk_M_mixesBlock, (am_n), (am_c (lk_M_224) (am_c (lk_M_227) (am_c (lk_M_268) am_n))), (am_n), (am_n)⟩ (am_n) (am_c (ok_M_aboutBlock hl e1 _ 16) (am_c (ok_M_dutyTold hl e1 _ 16) (am_c (ok_M_mixes hl e1 _ 16) am_n))) (fun z => nomatch z) ?_ ?_
  · intro _ as h hg
    show g_thr (g_M_mixesBlock (WM ++ e1) ro as h) = none
    unfold g_M_mixesBlock
    split <;> rfl
  · intro as h hg hp
    revert hg hp
    show g_ok (g_M_mixesBlock (WM ++ e1) ro as h) = true → g_pre (g_M_mixesBlock (WM ++ e1) ro as h) → _ ∧ am_Ev m_M_mixesBlock (WM ++ e1) ro (am_eq (g_M_mixesBlock (WM ++ e1) ro as h)) (0, am_ent as 3, [], h)
    unfold g_M_mixesBlock
    split
    · rename_i o1 a1
      intro hc hp
      change (Nat.beq o1 0) = true at hc
      obtain rfl := am_beq hc
      exact ⟨Nat.le_of_ble_eq_true rfl, ev_M_mixesBlock h a1 hp eqRVW⟩
    · exact fun z => nomatch z
def k_M_mixesAll (pc : Nat) : Ent := bif Nat.ble 126 pc then am_nop else bif Nat.ble 61 pc then (bif Nat.ble 90 pc then (bif Nat.ble 107 pc then (bif Nat.ble 115 pc then (bif Nat.ble 119 pc then (bif Nat.ble 122 pc then (bif Nat.ble 125 pc then (bif Nat.beq pc 125 then (.return_, 0, 0, []) else am_nop) else (bif Nat.beq pc 122 then (.goto (-16), 0, 106, []) else am_nop)) else (bif Nat.beq pc 119 then (.iinc 1 1, 1, 1, []) else am_nop)) else (bif Nat.ble 116 pc then (bif Nat.beq pc 116 then (.invokevirtual 275, 0, 0, []) else am_nop) else (bif Nat.beq pc 115 then (.iload_n 1, 0, 1, []) else am_nop))) else (bif Nat.ble 111 pc then (bif Nat.ble 114 pc then (bif Nat.beq pc 114 then (.aload_n 0, 0, 0, []) else am_nop) else (bif Nat.beq pc 111 then (.if_icmp .ge 14, 0, 125, []) else am_nop)) else (bif Nat.ble 108 pc then (bif Nat.beq pc 108 then (.invokevirtual 93, 0, 0, []) else am_nop) else (bif Nat.beq pc 107 then (.aload_n 0, 0, 0, []) else am_nop)))) else (bif Nat.ble 98 pc then (bif Nat.ble 104 pc then (bif Nat.ble 105 pc then (bif Nat.ble 106 pc then (bif Nat.beq pc 106 then (.iload_n 1, 0, 1, []) else am_nop) else (bif Nat.beq pc 105 then (.istore_n 1, 0, 1, []) else am_nop)) else (bif Nat.beq pc 104 then (.iconst 0, 0, 0, []) else am_nop)) else (bif Nat.ble 101 pc then (bif Nat.beq pc 101 then (.goto (-19), 0, 82, []) else am_nop) else (bif Nat.beq pc 98 then (.iinc 1 1, 1, 1, []) else am_nop))) else (bif Nat.ble 94 pc then (bif Nat.ble 95 pc then (bif Nat.beq pc 95 then (.invokevirtual 272, 0, 0, []) else am_nop) else (bif Nat.beq pc 94 then (.iload_n 1, 0, 1, []) else am_nop)) else (bif Nat.ble 93 pc then (bif Nat.beq pc 93 then (.aload_n 0, 0, 0, []) else am_nop) else (bif Nat.beq pc 90 then (.if_icmp .ge 14, 0, 104, []) else am_nop))))) else (bif Nat.ble 74 pc then (bif Nat.ble 82 pc then (bif Nat.ble 84 pc then (bif Nat.ble 87 pc then (bif Nat.ble 89 pc then (bif Nat.beq pc 89 then (.iaload, 0, 0, []) else am_nop) else (bif Nat.beq pc 87 then (.bipush 15, 15, 0, []) else am_nop)) else (bif Nat.beq pc 84 then (.getfield 7, 0, 0, []) else am_nop)) else (bif Nat.ble 83 pc then (bif Nat.beq pc 83 then (.aload_n 0, 0, 0, []) else am_nop) else (bif Nat.beq pc 82 then (.iload_n 1, 0, 1, []) else am_nop))) else (bif Nat.ble 80 pc then (bif Nat.ble 81 pc then (bif Nat.beq pc 81 then (.istore_n 1, 0, 1, []) else am_nop) else (bif Nat.beq pc 80 then (.iconst 0, 0, 0, []) else am_nop)) else (bif Nat.ble 77 pc then (bif Nat.beq pc 77 then (.goto (-24), 0, 53, []) else am_nop) else (bif Nat.beq pc 74 then (.iinc 1 1, 1, 1, []) else am_nop)))) else (bif Nat.ble 65 pc then (bif Nat.ble 67 pc then (bif Nat.ble 70 pc then (bif Nat.ble 71 pc then (bif Nat.beq pc 71 then (.invokevirtual 268, 0, 0, []) else am_nop) else (bif Nat.beq pc 70 then (.i2l, 0, 0, []) else am_nop)) else (bif Nat.beq pc 67 then (.invokevirtual 194, 0, 0, []) else am_nop)) else (bif Nat.ble 66 pc then (bif Nat.beq pc 66 then (.irem, 0, 0, []) else am_nop) else (bif Nat.beq pc 65 then (.iconst 5, 5, 0, []) else am_nop))) else (bif Nat.ble 63 pc then (bif Nat.ble 64 pc then (bif Nat.beq pc 64 then (.iload_n 1, 0, 1, []) else am_nop) else (bif Nat.beq pc 63 then (.idiv, 0, 0, []) else am_nop)) else (bif Nat.ble 62 pc then (bif Nat.beq pc 62 then (.iconst 5, 5, 0, []) else am_nop) else (bif Nat.beq pc 61 then (.iload_n 1, 0, 1, []) else am_nop)))))) else (bif Nat.ble 31 pc then (bif Nat.ble 45 pc then (bif Nat.ble 53 pc then (bif Nat.ble 56 pc then (bif Nat.ble 59 pc then (bif Nat.ble 60 pc then (bif Nat.beq pc 60 then (.aload_n 0, 0, 0, []) else am_nop) else (bif Nat.beq pc 59 then (.aload_n 0, 0, 0, []) else am_nop)) else (bif Nat.beq pc 56 then (.if_icmp .ge 24, 0, 80, []) else am_nop)) else (bif Nat.ble 54 pc then (bif Nat.beq pc 54 then (.bipush 20, 20, 0, []) else am_nop) else (bif Nat.beq pc 53 then (.iload_n 1, 0, 1, []) else am_nop))) else (bif Nat.ble 51 pc then (bif Nat.ble 52 pc then (bif Nat.beq pc 52 then (.istore_n 1, 0, 1, []) else am_nop) else (bif Nat.beq pc 51 then (.iconst 0, 0, 0, []) else am_nop)) else (bif Nat.ble 48 pc then (bif Nat.beq pc 48 then (.goto (-22), 0, 26, []) else am_nop) else (bif Nat.beq pc 45 then (.iinc 1 1, 1, 1, []) else am_nop)))) else (bif Nat.ble 38 pc then (bif Nat.ble 40 pc then (bif Nat.ble 41 pc then (bif Nat.ble 42 pc then (bif Nat.beq pc 42 then (.invokevirtual 268, 0, 0, []) else am_nop) else (bif Nat.beq pc 41 then (.i2l, 0, 0, []) else am_nop)) else (bif Nat.beq pc 40 then (.iaload, 0, 0, []) else am_nop)) else (bif Nat.ble 39 pc then (bif Nat.beq pc 39 then (.iadd, 0, 0, []) else am_nop) else (bif Nat.beq pc 38 then (.iload_n 1, 0, 1, []) else am_nop))) else (bif Nat.ble 33 pc then (bif Nat.ble 36 pc then (bif Nat.beq pc 36 then (.bipush 8, 8, 0, []) else am_nop) else (bif Nat.beq pc 33 then (.getfield 7, 0, 0, []) else am_nop)) else (bif Nat.ble 32 pc then (bif Nat.beq pc 32 then (.aload_n 0, 0, 0, []) else am_nop) else (bif Nat.beq pc 31 then (.aload_n 0, 0, 0, []) else am_nop))))) else (bif Nat.ble 14 pc then (bif Nat.ble 24 pc then (bif Nat.ble 26 pc then (bif Nat.ble 27 pc then (bif Nat.ble 28 pc then (bif Nat.beq pc 28 then (.if_icmp .ge 23, 0, 51, []) else am_nop) else (bif Nat.beq pc 27 then (.iconst 4, 4, 0, []) else am_nop)) else (bif Nat.beq pc 26 then (.iload_n 1, 0, 1, []) else am_nop)) else (bif Nat.ble 25 pc then (bif Nat.beq pc 25 then (.istore_n 1, 0, 1, []) else am_nop) else (bif Nat.beq pc 24 then (.iconst 0, 0, 0, []) else am_nop))) else (bif Nat.ble 18 pc then (bif Nat.ble 21 pc then (bif Nat.beq pc 21 then (.goto (-19), 0, 2, []) else am_nop) else (bif Nat.beq pc 18 then (.iinc 1 1, 1, 1, []) else am_nop)) else (bif Nat.ble 15 pc then (bif Nat.beq pc 15 then (.invokevirtual 268, 0, 0, []) else am_nop) else (bif Nat.beq pc 14 then (.i2l, 0, 0, []) else am_nop)))) else (bif Nat.ble 5 pc then (bif Nat.ble 9 pc then (bif Nat.ble 10 pc then (bif Nat.ble 11 pc then (bif Nat.beq pc 11 then (.invokevirtual 245, 0, 0, []) else am_nop) else (bif Nat.beq pc 10 then (.iload_n 1, 0, 1, []) else am_nop)) else (bif Nat.beq pc 9 then (.aload_n 0, 0, 0, []) else am_nop)) else (bif Nat.ble 8 pc then (bif Nat.beq pc 8 then (.aload_n 0, 0, 0, []) else am_nop) else (bif Nat.beq pc 5 then (.if_icmp .ge 19, 0, 24, []) else am_nop))) else (bif Nat.ble 2 pc then (bif Nat.ble 3 pc then (bif Nat.beq pc 3 then (.bipush 11, 11, 0, []) else am_nop) else (bif Nat.beq pc 2 then (.iload_n 1, 0, 1, []) else am_nop)) else (bif Nat.ble 1 pc then (bif Nat.beq pc 1 then (.istore_n 1, 0, 1, []) else am_nop) else (bif Nat.beq pc 0 then (.iconst 0, 0, 0, []) else am_nop))))))
theorem lk_M_272 : am_lnk RX6 272 (d_M_mixesTrip 16) := ⟨⟨by decide, by decide⟩, am_tb 8 (by decide +kernel) rfl, Or.inr ⟨by decide, rfl, am_tb 1309 (by decide +kernel) rfl, am_tp 129 (by decide +kernel) rfl, ⟨TX6, 16, rfl⟩, Or.inl (am_tb 1307 (by decide +kernel) rfl)⟩⟩
theorem lk_M_275 : am_lnk RX6 275 (d_M_mixesBlock 16) := ⟨⟨by decide, by decide⟩, am_tb 8 (by decide +kernel) rfl, Or.inr ⟨by decide, rfl, am_tb 1313 (by decide +kernel) rfl, am_tp 130 (by decide +kernel) rfl, ⟨TX6, 16, rfl⟩, Or.inl (am_tb 1311 (by decide +kernel) rfl)⟩⟩
def m_M_mixesAll : MI := (k_M_mixesAll, [(7, 6, 0)], [(93, d_M_blocks 16), (194, d_M_aboutTerminal 16), (245, d_M_counted 16), (268, d_M_mixes 16), (272, d_M_mixesTrip 16), (275, d_M_mixesBlock 16)], [], [], [], [], 9, 210, none, fun _ => 0, 1)
def s_M_mixesAll_2 (h : HP) (v1 : Int32 × HP) : (Int32 × HP) ⊕ (Int32 × HP) := (if v1.1 < 11 then (bnd (v_M_counted v1.2 v1.1) fun y2 => (bnd (v_M_mixes y2.2 ((y2.1).toInt64)) fun y3 => (.inl ((v1.1 + 1), y3)))) else (.inr (v1.1, v1.2)))
def ps_M_mixesAll_2 (h : HP) (v1 : Int32 × HP) : Prop := ((v1.1 < 11 → (p_M_counted v1.2 v1.1)) ∧ (¬ v1.1 < 11 → True))
def s_M_mixesAll_26 (h : HP) (r1 : Int32 × HP) (v1 : Int32 × HP) : (Int32 × HP) ⊕ (Int32 × HP) := (if v1.1 < 4 then (bnd (v_M_mixes v1.2 (((v1.2.1 1 (am_ix (8 + v1.1)))).toInt64)) fun y5 => (.inl ((v1.1 + 1), y5))) else (.inr (v1.1, v1.2)))
def ps_M_mixesAll_26 (h : HP) (r1 : Int32 × HP) (v1 : Int32 × HP) : Prop := ((v1.1 < 4 → (am_in (8 + v1.1) 163)) ∧ (¬ v1.1 < 4 → True))
def s_M_mixesAll_53 (h : HP) (r1 : Int32 × HP) (r4 : Int32 × HP) (v1 : Int32 × HP) : (Int32 × HP) ⊕ (Int32 × HP) := (if v1.1 < 20 then (bnd (v_M_mixes v1.2 (((v_M_aboutTerminal v1.2 (v1.1 / 5) (v1.1 - v1.1 / 5 * 5))).toInt64)) fun y7 => (.inl ((v1.1 + 1), y7))) else (.inr (v1.1, v1.2)))
def ps_M_mixesAll_53 (h : HP) (r1 : Int32 × HP) (r4 : Int32 × HP) (v1 : Int32 × HP) : Prop := ((v1.1 < 20 → (p_M_aboutTerminal v1.2 (v1.1 / 5) (v1.1 - v1.1 / 5 * 5))) ∧ (¬ v1.1 < 20 → True))
def s_M_mixesAll_82 (h : HP) (r1 : Int32 × HP) (r4 : Int32 × HP) (r6 : Int32 × HP) (v1 : Int32 × HP) : (Int32 × HP) ⊕ (Int32 × HP) := (if v1.1 < (v1.2.1 1 (am_ix 15)) then (bnd (v_M_mixesTrip v1.2 v1.1) fun y9 => (.inl ((v1.1 + 1), y9))) else (.inr (v1.1, v1.2)))
def ps_M_mixesAll_82 (h : HP) (r1 : Int32 × HP) (r4 : Int32 × HP) (r6 : Int32 × HP) (v1 : Int32 × HP) : Prop := ((v1.1 < (v1.2.1 1 (am_ix 15)) → (p_M_mixesTrip v1.2 v1.1)) ∧ (¬ v1.1 < (v1.2.1 1 (am_ix 15)) → True))
def s_M_mixesAll_106 (h : HP) (r1 : Int32 × HP) (r4 : Int32 × HP) (r6 : Int32 × HP) (r8 : Int32 × HP) (v1 : Int32 × HP) : (Int32 × HP) ⊕ (Int32 × HP) := (if v1.1 < (v_M_blocks v1.2) then (bnd (v_M_mixesBlock v1.2 v1.1) fun y11 => (.inl ((v1.1 + 1), y11))) else (.inr (v1.1, v1.2)))
def ps_M_mixesAll_106 (h : HP) (r1 : Int32 × HP) (r4 : Int32 × HP) (r6 : Int32 × HP) (r8 : Int32 × HP) (v1 : Int32 × HP) : Prop := ((p_M_blocks v1.2) ∧ ((v1.1 < (v_M_blocks v1.2) → (p_M_mixesBlock v1.2 v1.1)) ∧ (¬ v1.1 < (v_M_blocks v1.2) → True)))
def v_M_mixesAll (h : HP) : HP := (match itr (s_M_mixesAll_2 h) NF (0, h) with | some r1 => (match itr (s_M_mixesAll_26 h r1) NF (0, r1.2) with | some r4 => (match itr (s_M_mixesAll_53 h r1 r4) NF (0, r4.2) with | some r6 => (match itr (s_M_mixesAll_82 h r1 r4 r6) NF (0, r6.2) with | some r8 => (match itr (s_M_mixesAll_106 h r1 r4 r6 r8) NF (0, r8.2) with | some r10 => r10.2 | none => h) | none => h) | none => h) | none => h) | none => h)
def p_M_mixesAll (h : HP) : Prop := (itrp (s_M_mixesAll_2 h) (ps_M_mixesAll_2 h) NF (0, h) ∧ ∀ r1, itr (s_M_mixesAll_2 h) NF (0, h) = some r1 → (itrp (s_M_mixesAll_26 h r1) (ps_M_mixesAll_26 h r1) NF (0, r1.2) ∧ ∀ r4, itr (s_M_mixesAll_26 h r1) NF (0, r1.2) = some r4 → (itrp (s_M_mixesAll_53 h r1 r4) (ps_M_mixesAll_53 h r1 r4) NF (0, r4.2) ∧ ∀ r6, itr (s_M_mixesAll_53 h r1 r4) NF (0, r4.2) = some r6 → (itrp (s_M_mixesAll_82 h r1 r4 r6) (ps_M_mixesAll_82 h r1 r4 r6) NF (0, r6.2) ∧ ∀ r8, itr (s_M_mixesAll_82 h r1 r4 r6) NF (0, r6.2) = some r8 → (itrp (s_M_mixesAll_106 h r1 r4 r6 r8) (ps_M_mixesAll_106 h r1 r4 r6 r8) NF (0, r8.2))))))
def g_M_mixesAll (_ _ : List Sh) (as : List Value) (h : HP) : GR := match as with
  | [.ref o1] => (Nat.beq o1 0, p_M_mixesAll h, none, none, v_M_mixesAll h)
  | _ => bad h
def d_M_mixesAll (k : Nat) : CD := (k, yX6_mixesAll, cX6_mixesAll, 2, none, 1, 9, 210, 0, false, true, g_M_mixesAll)
theorem chk_M_mixesAll : ∀ pc, am_chk cX6_mixesAll k_M_mixesAll pc = true := am_chkall 126 (by decide +kernel) (fun pc h => by unfold k_M_mixesAll; rw [Nat.ble_eq_true_of_le h]; rfl)
theorem pf_M_mixesAll : plainFor yX6_mixesAll = true := by decide +kernel
theorem cu_M_mixesAll : Cond.code yX6_mixesAll cX6_mixesAll 2 (none) ∈ am_U := am_tb 1301 (by decide +kernel) rfl
set_option maxHeartbeats 20000000 in
set_option maxRecDepth 100000 in
theorem ev_M_mixesAll {e1 ro : List Sh} {P : AR → HP → Prop} (h : HP) (hp : p_M_mixesAll h) (hP : ∀ q, v_M_mixesAll h = q → RVW P h q) : am_Ev m_M_mixesAll (WM ++ e1) ro P (0, [.ref 0, .retAddr 0], [], h) := by
  unfold p_M_mixesAll at hp
  refine am_Ev_G [2] 400 _ ?_
  show am_Ev m_M_mixesAll (WM ++ e1) ro P (2, [.ref 0, .int 0], [], h)
  obtain ⟨hpl, hp⟩ := hp
  refine am_itr (E := (fun (v1 : Int32 × HP) => am_Ev m_M_mixesAll (WM ++ e1) ro P (2, [.ref 0, .int v1.1], [], v1.2))) (E' := (fun (r1 : Int32 × HP) => am_Ev m_M_mixesAll (WM ++ e1) ro P (24, [.ref 0, .int r1.1], [], r1.2))) (s_M_mixesAll_2 h) (ps_M_mixesAll_2 h) ?_ NF (0, h) hpl ?_
  · intro v1 hp hc1 hx1
    show am_Ev m_M_mixesAll (WM ++ e1) ro P (2, [.ref 0, .int v1.1], [], v1.2)
    unfold ps_M_mixesAll_2 at hp
    refine am_Ev_G [14, 24] 400 _ ?_
    show ((¬ v1.1 < 11 → am_Ev m_M_mixesAll (WM ++ e1) ro P (24, [.ref 0, .int v1.1], [], v1.2)) ∧ (v1.1 < 11 → ((p_M_counted v1.2 v1.1) ∧ am_Ev m_M_mixesAll (WM ++ e1) ro P (14, [.ref 0, .int v1.1], [.int ((v_M_counted v1.2 v1.1).1), .ref 0], ((v_M_counted v1.2 v1.1).2)))))
    refine ⟨fun c1 => ?_, fun c1 => ?_⟩
    · skip
      exact hx1 (v1.1, v1.2) (by unfold s_M_mixesAll_2; simp only [if_neg c1])
    · have hp := hp.1 c1
      refine ⟨hp, ?_⟩
      obtain ⟨y2, c2⟩ : ∃ y, v_M_counted v1.2 v1.1 = y := ⟨_, rfl⟩
      rw [c2]
      show am_Ev m_M_mixesAll (WM ++ e1) ro P (14, [.ref 0, .int v1.1], [.int y2.1, .ref 0], y2.2)
      refine am_Ev_G [18] 400 _ ?_
      show am_Ev m_M_mixesAll (WM ++ e1) ro P (18, [.ref 0, .int v1.1], [], (v_M_mixes y2.2 ((y2.1).toInt64)))
      obtain ⟨y3, c3⟩ : ∃ y, v_M_mixes y2.2 ((y2.1).toInt64) = y := ⟨_, rfl⟩
      rw [c3]
      show am_Ev m_M_mixesAll (WM ++ e1) ro P (18, [.ref 0, .int v1.1], [], y3)
      refine am_Ev_G [2] 400 _ ?_
      show am_Ev m_M_mixesAll (WM ++ e1) ro P (2, [.ref 0, .int (v1.1 + 1)], [], y3)
      exact hc1 ((v1.1 + 1), y3) (by unfold s_M_mixesAll_2; simp only [if_pos c1, bnd, c2, bnd, c3])
  · intro r1 hr4
    have hp := hp _ hr4
    show am_Ev m_M_mixesAll (WM ++ e1) ro P (24, [.ref 0, .int r1.1], [], r1.2)
    refine am_Ev_G [26] 400 _ ?_
    show am_Ev m_M_mixesAll (WM ++ e1) ro P (26, [.ref 0, .int 0], [], r1.2)
    obtain ⟨hpl, hp⟩ := hp
    refine am_itr (E := (fun (v1 : Int32 × HP) => am_Ev m_M_mixesAll (WM ++ e1) ro P (26, [.ref 0, .int v1.1], [], v1.2))) (E' := (fun (r4 : Int32 × HP) => am_Ev m_M_mixesAll (WM ++ e1) ro P (51, [.ref 0, .int r4.1], [], r4.2))) (s_M_mixesAll_26 h r1) (ps_M_mixesAll_26 h r1) ?_ NF (0, r1.2) hpl ?_
    · intro v1 hp hc1 hx1
      show am_Ev m_M_mixesAll (WM ++ e1) ro P (26, [.ref 0, .int v1.1], [], v1.2)
      unfold ps_M_mixesAll_26 at hp
      refine am_Ev_G [41, 51] 400 _ ?_
      show ((¬ v1.1 < 4 → am_Ev m_M_mixesAll (WM ++ e1) ro P (51, [.ref 0, .int v1.1], [], v1.2)) ∧ (v1.1 < 4 → ((am_in (8 + v1.1) 163) ∧ am_Ev m_M_mixesAll (WM ++ e1) ro P (41, [.ref 0, .int v1.1], [.int (v1.2.1 1 (am_ix (8 + v1.1))), .ref 0], v1.2))))
      refine ⟨fun c5 => ?_, fun c5 => ?_⟩
      · skip
        exact hx1 (v1.1, v1.2) (by unfold s_M_mixesAll_26; simp only [if_neg c5])
      · have hp := hp.1 c5
        refine ⟨hp, ?_⟩
        refine am_Ev_G [45] 400 _ ?_
        show am_Ev m_M_mixesAll (WM ++ e1) ro P (45, [.ref 0, .int v1.1], [], (v_M_mixes v1.2 (((v1.2.1 1 (am_ix (8 + v1.1)))).toInt64)))
        obtain ⟨y5, c6⟩ : ∃ y, v_M_mixes v1.2 (((v1.2.1 1 (am_ix (8 + v1.1)))).toInt64) = y := ⟨_, rfl⟩
        rw [c6]
        show am_Ev m_M_mixesAll (WM ++ e1) ro P (45, [.ref 0, .int v1.1], [], y5)
        refine am_Ev_G [26] 400 _ ?_
        show am_Ev m_M_mixesAll (WM ++ e1) ro P (26, [.ref 0, .int (v1.1 + 1)], [], y5)
        exact hc1 ((v1.1 + 1), y5) (by unfold s_M_mixesAll_26; simp only [if_pos c5, bnd, c6])
    · intro r4 hr7
      have hp := hp _ hr7
      show am_Ev m_M_mixesAll (WM ++ e1) ro P (51, [.ref 0, .int r4.1], [], r4.2)
      refine am_Ev_G [53] 400 _ ?_
      show am_Ev m_M_mixesAll (WM ++ e1) ro P (53, [.ref 0, .int 0], [], r4.2)
      obtain ⟨hpl, hp⟩ := hp
      refine am_itr (E := (fun (v1 : Int32 × HP) => am_Ev m_M_mixesAll (WM ++ e1) ro P (53, [.ref 0, .int v1.1], [], v1.2))) (E' := (fun (r6 : Int32 × HP) => am_Ev m_M_mixesAll (WM ++ e1) ro P (80, [.ref 0, .int r6.1], [], r6.2))) (s_M_mixesAll_53 h r1 r4) (ps_M_mixesAll_53 h r1 r4) ?_ NF (0, r4.2) hpl ?_
      · intro v1 hp hc1 hx1
        show am_Ev m_M_mixesAll (WM ++ e1) ro P (53, [.ref 0, .int v1.1], [], v1.2)
        unfold ps_M_mixesAll_53 at hp
        refine am_Ev_G [66, 80] 400 _ ?_
        show ((¬ v1.1 < 20 → am_Ev m_M_mixesAll (WM ++ e1) ro P (80, [.ref 0, .int v1.1], [], v1.2)) ∧ (v1.1 < 20 → ((¬ 5 = 0) ∧ am_Ev m_M_mixesAll (WM ++ e1) ro P (66, [.ref 0, .int v1.1], [.int 5, .int v1.1, .int (v1.1 / 5), .ref 0, .ref 0], v1.2))))
        refine ⟨fun c8 => ?_, fun c8 => ?_⟩
        · skip
          exact hx1 (v1.1, v1.2) (by unfold s_M_mixesAll_53; simp only [if_neg c8])
        · have hp := hp.1 c8
          refine ⟨(by decide), ?_⟩
          refine am_Ev_G [74] 400 _ ?_
          show ((¬ 5 = 0) ∧ ((p_M_aboutTerminal v1.2 (v1.1 / 5) (v1.1 - v1.1 / 5 * 5)) ∧ am_Ev m_M_mixesAll (WM ++ e1) ro P (74, [.ref 0, .int v1.1], [], (v_M_mixes v1.2 (((v_M_aboutTerminal v1.2 (v1.1 / 5) (v1.1 - v1.1 / 5 * 5))).toInt64)))))
          refine ⟨(by decide), ?_⟩
          refine ⟨hp, ?_⟩
          obtain ⟨y7, c9⟩ : ∃ y, v_M_mixes v1.2 (((v_M_aboutTerminal v1.2 (v1.1 / 5) (v1.1 - v1.1 / 5 * 5))).toInt64) = y := ⟨_, rfl⟩
          rw [c9]
          show am_Ev m_M_mixesAll (WM ++ e1) ro P (74, [.ref 0, .int v1.1], [], y7)
          refine am_Ev_G [53] 400 _ ?_
          show am_Ev m_M_mixesAll (WM ++ e1) ro P (53, [.ref 0, .int (v1.1 + 1)], [], y7)
          exact hc1 ((v1.1 + 1), y7) (by unfold s_M_mixesAll_53; simp only [if_pos c8, bnd, c9])
      · intro r6 hr10
        have hp := hp _ hr10
        show am_Ev m_M_mixesAll (WM ++ e1) ro P (80, [.ref 0, .int r6.1], [], r6.2)
        refine am_Ev_G [82] 400 _ ?_
        show am_Ev m_M_mixesAll (WM ++ e1) ro P (82, [.ref 0, .int 0], [], r6.2)
        obtain ⟨hpl, hp⟩ := hp
        refine am_itr (E := (fun (v1 : Int32 × HP) => am_Ev m_M_mixesAll (WM ++ e1) ro P (82, [.ref 0, .int v1.1], [], v1.2))) (E' := (fun (r8 : Int32 × HP) => am_Ev m_M_mixesAll (WM ++ e1) ro P (104, [.ref 0, .int r8.1], [], r8.2))) (s_M_mixesAll_82 h r1 r4 r6) (ps_M_mixesAll_82 h r1 r4 r6) ?_ NF (0, r6.2) hpl ?_
        · intro v1 hp hc1 hx1
          show am_Ev m_M_mixesAll (WM ++ e1) ro P (82, [.ref 0, .int v1.1], [], v1.2)
          unfold ps_M_mixesAll_82 at hp
          refine am_Ev_G [95, 104] 400 _ ?_
          show ((am_in 15 163) ∧ ((¬ v1.1 < (v1.2.1 1 (am_ix 15)) → am_Ev m_M_mixesAll (WM ++ e1) ro P (104, [.ref 0, .int v1.1], [], v1.2)) ∧ (v1.1 < (v1.2.1 1 (am_ix 15)) → am_Ev m_M_mixesAll (WM ++ e1) ro P (95, [.ref 0, .int v1.1], [.int v1.1, .ref 0], v1.2))))
          refine ⟨⟨by decide, by decide⟩, ?_⟩
          refine ⟨fun c11 => ?_, fun c11 => ?_⟩
          · skip
            exact hx1 (v1.1, v1.2) (by unfold s_M_mixesAll_82; simp only [if_neg c11])
          · have hp := hp.1 c11
            refine am_Ev_G [98] 400 _ ?_
            show ((p_M_mixesTrip v1.2 v1.1) ∧ am_Ev m_M_mixesAll (WM ++ e1) ro P (98, [.ref 0, .int v1.1], [], (v_M_mixesTrip v1.2 v1.1)))
            refine ⟨hp, ?_⟩
            obtain ⟨y9, c12⟩ : ∃ y, v_M_mixesTrip v1.2 v1.1 = y := ⟨_, rfl⟩
            rw [c12]
            show am_Ev m_M_mixesAll (WM ++ e1) ro P (98, [.ref 0, .int v1.1], [], y9)
            refine am_Ev_G [82] 400 _ ?_
            show am_Ev m_M_mixesAll (WM ++ e1) ro P (82, [.ref 0, .int (v1.1 + 1)], [], y9)
            exact hc1 ((v1.1 + 1), y9) (by unfold s_M_mixesAll_82; simp only [if_pos c11, bnd, c12])
        · intro r8 hr13
          have hp := hp _ hr13
          show am_Ev m_M_mixesAll (WM ++ e1) ro P (104, [.ref 0, .int r8.1], [], r8.2)
          refine am_Ev_G [106] 400 _ ?_
          show am_Ev m_M_mixesAll (WM ++ e1) ro P (106, [.ref 0, .int 0], [], r8.2)
          have hpl := hp
          refine am_itr (E := (fun (v1 : Int32 × HP) => am_Ev m_M_mixesAll (WM ++ e1) ro P (106, [.ref 0, .int v1.1], [], v1.2))) (E' := (fun (r10 : Int32 × HP) => am_Ev m_M_mixesAll (WM ++ e1) ro P (125, [.ref 0, .int r10.1], [], r10.2))) (s_M_mixesAll_106 h r1 r4 r6 r8) (ps_M_mixesAll_106 h r1 r4 r6 r8) ?_ NF (0, r8.2) hpl ?_
          · intro v1 hp hc1 hx1
            show am_Ev m_M_mixesAll (WM ++ e1) ro P (106, [.ref 0, .int v1.1], [], v1.2)
            unfold ps_M_mixesAll_106 at hp
            refine am_Ev_G [111] 400 _ ?_
            show ((p_M_blocks v1.2) ∧ am_Ev m_M_mixesAll (WM ++ e1) ro P (111, [.ref 0, .int v1.1], [.int (v_M_blocks v1.2), .int v1.1], v1.2))
            obtain ⟨hob, hp⟩ := hp
            refine ⟨hob, ?_⟩
            refine am_Ev_G [119, 125] 400 _ ?_
            show ((¬ v1.1 < (v_M_blocks v1.2) → am_Ev m_M_mixesAll (WM ++ e1) ro P (125, [.ref 0, .int v1.1], [], v1.2)) ∧ (v1.1 < (v_M_blocks v1.2) → ((p_M_mixesBlock v1.2 v1.1) ∧ am_Ev m_M_mixesAll (WM ++ e1) ro P (119, [.ref 0, .int v1.1], [], (v_M_mixesBlock v1.2 v1.1)))))
            refine ⟨fun c14 => ?_, fun c14 => ?_⟩
            · skip
              exact hx1 (v1.1, v1.2) (by unfold s_M_mixesAll_106; simp only [if_neg c14])
            · have hp := hp.1 c14
              refine ⟨hp, ?_⟩
              obtain ⟨y11, c15⟩ : ∃ y, v_M_mixesBlock v1.2 v1.1 = y := ⟨_, rfl⟩
              rw [c15]
              show am_Ev m_M_mixesAll (WM ++ e1) ro P (119, [.ref 0, .int v1.1], [], y11)
              refine am_Ev_G [106] 400 _ ?_
              show am_Ev m_M_mixesAll (WM ++ e1) ro P (106, [.ref 0, .int (v1.1 + 1)], [], y11)
              exact hc1 ((v1.1 + 1), y11) (by unfold s_M_mixesAll_106; simp only [if_pos c14, bnd, c15])
          · intro r10 hr16
            show am_Ev m_M_mixesAll (WM ++ e1) ro P (125, [.ref 0, .int r10.1], [], r10.2)
            refine am_Ev_G [] 400 _ ?_
            show P (.inl none) r10.2
            exact hP r10.2 (by unfold v_M_mixesAll; simp only [hr4, hr7, hr10, hr13, hr16])
theorem ok_M_mixesAll {l : Launch} (hl : l.stackTraces = false) (e1 ro : List Sh) (k : Nat) : am_Ok l (WM ++ e1) ro (d_M_mixesAll k) := by
  refine am_met hl (own := RX6) (M := m_M_mixesAll) rfl pf_M_mixesAll cu_M_mixesAll rfl rfl rfl rfl (fun _ => rfl) rfl ⟨chk_M_mixesAll, (am_c (fl_M_7) am_n), (am_c (lk_M_93) (am_c (lk_M_194) (am_c (lk_M_245) (am_c (lk_M_268) (am_c (lk_M_272) (am_c (lk_M_275) am_n)))))), (am_n), (am_n)⟩ (am_n) (am_c (ok_M_blocks hl e1 _ 16) (am_c (ok_M_aboutTerminal hl e1 _ 16) (am_c (ok_M_counted hl e1 _ 16) (am_c (ok_M_mixes hl e1 _ 16) (am_c (ok_M_mixesTrip hl e1 _ 16) (am_c (ok_M_mixesBlock hl e1 _ 16) am_n)))))) (fun z => nomatch z) ?_ ?_
  · intro _ as h hg
    show g_thr (g_M_mixesAll (WM ++ e1) ro as h) = none
    unfold g_M_mixesAll
    split <;> rfl
  · intro as h hg hp
    revert hg hp
    show g_ok (g_M_mixesAll (WM ++ e1) ro as h) = true → g_pre (g_M_mixesAll (WM ++ e1) ro as h) → _ ∧ am_Ev m_M_mixesAll (WM ++ e1) ro (am_eq (g_M_mixesAll (WM ++ e1) ro as h)) (0, am_ent as 2, [], h)
    unfold g_M_mixesAll
    split
    · rename_i o1
      intro hc hp
      change (Nat.beq o1 0) = true at hc
      obtain rfl := am_beq hc
      exact ⟨Nat.le_of_ble_eq_true rfl, ev_M_mixesAll h hp eqRVW⟩
    · exact fun z => nomatch z
def k_M_digest (pc : Nat) : Ent := bif Nat.ble 121 pc then am_nop else bif Nat.ble 62 pc then (bif Nat.ble 90 pc then (bif Nat.ble 104 pc then (bif Nat.ble 110 pc then (bif Nat.ble 116 pc then (bif Nat.ble 117 pc then (bif Nat.ble 120 pc then (bif Nat.beq pc 120 then (.lreturn, 0, 0, []) else am_nop) else (bif Nat.beq pc 117 then (.getfield 264, 0, 0, []) else am_nop)) else (bif Nat.beq pc 116 then (.aload_n 0, 0, 0, []) else am_nop)) else (bif Nat.ble 113 pc then (bif Nat.beq pc 113 then (.goto (-22), 0, 91, []) else am_nop) else (bif Nat.beq pc 110 then (.iinc 1 1, 1, 1, []) else am_nop))) else (bif Nat.ble 106 pc then (bif Nat.ble 107 pc then (bif Nat.beq pc 107 then (.invokevirtual 268, 0, 0, []) else am_nop) else (bif Nat.beq pc 106 then (.i2l, 0, 0, []) else am_nop)) else (bif Nat.ble 105 pc then (bif Nat.beq pc 105 then (.iaload, 0, 0, []) else am_nop) else (bif Nat.beq pc 104 then (.iload_n 1, 0, 1, []) else am_nop)))) else (bif Nat.ble 96 pc then (bif Nat.ble 100 pc then (bif Nat.ble 101 pc then (bif Nat.beq pc 101 then (.getfield 26, 0, 0, []) else am_nop) else (bif Nat.beq pc 100 then (.aload_n 0, 0, 0, []) else am_nop)) else (bif Nat.ble 99 pc then (bif Nat.beq pc 99 then (.aload_n 0, 0, 0, []) else am_nop) else (bif Nat.beq pc 96 then (.if_icmp .ge 20, 0, 116, []) else am_nop))) else (bif Nat.ble 92 pc then (bif Nat.ble 93 pc then (bif Nat.beq pc 93 then (.getfield 163, 0, 0, []) else am_nop) else (bif Nat.beq pc 92 then (.aload_n 0, 0, 0, []) else am_nop)) else (bif Nat.ble 91 pc then (bif Nat.beq pc 91 then (.iload_n 1, 0, 1, []) else am_nop) else (bif Nat.beq pc 90 then (.istore_n 1, 0, 1, []) else am_nop))))) else (bif Nat.ble 76 pc then (bif Nat.ble 82 pc then (bif Nat.ble 86 pc then (bif Nat.ble 89 pc then (bif Nat.beq pc 89 then (.iconst 0, 0, 0, []) else am_nop) else (bif Nat.beq pc 86 then (.invokevirtual 268, 0, 0, []) else am_nop)) else (bif Nat.ble 85 pc then (bif Nat.beq pc 85 then (.i2l, 0, 0, []) else am_nop) else (bif Nat.beq pc 82 then (.getfield 163, 0, 0, []) else am_nop))) else (bif Nat.ble 80 pc then (bif Nat.ble 81 pc then (bif Nat.beq pc 81 then (.aload_n 0, 0, 0, []) else am_nop) else (bif Nat.beq pc 80 then (.aload_n 0, 0, 0, []) else am_nop)) else (bif Nat.ble 77 pc then (bif Nat.beq pc 77 then (.invokevirtual 268, 0, 0, []) else am_nop) else (bif Nat.beq pc 76 then (.lconst 0, 0, 0, []) else am_nop)))) else (bif Nat.ble 68 pc then (bif Nat.ble 72 pc then (bif Nat.ble 73 pc then (bif Nat.beq pc 73 then (.goto 4, 0, 77, []) else am_nop) else (bif Nat.beq pc 72 then (.lconst 1, 0, 0, []) else am_nop)) else (bif Nat.ble 69 pc then (bif Nat.beq pc 69 then (.ifCond .eq 7, 0, 76, []) else am_nop) else (bif Nat.beq pc 68 then (.baload, 0, 0, []) else am_nop))) else (bif Nat.ble 64 pc then (bif Nat.ble 67 pc then (bif Nat.beq pc 67 then (.iconst 1, 1, 0, []) else am_nop) else (bif Nat.beq pc 64 then (.getfield 22, 0, 0, []) else am_nop)) else (bif Nat.ble 63 pc then (bif Nat.beq pc 63 then (.aload_n 0, 0, 0, []) else am_nop) else (bif Nat.beq pc 62 then (.aload_n 0, 0, 0, []) else am_nop)))))) else (bif Nat.ble 29 pc then (bif Nat.ble 45 pc then (bif Nat.ble 51 pc then (bif Nat.ble 55 pc then (bif Nat.ble 58 pc then (bif Nat.ble 59 pc then (bif Nat.beq pc 59 then (.invokevirtual 268, 0, 0, []) else am_nop) else (bif Nat.beq pc 58 then (.lconst 0, 0, 0, []) else am_nop)) else (bif Nat.beq pc 55 then (.goto 4, 0, 59, []) else am_nop)) else (bif Nat.ble 54 pc then (bif Nat.beq pc 54 then (.lconst 1, 0, 0, []) else am_nop) else (bif Nat.beq pc 51 then (.ifCond .eq 7, 0, 58, []) else am_nop))) else (bif Nat.ble 49 pc then (bif Nat.ble 50 pc then (bif Nat.beq pc 50 then (.baload, 0, 0, []) else am_nop) else (bif Nat.beq pc 49 then (.iconst 0, 0, 0, []) else am_nop)) else (bif Nat.ble 46 pc then (bif Nat.beq pc 46 then (.getfield 22, 0, 0, []) else am_nop) else (bif Nat.beq pc 45 then (.aload_n 0, 0, 0, []) else am_nop)))) else (bif Nat.ble 35 pc then (bif Nat.ble 41 pc then (bif Nat.ble 44 pc then (bif Nat.beq pc 44 then (.aload_n 0, 0, 0, []) else am_nop) else (bif Nat.beq pc 41 then (.invokevirtual 268, 0, 0, []) else am_nop)) else (bif Nat.ble 38 pc then (bif Nat.beq pc 38 then (.invokestatic 283, 0, 0, []) else am_nop) else (bif Nat.beq pc 35 then (.invokevirtual 258, 0, 0, []) else am_nop))) else (bif Nat.ble 33 pc then (bif Nat.ble 34 pc then (bif Nat.beq pc 34 then (.aload_n 0, 0, 0, []) else am_nop) else (bif Nat.beq pc 33 then (.aload_n 0, 0, 0, []) else am_nop)) else (bif Nat.ble 30 pc then (bif Nat.beq pc 30 then (.invokevirtual 268, 0, 0, []) else am_nop) else (bif Nat.beq pc 29 then (.i2l, 0, 0, []) else am_nop))))) else (bif Nat.ble 16 pc then (bif Nat.ble 20 pc then (bif Nat.ble 24 pc then (bif Nat.ble 26 pc then (bif Nat.beq pc 26 then (.invokevirtual 248, 0, 0, []) else am_nop) else (bif Nat.beq pc 24 then (.bipush 30, 30, 0, []) else am_nop)) else (bif Nat.ble 21 pc then (bif Nat.beq pc 21 then (.sipush 600, 600, 0, []) else am_nop) else (bif Nat.beq pc 20 then (.iconst 1, 1, 0, []) else am_nop))) else (bif Nat.ble 18 pc then (bif Nat.ble 19 pc then (bif Nat.beq pc 19 then (.iconst 0, 0, 0, []) else am_nop) else (bif Nat.beq pc 18 then (.iconst 0, 0, 0, []) else am_nop)) else (bif Nat.ble 17 pc then (bif Nat.beq pc 17 then (.aload_n 0, 0, 0, []) else am_nop) else (bif Nat.beq pc 16 then (.aload_n 0, 0, 0, []) else am_nop)))) else (bif Nat.ble 6 pc then (bif Nat.ble 12 pc then (bif Nat.ble 13 pc then (bif Nat.beq pc 13 then (.invokevirtual 280, 0, 0, []) else am_nop) else (bif Nat.beq pc 12 then (.aload_n 0, 0, 0, []) else am_nop)) else (bif Nat.ble 9 pc then (bif Nat.beq pc 9 then (.putfield 264, 0, 0, []) else am_nop) else (bif Nat.beq pc 6 then (.ldc2_w 278, 0, 0, []) else am_nop))) else (bif Nat.ble 2 pc then (bif Nat.ble 5 pc then (bif Nat.beq pc 5 then (.aload_n 0, 0, 0, []) else am_nop) else (bif Nat.beq pc 2 then (.putfield 38, 0, 0, []) else am_nop)) else (bif Nat.ble 1 pc then (bif Nat.beq pc 1 then (.iconst 0, 0, 0, []) else am_nop) else (bif Nat.beq pc 0 then (.aload_n 0, 0, 0, []) else am_nop))))))
theorem lk_M_280 : am_lnk RX6 280 (d_M_mixesAll 16) := ⟨⟨by decide, by decide⟩, am_tb 8 (by decide +kernel) rfl, Or.inr ⟨by decide, rfl, am_tb 1300 (by decide +kernel) rfl, am_tp 127 (by decide +kernel) rfl, ⟨TX6, 16, rfl⟩, Or.inl (am_tb 1298 (by decide +kernel) rfl)⟩⟩
theorem lk_M_283 : am_lnk RX6 283 (d_E_dbits 0) := ⟨⟨by decide, by decide⟩, am_tb 18 (by decide +kernel) rfl, Or.inl ⟨by decide, rfl, am_tb 1316 (by decide +kernel) rfl, Or.inl ⟨by decide, am_tb 1315 (by decide +kernel) rfl⟩⟩⟩
theorem ck_M_278 : am_cok RX6 278 (.long 3457) := am_tb 1297 (by decide +kernel) rfl
def m_M_digest : MI := (k_M_digest, [(22, 6, 5), (26, 6, 6), (38, 6, 8), (163, 6, 7), (264, 6, 15)], [(248, d_M_withTrip 16), (258, d_M_share 16), (268, d_M_mixes 16), (280, d_M_mixesAll 16), (283, d_E_dbits 0)], [(278, .long 3457)], [], [], [], 10, 231, some .long, fun _ => 0, 1)
def s_M_digest_91 (h : HP) (y1 : HP) (y2 : Int32 × HP) (y3 : HP) (y4 : HP) (y5 : HP) (y6 : HP) (y7 : HP) (v1 : Int32 × HP) : (Int32 × HP) ⊕ (Int32 × HP) := (if v1.1 < (v1.2.1 0 7) then (bnd (v_M_mixes v1.2 (((v1.2.1 6 (am_ix v1.1))).toInt64)) fun y9 => (.inl ((v1.1 + 1), y9))) else (.inr (v1.1, v1.2)))
def ps_M_digest_91 (h : HP) (y1 : HP) (y2 : Int32 × HP) (y3 : HP) (y4 : HP) (y5 : HP) (y6 : HP) (y7 : HP) (v1 : Int32 × HP) : Prop := ((v1.1 < (v1.2.1 0 7) → (am_in v1.1 60)) ∧ (¬ v1.1 < (v1.2.1 0 7) → True))
def v_M_digest (h : HP) : Int64 × HP := (bnd (v_M_mixesAll (am_sl (am_si h 0 8 0) 0 15 3457)) fun y1 => (bnd (v_M_withTrip y1 0 0 1 600 30) fun y2 => (bnd (v_M_mixes y2.2 ((y2.1).toInt64)) fun y3 => (bnd (v_M_mixes y3 (v_dbits (v_M_share y3))) fun y4 => (bnd (v_M_mixes y4 (if (y4.1 5 (am_ix 0)) = 0 then 0 else 1)) fun y5 => (bnd (v_M_mixes y5 (if (y5.1 5 (am_ix 1)) = 0 then 0 else 1)) fun y6 => (bnd (v_M_mixes y6 (((y6.1 0 7)).toInt64)) fun y7 => (match itr (s_M_digest_91 h y1 y2 y3 y4 y5 y6 y7) NF (0, y7) with | some r8 => (r8.2.2 0 15, r8.2) | none => (0, h)))))))))
def p_M_digest (h : HP) : Prop := ((p_M_mixesAll (am_sl (am_si h 0 8 0) 0 15 3457)) ∧ (∀ y1, v_M_mixesAll (am_sl (am_si h 0 8 0) 0 15 3457) = y1 → ((p_M_withTrip y1 0 0 1 600 30) ∧ (∀ y2, v_M_withTrip y1 0 0 1 600 30 = y2 → (∀ y3, v_M_mixes y2.2 ((y2.1).toInt64) = y3 → ((p_M_share y3) ∧ (∀ y4, v_M_mixes y3 (v_dbits (v_M_share y3)) = y4 → (∀ y5, v_M_mixes y4 (if (y4.1 5 (am_ix 0)) = 0 then 0 else 1) = y5 → (∀ y6, v_M_mixes y5 (if (y5.1 5 (am_ix 1)) = 0 then 0 else 1) = y6 → (∀ y7, v_M_mixes y6 (((y6.1 0 7)).toInt64) = y7 → (itrp (s_M_digest_91 h y1 y2 y3 y4 y5 y6 y7) (ps_M_digest_91 h y1 y2 y3 y4 y5 y6 y7) NF (0, y7))))))))))))
def g_M_digest (_ _ : List Sh) (as : List Value) (h : HP) : GR := match as with
  | [.ref o1] => (Nat.beq o1 0, p_M_digest h, none, some (.long (v_M_digest h).1), (v_M_digest h).2)
  | _ => bad h
def d_M_digest (k : Nat) : CD := (k, yX6_digest, cX6_digest, 2, some .long, 1, 10, 231, 0, false, true, g_M_digest)
theorem chk_M_digest : ∀ pc, am_chk cX6_digest k_M_digest pc = true := am_chkall 121 (by decide +kernel) (fun pc h => by unfold k_M_digest; rw [Nat.ble_eq_true_of_le h]; rfl)
theorem pf_M_digest : plainFor yX6_digest = true := by decide +kernel
theorem cu_M_digest : Cond.code yX6_digest cX6_digest 2 (some .long) ∈ am_U := am_tb 1296 (by decide +kernel) rfl
set_option maxHeartbeats 20000000 in
set_option maxRecDepth 100000 in
theorem ev_M_digest {e1 ro : List Sh} {P : AR → HP → Prop} (h : HP) (hp : p_M_digest h) (hP : ∀ q, v_M_digest h = q → RJW P h q) : am_Ev m_M_digest (WM ++ e1) ro P (0, [.ref 0, .retAddr 0], [], h) := by
  unfold p_M_digest at hp
  refine am_Ev_G [16] 400 _ ?_
  show ((p_M_mixesAll (am_sl (am_si h 0 8 0) 0 15 3457)) ∧ am_Ev m_M_digest (WM ++ e1) ro P (16, [.ref 0, .retAddr 0], [], (v_M_mixesAll (am_sl (am_si h 0 8 0) 0 15 3457))))
  obtain ⟨hob, hp⟩ := hp
  refine ⟨hob, ?_⟩
  obtain ⟨y1, c1⟩ : ∃ y, v_M_mixesAll (am_sl (am_si h 0 8 0) 0 15 3457) = y := ⟨_, rfl⟩
  rw [c1]
  have hp := hp _ c1
  show am_Ev m_M_digest (WM ++ e1) ro P (16, [.ref 0, .retAddr 0], [], y1)
  refine am_Ev_G [29] 400 _ ?_
  show ((p_M_withTrip y1 0 0 1 600 30) ∧ am_Ev m_M_digest (WM ++ e1) ro P (29, [.ref 0, .retAddr 0], [.int ((v_M_withTrip y1 0 0 1 600 30).1), .ref 0], ((v_M_withTrip y1 0 0 1 600 30).2)))
  obtain ⟨hob, hp⟩ := hp
  refine ⟨hob, ?_⟩
  obtain ⟨y2, c2⟩ : ∃ y, v_M_withTrip y1 0 0 1 600 30 = y := ⟨_, rfl⟩
  rw [c2]
  have hp := hp _ c2
  show am_Ev m_M_digest (WM ++ e1) ro P (29, [.ref 0, .retAddr 0], [.int y2.1, .ref 0], y2.2)
  refine am_Ev_G [33] 400 _ ?_
  show am_Ev m_M_digest (WM ++ e1) ro P (33, [.ref 0, .retAddr 0], [], (v_M_mixes y2.2 ((y2.1).toInt64)))
  obtain ⟨y3, c3⟩ : ∃ y, v_M_mixes y2.2 ((y2.1).toInt64) = y := ⟨_, rfl⟩
  rw [c3]
  have hp := hp _ c3
  show am_Ev m_M_digest (WM ++ e1) ro P (33, [.ref 0, .retAddr 0], [], y3)
  refine am_Ev_G [44] 400 _ ?_
  show ((p_M_share y3) ∧ am_Ev m_M_digest (WM ++ e1) ro P (44, [.ref 0, .retAddr 0], [], (v_M_mixes y3 (v_dbits (v_M_share y3)))))
  obtain ⟨hob, hp⟩ := hp
  refine ⟨hob, ?_⟩
  obtain ⟨y4, c4⟩ : ∃ y, v_M_mixes y3 (v_dbits (v_M_share y3)) = y := ⟨_, rfl⟩
  rw [c4]
  have hp := hp _ c4
  show am_Ev m_M_digest (WM ++ e1) ro P (44, [.ref 0, .retAddr 0], [], y4)
  refine am_Ev_G [51] 400 _ ?_
  show ((am_in 0 2) ∧ am_Ev m_M_digest (WM ++ e1) ro P (51, [.ref 0, .retAddr 0], [.int (y4.1 5 (am_ix 0)), .ref 0], y4))
  refine ⟨⟨by decide, by decide⟩, ?_⟩
  have key5 : am_Ev m_M_digest (WM ++ e1) ro P (59, [.ref 0, .retAddr 0], [.long (if (y4.1 5 (am_ix 0)) = 0 then 0 else 1), .ref 0], y4) := by
    refine am_Ev_G [62] 400 _ ?_
    show am_Ev m_M_digest (WM ++ e1) ro P (62, [.ref 0, .retAddr 0], [], (v_M_mixes y4 (if (y4.1 5 (am_ix 0)) = 0 then 0 else 1)))
    obtain ⟨y5, c6⟩ : ∃ y, v_M_mixes y4 (if (y4.1 5 (am_ix 0)) = 0 then 0 else 1) = y := ⟨_, rfl⟩
    rw [c6]
    have hp := hp _ c6
    show am_Ev m_M_digest (WM ++ e1) ro P (62, [.ref 0, .retAddr 0], [], y5)
    refine am_Ev_G [69] 400 _ ?_
    show ((am_in 1 2) ∧ am_Ev m_M_digest (WM ++ e1) ro P (69, [.ref 0, .retAddr 0], [.int (y5.1 5 (am_ix 1)), .ref 0], y5))
    refine ⟨⟨by decide, by decide⟩, ?_⟩
    have key7 : am_Ev m_M_digest (WM ++ e1) ro P (77, [.ref 0, .retAddr 0], [.long (if (y5.1 5 (am_ix 1)) = 0 then 0 else 1), .ref 0], y5) := by
      refine am_Ev_G [80] 400 _ ?_
      show am_Ev m_M_digest (WM ++ e1) ro P (80, [.ref 0, .retAddr 0], [], (v_M_mixes y5 (if (y5.1 5 (am_ix 1)) = 0 then 0 else 1)))
      obtain ⟨y6, c8⟩ : ∃ y, v_M_mixes y5 (if (y5.1 5 (am_ix 1)) = 0 then 0 else 1) = y := ⟨_, rfl⟩
      rw [c8]
      have hp := hp _ c8
      show am_Ev m_M_digest (WM ++ e1) ro P (80, [.ref 0, .retAddr 0], [], y6)
      refine am_Ev_G [89] 400 _ ?_
      show am_Ev m_M_digest (WM ++ e1) ro P (89, [.ref 0, .retAddr 0], [], (v_M_mixes y6 (((y6.1 0 7)).toInt64)))
      obtain ⟨y7, c9⟩ : ∃ y, v_M_mixes y6 (((y6.1 0 7)).toInt64) = y := ⟨_, rfl⟩
      rw [c9]
      have hp := hp _ c9
      show am_Ev m_M_digest (WM ++ e1) ro P (89, [.ref 0, .retAddr 0], [], y7)
      refine am_Ev_G [91] 400 _ ?_
      show am_Ev m_M_digest (WM ++ e1) ro P (91, [.ref 0, .int 0], [], y7)
      have hpl := hp
      refine am_itr (E := (fun (v1 : Int32 × HP) => am_Ev m_M_digest (WM ++ e1) ro P (91, [.ref 0, .int v1.1], [], v1.2))) (E' := (fun (r8 : Int32 × HP) => am_Ev m_M_digest (WM ++ e1) ro P (116, [.ref 0, .int r8.1], [], r8.2))) (s_M_digest_91 h y1 y2 y3 y4 y5 y6 y7) (ps_M_digest_91 h y1 y2 y3 y4 y5 y6 y7) ?_ NF (0, y7) hpl ?_
      · intro v1 hp hc1 hx1
        show am_Ev m_M_digest (WM ++ e1) ro P (91, [.ref 0, .int v1.1], [], v1.2)
        unfold ps_M_digest_91 at hp
        refine am_Ev_G [106, 116] 400 _ ?_
        show ((¬ v1.1 < (v1.2.1 0 7) → am_Ev m_M_digest (WM ++ e1) ro P (116, [.ref 0, .int v1.1], [], v1.2)) ∧ (v1.1 < (v1.2.1 0 7) → ((am_in v1.1 60) ∧ am_Ev m_M_digest (WM ++ e1) ro P (106, [.ref 0, .int v1.1], [.int (v1.2.1 6 (am_ix v1.1)), .ref 0], v1.2))))
        refine ⟨fun c10 => ?_, fun c10 => ?_⟩
        · skip
          exact hx1 (v1.1, v1.2) (by unfold s_M_digest_91; simp only [if_neg c10])
        · have hp := hp.1 c10
          refine ⟨hp, ?_⟩
          refine am_Ev_G [110] 400 _ ?_
          show am_Ev m_M_digest (WM ++ e1) ro P (110, [.ref 0, .int v1.1], [], (v_M_mixes v1.2 (((v1.2.1 6 (am_ix v1.1))).toInt64)))
          obtain ⟨y9, c11⟩ : ∃ y, v_M_mixes v1.2 (((v1.2.1 6 (am_ix v1.1))).toInt64) = y := ⟨_, rfl⟩
          rw [c11]
          show am_Ev m_M_digest (WM ++ e1) ro P (110, [.ref 0, .int v1.1], [], y9)
          refine am_Ev_G [91] 400 _ ?_
          show am_Ev m_M_digest (WM ++ e1) ro P (91, [.ref 0, .int (v1.1 + 1)], [], y9)
          exact hc1 ((v1.1 + 1), y9) (by unfold s_M_digest_91; simp only [if_pos c10, bnd, c11])
      · intro r8 hr12
        show am_Ev m_M_digest (WM ++ e1) ro P (116, [.ref 0, .int r8.1], [], r8.2)
        refine am_Ev_G [] 400 _ ?_
        show P (.inl (some (.long (r8.2.2 0 15)))) r8.2
        exact hP (r8.2.2 0 15, r8.2) (by unfold v_M_digest; simp only [bnd, c1, bnd, c2, bnd, c3, bnd, c4, bnd, c6, bnd, c8, bnd, c9, hr12])
    refine am_Ev_G [77] 400 _ ?_
    show (((y5.1 5 (am_ix 1)) = 0 → am_Ev m_M_digest (WM ++ e1) ro P (77, [.ref 0, .retAddr 0], [.long 0, .ref 0], y5)) ∧ (¬ (y5.1 5 (am_ix 1)) = 0 → am_Ev m_M_digest (WM ++ e1) ro P (77, [.ref 0, .retAddr 0], [.long 1, .ref 0], y5)))
    refine ⟨fun c13 => ?_, fun c13 => ?_⟩
    · skip
      simpa only [if_pos c13] using key7
    · skip
      simpa only [if_neg c13] using key7
  refine am_Ev_G [59] 400 _ ?_
  show (((y4.1 5 (am_ix 0)) = 0 → am_Ev m_M_digest (WM ++ e1) ro P (59, [.ref 0, .retAddr 0], [.long 0, .ref 0], y4)) ∧ (¬ (y4.1 5 (am_ix 0)) = 0 → am_Ev m_M_digest (WM ++ e1) ro P (59, [.ref 0, .retAddr 0], [.long 1, .ref 0], y4)))
  refine ⟨fun c14 => ?_, fun c14 => ?_⟩
  · skip
    simpa only [if_pos c14] using key5
  · skip
    simpa only [if_neg c14] using key5
theorem ok_M_digest {l : Launch} (hl : l.stackTraces = false) (e1 ro : List Sh) (k : Nat) : am_Ok l (WM ++ e1) ro (d_M_digest k) := by
  refine am_met hl (own := RX6) (M := m_M_digest) rfl pf_M_digest cu_M_digest rfl rfl rfl rfl (fun _ => rfl) rfl ⟨chk_M_digest, (am_c (fl_M_22) (am_c (fl_M_26) (am_c (fl_M_38) (am_c (fl_M_163) (am_c (fl_M_264) am_n))))), (am_c (lk_M_248) (am_c (lk_M_258) (am_c (lk_M_268) (am_c (lk_M_280) (am_c (lk_M_283) am_n))))), (am_c (ck_M_278) am_n), (am_n)⟩ (am_n) (am_c (ok_M_withTrip hl e1 _ 16) (am_c (ok_M_share hl e1 _ 16) (am_c (ok_M_mixes hl e1 _ 16) (am_c (ok_M_mixesAll hl e1 _ 16) (am_c (ok_E_dbits hl _ _ 0) am_n))))) (fun z => nomatch z) ?_ ?_
  · intro _ as h hg
    show g_thr (g_M_digest (WM ++ e1) ro as h) = none
    unfold g_M_digest
    split <;> rfl
  · intro as h hg hp
    revert hg hp
    show g_ok (g_M_digest (WM ++ e1) ro as h) = true → g_pre (g_M_digest (WM ++ e1) ro as h) → _ ∧ am_Ev m_M_digest (WM ++ e1) ro (am_eq (g_M_digest (WM ++ e1) ro as h)) (0, am_ent as 2, [], h)
    unfold g_M_digest
    split
    · rename_i o1
      intro hc hp
      change (Nat.beq o1 0) = true at hc
      obtain rfl := am_beq hc
      exact ⟨Nat.le_of_ble_eq_true rfl, ev_M_digest h hp eqRJW⟩
    · exact fun z => nomatch z
