/-! BusBlocksModel, out of its code (written by gen/meth.py). -/
noncomputable section
def k_M_goBack (pc : Nat) : Ent := bif Nat.ble 64 pc then am_nop else bif Nat.ble 30 pc then (bif Nat.ble 47 pc then (bif Nat.ble 56 pc then (bif Nat.ble 60 pc then (bif Nat.ble 62 pc then (bif Nat.ble 63 pc then (bif Nat.beq pc 63 then (.ireturn, 0, 0, []) else am_nop) else (bif Nat.beq pc 62 then (.iaload, 0, 0, []) else am_nop)) else (bif Nat.beq pc 60 then (.bipush 15, 15, 0, []) else am_nop)) else (bif Nat.ble 57 pc then (bif Nat.beq pc 57 then (.getfield 7, 0, 0, []) else am_nop) else (bif Nat.beq pc 56 then (.aload_n 0, 0, 0, []) else am_nop))) else (bif Nat.ble 49 pc then (bif Nat.ble 52 pc then (bif Nat.ble 53 pc then (bif Nat.beq pc 53 then (.invokestatic 45, 0, 0, []) else am_nop) else (bif Nat.beq pc 52 then (.iconst 0, 0, 0, []) else am_nop)) else (bif Nat.beq pc 49 then (.getfield 7, 0, 0, []) else am_nop)) else (bif Nat.ble 48 pc then (bif Nat.beq pc 48 then (.aload_n 0, 0, 0, []) else am_nop) else (bif Nat.beq pc 47 then (.imul, 0, 0, []) else am_nop)))) else (bif Nat.ble 36 pc then (bif Nat.ble 40 pc then (bif Nat.ble 43 pc then (bif Nat.ble 46 pc then (bif Nat.beq pc 46 then (.iload_n 1, 0, 1, []) else am_nop) else (bif Nat.beq pc 43 then (.sipush 163, 163, 0, []) else am_nop)) else (bif Nat.beq pc 40 then (.getfield 19, 0, 0, []) else am_nop)) else (bif Nat.ble 39 pc then (bif Nat.beq pc 39 then (.aload_n 0, 0, 0, []) else am_nop) else (bif Nat.beq pc 36 then (.invokevirtual 137, 0, 0, []) else am_nop))) else (bif Nat.ble 34 pc then (bif Nat.ble 35 pc then (bif Nat.beq pc 35 then (.aload_n 0, 0, 0, []) else am_nop) else (bif Nat.beq pc 34 then (.ireturn, 0, 0, []) else am_nop)) else (bif Nat.ble 31 pc then (bif Nat.beq pc 31 then (.invokevirtual 134, 0, 0, []) else am_nop) else (bif Nat.beq pc 30 then (.iconst 2, 2, 0, []) else am_nop))))) else (bif Nat.ble 15 pc then (bif Nat.ble 21 pc then (bif Nat.ble 25 pc then (bif Nat.ble 26 pc then (bif Nat.ble 29 pc then (bif Nat.beq pc 29 then (.aload_n 0, 0, 0, []) else am_nop) else (bif Nat.beq pc 26 then (.ifCond .ne 9, 0, 35, []) else am_nop)) else (bif Nat.beq pc 25 then (.baload, 0, 0, []) else am_nop)) else (bif Nat.ble 24 pc then (bif Nat.beq pc 24 then (.iload_n 1, 0, 1, []) else am_nop) else (bif Nat.beq pc 21 then (.getfield 22, 0, 0, []) else am_nop))) else (bif Nat.ble 19 pc then (bif Nat.ble 20 pc then (bif Nat.beq pc 20 then (.aload_n 0, 0, 0, []) else am_nop) else (bif Nat.beq pc 19 then (.ireturn, 0, 0, []) else am_nop)) else (bif Nat.ble 16 pc then (bif Nat.beq pc 16 then (.invokevirtual 134, 0, 0, []) else am_nop) else (bif Nat.beq pc 15 then (.iconst 1, 1, 0, []) else am_nop)))) else (bif Nat.ble 6 pc then (bif Nat.ble 8 pc then (bif Nat.ble 11 pc then (bif Nat.ble 14 pc then (bif Nat.beq pc 14 then (.aload_n 0, 0, 0, []) else am_nop) else (bif Nat.beq pc 11 then (.ifCond .ne 9, 0, 20, []) else am_nop)) else (bif Nat.beq pc 8 then (.invokestatic 127, 0, 0, []) else am_nop)) else (bif Nat.ble 7 pc then (bif Nat.beq pc 7 then (.iconst 1, 1, 0, []) else am_nop) else (bif Nat.beq pc 6 then (.iconst 0, 0, 0, []) else am_nop))) else (bif Nat.ble 2 pc then (bif Nat.ble 5 pc then (bif Nat.beq pc 5 then (.iload_n 1, 0, 1, []) else am_nop) else (bif Nat.beq pc 2 then (.putfield 38, 0, 0, []) else am_nop)) else (bif Nat.ble 1 pc then (bif Nat.beq pc 1 then (.iconst 0, 0, 0, []) else am_nop) else (bif Nat.beq pc 0 then (.aload_n 0, 0, 0, []) else am_nop)))))
def m_M_goBack : MI := (k_M_goBack, [(7, 6, 0), (19, 6, 4), (22, 6, 5), (38, 6, 8)], [(45, d_M_lays 0), (127, d_M_in 0), (134, d_M_refuses 16), (137, d_M_saves 16)], [], [], [], [], 2, 45, some .int, fun _ => 0, 1)
def v_M_goBack (h : HP) (a1 : Int32) : Int32 × HP := (if (v_M_in (am_si h 0 8 0) a1 0 1) = 0 then (bnd (v_M_refuses (am_si h 0 8 0) 1) fun y3 => (y3.1, y3.2)) else (if ((am_si h 0 8 0).1 5 (am_ix a1)) = 0 then (bnd (v_M_refuses (am_si h 0 8 0) 2) fun y2 => (y2.1, y2.2)) else (bnd (v_M_saves (am_si h 0 8 0)) fun y1 => ((v_lays y1 4 (163 * a1) 1 0).1 1 (am_ix 15), (v_lays y1 4 (163 * a1) 1 0)))))
def p_M_goBack (h : HP) (a1 : Int32) : Prop := (((v_M_in (am_si h 0 8 0) a1 0 1) = 0 → True) ∧ (¬ (v_M_in (am_si h 0 8 0) a1 0 1) = 0 → ((am_in a1 2) ∧ ((((am_si h 0 8 0).1 5 (am_ix a1)) = 0 → True) ∧ (¬ ((am_si h 0 8 0).1 5 (am_ix a1)) = 0 → ((p_M_saves (am_si h 0 8 0)) ∧ (∀ y1, v_M_saves (am_si h 0 8 0) = y1 → (p_lays (163 * a1) 0 326 163))))))))
def g_M_goBack (_ _ : List Sh) (as : List Value) (h : HP) : GR := match as with
  | [.ref o1, .int a1] => (Nat.beq o1 0, p_M_goBack h a1, none, some (.int (v_M_goBack h a1).1), (v_M_goBack h a1).2)
  | _ => bad h
def d_M_goBack (k : Nat) : CD := (k, yX6_goBack, cX6_goBack, 2, some .int, 2, 2, 45, 0, false, true, g_M_goBack)
theorem chk_M_goBack : ∀ pc, am_chk cX6_goBack k_M_goBack pc = true := am_chkall 64 (by decide +kernel) (fun pc h => by unfold k_M_goBack; rw [Nat.ble_eq_true_of_le h]; rfl)
theorem pf_M_goBack : plainFor yX6_goBack = true := by decide +kernel
theorem cu_M_goBack : Cond.code yX6_goBack cX6_goBack 2 (some .int) ∈ am_U := am_tb 1116 (by decide +kernel) rfl
set_option maxHeartbeats 20000000 in
set_option maxRecDepth 100000 in
theorem ev_M_goBack {e1 ro : List Sh} {P : AR → HP → Prop} (h : HP) (a1 : Int32) (hp : p_M_goBack h a1) (hP : ∀ q, v_M_goBack h a1 = q → RIW P h q) : am_Ev m_M_goBack (WM ++ e1) ro P (0, [.ref 0, .int a1], [], h) := by
  unfold p_M_goBack at hp
  refine am_Ev_G [5] 400 _ ?_
  show am_Ev m_M_goBack (WM ++ e1) ro P (5, [.ref 0, .int a1], [], (am_si h 0 8 0))
  refine am_Ev_G [11] 400 _ ?_
  show am_Ev m_M_goBack (WM ++ e1) ro P (11, [.ref 0, .int a1], [.int (v_M_in (am_si h 0 8 0) a1 0 1)], (am_si h 0 8 0))
  refine am_Ev_G [19, 34, 39] 400 _ ?_
  show ((¬ (v_M_in (am_si h 0 8 0) a1 0 1) = 0 → ((am_in a1 2) ∧ ((¬ ((am_si h 0 8 0).1 5 (am_ix a1)) = 0 → ((g_pre (g_M_saves (WM ++ e1) ro [.ref 0] (am_si h 0 8 0))) ∧ am_Ev m_M_goBack (WM ++ e1) ro P (39, [.ref 0, .int a1], [], (g_hp (g_M_saves (WM ++ e1) ro [.ref 0] (am_si h 0 8 0)))))) ∧ (((am_si h 0 8 0).1 5 (am_ix a1)) = 0 → am_Ev m_M_goBack (WM ++ e1) ro P (34, [.ref 0, .int a1], [.int ((v_M_refuses (am_si h 0 8 0) 2).1)], ((v_M_refuses (am_si h 0 8 0) 2).2)))))) ∧ ((v_M_in (am_si h 0 8 0) a1 0 1) = 0 → am_Ev m_M_goBack (WM ++ e1) ro P (19, [.ref 0, .int a1], [.int ((v_M_refuses (am_si h 0 8 0) 1).1)], ((v_M_refuses (am_si h 0 8 0) 1).2))))
  show ((¬ (v_M_in (am_si h 0 8 0) a1 0 1) = 0 → ((am_in a1 2) ∧ ((¬ ((am_si h 0 8 0).1 5 (am_ix a1)) = 0 → ((p_M_saves (am_si h 0 8 0)) ∧ am_Ev m_M_goBack (WM ++ e1) ro P (39, [.ref 0, .int a1], [], (v_M_saves (am_si h 0 8 0))))) ∧ (((am_si h 0 8 0).1 5 (am_ix a1)) = 0 → am_Ev m_M_goBack (WM ++ e1) ro P (34, [.ref 0, .int a1], [.int ((v_M_refuses (am_si h 0 8 0) 2).1)], ((v_M_refuses (am_si h 0 8 0) 2).2)))))) ∧ ((v_M_in (am_si h 0 8 0) a1 0 1) = 0 → am_Ev m_M_goBack (WM ++ e1) ro P (19, [.ref 0, .int a1], [.int ((v_M_refuses (am_si h 0 8 0) 1).1)], ((v_M_refuses (am_si h 0 8 0) 1).2))))
  refine ⟨fun c1 => ?_, fun c1 => ?_⟩
  · have hp := hp.2 c1
    obtain ⟨hob, hp⟩ := hp
    refine ⟨hob, ?_⟩
    refine ⟨fun c2 => ?_, fun c2 => ?_⟩
    · have hp := hp.2 c2
      obtain ⟨hob, hp⟩ := hp
      refine ⟨hob, ?_⟩
      obtain ⟨y1, c3⟩ : ∃ y, v_M_saves (am_si h 0 8 0) = y := ⟨_, rfl⟩
      rw [c3]
      have hp := hp _ c3
      show am_Ev m_M_goBack (WM ++ e1) ro P (39, [.ref 0, .int a1], [], y1)
      refine am_Ev_G [56] 400 _ ?_
      show ((p_lays (163 * a1) 0 326 163) ∧ am_Ev m_M_goBack (WM ++ e1) ro P (56, [.ref 0, .int a1], [], (v_lays y1 4 (163 * a1) 1 0)))
      refine ⟨hp, ?_⟩
      refine am_Ev_G [] 400 _ ?_
      show ((am_in 15 163) ∧ P (.inl (some (.int ((v_lays y1 4 (163 * a1) 1 0).1 1 (am_ix 15))))) (v_lays y1 4 (163 * a1) 1 0))
      refine ⟨⟨by decide, by decide⟩, ?_⟩
      exact hP ((v_lays y1 4 (163 * a1) 1 0).1 1 (am_ix 15), (v_lays y1 4 (163 * a1) 1 0)) (by unfold v_M_goBack; simp only [if_neg c1, if_neg c2, bnd, c3])
    · skip
      obtain ⟨y2, c4⟩ : ∃ y, v_M_refuses (am_si h 0 8 0) 2 = y := ⟨_, rfl⟩
      rw [c4]
      show am_Ev m_M_goBack (WM ++ e1) ro P (34, [.ref 0, .int a1], [.int y2.1], y2.2)
      refine am_Ev_G [] 400 _ ?_
      show P (.inl (some (.int y2.1))) y2.2
      exact hP (y2.1, y2.2) (by unfold v_M_goBack; simp only [if_neg c1, if_pos c2, bnd, c4])
  · skip
    obtain ⟨y3, c5⟩ : ∃ y, v_M_refuses (am_si h 0 8 0) 1 = y := ⟨_, rfl⟩
    rw [c5]
    show am_Ev m_M_goBack (WM ++ e1) ro P (19, [.ref 0, .int a1], [.int y3.1], y3.2)
    refine am_Ev_G [] 400 _ ?_
    show P (.inl (some (.int y3.1))) y3.2
    exact hP (y3.1, y3.2) (by unfold v_M_goBack; simp only [if_pos c1, bnd, c5])
theorem ok_M_goBack {l : Launch} (hl : l.stackTraces = false) (e1 ro : List Sh) (k : Nat) : am_Ok l (WM ++ e1) ro (d_M_goBack k) := by
  refine am_met hl (own := RX6) (M := m_M_goBack) rfl pf_M_goBack cu_M_goBack rfl rfl rfl rfl (fun _ => rfl) rfl ⟨chk_M_goBack, (am_c (fl_M_7) (am_c (fl_M_19) (am_c (fl_M_22) (am_c (fl_M_38) am_n)))), (am_c (lk_M_45) (am_c (lk_M_127) (am_c (lk_M_134) (am_c (lk_M_137) am_n)))), (am_n), (am_n)⟩ (am_n) (am_c (ok_M_lays hl _ _ 0) (am_c (ok_M_in hl e1 _ 0) (am_c (ok_M_refuses hl e1 _ 16) (am_c (ok_M_saves hl e1 _ 16) am_n)))) (fun z => nomatch z) ?_ ?_
  · intro _ as h hg
    show g_thr (g_M_goBack (WM ++ e1) ro as h) = none
    unfold g_M_goBack
    split <;> rfl
  · intro as h hg hp
    revert hg hp
    show g_ok (g_M_goBack (WM ++ e1) ro as h) = true → g_pre (g_M_goBack (WM ++ e1) ro as h) → _ ∧ am_Ev m_M_goBack (WM ++ e1) ro (am_eq (g_M_goBack (WM ++ e1) ro as h)) (0, am_ent as 2, [], h)
    unfold g_M_goBack
    split
    · rename_i o1 a1
      intro hc hp
      change (Nat.beq o1 0) = true at hc
      obtain rfl := am_beq hc
      exact ⟨Nat.le_of_ble_eq_true rfl, ev_M_goBack h a1 hp eqRIW⟩
    · exact fun z => nomatch z
def k_M_undo (pc : Nat) : Ent := bif Nat.ble 53 pc then am_nop else bif Nat.ble 24 pc then (bif Nat.ble 39 pc then (bif Nat.ble 45 pc then (bif Nat.ble 49 pc then (bif Nat.ble 52 pc then (bif Nat.beq pc 52 then (.ireturn, 0, 0, []) else am_nop) else (bif Nat.beq pc 49 then (.getfield 42, 0, 0, []) else am_nop)) else (bif Nat.ble 48 pc then (bif Nat.beq pc 48 then (.aload_n 0, 0, 0, []) else am_nop) else (bif Nat.beq pc 45 then (.invokestatic 45, 0, 0, []) else am_nop))) else (bif Nat.ble 41 pc then (bif Nat.ble 44 pc then (bif Nat.beq pc 44 then (.iconst 0, 0, 0, []) else am_nop) else (bif Nat.beq pc 41 then (.getfield 7, 0, 0, []) else am_nop)) else (bif Nat.ble 40 pc then (bif Nat.beq pc 40 then (.aload_n 0, 0, 0, []) else am_nop) else (bif Nat.beq pc 39 then (.imul, 0, 0, []) else am_nop)))) else (bif Nat.ble 29 pc then (bif Nat.ble 35 pc then (bif Nat.ble 36 pc then (bif Nat.beq pc 36 then (.getfield 42, 0, 0, []) else am_nop) else (bif Nat.beq pc 35 then (.aload_n 0, 0, 0, []) else am_nop)) else (bif Nat.ble 32 pc then (bif Nat.beq pc 32 then (.sipush 163, 163, 0, []) else am_nop) else (bif Nat.beq pc 29 then (.getfield 16, 0, 0, []) else am_nop))) else (bif Nat.ble 25 pc then (bif Nat.ble 28 pc then (bif Nat.beq pc 28 then (.aload_n 0, 0, 0, []) else am_nop) else (bif Nat.beq pc 25 then (.putfield 42, 0, 0, []) else am_nop)) else (bif Nat.beq pc 24 then (.isub, 0, 0, []) else am_nop)))) else (bif Nat.ble 13 pc then (bif Nat.ble 18 pc then (bif Nat.ble 20 pc then (bif Nat.ble 23 pc then (bif Nat.beq pc 23 then (.iconst 1, 1, 0, []) else am_nop) else (bif Nat.beq pc 20 then (.getfield 42, 0, 0, []) else am_nop)) else (bif Nat.ble 19 pc then (bif Nat.beq pc 19 then (.dup, 0, 0, []) else am_nop) else (bif Nat.beq pc 18 then (.aload_n 0, 0, 0, []) else am_nop))) else (bif Nat.ble 14 pc then (bif Nat.ble 17 pc then (bif Nat.beq pc 17 then (.ireturn, 0, 0, []) else am_nop) else (bif Nat.beq pc 14 then (.invokevirtual 134, 0, 0, []) else am_nop)) else (bif Nat.beq pc 13 then (.iconst 1, 1, 0, []) else am_nop))) else (bif Nat.ble 5 pc then (bif Nat.ble 9 pc then (bif Nat.ble 12 pc then (bif Nat.beq pc 12 then (.aload_n 0, 0, 0, []) else am_nop) else (bif Nat.beq pc 9 then (.ifCond .ne 9, 0, 18, []) else am_nop)) else (bif Nat.ble 6 pc then (bif Nat.beq pc 6 then (.getfield 42, 0, 0, []) else am_nop) else (bif Nat.beq pc 5 then (.aload_n 0, 0, 0, []) else am_nop))) else (bif Nat.ble 1 pc then (bif Nat.ble 2 pc then (bif Nat.beq pc 2 then (.putfield 38, 0, 0, []) else am_nop) else (bif Nat.beq pc 1 then (.iconst 0, 0, 0, []) else am_nop)) else (bif Nat.beq pc 0 then (.aload_n 0, 0, 0, []) else am_nop))))
def m_M_undo : MI := (k_M_undo, [(7, 6, 0), (16, 6, 2), (38, 6, 8), (42, 6, 3)], [(45, d_M_lays 0), (134, d_M_refuses 16)], [], [], [], [], 1, 24, some .int, fun _ => 0, 1)
def v_M_undo (h : HP) : Int32 × HP := (if (h.1 0 3) = 0 then (bnd (v_M_refuses (am_si h 0 8 0) 1) fun y1 => (y1.1, y1.2)) else ((v_lays (am_si (am_si h 0 8 0) 0 3 ((h.1 0 3) - 1)) 3 (163 * ((h.1 0 3) - 1)) 1 0).1 0 3, (v_lays (am_si (am_si h 0 8 0) 0 3 ((h.1 0 3) - 1)) 3 (163 * ((h.1 0 3) - 1)) 1 0)))
def p_M_undo (h : HP) : Prop := (((h.1 0 3) = 0 → True) ∧ (¬ (h.1 0 3) = 0 → (p_lays (163 * ((h.1 0 3) - 1)) 0 978 163)))
def g_M_undo (_ _ : List Sh) (as : List Value) (h : HP) : GR := match as with
  | [.ref o1] => (Nat.beq o1 0, p_M_undo h, none, some (.int (v_M_undo h).1), (v_M_undo h).2)
  | _ => bad h
def d_M_undo (k : Nat) : CD := (k, yX6_undo, cX6_undo, 1, some .int, 1, 1, 24, 0, false, true, g_M_undo)
theorem chk_M_undo : ∀ pc, am_chk cX6_undo k_M_undo pc = true := am_chkall 53 (by decide +kernel) (fun pc h => by unfold k_M_undo; rw [Nat.ble_eq_true_of_le h]; rfl)
theorem pf_M_undo : plainFor yX6_undo = true := by decide +kernel
theorem cu_M_undo : Cond.code yX6_undo cX6_undo 1 (some .int) ∈ am_U := am_tb 1120 (by decide +kernel) rfl
set_option maxHeartbeats 20000000 in
set_option maxRecDepth 100000 in
theorem ev_M_undo {e1 ro : List Sh} {P : AR → HP → Prop} (h : HP) (hp : p_M_undo h) (hP : ∀ q, v_M_undo h = q → RIW P h q) : am_Ev m_M_undo (WM ++ e1) ro P (0, [.ref 0], [], h) := by
  unfold p_M_undo at hp
  refine am_Ev_G [5] 400 _ ?_
  show am_Ev m_M_undo (WM ++ e1) ro P (5, [.ref 0], [], (am_si h 0 8 0))
  refine am_Ev_G [17, 28] 400 _ ?_
  show ((¬ (h.1 0 3) = 0 → am_Ev m_M_undo (WM ++ e1) ro P (28, [.ref 0], [], (am_si (am_si h 0 8 0) 0 3 ((h.1 0 3) - 1)))) ∧ ((h.1 0 3) = 0 → am_Ev m_M_undo (WM ++ e1) ro P (17, [.ref 0], [.int ((v_M_refuses (am_si h 0 8 0) 1).1)], ((v_M_refuses (am_si h 0 8 0) 1).2))))
  refine ⟨fun c1 => ?_, fun c1 => ?_⟩
  · have hp := hp.2 c1
    refine am_Ev_G [45] 400 _ ?_
    show am_Ev m_M_undo (WM ++ e1) ro P (45, [.ref 0], [.int 0, .ref 1, .int (163 * ((h.1 0 3) - 1)), .ref 3], (am_si (am_si h 0 8 0) 0 3 ((h.1 0 3) - 1)))
    refine am_Ev_G [] 400 _ ?_
    show ((p_lays (163 * ((h.1 0 3) - 1)) 0 978 163) ∧ P (.inl (some (.int ((v_lays (am_si (am_si h 0 8 0) 0 3 ((h.1 0 3) - 1)) 3 (163 * ((h.1 0 3) - 1)) 1 0).1 0 3)))) (v_lays (am_si (am_si h 0 8 0) 0 3 ((h.1 0 3) - 1)) 3 (163 * ((h.1 0 3) - 1)) 1 0))
    refine ⟨hp, ?_⟩
    exact hP ((v_lays (am_si (am_si h 0 8 0) 0 3 ((h.1 0 3) - 1)) 3 (163 * ((h.1 0 3) - 1)) 1 0).1 0 3, (v_lays (am_si (am_si h 0 8 0) 0 3 ((h.1 0 3) - 1)) 3 (163 * ((h.1 0 3) - 1)) 1 0)) (by unfold v_M_undo; simp only [if_neg c1])
  · skip
    obtain ⟨y1, c2⟩ : ∃ y, v_M_refuses (am_si h 0 8 0) 1 = y := ⟨_, rfl⟩
    rw [c2]
    show am_Ev m_M_undo (WM ++ e1) ro P (17, [.ref 0], [.int y1.1], y1.2)
    refine am_Ev_G [] 400 _ ?_
    show P (.inl (some (.int y1.1))) y1.2
    exact hP (y1.1, y1.2) (by unfold v_M_undo; simp only [if_pos c1, bnd, c2])
theorem ok_M_undo {l : Launch} (hl : l.stackTraces = false) (e1 ro : List Sh) (k : Nat) : am_Ok l (WM ++ e1) ro (d_M_undo k) := by
  refine am_met hl (own := RX6) (M := m_M_undo) rfl pf_M_undo cu_M_undo rfl rfl rfl rfl (fun _ => rfl) rfl ⟨chk_M_undo, (am_c (fl_M_7) (am_c (fl_M_16) (am_c (fl_M_38) (am_c (fl_M_42) am_n)))), (am_c (lk_M_45) (am_c (lk_M_134) am_n)), (am_n), (am_n)⟩ (am_n) (am_c (ok_M_lays hl _ _ 0) (am_c (ok_M_refuses hl e1 _ 16) am_n)) (fun z => nomatch z) ?_ ?_
  · intro _ as h hg
    show g_thr (g_M_undo (WM ++ e1) ro as h) = none
    unfold g_M_undo
    split <;> rfl
  · intro as h hg hp
    revert hg hp
    show g_ok (g_M_undo (WM ++ e1) ro as h) = true → g_pre (g_M_undo (WM ++ e1) ro as h) → _ ∧ am_Ev m_M_undo (WM ++ e1) ro (am_eq (g_M_undo (WM ++ e1) ro as h)) (0, am_ent as 1, [], h)
    unfold g_M_undo
    split
    · rename_i o1
      intro hc hp
      change (Nat.beq o1 0) = true at hc
      obtain rfl := am_beq hc
      exact ⟨Nat.le_of_ble_eq_true rfl, ev_M_undo h hp eqRIW⟩
    · exact fun z => nomatch z
def k_M_runs (pc : Nat) : Ent := bif Nat.ble 53 pc then am_nop else bif Nat.ble 27 pc then (bif Nat.ble 39 pc then (bif Nat.ble 45 pc then (bif Nat.ble 51 pc then (bif Nat.ble 52 pc then (bif Nat.beq pc 52 then (.ireturn, 0, 0, []) else am_nop) else (bif Nat.beq pc 51 then (.iload_n 3, 0, 3, []) else am_nop)) else (bif Nat.ble 48 pc then (bif Nat.beq pc 48 then (.goto (-43), 0, 5, []) else am_nop) else (bif Nat.beq pc 45 then (.iinc 4 1, 1, 4, []) else am_nop))) else (bif Nat.ble 43 pc then (bif Nat.ble 44 pc then (bif Nat.beq pc 44 then (.istore_n 3, 0, 3, []) else am_nop) else (bif Nat.beq pc 43 then (.iadd, 0, 0, []) else am_nop)) else (bif Nat.ble 42 pc then (bif Nat.beq pc 42 then (.iconst 0, 0, 0, []) else am_nop) else (bif Nat.beq pc 39 then (.goto 4, 0, 43, []) else am_nop)))) else (bif Nat.ble 31 pc then (bif Nat.ble 35 pc then (bif Nat.ble 38 pc then (bif Nat.beq pc 38 then (.iconst 1, 1, 0, []) else am_nop) else (bif Nat.beq pc 35 then (.if_icmp .ne 7, 0, 42, []) else am_nop)) else (bif Nat.ble 34 pc then (bif Nat.beq pc 34 then (.iload_n 1, 0, 1, []) else am_nop) else (bif Nat.beq pc 31 then (.invokevirtual 49, 0, 0, []) else am_nop))) else (bif Nat.ble 28 pc then (bif Nat.ble 30 pc then (bif Nat.beq pc 30 then (.iload_n 2, 0, 2, []) else am_nop) else (bif Nat.beq pc 28 then (.iload 4, 0, 4, []) else am_nop)) else (bif Nat.beq pc 27 then (.aload_n 0, 0, 0, []) else am_nop)))) else (bif Nat.ble 11 pc then (bif Nat.ble 18 pc then (bif Nat.ble 21 pc then (bif Nat.ble 24 pc then (bif Nat.beq pc 24 then (.ifCond .eq 18, 0, 42, []) else am_nop) else (bif Nat.beq pc 21 then (.invokevirtual 60, 0, 0, []) else am_nop)) else (bif Nat.ble 19 pc then (bif Nat.beq pc 19 then (.iload 4, 0, 4, []) else am_nop) else (bif Nat.beq pc 18 then (.aload_n 0, 0, 0, []) else am_nop))) else (bif Nat.ble 14 pc then (bif Nat.ble 17 pc then (bif Nat.beq pc 17 then (.iload_n 3, 0, 3, []) else am_nop) else (bif Nat.beq pc 14 then (.if_icmp .ge 37, 0, 51, []) else am_nop)) else (bif Nat.ble 13 pc then (bif Nat.beq pc 13 then (.iaload, 0, 0, []) else am_nop) else (bif Nat.beq pc 11 then (.bipush 15, 15, 0, []) else am_nop)))) else (bif Nat.ble 3 pc then (bif Nat.ble 7 pc then (bif Nat.ble 8 pc then (bif Nat.beq pc 8 then (.getfield 7, 0, 0, []) else am_nop) else (bif Nat.beq pc 7 then (.aload_n 0, 0, 0, []) else am_nop)) else (bif Nat.ble 5 pc then (bif Nat.beq pc 5 then (.iload 4, 0, 4, []) else am_nop) else (bif Nat.beq pc 3 then (.istore 4, 0, 4, []) else am_nop))) else (bif Nat.ble 1 pc then (bif Nat.ble 2 pc then (bif Nat.beq pc 2 then (.iconst 0, 0, 0, []) else am_nop) else (bif Nat.beq pc 1 then (.istore_n 3, 0, 3, []) else am_nop)) else (bif Nat.beq pc 0 then (.iconst 0, 0, 0, []) else am_nop))))
def m_M_runs : MI := (k_M_runs, [(7, 6, 0)], [(49, d_M_of 16), (60, d_M_isRun 16)], [], [], [], [], 2, 43, some .int, fun _ => 0, 1)
def s_M_runs_5 (h : HP) (a1 : Int32) (a2 : Int32) (v1 : Int32 × Int32) : (Int32 × Int32) ⊕ (Int32 × Int32) := (if v1.2 < (h.1 1 (am_ix 15)) then (.inl ((v1.1 + (if (v_M_isRun h v1.2) = 0 then (0 : Int32) else (if (v_M_of h v1.2 a2) = a1 then (1 : Int32) else 0))), (v1.2 + 1))) else (.inr (v1.1, v1.2)))
def ps_M_runs_5 (h : HP) (a1 : Int32) (a2 : Int32) (v1 : Int32 × Int32) : Prop := ((v1.2 < (h.1 1 (am_ix 15)) → ((p_M_isRun h v1.2) ∧ (((v_M_isRun h v1.2) = 0 → True) ∧ (¬ (v_M_isRun h v1.2) = 0 → (p_M_of h v1.2 a2))))) ∧ (¬ v1.2 < (h.1 1 (am_ix 15)) → True))
def v_M_runs (h : HP) (a1 : Int32) (a2 : Int32) : Int32 := (match itr (s_M_runs_5 h a1 a2) NF (0, 0) with | some r1 => r1.1 | none => 0)
def p_M_runs (h : HP) (a1 : Int32) (a2 : Int32) : Prop := (itrp (s_M_runs_5 h a1 a2) (ps_M_runs_5 h a1 a2) NF (0, 0))
def g_M_runs (_ _ : List Sh) (as : List Value) (h : HP) : GR := match as with
  | [.ref o1, .int a1, .int a2] => (Nat.beq o1 0, p_M_runs h a1 a2, none, some (.int (v_M_runs h a1 a2)), h)
  | _ => bad h
def d_M_runs (k : Nat) : CD := (k, yX6_runs, cX6_runs, 5, some .int, 3, 2, 43, 0, false, true, g_M_runs)
theorem chk_M_runs : ∀ pc, am_chk cX6_runs k_M_runs pc = true := am_chkall 53 (by decide +kernel) (fun pc h => by unfold k_M_runs; rw [Nat.ble_eq_true_of_le h]; rfl)
theorem pf_M_runs : plainFor yX6_runs = true := by decide +kernel
theorem cu_M_runs : Cond.code yX6_runs cX6_runs 5 (some .int) ∈ am_U := am_tb 1132 (by decide +kernel) rfl
set_option maxHeartbeats 20000000 in
set_option maxRecDepth 100000 in
theorem ev_M_runs {e1 ro : List Sh} {P : AR → HP → Prop} (h : HP) (a1 : Int32) (a2 : Int32) (hp : p_M_runs h a1 a2) (hP : ∀ q, v_M_runs h a1 a2 = q → RI P h q) : am_Ev m_M_runs (WM ++ e1) ro P (0, [.ref 0, .int a1, .int a2, .retAddr 0, .retAddr 0], [], h) := by
  unfold p_M_runs at hp
  refine am_Ev_G [5] 400 _ ?_
  show am_Ev m_M_runs (WM ++ e1) ro P (5, [.ref 0, .int a1, .int a2, .int 0, .int 0], [], h)
  have hpl := hp
  refine am_itr (E := (fun (v1 : Int32 × Int32) => am_Ev m_M_runs (WM ++ e1) ro P (5, [.ref 0, .int a1, .int a2, .int v1.1, .int v1.2], [], h))) (E' := (fun (r1 : Int32 × Int32) => am_Ev m_M_runs (WM ++ e1) ro P (51, [.ref 0, .int a1, .int a2, .int r1.1, .int r1.2], [], h))) (s_M_runs_5 h a1 a2) (ps_M_runs_5 h a1 a2) ?_ NF (0, 0) hpl ?_
  · intro v1 hp hc1 hx1
    show am_Ev m_M_runs (WM ++ e1) ro P (5, [.ref 0, .int a1, .int a2, .int v1.1, .int v1.2], [], h)
    unfold ps_M_runs_5 at hp
    refine am_Ev_G [24, 51] 400 _ ?_
    show ((am_in 15 163) ∧ ((¬ v1.2 < (h.1 1 (am_ix 15)) → am_Ev m_M_runs (WM ++ e1) ro P (51, [.ref 0, .int a1, .int a2, .int v1.1, .int v1.2], [], h)) ∧ (v1.2 < (h.1 1 (am_ix 15)) → ((p_M_isRun h v1.2) ∧ am_Ev m_M_runs (WM ++ e1) ro P (24, [.ref 0, .int a1, .int a2, .int v1.1, .int v1.2], [.int (v_M_isRun h v1.2), .int v1.1], h)))))
    refine ⟨⟨by decide, by decide⟩, ?_⟩
    refine ⟨fun c1 => ?_, fun c1 => ?_⟩
    · skip
      exact hx1 (v1.1, v1.2) (by unfold s_M_runs_5; simp only [if_neg c1])
    · have hp := hp.1 c1
      obtain ⟨hob, hp⟩ := hp
      refine ⟨hob, ?_⟩
      have hpa := hp
      have key2 : am_Ev m_M_runs (WM ++ e1) ro P (43, [.ref 0, .int a1, .int a2, .int v1.1, .int v1.2], [.int (if (v_M_isRun h v1.2) = 0 then (0 : Int32) else (if (v_M_of h v1.2 a2) = a1 then (1 : Int32) else 0)), .int v1.1], h) := by
        refine am_Ev_G [5] 400 _ ?_
        show am_Ev m_M_runs (WM ++ e1) ro P (5, [.ref 0, .int a1, .int a2, .int (v1.1 + (if (v_M_isRun h v1.2) = 0 then (0 : Int32) else (if (v_M_of h v1.2 a2) = a1 then (1 : Int32) else 0))), .int (v1.2 + 1)], [], h)
        exact hc1 ((v1.1 + (if (v_M_isRun h v1.2) = 0 then (0 : Int32) else (if (v_M_of h v1.2 a2) = a1 then (1 : Int32) else 0))), (v1.2 + 1)) (by unfold s_M_runs_5; simp only [if_pos c1])
      have hp := hpa
      refine am_Ev_G [43] 400 _ ?_
      show (((v_M_isRun h v1.2) = 0 → am_Ev m_M_runs (WM ++ e1) ro P (43, [.ref 0, .int a1, .int a2, .int v1.1, .int v1.2], [.int 0, .int v1.1], h)) ∧ (¬ (v_M_isRun h v1.2) = 0 → ((p_M_of h v1.2 a2) ∧ ((¬ (v_M_of h v1.2 a2) = a1 → am_Ev m_M_runs (WM ++ e1) ro P (43, [.ref 0, .int a1, .int a2, .int v1.1, .int v1.2], [.int 0, .int v1.1], h)) ∧ ((v_M_of h v1.2 a2) = a1 → am_Ev m_M_runs (WM ++ e1) ro P (43, [.ref 0, .int a1, .int a2, .int v1.1, .int v1.2], [.int 1, .int v1.1], h))))))
      refine ⟨fun c3 => ?_, fun c3 => ?_⟩
      · skip
        simpa only [if_pos c3] using key2
      · have hp := hp.2 c3
        refine ⟨hp, ?_⟩
        refine ⟨fun c4 => ?_, fun c4 => ?_⟩
        · skip
          simpa only [if_neg c3, if_neg c4] using key2
        · skip
          simpa only [if_neg c3, if_pos c4] using key2
  · intro r1 hr5
    show am_Ev m_M_runs (WM ++ e1) ro P (51, [.ref 0, .int a1, .int a2, .int r1.1, .int r1.2], [], h)
    refine am_Ev_G [] 400 _ ?_
    show P (.inl (some (.int r1.1))) h
    exact hP r1.1 (by unfold v_M_runs; simp only [hr5])
theorem ok_M_runs {l : Launch} (hl : l.stackTraces = false) (e1 ro : List Sh) (k : Nat) : am_Ok l (WM ++ e1) ro (d_M_runs k) := by
  refine am_met hl (own := RX6) (M := m_M_runs) rfl pf_M_runs cu_M_runs rfl rfl rfl rfl (fun _ => rfl) rfl ⟨chk_M_runs, (am_c (fl_M_7) am_n), (am_c (lk_M_49) (am_c (lk_M_60) am_n)), (am_n), (am_n)⟩ (am_n) (am_c (ok_M_of hl e1 _ 16) (am_c (ok_M_isRun hl e1 _ 16) am_n)) (fun z => nomatch z) ?_ ?_
  · intro _ as h hg
    show g_thr (g_M_runs (WM ++ e1) ro as h) = none
    unfold g_M_runs
    split <;> rfl
  · intro as h hg hp
    revert hg hp
    show g_ok (g_M_runs (WM ++ e1) ro as h) = true → g_pre (g_M_runs (WM ++ e1) ro as h) → _ ∧ am_Ev m_M_runs (WM ++ e1) ro (am_eq (g_M_runs (WM ++ e1) ro as h)) (0, am_ent as 5, [], h)
    unfold g_M_runs
    split
    · rename_i o1 a1 a2
      intro hc hp
      change (Nat.beq o1 0) = true at hc
      obtain rfl := am_beq hc
      exact ⟨Nat.le_of_ble_eq_true rfl, ev_M_runs h a1 a2 hp eqRI⟩
    · exact fun z => nomatch z
def k_M_aboutTerminal (pc : Nat) : Ent := bif Nat.ble 69 pc then am_nop else bif Nat.ble 47 pc then (bif Nat.ble 56 pc then (bif Nat.ble 62 pc then (bif Nat.ble 65 pc then (bif Nat.ble 68 pc then (bif Nat.beq pc 68 then (.ireturn, 0, 0, []) else am_nop) else (bif Nat.beq pc 65 then (.invokevirtual 111, 0, 0, []) else am_nop)) else (bif Nat.ble 64 pc then (bif Nat.beq pc 64 then (.iaload, 0, 0, []) else am_nop) else (bif Nat.beq pc 62 then (.bipush 15, 15, 0, []) else am_nop))) else (bif Nat.ble 58 pc then (bif Nat.ble 59 pc then (bif Nat.beq pc 59 then (.getfield 7, 0, 0, []) else am_nop) else (bif Nat.beq pc 58 then (.aload_n 0, 0, 0, []) else am_nop)) else (bif Nat.ble 57 pc then (bif Nat.beq pc 57 then (.iload_n 1, 0, 1, []) else am_nop) else (bif Nat.beq pc 56 then (.aload_n 0, 0, 0, []) else am_nop)))) else (bif Nat.ble 50 pc then (bif Nat.ble 52 pc then (bif Nat.ble 55 pc then (bif Nat.beq pc 55 then (.ireturn, 0, 0, []) else am_nop) else (bif Nat.beq pc 52 then (.invokevirtual 191, 0, 0, []) else am_nop)) else (bif Nat.ble 51 pc then (bif Nat.beq pc 51 then (.isub, 0, 0, []) else am_nop) else (bif Nat.beq pc 50 then (.iconst 2, 2, 0, []) else am_nop))) else (bif Nat.ble 48 pc then (bif Nat.ble 49 pc then (bif Nat.beq pc 49 then (.iadd, 0, 0, []) else am_nop) else (bif Nat.beq pc 48 then (.iload_n 2, 0, 2, []) else am_nop)) else (bif Nat.beq pc 47 then (.iconst 1, 1, 0, []) else am_nop)))) else (bif Nat.ble 39 pc then (bif Nat.ble 43 pc then (bif Nat.ble 45 pc then (bif Nat.ble 46 pc then (bif Nat.beq pc 46 then (.iload_n 1, 0, 1, []) else am_nop) else (bif Nat.beq pc 45 then (.aload_n 0, 0, 0, []) else am_nop)) else (bif Nat.ble 44 pc then (bif Nat.beq pc 44 then (.ireturn, 0, 0, []) else am_nop) else (bif Nat.beq pc 43 then (.iaload, 0, 0, []) else am_nop))) else (bif Nat.ble 41 pc then (bif Nat.ble 42 pc then (bif Nat.beq pc 42 then (.iadd, 0, 0, []) else am_nop) else (bif Nat.beq pc 41 then (.iload_n 1, 0, 1, []) else am_nop)) else (bif Nat.ble 40 pc then (bif Nat.beq pc 40 then (.iadd, 0, 0, []) else am_nop) else (bif Nat.beq pc 39 then (.imul, 0, 0, []) else am_nop)))) else (bif Nat.ble 33 pc then (bif Nat.ble 37 pc then (bif Nat.ble 38 pc then (bif Nat.beq pc 38 then (.iload_n 2, 0, 2, []) else am_nop) else (bif Nat.beq pc 37 then (.iconst 4, 4, 0, []) else am_nop)) else (bif Nat.ble 36 pc then (bif Nat.beq pc 36 then (.iconst 0, 0, 0, []) else am_nop) else (bif Nat.beq pc 33 then (.getfield 7, 0, 0, []) else am_nop))) else (bif Nat.ble 1 pc then (bif Nat.ble 32 pc then (bif Nat.beq pc 32 then (.aload_n 0, 0, 0, []) else am_nop) else (bif Nat.beq pc 1 then (.tableswitch 55 0 3 #[31, 31, 44, 44], 0, 56, [(0, 32), (1, 32), (2, 45), (3, 45)]) else am_nop)) else (bif Nat.beq pc 0 then (.iload_n 2, 0, 2, []) else am_nop))))
theorem lk_M_191 : am_lnk RX6 191 (d_M_runs 16) := ⟨⟨by decide, by decide⟩, am_tb 8 (by decide +kernel) rfl, Or.inr ⟨by decide, rfl, am_tb 1131 (by decide +kernel) rfl, am_tp 96 (by decide +kernel) rfl, ⟨TX6, 16, rfl⟩, Or.inl (am_tb 1129 (by decide +kernel) rfl)⟩⟩
def m_M_aboutTerminal : MI := (k_M_aboutTerminal, [(7, 6, 0)], [(111, d_M_deficit 16), (191, d_M_runs 16)], [], [], [], [], 6, 139, some .int, fun _ => 0, 1)
def v_M_aboutTerminal (h : HP) (a1 : Int32) (a2 : Int32) : Int32 := (if a2 = 0 then (h.1 1 (am_ix ((0 + (4 * a2)) + a1))) else (if a2 = 1 then (h.1 1 (am_ix ((0 + (4 * a2)) + a1))) else (if a2 = 2 then (v_M_runs h a1 ((1 + a2) - 2)) else (if a2 = 3 then (v_M_runs h a1 ((1 + a2) - 2)) else (v_M_deficit h a1 (h.1 1 (am_ix 15)))))))
def p_M_aboutTerminal (h : HP) (a1 : Int32) (a2 : Int32) : Prop := ((a2 = 0 → (am_in ((0 + (4 * a2)) + a1) 163)) ∧ (¬ a2 = 0 → ((a2 = 1 → (am_in ((0 + (4 * a2)) + a1) 163)) ∧ (¬ a2 = 1 → ((a2 = 2 → (p_M_runs h a1 ((1 + a2) - 2))) ∧ (¬ a2 = 2 → ((a2 = 3 → (p_M_runs h a1 ((1 + a2) - 2))) ∧ (¬ a2 = 3 → (p_M_deficit h a1 (h.1 1 (am_ix 15)))))))))))
def g_M_aboutTerminal (_ _ : List Sh) (as : List Value) (h : HP) : GR := match as with
  | [.ref o1, .int a1, .int a2] => (Nat.beq o1 0, p_M_aboutTerminal h a1 a2, none, some (.int (v_M_aboutTerminal h a1 a2)), h)
  | _ => bad h
def d_M_aboutTerminal (k : Nat) : CD := (k, yX6_aboutTerminal, cX6_aboutTerminal, 3, some .int, 3, 6, 139, 0, false, true, g_M_aboutTerminal)
theorem chk_M_aboutTerminal : ∀ pc, am_chk cX6_aboutTerminal k_M_aboutTerminal pc = true := am_chkall 69 (by decide +kernel) (fun pc h => by unfold k_M_aboutTerminal; rw [Nat.ble_eq_true_of_le h]; rfl)
theorem pf_M_aboutTerminal : plainFor yX6_aboutTerminal = true := by decide +kernel
theorem cu_M_aboutTerminal : Cond.code yX6_aboutTerminal cX6_aboutTerminal 3 (some .int) ∈ am_U := am_tb 1128 (by decide +kernel) rfl
set_option maxHeartbeats 20000000 in
set_option maxRecDepth 100000 in
theorem ev_M_aboutTerminal {e1 ro : List Sh} {P : AR → HP → Prop} (h : HP) (a1 : Int32) (a2 : Int32) (hp : p_M_aboutTerminal h a1 a2) (hP : ∀ q, v_M_aboutTerminal h a1 a2 = q → RI P h q) : am_Ev m_M_aboutTerminal (WM ++ e1) ro P (0, [.ref 0, .int a1, .int a2], [], h) := by
  unfold p_M_aboutTerminal at hp
  refine am_Ev_G [47, 68] 400 _ ?_
  show ((a2 = 0 → ((am_in ((0 + (4 * a2)) + a1) 163) ∧ P (.inl (some (.int (h.1 1 (am_ix ((0 + (4 * a2)) + a1)))))) h)) ∧ (¬ a2 = 0 → ((a2 = 1 → ((am_in ((0 + (4 * a2)) + a1) 163) ∧ P (.inl (some (.int (h.1 1 (am_ix ((0 + (4 * a2)) + a1)))))) h)) ∧ (¬ a2 = 1 → ((a2 = 2 → am_Ev m_M_aboutTerminal (WM ++ e1) ro P (47, [.ref 0, .int a1, .int a2], [.int a1, .ref 0], h)) ∧ (¬ a2 = 2 → ((a2 = 3 → am_Ev m_M_aboutTerminal (WM ++ e1) ro P (47, [.ref 0, .int a1, .int a2], [.int a1, .ref 0], h)) ∧ (¬ a2 = 3 → ((am_in 15 163) ∧ ((p_M_deficit h a1 (h.1 1 (am_ix 15))) ∧ am_Ev m_M_aboutTerminal (WM ++ e1) ro P (68, [.ref 0, .int a1, .int a2], [.int (v_M_deficit h a1 (h.1 1 (am_ix 15)))], h)))))))))))
  refine ⟨fun c1 => ?_, fun c1 => ?_⟩
  · have hp := hp.1 c1
    refine ⟨hp, ?_⟩
    exact hP (h.1 1 (am_ix ((0 + (4 * a2)) + a1))) (by unfold v_M_aboutTerminal; simp only [if_pos c1])
  · have hp := hp.2 c1
    refine ⟨fun c2 => ?_, fun c2 => ?_⟩
    · have hp := hp.1 c2
      refine ⟨hp, ?_⟩
      exact hP (h.1 1 (am_ix ((0 + (4 * a2)) + a1))) (by unfold v_M_aboutTerminal; simp only [if_neg c1, if_pos c2])
    · have hp := hp.2 c2
      refine ⟨fun c3 => ?_, fun c3 => ?_⟩
      · have hp := hp.1 c3
        refine am_Ev_G [] 400 _ ?_
        show ((p_M_runs h a1 ((1 + a2) - 2)) ∧ P (.inl (some (.int (v_M_runs h a1 ((1 + a2) - 2))))) h)
        refine ⟨hp, ?_⟩
        exact hP (v_M_runs h a1 ((1 + a2) - 2)) (by unfold v_M_aboutTerminal; simp only [if_neg c1, if_neg c2, if_pos c3])
      · have hp := hp.2 c3
        refine ⟨fun c4 => ?_, fun c4 => ?_⟩
        · have hp := hp.1 c4
          refine am_Ev_G [] 400 _ ?_
          show ((p_M_runs h a1 ((1 + a2) - 2)) ∧ P (.inl (some (.int (v_M_runs h a1 ((1 + a2) - 2))))) h)
          refine ⟨hp, ?_⟩
          exact hP (v_M_runs h a1 ((1 + a2) - 2)) (by unfold v_M_aboutTerminal; simp only [if_neg c1, if_neg c2, if_neg c3, if_pos c4])
        · have hp := hp.2 c4
          refine ⟨⟨by decide, by decide⟩, ?_⟩
          refine ⟨hp, ?_⟩
          refine am_Ev_G [] 400 _ ?_
          show P (.inl (some (.int (v_M_deficit h a1 (h.1 1 (am_ix 15)))))) h
          exact hP (v_M_deficit h a1 (h.1 1 (am_ix 15))) (by unfold v_M_aboutTerminal; simp only [if_neg c1, if_neg c2, if_neg c3, if_neg c4])
theorem ok_M_aboutTerminal {l : Launch} (hl : l.stackTraces = false) (e1 ro : List Sh) (k : Nat) : am_Ok l (WM ++ e1) ro (d_M_aboutTerminal k) := by
  refine am_met hl (own := RX6) (M := m_M_aboutTerminal) rfl pf_M_aboutTerminal cu_M_aboutTerminal rfl rfl rfl rfl (fun _ => rfl) rfl ⟨chk_M_aboutTerminal, (am_c (fl_M_7) am_n), (am_c (lk_M_111) (am_c (lk_M_191) am_n)), (am_n), (am_n)⟩ (am_n) (am_c (ok_M_deficit hl e1 _ 16) (am_c (ok_M_runs hl e1 _ 16) am_n)) (fun z => nomatch z) ?_ ?_
  · intro _ as h hg
    show g_thr (g_M_aboutTerminal (WM ++ e1) ro as h) = none
    unfold g_M_aboutTerminal
    split <;> rfl
  · intro as h hg hp
    revert hg hp
    show g_ok (g_M_aboutTerminal (WM ++ e1) ro as h) = true → g_pre (g_M_aboutTerminal (WM ++ e1) ro as h) → _ ∧ am_Ev m_M_aboutTerminal (WM ++ e1) ro (am_eq (g_M_aboutTerminal (WM ++ e1) ro as h)) (0, am_ent as 3, [], h)
    unfold g_M_aboutTerminal
    split
    · rename_i o1 a1 a2
      intro hc hp
      change (Nat.beq o1 0) = true at hc
      obtain rfl := am_beq hc
      exact ⟨Nat.le_of_ble_eq_true rfl, ev_M_aboutTerminal h a1 a2 hp eqRI⟩
    · exact fun z => nomatch z
def k_M_terminalOf (pc : Nat) : Ent := bif Nat.ble 42 pc then am_nop else bif Nat.ble 20 pc then (bif Nat.ble 30 pc then (bif Nat.ble 37 pc then (bif Nat.ble 38 pc then (bif Nat.ble 41 pc then (bif Nat.beq pc 41 then (.ireturn, 0, 0, []) else am_nop) else (bif Nat.beq pc 38 then (.invokevirtual 134, 0, 0, []) else am_nop)) else (bif Nat.beq pc 37 then (.iconst 2, 2, 0, []) else am_nop)) else (bif Nat.ble 33 pc then (bif Nat.ble 36 pc then (bif Nat.beq pc 36 then (.aload_n 0, 0, 0, []) else am_nop) else (bif Nat.beq pc 33 then (.goto 8, 0, 41, []) else am_nop)) else (bif Nat.beq pc 30 then (.invokevirtual 194, 0, 0, []) else am_nop))) else (bif Nat.ble 27 pc then (bif Nat.ble 28 pc then (bif Nat.ble 29 pc then (bif Nat.beq pc 29 then (.iload_n 2, 0, 2, []) else am_nop) else (bif Nat.beq pc 28 then (.iload_n 1, 0, 1, []) else am_nop)) else (bif Nat.beq pc 27 then (.aload_n 0, 0, 0, []) else am_nop)) else (bif Nat.ble 21 pc then (bif Nat.ble 24 pc then (bif Nat.beq pc 24 then (.ifCond .eq 12, 0, 36, []) else am_nop) else (bif Nat.beq pc 21 then (.invokestatic 127, 0, 0, []) else am_nop)) else (bif Nat.beq pc 20 then (.iconst 4, 4, 0, []) else am_nop)))) else (bif Nat.ble 12 pc then (bif Nat.ble 17 pc then (bif Nat.ble 18 pc then (bif Nat.ble 19 pc then (bif Nat.beq pc 19 then (.iconst 0, 0, 0, []) else am_nop) else (bif Nat.beq pc 18 then (.iload_n 2, 0, 2, []) else am_nop)) else (bif Nat.beq pc 17 then (.ireturn, 0, 0, []) else am_nop)) else (bif Nat.ble 13 pc then (bif Nat.ble 14 pc then (bif Nat.beq pc 14 then (.invokevirtual 134, 0, 0, []) else am_nop) else (bif Nat.beq pc 13 then (.iconst 1, 1, 0, []) else am_nop)) else (bif Nat.beq pc 12 then (.aload_n 0, 0, 0, []) else am_nop))) else (bif Nat.ble 5 pc then (bif Nat.ble 6 pc then (bif Nat.ble 9 pc then (bif Nat.beq pc 9 then (.ifCond .ne 9, 0, 18, []) else am_nop) else (bif Nat.beq pc 6 then (.invokestatic 131, 0, 0, []) else am_nop)) else (bif Nat.beq pc 5 then (.iload_n 1, 0, 1, []) else am_nop)) else (bif Nat.ble 1 pc then (bif Nat.ble 2 pc then (bif Nat.beq pc 2 then (.putfield 38, 0, 0, []) else am_nop) else (bif Nat.beq pc 1 then (.iconst 0, 0, 0, []) else am_nop)) else (bif Nat.beq pc 0 then (.aload_n 0, 0, 0, []) else am_nop))))
theorem lk_M_194 : am_lnk RX6 194 (d_M_aboutTerminal 16) := ⟨⟨by decide, by decide⟩, am_tb 8 (by decide +kernel) rfl, Or.inr ⟨by decide, rfl, am_tb 1127 (by decide +kernel) rfl, am_tp 95 (by decide +kernel) rfl, ⟨TX6, 16, rfl⟩, Or.inl (am_tb 1125 (by decide +kernel) rfl)⟩⟩
def m_M_terminalOf : MI := (k_M_terminalOf, [(38, 6, 8)], [(127, d_M_in 0), (131, d_M_isTerminal 0), (134, d_M_refuses 16), (194, d_M_aboutTerminal 16)], [], [], [], [], 7, 161, some .int, fun _ => 0, 1)
def v_M_terminalOf (h : HP) (a1 : Int32) (a2 : Int32) : Int32 × HP := (if (v_M_isTerminal (am_si h 0 8 0) a1) = 0 then (bnd (v_M_refuses (am_si h 0 8 0) 1) fun y2 => (y2.1, y2.2)) else (if (v_M_in (am_si h 0 8 0) a2 0 4) = 0 then (bnd (v_M_refuses (am_si h 0 8 0) 2) fun y1 => (y1.1, y1.2)) else ((v_M_aboutTerminal (am_si h 0 8 0) a1 a2), (am_si h 0 8 0))))
def p_M_terminalOf (h : HP) (a1 : Int32) (a2 : Int32) : Prop := ((p_M_isTerminal (am_si h 0 8 0) a1) ∧ (((v_M_isTerminal (am_si h 0 8 0) a1) = 0 → True) ∧ (¬ (v_M_isTerminal (am_si h 0 8 0) a1) = 0 → (((v_M_in (am_si h 0 8 0) a2 0 4) = 0 → True) ∧ (¬ (v_M_in (am_si h 0 8 0) a2 0 4) = 0 → (p_M_aboutTerminal (am_si h 0 8 0) a1 a2))))))
def g_M_terminalOf (_ _ : List Sh) (as : List Value) (h : HP) : GR := match as with
  | [.ref o1, .int a1, .int a2] => (Nat.beq o1 0, p_M_terminalOf h a1 a2, none, some (.int (v_M_terminalOf h a1 a2).1), (v_M_terminalOf h a1 a2).2)
  | _ => bad h
def d_M_terminalOf (k : Nat) : CD := (k, yX6_terminalOf, cX6_terminalOf, 3, some .int, 3, 7, 161, 0, false, true, g_M_terminalOf)
theorem chk_M_terminalOf : ∀ pc, am_chk cX6_terminalOf k_M_terminalOf pc = true := am_chkall 42 (by decide +kernel) (fun pc h => by unfold k_M_terminalOf; rw [Nat.ble_eq_true_of_le h]; rfl)
theorem pf_M_terminalOf : plainFor yX6_terminalOf = true := by decide +kernel
theorem cu_M_terminalOf : Cond.code yX6_terminalOf cX6_terminalOf 3 (some .int) ∈ am_U := am_tb 1124 (by decide +kernel) rfl
set_option maxHeartbeats 20000000 in
set_option maxRecDepth 100000 in
theorem ev_M_terminalOf {e1 ro : List Sh} {P : AR → HP → Prop} (h : HP) (a1 : Int32) (a2 : Int32) (hp : p_M_terminalOf h a1 a2) (hP : ∀ q, v_M_terminalOf h a1 a2 = q → RIW P h q) : am_Ev m_M_terminalOf (WM ++ e1) ro P (0, [.ref 0, .int a1, .int a2], [], h) := by
  unfold p_M_terminalOf at hp
  refine am_Ev_G [5] 400 _ ?_
  show am_Ev m_M_terminalOf (WM ++ e1) ro P (5, [.ref 0, .int a1, .int a2], [], (am_si h 0 8 0))
  refine am_Ev_G [17, 33, 41] 400 _ ?_
  show ((p_M_isTerminal (am_si h 0 8 0) a1) ∧ ((¬ (v_M_isTerminal (am_si h 0 8 0) a1) = 0 → (((v_M_in (am_si h 0 8 0) a2 0 4) = 0 → am_Ev m_M_terminalOf (WM ++ e1) ro P (41, [.ref 0, .int a1, .int a2], [.int ((v_M_refuses (am_si h 0 8 0) 2).1)], ((v_M_refuses (am_si h 0 8 0) 2).2))) ∧ (¬ (v_M_in (am_si h 0 8 0) a2 0 4) = 0 → ((p_M_aboutTerminal (am_si h 0 8 0) a1 a2) ∧ am_Ev m_M_terminalOf (WM ++ e1) ro P (33, [.ref 0, .int a1, .int a2], [.int (v_M_aboutTerminal (am_si h 0 8 0) a1 a2)], (am_si h 0 8 0)))))) ∧ ((v_M_isTerminal (am_si h 0 8 0) a1) = 0 → am_Ev m_M_terminalOf (WM ++ e1) ro P (17, [.ref 0, .int a1, .int a2], [.int ((v_M_refuses (am_si h 0 8 0) 1).1)], ((v_M_refuses (am_si h 0 8 0) 1).2)))))
  obtain ⟨hob, hp⟩ := hp
  refine ⟨hob, ?_⟩
  refine ⟨fun c1 => ?_, fun c1 => ?_⟩
  · have hp := hp.2 c1
    refine ⟨fun c2 => ?_, fun c2 => ?_⟩
    · skip
      obtain ⟨y1, c3⟩ : ∃ y, v_M_refuses (am_si h 0 8 0) 2 = y := ⟨_, rfl⟩
      rw [c3]
      show am_Ev m_M_terminalOf (WM ++ e1) ro P (41, [.ref 0, .int a1, .int a2], [.int y1.1], y1.2)
      refine am_Ev_G [] 400 _ ?_
      show P (.inl (some (.int y1.1))) y1.2
      exact hP (y1.1, y1.2) (by unfold v_M_terminalOf; simp only [if_neg c1, if_pos c2, bnd, c3])
    · have hp := hp.2 c2
      refine ⟨hp, ?_⟩
      refine am_Ev_G [41] 400 _ ?_
      show am_Ev m_M_terminalOf (WM ++ e1) ro P (41, [.ref 0, .int a1, .int a2], [.int (v_M_aboutTerminal (am_si h 0 8 0) a1 a2)], (am_si h 0 8 0))
      refine am_Ev_G [] 400 _ ?_
      show P (.inl (some (.int (v_M_aboutTerminal (am_si h 0 8 0) a1 a2)))) (am_si h 0 8 0)
      exact hP ((v_M_aboutTerminal (am_si h 0 8 0) a1 a2), (am_si h 0 8 0)) (by unfold v_M_terminalOf; simp only [if_neg c1, if_neg c2])
  · skip
    obtain ⟨y2, c4⟩ : ∃ y, v_M_refuses (am_si h 0 8 0) 1 = y := ⟨_, rfl⟩
    rw [c4]
    show am_Ev m_M_terminalOf (WM ++ e1) ro P (17, [.ref 0, .int a1, .int a2], [.int y2.1], y2.2)
    refine am_Ev_G [] 400 _ ?_
    show P (.inl (some (.int y2.1))) y2.2
    exact hP (y2.1, y2.2) (by unfold v_M_terminalOf; simp only [if_pos c1, bnd, c4])
theorem ok_M_terminalOf {l : Launch} (hl : l.stackTraces = false) (e1 ro : List Sh) (k : Nat) : am_Ok l (WM ++ e1) ro (d_M_terminalOf k) := by
  refine am_met hl (own := RX6) (M := m_M_terminalOf) rfl pf_M_terminalOf cu_M_terminalOf rfl rfl rfl rfl (fun _ => rfl) rfl ⟨chk_M_terminalOf, (am_c (fl_M_38) am_n), (am_c (lk_M_127) (am_c (lk_M_131) (am_c (lk_M_134) (am_c (lk_M_194) am_n)))), (am_n), (am_n)⟩ (am_n) (am_c (ok_M_in hl e1 _ 0) (am_c (ok_M_isTerminal hl e1 _ 0) (am_c (ok_M_refuses hl e1 _ 16) (am_c (ok_M_aboutTerminal hl e1 _ 16) am_n)))) (fun z => nomatch z) ?_ ?_
  · intro _ as h hg
    show g_thr (g_M_terminalOf (WM ++ e1) ro as h) = none
    unfold g_M_terminalOf
    split <;> rfl
  · intro as h hg hp
    revert hg hp
    show g_ok (g_M_terminalOf (WM ++ e1) ro as h) = true → g_pre (g_M_terminalOf (WM ++ e1) ro as h) → _ ∧ am_Ev m_M_terminalOf (WM ++ e1) ro (am_eq (g_M_terminalOf (WM ++ e1) ro as h)) (0, am_ent as 3, [], h)
    unfold g_M_terminalOf
    split
    · rename_i o1 a1 a2
      intro hc hp
      change (Nat.beq o1 0) = true at hc
      obtain rfl := am_beq hc
      exact ⟨Nat.le_of_ble_eq_true rfl, ev_M_terminalOf h a1 a2 hp eqRIW⟩
    · exact fun z => nomatch z
def k_M_aboutTrip (pc : Nat) : Ent := bif Nat.ble 86 pc then am_nop else bif Nat.ble 59 pc then (bif Nat.ble 73 pc then (bif Nat.ble 79 pc then (bif Nat.ble 81 pc then (bif Nat.ble 82 pc then (bif Nat.ble 85 pc then (bif Nat.beq pc 85 then (.ireturn, 0, 0, []) else am_nop) else (bif Nat.beq pc 82 then (.invokevirtual 49, 0, 0, []) else am_nop)) else (bif Nat.beq pc 81 then (.iload_n 2, 0, 2, []) else am_nop)) else (bif Nat.ble 80 pc then (bif Nat.beq pc 80 then (.iload_n 1, 0, 1, []) else am_nop) else (bif Nat.beq pc 79 then (.aload_n 0, 0, 0, []) else am_nop))) else (bif Nat.ble 75 pc then (bif Nat.ble 78 pc then (bif Nat.beq pc 78 then (.ireturn, 0, 0, []) else am_nop) else (bif Nat.beq pc 75 then (.invokevirtual 49, 0, 0, []) else am_nop)) else (bif Nat.ble 74 pc then (bif Nat.beq pc 74 then (.iconst 5, 5, 0, []) else am_nop) else (bif Nat.beq pc 73 then (.iload_n 1, 0, 1, []) else am_nop)))) else (bif Nat.ble 67 pc then (bif Nat.ble 71 pc then (bif Nat.ble 72 pc then (bif Nat.beq pc 72 then (.aload_n 0, 0, 0, []) else am_nop) else (bif Nat.beq pc 71 then (.ireturn, 0, 0, []) else am_nop)) else (bif Nat.ble 70 pc then (bif Nat.beq pc 70 then (.iconst (-1), (-1 : Int32), 0, []) else am_nop) else (bif Nat.beq pc 67 then (.goto 4, 0, 71, []) else am_nop))) else (bif Nat.ble 63 pc then (bif Nat.ble 64 pc then (bif Nat.beq pc 64 then (.invokevirtual 197, 0, 0, []) else am_nop) else (bif Nat.beq pc 63 then (.iload_n 1, 0, 1, []) else am_nop)) else (bif Nat.ble 62 pc then (bif Nat.beq pc 62 then (.aload_n 0, 0, 0, []) else am_nop) else (bif Nat.beq pc 59 then (.ifCond .eq 11, 0, 70, []) else am_nop))))) else (bif Nat.ble 44 pc then (bif Nat.ble 50 pc then (bif Nat.ble 54 pc then (bif Nat.ble 55 pc then (bif Nat.ble 56 pc then (bif Nat.beq pc 56 then (.invokevirtual 60, 0, 0, []) else am_nop) else (bif Nat.beq pc 55 then (.iload_n 1, 0, 1, []) else am_nop)) else (bif Nat.beq pc 54 then (.aload_n 0, 0, 0, []) else am_nop)) else (bif Nat.ble 53 pc then (bif Nat.beq pc 53 then (.ireturn, 0, 0, []) else am_nop) else (bif Nat.beq pc 50 then (.invokevirtual 57, 0, 0, []) else am_nop))) else (bif Nat.ble 48 pc then (bif Nat.ble 49 pc then (bif Nat.beq pc 49 then (.iload_n 1, 0, 1, []) else am_nop) else (bif Nat.beq pc 48 then (.aload_n 0, 0, 0, []) else am_nop)) else (bif Nat.ble 47 pc then (bif Nat.beq pc 47 then (.ireturn, 0, 0, []) else am_nop) else (bif Nat.beq pc 44 then (.invokevirtual 64, 0, 0, []) else am_nop)))) else (bif Nat.ble 38 pc then (bif Nat.ble 42 pc then (bif Nat.ble 43 pc then (bif Nat.beq pc 43 then (.iload_n 1, 0, 1, []) else am_nop) else (bif Nat.beq pc 42 then (.aload_n 0, 0, 0, []) else am_nop)) else (bif Nat.ble 41 pc then (bif Nat.beq pc 41 then (.ireturn, 0, 0, []) else am_nop) else (bif Nat.beq pc 38 then (.invokevirtual 53, 0, 0, []) else am_nop))) else (bif Nat.ble 36 pc then (bif Nat.ble 37 pc then (bif Nat.beq pc 37 then (.iload_n 1, 0, 1, []) else am_nop) else (bif Nat.beq pc 36 then (.aload_n 0, 0, 0, []) else am_nop)) else (bif Nat.ble 1 pc then (bif Nat.beq pc 1 then (.tableswitch 78 4 8 #[35, 41, 47, 53, 71], 0, 79, [(4, 36), (5, 42), (6, 48), (7, 54), (8, 72)]) else am_nop) else (bif Nat.beq pc 0 then (.iload_n 2, 0, 2, []) else am_nop)))))
theorem lk_M_197 : am_lnk RX6 197 (d_M_blockOfTrip 16) := ⟨⟨by decide, by decide⟩, am_tb 8 (by decide +kernel) rfl, Or.inr ⟨by decide, rfl, am_tb 1159 (by decide +kernel) rfl, am_tp 102 (by decide +kernel) rfl, ⟨TX6, 16, rfl⟩, Or.inl (am_tb 1157 (by decide +kernel) rfl)⟩⟩
def m_M_aboutTrip : MI := (k_M_aboutTrip, [], [(49, d_M_of 16), (53, d_M_arrival 16), (57, d_M_next 16), (60, d_M_isRun 16), (64, d_M_before 16), (197, d_M_blockOfTrip 16)], [], [], [], [], 5, 113, some .int, fun _ => 0, 1)
def v_M_aboutTrip (h : HP) (a1 : Int32) (a2 : Int32) : Int32 := (if a2 = 4 then (v_M_arrival h a1) else (if a2 = 5 then (v_M_before h a1) else (if a2 = 6 then (v_M_next h a1) else (if a2 = 7 then (if (v_M_isRun h a1) = 0 then (-1 : Int32) else (v_M_blockOfTrip h a1)) else (if a2 = 8 then (v_M_of h a1 5) else (v_M_of h a1 a2))))))
def p_M_aboutTrip (h : HP) (a1 : Int32) (a2 : Int32) : Prop := ((a2 = 4 → (p_M_arrival h a1)) ∧ (¬ a2 = 4 → ((a2 = 5 → (p_M_before h a1)) ∧ (¬ a2 = 5 → ((a2 = 6 → (p_M_next h a1)) ∧ (¬ a2 = 6 → ((a2 = 7 → ((p_M_isRun h a1) ∧ (((v_M_isRun h a1) = 0 → True) ∧ (¬ (v_M_isRun h a1) = 0 → (p_M_blockOfTrip h a1))))) ∧ (¬ a2 = 7 → ((a2 = 8 → (p_M_of h a1 5)) ∧ (¬ a2 = 8 → (p_M_of h a1 a2)))))))))))
def g_M_aboutTrip (_ _ : List Sh) (as : List Value) (h : HP) : GR := match as with
  | [.ref o1, .int a1, .int a2] => (Nat.beq o1 0, p_M_aboutTrip h a1 a2, none, some (.int (v_M_aboutTrip h a1 a2)), h)
  | _ => bad h
def d_M_aboutTrip (k : Nat) : CD := (k, yX6_aboutTrip, cX6_aboutTrip, 3, some .int, 3, 5, 113, 0, false, true, g_M_aboutTrip)
theorem chk_M_aboutTrip : ∀ pc, am_chk cX6_aboutTrip k_M_aboutTrip pc = true := am_chkall 86 (by decide +kernel) (fun pc h => by unfold k_M_aboutTrip; rw [Nat.ble_eq_true_of_le h]; rfl)
theorem pf_M_aboutTrip : plainFor yX6_aboutTrip = true := by decide +kernel
theorem cu_M_aboutTrip : Cond.code yX6_aboutTrip cX6_aboutTrip 3 (some .int) ∈ am_U := am_tb 1156 (by decide +kernel) rfl
set_option maxHeartbeats 20000000 in
set_option maxRecDepth 100000 in
theorem ev_M_aboutTrip {e1 ro : List Sh} {P : AR → HP → Prop} (h : HP) (a1 : Int32) (a2 : Int32) (hp : p_M_aboutTrip h a1 a2) (hP : ∀ q, v_M_aboutTrip h a1 a2 = q → RI P h q) : am_Ev m_M_aboutTrip (WM ++ e1) ro P (0, [.ref 0, .int a1, .int a2], [], h) := by
  unfold p_M_aboutTrip at hp
  refine am_Ev_G [47, 59, 78] 400 _ ?_
  show ((a2 = 4 → ((p_M_arrival h a1) ∧ P (.inl (some (.int (v_M_arrival h a1)))) h)) ∧ (¬ a2 = 4 → ((a2 = 5 → ((p_M_before h a1) ∧ am_Ev m_M_aboutTrip (WM ++ e1) ro P (47, [.ref 0, .int a1, .int a2], [.int (v_M_before h a1)], h))) ∧ (¬ a2 = 5 → ((a2 = 6 → ((p_M_next h a1) ∧ P (.inl (some (.int (v_M_next h a1)))) h)) ∧ (¬ a2 = 6 → ((a2 = 7 → ((p_M_isRun h a1) ∧ am_Ev m_M_aboutTrip (WM ++ e1) ro P (59, [.ref 0, .int a1, .int a2], [.int (v_M_isRun h a1)], h))) ∧ (¬ a2 = 7 → ((a2 = 8 → ((p_M_of h a1 5) ∧ am_Ev m_M_aboutTrip (WM ++ e1) ro P (78, [.ref 0, .int a1, .int a2], [.int (v_M_of h a1 5)], h))) ∧ (¬ a2 = 8 → ((p_M_of h a1 a2) ∧ P (.inl (some (.int (v_M_of h a1 a2)))) h)))))))))))
  refine ⟨fun c1 => ?_, fun c1 => ?_⟩
  · have hp := hp.1 c1
    refine ⟨hp, ?_⟩
    exact hP (v_M_arrival h a1) (by unfold v_M_aboutTrip; simp only [if_pos c1])
  · have hp := hp.2 c1
    refine ⟨fun c2 => ?_, fun c2 => ?_⟩
    · have hp := hp.1 c2
      refine ⟨hp, ?_⟩
      refine am_Ev_G [] 400 _ ?_
      show P (.inl (some (.int (v_M_before h a1)))) h
      exact hP (v_M_before h a1) (by unfold v_M_aboutTrip; simp only [if_neg c1, if_pos c2])
    · have hp := hp.2 c2
      refine ⟨fun c3 => ?_, fun c3 => ?_⟩
      · have hp := hp.1 c3
        refine ⟨hp, ?_⟩
        exact hP (v_M_next h a1) (by unfold v_M_aboutTrip; simp only [if_neg c1, if_neg c2, if_pos c3])
      · have hp := hp.2 c3
        refine ⟨fun c4 => ?_, fun c4 => ?_⟩
        · have hp := hp.1 c4
          obtain ⟨hob, hp⟩ := hp
          refine ⟨hob, ?_⟩
          have hpa := hp
          have key5 : am_Ev m_M_aboutTrip (WM ++ e1) ro P (71, [.ref 0, .int a1, .int a2], [.int (if (v_M_isRun h a1) = 0 then (-1 : Int32) else (v_M_blockOfTrip h a1))], h) := by
            refine am_Ev_G [] 400 _ ?_
            show P (.inl (some (.int (if (v_M_isRun h a1) = 0 then (-1 : Int32) else (v_M_blockOfTrip h a1))))) h
            exact hP (if (v_M_isRun h a1) = 0 then (-1 : Int32) else (v_M_blockOfTrip h a1)) (by unfold v_M_aboutTrip; simp only [if_neg c1, if_neg c2, if_neg c3, if_pos c4])
          have hp := hpa
          refine am_Ev_G [71] 400 _ ?_
          show (((v_M_isRun h a1) = 0 → am_Ev m_M_aboutTrip (WM ++ e1) ro P (71, [.ref 0, .int a1, .int a2], [.int (-1 : Int32)], h)) ∧ (¬ (v_M_isRun h a1) = 0 → ((p_M_blockOfTrip h a1) ∧ am_Ev m_M_aboutTrip (WM ++ e1) ro P (71, [.ref 0, .int a1, .int a2], [.int (v_M_blockOfTrip h a1)], h))))
          refine ⟨fun c6 => ?_, fun c6 => ?_⟩
          · skip
            simpa only [if_pos c6] using key5
          · have hp := hp.2 c6
            refine ⟨hp, ?_⟩
            simpa only [if_neg c6] using key5
        · have hp := hp.2 c4
          refine ⟨fun c7 => ?_, fun c7 => ?_⟩
          · have hp := hp.1 c7
            refine ⟨hp, ?_⟩
            refine am_Ev_G [] 400 _ ?_
            show P (.inl (some (.int (v_M_of h a1 5)))) h
            exact hP (v_M_of h a1 5) (by unfold v_M_aboutTrip; simp only [if_neg c1, if_neg c2, if_neg c3, if_neg c4, if_pos c7])
          · have hp := hp.2 c7
            refine ⟨hp, ?_⟩
            exact hP (v_M_of h a1 a2) (by unfold v_M_aboutTrip; simp only [if_neg c1, if_neg c2, if_neg c3, if_neg c4, if_neg c7])
theorem ok_M_aboutTrip {l : Launch} (hl : l.stackTraces = false) (e1 ro : List Sh) (k : Nat) : am_Ok l (WM ++ e1) ro (d_M_aboutTrip k) := by
  refine am_met hl (own := RX6) (M := m_M_aboutTrip) rfl pf_M_aboutTrip cu_M_aboutTrip rfl rfl rfl rfl (fun _ => rfl) rfl ⟨chk_M_aboutTrip, (am_n), (am_c (lk_M_49) (am_c (lk_M_53) (am_c (lk_M_57) (am_c (lk_M_60) (am_c (lk_M_64) (am_c (lk_M_197) am_n)))))), (am_n), (am_n)⟩ (am_n) (am_c (ok_M_of hl e1 _ 16) (am_c (ok_M_arrival hl e1 _ 16) (am_c (ok_M_next hl e1 _ 16) (am_c (ok_M_isRun hl e1 _ 16) (am_c (ok_M_before hl e1 _ 16) (am_c (ok_M_blockOfTrip hl e1 _ 16) am_n)))))) (fun z => nomatch z) ?_ ?_
  · intro _ as h hg
    show g_thr (g_M_aboutTrip (WM ++ e1) ro as h) = none
    unfold g_M_aboutTrip
    split <;> rfl
  · intro as h hg hp
    revert hg hp
    show g_ok (g_M_aboutTrip (WM ++ e1) ro as h) = true → g_pre (g_M_aboutTrip (WM ++ e1) ro as h) → _ ∧ am_Ev m_M_aboutTrip (WM ++ e1) ro (am_eq (g_M_aboutTrip (WM ++ e1) ro as h)) (0, am_ent as 3, [], h)
    unfold g_M_aboutTrip
    split
    · rename_i o1 a1 a2
      intro hc hp
      change (Nat.beq o1 0) = true at hc
      obtain rfl := am_beq hc
      exact ⟨Nat.le_of_ble_eq_true rfl, ev_M_aboutTrip h a1 a2 hp eqRI⟩
    · exact fun z => nomatch z
def k_M_tripOf (pc : Nat) : Ent := bif Nat.ble 44 pc then am_nop else bif Nat.ble 20 pc then (bif Nat.ble 31 pc then (bif Nat.ble 38 pc then (bif Nat.ble 40 pc then (bif Nat.ble 43 pc then (bif Nat.beq pc 43 then (.ireturn, 0, 0, []) else am_nop) else (bif Nat.beq pc 40 then (.invokevirtual 134, 0, 0, []) else am_nop)) else (bif Nat.ble 39 pc then (bif Nat.beq pc 39 then (.iconst 2, 2, 0, []) else am_nop) else (bif Nat.beq pc 38 then (.aload_n 0, 0, 0, []) else am_nop))) else (bif Nat.ble 32 pc then (bif Nat.ble 35 pc then (bif Nat.beq pc 35 then (.goto 8, 0, 43, []) else am_nop) else (bif Nat.beq pc 32 then (.invokevirtual 200, 0, 0, []) else am_nop)) else (bif Nat.beq pc 31 then (.iload_n 2, 0, 2, []) else am_nop))) else (bif Nat.ble 26 pc then (bif Nat.ble 29 pc then (bif Nat.ble 30 pc then (bif Nat.beq pc 30 then (.iload_n 1, 0, 1, []) else am_nop) else (bif Nat.beq pc 29 then (.aload_n 0, 0, 0, []) else am_nop)) else (bif Nat.beq pc 26 then (.ifCond .eq 12, 0, 38, []) else am_nop)) else (bif Nat.ble 21 pc then (bif Nat.ble 23 pc then (bif Nat.beq pc 23 then (.invokestatic 127, 0, 0, []) else am_nop) else (bif Nat.beq pc 21 then (.bipush 8, 8, 0, []) else am_nop)) else (bif Nat.beq pc 20 then (.iconst 0, 0, 0, []) else am_nop)))) else (bif Nat.ble 10 pc then (bif Nat.ble 15 pc then (bif Nat.ble 18 pc then (bif Nat.ble 19 pc then (bif Nat.beq pc 19 then (.iload_n 2, 0, 2, []) else am_nop) else (bif Nat.beq pc 18 then (.ireturn, 0, 0, []) else am_nop)) else (bif Nat.beq pc 15 then (.invokevirtual 134, 0, 0, []) else am_nop)) else (bif Nat.ble 13 pc then (bif Nat.ble 14 pc then (bif Nat.beq pc 14 then (.iconst 1, 1, 0, []) else am_nop) else (bif Nat.beq pc 13 then (.aload_n 0, 0, 0, []) else am_nop)) else (bif Nat.beq pc 10 then (.ifCond .ne 9, 0, 19, []) else am_nop))) else (bif Nat.ble 5 pc then (bif Nat.ble 6 pc then (bif Nat.ble 7 pc then (bif Nat.beq pc 7 then (.invokevirtual 148, 0, 0, []) else am_nop) else (bif Nat.beq pc 6 then (.iload_n 1, 0, 1, []) else am_nop)) else (bif Nat.beq pc 5 then (.aload_n 0, 0, 0, []) else am_nop)) else (bif Nat.ble 1 pc then (bif Nat.ble 2 pc then (bif Nat.beq pc 2 then (.putfield 38, 0, 0, []) else am_nop) else (bif Nat.beq pc 1 then (.iconst 0, 0, 0, []) else am_nop)) else (bif Nat.beq pc 0 then (.aload_n 0, 0, 0, []) else am_nop))))
theorem lk_M_200 : am_lnk RX6 200 (d_M_aboutTrip 16) := ⟨⟨by decide, by decide⟩, am_tb 8 (by decide +kernel) rfl, Or.inr ⟨by decide, rfl, am_tb 1155 (by decide +kernel) rfl, am_tp 101 (by decide +kernel) rfl, ⟨TX6, 16, rfl⟩, Or.inl (am_tb 1153 (by decide +kernel) rfl)⟩⟩
def m_M_tripOf : MI := (k_M_tripOf, [(38, 6, 8)], [(127, d_M_in 0), (134, d_M_refuses 16), (148, d_M_isTrip 16), (200, d_M_aboutTrip 16)], [], [], [], [], 6, 135, some .int, fun _ => 0, 1)
def v_M_tripOf (h : HP) (a1 : Int32) (a2 : Int32) : Int32 × HP := (if (v_M_isTrip (am_si h 0 8 0) a1) = 0 then (bnd (v_M_refuses (am_si h 0 8 0) 1) fun y2 => (y2.1, y2.2)) else (if (v_M_in (am_si h 0 8 0) a2 0 8) = 0 then (bnd (v_M_refuses (am_si h 0 8 0) 2) fun y1 => (y1.1, y1.2)) else ((v_M_aboutTrip (am_si h 0 8 0) a1 a2), (am_si h 0 8 0))))
def p_M_tripOf (h : HP) (a1 : Int32) (a2 : Int32) : Prop := ((p_M_isTrip (am_si h 0 8 0) a1) ∧ (((v_M_isTrip (am_si h 0 8 0) a1) = 0 → True) ∧ (¬ (v_M_isTrip (am_si h 0 8 0) a1) = 0 → (((v_M_in (am_si h 0 8 0) a2 0 8) = 0 → True) ∧ (¬ (v_M_in (am_si h 0 8 0) a2 0 8) = 0 → (p_M_aboutTrip (am_si h 0 8 0) a1 a2))))))
def g_M_tripOf (_ _ : List Sh) (as : List Value) (h : HP) : GR := match as with
  | [.ref o1, .int a1, .int a2] => (Nat.beq o1 0, p_M_tripOf h a1 a2, none, some (.int (v_M_tripOf h a1 a2).1), (v_M_tripOf h a1 a2).2)
  | _ => bad h
def d_M_tripOf (k : Nat) : CD := (k, yX6_tripOf, cX6_tripOf, 3, some .int, 3, 6, 135, 0, false, true, g_M_tripOf)
theorem chk_M_tripOf : ∀ pc, am_chk cX6_tripOf k_M_tripOf pc = true := am_chkall 44 (by decide +kernel) (fun pc h => by unfold k_M_tripOf; rw [Nat.ble_eq_true_of_le h]; rfl)
theorem pf_M_tripOf : plainFor yX6_tripOf = true := by decide +kernel
theorem cu_M_tripOf : Cond.code yX6_tripOf cX6_tripOf 3 (some .int) ∈ am_U := am_tb 1152 (by decide +kernel) rfl
set_option maxHeartbeats 20000000 in
set_option maxRecDepth 100000 in
theorem ev_M_tripOf {e1 ro : List Sh} {P : AR → HP → Prop} (h : HP) (a1 : Int32) (a2 : Int32) (hp : p_M_tripOf h a1 a2) (hP : ∀ q, v_M_tripOf h a1 a2 = q → RIW P h q) : am_Ev m_M_tripOf (WM ++ e1) ro P (0, [.ref 0, .int a1, .int a2], [], h) := by
  unfold p_M_tripOf at hp
  refine am_Ev_G [5] 400 _ ?_
  show am_Ev m_M_tripOf (WM ++ e1) ro P (5, [.ref 0, .int a1, .int a2], [], (am_si h 0 8 0))
  refine am_Ev_G [18, 35, 43] 400 _ ?_
  show ((p_M_isTrip (am_si h 0 8 0) a1) ∧ ((¬ (v_M_isTrip (am_si h 0 8 0) a1) = 0 → (((v_M_in (am_si h 0 8 0) a2 0 8) = 0 → am_Ev m_M_tripOf (WM ++ e1) ro P (43, [.ref 0, .int a1, .int a2], [.int ((v_M_refuses (am_si h 0 8 0) 2).1)], ((v_M_refuses (am_si h 0 8 0) 2).2))) ∧ (¬ (v_M_in (am_si h 0 8 0) a2 0 8) = 0 → ((p_M_aboutTrip (am_si h 0 8 0) a1 a2) ∧ am_Ev m_M_tripOf (WM ++ e1) ro P (35, [.ref 0, .int a1, .int a2], [.int (v_M_aboutTrip (am_si h 0 8 0) a1 a2)], (am_si h 0 8 0)))))) ∧ ((v_M_isTrip (am_si h 0 8 0) a1) = 0 → am_Ev m_M_tripOf (WM ++ e1) ro P (18, [.ref 0, .int a1, .int a2], [.int ((v_M_refuses (am_si h 0 8 0) 1).1)], ((v_M_refuses (am_si h 0 8 0) 1).2)))))
  obtain ⟨hob, hp⟩ := hp
  refine ⟨hob, ?_⟩
  refine ⟨fun c1 => ?_, fun c1 => ?_⟩
  · have hp := hp.2 c1
    refine ⟨fun c2 => ?_, fun c2 => ?_⟩
    · skip
      obtain ⟨y1, c3⟩ : ∃ y, v_M_refuses (am_si h 0 8 0) 2 = y := ⟨_, rfl⟩
      rw [c3]
      show am_Ev m_M_tripOf (WM ++ e1) ro P (43, [.ref 0, .int a1, .int a2], [.int y1.1], y1.2)
      refine am_Ev_G [] 400 _ ?_
      show P (.inl (some (.int y1.1))) y1.2
      exact hP (y1.1, y1.2) (by unfold v_M_tripOf; simp only [if_neg c1, if_pos c2, bnd, c3])
    · have hp := hp.2 c2
      refine ⟨hp, ?_⟩
      refine am_Ev_G [43] 400 _ ?_
      show am_Ev m_M_tripOf (WM ++ e1) ro P (43, [.ref 0, .int a1, .int a2], [.int (v_M_aboutTrip (am_si h 0 8 0) a1 a2)], (am_si h 0 8 0))
      refine am_Ev_G [] 400 _ ?_
      show P (.inl (some (.int (v_M_aboutTrip (am_si h 0 8 0) a1 a2)))) (am_si h 0 8 0)
      exact hP ((v_M_aboutTrip (am_si h 0 8 0) a1 a2), (am_si h 0 8 0)) (by unfold v_M_tripOf; simp only [if_neg c1, if_neg c2])
  · skip
    obtain ⟨y2, c4⟩ : ∃ y, v_M_refuses (am_si h 0 8 0) 1 = y := ⟨_, rfl⟩
    rw [c4]
    show am_Ev m_M_tripOf (WM ++ e1) ro P (18, [.ref 0, .int a1, .int a2], [.int y2.1], y2.2)
    refine am_Ev_G [] 400 _ ?_
    show P (.inl (some (.int y2.1))) y2.2
    exact hP (y2.1, y2.2) (by unfold v_M_tripOf; simp only [if_pos c1, bnd, c4])
theorem ok_M_tripOf {l : Launch} (hl : l.stackTraces = false) (e1 ro : List Sh) (k : Nat) : am_Ok l (WM ++ e1) ro (d_M_tripOf k) := by
  refine am_met hl (own := RX6) (M := m_M_tripOf) rfl pf_M_tripOf cu_M_tripOf rfl rfl rfl rfl (fun _ => rfl) rfl ⟨chk_M_tripOf, (am_c (fl_M_38) am_n), (am_c (lk_M_127) (am_c (lk_M_134) (am_c (lk_M_148) (am_c (lk_M_200) am_n)))), (am_n), (am_n)⟩ (am_n) (am_c (ok_M_in hl e1 _ 0) (am_c (ok_M_refuses hl e1 _ 16) (am_c (ok_M_isTrip hl e1 _ 16) (am_c (ok_M_aboutTrip hl e1 _ 16) am_n)))) (fun z => nomatch z) ?_ ?_
  · intro _ as h hg
    show g_thr (g_M_tripOf (WM ++ e1) ro as h) = none
    unfold g_M_tripOf
    split <;> rfl
  · intro as h hg hp
    revert hg hp
    show g_ok (g_M_tripOf (WM ++ e1) ro as h) = true → g_pre (g_M_tripOf (WM ++ e1) ro as h) → _ ∧ am_Ev m_M_tripOf (WM ++ e1) ro (am_eq (g_M_tripOf (WM ++ e1) ro as h)) (0, am_ent as 3, [], h)
    unfold g_M_tripOf
    split
    · rename_i o1 a1 a2
      intro hc hp
      change (Nat.beq o1 0) = true at hc
      obtain rfl := am_beq hc
      exact ⟨Nat.le_of_ble_eq_true rfl, ev_M_tripOf h a1 a2 hp eqRIW⟩
    · exact fun z => nomatch z
end
