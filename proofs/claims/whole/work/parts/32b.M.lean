/-! BusBlocksModel, out of its code (written by gen/meth.py). -/
noncomputable section
def k_M_part (pc : Nat) : Ent := bif Nat.ble 54 pc then am_nop else bif Nat.ble 28 pc then (bif Nat.ble 40 pc then (bif Nat.ble 46 pc then (bif Nat.ble 49 pc then (bif Nat.ble 52 pc then (bif Nat.ble 53 pc then (bif Nat.beq pc 53 then (.ireturn, 0, 0, []) else am_nop) else (bif Nat.beq pc 52 then (.iload_n 2, 0, 2, []) else am_nop)) else (bif Nat.beq pc 49 then (.invokevirtual 82, 0, 0, []) else am_nop)) else (bif Nat.ble 48 pc then (bif Nat.beq pc 48 then (.iconst (-1), (-1 : Int32), 0, []) else am_nop) else (bif Nat.beq pc 46 then (.bipush 6, 6, 0, []) else am_nop))) else (bif Nat.ble 44 pc then (bif Nat.ble 45 pc then (bif Nat.beq pc 45 then (.iload_n 1, 0, 1, []) else am_nop) else (bif Nat.beq pc 44 then (.aload_n 0, 0, 0, []) else am_nop)) else (bif Nat.ble 43 pc then (bif Nat.beq pc 43 then (.istore_n 2, 0, 2, []) else am_nop) else (bif Nat.beq pc 40 then (.invokevirtual 57, 0, 0, []) else am_nop)))) else (bif Nat.ble 34 pc then (bif Nat.ble 38 pc then (bif Nat.ble 39 pc then (bif Nat.beq pc 39 then (.iload_n 1, 0, 1, []) else am_nop) else (bif Nat.beq pc 38 then (.aload_n 0, 0, 0, []) else am_nop)) else (bif Nat.ble 35 pc then (bif Nat.beq pc 35 then (.invokevirtual 137, 0, 0, []) else am_nop) else (bif Nat.beq pc 34 then (.aload_n 0, 0, 0, []) else am_nop))) else (bif Nat.ble 30 pc then (bif Nat.ble 33 pc then (bif Nat.beq pc 33 then (.ireturn, 0, 0, []) else am_nop) else (bif Nat.beq pc 30 then (.invokevirtual 134, 0, 0, []) else am_nop)) else (bif Nat.ble 29 pc then (bif Nat.beq pc 29 then (.iconst 2, 2, 0, []) else am_nop) else (bif Nat.beq pc 28 then (.aload_n 0, 0, 0, []) else am_nop))))) else (bif Nat.ble 14 pc then (bif Nat.ble 20 pc then (bif Nat.ble 24 pc then (bif Nat.ble 25 pc then (bif Nat.beq pc 25 then (.if_icmp .ne 9, 0, 34, []) else am_nop) else (bif Nat.beq pc 24 then (.iconst (-1), (-1 : Int32), 0, []) else am_nop)) else (bif Nat.ble 21 pc then (bif Nat.beq pc 21 then (.invokevirtual 57, 0, 0, []) else am_nop) else (bif Nat.beq pc 20 then (.iload_n 1, 0, 1, []) else am_nop))) else (bif Nat.ble 18 pc then (bif Nat.ble 19 pc then (bif Nat.beq pc 19 then (.aload_n 0, 0, 0, []) else am_nop) else (bif Nat.beq pc 18 then (.ireturn, 0, 0, []) else am_nop)) else (bif Nat.ble 15 pc then (bif Nat.beq pc 15 then (.invokevirtual 134, 0, 0, []) else am_nop) else (bif Nat.beq pc 14 then (.iconst 1, 1, 0, []) else am_nop)))) else (bif Nat.ble 6 pc then (bif Nat.ble 10 pc then (bif Nat.ble 13 pc then (bif Nat.beq pc 13 then (.aload_n 0, 0, 0, []) else am_nop) else (bif Nat.beq pc 10 then (.ifCond .ne 9, 0, 19, []) else am_nop)) else (bif Nat.ble 7 pc then (bif Nat.beq pc 7 then (.invokevirtual 148, 0, 0, []) else am_nop) else (bif Nat.beq pc 6 then (.iload_n 1, 0, 1, []) else am_nop))) else (bif Nat.ble 2 pc then (bif Nat.ble 5 pc then (bif Nat.beq pc 5 then (.aload_n 0, 0, 0, []) else am_nop) else (bif Nat.beq pc 2 then (.putfield 38, 0, 0, []) else am_nop)) else (bif Nat.ble 1 pc then (bif Nat.beq pc 1 then (.iconst 0, 0, 0, []) else am_nop) else (bif Nat.beq pc 0 then (.aload_n 0, 0, 0, []) else am_nop)))))
def m_M_part : MI := (k_M_part, [(38, 6, 8)], [(57, d_M_next 16), (82, d_M_becomes 16), (134, d_M_refuses 16), (137, d_M_saves 16), (148, d_M_isTrip 16)], [], [], [], [], 2, 45, some .int, fun _ => 0, 1)
def v_M_part (h : HP) (a1 : Int32) : Int32 × HP := (if (v_M_isTrip (am_si h 0 8 0) a1) = 0 then (bnd (v_M_refuses (am_si h 0 8 0) 1) fun y4 => (y4.1, y4.2)) else (if (v_M_next (am_si h 0 8 0) a1) = (-1 : Int32) then (bnd (v_M_refuses (am_si h 0 8 0) 2) fun y3 => (y3.1, y3.2)) else (bnd (v_M_saves (am_si h 0 8 0)) fun y1 => (bnd (v_M_becomes y1 a1 6 (-1 : Int32)) fun y2 => ((v_M_next y1 a1), y2)))))
def p_M_part (h : HP) (a1 : Int32) : Prop := ((p_M_isTrip (am_si h 0 8 0) a1) ∧ (((v_M_isTrip (am_si h 0 8 0) a1) = 0 → True) ∧ (¬ (v_M_isTrip (am_si h 0 8 0) a1) = 0 → ((p_M_next (am_si h 0 8 0) a1) ∧ (((v_M_next (am_si h 0 8 0) a1) = (-1 : Int32) → True) ∧ (¬ (v_M_next (am_si h 0 8 0) a1) = (-1 : Int32) → ((p_M_saves (am_si h 0 8 0)) ∧ (∀ y1, v_M_saves (am_si h 0 8 0) = y1 → ((p_M_next y1 a1) ∧ (p_M_becomes y1 a1 6 (-1 : Int32)))))))))))
def g_M_part (_ _ : List Sh) (as : List Value) (h : HP) : GR := match as with
  | [.ref o1, .int a1] => (Nat.beq o1 0, p_M_part h a1, none, some (.int (v_M_part h a1).1), (v_M_part h a1).2)
  | _ => bad h
def d_M_part (k : Nat) : CD := (k, yX6_part, cX6_part, 3, some .int, 2, 2, 45, 0, false, true, g_M_part)
theorem chk_M_part : ∀ pc, am_chk cX6_part k_M_part pc = true := am_chkall 54 (by decide +kernel) (fun pc h => by unfold k_M_part; rw [Nat.ble_eq_true_of_le h]; rfl)
theorem pf_M_part : plainFor yX6_part = true := by decide +kernel
theorem cu_M_part : Cond.code yX6_part cX6_part 3 (some .int) ∈ am_U := am_tb 1032 (by decide +kernel) rfl
set_option maxHeartbeats 20000000 in
set_option maxRecDepth 100000 in
theorem ev_M_part {e1 ro : List Sh} {P : AR → HP → Prop} (h : HP) (a1 : Int32) (hp : p_M_part h a1) (hP : ∀ q, v_M_part h a1 = q → RIW P h q) : am_Ev m_M_part (WM ++ e1) ro P (0, [.ref 0, .int a1, .retAddr 0], [], h) := by
  unfold p_M_part at hp
  refine am_Ev_G [5] 400 _ ?_
  show am_Ev m_M_part (WM ++ e1) ro P (5, [.ref 0, .int a1, .retAddr 0], [], (am_si h 0 8 0))
  refine am_Ev_G [18, 33, 38] 400 _ ?_
  show ((p_M_isTrip (am_si h 0 8 0) a1) ∧ ((¬ (v_M_isTrip (am_si h 0 8 0) a1) = 0 → ((p_M_next (am_si h 0 8 0) a1) ∧ ((¬ (v_M_next (am_si h 0 8 0) a1) = (-1 : Int32) → ((g_pre (g_M_saves (WM ++ e1) ro [.ref 0] (am_si h 0 8 0))) ∧ am_Ev m_M_part (WM ++ e1) ro P (38, [.ref 0, .int a1, .retAddr 0], [], (g_hp (g_M_saves (WM ++ e1) ro [.ref 0] (am_si h 0 8 0)))))) ∧ ((v_M_next (am_si h 0 8 0) a1) = (-1 : Int32) → am_Ev m_M_part (WM ++ e1) ro P (33, [.ref 0, .int a1, .retAddr 0], [.int ((v_M_refuses (am_si h 0 8 0) 2).1)], ((v_M_refuses (am_si h 0 8 0) 2).2)))))) ∧ ((v_M_isTrip (am_si h 0 8 0) a1) = 0 → am_Ev m_M_part (WM ++ e1) ro P (18, [.ref 0, .int a1, .retAddr 0], [.int ((v_M_refuses (am_si h 0 8 0) 1).1)], ((v_M_refuses (am_si h 0 8 0) 1).2)))))
  show ((p_M_isTrip (am_si h 0 8 0) a1) ∧ ((¬ (v_M_isTrip (am_si h 0 8 0) a1) = 0 → ((p_M_next (am_si h 0 8 0) a1) ∧ ((¬ (v_M_next (am_si h 0 8 0) a1) = (-1 : Int32) → ((p_M_saves (am_si h 0 8 0)) ∧ am_Ev m_M_part (WM ++ e1) ro P (38, [.ref 0, .int a1, .retAddr 0], [], (v_M_saves (am_si h 0 8 0))))) ∧ ((v_M_next (am_si h 0 8 0) a1) = (-1 : Int32) → am_Ev m_M_part (WM ++ e1) ro P (33, [.ref 0, .int a1, .retAddr 0], [.int ((v_M_refuses (am_si h 0 8 0) 2).1)], ((v_M_refuses (am_si h 0 8 0) 2).2)))))) ∧ ((v_M_isTrip (am_si h 0 8 0) a1) = 0 → am_Ev m_M_part (WM ++ e1) ro P (18, [.ref 0, .int a1, .retAddr 0], [.int ((v_M_refuses (am_si h 0 8 0) 1).1)], ((v_M_refuses (am_si h 0 8 0) 1).2)))))
  obtain ⟨hob, hp⟩ := hp
  refine ⟨hob, ?_⟩
  refine ⟨fun c1 => ?_, fun c1 => ?_⟩
  · have hp := hp.2 c1
    obtain ⟨hob, hp⟩ := hp
    refine ⟨hob, ?_⟩
    refine ⟨fun c2 => ?_, fun c2 => ?_⟩
    · have hp := hp.2 c2
      obtain ⟨hob, hp⟩ := hp
      refine ⟨hob, ?_⟩
      obtain ⟨y1, c3⟩ : ∃ y, v_M_saves (am_si h 0 8 0) = y := ⟨_, rfl⟩
      rw [c3]
      have hp := hp _ c3
      show am_Ev m_M_part (WM ++ e1) ro P (38, [.ref 0, .int a1, .retAddr 0], [], y1)
      refine am_Ev_G [52] 400 _ ?_
      show ((p_M_next y1 a1) ∧ ((p_M_becomes y1 a1 6 (-1 : Int32)) ∧ am_Ev m_M_part (WM ++ e1) ro P (52, [.ref 0, .int a1, .int (v_M_next y1 a1)], [], (v_M_becomes y1 a1 6 (-1 : Int32)))))
      obtain ⟨hob, hp⟩ := hp
      refine ⟨hob, ?_⟩
      refine ⟨hp, ?_⟩
      obtain ⟨y2, c4⟩ : ∃ y, v_M_becomes y1 a1 6 (-1 : Int32) = y := ⟨_, rfl⟩
      rw [c4]
      show am_Ev m_M_part (WM ++ e1) ro P (52, [.ref 0, .int a1, .int (v_M_next y1 a1)], [], y2)
      refine am_Ev_G [] 400 _ ?_
      show P (.inl (some (.int (v_M_next y1 a1)))) y2
      exact hP ((v_M_next y1 a1), y2) (by unfold v_M_part; simp only [if_neg c1, if_neg c2, bnd, c3, bnd, c4])
    · skip
      obtain ⟨y3, c5⟩ : ∃ y, v_M_refuses (am_si h 0 8 0) 2 = y := ⟨_, rfl⟩
      rw [c5]
      show am_Ev m_M_part (WM ++ e1) ro P (33, [.ref 0, .int a1, .retAddr 0], [.int y3.1], y3.2)
      refine am_Ev_G [] 400 _ ?_
      show P (.inl (some (.int y3.1))) y3.2
      exact hP (y3.1, y3.2) (by unfold v_M_part; simp only [if_neg c1, if_pos c2, bnd, c5])
  · skip
    obtain ⟨y4, c6⟩ : ∃ y, v_M_refuses (am_si h 0 8 0) 1 = y := ⟨_, rfl⟩
    rw [c6]
    show am_Ev m_M_part (WM ++ e1) ro P (18, [.ref 0, .int a1, .retAddr 0], [.int y4.1], y4.2)
    refine am_Ev_G [] 400 _ ?_
    show P (.inl (some (.int y4.1))) y4.2
    exact hP (y4.1, y4.2) (by unfold v_M_part; simp only [if_pos c1, bnd, c6])
theorem ok_M_part {l : Launch} (hl : l.stackTraces = false) (e1 ro : List Sh) (k : Nat) : am_Ok l (WM ++ e1) ro (d_M_part k) := by
  refine am_met hl (own := RX6) (M := m_M_part) rfl pf_M_part cu_M_part rfl rfl rfl rfl (fun _ => rfl) rfl ⟨chk_M_part, (am_c (fl_M_38) am_n), (am_c (lk_M_57) (am_c (lk_M_82) (am_c (lk_M_134) (am_c (lk_M_137) (am_c (lk_M_148) am_n))))), (am_n), (am_n)⟩ (am_n) (am_c (ok_M_next hl e1 _ 16) (am_c (ok_M_becomes hl e1 _ 16) (am_c (ok_M_refuses hl e1 _ 16) (am_c (ok_M_saves hl e1 _ 16) (am_c (ok_M_isTrip hl e1 _ 16) am_n))))) (fun z => nomatch z) ?_ ?_
  · intro _ as h hg
    show g_thr (g_M_part (WM ++ e1) ro as h) = none
    unfold g_M_part
    split <;> rfl
  · intro as h hg hp
    revert hg hp
    show g_ok (g_M_part (WM ++ e1) ro as h) = true → g_pre (g_M_part (WM ++ e1) ro as h) → _ ∧ am_Ev m_M_part (WM ++ e1) ro (am_eq (g_M_part (WM ++ e1) ro as h)) (0, am_ent as 3, [], h)
    unfold g_M_part
    split
    · rename_i o1 a1
      intro hc hp
      change (Nat.beq o1 0) = true at hc
      obtain rfl := am_beq hc
      exact ⟨Nat.le_of_ble_eq_true rfl, ev_M_part h a1 hp eqRIW⟩
    · exact fun z => nomatch z
def k_M_blockAll (pc : Nat) : Ent := bif Nat.ble 14 pc then am_nop else bif Nat.ble 6 pc then (bif Nat.ble 10 pc then (bif Nat.ble 13 pc then (bif Nat.beq pc 13 then (.ireturn, 0, 0, []) else am_nop) else (bif Nat.beq pc 10 then (.invokevirtual 96, 0, 0, []) else am_nop)) else (bif Nat.ble 9 pc then (bif Nat.beq pc 9 then (.aload_n 0, 0, 0, []) else am_nop) else (bif Nat.beq pc 6 then (.invokevirtual 137, 0, 0, []) else am_nop))) else (bif Nat.ble 2 pc then (bif Nat.ble 5 pc then (bif Nat.beq pc 5 then (.aload_n 0, 0, 0, []) else am_nop) else (bif Nat.beq pc 2 then (.putfield 38, 0, 0, []) else am_nop)) else (bif Nat.ble 1 pc then (bif Nat.beq pc 1 then (.iconst 0, 0, 0, []) else am_nop) else (bif Nat.beq pc 0 then (.aload_n 0, 0, 0, []) else am_nop)))
def m_M_blockAll : MI := (k_M_blockAll, [(38, 6, 8)], [(96, d_M_blocksAll 16), (137, d_M_saves 16)], [], [], [], [], 6, 134, some .int, fun _ => 0, 1)
def v_M_blockAll (h : HP) : Int32 × HP := (bnd (v_M_saves (am_si h 0 8 0)) fun y1 => (bnd (v_M_blocksAll y1) fun y2 => (y2.1, y2.2)))
def p_M_blockAll (h : HP) : Prop := ((p_M_saves (am_si h 0 8 0)) ∧ (∀ y1, v_M_saves (am_si h 0 8 0) = y1 → (p_M_blocksAll y1)))
def g_M_blockAll (_ _ : List Sh) (as : List Value) (h : HP) : GR := match as with
  | [.ref o1] => (Nat.beq o1 0, p_M_blockAll h, none, some (.int (v_M_blockAll h).1), (v_M_blockAll h).2)
  | _ => bad h
def d_M_blockAll (k : Nat) : CD := (k, yX6_blockAll, cX6_blockAll, 1, some .int, 1, 6, 134, 0, false, true, g_M_blockAll)
theorem chk_M_blockAll : ∀ pc, am_chk cX6_blockAll k_M_blockAll pc = true := am_chkall 14 (by decide +kernel) (fun pc h => by unfold k_M_blockAll; rw [Nat.ble_eq_true_of_le h]; rfl)
theorem pf_M_blockAll : plainFor yX6_blockAll = true := by decide +kernel
theorem cu_M_blockAll : Cond.code yX6_blockAll cX6_blockAll 1 (some .int) ∈ am_U := am_tb 1036 (by decide +kernel) rfl
set_option maxHeartbeats 20000000 in
set_option maxRecDepth 100000 in
theorem ev_M_blockAll {e1 ro : List Sh} {P : AR → HP → Prop} (h : HP) (hp : p_M_blockAll h) (hP : ∀ q, v_M_blockAll h = q → RIW P h q) : am_Ev m_M_blockAll (WM ++ e1) ro P (0, [.ref 0], [], h) := by
  unfold p_M_blockAll at hp
  refine am_Ev_G [5] 400 _ ?_
  show am_Ev m_M_blockAll (WM ++ e1) ro P (5, [.ref 0], [], (am_si h 0 8 0))
  refine am_Ev_G [9] 400 _ ?_
  show ((g_pre (g_M_saves (WM ++ e1) ro [.ref 0] (am_si h 0 8 0))) ∧ am_Ev m_M_blockAll (WM ++ e1) ro P (9, [.ref 0], [], (g_hp (g_M_saves (WM ++ e1) ro [.ref 0] (am_si h 0 8 0)))))
  show ((p_M_saves (am_si h 0 8 0)) ∧ am_Ev m_M_blockAll (WM ++ e1) ro P (9, [.ref 0], [], (v_M_saves (am_si h 0 8 0))))
  obtain ⟨hob, hp⟩ := hp
  refine ⟨hob, ?_⟩
  obtain ⟨y1, c1⟩ : ∃ y, v_M_saves (am_si h 0 8 0) = y := ⟨_, rfl⟩
  rw [c1]
  have hp := hp _ c1
  show am_Ev m_M_blockAll (WM ++ e1) ro P (9, [.ref 0], [], y1)
  refine am_Ev_G [13] 400 _ ?_
  show ((p_M_blocksAll y1) ∧ am_Ev m_M_blockAll (WM ++ e1) ro P (13, [.ref 0], [.int ((v_M_blocksAll y1).1)], ((v_M_blocksAll y1).2)))
  refine ⟨hp, ?_⟩
  obtain ⟨y2, c2⟩ : ∃ y, v_M_blocksAll y1 = y := ⟨_, rfl⟩
  rw [c2]
  show am_Ev m_M_blockAll (WM ++ e1) ro P (13, [.ref 0], [.int y2.1], y2.2)
  refine am_Ev_G [] 400 _ ?_
  show P (.inl (some (.int y2.1))) y2.2
  exact hP (y2.1, y2.2) (by unfold v_M_blockAll; simp only [bnd, c1, bnd, c2])
theorem ok_M_blockAll {l : Launch} (hl : l.stackTraces = false) (e1 ro : List Sh) (k : Nat) : am_Ok l (WM ++ e1) ro (d_M_blockAll k) := by
  refine am_met hl (own := RX6) (M := m_M_blockAll) rfl pf_M_blockAll cu_M_blockAll rfl rfl rfl rfl (fun _ => rfl) rfl ⟨chk_M_blockAll, (am_c (fl_M_38) am_n), (am_c (lk_M_96) (am_c (lk_M_137) am_n)), (am_n), (am_n)⟩ (am_n) (am_c (ok_M_blocksAll hl e1 _ 16) (am_c (ok_M_saves hl e1 _ 16) am_n)) (fun z => nomatch z) ?_ ?_
  · intro _ as h hg
    show g_thr (g_M_blockAll (WM ++ e1) ro as h) = none
    unfold g_M_blockAll
    split <;> rfl
  · intro as h hg hp
    revert hg hp
    show g_ok (g_M_blockAll (WM ++ e1) ro as h) = true → g_pre (g_M_blockAll (WM ++ e1) ro as h) → _ ∧ am_Ev m_M_blockAll (WM ++ e1) ro (am_eq (g_M_blockAll (WM ++ e1) ro as h)) (0, am_ent as 1, [], h)
    unfold g_M_blockAll
    split
    · rename_i o1
      intro hc hp
      change (Nat.beq o1 0) = true at hc
      obtain rfl := am_beq hc
      exact ⟨Nat.le_of_ble_eq_true rfl, ev_M_blockAll h hp eqRIW⟩
    · exact fun z => nomatch z
def k_M_spares (pc : Nat) : Ent := bif Nat.ble 26 pc then am_nop else bif Nat.ble 14 pc then (bif Nat.ble 20 pc then (bif Nat.ble 24 pc then (bif Nat.ble 25 pc then (bif Nat.beq pc 25 then (.ireturn, 0, 0, []) else am_nop) else (bif Nat.beq pc 24 then (.iload_n 1, 0, 1, []) else am_nop)) else (bif Nat.ble 21 pc then (bif Nat.beq pc 21 then (.goto 4, 0, 25, []) else am_nop) else (bif Nat.beq pc 20 then (.iconst 0, 0, 0, []) else am_nop))) else (bif Nat.ble 16 pc then (bif Nat.ble 17 pc then (bif Nat.beq pc 17 then (.ifCond .ge 7, 0, 24, []) else am_nop) else (bif Nat.beq pc 16 then (.iload_n 1, 0, 1, []) else am_nop)) else (bif Nat.ble 15 pc then (bif Nat.beq pc 15 then (.istore_n 1, 0, 1, []) else am_nop) else (bif Nat.beq pc 14 then (.isub, 0, 0, []) else am_nop)))) else (bif Nat.ble 7 pc then (bif Nat.ble 11 pc then (bif Nat.ble 13 pc then (bif Nat.beq pc 13 then (.iaload, 0, 0, []) else am_nop) else (bif Nat.beq pc 11 then (.bipush 12, 12, 0, []) else am_nop)) else (bif Nat.ble 8 pc then (bif Nat.beq pc 8 then (.getfield 7, 0, 0, []) else am_nop) else (bif Nat.beq pc 7 then (.aload_n 0, 0, 0, []) else am_nop))) else (bif Nat.ble 4 pc then (bif Nat.ble 6 pc then (bif Nat.beq pc 6 then (.iaload, 0, 0, []) else am_nop) else (bif Nat.beq pc 4 then (.bipush 10, 10, 0, []) else am_nop)) else (bif Nat.ble 1 pc then (bif Nat.beq pc 1 then (.getfield 7, 0, 0, []) else am_nop) else (bif Nat.beq pc 0 then (.aload_n 0, 0, 0, []) else am_nop))))
def m_M_spares : MI := (k_M_spares, [(7, 6, 0)], [], [], [], [], [], 0, 0, some .int, fun _ => 0, 1)
def v_M_spares (h : HP) : Int32 := (if ((h.1 1 (am_ix 10)) - (h.1 1 (am_ix 12))) < 0 then (0 : Int32) else ((h.1 1 (am_ix 10)) - (h.1 1 (am_ix 12))))
def g_M_spares (_ _ : List Sh) (as : List Value) (h : HP) : GR := match as with
  | [.ref o1] => (Nat.beq o1 0, True, none, some (.int (v_M_spares h)), h)
  | _ => bad h
def d_M_spares (k : Nat) : CD := (k, yX6_spares, cX6_spares, 2, some .int, 1, 0, 0, 0, false, false, g_M_spares)
theorem chk_M_spares : ∀ pc, am_chk cX6_spares k_M_spares pc = true := am_chkall 26 (by decide +kernel) (fun pc h => by unfold k_M_spares; rw [Nat.ble_eq_true_of_le h]; rfl)
theorem pf_M_spares : plainFor yX6_spares = true := by decide +kernel
theorem cu_M_spares : Cond.code yX6_spares cX6_spares 2 (some .int) ∈ am_U := am_tb 1068 (by decide +kernel) rfl
set_option maxHeartbeats 20000000 in
set_option maxRecDepth 100000 in
theorem ev_M_spares {e1 ro : List Sh} {P : AR → HP → Prop} (h : HP) (hP : ∀ q, v_M_spares h = q → RI P h q) : am_Ev m_M_spares (WM ++ e1) ro P (0, [.ref 0, .retAddr 0], [], h) := by
  refine am_Ev_G [17] 400 _ ?_
  show ((am_in 10 163) ∧ ((am_in 12 163) ∧ am_Ev m_M_spares (WM ++ e1) ro P (17, [.ref 0, .int ((h.1 1 (am_ix 10)) - (h.1 1 (am_ix 12)))], [.int ((h.1 1 (am_ix 10)) - (h.1 1 (am_ix 12)))], h)))
  refine ⟨⟨by decide, by decide⟩, ?_⟩
  refine ⟨⟨by decide, by decide⟩, ?_⟩
  have key1 : am_Ev m_M_spares (WM ++ e1) ro P (25, [.ref 0, .int ((h.1 1 (am_ix 10)) - (h.1 1 (am_ix 12)))], [.int (if ((h.1 1 (am_ix 10)) - (h.1 1 (am_ix 12))) < 0 then (0 : Int32) else ((h.1 1 (am_ix 10)) - (h.1 1 (am_ix 12))))], h) := by
    refine am_Ev_G [] 400 _ ?_
    show P (.inl (some (.int (if ((h.1 1 (am_ix 10)) - (h.1 1 (am_ix 12))) < 0 then (0 : Int32) else ((h.1 1 (am_ix 10)) - (h.1 1 (am_ix 12))))))) h
    exact hP (if ((h.1 1 (am_ix 10)) - (h.1 1 (am_ix 12))) < 0 then (0 : Int32) else ((h.1 1 (am_ix 10)) - (h.1 1 (am_ix 12)))) rfl
  refine am_Ev_G [25] 400 _ ?_
  show ((¬ ((h.1 1 (am_ix 10)) - (h.1 1 (am_ix 12))) < 0 → am_Ev m_M_spares (WM ++ e1) ro P (25, [.ref 0, .int ((h.1 1 (am_ix 10)) - (h.1 1 (am_ix 12)))], [.int ((h.1 1 (am_ix 10)) - (h.1 1 (am_ix 12)))], h)) ∧ (((h.1 1 (am_ix 10)) - (h.1 1 (am_ix 12))) < 0 → am_Ev m_M_spares (WM ++ e1) ro P (25, [.ref 0, .int ((h.1 1 (am_ix 10)) - (h.1 1 (am_ix 12)))], [.int 0], h)))
  refine ⟨fun c2 => ?_, fun c2 => ?_⟩
  · skip
    simpa only [if_neg c2] using key1
  · skip
    simpa only [if_pos c2] using key1
theorem ok_M_spares {l : Launch} (hl : l.stackTraces = false) (e1 ro : List Sh) (k : Nat) : am_Ok l (WM ++ e1) ro (d_M_spares k) := by
  refine am_met hl (own := RX6) (M := m_M_spares) rfl pf_M_spares cu_M_spares rfl rfl rfl rfl (fun _ => rfl) rfl ⟨chk_M_spares, (am_c (fl_M_7) am_n), (am_n), (am_n), (am_n)⟩ (am_n) (am_n) ?_ ?_ ?_
  · intro _ as h hg
    show g_pre (g_M_spares (WM ++ e1) ro as h)
    unfold g_M_spares
    split <;> exact trivial
  · intro _ as h hg
    show g_thr (g_M_spares (WM ++ e1) ro as h) = none
    unfold g_M_spares
    split <;> rfl
  · intro as h hg hp
    revert hg hp
    show g_ok (g_M_spares (WM ++ e1) ro as h) = true → g_pre (g_M_spares (WM ++ e1) ro as h) → _ ∧ am_Ev m_M_spares (WM ++ e1) ro (am_eq (g_M_spares (WM ++ e1) ro as h)) (0, am_ent as 2, [], h)
    unfold g_M_spares
    split
    · rename_i o1
      intro hc hp
      change (Nat.beq o1 0) = true at hc
      obtain rfl := am_beq hc
      exact ⟨Nat.le_of_ble_eq_true rfl, ev_M_spares h eqRI⟩
    · exact fun z => nomatch z
end
