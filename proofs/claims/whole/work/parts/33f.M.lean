/-! BusBlocksModel, out of its code (written by gen/meth.py). -/
noncomputable section
def k_M_setting (pc : Nat) : Ent := bif Nat.ble 32 pc then am_nop else bif Nat.ble 15 pc then (bif Nat.ble 23 pc then (bif Nat.ble 27 pc then (bif Nat.ble 28 pc then (bif Nat.ble 31 pc then (bif Nat.beq pc 31 then (.ireturn, 0, 0, []) else am_nop) else (bif Nat.beq pc 28 then (.invokevirtual 134, 0, 0, []) else am_nop)) else (bif Nat.beq pc 27 then (.iconst 1, 1, 0, []) else am_nop)) else (bif Nat.ble 26 pc then (bif Nat.beq pc 26 then (.aload_n 0, 0, 0, []) else am_nop) else (bif Nat.beq pc 23 then (.goto 8, 0, 31, []) else am_nop))) else (bif Nat.ble 20 pc then (bif Nat.ble 21 pc then (bif Nat.ble 22 pc then (bif Nat.beq pc 22 then (.iaload, 0, 0, []) else am_nop) else (bif Nat.beq pc 21 then (.iadd, 0, 0, []) else am_nop)) else (bif Nat.beq pc 20 then (.iload_n 1, 0, 1, []) else am_nop)) else (bif Nat.ble 18 pc then (bif Nat.beq pc 18 then (.bipush 8, 8, 0, []) else am_nop) else (bif Nat.beq pc 15 then (.getfield 7, 0, 0, []) else am_nop)))) else (bif Nat.ble 6 pc then (bif Nat.ble 8 pc then (bif Nat.ble 11 pc then (bif Nat.ble 14 pc then (bif Nat.beq pc 14 then (.aload_n 0, 0, 0, []) else am_nop) else (bif Nat.beq pc 11 then (.ifCond .eq 15, 0, 26, []) else am_nop)) else (bif Nat.beq pc 8 then (.invokestatic 127, 0, 0, []) else am_nop)) else (bif Nat.ble 7 pc then (bif Nat.beq pc 7 then (.iconst 3, 3, 0, []) else am_nop) else (bif Nat.beq pc 6 then (.iconst 0, 0, 0, []) else am_nop))) else (bif Nat.ble 2 pc then (bif Nat.ble 5 pc then (bif Nat.beq pc 5 then (.iload_n 1, 0, 1, []) else am_nop) else (bif Nat.beq pc 2 then (.putfield 38, 0, 0, []) else am_nop)) else (bif Nat.ble 1 pc then (bif Nat.beq pc 1 then (.iconst 0, 0, 0, []) else am_nop) else (bif Nat.beq pc 0 then (.aload_n 0, 0, 0, []) else am_nop))))
def m_M_setting : MI := (k_M_setting, [(7, 6, 0), (38, 6, 8)], [(127, d_M_in 0), (134, d_M_refuses 16)], [], [], [], [], 1, 22, some .int, fun _ => 0, 1)
def v_M_setting (h : HP) (a1 : Int32) : Int32 × HP := (if (v_M_in (am_si h 0 8 0) a1 0 3) = 0 then (bnd (v_M_refuses (am_si h 0 8 0) 1) fun y1 => (y1.1, y1.2)) else ((am_si h 0 8 0).1 1 (am_ix (8 + a1)), (am_si h 0 8 0)))
def p_M_setting (h : HP) (a1 : Int32) : Prop := (((v_M_in (am_si h 0 8 0) a1 0 3) = 0 → True) ∧ (¬ (v_M_in (am_si h 0 8 0) a1 0 3) = 0 → (am_in (8 + a1) 163)))
def g_M_setting (_ _ : List Sh) (as : List Value) (h : HP) : GR := match as with
  | [.ref o1, .int a1] => (Nat.beq o1 0, p_M_setting h a1, none, some (.int (v_M_setting h a1).1), (v_M_setting h a1).2)
  | _ => bad h
def d_M_setting (k : Nat) : CD := (k, yX6_setting, cX6_setting, 2, some .int, 2, 1, 22, 0, false, true, g_M_setting)
theorem chk_M_setting : ∀ pc, am_chk cX6_setting k_M_setting pc = true := am_chkall 32 (by decide +kernel) (fun pc h => by unfold k_M_setting; rw [Nat.ble_eq_true_of_le h]; rfl)
theorem pf_M_setting : plainFor yX6_setting = true := by decide +kernel
theorem cu_M_setting : Cond.code yX6_setting cX6_setting 2 (some .int) ∈ am_U := am_tb 1256 (by decide +kernel) rfl
set_option maxHeartbeats 20000000 in
set_option maxRecDepth 100000 in
theorem ev_M_setting {e1 ro : List Sh} {P : AR → HP → Prop} (h : HP) (a1 : Int32) (hp : p_M_setting h a1) (hP : ∀ q, v_M_setting h a1 = q → RIW P h q) : am_Ev m_M_setting (WM ++ e1) ro P (0, [.ref 0, .int a1], [], h) := by
  unfold p_M_setting at hp
  refine am_Ev_G [5] 400 _ ?_
  show am_Ev m_M_setting (WM ++ e1) ro P (5, [.ref 0, .int a1], [], (am_si h 0 8 0))
  refine am_Ev_G [11] 400 _ ?_
  show am_Ev m_M_setting (WM ++ e1) ro P (11, [.ref 0, .int a1], [.int (v_M_in (am_si h 0 8 0) a1 0 3)], (am_si h 0 8 0))
  refine am_Ev_G [31] 400 _ ?_
  show (((v_M_in (am_si h 0 8 0) a1 0 3) = 0 → am_Ev m_M_setting (WM ++ e1) ro P (31, [.ref 0, .int a1], [.int ((v_M_refuses (am_si h 0 8 0) 1).1)], ((v_M_refuses (am_si h 0 8 0) 1).2))) ∧ (¬ (v_M_in (am_si h 0 8 0) a1 0 3) = 0 → ((am_in (8 + a1) 163) ∧ am_Ev m_M_setting (WM ++ e1) ro P (31, [.ref 0, .int a1], [.int ((am_si h 0 8 0).1 1 (am_ix (8 + a1)))], (am_si h 0 8 0)))))
  refine ⟨fun c1 => ?_, fun c1 => ?_⟩
  · skip
    obtain ⟨y1, c2⟩ : ∃ y, v_M_refuses (am_si h 0 8 0) 1 = y := ⟨_, rfl⟩
    rw [c2]
    show am_Ev m_M_setting (WM ++ e1) ro P (31, [.ref 0, .int a1], [.int y1.1], y1.2)
    refine am_Ev_G [] 400 _ ?_
    show P (.inl (some (.int y1.1))) y1.2
    exact hP (y1.1, y1.2) (by unfold v_M_setting; simp only [if_pos c1, bnd, c2])
  · have hp := hp.2 c1
    refine ⟨hp, ?_⟩
    refine am_Ev_G [] 400 _ ?_
    show P (.inl (some (.int ((am_si h 0 8 0).1 1 (am_ix (8 + a1)))))) (am_si h 0 8 0)
    exact hP ((am_si h 0 8 0).1 1 (am_ix (8 + a1)), (am_si h 0 8 0)) (by unfold v_M_setting; simp only [if_neg c1])
theorem ok_M_setting {l : Launch} (hl : l.stackTraces = false) (e1 ro : List Sh) (k : Nat) : am_Ok l (WM ++ e1) ro (d_M_setting k) := by
  refine am_met hl (own := RX6) (M := m_M_setting) rfl pf_M_setting cu_M_setting rfl rfl rfl rfl (fun _ => rfl) rfl ⟨chk_M_setting, (am_c (fl_M_7) (am_c (fl_M_38) am_n)), (am_c (lk_M_127) (am_c (lk_M_134) am_n)), (am_n), (am_n)⟩ (am_n) (am_c (ok_M_in hl e1 _ 0) (am_c (ok_M_refuses hl e1 _ 16) am_n)) (fun z => nomatch z) ?_ ?_
  · intro _ as h hg
    show g_thr (g_M_setting (WM ++ e1) ro as h) = none
    unfold g_M_setting
    split <;> rfl
  · intro as h hg hp
    revert hg hp
    show g_ok (g_M_setting (WM ++ e1) ro as h) = true → g_pre (g_M_setting (WM ++ e1) ro as h) → _ ∧ am_Ev m_M_setting (WM ++ e1) ro (am_eq (g_M_setting (WM ++ e1) ro as h)) (0, am_ent as 2, [], h)
    unfold g_M_setting
    split
    · rename_i o1 a1
      intro hc hp
      change (Nat.beq o1 0) = true at hc
      obtain rfl := am_beq hc
      exact ⟨Nat.le_of_ble_eq_true rfl, ev_M_setting h a1 hp eqRIW⟩
    · exact fun z => nomatch z
def k_M_whyNot (pc : Nat) : Ent := bif Nat.ble 36 pc then am_nop else bif Nat.ble 18 pc then (bif Nat.ble 27 pc then (bif Nat.ble 31 pc then (bif Nat.ble 32 pc then (bif Nat.ble 35 pc then (bif Nat.beq pc 35 then (.ireturn, 0, 0, []) else am_nop) else (bif Nat.beq pc 32 then (.invokevirtual 134, 0, 0, []) else am_nop)) else (bif Nat.beq pc 31 then (.iconst 1, 1, 0, []) else am_nop)) else (bif Nat.ble 30 pc then (bif Nat.beq pc 30 then (.aload_n 0, 0, 0, []) else am_nop) else (bif Nat.beq pc 27 then (.goto 8, 0, 35, []) else am_nop))) else (bif Nat.ble 22 pc then (bif Nat.ble 23 pc then (bif Nat.ble 24 pc then (bif Nat.beq pc 24 then (.invokevirtual 79, 0, 0, []) else am_nop) else (bif Nat.beq pc 23 then (.iload_n 2, 0, 2, []) else am_nop)) else (bif Nat.beq pc 22 then (.iload_n 1, 0, 1, []) else am_nop)) else (bif Nat.ble 21 pc then (bif Nat.beq pc 21 then (.aload_n 0, 0, 0, []) else am_nop) else (bif Nat.beq pc 18 then (.ifCond .eq 12, 0, 30, []) else am_nop)))) else (bif Nat.ble 7 pc then (bif Nat.ble 13 pc then (bif Nat.ble 14 pc then (bif Nat.ble 15 pc then (bif Nat.beq pc 15 then (.invokevirtual 148, 0, 0, []) else am_nop) else (bif Nat.beq pc 14 then (.iload_n 2, 0, 2, []) else am_nop)) else (bif Nat.beq pc 13 then (.aload_n 0, 0, 0, []) else am_nop)) else (bif Nat.ble 10 pc then (bif Nat.beq pc 10 then (.ifCond .eq 20, 0, 30, []) else am_nop) else (bif Nat.beq pc 7 then (.invokevirtual 148, 0, 0, []) else am_nop))) else (bif Nat.ble 2 pc then (bif Nat.ble 5 pc then (bif Nat.ble 6 pc then (bif Nat.beq pc 6 then (.iload_n 1, 0, 1, []) else am_nop) else (bif Nat.beq pc 5 then (.aload_n 0, 0, 0, []) else am_nop)) else (bif Nat.beq pc 2 then (.putfield 38, 0, 0, []) else am_nop)) else (bif Nat.ble 1 pc then (bif Nat.beq pc 1 then (.iconst 0, 0, 0, []) else am_nop) else (bif Nat.beq pc 0 then (.aload_n 0, 0, 0, []) else am_nop))))
def m_M_whyNot : MI := (k_M_whyNot, [(38, 6, 8)], [(79, d_M_reason 16), (134, d_M_refuses 16), (148, d_M_isTrip 16)], [], [], [], [], 4, 88, some .int, fun _ => 0, 1)
def v_M_whyNot (h : HP) (a1 : Int32) (a2 : Int32) : Int32 × HP := (if (v_M_isTrip (am_si h 0 8 0) a1) = 0 then (bnd (v_M_refuses (am_si h 0 8 0) 1) fun y1 => (y1.1, y1.2)) else (if (v_M_isTrip (am_si h 0 8 0) a2) = 0 then (bnd (v_M_refuses (am_si h 0 8 0) 1) fun y2 => (y2.1, y2.2)) else ((v_M_reason (am_si h 0 8 0) a1 a2), (am_si h 0 8 0))))
def p_M_whyNot (h : HP) (a1 : Int32) (a2 : Int32) : Prop := ((p_M_isTrip (am_si h 0 8 0) a1) ∧ (((v_M_isTrip (am_si h 0 8 0) a1) = 0 → True) ∧ (¬ (v_M_isTrip (am_si h 0 8 0) a1) = 0 → ((p_M_isTrip (am_si h 0 8 0) a2) ∧ (((v_M_isTrip (am_si h 0 8 0) a2) = 0 → True) ∧ (¬ (v_M_isTrip (am_si h 0 8 0) a2) = 0 → (p_M_reason (am_si h 0 8 0) a1 a2)))))))
def g_M_whyNot (_ _ : List Sh) (as : List Value) (h : HP) : GR := match as with
  | [.ref o1, .int a1, .int a2] => (Nat.beq o1 0, p_M_whyNot h a1 a2, none, some (.int (v_M_whyNot h a1 a2).1), (v_M_whyNot h a1 a2).2)
  | _ => bad h
def d_M_whyNot (k : Nat) : CD := (k, yX6_whyNot, cX6_whyNot, 3, some .int, 3, 4, 88, 0, false, true, g_M_whyNot)
theorem chk_M_whyNot : ∀ pc, am_chk cX6_whyNot k_M_whyNot pc = true := am_chkall 36 (by decide +kernel) (fun pc h => by unfold k_M_whyNot; rw [Nat.ble_eq_true_of_le h]; rfl)
theorem pf_M_whyNot : plainFor yX6_whyNot = true := by decide +kernel
theorem cu_M_whyNot : Cond.code yX6_whyNot cX6_whyNot 3 (some .int) ∈ am_U := am_tb 1260 (by decide +kernel) rfl
set_option maxHeartbeats 20000000 in
set_option maxRecDepth 100000 in
theorem ev_M_whyNot {e1 ro : List Sh} {P : AR → HP → Prop} (h : HP) (a1 : Int32) (a2 : Int32) (hp : p_M_whyNot h a1 a2) (hP : ∀ q, v_M_whyNot h a1 a2 = q → RIW P h q) : am_Ev m_M_whyNot (WM ++ e1) ro P (0, [.ref 0, .int a1, .int a2], [], h) := by
  unfold p_M_whyNot at hp
  refine am_Ev_G [5] 400 _ ?_
  show am_Ev m_M_whyNot (WM ++ e1) ro P (5, [.ref 0, .int a1, .int a2], [], (am_si h 0 8 0))
  refine am_Ev_G [18, 35] 400 _ ?_
  show ((p_M_isTrip (am_si h 0 8 0) a1) ∧ (((v_M_isTrip (am_si h 0 8 0) a1) = 0 → am_Ev m_M_whyNot (WM ++ e1) ro P (35, [.ref 0, .int a1, .int a2], [.int ((v_M_refuses (am_si h 0 8 0) 1).1)], ((v_M_refuses (am_si h 0 8 0) 1).2))) ∧ (¬ (v_M_isTrip (am_si h 0 8 0) a1) = 0 → ((p_M_isTrip (am_si h 0 8 0) a2) ∧ am_Ev m_M_whyNot (WM ++ e1) ro P (18, [.ref 0, .int a1, .int a2], [.int (v_M_isTrip (am_si h 0 8 0) a2)], (am_si h 0 8 0))))))
  obtain ⟨hob, hp⟩ := hp
  refine ⟨hob, ?_⟩
  refine ⟨fun c1 => ?_, fun c1 => ?_⟩
  · skip
    obtain ⟨y1, c2⟩ : ∃ y, v_M_refuses (am_si h 0 8 0) 1 = y := ⟨_, rfl⟩
    rw [c2]
    show am_Ev m_M_whyNot (WM ++ e1) ro P (35, [.ref 0, .int a1, .int a2], [.int y1.1], y1.2)
    refine am_Ev_G [] 400 _ ?_
    show P (.inl (some (.int y1.1))) y1.2
    exact hP (y1.1, y1.2) (by unfold v_M_whyNot; simp only [if_pos c1, bnd, c2])
  · have hp := hp.2 c1
    obtain ⟨hob, hp⟩ := hp
    refine ⟨hob, ?_⟩
    refine am_Ev_G [35] 400 _ ?_
    show (((v_M_isTrip (am_si h 0 8 0) a2) = 0 → am_Ev m_M_whyNot (WM ++ e1) ro P (35, [.ref 0, .int a1, .int a2], [.int ((v_M_refuses (am_si h 0 8 0) 1).1)], ((v_M_refuses (am_si h 0 8 0) 1).2))) ∧ (¬ (v_M_isTrip (am_si h 0 8 0) a2) = 0 → ((p_M_reason (am_si h 0 8 0) a1 a2) ∧ am_Ev m_M_whyNot (WM ++ e1) ro P (35, [.ref 0, .int a1, .int a2], [.int (v_M_reason (am_si h 0 8 0) a1 a2)], (am_si h 0 8 0)))))
    refine ⟨fun c3 => ?_, fun c3 => ?_⟩
    · skip
      obtain ⟨y2, c4⟩ : ∃ y, v_M_refuses (am_si h 0 8 0) 1 = y := ⟨_, rfl⟩
      rw [c4]
      show am_Ev m_M_whyNot (WM ++ e1) ro P (35, [.ref 0, .int a1, .int a2], [.int y2.1], y2.2)
      refine am_Ev_G [] 400 _ ?_
      show P (.inl (some (.int y2.1))) y2.2
      exact hP (y2.1, y2.2) (by unfold v_M_whyNot; simp only [if_neg c1, if_pos c3, bnd, c4])
    · have hp := hp.2 c3
      refine ⟨hp, ?_⟩
      refine am_Ev_G [] 400 _ ?_
      show P (.inl (some (.int (v_M_reason (am_si h 0 8 0) a1 a2)))) (am_si h 0 8 0)
      exact hP ((v_M_reason (am_si h 0 8 0) a1 a2), (am_si h 0 8 0)) (by unfold v_M_whyNot; simp only [if_neg c1, if_neg c3])
theorem ok_M_whyNot {l : Launch} (hl : l.stackTraces = false) (e1 ro : List Sh) (k : Nat) : am_Ok l (WM ++ e1) ro (d_M_whyNot k) := by
  refine am_met hl (own := RX6) (M := m_M_whyNot) rfl pf_M_whyNot cu_M_whyNot rfl rfl rfl rfl (fun _ => rfl) rfl ⟨chk_M_whyNot, (am_c (fl_M_38) am_n), (am_c (lk_M_79) (am_c (lk_M_134) (am_c (lk_M_148) am_n))), (am_n), (am_n)⟩ (am_n) (am_c (ok_M_reason hl e1 _ 16) (am_c (ok_M_refuses hl e1 _ 16) (am_c (ok_M_isTrip hl e1 _ 16) am_n))) (fun z => nomatch z) ?_ ?_
  · intro _ as h hg
    show g_thr (g_M_whyNot (WM ++ e1) ro as h) = none
    unfold g_M_whyNot
    split <;> rfl
  · intro as h hg hp
    revert hg hp
    show g_ok (g_M_whyNot (WM ++ e1) ro as h) = true → g_pre (g_M_whyNot (WM ++ e1) ro as h) → _ ∧ am_Ev m_M_whyNot (WM ++ e1) ro (am_eq (g_M_whyNot (WM ++ e1) ro as h)) (0, am_ent as 3, [], h)
    unfold g_M_whyNot
    split
    · rename_i o1 a1 a2
      intro hc hp
      change (Nat.beq o1 0) = true at hc
      obtain rfl := am_beq hc
      exact ⟨Nat.le_of_ble_eq_true rfl, ev_M_whyNot h a1 a2 hp eqRIW⟩
    · exact fun z => nomatch z
def k_M_withTrip (pc : Nat) : Ent := bif Nat.ble 52 pc then am_nop else bif Nat.ble 26 pc then (bif Nat.ble 40 pc then (bif Nat.ble 44 pc then (bif Nat.ble 46 pc then (bif Nat.ble 49 pc then (bif Nat.ble 51 pc then (bif Nat.beq pc 51 then (.ireturn, 0, 0, []) else am_nop) else (bif Nat.beq pc 49 then (.iload 6, 0, 6, []) else am_nop)) else (bif Nat.beq pc 46 then (.invokevirtual 144, 0, 0, []) else am_nop)) else (bif Nat.ble 45 pc then (bif Nat.beq pc 45 then (.iconst 0, 0, 0, []) else am_nop) else (bif Nat.beq pc 44 then (.iconst 0, 0, 0, []) else am_nop))) else (bif Nat.ble 42 pc then (bif Nat.ble 43 pc then (bif Nat.beq pc 43 then (.iconst 0, 0, 0, []) else am_nop) else (bif Nat.beq pc 42 then (.iconst 0, 0, 0, []) else am_nop)) else (bif Nat.ble 41 pc then (bif Nat.beq pc 41 then (.iconst 0, 0, 0, []) else am_nop) else (bif Nat.beq pc 40 then (.iaload, 0, 0, []) else am_nop)))) else (bif Nat.ble 33 pc then (bif Nat.ble 35 pc then (bif Nat.ble 38 pc then (bif Nat.beq pc 38 then (.bipush 15, 15, 0, []) else am_nop) else (bif Nat.beq pc 35 then (.getfield 7, 0, 0, []) else am_nop)) else (bif Nat.ble 34 pc then (bif Nat.beq pc 34 then (.aload_n 0, 0, 0, []) else am_nop) else (bif Nat.beq pc 33 then (.aload_n 0, 0, 0, []) else am_nop))) else (bif Nat.ble 28 pc then (bif Nat.ble 31 pc then (bif Nat.beq pc 31 then (.istore 6, 0, 6, []) else am_nop) else (bif Nat.beq pc 28 then (.invokevirtual 236, 0, 0, []) else am_nop)) else (bif Nat.ble 27 pc then (bif Nat.beq pc 27 then (.iadd, 0, 0, []) else am_nop) else (bif Nat.beq pc 26 then (.iconst 1, 1, 0, []) else am_nop))))) else (bif Nat.ble 11 pc then (bif Nat.ble 19 pc then (bif Nat.ble 23 pc then (bif Nat.ble 25 pc then (bif Nat.beq pc 25 then (.iaload, 0, 0, []) else am_nop) else (bif Nat.beq pc 23 then (.bipush 15, 15, 0, []) else am_nop)) else (bif Nat.ble 20 pc then (bif Nat.beq pc 20 then (.getfield 7, 0, 0, []) else am_nop) else (bif Nat.beq pc 19 then (.aload_n 0, 0, 0, []) else am_nop))) else (bif Nat.ble 15 pc then (bif Nat.ble 18 pc then (bif Nat.beq pc 18 then (.aload_n 0, 0, 0, []) else am_nop) else (bif Nat.beq pc 15 then (.invokevirtual 144, 0, 0, []) else am_nop)) else (bif Nat.ble 13 pc then (bif Nat.beq pc 13 then (.iload 5, 0, 5, []) else am_nop) else (bif Nat.beq pc 11 then (.iload 4, 0, 4, []) else am_nop)))) else (bif Nat.ble 7 pc then (bif Nat.ble 9 pc then (bif Nat.ble 10 pc then (bif Nat.beq pc 10 then (.iload_n 3, 0, 3, []) else am_nop) else (bif Nat.beq pc 9 then (.iload_n 2, 0, 2, []) else am_nop)) else (bif Nat.ble 8 pc then (bif Nat.beq pc 8 then (.iload_n 1, 0, 1, []) else am_nop) else (bif Nat.beq pc 7 then (.iaload, 0, 0, []) else am_nop))) else (bif Nat.ble 2 pc then (bif Nat.ble 5 pc then (bif Nat.beq pc 5 then (.bipush 15, 15, 0, []) else am_nop) else (bif Nat.beq pc 2 then (.getfield 7, 0, 0, []) else am_nop)) else (bif Nat.ble 1 pc then (bif Nat.beq pc 1 then (.aload_n 0, 0, 0, []) else am_nop) else (bif Nat.beq pc 0 then (.aload_n 0, 0, 0, []) else am_nop)))))
def m_M_withTrip : MI := (k_M_withTrip, [(7, 6, 0)], [(144, d_M_puts 16), (236, d_M_byDeficits 16)], [], [], [], [], 7, 160, some .int, fun _ => 0, 1)
def v_M_withTrip (h : HP) (a1 : Int32) (a2 : Int32) (a3 : Int32) (a4 : Int32) (a5 : Int32) : Int32 × HP := (bnd (v_M_puts h (h.1 1 (am_ix 15)) a1 a2 a3 a4 a5) fun y1 => (bnd (v_M_puts y1 (y1.1 1 (am_ix 15)) 0 0 0 0 0) fun y2 => ((v_M_byDeficits y1 ((y1.1 1 (am_ix 15)) + 1)), y2)))
def p_M_withTrip (h : HP) (a1 : Int32) (a2 : Int32) (a3 : Int32) (a4 : Int32) (a5 : Int32) : Prop := ((p_M_puts h (h.1 1 (am_ix 15)) a1 a2 a3 a4 a5) ∧ (∀ y1, v_M_puts h (h.1 1 (am_ix 15)) a1 a2 a3 a4 a5 = y1 → ((p_M_byDeficits y1 ((y1.1 1 (am_ix 15)) + 1)) ∧ (p_M_puts y1 (y1.1 1 (am_ix 15)) 0 0 0 0 0))))
def g_M_withTrip (_ _ : List Sh) (as : List Value) (h : HP) : GR := match as with
  | [.ref o1, .int a1, .int a2, .int a3, .int a4, .int a5] => (Nat.beq o1 0, p_M_withTrip h a1 a2 a3 a4 a5, none, some (.int (v_M_withTrip h a1 a2 a3 a4 a5).1), (v_M_withTrip h a1 a2 a3 a4 a5).2)
  | _ => bad h
def d_M_withTrip (k : Nat) : CD := (k, yX6_withTrip, cX6_withTrip, 7, some .int, 6, 7, 160, 0, false, true, g_M_withTrip)
theorem chk_M_withTrip : ∀ pc, am_chk cX6_withTrip k_M_withTrip pc = true := am_chkall 52 (by decide +kernel) (fun pc h => by unfold k_M_withTrip; rw [Nat.ble_eq_true_of_le h]; rfl)
theorem pf_M_withTrip : plainFor yX6_withTrip = true := by decide +kernel
theorem cu_M_withTrip : Cond.code yX6_withTrip cX6_withTrip 7 (some .int) ∈ am_U := am_tb 1268 (by decide +kernel) rfl
set_option maxHeartbeats 20000000 in
set_option maxRecDepth 100000 in
theorem ev_M_withTrip {e1 ro : List Sh} {P : AR → HP → Prop} (h : HP) (a1 : Int32) (a2 : Int32) (a3 : Int32) (a4 : Int32) (a5 : Int32) (hp : p_M_withTrip h a1 a2 a3 a4 a5) (hP : ∀ q, v_M_withTrip h a1 a2 a3 a4 a5 = q → RIW P h q) : am_Ev m_M_withTrip (WM ++ e1) ro P (0, [.ref 0, .int a1, .int a2, .int a3, .int a4, .int a5, .retAddr 0], [], h) := by
  unfold p_M_withTrip at hp
  refine am_Ev_G [18] 400 _ ?_
  show ((am_in 15 163) ∧ ((p_M_puts h (h.1 1 (am_ix 15)) a1 a2 a3 a4 a5) ∧ am_Ev m_M_withTrip (WM ++ e1) ro P (18, [.ref 0, .int a1, .int a2, .int a3, .int a4, .int a5, .retAddr 0], [], (v_M_puts h (h.1 1 (am_ix 15)) a1 a2 a3 a4 a5))))
  refine ⟨⟨by decide, by decide⟩, ?_⟩
  obtain ⟨hob, hp⟩ := hp
  refine ⟨hob, ?_⟩
  obtain ⟨y1, c1⟩ : ∃ y, v_M_puts h (h.1 1 (am_ix 15)) a1 a2 a3 a4 a5 = y := ⟨_, rfl⟩
  rw [c1]
  have hp := hp _ c1
  show am_Ev m_M_withTrip (WM ++ e1) ro P (18, [.ref 0, .int a1, .int a2, .int a3, .int a4, .int a5, .retAddr 0], [], y1)
  refine am_Ev_G [31] 400 _ ?_
  show ((am_in 15 163) ∧ ((p_M_byDeficits y1 ((y1.1 1 (am_ix 15)) + 1)) ∧ am_Ev m_M_withTrip (WM ++ e1) ro P (31, [.ref 0, .int a1, .int a2, .int a3, .int a4, .int a5, .retAddr 0], [.int (v_M_byDeficits y1 ((y1.1 1 (am_ix 15)) + 1))], y1)))
  refine ⟨⟨by decide, by decide⟩, ?_⟩
  obtain ⟨hob, hp⟩ := hp
  refine ⟨hob, ?_⟩
  refine am_Ev_G [49] 400 _ ?_
  show ((am_in 15 163) ∧ ((p_M_puts y1 (y1.1 1 (am_ix 15)) 0 0 0 0 0) ∧ am_Ev m_M_withTrip (WM ++ e1) ro P (49, [.ref 0, .int a1, .int a2, .int a3, .int a4, .int a5, .int (v_M_byDeficits y1 ((y1.1 1 (am_ix 15)) + 1))], [], (v_M_puts y1 (y1.1 1 (am_ix 15)) 0 0 0 0 0))))
  refine ⟨⟨by decide, by decide⟩, ?_⟩
  refine ⟨hp, ?_⟩
  obtain ⟨y2, c2⟩ : ∃ y, v_M_puts y1 (y1.1 1 (am_ix 15)) 0 0 0 0 0 = y := ⟨_, rfl⟩
  rw [c2]
  show am_Ev m_M_withTrip (WM ++ e1) ro P (49, [.ref 0, .int a1, .int a2, .int a3, .int a4, .int a5, .int (v_M_byDeficits y1 ((y1.1 1 (am_ix 15)) + 1))], [], y2)
  refine am_Ev_G [] 400 _ ?_
  show P (.inl (some (.int (v_M_byDeficits y1 ((y1.1 1 (am_ix 15)) + 1))))) y2
  exact hP ((v_M_byDeficits y1 ((y1.1 1 (am_ix 15)) + 1)), y2) (by unfold v_M_withTrip; simp only [bnd, c1, bnd, c2])
theorem ok_M_withTrip {l : Launch} (hl : l.stackTraces = false) (e1 ro : List Sh) (k : Nat) : am_Ok l (WM ++ e1) ro (d_M_withTrip k) := by
  refine am_met hl (own := RX6) (M := m_M_withTrip) rfl pf_M_withTrip cu_M_withTrip rfl rfl rfl rfl (fun _ => rfl) rfl ⟨chk_M_withTrip, (am_c (fl_M_7) am_n), (am_c (lk_M_144) (am_c (lk_M_236) am_n)), (am_n), (am_n)⟩ (am_n) (am_c (ok_M_puts hl e1 _ 16) (am_c (ok_M_byDeficits hl e1 _ 16) am_n)) (fun z => nomatch z) ?_ ?_
  · intro _ as h hg
    show g_thr (g_M_withTrip (WM ++ e1) ro as h) = none
    unfold g_M_withTrip
    split <;> rfl
  · intro as h hg hp
    revert hg hp
    show g_ok (g_M_withTrip (WM ++ e1) ro as h) = true → g_pre (g_M_withTrip (WM ++ e1) ro as h) → _ ∧ am_Ev m_M_withTrip (WM ++ e1) ro (am_eq (g_M_withTrip (WM ++ e1) ro as h)) (0, am_ent as 7, [], h)
    unfold g_M_withTrip
    split
    · rename_i o1 a1 a2 a3 a4 a5
      intro hc hp
      change (Nat.beq o1 0) = true at hc
      obtain rfl := am_beq hc
      exact ⟨Nat.le_of_ble_eq_true rfl, ev_M_withTrip h a1 a2 a3 a4 a5 hp eqRIW⟩
    · exact fun z => nomatch z
def k_M_ifTrip (pc : Nat) : Ent := bif Nat.ble 38 pc then am_nop else bif Nat.ble 19 pc then (bif Nat.ble 26 pc then (bif Nat.ble 33 pc then (bif Nat.ble 34 pc then (bif Nat.ble 37 pc then (bif Nat.beq pc 37 then (.ireturn, 0, 0, []) else am_nop) else (bif Nat.beq pc 34 then (.invokevirtual 134, 0, 0, []) else am_nop)) else (bif Nat.beq pc 33 then (.iconst 1, 1, 0, []) else am_nop)) else (bif Nat.ble 29 pc then (bif Nat.ble 32 pc then (bif Nat.beq pc 32 then (.aload_n 0, 0, 0, []) else am_nop) else (bif Nat.beq pc 29 then (.goto 8, 0, 37, []) else am_nop)) else (bif Nat.beq pc 26 then (.invokevirtual 248, 0, 0, []) else am_nop))) else (bif Nat.ble 21 pc then (bif Nat.ble 22 pc then (bif Nat.ble 24 pc then (bif Nat.beq pc 24 then (.iload 5, 0, 5, []) else am_nop) else (bif Nat.beq pc 22 then (.iload 4, 0, 4, []) else am_nop)) else (bif Nat.beq pc 21 then (.iload_n 3, 0, 3, []) else am_nop)) else (bif Nat.ble 20 pc then (bif Nat.beq pc 20 then (.iload_n 2, 0, 2, []) else am_nop) else (bif Nat.beq pc 19 then (.iload_n 1, 0, 1, []) else am_nop)))) else (bif Nat.ble 7 pc then (bif Nat.ble 12 pc then (bif Nat.ble 15 pc then (bif Nat.ble 18 pc then (bif Nat.beq pc 18 then (.aload_n 0, 0, 0, []) else am_nop) else (bif Nat.beq pc 15 then (.ifCond .eq 17, 0, 32, []) else am_nop)) else (bif Nat.beq pc 12 then (.invokestatic 140, 0, 0, []) else am_nop)) else (bif Nat.ble 8 pc then (bif Nat.ble 10 pc then (bif Nat.beq pc 10 then (.iload 5, 0, 5, []) else am_nop) else (bif Nat.beq pc 8 then (.iload 4, 0, 4, []) else am_nop)) else (bif Nat.beq pc 7 then (.iload_n 3, 0, 3, []) else am_nop))) else (bif Nat.ble 2 pc then (bif Nat.ble 5 pc then (bif Nat.ble 6 pc then (bif Nat.beq pc 6 then (.iload_n 2, 0, 2, []) else am_nop) else (bif Nat.beq pc 5 then (.iload_n 1, 0, 1, []) else am_nop)) else (bif Nat.beq pc 2 then (.putfield 38, 0, 0, []) else am_nop)) else (bif Nat.ble 1 pc then (bif Nat.beq pc 1 then (.iconst 0, 0, 0, []) else am_nop) else (bif Nat.beq pc 0 then (.aload_n 0, 0, 0, []) else am_nop))))
theorem lk_M_248 : am_lnk RX6 248 (d_M_withTrip 16) := ⟨⟨by decide, by decide⟩, am_tb 8 (by decide +kernel) rfl, Or.inr ⟨by decide, rfl, am_tb 1267 (by decide +kernel) rfl, am_tp 123 (by decide +kernel) rfl, ⟨TX6, 16, rfl⟩, Or.inl (am_tb 1265 (by decide +kernel) rfl)⟩⟩
def m_M_ifTrip : MI := (k_M_ifTrip, [(38, 6, 8)], [(134, d_M_refuses 16), (140, d_M_isTold 0), (248, d_M_withTrip 16)], [], [], [], [], 8, 186, some .int, fun _ => 0, 1)
def v_M_ifTrip (h : HP) (a1 : Int32) (a2 : Int32) (a3 : Int32) (a4 : Int32) (a5 : Int32) : Int32 × HP := (if (v_M_isTold (am_si h 0 8 0) a1 a2 a3 a4 a5) = 0 then (bnd (v_M_refuses (am_si h 0 8 0) 1) fun y1 => (y1.1, y1.2)) else (bnd (v_M_withTrip (am_si h 0 8 0) a1 a2 a3 a4 a5) fun y2 => (y2.1, y2.2)))
def p_M_ifTrip (h : HP) (a1 : Int32) (a2 : Int32) (a3 : Int32) (a4 : Int32) (a5 : Int32) : Prop := ((p_M_isTold (am_si h 0 8 0) a1 a2 a3 a4 a5) ∧ (((v_M_isTold (am_si h 0 8 0) a1 a2 a3 a4 a5) = 0 → True) ∧ (¬ (v_M_isTold (am_si h 0 8 0) a1 a2 a3 a4 a5) = 0 → (p_M_withTrip (am_si h 0 8 0) a1 a2 a3 a4 a5))))
def g_M_ifTrip (_ _ : List Sh) (as : List Value) (h : HP) : GR := match as with
  | [.ref o1, .int a1, .int a2, .int a3, .int a4, .int a5] => (Nat.beq o1 0, p_M_ifTrip h a1 a2 a3 a4 a5, none, some (.int (v_M_ifTrip h a1 a2 a3 a4 a5).1), (v_M_ifTrip h a1 a2 a3 a4 a5).2)
  | _ => bad h
def d_M_ifTrip (k : Nat) : CD := (k, yX6_ifTrip, cX6_ifTrip, 6, some .int, 6, 8, 186, 0, false, true, g_M_ifTrip)
theorem chk_M_ifTrip : ∀ pc, am_chk cX6_ifTrip k_M_ifTrip pc = true := am_chkall 38 (by decide +kernel) (fun pc h => by unfold k_M_ifTrip; rw [Nat.ble_eq_true_of_le h]; rfl)
theorem pf_M_ifTrip : plainFor yX6_ifTrip = true := by decide +kernel
theorem cu_M_ifTrip : Cond.code yX6_ifTrip cX6_ifTrip 6 (some .int) ∈ am_U := am_tb 1264 (by decide +kernel) rfl
set_option maxHeartbeats 20000000 in
set_option maxRecDepth 100000 in
theorem ev_M_ifTrip {e1 ro : List Sh} {P : AR → HP → Prop} (h : HP) (a1 : Int32) (a2 : Int32) (a3 : Int32) (a4 : Int32) (a5 : Int32) (hp : p_M_ifTrip h a1 a2 a3 a4 a5) (hP : ∀ q, v_M_ifTrip h a1 a2 a3 a4 a5 = q → RIW P h q) : am_Ev m_M_ifTrip (WM ++ e1) ro P (0, [.ref 0, .int a1, .int a2, .int a3, .int a4, .int a5], [], h) := by
  unfold p_M_ifTrip at hp
  refine am_Ev_G [5] 400 _ ?_
  show am_Ev m_M_ifTrip (WM ++ e1) ro P (5, [.ref 0, .int a1, .int a2, .int a3, .int a4, .int a5], [], (am_si h 0 8 0))
  refine am_Ev_G [15] 400 _ ?_
  show ((p_M_isTold (am_si h 0 8 0) a1 a2 a3 a4 a5) ∧ am_Ev m_M_ifTrip (WM ++ e1) ro P (15, [.ref 0, .int a1, .int a2, .int a3, .int a4, .int a5], [.int (v_M_isTold (am_si h 0 8 0) a1 a2 a3 a4 a5)], (am_si h 0 8 0)))
  obtain ⟨hob, hp⟩ := hp
  refine ⟨hob, ?_⟩
  refine am_Ev_G [29, 37] 400 _ ?_
  show (((v_M_isTold (am_si h 0 8 0) a1 a2 a3 a4 a5) = 0 → am_Ev m_M_ifTrip (WM ++ e1) ro P (37, [.ref 0, .int a1, .int a2, .int a3, .int a4, .int a5], [.int ((v_M_refuses (am_si h 0 8 0) 1).1)], ((v_M_refuses (am_si h 0 8 0) 1).2))) ∧ (¬ (v_M_isTold (am_si h 0 8 0) a1 a2 a3 a4 a5) = 0 → ((p_M_withTrip (am_si h 0 8 0) a1 a2 a3 a4 a5) ∧ am_Ev m_M_ifTrip (WM ++ e1) ro P (29, [.ref 0, .int a1, .int a2, .int a3, .int a4, .int a5], [.int ((v_M_withTrip (am_si h 0 8 0) a1 a2 a3 a4 a5).1)], ((v_M_withTrip (am_si h 0 8 0) a1 a2 a3 a4 a5).2)))))
  refine ⟨fun c1 => ?_, fun c1 => ?_⟩
  · skip
    obtain ⟨y1, c2⟩ : ∃ y, v_M_refuses (am_si h 0 8 0) 1 = y := ⟨_, rfl⟩
    rw [c2]
    show am_Ev m_M_ifTrip (WM ++ e1) ro P (37, [.ref 0, .int a1, .int a2, .int a3, .int a4, .int a5], [.int y1.1], y1.2)
    refine am_Ev_G [] 400 _ ?_
    show P (.inl (some (.int y1.1))) y1.2
    exact hP (y1.1, y1.2) (by unfold v_M_ifTrip; simp only [if_pos c1, bnd, c2])
  · have hp := hp.2 c1
    refine ⟨hp, ?_⟩
    obtain ⟨y2, c3⟩ : ∃ y, v_M_withTrip (am_si h 0 8 0) a1 a2 a3 a4 a5 = y := ⟨_, rfl⟩
    rw [c3]
    show am_Ev m_M_ifTrip (WM ++ e1) ro P (29, [.ref 0, .int a1, .int a2, .int a3, .int a4, .int a5], [.int y2.1], y2.2)
    refine am_Ev_G [37] 400 _ ?_
    show am_Ev m_M_ifTrip (WM ++ e1) ro P (37, [.ref 0, .int a1, .int a2, .int a3, .int a4, .int a5], [.int y2.1], y2.2)
    refine am_Ev_G [] 400 _ ?_
    show P (.inl (some (.int y2.1))) y2.2
    exact hP (y2.1, y2.2) (by unfold v_M_ifTrip; simp only [if_neg c1, bnd, c3])
theorem ok_M_ifTrip {l : Launch} (hl : l.stackTraces = false) (e1 ro : List Sh) (k : Nat) : am_Ok l (WM ++ e1) ro (d_M_ifTrip k) := by
  refine am_met hl (own := RX6) (M := m_M_ifTrip) rfl pf_M_ifTrip cu_M_ifTrip rfl rfl rfl rfl (fun _ => rfl) rfl ⟨chk_M_ifTrip, (am_c (fl_M_38) am_n), (am_c (lk_M_134) (am_c (lk_M_140) (am_c (lk_M_248) am_n))), (am_n), (am_n)⟩ (am_n) (am_c (ok_M_refuses hl e1 _ 16) (am_c (ok_M_isTold hl e1 _ 0) (am_c (ok_M_withTrip hl e1 _ 16) am_n))) (fun z => nomatch z) ?_ ?_
  · intro _ as h hg
    show g_thr (g_M_ifTrip (WM ++ e1) ro as h) = none
    unfold g_M_ifTrip
    split <;> rfl
  · intro as h hg hp
    revert hg hp
    show g_ok (g_M_ifTrip (WM ++ e1) ro as h) = true → g_pre (g_M_ifTrip (WM ++ e1) ro as h) → _ ∧ am_Ev m_M_ifTrip (WM ++ e1) ro (am_eq (g_M_ifTrip (WM ++ e1) ro as h)) (0, am_ent as 6, [], h)
    unfold g_M_ifTrip
    split
    · rename_i o1 a1 a2 a3 a4 a5
      intro hc hp
      change (Nat.beq o1 0) = true at hc
      obtain rfl := am_beq hc
      exact ⟨Nat.le_of_ble_eq_true rfl, ev_M_ifTrip h a1 a2 a3 a4 a5 hp eqRIW⟩
    · exact fun z => nomatch z
end
