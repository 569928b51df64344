/-! BusBlocksModel, out of its code (written by gen/meth.py). -/
noncomputable section
def k_M_isTold (pc : Nat) : Ent := bif Nat.ble 52 pc then am_nop else bif Nat.ble 24 pc then (bif Nat.ble 37 pc then (bif Nat.ble 46 pc then (bif Nat.ble 50 pc then (bif Nat.ble 51 pc then (bif Nat.beq pc 51 then (.ireturn, 0, 0, []) else am_nop) else (bif Nat.beq pc 50 then (.iconst 0, 0, 0, []) else am_nop)) else (bif Nat.ble 47 pc then (bif Nat.beq pc 47 then (.goto 4, 0, 51, []) else am_nop) else (bif Nat.beq pc 46 then (.iconst 1, 1, 0, []) else am_nop))) else (bif Nat.ble 40 pc then (bif Nat.ble 43 pc then (bif Nat.beq pc 43 then (.ifCond .eq 7, 0, 50, []) else am_nop) else (bif Nat.beq pc 40 then (.invokestatic 127, 0, 0, []) else am_nop)) else (bif Nat.beq pc 37 then (.sipush 240, 240, 0, []) else am_nop))) else (bif Nat.ble 31 pc then (bif Nat.ble 34 pc then (bif Nat.ble 36 pc then (bif Nat.beq pc 36 then (.iconst 1, 1, 0, []) else am_nop) else (bif Nat.beq pc 34 then (.iload 4, 0, 4, []) else am_nop)) else (bif Nat.beq pc 31 then (.ifCond .eq 19, 0, 50, []) else am_nop)) else (bif Nat.ble 25 pc then (bif Nat.ble 28 pc then (bif Nat.beq pc 28 then (.invokestatic 127, 0, 0, []) else am_nop) else (bif Nat.beq pc 25 then (.sipush 1439, 1439, 0, []) else am_nop)) else (bif Nat.beq pc 24 then (.iconst 0, 0, 0, []) else am_nop)))) else (bif Nat.ble 10 pc then (bif Nat.ble 17 pc then (bif Nat.ble 20 pc then (bif Nat.ble 23 pc then (bif Nat.beq pc 23 then (.iload_n 3, 0, 3, []) else am_nop) else (bif Nat.beq pc 20 then (.ifCond .eq 30, 0, 50, []) else am_nop)) else (bif Nat.beq pc 17 then (.invokestatic 131, 0, 0, []) else am_nop)) else (bif Nat.ble 13 pc then (bif Nat.ble 16 pc then (bif Nat.beq pc 16 then (.iload_n 2, 0, 2, []) else am_nop) else (bif Nat.beq pc 13 then (.ifCond .eq 37, 0, 50, []) else am_nop)) else (bif Nat.beq pc 10 then (.invokestatic 131, 0, 0, []) else am_nop))) else (bif Nat.ble 3 pc then (bif Nat.ble 6 pc then (bif Nat.ble 9 pc then (bif Nat.beq pc 9 then (.iload_n 1, 0, 1, []) else am_nop) else (bif Nat.beq pc 6 then (.ifCond .eq 44, 0, 50, []) else am_nop)) else (bif Nat.beq pc 3 then (.invokestatic 127, 0, 0, []) else am_nop)) else (bif Nat.ble 1 pc then (bif Nat.ble 2 pc then (bif Nat.beq pc 2 then (.iconst 3, 3, 0, []) else am_nop) else (bif Nat.beq pc 1 then (.iconst 0, 0, 0, []) else am_nop)) else (bif Nat.beq pc 0 then (.iload_n 0, 0, 0, []) else am_nop))))
def m_M_isTold : MI := (k_M_isTold, [], [(127, d_M_in 0), (131, d_M_isTerminal 0)], [], [], [], [], 2, 42, some .boolean, fun _ => 0, 1)
def v_M_isTold (h : HP) (a1 : Int32) (a2 : Int32) (a3 : Int32) (a4 : Int32) (a5 : Int32) : Int32 := (if (v_M_in h a1 0 3) = 0 then (0 : Int32) else (if (v_M_isTerminal h a2) = 0 then (0 : Int32) else (if (v_M_isTerminal h a3) = 0 then (0 : Int32) else (if (v_M_in h a4 0 1439) = 0 then (0 : Int32) else (if (v_M_in h a5 1 240) = 0 then (0 : Int32) else 1)))))
def p_M_isTold (h : HP) (a1 : Int32) (a2 : Int32) (a3 : Int32) (a4 : Int32) (a5 : Int32) : Prop := (((v_M_in h a1 0 3) = 0 → True) ∧ (¬ (v_M_in h a1 0 3) = 0 → ((p_M_isTerminal h a2) ∧ (((v_M_isTerminal h a2) = 0 → True) ∧ (¬ (v_M_isTerminal h a2) = 0 → (p_M_isTerminal h a3))))))
def g_M_isTold (_ _ : List Sh) (as : List Value) (h : HP) : GR := match as with
  | [.int a1, .int a2, .int a3, .int a4, .int a5] => (true, p_M_isTold h a1 a2 a3 a4 a5, none, some (.int (v_M_isTold h a1 a2 a3 a4 a5)), h)
  | _ => bad h
def d_M_isTold (k : Nat) : CD := (k, yX6_isTold, cX6_isTold, 5, some .boolean, 5, 2, 42, 0, false, true, g_M_isTold)
theorem chk_M_isTold : ∀ pc, am_chk cX6_isTold k_M_isTold pc = true := am_chkall 52 (by decide +kernel) (fun pc h => by unfold k_M_isTold; rw [Nat.ble_eq_true_of_le h]; rfl)
theorem pf_M_isTold : plainFor yX6_isTold = true := by decide +kernel
theorem cu_M_isTold : Cond.code yX6_isTold cX6_isTold 5 (some .boolean) ∈ am_U := am_tb 969 (by decide +kernel) rfl
set_option maxHeartbeats 20000000 in
set_option maxRecDepth 100000 in
theorem ev_M_isTold {e1 ro : List Sh} {P : AR → HP → Prop} (h : HP) (a1 : Int32) (a2 : Int32) (a3 : Int32) (a4 : Int32) (a5 : Int32) (hp : p_M_isTold h a1 a2 a3 a4 a5) (hP : ∀ q, v_M_isTold h a1 a2 a3 a4 a5 = q → RI P h q) : am_Ev m_M_isTold (WM ++ e1) ro P (0, [.int a1, .int a2, .int a3, .int a4, .int a5], [], h) := by
  unfold p_M_isTold at hp
  refine am_Ev_G [6] 400 _ ?_
  show am_Ev m_M_isTold (WM ++ e1) ro P (6, [.int a1, .int a2, .int a3, .int a4, .int a5], [.int (v_M_in h a1 0 3)], h)
  have hpa := hp
  have key1 : am_Ev m_M_isTold (WM ++ e1) ro P (51, [.int a1, .int a2, .int a3, .int a4, .int a5], [.int (if (v_M_in h a1 0 3) = 0 then (0 : Int32) else (if (v_M_isTerminal h a2) = 0 then (0 : Int32) else (if (v_M_isTerminal h a3) = 0 then (0 : Int32) else (if (v_M_in h a4 0 1439) = 0 then (0 : Int32) else (if (v_M_in h a5 1 240) = 0 then (0 : Int32) else 1)))))], h) := by
    refine am_Ev_G [] 400 _ ?_
    show (((((if (v_M_in h a1 0 3) = 0 then (0 : Int32) else (if (v_M_isTerminal h a2) = 0 then (0 : Int32) else (if (v_M_isTerminal h a3) = 0 then (0 : Int32) else (if (v_M_in h a4 0 1439) = 0 then (0 : Int32) else (if (v_M_in h a5 1 240) = 0 then (0 : Int32) else 1))))) : Int32) = 0 ∨ ((if (v_M_in h a1 0 3) = 0 then (0 : Int32) else (if (v_M_isTerminal h a2) = 0 then (0 : Int32) else (if (v_M_isTerminal h a3) = 0 then (0 : Int32) else (if (v_M_in h a4 0 1439) = 0 then (0 : Int32) else (if (v_M_in h a5 1 240) = 0 then (0 : Int32) else 1))))) : Int32) = 1)) ∧ P (.inl (some (.int (if (v_M_in h a1 0 3) = 0 then (0 : Int32) else (if (v_M_isTerminal h a2) = 0 then (0 : Int32) else (if (v_M_isTerminal h a3) = 0 then (0 : Int32) else (if (v_M_in h a4 0 1439) = 0 then (0 : Int32) else (if (v_M_in h a5 1 240) = 0 then (0 : Int32) else 1)))))))) h)
    refine ⟨(by (repeat' split) <;> decide), ?_⟩
    exact hP (if (v_M_in h a1 0 3) = 0 then (0 : Int32) else (if (v_M_isTerminal h a2) = 0 then (0 : Int32) else (if (v_M_isTerminal h a3) = 0 then (0 : Int32) else (if (v_M_in h a4 0 1439) = 0 then (0 : Int32) else (if (v_M_in h a5 1 240) = 0 then (0 : Int32) else 1))))) rfl
  have hp := hpa
  refine am_Ev_G [51] 400 _ ?_
  show (((v_M_in h a1 0 3) = 0 → am_Ev m_M_isTold (WM ++ e1) ro P (51, [.int a1, .int a2, .int a3, .int a4, .int a5], [.int 0], h)) ∧ (¬ (v_M_in h a1 0 3) = 0 → ((p_M_isTerminal h a2) ∧ (((v_M_isTerminal h a2) = 0 → am_Ev m_M_isTold (WM ++ e1) ro P (51, [.int a1, .int a2, .int a3, .int a4, .int a5], [.int 0], h)) ∧ (¬ (v_M_isTerminal h a2) = 0 → ((p_M_isTerminal h a3) ∧ (((v_M_isTerminal h a3) = 0 → am_Ev m_M_isTold (WM ++ e1) ro P (51, [.int a1, .int a2, .int a3, .int a4, .int a5], [.int 0], h)) ∧ (¬ (v_M_isTerminal h a3) = 0 → (((v_M_in h a4 0 1439) = 0 → am_Ev m_M_isTold (WM ++ e1) ro P (51, [.int a1, .int a2, .int a3, .int a4, .int a5], [.int 0], h)) ∧ (¬ (v_M_in h a4 0 1439) = 0 → (((v_M_in h a5 1 240) = 0 → am_Ev m_M_isTold (WM ++ e1) ro P (51, [.int a1, .int a2, .int a3, .int a4, .int a5], [.int 0], h)) ∧ (¬ (v_M_in h a5 1 240) = 0 → am_Ev m_M_isTold (WM ++ e1) ro P (51, [.int a1, .int a2, .int a3, .int a4, .int a5], [.int 1], h)))))))))))))
  refine ⟨fun c2 => ?_, fun c2 => ?_⟩
  · skip
    simpa only [if_pos c2] using key1
  · have hp := hp.2 c2
    obtain ⟨hob, hp⟩ := hp
    refine ⟨hob, ?_⟩
    refine ⟨fun c3 => ?_, fun c3 => ?_⟩
    · skip
      simpa only [if_neg c2, if_pos c3] using key1
    · have hp := hp.2 c3
      refine ⟨hp, ?_⟩
      refine ⟨fun c4 => ?_, fun c4 => ?_⟩
      · skip
        simpa only [if_neg c2, if_neg c3, if_pos c4] using key1
      · skip
        refine ⟨fun c5 => ?_, fun c5 => ?_⟩
        · skip
          simpa only [if_neg c2, if_neg c3, if_neg c4, if_pos c5] using key1
        · skip
          refine ⟨fun c6 => ?_, fun c6 => ?_⟩
          · skip
            simpa only [if_neg c2, if_neg c3, if_neg c4, if_neg c5, if_pos c6] using key1
          · skip
            simpa only [if_neg c2, if_neg c3, if_neg c4, if_neg c5, if_neg c6] using key1
theorem ok_M_isTold {l : Launch} (hl : l.stackTraces = false) (e1 ro : List Sh) (k : Nat) : am_Ok l (WM ++ e1) ro (d_M_isTold k) := by
  refine am_met hl (own := RX6) (M := m_M_isTold) rfl pf_M_isTold cu_M_isTold rfl rfl rfl rfl (fun _ => rfl) rfl ⟨chk_M_isTold, (am_n), (am_c (lk_M_127) (am_c (lk_M_131) am_n)), (am_n), (am_n)⟩ (am_n) (am_c (ok_M_in hl e1 _ 0) (am_c (ok_M_isTerminal hl e1 _ 0) am_n)) (fun z => nomatch z) ?_ ?_
  · intro _ as h hg
    show g_thr (g_M_isTold (WM ++ e1) ro as h) = none
    unfold g_M_isTold
    split <;> rfl
  · intro as h hg hp
    revert hg hp
    show g_ok (g_M_isTold (WM ++ e1) ro as h) = true → g_pre (g_M_isTold (WM ++ e1) ro as h) → _ ∧ am_Ev m_M_isTold (WM ++ e1) ro (am_eq (g_M_isTold (WM ++ e1) ro as h)) (0, am_ent as 5, [], h)
    unfold g_M_isTold
    split
    · rename_i a1 a2 a3 a4 a5
      intro hc hp
      exact ⟨Nat.le_of_ble_eq_true rfl, ev_M_isTold h a1 a2 a3 a4 a5 hp eqRI⟩
    · exact fun z => nomatch z
def k_M_puts (pc : Nat) : Ent := bif Nat.ble 54 pc then am_nop else bif Nat.ble 25 pc then (bif Nat.ble 40 pc then (bif Nat.ble 46 pc then (bif Nat.ble 49 pc then (bif Nat.ble 50 pc then (bif Nat.ble 53 pc then (bif Nat.beq pc 53 then (.return_, 0, 0, []) else am_nop) else (bif Nat.beq pc 50 then (.invokevirtual 82, 0, 0, []) else am_nop)) else (bif Nat.beq pc 49 then (.iconst (-1), (-1 : Int32), 0, []) else am_nop)) else (bif Nat.ble 47 pc then (bif Nat.beq pc 47 then (.bipush 6, 6, 0, []) else am_nop) else (bif Nat.beq pc 46 then (.iload_n 1, 0, 1, []) else am_nop))) else (bif Nat.ble 42 pc then (bif Nat.ble 45 pc then (bif Nat.beq pc 45 then (.aload_n 0, 0, 0, []) else am_nop) else (bif Nat.beq pc 42 then (.invokevirtual 82, 0, 0, []) else am_nop)) else (bif Nat.ble 41 pc then (bif Nat.beq pc 41 then (.iconst 0, 0, 0, []) else am_nop) else (bif Nat.beq pc 40 then (.iconst 5, 5, 0, []) else am_nop)))) else (bif Nat.ble 32 pc then (bif Nat.ble 35 pc then (bif Nat.ble 38 pc then (bif Nat.ble 39 pc then (bif Nat.beq pc 39 then (.iload_n 1, 0, 1, []) else am_nop) else (bif Nat.beq pc 38 then (.aload_n 0, 0, 0, []) else am_nop)) else (bif Nat.beq pc 35 then (.invokevirtual 82, 0, 0, []) else am_nop)) else (bif Nat.ble 33 pc then (bif Nat.beq pc 33 then (.iload 6, 0, 6, []) else am_nop) else (bif Nat.beq pc 32 then (.iconst 4, 4, 0, []) else am_nop))) else (bif Nat.ble 30 pc then (bif Nat.ble 31 pc then (bif Nat.beq pc 31 then (.iload_n 1, 0, 1, []) else am_nop) else (bif Nat.beq pc 30 then (.aload_n 0, 0, 0, []) else am_nop)) else (bif Nat.ble 27 pc then (bif Nat.beq pc 27 then (.invokevirtual 82, 0, 0, []) else am_nop) else (bif Nat.beq pc 25 then (.iload 5, 0, 5, []) else am_nop))))) else (bif Nat.ble 11 pc then (bif Nat.ble 17 pc then (bif Nat.ble 22 pc then (bif Nat.ble 23 pc then (bif Nat.ble 24 pc then (bif Nat.beq pc 24 then (.iconst 3, 3, 0, []) else am_nop) else (bif Nat.beq pc 23 then (.iload_n 1, 0, 1, []) else am_nop)) else (bif Nat.beq pc 22 then (.aload_n 0, 0, 0, []) else am_nop)) else (bif Nat.ble 19 pc then (bif Nat.beq pc 19 then (.invokevirtual 82, 0, 0, []) else am_nop) else (bif Nat.beq pc 17 then (.iload 4, 0, 4, []) else am_nop))) else (bif Nat.ble 15 pc then (bif Nat.ble 16 pc then (bif Nat.beq pc 16 then (.iconst 2, 2, 0, []) else am_nop) else (bif Nat.beq pc 15 then (.iload_n 1, 0, 1, []) else am_nop)) else (bif Nat.ble 14 pc then (bif Nat.beq pc 14 then (.aload_n 0, 0, 0, []) else am_nop) else (bif Nat.beq pc 11 then (.invokevirtual 82, 0, 0, []) else am_nop)))) else (bif Nat.ble 4 pc then (bif Nat.ble 8 pc then (bif Nat.ble 9 pc then (bif Nat.ble 10 pc then (bif Nat.beq pc 10 then (.iload_n 3, 0, 3, []) else am_nop) else (bif Nat.beq pc 9 then (.iconst 1, 1, 0, []) else am_nop)) else (bif Nat.beq pc 8 then (.iload_n 1, 0, 1, []) else am_nop)) else (bif Nat.ble 7 pc then (bif Nat.beq pc 7 then (.aload_n 0, 0, 0, []) else am_nop) else (bif Nat.beq pc 4 then (.invokevirtual 82, 0, 0, []) else am_nop))) else (bif Nat.ble 2 pc then (bif Nat.ble 3 pc then (bif Nat.beq pc 3 then (.iload_n 2, 0, 2, []) else am_nop) else (bif Nat.beq pc 2 then (.iconst 0, 0, 0, []) else am_nop)) else (bif Nat.ble 1 pc then (bif Nat.beq pc 1 then (.iload_n 1, 0, 1, []) else am_nop) else (bif Nat.beq pc 0 then (.aload_n 0, 0, 0, []) else am_nop)))))
def m_M_puts : MI := (k_M_puts, [], [(82, d_M_becomes 16)], [], [], [], [], 1, 23, none, fun _ => 0, 1)
def v_M_puts (h : HP) (a1 : Int32) (a2 : Int32) (a3 : Int32) (a4 : Int32) (a5 : Int32) (a6 : Int32) : HP := (bnd (v_M_becomes h a1 0 a2) fun y1 => (bnd (v_M_becomes y1 a1 1 a3) fun y2 => (bnd (v_M_becomes y2 a1 2 a4) fun y3 => (bnd (v_M_becomes y3 a1 3 a5) fun y4 => (bnd (v_M_becomes y4 a1 4 a6) fun y5 => (bnd (v_M_becomes y5 a1 5 0) fun y6 => (bnd (v_M_becomes y6 a1 6 (-1 : Int32)) fun y7 => y7)))))))
def p_M_puts (h : HP) (a1 : Int32) (a2 : Int32) (a3 : Int32) (a4 : Int32) (a5 : Int32) (a6 : Int32) : Prop := ((p_M_becomes h a1 0 a2) ∧ (∀ y1, v_M_becomes h a1 0 a2 = y1 → ((p_M_becomes y1 a1 1 a3) ∧ (∀ y2, v_M_becomes y1 a1 1 a3 = y2 → ((p_M_becomes y2 a1 2 a4) ∧ (∀ y3, v_M_becomes y2 a1 2 a4 = y3 → ((p_M_becomes y3 a1 3 a5) ∧ (∀ y4, v_M_becomes y3 a1 3 a5 = y4 → ((p_M_becomes y4 a1 4 a6) ∧ (∀ y5, v_M_becomes y4 a1 4 a6 = y5 → ((p_M_becomes y5 a1 5 0) ∧ (∀ y6, v_M_becomes y5 a1 5 0 = y6 → (p_M_becomes y6 a1 6 (-1 : Int32))))))))))))))
def g_M_puts (_ _ : List Sh) (as : List Value) (h : HP) : GR := match as with
  | [.ref o1, .int a1, .int a2, .int a3, .int a4, .int a5, .int a6] => (Nat.beq o1 0, p_M_puts h a1 a2 a3 a4 a5 a6, none, none, v_M_puts h a1 a2 a3 a4 a5 a6)
  | _ => bad h
def d_M_puts (k : Nat) : CD := (k, yX6_puts, cX6_puts, 7, none, 7, 1, 23, 0, false, true, g_M_puts)
theorem chk_M_puts : ∀ pc, am_chk cX6_puts k_M_puts pc = true := am_chkall 54 (by decide +kernel) (fun pc h => by unfold k_M_puts; rw [Nat.ble_eq_true_of_le h]; rfl)
theorem pf_M_puts : plainFor yX6_puts = true := by decide +kernel
theorem cu_M_puts : Cond.code yX6_puts cX6_puts 7 (none) ∈ am_U := am_tb 973 (by decide +kernel) rfl
set_option maxHeartbeats 20000000 in
set_option maxRecDepth 100000 in
theorem ev_M_puts {e1 ro : List Sh} {P : AR → HP → Prop} (h : HP) (a1 : Int32) (a2 : Int32) (a3 : Int32) (a4 : Int32) (a5 : Int32) (a6 : Int32) (hp : p_M_puts h a1 a2 a3 a4 a5 a6) (hP : ∀ q, v_M_puts h a1 a2 a3 a4 a5 a6 = q → RVW P h q) : am_Ev m_M_puts (WM ++ e1) ro P (0, [.ref 0, .int a1, .int a2, .int a3, .int a4, .int a5, .int a6], [], h) := by
  unfold p_M_puts at hp
  refine am_Ev_G [7] 400 _ ?_
  show ((p_M_becomes h a1 0 a2) ∧ am_Ev m_M_puts (WM ++ e1) ro P (7, [.ref 0, .int a1, .int a2, .int a3, .int a4, .int a5, .int a6], [], (v_M_becomes h a1 0 a2)))
  obtain ⟨hob, hp⟩ := hp
  refine ⟨hob, ?_⟩
  obtain ⟨y1, c1⟩ : ∃ y, v_M_becomes h a1 0 a2 = y := ⟨_, rfl⟩
  rw [c1]
  have hp := hp _ c1
  show am_Ev m_M_puts (WM ++ e1) ro P (7, [.ref 0, .int a1, .int a2, .int a3, .int a4, .int a5, .int a6], [], y1)
  refine am_Ev_G [14] 400 _ ?_
  show ((p_M_becomes y1 a1 1 a3) ∧ am_Ev m_M_puts (WM ++ e1) ro P (14, [.ref 0, .int a1, .int a2, .int a3, .int a4, .int a5, .int a6], [], (v_M_becomes y1 a1 1 a3)))
  obtain ⟨hob, hp⟩ := hp
  refine ⟨hob, ?_⟩
  obtain ⟨y2, c2⟩ : ∃ y, v_M_becomes y1 a1 1 a3 = y := ⟨_, rfl⟩
  rw [c2]
  have hp := hp _ c2
  show am_Ev m_M_puts (WM ++ e1) ro P (14, [.ref 0, .int a1, .int a2, .int a3, .int a4, .int a5, .int a6], [], y2)
  refine am_Ev_G [22] 400 _ ?_
  show ((p_M_becomes y2 a1 2 a4) ∧ am_Ev m_M_puts (WM ++ e1) ro P (22, [.ref 0, .int a1, .int a2, .int a3, .int a4, .int a5, .int a6], [], (v_M_becomes y2 a1 2 a4)))
  obtain ⟨hob, hp⟩ := hp
  refine ⟨hob, ?_⟩
  obtain ⟨y3, c3⟩ : ∃ y, v_M_becomes y2 a1 2 a4 = y := ⟨_, rfl⟩
  rw [c3]
  have hp := hp _ c3
  show am_Ev m_M_puts (WM ++ e1) ro P (22, [.ref 0, .int a1, .int a2, .int a3, .int a4, .int a5, .int a6], [], y3)
  refine am_Ev_G [30] 400 _ ?_
  show ((p_M_becomes y3 a1 3 a5) ∧ am_Ev m_M_puts (WM ++ e1) ro P (30, [.ref 0, .int a1, .int a2, .int a3, .int a4, .int a5, .int a6], [], (v_M_becomes y3 a1 3 a5)))
  obtain ⟨hob, hp⟩ := hp
  refine ⟨hob, ?_⟩
  obtain ⟨y4, c4⟩ : ∃ y, v_M_becomes y3 a1 3 a5 = y := ⟨_, rfl⟩
  rw [c4]
  have hp := hp _ c4
  show am_Ev m_M_puts (WM ++ e1) ro P (30, [.ref 0, .int a1, .int a2, .int a3, .int a4, .int a5, .int a6], [], y4)
  refine am_Ev_G [38] 400 _ ?_
  show ((p_M_becomes y4 a1 4 a6) ∧ am_Ev m_M_puts (WM ++ e1) ro P (38, [.ref 0, .int a1, .int a2, .int a3, .int a4, .int a5, .int a6], [], (v_M_becomes y4 a1 4 a6)))
  obtain ⟨hob, hp⟩ := hp
  refine ⟨hob, ?_⟩
  obtain ⟨y5, c5⟩ : ∃ y, v_M_becomes y4 a1 4 a6 = y := ⟨_, rfl⟩
  rw [c5]
  have hp := hp _ c5
  show am_Ev m_M_puts (WM ++ e1) ro P (38, [.ref 0, .int a1, .int a2, .int a3, .int a4, .int a5, .int a6], [], y5)
  refine am_Ev_G [45] 400 _ ?_
  show ((p_M_becomes y5 a1 5 0) ∧ am_Ev m_M_puts (WM ++ e1) ro P (45, [.ref 0, .int a1, .int a2, .int a3, .int a4, .int a5, .int a6], [], (v_M_becomes y5 a1 5 0)))
  obtain ⟨hob, hp⟩ := hp
  refine ⟨hob, ?_⟩
  obtain ⟨y6, c6⟩ : ∃ y, v_M_becomes y5 a1 5 0 = y := ⟨_, rfl⟩
  rw [c6]
  have hp := hp _ c6
  show am_Ev m_M_puts (WM ++ e1) ro P (45, [.ref 0, .int a1, .int a2, .int a3, .int a4, .int a5, .int a6], [], y6)
  refine am_Ev_G [53] 400 _ ?_
  show ((p_M_becomes y6 a1 6 (-1 : Int32)) ∧ am_Ev m_M_puts (WM ++ e1) ro P (53, [.ref 0, .int a1, .int a2, .int a3, .int a4, .int a5, .int a6], [], (v_M_becomes y6 a1 6 (-1 : Int32))))
  refine ⟨hp, ?_⟩
  obtain ⟨y7, c7⟩ : ∃ y, v_M_becomes y6 a1 6 (-1 : Int32) = y := ⟨_, rfl⟩
  rw [c7]
  show am_Ev m_M_puts (WM ++ e1) ro P (53, [.ref 0, .int a1, .int a2, .int a3, .int a4, .int a5, .int a6], [], y7)
  refine am_Ev_G [] 400 _ ?_
  show P (.inl none) y7
  exact hP y7 (by unfold v_M_puts; simp only [bnd, c1, bnd, c2, bnd, c3, bnd, c4, bnd, c5, bnd, c6, bnd, c7])
theorem ok_M_puts {l : Launch} (hl : l.stackTraces = false) (e1 ro : List Sh) (k : Nat) : am_Ok l (WM ++ e1) ro (d_M_puts k) := by
  refine am_met hl (own := RX6) (M := m_M_puts) rfl pf_M_puts cu_M_puts rfl rfl rfl rfl (fun _ => rfl) rfl ⟨chk_M_puts, (am_n), (am_c (lk_M_82) am_n), (am_n), (am_n)⟩ (am_n) (am_c (ok_M_becomes hl e1 _ 16) am_n) (fun z => nomatch z) ?_ ?_
  · intro _ as h hg
    show g_thr (g_M_puts (WM ++ e1) ro as h) = none
    unfold g_M_puts
    split <;> rfl
  · intro as h hg hp
    revert hg hp
    show g_ok (g_M_puts (WM ++ e1) ro as h) = true → g_pre (g_M_puts (WM ++ e1) ro as h) → _ ∧ am_Ev m_M_puts (WM ++ e1) ro (am_eq (g_M_puts (WM ++ e1) ro as h)) (0, am_ent as 7, [], h)
    unfold g_M_puts
    split
    · rename_i o1 a1 a2 a3 a4 a5 a6
      intro hc hp
      change (Nat.beq o1 0) = true at hc
      obtain rfl := am_beq hc
      exact ⟨Nat.le_of_ble_eq_true rfl, ev_M_puts h a1 a2 a3 a4 a5 a6 hp eqRVW⟩
    · exact fun z => nomatch z
def k_M_trip (pc : Nat) : Ent := bif Nat.ble 85 pc then am_nop else bif Nat.ble 46 pc then (bif Nat.ble 68 pc then (bif Nat.ble 75 pc then (bif Nat.ble 81 pc then (bif Nat.ble 83 pc then (bif Nat.ble 84 pc then (bif Nat.beq pc 84 then (.ireturn, 0, 0, []) else am_nop) else (bif Nat.beq pc 83 then (.isub, 0, 0, []) else am_nop)) else (bif Nat.ble 82 pc then (bif Nat.beq pc 82 then (.iconst 1, 1, 0, []) else am_nop) else (bif Nat.beq pc 81 then (.iaload, 0, 0, []) else am_nop))) else (bif Nat.ble 76 pc then (bif Nat.ble 79 pc then (bif Nat.beq pc 79 then (.bipush 15, 15, 0, []) else am_nop) else (bif Nat.beq pc 76 then (.getfield 7, 0, 0, []) else am_nop)) else (bif Nat.beq pc 75 then (.aload_n 0, 0, 0, []) else am_nop))) else (bif Nat.ble 72 pc then (bif Nat.ble 73 pc then (bif Nat.ble 74 pc then (bif Nat.beq pc 74 then (.iastore, 0, 0, []) else am_nop) else (bif Nat.beq pc 73 then (.iadd, 0, 0, []) else am_nop)) else (bif Nat.beq pc 72 then (.iconst 1, 1, 0, []) else am_nop)) else (bif Nat.ble 70 pc then (bif Nat.ble 71 pc then (bif Nat.beq pc 71 then (.iaload, 0, 0, []) else am_nop) else (bif Nat.beq pc 70 then (.dup2, 0, 0, []) else am_nop)) else (bif Nat.beq pc 68 then (.bipush 15, 15, 0, []) else am_nop)))) else (bif Nat.ble 55 pc then (bif Nat.ble 59 pc then (bif Nat.ble 64 pc then (bif Nat.ble 65 pc then (bif Nat.beq pc 65 then (.getfield 7, 0, 0, []) else am_nop) else (bif Nat.beq pc 64 then (.aload_n 0, 0, 0, []) else am_nop)) else (bif Nat.ble 61 pc then (bif Nat.beq pc 61 then (.invokevirtual 144, 0, 0, []) else am_nop) else (bif Nat.beq pc 59 then (.iload 5, 0, 5, []) else am_nop))) else (bif Nat.ble 56 pc then (bif Nat.ble 57 pc then (bif Nat.beq pc 57 then (.iload 4, 0, 4, []) else am_nop) else (bif Nat.beq pc 56 then (.iload_n 3, 0, 3, []) else am_nop)) else (bif Nat.beq pc 55 then (.iload_n 2, 0, 2, []) else am_nop))) else (bif Nat.ble 51 pc then (bif Nat.ble 53 pc then (bif Nat.ble 54 pc then (bif Nat.beq pc 54 then (.iload_n 1, 0, 1, []) else am_nop) else (bif Nat.beq pc 53 then (.iaload, 0, 0, []) else am_nop)) else (bif Nat.beq pc 51 then (.bipush 15, 15, 0, []) else am_nop)) else (bif Nat.ble 47 pc then (bif Nat.ble 48 pc then (bif Nat.beq pc 48 then (.getfield 7, 0, 0, []) else am_nop) else (bif Nat.beq pc 47 then (.aload_n 0, 0, 0, []) else am_nop)) else (bif Nat.beq pc 46 then (.aload_n 0, 0, 0, []) else am_nop))))) else (bif Nat.ble 23 pc then (bif Nat.ble 33 pc then (bif Nat.ble 38 pc then (bif Nat.ble 42 pc then (bif Nat.ble 43 pc then (bif Nat.beq pc 43 then (.invokevirtual 137, 0, 0, []) else am_nop) else (bif Nat.beq pc 42 then (.aload_n 0, 0, 0, []) else am_nop)) else (bif Nat.ble 41 pc then (bif Nat.beq pc 41 then (.ireturn, 0, 0, []) else am_nop) else (bif Nat.beq pc 38 then (.invokevirtual 134, 0, 0, []) else am_nop))) else (bif Nat.ble 36 pc then (bif Nat.ble 37 pc then (bif Nat.beq pc 37 then (.iconst 2, 2, 0, []) else am_nop) else (bif Nat.beq pc 36 then (.aload_n 0, 0, 0, []) else am_nop)) else (bif Nat.beq pc 33 then (.if_icmp .ne 9, 0, 42, []) else am_nop))) else (bif Nat.ble 28 pc then (bif Nat.ble 30 pc then (bif Nat.ble 31 pc then (bif Nat.beq pc 31 then (.bipush 20, 20, 0, []) else am_nop) else (bif Nat.beq pc 30 then (.iaload, 0, 0, []) else am_nop)) else (bif Nat.beq pc 28 then (.bipush 15, 15, 0, []) else am_nop)) else (bif Nat.ble 24 pc then (bif Nat.ble 25 pc then (bif Nat.beq pc 25 then (.getfield 7, 0, 0, []) else am_nop) else (bif Nat.beq pc 24 then (.aload_n 0, 0, 0, []) else am_nop)) else (bif Nat.beq pc 23 then (.ireturn, 0, 0, []) else am_nop)))) else (bif Nat.ble 8 pc then (bif Nat.ble 15 pc then (bif Nat.ble 19 pc then (bif Nat.ble 20 pc then (bif Nat.beq pc 20 then (.invokevirtual 134, 0, 0, []) else am_nop) else (bif Nat.beq pc 19 then (.iconst 1, 1, 0, []) else am_nop)) else (bif Nat.ble 18 pc then (bif Nat.beq pc 18 then (.aload_n 0, 0, 0, []) else am_nop) else (bif Nat.beq pc 15 then (.ifCond .ne 9, 0, 24, []) else am_nop))) else (bif Nat.ble 10 pc then (bif Nat.ble 12 pc then (bif Nat.beq pc 12 then (.invokestatic 140, 0, 0, []) else am_nop) else (bif Nat.beq pc 10 then (.iload 5, 0, 5, []) else am_nop)) else (bif Nat.beq pc 8 then (.iload 4, 0, 4, []) else am_nop))) else (bif Nat.ble 5 pc then (bif Nat.ble 6 pc then (bif Nat.ble 7 pc then (bif Nat.beq pc 7 then (.iload_n 3, 0, 3, []) else am_nop) else (bif Nat.beq pc 6 then (.iload_n 2, 0, 2, []) else am_nop)) else (bif Nat.beq pc 5 then (.iload_n 1, 0, 1, []) else am_nop)) else (bif Nat.ble 1 pc then (bif Nat.ble 2 pc then (bif Nat.beq pc 2 then (.putfield 38, 0, 0, []) else am_nop) else (bif Nat.beq pc 1 then (.iconst 0, 0, 0, []) else am_nop)) else (bif Nat.beq pc 0 then (.aload_n 0, 0, 0, []) else am_nop)))))
theorem lk_M_140 : am_lnk RX6 140 (d_M_isTold 0) := ⟨⟨by decide, by decide⟩, am_tb 8 (by decide +kernel) rfl, Or.inl ⟨by decide, rfl, am_tb 968 (by decide +kernel) rfl, Or.inl ⟨by decide, am_tb 967 (by decide +kernel) rfl⟩⟩⟩
theorem lk_M_144 : am_lnk RX6 144 (d_M_puts 16) := ⟨⟨by decide, by decide⟩, am_tb 8 (by decide +kernel) rfl, Or.inr ⟨by decide, rfl, am_tb 972 (by decide +kernel) rfl, am_tp 71 (by decide +kernel) rfl, ⟨TX6, 16, rfl⟩, Or.inl (am_tb 970 (by decide +kernel) rfl)⟩⟩
def m_M_trip : MI := (k_M_trip, [(7, 6, 0), (38, 6, 8)], [(134, d_M_refuses 16), (137, d_M_saves 16), (140, d_M_isTold 0), (144, d_M_puts 16)], [], [], [], [], 3, 66, some .int, fun _ => 0, 1)
def v_M_trip (h : HP) (a1 : Int32) (a2 : Int32) (a3 : Int32) (a4 : Int32) (a5 : Int32) : Int32 × HP := (if (v_M_isTold (am_si h 0 8 0) a1 a2 a3 a4 a5) = 0 then (bnd (v_M_refuses (am_si h 0 8 0) 1) fun y4 => (y4.1, y4.2)) else (if ((am_si h 0 8 0).1 1 (am_ix 15)) = 20 then (bnd (v_M_refuses (am_si h 0 8 0) 2) fun y3 => (y3.1, y3.2)) else (bnd (v_M_saves (am_si h 0 8 0)) fun y1 => (bnd (v_M_puts y1 (y1.1 1 (am_ix 15)) a1 a2 a3 a4 a5) fun y2 => ((((am_si y2 1 (am_ix 15) ((y2.1 1 (am_ix 15)) + 1)).1 1 (am_ix 15)) - 1), (am_si y2 1 (am_ix 15) ((y2.1 1 (am_ix 15)) + 1)))))))
def p_M_trip (h : HP) (a1 : Int32) (a2 : Int32) (a3 : Int32) (a4 : Int32) (a5 : Int32) : Prop := ((p_M_isTold (am_si h 0 8 0) a1 a2 a3 a4 a5) ∧ (((v_M_isTold (am_si h 0 8 0) a1 a2 a3 a4 a5) = 0 → True) ∧ (¬ (v_M_isTold (am_si h 0 8 0) a1 a2 a3 a4 a5) = 0 → ((((am_si h 0 8 0).1 1 (am_ix 15)) = 20 → True) ∧ (¬ ((am_si h 0 8 0).1 1 (am_ix 15)) = 20 → ((p_M_saves (am_si h 0 8 0)) ∧ (∀ y1, v_M_saves (am_si h 0 8 0) = y1 → (p_M_puts y1 (y1.1 1 (am_ix 15)) a1 a2 a3 a4 a5))))))))
def g_M_trip (_ _ : List Sh) (as : List Value) (h : HP) : GR := match as with
  | [.ref o1, .int a1, .int a2, .int a3, .int a4, .int a5] => (Nat.beq o1 0, p_M_trip h a1 a2 a3 a4 a5, none, some (.int (v_M_trip h a1 a2 a3 a4 a5).1), (v_M_trip h a1 a2 a3 a4 a5).2)
  | _ => bad h
def d_M_trip (k : Nat) : CD := (k, yX6_trip, cX6_trip, 6, some .int, 6, 3, 66, 0, false, true, g_M_trip)
theorem chk_M_trip : ∀ pc, am_chk cX6_trip k_M_trip pc = true := am_chkall 85 (by decide +kernel) (fun pc h => by unfold k_M_trip; rw [Nat.ble_eq_true_of_le h]; rfl)
theorem pf_M_trip : plainFor yX6_trip = true := by decide +kernel
theorem cu_M_trip : Cond.code yX6_trip cX6_trip 6 (some .int) ∈ am_U := am_tb 966 (by decide +kernel) rfl
set_option maxHeartbeats 20000000 in
set_option maxRecDepth 100000 in
theorem ev_M_trip {e1 ro : List Sh} {P : AR → HP → Prop} (h : HP) (a1 : Int32) (a2 : Int32) (a3 : Int32) (a4 : Int32) (a5 : Int32) (hp : p_M_trip h a1 a2 a3 a4 a5) (hP : ∀ q, v_M_trip h a1 a2 a3 a4 a5 = q → RIW P h q) : am_Ev m_M_trip (WM ++ e1) ro P (0, [.ref 0, .int a1, .int a2, .int a3, .int a4, .int a5], [], h) := by
  unfold p_M_trip at hp
  refine am_Ev_G [5] 400 _ ?_
  show am_Ev m_M_trip (WM ++ e1) ro P (5, [.ref 0, .int a1, .int a2, .int a3, .int a4, .int a5], [], (am_si h 0 8 0))
  refine am_Ev_G [15] 400 _ ?_
  show ((p_M_isTold (am_si h 0 8 0) a1 a2 a3 a4 a5) ∧ am_Ev m_M_trip (WM ++ e1) ro P (15, [.ref 0, .int a1, .int a2, .int a3, .int a4, .int a5], [.int (v_M_isTold (am_si h 0 8 0) a1 a2 a3 a4 a5)], (am_si h 0 8 0)))
  obtain ⟨hob, hp⟩ := hp
  refine ⟨hob, ?_⟩
  refine am_Ev_G [23, 41, 46] 400 _ ?_
  show ((¬ (v_M_isTold (am_si h 0 8 0) a1 a2 a3 a4 a5) = 0 → ((am_in 15 163) ∧ ((¬ ((am_si h 0 8 0).1 1 (am_ix 15)) = 20 → ((g_pre (g_M_saves (WM ++ e1) ro [.ref 0] (am_si h 0 8 0))) ∧ am_Ev m_M_trip (WM ++ e1) ro P (46, [.ref 0, .int a1, .int a2, .int a3, .int a4, .int a5], [], (g_hp (g_M_saves (WM ++ e1) ro [.ref 0] (am_si h 0 8 0)))))) ∧ (((am_si h 0 8 0).1 1 (am_ix 15)) = 20 → am_Ev m_M_trip (WM ++ e1) ro P (41, [.ref 0, .int a1, .int a2, .int a3, .int a4, .int a5], [.int ((v_M_refuses (am_si h 0 8 0) 2).1)], ((v_M_refuses (am_si h 0 8 0) 2).2)))))) ∧ ((v_M_isTold (am_si h 0 8 0) a1 a2 a3 a4 a5) = 0 → am_Ev m_M_trip (WM ++ e1) ro P (23, [.ref 0, .int a1, .int a2, .int a3, .int a4, .int a5], [.int ((v_M_refuses (am_si h 0 8 0) 1).1)], ((v_M_refuses (am_si h 0 8 0) 1).2))))
  show ((¬ (v_M_isTold (am_si h 0 8 0) a1 a2 a3 a4 a5) = 0 → ((am_in 15 163) ∧ ((¬ ((am_si h 0 8 0).1 1 (am_ix 15)) = 20 → ((p_M_saves (am_si h 0 8 0)) ∧ am_Ev m_M_trip (WM ++ e1) ro P (46, [.ref 0, .int a1, .int a2, .int a3, .int a4, .int a5], [], (v_M_saves (am_si h 0 8 0))))) ∧ (((am_si h 0 8 0).1 1 (am_ix 15)) = 20 → am_Ev m_M_trip (WM ++ e1) ro P (41, [.ref 0, .int a1, .int a2, .int a3, .int a4, .int a5], [.int ((v_M_refuses (am_si h 0 8 0) 2).1)], ((v_M_refuses (am_si h 0 8 0) 2).2)))))) ∧ ((v_M_isTold (am_si h 0 8 0) a1 a2 a3 a4 a5) = 0 → am_Ev m_M_trip (WM ++ e1) ro P (23, [.ref 0, .int a1, .int a2, .int a3, .int a4, .int a5], [.int ((v_M_refuses (am_si h 0 8 0) 1).1)], ((v_M_refuses (am_si h 0 8 0) 1).2))))
  refine ⟨fun c1 => ?_, fun c1 => ?_⟩
  · have hp := hp.2 c1
    refine ⟨⟨by decide, by decide⟩, ?_⟩
    refine ⟨fun c2 => ?_, fun c2 => ?_⟩
    · have hp := hp.2 c2
      obtain ⟨hob, hp⟩ := hp
      refine ⟨hob, ?_⟩
      obtain ⟨y1, c3⟩ : ∃ y, v_M_saves (am_si h 0 8 0) = y := ⟨_, rfl⟩
      rw [c3]
      have hp := hp _ c3
      show am_Ev m_M_trip (WM ++ e1) ro P (46, [.ref 0, .int a1, .int a2, .int a3, .int a4, .int a5], [], y1)
      refine am_Ev_G [64] 400 _ ?_
      show ((am_in 15 163) ∧ ((p_M_puts y1 (y1.1 1 (am_ix 15)) a1 a2 a3 a4 a5) ∧ am_Ev m_M_trip (WM ++ e1) ro P (64, [.ref 0, .int a1, .int a2, .int a3, .int a4, .int a5], [], (v_M_puts y1 (y1.1 1 (am_ix 15)) a1 a2 a3 a4 a5))))
      refine ⟨⟨by decide, by decide⟩, ?_⟩
      refine ⟨hp, ?_⟩
      obtain ⟨y2, c4⟩ : ∃ y, v_M_puts y1 (y1.1 1 (am_ix 15)) a1 a2 a3 a4 a5 = y := ⟨_, rfl⟩
      rw [c4]
      show am_Ev m_M_trip (WM ++ e1) ro P (64, [.ref 0, .int a1, .int a2, .int a3, .int a4, .int a5], [], y2)
      refine am_Ev_G [75] 400 _ ?_
      show ((am_in 15 163) ∧ ((am_in 15 163) ∧ am_Ev m_M_trip (WM ++ e1) ro P (75, [.ref 0, .int a1, .int a2, .int a3, .int a4, .int a5], [], (am_si y2 1 (am_ix 15) ((y2.1 1 (am_ix 15)) + 1)))))
      refine ⟨⟨by decide, by decide⟩, ?_⟩
      refine ⟨⟨by decide, by decide⟩, ?_⟩
      refine am_Ev_G [] 400 _ ?_
      show ((am_in 15 163) ∧ P (.inl (some (.int (((am_si y2 1 (am_ix 15) ((y2.1 1 (am_ix 15)) + 1)).1 1 (am_ix 15)) - 1)))) (am_si y2 1 (am_ix 15) ((y2.1 1 (am_ix 15)) + 1)))
      refine ⟨⟨by decide, by decide⟩, ?_⟩
      exact hP ((((am_si y2 1 (am_ix 15) ((y2.1 1 (am_ix 15)) + 1)).1 1 (am_ix 15)) - 1), (am_si y2 1 (am_ix 15) ((y2.1 1 (am_ix 15)) + 1))) (by unfold v_M_trip; simp only [if_neg c1, if_neg c2, bnd, c3, bnd, c4])
    · skip
      obtain ⟨y3, c5⟩ : ∃ y, v_M_refuses (am_si h 0 8 0) 2 = y := ⟨_, rfl⟩
      rw [c5]
      show am_Ev m_M_trip (WM ++ e1) ro P (41, [.ref 0, .int a1, .int a2, .int a3, .int a4, .int a5], [.int y3.1], y3.2)
      refine am_Ev_G [] 400 _ ?_
      show P (.inl (some (.int y3.1))) y3.2
      exact hP (y3.1, y3.2) (by unfold v_M_trip; simp only [if_neg c1, if_pos c2, bnd, c5])
  · skip
    obtain ⟨y4, c6⟩ : ∃ y, v_M_refuses (am_si h 0 8 0) 1 = y := ⟨_, rfl⟩
    rw [c6]
    show am_Ev m_M_trip (WM ++ e1) ro P (23, [.ref 0, .int a1, .int a2, .int a3, .int a4, .int a5], [.int y4.1], y4.2)
    refine am_Ev_G [] 400 _ ?_
    show P (.inl (some (.int y4.1))) y4.2
    exact hP (y4.1, y4.2) (by unfold v_M_trip; simp only [if_pos c1, bnd, c6])
theorem ok_M_trip {l : Launch} (hl : l.stackTraces = false) (e1 ro : List Sh) (k : Nat) : am_Ok l (WM ++ e1) ro (d_M_trip k) := by
  refine am_met hl (own := RX6) (M := m_M_trip) rfl pf_M_trip cu_M_trip rfl rfl rfl rfl (fun _ => rfl) rfl ⟨chk_M_trip, (am_c (fl_M_7) (am_c (fl_M_38) am_n)), (am_c (lk_M_134) (am_c (lk_M_137) (am_c (lk_M_140) (am_c (lk_M_144) am_n)))), (am_n), (am_n)⟩ (am_n) (am_c (ok_M_refuses hl e1 _ 16) (am_c (ok_M_saves hl e1 _ 16) (am_c (ok_M_isTold hl e1 _ 0) (am_c (ok_M_puts hl e1 _ 16) am_n)))) (fun z => nomatch z) ?_ ?_
  · intro _ as h hg
    show g_thr (g_M_trip (WM ++ e1) ro as h) = none
    unfold g_M_trip
    split <;> rfl
  · intro as h hg hp
    revert hg hp
    show g_ok (g_M_trip (WM ++ e1) ro as h) = true → g_pre (g_M_trip (WM ++ e1) ro as h) → _ ∧ am_Ev m_M_trip (WM ++ e1) ro (am_eq (g_M_trip (WM ++ e1) ro as h)) (0, am_ent as 6, [], h)
    unfold g_M_trip
    split
    · rename_i o1 a1 a2 a3 a4 a5
      intro hc hp
      change (Nat.beq o1 0) = true at hc
      obtain rfl := am_beq hc
      exact ⟨Nat.le_of_ble_eq_true rfl, ev_M_trip h a1 a2 a3 a4 a5 hp eqRIW⟩
    · exact fun z => nomatch z
def k_M_parts (pc : Nat) : Ent := bif Nat.ble 28 pc then am_nop else bif Nat.ble 13 pc then (bif Nat.ble 20 pc then (bif Nat.ble 23 pc then (bif Nat.ble 24 pc then (bif Nat.ble 27 pc then (bif Nat.beq pc 27 then (.return_, 0, 0, []) else am_nop) else (bif Nat.beq pc 24 then (.invokevirtual 82, 0, 0, []) else am_nop)) else (bif Nat.beq pc 23 then (.iconst (-1), (-1 : Int32), 0, []) else am_nop)) else (bif Nat.ble 21 pc then (bif Nat.beq pc 21 then (.bipush 6, 6, 0, []) else am_nop) else (bif Nat.beq pc 20 then (.iload_n 1, 0, 1, []) else am_nop))) else (bif Nat.ble 16 pc then (bif Nat.ble 19 pc then (bif Nat.beq pc 19 then (.aload_n 0, 0, 0, []) else am_nop) else (bif Nat.beq pc 16 then (.invokevirtual 82, 0, 0, []) else am_nop)) else (bif Nat.ble 15 pc then (bif Nat.beq pc 15 then (.iconst (-1), (-1 : Int32), 0, []) else am_nop) else (bif Nat.beq pc 13 then (.bipush 6, 6, 0, []) else am_nop)))) else (bif Nat.ble 6 pc then (bif Nat.ble 8 pc then (bif Nat.ble 11 pc then (bif Nat.ble 12 pc then (bif Nat.beq pc 12 then (.iload_n 2, 0, 2, []) else am_nop) else (bif Nat.beq pc 11 then (.aload_n 0, 0, 0, []) else am_nop)) else (bif Nat.beq pc 8 then (.if_icmp .eq 11, 0, 19, []) else am_nop)) else (bif Nat.ble 7 pc then (bif Nat.beq pc 7 then (.iconst (-1), (-1 : Int32), 0, []) else am_nop) else (bif Nat.beq pc 6 then (.iload_n 2, 0, 2, []) else am_nop))) else (bif Nat.ble 2 pc then (bif Nat.ble 5 pc then (bif Nat.beq pc 5 then (.istore_n 2, 0, 2, []) else am_nop) else (bif Nat.beq pc 2 then (.invokevirtual 64, 0, 0, []) else am_nop)) else (bif Nat.ble 1 pc then (bif Nat.beq pc 1 then (.iload_n 1, 0, 1, []) else am_nop) else (bif Nat.beq pc 0 then (.aload_n 0, 0, 0, []) else am_nop))))
def m_M_parts : MI := (k_M_parts, [], [(64, d_M_before 16), (82, d_M_becomes 16)], [], [], [], [], 3, 66, none, fun _ => 0, 1)
def v_M_parts (h : HP) (a1 : Int32) : HP := (if (v_M_before h a1) = (-1 : Int32) then (bnd (v_M_becomes h a1 6 (-1 : Int32)) fun y1 => y1) else (bnd (v_M_becomes h (v_M_before h a1) 6 (-1 : Int32)) fun y2 => (bnd (v_M_becomes y2 a1 6 (-1 : Int32)) fun y3 => y3)))
def p_M_parts (h : HP) (a1 : Int32) : Prop := ((p_M_before h a1) ∧ (((v_M_before h a1) = (-1 : Int32) → (p_M_becomes h a1 6 (-1 : Int32))) ∧ (¬ (v_M_before h a1) = (-1 : Int32) → ((p_M_becomes h (v_M_before h a1) 6 (-1 : Int32)) ∧ (∀ y2, v_M_becomes h (v_M_before h a1) 6 (-1 : Int32) = y2 → (p_M_becomes y2 a1 6 (-1 : Int32)))))))
def g_M_parts (_ _ : List Sh) (as : List Value) (h : HP) : GR := match as with
  | [.ref o1, .int a1] => (Nat.beq o1 0, p_M_parts h a1, none, none, v_M_parts h a1)
  | _ => bad h
def d_M_parts (k : Nat) : CD := (k, yX6_parts, cX6_parts, 3, none, 2, 3, 66, 0, false, true, g_M_parts)
theorem chk_M_parts : ∀ pc, am_chk cX6_parts k_M_parts pc = true := am_chkall 28 (by decide +kernel) (fun pc h => by unfold k_M_parts; rw [Nat.ble_eq_true_of_le h]; rfl)
theorem pf_M_parts : plainFor yX6_parts = true := by decide +kernel
theorem cu_M_parts : Cond.code yX6_parts cX6_parts 3 (none) ∈ am_U := am_tb 997 (by decide +kernel) rfl
set_option maxHeartbeats 20000000 in
set_option maxRecDepth 100000 in
theorem ev_M_parts {e1 ro : List Sh} {P : AR → HP → Prop} (h : HP) (a1 : Int32) (hp : p_M_parts h a1) (hP : ∀ q, v_M_parts h a1 = q → RVW P h q) : am_Ev m_M_parts (WM ++ e1) ro P (0, [.ref 0, .int a1, .retAddr 0], [], h) := by
  unfold p_M_parts at hp
  refine am_Ev_G [19] 400 _ ?_
  show ((p_M_before h a1) ∧ (((v_M_before h a1) = (-1 : Int32) → am_Ev m_M_parts (WM ++ e1) ro P (19, [.ref 0, .int a1, .int (v_M_before h a1)], [], h)) ∧ (¬ (v_M_before h a1) = (-1 : Int32) → ((p_M_becomes h (v_M_before h a1) 6 (-1 : Int32)) ∧ am_Ev m_M_parts (WM ++ e1) ro P (19, [.ref 0, .int a1, .int (v_M_before h a1)], [], (v_M_becomes h (v_M_before h a1) 6 (-1 : Int32)))))))
  obtain ⟨hob, hp⟩ := hp
  refine ⟨hob, ?_⟩
  refine ⟨fun c1 => ?_, fun c1 => ?_⟩
  · have hp := hp.1 c1
    refine am_Ev_G [27] 400 _ ?_
    show ((p_M_becomes h a1 6 (-1 : Int32)) ∧ am_Ev m_M_parts (WM ++ e1) ro P (27, [.ref 0, .int a1, .int (v_M_before h a1)], [], (v_M_becomes h a1 6 (-1 : Int32))))
    refine ⟨hp, ?_⟩
    obtain ⟨y1, c2⟩ : ∃ y, v_M_becomes h a1 6 (-1 : Int32) = y := ⟨_, rfl⟩
    rw [c2]
    show am_Ev m_M_parts (WM ++ e1) ro P (27, [.ref 0, .int a1, .int (v_M_before h a1)], [], y1)
    refine am_Ev_G [] 400 _ ?_
    show P (.inl none) y1
    exact hP y1 (by unfold v_M_parts; simp only [if_pos c1, bnd, c2])
  · have hp := hp.2 c1
    obtain ⟨hob, hp⟩ := hp
    refine ⟨hob, ?_⟩
    obtain ⟨y2, c3⟩ : ∃ y, v_M_becomes h (v_M_before h a1) 6 (-1 : Int32) = y := ⟨_, rfl⟩
    rw [c3]
    have hp := hp _ c3
    show am_Ev m_M_parts (WM ++ e1) ro P (19, [.ref 0, .int a1, .int (v_M_before h a1)], [], y2)
    refine am_Ev_G [27] 400 _ ?_
    show ((p_M_becomes y2 a1 6 (-1 : Int32)) ∧ am_Ev m_M_parts (WM ++ e1) ro P (27, [.ref 0, .int a1, .int (v_M_before h a1)], [], (v_M_becomes y2 a1 6 (-1 : Int32))))
    refine ⟨hp, ?_⟩
    obtain ⟨y3, c4⟩ : ∃ y, v_M_becomes y2 a1 6 (-1 : Int32) = y := ⟨_, rfl⟩
    rw [c4]
    show am_Ev m_M_parts (WM ++ e1) ro P (27, [.ref 0, .int a1, .int (v_M_before h a1)], [], y3)
    refine am_Ev_G [] 400 _ ?_
    show P (.inl none) y3
    exact hP y3 (by unfold v_M_parts; simp only [if_neg c1, bnd, c3, bnd, c4])
theorem ok_M_parts {l : Launch} (hl : l.stackTraces = false) (e1 ro : List Sh) (k : Nat) : am_Ok l (WM ++ e1) ro (d_M_parts k) := by
  refine am_met hl (own := RX6) (M := m_M_parts) rfl pf_M_parts cu_M_parts rfl rfl rfl rfl (fun _ => rfl) rfl ⟨chk_M_parts, (am_n), (am_c (lk_M_64) (am_c (lk_M_82) am_n)), (am_n), (am_n)⟩ (am_n) (am_c (ok_M_before hl e1 _ 16) (am_c (ok_M_becomes hl e1 _ 16) am_n)) (fun z => nomatch z) ?_ ?_
  · intro _ as h hg
    show g_thr (g_M_parts (WM ++ e1) ro as h) = none
    unfold g_M_parts
    split <;> rfl
  · intro as h hg hp
    revert hg hp
    show g_ok (g_M_parts (WM ++ e1) ro as h) = true → g_pre (g_M_parts (WM ++ e1) ro as h) → _ ∧ am_Ev m_M_parts (WM ++ e1) ro (am_eq (g_M_parts (WM ++ e1) ro as h)) (0, am_ent as 3, [], h)
    unfold g_M_parts
    split
    · rename_i o1 a1
      intro hc hp
      change (Nat.beq o1 0) = true at hc
      obtain rfl := am_beq hc
      exact ⟨Nat.le_of_ble_eq_true rfl, ev_M_parts h a1 hp eqRVW⟩
    · exact fun z => nomatch z

end
