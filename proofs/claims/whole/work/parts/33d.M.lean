/-! BusBlocksModel, out of its code (written by gen/meth.py). -/
noncomputable section
def k_M_dutyTold (pc : Nat) : Ent := bif Nat.ble 88 pc then am_nop else bif Nat.ble 44 pc then (bif Nat.ble 66 pc then (bif Nat.ble 76 pc then (bif Nat.ble 82 pc then (bif Nat.ble 86 pc then (bif Nat.ble 87 pc then (bif Nat.beq pc 87 then (.ireturn, 0, 0, []) else am_nop) else (bif Nat.beq pc 86 then (.isub, 0, 0, []) else am_nop)) else (bif Nat.ble 83 pc then (bif Nat.beq pc 83 then (.invokevirtual 49, 0, 0, []) else am_nop) else (bif Nat.beq pc 82 then (.iconst 3, 3, 0, []) else am_nop))) else (bif Nat.ble 79 pc then (bif Nat.ble 80 pc then (bif Nat.beq pc 80 then (.iload 6, 0, 6, []) else am_nop) else (bif Nat.beq pc 79 then (.aload_n 0, 0, 0, []) else am_nop)) else (bif Nat.beq pc 76 then (.invokevirtual 53, 0, 0, []) else am_nop))) else (bif Nat.ble 71 pc then (bif Nat.ble 74 pc then (bif Nat.ble 75 pc then (bif Nat.beq pc 75 then (.iaload, 0, 0, []) else am_nop) else (bif Nat.beq pc 74 then (.iload_n 2, 0, 2, []) else am_nop)) else (bif Nat.beq pc 71 then (.getfield 29, 0, 0, []) else am_nop)) else (bif Nat.ble 69 pc then (bif Nat.ble 70 pc then (bif Nat.beq pc 70 then (.aload_n 0, 0, 0, []) else am_nop) else (bif Nat.beq pc 69 then (.aload_n 0, 0, 0, []) else am_nop)) else (bif Nat.beq pc 66 then (.goto 21, 0, 87, []) else am_nop)))) else (bif Nat.ble 56 pc then (bif Nat.ble 61 pc then (bif Nat.ble 64 pc then (bif Nat.ble 65 pc then (bif Nat.beq pc 65 then (.iaload, 0, 0, []) else am_nop) else (bif Nat.beq pc 64 then (.iload_n 2, 0, 2, []) else am_nop)) else (bif Nat.beq pc 61 then (.getfield 29, 0, 0, []) else am_nop)) else (bif Nat.ble 57 pc then (bif Nat.ble 60 pc then (bif Nat.beq pc 60 then (.aload_n 0, 0, 0, []) else am_nop) else (bif Nat.beq pc 57 then (.if_icmp .ne 12, 0, 69, []) else am_nop)) else (bif Nat.beq pc 56 then (.iconst 1, 1, 0, []) else am_nop))) else (bif Nat.ble 50 pc then (bif Nat.ble 52 pc then (bif Nat.ble 55 pc then (bif Nat.beq pc 55 then (.iload_n 3, 0, 3, []) else am_nop) else (bif Nat.beq pc 52 then (.goto 35, 0, 87, []) else am_nop)) else (bif Nat.beq pc 50 then (.iload 6, 0, 6, []) else am_nop)) else (bif Nat.ble 46 pc then (bif Nat.ble 47 pc then (bif Nat.beq pc 47 then (.ifCond .ne 8, 0, 55, []) else am_nop) else (bif Nat.beq pc 46 then (.iload_n 3, 0, 3, []) else am_nop)) else (bif Nat.beq pc 44 then (.istore 6, 0, 6, []) else am_nop))))) else (bif Nat.ble 22 pc then (bif Nat.ble 33 pc then (bif Nat.ble 38 pc then (bif Nat.ble 40 pc then (bif Nat.ble 41 pc then (bif Nat.beq pc 41 then (.invokevirtual 57, 0, 0, []) else am_nop) else (bif Nat.beq pc 40 then (.iaload, 0, 0, []) else am_nop)) else (bif Nat.ble 39 pc then (bif Nat.beq pc 39 then (.isub, 0, 0, []) else am_nop) else (bif Nat.beq pc 38 then (.iconst 1, 1, 0, []) else am_nop))) else (bif Nat.ble 34 pc then (bif Nat.ble 37 pc then (bif Nat.beq pc 37 then (.iload_n 2, 0, 2, []) else am_nop) else (bif Nat.beq pc 34 then (.getfield 29, 0, 0, []) else am_nop)) else (bif Nat.beq pc 33 then (.aload_n 0, 0, 0, []) else am_nop))) else (bif Nat.ble 27 pc then (bif Nat.ble 29 pc then (bif Nat.ble 32 pc then (bif Nat.beq pc 32 then (.aload_n 0, 0, 0, []) else am_nop) else (bif Nat.beq pc 29 then (.goto 15, 0, 44, []) else am_nop)) else (bif Nat.beq pc 27 then (.iload 4, 0, 4, []) else am_nop)) else (bif Nat.ble 23 pc then (bif Nat.ble 24 pc then (bif Nat.beq pc 24 then (.ifCond .ne 8, 0, 32, []) else am_nop) else (bif Nat.beq pc 23 then (.iload_n 2, 0, 2, []) else am_nop)) else (bif Nat.beq pc 22 then (.ireturn, 0, 0, []) else am_nop)))) else (bif Nat.ble 10 pc then (bif Nat.ble 16 pc then (bif Nat.ble 18 pc then (bif Nat.ble 21 pc then (bif Nat.beq pc 21 then (.iconst (-1), (-1 : Int32), 0, []) else am_nop) else (bif Nat.beq pc 18 then (.if_icmp .lt 5, 0, 23, []) else am_nop)) else (bif Nat.beq pc 16 then (.iload 5, 0, 5, []) else am_nop)) else (bif Nat.ble 13 pc then (bif Nat.ble 15 pc then (bif Nat.beq pc 15 then (.iload_n 2, 0, 2, []) else am_nop) else (bif Nat.beq pc 13 then (.istore 5, 0, 5, []) else am_nop)) else (bif Nat.beq pc 10 then (.invokevirtual 124, 0, 0, []) else am_nop))) else (bif Nat.ble 5 pc then (bif Nat.ble 7 pc then (bif Nat.ble 8 pc then (bif Nat.beq pc 8 then (.iload 4, 0, 4, []) else am_nop) else (bif Nat.beq pc 7 then (.aload_n 0, 0, 0, []) else am_nop)) else (bif Nat.beq pc 5 then (.istore 4, 0, 4, []) else am_nop)) else (bif Nat.ble 1 pc then (bif Nat.ble 2 pc then (bif Nat.beq pc 2 then (.invokevirtual 203, 0, 0, []) else am_nop) else (bif Nat.beq pc 1 then (.iload_n 1, 0, 1, []) else am_nop)) else (bif Nat.beq pc 0 then (.aload_n 0, 0, 0, []) else am_nop)))))
def m_M_dutyTold : MI := (k_M_dutyTold, [(29, 6, 10)], [(49, d_M_of 16), (53, d_M_arrival 16), (57, d_M_next 16), (124, d_M_cuts 16), (203, d_M_firstOf 16)], [], [], [], [], 5, 110, some .int, fun _ => 0, 1)
def v_M_dutyTold (h : HP) (a1 : Int32) (a2 : Int32) (a3 : Int32) : Int32 × HP := (bnd (v_M_cuts h (v_M_firstOf h a1)) fun y1 => (if a2 < y1.1 then ((if a3 = 0 then (if a2 = 0 then (v_M_firstOf h a1) else (v_M_next y1.2 (y1.2.1 7 (am_ix (a2 - 1))))) else (if a3 = 1 then y1.2.1 7 (am_ix a2) else ((v_M_arrival y1.2 (y1.2.1 7 (am_ix a2))) - (v_M_of y1.2 (if a2 = 0 then (v_M_firstOf h a1) else (v_M_next y1.2 (y1.2.1 7 (am_ix (a2 - 1))))) 3)))), y1.2) else ((-1 : Int32), y1.2)))
def p_M_dutyTold (h : HP) (a1 : Int32) (a2 : Int32) (a3 : Int32) : Prop := ((p_M_firstOf h a1) ∧ ((p_M_cuts h (v_M_firstOf h a1)) ∧ (∀ y1, v_M_cuts h (v_M_firstOf h a1) = y1 → ((a2 < y1.1 → (((a2 = 0 → True) ∧ (¬ a2 = 0 → ((am_in (a2 - 1) 20) ∧ (p_M_next y1.2 (y1.2.1 7 (am_ix (a2 - 1))))))) ∧ ((a3 = 0 → True) ∧ (¬ a3 = 0 → ((a3 = 1 → (am_in a2 20)) ∧ (¬ a3 = 1 → ((am_in a2 20) ∧ ((p_M_arrival y1.2 (y1.2.1 7 (am_ix a2))) ∧ (p_M_of y1.2 (if a2 = 0 then (v_M_firstOf h a1) else (v_M_next y1.2 (y1.2.1 7 (am_ix (a2 - 1))))) 3))))))))) ∧ (¬ a2 < y1.1 → True)))))
def g_M_dutyTold (_ _ : List Sh) (as : List Value) (h : HP) : GR := match as with
  | [.ref o1, .int a1, .int a2, .int a3] => (Nat.beq o1 0, p_M_dutyTold h a1 a2 a3, none, some (.int (v_M_dutyTold h a1 a2 a3).1), (v_M_dutyTold h a1 a2 a3).2)
  | _ => bad h
def d_M_dutyTold (k : Nat) : CD := (k, yX6_dutyTold, cX6_dutyTold, 7, some .int, 4, 5, 110, 0, false, true, g_M_dutyTold)
theorem chk_M_dutyTold : ∀ pc, am_chk cX6_dutyTold k_M_dutyTold pc = true := am_chkall 88 (by decide +kernel) (fun pc h => by unfold k_M_dutyTold; rw [Nat.ble_eq_true_of_le h]; rfl)
theorem pf_M_dutyTold : plainFor yX6_dutyTold = true := by decide +kernel
theorem cu_M_dutyTold : Cond.code yX6_dutyTold cX6_dutyTold 7 (some .int) ∈ am_U := am_tb 1224 (by decide +kernel) rfl
set_option maxHeartbeats 20000000 in
set_option maxRecDepth 100000 in
theorem ev_M_dutyTold {e1 ro : List Sh} {P : AR → HP → Prop} (h : HP) (a1 : Int32) (a2 : Int32) (a3 : Int32) (hp : p_M_dutyTold h a1 a2 a3) (hP : ∀ q, v_M_dutyTold h a1 a2 a3 = q → RIW P h q) : am_Ev m_M_dutyTold (WM ++ e1) ro P (0, [.ref 0, .int a1, .int a2, .int a3, .retAddr 0, .retAddr 0, .retAddr 0], [], h) := by
  unfold p_M_dutyTold at hp
  refine am_Ev_G [13] 400 _ ?_
  show ((p_M_firstOf h a1) ∧ ((p_M_cuts h (v_M_firstOf h a1)) ∧ am_Ev m_M_dutyTold (WM ++ e1) ro P (13, [.ref 0, .int a1, .int a2, .int a3, .int (v_M_firstOf h a1), .retAddr 0, .retAddr 0], [.int ((v_M_cuts h (v_M_firstOf h a1)).1)], ((v_M_cuts h (v_M_firstOf h a1)).2))))
  obtain ⟨hob, hp⟩ := hp
  refine ⟨hob, ?_⟩
  obtain ⟨hob, hp⟩ := hp
  refine ⟨hob, ?_⟩
  obtain ⟨y1, c1⟩ : ∃ y, v_M_cuts h (v_M_firstOf h a1) = y := ⟨_, rfl⟩
  rw [c1]
  have hp := hp _ c1
  show am_Ev m_M_dutyTold (WM ++ e1) ro P (13, [.ref 0, .int a1, .int a2, .int a3, .int (v_M_firstOf h a1), .retAddr 0, .retAddr 0], [.int y1.1], y1.2)
  refine am_Ev_G [24] 400 _ ?_
  show ((a2 < y1.1 → am_Ev m_M_dutyTold (WM ++ e1) ro P (24, [.ref 0, .int a1, .int a2, .int a3, .int (v_M_firstOf h a1), .int y1.1, .retAddr 0], [.int a2], y1.2)) ∧ (¬ a2 < y1.1 → P (.inl (some (.int (-1 : Int32)))) y1.2))
  refine ⟨fun c2 => ?_, fun c2 => ?_⟩
  · have hp := hp.1 c2
    obtain ⟨hpa, hp⟩ := hp
    have key3 : am_Ev m_M_dutyTold (WM ++ e1) ro P (44, [.ref 0, .int a1, .int a2, .int a3, .int (v_M_firstOf h a1), .int y1.1, .retAddr 0], [.int (if a2 = 0 then (v_M_firstOf h a1) else (v_M_next y1.2 (y1.2.1 7 (am_ix (a2 - 1)))))], y1.2) := by
      refine am_Ev_G [47] 400 _ ?_
      show am_Ev m_M_dutyTold (WM ++ e1) ro P (47, [.ref 0, .int a1, .int a2, .int a3, .int (v_M_firstOf h a1), .int y1.1, .int (if a2 = 0 then (v_M_firstOf h a1) else (v_M_next y1.2 (y1.2.1 7 (am_ix (a2 - 1)))))], [.int a3], y1.2)
      have hpa := hp
      have key4 : am_Ev m_M_dutyTold (WM ++ e1) ro P (87, [.ref 0, .int a1, .int a2, .int a3, .int (v_M_firstOf h a1), .int y1.1, .int (if a2 = 0 then (v_M_firstOf h a1) else (v_M_next y1.2 (y1.2.1 7 (am_ix (a2 - 1)))))], [.int (if a3 = 0 then (if a2 = 0 then (v_M_firstOf h a1) else (v_M_next y1.2 (y1.2.1 7 (am_ix (a2 - 1))))) else (if a3 = 1 then y1.2.1 7 (am_ix a2) else ((v_M_arrival y1.2 (y1.2.1 7 (am_ix a2))) - (v_M_of y1.2 (if a2 = 0 then (v_M_firstOf h a1) else (v_M_next y1.2 (y1.2.1 7 (am_ix (a2 - 1))))) 3))))], y1.2) := by
        refine am_Ev_G [] 400 _ ?_
        show P (.inl (some (.int (if a3 = 0 then (if a2 = 0 then (v_M_firstOf h a1) else (v_M_next y1.2 (y1.2.1 7 (am_ix (a2 - 1))))) else (if a3 = 1 then y1.2.1 7 (am_ix a2) else ((v_M_arrival y1.2 (y1.2.1 7 (am_ix a2))) - (v_M_of y1.2 (if a2 = 0 then (v_M_firstOf h a1) else (v_M_next y1.2 (y1.2.1 7 (am_ix (a2 - 1))))) 3))))))) y1.2
        exact hP ((if a3 = 0 then (if a2 = 0 then (v_M_firstOf h a1) else (v_M_next y1.2 (y1.2.1 7 (am_ix (a2 - 1))))) else (if a3 = 1 then y1.2.1 7 (am_ix a2) else ((v_M_arrival y1.2 (y1.2.1 7 (am_ix a2))) - (v_M_of y1.2 (if a2 = 0 then (v_M_firstOf h a1) else (v_M_next y1.2 (y1.2.1 7 (am_ix (a2 - 1))))) 3)))), y1.2) (by unfold v_M_dutyTold; simp only [bnd, c1, if_pos c2])
      have hp := hpa
      refine am_Ev_G [87] 400 _ ?_
      show ((¬ a3 = 0 → ((¬ a3 = 1 → ((am_in a2 20) ∧ ((p_M_arrival y1.2 (y1.2.1 7 (am_ix a2))) ∧ ((p_M_of y1.2 (if a2 = 0 then (v_M_firstOf h a1) else (v_M_next y1.2 (y1.2.1 7 (am_ix (a2 - 1))))) 3) ∧ am_Ev m_M_dutyTold (WM ++ e1) ro P (87, [.ref 0, .int a1, .int a2, .int a3, .int (v_M_firstOf h a1), .int y1.1, .int (if a2 = 0 then (v_M_firstOf h a1) else (v_M_next y1.2 (y1.2.1 7 (am_ix (a2 - 1)))))], [.int ((v_M_arrival y1.2 (y1.2.1 7 (am_ix a2))) - (v_M_of y1.2 (if a2 = 0 then (v_M_firstOf h a1) else (v_M_next y1.2 (y1.2.1 7 (am_ix (a2 - 1))))) 3))], y1.2))))) ∧ (a3 = 1 → ((am_in a2 20) ∧ am_Ev m_M_dutyTold (WM ++ e1) ro P (87, [.ref 0, .int a1, .int a2, .int a3, .int (v_M_firstOf h a1), .int y1.1, .int (if a2 = 0 then (v_M_firstOf h a1) else (v_M_next y1.2 (y1.2.1 7 (am_ix (a2 - 1)))))], [.int (y1.2.1 7 (am_ix a2))], y1.2))))) ∧ (a3 = 0 → am_Ev m_M_dutyTold (WM ++ e1) ro P (87, [.ref 0, .int a1, .int a2, .int a3, .int (v_M_firstOf h a1), .int y1.1, .int (if a2 = 0 then (v_M_firstOf h a1) else (v_M_next y1.2 (y1.2.1 7 (am_ix (a2 - 1)))))], [.int (if a2 = 0 then (v_M_firstOf h a1) else (v_M_next y1.2 (y1.2.1 7 (am_ix (a2 - 1)))))], y1.2)))
      refine ⟨fun c5 => ?_, fun c5 => ?_⟩
      · have hp := hp.2 c5
        refine ⟨fun c6 => ?_, fun c6 => ?_⟩
        · have hp := hp.2 c6
          obtain ⟨hob, hp⟩ := hp
          refine ⟨hob, ?_⟩
          obtain ⟨hob, hp⟩ := hp
          refine ⟨hob, ?_⟩
          refine ⟨hp, ?_⟩
          simpa only [if_neg c5, if_neg c6] using key4
        · have hp := hp.1 c6
          refine ⟨hp, ?_⟩
          simpa only [if_neg c5, if_pos c6] using key4
      · skip
        simpa only [if_pos c5] using key4
    have hp := hpa
    refine am_Ev_G [44] 400 _ ?_
    show ((¬ a2 = 0 → ((am_in (a2 - 1) 20) ∧ ((p_M_next y1.2 (y1.2.1 7 (am_ix (a2 - 1)))) ∧ am_Ev m_M_dutyTold (WM ++ e1) ro P (44, [.ref 0, .int a1, .int a2, .int a3, .int (v_M_firstOf h a1), .int y1.1, .retAddr 0], [.int (v_M_next y1.2 (y1.2.1 7 (am_ix (a2 - 1))))], y1.2)))) ∧ (a2 = 0 → am_Ev m_M_dutyTold (WM ++ e1) ro P (44, [.ref 0, .int a1, .int a2, .int a3, .int (v_M_firstOf h a1), .int y1.1, .retAddr 0], [.int (v_M_firstOf h a1)], y1.2)))
    refine ⟨fun c7 => ?_, fun c7 => ?_⟩
    · have hp := hp.2 c7
      obtain ⟨hob, hp⟩ := hp
      refine ⟨hob, ?_⟩
      refine ⟨hp, ?_⟩
      simpa only [if_neg c7] using key3
    · skip
      simpa only [if_pos c7] using key3
  · skip
    exact hP ((-1 : Int32), y1.2) (by unfold v_M_dutyTold; simp only [bnd, c1, if_neg c2])
theorem ok_M_dutyTold {l : Launch} (hl : l.stackTraces = false) (e1 ro : List Sh) (k : Nat) : am_Ok l (WM ++ e1) ro (d_M_dutyTold k) := by
  refine am_met hl (own := RX6) (M := m_M_dutyTold) rfl pf_M_dutyTold cu_M_dutyTold rfl rfl rfl rfl (fun _ => rfl) rfl ⟨chk_M_dutyTold, (am_c (fl_M_29) am_n), (am_c (lk_M_49) (am_c (lk_M_53) (am_c (lk_M_57) (am_c (lk_M_124) (am_c (lk_M_203) am_n))))), (am_n), (am_n)⟩ (am_n) (am_c (ok_M_of hl e1 _ 16) (am_c (ok_M_arrival hl e1 _ 16) (am_c (ok_M_next hl e1 _ 16) (am_c (ok_M_cuts hl e1 _ 16) (am_c (ok_M_firstOf hl e1 _ 16) am_n))))) (fun z => nomatch z) ?_ ?_
  · intro _ as h hg
    show g_thr (g_M_dutyTold (WM ++ e1) ro as h) = none
    unfold g_M_dutyTold
    split <;> rfl
  · intro as h hg hp
    revert hg hp
    show g_ok (g_M_dutyTold (WM ++ e1) ro as h) = true → g_pre (g_M_dutyTold (WM ++ e1) ro as h) → _ ∧ am_Ev m_M_dutyTold (WM ++ e1) ro (am_eq (g_M_dutyTold (WM ++ e1) ro as h)) (0, am_ent as 7, [], h)
    unfold g_M_dutyTold
    split
    · rename_i o1 a1 a2 a3
      intro hc hp
      change (Nat.beq o1 0) = true at hc
      obtain rfl := am_beq hc
      exact ⟨Nat.le_of_ble_eq_true rfl, ev_M_dutyTold h a1 a2 a3 hp eqRIW⟩
    · exact fun z => nomatch z
def k_M_duty (pc : Nat) : Ent := bif Nat.ble 48 pc then am_nop else bif Nat.ble 24 pc then (bif Nat.ble 35 pc then (bif Nat.ble 42 pc then (bif Nat.ble 44 pc then (bif Nat.ble 47 pc then (bif Nat.beq pc 47 then (.ireturn, 0, 0, []) else am_nop) else (bif Nat.beq pc 44 then (.invokevirtual 134, 0, 0, []) else am_nop)) else (bif Nat.ble 43 pc then (bif Nat.beq pc 43 then (.iconst 2, 2, 0, []) else am_nop) else (bif Nat.beq pc 42 then (.aload_n 0, 0, 0, []) else am_nop))) else (bif Nat.ble 36 pc then (bif Nat.ble 39 pc then (bif Nat.beq pc 39 then (.goto 8, 0, 47, []) else am_nop) else (bif Nat.beq pc 36 then (.invokevirtual 227, 0, 0, []) else am_nop)) else (bif Nat.beq pc 35 then (.iload_n 3, 0, 3, []) else am_nop))) else (bif Nat.ble 29 pc then (bif Nat.ble 33 pc then (bif Nat.ble 34 pc then (bif Nat.beq pc 34 then (.iload_n 2, 0, 2, []) else am_nop) else (bif Nat.beq pc 33 then (.iload_n 1, 0, 1, []) else am_nop)) else (bif Nat.ble 32 pc then (bif Nat.beq pc 32 then (.aload_n 0, 0, 0, []) else am_nop) else (bif Nat.beq pc 29 then (.ifCond .eq 13, 0, 42, []) else am_nop))) else (bif Nat.ble 25 pc then (bif Nat.ble 26 pc then (bif Nat.beq pc 26 then (.invokestatic 127, 0, 0, []) else am_nop) else (bif Nat.beq pc 25 then (.iconst 2, 2, 0, []) else am_nop)) else (bif Nat.beq pc 24 then (.iconst 0, 0, 0, []) else am_nop)))) else (bif Nat.ble 13 pc then (bif Nat.ble 18 pc then (bif Nat.ble 20 pc then (bif Nat.ble 23 pc then (bif Nat.beq pc 23 then (.iload_n 3, 0, 3, []) else am_nop) else (bif Nat.beq pc 20 then (.ifCond .lt 22, 0, 42, []) else am_nop)) else (bif Nat.ble 19 pc then (bif Nat.beq pc 19 then (.iload_n 2, 0, 2, []) else am_nop) else (bif Nat.beq pc 18 then (.ireturn, 0, 0, []) else am_nop))) else (bif Nat.ble 14 pc then (bif Nat.ble 15 pc then (bif Nat.beq pc 15 then (.invokevirtual 134, 0, 0, []) else am_nop) else (bif Nat.beq pc 14 then (.iconst 1, 1, 0, []) else am_nop)) else (bif Nat.beq pc 13 then (.aload_n 0, 0, 0, []) else am_nop))) else (bif Nat.ble 5 pc then (bif Nat.ble 7 pc then (bif Nat.ble 10 pc then (bif Nat.beq pc 10 then (.ifCond .ne 9, 0, 19, []) else am_nop) else (bif Nat.beq pc 7 then (.invokevirtual 221, 0, 0, []) else am_nop)) else (bif Nat.ble 6 pc then (bif Nat.beq pc 6 then (.iload_n 1, 0, 1, []) else am_nop) else (bif Nat.beq pc 5 then (.aload_n 0, 0, 0, []) else am_nop))) else (bif Nat.ble 1 pc then (bif Nat.ble 2 pc then (bif Nat.beq pc 2 then (.putfield 38, 0, 0, []) else am_nop) else (bif Nat.beq pc 1 then (.iconst 0, 0, 0, []) else am_nop)) else (bif Nat.beq pc 0 then (.aload_n 0, 0, 0, []) else am_nop))))
theorem lk_M_227 : am_lnk RX6 227 (d_M_dutyTold 16) := ⟨⟨by decide, by decide⟩, am_tb 8 (by decide +kernel) rfl, Or.inr ⟨by decide, rfl, am_tb 1223 (by decide +kernel) rfl, am_tp 116 (by decide +kernel) rfl, ⟨TX6, 16, rfl⟩, Or.inl (am_tb 1221 (by decide +kernel) rfl)⟩⟩
def m_M_duty : MI := (k_M_duty, [(38, 6, 8)], [(127, d_M_in 0), (134, d_M_refuses 16), (221, d_M_isBlock 16), (227, d_M_dutyTold 16)], [], [], [], [], 6, 136, some .int, fun _ => 0, 1)
def v_M_duty (h : HP) (a1 : Int32) (a2 : Int32) (a3 : Int32) : Int32 × HP := (if (v_M_isBlock (am_si h 0 8 0) a1) = 0 then (bnd (v_M_refuses (am_si h 0 8 0) 1) fun y4 => (y4.1, y4.2)) else (if a2 < 0 then (bnd (v_M_refuses (am_si h 0 8 0) 2) fun y1 => (y1.1, y1.2)) else (if (v_M_in (am_si h 0 8 0) a3 0 2) = 0 then (bnd (v_M_refuses (am_si h 0 8 0) 2) fun y2 => (y2.1, y2.2)) else (bnd (v_M_dutyTold (am_si h 0 8 0) a1 a2 a3) fun y3 => (y3.1, y3.2)))))
def p_M_duty (h : HP) (a1 : Int32) (a2 : Int32) (a3 : Int32) : Prop := ((p_M_isBlock (am_si h 0 8 0) a1) ∧ (((v_M_isBlock (am_si h 0 8 0) a1) = 0 → True) ∧ (¬ (v_M_isBlock (am_si h 0 8 0) a1) = 0 → ((a2 < 0 → True) ∧ (¬ a2 < 0 → (((v_M_in (am_si h 0 8 0) a3 0 2) = 0 → True) ∧ (¬ (v_M_in (am_si h 0 8 0) a3 0 2) = 0 → (p_M_dutyTold (am_si h 0 8 0) a1 a2 a3))))))))
def g_M_duty (_ _ : List Sh) (as : List Value) (h : HP) : GR := match as with
  | [.ref o1, .int a1, .int a2, .int a3] => (Nat.beq o1 0, p_M_duty h a1 a2 a3, none, some (.int (v_M_duty h a1 a2 a3).1), (v_M_duty h a1 a2 a3).2)
  | _ => bad h
def d_M_duty (k : Nat) : CD := (k, yX6_duty, cX6_duty, 4, some .int, 4, 6, 136, 0, false, true, g_M_duty)
theorem chk_M_duty : ∀ pc, am_chk cX6_duty k_M_duty pc = true := am_chkall 48 (by decide +kernel) (fun pc h => by unfold k_M_duty; rw [Nat.ble_eq_true_of_le h]; rfl)
theorem pf_M_duty : plainFor yX6_duty = true := by decide +kernel
theorem cu_M_duty : Cond.code yX6_duty cX6_duty 4 (some .int) ∈ am_U := am_tb 1220 (by decide +kernel) rfl
set_option maxHeartbeats 20000000 in
set_option maxRecDepth 100000 in
theorem ev_M_duty {e1 ro : List Sh} {P : AR → HP → Prop} (h : HP) (a1 : Int32) (a2 : Int32) (a3 : Int32) (hp : p_M_duty h a1 a2 a3) (hP : ∀ q, v_M_duty h a1 a2 a3 = q → RIW P h q) : am_Ev m_M_duty (WM ++ e1) ro P (0, [.ref 0, .int a1, .int a2, .int a3], [], h) := by
  unfold p_M_duty at hp
  refine am_Ev_G [5] 400 _ ?_
  show am_Ev m_M_duty (WM ++ e1) ro P (5, [.ref 0, .int a1, .int a2, .int a3], [], (am_si h 0 8 0))
  refine am_Ev_G [18, 39, 47] 400 _ ?_
  show ((p_M_isBlock (am_si h 0 8 0) a1) ∧ ((¬ (v_M_isBlock (am_si h 0 8 0) a1) = 0 → ((a2 < 0 → am_Ev m_M_duty (WM ++ e1) ro P (47, [.ref 0, .int a1, .int a2, .int a3], [.int ((v_M_refuses (am_si h 0 8 0) 2).1)], ((v_M_refuses (am_si h 0 8 0) 2).2))) ∧ (¬ a2 < 0 → (((v_M_in (am_si h 0 8 0) a3 0 2) = 0 → am_Ev m_M_duty (WM ++ e1) ro P (47, [.ref 0, .int a1, .int a2, .int a3], [.int ((v_M_refuses (am_si h 0 8 0) 2).1)], ((v_M_refuses (am_si h 0 8 0) 2).2))) ∧ (¬ (v_M_in (am_si h 0 8 0) a3 0 2) = 0 → ((p_M_dutyTold (am_si h 0 8 0) a1 a2 a3) ∧ am_Ev m_M_duty (WM ++ e1) ro P (39, [.ref 0, .int a1, .int a2, .int a3], [.int ((v_M_dutyTold (am_si h 0 8 0) a1 a2 a3).1)], ((v_M_dutyTold (am_si h 0 8 0) a1 a2 a3).2)))))))) ∧ ((v_M_isBlock (am_si h 0 8 0) a1) = 0 → am_Ev m_M_duty (WM ++ e1) ro P (18, [.ref 0, .int a1, .int a2, .int a3], [.int ((v_M_refuses (am_si h 0 8 0) 1).1)], ((v_M_refuses (am_si h 0 8 0) 1).2)))))
  obtain ⟨hob, hp⟩ := hp
  refine ⟨hob, ?_⟩
  refine ⟨fun c1 => ?_, fun c1 => ?_⟩
  · have hp := hp.2 c1
    refine ⟨fun c2 => ?_, fun c2 => ?_⟩
    · skip
      obtain ⟨y1, c3⟩ : ∃ y, v_M_refuses (am_si h 0 8 0) 2 = y := ⟨_, rfl⟩
      rw [c3]
      show am_Ev m_M_duty (WM ++ e1) ro P (47, [.ref 0, .int a1, .int a2, .int a3], [.int y1.1], y1.2)
      refine am_Ev_G [] 400 _ ?_
      show P (.inl (some (.int y1.1))) y1.2
      exact hP (y1.1, y1.2) (by unfold v_M_duty; simp only [if_neg c1, if_pos c2, bnd, c3])
    · have hp := hp.2 c2
      refine ⟨fun c4 => ?_, fun c4 => ?_⟩
      · skip
        obtain ⟨y2, c5⟩ : ∃ y, v_M_refuses (am_si h 0 8 0) 2 = y := ⟨_, rfl⟩
        rw [c5]
        show am_Ev m_M_duty (WM ++ e1) ro P (47, [.ref 0, .int a1, .int a2, .int a3], [.int y2.1], y2.2)
        refine am_Ev_G [] 400 _ ?_
        show P (.inl (some (.int y2.1))) y2.2
        exact hP (y2.1, y2.2) (by unfold v_M_duty; simp only [if_neg c1, if_neg c2, if_pos c4, bnd, c5])
      · have hp := hp.2 c4
        refine ⟨hp, ?_⟩
        obtain ⟨y3, c6⟩ : ∃ y, v_M_dutyTold (am_si h 0 8 0) a1 a2 a3 = y := ⟨_, rfl⟩
        rw [c6]
        show am_Ev m_M_duty (WM ++ e1) ro P (39, [.ref 0, .int a1, .int a2, .int a3], [.int y3.1], y3.2)
        refine am_Ev_G [47] 400 _ ?_
        show am_Ev m_M_duty (WM ++ e1) ro P (47, [.ref 0, .int a1, .int a2, .int a3], [.int y3.1], y3.2)
        refine am_Ev_G [] 400 _ ?_
        show P (.inl (some (.int y3.1))) y3.2
        exact hP (y3.1, y3.2) (by unfold v_M_duty; simp only [if_neg c1, if_neg c2, if_neg c4, bnd, c6])
  · skip
    obtain ⟨y4, c7⟩ : ∃ y, v_M_refuses (am_si h 0 8 0) 1 = y := ⟨_, rfl⟩
    rw [c7]
    show am_Ev m_M_duty (WM ++ e1) ro P (18, [.ref 0, .int a1, .int a2, .int a3], [.int y4.1], y4.2)
    refine am_Ev_G [] 400 _ ?_
    show P (.inl (some (.int y4.1))) y4.2
    exact hP (y4.1, y4.2) (by unfold v_M_duty; simp only [if_pos c1, bnd, c7])
theorem ok_M_duty {l : Launch} (hl : l.stackTraces = false) (e1 ro : List Sh) (k : Nat) : am_Ok l (WM ++ e1) ro (d_M_duty k) := by
  refine am_met hl (own := RX6) (M := m_M_duty) rfl pf_M_duty cu_M_duty rfl rfl rfl rfl (fun _ => rfl) rfl ⟨chk_M_duty, (am_c (fl_M_38) am_n), (am_c (lk_M_127) (am_c (lk_M_134) (am_c (lk_M_221) (am_c (lk_M_227) am_n)))), (am_n), (am_n)⟩ (am_n) (am_c (ok_M_in hl e1 _ 0) (am_c (ok_M_refuses hl e1 _ 16) (am_c (ok_M_isBlock hl e1 _ 16) (am_c (ok_M_dutyTold hl e1 _ 16) am_n)))) (fun z => nomatch z) ?_ ?_
  · intro _ as h hg
    show g_thr (g_M_duty (WM ++ e1) ro as h) = none
    unfold g_M_duty
    split <;> rfl
  · intro as h hg hp
    revert hg hp
    show g_ok (g_M_duty (WM ++ e1) ro as h) = true → g_pre (g_M_duty (WM ++ e1) ro as h) → _ ∧ am_Ev m_M_duty (WM ++ e1) ro (am_eq (g_M_duty (WM ++ e1) ro as h)) (0, am_ent as 4, [], h)
    unfold g_M_duty
    split
    · rename_i o1 a1 a2 a3
      intro hc hp
      change (Nat.beq o1 0) = true at hc
      obtain rfl := am_beq hc
      exact ⟨Nat.le_of_ble_eq_true rfl, ev_M_duty h a1 a2 a3 hp eqRIW⟩
    · exact fun z => nomatch z
end
