/-! BusBlocksModel, out of its code (written by gen/meth.py). -/
noncomputable section
def k_M_before (pc : Nat) : Ent := bif Nat.ble 38 pc then am_nop else bif Nat.ble 16 pc then (bif Nat.ble 28 pc then (bif Nat.ble 33 pc then (bif Nat.ble 36 pc then (bif Nat.ble 37 pc then (bif Nat.beq pc 37 then (.ireturn, 0, 0, []) else am_nop) else (bif Nat.beq pc 36 then (.iload_n 2, 0, 2, []) else am_nop)) else (bif Nat.beq pc 33 then (.goto (-29), 0, 4, []) else am_nop)) else (bif Nat.ble 29 pc then (bif Nat.ble 30 pc then (bif Nat.beq pc 30 then (.iinc 3 1, 1, 3, []) else am_nop) else (bif Nat.beq pc 29 then (.istore_n 2, 0, 2, []) else am_nop)) else (bif Nat.beq pc 28 then (.iload_n 2, 0, 2, []) else am_nop))) else (bif Nat.ble 21 pc then (bif Nat.ble 24 pc then (bif Nat.ble 25 pc then (bif Nat.beq pc 25 then (.goto 4, 0, 29, []) else am_nop) else (bif Nat.beq pc 24 then (.iload_n 3, 0, 3, []) else am_nop)) else (bif Nat.beq pc 21 then (.if_icmp .ne 7, 0, 28, []) else am_nop)) else (bif Nat.ble 17 pc then (bif Nat.ble 20 pc then (bif Nat.beq pc 20 then (.iload_n 1, 0, 1, []) else am_nop) else (bif Nat.beq pc 17 then (.invokevirtual 57, 0, 0, []) else am_nop)) else (bif Nat.beq pc 16 then (.iload_n 3, 0, 3, []) else am_nop)))) else (bif Nat.ble 5 pc then (bif Nat.ble 11 pc then (bif Nat.ble 12 pc then (bif Nat.ble 15 pc then (bif Nat.beq pc 15 then (.aload_n 0, 0, 0, []) else am_nop) else (bif Nat.beq pc 12 then (.if_icmp .ge 24, 0, 36, []) else am_nop)) else (bif Nat.beq pc 11 then (.iaload, 0, 0, []) else am_nop)) else (bif Nat.ble 6 pc then (bif Nat.ble 9 pc then (bif Nat.beq pc 9 then (.bipush 15, 15, 0, []) else am_nop) else (bif Nat.beq pc 6 then (.getfield 7, 0, 0, []) else am_nop)) else (bif Nat.beq pc 5 then (.aload_n 0, 0, 0, []) else am_nop))) else (bif Nat.ble 2 pc then (bif Nat.ble 3 pc then (bif Nat.ble 4 pc then (bif Nat.beq pc 4 then (.iload_n 3, 0, 3, []) else am_nop) else (bif Nat.beq pc 3 then (.istore_n 3, 0, 3, []) else am_nop)) else (bif Nat.beq pc 2 then (.iconst 0, 0, 0, []) else am_nop)) else (bif Nat.ble 1 pc then (bif Nat.beq pc 1 then (.istore_n 2, 0, 2, []) else am_nop) else (bif Nat.beq pc 0 then (.iconst (-1), (-1 : Int32), 0, []) else am_nop))))
theorem lk_M_57 : am_lnk RX6 57 (d_M_next 16) := ⟨⟨by decide, by decide⟩, am_tb 8 (by decide +kernel) rfl, Or.inr ⟨by decide, rfl, am_tb 1004 (by decide +kernel) rfl, am_tp 78 (by decide +kernel) rfl, ⟨TX6, 16, rfl⟩, Or.inl (am_tb 1002 (by decide +kernel) rfl)⟩⟩
def m_M_before : MI := (k_M_before, [(7, 6, 0)], [(57, d_M_next 16)], [], [], [], [], 2, 43, some .int, fun _ => 0, 1)
def s_M_before_4 (h : HP) (a1 : Int32) (v1 : Int32 × Int32) : (Int32 × Int32) ⊕ (Int32 × Int32) := (if v1.2 < (h.1 1 (am_ix 15)) then (.inl ((if (v_M_next h v1.2) = a1 then v1.2 else v1.1), (v1.2 + 1))) else (.inr (v1.1, v1.2)))
def ps_M_before_4 (h : HP) (a1 : Int32) (v1 : Int32 × Int32) : Prop := ((v1.2 < (h.1 1 (am_ix 15)) → (p_M_next h v1.2)) ∧ (¬ v1.2 < (h.1 1 (am_ix 15)) → True))
def v_M_before (h : HP) (a1 : Int32) : Int32 := (match itr (s_M_before_4 h a1) NF ((-1 : Int32), 0) with | some r1 => r1.1 | none => 0)
def p_M_before (h : HP) (a1 : Int32) : Prop := (itrp (s_M_before_4 h a1) (ps_M_before_4 h a1) NF ((-1 : Int32), 0))
def g_M_before (_ _ : List Sh) (as : List Value) (h : HP) : GR := match as with
  | [.ref o1, .int a1] => (Nat.beq o1 0, p_M_before h a1, none, some (.int (v_M_before h a1)), h)
  | _ => bad h
def d_M_before (k : Nat) : CD := (k, yX6_before, cX6_before, 4, some .int, 2, 2, 43, 0, false, true, g_M_before)
theorem chk_M_before : ∀ pc, am_chk cX6_before k_M_before pc = true := am_chkall 38 (by decide +kernel) (fun pc h => by unfold k_M_before; rw [Nat.ble_eq_true_of_le h]; rfl)
theorem pf_M_before : plainFor yX6_before = true := by decide +kernel
theorem cu_M_before : Cond.code yX6_before cX6_before 4 (some .int) ∈ am_U := am_tb 1001 (by decide +kernel) rfl
set_option maxHeartbeats 20000000 in
set_option maxRecDepth 100000 in
theorem ev_M_before {e1 ro : List Sh} {P : AR → HP → Prop} (h : HP) (a1 : Int32) (hp : p_M_before h a1) (hP : ∀ q, v_M_before h a1 = q → RI P h q) : am_Ev m_M_before (WM ++ e1) ro P (0, [.ref 0, .int a1, .retAddr 0, .retAddr 0], [], h) := by
  unfold p_M_before at hp
  refine am_Ev_G [4] 400 _ ?_
  show am_Ev m_M_before (WM ++ e1) ro P (4, [.ref 0, .int a1, .int (-1 : Int32), .int 0], [], h)
  have hpl := hp
  refine am_itr (E := (fun (v1 : Int32 × Int32) => am_Ev m_M_before (WM ++ e1) ro P (4, [.ref 0, .int a1, .int v1.1, .int v1.2], [], h))) (E' := (fun (r1 : Int32 × Int32) => am_Ev m_M_before (WM ++ e1) ro P (36, [.ref 0, .int a1, .int r1.1, .int r1.2], [], h))) (s_M_before_4 h a1) (ps_M_before_4 h a1) ?_ NF ((-1 : Int32), 0) hpl ?_
  · intro v1 hp hc1 hx1
    show am_Ev m_M_before (WM ++ e1) ro P (4, [.ref 0, .int a1, .int v1.1, .int v1.2], [], h)
    unfold ps_M_before_4 at hp
    refine am_Ev_G [20, 36] 400 _ ?_
    show ((am_in 15 163) ∧ ((¬ v1.2 < (h.1 1 (am_ix 15)) → am_Ev m_M_before (WM ++ e1) ro P (36, [.ref 0, .int a1, .int v1.1, .int v1.2], [], h)) ∧ (v1.2 < (h.1 1 (am_ix 15)) → ((p_M_next h v1.2) ∧ am_Ev m_M_before (WM ++ e1) ro P (20, [.ref 0, .int a1, .int v1.1, .int v1.2], [.int (v_M_next h v1.2)], h)))))
    refine ⟨⟨by decide, by decide⟩, ?_⟩
    refine ⟨fun c1 => ?_, fun c1 => ?_⟩
    · skip
      exact hx1 (v1.1, v1.2) (by unfold s_M_before_4; simp only [if_neg c1])
    · have hp := hp.1 c1
      refine ⟨hp, ?_⟩
      refine am_Ev_G [21] 400 _ ?_
      show am_Ev m_M_before (WM ++ e1) ro P (21, [.ref 0, .int a1, .int v1.1, .int v1.2], [.int a1, .int (v_M_next h v1.2)], h)
      have key2 : am_Ev m_M_before (WM ++ e1) ro P (29, [.ref 0, .int a1, .int v1.1, .int v1.2], [.int (if (v_M_next h v1.2) = a1 then v1.2 else v1.1)], h) := by
        refine am_Ev_G [4] 400 _ ?_
        show am_Ev m_M_before (WM ++ e1) ro P (4, [.ref 0, .int a1, .int (if (v_M_next h v1.2) = a1 then v1.2 else v1.1), .int (v1.2 + 1)], [], h)
        exact hc1 ((if (v_M_next h v1.2) = a1 then v1.2 else v1.1), (v1.2 + 1)) (by unfold s_M_before_4; simp only [if_pos c1])
      refine am_Ev_G [29] 400 _ ?_
      show ((¬ (v_M_next h v1.2) = a1 → am_Ev m_M_before (WM ++ e1) ro P (29, [.ref 0, .int a1, .int v1.1, .int v1.2], [.int v1.1], h)) ∧ ((v_M_next h v1.2) = a1 → am_Ev m_M_before (WM ++ e1) ro P (29, [.ref 0, .int a1, .int v1.1, .int v1.2], [.int v1.2], h)))
      refine ⟨fun c3 => ?_, fun c3 => ?_⟩
      · skip
        simpa only [if_neg c3] using key2
      · skip
        simpa only [if_pos c3] using key2
  · intro r1 hr4
    show am_Ev m_M_before (WM ++ e1) ro P (36, [.ref 0, .int a1, .int r1.1, .int r1.2], [], h)
    refine am_Ev_G [] 400 _ ?_
    show P (.inl (some (.int r1.1))) h
    exact hP r1.1 (by unfold v_M_before; simp only [hr4])
theorem ok_M_before {l : Launch} (hl : l.stackTraces = false) (e1 ro : List Sh) (k : Nat) : am_Ok l (WM ++ e1) ro (d_M_before k) := by
  refine am_met hl (own := RX6) (M := m_M_before) rfl pf_M_before cu_M_before rfl rfl rfl rfl (fun _ => rfl) rfl ⟨chk_M_before, (am_c (fl_M_7) am_n), (am_c (lk_M_57) am_n), (am_n), (am_n)⟩ (am_n) (am_c (ok_M_next hl e1 _ 16) am_n) (fun z => nomatch z) ?_ ?_
  · intro _ as h hg
    show g_thr (g_M_before (WM ++ e1) ro as h) = none
    unfold g_M_before
    split <;> rfl
  · intro as h hg hp
    revert hg hp
    show g_ok (g_M_before (WM ++ e1) ro as h) = true → g_pre (g_M_before (WM ++ e1) ro as h) → _ ∧ am_Ev m_M_before (WM ++ e1) ro (am_eq (g_M_before (WM ++ e1) ro as h)) (0, am_ent as 4, [], h)
    unfold g_M_before
    split
    · rename_i o1 a1
      intro hc hp
      change (Nat.beq o1 0) = true at hc
      obtain rfl := am_beq hc
      exact ⟨Nat.le_of_ble_eq_true rfl, ev_M_before h a1 hp eqRI⟩
    · exact fun z => nomatch z
def k_M_reason (pc : Nat) : Ent := bif Nat.ble 104 pc then am_nop else bif Nat.ble 50 pc then (bif Nat.ble 75 pc then (bif Nat.ble 89 pc then (bif Nat.ble 98 pc then (bif Nat.ble 102 pc then (bif Nat.ble 103 pc then (bif Nat.beq pc 103 then (.ireturn, 0, 0, []) else am_nop) else (bif Nat.beq pc 102 then (.iconst 0, 0, 0, []) else am_nop)) else (bif Nat.ble 99 pc then (bif Nat.beq pc 99 then (.goto 4, 0, 103, []) else am_nop) else (bif Nat.beq pc 98 then (.iconst 5, 5, 0, []) else am_nop))) else (bif Nat.ble 94 pc then (bif Nat.ble 95 pc then (bif Nat.beq pc 95 then (.ifCond .ne 7, 0, 102, []) else am_nop) else (bif Nat.beq pc 94 then (.iaload, 0, 0, []) else am_nop)) else (bif Nat.ble 92 pc then (bif Nat.beq pc 92 then (.bipush 8, 8, 0, []) else am_nop) else (bif Nat.beq pc 89 then (.getfield 7, 0, 0, []) else am_nop)))) else (bif Nat.ble 81 pc then (bif Nat.ble 85 pc then (bif Nat.ble 88 pc then (bif Nat.beq pc 88 then (.aload_n 0, 0, 0, []) else am_nop) else (bif Nat.beq pc 85 then (.if_icmp .eq 17, 0, 102, []) else am_nop)) else (bif Nat.ble 82 pc then (bif Nat.beq pc 82 then (.invokevirtual 49, 0, 0, []) else am_nop) else (bif Nat.beq pc 81 then (.iconst 0, 0, 0, []) else am_nop))) else (bif Nat.ble 79 pc then (bif Nat.ble 80 pc then (bif Nat.beq pc 80 then (.iload_n 2, 0, 2, []) else am_nop) else (bif Nat.beq pc 79 then (.aload_n 0, 0, 0, []) else am_nop)) else (bif Nat.ble 76 pc then (bif Nat.beq pc 76 then (.invokevirtual 49, 0, 0, []) else am_nop) else (bif Nat.beq pc 75 then (.iconst 0, 0, 0, []) else am_nop))))) else (bif Nat.ble 61 pc then (bif Nat.ble 69 pc then (bif Nat.ble 73 pc then (bif Nat.ble 74 pc then (bif Nat.beq pc 74 then (.iload_n 1, 0, 1, []) else am_nop) else (bif Nat.beq pc 73 then (.aload_n 0, 0, 0, []) else am_nop)) else (bif Nat.ble 70 pc then (bif Nat.beq pc 70 then (.goto 33, 0, 103, []) else am_nop) else (bif Nat.beq pc 69 then (.iconst 4, 4, 0, []) else am_nop))) else (bif Nat.ble 63 pc then (bif Nat.ble 66 pc then (bif Nat.beq pc 66 then (.if_icmp .ge 7, 0, 73, []) else am_nop) else (bif Nat.beq pc 63 then (.invokevirtual 67, 0, 0, []) else am_nop)) else (bif Nat.ble 62 pc then (bif Nat.beq pc 62 then (.iload_n 2, 0, 2, []) else am_nop) else (bif Nat.beq pc 61 then (.aload_n 0, 0, 0, []) else am_nop)))) else (bif Nat.ble 55 pc then (bif Nat.ble 57 pc then (bif Nat.ble 58 pc then (bif Nat.beq pc 58 then (.invokevirtual 49, 0, 0, []) else am_nop) else (bif Nat.beq pc 57 then (.iconst 3, 3, 0, []) else am_nop)) else (bif Nat.ble 56 pc then (bif Nat.beq pc 56 then (.iload_n 1, 0, 1, []) else am_nop) else (bif Nat.beq pc 55 then (.aload_n 0, 0, 0, []) else am_nop))) else (bif Nat.ble 53 pc then (bif Nat.ble 54 pc then (bif Nat.beq pc 54 then (.ireturn, 0, 0, []) else am_nop) else (bif Nat.beq pc 53 then (.iconst 3, 3, 0, []) else am_nop)) else (bif Nat.beq pc 50 then (.if_icmp .eq 5, 0, 55, []) else am_nop))))) else (bif Nat.ble 27 pc then (bif Nat.ble 38 pc then (bif Nat.ble 44 pc then (bif Nat.ble 46 pc then (bif Nat.ble 47 pc then (bif Nat.beq pc 47 then (.invokevirtual 49, 0, 0, []) else am_nop) else (bif Nat.beq pc 46 then (.iconst 2, 2, 0, []) else am_nop)) else (bif Nat.ble 45 pc then (bif Nat.beq pc 45 then (.iload_n 2, 0, 2, []) else am_nop) else (bif Nat.beq pc 44 then (.aload_n 0, 0, 0, []) else am_nop))) else (bif Nat.ble 40 pc then (bif Nat.ble 41 pc then (bif Nat.beq pc 41 then (.invokevirtual 49, 0, 0, []) else am_nop) else (bif Nat.beq pc 40 then (.iconst 1, 1, 0, []) else am_nop)) else (bif Nat.ble 39 pc then (bif Nat.beq pc 39 then (.iload_n 1, 0, 1, []) else am_nop) else (bif Nat.beq pc 38 then (.aload_n 0, 0, 0, []) else am_nop)))) else (bif Nat.ble 32 pc then (bif Nat.ble 36 pc then (bif Nat.ble 37 pc then (bif Nat.beq pc 37 then (.ireturn, 0, 0, []) else am_nop) else (bif Nat.beq pc 36 then (.iconst 2, 2, 0, []) else am_nop)) else (bif Nat.ble 33 pc then (bif Nat.beq pc 33 then (.if_icmp .eq 5, 0, 38, []) else am_nop) else (bif Nat.beq pc 32 then (.iconst (-1), (-1 : Int32), 0, []) else am_nop))) else (bif Nat.ble 28 pc then (bif Nat.ble 29 pc then (bif Nat.beq pc 29 then (.invokevirtual 64, 0, 0, []) else am_nop) else (bif Nat.beq pc 28 then (.iload_n 1, 0, 1, []) else am_nop)) else (bif Nat.beq pc 27 then (.aload_n 0, 0, 0, []) else am_nop)))) else (bif Nat.ble 13 pc then (bif Nat.ble 19 pc then (bif Nat.ble 23 pc then (bif Nat.ble 24 pc then (bif Nat.beq pc 24 then (.if_icmp .ne 12, 0, 36, []) else am_nop) else (bif Nat.beq pc 23 then (.iconst (-1), (-1 : Int32), 0, []) else am_nop)) else (bif Nat.ble 20 pc then (bif Nat.beq pc 20 then (.invokevirtual 57, 0, 0, []) else am_nop) else (bif Nat.beq pc 19 then (.iload_n 2, 0, 2, []) else am_nop))) else (bif Nat.ble 17 pc then (bif Nat.ble 18 pc then (bif Nat.beq pc 18 then (.aload_n 0, 0, 0, []) else am_nop) else (bif Nat.beq pc 17 then (.ireturn, 0, 0, []) else am_nop)) else (bif Nat.ble 16 pc then (bif Nat.beq pc 16 then (.iconst 1, 1, 0, []) else am_nop) else (bif Nat.beq pc 13 then (.ifCond .ne 5, 0, 18, []) else am_nop)))) else (bif Nat.ble 5 pc then (bif Nat.ble 9 pc then (bif Nat.ble 10 pc then (bif Nat.beq pc 10 then (.invokevirtual 60, 0, 0, []) else am_nop) else (bif Nat.beq pc 9 then (.iload_n 2, 0, 2, []) else am_nop)) else (bif Nat.ble 8 pc then (bif Nat.beq pc 8 then (.aload_n 0, 0, 0, []) else am_nop) else (bif Nat.beq pc 5 then (.ifCond .eq 11, 0, 16, []) else am_nop))) else (bif Nat.ble 1 pc then (bif Nat.ble 2 pc then (bif Nat.beq pc 2 then (.invokevirtual 60, 0, 0, []) else am_nop) else (bif Nat.beq pc 1 then (.iload_n 1, 0, 1, []) else am_nop)) else (bif Nat.beq pc 0 then (.aload_n 0, 0, 0, []) else am_nop)))))
theorem lk_M_60 : am_lnk RX6 60 (d_M_isRun 16) := ⟨⟨by decide, by decide⟩, am_tb 8 (by decide +kernel) rfl, Or.inr ⟨by decide, rfl, am_tb 988 (by decide +kernel) rfl, am_tp 74 (by decide +kernel) rfl, ⟨TX6, 16, rfl⟩, Or.inl (am_tb 986 (by decide +kernel) rfl)⟩⟩
theorem lk_M_64 : am_lnk RX6 64 (d_M_before 16) := ⟨⟨by decide, by decide⟩, am_tb 8 (by decide +kernel) rfl, Or.inr ⟨by decide, rfl, am_tb 1000 (by decide +kernel) rfl, am_tp 77 (by decide +kernel) rfl, ⟨TX6, 16, rfl⟩, Or.inl (am_tb 998 (by decide +kernel) rfl)⟩⟩
theorem lk_M_67 : am_lnk RX6 67 (d_M_ready 16) := ⟨⟨by decide, by decide⟩, am_tb 8 (by decide +kernel) rfl, Or.inr ⟨by decide, rfl, am_tb 1023 (by decide +kernel) rfl, am_tp 80 (by decide +kernel) rfl, ⟨TX6, 16, rfl⟩, Or.inl (am_tb 1021 (by decide +kernel) rfl)⟩⟩
def m_M_reason : MI := (k_M_reason, [(7, 6, 0)], [(49, d_M_of 16), (57, d_M_next 16), (60, d_M_isRun 16), (64, d_M_before 16), (67, d_M_ready 16)], [], [], [], [], 3, 66, some .int, fun _ => 0, 1)
def v_M_reason (h : HP) (a1 : Int32) (a2 : Int32) : Int32 := (if (v_M_isRun h a1) = 0 then 1 else (if (v_M_isRun h a2) = 0 then 1 else (if (v_M_next h a2) = (-1 : Int32) then (if (v_M_before h a1) = (-1 : Int32) then (if (v_M_of h a1 1) = (v_M_of h a2 2) then (if (v_M_of h a1 3) < (v_M_ready h a2) then (4 : Int32) else (if (v_M_of h a1 0) = (v_M_of h a2 0) then (0 : Int32) else (if (h.1 1 (am_ix 8)) = 0 then (5 : Int32) else 0))) else 3) else 2) else 2)))
def p_M_reason (h : HP) (a1 : Int32) (a2 : Int32) : Prop := ((p_M_isRun h a1) ∧ (((v_M_isRun h a1) = 0 → True) ∧ (¬ (v_M_isRun h a1) = 0 → ((p_M_isRun h a2) ∧ (((v_M_isRun h a2) = 0 → True) ∧ (¬ (v_M_isRun h a2) = 0 → ((p_M_next h a2) ∧ (((v_M_next h a2) = (-1 : Int32) → ((p_M_before h a1) ∧ (((v_M_before h a1) = (-1 : Int32) → ((p_M_of h a1 1) ∧ ((p_M_of h a2 2) ∧ (((v_M_of h a1 1) = (v_M_of h a2 2) → ((p_M_of h a1 3) ∧ ((p_M_ready h a2) ∧ (((v_M_of h a1 3) < (v_M_ready h a2) → True) ∧ (¬ (v_M_of h a1 3) < (v_M_ready h a2) → ((p_M_of h a1 0) ∧ (p_M_of h a2 0))))))) ∧ (¬ (v_M_of h a1 1) = (v_M_of h a2 2) → True))))) ∧ (¬ (v_M_before h a1) = (-1 : Int32) → True)))) ∧ (¬ (v_M_next h a2) = (-1 : Int32) → True)))))))))
def g_M_reason (_ _ : List Sh) (as : List Value) (h : HP) : GR := match as with
  | [.ref o1, .int a1, .int a2] => (Nat.beq o1 0, p_M_reason h a1 a2, none, some (.int (v_M_reason h a1 a2)), h)
  | _ => bad h
def d_M_reason (k : Nat) : CD := (k, yX6_reason, cX6_reason, 3, some .int, 3, 3, 66, 0, false, true, g_M_reason)
theorem chk_M_reason : ∀ pc, am_chk cX6_reason k_M_reason pc = true := am_chkall 104 (by decide +kernel) (fun pc h => by unfold k_M_reason; rw [Nat.ble_eq_true_of_le h]; rfl)
theorem pf_M_reason : plainFor yX6_reason = true := by decide +kernel
theorem cu_M_reason : Cond.code yX6_reason cX6_reason 3 (some .int) ∈ am_U := am_tb 1020 (by decide +kernel) rfl
set_option maxHeartbeats 20000000 in
set_option maxRecDepth 100000 in
theorem ev_M_reason {e1 ro : List Sh} {P : AR → HP → Prop} (h : HP) (a1 : Int32) (a2 : Int32) (hp : p_M_reason h a1 a2) (hP : ∀ q, v_M_reason h a1 a2 = q → RI P h q) : am_Ev m_M_reason (WM ++ e1) ro P (0, [.ref 0, .int a1, .int a2], [], h) := by
  unfold p_M_reason at hp
  refine am_Ev_G [13] 400 _ ?_
  show ((p_M_isRun h a1) ∧ (((v_M_isRun h a1) = 0 → P (.inl (some (.int 1))) h) ∧ (¬ (v_M_isRun h a1) = 0 → ((p_M_isRun h a2) ∧ am_Ev m_M_reason (WM ++ e1) ro P (13, [.ref 0, .int a1, .int a2], [.int (v_M_isRun h a2)], h)))))
  obtain ⟨hob, hp⟩ := hp
  refine ⟨hob, ?_⟩
  refine ⟨fun c1 => ?_, fun c1 => ?_⟩
  · skip
    exact hP 1 (by unfold v_M_reason; simp only [if_pos c1])
  · have hp := hp.2 c1
    obtain ⟨hob, hp⟩ := hp
    refine ⟨hob, ?_⟩
    refine am_Ev_G [32] 400 _ ?_
    show ((¬ (v_M_isRun h a2) = 0 → ((p_M_next h a2) ∧ ((¬ (v_M_next h a2) = (-1 : Int32) → P (.inl (some (.int 2))) h) ∧ ((v_M_next h a2) = (-1 : Int32) → ((p_M_before h a1) ∧ am_Ev m_M_reason (WM ++ e1) ro P (32, [.ref 0, .int a1, .int a2], [.int (v_M_before h a1)], h)))))) ∧ ((v_M_isRun h a2) = 0 → P (.inl (some (.int 1))) h))
    refine ⟨fun c2 => ?_, fun c2 => ?_⟩
    · have hp := hp.2 c2
      obtain ⟨hob, hp⟩ := hp
      refine ⟨hob, ?_⟩
      refine ⟨fun c3 => ?_, fun c3 => ?_⟩
      · skip
        exact hP 2 (by unfold v_M_reason; simp only [if_neg c1, if_neg c2, if_neg c3])
      · have hp := hp.1 c3
        obtain ⟨hob, hp⟩ := hp
        refine ⟨hob, ?_⟩
        refine am_Ev_G [44] 400 _ ?_
        show (((v_M_before h a1) = (-1 : Int32) → ((p_M_of h a1 1) ∧ am_Ev m_M_reason (WM ++ e1) ro P (44, [.ref 0, .int a1, .int a2], [.int (v_M_of h a1 1)], h))) ∧ (¬ (v_M_before h a1) = (-1 : Int32) → P (.inl (some (.int 2))) h))
        refine ⟨fun c4 => ?_, fun c4 => ?_⟩
        · have hp := hp.1 c4
          obtain ⟨hob, hp⟩ := hp
          refine ⟨hob, ?_⟩
          refine am_Ev_G [61] 400 _ ?_
          show ((p_M_of h a2 2) ∧ (((v_M_of h a1 1) = (v_M_of h a2 2) → ((p_M_of h a1 3) ∧ am_Ev m_M_reason (WM ++ e1) ro P (61, [.ref 0, .int a1, .int a2], [.int (v_M_of h a1 3)], h))) ∧ (¬ (v_M_of h a1 1) = (v_M_of h a2 2) → P (.inl (some (.int 3))) h)))
          obtain ⟨hob, hp⟩ := hp
          refine ⟨hob, ?_⟩
          refine ⟨fun c5 => ?_, fun c5 => ?_⟩
          · have hp := hp.1 c5
            obtain ⟨hob, hp⟩ := hp
            refine ⟨hob, ?_⟩
            refine am_Ev_G [66] 400 _ ?_
            show ((p_M_ready h a2) ∧ am_Ev m_M_reason (WM ++ e1) ro P (66, [.ref 0, .int a1, .int a2], [.int (v_M_ready h a2), .int (v_M_of h a1 3)], h))
            obtain ⟨hob, hp⟩ := hp
            refine ⟨hob, ?_⟩
            have hpa := hp
            have key6 : am_Ev m_M_reason (WM ++ e1) ro P (103, [.ref 0, .int a1, .int a2], [.int (if (v_M_of h a1 3) < (v_M_ready h a2) then (4 : Int32) else (if (v_M_of h a1 0) = (v_M_of h a2 0) then (0 : Int32) else (if (h.1 1 (am_ix 8)) = 0 then (5 : Int32) else 0)))], h) := by
              refine am_Ev_G [] 400 _ ?_
              show P (.inl (some (.int (if (v_M_of h a1 3) < (v_M_ready h a2) then (4 : Int32) else (if (v_M_of h a1 0) = (v_M_of h a2 0) then (0 : Int32) else (if (h.1 1 (am_ix 8)) = 0 then (5 : Int32) else 0)))))) h
              exact hP (if (v_M_of h a1 3) < (v_M_ready h a2) then (4 : Int32) else (if (v_M_of h a1 0) = (v_M_of h a2 0) then (0 : Int32) else (if (h.1 1 (am_ix 8)) = 0 then (5 : Int32) else 0))) (by unfold v_M_reason; simp only [if_neg c1, if_neg c2, if_pos c3, if_pos c4, if_pos c5])
            have hp := hpa
            refine am_Ev_G [103] 400 _ ?_
            show ((¬ (v_M_of h a1 3) < (v_M_ready h a2) → ((p_M_of h a1 0) ∧ ((p_M_of h a2 0) ∧ (((v_M_of h a1 0) = (v_M_of h a2 0) → am_Ev m_M_reason (WM ++ e1) ro P (103, [.ref 0, .int a1, .int a2], [.int 0], h)) ∧ (¬ (v_M_of h a1 0) = (v_M_of h a2 0) → ((am_in 8 163) ∧ ((¬ (h.1 1 (am_ix 8)) = 0 → am_Ev m_M_reason (WM ++ e1) ro P (103, [.ref 0, .int a1, .int a2], [.int 0], h)) ∧ ((h.1 1 (am_ix 8)) = 0 → am_Ev m_M_reason (WM ++ e1) ro P (103, [.ref 0, .int a1, .int a2], [.int 5], h))))))))) ∧ ((v_M_of h a1 3) < (v_M_ready h a2) → am_Ev m_M_reason (WM ++ e1) ro P (103, [.ref 0, .int a1, .int a2], [.int 4], h)))
            refine ⟨fun c7 => ?_, fun c7 => ?_⟩
            · have hp := hp.2 c7
              obtain ⟨hob, hp⟩ := hp
              refine ⟨hob, ?_⟩
              refine ⟨hp, ?_⟩
              refine ⟨fun c8 => ?_, fun c8 => ?_⟩
              · skip
                simpa only [if_neg c7, if_pos c8] using key6
              · skip
                refine ⟨⟨by decide, by decide⟩, ?_⟩
                refine ⟨fun c9 => ?_, fun c9 => ?_⟩
                · skip
                  simpa only [if_neg c7, if_neg c8, if_neg c9] using key6
                · skip
                  simpa only [if_neg c7, if_neg c8, if_pos c9] using key6
            · skip
              simpa only [if_pos c7] using key6
          · skip
            exact hP 3 (by unfold v_M_reason; simp only [if_neg c1, if_neg c2, if_pos c3, if_pos c4, if_neg c5])
        · skip
          exact hP 2 (by unfold v_M_reason; simp only [if_neg c1, if_neg c2, if_pos c3, if_neg c4])
    · skip
      exact hP 1 (by unfold v_M_reason; simp only [if_neg c1, if_pos c2])
theorem ok_M_reason {l : Launch} (hl : l.stackTraces = false) (e1 ro : List Sh) (k : Nat) : am_Ok l (WM ++ e1) ro (d_M_reason k) := by
  refine am_met hl (own := RX6) (M := m_M_reason) rfl pf_M_reason cu_M_reason rfl rfl rfl rfl (fun _ => rfl) rfl ⟨chk_M_reason, (am_c (fl_M_7) am_n), (am_c (lk_M_49) (am_c (lk_M_57) (am_c (lk_M_60) (am_c (lk_M_64) (am_c (lk_M_67) am_n))))), (am_n), (am_n)⟩ (am_n) (am_c (ok_M_of hl e1 _ 16) (am_c (ok_M_next hl e1 _ 16) (am_c (ok_M_isRun hl e1 _ 16) (am_c (ok_M_before hl e1 _ 16) (am_c (ok_M_ready hl e1 _ 16) am_n))))) (fun z => nomatch z) ?_ ?_
  · intro _ as h hg
    show g_thr (g_M_reason (WM ++ e1) ro as h) = none
    unfold g_M_reason
    split <;> rfl
  · intro as h hg hp
    revert hg hp
    show g_ok (g_M_reason (WM ++ e1) ro as h) = true → g_pre (g_M_reason (WM ++ e1) ro as h) → _ ∧ am_Ev m_M_reason (WM ++ e1) ro (am_eq (g_M_reason (WM ++ e1) ro as h)) (0, am_ent as 3, [], h)
    unfold g_M_reason
    split
    · rename_i o1 a1 a2
      intro hc hp
      change (Nat.beq o1 0) = true at hc
      obtain rfl := am_beq hc
      exact ⟨Nat.le_of_ble_eq_true rfl, ev_M_reason h a1 a2 hp eqRI⟩
    · exact fun z => nomatch z
def k_M_isFirst (pc : Nat) : Ent := bif Nat.ble 23 pc then am_nop else bif Nat.ble 10 pc then (bif Nat.ble 17 pc then (bif Nat.ble 21 pc then (bif Nat.ble 22 pc then (bif Nat.beq pc 22 then (.ireturn, 0, 0, []) else am_nop) else (bif Nat.beq pc 21 then (.iconst 0, 0, 0, []) else am_nop)) else (bif Nat.ble 18 pc then (bif Nat.beq pc 18 then (.goto 4, 0, 22, []) else am_nop) else (bif Nat.beq pc 17 then (.iconst 1, 1, 0, []) else am_nop))) else (bif Nat.ble 13 pc then (bif Nat.ble 14 pc then (bif Nat.beq pc 14 then (.if_icmp .ne 7, 0, 21, []) else am_nop) else (bif Nat.beq pc 13 then (.iconst (-1), (-1 : Int32), 0, []) else am_nop)) else (bif Nat.beq pc 10 then (.invokevirtual 64, 0, 0, []) else am_nop))) else (bif Nat.ble 5 pc then (bif Nat.ble 8 pc then (bif Nat.ble 9 pc then (bif Nat.beq pc 9 then (.iload_n 1, 0, 1, []) else am_nop) else (bif Nat.beq pc 8 then (.aload_n 0, 0, 0, []) else am_nop)) else (bif Nat.beq pc 5 then (.ifCond .eq 16, 0, 21, []) else am_nop)) else (bif Nat.ble 1 pc then (bif Nat.ble 2 pc then (bif Nat.beq pc 2 then (.invokevirtual 60, 0, 0, []) else am_nop) else (bif Nat.beq pc 1 then (.iload_n 1, 0, 1, []) else am_nop)) else (bif Nat.beq pc 0 then (.aload_n 0, 0, 0, []) else am_nop)))
def m_M_isFirst : MI := (k_M_isFirst, [], [(60, d_M_isRun 16), (64, d_M_before 16)], [], [], [], [], 3, 66, some .boolean, fun _ => 0, 1)
def v_M_isFirst (h : HP) (a1 : Int32) : Int32 := (if (v_M_isRun h a1) = 0 then (0 : Int32) else (if (v_M_before h a1) = (-1 : Int32) then (1 : Int32) else 0))
def p_M_isFirst (h : HP) (a1 : Int32) : Prop := ((p_M_isRun h a1) ∧ (((v_M_isRun h a1) = 0 → True) ∧ (¬ (v_M_isRun h a1) = 0 → (p_M_before h a1))))
def g_M_isFirst (_ _ : List Sh) (as : List Value) (h : HP) : GR := match as with
  | [.ref o1, .int a1] => (Nat.beq o1 0, p_M_isFirst h a1, none, some (.int (v_M_isFirst h a1)), h)
  | _ => bad h
def d_M_isFirst (k : Nat) : CD := (k, yX6_isFirst, cX6_isFirst, 2, some .boolean, 2, 3, 66, 0, false, true, g_M_isFirst)
theorem chk_M_isFirst : ∀ pc, am_chk cX6_isFirst k_M_isFirst pc = true := am_chkall 23 (by decide +kernel) (fun pc h => by unfold k_M_isFirst; rw [Nat.ble_eq_true_of_le h]; rfl)
theorem pf_M_isFirst : plainFor yX6_isFirst = true := by decide +kernel
theorem cu_M_isFirst : Cond.code yX6_isFirst cX6_isFirst 2 (some .boolean) ∈ am_U := am_tb 1056 (by decide +kernel) rfl
set_option maxHeartbeats 20000000 in
set_option maxRecDepth 100000 in
theorem ev_M_isFirst {e1 ro : List Sh} {P : AR → HP → Prop} (h : HP) (a1 : Int32) (hp : p_M_isFirst h a1) (hP : ∀ q, v_M_isFirst h a1 = q → RI P h q) : am_Ev m_M_isFirst (WM ++ e1) ro P (0, [.ref 0, .int a1], [], h) := by
  unfold p_M_isFirst at hp
  refine am_Ev_G [5] 400 _ ?_
  show ((p_M_isRun h a1) ∧ am_Ev m_M_isFirst (WM ++ e1) ro P (5, [.ref 0, .int a1], [.int (v_M_isRun h a1)], h))
  obtain ⟨hob, hp⟩ := hp
  refine ⟨hob, ?_⟩
  have hpa := hp
  have key1 : am_Ev m_M_isFirst (WM ++ e1) ro P (22, [.ref 0, .int a1], [.int (if (v_M_isRun h a1) = 0 then (0 : Int32) else (if (v_M_before h a1) = (-1 : Int32) then (1 : Int32) else 0))], h) := by
    refine am_Ev_G [] 400 _ ?_
    show (((((if (v_M_isRun h a1) = 0 then (0 : Int32) else (if (v_M_before h a1) = (-1 : Int32) then (1 : Int32) else 0)) : Int32) = 0 ∨ ((if (v_M_isRun h a1) = 0 then (0 : Int32) else (if (v_M_before h a1) = (-1 : Int32) then (1 : Int32) else 0)) : Int32) = 1)) ∧ P (.inl (some (.int (if (v_M_isRun h a1) = 0 then (0 : Int32) else (if (v_M_before h a1) = (-1 : Int32) then (1 : Int32) else 0))))) h)
    refine ⟨(by (repeat' split) <;> decide), ?_⟩
    exact hP (if (v_M_isRun h a1) = 0 then (0 : Int32) else (if (v_M_before h a1) = (-1 : Int32) then (1 : Int32) else 0)) rfl
  have hp := hpa
  refine am_Ev_G [22] 400 _ ?_
  show (((v_M_isRun h a1) = 0 → am_Ev m_M_isFirst (WM ++ e1) ro P (22, [.ref 0, .int a1], [.int 0], h)) ∧ (¬ (v_M_isRun h a1) = 0 → ((p_M_before h a1) ∧ ((¬ (v_M_before h a1) = (-1 : Int32) → am_Ev m_M_isFirst (WM ++ e1) ro P (22, [.ref 0, .int a1], [.int 0], h)) ∧ ((v_M_before h a1) = (-1 : Int32) → am_Ev m_M_isFirst (WM ++ e1) ro P (22, [.ref 0, .int a1], [.int 1], h))))))
  refine ⟨fun c2 => ?_, fun c2 => ?_⟩
  · skip
    simpa only [if_pos c2] using key1
  · have hp := hp.2 c2
    refine ⟨hp, ?_⟩
    refine ⟨fun c3 => ?_, fun c3 => ?_⟩
    · skip
      simpa only [if_neg c2, if_neg c3] using key1
    · skip
      simpa only [if_neg c2, if_pos c3] using key1
theorem ok_M_isFirst {l : Launch} (hl : l.stackTraces = false) (e1 ro : List Sh) (k : Nat) : am_Ok l (WM ++ e1) ro (d_M_isFirst k) := by
  refine am_met hl (own := RX6) (M := m_M_isFirst) rfl pf_M_isFirst cu_M_isFirst rfl rfl rfl rfl (fun _ => rfl) rfl ⟨chk_M_isFirst, (am_n), (am_c (lk_M_60) (am_c (lk_M_64) am_n)), (am_n), (am_n)⟩ (am_n) (am_c (ok_M_isRun hl e1 _ 16) (am_c (ok_M_before hl e1 _ 16) am_n)) (fun z => nomatch z) ?_ ?_
  · intro _ as h hg
    show g_thr (g_M_isFirst (WM ++ e1) ro as h) = none
    unfold g_M_isFirst
    split <;> rfl
  · intro as h hg hp
    revert hg hp
    show g_ok (g_M_isFirst (WM ++ e1) ro as h) = true → g_pre (g_M_isFirst (WM ++ e1) ro as h) → _ ∧ am_Ev m_M_isFirst (WM ++ e1) ro (am_eq (g_M_isFirst (WM ++ e1) ro as h)) (0, am_ent as 2, [], h)
    unfold g_M_isFirst
    split
    · rename_i o1 a1
      intro hc hp
      change (Nat.beq o1 0) = true at hc
      obtain rfl := am_beq hc
      exact ⟨Nat.le_of_ble_eq_true rfl, ev_M_isFirst h a1 hp eqRI⟩
    · exact fun z => nomatch z
def k_M_blocks (pc : Nat) : Ent := bif Nat.ble 39 pc then am_nop else bif Nat.ble 17 pc then (bif Nat.ble 29 pc then (bif Nat.ble 34 pc then (bif Nat.ble 37 pc then (bif Nat.ble 38 pc then (bif Nat.beq pc 38 then (.ireturn, 0, 0, []) else am_nop) else (bif Nat.beq pc 37 then (.iload_n 1, 0, 1, []) else am_nop)) else (bif Nat.beq pc 34 then (.goto (-30), 0, 4, []) else am_nop)) else (bif Nat.ble 30 pc then (bif Nat.ble 31 pc then (bif Nat.beq pc 31 then (.iinc 2 1, 1, 2, []) else am_nop) else (bif Nat.beq pc 30 then (.istore_n 1, 0, 1, []) else am_nop)) else (bif Nat.beq pc 29 then (.iadd, 0, 0, []) else am_nop))) else (bif Nat.ble 24 pc then (bif Nat.ble 25 pc then (bif Nat.ble 28 pc then (bif Nat.beq pc 28 then (.iconst 0, 0, 0, []) else am_nop) else (bif Nat.beq pc 25 then (.goto 4, 0, 29, []) else am_nop)) else (bif Nat.beq pc 24 then (.iconst 1, 1, 0, []) else am_nop)) else (bif Nat.ble 18 pc then (bif Nat.ble 21 pc then (bif Nat.beq pc 21 then (.ifCond .eq 7, 0, 28, []) else am_nop) else (bif Nat.beq pc 18 then (.invokevirtual 70, 0, 0, []) else am_nop)) else (bif Nat.beq pc 17 then (.iload_n 2, 0, 2, []) else am_nop)))) else (bif Nat.ble 6 pc then (bif Nat.ble 12 pc then (bif Nat.ble 15 pc then (bif Nat.ble 16 pc then (bif Nat.beq pc 16 then (.aload_n 0, 0, 0, []) else am_nop) else (bif Nat.beq pc 15 then (.iload_n 1, 0, 1, []) else am_nop)) else (bif Nat.beq pc 12 then (.if_icmp .ge 25, 0, 37, []) else am_nop)) else (bif Nat.ble 9 pc then (bif Nat.ble 11 pc then (bif Nat.beq pc 11 then (.iaload, 0, 0, []) else am_nop) else (bif Nat.beq pc 9 then (.bipush 15, 15, 0, []) else am_nop)) else (bif Nat.beq pc 6 then (.getfield 7, 0, 0, []) else am_nop))) else (bif Nat.ble 3 pc then (bif Nat.ble 4 pc then (bif Nat.ble 5 pc then (bif Nat.beq pc 5 then (.aload_n 0, 0, 0, []) else am_nop) else (bif Nat.beq pc 4 then (.iload_n 2, 0, 2, []) else am_nop)) else (bif Nat.beq pc 3 then (.istore_n 2, 0, 2, []) else am_nop)) else (bif Nat.ble 1 pc then (bif Nat.ble 2 pc then (bif Nat.beq pc 2 then (.iconst 0, 0, 0, []) else am_nop) else (bif Nat.beq pc 1 then (.istore_n 1, 0, 1, []) else am_nop)) else (bif Nat.beq pc 0 then (.iconst 0, 0, 0, []) else am_nop))))
theorem lk_M_70 : am_lnk RX6 70 (d_M_isFirst 16) := ⟨⟨by decide, by decide⟩, am_tb 8 (by decide +kernel) rfl, Or.inr ⟨by decide, rfl, am_tb 1055 (by decide +kernel) rfl, am_tp 86 (by decide +kernel) rfl, ⟨TX6, 16, rfl⟩, Or.inl (am_tb 1053 (by decide +kernel) rfl)⟩⟩
def m_M_blocks : MI := (k_M_blocks, [(7, 6, 0)], [(70, d_M_isFirst 16)], [], [], [], [], 4, 87, some .int, fun _ => 0, 1)
def s_M_blocks_4 (h : HP) (v1 : Int32 × Int32) : (Int32 × Int32) ⊕ (Int32 × Int32) := (if v1.2 < (h.1 1 (am_ix 15)) then (.inl ((v1.1 + (if (v_M_isFirst h v1.2) = 0 then (0 : Int32) else 1)), (v1.2 + 1))) else (.inr (v1.1, v1.2)))
def ps_M_blocks_4 (h : HP) (v1 : Int32 × Int32) : Prop := ((v1.2 < (h.1 1 (am_ix 15)) → (p_M_isFirst h v1.2)) ∧ (¬ v1.2 < (h.1 1 (am_ix 15)) → True))
def v_M_blocks (h : HP) : Int32 := (match itr (s_M_blocks_4 h) NF (0, 0) with | some r1 => r1.1 | none => 0)
def p_M_blocks (h : HP) : Prop := (itrp (s_M_blocks_4 h) (ps_M_blocks_4 h) NF (0, 0))
def g_M_blocks (_ _ : List Sh) (as : List Value) (h : HP) : GR := match as with
  | [.ref o1] => (Nat.beq o1 0, p_M_blocks h, none, some (.int (v_M_blocks h)), h)
  | _ => bad h
def d_M_blocks (k : Nat) : CD := (k, yX6_blocks, cX6_blocks, 3, some .int, 1, 4, 87, 0, false, true, g_M_blocks)
theorem chk_M_blocks : ∀ pc, am_chk cX6_blocks k_M_blocks pc = true := am_chkall 39 (by decide +kernel) (fun pc h => by unfold k_M_blocks; rw [Nat.ble_eq_true_of_le h]; rfl)
theorem pf_M_blocks : plainFor yX6_blocks = true := by decide +kernel
theorem cu_M_blocks : Cond.code yX6_blocks cX6_blocks 3 (some .int) ∈ am_U := am_tb 1052 (by decide +kernel) rfl
set_option maxHeartbeats 20000000 in
set_option maxRecDepth 100000 in
theorem ev_M_blocks {e1 ro : List Sh} {P : AR → HP → Prop} (h : HP) (hp : p_M_blocks h) (hP : ∀ q, v_M_blocks h = q → RI P h q) : am_Ev m_M_blocks (WM ++ e1) ro P (0, [.ref 0, .retAddr 0, .retAddr 0], [], h) := by
  unfold p_M_blocks at hp
  refine am_Ev_G [4] 400 _ ?_
  show am_Ev m_M_blocks (WM ++ e1) ro P (4, [.ref 0, .int 0, .int 0], [], h)
  have hpl := hp
  refine am_itr (E := (fun (v1 : Int32 × Int32) => am_Ev m_M_blocks (WM ++ e1) ro P (4, [.ref 0, .int v1.1, .int v1.2], [], h))) (E' := (fun (r1 : Int32 × Int32) => am_Ev m_M_blocks (WM ++ e1) ro P (37, [.ref 0, .int r1.1, .int r1.2], [], h))) (s_M_blocks_4 h) (ps_M_blocks_4 h) ?_ NF (0, 0) hpl ?_
  · intro v1 hp hc1 hx1
    show am_Ev m_M_blocks (WM ++ e1) ro P (4, [.ref 0, .int v1.1, .int v1.2], [], h)
    unfold ps_M_blocks_4 at hp
    refine am_Ev_G [21, 37] 400 _ ?_
    show ((am_in 15 163) ∧ ((¬ v1.2 < (h.1 1 (am_ix 15)) → am_Ev m_M_blocks (WM ++ e1) ro P (37, [.ref 0, .int v1.1, .int v1.2], [], h)) ∧ (v1.2 < (h.1 1 (am_ix 15)) → ((p_M_isFirst h v1.2) ∧ am_Ev m_M_blocks (WM ++ e1) ro P (21, [.ref 0, .int v1.1, .int v1.2], [.int (v_M_isFirst h v1.2), .int v1.1], h)))))
    refine ⟨⟨by decide, by decide⟩, ?_⟩
    refine ⟨fun c1 => ?_, fun c1 => ?_⟩
    · skip
      exact hx1 (v1.1, v1.2) (by unfold s_M_blocks_4; simp only [if_neg c1])
    · have hp := hp.1 c1
      refine ⟨hp, ?_⟩
      have key2 : am_Ev m_M_blocks (WM ++ e1) ro P (29, [.ref 0, .int v1.1, .int v1.2], [.int (if (v_M_isFirst h v1.2) = 0 then (0 : Int32) else 1), .int v1.1], h) := by
        refine am_Ev_G [4] 400 _ ?_
        show am_Ev m_M_blocks (WM ++ e1) ro P (4, [.ref 0, .int (v1.1 + (if (v_M_isFirst h v1.2) = 0 then (0 : Int32) else 1)), .int (v1.2 + 1)], [], h)
        exact hc1 ((v1.1 + (if (v_M_isFirst h v1.2) = 0 then (0 : Int32) else 1)), (v1.2 + 1)) (by unfold s_M_blocks_4; simp only [if_pos c1])
      refine am_Ev_G [29] 400 _ ?_
      show (((v_M_isFirst h v1.2) = 0 → am_Ev m_M_blocks (WM ++ e1) ro P (29, [.ref 0, .int v1.1, .int v1.2], [.int 0, .int v1.1], h)) ∧ (¬ (v_M_isFirst h v1.2) = 0 → am_Ev m_M_blocks (WM ++ e1) ro P (29, [.ref 0, .int v1.1, .int v1.2], [.int 1, .int v1.1], h)))
      refine ⟨fun c3 => ?_, fun c3 => ?_⟩
      · skip
        simpa only [if_pos c3] using key2
      · skip
        simpa only [if_neg c3] using key2
  · intro r1 hr4
    show am_Ev m_M_blocks (WM ++ e1) ro P (37, [.ref 0, .int r1.1, .int r1.2], [], h)
    refine am_Ev_G [] 400 _ ?_
    show P (.inl (some (.int r1.1))) h
    exact hP r1.1 (by unfold v_M_blocks; simp only [hr4])
theorem ok_M_blocks {l : Launch} (hl : l.stackTraces = false) (e1 ro : List Sh) (k : Nat) : am_Ok l (WM ++ e1) ro (d_M_blocks k) := by
  refine am_met hl (own := RX6) (M := m_M_blocks) rfl pf_M_blocks cu_M_blocks rfl rfl rfl rfl (fun _ => rfl) rfl ⟨chk_M_blocks, (am_c (fl_M_7) am_n), (am_c (lk_M_70) am_n), (am_n), (am_n)⟩ (am_n) (am_c (ok_M_isFirst hl e1 _ 16) am_n) (fun z => nomatch z) ?_ ?_
  · intro _ as h hg
    show g_thr (g_M_blocks (WM ++ e1) ro as h) = none
    unfold g_M_blocks
    split <;> rfl
  · intro as h hg hp
    revert hg hp
    show g_ok (g_M_blocks (WM ++ e1) ro as h) = true → g_pre (g_M_blocks (WM ++ e1) ro as h) → _ ∧ am_Ev m_M_blocks (WM ++ e1) ro (am_eq (g_M_blocks (WM ++ e1) ro as h)) (0, am_ent as 3, [], h)
    unfold g_M_blocks
    split
    · rename_i o1
      intro hc hp
      change (Nat.beq o1 0) = true at hc
      obtain rfl := am_beq hc
      exact ⟨Nat.le_of_ble_eq_true rfl, ev_M_blocks h hp eqRI⟩
    · exact fun z => nomatch z
def k_M_firstOf (pc : Nat) : Ent := bif Nat.ble 40 pc then am_nop else bif Nat.ble 18 pc then (bif Nat.ble 30 pc then (bif Nat.ble 35 pc then (bif Nat.ble 38 pc then (bif Nat.ble 39 pc then (bif Nat.beq pc 39 then (.ireturn, 0, 0, []) else am_nop) else (bif Nat.beq pc 38 then (.iload_n 2, 0, 2, []) else am_nop)) else (bif Nat.beq pc 35 then (.goto (-31), 0, 4, []) else am_nop)) else (bif Nat.ble 31 pc then (bif Nat.ble 32 pc then (bif Nat.beq pc 32 then (.iinc 2 1, 1, 2, []) else am_nop) else (bif Nat.beq pc 31 then (.istore_n 3, 0, 3, []) else am_nop)) else (bif Nat.beq pc 30 then (.isub, 0, 0, []) else am_nop))) else (bif Nat.ble 25 pc then (bif Nat.ble 26 pc then (bif Nat.ble 29 pc then (bif Nat.beq pc 29 then (.iconst 0, 0, 0, []) else am_nop) else (bif Nat.beq pc 26 then (.goto 4, 0, 30, []) else am_nop)) else (bif Nat.beq pc 25 then (.iconst 1, 1, 0, []) else am_nop)) else (bif Nat.ble 19 pc then (bif Nat.ble 22 pc then (bif Nat.beq pc 22 then (.ifCond .eq 7, 0, 29, []) else am_nop) else (bif Nat.beq pc 19 then (.invokevirtual 70, 0, 0, []) else am_nop)) else (bif Nat.beq pc 18 then (.iload_n 2, 0, 2, []) else am_nop)))) else (bif Nat.ble 6 pc then (bif Nat.ble 13 pc then (bif Nat.ble 16 pc then (bif Nat.ble 17 pc then (bif Nat.beq pc 17 then (.aload_n 0, 0, 0, []) else am_nop) else (bif Nat.beq pc 16 then (.iload_n 3, 0, 3, []) else am_nop)) else (bif Nat.beq pc 13 then (.ifCond .le 25, 0, 38, []) else am_nop)) else (bif Nat.ble 9 pc then (bif Nat.ble 12 pc then (bif Nat.beq pc 12 then (.iload_n 3, 0, 3, []) else am_nop) else (bif Nat.beq pc 9 then (.ifCond .eq 7, 0, 16, []) else am_nop)) else (bif Nat.beq pc 6 then (.invokevirtual 70, 0, 0, []) else am_nop))) else (bif Nat.ble 3 pc then (bif Nat.ble 4 pc then (bif Nat.ble 5 pc then (bif Nat.beq pc 5 then (.iload_n 2, 0, 2, []) else am_nop) else (bif Nat.beq pc 4 then (.aload_n 0, 0, 0, []) else am_nop)) else (bif Nat.beq pc 3 then (.istore_n 3, 0, 3, []) else am_nop)) else (bif Nat.ble 1 pc then (bif Nat.ble 2 pc then (bif Nat.beq pc 2 then (.iload_n 1, 0, 1, []) else am_nop) else (bif Nat.beq pc 1 then (.istore_n 2, 0, 2, []) else am_nop)) else (bif Nat.beq pc 0 then (.iconst 0, 0, 0, []) else am_nop))))
def m_M_firstOf : MI := (k_M_firstOf, [], [(70, d_M_isFirst 16)], [], [], [], [], 4, 87, some .int, fun _ => 0, 1)
def s_M_firstOf_4 (h : HP) (a1 : Int32) (v1 : Int32 × Int32) : (Int32 × Int32) ⊕ (Int32 × Int32) := (if (v_M_isFirst h v1.1) = 0 then (.inl ((v1.1 + 1), (v1.2 - (if (v_M_isFirst h v1.1) = 0 then (0 : Int32) else 1)))) else (if v1.2 ≤ 0 then (.inr (v1.1, v1.2)) else (.inl ((v1.1 + 1), (v1.2 - (if (v_M_isFirst h v1.1) = 0 then (0 : Int32) else 1))))))
def ps_M_firstOf_4 (h : HP) (a1 : Int32) (v1 : Int32 × Int32) : Prop := ((p_M_isFirst h v1.1) ∧ (((v_M_isFirst h v1.1) = 0 → (p_M_isFirst h v1.1)) ∧ (¬ (v_M_isFirst h v1.1) = 0 → ((v1.2 ≤ 0 → True) ∧ (¬ v1.2 ≤ 0 → (p_M_isFirst h v1.1))))))
def v_M_firstOf (h : HP) (a1 : Int32) : Int32 := (match itr (s_M_firstOf_4 h a1) NF (0, a1) with | some r1 => r1.1 | none => 0)
def p_M_firstOf (h : HP) (a1 : Int32) : Prop := (itrp (s_M_firstOf_4 h a1) (ps_M_firstOf_4 h a1) NF (0, a1))
def g_M_firstOf (_ _ : List Sh) (as : List Value) (h : HP) : GR := match as with
  | [.ref o1, .int a1] => (Nat.beq o1 0, p_M_firstOf h a1, none, some (.int (v_M_firstOf h a1)), h)
  | _ => bad h
def d_M_firstOf (k : Nat) : CD := (k, yX6_firstOf, cX6_firstOf, 4, some .int, 2, 4, 87, 0, false, true, g_M_firstOf)
theorem chk_M_firstOf : ∀ pc, am_chk cX6_firstOf k_M_firstOf pc = true := am_chkall 40 (by decide +kernel) (fun pc h => by unfold k_M_firstOf; rw [Nat.ble_eq_true_of_le h]; rfl)
theorem pf_M_firstOf : plainFor yX6_firstOf = true := by decide +kernel
theorem cu_M_firstOf : Cond.code yX6_firstOf cX6_firstOf 4 (some .int) ∈ am_U := am_tb 1180 (by decide +kernel) rfl
set_option maxHeartbeats 20000000 in
set_option maxRecDepth 100000 in
theorem ev_M_firstOf {e1 ro : List Sh} {P : AR → HP → Prop} (h : HP) (a1 : Int32) (hp : p_M_firstOf h a1) (hP : ∀ q, v_M_firstOf h a1 = q → RI P h q) : am_Ev m_M_firstOf (WM ++ e1) ro P (0, [.ref 0, .int a1, .retAddr 0, .retAddr 0], [], h) := by
  unfold p_M_firstOf at hp
  refine am_Ev_G [4] 400 _ ?_
  show am_Ev m_M_firstOf (WM ++ e1) ro P (4, [.ref 0, .int a1, .int 0, .int a1], [], h)
  refine am_fg 1 ?_
  have hpl := hp
  refine am_itr (E := (fun (v1 : Int32 × Int32) => am_Ev m_M_firstOf (WM ++ e1) ro P (4, [.ref 0, .retAddr 0, .int v1.1, .int v1.2], [], h))) (E' := (fun (r1 : Int32 × Int32) => am_Ev m_M_firstOf (WM ++ e1) ro P (38, [.ref 0, .retAddr 0, .int r1.1, .int r1.2], [], h))) (s_M_firstOf_4 h a1) (ps_M_firstOf_4 h a1) ?_ NF (0, a1) hpl ?_
  · intro v1 hp hc1 hx1
    show am_Ev m_M_firstOf (WM ++ e1) ro P (4, [.ref 0, .retAddr 0, .int v1.1, .int v1.2], [], h)
    unfold ps_M_firstOf_4 at hp
    refine am_Ev_G [9] 400 _ ?_
    show ((p_M_isFirst h v1.1) ∧ am_Ev m_M_firstOf (WM ++ e1) ro P (9, [.ref 0, .retAddr 0, .int v1.1, .int v1.2], [.int (v_M_isFirst h v1.1)], h))
    obtain ⟨hob, hp⟩ := hp
    refine ⟨hob, ?_⟩
    refine am_Ev_G [22, 38] 400 _ ?_
    show (((v_M_isFirst h v1.1) = 0 → ((p_M_isFirst h v1.1) ∧ am_Ev m_M_firstOf (WM ++ e1) ro P (22, [.ref 0, .retAddr 0, .int v1.1, .int v1.2], [.int (v_M_isFirst h v1.1), .int v1.2], h))) ∧ (¬ (v_M_isFirst h v1.1) = 0 → ((v1.2 ≤ 0 → am_Ev m_M_firstOf (WM ++ e1) ro P (38, [.ref 0, .retAddr 0, .int v1.1, .int v1.2], [], h)) ∧ (¬ v1.2 ≤ 0 → ((p_M_isFirst h v1.1) ∧ am_Ev m_M_firstOf (WM ++ e1) ro P (22, [.ref 0, .retAddr 0, .int v1.1, .int v1.2], [.int (v_M_isFirst h v1.1), .int v1.2], h))))))
    refine ⟨fun c1 => ?_, fun c1 => ?_⟩
    · have hp := hp.1 c1
      refine ⟨hp, ?_⟩
      have key2 : am_Ev m_M_firstOf (WM ++ e1) ro P (30, [.ref 0, .retAddr 0, .int v1.1, .int v1.2], [.int (if (v_M_isFirst h v1.1) = 0 then (0 : Int32) else 1), .int v1.2], h) := by
        refine am_Ev_G [4] 400 _ ?_
        show am_Ev m_M_firstOf (WM ++ e1) ro P (4, [.ref 0, .retAddr 0, .int (v1.1 + 1), .int (v1.2 - (if (v_M_isFirst h v1.1) = 0 then (0 : Int32) else 1))], [], h)
        exact hc1 ((v1.1 + 1), (v1.2 - (if (v_M_isFirst h v1.1) = 0 then (0 : Int32) else 1))) (by unfold s_M_firstOf_4; simp only [if_pos c1])
      refine am_Ev_G [30] 400 _ ?_
      show (((v_M_isFirst h v1.1) = 0 → am_Ev m_M_firstOf (WM ++ e1) ro P (30, [.ref 0, .retAddr 0, .int v1.1, .int v1.2], [.int 0, .int v1.2], h)) ∧ (¬ (v_M_isFirst h v1.1) = 0 → am_Ev m_M_firstOf (WM ++ e1) ro P (30, [.ref 0, .retAddr 0, .int v1.1, .int v1.2], [.int 1, .int v1.2], h)))
      refine ⟨fun c3 => ?_, fun c3 => ?_⟩
      · skip
        simpa only [if_pos c3] using key2
      · skip
        simpa only [if_neg c3] using key2
    · have hp := hp.2 c1
      refine ⟨fun c4 => ?_, fun c4 => ?_⟩
      · skip
        exact hx1 (v1.1, v1.2) (by unfold s_M_firstOf_4; simp only [if_neg c1, if_pos c4])
      · have hp := hp.2 c4
        refine ⟨hp, ?_⟩
        have key5 : am_Ev m_M_firstOf (WM ++ e1) ro P (30, [.ref 0, .retAddr 0, .int v1.1, .int v1.2], [.int (if (v_M_isFirst h v1.1) = 0 then (0 : Int32) else 1), .int v1.2], h) := by
          refine am_Ev_G [4] 400 _ ?_
          show am_Ev m_M_firstOf (WM ++ e1) ro P (4, [.ref 0, .retAddr 0, .int (v1.1 + 1), .int (v1.2 - (if (v_M_isFirst h v1.1) = 0 then (0 : Int32) else 1))], [], h)
          exact hc1 ((v1.1 + 1), (v1.2 - (if (v_M_isFirst h v1.1) = 0 then (0 : Int32) else 1))) (by unfold s_M_firstOf_4; simp only [if_neg c1, if_neg c4])
        refine am_Ev_G [30] 400 _ ?_
        show (((v_M_isFirst h v1.1) = 0 → am_Ev m_M_firstOf (WM ++ e1) ro P (30, [.ref 0, .retAddr 0, .int v1.1, .int v1.2], [.int 0, .int v1.2], h)) ∧ (¬ (v_M_isFirst h v1.1) = 0 → am_Ev m_M_firstOf (WM ++ e1) ro P (30, [.ref 0, .retAddr 0, .int v1.1, .int v1.2], [.int 1, .int v1.2], h)))
        refine ⟨fun c6 => ?_, fun c6 => ?_⟩
        · skip
          simpa only [if_pos c6] using key5
        · skip
          simpa only [if_neg c6] using key5
  · intro r1 hr7
    show am_Ev m_M_firstOf (WM ++ e1) ro P (38, [.ref 0, .retAddr 0, .int r1.1, .int r1.2], [], h)
    refine am_Ev_G [39] 400 _ ?_
    show am_Ev m_M_firstOf (WM ++ e1) ro P (39, [.ref 0, .retAddr 0, .int r1.1, .int r1.2], [.int r1.1], h)
    refine am_Ev_G [] 400 _ ?_
    show P (.inl (some (.int r1.1))) h
    exact hP r1.1 (by unfold v_M_firstOf; simp only [hr7])
theorem ok_M_firstOf {l : Launch} (hl : l.stackTraces = false) (e1 ro : List Sh) (k : Nat) : am_Ok l (WM ++ e1) ro (d_M_firstOf k) := by
  refine am_met hl (own := RX6) (M := m_M_firstOf) rfl pf_M_firstOf cu_M_firstOf rfl rfl rfl rfl (fun _ => rfl) rfl ⟨chk_M_firstOf, (am_n), (am_c (lk_M_70) am_n), (am_n), (am_n)⟩ (am_n) (am_c (ok_M_isFirst hl e1 _ 16) am_n) (fun z => nomatch z) ?_ ?_
  · intro _ as h hg
    show g_thr (g_M_firstOf (WM ++ e1) ro as h) = none
    unfold g_M_firstOf
    split <;> rfl
  · intro as h hg hp
    revert hg hp
    show g_ok (g_M_firstOf (WM ++ e1) ro as h) = true → g_pre (g_M_firstOf (WM ++ e1) ro as h) → _ ∧ am_Ev m_M_firstOf (WM ++ e1) ro (am_eq (g_M_firstOf (WM ++ e1) ro as h)) (0, am_ent as 4, [], h)
    unfold g_M_firstOf
    split
    · rename_i o1 a1
      intro hc hp
      change (Nat.beq o1 0) = true at hc
      obtain rfl := am_beq hc
      exact ⟨Nat.le_of_ble_eq_true rfl, ev_M_firstOf h a1 hp eqRI⟩
    · exact fun z => nomatch z
def k_M_firstAhead (pc : Nat) : Ent := bif Nat.ble 26 pc then am_nop else bif Nat.ble 13 pc then (bif Nat.ble 17 pc then (bif Nat.ble 21 pc then (bif Nat.ble 24 pc then (bif Nat.ble 25 pc then (bif Nat.beq pc 25 then (.ireturn, 0, 0, []) else am_nop) else (bif Nat.beq pc 24 then (.iload_n 2, 0, 2, []) else am_nop)) else (bif Nat.beq pc 21 then (.goto (-13), 0, 8, []) else am_nop)) else (bif Nat.ble 20 pc then (bif Nat.beq pc 20 then (.istore_n 3, 0, 3, []) else am_nop) else (bif Nat.beq pc 17 then (.invokevirtual 64, 0, 0, []) else am_nop))) else (bif Nat.ble 15 pc then (bif Nat.ble 16 pc then (bif Nat.beq pc 16 then (.iload_n 2, 0, 2, []) else am_nop) else (bif Nat.beq pc 15 then (.aload_n 0, 0, 0, []) else am_nop)) else (bif Nat.ble 14 pc then (bif Nat.beq pc 14 then (.istore_n 2, 0, 2, []) else am_nop) else (bif Nat.beq pc 13 then (.iload_n 3, 0, 3, []) else am_nop)))) else (bif Nat.ble 4 pc then (bif Nat.ble 8 pc then (bif Nat.ble 9 pc then (bif Nat.ble 10 pc then (bif Nat.beq pc 10 then (.if_icmp .eq 14, 0, 24, []) else am_nop) else (bif Nat.beq pc 9 then (.iconst (-1), (-1 : Int32), 0, []) else am_nop)) else (bif Nat.beq pc 8 then (.iload_n 3, 0, 3, []) else am_nop)) else (bif Nat.ble 7 pc then (bif Nat.beq pc 7 then (.istore_n 3, 0, 3, []) else am_nop) else (bif Nat.beq pc 4 then (.invokevirtual 64, 0, 0, []) else am_nop))) else (bif Nat.ble 2 pc then (bif Nat.ble 3 pc then (bif Nat.beq pc 3 then (.iload_n 2, 0, 2, []) else am_nop) else (bif Nat.beq pc 2 then (.aload_n 0, 0, 0, []) else am_nop)) else (bif Nat.ble 1 pc then (bif Nat.beq pc 1 then (.istore_n 2, 0, 2, []) else am_nop) else (bif Nat.beq pc 0 then (.iload_n 1, 0, 1, []) else am_nop))))
def m_M_firstAhead : MI := (k_M_firstAhead, [], [(64, d_M_before 16)], [], [], [], [], 3, 66, some .int, fun _ => 0, 1)
def s_M_firstAhead_8 (h : HP) (a1 : Int32) (v1 : Int32 × Int32) : (Int32 × Int32) ⊕ (Int32 × Int32) := (if v1.2 = (-1 : Int32) then (.inr (v1.1, v1.2)) else (.inl (v1.2, (v_M_before h v1.2))))
def ps_M_firstAhead_8 (h : HP) (a1 : Int32) (v1 : Int32 × Int32) : Prop := ((v1.2 = (-1 : Int32) → True) ∧ (¬ v1.2 = (-1 : Int32) → (p_M_before h v1.2)))
def v_M_firstAhead (h : HP) (a1 : Int32) : Int32 := (match itr (s_M_firstAhead_8 h a1) NF (a1, (v_M_before h a1)) with | some r1 => r1.1 | none => 0)
def p_M_firstAhead (h : HP) (a1 : Int32) : Prop := ((p_M_before h a1) ∧ (itrp (s_M_firstAhead_8 h a1) (ps_M_firstAhead_8 h a1) NF (a1, (v_M_before h a1))))
def g_M_firstAhead (_ _ : List Sh) (as : List Value) (h : HP) : GR := match as with
  | [.ref o1, .int a1] => (Nat.beq o1 0, p_M_firstAhead h a1, none, some (.int (v_M_firstAhead h a1)), h)
  | _ => bad h
def d_M_firstAhead (k : Nat) : CD := (k, yX6_firstAhead, cX6_firstAhead, 4, some .int, 2, 3, 66, 0, false, true, g_M_firstAhead)
theorem chk_M_firstAhead : ∀ pc, am_chk cX6_firstAhead k_M_firstAhead pc = true := am_chkall 26 (by decide +kernel) (fun pc h => by unfold k_M_firstAhead; rw [Nat.ble_eq_true_of_le h]; rfl)
theorem pf_M_firstAhead : plainFor yX6_firstAhead = true := by decide +kernel
theorem cu_M_firstAhead : Cond.code yX6_firstAhead cX6_firstAhead 4 (some .int) ∈ am_U := am_tb 1164 (by decide +kernel) rfl
set_option maxHeartbeats 20000000 in
set_option maxRecDepth 100000 in
theorem ev_M_firstAhead {e1 ro : List Sh} {P : AR → HP → Prop} (h : HP) (a1 : Int32) (hp : p_M_firstAhead h a1) (hP : ∀ q, v_M_firstAhead h a1 = q → RI P h q) : am_Ev m_M_firstAhead (WM ++ e1) ro P (0, [.ref 0, .int a1, .retAddr 0, .retAddr 0], [], h) := by
  unfold p_M_firstAhead at hp
  refine am_Ev_G [8] 400 _ ?_
  show ((p_M_before h a1) ∧ am_Ev m_M_firstAhead (WM ++ e1) ro P (8, [.ref 0, .int a1, .int a1, .int (v_M_before h a1)], [], h))
  obtain ⟨hob, hp⟩ := hp
  refine ⟨hob, ?_⟩
  refine am_fg 1 ?_
  have hpl := hp
  refine am_itr (E := (fun (v1 : Int32 × Int32) => am_Ev m_M_firstAhead (WM ++ e1) ro P (8, [.ref 0, .retAddr 0, .int v1.1, .int v1.2], [], h))) (E' := (fun (r1 : Int32 × Int32) => am_Ev m_M_firstAhead (WM ++ e1) ro P (24, [.ref 0, .retAddr 0, .int r1.1, .int r1.2], [], h))) (s_M_firstAhead_8 h a1) (ps_M_firstAhead_8 h a1) ?_ NF (a1, (v_M_before h a1)) hpl ?_
  · intro v1 hp hc1 hx1
    show am_Ev m_M_firstAhead (WM ++ e1) ro P (8, [.ref 0, .retAddr 0, .int v1.1, .int v1.2], [], h)
    unfold ps_M_firstAhead_8 at hp
    refine am_Ev_G [20, 24] 400 _ ?_
    show ((v1.2 = (-1 : Int32) → am_Ev m_M_firstAhead (WM ++ e1) ro P (24, [.ref 0, .retAddr 0, .int v1.1, .int v1.2], [], h)) ∧ (¬ v1.2 = (-1 : Int32) → ((p_M_before h v1.2) ∧ am_Ev m_M_firstAhead (WM ++ e1) ro P (20, [.ref 0, .retAddr 0, .int v1.2, .int v1.2], [.int (v_M_before h v1.2)], h))))
    refine ⟨fun c1 => ?_, fun c1 => ?_⟩
    · skip
      exact hx1 (v1.1, v1.2) (by unfold s_M_firstAhead_8; simp only [if_pos c1])
    · have hp := hp.2 c1
      refine ⟨hp, ?_⟩
      refine am_Ev_G [8] 400 _ ?_
      show am_Ev m_M_firstAhead (WM ++ e1) ro P (8, [.ref 0, .retAddr 0, .int v1.2, .int (v_M_before h v1.2)], [], h)
      exact hc1 (v1.2, (v_M_before h v1.2)) (by unfold s_M_firstAhead_8; simp only [if_neg c1])
  · intro r1 hr2
    show am_Ev m_M_firstAhead (WM ++ e1) ro P (24, [.ref 0, .retAddr 0, .int r1.1, .int r1.2], [], h)
    refine am_Ev_G [] 400 _ ?_
    show P (.inl (some (.int r1.1))) h
    exact hP r1.1 (by unfold v_M_firstAhead; simp only [hr2])
theorem ok_M_firstAhead {l : Launch} (hl : l.stackTraces = false) (e1 ro : List Sh) (k : Nat) : am_Ok l (WM ++ e1) ro (d_M_firstAhead k) := by
  refine am_met hl (own := RX6) (M := m_M_firstAhead) rfl pf_M_firstAhead cu_M_firstAhead rfl rfl rfl rfl (fun _ => rfl) rfl ⟨chk_M_firstAhead, (am_n), (am_c (lk_M_64) am_n), (am_n), (am_n)⟩ (am_n) (am_c (ok_M_before hl e1 _ 16) am_n) (fun z => nomatch z) ?_ ?_
  · intro _ as h hg
    show g_thr (g_M_firstAhead (WM ++ e1) ro as h) = none
    unfold g_M_firstAhead
    split <;> rfl
  · intro as h hg hp
    revert hg hp
    show g_ok (g_M_firstAhead (WM ++ e1) ro as h) = true → g_pre (g_M_firstAhead (WM ++ e1) ro as h) → _ ∧ am_Ev m_M_firstAhead (WM ++ e1) ro (am_eq (g_M_firstAhead (WM ++ e1) ro as h)) (0, am_ent as 4, [], h)
    unfold g_M_firstAhead
    split
    · rename_i o1 a1
      intro hc hp
      change (Nat.beq o1 0) = true at hc
      obtain rfl := am_beq hc
      exact ⟨Nat.le_of_ble_eq_true rfl, ev_M_firstAhead h a1 hp eqRI⟩
    · exact fun z => nomatch z
def k_M_blockOfTrip (pc : Nat) : Ent := bif Nat.ble 42 pc then am_nop else bif Nat.ble 18 pc then (bif Nat.ble 31 pc then (bif Nat.ble 34 pc then (bif Nat.ble 40 pc then (bif Nat.ble 41 pc then (bif Nat.beq pc 41 then (.ireturn, 0, 0, []) else am_nop) else (bif Nat.beq pc 40 then (.iload_n 3, 0, 3, []) else am_nop)) else (bif Nat.ble 37 pc then (bif Nat.beq pc 37 then (.goto (-26), 0, 11, []) else am_nop) else (bif Nat.beq pc 34 then (.iinc 4 1, 1, 4, []) else am_nop))) else (bif Nat.ble 32 pc then (bif Nat.ble 33 pc then (bif Nat.beq pc 33 then (.istore_n 3, 0, 3, []) else am_nop) else (bif Nat.beq pc 32 then (.iadd, 0, 0, []) else am_nop)) else (bif Nat.beq pc 31 then (.iconst 0, 0, 0, []) else am_nop))) else (bif Nat.ble 24 pc then (bif Nat.ble 27 pc then (bif Nat.ble 28 pc then (bif Nat.beq pc 28 then (.goto 4, 0, 32, []) else am_nop) else (bif Nat.beq pc 27 then (.iconst 1, 1, 0, []) else am_nop)) else (bif Nat.beq pc 24 then (.ifCond .eq 7, 0, 31, []) else am_nop)) else (bif Nat.ble 19 pc then (bif Nat.ble 21 pc then (bif Nat.beq pc 21 then (.invokevirtual 70, 0, 0, []) else am_nop) else (bif Nat.beq pc 19 then (.iload 4, 0, 4, []) else am_nop)) else (bif Nat.beq pc 18 then (.aload_n 0, 0, 0, []) else am_nop)))) else (bif Nat.ble 8 pc then (bif Nat.ble 13 pc then (bif Nat.ble 14 pc then (bif Nat.ble 17 pc then (bif Nat.beq pc 17 then (.iload_n 3, 0, 3, []) else am_nop) else (bif Nat.beq pc 14 then (.if_icmp .ge 26, 0, 40, []) else am_nop)) else (bif Nat.beq pc 13 then (.iload_n 2, 0, 2, []) else am_nop)) else (bif Nat.ble 9 pc then (bif Nat.ble 11 pc then (bif Nat.beq pc 11 then (.iload 4, 0, 4, []) else am_nop) else (bif Nat.beq pc 9 then (.istore 4, 0, 4, []) else am_nop)) else (bif Nat.beq pc 8 then (.iconst 0, 0, 0, []) else am_nop))) else (bif Nat.ble 5 pc then (bif Nat.ble 6 pc then (bif Nat.ble 7 pc then (bif Nat.beq pc 7 then (.istore_n 3, 0, 3, []) else am_nop) else (bif Nat.beq pc 6 then (.iconst 0, 0, 0, []) else am_nop)) else (bif Nat.beq pc 5 then (.istore_n 2, 0, 2, []) else am_nop)) else (bif Nat.ble 1 pc then (bif Nat.ble 2 pc then (bif Nat.beq pc 2 then (.invokevirtual 73, 0, 0, []) else am_nop) else (bif Nat.beq pc 1 then (.iload_n 1, 0, 1, []) else am_nop)) else (bif Nat.beq pc 0 then (.aload_n 0, 0, 0, []) else am_nop))))
theorem lk_M_73 : am_lnk RX6 73 (d_M_firstAhead 16) := ⟨⟨by decide, by decide⟩, am_tb 8 (by decide +kernel) rfl, Or.inr ⟨by decide, rfl, am_tb 1163 (by decide +kernel) rfl, am_tp 103 (by decide +kernel) rfl, ⟨TX6, 16, rfl⟩, Or.inl (am_tb 1161 (by decide +kernel) rfl)⟩⟩
def m_M_blockOfTrip : MI := (k_M_blockOfTrip, [], [(70, d_M_isFirst 16), (73, d_M_firstAhead 16)], [], [], [], [], 4, 89, some .int, fun _ => 0, 1)
def s_M_blockOfTrip_11 (h : HP) (a1 : Int32) (v1 : Int32 × Int32) : (Int32 × Int32) ⊕ (Int32 × Int32) := (if v1.2 < (v_M_firstAhead h a1) then (.inl ((v1.1 + (if (v_M_isFirst h v1.2) = 0 then (0 : Int32) else 1)), (v1.2 + 1))) else (.inr (v1.1, v1.2)))
def ps_M_blockOfTrip_11 (h : HP) (a1 : Int32) (v1 : Int32 × Int32) : Prop := ((v1.2 < (v_M_firstAhead h a1) → (p_M_isFirst h v1.2)) ∧ (¬ v1.2 < (v_M_firstAhead h a1) → True))
def v_M_blockOfTrip (h : HP) (a1 : Int32) : Int32 := (match itr (s_M_blockOfTrip_11 h a1) NF (0, 0) with | some r1 => r1.1 | none => 0)
def p_M_blockOfTrip (h : HP) (a1 : Int32) : Prop := ((p_M_firstAhead h a1) ∧ (itrp (s_M_blockOfTrip_11 h a1) (ps_M_blockOfTrip_11 h a1) NF (0, 0)))
def g_M_blockOfTrip (_ _ : List Sh) (as : List Value) (h : HP) : GR := match as with
  | [.ref o1, .int a1] => (Nat.beq o1 0, p_M_blockOfTrip h a1, none, some (.int (v_M_blockOfTrip h a1)), h)
  | _ => bad h
def d_M_blockOfTrip (k : Nat) : CD := (k, yX6_blockOfTrip, cX6_blockOfTrip, 5, some .int, 2, 4, 89, 0, false, true, g_M_blockOfTrip)
theorem chk_M_blockOfTrip : ∀ pc, am_chk cX6_blockOfTrip k_M_blockOfTrip pc = true := am_chkall 42 (by decide +kernel) (fun pc h => by unfold k_M_blockOfTrip; rw [Nat.ble_eq_true_of_le h]; rfl)
theorem pf_M_blockOfTrip : plainFor yX6_blockOfTrip = true := by decide +kernel
theorem cu_M_blockOfTrip : Cond.code yX6_blockOfTrip cX6_blockOfTrip 5 (some .int) ∈ am_U := am_tb 1160 (by decide +kernel) rfl
set_option maxHeartbeats 20000000 in
set_option maxRecDepth 100000 in
theorem ev_M_blockOfTrip {e1 ro : List Sh} {P : AR → HP → Prop} (h : HP) (a1 : Int32) (hp : p_M_blockOfTrip h a1) (hP : ∀ q, v_M_blockOfTrip h a1 = q → RI P h q) : am_Ev m_M_blockOfTrip (WM ++ e1) ro P (0, [.ref 0, .int a1, .retAddr 0, .retAddr 0, .retAddr 0], [], h) := by
  unfold p_M_blockOfTrip at hp
  refine am_Ev_G [11] 400 _ ?_
  show ((p_M_firstAhead h a1) ∧ am_Ev m_M_blockOfTrip (WM ++ e1) ro P (11, [.ref 0, .int a1, .int (v_M_firstAhead h a1), .int 0, .int 0], [], h))
  obtain ⟨hob, hp⟩ := hp
  refine ⟨hob, ?_⟩
  refine am_fg 1 ?_
  have hpl := hp
  refine am_itr (E := (fun (v1 : Int32 × Int32) => am_Ev m_M_blockOfTrip (WM ++ e1) ro P (11, [.ref 0, .retAddr 0, .int (v_M_firstAhead h a1), .int v1.1, .int v1.2], [], h))) (E' := (fun (r1 : Int32 × Int32) => am_Ev m_M_blockOfTrip (WM ++ e1) ro P (40, [.ref 0, .retAddr 0, .int (v_M_firstAhead h a1), .int r1.1, .int r1.2], [], h))) (s_M_blockOfTrip_11 h a1) (ps_M_blockOfTrip_11 h a1) ?_ NF (0, 0) hpl ?_
  · intro v1 hp hc1 hx1
    show am_Ev m_M_blockOfTrip (WM ++ e1) ro P (11, [.ref 0, .retAddr 0, .int (v_M_firstAhead h a1), .int v1.1, .int v1.2], [], h)
    unfold ps_M_blockOfTrip_11 at hp
    refine am_Ev_G [24, 40] 400 _ ?_
    show ((¬ v1.2 < (v_M_firstAhead h a1) → am_Ev m_M_blockOfTrip (WM ++ e1) ro P (40, [.ref 0, .retAddr 0, .int (v_M_firstAhead h a1), .int v1.1, .int v1.2], [], h)) ∧ (v1.2 < (v_M_firstAhead h a1) → ((p_M_isFirst h v1.2) ∧ am_Ev m_M_blockOfTrip (WM ++ e1) ro P (24, [.ref 0, .retAddr 0, .int (v_M_firstAhead h a1), .int v1.1, .int v1.2], [.int (v_M_isFirst h v1.2), .int v1.1], h))))
    refine ⟨fun c1 => ?_, fun c1 => ?_⟩
    · skip
      exact hx1 (v1.1, v1.2) (by unfold s_M_blockOfTrip_11; simp only [if_neg c1])
    · have hp := hp.1 c1
      refine ⟨hp, ?_⟩
      have key2 : am_Ev m_M_blockOfTrip (WM ++ e1) ro P (32, [.ref 0, .retAddr 0, .int (v_M_firstAhead h a1), .int v1.1, .int v1.2], [.int (if (v_M_isFirst h v1.2) = 0 then (0 : Int32) else 1), .int v1.1], h) := by
        refine am_Ev_G [11] 400 _ ?_
        show am_Ev m_M_blockOfTrip (WM ++ e1) ro P (11, [.ref 0, .retAddr 0, .int (v_M_firstAhead h a1), .int (v1.1 + (if (v_M_isFirst h v1.2) = 0 then (0 : Int32) else 1)), .int (v1.2 + 1)], [], h)
        exact hc1 ((v1.1 + (if (v_M_isFirst h v1.2) = 0 then (0 : Int32) else 1)), (v1.2 + 1)) (by unfold s_M_blockOfTrip_11; simp only [if_pos c1])
      refine am_Ev_G [32] 400 _ ?_
      show (((v_M_isFirst h v1.2) = 0 → am_Ev m_M_blockOfTrip (WM ++ e1) ro P (32, [.ref 0, .retAddr 0, .int (v_M_firstAhead h a1), .int v1.1, .int v1.2], [.int 0, .int v1.1], h)) ∧ (¬ (v_M_isFirst h v1.2) = 0 → am_Ev m_M_blockOfTrip (WM ++ e1) ro P (32, [.ref 0, .retAddr 0, .int (v_M_firstAhead h a1), .int v1.1, .int v1.2], [.int 1, .int v1.1], h)))
      refine ⟨fun c3 => ?_, fun c3 => ?_⟩
      · skip
        simpa only [if_pos c3] using key2
      · skip
        simpa only [if_neg c3] using key2
  · intro r1 hr4
    show am_Ev m_M_blockOfTrip (WM ++ e1) ro P (40, [.ref 0, .retAddr 0, .int (v_M_firstAhead h a1), .int r1.1, .int r1.2], [], h)
    refine am_Ev_G [] 400 _ ?_
    show P (.inl (some (.int r1.1))) h
    exact hP r1.1 (by unfold v_M_blockOfTrip; simp only [hr4])
theorem ok_M_blockOfTrip {l : Launch} (hl : l.stackTraces = false) (e1 ro : List Sh) (k : Nat) : am_Ok l (WM ++ e1) ro (d_M_blockOfTrip k) := by
  refine am_met hl (own := RX6) (M := m_M_blockOfTrip) rfl pf_M_blockOfTrip cu_M_blockOfTrip rfl rfl rfl rfl (fun _ => rfl) rfl ⟨chk_M_blockOfTrip, (am_n), (am_c (lk_M_70) (am_c (lk_M_73) am_n)), (am_n), (am_n)⟩ (am_n) (am_c (ok_M_isFirst hl e1 _ 16) (am_c (ok_M_firstAhead hl e1 _ 16) am_n)) (fun z => nomatch z) ?_ ?_
  · intro _ as h hg
    show g_thr (g_M_blockOfTrip (WM ++ e1) ro as h) = none
    unfold g_M_blockOfTrip
    split <;> rfl
  · intro as h hg hp
    revert hg hp
    show g_ok (g_M_blockOfTrip (WM ++ e1) ro as h) = true → g_pre (g_M_blockOfTrip (WM ++ e1) ro as h) → _ ∧ am_Ev m_M_blockOfTrip (WM ++ e1) ro (am_eq (g_M_blockOfTrip (WM ++ e1) ro as h)) (0, am_ent as 5, [], h)
    unfold g_M_blockOfTrip
    split
    · rename_i o1 a1
      intro hc hp
      change (Nat.beq o1 0) = true at hc
      obtain rfl := am_beq hc
      exact ⟨Nat.le_of_ble_eq_true rfl, ev_M_blockOfTrip h a1 hp eqRI⟩
    · exact fun z => nomatch z
def k_M_lastOf (pc : Nat) : Ent := bif Nat.ble 22 pc then am_nop else bif Nat.ble 11 pc then (bif Nat.ble 16 pc then (bif Nat.ble 20 pc then (bif Nat.ble 21 pc then (bif Nat.beq pc 21 then (.ireturn, 0, 0, []) else am_nop) else (bif Nat.beq pc 20 then (.iload_n 2, 0, 2, []) else am_nop)) else (bif Nat.ble 17 pc then (bif Nat.beq pc 17 then (.goto (-15), 0, 2, []) else am_nop) else (bif Nat.beq pc 16 then (.istore_n 2, 0, 2, []) else am_nop))) else (bif Nat.ble 12 pc then (bif Nat.ble 13 pc then (bif Nat.beq pc 13 then (.invokevirtual 57, 0, 0, []) else am_nop) else (bif Nat.beq pc 12 then (.iload_n 2, 0, 2, []) else am_nop)) else (bif Nat.beq pc 11 then (.aload_n 0, 0, 0, []) else am_nop))) else (bif Nat.ble 3 pc then (bif Nat.ble 7 pc then (bif Nat.ble 8 pc then (bif Nat.beq pc 8 then (.if_icmp .eq 12, 0, 20, []) else am_nop) else (bif Nat.beq pc 7 then (.iconst (-1), (-1 : Int32), 0, []) else am_nop)) else (bif Nat.ble 4 pc then (bif Nat.beq pc 4 then (.invokevirtual 57, 0, 0, []) else am_nop) else (bif Nat.beq pc 3 then (.iload_n 2, 0, 2, []) else am_nop))) else (bif Nat.ble 1 pc then (bif Nat.ble 2 pc then (bif Nat.beq pc 2 then (.aload_n 0, 0, 0, []) else am_nop) else (bif Nat.beq pc 1 then (.istore_n 2, 0, 2, []) else am_nop)) else (bif Nat.beq pc 0 then (.iload_n 1, 0, 1, []) else am_nop)))
def m_M_lastOf : MI := (k_M_lastOf, [], [(57, d_M_next 16)], [], [], [], [], 2, 43, some .int, fun _ => 0, 1)
def s_M_lastOf_2 (h : HP) (a1 : Int32) (v1 : Int32) : (Int32) ⊕ (Int32) := (if (v_M_next h v1) = (-1 : Int32) then (.inr v1) else (.inl (v_M_next h v1)))
def ps_M_lastOf_2 (h : HP) (a1 : Int32) (v1 : Int32) : Prop := ((p_M_next h v1) ∧ (((v_M_next h v1) = (-1 : Int32) → True) ∧ (¬ (v_M_next h v1) = (-1 : Int32) → (p_M_next h v1))))
def v_M_lastOf (h : HP) (a1 : Int32) : Int32 := (match itr (s_M_lastOf_2 h a1) NF a1 with | some r1 => r1 | none => 0)
def p_M_lastOf (h : HP) (a1 : Int32) : Prop := (itrp (s_M_lastOf_2 h a1) (ps_M_lastOf_2 h a1) NF a1)
def g_M_lastOf (_ _ : List Sh) (as : List Value) (h : HP) : GR := match as with
  | [.ref o1, .int a1] => (Nat.beq o1 0, p_M_lastOf h a1, none, some (.int (v_M_lastOf h a1)), h)
  | _ => bad h
def d_M_lastOf (k : Nat) : CD := (k, yX6_lastOf, cX6_lastOf, 3, some .int, 2, 2, 43, 0, false, true, g_M_lastOf)
theorem chk_M_lastOf : ∀ pc, am_chk cX6_lastOf k_M_lastOf pc = true := am_chkall 22 (by decide +kernel) (fun pc h => by unfold k_M_lastOf; rw [Nat.ble_eq_true_of_le h]; rfl)
theorem pf_M_lastOf : plainFor yX6_lastOf = true := by decide +kernel
theorem cu_M_lastOf : Cond.code yX6_lastOf cX6_lastOf 3 (some .int) ∈ am_U := am_tb 1192 (by decide +kernel) rfl
set_option maxHeartbeats 20000000 in
set_option maxRecDepth 100000 in
theorem ev_M_lastOf {e1 ro : List Sh} {P : AR → HP → Prop} (h : HP) (a1 : Int32) (hp : p_M_lastOf h a1) (hP : ∀ q, v_M_lastOf h a1 = q → RI P h q) : am_Ev m_M_lastOf (WM ++ e1) ro P (0, [.ref 0, .int a1, .retAddr 0], [], h) := by
  unfold p_M_lastOf at hp
  refine am_Ev_G [2] 400 _ ?_
  show am_Ev m_M_lastOf (WM ++ e1) ro P (2, [.ref 0, .int a1, .int a1], [], h)
  refine am_fg 1 ?_
  have hpl := hp
  refine am_itr (E := (fun (v1 : Int32) => am_Ev m_M_lastOf (WM ++ e1) ro P (2, [.ref 0, .retAddr 0, .int v1], [], h))) (E' := (fun (r1 : Int32) => am_Ev m_M_lastOf (WM ++ e1) ro P (20, [.ref 0, .retAddr 0, .int r1], [], h))) (s_M_lastOf_2 h a1) (ps_M_lastOf_2 h a1) ?_ NF a1 hpl ?_
  · intro v1 hp hc1 hx1
    show am_Ev m_M_lastOf (WM ++ e1) ro P (2, [.ref 0, .retAddr 0, .int v1], [], h)
    unfold ps_M_lastOf_2 at hp
    refine am_Ev_G [16, 20] 400 _ ?_
    show ((p_M_next h v1) ∧ (((v_M_next h v1) = (-1 : Int32) → am_Ev m_M_lastOf (WM ++ e1) ro P (20, [.ref 0, .retAddr 0, .int v1], [], h)) ∧ (¬ (v_M_next h v1) = (-1 : Int32) → ((p_M_next h v1) ∧ am_Ev m_M_lastOf (WM ++ e1) ro P (16, [.ref 0, .retAddr 0, .int v1], [.int (v_M_next h v1)], h)))))
    obtain ⟨hob, hp⟩ := hp
    refine ⟨hob, ?_⟩
    refine ⟨fun c1 => ?_, fun c1 => ?_⟩
    · skip
      exact hx1 v1 (by unfold s_M_lastOf_2; simp only [if_pos c1])
    · have hp := hp.2 c1
      refine ⟨hp, ?_⟩
      refine am_Ev_G [2] 400 _ ?_
      show am_Ev m_M_lastOf (WM ++ e1) ro P (2, [.ref 0, .retAddr 0, .int (v_M_next h v1)], [], h)
      exact hc1 (v_M_next h v1) (by unfold s_M_lastOf_2; simp only [if_neg c1])
  · intro r1 hr2
    show am_Ev m_M_lastOf (WM ++ e1) ro P (20, [.ref 0, .retAddr 0, .int r1], [], h)
    refine am_Ev_G [] 400 _ ?_
    show P (.inl (some (.int r1))) h
    exact hP r1 (by unfold v_M_lastOf; simp only [hr2])
theorem ok_M_lastOf {l : Launch} (hl : l.stackTraces = false) (e1 ro : List Sh) (k : Nat) : am_Ok l (WM ++ e1) ro (d_M_lastOf k) := by
  refine am_met hl (own := RX6) (M := m_M_lastOf) rfl pf_M_lastOf cu_M_lastOf rfl rfl rfl rfl (fun _ => rfl) rfl ⟨chk_M_lastOf, (am_n), (am_c (lk_M_57) am_n), (am_n), (am_n)⟩ (am_n) (am_c (ok_M_next hl e1 _ 16) am_n) (fun z => nomatch z) ?_ ?_
  · intro _ as h hg
    show g_thr (g_M_lastOf (WM ++ e1) ro as h) = none
    unfold g_M_lastOf
    split <;> rfl
  · intro as h hg hp
    revert hg hp
    show g_ok (g_M_lastOf (WM ++ e1) ro as h) = true → g_pre (g_M_lastOf (WM ++ e1) ro as h) → _ ∧ am_Ev m_M_lastOf (WM ++ e1) ro (am_eq (g_M_lastOf (WM ++ e1) ro as h)) (0, am_ent as 3, [], h)
    unfold g_M_lastOf
    split
    · rename_i o1 a1
      intro hc hp
      change (Nat.beq o1 0) = true at hc
      obtain rfl := am_beq hc
      exact ⟨Nat.le_of_ble_eq_true rfl, ev_M_lastOf h a1 hp eqRI⟩
    · exact fun z => nomatch z
def k_M_earliest (pc : Nat) : Ent := bif Nat.ble 78 pc then am_nop else bif Nat.ble 38 pc then (bif Nat.ble 56 pc then (bif Nat.ble 68 pc then (bif Nat.ble 73 pc then (bif Nat.ble 76 pc then (bif Nat.ble 77 pc then (bif Nat.beq pc 77 then (.ireturn, 0, 0, []) else am_nop) else (bif Nat.beq pc 76 then (.iload_n 1, 0, 1, []) else am_nop)) else (bif Nat.beq pc 73 then (.goto (-69), 0, 4, []) else am_nop)) else (bif Nat.ble 69 pc then (bif Nat.ble 70 pc then (bif Nat.beq pc 70 then (.iinc 2 1, 1, 2, []) else am_nop) else (bif Nat.beq pc 69 then (.istore_n 1, 0, 1, []) else am_nop)) else (bif Nat.beq pc 68 then (.iload_n 1, 0, 1, []) else am_nop))) else (bif Nat.ble 61 pc then (bif Nat.ble 64 pc then (bif Nat.ble 65 pc then (bif Nat.beq pc 65 then (.goto 4, 0, 69, []) else am_nop) else (bif Nat.beq pc 64 then (.iload_n 2, 0, 2, []) else am_nop)) else (bif Nat.beq pc 61 then (.if_icmp .ge 7, 0, 68, []) else am_nop)) else (bif Nat.ble 57 pc then (bif Nat.ble 58 pc then (bif Nat.beq pc 58 then (.invokevirtual 49, 0, 0, []) else am_nop) else (bif Nat.beq pc 57 then (.iconst 3, 3, 0, []) else am_nop)) else (bif Nat.beq pc 56 then (.iload_n 1, 0, 1, []) else am_nop)))) else (bif Nat.ble 46 pc then (bif Nat.ble 51 pc then (bif Nat.ble 52 pc then (bif Nat.ble 55 pc then (bif Nat.beq pc 55 then (.aload_n 0, 0, 0, []) else am_nop) else (bif Nat.beq pc 52 then (.invokevirtual 49, 0, 0, []) else am_nop)) else (bif Nat.beq pc 51 then (.iconst 3, 3, 0, []) else am_nop)) else (bif Nat.ble 49 pc then (bif Nat.ble 50 pc then (bif Nat.beq pc 50 then (.iload_n 2, 0, 2, []) else am_nop) else (bif Nat.beq pc 49 then (.aload_n 0, 0, 0, []) else am_nop)) else (bif Nat.beq pc 46 then (.if_icmp .eq 18, 0, 64, []) else am_nop))) else (bif Nat.ble 41 pc then (bif Nat.ble 44 pc then (bif Nat.ble 45 pc then (bif Nat.beq pc 45 then (.iconst (-1), (-1 : Int32), 0, []) else am_nop) else (bif Nat.beq pc 44 then (.iload_n 1, 0, 1, []) else am_nop)) else (bif Nat.beq pc 41 then (.ifCond .eq 27, 0, 68, []) else am_nop)) else (bif Nat.ble 39 pc then (bif Nat.ble 40 pc then (bif Nat.beq pc 40 then (.iload_n 3, 0, 3, []) else am_nop) else (bif Nat.beq pc 39 then (.istore_n 3, 0, 3, []) else am_nop)) else (bif Nat.beq pc 38 then (.iconst 0, 0, 0, []) else am_nop))))) else (bif Nat.ble 16 pc then (bif Nat.ble 28 pc then (bif Nat.ble 31 pc then (bif Nat.ble 34 pc then (bif Nat.ble 35 pc then (bif Nat.beq pc 35 then (.goto 4, 0, 39, []) else am_nop) else (bif Nat.beq pc 34 then (.iconst 1, 1, 0, []) else am_nop)) else (bif Nat.beq pc 31 then (.ifCond .ne 7, 0, 38, []) else am_nop)) else (bif Nat.ble 29 pc then (bif Nat.ble 30 pc then (bif Nat.beq pc 30 then (.iand, 0, 0, []) else am_nop) else (bif Nat.beq pc 29 then (.iconst 1, 1, 0, []) else am_nop)) else (bif Nat.beq pc 28 then (.ishr, 0, 0, []) else am_nop))) else (bif Nat.ble 23 pc then (bif Nat.ble 24 pc then (bif Nat.ble 27 pc then (bif Nat.beq pc 27 then (.iload_n 2, 0, 2, []) else am_nop) else (bif Nat.beq pc 24 then (.getfield 76, 0, 0, []) else am_nop)) else (bif Nat.beq pc 23 then (.aload_n 0, 0, 0, []) else am_nop)) else (bif Nat.ble 17 pc then (bif Nat.ble 20 pc then (bif Nat.beq pc 20 then (.ifCond .eq 18, 0, 38, []) else am_nop) else (bif Nat.beq pc 17 then (.invokevirtual 60, 0, 0, []) else am_nop)) else (bif Nat.beq pc 16 then (.iload_n 2, 0, 2, []) else am_nop)))) else (bif Nat.ble 5 pc then (bif Nat.ble 11 pc then (bif Nat.ble 12 pc then (bif Nat.ble 15 pc then (bif Nat.beq pc 15 then (.aload_n 0, 0, 0, []) else am_nop) else (bif Nat.beq pc 12 then (.if_icmp .ge 64, 0, 76, []) else am_nop)) else (bif Nat.beq pc 11 then (.iaload, 0, 0, []) else am_nop)) else (bif Nat.ble 6 pc then (bif Nat.ble 9 pc then (bif Nat.beq pc 9 then (.bipush 15, 15, 0, []) else am_nop) else (bif Nat.beq pc 6 then (.getfield 7, 0, 0, []) else am_nop)) else (bif Nat.beq pc 5 then (.aload_n 0, 0, 0, []) else am_nop))) else (bif Nat.ble 2 pc then (bif Nat.ble 3 pc then (bif Nat.ble 4 pc then (bif Nat.beq pc 4 then (.iload_n 2, 0, 2, []) else am_nop) else (bif Nat.beq pc 3 then (.istore_n 2, 0, 2, []) else am_nop)) else (bif Nat.beq pc 2 then (.iconst 0, 0, 0, []) else am_nop)) else (bif Nat.ble 1 pc then (bif Nat.beq pc 1 then (.istore_n 1, 0, 1, []) else am_nop) else (bif Nat.beq pc 0 then (.iconst (-1), (-1 : Int32), 0, []) else am_nop)))))
theorem fl_M_76 : am_fok RX6 76 (6, 9) := ⟨RX6, TX6, 16, rfl, by decide, rfl, Or.inl (am_tb 893 (by decide +kernel) rfl)⟩
def m_M_earliest : MI := (k_M_earliest, [(7, 6, 0), (76, 6, 9)], [(49, d_M_of 16), (60, d_M_isRun 16)], [], [], [], [], 2, 43, some .int, fun _ => 0, 1)
def s_M_earliest_4 (h : HP) (v1 : Int32 × Int32) : (Int32 × Int32) ⊕ (Int32 × Int32) := (if v1.2 < (h.1 1 (am_ix 15)) then (.inl ((if ((if (v_M_isRun h v1.2) = 0 then (0 : Int32) else (if (((h.1 0 9) >>> (v1.2 &&& 31)) &&& 1) = 0 then (1 : Int32) else 0)) : Int32) = 0 then v1.1 else (if v1.1 = (-1 : Int32) then v1.2 else (if (v_M_of h v1.2 3) < (v_M_of h v1.1 3) then v1.2 else v1.1))), (v1.2 + 1))) else (.inr (v1.1, v1.2)))
def ps_M_earliest_4 (h : HP) (v1 : Int32 × Int32) : Prop := ((v1.2 < (h.1 1 (am_ix 15)) → ((p_M_isRun h v1.2) ∧ ((((if (v_M_isRun h v1.2) = 0 then (0 : Int32) else (if (((h.1 0 9) >>> (v1.2 &&& 31)) &&& 1) = 0 then (1 : Int32) else 0)) : Int32) = 0 → True) ∧ (¬ ((if (v_M_isRun h v1.2) = 0 then (0 : Int32) else (if (((h.1 0 9) >>> (v1.2 &&& 31)) &&& 1) = 0 then (1 : Int32) else 0)) : Int32) = 0 → ((v1.1 = (-1 : Int32) → True) ∧ (¬ v1.1 = (-1 : Int32) → ((p_M_of h v1.2 3) ∧ (p_M_of h v1.1 3)))))))) ∧ (¬ v1.2 < (h.1 1 (am_ix 15)) → True))
def v_M_earliest (h : HP) : Int32 := (match itr (s_M_earliest_4 h) NF ((-1 : Int32), 0) with | some r1 => r1.1 | none => 0)
def p_M_earliest (h : HP) : Prop := (itrp (s_M_earliest_4 h) (ps_M_earliest_4 h) NF ((-1 : Int32), 0))
def g_M_earliest (_ _ : List Sh) (as : List Value) (h : HP) : GR := match as with
  | [.ref o1] => (Nat.beq o1 0, p_M_earliest h, none, some (.int (v_M_earliest h)), h)
  | _ => bad h
def d_M_earliest (k : Nat) : CD := (k, yX6_earliest, cX6_earliest, 4, some .int, 1, 2, 43, 0, false, true, g_M_earliest)
theorem chk_M_earliest : ∀ pc, am_chk cX6_earliest k_M_earliest pc = true := am_chkall 78 (by decide +kernel) (fun pc h => by unfold k_M_earliest; rw [Nat.ble_eq_true_of_le h]; rfl)
theorem pf_M_earliest : plainFor yX6_earliest = true := by decide +kernel
theorem cu_M_earliest : Cond.code yX6_earliest cX6_earliest 4 (some .int) ∈ am_U := am_tb 1044 (by decide +kernel) rfl
set_option maxHeartbeats 20000000 in
set_option maxRecDepth 100000 in
theorem ev_M_earliest {e1 ro : List Sh} {P : AR → HP → Prop} (h : HP) (hp : p_M_earliest h) (hP : ∀ q, v_M_earliest h = q → RI P h q) : am_Ev m_M_earliest (WM ++ e1) ro P (0, [.ref 0, .retAddr 0, .retAddr 0, .retAddr 0], [], h) := by
  unfold p_M_earliest at hp
  refine am_Ev_G [4] 400 _ ?_
  show am_Ev m_M_earliest (WM ++ e1) ro P (4, [.ref 0, .int (-1 : Int32), .int 0, .retAddr 0], [], h)
  have hpl := hp
  refine am_itr (E := (fun (v1 : Int32 × Int32) => am_Ev m_M_earliest (WM ++ e1) ro P (4, [.ref 0, .int v1.1, .int v1.2, .retAddr 0], [], h))) (E' := (fun (r1 : Int32 × Int32) => am_Ev m_M_earliest (WM ++ e1) ro P (76, [.ref 0, .int r1.1, .int r1.2, .retAddr 0], [], h))) (s_M_earliest_4 h) (ps_M_earliest_4 h) ?_ NF ((-1 : Int32), 0) hpl ?_
  · intro v1 hp hc1 hx1
    show am_Ev m_M_earliest (WM ++ e1) ro P (4, [.ref 0, .int v1.1, .int v1.2, .retAddr 0], [], h)
    unfold ps_M_earliest_4 at hp
    refine am_Ev_G [20, 76] 400 _ ?_
    show ((am_in 15 163) ∧ ((¬ v1.2 < (h.1 1 (am_ix 15)) → am_Ev m_M_earliest (WM ++ e1) ro P (76, [.ref 0, .int v1.1, .int v1.2, .retAddr 0], [], h)) ∧ (v1.2 < (h.1 1 (am_ix 15)) → ((p_M_isRun h v1.2) ∧ am_Ev m_M_earliest (WM ++ e1) ro P (20, [.ref 0, .int v1.1, .int v1.2, .retAddr 0], [.int (v_M_isRun h v1.2)], h)))))
    refine ⟨⟨by decide, by decide⟩, ?_⟩
    refine ⟨fun c1 => ?_, fun c1 => ?_⟩
    · skip
      exact hx1 (v1.1, v1.2) (by unfold s_M_earliest_4; simp only [if_neg c1])
    · have hp := hp.1 c1
      obtain ⟨hob, hp⟩ := hp
      refine ⟨hob, ?_⟩
      have key2 : am_Ev m_M_earliest (WM ++ e1) ro P (39, [.ref 0, .int v1.1, .int v1.2, .retAddr 0], [.int (if (v_M_isRun h v1.2) = 0 then (0 : Int32) else (if (((h.1 0 9) >>> (v1.2 &&& 31)) &&& 1) = 0 then (1 : Int32) else 0))], h) := by
        refine am_Ev_G [41] 400 _ ?_
        show am_Ev m_M_earliest (WM ++ e1) ro P (41, [.ref 0, .int v1.1, .int v1.2, .int (if (v_M_isRun h v1.2) = 0 then (0 : Int32) else (if (((h.1 0 9) >>> (v1.2 &&& 31)) &&& 1) = 0 then (1 : Int32) else 0))], [.int (if (v_M_isRun h v1.2) = 0 then (0 : Int32) else (if (((h.1 0 9) >>> (v1.2 &&& 31)) &&& 1) = 0 then (1 : Int32) else 0))], h)
        have hpa := hp
        have key3 : am_Ev m_M_earliest (WM ++ e1) ro P (69, [.ref 0, .int v1.1, .int v1.2, .int (if (v_M_isRun h v1.2) = 0 then (0 : Int32) else (if (((h.1 0 9) >>> (v1.2 &&& 31)) &&& 1) = 0 then (1 : Int32) else 0))], [.int (if ((if (v_M_isRun h v1.2) = 0 then (0 : Int32) else (if (((h.1 0 9) >>> (v1.2 &&& 31)) &&& 1) = 0 then (1 : Int32) else 0)) : Int32) = 0 then v1.1 else (if v1.1 = (-1 : Int32) then v1.2 else (if (v_M_of h v1.2 3) < (v_M_of h v1.1 3) then v1.2 else v1.1)))], h) := by
          refine am_Ev_G [4] 400 _ ?_
          show am_Ev m_M_earliest (WM ++ e1) ro P (4, [.ref 0, .int (if ((if (v_M_isRun h v1.2) = 0 then (0 : Int32) else (if (((h.1 0 9) >>> (v1.2 &&& 31)) &&& 1) = 0 then (1 : Int32) else 0)) : Int32) = 0 then v1.1 else (if v1.1 = (-1 : Int32) then v1.2 else (if (v_M_of h v1.2 3) < (v_M_of h v1.1 3) then v1.2 else v1.1))), .int (v1.2 + 1), .int (if (v_M_isRun h v1.2) = 0 then (0 : Int32) else (if (((h.1 0 9) >>> (v1.2 &&& 31)) &&& 1) = 0 then (1 : Int32) else 0))], [], h)
          refine am_fg 3 ?_
          exact hc1 ((if ((if (v_M_isRun h v1.2) = 0 then (0 : Int32) else (if (((h.1 0 9) >>> (v1.2 &&& 31)) &&& 1) = 0 then (1 : Int32) else 0)) : Int32) = 0 then v1.1 else (if v1.1 = (-1 : Int32) then v1.2 else (if (v_M_of h v1.2 3) < (v_M_of h v1.1 3) then v1.2 else v1.1))), (v1.2 + 1)) (by unfold s_M_earliest_4; simp only [if_pos c1])
        have hp := hpa
        refine am_Ev_G [69] 400 _ ?_
        show ((((if (v_M_isRun h v1.2) = 0 then (0 : Int32) else (if (((h.1 0 9) >>> (v1.2 &&& 31)) &&& 1) = 0 then (1 : Int32) else 0)) : Int32) = 0 → am_Ev m_M_earliest (WM ++ e1) ro P (69, [.ref 0, .int v1.1, .int v1.2, .int (if (v_M_isRun h v1.2) = 0 then (0 : Int32) else (if (((h.1 0 9) >>> (v1.2 &&& 31)) &&& 1) = 0 then (1 : Int32) else 0))], [.int v1.1], h)) ∧ (¬ ((if (v_M_isRun h v1.2) = 0 then (0 : Int32) else (if (((h.1 0 9) >>> (v1.2 &&& 31)) &&& 1) = 0 then (1 : Int32) else 0)) : Int32) = 0 → ((v1.1 = (-1 : Int32) → am_Ev m_M_earliest (WM ++ e1) ro P (69, [.ref 0, .int v1.1, .int v1.2, .int (if (v_M_isRun h v1.2) = 0 then (0 : Int32) else (if (((h.1 0 9) >>> (v1.2 &&& 31)) &&& 1) = 0 then (1 : Int32) else 0))], [.int v1.2], h)) ∧ (¬ v1.1 = (-1 : Int32) → ((p_M_of h v1.2 3) ∧ ((p_M_of h v1.1 3) ∧ ((¬ (v_M_of h v1.2 3) < (v_M_of h v1.1 3) → am_Ev m_M_earliest (WM ++ e1) ro P (69, [.ref 0, .int v1.1, .int v1.2, .int (if (v_M_isRun h v1.2) = 0 then (0 : Int32) else (if (((h.1 0 9) >>> (v1.2 &&& 31)) &&& 1) = 0 then (1 : Int32) else 0))], [.int v1.1], h)) ∧ ((v_M_of h v1.2 3) < (v_M_of h v1.1 3) → am_Ev m_M_earliest (WM ++ e1) ro P (69, [.ref 0, .int v1.1, .int v1.2, .int (if (v_M_isRun h v1.2) = 0 then (0 : Int32) else (if (((h.1 0 9) >>> (v1.2 &&& 31)) &&& 1) = 0 then (1 : Int32) else 0))], [.int v1.2], h)))))))))
        refine ⟨fun c4 => ?_, fun c4 => ?_⟩
        · skip
          simpa only [if_pos c4] using key3
        · have hp := hp.2 c4
          refine ⟨fun c5 => ?_, fun c5 => ?_⟩
          · skip
            simpa only [if_neg c4, if_pos c5] using key3
          · have hp := hp.2 c5
            obtain ⟨hob, hp⟩ := hp
            refine ⟨hob, ?_⟩
            refine ⟨hp, ?_⟩
            refine ⟨fun c6 => ?_, fun c6 => ?_⟩
            · skip
              simpa only [if_neg c4, if_neg c5, if_neg c6] using key3
            · skip
              simpa only [if_neg c4, if_neg c5, if_pos c6] using key3
      refine am_Ev_G [39] 400 _ ?_
      show (((v_M_isRun h v1.2) = 0 → am_Ev m_M_earliest (WM ++ e1) ro P (39, [.ref 0, .int v1.1, .int v1.2, .retAddr 0], [.int 0], h)) ∧ (¬ (v_M_isRun h v1.2) = 0 → ((¬ (((h.1 0 9) >>> (v1.2 &&& 31)) &&& 1) = 0 → am_Ev m_M_earliest (WM ++ e1) ro P (39, [.ref 0, .int v1.1, .int v1.2, .retAddr 0], [.int 0], h)) ∧ ((((h.1 0 9) >>> (v1.2 &&& 31)) &&& 1) = 0 → am_Ev m_M_earliest (WM ++ e1) ro P (39, [.ref 0, .int v1.1, .int v1.2, .retAddr 0], [.int 1], h)))))
      refine ⟨fun c7 => ?_, fun c7 => ?_⟩
      · skip
        simpa only [if_pos c7] using key2
      · skip
        refine ⟨fun c8 => ?_, fun c8 => ?_⟩
        · skip
          simpa only [if_neg c7, if_neg c8] using key2
        · skip
          simpa only [if_neg c7, if_pos c8] using key2
  · intro r1 hr9
    show am_Ev m_M_earliest (WM ++ e1) ro P (76, [.ref 0, .int r1.1, .int r1.2, .retAddr 0], [], h)
    refine am_Ev_G [] 400 _ ?_
    show P (.inl (some (.int r1.1))) h
    exact hP r1.1 (by unfold v_M_earliest; simp only [hr9])
theorem ok_M_earliest {l : Launch} (hl : l.stackTraces = false) (e1 ro : List Sh) (k : Nat) : am_Ok l (WM ++ e1) ro (d_M_earliest k) := by
  refine am_met hl (own := RX6) (M := m_M_earliest) rfl pf_M_earliest cu_M_earliest rfl rfl rfl rfl (fun _ => rfl) rfl ⟨chk_M_earliest, (am_c (fl_M_7) (am_c (fl_M_76) am_n)), (am_c (lk_M_49) (am_c (lk_M_60) am_n)), (am_n), (am_n)⟩ (am_n) (am_c (ok_M_of hl e1 _ 16) (am_c (ok_M_isRun hl e1 _ 16) am_n)) (fun z => nomatch z) ?_ ?_
  · intro _ as h hg
    show g_thr (g_M_earliest (WM ++ e1) ro as h) = none
    unfold g_M_earliest
    split <;> rfl
  · intro as h hg hp
    revert hg hp
    show g_ok (g_M_earliest (WM ++ e1) ro as h) = true → g_pre (g_M_earliest (WM ++ e1) ro as h) → _ ∧ am_Ev m_M_earliest (WM ++ e1) ro (am_eq (g_M_earliest (WM ++ e1) ro as h)) (0, am_ent as 4, [], h)
    unfold g_M_earliest
    split
    · rename_i o1
      intro hc hp
      change (Nat.beq o1 0) = true at hc
      obtain rfl := am_beq hc
      exact ⟨Nat.le_of_ble_eq_true rfl, ev_M_earliest h hp eqRI⟩
    · exact fun z => nomatch z
def k_M_ahead (pc : Nat) : Ent := bif Nat.ble 80 pc then am_nop else bif Nat.ble 36 pc then (bif Nat.ble 58 pc then (bif Nat.ble 70 pc then (bif Nat.ble 75 pc then (bif Nat.ble 78 pc then (bif Nat.ble 79 pc then (bif Nat.beq pc 79 then (.ireturn, 0, 0, []) else am_nop) else (bif Nat.beq pc 78 then (.iload_n 2, 0, 2, []) else am_nop)) else (bif Nat.beq pc 75 then (.goto (-71), 0, 4, []) else am_nop)) else (bif Nat.ble 71 pc then (bif Nat.ble 72 pc then (bif Nat.beq pc 72 then (.iinc 3 1, 1, 3, []) else am_nop) else (bif Nat.beq pc 71 then (.istore_n 2, 0, 2, []) else am_nop)) else (bif Nat.beq pc 70 then (.iload_n 2, 0, 2, []) else am_nop))) else (bif Nat.ble 63 pc then (bif Nat.ble 66 pc then (bif Nat.ble 67 pc then (bif Nat.beq pc 67 then (.goto 4, 0, 71, []) else am_nop) else (bif Nat.beq pc 66 then (.iload_n 3, 0, 3, []) else am_nop)) else (bif Nat.beq pc 63 then (.if_icmp .ge 7, 0, 70, []) else am_nop)) else (bif Nat.ble 59 pc then (bif Nat.ble 60 pc then (bif Nat.beq pc 60 then (.invokevirtual 53, 0, 0, []) else am_nop) else (bif Nat.beq pc 59 then (.iload_n 2, 0, 2, []) else am_nop)) else (bif Nat.beq pc 58 then (.aload_n 0, 0, 0, []) else am_nop)))) else (bif Nat.ble 48 pc then (bif Nat.ble 53 pc then (bif Nat.ble 54 pc then (bif Nat.ble 55 pc then (bif Nat.beq pc 55 then (.invokevirtual 53, 0, 0, []) else am_nop) else (bif Nat.beq pc 54 then (.iload_n 3, 0, 3, []) else am_nop)) else (bif Nat.beq pc 53 then (.aload_n 0, 0, 0, []) else am_nop)) else (bif Nat.ble 49 pc then (bif Nat.ble 50 pc then (bif Nat.beq pc 50 then (.if_icmp .eq 16, 0, 66, []) else am_nop) else (bif Nat.beq pc 49 then (.iconst (-1), (-1 : Int32), 0, []) else am_nop)) else (bif Nat.beq pc 48 then (.iload_n 2, 0, 2, []) else am_nop))) else (bif Nat.ble 41 pc then (bif Nat.ble 43 pc then (bif Nat.ble 45 pc then (bif Nat.beq pc 45 then (.ifCond .eq 25, 0, 70, []) else am_nop) else (bif Nat.beq pc 43 then (.iload 4, 0, 4, []) else am_nop)) else (bif Nat.beq pc 41 then (.istore 4, 0, 4, []) else am_nop)) else (bif Nat.ble 37 pc then (bif Nat.ble 40 pc then (bif Nat.beq pc 40 then (.iconst 0, 0, 0, []) else am_nop) else (bif Nat.beq pc 37 then (.goto 4, 0, 41, []) else am_nop)) else (bif Nat.beq pc 36 then (.iconst 1, 1, 0, []) else am_nop))))) else (bif Nat.ble 16 pc then (bif Nat.ble 24 pc then (bif Nat.ble 29 pc then (bif Nat.ble 30 pc then (bif Nat.ble 33 pc then (bif Nat.beq pc 33 then (.ifCond .ne 7, 0, 40, []) else am_nop) else (bif Nat.beq pc 30 then (.invokevirtual 79, 0, 0, []) else am_nop)) else (bif Nat.beq pc 29 then (.iload_n 3, 0, 3, []) else am_nop)) else (bif Nat.ble 27 pc then (bif Nat.ble 28 pc then (bif Nat.beq pc 28 then (.iload_n 1, 0, 1, []) else am_nop) else (bif Nat.beq pc 27 then (.aload_n 0, 0, 0, []) else am_nop)) else (bif Nat.beq pc 24 then (.if_icmp .ne 16, 0, 40, []) else am_nop))) else (bif Nat.ble 21 pc then (bif Nat.ble 22 pc then (bif Nat.ble 23 pc then (bif Nat.beq pc 23 then (.iconst 1, 1, 0, []) else am_nop) else (bif Nat.beq pc 22 then (.iand, 0, 0, []) else am_nop)) else (bif Nat.beq pc 21 then (.iconst 1, 1, 0, []) else am_nop)) else (bif Nat.ble 19 pc then (bif Nat.ble 20 pc then (bif Nat.beq pc 20 then (.ishr, 0, 0, []) else am_nop) else (bif Nat.beq pc 19 then (.iload_n 3, 0, 3, []) else am_nop)) else (bif Nat.beq pc 16 then (.getfield 76, 0, 0, []) else am_nop)))) else (bif Nat.ble 5 pc then (bif Nat.ble 11 pc then (bif Nat.ble 12 pc then (bif Nat.ble 15 pc then (bif Nat.beq pc 15 then (.aload_n 0, 0, 0, []) else am_nop) else (bif Nat.beq pc 12 then (.if_icmp .ge 66, 0, 78, []) else am_nop)) else (bif Nat.beq pc 11 then (.iaload, 0, 0, []) else am_nop)) else (bif Nat.ble 6 pc then (bif Nat.ble 9 pc then (bif Nat.beq pc 9 then (.bipush 15, 15, 0, []) else am_nop) else (bif Nat.beq pc 6 then (.getfield 7, 0, 0, []) else am_nop)) else (bif Nat.beq pc 5 then (.aload_n 0, 0, 0, []) else am_nop))) else (bif Nat.ble 2 pc then (bif Nat.ble 3 pc then (bif Nat.ble 4 pc then (bif Nat.beq pc 4 then (.iload_n 3, 0, 3, []) else am_nop) else (bif Nat.beq pc 3 then (.istore_n 3, 0, 3, []) else am_nop)) else (bif Nat.beq pc 2 then (.iconst 0, 0, 0, []) else am_nop)) else (bif Nat.ble 1 pc then (bif Nat.beq pc 1 then (.istore_n 2, 0, 2, []) else am_nop) else (bif Nat.beq pc 0 then (.iconst (-1), (-1 : Int32), 0, []) else am_nop)))))
theorem lk_M_79 : am_lnk RX6 79 (d_M_reason 16) := ⟨⟨by decide, by decide⟩, am_tb 8 (by decide +kernel) rfl, Or.inr ⟨by decide, rfl, am_tb 1019 (by decide +kernel) rfl, am_tp 79 (by decide +kernel) rfl, ⟨TX6, 16, rfl⟩, Or.inl (am_tb 1017 (by decide +kernel) rfl)⟩⟩
def m_M_ahead : MI := (k_M_ahead, [(7, 6, 0), (76, 6, 9)], [(53, d_M_arrival 16), (79, d_M_reason 16)], [], [], [], [], 4, 88, some .int, fun _ => 0, 1)
def s_M_ahead_4 (h : HP) (a1 : Int32) (v1 : Int32 × Int32) : (Int32 × Int32) ⊕ (Int32 × Int32) := (if v1.2 < (h.1 1 (am_ix 15)) then (.inl ((if ((if (((h.1 0 9) >>> (v1.2 &&& 31)) &&& 1) = 1 then (if (v_M_reason h a1 v1.2) = 0 then (1 : Int32) else 0) else 0) : Int32) = 0 then v1.1 else (if v1.1 = (-1 : Int32) then v1.2 else (if (v_M_arrival h v1.2) < (v_M_arrival h v1.1) then v1.2 else v1.1))), (v1.2 + 1))) else (.inr (v1.1, v1.2)))
def ps_M_ahead_4 (h : HP) (a1 : Int32) (v1 : Int32 × Int32) : Prop := ((v1.2 < (h.1 1 (am_ix 15)) → ((((((h.1 0 9) >>> (v1.2 &&& 31)) &&& 1) = 1 → (p_M_reason h a1 v1.2)) ∧ (¬ (((h.1 0 9) >>> (v1.2 &&& 31)) &&& 1) = 1 → True)) ∧ ((((if (((h.1 0 9) >>> (v1.2 &&& 31)) &&& 1) = 1 then (if (v_M_reason h a1 v1.2) = 0 then (1 : Int32) else 0) else 0) : Int32) = 0 → True) ∧ (¬ ((if (((h.1 0 9) >>> (v1.2 &&& 31)) &&& 1) = 1 then (if (v_M_reason h a1 v1.2) = 0 then (1 : Int32) else 0) else 0) : Int32) = 0 → ((v1.1 = (-1 : Int32) → True) ∧ (¬ v1.1 = (-1 : Int32) → ((p_M_arrival h v1.2) ∧ (p_M_arrival h v1.1)))))))) ∧ (¬ v1.2 < (h.1 1 (am_ix 15)) → True))
def v_M_ahead (h : HP) (a1 : Int32) : Int32 := (match itr (s_M_ahead_4 h a1) NF ((-1 : Int32), 0) with | some r1 => r1.1 | none => 0)
def p_M_ahead (h : HP) (a1 : Int32) : Prop := (itrp (s_M_ahead_4 h a1) (ps_M_ahead_4 h a1) NF ((-1 : Int32), 0))
def g_M_ahead (_ _ : List Sh) (as : List Value) (h : HP) : GR := match as with
  | [.ref o1, .int a1] => (Nat.beq o1 0, p_M_ahead h a1, none, some (.int (v_M_ahead h a1)), h)
  | _ => bad h
def d_M_ahead (k : Nat) : CD := (k, yX6_ahead, cX6_ahead, 5, some .int, 2, 4, 88, 0, false, true, g_M_ahead)
theorem chk_M_ahead : ∀ pc, am_chk cX6_ahead k_M_ahead pc = true := am_chkall 80 (by decide +kernel) (fun pc h => by unfold k_M_ahead; rw [Nat.ble_eq_true_of_le h]; rfl)
theorem pf_M_ahead : plainFor yX6_ahead = true := by decide +kernel
theorem cu_M_ahead : Cond.code yX6_ahead cX6_ahead 5 (some .int) ∈ am_U := am_tb 1048 (by decide +kernel) rfl
set_option maxHeartbeats 20000000 in
set_option maxRecDepth 100000 in
theorem ev_M_ahead {e1 ro : List Sh} {P : AR → HP → Prop} (h : HP) (a1 : Int32) (hp : p_M_ahead h a1) (hP : ∀ q, v_M_ahead h a1 = q → RI P h q) : am_Ev m_M_ahead (WM ++ e1) ro P (0, [.ref 0, .int a1, .retAddr 0, .retAddr 0, .retAddr 0], [], h) := by
  unfold p_M_ahead at hp
  refine am_Ev_G [4] 400 _ ?_
  show am_Ev m_M_ahead (WM ++ e1) ro P (4, [.ref 0, .int a1, .int (-1 : Int32), .int 0, .retAddr 0], [], h)
  have hpl := hp
  refine am_itr (E := (fun (v1 : Int32 × Int32) => am_Ev m_M_ahead (WM ++ e1) ro P (4, [.ref 0, .int a1, .int v1.1, .int v1.2, .retAddr 0], [], h))) (E' := (fun (r1 : Int32 × Int32) => am_Ev m_M_ahead (WM ++ e1) ro P (78, [.ref 0, .int a1, .int r1.1, .int r1.2, .retAddr 0], [], h))) (s_M_ahead_4 h a1) (ps_M_ahead_4 h a1) ?_ NF ((-1 : Int32), 0) hpl ?_
  · intro v1 hp hc1 hx1
    show am_Ev m_M_ahead (WM ++ e1) ro P (4, [.ref 0, .int a1, .int v1.1, .int v1.2, .retAddr 0], [], h)
    unfold ps_M_ahead_4 at hp
    refine am_Ev_G [22, 78] 400 _ ?_
    show ((am_in 15 163) ∧ ((¬ v1.2 < (h.1 1 (am_ix 15)) → am_Ev m_M_ahead (WM ++ e1) ro P (78, [.ref 0, .int a1, .int v1.1, .int v1.2, .retAddr 0], [], h)) ∧ (v1.2 < (h.1 1 (am_ix 15)) → am_Ev m_M_ahead (WM ++ e1) ro P (22, [.ref 0, .int a1, .int v1.1, .int v1.2, .retAddr 0], [.int 1, .int ((h.1 0 9) >>> (v1.2 &&& 31))], h))))
    refine ⟨⟨by decide, by decide⟩, ?_⟩
    refine ⟨fun c1 => ?_, fun c1 => ?_⟩
    · skip
      exact hx1 (v1.1, v1.2) (by unfold s_M_ahead_4; simp only [if_neg c1])
    · have hp := hp.1 c1
      refine am_Ev_G [24] 400 _ ?_
      show am_Ev m_M_ahead (WM ++ e1) ro P (24, [.ref 0, .int a1, .int v1.1, .int v1.2, .retAddr 0], [.int 1, .int (((h.1 0 9) >>> (v1.2 &&& 31)) &&& 1)], h)
      obtain ⟨hpa, hp⟩ := hp
      have key2 : am_Ev m_M_ahead (WM ++ e1) ro P (41, [.ref 0, .int a1, .int v1.1, .int v1.2, .retAddr 0], [.int (if (((h.1 0 9) >>> (v1.2 &&& 31)) &&& 1) = 1 then (if (v_M_reason h a1 v1.2) = 0 then (1 : Int32) else 0) else 0)], h) := by
        refine am_Ev_G [45] 400 _ ?_
        show am_Ev m_M_ahead (WM ++ e1) ro P (45, [.ref 0, .int a1, .int v1.1, .int v1.2, .int (if (((h.1 0 9) >>> (v1.2 &&& 31)) &&& 1) = 1 then (if (v_M_reason h a1 v1.2) = 0 then (1 : Int32) else 0) else 0)], [.int (if (((h.1 0 9) >>> (v1.2 &&& 31)) &&& 1) = 1 then (if (v_M_reason h a1 v1.2) = 0 then (1 : Int32) else 0) else 0)], h)
        have hpa := hp
        have key3 : am_Ev m_M_ahead (WM ++ e1) ro P (71, [.ref 0, .int a1, .int v1.1, .int v1.2, .int (if (((h.1 0 9) >>> (v1.2 &&& 31)) &&& 1) = 1 then (if (v_M_reason h a1 v1.2) = 0 then (1 : Int32) else 0) else 0)], [.int (if ((if (((h.1 0 9) >>> (v1.2 &&& 31)) &&& 1) = 1 then (if (v_M_reason h a1 v1.2) = 0 then (1 : Int32) else 0) else 0) : Int32) = 0 then v1.1 else (if v1.1 = (-1 : Int32) then v1.2 else (if (v_M_arrival h v1.2) < (v_M_arrival h v1.1) then v1.2 else v1.1)))], h) := by
          refine am_Ev_G [4] 400 _ ?_
          show am_Ev m_M_ahead (WM ++ e1) ro P (4, [.ref 0, .int a1, .int (if ((if (((h.1 0 9) >>> (v1.2 &&& 31)) &&& 1) = 1 then (if (v_M_reason h a1 v1.2) = 0 then (1 : Int32) else 0) else 0) : Int32) = 0 then v1.1 else (if v1.1 = (-1 : Int32) then v1.2 else (if (v_M_arrival h v1.2) < (v_M_arrival h v1.1) then v1.2 else v1.1))), .int (v1.2 + 1), .int (if (((h.1 0 9) >>> (v1.2 &&& 31)) &&& 1) = 1 then (if (v_M_reason h a1 v1.2) = 0 then (1 : Int32) else 0) else 0)], [], h)
          refine am_fg 4 ?_
          exact hc1 ((if ((if (((h.1 0 9) >>> (v1.2 &&& 31)) &&& 1) = 1 then (if (v_M_reason h a1 v1.2) = 0 then (1 : Int32) else 0) else 0) : Int32) = 0 then v1.1 else (if v1.1 = (-1 : Int32) then v1.2 else (if (v_M_arrival h v1.2) < (v_M_arrival h v1.1) then v1.2 else v1.1))), (v1.2 + 1)) (by unfold s_M_ahead_4; simp only [if_pos c1])
        have hp := hpa
        refine am_Ev_G [71] 400 _ ?_
        show ((((if (((h.1 0 9) >>> (v1.2 &&& 31)) &&& 1) = 1 then (if (v_M_reason h a1 v1.2) = 0 then (1 : Int32) else 0) else 0) : Int32) = 0 → am_Ev m_M_ahead (WM ++ e1) ro P (71, [.ref 0, .int a1, .int v1.1, .int v1.2, .int (if (((h.1 0 9) >>> (v1.2 &&& 31)) &&& 1) = 1 then (if (v_M_reason h a1 v1.2) = 0 then (1 : Int32) else 0) else 0)], [.int v1.1], h)) ∧ (¬ ((if (((h.1 0 9) >>> (v1.2 &&& 31)) &&& 1) = 1 then (if (v_M_reason h a1 v1.2) = 0 then (1 : Int32) else 0) else 0) : Int32) = 0 → ((v1.1 = (-1 : Int32) → am_Ev m_M_ahead (WM ++ e1) ro P (71, [.ref 0, .int a1, .int v1.1, .int v1.2, .int (if (((h.1 0 9) >>> (v1.2 &&& 31)) &&& 1) = 1 then (if (v_M_reason h a1 v1.2) = 0 then (1 : Int32) else 0) else 0)], [.int v1.2], h)) ∧ (¬ v1.1 = (-1 : Int32) → ((p_M_arrival h v1.2) ∧ ((p_M_arrival h v1.1) ∧ ((¬ (v_M_arrival h v1.2) < (v_M_arrival h v1.1) → am_Ev m_M_ahead (WM ++ e1) ro P (71, [.ref 0, .int a1, .int v1.1, .int v1.2, .int (if (((h.1 0 9) >>> (v1.2 &&& 31)) &&& 1) = 1 then (if (v_M_reason h a1 v1.2) = 0 then (1 : Int32) else 0) else 0)], [.int v1.1], h)) ∧ ((v_M_arrival h v1.2) < (v_M_arrival h v1.1) → am_Ev m_M_ahead (WM ++ e1) ro P (71, [.ref 0, .int a1, .int v1.1, .int v1.2, .int (if (((h.1 0 9) >>> (v1.2 &&& 31)) &&& 1) = 1 then (if (v_M_reason h a1 v1.2) = 0 then (1 : Int32) else 0) else 0)], [.int v1.2], h)))))))))
        refine ⟨fun c4 => ?_, fun c4 => ?_⟩
        · skip
          simpa only [if_pos c4] using key3
        · have hp := hp.2 c4
          refine ⟨fun c5 => ?_, fun c5 => ?_⟩
          · skip
            simpa only [if_neg c4, if_pos c5] using key3
          · have hp := hp.2 c5
            obtain ⟨hob, hp⟩ := hp
            refine ⟨hob, ?_⟩
            refine ⟨hp, ?_⟩
            refine ⟨fun c6 => ?_, fun c6 => ?_⟩
            · skip
              simpa only [if_neg c4, if_neg c5, if_neg c6] using key3
            · skip
              simpa only [if_neg c4, if_neg c5, if_pos c6] using key3
      have hp := hpa
      refine am_Ev_G [41] 400 _ ?_
      show ((¬ (((h.1 0 9) >>> (v1.2 &&& 31)) &&& 1) = 1 → am_Ev m_M_ahead (WM ++ e1) ro P (41, [.ref 0, .int a1, .int v1.1, .int v1.2, .retAddr 0], [.int 0], h)) ∧ ((((h.1 0 9) >>> (v1.2 &&& 31)) &&& 1) = 1 → ((p_M_reason h a1 v1.2) ∧ ((¬ (v_M_reason h a1 v1.2) = 0 → am_Ev m_M_ahead (WM ++ e1) ro P (41, [.ref 0, .int a1, .int v1.1, .int v1.2, .retAddr 0], [.int 0], h)) ∧ ((v_M_reason h a1 v1.2) = 0 → am_Ev m_M_ahead (WM ++ e1) ro P (41, [.ref 0, .int a1, .int v1.1, .int v1.2, .retAddr 0], [.int 1], h))))))
      refine ⟨fun c7 => ?_, fun c7 => ?_⟩
      · skip
        simpa only [if_neg c7] using key2
      · have hp := hp.1 c7
        refine ⟨hp, ?_⟩
        refine ⟨fun c8 => ?_, fun c8 => ?_⟩
        · skip
          simpa only [if_pos c7, if_neg c8] using key2
        · skip
          simpa only [if_pos c7, if_pos c8] using key2
  · intro r1 hr9
    show am_Ev m_M_ahead (WM ++ e1) ro P (78, [.ref 0, .int a1, .int r1.1, .int r1.2, .retAddr 0], [], h)
    refine am_Ev_G [] 400 _ ?_
    show P (.inl (some (.int r1.1))) h
    exact hP r1.1 (by unfold v_M_ahead; simp only [hr9])
theorem ok_M_ahead {l : Launch} (hl : l.stackTraces = false) (e1 ro : List Sh) (k : Nat) : am_Ok l (WM ++ e1) ro (d_M_ahead k) := by
  refine am_met hl (own := RX6) (M := m_M_ahead) rfl pf_M_ahead cu_M_ahead rfl rfl rfl rfl (fun _ => rfl) rfl ⟨chk_M_ahead, (am_c (fl_M_7) (am_c (fl_M_76) am_n)), (am_c (lk_M_53) (am_c (lk_M_79) am_n)), (am_n), (am_n)⟩ (am_n) (am_c (ok_M_arrival hl e1 _ 16) (am_c (ok_M_reason hl e1 _ 16) am_n)) (fun z => nomatch z) ?_ ?_
  · intro _ as h hg
    show g_thr (g_M_ahead (WM ++ e1) ro as h) = none
    unfold g_M_ahead
    split <;> rfl
  · intro as h hg hp
    revert hg hp
    show g_ok (g_M_ahead (WM ++ e1) ro as h) = true → g_pre (g_M_ahead (WM ++ e1) ro as h) → _ ∧ am_Ev m_M_ahead (WM ++ e1) ro (am_eq (g_M_ahead (WM ++ e1) ro as h)) (0, am_ent as 5, [], h)
    unfold g_M_ahead
    split
    · rename_i o1 a1
      intro hc hp
      change (Nat.beq o1 0) = true at hc
      obtain rfl := am_beq hc
      exact ⟨Nat.le_of_ble_eq_true rfl, ev_M_ahead h a1 hp eqRI⟩
    · exact fun z => nomatch z

end
