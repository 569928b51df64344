/-! BusBlocksModel, out of its code (written by gen/meth.py). -/
noncomputable section
def k_M_isDigit (pc : Nat) : Ent := bif Nat.ble 50 pc then am_nop else bif Nat.ble 25 pc then (bif Nat.ble 38 pc then (bif Nat.ble 44 pc then (bif Nat.ble 48 pc then (bif Nat.ble 49 pc then (bif Nat.beq pc 49 then (.ireturn, 0, 0, []) else am_nop) else (bif Nat.beq pc 48 then (.iconst 1, 1, 0, []) else am_nop)) else (bif Nat.ble 45 pc then (bif Nat.beq pc 45 then (.putfield 166, 0, 0, []) else am_nop) else (bif Nat.beq pc 44 then (.iadd, 0, 0, []) else am_nop))) else (bif Nat.ble 40 pc then (bif Nat.ble 43 pc then (bif Nat.beq pc 43 then (.iconst 1, 1, 0, []) else am_nop) else (bif Nat.beq pc 40 then (.getfield 166, 0, 0, []) else am_nop)) else (bif Nat.ble 39 pc then (bif Nat.beq pc 39 then (.dup, 0, 0, []) else am_nop) else (bif Nat.beq pc 38 then (.aload_n 0, 0, 0, []) else am_nop)))) else (bif Nat.ble 33 pc then (bif Nat.ble 36 pc then (bif Nat.ble 37 pc then (bif Nat.beq pc 37 then (.iastore, 0, 0, []) else am_nop) else (bif Nat.beq pc 36 then (.isub, 0, 0, []) else am_nop)) else (bif Nat.ble 34 pc then (bif Nat.beq pc 34 then (.bipush 48, 48, 0, []) else am_nop) else (bif Nat.beq pc 33 then (.iaload, 0, 0, []) else am_nop))) else (bif Nat.ble 29 pc then (bif Nat.ble 30 pc then (bif Nat.beq pc 30 then (.getfield 166, 0, 0, []) else am_nop) else (bif Nat.beq pc 29 then (.aload_n 0, 0, 0, []) else am_nop)) else (bif Nat.ble 26 pc then (bif Nat.beq pc 26 then (.getfield 26, 0, 0, []) else am_nop) else (bif Nat.beq pc 25 then (.aload_n 0, 0, 0, []) else am_nop))))) else (bif Nat.ble 13 pc then (bif Nat.ble 19 pc then (bif Nat.ble 23 pc then (bif Nat.ble 24 pc then (bif Nat.beq pc 24 then (.iadd, 0, 0, []) else am_nop) else (bif Nat.beq pc 23 then (.iload_n 1, 0, 1, []) else am_nop)) else (bif Nat.ble 22 pc then (bif Nat.beq pc 22 then (.imul, 0, 0, []) else am_nop) else (bif Nat.beq pc 19 then (.getfield 172, 0, 0, []) else am_nop))) else (bif Nat.ble 17 pc then (bif Nat.ble 18 pc then (bif Nat.beq pc 18 then (.aload_n 0, 0, 0, []) else am_nop) else (bif Nat.beq pc 17 then (.iconst 5, 5, 0, []) else am_nop)) else (bif Nat.ble 14 pc then (bif Nat.beq pc 14 then (.getfield 35, 0, 0, []) else am_nop) else (bif Nat.beq pc 13 then (.aload_n 0, 0, 0, []) else am_nop)))) else (bif Nat.ble 5 pc then (bif Nat.ble 11 pc then (bif Nat.ble 12 pc then (bif Nat.beq pc 12 then (.ireturn, 0, 0, []) else am_nop) else (bif Nat.beq pc 11 then (.iconst 0, 0, 0, []) else am_nop)) else (bif Nat.ble 8 pc then (bif Nat.beq pc 8 then (.ifCond .ne 5, 0, 13, []) else am_nop) else (bif Nat.beq pc 5 then (.invokevirtual 169, 0, 0, []) else am_nop))) else (bif Nat.ble 1 pc then (bif Nat.ble 3 pc then (bif Nat.beq pc 3 then (.bipush 51, 51, 0, []) else am_nop) else (bif Nat.beq pc 1 then (.bipush 48, 48, 0, []) else am_nop)) else (bif Nat.beq pc 0 then (.aload_n 0, 0, 0, []) else am_nop))))
theorem fl_M_35 : am_fok RX6 35 (6, 13) := ⟨RX6, TX6, 16, rfl, by decide, rfl, Or.inl (am_tb 897 (by decide +kernel) rfl)⟩
theorem fl_M_172 : am_fok RX6 172 (6, 14) := ⟨RX6, TX6, 16, rfl, by decide, rfl, Or.inl (am_tb 898 (by decide +kernel) rfl)⟩
def m_M_isDigit : MI := (k_M_isDigit, [(26, 6, 6), (35, 6, 13), (166, 6, 12), (172, 6, 14)], [(169, d_M_sees 16)], [], [], [], [], 2, 44, some .boolean, fun _ => 0, 1)
def v_M_isDigit (h : HP) (a1 : Int32) : Int32 × HP := (if (v_M_sees h 48 51) = 0 then (0, h) else (1, (am_si (am_si h 9 (am_ix ((5 * (h.1 0 14)) + a1)) ((h.1 6 (am_ix (h.1 0 12))) - 48)) 0 12 ((h.1 0 12) + 1))))
def p_M_isDigit (h : HP) (a1 : Int32) : Prop := ((p_M_sees h 48 51) ∧ (((v_M_sees h 48 51) = 0 → True) ∧ (¬ (v_M_sees h 48 51) = 0 → ((am_in (h.1 0 12) 60) ∧ (am_in ((5 * (h.1 0 14)) + a1) 40)))))
def g_M_isDigit (_ _ : List Sh) (as : List Value) (h : HP) : GR := match as with
  | [.ref o1, .int a1] => (Nat.beq o1 0, p_M_isDigit h a1, none, some (.int (v_M_isDigit h a1).1), (v_M_isDigit h a1).2)
  | _ => bad h
def d_M_isDigit (k : Nat) : CD := (k, yX6_isDigit, cX6_isDigit, 2, some .boolean, 2, 2, 44, 0, false, true, g_M_isDigit)
theorem chk_M_isDigit : ∀ pc, am_chk cX6_isDigit k_M_isDigit pc = true := am_chkall 50 (by decide +kernel) (fun pc h => by unfold k_M_isDigit; rw [Nat.ble_eq_true_of_le h]; rfl)
theorem pf_M_isDigit : plainFor yX6_isDigit = true := by decide +kernel
theorem cu_M_isDigit : Cond.code yX6_isDigit cX6_isDigit 2 (some .boolean) ∈ am_U := am_tb 1092 (by decide +kernel) rfl
set_option maxHeartbeats 20000000 in
set_option maxRecDepth 100000 in
theorem ev_M_isDigit {e1 ro : List Sh} {P : AR → HP → Prop} (h : HP) (a1 : Int32) (hp : p_M_isDigit h a1) (hP : ∀ q, v_M_isDigit h a1 = q → RIW P h q) : am_Ev m_M_isDigit (WM ++ e1) ro P (0, [.ref 0, .int a1], [], h) := by
  unfold p_M_isDigit at hp
  refine am_Ev_G [25] 400 _ ?_
  show ((p_M_sees h 48 51) ∧ ((¬ (v_M_sees h 48 51) = 0 → am_Ev m_M_isDigit (WM ++ e1) ro P (25, [.ref 0, .int a1], [.int ((5 * (h.1 0 14)) + a1), .ref 9], h)) ∧ ((v_M_sees h 48 51) = 0 → ((((0 : Int32) = 0 ∨ (0 : Int32) = 1)) ∧ P (.inl (some (.int 0))) h))))
  obtain ⟨hob, hp⟩ := hp
  refine ⟨hob, ?_⟩
  refine ⟨fun c1 => ?_, fun c1 => ?_⟩
  · have hp := hp.2 c1
    refine am_Ev_G [38] 400 _ ?_
    show ((am_in (h.1 0 12) 60) ∧ ((am_in ((5 * (h.1 0 14)) + a1) 40) ∧ am_Ev m_M_isDigit (WM ++ e1) ro P (38, [.ref 0, .int a1], [], (am_si h 9 (am_ix ((5 * (h.1 0 14)) + a1)) ((h.1 6 (am_ix (h.1 0 12))) - 48)))))
    obtain ⟨hob, hp⟩ := hp
    refine ⟨hob, ?_⟩
    refine ⟨hp, ?_⟩
    refine am_Ev_G [48] 400 _ ?_
    show am_Ev m_M_isDigit (WM ++ e1) ro P (48, [.ref 0, .int a1], [], (am_si (am_si h 9 (am_ix ((5 * (h.1 0 14)) + a1)) ((h.1 6 (am_ix (h.1 0 12))) - 48)) 0 12 ((h.1 0 12) + 1)))
    refine am_Ev_G [] 400 _ ?_
    show ((((1 : Int32) = 0 ∨ (1 : Int32) = 1)) ∧ P (.inl (some (.int 1))) (am_si (am_si h 9 (am_ix ((5 * (h.1 0 14)) + a1)) ((h.1 6 (am_ix (h.1 0 12))) - 48)) 0 12 ((h.1 0 12) + 1)))
    refine ⟨(by decide), ?_⟩
    exact hP (1, (am_si (am_si h 9 (am_ix ((5 * (h.1 0 14)) + a1)) ((h.1 6 (am_ix (h.1 0 12))) - 48)) 0 12 ((h.1 0 12) + 1))) (by unfold v_M_isDigit; simp only [if_neg c1])
  · skip
    refine ⟨(by decide), ?_⟩
    exact hP (0, h) (by unfold v_M_isDigit; simp only [if_pos c1])
theorem ok_M_isDigit {l : Launch} (hl : l.stackTraces = false) (e1 ro : List Sh) (k : Nat) : am_Ok l (WM ++ e1) ro (d_M_isDigit k) := by
  refine am_met hl (own := RX6) (M := m_M_isDigit) rfl pf_M_isDigit cu_M_isDigit rfl rfl rfl rfl (fun _ => rfl) rfl ⟨chk_M_isDigit, (am_c (fl_M_26) (am_c (fl_M_35) (am_c (fl_M_166) (am_c (fl_M_172) am_n)))), (am_c (lk_M_169) am_n), (am_n), (am_n)⟩ (am_n) (am_c (ok_M_sees hl e1 _ 16) am_n) (fun z => nomatch z) ?_ ?_
  · intro _ as h hg
    show g_thr (g_M_isDigit (WM ++ e1) ro as h) = none
    unfold g_M_isDigit
    split <;> rfl
  · intro as h hg hp
    revert hg hp
    show g_ok (g_M_isDigit (WM ++ e1) ro as h) = true → g_pre (g_M_isDigit (WM ++ e1) ro as h) → _ ∧ am_Ev m_M_isDigit (WM ++ e1) ro (am_eq (g_M_isDigit (WM ++ e1) ro as h)) (0, am_ent as 2, [], h)
    unfold g_M_isDigit
    split
    · rename_i o1 a1
      intro hc hp
      change (Nat.beq o1 0) = true at hc
      obtain rfl := am_beq hc
      exact ⟨Nat.le_of_ble_eq_true rfl, ev_M_isDigit h a1 hp eqRIW⟩
    · exact fun z => nomatch z
def k_M_isNumber (pc : Nat) : Ent := bif Nat.ble 127 pc then am_nop else bif Nat.ble 68 pc then (bif Nat.ble 97 pc then (bif Nat.ble 114 pc then (bif Nat.ble 121 pc then (bif Nat.ble 124 pc then (bif Nat.ble 125 pc then (bif Nat.ble 126 pc then (bif Nat.beq pc 126 then (.ireturn, 0, 0, []) else am_nop) else (bif Nat.beq pc 125 then (.iconst 1, 1, 0, []) else am_nop)) else (bif Nat.beq pc 124 then (.iastore, 0, 0, []) else am_nop)) else (bif Nat.ble 122 pc then (bif Nat.beq pc 122 then (.iload 4, 0, 4, []) else am_nop) else (bif Nat.beq pc 121 then (.iadd, 0, 0, []) else am_nop))) else (bif Nat.ble 116 pc then (bif Nat.ble 119 pc then (bif Nat.ble 120 pc then (bif Nat.beq pc 120 then (.iload_n 1, 0, 1, []) else am_nop) else (bif Nat.beq pc 119 then (.imul, 0, 0, []) else am_nop)) else (bif Nat.beq pc 116 then (.getfield 172, 0, 0, []) else am_nop)) else (bif Nat.ble 115 pc then (bif Nat.beq pc 115 then (.aload_n 0, 0, 0, []) else am_nop) else (bif Nat.beq pc 114 then (.iconst 5, 5, 0, []) else am_nop)))) else (bif Nat.ble 103 pc then (bif Nat.ble 107 pc then (bif Nat.ble 110 pc then (bif Nat.ble 111 pc then (bif Nat.beq pc 111 then (.getfield 35, 0, 0, []) else am_nop) else (bif Nat.beq pc 110 then (.aload_n 0, 0, 0, []) else am_nop)) else (bif Nat.beq pc 107 then (.goto (-68), 0, 39, []) else am_nop)) else (bif Nat.ble 104 pc then (bif Nat.beq pc 104 then (.putfield 166, 0, 0, []) else am_nop) else (bif Nat.beq pc 103 then (.iadd, 0, 0, []) else am_nop))) else (bif Nat.ble 99 pc then (bif Nat.ble 102 pc then (bif Nat.beq pc 102 then (.iconst 1, 1, 0, []) else am_nop) else (bif Nat.beq pc 99 then (.getfield 166, 0, 0, []) else am_nop)) else (bif Nat.ble 98 pc then (bif Nat.beq pc 98 then (.dup, 0, 0, []) else am_nop) else (bif Nat.beq pc 97 then (.aload_n 0, 0, 0, []) else am_nop))))) else (bif Nat.ble 82 pc then (bif Nat.ble 90 pc then (bif Nat.ble 92 pc then (bif Nat.ble 94 pc then (bif Nat.ble 95 pc then (bif Nat.beq pc 95 then (.istore 4, 0, 4, []) else am_nop) else (bif Nat.beq pc 94 then (.isub, 0, 0, []) else am_nop)) else (bif Nat.beq pc 92 then (.bipush 48, 48, 0, []) else am_nop)) else (bif Nat.ble 91 pc then (bif Nat.beq pc 91 then (.iadd, 0, 0, []) else am_nop) else (bif Nat.beq pc 90 then (.iaload, 0, 0, []) else am_nop))) else (bif Nat.ble 86 pc then (bif Nat.ble 87 pc then (bif Nat.beq pc 87 then (.getfield 166, 0, 0, []) else am_nop) else (bif Nat.beq pc 86 then (.aload_n 0, 0, 0, []) else am_nop)) else (bif Nat.ble 83 pc then (bif Nat.beq pc 83 then (.getfield 26, 0, 0, []) else am_nop) else (bif Nat.beq pc 82 then (.aload_n 0, 0, 0, []) else am_nop)))) else (bif Nat.ble 73 pc then (bif Nat.ble 77 pc then (bif Nat.ble 79 pc then (bif Nat.ble 81 pc then (bif Nat.beq pc 81 then (.imul, 0, 0, []) else am_nop) else (bif Nat.beq pc 79 then (.iload 4, 0, 4, []) else am_nop)) else (bif Nat.beq pc 77 then (.bipush 10, 10, 0, []) else am_nop)) else (bif Nat.ble 74 pc then (bif Nat.beq pc 74 then (.if_icmp .gt 36, 0, 110, []) else am_nop) else (bif Nat.beq pc 73 then (.iload_n 3, 0, 3, []) else am_nop))) else (bif Nat.ble 70 pc then (bif Nat.ble 72 pc then (bif Nat.beq pc 72 then (.isub, 0, 0, []) else am_nop) else (bif Nat.beq pc 70 then (.bipush 48, 48, 0, []) else am_nop)) else (bif Nat.ble 69 pc then (bif Nat.beq pc 69 then (.iadd, 0, 0, []) else am_nop) else (bif Nat.beq pc 68 then (.iaload, 0, 0, []) else am_nop)))))) else (bif Nat.ble 30 pc then (bif Nat.ble 47 pc then (bif Nat.ble 59 pc then (bif Nat.ble 61 pc then (bif Nat.ble 64 pc then (bif Nat.ble 65 pc then (bif Nat.beq pc 65 then (.getfield 166, 0, 0, []) else am_nop) else (bif Nat.beq pc 64 then (.aload_n 0, 0, 0, []) else am_nop)) else (bif Nat.beq pc 61 then (.getfield 26, 0, 0, []) else am_nop)) else (bif Nat.ble 60 pc then (bif Nat.beq pc 60 then (.aload_n 0, 0, 0, []) else am_nop) else (bif Nat.beq pc 59 then (.imul, 0, 0, []) else am_nop))) else (bif Nat.ble 52 pc then (bif Nat.ble 55 pc then (bif Nat.ble 57 pc then (bif Nat.beq pc 57 then (.iload 4, 0, 4, []) else am_nop) else (bif Nat.beq pc 55 then (.bipush 10, 10, 0, []) else am_nop)) else (bif Nat.beq pc 52 then (.ifCond .eq 58, 0, 110, []) else am_nop)) else (bif Nat.ble 49 pc then (bif Nat.beq pc 49 then (.invokevirtual 169, 0, 0, []) else am_nop) else (bif Nat.beq pc 47 then (.bipush 57, 57, 0, []) else am_nop)))) else (bif Nat.ble 36 pc then (bif Nat.ble 41 pc then (bif Nat.ble 44 pc then (bif Nat.ble 45 pc then (bif Nat.beq pc 45 then (.bipush 48, 48, 0, []) else am_nop) else (bif Nat.beq pc 44 then (.aload_n 0, 0, 0, []) else am_nop)) else (bif Nat.beq pc 41 then (.ifCond .le 69, 0, 110, []) else am_nop)) else (bif Nat.ble 39 pc then (bif Nat.beq pc 39 then (.iload 4, 0, 4, []) else am_nop) else (bif Nat.beq pc 36 then (.putfield 166, 0, 0, []) else am_nop))) else (bif Nat.ble 34 pc then (bif Nat.ble 35 pc then (bif Nat.beq pc 35 then (.iadd, 0, 0, []) else am_nop) else (bif Nat.beq pc 34 then (.iconst 1, 1, 0, []) else am_nop)) else (bif Nat.ble 31 pc then (bif Nat.beq pc 31 then (.getfield 166, 0, 0, []) else am_nop) else (bif Nat.beq pc 30 then (.dup, 0, 0, []) else am_nop))))) else (bif Nat.ble 15 pc then (bif Nat.ble 23 pc then (bif Nat.ble 26 pc then (bif Nat.ble 27 pc then (bif Nat.ble 29 pc then (bif Nat.beq pc 29 then (.aload_n 0, 0, 0, []) else am_nop) else (bif Nat.beq pc 27 then (.istore 4, 0, 4, []) else am_nop)) else (bif Nat.beq pc 26 then (.isub, 0, 0, []) else am_nop)) else (bif Nat.ble 24 pc then (bif Nat.beq pc 24 then (.bipush 48, 48, 0, []) else am_nop) else (bif Nat.beq pc 23 then (.iaload, 0, 0, []) else am_nop))) else (bif Nat.ble 19 pc then (bif Nat.ble 20 pc then (bif Nat.beq pc 20 then (.getfield 166, 0, 0, []) else am_nop) else (bif Nat.beq pc 19 then (.aload_n 0, 0, 0, []) else am_nop)) else (bif Nat.ble 16 pc then (bif Nat.beq pc 16 then (.getfield 26, 0, 0, []) else am_nop) else (bif Nat.beq pc 15 then (.aload_n 0, 0, 0, []) else am_nop)))) else (bif Nat.ble 5 pc then (bif Nat.ble 10 pc then (bif Nat.ble 13 pc then (bif Nat.ble 14 pc then (bif Nat.beq pc 14 then (.ireturn, 0, 0, []) else am_nop) else (bif Nat.beq pc 13 then (.iconst 0, 0, 0, []) else am_nop)) else (bif Nat.beq pc 10 then (.ifCond .ne 5, 0, 15, []) else am_nop)) else (bif Nat.ble 7 pc then (bif Nat.beq pc 7 then (.invokevirtual 169, 0, 0, []) else am_nop) else (bif Nat.beq pc 5 then (.bipush 57, 57, 0, []) else am_nop))) else (bif Nat.ble 3 pc then (bif Nat.ble 4 pc then (bif Nat.beq pc 4 then (.iadd, 0, 0, []) else am_nop) else (bif Nat.beq pc 3 then (.iload_n 2, 0, 2, []) else am_nop)) else (bif Nat.ble 1 pc then (bif Nat.beq pc 1 then (.bipush 48, 48, 0, []) else am_nop) else (bif Nat.beq pc 0 then (.aload_n 0, 0, 0, []) else am_nop))))))
def m_M_isNumber : MI := (k_M_isNumber, [(26, 6, 6), (35, 6, 13), (166, 6, 12), (172, 6, 14)], [(169, d_M_sees 16)], [], [], [], [], 2, 44, some .boolean, fun _ => 0, 1)
def s_M_isNumber_39 (h : HP) (a1 : Int32) (a2 : Int32) (a3 : Int32) (v1 : Int32 × HP) : (Int32 × HP) ⊕ (Int32 × HP) := (if v1.1 ≤ 0 then (.inr (v1.1, v1.2)) else (if (v_M_sees v1.2 48 57) = 0 then (.inr (v1.1, v1.2)) else (if (((10 * v1.1) + (v1.2.1 6 (am_ix (v1.2.1 0 12)))) - 48) ≤ a3 then (.inl ((((10 * v1.1) + (v1.2.1 6 (am_ix (v1.2.1 0 12)))) - 48), (am_si v1.2 0 12 ((v1.2.1 0 12) + 1)))) else (.inr (v1.1, v1.2)))))
def ps_M_isNumber_39 (h : HP) (a1 : Int32) (a2 : Int32) (a3 : Int32) (v1 : Int32 × HP) : Prop := ((v1.1 ≤ 0 → True) ∧ (¬ v1.1 ≤ 0 → ((p_M_sees v1.2 48 57) ∧ (((v_M_sees v1.2 48 57) = 0 → True) ∧ (¬ (v_M_sees v1.2 48 57) = 0 → ((am_in (v1.2.1 0 12) 60) ∧ (((((10 * v1.1) + (v1.2.1 6 (am_ix (v1.2.1 0 12)))) - 48) ≤ a3 → (am_in (v1.2.1 0 12) 60)) ∧ (¬ (((10 * v1.1) + (v1.2.1 6 (am_ix (v1.2.1 0 12)))) - 48) ≤ a3 → True))))))))
def v_M_isNumber (h : HP) (a1 : Int32) (a2 : Int32) (a3 : Int32) : Int32 × HP := (if (v_M_sees h (48 + a2) 57) = 0 then (0, h) else (match itr (s_M_isNumber_39 h a1 a2 a3) NF (((h.1 6 (am_ix (h.1 0 12))) - 48), (am_si h 0 12 ((h.1 0 12) + 1))) with | some r1 => (1, (am_si r1.2 9 (am_ix ((5 * (r1.2.1 0 14)) + a1)) r1.1)) | none => (0, h)))
def p_M_isNumber (h : HP) (a1 : Int32) (a2 : Int32) (a3 : Int32) : Prop := ((p_M_sees h (48 + a2) 57) ∧ (((v_M_sees h (48 + a2) 57) = 0 → True) ∧ (¬ (v_M_sees h (48 + a2) 57) = 0 → ((am_in (h.1 0 12) 60) ∧ (itrp (s_M_isNumber_39 h a1 a2 a3) (ps_M_isNumber_39 h a1 a2 a3) NF (((h.1 6 (am_ix (h.1 0 12))) - 48), (am_si h 0 12 ((h.1 0 12) + 1))) ∧ ∀ r1, itr (s_M_isNumber_39 h a1 a2 a3) NF (((h.1 6 (am_ix (h.1 0 12))) - 48), (am_si h 0 12 ((h.1 0 12) + 1))) = some r1 → (am_in ((5 * (r1.2.1 0 14)) + a1) 40))))))
def g_M_isNumber (_ _ : List Sh) (as : List Value) (h : HP) : GR := match as with
  | [.ref o1, .int a1, .int a2, .int a3] => (Nat.beq o1 0, p_M_isNumber h a1 a2 a3, none, some (.int (v_M_isNumber h a1 a2 a3).1), (v_M_isNumber h a1 a2 a3).2)
  | _ => bad h
def d_M_isNumber (k : Nat) : CD := (k, yX6_isNumber, cX6_isNumber, 5, some .boolean, 4, 2, 44, 0, false, true, g_M_isNumber)
theorem chk_M_isNumber : ∀ pc, am_chk cX6_isNumber k_M_isNumber pc = true := am_chkall 127 (by decide +kernel) (fun pc h => by unfold k_M_isNumber; rw [Nat.ble_eq_true_of_le h]; rfl)
theorem pf_M_isNumber : plainFor yX6_isNumber = true := by decide +kernel
theorem cu_M_isNumber : Cond.code yX6_isNumber cX6_isNumber 5 (some .boolean) ∈ am_U := am_tb 1104 (by decide +kernel) rfl
set_option maxHeartbeats 20000000 in
set_option maxRecDepth 100000 in
theorem ev_M_isNumber {e1 ro : List Sh} {P : AR → HP → Prop} (h : HP) (a1 : Int32) (a2 : Int32) (a3 : Int32) (hp : p_M_isNumber h a1 a2 a3) (hP : ∀ q, v_M_isNumber h a1 a2 a3 = q → RIW P h q) : am_Ev m_M_isNumber (WM ++ e1) ro P (0, [.ref 0, .int a1, .int a2, .int a3, .retAddr 0], [], h) := by
  unfold p_M_isNumber at hp
  refine am_Ev_G [26] 400 _ ?_
  show ((p_M_sees h (48 + a2) 57) ∧ ((¬ (v_M_sees h (48 + a2) 57) = 0 → ((am_in (h.1 0 12) 60) ∧ am_Ev m_M_isNumber (WM ++ e1) ro P (26, [.ref 0, .int a1, .int a2, .int a3, .retAddr 0], [.int 48, .int (h.1 6 (am_ix (h.1 0 12)))], h))) ∧ ((v_M_sees h (48 + a2) 57) = 0 → ((((0 : Int32) = 0 ∨ (0 : Int32) = 1)) ∧ P (.inl (some (.int 0))) h))))
  obtain ⟨hob, hp⟩ := hp
  refine ⟨hob, ?_⟩
  refine ⟨fun c1 => ?_, fun c1 => ?_⟩
  · have hp := hp.2 c1
    obtain ⟨hob, hp⟩ := hp
    refine ⟨hob, ?_⟩
    refine am_Ev_G [39] 400 _ ?_
    show am_Ev m_M_isNumber (WM ++ e1) ro P (39, [.ref 0, .int a1, .int a2, .int a3, .int ((h.1 6 (am_ix (h.1 0 12))) - 48)], [], (am_si h 0 12 ((h.1 0 12) + 1)))
    refine am_fg 2 ?_
    obtain ⟨hpl, hp⟩ := hp
    refine am_itr (E := (fun (v1 : Int32 × HP) => am_Ev m_M_isNumber (WM ++ e1) ro P (39, [.ref 0, .int a1, .retAddr 0, .int a3, .int v1.1], [], v1.2))) (E' := (fun (r1 : Int32 × HP) => am_Ev m_M_isNumber (WM ++ e1) ro P (110, [.ref 0, .int a1, .retAddr 0, .int a3, .int r1.1], [], r1.2))) (s_M_isNumber_39 h a1 a2 a3) (ps_M_isNumber_39 h a1 a2 a3) ?_ NF (((h.1 6 (am_ix (h.1 0 12))) - 48), (am_si h 0 12 ((h.1 0 12) + 1))) hpl ?_
    · intro v1 hp hc1 hx1
      show am_Ev m_M_isNumber (WM ++ e1) ro P (39, [.ref 0, .int a1, .retAddr 0, .int a3, .int v1.1], [], v1.2)
      unfold ps_M_isNumber_39 at hp
      refine am_Ev_G [52, 110] 400 _ ?_
      show ((v1.1 ≤ 0 → am_Ev m_M_isNumber (WM ++ e1) ro P (110, [.ref 0, .int a1, .retAddr 0, .int a3, .int v1.1], [], v1.2)) ∧ (¬ v1.1 ≤ 0 → ((p_M_sees v1.2 48 57) ∧ am_Ev m_M_isNumber (WM ++ e1) ro P (52, [.ref 0, .int a1, .retAddr 0, .int a3, .int v1.1], [.int (v_M_sees v1.2 48 57)], v1.2))))
      refine ⟨fun c2 => ?_, fun c2 => ?_⟩
      · skip
        exact hx1 (v1.1, v1.2) (by unfold s_M_isNumber_39; simp only [if_pos c2])
      · have hp := hp.2 c2
        obtain ⟨hob, hp⟩ := hp
        refine ⟨hob, ?_⟩
        refine am_Ev_G [81, 110] 400 _ ?_
        show (((v_M_sees v1.2 48 57) = 0 → am_Ev m_M_isNumber (WM ++ e1) ro P (110, [.ref 0, .int a1, .retAddr 0, .int a3, .int v1.1], [], v1.2)) ∧ (¬ (v_M_sees v1.2 48 57) = 0 → ((am_in (v1.2.1 0 12) 60) ∧ ((¬ (((10 * v1.1) + (v1.2.1 6 (am_ix (v1.2.1 0 12)))) - 48) ≤ a3 → am_Ev m_M_isNumber (WM ++ e1) ro P (110, [.ref 0, .int a1, .retAddr 0, .int a3, .int v1.1], [], v1.2)) ∧ ((((10 * v1.1) + (v1.2.1 6 (am_ix (v1.2.1 0 12)))) - 48) ≤ a3 → am_Ev m_M_isNumber (WM ++ e1) ro P (81, [.ref 0, .int a1, .retAddr 0, .int a3, .int v1.1], [.int v1.1, .int 10], v1.2))))))
        refine ⟨fun c3 => ?_, fun c3 => ?_⟩
        · skip
          exact hx1 (v1.1, v1.2) (by unfold s_M_isNumber_39; simp only [if_neg c2, if_pos c3])
        · have hp := hp.2 c3
          obtain ⟨hob, hp⟩ := hp
          refine ⟨hob, ?_⟩
          refine ⟨fun c4 => ?_, fun c4 => ?_⟩
          · skip
            exact hx1 (v1.1, v1.2) (by unfold s_M_isNumber_39; simp only [if_neg c2, if_neg c3, if_neg c4])
          · have hp := hp.1 c4
            refine am_Ev_G [107] 400 _ ?_
            show ((am_in (v1.2.1 0 12) 60) ∧ am_Ev m_M_isNumber (WM ++ e1) ro P (107, [.ref 0, .int a1, .retAddr 0, .int a3, .int (((10 * v1.1) + (v1.2.1 6 (am_ix (v1.2.1 0 12)))) - 48)], [], (am_si v1.2 0 12 ((v1.2.1 0 12) + 1))))
            refine ⟨hp, ?_⟩
            refine am_Ev_G [39] 400 _ ?_
            show am_Ev m_M_isNumber (WM ++ e1) ro P (39, [.ref 0, .int a1, .retAddr 0, .int a3, .int (((10 * v1.1) + (v1.2.1 6 (am_ix (v1.2.1 0 12)))) - 48)], [], (am_si v1.2 0 12 ((v1.2.1 0 12) + 1)))
            exact hc1 ((((10 * v1.1) + (v1.2.1 6 (am_ix (v1.2.1 0 12)))) - 48), (am_si v1.2 0 12 ((v1.2.1 0 12) + 1))) (by unfold s_M_isNumber_39; simp only [if_neg c2, if_neg c3, if_pos c4])
    · intro r1 hr5
      have hp := hp _ hr5
      show am_Ev m_M_isNumber (WM ++ e1) ro P (110, [.ref 0, .int a1, .retAddr 0, .int a3, .int r1.1], [], r1.2)
      refine am_Ev_G [125] 400 _ ?_
      show ((am_in ((5 * (r1.2.1 0 14)) + a1) 40) ∧ am_Ev m_M_isNumber (WM ++ e1) ro P (125, [.ref 0, .int a1, .retAddr 0, .int a3, .int r1.1], [], (am_si r1.2 9 (am_ix ((5 * (r1.2.1 0 14)) + a1)) r1.1)))
      refine ⟨hp, ?_⟩
      refine am_Ev_G [] 400 _ ?_
      show ((((1 : Int32) = 0 ∨ (1 : Int32) = 1)) ∧ P (.inl (some (.int 1))) (am_si r1.2 9 (am_ix ((5 * (r1.2.1 0 14)) + a1)) r1.1))
      refine ⟨(by decide), ?_⟩
      exact hP (1, (am_si r1.2 9 (am_ix ((5 * (r1.2.1 0 14)) + a1)) r1.1)) (by unfold v_M_isNumber; simp only [if_neg c1, hr5])
  · skip
    refine ⟨(by decide), ?_⟩
    exact hP (0, h) (by unfold v_M_isNumber; simp only [if_pos c1])
theorem ok_M_isNumber {l : Launch} (hl : l.stackTraces = false) (e1 ro : List Sh) (k : Nat) : am_Ok l (WM ++ e1) ro (d_M_isNumber k) := by
  refine am_met hl (own := RX6) (M := m_M_isNumber) rfl pf_M_isNumber cu_M_isNumber rfl rfl rfl rfl (fun _ => rfl) rfl ⟨chk_M_isNumber, (am_c (fl_M_26) (am_c (fl_M_35) (am_c (fl_M_166) (am_c (fl_M_172) am_n)))), (am_c (lk_M_169) am_n), (am_n), (am_n)⟩ (am_n) (am_c (ok_M_sees hl e1 _ 16) am_n) (fun z => nomatch z) ?_ ?_
  · intro _ as h hg
    show g_thr (g_M_isNumber (WM ++ e1) ro as h) = none
    unfold g_M_isNumber
    split <;> rfl
  · intro as h hg hp
    revert hg hp
    show g_ok (g_M_isNumber (WM ++ e1) ro as h) = true → g_pre (g_M_isNumber (WM ++ e1) ro as h) → _ ∧ am_Ev m_M_isNumber (WM ++ e1) ro (am_eq (g_M_isNumber (WM ++ e1) ro as h)) (0, am_ent as 5, [], h)
    unfold g_M_isNumber
    split
    · rename_i o1 a1 a2 a3
      intro hc hp
      change (Nat.beq o1 0) = true at hc
      obtain rfl := am_beq hc
      exact ⟨Nat.le_of_ble_eq_true rfl, ev_M_isNumber h a1 a2 a3 hp eqRIW⟩
    · exact fun z => nomatch z
def k_M_isPart (pc : Nat) : Ent := bif Nat.ble 72 pc then am_nop else bif Nat.ble 35 pc then (bif Nat.ble 55 pc then (bif Nat.ble 63 pc then (bif Nat.ble 67 pc then (bif Nat.ble 70 pc then (bif Nat.ble 71 pc then (bif Nat.beq pc 71 then (.ireturn, 0, 0, []) else am_nop) else (bif Nat.beq pc 70 then (.iconst 0, 0, 0, []) else am_nop)) else (bif Nat.beq pc 67 then (.goto 4, 0, 71, []) else am_nop)) else (bif Nat.ble 66 pc then (bif Nat.beq pc 66 then (.iconst 1, 1, 0, []) else am_nop) else (bif Nat.beq pc 63 then (.ifCond .eq 7, 0, 70, []) else am_nop))) else (bif Nat.ble 57 pc then (bif Nat.ble 60 pc then (bif Nat.beq pc 60 then (.invokevirtual 181, 0, 0, []) else am_nop) else (bif Nat.beq pc 57 then (.sipush 240, 240, 0, []) else am_nop)) else (bif Nat.ble 56 pc then (bif Nat.beq pc 56 then (.iconst 1, 1, 0, []) else am_nop) else (bif Nat.beq pc 55 then (.iconst 4, 4, 0, []) else am_nop)))) else (bif Nat.ble 45 pc then (bif Nat.ble 48 pc then (bif Nat.ble 51 pc then (bif Nat.ble 54 pc then (bif Nat.beq pc 54 then (.aload_n 0, 0, 0, []) else am_nop) else (bif Nat.beq pc 51 then (.ifCond .eq 19, 0, 70, []) else am_nop)) else (bif Nat.beq pc 48 then (.invokevirtual 178, 0, 0, []) else am_nop)) else (bif Nat.ble 46 pc then (bif Nat.beq pc 46 then (.bipush 43, 43, 0, []) else am_nop) else (bif Nat.beq pc 45 then (.aload_n 0, 0, 0, []) else am_nop))) else (bif Nat.ble 39 pc then (bif Nat.ble 42 pc then (bif Nat.beq pc 42 then (.ifCond .eq 28, 0, 70, []) else am_nop) else (bif Nat.beq pc 39 then (.invokevirtual 181, 0, 0, []) else am_nop)) else (bif Nat.ble 36 pc then (bif Nat.beq pc 36 then (.sipush 1439, 1439, 0, []) else am_nop) else (bif Nat.beq pc 35 then (.iconst 0, 0, 0, []) else am_nop))))) else (bif Nat.ble 17 pc then (bif Nat.ble 25 pc then (bif Nat.ble 30 pc then (bif Nat.ble 33 pc then (bif Nat.ble 34 pc then (bif Nat.beq pc 34 then (.iconst 3, 3, 0, []) else am_nop) else (bif Nat.beq pc 33 then (.aload_n 0, 0, 0, []) else am_nop)) else (bif Nat.beq pc 30 then (.ifCond .eq 40, 0, 70, []) else am_nop)) else (bif Nat.ble 27 pc then (bif Nat.beq pc 27 then (.invokevirtual 178, 0, 0, []) else am_nop) else (bif Nat.beq pc 25 then (.bipush 64, 64, 0, []) else am_nop))) else (bif Nat.ble 21 pc then (bif Nat.ble 24 pc then (bif Nat.beq pc 24 then (.aload_n 0, 0, 0, []) else am_nop) else (bif Nat.beq pc 21 then (.ifCond .eq 49, 0, 70, []) else am_nop)) else (bif Nat.ble 18 pc then (bif Nat.beq pc 18 then (.invokevirtual 175, 0, 0, []) else am_nop) else (bif Nat.beq pc 17 then (.iconst 2, 2, 0, []) else am_nop)))) else (bif Nat.ble 8 pc then (bif Nat.ble 10 pc then (bif Nat.ble 13 pc then (bif Nat.ble 16 pc then (bif Nat.beq pc 16 then (.aload_n 0, 0, 0, []) else am_nop) else (bif Nat.beq pc 13 then (.ifCond .eq 57, 0, 70, []) else am_nop)) else (bif Nat.beq pc 10 then (.invokevirtual 175, 0, 0, []) else am_nop)) else (bif Nat.ble 9 pc then (bif Nat.beq pc 9 then (.iconst 1, 1, 0, []) else am_nop) else (bif Nat.beq pc 8 then (.aload_n 0, 0, 0, []) else am_nop))) else (bif Nat.ble 2 pc then (bif Nat.ble 5 pc then (bif Nat.beq pc 5 then (.ifCond .eq 65, 0, 70, []) else am_nop) else (bif Nat.beq pc 2 then (.invokevirtual 175, 0, 0, []) else am_nop)) else (bif Nat.ble 1 pc then (bif Nat.beq pc 1 then (.iconst 0, 0, 0, []) else am_nop) else (bif Nat.beq pc 0 then (.aload_n 0, 0, 0, []) else am_nop)))))
theorem lk_M_175 : am_lnk RX6 175 (d_M_isDigit 16) := ⟨⟨by decide, by decide⟩, am_tb 8 (by decide +kernel) rfl, Or.inr ⟨by decide, rfl, am_tb 1091 (by decide +kernel) rfl, am_tp 91 (by decide +kernel) rfl, ⟨TX6, 16, rfl⟩, Or.inl (am_tb 1089 (by decide +kernel) rfl)⟩⟩
theorem lk_M_178 : am_lnk RX6 178 (d_M_takes 16) := ⟨⟨by decide, by decide⟩, am_tb 8 (by decide +kernel) rfl, Or.inr ⟨by decide, rfl, am_tb 1099 (by decide +kernel) rfl, am_tp 93 (by decide +kernel) rfl, ⟨TX6, 16, rfl⟩, Or.inl (am_tb 1097 (by decide +kernel) rfl)⟩⟩
theorem lk_M_181 : am_lnk RX6 181 (d_M_isNumber 16) := ⟨⟨by decide, by decide⟩, am_tb 8 (by decide +kernel) rfl, Or.inr ⟨by decide, rfl, am_tb 1103 (by decide +kernel) rfl, am_tp 94 (by decide +kernel) rfl, ⟨TX6, 16, rfl⟩, Or.inl (am_tb 1101 (by decide +kernel) rfl)⟩⟩
def m_M_isPart : MI := (k_M_isPart, [], [(175, d_M_isDigit 16), (178, d_M_takes 16), (181, d_M_isNumber 16)], [], [], [], [], 3, 68, some .boolean, fun _ => 0, 1)
def v_M_isPart (h : HP) : Int32 × HP := (bnd (v_M_isDigit h 0) fun y1 => (if y1.1 = 0 then (0, y1.2) else (bnd (v_M_isDigit y1.2 1) fun y2 => (if y2.1 = 0 then (0, y2.2) else (bnd (v_M_isDigit y2.2 2) fun y3 => (if y3.1 = 0 then (0, y3.2) else (bnd (v_M_takes y3.2 64) fun y4 => (if y4.1 = 0 then (0, y4.2) else (bnd (v_M_isNumber y4.2 3 0 1439) fun y5 => (if y5.1 = 0 then (0, y5.2) else (bnd (v_M_takes y5.2 43) fun y6 => (if y6.1 = 0 then (0, y6.2) else (bnd (v_M_isNumber y6.2 4 1 240) fun y7 => ((if y7.1 = 0 then (0 : Int32) else 1), y7.2))))))))))))))
def p_M_isPart (h : HP) : Prop := ((p_M_isDigit h 0) ∧ (∀ y1, v_M_isDigit h 0 = y1 → ((y1.1 = 0 → True) ∧ (¬ y1.1 = 0 → ((p_M_isDigit y1.2 1) ∧ (∀ y2, v_M_isDigit y1.2 1 = y2 → ((y2.1 = 0 → True) ∧ (¬ y2.1 = 0 → ((p_M_isDigit y2.2 2) ∧ (∀ y3, v_M_isDigit y2.2 2 = y3 → ((y3.1 = 0 → True) ∧ (¬ y3.1 = 0 → ((p_M_takes y3.2 64) ∧ (∀ y4, v_M_takes y3.2 64 = y4 → ((y4.1 = 0 → True) ∧ (¬ y4.1 = 0 → ((p_M_isNumber y4.2 3 0 1439) ∧ (∀ y5, v_M_isNumber y4.2 3 0 1439 = y5 → ((y5.1 = 0 → True) ∧ (¬ y5.1 = 0 → ((p_M_takes y5.2 43) ∧ (∀ y6, v_M_takes y5.2 43 = y6 → ((y6.1 = 0 → True) ∧ (¬ y6.1 = 0 → (p_M_isNumber y6.2 4 1 240)))))))))))))))))))))))))
def g_M_isPart (_ _ : List Sh) (as : List Value) (h : HP) : GR := match as with
  | [.ref o1] => (Nat.beq o1 0, p_M_isPart h, none, some (.int (v_M_isPart h).1), (v_M_isPart h).2)
  | _ => bad h
def d_M_isPart (k : Nat) : CD := (k, yX6_isPart, cX6_isPart, 1, some .boolean, 1, 3, 68, 0, false, true, g_M_isPart)
theorem chk_M_isPart : ∀ pc, am_chk cX6_isPart k_M_isPart pc = true := am_chkall 72 (by decide +kernel) (fun pc h => by unfold k_M_isPart; rw [Nat.ble_eq_true_of_le h]; rfl)
theorem pf_M_isPart : plainFor yX6_isPart = true := by decide +kernel
theorem cu_M_isPart : Cond.code yX6_isPart cX6_isPart 1 (some .boolean) ∈ am_U := am_tb 1088 (by decide +kernel) rfl
set_option maxHeartbeats 20000000 in
set_option maxRecDepth 100000 in
theorem ev_M_isPart {e1 ro : List Sh} {P : AR → HP → Prop} (h : HP) (hp : p_M_isPart h) (hP : ∀ q, v_M_isPart h = q → RIW P h q) : am_Ev m_M_isPart (WM ++ e1) ro P (0, [.ref 0], [], h) := by
  unfold p_M_isPart at hp
  refine am_Ev_G [5] 400 _ ?_
  show ((p_M_isDigit h 0) ∧ am_Ev m_M_isPart (WM ++ e1) ro P (5, [.ref 0], [.int ((v_M_isDigit h 0).1)], ((v_M_isDigit h 0).2)))
  obtain ⟨hob, hp⟩ := hp
  refine ⟨hob, ?_⟩
  obtain ⟨y1, c1⟩ : ∃ y, v_M_isDigit h 0 = y := ⟨_, rfl⟩
  rw [c1]
  have hp := hp _ c1
  show am_Ev m_M_isPart (WM ++ e1) ro P (5, [.ref 0], [.int y1.1], y1.2)
  refine am_Ev_G [13] 400 _ ?_
  show ((y1.1 = 0 → ((((0 : Int32) = 0 ∨ (0 : Int32) = 1)) ∧ P (.inl (some (.int 0))) y1.2)) ∧ (¬ y1.1 = 0 → ((p_M_isDigit y1.2 1) ∧ am_Ev m_M_isPart (WM ++ e1) ro P (13, [.ref 0], [.int ((v_M_isDigit y1.2 1).1)], ((v_M_isDigit y1.2 1).2)))))
  refine ⟨fun c2 => ?_, fun c2 => ?_⟩
  · skip
    refine ⟨(by decide), ?_⟩
    exact hP (0, y1.2) (by unfold v_M_isPart; simp only [bnd, c1, if_pos c2])
  · have hp := hp.2 c2
    obtain ⟨hob, hp⟩ := hp
    refine ⟨hob, ?_⟩
    obtain ⟨y2, c3⟩ : ∃ y, v_M_isDigit y1.2 1 = y := ⟨_, rfl⟩
    rw [c3]
    have hp := hp _ c3
    show am_Ev m_M_isPart (WM ++ e1) ro P (13, [.ref 0], [.int y2.1], y2.2)
    refine am_Ev_G [21] 400 _ ?_
    show ((y2.1 = 0 → ((((0 : Int32) = 0 ∨ (0 : Int32) = 1)) ∧ P (.inl (some (.int 0))) y2.2)) ∧ (¬ y2.1 = 0 → ((p_M_isDigit y2.2 2) ∧ am_Ev m_M_isPart (WM ++ e1) ro P (21, [.ref 0], [.int ((v_M_isDigit y2.2 2).1)], ((v_M_isDigit y2.2 2).2)))))
    refine ⟨fun c4 => ?_, fun c4 => ?_⟩
    · skip
      refine ⟨(by decide), ?_⟩
      exact hP (0, y2.2) (by unfold v_M_isPart; simp only [bnd, c1, if_neg c2, bnd, c3, if_pos c4])
    · have hp := hp.2 c4
      obtain ⟨hob, hp⟩ := hp
      refine ⟨hob, ?_⟩
      obtain ⟨y3, c5⟩ : ∃ y, v_M_isDigit y2.2 2 = y := ⟨_, rfl⟩
      rw [c5]
      have hp := hp _ c5
      show am_Ev m_M_isPart (WM ++ e1) ro P (21, [.ref 0], [.int y3.1], y3.2)
      refine am_Ev_G [30] 400 _ ?_
      show ((y3.1 = 0 → ((((0 : Int32) = 0 ∨ (0 : Int32) = 1)) ∧ P (.inl (some (.int 0))) y3.2)) ∧ (¬ y3.1 = 0 → ((p_M_takes y3.2 64) ∧ am_Ev m_M_isPart (WM ++ e1) ro P (30, [.ref 0], [.int ((v_M_takes y3.2 64).1)], ((v_M_takes y3.2 64).2)))))
      refine ⟨fun c6 => ?_, fun c6 => ?_⟩
      · skip
        refine ⟨(by decide), ?_⟩
        exact hP (0, y3.2) (by unfold v_M_isPart; simp only [bnd, c1, if_neg c2, bnd, c3, if_neg c4, bnd, c5, if_pos c6])
      · have hp := hp.2 c6
        obtain ⟨hob, hp⟩ := hp
        refine ⟨hob, ?_⟩
        obtain ⟨y4, c7⟩ : ∃ y, v_M_takes y3.2 64 = y := ⟨_, rfl⟩
        rw [c7]
        have hp := hp _ c7
        show am_Ev m_M_isPart (WM ++ e1) ro P (30, [.ref 0], [.int y4.1], y4.2)
        refine am_Ev_G [42] 400 _ ?_
        show ((y4.1 = 0 → ((((0 : Int32) = 0 ∨ (0 : Int32) = 1)) ∧ P (.inl (some (.int 0))) y4.2)) ∧ (¬ y4.1 = 0 → ((p_M_isNumber y4.2 3 0 1439) ∧ am_Ev m_M_isPart (WM ++ e1) ro P (42, [.ref 0], [.int ((v_M_isNumber y4.2 3 0 1439).1)], ((v_M_isNumber y4.2 3 0 1439).2)))))
        refine ⟨fun c8 => ?_, fun c8 => ?_⟩
        · skip
          refine ⟨(by decide), ?_⟩
          exact hP (0, y4.2) (by unfold v_M_isPart; simp only [bnd, c1, if_neg c2, bnd, c3, if_neg c4, bnd, c5, if_neg c6, bnd, c7, if_pos c8])
        · have hp := hp.2 c8
          obtain ⟨hob, hp⟩ := hp
          refine ⟨hob, ?_⟩
          obtain ⟨y5, c9⟩ : ∃ y, v_M_isNumber y4.2 3 0 1439 = y := ⟨_, rfl⟩
          rw [c9]
          have hp := hp _ c9
          show am_Ev m_M_isPart (WM ++ e1) ro P (42, [.ref 0], [.int y5.1], y5.2)
          refine am_Ev_G [51] 400 _ ?_
          show ((y5.1 = 0 → ((((0 : Int32) = 0 ∨ (0 : Int32) = 1)) ∧ P (.inl (some (.int 0))) y5.2)) ∧ (¬ y5.1 = 0 → ((p_M_takes y5.2 43) ∧ am_Ev m_M_isPart (WM ++ e1) ro P (51, [.ref 0], [.int ((v_M_takes y5.2 43).1)], ((v_M_takes y5.2 43).2)))))
          refine ⟨fun c10 => ?_, fun c10 => ?_⟩
          · skip
            refine ⟨(by decide), ?_⟩
            exact hP (0, y5.2) (by unfold v_M_isPart; simp only [bnd, c1, if_neg c2, bnd, c3, if_neg c4, bnd, c5, if_neg c6, bnd, c7, if_neg c8, bnd, c9, if_pos c10])
          · have hp := hp.2 c10
            obtain ⟨hob, hp⟩ := hp
            refine ⟨hob, ?_⟩
            obtain ⟨y6, c11⟩ : ∃ y, v_M_takes y5.2 43 = y := ⟨_, rfl⟩
            rw [c11]
            have hp := hp _ c11
            show am_Ev m_M_isPart (WM ++ e1) ro P (51, [.ref 0], [.int y6.1], y6.2)
            refine am_Ev_G [63] 400 _ ?_
            show ((y6.1 = 0 → ((((0 : Int32) = 0 ∨ (0 : Int32) = 1)) ∧ P (.inl (some (.int 0))) y6.2)) ∧ (¬ y6.1 = 0 → ((p_M_isNumber y6.2 4 1 240) ∧ am_Ev m_M_isPart (WM ++ e1) ro P (63, [.ref 0], [.int ((v_M_isNumber y6.2 4 1 240).1)], ((v_M_isNumber y6.2 4 1 240).2)))))
            refine ⟨fun c12 => ?_, fun c12 => ?_⟩
            · skip
              refine ⟨(by decide), ?_⟩
              exact hP (0, y6.2) (by unfold v_M_isPart; simp only [bnd, c1, if_neg c2, bnd, c3, if_neg c4, bnd, c5, if_neg c6, bnd, c7, if_neg c8, bnd, c9, if_neg c10, bnd, c11, if_pos c12])
            · have hp := hp.2 c12
              refine ⟨hp, ?_⟩
              obtain ⟨y7, c13⟩ : ∃ y, v_M_isNumber y6.2 4 1 240 = y := ⟨_, rfl⟩
              rw [c13]
              show am_Ev m_M_isPart (WM ++ e1) ro P (63, [.ref 0], [.int y7.1], y7.2)
              have key14 : am_Ev m_M_isPart (WM ++ e1) ro P (71, [.ref 0], [.int (if y7.1 = 0 then (0 : Int32) else 1)], y7.2) := by
                refine am_Ev_G [] 400 _ ?_
                show (((((if y7.1 = 0 then (0 : Int32) else 1) : Int32) = 0 ∨ ((if y7.1 = 0 then (0 : Int32) else 1) : Int32) = 1)) ∧ P (.inl (some (.int (if y7.1 = 0 then (0 : Int32) else 1)))) y7.2)
                refine ⟨(by (repeat' split) <;> decide), ?_⟩
                exact hP ((if y7.1 = 0 then (0 : Int32) else 1), y7.2) (by unfold v_M_isPart; simp only [bnd, c1, if_neg c2, bnd, c3, if_neg c4, bnd, c5, if_neg c6, bnd, c7, if_neg c8, bnd, c9, if_neg c10, bnd, c11, if_neg c12, bnd, c13])
              refine am_Ev_G [71] 400 _ ?_
              show ((y7.1 = 0 → am_Ev m_M_isPart (WM ++ e1) ro P (71, [.ref 0], [.int 0], y7.2)) ∧ (¬ y7.1 = 0 → am_Ev m_M_isPart (WM ++ e1) ro P (71, [.ref 0], [.int 1], y7.2)))
              refine ⟨fun c15 => ?_, fun c15 => ?_⟩
              · skip
                simpa only [if_pos c15] using key14
              · skip
                simpa only [if_neg c15] using key14
theorem ok_M_isPart {l : Launch} (hl : l.stackTraces = false) (e1 ro : List Sh) (k : Nat) : am_Ok l (WM ++ e1) ro (d_M_isPart k) := by
  refine am_met hl (own := RX6) (M := m_M_isPart) rfl pf_M_isPart cu_M_isPart rfl rfl rfl rfl (fun _ => rfl) rfl ⟨chk_M_isPart, (am_n), (am_c (lk_M_175) (am_c (lk_M_178) (am_c (lk_M_181) am_n))), (am_n), (am_n)⟩ (am_n) (am_c (ok_M_isDigit hl e1 _ 16) (am_c (ok_M_takes hl e1 _ 16) (am_c (ok_M_isNumber hl e1 _ 16) am_n))) (fun z => nomatch z) ?_ ?_
  · intro _ as h hg
    show g_thr (g_M_isPart (WM ++ e1) ro as h) = none
    unfold g_M_isPart
    split <;> rfl
  · intro as h hg hp
    revert hg hp
    show g_ok (g_M_isPart (WM ++ e1) ro as h) = true → g_pre (g_M_isPart (WM ++ e1) ro as h) → _ ∧ am_Ev m_M_isPart (WM ++ e1) ro (am_eq (g_M_isPart (WM ++ e1) ro as h)) (0, am_ent as 1, [], h)
    unfold g_M_isPart
    split
    · rename_i o1
      intro hc hp
      change (Nat.beq o1 0) = true at hc
      obtain rfl := am_beq hc
      exact ⟨Nat.le_of_ble_eq_true rfl, ev_M_isPart h hp eqRIW⟩
    · exact fun z => nomatch z
end
