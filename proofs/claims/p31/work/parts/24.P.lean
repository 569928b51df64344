/-! COPIES of timetables, and the trial timetable: contracts in other places. -/
noncomputable section
def k_T_copyFrom (pc : Nat) : Ent := bif Nat.ble 154 pc then am_nop else bif Nat.ble 78 pc then (bif Nat.ble 118 pc then (bif Nat.ble 137 pc then (bif Nat.ble 145 pc then (bif Nat.ble 147 pc then (bif Nat.ble 150 pc then (bif Nat.ble 153 pc then (bif Nat.beq pc 153 then (.return_, 0, 0, []) else am_nop) else (bif Nat.beq pc 150 then (.putfield 69, 0, 0, []) else am_nop)) else (bif Nat.beq pc 147 then (.getfield 69, 0, 0, []) else am_nop)) else (bif Nat.ble 146 pc then (bif Nat.beq pc 146 then (.aload_n 1, 0, 1, []) else am_nop) else (bif Nat.beq pc 145 then (.aload_n 0, 0, 0, []) else am_nop))) else (bif Nat.ble 139 pc then (bif Nat.ble 142 pc then (bif Nat.beq pc 142 then (.putfield 66, 0, 0, []) else am_nop) else (bif Nat.beq pc 139 then (.getfield 66, 0, 0, []) else am_nop)) else (bif Nat.ble 138 pc then (bif Nat.beq pc 138 then (.aload_n 1, 0, 1, []) else am_nop) else (bif Nat.beq pc 137 then (.aload_n 0, 0, 0, []) else am_nop)))) else (bif Nat.ble 126 pc then (bif Nat.ble 130 pc then (bif Nat.ble 131 pc then (bif Nat.ble 134 pc then (bif Nat.beq pc 134 then (.putfield 63, 0, 0, []) else am_nop) else (bif Nat.beq pc 131 then (.getfield 63, 0, 0, []) else am_nop)) else (bif Nat.beq pc 130 then (.aload_n 1, 0, 1, []) else am_nop)) else (bif Nat.ble 129 pc then (bif Nat.beq pc 129 then (.aload_n 0, 0, 0, []) else am_nop) else (bif Nat.beq pc 126 then (.putfield 59, 0, 0, []) else am_nop))) else (bif Nat.ble 122 pc then (bif Nat.ble 123 pc then (bif Nat.beq pc 123 then (.getfield 59, 0, 0, []) else am_nop) else (bif Nat.beq pc 122 then (.aload_n 1, 0, 1, []) else am_nop)) else (bif Nat.ble 121 pc then (bif Nat.beq pc 121 then (.aload_n 0, 0, 0, []) else am_nop) else (bif Nat.beq pc 118 then (.invokestatic 72, 0, 0, []) else am_nop))))) else (bif Nat.ble 99 pc then (bif Nat.ble 107 pc then (bif Nat.ble 111 pc then (bif Nat.ble 114 pc then (bif Nat.ble 115 pc then (bif Nat.beq pc 115 then (.getfield 56, 0, 0, []) else am_nop) else (bif Nat.beq pc 114 then (.aload_n 0, 0, 0, []) else am_nop)) else (bif Nat.beq pc 111 then (.getfield 56, 0, 0, []) else am_nop)) else (bif Nat.ble 110 pc then (bif Nat.beq pc 110 then (.aload_n 1, 0, 1, []) else am_nop) else (bif Nat.beq pc 107 then (.invokestatic 72, 0, 0, []) else am_nop))) else (bif Nat.ble 103 pc then (bif Nat.ble 104 pc then (bif Nat.beq pc 104 then (.getfield 50, 0, 0, []) else am_nop) else (bif Nat.beq pc 103 then (.aload_n 0, 0, 0, []) else am_nop)) else (bif Nat.ble 100 pc then (bif Nat.beq pc 100 then (.getfield 50, 0, 0, []) else am_nop) else (bif Nat.beq pc 99 then (.aload_n 1, 0, 1, []) else am_nop)))) else (bif Nat.ble 88 pc then (bif Nat.ble 92 pc then (bif Nat.ble 93 pc then (bif Nat.ble 96 pc then (bif Nat.beq pc 96 then (.invokestatic 72, 0, 0, []) else am_nop) else (bif Nat.beq pc 93 then (.getfield 44, 0, 0, []) else am_nop)) else (bif Nat.beq pc 92 then (.aload_n 0, 0, 0, []) else am_nop)) else (bif Nat.ble 89 pc then (bif Nat.beq pc 89 then (.getfield 44, 0, 0, []) else am_nop) else (bif Nat.beq pc 88 then (.aload_n 1, 0, 1, []) else am_nop))) else (bif Nat.ble 82 pc then (bif Nat.ble 85 pc then (bif Nat.beq pc 85 then (.invokestatic 72, 0, 0, []) else am_nop) else (bif Nat.beq pc 82 then (.getfield 33, 0, 0, []) else am_nop)) else (bif Nat.ble 81 pc then (bif Nat.beq pc 81 then (.aload_n 0, 0, 0, []) else am_nop) else (bif Nat.beq pc 78 then (.getfield 33, 0, 0, []) else am_nop)))))) else (bif Nat.ble 38 pc then (bif Nat.ble 59 pc then (bif Nat.ble 67 pc then (bif Nat.ble 71 pc then (bif Nat.ble 74 pc then (bif Nat.ble 77 pc then (bif Nat.beq pc 77 then (.aload_n 1, 0, 1, []) else am_nop) else (bif Nat.beq pc 74 then (.invokestatic 72, 0, 0, []) else am_nop)) else (bif Nat.beq pc 71 then (.getfield 30, 0, 0, []) else am_nop)) else (bif Nat.ble 70 pc then (bif Nat.beq pc 70 then (.aload_n 0, 0, 0, []) else am_nop) else (bif Nat.beq pc 67 then (.getfield 30, 0, 0, []) else am_nop))) else (bif Nat.ble 63 pc then (bif Nat.ble 66 pc then (bif Nat.beq pc 66 then (.aload_n 1, 0, 1, []) else am_nop) else (bif Nat.beq pc 63 then (.invokestatic 72, 0, 0, []) else am_nop)) else (bif Nat.ble 60 pc then (bif Nat.beq pc 60 then (.getfield 27, 0, 0, []) else am_nop) else (bif Nat.beq pc 59 then (.aload_n 0, 0, 0, []) else am_nop)))) else (bif Nat.ble 48 pc then (bif Nat.ble 52 pc then (bif Nat.ble 55 pc then (bif Nat.ble 56 pc then (bif Nat.beq pc 56 then (.getfield 27, 0, 0, []) else am_nop) else (bif Nat.beq pc 55 then (.aload_n 1, 0, 1, []) else am_nop)) else (bif Nat.beq pc 52 then (.invokestatic 72, 0, 0, []) else am_nop)) else (bif Nat.ble 49 pc then (bif Nat.beq pc 49 then (.getfield 24, 0, 0, []) else am_nop) else (bif Nat.beq pc 48 then (.aload_n 0, 0, 0, []) else am_nop))) else (bif Nat.ble 44 pc then (bif Nat.ble 45 pc then (bif Nat.beq pc 45 then (.getfield 24, 0, 0, []) else am_nop) else (bif Nat.beq pc 44 then (.aload_n 1, 0, 1, []) else am_nop)) else (bif Nat.ble 41 pc then (bif Nat.beq pc 41 then (.invokestatic 72, 0, 0, []) else am_nop) else (bif Nat.beq pc 38 then (.getfield 21, 0, 0, []) else am_nop))))) else (bif Nat.ble 19 pc then (bif Nat.ble 27 pc then (bif Nat.ble 33 pc then (bif Nat.ble 34 pc then (bif Nat.ble 37 pc then (bif Nat.beq pc 37 then (.aload_n 0, 0, 0, []) else am_nop) else (bif Nat.beq pc 34 then (.getfield 21, 0, 0, []) else am_nop)) else (bif Nat.beq pc 33 then (.aload_n 1, 0, 1, []) else am_nop)) else (bif Nat.ble 30 pc then (bif Nat.beq pc 30 then (.invokestatic 72, 0, 0, []) else am_nop) else (bif Nat.beq pc 27 then (.getfield 18, 0, 0, []) else am_nop))) else (bif Nat.ble 23 pc then (bif Nat.ble 26 pc then (bif Nat.beq pc 26 then (.aload_n 0, 0, 0, []) else am_nop) else (bif Nat.beq pc 23 then (.getfield 18, 0, 0, []) else am_nop)) else (bif Nat.ble 22 pc then (bif Nat.beq pc 22 then (.aload_n 1, 0, 1, []) else am_nop) else (bif Nat.beq pc 19 then (.invokestatic 72, 0, 0, []) else am_nop)))) else (bif Nat.ble 8 pc then (bif Nat.ble 12 pc then (bif Nat.ble 15 pc then (bif Nat.ble 16 pc then (bif Nat.beq pc 16 then (.getfield 15, 0, 0, []) else am_nop) else (bif Nat.beq pc 15 then (.aload_n 0, 0, 0, []) else am_nop)) else (bif Nat.beq pc 12 then (.getfield 15, 0, 0, []) else am_nop)) else (bif Nat.ble 11 pc then (bif Nat.beq pc 11 then (.aload_n 1, 0, 1, []) else am_nop) else (bif Nat.beq pc 8 then (.invokestatic 72, 0, 0, []) else am_nop))) else (bif Nat.ble 4 pc then (bif Nat.ble 5 pc then (bif Nat.beq pc 5 then (.getfield 9, 0, 0, []) else am_nop) else (bif Nat.beq pc 4 then (.aload_n 0, 0, 0, []) else am_nop)) else (bif Nat.ble 1 pc then (bif Nat.beq pc 1 then (.getfield 9, 0, 0, []) else am_nop) else (bif Nat.beq pc 0 then (.aload_n 1, 0, 1, []) else am_nop))))))
theorem fl_T_50 : am_fok RX4 50 (4, 9) := ⟨RX4, TX4, 15, rfl, by decide, rfl, Or.inl (am_tb 69 (by decide +kernel) rfl)⟩
theorem fl_T_69 : am_fok RX4 69 (4, 14) := ⟨RX4, TX4, 15, rfl, by decide, rfl, Or.inl (am_tb 83 (by decide +kernel) rfl)⟩
theorem lk_T_72 : am_lnk RX4 72 (d_B_copy 1) := ⟨⟨by decide, by decide⟩, am_tb 1 (by decide +kernel) rfl, Or.inl ⟨by decide, rfl, am_tb 329 (by decide +kernel) rfl, Or.inr ⟨rfl, "BusBlocks", am_tb 328 (by decide +kernel) rfl⟩⟩⟩
def m_T_copyFrom : MI := (k_T_copyFrom, [(9, 4, 0), (15, 4, 1), (18, 4, 2), (21, 4, 3), (24, 4, 4), (27, 4, 5), (30, 4, 6), (33, 4, 7), (44, 4, 8), (50, 4, 9), (56, 4, 10), (59, 4, 11), (63, 4, 12), (66, 4, 13), (69, 4, 14)], [(72, d_B_copy 1)], [], [], [], [], 2, 63, none, fun _ => 0, 1)
def v_T_copyFrom_12 (h : HP) : HP := (am_si (am_si (am_si (am_si (v_copy 4 (v_copy 4 (v_copy 4 (v_copy 20 (v_copy 20 (v_copy 20 (v_copy 20 (v_copy 20 (v_copy 20 (v_copy 20 (v_copy 20 h 13 1) 14 2) 15 3) 16 4) 17 5) 18 6) 19 7) 20 8) 21 9) 22 10) 23 11) 0 11 ((v_copy 4 (v_copy 4 (v_copy 4 (v_copy 20 (v_copy 20 (v_copy 20 (v_copy 20 (v_copy 20 (v_copy 20 (v_copy 20 (v_copy 20 h 13 1) 14 2) 15 3) 16 4) 17 5) 18 6) 19 7) 20 8) 21 9) 22 10) 23 11).1 12 11)) 0 12 ((v_copy 4 (v_copy 4 (v_copy 4 (v_copy 20 (v_copy 20 (v_copy 20 (v_copy 20 (v_copy 20 (v_copy 20 (v_copy 20 (v_copy 20 h 13 1) 14 2) 15 3) 16 4) 17 5) 18 6) 19 7) 20 8) 21 9) 22 10) 23 11).1 12 12)) 0 13 ((v_copy 4 (v_copy 4 (v_copy 4 (v_copy 20 (v_copy 20 (v_copy 20 (v_copy 20 (v_copy 20 (v_copy 20 (v_copy 20 (v_copy 20 h 13 1) 14 2) 15 3) 16 4) 17 5) 18 6) 19 7) 20 8) 21 9) 22 10) 23 11).1 12 13)) 0 14 ((v_copy 4 (v_copy 4 (v_copy 4 (v_copy 20 (v_copy 20 (v_copy 20 (v_copy 20 (v_copy 20 (v_copy 20 (v_copy 20 (v_copy 20 h 13 1) 14 2) 15 3) 16 4) 17 5) 18 6) 19 7) 20 8) 21 9) 22 10) 23 11).1 12 14))
def g_T_copyFrom (_ _ : List Sh) (as : List Value) (h : HP) : GR := match as with
  | [.ref o1, .ref o2] => (Nat.beq o1 0 && Nat.beq o2 12, True, none, none, v_T_copyFrom_12 h)
  | _ => bad h
def d_T_copyFrom (k : Nat) : CD := (k, yX4_copyFrom, cX4_copyFrom, 2, none, 2, 2, 63, 0, false, false, g_T_copyFrom)
theorem chk_T_copyFrom : ∀ pc, am_chk cX4_copyFrom k_T_copyFrom pc = true := am_chkall 154 (by decide +kernel) (fun pc h => by unfold k_T_copyFrom; rw [Nat.ble_eq_true_of_le h]; rfl)
theorem pf_T_copyFrom : plainFor yX4_copyFrom = true := by decide +kernel
theorem cu_T_copyFrom : Cond.code yX4_copyFrom cX4_copyFrom 2 (none) ∈ am_U := am_tb 327 (by decide +kernel) rfl
set_option maxRecDepth 100000 in
theorem ev_T_copyFrom_12 {e1 ro : List Sh} {P : AR → HP → Prop} (h : HP) (hP : ∀ q, v_T_copyFrom_12 h = q → RVW P h q) : am_Ev m_T_copyFrom (W24 ++ e1) ro P (0, [.ref 0, .ref 12], [], h) := by
  refine am_Ev_G [22] 400 _ ?_
  show am_Ev m_T_copyFrom (W24 ++ e1) ro P (22, [.ref 0, .ref 12], [], (v_copy 20 (v_copy 20 h 13 1) 14 2))
  refine am_Ev_G [44] 400 _ ?_
  show am_Ev m_T_copyFrom (W24 ++ e1) ro P (44, [.ref 0, .ref 12], [], (v_copy 20 (v_copy 20 (v_copy 20 (v_copy 20 h 13 1) 14 2) 15 3) 16 4))
  refine am_Ev_G [66] 400 _ ?_
  show am_Ev m_T_copyFrom (W24 ++ e1) ro P (66, [.ref 0, .ref 12], [], (v_copy 20 (v_copy 20 (v_copy 20 (v_copy 20 (v_copy 20 (v_copy 20 h 13 1) 14 2) 15 3) 16 4) 17 5) 18 6))
  refine am_Ev_G [88] 400 _ ?_
  show am_Ev m_T_copyFrom (W24 ++ e1) ro P (88, [.ref 0, .ref 12], [], (v_copy 20 (v_copy 20 (v_copy 20 (v_copy 20 (v_copy 20 (v_copy 20 (v_copy 20 (v_copy 20 h 13 1) 14 2) 15 3) 16 4) 17 5) 18 6) 19 7) 20 8))
  refine am_Ev_G [110] 400 _ ?_
  show am_Ev m_T_copyFrom (W24 ++ e1) ro P (110, [.ref 0, .ref 12], [], (v_copy 4 (v_copy 4 (v_copy 20 (v_copy 20 (v_copy 20 (v_copy 20 (v_copy 20 (v_copy 20 (v_copy 20 (v_copy 20 h 13 1) 14 2) 15 3) 16 4) 17 5) 18 6) 19 7) 20 8) 21 9) 22 10))
  refine am_Ev_G [142] 400 _ ?_
  show am_Ev m_T_copyFrom (W24 ++ e1) ro P (142, [.ref 0, .ref 12], [.int ((v_copy 4 (v_copy 4 (v_copy 4 (v_copy 20 (v_copy 20 (v_copy 20 (v_copy 20 (v_copy 20 (v_copy 20 (v_copy 20 (v_copy 20 h 13 1) 14 2) 15 3) 16 4) 17 5) 18 6) 19 7) 20 8) 21 9) 22 10) 23 11).1 12 13), .ref 0], (am_si (am_si (v_copy 4 (v_copy 4 (v_copy 4 (v_copy 20 (v_copy 20 (v_copy 20 (v_copy 20 (v_copy 20 (v_copy 20 (v_copy 20 (v_copy 20 h 13 1) 14 2) 15 3) 16 4) 17 5) 18 6) 19 7) 20 8) 21 9) 22 10) 23 11) 0 11 ((v_copy 4 (v_copy 4 (v_copy 4 (v_copy 20 (v_copy 20 (v_copy 20 (v_copy 20 (v_copy 20 (v_copy 20 (v_copy 20 (v_copy 20 h 13 1) 14 2) 15 3) 16 4) 17 5) 18 6) 19 7) 20 8) 21 9) 22 10) 23 11).1 12 11)) 0 12 ((v_copy 4 (v_copy 4 (v_copy 4 (v_copy 20 (v_copy 20 (v_copy 20 (v_copy 20 (v_copy 20 (v_copy 20 (v_copy 20 (v_copy 20 h 13 1) 14 2) 15 3) 16 4) 17 5) 18 6) 19 7) 20 8) 21 9) 22 10) 23 11).1 12 12)))
  refine am_Ev_G [] 400 _ ?_
  show P (.inl none) (am_si (am_si (am_si (am_si (v_copy 4 (v_copy 4 (v_copy 4 (v_copy 20 (v_copy 20 (v_copy 20 (v_copy 20 (v_copy 20 (v_copy 20 (v_copy 20 (v_copy 20 h 13 1) 14 2) 15 3) 16 4) 17 5) 18 6) 19 7) 20 8) 21 9) 22 10) 23 11) 0 11 ((v_copy 4 (v_copy 4 (v_copy 4 (v_copy 20 (v_copy 20 (v_copy 20 (v_copy 20 (v_copy 20 (v_copy 20 (v_copy 20 (v_copy 20 h 13 1) 14 2) 15 3) 16 4) 17 5) 18 6) 19 7) 20 8) 21 9) 22 10) 23 11).1 12 11)) 0 12 ((v_copy 4 (v_copy 4 (v_copy 4 (v_copy 20 (v_copy 20 (v_copy 20 (v_copy 20 (v_copy 20 (v_copy 20 (v_copy 20 (v_copy 20 h 13 1) 14 2) 15 3) 16 4) 17 5) 18 6) 19 7) 20 8) 21 9) 22 10) 23 11).1 12 12)) 0 13 ((v_copy 4 (v_copy 4 (v_copy 4 (v_copy 20 (v_copy 20 (v_copy 20 (v_copy 20 (v_copy 20 (v_copy 20 (v_copy 20 (v_copy 20 h 13 1) 14 2) 15 3) 16 4) 17 5) 18 6) 19 7) 20 8) 21 9) 22 10) 23 11).1 12 13)) 0 14 ((v_copy 4 (v_copy 4 (v_copy 4 (v_copy 20 (v_copy 20 (v_copy 20 (v_copy 20 (v_copy 20 (v_copy 20 (v_copy 20 (v_copy 20 h 13 1) 14 2) 15 3) 16 4) 17 5) 18 6) 19 7) 20 8) 21 9) 22 10) 23 11).1 12 14))
  exact hP (am_si (am_si (am_si (am_si (v_copy 4 (v_copy 4 (v_copy 4 (v_copy 20 (v_copy 20 (v_copy 20 (v_copy 20 (v_copy 20 (v_copy 20 (v_copy 20 (v_copy 20 h 13 1) 14 2) 15 3) 16 4) 17 5) 18 6) 19 7) 20 8) 21 9) 22 10) 23 11) 0 11 ((v_copy 4 (v_copy 4 (v_copy 4 (v_copy 20 (v_copy 20 (v_copy 20 (v_copy 20 (v_copy 20 (v_copy 20 (v_copy 20 (v_copy 20 h 13 1) 14 2) 15 3) 16 4) 17 5) 18 6) 19 7) 20 8) 21 9) 22 10) 23 11).1 12 11)) 0 12 ((v_copy 4 (v_copy 4 (v_copy 4 (v_copy 20 (v_copy 20 (v_copy 20 (v_copy 20 (v_copy 20 (v_copy 20 (v_copy 20 (v_copy 20 h 13 1) 14 2) 15 3) 16 4) 17 5) 18 6) 19 7) 20 8) 21 9) 22 10) 23 11).1 12 12)) 0 13 ((v_copy 4 (v_copy 4 (v_copy 4 (v_copy 20 (v_copy 20 (v_copy 20 (v_copy 20 (v_copy 20 (v_copy 20 (v_copy 20 (v_copy 20 h 13 1) 14 2) 15 3) 16 4) 17 5) 18 6) 19 7) 20 8) 21 9) 22 10) 23 11).1 12 13)) 0 14 ((v_copy 4 (v_copy 4 (v_copy 4 (v_copy 20 (v_copy 20 (v_copy 20 (v_copy 20 (v_copy 20 (v_copy 20 (v_copy 20 (v_copy 20 h 13 1) 14 2) 15 3) 16 4) 17 5) 18 6) 19 7) 20 8) 21 9) 22 10) 23 11).1 12 14)) rfl
theorem ok_T_copyFrom {l : Launch} (hl : l.stackTraces = false) (e1 ro : List Sh) (k : Nat) : am_Ok l (W24 ++ e1) ro (d_T_copyFrom k) := by
  refine am_met hl (own := RX4) (M := m_T_copyFrom) rfl pf_T_copyFrom cu_T_copyFrom rfl rfl rfl rfl (fun _ => rfl) rfl ⟨chk_T_copyFrom, (am_c (fl_T_9) (am_c (fl_T_15) (am_c (fl_T_18) (am_c (fl_T_21) (am_c (fl_T_24) (am_c (fl_T_27) (am_c (fl_T_30) (am_c (fl_T_33) (am_c (fl_T_44) (am_c (fl_T_50) (am_c (fl_T_56) (am_c (fl_T_59) (am_c (fl_T_63) (am_c (fl_T_66) (am_c (fl_T_69) am_n))))))))))))))), (am_c (lk_T_72) am_n), (am_n), (am_n)⟩ (am_n) (am_c (ok_B_copy hl _ _ 1) am_n) ?_ ?_ ?_
  · intro _ as h hg
    show g_pre (g_T_copyFrom (W24 ++ e1) ro as h)
    unfold g_T_copyFrom
    split <;> exact trivial
  · intro _ as h hg
    show g_thr (g_T_copyFrom (W24 ++ e1) ro as h) = none
    unfold g_T_copyFrom
    split <;> rfl
  · intro as h hg hp
    revert hg hp
    show g_ok (g_T_copyFrom (W24 ++ e1) ro as h) = true → g_pre (g_T_copyFrom (W24 ++ e1) ro as h) → _ ∧ am_Ev m_T_copyFrom (W24 ++ e1) ro (am_eq (g_T_copyFrom (W24 ++ e1) ro as h)) (0, am_ent as 2, [], h)
    unfold g_T_copyFrom
    split
    · rename_i o1 o2
      intro hc hp
      change (Nat.beq o1 0 && Nat.beq o2 12) = true at hc
      rw [Bool.and_eq_true] at hc
      obtain rfl := am_beq hc.1
      obtain rfl := am_beq hc.2
      exact ⟨Nat.le_of_ble_eq_true rfl, ev_T_copyFrom_12 h eqRVW⟩
    · exact fun z => nomatch z
def okb (s : Sh) : Bool := !(Nat.beq s.1 4) || (match vwCl[s.2.1]? with
  | some (_, T, N) => (List.range s.2.2.length).all (fun j => (!(Nat.beq (s.2.2.getD j 2) 0) || (Nat.blt j N && !(T j).2.2.2 && decide (parseFieldDescriptor (T j).2.2.1 = some .int))) && (!(Nat.beq (s.2.2.getD j 2) 1) || (Nat.blt j N && !(T j).2.2.2 && decide (parseFieldDescriptor (T j).2.2.1 = some .long))))
  | none => false)
theorem okb_at {s : Sh} (h : okb s = true) : am_oks s := by
  intro h4 j f hf
  unfold okb at h
  rw [h4] at h
  simp only [show Nat.beq 4 4 = true from rfl, Bool.not_true, Bool.false_or] at h
  cases hc : vwCl[s.2.1]? with
  | none => rw [hc] at h; cases h
  | some q =>
    obtain ⟨C, T, N⟩ := q
    rw [hc] at h
    have hj := (List.getElem?_eq_some_iff.mp hf).1
    have h1 := List.all_eq_true.mp h j (List.mem_range.mpr hj)
    have e : s.2.2.getD j 2 = f := by rw [List.getD_eq_getElem?_getD, hf]; rfl
    rw [e] at h1
    simp only [Bool.and_eq_true, Bool.or_eq_true, Bool.not_eq_true', decide_eq_true_eq] at h1
    refine ⟨fun e0 => ?_, fun e0 => ?_⟩
    · subst e0
      rcases h1.1 with h2 | h2
      · cases h2
      · exact ⟨C, T, N, hc, am_blt h2.1.1, h2.1.2, h2.2⟩
    · subst e0
      rcases h1.2 with h2 | h2
      · cases h2
      · exact ⟨C, T, N, hc, am_blt h2.1.1, h2.1.2, h2.2⟩
theorem oks_of {l : List Sh} (h : l.all okb = true) : ∀ s ∈ l, am_oks s := fun s hs => okb_at (List.all_eq_true.mp h s hs)
theorem oks_WT : ∀ s ∈ WT, am_oks s := oks_of (by decide +kernel)
theorem oks_W24 : ∀ s ∈ W24, am_oks s := oks_of (by decide +kernel)
theorem plok_more {pl : List Nat} {shc sh : List Sh} (e : List Sh) (h : am_plok pl shc sh = true) : am_plok pl shc (sh ++ e) = true := by
  simp only [am_plok, Bool.and_eq_true] at h ⊢
  refine ⟨h.1, List.all_eq_true.mpr fun k hk => ?_⟩
  have h1 := List.all_eq_true.mp h.2 k hk
  simp only [Bool.and_eq_true] at h1 ⊢
  refine ⟨h1.1, ?_⟩
  have h2 := h1.2
  cases hs : sh[pl.getD k 0]? with
  | none => rw [hs] at h2; revert h2; cases shc[k]? <;> exact fun z => nomatch z
  | some s' =>
    rw [List.getElem?_append_left (List.getElem?_eq_some_iff.mp hs).1, hs]
    rw [hs] at h2
    exact h2
def plc (a b : Nat) : List Nat := [a, a + 1, a + 2, a + 3, a + 4, a + 5, a + 6, a + 7, a + 8, a + 9, a + 10, a + 11, b, b + 1, b + 2, b + 3, b + 4, b + 5, b + 6, b + 7, b + 8, b + 9, b + 10, b + 11]
def v_copyFrom (h : HP) (a b : Nat) : HP := am_push (plc a b) h (v_T_copyFrom_12 (am_pull (plc a b) h))
def cql : List (Nat × Nat) := [(21, 0), (39, 0), (51, 0), (63, 0), (75, 0), (87, 0), (99, 0), (111, 0), (123, 0), (0, 39), (0, 51), (0, 63), (0, 75), (0, 87), (0, 99), (0, 111), (0, 123)]
def cqb (a b : Nat) : Bool := cql.any (fun q => Nat.beq a q.1 && Nat.beq b q.2)
theorem cql_ok : ∀ q ∈ cql, am_plok (plc q.1 q.2) W24 WB = true := by decide +kernel
theorem cqb_ok {a b : Nat} (h : cqb a b = true) (e1 : List Sh) : am_plok (plc a b) W24 (WB ++ e1) = true := by
  obtain ⟨q, hq, h1⟩ := List.any_eq_true.mp h
  simp only [Bool.and_eq_true] at h1
  rw [am_beq h1.1, am_beq h1.2]
  exact plok_more e1 (cql_ok q hq)
def g_TC_copyFrom (_ _ : List Sh) (as : List Value) (h : HP) : GR := match as with
  | [.ref a, .ref b] => (cqb a b, True, none, none, v_copyFrom h a b)
  | _ => bad h
def d_TC_copyFrom (k : Nat) : CD := (k, yX4_copyFrom, cX4_copyFrom, 2, none, 2, 2, 63, 0, false, false, g_TC_copyFrom)
theorem W24_nil : W24 ++ [] = W24 := rfl
theorem WT_nil : WT ++ [] = WT := rfl
theorem ok_TC_copyFrom {l : Launch} (hl : l.stackTraces = false) (e1 ro : List Sh) (k : Nat) : am_Ok l (WB ++ e1) ro (d_TC_copyFrom k) := by
  obtain ⟨w, hw1, hw2, H⟩ := ok_T_copyFrom hl [] ro k
  refine ⟨w, hw1, hw2, fun D G ad xq as h hg => ?_⟩
  revert hg
  show g_ok (g_TC_copyFrom (WB ++ e1) ro as h) = true → (_ → g_pre (g_TC_copyFrom (WB ++ e1) ro as h)) ∧ (g_pre (g_TC_copyFrom (WB ++ e1) ro as h) → (_ → g_thr (g_TC_copyFrom (WB ++ e1) ro as h) = none) ∧ am_Met l yX4_copyFrom (w :: am_U) _ _ (am_Qc D G ad (WB ++ e1) ro (g_TC_copyFrom (WB ++ e1) ro as h)) (am_XC D G ad (WB ++ e1) ro (g_TC_copyFrom (WB ++ e1) ro as h)) 0 0 (am_A G))
  unfold g_TC_copyFrom
  split
  · rename_i a b
    intro hg
    refine ⟨fun _ => trivial, fun _ => ⟨fun _ => rfl, ?_⟩⟩
    have h2 := ((H D (am_Gc G ad (plc a b)) (fun k => ad (am_pi (plc a b) k)) xq [.ref 0, .ref 12] (am_pull (plc a b) h) rfl).2 trivial).2
    exact am_place (pl := plc a b) (shc := W24) (cqb_ok hg e1) oks_W24 (as := [.ref a, .ref b]) (as0 := [.ref 0, .ref 12]) (g0 := g_T_copyFrom (W24 ++ []) ro [.ref 0, .ref 12] (am_pull (plc a b) h)) rfl rfl rfl (fun v hv => nomatch hv) rfl h2
  · exact fun z => nomatch z
theorem pl21_ok (e1 : List Sh) : am_plok pl21 WT (WB ++ e1) = true := plok_more e1 (by decide +kernel)
def g_TB_blocks (_ _ : List Sh) (as : List Value) (h : HP) : GR := match as with
  | [.ref o] => bif Nat.beq o 0 then (true, p_T_blocks h, none, some (.int (v_T_blocks h)), h) else bif Nat.beq o 21 then (true, p_T_blocks (am_pull pl21 h), none, some (.int (v_T_blocks (am_pull pl21 h))), h) else bad h
  | _ => bad h
def d_TB_blocks (k : Nat) : CD := (k, yX4_blocks, cX4_blocks, 1, some .int, 1, c_fr (d_T_blocks 0), c_lo (d_T_blocks 0), 0, false, true, g_TB_blocks)
def g_TB_blockEverything (_ _ : List Sh) (as : List Value) (h : HP) : GR := match as with
  | [.ref o] => bif Nat.beq o 0 then (true, p_T_blockEverything h, none, none, v_T_blockEverything h) else bif Nat.beq o 21 then (true, p_T_blockEverything (am_pull pl21 h), none, none, am_push pl21 h (v_T_blockEverything (am_pull pl21 h))) else bad h
  | _ => bad h
def d_TB_blockEverything (k : Nat) : CD := (k, yX4_blockEverything, cX4_blockEverything, c_mL (d_T_blockEverything 0), none, 1, c_fr (d_T_blockEverything 0), c_lo (d_T_blockEverything 0), 0, false, true, g_TB_blockEverything)
theorem push_pull (h : HP) : am_push pl21 h (am_pull pl21 h) = h := by
  obtain ⟨h1, h2⟩ := h
  have key : ∀ (α : Type) (f : Nat → α) (c : Nat), (match am_ip pl21 c with | some k => f (am_pi pl21 k) | none => f c) = f c := by
    intro α f c
    cases hi : am_ip pl21 c with
    | none => rfl
    | some k =>
      have h5 := am_ip_some hi
      have h6 := am_pi_lt (List.getElem?_eq_some_iff.mp h5).1
      rw [h5] at h6
      dsimp only
      rw [← Option.some.inj h6]
  exact Prod.ext (funext fun c => key _ h1 c) (funext fun c => key _ h2 c)
theorem ok_TB_blocks {l : Launch} (hl : l.stackTraces = false) (e1 ro : List Sh) (k : Nat) (hk : ¬ k = 4) : am_Ok l (WB ++ e1) ro (d_TB_blocks k) := by
  obtain ⟨w, hw1, hw2, H⟩ := ok_T_blocks hl [] ro k
  obtain ⟨w', hw1', hw2', H'⟩ := ok_T_blocks hl (W21b ++ (WBb ++ e1)) ro k
  rcases hw1 with rfl | ⟨h4, -⟩
  · rcases hw1' with rfl | ⟨h4, -⟩
    · refine ⟨_, Or.inl rfl, hw2, fun D G ad xq as h hg => ?_⟩
      revert hg
      show g_ok (g_TB_blocks (WB ++ e1) ro as h) = true → (_ → g_pre (g_TB_blocks (WB ++ e1) ro as h)) ∧ (g_pre (g_TB_blocks (WB ++ e1) ro as h) → (_ → g_thr (g_TB_blocks (WB ++ e1) ro as h) = none) ∧ am_Met l yX4_blocks (_ :: am_U) _ _ (am_Qc D G ad (WB ++ e1) ro (g_TB_blocks (WB ++ e1) ro as h)) (am_XC D G ad (WB ++ e1) ro (g_TB_blocks (WB ++ e1) ro as h)) 0 0 (am_A G))
      unfold g_TB_blocks
      split
      · rename_i o
        cases h0 : Nat.beq o 0 with
        | true =>
          obtain rfl := am_beq h0
          exact fun _ => ⟨(fun z => nomatch z), fun hp => ⟨fun _ => rfl, ((H' D G ad xq [.ref 0] h rfl).2 hp).2⟩⟩
        | false =>
          cases h1 : Nat.beq o 21 with
          | true =>
            obtain rfl := am_beq h1
            refine fun _ => ⟨(fun z => nomatch z), fun hp => ⟨fun _ => rfl, ?_⟩⟩
            have h2 := ((H D (am_Gc G ad pl21) (fun k => ad (am_pi pl21 k)) xq [.ref 0] (am_pull pl21 h) rfl).2 hp).2
            exact am_place (pl := pl21) (shc := WT) (pl21_ok e1) oks_WT (as := [.ref 21]) (as0 := [.ref 0]) (g0 := g_T_blocks (WT ++ []) ro [.ref 0] (am_pull pl21 h)) rfl rfl rfl (fun v hv => by cases hv; rfl) (push_pull h).symm h2
          | false => exact fun z => nomatch z
      · exact fun z => nomatch z
    · exact absurd h4 hk
  · exact absurd h4 hk
theorem ok_TB_blockEverything {l : Launch} (hl : l.stackTraces = false) (e1 ro : List Sh) (k : Nat) (hk : ¬ k = 4) : am_Ok l (WB ++ e1) ro (d_TB_blockEverything k) := by
  obtain ⟨w, hw1, hw2, H⟩ := ok_T_blockEverything hl [] ro k
  obtain ⟨w', hw1', hw2', H'⟩ := ok_T_blockEverything hl (W21b ++ (WBb ++ e1)) ro k
  rcases hw1 with rfl | ⟨h4, -⟩
  · rcases hw1' with rfl | ⟨h4, -⟩
    · refine ⟨_, Or.inl rfl, hw2, fun D G ad xq as h hg => ?_⟩
      revert hg
      show g_ok (g_TB_blockEverything (WB ++ e1) ro as h) = true → (_ → g_pre (g_TB_blockEverything (WB ++ e1) ro as h)) ∧ (g_pre (g_TB_blockEverything (WB ++ e1) ro as h) → (_ → g_thr (g_TB_blockEverything (WB ++ e1) ro as h) = none) ∧ am_Met l yX4_blockEverything (_ :: am_U) _ _ (am_Qc D G ad (WB ++ e1) ro (g_TB_blockEverything (WB ++ e1) ro as h)) (am_XC D G ad (WB ++ e1) ro (g_TB_blockEverything (WB ++ e1) ro as h)) 0 0 (am_A G))
      unfold g_TB_blockEverything
      split
      · rename_i o
        cases h0 : Nat.beq o 0 with
        | true =>
          obtain rfl := am_beq h0
          exact fun _ => ⟨(fun z => nomatch z), fun hp => ⟨fun _ => rfl, ((H' D G ad xq [.ref 0] h rfl).2 hp).2⟩⟩
        | false =>
          cases h1 : Nat.beq o 21 with
          | true =>
            obtain rfl := am_beq h1
            refine fun _ => ⟨(fun z => nomatch z), fun hp => ⟨fun _ => rfl, ?_⟩⟩
            have h2 := ((H D (am_Gc G ad pl21) (fun k => ad (am_pi pl21 k)) xq [.ref 0] (am_pull pl21 h) rfl).2 hp).2
            exact am_place (pl := pl21) (shc := WT) (pl21_ok e1) oks_WT (as := [.ref 21]) (as0 := [.ref 0]) (g0 := g_T_blockEverything (WT ++ []) ro [.ref 0] (am_pull pl21 h)) rfl rfl rfl (fun v hv => nomatch hv) rfl h2
          | false => exact fun z => nomatch z
      · exact fun z => nomatch z
    · exact absurd h4 hk
  · exact absurd h4 hk
end
