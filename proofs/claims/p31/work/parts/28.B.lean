/-! BusBlocks, out of its code (written by gen/meth.py). -/
noncomputable section
def k_B_count (pc : Nat) : Ent := bif Nat.ble 175 pc then am_nop else bif Nat.ble 114 pc then (bif Nat.ble 145 pc then (bif Nat.ble 161 pc then (bif Nat.ble 169 pc then (bif Nat.ble 171 pc then (bif Nat.ble 174 pc then (bif Nat.beq pc 174 then (.ireturn, 0, 0, []) else am_nop) else (bif Nat.beq pc 171 then (.getfield 62, 0, 0, []) else am_nop)) else (bif Nat.ble 170 pc then (bif Nat.beq pc 170 then (.aload_n 0, 0, 0, []) else am_nop) else (bif Nat.beq pc 169 then (.ireturn, 0, 0, []) else am_nop))) else (bif Nat.ble 163 pc then (bif Nat.ble 166 pc then (bif Nat.beq pc 166 then (.invokevirtual 281, 0, 0, []) else am_nop) else (bif Nat.beq pc 163 then (.getfield 31, 0, 0, []) else am_nop)) else (bif Nat.ble 162 pc then (bif Nat.beq pc 162 then (.aload_n 0, 0, 0, []) else am_nop) else (bif Nat.beq pc 161 then (.ireturn, 0, 0, []) else am_nop)))) else (bif Nat.ble 153 pc then (bif Nat.ble 155 pc then (bif Nat.ble 158 pc then (bif Nat.beq pc 158 then (.invokevirtual 278, 0, 0, []) else am_nop) else (bif Nat.beq pc 155 then (.getfield 10, 0, 0, []) else am_nop)) else (bif Nat.ble 154 pc then (bif Nat.beq pc 154 then (.aload_n 0, 0, 0, []) else am_nop) else (bif Nat.beq pc 153 then (.ireturn, 0, 0, []) else am_nop))) else (bif Nat.ble 147 pc then (bif Nat.ble 150 pc then (bif Nat.beq pc 150 then (.getfield 142, 0, 0, []) else am_nop) else (bif Nat.beq pc 147 then (.getfield 10, 0, 0, []) else am_nop)) else (bif Nat.ble 146 pc then (bif Nat.beq pc 146 then (.aload_n 0, 0, 0, []) else am_nop) else (bif Nat.beq pc 145 then (.ireturn, 0, 0, []) else am_nop))))) else (bif Nat.ble 129 pc then (bif Nat.ble 137 pc then (bif Nat.ble 139 pc then (bif Nat.ble 142 pc then (bif Nat.beq pc 142 then (.getfield 275, 0, 0, []) else am_nop) else (bif Nat.beq pc 139 then (.getfield 10, 0, 0, []) else am_nop)) else (bif Nat.ble 138 pc then (bif Nat.beq pc 138 then (.aload_n 0, 0, 0, []) else am_nop) else (bif Nat.beq pc 137 then (.ireturn, 0, 0, []) else am_nop))) else (bif Nat.ble 131 pc then (bif Nat.ble 134 pc then (bif Nat.beq pc 134 then (.invokevirtual 272, 0, 0, []) else am_nop) else (bif Nat.beq pc 131 then (.getfield 10, 0, 0, []) else am_nop)) else (bif Nat.ble 130 pc then (bif Nat.beq pc 130 then (.aload_n 0, 0, 0, []) else am_nop) else (bif Nat.beq pc 129 then (.ireturn, 0, 0, []) else am_nop)))) else (bif Nat.ble 119 pc then (bif Nat.ble 123 pc then (bif Nat.ble 126 pc then (bif Nat.beq pc 126 then (.invokevirtual 212, 0, 0, []) else am_nop) else (bif Nat.beq pc 123 then (.getfield 24, 0, 0, []) else am_nop)) else (bif Nat.ble 122 pc then (bif Nat.beq pc 122 then (.aload_n 0, 0, 0, []) else am_nop) else (bif Nat.beq pc 119 then (.invokevirtual 209, 0, 0, []) else am_nop))) else (bif Nat.ble 115 pc then (bif Nat.ble 118 pc then (bif Nat.beq pc 118 then (.iconst (-1), (-1 : Int32), 0, []) else am_nop) else (bif Nat.beq pc 115 then (.getfield 24, 0, 0, []) else am_nop)) else (bif Nat.beq pc 114 then (.aload_n 0, 0, 0, []) else am_nop))))) else (bif Nat.ble 81 pc then (bif Nat.ble 96 pc then (bif Nat.ble 106 pc then (bif Nat.ble 110 pc then (bif Nat.ble 113 pc then (bif Nat.beq pc 113 then (.ireturn, 0, 0, []) else am_nop) else (bif Nat.beq pc 110 then (.invokevirtual 153, 0, 0, []) else am_nop)) else (bif Nat.ble 107 pc then (bif Nat.beq pc 107 then (.getfield 16, 0, 0, []) else am_nop) else (bif Nat.beq pc 106 then (.aload_n 0, 0, 0, []) else am_nop))) else (bif Nat.ble 100 pc then (bif Nat.ble 103 pc then (bif Nat.beq pc 103 then (.invokevirtual 150, 0, 0, []) else am_nop) else (bif Nat.beq pc 100 then (.getfield 16, 0, 0, []) else am_nop)) else (bif Nat.ble 99 pc then (bif Nat.beq pc 99 then (.aload_n 0, 0, 0, []) else am_nop) else (bif Nat.beq pc 96 then (.invokevirtual 269, 0, 0, []) else am_nop)))) else (bif Nat.ble 88 pc then (bif Nat.ble 92 pc then (bif Nat.ble 93 pc then (bif Nat.beq pc 93 then (.getfield 10, 0, 0, []) else am_nop) else (bif Nat.beq pc 92 then (.aload_n 0, 0, 0, []) else am_nop)) else (bif Nat.ble 89 pc then (bif Nat.beq pc 89 then (.getfield 16, 0, 0, []) else am_nop) else (bif Nat.beq pc 88 then (.aload_n 0, 0, 0, []) else am_nop))) else (bif Nat.ble 84 pc then (bif Nat.ble 87 pc then (bif Nat.beq pc 87 then (.ireturn, 0, 0, []) else am_nop) else (bif Nat.beq pc 84 then (.invokevirtual 153, 0, 0, []) else am_nop)) else (bif Nat.beq pc 81 then (.getfield 10, 0, 0, []) else am_nop)))) else (bif Nat.ble 65 pc then (bif Nat.ble 73 pc then (bif Nat.ble 79 pc then (bif Nat.ble 80 pc then (bif Nat.beq pc 80 then (.aload_n 0, 0, 0, []) else am_nop) else (bif Nat.beq pc 79 then (.ireturn, 0, 0, []) else am_nop)) else (bif Nat.ble 76 pc then (bif Nat.beq pc 76 then (.invokevirtual 266, 0, 0, []) else am_nop) else (bif Nat.beq pc 73 then (.getfield 10, 0, 0, []) else am_nop))) else (bif Nat.ble 71 pc then (bif Nat.ble 72 pc then (bif Nat.beq pc 72 then (.aload_n 0, 0, 0, []) else am_nop) else (bif Nat.beq pc 71 then (.ireturn, 0, 0, []) else am_nop)) else (bif Nat.ble 68 pc then (bif Nat.beq pc 68 then (.getfield 93, 0, 0, []) else am_nop) else (bif Nat.beq pc 65 then (.getfield 10, 0, 0, []) else am_nop)))) else (bif Nat.ble 4 pc then (bif Nat.ble 8 pc then (bif Nat.ble 64 pc then (bif Nat.beq pc 64 then (.aload_n 0, 0, 0, []) else am_nop) else (bif Nat.beq pc 8 then (.tableswitch 162 0 9 #[56, 64, 72, 80, 106, 122, 130, 138, 146, 154], 0, 170, [(0, 64), (1, 72), (2, 80), (3, 88), (4, 114), (5, 130), (6, 138), (7, 146), (8, 154), (9, 162)]) else am_nop)) else (bif Nat.ble 7 pc then (bif Nat.beq pc 7 then (.iload_n 1, 0, 1, []) else am_nop) else (bif Nat.beq pc 4 then (.invokestatic 68, 0, 0, []) else am_nop))) else (bif Nat.ble 1 pc then (bif Nat.ble 2 pc then (bif Nat.beq pc 2 then (.bipush 10, 10, 0, []) else am_nop) else (bif Nat.beq pc 1 then (.iconst 0, 0, 0, []) else am_nop)) else (bif Nat.beq pc 0 then (.iload_n 1, 0, 1, []) else am_nop)))))
theorem fl_B_16 : am_fok RX5 16 (5, 1) := ⟨RX5, TX5, 10, rfl, by decide, rfl, Or.inl (am_tb 192 (by decide +kernel) rfl)⟩
theorem fl_B_275 : am_fok RX5 275 (4, 13) := ⟨RX4, TX4, 15, rfl, by decide, rfl, Or.inr ⟨"BusBlocks", am_tb 82 (by decide +kernel) rfl⟩⟩
theorem lk_B_266 : am_lnk RX5 266 (d_T_runTrips 24) := ⟨⟨by decide, by decide⟩, am_tb 2 (by decide +kernel) rfl, Or.inr ⟨by decide, rfl, am_tb 425 (by decide +kernel) rfl, am_tp 18 (by decide +kernel) rfl, ⟨TX4, 15, rfl⟩, Or.inr ⟨"BusBlocks", am_tb 423 (by decide +kernel) rfl⟩⟩⟩
theorem lk_B_269 : am_lnk RX5 269 (d_TC_copyFrom 24) := ⟨⟨by decide, by decide⟩, am_tb 2 (by decide +kernel) rfl, Or.inr ⟨by decide, rfl, am_tb 326 (by decide +kernel) rfl, am_tp 3 (by decide +kernel) rfl, ⟨TX4, 15, rfl⟩, Or.inr ⟨"BusBlocks", am_tb 427 (by decide +kernel) rfl⟩⟩⟩
theorem lk_B_272 : am_lnk RX5 272 (d_T_sparesLeft 24) := ⟨⟨by decide, by decide⟩, am_tb 2 (by decide +kernel) rfl, Or.inr ⟨by decide, rfl, am_tb 474 (by decide +kernel) rfl, am_tp 28 (by decide +kernel) rfl, ⟨TX4, 15, rfl⟩, Or.inr ⟨"BusBlocks", am_tb 472 (by decide +kernel) rfl⟩⟩⟩
theorem lk_B_278 : am_lnk RX5 278 (d_T_mostUnderWay 24) := ⟨⟨by decide, by decide⟩, am_tb 2 (by decide +kernel) rfl, Or.inr ⟨by decide, rfl, am_tb 479 (by decide +kernel) rfl, am_tp 29 (by decide +kernel) rfl, ⟨TX4, 15, rfl⟩, Or.inr ⟨"BusBlocks", am_tb 477 (by decide +kernel) rfl⟩⟩⟩
theorem lk_B_281 : am_lnk RX5 281 (d_U_fewestOfAll 21) := ⟨⟨by decide, by decide⟩, am_tb 4 (by decide +kernel) rfl, Or.inr ⟨by decide, rfl, am_tb 487 (by decide +kernel) rfl, am_tp 31 (by decide +kernel) rfl, ⟨TX1, 2, rfl⟩, Or.inr ⟨"BusBlocks", am_tb 485 (by decide +kernel) rfl⟩⟩⟩
def m_B_count : MI := (k_B_count, [(10, 5, 0), (16, 5, 1), (24, 5, 2), (31, 5, 3), (62, 5, 9), (93, 4, 11), (142, 4, 14), (275, 4, 13)], [(68, d_B_checkRange 0), (150, d_TB_blockEverything 24), (153, d_TB_blocks 24), (209, d_D_gather 20), (212, d_D_fewest 20), (266, d_T_runTrips 24), (269, d_TC_copyFrom 24), (272, d_T_sparesLeft 24), (278, d_T_mostUnderWay 24), (281, d_U_fewestOfAll 21)], [], [], [], [], 7, 126, some .int, fun _ => 0, 1)
def v_B_count (h : HP) (a1 : Int32) : String ⊕ (Int32 × HP) := (match v_B_checkRange h a1 0 10 with | some E => (.inl E) | none => (if a1 = 0 then (.inr (h.1 0 11, h)) else (if a1 = 1 then (.inr ((v_T_runTrips h), h)) else (if a1 = 2 then (.inr ((v_T_blocks h), h)) else (if a1 = 3 then (bnd (v_copyFrom h 21 0) fun y1 => (bnd (am_push pl21 y1 (v_T_blockEverything (am_pull pl21 y1))) fun y2 => (.inr ((v_T_blocks (am_pull pl21 y2)), y2)))) else (if a1 = 4 then (bnd (v_D_gather h (-1 : Int32)) fun y3 => (bnd (v_D_fewest y3) fun y4 => (.inr (y4.1, y4.2)))) else (if a1 = 5 then (.inr ((v_T_sparesLeft h), h)) else (if a1 = 6 then (.inr (h.1 0 13, h)) else (if a1 = 7 then (.inr (h.1 0 14, h)) else (if a1 = 8 then (.inr ((v_T_mostUnderWay h), h)) else (if a1 = 9 then (.inr ((v_U_fewestOfAll h), h)) else (.inr (h.1 38 9, h)))))))))))))
def p_B_count (h : HP) (a1 : Int32) : Prop := (v_B_checkRange h a1 0 10 = none → ((a1 = 0 → True) ∧ (¬ a1 = 0 → ((a1 = 1 → (p_T_runTrips h)) ∧ (¬ a1 = 1 → ((a1 = 2 → (p_T_blocks h)) ∧ (¬ a1 = 2 → ((a1 = 3 → (∀ y1, v_copyFrom h 21 0 = y1 → ((p_T_blockEverything (am_pull pl21 y1)) ∧ (∀ y2, am_push pl21 y1 (v_T_blockEverything (am_pull pl21 y1)) = y2 → (p_T_blocks (am_pull pl21 y2)))))) ∧ (¬ a1 = 3 → ((a1 = 4 → ((p_D_gather h (-1 : Int32)) ∧ (∀ y3, v_D_gather h (-1 : Int32) = y3 → (p_D_fewest y3)))) ∧ (¬ a1 = 4 → ((a1 = 5 → True) ∧ (¬ a1 = 5 → ((a1 = 6 → True) ∧ (¬ a1 = 6 → ((a1 = 7 → True) ∧ (¬ a1 = 7 → ((a1 = 8 → (p_T_mostUnderWay h)) ∧ (¬ a1 = 8 → ((a1 = 9 → (p_U_fewestOfAll h)) ∧ (¬ a1 = 9 → True)))))))))))))))))))))
def g_B_count (_ _ : List Sh) (as : List Value) (h : HP) : GR := match as with
  | [.ref o1, .int a1] => (Nat.beq o1 38, p_B_count h a1, rthr (v_B_count h a1), rvIW (v_B_count h a1), rhpI h (v_B_count h a1))
  | _ => bad h
def d_B_count (k : Nat) : CD := (k, yX5_count, cX5_count, 2, some .int, 2, 7, 126, 0, true, true, g_B_count)
theorem chk_B_count : ∀ pc, am_chk cX5_count k_B_count pc = true := am_chkall 175 (by decide +kernel) (fun pc h => by unfold k_B_count; rw [Nat.ble_eq_true_of_le h]; rfl)
theorem pf_B_count : plainFor yX5_count = true := by decide +kernel
theorem cu_B_count : Cond.code yX5_count cX5_count 2 (some .int) ∈ am_U := am_tb 422 (by decide +kernel) rfl
set_option maxRecDepth 100000 in
theorem ev_B_count {e1 e2 : List Sh} {P : AR → HP → Prop} (h : HP) (a1 : Int32) (hp : p_B_count h a1) (hP : ∀ q, v_B_count h a1 = q → RIWT P h q) : am_Ev m_B_count (WB ++ e1) (RO ++ e2) P (0, [.ref 38, .int a1], [], h) := by
  unfold p_B_count at hp
  refine am_Ev_G [7] 400 _ ?_
  show ((∀ E, v_B_checkRange h a1 0 10 = some E → P (.inr E) h) ∧ (v_B_checkRange h a1 0 10 = none → am_Ev m_B_count (WB ++ e1) (RO ++ e2) P (7, [.ref 38, .int a1], [], h)))
  refine ⟨fun E c1 => ?_, fun c1 => ?_⟩
  · skip
    exact hP (.inl E) (by unfold v_B_count; simp only [c1])
  · have hp := hp c1
    refine am_Ev_G [79, 99, 122, 154] 400 _ ?_
    show ((a1 = 0 → P (.inl (some (.int (h.1 0 11)))) h) ∧ (¬ a1 = 0 → ((a1 = 1 → ((p_T_runTrips h) ∧ am_Ev m_B_count (WB ++ e1) (RO ++ e2) P (79, [.ref 38, .int a1], [.int (v_T_runTrips h)], h))) ∧ (¬ a1 = 1 → ((a1 = 2 → ((p_T_blocks h) ∧ P (.inl (some (.int (v_T_blocks h)))) h)) ∧ (¬ a1 = 2 → ((a1 = 3 → am_Ev m_B_count (WB ++ e1) (RO ++ e2) P (99, [.ref 38, .int a1], [], (v_copyFrom h 21 0))) ∧ (¬ a1 = 3 → ((a1 = 4 → ((p_D_gather h (-1 : Int32)) ∧ am_Ev m_B_count (WB ++ e1) (RO ++ e2) P (122, [.ref 38, .int a1], [], (v_D_gather h (-1 : Int32))))) ∧ (¬ a1 = 4 → ((a1 = 5 → P (.inl (some (.int (v_T_sparesLeft h)))) h) ∧ (¬ a1 = 5 → ((a1 = 6 → P (.inl (some (.int (h.1 0 13)))) h) ∧ (¬ a1 = 6 → ((a1 = 7 → P (.inl (some (.int (h.1 0 14)))) h) ∧ (¬ a1 = 7 → ((a1 = 8 → am_Ev m_B_count (WB ++ e1) (RO ++ e2) P (154, [.ref 38, .int a1], [], h)) ∧ (¬ a1 = 8 → ((a1 = 9 → ((p_U_fewestOfAll h) ∧ P (.inl (some (.int (v_U_fewestOfAll h)))) h)) ∧ (¬ a1 = 9 → P (.inl (some (.int (h.1 38 9)))) h))))))))))))))))))))
    refine ⟨fun c2 => ?_, fun c2 => ?_⟩
    · skip
      exact hP (.inr (h.1 0 11, h)) (by unfold v_B_count; simp only [c1, if_pos c2])
    · have hp := hp.2 c2
      refine ⟨fun c3 => ?_, fun c3 => ?_⟩
      · have hp := hp.1 c3
        refine ⟨hp, ?_⟩
        refine am_Ev_G [] 400 _ ?_
        show P (.inl (some (.int (v_T_runTrips h)))) h
        exact hP (.inr ((v_T_runTrips h), h)) (by unfold v_B_count; simp only [c1, if_neg c2, if_pos c3])
      · have hp := hp.2 c3
        refine ⟨fun c4 => ?_, fun c4 => ?_⟩
        · have hp := hp.1 c4
          refine ⟨hp, ?_⟩
          exact hP (.inr ((v_T_blocks h), h)) (by unfold v_B_count; simp only [c1, if_neg c2, if_neg c3, if_pos c4])
        · have hp := hp.2 c4
          refine ⟨fun c5 => ?_, fun c5 => ?_⟩
          · have hp := hp.1 c5
            obtain ⟨y1, c6⟩ : ∃ y, v_copyFrom h 21 0 = y := ⟨_, rfl⟩
            rw [c6]
            have hp := hp _ c6
            show am_Ev m_B_count (WB ++ e1) (RO ++ e2) P (99, [.ref 38, .int a1], [], y1)
            refine am_Ev_G [106] 400 _ ?_
            show ((p_T_blockEverything (am_pull pl21 y1)) ∧ am_Ev m_B_count (WB ++ e1) (RO ++ e2) P (106, [.ref 38, .int a1], [], (am_push pl21 y1 (v_T_blockEverything (am_pull pl21 y1)))))
            obtain ⟨hob, hp⟩ := hp
            refine ⟨hob, ?_⟩
            obtain ⟨y2, c7⟩ : ∃ y, am_push pl21 y1 (v_T_blockEverything (am_pull pl21 y1)) = y := ⟨_, rfl⟩
            rw [c7]
            have hp := hp _ c7
            show am_Ev m_B_count (WB ++ e1) (RO ++ e2) P (106, [.ref 38, .int a1], [], y2)
            refine am_Ev_G [] 400 _ ?_
            show ((p_T_blocks (am_pull pl21 y2)) ∧ P (.inl (some (.int (v_T_blocks (am_pull pl21 y2))))) y2)
            refine ⟨hp, ?_⟩
            exact hP (.inr ((v_T_blocks (am_pull pl21 y2)), y2)) (by unfold v_B_count; simp only [c1, if_neg c2, if_neg c3, if_neg c4, if_pos c5, bnd, c6, bnd, c7])
          · have hp := hp.2 c5
            refine ⟨fun c8 => ?_, fun c8 => ?_⟩
            · have hp := hp.1 c8
              obtain ⟨hob, hp⟩ := hp
              refine ⟨hob, ?_⟩
              obtain ⟨y3, c9⟩ : ∃ y, v_D_gather h (-1 : Int32) = y := ⟨_, rfl⟩
              rw [c9]
              have hp := hp _ c9
              show am_Ev m_B_count (WB ++ e1) (RO ++ e2) P (122, [.ref 38, .int a1], [], y3)
              refine am_Ev_G [129] 400 _ ?_
              show ((p_D_fewest y3) ∧ am_Ev m_B_count (WB ++ e1) (RO ++ e2) P (129, [.ref 38, .int a1], [.int ((v_D_fewest y3).1)], ((v_D_fewest y3).2)))
              refine ⟨hp, ?_⟩
              obtain ⟨y4, c10⟩ : ∃ y, v_D_fewest y3 = y := ⟨_, rfl⟩
              rw [c10]
              show am_Ev m_B_count (WB ++ e1) (RO ++ e2) P (129, [.ref 38, .int a1], [.int y4.1], y4.2)
              refine am_Ev_G [] 400 _ ?_
              show P (.inl (some (.int y4.1))) y4.2
              exact hP (.inr (y4.1, y4.2)) (by unfold v_B_count; simp only [c1, if_neg c2, if_neg c3, if_neg c4, if_neg c5, if_pos c8, bnd, c9, bnd, c10])
            · have hp := hp.2 c8
              refine ⟨fun c11 => ?_, fun c11 => ?_⟩
              · skip
                exact hP (.inr ((v_T_sparesLeft h), h)) (by unfold v_B_count; simp only [c1, if_neg c2, if_neg c3, if_neg c4, if_neg c5, if_neg c8, if_pos c11])
              · have hp := hp.2 c11
                refine ⟨fun c12 => ?_, fun c12 => ?_⟩
                · skip
                  exact hP (.inr (h.1 0 13, h)) (by unfold v_B_count; simp only [c1, if_neg c2, if_neg c3, if_neg c4, if_neg c5, if_neg c8, if_neg c11, if_pos c12])
                · have hp := hp.2 c12
                  refine ⟨fun c13 => ?_, fun c13 => ?_⟩
                  · skip
                    exact hP (.inr (h.1 0 14, h)) (by unfold v_B_count; simp only [c1, if_neg c2, if_neg c3, if_neg c4, if_neg c5, if_neg c8, if_neg c11, if_neg c12, if_pos c13])
                  · have hp := hp.2 c13
                    refine ⟨fun c14 => ?_, fun c14 => ?_⟩
                    · have hp := hp.1 c14
                      refine am_Ev_G [] 400 _ ?_
                      show ((p_T_mostUnderWay h) ∧ P (.inl (some (.int (v_T_mostUnderWay h)))) h)
                      refine ⟨hp, ?_⟩
                      exact hP (.inr ((v_T_mostUnderWay h), h)) (by unfold v_B_count; simp only [c1, if_neg c2, if_neg c3, if_neg c4, if_neg c5, if_neg c8, if_neg c11, if_neg c12, if_neg c13, if_pos c14])
                    · have hp := hp.2 c14
                      refine ⟨fun c15 => ?_, fun c15 => ?_⟩
                      · have hp := hp.1 c15
                        refine ⟨hp, ?_⟩
                        exact hP (.inr ((v_U_fewestOfAll h), h)) (by unfold v_B_count; simp only [c1, if_neg c2, if_neg c3, if_neg c4, if_neg c5, if_neg c8, if_neg c11, if_neg c12, if_neg c13, if_neg c14, if_pos c15])
                      · skip
                        exact hP (.inr (h.1 38 9, h)) (by unfold v_B_count; simp only [c1, if_neg c2, if_neg c3, if_neg c4, if_neg c5, if_neg c8, if_neg c11, if_neg c12, if_neg c13, if_neg c14, if_neg c15])
theorem ok_B_count {l : Launch} (hl : l.stackTraces = false) (e1 e2 : List Sh) (k : Nat) : am_Ok l (WB ++ e1) (RO ++ e2) (d_B_count k) := by
  refine am_met hl (own := RX5) (M := m_B_count) rfl pf_B_count cu_B_count rfl rfl rfl rfl (fun _ => rfl) rfl ⟨chk_B_count, (am_c (fl_B_10) (am_c (fl_B_16) (am_c (fl_B_24) (am_c (fl_B_31) (am_c (fl_B_62) (am_c (fl_B_93) (am_c (fl_B_142) (am_c (fl_B_275) am_n)))))))), (am_c (lk_B_68) (am_c (lk_B_150) (am_c (lk_B_153) (am_c (lk_B_209) (am_c (lk_B_212) (am_c (lk_B_266) (am_c (lk_B_269) (am_c (lk_B_272) (am_c (lk_B_278) (am_c (lk_B_281) am_n)))))))))), (am_n), (am_n)⟩ (am_n) (am_c (ok_B_checkRange hl e1 _ 0) (am_c (ok_TB_blockEverything hl e1 _ 24 (by decide)) (am_c (ok_TB_blocks hl e1 _ 24 (by decide)) (am_c (ok_D_gather hl (WBb ++ e1) _ 20) (am_c (ok_D_fewest hl (WBb ++ e1) _ 20) (am_c (ok_T_runTrips hl (W21b ++ (WBb ++ e1)) _ 24) (am_c (ok_TC_copyFrom hl e1 _ 24) (am_c (ok_T_sparesLeft hl (W21b ++ (WBb ++ e1)) _ 24) (am_c (ok_T_mostUnderWay hl (W21b ++ (WBb ++ e1)) _ 24) (am_c (ok_U_fewestOfAll hl (WBb ++ e1) _ 21) am_n)))))))))) (fun z => nomatch z) (fun z => nomatch z) ?_
  · intro as h hg hp
    revert hg hp
    show g_ok (g_B_count (WB ++ e1) (RO ++ e2) as h) = true → g_pre (g_B_count (WB ++ e1) (RO ++ e2) as h) → _ ∧ am_Ev m_B_count (WB ++ e1) (RO ++ e2) (am_eq (g_B_count (WB ++ e1) (RO ++ e2) as h)) (0, am_ent as 2, [], h)
    unfold g_B_count
    split
    · rename_i o1 a1
      intro hc hp
      change (Nat.beq o1 38) = true at hc
      obtain rfl := am_beq hc
      exact ⟨Nat.le_of_ble_eq_true rfl, ev_B_count h a1 hp eqRIWT⟩
    · exact fun z => nomatch z
def k_B_setting (pc : Nat) : Ent := bif Nat.ble 16 pc then am_nop else bif Nat.ble 8 pc then (bif Nat.ble 12 pc then (bif Nat.ble 15 pc then (bif Nat.beq pc 15 then (.ireturn, 0, 0, []) else am_nop) else (bif Nat.beq pc 12 then (.invokestatic 78, 0, 0, []) else am_nop)) else (bif Nat.ble 11 pc then (bif Nat.beq pc 11 then (.iload_n 1, 0, 1, []) else am_nop) else (bif Nat.beq pc 8 then (.getfield 131, 0, 0, []) else am_nop))) else (bif Nat.ble 4 pc then (bif Nat.ble 5 pc then (bif Nat.beq pc 5 then (.getfield 10, 0, 0, []) else am_nop) else (bif Nat.beq pc 4 then (.aload_n 0, 0, 0, []) else am_nop)) else (bif Nat.ble 1 pc then (bif Nat.beq pc 1 then (.invokestatic 122, 0, 0, []) else am_nop) else (bif Nat.beq pc 0 then (.iload_n 1, 0, 1, []) else am_nop)))
def m_B_setting : MI := (k_B_setting, [(10, 5, 0), (131, 4, 10)], [(78, d_B_at 0), (122, d_B_checkSetting 0)], [], [], [], [], 7, 112, some .int, fun _ => 0, 1)
def v_B_setting (h : HP) (a1 : Int32) : String ⊕ Int32 := (match v_B_checkSetting h a1 with | some E => (.inl E) | none => (.inr (v_at 4 (h.1 11) a1)))
def g_B_setting (_ _ : List Sh) (as : List Value) (h : HP) : GR := match as with
  | [.ref o1, .int a1] => (Nat.beq o1 38, True, rthr (v_B_setting h a1), rvI (v_B_setting h a1), h)
  | _ => bad h
def d_B_setting (k : Nat) : CD := (k, yX5_setting, cX5_setting, 2, some .int, 2, 7, 112, 0, true, false, g_B_setting)
theorem chk_B_setting : ∀ pc, am_chk cX5_setting k_B_setting pc = true := am_chkall 16 (by decide +kernel) (fun pc h => by unfold k_B_setting; rw [Nat.ble_eq_true_of_le h]; rfl)
theorem pf_B_setting : plainFor yX5_setting = true := by decide +kernel
theorem cu_B_setting : Cond.code yX5_setting cX5_setting 2 (some .int) ∈ am_U := am_tb 750 (by decide +kernel) rfl
set_option maxRecDepth 100000 in
theorem ev_B_setting {e1 e2 : List Sh} {P : AR → HP → Prop} (h : HP) (a1 : Int32) (hP : ∀ q, v_B_setting h a1 = q → RIT P h q) : am_Ev m_B_setting (WB ++ e1) (RO ++ e2) P (0, [.ref 38, .int a1], [], h) := by
  refine am_Ev_G [4] 400 _ ?_
  show ((∀ E, v_B_checkSetting h a1 = some E → P (.inr E) h) ∧ (v_B_checkSetting h a1 = none → am_Ev m_B_setting (WB ++ e1) (RO ++ e2) P (4, [.ref 38, .int a1], [], h)))
  refine ⟨fun E c1 => ?_, fun c1 => ?_⟩
  · skip
    exact hP (.inl E) (by unfold v_B_setting; simp only [c1])
  · skip
    refine am_Ev_G [15] 400 _ ?_
    show am_Ev m_B_setting (WB ++ e1) (RO ++ e2) P (15, [.ref 38, .int a1], [.int (v_at 4 (h.1 11) a1)], h)
    refine am_Ev_G [] 400 _ ?_
    show P (.inl (some (.int (v_at 4 (h.1 11) a1)))) h
    exact hP (.inr (v_at 4 (h.1 11) a1)) (by unfold v_B_setting; simp only [c1])
theorem ok_B_setting {l : Launch} (hl : l.stackTraces = false) (e1 e2 : List Sh) (k : Nat) : am_Ok l (WB ++ e1) (RO ++ e2) (d_B_setting k) := by
  refine am_met hl (own := RX5) (M := m_B_setting) rfl pf_B_setting cu_B_setting rfl rfl rfl rfl (fun _ => rfl) rfl ⟨chk_B_setting, (am_c (fl_B_10) (am_c (fl_B_131) am_n)), (am_c (lk_B_78) (am_c (lk_B_122) am_n)), (am_n), (am_n)⟩ (am_n) (am_c (ok_B_at hl _ _ 0) (am_c (ok_B_checkSetting hl e1 _ 0) am_n)) ?_ (fun z => nomatch z) ?_
  · intro _ as h hg
    show g_pre (g_B_setting (WB ++ e1) (RO ++ e2) as h)
    unfold g_B_setting
    split <;> exact trivial
  · intro as h hg hp
    revert hg hp
    show g_ok (g_B_setting (WB ++ e1) (RO ++ e2) as h) = true → g_pre (g_B_setting (WB ++ e1) (RO ++ e2) as h) → _ ∧ am_Ev m_B_setting (WB ++ e1) (RO ++ e2) (am_eq (g_B_setting (WB ++ e1) (RO ++ e2) as h)) (0, am_ent as 2, [], h)
    unfold g_B_setting
    split
    · rename_i o1 a1
      intro hc hp
      change (Nat.beq o1 38) = true at hc
      obtain rfl := am_beq hc
      exact ⟨Nat.le_of_ble_eq_true rfl, ev_B_setting h a1 eqRIT⟩
    · exact fun z => nomatch z
def k_B_whyNot (pc : Nat) : Ent := bif Nat.ble 20 pc then am_nop else bif Nat.ble 10 pc then (bif Nat.ble 15 pc then (bif Nat.ble 16 pc then (bif Nat.ble 19 pc then (bif Nat.beq pc 19 then (.ireturn, 0, 0, []) else am_nop) else (bif Nat.beq pc 16 then (.invokevirtual 134, 0, 0, []) else am_nop)) else (bif Nat.beq pc 15 then (.iload_n 2, 0, 2, []) else am_nop)) else (bif Nat.ble 11 pc then (bif Nat.ble 14 pc then (bif Nat.beq pc 14 then (.iload_n 1, 0, 1, []) else am_nop) else (bif Nat.beq pc 11 then (.getfield 10, 0, 0, []) else am_nop)) else (bif Nat.beq pc 10 then (.aload_n 0, 0, 0, []) else am_nop))) else (bif Nat.ble 5 pc then (bif Nat.ble 6 pc then (bif Nat.ble 7 pc then (bif Nat.beq pc 7 then (.invokevirtual 107, 0, 0, []) else am_nop) else (bif Nat.beq pc 6 then (.iload_n 2, 0, 2, []) else am_nop)) else (bif Nat.beq pc 5 then (.aload_n 0, 0, 0, []) else am_nop)) else (bif Nat.ble 1 pc then (bif Nat.ble 2 pc then (bif Nat.beq pc 2 then (.invokevirtual 107, 0, 0, []) else am_nop) else (bif Nat.beq pc 1 then (.iload_n 1, 0, 1, []) else am_nop)) else (bif Nat.beq pc 0 then (.aload_n 0, 0, 0, []) else am_nop)))
def m_B_whyNot : MI := (k_B_whyNot, [(10, 5, 0)], [(107, d_B_checkTrip 15), (134, d_T_reasonAgainst 24)], [], [], [], [], 7, 113, some .int, fun _ => 0, 1)
def v_B_whyNot (h : HP) (a1 : Int32) (a2 : Int32) : String ⊕ Int32 := (match v_B_checkTrip h a1 with | some E => (.inl E) | none => (match v_B_checkTrip h a2 with | some E => (.inl E) | none => (.inr (v_T_reasonAgainst h a1 a2))))
def g_B_whyNot (_ _ : List Sh) (as : List Value) (h : HP) : GR := match as with
  | [.ref o1, .int a1, .int a2] => (Nat.beq o1 38, True, rthr (v_B_whyNot h a1 a2), rvI (v_B_whyNot h a1 a2), h)
  | _ => bad h
def d_B_whyNot (k : Nat) : CD := (k, yX5_whyNot, cX5_whyNot, 3, some .int, 3, 7, 113, 0, true, false, g_B_whyNot)
theorem chk_B_whyNot : ∀ pc, am_chk cX5_whyNot k_B_whyNot pc = true := am_chkall 20 (by decide +kernel) (fun pc h => by unfold k_B_whyNot; rw [Nat.ble_eq_true_of_le h]; rfl)
theorem pf_B_whyNot : plainFor yX5_whyNot = true := by decide +kernel
theorem cu_B_whyNot : Cond.code yX5_whyNot cX5_whyNot 3 (some .int) ∈ am_U := am_tb 754 (by decide +kernel) rfl
set_option maxRecDepth 100000 in
theorem ev_B_whyNot {e1 e2 : List Sh} {P : AR → HP → Prop} (h : HP) (a1 : Int32) (a2 : Int32) (hP : ∀ q, v_B_whyNot h a1 a2 = q → RIT P h q) : am_Ev m_B_whyNot (WB ++ e1) (RO ++ e2) P (0, [.ref 38, .int a1, .int a2], [], h) := by
  refine am_Ev_G [5] 400 _ ?_
  show ((∀ E, v_B_checkTrip h a1 = some E → P (.inr E) h) ∧ (v_B_checkTrip h a1 = none → am_Ev m_B_whyNot (WB ++ e1) (RO ++ e2) P (5, [.ref 38, .int a1, .int a2], [], h)))
  refine ⟨fun E c1 => ?_, fun c1 => ?_⟩
  · skip
    exact hP (.inl E) (by unfold v_B_whyNot; simp only [c1])
  · skip
    refine am_Ev_G [10] 400 _ ?_
    show ((∀ E, v_B_checkTrip h a2 = some E → P (.inr E) h) ∧ (v_B_checkTrip h a2 = none → am_Ev m_B_whyNot (WB ++ e1) (RO ++ e2) P (10, [.ref 38, .int a1, .int a2], [], h)))
    refine ⟨fun E c2 => ?_, fun c2 => ?_⟩
    · skip
      exact hP (.inl E) (by unfold v_B_whyNot; simp only [c1, c2])
    · skip
      refine am_Ev_G [19] 400 _ ?_
      show am_Ev m_B_whyNot (WB ++ e1) (RO ++ e2) P (19, [.ref 38, .int a1, .int a2], [.int (v_T_reasonAgainst h a1 a2)], h)
      refine am_Ev_G [] 400 _ ?_
      show P (.inl (some (.int (v_T_reasonAgainst h a1 a2)))) h
      exact hP (.inr (v_T_reasonAgainst h a1 a2)) (by unfold v_B_whyNot; simp only [c1, c2])
theorem ok_B_whyNot {l : Launch} (hl : l.stackTraces = false) (e1 e2 : List Sh) (k : Nat) : am_Ok l (WB ++ e1) (RO ++ e2) (d_B_whyNot k) := by
  refine am_met hl (own := RX5) (M := m_B_whyNot) rfl pf_B_whyNot cu_B_whyNot rfl rfl rfl rfl (fun _ => rfl) rfl ⟨chk_B_whyNot, (am_c (fl_B_10) am_n), (am_c (lk_B_107) (am_c (lk_B_134) am_n)), (am_n), (am_n)⟩ (am_n) (am_c (ok_B_checkTrip hl e1 _ 15) (am_c (ok_T_reasonAgainst hl (W21b ++ (WBb ++ e1)) _ 24) am_n)) ?_ (fun z => nomatch z) ?_
  · intro _ as h hg
    show g_pre (g_B_whyNot (WB ++ e1) (RO ++ e2) as h)
    unfold g_B_whyNot
    split <;> exact trivial
  · intro as h hg hp
    revert hg hp
    show g_ok (g_B_whyNot (WB ++ e1) (RO ++ e2) as h) = true → g_pre (g_B_whyNot (WB ++ e1) (RO ++ e2) as h) → _ ∧ am_Ev m_B_whyNot (WB ++ e1) (RO ++ e2) (am_eq (g_B_whyNot (WB ++ e1) (RO ++ e2) as h)) (0, am_ent as 3, [], h)
    unfold g_B_whyNot
    split
    · rename_i o1 a1 a2
      intro hc hp
      change (Nat.beq o1 38) = true at hc
      obtain rfl := am_beq hc
      exact ⟨Nat.le_of_ble_eq_true rfl, ev_B_whyNot h a1 a2 eqRIT⟩
    · exact fun z => nomatch z
def k_B_ifTrip (pc : Nat) : Ent := bif Nat.ble 33 pc then am_nop else bif Nat.ble 15 pc then (bif Nat.ble 24 pc then (bif Nat.ble 27 pc then (bif Nat.ble 29 pc then (bif Nat.ble 32 pc then (bif Nat.beq pc 32 then (.ireturn, 0, 0, []) else am_nop) else (bif Nat.beq pc 29 then (.invokevirtual 284, 0, 0, []) else am_nop)) else (bif Nat.beq pc 27 then (.iload 5, 0, 5, []) else am_nop)) else (bif Nat.ble 25 pc then (bif Nat.beq pc 25 then (.iload 4, 0, 4, []) else am_nop) else (bif Nat.beq pc 24 then (.iload_n 3, 0, 3, []) else am_nop))) else (bif Nat.ble 19 pc then (bif Nat.ble 22 pc then (bif Nat.ble 23 pc then (bif Nat.beq pc 23 then (.iload_n 2, 0, 2, []) else am_nop) else (bif Nat.beq pc 22 then (.iload_n 1, 0, 1, []) else am_nop)) else (bif Nat.beq pc 19 then (.getfield 24, 0, 0, []) else am_nop)) else (bif Nat.ble 18 pc then (bif Nat.beq pc 18 then (.aload_n 0, 0, 0, []) else am_nop) else (bif Nat.beq pc 15 then (.invokevirtual 209, 0, 0, []) else am_nop)))) else (bif Nat.ble 5 pc then (bif Nat.ble 10 pc then (bif Nat.ble 11 pc then (bif Nat.ble 14 pc then (bif Nat.beq pc 14 then (.iconst (-1), (-1 : Int32), 0, []) else am_nop) else (bif Nat.beq pc 11 then (.getfield 24, 0, 0, []) else am_nop)) else (bif Nat.beq pc 10 then (.aload_n 0, 0, 0, []) else am_nop)) else (bif Nat.ble 7 pc then (bif Nat.beq pc 7 then (.invokestatic 89, 0, 0, []) else am_nop) else (bif Nat.beq pc 5 then (.iload 5, 0, 5, []) else am_nop))) else (bif Nat.ble 2 pc then (bif Nat.ble 3 pc then (bif Nat.beq pc 3 then (.iload 4, 0, 4, []) else am_nop) else (bif Nat.beq pc 2 then (.iload_n 3, 0, 3, []) else am_nop)) else (bif Nat.ble 1 pc then (bif Nat.beq pc 1 then (.iload_n 2, 0, 2, []) else am_nop) else (bif Nat.beq pc 0 then (.iload_n 1, 0, 1, []) else am_nop))))
theorem lk_B_284 : am_lnk RX5 284 (d_D_fewestWith 20) := ⟨⟨by decide, by decide⟩, am_tb 3 (by decide +kernel) rfl, Or.inr ⟨by decide, rfl, am_tb 761 (by decide +kernel) rfl, am_tp 65 (by decide +kernel) rfl, ⟨TX0, 6, rfl⟩, Or.inr ⟨"BusBlocks", am_tb 759 (by decide +kernel) rfl⟩⟩⟩
def m_B_ifTrip : MI := (k_B_ifTrip, [(24, 5, 2)], [(89, d_B_checkJourney 0), (209, d_D_gather 20), (284, d_D_fewestWith 20)], [], [], [], [], 8, 140, some .int, fun _ => 0, 1)
def v_B_ifTrip (h : HP) (a1 : Int32) (a2 : Int32) (a3 : Int32) (a4 : Int32) (a5 : Int32) : String ⊕ (Int32 × HP) := (match v_B_checkJourney h a1 a2 a3 a4 a5 with | some E => (.inl E) | none => (bnd (v_D_gather h (-1 : Int32)) fun y1 => (bnd (v_D_fewestWith y1 a1 a2 a3 a4 a5) fun y2 => (.inr (y2.1, y2.2)))))
def p_B_ifTrip (h : HP) (a1 : Int32) (a2 : Int32) (a3 : Int32) (a4 : Int32) (a5 : Int32) : Prop := (v_B_checkJourney h a1 a2 a3 a4 a5 = none → ((p_D_gather h (-1 : Int32)) ∧ (∀ y1, v_D_gather h (-1 : Int32) = y1 → (p_D_fewestWith y1 a1 a2 a3 a4 a5))))
def g_B_ifTrip (_ _ : List Sh) (as : List Value) (h : HP) : GR := match as with
  | [.ref o1, .int a1, .int a2, .int a3, .int a4, .int a5] => (Nat.beq o1 38, p_B_ifTrip h a1 a2 a3 a4 a5, rthr (v_B_ifTrip h a1 a2 a3 a4 a5), rvIW (v_B_ifTrip h a1 a2 a3 a4 a5), rhpI h (v_B_ifTrip h a1 a2 a3 a4 a5))
  | _ => bad h
def d_B_ifTrip (k : Nat) : CD := (k, yX5_ifTrip, cX5_ifTrip, 6, some .int, 6, 8, 140, 0, true, true, g_B_ifTrip)
theorem chk_B_ifTrip : ∀ pc, am_chk cX5_ifTrip k_B_ifTrip pc = true := am_chkall 33 (by decide +kernel) (fun pc h => by unfold k_B_ifTrip; rw [Nat.ble_eq_true_of_le h]; rfl)
theorem pf_B_ifTrip : plainFor yX5_ifTrip = true := by decide +kernel
theorem cu_B_ifTrip : Cond.code yX5_ifTrip cX5_ifTrip 6 (some .int) ∈ am_U := am_tb 758 (by decide +kernel) rfl
set_option maxRecDepth 100000 in
theorem ev_B_ifTrip {e1 e2 : List Sh} {P : AR → HP → Prop} (h : HP) (a1 : Int32) (a2 : Int32) (a3 : Int32) (a4 : Int32) (a5 : Int32) (hp : p_B_ifTrip h a1 a2 a3 a4 a5) (hP : ∀ q, v_B_ifTrip h a1 a2 a3 a4 a5 = q → RIWT P h q) : am_Ev m_B_ifTrip (WB ++ e1) (RO ++ e2) P (0, [.ref 38, .int a1, .int a2, .int a3, .int a4, .int a5], [], h) := by
  unfold p_B_ifTrip at hp
  refine am_Ev_G [10] 400 _ ?_
  show ((∀ E, v_B_checkJourney h a1 a2 a3 a4 a5 = some E → P (.inr E) h) ∧ (v_B_checkJourney h a1 a2 a3 a4 a5 = none → am_Ev m_B_ifTrip (WB ++ e1) (RO ++ e2) P (10, [.ref 38, .int a1, .int a2, .int a3, .int a4, .int a5], [], h)))
  refine ⟨fun E c1 => ?_, fun c1 => ?_⟩
  · skip
    exact hP (.inl E) (by unfold v_B_ifTrip; simp only [c1])
  · have hp := hp c1
    refine am_Ev_G [18] 400 _ ?_
    show ((p_D_gather h (-1 : Int32)) ∧ am_Ev m_B_ifTrip (WB ++ e1) (RO ++ e2) P (18, [.ref 38, .int a1, .int a2, .int a3, .int a4, .int a5], [], (v_D_gather h (-1 : Int32))))
    obtain ⟨hob, hp⟩ := hp
    refine ⟨hob, ?_⟩
    obtain ⟨y1, c2⟩ : ∃ y, v_D_gather h (-1 : Int32) = y := ⟨_, rfl⟩
    rw [c2]
    have hp := hp _ c2
    show am_Ev m_B_ifTrip (WB ++ e1) (RO ++ e2) P (18, [.ref 38, .int a1, .int a2, .int a3, .int a4, .int a5], [], y1)
    refine am_Ev_G [32] 400 _ ?_
    show ((p_D_fewestWith y1 a1 a2 a3 a4 a5) ∧ am_Ev m_B_ifTrip (WB ++ e1) (RO ++ e2) P (32, [.ref 38, .int a1, .int a2, .int a3, .int a4, .int a5], [.int ((v_D_fewestWith y1 a1 a2 a3 a4 a5).1)], ((v_D_fewestWith y1 a1 a2 a3 a4 a5).2)))
    refine ⟨hp, ?_⟩
    obtain ⟨y2, c3⟩ : ∃ y, v_D_fewestWith y1 a1 a2 a3 a4 a5 = y := ⟨_, rfl⟩
    rw [c3]
    show am_Ev m_B_ifTrip (WB ++ e1) (RO ++ e2) P (32, [.ref 38, .int a1, .int a2, .int a3, .int a4, .int a5], [.int y2.1], y2.2)
    refine am_Ev_G [] 400 _ ?_
    show P (.inl (some (.int y2.1))) y2.2
    exact hP (.inr (y2.1, y2.2)) (by unfold v_B_ifTrip; simp only [c1, bnd, c2, bnd, c3])
theorem ok_B_ifTrip {l : Launch} (hl : l.stackTraces = false) (e1 e2 : List Sh) (k : Nat) : am_Ok l (WB ++ e1) (RO ++ e2) (d_B_ifTrip k) := by
  refine am_met hl (own := RX5) (M := m_B_ifTrip) rfl pf_B_ifTrip cu_B_ifTrip rfl rfl rfl rfl (fun _ => rfl) rfl ⟨chk_B_ifTrip, (am_c (fl_B_24) am_n), (am_c (lk_B_89) (am_c (lk_B_209) (am_c (lk_B_284) am_n))), (am_n), (am_n)⟩ (am_n) (am_c (ok_B_checkJourney hl e1 _ 0) (am_c (ok_D_gather hl (WBb ++ e1) _ 20) (am_c (ok_D_fewestWith hl (WBb ++ e1) _ 20) am_n))) (fun z => nomatch z) (fun z => nomatch z) ?_
  · intro as h hg hp
    revert hg hp
    show g_ok (g_B_ifTrip (WB ++ e1) (RO ++ e2) as h) = true → g_pre (g_B_ifTrip (WB ++ e1) (RO ++ e2) as h) → _ ∧ am_Ev m_B_ifTrip (WB ++ e1) (RO ++ e2) (am_eq (g_B_ifTrip (WB ++ e1) (RO ++ e2) as h)) (0, am_ent as 6, [], h)
    unfold g_B_ifTrip
    split
    · rename_i o1 a1 a2 a3 a4 a5
      intro hc hp
      change (Nat.beq o1 38) = true at hc
      obtain rfl := am_beq hc
      exact ⟨Nat.le_of_ble_eq_true rfl, ev_B_ifTrip h a1 a2 a3 a4 a5 hp eqRIWT⟩
    · exact fun z => nomatch z
def k_B_bestTime (pc : Nat) : Ent := bif Nat.ble 216 pc then am_nop else bif Nat.ble 111 pc then (bif Nat.ble 153 pc then (bif Nat.ble 184 pc then (bif Nat.ble 200 pc then (bif Nat.ble 207 pc then (bif Nat.ble 213 pc then (bif Nat.ble 215 pc then (bif Nat.beq pc 215 then (.ireturn, 0, 0, []) else am_nop) else (bif Nat.beq pc 213 then (.iload 8, 0, 8, []) else am_nop)) else (bif Nat.ble 210 pc then (bif Nat.beq pc 210 then (.goto (-96), 0, 114, []) else am_nop) else (bif Nat.beq pc 207 then (.iinc 10 1, 1, 10, []) else am_nop))) else (bif Nat.ble 202 pc then (bif Nat.ble 205 pc then (bif Nat.beq pc 205 then (.istore 9, 0, 9, []) else am_nop) else (bif Nat.beq pc 202 then (.invokestatic 290, 0, 0, []) else am_nop)) else (bif Nat.beq pc 200 then (.iload 12, 0, 12, []) else am_nop))) else (bif Nat.ble 191 pc then (bif Nat.ble 196 pc then (bif Nat.ble 198 pc then (bif Nat.beq pc 198 then (.iload 9, 0, 9, []) else am_nop) else (bif Nat.beq pc 196 then (.istore 8, 0, 8, []) else am_nop)) else (bif Nat.ble 194 pc then (bif Nat.beq pc 194 then (.iload 8, 0, 8, []) else am_nop) else (bif Nat.beq pc 191 then (.goto 5, 0, 196, []) else am_nop))) else (bif Nat.ble 186 pc then (bif Nat.ble 189 pc then (bif Nat.beq pc 189 then (.iload 11, 0, 11, []) else am_nop) else (bif Nat.beq pc 186 then (.if_icmp .ge 8, 0, 194, []) else am_nop)) else (bif Nat.beq pc 184 then (.iload 9, 0, 9, []) else am_nop)))) else (bif Nat.ble 169 pc then (bif Nat.ble 175 pc then (bif Nat.ble 180 pc then (bif Nat.ble 182 pc then (bif Nat.beq pc 182 then (.iload 12, 0, 12, []) else am_nop) else (bif Nat.beq pc 180 then (.istore 12, 0, 12, []) else am_nop)) else (bif Nat.ble 177 pc then (bif Nat.beq pc 177 then (.invokevirtual 284, 0, 0, []) else am_nop) else (bif Nat.beq pc 175 then (.iload 7, 0, 7, []) else am_nop))) else (bif Nat.ble 171 pc then (bif Nat.ble 173 pc then (bif Nat.beq pc 173 then (.iload 11, 0, 11, []) else am_nop) else (bif Nat.beq pc 171 then (.iload 5, 0, 5, []) else am_nop)) else (bif Nat.beq pc 169 then (.iload 4, 0, 4, []) else am_nop))) else (bif Nat.ble 161 pc then (bif Nat.ble 165 pc then (bif Nat.ble 168 pc then (bif Nat.beq pc 168 then (.iload_n 3, 0, 3, []) else am_nop) else (bif Nat.beq pc 165 then (.getfield 24, 0, 0, []) else am_nop)) else (bif Nat.ble 164 pc then (bif Nat.beq pc 164 then (.aload_n 0, 0, 0, []) else am_nop) else (bif Nat.beq pc 161 then (.if_icmp .gt 46, 0, 207, []) else am_nop))) else (bif Nat.ble 156 pc then (bif Nat.ble 158 pc then (bif Nat.beq pc 158 then (.sipush 1439, 1439, 0, []) else am_nop) else (bif Nat.beq pc 156 then (.iload 11, 0, 11, []) else am_nop)) else (bif Nat.beq pc 153 then (.ifCond .lt 54, 0, 207, []) else am_nop))))) else (bif Nat.ble 132 pc then (bif Nat.ble 142 pc then (bif Nat.ble 147 pc then (bif Nat.ble 149 pc then (bif Nat.ble 151 pc then (bif Nat.beq pc 151 then (.iload 11, 0, 11, []) else am_nop) else (bif Nat.beq pc 149 then (.istore 11, 0, 11, []) else am_nop)) else (bif Nat.ble 148 pc then (bif Nat.beq pc 148 then (.iadd, 0, 0, []) else am_nop) else (bif Nat.beq pc 147 then (.idiv, 0, 0, []) else am_nop))) else (bif Nat.ble 144 pc then (bif Nat.ble 146 pc then (bif Nat.beq pc 146 then (.iconst 2, 2, 0, []) else am_nop) else (bif Nat.beq pc 144 then (.iload 10, 0, 10, []) else am_nop)) else (bif Nat.beq pc 142 then (.iload 6, 0, 6, []) else am_nop))) else (bif Nat.ble 136 pc then (bif Nat.ble 138 pc then (bif Nat.ble 139 pc then (bif Nat.beq pc 139 then (.goto 10, 0, 149, []) else am_nop) else (bif Nat.beq pc 138 then (.isub, 0, 0, []) else am_nop)) else (bif Nat.ble 137 pc then (bif Nat.beq pc 137 then (.idiv, 0, 0, []) else am_nop) else (bif Nat.beq pc 136 then (.iconst 2, 2, 0, []) else am_nop))) else (bif Nat.ble 134 pc then (bif Nat.ble 135 pc then (bif Nat.beq pc 135 then (.iadd, 0, 0, []) else am_nop) else (bif Nat.beq pc 134 then (.iconst 1, 1, 0, []) else am_nop)) else (bif Nat.beq pc 132 then (.iload 10, 0, 10, []) else am_nop)))) else (bif Nat.ble 119 pc then (bif Nat.ble 125 pc then (bif Nat.ble 127 pc then (bif Nat.ble 130 pc then (bif Nat.beq pc 130 then (.iload 6, 0, 6, []) else am_nop) else (bif Nat.beq pc 127 then (.if_icmp .ne 15, 0, 142, []) else am_nop)) else (bif Nat.ble 126 pc then (bif Nat.beq pc 126 then (.iconst 1, 1, 0, []) else am_nop) else (bif Nat.beq pc 125 then (.irem, 0, 0, []) else am_nop))) else (bif Nat.ble 122 pc then (bif Nat.ble 124 pc then (bif Nat.beq pc 124 then (.iconst 2, 2, 0, []) else am_nop) else (bif Nat.beq pc 122 then (.iload 10, 0, 10, []) else am_nop)) else (bif Nat.beq pc 119 then (.if_icmp .gt 94, 0, 213, []) else am_nop))) else (bif Nat.ble 116 pc then (bif Nat.ble 117 pc then (bif Nat.ble 118 pc then (bif Nat.beq pc 118 then (.imul, 0, 0, []) else am_nop) else (bif Nat.beq pc 117 then (.iload_n 2, 0, 2, []) else am_nop)) else (bif Nat.beq pc 116 then (.iconst 2, 2, 0, []) else am_nop)) else (bif Nat.ble 112 pc then (bif Nat.ble 114 pc then (bif Nat.beq pc 114 then (.iload 10, 0, 10, []) else am_nop) else (bif Nat.beq pc 112 then (.istore 10, 0, 10, []) else am_nop)) else (bif Nat.beq pc 111 then (.iconst 1, 1, 0, []) else am_nop)))))) else (bif Nat.ble 51 pc then (bif Nat.ble 83 pc then (bif Nat.ble 97 pc then (bif Nat.ble 102 pc then (bif Nat.ble 106 pc then (bif Nat.ble 109 pc then (bif Nat.beq pc 109 then (.istore 9, 0, 9, []) else am_nop) else (bif Nat.beq pc 106 then (.invokevirtual 284, 0, 0, []) else am_nop)) else (bif Nat.ble 104 pc then (bif Nat.beq pc 104 then (.iload 7, 0, 7, []) else am_nop) else (bif Nat.beq pc 102 then (.iload 6, 0, 6, []) else am_nop))) else (bif Nat.ble 98 pc then (bif Nat.ble 100 pc then (bif Nat.beq pc 100 then (.iload 5, 0, 5, []) else am_nop) else (bif Nat.beq pc 98 then (.iload 4, 0, 4, []) else am_nop)) else (bif Nat.beq pc 97 then (.iload_n 3, 0, 3, []) else am_nop))) else (bif Nat.ble 89 pc then (bif Nat.ble 93 pc then (bif Nat.ble 94 pc then (bif Nat.beq pc 94 then (.getfield 24, 0, 0, []) else am_nop) else (bif Nat.beq pc 93 then (.aload_n 0, 0, 0, []) else am_nop)) else (bif Nat.ble 91 pc then (bif Nat.beq pc 91 then (.istore 8, 0, 8, []) else am_nop) else (bif Nat.beq pc 89 then (.iload 6, 0, 6, []) else am_nop))) else (bif Nat.ble 84 pc then (bif Nat.ble 87 pc then (bif Nat.beq pc 87 then (.istore 7, 0, 7, []) else am_nop) else (bif Nat.beq pc 84 then (.invokestatic 78, 0, 0, []) else am_nop)) else (bif Nat.beq pc 83 then (.iload_n 1, 0, 1, []) else am_nop)))) else (bif Nat.ble 67 pc then (bif Nat.ble 74 pc then (bif Nat.ble 77 pc then (bif Nat.ble 80 pc then (bif Nat.beq pc 80 then (.getfield 287, 0, 0, []) else am_nop) else (bif Nat.beq pc 77 then (.getfield 10, 0, 0, []) else am_nop)) else (bif Nat.ble 76 pc then (bif Nat.beq pc 76 then (.aload_n 0, 0, 0, []) else am_nop) else (bif Nat.beq pc 74 then (.istore 6, 0, 6, []) else am_nop))) else (bif Nat.ble 70 pc then (bif Nat.ble 71 pc then (bif Nat.beq pc 71 then (.invokestatic 78, 0, 0, []) else am_nop) else (bif Nat.beq pc 70 then (.iload_n 1, 0, 1, []) else am_nop)) else (bif Nat.beq pc 67 then (.getfield 113, 0, 0, []) else am_nop))) else (bif Nat.ble 58 pc then (bif Nat.ble 63 pc then (bif Nat.ble 64 pc then (bif Nat.beq pc 64 then (.getfield 10, 0, 0, []) else am_nop) else (bif Nat.beq pc 63 then (.aload_n 0, 0, 0, []) else am_nop)) else (bif Nat.ble 61 pc then (bif Nat.beq pc 61 then (.istore 5, 0, 5, []) else am_nop) else (bif Nat.beq pc 58 then (.invokestatic 78, 0, 0, []) else am_nop))) else (bif Nat.ble 54 pc then (bif Nat.ble 57 pc then (bif Nat.beq pc 57 then (.iload_n 1, 0, 1, []) else am_nop) else (bif Nat.beq pc 54 then (.getfield 206, 0, 0, []) else am_nop)) else (bif Nat.beq pc 51 then (.getfield 10, 0, 0, []) else am_nop))))) else (bif Nat.ble 22 pc then (bif Nat.ble 37 pc then (bif Nat.ble 44 pc then (bif Nat.ble 48 pc then (bif Nat.ble 50 pc then (bif Nat.beq pc 50 then (.aload_n 0, 0, 0, []) else am_nop) else (bif Nat.beq pc 48 then (.istore 4, 0, 4, []) else am_nop)) else (bif Nat.ble 45 pc then (bif Nat.beq pc 45 then (.invokestatic 78, 0, 0, []) else am_nop) else (bif Nat.beq pc 44 then (.iload_n 1, 0, 1, []) else am_nop))) else (bif Nat.ble 38 pc then (bif Nat.ble 41 pc then (bif Nat.beq pc 41 then (.getfield 200, 0, 0, []) else am_nop) else (bif Nat.beq pc 38 then (.getfield 10, 0, 0, []) else am_nop)) else (bif Nat.beq pc 37 then (.aload_n 0, 0, 0, []) else am_nop))) else (bif Nat.ble 29 pc then (bif Nat.ble 33 pc then (bif Nat.ble 36 pc then (bif Nat.beq pc 36 then (.istore_n 3, 0, 3, []) else am_nop) else (bif Nat.beq pc 33 then (.invokestatic 78, 0, 0, []) else am_nop)) else (bif Nat.ble 32 pc then (bif Nat.beq pc 32 then (.iload_n 1, 0, 1, []) else am_nop) else (bif Nat.beq pc 29 then (.getfield 218, 0, 0, []) else am_nop))) else (bif Nat.ble 25 pc then (bif Nat.ble 26 pc then (bif Nat.beq pc 26 then (.getfield 10, 0, 0, []) else am_nop) else (bif Nat.beq pc 25 then (.aload_n 0, 0, 0, []) else am_nop)) else (bif Nat.beq pc 22 then (.invokevirtual 209, 0, 0, []) else am_nop)))) else (bif Nat.ble 9 pc then (bif Nat.ble 14 pc then (bif Nat.ble 18 pc then (bif Nat.ble 21 pc then (bif Nat.beq pc 21 then (.iload_n 1, 0, 1, []) else am_nop) else (bif Nat.beq pc 18 then (.getfield 24, 0, 0, []) else am_nop)) else (bif Nat.ble 17 pc then (bif Nat.beq pc 17 then (.aload_n 0, 0, 0, []) else am_nop) else (bif Nat.beq pc 14 then (.invokevirtual 110, 0, 0, []) else am_nop))) else (bif Nat.ble 12 pc then (bif Nat.ble 13 pc then (bif Nat.beq pc 13 then (.iload_n 1, 0, 1, []) else am_nop) else (bif Nat.beq pc 12 then (.aload_n 0, 0, 0, []) else am_nop)) else (bif Nat.beq pc 9 then (.invokestatic 68, 0, 0, []) else am_nop))) else (bif Nat.ble 5 pc then (bif Nat.ble 6 pc then (bif Nat.ble 7 pc then (bif Nat.beq pc 7 then (.bipush 120, 120, 0, []) else am_nop) else (bif Nat.beq pc 6 then (.iconst 0, 0, 0, []) else am_nop)) else (bif Nat.beq pc 5 then (.iload_n 2, 0, 2, []) else am_nop)) else (bif Nat.ble 1 pc then (bif Nat.ble 2 pc then (bif Nat.beq pc 2 then (.invokevirtual 107, 0, 0, []) else am_nop) else (bif Nat.beq pc 1 then (.iload_n 1, 0, 1, []) else am_nop)) else (bif Nat.beq pc 0 then (.aload_n 0, 0, 0, []) else am_nop))))))
theorem fl_B_287 : am_fok RX5 287 (4, 4) := ⟨RX4, TX4, 15, rfl, by decide, rfl, Or.inr ⟨"BusBlocks", am_tb 58 (by decide +kernel) rfl⟩⟩
theorem lk_B_290 : am_lnk RX5 290 (d_J_min 0) := ⟨⟨by decide, by decide⟩, am_tb 7 (by decide +kernel) rfl, Or.inl ⟨by decide, rfl, am_tb 332 (by decide +kernel) rfl, Or.inl ⟨by decide, am_tb 331 (by decide +kernel) rfl⟩⟩⟩
def m_B_bestTime : MI := (k_B_bestTime, [(10, 5, 0), (24, 5, 2), (113, 4, 3), (200, 4, 1), (206, 4, 2), (218, 4, 0), (287, 4, 4)], [(68, d_B_checkRange 0), (78, d_B_at 0), (107, d_B_checkTrip 15), (110, d_B_checkRun 15), (209, d_D_gather 20), (284, d_D_fewestWith 20), (290, d_J_min 0)], [], [], [], [], 7, 114, some .int, fun _ => 0, 1)
def s_B_bestTime_114 (h : HP) (a1 : Int32) (a2 : Int32) (y1 : HP) (y2 : Int32 × HP) (v1 : Int32 × Int32 × Int32 × HP) : (Int32 × Int32 × Int32 × HP) ⊕ (Int32 × Int32 × Int32 × HP) := (if v1.2.2.1 ≤ (2 * a2) then (if ((if (v1.2.2.1 - v1.2.2.1 / 2 * 2) = 1 then ((v_at 20 (y1.1 4) a1) - ((v1.2.2.1 + 1) / 2)) else ((v_at 20 (y1.1 4) a1) + (v1.2.2.1 / 2))) : Int32) < 0 then (.inl (v1.1, v1.2.1, (v1.2.2.1 + 1), v1.2.2.2)) else (if ((if (v1.2.2.1 - v1.2.2.1 / 2 * 2) = 1 then ((v_at 20 (y1.1 4) a1) - ((v1.2.2.1 + 1) / 2)) else ((v_at 20 (y1.1 4) a1) + (v1.2.2.1 / 2))) : Int32) ≤ 1439 then (bnd (v_D_fewestWith v1.2.2.2 (v_at 20 (y1.1 1) a1) (v_at 20 (y1.1 2) a1) (v_at 20 (y1.1 3) a1) (if (v1.2.2.1 - v1.2.2.1 / 2 * 2) = 1 then ((v_at 20 (y1.1 4) a1) - ((v1.2.2.1 + 1) / 2)) else ((v_at 20 (y1.1 4) a1) + (v1.2.2.1 / 2))) (v_at 20 (y1.1 5) a1)) fun y4 => (.inl ((if y4.1 < v1.2.1 then (if (v1.2.2.1 - v1.2.2.1 / 2 * 2) = 1 then ((v_at 20 (y1.1 4) a1) - ((v1.2.2.1 + 1) / 2)) else ((v_at 20 (y1.1 4) a1) + (v1.2.2.1 / 2))) else v1.1), (v_min v1.2.1 y4.1), (v1.2.2.1 + 1), y4.2))) else (.inl (v1.1, v1.2.1, (v1.2.2.1 + 1), v1.2.2.2)))) else (.inr (v1.1, v1.2.1, v1.2.2.1, v1.2.2.2)))
def ps_B_bestTime_114 (h : HP) (a1 : Int32) (a2 : Int32) (y1 : HP) (y2 : Int32 × HP) (v1 : Int32 × Int32 × Int32 × HP) : Prop := ((v1.2.2.1 ≤ (2 * a2) → ((((if (v1.2.2.1 - v1.2.2.1 / 2 * 2) = 1 then ((v_at 20 (y1.1 4) a1) - ((v1.2.2.1 + 1) / 2)) else ((v_at 20 (y1.1 4) a1) + (v1.2.2.1 / 2))) : Int32) < 0 → True) ∧ (¬ ((if (v1.2.2.1 - v1.2.2.1 / 2 * 2) = 1 then ((v_at 20 (y1.1 4) a1) - ((v1.2.2.1 + 1) / 2)) else ((v_at 20 (y1.1 4) a1) + (v1.2.2.1 / 2))) : Int32) < 0 → ((((if (v1.2.2.1 - v1.2.2.1 / 2 * 2) = 1 then ((v_at 20 (y1.1 4) a1) - ((v1.2.2.1 + 1) / 2)) else ((v_at 20 (y1.1 4) a1) + (v1.2.2.1 / 2))) : Int32) ≤ 1439 → (p_D_fewestWith v1.2.2.2 (v_at 20 (y1.1 1) a1) (v_at 20 (y1.1 2) a1) (v_at 20 (y1.1 3) a1) (if (v1.2.2.1 - v1.2.2.1 / 2 * 2) = 1 then ((v_at 20 (y1.1 4) a1) - ((v1.2.2.1 + 1) / 2)) else ((v_at 20 (y1.1 4) a1) + (v1.2.2.1 / 2))) (v_at 20 (y1.1 5) a1))) ∧ (¬ ((if (v1.2.2.1 - v1.2.2.1 / 2 * 2) = 1 then ((v_at 20 (y1.1 4) a1) - ((v1.2.2.1 + 1) / 2)) else ((v_at 20 (y1.1 4) a1) + (v1.2.2.1 / 2))) : Int32) ≤ 1439 → True))))) ∧ (¬ v1.2.2.1 ≤ (2 * a2) → True))
def v_B_bestTime (h : HP) (a1 : Int32) (a2 : Int32) : String ⊕ (Int32 × HP) := (match v_B_checkTrip h a1 with | some E => (.inl E) | none => (match v_B_checkRange h a2 0 120 with | some E => (.inl E) | none => (match v_B_checkRun h a1 with | some E => (.inl E) | none => (bnd (v_D_gather h a1) fun y1 => (bnd (v_D_fewestWith y1 (v_at 20 (y1.1 1) a1) (v_at 20 (y1.1 2) a1) (v_at 20 (y1.1 3) a1) (v_at 20 (y1.1 4) a1) (v_at 20 (y1.1 5) a1)) fun y2 => (match itr (s_B_bestTime_114 h a1 a2 y1 y2) NF ((v_at 20 (y1.1 4) a1), y2.1, 1, y2.2) with | some r3 => (.inr (r3.1, r3.2.2.2)) | none => .inr (0, h)))))))
def p_B_bestTime (h : HP) (a1 : Int32) (a2 : Int32) : Prop := (v_B_checkTrip h a1 = none → (v_B_checkRange h a2 0 120 = none → (v_B_checkRun h a1 = none → ((p_D_gather h a1) ∧ (∀ y1, v_D_gather h a1 = y1 → ((p_D_fewestWith y1 (v_at 20 (y1.1 1) a1) (v_at 20 (y1.1 2) a1) (v_at 20 (y1.1 3) a1) (v_at 20 (y1.1 4) a1) (v_at 20 (y1.1 5) a1)) ∧ (∀ y2, v_D_fewestWith y1 (v_at 20 (y1.1 1) a1) (v_at 20 (y1.1 2) a1) (v_at 20 (y1.1 3) a1) (v_at 20 (y1.1 4) a1) (v_at 20 (y1.1 5) a1) = y2 → (itrp (s_B_bestTime_114 h a1 a2 y1 y2) (ps_B_bestTime_114 h a1 a2 y1 y2) NF ((v_at 20 (y1.1 4) a1), y2.1, 1, y2.2)))))))))
def g_B_bestTime (_ _ : List Sh) (as : List Value) (h : HP) : GR := match as with
  | [.ref o1, .int a1, .int a2] => (Nat.beq o1 38, p_B_bestTime h a1 a2, rthr (v_B_bestTime h a1 a2), rvIW (v_B_bestTime h a1 a2), rhpI h (v_B_bestTime h a1 a2))
  | _ => bad h
def d_B_bestTime (k : Nat) : CD := (k, yX5_bestTime, cX5_bestTime, 13, some .int, 3, 7, 114, 0, true, true, g_B_bestTime)
theorem chk_B_bestTime : ∀ pc, am_chk cX5_bestTime k_B_bestTime pc = true := am_chkall 216 (by decide +kernel) (fun pc h => by unfold k_B_bestTime; rw [Nat.ble_eq_true_of_le h]; rfl)
theorem pf_B_bestTime : plainFor yX5_bestTime = true := by decide +kernel
theorem cu_B_bestTime : Cond.code yX5_bestTime cX5_bestTime 13 (some .int) ∈ am_U := am_tb 766 (by decide +kernel) rfl
set_option maxHeartbeats 20000000 in
set_option maxRecDepth 100000 in
theorem ev_B_bestTime {e1 e2 : List Sh} {P : AR → HP → Prop} (h : HP) (a1 : Int32) (a2 : Int32) (hp : p_B_bestTime h a1 a2) (hP : ∀ q, v_B_bestTime h a1 a2 = q → RIWT P h q) : am_Ev m_B_bestTime (WB ++ e1) (RO ++ e2) P (0, [.ref 38, .int a1, .int a2, .retAddr 0, .retAddr 0, .retAddr 0, .retAddr 0, .retAddr 0, .retAddr 0, .retAddr 0, .retAddr 0, .retAddr 0, .retAddr 0], [], h) := by
  unfold p_B_bestTime at hp
  refine am_Ev_G [5] 400 _ ?_
  show ((∀ E, v_B_checkTrip h a1 = some E → P (.inr E) h) ∧ (v_B_checkTrip h a1 = none → am_Ev m_B_bestTime (WB ++ e1) (RO ++ e2) P (5, [.ref 38, .int a1, .int a2, .retAddr 0, .retAddr 0, .retAddr 0, .retAddr 0, .retAddr 0, .retAddr 0, .retAddr 0, .retAddr 0, .retAddr 0, .retAddr 0], [], h)))
  refine ⟨fun E c1 => ?_, fun c1 => ?_⟩
  · skip
    exact hP (.inl E) (by unfold v_B_bestTime; simp only [c1])
  · have hp := hp c1
    refine am_Ev_G [12] 400 _ ?_
    show ((∀ E, v_B_checkRange h a2 0 120 = some E → P (.inr E) h) ∧ (v_B_checkRange h a2 0 120 = none → am_Ev m_B_bestTime (WB ++ e1) (RO ++ e2) P (12, [.ref 38, .int a1, .int a2, .retAddr 0, .retAddr 0, .retAddr 0, .retAddr 0, .retAddr 0, .retAddr 0, .retAddr 0, .retAddr 0, .retAddr 0, .retAddr 0], [], h)))
    refine ⟨fun E c2 => ?_, fun c2 => ?_⟩
    · skip
      exact hP (.inl E) (by unfold v_B_bestTime; simp only [c1, c2])
    · have hp := hp c2
      refine am_Ev_G [17] 400 _ ?_
      show ((∀ E, v_B_checkRun h a1 = some E → P (.inr E) h) ∧ (v_B_checkRun h a1 = none → am_Ev m_B_bestTime (WB ++ e1) (RO ++ e2) P (17, [.ref 38, .int a1, .int a2, .retAddr 0, .retAddr 0, .retAddr 0, .retAddr 0, .retAddr 0, .retAddr 0, .retAddr 0, .retAddr 0, .retAddr 0, .retAddr 0], [], h)))
      refine ⟨fun E c3 => ?_, fun c3 => ?_⟩
      · skip
        exact hP (.inl E) (by unfold v_B_bestTime; simp only [c1, c2, c3])
      · have hp := hp c3
        refine am_Ev_G [25] 400 _ ?_
        show ((p_D_gather h a1) ∧ am_Ev m_B_bestTime (WB ++ e1) (RO ++ e2) P (25, [.ref 38, .int a1, .int a2, .retAddr 0, .retAddr 0, .retAddr 0, .retAddr 0, .retAddr 0, .retAddr 0, .retAddr 0, .retAddr 0, .retAddr 0, .retAddr 0], [], (v_D_gather h a1)))
        obtain ⟨hob, hp⟩ := hp
        refine ⟨hob, ?_⟩
        obtain ⟨y1, c4⟩ : ∃ y, v_D_gather h a1 = y := ⟨_, rfl⟩
        rw [c4]
        have hp := hp _ c4
        show am_Ev m_B_bestTime (WB ++ e1) (RO ++ e2) P (25, [.ref 38, .int a1, .int a2, .retAddr 0, .retAddr 0, .retAddr 0, .retAddr 0, .retAddr 0, .retAddr 0, .retAddr 0, .retAddr 0, .retAddr 0, .retAddr 0], [], y1)
        refine am_Ev_G [36] 400 _ ?_
        show am_Ev m_B_bestTime (WB ++ e1) (RO ++ e2) P (36, [.ref 38, .int a1, .int a2, .retAddr 0, .retAddr 0, .retAddr 0, .retAddr 0, .retAddr 0, .retAddr 0, .retAddr 0, .retAddr 0, .retAddr 0, .retAddr 0], [.int (v_at 20 (y1.1 1) a1)], y1)
        refine am_Ev_G [61] 400 _ ?_
        show am_Ev m_B_bestTime (WB ++ e1) (RO ++ e2) P (61, [.ref 38, .int a1, .int a2, .int (v_at 20 (y1.1 1) a1), .int (v_at 20 (y1.1 2) a1), .retAddr 0, .retAddr 0, .retAddr 0, .retAddr 0, .retAddr 0, .retAddr 0, .retAddr 0, .retAddr 0], [.int (v_at 20 (y1.1 3) a1)], y1)
        refine am_Ev_G [87] 400 _ ?_
        show am_Ev m_B_bestTime (WB ++ e1) (RO ++ e2) P (87, [.ref 38, .int a1, .int a2, .int (v_at 20 (y1.1 1) a1), .int (v_at 20 (y1.1 2) a1), .int (v_at 20 (y1.1 3) a1), .int (v_at 20 (y1.1 4) a1), .retAddr 0, .retAddr 0, .retAddr 0, .retAddr 0, .retAddr 0, .retAddr 0], [.int (v_at 20 (y1.1 5) a1)], y1)
        refine am_Ev_G [109] 400 _ ?_
        show ((p_D_fewestWith y1 (v_at 20 (y1.1 1) a1) (v_at 20 (y1.1 2) a1) (v_at 20 (y1.1 3) a1) (v_at 20 (y1.1 4) a1) (v_at 20 (y1.1 5) a1)) ∧ am_Ev m_B_bestTime (WB ++ e1) (RO ++ e2) P (109, [.ref 38, .int a1, .int a2, .int (v_at 20 (y1.1 1) a1), .int (v_at 20 (y1.1 2) a1), .int (v_at 20 (y1.1 3) a1), .int (v_at 20 (y1.1 4) a1), .int (v_at 20 (y1.1 5) a1), .int (v_at 20 (y1.1 4) a1), .retAddr 0, .retAddr 0, .retAddr 0, .retAddr 0], [.int ((v_D_fewestWith y1 (v_at 20 (y1.1 1) a1) (v_at 20 (y1.1 2) a1) (v_at 20 (y1.1 3) a1) (v_at 20 (y1.1 4) a1) (v_at 20 (y1.1 5) a1)).1)], ((v_D_fewestWith y1 (v_at 20 (y1.1 1) a1) (v_at 20 (y1.1 2) a1) (v_at 20 (y1.1 3) a1) (v_at 20 (y1.1 4) a1) (v_at 20 (y1.1 5) a1)).2)))
        obtain ⟨hob, hp⟩ := hp
        refine ⟨hob, ?_⟩
        obtain ⟨y2, c5⟩ : ∃ y, v_D_fewestWith y1 (v_at 20 (y1.1 1) a1) (v_at 20 (y1.1 2) a1) (v_at 20 (y1.1 3) a1) (v_at 20 (y1.1 4) a1) (v_at 20 (y1.1 5) a1) = y := ⟨_, rfl⟩
        rw [c5]
        have hp := hp _ c5
        show am_Ev m_B_bestTime (WB ++ e1) (RO ++ e2) P (109, [.ref 38, .int a1, .int a2, .int (v_at 20 (y1.1 1) a1), .int (v_at 20 (y1.1 2) a1), .int (v_at 20 (y1.1 3) a1), .int (v_at 20 (y1.1 4) a1), .int (v_at 20 (y1.1 5) a1), .int (v_at 20 (y1.1 4) a1), .retAddr 0, .retAddr 0, .retAddr 0, .retAddr 0], [.int y2.1], y2.2)
        refine am_Ev_G [114] 400 _ ?_
        show am_Ev m_B_bestTime (WB ++ e1) (RO ++ e2) P (114, [.ref 38, .int a1, .int a2, .int (v_at 20 (y1.1 1) a1), .int (v_at 20 (y1.1 2) a1), .int (v_at 20 (y1.1 3) a1), .int (v_at 20 (y1.1 4) a1), .int (v_at 20 (y1.1 5) a1), .int (v_at 20 (y1.1 4) a1), .int y2.1, .int 1, .retAddr 0, .retAddr 0], [], y2.2)
        refine am_fg 1 ?_
        have hpl := hp
        refine am_itr (E := (fun (v1 : Int32 × Int32 × Int32 × HP) => am_Ev m_B_bestTime (WB ++ e1) (RO ++ e2) P (114, [.ref 38, .retAddr 0, .int a2, .int (v_at 20 (y1.1 1) a1), .int (v_at 20 (y1.1 2) a1), .int (v_at 20 (y1.1 3) a1), .int (v_at 20 (y1.1 4) a1), .int (v_at 20 (y1.1 5) a1), .int v1.1, .int v1.2.1, .int v1.2.2.1, .retAddr 0, .retAddr 0], [], v1.2.2.2))) (E' := (fun (r3 : Int32 × Int32 × Int32 × HP) => am_Ev m_B_bestTime (WB ++ e1) (RO ++ e2) P (213, [.ref 38, .retAddr 0, .int a2, .int (v_at 20 (y1.1 1) a1), .int (v_at 20 (y1.1 2) a1), .int (v_at 20 (y1.1 3) a1), .int (v_at 20 (y1.1 4) a1), .int (v_at 20 (y1.1 5) a1), .int r3.1, .int r3.2.1, .int r3.2.2.1, .retAddr 0, .retAddr 0], [], r3.2.2.2))) (s_B_bestTime_114 h a1 a2 y1 y2) (ps_B_bestTime_114 h a1 a2 y1 y2) ?_ NF ((v_at 20 (y1.1 4) a1), y2.1, 1, y2.2) hpl ?_
        · intro v1 hp hc1 hx1
          show am_Ev m_B_bestTime (WB ++ e1) (RO ++ e2) P (114, [.ref 38, .retAddr 0, .int a2, .int (v_at 20 (y1.1 1) a1), .int (v_at 20 (y1.1 2) a1), .int (v_at 20 (y1.1 3) a1), .int (v_at 20 (y1.1 4) a1), .int (v_at 20 (y1.1 5) a1), .int v1.1, .int v1.2.1, .int v1.2.2.1, .retAddr 0, .retAddr 0], [], v1.2.2.2)
          unfold ps_B_bestTime_114 at hp
          refine am_Ev_G [127, 213] 400 _ ?_
          show ((¬ v1.2.2.1 ≤ (2 * a2) → am_Ev m_B_bestTime (WB ++ e1) (RO ++ e2) P (213, [.ref 38, .retAddr 0, .int a2, .int (v_at 20 (y1.1 1) a1), .int (v_at 20 (y1.1 2) a1), .int (v_at 20 (y1.1 3) a1), .int (v_at 20 (y1.1 4) a1), .int (v_at 20 (y1.1 5) a1), .int v1.1, .int v1.2.1, .int v1.2.2.1, .retAddr 0, .retAddr 0], [], v1.2.2.2)) ∧ (v1.2.2.1 ≤ (2 * a2) → ((¬ 2 = 0) ∧ am_Ev m_B_bestTime (WB ++ e1) (RO ++ e2) P (127, [.ref 38, .retAddr 0, .int a2, .int (v_at 20 (y1.1 1) a1), .int (v_at 20 (y1.1 2) a1), .int (v_at 20 (y1.1 3) a1), .int (v_at 20 (y1.1 4) a1), .int (v_at 20 (y1.1 5) a1), .int v1.1, .int v1.2.1, .int v1.2.2.1, .retAddr 0, .retAddr 0], [.int 1, .int (v1.2.2.1 - v1.2.2.1 / 2 * 2)], v1.2.2.2))))
          refine ⟨fun c6 => ?_, fun c6 => ?_⟩
          · skip
            exact hx1 (v1.1, v1.2.1, v1.2.2.1, v1.2.2.2) (by unfold s_B_bestTime_114; simp only [if_neg c6])
          · have hp := hp.1 c6
            refine ⟨(by decide), ?_⟩
            have key7 : am_Ev m_B_bestTime (WB ++ e1) (RO ++ e2) P (149, [.ref 38, .retAddr 0, .int a2, .int (v_at 20 (y1.1 1) a1), .int (v_at 20 (y1.1 2) a1), .int (v_at 20 (y1.1 3) a1), .int (v_at 20 (y1.1 4) a1), .int (v_at 20 (y1.1 5) a1), .int v1.1, .int v1.2.1, .int v1.2.2.1, .retAddr 0, .retAddr 0], [.int (if (v1.2.2.1 - v1.2.2.1 / 2 * 2) = 1 then ((v_at 20 (y1.1 4) a1) - ((v1.2.2.1 + 1) / 2)) else ((v_at 20 (y1.1 4) a1) + (v1.2.2.1 / 2)))], v1.2.2.2) := by
              refine am_Ev_G [114, 164] 400 _ ?_
              show ((((if (v1.2.2.1 - v1.2.2.1 / 2 * 2) = 1 then ((v_at 20 (y1.1 4) a1) - ((v1.2.2.1 + 1) / 2)) else ((v_at 20 (y1.1 4) a1) + (v1.2.2.1 / 2))) : Int32) < 0 → am_Ev m_B_bestTime (WB ++ e1) (RO ++ e2) P (114, [.ref 38, .retAddr 0, .int a2, .int (v_at 20 (y1.1 1) a1), .int (v_at 20 (y1.1 2) a1), .int (v_at 20 (y1.1 3) a1), .int (v_at 20 (y1.1 4) a1), .int (v_at 20 (y1.1 5) a1), .int v1.1, .int v1.2.1, .int (v1.2.2.1 + 1), .int (if (v1.2.2.1 - v1.2.2.1 / 2 * 2) = 1 then ((v_at 20 (y1.1 4) a1) - ((v1.2.2.1 + 1) / 2)) else ((v_at 20 (y1.1 4) a1) + (v1.2.2.1 / 2))), .retAddr 0], [], v1.2.2.2)) ∧ (¬ ((if (v1.2.2.1 - v1.2.2.1 / 2 * 2) = 1 then ((v_at 20 (y1.1 4) a1) - ((v1.2.2.1 + 1) / 2)) else ((v_at 20 (y1.1 4) a1) + (v1.2.2.1 / 2))) : Int32) < 0 → ((¬ ((if (v1.2.2.1 - v1.2.2.1 / 2 * 2) = 1 then ((v_at 20 (y1.1 4) a1) - ((v1.2.2.1 + 1) / 2)) else ((v_at 20 (y1.1 4) a1) + (v1.2.2.1 / 2))) : Int32) ≤ 1439 → am_Ev m_B_bestTime (WB ++ e1) (RO ++ e2) P (114, [.ref 38, .retAddr 0, .int a2, .int (v_at 20 (y1.1 1) a1), .int (v_at 20 (y1.1 2) a1), .int (v_at 20 (y1.1 3) a1), .int (v_at 20 (y1.1 4) a1), .int (v_at 20 (y1.1 5) a1), .int v1.1, .int v1.2.1, .int (v1.2.2.1 + 1), .int (if (v1.2.2.1 - v1.2.2.1 / 2 * 2) = 1 then ((v_at 20 (y1.1 4) a1) - ((v1.2.2.1 + 1) / 2)) else ((v_at 20 (y1.1 4) a1) + (v1.2.2.1 / 2))), .retAddr 0], [], v1.2.2.2)) ∧ (((if (v1.2.2.1 - v1.2.2.1 / 2 * 2) = 1 then ((v_at 20 (y1.1 4) a1) - ((v1.2.2.1 + 1) / 2)) else ((v_at 20 (y1.1 4) a1) + (v1.2.2.1 / 2))) : Int32) ≤ 1439 → am_Ev m_B_bestTime (WB ++ e1) (RO ++ e2) P (164, [.ref 38, .retAddr 0, .int a2, .int (v_at 20 (y1.1 1) a1), .int (v_at 20 (y1.1 2) a1), .int (v_at 20 (y1.1 3) a1), .int (v_at 20 (y1.1 4) a1), .int (v_at 20 (y1.1 5) a1), .int v1.1, .int v1.2.1, .int v1.2.2.1, .int (if (v1.2.2.1 - v1.2.2.1 / 2 * 2) = 1 then ((v_at 20 (y1.1 4) a1) - ((v1.2.2.1 + 1) / 2)) else ((v_at 20 (y1.1 4) a1) + (v1.2.2.1 / 2))), .retAddr 0], [], v1.2.2.2)))))
              refine ⟨fun c8 => ?_, fun c8 => ?_⟩
              · skip
                refine am_fg 11 ?_
                exact hc1 (v1.1, v1.2.1, (v1.2.2.1 + 1), v1.2.2.2) (by unfold s_B_bestTime_114; simp only [if_pos c6, if_pos c8])
              · have hp := hp.2 c8
                refine ⟨fun c9 => ?_, fun c9 => ?_⟩
                · skip
                  refine am_fg 11 ?_
                  exact hc1 (v1.1, v1.2.1, (v1.2.2.1 + 1), v1.2.2.2) (by unfold s_B_bestTime_114; simp only [if_pos c6, if_neg c8, if_neg c9])
                · have hp := hp.1 c9
                  refine am_Ev_G [180] 400 _ ?_
                  show ((p_D_fewestWith v1.2.2.2 (v_at 20 (y1.1 1) a1) (v_at 20 (y1.1 2) a1) (v_at 20 (y1.1 3) a1) (if (v1.2.2.1 - v1.2.2.1 / 2 * 2) = 1 then ((v_at 20 (y1.1 4) a1) - ((v1.2.2.1 + 1) / 2)) else ((v_at 20 (y1.1 4) a1) + (v1.2.2.1 / 2))) (v_at 20 (y1.1 5) a1)) ∧ am_Ev m_B_bestTime (WB ++ e1) (RO ++ e2) P (180, [.ref 38, .retAddr 0, .int a2, .int (v_at 20 (y1.1 1) a1), .int (v_at 20 (y1.1 2) a1), .int (v_at 20 (y1.1 3) a1), .int (v_at 20 (y1.1 4) a1), .int (v_at 20 (y1.1 5) a1), .int v1.1, .int v1.2.1, .int v1.2.2.1, .int (if (v1.2.2.1 - v1.2.2.1 / 2 * 2) = 1 then ((v_at 20 (y1.1 4) a1) - ((v1.2.2.1 + 1) / 2)) else ((v_at 20 (y1.1 4) a1) + (v1.2.2.1 / 2))), .retAddr 0], [.int ((v_D_fewestWith v1.2.2.2 (v_at 20 (y1.1 1) a1) (v_at 20 (y1.1 2) a1) (v_at 20 (y1.1 3) a1) (if (v1.2.2.1 - v1.2.2.1 / 2 * 2) = 1 then ((v_at 20 (y1.1 4) a1) - ((v1.2.2.1 + 1) / 2)) else ((v_at 20 (y1.1 4) a1) + (v1.2.2.1 / 2))) (v_at 20 (y1.1 5) a1)).1)], ((v_D_fewestWith v1.2.2.2 (v_at 20 (y1.1 1) a1) (v_at 20 (y1.1 2) a1) (v_at 20 (y1.1 3) a1) (if (v1.2.2.1 - v1.2.2.1 / 2 * 2) = 1 then ((v_at 20 (y1.1 4) a1) - ((v1.2.2.1 + 1) / 2)) else ((v_at 20 (y1.1 4) a1) + (v1.2.2.1 / 2))) (v_at 20 (y1.1 5) a1)).2)))
                  refine ⟨hp, ?_⟩
                  obtain ⟨y4, c10⟩ : ∃ y, v_D_fewestWith v1.2.2.2 (v_at 20 (y1.1 1) a1) (v_at 20 (y1.1 2) a1) (v_at 20 (y1.1 3) a1) (if (v1.2.2.1 - v1.2.2.1 / 2 * 2) = 1 then ((v_at 20 (y1.1 4) a1) - ((v1.2.2.1 + 1) / 2)) else ((v_at 20 (y1.1 4) a1) + (v1.2.2.1 / 2))) (v_at 20 (y1.1 5) a1) = y := ⟨_, rfl⟩
                  rw [c10]
                  show am_Ev m_B_bestTime (WB ++ e1) (RO ++ e2) P (180, [.ref 38, .retAddr 0, .int a2, .int (v_at 20 (y1.1 1) a1), .int (v_at 20 (y1.1 2) a1), .int (v_at 20 (y1.1 3) a1), .int (v_at 20 (y1.1 4) a1), .int (v_at 20 (y1.1 5) a1), .int v1.1, .int v1.2.1, .int v1.2.2.1, .int (if (v1.2.2.1 - v1.2.2.1 / 2 * 2) = 1 then ((v_at 20 (y1.1 4) a1) - ((v1.2.2.1 + 1) / 2)) else ((v_at 20 (y1.1 4) a1) + (v1.2.2.1 / 2))), .retAddr 0], [.int y4.1], y4.2)
                  refine am_Ev_G [186] 400 _ ?_
                  show am_Ev m_B_bestTime (WB ++ e1) (RO ++ e2) P (186, [.ref 38, .retAddr 0, .int a2, .int (v_at 20 (y1.1 1) a1), .int (v_at 20 (y1.1 2) a1), .int (v_at 20 (y1.1 3) a1), .int (v_at 20 (y1.1 4) a1), .int (v_at 20 (y1.1 5) a1), .int v1.1, .int v1.2.1, .int v1.2.2.1, .int (if (v1.2.2.1 - v1.2.2.1 / 2 * 2) = 1 then ((v_at 20 (y1.1 4) a1) - ((v1.2.2.1 + 1) / 2)) else ((v_at 20 (y1.1 4) a1) + (v1.2.2.1 / 2))), .int y4.1], [.int v1.2.1, .int y4.1], y4.2)
                  have key11 : am_Ev m_B_bestTime (WB ++ e1) (RO ++ e2) P (196, [.ref 38, .retAddr 0, .int a2, .int (v_at 20 (y1.1 1) a1), .int (v_at 20 (y1.1 2) a1), .int (v_at 20 (y1.1 3) a1), .int (v_at 20 (y1.1 4) a1), .int (v_at 20 (y1.1 5) a1), .int v1.1, .int v1.2.1, .int v1.2.2.1, .int (if (v1.2.2.1 - v1.2.2.1 / 2 * 2) = 1 then ((v_at 20 (y1.1 4) a1) - ((v1.2.2.1 + 1) / 2)) else ((v_at 20 (y1.1 4) a1) + (v1.2.2.1 / 2))), .int y4.1], [.int (if y4.1 < v1.2.1 then (if (v1.2.2.1 - v1.2.2.1 / 2 * 2) = 1 then ((v_at 20 (y1.1 4) a1) - ((v1.2.2.1 + 1) / 2)) else ((v_at 20 (y1.1 4) a1) + (v1.2.2.1 / 2))) else v1.1)], y4.2) := by
                    refine am_Ev_G [205] 400 _ ?_
                    show am_Ev m_B_bestTime (WB ++ e1) (RO ++ e2) P (205, [.ref 38, .retAddr 0, .int a2, .int (v_at 20 (y1.1 1) a1), .int (v_at 20 (y1.1 2) a1), .int (v_at 20 (y1.1 3) a1), .int (v_at 20 (y1.1 4) a1), .int (v_at 20 (y1.1 5) a1), .int (if y4.1 < v1.2.1 then (if (v1.2.2.1 - v1.2.2.1 / 2 * 2) = 1 then ((v_at 20 (y1.1 4) a1) - ((v1.2.2.1 + 1) / 2)) else ((v_at 20 (y1.1 4) a1) + (v1.2.2.1 / 2))) else v1.1), .int v1.2.1, .int v1.2.2.1, .int (if (v1.2.2.1 - v1.2.2.1 / 2 * 2) = 1 then ((v_at 20 (y1.1 4) a1) - ((v1.2.2.1 + 1) / 2)) else ((v_at 20 (y1.1 4) a1) + (v1.2.2.1 / 2))), .int y4.1], [.int (v_min v1.2.1 y4.1)], y4.2)
                    refine am_Ev_G [114] 400 _ ?_
                    show am_Ev m_B_bestTime (WB ++ e1) (RO ++ e2) P (114, [.ref 38, .retAddr 0, .int a2, .int (v_at 20 (y1.1 1) a1), .int (v_at 20 (y1.1 2) a1), .int (v_at 20 (y1.1 3) a1), .int (v_at 20 (y1.1 4) a1), .int (v_at 20 (y1.1 5) a1), .int (if y4.1 < v1.2.1 then (if (v1.2.2.1 - v1.2.2.1 / 2 * 2) = 1 then ((v_at 20 (y1.1 4) a1) - ((v1.2.2.1 + 1) / 2)) else ((v_at 20 (y1.1 4) a1) + (v1.2.2.1 / 2))) else v1.1), .int (v_min v1.2.1 y4.1), .int (v1.2.2.1 + 1), .int (if (v1.2.2.1 - v1.2.2.1 / 2 * 2) = 1 then ((v_at 20 (y1.1 4) a1) - ((v1.2.2.1 + 1) / 2)) else ((v_at 20 (y1.1 4) a1) + (v1.2.2.1 / 2))), .int y4.1], [], y4.2)
                    refine am_fg 11 ?_
                    refine am_fg 12 ?_
                    exact hc1 ((if y4.1 < v1.2.1 then (if (v1.2.2.1 - v1.2.2.1 / 2 * 2) = 1 then ((v_at 20 (y1.1 4) a1) - ((v1.2.2.1 + 1) / 2)) else ((v_at 20 (y1.1 4) a1) + (v1.2.2.1 / 2))) else v1.1), (v_min v1.2.1 y4.1), (v1.2.2.1 + 1), y4.2) (by unfold s_B_bestTime_114; simp only [if_pos c6, if_neg c8, if_pos c9, bnd, c10])
                  refine am_Ev_G [196] 400 _ ?_
                  show ((¬ y4.1 < v1.2.1 → am_Ev m_B_bestTime (WB ++ e1) (RO ++ e2) P (196, [.ref 38, .retAddr 0, .int a2, .int (v_at 20 (y1.1 1) a1), .int (v_at 20 (y1.1 2) a1), .int (v_at 20 (y1.1 3) a1), .int (v_at 20 (y1.1 4) a1), .int (v_at 20 (y1.1 5) a1), .int v1.1, .int v1.2.1, .int v1.2.2.1, .int (if (v1.2.2.1 - v1.2.2.1 / 2 * 2) = 1 then ((v_at 20 (y1.1 4) a1) - ((v1.2.2.1 + 1) / 2)) else ((v_at 20 (y1.1 4) a1) + (v1.2.2.1 / 2))), .int y4.1], [.int v1.1], y4.2)) ∧ (y4.1 < v1.2.1 → am_Ev m_B_bestTime (WB ++ e1) (RO ++ e2) P (196, [.ref 38, .retAddr 0, .int a2, .int (v_at 20 (y1.1 1) a1), .int (v_at 20 (y1.1 2) a1), .int (v_at 20 (y1.1 3) a1), .int (v_at 20 (y1.1 4) a1), .int (v_at 20 (y1.1 5) a1), .int v1.1, .int v1.2.1, .int v1.2.2.1, .int (if (v1.2.2.1 - v1.2.2.1 / 2 * 2) = 1 then ((v_at 20 (y1.1 4) a1) - ((v1.2.2.1 + 1) / 2)) else ((v_at 20 (y1.1 4) a1) + (v1.2.2.1 / 2))), .int y4.1], [.int (if (v1.2.2.1 - v1.2.2.1 / 2 * 2) = 1 then ((v_at 20 (y1.1 4) a1) - ((v1.2.2.1 + 1) / 2)) else ((v_at 20 (y1.1 4) a1) + (v1.2.2.1 / 2)))], y4.2)))
                  refine ⟨fun c12 => ?_, fun c12 => ?_⟩
                  · skip
                    simpa only [if_neg c12] using key11
                  · skip
                    simpa only [if_pos c12] using key11
            refine am_Ev_G [149] 400 _ ?_
            show ((¬ (v1.2.2.1 - v1.2.2.1 / 2 * 2) = 1 → ((¬ 2 = 0) ∧ am_Ev m_B_bestTime (WB ++ e1) (RO ++ e2) P (149, [.ref 38, .retAddr 0, .int a2, .int (v_at 20 (y1.1 1) a1), .int (v_at 20 (y1.1 2) a1), .int (v_at 20 (y1.1 3) a1), .int (v_at 20 (y1.1 4) a1), .int (v_at 20 (y1.1 5) a1), .int v1.1, .int v1.2.1, .int v1.2.2.1, .retAddr 0, .retAddr 0], [.int ((v_at 20 (y1.1 4) a1) + (v1.2.2.1 / 2))], v1.2.2.2))) ∧ ((v1.2.2.1 - v1.2.2.1 / 2 * 2) = 1 → ((¬ 2 = 0) ∧ am_Ev m_B_bestTime (WB ++ e1) (RO ++ e2) P (149, [.ref 38, .retAddr 0, .int a2, .int (v_at 20 (y1.1 1) a1), .int (v_at 20 (y1.1 2) a1), .int (v_at 20 (y1.1 3) a1), .int (v_at 20 (y1.1 4) a1), .int (v_at 20 (y1.1 5) a1), .int v1.1, .int v1.2.1, .int v1.2.2.1, .retAddr 0, .retAddr 0], [.int ((v_at 20 (y1.1 4) a1) - ((v1.2.2.1 + 1) / 2))], v1.2.2.2))))
            refine ⟨fun c13 => ?_, fun c13 => ?_⟩
            · skip
              refine ⟨(by decide), ?_⟩
              simpa only [if_neg c13] using key7
            · skip
              refine ⟨(by decide), ?_⟩
              simpa only [if_pos c13] using key7
        · intro r3 hr14
          show am_Ev m_B_bestTime (WB ++ e1) (RO ++ e2) P (213, [.ref 38, .retAddr 0, .int a2, .int (v_at 20 (y1.1 1) a1), .int (v_at 20 (y1.1 2) a1), .int (v_at 20 (y1.1 3) a1), .int (v_at 20 (y1.1 4) a1), .int (v_at 20 (y1.1 5) a1), .int r3.1, .int r3.2.1, .int r3.2.2.1, .retAddr 0, .retAddr 0], [], r3.2.2.2)
          refine am_Ev_G [] 400 _ ?_
          show P (.inl (some (.int r3.1))) r3.2.2.2
          exact hP (.inr (r3.1, r3.2.2.2)) (by unfold v_B_bestTime; simp only [c1, c2, c3, bnd, c4, bnd, c5, hr14])
theorem ok_B_bestTime {l : Launch} (hl : l.stackTraces = false) (e1 e2 : List Sh) (k : Nat) : am_Ok l (WB ++ e1) (RO ++ e2) (d_B_bestTime k) := by
  refine am_met hl (own := RX5) (M := m_B_bestTime) rfl pf_B_bestTime cu_B_bestTime rfl rfl rfl rfl (fun _ => rfl) rfl ⟨chk_B_bestTime, (am_c (fl_B_10) (am_c (fl_B_24) (am_c (fl_B_113) (am_c (fl_B_200) (am_c (fl_B_206) (am_c (fl_B_218) (am_c (fl_B_287) am_n))))))), (am_c (lk_B_68) (am_c (lk_B_78) (am_c (lk_B_107) (am_c (lk_B_110) (am_c (lk_B_209) (am_c (lk_B_284) (am_c (lk_B_290) am_n))))))), (am_n), (am_n)⟩ (am_n) (am_c (ok_B_checkRange hl e1 _ 0) (am_c (ok_B_at hl _ _ 0) (am_c (ok_B_checkTrip hl e1 _ 15) (am_c (ok_B_checkRun hl e1 _ 15) (am_c (ok_D_gather hl (WBb ++ e1) _ 20) (am_c (ok_D_fewestWith hl (WBb ++ e1) _ 20) (am_c (ok_J_min hl _ _ 0) am_n))))))) (fun z => nomatch z) (fun z => nomatch z) ?_
  · intro as h hg hp
    revert hg hp
    show g_ok (g_B_bestTime (WB ++ e1) (RO ++ e2) as h) = true → g_pre (g_B_bestTime (WB ++ e1) (RO ++ e2) as h) → _ ∧ am_Ev m_B_bestTime (WB ++ e1) (RO ++ e2) (am_eq (g_B_bestTime (WB ++ e1) (RO ++ e2) as h)) (0, am_ent as 13, [], h)
    unfold g_B_bestTime
    split
    · rename_i o1 a1 a2
      intro hc hp
      change (Nat.beq o1 38) = true at hc
      obtain rfl := am_beq hc
      exact ⟨Nat.le_of_ble_eq_true rfl, ev_B_bestTime h a1 a2 hp eqRIWT⟩
    · exact fun z => nomatch z
def k_B_ifFailed (pc : Nat) : Ent := bif Nat.ble 19 pc then am_nop else bif Nat.ble 7 pc then (bif Nat.ble 14 pc then (bif Nat.ble 15 pc then (bif Nat.ble 18 pc then (bif Nat.beq pc 18 then (.ireturn, 0, 0, []) else am_nop) else (bif Nat.beq pc 15 then (.invokevirtual 295, 0, 0, []) else am_nop)) else (bif Nat.beq pc 14 then (.iload_n 1, 0, 1, []) else am_nop)) else (bif Nat.ble 10 pc then (bif Nat.ble 11 pc then (bif Nat.beq pc 11 then (.getfield 10, 0, 0, []) else am_nop) else (bif Nat.beq pc 10 then (.aload_n 0, 0, 0, []) else am_nop)) else (bif Nat.beq pc 7 then (.invokevirtual 110, 0, 0, []) else am_nop))) else (bif Nat.ble 2 pc then (bif Nat.ble 5 pc then (bif Nat.ble 6 pc then (bif Nat.beq pc 6 then (.iload_n 1, 0, 1, []) else am_nop) else (bif Nat.beq pc 5 then (.aload_n 0, 0, 0, []) else am_nop)) else (bif Nat.beq pc 2 then (.invokevirtual 107, 0, 0, []) else am_nop)) else (bif Nat.ble 1 pc then (bif Nat.beq pc 1 then (.iload_n 1, 0, 1, []) else am_nop) else (bif Nat.beq pc 0 then (.aload_n 0, 0, 0, []) else am_nop)))
theorem lk_B_295 : am_lnk RX5 295 (d_T_lossesFrom 24) := ⟨⟨by decide, by decide⟩, am_tb 2 (by decide +kernel) rfl, Or.inr ⟨by decide, rfl, am_tb 609 (by decide +kernel) rfl, am_tp 41 (by decide +kernel) rfl, ⟨TX4, 15, rfl⟩, Or.inr ⟨"BusBlocks", am_tb 771 (by decide +kernel) rfl⟩⟩⟩
def m_B_ifFailed : MI := (k_B_ifFailed, [(10, 5, 0)], [(107, d_B_checkTrip 15), (110, d_B_checkRun 15), (295, d_T_lossesFrom 24)], [], [], [], [], 7, 113, some .int, fun _ => 0, 1)
def v_B_ifFailed (h : HP) (a1 : Int32) : String ⊕ Int32 := (match v_B_checkTrip h a1 with | some E => (.inl E) | none => (match v_B_checkRun h a1 with | some E => (.inl E) | none => (.inr (v_T_lossesFrom h a1))))
def p_B_ifFailed (h : HP) (a1 : Int32) : Prop := (v_B_checkTrip h a1 = none → (v_B_checkRun h a1 = none → (p_T_lossesFrom h a1)))
def g_B_ifFailed (_ _ : List Sh) (as : List Value) (h : HP) : GR := match as with
  | [.ref o1, .int a1] => (Nat.beq o1 38, p_B_ifFailed h a1, rthr (v_B_ifFailed h a1), rvI (v_B_ifFailed h a1), h)
  | _ => bad h
def d_B_ifFailed (k : Nat) : CD := (k, yX5_ifFailed, cX5_ifFailed, 2, some .int, 2, 7, 113, 0, true, true, g_B_ifFailed)
theorem chk_B_ifFailed : ∀ pc, am_chk cX5_ifFailed k_B_ifFailed pc = true := am_chkall 19 (by decide +kernel) (fun pc h => by unfold k_B_ifFailed; rw [Nat.ble_eq_true_of_le h]; rfl)
theorem pf_B_ifFailed : plainFor yX5_ifFailed = true := by decide +kernel
theorem cu_B_ifFailed : Cond.code yX5_ifFailed cX5_ifFailed 2 (some .int) ∈ am_U := am_tb 770 (by decide +kernel) rfl
set_option maxRecDepth 100000 in
theorem ev_B_ifFailed {e1 e2 : List Sh} {P : AR → HP → Prop} (h : HP) (a1 : Int32) (hp : p_B_ifFailed h a1) (hP : ∀ q, v_B_ifFailed h a1 = q → RIT P h q) : am_Ev m_B_ifFailed (WB ++ e1) (RO ++ e2) P (0, [.ref 38, .int a1], [], h) := by
  unfold p_B_ifFailed at hp
  refine am_Ev_G [5] 400 _ ?_
  show ((∀ E, v_B_checkTrip h a1 = some E → P (.inr E) h) ∧ (v_B_checkTrip h a1 = none → am_Ev m_B_ifFailed (WB ++ e1) (RO ++ e2) P (5, [.ref 38, .int a1], [], h)))
  refine ⟨fun E c1 => ?_, fun c1 => ?_⟩
  · skip
    exact hP (.inl E) (by unfold v_B_ifFailed; simp only [c1])
  · have hp := hp c1
    refine am_Ev_G [10] 400 _ ?_
    show ((∀ E, v_B_checkRun h a1 = some E → P (.inr E) h) ∧ (v_B_checkRun h a1 = none → am_Ev m_B_ifFailed (WB ++ e1) (RO ++ e2) P (10, [.ref 38, .int a1], [], h)))
    refine ⟨fun E c2 => ?_, fun c2 => ?_⟩
    · skip
      exact hP (.inl E) (by unfold v_B_ifFailed; simp only [c1, c2])
    · have hp := hp c2
      refine am_Ev_G [18] 400 _ ?_
      show ((p_T_lossesFrom h a1) ∧ am_Ev m_B_ifFailed (WB ++ e1) (RO ++ e2) P (18, [.ref 38, .int a1], [.int (v_T_lossesFrom h a1)], h))
      refine ⟨hp, ?_⟩
      refine am_Ev_G [] 400 _ ?_
      show P (.inl (some (.int (v_T_lossesFrom h a1)))) h
      exact hP (.inr (v_T_lossesFrom h a1)) (by unfold v_B_ifFailed; simp only [c1, c2])
theorem ok_B_ifFailed {l : Launch} (hl : l.stackTraces = false) (e1 e2 : List Sh) (k : Nat) : am_Ok l (WB ++ e1) (RO ++ e2) (d_B_ifFailed k) := by
  refine am_met hl (own := RX5) (M := m_B_ifFailed) rfl pf_B_ifFailed cu_B_ifFailed rfl rfl rfl rfl (fun _ => rfl) rfl ⟨chk_B_ifFailed, (am_c (fl_B_10) am_n), (am_c (lk_B_107) (am_c (lk_B_110) (am_c (lk_B_295) am_n))), (am_n), (am_n)⟩ (am_n) (am_c (ok_B_checkTrip hl e1 _ 15) (am_c (ok_B_checkRun hl e1 _ 15) (am_c (ok_T_lossesFrom hl (W21b ++ (WBb ++ e1)) _ 24) am_n))) (fun z => nomatch z) (fun z => nomatch z) ?_
  · intro as h hg hp
    revert hg hp
    show g_ok (g_B_ifFailed (WB ++ e1) (RO ++ e2) as h) = true → g_pre (g_B_ifFailed (WB ++ e1) (RO ++ e2) as h) → _ ∧ am_Ev m_B_ifFailed (WB ++ e1) (RO ++ e2) (am_eq (g_B_ifFailed (WB ++ e1) (RO ++ e2) as h)) (0, am_ent as 2, [], h)
    unfold g_B_ifFailed
    split
    · rename_i o1 a1
      intro hc hp
      change (Nat.beq o1 38) = true at hc
      obtain rfl := am_beq hc
      exact ⟨Nat.le_of_ble_eq_true rfl, ev_B_ifFailed h a1 hp eqRIT⟩
    · exact fun z => nomatch z
def k_B_drivenShare (pc : Nat) : Ent := bif Nat.ble 70 pc then am_nop else bif Nat.ble 37 pc then (bif Nat.ble 53 pc then (bif Nat.ble 62 pc then (bif Nat.ble 65 pc then (bif Nat.ble 68 pc then (bif Nat.ble 69 pc then (bif Nat.beq pc 69 then (.dreturn, 0, 0, []) else am_nop) else (bif Nat.beq pc 68 then (.dconst 1, 0, 0, []) else am_nop)) else (bif Nat.beq pc 65 then (.goto 4, 0, 69, []) else am_nop)) else (bif Nat.ble 63 pc then (bif Nat.ble 64 pc then (bif Nat.beq pc 64 then (.ddiv, 0, 0, []) else am_nop) else (bif Nat.beq pc 63 then (.i2d, 0, 0, []) else am_nop)) else (bif Nat.beq pc 62 then (.iload_n 2, 0, 2, []) else am_nop))) else (bif Nat.ble 57 pc then (bif Nat.ble 60 pc then (bif Nat.ble 61 pc then (bif Nat.beq pc 61 then (.i2d, 0, 0, []) else am_nop) else (bif Nat.beq pc 60 then (.iload_n 1, 0, 1, []) else am_nop)) else (bif Nat.beq pc 57 then (.ifCond .le 11, 0, 68, []) else am_nop)) else (bif Nat.ble 56 pc then (bif Nat.beq pc 56 then (.iload_n 2, 0, 2, []) else am_nop) else (bif Nat.beq pc 53 then (.goto (-47), 0, 6, []) else am_nop)))) else (bif Nat.ble 44 pc then (bif Nat.ble 48 pc then (bif Nat.ble 49 pc then (bif Nat.ble 50 pc then (bif Nat.beq pc 50 then (.iinc 3 1, 1, 3, []) else am_nop) else (bif Nat.beq pc 49 then (.istore_n 2, 0, 2, []) else am_nop)) else (bif Nat.beq pc 48 then (.iadd, 0, 0, []) else am_nop)) else (bif Nat.ble 45 pc then (bif Nat.beq pc 45 then (.invokevirtual 243, 0, 0, []) else am_nop) else (bif Nat.beq pc 44 then (.iload_n 3, 0, 3, []) else am_nop))) else (bif Nat.ble 39 pc then (bif Nat.ble 40 pc then (bif Nat.ble 41 pc then (bif Nat.beq pc 41 then (.getfield 10, 0, 0, []) else am_nop) else (bif Nat.beq pc 40 then (.aload_n 0, 0, 0, []) else am_nop)) else (bif Nat.beq pc 39 then (.iload_n 2, 0, 2, []) else am_nop)) else (bif Nat.ble 38 pc then (bif Nat.beq pc 38 then (.istore_n 1, 0, 1, []) else am_nop) else (bif Nat.beq pc 37 then (.iadd, 0, 0, []) else am_nop))))) else (bif Nat.ble 14 pc then (bif Nat.ble 25 pc then (bif Nat.ble 30 pc then (bif Nat.ble 33 pc then (bif Nat.ble 34 pc then (bif Nat.beq pc 34 then (.invokevirtual 246, 0, 0, []) else am_nop) else (bif Nat.beq pc 33 then (.iload_n 3, 0, 3, []) else am_nop)) else (bif Nat.beq pc 30 then (.getfield 10, 0, 0, []) else am_nop)) else (bif Nat.ble 28 pc then (bif Nat.ble 29 pc then (bif Nat.beq pc 29 then (.aload_n 0, 0, 0, []) else am_nop) else (bif Nat.beq pc 28 then (.iload_n 1, 0, 1, []) else am_nop)) else (bif Nat.beq pc 25 then (.ifCond .eq 25, 0, 50, []) else am_nop))) else (bif Nat.ble 18 pc then (bif Nat.ble 21 pc then (bif Nat.ble 22 pc then (bif Nat.beq pc 22 then (.invokevirtual 298, 0, 0, []) else am_nop) else (bif Nat.beq pc 21 then (.iload_n 3, 0, 3, []) else am_nop)) else (bif Nat.beq pc 18 then (.getfield 10, 0, 0, []) else am_nop)) else (bif Nat.ble 17 pc then (bif Nat.beq pc 17 then (.aload_n 0, 0, 0, []) else am_nop) else (bif Nat.beq pc 14 then (.if_icmp .ge 42, 0, 56, []) else am_nop)))) else (bif Nat.ble 5 pc then (bif Nat.ble 7 pc then (bif Nat.ble 8 pc then (bif Nat.ble 11 pc then (bif Nat.beq pc 11 then (.getfield 93, 0, 0, []) else am_nop) else (bif Nat.beq pc 8 then (.getfield 10, 0, 0, []) else am_nop)) else (bif Nat.beq pc 7 then (.aload_n 0, 0, 0, []) else am_nop)) else (bif Nat.ble 6 pc then (bif Nat.beq pc 6 then (.iload_n 3, 0, 3, []) else am_nop) else (bif Nat.beq pc 5 then (.istore_n 3, 0, 3, []) else am_nop))) else (bif Nat.ble 2 pc then (bif Nat.ble 3 pc then (bif Nat.ble 4 pc then (bif Nat.beq pc 4 then (.iconst 0, 0, 0, []) else am_nop) else (bif Nat.beq pc 3 then (.istore_n 2, 0, 2, []) else am_nop)) else (bif Nat.beq pc 2 then (.iconst 0, 0, 0, []) else am_nop)) else (bif Nat.ble 1 pc then (bif Nat.beq pc 1 then (.istore_n 1, 0, 1, []) else am_nop) else (bif Nat.beq pc 0 then (.iconst 0, 0, 0, []) else am_nop)))))
theorem lk_B_298 : am_lnk RX5 298 (d_T_isHead 24) := ⟨⟨by decide, by decide⟩, am_tb 2 (by decide +kernel) rfl, Or.inr ⟨by decide, rfl, am_tb 397 (by decide +kernel) rfl, am_tp 16 (by decide +kernel) rfl, ⟨TX4, 15, rfl⟩, Or.inr ⟨"BusBlocks", am_tb 799 (by decide +kernel) rfl⟩⟩⟩
def m_B_drivenShare : MI := (k_B_drivenShare, [(10, 5, 0), (93, 4, 11)], [(243, d_T_spanFrom 24), (246, d_T_drivenFrom 24), (298, d_T_isHead 24)], [], [], [], [], 3, 71, some .double, fun _ => 0, 1)
def s_B_drivenShare_6 (h : HP) (v1 : Int32 × Int32 × Int32) : (Int32 × Int32 × Int32) ⊕ (Int32 × Int32 × Int32) := (if v1.2.2 < (h.1 0 11) then (.inl ((if (v_T_isHead h v1.2.2) = 0 then v1.1 else (v1.1 + (v_T_drivenFrom h v1.2.2))), (if (v_T_isHead h v1.2.2) = 0 then v1.2.1 else (v1.2.1 + (v_T_spanFrom h v1.2.2))), (v1.2.2 + 1))) else (.inr (v1.1, v1.2.1, v1.2.2)))
def ps_B_drivenShare_6 (h : HP) (v1 : Int32 × Int32 × Int32) : Prop := ((v1.2.2 < (h.1 0 11) → (((v_T_isHead h v1.2.2) = 0 → True) ∧ (¬ (v_T_isHead h v1.2.2) = 0 → ((p_T_drivenFrom h v1.2.2) ∧ (p_T_spanFrom h v1.2.2))))) ∧ (¬ v1.2.2 < (h.1 0 11) → True))
def v_B_drivenShare (h : HP) : UInt64 := (match itr (s_B_drivenShare_6 h) NF (0, 0, 0) with | some r1 => (if r1.2.1 ≤ 0 then FP.dconst1 else (FP.ddiv (FP.i2d r1.1) (FP.i2d r1.2.1))) | none => 0)
def p_B_drivenShare (h : HP) : Prop := (itrp (s_B_drivenShare_6 h) (ps_B_drivenShare_6 h) NF (0, 0, 0) ∧ ∀ r1, itr (s_B_drivenShare_6 h) NF (0, 0, 0) = some r1 → ((r1.2.1 ≤ 0 → True) ∧ (¬ r1.2.1 ≤ 0 → (vf_n64 (FP.ddiv (FP.i2d r1.1) (FP.i2d r1.2.1))))))
def g_B_drivenShare (_ _ : List Sh) (as : List Value) (h : HP) : GR := match as with
  | [.ref o1] => (Nat.beq o1 38, p_B_drivenShare h, none, some (.double (v_B_drivenShare h)), h)
  | _ => bad h
def d_B_drivenShare (k : Nat) : CD := (k, yX5_drivenShare, cX5_drivenShare, 4, some .double, 1, 3, 71, 0, false, true, g_B_drivenShare)
theorem chk_B_drivenShare : ∀ pc, am_chk cX5_drivenShare k_B_drivenShare pc = true := am_chkall 70 (by decide +kernel) (fun pc h => by unfold k_B_drivenShare; rw [Nat.ble_eq_true_of_le h]; rfl)
theorem pf_B_drivenShare : plainFor yX5_drivenShare = true := by decide +kernel
theorem cu_B_drivenShare : Cond.code yX5_drivenShare cX5_drivenShare 4 (some .double) ∈ am_U := am_tb 798 (by decide +kernel) rfl
set_option maxHeartbeats 20000000 in
set_option maxRecDepth 100000 in
theorem ev_B_drivenShare {e1 e2 : List Sh} {P : AR → HP → Prop} (h : HP) (hp : p_B_drivenShare h) (hP : ∀ q, v_B_drivenShare h = q → RD P h q) : am_Ev m_B_drivenShare (WB ++ e1) (RO ++ e2) P (0, [.ref 38, .retAddr 0, .retAddr 0, .retAddr 0], [], h) := by
  unfold p_B_drivenShare at hp
  refine am_Ev_G [6] 400 _ ?_
  show am_Ev m_B_drivenShare (WB ++ e1) (RO ++ e2) P (6, [.ref 38, .int 0, .int 0, .int 0], [], h)
  obtain ⟨hpl, hp⟩ := hp
  refine am_itr (E := (fun (v1 : Int32 × Int32 × Int32) => am_Ev m_B_drivenShare (WB ++ e1) (RO ++ e2) P (6, [.ref 38, .int v1.1, .int v1.2.1, .int v1.2.2], [], h))) (E' := (fun (r1 : Int32 × Int32 × Int32) => am_Ev m_B_drivenShare (WB ++ e1) (RO ++ e2) P (56, [.ref 38, .int r1.1, .int r1.2.1, .int r1.2.2], [], h))) (s_B_drivenShare_6 h) (ps_B_drivenShare_6 h) ?_ NF (0, 0, 0) hpl ?_
  · intro v1 hp hc1 hx1
    show am_Ev m_B_drivenShare (WB ++ e1) (RO ++ e2) P (6, [.ref 38, .int v1.1, .int v1.2.1, .int v1.2.2], [], h)
    unfold ps_B_drivenShare_6 at hp
    refine am_Ev_G [25, 56] 400 _ ?_
    show ((¬ v1.2.2 < (h.1 0 11) → am_Ev m_B_drivenShare (WB ++ e1) (RO ++ e2) P (56, [.ref 38, .int v1.1, .int v1.2.1, .int v1.2.2], [], h)) ∧ (v1.2.2 < (h.1 0 11) → am_Ev m_B_drivenShare (WB ++ e1) (RO ++ e2) P (25, [.ref 38, .int v1.1, .int v1.2.1, .int v1.2.2], [.int (v_T_isHead h v1.2.2)], h)))
    refine ⟨fun c1 => ?_, fun c1 => ?_⟩
    · skip
      exact hx1 (v1.1, v1.2.1, v1.2.2) (by unfold s_B_drivenShare_6; simp only [if_neg c1])
    · have hp := hp.1 c1
      have hpa := hp
      have key2 : am_Ev m_B_drivenShare (WB ++ e1) (RO ++ e2) P (50, [.ref 38, .int (if (v_T_isHead h v1.2.2) = 0 then v1.1 else (v1.1 + (v_T_drivenFrom h v1.2.2))), .int (if (v_T_isHead h v1.2.2) = 0 then v1.2.1 else (v1.2.1 + (v_T_spanFrom h v1.2.2))), .int v1.2.2], [], h) := by
        refine am_Ev_G [6] 400 _ ?_
        show am_Ev m_B_drivenShare (WB ++ e1) (RO ++ e2) P (6, [.ref 38, .int (if (v_T_isHead h v1.2.2) = 0 then v1.1 else (v1.1 + (v_T_drivenFrom h v1.2.2))), .int (if (v_T_isHead h v1.2.2) = 0 then v1.2.1 else (v1.2.1 + (v_T_spanFrom h v1.2.2))), .int (v1.2.2 + 1)], [], h)
        exact hc1 ((if (v_T_isHead h v1.2.2) = 0 then v1.1 else (v1.1 + (v_T_drivenFrom h v1.2.2))), (if (v_T_isHead h v1.2.2) = 0 then v1.2.1 else (v1.2.1 + (v_T_spanFrom h v1.2.2))), (v1.2.2 + 1)) (by unfold s_B_drivenShare_6; simp only [if_pos c1])
      have hp := hpa
      refine am_Ev_G [50] 400 _ ?_
      show (((v_T_isHead h v1.2.2) = 0 → am_Ev m_B_drivenShare (WB ++ e1) (RO ++ e2) P (50, [.ref 38, .int v1.1, .int v1.2.1, .int v1.2.2], [], h)) ∧ (¬ (v_T_isHead h v1.2.2) = 0 → ((p_T_drivenFrom h v1.2.2) ∧ ((p_T_spanFrom h v1.2.2) ∧ am_Ev m_B_drivenShare (WB ++ e1) (RO ++ e2) P (50, [.ref 38, .int (v1.1 + (v_T_drivenFrom h v1.2.2)), .int (v1.2.1 + (v_T_spanFrom h v1.2.2)), .int v1.2.2], [], h)))))
      refine ⟨fun c3 => ?_, fun c3 => ?_⟩
      · skip
        simpa only [if_pos c3] using key2
      · have hp := hp.2 c3
        obtain ⟨hob, hp⟩ := hp
        refine ⟨hob, ?_⟩
        refine ⟨hp, ?_⟩
        simpa only [if_neg c3] using key2
  · intro r1 hr4
    have hp := hp _ hr4
    show am_Ev m_B_drivenShare (WB ++ e1) (RO ++ e2) P (56, [.ref 38, .int r1.1, .int r1.2.1, .int r1.2.2], [], h)
    refine am_Ev_G [57] 400 _ ?_
    show am_Ev m_B_drivenShare (WB ++ e1) (RO ++ e2) P (57, [.ref 38, .int r1.1, .int r1.2.1, .int r1.2.2], [.int r1.2.1], h)
    have hpa := hp
    have key5 : am_Ev m_B_drivenShare (WB ++ e1) (RO ++ e2) P (69, [.ref 38, .int r1.1, .int r1.2.1, .int r1.2.2], [.double (if r1.2.1 ≤ 0 then FP.dconst1 else (FP.ddiv (FP.i2d r1.1) (FP.i2d r1.2.1)))], h) := by
      refine am_Ev_G [] 400 _ ?_
      show P (.inl (some (.double (if r1.2.1 ≤ 0 then FP.dconst1 else (FP.ddiv (FP.i2d r1.1) (FP.i2d r1.2.1)))))) h
      exact hP (if r1.2.1 ≤ 0 then FP.dconst1 else (FP.ddiv (FP.i2d r1.1) (FP.i2d r1.2.1))) (by unfold v_B_drivenShare; simp only [hr4])
    have hp := hpa
    refine am_Ev_G [69] 400 _ ?_
    show ((r1.2.1 ≤ 0 → am_Ev m_B_drivenShare (WB ++ e1) (RO ++ e2) P (69, [.ref 38, .int r1.1, .int r1.2.1, .int r1.2.2], [.double FP.dconst1], h)) ∧ (¬ r1.2.1 ≤ 0 → ((vf_n64 (FP.ddiv (FP.i2d r1.1) (FP.i2d r1.2.1))) ∧ am_Ev m_B_drivenShare (WB ++ e1) (RO ++ e2) P (69, [.ref 38, .int r1.1, .int r1.2.1, .int r1.2.2], [.double (FP.ddiv (FP.i2d r1.1) (FP.i2d r1.2.1))], h))))
    refine ⟨fun c6 => ?_, fun c6 => ?_⟩
    · skip
      simpa only [if_pos c6] using key5
    · have hp := hp.2 c6
      refine ⟨hp, ?_⟩
      simpa only [if_neg c6] using key5
theorem ok_B_drivenShare {l : Launch} (hl : l.stackTraces = false) (e1 e2 : List Sh) (k : Nat) : am_Ok l (WB ++ e1) (RO ++ e2) (d_B_drivenShare k) := by
  refine am_met hl (own := RX5) (M := m_B_drivenShare) rfl pf_B_drivenShare cu_B_drivenShare rfl rfl rfl rfl (fun _ => rfl) rfl ⟨chk_B_drivenShare, (am_c (fl_B_10) (am_c (fl_B_93) am_n)), (am_c (lk_B_243) (am_c (lk_B_246) (am_c (lk_B_298) am_n))), (am_n), (am_n)⟩ (am_n) (am_c (ok_T_spanFrom hl (W21b ++ (WBb ++ e1)) _ 24) (am_c (ok_T_drivenFrom hl (W21b ++ (WBb ++ e1)) _ 24) (am_c (ok_T_isHead hl (W21b ++ (WBb ++ e1)) _ 24) am_n))) (fun z => nomatch z) ?_ ?_
  · intro _ as h hg
    show g_thr (g_B_drivenShare (WB ++ e1) (RO ++ e2) as h) = none
    unfold g_B_drivenShare
    split <;> rfl
  · intro as h hg hp
    revert hg hp
    show g_ok (g_B_drivenShare (WB ++ e1) (RO ++ e2) as h) = true → g_pre (g_B_drivenShare (WB ++ e1) (RO ++ e2) as h) → _ ∧ am_Ev m_B_drivenShare (WB ++ e1) (RO ++ e2) (am_eq (g_B_drivenShare (WB ++ e1) (RO ++ e2) as h)) (0, am_ent as 4, [], h)
    unfold g_B_drivenShare
    split
    · rename_i o1
      intro hc hp
      change (Nat.beq o1 38) = true at hc
      obtain rfl := am_beq hc
      exact ⟨Nat.le_of_ble_eq_true rfl, ev_B_drivenShare h hp eqRD⟩
    · exact fun z => nomatch z
end
