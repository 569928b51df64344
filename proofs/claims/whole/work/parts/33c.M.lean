/-! BusBlocksModel, out of its code (written by gen/meth.py). -/
noncomputable section
def k_M_aboutBlock (pc : Nat) : Ent := bif Nat.ble 88 pc then am_nop else bif Nat.ble 60 pc then (bif Nat.ble 75 pc then (bif Nat.ble 81 pc then (bif Nat.ble 83 pc then (bif Nat.ble 84 pc then (bif Nat.ble 87 pc then (bif Nat.beq pc 87 then (.ireturn, 0, 0, []) else am_nop) else (bif Nat.beq pc 84 then (.invokevirtual 218, 0, 0, []) else am_nop)) else (bif Nat.beq pc 83 then (.iload_n 3, 0, 3, []) else am_nop)) else (bif Nat.ble 82 pc then (bif Nat.beq pc 82 then (.aload_n 0, 0, 0, []) else am_nop) else (bif Nat.beq pc 81 then (.ireturn, 0, 0, []) else am_nop))) else (bif Nat.ble 77 pc then (bif Nat.ble 78 pc then (bif Nat.beq pc 78 then (.invokevirtual 124, 0, 0, []) else am_nop) else (bif Nat.beq pc 77 then (.iload_n 3, 0, 3, []) else am_nop)) else (bif Nat.ble 76 pc then (bif Nat.beq pc 76 then (.aload_n 0, 0, 0, []) else am_nop) else (bif Nat.beq pc 75 then (.ireturn, 0, 0, []) else am_nop)))) else (bif Nat.ble 68 pc then (bif Nat.ble 70 pc then (bif Nat.ble 71 pc then (bif Nat.ble 72 pc then (bif Nat.beq pc 72 then (.invokevirtual 215, 0, 0, []) else am_nop) else (bif Nat.beq pc 71 then (.iload_n 3, 0, 3, []) else am_nop)) else (bif Nat.beq pc 70 then (.aload_n 0, 0, 0, []) else am_nop)) else (bif Nat.ble 69 pc then (bif Nat.beq pc 69 then (.ireturn, 0, 0, []) else am_nop) else (bif Nat.beq pc 68 then (.isub, 0, 0, []) else am_nop))) else (bif Nat.ble 64 pc then (bif Nat.ble 65 pc then (bif Nat.beq pc 65 then (.invokevirtual 212, 0, 0, []) else am_nop) else (bif Nat.beq pc 64 then (.iload_n 3, 0, 3, []) else am_nop)) else (bif Nat.ble 63 pc then (bif Nat.beq pc 63 then (.aload_n 0, 0, 0, []) else am_nop) else (bif Nat.beq pc 60 then (.invokevirtual 209, 0, 0, []) else am_nop))))) else (bif Nat.ble 47 pc then (bif Nat.ble 53 pc then (bif Nat.ble 57 pc then (bif Nat.ble 58 pc then (bif Nat.ble 59 pc then (bif Nat.beq pc 59 then (.iload_n 3, 0, 3, []) else am_nop) else (bif Nat.beq pc 58 then (.aload_n 0, 0, 0, []) else am_nop)) else (bif Nat.beq pc 57 then (.ireturn, 0, 0, []) else am_nop)) else (bif Nat.ble 54 pc then (bif Nat.beq pc 54 then (.invokevirtual 209, 0, 0, []) else am_nop) else (bif Nat.beq pc 53 then (.iload_n 3, 0, 3, []) else am_nop))) else (bif Nat.ble 51 pc then (bif Nat.ble 52 pc then (bif Nat.beq pc 52 then (.aload_n 0, 0, 0, []) else am_nop) else (bif Nat.beq pc 51 then (.ireturn, 0, 0, []) else am_nop)) else (bif Nat.ble 48 pc then (bif Nat.beq pc 48 then (.invokevirtual 206, 0, 0, []) else am_nop) else (bif Nat.beq pc 47 then (.iload_n 3, 0, 3, []) else am_nop)))) else (bif Nat.ble 6 pc then (bif Nat.ble 44 pc then (bif Nat.ble 45 pc then (bif Nat.ble 46 pc then (bif Nat.beq pc 46 then (.aload_n 0, 0, 0, []) else am_nop) else (bif Nat.beq pc 45 then (.ireturn, 0, 0, []) else am_nop)) else (bif Nat.beq pc 44 then (.iload_n 3, 0, 3, []) else am_nop)) else (bif Nat.ble 7 pc then (bif Nat.beq pc 7 then (.tableswitch 75 0 5 #[37, 39, 45, 51, 63, 69], 0, 82, [(0, 44), (1, 46), (2, 52), (3, 58), (4, 70), (5, 76)]) else am_nop) else (bif Nat.beq pc 6 then (.iload_n 2, 0, 2, []) else am_nop))) else (bif Nat.ble 2 pc then (bif Nat.ble 5 pc then (bif Nat.beq pc 5 then (.istore_n 3, 0, 3, []) else am_nop) else (bif Nat.beq pc 2 then (.invokevirtual 203, 0, 0, []) else am_nop)) else (bif Nat.ble 1 pc then (bif Nat.beq pc 1 then (.iload_n 1, 0, 1, []) else am_nop) else (bif Nat.beq pc 0 then (.aload_n 0, 0, 0, []) else am_nop)))))
theorem lk_M_203 : am_lnk RX6 203 (d_M_firstOf 16) := ⟨⟨by decide, by decide⟩, am_tb 8 (by decide +kernel) rfl, Or.inr ⟨by decide, rfl, am_tb 1179 (by decide +kernel) rfl, am_tp 106 (by decide +kernel) rfl, ⟨TX6, 16, rfl⟩, Or.inl (am_tb 1177 (by decide +kernel) rfl)⟩⟩
theorem lk_M_206 : am_lnk RX6 206 (d_M_tripsFrom 16) := ⟨⟨by decide, by decide⟩, am_tb 8 (by decide +kernel) rfl, Or.inr ⟨by decide, rfl, am_tb 1183 (by decide +kernel) rfl, am_tp 107 (by decide +kernel) rfl, ⟨TX6, 16, rfl⟩, Or.inl (am_tb 1181 (by decide +kernel) rfl)⟩⟩
theorem lk_M_209 : am_lnk RX6 209 (d_M_span 16) := ⟨⟨by decide, by decide⟩, am_tb 8 (by decide +kernel) rfl, Or.inr ⟨by decide, rfl, am_tb 1187 (by decide +kernel) rfl, am_tp 108 (by decide +kernel) rfl, ⟨TX6, 16, rfl⟩, Or.inl (am_tb 1185 (by decide +kernel) rfl)⟩⟩
theorem lk_M_212 : am_lnk RX6 212 (d_M_driven 16) := ⟨⟨by decide, by decide⟩, am_tb 8 (by decide +kernel) rfl, Or.inr ⟨by decide, rfl, am_tb 1195 (by decide +kernel) rfl, am_tp 110 (by decide +kernel) rfl, ⟨TX6, 16, rfl⟩, Or.inl (am_tb 1193 (by decide +kernel) rfl)⟩⟩
theorem lk_M_215 : am_lnk RX6 215 (d_M_changes 16) := ⟨⟨by decide, by decide⟩, am_tb 8 (by decide +kernel) rfl, Or.inr ⟨by decide, rfl, am_tb 1199 (by decide +kernel) rfl, am_tp 111 (by decide +kernel) rfl, ⟨TX6, 16, rfl⟩, Or.inl (am_tb 1197 (by decide +kernel) rfl)⟩⟩
theorem lk_M_218 : am_lnk RX6 218 (d_M_told 16) := ⟨⟨by decide, by decide⟩, am_tb 8 (by decide +kernel) rfl, Or.inr ⟨by decide, rfl, am_tb 1211 (by decide +kernel) rfl, am_tp 114 (by decide +kernel) rfl, ⟨TX6, 16, rfl⟩, Or.inl (am_tb 1209 (by decide +kernel) rfl)⟩⟩
def m_M_aboutBlock : MI := (k_M_aboutBlock, [], [(124, d_M_cuts 16), (203, d_M_firstOf 16), (206, d_M_tripsFrom 16), (209, d_M_span 16), (212, d_M_driven 16), (215, d_M_changes 16), (218, d_M_told 16)], [], [], [], [], 5, 110, some .int, fun _ => 0, 1)
def v_M_aboutBlock (h : HP) (a1 : Int32) (a2 : Int32) : Int32 × HP := (if a2 = 0 then ((v_M_firstOf h a1), h) else (if a2 = 1 then ((v_M_tripsFrom h (v_M_firstOf h a1)), h) else (if a2 = 2 then ((v_M_span h (v_M_firstOf h a1)), h) else (if a2 = 3 then (((v_M_span h (v_M_firstOf h a1)) - (v_M_driven h (v_M_firstOf h a1))), h) else (if a2 = 4 then ((v_M_changes h (v_M_firstOf h a1)), h) else (if a2 = 5 then (bnd (v_M_cuts h (v_M_firstOf h a1)) fun y1 => (y1.1, y1.2)) else (bnd (v_M_told h (v_M_firstOf h a1)) fun y2 => (y2.1, y2.2))))))))
def p_M_aboutBlock (h : HP) (a1 : Int32) (a2 : Int32) : Prop := ((p_M_firstOf h a1) ∧ ((a2 = 0 → True) ∧ (¬ a2 = 0 → ((a2 = 1 → (p_M_tripsFrom h (v_M_firstOf h a1))) ∧ (¬ a2 = 1 → ((a2 = 2 → (p_M_span h (v_M_firstOf h a1))) ∧ (¬ a2 = 2 → ((a2 = 3 → ((p_M_span h (v_M_firstOf h a1)) ∧ (p_M_driven h (v_M_firstOf h a1)))) ∧ (¬ a2 = 3 → ((a2 = 4 → (p_M_changes h (v_M_firstOf h a1))) ∧ (¬ a2 = 4 → ((a2 = 5 → (p_M_cuts h (v_M_firstOf h a1))) ∧ (¬ a2 = 5 → (p_M_told h (v_M_firstOf h a1)))))))))))))))
def g_M_aboutBlock (_ _ : List Sh) (as : List Value) (h : HP) : GR := match as with
  | [.ref o1, .int a1, .int a2] => (Nat.beq o1 0, p_M_aboutBlock h a1 a2, none, some (.int (v_M_aboutBlock h a1 a2).1), (v_M_aboutBlock h a1 a2).2)
  | _ => bad h
def d_M_aboutBlock (k : Nat) : CD := (k, yX6_aboutBlock, cX6_aboutBlock, 4, some .int, 3, 5, 110, 0, false, true, g_M_aboutBlock)
theorem chk_M_aboutBlock : ∀ pc, am_chk cX6_aboutBlock k_M_aboutBlock pc = true := am_chkall 88 (by decide +kernel) (fun pc h => by unfold k_M_aboutBlock; rw [Nat.ble_eq_true_of_le h]; rfl)
theorem pf_M_aboutBlock : plainFor yX6_aboutBlock = true := by decide +kernel
theorem cu_M_aboutBlock : Cond.code yX6_aboutBlock cX6_aboutBlock 4 (some .int) ∈ am_U := am_tb 1176 (by decide +kernel) rfl
set_option maxHeartbeats 20000000 in
set_option maxRecDepth 100000 in
theorem ev_M_aboutBlock {e1 ro : List Sh} {P : AR → HP → Prop} (h : HP) (a1 : Int32) (a2 : Int32) (hp : p_M_aboutBlock h a1 a2) (hP : ∀ q, v_M_aboutBlock h a1 a2 = q → RIW P h q) : am_Ev m_M_aboutBlock (WM ++ e1) ro P (0, [.ref 0, .int a1, .int a2, .retAddr 0], [], h) := by
  unfold p_M_aboutBlock at hp
  refine am_Ev_G [51, 63, 75, 81, 87] 400 _ ?_
  show ((p_M_firstOf h a1) ∧ ((a2 = 0 → P (.inl (some (.int (v_M_firstOf h a1)))) h) ∧ (¬ a2 = 0 → ((a2 = 1 → ((p_M_tripsFrom h (v_M_firstOf h a1)) ∧ am_Ev m_M_aboutBlock (WM ++ e1) ro P (51, [.ref 0, .int a1, .int a2, .int (v_M_firstOf h a1)], [.int (v_M_tripsFrom h (v_M_firstOf h a1))], h))) ∧ (¬ a2 = 1 → ((a2 = 2 → ((p_M_span h (v_M_firstOf h a1)) ∧ P (.inl (some (.int (v_M_span h (v_M_firstOf h a1))))) h)) ∧ (¬ a2 = 2 → ((a2 = 3 → ((p_M_span h (v_M_firstOf h a1)) ∧ am_Ev m_M_aboutBlock (WM ++ e1) ro P (63, [.ref 0, .int a1, .int a2, .int (v_M_firstOf h a1)], [.int (v_M_span h (v_M_firstOf h a1))], h))) ∧ (¬ a2 = 3 → ((a2 = 4 → ((p_M_changes h (v_M_firstOf h a1)) ∧ am_Ev m_M_aboutBlock (WM ++ e1) ro P (75, [.ref 0, .int a1, .int a2, .int (v_M_firstOf h a1)], [.int (v_M_changes h (v_M_firstOf h a1))], h))) ∧ (¬ a2 = 4 → ((a2 = 5 → ((p_M_cuts h (v_M_firstOf h a1)) ∧ am_Ev m_M_aboutBlock (WM ++ e1) ro P (81, [.ref 0, .int a1, .int a2, .int (v_M_firstOf h a1)], [.int ((v_M_cuts h (v_M_firstOf h a1)).1)], ((v_M_cuts h (v_M_firstOf h a1)).2)))) ∧ (¬ a2 = 5 → ((p_M_told h (v_M_firstOf h a1)) ∧ am_Ev m_M_aboutBlock (WM ++ e1) ro P (87, [.ref 0, .int a1, .int a2, .int (v_M_firstOf h a1)], [.int ((v_M_told h (v_M_firstOf h a1)).1)], ((v_M_told h (v_M_firstOf h a1)).2))))))))))))))))
  obtain ⟨hob, hp⟩ := hp
  refine ⟨hob, ?_⟩
  refine ⟨fun c1 => ?_, fun c1 => ?_⟩
  · skip
    exact hP ((v_M_firstOf h a1), h) (by unfold v_M_aboutBlock; simp only [if_pos c1])
  · have hp := hp.2 c1
    refine ⟨fun c2 => ?_, fun c2 => ?_⟩
    · have hp := hp.1 c2
      refine ⟨hp, ?_⟩
      refine am_Ev_G [] 400 _ ?_
      show P (.inl (some (.int (v_M_tripsFrom h (v_M_firstOf h a1))))) h
      exact hP ((v_M_tripsFrom h (v_M_firstOf h a1)), h) (by unfold v_M_aboutBlock; simp only [if_neg c1, if_pos c2])
    · have hp := hp.2 c2
      refine ⟨fun c3 => ?_, fun c3 => ?_⟩
      · have hp := hp.1 c3
        refine ⟨hp, ?_⟩
        exact hP ((v_M_span h (v_M_firstOf h a1)), h) (by unfold v_M_aboutBlock; simp only [if_neg c1, if_neg c2, if_pos c3])
      · have hp := hp.2 c3
        refine ⟨fun c4 => ?_, fun c4 => ?_⟩
        · have hp := hp.1 c4
          obtain ⟨hob, hp⟩ := hp
          refine ⟨hob, ?_⟩
          refine am_Ev_G [] 400 _ ?_
          show ((p_M_driven h (v_M_firstOf h a1)) ∧ P (.inl (some (.int ((v_M_span h (v_M_firstOf h a1)) - (v_M_driven h (v_M_firstOf h a1)))))) h)
          refine ⟨hp, ?_⟩
          exact hP (((v_M_span h (v_M_firstOf h a1)) - (v_M_driven h (v_M_firstOf h a1))), h) (by unfold v_M_aboutBlock; simp only [if_neg c1, if_neg c2, if_neg c3, if_pos c4])
        · have hp := hp.2 c4
          refine ⟨fun c5 => ?_, fun c5 => ?_⟩
          · have hp := hp.1 c5
            refine ⟨hp, ?_⟩
            refine am_Ev_G [] 400 _ ?_
            show P (.inl (some (.int (v_M_changes h (v_M_firstOf h a1))))) h
            exact hP ((v_M_changes h (v_M_firstOf h a1)), h) (by unfold v_M_aboutBlock; simp only [if_neg c1, if_neg c2, if_neg c3, if_neg c4, if_pos c5])
          · have hp := hp.2 c5
            refine ⟨fun c6 => ?_, fun c6 => ?_⟩
            · have hp := hp.1 c6
              refine ⟨hp, ?_⟩
              obtain ⟨y1, c7⟩ : ∃ y, v_M_cuts h (v_M_firstOf h a1) = y := ⟨_, rfl⟩
              rw [c7]
              show am_Ev m_M_aboutBlock (WM ++ e1) ro P (81, [.ref 0, .int a1, .int a2, .int (v_M_firstOf h a1)], [.int y1.1], y1.2)
              refine am_Ev_G [] 400 _ ?_
              show P (.inl (some (.int y1.1))) y1.2
              exact hP (y1.1, y1.2) (by unfold v_M_aboutBlock; simp only [if_neg c1, if_neg c2, if_neg c3, if_neg c4, if_neg c5, if_pos c6, bnd, c7])
            · have hp := hp.2 c6
              refine ⟨hp, ?_⟩
              obtain ⟨y2, c8⟩ : ∃ y, v_M_told h (v_M_firstOf h a1) = y := ⟨_, rfl⟩
              rw [c8]
              show am_Ev m_M_aboutBlock (WM ++ e1) ro P (87, [.ref 0, .int a1, .int a2, .int (v_M_firstOf h a1)], [.int y2.1], y2.2)
              refine am_Ev_G [] 400 _ ?_
              show P (.inl (some (.int y2.1))) y2.2
              exact hP (y2.1, y2.2) (by unfold v_M_aboutBlock; simp only [if_neg c1, if_neg c2, if_neg c3, if_neg c4, if_neg c5, if_neg c6, bnd, c8])
theorem ok_M_aboutBlock {l : Launch} (hl : l.stackTraces = false) (e1 ro : List Sh) (k : Nat) : am_Ok l (WM ++ e1) ro (d_M_aboutBlock k) := by
  refine am_met hl (own := RX6) (M := m_M_aboutBlock) rfl pf_M_aboutBlock cu_M_aboutBlock rfl rfl rfl rfl (fun _ => rfl) rfl ⟨chk_M_aboutBlock, (am_n), (am_c (lk_M_124) (am_c (lk_M_203) (am_c (lk_M_206) (am_c (lk_M_209) (am_c (lk_M_212) (am_c (lk_M_215) (am_c (lk_M_218) am_n))))))), (am_n), (am_n)⟩ (am_n) (am_c (ok_M_cuts hl e1 _ 16) (am_c (ok_M_firstOf hl e1 _ 16) (am_c (ok_M_tripsFrom hl e1 _ 16) (am_c (ok_M_span hl e1 _ 16) (am_c (ok_M_driven hl e1 _ 16) (am_c (ok_M_changes hl e1 _ 16) (am_c (ok_M_told hl e1 _ 16) am_n))))))) (fun z => nomatch z) ?_ ?_
  · intro _ as h hg
    show g_thr (g_M_aboutBlock (WM ++ e1) ro as h) = none
    unfold g_M_aboutBlock
    split <;> rfl
  · intro as h hg hp
    revert hg hp
    show g_ok (g_M_aboutBlock (WM ++ e1) ro as h) = true → g_pre (g_M_aboutBlock (WM ++ e1) ro as h) → _ ∧ am_Ev m_M_aboutBlock (WM ++ e1) ro (am_eq (g_M_aboutBlock (WM ++ e1) ro as h)) (0, am_ent as 4, [], h)
    unfold g_M_aboutBlock
    split
    · rename_i o1 a1 a2
      intro hc hp
      change (Nat.beq o1 0) = true at hc
      obtain rfl := am_beq hc
      exact ⟨Nat.le_of_ble_eq_true rfl, ev_M_aboutBlock h a1 a2 hp eqRIW⟩
    · exact fun z => nomatch z
def k_M_isBlock (pc : Nat) : Ent := bif Nat.ble 12 pc then am_nop else bif Nat.ble 6 pc then (bif Nat.ble 8 pc then (bif Nat.ble 11 pc then (bif Nat.beq pc 11 then (.ireturn, 0, 0, []) else am_nop) else (bif Nat.beq pc 8 then (.invokestatic 127, 0, 0, []) else am_nop)) else (bif Nat.ble 7 pc then (bif Nat.beq pc 7 then (.isub, 0, 0, []) else am_nop) else (bif Nat.beq pc 6 then (.iconst 1, 1, 0, []) else am_nop))) else (bif Nat.ble 2 pc then (bif Nat.ble 3 pc then (bif Nat.beq pc 3 then (.invokevirtual 93, 0, 0, []) else am_nop) else (bif Nat.beq pc 2 then (.aload_n 0, 0, 0, []) else am_nop)) else (bif Nat.ble 1 pc then (bif Nat.beq pc 1 then (.iconst 0, 0, 0, []) else am_nop) else (bif Nat.beq pc 0 then (.iload_n 1, 0, 1, []) else am_nop)))
def m_M_isBlock : MI := (k_M_isBlock, [], [(93, d_M_blocks 16), (127, d_M_in 0)], [], [], [], [], 5, 109, some .boolean, fun _ => 0, 1)
def v_M_isBlock (h : HP) (a1 : Int32) : Int32 := (v_M_in h a1 0 ((v_M_blocks h) - 1))
def p_M_isBlock (h : HP) (a1 : Int32) : Prop := ((p_M_blocks h) ∧ ((((v_M_in h a1 0 ((v_M_blocks h) - 1)) : Int32) = 0 ∨ ((v_M_in h a1 0 ((v_M_blocks h) - 1)) : Int32) = 1)))
def g_M_isBlock (_ _ : List Sh) (as : List Value) (h : HP) : GR := match as with
  | [.ref o1, .int a1] => (Nat.beq o1 0, p_M_isBlock h a1, none, some (.int (v_M_isBlock h a1)), h)
  | _ => bad h
def d_M_isBlock (k : Nat) : CD := (k, yX6_isBlock, cX6_isBlock, 2, some .boolean, 2, 5, 109, 0, false, true, g_M_isBlock)
theorem chk_M_isBlock : ∀ pc, am_chk cX6_isBlock k_M_isBlock pc = true := am_chkall 12 (by decide +kernel) (fun pc h => by unfold k_M_isBlock; rw [Nat.ble_eq_true_of_le h]; rfl)
theorem pf_M_isBlock : plainFor yX6_isBlock = true := by decide +kernel
theorem cu_M_isBlock : Cond.code yX6_isBlock cX6_isBlock 2 (some .boolean) ∈ am_U := am_tb 1172 (by decide +kernel) rfl
set_option maxHeartbeats 20000000 in
set_option maxRecDepth 100000 in
theorem ev_M_isBlock {e1 ro : List Sh} {P : AR → HP → Prop} (h : HP) (a1 : Int32) (hp : p_M_isBlock h a1) (hP : ∀ q, v_M_isBlock h a1 = q → RI P h q) : am_Ev m_M_isBlock (WM ++ e1) ro P (0, [.ref 0, .int a1], [], h) := by
  unfold p_M_isBlock at hp
  refine am_Ev_G [11] 400 _ ?_
  show ((p_M_blocks h) ∧ am_Ev m_M_isBlock (WM ++ e1) ro P (11, [.ref 0, .int a1], [.int (v_M_in h a1 0 ((v_M_blocks h) - 1))], h))
  obtain ⟨hob, hp⟩ := hp
  refine ⟨hob, ?_⟩
  refine am_Ev_G [] 400 _ ?_
  show (((((v_M_in h a1 0 ((v_M_blocks h) - 1)) : Int32) = 0 ∨ ((v_M_in h a1 0 ((v_M_blocks h) - 1)) : Int32) = 1)) ∧ P (.inl (some (.int (v_M_in h a1 0 ((v_M_blocks h) - 1))))) h)
  refine ⟨hp, ?_⟩
  exact hP (v_M_in h a1 0 ((v_M_blocks h) - 1)) rfl
theorem ok_M_isBlock {l : Launch} (hl : l.stackTraces = false) (e1 ro : List Sh) (k : Nat) : am_Ok l (WM ++ e1) ro (d_M_isBlock k) := by
  refine am_met hl (own := RX6) (M := m_M_isBlock) rfl pf_M_isBlock cu_M_isBlock rfl rfl rfl rfl (fun _ => rfl) rfl ⟨chk_M_isBlock, (am_n), (am_c (lk_M_93) (am_c (lk_M_127) am_n)), (am_n), (am_n)⟩ (am_n) (am_c (ok_M_blocks hl e1 _ 16) (am_c (ok_M_in hl e1 _ 0) am_n)) (fun z => nomatch z) ?_ ?_
  · intro _ as h hg
    show g_thr (g_M_isBlock (WM ++ e1) ro as h) = none
    unfold g_M_isBlock
    split <;> rfl
  · intro as h hg hp
    revert hg hp
    show g_ok (g_M_isBlock (WM ++ e1) ro as h) = true → g_pre (g_M_isBlock (WM ++ e1) ro as h) → _ ∧ am_Ev m_M_isBlock (WM ++ e1) ro (am_eq (g_M_isBlock (WM ++ e1) ro as h)) (0, am_ent as 2, [], h)
    unfold g_M_isBlock
    split
    · rename_i o1 a1
      intro hc hp
      change (Nat.beq o1 0) = true at hc
      obtain rfl := am_beq hc
      exact ⟨Nat.le_of_ble_eq_true rfl, ev_M_isBlock h a1 hp eqRI⟩
    · exact fun z => nomatch z
def k_M_blockOf (pc : Nat) : Ent := bif Nat.ble 44 pc then am_nop else bif Nat.ble 20 pc then (bif Nat.ble 31 pc then (bif Nat.ble 38 pc then (bif Nat.ble 40 pc then (bif Nat.ble 43 pc then (bif Nat.beq pc 43 then (.ireturn, 0, 0, []) else am_nop) else (bif Nat.beq pc 40 then (.invokevirtual 134, 0, 0, []) else am_nop)) else (bif Nat.ble 39 pc then (bif Nat.beq pc 39 then (.iconst 2, 2, 0, []) else am_nop) else (bif Nat.beq pc 38 then (.aload_n 0, 0, 0, []) else am_nop))) else (bif Nat.ble 32 pc then (bif Nat.ble 35 pc then (bif Nat.beq pc 35 then (.goto 8, 0, 43, []) else am_nop) else (bif Nat.beq pc 32 then (.invokevirtual 224, 0, 0, []) else am_nop)) else (bif Nat.beq pc 31 then (.iload_n 2, 0, 2, []) else am_nop))) else (bif Nat.ble 26 pc then (bif Nat.ble 29 pc then (bif Nat.ble 30 pc then (bif Nat.beq pc 30 then (.iload_n 1, 0, 1, []) else am_nop) else (bif Nat.beq pc 29 then (.aload_n 0, 0, 0, []) else am_nop)) else (bif Nat.beq pc 26 then (.ifCond .eq 12, 0, 38, []) else am_nop)) else (bif Nat.ble 21 pc then (bif Nat.ble 23 pc then (bif Nat.beq pc 23 then (.invokestatic 127, 0, 0, []) else am_nop) else (bif Nat.beq pc 21 then (.bipush 6, 6, 0, []) else am_nop)) else (bif Nat.beq pc 20 then (.iconst 0, 0, 0, []) else am_nop)))) else (bif Nat.ble 10 pc then (bif Nat.ble 15 pc then (bif Nat.ble 18 pc then (bif Nat.ble 19 pc then (bif Nat.beq pc 19 then (.iload_n 2, 0, 2, []) else am_nop) else (bif Nat.beq pc 18 then (.ireturn, 0, 0, []) else am_nop)) else (bif Nat.beq pc 15 then (.invokevirtual 134, 0, 0, []) else am_nop)) else (bif Nat.ble 13 pc then (bif Nat.ble 14 pc then (bif Nat.beq pc 14 then (.iconst 1, 1, 0, []) else am_nop) else (bif Nat.beq pc 13 then (.aload_n 0, 0, 0, []) else am_nop)) else (bif Nat.beq pc 10 then (.ifCond .ne 9, 0, 19, []) else am_nop))) else (bif Nat.ble 5 pc then (bif Nat.ble 6 pc then (bif Nat.ble 7 pc then (bif Nat.beq pc 7 then (.invokevirtual 221, 0, 0, []) else am_nop) else (bif Nat.beq pc 6 then (.iload_n 1, 0, 1, []) else am_nop)) else (bif Nat.beq pc 5 then (.aload_n 0, 0, 0, []) else am_nop)) else (bif Nat.ble 1 pc then (bif Nat.ble 2 pc then (bif Nat.beq pc 2 then (.putfield 38, 0, 0, []) else am_nop) else (bif Nat.beq pc 1 then (.iconst 0, 0, 0, []) else am_nop)) else (bif Nat.beq pc 0 then (.aload_n 0, 0, 0, []) else am_nop))))
theorem lk_M_221 : am_lnk RX6 221 (d_M_isBlock 16) := ⟨⟨by decide, by decide⟩, am_tb 8 (by decide +kernel) rfl, Or.inr ⟨by decide, rfl, am_tb 1171 (by decide +kernel) rfl, am_tp 104 (by decide +kernel) rfl, ⟨TX6, 16, rfl⟩, Or.inl (am_tb 1169 (by decide +kernel) rfl)⟩⟩
theorem lk_M_224 : am_lnk RX6 224 (d_M_aboutBlock 16) := ⟨⟨by decide, by decide⟩, am_tb 8 (by decide +kernel) rfl, Or.inr ⟨by decide, rfl, am_tb 1175 (by decide +kernel) rfl, am_tp 105 (by decide +kernel) rfl, ⟨TX6, 16, rfl⟩, Or.inl (am_tb 1173 (by decide +kernel) rfl)⟩⟩
def m_M_blockOf : MI := (k_M_blockOf, [(38, 6, 8)], [(127, d_M_in 0), (134, d_M_refuses 16), (221, d_M_isBlock 16), (224, d_M_aboutBlock 16)], [], [], [], [], 6, 133, some .int, fun _ => 0, 1)
def v_M_blockOf (h : HP) (a1 : Int32) (a2 : Int32) : Int32 × HP := (if (v_M_isBlock (am_si h 0 8 0) a1) = 0 then (bnd (v_M_refuses (am_si h 0 8 0) 1) fun y3 => (y3.1, y3.2)) else (if (v_M_in (am_si h 0 8 0) a2 0 6) = 0 then (bnd (v_M_refuses (am_si h 0 8 0) 2) fun y1 => (y1.1, y1.2)) else (bnd (v_M_aboutBlock (am_si h 0 8 0) a1 a2) fun y2 => (y2.1, y2.2))))
def p_M_blockOf (h : HP) (a1 : Int32) (a2 : Int32) : Prop := ((p_M_isBlock (am_si h 0 8 0) a1) ∧ (((v_M_isBlock (am_si h 0 8 0) a1) = 0 → True) ∧ (¬ (v_M_isBlock (am_si h 0 8 0) a1) = 0 → (((v_M_in (am_si h 0 8 0) a2 0 6) = 0 → True) ∧ (¬ (v_M_in (am_si h 0 8 0) a2 0 6) = 0 → (p_M_aboutBlock (am_si h 0 8 0) a1 a2))))))
def g_M_blockOf (_ _ : List Sh) (as : List Value) (h : HP) : GR := match as with
  | [.ref o1, .int a1, .int a2] => (Nat.beq o1 0, p_M_blockOf h a1 a2, none, some (.int (v_M_blockOf h a1 a2).1), (v_M_blockOf h a1 a2).2)
  | _ => bad h
def d_M_blockOf (k : Nat) : CD := (k, yX6_blockOf, cX6_blockOf, 3, some .int, 3, 6, 133, 0, false, true, g_M_blockOf)
theorem chk_M_blockOf : ∀ pc, am_chk cX6_blockOf k_M_blockOf pc = true := am_chkall 44 (by decide +kernel) (fun pc h => by unfold k_M_blockOf; rw [Nat.ble_eq_true_of_le h]; rfl)
theorem pf_M_blockOf : plainFor yX6_blockOf = true := by decide +kernel
theorem cu_M_blockOf : Cond.code yX6_blockOf cX6_blockOf 3 (some .int) ∈ am_U := am_tb 1168 (by decide +kernel) rfl
set_option maxHeartbeats 20000000 in
set_option maxRecDepth 100000 in
theorem ev_M_blockOf {e1 ro : List Sh} {P : AR → HP → Prop} (h : HP) (a1 : Int32) (a2 : Int32) (hp : p_M_blockOf h a1 a2) (hP : ∀ q, v_M_blockOf h a1 a2 = q → RIW P h q) : am_Ev m_M_blockOf (WM ++ e1) ro P (0, [.ref 0, .int a1, .int a2], [], h) := by
  unfold p_M_blockOf at hp
  refine am_Ev_G [5] 400 _ ?_
  show am_Ev m_M_blockOf (WM ++ e1) ro P (5, [.ref 0, .int a1, .int a2], [], (am_si h 0 8 0))
  refine am_Ev_G [18, 35, 43] 400 _ ?_
  show ((p_M_isBlock (am_si h 0 8 0) a1) ∧ ((¬ (v_M_isBlock (am_si h 0 8 0) a1) = 0 → (((v_M_in (am_si h 0 8 0) a2 0 6) = 0 → am_Ev m_M_blockOf (WM ++ e1) ro P (43, [.ref 0, .int a1, .int a2], [.int ((v_M_refuses (am_si h 0 8 0) 2).1)], ((v_M_refuses (am_si h 0 8 0) 2).2))) ∧ (¬ (v_M_in (am_si h 0 8 0) a2 0 6) = 0 → ((p_M_aboutBlock (am_si h 0 8 0) a1 a2) ∧ am_Ev m_M_blockOf (WM ++ e1) ro P (35, [.ref 0, .int a1, .int a2], [.int ((v_M_aboutBlock (am_si h 0 8 0) a1 a2).1)], ((v_M_aboutBlock (am_si h 0 8 0) a1 a2).2)))))) ∧ ((v_M_isBlock (am_si h 0 8 0) a1) = 0 → am_Ev m_M_blockOf (WM ++ e1) ro P (18, [.ref 0, .int a1, .int a2], [.int ((v_M_refuses (am_si h 0 8 0) 1).1)], ((v_M_refuses (am_si h 0 8 0) 1).2)))))
  obtain ⟨hob, hp⟩ := hp
  refine ⟨hob, ?_⟩
  refine ⟨fun c1 => ?_, fun c1 => ?_⟩
  · have hp := hp.2 c1
    refine ⟨fun c2 => ?_, fun c2 => ?_⟩
    · skip
      obtain ⟨y1, c3⟩ : ∃ y, v_M_refuses (am_si h 0 8 0) 2 = y := ⟨_, rfl⟩
      rw [c3]
      show am_Ev m_M_blockOf (WM ++ e1) ro P (43, [.ref 0, .int a1, .int a2], [.int y1.1], y1.2)
      refine am_Ev_G [] 400 _ ?_
      show P (.inl (some (.int y1.1))) y1.2
      exact hP (y1.1, y1.2) (by unfold v_M_blockOf; simp only [if_neg c1, if_pos c2, bnd, c3])
    · have hp := hp.2 c2
      refine ⟨hp, ?_⟩
      obtain ⟨y2, c4⟩ : ∃ y, v_M_aboutBlock (am_si h 0 8 0) a1 a2 = y := ⟨_, rfl⟩
      rw [c4]
      show am_Ev m_M_blockOf (WM ++ e1) ro P (35, [.ref 0, .int a1, .int a2], [.int y2.1], y2.2)
      refine am_Ev_G [43] 400 _ ?_
      show am_Ev m_M_blockOf (WM ++ e1) ro P (43, [.ref 0, .int a1, .int a2], [.int y2.1], y2.2)
      refine am_Ev_G [] 400 _ ?_
      show P (.inl (some (.int y2.1))) y2.2
      exact hP (y2.1, y2.2) (by unfold v_M_blockOf; simp only [if_neg c1, if_neg c2, bnd, c4])
  · skip
    obtain ⟨y3, c5⟩ : ∃ y, v_M_refuses (am_si h 0 8 0) 1 = y := ⟨_, rfl⟩
    rw [c5]
    show am_Ev m_M_blockOf (WM ++ e1) ro P (18, [.ref 0, .int a1, .int a2], [.int y3.1], y3.2)
    refine am_Ev_G [] 400 _ ?_
    show P (.inl (some (.int y3.1))) y3.2
    exact hP (y3.1, y3.2) (by unfold v_M_blockOf; simp only [if_pos c1, bnd, c5])
theorem ok_M_blockOf {l : Launch} (hl : l.stackTraces = false) (e1 ro : List Sh) (k : Nat) : am_Ok l (WM ++ e1) ro (d_M_blockOf k) := by
  refine am_met hl (own := RX6) (M := m_M_blockOf) rfl pf_M_blockOf cu_M_blockOf rfl rfl rfl rfl (fun _ => rfl) rfl ⟨chk_M_blockOf, (am_c (fl_M_38) am_n), (am_c (lk_M_127) (am_c (lk_M_134) (am_c (lk_M_221) (am_c (lk_M_224) am_n)))), (am_n), (am_n)⟩ (am_n) (am_c (ok_M_in hl e1 _ 0) (am_c (ok_M_refuses hl e1 _ 16) (am_c (ok_M_isBlock hl e1 _ 16) (am_c (ok_M_aboutBlock hl e1 _ 16) am_n)))) (fun z => nomatch z) ?_ ?_
  · intro _ as h hg
    show g_thr (g_M_blockOf (WM ++ e1) ro as h) = none
    unfold g_M_blockOf
    split <;> rfl
  · intro as h hg hp
    revert hg hp
    show g_ok (g_M_blockOf (WM ++ e1) ro as h) = true → g_pre (g_M_blockOf (WM ++ e1) ro as h) → _ ∧ am_Ev m_M_blockOf (WM ++ e1) ro (am_eq (g_M_blockOf (WM ++ e1) ro as h)) (0, am_ent as 3, [], h)
    unfold g_M_blockOf
    split
    · rename_i o1 a1 a2
      intro hc hp
      change (Nat.beq o1 0) = true at hc
      obtain rfl := am_beq hc
      exact ⟨Nat.le_of_ble_eq_true rfl, ev_M_blockOf h a1 a2 hp eqRIW⟩
    · exact fun z => nomatch z
end
