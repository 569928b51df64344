/-! THE LAW'S small methods, out of their code (written by gen/law31.py). -/
noncomputable section
/-- a character of a word -/
def bcode (w : Int64) (k : Int32) : Int32 := ((w >>> (k.toInt64 &&& 63)) &&& 255).toInt32
def k_L_part (pc : Nat) : Ent := bif Nat.ble 7 pc then am_nop else bif Nat.ble 4 pc then (bif Nat.ble 5 pc then (bif Nat.ble 6 pc then (bif Nat.beq pc 6 then (.ireturn, 0, 0, []) else am_nop) else (bif Nat.beq pc 5 then (.irem, 0, 0, []) else am_nop)) else (bif Nat.beq pc 4 then (.iload_n 1, 0, 1, []) else am_nop)) else (bif Nat.ble 1 pc then (bif Nat.ble 3 pc then (bif Nat.beq pc 3 then (.iand, 0, 0, []) else am_nop) else (bif Nat.beq pc 1 then (.ldc 7, 0, 0, []) else am_nop)) else (bif Nat.beq pc 0 then (.iload_n 0, 0, 0, []) else am_nop))
theorem ck_L_7 : am_cok RL 7 (.int 2147483647) := am_tb 511 (by decide +kernel) rfl
def m_L_part : MI := (k_L_part, [], [], [(7, .int 2147483647)], [], [], [], 0, 0, some .int, fun _ => 0, 1)
def v_L_part (h : HP) (a1 : Int32) (a2 : Int32) : Int32 := ((a1 &&& 2147483647) - (a1 &&& 2147483647) / a2 * a2)
def p_L_part (h : HP) (a1 : Int32) (a2 : Int32) : Prop := (¬ a2 = 0)
def g_L_part (_ _ : List Sh) (as : List Value) (h : HP) : GR := match as with
  | [.int a1, .int a2] => (true, p_L_part h a1 a2, none, some (.int (v_L_part h a1 a2)), h)
  | _ => bad h
def d_L_part (k : Nat) : CD := (k, yL_part, cL_part, 2, some .int, 2, 0, 0, 0, false, true, g_L_part)
theorem chk_L_part : ∀ pc, am_chk cL_part k_L_part pc = true := am_chkall 7 (by decide +kernel) (fun pc h => by unfold k_L_part; rw [Nat.ble_eq_true_of_le h]; rfl)
theorem pf_L_part : plainFor yL_part = true := by decide +kernel
theorem cu_L_part : Cond.code yL_part cL_part 2 (some .int) ∈ am_U := am_tb 510 (by decide +kernel) rfl
set_option maxRecDepth 100000 in
theorem ev_L_part {e1 e2 : List Sh} {P : AR → HP → Prop} (h : HP) (a1 : Int32) (a2 : Int32) (hp : p_L_part h a1 a2) (hP : ∀ q, v_L_part h a1 a2 = q → RI P h q) : am_Ev m_L_part (WB ++ e1) (RO ++ e2) P (0, [.int a1, .int a2], [], h) := by
  unfold p_L_part at hp
  refine am_Ev_G [] 400 _ ?_
  show ((¬ a2 = 0) ∧ P (.inl (some (.int ((a1 &&& 2147483647) - (a1 &&& 2147483647) / a2 * a2)))) h)
  refine ⟨hp, ?_⟩
  exact hP ((a1 &&& 2147483647) - (a1 &&& 2147483647) / a2 * a2) rfl
theorem ok_L_part {l : Launch} (hl : l.stackTraces = false) (e1 e2 : List Sh) (k : Nat) : am_Ok l (WB ++ e1) (RO ++ e2) (d_L_part k) := by
  refine am_met hl (own := RL) (M := m_L_part) rfl pf_L_part cu_L_part rfl rfl rfl rfl (fun _ => rfl) rfl ⟨chk_L_part, (am_n), (am_n), (am_c (ck_L_7) am_n), (am_n)⟩ (am_n) (am_n) (fun z => nomatch z) ?_ ?_
  · intro _ as h hg
    show g_thr (g_L_part (WB ++ e1) (RO ++ e2) as h) = none
    unfold g_L_part
    split <;> rfl
  · intro as h hg hp
    revert hg hp
    show g_ok (g_L_part (WB ++ e1) (RO ++ e2) as h) = true → g_pre (g_L_part (WB ++ e1) (RO ++ e2) as h) → _ ∧ am_Ev m_L_part (WB ++ e1) (RO ++ e2) (am_eq (g_L_part (WB ++ e1) (RO ++ e2) as h)) (0, am_ent as 2, [], h)
    unfold g_L_part
    split
    · rename_i a1 a2
      intro hc hp
      exact ⟨Nat.le_of_ble_eq_true rfl, ev_L_part h a1 a2 hp eqRI⟩
    · exact fun z => nomatch z
def k_L_far (pc : Nat) : Ent := bif Nat.ble 34 pc then am_nop else bif Nat.ble 16 pc then (bif Nat.ble 23 pc then (bif Nat.ble 28 pc then (bif Nat.ble 31 pc then (bif Nat.ble 33 pc then (bif Nat.beq pc 33 then (.ireturn, 0, 0, []) else am_nop) else (bif Nat.beq pc 31 then (.ldc 7, 0, 0, []) else am_nop)) else (bif Nat.beq pc 28 then (.goto 5, 0, 33, []) else am_nop)) else (bif Nat.ble 26 pc then (bif Nat.beq pc 26 then (.ldc 106, 0, 0, []) else am_nop) else (bif Nat.beq pc 23 then (.if_icmp .ne 8, 0, 31, []) else am_nop))) else (bif Nat.ble 18 pc then (bif Nat.ble 21 pc then (bif Nat.ble 22 pc then (bif Nat.beq pc 22 then (.iconst 2, 2, 0, []) else am_nop) else (bif Nat.beq pc 21 then (.iload_n 0, 0, 0, []) else am_nop)) else (bif Nat.beq pc 18 then (.goto 15, 0, 33, []) else am_nop)) else (bif Nat.ble 17 pc then (bif Nat.beq pc 17 then (.iadd, 0, 0, []) else am_nop) else (bif Nat.beq pc 16 then (.iconst 1, 1, 0, []) else am_nop)))) else (bif Nat.ble 7 pc then (bif Nat.ble 11 pc then (bif Nat.ble 12 pc then (bif Nat.ble 15 pc then (bif Nat.beq pc 15 then (.iload_n 2, 0, 2, []) else am_nop) else (bif Nat.beq pc 12 then (.if_icmp .ne 9, 0, 21, []) else am_nop)) else (bif Nat.beq pc 11 then (.iconst 1, 1, 0, []) else am_nop)) else (bif Nat.ble 10 pc then (bif Nat.beq pc 10 then (.iload_n 0, 0, 0, []) else am_nop) else (bif Nat.beq pc 7 then (.goto 26, 0, 33, []) else am_nop))) else (bif Nat.ble 4 pc then (bif Nat.ble 5 pc then (bif Nat.ble 6 pc then (bif Nat.beq pc 6 then (.isub, 0, 0, []) else am_nop) else (bif Nat.beq pc 5 then (.iconst 1, 1, 0, []) else am_nop)) else (bif Nat.beq pc 4 then (.iload_n 1, 0, 1, []) else am_nop)) else (bif Nat.ble 1 pc then (bif Nat.beq pc 1 then (.ifCond .ne 9, 0, 10, []) else am_nop) else (bif Nat.beq pc 0 then (.iload_n 0, 0, 0, []) else am_nop))))
theorem ck_L_106 : am_cok RL 106 (.int (-2147483648 : Int32)) := am_tb 786 (by decide +kernel) rfl
def m_L_far : MI := (k_L_far, [], [], [(7, .int 2147483647), (106, .int (-2147483648 : Int32))], [], [], [], 0, 0, some .int, fun _ => 0, 1)
def v_L_far (h : HP) (a1 : Int32) (a2 : Int32) (a3 : Int32) : Int32 := (if a1 = 0 then (a2 - 1) else (if a1 = 1 then (a3 + 1) else (if a1 = 2 then (-2147483648 : Int32) else 2147483647)))
def g_L_far (_ _ : List Sh) (as : List Value) (h : HP) : GR := match as with
  | [.int a1, .int a2, .int a3] => (true, True, none, some (.int (v_L_far h a1 a2 a3)), h)
  | _ => bad h
def d_L_far (k : Nat) : CD := (k, yL_far, cL_far, 3, some .int, 3, 0, 0, 0, false, false, g_L_far)
theorem chk_L_far : ∀ pc, am_chk cL_far k_L_far pc = true := am_chkall 34 (by decide +kernel) (fun pc h => by unfold k_L_far; rw [Nat.ble_eq_true_of_le h]; rfl)
theorem pf_L_far : plainFor yL_far = true := by decide +kernel
theorem cu_L_far : Cond.code yL_far cL_far 3 (some .int) ∈ am_U := am_tb 785 (by decide +kernel) rfl
set_option maxRecDepth 100000 in
theorem ev_L_far {e1 e2 : List Sh} {P : AR → HP → Prop} (h : HP) (a1 : Int32) (a2 : Int32) (a3 : Int32) (hP : ∀ q, v_L_far h a1 a2 a3 = q → RI P h q) : am_Ev m_L_far (WB ++ e1) (RO ++ e2) P (0, [.int a1, .int a2, .int a3], [], h) := by
  refine am_Ev_G [1] 400 _ ?_
  show am_Ev m_L_far (WB ++ e1) (RO ++ e2) P (1, [.int a1, .int a2, .int a3], [.int a1], h)
  have key1 : am_Ev m_L_far (WB ++ e1) (RO ++ e2) P (33, [.int a1, .int a2, .int a3], [.int (if a1 = 0 then (a2 - 1) else (if a1 = 1 then (a3 + 1) else (if a1 = 2 then (-2147483648 : Int32) else 2147483647)))], h) := by
    refine am_Ev_G [] 400 _ ?_
    show P (.inl (some (.int (if a1 = 0 then (a2 - 1) else (if a1 = 1 then (a3 + 1) else (if a1 = 2 then (-2147483648 : Int32) else 2147483647)))))) h
    exact hP (if a1 = 0 then (a2 - 1) else (if a1 = 1 then (a3 + 1) else (if a1 = 2 then (-2147483648 : Int32) else 2147483647))) rfl
  refine am_Ev_G [33] 400 _ ?_
  show ((¬ a1 = 0 → ((¬ a1 = 1 → ((¬ a1 = 2 → am_Ev m_L_far (WB ++ e1) (RO ++ e2) P (33, [.int a1, .int a2, .int a3], [.int 2147483647], h)) ∧ (a1 = 2 → am_Ev m_L_far (WB ++ e1) (RO ++ e2) P (33, [.int a1, .int a2, .int a3], [.int (-2147483648 : Int32)], h)))) ∧ (a1 = 1 → am_Ev m_L_far (WB ++ e1) (RO ++ e2) P (33, [.int a1, .int a2, .int a3], [.int (a3 + 1)], h)))) ∧ (a1 = 0 → am_Ev m_L_far (WB ++ e1) (RO ++ e2) P (33, [.int a1, .int a2, .int a3], [.int (a2 - 1)], h)))
  refine ⟨fun c2 => ?_, fun c2 => ?_⟩
  · skip
    refine ⟨fun c3 => ?_, fun c3 => ?_⟩
    · skip
      refine ⟨fun c4 => ?_, fun c4 => ?_⟩
      · skip
        simpa only [if_neg c2, if_neg c3, if_neg c4] using key1
      · skip
        simpa only [if_neg c2, if_neg c3, if_pos c4] using key1
    · skip
      simpa only [if_neg c2, if_pos c3] using key1
  · skip
    simpa only [if_pos c2] using key1
theorem ok_L_far {l : Launch} (hl : l.stackTraces = false) (e1 e2 : List Sh) (k : Nat) : am_Ok l (WB ++ e1) (RO ++ e2) (d_L_far k) := by
  refine am_met hl (own := RL) (M := m_L_far) rfl pf_L_far cu_L_far rfl rfl rfl rfl (fun _ => rfl) rfl ⟨chk_L_far, (am_n), (am_n), (am_c (ck_L_7) (am_c (ck_L_106) am_n)), (am_n)⟩ (am_n) (am_n) ?_ ?_ ?_
  · intro _ as h hg
    show g_pre (g_L_far (WB ++ e1) (RO ++ e2) as h)
    unfold g_L_far
    split <;> exact trivial
  · intro _ as h hg
    show g_thr (g_L_far (WB ++ e1) (RO ++ e2) as h) = none
    unfold g_L_far
    split <;> rfl
  · intro as h hg hp
    revert hg hp
    show g_ok (g_L_far (WB ++ e1) (RO ++ e2) as h) = true → g_pre (g_L_far (WB ++ e1) (RO ++ e2) as h) → _ ∧ am_Ev m_L_far (WB ++ e1) (RO ++ e2) (am_eq (g_L_far (WB ++ e1) (RO ++ e2) as h)) (0, am_ent as 3, [], h)
    unfold g_L_far
    split
    · rename_i a1 a2 a3
      intro hc hp
      exact ⟨Nat.le_of_ble_eq_true rfl, ev_L_far h a1 a2 a3 eqRI⟩
    · exact fun z => nomatch z
def k_L_seen (pc : Nat) : Ent := bif Nat.ble 131 pc then am_nop else bif Nat.ble 65 pc then (bif Nat.ble 96 pc then (bif Nat.ble 114 pc then (bif Nat.ble 121 pc then (bif Nat.ble 126 pc then (bif Nat.ble 129 pc then (bif Nat.ble 130 pc then (bif Nat.beq pc 130 then (.lreturn, 0, 0, []) else am_nop) else (bif Nat.beq pc 129 then (.lload_n 1, 0, 1, []) else am_nop)) else (bif Nat.beq pc 126 then (.goto (-21), 0, 105, []) else am_nop)) else (bif Nat.ble 122 pc then (bif Nat.ble 123 pc then (bif Nat.beq pc 123 then (.iinc 3 1, 1, 3, []) else am_nop) else (bif Nat.beq pc 122 then (.lstore_n 1, 0, 1, []) else am_nop)) else (bif Nat.beq pc 121 then (.ladd, 0, 0, []) else am_nop))) else (bif Nat.ble 116 pc then (bif Nat.ble 117 pc then (bif Nat.ble 120 pc then (bif Nat.beq pc 120 then (.i2l, 0, 0, []) else am_nop) else (bif Nat.beq pc 117 then (.invokevirtual 81, 0, 0, []) else am_nop)) else (bif Nat.beq pc 116 then (.iload_n 3, 0, 3, []) else am_nop)) else (bif Nat.ble 115 pc then (bif Nat.beq pc 115 then (.aload_n 0, 0, 0, []) else am_nop) else (bif Nat.beq pc 114 then (.lmul, 0, 0, []) else am_nop)))) else (bif Nat.ble 105 pc then (bif Nat.ble 107 pc then (bif Nat.ble 110 pc then (bif Nat.ble 113 pc then (bif Nat.beq pc 113 then (.lload_n 1, 0, 1, []) else am_nop) else (bif Nat.beq pc 110 then (.ldc2_w 104, 0, 0, []) else am_nop)) else (bif Nat.beq pc 107 then (.if_icmp .ge 22, 0, 129, []) else am_nop)) else (bif Nat.ble 106 pc then (bif Nat.beq pc 106 then (.iconst 4, 4, 0, []) else am_nop) else (bif Nat.beq pc 105 then (.iload_n 3, 0, 3, []) else am_nop))) else (bif Nat.ble 100 pc then (bif Nat.ble 103 pc then (bif Nat.ble 104 pc then (bif Nat.beq pc 104 then (.istore_n 3, 0, 3, []) else am_nop) else (bif Nat.beq pc 103 then (.iconst 0, 0, 0, []) else am_nop)) else (bif Nat.beq pc 100 then (.goto (-35), 0, 65, []) else am_nop)) else (bif Nat.ble 97 pc then (bif Nat.beq pc 97 then (.iinc 3 1, 1, 3, []) else am_nop) else (bif Nat.beq pc 96 then (.lstore_n 1, 0, 1, []) else am_nop))))) else (bif Nat.ble 82 pc then (bif Nat.ble 88 pc then (bif Nat.ble 91 pc then (bif Nat.ble 94 pc then (bif Nat.ble 95 pc then (bif Nat.beq pc 95 then (.ladd, 0, 0, []) else am_nop) else (bif Nat.beq pc 94 then (.i2l, 0, 0, []) else am_nop)) else (bif Nat.beq pc 91 then (.invokevirtual 68, 0, 0, []) else am_nop)) else (bif Nat.ble 90 pc then (bif Nat.beq pc 90 then (.irem, 0, 0, []) else am_nop) else (bif Nat.beq pc 88 then (.bipush 9, 9, 0, []) else am_nop))) else (bif Nat.ble 84 pc then (bif Nat.ble 86 pc then (bif Nat.ble 87 pc then (bif Nat.beq pc 87 then (.iload_n 3, 0, 3, []) else am_nop) else (bif Nat.beq pc 86 then (.idiv, 0, 0, []) else am_nop)) else (bif Nat.beq pc 84 then (.bipush 9, 9, 0, []) else am_nop)) else (bif Nat.ble 83 pc then (bif Nat.beq pc 83 then (.iload_n 3, 0, 3, []) else am_nop) else (bif Nat.beq pc 82 then (.aload_n 0, 0, 0, []) else am_nop)))) else (bif Nat.ble 73 pc then (bif Nat.ble 77 pc then (bif Nat.ble 80 pc then (bif Nat.ble 81 pc then (bif Nat.beq pc 81 then (.lmul, 0, 0, []) else am_nop) else (bif Nat.beq pc 80 then (.lload_n 1, 0, 1, []) else am_nop)) else (bif Nat.beq pc 77 then (.ldc2_w 104, 0, 0, []) else am_nop)) else (bif Nat.ble 74 pc then (bif Nat.beq pc 74 then (.if_icmp .ge 29, 0, 103, []) else am_nop) else (bif Nat.beq pc 73 then (.imul, 0, 0, []) else am_nop))) else (bif Nat.ble 68 pc then (bif Nat.ble 69 pc then (bif Nat.ble 70 pc then (bif Nat.beq pc 70 then (.invokevirtual 78, 0, 0, []) else am_nop) else (bif Nat.beq pc 69 then (.iconst 0, 0, 0, []) else am_nop)) else (bif Nat.beq pc 68 then (.aload_n 0, 0, 0, []) else am_nop)) else (bif Nat.ble 66 pc then (bif Nat.beq pc 66 then (.bipush 9, 9, 0, []) else am_nop) else (bif Nat.beq pc 65 then (.iload_n 3, 0, 3, []) else am_nop)))))) else (bif Nat.ble 33 pc then (bif Nat.ble 48 pc then (bif Nat.ble 55 pc then (bif Nat.ble 60 pc then (bif Nat.ble 63 pc then (bif Nat.ble 64 pc then (bif Nat.beq pc 64 then (.istore_n 3, 0, 3, []) else am_nop) else (bif Nat.beq pc 63 then (.iconst 0, 0, 0, []) else am_nop)) else (bif Nat.beq pc 60 then (.goto (-27), 0, 33, []) else am_nop)) else (bif Nat.ble 56 pc then (bif Nat.ble 57 pc then (bif Nat.beq pc 57 then (.iinc 3 1, 1, 3, []) else am_nop) else (bif Nat.beq pc 56 then (.lstore_n 1, 0, 1, []) else am_nop)) else (bif Nat.beq pc 55 then (.ladd, 0, 0, []) else am_nop))) else (bif Nat.ble 50 pc then (bif Nat.ble 51 pc then (bif Nat.ble 54 pc then (bif Nat.beq pc 54 then (.i2l, 0, 0, []) else am_nop) else (bif Nat.beq pc 51 then (.invokevirtual 65, 0, 0, []) else am_nop)) else (bif Nat.beq pc 50 then (.irem, 0, 0, []) else am_nop)) else (bif Nat.ble 49 pc then (bif Nat.beq pc 49 then (.iconst 5, 5, 0, []) else am_nop) else (bif Nat.beq pc 48 then (.iload_n 3, 0, 3, []) else am_nop)))) else (bif Nat.ble 43 pc then (bif Nat.ble 45 pc then (bif Nat.ble 46 pc then (bif Nat.ble 47 pc then (bif Nat.beq pc 47 then (.idiv, 0, 0, []) else am_nop) else (bif Nat.beq pc 46 then (.iconst 5, 5, 0, []) else am_nop)) else (bif Nat.beq pc 45 then (.iload_n 3, 0, 3, []) else am_nop)) else (bif Nat.ble 44 pc then (bif Nat.beq pc 44 then (.aload_n 0, 0, 0, []) else am_nop) else (bif Nat.beq pc 43 then (.lmul, 0, 0, []) else am_nop))) else (bif Nat.ble 36 pc then (bif Nat.ble 39 pc then (bif Nat.ble 42 pc then (bif Nat.beq pc 42 then (.lload_n 1, 0, 1, []) else am_nop) else (bif Nat.beq pc 39 then (.ldc2_w 104, 0, 0, []) else am_nop)) else (bif Nat.beq pc 36 then (.if_icmp .ge 27, 0, 63, []) else am_nop)) else (bif Nat.ble 34 pc then (bif Nat.beq pc 34 then (.bipush 20, 20, 0, []) else am_nop) else (bif Nat.beq pc 33 then (.iload_n 3, 0, 3, []) else am_nop))))) else (bif Nat.ble 17 pc then (bif Nat.ble 24 pc then (bif Nat.ble 28 pc then (bif Nat.ble 31 pc then (bif Nat.ble 32 pc then (bif Nat.beq pc 32 then (.istore_n 3, 0, 3, []) else am_nop) else (bif Nat.beq pc 31 then (.iconst 0, 0, 0, []) else am_nop)) else (bif Nat.beq pc 28 then (.goto (-22), 0, 6, []) else am_nop)) else (bif Nat.ble 25 pc then (bif Nat.beq pc 25 then (.iinc 3 1, 1, 3, []) else am_nop) else (bif Nat.beq pc 24 then (.lstore_n 1, 0, 1, []) else am_nop))) else (bif Nat.ble 19 pc then (bif Nat.ble 22 pc then (bif Nat.ble 23 pc then (bif Nat.beq pc 23 then (.ladd, 0, 0, []) else am_nop) else (bif Nat.beq pc 22 then (.i2l, 0, 0, []) else am_nop)) else (bif Nat.beq pc 19 then (.invokevirtual 78, 0, 0, []) else am_nop)) else (bif Nat.ble 18 pc then (bif Nat.beq pc 18 then (.iload_n 3, 0, 3, []) else am_nop) else (bif Nat.beq pc 17 then (.aload_n 0, 0, 0, []) else am_nop)))) else (bif Nat.ble 7 pc then (bif Nat.ble 12 pc then (bif Nat.ble 15 pc then (bif Nat.ble 16 pc then (bif Nat.beq pc 16 then (.lmul, 0, 0, []) else am_nop) else (bif Nat.beq pc 15 then (.lload_n 1, 0, 1, []) else am_nop)) else (bif Nat.beq pc 12 then (.ldc2_w 104, 0, 0, []) else am_nop)) else (bif Nat.ble 9 pc then (bif Nat.beq pc 9 then (.if_icmp .ge 22, 0, 31, []) else am_nop) else (bif Nat.beq pc 7 then (.bipush 10, 10, 0, []) else am_nop))) else (bif Nat.ble 4 pc then (bif Nat.ble 5 pc then (bif Nat.ble 6 pc then (bif Nat.beq pc 6 then (.iload_n 3, 0, 3, []) else am_nop) else (bif Nat.beq pc 5 then (.istore_n 3, 0, 3, []) else am_nop)) else (bif Nat.beq pc 4 then (.iconst 0, 0, 0, []) else am_nop)) else (bif Nat.ble 3 pc then (bif Nat.beq pc 3 then (.lstore_n 1, 0, 1, []) else am_nop) else (bif Nat.beq pc 0 then (.ldc2_w 102, 0, 0, []) else am_nop))))))
theorem lk_L_65 : am_lnk RL 65 (d_B_terminalOf 15) := ⟨⟨by decide, by decide⟩, am_tb 1 (by decide +kernel) rfl, Or.inr ⟨by decide, rfl, am_tb 674 (by decide +kernel) rfl, am_tb 675 (by decide +kernel) rfl, ⟨TX5, 10, rfl⟩, Or.inl (am_tb 673 (by decide +kernel) rfl)⟩⟩
theorem lk_L_68 : am_lnk RL 68 (d_B_tripOf 15) := ⟨⟨by decide, by decide⟩, am_tb 1 (by decide +kernel) rfl, Or.inr ⟨by decide, rfl, am_tb 686 (by decide +kernel) rfl, am_tb 687 (by decide +kernel) rfl, ⟨TX5, 10, rfl⟩, Or.inl (am_tb 685 (by decide +kernel) rfl)⟩⟩
theorem lk_L_78 : am_lnk RL 78 (d_B_count 15) := ⟨⟨by decide, by decide⟩, am_tb 1 (by decide +kernel) rfl, Or.inr ⟨by decide, rfl, am_tb 420 (by decide +kernel) rfl, am_tb 421 (by decide +kernel) rfl, ⟨TX5, 10, rfl⟩, Or.inl (am_tb 419 (by decide +kernel) rfl)⟩⟩
theorem lk_L_81 : am_lnk RL 81 (d_B_setting 15) := ⟨⟨by decide, by decide⟩, am_tb 1 (by decide +kernel) rfl, Or.inr ⟨by decide, rfl, am_tb 748 (by decide +kernel) rfl, am_tb 749 (by decide +kernel) rfl, ⟨TX5, 10, rfl⟩, Or.inl (am_tb 747 (by decide +kernel) rfl)⟩⟩
theorem ck_L_102 : am_cok RL 102 (.long 223) := am_tb 775 (by decide +kernel) rfl
theorem ck_L_104 : am_cok RL 104 (.long 31) := am_tb 776 (by decide +kernel) rfl
def m_L_seen : MI := (k_L_seen, [], [(65, d_B_terminalOf 15), (68, d_B_tripOf 15), (78, d_B_count 15), (81, d_B_setting 15)], [(102, .long 223), (104, .long 31)], [], [], [], 8, 149, some .long, fun _ => 0, 1)
def s_L_seen_38_6 (h : HP) (v1 : Int64 × Int32 × HP) : (Int64 × Int32 × HP) ⊕ (Int64 × Int32 × HP) := (if v1.2.1 < 10 then (match v_B_count v1.2.2 v1.2.1 with | .inl _ => .inl v1 | .inr y2 => (.inl (((31 * v1.1) + ((y2.1).toInt64)), (v1.2.1 + 1), y2.2))) else (.inr (v1.1, v1.2.1, v1.2.2)))
def ps_L_seen_38_6 (h : HP) (v1 : Int64 × Int32 × HP) : Prop := ((v1.2.1 < 10 → ((p_B_count v1.2.2 v1.2.1) ∧ (∃ y, v_B_count v1.2.2 v1.2.1 = .inr y))) ∧ (¬ v1.2.1 < 10 → True))
def s_L_seen_38_33 (h : HP) (r1 : Int64 × Int32 × HP) (v1 : Int64 × Int32 × HP) : (Int64 × Int32 × HP) ⊕ (Int64 × Int32 × HP) := (if v1.2.1 < 20 then (match v_B_terminalOf v1.2.2 (v1.2.1 / 5) (v1.2.1 - v1.2.1 / 5 * 5) with | .inl _ => .inl v1 | .inr y4 => (.inl (((31 * v1.1) + ((y4.1).toInt64)), (v1.2.1 + 1), y4.2))) else (.inr (v1.1, v1.2.1, v1.2.2)))
def ps_L_seen_38_33 (h : HP) (r1 : Int64 × Int32 × HP) (v1 : Int64 × Int32 × HP) : Prop := ((v1.2.1 < 20 → ((p_B_terminalOf v1.2.2 (v1.2.1 / 5) (v1.2.1 - v1.2.1 / 5 * 5)) ∧ (∃ y, v_B_terminalOf v1.2.2 (v1.2.1 / 5) (v1.2.1 - v1.2.1 / 5 * 5) = .inr y))) ∧ (¬ v1.2.1 < 20 → True))
def s_L_seen_38_65 (h : HP) (r1 : Int64 × Int32 × HP) (r3 : Int64 × Int32 × HP) (v1 : Int64 × Int32 × HP) : (Int64 × Int32 × HP) ⊕ (Int64 × Int32 × HP) := (match v_B_count v1.2.2 0 with | .inl _ => .inl v1 | .inr y6 => (if v1.2.1 < (9 * y6.1) then (match v_B_tripOf y6.2 (v1.2.1 / 9) (v1.2.1 - v1.2.1 / 9 * 9) with | .inl _ => .inl v1 | .inr y7 => (.inl (((31 * v1.1) + ((y7).toInt64)), (v1.2.1 + 1), y6.2))) else (.inr (v1.1, v1.2.1, y6.2))))
def ps_L_seen_38_65 (h : HP) (r1 : Int64 × Int32 × HP) (r3 : Int64 × Int32 × HP) (v1 : Int64 × Int32 × HP) : Prop := ((p_B_count v1.2.2 0) ∧ ((∃ y, v_B_count v1.2.2 0 = .inr y) ∧ ∀ y6, v_B_count v1.2.2 0 = .inr y6 → ((v1.2.1 < (9 * y6.1) → ((p_B_tripOf y6.2 (v1.2.1 / 9) (v1.2.1 - v1.2.1 / 9 * 9)) ∧ (∃ y, v_B_tripOf y6.2 (v1.2.1 / 9) (v1.2.1 - v1.2.1 / 9 * 9) = .inr y))) ∧ (¬ v1.2.1 < (9 * y6.1) → True))))
def s_L_seen_38_105 (h : HP) (r1 : Int64 × Int32 × HP) (r3 : Int64 × Int32 × HP) (r5 : Int64 × Int32 × HP) (v1 : Int64 × Int32) : (Int64 × Int32) ⊕ (Int64 × Int32) := (if v1.2 < 4 then (match v_B_setting r5.2.2 v1.2 with | .inl _ => .inl v1 | .inr y9 => (.inl (((31 * v1.1) + ((y9).toInt64)), (v1.2 + 1)))) else (.inr (v1.1, v1.2)))
def ps_L_seen_38_105 (h : HP) (r1 : Int64 × Int32 × HP) (r3 : Int64 × Int32 × HP) (r5 : Int64 × Int32 × HP) (v1 : Int64 × Int32) : Prop := ((v1.2 < 4 → (∃ y, v_B_setting r5.2.2 v1.2 = .inr y)) ∧ (¬ v1.2 < 4 → True))
def v_L_seen_38 (h : HP) : Int64 × HP := (match itr (s_L_seen_38_6 h) NF (223, 0, h) with | some r1 => (match itr (s_L_seen_38_33 h r1) NF (r1.1, 0, r1.2.2) with | some r3 => (match itr (s_L_seen_38_65 h r1 r3) NF (r3.1, 0, r3.2.2) with | some r5 => (match itr (s_L_seen_38_105 h r1 r3 r5) NF (r5.1, 0) with | some r8 => (r8.1, r5.2.2) | none => (0, h)) | none => (0, h)) | none => (0, h)) | none => (0, h))
def p_L_seen_38 (h : HP) : Prop := (itrp (s_L_seen_38_6 h) (ps_L_seen_38_6 h) NF (223, 0, h) ∧ ∀ r1, itr (s_L_seen_38_6 h) NF (223, 0, h) = some r1 → (itrp (s_L_seen_38_33 h r1) (ps_L_seen_38_33 h r1) NF (r1.1, 0, r1.2.2) ∧ ∀ r3, itr (s_L_seen_38_33 h r1) NF (r1.1, 0, r1.2.2) = some r3 → (itrp (s_L_seen_38_65 h r1 r3) (ps_L_seen_38_65 h r1 r3) NF (r3.1, 0, r3.2.2) ∧ ∀ r5, itr (s_L_seen_38_65 h r1 r3) NF (r3.1, 0, r3.2.2) = some r5 → (itrp (s_L_seen_38_105 h r1 r3 r5) (ps_L_seen_38_105 h r1 r3 r5) NF (r5.1, 0)))))
def g_L_seen (_ _ : List Sh) (as : List Value) (h : HP) : GR := match as with
  | [.ref o1] => (Nat.beq o1 38, p_L_seen_38 h, none, some (.long (v_L_seen_38 h).1), (v_L_seen_38 h).2)
  | _ => bad h
def d_L_seen (k : Nat) : CD := (k, yL_seen, cL_seen, 4, some .long, 1, 8, 149, 0, false, true, g_L_seen)
theorem chk_L_seen : ∀ pc, am_chk cL_seen k_L_seen pc = true := am_chkall 131 (by decide +kernel) (fun pc h => by unfold k_L_seen; rw [Nat.ble_eq_true_of_le h]; rfl)
theorem pf_L_seen : plainFor yL_seen = true := by decide +kernel
theorem cu_L_seen : Cond.code yL_seen cL_seen 4 (some .long) ∈ am_U := am_tb 774 (by decide +kernel) rfl
set_option maxRecDepth 100000 in
theorem ev_L_seen_38 {e1 e2 : List Sh} {P : AR → HP → Prop} (h : HP) (hp : p_L_seen_38 h) (hP : ∀ q, v_L_seen_38 h = q → RJW P h q) : am_Ev m_L_seen (WB ++ e1) (RO ++ e2) P (0, [.ref 38, .retAddr 0, .retAddr 0, .retAddr 0], [], h) := by
  unfold p_L_seen_38 at hp
  refine am_Ev_G [6] 400 _ ?_
  show am_Ev m_L_seen (WB ++ e1) (RO ++ e2) P (6, [.ref 38, .long 223, .retAddr 0, .int 0], [], h)
  obtain ⟨hpl, hp⟩ := hp
  refine am_itr (E := (fun (v1 : Int64 × Int32 × HP) => am_Ev m_L_seen (WB ++ e1) (RO ++ e2) P (6, [.ref 38, .long v1.1, .retAddr 0, .int v1.2.1], [], v1.2.2))) (E' := (fun (r1 : Int64 × Int32 × HP) => am_Ev m_L_seen (WB ++ e1) (RO ++ e2) P (31, [.ref 38, .long r1.1, .retAddr 0, .int r1.2.1], [], r1.2.2))) (s_L_seen_38_6 h) (ps_L_seen_38_6 h) ?_ NF (223, 0, h) hpl ?_
  · intro v1 hp hc1 hx1
    show am_Ev m_L_seen (WB ++ e1) (RO ++ e2) P (6, [.ref 38, .long v1.1, .retAddr 0, .int v1.2.1], [], v1.2.2)
    unfold ps_L_seen_38_6 at hp
    refine am_Ev_G [22, 31] 400 _ ?_
    show ((¬ v1.2.1 < 10 → am_Ev m_L_seen (WB ++ e1) (RO ++ e2) P (31, [.ref 38, .long v1.1, .retAddr 0, .int v1.2.1], [], v1.2.2)) ∧ (v1.2.1 < 10 → ((p_B_count v1.2.2 v1.2.1) ∧ ((∀ E, rthr (v_B_count v1.2.2 v1.2.1) = some E → P (.inr E) (rhpI v1.2.2 (v_B_count v1.2.2 v1.2.1))) ∧ (rthr (v_B_count v1.2.2 v1.2.1) = none → am_Ev m_L_seen (WB ++ e1) (RO ++ e2) P (22, [.ref 38, .long v1.1, .retAddr 0, .int v1.2.1], (rvIW (v_B_count v1.2.2 v1.2.1)).toList ++ [.long (31 * v1.1)], (rhpI v1.2.2 (v_B_count v1.2.2 v1.2.1))))))))
    refine ⟨fun c1 => ?_, fun c1 => ?_⟩
    · skip
      exact hx1 (v1.1, v1.2.1, v1.2.2) (by unfold s_L_seen_38_6; simp only [if_neg c1])
    · have hp := hp.1 c1
      obtain ⟨hob, hp⟩ := hp
      refine ⟨hob, ?_⟩
      refine ⟨fun E2 h2 => ?_, fun h2 => ?_⟩
      · obtain ⟨y, hy⟩ := hp
        rw [hy] at h2
        cases h2
      · rcases c2 : v_B_count v1.2.2 v1.2.1 with E | y2
        · rw [c2] at h2
          cases h2
        · skip
          show am_Ev m_L_seen (WB ++ e1) (RO ++ e2) P (22, [.ref 38, .long v1.1, .retAddr 0, .int v1.2.1], [.int y2.1, .long (31 * v1.1)], y2.2)
          refine am_Ev_G [6] 400 _ ?_
          show am_Ev m_L_seen (WB ++ e1) (RO ++ e2) P (6, [.ref 38, .long ((31 * v1.1) + ((y2.1).toInt64)), .retAddr 0, .int (v1.2.1 + 1)], [], y2.2)
          exact hc1 (((31 * v1.1) + ((y2.1).toInt64)), (v1.2.1 + 1), y2.2) (by unfold s_L_seen_38_6; simp only [if_pos c1, c2])
  · intro r1 hr3
    have hp := hp _ hr3
    show am_Ev m_L_seen (WB ++ e1) (RO ++ e2) P (31, [.ref 38, .long r1.1, .retAddr 0, .int r1.2.1], [], r1.2.2)
    refine am_Ev_G [33] 400 _ ?_
    show am_Ev m_L_seen (WB ++ e1) (RO ++ e2) P (33, [.ref 38, .long r1.1, .retAddr 0, .int 0], [], r1.2.2)
    obtain ⟨hpl, hp⟩ := hp
    refine am_itr (E := (fun (v1 : Int64 × Int32 × HP) => am_Ev m_L_seen (WB ++ e1) (RO ++ e2) P (33, [.ref 38, .long v1.1, .retAddr 0, .int v1.2.1], [], v1.2.2))) (E' := (fun (r3 : Int64 × Int32 × HP) => am_Ev m_L_seen (WB ++ e1) (RO ++ e2) P (63, [.ref 38, .long r3.1, .retAddr 0, .int r3.2.1], [], r3.2.2))) (s_L_seen_38_33 h r1) (ps_L_seen_38_33 h r1) ?_ NF (r1.1, 0, r1.2.2) hpl ?_
    · intro v1 hp hc1 hx1
      show am_Ev m_L_seen (WB ++ e1) (RO ++ e2) P (33, [.ref 38, .long v1.1, .retAddr 0, .int v1.2.1], [], v1.2.2)
      unfold ps_L_seen_38_33 at hp
      refine am_Ev_G [47, 63] 400 _ ?_
      show ((¬ v1.2.1 < 20 → am_Ev m_L_seen (WB ++ e1) (RO ++ e2) P (63, [.ref 38, .long v1.1, .retAddr 0, .int v1.2.1], [], v1.2.2)) ∧ (v1.2.1 < 20 → am_Ev m_L_seen (WB ++ e1) (RO ++ e2) P (47, [.ref 38, .long v1.1, .retAddr 0, .int v1.2.1], [.int 5, .int v1.2.1, .ref 38, .long (31 * v1.1)], v1.2.2)))
      refine ⟨fun c4 => ?_, fun c4 => ?_⟩
      · skip
        exact hx1 (v1.1, v1.2.1, v1.2.2) (by unfold s_L_seen_38_33; simp only [if_neg c4])
      · have hp := hp.1 c4
        refine am_Ev_G [54] 400 _ ?_
        show ((¬ (5 : Int32) = 0) ∧ ((¬ (5 : Int32) = 0) ∧ ((p_B_terminalOf v1.2.2 (v1.2.1 / 5) (v1.2.1 - v1.2.1 / 5 * 5)) ∧ ((∀ E, rthr (v_B_terminalOf v1.2.2 (v1.2.1 / 5) (v1.2.1 - v1.2.1 / 5 * 5)) = some E → P (.inr E) (rhpI v1.2.2 (v_B_terminalOf v1.2.2 (v1.2.1 / 5) (v1.2.1 - v1.2.1 / 5 * 5)))) ∧ (rthr (v_B_terminalOf v1.2.2 (v1.2.1 / 5) (v1.2.1 - v1.2.1 / 5 * 5)) = none → am_Ev m_L_seen (WB ++ e1) (RO ++ e2) P (54, [.ref 38, .long v1.1, .retAddr 0, .int v1.2.1], (rvIW (v_B_terminalOf v1.2.2 (v1.2.1 / 5) (v1.2.1 - v1.2.1 / 5 * 5))).toList ++ [.long (31 * v1.1)], (rhpI v1.2.2 (v_B_terminalOf v1.2.2 (v1.2.1 / 5) (v1.2.1 - v1.2.1 / 5 * 5)))))))))
        refine ⟨(by decide), ?_⟩
        refine ⟨(by decide), ?_⟩
        obtain ⟨hob, hp⟩ := hp
        refine ⟨hob, ?_⟩
        refine ⟨fun E2 h2 => ?_, fun h2 => ?_⟩
        · obtain ⟨y, hy⟩ := hp
          rw [hy] at h2
          cases h2
        · rcases c5 : v_B_terminalOf v1.2.2 (v1.2.1 / 5) (v1.2.1 - v1.2.1 / 5 * 5) with E | y4
          · rw [c5] at h2
            cases h2
          · skip
            show am_Ev m_L_seen (WB ++ e1) (RO ++ e2) P (54, [.ref 38, .long v1.1, .retAddr 0, .int v1.2.1], [.int y4.1, .long (31 * v1.1)], y4.2)
            refine am_Ev_G [33] 400 _ ?_
            show am_Ev m_L_seen (WB ++ e1) (RO ++ e2) P (33, [.ref 38, .long ((31 * v1.1) + ((y4.1).toInt64)), .retAddr 0, .int (v1.2.1 + 1)], [], y4.2)
            exact hc1 (((31 * v1.1) + ((y4.1).toInt64)), (v1.2.1 + 1), y4.2) (by unfold s_L_seen_38_33; simp only [if_pos c4, c5])
    · intro r3 hr6
      have hp := hp _ hr6
      show am_Ev m_L_seen (WB ++ e1) (RO ++ e2) P (63, [.ref 38, .long r3.1, .retAddr 0, .int r3.2.1], [], r3.2.2)
      refine am_Ev_G [65] 400 _ ?_
      show am_Ev m_L_seen (WB ++ e1) (RO ++ e2) P (65, [.ref 38, .long r3.1, .retAddr 0, .int 0], [], r3.2.2)
      obtain ⟨hpl, hp⟩ := hp
      refine am_itr (E := (fun (v1 : Int64 × Int32 × HP) => am_Ev m_L_seen (WB ++ e1) (RO ++ e2) P (65, [.ref 38, .long v1.1, .retAddr 0, .int v1.2.1], [], v1.2.2))) (E' := (fun (r5 : Int64 × Int32 × HP) => am_Ev m_L_seen (WB ++ e1) (RO ++ e2) P (103, [.ref 38, .long r5.1, .retAddr 0, .int r5.2.1], [], r5.2.2))) (s_L_seen_38_65 h r1 r3) (ps_L_seen_38_65 h r1 r3) ?_ NF (r3.1, 0, r3.2.2) hpl ?_
      · intro v1 hp hc1 hx1
        show am_Ev m_L_seen (WB ++ e1) (RO ++ e2) P (65, [.ref 38, .long v1.1, .retAddr 0, .int v1.2.1], [], v1.2.2)
        unfold ps_L_seen_38_65 at hp
        refine am_Ev_G [70] 400 _ ?_
        show am_Ev m_L_seen (WB ++ e1) (RO ++ e2) P (70, [.ref 38, .long v1.1, .retAddr 0, .int v1.2.1], [.int 0, .ref 38, .int 9, .int v1.2.1], v1.2.2)
        refine am_Ev_G [73] 400 _ ?_
        show ((p_B_count v1.2.2 0) ∧ ((∀ E, rthr (v_B_count v1.2.2 0) = some E → P (.inr E) (rhpI v1.2.2 (v_B_count v1.2.2 0))) ∧ (rthr (v_B_count v1.2.2 0) = none → am_Ev m_L_seen (WB ++ e1) (RO ++ e2) P (73, [.ref 38, .long v1.1, .retAddr 0, .int v1.2.1], (rvIW (v_B_count v1.2.2 0)).toList ++ [.int 9, .int v1.2.1], (rhpI v1.2.2 (v_B_count v1.2.2 0))))))
        obtain ⟨hob, hp⟩ := hp
        refine ⟨hob, ?_⟩
        refine ⟨fun E2 h2 => ?_, fun h2 => ?_⟩
        · obtain ⟨⟨y, hy⟩, -⟩ := hp
          rw [hy] at h2
          cases h2
        · rcases c7 : v_B_count v1.2.2 0 with E | y6
          · rw [c7] at h2
            cases h2
          · skip
            have hp := hp.2 _ c7
            show am_Ev m_L_seen (WB ++ e1) (RO ++ e2) P (73, [.ref 38, .long v1.1, .retAddr 0, .int v1.2.1], [.int y6.1, .int 9, .int v1.2.1], y6.2)
            refine am_Ev_G [94, 103] 400 _ ?_
            show ((¬ v1.2.1 < (9 * y6.1) → am_Ev m_L_seen (WB ++ e1) (RO ++ e2) P (103, [.ref 38, .long v1.1, .retAddr 0, .int v1.2.1], [], y6.2)) ∧ (v1.2.1 < (9 * y6.1) → ((¬ (9 : Int32) = 0) ∧ ((¬ (9 : Int32) = 0) ∧ ((p_B_tripOf y6.2 (v1.2.1 / 9) (v1.2.1 - v1.2.1 / 9 * 9)) ∧ ((∀ E, rthr (v_B_tripOf y6.2 (v1.2.1 / 9) (v1.2.1 - v1.2.1 / 9 * 9)) = some E → P (.inr E) y6.2) ∧ (rthr (v_B_tripOf y6.2 (v1.2.1 / 9) (v1.2.1 - v1.2.1 / 9 * 9)) = none → am_Ev m_L_seen (WB ++ e1) (RO ++ e2) P (94, [.ref 38, .long v1.1, .retAddr 0, .int v1.2.1], (rvI (v_B_tripOf y6.2 (v1.2.1 / 9) (v1.2.1 - v1.2.1 / 9 * 9))).toList ++ [.long (31 * v1.1)], y6.2))))))))
            refine ⟨fun c8 => ?_, fun c8 => ?_⟩
            · skip
              exact hx1 (v1.1, v1.2.1, y6.2) (by unfold s_L_seen_38_65; simp only [c7, if_neg c8])
            · have hp := hp.1 c8
              refine ⟨(by decide), ?_⟩
              refine ⟨(by decide), ?_⟩
              obtain ⟨hob, hp⟩ := hp
              refine ⟨hob, ?_⟩
              refine ⟨fun E2 h2 => ?_, fun h2 => ?_⟩
              · obtain ⟨y, hy⟩ := hp
                rw [hy] at h2
                cases h2
              · rcases c9 : v_B_tripOf y6.2 (v1.2.1 / 9) (v1.2.1 - v1.2.1 / 9 * 9) with E | y7
                · rw [c9] at h2
                  cases h2
                · skip
                  show am_Ev m_L_seen (WB ++ e1) (RO ++ e2) P (94, [.ref 38, .long v1.1, .retAddr 0, .int v1.2.1], [.int y7, .long (31 * v1.1)], y6.2)
                  refine am_Ev_G [65] 400 _ ?_
                  show am_Ev m_L_seen (WB ++ e1) (RO ++ e2) P (65, [.ref 38, .long ((31 * v1.1) + ((y7).toInt64)), .retAddr 0, .int (v1.2.1 + 1)], [], y6.2)
                  exact hc1 (((31 * v1.1) + ((y7).toInt64)), (v1.2.1 + 1), y6.2) (by unfold s_L_seen_38_65; simp only [c7, if_pos c8, c9])
      · intro r5 hr10
        have hp := hp _ hr10
        show am_Ev m_L_seen (WB ++ e1) (RO ++ e2) P (103, [.ref 38, .long r5.1, .retAddr 0, .int r5.2.1], [], r5.2.2)
        refine am_Ev_G [105] 400 _ ?_
        show am_Ev m_L_seen (WB ++ e1) (RO ++ e2) P (105, [.ref 38, .long r5.1, .retAddr 0, .int 0], [], r5.2.2)
        have hpl := hp
        refine am_itr (E := (fun (v1 : Int64 × Int32) => am_Ev m_L_seen (WB ++ e1) (RO ++ e2) P (105, [.ref 38, .long v1.1, .retAddr 0, .int v1.2], [], r5.2.2))) (E' := (fun (r8 : Int64 × Int32) => am_Ev m_L_seen (WB ++ e1) (RO ++ e2) P (129, [.ref 38, .long r8.1, .retAddr 0, .int r8.2], [], r5.2.2))) (s_L_seen_38_105 h r1 r3 r5) (ps_L_seen_38_105 h r1 r3 r5) ?_ NF (r5.1, 0) hpl ?_
        · intro v1 hp hc1 hx1
          show am_Ev m_L_seen (WB ++ e1) (RO ++ e2) P (105, [.ref 38, .long v1.1, .retAddr 0, .int v1.2], [], r5.2.2)
          unfold ps_L_seen_38_105 at hp
          refine am_Ev_G [120, 129] 400 _ ?_
          show ((¬ v1.2 < 4 → am_Ev m_L_seen (WB ++ e1) (RO ++ e2) P (129, [.ref 38, .long v1.1, .retAddr 0, .int v1.2], [], r5.2.2)) ∧ (v1.2 < 4 → ((∀ E, rthr (v_B_setting r5.2.2 v1.2) = some E → P (.inr E) r5.2.2) ∧ (rthr (v_B_setting r5.2.2 v1.2) = none → am_Ev m_L_seen (WB ++ e1) (RO ++ e2) P (120, [.ref 38, .long v1.1, .retAddr 0, .int v1.2], (rvI (v_B_setting r5.2.2 v1.2)).toList ++ [.long (31 * v1.1)], r5.2.2)))))
          refine ⟨fun c11 => ?_, fun c11 => ?_⟩
          · skip
            exact hx1 (v1.1, v1.2) (by unfold s_L_seen_38_105; simp only [if_neg c11])
          · have hp := hp.1 c11
            refine ⟨fun E2 h2 => ?_, fun h2 => ?_⟩
            · obtain ⟨y, hy⟩ := hp
              rw [hy] at h2
              cases h2
            · rcases c12 : v_B_setting r5.2.2 v1.2 with E | y9
              · rw [c12] at h2
                cases h2
              · skip
                show am_Ev m_L_seen (WB ++ e1) (RO ++ e2) P (120, [.ref 38, .long v1.1, .retAddr 0, .int v1.2], [.int y9, .long (31 * v1.1)], r5.2.2)
                refine am_Ev_G [105] 400 _ ?_
                show am_Ev m_L_seen (WB ++ e1) (RO ++ e2) P (105, [.ref 38, .long ((31 * v1.1) + ((y9).toInt64)), .retAddr 0, .int (v1.2 + 1)], [], r5.2.2)
                exact hc1 (((31 * v1.1) + ((y9).toInt64)), (v1.2 + 1)) (by unfold s_L_seen_38_105; simp only [if_pos c11, c12])
        · intro r8 hr13
          show am_Ev m_L_seen (WB ++ e1) (RO ++ e2) P (129, [.ref 38, .long r8.1, .retAddr 0, .int r8.2], [], r5.2.2)
          refine am_Ev_G [] 400 _ ?_
          show P (.inl (some (.long r8.1))) r5.2.2
          exact hP (r8.1, r5.2.2) (by unfold v_L_seen_38; simp only [hr3, hr6, hr10, hr13])
theorem ok_L_seen {l : Launch} (hl : l.stackTraces = false) (e1 e2 : List Sh) (k : Nat) : am_Ok l (WB ++ e1) (RO ++ e2) (d_L_seen k) := by
  refine am_met hl (own := RL) (M := m_L_seen) rfl pf_L_seen cu_L_seen rfl rfl rfl rfl (fun _ => rfl) rfl ⟨chk_L_seen, (am_n), (am_c (lk_L_65) (am_c (lk_L_68) (am_c (lk_L_78) (am_c (lk_L_81) am_n)))), (am_c (ck_L_102) (am_c (ck_L_104) am_n)), (am_n)⟩ (am_n) (am_c (ok_B_terminalOf hl e1 _ 15) (am_c (ok_B_tripOf hl e1 _ 15) (am_c (ok_B_count hl e1 _ 15) (am_c (ok_B_setting hl e1 _ 15) am_n)))) (fun z => nomatch z) ?_ ?_
  · intro _ as h hg
    show g_thr (g_L_seen (WB ++ e1) (RO ++ e2) as h) = none
    unfold g_L_seen
    split <;> rfl
  · intro as h hg hp
    revert hg hp
    show g_ok (g_L_seen (WB ++ e1) (RO ++ e2) as h) = true → g_pre (g_L_seen (WB ++ e1) (RO ++ e2) as h) → _ ∧ am_Ev m_L_seen (WB ++ e1) (RO ++ e2) (am_eq (g_L_seen (WB ++ e1) (RO ++ e2) as h)) (0, am_ent as 4, [], h)
    unfold g_L_seen
    split
    · rename_i o1
      intro hc hp
      change (Nat.beq o1 38) = true at hc
      obtain rfl := am_beq hc
      exact ⟨Nat.le_of_ble_eq_true rfl, ev_L_seen_38 h hp eqRJW⟩
    · exact fun z => nomatch z
end
