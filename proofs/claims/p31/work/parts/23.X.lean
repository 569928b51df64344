/-! Text, out of its code (written by gen/meth.py). -/
noncomputable section
def k_X_addSign (pc : Nat) : Ent := bif Nat.ble 27 pc then am_nop else bif Nat.ble 13 pc then (bif Nat.ble 19 pc then (bif Nat.ble 23 pc then (bif Nat.ble 26 pc then (bif Nat.beq pc 26 then (.ireturn, 0, 0, []) else am_nop) else (bif Nat.beq pc 23 then (.getfield 18, 0, 0, []) else am_nop)) else (bif Nat.ble 22 pc then (bif Nat.beq pc 22 then (.aload_n 0, 0, 0, []) else am_nop) else (bif Nat.beq pc 19 then (.putfield 18, 0, 0, []) else am_nop))) else (bif Nat.ble 17 pc then (bif Nat.ble 18 pc then (bif Nat.beq pc 18 then (.iadd, 0, 0, []) else am_nop) else (bif Nat.beq pc 17 then (.iconst 1, 1, 0, []) else am_nop)) else (bif Nat.ble 14 pc then (bif Nat.beq pc 14 then (.getfield 18, 0, 0, []) else am_nop) else (bif Nat.beq pc 13 then (.dup, 0, 0, []) else am_nop)))) else (bif Nat.ble 5 pc then (bif Nat.ble 9 pc then (bif Nat.ble 12 pc then (bif Nat.beq pc 12 then (.aload_n 0, 0, 0, []) else am_nop) else (bif Nat.beq pc 9 then (.invokestatic 25, 0, 0, []) else am_nop)) else (bif Nat.ble 8 pc then (bif Nat.beq pc 8 then (.iload_n 1, 0, 1, []) else am_nop) else (bif Nat.beq pc 5 then (.getfield 18, 0, 0, []) else am_nop))) else (bif Nat.ble 1 pc then (bif Nat.ble 4 pc then (bif Nat.beq pc 4 then (.aload_n 0, 0, 0, []) else am_nop) else (bif Nat.beq pc 1 then (.getfield 9, 0, 0, []) else am_nop)) else (bif Nat.beq pc 0 then (.aload_n 0, 0, 0, []) else am_nop)))
theorem fl_X_9 : am_fok RX3 9 (3, 0) := ⟨RX3, TX3, 4, rfl, by decide, rfl, Or.inl (am_tb 161 (by decide +kernel) rfl)⟩
theorem fl_X_18 : am_fok RX3 18 (3, 2) := ⟨RX3, TX3, 4, rfl, by decide, rfl, Or.inl (am_tb 163 (by decide +kernel) rfl)⟩
theorem lk_X_25 : am_lnk RX3 25 (d_B_put 1) := ⟨⟨by decide, by decide⟩, am_tb 1 (by decide +kernel) rfl, Or.inl ⟨by decide, rfl, am_tb 342 (by decide +kernel) rfl, Or.inr ⟨rfl, "BusBlocks", am_tb 623 (by decide +kernel) rfl⟩⟩⟩
def m_X_addSign : MI := (k_X_addSign, [(9, 3, 0), (18, 3, 2)], [(25, d_B_put 1)], [], [], [], [], 1, 24, some .int, fun _ => 0, 1)
def v_X_addSign (h : HP) (a1 : Int32) : Int32 × HP := ((((v_put 60 h 19 (h.1 18 2) a1).1 18 2) + 1), (am_si (v_put 60 h 19 (h.1 18 2) a1) 18 2 (((v_put 60 h 19 (h.1 18 2) a1).1 18 2) + 1)))
def g_X_addSign (_ _ : List Sh) (as : List Value) (h : HP) : GR := match as with
  | [.ref o1, .int a1] => (Nat.beq o1 18, True, none, some (.int (v_X_addSign h a1).1), (v_X_addSign h a1).2)
  | _ => bad h
def d_X_addSign (k : Nat) : CD := (k, yX3_addSign, cX3_addSign, 2, some .int, 2, 1, 24, 0, false, false, g_X_addSign)
theorem chk_X_addSign : ∀ pc, am_chk cX3_addSign k_X_addSign pc = true := am_chkall 27 (by decide +kernel) (fun pc h => by unfold k_X_addSign; rw [Nat.ble_eq_true_of_le h]; rfl)
theorem pf_X_addSign : plainFor yX3_addSign = true := by decide +kernel
theorem cu_X_addSign : Cond.code yX3_addSign cX3_addSign 2 (some .int) ∈ am_U := am_tb 622 (by decide +kernel) rfl
set_option maxRecDepth 100000 in
theorem ev_X_addSign {e1 ro : List Sh} {P : AR → HP → Prop} (h : HP) (a1 : Int32) (hP : ∀ q, v_X_addSign h a1 = q → RIW P h q) : am_Ev m_X_addSign (WW ++ e1) ro P (0, [.ref 18, .int a1], [], h) := by
  refine am_Ev_G [] 400 _ ?_
  show P (.inl (some (.int (((v_put 60 h 19 (h.1 18 2) a1).1 18 2) + 1)))) (am_si (v_put 60 h 19 (h.1 18 2) a1) 18 2 (((v_put 60 h 19 (h.1 18 2) a1).1 18 2) + 1))
  exact hP ((((v_put 60 h 19 (h.1 18 2) a1).1 18 2) + 1), (am_si (v_put 60 h 19 (h.1 18 2) a1) 18 2 (((v_put 60 h 19 (h.1 18 2) a1).1 18 2) + 1))) rfl
theorem ok_X_addSign {l : Launch} (hl : l.stackTraces = false) (e1 ro : List Sh) (k : Nat) : am_Ok l (WW ++ e1) ro (d_X_addSign k) := by
  refine am_met hl (own := RX3) (M := m_X_addSign) rfl pf_X_addSign cu_X_addSign rfl rfl rfl rfl (fun _ => rfl) rfl ⟨chk_X_addSign, (am_c (fl_X_9) (am_c (fl_X_18) am_n)), (am_c (lk_X_25) am_n), (am_n), (am_n)⟩ (am_n) (am_c (ok_B_put hl _ _ 1) am_n) ?_ ?_ ?_
  · intro _ as h hg
    show g_pre (g_X_addSign (WW ++ e1) ro as h)
    unfold g_X_addSign
    split <;> exact trivial
  · intro _ as h hg
    show g_thr (g_X_addSign (WW ++ e1) ro as h) = none
    unfold g_X_addSign
    split <;> rfl
  · intro as h hg hp
    revert hg hp
    show g_ok (g_X_addSign (WW ++ e1) ro as h) = true → g_pre (g_X_addSign (WW ++ e1) ro as h) → _ ∧ am_Ev m_X_addSign (WW ++ e1) ro (am_eq (g_X_addSign (WW ++ e1) ro as h)) (0, am_ent as 2, [], h)
    unfold g_X_addSign
    split
    · rename_i o1 a1
      intro hc hp
      change (Nat.beq o1 18) = true at hc
      obtain rfl := am_beq hc
      exact ⟨Nat.le_of_ble_eq_true rfl, ev_X_addSign h a1 eqRIW⟩
    · exact fun z => nomatch z
def k_X_beginJourney (pc : Nat) : Ent := bif Nat.ble 14 pc then am_nop else bif Nat.ble 8 pc then (bif Nat.ble 10 pc then (bif Nat.ble 13 pc then (bif Nat.beq pc 13 then (.return_, 0, 0, []) else am_nop) else (bif Nat.beq pc 10 then (.putfield 22, 0, 0, []) else am_nop)) else (bif Nat.ble 9 pc then (bif Nat.beq pc 9 then (.iconst 0, 0, 0, []) else am_nop) else (bif Nat.beq pc 8 then (.aload_n 0, 0, 0, []) else am_nop))) else (bif Nat.ble 4 pc then (bif Nat.ble 5 pc then (bif Nat.beq pc 5 then (.invokestatic 54, 0, 0, []) else am_nop) else (bif Nat.beq pc 4 then (.iconst (-1), (-1 : Int32), 0, []) else am_nop)) else (bif Nat.ble 1 pc then (bif Nat.beq pc 1 then (.getfield 15, 0, 0, []) else am_nop) else (bif Nat.beq pc 0 then (.aload_n 0, 0, 0, []) else am_nop)))
theorem fl_X_15 : am_fok RX3 15 (3, 1) := ⟨RX3, TX3, 4, rfl, by decide, rfl, Or.inl (am_tb 162 (by decide +kernel) rfl)⟩
theorem fl_X_22 : am_fok RX3 22 (3, 3) := ⟨RX3, TX3, 4, rfl, by decide, rfl, Or.inl (am_tb 165 (by decide +kernel) rfl)⟩
theorem lk_X_54 : am_lnk RX3 54 (d_A_fill 0) := ⟨⟨by decide, by decide⟩, am_tb 15 (by decide +kernel) rfl, Or.inl ⟨by decide, rfl, am_tb 461 (by decide +kernel) rfl, Or.inl ⟨by decide, am_tb 640 (by decide +kernel) rfl⟩⟩⟩
def m_X_beginJourney : MI := (k_X_beginJourney, [(15, 3, 1), (22, 3, 3)], [(54, d_A_fill 0)], [], [], [], [], 1, 25, none, fun _ => 0, 1)
def v_X_beginJourney (h : HP) : HP := (am_si (v_fill 6 h 20 (-1 : Int32)) 18 3 0)
def g_X_beginJourney (_ _ : List Sh) (as : List Value) (h : HP) : GR := match as with
  | [.ref o1] => (Nat.beq o1 18, True, none, none, v_X_beginJourney h)
  | _ => bad h
def d_X_beginJourney (k : Nat) : CD := (k, yX3_beginJourney, cX3_beginJourney, 1, none, 1, 1, 25, 0, false, false, g_X_beginJourney)
theorem chk_X_beginJourney : ∀ pc, am_chk cX3_beginJourney k_X_beginJourney pc = true := am_chkall 14 (by decide +kernel) (fun pc h => by unfold k_X_beginJourney; rw [Nat.ble_eq_true_of_le h]; rfl)
theorem pf_X_beginJourney : plainFor yX3_beginJourney = true := by decide +kernel
theorem cu_X_beginJourney : Cond.code yX3_beginJourney cX3_beginJourney 1 (none) ∈ am_U := am_tb 639 (by decide +kernel) rfl
set_option maxRecDepth 100000 in
theorem ev_X_beginJourney {e1 ro : List Sh} {P : AR → HP → Prop} (h : HP) (hP : ∀ q, v_X_beginJourney h = q → RVW P h q) : am_Ev m_X_beginJourney (WW ++ e1) ro P (0, [.ref 18], [], h) := by
  refine am_Ev_G [] 400 _ ?_
  show P (.inl none) (am_si (v_fill 6 h 20 (-1 : Int32)) 18 3 0)
  exact hP (am_si (v_fill 6 h 20 (-1 : Int32)) 18 3 0) rfl
theorem ok_X_beginJourney {l : Launch} (hl : l.stackTraces = false) (e1 ro : List Sh) (k : Nat) : am_Ok l (WW ++ e1) ro (d_X_beginJourney k) := by
  refine am_met hl (own := RX3) (M := m_X_beginJourney) rfl pf_X_beginJourney cu_X_beginJourney rfl rfl rfl rfl (fun _ => rfl) rfl ⟨chk_X_beginJourney, (am_c (fl_X_15) (am_c (fl_X_22) am_n)), (am_c (lk_X_54) am_n), (am_n), (am_n)⟩ (am_n) (am_c (ok_A_fill hl _ _ 0) am_n) ?_ ?_ ?_
  · intro _ as h hg
    show g_pre (g_X_beginJourney (WW ++ e1) ro as h)
    unfold g_X_beginJourney
    split <;> exact trivial
  · intro _ as h hg
    show g_thr (g_X_beginJourney (WW ++ e1) ro as h) = none
    unfold g_X_beginJourney
    split <;> rfl
  · intro as h hg hp
    revert hg hp
    show g_ok (g_X_beginJourney (WW ++ e1) ro as h) = true → g_pre (g_X_beginJourney (WW ++ e1) ro as h) → _ ∧ am_Ev m_X_beginJourney (WW ++ e1) ro (am_eq (g_X_beginJourney (WW ++ e1) ro as h)) (0, am_ent as 1, [], h)
    unfold g_X_beginJourney
    split
    · rename_i o1
      intro hc hp
      change (Nat.beq o1 18) = true at hc
      obtain rfl := am_beq hc
      exact ⟨Nat.le_of_ble_eq_true rfl, ev_X_beginJourney h eqRVW⟩
    · exact fun z => nomatch z
def k_X_takesName (pc : Nat) : Ent := bif Nat.ble 41 pc then am_nop else bif Nat.ble 22 pc then (bif Nat.ble 31 pc then (bif Nat.ble 36 pc then (bif Nat.ble 39 pc then (bif Nat.ble 40 pc then (bif Nat.beq pc 40 then (.ireturn, 0, 0, []) else am_nop) else (bif Nat.beq pc 39 then (.iconst 1, 1, 0, []) else am_nop)) else (bif Nat.beq pc 36 then (.putfield 22, 0, 0, []) else am_nop)) else (bif Nat.ble 34 pc then (bif Nat.ble 35 pc then (bif Nat.beq pc 35 then (.iadd, 0, 0, []) else am_nop) else (bif Nat.beq pc 34 then (.iconst 1, 1, 0, []) else am_nop)) else (bif Nat.beq pc 31 then (.getfield 22, 0, 0, []) else am_nop))) else (bif Nat.ble 26 pc then (bif Nat.ble 29 pc then (bif Nat.ble 30 pc then (bif Nat.beq pc 30 then (.dup, 0, 0, []) else am_nop) else (bif Nat.beq pc 29 then (.aload_n 0, 0, 0, []) else am_nop)) else (bif Nat.beq pc 26 then (.invokestatic 25, 0, 0, []) else am_nop)) else (bif Nat.ble 23 pc then (bif Nat.ble 25 pc then (bif Nat.beq pc 25 then (.isub, 0, 0, []) else am_nop) else (bif Nat.beq pc 23 then (.bipush 48, 48, 0, []) else am_nop)) else (bif Nat.beq pc 22 then (.iload_n 1, 0, 1, []) else am_nop)))) else (bif Nat.ble 12 pc then (bif Nat.ble 15 pc then (bif Nat.ble 18 pc then (bif Nat.ble 19 pc then (bif Nat.beq pc 19 then (.getfield 22, 0, 0, []) else am_nop) else (bif Nat.beq pc 18 then (.aload_n 0, 0, 0, []) else am_nop)) else (bif Nat.beq pc 15 then (.getfield 15, 0, 0, []) else am_nop)) else (bif Nat.ble 13 pc then (bif Nat.ble 14 pc then (bif Nat.beq pc 14 then (.aload_n 0, 0, 0, []) else am_nop) else (bif Nat.beq pc 13 then (.ireturn, 0, 0, []) else am_nop)) else (bif Nat.beq pc 12 then (.iconst 0, 0, 0, []) else am_nop))) else (bif Nat.ble 6 pc then (bif Nat.ble 7 pc then (bif Nat.ble 9 pc then (bif Nat.beq pc 9 then (.if_icmp .le 5, 0, 14, []) else am_nop) else (bif Nat.beq pc 7 then (.bipush 51, 51, 0, []) else am_nop)) else (bif Nat.beq pc 6 then (.iload_n 1, 0, 1, []) else am_nop)) else (bif Nat.ble 1 pc then (bif Nat.ble 3 pc then (bif Nat.beq pc 3 then (.if_icmp .lt 9, 0, 12, []) else am_nop) else (bif Nat.beq pc 1 then (.bipush 48, 48, 0, []) else am_nop)) else (bif Nat.beq pc 0 then (.iload_n 1, 0, 1, []) else am_nop))))
def m_X_takesName : MI := (k_X_takesName, [(15, 3, 1), (22, 3, 3)], [(25, d_B_put 1)], [], [], [], [], 1, 24, some .boolean, fun _ => 0, 1)
def v_X_takesName (h : HP) (a1 : Int32) : Int32 × HP := (if a1 < 48 then (0, h) else (if a1 ≤ 51 then (1, (am_si (v_put 6 h 20 (h.1 18 3) (a1 - 48)) 18 3 (((v_put 6 h 20 (h.1 18 3) (a1 - 48)).1 18 3) + 1))) else (0, h)))
def g_X_takesName (_ _ : List Sh) (as : List Value) (h : HP) : GR := match as with
  | [.ref o1, .int a1] => (Nat.beq o1 18, True, none, some (.int (v_X_takesName h a1).1), (v_X_takesName h a1).2)
  | _ => bad h
def d_X_takesName (k : Nat) : CD := (k, yX3_takesName, cX3_takesName, 2, some .boolean, 2, 1, 24, 0, false, false, g_X_takesName)
theorem chk_X_takesName : ∀ pc, am_chk cX3_takesName k_X_takesName pc = true := am_chkall 41 (by decide +kernel) (fun pc h => by unfold k_X_takesName; rw [Nat.ble_eq_true_of_le h]; rfl)
theorem pf_X_takesName : plainFor yX3_takesName = true := by decide +kernel
theorem cu_X_takesName : Cond.code yX3_takesName cX3_takesName 2 (some .boolean) ∈ am_U := am_tb 649 (by decide +kernel) rfl
set_option maxRecDepth 100000 in
theorem ev_X_takesName {e1 ro : List Sh} {P : AR → HP → Prop} (h : HP) (a1 : Int32) (hP : ∀ q, v_X_takesName h a1 = q → RIW P h q) : am_Ev m_X_takesName (WW ++ e1) ro P (0, [.ref 18, .int a1], [], h) := by
  refine am_Ev_G [26] 400 _ ?_
  show ((a1 < 48 → ((((0 : Int32) = 0 ∨ (0 : Int32) = 1)) ∧ P (.inl (some (.int 0))) h)) ∧ (¬ a1 < 48 → ((a1 ≤ 51 → am_Ev m_X_takesName (WW ++ e1) ro P (26, [.ref 18, .int a1], [.int (a1 - 48), .int (h.1 18 3), .ref 20], h)) ∧ (¬ a1 ≤ 51 → ((((0 : Int32) = 0 ∨ (0 : Int32) = 1)) ∧ P (.inl (some (.int 0))) h)))))
  refine ⟨fun c1 => ?_, fun c1 => ?_⟩
  · skip
    refine ⟨(by decide), ?_⟩
    exact hP (0, h) (by unfold v_X_takesName; simp only [if_pos c1])
  · skip
    refine ⟨fun c2 => ?_, fun c2 => ?_⟩
    · skip
      refine am_Ev_G [] 400 _ ?_
      show ((((1 : Int32) = 0 ∨ (1 : Int32) = 1)) ∧ P (.inl (some (.int 1))) (am_si (v_put 6 h 20 (h.1 18 3) (a1 - 48)) 18 3 (((v_put 6 h 20 (h.1 18 3) (a1 - 48)).1 18 3) + 1)))
      refine ⟨(by decide), ?_⟩
      exact hP (1, (am_si (v_put 6 h 20 (h.1 18 3) (a1 - 48)) 18 3 (((v_put 6 h 20 (h.1 18 3) (a1 - 48)).1 18 3) + 1))) (by unfold v_X_takesName; simp only [if_neg c1, if_pos c2])
    · skip
      refine ⟨(by decide), ?_⟩
      exact hP (0, h) (by unfold v_X_takesName; simp only [if_neg c1, if_neg c2])
theorem ok_X_takesName {l : Launch} (hl : l.stackTraces = false) (e1 ro : List Sh) (k : Nat) : am_Ok l (WW ++ e1) ro (d_X_takesName k) := by
  refine am_met hl (own := RX3) (M := m_X_takesName) rfl pf_X_takesName cu_X_takesName rfl rfl rfl rfl (fun _ => rfl) rfl ⟨chk_X_takesName, (am_c (fl_X_15) (am_c (fl_X_22) am_n)), (am_c (lk_X_25) am_n), (am_n), (am_n)⟩ (am_n) (am_c (ok_B_put hl _ _ 1) am_n) ?_ ?_ ?_
  · intro _ as h hg
    show g_pre (g_X_takesName (WW ++ e1) ro as h)
    unfold g_X_takesName
    split <;> exact trivial
  · intro _ as h hg
    show g_thr (g_X_takesName (WW ++ e1) ro as h) = none
    unfold g_X_takesName
    split <;> rfl
  · intro as h hg hp
    revert hg hp
    show g_ok (g_X_takesName (WW ++ e1) ro as h) = true → g_pre (g_X_takesName (WW ++ e1) ro as h) → _ ∧ am_Ev m_X_takesName (WW ++ e1) ro (am_eq (g_X_takesName (WW ++ e1) ro as h)) (0, am_ent as 2, [], h)
    unfold g_X_takesName
    split
    · rename_i o1 a1
      intro hc hp
      change (Nat.beq o1 18) = true at hc
      obtain rfl := am_beq hc
      exact ⟨Nat.le_of_ble_eq_true rfl, ev_X_takesName h a1 eqRIW⟩
    · exact fun z => nomatch z
def k_X_takesDigit (pc : Nat) : Ent := bif Nat.ble 94 pc then am_nop else bif Nat.ble 43 pc then (bif Nat.ble 72 pc then (bif Nat.ble 81 pc then (bif Nat.ble 88 pc then (bif Nat.ble 92 pc then (bif Nat.ble 93 pc then (bif Nat.beq pc 93 then (.ireturn, 0, 0, []) else am_nop) else (bif Nat.beq pc 92 then (.iconst 1, 1, 0, []) else am_nop)) else (bif Nat.ble 89 pc then (bif Nat.beq pc 89 then (.invokestatic 25, 0, 0, []) else am_nop) else (bif Nat.beq pc 88 then (.iload_n 3, 0, 3, []) else am_nop))) else (bif Nat.ble 84 pc then (bif Nat.ble 85 pc then (bif Nat.beq pc 85 then (.getfield 22, 0, 0, []) else am_nop) else (bif Nat.beq pc 84 then (.aload_n 0, 0, 0, []) else am_nop)) else (bif Nat.beq pc 81 then (.getfield 15, 0, 0, []) else am_nop))) else (bif Nat.ble 78 pc then (bif Nat.ble 79 pc then (bif Nat.ble 80 pc then (bif Nat.beq pc 80 then (.aload_n 0, 0, 0, []) else am_nop) else (bif Nat.beq pc 79 then (.ireturn, 0, 0, []) else am_nop)) else (bif Nat.beq pc 78 then (.iconst 0, 0, 0, []) else am_nop)) else (bif Nat.ble 73 pc then (bif Nat.ble 75 pc then (bif Nat.beq pc 75 then (.if_icmp .le 5, 0, 80, []) else am_nop) else (bif Nat.beq pc 73 then (.iload 5, 0, 5, []) else am_nop)) else (bif Nat.beq pc 72 then (.iload_n 3, 0, 3, []) else am_nop)))) else (bif Nat.ble 57 pc then (bif Nat.ble 63 pc then (bif Nat.ble 67 pc then (bif Nat.ble 69 pc then (bif Nat.beq pc 69 then (.if_icmp .lt 9, 0, 78, []) else am_nop) else (bif Nat.beq pc 67 then (.iload 4, 0, 4, []) else am_nop)) else (bif Nat.ble 66 pc then (bif Nat.beq pc 66 then (.iload_n 3, 0, 3, []) else am_nop) else (bif Nat.beq pc 63 then (.ifCond .eq 15, 0, 78, []) else am_nop))) else (bif Nat.ble 60 pc then (bif Nat.ble 62 pc then (bif Nat.beq pc 62 then (.iload_n 2, 0, 2, []) else am_nop) else (bif Nat.beq pc 60 then (.istore 5, 0, 5, []) else am_nop)) else (bif Nat.beq pc 57 then (.sipush 1439, 1439, 0, []) else am_nop))) else (bif Nat.ble 48 pc then (bif Nat.ble 51 pc then (bif Nat.ble 54 pc then (bif Nat.beq pc 54 then (.goto 6, 0, 60, []) else am_nop) else (bif Nat.beq pc 51 then (.sipush 240, 240, 0, []) else am_nop)) else (bif Nat.beq pc 48 then (.if_icmp .ne 9, 0, 57, []) else am_nop)) else (bif Nat.ble 44 pc then (bif Nat.ble 47 pc then (bif Nat.beq pc 47 then (.iconst 5, 5, 0, []) else am_nop) else (bif Nat.beq pc 44 then (.getfield 22, 0, 0, []) else am_nop)) else (bif Nat.beq pc 43 then (.aload_n 0, 0, 0, []) else am_nop))))) else (bif Nat.ble 23 pc then (bif Nat.ble 29 pc then (bif Nat.ble 36 pc then (bif Nat.ble 40 pc then (bif Nat.ble 41 pc then (bif Nat.beq pc 41 then (.istore 4, 0, 4, []) else am_nop) else (bif Nat.beq pc 40 then (.iconst 0, 0, 0, []) else am_nop)) else (bif Nat.ble 37 pc then (bif Nat.beq pc 37 then (.goto 4, 0, 41, []) else am_nop) else (bif Nat.beq pc 36 then (.iconst 1, 1, 0, []) else am_nop))) else (bif Nat.ble 32 pc then (bif Nat.ble 33 pc then (bif Nat.beq pc 33 then (.if_icmp .ne 7, 0, 40, []) else am_nop) else (bif Nat.beq pc 32 then (.iconst 5, 5, 0, []) else am_nop)) else (bif Nat.beq pc 29 then (.getfield 22, 0, 0, []) else am_nop))) else (bif Nat.ble 26 pc then (bif Nat.ble 27 pc then (bif Nat.ble 28 pc then (bif Nat.beq pc 28 then (.aload_n 0, 0, 0, []) else am_nop) else (bif Nat.beq pc 27 then (.istore_n 3, 0, 3, []) else am_nop)) else (bif Nat.beq pc 26 then (.iadd, 0, 0, []) else am_nop)) else (bif Nat.ble 24 pc then (bif Nat.ble 25 pc then (bif Nat.beq pc 25 then (.iload_n 1, 0, 1, []) else am_nop) else (bif Nat.beq pc 24 then (.imul, 0, 0, []) else am_nop)) else (bif Nat.beq pc 23 then (.iload_n 2, 0, 2, []) else am_nop)))) else (bif Nat.ble 12 pc then (bif Nat.ble 17 pc then (bif Nat.ble 18 pc then (bif Nat.ble 21 pc then (bif Nat.beq pc 21 then (.bipush 10, 10, 0, []) else am_nop) else (bif Nat.beq pc 18 then (.goto 9, 0, 27, []) else am_nop)) else (bif Nat.beq pc 17 then (.iload_n 1, 0, 1, []) else am_nop)) else (bif Nat.ble 13 pc then (bif Nat.ble 14 pc then (bif Nat.beq pc 14 then (.if_icmp .ne 7, 0, 21, []) else am_nop) else (bif Nat.beq pc 13 then (.iconst (-1), (-1 : Int32), 0, []) else am_nop)) else (bif Nat.beq pc 12 then (.iload_n 2, 0, 2, []) else am_nop))) else (bif Nat.ble 5 pc then (bif Nat.ble 8 pc then (bif Nat.ble 11 pc then (bif Nat.beq pc 11 then (.istore_n 2, 0, 2, []) else am_nop) else (bif Nat.beq pc 8 then (.invokestatic 32, 0, 0, []) else am_nop)) else (bif Nat.beq pc 5 then (.getfield 22, 0, 0, []) else am_nop)) else (bif Nat.ble 1 pc then (bif Nat.ble 4 pc then (bif Nat.beq pc 4 then (.aload_n 0, 0, 0, []) else am_nop) else (bif Nat.beq pc 1 then (.getfield 15, 0, 0, []) else am_nop)) else (bif Nat.beq pc 0 then (.aload_n 0, 0, 0, []) else am_nop)))))
theorem lk_X_32 : am_lnk RX3 32 (d_B_at 1) := ⟨⟨by decide, by decide⟩, am_tb 1 (by decide +kernel) rfl, Or.inl ⟨by decide, rfl, am_tb 361 (by decide +kernel) rfl, Or.inr ⟨rfl, "BusBlocks", am_tb 641 (by decide +kernel) rfl⟩⟩⟩
def m_X_takesDigit : MI := (k_X_takesDigit, [(15, 3, 1), (22, 3, 3)], [(25, d_B_put 1), (32, d_B_at 1)], [], [], [], [], 1, 24, some .boolean, fun _ => 0, 1)
def v_X_takesDigit (h : HP) (a1 : Int32) : Int32 × HP := (if (v_at 6 (h.1 20) (h.1 18 3)) = 0 then (0, h) else (if ((if (v_at 6 (h.1 20) (h.1 18 3)) = (-1 : Int32) then a1 else ((10 * (v_at 6 (h.1 20) (h.1 18 3))) + a1)) : Int32) < ((if (h.1 18 3) = 5 then (1 : Int32) else 0) : Int32) then (0, h) else (if ((if (v_at 6 (h.1 20) (h.1 18 3)) = (-1 : Int32) then a1 else ((10 * (v_at 6 (h.1 20) (h.1 18 3))) + a1)) : Int32) ≤ ((if (h.1 18 3) = 5 then (240 : Int32) else 1439) : Int32) then (1, (v_put 6 h 20 (h.1 18 3) (if (v_at 6 (h.1 20) (h.1 18 3)) = (-1 : Int32) then a1 else ((10 * (v_at 6 (h.1 20) (h.1 18 3))) + a1)))) else (0, h))))
def g_X_takesDigit (_ _ : List Sh) (as : List Value) (h : HP) : GR := match as with
  | [.ref o1, .int a1] => (Nat.beq o1 18, True, none, some (.int (v_X_takesDigit h a1).1), (v_X_takesDigit h a1).2)
  | _ => bad h
def d_X_takesDigit (k : Nat) : CD := (k, yX3_takesDigit, cX3_takesDigit, 6, some .boolean, 2, 1, 24, 0, false, false, g_X_takesDigit)
theorem chk_X_takesDigit : ∀ pc, am_chk cX3_takesDigit k_X_takesDigit pc = true := am_chkall 94 (by decide +kernel) (fun pc h => by unfold k_X_takesDigit; rw [Nat.ble_eq_true_of_le h]; rfl)
theorem pf_X_takesDigit : plainFor yX3_takesDigit = true := by decide +kernel
theorem cu_X_takesDigit : Cond.code yX3_takesDigit cX3_takesDigit 6 (some .boolean) ∈ am_U := am_tb 653 (by decide +kernel) rfl
set_option maxRecDepth 100000 in
theorem ev_X_takesDigit {e1 ro : List Sh} {P : AR → HP → Prop} (h : HP) (a1 : Int32) (hP : ∀ q, v_X_takesDigit h a1 = q → RIW P h q) : am_Ev m_X_takesDigit (WW ++ e1) ro P (0, [.ref 18, .int a1, .retAddr 0, .retAddr 0, .retAddr 0, .retAddr 0], [], h) := by
  refine am_Ev_G [14] 400 _ ?_
  show am_Ev m_X_takesDigit (WW ++ e1) ro P (14, [.ref 18, .int a1, .int (v_at 6 (h.1 20) (h.1 18 3)), .retAddr 0, .retAddr 0, .retAddr 0], [.int (-1 : Int32), .int (v_at 6 (h.1 20) (h.1 18 3))], h)
  have key1 : am_Ev m_X_takesDigit (WW ++ e1) ro P (27, [.ref 18, .int a1, .int (v_at 6 (h.1 20) (h.1 18 3)), .retAddr 0, .retAddr 0, .retAddr 0], [.int (if (v_at 6 (h.1 20) (h.1 18 3)) = (-1 : Int32) then a1 else ((10 * (v_at 6 (h.1 20) (h.1 18 3))) + a1))], h) := by
    refine am_Ev_G [33] 400 _ ?_
    show am_Ev m_X_takesDigit (WW ++ e1) ro P (33, [.ref 18, .int a1, .int (v_at 6 (h.1 20) (h.1 18 3)), .int (if (v_at 6 (h.1 20) (h.1 18 3)) = (-1 : Int32) then a1 else ((10 * (v_at 6 (h.1 20) (h.1 18 3))) + a1)), .retAddr 0, .retAddr 0], [.int 5, .int (h.1 18 3)], h)
    have key2 : am_Ev m_X_takesDigit (WW ++ e1) ro P (41, [.ref 18, .int a1, .int (v_at 6 (h.1 20) (h.1 18 3)), .int (if (v_at 6 (h.1 20) (h.1 18 3)) = (-1 : Int32) then a1 else ((10 * (v_at 6 (h.1 20) (h.1 18 3))) + a1)), .retAddr 0, .retAddr 0], [.int (if (h.1 18 3) = 5 then (1 : Int32) else 0)], h) := by
      refine am_Ev_G [48] 400 _ ?_
      show am_Ev m_X_takesDigit (WW ++ e1) ro P (48, [.ref 18, .int a1, .int (v_at 6 (h.1 20) (h.1 18 3)), .int (if (v_at 6 (h.1 20) (h.1 18 3)) = (-1 : Int32) then a1 else ((10 * (v_at 6 (h.1 20) (h.1 18 3))) + a1)), .int (if (h.1 18 3) = 5 then (1 : Int32) else 0), .retAddr 0], [.int 5, .int (h.1 18 3)], h)
      have key3 : am_Ev m_X_takesDigit (WW ++ e1) ro P (60, [.ref 18, .int a1, .int (v_at 6 (h.1 20) (h.1 18 3)), .int (if (v_at 6 (h.1 20) (h.1 18 3)) = (-1 : Int32) then a1 else ((10 * (v_at 6 (h.1 20) (h.1 18 3))) + a1)), .int (if (h.1 18 3) = 5 then (1 : Int32) else 0), .retAddr 0], [.int (if (h.1 18 3) = 5 then (240 : Int32) else 1439)], h) := by
        refine am_Ev_G [88] 400 _ ?_
        show (((v_at 6 (h.1 20) (h.1 18 3)) = 0 → ((((0 : Int32) = 0 ∨ (0 : Int32) = 1)) ∧ P (.inl (some (.int 0))) h)) ∧ (¬ (v_at 6 (h.1 20) (h.1 18 3)) = 0 → ((((if (v_at 6 (h.1 20) (h.1 18 3)) = (-1 : Int32) then a1 else ((10 * (v_at 6 (h.1 20) (h.1 18 3))) + a1)) : Int32) < ((if (h.1 18 3) = 5 then (1 : Int32) else 0) : Int32) → ((((0 : Int32) = 0 ∨ (0 : Int32) = 1)) ∧ P (.inl (some (.int 0))) h)) ∧ (¬ ((if (v_at 6 (h.1 20) (h.1 18 3)) = (-1 : Int32) then a1 else ((10 * (v_at 6 (h.1 20) (h.1 18 3))) + a1)) : Int32) < ((if (h.1 18 3) = 5 then (1 : Int32) else 0) : Int32) → ((((if (v_at 6 (h.1 20) (h.1 18 3)) = (-1 : Int32) then a1 else ((10 * (v_at 6 (h.1 20) (h.1 18 3))) + a1)) : Int32) ≤ ((if (h.1 18 3) = 5 then (240 : Int32) else 1439) : Int32) → am_Ev m_X_takesDigit (WW ++ e1) ro P (88, [.ref 18, .int a1, .int (v_at 6 (h.1 20) (h.1 18 3)), .int (if (v_at 6 (h.1 20) (h.1 18 3)) = (-1 : Int32) then a1 else ((10 * (v_at 6 (h.1 20) (h.1 18 3))) + a1)), .int (if (h.1 18 3) = 5 then (1 : Int32) else 0), .int (if (h.1 18 3) = 5 then (240 : Int32) else 1439)], [.int (h.1 18 3), .ref 20], h)) ∧ (¬ ((if (v_at 6 (h.1 20) (h.1 18 3)) = (-1 : Int32) then a1 else ((10 * (v_at 6 (h.1 20) (h.1 18 3))) + a1)) : Int32) ≤ ((if (h.1 18 3) = 5 then (240 : Int32) else 1439) : Int32) → ((((0 : Int32) = 0 ∨ (0 : Int32) = 1)) ∧ P (.inl (some (.int 0))) h)))))))
        refine ⟨fun c4 => ?_, fun c4 => ?_⟩
        · skip
          refine ⟨(by decide), ?_⟩
          exact hP (0, h) (by unfold v_X_takesDigit; simp only [if_pos c4])
        · skip
          refine ⟨fun c5 => ?_, fun c5 => ?_⟩
          · skip
            refine ⟨(by decide), ?_⟩
            exact hP (0, h) (by unfold v_X_takesDigit; simp only [if_neg c4, if_pos c5])
          · skip
            refine ⟨fun c6 => ?_, fun c6 => ?_⟩
            · skip
              refine am_Ev_G [] 400 _ ?_
              show ((((1 : Int32) = 0 ∨ (1 : Int32) = 1)) ∧ P (.inl (some (.int 1))) (v_put 6 h 20 (h.1 18 3) (if (v_at 6 (h.1 20) (h.1 18 3)) = (-1 : Int32) then a1 else ((10 * (v_at 6 (h.1 20) (h.1 18 3))) + a1))))
              refine ⟨(by decide), ?_⟩
              exact hP (1, (v_put 6 h 20 (h.1 18 3) (if (v_at 6 (h.1 20) (h.1 18 3)) = (-1 : Int32) then a1 else ((10 * (v_at 6 (h.1 20) (h.1 18 3))) + a1)))) (by unfold v_X_takesDigit; simp only [if_neg c4, if_neg c5, if_pos c6])
            · skip
              refine ⟨(by decide), ?_⟩
              exact hP (0, h) (by unfold v_X_takesDigit; simp only [if_neg c4, if_neg c5, if_neg c6])
      refine am_Ev_G [60] 400 _ ?_
      show ((¬ (h.1 18 3) = 5 → am_Ev m_X_takesDigit (WW ++ e1) ro P (60, [.ref 18, .int a1, .int (v_at 6 (h.1 20) (h.1 18 3)), .int (if (v_at 6 (h.1 20) (h.1 18 3)) = (-1 : Int32) then a1 else ((10 * (v_at 6 (h.1 20) (h.1 18 3))) + a1)), .int (if (h.1 18 3) = 5 then (1 : Int32) else 0), .retAddr 0], [.int 1439], h)) ∧ ((h.1 18 3) = 5 → am_Ev m_X_takesDigit (WW ++ e1) ro P (60, [.ref 18, .int a1, .int (v_at 6 (h.1 20) (h.1 18 3)), .int (if (v_at 6 (h.1 20) (h.1 18 3)) = (-1 : Int32) then a1 else ((10 * (v_at 6 (h.1 20) (h.1 18 3))) + a1)), .int (if (h.1 18 3) = 5 then (1 : Int32) else 0), .retAddr 0], [.int 240], h)))
      refine ⟨fun c7 => ?_, fun c7 => ?_⟩
      · skip
        simpa only [if_neg c7] using key3
      · skip
        simpa only [if_pos c7] using key3
    refine am_Ev_G [41] 400 _ ?_
    show ((¬ (h.1 18 3) = 5 → am_Ev m_X_takesDigit (WW ++ e1) ro P (41, [.ref 18, .int a1, .int (v_at 6 (h.1 20) (h.1 18 3)), .int (if (v_at 6 (h.1 20) (h.1 18 3)) = (-1 : Int32) then a1 else ((10 * (v_at 6 (h.1 20) (h.1 18 3))) + a1)), .retAddr 0, .retAddr 0], [.int 0], h)) ∧ ((h.1 18 3) = 5 → am_Ev m_X_takesDigit (WW ++ e1) ro P (41, [.ref 18, .int a1, .int (v_at 6 (h.1 20) (h.1 18 3)), .int (if (v_at 6 (h.1 20) (h.1 18 3)) = (-1 : Int32) then a1 else ((10 * (v_at 6 (h.1 20) (h.1 18 3))) + a1)), .retAddr 0, .retAddr 0], [.int 1], h)))
    refine ⟨fun c8 => ?_, fun c8 => ?_⟩
    · skip
      simpa only [if_neg c8] using key2
    · skip
      simpa only [if_pos c8] using key2
  refine am_Ev_G [27] 400 _ ?_
  show ((¬ (v_at 6 (h.1 20) (h.1 18 3)) = (-1 : Int32) → am_Ev m_X_takesDigit (WW ++ e1) ro P (27, [.ref 18, .int a1, .int (v_at 6 (h.1 20) (h.1 18 3)), .retAddr 0, .retAddr 0, .retAddr 0], [.int ((10 * (v_at 6 (h.1 20) (h.1 18 3))) + a1)], h)) ∧ ((v_at 6 (h.1 20) (h.1 18 3)) = (-1 : Int32) → am_Ev m_X_takesDigit (WW ++ e1) ro P (27, [.ref 18, .int a1, .int (v_at 6 (h.1 20) (h.1 18 3)), .retAddr 0, .retAddr 0, .retAddr 0], [.int a1], h)))
  refine ⟨fun c9 => ?_, fun c9 => ?_⟩
  · skip
    simpa only [if_neg c9] using key1
  · skip
    simpa only [if_pos c9] using key1
theorem ok_X_takesDigit {l : Launch} (hl : l.stackTraces = false) (e1 ro : List Sh) (k : Nat) : am_Ok l (WW ++ e1) ro (d_X_takesDigit k) := by
  refine am_met hl (own := RX3) (M := m_X_takesDigit) rfl pf_X_takesDigit cu_X_takesDigit rfl rfl rfl rfl (fun _ => rfl) rfl ⟨chk_X_takesDigit, (am_c (fl_X_15) (am_c (fl_X_22) am_n)), (am_c (lk_X_25) (am_c (lk_X_32) am_n)), (am_n), (am_n)⟩ (am_n) (am_c (ok_B_put hl _ _ 1) (am_c (ok_B_at hl _ _ 1) am_n)) ?_ ?_ ?_
  · intro _ as h hg
    show g_pre (g_X_takesDigit (WW ++ e1) ro as h)
    unfold g_X_takesDigit
    split <;> exact trivial
  · intro _ as h hg
    show g_thr (g_X_takesDigit (WW ++ e1) ro as h) = none
    unfold g_X_takesDigit
    split <;> rfl
  · intro as h hg hp
    revert hg hp
    show g_ok (g_X_takesDigit (WW ++ e1) ro as h) = true → g_pre (g_X_takesDigit (WW ++ e1) ro as h) → _ ∧ am_Ev m_X_takesDigit (WW ++ e1) ro (am_eq (g_X_takesDigit (WW ++ e1) ro as h)) (0, am_ent as 6, [], h)
    unfold g_X_takesDigit
    split
    · rename_i o1 a1
      intro hc hp
      change (Nat.beq o1 18) = true at hc
      obtain rfl := am_beq hc
      exact ⟨Nat.le_of_ble_eq_true rfl, ev_X_takesDigit h a1 eqRIW⟩
    · exact fun z => nomatch z
def k_X_takesEnd (pc : Nat) : Ent := bif Nat.ble 60 pc then am_nop else bif Nat.ble 32 pc then (bif Nat.ble 46 pc then (bif Nat.ble 53 pc then (bif Nat.ble 57 pc then (bif Nat.ble 58 pc then (bif Nat.ble 59 pc then (bif Nat.beq pc 59 then (.ireturn, 0, 0, []) else am_nop) else (bif Nat.beq pc 58 then (.iconst 0, 0, 0, []) else am_nop)) else (bif Nat.beq pc 57 then (.ireturn, 0, 0, []) else am_nop)) else (bif Nat.ble 56 pc then (bif Nat.beq pc 56 then (.iconst 1, 1, 0, []) else am_nop) else (bif Nat.beq pc 53 then (.invokevirtual 29, 0, 0, []) else am_nop))) else (bif Nat.ble 49 pc then (bif Nat.ble 52 pc then (bif Nat.beq pc 52 then (.aload_n 0, 0, 0, []) else am_nop) else (bif Nat.beq pc 49 then (.if_icmp .ne 9, 0, 58, []) else am_nop)) else (bif Nat.ble 47 pc then (bif Nat.beq pc 47 then (.bipush 59, 59, 0, []) else am_nop) else (bif Nat.beq pc 46 then (.iload_n 1, 0, 1, []) else am_nop)))) else (bif Nat.ble 38 pc then (bif Nat.ble 42 pc then (bif Nat.ble 43 pc then (bif Nat.beq pc 43 then (.if_icmp .ne 15, 0, 58, []) else am_nop) else (bif Nat.beq pc 42 then (.iconst 5, 5, 0, []) else am_nop)) else (bif Nat.ble 39 pc then (bif Nat.beq pc 39 then (.getfield 22, 0, 0, []) else am_nop) else (bif Nat.beq pc 38 then (.aload_n 0, 0, 0, []) else am_nop))) else (bif Nat.ble 36 pc then (bif Nat.ble 37 pc then (bif Nat.beq pc 37 then (.ireturn, 0, 0, []) else am_nop) else (bif Nat.beq pc 36 then (.iconst 1, 1, 0, []) else am_nop)) else (bif Nat.ble 33 pc then (bif Nat.beq pc 33 then (.putfield 22, 0, 0, []) else am_nop) else (bif Nat.beq pc 32 then (.iconst 5, 5, 0, []) else am_nop))))) else (bif Nat.ble 16 pc then (bif Nat.ble 22 pc then (bif Nat.ble 26 pc then (bif Nat.ble 28 pc then (bif Nat.ble 31 pc then (bif Nat.beq pc 31 then (.aload_n 0, 0, 0, []) else am_nop) else (bif Nat.beq pc 28 then (.if_icmp .ne 10, 0, 38, []) else am_nop)) else (bif Nat.beq pc 26 then (.bipush 43, 43, 0, []) else am_nop)) else (bif Nat.ble 25 pc then (bif Nat.beq pc 25 then (.iload_n 1, 0, 1, []) else am_nop) else (bif Nat.beq pc 22 then (.if_icmp .ne 16, 0, 38, []) else am_nop))) else (bif Nat.ble 18 pc then (bif Nat.ble 21 pc then (bif Nat.beq pc 21 then (.iconst 4, 4, 0, []) else am_nop) else (bif Nat.beq pc 18 then (.getfield 22, 0, 0, []) else am_nop)) else (bif Nat.ble 17 pc then (bif Nat.beq pc 17 then (.aload_n 0, 0, 0, []) else am_nop) else (bif Nat.beq pc 16 then (.ireturn, 0, 0, []) else am_nop)))) else (bif Nat.ble 8 pc then (bif Nat.ble 12 pc then (bif Nat.ble 15 pc then (bif Nat.beq pc 15 then (.iconst 0, 0, 0, []) else am_nop) else (bif Nat.beq pc 12 then (.if_icmp .ne 5, 0, 17, []) else am_nop)) else (bif Nat.ble 11 pc then (bif Nat.beq pc 11 then (.iconst (-1), (-1 : Int32), 0, []) else am_nop) else (bif Nat.beq pc 8 then (.invokestatic 32, 0, 0, []) else am_nop))) else (bif Nat.ble 4 pc then (bif Nat.ble 5 pc then (bif Nat.beq pc 5 then (.getfield 22, 0, 0, []) else am_nop) else (bif Nat.beq pc 4 then (.aload_n 0, 0, 0, []) else am_nop)) else (bif Nat.ble 1 pc then (bif Nat.beq pc 1 then (.getfield 15, 0, 0, []) else am_nop) else (bif Nat.beq pc 0 then (.aload_n 0, 0, 0, []) else am_nop)))))
theorem lk_X_29 : am_lnk RX3 29 (d_X_beginJourney 13) := ⟨⟨by decide, by decide⟩, am_tb 5 (by decide +kernel) rfl, Or.inr ⟨by decide, rfl, am_tb 638 (by decide +kernel) rfl, am_tp 45 (by decide +kernel) rfl, ⟨TX3, 4, rfl⟩, Or.inl (am_tb 636 (by decide +kernel) rfl)⟩⟩
def m_X_takesEnd : MI := (k_X_takesEnd, [(15, 3, 1), (22, 3, 3)], [(29, d_X_beginJourney 13), (32, d_B_at 1)], [], [], [], [], 2, 47, some .boolean, fun _ => 0, 1)
def v_X_takesEnd (h : HP) (a1 : Int32) : Int32 × HP := (if (v_at 6 (h.1 20) (h.1 18 3)) = (-1 : Int32) then (0, h) else (if (h.1 18 3) = 4 then (if a1 = 43 then (1, (am_si h 18 3 5)) else (if (h.1 18 3) = 5 then (if a1 = 59 then (bnd (v_X_beginJourney h) fun y2 => (1, y2)) else (0, h)) else (0, h))) else (if (h.1 18 3) = 5 then (if a1 = 59 then (bnd (v_X_beginJourney h) fun y1 => (1, y1)) else (0, h)) else (0, h))))
def g_X_takesEnd (_ _ : List Sh) (as : List Value) (h : HP) : GR := match as with
  | [.ref o1, .int a1] => (Nat.beq o1 18, True, none, some (.int (v_X_takesEnd h a1).1), (v_X_takesEnd h a1).2)
  | _ => bad h
def d_X_takesEnd (k : Nat) : CD := (k, yX3_takesEnd, cX3_takesEnd, 2, some .boolean, 2, 2, 47, 0, false, false, g_X_takesEnd)
theorem chk_X_takesEnd : ∀ pc, am_chk cX3_takesEnd k_X_takesEnd pc = true := am_chkall 60 (by decide +kernel) (fun pc h => by unfold k_X_takesEnd; rw [Nat.ble_eq_true_of_le h]; rfl)
theorem pf_X_takesEnd : plainFor yX3_takesEnd = true := by decide +kernel
theorem cu_X_takesEnd : Cond.code yX3_takesEnd cX3_takesEnd 2 (some .boolean) ∈ am_U := am_tb 657 (by decide +kernel) rfl
set_option maxRecDepth 100000 in
theorem ev_X_takesEnd {e1 ro : List Sh} {P : AR → HP → Prop} (h : HP) (a1 : Int32) (hP : ∀ q, v_X_takesEnd h a1 = q → RIW P h q) : am_Ev m_X_takesEnd (WW ++ e1) ro P (0, [.ref 18, .int a1], [], h) := by
  refine am_Ev_G [28, 56] 400 _ ?_
  show ((¬ (v_at 6 (h.1 20) (h.1 18 3)) = (-1 : Int32) → ((¬ (h.1 18 3) = 4 → ((¬ (h.1 18 3) = 5 → ((((0 : Int32) = 0 ∨ (0 : Int32) = 1)) ∧ P (.inl (some (.int 0))) h)) ∧ ((h.1 18 3) = 5 → ((¬ a1 = 59 → ((((0 : Int32) = 0 ∨ (0 : Int32) = 1)) ∧ P (.inl (some (.int 0))) h)) ∧ (a1 = 59 → am_Ev m_X_takesEnd (WW ++ e1) ro P (56, [.ref 18, .int a1], [], (v_X_beginJourney h))))))) ∧ ((h.1 18 3) = 4 → am_Ev m_X_takesEnd (WW ++ e1) ro P (28, [.ref 18, .int a1], [.int 43, .int a1], h)))) ∧ ((v_at 6 (h.1 20) (h.1 18 3)) = (-1 : Int32) → ((((0 : Int32) = 0 ∨ (0 : Int32) = 1)) ∧ P (.inl (some (.int 0))) h)))
  refine ⟨fun c1 => ?_, fun c1 => ?_⟩
  · skip
    refine ⟨fun c2 => ?_, fun c2 => ?_⟩
    · skip
      refine ⟨fun c3 => ?_, fun c3 => ?_⟩
      · skip
        refine ⟨(by decide), ?_⟩
        exact hP (0, h) (by unfold v_X_takesEnd; simp only [if_neg c1, if_neg c2, if_neg c3])
      · skip
        refine ⟨fun c4 => ?_, fun c4 => ?_⟩
        · skip
          refine ⟨(by decide), ?_⟩
          exact hP (0, h) (by unfold v_X_takesEnd; simp only [if_neg c1, if_neg c2, if_pos c3, if_neg c4])
        · skip
          obtain ⟨y1, c5⟩ : ∃ y, v_X_beginJourney h = y := ⟨_, rfl⟩
          rw [c5]
          show am_Ev m_X_takesEnd (WW ++ e1) ro P (56, [.ref 18, .int a1], [], y1)
          refine am_Ev_G [] 400 _ ?_
          show ((((1 : Int32) = 0 ∨ (1 : Int32) = 1)) ∧ P (.inl (some (.int 1))) y1)
          refine ⟨(by decide), ?_⟩
          exact hP (1, y1) (by unfold v_X_takesEnd; simp only [if_neg c1, if_neg c2, if_pos c3, if_pos c4, bnd, c5])
    · skip
      refine am_Ev_G [56] 400 _ ?_
      show ((¬ a1 = 43 → ((¬ (h.1 18 3) = 5 → ((((0 : Int32) = 0 ∨ (0 : Int32) = 1)) ∧ P (.inl (some (.int 0))) h)) ∧ ((h.1 18 3) = 5 → ((¬ a1 = 59 → ((((0 : Int32) = 0 ∨ (0 : Int32) = 1)) ∧ P (.inl (some (.int 0))) h)) ∧ (a1 = 59 → am_Ev m_X_takesEnd (WW ++ e1) ro P (56, [.ref 18, .int a1], [], (v_X_beginJourney h))))))) ∧ (a1 = 43 → ((((1 : Int32) = 0 ∨ (1 : Int32) = 1)) ∧ P (.inl (some (.int 1))) (am_si h 18 3 5))))
      refine ⟨fun c6 => ?_, fun c6 => ?_⟩
      · skip
        refine ⟨fun c7 => ?_, fun c7 => ?_⟩
        · skip
          refine ⟨(by decide), ?_⟩
          exact hP (0, h) (by unfold v_X_takesEnd; simp only [if_neg c1, if_pos c2, if_neg c6, if_neg c7])
        · skip
          refine ⟨fun c8 => ?_, fun c8 => ?_⟩
          · skip
            refine ⟨(by decide), ?_⟩
            exact hP (0, h) (by unfold v_X_takesEnd; simp only [if_neg c1, if_pos c2, if_neg c6, if_pos c7, if_neg c8])
          · skip
            obtain ⟨y2, c9⟩ : ∃ y, v_X_beginJourney h = y := ⟨_, rfl⟩
            rw [c9]
            show am_Ev m_X_takesEnd (WW ++ e1) ro P (56, [.ref 18, .int a1], [], y2)
            refine am_Ev_G [] 400 _ ?_
            show ((((1 : Int32) = 0 ∨ (1 : Int32) = 1)) ∧ P (.inl (some (.int 1))) y2)
            refine ⟨(by decide), ?_⟩
            exact hP (1, y2) (by unfold v_X_takesEnd; simp only [if_neg c1, if_pos c2, if_neg c6, if_pos c7, if_pos c8, bnd, c9])
      · skip
        refine ⟨(by decide), ?_⟩
        exact hP (1, (am_si h 18 3 5)) (by unfold v_X_takesEnd; simp only [if_neg c1, if_pos c2, if_pos c6])
  · skip
    refine ⟨(by decide), ?_⟩
    exact hP (0, h) (by unfold v_X_takesEnd; simp only [if_pos c1])
theorem ok_X_takesEnd {l : Launch} (hl : l.stackTraces = false) (e1 ro : List Sh) (k : Nat) : am_Ok l (WW ++ e1) ro (d_X_takesEnd k) := by
  refine am_met hl (own := RX3) (M := m_X_takesEnd) rfl pf_X_takesEnd cu_X_takesEnd rfl rfl rfl rfl (fun _ => rfl) rfl ⟨chk_X_takesEnd, (am_c (fl_X_15) (am_c (fl_X_22) am_n)), (am_c (lk_X_29) (am_c (lk_X_32) am_n)), (am_n), (am_n)⟩ (am_n) (am_c (ok_X_beginJourney hl e1 _ 13) (am_c (ok_B_at hl _ _ 1) am_n)) ?_ ?_ ?_
  · intro _ as h hg
    show g_pre (g_X_takesEnd (WW ++ e1) ro as h)
    unfold g_X_takesEnd
    split <;> exact trivial
  · intro _ as h hg
    show g_thr (g_X_takesEnd (WW ++ e1) ro as h) = none
    unfold g_X_takesEnd
    split <;> rfl
  · intro as h hg hp
    revert hg hp
    show g_ok (g_X_takesEnd (WW ++ e1) ro as h) = true → g_pre (g_X_takesEnd (WW ++ e1) ro as h) → _ ∧ am_Ev m_X_takesEnd (WW ++ e1) ro (am_eq (g_X_takesEnd (WW ++ e1) ro as h)) (0, am_ent as 2, [], h)
    unfold g_X_takesEnd
    split
    · rename_i o1 a1
      intro hc hp
      change (Nat.beq o1 18) = true at hc
      obtain rfl := am_beq hc
      exact ⟨Nat.le_of_ble_eq_true rfl, ev_X_takesEnd h a1 eqRIW⟩
    · exact fun z => nomatch z
def k_X_takes (pc : Nat) : Ent := bif Nat.ble 78 pc then am_nop else bif Nat.ble 38 pc then (bif Nat.ble 58 pc then (bif Nat.ble 66 pc then (bif Nat.ble 73 pc then (bif Nat.ble 74 pc then (bif Nat.ble 77 pc then (bif Nat.beq pc 77 then (.ireturn, 0, 0, []) else am_nop) else (bif Nat.beq pc 74 then (.invokevirtual 66, 0, 0, []) else am_nop)) else (bif Nat.beq pc 73 then (.iload_n 1, 0, 1, []) else am_nop)) else (bif Nat.ble 69 pc then (bif Nat.ble 72 pc then (bif Nat.beq pc 72 then (.aload_n 0, 0, 0, []) else am_nop) else (bif Nat.beq pc 69 then (.goto 8, 0, 77, []) else am_nop)) else (bif Nat.beq pc 66 then (.invokevirtual 63, 0, 0, []) else am_nop))) else (bif Nat.ble 62 pc then (bif Nat.ble 63 pc then (bif Nat.ble 65 pc then (bif Nat.beq pc 65 then (.isub, 0, 0, []) else am_nop) else (bif Nat.beq pc 63 then (.bipush 48, 48, 0, []) else am_nop)) else (bif Nat.beq pc 62 then (.iload_n 1, 0, 1, []) else am_nop)) else (bif Nat.ble 61 pc then (bif Nat.beq pc 61 then (.aload_n 0, 0, 0, []) else am_nop) else (bif Nat.beq pc 58 then (.if_icmp .gt 14, 0, 72, []) else am_nop)))) else (bif Nat.ble 48 pc then (bif Nat.ble 52 pc then (bif Nat.ble 55 pc then (bif Nat.ble 56 pc then (bif Nat.beq pc 56 then (.bipush 57, 57, 0, []) else am_nop) else (bif Nat.beq pc 55 then (.iload_n 1, 0, 1, []) else am_nop)) else (bif Nat.beq pc 52 then (.if_icmp .lt 20, 0, 72, []) else am_nop)) else (bif Nat.ble 49 pc then (bif Nat.ble 50 pc then (bif Nat.beq pc 50 then (.bipush 48, 48, 0, []) else am_nop) else (bif Nat.beq pc 49 then (.iload_n 1, 0, 1, []) else am_nop)) else (bif Nat.beq pc 48 then (.ireturn, 0, 0, []) else am_nop))) else (bif Nat.ble 43 pc then (bif Nat.ble 44 pc then (bif Nat.ble 47 pc then (bif Nat.beq pc 47 then (.iconst 0, 0, 0, []) else am_nop) else (bif Nat.beq pc 44 then (.goto 4, 0, 48, []) else am_nop)) else (bif Nat.beq pc 43 then (.iconst 1, 1, 0, []) else am_nop)) else (bif Nat.ble 40 pc then (bif Nat.beq pc 40 then (.if_icmp .ne 7, 0, 47, []) else am_nop) else (bif Nat.beq pc 38 then (.bipush 64, 64, 0, []) else am_nop))))) else (bif Nat.ble 18 pc then (bif Nat.ble 26 pc then (bif Nat.ble 33 pc then (bif Nat.ble 34 pc then (bif Nat.ble 37 pc then (bif Nat.beq pc 37 then (.iload_n 1, 0, 1, []) else am_nop) else (bif Nat.beq pc 34 then (.putfield 22, 0, 0, []) else am_nop)) else (bif Nat.beq pc 33 then (.iconst 3, 3, 0, []) else am_nop)) else (bif Nat.ble 29 pc then (bif Nat.ble 30 pc then (bif Nat.beq pc 30 then (.goto 4, 0, 34, []) else am_nop) else (bif Nat.beq pc 29 then (.iconst 4, 4, 0, []) else am_nop)) else (bif Nat.beq pc 26 then (.if_icmp .ne 7, 0, 33, []) else am_nop))) else (bif Nat.ble 22 pc then (bif Nat.ble 23 pc then (bif Nat.ble 24 pc then (bif Nat.beq pc 24 then (.bipush 64, 64, 0, []) else am_nop) else (bif Nat.beq pc 23 then (.iload_n 1, 0, 1, []) else am_nop)) else (bif Nat.beq pc 22 then (.aload_n 0, 0, 0, []) else am_nop)) else (bif Nat.ble 19 pc then (bif Nat.beq pc 19 then (.if_icmp .ne 30, 0, 49, []) else am_nop) else (bif Nat.beq pc 18 then (.iconst 3, 3, 0, []) else am_nop)))) else (bif Nat.ble 9 pc then (bif Nat.ble 13 pc then (bif Nat.ble 14 pc then (bif Nat.ble 15 pc then (bif Nat.beq pc 15 then (.getfield 22, 0, 0, []) else am_nop) else (bif Nat.beq pc 14 then (.aload_n 0, 0, 0, []) else am_nop)) else (bif Nat.beq pc 13 then (.ireturn, 0, 0, []) else am_nop)) else (bif Nat.ble 10 pc then (bif Nat.beq pc 10 then (.invokevirtual 60, 0, 0, []) else am_nop) else (bif Nat.beq pc 9 then (.iload_n 1, 0, 1, []) else am_nop))) else (bif Nat.ble 4 pc then (bif Nat.ble 5 pc then (bif Nat.ble 8 pc then (bif Nat.beq pc 8 then (.aload_n 0, 0, 0, []) else am_nop) else (bif Nat.beq pc 5 then (.if_icmp .ge 9, 0, 14, []) else am_nop)) else (bif Nat.beq pc 4 then (.iconst 3, 3, 0, []) else am_nop)) else (bif Nat.ble 1 pc then (bif Nat.beq pc 1 then (.getfield 22, 0, 0, []) else am_nop) else (bif Nat.beq pc 0 then (.aload_n 0, 0, 0, []) else am_nop)))))
theorem lk_X_60 : am_lnk RX3 60 (d_X_takesName 13) := ⟨⟨by decide, by decide⟩, am_tb 5 (by decide +kernel) rfl, Or.inr ⟨by decide, rfl, am_tb 648 (by decide +kernel) rfl, am_tp 47 (by decide +kernel) rfl, ⟨TX3, 4, rfl⟩, Or.inl (am_tb 646 (by decide +kernel) rfl)⟩⟩
theorem lk_X_63 : am_lnk RX3 63 (d_X_takesDigit 13) := ⟨⟨by decide, by decide⟩, am_tb 5 (by decide +kernel) rfl, Or.inr ⟨by decide, rfl, am_tb 652 (by decide +kernel) rfl, am_tp 48 (by decide +kernel) rfl, ⟨TX3, 4, rfl⟩, Or.inl (am_tb 650 (by decide +kernel) rfl)⟩⟩
theorem lk_X_66 : am_lnk RX3 66 (d_X_takesEnd 13) := ⟨⟨by decide, by decide⟩, am_tb 5 (by decide +kernel) rfl, Or.inr ⟨by decide, rfl, am_tb 656 (by decide +kernel) rfl, am_tp 49 (by decide +kernel) rfl, ⟨TX3, 4, rfl⟩, Or.inl (am_tb 654 (by decide +kernel) rfl)⟩⟩
def m_X_takes : MI := (k_X_takes, [(22, 3, 3)], [(60, d_X_takesName 13), (63, d_X_takesDigit 13), (66, d_X_takesEnd 13)], [], [], [], [], 3, 70, some .boolean, fun _ => 0, 1)
def v_X_takes (h : HP) (a1 : Int32) : Int32 × HP := (if (h.1 18 3) < 3 then (bnd (v_X_takesName h a1) fun y4 => (y4.1, y4.2)) else (if (h.1 18 3) = 3 then ((if a1 = 64 then (1 : Int32) else 0), (am_si h 18 3 (if a1 = 64 then (4 : Int32) else 3))) else (if a1 < 48 then (bnd (v_X_takesEnd h a1) fun y1 => (y1.1, y1.2)) else (if a1 ≤ 57 then (bnd (v_X_takesDigit h (a1 - 48)) fun y3 => (y3.1, y3.2)) else (bnd (v_X_takesEnd h a1) fun y2 => (y2.1, y2.2))))))
def p_X_takes (h : HP) (a1 : Int32) : Prop := (((h.1 18 3) < 3 → (∀ y4, v_X_takesName h a1 = y4 → (((y4.1 : Int32) = 0 ∨ (y4.1 : Int32) = 1)))) ∧ (¬ (h.1 18 3) < 3 → (((h.1 18 3) = 3 → True) ∧ (¬ (h.1 18 3) = 3 → ((a1 < 48 → (∀ y1, v_X_takesEnd h a1 = y1 → (((y1.1 : Int32) = 0 ∨ (y1.1 : Int32) = 1)))) ∧ (¬ a1 < 48 → ((a1 ≤ 57 → (∀ y3, v_X_takesDigit h (a1 - 48) = y3 → (((y3.1 : Int32) = 0 ∨ (y3.1 : Int32) = 1)))) ∧ (¬ a1 ≤ 57 → (∀ y2, v_X_takesEnd h a1 = y2 → (((y2.1 : Int32) = 0 ∨ (y2.1 : Int32) = 1)))))))))))
def g_X_takes (_ _ : List Sh) (as : List Value) (h : HP) : GR := match as with
  | [.ref o1, .int a1] => (Nat.beq o1 18, p_X_takes h a1, none, some (.int (v_X_takes h a1).1), (v_X_takes h a1).2)
  | _ => bad h
def d_X_takes (k : Nat) : CD := (k, yX3_takes, cX3_takes, 2, some .boolean, 2, 3, 70, 0, false, true, g_X_takes)
theorem chk_X_takes : ∀ pc, am_chk cX3_takes k_X_takes pc = true := am_chkall 78 (by decide +kernel) (fun pc h => by unfold k_X_takes; rw [Nat.ble_eq_true_of_le h]; rfl)
theorem pf_X_takes : plainFor yX3_takes = true := by decide +kernel
theorem cu_X_takes : Cond.code yX3_takes cX3_takes 2 (some .boolean) ∈ am_U := am_tb 645 (by decide +kernel) rfl
set_option maxRecDepth 100000 in
theorem ev_X_takes {e1 ro : List Sh} {P : AR → HP → Prop} (h : HP) (a1 : Int32) (hp : p_X_takes h a1) (hP : ∀ q, v_X_takes h a1 = q → RIW P h q) : am_Ev m_X_takes (WW ++ e1) ro P (0, [.ref 18, .int a1], [], h) := by
  unfold p_X_takes at hp
  refine am_Ev_G [13, 26, 69, 77] 400 _ ?_
  show ((¬ (h.1 18 3) < 3 → ((¬ (h.1 18 3) = 3 → ((a1 < 48 → am_Ev m_X_takes (WW ++ e1) ro P (77, [.ref 18, .int a1], [.int ((v_X_takesEnd h a1).1)], ((v_X_takesEnd h a1).2))) ∧ (¬ a1 < 48 → ((¬ a1 ≤ 57 → am_Ev m_X_takes (WW ++ e1) ro P (77, [.ref 18, .int a1], [.int ((v_X_takesEnd h a1).1)], ((v_X_takesEnd h a1).2))) ∧ (a1 ≤ 57 → am_Ev m_X_takes (WW ++ e1) ro P (69, [.ref 18, .int a1], [.int ((v_X_takesDigit h (a1 - 48)).1)], ((v_X_takesDigit h (a1 - 48)).2))))))) ∧ ((h.1 18 3) = 3 → am_Ev m_X_takes (WW ++ e1) ro P (26, [.ref 18, .int a1], [.int 64, .int a1, .ref 18], h)))) ∧ ((h.1 18 3) < 3 → am_Ev m_X_takes (WW ++ e1) ro P (13, [.ref 18, .int a1], [.int ((v_X_takesName h a1).1)], ((v_X_takesName h a1).2))))
  refine ⟨fun c1 => ?_, fun c1 => ?_⟩
  · have hp := hp.2 c1
    refine ⟨fun c2 => ?_, fun c2 => ?_⟩
    · have hp := hp.2 c2
      refine ⟨fun c3 => ?_, fun c3 => ?_⟩
      · have hp := hp.1 c3
        obtain ⟨y1, c4⟩ : ∃ y, v_X_takesEnd h a1 = y := ⟨_, rfl⟩
        rw [c4]
        have hp := hp _ c4
        show am_Ev m_X_takes (WW ++ e1) ro P (77, [.ref 18, .int a1], [.int y1.1], y1.2)
        refine am_Ev_G [] 400 _ ?_
        show ((((y1.1 : Int32) = 0 ∨ (y1.1 : Int32) = 1)) ∧ P (.inl (some (.int y1.1))) y1.2)
        refine ⟨hp, ?_⟩
        exact hP (y1.1, y1.2) (by unfold v_X_takes; simp only [if_neg c1, if_neg c2, if_pos c3, bnd, c4])
      · have hp := hp.2 c3
        refine ⟨fun c5 => ?_, fun c5 => ?_⟩
        · have hp := hp.2 c5
          obtain ⟨y2, c6⟩ : ∃ y, v_X_takesEnd h a1 = y := ⟨_, rfl⟩
          rw [c6]
          have hp := hp _ c6
          show am_Ev m_X_takes (WW ++ e1) ro P (77, [.ref 18, .int a1], [.int y2.1], y2.2)
          refine am_Ev_G [] 400 _ ?_
          show ((((y2.1 : Int32) = 0 ∨ (y2.1 : Int32) = 1)) ∧ P (.inl (some (.int y2.1))) y2.2)
          refine ⟨hp, ?_⟩
          exact hP (y2.1, y2.2) (by unfold v_X_takes; simp only [if_neg c1, if_neg c2, if_neg c3, if_neg c5, bnd, c6])
        · have hp := hp.1 c5
          obtain ⟨y3, c7⟩ : ∃ y, v_X_takesDigit h (a1 - 48) = y := ⟨_, rfl⟩
          rw [c7]
          have hp := hp _ c7
          show am_Ev m_X_takes (WW ++ e1) ro P (69, [.ref 18, .int a1], [.int y3.1], y3.2)
          refine am_Ev_G [77] 400 _ ?_
          show am_Ev m_X_takes (WW ++ e1) ro P (77, [.ref 18, .int a1], [.int y3.1], y3.2)
          refine am_Ev_G [] 400 _ ?_
          show ((((y3.1 : Int32) = 0 ∨ (y3.1 : Int32) = 1)) ∧ P (.inl (some (.int y3.1))) y3.2)
          refine ⟨hp, ?_⟩
          exact hP (y3.1, y3.2) (by unfold v_X_takes; simp only [if_neg c1, if_neg c2, if_neg c3, if_pos c5, bnd, c7])
    · skip
      have key8 : am_Ev m_X_takes (WW ++ e1) ro P (34, [.ref 18, .int a1], [.int (if a1 = 64 then (4 : Int32) else 3), .ref 18], h) := by
        refine am_Ev_G [40] 400 _ ?_
        show am_Ev m_X_takes (WW ++ e1) ro P (40, [.ref 18, .int a1], [.int 64, .int a1], (am_si h 18 3 (if a1 = 64 then (4 : Int32) else 3)))
        have key9 : am_Ev m_X_takes (WW ++ e1) ro P (48, [.ref 18, .int a1], [.int (if a1 = 64 then (1 : Int32) else 0)], (am_si h 18 3 (if a1 = 64 then (4 : Int32) else 3))) := by
          refine am_Ev_G [] 400 _ ?_
          show (((((if a1 = 64 then (1 : Int32) else 0) : Int32) = 0 ∨ ((if a1 = 64 then (1 : Int32) else 0) : Int32) = 1)) ∧ P (.inl (some (.int (if a1 = 64 then (1 : Int32) else 0)))) (am_si h 18 3 (if a1 = 64 then (4 : Int32) else 3)))
          refine ⟨(by (repeat' split) <;> decide), ?_⟩
          exact hP ((if a1 = 64 then (1 : Int32) else 0), (am_si h 18 3 (if a1 = 64 then (4 : Int32) else 3))) (by unfold v_X_takes; simp only [if_neg c1, if_pos c2])
        refine am_Ev_G [48] 400 _ ?_
        show ((¬ a1 = 64 → am_Ev m_X_takes (WW ++ e1) ro P (48, [.ref 18, .int a1], [.int 0], (am_si h 18 3 (if a1 = 64 then (4 : Int32) else 3)))) ∧ (a1 = 64 → am_Ev m_X_takes (WW ++ e1) ro P (48, [.ref 18, .int a1], [.int 1], (am_si h 18 3 (if a1 = 64 then (4 : Int32) else 3)))))
        refine ⟨fun c10 => ?_, fun c10 => ?_⟩
        · skip
          simpa only [if_neg c10] using key9
        · skip
          simpa only [if_pos c10] using key9
      refine am_Ev_G [34] 400 _ ?_
      show ((¬ a1 = 64 → am_Ev m_X_takes (WW ++ e1) ro P (34, [.ref 18, .int a1], [.int 3, .ref 18], h)) ∧ (a1 = 64 → am_Ev m_X_takes (WW ++ e1) ro P (34, [.ref 18, .int a1], [.int 4, .ref 18], h)))
      refine ⟨fun c11 => ?_, fun c11 => ?_⟩
      · skip
        simpa only [if_neg c11] using key8
      · skip
        simpa only [if_pos c11] using key8
  · have hp := hp.1 c1
    obtain ⟨y4, c12⟩ : ∃ y, v_X_takesName h a1 = y := ⟨_, rfl⟩
    rw [c12]
    have hp := hp _ c12
    show am_Ev m_X_takes (WW ++ e1) ro P (13, [.ref 18, .int a1], [.int y4.1], y4.2)
    refine am_Ev_G [] 400 _ ?_
    show ((((y4.1 : Int32) = 0 ∨ (y4.1 : Int32) = 1)) ∧ P (.inl (some (.int y4.1))) y4.2)
    refine ⟨hp, ?_⟩
    exact hP (y4.1, y4.2) (by unfold v_X_takes; simp only [if_pos c1, bnd, c12])
theorem ok_X_takes {l : Launch} (hl : l.stackTraces = false) (e1 ro : List Sh) (k : Nat) : am_Ok l (WW ++ e1) ro (d_X_takes k) := by
  refine am_met hl (own := RX3) (M := m_X_takes) rfl pf_X_takes cu_X_takes rfl rfl rfl rfl (fun _ => rfl) rfl ⟨chk_X_takes, (am_c (fl_X_22) am_n), (am_c (lk_X_60) (am_c (lk_X_63) (am_c (lk_X_66) am_n))), (am_n), (am_n)⟩ (am_n) (am_c (ok_X_takesName hl e1 _ 13) (am_c (ok_X_takesDigit hl e1 _ 13) (am_c (ok_X_takesEnd hl e1 _ 13) am_n))) (fun z => nomatch z) ?_ ?_
  · intro _ as h hg
    show g_thr (g_X_takes (WW ++ e1) ro as h) = none
    unfold g_X_takes
    split <;> rfl
  · intro as h hg hp
    revert hg hp
    show g_ok (g_X_takes (WW ++ e1) ro as h) = true → g_pre (g_X_takes (WW ++ e1) ro as h) → _ ∧ am_Ev m_X_takes (WW ++ e1) ro (am_eq (g_X_takes (WW ++ e1) ro as h)) (0, am_ent as 2, [], h)
    unfold g_X_takes
    split
    · rename_i o1 a1
      intro hc hp
      change (Nat.beq o1 18) = true at hc
      obtain rfl := am_beq hc
      exact ⟨Nat.le_of_ble_eq_true rfl, ev_X_takes h a1 hp eqRIW⟩
    · exact fun z => nomatch z
def k_X_readToError (pc : Nat) : Ent := bif Nat.ble 37 pc then am_nop else bif Nat.ble 15 pc then (bif Nat.ble 26 pc then (bif Nat.ble 32 pc then (bif Nat.ble 35 pc then (bif Nat.ble 36 pc then (bif Nat.beq pc 36 then (.ireturn, 0, 0, []) else am_nop) else (bif Nat.beq pc 35 then (.iload_n 1, 0, 1, []) else am_nop)) else (bif Nat.beq pc 32 then (.goto (-26), 0, 6, []) else am_nop)) else (bif Nat.ble 29 pc then (bif Nat.beq pc 29 then (.iinc 1 1, 1, 1, []) else am_nop) else (bif Nat.beq pc 26 then (.ifCond .eq 9, 0, 35, []) else am_nop))) else (bif Nat.ble 19 pc then (bif Nat.ble 20 pc then (bif Nat.ble 23 pc then (bif Nat.beq pc 23 then (.invokevirtual 36, 0, 0, []) else am_nop) else (bif Nat.beq pc 20 then (.invokestatic 32, 0, 0, []) else am_nop)) else (bif Nat.beq pc 19 then (.iload_n 1, 0, 1, []) else am_nop)) else (bif Nat.ble 16 pc then (bif Nat.beq pc 16 then (.getfield 9, 0, 0, []) else am_nop) else (bif Nat.beq pc 15 then (.aload_n 0, 0, 0, []) else am_nop)))) else (bif Nat.ble 6 pc then (bif Nat.ble 8 pc then (bif Nat.ble 11 pc then (bif Nat.ble 14 pc then (bif Nat.beq pc 14 then (.aload_n 0, 0, 0, []) else am_nop) else (bif Nat.beq pc 11 then (.if_icmp .ge 24, 0, 35, []) else am_nop)) else (bif Nat.beq pc 8 then (.getfield 18, 0, 0, []) else am_nop)) else (bif Nat.ble 7 pc then (bif Nat.beq pc 7 then (.aload_n 0, 0, 0, []) else am_nop) else (bif Nat.beq pc 6 then (.iload_n 1, 0, 1, []) else am_nop))) else (bif Nat.ble 4 pc then (bif Nat.ble 5 pc then (bif Nat.beq pc 5 then (.istore_n 1, 0, 1, []) else am_nop) else (bif Nat.beq pc 4 then (.iconst 0, 0, 0, []) else am_nop)) else (bif Nat.ble 1 pc then (bif Nat.beq pc 1 then (.invokevirtual 29, 0, 0, []) else am_nop) else (bif Nat.beq pc 0 then (.aload_n 0, 0, 0, []) else am_nop))))
theorem lk_X_36 : am_lnk RX3 36 (d_X_takes 13) := ⟨⟨by decide, by decide⟩, am_tb 5 (by decide +kernel) rfl, Or.inr ⟨by decide, rfl, am_tb 644 (by decide +kernel) rfl, am_tp 46 (by decide +kernel) rfl, ⟨TX3, 4, rfl⟩, Or.inl (am_tb 642 (by decide +kernel) rfl)⟩⟩
def m_X_readToError : MI := (k_X_readToError, [(9, 3, 0), (18, 3, 2)], [(29, d_X_beginJourney 13), (32, d_B_at 1), (36, d_X_takes 13)], [], [], [], [], 4, 93, some .int, fun _ => 0, 1)
def s_X_readToError_6 (h : HP) (y1 : HP) (v1 : Int32 × HP) : (Int32 × HP) ⊕ (Int32 × HP) := (if v1.1 < (v1.2.1 18 2) then (bnd (v_X_takes v1.2 (v_at 60 (v1.2.1 19) v1.1)) fun y3 => (if y3.1 = 0 then (.inr (v1.1, y3.2)) else (.inl ((v1.1 + 1), y3.2)))) else (.inr (v1.1, v1.2)))
def ps_X_readToError_6 (h : HP) (y1 : HP) (v1 : Int32 × HP) : Prop := ((v1.1 < (v1.2.1 18 2) → (p_X_takes v1.2 (v_at 60 (v1.2.1 19) v1.1))) ∧ (¬ v1.1 < (v1.2.1 18 2) → True))
def v_X_readToError (h : HP) : Int32 × HP := (bnd (v_X_beginJourney h) fun y1 => (match itr (s_X_readToError_6 h y1) NF (0, y1) with | some r2 => (r2.1, r2.2) | none => (0, h)))
def p_X_readToError (h : HP) : Prop := (∀ y1, v_X_beginJourney h = y1 → (itrp (s_X_readToError_6 h y1) (ps_X_readToError_6 h y1) NF (0, y1)))
def g_X_readToError (_ _ : List Sh) (as : List Value) (h : HP) : GR := match as with
  | [.ref o1] => (Nat.beq o1 18, p_X_readToError h, none, some (.int (v_X_readToError h).1), (v_X_readToError h).2)
  | _ => bad h
def d_X_readToError (k : Nat) : CD := (k, yX3_readToError, cX3_readToError, 2, some .int, 1, 4, 93, 0, false, true, g_X_readToError)
theorem chk_X_readToError : ∀ pc, am_chk cX3_readToError k_X_readToError pc = true := am_chkall 37 (by decide +kernel) (fun pc h => by unfold k_X_readToError; rw [Nat.ble_eq_true_of_le h]; rfl)
theorem pf_X_readToError : plainFor yX3_readToError = true := by decide +kernel
theorem cu_X_readToError : Cond.code yX3_readToError cX3_readToError 2 (some .int) ∈ am_U := am_tb 635 (by decide +kernel) rfl
set_option maxRecDepth 100000 in
theorem ev_X_readToError {e1 ro : List Sh} {P : AR → HP → Prop} (h : HP) (hp : p_X_readToError h) (hP : ∀ q, v_X_readToError h = q → RIW P h q) : am_Ev m_X_readToError (WW ++ e1) ro P (0, [.ref 18, .retAddr 0], [], h) := by
  unfold p_X_readToError at hp
  refine am_Ev_G [4] 400 _ ?_
  show am_Ev m_X_readToError (WW ++ e1) ro P (4, [.ref 18, .retAddr 0], [], (v_X_beginJourney h))
  obtain ⟨y1, c1⟩ : ∃ y, v_X_beginJourney h = y := ⟨_, rfl⟩
  rw [c1]
  have hp := hp _ c1
  show am_Ev m_X_readToError (WW ++ e1) ro P (4, [.ref 18, .retAddr 0], [], y1)
  refine am_Ev_G [6] 400 _ ?_
  show am_Ev m_X_readToError (WW ++ e1) ro P (6, [.ref 18, .int 0], [], y1)
  have hpl := hp
  refine am_itr (E := (fun (v1 : Int32 × HP) => am_Ev m_X_readToError (WW ++ e1) ro P (6, [.ref 18, .int v1.1], [], v1.2))) (E' := (fun (r2 : Int32 × HP) => am_Ev m_X_readToError (WW ++ e1) ro P (35, [.ref 18, .int r2.1], [], r2.2))) (s_X_readToError_6 h y1) (ps_X_readToError_6 h y1) ?_ NF (0, y1) hpl ?_
  · intro v1 hp hc1 hx1
    show am_Ev m_X_readToError (WW ++ e1) ro P (6, [.ref 18, .int v1.1], [], v1.2)
    unfold ps_X_readToError_6 at hp
    refine am_Ev_G [23, 35] 400 _ ?_
    show ((¬ v1.1 < (v1.2.1 18 2) → am_Ev m_X_readToError (WW ++ e1) ro P (35, [.ref 18, .int v1.1], [], v1.2)) ∧ (v1.1 < (v1.2.1 18 2) → am_Ev m_X_readToError (WW ++ e1) ro P (23, [.ref 18, .int v1.1], [.int (v_at 60 (v1.2.1 19) v1.1), .ref 18], v1.2)))
    refine ⟨fun c2 => ?_, fun c2 => ?_⟩
    · skip
      exact hx1 (v1.1, v1.2) (by unfold s_X_readToError_6; simp only [if_neg c2])
    · have hp := hp.1 c2
      refine am_Ev_G [26] 400 _ ?_
      show ((p_X_takes v1.2 (v_at 60 (v1.2.1 19) v1.1)) ∧ am_Ev m_X_readToError (WW ++ e1) ro P (26, [.ref 18, .int v1.1], [.int ((v_X_takes v1.2 (v_at 60 (v1.2.1 19) v1.1)).1)], ((v_X_takes v1.2 (v_at 60 (v1.2.1 19) v1.1)).2)))
      refine ⟨hp, ?_⟩
      obtain ⟨y3, c3⟩ : ∃ y, v_X_takes v1.2 (v_at 60 (v1.2.1 19) v1.1) = y := ⟨_, rfl⟩
      rw [c3]
      show am_Ev m_X_readToError (WW ++ e1) ro P (26, [.ref 18, .int v1.1], [.int y3.1], y3.2)
      refine am_Ev_G [6, 35] 400 _ ?_
      show ((y3.1 = 0 → am_Ev m_X_readToError (WW ++ e1) ro P (35, [.ref 18, .int v1.1], [], y3.2)) ∧ (¬ y3.1 = 0 → am_Ev m_X_readToError (WW ++ e1) ro P (6, [.ref 18, .int (v1.1 + 1)], [], y3.2)))
      refine ⟨fun c4 => ?_, fun c4 => ?_⟩
      · skip
        exact hx1 (v1.1, y3.2) (by unfold s_X_readToError_6; simp only [if_pos c2, bnd, c3, if_pos c4])
      · skip
        exact hc1 ((v1.1 + 1), y3.2) (by unfold s_X_readToError_6; simp only [if_pos c2, bnd, c3, if_neg c4])
  · intro r2 hr5
    show am_Ev m_X_readToError (WW ++ e1) ro P (35, [.ref 18, .int r2.1], [], r2.2)
    refine am_Ev_G [] 400 _ ?_
    show P (.inl (some (.int r2.1))) r2.2
    exact hP (r2.1, r2.2) (by unfold v_X_readToError; simp only [bnd, c1, hr5])
theorem ok_X_readToError {l : Launch} (hl : l.stackTraces = false) (e1 ro : List Sh) (k : Nat) : am_Ok l (WW ++ e1) ro (d_X_readToError k) := by
  refine am_met hl (own := RX3) (M := m_X_readToError) rfl pf_X_readToError cu_X_readToError rfl rfl rfl rfl (fun _ => rfl) rfl ⟨chk_X_readToError, (am_c (fl_X_9) (am_c (fl_X_18) am_n)), (am_c (lk_X_29) (am_c (lk_X_32) (am_c (lk_X_36) am_n))), (am_n), (am_n)⟩ (am_n) (am_c (ok_X_beginJourney hl e1 _ 13) (am_c (ok_B_at hl _ _ 1) (am_c (ok_X_takes hl e1 _ 13) am_n))) (fun z => nomatch z) ?_ ?_
  · intro _ as h hg
    show g_thr (g_X_readToError (WW ++ e1) ro as h) = none
    unfold g_X_readToError
    split <;> rfl
  · intro as h hg hp
    revert hg hp
    show g_ok (g_X_readToError (WW ++ e1) ro as h) = true → g_pre (g_X_readToError (WW ++ e1) ro as h) → _ ∧ am_Ev m_X_readToError (WW ++ e1) ro (am_eq (g_X_readToError (WW ++ e1) ro as h)) (0, am_ent as 2, [], h)
    unfold g_X_readToError
    split
    · rename_i o1
      intro hc hp
      change (Nat.beq o1 18) = true at hc
      obtain rfl := am_beq hc
      exact ⟨Nat.le_of_ble_eq_true rfl, ev_X_readToError h hp eqRIW⟩
    · exact fun z => nomatch z
def k_X_isWhole (pc : Nat) : Ent := bif Nat.ble 37 pc then am_nop else bif Nat.ble 19 pc then (bif Nat.ble 28 pc then (bif Nat.ble 32 pc then (bif Nat.ble 35 pc then (bif Nat.ble 36 pc then (bif Nat.beq pc 36 then (.ireturn, 0, 0, []) else am_nop) else (bif Nat.beq pc 35 then (.iconst 0, 0, 0, []) else am_nop)) else (bif Nat.beq pc 32 then (.goto 4, 0, 36, []) else am_nop)) else (bif Nat.ble 31 pc then (bif Nat.beq pc 31 then (.iconst 1, 1, 0, []) else am_nop) else (bif Nat.beq pc 28 then (.if_icmp .eq 7, 0, 35, []) else am_nop))) else (bif Nat.ble 23 pc then (bif Nat.ble 24 pc then (bif Nat.ble 27 pc then (bif Nat.beq pc 27 then (.iconst (-1), (-1 : Int32), 0, []) else am_nop) else (bif Nat.beq pc 24 then (.invokestatic 32, 0, 0, []) else am_nop)) else (bif Nat.beq pc 23 then (.iconst 5, 5, 0, []) else am_nop)) else (bif Nat.ble 20 pc then (bif Nat.beq pc 20 then (.getfield 15, 0, 0, []) else am_nop) else (bif Nat.beq pc 19 then (.aload_n 0, 0, 0, []) else am_nop)))) else (bif Nat.ble 8 pc then (bif Nat.ble 12 pc then (bif Nat.ble 15 pc then (bif Nat.ble 16 pc then (bif Nat.beq pc 16 then (.if_icmp .ne 19, 0, 35, []) else am_nop) else (bif Nat.beq pc 15 then (.iconst 5, 5, 0, []) else am_nop)) else (bif Nat.beq pc 12 then (.getfield 22, 0, 0, []) else am_nop)) else (bif Nat.ble 11 pc then (bif Nat.beq pc 11 then (.aload_n 0, 0, 0, []) else am_nop) else (bif Nat.beq pc 8 then (.if_icmp .ne 27, 0, 35, []) else am_nop))) else (bif Nat.ble 4 pc then (bif Nat.ble 5 pc then (bif Nat.beq pc 5 then (.getfield 18, 0, 0, []) else am_nop) else (bif Nat.beq pc 4 then (.aload_n 0, 0, 0, []) else am_nop)) else (bif Nat.ble 1 pc then (bif Nat.beq pc 1 then (.invokevirtual 40, 0, 0, []) else am_nop) else (bif Nat.beq pc 0 then (.aload_n 0, 0, 0, []) else am_nop))))
theorem lk_X_40 : am_lnk RX3 40 (d_X_readToError 13) := ⟨⟨by decide, by decide⟩, am_tb 5 (by decide +kernel) rfl, Or.inr ⟨by decide, rfl, am_tb 634 (by decide +kernel) rfl, am_tp 44 (by decide +kernel) rfl, ⟨TX3, 4, rfl⟩, Or.inl (am_tb 632 (by decide +kernel) rfl)⟩⟩
def m_X_isWhole : MI := (k_X_isWhole, [(15, 3, 1), (18, 3, 2), (22, 3, 3)], [(32, d_B_at 1), (40, d_X_readToError 13)], [], [], [], [], 5, 116, some .boolean, fun _ => 0, 1)
def v_X_isWhole (h : HP) : Int32 × HP := (bnd (v_X_readToError h) fun y1 => ((if y1.1 = (y1.2.1 18 2) then (if (y1.2.1 18 3) = 5 then (if (v_at 6 (y1.2.1 20) 5) = (-1 : Int32) then (0 : Int32) else 1) else 0) else 0), y1.2))
def p_X_isWhole (h : HP) : Prop := (p_X_readToError h)
def g_X_isWhole (_ _ : List Sh) (as : List Value) (h : HP) : GR := match as with
  | [.ref o1] => (Nat.beq o1 18, p_X_isWhole h, none, some (.int (v_X_isWhole h).1), (v_X_isWhole h).2)
  | _ => bad h
def d_X_isWhole (k : Nat) : CD := (k, yX3_isWhole, cX3_isWhole, 1, some .boolean, 1, 5, 116, 0, false, true, g_X_isWhole)
theorem chk_X_isWhole : ∀ pc, am_chk cX3_isWhole k_X_isWhole pc = true := am_chkall 37 (by decide +kernel) (fun pc h => by unfold k_X_isWhole; rw [Nat.ble_eq_true_of_le h]; rfl)
theorem pf_X_isWhole : plainFor yX3_isWhole = true := by decide +kernel
theorem cu_X_isWhole : Cond.code yX3_isWhole cX3_isWhole 1 (some .boolean) ∈ am_U := am_tb 631 (by decide +kernel) rfl
set_option maxRecDepth 100000 in
theorem ev_X_isWhole {e1 ro : List Sh} {P : AR → HP → Prop} (h : HP) (hp : p_X_isWhole h) (hP : ∀ q, v_X_isWhole h = q → RIW P h q) : am_Ev m_X_isWhole (WW ++ e1) ro P (0, [.ref 18], [], h) := by
  unfold p_X_isWhole at hp
  refine am_Ev_G [4] 400 _ ?_
  show ((p_X_readToError h) ∧ am_Ev m_X_isWhole (WW ++ e1) ro P (4, [.ref 18], [.int ((v_X_readToError h).1)], ((v_X_readToError h).2)))
  refine ⟨hp, ?_⟩
  obtain ⟨y1, c1⟩ : ∃ y, v_X_readToError h = y := ⟨_, rfl⟩
  rw [c1]
  show am_Ev m_X_isWhole (WW ++ e1) ro P (4, [.ref 18], [.int y1.1], y1.2)
  refine am_Ev_G [8] 400 _ ?_
  show am_Ev m_X_isWhole (WW ++ e1) ro P (8, [.ref 18], [.int (y1.2.1 18 2), .int y1.1], y1.2)
  have key2 : am_Ev m_X_isWhole (WW ++ e1) ro P (36, [.ref 18], [.int (if y1.1 = (y1.2.1 18 2) then (if (y1.2.1 18 3) = 5 then (if (v_at 6 (y1.2.1 20) 5) = (-1 : Int32) then (0 : Int32) else 1) else 0) else 0)], y1.2) := by
    refine am_Ev_G [] 400 _ ?_
    show (((((if y1.1 = (y1.2.1 18 2) then (if (y1.2.1 18 3) = 5 then (if (v_at 6 (y1.2.1 20) 5) = (-1 : Int32) then (0 : Int32) else 1) else 0) else 0) : Int32) = 0 ∨ ((if y1.1 = (y1.2.1 18 2) then (if (y1.2.1 18 3) = 5 then (if (v_at 6 (y1.2.1 20) 5) = (-1 : Int32) then (0 : Int32) else 1) else 0) else 0) : Int32) = 1)) ∧ P (.inl (some (.int (if y1.1 = (y1.2.1 18 2) then (if (y1.2.1 18 3) = 5 then (if (v_at 6 (y1.2.1 20) 5) = (-1 : Int32) then (0 : Int32) else 1) else 0) else 0)))) y1.2)
    refine ⟨(by (repeat' split) <;> decide), ?_⟩
    exact hP ((if y1.1 = (y1.2.1 18 2) then (if (y1.2.1 18 3) = 5 then (if (v_at 6 (y1.2.1 20) 5) = (-1 : Int32) then (0 : Int32) else 1) else 0) else 0), y1.2) (by unfold v_X_isWhole; simp only [bnd, c1])
  refine am_Ev_G [36] 400 _ ?_
  show ((¬ y1.1 = (y1.2.1 18 2) → am_Ev m_X_isWhole (WW ++ e1) ro P (36, [.ref 18], [.int 0], y1.2)) ∧ (y1.1 = (y1.2.1 18 2) → ((¬ (y1.2.1 18 3) = 5 → am_Ev m_X_isWhole (WW ++ e1) ro P (36, [.ref 18], [.int 0], y1.2)) ∧ ((y1.2.1 18 3) = 5 → (((v_at 6 (y1.2.1 20) 5) = (-1 : Int32) → am_Ev m_X_isWhole (WW ++ e1) ro P (36, [.ref 18], [.int 0], y1.2)) ∧ (¬ (v_at 6 (y1.2.1 20) 5) = (-1 : Int32) → am_Ev m_X_isWhole (WW ++ e1) ro P (36, [.ref 18], [.int 1], y1.2)))))))
  refine ⟨fun c3 => ?_, fun c3 => ?_⟩
  · skip
    simpa only [if_neg c3] using key2
  · skip
    refine ⟨fun c4 => ?_, fun c4 => ?_⟩
    · skip
      simpa only [if_pos c3, if_neg c4] using key2
    · skip
      refine ⟨fun c5 => ?_, fun c5 => ?_⟩
      · skip
        simpa only [if_pos c3, if_pos c4, if_pos c5] using key2
      · skip
        simpa only [if_pos c3, if_pos c4, if_neg c5] using key2
theorem ok_X_isWhole {l : Launch} (hl : l.stackTraces = false) (e1 ro : List Sh) (k : Nat) : am_Ok l (WW ++ e1) ro (d_X_isWhole k) := by
  refine am_met hl (own := RX3) (M := m_X_isWhole) rfl pf_X_isWhole cu_X_isWhole rfl rfl rfl rfl (fun _ => rfl) rfl ⟨chk_X_isWhole, (am_c (fl_X_15) (am_c (fl_X_18) (am_c (fl_X_22) am_n))), (am_c (lk_X_32) (am_c (lk_X_40) am_n)), (am_n), (am_n)⟩ (am_n) (am_c (ok_B_at hl _ _ 1) (am_c (ok_X_readToError hl e1 _ 13) am_n)) (fun z => nomatch z) ?_ ?_
  · intro _ as h hg
    show g_thr (g_X_isWhole (WW ++ e1) ro as h) = none
    unfold g_X_isWhole
    split <;> rfl
  · intro as h hg hp
    revert hg hp
    show g_ok (g_X_isWhole (WW ++ e1) ro as h) = true → g_pre (g_X_isWhole (WW ++ e1) ro as h) → _ ∧ am_Ev m_X_isWhole (WW ++ e1) ro (am_eq (g_X_isWhole (WW ++ e1) ro as h)) (0, am_ent as 1, [], h)
    unfold g_X_isWhole
    split
    · rename_i o1
      intro hc hp
      change (Nat.beq o1 18) = true at hc
      obtain rfl := am_beq hc
      exact ⟨Nat.le_of_ble_eq_true rfl, ev_X_isWhole h hp eqRIW⟩
    · exact fun z => nomatch z
def k_X_journeys (pc : Nat) : Ent := bif Nat.ble 41 pc then am_nop else bif Nat.ble 18 pc then (bif Nat.ble 31 pc then (bif Nat.ble 36 pc then (bif Nat.ble 39 pc then (bif Nat.ble 40 pc then (bif Nat.beq pc 40 then (.ireturn, 0, 0, []) else am_nop) else (bif Nat.beq pc 39 then (.iload_n 1, 0, 1, []) else am_nop)) else (bif Nat.beq pc 36 then (.goto (-32), 0, 4, []) else am_nop)) else (bif Nat.ble 32 pc then (bif Nat.ble 33 pc then (bif Nat.beq pc 33 then (.iinc 2 1, 1, 2, []) else am_nop) else (bif Nat.beq pc 32 then (.istore_n 1, 0, 1, []) else am_nop)) else (bif Nat.beq pc 31 then (.iadd, 0, 0, []) else am_nop))) else (bif Nat.ble 26 pc then (bif Nat.ble 27 pc then (bif Nat.ble 30 pc then (bif Nat.beq pc 30 then (.iconst 0, 0, 0, []) else am_nop) else (bif Nat.beq pc 27 then (.goto 4, 0, 31, []) else am_nop)) else (bif Nat.beq pc 26 then (.iconst 1, 1, 0, []) else am_nop)) else (bif Nat.ble 21 pc then (bif Nat.ble 23 pc then (bif Nat.beq pc 23 then (.if_icmp .ne 7, 0, 30, []) else am_nop) else (bif Nat.beq pc 21 then (.bipush 59, 59, 0, []) else am_nop)) else (bif Nat.beq pc 18 then (.invokestatic 32, 0, 0, []) else am_nop)))) else (bif Nat.ble 6 pc then (bif Nat.ble 13 pc then (bif Nat.ble 14 pc then (bif Nat.ble 17 pc then (bif Nat.beq pc 17 then (.iload_n 2, 0, 2, []) else am_nop) else (bif Nat.beq pc 14 then (.getfield 9, 0, 0, []) else am_nop)) else (bif Nat.beq pc 13 then (.aload_n 0, 0, 0, []) else am_nop)) else (bif Nat.ble 9 pc then (bif Nat.ble 12 pc then (bif Nat.beq pc 12 then (.iload_n 1, 0, 1, []) else am_nop) else (bif Nat.beq pc 9 then (.if_icmp .ge 30, 0, 39, []) else am_nop)) else (bif Nat.beq pc 6 then (.getfield 18, 0, 0, []) else am_nop))) else (bif Nat.ble 3 pc then (bif Nat.ble 4 pc then (bif Nat.ble 5 pc then (bif Nat.beq pc 5 then (.aload_n 0, 0, 0, []) else am_nop) else (bif Nat.beq pc 4 then (.iload_n 2, 0, 2, []) else am_nop)) else (bif Nat.beq pc 3 then (.istore_n 2, 0, 2, []) else am_nop)) else (bif Nat.ble 1 pc then (bif Nat.ble 2 pc then (bif Nat.beq pc 2 then (.iconst 0, 0, 0, []) else am_nop) else (bif Nat.beq pc 1 then (.istore_n 1, 0, 1, []) else am_nop)) else (bif Nat.beq pc 0 then (.iconst 1, 1, 0, []) else am_nop))))
def m_X_journeys : MI := (k_X_journeys, [(9, 3, 0), (18, 3, 2)], [(32, d_B_at 1)], [], [], [], [], 1, 23, some .int, fun _ => 0, 1)
def s_X_journeys_4 (h : HP) (v1 : Int32 × Int32) : (Int32 × Int32) ⊕ (Int32 × Int32) := (if v1.2 < (h.1 18 2) then (.inl ((v1.1 + (if (v_at 60 (h.1 19) v1.2) = 59 then (1 : Int32) else 0)), (v1.2 + 1))) else (.inr (v1.1, v1.2)))
def ps_X_journeys_4 (h : HP) (v1 : Int32 × Int32) : Prop := True
def v_X_journeys (h : HP) : Int32 := (match itr (s_X_journeys_4 h) NF (1, 0) with | some r1 => r1.1 | none => 0)
def p_X_journeys (h : HP) : Prop := (itrp (s_X_journeys_4 h) (ps_X_journeys_4 h) NF (1, 0))
def g_X_journeys (_ _ : List Sh) (as : List Value) (h : HP) : GR := match as with
  | [.ref o1] => (Nat.beq o1 18, p_X_journeys h, none, some (.int (v_X_journeys h)), h)
  | _ => bad h
def d_X_journeys (k : Nat) : CD := (k, yX3_journeys, cX3_journeys, 3, some .int, 1, 1, 23, 0, false, true, g_X_journeys)
theorem chk_X_journeys : ∀ pc, am_chk cX3_journeys k_X_journeys pc = true := am_chkall 41 (by decide +kernel) (fun pc h => by unfold k_X_journeys; rw [Nat.ble_eq_true_of_le h]; rfl)
theorem pf_X_journeys : plainFor yX3_journeys = true := by decide +kernel
theorem cu_X_journeys : Cond.code yX3_journeys cX3_journeys 3 (some .int) ∈ am_U := am_tb 662 (by decide +kernel) rfl
set_option maxRecDepth 100000 in
theorem ev_X_journeys {e1 ro : List Sh} {P : AR → HP → Prop} (h : HP) (hp : p_X_journeys h) (hP : ∀ q, v_X_journeys h = q → RI P h q) : am_Ev m_X_journeys (WW ++ e1) ro P (0, [.ref 18, .retAddr 0, .retAddr 0], [], h) := by
  unfold p_X_journeys at hp
  refine am_Ev_G [4] 400 _ ?_
  show am_Ev m_X_journeys (WW ++ e1) ro P (4, [.ref 18, .int 1, .int 0], [], h)
  have hpl := hp
  refine am_itr (E := (fun (v1 : Int32 × Int32) => am_Ev m_X_journeys (WW ++ e1) ro P (4, [.ref 18, .int v1.1, .int v1.2], [], h))) (E' := (fun (r1 : Int32 × Int32) => am_Ev m_X_journeys (WW ++ e1) ro P (39, [.ref 18, .int r1.1, .int r1.2], [], h))) (s_X_journeys_4 h) (ps_X_journeys_4 h) ?_ NF (1, 0) hpl ?_
  · intro v1 hp hc1 hx1
    show am_Ev m_X_journeys (WW ++ e1) ro P (4, [.ref 18, .int v1.1, .int v1.2], [], h)
    refine am_Ev_G [21, 39] 400 _ ?_
    show ((¬ v1.2 < (h.1 18 2) → am_Ev m_X_journeys (WW ++ e1) ro P (39, [.ref 18, .int v1.1, .int v1.2], [], h)) ∧ (v1.2 < (h.1 18 2) → am_Ev m_X_journeys (WW ++ e1) ro P (21, [.ref 18, .int v1.1, .int v1.2], [.int (v_at 60 (h.1 19) v1.2), .int v1.1], h)))
    refine ⟨fun c1 => ?_, fun c1 => ?_⟩
    · skip
      exact hx1 (v1.1, v1.2) (by unfold s_X_journeys_4; simp only [if_neg c1])
    · skip
      refine am_Ev_G [23] 400 _ ?_
      show am_Ev m_X_journeys (WW ++ e1) ro P (23, [.ref 18, .int v1.1, .int v1.2], [.int 59, .int (v_at 60 (h.1 19) v1.2), .int v1.1], h)
      have key2 : am_Ev m_X_journeys (WW ++ e1) ro P (31, [.ref 18, .int v1.1, .int v1.2], [.int (if (v_at 60 (h.1 19) v1.2) = 59 then (1 : Int32) else 0), .int v1.1], h) := by
        refine am_Ev_G [4] 400 _ ?_
        show am_Ev m_X_journeys (WW ++ e1) ro P (4, [.ref 18, .int (v1.1 + (if (v_at 60 (h.1 19) v1.2) = 59 then (1 : Int32) else 0)), .int (v1.2 + 1)], [], h)
        exact hc1 ((v1.1 + (if (v_at 60 (h.1 19) v1.2) = 59 then (1 : Int32) else 0)), (v1.2 + 1)) (by unfold s_X_journeys_4; simp only [if_pos c1])
      refine am_Ev_G [31] 400 _ ?_
      show ((¬ (v_at 60 (h.1 19) v1.2) = 59 → am_Ev m_X_journeys (WW ++ e1) ro P (31, [.ref 18, .int v1.1, .int v1.2], [.int 0, .int v1.1], h)) ∧ ((v_at 60 (h.1 19) v1.2) = 59 → am_Ev m_X_journeys (WW ++ e1) ro P (31, [.ref 18, .int v1.1, .int v1.2], [.int 1, .int v1.1], h)))
      refine ⟨fun c3 => ?_, fun c3 => ?_⟩
      · skip
        simpa only [if_neg c3] using key2
      · skip
        simpa only [if_pos c3] using key2
  · intro r1 hr4
    show am_Ev m_X_journeys (WW ++ e1) ro P (39, [.ref 18, .int r1.1, .int r1.2], [], h)
    refine am_Ev_G [] 400 _ ?_
    show P (.inl (some (.int r1.1))) h
    exact hP r1.1 (by unfold v_X_journeys; simp only [hr4])
theorem ok_X_journeys {l : Launch} (hl : l.stackTraces = false) (e1 ro : List Sh) (k : Nat) : am_Ok l (WW ++ e1) ro (d_X_journeys k) := by
  refine am_met hl (own := RX3) (M := m_X_journeys) rfl pf_X_journeys cu_X_journeys rfl rfl rfl rfl (fun _ => rfl) rfl ⟨chk_X_journeys, (am_c (fl_X_9) (am_c (fl_X_18) am_n)), (am_c (lk_X_32) am_n), (am_n), (am_n)⟩ (am_n) (am_c (ok_B_at hl _ _ 1) am_n) (fun z => nomatch z) ?_ ?_
  · intro _ as h hg
    show g_thr (g_X_journeys (WW ++ e1) ro as h) = none
    unfold g_X_journeys
    split <;> rfl
  · intro as h hg hp
    revert hg hp
    show g_ok (g_X_journeys (WW ++ e1) ro as h) = true → g_pre (g_X_journeys (WW ++ e1) ro as h) → _ ∧ am_Ev m_X_journeys (WW ++ e1) ro (am_eq (g_X_journeys (WW ++ e1) ro as h)) (0, am_ent as 3, [], h)
    unfold g_X_journeys
    split
    · rename_i o1
      intro hc hp
      change (Nat.beq o1 18) = true at hc
      obtain rfl := am_beq hc
      exact ⟨Nat.le_of_ble_eq_true rfl, ev_X_journeys h hp eqRI⟩
    · exact fun z => nomatch z
def k_X_addJourney (pc : Nat) : Ent := bif Nat.ble 46 pc then am_nop else bif Nat.ble 22 pc then (bif Nat.ble 34 pc then (bif Nat.ble 41 pc then (bif Nat.ble 44 pc then (bif Nat.ble 45 pc then (bif Nat.beq pc 45 then (.return_, 0, 0, []) else am_nop) else (bif Nat.beq pc 44 then (.pop, 0, 0, []) else am_nop)) else (bif Nat.beq pc 41 then (.invokevirtual 48, 0, 0, []) else am_nop)) else (bif Nat.ble 37 pc then (bif Nat.ble 38 pc then (bif Nat.beq pc 38 then (.invokestatic 32, 0, 0, []) else am_nop) else (bif Nat.beq pc 37 then (.iconst 5, 5, 0, []) else am_nop)) else (bif Nat.beq pc 34 then (.getfield 15, 0, 0, []) else am_nop))) else (bif Nat.ble 29 pc then (bif Nat.ble 30 pc then (bif Nat.ble 33 pc then (bif Nat.beq pc 33 then (.aload_n 0, 0, 0, []) else am_nop) else (bif Nat.beq pc 30 then (.invokestatic 32, 0, 0, []) else am_nop)) else (bif Nat.beq pc 29 then (.iconst 4, 4, 0, []) else am_nop)) else (bif Nat.ble 25 pc then (bif Nat.ble 26 pc then (bif Nat.beq pc 26 then (.getfield 15, 0, 0, []) else am_nop) else (bif Nat.beq pc 25 then (.aload_n 0, 0, 0, []) else am_nop)) else (bif Nat.beq pc 22 then (.invokestatic 32, 0, 0, []) else am_nop)))) else (bif Nat.ble 10 pc then (bif Nat.ble 17 pc then (bif Nat.ble 18 pc then (bif Nat.ble 21 pc then (bif Nat.beq pc 21 then (.iconst 2, 2, 0, []) else am_nop) else (bif Nat.beq pc 18 then (.getfield 15, 0, 0, []) else am_nop)) else (bif Nat.beq pc 17 then (.aload_n 0, 0, 0, []) else am_nop)) else (bif Nat.ble 13 pc then (bif Nat.ble 14 pc then (bif Nat.beq pc 14 then (.invokestatic 32, 0, 0, []) else am_nop) else (bif Nat.beq pc 13 then (.iconst 1, 1, 0, []) else am_nop)) else (bif Nat.beq pc 10 then (.getfield 15, 0, 0, []) else am_nop))) else (bif Nat.ble 5 pc then (bif Nat.ble 6 pc then (bif Nat.ble 9 pc then (bif Nat.beq pc 9 then (.aload_n 0, 0, 0, []) else am_nop) else (bif Nat.beq pc 6 then (.invokestatic 32, 0, 0, []) else am_nop)) else (bif Nat.beq pc 5 then (.iconst 0, 0, 0, []) else am_nop)) else (bif Nat.ble 1 pc then (bif Nat.ble 2 pc then (bif Nat.beq pc 2 then (.getfield 15, 0, 0, []) else am_nop) else (bif Nat.beq pc 1 then (.aload_n 0, 0, 0, []) else am_nop)) else (bif Nat.beq pc 0 then (.aload_n 1, 0, 1, []) else am_nop))))
theorem lk_X_48 : am_lnk RX3 48 (d_T_addTrip 24) := ⟨⟨by decide, by decide⟩, am_tb 2 (by decide +kernel) rfl, Or.inr ⟨by decide, rfl, am_tb 339 (by decide +kernel) rfl, am_tp 4 (by decide +kernel) rfl, ⟨TX4, 15, rfl⟩, Or.inr ⟨"BusBlocks", am_tb 672 (by decide +kernel) rfl⟩⟩⟩
def m_X_addJourney : MI := (k_X_addJourney, [(15, 3, 1)], [(32, d_B_at 1), (48, d_T_addTrip 24)], [], [], [], [], 2, 52, none, fun _ => 0, 1)
def v_X_addJourney_0 (h : HP) : HP := (bnd (v_T_addTrip h (v_at 6 (h.1 20) 0) (v_at 6 (h.1 20) 1) (v_at 6 (h.1 20) 2) (v_at 6 (h.1 20) 4) (v_at 6 (h.1 20) 5)) fun y1 => y1.2)
def g_X_addJourney (_ _ : List Sh) (as : List Value) (h : HP) : GR := match as with
  | [.ref o1, .ref o2] => (Nat.beq o1 18 && Nat.beq o2 0, True, none, none, v_X_addJourney_0 h)
  | _ => bad h
def d_X_addJourney (k : Nat) : CD := (k, yX3_addJourney, cX3_addJourney, 2, none, 2, 2, 52, 0, false, false, g_X_addJourney)
theorem chk_X_addJourney : ∀ pc, am_chk cX3_addJourney k_X_addJourney pc = true := am_chkall 46 (by decide +kernel) (fun pc h => by unfold k_X_addJourney; rw [Nat.ble_eq_true_of_le h]; rfl)
theorem pf_X_addJourney : plainFor yX3_addJourney = true := by decide +kernel
theorem cu_X_addJourney : Cond.code yX3_addJourney cX3_addJourney 2 (none) ∈ am_U := am_tb 671 (by decide +kernel) rfl
set_option maxRecDepth 100000 in
theorem ev_X_addJourney_0 {e1 ro : List Sh} {P : AR → HP → Prop} (h : HP) (hP : ∀ q, v_X_addJourney_0 h = q → RVW P h q) : am_Ev m_X_addJourney (WW ++ e1) ro P (0, [.ref 18, .ref 0], [], h) := by
  refine am_Ev_G [17] 400 _ ?_
  show am_Ev m_X_addJourney (WW ++ e1) ro P (17, [.ref 18, .ref 0], [.int (v_at 6 (h.1 20) 1), .int (v_at 6 (h.1 20) 0), .ref 0], h)
  refine am_Ev_G [33] 400 _ ?_
  show am_Ev m_X_addJourney (WW ++ e1) ro P (33, [.ref 18, .ref 0], [.int (v_at 6 (h.1 20) 4), .int (v_at 6 (h.1 20) 2), .int (v_at 6 (h.1 20) 1), .int (v_at 6 (h.1 20) 0), .ref 0], h)
  refine am_Ev_G [44] 400 _ ?_
  show am_Ev m_X_addJourney (WW ++ e1) ro P (44, [.ref 18, .ref 0], [.int ((v_T_addTrip h (v_at 6 (h.1 20) 0) (v_at 6 (h.1 20) 1) (v_at 6 (h.1 20) 2) (v_at 6 (h.1 20) 4) (v_at 6 (h.1 20) 5)).1)], ((v_T_addTrip h (v_at 6 (h.1 20) 0) (v_at 6 (h.1 20) 1) (v_at 6 (h.1 20) 2) (v_at 6 (h.1 20) 4) (v_at 6 (h.1 20) 5)).2))
  obtain ⟨y1, c1⟩ : ∃ y, v_T_addTrip h (v_at 6 (h.1 20) 0) (v_at 6 (h.1 20) 1) (v_at 6 (h.1 20) 2) (v_at 6 (h.1 20) 4) (v_at 6 (h.1 20) 5) = y := ⟨_, rfl⟩
  rw [c1]
  show am_Ev m_X_addJourney (WW ++ e1) ro P (44, [.ref 18, .ref 0], [.int y1.1], y1.2)
  refine am_Ev_G [] 400 _ ?_
  show P (.inl none) y1.2
  exact hP y1.2 (by unfold v_X_addJourney_0; simp only [bnd, c1])
theorem ok_X_addJourney {l : Launch} (hl : l.stackTraces = false) (e1 ro : List Sh) (k : Nat) : am_Ok l (WW ++ e1) ro (d_X_addJourney k) := by
  refine am_met hl (own := RX3) (M := m_X_addJourney) rfl pf_X_addJourney cu_X_addJourney rfl rfl rfl rfl (fun _ => rfl) rfl ⟨chk_X_addJourney, (am_c (fl_X_15) am_n), (am_c (lk_X_32) (am_c (lk_X_48) am_n)), (am_n), (am_n)⟩ (am_n) (am_c (ok_B_at hl _ _ 1) (am_c (ok_T_addTrip hl (W21b ++ e1) _ 24) am_n)) ?_ ?_ ?_
  · intro _ as h hg
    show g_pre (g_X_addJourney (WW ++ e1) ro as h)
    unfold g_X_addJourney
    split <;> exact trivial
  · intro _ as h hg
    show g_thr (g_X_addJourney (WW ++ e1) ro as h) = none
    unfold g_X_addJourney
    split <;> rfl
  · intro as h hg hp
    revert hg hp
    show g_ok (g_X_addJourney (WW ++ e1) ro as h) = true → g_pre (g_X_addJourney (WW ++ e1) ro as h) → _ ∧ am_Ev m_X_addJourney (WW ++ e1) ro (am_eq (g_X_addJourney (WW ++ e1) ro as h)) (0, am_ent as 2, [], h)
    unfold g_X_addJourney
    split
    · rename_i o1 o2
      intro hc hp
      change (Nat.beq o1 18 && Nat.beq o2 0) = true at hc
      rw [Bool.and_eq_true] at hc
      obtain rfl := am_beq hc.1
      obtain rfl := am_beq hc.2
      exact ⟨Nat.le_of_ble_eq_true rfl, ev_X_addJourney_0 h eqRVW⟩
    · exact fun z => nomatch z
def k_X_addTo (pc : Nat) : Ent := bif Nat.ble 57 pc then am_nop else bif Nat.ble 28 pc then (bif Nat.ble 41 pc then (bif Nat.ble 51 pc then (bif Nat.ble 53 pc then (bif Nat.ble 56 pc then (bif Nat.beq pc 56 then (.return_, 0, 0, []) else am_nop) else (bif Nat.beq pc 53 then (.invokevirtual 44, 0, 0, []) else am_nop)) else (bif Nat.ble 52 pc then (bif Nat.beq pc 52 then (.aload_n 1, 0, 1, []) else am_nop) else (bif Nat.beq pc 51 then (.aload_n 0, 0, 0, []) else am_nop))) else (bif Nat.ble 45 pc then (bif Nat.ble 48 pc then (bif Nat.beq pc 48 then (.goto (-42), 0, 6, []) else am_nop) else (bif Nat.beq pc 45 then (.iinc 2 1, 1, 2, []) else am_nop)) else (bif Nat.ble 44 pc then (bif Nat.beq pc 44 then (.pop, 0, 0, []) else am_nop) else (bif Nat.beq pc 41 then (.invokevirtual 36, 0, 0, []) else am_nop)))) else (bif Nat.ble 33 pc then (bif Nat.ble 37 pc then (bif Nat.ble 38 pc then (bif Nat.beq pc 38 then (.invokestatic 32, 0, 0, []) else am_nop) else (bif Nat.beq pc 37 then (.iload_n 2, 0, 2, []) else am_nop)) else (bif Nat.ble 34 pc then (bif Nat.beq pc 34 then (.getfield 9, 0, 0, []) else am_nop) else (bif Nat.beq pc 33 then (.aload_n 0, 0, 0, []) else am_nop))) else (bif Nat.ble 29 pc then (bif Nat.ble 32 pc then (bif Nat.beq pc 32 then (.aload_n 0, 0, 0, []) else am_nop) else (bif Nat.beq pc 29 then (.invokevirtual 44, 0, 0, []) else am_nop)) else (bif Nat.beq pc 28 then (.aload_n 1, 0, 1, []) else am_nop)))) else (bif Nat.ble 11 pc then (bif Nat.ble 19 pc then (bif Nat.ble 24 pc then (bif Nat.ble 27 pc then (bif Nat.beq pc 27 then (.aload_n 0, 0, 0, []) else am_nop) else (bif Nat.beq pc 24 then (.if_icmp .ne 8, 0, 32, []) else am_nop)) else (bif Nat.ble 22 pc then (bif Nat.beq pc 22 then (.bipush 59, 59, 0, []) else am_nop) else (bif Nat.beq pc 19 then (.invokestatic 32, 0, 0, []) else am_nop))) else (bif Nat.ble 15 pc then (bif Nat.ble 18 pc then (bif Nat.beq pc 18 then (.iload_n 2, 0, 2, []) else am_nop) else (bif Nat.beq pc 15 then (.getfield 9, 0, 0, []) else am_nop)) else (bif Nat.ble 14 pc then (bif Nat.beq pc 14 then (.aload_n 0, 0, 0, []) else am_nop) else (bif Nat.beq pc 11 then (.if_icmp .ge 40, 0, 51, []) else am_nop)))) else (bif Nat.ble 5 pc then (bif Nat.ble 7 pc then (bif Nat.ble 8 pc then (bif Nat.beq pc 8 then (.getfield 18, 0, 0, []) else am_nop) else (bif Nat.beq pc 7 then (.aload_n 0, 0, 0, []) else am_nop)) else (bif Nat.ble 6 pc then (bif Nat.beq pc 6 then (.iload_n 2, 0, 2, []) else am_nop) else (bif Nat.beq pc 5 then (.istore_n 2, 0, 2, []) else am_nop))) else (bif Nat.ble 1 pc then (bif Nat.ble 4 pc then (bif Nat.beq pc 4 then (.iconst 0, 0, 0, []) else am_nop) else (bif Nat.beq pc 1 then (.invokevirtual 29, 0, 0, []) else am_nop)) else (bif Nat.beq pc 0 then (.aload_n 0, 0, 0, []) else am_nop))))
theorem lk_X_44 : am_lnk RX3 44 (d_X_addJourney 13) := ⟨⟨by decide, by decide⟩, am_tb 5 (by decide +kernel) rfl, Or.inr ⟨by decide, rfl, am_tb 670 (by decide +kernel) rfl, am_tp 52 (by decide +kernel) rfl, ⟨TX3, 4, rfl⟩, Or.inl (am_tb 668 (by decide +kernel) rfl)⟩⟩
def m_X_addTo : MI := (k_X_addTo, [(9, 3, 0), (18, 3, 2)], [(29, d_X_beginJourney 13), (32, d_B_at 1), (36, d_X_takes 13), (44, d_X_addJourney 13)], [], [], [], [], 4, 93, none, fun _ => 0, 1)
def s_X_addTo_0_6 (h : HP) (y1 : HP) (v1 : Int32 × HP) : (Int32 × HP) ⊕ (Int32 × HP) := (if v1.1 < (v1.2.1 18 2) then (if (v_at 60 (v1.2.1 19) v1.1) = 59 then (bnd (v_X_addJourney_0 v1.2) fun y4 => (bnd (v_X_takes y4 (v_at 60 (y4.1 19) v1.1)) fun y5 => (.inl ((v1.1 + 1), y5.2)))) else (bnd (v_X_takes v1.2 (v_at 60 (v1.2.1 19) v1.1)) fun y3 => (.inl ((v1.1 + 1), y3.2)))) else (.inr (v1.1, v1.2)))
def ps_X_addTo_0_6 (h : HP) (y1 : HP) (v1 : Int32 × HP) : Prop := ((v1.1 < (v1.2.1 18 2) → (((v_at 60 (v1.2.1 19) v1.1) = 59 → (∀ y4, v_X_addJourney_0 v1.2 = y4 → (p_X_takes y4 (v_at 60 (y4.1 19) v1.1)))) ∧ (¬ (v_at 60 (v1.2.1 19) v1.1) = 59 → (p_X_takes v1.2 (v_at 60 (v1.2.1 19) v1.1))))) ∧ (¬ v1.1 < (v1.2.1 18 2) → True))
def v_X_addTo_0 (h : HP) : HP := (bnd (v_X_beginJourney h) fun y1 => (match itr (s_X_addTo_0_6 h y1) NF (0, y1) with | some r2 => (bnd (v_X_addJourney_0 r2.2) fun y6 => y6) | none => h))
def p_X_addTo_0 (h : HP) : Prop := (∀ y1, v_X_beginJourney h = y1 → (itrp (s_X_addTo_0_6 h y1) (ps_X_addTo_0_6 h y1) NF (0, y1)))
def g_X_addTo (_ _ : List Sh) (as : List Value) (h : HP) : GR := match as with
  | [.ref o1, .ref o2] => (Nat.beq o1 18 && Nat.beq o2 0, p_X_addTo_0 h, none, none, v_X_addTo_0 h)
  | _ => bad h
def d_X_addTo (k : Nat) : CD := (k, yX3_addTo, cX3_addTo, 3, none, 2, 4, 93, 0, false, true, g_X_addTo)
theorem chk_X_addTo : ∀ pc, am_chk cX3_addTo k_X_addTo pc = true := am_chkall 57 (by decide +kernel) (fun pc h => by unfold k_X_addTo; rw [Nat.ble_eq_true_of_le h]; rfl)
theorem pf_X_addTo : plainFor yX3_addTo = true := by decide +kernel
theorem cu_X_addTo : Cond.code yX3_addTo cX3_addTo 3 (none) ∈ am_U := am_tb 667 (by decide +kernel) rfl
set_option maxRecDepth 100000 in
theorem ev_X_addTo_0 {e1 ro : List Sh} {P : AR → HP → Prop} (h : HP) (hp : p_X_addTo_0 h) (hP : ∀ q, v_X_addTo_0 h = q → RVW P h q) : am_Ev m_X_addTo (WW ++ e1) ro P (0, [.ref 18, .ref 0, .retAddr 0], [], h) := by
  unfold p_X_addTo_0 at hp
  refine am_Ev_G [4] 400 _ ?_
  show am_Ev m_X_addTo (WW ++ e1) ro P (4, [.ref 18, .ref 0, .retAddr 0], [], (v_X_beginJourney h))
  obtain ⟨y1, c1⟩ : ∃ y, v_X_beginJourney h = y := ⟨_, rfl⟩
  rw [c1]
  have hp := hp _ c1
  show am_Ev m_X_addTo (WW ++ e1) ro P (4, [.ref 18, .ref 0, .retAddr 0], [], y1)
  refine am_Ev_G [6] 400 _ ?_
  show am_Ev m_X_addTo (WW ++ e1) ro P (6, [.ref 18, .ref 0, .int 0], [], y1)
  have hpl := hp
  refine am_itr (E := (fun (v1 : Int32 × HP) => am_Ev m_X_addTo (WW ++ e1) ro P (6, [.ref 18, .ref 0, .int v1.1], [], v1.2))) (E' := (fun (r2 : Int32 × HP) => am_Ev m_X_addTo (WW ++ e1) ro P (51, [.ref 18, .ref 0, .int r2.1], [], r2.2))) (s_X_addTo_0_6 h y1) (ps_X_addTo_0_6 h y1) ?_ NF (0, y1) hpl ?_
  · intro v1 hp hc1 hx1
    show am_Ev m_X_addTo (WW ++ e1) ro P (6, [.ref 18, .ref 0, .int v1.1], [], v1.2)
    unfold ps_X_addTo_0_6 at hp
    refine am_Ev_G [22, 51] 400 _ ?_
    show ((¬ v1.1 < (v1.2.1 18 2) → am_Ev m_X_addTo (WW ++ e1) ro P (51, [.ref 18, .ref 0, .int v1.1], [], v1.2)) ∧ (v1.1 < (v1.2.1 18 2) → am_Ev m_X_addTo (WW ++ e1) ro P (22, [.ref 18, .ref 0, .int v1.1], [.int (v_at 60 (v1.2.1 19) v1.1)], v1.2)))
    refine ⟨fun c2 => ?_, fun c2 => ?_⟩
    · skip
      exact hx1 (v1.1, v1.2) (by unfold s_X_addTo_0_6; simp only [if_neg c2])
    · have hp := hp.1 c2
      refine am_Ev_G [32] 400 _ ?_
      show ((¬ (v_at 60 (v1.2.1 19) v1.1) = 59 → am_Ev m_X_addTo (WW ++ e1) ro P (32, [.ref 18, .ref 0, .int v1.1], [], v1.2)) ∧ ((v_at 60 (v1.2.1 19) v1.1) = 59 → am_Ev m_X_addTo (WW ++ e1) ro P (32, [.ref 18, .ref 0, .int v1.1], [], (v_X_addJourney_0 v1.2))))
      refine ⟨fun c3 => ?_, fun c3 => ?_⟩
      · have hp := hp.2 c3
        refine am_Ev_G [41] 400 _ ?_
        show am_Ev m_X_addTo (WW ++ e1) ro P (41, [.ref 18, .ref 0, .int v1.1], [.int (v_at 60 (v1.2.1 19) v1.1), .ref 18], v1.2)
        refine am_Ev_G [44] 400 _ ?_
        show ((p_X_takes v1.2 (v_at 60 (v1.2.1 19) v1.1)) ∧ am_Ev m_X_addTo (WW ++ e1) ro P (44, [.ref 18, .ref 0, .int v1.1], [.int ((v_X_takes v1.2 (v_at 60 (v1.2.1 19) v1.1)).1)], ((v_X_takes v1.2 (v_at 60 (v1.2.1 19) v1.1)).2)))
        refine ⟨hp, ?_⟩
        obtain ⟨y3, c4⟩ : ∃ y, v_X_takes v1.2 (v_at 60 (v1.2.1 19) v1.1) = y := ⟨_, rfl⟩
        rw [c4]
        show am_Ev m_X_addTo (WW ++ e1) ro P (44, [.ref 18, .ref 0, .int v1.1], [.int y3.1], y3.2)
        refine am_Ev_G [6] 400 _ ?_
        show am_Ev m_X_addTo (WW ++ e1) ro P (6, [.ref 18, .ref 0, .int (v1.1 + 1)], [], y3.2)
        exact hc1 ((v1.1 + 1), y3.2) (by unfold s_X_addTo_0_6; simp only [if_pos c2, if_neg c3, bnd, c4])
      · have hp := hp.1 c3
        obtain ⟨y4, c5⟩ : ∃ y, v_X_addJourney_0 v1.2 = y := ⟨_, rfl⟩
        rw [c5]
        have hp := hp _ c5
        show am_Ev m_X_addTo (WW ++ e1) ro P (32, [.ref 18, .ref 0, .int v1.1], [], y4)
        refine am_Ev_G [41] 400 _ ?_
        show am_Ev m_X_addTo (WW ++ e1) ro P (41, [.ref 18, .ref 0, .int v1.1], [.int (v_at 60 (y4.1 19) v1.1), .ref 18], y4)
        refine am_Ev_G [44] 400 _ ?_
        show ((p_X_takes y4 (v_at 60 (y4.1 19) v1.1)) ∧ am_Ev m_X_addTo (WW ++ e1) ro P (44, [.ref 18, .ref 0, .int v1.1], [.int ((v_X_takes y4 (v_at 60 (y4.1 19) v1.1)).1)], ((v_X_takes y4 (v_at 60 (y4.1 19) v1.1)).2)))
        refine ⟨hp, ?_⟩
        obtain ⟨y5, c6⟩ : ∃ y, v_X_takes y4 (v_at 60 (y4.1 19) v1.1) = y := ⟨_, rfl⟩
        rw [c6]
        show am_Ev m_X_addTo (WW ++ e1) ro P (44, [.ref 18, .ref 0, .int v1.1], [.int y5.1], y5.2)
        refine am_Ev_G [6] 400 _ ?_
        show am_Ev m_X_addTo (WW ++ e1) ro P (6, [.ref 18, .ref 0, .int (v1.1 + 1)], [], y5.2)
        exact hc1 ((v1.1 + 1), y5.2) (by unfold s_X_addTo_0_6; simp only [if_pos c2, if_pos c3, bnd, c5, bnd, c6])
  · intro r2 hr7
    show am_Ev m_X_addTo (WW ++ e1) ro P (51, [.ref 18, .ref 0, .int r2.1], [], r2.2)
    refine am_Ev_G [56] 400 _ ?_
    show am_Ev m_X_addTo (WW ++ e1) ro P (56, [.ref 18, .ref 0, .int r2.1], [], (v_X_addJourney_0 r2.2))
    obtain ⟨y6, c8⟩ : ∃ y, v_X_addJourney_0 r2.2 = y := ⟨_, rfl⟩
    rw [c8]
    show am_Ev m_X_addTo (WW ++ e1) ro P (56, [.ref 18, .ref 0, .int r2.1], [], y6)
    refine am_Ev_G [] 400 _ ?_
    show P (.inl none) y6
    exact hP y6 (by unfold v_X_addTo_0; simp only [bnd, c1, hr7, bnd, c8])
theorem ok_X_addTo {l : Launch} (hl : l.stackTraces = false) (e1 ro : List Sh) (k : Nat) : am_Ok l (WW ++ e1) ro (d_X_addTo k) := by
  refine am_met hl (own := RX3) (M := m_X_addTo) rfl pf_X_addTo cu_X_addTo rfl rfl rfl rfl (fun _ => rfl) rfl ⟨chk_X_addTo, (am_c (fl_X_9) (am_c (fl_X_18) am_n)), (am_c (lk_X_29) (am_c (lk_X_32) (am_c (lk_X_36) (am_c (lk_X_44) am_n)))), (am_n), (am_n)⟩ (am_n) (am_c (ok_X_beginJourney hl e1 _ 13) (am_c (ok_B_at hl _ _ 1) (am_c (ok_X_takes hl e1 _ 13) (am_c (ok_X_addJourney hl e1 _ 13) am_n)))) (fun z => nomatch z) ?_ ?_
  · intro _ as h hg
    show g_thr (g_X_addTo (WW ++ e1) ro as h) = none
    unfold g_X_addTo
    split <;> rfl
  · intro as h hg hp
    revert hg hp
    show g_ok (g_X_addTo (WW ++ e1) ro as h) = true → g_pre (g_X_addTo (WW ++ e1) ro as h) → _ ∧ am_Ev m_X_addTo (WW ++ e1) ro (am_eq (g_X_addTo (WW ++ e1) ro as h)) (0, am_ent as 3, [], h)
    unfold g_X_addTo
    split
    · rename_i o1 o2
      intro hc hp
      change (Nat.beq o1 18 && Nat.beq o2 0) = true at hc
      rw [Bool.and_eq_true] at hc
      obtain rfl := am_beq hc.1
      obtain rfl := am_beq hc.2
      exact ⟨Nat.le_of_ble_eq_true rfl, ev_X_addTo_0 h hp eqRVW⟩
    · exact fun z => nomatch z
end
