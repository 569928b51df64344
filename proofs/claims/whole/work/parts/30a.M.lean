/-! BusBlocksModel, out of its code (written by gen/meth.py). -/
noncomputable section
def k_M_thrown (pc : Nat) : Ent := bif Nat.ble 5 pc then am_nop else bif Nat.ble 1 pc then (bif Nat.ble 4 pc then (bif Nat.beq pc 4 then (.ireturn, 0, 0, []) else am_nop) else (bif Nat.beq pc 1 then (.getfield 38, 0, 0, []) else am_nop)) else (bif Nat.beq pc 0 then (.aload_n 0, 0, 0, []) else am_nop)
theorem fl_M_38 : am_fok RX6 38 (6, 8) := ⟨RX6, TX6, 16, rfl, by decide, rfl, Or.inl (am_tb 892 (by decide +kernel) rfl)⟩
def m_M_thrown : MI := (k_M_thrown, [(38, 6, 8)], [], [], [], [], [], 0, 0, some .int, fun _ => 0, 1)
def v_M_thrown (h : HP) : Int32 := (h.1 0 8)
def g_M_thrown (_ _ : List Sh) (as : List Value) (h : HP) : GR := match as with
  | [.ref o1] => (Nat.beq o1 0, True, none, some (.int (v_M_thrown h)), h)
  | _ => bad h
def d_M_thrown (k : Nat) : CD := (k, yX6_thrown, cX6_thrown, 1, some .int, 1, 0, 0, 0, false, false, g_M_thrown)
theorem chk_M_thrown : ∀ pc, am_chk cX6_thrown k_M_thrown pc = true := am_chkall 5 (by decide +kernel) (fun pc h => by unfold k_M_thrown; rw [Nat.ble_eq_true_of_le h]; rfl)
theorem pf_M_thrown : plainFor yX6_thrown = true := by decide +kernel
theorem cu_M_thrown : Cond.code yX6_thrown cX6_thrown 1 (some .int) ∈ am_U := am_tb 937 (by decide +kernel) rfl
set_option maxHeartbeats 20000000 in
set_option maxRecDepth 100000 in
theorem ev_M_thrown {e1 ro : List Sh} {P : AR → HP → Prop} (h : HP) (hP : ∀ q, v_M_thrown h = q → RI P h q) : am_Ev m_M_thrown (WM ++ e1) ro P (0, [.ref 0], [], h) := by
  refine am_Ev_G [] 400 _ ?_
  show P (.inl (some (.int (h.1 0 8)))) h
  exact hP (h.1 0 8) rfl
theorem ok_M_thrown {l : Launch} (hl : l.stackTraces = false) (e1 ro : List Sh) (k : Nat) : am_Ok l (WM ++ e1) ro (d_M_thrown k) := by
  refine am_met hl (own := RX6) (M := m_M_thrown) rfl pf_M_thrown cu_M_thrown rfl rfl rfl rfl (fun _ => rfl) rfl ⟨chk_M_thrown, (am_c (fl_M_38) am_n), (am_n), (am_n), (am_n)⟩ (am_n) (am_n) ?_ ?_ ?_
  · intro _ as h hg
    show g_pre (g_M_thrown (WM ++ e1) ro as h)
    unfold g_M_thrown
    split <;> exact trivial
  · intro _ as h hg
    show g_thr (g_M_thrown (WM ++ e1) ro as h) = none
    unfold g_M_thrown
    split <;> rfl
  · intro as h hg hp
    revert hg hp
    show g_ok (g_M_thrown (WM ++ e1) ro as h) = true → g_pre (g_M_thrown (WM ++ e1) ro as h) → _ ∧ am_Ev m_M_thrown (WM ++ e1) ro (am_eq (g_M_thrown (WM ++ e1) ro as h)) (0, am_ent as 1, [], h)
    unfold g_M_thrown
    split
    · rename_i o1
      intro hc hp
      change (Nat.beq o1 0) = true at hc
      obtain rfl := am_beq hc
      exact ⟨Nat.le_of_ble_eq_true rfl, ev_M_thrown h eqRI⟩
    · exact fun z => nomatch z
def k_M_refuses (pc : Nat) : Ent := bif Nat.ble 7 pc then am_nop else bif Nat.ble 2 pc then (bif Nat.ble 5 pc then (bif Nat.ble 6 pc then (bif Nat.beq pc 6 then (.ireturn, 0, 0, []) else am_nop) else (bif Nat.beq pc 5 then (.iconst 0, 0, 0, []) else am_nop)) else (bif Nat.beq pc 2 then (.putfield 38, 0, 0, []) else am_nop)) else (bif Nat.ble 1 pc then (bif Nat.beq pc 1 then (.iload_n 1, 0, 1, []) else am_nop) else (bif Nat.beq pc 0 then (.aload_n 0, 0, 0, []) else am_nop))
def m_M_refuses : MI := (k_M_refuses, [(38, 6, 8)], [], [], [], [], [], 0, 0, some .int, fun _ => 0, 1)
def v_M_refuses (h : HP) (a1 : Int32) : Int32 × HP := (0, (am_si h 0 8 a1))
def g_M_refuses (_ _ : List Sh) (as : List Value) (h : HP) : GR := match as with
  | [.ref o1, .int a1] => (Nat.beq o1 0, True, none, some (.int (v_M_refuses h a1).1), (v_M_refuses h a1).2)
  | _ => bad h
def d_M_refuses (k : Nat) : CD := (k, yX6_refuses, cX6_refuses, 2, some .int, 2, 0, 0, 0, false, false, g_M_refuses)
theorem chk_M_refuses : ∀ pc, am_chk cX6_refuses k_M_refuses pc = true := am_chkall 7 (by decide +kernel) (fun pc h => by unfold k_M_refuses; rw [Nat.ble_eq_true_of_le h]; rfl)
theorem pf_M_refuses : plainFor yX6_refuses = true := by decide +kernel
theorem cu_M_refuses : Cond.code yX6_refuses cX6_refuses 2 (some .int) ∈ am_U := am_tb 951 (by decide +kernel) rfl
set_option maxHeartbeats 20000000 in
set_option maxRecDepth 100000 in
theorem ev_M_refuses {e1 ro : List Sh} {P : AR → HP → Prop} (h : HP) (a1 : Int32) (hP : ∀ q, v_M_refuses h a1 = q → RIW P h q) : am_Ev m_M_refuses (WM ++ e1) ro P (0, [.ref 0, .int a1], [], h) := by
  refine am_Ev_G [5] 400 _ ?_
  show am_Ev m_M_refuses (WM ++ e1) ro P (5, [.ref 0, .int a1], [], (am_si h 0 8 a1))
  refine am_Ev_G [] 400 _ ?_
  show P (.inl (some (.int 0))) (am_si h 0 8 a1)
  exact hP (0, (am_si h 0 8 a1)) rfl
theorem ok_M_refuses {l : Launch} (hl : l.stackTraces = false) (e1 ro : List Sh) (k : Nat) : am_Ok l (WM ++ e1) ro (d_M_refuses k) := by
  refine am_met hl (own := RX6) (M := m_M_refuses) rfl pf_M_refuses cu_M_refuses rfl rfl rfl rfl (fun _ => rfl) rfl ⟨chk_M_refuses, (am_c (fl_M_38) am_n), (am_n), (am_n), (am_n)⟩ (am_n) (am_n) ?_ ?_ ?_
  · intro _ as h hg
    show g_pre (g_M_refuses (WM ++ e1) ro as h)
    unfold g_M_refuses
    split <;> exact trivial
  · intro _ as h hg
    show g_thr (g_M_refuses (WM ++ e1) ro as h) = none
    unfold g_M_refuses
    split <;> rfl
  · intro as h hg hp
    revert hg hp
    show g_ok (g_M_refuses (WM ++ e1) ro as h) = true → g_pre (g_M_refuses (WM ++ e1) ro as h) → _ ∧ am_Ev m_M_refuses (WM ++ e1) ro (am_eq (g_M_refuses (WM ++ e1) ro as h)) (0, am_ent as 2, [], h)
    unfold g_M_refuses
    split
    · rename_i o1 a1
      intro hc hp
      change (Nat.beq o1 0) = true at hc
      obtain rfl := am_beq hc
      exact ⟨Nat.le_of_ble_eq_true rfl, ev_M_refuses h a1 eqRIW⟩
    · exact fun z => nomatch z
def k_M_in (pc : Nat) : Ent := bif Nat.ble 16 pc then am_nop else bif Nat.ble 7 pc then (bif Nat.ble 11 pc then (bif Nat.ble 14 pc then (bif Nat.ble 15 pc then (bif Nat.beq pc 15 then (.ireturn, 0, 0, []) else am_nop) else (bif Nat.beq pc 14 then (.iconst 0, 0, 0, []) else am_nop)) else (bif Nat.beq pc 11 then (.goto 4, 0, 15, []) else am_nop)) else (bif Nat.ble 10 pc then (bif Nat.beq pc 10 then (.iconst 1, 1, 0, []) else am_nop) else (bif Nat.beq pc 7 then (.if_icmp .gt 7, 0, 14, []) else am_nop))) else (bif Nat.ble 2 pc then (bif Nat.ble 5 pc then (bif Nat.ble 6 pc then (bif Nat.beq pc 6 then (.iload_n 2, 0, 2, []) else am_nop) else (bif Nat.beq pc 5 then (.iload_n 0, 0, 0, []) else am_nop)) else (bif Nat.beq pc 2 then (.if_icmp .lt 12, 0, 14, []) else am_nop)) else (bif Nat.ble 1 pc then (bif Nat.beq pc 1 then (.iload_n 1, 0, 1, []) else am_nop) else (bif Nat.beq pc 0 then (.iload_n 0, 0, 0, []) else am_nop)))
def m_M_in : MI := (k_M_in, [], [], [], [], [], [], 0, 0, some .boolean, fun _ => 0, 1)
def v_M_in (h : HP) (a1 : Int32) (a2 : Int32) (a3 : Int32) : Int32 := (if a1 < a2 then (0 : Int32) else (if a1 ≤ a3 then (1 : Int32) else 0))
def g_M_in (_ _ : List Sh) (as : List Value) (h : HP) : GR := match as with
  | [.int a1, .int a2, .int a3] => (true, True, none, some (.int (v_M_in h a1 a2 a3)), h)
  | _ => bad h
def d_M_in (k : Nat) : CD := (k, yX6_in, cX6_in, 3, some .boolean, 3, 0, 0, 0, false, false, g_M_in)
theorem chk_M_in : ∀ pc, am_chk cX6_in k_M_in pc = true := am_chkall 16 (by decide +kernel) (fun pc h => by unfold k_M_in; rw [Nat.ble_eq_true_of_le h]; rfl)
theorem pf_M_in : plainFor yX6_in = true := by decide +kernel
theorem cu_M_in : Cond.code yX6_in cX6_in 3 (some .boolean) ∈ am_U := am_tb 947 (by decide +kernel) rfl
set_option maxHeartbeats 20000000 in
set_option maxRecDepth 100000 in
theorem ev_M_in {e1 ro : List Sh} {P : AR → HP → Prop} (h : HP) (a1 : Int32) (a2 : Int32) (a3 : Int32) (hP : ∀ q, v_M_in h a1 a2 a3 = q → RI P h q) : am_Ev m_M_in (WM ++ e1) ro P (0, [.int a1, .int a2, .int a3], [], h) := by
  refine am_Ev_G [2] 400 _ ?_
  show am_Ev m_M_in (WM ++ e1) ro P (2, [.int a1, .int a2, .int a3], [.int a2, .int a1], h)
  have key1 : am_Ev m_M_in (WM ++ e1) ro P (15, [.int a1, .int a2, .int a3], [.int (if a1 < a2 then (0 : Int32) else (if a1 ≤ a3 then (1 : Int32) else 0))], h) := by
    refine am_Ev_G [] 400 _ ?_
    show (((((if a1 < a2 then (0 : Int32) else (if a1 ≤ a3 then (1 : Int32) else 0)) : Int32) = 0 ∨ ((if a1 < a2 then (0 : Int32) else (if a1 ≤ a3 then (1 : Int32) else 0)) : Int32) = 1)) ∧ P (.inl (some (.int (if a1 < a2 then (0 : Int32) else (if a1 ≤ a3 then (1 : Int32) else 0))))) h)
    refine ⟨(by (repeat' split) <;> decide), ?_⟩
    exact hP (if a1 < a2 then (0 : Int32) else (if a1 ≤ a3 then (1 : Int32) else 0)) rfl
  refine am_Ev_G [15] 400 _ ?_
  show ((a1 < a2 → am_Ev m_M_in (WM ++ e1) ro P (15, [.int a1, .int a2, .int a3], [.int 0], h)) ∧ (¬ a1 < a2 → ((¬ a1 ≤ a3 → am_Ev m_M_in (WM ++ e1) ro P (15, [.int a1, .int a2, .int a3], [.int 0], h)) ∧ (a1 ≤ a3 → am_Ev m_M_in (WM ++ e1) ro P (15, [.int a1, .int a2, .int a3], [.int 1], h)))))
  refine ⟨fun c2 => ?_, fun c2 => ?_⟩
  · skip
    simpa only [if_pos c2] using key1
  · skip
    refine ⟨fun c3 => ?_, fun c3 => ?_⟩
    · skip
      simpa only [if_neg c2, if_neg c3] using key1
    · skip
      simpa only [if_neg c2, if_pos c3] using key1
theorem ok_M_in {l : Launch} (hl : l.stackTraces = false) (e1 ro : List Sh) (k : Nat) : am_Ok l (WM ++ e1) ro (d_M_in k) := by
  refine am_met hl (own := RX6) (M := m_M_in) rfl pf_M_in cu_M_in rfl rfl rfl rfl (fun _ => rfl) rfl ⟨chk_M_in, (am_n), (am_n), (am_n), (am_n)⟩ (am_n) (am_n) ?_ ?_ ?_
  · intro _ as h hg
    show g_pre (g_M_in (WM ++ e1) ro as h)
    unfold g_M_in
    split <;> exact trivial
  · intro _ as h hg
    show g_thr (g_M_in (WM ++ e1) ro as h) = none
    unfold g_M_in
    split <;> rfl
  · intro as h hg hp
    revert hg hp
    show g_ok (g_M_in (WM ++ e1) ro as h) = true → g_pre (g_M_in (WM ++ e1) ro as h) → _ ∧ am_Ev m_M_in (WM ++ e1) ro (am_eq (g_M_in (WM ++ e1) ro as h)) (0, am_ent as 3, [], h)
    unfold g_M_in
    split
    · rename_i a1 a2 a3
      intro hc hp
      exact ⟨Nat.le_of_ble_eq_true rfl, ev_M_in h a1 a2 a3 eqRI⟩
    · exact fun z => nomatch z
def k_M_saves (pc : Nat) : Ent := bif Nat.ble 81 pc then am_nop else bif Nat.ble 41 pc then (bif Nat.ble 62 pc then (bif Nat.ble 71 pc then (bif Nat.ble 76 pc then (bif Nat.ble 77 pc then (bif Nat.ble 80 pc then (bif Nat.beq pc 80 then (.return_, 0, 0, []) else am_nop) else (bif Nat.beq pc 77 then (.putfield 42, 0, 0, []) else am_nop)) else (bif Nat.beq pc 76 then (.iadd, 0, 0, []) else am_nop)) else (bif Nat.ble 72 pc then (bif Nat.ble 75 pc then (bif Nat.beq pc 75 then (.iconst 1, 1, 0, []) else am_nop) else (bif Nat.beq pc 72 then (.getfield 42, 0, 0, []) else am_nop)) else (bif Nat.beq pc 71 then (.dup, 0, 0, []) else am_nop))) else (bif Nat.ble 66 pc then (bif Nat.ble 67 pc then (bif Nat.ble 70 pc then (bif Nat.beq pc 70 then (.aload_n 0, 0, 0, []) else am_nop) else (bif Nat.beq pc 67 then (.invokestatic 45, 0, 0, []) else am_nop)) else (bif Nat.beq pc 66 then (.imul, 0, 0, []) else am_nop)) else (bif Nat.ble 63 pc then (bif Nat.beq pc 63 then (.getfield 42, 0, 0, []) else am_nop) else (bif Nat.beq pc 62 then (.aload_n 0, 0, 0, []) else am_nop)))) else (bif Nat.ble 50 pc then (bif Nat.ble 55 pc then (bif Nat.ble 56 pc then (bif Nat.ble 59 pc then (bif Nat.beq pc 59 then (.sipush 163, 163, 0, []) else am_nop) else (bif Nat.beq pc 56 then (.getfield 16, 0, 0, []) else am_nop)) else (bif Nat.beq pc 55 then (.aload_n 0, 0, 0, []) else am_nop)) else (bif Nat.ble 51 pc then (bif Nat.ble 54 pc then (bif Nat.beq pc 54 then (.iconst 0, 0, 0, []) else am_nop) else (bif Nat.beq pc 51 then (.getfield 7, 0, 0, []) else am_nop)) else (bif Nat.beq pc 50 then (.aload_n 0, 0, 0, []) else am_nop))) else (bif Nat.ble 45 pc then (bif Nat.ble 46 pc then (bif Nat.ble 47 pc then (bif Nat.beq pc 47 then (.putfield 42, 0, 0, []) else am_nop) else (bif Nat.beq pc 46 then (.isub, 0, 0, []) else am_nop)) else (bif Nat.beq pc 45 then (.iconst 1, 1, 0, []) else am_nop)) else (bif Nat.ble 42 pc then (bif Nat.beq pc 42 then (.getfield 42, 0, 0, []) else am_nop) else (bif Nat.beq pc 41 then (.dup, 0, 0, []) else am_nop))))) else (bif Nat.ble 22 pc then (bif Nat.ble 31 pc then (bif Nat.ble 34 pc then (bif Nat.ble 37 pc then (bif Nat.ble 40 pc then (bif Nat.beq pc 40 then (.aload_n 0, 0, 0, []) else am_nop) else (bif Nat.beq pc 37 then (.goto (-26), 0, 11, []) else am_nop)) else (bif Nat.beq pc 34 then (.iinc 1 1, 1, 1, []) else am_nop)) else (bif Nat.ble 32 pc then (bif Nat.ble 33 pc then (bif Nat.beq pc 33 then (.iastore, 0, 0, []) else am_nop) else (bif Nat.beq pc 32 then (.iaload, 0, 0, []) else am_nop)) else (bif Nat.beq pc 31 then (.iadd, 0, 0, []) else am_nop))) else (bif Nat.ble 24 pc then (bif Nat.ble 27 pc then (bif Nat.ble 28 pc then (bif Nat.beq pc 28 then (.sipush 163, 163, 0, []) else am_nop) else (bif Nat.beq pc 27 then (.iload_n 1, 0, 1, []) else am_nop)) else (bif Nat.beq pc 24 then (.getfield 16, 0, 0, []) else am_nop)) else (bif Nat.ble 23 pc then (bif Nat.beq pc 23 then (.aload_n 0, 0, 0, []) else am_nop) else (bif Nat.beq pc 22 then (.iload_n 1, 0, 1, []) else am_nop)))) else (bif Nat.ble 10 pc then (bif Nat.ble 15 pc then (bif Nat.ble 18 pc then (bif Nat.ble 19 pc then (bif Nat.beq pc 19 then (.getfield 16, 0, 0, []) else am_nop) else (bif Nat.beq pc 18 then (.aload_n 0, 0, 0, []) else am_nop)) else (bif Nat.beq pc 15 then (.if_icmp .ge 25, 0, 40, []) else am_nop)) else (bif Nat.ble 11 pc then (bif Nat.ble 12 pc then (bif Nat.beq pc 12 then (.sipush 815, 815, 0, []) else am_nop) else (bif Nat.beq pc 11 then (.iload_n 1, 0, 1, []) else am_nop)) else (bif Nat.beq pc 10 then (.istore_n 1, 0, 1, []) else am_nop))) else (bif Nat.ble 4 pc then (bif Nat.ble 6 pc then (bif Nat.ble 9 pc then (bif Nat.beq pc 9 then (.iconst 0, 0, 0, []) else am_nop) else (bif Nat.beq pc 6 then (.if_icmp .ne 44, 0, 50, []) else am_nop)) else (bif Nat.beq pc 4 then (.bipush 6, 6, 0, []) else am_nop)) else (bif Nat.ble 1 pc then (bif Nat.beq pc 1 then (.getfield 42, 0, 0, []) else am_nop) else (bif Nat.beq pc 0 then (.aload_n 0, 0, 0, []) else am_nop)))))
theorem fl_M_7 : am_fok RX6 7 (6, 0) := ⟨RX6, TX6, 16, rfl, by decide, rfl, Or.inl (am_tb 884 (by decide +kernel) rfl)⟩
theorem fl_M_16 : am_fok RX6 16 (6, 2) := ⟨RX6, TX6, 16, rfl, by decide, rfl, Or.inl (am_tb 886 (by decide +kernel) rfl)⟩
theorem fl_M_42 : am_fok RX6 42 (6, 3) := ⟨RX6, TX6, 16, rfl, by decide, rfl, Or.inl (am_tb 887 (by decide +kernel) rfl)⟩
theorem lk_M_45 : am_lnk RX6 45 (d_M_lays 0) := ⟨⟨by decide, by decide⟩, am_tb 8 (by decide +kernel) rfl, Or.inl ⟨by decide, rfl, am_tb 957 (by decide +kernel) rfl, Or.inl ⟨by decide, am_tb 956 (by decide +kernel) rfl⟩⟩⟩
def m_M_saves : MI := (k_M_saves, [(7, 6, 0), (16, 6, 2), (42, 6, 3)], [(45, d_M_lays 0)], [], [], [], [], 1, 24, none, fun _ => 0, 1)
def s_M_saves_11 (h : HP) (v1 : Int32 × HP) : (Int32 × HP) ⊕ (Int32 × HP) := (if v1.1 < 815 then (.inl ((v1.1 + 1), (am_si v1.2 3 (am_ix v1.1) (v1.2.1 3 (am_ix (v1.1 + 163)))))) else (.inr (v1.1, v1.2)))
def ps_M_saves_11 (h : HP) (v1 : Int32 × HP) : Prop := ((v1.1 < 815 → ((am_in (v1.1 + 163) 978) ∧ (am_in v1.1 978))) ∧ (¬ v1.1 < 815 → True))
def v_M_saves (h : HP) : HP := (if (h.1 0 3) = 6 then (match itr (s_M_saves_11 h) NF (0, h) with | some r1 => (am_si (v_lays (am_si r1.2 0 3 ((r1.2.1 0 3) - 1)) 1 0 3 (163 * ((r1.2.1 0 3) - 1))) 0 3 (((v_lays (am_si r1.2 0 3 ((r1.2.1 0 3) - 1)) 1 0 3 (163 * ((r1.2.1 0 3) - 1))).1 0 3) + 1)) | none => h) else (am_si (v_lays h 1 0 3 (163 * (h.1 0 3))) 0 3 (((v_lays h 1 0 3 (163 * (h.1 0 3))).1 0 3) + 1)))
def p_M_saves (h : HP) : Prop := (((h.1 0 3) = 6 → (itrp (s_M_saves_11 h) (ps_M_saves_11 h) NF (0, h) ∧ ∀ r1, itr (s_M_saves_11 h) NF (0, h) = some r1 → (p_lays 0 (163 * ((r1.2.1 0 3) - 1)) 163 978))) ∧ (¬ (h.1 0 3) = 6 → (p_lays 0 (163 * (h.1 0 3)) 163 978)))
def g_M_saves (_ _ : List Sh) (as : List Value) (h : HP) : GR := match as with
  | [.ref o1] => (Nat.beq o1 0, p_M_saves h, none, none, v_M_saves h)
  | _ => bad h
def d_M_saves (k : Nat) : CD := (k, yX6_saves, cX6_saves, 2, none, 1, 1, 24, 0, false, true, g_M_saves)
theorem chk_M_saves : ∀ pc, am_chk cX6_saves k_M_saves pc = true := am_chkall 81 (by decide +kernel) (fun pc h => by unfold k_M_saves; rw [Nat.ble_eq_true_of_le h]; rfl)
theorem pf_M_saves : plainFor yX6_saves = true := by decide +kernel
theorem cu_M_saves : Cond.code yX6_saves cX6_saves 2 (none) ∈ am_U := am_tb 955 (by decide +kernel) rfl
set_option maxHeartbeats 20000000 in
set_option maxRecDepth 100000 in
theorem ev_M_saves {e1 ro : List Sh} {P : AR → HP → Prop} (h : HP) (hp : p_M_saves h) (hP : ∀ q, v_M_saves h = q → RVW P h q) : am_Ev m_M_saves (WM ++ e1) ro P (0, [.ref 0, .retAddr 0], [], h) := by
  unfold p_M_saves at hp
  refine am_Ev_G [11, 50] 400 _ ?_
  show ((¬ (h.1 0 3) = 6 → am_Ev m_M_saves (WM ++ e1) ro P (50, [.ref 0, .retAddr 0], [], h)) ∧ ((h.1 0 3) = 6 → am_Ev m_M_saves (WM ++ e1) ro P (11, [.ref 0, .int 0], [], h)))
  refine ⟨fun c1 => ?_, fun c1 => ?_⟩
  · have hp := hp.2 c1
    refine am_Ev_G [56] 400 _ ?_
    show am_Ev m_M_saves (WM ++ e1) ro P (56, [.ref 0, .retAddr 0], [.ref 0, .int 0, .ref 1], h)
    refine am_Ev_G [80] 400 _ ?_
    show ((p_lays 0 (163 * (h.1 0 3)) 163 978) ∧ am_Ev m_M_saves (WM ++ e1) ro P (80, [.ref 0, .retAddr 0], [], (am_si (v_lays h 1 0 3 (163 * (h.1 0 3))) 0 3 (((v_lays h 1 0 3 (163 * (h.1 0 3))).1 0 3) + 1))))
    refine ⟨hp, ?_⟩
    refine am_Ev_G [] 400 _ ?_
    show P (.inl none) (am_si (v_lays h 1 0 3 (163 * (h.1 0 3))) 0 3 (((v_lays h 1 0 3 (163 * (h.1 0 3))).1 0 3) + 1))
    exact hP (am_si (v_lays h 1 0 3 (163 * (h.1 0 3))) 0 3 (((v_lays h 1 0 3 (163 * (h.1 0 3))).1 0 3) + 1)) (by unfold v_M_saves; simp only [if_neg c1])
  · have hp := hp.1 c1
    obtain ⟨hpl, hp⟩ := hp
    refine am_itr (E := (fun (v1 : Int32 × HP) => am_Ev m_M_saves (WM ++ e1) ro P (11, [.ref 0, .int v1.1], [], v1.2))) (E' := (fun (r1 : Int32 × HP) => am_Ev m_M_saves (WM ++ e1) ro P (40, [.ref 0, .int r1.1], [], r1.2))) (s_M_saves_11 h) (ps_M_saves_11 h) ?_ NF (0, h) hpl ?_
    · intro v1 hp hc1 hx1
      show am_Ev m_M_saves (WM ++ e1) ro P (11, [.ref 0, .int v1.1], [], v1.2)
      unfold ps_M_saves_11 at hp
      refine am_Ev_G [28, 40] 400 _ ?_
      show ((¬ v1.1 < 815 → am_Ev m_M_saves (WM ++ e1) ro P (40, [.ref 0, .int v1.1], [], v1.2)) ∧ (v1.1 < 815 → am_Ev m_M_saves (WM ++ e1) ro P (28, [.ref 0, .int v1.1], [.int v1.1, .ref 3, .int v1.1, .ref 3], v1.2)))
      refine ⟨fun c2 => ?_, fun c2 => ?_⟩
      · skip
        exact hx1 (v1.1, v1.2) (by unfold s_M_saves_11; simp only [if_neg c2])
      · have hp := hp.1 c2
        refine am_Ev_G [34] 400 _ ?_
        show ((am_in (v1.1 + 163) 978) ∧ ((am_in v1.1 978) ∧ am_Ev m_M_saves (WM ++ e1) ro P (34, [.ref 0, .int v1.1], [], (am_si v1.2 3 (am_ix v1.1) (v1.2.1 3 (am_ix (v1.1 + 163)))))))
        obtain ⟨hob, hp⟩ := hp
        refine ⟨hob, ?_⟩
        refine ⟨hp, ?_⟩
        refine am_Ev_G [11] 400 _ ?_
        show am_Ev m_M_saves (WM ++ e1) ro P (11, [.ref 0, .int (v1.1 + 1)], [], (am_si v1.2 3 (am_ix v1.1) (v1.2.1 3 (am_ix (v1.1 + 163)))))
        exact hc1 ((v1.1 + 1), (am_si v1.2 3 (am_ix v1.1) (v1.2.1 3 (am_ix (v1.1 + 163))))) (by unfold s_M_saves_11; simp only [if_pos c2])
    · intro r1 hr3
      have hp := hp _ hr3
      show am_Ev m_M_saves (WM ++ e1) ro P (40, [.ref 0, .int r1.1], [], r1.2)
      refine am_Ev_G [50] 400 _ ?_
      show am_Ev m_M_saves (WM ++ e1) ro P (50, [.ref 0, .int r1.1], [], (am_si r1.2 0 3 ((r1.2.1 0 3) - 1)))
      refine am_Ev_G [56] 400 _ ?_
      show am_Ev m_M_saves (WM ++ e1) ro P (56, [.ref 0, .int r1.1], [.ref 0, .int 0, .ref 1], (am_si r1.2 0 3 ((r1.2.1 0 3) - 1)))
      refine am_Ev_G [80] 400 _ ?_
      show ((p_lays 0 (163 * ((r1.2.1 0 3) - 1)) 163 978) ∧ am_Ev m_M_saves (WM ++ e1) ro P (80, [.ref 0, .int r1.1], [], (am_si (v_lays (am_si r1.2 0 3 ((r1.2.1 0 3) - 1)) 1 0 3 (163 * ((r1.2.1 0 3) - 1))) 0 3 (((v_lays (am_si r1.2 0 3 ((r1.2.1 0 3) - 1)) 1 0 3 (163 * ((r1.2.1 0 3) - 1))).1 0 3) + 1))))
      refine ⟨hp, ?_⟩
      refine am_Ev_G [] 400 _ ?_
      show P (.inl none) (am_si (v_lays (am_si r1.2 0 3 ((r1.2.1 0 3) - 1)) 1 0 3 (163 * ((r1.2.1 0 3) - 1))) 0 3 (((v_lays (am_si r1.2 0 3 ((r1.2.1 0 3) - 1)) 1 0 3 (163 * ((r1.2.1 0 3) - 1))).1 0 3) + 1))
      exact hP (am_si (v_lays (am_si r1.2 0 3 ((r1.2.1 0 3) - 1)) 1 0 3 (163 * ((r1.2.1 0 3) - 1))) 0 3 (((v_lays (am_si r1.2 0 3 ((r1.2.1 0 3) - 1)) 1 0 3 (163 * ((r1.2.1 0 3) - 1))).1 0 3) + 1)) (by unfold v_M_saves; simp only [if_pos c1, hr3])
theorem ok_M_saves {l : Launch} (hl : l.stackTraces = false) (e1 ro : List Sh) (k : Nat) : am_Ok l (WM ++ e1) ro (d_M_saves k) := by
  refine am_met hl (own := RX6) (M := m_M_saves) rfl pf_M_saves cu_M_saves rfl rfl rfl rfl (fun _ => rfl) rfl ⟨chk_M_saves, (am_c (fl_M_7) (am_c (fl_M_16) (am_c (fl_M_42) am_n))), (am_c (lk_M_45) am_n), (am_n), (am_n)⟩ (am_n) (am_c (ok_M_lays hl _ _ 0) am_n) (fun z => nomatch z) ?_ ?_
  · intro _ as h hg
    show g_thr (g_M_saves (WM ++ e1) ro as h) = none
    unfold g_M_saves
    split <;> rfl
  · intro as h hg hp
    revert hg hp
    show g_ok (g_M_saves (WM ++ e1) ro as h) = true → g_pre (g_M_saves (WM ++ e1) ro as h) → _ ∧ am_Ev m_M_saves (WM ++ e1) ro (am_eq (g_M_saves (WM ++ e1) ro as h)) (0, am_ent as 2, [], h)
    unfold g_M_saves
    split
    · rename_i o1
      intro hc hp
      change (Nat.beq o1 0) = true at hc
      obtain rfl := am_beq hc
      exact ⟨Nat.le_of_ble_eq_true rfl, ev_M_saves h hp eqRVW⟩
    · exact fun z => nomatch z
def k_M_of (pc : Nat) : Ent := bif Nat.ble 15 pc then am_nop else bif Nat.ble 9 pc then (bif Nat.ble 12 pc then (bif Nat.ble 13 pc then (bif Nat.ble 14 pc then (bif Nat.beq pc 14 then (.ireturn, 0, 0, []) else am_nop) else (bif Nat.beq pc 13 then (.iaload, 0, 0, []) else am_nop)) else (bif Nat.beq pc 12 then (.iadd, 0, 0, []) else am_nop)) else (bif Nat.ble 10 pc then (bif Nat.ble 11 pc then (bif Nat.beq pc 11 then (.iload_n 2, 0, 2, []) else am_nop) else (bif Nat.beq pc 10 then (.iadd, 0, 0, []) else am_nop)) else (bif Nat.beq pc 9 then (.imul, 0, 0, []) else am_nop))) else (bif Nat.ble 4 pc then (bif Nat.ble 6 pc then (bif Nat.ble 8 pc then (bif Nat.beq pc 8 then (.iload_n 1, 0, 1, []) else am_nop) else (bif Nat.beq pc 6 then (.bipush 7, 7, 0, []) else am_nop)) else (bif Nat.beq pc 4 then (.bipush 16, 16, 0, []) else am_nop)) else (bif Nat.ble 1 pc then (bif Nat.beq pc 1 then (.getfield 7, 0, 0, []) else am_nop) else (bif Nat.beq pc 0 then (.aload_n 0, 0, 0, []) else am_nop)))
def m_M_of : MI := (k_M_of, [(7, 6, 0)], [], [], [], [], [], 0, 0, some .int, fun _ => 0, 1)
def v_M_of (h : HP) (a1 : Int32) (a2 : Int32) : Int32 := (h.1 1 (am_ix ((16 + (7 * a1)) + a2)))
def p_M_of (h : HP) (a1 : Int32) (a2 : Int32) : Prop := (am_in ((16 + (7 * a1)) + a2) 163)
def g_M_of (_ _ : List Sh) (as : List Value) (h : HP) : GR := match as with
  | [.ref o1, .int a1, .int a2] => (Nat.beq o1 0, p_M_of h a1 a2, none, some (.int (v_M_of h a1 a2)), h)
  | _ => bad h
def d_M_of (k : Nat) : CD := (k, yX6_of, cX6_of, 3, some .int, 3, 0, 0, 0, false, true, g_M_of)
theorem chk_M_of : ∀ pc, am_chk cX6_of k_M_of pc = true := am_chkall 15 (by decide +kernel) (fun pc h => by unfold k_M_of; rw [Nat.ble_eq_true_of_le h]; rfl)
theorem pf_M_of : plainFor yX6_of = true := by decide +kernel
theorem cu_M_of : Cond.code yX6_of cX6_of 3 (some .int) ∈ am_U := am_tb 993 (by decide +kernel) rfl
set_option maxHeartbeats 20000000 in
set_option maxRecDepth 100000 in
theorem ev_M_of {e1 ro : List Sh} {P : AR → HP → Prop} (h : HP) (a1 : Int32) (a2 : Int32) (hp : p_M_of h a1 a2) (hP : ∀ q, v_M_of h a1 a2 = q → RI P h q) : am_Ev m_M_of (WM ++ e1) ro P (0, [.ref 0, .int a1, .int a2], [], h) := by
  unfold p_M_of at hp
  refine am_Ev_G [] 400 _ ?_
  show ((am_in ((16 + (7 * a1)) + a2) 163) ∧ P (.inl (some (.int (h.1 1 (am_ix ((16 + (7 * a1)) + a2)))))) h)
  refine ⟨hp, ?_⟩
  exact hP (h.1 1 (am_ix ((16 + (7 * a1)) + a2))) rfl
theorem ok_M_of {l : Launch} (hl : l.stackTraces = false) (e1 ro : List Sh) (k : Nat) : am_Ok l (WM ++ e1) ro (d_M_of k) := by
  refine am_met hl (own := RX6) (M := m_M_of) rfl pf_M_of cu_M_of rfl rfl rfl rfl (fun _ => rfl) rfl ⟨chk_M_of, (am_c (fl_M_7) am_n), (am_n), (am_n), (am_n)⟩ (am_n) (am_n) (fun z => nomatch z) ?_ ?_
  · intro _ as h hg
    show g_thr (g_M_of (WM ++ e1) ro as h) = none
    unfold g_M_of
    split <;> rfl
  · intro as h hg hp
    revert hg hp
    show g_ok (g_M_of (WM ++ e1) ro as h) = true → g_pre (g_M_of (WM ++ e1) ro as h) → _ ∧ am_Ev m_M_of (WM ++ e1) ro (am_eq (g_M_of (WM ++ e1) ro as h)) (0, am_ent as 3, [], h)
    unfold g_M_of
    split
    · rename_i o1 a1 a2
      intro hc hp
      change (Nat.beq o1 0) = true at hc
      obtain rfl := am_beq hc
      exact ⟨Nat.le_of_ble_eq_true rfl, ev_M_of h a1 a2 hp eqRI⟩
    · exact fun z => nomatch z
def k_M_becomes (pc : Nat) : Ent := bif Nat.ble 16 pc then am_nop else bif Nat.ble 10 pc then (bif Nat.ble 13 pc then (bif Nat.ble 14 pc then (bif Nat.ble 15 pc then (bif Nat.beq pc 15 then (.return_, 0, 0, []) else am_nop) else (bif Nat.beq pc 14 then (.iastore, 0, 0, []) else am_nop)) else (bif Nat.beq pc 13 then (.iload_n 3, 0, 3, []) else am_nop)) else (bif Nat.ble 11 pc then (bif Nat.ble 12 pc then (bif Nat.beq pc 12 then (.iadd, 0, 0, []) else am_nop) else (bif Nat.beq pc 11 then (.iload_n 2, 0, 2, []) else am_nop)) else (bif Nat.beq pc 10 then (.iadd, 0, 0, []) else am_nop))) else (bif Nat.ble 6 pc then (bif Nat.ble 8 pc then (bif Nat.ble 9 pc then (bif Nat.beq pc 9 then (.imul, 0, 0, []) else am_nop) else (bif Nat.beq pc 8 then (.iload_n 1, 0, 1, []) else am_nop)) else (bif Nat.beq pc 6 then (.bipush 7, 7, 0, []) else am_nop)) else (bif Nat.ble 1 pc then (bif Nat.ble 4 pc then (bif Nat.beq pc 4 then (.bipush 16, 16, 0, []) else am_nop) else (bif Nat.beq pc 1 then (.getfield 7, 0, 0, []) else am_nop)) else (bif Nat.beq pc 0 then (.aload_n 0, 0, 0, []) else am_nop)))
def m_M_becomes : MI := (k_M_becomes, [(7, 6, 0)], [], [], [], [], [], 0, 0, none, fun _ => 0, 1)
def v_M_becomes (h : HP) (a1 : Int32) (a2 : Int32) (a3 : Int32) : HP := (am_si h 1 (am_ix ((16 + (7 * a1)) + a2)) a3)
def p_M_becomes (h : HP) (a1 : Int32) (a2 : Int32) (a3 : Int32) : Prop := (am_in ((16 + (7 * a1)) + a2) 163)
def g_M_becomes (_ _ : List Sh) (as : List Value) (h : HP) : GR := match as with
  | [.ref o1, .int a1, .int a2, .int a3] => (Nat.beq o1 0, p_M_becomes h a1 a2 a3, none, none, v_M_becomes h a1 a2 a3)
  | _ => bad h
def d_M_becomes (k : Nat) : CD := (k, yX6_becomes, cX6_becomes, 4, none, 4, 0, 0, 0, false, true, g_M_becomes)
theorem chk_M_becomes : ∀ pc, am_chk cX6_becomes k_M_becomes pc = true := am_chkall 16 (by decide +kernel) (fun pc h => by unfold k_M_becomes; rw [Nat.ble_eq_true_of_le h]; rfl)
theorem pf_M_becomes : plainFor yX6_becomes = true := by decide +kernel
theorem cu_M_becomes : Cond.code yX6_becomes cX6_becomes 4 (none) ∈ am_U := am_tb 977 (by decide +kernel) rfl
set_option maxHeartbeats 20000000 in
set_option maxRecDepth 100000 in
theorem ev_M_becomes {e1 ro : List Sh} {P : AR → HP → Prop} (h : HP) (a1 : Int32) (a2 : Int32) (a3 : Int32) (hp : p_M_becomes h a1 a2 a3) (hP : ∀ q, v_M_becomes h a1 a2 a3 = q → RVW P h q) : am_Ev m_M_becomes (WM ++ e1) ro P (0, [.ref 0, .int a1, .int a2, .int a3], [], h) := by
  unfold p_M_becomes at hp
  refine am_Ev_G [15] 400 _ ?_
  show ((am_in ((16 + (7 * a1)) + a2) 163) ∧ am_Ev m_M_becomes (WM ++ e1) ro P (15, [.ref 0, .int a1, .int a2, .int a3], [], (am_si h 1 (am_ix ((16 + (7 * a1)) + a2)) a3)))
  refine ⟨hp, ?_⟩
  refine am_Ev_G [] 400 _ ?_
  show P (.inl none) (am_si h 1 (am_ix ((16 + (7 * a1)) + a2)) a3)
  exact hP (am_si h 1 (am_ix ((16 + (7 * a1)) + a2)) a3) rfl
theorem ok_M_becomes {l : Launch} (hl : l.stackTraces = false) (e1 ro : List Sh) (k : Nat) : am_Ok l (WM ++ e1) ro (d_M_becomes k) := by
  refine am_met hl (own := RX6) (M := m_M_becomes) rfl pf_M_becomes cu_M_becomes rfl rfl rfl rfl (fun _ => rfl) rfl ⟨chk_M_becomes, (am_c (fl_M_7) am_n), (am_n), (am_n), (am_n)⟩ (am_n) (am_n) (fun z => nomatch z) ?_ ?_
  · intro _ as h hg
    show g_thr (g_M_becomes (WM ++ e1) ro as h) = none
    unfold g_M_becomes
    split <;> rfl
  · intro as h hg hp
    revert hg hp
    show g_ok (g_M_becomes (WM ++ e1) ro as h) = true → g_pre (g_M_becomes (WM ++ e1) ro as h) → _ ∧ am_Ev m_M_becomes (WM ++ e1) ro (am_eq (g_M_becomes (WM ++ e1) ro as h)) (0, am_ent as 4, [], h)
    unfold g_M_becomes
    split
    · rename_i o1 a1 a2 a3
      intro hc hp
      change (Nat.beq o1 0) = true at hc
      obtain rfl := am_beq hc
      exact ⟨Nat.le_of_ble_eq_true rfl, ev_M_becomes h a1 a2 a3 hp eqRVW⟩
    · exact fun z => nomatch z
def k_M_arrival (pc : Nat) : Ent := bif Nat.ble 14 pc then am_nop else bif Nat.ble 7 pc then (bif Nat.ble 9 pc then (bif Nat.ble 12 pc then (bif Nat.ble 13 pc then (bif Nat.beq pc 13 then (.ireturn, 0, 0, []) else am_nop) else (bif Nat.beq pc 12 then (.iadd, 0, 0, []) else am_nop)) else (bif Nat.beq pc 9 then (.invokevirtual 49, 0, 0, []) else am_nop)) else (bif Nat.ble 8 pc then (bif Nat.beq pc 8 then (.iconst 4, 4, 0, []) else am_nop) else (bif Nat.beq pc 7 then (.iload_n 1, 0, 1, []) else am_nop))) else (bif Nat.ble 2 pc then (bif Nat.ble 3 pc then (bif Nat.ble 6 pc then (bif Nat.beq pc 6 then (.aload_n 0, 0, 0, []) else am_nop) else (bif Nat.beq pc 3 then (.invokevirtual 49, 0, 0, []) else am_nop)) else (bif Nat.beq pc 2 then (.iconst 3, 3, 0, []) else am_nop)) else (bif Nat.ble 1 pc then (bif Nat.beq pc 1 then (.iload_n 1, 0, 1, []) else am_nop) else (bif Nat.beq pc 0 then (.aload_n 0, 0, 0, []) else am_nop)))
theorem lk_M_49 : am_lnk RX6 49 (d_M_of 16) := ⟨⟨by decide, by decide⟩, am_tb 8 (by decide +kernel) rfl, Or.inr ⟨by decide, rfl, am_tb 992 (by decide +kernel) rfl, am_tp 75 (by decide +kernel) rfl, ⟨TX6, 16, rfl⟩, Or.inl (am_tb 990 (by decide +kernel) rfl)⟩⟩
def m_M_arrival : MI := (k_M_arrival, [], [(49, d_M_of 16)], [], [], [], [], 1, 22, some .int, fun _ => 0, 1)
def v_M_arrival (h : HP) (a1 : Int32) : Int32 := ((v_M_of h a1 3) + (v_M_of h a1 4))
def p_M_arrival (h : HP) (a1 : Int32) : Prop := ((p_M_of h a1 3) ∧ (p_M_of h a1 4))
def g_M_arrival (_ _ : List Sh) (as : List Value) (h : HP) : GR := match as with
  | [.ref o1, .int a1] => (Nat.beq o1 0, p_M_arrival h a1, none, some (.int (v_M_arrival h a1)), h)
  | _ => bad h
def d_M_arrival (k : Nat) : CD := (k, yX6_arrival, cX6_arrival, 2, some .int, 2, 1, 22, 0, false, true, g_M_arrival)
theorem chk_M_arrival : ∀ pc, am_chk cX6_arrival k_M_arrival pc = true := am_chkall 14 (by decide +kernel) (fun pc h => by unfold k_M_arrival; rw [Nat.ble_eq_true_of_le h]; rfl)
theorem pf_M_arrival : plainFor yX6_arrival = true := by decide +kernel
theorem cu_M_arrival : Cond.code yX6_arrival cX6_arrival 2 (some .int) ∈ am_U := am_tb 1028 (by decide +kernel) rfl
set_option maxHeartbeats 20000000 in
set_option maxRecDepth 100000 in
theorem ev_M_arrival {e1 ro : List Sh} {P : AR → HP → Prop} (h : HP) (a1 : Int32) (hp : p_M_arrival h a1) (hP : ∀ q, v_M_arrival h a1 = q → RI P h q) : am_Ev m_M_arrival (WM ++ e1) ro P (0, [.ref 0, .int a1], [], h) := by
  unfold p_M_arrival at hp
  refine am_Ev_G [12] 400 _ ?_
  show ((p_M_of h a1 3) ∧ ((p_M_of h a1 4) ∧ am_Ev m_M_arrival (WM ++ e1) ro P (12, [.ref 0, .int a1], [.int (v_M_of h a1 4), .int (v_M_of h a1 3)], h)))
  obtain ⟨hob, hp⟩ := hp
  refine ⟨hob, ?_⟩
  refine ⟨hp, ?_⟩
  refine am_Ev_G [] 400 _ ?_
  show P (.inl (some (.int ((v_M_of h a1 3) + (v_M_of h a1 4))))) h
  exact hP ((v_M_of h a1 3) + (v_M_of h a1 4)) rfl
theorem ok_M_arrival {l : Launch} (hl : l.stackTraces = false) (e1 ro : List Sh) (k : Nat) : am_Ok l (WM ++ e1) ro (d_M_arrival k) := by
  refine am_met hl (own := RX6) (M := m_M_arrival) rfl pf_M_arrival cu_M_arrival rfl rfl rfl rfl (fun _ => rfl) rfl ⟨chk_M_arrival, (am_n), (am_c (lk_M_49) am_n), (am_n), (am_n)⟩ (am_n) (am_c (ok_M_of hl e1 _ 16) am_n) (fun z => nomatch z) ?_ ?_
  · intro _ as h hg
    show g_thr (g_M_arrival (WM ++ e1) ro as h) = none
    unfold g_M_arrival
    split <;> rfl
  · intro as h hg hp
    revert hg hp
    show g_ok (g_M_arrival (WM ++ e1) ro as h) = true → g_pre (g_M_arrival (WM ++ e1) ro as h) → _ ∧ am_Ev m_M_arrival (WM ++ e1) ro (am_eq (g_M_arrival (WM ++ e1) ro as h)) (0, am_ent as 2, [], h)
    unfold g_M_arrival
    split
    · rename_i o1 a1
      intro hc hp
      change (Nat.beq o1 0) = true at hc
      obtain rfl := am_beq hc
      exact ⟨Nat.le_of_ble_eq_true rfl, ev_M_arrival h a1 hp eqRI⟩
    · exact fun z => nomatch z
def k_M_isRun (pc : Nat) : Ent := bif Nat.ble 15 pc then am_nop else bif Nat.ble 6 pc then (bif Nat.ble 10 pc then (bif Nat.ble 13 pc then (bif Nat.ble 14 pc then (bif Nat.beq pc 14 then (.ireturn, 0, 0, []) else am_nop) else (bif Nat.beq pc 13 then (.iconst 0, 0, 0, []) else am_nop)) else (bif Nat.beq pc 10 then (.goto 4, 0, 14, []) else am_nop)) else (bif Nat.ble 9 pc then (bif Nat.beq pc 9 then (.iconst 1, 1, 0, []) else am_nop) else (bif Nat.beq pc 6 then (.ifCond .ne 7, 0, 13, []) else am_nop))) else (bif Nat.ble 2 pc then (bif Nat.ble 3 pc then (bif Nat.beq pc 3 then (.invokevirtual 49, 0, 0, []) else am_nop) else (bif Nat.beq pc 2 then (.iconst 5, 5, 0, []) else am_nop)) else (bif Nat.ble 1 pc then (bif Nat.beq pc 1 then (.iload_n 1, 0, 1, []) else am_nop) else (bif Nat.beq pc 0 then (.aload_n 0, 0, 0, []) else am_nop)))
def m_M_isRun : MI := (k_M_isRun, [], [(49, d_M_of 16)], [], [], [], [], 1, 22, some .boolean, fun _ => 0, 1)
def v_M_isRun (h : HP) (a1 : Int32) : Int32 := (if (v_M_of h a1 5) = 0 then (1 : Int32) else 0)
def p_M_isRun (h : HP) (a1 : Int32) : Prop := (p_M_of h a1 5)
def g_M_isRun (_ _ : List Sh) (as : List Value) (h : HP) : GR := match as with
  | [.ref o1, .int a1] => (Nat.beq o1 0, p_M_isRun h a1, none, some (.int (v_M_isRun h a1)), h)
  | _ => bad h
def d_M_isRun (k : Nat) : CD := (k, yX6_isRun, cX6_isRun, 2, some .boolean, 2, 1, 22, 0, false, true, g_M_isRun)
theorem chk_M_isRun : ∀ pc, am_chk cX6_isRun k_M_isRun pc = true := am_chkall 15 (by decide +kernel) (fun pc h => by unfold k_M_isRun; rw [Nat.ble_eq_true_of_le h]; rfl)
theorem pf_M_isRun : plainFor yX6_isRun = true := by decide +kernel
theorem cu_M_isRun : Cond.code yX6_isRun cX6_isRun 2 (some .boolean) ∈ am_U := am_tb 989 (by decide +kernel) rfl
set_option maxHeartbeats 20000000 in
set_option maxRecDepth 100000 in
theorem ev_M_isRun {e1 ro : List Sh} {P : AR → HP → Prop} (h : HP) (a1 : Int32) (hp : p_M_isRun h a1) (hP : ∀ q, v_M_isRun h a1 = q → RI P h q) : am_Ev m_M_isRun (WM ++ e1) ro P (0, [.ref 0, .int a1], [], h) := by
  unfold p_M_isRun at hp
  refine am_Ev_G [6] 400 _ ?_
  show ((p_M_of h a1 5) ∧ am_Ev m_M_isRun (WM ++ e1) ro P (6, [.ref 0, .int a1], [.int (v_M_of h a1 5)], h))
  refine ⟨hp, ?_⟩
  have key1 : am_Ev m_M_isRun (WM ++ e1) ro P (14, [.ref 0, .int a1], [.int (if (v_M_of h a1 5) = 0 then (1 : Int32) else 0)], h) := by
    refine am_Ev_G [] 400 _ ?_
    show (((((if (v_M_of h a1 5) = 0 then (1 : Int32) else 0) : Int32) = 0 ∨ ((if (v_M_of h a1 5) = 0 then (1 : Int32) else 0) : Int32) = 1)) ∧ P (.inl (some (.int (if (v_M_of h a1 5) = 0 then (1 : Int32) else 0)))) h)
    refine ⟨(by (repeat' split) <;> decide), ?_⟩
    exact hP (if (v_M_of h a1 5) = 0 then (1 : Int32) else 0) rfl
  refine am_Ev_G [14] 400 _ ?_
  show ((¬ (v_M_of h a1 5) = 0 → am_Ev m_M_isRun (WM ++ e1) ro P (14, [.ref 0, .int a1], [.int 0], h)) ∧ ((v_M_of h a1 5) = 0 → am_Ev m_M_isRun (WM ++ e1) ro P (14, [.ref 0, .int a1], [.int 1], h)))
  refine ⟨fun c2 => ?_, fun c2 => ?_⟩
  · skip
    simpa only [if_neg c2] using key1
  · skip
    simpa only [if_pos c2] using key1
theorem ok_M_isRun {l : Launch} (hl : l.stackTraces = false) (e1 ro : List Sh) (k : Nat) : am_Ok l (WM ++ e1) ro (d_M_isRun k) := by
  refine am_met hl (own := RX6) (M := m_M_isRun) rfl pf_M_isRun cu_M_isRun rfl rfl rfl rfl (fun _ => rfl) rfl ⟨chk_M_isRun, (am_n), (am_c (lk_M_49) am_n), (am_n), (am_n)⟩ (am_n) (am_c (ok_M_of hl e1 _ 16) am_n) (fun z => nomatch z) ?_ ?_
  · intro _ as h hg
    show g_thr (g_M_isRun (WM ++ e1) ro as h) = none
    unfold g_M_isRun
    split <;> rfl
  · intro as h hg hp
    revert hg hp
    show g_ok (g_M_isRun (WM ++ e1) ro as h) = true → g_pre (g_M_isRun (WM ++ e1) ro as h) → _ ∧ am_Ev m_M_isRun (WM ++ e1) ro (am_eq (g_M_isRun (WM ++ e1) ro as h)) (0, am_ent as 2, [], h)
    unfold g_M_isRun
    split
    · rename_i o1 a1
      intro hc hp
      change (Nat.beq o1 0) = true at hc
      obtain rfl := am_beq hc
      exact ⟨Nat.le_of_ble_eq_true rfl, ev_M_isRun h a1 hp eqRI⟩
    · exact fun z => nomatch z
def k_M_ready (pc : Nat) : Ent := bif Nat.ble 20 pc then am_nop else bif Nat.ble 11 pc then (bif Nat.ble 16 pc then (bif Nat.ble 18 pc then (bif Nat.ble 19 pc then (bif Nat.beq pc 19 then (.ireturn, 0, 0, []) else am_nop) else (bif Nat.beq pc 18 then (.iadd, 0, 0, []) else am_nop)) else (bif Nat.ble 17 pc then (bif Nat.beq pc 17 then (.iaload, 0, 0, []) else am_nop) else (bif Nat.beq pc 16 then (.iadd, 0, 0, []) else am_nop))) else (bif Nat.ble 12 pc then (bif Nat.ble 13 pc then (bif Nat.beq pc 13 then (.invokevirtual 49, 0, 0, []) else am_nop) else (bif Nat.beq pc 12 then (.iconst 2, 2, 0, []) else am_nop)) else (bif Nat.beq pc 11 then (.iload_n 1, 0, 1, []) else am_nop))) else (bif Nat.ble 5 pc then (bif Nat.ble 9 pc then (bif Nat.ble 10 pc then (bif Nat.beq pc 10 then (.aload_n 0, 0, 0, []) else am_nop) else (bif Nat.beq pc 9 then (.iconst 0, 0, 0, []) else am_nop)) else (bif Nat.ble 6 pc then (bif Nat.beq pc 6 then (.getfield 7, 0, 0, []) else am_nop) else (bif Nat.beq pc 5 then (.aload_n 0, 0, 0, []) else am_nop))) else (bif Nat.ble 1 pc then (bif Nat.ble 2 pc then (bif Nat.beq pc 2 then (.invokevirtual 53, 0, 0, []) else am_nop) else (bif Nat.beq pc 1 then (.iload_n 1, 0, 1, []) else am_nop)) else (bif Nat.beq pc 0 then (.aload_n 0, 0, 0, []) else am_nop)))
theorem lk_M_53 : am_lnk RX6 53 (d_M_arrival 16) := ⟨⟨by decide, by decide⟩, am_tb 8 (by decide +kernel) rfl, Or.inr ⟨by decide, rfl, am_tb 1027 (by decide +kernel) rfl, am_tp 81 (by decide +kernel) rfl, ⟨TX6, 16, rfl⟩, Or.inl (am_tb 1025 (by decide +kernel) rfl)⟩⟩
def m_M_ready : MI := (k_M_ready, [(7, 6, 0)], [(49, d_M_of 16), (53, d_M_arrival 16)], [], [], [], [], 2, 43, some .int, fun _ => 0, 1)
def v_M_ready (h : HP) (a1 : Int32) : Int32 := ((v_M_arrival h a1) + (h.1 1 (am_ix (0 + (v_M_of h a1 2)))))
def p_M_ready (h : HP) (a1 : Int32) : Prop := ((p_M_arrival h a1) ∧ ((p_M_of h a1 2) ∧ (am_in (0 + (v_M_of h a1 2)) 163)))
def g_M_ready (_ _ : List Sh) (as : List Value) (h : HP) : GR := match as with
  | [.ref o1, .int a1] => (Nat.beq o1 0, p_M_ready h a1, none, some (.int (v_M_ready h a1)), h)
  | _ => bad h
def d_M_ready (k : Nat) : CD := (k, yX6_ready, cX6_ready, 2, some .int, 2, 2, 43, 0, false, true, g_M_ready)
theorem chk_M_ready : ∀ pc, am_chk cX6_ready k_M_ready pc = true := am_chkall 20 (by decide +kernel) (fun pc h => by unfold k_M_ready; rw [Nat.ble_eq_true_of_le h]; rfl)
theorem pf_M_ready : plainFor yX6_ready = true := by decide +kernel
theorem cu_M_ready : Cond.code yX6_ready cX6_ready 2 (some .int) ∈ am_U := am_tb 1024 (by decide +kernel) rfl
set_option maxHeartbeats 20000000 in
set_option maxRecDepth 100000 in
theorem ev_M_ready {e1 ro : List Sh} {P : AR → HP → Prop} (h : HP) (a1 : Int32) (hp : p_M_ready h a1) (hP : ∀ q, v_M_ready h a1 = q → RI P h q) : am_Ev m_M_ready (WM ++ e1) ro P (0, [.ref 0, .int a1], [], h) := by
  unfold p_M_ready at hp
  refine am_Ev_G [16] 400 _ ?_
  show ((p_M_arrival h a1) ∧ ((p_M_of h a1 2) ∧ am_Ev m_M_ready (WM ++ e1) ro P (16, [.ref 0, .int a1], [.int (v_M_of h a1 2), .int 0, .ref 1, .int (v_M_arrival h a1)], h)))
  obtain ⟨hob, hp⟩ := hp
  refine ⟨hob, ?_⟩
  obtain ⟨hob, hp⟩ := hp
  refine ⟨hob, ?_⟩
  refine am_Ev_G [] 400 _ ?_
  show ((am_in (0 + (v_M_of h a1 2)) 163) ∧ P (.inl (some (.int ((v_M_arrival h a1) + (h.1 1 (am_ix (0 + (v_M_of h a1 2)))))))) h)
  refine ⟨hp, ?_⟩
  exact hP ((v_M_arrival h a1) + (h.1 1 (am_ix (0 + (v_M_of h a1 2))))) rfl
theorem ok_M_ready {l : Launch} (hl : l.stackTraces = false) (e1 ro : List Sh) (k : Nat) : am_Ok l (WM ++ e1) ro (d_M_ready k) := by
  refine am_met hl (own := RX6) (M := m_M_ready) rfl pf_M_ready cu_M_ready rfl rfl rfl rfl (fun _ => rfl) rfl ⟨chk_M_ready, (am_c (fl_M_7) am_n), (am_c (lk_M_49) (am_c (lk_M_53) am_n)), (am_n), (am_n)⟩ (am_n) (am_c (ok_M_of hl e1 _ 16) (am_c (ok_M_arrival hl e1 _ 16) am_n)) (fun z => nomatch z) ?_ ?_
  · intro _ as h hg
    show g_thr (g_M_ready (WM ++ e1) ro as h) = none
    unfold g_M_ready
    split <;> rfl
  · intro as h hg hp
    revert hg hp
    show g_ok (g_M_ready (WM ++ e1) ro as h) = true → g_pre (g_M_ready (WM ++ e1) ro as h) → _ ∧ am_Ev m_M_ready (WM ++ e1) ro (am_eq (g_M_ready (WM ++ e1) ro as h)) (0, am_ent as 2, [], h)
    unfold g_M_ready
    split
    · rename_i o1 a1
      intro hc hp
      change (Nat.beq o1 0) = true at hc
      obtain rfl := am_beq hc
      exact ⟨Nat.le_of_ble_eq_true rfl, ev_M_ready h a1 hp eqRI⟩
    · exact fun z => nomatch z
def k_M_next (pc : Nat) : Ent := bif Nat.ble 8 pc then am_nop else bif Nat.ble 2 pc then (bif Nat.ble 4 pc then (bif Nat.ble 7 pc then (bif Nat.beq pc 7 then (.ireturn, 0, 0, []) else am_nop) else (bif Nat.beq pc 4 then (.invokevirtual 49, 0, 0, []) else am_nop)) else (bif Nat.beq pc 2 then (.bipush 6, 6, 0, []) else am_nop)) else (bif Nat.ble 1 pc then (bif Nat.beq pc 1 then (.iload_n 1, 0, 1, []) else am_nop) else (bif Nat.beq pc 0 then (.aload_n 0, 0, 0, []) else am_nop))
def m_M_next : MI := (k_M_next, [], [(49, d_M_of 16)], [], [], [], [], 1, 22, some .int, fun _ => 0, 1)
def v_M_next (h : HP) (a1 : Int32) : Int32 := (v_M_of h a1 6)
def p_M_next (h : HP) (a1 : Int32) : Prop := (p_M_of h a1 6)
def g_M_next (_ _ : List Sh) (as : List Value) (h : HP) : GR := match as with
  | [.ref o1, .int a1] => (Nat.beq o1 0, p_M_next h a1, none, some (.int (v_M_next h a1)), h)
  | _ => bad h
def d_M_next (k : Nat) : CD := (k, yX6_next, cX6_next, 2, some .int, 2, 1, 22, 0, false, true, g_M_next)
theorem chk_M_next : ∀ pc, am_chk cX6_next k_M_next pc = true := am_chkall 8 (by decide +kernel) (fun pc h => by unfold k_M_next; rw [Nat.ble_eq_true_of_le h]; rfl)
theorem pf_M_next : plainFor yX6_next = true := by decide +kernel
theorem cu_M_next : Cond.code yX6_next cX6_next 2 (some .int) ∈ am_U := am_tb 1005 (by decide +kernel) rfl
set_option maxHeartbeats 20000000 in
set_option maxRecDepth 100000 in
theorem ev_M_next {e1 ro : List Sh} {P : AR → HP → Prop} (h : HP) (a1 : Int32) (hp : p_M_next h a1) (hP : ∀ q, v_M_next h a1 = q → RI P h q) : am_Ev m_M_next (WM ++ e1) ro P (0, [.ref 0, .int a1], [], h) := by
  unfold p_M_next at hp
  refine am_Ev_G [] 400 _ ?_
  show ((p_M_of h a1 6) ∧ P (.inl (some (.int (v_M_of h a1 6)))) h)
  refine ⟨hp, ?_⟩
  exact hP (v_M_of h a1 6) rfl
theorem ok_M_next {l : Launch} (hl : l.stackTraces = false) (e1 ro : List Sh) (k : Nat) : am_Ok l (WM ++ e1) ro (d_M_next k) := by
  refine am_met hl (own := RX6) (M := m_M_next) rfl pf_M_next cu_M_next rfl rfl rfl rfl (fun _ => rfl) rfl ⟨chk_M_next, (am_n), (am_c (lk_M_49) am_n), (am_n), (am_n)⟩ (am_n) (am_c (ok_M_of hl e1 _ 16) am_n) (fun z => nomatch z) ?_ ?_
  · intro _ as h hg
    show g_thr (g_M_next (WM ++ e1) ro as h) = none
    unfold g_M_next
    split <;> rfl
  · intro as h hg hp
    revert hg hp
    show g_ok (g_M_next (WM ++ e1) ro as h) = true → g_pre (g_M_next (WM ++ e1) ro as h) → _ ∧ am_Ev m_M_next (WM ++ e1) ro (am_eq (g_M_next (WM ++ e1) ro as h)) (0, am_ent as 2, [], h)
    unfold g_M_next
    split
    · rename_i o1 a1
      intro hc hp
      change (Nat.beq o1 0) = true at hc
      obtain rfl := am_beq hc
      exact ⟨Nat.le_of_ble_eq_true rfl, ev_M_next h a1 hp eqRI⟩
    · exact fun z => nomatch z
end
