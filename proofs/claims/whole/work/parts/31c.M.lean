/-! BusBlocksModel, out of its code (written by gen/meth.py). -/
noncomputable section
def k_M_isTerminal (pc : Nat) : Ent := bif Nat.ble 7 pc then am_nop else bif Nat.ble 2 pc then (bif Nat.ble 3 pc then (bif Nat.ble 6 pc then (bif Nat.beq pc 6 then (.ireturn, 0, 0, []) else am_nop) else (bif Nat.beq pc 3 then (.invokestatic 127, 0, 0, []) else am_nop)) else (bif Nat.beq pc 2 then (.iconst 3, 3, 0, []) else am_nop)) else (bif Nat.ble 1 pc then (bif Nat.beq pc 1 then (.iconst 0, 0, 0, []) else am_nop) else (bif Nat.beq pc 0 then (.iload_n 0, 0, 0, []) else am_nop))
theorem lk_M_127 : am_lnk RX6 127 (d_M_in 0) := ⟨⟨by decide, by decide⟩, am_tb 8 (by decide +kernel) rfl, Or.inl ⟨by decide, rfl, am_tb 946 (by decide +kernel) rfl, Or.inl ⟨by decide, am_tb 945 (by decide +kernel) rfl⟩⟩⟩
def m_M_isTerminal : MI := (k_M_isTerminal, [], [(127, d_M_in 0)], [], [], [], [], 1, 22, some .boolean, fun _ => 0, 1)
def v_M_isTerminal (h : HP) (a1 : Int32) : Int32 := (v_M_in h a1 0 3)
def p_M_isTerminal (h : HP) (a1 : Int32) : Prop := ((((v_M_in h a1 0 3) : Int32) = 0 ∨ ((v_M_in h a1 0 3) : Int32) = 1))
def g_M_isTerminal (_ _ : List Sh) (as : List Value) (h : HP) : GR := match as with
  | [.int a1] => (true, p_M_isTerminal h a1, none, some (.int (v_M_isTerminal h a1)), h)
  | _ => bad h
def d_M_isTerminal (k : Nat) : CD := (k, yX6_isTerminal, cX6_isTerminal, 1, some .boolean, 1, 1, 22, 0, false, true, g_M_isTerminal)
theorem chk_M_isTerminal : ∀ pc, am_chk cX6_isTerminal k_M_isTerminal pc = true := am_chkall 7 (by decide +kernel) (fun pc h => by unfold k_M_isTerminal; rw [Nat.ble_eq_true_of_le h]; rfl)
theorem pf_M_isTerminal : plainFor yX6_isTerminal = true := by decide +kernel
theorem cu_M_isTerminal : Cond.code yX6_isTerminal cX6_isTerminal 1 (some .boolean) ∈ am_U := am_tb 944 (by decide +kernel) rfl
set_option maxHeartbeats 20000000 in
set_option maxRecDepth 100000 in
theorem ev_M_isTerminal {e1 ro : List Sh} {P : AR → HP → Prop} (h : HP) (a1 : Int32) (hp : p_M_isTerminal h a1) (hP : ∀ q, v_M_isTerminal h a1 = q → RI P h q) : am_Ev m_M_isTerminal (WM ++ e1) ro P (0, [.int a1], [], h) := by
  unfold p_M_isTerminal at hp
  refine am_Ev_G [] 400 _ ?_
  show (((((v_M_in h a1 0 3) : Int32) = 0 ∨ ((v_M_in h a1 0 3) : Int32) = 1)) ∧ P (.inl (some (.int (v_M_in h a1 0 3)))) h)
  refine ⟨hp, ?_⟩
  exact hP (v_M_in h a1 0 3) rfl
theorem ok_M_isTerminal {l : Launch} (hl : l.stackTraces = false) (e1 ro : List Sh) (k : Nat) : am_Ok l (WM ++ e1) ro (d_M_isTerminal k) := by
  refine am_met hl (own := RX6) (M := m_M_isTerminal) rfl pf_M_isTerminal cu_M_isTerminal rfl rfl rfl rfl (fun _ => rfl) rfl ⟨chk_M_isTerminal, (am_n), (am_c (lk_M_127) am_n), (am_n), (am_n)⟩ (am_n) (am_c (ok_M_in hl e1 _ 0) am_n) (fun z => nomatch z) ?_ ?_
  · intro _ as h hg
    show g_thr (g_M_isTerminal (WM ++ e1) ro as h) = none
    unfold g_M_isTerminal
    split <;> rfl
  · intro as h hg hp
    revert hg hp
    show g_ok (g_M_isTerminal (WM ++ e1) ro as h) = true → g_pre (g_M_isTerminal (WM ++ e1) ro as h) → _ ∧ am_Ev m_M_isTerminal (WM ++ e1) ro (am_eq (g_M_isTerminal (WM ++ e1) ro as h)) (0, am_ent as 1, [], h)
    unfold g_M_isTerminal
    split
    · rename_i a1
      intro hc hp
      exact ⟨Nat.le_of_ble_eq_true rfl, ev_M_isTerminal h a1 hp eqRI⟩
    · exact fun z => nomatch z
def k_M_isTrip (pc : Nat) : Ent := bif Nat.ble 15 pc then am_nop else bif Nat.ble 8 pc then (bif Nat.ble 10 pc then (bif Nat.ble 11 pc then (bif Nat.ble 14 pc then (bif Nat.beq pc 14 then (.ireturn, 0, 0, []) else am_nop) else (bif Nat.beq pc 11 then (.invokestatic 127, 0, 0, []) else am_nop)) else (bif Nat.beq pc 10 then (.isub, 0, 0, []) else am_nop)) else (bif Nat.ble 9 pc then (bif Nat.beq pc 9 then (.iconst 1, 1, 0, []) else am_nop) else (bif Nat.beq pc 8 then (.iaload, 0, 0, []) else am_nop))) else (bif Nat.ble 2 pc then (bif Nat.ble 3 pc then (bif Nat.ble 6 pc then (bif Nat.beq pc 6 then (.bipush 15, 15, 0, []) else am_nop) else (bif Nat.beq pc 3 then (.getfield 7, 0, 0, []) else am_nop)) else (bif Nat.beq pc 2 then (.aload_n 0, 0, 0, []) else am_nop)) else (bif Nat.ble 1 pc then (bif Nat.beq pc 1 then (.iconst 0, 0, 0, []) else am_nop) else (bif Nat.beq pc 0 then (.iload_n 1, 0, 1, []) else am_nop)))
def m_M_isTrip : MI := (k_M_isTrip, [(7, 6, 0)], [(127, d_M_in 0)], [], [], [], [], 1, 22, some .boolean, fun _ => 0, 1)
def v_M_isTrip (h : HP) (a1 : Int32) : Int32 := (v_M_in h a1 0 ((h.1 1 (am_ix 15)) - 1))
def p_M_isTrip (h : HP) (a1 : Int32) : Prop := ((((v_M_in h a1 0 ((h.1 1 (am_ix 15)) - 1)) : Int32) = 0 ∨ ((v_M_in h a1 0 ((h.1 1 (am_ix 15)) - 1)) : Int32) = 1))
def g_M_isTrip (_ _ : List Sh) (as : List Value) (h : HP) : GR := match as with
  | [.ref o1, .int a1] => (Nat.beq o1 0, p_M_isTrip h a1, none, some (.int (v_M_isTrip h a1)), h)
  | _ => bad h
def d_M_isTrip (k : Nat) : CD := (k, yX6_isTrip, cX6_isTrip, 2, some .boolean, 2, 1, 22, 0, false, true, g_M_isTrip)
theorem chk_M_isTrip : ∀ pc, am_chk cX6_isTrip k_M_isTrip pc = true := am_chkall 15 (by decide +kernel) (fun pc h => by unfold k_M_isTrip; rw [Nat.ble_eq_true_of_le h]; rfl)
theorem pf_M_isTrip : plainFor yX6_isTrip = true := by decide +kernel
theorem cu_M_isTrip : Cond.code yX6_isTrip cX6_isTrip 2 (some .boolean) ∈ am_U := am_tb 985 (by decide +kernel) rfl
set_option maxHeartbeats 20000000 in
set_option maxRecDepth 100000 in
theorem ev_M_isTrip {e1 ro : List Sh} {P : AR → HP → Prop} (h : HP) (a1 : Int32) (hp : p_M_isTrip h a1) (hP : ∀ q, v_M_isTrip h a1 = q → RI P h q) : am_Ev m_M_isTrip (WM ++ e1) ro P (0, [.ref 0, .int a1], [], h) := by
  unfold p_M_isTrip at hp
  refine am_Ev_G [14] 400 _ ?_
  show ((am_in 15 163) ∧ am_Ev m_M_isTrip (WM ++ e1) ro P (14, [.ref 0, .int a1], [.int (v_M_in h a1 0 ((h.1 1 (am_ix 15)) - 1))], h))
  refine ⟨⟨by decide, by decide⟩, ?_⟩
  refine am_Ev_G [] 400 _ ?_
  show (((((v_M_in h a1 0 ((h.1 1 (am_ix 15)) - 1)) : Int32) = 0 ∨ ((v_M_in h a1 0 ((h.1 1 (am_ix 15)) - 1)) : Int32) = 1)) ∧ P (.inl (some (.int (v_M_in h a1 0 ((h.1 1 (am_ix 15)) - 1))))) h)
  refine ⟨hp, ?_⟩
  exact hP (v_M_in h a1 0 ((h.1 1 (am_ix 15)) - 1)) rfl
theorem ok_M_isTrip {l : Launch} (hl : l.stackTraces = false) (e1 ro : List Sh) (k : Nat) : am_Ok l (WM ++ e1) ro (d_M_isTrip k) := by
  refine am_met hl (own := RX6) (M := m_M_isTrip) rfl pf_M_isTrip cu_M_isTrip rfl rfl rfl rfl (fun _ => rfl) rfl ⟨chk_M_isTrip, (am_c (fl_M_7) am_n), (am_c (lk_M_127) am_n), (am_n), (am_n)⟩ (am_n) (am_c (ok_M_in hl e1 _ 0) am_n) (fun z => nomatch z) ?_ ?_
  · intro _ as h hg
    show g_thr (g_M_isTrip (WM ++ e1) ro as h) = none
    unfold g_M_isTrip
    split <;> rfl
  · intro as h hg hp
    revert hg hp
    show g_ok (g_M_isTrip (WM ++ e1) ro as h) = true → g_pre (g_M_isTrip (WM ++ e1) ro as h) → _ ∧ am_Ev m_M_isTrip (WM ++ e1) ro (am_eq (g_M_isTrip (WM ++ e1) ro as h)) (0, am_ent as 2, [], h)
    unfold g_M_isTrip
    split
    · rename_i o1 a1
      intro hc hp
      change (Nat.beq o1 0) = true at hc
      obtain rfl := am_beq hc
      exact ⟨Nat.le_of_ble_eq_true rfl, ev_M_isTrip h a1 hp eqRI⟩
    · exact fun z => nomatch z
def k_M_layover (pc : Nat) : Ent := bif Nat.ble 58 pc then am_nop else bif Nat.ble 33 pc then (bif Nat.ble 46 pc then (bif Nat.ble 53 pc then (bif Nat.ble 55 pc then (bif Nat.ble 56 pc then (bif Nat.ble 57 pc then (bif Nat.beq pc 57 then (.ireturn, 0, 0, []) else am_nop) else (bif Nat.beq pc 56 then (.iload_n 3, 0, 3, []) else am_nop)) else (bif Nat.beq pc 55 then (.iastore, 0, 0, []) else am_nop)) else (bif Nat.ble 54 pc then (bif Nat.beq pc 54 then (.iload_n 2, 0, 2, []) else am_nop) else (bif Nat.beq pc 53 then (.iadd, 0, 0, []) else am_nop))) else (bif Nat.ble 48 pc then (bif Nat.ble 51 pc then (bif Nat.ble 52 pc then (bif Nat.beq pc 52 then (.iload_n 1, 0, 1, []) else am_nop) else (bif Nat.beq pc 51 then (.iconst 0, 0, 0, []) else am_nop)) else (bif Nat.beq pc 48 then (.getfield 7, 0, 0, []) else am_nop)) else (bif Nat.ble 47 pc then (bif Nat.beq pc 47 then (.aload_n 0, 0, 0, []) else am_nop) else (bif Nat.beq pc 46 then (.istore_n 3, 0, 3, []) else am_nop)))) else (bif Nat.ble 39 pc then (bif Nat.ble 43 pc then (bif Nat.ble 44 pc then (bif Nat.ble 45 pc then (bif Nat.beq pc 45 then (.iaload, 0, 0, []) else am_nop) else (bif Nat.beq pc 44 then (.iadd, 0, 0, []) else am_nop)) else (bif Nat.beq pc 43 then (.iload_n 1, 0, 1, []) else am_nop)) else (bif Nat.ble 42 pc then (bif Nat.beq pc 42 then (.iconst 0, 0, 0, []) else am_nop) else (bif Nat.beq pc 39 then (.getfield 7, 0, 0, []) else am_nop))) else (bif Nat.ble 35 pc then (bif Nat.ble 38 pc then (bif Nat.beq pc 38 then (.aload_n 0, 0, 0, []) else am_nop) else (bif Nat.beq pc 35 then (.invokevirtual 137, 0, 0, []) else am_nop)) else (bif Nat.ble 34 pc then (bif Nat.beq pc 34 then (.aload_n 0, 0, 0, []) else am_nop) else (bif Nat.beq pc 33 then (.ireturn, 0, 0, []) else am_nop))))) else (bif Nat.ble 17 pc then (bif Nat.ble 22 pc then (bif Nat.ble 28 pc then (bif Nat.ble 29 pc then (bif Nat.ble 30 pc then (bif Nat.beq pc 30 then (.invokevirtual 134, 0, 0, []) else am_nop) else (bif Nat.beq pc 29 then (.iconst 2, 2, 0, []) else am_nop)) else (bif Nat.beq pc 28 then (.aload_n 0, 0, 0, []) else am_nop)) else (bif Nat.ble 25 pc then (bif Nat.beq pc 25 then (.ifCond .ne 9, 0, 34, []) else am_nop) else (bif Nat.beq pc 22 then (.invokestatic 127, 0, 0, []) else am_nop))) else (bif Nat.ble 19 pc then (bif Nat.ble 20 pc then (bif Nat.beq pc 20 then (.bipush 60, 60, 0, []) else am_nop) else (bif Nat.beq pc 19 then (.iconst 0, 0, 0, []) else am_nop)) else (bif Nat.ble 18 pc then (bif Nat.beq pc 18 then (.iload_n 2, 0, 2, []) else am_nop) else (bif Nat.beq pc 17 then (.ireturn, 0, 0, []) else am_nop)))) else (bif Nat.ble 6 pc then (bif Nat.ble 12 pc then (bif Nat.ble 13 pc then (bif Nat.ble 14 pc then (bif Nat.beq pc 14 then (.invokevirtual 134, 0, 0, []) else am_nop) else (bif Nat.beq pc 13 then (.iconst 1, 1, 0, []) else am_nop)) else (bif Nat.beq pc 12 then (.aload_n 0, 0, 0, []) else am_nop)) else (bif Nat.ble 9 pc then (bif Nat.beq pc 9 then (.ifCond .ne 9, 0, 18, []) else am_nop) else (bif Nat.beq pc 6 then (.invokestatic 131, 0, 0, []) else am_nop))) else (bif Nat.ble 2 pc then (bif Nat.ble 5 pc then (bif Nat.beq pc 5 then (.iload_n 1, 0, 1, []) else am_nop) else (bif Nat.beq pc 2 then (.putfield 38, 0, 0, []) else am_nop)) else (bif Nat.ble 1 pc then (bif Nat.beq pc 1 then (.iconst 0, 0, 0, []) else am_nop) else (bif Nat.beq pc 0 then (.aload_n 0, 0, 0, []) else am_nop)))))
theorem lk_M_131 : am_lnk RX6 131 (d_M_isTerminal 0) := ⟨⟨by decide, by decide⟩, am_tb 8 (by decide +kernel) rfl, Or.inl ⟨by decide, rfl, am_tb 943 (by decide +kernel) rfl, Or.inl ⟨by decide, am_tb 942 (by decide +kernel) rfl⟩⟩⟩
theorem lk_M_134 : am_lnk RX6 134 (d_M_refuses 16) := ⟨⟨by decide, by decide⟩, am_tb 8 (by decide +kernel) rfl, Or.inr ⟨by decide, rfl, am_tb 950 (by decide +kernel) rfl, am_tp 69 (by decide +kernel) rfl, ⟨TX6, 16, rfl⟩, Or.inl (am_tb 948 (by decide +kernel) rfl)⟩⟩
theorem lk_M_137 : am_lnk RX6 137 (d_M_saves 16) := ⟨⟨by decide, by decide⟩, am_tb 8 (by decide +kernel) rfl, Or.inr ⟨by decide, rfl, am_tb 954 (by decide +kernel) rfl, am_tp 70 (by decide +kernel) rfl, ⟨TX6, 16, rfl⟩, Or.inl (am_tb 952 (by decide +kernel) rfl)⟩⟩
def m_M_layover : MI := (k_M_layover, [(7, 6, 0), (38, 6, 8)], [(127, d_M_in 0), (131, d_M_isTerminal 0), (134, d_M_refuses 16), (137, d_M_saves 16)], [], [], [], [], 2, 45, some .int, fun _ => 0, 1)
def v_M_layover (h : HP) (a1 : Int32) (a2 : Int32) : Int32 × HP := (if (v_M_isTerminal (am_si h 0 8 0) a1) = 0 then (bnd (v_M_refuses (am_si h 0 8 0) 1) fun y3 => (y3.1, y3.2)) else (if (v_M_in (am_si h 0 8 0) a2 0 60) = 0 then (bnd (v_M_refuses (am_si h 0 8 0) 2) fun y2 => (y2.1, y2.2)) else (bnd (v_M_saves (am_si h 0 8 0)) fun y1 => (y1.1 1 (am_ix (0 + a1)), (am_si y1 1 (am_ix (0 + a1)) a2)))))
def p_M_layover (h : HP) (a1 : Int32) (a2 : Int32) : Prop := ((p_M_isTerminal (am_si h 0 8 0) a1) ∧ (((v_M_isTerminal (am_si h 0 8 0) a1) = 0 → True) ∧ (¬ (v_M_isTerminal (am_si h 0 8 0) a1) = 0 → (((v_M_in (am_si h 0 8 0) a2 0 60) = 0 → True) ∧ (¬ (v_M_in (am_si h 0 8 0) a2 0 60) = 0 → ((p_M_saves (am_si h 0 8 0)) ∧ (∀ y1, v_M_saves (am_si h 0 8 0) = y1 → ((am_in (0 + a1) 163) ∧ (am_in (0 + a1) 163)))))))))
def g_M_layover (_ _ : List Sh) (as : List Value) (h : HP) : GR := match as with
  | [.ref o1, .int a1, .int a2] => (Nat.beq o1 0, p_M_layover h a1 a2, none, some (.int (v_M_layover h a1 a2).1), (v_M_layover h a1 a2).2)
  | _ => bad h
def d_M_layover (k : Nat) : CD := (k, yX6_layover, cX6_layover, 4, some .int, 3, 2, 45, 0, false, true, g_M_layover)
theorem chk_M_layover : ∀ pc, am_chk cX6_layover k_M_layover pc = true := am_chkall 58 (by decide +kernel) (fun pc h => by unfold k_M_layover; rw [Nat.ble_eq_true_of_le h]; rfl)
theorem pf_M_layover : plainFor yX6_layover = true := by decide +kernel
theorem cu_M_layover : Cond.code yX6_layover cX6_layover 4 (some .int) ∈ am_U := am_tb 941 (by decide +kernel) rfl
set_option maxHeartbeats 20000000 in
set_option maxRecDepth 100000 in
theorem ev_M_layover {e1 ro : List Sh} {P : AR → HP → Prop} (h : HP) (a1 : Int32) (a2 : Int32) (hp : p_M_layover h a1 a2) (hP : ∀ q, v_M_layover h a1 a2 = q → RIW P h q) : am_Ev m_M_layover (WM ++ e1) ro P (0, [.ref 0, .int a1, .int a2, .retAddr 0], [], h) := by
  unfold p_M_layover at hp
  refine am_Ev_G [5] 400 _ ?_
  show am_Ev m_M_layover (WM ++ e1) ro P (5, [.ref 0, .int a1, .int a2, .retAddr 0], [], (am_si h 0 8 0))
  refine am_Ev_G [17, 33, 38] 400 _ ?_
  show ((p_M_isTerminal (am_si h 0 8 0) a1) ∧ ((¬ (v_M_isTerminal (am_si h 0 8 0) a1) = 0 → ((¬ (v_M_in (am_si h 0 8 0) a2 0 60) = 0 → ((g_pre (g_M_saves (WM ++ e1) ro [.ref 0] (am_si h 0 8 0))) ∧ am_Ev m_M_layover (WM ++ e1) ro P (38, [.ref 0, .int a1, .int a2, .retAddr 0], [], (g_hp (g_M_saves (WM ++ e1) ro [.ref 0] (am_si h 0 8 0)))))) ∧ ((v_M_in (am_si h 0 8 0) a2 0 60) = 0 → am_Ev m_M_layover (WM ++ e1) ro P (33, [.ref 0, .int a1, .int a2, .retAddr 0], [.int ((v_M_refuses (am_si h 0 8 0) 2).1)], ((v_M_refuses (am_si h 0 8 0) 2).2))))) ∧ ((v_M_isTerminal (am_si h 0 8 0) a1) = 0 → am_Ev m_M_layover (WM ++ e1) ro P (17, [.ref 0, .int a1, .int a2, .retAddr 0], [.int ((v_M_refuses (am_si h 0 8 0) 1).1)], ((v_M_refuses (am_si h 0 8 0) 1).2)))))
  show ((p_M_isTerminal (am_si h 0 8 0) a1) ∧ ((¬ (v_M_isTerminal (am_si h 0 8 0) a1) = 0 → ((¬ (v_M_in (am_si h 0 8 0) a2 0 60) = 0 → ((p_M_saves (am_si h 0 8 0)) ∧ am_Ev m_M_layover (WM ++ e1) ro P (38, [.ref 0, .int a1, .int a2, .retAddr 0], [], (v_M_saves (am_si h 0 8 0))))) ∧ ((v_M_in (am_si h 0 8 0) a2 0 60) = 0 → am_Ev m_M_layover (WM ++ e1) ro P (33, [.ref 0, .int a1, .int a2, .retAddr 0], [.int ((v_M_refuses (am_si h 0 8 0) 2).1)], ((v_M_refuses (am_si h 0 8 0) 2).2))))) ∧ ((v_M_isTerminal (am_si h 0 8 0) a1) = 0 → am_Ev m_M_layover (WM ++ e1) ro P (17, [.ref 0, .int a1, .int a2, .retAddr 0], [.int ((v_M_refuses (am_si h 0 8 0) 1).1)], ((v_M_refuses (am_si h 0 8 0) 1).2)))))
  obtain ⟨hob, hp⟩ := hp
  refine ⟨hob, ?_⟩
  refine ⟨fun c1 => ?_, fun c1 => ?_⟩
  · have hp := hp.2 c1
    refine ⟨fun c2 => ?_, fun c2 => ?_⟩
    · have hp := hp.2 c2
      obtain ⟨hob, hp⟩ := hp
      refine ⟨hob, ?_⟩
      obtain ⟨y1, c3⟩ : ∃ y, v_M_saves (am_si h 0 8 0) = y := ⟨_, rfl⟩
      rw [c3]
      have hp := hp _ c3
      show am_Ev m_M_layover (WM ++ e1) ro P (38, [.ref 0, .int a1, .int a2, .retAddr 0], [], y1)
      refine am_Ev_G [55] 400 _ ?_
      show ((am_in (0 + a1) 163) ∧ am_Ev m_M_layover (WM ++ e1) ro P (55, [.ref 0, .int a1, .int a2, .int (y1.1 1 (am_ix (0 + a1)))], [.int a2, .int (0 + a1), .ref 1], y1))
      obtain ⟨hob, hp⟩ := hp
      refine ⟨hob, ?_⟩
      refine am_Ev_G [56] 400 _ ?_
      show ((am_in (0 + a1) 163) ∧ am_Ev m_M_layover (WM ++ e1) ro P (56, [.ref 0, .int a1, .int a2, .int (y1.1 1 (am_ix (0 + a1)))], [], (am_si y1 1 (am_ix (0 + a1)) a2)))
      refine ⟨hp, ?_⟩
      refine am_Ev_G [] 400 _ ?_
      show P (.inl (some (.int (y1.1 1 (am_ix (0 + a1)))))) (am_si y1 1 (am_ix (0 + a1)) a2)
      exact hP (y1.1 1 (am_ix (0 + a1)), (am_si y1 1 (am_ix (0 + a1)) a2)) (by unfold v_M_layover; simp only [if_neg c1, if_neg c2, bnd, c3])
    · skip
      obtain ⟨y2, c4⟩ : ∃ y, v_M_refuses (am_si h 0 8 0) 2 = y := ⟨_, rfl⟩
      rw [c4]
      show am_Ev m_M_layover (WM ++ e1) ro P (33, [.ref 0, .int a1, .int a2, .retAddr 0], [.int y2.1], y2.2)
      refine am_Ev_G [] 400 _ ?_
      show P (.inl (some (.int y2.1))) y2.2
      exact hP (y2.1, y2.2) (by unfold v_M_layover; simp only [if_neg c1, if_pos c2, bnd, c4])
  · skip
    obtain ⟨y3, c5⟩ : ∃ y, v_M_refuses (am_si h 0 8 0) 1 = y := ⟨_, rfl⟩
    rw [c5]
    show am_Ev m_M_layover (WM ++ e1) ro P (17, [.ref 0, .int a1, .int a2, .retAddr 0], [.int y3.1], y3.2)
    refine am_Ev_G [] 400 _ ?_
    show P (.inl (some (.int y3.1))) y3.2
    exact hP (y3.1, y3.2) (by unfold v_M_layover; simp only [if_pos c1, bnd, c5])
theorem ok_M_layover {l : Launch} (hl : l.stackTraces = false) (e1 ro : List Sh) (k : Nat) : am_Ok l (WM ++ e1) ro (d_M_layover k) := by
  refine am_met hl (own := RX6) (M := m_M_layover) rfl pf_M_layover cu_M_layover rfl rfl rfl rfl (fun _ => rfl) rfl ⟨chk_M_layover, (am_c (fl_M_7) (am_c (fl_M_38) am_n)), (am_c (lk_M_127) (am_c (lk_M_131) (am_c (lk_M_134) (am_c (lk_M_137) am_n)))), (am_n), (am_n)⟩ (am_n) (am_c (ok_M_in hl e1 _ 0) (am_c (ok_M_isTerminal hl e1 _ 0) (am_c (ok_M_refuses hl e1 _ 16) (am_c (ok_M_saves hl e1 _ 16) am_n)))) (fun z => nomatch z) ?_ ?_
  · intro _ as h hg
    show g_thr (g_M_layover (WM ++ e1) ro as h) = none
    unfold g_M_layover
    split <;> rfl
  · intro as h hg hp
    revert hg hp
    show g_ok (g_M_layover (WM ++ e1) ro as h) = true → g_pre (g_M_layover (WM ++ e1) ro as h) → _ ∧ am_Ev m_M_layover (WM ++ e1) ro (am_eq (g_M_layover (WM ++ e1) ro as h)) (0, am_ent as 4, [], h)
    unfold g_M_layover
    split
    · rename_i o1 a1 a2
      intro hc hp
      change (Nat.beq o1 0) = true at hc
      obtain rfl := am_beq hc
      exact ⟨Nat.le_of_ble_eq_true rfl, ev_M_layover h a1 a2 hp eqRIW⟩
    · exact fun z => nomatch z
def k_M_relief (pc : Nat) : Ent := bif Nat.ble 49 pc then am_nop else bif Nat.ble 28 pc then (bif Nat.ble 38 pc then (bif Nat.ble 44 pc then (bif Nat.ble 46 pc then (bif Nat.ble 47 pc then (bif Nat.ble 48 pc then (bif Nat.beq pc 48 then (.ireturn, 0, 0, []) else am_nop) else (bif Nat.beq pc 47 then (.iaload, 0, 0, []) else am_nop)) else (bif Nat.beq pc 46 then (.iadd, 0, 0, []) else am_nop)) else (bif Nat.ble 45 pc then (bif Nat.beq pc 45 then (.iload_n 1, 0, 1, []) else am_nop) else (bif Nat.beq pc 44 then (.iconst 4, 4, 0, []) else am_nop))) else (bif Nat.ble 40 pc then (bif Nat.ble 41 pc then (bif Nat.beq pc 41 then (.getfield 7, 0, 0, []) else am_nop) else (bif Nat.beq pc 40 then (.aload_n 0, 0, 0, []) else am_nop)) else (bif Nat.ble 39 pc then (bif Nat.beq pc 39 then (.iastore, 0, 0, []) else am_nop) else (bif Nat.beq pc 38 then (.isub, 0, 0, []) else am_nop)))) else (bif Nat.ble 34 pc then (bif Nat.ble 36 pc then (bif Nat.ble 37 pc then (bif Nat.beq pc 37 then (.iaload, 0, 0, []) else am_nop) else (bif Nat.beq pc 36 then (.iadd, 0, 0, []) else am_nop)) else (bif Nat.ble 35 pc then (bif Nat.beq pc 35 then (.iload_n 1, 0, 1, []) else am_nop) else (bif Nat.beq pc 34 then (.iconst 4, 4, 0, []) else am_nop))) else (bif Nat.ble 30 pc then (bif Nat.ble 31 pc then (bif Nat.beq pc 31 then (.getfield 7, 0, 0, []) else am_nop) else (bif Nat.beq pc 30 then (.aload_n 0, 0, 0, []) else am_nop)) else (bif Nat.ble 29 pc then (bif Nat.beq pc 29 then (.iconst 1, 1, 0, []) else am_nop) else (bif Nat.beq pc 28 then (.iadd, 0, 0, []) else am_nop))))) else (bif Nat.ble 14 pc then (bif Nat.ble 22 pc then (bif Nat.ble 26 pc then (bif Nat.ble 27 pc then (bif Nat.beq pc 27 then (.iload_n 1, 0, 1, []) else am_nop) else (bif Nat.beq pc 26 then (.iconst 4, 4, 0, []) else am_nop)) else (bif Nat.ble 23 pc then (bif Nat.beq pc 23 then (.getfield 7, 0, 0, []) else am_nop) else (bif Nat.beq pc 22 then (.aload_n 0, 0, 0, []) else am_nop))) else (bif Nat.ble 18 pc then (bif Nat.ble 19 pc then (bif Nat.beq pc 19 then (.invokevirtual 137, 0, 0, []) else am_nop) else (bif Nat.beq pc 18 then (.aload_n 0, 0, 0, []) else am_nop)) else (bif Nat.ble 17 pc then (bif Nat.beq pc 17 then (.ireturn, 0, 0, []) else am_nop) else (bif Nat.beq pc 14 then (.invokevirtual 134, 0, 0, []) else am_nop)))) else (bif Nat.ble 6 pc then (bif Nat.ble 12 pc then (bif Nat.ble 13 pc then (bif Nat.beq pc 13 then (.iconst 1, 1, 0, []) else am_nop) else (bif Nat.beq pc 12 then (.aload_n 0, 0, 0, []) else am_nop)) else (bif Nat.ble 9 pc then (bif Nat.beq pc 9 then (.ifCond .ne 9, 0, 18, []) else am_nop) else (bif Nat.beq pc 6 then (.invokestatic 131, 0, 0, []) else am_nop))) else (bif Nat.ble 2 pc then (bif Nat.ble 5 pc then (bif Nat.beq pc 5 then (.iload_n 1, 0, 1, []) else am_nop) else (bif Nat.beq pc 2 then (.putfield 38, 0, 0, []) else am_nop)) else (bif Nat.ble 1 pc then (bif Nat.beq pc 1 then (.iconst 0, 0, 0, []) else am_nop) else (bif Nat.beq pc 0 then (.aload_n 0, 0, 0, []) else am_nop)))))
def m_M_relief : MI := (k_M_relief, [(7, 6, 0), (38, 6, 8)], [(131, d_M_isTerminal 0), (134, d_M_refuses 16), (137, d_M_saves 16)], [], [], [], [], 2, 45, some .int, fun _ => 0, 1)
def v_M_relief (h : HP) (a1 : Int32) : Int32 × HP := (if (v_M_isTerminal (am_si h 0 8 0) a1) = 0 then (bnd (v_M_refuses (am_si h 0 8 0) 1) fun y2 => (y2.1, y2.2)) else (bnd (v_M_saves (am_si h 0 8 0)) fun y1 => ((am_si y1 1 (am_ix (4 + a1)) (1 - (y1.1 1 (am_ix (4 + a1))))).1 1 (am_ix (4 + a1)), (am_si y1 1 (am_ix (4 + a1)) (1 - (y1.1 1 (am_ix (4 + a1))))))))
def p_M_relief (h : HP) (a1 : Int32) : Prop := ((p_M_isTerminal (am_si h 0 8 0) a1) ∧ (((v_M_isTerminal (am_si h 0 8 0) a1) = 0 → True) ∧ (¬ (v_M_isTerminal (am_si h 0 8 0) a1) = 0 → ((p_M_saves (am_si h 0 8 0)) ∧ (∀ y1, v_M_saves (am_si h 0 8 0) = y1 → ((am_in (4 + a1) 163) ∧ ((am_in (4 + a1) 163) ∧ (am_in (4 + a1) 163))))))))
def g_M_relief (_ _ : List Sh) (as : List Value) (h : HP) : GR := match as with
  | [.ref o1, .int a1] => (Nat.beq o1 0, p_M_relief h a1, none, some (.int (v_M_relief h a1).1), (v_M_relief h a1).2)
  | _ => bad h
def d_M_relief (k : Nat) : CD := (k, yX6_relief, cX6_relief, 2, some .int, 2, 2, 45, 0, false, true, g_M_relief)
theorem chk_M_relief : ∀ pc, am_chk cX6_relief k_M_relief pc = true := am_chkall 49 (by decide +kernel) (fun pc h => by unfold k_M_relief; rw [Nat.ble_eq_true_of_le h]; rfl)
theorem pf_M_relief : plainFor yX6_relief = true := by decide +kernel
theorem cu_M_relief : Cond.code yX6_relief cX6_relief 2 (some .int) ∈ am_U := am_tb 962 (by decide +kernel) rfl
set_option maxHeartbeats 20000000 in
set_option maxRecDepth 100000 in
theorem ev_M_relief {e1 ro : List Sh} {P : AR → HP → Prop} (h : HP) (a1 : Int32) (hp : p_M_relief h a1) (hP : ∀ q, v_M_relief h a1 = q → RIW P h q) : am_Ev m_M_relief (WM ++ e1) ro P (0, [.ref 0, .int a1], [], h) := by
  unfold p_M_relief at hp
  refine am_Ev_G [5] 400 _ ?_
  show am_Ev m_M_relief (WM ++ e1) ro P (5, [.ref 0, .int a1], [], (am_si h 0 8 0))
  refine am_Ev_G [17, 22] 400 _ ?_
  show ((p_M_isTerminal (am_si h 0 8 0) a1) ∧ ((¬ (v_M_isTerminal (am_si h 0 8 0) a1) = 0 → ((g_pre (g_M_saves (WM ++ e1) ro [.ref 0] (am_si h 0 8 0))) ∧ am_Ev m_M_relief (WM ++ e1) ro P (22, [.ref 0, .int a1], [], (g_hp (g_M_saves (WM ++ e1) ro [.ref 0] (am_si h 0 8 0)))))) ∧ ((v_M_isTerminal (am_si h 0 8 0) a1) = 0 → am_Ev m_M_relief (WM ++ e1) ro P (17, [.ref 0, .int a1], [.int ((v_M_refuses (am_si h 0 8 0) 1).1)], ((v_M_refuses (am_si h 0 8 0) 1).2)))))
  show ((p_M_isTerminal (am_si h 0 8 0) a1) ∧ ((¬ (v_M_isTerminal (am_si h 0 8 0) a1) = 0 → ((p_M_saves (am_si h 0 8 0)) ∧ am_Ev m_M_relief (WM ++ e1) ro P (22, [.ref 0, .int a1], [], (v_M_saves (am_si h 0 8 0))))) ∧ ((v_M_isTerminal (am_si h 0 8 0) a1) = 0 → am_Ev m_M_relief (WM ++ e1) ro P (17, [.ref 0, .int a1], [.int ((v_M_refuses (am_si h 0 8 0) 1).1)], ((v_M_refuses (am_si h 0 8 0) 1).2)))))
  obtain ⟨hob, hp⟩ := hp
  refine ⟨hob, ?_⟩
  refine ⟨fun c1 => ?_, fun c1 => ?_⟩
  · have hp := hp.2 c1
    obtain ⟨hob, hp⟩ := hp
    refine ⟨hob, ?_⟩
    obtain ⟨y1, c2⟩ : ∃ y, v_M_saves (am_si h 0 8 0) = y := ⟨_, rfl⟩
    rw [c2]
    have hp := hp _ c2
    show am_Ev m_M_relief (WM ++ e1) ro P (22, [.ref 0, .int a1], [], y1)
    refine am_Ev_G [39] 400 _ ?_
    show ((am_in (4 + a1) 163) ∧ am_Ev m_M_relief (WM ++ e1) ro P (39, [.ref 0, .int a1], [.int (1 - (y1.1 1 (am_ix (4 + a1)))), .int (4 + a1), .ref 1], y1))
    obtain ⟨hob, hp⟩ := hp
    refine ⟨hob, ?_⟩
    refine am_Ev_G [40] 400 _ ?_
    show ((am_in (4 + a1) 163) ∧ am_Ev m_M_relief (WM ++ e1) ro P (40, [.ref 0, .int a1], [], (am_si y1 1 (am_ix (4 + a1)) (1 - (y1.1 1 (am_ix (4 + a1)))))))
    obtain ⟨hob, hp⟩ := hp
    refine ⟨hob, ?_⟩
    refine am_Ev_G [] 400 _ ?_
    show ((am_in (4 + a1) 163) ∧ P (.inl (some (.int ((am_si y1 1 (am_ix (4 + a1)) (1 - (y1.1 1 (am_ix (4 + a1))))).1 1 (am_ix (4 + a1)))))) (am_si y1 1 (am_ix (4 + a1)) (1 - (y1.1 1 (am_ix (4 + a1))))))
    refine ⟨hp, ?_⟩
    exact hP ((am_si y1 1 (am_ix (4 + a1)) (1 - (y1.1 1 (am_ix (4 + a1))))).1 1 (am_ix (4 + a1)), (am_si y1 1 (am_ix (4 + a1)) (1 - (y1.1 1 (am_ix (4 + a1)))))) (by unfold v_M_relief; simp only [if_neg c1, bnd, c2])
  · skip
    obtain ⟨y2, c3⟩ : ∃ y, v_M_refuses (am_si h 0 8 0) 1 = y := ⟨_, rfl⟩
    rw [c3]
    show am_Ev m_M_relief (WM ++ e1) ro P (17, [.ref 0, .int a1], [.int y2.1], y2.2)
    refine am_Ev_G [] 400 _ ?_
    show P (.inl (some (.int y2.1))) y2.2
    exact hP (y2.1, y2.2) (by unfold v_M_relief; simp only [if_pos c1, bnd, c3])
theorem ok_M_relief {l : Launch} (hl : l.stackTraces = false) (e1 ro : List Sh) (k : Nat) : am_Ok l (WM ++ e1) ro (d_M_relief k) := by
  refine am_met hl (own := RX6) (M := m_M_relief) rfl pf_M_relief cu_M_relief rfl rfl rfl rfl (fun _ => rfl) rfl ⟨chk_M_relief, (am_c (fl_M_7) (am_c (fl_M_38) am_n)), (am_c (lk_M_131) (am_c (lk_M_134) (am_c (lk_M_137) am_n))), (am_n), (am_n)⟩ (am_n) (am_c (ok_M_isTerminal hl e1 _ 0) (am_c (ok_M_refuses hl e1 _ 16) (am_c (ok_M_saves hl e1 _ 16) am_n))) (fun z => nomatch z) ?_ ?_
  · intro _ as h hg
    show g_thr (g_M_relief (WM ++ e1) ro as h) = none
    unfold g_M_relief
    split <;> rfl
  · intro as h hg hp
    revert hg hp
    show g_ok (g_M_relief (WM ++ e1) ro as h) = true → g_pre (g_M_relief (WM ++ e1) ro as h) → _ ∧ am_Ev m_M_relief (WM ++ e1) ro (am_eq (g_M_relief (WM ++ e1) ro as h)) (0, am_ent as 2, [], h)
    unfold g_M_relief
    split
    · rename_i o1 a1
      intro hc hp
      change (Nat.beq o1 0) = true at hc
      obtain rfl := am_beq hc
      exact ⟨Nat.le_of_ble_eq_true rfl, ev_M_relief h a1 hp eqRIW⟩
    · exact fun z => nomatch z
end
