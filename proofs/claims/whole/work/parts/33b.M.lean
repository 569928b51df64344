/-! BusBlocksModel, out of its code (written by gen/meth.py). -/
noncomputable section
def k_M_tripsFrom (pc : Nat) : Ent := bif Nat.ble 23 pc then am_nop else bif Nat.ble 9 pc then (bif Nat.ble 17 pc then (bif Nat.ble 21 pc then (bif Nat.ble 22 pc then (bif Nat.beq pc 22 then (.ireturn, 0, 0, []) else am_nop) else (bif Nat.beq pc 21 then (.iload_n 2, 0, 2, []) else am_nop)) else (bif Nat.ble 18 pc then (bif Nat.beq pc 18 then (.goto (-14), 0, 4, []) else am_nop) else (bif Nat.beq pc 17 then (.istore_n 3, 0, 3, []) else am_nop))) else (bif Nat.ble 13 pc then (bif Nat.ble 14 pc then (bif Nat.beq pc 14 then (.invokevirtual 57, 0, 0, []) else am_nop) else (bif Nat.beq pc 13 then (.iload_n 3, 0, 3, []) else am_nop)) else (bif Nat.ble 12 pc then (bif Nat.beq pc 12 then (.aload_n 0, 0, 0, []) else am_nop) else (bif Nat.beq pc 9 then (.iinc 2 1, 1, 2, []) else am_nop)))) else (bif Nat.ble 3 pc then (bif Nat.ble 5 pc then (bif Nat.ble 6 pc then (bif Nat.beq pc 6 then (.if_icmp .eq 15, 0, 21, []) else am_nop) else (bif Nat.beq pc 5 then (.iconst (-1), (-1 : Int32), 0, []) else am_nop)) else (bif Nat.ble 4 pc then (bif Nat.beq pc 4 then (.iload_n 3, 0, 3, []) else am_nop) else (bif Nat.beq pc 3 then (.istore_n 3, 0, 3, []) else am_nop))) else (bif Nat.ble 1 pc then (bif Nat.ble 2 pc then (bif Nat.beq pc 2 then (.iload_n 1, 0, 1, []) else am_nop) else (bif Nat.beq pc 1 then (.istore_n 2, 0, 2, []) else am_nop)) else (bif Nat.beq pc 0 then (.iconst 0, 0, 0, []) else am_nop)))
def m_M_tripsFrom : MI := (k_M_tripsFrom, [], [(57, d_M_next 16)], [], [], [], [], 2, 43, some .int, fun _ => 0, 1)
def s_M_tripsFrom_4 (h : HP) (a1 : Int32) (v1 : Int32 × Int32) : (Int32 × Int32) ⊕ (Int32 × Int32) := (if v1.2 = (-1 : Int32) then (.inr (v1.1, v1.2)) else (.inl ((v1.1 + 1), (v_M_next h v1.2))))
def ps_M_tripsFrom_4 (h : HP) (a1 : Int32) (v1 : Int32 × Int32) : Prop := ((v1.2 = (-1 : Int32) → True) ∧ (¬ v1.2 = (-1 : Int32) → (p_M_next h v1.2)))
def v_M_tripsFrom (h : HP) (a1 : Int32) : Int32 := (match itr (s_M_tripsFrom_4 h a1) NF (0, a1) with | some r1 => r1.1 | none => 0)
def p_M_tripsFrom (h : HP) (a1 : Int32) : Prop := (itrp (s_M_tripsFrom_4 h a1) (ps_M_tripsFrom_4 h a1) NF (0, a1))
def g_M_tripsFrom (_ _ : List Sh) (as : List Value) (h : HP) : GR := match as with
  | [.ref o1, .int a1] => (Nat.beq o1 0, p_M_tripsFrom h a1, none, some (.int (v_M_tripsFrom h a1)), h)
  | _ => bad h
def d_M_tripsFrom (k : Nat) : CD := (k, yX6_tripsFrom, cX6_tripsFrom, 4, some .int, 2, 2, 43, 0, false, true, g_M_tripsFrom)
theorem chk_M_tripsFrom : ∀ pc, am_chk cX6_tripsFrom k_M_tripsFrom pc = true := am_chkall 23 (by decide +kernel) (fun pc h => by unfold k_M_tripsFrom; rw [Nat.ble_eq_true_of_le h]; rfl)
theorem pf_M_tripsFrom : plainFor yX6_tripsFrom = true := by decide +kernel
theorem cu_M_tripsFrom : Cond.code yX6_tripsFrom cX6_tripsFrom 4 (some .int) ∈ am_U := am_tb 1184 (by decide +kernel) rfl
set_option maxHeartbeats 20000000 in
set_option maxRecDepth 100000 in
theorem ev_M_tripsFrom {e1 ro : List Sh} {P : AR → HP → Prop} (h : HP) (a1 : Int32) (hp : p_M_tripsFrom h a1) (hP : ∀ q, v_M_tripsFrom h a1 = q → RI P h q) : am_Ev m_M_tripsFrom (WM ++ e1) ro P (0, [.ref 0, .int a1, .retAddr 0, .retAddr 0], [], h) := by
  unfold p_M_tripsFrom at hp
  refine am_Ev_G [4] 400 _ ?_
  show am_Ev m_M_tripsFrom (WM ++ e1) ro P (4, [.ref 0, .int a1, .int 0, .int a1], [], h)
  refine am_fg 1 ?_
  have hpl := hp
  refine am_itr (E := (fun (v1 : Int32 × Int32) => am_Ev m_M_tripsFrom (WM ++ e1) ro P (4, [.ref 0, .retAddr 0, .int v1.1, .int v1.2], [], h))) (E' := (fun (r1 : Int32 × Int32) => am_Ev m_M_tripsFrom (WM ++ e1) ro P (21, [.ref 0, .retAddr 0, .int r1.1, .int r1.2], [], h))) (s_M_tripsFrom_4 h a1) (ps_M_tripsFrom_4 h a1) ?_ NF (0, a1) hpl ?_
  · intro v1 hp hc1 hx1
    show am_Ev m_M_tripsFrom (WM ++ e1) ro P (4, [.ref 0, .retAddr 0, .int v1.1, .int v1.2], [], h)
    unfold ps_M_tripsFrom_4 at hp
    refine am_Ev_G [17, 21] 400 _ ?_
    show ((v1.2 = (-1 : Int32) → am_Ev m_M_tripsFrom (WM ++ e1) ro P (21, [.ref 0, .retAddr 0, .int v1.1, .int v1.2], [], h)) ∧ (¬ v1.2 = (-1 : Int32) → ((p_M_next h v1.2) ∧ am_Ev m_M_tripsFrom (WM ++ e1) ro P (17, [.ref 0, .retAddr 0, .int (v1.1 + 1), .int v1.2], [.int (v_M_next h v1.2)], h))))
    refine ⟨fun c1 => ?_, fun c1 => ?_⟩
    · skip
      exact hx1 (v1.1, v1.2) (by unfold s_M_tripsFrom_4; simp only [if_pos c1])
    · have hp := hp.2 c1
      refine ⟨hp, ?_⟩
      refine am_Ev_G [4] 400 _ ?_
      show am_Ev m_M_tripsFrom (WM ++ e1) ro P (4, [.ref 0, .retAddr 0, .int (v1.1 + 1), .int (v_M_next h v1.2)], [], h)
      exact hc1 ((v1.1 + 1), (v_M_next h v1.2)) (by unfold s_M_tripsFrom_4; simp only [if_neg c1])
  · intro r1 hr2
    show am_Ev m_M_tripsFrom (WM ++ e1) ro P (21, [.ref 0, .retAddr 0, .int r1.1, .int r1.2], [], h)
    refine am_Ev_G [] 400 _ ?_
    show P (.inl (some (.int r1.1))) h
    exact hP r1.1 (by unfold v_M_tripsFrom; simp only [hr2])
theorem ok_M_tripsFrom {l : Launch} (hl : l.stackTraces = false) (e1 ro : List Sh) (k : Nat) : am_Ok l (WM ++ e1) ro (d_M_tripsFrom k) := by
  refine am_met hl (own := RX6) (M := m_M_tripsFrom) rfl pf_M_tripsFrom cu_M_tripsFrom rfl rfl rfl rfl (fun _ => rfl) rfl ⟨chk_M_tripsFrom, (am_n), (am_c (lk_M_57) am_n), (am_n), (am_n)⟩ (am_n) (am_c (ok_M_next hl e1 _ 16) am_n) (fun z => nomatch z) ?_ ?_
  · intro _ as h hg
    show g_thr (g_M_tripsFrom (WM ++ e1) ro as h) = none
    unfold g_M_tripsFrom
    split <;> rfl
  · intro as h hg hp
    revert hg hp
    show g_ok (g_M_tripsFrom (WM ++ e1) ro as h) = true → g_pre (g_M_tripsFrom (WM ++ e1) ro as h) → _ ∧ am_Ev m_M_tripsFrom (WM ++ e1) ro (am_eq (g_M_tripsFrom (WM ++ e1) ro as h)) (0, am_ent as 4, [], h)
    unfold g_M_tripsFrom
    split
    · rename_i o1 a1
      intro hc hp
      change (Nat.beq o1 0) = true at hc
      obtain rfl := am_beq hc
      exact ⟨Nat.le_of_ble_eq_true rfl, ev_M_tripsFrom h a1 hp eqRI⟩
    · exact fun z => nomatch z
def k_M_span (pc : Nat) : Ent := bif Nat.ble 17 pc then am_nop else bif Nat.ble 9 pc then (bif Nat.ble 12 pc then (bif Nat.ble 15 pc then (bif Nat.ble 16 pc then (bif Nat.beq pc 16 then (.ireturn, 0, 0, []) else am_nop) else (bif Nat.beq pc 15 then (.isub, 0, 0, []) else am_nop)) else (bif Nat.beq pc 12 then (.invokevirtual 49, 0, 0, []) else am_nop)) else (bif Nat.ble 10 pc then (bif Nat.ble 11 pc then (bif Nat.beq pc 11 then (.iconst 3, 3, 0, []) else am_nop) else (bif Nat.beq pc 10 then (.iload_n 1, 0, 1, []) else am_nop)) else (bif Nat.beq pc 9 then (.aload_n 0, 0, 0, []) else am_nop))) else (bif Nat.ble 2 pc then (bif Nat.ble 3 pc then (bif Nat.ble 6 pc then (bif Nat.beq pc 6 then (.invokevirtual 53, 0, 0, []) else am_nop) else (bif Nat.beq pc 3 then (.invokevirtual 117, 0, 0, []) else am_nop)) else (bif Nat.beq pc 2 then (.iload_n 1, 0, 1, []) else am_nop)) else (bif Nat.ble 1 pc then (bif Nat.beq pc 1 then (.aload_n 0, 0, 0, []) else am_nop) else (bif Nat.beq pc 0 then (.aload_n 0, 0, 0, []) else am_nop)))
def m_M_span : MI := (k_M_span, [], [(49, d_M_of 16), (53, d_M_arrival 16), (117, d_M_lastOf 16)], [], [], [], [], 3, 65, some .int, fun _ => 0, 1)
def v_M_span (h : HP) (a1 : Int32) : Int32 := ((v_M_arrival h (v_M_lastOf h a1)) - (v_M_of h a1 3))
def p_M_span (h : HP) (a1 : Int32) : Prop := ((p_M_lastOf h a1) ∧ ((p_M_arrival h (v_M_lastOf h a1)) ∧ (p_M_of h a1 3)))
def g_M_span (_ _ : List Sh) (as : List Value) (h : HP) : GR := match as with
  | [.ref o1, .int a1] => (Nat.beq o1 0, p_M_span h a1, none, some (.int (v_M_span h a1)), h)
  | _ => bad h
def d_M_span (k : Nat) : CD := (k, yX6_span, cX6_span, 2, some .int, 2, 3, 65, 0, false, true, g_M_span)
theorem chk_M_span : ∀ pc, am_chk cX6_span k_M_span pc = true := am_chkall 17 (by decide +kernel) (fun pc h => by unfold k_M_span; rw [Nat.ble_eq_true_of_le h]; rfl)
theorem pf_M_span : plainFor yX6_span = true := by decide +kernel
theorem cu_M_span : Cond.code yX6_span cX6_span 2 (some .int) ∈ am_U := am_tb 1188 (by decide +kernel) rfl
set_option maxHeartbeats 20000000 in
set_option maxRecDepth 100000 in
theorem ev_M_span {e1 ro : List Sh} {P : AR → HP → Prop} (h : HP) (a1 : Int32) (hp : p_M_span h a1) (hP : ∀ q, v_M_span h a1 = q → RI P h q) : am_Ev m_M_span (WM ++ e1) ro P (0, [.ref 0, .int a1], [], h) := by
  unfold p_M_span at hp
  refine am_Ev_G [15] 400 _ ?_
  show ((p_M_lastOf h a1) ∧ ((p_M_arrival h (v_M_lastOf h a1)) ∧ ((p_M_of h a1 3) ∧ am_Ev m_M_span (WM ++ e1) ro P (15, [.ref 0, .int a1], [.int (v_M_of h a1 3), .int (v_M_arrival h (v_M_lastOf h a1))], h))))
  obtain ⟨hob, hp⟩ := hp
  refine ⟨hob, ?_⟩
  obtain ⟨hob, hp⟩ := hp
  refine ⟨hob, ?_⟩
  refine ⟨hp, ?_⟩
  refine am_Ev_G [] 400 _ ?_
  show P (.inl (some (.int ((v_M_arrival h (v_M_lastOf h a1)) - (v_M_of h a1 3))))) h
  exact hP ((v_M_arrival h (v_M_lastOf h a1)) - (v_M_of h a1 3)) rfl
theorem ok_M_span {l : Launch} (hl : l.stackTraces = false) (e1 ro : List Sh) (k : Nat) : am_Ok l (WM ++ e1) ro (d_M_span k) := by
  refine am_met hl (own := RX6) (M := m_M_span) rfl pf_M_span cu_M_span rfl rfl rfl rfl (fun _ => rfl) rfl ⟨chk_M_span, (am_n), (am_c (lk_M_49) (am_c (lk_M_53) (am_c (lk_M_117) am_n))), (am_n), (am_n)⟩ (am_n) (am_c (ok_M_of hl e1 _ 16) (am_c (ok_M_arrival hl e1 _ 16) (am_c (ok_M_lastOf hl e1 _ 16) am_n))) (fun z => nomatch z) ?_ ?_
  · intro _ as h hg
    show g_thr (g_M_span (WM ++ e1) ro as h) = none
    unfold g_M_span
    split <;> rfl
  · intro as h hg hp
    revert hg hp
    show g_ok (g_M_span (WM ++ e1) ro as h) = true → g_pre (g_M_span (WM ++ e1) ro as h) → _ ∧ am_Ev m_M_span (WM ++ e1) ro (am_eq (g_M_span (WM ++ e1) ro as h)) (0, am_ent as 2, [], h)
    unfold g_M_span
    split
    · rename_i o1 a1
      intro hc hp
      change (Nat.beq o1 0) = true at hc
      obtain rfl := am_beq hc
      exact ⟨Nat.le_of_ble_eq_true rfl, ev_M_span h a1 hp eqRI⟩
    · exact fun z => nomatch z
def k_M_driven (pc : Nat) : Ent := bif Nat.ble 29 pc then am_nop else bif Nat.ble 12 pc then (bif Nat.ble 19 pc then (bif Nat.ble 24 pc then (bif Nat.ble 27 pc then (bif Nat.ble 28 pc then (bif Nat.beq pc 28 then (.ireturn, 0, 0, []) else am_nop) else (bif Nat.beq pc 27 then (.iload_n 2, 0, 2, []) else am_nop)) else (bif Nat.beq pc 24 then (.goto (-20), 0, 4, []) else am_nop)) else (bif Nat.ble 20 pc then (bif Nat.ble 23 pc then (bif Nat.beq pc 23 then (.istore_n 3, 0, 3, []) else am_nop) else (bif Nat.beq pc 20 then (.invokevirtual 57, 0, 0, []) else am_nop)) else (bif Nat.beq pc 19 then (.iload_n 3, 0, 3, []) else am_nop))) else (bif Nat.ble 16 pc then (bif Nat.ble 17 pc then (bif Nat.ble 18 pc then (bif Nat.beq pc 18 then (.aload_n 0, 0, 0, []) else am_nop) else (bif Nat.beq pc 17 then (.istore_n 2, 0, 2, []) else am_nop)) else (bif Nat.beq pc 16 then (.iadd, 0, 0, []) else am_nop)) else (bif Nat.ble 13 pc then (bif Nat.beq pc 13 then (.invokevirtual 49, 0, 0, []) else am_nop) else (bif Nat.beq pc 12 then (.iconst 4, 4, 0, []) else am_nop)))) else (bif Nat.ble 5 pc then (bif Nat.ble 9 pc then (bif Nat.ble 10 pc then (bif Nat.ble 11 pc then (bif Nat.beq pc 11 then (.iload_n 3, 0, 3, []) else am_nop) else (bif Nat.beq pc 10 then (.aload_n 0, 0, 0, []) else am_nop)) else (bif Nat.beq pc 9 then (.iload_n 2, 0, 2, []) else am_nop)) else (bif Nat.ble 6 pc then (bif Nat.beq pc 6 then (.if_icmp .eq 21, 0, 27, []) else am_nop) else (bif Nat.beq pc 5 then (.iconst (-1), (-1 : Int32), 0, []) else am_nop))) else (bif Nat.ble 2 pc then (bif Nat.ble 3 pc then (bif Nat.ble 4 pc then (bif Nat.beq pc 4 then (.iload_n 3, 0, 3, []) else am_nop) else (bif Nat.beq pc 3 then (.istore_n 3, 0, 3, []) else am_nop)) else (bif Nat.beq pc 2 then (.iload_n 1, 0, 1, []) else am_nop)) else (bif Nat.ble 1 pc then (bif Nat.beq pc 1 then (.istore_n 2, 0, 2, []) else am_nop) else (bif Nat.beq pc 0 then (.iconst 0, 0, 0, []) else am_nop))))
def m_M_driven : MI := (k_M_driven, [], [(49, d_M_of 16), (57, d_M_next 16)], [], [], [], [], 2, 43, some .int, fun _ => 0, 1)
def s_M_driven_4 (h : HP) (a1 : Int32) (v1 : Int32 × Int32) : (Int32 × Int32) ⊕ (Int32 × Int32) := (if v1.2 = (-1 : Int32) then (.inr (v1.1, v1.2)) else (.inl ((v1.1 + (v_M_of h v1.2 4)), (v_M_next h v1.2))))
def ps_M_driven_4 (h : HP) (a1 : Int32) (v1 : Int32 × Int32) : Prop := ((v1.2 = (-1 : Int32) → True) ∧ (¬ v1.2 = (-1 : Int32) → ((p_M_of h v1.2 4) ∧ (p_M_next h v1.2))))
def v_M_driven (h : HP) (a1 : Int32) : Int32 := (match itr (s_M_driven_4 h a1) NF (0, a1) with | some r1 => r1.1 | none => 0)
def p_M_driven (h : HP) (a1 : Int32) : Prop := (itrp (s_M_driven_4 h a1) (ps_M_driven_4 h a1) NF (0, a1))
def g_M_driven (_ _ : List Sh) (as : List Value) (h : HP) : GR := match as with
  | [.ref o1, .int a1] => (Nat.beq o1 0, p_M_driven h a1, none, some (.int (v_M_driven h a1)), h)
  | _ => bad h
def d_M_driven (k : Nat) : CD := (k, yX6_driven, cX6_driven, 4, some .int, 2, 2, 43, 0, false, true, g_M_driven)
theorem chk_M_driven : ∀ pc, am_chk cX6_driven k_M_driven pc = true := am_chkall 29 (by decide +kernel) (fun pc h => by unfold k_M_driven; rw [Nat.ble_eq_true_of_le h]; rfl)
theorem pf_M_driven : plainFor yX6_driven = true := by decide +kernel
theorem cu_M_driven : Cond.code yX6_driven cX6_driven 4 (some .int) ∈ am_U := am_tb 1196 (by decide +kernel) rfl
set_option maxHeartbeats 20000000 in
set_option maxRecDepth 100000 in
theorem ev_M_driven {e1 ro : List Sh} {P : AR → HP → Prop} (h : HP) (a1 : Int32) (hp : p_M_driven h a1) (hP : ∀ q, v_M_driven h a1 = q → RI P h q) : am_Ev m_M_driven (WM ++ e1) ro P (0, [.ref 0, .int a1, .retAddr 0, .retAddr 0], [], h) := by
  unfold p_M_driven at hp
  refine am_Ev_G [4] 400 _ ?_
  show am_Ev m_M_driven (WM ++ e1) ro P (4, [.ref 0, .int a1, .int 0, .int a1], [], h)
  refine am_fg 1 ?_
  have hpl := hp
  refine am_itr (E := (fun (v1 : Int32 × Int32) => am_Ev m_M_driven (WM ++ e1) ro P (4, [.ref 0, .retAddr 0, .int v1.1, .int v1.2], [], h))) (E' := (fun (r1 : Int32 × Int32) => am_Ev m_M_driven (WM ++ e1) ro P (27, [.ref 0, .retAddr 0, .int r1.1, .int r1.2], [], h))) (s_M_driven_4 h a1) (ps_M_driven_4 h a1) ?_ NF (0, a1) hpl ?_
  · intro v1 hp hc1 hx1
    show am_Ev m_M_driven (WM ++ e1) ro P (4, [.ref 0, .retAddr 0, .int v1.1, .int v1.2], [], h)
    unfold ps_M_driven_4 at hp
    refine am_Ev_G [16, 27] 400 _ ?_
    show ((v1.2 = (-1 : Int32) → am_Ev m_M_driven (WM ++ e1) ro P (27, [.ref 0, .retAddr 0, .int v1.1, .int v1.2], [], h)) ∧ (¬ v1.2 = (-1 : Int32) → ((p_M_of h v1.2 4) ∧ am_Ev m_M_driven (WM ++ e1) ro P (16, [.ref 0, .retAddr 0, .int v1.1, .int v1.2], [.int (v_M_of h v1.2 4), .int v1.1], h))))
    refine ⟨fun c1 => ?_, fun c1 => ?_⟩
    · skip
      exact hx1 (v1.1, v1.2) (by unfold s_M_driven_4; simp only [if_pos c1])
    · have hp := hp.2 c1
      obtain ⟨hob, hp⟩ := hp
      refine ⟨hob, ?_⟩
      refine am_Ev_G [4] 400 _ ?_
      show ((p_M_next h v1.2) ∧ am_Ev m_M_driven (WM ++ e1) ro P (4, [.ref 0, .retAddr 0, .int (v1.1 + (v_M_of h v1.2 4)), .int (v_M_next h v1.2)], [], h))
      refine ⟨hp, ?_⟩
      exact hc1 ((v1.1 + (v_M_of h v1.2 4)), (v_M_next h v1.2)) (by unfold s_M_driven_4; simp only [if_neg c1])
  · intro r1 hr2
    show am_Ev m_M_driven (WM ++ e1) ro P (27, [.ref 0, .retAddr 0, .int r1.1, .int r1.2], [], h)
    refine am_Ev_G [] 400 _ ?_
    show P (.inl (some (.int r1.1))) h
    exact hP r1.1 (by unfold v_M_driven; simp only [hr2])
theorem ok_M_driven {l : Launch} (hl : l.stackTraces = false) (e1 ro : List Sh) (k : Nat) : am_Ok l (WM ++ e1) ro (d_M_driven k) := by
  refine am_met hl (own := RX6) (M := m_M_driven) rfl pf_M_driven cu_M_driven rfl rfl rfl rfl (fun _ => rfl) rfl ⟨chk_M_driven, (am_n), (am_c (lk_M_49) (am_c (lk_M_57) am_n)), (am_n), (am_n)⟩ (am_n) (am_c (ok_M_of hl e1 _ 16) (am_c (ok_M_next hl e1 _ 16) am_n)) (fun z => nomatch z) ?_ ?_
  · intro _ as h hg
    show g_thr (g_M_driven (WM ++ e1) ro as h) = none
    unfold g_M_driven
    split <;> rfl
  · intro as h hg hp
    revert hg hp
    show g_ok (g_M_driven (WM ++ e1) ro as h) = true → g_pre (g_M_driven (WM ++ e1) ro as h) → _ ∧ am_Ev m_M_driven (WM ++ e1) ro (am_eq (g_M_driven (WM ++ e1) ro as h)) (0, am_ent as 4, [], h)
    unfold g_M_driven
    split
    · rename_i o1 a1
      intro hc hp
      change (Nat.beq o1 0) = true at hc
      obtain rfl := am_beq hc
      exact ⟨Nat.le_of_ble_eq_true rfl, ev_M_driven h a1 hp eqRI⟩
    · exact fun z => nomatch z
def k_M_changes (pc : Nat) : Ent := bif Nat.ble 51 pc then am_nop else bif Nat.ble 22 pc then (bif Nat.ble 38 pc then (bif Nat.ble 42 pc then (bif Nat.ble 46 pc then (bif Nat.ble 49 pc then (bif Nat.ble 50 pc then (bif Nat.beq pc 50 then (.ireturn, 0, 0, []) else am_nop) else (bif Nat.beq pc 49 then (.iload_n 2, 0, 2, []) else am_nop)) else (bif Nat.beq pc 46 then (.goto (-42), 0, 4, []) else am_nop)) else (bif Nat.ble 45 pc then (bif Nat.beq pc 45 then (.istore_n 3, 0, 3, []) else am_nop) else (bif Nat.beq pc 42 then (.invokevirtual 57, 0, 0, []) else am_nop))) else (bif Nat.ble 40 pc then (bif Nat.ble 41 pc then (bif Nat.beq pc 41 then (.iload_n 3, 0, 3, []) else am_nop) else (bif Nat.beq pc 40 then (.aload_n 0, 0, 0, []) else am_nop)) else (bif Nat.ble 39 pc then (bif Nat.beq pc 39 then (.istore_n 2, 0, 2, []) else am_nop) else (bif Nat.beq pc 38 then (.iadd, 0, 0, []) else am_nop)))) else (bif Nat.ble 30 pc then (bif Nat.ble 34 pc then (bif Nat.ble 37 pc then (bif Nat.beq pc 37 then (.iconst 0, 0, 0, []) else am_nop) else (bif Nat.beq pc 34 then (.goto 4, 0, 38, []) else am_nop)) else (bif Nat.ble 33 pc then (bif Nat.beq pc 33 then (.iconst 1, 1, 0, []) else am_nop) else (bif Nat.beq pc 30 then (.if_icmp .eq 7, 0, 37, []) else am_nop))) else (bif Nat.ble 26 pc then (bif Nat.ble 27 pc then (bif Nat.beq pc 27 then (.invokevirtual 49, 0, 0, []) else am_nop) else (bif Nat.beq pc 26 then (.iconst 0, 0, 0, []) else am_nop)) else (bif Nat.ble 23 pc then (bif Nat.beq pc 23 then (.invokevirtual 57, 0, 0, []) else am_nop) else (bif Nat.beq pc 22 then (.iload_n 3, 0, 3, []) else am_nop))))) else (bif Nat.ble 10 pc then (bif Nat.ble 16 pc then (bif Nat.ble 20 pc then (bif Nat.ble 21 pc then (bif Nat.beq pc 21 then (.aload_n 0, 0, 0, []) else am_nop) else (bif Nat.beq pc 20 then (.aload_n 0, 0, 0, []) else am_nop)) else (bif Nat.ble 17 pc then (bif Nat.beq pc 17 then (.invokevirtual 49, 0, 0, []) else am_nop) else (bif Nat.beq pc 16 then (.iconst 0, 0, 0, []) else am_nop))) else (bif Nat.ble 14 pc then (bif Nat.ble 15 pc then (bif Nat.beq pc 15 then (.iload_n 3, 0, 3, []) else am_nop) else (bif Nat.beq pc 14 then (.aload_n 0, 0, 0, []) else am_nop)) else (bif Nat.ble 13 pc then (bif Nat.beq pc 13 then (.iload_n 2, 0, 2, []) else am_nop) else (bif Nat.beq pc 10 then (.if_icmp .eq 39, 0, 49, []) else am_nop)))) else (bif Nat.ble 4 pc then (bif Nat.ble 6 pc then (bif Nat.ble 9 pc then (bif Nat.beq pc 9 then (.iconst (-1), (-1 : Int32), 0, []) else am_nop) else (bif Nat.beq pc 6 then (.invokevirtual 57, 0, 0, []) else am_nop)) else (bif Nat.ble 5 pc then (bif Nat.beq pc 5 then (.iload_n 3, 0, 3, []) else am_nop) else (bif Nat.beq pc 4 then (.aload_n 0, 0, 0, []) else am_nop))) else (bif Nat.ble 2 pc then (bif Nat.ble 3 pc then (bif Nat.beq pc 3 then (.istore_n 3, 0, 3, []) else am_nop) else (bif Nat.beq pc 2 then (.iload_n 1, 0, 1, []) else am_nop)) else (bif Nat.ble 1 pc then (bif Nat.beq pc 1 then (.istore_n 2, 0, 2, []) else am_nop) else (bif Nat.beq pc 0 then (.iconst 0, 0, 0, []) else am_nop)))))
def m_M_changes : MI := (k_M_changes, [], [(49, d_M_of 16), (57, d_M_next 16)], [], [], [], [], 2, 43, some .int, fun _ => 0, 1)
def s_M_changes_4 (h : HP) (a1 : Int32) (v1 : Int32 × Int32) : (Int32 × Int32) ⊕ (Int32 × Int32) := (if (v_M_next h v1.2) = (-1 : Int32) then (.inr (v1.1, v1.2)) else (.inl ((v1.1 + (if (v_M_of h v1.2 0) = (v_M_of h (v_M_next h v1.2) 0) then (0 : Int32) else 1)), (v_M_next h v1.2))))
def ps_M_changes_4 (h : HP) (a1 : Int32) (v1 : Int32 × Int32) : Prop := ((p_M_next h v1.2) ∧ (((v_M_next h v1.2) = (-1 : Int32) → True) ∧ (¬ (v_M_next h v1.2) = (-1 : Int32) → ((p_M_of h v1.2 0) ∧ ((p_M_next h v1.2) ∧ ((p_M_of h (v_M_next h v1.2) 0) ∧ (p_M_next h v1.2)))))))
def v_M_changes (h : HP) (a1 : Int32) : Int32 := (match itr (s_M_changes_4 h a1) NF (0, a1) with | some r1 => r1.1 | none => 0)
def p_M_changes (h : HP) (a1 : Int32) : Prop := (itrp (s_M_changes_4 h a1) (ps_M_changes_4 h a1) NF (0, a1))
def g_M_changes (_ _ : List Sh) (as : List Value) (h : HP) : GR := match as with
  | [.ref o1, .int a1] => (Nat.beq o1 0, p_M_changes h a1, none, some (.int (v_M_changes h a1)), h)
  | _ => bad h
def d_M_changes (k : Nat) : CD := (k, yX6_changes, cX6_changes, 4, some .int, 2, 2, 43, 0, false, true, g_M_changes)
theorem chk_M_changes : ∀ pc, am_chk cX6_changes k_M_changes pc = true := am_chkall 51 (by decide +kernel) (fun pc h => by unfold k_M_changes; rw [Nat.ble_eq_true_of_le h]; rfl)
theorem pf_M_changes : plainFor yX6_changes = true := by decide +kernel
theorem cu_M_changes : Cond.code yX6_changes cX6_changes 4 (some .int) ∈ am_U := am_tb 1200 (by decide +kernel) rfl
set_option maxHeartbeats 20000000 in
set_option maxRecDepth 100000 in
theorem ev_M_changes {e1 ro : List Sh} {P : AR → HP → Prop} (h : HP) (a1 : Int32) (hp : p_M_changes h a1) (hP : ∀ q, v_M_changes h a1 = q → RI P h q) : am_Ev m_M_changes (WM ++ e1) ro P (0, [.ref 0, .int a1, .retAddr 0, .retAddr 0], [], h) := by
  unfold p_M_changes at hp
  refine am_Ev_G [4] 400 _ ?_
  show am_Ev m_M_changes (WM ++ e1) ro P (4, [.ref 0, .int a1, .int 0, .int a1], [], h)
  refine am_fg 1 ?_
  have hpl := hp
  refine am_itr (E := (fun (v1 : Int32 × Int32) => am_Ev m_M_changes (WM ++ e1) ro P (4, [.ref 0, .retAddr 0, .int v1.1, .int v1.2], [], h))) (E' := (fun (r1 : Int32 × Int32) => am_Ev m_M_changes (WM ++ e1) ro P (49, [.ref 0, .retAddr 0, .int r1.1, .int r1.2], [], h))) (s_M_changes_4 h a1) (ps_M_changes_4 h a1) ?_ NF (0, a1) hpl ?_
  · intro v1 hp hc1 hx1
    show am_Ev m_M_changes (WM ++ e1) ro P (4, [.ref 0, .retAddr 0, .int v1.1, .int v1.2], [], h)
    unfold ps_M_changes_4 at hp
    refine am_Ev_G [9] 400 _ ?_
    show ((p_M_next h v1.2) ∧ am_Ev m_M_changes (WM ++ e1) ro P (9, [.ref 0, .retAddr 0, .int v1.1, .int v1.2], [.int (v_M_next h v1.2)], h))
    obtain ⟨hob, hp⟩ := hp
    refine ⟨hob, ?_⟩
    refine am_Ev_G [26, 49] 400 _ ?_
    show (((v_M_next h v1.2) = (-1 : Int32) → am_Ev m_M_changes (WM ++ e1) ro P (49, [.ref 0, .retAddr 0, .int v1.1, .int v1.2], [], h)) ∧ (¬ (v_M_next h v1.2) = (-1 : Int32) → ((p_M_of h v1.2 0) ∧ ((p_M_next h v1.2) ∧ am_Ev m_M_changes (WM ++ e1) ro P (26, [.ref 0, .retAddr 0, .int v1.1, .int v1.2], [.int (v_M_next h v1.2), .ref 0, .int (v_M_of h v1.2 0), .int v1.1], h)))))
    refine ⟨fun c1 => ?_, fun c1 => ?_⟩
    · skip
      exact hx1 (v1.1, v1.2) (by unfold s_M_changes_4; simp only [if_pos c1])
    · have hp := hp.2 c1
      obtain ⟨hob, hp⟩ := hp
      refine ⟨hob, ?_⟩
      obtain ⟨hob, hp⟩ := hp
      refine ⟨hob, ?_⟩
      refine am_Ev_G [30] 400 _ ?_
      show ((p_M_of h (v_M_next h v1.2) 0) ∧ am_Ev m_M_changes (WM ++ e1) ro P (30, [.ref 0, .retAddr 0, .int v1.1, .int v1.2], [.int (v_M_of h (v_M_next h v1.2) 0), .int (v_M_of h v1.2 0), .int v1.1], h))
      obtain ⟨hob, hp⟩ := hp
      refine ⟨hob, ?_⟩
      have key2 : am_Ev m_M_changes (WM ++ e1) ro P (38, [.ref 0, .retAddr 0, .int v1.1, .int v1.2], [.int (if (v_M_of h v1.2 0) = (v_M_of h (v_M_next h v1.2) 0) then (0 : Int32) else 1), .int v1.1], h) := by
        refine am_Ev_G [45] 400 _ ?_
        show ((p_M_next h v1.2) ∧ am_Ev m_M_changes (WM ++ e1) ro P (45, [.ref 0, .retAddr 0, .int (v1.1 + (if (v_M_of h v1.2 0) = (v_M_of h (v_M_next h v1.2) 0) then (0 : Int32) else 1)), .int v1.2], [.int (v_M_next h v1.2)], h))
        refine ⟨hp, ?_⟩
        refine am_Ev_G [4] 400 _ ?_
        show am_Ev m_M_changes (WM ++ e1) ro P (4, [.ref 0, .retAddr 0, .int (v1.1 + (if (v_M_of h v1.2 0) = (v_M_of h (v_M_next h v1.2) 0) then (0 : Int32) else 1)), .int (v_M_next h v1.2)], [], h)
        exact hc1 ((v1.1 + (if (v_M_of h v1.2 0) = (v_M_of h (v_M_next h v1.2) 0) then (0 : Int32) else 1)), (v_M_next h v1.2)) (by unfold s_M_changes_4; simp only [if_neg c1])
      refine am_Ev_G [38] 400 _ ?_
      show (((v_M_of h v1.2 0) = (v_M_of h (v_M_next h v1.2) 0) → am_Ev m_M_changes (WM ++ e1) ro P (38, [.ref 0, .retAddr 0, .int v1.1, .int v1.2], [.int 0, .int v1.1], h)) ∧ (¬ (v_M_of h v1.2 0) = (v_M_of h (v_M_next h v1.2) 0) → am_Ev m_M_changes (WM ++ e1) ro P (38, [.ref 0, .retAddr 0, .int v1.1, .int v1.2], [.int 1, .int v1.1], h)))
      refine ⟨fun c3 => ?_, fun c3 => ?_⟩
      · skip
        simpa only [if_pos c3] using key2
      · skip
        simpa only [if_neg c3] using key2
  · intro r1 hr4
    show am_Ev m_M_changes (WM ++ e1) ro P (49, [.ref 0, .retAddr 0, .int r1.1, .int r1.2], [], h)
    refine am_Ev_G [] 400 _ ?_
    show P (.inl (some (.int r1.1))) h
    exact hP r1.1 (by unfold v_M_changes; simp only [hr4])
theorem ok_M_changes {l : Launch} (hl : l.stackTraces = false) (e1 ro : List Sh) (k : Nat) : am_Ok l (WM ++ e1) ro (d_M_changes k) := by
  refine am_met hl (own := RX6) (M := m_M_changes) rfl pf_M_changes cu_M_changes rfl rfl rfl rfl (fun _ => rfl) rfl ⟨chk_M_changes, (am_n), (am_c (lk_M_49) (am_c (lk_M_57) am_n)), (am_n), (am_n)⟩ (am_n) (am_c (ok_M_of hl e1 _ 16) (am_c (ok_M_next hl e1 _ 16) am_n)) (fun z => nomatch z) ?_ ?_
  · intro _ as h hg
    show g_thr (g_M_changes (WM ++ e1) ro as h) = none
    unfold g_M_changes
    split <;> rfl
  · intro as h hg hp
    revert hg hp
    show g_ok (g_M_changes (WM ++ e1) ro as h) = true → g_pre (g_M_changes (WM ++ e1) ro as h) → _ ∧ am_Ev m_M_changes (WM ++ e1) ro (am_eq (g_M_changes (WM ++ e1) ro as h)) (0, am_ent as 4, [], h)
    unfold g_M_changes
    split
    · rename_i o1 a1
      intro hc hp
      change (Nat.beq o1 0) = true at hc
      obtain rfl := am_beq hc
      exact ⟨Nat.le_of_ble_eq_true rfl, ev_M_changes h a1 hp eqRI⟩
    · exact fun z => nomatch z
end
