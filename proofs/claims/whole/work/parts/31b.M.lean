/-! BusBlocksModel, out of its code (written by gen/meth.py). -/
noncomputable section
def k_M_byDeficits (pc : Nat) : Ent := bif Nat.ble 28 pc then am_nop else bif Nat.ble 14 pc then (bif Nat.ble 21 pc then (bif Nat.ble 23 pc then (bif Nat.ble 26 pc then (bif Nat.ble 27 pc then (bif Nat.beq pc 27 then (.ireturn, 0, 0, []) else am_nop) else (bif Nat.beq pc 26 then (.iadd, 0, 0, []) else am_nop)) else (bif Nat.beq pc 23 then (.invokevirtual 111, 0, 0, []) else am_nop)) else (bif Nat.ble 22 pc then (bif Nat.beq pc 22 then (.iload_n 1, 0, 1, []) else am_nop) else (bif Nat.beq pc 21 then (.iconst 3, 3, 0, []) else am_nop))) else (bif Nat.ble 16 pc then (bif Nat.ble 19 pc then (bif Nat.ble 20 pc then (bif Nat.beq pc 20 then (.aload_n 0, 0, 0, []) else am_nop) else (bif Nat.beq pc 19 then (.iadd, 0, 0, []) else am_nop)) else (bif Nat.beq pc 16 then (.invokevirtual 111, 0, 0, []) else am_nop)) else (bif Nat.ble 15 pc then (bif Nat.beq pc 15 then (.iload_n 1, 0, 1, []) else am_nop) else (bif Nat.beq pc 14 then (.iconst 2, 2, 0, []) else am_nop)))) else (bif Nat.ble 7 pc then (bif Nat.ble 9 pc then (bif Nat.ble 12 pc then (bif Nat.ble 13 pc then (bif Nat.beq pc 13 then (.aload_n 0, 0, 0, []) else am_nop) else (bif Nat.beq pc 12 then (.iadd, 0, 0, []) else am_nop)) else (bif Nat.beq pc 9 then (.invokevirtual 111, 0, 0, []) else am_nop)) else (bif Nat.ble 8 pc then (bif Nat.beq pc 8 then (.iload_n 1, 0, 1, []) else am_nop) else (bif Nat.beq pc 7 then (.iconst 1, 1, 0, []) else am_nop))) else (bif Nat.ble 2 pc then (bif Nat.ble 3 pc then (bif Nat.ble 6 pc then (bif Nat.beq pc 6 then (.aload_n 0, 0, 0, []) else am_nop) else (bif Nat.beq pc 3 then (.invokevirtual 111, 0, 0, []) else am_nop)) else (bif Nat.beq pc 2 then (.iload_n 1, 0, 1, []) else am_nop)) else (bif Nat.ble 1 pc then (bif Nat.beq pc 1 then (.iconst 0, 0, 0, []) else am_nop) else (bif Nat.beq pc 0 then (.aload_n 0, 0, 0, []) else am_nop))))
theorem lk_M_111 : am_lnk RX6 111 (d_M_deficit 16) := ⟨⟨by decide, by decide⟩, am_tb 8 (by decide +kernel) rfl, Or.inr ⟨by decide, rfl, am_tb 1135 (by decide +kernel) rfl, am_tp 97 (by decide +kernel) rfl, ⟨TX6, 16, rfl⟩, Or.inl (am_tb 1133 (by decide +kernel) rfl)⟩⟩
def m_M_byDeficits : MI := (k_M_byDeficits, [], [(111, d_M_deficit 16)], [], [], [], [], 6, 139, some .int, fun _ => 0, 1)
def v_M_byDeficits (h : HP) (a1 : Int32) : Int32 := ((((v_M_deficit h 0 a1) + (v_M_deficit h 1 a1)) + (v_M_deficit h 2 a1)) + (v_M_deficit h 3 a1))
def p_M_byDeficits (h : HP) (a1 : Int32) : Prop := ((p_M_deficit h 0 a1) ∧ ((p_M_deficit h 1 a1) ∧ ((p_M_deficit h 2 a1) ∧ (p_M_deficit h 3 a1))))
def g_M_byDeficits (_ _ : List Sh) (as : List Value) (h : HP) : GR := match as with
  | [.ref o1, .int a1] => (Nat.beq o1 0, p_M_byDeficits h a1, none, some (.int (v_M_byDeficits h a1)), h)
  | _ => bad h
def d_M_byDeficits (k : Nat) : CD := (k, yX6_byDeficits, cX6_byDeficits, 2, some .int, 2, 6, 139, 0, false, true, g_M_byDeficits)
theorem chk_M_byDeficits : ∀ pc, am_chk cX6_byDeficits k_M_byDeficits pc = true := am_chkall 28 (by decide +kernel) (fun pc h => by unfold k_M_byDeficits; rw [Nat.ble_eq_true_of_le h]; rfl)
theorem pf_M_byDeficits : plainFor yX6_byDeficits = true := by decide +kernel
theorem cu_M_byDeficits : Cond.code yX6_byDeficits cX6_byDeficits 2 (some .int) ∈ am_U := am_tb 1244 (by decide +kernel) rfl
set_option maxHeartbeats 20000000 in
set_option maxRecDepth 100000 in
theorem ev_M_byDeficits {e1 ro : List Sh} {P : AR → HP → Prop} (h : HP) (a1 : Int32) (hp : p_M_byDeficits h a1) (hP : ∀ q, v_M_byDeficits h a1 = q → RI P h q) : am_Ev m_M_byDeficits (WM ++ e1) ro P (0, [.ref 0, .int a1], [], h) := by
  unfold p_M_byDeficits at hp
  refine am_Ev_G [12] 400 _ ?_
  show ((p_M_deficit h 0 a1) ∧ ((p_M_deficit h 1 a1) ∧ am_Ev m_M_byDeficits (WM ++ e1) ro P (12, [.ref 0, .int a1], [.int (v_M_deficit h 1 a1), .int (v_M_deficit h 0 a1)], h)))
  obtain ⟨hob, hp⟩ := hp
  refine ⟨hob, ?_⟩
  obtain ⟨hob, hp⟩ := hp
  refine ⟨hob, ?_⟩
  refine am_Ev_G [26] 400 _ ?_
  show ((p_M_deficit h 2 a1) ∧ ((p_M_deficit h 3 a1) ∧ am_Ev m_M_byDeficits (WM ++ e1) ro P (26, [.ref 0, .int a1], [.int (v_M_deficit h 3 a1), .int (((v_M_deficit h 0 a1) + (v_M_deficit h 1 a1)) + (v_M_deficit h 2 a1))], h)))
  obtain ⟨hob, hp⟩ := hp
  refine ⟨hob, ?_⟩
  refine ⟨hp, ?_⟩
  refine am_Ev_G [] 400 _ ?_
  show P (.inl (some (.int ((((v_M_deficit h 0 a1) + (v_M_deficit h 1 a1)) + (v_M_deficit h 2 a1)) + (v_M_deficit h 3 a1))))) h
  exact hP ((((v_M_deficit h 0 a1) + (v_M_deficit h 1 a1)) + (v_M_deficit h 2 a1)) + (v_M_deficit h 3 a1)) rfl
theorem ok_M_byDeficits {l : Launch} (hl : l.stackTraces = false) (e1 ro : List Sh) (k : Nat) : am_Ok l (WM ++ e1) ro (d_M_byDeficits k) := by
  refine am_met hl (own := RX6) (M := m_M_byDeficits) rfl pf_M_byDeficits cu_M_byDeficits rfl rfl rfl rfl (fun _ => rfl) rfl ⟨chk_M_byDeficits, (am_n), (am_c (lk_M_111) am_n), (am_n), (am_n)⟩ (am_n) (am_c (ok_M_deficit hl e1 _ 16) am_n) (fun z => nomatch z) ?_ ?_
  · intro _ as h hg
    show g_thr (g_M_byDeficits (WM ++ e1) ro as h) = none
    unfold g_M_byDeficits
    split <;> rfl
  · intro as h hg hp
    revert hg hp
    show g_ok (g_M_byDeficits (WM ++ e1) ro as h) = true → g_pre (g_M_byDeficits (WM ++ e1) ro as h) → _ ∧ am_Ev m_M_byDeficits (WM ++ e1) ro (am_eq (g_M_byDeficits (WM ++ e1) ro as h)) (0, am_ent as 2, [], h)
    unfold g_M_byDeficits
    split
    · rename_i o1 a1
      intro hc hp
      change (Nat.beq o1 0) = true at hc
      obtain rfl := am_beq hc
      exact ⟨Nat.le_of_ble_eq_true rfl, ev_M_byDeficits h a1 hp eqRI⟩
    · exact fun z => nomatch z
def k_M_endOf (pc : Nat) : Ent := bif Nat.ble 74 pc then am_nop else bif Nat.ble 36 pc then (bif Nat.ble 54 pc then (bif Nat.ble 64 pc then (bif Nat.ble 69 pc then (bif Nat.ble 72 pc then (bif Nat.ble 73 pc then (bif Nat.beq pc 73 then (.ireturn, 0, 0, []) else am_nop) else (bif Nat.beq pc 72 then (.iload_n 2, 0, 2, []) else am_nop)) else (bif Nat.beq pc 69 then (.goto (-65), 0, 4, []) else am_nop)) else (bif Nat.ble 65 pc then (bif Nat.ble 68 pc then (bif Nat.beq pc 68 then (.istore_n 3, 0, 3, []) else am_nop) else (bif Nat.beq pc 65 then (.invokevirtual 57, 0, 0, []) else am_nop)) else (bif Nat.beq pc 64 then (.iload_n 3, 0, 3, []) else am_nop))) else (bif Nat.ble 61 pc then (bif Nat.ble 62 pc then (bif Nat.ble 63 pc then (bif Nat.beq pc 63 then (.aload_n 0, 0, 0, []) else am_nop) else (bif Nat.beq pc 62 then (.istore_n 2, 0, 2, []) else am_nop)) else (bif Nat.beq pc 61 then (.iload_n 2, 0, 2, []) else am_nop)) else (bif Nat.ble 57 pc then (bif Nat.ble 58 pc then (bif Nat.beq pc 58 then (.goto 4, 0, 62, []) else am_nop) else (bif Nat.beq pc 57 then (.iload_n 3, 0, 3, []) else am_nop)) else (bif Nat.beq pc 54 then (.if_icmp .ne 7, 0, 61, []) else am_nop)))) else (bif Nat.ble 46 pc then (bif Nat.ble 51 pc then (bif Nat.ble 52 pc then (bif Nat.ble 53 pc then (bif Nat.beq pc 53 then (.iconst 1, 1, 0, []) else am_nop) else (bif Nat.beq pc 52 then (.iaload, 0, 0, []) else am_nop)) else (bif Nat.beq pc 51 then (.iadd, 0, 0, []) else am_nop)) else (bif Nat.ble 47 pc then (bif Nat.ble 48 pc then (bif Nat.beq pc 48 then (.invokevirtual 49, 0, 0, []) else am_nop) else (bif Nat.beq pc 47 then (.iconst 2, 2, 0, []) else am_nop)) else (bif Nat.beq pc 46 then (.iload_n 3, 0, 3, []) else am_nop))) else (bif Nat.ble 41 pc then (bif Nat.ble 44 pc then (bif Nat.ble 45 pc then (bif Nat.beq pc 45 then (.aload_n 0, 0, 0, []) else am_nop) else (bif Nat.beq pc 44 then (.iconst 4, 4, 0, []) else am_nop)) else (bif Nat.beq pc 41 then (.getfield 7, 0, 0, []) else am_nop)) else (bif Nat.ble 37 pc then (bif Nat.ble 40 pc then (bif Nat.beq pc 40 then (.aload_n 0, 0, 0, []) else am_nop) else (bif Nat.beq pc 37 then (.if_icmp .eq 20, 0, 57, []) else am_nop)) else (bif Nat.beq pc 36 then (.iconst (-1), (-1 : Int32), 0, []) else am_nop))))) else (bif Nat.ble 15 pc then (bif Nat.ble 25 pc then (bif Nat.ble 31 pc then (bif Nat.ble 32 pc then (bif Nat.ble 33 pc then (bif Nat.beq pc 33 then (.invokevirtual 57, 0, 0, []) else am_nop) else (bif Nat.beq pc 32 then (.iload_n 3, 0, 3, []) else am_nop)) else (bif Nat.beq pc 31 then (.aload_n 0, 0, 0, []) else am_nop)) else (bif Nat.ble 27 pc then (bif Nat.ble 28 pc then (bif Nat.beq pc 28 then (.if_icmp .gt 44, 0, 72, []) else am_nop) else (bif Nat.beq pc 27 then (.iaload, 0, 0, []) else am_nop)) else (bif Nat.beq pc 25 then (.bipush 9, 9, 0, []) else am_nop))) else (bif Nat.ble 20 pc then (bif Nat.ble 21 pc then (bif Nat.ble 22 pc then (bif Nat.beq pc 22 then (.getfield 7, 0, 0, []) else am_nop) else (bif Nat.beq pc 21 then (.aload_n 0, 0, 0, []) else am_nop)) else (bif Nat.beq pc 20 then (.isub, 0, 0, []) else am_nop)) else (bif Nat.ble 16 pc then (bif Nat.ble 17 pc then (bif Nat.beq pc 17 then (.invokevirtual 49, 0, 0, []) else am_nop) else (bif Nat.beq pc 16 then (.iconst 3, 3, 0, []) else am_nop)) else (bif Nat.beq pc 15 then (.iload_n 1, 0, 1, []) else am_nop)))) else (bif Nat.ble 5 pc then (bif Nat.ble 10 pc then (bif Nat.ble 11 pc then (bif Nat.ble 14 pc then (bif Nat.beq pc 14 then (.aload_n 0, 0, 0, []) else am_nop) else (bif Nat.beq pc 11 then (.invokevirtual 53, 0, 0, []) else am_nop)) else (bif Nat.beq pc 10 then (.iload_n 3, 0, 3, []) else am_nop)) else (bif Nat.ble 6 pc then (bif Nat.ble 9 pc then (bif Nat.beq pc 9 then (.aload_n 0, 0, 0, []) else am_nop) else (bif Nat.beq pc 6 then (.if_icmp .eq 66, 0, 72, []) else am_nop)) else (bif Nat.beq pc 5 then (.iconst (-1), (-1 : Int32), 0, []) else am_nop))) else (bif Nat.ble 2 pc then (bif Nat.ble 3 pc then (bif Nat.ble 4 pc then (bif Nat.beq pc 4 then (.iload_n 3, 0, 3, []) else am_nop) else (bif Nat.beq pc 3 then (.istore_n 3, 0, 3, []) else am_nop)) else (bif Nat.beq pc 2 then (.iload_n 1, 0, 1, []) else am_nop)) else (bif Nat.ble 1 pc then (bif Nat.beq pc 1 then (.istore_n 2, 0, 2, []) else am_nop) else (bif Nat.beq pc 0 then (.iconst (-1), (-1 : Int32), 0, []) else am_nop)))))
def m_M_endOf : MI := (k_M_endOf, [(7, 6, 0)], [(49, d_M_of 16), (53, d_M_arrival 16), (57, d_M_next 16)], [], [], [], [], 2, 43, some .int, fun _ => 0, 1)
def s_M_endOf_4 (h : HP) (a1 : Int32) (v1 : Int32 × Int32) : (Int32 × Int32) ⊕ (Int32 × Int32) := (if v1.2 = (-1 : Int32) then (.inr (v1.1, v1.2)) else (if ((v_M_arrival h v1.2) - (v_M_of h a1 3)) ≤ (h.1 1 (am_ix 9)) then (.inl ((if (v_M_next h v1.2) = (-1 : Int32) then v1.2 else (if (h.1 1 (am_ix (4 + (v_M_of h v1.2 2)))) = 1 then v1.2 else v1.1)), (v_M_next h v1.2))) else (.inr (v1.1, v1.2))))
def ps_M_endOf_4 (h : HP) (a1 : Int32) (v1 : Int32 × Int32) : Prop := ((v1.2 = (-1 : Int32) → True) ∧ (¬ v1.2 = (-1 : Int32) → ((p_M_arrival h v1.2) ∧ ((p_M_of h a1 3) ∧ ((((v_M_arrival h v1.2) - (v_M_of h a1 3)) ≤ (h.1 1 (am_ix 9)) → ((p_M_next h v1.2) ∧ ((((v_M_next h v1.2) = (-1 : Int32) → True) ∧ (¬ (v_M_next h v1.2) = (-1 : Int32) → ((p_M_of h v1.2 2) ∧ (am_in (4 + (v_M_of h v1.2 2)) 163)))) ∧ (p_M_next h v1.2)))) ∧ (¬ ((v_M_arrival h v1.2) - (v_M_of h a1 3)) ≤ (h.1 1 (am_ix 9)) → True))))))
def v_M_endOf (h : HP) (a1 : Int32) : Int32 := (match itr (s_M_endOf_4 h a1) NF ((-1 : Int32), a1) with | some r1 => r1.1 | none => 0)
def p_M_endOf (h : HP) (a1 : Int32) : Prop := (itrp (s_M_endOf_4 h a1) (ps_M_endOf_4 h a1) NF ((-1 : Int32), a1))
def g_M_endOf (_ _ : List Sh) (as : List Value) (h : HP) : GR := match as with
  | [.ref o1, .int a1] => (Nat.beq o1 0, p_M_endOf h a1, none, some (.int (v_M_endOf h a1)), h)
  | _ => bad h
def d_M_endOf (k : Nat) : CD := (k, yX6_endOf, cX6_endOf, 4, some .int, 2, 2, 43, 0, false, true, g_M_endOf)
theorem chk_M_endOf : ∀ pc, am_chk cX6_endOf k_M_endOf pc = true := am_chkall 74 (by decide +kernel) (fun pc h => by unfold k_M_endOf; rw [Nat.ble_eq_true_of_le h]; rfl)
theorem pf_M_endOf : plainFor yX6_endOf = true := by decide +kernel
theorem cu_M_endOf : Cond.code yX6_endOf cX6_endOf 4 (some .int) ∈ am_U := am_tb 1208 (by decide +kernel) rfl
set_option maxHeartbeats 20000000 in
set_option maxRecDepth 100000 in
theorem ev_M_endOf {e1 ro : List Sh} {P : AR → HP → Prop} (h : HP) (a1 : Int32) (hp : p_M_endOf h a1) (hP : ∀ q, v_M_endOf h a1 = q → RI P h q) : am_Ev m_M_endOf (WM ++ e1) ro P (0, [.ref 0, .int a1, .retAddr 0, .retAddr 0], [], h) := by
  unfold p_M_endOf at hp
  refine am_Ev_G [4] 400 _ ?_
  show am_Ev m_M_endOf (WM ++ e1) ro P (4, [.ref 0, .int a1, .int (-1 : Int32), .int a1], [], h)
  have hpl := hp
  refine am_itr (E := (fun (v1 : Int32 × Int32) => am_Ev m_M_endOf (WM ++ e1) ro P (4, [.ref 0, .int a1, .int v1.1, .int v1.2], [], h))) (E' := (fun (r1 : Int32 × Int32) => am_Ev m_M_endOf (WM ++ e1) ro P (72, [.ref 0, .int a1, .int r1.1, .int r1.2], [], h))) (s_M_endOf_4 h a1) (ps_M_endOf_4 h a1) ?_ NF ((-1 : Int32), a1) hpl ?_
  · intro v1 hp hc1 hx1
    show am_Ev m_M_endOf (WM ++ e1) ro P (4, [.ref 0, .int a1, .int v1.1, .int v1.2], [], h)
    unfold ps_M_endOf_4 at hp
    refine am_Ev_G [14, 72] 400 _ ?_
    show ((v1.2 = (-1 : Int32) → am_Ev m_M_endOf (WM ++ e1) ro P (72, [.ref 0, .int a1, .int v1.1, .int v1.2], [], h)) ∧ (¬ v1.2 = (-1 : Int32) → ((p_M_arrival h v1.2) ∧ am_Ev m_M_endOf (WM ++ e1) ro P (14, [.ref 0, .int a1, .int v1.1, .int v1.2], [.int (v_M_arrival h v1.2)], h))))
    refine ⟨fun c1 => ?_, fun c1 => ?_⟩
    · skip
      exact hx1 (v1.1, v1.2) (by unfold s_M_endOf_4; simp only [if_pos c1])
    · have hp := hp.2 c1
      obtain ⟨hob, hp⟩ := hp
      refine ⟨hob, ?_⟩
      refine am_Ev_G [36, 72] 400 _ ?_
      show ((p_M_of h a1 3) ∧ ((am_in 9 163) ∧ ((¬ ((v_M_arrival h v1.2) - (v_M_of h a1 3)) ≤ (h.1 1 (am_ix 9)) → am_Ev m_M_endOf (WM ++ e1) ro P (72, [.ref 0, .int a1, .int v1.1, .int v1.2], [], h)) ∧ (((v_M_arrival h v1.2) - (v_M_of h a1 3)) ≤ (h.1 1 (am_ix 9)) → ((p_M_next h v1.2) ∧ am_Ev m_M_endOf (WM ++ e1) ro P (36, [.ref 0, .int a1, .int v1.1, .int v1.2], [.int (v_M_next h v1.2)], h))))))
      obtain ⟨hob, hp⟩ := hp
      refine ⟨hob, ?_⟩
      refine ⟨⟨by decide, by decide⟩, ?_⟩
      refine ⟨fun c2 => ?_, fun c2 => ?_⟩
      · skip
        exact hx1 (v1.1, v1.2) (by unfold s_M_endOf_4; simp only [if_neg c1, if_neg c2])
      · have hp := hp.1 c2
        obtain ⟨hob, hp⟩ := hp
        refine ⟨hob, ?_⟩
        refine am_Ev_G [37] 400 _ ?_
        show am_Ev m_M_endOf (WM ++ e1) ro P (37, [.ref 0, .int a1, .int v1.1, .int v1.2], [.int (-1 : Int32), .int (v_M_next h v1.2)], h)
        obtain ⟨hpa, hp⟩ := hp
        have key3 : am_Ev m_M_endOf (WM ++ e1) ro P (62, [.ref 0, .int a1, .int v1.1, .int v1.2], [.int (if (v_M_next h v1.2) = (-1 : Int32) then v1.2 else (if (h.1 1 (am_ix (4 + (v_M_of h v1.2 2)))) = 1 then v1.2 else v1.1))], h) := by
          refine am_Ev_G [68] 400 _ ?_
          show ((p_M_next h v1.2) ∧ am_Ev m_M_endOf (WM ++ e1) ro P (68, [.ref 0, .int a1, .int (if (v_M_next h v1.2) = (-1 : Int32) then v1.2 else (if (h.1 1 (am_ix (4 + (v_M_of h v1.2 2)))) = 1 then v1.2 else v1.1)), .int v1.2], [.int (v_M_next h v1.2)], h))
          refine ⟨hp, ?_⟩
          refine am_Ev_G [4] 400 _ ?_
          show am_Ev m_M_endOf (WM ++ e1) ro P (4, [.ref 0, .int a1, .int (if (v_M_next h v1.2) = (-1 : Int32) then v1.2 else (if (h.1 1 (am_ix (4 + (v_M_of h v1.2 2)))) = 1 then v1.2 else v1.1)), .int (v_M_next h v1.2)], [], h)
          exact hc1 ((if (v_M_next h v1.2) = (-1 : Int32) then v1.2 else (if (h.1 1 (am_ix (4 + (v_M_of h v1.2 2)))) = 1 then v1.2 else v1.1)), (v_M_next h v1.2)) (by unfold s_M_endOf_4; simp only [if_neg c1, if_pos c2])
        have hp := hpa
        refine am_Ev_G [62] 400 _ ?_
        show (((v_M_next h v1.2) = (-1 : Int32) → am_Ev m_M_endOf (WM ++ e1) ro P (62, [.ref 0, .int a1, .int v1.1, .int v1.2], [.int v1.2], h)) ∧ (¬ (v_M_next h v1.2) = (-1 : Int32) → ((p_M_of h v1.2 2) ∧ ((am_in (4 + (v_M_of h v1.2 2)) 163) ∧ ((¬ (h.1 1 (am_ix (4 + (v_M_of h v1.2 2)))) = 1 → am_Ev m_M_endOf (WM ++ e1) ro P (62, [.ref 0, .int a1, .int v1.1, .int v1.2], [.int v1.1], h)) ∧ ((h.1 1 (am_ix (4 + (v_M_of h v1.2 2)))) = 1 → am_Ev m_M_endOf (WM ++ e1) ro P (62, [.ref 0, .int a1, .int v1.1, .int v1.2], [.int v1.2], h)))))))
        refine ⟨fun c4 => ?_, fun c4 => ?_⟩
        · skip
          simpa only [if_pos c4] using key3
        · have hp := hp.2 c4
          obtain ⟨hob, hp⟩ := hp
          refine ⟨hob, ?_⟩
          refine ⟨hp, ?_⟩
          refine ⟨fun c5 => ?_, fun c5 => ?_⟩
          · skip
            simpa only [if_neg c4, if_neg c5] using key3
          · skip
            simpa only [if_neg c4, if_pos c5] using key3
  · intro r1 hr6
    show am_Ev m_M_endOf (WM ++ e1) ro P (72, [.ref 0, .int a1, .int r1.1, .int r1.2], [], h)
    refine am_Ev_G [] 400 _ ?_
    show P (.inl (some (.int r1.1))) h
    exact hP r1.1 (by unfold v_M_endOf; simp only [hr6])
theorem ok_M_endOf {l : Launch} (hl : l.stackTraces = false) (e1 ro : List Sh) (k : Nat) : am_Ok l (WM ++ e1) ro (d_M_endOf k) := by
  refine am_met hl (own := RX6) (M := m_M_endOf) rfl pf_M_endOf cu_M_endOf rfl rfl rfl rfl (fun _ => rfl) rfl ⟨chk_M_endOf, (am_c (fl_M_7) am_n), (am_c (lk_M_49) (am_c (lk_M_53) (am_c (lk_M_57) am_n))), (am_n), (am_n)⟩ (am_n) (am_c (ok_M_of hl e1 _ 16) (am_c (ok_M_arrival hl e1 _ 16) (am_c (ok_M_next hl e1 _ 16) am_n))) (fun z => nomatch z) ?_ ?_
  · intro _ as h hg
    show g_thr (g_M_endOf (WM ++ e1) ro as h) = none
    unfold g_M_endOf
    split <;> rfl
  · intro as h hg hp
    revert hg hp
    show g_ok (g_M_endOf (WM ++ e1) ro as h) = true → g_pre (g_M_endOf (WM ++ e1) ro as h) → _ ∧ am_Ev m_M_endOf (WM ++ e1) ro (am_eq (g_M_endOf (WM ++ e1) ro as h)) (0, am_ent as 4, [], h)
    unfold g_M_endOf
    split
    · rename_i o1 a1
      intro hc hp
      change (Nat.beq o1 0) = true at hc
      obtain rfl := am_beq hc
      exact ⟨Nat.le_of_ble_eq_true rfl, ev_M_endOf h a1 hp eqRI⟩
    · exact fun z => nomatch z
def k_M_cuts (pc : Nat) : Ent := bif Nat.ble 47 pc then am_nop else bif Nat.ble 22 pc then (bif Nat.ble 32 pc then (bif Nat.ble 41 pc then (bif Nat.ble 45 pc then (bif Nat.ble 46 pc then (bif Nat.beq pc 46 then (.ireturn, 0, 0, []) else am_nop) else (bif Nat.beq pc 45 then (.iload_n 2, 0, 2, []) else am_nop)) else (bif Nat.ble 42 pc then (bif Nat.beq pc 42 then (.goto (-38), 0, 4, []) else am_nop) else (bif Nat.beq pc 41 then (.istore_n 3, 0, 3, []) else am_nop))) else (bif Nat.ble 36 pc then (bif Nat.ble 38 pc then (bif Nat.beq pc 38 then (.invokevirtual 57, 0, 0, []) else am_nop) else (bif Nat.beq pc 36 then (.iload 4, 0, 4, []) else am_nop)) else (bif Nat.ble 35 pc then (bif Nat.beq pc 35 then (.aload_n 0, 0, 0, []) else am_nop) else (bif Nat.beq pc 32 then (.iinc 2 1, 1, 2, []) else am_nop)))) else (bif Nat.ble 25 pc then (bif Nat.ble 29 pc then (bif Nat.ble 31 pc then (bif Nat.beq pc 31 then (.iastore, 0, 0, []) else am_nop) else (bif Nat.beq pc 29 then (.iload 4, 0, 4, []) else am_nop)) else (bif Nat.ble 28 pc then (bif Nat.beq pc 28 then (.iload_n 2, 0, 2, []) else am_nop) else (bif Nat.beq pc 25 then (.getfield 29, 0, 0, []) else am_nop))) else (bif Nat.ble 23 pc then (bif Nat.ble 24 pc then (bif Nat.beq pc 24 then (.aload_n 0, 0, 0, []) else am_nop) else (bif Nat.beq pc 23 then (.ireturn, 0, 0, []) else am_nop)) else (bif Nat.beq pc 22 then (.iconst (-1), (-1 : Int32), 0, []) else am_nop)))) else (bif Nat.ble 9 pc then (bif Nat.ble 14 pc then (bif Nat.ble 18 pc then (bif Nat.ble 19 pc then (bif Nat.beq pc 19 then (.if_icmp .ne 5, 0, 24, []) else am_nop) else (bif Nat.beq pc 18 then (.iconst (-1), (-1 : Int32), 0, []) else am_nop)) else (bif Nat.ble 16 pc then (bif Nat.beq pc 16 then (.iload 4, 0, 4, []) else am_nop) else (bif Nat.beq pc 14 then (.istore 4, 0, 4, []) else am_nop))) else (bif Nat.ble 10 pc then (bif Nat.ble 11 pc then (bif Nat.beq pc 11 then (.invokevirtual 114, 0, 0, []) else am_nop) else (bif Nat.beq pc 10 then (.iload_n 3, 0, 3, []) else am_nop)) else (bif Nat.beq pc 9 then (.aload_n 0, 0, 0, []) else am_nop))) else (bif Nat.ble 3 pc then (bif Nat.ble 5 pc then (bif Nat.ble 6 pc then (bif Nat.beq pc 6 then (.if_icmp .eq 39, 0, 45, []) else am_nop) else (bif Nat.beq pc 5 then (.iconst (-1), (-1 : Int32), 0, []) else am_nop)) else (bif Nat.ble 4 pc then (bif Nat.beq pc 4 then (.iload_n 3, 0, 3, []) else am_nop) else (bif Nat.beq pc 3 then (.istore_n 3, 0, 3, []) else am_nop))) else (bif Nat.ble 1 pc then (bif Nat.ble 2 pc then (bif Nat.beq pc 2 then (.iload_n 1, 0, 1, []) else am_nop) else (bif Nat.beq pc 1 then (.istore_n 2, 0, 2, []) else am_nop)) else (bif Nat.beq pc 0 then (.iconst 0, 0, 0, []) else am_nop))))
theorem fl_M_29 : am_fok RX6 29 (6, 10) := ⟨RX6, TX6, 16, rfl, by decide, rfl, Or.inl (am_tb 894 (by decide +kernel) rfl)⟩
theorem lk_M_114 : am_lnk RX6 114 (d_M_endOf 16) := ⟨⟨by decide, by decide⟩, am_tb 8 (by decide +kernel) rfl, Or.inr ⟨by decide, rfl, am_tb 1207 (by decide +kernel) rfl, am_tp 113 (by decide +kernel) rfl, ⟨TX6, 16, rfl⟩, Or.inl (am_tb 1205 (by decide +kernel) rfl)⟩⟩
def m_M_cuts : MI := (k_M_cuts, [(29, 6, 10)], [(57, d_M_next 16), (114, d_M_endOf 16)], [], [], [], [], 3, 66, some .int, fun _ => 0, 1)
def s_M_cuts_4 (h : HP) (a1 : Int32) (v1 : Int32 × Int32 × HP) : (Int32 × Int32 × HP) ⊕ ((Int32 × Int32 × HP) ⊕ (Int32 × HP)) := (if v1.2.1 = (-1 : Int32) then (.inr (.inl (v1.1, v1.2.1, v1.2.2))) else (if (v_M_endOf v1.2.2 v1.2.1) = (-1 : Int32) then (.inr (.inr ((-1 : Int32), v1.2.2))) else (.inl ((v1.1 + 1), (v_M_next (am_si v1.2.2 7 (am_ix v1.1) (v_M_endOf v1.2.2 v1.2.1)) (v_M_endOf v1.2.2 v1.2.1)), (am_si v1.2.2 7 (am_ix v1.1) (v_M_endOf v1.2.2 v1.2.1))))))
def ps_M_cuts_4 (h : HP) (a1 : Int32) (v1 : Int32 × Int32 × HP) : Prop := ((v1.2.1 = (-1 : Int32) → True) ∧ (¬ v1.2.1 = (-1 : Int32) → ((p_M_endOf v1.2.2 v1.2.1) ∧ (((v_M_endOf v1.2.2 v1.2.1) = (-1 : Int32) → True) ∧ (¬ (v_M_endOf v1.2.2 v1.2.1) = (-1 : Int32) → ((am_in v1.1 20) ∧ (p_M_next (am_si v1.2.2 7 (am_ix v1.1) (v_M_endOf v1.2.2 v1.2.1)) (v_M_endOf v1.2.2 v1.2.1))))))))
def v_M_cuts (h : HP) (a1 : Int32) : Int32 × HP := (match itr (s_M_cuts_4 h a1) NF (0, a1, h) with | some (.inl r1) => (r1.1, r1.2.2) | some (.inr q) => q | none => (0, h))
def p_M_cuts (h : HP) (a1 : Int32) : Prop := (itrp (s_M_cuts_4 h a1) (ps_M_cuts_4 h a1) NF (0, a1, h))
def g_M_cuts (_ _ : List Sh) (as : List Value) (h : HP) : GR := match as with
  | [.ref o1, .int a1] => (Nat.beq o1 0, p_M_cuts h a1, none, some (.int (v_M_cuts h a1).1), (v_M_cuts h a1).2)
  | _ => bad h
def d_M_cuts (k : Nat) : CD := (k, yX6_cuts, cX6_cuts, 5, some .int, 2, 3, 66, 0, false, true, g_M_cuts)
theorem chk_M_cuts : ∀ pc, am_chk cX6_cuts k_M_cuts pc = true := am_chkall 47 (by decide +kernel) (fun pc h => by unfold k_M_cuts; rw [Nat.ble_eq_true_of_le h]; rfl)
theorem pf_M_cuts : plainFor yX6_cuts = true := by decide +kernel
theorem cu_M_cuts : Cond.code yX6_cuts cX6_cuts 5 (some .int) ∈ am_U := am_tb 1204 (by decide +kernel) rfl
set_option maxHeartbeats 20000000 in
set_option maxRecDepth 100000 in
theorem ev_M_cuts {e1 ro : List Sh} {P : AR → HP → Prop} (h : HP) (a1 : Int32) (hp : p_M_cuts h a1) (hP : ∀ q, v_M_cuts h a1 = q → RIW P h q) : am_Ev m_M_cuts (WM ++ e1) ro P (0, [.ref 0, .int a1, .retAddr 0, .retAddr 0, .retAddr 0], [], h) := by
  unfold p_M_cuts at hp
  refine am_Ev_G [4] 400 _ ?_
  show am_Ev m_M_cuts (WM ++ e1) ro P (4, [.ref 0, .int a1, .int 0, .int a1, .retAddr 0], [], h)
  refine am_fg 1 ?_
  have hpl := hp
  refine am_itr (E := (fun (v1 : Int32 × Int32 × HP) => am_Ev m_M_cuts (WM ++ e1) ro P (4, [.ref 0, .retAddr 0, .int v1.1, .int v1.2.1, .retAddr 0], [], v1.2.2))) (E' := (fun (x : (Int32 × Int32 × HP) ⊕ (Int32 × HP)) => match x with | .inl r1 => am_Ev m_M_cuts (WM ++ e1) ro P (45, [.ref 0, .retAddr 0, .int r1.1, .int r1.2.1, .retAddr 0], [], r1.2.2) | .inr q => RIW P h q)) (s_M_cuts_4 h a1) (ps_M_cuts_4 h a1) ?_ NF (0, a1, h) hpl ?_
  · intro v1 hp hc1 hx1
    show am_Ev m_M_cuts (WM ++ e1) ro P (4, [.ref 0, .retAddr 0, .int v1.1, .int v1.2.1, .retAddr 0], [], v1.2.2)
    unfold ps_M_cuts_4 at hp
    refine am_Ev_G [14, 45] 400 _ ?_
    show ((v1.2.1 = (-1 : Int32) → am_Ev m_M_cuts (WM ++ e1) ro P (45, [.ref 0, .retAddr 0, .int v1.1, .int v1.2.1, .retAddr 0], [], v1.2.2)) ∧ (¬ v1.2.1 = (-1 : Int32) → ((p_M_endOf v1.2.2 v1.2.1) ∧ am_Ev m_M_cuts (WM ++ e1) ro P (14, [.ref 0, .retAddr 0, .int v1.1, .int v1.2.1, .retAddr 0], [.int (v_M_endOf v1.2.2 v1.2.1)], v1.2.2))))
    refine ⟨fun c1 => ?_, fun c1 => ?_⟩
    · skip
      exact hx1 (.inl (v1.1, v1.2.1, v1.2.2)) (by unfold s_M_cuts_4; simp only [if_pos c1])
    · have hp := hp.2 c1
      obtain ⟨hob, hp⟩ := hp
      refine ⟨hob, ?_⟩
      refine am_Ev_G [32] 400 _ ?_
      show ((¬ (v_M_endOf v1.2.2 v1.2.1) = (-1 : Int32) → ((am_in v1.1 20) ∧ am_Ev m_M_cuts (WM ++ e1) ro P (32, [.ref 0, .retAddr 0, .int v1.1, .int v1.2.1, .int (v_M_endOf v1.2.2 v1.2.1)], [], (am_si v1.2.2 7 (am_ix v1.1) (v_M_endOf v1.2.2 v1.2.1))))) ∧ ((v_M_endOf v1.2.2 v1.2.1) = (-1 : Int32) → P (.inl (some (.int (-1 : Int32)))) v1.2.2))
      refine ⟨fun c2 => ?_, fun c2 => ?_⟩
      · have hp := hp.2 c2
        obtain ⟨hob, hp⟩ := hp
        refine ⟨hob, ?_⟩
        refine am_Ev_G [41] 400 _ ?_
        show ((p_M_next (am_si v1.2.2 7 (am_ix v1.1) (v_M_endOf v1.2.2 v1.2.1)) (v_M_endOf v1.2.2 v1.2.1)) ∧ am_Ev m_M_cuts (WM ++ e1) ro P (41, [.ref 0, .retAddr 0, .int (v1.1 + 1), .int v1.2.1, .int (v_M_endOf v1.2.2 v1.2.1)], [.int (v_M_next (am_si v1.2.2 7 (am_ix v1.1) (v_M_endOf v1.2.2 v1.2.1)) (v_M_endOf v1.2.2 v1.2.1))], (am_si v1.2.2 7 (am_ix v1.1) (v_M_endOf v1.2.2 v1.2.1))))
        refine ⟨hp, ?_⟩
        refine am_Ev_G [4] 400 _ ?_
        show am_Ev m_M_cuts (WM ++ e1) ro P (4, [.ref 0, .retAddr 0, .int (v1.1 + 1), .int (v_M_next (am_si v1.2.2 7 (am_ix v1.1) (v_M_endOf v1.2.2 v1.2.1)) (v_M_endOf v1.2.2 v1.2.1)), .int (v_M_endOf v1.2.2 v1.2.1)], [], (am_si v1.2.2 7 (am_ix v1.1) (v_M_endOf v1.2.2 v1.2.1)))
        refine am_fg 4 ?_
        exact hc1 ((v1.1 + 1), (v_M_next (am_si v1.2.2 7 (am_ix v1.1) (v_M_endOf v1.2.2 v1.2.1)) (v_M_endOf v1.2.2 v1.2.1)), (am_si v1.2.2 7 (am_ix v1.1) (v_M_endOf v1.2.2 v1.2.1))) (by unfold s_M_cuts_4; simp only [if_neg c1, if_neg c2])
      · skip
        exact hx1 (.inr ((-1 : Int32), v1.2.2)) (by unfold s_M_cuts_4; simp only [if_neg c1, if_pos c2])
  · intro x hr3
    rcases x with r1 | q
    · skip
      show am_Ev m_M_cuts (WM ++ e1) ro P (45, [.ref 0, .retAddr 0, .int r1.1, .int r1.2.1, .retAddr 0], [], r1.2.2)
      refine am_Ev_G [] 400 _ ?_
      show P (.inl (some (.int r1.1))) r1.2.2
      exact hP (r1.1, r1.2.2) (by unfold v_M_cuts; simp only [hr3])
    · show RIW P h q
      exact hP q (by unfold v_M_cuts; simp only [hr3])
theorem ok_M_cuts {l : Launch} (hl : l.stackTraces = false) (e1 ro : List Sh) (k : Nat) : am_Ok l (WM ++ e1) ro (d_M_cuts k) := by
  refine am_met hl (own := RX6) (M := m_M_cuts) rfl pf_M_cuts cu_M_cuts rfl rfl rfl rfl (fun _ => rfl) rfl ⟨chk_M_cuts, (am_c (fl_M_29) am_n), (am_c (lk_M_57) (am_c (lk_M_114) am_n)), (am_n), (am_n)⟩ (am_n) (am_c (ok_M_next hl e1 _ 16) (am_c (ok_M_endOf hl e1 _ 16) am_n)) (fun z => nomatch z) ?_ ?_
  · intro _ as h hg
    show g_thr (g_M_cuts (WM ++ e1) ro as h) = none
    unfold g_M_cuts
    split <;> rfl
  · intro as h hg hp
    revert hg hp
    show g_ok (g_M_cuts (WM ++ e1) ro as h) = true → g_pre (g_M_cuts (WM ++ e1) ro as h) → _ ∧ am_Ev m_M_cuts (WM ++ e1) ro (am_eq (g_M_cuts (WM ++ e1) ro as h)) (0, am_ent as 5, [], h)
    unfold g_M_cuts
    split
    · rename_i o1 a1
      intro hc hp
      change (Nat.beq o1 0) = true at hc
      obtain rfl := am_beq hc
      exact ⟨Nat.le_of_ble_eq_true rfl, ev_M_cuts h a1 hp eqRIW⟩
    · exact fun z => nomatch z
def k_M_settles (pc : Nat) : Ent := bif Nat.ble 167 pc then am_nop else bif Nat.ble 81 pc then (bif Nat.ble 126 pc then (bif Nat.ble 146 pc then (bif Nat.ble 156 pc then (bif Nat.ble 159 pc then (bif Nat.ble 163 pc then (bif Nat.ble 166 pc then (bif Nat.beq pc 166 then (.return_, 0, 0, []) else am_nop) else (bif Nat.beq pc 163 then (.goto (-154), 0, 9, []) else am_nop)) else (bif Nat.ble 162 pc then (bif Nat.beq pc 162 then (.istore_n 2, 0, 2, []) else am_nop) else (bif Nat.beq pc 159 then (.invokevirtual 57, 0, 0, []) else am_nop))) else (bif Nat.ble 157 pc then (bif Nat.ble 158 pc then (bif Nat.beq pc 158 then (.iload_n 2, 0, 2, []) else am_nop) else (bif Nat.beq pc 157 then (.aload_n 0, 0, 0, []) else am_nop)) else (bif Nat.beq pc 156 then (.iastore, 0, 0, []) else am_nop))) else (bif Nat.ble 151 pc then (bif Nat.ble 154 pc then (bif Nat.ble 155 pc then (bif Nat.beq pc 155 then (.iaload, 0, 0, []) else am_nop) else (bif Nat.beq pc 154 then (.iload_n 1, 0, 1, []) else am_nop)) else (bif Nat.beq pc 151 then (.getfield 32, 0, 0, []) else am_nop)) else (bif Nat.ble 147 pc then (bif Nat.ble 150 pc then (bif Nat.beq pc 150 then (.aload_n 0, 0, 0, []) else am_nop) else (bif Nat.beq pc 147 then (.goto 9, 0, 156, []) else am_nop)) else (bif Nat.beq pc 146 then (.iadd, 0, 0, []) else am_nop)))) else (bif Nat.ble 135 pc then (bif Nat.ble 140 pc then (bif Nat.ble 143 pc then (bif Nat.ble 144 pc then (bif Nat.beq pc 144 then (.iload 4, 0, 4, []) else am_nop) else (bif Nat.beq pc 143 then (.iconst 1, 1, 0, []) else am_nop)) else (bif Nat.beq pc 140 then (.if_icmp .ge 10, 0, 150, []) else am_nop)) else (bif Nat.ble 138 pc then (bif Nat.ble 139 pc then (bif Nat.beq pc 139 then (.iaload, 0, 0, []) else am_nop) else (bif Nat.beq pc 138 then (.iload_n 1, 0, 1, []) else am_nop)) else (bif Nat.beq pc 135 then (.getfield 32, 0, 0, []) else am_nop))) else (bif Nat.ble 131 pc then (bif Nat.ble 133 pc then (bif Nat.ble 134 pc then (bif Nat.beq pc 134 then (.aload_n 0, 0, 0, []) else am_nop) else (bif Nat.beq pc 133 then (.iadd, 0, 0, []) else am_nop)) else (bif Nat.beq pc 131 then (.iload 4, 0, 4, []) else am_nop)) else (bif Nat.ble 127 pc then (bif Nat.ble 130 pc then (bif Nat.beq pc 130 then (.iconst 1, 1, 0, []) else am_nop) else (bif Nat.beq pc 127 then (.if_icmp .eq 16, 0, 143, []) else am_nop)) else (bif Nat.beq pc 126 then (.iconst (-1), (-1 : Int32), 0, []) else am_nop))))) else (bif Nat.ble 103 pc then (bif Nat.ble 114 pc then (bif Nat.ble 120 pc then (bif Nat.ble 124 pc then (bif Nat.ble 125 pc then (bif Nat.beq pc 125 then (.iaload, 0, 0, []) else am_nop) else (bif Nat.beq pc 124 then (.iload_n 1, 0, 1, []) else am_nop)) else (bif Nat.ble 121 pc then (bif Nat.beq pc 121 then (.getfield 32, 0, 0, []) else am_nop) else (bif Nat.beq pc 120 then (.aload_n 0, 0, 0, []) else am_nop))) else (bif Nat.ble 115 pc then (bif Nat.ble 117 pc then (bif Nat.beq pc 117 then (.ifCond .eq 33, 0, 150, []) else am_nop) else (bif Nat.beq pc 115 then (.iload 5, 0, 5, []) else am_nop)) else (bif Nat.beq pc 114 then (.iload_n 1, 0, 1, []) else am_nop))) else (bif Nat.ble 108 pc then (bif Nat.ble 110 pc then (bif Nat.ble 111 pc then (bif Nat.beq pc 111 then (.getfield 32, 0, 0, []) else am_nop) else (bif Nat.beq pc 110 then (.aload_n 0, 0, 0, []) else am_nop)) else (bif Nat.beq pc 108 then (.istore 5, 0, 5, []) else am_nop)) else (bif Nat.ble 104 pc then (bif Nat.ble 107 pc then (bif Nat.beq pc 107 then (.iconst 0, 0, 0, []) else am_nop) else (bif Nat.beq pc 104 then (.goto 4, 0, 108, []) else am_nop)) else (bif Nat.beq pc 103 then (.iconst 1, 1, 0, []) else am_nop)))) else (bif Nat.ble 91 pc then (bif Nat.ble 97 pc then (bif Nat.ble 99 pc then (bif Nat.ble 100 pc then (bif Nat.beq pc 100 then (.if_icmp .eq 7, 0, 107, []) else am_nop) else (bif Nat.beq pc 99 then (.iconst (-1), (-1 : Int32), 0, []) else am_nop)) else (bif Nat.beq pc 97 then (.iload 4, 0, 4, []) else am_nop)) else (bif Nat.ble 93 pc then (bif Nat.ble 94 pc then (bif Nat.beq pc 94 then (.if_icmp .gt 13, 0, 107, []) else am_nop) else (bif Nat.beq pc 93 then (.iaload, 0, 0, []) else am_nop)) else (bif Nat.beq pc 91 then (.bipush 9, 9, 0, []) else am_nop))) else (bif Nat.ble 86 pc then (bif Nat.ble 87 pc then (bif Nat.ble 88 pc then (bif Nat.beq pc 88 then (.getfield 7, 0, 0, []) else am_nop) else (bif Nat.beq pc 87 then (.aload_n 0, 0, 0, []) else am_nop)) else (bif Nat.beq pc 86 then (.isub, 0, 0, []) else am_nop)) else (bif Nat.ble 82 pc then (bif Nat.ble 83 pc then (bif Nat.beq pc 83 then (.invokevirtual 49, 0, 0, []) else am_nop) else (bif Nat.beq pc 82 then (.iconst 3, 3, 0, []) else am_nop)) else (bif Nat.beq pc 81 then (.iload_n 1, 0, 1, []) else am_nop)))))) else (bif Nat.ble 37 pc then (bif Nat.ble 59 pc then (bif Nat.ble 69 pc then (bif Nat.ble 75 pc then (bif Nat.ble 77 pc then (bif Nat.ble 80 pc then (bif Nat.beq pc 80 then (.aload_n 0, 0, 0, []) else am_nop) else (bif Nat.beq pc 77 then (.invokevirtual 53, 0, 0, []) else am_nop)) else (bif Nat.ble 76 pc then (bif Nat.beq pc 76 then (.iload_n 2, 0, 2, []) else am_nop) else (bif Nat.beq pc 75 then (.aload_n 0, 0, 0, []) else am_nop))) else (bif Nat.ble 71 pc then (bif Nat.ble 72 pc then (bif Nat.beq pc 72 then (.ifCond .eq 35, 0, 107, []) else am_nop) else (bif Nat.beq pc 71 then (.iload_n 3, 0, 3, []) else am_nop)) else (bif Nat.beq pc 69 then (.istore 4, 0, 4, []) else am_nop))) else (bif Nat.ble 64 pc then (bif Nat.ble 65 pc then (bif Nat.ble 68 pc then (bif Nat.beq pc 68 then (.iaload, 0, 0, []) else am_nop) else (bif Nat.beq pc 65 then (.invokevirtual 57, 0, 0, []) else am_nop)) else (bif Nat.beq pc 64 then (.iload_n 2, 0, 2, []) else am_nop)) else (bif Nat.ble 60 pc then (bif Nat.ble 63 pc then (bif Nat.beq pc 63 then (.aload_n 0, 0, 0, []) else am_nop) else (bif Nat.beq pc 60 then (.getfield 32, 0, 0, []) else am_nop)) else (bif Nat.beq pc 59 then (.aload_n 0, 0, 0, []) else am_nop)))) else (bif Nat.ble 47 pc then (bif Nat.ble 52 pc then (bif Nat.ble 55 pc then (bif Nat.ble 56 pc then (bif Nat.beq pc 56 then (.goto 13, 0, 69, []) else am_nop) else (bif Nat.beq pc 55 then (.iconst 0, 0, 0, []) else am_nop)) else (bif Nat.beq pc 52 then (.if_icmp .ne 7, 0, 59, []) else am_nop)) else (bif Nat.ble 48 pc then (bif Nat.ble 51 pc then (bif Nat.beq pc 51 then (.iconst (-1), (-1 : Int32), 0, []) else am_nop) else (bif Nat.beq pc 48 then (.invokevirtual 57, 0, 0, []) else am_nop)) else (bif Nat.beq pc 47 then (.iload_n 2, 0, 2, []) else am_nop))) else (bif Nat.ble 44 pc then (bif Nat.ble 45 pc then (bif Nat.ble 46 pc then (bif Nat.beq pc 46 then (.aload_n 0, 0, 0, []) else am_nop) else (bif Nat.beq pc 45 then (.istore_n 3, 0, 3, []) else am_nop)) else (bif Nat.beq pc 44 then (.iconst 0, 0, 0, []) else am_nop)) else (bif Nat.ble 40 pc then (bif Nat.ble 41 pc then (bif Nat.beq pc 41 then (.goto 4, 0, 45, []) else am_nop) else (bif Nat.beq pc 40 then (.iconst 1, 1, 0, []) else am_nop)) else (bif Nat.beq pc 37 then (.if_icmp .ne 7, 0, 44, []) else am_nop))))) else (bif Nat.ble 16 pc then (bif Nat.ble 28 pc then (bif Nat.ble 31 pc then (bif Nat.ble 35 pc then (bif Nat.ble 36 pc then (bif Nat.beq pc 36 then (.iconst 1, 1, 0, []) else am_nop) else (bif Nat.beq pc 35 then (.iaload, 0, 0, []) else am_nop)) else (bif Nat.ble 34 pc then (bif Nat.beq pc 34 then (.iadd, 0, 0, []) else am_nop) else (bif Nat.beq pc 31 then (.invokevirtual 49, 0, 0, []) else am_nop))) else (bif Nat.ble 29 pc then (bif Nat.ble 30 pc then (bif Nat.beq pc 30 then (.iconst 2, 2, 0, []) else am_nop) else (bif Nat.beq pc 29 then (.iload_n 2, 0, 2, []) else am_nop)) else (bif Nat.beq pc 28 then (.aload_n 0, 0, 0, []) else am_nop))) else (bif Nat.ble 23 pc then (bif Nat.ble 24 pc then (bif Nat.ble 27 pc then (bif Nat.beq pc 27 then (.iconst 4, 4, 0, []) else am_nop) else (bif Nat.beq pc 24 then (.getfield 7, 0, 0, []) else am_nop)) else (bif Nat.beq pc 23 then (.aload_n 0, 0, 0, []) else am_nop)) else (bif Nat.ble 19 pc then (bif Nat.ble 20 pc then (bif Nat.beq pc 20 then (.if_icmp .eq 20, 0, 40, []) else am_nop) else (bif Nat.beq pc 19 then (.iconst (-1), (-1 : Int32), 0, []) else am_nop)) else (bif Nat.beq pc 16 then (.invokevirtual 57, 0, 0, []) else am_nop)))) else (bif Nat.ble 8 pc then (bif Nat.ble 11 pc then (bif Nat.ble 14 pc then (bif Nat.ble 15 pc then (bif Nat.beq pc 15 then (.iload_n 2, 0, 2, []) else am_nop) else (bif Nat.beq pc 14 then (.aload_n 0, 0, 0, []) else am_nop)) else (bif Nat.beq pc 11 then (.if_icmp .eq 155, 0, 166, []) else am_nop)) else (bif Nat.ble 9 pc then (bif Nat.ble 10 pc then (bif Nat.beq pc 10 then (.iconst (-1), (-1 : Int32), 0, []) else am_nop) else (bif Nat.beq pc 9 then (.iload_n 2, 0, 2, []) else am_nop)) else (bif Nat.beq pc 8 then (.istore_n 2, 0, 2, []) else am_nop))) else (bif Nat.ble 5 pc then (bif Nat.ble 6 pc then (bif Nat.ble 7 pc then (bif Nat.beq pc 7 then (.iload_n 1, 0, 1, []) else am_nop) else (bif Nat.beq pc 6 then (.iastore, 0, 0, []) else am_nop)) else (bif Nat.beq pc 5 then (.iconst (-1), (-1 : Int32), 0, []) else am_nop)) else (bif Nat.ble 1 pc then (bif Nat.ble 4 pc then (bif Nat.beq pc 4 then (.iload_n 1, 0, 1, []) else am_nop) else (bif Nat.beq pc 1 then (.getfield 32, 0, 0, []) else am_nop)) else (bif Nat.beq pc 0 then (.aload_n 0, 0, 0, []) else am_nop))))))
theorem fl_M_32 : am_fok RX6 32 (6, 11) := ⟨RX6, TX6, 16, rfl, by decide, rfl, Or.inl (am_tb 895 (by decide +kernel) rfl)⟩
def m_M_settles : MI := (k_M_settles, [(7, 6, 0), (32, 6, 11)], [(49, d_M_of 16), (53, d_M_arrival 16), (57, d_M_next 16)], [], [], [], [], 2, 43, none, fun _ => 0, 1)
def s_M_settles_9 (h : HP) (a1 : Int32) (v1 : Int32 × HP) : (Int32 × HP) ⊕ (Int32 × HP) := (if v1.1 = (-1 : Int32) then (.inr (v1.1, v1.2)) else (.inl ((v_M_next (am_si v1.2 8 (am_ix a1) (if ((if ((if (v_M_next v1.2 v1.1) = (-1 : Int32) then (1 : Int32) else (if (v1.2.1 1 (am_ix (4 + (v_M_of v1.2 v1.1 2)))) = 1 then (1 : Int32) else 0)) : Int32) = 0 then (0 : Int32) else (if ((v_M_arrival v1.2 v1.1) - (v_M_of v1.2 a1 3)) ≤ (v1.2.1 1 (am_ix 9)) then (if ((if (v_M_next v1.2 v1.1) = (-1 : Int32) then (0 : Int32) else v1.2.1 8 (am_ix (v_M_next v1.2 v1.1))) : Int32) = (-1 : Int32) then (0 : Int32) else 1) else 0)) : Int32) = 0 then v1.2.1 8 (am_ix a1) else (if (v1.2.1 8 (am_ix a1)) = (-1 : Int32) then (1 + (if (v_M_next v1.2 v1.1) = (-1 : Int32) then (0 : Int32) else v1.2.1 8 (am_ix (v_M_next v1.2 v1.1)))) else (if (1 + (if (v_M_next v1.2 v1.1) = (-1 : Int32) then (0 : Int32) else v1.2.1 8 (am_ix (v_M_next v1.2 v1.1)))) < (v1.2.1 8 (am_ix a1)) then (1 + (if (v_M_next v1.2 v1.1) = (-1 : Int32) then (0 : Int32) else v1.2.1 8 (am_ix (v_M_next v1.2 v1.1)))) else v1.2.1 8 (am_ix a1))))) v1.1), (am_si v1.2 8 (am_ix a1) (if ((if ((if (v_M_next v1.2 v1.1) = (-1 : Int32) then (1 : Int32) else (if (v1.2.1 1 (am_ix (4 + (v_M_of v1.2 v1.1 2)))) = 1 then (1 : Int32) else 0)) : Int32) = 0 then (0 : Int32) else (if ((v_M_arrival v1.2 v1.1) - (v_M_of v1.2 a1 3)) ≤ (v1.2.1 1 (am_ix 9)) then (if ((if (v_M_next v1.2 v1.1) = (-1 : Int32) then (0 : Int32) else v1.2.1 8 (am_ix (v_M_next v1.2 v1.1))) : Int32) = (-1 : Int32) then (0 : Int32) else 1) else 0)) : Int32) = 0 then v1.2.1 8 (am_ix a1) else (if (v1.2.1 8 (am_ix a1)) = (-1 : Int32) then (1 + (if (v_M_next v1.2 v1.1) = (-1 : Int32) then (0 : Int32) else v1.2.1 8 (am_ix (v_M_next v1.2 v1.1)))) else (if (1 + (if (v_M_next v1.2 v1.1) = (-1 : Int32) then (0 : Int32) else v1.2.1 8 (am_ix (v_M_next v1.2 v1.1)))) < (v1.2.1 8 (am_ix a1)) then (1 + (if (v_M_next v1.2 v1.1) = (-1 : Int32) then (0 : Int32) else v1.2.1 8 (am_ix (v_M_next v1.2 v1.1)))) else v1.2.1 8 (am_ix a1))))))))
def ps_M_settles_9 (h : HP) (a1 : Int32) (v1 : Int32 × HP) : Prop := ((v1.1 = (-1 : Int32) → True) ∧ (¬ v1.1 = (-1 : Int32) → ((p_M_next v1.2 v1.1) ∧ ((((v_M_next v1.2 v1.1) = (-1 : Int32) → True) ∧ (¬ (v_M_next v1.2 v1.1) = (-1 : Int32) → ((p_M_of v1.2 v1.1 2) ∧ (am_in (4 + (v_M_of v1.2 v1.1 2)) 163)))) ∧ ((p_M_next v1.2 v1.1) ∧ ((((v_M_next v1.2 v1.1) = (-1 : Int32) → True) ∧ (¬ (v_M_next v1.2 v1.1) = (-1 : Int32) → ((p_M_next v1.2 v1.1) ∧ (am_in (v_M_next v1.2 v1.1) 20)))) ∧ (((((if (v_M_next v1.2 v1.1) = (-1 : Int32) then (1 : Int32) else (if (v1.2.1 1 (am_ix (4 + (v_M_of v1.2 v1.1 2)))) = 1 then (1 : Int32) else 0)) : Int32) = 0 → True) ∧ (¬ ((if (v_M_next v1.2 v1.1) = (-1 : Int32) then (1 : Int32) else (if (v1.2.1 1 (am_ix (4 + (v_M_of v1.2 v1.1 2)))) = 1 then (1 : Int32) else 0)) : Int32) = 0 → ((p_M_arrival v1.2 v1.1) ∧ (p_M_of v1.2 a1 3)))) ∧ (((((if ((if (v_M_next v1.2 v1.1) = (-1 : Int32) then (1 : Int32) else (if (v1.2.1 1 (am_ix (4 + (v_M_of v1.2 v1.1 2)))) = 1 then (1 : Int32) else 0)) : Int32) = 0 then (0 : Int32) else (if ((v_M_arrival v1.2 v1.1) - (v_M_of v1.2 a1 3)) ≤ (v1.2.1 1 (am_ix 9)) then (if ((if (v_M_next v1.2 v1.1) = (-1 : Int32) then (0 : Int32) else v1.2.1 8 (am_ix (v_M_next v1.2 v1.1))) : Int32) = (-1 : Int32) then (0 : Int32) else 1) else 0)) : Int32) = 0 → (am_in a1 20)) ∧ (¬ ((if ((if (v_M_next v1.2 v1.1) = (-1 : Int32) then (1 : Int32) else (if (v1.2.1 1 (am_ix (4 + (v_M_of v1.2 v1.1 2)))) = 1 then (1 : Int32) else 0)) : Int32) = 0 then (0 : Int32) else (if ((v_M_arrival v1.2 v1.1) - (v_M_of v1.2 a1 3)) ≤ (v1.2.1 1 (am_ix 9)) then (if ((if (v_M_next v1.2 v1.1) = (-1 : Int32) then (0 : Int32) else v1.2.1 8 (am_ix (v_M_next v1.2 v1.1))) : Int32) = (-1 : Int32) then (0 : Int32) else 1) else 0)) : Int32) = 0 → ((am_in a1 20) ∧ (((v1.2.1 8 (am_ix a1)) = (-1 : Int32) → True) ∧ (¬ (v1.2.1 8 (am_ix a1)) = (-1 : Int32) → ((am_in a1 20) ∧ (((1 + (if (v_M_next v1.2 v1.1) = (-1 : Int32) then (0 : Int32) else v1.2.1 8 (am_ix (v_M_next v1.2 v1.1)))) < (v1.2.1 8 (am_ix a1)) → True) ∧ (¬ (1 + (if (v_M_next v1.2 v1.1) = (-1 : Int32) then (0 : Int32) else v1.2.1 8 (am_ix (v_M_next v1.2 v1.1)))) < (v1.2.1 8 (am_ix a1)) → (am_in a1 20))))))))) ∧ ((am_in a1 20) ∧ (p_M_next (am_si v1.2 8 (am_ix a1) (if ((if ((if (v_M_next v1.2 v1.1) = (-1 : Int32) then (1 : Int32) else (if (v1.2.1 1 (am_ix (4 + (v_M_of v1.2 v1.1 2)))) = 1 then (1 : Int32) else 0)) : Int32) = 0 then (0 : Int32) else (if ((v_M_arrival v1.2 v1.1) - (v_M_of v1.2 a1 3)) ≤ (v1.2.1 1 (am_ix 9)) then (if ((if (v_M_next v1.2 v1.1) = (-1 : Int32) then (0 : Int32) else v1.2.1 8 (am_ix (v_M_next v1.2 v1.1))) : Int32) = (-1 : Int32) then (0 : Int32) else 1) else 0)) : Int32) = 0 then v1.2.1 8 (am_ix a1) else (if (v1.2.1 8 (am_ix a1)) = (-1 : Int32) then (1 + (if (v_M_next v1.2 v1.1) = (-1 : Int32) then (0 : Int32) else v1.2.1 8 (am_ix (v_M_next v1.2 v1.1)))) else (if (1 + (if (v_M_next v1.2 v1.1) = (-1 : Int32) then (0 : Int32) else v1.2.1 8 (am_ix (v_M_next v1.2 v1.1)))) < (v1.2.1 8 (am_ix a1)) then (1 + (if (v_M_next v1.2 v1.1) = (-1 : Int32) then (0 : Int32) else v1.2.1 8 (am_ix (v_M_next v1.2 v1.1)))) else v1.2.1 8 (am_ix a1))))) v1.1))))))))))
def v_M_settles (h : HP) (a1 : Int32) : HP := (match itr (s_M_settles_9 h a1) NF (a1, (am_si h 8 (am_ix a1) (-1 : Int32))) with | some r1 => r1.2 | none => h)
def p_M_settles (h : HP) (a1 : Int32) : Prop := ((am_in a1 20) ∧ (itrp (s_M_settles_9 h a1) (ps_M_settles_9 h a1) NF (a1, (am_si h 8 (am_ix a1) (-1 : Int32)))))
def g_M_settles (_ _ : List Sh) (as : List Value) (h : HP) : GR := match as with
  | [.ref o1, .int a1] => (Nat.beq o1 0, p_M_settles h a1, none, none, v_M_settles h a1)
  | _ => bad h
def d_M_settles (k : Nat) : CD := (k, yX6_settles, cX6_settles, 6, none, 2, 2, 43, 0, false, true, g_M_settles)
theorem chk_M_settles : ∀ pc, am_chk cX6_settles k_M_settles pc = true := am_chkall 167 (by decide +kernel) (fun pc h => by unfold k_M_settles; rw [Nat.ble_eq_true_of_le h]; rfl)
theorem pf_M_settles : plainFor yX6_settles = true := by decide +kernel
theorem cu_M_settles : Cond.code yX6_settles cX6_settles 6 (none) ∈ am_U := am_tb 1216 (by decide +kernel) rfl
set_option maxHeartbeats 20000000 in
set_option maxRecDepth 100000 in
theorem ev_M_settles {e1 ro : List Sh} {P : AR → HP → Prop} (h : HP) (a1 : Int32) (hp : p_M_settles h a1) (hP : ∀ q, v_M_settles h a1 = q → RVW P h q) : am_Ev m_M_settles (WM ++ e1) ro P (0, [.ref 0, .int a1, .retAddr 0, .retAddr 0, .retAddr 0, .retAddr 0], [], h) := by
  unfold p_M_settles at hp
  refine am_Ev_G [7] 400 _ ?_
  show ((am_in a1 20) ∧ am_Ev m_M_settles (WM ++ e1) ro P (7, [.ref 0, .int a1, .retAddr 0, .retAddr 0, .retAddr 0, .retAddr 0], [], (am_si h 8 (am_ix a1) (-1 : Int32))))
  obtain ⟨hob, hp⟩ := hp
  refine ⟨hob, ?_⟩
  refine am_Ev_G [9] 400 _ ?_
  show am_Ev m_M_settles (WM ++ e1) ro P (9, [.ref 0, .int a1, .int a1, .retAddr 0, .retAddr 0, .retAddr 0], [], (am_si h 8 (am_ix a1) (-1 : Int32)))
  have hpl := hp
  refine am_itr (E := (fun (v1 : Int32 × HP) => am_Ev m_M_settles (WM ++ e1) ro P (9, [.ref 0, .int a1, .int v1.1, .retAddr 0, .retAddr 0, .retAddr 0], [], v1.2))) (E' := (fun (r1 : Int32 × HP) => am_Ev m_M_settles (WM ++ e1) ro P (166, [.ref 0, .int a1, .int r1.1, .retAddr 0, .retAddr 0, .retAddr 0], [], r1.2))) (s_M_settles_9 h a1) (ps_M_settles_9 h a1) ?_ NF (a1, (am_si h 8 (am_ix a1) (-1 : Int32))) hpl ?_
  · intro v1 hp hc1 hx1
    show am_Ev m_M_settles (WM ++ e1) ro P (9, [.ref 0, .int a1, .int v1.1, .retAddr 0, .retAddr 0, .retAddr 0], [], v1.2)
    unfold ps_M_settles_9 at hp
    refine am_Ev_G [19, 166] 400 _ ?_
    show ((v1.1 = (-1 : Int32) → am_Ev m_M_settles (WM ++ e1) ro P (166, [.ref 0, .int a1, .int v1.1, .retAddr 0, .retAddr 0, .retAddr 0], [], v1.2)) ∧ (¬ v1.1 = (-1 : Int32) → ((p_M_next v1.2 v1.1) ∧ am_Ev m_M_settles (WM ++ e1) ro P (19, [.ref 0, .int a1, .int v1.1, .retAddr 0, .retAddr 0, .retAddr 0], [.int (v_M_next v1.2 v1.1)], v1.2))))
    refine ⟨fun c1 => ?_, fun c1 => ?_⟩
    · skip
      exact hx1 (v1.1, v1.2) (by unfold s_M_settles_9; simp only [if_pos c1])
    · have hp := hp.2 c1
      obtain ⟨hob, hp⟩ := hp
      refine ⟨hob, ?_⟩
      refine am_Ev_G [20] 400 _ ?_
      show am_Ev m_M_settles (WM ++ e1) ro P (20, [.ref 0, .int a1, .int v1.1, .retAddr 0, .retAddr 0, .retAddr 0], [.int (-1 : Int32), .int (v_M_next v1.2 v1.1)], v1.2)
      obtain ⟨hpa, hp⟩ := hp
      have key2 : am_Ev m_M_settles (WM ++ e1) ro P (45, [.ref 0, .int a1, .int v1.1, .retAddr 0, .retAddr 0, .retAddr 0], [.int (if (v_M_next v1.2 v1.1) = (-1 : Int32) then (1 : Int32) else (if (v1.2.1 1 (am_ix (4 + (v_M_of v1.2 v1.1 2)))) = 1 then (1 : Int32) else 0))], v1.2) := by
        refine am_Ev_G [51] 400 _ ?_
        show ((p_M_next v1.2 v1.1) ∧ am_Ev m_M_settles (WM ++ e1) ro P (51, [.ref 0, .int a1, .int v1.1, .int (if (v_M_next v1.2 v1.1) = (-1 : Int32) then (1 : Int32) else (if (v1.2.1 1 (am_ix (4 + (v_M_of v1.2 v1.1 2)))) = 1 then (1 : Int32) else 0)), .retAddr 0, .retAddr 0], [.int (v_M_next v1.2 v1.1)], v1.2))
        obtain ⟨hob, hp⟩ := hp
        refine ⟨hob, ?_⟩
        refine am_Ev_G [52] 400 _ ?_
        show am_Ev m_M_settles (WM ++ e1) ro P (52, [.ref 0, .int a1, .int v1.1, .int (if (v_M_next v1.2 v1.1) = (-1 : Int32) then (1 : Int32) else (if (v1.2.1 1 (am_ix (4 + (v_M_of v1.2 v1.1 2)))) = 1 then (1 : Int32) else 0)), .retAddr 0, .retAddr 0], [.int (-1 : Int32), .int (v_M_next v1.2 v1.1)], v1.2)
        obtain ⟨hpa, hp⟩ := hp
        have key3 : am_Ev m_M_settles (WM ++ e1) ro P (69, [.ref 0, .int a1, .int v1.1, .int (if (v_M_next v1.2 v1.1) = (-1 : Int32) then (1 : Int32) else (if (v1.2.1 1 (am_ix (4 + (v_M_of v1.2 v1.1 2)))) = 1 then (1 : Int32) else 0)), .retAddr 0, .retAddr 0], [.int (if (v_M_next v1.2 v1.1) = (-1 : Int32) then (0 : Int32) else v1.2.1 8 (am_ix (v_M_next v1.2 v1.1)))], v1.2) := by
          refine am_Ev_G [72] 400 _ ?_
          show am_Ev m_M_settles (WM ++ e1) ro P (72, [.ref 0, .int a1, .int v1.1, .int (if (v_M_next v1.2 v1.1) = (-1 : Int32) then (1 : Int32) else (if (v1.2.1 1 (am_ix (4 + (v_M_of v1.2 v1.1 2)))) = 1 then (1 : Int32) else 0)), .int (if (v_M_next v1.2 v1.1) = (-1 : Int32) then (0 : Int32) else v1.2.1 8 (am_ix (v_M_next v1.2 v1.1))), .retAddr 0], [.int (if (v_M_next v1.2 v1.1) = (-1 : Int32) then (1 : Int32) else (if (v1.2.1 1 (am_ix (4 + (v_M_of v1.2 v1.1 2)))) = 1 then (1 : Int32) else 0))], v1.2)
          obtain ⟨hpa, hp⟩ := hp
          have key4 : am_Ev m_M_settles (WM ++ e1) ro P (108, [.ref 0, .int a1, .int v1.1, .int (if (v_M_next v1.2 v1.1) = (-1 : Int32) then (1 : Int32) else (if (v1.2.1 1 (am_ix (4 + (v_M_of v1.2 v1.1 2)))) = 1 then (1 : Int32) else 0)), .int (if (v_M_next v1.2 v1.1) = (-1 : Int32) then (0 : Int32) else v1.2.1 8 (am_ix (v_M_next v1.2 v1.1))), .retAddr 0], [.int (if ((if (v_M_next v1.2 v1.1) = (-1 : Int32) then (1 : Int32) else (if (v1.2.1 1 (am_ix (4 + (v_M_of v1.2 v1.1 2)))) = 1 then (1 : Int32) else 0)) : Int32) = 0 then (0 : Int32) else (if ((v_M_arrival v1.2 v1.1) - (v_M_of v1.2 a1 3)) ≤ (v1.2.1 1 (am_ix 9)) then (if ((if (v_M_next v1.2 v1.1) = (-1 : Int32) then (0 : Int32) else v1.2.1 8 (am_ix (v_M_next v1.2 v1.1))) : Int32) = (-1 : Int32) then (0 : Int32) else 1) else 0))], v1.2) := by
            refine am_Ev_G [115] 400 _ ?_
            show am_Ev m_M_settles (WM ++ e1) ro P (115, [.ref 0, .int a1, .int v1.1, .int (if (v_M_next v1.2 v1.1) = (-1 : Int32) then (1 : Int32) else (if (v1.2.1 1 (am_ix (4 + (v_M_of v1.2 v1.1 2)))) = 1 then (1 : Int32) else 0)), .int (if (v_M_next v1.2 v1.1) = (-1 : Int32) then (0 : Int32) else v1.2.1 8 (am_ix (v_M_next v1.2 v1.1))), .int (if ((if (v_M_next v1.2 v1.1) = (-1 : Int32) then (1 : Int32) else (if (v1.2.1 1 (am_ix (4 + (v_M_of v1.2 v1.1 2)))) = 1 then (1 : Int32) else 0)) : Int32) = 0 then (0 : Int32) else (if ((v_M_arrival v1.2 v1.1) - (v_M_of v1.2 a1 3)) ≤ (v1.2.1 1 (am_ix 9)) then (if ((if (v_M_next v1.2 v1.1) = (-1 : Int32) then (0 : Int32) else v1.2.1 8 (am_ix (v_M_next v1.2 v1.1))) : Int32) = (-1 : Int32) then (0 : Int32) else 1) else 0))], [.int a1, .ref 8], v1.2)
            refine am_Ev_G [117] 400 _ ?_
            show am_Ev m_M_settles (WM ++ e1) ro P (117, [.ref 0, .int a1, .int v1.1, .int (if (v_M_next v1.2 v1.1) = (-1 : Int32) then (1 : Int32) else (if (v1.2.1 1 (am_ix (4 + (v_M_of v1.2 v1.1 2)))) = 1 then (1 : Int32) else 0)), .int (if (v_M_next v1.2 v1.1) = (-1 : Int32) then (0 : Int32) else v1.2.1 8 (am_ix (v_M_next v1.2 v1.1))), .int (if ((if (v_M_next v1.2 v1.1) = (-1 : Int32) then (1 : Int32) else (if (v1.2.1 1 (am_ix (4 + (v_M_of v1.2 v1.1 2)))) = 1 then (1 : Int32) else 0)) : Int32) = 0 then (0 : Int32) else (if ((v_M_arrival v1.2 v1.1) - (v_M_of v1.2 a1 3)) ≤ (v1.2.1 1 (am_ix 9)) then (if ((if (v_M_next v1.2 v1.1) = (-1 : Int32) then (0 : Int32) else v1.2.1 8 (am_ix (v_M_next v1.2 v1.1))) : Int32) = (-1 : Int32) then (0 : Int32) else 1) else 0))], [.int (if ((if (v_M_next v1.2 v1.1) = (-1 : Int32) then (1 : Int32) else (if (v1.2.1 1 (am_ix (4 + (v_M_of v1.2 v1.1 2)))) = 1 then (1 : Int32) else 0)) : Int32) = 0 then (0 : Int32) else (if ((v_M_arrival v1.2 v1.1) - (v_M_of v1.2 a1 3)) ≤ (v1.2.1 1 (am_ix 9)) then (if ((if (v_M_next v1.2 v1.1) = (-1 : Int32) then (0 : Int32) else v1.2.1 8 (am_ix (v_M_next v1.2 v1.1))) : Int32) = (-1 : Int32) then (0 : Int32) else 1) else 0)), .int a1, .ref 8], v1.2)
            obtain ⟨hpa, hp⟩ := hp
            have key5 : am_Ev m_M_settles (WM ++ e1) ro P (156, [.ref 0, .int a1, .int v1.1, .int (if (v_M_next v1.2 v1.1) = (-1 : Int32) then (1 : Int32) else (if (v1.2.1 1 (am_ix (4 + (v_M_of v1.2 v1.1 2)))) = 1 then (1 : Int32) else 0)), .int (if (v_M_next v1.2 v1.1) = (-1 : Int32) then (0 : Int32) else v1.2.1 8 (am_ix (v_M_next v1.2 v1.1))), .int (if ((if (v_M_next v1.2 v1.1) = (-1 : Int32) then (1 : Int32) else (if (v1.2.1 1 (am_ix (4 + (v_M_of v1.2 v1.1 2)))) = 1 then (1 : Int32) else 0)) : Int32) = 0 then (0 : Int32) else (if ((v_M_arrival v1.2 v1.1) - (v_M_of v1.2 a1 3)) ≤ (v1.2.1 1 (am_ix 9)) then (if ((if (v_M_next v1.2 v1.1) = (-1 : Int32) then (0 : Int32) else v1.2.1 8 (am_ix (v_M_next v1.2 v1.1))) : Int32) = (-1 : Int32) then (0 : Int32) else 1) else 0))], [.int (if ((if ((if (v_M_next v1.2 v1.1) = (-1 : Int32) then (1 : Int32) else (if (v1.2.1 1 (am_ix (4 + (v_M_of v1.2 v1.1 2)))) = 1 then (1 : Int32) else 0)) : Int32) = 0 then (0 : Int32) else (if ((v_M_arrival v1.2 v1.1) - (v_M_of v1.2 a1 3)) ≤ (v1.2.1 1 (am_ix 9)) then (if ((if (v_M_next v1.2 v1.1) = (-1 : Int32) then (0 : Int32) else v1.2.1 8 (am_ix (v_M_next v1.2 v1.1))) : Int32) = (-1 : Int32) then (0 : Int32) else 1) else 0)) : Int32) = 0 then v1.2.1 8 (am_ix a1) else (if (v1.2.1 8 (am_ix a1)) = (-1 : Int32) then (1 + (if (v_M_next v1.2 v1.1) = (-1 : Int32) then (0 : Int32) else v1.2.1 8 (am_ix (v_M_next v1.2 v1.1)))) else (if (1 + (if (v_M_next v1.2 v1.1) = (-1 : Int32) then (0 : Int32) else v1.2.1 8 (am_ix (v_M_next v1.2 v1.1)))) < (v1.2.1 8 (am_ix a1)) then (1 + (if (v_M_next v1.2 v1.1) = (-1 : Int32) then (0 : Int32) else v1.2.1 8 (am_ix (v_M_next v1.2 v1.1)))) else v1.2.1 8 (am_ix a1)))), .int a1, .ref 8], v1.2) := by
              refine am_Ev_G [157] 400 _ ?_
              show ((am_in a1 20) ∧ am_Ev m_M_settles (WM ++ e1) ro P (157, [.ref 0, .int a1, .int v1.1, .int (if (v_M_next v1.2 v1.1) = (-1 : Int32) then (1 : Int32) else (if (v1.2.1 1 (am_ix (4 + (v_M_of v1.2 v1.1 2)))) = 1 then (1 : Int32) else 0)), .int (if (v_M_next v1.2 v1.1) = (-1 : Int32) then (0 : Int32) else v1.2.1 8 (am_ix (v_M_next v1.2 v1.1))), .int (if ((if (v_M_next v1.2 v1.1) = (-1 : Int32) then (1 : Int32) else (if (v1.2.1 1 (am_ix (4 + (v_M_of v1.2 v1.1 2)))) = 1 then (1 : Int32) else 0)) : Int32) = 0 then (0 : Int32) else (if ((v_M_arrival v1.2 v1.1) - (v_M_of v1.2 a1 3)) ≤ (v1.2.1 1 (am_ix 9)) then (if ((if (v_M_next v1.2 v1.1) = (-1 : Int32) then (0 : Int32) else v1.2.1 8 (am_ix (v_M_next v1.2 v1.1))) : Int32) = (-1 : Int32) then (0 : Int32) else 1) else 0))], [], (am_si v1.2 8 (am_ix a1) (if ((if ((if (v_M_next v1.2 v1.1) = (-1 : Int32) then (1 : Int32) else (if (v1.2.1 1 (am_ix (4 + (v_M_of v1.2 v1.1 2)))) = 1 then (1 : Int32) else 0)) : Int32) = 0 then (0 : Int32) else (if ((v_M_arrival v1.2 v1.1) - (v_M_of v1.2 a1 3)) ≤ (v1.2.1 1 (am_ix 9)) then (if ((if (v_M_next v1.2 v1.1) = (-1 : Int32) then (0 : Int32) else v1.2.1 8 (am_ix (v_M_next v1.2 v1.1))) : Int32) = (-1 : Int32) then (0 : Int32) else 1) else 0)) : Int32) = 0 then v1.2.1 8 (am_ix a1) else (if (v1.2.1 8 (am_ix a1)) = (-1 : Int32) then (1 + (if (v_M_next v1.2 v1.1) = (-1 : Int32) then (0 : Int32) else v1.2.1 8 (am_ix (v_M_next v1.2 v1.1)))) else (if (1 + (if (v_M_next v1.2 v1.1) = (-1 : Int32) then (0 : Int32) else v1.2.1 8 (am_ix (v_M_next v1.2 v1.1)))) < (v1.2.1 8 (am_ix a1)) then (1 + (if (v_M_next v1.2 v1.1) = (-1 : Int32) then (0 : Int32) else v1.2.1 8 (am_ix (v_M_next v1.2 v1.1)))) else v1.2.1 8 (am_ix a1)))))))
              obtain ⟨hob, hp⟩ := hp
              refine ⟨hob, ?_⟩
              refine am_Ev_G [162] 400 _ ?_
              show ((p_M_next (am_si v1.2 8 (am_ix a1) (if ((if ((if (v_M_next v1.2 v1.1) = (-1 : Int32) then (1 : Int32) else (if (v1.2.1 1 (am_ix (4 + (v_M_of v1.2 v1.1 2)))) = 1 then (1 : Int32) else 0)) : Int32) = 0 then (0 : Int32) else (if ((v_M_arrival v1.2 v1.1) - (v_M_of v1.2 a1 3)) ≤ (v1.2.1 1 (am_ix 9)) then (if ((if (v_M_next v1.2 v1.1) = (-1 : Int32) then (0 : Int32) else v1.2.1 8 (am_ix (v_M_next v1.2 v1.1))) : Int32) = (-1 : Int32) then (0 : Int32) else 1) else 0)) : Int32) = 0 then v1.2.1 8 (am_ix a1) else (if (v1.2.1 8 (am_ix a1)) = (-1 : Int32) then (1 + (if (v_M_next v1.2 v1.1) = (-1 : Int32) then (0 : Int32) else v1.2.1 8 (am_ix (v_M_next v1.2 v1.1)))) else (if (1 + (if (v_M_next v1.2 v1.1) = (-1 : Int32) then (0 : Int32) else v1.2.1 8 (am_ix (v_M_next v1.2 v1.1)))) < (v1.2.1 8 (am_ix a1)) then (1 + (if (v_M_next v1.2 v1.1) = (-1 : Int32) then (0 : Int32) else v1.2.1 8 (am_ix (v_M_next v1.2 v1.1)))) else v1.2.1 8 (am_ix a1))))) v1.1) ∧ am_Ev m_M_settles (WM ++ e1) ro P (162, [.ref 0, .int a1, .int v1.1, .int (if (v_M_next v1.2 v1.1) = (-1 : Int32) then (1 : Int32) else (if (v1.2.1 1 (am_ix (4 + (v_M_of v1.2 v1.1 2)))) = 1 then (1 : Int32) else 0)), .int (if (v_M_next v1.2 v1.1) = (-1 : Int32) then (0 : Int32) else v1.2.1 8 (am_ix (v_M_next v1.2 v1.1))), .int (if ((if (v_M_next v1.2 v1.1) = (-1 : Int32) then (1 : Int32) else (if (v1.2.1 1 (am_ix (4 + (v_M_of v1.2 v1.1 2)))) = 1 then (1 : Int32) else 0)) : Int32) = 0 then (0 : Int32) else (if ((v_M_arrival v1.2 v1.1) - (v_M_of v1.2 a1 3)) ≤ (v1.2.1 1 (am_ix 9)) then (if ((if (v_M_next v1.2 v1.1) = (-1 : Int32) then (0 : Int32) else v1.2.1 8 (am_ix (v_M_next v1.2 v1.1))) : Int32) = (-1 : Int32) then (0 : Int32) else 1) else 0))], [.int (v_M_next (am_si v1.2 8 (am_ix a1) (if ((if ((if (v_M_next v1.2 v1.1) = (-1 : Int32) then (1 : Int32) else (if (v1.2.1 1 (am_ix (4 + (v_M_of v1.2 v1.1 2)))) = 1 then (1 : Int32) else 0)) : Int32) = 0 then (0 : Int32) else (if ((v_M_arrival v1.2 v1.1) - (v_M_of v1.2 a1 3)) ≤ (v1.2.1 1 (am_ix 9)) then (if ((if (v_M_next v1.2 v1.1) = (-1 : Int32) then (0 : Int32) else v1.2.1 8 (am_ix (v_M_next v1.2 v1.1))) : Int32) = (-1 : Int32) then (0 : Int32) else 1) else 0)) : Int32) = 0 then v1.2.1 8 (am_ix a1) else (if (v1.2.1 8 (am_ix a1)) = (-1 : Int32) then (1 + (if (v_M_next v1.2 v1.1) = (-1 : Int32) then (0 : Int32) else v1.2.1 8 (am_ix (v_M_next v1.2 v1.1)))) else (if (1 + (if (v_M_next v1.2 v1.1) = (-1 : Int32) then (0 : Int32) else v1.2.1 8 (am_ix (v_M_next v1.2 v1.1)))) < (v1.2.1 8 (am_ix a1)) then (1 + (if (v_M_next v1.2 v1.1) = (-1 : Int32) then (0 : Int32) else v1.2.1 8 (am_ix (v_M_next v1.2 v1.1)))) else v1.2.1 8 (am_ix a1))))) v1.1)], (am_si v1.2 8 (am_ix a1) (if ((if ((if (v_M_next v1.2 v1.1) = (-1 : Int32) then (1 : Int32) else (if (v1.2.1 1 (am_ix (4 + (v_M_of v1.2 v1.1 2)))) = 1 then (1 : Int32) else 0)) : Int32) = 0 then (0 : Int32) else (if ((v_M_arrival v1.2 v1.1) - (v_M_of v1.2 a1 3)) ≤ (v1.2.1 1 (am_ix 9)) then (if ((if (v_M_next v1.2 v1.1) = (-1 : Int32) then (0 : Int32) else v1.2.1 8 (am_ix (v_M_next v1.2 v1.1))) : Int32) = (-1 : Int32) then (0 : Int32) else 1) else 0)) : Int32) = 0 then v1.2.1 8 (am_ix a1) else (if (v1.2.1 8 (am_ix a1)) = (-1 : Int32) then (1 + (if (v_M_next v1.2 v1.1) = (-1 : Int32) then (0 : Int32) else v1.2.1 8 (am_ix (v_M_next v1.2 v1.1)))) else (if (1 + (if (v_M_next v1.2 v1.1) = (-1 : Int32) then (0 : Int32) else v1.2.1 8 (am_ix (v_M_next v1.2 v1.1)))) < (v1.2.1 8 (am_ix a1)) then (1 + (if (v_M_next v1.2 v1.1) = (-1 : Int32) then (0 : Int32) else v1.2.1 8 (am_ix (v_M_next v1.2 v1.1)))) else v1.2.1 8 (am_ix a1)))))))
              refine ⟨hp, ?_⟩
              refine am_Ev_G [9] 400 _ ?_
              show am_Ev m_M_settles (WM ++ e1) ro P (9, [.ref 0, .int a1, .int (v_M_next (am_si v1.2 8 (am_ix a1) (if ((if ((if (v_M_next v1.2 v1.1) = (-1 : Int32) then (1 : Int32) else (if (v1.2.1 1 (am_ix (4 + (v_M_of v1.2 v1.1 2)))) = 1 then (1 : Int32) else 0)) : Int32) = 0 then (0 : Int32) else (if ((v_M_arrival v1.2 v1.1) - (v_M_of v1.2 a1 3)) ≤ (v1.2.1 1 (am_ix 9)) then (if ((if (v_M_next v1.2 v1.1) = (-1 : Int32) then (0 : Int32) else v1.2.1 8 (am_ix (v_M_next v1.2 v1.1))) : Int32) = (-1 : Int32) then (0 : Int32) else 1) else 0)) : Int32) = 0 then v1.2.1 8 (am_ix a1) else (if (v1.2.1 8 (am_ix a1)) = (-1 : Int32) then (1 + (if (v_M_next v1.2 v1.1) = (-1 : Int32) then (0 : Int32) else v1.2.1 8 (am_ix (v_M_next v1.2 v1.1)))) else (if (1 + (if (v_M_next v1.2 v1.1) = (-1 : Int32) then (0 : Int32) else v1.2.1 8 (am_ix (v_M_next v1.2 v1.1)))) < (v1.2.1 8 (am_ix a1)) then (1 + (if (v_M_next v1.2 v1.1) = (-1 : Int32) then (0 : Int32) else v1.2.1 8 (am_ix (v_M_next v1.2 v1.1)))) else v1.2.1 8 (am_ix a1))))) v1.1), .int (if (v_M_next v1.2 v1.1) = (-1 : Int32) then (1 : Int32) else (if (v1.2.1 1 (am_ix (4 + (v_M_of v1.2 v1.1 2)))) = 1 then (1 : Int32) else 0)), .int (if (v_M_next v1.2 v1.1) = (-1 : Int32) then (0 : Int32) else v1.2.1 8 (am_ix (v_M_next v1.2 v1.1))), .int (if ((if (v_M_next v1.2 v1.1) = (-1 : Int32) then (1 : Int32) else (if (v1.2.1 1 (am_ix (4 + (v_M_of v1.2 v1.1 2)))) = 1 then (1 : Int32) else 0)) : Int32) = 0 then (0 : Int32) else (if ((v_M_arrival v1.2 v1.1) - (v_M_of v1.2 a1 3)) ≤ (v1.2.1 1 (am_ix 9)) then (if ((if (v_M_next v1.2 v1.1) = (-1 : Int32) then (0 : Int32) else v1.2.1 8 (am_ix (v_M_next v1.2 v1.1))) : Int32) = (-1 : Int32) then (0 : Int32) else 1) else 0))], [], (am_si v1.2 8 (am_ix a1) (if ((if ((if (v_M_next v1.2 v1.1) = (-1 : Int32) then (1 : Int32) else (if (v1.2.1 1 (am_ix (4 + (v_M_of v1.2 v1.1 2)))) = 1 then (1 : Int32) else 0)) : Int32) = 0 then (0 : Int32) else (if ((v_M_arrival v1.2 v1.1) - (v_M_of v1.2 a1 3)) ≤ (v1.2.1 1 (am_ix 9)) then (if ((if (v_M_next v1.2 v1.1) = (-1 : Int32) then (0 : Int32) else v1.2.1 8 (am_ix (v_M_next v1.2 v1.1))) : Int32) = (-1 : Int32) then (0 : Int32) else 1) else 0)) : Int32) = 0 then v1.2.1 8 (am_ix a1) else (if (v1.2.1 8 (am_ix a1)) = (-1 : Int32) then (1 + (if (v_M_next v1.2 v1.1) = (-1 : Int32) then (0 : Int32) else v1.2.1 8 (am_ix (v_M_next v1.2 v1.1)))) else (if (1 + (if (v_M_next v1.2 v1.1) = (-1 : Int32) then (0 : Int32) else v1.2.1 8 (am_ix (v_M_next v1.2 v1.1)))) < (v1.2.1 8 (am_ix a1)) then (1 + (if (v_M_next v1.2 v1.1) = (-1 : Int32) then (0 : Int32) else v1.2.1 8 (am_ix (v_M_next v1.2 v1.1)))) else v1.2.1 8 (am_ix a1))))))
              refine am_fg 3 ?_
              refine am_fg 4 ?_
              refine am_fg 5 ?_
              exact hc1 ((v_M_next (am_si v1.2 8 (am_ix a1) (if ((if ((if (v_M_next v1.2 v1.1) = (-1 : Int32) then (1 : Int32) else (if (v1.2.1 1 (am_ix (4 + (v_M_of v1.2 v1.1 2)))) = 1 then (1 : Int32) else 0)) : Int32) = 0 then (0 : Int32) else (if ((v_M_arrival v1.2 v1.1) - (v_M_of v1.2 a1 3)) ≤ (v1.2.1 1 (am_ix 9)) then (if ((if (v_M_next v1.2 v1.1) = (-1 : Int32) then (0 : Int32) else v1.2.1 8 (am_ix (v_M_next v1.2 v1.1))) : Int32) = (-1 : Int32) then (0 : Int32) else 1) else 0)) : Int32) = 0 then v1.2.1 8 (am_ix a1) else (if (v1.2.1 8 (am_ix a1)) = (-1 : Int32) then (1 + (if (v_M_next v1.2 v1.1) = (-1 : Int32) then (0 : Int32) else v1.2.1 8 (am_ix (v_M_next v1.2 v1.1)))) else (if (1 + (if (v_M_next v1.2 v1.1) = (-1 : Int32) then (0 : Int32) else v1.2.1 8 (am_ix (v_M_next v1.2 v1.1)))) < (v1.2.1 8 (am_ix a1)) then (1 + (if (v_M_next v1.2 v1.1) = (-1 : Int32) then (0 : Int32) else v1.2.1 8 (am_ix (v_M_next v1.2 v1.1)))) else v1.2.1 8 (am_ix a1))))) v1.1), (am_si v1.2 8 (am_ix a1) (if ((if ((if (v_M_next v1.2 v1.1) = (-1 : Int32) then (1 : Int32) else (if (v1.2.1 1 (am_ix (4 + (v_M_of v1.2 v1.1 2)))) = 1 then (1 : Int32) else 0)) : Int32) = 0 then (0 : Int32) else (if ((v_M_arrival v1.2 v1.1) - (v_M_of v1.2 a1 3)) ≤ (v1.2.1 1 (am_ix 9)) then (if ((if (v_M_next v1.2 v1.1) = (-1 : Int32) then (0 : Int32) else v1.2.1 8 (am_ix (v_M_next v1.2 v1.1))) : Int32) = (-1 : Int32) then (0 : Int32) else 1) else 0)) : Int32) = 0 then v1.2.1 8 (am_ix a1) else (if (v1.2.1 8 (am_ix a1)) = (-1 : Int32) then (1 + (if (v_M_next v1.2 v1.1) = (-1 : Int32) then (0 : Int32) else v1.2.1 8 (am_ix (v_M_next v1.2 v1.1)))) else (if (1 + (if (v_M_next v1.2 v1.1) = (-1 : Int32) then (0 : Int32) else v1.2.1 8 (am_ix (v_M_next v1.2 v1.1)))) < (v1.2.1 8 (am_ix a1)) then (1 + (if (v_M_next v1.2 v1.1) = (-1 : Int32) then (0 : Int32) else v1.2.1 8 (am_ix (v_M_next v1.2 v1.1)))) else v1.2.1 8 (am_ix a1)))))) (by unfold s_M_settles_9; simp only [if_neg c1])
            have hp := hpa
            refine am_Ev_G [156] 400 _ ?_
            show ((((if ((if (v_M_next v1.2 v1.1) = (-1 : Int32) then (1 : Int32) else (if (v1.2.1 1 (am_ix (4 + (v_M_of v1.2 v1.1 2)))) = 1 then (1 : Int32) else 0)) : Int32) = 0 then (0 : Int32) else (if ((v_M_arrival v1.2 v1.1) - (v_M_of v1.2 a1 3)) ≤ (v1.2.1 1 (am_ix 9)) then (if ((if (v_M_next v1.2 v1.1) = (-1 : Int32) then (0 : Int32) else v1.2.1 8 (am_ix (v_M_next v1.2 v1.1))) : Int32) = (-1 : Int32) then (0 : Int32) else 1) else 0)) : Int32) = 0 → ((am_in a1 20) ∧ am_Ev m_M_settles (WM ++ e1) ro P (156, [.ref 0, .int a1, .int v1.1, .int (if (v_M_next v1.2 v1.1) = (-1 : Int32) then (1 : Int32) else (if (v1.2.1 1 (am_ix (4 + (v_M_of v1.2 v1.1 2)))) = 1 then (1 : Int32) else 0)), .int (if (v_M_next v1.2 v1.1) = (-1 : Int32) then (0 : Int32) else v1.2.1 8 (am_ix (v_M_next v1.2 v1.1))), .int (if ((if (v_M_next v1.2 v1.1) = (-1 : Int32) then (1 : Int32) else (if (v1.2.1 1 (am_ix (4 + (v_M_of v1.2 v1.1 2)))) = 1 then (1 : Int32) else 0)) : Int32) = 0 then (0 : Int32) else (if ((v_M_arrival v1.2 v1.1) - (v_M_of v1.2 a1 3)) ≤ (v1.2.1 1 (am_ix 9)) then (if ((if (v_M_next v1.2 v1.1) = (-1 : Int32) then (0 : Int32) else v1.2.1 8 (am_ix (v_M_next v1.2 v1.1))) : Int32) = (-1 : Int32) then (0 : Int32) else 1) else 0))], [.int (v1.2.1 8 (am_ix a1)), .int a1, .ref 8], v1.2))) ∧ (¬ ((if ((if (v_M_next v1.2 v1.1) = (-1 : Int32) then (1 : Int32) else (if (v1.2.1 1 (am_ix (4 + (v_M_of v1.2 v1.1 2)))) = 1 then (1 : Int32) else 0)) : Int32) = 0 then (0 : Int32) else (if ((v_M_arrival v1.2 v1.1) - (v_M_of v1.2 a1 3)) ≤ (v1.2.1 1 (am_ix 9)) then (if ((if (v_M_next v1.2 v1.1) = (-1 : Int32) then (0 : Int32) else v1.2.1 8 (am_ix (v_M_next v1.2 v1.1))) : Int32) = (-1 : Int32) then (0 : Int32) else 1) else 0)) : Int32) = 0 → ((am_in a1 20) ∧ (((v1.2.1 8 (am_ix a1)) = (-1 : Int32) → am_Ev m_M_settles (WM ++ e1) ro P (156, [.ref 0, .int a1, .int v1.1, .int (if (v_M_next v1.2 v1.1) = (-1 : Int32) then (1 : Int32) else (if (v1.2.1 1 (am_ix (4 + (v_M_of v1.2 v1.1 2)))) = 1 then (1 : Int32) else 0)), .int (if (v_M_next v1.2 v1.1) = (-1 : Int32) then (0 : Int32) else v1.2.1 8 (am_ix (v_M_next v1.2 v1.1))), .int (if ((if (v_M_next v1.2 v1.1) = (-1 : Int32) then (1 : Int32) else (if (v1.2.1 1 (am_ix (4 + (v_M_of v1.2 v1.1 2)))) = 1 then (1 : Int32) else 0)) : Int32) = 0 then (0 : Int32) else (if ((v_M_arrival v1.2 v1.1) - (v_M_of v1.2 a1 3)) ≤ (v1.2.1 1 (am_ix 9)) then (if ((if (v_M_next v1.2 v1.1) = (-1 : Int32) then (0 : Int32) else v1.2.1 8 (am_ix (v_M_next v1.2 v1.1))) : Int32) = (-1 : Int32) then (0 : Int32) else 1) else 0))], [.int (1 + (if (v_M_next v1.2 v1.1) = (-1 : Int32) then (0 : Int32) else v1.2.1 8 (am_ix (v_M_next v1.2 v1.1)))), .int a1, .ref 8], v1.2)) ∧ (¬ (v1.2.1 8 (am_ix a1)) = (-1 : Int32) → ((am_in a1 20) ∧ ((¬ (1 + (if (v_M_next v1.2 v1.1) = (-1 : Int32) then (0 : Int32) else v1.2.1 8 (am_ix (v_M_next v1.2 v1.1)))) < (v1.2.1 8 (am_ix a1)) → ((am_in a1 20) ∧ am_Ev m_M_settles (WM ++ e1) ro P (156, [.ref 0, .int a1, .int v1.1, .int (if (v_M_next v1.2 v1.1) = (-1 : Int32) then (1 : Int32) else (if (v1.2.1 1 (am_ix (4 + (v_M_of v1.2 v1.1 2)))) = 1 then (1 : Int32) else 0)), .int (if (v_M_next v1.2 v1.1) = (-1 : Int32) then (0 : Int32) else v1.2.1 8 (am_ix (v_M_next v1.2 v1.1))), .int (if ((if (v_M_next v1.2 v1.1) = (-1 : Int32) then (1 : Int32) else (if (v1.2.1 1 (am_ix (4 + (v_M_of v1.2 v1.1 2)))) = 1 then (1 : Int32) else 0)) : Int32) = 0 then (0 : Int32) else (if ((v_M_arrival v1.2 v1.1) - (v_M_of v1.2 a1 3)) ≤ (v1.2.1 1 (am_ix 9)) then (if ((if (v_M_next v1.2 v1.1) = (-1 : Int32) then (0 : Int32) else v1.2.1 8 (am_ix (v_M_next v1.2 v1.1))) : Int32) = (-1 : Int32) then (0 : Int32) else 1) else 0))], [.int (v1.2.1 8 (am_ix a1)), .int a1, .ref 8], v1.2))) ∧ ((1 + (if (v_M_next v1.2 v1.1) = (-1 : Int32) then (0 : Int32) else v1.2.1 8 (am_ix (v_M_next v1.2 v1.1)))) < (v1.2.1 8 (am_ix a1)) → am_Ev m_M_settles (WM ++ e1) ro P (156, [.ref 0, .int a1, .int v1.1, .int (if (v_M_next v1.2 v1.1) = (-1 : Int32) then (1 : Int32) else (if (v1.2.1 1 (am_ix (4 + (v_M_of v1.2 v1.1 2)))) = 1 then (1 : Int32) else 0)), .int (if (v_M_next v1.2 v1.1) = (-1 : Int32) then (0 : Int32) else v1.2.1 8 (am_ix (v_M_next v1.2 v1.1))), .int (if ((if (v_M_next v1.2 v1.1) = (-1 : Int32) then (1 : Int32) else (if (v1.2.1 1 (am_ix (4 + (v_M_of v1.2 v1.1 2)))) = 1 then (1 : Int32) else 0)) : Int32) = 0 then (0 : Int32) else (if ((v_M_arrival v1.2 v1.1) - (v_M_of v1.2 a1 3)) ≤ (v1.2.1 1 (am_ix 9)) then (if ((if (v_M_next v1.2 v1.1) = (-1 : Int32) then (0 : Int32) else v1.2.1 8 (am_ix (v_M_next v1.2 v1.1))) : Int32) = (-1 : Int32) then (0 : Int32) else 1) else 0))], [.int (1 + (if (v_M_next v1.2 v1.1) = (-1 : Int32) then (0 : Int32) else v1.2.1 8 (am_ix (v_M_next v1.2 v1.1)))), .int a1, .ref 8], v1.2)))))))))
            refine ⟨fun c6 => ?_, fun c6 => ?_⟩
            · have hp := hp.1 c6
              refine ⟨hp, ?_⟩
              simpa only [if_pos c6] using key5
            · have hp := hp.2 c6
              obtain ⟨hob, hp⟩ := hp
              refine ⟨hob, ?_⟩
              refine ⟨fun c7 => ?_, fun c7 => ?_⟩
              · skip
                simpa only [if_neg c6, if_pos c7] using key5
              · have hp := hp.2 c7
                obtain ⟨hob, hp⟩ := hp
                refine ⟨hob, ?_⟩
                refine ⟨fun c8 => ?_, fun c8 => ?_⟩
                · have hp := hp.2 c8
                  refine ⟨hp, ?_⟩
                  simpa only [if_neg c6, if_neg c7, if_neg c8] using key5
                · skip
                  simpa only [if_neg c6, if_neg c7, if_pos c8] using key5
          have hp := hpa
          refine am_Ev_G [108] 400 _ ?_
          show ((((if (v_M_next v1.2 v1.1) = (-1 : Int32) then (1 : Int32) else (if (v1.2.1 1 (am_ix (4 + (v_M_of v1.2 v1.1 2)))) = 1 then (1 : Int32) else 0)) : Int32) = 0 → am_Ev m_M_settles (WM ++ e1) ro P (108, [.ref 0, .int a1, .int v1.1, .int (if (v_M_next v1.2 v1.1) = (-1 : Int32) then (1 : Int32) else (if (v1.2.1 1 (am_ix (4 + (v_M_of v1.2 v1.1 2)))) = 1 then (1 : Int32) else 0)), .int (if (v_M_next v1.2 v1.1) = (-1 : Int32) then (0 : Int32) else v1.2.1 8 (am_ix (v_M_next v1.2 v1.1))), .retAddr 0], [.int 0], v1.2)) ∧ (¬ ((if (v_M_next v1.2 v1.1) = (-1 : Int32) then (1 : Int32) else (if (v1.2.1 1 (am_ix (4 + (v_M_of v1.2 v1.1 2)))) = 1 then (1 : Int32) else 0)) : Int32) = 0 → ((p_M_arrival v1.2 v1.1) ∧ ((p_M_of v1.2 a1 3) ∧ ((am_in 9 163) ∧ ((¬ ((v_M_arrival v1.2 v1.1) - (v_M_of v1.2 a1 3)) ≤ (v1.2.1 1 (am_ix 9)) → am_Ev m_M_settles (WM ++ e1) ro P (108, [.ref 0, .int a1, .int v1.1, .int (if (v_M_next v1.2 v1.1) = (-1 : Int32) then (1 : Int32) else (if (v1.2.1 1 (am_ix (4 + (v_M_of v1.2 v1.1 2)))) = 1 then (1 : Int32) else 0)), .int (if (v_M_next v1.2 v1.1) = (-1 : Int32) then (0 : Int32) else v1.2.1 8 (am_ix (v_M_next v1.2 v1.1))), .retAddr 0], [.int 0], v1.2)) ∧ (((v_M_arrival v1.2 v1.1) - (v_M_of v1.2 a1 3)) ≤ (v1.2.1 1 (am_ix 9)) → ((((if (v_M_next v1.2 v1.1) = (-1 : Int32) then (0 : Int32) else v1.2.1 8 (am_ix (v_M_next v1.2 v1.1))) : Int32) = (-1 : Int32) → am_Ev m_M_settles (WM ++ e1) ro P (108, [.ref 0, .int a1, .int v1.1, .int (if (v_M_next v1.2 v1.1) = (-1 : Int32) then (1 : Int32) else (if (v1.2.1 1 (am_ix (4 + (v_M_of v1.2 v1.1 2)))) = 1 then (1 : Int32) else 0)), .int (if (v_M_next v1.2 v1.1) = (-1 : Int32) then (0 : Int32) else v1.2.1 8 (am_ix (v_M_next v1.2 v1.1))), .retAddr 0], [.int 0], v1.2)) ∧ (¬ ((if (v_M_next v1.2 v1.1) = (-1 : Int32) then (0 : Int32) else v1.2.1 8 (am_ix (v_M_next v1.2 v1.1))) : Int32) = (-1 : Int32) → am_Ev m_M_settles (WM ++ e1) ro P (108, [.ref 0, .int a1, .int v1.1, .int (if (v_M_next v1.2 v1.1) = (-1 : Int32) then (1 : Int32) else (if (v1.2.1 1 (am_ix (4 + (v_M_of v1.2 v1.1 2)))) = 1 then (1 : Int32) else 0)), .int (if (v_M_next v1.2 v1.1) = (-1 : Int32) then (0 : Int32) else v1.2.1 8 (am_ix (v_M_next v1.2 v1.1))), .retAddr 0], [.int 1], v1.2))))))))))
          refine ⟨fun c9 => ?_, fun c9 => ?_⟩
          · skip
            simpa only [if_pos c9] using key4
          · have hp := hp.2 c9
            obtain ⟨hob, hp⟩ := hp
            refine ⟨hob, ?_⟩
            refine ⟨hp, ?_⟩
            refine ⟨⟨by decide, by decide⟩, ?_⟩
            refine ⟨fun c10 => ?_, fun c10 => ?_⟩
            · skip
              simpa only [if_neg c9, if_neg c10] using key4
            · skip
              refine ⟨fun c11 => ?_, fun c11 => ?_⟩
              · skip
                simpa only [if_neg c9, if_pos c10, if_pos c11] using key4
              · skip
                simpa only [if_neg c9, if_pos c10, if_neg c11] using key4
        have hp := hpa
        refine am_Ev_G [69] 400 _ ?_
        show ((¬ (v_M_next v1.2 v1.1) = (-1 : Int32) → ((p_M_next v1.2 v1.1) ∧ ((am_in (v_M_next v1.2 v1.1) 20) ∧ am_Ev m_M_settles (WM ++ e1) ro P (69, [.ref 0, .int a1, .int v1.1, .int (if (v_M_next v1.2 v1.1) = (-1 : Int32) then (1 : Int32) else (if (v1.2.1 1 (am_ix (4 + (v_M_of v1.2 v1.1 2)))) = 1 then (1 : Int32) else 0)), .retAddr 0, .retAddr 0], [.int (v1.2.1 8 (am_ix (v_M_next v1.2 v1.1)))], v1.2)))) ∧ ((v_M_next v1.2 v1.1) = (-1 : Int32) → am_Ev m_M_settles (WM ++ e1) ro P (69, [.ref 0, .int a1, .int v1.1, .int (if (v_M_next v1.2 v1.1) = (-1 : Int32) then (1 : Int32) else (if (v1.2.1 1 (am_ix (4 + (v_M_of v1.2 v1.1 2)))) = 1 then (1 : Int32) else 0)), .retAddr 0, .retAddr 0], [.int 0], v1.2)))
        refine ⟨fun c12 => ?_, fun c12 => ?_⟩
        · have hp := hp.2 c12
          obtain ⟨hob, hp⟩ := hp
          refine ⟨hob, ?_⟩
          refine ⟨hp, ?_⟩
          simpa only [if_neg c12] using key3
        · skip
          simpa only [if_pos c12] using key3
      have hp := hpa
      refine am_Ev_G [45] 400 _ ?_
      show (((v_M_next v1.2 v1.1) = (-1 : Int32) → am_Ev m_M_settles (WM ++ e1) ro P (45, [.ref 0, .int a1, .int v1.1, .retAddr 0, .retAddr 0, .retAddr 0], [.int 1], v1.2)) ∧ (¬ (v_M_next v1.2 v1.1) = (-1 : Int32) → ((p_M_of v1.2 v1.1 2) ∧ ((am_in (4 + (v_M_of v1.2 v1.1 2)) 163) ∧ ((¬ (v1.2.1 1 (am_ix (4 + (v_M_of v1.2 v1.1 2)))) = 1 → am_Ev m_M_settles (WM ++ e1) ro P (45, [.ref 0, .int a1, .int v1.1, .retAddr 0, .retAddr 0, .retAddr 0], [.int 0], v1.2)) ∧ ((v1.2.1 1 (am_ix (4 + (v_M_of v1.2 v1.1 2)))) = 1 → am_Ev m_M_settles (WM ++ e1) ro P (45, [.ref 0, .int a1, .int v1.1, .retAddr 0, .retAddr 0, .retAddr 0], [.int 1], v1.2)))))))
      refine ⟨fun c13 => ?_, fun c13 => ?_⟩
      · skip
        simpa only [if_pos c13] using key2
      · have hp := hp.2 c13
        obtain ⟨hob, hp⟩ := hp
        refine ⟨hob, ?_⟩
        refine ⟨hp, ?_⟩
        refine ⟨fun c14 => ?_, fun c14 => ?_⟩
        · skip
          simpa only [if_neg c13, if_neg c14] using key2
        · skip
          simpa only [if_neg c13, if_pos c14] using key2
  · intro r1 hr15
    show am_Ev m_M_settles (WM ++ e1) ro P (166, [.ref 0, .int a1, .int r1.1, .retAddr 0, .retAddr 0, .retAddr 0], [], r1.2)
    refine am_Ev_G [] 400 _ ?_
    show P (.inl none) r1.2
    exact hP r1.2 (by unfold v_M_settles; simp only [hr15])
theorem ok_M_settles {l : Launch} (hl : l.stackTraces = false) (e1 ro : List Sh) (k : Nat) : am_Ok l (WM ++ e1) ro (d_M_settles k) := by
  refine am_met hl (own := RX6) (M := m_M_settles) rfl pf_M_settles cu_M_settles rfl rfl rfl rfl (fun _ => rfl) rfl ⟨chk_M_settles, (am_c (fl_M_7) (am_c (fl_M_32) am_n)), (am_c (lk_M_49) (am_c (lk_M_53) (am_c (lk_M_57) am_n))), (am_n), (am_n)⟩ (am_n) (am_c (ok_M_of hl e1 _ 16) (am_c (ok_M_arrival hl e1 _ 16) (am_c (ok_M_next hl e1 _ 16) am_n))) (fun z => nomatch z) ?_ ?_
  · intro _ as h hg
    show g_thr (g_M_settles (WM ++ e1) ro as h) = none
    unfold g_M_settles
    split <;> rfl
  · intro as h hg hp
    revert hg hp
    show g_ok (g_M_settles (WM ++ e1) ro as h) = true → g_pre (g_M_settles (WM ++ e1) ro as h) → _ ∧ am_Ev m_M_settles (WM ++ e1) ro (am_eq (g_M_settles (WM ++ e1) ro as h)) (0, am_ent as 6, [], h)
    unfold g_M_settles
    split
    · rename_i o1 a1
      intro hc hp
      change (Nat.beq o1 0) = true at hc
      obtain rfl := am_beq hc
      exact ⟨Nat.le_of_ble_eq_true rfl, ev_M_settles h a1 hp eqRVW⟩
    · exact fun z => nomatch z
def k_M_told (pc : Nat) : Ent := bif Nat.ble 37 pc then am_nop else bif Nat.ble 17 pc then (bif Nat.ble 27 pc then (bif Nat.ble 34 pc then (bif Nat.ble 35 pc then (bif Nat.ble 36 pc then (bif Nat.beq pc 36 then (.ireturn, 0, 0, []) else am_nop) else (bif Nat.beq pc 35 then (.iaload, 0, 0, []) else am_nop)) else (bif Nat.beq pc 34 then (.iload_n 1, 0, 1, []) else am_nop)) else (bif Nat.ble 30 pc then (bif Nat.ble 31 pc then (bif Nat.beq pc 31 then (.getfield 32, 0, 0, []) else am_nop) else (bif Nat.beq pc 30 then (.aload_n 0, 0, 0, []) else am_nop)) else (bif Nat.beq pc 27 then (.goto (-16), 0, 11, []) else am_nop))) else (bif Nat.ble 22 pc then (bif Nat.ble 23 pc then (bif Nat.ble 24 pc then (bif Nat.beq pc 24 then (.invokevirtual 120, 0, 0, []) else am_nop) else (bif Nat.beq pc 23 then (.iload_n 2, 0, 2, []) else am_nop)) else (bif Nat.beq pc 22 then (.aload_n 0, 0, 0, []) else am_nop)) else (bif Nat.ble 18 pc then (bif Nat.ble 21 pc then (bif Nat.beq pc 21 then (.istore_n 2, 0, 2, []) else am_nop) else (bif Nat.beq pc 18 then (.invokevirtual 64, 0, 0, []) else am_nop)) else (bif Nat.beq pc 17 then (.iload_n 2, 0, 2, []) else am_nop)))) else (bif Nat.ble 7 pc then (bif Nat.ble 12 pc then (bif Nat.ble 13 pc then (bif Nat.ble 16 pc then (bif Nat.beq pc 16 then (.aload_n 0, 0, 0, []) else am_nop) else (bif Nat.beq pc 13 then (.if_icmp .eq 17, 0, 30, []) else am_nop)) else (bif Nat.beq pc 12 then (.iload_n 1, 0, 1, []) else am_nop)) else (bif Nat.ble 8 pc then (bif Nat.ble 11 pc then (bif Nat.beq pc 11 then (.iload_n 2, 0, 2, []) else am_nop) else (bif Nat.beq pc 8 then (.invokevirtual 120, 0, 0, []) else am_nop)) else (bif Nat.beq pc 7 then (.iload_n 2, 0, 2, []) else am_nop))) else (bif Nat.ble 2 pc then (bif Nat.ble 5 pc then (bif Nat.ble 6 pc then (bif Nat.beq pc 6 then (.aload_n 0, 0, 0, []) else am_nop) else (bif Nat.beq pc 5 then (.istore_n 2, 0, 2, []) else am_nop)) else (bif Nat.beq pc 2 then (.invokevirtual 117, 0, 0, []) else am_nop)) else (bif Nat.ble 1 pc then (bif Nat.beq pc 1 then (.iload_n 1, 0, 1, []) else am_nop) else (bif Nat.beq pc 0 then (.aload_n 0, 0, 0, []) else am_nop))))
theorem lk_M_117 : am_lnk RX6 117 (d_M_lastOf 16) := ⟨⟨by decide, by decide⟩, am_tb 8 (by decide +kernel) rfl, Or.inr ⟨by decide, rfl, am_tb 1191 (by decide +kernel) rfl, am_tp 109 (by decide +kernel) rfl, ⟨TX6, 16, rfl⟩, Or.inl (am_tb 1189 (by decide +kernel) rfl)⟩⟩
theorem lk_M_120 : am_lnk RX6 120 (d_M_settles 16) := ⟨⟨by decide, by decide⟩, am_tb 8 (by decide +kernel) rfl, Or.inr ⟨by decide, rfl, am_tb 1215 (by decide +kernel) rfl, am_tp 115 (by decide +kernel) rfl, ⟨TX6, 16, rfl⟩, Or.inl (am_tb 1213 (by decide +kernel) rfl)⟩⟩
def m_M_told : MI := (k_M_told, [(32, 6, 11)], [(64, d_M_before 16), (117, d_M_lastOf 16), (120, d_M_settles 16)], [], [], [], [], 3, 68, some .int, fun _ => 0, 1)
def s_M_told_11 (h : HP) (a1 : Int32) (y1 : HP) (v1 : Int32 × HP) : (Int32 × HP) ⊕ (Int32 × HP) := (if v1.1 = a1 then (.inr (v1.1, v1.2)) else (bnd (v_M_settles v1.2 (v_M_before v1.2 v1.1)) fun y3 => (.inl ((v_M_before v1.2 v1.1), y3))))
def ps_M_told_11 (h : HP) (a1 : Int32) (y1 : HP) (v1 : Int32 × HP) : Prop := ((v1.1 = a1 → True) ∧ (¬ v1.1 = a1 → ((p_M_before v1.2 v1.1) ∧ (p_M_settles v1.2 (v_M_before v1.2 v1.1)))))
def v_M_told (h : HP) (a1 : Int32) : Int32 × HP := (bnd (v_M_settles h (v_M_lastOf h a1)) fun y1 => (match itr (s_M_told_11 h a1 y1) NF ((v_M_lastOf h a1), y1) with | some r2 => (r2.2.1 8 (am_ix a1), r2.2) | none => (0, h)))
def p_M_told (h : HP) (a1 : Int32) : Prop := ((p_M_lastOf h a1) ∧ ((p_M_settles h (v_M_lastOf h a1)) ∧ (∀ y1, v_M_settles h (v_M_lastOf h a1) = y1 → (itrp (s_M_told_11 h a1 y1) (ps_M_told_11 h a1 y1) NF ((v_M_lastOf h a1), y1) ∧ ∀ r2, itr (s_M_told_11 h a1 y1) NF ((v_M_lastOf h a1), y1) = some r2 → (am_in a1 20)))))
def g_M_told (_ _ : List Sh) (as : List Value) (h : HP) : GR := match as with
  | [.ref o1, .int a1] => (Nat.beq o1 0, p_M_told h a1, none, some (.int (v_M_told h a1).1), (v_M_told h a1).2)
  | _ => bad h
def d_M_told (k : Nat) : CD := (k, yX6_told, cX6_told, 3, some .int, 2, 3, 68, 0, false, true, g_M_told)
theorem chk_M_told : ∀ pc, am_chk cX6_told k_M_told pc = true := am_chkall 37 (by decide +kernel) (fun pc h => by unfold k_M_told; rw [Nat.ble_eq_true_of_le h]; rfl)
theorem pf_M_told : plainFor yX6_told = true := by decide +kernel
theorem cu_M_told : Cond.code yX6_told cX6_told 3 (some .int) ∈ am_U := am_tb 1212 (by decide +kernel) rfl
set_option maxHeartbeats 20000000 in
set_option maxRecDepth 100000 in
theorem ev_M_told {e1 ro : List Sh} {P : AR → HP → Prop} (h : HP) (a1 : Int32) (hp : p_M_told h a1) (hP : ∀ q, v_M_told h a1 = q → RIW P h q) : am_Ev m_M_told (WM ++ e1) ro P (0, [.ref 0, .int a1, .retAddr 0], [], h) := by
  unfold p_M_told at hp
  refine am_Ev_G [11] 400 _ ?_
  show ((p_M_lastOf h a1) ∧ ((p_M_settles h (v_M_lastOf h a1)) ∧ am_Ev m_M_told (WM ++ e1) ro P (11, [.ref 0, .int a1, .int (v_M_lastOf h a1)], [], (v_M_settles h (v_M_lastOf h a1)))))
  obtain ⟨hob, hp⟩ := hp
  refine ⟨hob, ?_⟩
  obtain ⟨hob, hp⟩ := hp
  refine ⟨hob, ?_⟩
  obtain ⟨y1, c1⟩ : ∃ y, v_M_settles h (v_M_lastOf h a1) = y := ⟨_, rfl⟩
  rw [c1]
  have hp := hp _ c1
  show am_Ev m_M_told (WM ++ e1) ro P (11, [.ref 0, .int a1, .int (v_M_lastOf h a1)], [], y1)
  obtain ⟨hpl, hp⟩ := hp
  refine am_itr (E := (fun (v1 : Int32 × HP) => am_Ev m_M_told (WM ++ e1) ro P (11, [.ref 0, .int a1, .int v1.1], [], v1.2))) (E' := (fun (r2 : Int32 × HP) => am_Ev m_M_told (WM ++ e1) ro P (30, [.ref 0, .int a1, .int r2.1], [], r2.2))) (s_M_told_11 h a1 y1) (ps_M_told_11 h a1 y1) ?_ NF ((v_M_lastOf h a1), y1) hpl ?_
  · intro v1 hp hc1 hx1
    show am_Ev m_M_told (WM ++ e1) ro P (11, [.ref 0, .int a1, .int v1.1], [], v1.2)
    unfold ps_M_told_11 at hp
    refine am_Ev_G [27, 30] 400 _ ?_
    show ((v1.1 = a1 → am_Ev m_M_told (WM ++ e1) ro P (30, [.ref 0, .int a1, .int v1.1], [], v1.2)) ∧ (¬ v1.1 = a1 → ((p_M_before v1.2 v1.1) ∧ ((p_M_settles v1.2 (v_M_before v1.2 v1.1)) ∧ am_Ev m_M_told (WM ++ e1) ro P (27, [.ref 0, .int a1, .int (v_M_before v1.2 v1.1)], [], (v_M_settles v1.2 (v_M_before v1.2 v1.1)))))))
    refine ⟨fun c2 => ?_, fun c2 => ?_⟩
    · skip
      exact hx1 (v1.1, v1.2) (by unfold s_M_told_11; simp only [if_pos c2])
    · have hp := hp.2 c2
      obtain ⟨hob, hp⟩ := hp
      refine ⟨hob, ?_⟩
      refine ⟨hp, ?_⟩
      obtain ⟨y3, c3⟩ : ∃ y, v_M_settles v1.2 (v_M_before v1.2 v1.1) = y := ⟨_, rfl⟩
      rw [c3]
      show am_Ev m_M_told (WM ++ e1) ro P (27, [.ref 0, .int a1, .int (v_M_before v1.2 v1.1)], [], y3)
      refine am_Ev_G [11] 400 _ ?_
      show am_Ev m_M_told (WM ++ e1) ro P (11, [.ref 0, .int a1, .int (v_M_before v1.2 v1.1)], [], y3)
      exact hc1 ((v_M_before v1.2 v1.1), y3) (by unfold s_M_told_11; simp only [if_neg c2, bnd, c3])
  · intro r2 hr4
    have hp := hp _ hr4
    show am_Ev m_M_told (WM ++ e1) ro P (30, [.ref 0, .int a1, .int r2.1], [], r2.2)
    refine am_Ev_G [] 400 _ ?_
    show ((am_in a1 20) ∧ P (.inl (some (.int (r2.2.1 8 (am_ix a1))))) r2.2)
    refine ⟨hp, ?_⟩
    exact hP (r2.2.1 8 (am_ix a1), r2.2) (by unfold v_M_told; simp only [bnd, c1, hr4])
theorem ok_M_told {l : Launch} (hl : l.stackTraces = false) (e1 ro : List Sh) (k : Nat) : am_Ok l (WM ++ e1) ro (d_M_told k) := by
  refine am_met hl (own := RX6) (M := m_M_told) rfl pf_M_told cu_M_told rfl rfl rfl rfl (fun _ => rfl) rfl ⟨chk_M_told, (am_c (fl_M_32) am_n), (am_c (lk_M_64) (am_c (lk_M_117) (am_c (lk_M_120) am_n))), (am_n), (am_n)⟩ (am_n) (am_c (ok_M_before hl e1 _ 16) (am_c (ok_M_lastOf hl e1 _ 16) (am_c (ok_M_settles hl e1 _ 16) am_n))) (fun z => nomatch z) ?_ ?_
  · intro _ as h hg
    show g_thr (g_M_told (WM ++ e1) ro as h) = none
    unfold g_M_told
    split <;> rfl
  · intro as h hg hp
    revert hg hp
    show g_ok (g_M_told (WM ++ e1) ro as h) = true → g_pre (g_M_told (WM ++ e1) ro as h) → _ ∧ am_Ev m_M_told (WM ++ e1) ro (am_eq (g_M_told (WM ++ e1) ro as h)) (0, am_ent as 3, [], h)
    unfold g_M_told
    split
    · rename_i o1 a1
      intro hc hp
      change (Nat.beq o1 0) = true at hc
      obtain rfl := am_beq hc
      exact ⟨Nat.le_of_ble_eq_true rfl, ev_M_told h a1 hp eqRIW⟩
    · exact fun z => nomatch z
def k_M_duties (pc : Nat) : Ent := bif Nat.ble 55 pc then am_nop else bif Nat.ble 28 pc then (bif Nat.ble 40 pc then (bif Nat.ble 46 pc then (bif Nat.ble 50 pc then (bif Nat.ble 53 pc then (bif Nat.ble 54 pc then (bif Nat.beq pc 54 then (.ireturn, 0, 0, []) else am_nop) else (bif Nat.beq pc 53 then (.iload_n 1, 0, 1, []) else am_nop)) else (bif Nat.beq pc 50 then (.goto (-46), 0, 4, []) else am_nop)) else (bif Nat.ble 47 pc then (bif Nat.beq pc 47 then (.iinc 2 1, 1, 2, []) else am_nop) else (bif Nat.beq pc 46 then (.istore_n 1, 0, 1, []) else am_nop))) else (bif Nat.ble 44 pc then (bif Nat.ble 45 pc then (bif Nat.beq pc 45 then (.iadd, 0, 0, []) else am_nop) else (bif Nat.beq pc 44 then (.iload_n 3, 0, 3, []) else am_nop)) else (bif Nat.ble 43 pc then (bif Nat.beq pc 43 then (.iload_n 1, 0, 1, []) else am_nop) else (bif Nat.beq pc 40 then (.goto 6, 0, 46, []) else am_nop)))) else (bif Nat.ble 34 pc then (bif Nat.ble 36 pc then (bif Nat.ble 39 pc then (bif Nat.beq pc 39 then (.iconst (-1), (-1 : Int32), 0, []) else am_nop) else (bif Nat.beq pc 36 then (.if_icmp .ne 7, 0, 43, []) else am_nop)) else (bif Nat.ble 35 pc then (bif Nat.beq pc 35 then (.iconst (-1), (-1 : Int32), 0, []) else am_nop) else (bif Nat.beq pc 34 then (.iload_n 1, 0, 1, []) else am_nop))) else (bif Nat.ble 30 pc then (bif Nat.ble 31 pc then (bif Nat.beq pc 31 then (.if_icmp .eq 8, 0, 39, []) else am_nop) else (bif Nat.beq pc 30 then (.iconst (-1), (-1 : Int32), 0, []) else am_nop)) else (bif Nat.ble 29 pc then (bif Nat.beq pc 29 then (.iload_n 3, 0, 3, []) else am_nop) else (bif Nat.beq pc 28 then (.istore_n 3, 0, 3, []) else am_nop))))) else (bif Nat.ble 11 pc then (bif Nat.ble 17 pc then (bif Nat.ble 23 pc then (bif Nat.ble 24 pc then (bif Nat.ble 25 pc then (bif Nat.beq pc 25 then (.invokevirtual 124, 0, 0, []) else am_nop) else (bif Nat.beq pc 24 then (.iload_n 2, 0, 2, []) else am_nop)) else (bif Nat.beq pc 23 then (.aload_n 0, 0, 0, []) else am_nop)) else (bif Nat.ble 20 pc then (bif Nat.beq pc 20 then (.ifCond .eq 27, 0, 47, []) else am_nop) else (bif Nat.beq pc 17 then (.invokevirtual 70, 0, 0, []) else am_nop))) else (bif Nat.ble 15 pc then (bif Nat.ble 16 pc then (bif Nat.beq pc 16 then (.iload_n 2, 0, 2, []) else am_nop) else (bif Nat.beq pc 15 then (.aload_n 0, 0, 0, []) else am_nop)) else (bif Nat.ble 12 pc then (bif Nat.beq pc 12 then (.if_icmp .ge 41, 0, 53, []) else am_nop) else (bif Nat.beq pc 11 then (.iaload, 0, 0, []) else am_nop)))) else (bif Nat.ble 4 pc then (bif Nat.ble 6 pc then (bif Nat.ble 9 pc then (bif Nat.beq pc 9 then (.bipush 15, 15, 0, []) else am_nop) else (bif Nat.beq pc 6 then (.getfield 7, 0, 0, []) else am_nop)) else (bif Nat.ble 5 pc then (bif Nat.beq pc 5 then (.aload_n 0, 0, 0, []) else am_nop) else (bif Nat.beq pc 4 then (.iload_n 2, 0, 2, []) else am_nop))) else (bif Nat.ble 2 pc then (bif Nat.ble 3 pc then (bif Nat.beq pc 3 then (.istore_n 2, 0, 2, []) else am_nop) else (bif Nat.beq pc 2 then (.iconst 0, 0, 0, []) else am_nop)) else (bif Nat.ble 1 pc then (bif Nat.beq pc 1 then (.istore_n 1, 0, 1, []) else am_nop) else (bif Nat.beq pc 0 then (.iconst 0, 0, 0, []) else am_nop)))))
theorem lk_M_124 : am_lnk RX6 124 (d_M_cuts 16) := ⟨⟨by decide, by decide⟩, am_tb 8 (by decide +kernel) rfl, Or.inr ⟨by decide, rfl, am_tb 1203 (by decide +kernel) rfl, am_tp 112 (by decide +kernel) rfl, ⟨TX6, 16, rfl⟩, Or.inl (am_tb 1201 (by decide +kernel) rfl)⟩⟩
def m_M_duties : MI := (k_M_duties, [(7, 6, 0)], [(70, d_M_isFirst 16), (124, d_M_cuts 16)], [], [], [], [], 4, 90, some .int, fun _ => 0, 1)
def s_M_duties_4 (h : HP) (v1 : Int32 × Int32 × HP) : (Int32 × Int32 × HP) ⊕ (Int32 × Int32 × HP) := (if v1.2.1 < (v1.2.2.1 1 (am_ix 15)) then (if (v_M_isFirst v1.2.2 v1.2.1) = 0 then (.inl (v1.1, (v1.2.1 + 1), v1.2.2)) else (bnd (v_M_cuts v1.2.2 v1.2.1) fun y2 => (.inl ((if y2.1 = (-1 : Int32) then (-1 : Int32) else (if v1.1 = (-1 : Int32) then (-1 : Int32) else (v1.1 + y2.1))), (v1.2.1 + 1), y2.2)))) else (.inr (v1.1, v1.2.1, v1.2.2)))
def ps_M_duties_4 (h : HP) (v1 : Int32 × Int32 × HP) : Prop := ((v1.2.1 < (v1.2.2.1 1 (am_ix 15)) → ((p_M_isFirst v1.2.2 v1.2.1) ∧ (((v_M_isFirst v1.2.2 v1.2.1) = 0 → True) ∧ (¬ (v_M_isFirst v1.2.2 v1.2.1) = 0 → (p_M_cuts v1.2.2 v1.2.1))))) ∧ (¬ v1.2.1 < (v1.2.2.1 1 (am_ix 15)) → True))
def v_M_duties (h : HP) : Int32 × HP := (match itr (s_M_duties_4 h) NF (0, 0, h) with | some r1 => (r1.1, r1.2.2) | none => (0, h))
def p_M_duties (h : HP) : Prop := (itrp (s_M_duties_4 h) (ps_M_duties_4 h) NF (0, 0, h))
def g_M_duties (_ _ : List Sh) (as : List Value) (h : HP) : GR := match as with
  | [.ref o1] => (Nat.beq o1 0, p_M_duties h, none, some (.int (v_M_duties h).1), (v_M_duties h).2)
  | _ => bad h
def d_M_duties (k : Nat) : CD := (k, yX6_duties, cX6_duties, 4, some .int, 1, 4, 90, 0, false, true, g_M_duties)
theorem chk_M_duties : ∀ pc, am_chk cX6_duties k_M_duties pc = true := am_chkall 55 (by decide +kernel) (fun pc h => by unfold k_M_duties; rw [Nat.ble_eq_true_of_le h]; rfl)
theorem pf_M_duties : plainFor yX6_duties = true := by decide +kernel
theorem cu_M_duties : Cond.code yX6_duties cX6_duties 4 (some .int) ∈ am_U := am_tb 1252 (by decide +kernel) rfl
set_option maxHeartbeats 20000000 in
set_option maxRecDepth 100000 in
theorem ev_M_duties {e1 ro : List Sh} {P : AR → HP → Prop} (h : HP) (hp : p_M_duties h) (hP : ∀ q, v_M_duties h = q → RIW P h q) : am_Ev m_M_duties (WM ++ e1) ro P (0, [.ref 0, .retAddr 0, .retAddr 0, .retAddr 0], [], h) := by
  unfold p_M_duties at hp
  refine am_Ev_G [4] 400 _ ?_
  show am_Ev m_M_duties (WM ++ e1) ro P (4, [.ref 0, .int 0, .int 0, .retAddr 0], [], h)
  have hpl := hp
  refine am_itr (E := (fun (v1 : Int32 × Int32 × HP) => am_Ev m_M_duties (WM ++ e1) ro P (4, [.ref 0, .int v1.1, .int v1.2.1, .retAddr 0], [], v1.2.2))) (E' := (fun (r1 : Int32 × Int32 × HP) => am_Ev m_M_duties (WM ++ e1) ro P (53, [.ref 0, .int r1.1, .int r1.2.1, .retAddr 0], [], r1.2.2))) (s_M_duties_4 h) (ps_M_duties_4 h) ?_ NF (0, 0, h) hpl ?_
  · intro v1 hp hc1 hx1
    show am_Ev m_M_duties (WM ++ e1) ro P (4, [.ref 0, .int v1.1, .int v1.2.1, .retAddr 0], [], v1.2.2)
    unfold ps_M_duties_4 at hp
    refine am_Ev_G [20, 53] 400 _ ?_
    show ((am_in 15 163) ∧ ((¬ v1.2.1 < (v1.2.2.1 1 (am_ix 15)) → am_Ev m_M_duties (WM ++ e1) ro P (53, [.ref 0, .int v1.1, .int v1.2.1, .retAddr 0], [], v1.2.2)) ∧ (v1.2.1 < (v1.2.2.1 1 (am_ix 15)) → ((p_M_isFirst v1.2.2 v1.2.1) ∧ am_Ev m_M_duties (WM ++ e1) ro P (20, [.ref 0, .int v1.1, .int v1.2.1, .retAddr 0], [.int (v_M_isFirst v1.2.2 v1.2.1)], v1.2.2)))))
    refine ⟨⟨by decide, by decide⟩, ?_⟩
    refine ⟨fun c1 => ?_, fun c1 => ?_⟩
    · skip
      exact hx1 (v1.1, v1.2.1, v1.2.2) (by unfold s_M_duties_4; simp only [if_neg c1])
    · have hp := hp.1 c1
      obtain ⟨hob, hp⟩ := hp
      refine ⟨hob, ?_⟩
      refine am_Ev_G [4, 28] 400 _ ?_
      show (((v_M_isFirst v1.2.2 v1.2.1) = 0 → am_Ev m_M_duties (WM ++ e1) ro P (4, [.ref 0, .int v1.1, .int (v1.2.1 + 1), .retAddr 0], [], v1.2.2)) ∧ (¬ (v_M_isFirst v1.2.2 v1.2.1) = 0 → ((p_M_cuts v1.2.2 v1.2.1) ∧ am_Ev m_M_duties (WM ++ e1) ro P (28, [.ref 0, .int v1.1, .int v1.2.1, .retAddr 0], [.int ((v_M_cuts v1.2.2 v1.2.1).1)], ((v_M_cuts v1.2.2 v1.2.1).2)))))
      refine ⟨fun c2 => ?_, fun c2 => ?_⟩
      · skip
        exact hc1 (v1.1, (v1.2.1 + 1), v1.2.2) (by unfold s_M_duties_4; simp only [if_pos c1, if_pos c2])
      · have hp := hp.2 c2
        refine ⟨hp, ?_⟩
        obtain ⟨y2, c3⟩ : ∃ y, v_M_cuts v1.2.2 v1.2.1 = y := ⟨_, rfl⟩
        rw [c3]
        show am_Ev m_M_duties (WM ++ e1) ro P (28, [.ref 0, .int v1.1, .int v1.2.1, .retAddr 0], [.int y2.1], y2.2)
        refine am_Ev_G [31] 400 _ ?_
        show am_Ev m_M_duties (WM ++ e1) ro P (31, [.ref 0, .int v1.1, .int v1.2.1, .int y2.1], [.int (-1 : Int32), .int y2.1], y2.2)
        have key4 : am_Ev m_M_duties (WM ++ e1) ro P (46, [.ref 0, .int v1.1, .int v1.2.1, .int y2.1], [.int (if y2.1 = (-1 : Int32) then (-1 : Int32) else (if v1.1 = (-1 : Int32) then (-1 : Int32) else (v1.1 + y2.1)))], y2.2) := by
          refine am_Ev_G [4] 400 _ ?_
          show am_Ev m_M_duties (WM ++ e1) ro P (4, [.ref 0, .int (if y2.1 = (-1 : Int32) then (-1 : Int32) else (if v1.1 = (-1 : Int32) then (-1 : Int32) else (v1.1 + y2.1))), .int (v1.2.1 + 1), .int y2.1], [], y2.2)
          refine am_fg 3 ?_
          exact hc1 ((if y2.1 = (-1 : Int32) then (-1 : Int32) else (if v1.1 = (-1 : Int32) then (-1 : Int32) else (v1.1 + y2.1))), (v1.2.1 + 1), y2.2) (by unfold s_M_duties_4; simp only [if_pos c1, if_neg c2, bnd, c3])
        refine am_Ev_G [46] 400 _ ?_
        show ((y2.1 = (-1 : Int32) → am_Ev m_M_duties (WM ++ e1) ro P (46, [.ref 0, .int v1.1, .int v1.2.1, .int y2.1], [.int (-1 : Int32)], y2.2)) ∧ (¬ y2.1 = (-1 : Int32) → ((¬ v1.1 = (-1 : Int32) → am_Ev m_M_duties (WM ++ e1) ro P (46, [.ref 0, .int v1.1, .int v1.2.1, .int y2.1], [.int (v1.1 + y2.1)], y2.2)) ∧ (v1.1 = (-1 : Int32) → am_Ev m_M_duties (WM ++ e1) ro P (46, [.ref 0, .int v1.1, .int v1.2.1, .int y2.1], [.int (-1 : Int32)], y2.2)))))
        refine ⟨fun c5 => ?_, fun c5 => ?_⟩
        · skip
          simpa only [if_pos c5] using key4
        · skip
          refine ⟨fun c6 => ?_, fun c6 => ?_⟩
          · skip
            simpa only [if_neg c5, if_neg c6] using key4
          · skip
            simpa only [if_neg c5, if_pos c6] using key4
  · intro r1 hr7
    show am_Ev m_M_duties (WM ++ e1) ro P (53, [.ref 0, .int r1.1, .int r1.2.1, .retAddr 0], [], r1.2.2)
    refine am_Ev_G [] 400 _ ?_
    show P (.inl (some (.int r1.1))) r1.2.2
    exact hP (r1.1, r1.2.2) (by unfold v_M_duties; simp only [hr7])
theorem ok_M_duties {l : Launch} (hl : l.stackTraces = false) (e1 ro : List Sh) (k : Nat) : am_Ok l (WM ++ e1) ro (d_M_duties k) := by
  refine am_met hl (own := RX6) (M := m_M_duties) rfl pf_M_duties cu_M_duties rfl rfl rfl rfl (fun _ => rfl) rfl ⟨chk_M_duties, (am_c (fl_M_7) am_n), (am_c (lk_M_70) (am_c (lk_M_124) am_n)), (am_n), (am_n)⟩ (am_n) (am_c (ok_M_isFirst hl e1 _ 16) (am_c (ok_M_cuts hl e1 _ 16) am_n)) (fun z => nomatch z) ?_ ?_
  · intro _ as h hg
    show g_thr (g_M_duties (WM ++ e1) ro as h) = none
    unfold g_M_duties
    split <;> rfl
  · intro as h hg hp
    revert hg hp
    show g_ok (g_M_duties (WM ++ e1) ro as h) = true → g_pre (g_M_duties (WM ++ e1) ro as h) → _ ∧ am_Ev m_M_duties (WM ++ e1) ro (am_eq (g_M_duties (WM ++ e1) ro as h)) (0, am_ent as 4, [], h)
    unfold g_M_duties
    split
    · rename_i o1
      intro hc hp
      change (Nat.beq o1 0) = true at hc
      obtain rfl := am_beq hc
      exact ⟨Nat.le_of_ble_eq_true rfl, ev_M_duties h hp eqRIW⟩
    · exact fun z => nomatch z
end
