/-! BusBlocksModel, out of its code (written by gen/meth.py). -/
noncomputable section
def k_M_mixesAll (pc : Nat) : Ent := bif Nat.ble 126 pc then am_nop else bif Nat.ble 61 pc then (bif Nat.ble 90 pc then (bif Nat.ble 107 pc then (bif Nat.ble 115 pc then (bif Nat.ble 119 pc then (bif Nat.ble 122 pc then (bif Nat.ble 125 pc then (bif Nat.beq pc 125 then (.return_, 0, 0, []) else am_nop) else (bif Nat.beq pc 122 then (.goto (-16), 0, 106, []) else am_nop)) else (bif Nat.beq pc 119 then (.iinc 1 1, 1, 1, []) else am_nop)) else (bif Nat.ble 116 pc then (bif Nat.beq pc 116 then (.invokevirtual 275, 0, 0, []) else am_nop) else (bif Nat.beq pc 115 then (.iload_n 1, 0, 1, []) else am_nop))) else (bif Nat.ble 111 pc then (bif Nat.ble 114 pc then (bif Nat.beq pc 114 then (.aload_n 0, 0, 0, []) else am_nop) else (bif Nat.beq pc 111 then (.if_icmp .ge 14, 0, 125, []) else am_nop)) else (bif Nat.ble 108 pc then (bif Nat.beq pc 108 then (.invokevirtual 93, 0, 0, []) else am_nop) else (bif Nat.beq pc 107 then (.aload_n 0, 0, 0, []) else am_nop)))) else (bif Nat.ble 98 pc then (bif Nat.ble 104 pc then (bif Nat.ble 105 pc then (bif Nat.ble 106 pc then (bif Nat.beq pc 106 then (.iload_n 1, 0, 1, []) else am_nop) else (bif Nat.beq pc 105 then (.istore_n 1, 0, 1, []) else am_nop)) else (bif Nat.beq pc 104 then (.iconst 0, 0, 0, []) else am_nop)) else (bif Nat.ble 101 pc then (bif Nat.beq pc 101 then (.goto (-19), 0, 82, []) else am_nop) else (bif Nat.beq pc 98 then (.iinc 1 1, 1, 1, []) else am_nop))) else (bif Nat.ble 94 pc then (bif Nat.ble 95 pc then (bif Nat.beq pc 95 then (.invokevirtual 272, 0, 0, []) else am_nop) else (bif Nat.beq pc 94 then (.iload_n 1, 0, 1, []) else am_nop)) else (bif Nat.ble 93 pc then (bif Nat.beq pc 93 then (.aload_n 0, 0, 0, []) else am_nop) else (bif Nat.beq pc 90 then (.if_icmp .ge 14, 0, 104, []) else am_nop))))) else (bif Nat.ble 74 pc then (bif Nat.ble 82 pc then (bif Nat.ble 84 pc then (bif Nat.ble 87 pc then (bif Nat.ble 89 pc then (bif Nat.beq pc 89 then (.iaload, 0, 0, []) else am_nop) else (bif Nat.beq pc 87 then (.bipush 15, 15, 0, []) else am_nop)) else (bif Nat.beq pc 84 then (.getfield 7, 0, 0, []) else am_nop)) else (bif Nat.ble 83 pc then (bif Nat.beq pc 83 then (.aload_n 0, 0, 0, []) else am_nop) else (bif Nat.beq pc 82 then (.iload_n 1, 0, 1, []) else am_nop))) else (bif Nat.ble 80 pc then (bif Nat.ble 81 pc then (bif Nat.beq pc 81 then (.istore_n 1, 0, 1, []) else am_nop) else (bif Nat.beq pc 80 then (.iconst 0, 0, 0, []) else am_nop)) else (bif Nat.ble 77 pc then (bif Nat.beq pc 77 then (.goto (-24), 0, 53, []) else am_nop) else (bif Nat.beq pc 74 then (.iinc 1 1, 1, 1, []) else am_nop)))) else (bif Nat.ble 65 pc then (bif Nat.ble 67 pc then (bif Nat.ble 70 pc then (bif Nat.ble 71 pc then (bif Nat.beq pc 71 then (.invokevirtual 268, 0, 0, []) else am_nop) else (bif Nat.beq pc 70 then (.i2l, 0, 0, []) else am_nop)) else (bif Nat.beq pc 67 then (.invokevirtual 194, 0, 0, []) else am_nop)) else (bif Nat.ble 66 pc then (bif Nat.beq pc 66 then (.irem, 0, 0, []) else am_nop) else (bif Nat.beq pc 65 then (.iconst 5, 5, 0, []) else am_nop))) else (bif Nat.ble 63 pc then (bif Nat.ble 64 pc then (bif Nat.beq pc 64 then (.iload_n 1, 0, 1, []) else am_nop) else (bif Nat.beq pc 63 then (.idiv, 0, 0, []) else am_nop)) else (bif Nat.ble 62 pc then (bif Nat.beq pc 62 then (.iconst 5, 5, 0, []) else am_nop) else (bif Nat.beq pc 61 then (.iload_n 1, 0, 1, []) else am_nop)))))) else (bif Nat.ble 31 pc then (bif Nat.ble 45 pc then (bif Nat.ble 53 pc then (bif Nat.ble 56 pc then (bif Nat.ble 59 pc then (bif Nat.ble 60 pc then (bif Nat.beq pc 60 then (.aload_n 0, 0, 0, []) else am_nop) else (bif Nat.beq pc 59 then (.aload_n 0, 0, 0, []) else am_nop)) else (bif Nat.beq pc 56 then (.if_icmp .ge 24, 0, 80, []) else am_nop)) else (bif Nat.ble 54 pc then (bif Nat.beq pc 54 then (.bipush 20, 20, 0, []) else am_nop) else (bif Nat.beq pc 53 then (.iload_n 1, 0, 1, []) else am_nop))) else (bif Nat.ble 51 pc then (bif Nat.ble 52 pc then (bif Nat.beq pc 52 then (.istore_n 1, 0, 1, []) else am_nop) else (bif Nat.beq pc 51 then (.iconst 0, 0, 0, []) else am_nop)) else (bif Nat.ble 48 pc then (bif Nat.beq pc 48 then (.goto (-22), 0, 26, []) else am_nop) else (bif Nat.beq pc 45 then (.iinc 1 1, 1, 1, []) else am_nop)))) else (bif Nat.ble 38 pc then (bif Nat.ble 40 pc then (bif Nat.ble 41 pc then (bif Nat.ble 42 pc then (bif Nat.beq pc 42 then (.invokevirtual 268, 0, 0, []) else am_nop) else (bif Nat.beq pc 41 then (.i2l, 0, 0, []) else am_nop)) else (bif Nat.beq pc 40 then (.iaload, 0, 0, []) else am_nop)) else (bif Nat.ble 39 pc then (bif Nat.beq pc 39 then (.iadd, 0, 0, []) else am_nop) else (bif Nat.beq pc 38 then (.iload_n 1, 0, 1, []) else am_nop))) else (bif Nat.ble 33 pc then (bif Nat.ble 36 pc then (bif Nat.beq pc 36 then (.bipush 8, 8, 0, []) else am_nop) else (bif Nat.beq pc 33 then (.getfield 7, 0, 0, []) else am_nop)) else (bif Nat.ble 32 pc then (bif Nat.beq pc 32 then (.aload_n 0, 0, 0, []) else am_nop) else (bif Nat.beq pc 31 then (.aload_n 0, 0, 0, []) else am_nop))))) else (bif Nat.ble 14 pc then (bif Nat.ble 24 pc then (bif Nat.ble 26 pc then (bif Nat.ble 27 pc then (bif Nat.ble 28 pc then (bif Nat.beq pc 28 then (.if_icmp .ge 23, 0, 51, []) else am_nop) else (bif Nat.beq pc 27 then (.iconst 4, 4, 0, []) else am_nop)) else (bif Nat.beq pc 26 then (.iload_n 1, 0, 1, []) else am_nop)) else (bif Nat.ble 25 pc then (bif Nat.beq pc 25 then (.istore_n 1, 0, 1, []) else am_nop) else (bif Nat.beq pc 24 then (.iconst 0, 0, 0, []) else am_nop))) else (bif Nat.ble 18 pc then (bif Nat.ble 21 pc then (bif Nat.beq pc 21 then (.goto (-19), 0, 2, []) else am_nop) else (bif Nat.beq pc 18 then (.iinc 1 1, 1, 1, []) else am_nop)) else (bif Nat.ble 15 pc then (bif Nat.beq pc 15 then (.invokevirtual 268, 0, 0, []) else am_nop) else (bif Nat.beq pc 14 then (.i2l, 0, 0, []) else am_nop)))) else (bif Nat.ble 5 pc then (bif Nat.ble 9 pc then (bif Nat.ble 10 pc then (bif Nat.ble 11 pc then (bif Nat.beq pc 11 then (.invokevirtual 245, 0, 0, []) else am_nop) else (bif Nat.beq pc 10 then (.iload_n 1, 0, 1, []) else am_nop)) else (bif Nat.beq pc 9 then (.aload_n 0, 0, 0, []) else am_nop)) else (bif Nat.ble 8 pc then (bif Nat.beq pc 8 then (.aload_n 0, 0, 0, []) else am_nop) else (bif Nat.beq pc 5 then (.if_icmp .ge 19, 0, 24, []) else am_nop))) else (bif Nat.ble 2 pc then (bif Nat.ble 3 pc then (bif Nat.beq pc 3 then (.bipush 11, 11, 0, []) else am_nop) else (bif Nat.beq pc 2 then (.iload_n 1, 0, 1, []) else am_nop)) else (bif Nat.ble 1 pc then (bif Nat.beq pc 1 then (.istore_n 1, 0, 1, []) else am_nop) else (bif Nat.beq pc 0 then (.iconst 0, 0, 0, []) else am_nop))))))
theorem lk_M_272 : am_lnk RX6 272 (d_M_mixesTrip 16) := ⟨⟨by decide, by decide⟩, am_tb 8 (by decide +kernel) rfl, Or.inr ⟨by decide, rfl, am_tb 1309 (by decide +kernel) rfl, am_tp 129 (by decide +kernel) rfl, ⟨TX6, 16, rfl⟩, Or.inl (am_tb 1307 (by decide +kernel) rfl)⟩⟩
theorem lk_M_275 : am_lnk RX6 275 (d_M_mixesBlock 16) := ⟨⟨by decide, by decide⟩, am_tb 8 (by decide +kernel) rfl, Or.inr ⟨by decide, rfl, am_tb 1313 (by decide +kernel) rfl, am_tp 130 (by decide +kernel) rfl, ⟨TX6, 16, rfl⟩, Or.inl (am_tb 1311 (by decide +kernel) rfl)⟩⟩
def m_M_mixesAll : MI := (k_M_mixesAll, [(7, 6, 0)], [(93, d_M_blocks 16), (194, d_M_aboutTerminal 16), (245, d_M_counted 16), (268, d_M_mixes 16), (272, d_M_mixesTrip 16), (275, d_M_mixesBlock 16)], [], [], [], [], 9, 210, none, fun _ => 0, 1)
def s_M_mixesAll_2 (h : HP) (v1 : Int32 × HP) : (Int32 × HP) ⊕ (Int32 × HP) := (if v1.1 < 11 then (bnd (v_M_counted v1.2 v1.1) fun y2 => (bnd (v_M_mixes y2.2 ((y2.1).toInt64)) fun y3 => (.inl ((v1.1 + 1), y3)))) else (.inr (v1.1, v1.2)))
def ps_M_mixesAll_2 (h : HP) (v1 : Int32 × HP) : Prop := ((v1.1 < 11 → (p_M_counted v1.2 v1.1)) ∧ (¬ v1.1 < 11 → True))
def s_M_mixesAll_26 (h : HP) (r1 : Int32 × HP) (v1 : Int32 × HP) : (Int32 × HP) ⊕ (Int32 × HP) := (if v1.1 < 4 then (bnd (v_M_mixes v1.2 (((v1.2.1 1 (am_ix (8 + v1.1)))).toInt64)) fun y5 => (.inl ((v1.1 + 1), y5))) else (.inr (v1.1, v1.2)))
def ps_M_mixesAll_26 (h : HP) (r1 : Int32 × HP) (v1 : Int32 × HP) : Prop := ((v1.1 < 4 → (am_in (8 + v1.1) 163)) ∧ (¬ v1.1 < 4 → True))
def s_M_mixesAll_53 (h : HP) (r1 : Int32 × HP) (r4 : Int32 × HP) (v1 : Int32 × HP) : (Int32 × HP) ⊕ (Int32 × HP) := (if v1.1 < 20 then (bnd (v_M_mixes v1.2 (((v_M_aboutTerminal v1.2 (v1.1 / 5) (v1.1 - v1.1 / 5 * 5))).toInt64)) fun y7 => (.inl ((v1.1 + 1), y7))) else (.inr (v1.1, v1.2)))
def ps_M_mixesAll_53 (h : HP) (r1 : Int32 × HP) (r4 : Int32 × HP) (v1 : Int32 × HP) : Prop := ((v1.1 < 20 → (p_M_aboutTerminal v1.2 (v1.1 / 5) (v1.1 - v1.1 / 5 * 5))) ∧ (¬ v1.1 < 20 → True))
def s_M_mixesAll_82 (h : HP) (r1 : Int32 × HP) (r4 : Int32 × HP) (r6 : Int32 × HP) (v1 : Int32 × HP) : (Int32 × HP) ⊕ (Int32 × HP) := (if v1.1 < (v1.2.1 1 (am_ix 15)) then (bnd (v_M_mixesTrip v1.2 v1.1) fun y9 => (.inl ((v1.1 + 1), y9))) else (.inr (v1.1, v1.2)))
def ps_M_mixesAll_82 (h : HP) (r1 : Int32 × HP) (r4 : Int32 × HP) (r6 : Int32 × HP) (v1 : Int32 × HP) : Prop := ((v1.1 < (v1.2.1 1 (am_ix 15)) → (p_M_mixesTrip v1.2 v1.1)) ∧ (¬ v1.1 < (v1.2.1 1 (am_ix 15)) → True))
def s_M_mixesAll_106 (h : HP) (r1 : Int32 × HP) (r4 : Int32 × HP) (r6 : Int32 × HP) (r8 : Int32 × HP) (v1 : Int32 × HP) : (Int32 × HP) ⊕ (Int32 × HP) := (if v1.1 < (v_M_blocks v1.2) then (bnd (v_M_mixesBlock v1.2 v1.1) fun y11 => (.inl ((v1.1 + 1), y11))) else (.inr (v1.1, v1.2)))
def ps_M_mixesAll_106 (h : HP) (r1 : Int32 × HP) (r4 : Int32 × HP) (r6 : Int32 × HP) (r8 : Int32 × HP) (v1 : Int32 × HP) : Prop := ((p_M_blocks v1.2) ∧ ((v1.1 < (v_M_blocks v1.2) → (p_M_mixesBlock v1.2 v1.1)) ∧ (¬ v1.1 < (v_M_blocks v1.2) → True)))
def v_M_mixesAll (h : HP) : HP := (match itr (s_M_mixesAll_2 h) NF (0, h) with | some r1 => (match itr (s_M_mixesAll_26 h r1) NF (0, r1.2) with | some r4 => (match itr (s_M_mixesAll_53 h r1 r4) NF (0, r4.2) with | some r6 => (match itr (s_M_mixesAll_82 h r1 r4 r6) NF (0, r6.2) with | some r8 => (match itr (s_M_mixesAll_106 h r1 r4 r6 r8) NF (0, r8.2) with | some r10 => r10.2 | none => h) | none => h) | none => h) | none => h) | none => h)
def p_M_mixesAll (h : HP) : Prop := (itrp (s_M_mixesAll_2 h) (ps_M_mixesAll_2 h) NF (0, h) ∧ ∀ r1, itr (s_M_mixesAll_2 h) NF (0, h) = some r1 → (itrp (s_M_mixesAll_26 h r1) (ps_M_mixesAll_26 h r1) NF (0, r1.2) ∧ ∀ r4, itr (s_M_mixesAll_26 h r1) NF (0, r1.2) = some r4 → (itrp (s_M_mixesAll_53 h r1 r4) (ps_M_mixesAll_53 h r1 r4) NF (0, r4.2) ∧ ∀ r6, itr (s_M_mixesAll_53 h r1 r4) NF (0, r4.2) = some r6 → (itrp (s_M_mixesAll_82 h r1 r4 r6) (ps_M_mixesAll_82 h r1 r4 r6) NF (0, r6.2) ∧ ∀ r8, itr (s_M_mixesAll_82 h r1 r4 r6) NF (0, r6.2) = some r8 → (itrp (s_M_mixesAll_106 h r1 r4 r6 r8) (ps_M_mixesAll_106 h r1 r4 r6 r8) NF (0, r8.2))))))
def g_M_mixesAll (_ _ : List Sh) (as : List Value) (h : HP) : GR := match as with
  | [.ref o1] => (Nat.beq o1 0, p_M_mixesAll h, none, none, v_M_mixesAll h)
  | _ => bad h
def d_M_mixesAll (k : Nat) : CD := (k, yX6_mixesAll, cX6_mixesAll, 2, none, 1, 9, 210, 0, false, true, g_M_mixesAll)
theorem chk_M_mixesAll : ∀ pc, am_chk cX6_mixesAll k_M_mixesAll pc = true := am_chkall 126 (by decide +kernel) (fun pc h => by unfold k_M_mixesAll; rw [Nat.ble_eq_true_of_le h]; rfl)
theorem pf_M_mixesAll : plainFor yX6_mixesAll = true := by decide +kernel
theorem cu_M_mixesAll : Cond.code yX6_mixesAll cX6_mixesAll 2 (none) ∈ am_U := am_tb 1301 (by decide +kernel) rfl
set_option maxHeartbeats 20000000 in
set_option maxRecDepth 100000 in
theorem ev_M_mixesAll {e1 ro : List Sh} {P : AR → HP → Prop} (h : HP) (hp : p_M_mixesAll h) (hP : ∀ q, v_M_mixesAll h = q → RVW P h q) : am_Ev m_M_mixesAll (WM ++ e1) ro P (0, [.ref 0, .retAddr 0], [], h) := by
  unfold p_M_mixesAll at hp
  refine am_Ev_G [2] 400 _ ?_
  show am_Ev m_M_mixesAll (WM ++ e1) ro P (2, [.ref 0, .int 0], [], h)
  obtain ⟨hpl, hp⟩ := hp
  refine am_itr (E := (fun (v1 : Int32 × HP) => am_Ev m_M_mixesAll (WM ++ e1) ro P (2, [.ref 0, .int v1.1], [], v1.2))) (E' := (fun (r1 : Int32 × HP) => am_Ev m_M_mixesAll (WM ++ e1) ro P (24, [.ref 0, .int r1.1], [], r1.2))) (s_M_mixesAll_2 h) (ps_M_mixesAll_2 h) ?_ NF (0, h) hpl ?_
  · intro v1 hp hc1 hx1
    show am_Ev m_M_mixesAll (WM ++ e1) ro P (2, [.ref 0, .int v1.1], [], v1.2)
    unfold ps_M_mixesAll_2 at hp
    refine am_Ev_G [14, 24] 400 _ ?_
    show ((¬ v1.1 < 11 → am_Ev m_M_mixesAll (WM ++ e1) ro P (24, [.ref 0, .int v1.1], [], v1.2)) ∧ (v1.1 < 11 → ((p_M_counted v1.2 v1.1) ∧ am_Ev m_M_mixesAll (WM ++ e1) ro P (14, [.ref 0, .int v1.1], [.int ((v_M_counted v1.2 v1.1).1), .ref 0], ((v_M_counted v1.2 v1.1).2)))))
    refine ⟨fun c1 => ?_, fun c1 => ?_⟩
    · skip
      exact hx1 (v1.1, v1.2) (by unfold s_M_mixesAll_2; simp only [if_neg c1])
    · have hp := hp.1 c1
      refine ⟨hp, ?_⟩
      obtain ⟨y2, c2⟩ : ∃ y, v_M_counted v1.2 v1.1 = y := ⟨_, rfl⟩
      rw [c2]
      show am_Ev m_M_mixesAll (WM ++ e1) ro P (14, [.ref 0, .int v1.1], [.int y2.1, .ref 0], y2.2)
      refine am_Ev_G [18] 400 _ ?_
      show am_Ev m_M_mixesAll (WM ++ e1) ro P (18, [.ref 0, .int v1.1], [], (v_M_mixes y2.2 ((y2.1).toInt64)))
      obtain ⟨y3, c3⟩ : ∃ y, v_M_mixes y2.2 ((y2.1).toInt64) = y := ⟨_, rfl⟩
      rw [c3]
      show am_Ev m_M_mixesAll (WM ++ e1) ro P (18, [.ref 0, .int v1.1], [], y3)
      refine am_Ev_G [2] 400 _ ?_
      show am_Ev m_M_mixesAll (WM ++ e1) ro P (2, [.ref 0, .int (v1.1 + 1)], [], y3)
      exact hc1 ((v1.1 + 1), y3) (by unfold s_M_mixesAll_2; simp only [if_pos c1, bnd, c2, bnd, c3])
  · intro r1 hr4
    have hp := hp _ hr4
    show am_Ev m_M_mixesAll (WM ++ e1) ro P (24, [.ref 0, .int r1.1], [], r1.2)
    refine am_Ev_G [26] 400 _ ?_
    show am_Ev m_M_mixesAll (WM ++ e1) ro P (26, [.ref 0, .int 0], [], r1.2)
    obtain ⟨hpl, hp⟩ := hp
    refine am_itr (E := (fun (v1 : Int32 × HP) => am_Ev m_M_mixesAll (WM ++ e1) ro P (26, [.ref 0, .int v1.1], [], v1.2))) (E' := (fun (r4 : Int32 × HP) => am_Ev m_M_mixesAll (WM ++ e1) ro P (51, [.ref 0, .int r4.1], [], r4.2))) (s_M_mixesAll_26 h r1) (ps_M_mixesAll_26 h r1) ?_ NF (0, r1.2) hpl ?_
    · intro v1 hp hc1 hx1
      show am_Ev m_M_mixesAll (WM ++ e1) ro P (26, [.ref 0, .int v1.1], [], v1.2)
      unfold ps_M_mixesAll_26 at hp
      refine am_Ev_G [41, 51] 400 _ ?_
      show ((¬ v1.1 < 4 → am_Ev m_M_mixesAll (WM ++ e1) ro P (51, [.ref 0, .int v1.1], [], v1.2)) ∧ (v1.1 < 4 → ((am_in (8 + v1.1) 163) ∧ am_Ev m_M_mixesAll (WM ++ e1) ro P (41, [.ref 0, .int v1.1], [.int (v1.2.1 1 (am_ix (8 + v1.1))), .ref 0], v1.2))))
      refine ⟨fun c5 => ?_, fun c5 => ?_⟩
      · skip
        exact hx1 (v1.1, v1.2) (by unfold s_M_mixesAll_26; simp only [if_neg c5])
      · have hp := hp.1 c5
        refine ⟨hp, ?_⟩
        refine am_Ev_G [45] 400 _ ?_
        show am_Ev m_M_mixesAll (WM ++ e1) ro P (45, [.ref 0, .int v1.1], [], (v_M_mixes v1.2 (((v1.2.1 1 (am_ix (8 + v1.1)))).toInt64)))
        obtain ⟨y5, c6⟩ : ∃ y, v_M_mixes v1.2 (((v1.2.1 1 (am_ix (8 + v1.1)))).toInt64) = y := ⟨_, rfl⟩
        rw [c6]
        show am_Ev m_M_mixesAll (WM ++ e1) ro P (45, [.ref 0, .int v1.1], [], y5)
        refine am_Ev_G [26] 400 _ ?_
        show am_Ev m_M_mixesAll (WM ++ e1) ro P (26, [.ref 0, .int (v1.1 + 1)], [], y5)
        exact hc1 ((v1.1 + 1), y5) (by unfold s_M_mixesAll_26; simp only [if_pos c5, bnd, c6])
    · intro r4 hr7
      have hp := hp _ hr7
      show am_Ev m_M_mixesAll (WM ++ e1) ro P (51, [.ref 0, .int r4.1], [], r4.2)
      refine am_Ev_G [53] 400 _ ?_
      show am_Ev m_M_mixesAll (WM ++ e1) ro P (53, [.ref 0, .int 0], [], r4.2)
      obtain ⟨hpl, hp⟩ := hp
      refine am_itr (E := (fun (v1 : Int32 × HP) => am_Ev m_M_mixesAll (WM ++ e1) ro P (53, [.ref 0, .int v1.1], [], v1.2))) (E' := (fun (r6 : Int32 × HP) => am_Ev m_M_mixesAll (WM ++ e1) ro P (80, [.ref 0, .int r6.1], [], r6.2))) (s_M_mixesAll_53 h r1 r4) (ps_M_mixesAll_53 h r1 r4) ?_ NF (0, r4.2) hpl ?_
      · intro v1 hp hc1 hx1
        show am_Ev m_M_mixesAll (WM ++ e1) ro P (53, [.ref 0, .int v1.1], [], v1.2)
        unfold ps_M_mixesAll_53 at hp
        refine am_Ev_G [66, 80] 400 _ ?_
        show ((¬ v1.1 < 20 → am_Ev m_M_mixesAll (WM ++ e1) ro P (80, [.ref 0, .int v1.1], [], v1.2)) ∧ (v1.1 < 20 → ((¬ 5 = 0) ∧ am_Ev m_M_mixesAll (WM ++ e1) ro P (66, [.ref 0, .int v1.1], [.int 5, .int v1.1, .int (v1.1 / 5), .ref 0, .ref 0], v1.2))))
        refine ⟨fun c8 => ?_, fun c8 => ?_⟩
        · skip
          exact hx1 (v1.1, v1.2) (by unfold s_M_mixesAll_53; simp only [if_neg c8])
        · have hp := hp.1 c8
          refine ⟨(by decide), ?_⟩
          refine am_Ev_G [74] 400 _ ?_
          show ((¬ 5 = 0) ∧ ((p_M_aboutTerminal v1.2 (v1.1 / 5) (v1.1 - v1.1 / 5 * 5)) ∧ am_Ev m_M_mixesAll (WM ++ e1) ro P (74, [.ref 0, .int v1.1], [], (v_M_mixes v1.2 (((v_M_aboutTerminal v1.2 (v1.1 / 5) (v1.1 - v1.1 / 5 * 5))).toInt64)))))
          refine ⟨(by decide), ?_⟩
          refine ⟨hp, ?_⟩
          obtain ⟨y7, c9⟩ : ∃ y, v_M_mixes v1.2 (((v_M_aboutTerminal v1.2 (v1.1 / 5) (v1.1 - v1.1 / 5 * 5))).toInt64) = y := ⟨_, rfl⟩
          rw [c9]
          show am_Ev m_M_mixesAll (WM ++ e1) ro P (74, [.ref 0, .int v1.1], [], y7)
          refine am_Ev_G [53] 400 _ ?_
          show am_Ev m_M_mixesAll (WM ++ e1) ro P (53, [.ref 0, .int (v1.1 + 1)], [], y7)
          exact hc1 ((v1.1 + 1), y7) (by unfold s_M_mixesAll_53; simp only [if_pos c8, bnd, c9])
      · intro r6 hr10
        have hp := hp _ hr10
        show am_Ev m_M_mixesAll (WM ++ e1) ro P (80, [.ref 0, .int r6.1], [], r6.2)
        refine am_Ev_G [82] 400 _ ?_
        show am_Ev m_M_mixesAll (WM ++ e1) ro P (82, [.ref 0, .int 0], [], r6.2)
        obtain ⟨hpl, hp⟩ := hp
        refine am_itr (E := (fun (v1 : Int32 × HP) => am_Ev m_M_mixesAll (WM ++ e1) ro P (82, [.ref 0, .int v1.1], [], v1.2))) (E' := (fun (r8 : Int32 × HP) => am_Ev m_M_mixesAll (WM ++ e1) ro P (104, [.ref 0, .int r8.1], [], r8.2))) (s_M_mixesAll_82 h r1 r4 r6) (ps_M_mixesAll_82 h r1 r4 r6) ?_ NF (0, r6.2) hpl ?_
        · intro v1 hp hc1 hx1
          show am_Ev m_M_mixesAll (WM ++ e1) ro P (82, [.ref 0, .int v1.1], [], v1.2)
          unfold ps_M_mixesAll_82 at hp
          refine am_Ev_G [95, 104] 400 _ ?_
          show ((am_in 15 163) ∧ ((¬ v1.1 < (v1.2.1 1 (am_ix 15)) → am_Ev m_M_mixesAll (WM ++ e1) ro P (104, [.ref 0, .int v1.1], [], v1.2)) ∧ (v1.1 < (v1.2.1 1 (am_ix 15)) → am_Ev m_M_mixesAll (WM ++ e1) ro P (95, [.ref 0, .int v1.1], [.int v1.1, .ref 0], v1.2))))
          refine ⟨⟨by decide, by decide⟩, ?_⟩
          refine ⟨fun c11 => ?_, fun c11 => ?_⟩
          · skip
            exact hx1 (v1.1, v1.2) (by unfold s_M_mixesAll_82; simp only [if_neg c11])
          · have hp := hp.1 c11
            refine am_Ev_G [98] 400 _ ?_
            show ((p_M_mixesTrip v1.2 v1.1) ∧ am_Ev m_M_mixesAll (WM ++ e1) ro P (98, [.ref 0, .int v1.1], [], (v_M_mixesTrip v1.2 v1.1)))
            refine ⟨hp, ?_⟩
            obtain ⟨y9, c12⟩ : ∃ y, v_M_mixesTrip v1.2 v1.1 = y := ⟨_, rfl⟩
            rw [c12]
            show am_Ev m_M_mixesAll (WM ++ e1) ro P (98, [.ref 0, .int v1.1], [], y9)
            refine am_Ev_G [82] 400 _ ?_
            show am_Ev m_M_mixesAll (WM ++ e1) ro P (82, [.ref 0, .int (v1.1 + 1)], [], y9)
            exact hc1 ((v1.1 + 1), y9) (by unfold s_M_mixesAll_82; simp only [if_pos c11, bnd, c12])
        · intro r8 hr13
          have hp := hp _ hr13
          show am_Ev m_M_mixesAll (WM ++ e1) ro P (104, [.ref 0, .int r8.1], [], r8.2)
          refine am_Ev_G [106] 400 _ ?_
          show am_Ev m_M_mixesAll (WM ++ e1) ro P (106, [.ref 0, .int 0], [], r8.2)
          have hpl := hp
          refine am_itr (E := (fun (v1 : Int32 × HP) => am_Ev m_M_mixesAll (WM ++ e1) ro P (106, [.ref 0, .int v1.1], [], v1.2))) (E' := (fun (r10 : Int32 × HP) => am_Ev m_M_mixesAll (WM ++ e1) ro P (125, [.ref 0, .int r10.1], [], r10.2))) (s_M_mixesAll_106 h r1 r4 r6 r8) (ps_M_mixesAll_106 h r1 r4 r6 r8) ?_ NF (0, r8.2) hpl ?_
          · intro v1 hp hc1 hx1
            show am_Ev m_M_mixesAll (WM ++ e1) ro P (106, [.ref 0, .int v1.1], [], v1.2)
            unfold ps_M_mixesAll_106 at hp
            refine am_Ev_G [111] 400 _ ?_
            show ((p_M_blocks v1.2) ∧ am_Ev m_M_mixesAll (WM ++ e1) ro P (111, [.ref 0, .int v1.1], [.int (v_M_blocks v1.2), .int v1.1], v1.2))
            obtain ⟨hob, hp⟩ := hp
            refine ⟨hob, ?_⟩
            refine am_Ev_G [119, 125] 400 _ ?_
            show ((¬ v1.1 < (v_M_blocks v1.2) → am_Ev m_M_mixesAll (WM ++ e1) ro P (125, [.ref 0, .int v1.1], [], v1.2)) ∧ (v1.1 < (v_M_blocks v1.2) → ((p_M_mixesBlock v1.2 v1.1) ∧ am_Ev m_M_mixesAll (WM ++ e1) ro P (119, [.ref 0, .int v1.1], [], (v_M_mixesBlock v1.2 v1.1)))))
            refine ⟨fun c14 => ?_, fun c14 => ?_⟩
            · skip
              exact hx1 (v1.1, v1.2) (by unfold s_M_mixesAll_106; simp only [if_neg c14])
            · have hp := hp.1 c14
              refine ⟨hp, ?_⟩
              obtain ⟨y11, c15⟩ : ∃ y, v_M_mixesBlock v1.2 v1.1 = y := ⟨_, rfl⟩
              rw [c15]
              show am_Ev m_M_mixesAll (WM ++ e1) ro P (119, [.ref 0, .int v1.1], [], y11)
              refine am_Ev_G [106] 400 _ ?_
              show am_Ev m_M_mixesAll (WM ++ e1) ro P (106, [.ref 0, .int (v1.1 + 1)], [], y11)
              exact hc1 ((v1.1 + 1), y11) (by unfold s_M_mixesAll_106; simp only [if_pos c14, bnd, c15])
          · intro r10 hr16
            show am_Ev m_M_mixesAll (WM ++ e1) ro P (125, [.ref 0, .int r10.1], [], r10.2)
            refine am_Ev_G [] 400 _ ?_
            show P (.inl none) r10.2
            exact hP r10.2 (by unfold v_M_mixesAll; simp only [hr4, hr7, hr10, hr13, hr16])
theorem ok_M_mixesAll {l : Launch} (hl : l.stackTraces = false) (e1 ro : List Sh) (k : Nat) : am_Ok l (WM ++ e1) ro (d_M_mixesAll k) := by
  refine am_met hl (own := RX6) (M := m_M_mixesAll) rfl pf_M_mixesAll cu_M_mixesAll rfl rfl rfl rfl (fun _ => rfl) rfl ⟨chk_M_mixesAll, (am_c (fl_M_7) am_n), (am_c (lk_M_93) (am_c (lk_M_194) (am_c (lk_M_245) (am_c (lk_M_268) (am_c (lk_M_272) (am_c (lk_M_275) am_n)))))), (am_n), (am_n)⟩ (am_n) (am_c (ok_M_blocks hl e1 _ 16) (am_c (ok_M_aboutTerminal hl e1 _ 16) (am_c (ok_M_counted hl e1 _ 16) (am_c (ok_M_mixes hl e1 _ 16) (am_c (ok_M_mixesTrip hl e1 _ 16) (am_c (ok_M_mixesBlock hl e1 _ 16) am_n)))))) (fun z => nomatch z) ?_ ?_
  · intro _ as h hg
    show g_thr (g_M_mixesAll (WM ++ e1) ro as h) = none
    unfold g_M_mixesAll
    split <;> rfl
  · intro as h hg hp
    revert hg hp
    show g_ok (g_M_mixesAll (WM ++ e1) ro as h) = true → g_pre (g_M_mixesAll (WM ++ e1) ro as h) → _ ∧ am_Ev m_M_mixesAll (WM ++ e1) ro (am_eq (g_M_mixesAll (WM ++ e1) ro as h)) (0, am_ent as 2, [], h)
    unfold g_M_mixesAll
    split
    · rename_i o1
      intro hc hp
      change (Nat.beq o1 0) = true at hc
      obtain rfl := am_beq hc
      exact ⟨Nat.le_of_ble_eq_true rfl, ev_M_mixesAll h hp eqRVW⟩
    · exact fun z => nomatch z
end
