/-! BusBlocksModel, out of its code (written by gen/meth.py). -/
noncomputable section
def k_M_digest (pc : Nat) : Ent := bif Nat.ble 121 pc then am_nop else bif Nat.ble 62 pc then (bif Nat.ble 90 pc then (bif Nat.ble 104 pc then (bif Nat.ble 110 pc then (bif Nat.ble 116 pc then (bif Nat.ble 117 pc then (bif Nat.ble 120 pc then (bif Nat.beq pc 120 then (.lreturn, 0, 0, []) else am_nop) else (bif Nat.beq pc 117 then (.getfield 264, 0, 0, []) else am_nop)) else (bif Nat.beq pc 116 then (.aload_n 0, 0, 0, []) else am_nop)) else (bif Nat.ble 113 pc then (bif Nat.beq pc 113 then (.goto (-22), 0, 91, []) else am_nop) else (bif Nat.beq pc 110 then (.iinc 1 1, 1, 1, []) else am_nop))) else (bif Nat.ble 106 pc then (bif Nat.ble 107 pc then (bif Nat.beq pc 107 then (.invokevirtual 268, 0, 0, []) else am_nop) else (bif Nat.beq pc 106 then (.i2l, 0, 0, []) else am_nop)) else (bif Nat.ble 105 pc then (bif Nat.beq pc 105 then (.iaload, 0, 0, []) else am_nop) else (bif Nat.beq pc 104 then (.iload_n 1, 0, 1, []) else am_nop)))) else (bif Nat.ble 96 pc then (bif Nat.ble 100 pc then (bif Nat.ble 101 pc then (bif Nat.beq pc 101 then (.getfield 26, 0, 0, []) else am_nop) else (bif Nat.beq pc 100 then (.aload_n 0, 0, 0, []) else am_nop)) else (bif Nat.ble 99 pc then (bif Nat.beq pc 99 then (.aload_n 0, 0, 0, []) else am_nop) else (bif Nat.beq pc 96 then (.if_icmp .ge 20, 0, 116, []) else am_nop))) else (bif Nat.ble 92 pc then (bif Nat.ble 93 pc then (bif Nat.beq pc 93 then (.getfield 163, 0, 0, []) else am_nop) else (bif Nat.beq pc 92 then (.aload_n 0, 0, 0, []) else am_nop)) else (bif Nat.ble 91 pc then (bif Nat.beq pc 91 then (.iload_n 1, 0, 1, []) else am_nop) else (bif Nat.beq pc 90 then (.istore_n 1, 0, 1, []) else am_nop))))) else (bif Nat.ble 76 pc then (bif Nat.ble 82 pc then (bif Nat.ble 86 pc then (bif Nat.ble 89 pc then (bif Nat.beq pc 89 then (.iconst 0, 0, 0, []) else am_nop) else (bif Nat.beq pc 86 then (.invokevirtual 268, 0, 0, []) else am_nop)) else (bif Nat.ble 85 pc then (bif Nat.beq pc 85 then (.i2l, 0, 0, []) else am_nop) else (bif Nat.beq pc 82 then (.getfield 163, 0, 0, []) else am_nop))) else (bif Nat.ble 80 pc then (bif Nat.ble 81 pc then (bif Nat.beq pc 81 then (.aload_n 0, 0, 0, []) else am_nop) else (bif Nat.beq pc 80 then (.aload_n 0, 0, 0, []) else am_nop)) else (bif Nat.ble 77 pc then (bif Nat.beq pc 77 then (.invokevirtual 268, 0, 0, []) else am_nop) else (bif Nat.beq pc 76 then (.lconst 0, 0, 0, []) else am_nop)))) else (bif Nat.ble 68 pc then (bif Nat.ble 72 pc then (bif Nat.ble 73 pc then (bif Nat.beq pc 73 then (.goto 4, 0, 77, []) else am_nop) else (bif Nat.beq pc 72 then (.lconst 1, 0, 0, []) else am_nop)) else (bif Nat.ble 69 pc then (bif Nat.beq pc 69 then (.ifCond .eq 7, 0, 76, []) else am_nop) else (bif Nat.beq pc 68 then (.baload, 0, 0, []) else am_nop))) else (bif Nat.ble 64 pc then (bif Nat.ble 67 pc then (bif Nat.beq pc 67 then (.iconst 1, 1, 0, []) else am_nop) else (bif Nat.beq pc 64 then (.getfield 22, 0, 0, []) else am_nop)) else (bif Nat.ble 63 pc then (bif Nat.beq pc 63 then (.aload_n 0, 0, 0, []) else am_nop) else (bif Nat.beq pc 62 then (.aload_n 0, 0, 0, []) else am_nop)))))) else (bif Nat.ble 29 pc then (bif Nat.ble 45 pc then (bif Nat.ble 51 pc then (bif Nat.ble 55 pc then (bif Nat.ble 58 pc then (bif Nat.ble 59 pc then (bif Nat.beq pc 59 then (.invokevirtual 268, 0, 0, []) else am_nop) else (bif Nat.beq pc 58 then (.lconst 0, 0, 0, []) else am_nop)) else (bif Nat.beq pc 55 then (.goto 4, 0, 59, []) else am_nop)) else (bif Nat.ble 54 pc then (bif Nat.beq pc 54 then (.lconst 1, 0, 0, []) else am_nop) else (bif Nat.beq pc 51 then (.ifCond .eq 7, 0, 58, []) else am_nop))) else (bif Nat.ble 49 pc then (bif Nat.ble 50 pc then (bif Nat.beq pc 50 then (.baload, 0, 0, []) else am_nop) else (bif Nat.beq pc 49 then (.iconst 0, 0, 0, []) else am_nop)) else (bif Nat.ble 46 pc then (bif Nat.beq pc 46 then (.getfield 22, 0, 0, []) else am_nop) else (bif Nat.beq pc 45 then (.aload_n 0, 0, 0, []) else am_nop)))) else (bif Nat.ble 35 pc then (bif Nat.ble 41 pc then (bif Nat.ble 44 pc then (bif Nat.beq pc 44 then (.aload_n 0, 0, 0, []) else am_nop) else (bif Nat.beq pc 41 then (.invokevirtual 268, 0, 0, []) else am_nop)) else (bif Nat.ble 38 pc then (bif Nat.beq pc 38 then (.invokestatic 283, 0, 0, []) else am_nop) else (bif Nat.beq pc 35 then (.invokevirtual 258, 0, 0, []) else am_nop))) else (bif Nat.ble 33 pc then (bif Nat.ble 34 pc then (bif Nat.beq pc 34 then (.aload_n 0, 0, 0, []) else am_nop) else (bif Nat.beq pc 33 then (.aload_n 0, 0, 0, []) else am_nop)) else (bif Nat.ble 30 pc then (bif Nat.beq pc 30 then (.invokevirtual 268, 0, 0, []) else am_nop) else (bif Nat.beq pc 29 then (.i2l, 0, 0, []) else am_nop))))) else (bif Nat.ble 16 pc then (bif Nat.ble 20 pc then (bif Nat.ble 24 pc then (bif Nat.ble 26 pc then (bif Nat.beq pc 26 then (.invokevirtual 248, 0, 0, []) else am_nop) else (bif Nat.beq pc 24 then (.bipush 30, 30, 0, []) else am_nop)) else (bif Nat.ble 21 pc then (bif Nat.beq pc 21 then (.sipush 600, 600, 0, []) else am_nop) else (bif Nat.beq pc 20 then (.iconst 1, 1, 0, []) else am_nop))) else (bif Nat.ble 18 pc then (bif Nat.ble 19 pc then (bif Nat.beq pc 19 then (.iconst 0, 0, 0, []) else am_nop) else (bif Nat.beq pc 18 then (.iconst 0, 0, 0, []) else am_nop)) else (bif Nat.ble 17 pc then (bif Nat.beq pc 17 then (.aload_n 0, 0, 0, []) else am_nop) else (bif Nat.beq pc 16 then (.aload_n 0, 0, 0, []) else am_nop)))) else (bif Nat.ble 6 pc then (bif Nat.ble 12 pc then (bif Nat.ble 13 pc then (bif Nat.beq pc 13 then (.invokevirtual 280, 0, 0, []) else am_nop) else (bif Nat.beq pc 12 then (.aload_n 0, 0, 0, []) else am_nop)) else (bif Nat.ble 9 pc then (bif Nat.beq pc 9 then (.putfield 264, 0, 0, []) else am_nop) else (bif Nat.beq pc 6 then (.ldc2_w 278, 0, 0, []) else am_nop))) else (bif Nat.ble 2 pc then (bif Nat.ble 5 pc then (bif Nat.beq pc 5 then (.aload_n 0, 0, 0, []) else am_nop) else (bif Nat.beq pc 2 then (.putfield 38, 0, 0, []) else am_nop)) else (bif Nat.ble 1 pc then (bif Nat.beq pc 1 then (.iconst 0, 0, 0, []) else am_nop) else (bif Nat.beq pc 0 then (.aload_n 0, 0, 0, []) else am_nop))))))
theorem lk_M_280 : am_lnk RX6 280 (d_M_mixesAll 16) := ⟨⟨by decide, by decide⟩, am_tb 8 (by decide +kernel) rfl, Or.inr ⟨by decide, rfl, am_tb 1300 (by decide +kernel) rfl, am_tp 127 (by decide +kernel) rfl, ⟨TX6, 16, rfl⟩, Or.inl (am_tb 1298 (by decide +kernel) rfl)⟩⟩
theorem lk_M_283 : am_lnk RX6 283 (d_E_dbits 0) := ⟨⟨by decide, by decide⟩, am_tb 18 (by decide +kernel) rfl, Or.inl ⟨by decide, rfl, am_tb 1316 (by decide +kernel) rfl, Or.inl ⟨by decide, am_tb 1315 (by decide +kernel) rfl⟩⟩⟩
theorem ck_M_278 : am_cok RX6 278 (.long 3457) := am_tb 1297 (by decide +kernel) rfl
def m_M_digest : MI := (k_M_digest, [(22, 6, 5), (26, 6, 6), (38, 6, 8), (163, 6, 7), (264, 6, 15)], [(248, d_M_withTrip 16), (258, d_M_share 16), (268, d_M_mixes 16), (280, d_M_mixesAll 16), (283, d_E_dbits 0)], [(278, .long 3457)], [], [], [], 10, 231, some .long, fun _ => 0, 1)
def s_M_digest_91 (h : HP) (y1 : HP) (y2 : Int32 × HP) (y3 : HP) (y4 : HP) (y5 : HP) (y6 : HP) (y7 : HP) (v1 : Int32 × HP) : (Int32 × HP) ⊕ (Int32 × HP) := (if v1.1 < (v1.2.1 0 7) then (bnd (v_M_mixes v1.2 (((v1.2.1 6 (am_ix v1.1))).toInt64)) fun y9 => (.inl ((v1.1 + 1), y9))) else (.inr (v1.1, v1.2)))
def ps_M_digest_91 (h : HP) (y1 : HP) (y2 : Int32 × HP) (y3 : HP) (y4 : HP) (y5 : HP) (y6 : HP) (y7 : HP) (v1 : Int32 × HP) : Prop := ((v1.1 < (v1.2.1 0 7) → (am_in v1.1 60)) ∧ (¬ v1.1 < (v1.2.1 0 7) → True))
def v_M_digest (h : HP) : Int64 × HP := (bnd (v_M_mixesAll (am_sl (am_si h 0 8 0) 0 15 3457)) fun y1 => (bnd (v_M_withTrip y1 0 0 1 600 30) fun y2 => (bnd (v_M_mixes y2.2 ((y2.1).toInt64)) fun y3 => (bnd (v_M_mixes y3 (v_dbits (v_M_share y3))) fun y4 => (bnd (v_M_mixes y4 (if (y4.1 5 (am_ix 0)) = 0 then 0 else 1)) fun y5 => (bnd (v_M_mixes y5 (if (y5.1 5 (am_ix 1)) = 0 then 0 else 1)) fun y6 => (bnd (v_M_mixes y6 (((y6.1 0 7)).toInt64)) fun y7 => (match itr (s_M_digest_91 h y1 y2 y3 y4 y5 y6 y7) NF (0, y7) with | some r8 => (r8.2.2 0 15, r8.2) | none => (0, h)))))))))
def p_M_digest (h : HP) : Prop := ((p_M_mixesAll (am_sl (am_si h 0 8 0) 0 15 3457)) ∧ (∀ y1, v_M_mixesAll (am_sl (am_si h 0 8 0) 0 15 3457) = y1 → ((p_M_withTrip y1 0 0 1 600 30) ∧ (∀ y2, v_M_withTrip y1 0 0 1 600 30 = y2 → (∀ y3, v_M_mixes y2.2 ((y2.1).toInt64) = y3 → ((p_M_share y3) ∧ (∀ y4, v_M_mixes y3 (v_dbits (v_M_share y3)) = y4 → (∀ y5, v_M_mixes y4 (if (y4.1 5 (am_ix 0)) = 0 then 0 else 1) = y5 → (∀ y6, v_M_mixes y5 (if (y5.1 5 (am_ix 1)) = 0 then 0 else 1) = y6 → (∀ y7, v_M_mixes y6 (((y6.1 0 7)).toInt64) = y7 → (itrp (s_M_digest_91 h y1 y2 y3 y4 y5 y6 y7) (ps_M_digest_91 h y1 y2 y3 y4 y5 y6 y7) NF (0, y7))))))))))))
def g_M_digest (_ _ : List Sh) (as : List Value) (h : HP) : GR := match as with
  | [.ref o1] => (Nat.beq o1 0, p_M_digest h, none, some (.long (v_M_digest h).1), (v_M_digest h).2)
  | _ => bad h
def d_M_digest (k : Nat) : CD := (k, yX6_digest, cX6_digest, 2, some .long, 1, 10, 231, 0, false, true, g_M_digest)
theorem chk_M_digest : ∀ pc, am_chk cX6_digest k_M_digest pc = true := am_chkall 121 (by decide +kernel) (fun pc h => by unfold k_M_digest; rw [Nat.ble_eq_true_of_le h]; rfl)
theorem pf_M_digest : plainFor yX6_digest = true := by decide +kernel
theorem cu_M_digest : Cond.code yX6_digest cX6_digest 2 (some .long) ∈ am_U := am_tb 1296 (by decide +kernel) rfl
set_option maxHeartbeats 20000000 in
set_option maxRecDepth 100000 in
theorem ev_M_digest {e1 ro : List Sh} {P : AR → HP → Prop} (h : HP) (hp : p_M_digest h) (hP : ∀ q, v_M_digest h = q → RJW P h q) : am_Ev m_M_digest (WM ++ e1) ro P (0, [.ref 0, .retAddr 0], [], h) := by
  unfold p_M_digest at hp
  refine am_Ev_G [5] 400 _ ?_
  show am_Ev m_M_digest (WM ++ e1) ro P (5, [.ref 0, .retAddr 0], [], (am_si h 0 8 0))
  refine am_Ev_G [12] 400 _ ?_
  show am_Ev m_M_digest (WM ++ e1) ro P (12, [.ref 0, .retAddr 0], [], (am_sl (am_si h 0 8 0) 0 15 3457))
  refine am_Ev_G [16] 400 _ ?_
  show ((p_M_mixesAll (am_sl (am_si h 0 8 0) 0 15 3457)) ∧ am_Ev m_M_digest (WM ++ e1) ro P (16, [.ref 0, .retAddr 0], [], (v_M_mixesAll (am_sl (am_si h 0 8 0) 0 15 3457))))
  obtain ⟨hob, hp⟩ := hp
  refine ⟨hob, ?_⟩
  obtain ⟨y1, c1⟩ : ∃ y, v_M_mixesAll (am_sl (am_si h 0 8 0) 0 15 3457) = y := ⟨_, rfl⟩
  rw [c1]
  have hp := hp _ c1
  show am_Ev m_M_digest (WM ++ e1) ro P (16, [.ref 0, .retAddr 0], [], y1)
  refine am_Ev_G [29] 400 _ ?_
  show ((p_M_withTrip y1 0 0 1 600 30) ∧ am_Ev m_M_digest (WM ++ e1) ro P (29, [.ref 0, .retAddr 0], [.int ((v_M_withTrip y1 0 0 1 600 30).1), .ref 0], ((v_M_withTrip y1 0 0 1 600 30).2)))
  obtain ⟨hob, hp⟩ := hp
  refine ⟨hob, ?_⟩
  obtain ⟨y2, c2⟩ : ∃ y, v_M_withTrip y1 0 0 1 600 30 = y := ⟨_, rfl⟩
  rw [c2]
  have hp := hp _ c2
  show am_Ev m_M_digest (WM ++ e1) ro P (29, [.ref 0, .retAddr 0], [.int y2.1, .ref 0], y2.2)
  refine am_Ev_G [33] 400 _ ?_
  show am_Ev m_M_digest (WM ++ e1) ro P (33, [.ref 0, .retAddr 0], [], (v_M_mixes y2.2 ((y2.1).toInt64)))
  obtain ⟨y3, c3⟩ : ∃ y, v_M_mixes y2.2 ((y2.1).toInt64) = y := ⟨_, rfl⟩
  rw [c3]
  have hp := hp _ c3
  show am_Ev m_M_digest (WM ++ e1) ro P (33, [.ref 0, .retAddr 0], [], y3)
  refine am_Ev_G [44] 400 _ ?_
  show ((p_M_share y3) ∧ am_Ev m_M_digest (WM ++ e1) ro P (44, [.ref 0, .retAddr 0], [], (v_M_mixes y3 (v_dbits (v_M_share y3)))))
  obtain ⟨hob, hp⟩ := hp
  refine ⟨hob, ?_⟩
  obtain ⟨y4, c4⟩ : ∃ y, v_M_mixes y3 (v_dbits (v_M_share y3)) = y := ⟨_, rfl⟩
  rw [c4]
  have hp := hp _ c4
  show am_Ev m_M_digest (WM ++ e1) ro P (44, [.ref 0, .retAddr 0], [], y4)
  refine am_Ev_G [51] 400 _ ?_
  show ((am_in 0 2) ∧ am_Ev m_M_digest (WM ++ e1) ro P (51, [.ref 0, .retAddr 0], [.int (y4.1 5 (am_ix 0)), .ref 0], y4))
  refine ⟨⟨by decide, by decide⟩, ?_⟩
  have key5 : am_Ev m_M_digest (WM ++ e1) ro P (59, [.ref 0, .retAddr 0], [.long (if (y4.1 5 (am_ix 0)) = 0 then 0 else 1), .ref 0], y4) := by
    refine am_Ev_G [62] 400 _ ?_
    show am_Ev m_M_digest (WM ++ e1) ro P (62, [.ref 0, .retAddr 0], [], (v_M_mixes y4 (if (y4.1 5 (am_ix 0)) = 0 then 0 else 1)))
    obtain ⟨y5, c6⟩ : ∃ y, v_M_mixes y4 (if (y4.1 5 (am_ix 0)) = 0 then 0 else 1) = y := ⟨_, rfl⟩
    rw [c6]
    have hp := hp _ c6
    show am_Ev m_M_digest (WM ++ e1) ro P (62, [.ref 0, .retAddr 0], [], y5)
    refine am_Ev_G [69] 400 _ ?_
    show ((am_in 1 2) ∧ am_Ev m_M_digest (WM ++ e1) ro P (69, [.ref 0, .retAddr 0], [.int (y5.1 5 (am_ix 1)), .ref 0], y5))
    refine ⟨⟨by decide, by decide⟩, ?_⟩
    have key7 : am_Ev m_M_digest (WM ++ e1) ro P (77, [.ref 0, .retAddr 0], [.long (if (y5.1 5 (am_ix 1)) = 0 then 0 else 1), .ref 0], y5) := by
      refine am_Ev_G [80] 400 _ ?_
      show am_Ev m_M_digest (WM ++ e1) ro P (80, [.ref 0, .retAddr 0], [], (v_M_mixes y5 (if (y5.1 5 (am_ix 1)) = 0 then 0 else 1)))
      obtain ⟨y6, c8⟩ : ∃ y, v_M_mixes y5 (if (y5.1 5 (am_ix 1)) = 0 then 0 else 1) = y := ⟨_, rfl⟩
      rw [c8]
      have hp := hp _ c8
      show am_Ev m_M_digest (WM ++ e1) ro P (80, [.ref 0, .retAddr 0], [], y6)
      refine am_Ev_G [89] 400 _ ?_
      show am_Ev m_M_digest (WM ++ e1) ro P (89, [.ref 0, .retAddr 0], [], (v_M_mixes y6 (((y6.1 0 7)).toInt64)))
      obtain ⟨y7, c9⟩ : ∃ y, v_M_mixes y6 (((y6.1 0 7)).toInt64) = y := ⟨_, rfl⟩
      rw [c9]
      have hp := hp _ c9
      show am_Ev m_M_digest (WM ++ e1) ro P (89, [.ref 0, .retAddr 0], [], y7)
      refine am_Ev_G [91] 400 _ ?_
      show am_Ev m_M_digest (WM ++ e1) ro P (91, [.ref 0, .int 0], [], y7)
      have hpl := hp
      refine am_itr (E := (fun (v1 : Int32 × HP) => am_Ev m_M_digest (WM ++ e1) ro P (91, [.ref 0, .int v1.1], [], v1.2))) (E' := (fun (r8 : Int32 × HP) => am_Ev m_M_digest (WM ++ e1) ro P (116, [.ref 0, .int r8.1], [], r8.2))) (s_M_digest_91 h y1 y2 y3 y4 y5 y6 y7) (ps_M_digest_91 h y1 y2 y3 y4 y5 y6 y7) ?_ NF (0, y7) hpl ?_
      · intro v1 hp hc1 hx1
        show am_Ev m_M_digest (WM ++ e1) ro P (91, [.ref 0, .int v1.1], [], v1.2)
        unfold ps_M_digest_91 at hp
        refine am_Ev_G [106, 116] 400 _ ?_
        show ((¬ v1.1 < (v1.2.1 0 7) → am_Ev m_M_digest (WM ++ e1) ro P (116, [.ref 0, .int v1.1], [], v1.2)) ∧ (v1.1 < (v1.2.1 0 7) → ((am_in v1.1 60) ∧ am_Ev m_M_digest (WM ++ e1) ro P (106, [.ref 0, .int v1.1], [.int (v1.2.1 6 (am_ix v1.1)), .ref 0], v1.2))))
        refine ⟨fun c10 => ?_, fun c10 => ?_⟩
        · skip
          exact hx1 (v1.1, v1.2) (by unfold s_M_digest_91; simp only [if_neg c10])
        · have hp := hp.1 c10
          refine ⟨hp, ?_⟩
          refine am_Ev_G [110] 400 _ ?_
          show am_Ev m_M_digest (WM ++ e1) ro P (110, [.ref 0, .int v1.1], [], (v_M_mixes v1.2 (((v1.2.1 6 (am_ix v1.1))).toInt64)))
          obtain ⟨y9, c11⟩ : ∃ y, v_M_mixes v1.2 (((v1.2.1 6 (am_ix v1.1))).toInt64) = y := ⟨_, rfl⟩
          rw [c11]
          show am_Ev m_M_digest (WM ++ e1) ro P (110, [.ref 0, .int v1.1], [], y9)
          refine am_Ev_G [91] 400 _ ?_
          show am_Ev m_M_digest (WM ++ e1) ro P (91, [.ref 0, .int (v1.1 + 1)], [], y9)
          exact hc1 ((v1.1 + 1), y9) (by unfold s_M_digest_91; simp only [if_pos c10, bnd, c11])
      · intro r8 hr12
        show am_Ev m_M_digest (WM ++ e1) ro P (116, [.ref 0, .int r8.1], [], r8.2)
        refine am_Ev_G [] 400 _ ?_
        show P (.inl (some (.long (r8.2.2 0 15)))) r8.2
        exact hP (r8.2.2 0 15, r8.2) (by unfold v_M_digest; simp only [bnd, c1, bnd, c2, bnd, c3, bnd, c4, bnd, c6, bnd, c8, bnd, c9, hr12])
    refine am_Ev_G [77] 400 _ ?_
    show (((y5.1 5 (am_ix 1)) = 0 → am_Ev m_M_digest (WM ++ e1) ro P (77, [.ref 0, .retAddr 0], [.long 0, .ref 0], y5)) ∧ (¬ (y5.1 5 (am_ix 1)) = 0 → am_Ev m_M_digest (WM ++ e1) ro P (77, [.ref 0, .retAddr 0], [.long 1, .ref 0], y5)))
    refine ⟨fun c13 => ?_, fun c13 => ?_⟩
    · skip
      simpa only [if_pos c13] using key7
    · skip
      simpa only [if_neg c13] using key7
  refine am_Ev_G [59] 400 _ ?_
  show (((y4.1 5 (am_ix 0)) = 0 → am_Ev m_M_digest (WM ++ e1) ro P (59, [.ref 0, .retAddr 0], [.long 0, .ref 0], y4)) ∧ (¬ (y4.1 5 (am_ix 0)) = 0 → am_Ev m_M_digest (WM ++ e1) ro P (59, [.ref 0, .retAddr 0], [.long 1, .ref 0], y4)))
  refine ⟨fun c14 => ?_, fun c14 => ?_⟩
  · skip
    simpa only [if_pos c14] using key5
  · skip
    simpa only [if_neg c14] using key5
theorem ok_M_digest {l : Launch} (hl : l.stackTraces = false) (e1 ro : List Sh) (k : Nat) : am_Ok l (WM ++ e1) ro (d_M_digest k) := by
  refine am_met hl (own := RX6) (M := m_M_digest) rfl pf_M_digest cu_M_digest rfl rfl rfl rfl (fun _ => rfl) rfl ⟨chk_M_digest, (am_c (fl_M_22) (am_c (fl_M_26) (am_c (fl_M_38) (am_c (fl_M_163) (am_c (fl_M_264) am_n))))), (am_c (lk_M_248) (am_c (lk_M_258) (am_c (lk_M_268) (am_c (lk_M_280) (am_c (lk_M_283) am_n))))), (am_c (ck_M_278) am_n), (am_n)⟩ (am_n) (am_c (ok_M_withTrip hl e1 _ 16) (am_c (ok_M_share hl e1 _ 16) (am_c (ok_M_mixes hl e1 _ 16) (am_c (ok_M_mixesAll hl e1 _ 16) (am_c (ok_E_dbits hl _ _ 0) am_n))))) (fun z => nomatch z) ?_ ?_
  · intro _ as h hg
    show g_thr (g_M_digest (WM ++ e1) ro as h) = none
    unfold g_M_digest
    split <;> rfl
  · intro as h hg hp
    revert hg hp
    show g_ok (g_M_digest (WM ++ e1) ro as h) = true → g_pre (g_M_digest (WM ++ e1) ro as h) → _ ∧ am_Ev m_M_digest (WM ++ e1) ro (am_eq (g_M_digest (WM ++ e1) ro as h)) (0, am_ent as 2, [], h)
    unfold g_M_digest
    split
    · rename_i o1
      intro hc hp
      change (Nat.beq o1 0) = true at hc
      obtain rfl := am_beq hc
      exact ⟨Nat.le_of_ble_eq_true rfl, ev_M_digest h hp eqRJW⟩
    · exact fun z => nomatch z

end
