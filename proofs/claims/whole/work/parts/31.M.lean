/-! BusBlocksModel, out of its code (written by gen/meth.py). -/
def k_M_blocksAll (pc : Nat) : Ent := bif Nat.ble 86 pc then am_nop else bif Nat.ble 43 pc then (bif Nat.ble 63 pc then (bif Nat.ble 73 pc then (bif Nat.ble 78 pc then (bif Nat.ble 82 pc then (bif Nat.ble 85 pc then (bif Nat.beq pc 85 then (.ireturn, 0, 0, []) else am_nop) else (bif Nat.beq pc 82 then (.invokevirtual 93, 0, 0, []) else am_nop)) else (bif Nat.ble 81 pc then (bif Nat.beq pc 81 then (.aload_n 0, 0, 0, []) else am_nop) else (bif Nat.beq pc 78 then (.goto (-41), 0, 37, []) else am_nop))) else (bif Nat.ble 74 pc then (bif Nat.ble 77 pc then (bif Nat.beq pc 77 then (.istore_n 1, 0, 1, []) else am_nop) else (bif Nat.beq pc 74 then (.invokevirtual 86, 0, 0, []) else am_nop)) else (bif Nat.beq pc 73 then (.aload_n 0, 0, 0, []) else am_nop))) else (bif Nat.ble 68 pc then (bif Nat.ble 69 pc then (bif Nat.ble 70 pc then (bif Nat.beq pc 70 then (.putfield 76, 0, 0, []) else am_nop) else (bif Nat.beq pc 69 then (.ior, 0, 0, []) else am_nop)) else (bif Nat.beq pc 68 then (.ishl, 0, 0, []) else am_nop)) else (bif Nat.ble 66 pc then (bif Nat.ble 67 pc then (bif Nat.beq pc 67 then (.iload_n 1, 0, 1, []) else am_nop) else (bif Nat.beq pc 66 then (.iconst 1, 1, 0, []) else am_nop)) else (bif Nat.beq pc 63 then (.getfield 76, 0, 0, []) else am_nop)))) else (bif Nat.ble 53 pc then (bif Nat.ble 57 pc then (bif Nat.ble 61 pc then (bif Nat.ble 62 pc then (bif Nat.beq pc 62 then (.dup, 0, 0, []) else am_nop) else (bif Nat.beq pc 61 then (.aload_n 0, 0, 0, []) else am_nop)) else (bif Nat.ble 58 pc then (bif Nat.beq pc 58 then (.invokevirtual 82, 0, 0, []) else am_nop) else (bif Nat.beq pc 57 then (.iload_n 1, 0, 1, []) else am_nop))) else (bif Nat.ble 54 pc then (bif Nat.ble 55 pc then (bif Nat.beq pc 55 then (.bipush 6, 6, 0, []) else am_nop) else (bif Nat.beq pc 54 then (.iload_n 2, 0, 2, []) else am_nop)) else (bif Nat.beq pc 53 then (.aload_n 0, 0, 0, []) else am_nop))) else (bif Nat.ble 48 pc then (bif Nat.ble 49 pc then (bif Nat.ble 50 pc then (bif Nat.beq pc 50 then (.if_icmp .eq 11, 0, 61, []) else am_nop) else (bif Nat.beq pc 49 then (.iconst (-1), (-1 : Int32), 0, []) else am_nop)) else (bif Nat.beq pc 48 then (.iload_n 2, 0, 2, []) else am_nop)) else (bif Nat.ble 44 pc then (bif Nat.ble 47 pc then (bif Nat.beq pc 47 then (.istore_n 2, 0, 2, []) else am_nop) else (bif Nat.beq pc 44 then (.invokevirtual 90, 0, 0, []) else am_nop)) else (bif Nat.beq pc 43 then (.iload_n 1, 0, 1, []) else am_nop))))) else (bif Nat.ble 18 pc then (bif Nat.ble 32 pc then (bif Nat.ble 37 pc then (bif Nat.ble 39 pc then (bif Nat.ble 42 pc then (bif Nat.beq pc 42 then (.aload_n 0, 0, 0, []) else am_nop) else (bif Nat.beq pc 39 then (.if_icmp .eq 42, 0, 81, []) else am_nop)) else (bif Nat.ble 38 pc then (bif Nat.beq pc 38 then (.iconst (-1), (-1 : Int32), 0, []) else am_nop) else (bif Nat.beq pc 37 then (.iload_n 1, 0, 1, []) else am_nop))) else (bif Nat.ble 33 pc then (bif Nat.ble 36 pc then (bif Nat.beq pc 36 then (.istore_n 1, 0, 1, []) else am_nop) else (bif Nat.beq pc 33 then (.invokevirtual 86, 0, 0, []) else am_nop)) else (bif Nat.beq pc 32 then (.aload_n 0, 0, 0, []) else am_nop))) else (bif Nat.ble 27 pc then (bif Nat.ble 28 pc then (bif Nat.ble 29 pc then (bif Nat.beq pc 29 then (.putfield 76, 0, 0, []) else am_nop) else (bif Nat.beq pc 28 then (.iconst 0, 0, 0, []) else am_nop)) else (bif Nat.beq pc 27 then (.aload_n 0, 0, 0, []) else am_nop)) else (bif Nat.ble 21 pc then (bif Nat.ble 24 pc then (bif Nat.beq pc 24 then (.goto (-22), 0, 2, []) else am_nop) else (bif Nat.beq pc 21 then (.iinc 1 1, 1, 1, []) else am_nop)) else (bif Nat.beq pc 18 then (.invokevirtual 82, 0, 0, []) else am_nop)))) else (bif Nat.ble 9 pc then (bif Nat.ble 14 pc then (bif Nat.ble 15 pc then (bif Nat.ble 17 pc then (bif Nat.beq pc 17 then (.iconst (-1), (-1 : Int32), 0, []) else am_nop) else (bif Nat.beq pc 15 then (.bipush 6, 6, 0, []) else am_nop)) else (bif Nat.beq pc 14 then (.iload_n 1, 0, 1, []) else am_nop)) else (bif Nat.ble 10 pc then (bif Nat.ble 13 pc then (bif Nat.beq pc 13 then (.aload_n 0, 0, 0, []) else am_nop) else (bif Nat.beq pc 10 then (.if_icmp .ge 17, 0, 27, []) else am_nop)) else (bif Nat.beq pc 9 then (.iaload, 0, 0, []) else am_nop))) else (bif Nat.ble 3 pc then (bif Nat.ble 4 pc then (bif Nat.ble 7 pc then (bif Nat.beq pc 7 then (.bipush 15, 15, 0, []) else am_nop) else (bif Nat.beq pc 4 then (.getfield 7, 0, 0, []) else am_nop)) else (bif Nat.beq pc 3 then (.aload_n 0, 0, 0, []) else am_nop)) else (bif Nat.ble 1 pc then (bif Nat.ble 2 pc then (bif Nat.beq pc 2 then (.iload_n 1, 0, 1, []) else am_nop) else (bif Nat.beq pc 1 then (.istore_n 1, 0, 1, []) else am_nop)) else (bif Nat.beq pc 0 then (.iconst 0, 0, 0, []) else am_nop)))))
theorem lk_M_82 : am_lnk RX6 82 (d_M_becomes 16) := ⟨⟨by decide, by decide⟩, am_tb 8 (by decide +kernel) rfl, Or.inr ⟨by decide, rfl, am_tb 976 (by decide +kernel) rfl, am_tp 72 (by decide +kernel) rfl, ⟨TX6, 16, rfl⟩, Or.inl (am_tb 974 (by decide +kernel) rfl)⟩⟩
theorem lk_M_86 : am_lnk RX6 86 (d_M_earliest 16) := ⟨⟨by decide, by decide⟩, am_tb 8 (by decide +kernel) rfl, Or.inr ⟨by decide, rfl, am_tb 1043 (by decide +kernel) rfl, am_tp 83 (by decide +kernel) rfl, ⟨TX6, 16, rfl⟩, Or.inl (am_tb 1041 (by decide +kernel) rfl)⟩⟩
theorem lk_M_90 : am_lnk RX6 90 (d_M_ahead 16) := ⟨⟨by decide, by decide⟩, am_tb 8 (by decide +kernel) rfl, Or.inr ⟨by decide, rfl, am_tb 1047 (by decide +kernel) rfl, am_tp 84 (by decide +kernel) rfl, ⟨TX6, 16, rfl⟩, Or.inl (am_tb 1045 (by decide +kernel) rfl)⟩⟩
theorem lk_M_93 : am_lnk RX6 93 (d_M_blocks 16) := ⟨⟨by decide, by decide⟩, am_tb 8 (by decide +kernel) rfl, Or.inr ⟨by decide, rfl, am_tb 1051 (by decide +kernel) rfl, am_tp 85 (by decide +kernel) rfl, ⟨TX6, 16, rfl⟩, Or.inl (am_tb 1049 (by decide +kernel) rfl)⟩⟩
def m_M_blocksAll : MI := (k_M_blocksAll, [(7, 6, 0), (76, 6, 9)], [(82, d_M_becomes 16), (86, d_M_earliest 16), (90, d_M_ahead 16), (93, d_M_blocks 16)], [], [], [], [], 5, 112, some .int, fun _ => 0, 1)
def s_M_blocksAll_2 (h : HP) (v1 : Int32 × HP) : (Int32 × HP) ⊕ (Int32 × HP) := (if v1.1 < (v1.2.1 1 (am_ix 15)) then (bnd (v_M_becomes v1.2 v1.1 6 (-1 : Int32)) fun y2 => (.inl ((v1.1 + 1), y2))) else (.inr (v1.1, v1.2)))
def ps_M_blocksAll_2 (h : HP) (v1 : Int32 × HP) : Prop := ((v1.1 < (v1.2.1 1 (am_ix 15)) → (p_M_becomes v1.2 v1.1 6 (-1 : Int32))) ∧ (¬ v1.1 < (v1.2.1 1 (am_ix 15)) → True))
def s_M_blocksAll_37 (h : HP) (r1 : Int32 × HP) (v1 : Int32 × HP) : (Int32 × HP) ⊕ (Int32 × HP) := (if v1.1 = (-1 : Int32) then (.inr (v1.1, v1.2)) else (if (v_M_ahead v1.2 v1.1) = (-1 : Int32) then (.inl ((v_M_earliest (am_si v1.2 0 9 ((v1.2.1 0 9) ||| (1 <<< (v1.1 &&& 31))))), (am_si v1.2 0 9 ((v1.2.1 0 9) ||| (1 <<< (v1.1 &&& 31)))))) else (bnd (v_M_becomes v1.2 (v_M_ahead v1.2 v1.1) 6 v1.1) fun y4 => (.inl ((v_M_earliest (am_si y4 0 9 ((y4.1 0 9) ||| (1 <<< (v1.1 &&& 31))))), (am_si y4 0 9 ((y4.1 0 9) ||| (1 <<< (v1.1 &&& 31)))))))))
def ps_M_blocksAll_37 (h : HP) (r1 : Int32 × HP) (v1 : Int32 × HP) : Prop := ((v1.1 = (-1 : Int32) → True) ∧ (¬ v1.1 = (-1 : Int32) → ((p_M_ahead v1.2 v1.1) ∧ (((v_M_ahead v1.2 v1.1) = (-1 : Int32) → (p_M_earliest (am_si v1.2 0 9 ((v1.2.1 0 9) ||| (1 <<< (v1.1 &&& 31)))))) ∧ (¬ (v_M_ahead v1.2 v1.1) = (-1 : Int32) → ((p_M_becomes v1.2 (v_M_ahead v1.2 v1.1) 6 v1.1) ∧ (∀ y4, v_M_becomes v1.2 (v_M_ahead v1.2 v1.1) 6 v1.1 = y4 → (p_M_earliest (am_si y4 0 9 ((y4.1 0 9) ||| (1 <<< (v1.1 &&& 31))))))))))))
def v_M_blocksAll (h : HP) : Int32 × HP := (match itr (s_M_blocksAll_2 h) NF (0, h) with | some r1 => (match itr (s_M_blocksAll_37 h r1) NF ((v_M_earliest (am_si r1.2 0 9 0)), (am_si r1.2 0 9 0)) with | some r3 => ((v_M_blocks r3.2), r3.2) | none => (0, h)) | none => (0, h))
def p_M_blocksAll (h : HP) : Prop := (itrp (s_M_blocksAll_2 h) (ps_M_blocksAll_2 h) NF (0, h) ∧ ∀ r1, itr (s_M_blocksAll_2 h) NF (0, h) = some r1 → ((p_M_earliest (am_si r1.2 0 9 0)) ∧ (itrp (s_M_blocksAll_37 h r1) (ps_M_blocksAll_37 h r1) NF ((v_M_earliest (am_si r1.2 0 9 0)), (am_si r1.2 0 9 0)) ∧ ∀ r3, itr (s_M_blocksAll_37 h r1) NF ((v_M_earliest (am_si r1.2 0 9 0)), (am_si r1.2 0 9 0)) = some r3 → (p_M_blocks r3.2))))
def g_M_blocksAll (_ _ : List Sh) (as : List Value) (h : HP) : GR := match as with
  | [.ref o1] => (Nat.beq o1 0, p_M_blocksAll h, none, some (.int (v_M_blocksAll h).1), (v_M_blocksAll h).2)
  | _ => bad h
def d_M_blocksAll (k : Nat) : CD := (k, yX6_blocksAll, cX6_blocksAll, 3, some .int, 1, 5, 112, 0, false, true, g_M_blocksAll)
theorem chk_M_blocksAll : ∀ pc, am_chk cX6_blocksAll k_M_blocksAll pc = true := am_chkall 86 (by decide +kernel) (fun pc h => by unfold k_M_blocksAll; rw [Nat.ble_eq_true_of_le h]; rfl)
theorem pf_M_blocksAll : plainFor yX6_blocksAll = true := by decide +kernel
theorem cu_M_blocksAll : Cond.code yX6_blocksAll cX6_blocksAll 3 (some .int) ∈ am_U := am_tb 1040 (by decide +kernel) rfl
set_option maxHeartbeats 20000000 in
set_option maxRecDepth 100000 in
theorem ev_M_blocksAll {e1 ro : List Sh} {P : AR → HP → Prop} (h : HP) (hp : p_M_blocksAll h) (hP : ∀ q, v_M_blocksAll h = q → RIW P h q) : am_Ev m_M_blocksAll (WM ++ e1) ro P (0, [.ref 0, .retAddr 0, .retAddr 0], [], h) := by
  unfold p_M_blocksAll at hp
  refine am_Ev_G [2] 400 _ ?_
  show am_Ev m_M_blocksAll (WM ++ e1) ro P (2, [.ref 0, .int 0, .retAddr 0], [], h)
  obtain ⟨hpl, hp⟩ := hp
  refine am_itr (E := (fun (v1 : Int32 × HP) => am_Ev m_M_blocksAll (WM ++ e1) ro P (2, [.ref 0, .int v1.1, .retAddr 0], [], v1.2))) (E' := (fun (r1 : Int32 × HP) => am_Ev m_M_blocksAll (WM ++ e1) ro P (27, [.ref 0, .int r1.1, .retAddr 0], [], r1.2))) (s_M_blocksAll_2 h) (ps_M_blocksAll_2 h) ?_ NF (0, h) hpl ?_
  · intro v1 hp hc1 hx1
    show am_Ev m_M_blocksAll (WM ++ e1) ro P (2, [.ref 0, .int v1.1, .retAddr 0], [], v1.2)
    unfold ps_M_blocksAll_2 at hp
    refine am_Ev_G [21, 27] 400 _ ?_
    show ((am_in 15 163) ∧ ((¬ v1.1 < (v1.2.1 1 (am_ix 15)) → am_Ev m_M_blocksAll (WM ++ e1) ro P (27, [.ref 0, .int v1.1, .retAddr 0], [], v1.2)) ∧ (v1.1 < (v1.2.1 1 (am_ix 15)) → ((p_M_becomes v1.2 v1.1 6 (-1 : Int32)) ∧ am_Ev m_M_blocksAll (WM ++ e1) ro P (21, [.ref 0, .int v1.1, .retAddr 0], [], (v_M_becomes v1.2 v1.1 6 (-1 : Int32)))))))
    refine ⟨⟨by decide, by decide⟩, ?_⟩
    refine ⟨fun c1 => ?_, fun c1 => ?_⟩
    · skip
      exact hx1 (v1.1, v1.2) (by unfold s_M_blocksAll_2; simp only [if_neg c1])
    · have hp := hp.1 c1
      refine ⟨hp, ?_⟩
      obtain ⟨y2, c2⟩ : ∃ y, v_M_becomes v1.2 v1.1 6 (-1 : Int32) = y := ⟨_, rfl⟩
      rw [c2]
      show am_Ev m_M_blocksAll (WM ++ e1) ro P (21, [.ref 0, .int v1.1, .retAddr 0], [], y2)
      refine am_Ev_G [2] 400 _ ?_
      show am_Ev m_M_blocksAll (WM ++ e1) ro P (2, [.ref 0, .int (v1.1 + 1), .retAddr 0], [], y2)
      exact hc1 ((v1.1 + 1), y2) (by unfold s_M_blocksAll_2; simp only [if_pos c1, bnd, c2])
  · intro r1 hr3
    have hp := hp _ hr3
    show am_Ev m_M_blocksAll (WM ++ e1) ro P (27, [.ref 0, .int r1.1, .retAddr 0], [], r1.2)
    refine am_Ev_G [37] 400 _ ?_
    show ((p_M_earliest (am_si r1.2 0 9 0)) ∧ am_Ev m_M_blocksAll (WM ++ e1) ro P (37, [.ref 0, .int (v_M_earliest (am_si r1.2 0 9 0)), .retAddr 0], [], (am_si r1.2 0 9 0)))
    obtain ⟨hob, hp⟩ := hp
    refine ⟨hob, ?_⟩
    obtain ⟨hpl, hp⟩ := hp
    refine am_itr (E := (fun (v1 : Int32 × HP) => am_Ev m_M_blocksAll (WM ++ e1) ro P (37, [.ref 0, .int v1.1, .retAddr 0], [], v1.2))) (E' := (fun (r3 : Int32 × HP) => am_Ev m_M_blocksAll (WM ++ e1) ro P (81, [.ref 0, .int r3.1, .retAddr 0], [], r3.2))) (s_M_blocksAll_37 h r1) (ps_M_blocksAll_37 h r1) ?_ NF ((v_M_earliest (am_si r1.2 0 9 0)), (am_si r1.2 0 9 0)) hpl ?_
    · intro v1 hp hc1 hx1
      show am_Ev m_M_blocksAll (WM ++ e1) ro P (37, [.ref 0, .int v1.1, .retAddr 0], [], v1.2)
      unfold ps_M_blocksAll_37 at hp
      refine am_Ev_G [47, 81] 400 _ ?_
      show ((v1.1 = (-1 : Int32) → am_Ev m_M_blocksAll (WM ++ e1) ro P (81, [.ref 0, .int v1.1, .retAddr 0], [], v1.2)) ∧ (¬ v1.1 = (-1 : Int32) → ((p_M_ahead v1.2 v1.1) ∧ am_Ev m_M_blocksAll (WM ++ e1) ro P (47, [.ref 0, .int v1.1, .retAddr 0], [.int (v_M_ahead v1.2 v1.1)], v1.2))))
      refine ⟨fun c4 => ?_, fun c4 => ?_⟩
      · skip
        exact hx1 (v1.1, v1.2) (by unfold s_M_blocksAll_37; simp only [if_pos c4])
      · have hp := hp.2 c4
        obtain ⟨hob, hp⟩ := hp
        refine ⟨hob, ?_⟩
        refine am_Ev_G [61] 400 _ ?_
        show (((v_M_ahead v1.2 v1.1) = (-1 : Int32) → am_Ev m_M_blocksAll (WM ++ e1) ro P (61, [.ref 0, .int v1.1, .int (v_M_ahead v1.2 v1.1)], [], v1.2)) ∧ (¬ (v_M_ahead v1.2 v1.1) = (-1 : Int32) → ((p_M_becomes v1.2 (v_M_ahead v1.2 v1.1) 6 v1.1) ∧ am_Ev m_M_blocksAll (WM ++ e1) ro P (61, [.ref 0, .int v1.1, .int (v_M_ahead v1.2 v1.1)], [], (v_M_becomes v1.2 (v_M_ahead v1.2 v1.1) 6 v1.1)))))
        refine ⟨fun c5 => ?_, fun c5 => ?_⟩
        · have hp := hp.1 c5
          refine am_Ev_G [77] 400 _ ?_
          show ((p_M_earliest (am_si v1.2 0 9 ((v1.2.1 0 9) ||| (1 <<< (v1.1 &&& 31))))) ∧ am_Ev m_M_blocksAll (WM ++ e1) ro P (77, [.ref 0, .int v1.1, .int (v_M_ahead v1.2 v1.1)], [.int (v_M_earliest (am_si v1.2 0 9 ((v1.2.1 0 9) ||| (1 <<< (v1.1 &&& 31)))))], (am_si v1.2 0 9 ((v1.2.1 0 9) ||| (1 <<< (v1.1 &&& 31))))))
          refine ⟨hp, ?_⟩
          refine am_Ev_G [37] 400 _ ?_
          show am_Ev m_M_blocksAll (WM ++ e1) ro P (37, [.ref 0, .int (v_M_earliest (am_si v1.2 0 9 ((v1.2.1 0 9) ||| (1 <<< (v1.1 &&& 31))))), .int (v_M_ahead v1.2 v1.1)], [], (am_si v1.2 0 9 ((v1.2.1 0 9) ||| (1 <<< (v1.1 &&& 31)))))
          refine am_fg 2 ?_
          exact hc1 ((v_M_earliest (am_si v1.2 0 9 ((v1.2.1 0 9) ||| (1 <<< (v1.1 &&& 31))))), (am_si v1.2 0 9 ((v1.2.1 0 9) ||| (1 <<< (v1.1 &&& 31))))) (by unfold s_M_blocksAll_37; simp only [if_neg c4, if_pos c5])
        · have hp := hp.2 c5
          obtain ⟨hob, hp⟩ := hp
          refine ⟨hob, ?_⟩
          obtain ⟨y4, c6⟩ : ∃ y, v_M_becomes v1.2 (v_M_ahead v1.2 v1.1) 6 v1.1 = y := ⟨_, rfl⟩
          rw [c6]
          have hp := hp _ c6
          show am_Ev m_M_blocksAll (WM ++ e1) ro P (61, [.ref 0, .int v1.1, .int (v_M_ahead v1.2 v1.1)], [], y4)
          refine am_Ev_G [77] 400 _ ?_
          show ((p_M_earliest (am_si y4 0 9 ((y4.1 0 9) ||| (1 <<< (v1.1 &&& 31))))) ∧ am_Ev m_M_blocksAll (WM ++ e1) ro P (77, [.ref 0, .int v1.1, .int (v_M_ahead v1.2 v1.1)], [.int (v_M_earliest (am_si y4 0 9 ((y4.1 0 9) ||| (1 <<< (v1.1 &&& 31)))))], (am_si y4 0 9 ((y4.1 0 9) ||| (1 <<< (v1.1 &&& 31))))))
          refine ⟨hp, ?_⟩
          refine am_Ev_G [37] 400 _ ?_
          show am_Ev m_M_blocksAll (WM ++ e1) ro P (37, [.ref 0, .int (v_M_earliest (am_si y4 0 9 ((y4.1 0 9) ||| (1 <<< (v1.1 &&& 31))))), .int (v_M_ahead v1.2 v1.1)], [], (am_si y4 0 9 ((y4.1 0 9) ||| (1 <<< (v1.1 &&& 31)))))
          refine am_fg 2 ?_
          exact hc1 ((v_M_earliest (am_si y4 0 9 ((y4.1 0 9) ||| (1 <<< (v1.1 &&& 31))))), (am_si y4 0 9 ((y4.1 0 9) ||| (1 <<< (v1.1 &&& 31))))) (by unfold s_M_blocksAll_37; simp only [if_neg c4, if_neg c5, bnd, c6])
    · intro r3 hr7
      have hp := hp _ hr7
      show am_Ev m_M_blocksAll (WM ++ e1) ro P (81, [.ref 0, .int r3.1, .retAddr 0], [], r3.2)
      refine am_Ev_G [] 400 _ ?_
      show ((p_M_blocks r3.2) ∧ P (.inl (some (.int (v_M_blocks r3.2)))) r3.2)
      refine ⟨hp, ?_⟩
      exact hP ((v_M_blocks r3.2), r3.2) (by unfold v_M_blocksAll; simp only [hr3, hr7])
theorem ok_M_blocksAll {l : Launch} (hl : l.stackTraces = false) (e1 ro : List Sh) (k : Nat) : am_Ok l (WM ++ e1) ro (d_M_blocksAll k) := by
  refine am_met hl (own := RX6) (M := m_M_blocksAll) rfl pf_M_blocksAll cu_M_blocksAll rfl rfl rfl rfl (fun _ => rfl) rfl ⟨chk_M_blocksAll, (am_c (fl_M_7) (am_c (fl_M_76) am_n)), (am_c (lk_M_82) (am_c (lk_M_86) (am_c (lk_M_90) (am_c (lk_M_93) am_n)))), (am_n), (am_n)⟩ (am_n) (am_c (ok_M_becomes hl e1 _ 16) (am_c (ok_M_earliest hl e1 _ 16) (am_c (ok_M_ahead hl e1 _ 16) (am_c (ok_M_blocks hl e1 _ 16) am_n)))) (fun z => nomatch z) ?_ ?_
  · intro _ as h hg
    show g_thr (g_M_blocksAll (WM ++ e1) ro as h) = none
    unfold g_M_blocksAll
    split <;> rfl
  · intro as h hg hp
    revert hg hp
    show g_ok (g_M_blocksAll (WM ++ e1) ro as h) = true → g_pre (g_M_blocksAll (WM ++ e1) ro as h) → _ ∧ am_Ev m_M_blocksAll (WM ++ e1) ro (am_eq (g_M_blocksAll (WM ++ e1) ro as h)) (0, am_ent as 3, [], h)
    unfold g_M_blocksAll
    split
    · rename_i o1
      intro hc hp
      change (Nat.beq o1 0) = true at hc
      obtain rfl := am_beq hc
      exact ⟨Nat.le_of_ble_eq_true rfl, ev_M_blocksAll h hp eqRIW⟩
    · exact fun z => nomatch z
def k_M_byBlocks (pc : Nat) : Ent := bif Nat.ble 33 pc then am_nop else bif Nat.ble 17 pc then (bif Nat.ble 24 pc then (bif Nat.ble 28 pc then (bif Nat.ble 31 pc then (bif Nat.ble 32 pc then (bif Nat.beq pc 32 then (.ireturn, 0, 0, []) else am_nop) else (bif Nat.beq pc 31 then (.iload_n 1, 0, 1, []) else am_nop)) else (bif Nat.beq pc 28 then (.invokestatic 45, 0, 0, []) else am_nop)) else (bif Nat.ble 27 pc then (bif Nat.beq pc 27 then (.iconst 0, 0, 0, []) else am_nop) else (bif Nat.beq pc 24 then (.getfield 7, 0, 0, []) else am_nop))) else (bif Nat.ble 19 pc then (bif Nat.ble 22 pc then (bif Nat.ble 23 pc then (bif Nat.beq pc 23 then (.aload_n 0, 0, 0, []) else am_nop) else (bif Nat.beq pc 22 then (.iconst 0, 0, 0, []) else am_nop)) else (bif Nat.beq pc 19 then (.getfield 13, 0, 0, []) else am_nop)) else (bif Nat.ble 18 pc then (bif Nat.beq pc 18 then (.aload_n 0, 0, 0, []) else am_nop) else (bif Nat.beq pc 17 then (.istore_n 1, 0, 1, []) else am_nop)))) else (bif Nat.ble 6 pc then (bif Nat.ble 10 pc then (bif Nat.ble 13 pc then (bif Nat.ble 14 pc then (bif Nat.beq pc 14 then (.invokevirtual 96, 0, 0, []) else am_nop) else (bif Nat.beq pc 13 then (.aload_n 0, 0, 0, []) else am_nop)) else (bif Nat.beq pc 10 then (.invokestatic 45, 0, 0, []) else am_nop)) else (bif Nat.ble 9 pc then (bif Nat.beq pc 9 then (.iconst 0, 0, 0, []) else am_nop) else (bif Nat.beq pc 6 then (.getfield 13, 0, 0, []) else am_nop))) else (bif Nat.ble 4 pc then (bif Nat.ble 5 pc then (bif Nat.beq pc 5 then (.aload_n 0, 0, 0, []) else am_nop) else (bif Nat.beq pc 4 then (.iconst 0, 0, 0, []) else am_nop)) else (bif Nat.ble 1 pc then (bif Nat.beq pc 1 then (.getfield 7, 0, 0, []) else am_nop) else (bif Nat.beq pc 0 then (.aload_n 0, 0, 0, []) else am_nop))))
theorem fl_M_13 : am_fok RX6 13 (6, 1) := ⟨RX6, TX6, 16, rfl, by decide, rfl, Or.inl (am_tb 885 (by decide +kernel) rfl)⟩
theorem lk_M_96 : am_lnk RX6 96 (d_M_blocksAll 16) := ⟨⟨by decide, by decide⟩, am_tb 8 (by decide +kernel) rfl, Or.inr ⟨by decide, rfl, am_tb 1039 (by decide +kernel) rfl, am_tp 82 (by decide +kernel) rfl, ⟨TX6, 16, rfl⟩, Or.inl (am_tb 1037 (by decide +kernel) rfl)⟩⟩
def m_M_byBlocks : MI := (k_M_byBlocks, [(7, 6, 0), (13, 6, 1)], [(45, d_M_lays 0), (96, d_M_blocksAll 16)], [], [], [], [], 6, 134, some .int, fun _ => 0, 1)
def v_M_byBlocks (h : HP) : Int32 × HP := (bnd (v_M_blocksAll (v_lays h 1 0 2 0)) fun y1 => (y1.1, (v_lays y1.2 2 0 1 0)))
def p_M_byBlocks (h : HP) : Prop := ((p_lays 0 0 163 163) ∧ ((p_M_blocksAll (v_lays h 1 0 2 0)) ∧ (∀ y1, v_M_blocksAll (v_lays h 1 0 2 0) = y1 → (p_lays 0 0 163 163))))
def g_M_byBlocks (_ _ : List Sh) (as : List Value) (h : HP) : GR := match as with
  | [.ref o1] => (Nat.beq o1 0, p_M_byBlocks h, none, some (.int (v_M_byBlocks h).1), (v_M_byBlocks h).2)
  | _ => bad h
def d_M_byBlocks (k : Nat) : CD := (k, yX6_byBlocks, cX6_byBlocks, 2, some .int, 1, 6, 134, 0, false, true, g_M_byBlocks)
theorem chk_M_byBlocks : ∀ pc, am_chk cX6_byBlocks k_M_byBlocks pc = true := am_chkall 33 (by decide +kernel) (fun pc h => by unfold k_M_byBlocks; rw [Nat.ble_eq_true_of_le h]; rfl)
theorem pf_M_byBlocks : plainFor yX6_byBlocks = true := by decide +kernel
theorem cu_M_byBlocks : Cond.code yX6_byBlocks cX6_byBlocks 2 (some .int) ∈ am_U := am_tb 1240 (by decide +kernel) rfl
set_option maxHeartbeats 20000000 in
set_option maxRecDepth 100000 in
theorem ev_M_byBlocks {e1 ro : List Sh} {P : AR → HP → Prop} (h : HP) (hp : p_M_byBlocks h) (hP : ∀ q, v_M_byBlocks h = q → RIW P h q) : am_Ev m_M_byBlocks (WM ++ e1) ro P (0, [.ref 0, .retAddr 0], [], h) := by
  unfold p_M_byBlocks at hp
  refine am_Ev_G [13] 400 _ ?_
  show ((p_lays 0 0 163 163) ∧ am_Ev m_M_byBlocks (WM ++ e1) ro P (13, [.ref 0, .retAddr 0], [], (v_lays h 1 0 2 0)))
  obtain ⟨hob, hp⟩ := hp
  refine ⟨hob, ?_⟩
  refine am_Ev_G [17] 400 _ ?_
  show ((p_M_blocksAll (v_lays h 1 0 2 0)) ∧ am_Ev m_M_byBlocks (WM ++ e1) ro P (17, [.ref 0, .retAddr 0], [.int ((v_M_blocksAll (v_lays h 1 0 2 0)).1)], ((v_M_blocksAll (v_lays h 1 0 2 0)).2)))
  obtain ⟨hob, hp⟩ := hp
  refine ⟨hob, ?_⟩
  obtain ⟨y1, c1⟩ : ∃ y, v_M_blocksAll (v_lays h 1 0 2 0) = y := ⟨_, rfl⟩
  rw [c1]
  have hp := hp _ c1
  show am_Ev m_M_byBlocks (WM ++ e1) ro P (17, [.ref 0, .retAddr 0], [.int y1.1], y1.2)
  refine am_Ev_G [31] 400 _ ?_
  show ((p_lays 0 0 163 163) ∧ am_Ev m_M_byBlocks (WM ++ e1) ro P (31, [.ref 0, .int y1.1], [], (v_lays y1.2 2 0 1 0)))
  refine ⟨hp, ?_⟩
  refine am_Ev_G [] 400 _ ?_
  show P (.inl (some (.int y1.1))) (v_lays y1.2 2 0 1 0)
  exact hP (y1.1, (v_lays y1.2 2 0 1 0)) (by unfold v_M_byBlocks; simp only [bnd, c1])
theorem ok_M_byBlocks {l : Launch} (hl : l.stackTraces = false) (e1 ro : List Sh) (k : Nat) : am_Ok l (WM ++ e1) ro (d_M_byBlocks k) := by
  refine am_met hl (own := RX6) (M := m_M_byBlocks) rfl pf_M_byBlocks cu_M_byBlocks rfl rfl rfl rfl (fun _ => rfl) rfl ⟨chk_M_byBlocks, (am_c (fl_M_7) (am_c (fl_M_13) am_n)), (am_c (lk_M_45) (am_c (lk_M_96) am_n)), (am_n), (am_n)⟩ (am_n) (am_c (ok_M_lays hl _ _ 0) (am_c (ok_M_blocksAll hl e1 _ 16) am_n)) (fun z => nomatch z) ?_ ?_
  · intro _ as h hg
    show g_thr (g_M_byBlocks (WM ++ e1) ro as h) = none
    unfold g_M_byBlocks
    split <;> rfl
  · intro as h hg hp
    revert hg hp
    show g_ok (g_M_byBlocks (WM ++ e1) ro as h) = true → g_pre (g_M_byBlocks (WM ++ e1) ro as h) → _ ∧ am_Ev m_M_byBlocks (WM ++ e1) ro (am_eq (g_M_byBlocks (WM ++ e1) ro as h)) (0, am_ent as 2, [], h)
    unfold g_M_byBlocks
    split
    · rename_i o1
      intro hc hp
      change (Nat.beq o1 0) = true at hc
      obtain rfl := am_beq hc
      exact ⟨Nat.le_of_ble_eq_true rfl, ev_M_byBlocks h hp eqRIW⟩
    · exact fun z => nomatch z
def k_M_isOf (pc : Nat) : Ent := bif Nat.ble 29 pc then am_nop else bif Nat.ble 14 pc then (bif Nat.ble 20 pc then (bif Nat.ble 24 pc then (bif Nat.ble 27 pc then (bif Nat.ble 28 pc then (bif Nat.beq pc 28 then (.ireturn, 0, 0, []) else am_nop) else (bif Nat.beq pc 27 then (.iconst 0, 0, 0, []) else am_nop)) else (bif Nat.beq pc 24 then (.goto 4, 0, 28, []) else am_nop)) else (bif Nat.ble 23 pc then (bif Nat.beq pc 23 then (.iconst 1, 1, 0, []) else am_nop) else (bif Nat.beq pc 20 then (.if_icmp .ne 7, 0, 27, []) else am_nop))) else (bif Nat.ble 16 pc then (bif Nat.ble 19 pc then (bif Nat.beq pc 19 then (.iload_n 2, 0, 2, []) else am_nop) else (bif Nat.beq pc 16 then (.invokevirtual 49, 0, 0, []) else am_nop)) else (bif Nat.ble 15 pc then (bif Nat.beq pc 15 then (.iconst 0, 0, 0, []) else am_nop) else (bif Nat.beq pc 14 then (.iload_n 1, 0, 1, []) else am_nop)))) else (bif Nat.ble 8 pc then (bif Nat.ble 10 pc then (bif Nat.ble 13 pc then (bif Nat.beq pc 13 then (.aload_n 0, 0, 0, []) else am_nop) else (bif Nat.beq pc 10 then (.if_icmp .eq 13, 0, 23, []) else am_nop)) else (bif Nat.ble 9 pc then (bif Nat.beq pc 9 then (.iconst (-1), (-1 : Int32), 0, []) else am_nop) else (bif Nat.beq pc 8 then (.iload_n 2, 0, 2, []) else am_nop))) else (bif Nat.ble 2 pc then (bif Nat.ble 5 pc then (bif Nat.beq pc 5 then (.ifCond .eq 22, 0, 27, []) else am_nop) else (bif Nat.beq pc 2 then (.invokevirtual 60, 0, 0, []) else am_nop)) else (bif Nat.ble 1 pc then (bif Nat.beq pc 1 then (.iload_n 1, 0, 1, []) else am_nop) else (bif Nat.beq pc 0 then (.aload_n 0, 0, 0, []) else am_nop))))
def m_M_isOf : MI := (k_M_isOf, [], [(49, d_M_of 16), (60, d_M_isRun 16)], [], [], [], [], 2, 43, some .boolean, fun _ => 0, 1)
def v_M_isOf (h : HP) (a1 : Int32) (a2 : Int32) : Int32 := (if (v_M_isRun h a1) = 0 then (0 : Int32) else (if a2 = (-1 : Int32) then (1 : Int32) else (if (v_M_of h a1 0) = a2 then (1 : Int32) else 0)))
def p_M_isOf (h : HP) (a1 : Int32) (a2 : Int32) : Prop := ((p_M_isRun h a1) ∧ (((v_M_isRun h a1) = 0 → True) ∧ (¬ (v_M_isRun h a1) = 0 → ((a2 = (-1 : Int32) → True) ∧ (¬ a2 = (-1 : Int32) → (p_M_of h a1 0))))))
def g_M_isOf (_ _ : List Sh) (as : List Value) (h : HP) : GR := match as with
  | [.ref o1, .int a1, .int a2] => (Nat.beq o1 0, p_M_isOf h a1 a2, none, some (.int (v_M_isOf h a1 a2)), h)
  | _ => bad h
def d_M_isOf (k : Nat) : CD := (k, yX6_isOf, cX6_isOf, 3, some .boolean, 3, 2, 43, 0, false, true, g_M_isOf)
theorem chk_M_isOf : ∀ pc, am_chk cX6_isOf k_M_isOf pc = true := am_chkall 29 (by decide +kernel) (fun pc h => by unfold k_M_isOf; rw [Nat.ble_eq_true_of_le h]; rfl)
theorem pf_M_isOf : plainFor yX6_isOf = true := by decide +kernel
theorem cu_M_isOf : Cond.code yX6_isOf cX6_isOf 3 (some .boolean) ∈ am_U := am_tb 1148 (by decide +kernel) rfl
set_option maxHeartbeats 20000000 in
set_option maxRecDepth 100000 in
theorem ev_M_isOf {e1 ro : List Sh} {P : AR → HP → Prop} (h : HP) (a1 : Int32) (a2 : Int32) (hp : p_M_isOf h a1 a2) (hP : ∀ q, v_M_isOf h a1 a2 = q → RI P h q) : am_Ev m_M_isOf (WM ++ e1) ro P (0, [.ref 0, .int a1, .int a2], [], h) := by
  unfold p_M_isOf at hp
  refine am_Ev_G [5] 400 _ ?_
  show ((p_M_isRun h a1) ∧ am_Ev m_M_isOf (WM ++ e1) ro P (5, [.ref 0, .int a1, .int a2], [.int (v_M_isRun h a1)], h))
  obtain ⟨hob, hp⟩ := hp
  refine ⟨hob, ?_⟩
  have hpa := hp
  have key1 : am_Ev m_M_isOf (WM ++ e1) ro P (28, [.ref 0, .int a1, .int a2], [.int (if (v_M_isRun h a1) = 0 then (0 : Int32) else (if a2 = (-1 : Int32) then (1 : Int32) else (if (v_M_of h a1 0) = a2 then (1 : Int32) else 0)))], h) := by
    refine am_Ev_G [] 400 _ ?_
    show (((((if (v_M_isRun h a1) = 0 then (0 : Int32) else (if a2 = (-1 : Int32) then (1 : Int32) else (if (v_M_of h a1 0) = a2 then (1 : Int32) else 0))) : Int32) = 0 ∨ ((if (v_M_isRun h a1) = 0 then (0 : Int32) else (if a2 = (-1 : Int32) then (1 : Int32) else (if (v_M_of h a1 0) = a2 then (1 : Int32) else 0))) : Int32) = 1)) ∧ P (.inl (some (.int (if (v_M_isRun h a1) = 0 then (0 : Int32) else (if a2 = (-1 : Int32) then (1 : Int32) else (if (v_M_of h a1 0) = a2 then (1 : Int32) else 0)))))) h)
    refine ⟨(by (repeat' split) <;> decide), ?_⟩
    exact hP (if (v_M_isRun h a1) = 0 then (0 : Int32) else (if a2 = (-1 : Int32) then (1 : Int32) else (if (v_M_of h a1 0) = a2 then (1 : Int32) else 0))) rfl
  have hp := hpa
  refine am_Ev_G [28] 400 _ ?_
  show (((v_M_isRun h a1) = 0 → am_Ev m_M_isOf (WM ++ e1) ro P (28, [.ref 0, .int a1, .int a2], [.int 0], h)) ∧ (¬ (v_M_isRun h a1) = 0 → ((a2 = (-1 : Int32) → am_Ev m_M_isOf (WM ++ e1) ro P (28, [.ref 0, .int a1, .int a2], [.int 1], h)) ∧ (¬ a2 = (-1 : Int32) → ((p_M_of h a1 0) ∧ ((¬ (v_M_of h a1 0) = a2 → am_Ev m_M_isOf (WM ++ e1) ro P (28, [.ref 0, .int a1, .int a2], [.int 0], h)) ∧ ((v_M_of h a1 0) = a2 → am_Ev m_M_isOf (WM ++ e1) ro P (28, [.ref 0, .int a1, .int a2], [.int 1], h))))))))
  refine ⟨fun c2 => ?_, fun c2 => ?_⟩
  · skip
    simpa only [if_pos c2] using key1
  · have hp := hp.2 c2
    refine ⟨fun c3 => ?_, fun c3 => ?_⟩
    · skip
      simpa only [if_neg c2, if_pos c3] using key1
    · have hp := hp.2 c3
      refine ⟨hp, ?_⟩
      refine ⟨fun c4 => ?_, fun c4 => ?_⟩
      · skip
        simpa only [if_neg c2, if_neg c3, if_neg c4] using key1
      · skip
        simpa only [if_neg c2, if_neg c3, if_pos c4] using key1
theorem ok_M_isOf {l : Launch} (hl : l.stackTraces = false) (e1 ro : List Sh) (k : Nat) : am_Ok l (WM ++ e1) ro (d_M_isOf k) := by
  refine am_met hl (own := RX6) (M := m_M_isOf) rfl pf_M_isOf cu_M_isOf rfl rfl rfl rfl (fun _ => rfl) rfl ⟨chk_M_isOf, (am_n), (am_c (lk_M_49) (am_c (lk_M_60) am_n)), (am_n), (am_n)⟩ (am_n) (am_c (ok_M_of hl e1 _ 16) (am_c (ok_M_isRun hl e1 _ 16) am_n)) (fun z => nomatch z) ?_ ?_
  · intro _ as h hg
    show g_thr (g_M_isOf (WM ++ e1) ro as h) = none
    unfold g_M_isOf
    split <;> rfl
  · intro as h hg hp
    revert hg hp
    show g_ok (g_M_isOf (WM ++ e1) ro as h) = true → g_pre (g_M_isOf (WM ++ e1) ro as h) → _ ∧ am_Ev m_M_isOf (WM ++ e1) ro (am_eq (g_M_isOf (WM ++ e1) ro as h)) (0, am_ent as 3, [], h)
    unfold g_M_isOf
    split
    · rename_i o1 a1 a2
      intro hc hp
      change (Nat.beq o1 0) = true at hc
      obtain rfl := am_beq hc
      exact ⟨Nat.le_of_ble_eq_true rfl, ev_M_isOf h a1 a2 hp eqRI⟩
    · exact fun z => nomatch z
def k_M_lacking (pc : Nat) : Ent := bif Nat.ble 105 pc then am_nop else bif Nat.ble 52 pc then (bif Nat.ble 78 pc then (bif Nat.ble 92 pc then (bif Nat.ble 96 pc then (bif Nat.ble 102 pc then (bif Nat.ble 104 pc then (bif Nat.beq pc 104 then (.ireturn, 0, 0, []) else am_nop) else (bif Nat.beq pc 102 then (.iload 5, 0, 5, []) else am_nop)) else (bif Nat.ble 99 pc then (bif Nat.beq pc 99 then (.goto (-93), 0, 6, []) else am_nop) else (bif Nat.beq pc 96 then (.iinc 6 1, 1, 6, []) else am_nop))) else (bif Nat.ble 93 pc then (bif Nat.ble 94 pc then (bif Nat.beq pc 94 then (.istore 5, 0, 5, []) else am_nop) else (bif Nat.beq pc 93 then (.isub, 0, 0, []) else am_nop)) else (bif Nat.beq pc 92 then (.iconst 0, 0, 0, []) else am_nop))) else (bif Nat.ble 84 pc then (bif Nat.ble 88 pc then (bif Nat.ble 89 pc then (bif Nat.beq pc 89 then (.goto 4, 0, 93, []) else am_nop) else (bif Nat.beq pc 88 then (.iconst 1, 1, 0, []) else am_nop)) else (bif Nat.ble 85 pc then (bif Nat.beq pc 85 then (.if_icmp .gt 7, 0, 92, []) else am_nop) else (bif Nat.beq pc 84 then (.iload_n 3, 0, 3, []) else am_nop))) else (bif Nat.ble 79 pc then (bif Nat.ble 81 pc then (bif Nat.beq pc 81 then (.invokevirtual 67, 0, 0, []) else am_nop) else (bif Nat.beq pc 79 then (.iload 6, 0, 6, []) else am_nop)) else (bif Nat.beq pc 78 then (.aload_n 0, 0, 0, []) else am_nop)))) else (bif Nat.ble 64 pc then (bif Nat.ble 70 pc then (bif Nat.ble 74 pc then (bif Nat.ble 75 pc then (bif Nat.beq pc 75 then (.if_icmp .ne 17, 0, 92, []) else am_nop) else (bif Nat.beq pc 74 then (.iload_n 1, 0, 1, []) else am_nop)) else (bif Nat.ble 71 pc then (bif Nat.beq pc 71 then (.invokevirtual 49, 0, 0, []) else am_nop) else (bif Nat.beq pc 70 then (.iconst 2, 2, 0, []) else am_nop))) else (bif Nat.ble 67 pc then (bif Nat.ble 68 pc then (bif Nat.beq pc 68 then (.iload 6, 0, 6, []) else am_nop) else (bif Nat.beq pc 67 then (.aload_n 0, 0, 0, []) else am_nop)) else (bif Nat.beq pc 64 then (.ifCond .eq 28, 0, 92, []) else am_nop))) else (bif Nat.ble 57 pc then (bif Nat.ble 60 pc then (bif Nat.ble 61 pc then (bif Nat.beq pc 61 then (.invokevirtual 99, 0, 0, []) else am_nop) else (bif Nat.beq pc 60 then (.iload_n 2, 0, 2, []) else am_nop)) else (bif Nat.ble 58 pc then (bif Nat.beq pc 58 then (.iload 6, 0, 6, []) else am_nop) else (bif Nat.beq pc 57 then (.aload_n 0, 0, 0, []) else am_nop))) else (bif Nat.ble 53 pc then (bif Nat.ble 55 pc then (bif Nat.beq pc 55 then (.iload 5, 0, 5, []) else am_nop) else (bif Nat.beq pc 53 then (.istore 5, 0, 5, []) else am_nop)) else (bif Nat.beq pc 52 then (.iadd, 0, 0, []) else am_nop))))) else (bif Nat.ble 26 pc then (bif Nat.ble 39 pc then (bif Nat.ble 44 pc then (bif Nat.ble 48 pc then (bif Nat.ble 51 pc then (bif Nat.beq pc 51 then (.iconst 0, 0, 0, []) else am_nop) else (bif Nat.beq pc 48 then (.goto 4, 0, 52, []) else am_nop)) else (bif Nat.ble 47 pc then (bif Nat.beq pc 47 then (.iconst 1, 1, 0, []) else am_nop) else (bif Nat.beq pc 44 then (.if_icmp .gt 7, 0, 51, []) else am_nop))) else (bif Nat.ble 40 pc then (bif Nat.ble 43 pc then (bif Nat.beq pc 43 then (.iload_n 3, 0, 3, []) else am_nop) else (bif Nat.beq pc 40 then (.invokevirtual 49, 0, 0, []) else am_nop)) else (bif Nat.beq pc 39 then (.iconst 3, 3, 0, []) else am_nop))) else (bif Nat.ble 32 pc then (bif Nat.ble 36 pc then (bif Nat.ble 37 pc then (bif Nat.beq pc 37 then (.iload 6, 0, 6, []) else am_nop) else (bif Nat.beq pc 36 then (.aload_n 0, 0, 0, []) else am_nop)) else (bif Nat.ble 33 pc then (bif Nat.beq pc 33 then (.if_icmp .ne 18, 0, 51, []) else am_nop) else (bif Nat.beq pc 32 then (.iload_n 1, 0, 1, []) else am_nop))) else (bif Nat.ble 28 pc then (bif Nat.ble 29 pc then (bif Nat.beq pc 29 then (.invokevirtual 49, 0, 0, []) else am_nop) else (bif Nat.beq pc 28 then (.iconst 1, 1, 0, []) else am_nop)) else (bif Nat.beq pc 26 then (.iload 6, 0, 6, []) else am_nop)))) else (bif Nat.ble 13 pc then (bif Nat.ble 18 pc then (bif Nat.ble 22 pc then (bif Nat.ble 25 pc then (bif Nat.beq pc 25 then (.aload_n 0, 0, 0, []) else am_nop) else (bif Nat.beq pc 22 then (.ifCond .eq 29, 0, 51, []) else am_nop)) else (bif Nat.ble 19 pc then (bif Nat.beq pc 19 then (.invokevirtual 99, 0, 0, []) else am_nop) else (bif Nat.beq pc 18 then (.iload_n 2, 0, 2, []) else am_nop))) else (bif Nat.ble 15 pc then (bif Nat.ble 16 pc then (bif Nat.beq pc 16 then (.iload 6, 0, 6, []) else am_nop) else (bif Nat.beq pc 15 then (.aload_n 0, 0, 0, []) else am_nop)) else (bif Nat.beq pc 13 then (.iload 5, 0, 5, []) else am_nop))) else (bif Nat.ble 4 pc then (bif Nat.ble 8 pc then (bif Nat.ble 10 pc then (bif Nat.beq pc 10 then (.if_icmp .ge 92, 0, 102, []) else am_nop) else (bif Nat.beq pc 8 then (.iload 4, 0, 4, []) else am_nop)) else (bif Nat.ble 6 pc then (bif Nat.beq pc 6 then (.iload 6, 0, 6, []) else am_nop) else (bif Nat.beq pc 4 then (.istore 6, 0, 6, []) else am_nop))) else (bif Nat.ble 1 pc then (bif Nat.ble 3 pc then (bif Nat.beq pc 3 then (.iconst 0, 0, 0, []) else am_nop) else (bif Nat.beq pc 1 then (.istore 5, 0, 5, []) else am_nop)) else (bif Nat.beq pc 0 then (.iconst 0, 0, 0, []) else am_nop)))))
theorem lk_M_99 : am_lnk RX6 99 (d_M_isOf 16) := ⟨⟨by decide, by decide⟩, am_tb 8 (by decide +kernel) rfl, Or.inr ⟨by decide, rfl, am_tb 1147 (by decide +kernel) rfl, am_tp 100 (by decide +kernel) rfl, ⟨TX6, 16, rfl⟩, Or.inl (am_tb 1145 (by decide +kernel) rfl)⟩⟩
def m_M_lacking : MI := (k_M_lacking, [], [(49, d_M_of 16), (67, d_M_ready 16), (99, d_M_isOf 16)], [], [], [], [], 3, 65, some .int, fun _ => 0, 1)
def s_M_lacking_6 (h : HP) (a1 : Int32) (a2 : Int32) (a3 : Int32) (a4 : Int32) (v1 : Int32 × Int32) : (Int32 × Int32) ⊕ (Int32 × Int32) := (if v1.2 < a4 then (.inl (((v1.1 + (if (v_M_isOf h v1.2 a2) = 0 then (0 : Int32) else (if (v_M_of h v1.2 1) = a1 then (if (v_M_of h v1.2 3) ≤ a3 then (1 : Int32) else 0) else 0))) - (if (v_M_isOf h v1.2 a2) = 0 then (0 : Int32) else (if (v_M_of h v1.2 2) = a1 then (if (v_M_ready h v1.2) ≤ a3 then (1 : Int32) else 0) else 0))), (v1.2 + 1))) else (.inr (v1.1, v1.2)))
def ps_M_lacking_6 (h : HP) (a1 : Int32) (a2 : Int32) (a3 : Int32) (a4 : Int32) (v1 : Int32 × Int32) : Prop := ((v1.2 < a4 → ((p_M_isOf h v1.2 a2) ∧ ((((v_M_isOf h v1.2 a2) = 0 → True) ∧ (¬ (v_M_isOf h v1.2 a2) = 0 → ((p_M_of h v1.2 1) ∧ (((v_M_of h v1.2 1) = a1 → (p_M_of h v1.2 3)) ∧ (¬ (v_M_of h v1.2 1) = a1 → True))))) ∧ ((p_M_isOf h v1.2 a2) ∧ (((v_M_isOf h v1.2 a2) = 0 → True) ∧ (¬ (v_M_isOf h v1.2 a2) = 0 → ((p_M_of h v1.2 2) ∧ (((v_M_of h v1.2 2) = a1 → (p_M_ready h v1.2)) ∧ (¬ (v_M_of h v1.2 2) = a1 → True))))))))) ∧ (¬ v1.2 < a4 → True))
def v_M_lacking (h : HP) (a1 : Int32) (a2 : Int32) (a3 : Int32) (a4 : Int32) : Int32 := (match itr (s_M_lacking_6 h a1 a2 a3 a4) NF (0, 0) with | some r1 => r1.1 | none => 0)
def p_M_lacking (h : HP) (a1 : Int32) (a2 : Int32) (a3 : Int32) (a4 : Int32) : Prop := (itrp (s_M_lacking_6 h a1 a2 a3 a4) (ps_M_lacking_6 h a1 a2 a3 a4) NF (0, 0))
def g_M_lacking (_ _ : List Sh) (as : List Value) (h : HP) : GR := match as with
  | [.ref o1, .int a1, .int a2, .int a3, .int a4] => (Nat.beq o1 0, p_M_lacking h a1 a2 a3 a4, none, some (.int (v_M_lacking h a1 a2 a3 a4)), h)
  | _ => bad h
def d_M_lacking (k : Nat) : CD := (k, yX6_lacking, cX6_lacking, 7, some .int, 5, 3, 65, 0, false, true, g_M_lacking)
theorem chk_M_lacking : ∀ pc, am_chk cX6_lacking k_M_lacking pc = true := am_chkall 105 (by decide +kernel) (fun pc h => by unfold k_M_lacking; rw [Nat.ble_eq_true_of_le h]; rfl)
theorem pf_M_lacking : plainFor yX6_lacking = true := by decide +kernel
theorem cu_M_lacking : Cond.code yX6_lacking cX6_lacking 7 (some .int) ∈ am_U := am_tb 1144 (by decide +kernel) rfl
set_option maxHeartbeats 20000000 in
set_option maxRecDepth 100000 in
theorem ev_M_lacking {e1 ro : List Sh} {P : AR → HP → Prop} (h : HP) (a1 : Int32) (a2 : Int32) (a3 : Int32) (a4 : Int32) (hp : p_M_lacking h a1 a2 a3 a4) (hP : ∀ q, v_M_lacking h a1 a2 a3 a4 = q → RI P h q) : am_Ev m_M_lacking (WM ++ e1) ro P (0, [.ref 0, .int a1, .int a2, .int a3, .int a4, .retAddr 0, .retAddr 0], [], h) := by
  unfold p_M_lacking at hp
  refine am_Ev_G [6] 400 _ ?_
  show am_Ev m_M_lacking (WM ++ e1) ro P (6, [.ref 0, .int a1, .int a2, .int a3, .int a4, .int 0, .int 0], [], h)
  have hpl := hp
  refine am_itr (E := (fun (v1 : Int32 × Int32) => am_Ev m_M_lacking (WM ++ e1) ro P (6, [.ref 0, .int a1, .int a2, .int a3, .int a4, .int v1.1, .int v1.2], [], h))) (E' := (fun (r1 : Int32 × Int32) => am_Ev m_M_lacking (WM ++ e1) ro P (102, [.ref 0, .int a1, .int a2, .int a3, .int a4, .int r1.1, .int r1.2], [], h))) (s_M_lacking_6 h a1 a2 a3 a4) (ps_M_lacking_6 h a1 a2 a3 a4) ?_ NF (0, 0) hpl ?_
  · intro v1 hp hc1 hx1
    show am_Ev m_M_lacking (WM ++ e1) ro P (6, [.ref 0, .int a1, .int a2, .int a3, .int a4, .int v1.1, .int v1.2], [], h)
    unfold ps_M_lacking_6 at hp
    refine am_Ev_G [22, 102] 400 _ ?_
    show ((¬ v1.2 < a4 → am_Ev m_M_lacking (WM ++ e1) ro P (102, [.ref 0, .int a1, .int a2, .int a3, .int a4, .int v1.1, .int v1.2], [], h)) ∧ (v1.2 < a4 → ((p_M_isOf h v1.2 a2) ∧ am_Ev m_M_lacking (WM ++ e1) ro P (22, [.ref 0, .int a1, .int a2, .int a3, .int a4, .int v1.1, .int v1.2], [.int (v_M_isOf h v1.2 a2), .int v1.1], h))))
    refine ⟨fun c1 => ?_, fun c1 => ?_⟩
    · skip
      exact hx1 (v1.1, v1.2) (by unfold s_M_lacking_6; simp only [if_neg c1])
    · have hp := hp.1 c1
      obtain ⟨hob, hp⟩ := hp
      refine ⟨hob, ?_⟩
      obtain ⟨hpa, hp⟩ := hp
      have key2 : am_Ev m_M_lacking (WM ++ e1) ro P (52, [.ref 0, .int a1, .int a2, .int a3, .int a4, .int v1.1, .int v1.2], [.int (if (v_M_isOf h v1.2 a2) = 0 then (0 : Int32) else (if (v_M_of h v1.2 1) = a1 then (if (v_M_of h v1.2 3) ≤ a3 then (1 : Int32) else 0) else 0)), .int v1.1], h) := by
        refine am_Ev_G [64] 400 _ ?_
        show ((p_M_isOf h v1.2 a2) ∧ am_Ev m_M_lacking (WM ++ e1) ro P (64, [.ref 0, .int a1, .int a2, .int a3, .int a4, .int (v1.1 + (if (v_M_isOf h v1.2 a2) = 0 then (0 : Int32) else (if (v_M_of h v1.2 1) = a1 then (if (v_M_of h v1.2 3) ≤ a3 then (1 : Int32) else 0) else 0))), .int v1.2], [.int (v_M_isOf h v1.2 a2), .int (v1.1 + (if (v_M_isOf h v1.2 a2) = 0 then (0 : Int32) else (if (v_M_of h v1.2 1) = a1 then (if (v_M_of h v1.2 3) ≤ a3 then (1 : Int32) else 0) else 0)))], h))
        obtain ⟨hob, hp⟩ := hp
        refine ⟨hob, ?_⟩
        have hpa := hp
        have key3 : am_Ev m_M_lacking (WM ++ e1) ro P (93, [.ref 0, .int a1, .int a2, .int a3, .int a4, .int (v1.1 + (if (v_M_isOf h v1.2 a2) = 0 then (0 : Int32) else (if (v_M_of h v1.2 1) = a1 then (if (v_M_of h v1.2 3) ≤ a3 then (1 : Int32) else 0) else 0))), .int v1.2], [.int (if (v_M_isOf h v1.2 a2) = 0 then (0 : Int32) else (if (v_M_of h v1.2 2) = a1 then (if (v_M_ready h v1.2) ≤ a3 then (1 : Int32) else 0) else 0)), .int (v1.1 + (if (v_M_isOf h v1.2 a2) = 0 then (0 : Int32) else (if (v_M_of h v1.2 1) = a1 then (if (v_M_of h v1.2 3) ≤ a3 then (1 : Int32) else 0) else 0)))], h) := by
          refine am_Ev_G [6] 400 _ ?_
          show am_Ev m_M_lacking (WM ++ e1) ro P (6, [.ref 0, .int a1, .int a2, .int a3, .int a4, .int ((v1.1 + (if (v_M_isOf h v1.2 a2) = 0 then (0 : Int32) else (if (v_M_of h v1.2 1) = a1 then (if (v_M_of h v1.2 3) ≤ a3 then (1 : Int32) else 0) else 0))) - (if (v_M_isOf h v1.2 a2) = 0 then (0 : Int32) else (if (v_M_of h v1.2 2) = a1 then (if (v_M_ready h v1.2) ≤ a3 then (1 : Int32) else 0) else 0))), .int (v1.2 + 1)], [], h)
          exact hc1 (((v1.1 + (if (v_M_isOf h v1.2 a2) = 0 then (0 : Int32) else (if (v_M_of h v1.2 1) = a1 then (if (v_M_of h v1.2 3) ≤ a3 then (1 : Int32) else 0) else 0))) - (if (v_M_isOf h v1.2 a2) = 0 then (0 : Int32) else (if (v_M_of h v1.2 2) = a1 then (if (v_M_ready h v1.2) ≤ a3 then (1 : Int32) else 0) else 0))), (v1.2 + 1)) (by unfold s_M_lacking_6; simp only [if_pos c1])
        have hp := hpa
        refine am_Ev_G [93] 400 _ ?_
        show (((v_M_isOf h v1.2 a2) = 0 → am_Ev m_M_lacking (WM ++ e1) ro P (93, [.ref 0, .int a1, .int a2, .int a3, .int a4, .int (v1.1 + (if (v_M_isOf h v1.2 a2) = 0 then (0 : Int32) else (if (v_M_of h v1.2 1) = a1 then (if (v_M_of h v1.2 3) ≤ a3 then (1 : Int32) else 0) else 0))), .int v1.2], [.int 0, .int (v1.1 + (if (v_M_isOf h v1.2 a2) = 0 then (0 : Int32) else (if (v_M_of h v1.2 1) = a1 then (if (v_M_of h v1.2 3) ≤ a3 then (1 : Int32) else 0) else 0)))], h)) ∧ (¬ (v_M_isOf h v1.2 a2) = 0 → ((p_M_of h v1.2 2) ∧ ((¬ (v_M_of h v1.2 2) = a1 → am_Ev m_M_lacking (WM ++ e1) ro P (93, [.ref 0, .int a1, .int a2, .int a3, .int a4, .int (v1.1 + (if (v_M_isOf h v1.2 a2) = 0 then (0 : Int32) else (if (v_M_of h v1.2 1) = a1 then (if (v_M_of h v1.2 3) ≤ a3 then (1 : Int32) else 0) else 0))), .int v1.2], [.int 0, .int (v1.1 + (if (v_M_isOf h v1.2 a2) = 0 then (0 : Int32) else (if (v_M_of h v1.2 1) = a1 then (if (v_M_of h v1.2 3) ≤ a3 then (1 : Int32) else 0) else 0)))], h)) ∧ ((v_M_of h v1.2 2) = a1 → ((p_M_ready h v1.2) ∧ ((¬ (v_M_ready h v1.2) ≤ a3 → am_Ev m_M_lacking (WM ++ e1) ro P (93, [.ref 0, .int a1, .int a2, .int a3, .int a4, .int (v1.1 + (if (v_M_isOf h v1.2 a2) = 0 then (0 : Int32) else (if (v_M_of h v1.2 1) = a1 then (if (v_M_of h v1.2 3) ≤ a3 then (1 : Int32) else 0) else 0))), .int v1.2], [.int 0, .int (v1.1 + (if (v_M_isOf h v1.2 a2) = 0 then (0 : Int32) else (if (v_M_of h v1.2 1) = a1 then (if (v_M_of h v1.2 3) ≤ a3 then (1 : Int32) else 0) else 0)))], h)) ∧ ((v_M_ready h v1.2) ≤ a3 → am_Ev m_M_lacking (WM ++ e1) ro P (93, [.ref 0, .int a1, .int a2, .int a3, .int a4, .int (v1.1 + (if (v_M_isOf h v1.2 a2) = 0 then (0 : Int32) else (if (v_M_of h v1.2 1) = a1 then (if (v_M_of h v1.2 3) ≤ a3 then (1 : Int32) else 0) else 0))), .int v1.2], [.int 1, .int (v1.1 + (if (v_M_isOf h v1.2 a2) = 0 then (0 : Int32) else (if (v_M_of h v1.2 1) = a1 then (if (v_M_of h v1.2 3) ≤ a3 then (1 : Int32) else 0) else 0)))], h)))))))))
        refine ⟨fun c4 => ?_, fun c4 => ?_⟩
        · skip
          simpa only [if_pos c4] using key3
        · have hp := hp.2 c4
          obtain ⟨hob, hp⟩ := hp
          refine ⟨hob, ?_⟩
          refine ⟨fun c5 => ?_, fun c5 => ?_⟩
          · skip
            simpa only [if_neg c4, if_neg c5] using key3
          · have hp := hp.1 c5
            refine ⟨hp, ?_⟩
            refine ⟨fun c6 => ?_, fun c6 => ?_⟩
            · skip
              simpa only [if_neg c4, if_pos c5, if_neg c6] using key3
            · skip
              simpa only [if_neg c4, if_pos c5, if_pos c6] using key3
      have hp := hpa
      refine am_Ev_G [52] 400 _ ?_
      show (((v_M_isOf h v1.2 a2) = 0 → am_Ev m_M_lacking (WM ++ e1) ro P (52, [.ref 0, .int a1, .int a2, .int a3, .int a4, .int v1.1, .int v1.2], [.int 0, .int v1.1], h)) ∧ (¬ (v_M_isOf h v1.2 a2) = 0 → ((p_M_of h v1.2 1) ∧ ((¬ (v_M_of h v1.2 1) = a1 → am_Ev m_M_lacking (WM ++ e1) ro P (52, [.ref 0, .int a1, .int a2, .int a3, .int a4, .int v1.1, .int v1.2], [.int 0, .int v1.1], h)) ∧ ((v_M_of h v1.2 1) = a1 → ((p_M_of h v1.2 3) ∧ ((¬ (v_M_of h v1.2 3) ≤ a3 → am_Ev m_M_lacking (WM ++ e1) ro P (52, [.ref 0, .int a1, .int a2, .int a3, .int a4, .int v1.1, .int v1.2], [.int 0, .int v1.1], h)) ∧ ((v_M_of h v1.2 3) ≤ a3 → am_Ev m_M_lacking (WM ++ e1) ro P (52, [.ref 0, .int a1, .int a2, .int a3, .int a4, .int v1.1, .int v1.2], [.int 1, .int v1.1], h)))))))))
      refine ⟨fun c7 => ?_, fun c7 => ?_⟩
      · skip
        simpa only [if_pos c7] using key2
      · have hp := hp.2 c7
        obtain ⟨hob, hp⟩ := hp
        refine ⟨hob, ?_⟩
        refine ⟨fun c8 => ?_, fun c8 => ?_⟩
        · skip
          simpa only [if_neg c7, if_neg c8] using key2
        · have hp := hp.1 c8
          refine ⟨hp, ?_⟩
          refine ⟨fun c9 => ?_, fun c9 => ?_⟩
          · skip
            simpa only [if_neg c7, if_pos c8, if_neg c9] using key2
          · skip
            simpa only [if_neg c7, if_pos c8, if_pos c9] using key2
  · intro r1 hr10
    show am_Ev m_M_lacking (WM ++ e1) ro P (102, [.ref 0, .int a1, .int a2, .int a3, .int a4, .int r1.1, .int r1.2], [], h)
    refine am_Ev_G [] 400 _ ?_
    show P (.inl (some (.int r1.1))) h
    exact hP r1.1 (by unfold v_M_lacking; simp only [hr10])
theorem ok_M_lacking {l : Launch} (hl : l.stackTraces = false) (e1 ro : List Sh) (k : Nat) : am_Ok l (WM ++ e1) ro (d_M_lacking k) := by
  refine am_met hl (own := RX6) (M := m_M_lacking) rfl pf_M_lacking cu_M_lacking rfl rfl rfl rfl (fun _ => rfl) rfl ⟨chk_M_lacking, (am_n), (am_c (lk_M_49) (am_c (lk_M_67) (am_c (lk_M_99) am_n))), (am_n), (am_n)⟩ (am_n) (am_c (ok_M_of hl e1 _ 16) (am_c (ok_M_ready hl e1 _ 16) (am_c (ok_M_isOf hl e1 _ 16) am_n))) (fun z => nomatch z) ?_ ?_
  · intro _ as h hg
    show g_thr (g_M_lacking (WM ++ e1) ro as h) = none
    unfold g_M_lacking
    split <;> rfl
  · intro as h hg hp
    revert hg hp
    show g_ok (g_M_lacking (WM ++ e1) ro as h) = true → g_pre (g_M_lacking (WM ++ e1) ro as h) → _ ∧ am_Ev m_M_lacking (WM ++ e1) ro (am_eq (g_M_lacking (WM ++ e1) ro as h)) (0, am_ent as 7, [], h)
    unfold g_M_lacking
    split
    · rename_i o1 a1 a2 a3 a4
      intro hc hp
      change (Nat.beq o1 0) = true at hc
      obtain rfl := am_beq hc
      exact ⟨Nat.le_of_ble_eq_true rfl, ev_M_lacking h a1 a2 a3 a4 hp eqRI⟩
    · exact fun z => nomatch z
def k_M_deficitOf (pc : Nat) : Ent := bif Nat.ble 66 pc then am_nop else bif Nat.ble 28 pc then (bif Nat.ble 45 pc then (bif Nat.ble 55 pc then (bif Nat.ble 60 pc then (bif Nat.ble 63 pc then (bif Nat.ble 65 pc then (bif Nat.beq pc 65 then (.ireturn, 0, 0, []) else am_nop) else (bif Nat.beq pc 63 then (.iload 4, 0, 4, []) else am_nop)) else (bif Nat.beq pc 60 then (.goto (-54), 0, 6, []) else am_nop)) else (bif Nat.ble 57 pc then (bif Nat.beq pc 57 then (.iinc 5 1, 1, 5, []) else am_nop) else (bif Nat.beq pc 55 then (.istore 4, 0, 4, []) else am_nop))) else (bif Nat.ble 50 pc then (bif Nat.ble 53 pc then (bif Nat.beq pc 53 then (.iload 4, 0, 4, []) else am_nop) else (bif Nat.beq pc 50 then (.goto 5, 0, 55, []) else am_nop)) else (bif Nat.ble 48 pc then (bif Nat.beq pc 48 then (.iload 6, 0, 6, []) else am_nop) else (bif Nat.beq pc 45 then (.if_icmp .le 8, 0, 53, []) else am_nop)))) else (bif Nat.ble 38 pc then (bif Nat.ble 41 pc then (bif Nat.ble 43 pc then (bif Nat.beq pc 43 then (.iload 4, 0, 4, []) else am_nop) else (bif Nat.beq pc 41 then (.iload 6, 0, 6, []) else am_nop)) else (bif Nat.ble 39 pc then (bif Nat.beq pc 39 then (.istore 6, 0, 6, []) else am_nop) else (bif Nat.beq pc 38 then (.iconst 0, 0, 0, []) else am_nop))) else (bif Nat.ble 32 pc then (bif Nat.ble 35 pc then (bif Nat.beq pc 35 then (.goto 4, 0, 39, []) else am_nop) else (bif Nat.beq pc 32 then (.invokevirtual 103, 0, 0, []) else am_nop)) else (bif Nat.ble 31 pc then (bif Nat.beq pc 31 then (.iload_n 3, 0, 3, []) else am_nop) else (bif Nat.beq pc 28 then (.invokevirtual 49, 0, 0, []) else am_nop))))) else (bif Nat.ble 13 pc then (bif Nat.ble 22 pc then (bif Nat.ble 24 pc then (bif Nat.ble 25 pc then (bif Nat.ble 27 pc then (bif Nat.beq pc 27 then (.iconst 3, 3, 0, []) else am_nop) else (bif Nat.beq pc 25 then (.iload 5, 0, 5, []) else am_nop)) else (bif Nat.beq pc 24 then (.aload_n 0, 0, 0, []) else am_nop)) else (bif Nat.ble 23 pc then (bif Nat.beq pc 23 then (.iload_n 2, 0, 2, []) else am_nop) else (bif Nat.beq pc 22 then (.iload_n 1, 0, 1, []) else am_nop))) else (bif Nat.ble 18 pc then (bif Nat.ble 21 pc then (bif Nat.beq pc 21 then (.aload_n 0, 0, 0, []) else am_nop) else (bif Nat.beq pc 18 then (.ifCond .eq 20, 0, 38, []) else am_nop)) else (bif Nat.ble 15 pc then (bif Nat.beq pc 15 then (.invokevirtual 60, 0, 0, []) else am_nop) else (bif Nat.beq pc 13 then (.iload 5, 0, 5, []) else am_nop)))) else (bif Nat.ble 6 pc then (bif Nat.ble 9 pc then (bif Nat.ble 12 pc then (bif Nat.beq pc 12 then (.aload_n 0, 0, 0, []) else am_nop) else (bif Nat.beq pc 9 then (.if_icmp .ge 54, 0, 63, []) else am_nop)) else (bif Nat.ble 8 pc then (bif Nat.beq pc 8 then (.iload_n 3, 0, 3, []) else am_nop) else (bif Nat.beq pc 6 then (.iload 5, 0, 5, []) else am_nop))) else (bif Nat.ble 3 pc then (bif Nat.ble 4 pc then (bif Nat.beq pc 4 then (.istore 5, 0, 5, []) else am_nop) else (bif Nat.beq pc 3 then (.iconst 0, 0, 0, []) else am_nop)) else (bif Nat.ble 1 pc then (bif Nat.beq pc 1 then (.istore 4, 0, 4, []) else am_nop) else (bif Nat.beq pc 0 then (.iconst 0, 0, 0, []) else am_nop)))))
theorem lk_M_103 : am_lnk RX6 103 (d_M_lacking 16) := ⟨⟨by decide, by decide⟩, am_tb 8 (by decide +kernel) rfl, Or.inr ⟨by decide, rfl, am_tb 1143 (by decide +kernel) rfl, am_tp 99 (by decide +kernel) rfl, ⟨TX6, 16, rfl⟩, Or.inl (am_tb 1141 (by decide +kernel) rfl)⟩⟩
def m_M_deficitOf : MI := (k_M_deficitOf, [], [(49, d_M_of 16), (60, d_M_isRun 16), (103, d_M_lacking 16)], [], [], [], [], 4, 91, some .int, fun _ => 0, 1)
def s_M_deficitOf_6 (h : HP) (a1 : Int32) (a2 : Int32) (a3 : Int32) (v1 : Int32 × Int32) : (Int32 × Int32) ⊕ (Int32 × Int32) := (if v1.2 < a3 then (.inl ((if ((if (v_M_isRun h v1.2) = 0 then (0 : Int32) else (v_M_lacking h a1 a2 (v_M_of h v1.2 3) a3)) : Int32) ≤ v1.1 then v1.1 else (if (v_M_isRun h v1.2) = 0 then (0 : Int32) else (v_M_lacking h a1 a2 (v_M_of h v1.2 3) a3))), (v1.2 + 1))) else (.inr (v1.1, v1.2)))
def ps_M_deficitOf_6 (h : HP) (a1 : Int32) (a2 : Int32) (a3 : Int32) (v1 : Int32 × Int32) : Prop := ((v1.2 < a3 → ((p_M_isRun h v1.2) ∧ (((v_M_isRun h v1.2) = 0 → True) ∧ (¬ (v_M_isRun h v1.2) = 0 → ((p_M_of h v1.2 3) ∧ (p_M_lacking h a1 a2 (v_M_of h v1.2 3) a3)))))) ∧ (¬ v1.2 < a3 → True))
def v_M_deficitOf (h : HP) (a1 : Int32) (a2 : Int32) (a3 : Int32) : Int32 := (match itr (s_M_deficitOf_6 h a1 a2 a3) NF (0, 0) with | some r1 => r1.1 | none => 0)
def p_M_deficitOf (h : HP) (a1 : Int32) (a2 : Int32) (a3 : Int32) : Prop := (itrp (s_M_deficitOf_6 h a1 a2 a3) (ps_M_deficitOf_6 h a1 a2 a3) NF (0, 0))
def g_M_deficitOf (_ _ : List Sh) (as : List Value) (h : HP) : GR := match as with
  | [.ref o1, .int a1, .int a2, .int a3] => (Nat.beq o1 0, p_M_deficitOf h a1 a2 a3, none, some (.int (v_M_deficitOf h a1 a2 a3)), h)
  | _ => bad h
def d_M_deficitOf (k : Nat) : CD := (k, yX6_deficitOf, cX6_deficitOf, 7, some .int, 4, 4, 91, 0, false, true, g_M_deficitOf)
theorem chk_M_deficitOf : ∀ pc, am_chk cX6_deficitOf k_M_deficitOf pc = true := am_chkall 66 (by decide +kernel) (fun pc h => by unfold k_M_deficitOf; rw [Nat.ble_eq_true_of_le h]; rfl)
theorem pf_M_deficitOf : plainFor yX6_deficitOf = true := by decide +kernel
theorem cu_M_deficitOf : Cond.code yX6_deficitOf cX6_deficitOf 7 (some .int) ∈ am_U := am_tb 1140 (by decide +kernel) rfl
set_option maxHeartbeats 20000000 in
set_option maxRecDepth 100000 in
theorem ev_M_deficitOf {e1 ro : List Sh} {P : AR → HP → Prop} (h : HP) (a1 : Int32) (a2 : Int32) (a3 : Int32) (hp : p_M_deficitOf h a1 a2 a3) (hP : ∀ q, v_M_deficitOf h a1 a2 a3 = q → RI P h q) : am_Ev m_M_deficitOf (WM ++ e1) ro P (0, [.ref 0, .int a1, .int a2, .int a3, .retAddr 0, .retAddr 0, .retAddr 0], [], h) := by
  unfold p_M_deficitOf at hp
  refine am_Ev_G [6] 400 _ ?_
  show am_Ev m_M_deficitOf (WM ++ e1) ro P (6, [.ref 0, .int a1, .int a2, .int a3, .int 0, .int 0, .retAddr 0], [], h)
  have hpl := hp
  refine am_itr (E := (fun (v1 : Int32 × Int32) => am_Ev m_M_deficitOf (WM ++ e1) ro P (6, [.ref 0, .int a1, .int a2, .int a3, .int v1.1, .int v1.2, .retAddr 0], [], h))) (E' := (fun (r1 : Int32 × Int32) => am_Ev m_M_deficitOf (WM ++ e1) ro P (63, [.ref 0, .int a1, .int a2, .int a3, .int r1.1, .int r1.2, .retAddr 0], [], h))) (s_M_deficitOf_6 h a1 a2 a3) (ps_M_deficitOf_6 h a1 a2 a3) ?_ NF (0, 0) hpl ?_
  · intro v1 hp hc1 hx1
    show am_Ev m_M_deficitOf (WM ++ e1) ro P (6, [.ref 0, .int a1, .int a2, .int a3, .int v1.1, .int v1.2, .retAddr 0], [], h)
    unfold ps_M_deficitOf_6 at hp
    refine am_Ev_G [18, 63] 400 _ ?_
    show ((¬ v1.2 < a3 → am_Ev m_M_deficitOf (WM ++ e1) ro P (63, [.ref 0, .int a1, .int a2, .int a3, .int v1.1, .int v1.2, .retAddr 0], [], h)) ∧ (v1.2 < a3 → ((p_M_isRun h v1.2) ∧ am_Ev m_M_deficitOf (WM ++ e1) ro P (18, [.ref 0, .int a1, .int a2, .int a3, .int v1.1, .int v1.2, .retAddr 0], [.int (v_M_isRun h v1.2)], h))))
    refine ⟨fun c1 => ?_, fun c1 => ?_⟩
    · skip
      exact hx1 (v1.1, v1.2) (by unfold s_M_deficitOf_6; simp only [if_neg c1])
    · have hp := hp.1 c1
      obtain ⟨hob, hp⟩ := hp
      refine ⟨hob, ?_⟩
      have hpa := hp
      have key2 : am_Ev m_M_deficitOf (WM ++ e1) ro P (39, [.ref 0, .int a1, .int a2, .int a3, .int v1.1, .int v1.2, .retAddr 0], [.int (if (v_M_isRun h v1.2) = 0 then (0 : Int32) else (v_M_lacking h a1 a2 (v_M_of h v1.2 3) a3))], h) := by
        refine am_Ev_G [45] 400 _ ?_
        show am_Ev m_M_deficitOf (WM ++ e1) ro P (45, [.ref 0, .int a1, .int a2, .int a3, .int v1.1, .int v1.2, .int (if (v_M_isRun h v1.2) = 0 then (0 : Int32) else (v_M_lacking h a1 a2 (v_M_of h v1.2 3) a3))], [.int v1.1, .int (if (v_M_isRun h v1.2) = 0 then (0 : Int32) else (v_M_lacking h a1 a2 (v_M_of h v1.2 3) a3))], h)
        have key3 : am_Ev m_M_deficitOf (WM ++ e1) ro P (55, [.ref 0, .int a1, .int a2, .int a3, .int v1.1, .int v1.2, .int (if (v_M_isRun h v1.2) = 0 then (0 : Int32) else (v_M_lacking h a1 a2 (v_M_of h v1.2 3) a3))], [.int (if ((if (v_M_isRun h v1.2) = 0 then (0 : Int32) else (v_M_lacking h a1 a2 (v_M_of h v1.2 3) a3)) : Int32) ≤ v1.1 then v1.1 else (if (v_M_isRun h v1.2) = 0 then (0 : Int32) else (v_M_lacking h a1 a2 (v_M_of h v1.2 3) a3)))], h) := by
          refine am_Ev_G [6] 400 _ ?_
          show am_Ev m_M_deficitOf (WM ++ e1) ro P (6, [.ref 0, .int a1, .int a2, .int a3, .int (if ((if (v_M_isRun h v1.2) = 0 then (0 : Int32) else (v_M_lacking h a1 a2 (v_M_of h v1.2 3) a3)) : Int32) ≤ v1.1 then v1.1 else (if (v_M_isRun h v1.2) = 0 then (0 : Int32) else (v_M_lacking h a1 a2 (v_M_of h v1.2 3) a3))), .int (v1.2 + 1), .int (if (v_M_isRun h v1.2) = 0 then (0 : Int32) else (v_M_lacking h a1 a2 (v_M_of h v1.2 3) a3))], [], h)
          refine am_fg 6 ?_
          exact hc1 ((if ((if (v_M_isRun h v1.2) = 0 then (0 : Int32) else (v_M_lacking h a1 a2 (v_M_of h v1.2 3) a3)) : Int32) ≤ v1.1 then v1.1 else (if (v_M_isRun h v1.2) = 0 then (0 : Int32) else (v_M_lacking h a1 a2 (v_M_of h v1.2 3) a3))), (v1.2 + 1)) (by unfold s_M_deficitOf_6; simp only [if_pos c1])
        refine am_Ev_G [55] 400 _ ?_
        show ((((if (v_M_isRun h v1.2) = 0 then (0 : Int32) else (v_M_lacking h a1 a2 (v_M_of h v1.2 3) a3)) : Int32) ≤ v1.1 → am_Ev m_M_deficitOf (WM ++ e1) ro P (55, [.ref 0, .int a1, .int a2, .int a3, .int v1.1, .int v1.2, .int (if (v_M_isRun h v1.2) = 0 then (0 : Int32) else (v_M_lacking h a1 a2 (v_M_of h v1.2 3) a3))], [.int v1.1], h)) ∧ (¬ ((if (v_M_isRun h v1.2) = 0 then (0 : Int32) else (v_M_lacking h a1 a2 (v_M_of h v1.2 3) a3)) : Int32) ≤ v1.1 → am_Ev m_M_deficitOf (WM ++ e1) ro P (55, [.ref 0, .int a1, .int a2, .int a3, .int v1.1, .int v1.2, .int (if (v_M_isRun h v1.2) = 0 then (0 : Int32) else (v_M_lacking h a1 a2 (v_M_of h v1.2 3) a3))], [.int (if (v_M_isRun h v1.2) = 0 then (0 : Int32) else (v_M_lacking h a1 a2 (v_M_of h v1.2 3) a3))], h)))
        refine ⟨fun c4 => ?_, fun c4 => ?_⟩
        · skip
          simpa only [if_pos c4] using key3
        · skip
          simpa only [if_neg c4] using key3
      have hp := hpa
      refine am_Ev_G [39] 400 _ ?_
      show (((v_M_isRun h v1.2) = 0 → am_Ev m_M_deficitOf (WM ++ e1) ro P (39, [.ref 0, .int a1, .int a2, .int a3, .int v1.1, .int v1.2, .retAddr 0], [.int 0], h)) ∧ (¬ (v_M_isRun h v1.2) = 0 → ((p_M_of h v1.2 3) ∧ ((p_M_lacking h a1 a2 (v_M_of h v1.2 3) a3) ∧ am_Ev m_M_deficitOf (WM ++ e1) ro P (39, [.ref 0, .int a1, .int a2, .int a3, .int v1.1, .int v1.2, .retAddr 0], [.int (v_M_lacking h a1 a2 (v_M_of h v1.2 3) a3)], h)))))
      refine ⟨fun c5 => ?_, fun c5 => ?_⟩
      · skip
        simpa only [if_pos c5] using key2
      · have hp := hp.2 c5
        obtain ⟨hob, hp⟩ := hp
        refine ⟨hob, ?_⟩
        refine ⟨hp, ?_⟩
        simpa only [if_neg c5] using key2
  · intro r1 hr6
    show am_Ev m_M_deficitOf (WM ++ e1) ro P (63, [.ref 0, .int a1, .int a2, .int a3, .int r1.1, .int r1.2, .retAddr 0], [], h)
    refine am_Ev_G [] 400 _ ?_
    show P (.inl (some (.int r1.1))) h
    exact hP r1.1 (by unfold v_M_deficitOf; simp only [hr6])
theorem ok_M_deficitOf {l : Launch} (hl : l.stackTraces = false) (e1 ro : List Sh) (k : Nat) : am_Ok l (WM ++ e1) ro (d_M_deficitOf k) := by
  refine am_met hl (own := RX6) (M := m_M_deficitOf) rfl pf_M_deficitOf cu_M_deficitOf rfl rfl rfl rfl (fun _ => rfl) rfl ⟨chk_M_deficitOf, (am_n), (am_c (lk_M_49) (am_c (lk_M_60) (am_c (lk_M_103) am_n))), (am_n), (am_n)⟩ (am_n) (am_c (ok_M_of hl e1 _ 16) (am_c (ok_M_isRun hl e1 _ 16) (am_c (ok_M_lacking hl e1 _ 16) am_n))) (fun z => nomatch z) ?_ ?_
  · intro _ as h hg
    show g_thr (g_M_deficitOf (WM ++ e1) ro as h) = none
    unfold g_M_deficitOf
    split <;> rfl
  · intro as h hg hp
    revert hg hp
    show g_ok (g_M_deficitOf (WM ++ e1) ro as h) = true → g_pre (g_M_deficitOf (WM ++ e1) ro as h) → _ ∧ am_Ev m_M_deficitOf (WM ++ e1) ro (am_eq (g_M_deficitOf (WM ++ e1) ro as h)) (0, am_ent as 7, [], h)
    unfold g_M_deficitOf
    split
    · rename_i o1 a1 a2 a3
      intro hc hp
      change (Nat.beq o1 0) = true at hc
      obtain rfl := am_beq hc
      exact ⟨Nat.le_of_ble_eq_true rfl, ev_M_deficitOf h a1 a2 a3 hp eqRI⟩
    · exact fun z => nomatch z
def k_M_deficit (pc : Nat) : Ent := bif Nat.ble 51 pc then am_nop else bif Nat.ble 27 pc then (bif Nat.ble 38 pc then (bif Nat.ble 44 pc then (bif Nat.ble 46 pc then (bif Nat.ble 49 pc then (bif Nat.ble 50 pc then (bif Nat.beq pc 50 then (.ireturn, 0, 0, []) else am_nop) else (bif Nat.beq pc 49 then (.iadd, 0, 0, []) else am_nop)) else (bif Nat.beq pc 46 then (.invokevirtual 107, 0, 0, []) else am_nop)) else (bif Nat.ble 45 pc then (bif Nat.beq pc 45 then (.iload_n 2, 0, 2, []) else am_nop) else (bif Nat.beq pc 44 then (.iconst 3, 3, 0, []) else am_nop))) else (bif Nat.ble 42 pc then (bif Nat.ble 43 pc then (bif Nat.beq pc 43 then (.iload_n 1, 0, 1, []) else am_nop) else (bif Nat.beq pc 42 then (.aload_n 0, 0, 0, []) else am_nop)) else (bif Nat.ble 41 pc then (bif Nat.beq pc 41 then (.iadd, 0, 0, []) else am_nop) else (bif Nat.beq pc 38 then (.invokevirtual 107, 0, 0, []) else am_nop)))) else (bif Nat.ble 33 pc then (bif Nat.ble 35 pc then (bif Nat.ble 36 pc then (bif Nat.ble 37 pc then (bif Nat.beq pc 37 then (.iload_n 2, 0, 2, []) else am_nop) else (bif Nat.beq pc 36 then (.iconst 2, 2, 0, []) else am_nop)) else (bif Nat.beq pc 35 then (.iload_n 1, 0, 1, []) else am_nop)) else (bif Nat.ble 34 pc then (bif Nat.beq pc 34 then (.aload_n 0, 0, 0, []) else am_nop) else (bif Nat.beq pc 33 then (.iadd, 0, 0, []) else am_nop))) else (bif Nat.ble 29 pc then (bif Nat.ble 30 pc then (bif Nat.beq pc 30 then (.invokevirtual 107, 0, 0, []) else am_nop) else (bif Nat.beq pc 29 then (.iload_n 2, 0, 2, []) else am_nop)) else (bif Nat.ble 28 pc then (bif Nat.beq pc 28 then (.iconst 1, 1, 0, []) else am_nop) else (bif Nat.beq pc 27 then (.iload_n 1, 0, 1, []) else am_nop))))) else (bif Nat.ble 14 pc then (bif Nat.ble 20 pc then (bif Nat.ble 22 pc then (bif Nat.ble 23 pc then (bif Nat.ble 26 pc then (bif Nat.beq pc 26 then (.aload_n 0, 0, 0, []) else am_nop) else (bif Nat.beq pc 23 then (.invokevirtual 107, 0, 0, []) else am_nop)) else (bif Nat.beq pc 22 then (.iload_n 2, 0, 2, []) else am_nop)) else (bif Nat.ble 21 pc then (bif Nat.beq pc 21 then (.iconst 0, 0, 0, []) else am_nop) else (bif Nat.beq pc 20 then (.iload_n 1, 0, 1, []) else am_nop))) else (bif Nat.ble 18 pc then (bif Nat.ble 19 pc then (bif Nat.beq pc 19 then (.aload_n 0, 0, 0, []) else am_nop) else (bif Nat.beq pc 18 then (.ireturn, 0, 0, []) else am_nop)) else (bif Nat.ble 15 pc then (bif Nat.beq pc 15 then (.invokevirtual 107, 0, 0, []) else am_nop) else (bif Nat.beq pc 14 then (.iload_n 2, 0, 2, []) else am_nop)))) else (bif Nat.ble 7 pc then (bif Nat.ble 11 pc then (bif Nat.ble 12 pc then (bif Nat.ble 13 pc then (bif Nat.beq pc 13 then (.iconst (-1), (-1 : Int32), 0, []) else am_nop) else (bif Nat.beq pc 12 then (.iload_n 1, 0, 1, []) else am_nop)) else (bif Nat.beq pc 11 then (.aload_n 0, 0, 0, []) else am_nop)) else (bif Nat.ble 8 pc then (bif Nat.beq pc 8 then (.if_icmp .ne 11, 0, 19, []) else am_nop) else (bif Nat.beq pc 7 then (.iconst 1, 1, 0, []) else am_nop))) else (bif Nat.ble 4 pc then (bif Nat.ble 6 pc then (bif Nat.beq pc 6 then (.iaload, 0, 0, []) else am_nop) else (bif Nat.beq pc 4 then (.bipush 8, 8, 0, []) else am_nop)) else (bif Nat.ble 1 pc then (bif Nat.beq pc 1 then (.getfield 7, 0, 0, []) else am_nop) else (bif Nat.beq pc 0 then (.aload_n 0, 0, 0, []) else am_nop)))))
theorem lk_M_107 : am_lnk RX6 107 (d_M_deficitOf 16) := ⟨⟨by decide, by decide⟩, am_tb 8 (by decide +kernel) rfl, Or.inr ⟨by decide, rfl, am_tb 1139 (by decide +kernel) rfl, am_tp 98 (by decide +kernel) rfl, ⟨TX6, 16, rfl⟩, Or.inl (am_tb 1137 (by decide +kernel) rfl)⟩⟩
def m_M_deficit : MI := (k_M_deficit, [(7, 6, 0)], [(107, d_M_deficitOf 16)], [], [], [], [], 5, 117, some .int, fun _ => 0, 1)
def v_M_deficit (h : HP) (a1 : Int32) (a2 : Int32) : Int32 := (if (h.1 1 (am_ix 8)) = 1 then (v_M_deficitOf h a1 (-1 : Int32) a2) else ((((v_M_deficitOf h a1 0 a2) + (v_M_deficitOf h a1 1 a2)) + (v_M_deficitOf h a1 2 a2)) + (v_M_deficitOf h a1 3 a2)))
def p_M_deficit (h : HP) (a1 : Int32) (a2 : Int32) : Prop := (((h.1 1 (am_ix 8)) = 1 → (p_M_deficitOf h a1 (-1 : Int32) a2)) ∧ (¬ (h.1 1 (am_ix 8)) = 1 → ((p_M_deficitOf h a1 0 a2) ∧ ((p_M_deficitOf h a1 1 a2) ∧ ((p_M_deficitOf h a1 2 a2) ∧ (p_M_deficitOf h a1 3 a2))))))
def g_M_deficit (_ _ : List Sh) (as : List Value) (h : HP) : GR := match as with
  | [.ref o1, .int a1, .int a2] => (Nat.beq o1 0, p_M_deficit h a1 a2, none, some (.int (v_M_deficit h a1 a2)), h)
  | _ => bad h
def d_M_deficit (k : Nat) : CD := (k, yX6_deficit, cX6_deficit, 3, some .int, 3, 5, 117, 0, false, true, g_M_deficit)
theorem chk_M_deficit : ∀ pc, am_chk cX6_deficit k_M_deficit pc = true := am_chkall 51 (by decide +kernel) (fun pc h => by unfold k_M_deficit; rw [Nat.ble_eq_true_of_le h]; rfl)
theorem pf_M_deficit : plainFor yX6_deficit = true := by decide +kernel
theorem cu_M_deficit : Cond.code yX6_deficit cX6_deficit 3 (some .int) ∈ am_U := am_tb 1136 (by decide +kernel) rfl
set_option maxHeartbeats 20000000 in
set_option maxRecDepth 100000 in
theorem ev_M_deficit {e1 ro : List Sh} {P : AR → HP → Prop} (h : HP) (a1 : Int32) (a2 : Int32) (hp : p_M_deficit h a1 a2) (hP : ∀ q, v_M_deficit h a1 a2 = q → RI P h q) : am_Ev m_M_deficit (WM ++ e1) ro P (0, [.ref 0, .int a1, .int a2], [], h) := by
  unfold p_M_deficit at hp
  refine am_Ev_G [18, 33] 400 _ ?_
  show ((am_in 8 163) ∧ ((¬ (h.1 1 (am_ix 8)) = 1 → ((p_M_deficitOf h a1 0 a2) ∧ ((p_M_deficitOf h a1 1 a2) ∧ am_Ev m_M_deficit (WM ++ e1) ro P (33, [.ref 0, .int a1, .int a2], [.int (v_M_deficitOf h a1 1 a2), .int (v_M_deficitOf h a1 0 a2)], h)))) ∧ ((h.1 1 (am_ix 8)) = 1 → ((p_M_deficitOf h a1 (-1 : Int32) a2) ∧ am_Ev m_M_deficit (WM ++ e1) ro P (18, [.ref 0, .int a1, .int a2], [.int (v_M_deficitOf h a1 (-1 : Int32) a2)], h)))))
  refine ⟨⟨by decide, by decide⟩, ?_⟩
  refine ⟨fun c1 => ?_, fun c1 => ?_⟩
  · have hp := hp.2 c1
    obtain ⟨hob, hp⟩ := hp
    refine ⟨hob, ?_⟩
    obtain ⟨hob, hp⟩ := hp
    refine ⟨hob, ?_⟩
    refine am_Ev_G [49] 400 _ ?_
    show ((p_M_deficitOf h a1 2 a2) ∧ ((p_M_deficitOf h a1 3 a2) ∧ am_Ev m_M_deficit (WM ++ e1) ro P (49, [.ref 0, .int a1, .int a2], [.int (v_M_deficitOf h a1 3 a2), .int (((v_M_deficitOf h a1 0 a2) + (v_M_deficitOf h a1 1 a2)) + (v_M_deficitOf h a1 2 a2))], h)))
    obtain ⟨hob, hp⟩ := hp
    refine ⟨hob, ?_⟩
    refine ⟨hp, ?_⟩
    refine am_Ev_G [] 400 _ ?_
    show P (.inl (some (.int ((((v_M_deficitOf h a1 0 a2) + (v_M_deficitOf h a1 1 a2)) + (v_M_deficitOf h a1 2 a2)) + (v_M_deficitOf h a1 3 a2))))) h
    exact hP ((((v_M_deficitOf h a1 0 a2) + (v_M_deficitOf h a1 1 a2)) + (v_M_deficitOf h a1 2 a2)) + (v_M_deficitOf h a1 3 a2)) (by unfold v_M_deficit; simp only [if_neg c1])
  · have hp := hp.1 c1
    refine ⟨hp, ?_⟩
    refine am_Ev_G [] 400 _ ?_
    show P (.inl (some (.int (v_M_deficitOf h a1 (-1 : Int32) a2)))) h
    exact hP (v_M_deficitOf h a1 (-1 : Int32) a2) (by unfold v_M_deficit; simp only [if_pos c1])
theorem ok_M_deficit {l : Launch} (hl : l.stackTraces = false) (e1 ro : List Sh) (k : Nat) : am_Ok l (WM ++ e1) ro (d_M_deficit k) := by
  refine am_met hl (own := RX6) (M := m_M_deficit) rfl pf_M_deficit cu_M_deficit rfl rfl rfl rfl (fun _ => rfl) rfl ⟨chk_M_deficit, (am_c (fl_M_7) am_n), (am_c (lk_M_107) am_n), (am_n), (am_n)⟩ (am_n) (am_c (ok_M_deficitOf hl e1 _ 16) am_n) (fun z => nomatch z) ?_ ?_
  · intro _ as h hg
    show g_thr (g_M_deficit (WM ++ e1) ro as h) = none
    unfold g_M_deficit
    split <;> rfl
  · intro as h hg hp
    revert hg hp
    show g_ok (g_M_deficit (WM ++ e1) ro as h) = true → g_pre (g_M_deficit (WM ++ e1) ro as h) → _ ∧ am_Ev m_M_deficit (WM ++ e1) ro (am_eq (g_M_deficit (WM ++ e1) ro as h)) (0, am_ent as 3, [], h)
    unfold g_M_deficit
    split
    · rename_i o1 a1 a2
      intro hc hp
      change (Nat.beq o1 0) = true at hc
      obtain rfl := am_beq hc
      exact ⟨Nat.le_of_ble_eq_true rfl, ev_M_deficit h a1 a2 hp eqRI⟩
    · exact fun z => nomatch z
def k_M_byDeficits (pc : Nat) : Ent := bif Nat.ble 28 pc then am_nop else bif Nat.ble 14 pc then (bif Nat.ble 21 pc then (bif Nat.ble 23 pc then (bif Nat.ble 26 pc then (bif Nat.ble 27 pc then (bif Nat.beq pc 27 then (.ireturn, 0, 0, []) else am_nop) else (bif Nat.beq pc 26 then (.iadd, 0, 0, []) else am_nop)) else (bif Nat.beq pc 23 then (.invokevirtual 111, 0, 0, []) else am_nop)) else (bif Nat.ble 22 pc then (bif Nat.beq pc 22 then (.iload_n 1, 0, 1, []) else am_nop) else (bif Nat.beq pc 21 then (.iconst 3, 3, 0, []) else am_nop))) else (bif Nat.ble 16 pc then (bif Nat.ble 19 pc then (bif Nat.ble 20 pc then (bif Nat.beq pc 20 then (.aload_n 0, 0, 0, []) else am_nop) else (bif Nat.beq pc 19 then (.iadd, 0, 0, []) else am_nop)) else (bif Nat.beq pc 16 then (.invokevirtual 111, 0, 0, []) else am_nop)) else (bif Nat.ble 15 pc then (bif Nat.beq pc 15 then (.iload_n 1, 0, 1, []) else am_nop) else (bif Nat.beq pc 14 then (.iconst 2, 2, 0, []) else am_nop)))) else (bif Nat.ble 7 pc then (bif Nat.ble 9 pc then (bif Nat.ble 12 pc then (bif Nat.ble 13 pc then (bif Nat.beq pc 13 then (.aload_n 0, 0, 0, []) else am_nop) else (bif Nat.beq pc 12 then (.iadd, 0, 0, []) else am_nop)) else (bif Nat.beq pc 9 then (.invokevirtual 111, 0, 0, []) else am_nop)) else (bif Nat.ble 8 pc then (bif Nat.beq pc 8 then (.iload_n 1, 0, 1, []) else am_nop) else (bif Nat.beq pc 7 then (.iconst 1, 1, 0, []) else am_nop))) else (bif Nat.ble 2 pc then (bif Nat.ble 3 pc then (bif Nat.ble 6 pc then (bif Nat.beq pc 6 then (.aload_n 0, 0, 0, []) else am_nop) else (bif Nat.beq pc 3 then (.invokevirtual 111, 0, 0, []) else am_nop)) else (bif Nat.beq pc 2 then (.iload_n 1, 0, 1, []) else am_nop)) else (bif Nat.ble 1 pc then (bif Nat.beq pc 1 then (.iconst 0, 0, 0, []) else am_nop) else (bif Nat.beq pc 0 then (.aload_n 0, 0, 0, []) else am_nop))))
theorem lk_M_111 : am_lnk RX6 111 (d_M_deficit 16) := ⟨⟨by decide, by decide⟩, am_tb 8 (by decide +kernel) rfl, Or.inr ⟨by decide, rfl, am_tb 1135 (by decide +kernel) rfl, am_tp 97 (by decide +kernel) rfl, ⟨TX6, 16, rfl⟩, Or.inl (am_tb 1133 (by decide +kernel) rfl)⟩⟩
def m_M_byDeficits : MI := (k_M_byDeficits, [], [(111, d_M_deficit 16)], [], [], [], [], 6, 139, some .int, fun _ => 0, 1)
def v_M_byDeficits (h : HP) (a1 : Int32) : Int32 := ((((v_M_deficit h 0 a1) + (v_M_deficit h 1 a1)) + (v_M_deficit h 2 a1)) + (v_M_deficit h 3 a1))
def p_M_byDeficits (h : HP) (a1 : Int32) : Prop := ((p_M_deficit h 0 a1) ∧ ((p_M_deficit h 1 a1) ∧ ((p_M_deficit h 2 a1) ∧ (p_M_deficit h 3 a1))))
def g_M_byDeficits (_ _ : List Sh) (as : List Value) (h : HP) : GR := match as with
  | [.ref o1, .int a1] => (Nat.beq o1 0, p_M_byDeficits h a1, none, some (.int (v_M_byDeficits h a1)), h)
  | _ => bad h
def d_M_byDeficits (k : Nat) : CD := (k, yX6_byDeficits, cX6_byDeficits, 2, some .int, 2, 6, 139, 0, false, true, g_M_byDeficits)
theorem chk_M_byDeficits : ∀ pc, am_chk cX6_byDeficits k_M_byDeficits pc = true := am_chkall 28 (by decide +kernel) (fun pc h => by unfold k_M_byDeficits; rw [Nat.ble_eq_true_of_le h]; rfl)
theorem pf_M_byDeficits : plainFor yX6_byDeficits = true := by decide +kernel
theorem cu_M_byDeficits : Cond.code yX6_byDeficits cX6_byDeficits 2 (some .int) ∈ am_U := am_tb 1244 (by decide +kernel) rfl
set_option maxHeartbeats 20000000 in
set_option maxRecDepth 100000 in
theorem ev_M_byDeficits {e1 ro : List Sh} {P : AR → HP → Prop} (h : HP) (a1 : Int32) (hp : p_M_byDeficits h a1) (hP : ∀ q, v_M_byDeficits h a1 = q → RI P h q) : am_Ev m_M_byDeficits (WM ++ e1) ro P (0, [.ref 0, .int a1], [], h) := by
  unfold p_M_byDeficits at hp
  refine am_Ev_G [12] 400 _ ?_
  show ((p_M_deficit h 0 a1) ∧ ((p_M_deficit h 1 a1) ∧ am_Ev m_M_byDeficits (WM ++ e1) ro P (12, [.ref 0, .int a1], [.int (v_M_deficit h 1 a1), .int (v_M_deficit h 0 a1)], h)))
  obtain ⟨hob, hp⟩ := hp
  refine ⟨hob, ?_⟩
  obtain ⟨hob, hp⟩ := hp
  refine ⟨hob, ?_⟩
  refine am_Ev_G [26] 400 _ ?_
  show ((p_M_deficit h 2 a1) ∧ ((p_M_deficit h 3 a1) ∧ am_Ev m_M_byDeficits (WM ++ e1) ro P (26, [.ref 0, .int a1], [.int (v_M_deficit h 3 a1), .int (((v_M_deficit h 0 a1) + (v_M_deficit h 1 a1)) + (v_M_deficit h 2 a1))], h)))
  obtain ⟨hob, hp⟩ := hp
  refine ⟨hob, ?_⟩
  refine ⟨hp, ?_⟩
  refine am_Ev_G [] 400 _ ?_
  show P (.inl (some (.int ((((v_M_deficit h 0 a1) + (v_M_deficit h 1 a1)) + (v_M_deficit h 2 a1)) + (v_M_deficit h 3 a1))))) h
  exact hP ((((v_M_deficit h 0 a1) + (v_M_deficit h 1 a1)) + (v_M_deficit h 2 a1)) + (v_M_deficit h 3 a1)) rfl
theorem ok_M_byDeficits {l : Launch} (hl : l.stackTraces = false) (e1 ro : List Sh) (k : Nat) : am_Ok l (WM ++ e1) ro (d_M_byDeficits k) := by
  refine am_met hl (own := RX6) (M := m_M_byDeficits) rfl pf_M_byDeficits cu_M_byDeficits rfl rfl rfl rfl (fun _ => rfl) rfl ⟨chk_M_byDeficits, (am_n), (am_c (lk_M_111) am_n), (am_n), (am_n)⟩ (am_n) (am_c (ok_M_deficit hl e1 _ 16) am_n) (fun z => nomatch z) ?_ ?_
  · intro _ as h hg
    show g_thr (g_M_byDeficits (WM ++ e1) ro as h) = none
    unfold g_M_byDeficits
    split <;> rfl
  · intro as h hg hp
    revert hg hp
    show g_ok (g_M_byDeficits (WM ++ e1) ro as h) = true → g_pre (g_M_byDeficits (WM ++ e1) ro as h) → _ ∧ am_Ev m_M_byDeficits (WM ++ e1) ro (am_eq (g_M_byDeficits (WM ++ e1) ro as h)) (0, am_ent as 2, [], h)
    unfold g_M_byDeficits
    split
    · rename_i o1 a1
      intro hc hp
      change (Nat.beq o1 0) = true at hc
      obtain rfl := am_beq hc
      exact ⟨Nat.le_of_ble_eq_true rfl, ev_M_byDeficits h a1 hp eqRI⟩
    · exact fun z => nomatch z
def k_M_endOf (pc : Nat) : Ent := bif Nat.ble 74 pc then am_nop else bif Nat.ble 36 pc then (bif Nat.ble 54 pc then (bif Nat.ble 64 pc then (bif Nat.ble 69 pc then (bif Nat.ble 72 pc then (bif Nat.ble 73 pc then (bif Nat.beq pc 73 then (.ireturn, 0, 0, []) else am_nop) else (bif Nat.beq pc 72 then (.iload_n 2, 0, 2, []) else am_nop)) else (bif Nat.beq pc 69 then (.goto (-65), 0, 4, []) else am_nop)) else (bif Nat.ble 65 pc then (bif Nat.ble 68 pc then (bif Nat.beq pc 68 then (.istore_n 3, 0, 3, []) else am_nop) else (bif Nat.beq pc 65 then (.invokevirtual 57, 0, 0, []) else am_nop)) else (bif Nat.beq pc 64 then (.iload_n 3, 0, 3, []) else am_nop))) else (bif Nat.ble 61 pc then (bif Nat.ble 62 pc then (bif Nat.ble 63 pc then (bif Nat.beq pc 63 then (.aload_n 0, 0, 0, []) else am_nop) else (bif Nat.beq pc 62 then (.istore_n 2, 0, 2, []) else am_nop)) else (bif Nat.beq pc 61 then (.iload_n 2, 0, 2, []) else am_nop)) else (bif Nat.ble 57 pc then (bif Nat.ble 58 pc then (bif Nat.beq pc 58 then (.goto 4, 0, 62, []) else am_nop) else (bif Nat.beq pc 57 then (.iload_n 3, 0, 3, []) else am_nop)) else (bif Nat.beq pc 54 then (.if_icmp .ne 7, 0, 61, []) else am_nop)))) else (bif Nat.ble 46 pc then (bif Nat.ble 51 pc then (bif Nat.ble 52 pc then (bif Nat.ble 53 pc then (bif Nat.beq pc 53 then (.iconst 1, 1, 0, []) else am_nop) else (bif Nat.beq pc 52 then (.iaload, 0, 0, []) else am_nop)) else (bif Nat.beq pc 51 then (.iadd, 0, 0, []) else am_nop)) else (bif Nat.ble 47 pc then (bif Nat.ble 48 pc then (bif Nat.beq pc 48 then (.invokevirtual 49, 0, 0, []) else am_nop) else (bif Nat.beq pc 47 then (.iconst 2, 2, 0, []) else am_nop)) else (bif Nat.beq pc 46 then (.iload_n 3, 0, 3, []) else am_nop))) else (bif Nat.ble 41 pc then (bif Nat.ble 44 pc then (bif Nat.ble 45 pc then (bif Nat.beq pc 45 then (.aload_n 0, 0, 0, []) else am_nop) else (bif Nat.beq pc 44 then (.iconst 4, 4, 0, []) else am_nop)) else (bif Nat.beq pc 41 then (.getfield 7, 0, 0, []) else am_nop)) else (bif Nat.ble 37 pc then (bif Nat.ble 40 pc then (bif Nat.beq pc 40 then (.aload_n 0, 0, 0, []) else am_nop) else (bif Nat.beq pc 37 then (.if_icmp .eq 20, 0, 57, []) else am_nop)) else (bif Nat.beq pc 36 then (.iconst (-1), (-1 : Int32), 0, []) else am_nop))))) else (bif Nat.ble 15 pc then (bif Nat.ble 25 pc then (bif Nat.ble 31 pc then (bif Nat.ble 32 pc then (bif Nat.ble 33 pc then (bif Nat.beq pc 33 then (.invokevirtual 57, 0, 0, []) else am_nop) else (bif Nat.beq pc 32 then (.iload_n 3, 0, 3, []) else am_nop)) else (bif Nat.beq pc 31 then (.aload_n 0, 0, 0, []) else am_nop)) else (bif Nat.ble 27 pc then (bif Nat.ble 28 pc then (bif Nat.beq pc 28 then (.if_icmp .gt 44, 0, 72, []) else am_nop) else (bif Nat.beq pc 27 then (.iaload, 0, 0, []) else am_nop)) else (bif Nat.beq pc 25 then (.bipush 9, 9, 0, []) else am_nop))) else (bif Nat.ble 20 pc then (bif Nat.ble 21 pc then (bif Nat.ble 22 pc then (bif Nat.beq pc 22 then (.getfield 7, 0, 0, []) else am_nop) else (bif Nat.beq pc 21 then (.aload_n 0, 0, 0, []) else am_nop)) else (bif Nat.beq pc 20 then (.isub, 0, 0, []) else am_nop)) else (bif Nat.ble 16 pc then (bif Nat.ble 17 pc then (bif Nat.beq pc 17 then (.invokevirtual 49, 0, 0, []) else am_nop) else (bif Nat.beq pc 16 then (.iconst 3, 3, 0, []) else am_nop)) else (bif Nat.beq pc 15 then (.iload_n 1, 0, 1, []) else am_nop)))) else (bif Nat.ble 5 pc then (bif Nat.ble 10 pc then (bif Nat.ble 11 pc then (bif Nat.ble 14 pc then (bif Nat.beq pc 14 then (.aload_n 0, 0, 0, []) else am_nop) else (bif Nat.beq pc 11 then (.invokevirtual 53, 0, 0, []) else am_nop)) else (bif Nat.beq pc 10 then (.iload_n 3, 0, 3, []) else am_nop)) else (bif Nat.ble 6 pc then (bif Nat.ble 9 pc then (bif Nat.beq pc 9 then (.aload_n 0, 0, 0, []) else am_nop) else (bif Nat.beq pc 6 then (.if_icmp .eq 66, 0, 72, []) else am_nop)) else (bif Nat.beq pc 5 then (.iconst (-1), (-1 : Int32), 0, []) else am_nop))) else (bif Nat.ble 2 pc then (bif Nat.ble 3 pc then (bif Nat.ble 4 pc then (bif Nat.beq pc 4 then (.iload_n 3, 0, 3, []) else am_nop) else (bif Nat.beq pc 3 then (.istore_n 3, 0, 3, []) else am_nop)) else (bif Nat.beq pc 2 then (.iload_n 1, 0, 1, []) else am_nop)) else (bif Nat.ble 1 pc then (bif Nat.beq pc 1 then (.istore_n 2, 0, 2, []) else am_nop) else (bif Nat.beq pc 0 then (.iconst (-1), (-1 : Int32), 0, []) else am_nop)))))
def m_M_endOf : MI := (k_M_endOf, [(7, 6, 0)], [(49, d_M_of 16), (53, d_M_arrival 16), (57, d_M_next 16)], [], [], [], [], 2, 43, some .int, fun _ => 0, 1)
def s_M_endOf_4 (h : HP) (a1 : Int32) (v1 : Int32 × Int32) : (Int32 × Int32) ⊕ (Int32 × Int32) := (if v1.2 = (-1 : Int32) then (.inr (v1.1, v1.2)) else (if ((v_M_arrival h v1.2) - (v_M_of h a1 3)) ≤ (h.1 1 (am_ix 9)) then (.inl ((if (v_M_next h v1.2) = (-1 : Int32) then v1.2 else (if (h.1 1 (am_ix (4 + (v_M_of h v1.2 2)))) = 1 then v1.2 else v1.1)), (v_M_next h v1.2))) else (.inr (v1.1, v1.2))))
def ps_M_endOf_4 (h : HP) (a1 : Int32) (v1 : Int32 × Int32) : Prop := ((v1.2 = (-1 : Int32) → True) ∧ (¬ v1.2 = (-1 : Int32) → ((p_M_arrival h v1.2) ∧ ((p_M_of h a1 3) ∧ ((((v_M_arrival h v1.2) - (v_M_of h a1 3)) ≤ (h.1 1 (am_ix 9)) → ((p_M_next h v1.2) ∧ ((((v_M_next h v1.2) = (-1 : Int32) → True) ∧ (¬ (v_M_next h v1.2) = (-1 : Int32) → ((p_M_of h v1.2 2) ∧ (am_in (4 + (v_M_of h v1.2 2)) 163)))) ∧ (p_M_next h v1.2)))) ∧ (¬ ((v_M_arrival h v1.2) - (v_M_of h a1 3)) ≤ (h.1 1 (am_ix 9)) → True))))))
def v_M_endOf (h : HP) (a1 : Int32) : Int32 := (match itr (s_M_endOf_4 h a1) NF ((-1 : Int32), a1) with | some r1 => r1.1 | none => 0)
def p_M_endOf (h : HP) (a1 : Int32) : Prop := (itrp (s_M_endOf_4 h a1) (ps_M_endOf_4 h a1) NF ((-1 : Int32), a1))
def g_M_endOf (_ _ : List Sh) (as : List Value) (h : HP) : GR := match as with
  | [.ref o1, .int a1] => (Nat.beq o1 0, p_M_endOf h a1, none, some (.int (v_M_endOf h a1)), h)
  | _ => bad h
def d_M_endOf (k : Nat) : CD := (k, yX6_endOf, cX6_endOf, 4, some .int, 2, 2, 43, 0, false, true, g_M_endOf)
theorem chk_M_endOf : ∀ pc, am_chk cX6_endOf k_M_endOf pc = true := am_chkall 74 (by decide +kernel) (fun pc h => by unfold k_M_endOf; rw [Nat.ble_eq_true_of_le h]; rfl)
theorem pf_M_endOf : plainFor yX6_endOf = true := by decide +kernel
theorem cu_M_endOf : Cond.code yX6_endOf cX6_endOf 4 (some .int) ∈ am_U := am_tb 1208 (by decide +kernel) rfl
set_option maxHeartbeats 20000000 in
set_option maxRecDepth 100000 in
theorem ev_M_endOf {e1 ro : List Sh} {P : AR → HP → Prop} (h : HP) (a1 : Int32) (hp : p_M_endOf h a1) (hP : ∀ q, v_M_endOf h a1 = q → RI P h q) : am_Ev m_M_endOf (WM ++ e1) ro P (0, [.ref 0, .int a1, .retAddr 0, .retAddr 0], [], h) := by
  unfold p_M_endOf at hp
  refine am_Ev_G [4] 400 _ ?_
  show am_Ev m_M_endOf (WM ++ e1) ro P (4, [.ref 0, .int a1, .int (-1 : Int32), .int a1], [], h)
  have hpl := hp
  refine am_itr (E := (fun (v1 : Int32 × Int32) => am_Ev m_M_endOf (WM ++ e1) ro P (4, [.ref 0, .int a1, .int v1.1, .int v1.2], [], h))) (E' := (fun (r1 : Int32 × Int32) => am_Ev m_M_endOf (WM ++ e1) ro P (72, [.ref 0, .int a1, .int r1.1, .int r1.2], [], h))) (s_M_endOf_4 h a1) (ps_M_endOf_4 h a1) ?_ NF ((-1 : Int32), a1) hpl ?_
  · intro v1 hp hc1 hx1
    show am_Ev m_M_endOf (WM ++ e1) ro P (4, [.ref 0, .int a1, .int v1.1, .int v1.2], [], h)
    unfold ps_M_endOf_4 at hp
    refine am_Ev_G [14, 72] 400 _ ?_
    show ((v1.2 = (-1 : Int32) → am_Ev m_M_endOf (WM ++ e1) ro P (72, [.ref 0, .int a1, .int v1.1, .int v1.2], [], h)) ∧ (¬ v1.2 = (-1 : Int32) → ((p_M_arrival h v1.2) ∧ am_Ev m_M_endOf (WM ++ e1) ro P (14, [.ref 0, .int a1, .int v1.1, .int v1.2], [.int (v_M_arrival h v1.2)], h))))
    refine ⟨fun c1 => ?_, fun c1 => ?_⟩
    · skip
      exact hx1 (v1.1, v1.2) (by unfold s_M_endOf_4; simp only [if_pos c1])
    · have hp := hp.2 c1
      obtain ⟨hob, hp⟩ := hp
      refine ⟨hob, ?_⟩
      refine am_Ev_G [36, 72] 400 _ ?_
      show ((p_M_of h a1 3) ∧ ((am_in 9 163) ∧ ((¬ ((v_M_arrival h v1.2) - (v_M_of h a1 3)) ≤ (h.1 1 (am_ix 9)) → am_Ev m_M_endOf (WM ++ e1) ro P (72, [.ref 0, .int a1, .int v1.1, .int v1.2], [], h)) ∧ (((v_M_arrival h v1.2) - (v_M_of h a1 3)) ≤ (h.1 1 (am_ix 9)) → ((p_M_next h v1.2) ∧ am_Ev m_M_endOf (WM ++ e1) ro P (36, [.ref 0, .int a1, .int v1.1, .int v1.2], [.int (v_M_next h v1.2)], h))))))
      obtain ⟨hob, hp⟩ := hp
      refine ⟨hob, ?_⟩
      refine ⟨⟨by decide, by decide⟩, ?_⟩
      refine ⟨fun c2 => ?_, fun c2 => ?_⟩
      · skip
        exact hx1 (v1.1, v1.2) (by unfold s_M_endOf_4; simp only [if_neg c1, if_neg c2])
      · have hp := hp.1 c2
        obtain ⟨hob, hp⟩ := hp
        refine ⟨hob, ?_⟩
        refine am_Ev_G [37] 400 _ ?_
        show am_Ev m_M_endOf (WM ++ e1) ro P (37, [.ref 0, .int a1, .int v1.1, .int v1.2], [.int (-1 : Int32), .int (v_M_next h v1.2)], h)
        obtain ⟨hpa, hp⟩ := hp
        have key3 : am_Ev m_M_endOf (WM ++ e1) ro P (62, [.ref 0, .int a1, .int v1.1, .int v1.2], [.int (if (v_M_next h v1.2) = (-1 : Int32) then v1.2 else (if (h.1 1 (am_ix (4 + (v_M_of h v1.2 2)))) = 1 then v1.2 else v1.1))], h) := by
          refine am_Ev_G [68] 400 _ ?_
          show ((p_M_next h v1.2) ∧ am_Ev m_M_endOf (WM ++ e1) ro P (68, [.ref 0, .int a1, .int (if (v_M_next h v1.2) = (-1 : Int32) then v1.2 else (if (h.1 1 (am_ix (4 + (v_M_of h v1.2 2)))) = 1 then v1.2 else v1.1)), .int v1.2], [.int (v_M_next h v1.2)], h))
          refine ⟨hp, ?_⟩
          refine am_Ev_G [4] 400 _ ?_
          show am_Ev m_M_endOf (WM ++ e1) ro P (4, [.ref 0, .int a1, .int (if (v_M_next h v1.2) = (-1 : Int32) then v1.2 else (if (h.1 1 (am_ix (4 + (v_M_of h v1.2 2)))) = 1 then v1.2 else v1.1)), .int (v_M_next h v1.2)], [], h)
          exact hc1 ((if (v_M_next h v1.2) = (-1 : Int32) then v1.2 else (if (h.1 1 (am_ix (4 + (v_M_of h v1.2 2)))) = 1 then v1.2 else v1.1)), (v_M_next h v1.2)) (by unfold s_M_endOf_4; simp only [if_neg c1, if_pos c2])
        have hp := hpa
        refine am_Ev_G [62] 400 _ ?_
        show (((v_M_next h v1.2) = (-1 : Int32) → am_Ev m_M_endOf (WM ++ e1) ro P (62, [.ref 0, .int a1, .int v1.1, .int v1.2], [.int v1.2], h)) ∧ (¬ (v_M_next h v1.2) = (-1 : Int32) → ((p_M_of h v1.2 2) ∧ ((am_in (4 + (v_M_of h v1.2 2)) 163) ∧ ((¬ (h.1 1 (am_ix (4 + (v_M_of h v1.2 2)))) = 1 → am_Ev m_M_endOf (WM ++ e1) ro P (62, [.ref 0, .int a1, .int v1.1, .int v1.2], [.int v1.1], h)) ∧ ((h.1 1 (am_ix (4 + (v_M_of h v1.2 2)))) = 1 → am_Ev m_M_endOf (WM ++ e1) ro P (62, [.ref 0, .int a1, .int v1.1, .int v1.2], [.int v1.2], h)))))))
        refine ⟨fun c4 => ?_, fun c4 => ?_⟩
        · skip
          simpa only [if_pos c4] using key3
        · have hp := hp.2 c4
          obtain ⟨hob, hp⟩ := hp
          refine ⟨hob, ?_⟩
          refine ⟨hp, ?_⟩
          refine ⟨fun c5 => ?_, fun c5 => ?_⟩
          · skip
            simpa only [if_neg c4, if_neg c5] using key3
          · skip
            simpa only [if_neg c4, if_pos c5] using key3
  · intro r1 hr6
    show am_Ev m_M_endOf (WM ++ e1) ro P (72, [.ref 0, .int a1, .int r1.1, .int r1.2], [], h)
    refine am_Ev_G [] 400 _ ?_
    show P (.inl (some (.int r1.1))) h
    exact hP r1.1 (by unfold v_M_endOf; simp only [hr6])
theorem ok_M_endOf {l : Launch} (hl : l.stackTraces = false) (e1 ro : List Sh) (k : Nat) : am_Ok l (WM ++ e1) ro (d_M_endOf k) := by
  refine am_met hl (own := RX6) (M := m_M_endOf) rfl pf_M_endOf cu_M_endOf rfl rfl rfl rfl (fun _ => rfl) rfl ⟨chk_M_endOf, (am_c (fl_M_7) am_n), (am_c (lk_M_49) (am_c (lk_M_53) (am_c (lk_M_57) am_n))), (am_n), (am_n)⟩ (am_n) (am_c (ok_M_of hl e1 _ 16) (am_c (ok_M_arrival hl e1 _ 16) (am_c (ok_M_next hl e1 _ 16) am_n))) (fun z => nomatch z) ?_ ?_
  · intro _ as h hg
    show g_thr (g_M_endOf (WM ++ e1) ro as h) = none
    unfold g_M_endOf
    split <;> rfl
  · intro as h hg hp
    revert hg hp
    show g_ok (g_M_endOf (WM ++ e1) ro as h) = true → g_pre (g_M_endOf (WM ++ e1) ro as h) → _ ∧ am_Ev m_M_endOf (WM ++ e1) ro (am_eq (g_M_endOf (WM ++ e1) ro as h)) (0, am_ent as 4, [], h)
    unfold g_M_endOf
    split
    · rename_i o1 a1
      intro hc hp
      change (Nat.beq o1 0) = true at hc
      obtain rfl := am_beq hc
      exact ⟨Nat.le_of_ble_eq_true rfl, ev_M_endOf h a1 hp eqRI⟩
    · exact fun z => nomatch z
def k_M_cuts (pc : Nat) : Ent := bif Nat.ble 47 pc then am_nop else bif Nat.ble 22 pc then (bif Nat.ble 32 pc then (bif Nat.ble 41 pc then (bif Nat.ble 45 pc then (bif Nat.ble 46 pc then (bif Nat.beq pc 46 then (.ireturn, 0, 0, []) else am_nop) else (bif Nat.beq pc 45 then (.iload_n 2, 0, 2, []) else am_nop)) else (bif Nat.ble 42 pc then (bif Nat.beq pc 42 then (.goto (-38), 0, 4, []) else am_nop) else (bif Nat.beq pc 41 then (.istore_n 3, 0, 3, []) else am_nop))) else (bif Nat.ble 36 pc then (bif Nat.ble 38 pc then (bif Nat.beq pc 38 then (.invokevirtual 57, 0, 0, []) else am_nop) else (bif Nat.beq pc 36 then (.iload 4, 0, 4, []) else am_nop)) else (bif Nat.ble 35 pc then (bif Nat.beq pc 35 then (.aload_n 0, 0, 0, []) else am_nop) else (bif Nat.beq pc 32 then (.iinc 2 1, 1, 2, []) else am_nop)))) else (bif Nat.ble 25 pc then (bif Nat.ble 29 pc then (bif Nat.ble 31 pc then (bif Nat.beq pc 31 then (.iastore, 0, 0, []) else am_nop) else (bif Nat.beq pc 29 then (.iload 4, 0, 4, []) else am_nop)) else (bif Nat.ble 28 pc then (bif Nat.beq pc 28 then (.iload_n 2, 0, 2, []) else am_nop) else (bif Nat.beq pc 25 then (.getfield 29, 0, 0, []) else am_nop))) else (bif Nat.ble 23 pc then (bif Nat.ble 24 pc then (bif Nat.beq pc 24 then (.aload_n 0, 0, 0, []) else am_nop) else (bif Nat.beq pc 23 then (.ireturn, 0, 0, []) else am_nop)) else (bif Nat.beq pc 22 then (.iconst (-1), (-1 : Int32), 0, []) else am_nop)))) else (bif Nat.ble 9 pc then (bif Nat.ble 14 pc then (bif Nat.ble 18 pc then (bif Nat.ble 19 pc then (bif Nat.beq pc 19 then (.if_icmp .ne 5, 0, 24, []) else am_nop) else (bif Nat.beq pc 18 then (.iconst (-1), (-1 : Int32), 0, []) else am_nop)) else (bif Nat.ble 16 pc then (bif Nat.beq pc 16 then (.iload 4, 0, 4, []) else am_nop) else (bif Nat.beq pc 14 then (.istore 4, 0, 4, []) else am_nop))) else (bif Nat.ble 10 pc then (bif Nat.ble 11 pc then (bif Nat.beq pc 11 then (.invokevirtual 114, 0, 0, []) else am_nop) else (bif Nat.beq pc 10 then (.iload_n 3, 0, 3, []) else am_nop)) else (bif Nat.beq pc 9 then (.aload_n 0, 0, 0, []) else am_nop))) else (bif Nat.ble 3 pc then (bif Nat.ble 5 pc then (bif Nat.ble 6 pc then (bif Nat.beq pc 6 then (.if_icmp .eq 39, 0, 45, []) else am_nop) else (bif Nat.beq pc 5 then (.iconst (-1), (-1 : Int32), 0, []) else am_nop)) else (bif Nat.ble 4 pc then (bif Nat.beq pc 4 then (.iload_n 3, 0, 3, []) else am_nop) else (bif Nat.beq pc 3 then (.istore_n 3, 0, 3, []) else am_nop))) else (bif Nat.ble 1 pc then (bif Nat.ble 2 pc then (bif Nat.beq pc 2 then (.iload_n 1, 0, 1, []) else am_nop) else (bif Nat.beq pc 1 then (.istore_n 2, 0, 2, []) else am_nop)) else (bif Nat.beq pc 0 then (.iconst 0, 0, 0, []) else am_nop))))
theorem fl_M_29 : am_fok RX6 29 (6, 10) := ⟨RX6, TX6, 16, rfl, by decide, rfl, Or.inl (am_tb 894 (by decide +kernel) rfl)⟩
theorem lk_M_114 : am_lnk RX6 114 (d_M_endOf 16) := ⟨⟨by decide, by decide⟩, am_tb 8 (by decide +kernel) rfl, Or.inr ⟨by decide, rfl, am_tb 1207 (by decide +kernel) rfl, am_tp 113 (by decide +kernel) rfl, ⟨TX6, 16, rfl⟩, Or.inl (am_tb 1205 (by decide +kernel) rfl)⟩⟩
def m_M_cuts : MI := (k_M_cuts, [(29, 6, 10)], [(57, d_M_next 16), (114, d_M_endOf 16)], [], [], [], [], 3, 66, some .int, fun _ => 0, 1)
def s_M_cuts_4 (h : HP) (a1 : Int32) (v1 : Int32 × Int32 × HP) : (Int32 × Int32 × HP) ⊕ ((Int32 × Int32 × HP) ⊕ (Int32 × HP)) := (if v1.2.1 = (-1 : Int32) then (.inr (.inl (v1.1, v1.2.1, v1.2.2))) else (if (v_M_endOf v1.2.2 v1.2.1) = (-1 : Int32) then (.inr (.inr ((-1 : Int32), v1.2.2))) else (.inl ((v1.1 + 1), (v_M_next (am_si v1.2.2 7 (am_ix v1.1) (v_M_endOf v1.2.2 v1.2.1)) (v_M_endOf v1.2.2 v1.2.1)), (am_si v1.2.2 7 (am_ix v1.1) (v_M_endOf v1.2.2 v1.2.1))))))
def ps_M_cuts_4 (h : HP) (a1 : Int32) (v1 : Int32 × Int32 × HP) : Prop := ((v1.2.1 = (-1 : Int32) → True) ∧ (¬ v1.2.1 = (-1 : Int32) → ((p_M_endOf v1.2.2 v1.2.1) ∧ (((v_M_endOf v1.2.2 v1.2.1) = (-1 : Int32) → True) ∧ (¬ (v_M_endOf v1.2.2 v1.2.1) = (-1 : Int32) → ((am_in v1.1 20) ∧ (p_M_next (am_si v1.2.2 7 (am_ix v1.1) (v_M_endOf v1.2.2 v1.2.1)) (v_M_endOf v1.2.2 v1.2.1))))))))
def v_M_cuts (h : HP) (a1 : Int32) : Int32 × HP := (match itr (s_M_cuts_4 h a1) NF (0, a1, h) with | some (.inl r1) => (r1.1, r1.2.2) | some (.inr q) => q | none => (0, h))
def p_M_cuts (h : HP) (a1 : Int32) : Prop := (itrp (s_M_cuts_4 h a1) (ps_M_cuts_4 h a1) NF (0, a1, h))
def g_M_cuts (_ _ : List Sh) (as : List Value) (h : HP) : GR := match as with
  | [.ref o1, .int a1] => (Nat.beq o1 0, p_M_cuts h a1, none, some (.int (v_M_cuts h a1).1), (v_M_cuts h a1).2)
  | _ => bad h
def d_M_cuts (k : Nat) : CD := (k, yX6_cuts, cX6_cuts, 5, some .int, 2, 3, 66, 0, false, true, g_M_cuts)
theorem chk_M_cuts : ∀ pc, am_chk cX6_cuts k_M_cuts pc = true := am_chkall 47 (by decide +kernel) (fun pc h => by unfold k_M_cuts; rw [Nat.ble_eq_true_of_le h]; rfl)
theorem pf_M_cuts : plainFor yX6_cuts = true := by decide +kernel
theorem cu_M_cuts : Cond.code yX6_cuts cX6_cuts 5 (some .int) ∈ am_U := am_tb 1204 (by decide +kernel) rfl
set_option maxHeartbeats 20000000 in
set_option maxRecDepth 100000 in
theorem ev_M_cuts {e1 ro : List Sh} {P : AR → HP → Prop} (h : HP) (a1 : Int32) (hp : p_M_cuts h a1) (hP : ∀ q, v_M_cuts h a1 = q → RIW P h q) : am_Ev m_M_cuts (WM ++ e1) ro P (0, [.ref 0, .int a1, .retAddr 0, .retAddr 0, .retAddr 0], [], h) := by
  unfold p_M_cuts at hp
  refine am_Ev_G [4] 400 _ ?_
  show am_Ev m_M_cuts (WM ++ e1) ro P (4, [.ref 0, .int a1, .int 0, .int a1, .retAddr 0], [], h)
  refine am_fg 1 ?_
  have hpl := hp
  refine am_itr (E := (fun (v1 : Int32 × Int32 × HP) => am_Ev m_M_cuts (WM ++ e1) ro P (4, [.ref 0, .retAddr 0, .int v1.1, .int v1.2.1, .retAddr 0], [], v1.2.2))) (E' := (fun (x : (Int32 × Int32 × HP) ⊕ (Int32 × HP)) => match x with | .inl r1 => am_Ev m_M_cuts (WM ++ e1) ro P (45, [.ref 0, .retAddr 0, .int r1.1, .int r1.2.1, .retAddr 0], [], r1.2.2) | .inr q => RIW P h q)) (s_M_cuts_4 h a1) (ps_M_cuts_4 h a1) ?_ NF (0, a1, h) hpl ?_
  · intro v1 hp hc1 hx1
    show am_Ev m_M_cuts (WM ++ e1) ro P (4, [.ref 0, .retAddr 0, .int v1.1, .int v1.2.1, .retAddr 0], [], v1.2.2)
    unfold ps_M_cuts_4 at hp
    refine am_Ev_G [14, 45] 400 _ ?_
    show ((v1.2.1 = (-1 : Int32) → am_Ev m_M_cuts (WM ++ e1) ro P (45, [.ref 0, .retAddr 0, .int v1.1, .int v1.2.1, .retAddr 0], [], v1.2.2)) ∧ (¬ v1.2.1 = (-1 : Int32) → ((p_M_endOf v1.2.2 v1.2.1) ∧ am_Ev m_M_cuts (WM ++ e1) ro P (14, [.ref 0, .retAddr 0, .int v1.1, .int v1.2.1, .retAddr 0], [.int (v_M_endOf v1.2.2 v1.2.1)], v1.2.2))))
    refine ⟨fun c1 => ?_, fun c1 => ?_⟩
    · skip
      exact hx1 (.inl (v1.1, v1.2.1, v1.2.2)) (by unfold s_M_cuts_4; simp only [if_pos c1])
    · have hp := hp.2 c1
      obtain ⟨hob, hp⟩ := hp
      refine ⟨hob, ?_⟩
      refine am_Ev_G [41] 400 _ ?_
      show ((¬ (v_M_endOf v1.2.2 v1.2.1) = (-1 : Int32) → ((am_in v1.1 20) ∧ ((p_M_next (am_si v1.2.2 7 (am_ix v1.1) (v_M_endOf v1.2.2 v1.2.1)) (v_M_endOf v1.2.2 v1.2.1)) ∧ am_Ev m_M_cuts (WM ++ e1) ro P (41, [.ref 0, .retAddr 0, .int (v1.1 + 1), .int v1.2.1, .int (v_M_endOf v1.2.2 v1.2.1)], [.int (v_M_next (am_si v1.2.2 7 (am_ix v1.1) (v_M_endOf v1.2.2 v1.2.1)) (v_M_endOf v1.2.2 v1.2.1))], (am_si v1.2.2 7 (am_ix v1.1) (v_M_endOf v1.2.2 v1.2.1)))))) ∧ ((v_M_endOf v1.2.2 v1.2.1) = (-1 : Int32) → P (.inl (some (.int (-1 : Int32)))) v1.2.2))
      refine ⟨fun c2 => ?_, fun c2 => ?_⟩
      · have hp := hp.2 c2
        obtain ⟨hob, hp⟩ := hp
        refine ⟨hob, ?_⟩
        refine ⟨hp, ?_⟩
        refine am_Ev_G [4] 400 _ ?_
        show am_Ev m_M_cuts (WM ++ e1) ro P (4, [.ref 0, .retAddr 0, .int (v1.1 + 1), .int (v_M_next (am_si v1.2.2 7 (am_ix v1.1) (v_M_endOf v1.2.2 v1.2.1)) (v_M_endOf v1.2.2 v1.2.1)), .int (v_M_endOf v1.2.2 v1.2.1)], [], (am_si v1.2.2 7 (am_ix v1.1) (v_M_endOf v1.2.2 v1.2.1)))
        refine am_fg 4 ?_
        exact hc1 ((v1.1 + 1), (v_M_next (am_si v1.2.2 7 (am_ix v1.1) (v_M_endOf v1.2.2 v1.2.1)) (v_M_endOf v1.2.2 v1.2.1)), (am_si v1.2.2 7 (am_ix v1.1) (v_M_endOf v1.2.2 v1.2.1))) (by unfold s_M_cuts_4; simp only [if_neg c1, if_neg c2])
      · skip
        exact hx1 (.inr ((-1 : Int32), v1.2.2)) (by unfold s_M_cuts_4; simp only [if_neg c1, if_pos c2])
  · intro x hr3
    rcases x with r1 | q
    · skip
      show am_Ev m_M_cuts (WM ++ e1) ro P (45, [.ref 0, .retAddr 0, .int r1.1, .int r1.2.1, .retAddr 0], [], r1.2.2)
      refine am_Ev_G [] 400 _ ?_
      show P (.inl (some (.int r1.1))) r1.2.2
      exact hP (r1.1, r1.2.2) (by unfold v_M_cuts; simp only [hr3])
    · show RIW P h q
      exact hP q (by unfold v_M_cuts; simp only [hr3])
theorem ok_M_cuts {l : Launch} (hl : l.stackTraces = false) (e1 ro : List Sh) (k : Nat) : am_Ok l (WM ++ e1) ro (d_M_cuts k) := by
  refine am_met hl (own := RX6) (M := m_M_cuts) rfl pf_M_cuts cu_M_cuts rfl rfl rfl rfl (fun _ => rfl) rfl ⟨chk_M_cuts, (am_c (fl_M_29) am_n), (am_c (lk_M_57) (am_c (lk_M_114) am_n)), (am_n), (am_n)⟩ (am_n) (am_c (ok_M_next hl e1 _ 16) (am_c (ok_M_endOf hl e1 _ 16) am_n)) (fun z => nomatch z) ?_ ?_
  · intro _ as h hg
    show g_thr (g_M_cuts (WM ++ e1) ro as h) = none
    unfold g_M_cuts
    split <;> rfl
  · intro as h hg hp
    revert hg hp
    show g_ok (g_M_cuts (WM ++ e1) ro as h) = true → g_pre (g_M_cuts (WM ++ e1) ro as h) → _ ∧ am_Ev m_M_cuts (WM ++ e1) ro (am_eq (g_M_cuts (WM ++ e1) ro as h)) (0, am_ent as 5, [], h)
    unfold g_M_cuts
    split
    · rename_i o1 a1
      intro hc hp
      change (Nat.beq o1 0) = true at hc
      obtain rfl := am_beq hc
      exact ⟨Nat.le_of_ble_eq_true rfl, ev_M_cuts h a1 hp eqRIW⟩
    · exact fun z => nomatch z
def k_M_settles (pc : Nat) : Ent := bif Nat.ble 167 pc then am_nop else bif Nat.ble 81 pc then (bif Nat.ble 126 pc then (bif Nat.ble 146 pc then (bif Nat.ble 156 pc then (bif Nat.ble 159 pc then (bif Nat.ble 163 pc then (bif Nat.ble 166 pc then (bif Nat.beq pc 166 then (.return_, 0, 0, []) else am_nop) else (bif Nat.beq pc 163 then (.goto (-154), 0, 9, []) else am_nop)) else (bif Nat.ble 162 pc then (bif Nat.beq pc 162 then (.istore_n 2, 0, 2, []) else am_nop) else (bif Nat.beq pc 159 then (.invokevirtual 57, 0, 0, []) else am_nop))) else (bif Nat.ble 157 pc then (bif Nat.ble 158 pc then (bif Nat.beq pc 158 then (.iload_n 2, 0, 2, []) else am_nop) else (bif Nat.beq pc 157 then (.aload_n 0, 0, 0, []) else am_nop)) else (bif Nat.beq pc 156 then (.iastore, 0, 0, []) else am_nop))) else (bif Nat.ble 151 pc then (bif Nat.ble 154 pc then (bif Nat.ble 155 pc then (bif Nat.beq pc 155 then (.iaload, 0, 0, []) else am_nop) else (bif Nat.beq pc 154 then (.iload_n 1, 0, 1, []) else am_nop)) else (bif Nat.beq pc 151 then (.getfield 32, 0, 0, []) else am_nop)) else (bif Nat.ble 147 pc then (bif Nat.ble 150 pc then (bif Nat.beq pc 150 then (.aload_n 0, 0, 0, []) else am_nop) else (bif Nat.beq pc 147 then (.goto 9, 0, 156, []) else am_nop)) else (bif Nat.beq pc 146 then (.iadd, 0, 0, []) else am_nop)))) else (bif Nat.ble 135 pc then (bif Nat.ble 140 pc then (bif Nat.ble 143 pc then (bif Nat.ble 144 pc then (bif Nat.beq pc 144 then (.iload 4, 0, 4, []) else am_nop) else (bif Nat.beq pc 143 then (.iconst 1, 1, 0, []) else am_nop)) else (bif Nat.beq pc 140 then (.if_icmp .ge 10, 0, 150, []) else am_nop)) else (bif Nat.ble 138 pc then (bif Nat.ble 139 pc then (bif Nat.beq pc 139 then (.iaload, 0, 0, []) else am_nop) else (bif Nat.beq pc 138 then (.iload_n 1, 0, 1, []) else am_nop)) else (bif Nat.beq pc 135 then (.getfield 32, 0, 0, []) else am_nop))) else (bif Nat.ble 131 pc then (bif Nat.ble 133 pc then (bif Nat.ble 134 pc then (bif Nat.beq pc 134 then (.aload_n 0, 0, 0, []) else am_nop) else (bif Nat.beq pc 133 then (.iadd, 0, 0, []) else am_nop)) else (bif Nat.beq pc 131 then (.iload 4, 0, 4, []) else am_nop)) else (bif Nat.ble 127 pc then (bif Nat.ble 130 pc then (bif Nat.beq pc 130 then (.iconst 1, 1, 0, []) else am_nop) else (bif Nat.beq pc 127 then (.if_icmp .eq 16, 0, 143, []) else am_nop)) else (bif Nat.beq pc 126 then (.iconst (-1), (-1 : Int32), 0, []) else am_nop))))) else (bif Nat.ble 103 pc then (bif Nat.ble 114 pc then (bif Nat.ble 120 pc then (bif Nat.ble 124 pc then (bif Nat.ble 125 pc then (bif Nat.beq pc 125 then (.iaload, 0, 0, []) else am_nop) else (bif Nat.beq pc 124 then (.iload_n 1, 0, 1, []) else am_nop)) else (bif Nat.ble 121 pc then (bif Nat.beq pc 121 then (.getfield 32, 0, 0, []) else am_nop) else (bif Nat.beq pc 120 then (.aload_n 0, 0, 0, []) else am_nop))) else (bif Nat.ble 115 pc then (bif Nat.ble 117 pc then (bif Nat.beq pc 117 then (.ifCond .eq 33, 0, 150, []) else am_nop) else (bif Nat.beq pc 115 then (.iload 5, 0, 5, []) else am_nop)) else (bif Nat.beq pc 114 then (.iload_n 1, 0, 1, []) else am_nop))) else (bif Nat.ble 108 pc then (bif Nat.ble 110 pc then (bif Nat.ble 111 pc then (bif Nat.beq pc 111 then (.getfield 32, 0, 0, []) else am_nop) else (bif Nat.beq pc 110 then (.aload_n 0, 0, 0, []) else am_nop)) else (bif Nat.beq pc 108 then (.istore 5, 0, 5, []) else am_nop)) else (bif Nat.ble 104 pc then (bif Nat.ble 107 pc then (bif Nat.beq pc 107 then (.iconst 0, 0, 0, []) else am_nop) else (bif Nat.beq pc 104 then (.goto 4, 0, 108, []) else am_nop)) else (bif Nat.beq pc 103 then (.iconst 1, 1, 0, []) else am_nop)))) else (bif Nat.ble 91 pc then (bif Nat.ble 97 pc then (bif Nat.ble 99 pc then (bif Nat.ble 100 pc then (bif Nat.beq pc 100 then (.if_icmp .eq 7, 0, 107, []) else am_nop) else (bif Nat.beq pc 99 then (.iconst (-1), (-1 : Int32), 0, []) else am_nop)) else (bif Nat.beq pc 97 then (.iload 4, 0, 4, []) else am_nop)) else (bif Nat.ble 93 pc then (bif Nat.ble 94 pc then (bif Nat.beq pc 94 then (.if_icmp .gt 13, 0, 107, []) else am_nop) else (bif Nat.beq pc 93 then (.iaload, 0, 0, []) else am_nop)) else (bif Nat.beq pc 91 then (.bipush 9, 9, 0, []) else am_nop))) else (bif Nat.ble 86 pc then (bif Nat.ble 87 pc then (bif Nat.ble 88 pc then (bif Nat.beq pc 88 then (.getfield 7, 0, 0, []) else am_nop) else (bif Nat.beq pc 87 then (.aload_n 0, 0, 0, []) else am_nop)) else (bif Nat.beq pc 86 then (.isub, 0, 0, []) else am_nop)) else (bif Nat.ble 82 pc then (bif Nat.ble 83 pc then (bif Nat.beq pc 83 then (.invokevirtual 49, 0, 0, []) else am_nop) else (bif Nat.beq pc 82 then (.iconst 3, 3, 0, []) else am_nop)) else (bif Nat.beq pc 81 then (.iload_n 1, 0, 1, []) else am_nop)))))) else (bif Nat.ble 37 pc then (bif Nat.ble 59 pc then (bif Nat.ble 69 pc then (bif Nat.ble 75 pc then (bif Nat.ble 77 pc then (bif Nat.ble 80 pc then (bif Nat.beq pc 80 then (.aload_n 0, 0, 0, []) else am_nop) else (bif Nat.beq pc 77 then (.invokevirtual 53, 0, 0, []) else am_nop)) else (bif Nat.ble 76 pc then (bif Nat.beq pc 76 then (.iload_n 2, 0, 2, []) else am_nop) else (bif Nat.beq pc 75 then (.aload_n 0, 0, 0, []) else am_nop))) else (bif Nat.ble 71 pc then (bif Nat.ble 72 pc then (bif Nat.beq pc 72 then (.ifCond .eq 35, 0, 107, []) else am_nop) else (bif Nat.beq pc 71 then (.iload_n 3, 0, 3, []) else am_nop)) else (bif Nat.beq pc 69 then (.istore 4, 0, 4, []) else am_nop))) else (bif Nat.ble 64 pc then (bif Nat.ble 65 pc then (bif Nat.ble 68 pc then (bif Nat.beq pc 68 then (.iaload, 0, 0, []) else am_nop) else (bif Nat.beq pc 65 then (.invokevirtual 57, 0, 0, []) else am_nop)) else (bif Nat.beq pc 64 then (.iload_n 2, 0, 2, []) else am_nop)) else (bif Nat.ble 60 pc then (bif Nat.ble 63 pc then (bif Nat.beq pc 63 then (.aload_n 0, 0, 0, []) else am_nop) else (bif Nat.beq pc 60 then (.getfield 32, 0, 0, []) else am_nop)) else (bif Nat.beq pc 59 then (.aload_n 0, 0, 0, []) else am_nop)))) else (bif Nat.ble 47 pc then (bif Nat.ble 52 pc then (bif Nat.ble 55 pc then (bif Nat.ble 56 pc then (bif Nat.beq pc 56 then (.goto 13, 0, 69, []) else am_nop) else (bif Nat.beq pc 55 then (.iconst 0, 0, 0, []) else am_nop)) else (bif Nat.beq pc 52 then (.if_icmp .ne 7, 0, 59, []) else am_nop)) else (bif Nat.ble 48 pc then (bif Nat.ble 51 pc then (bif Nat.beq pc 51 then (.iconst (-1), (-1 : Int32), 0, []) else am_nop) else (bif Nat.beq pc 48 then (.invokevirtual 57, 0, 0, []) else am_nop)) else (bif Nat.beq pc 47 then (.iload_n 2, 0, 2, []) else am_nop))) else (bif Nat.ble 44 pc then (bif Nat.ble 45 pc then (bif Nat.ble 46 pc then (bif Nat.beq pc 46 then (.aload_n 0, 0, 0, []) else am_nop) else (bif Nat.beq pc 45 then (.istore_n 3, 0, 3, []) else am_nop)) else (bif Nat.beq pc 44 then (.iconst 0, 0, 0, []) else am_nop)) else (bif Nat.ble 40 pc then (bif Nat.ble 41 pc then (bif Nat.beq pc 41 then (.goto 4, 0, 45, []) else am_nop) else (bif Nat.beq pc 40 then (.iconst 1, 1, 0, []) else am_nop)) else (bif Nat.beq pc 37 then (.if_icmp .ne 7, 0, 44, []) else am_nop))))) else (bif Nat.ble 16 pc then (bif Nat.ble 28 pc then (bif Nat.ble 31 pc then (bif Nat.ble 35 pc then (bif Nat.ble 36 pc then (bif Nat.beq pc 36 then (.iconst 1, 1, 0, []) else am_nop) else (bif Nat.beq pc 35 then (.iaload, 0, 0, []) else am_nop)) else (bif Nat.ble 34 pc then (bif Nat.beq pc 34 then (.iadd, 0, 0, []) else am_nop) else (bif Nat.beq pc 31 then (.invokevirtual 49, 0, 0, []) else am_nop))) else (bif Nat.ble 29 pc then (bif Nat.ble 30 pc then (bif Nat.beq pc 30 then (.iconst 2, 2, 0, []) else am_nop) else (bif Nat.beq pc 29 then (.iload_n 2, 0, 2, []) else am_nop)) else (bif Nat.beq pc 28 then (.aload_n 0, 0, 0, []) else am_nop))) else (bif Nat.ble 23 pc then (bif Nat.ble 24 pc then (bif Nat.ble 27 pc then (bif Nat.beq pc 27 then (.iconst 4, 4, 0, []) else am_nop) else (bif Nat.beq pc 24 then (.getfield 7, 0, 0, []) else am_nop)) else (bif Nat.beq pc 23 then (.aload_n 0, 0, 0, []) else am_nop)) else (bif Nat.ble 19 pc then (bif Nat.ble 20 pc then (bif Nat.beq pc 20 then (.if_icmp .eq 20, 0, 40, []) else am_nop) else (bif Nat.beq pc 19 then (.iconst (-1), (-1 : Int32), 0, []) else am_nop)) else (bif Nat.beq pc 16 then (.invokevirtual 57, 0, 0, []) else am_nop)))) else (bif Nat.ble 8 pc then (bif Nat.ble 11 pc then (bif Nat.ble 14 pc then (bif Nat.ble 15 pc then (bif Nat.beq pc 15 then (.iload_n 2, 0, 2, []) else am_nop) else (bif Nat.beq pc 14 then (.aload_n 0, 0, 0, []) else am_nop)) else (bif Nat.beq pc 11 then (.if_icmp .eq 155, 0, 166, []) else am_nop)) else (bif Nat.ble 9 pc then (bif Nat.ble 10 pc then (bif Nat.beq pc 10 then (.iconst (-1), (-1 : Int32), 0, []) else am_nop) else (bif Nat.beq pc 9 then (.iload_n 2, 0, 2, []) else am_nop)) else (bif Nat.beq pc 8 then (.istore_n 2, 0, 2, []) else am_nop))) else (bif Nat.ble 5 pc then (bif Nat.ble 6 pc then (bif Nat.ble 7 pc then (bif Nat.beq pc 7 then (.iload_n 1, 0, 1, []) else am_nop) else (bif Nat.beq pc 6 then (.iastore, 0, 0, []) else am_nop)) else (bif Nat.beq pc 5 then (.iconst (-1), (-1 : Int32), 0, []) else am_nop)) else (bif Nat.ble 1 pc then (bif Nat.ble 4 pc then (bif Nat.beq pc 4 then (.iload_n 1, 0, 1, []) else am_nop) else (bif Nat.beq pc 1 then (.getfield 32, 0, 0, []) else am_nop)) else (bif Nat.beq pc 0 then (.aload_n 0, 0, 0, []) else am_nop))))))
theorem fl_M_32 : am_fok RX6 32 (6, 11) := ⟨RX6, TX6, 16, rfl, by decide, rfl, Or.inl (am_tb 895 (by decide +kernel) rfl)⟩
def m_M_settles : MI := (k_M_settles, [(7, 6, 0), (32, 6, 11)], [(49, d_M_of 16), (53, d_M_arrival 16), (57, d_M_next 16)], [], [], [], [], 2, 43, none, fun _ => 0, 1)
def s_M_settles_9 (h : HP) (a1 : Int32) (v1 : Int32 × HP) : (Int32 × HP) ⊕ (Int32 × HP) := (if v1.1 = (-1 : Int32) then (.inr (v1.1, v1.2)) else (.inl ((v_M_next (am_si v1.2 8 (am_ix a1) (if ((if ((if (v_M_next v1.2 v1.1) = (-1 : Int32) then (1 : Int32) else (if (v1.2.1 1 (am_ix (4 + (v_M_of v1.2 v1.1 2)))) = 1 then (1 : Int32) else 0)) : Int32) = 0 then (0 : Int32) else (if ((v_M_arrival v1.2 v1.1) - (v_M_of v1.2 a1 3)) ≤ (v1.2.1 1 (am_ix 9)) then (if ((if (v_M_next v1.2 v1.1) = (-1 : Int32) then (0 : Int32) else v1.2.1 8 (am_ix (v_M_next v1.2 v1.1))) : Int32) = (-1 : Int32) then (0 : Int32) else 1) else 0)) : Int32) = 0 then v1.2.1 8 (am_ix a1) else (if (v1.2.1 8 (am_ix a1)) = (-1 : Int32) then (1 + (if (v_M_next v1.2 v1.1) = (-1 : Int32) then (0 : Int32) else v1.2.1 8 (am_ix (v_M_next v1.2 v1.1)))) else (if (1 + (if (v_M_next v1.2 v1.1) = (-1 : Int32) then (0 : Int32) else v1.2.1 8 (am_ix (v_M_next v1.2 v1.1)))) < (v1.2.1 8 (am_ix a1)) then (1 + (if (v_M_next v1.2 v1.1) = (-1 : Int32) then (0 : Int32) else v1.2.1 8 (am_ix (v_M_next v1.2 v1.1)))) else v1.2.1 8 (am_ix a1))))) v1.1), (am_si v1.2 8 (am_ix a1) (if ((if ((if (v_M_next v1.2 v1.1) = (-1 : Int32) then (1 : Int32) else (if (v1.2.1 1 (am_ix (4 + (v_M_of v1.2 v1.1 2)))) = 1 then (1 : Int32) else 0)) : Int32) = 0 then (0 : Int32) else (if ((v_M_arrival v1.2 v1.1) - (v_M_of v1.2 a1 3)) ≤ (v1.2.1 1 (am_ix 9)) then (if ((if (v_M_next v1.2 v1.1) = (-1 : Int32) then (0 : Int32) else v1.2.1 8 (am_ix (v_M_next v1.2 v1.1))) : Int32) = (-1 : Int32) then (0 : Int32) else 1) else 0)) : Int32) = 0 then v1.2.1 8 (am_ix a1) else (if (v1.2.1 8 (am_ix a1)) = (-1 : Int32) then (1 + (if (v_M_next v1.2 v1.1) = (-1 : Int32) then (0 : Int32) else v1.2.1 8 (am_ix (v_M_next v1.2 v1.1)))) else (if (1 + (if (v_M_next v1.2 v1.1) = (-1 : Int32) then (0 : Int32) else v1.2.1 8 (am_ix (v_M_next v1.2 v1.1)))) < (v1.2.1 8 (am_ix a1)) then (1 + (if (v_M_next v1.2 v1.1) = (-1 : Int32) then (0 : Int32) else v1.2.1 8 (am_ix (v_M_next v1.2 v1.1)))) else v1.2.1 8 (am_ix a1))))))))
def ps_M_settles_9 (h : HP) (a1 : Int32) (v1 : Int32 × HP) : Prop := ((v1.1 = (-1 : Int32) → True) ∧ (¬ v1.1 = (-1 : Int32) → ((p_M_next v1.2 v1.1) ∧ ((((v_M_next v1.2 v1.1) = (-1 : Int32) → True) ∧ (¬ (v_M_next v1.2 v1.1) = (-1 : Int32) → ((p_M_of v1.2 v1.1 2) ∧ (am_in (4 + (v_M_of v1.2 v1.1 2)) 163)))) ∧ ((p_M_next v1.2 v1.1) ∧ ((((v_M_next v1.2 v1.1) = (-1 : Int32) → True) ∧ (¬ (v_M_next v1.2 v1.1) = (-1 : Int32) → ((p_M_next v1.2 v1.1) ∧ (am_in (v_M_next v1.2 v1.1) 20)))) ∧ (((((if (v_M_next v1.2 v1.1) = (-1 : Int32) then (1 : Int32) else (if (v1.2.1 1 (am_ix (4 + (v_M_of v1.2 v1.1 2)))) = 1 then (1 : Int32) else 0)) : Int32) = 0 → True) ∧ (¬ ((if (v_M_next v1.2 v1.1) = (-1 : Int32) then (1 : Int32) else (if (v1.2.1 1 (am_ix (4 + (v_M_of v1.2 v1.1 2)))) = 1 then (1 : Int32) else 0)) : Int32) = 0 → ((p_M_arrival v1.2 v1.1) ∧ (p_M_of v1.2 a1 3)))) ∧ (((((if ((if (v_M_next v1.2 v1.1) = (-1 : Int32) then (1 : Int32) else (if (v1.2.1 1 (am_ix (4 + (v_M_of v1.2 v1.1 2)))) = 1 then (1 : Int32) else 0)) : Int32) = 0 then (0 : Int32) else (if ((v_M_arrival v1.2 v1.1) - (v_M_of v1.2 a1 3)) ≤ (v1.2.1 1 (am_ix 9)) then (if ((if (v_M_next v1.2 v1.1) = (-1 : Int32) then (0 : Int32) else v1.2.1 8 (am_ix (v_M_next v1.2 v1.1))) : Int32) = (-1 : Int32) then (0 : Int32) else 1) else 0)) : Int32) = 0 → (am_in a1 20)) ∧ (¬ ((if ((if (v_M_next v1.2 v1.1) = (-1 : Int32) then (1 : Int32) else (if (v1.2.1 1 (am_ix (4 + (v_M_of v1.2 v1.1 2)))) = 1 then (1 : Int32) else 0)) : Int32) = 0 then (0 : Int32) else (if ((v_M_arrival v1.2 v1.1) - (v_M_of v1.2 a1 3)) ≤ (v1.2.1 1 (am_ix 9)) then (if ((if (v_M_next v1.2 v1.1) = (-1 : Int32) then (0 : Int32) else v1.2.1 8 (am_ix (v_M_next v1.2 v1.1))) : Int32) = (-1 : Int32) then (0 : Int32) else 1) else 0)) : Int32) = 0 → ((am_in a1 20) ∧ (((v1.2.1 8 (am_ix a1)) = (-1 : Int32) → True) ∧ (¬ (v1.2.1 8 (am_ix a1)) = (-1 : Int32) → ((am_in a1 20) ∧ (((1 + (if (v_M_next v1.2 v1.1) = (-1 : Int32) then (0 : Int32) else v1.2.1 8 (am_ix (v_M_next v1.2 v1.1)))) < (v1.2.1 8 (am_ix a1)) → True) ∧ (¬ (1 + (if (v_M_next v1.2 v1.1) = (-1 : Int32) then (0 : Int32) else v1.2.1 8 (am_ix (v_M_next v1.2 v1.1)))) < (v1.2.1 8 (am_ix a1)) → (am_in a1 20))))))))) ∧ ((am_in a1 20) ∧ (p_M_next (am_si v1.2 8 (am_ix a1) (if ((if ((if (v_M_next v1.2 v1.1) = (-1 : Int32) then (1 : Int32) else (if (v1.2.1 1 (am_ix (4 + (v_M_of v1.2 v1.1 2)))) = 1 then (1 : Int32) else 0)) : Int32) = 0 then (0 : Int32) else (if ((v_M_arrival v1.2 v1.1) - (v_M_of v1.2 a1 3)) ≤ (v1.2.1 1 (am_ix 9)) then (if ((if (v_M_next v1.2 v1.1) = (-1 : Int32) then (0 : Int32) else v1.2.1 8 (am_ix (v_M_next v1.2 v1.1))) : Int32) = (-1 : Int32) then (0 : Int32) else 1) else 0)) : Int32) = 0 then v1.2.1 8 (am_ix a1) else (if (v1.2.1 8 (am_ix a1)) = (-1 : Int32) then (1 + (if (v_M_next v1.2 v1.1) = (-1 : Int32) then (0 : Int32) else v1.2.1 8 (am_ix (v_M_next v1.2 v1.1)))) else (if (1 + (if (v_M_next v1.2 v1.1) = (-1 : Int32) then (0 : Int32) else v1.2.1 8 (am_ix (v_M_next v1.2 v1.1)))) < (v1.2.1 8 (am_ix a1)) then (1 + (if (v_M_next v1.2 v1.1) = (-1 : Int32) then (0 : Int32) else v1.2.1 8 (am_ix (v_M_next v1.2 v1.1)))) else v1.2.1 8 (am_ix a1))))) v1.1))))))))))
def v_M_settles (h : HP) (a1 : Int32) : HP := (match itr (s_M_settles_9 h a1) NF (a1, (am_si h 8 (am_ix a1) (-1 : Int32))) with | some r1 => r1.2 | none => h)
def p_M_settles (h : HP) (a1 : Int32) : Prop := ((am_in a1 20) ∧ (itrp (s_M_settles_9 h a1) (ps_M_settles_9 h a1) NF (a1, (am_si h 8 (am_ix a1) (-1 : Int32)))))
def g_M_settles (_ _ : List Sh) (as : List Value) (h : HP) : GR := match as with
  | [.ref o1, .int a1] => (Nat.beq o1 0, p_M_settles h a1, none, none, v_M_settles h a1)
  | _ => bad h
def d_M_settles (k : Nat) : CD := (k, yX6_settles, cX6_settles, 6, none, 2, 2, 43, 0, false, true, g_M_settles)
theorem chk_M_settles : ∀ pc, am_chk cX6_settles k_M_settles pc = true := am_chkall 167 (by decide +kernel) (fun pc h => by unfold k_M_settles; rw [Nat.ble_eq_true_of_le h]; rfl)
theorem pf_M_settles : plainFor yX6_settles = true := by decide +kernel
theorem cu_M_settles : Cond.code yX6_settles cX6_settles 6 (none) ∈ am_U := am_tb 1216 (by decide +kernel) rfl
set_option maxHeartbeats 20000000 in
set_option maxRecDepth 100000 in
theorem ev_M_settles {e1 ro : List Sh} {P : AR → HP → Prop} (h : HP) (a1 : Int32) (hp : p_M_settles h a1) (hP : ∀ q, v_M_settles h a1 = q → RVW P h q) : am_Ev m_M_settles (WM ++ e1) ro P (0, [.ref 0, .int a1, .retAddr 0, .retAddr 0, .retAddr 0, .retAddr 0], [], h) := by
  unfold p_M_settles at hp
  refine am_Ev_G [9] 400 _ ?_
  show ((am_in a1 20) ∧ am_Ev m_M_settles (WM ++ e1) ro P (9, [.ref 0, .int a1, .int a1, .retAddr 0, .retAddr 0, .retAddr 0], [], (am_si h 8 (am_ix a1) (-1 : Int32))))
  obtain ⟨hob, hp⟩ := hp
  refine ⟨hob, ?_⟩
  have hpl := hp
  refine am_itr (E := (fun (v1 : Int32 × HP) => am_Ev m_M_settles (WM ++ e1) ro P (9, [.ref 0, .int a1, .int v1.1, .retAddr 0, .retAddr 0, .retAddr 0], [], v1.2))) (E' := (fun (r1 : Int32 × HP) => am_Ev m_M_settles (WM ++ e1) ro P (166, [.ref 0, .int a1, .int r1.1, .retAddr 0, .retAddr 0, .retAddr 0], [], r1.2))) (s_M_settles_9 h a1) (ps_M_settles_9 h a1) ?_ NF (a1, (am_si h 8 (am_ix a1) (-1 : Int32))) hpl ?_
  · intro v1 hp hc1 hx1
    show am_Ev m_M_settles (WM ++ e1) ro P (9, [.ref 0, .int a1, .int v1.1, .retAddr 0, .retAddr 0, .retAddr 0], [], v1.2)
    unfold ps_M_settles_9 at hp
    refine am_Ev_G [19, 166] 400 _ ?_
    show ((v1.1 = (-1 : Int32) → am_Ev m_M_settles (WM ++ e1) ro P (166, [.ref 0, .int a1, .int v1.1, .retAddr 0, .retAddr 0, .retAddr 0], [], v1.2)) ∧ (¬ v1.1 = (-1 : Int32) → ((p_M_next v1.2 v1.1) ∧ am_Ev m_M_settles (WM ++ e1) ro P (19, [.ref 0, .int a1, .int v1.1, .retAddr 0, .retAddr 0, .retAddr 0], [.int (v_M_next v1.2 v1.1)], v1.2))))
    refine ⟨fun c1 => ?_, fun c1 => ?_⟩
    · skip
      exact hx1 (v1.1, v1.2) (by unfold s_M_settles_9; simp only [if_pos c1])
    · have hp := hp.2 c1
      obtain ⟨hob, hp⟩ := hp
      refine ⟨hob, ?_⟩
      refine am_Ev_G [20] 400 _ ?_
      show am_Ev m_M_settles (WM ++ e1) ro P (20, [.ref 0, .int a1, .int v1.1, .retAddr 0, .retAddr 0, .retAddr 0], [.int (-1 : Int32), .int (v_M_next v1.2 v1.1)], v1.2)
      obtain ⟨hpa, hp⟩ := hp
      have key2 : am_Ev m_M_settles (WM ++ e1) ro P (45, [.ref 0, .int a1, .int v1.1, .retAddr 0, .retAddr 0, .retAddr 0], [.int (if (v_M_next v1.2 v1.1) = (-1 : Int32) then (1 : Int32) else (if (v1.2.1 1 (am_ix (4 + (v_M_of v1.2 v1.1 2)))) = 1 then (1 : Int32) else 0))], v1.2) := by
        refine am_Ev_G [51] 400 _ ?_
        show ((p_M_next v1.2 v1.1) ∧ am_Ev m_M_settles (WM ++ e1) ro P (51, [.ref 0, .int a1, .int v1.1, .int (if (v_M_next v1.2 v1.1) = (-1 : Int32) then (1 : Int32) else (if (v1.2.1 1 (am_ix (4 + (v_M_of v1.2 v1.1 2)))) = 1 then (1 : Int32) else 0)), .retAddr 0, .retAddr 0], [.int (v_M_next v1.2 v1.1)], v1.2))
        obtain ⟨hob, hp⟩ := hp
        refine ⟨hob, ?_⟩
        refine am_Ev_G [52] 400 _ ?_
        show am_Ev m_M_settles (WM ++ e1) ro P (52, [.ref 0, .int a1, .int v1.1, .int (if (v_M_next v1.2 v1.1) = (-1 : Int32) then (1 : Int32) else (if (v1.2.1 1 (am_ix (4 + (v_M_of v1.2 v1.1 2)))) = 1 then (1 : Int32) else 0)), .retAddr 0, .retAddr 0], [.int (-1 : Int32), .int (v_M_next v1.2 v1.1)], v1.2)
        obtain ⟨hpa, hp⟩ := hp
        have key3 : am_Ev m_M_settles (WM ++ e1) ro P (69, [.ref 0, .int a1, .int v1.1, .int (if (v_M_next v1.2 v1.1) = (-1 : Int32) then (1 : Int32) else (if (v1.2.1 1 (am_ix (4 + (v_M_of v1.2 v1.1 2)))) = 1 then (1 : Int32) else 0)), .retAddr 0, .retAddr 0], [.int (if (v_M_next v1.2 v1.1) = (-1 : Int32) then (0 : Int32) else v1.2.1 8 (am_ix (v_M_next v1.2 v1.1)))], v1.2) := by
          refine am_Ev_G [72] 400 _ ?_
          show am_Ev m_M_settles (WM ++ e1) ro P (72, [.ref 0, .int a1, .int v1.1, .int (if (v_M_next v1.2 v1.1) = (-1 : Int32) then (1 : Int32) else (if (v1.2.1 1 (am_ix (4 + (v_M_of v1.2 v1.1 2)))) = 1 then (1 : Int32) else 0)), .int (if (v_M_next v1.2 v1.1) = (-1 : Int32) then (0 : Int32) else v1.2.1 8 (am_ix (v_M_next v1.2 v1.1))), .retAddr 0], [.int (if (v_M_next v1.2 v1.1) = (-1 : Int32) then (1 : Int32) else (if (v1.2.1 1 (am_ix (4 + (v_M_of v1.2 v1.1 2)))) = 1 then (1 : Int32) else 0))], v1.2)
          obtain ⟨hpa, hp⟩ := hp
          have key4 : am_Ev m_M_settles (WM ++ e1) ro P (108, [.ref 0, .int a1, .int v1.1, .int (if (v_M_next v1.2 v1.1) = (-1 : Int32) then (1 : Int32) else (if (v1.2.1 1 (am_ix (4 + (v_M_of v1.2 v1.1 2)))) = 1 then (1 : Int32) else 0)), .int (if (v_M_next v1.2 v1.1) = (-1 : Int32) then (0 : Int32) else v1.2.1 8 (am_ix (v_M_next v1.2 v1.1))), .retAddr 0], [.int (if ((if (v_M_next v1.2 v1.1) = (-1 : Int32) then (1 : Int32) else (if (v1.2.1 1 (am_ix (4 + (v_M_of v1.2 v1.1 2)))) = 1 then (1 : Int32) else 0)) : Int32) = 0 then (0 : Int32) else (if ((v_M_arrival v1.2 v1.1) - (v_M_of v1.2 a1 3)) ≤ (v1.2.1 1 (am_ix 9)) then (if ((if (v_M_next v1.2 v1.1) = (-1 : Int32) then (0 : Int32) else v1.2.1 8 (am_ix (v_M_next v1.2 v1.1))) : Int32) = (-1 : Int32) then (0 : Int32) else 1) else 0))], v1.2) := by
            refine am_Ev_G [115] 400 _ ?_
            show am_Ev m_M_settles (WM ++ e1) ro P (115, [.ref 0, .int a1, .int v1.1, .int (if (v_M_next v1.2 v1.1) = (-1 : Int32) then (1 : Int32) else (if (v1.2.1 1 (am_ix (4 + (v_M_of v1.2 v1.1 2)))) = 1 then (1 : Int32) else 0)), .int (if (v_M_next v1.2 v1.1) = (-1 : Int32) then (0 : Int32) else v1.2.1 8 (am_ix (v_M_next v1.2 v1.1))), .int (if ((if (v_M_next v1.2 v1.1) = (-1 : Int32) then (1 : Int32) else (if (v1.2.1 1 (am_ix (4 + (v_M_of v1.2 v1.1 2)))) = 1 then (1 : Int32) else 0)) : Int32) = 0 then (0 : Int32) else (if ((v_M_arrival v1.2 v1.1) - (v_M_of v1.2 a1 3)) ≤ (v1.2.1 1 (am_ix 9)) then (if ((if (v_M_next v1.2 v1.1) = (-1 : Int32) then (0 : Int32) else v1.2.1 8 (am_ix (v_M_next v1.2 v1.1))) : Int32) = (-1 : Int32) then (0 : Int32) else 1) else 0))], [.int a1, .ref 8], v1.2)
            refine am_Ev_G [117] 400 _ ?_
            show am_Ev m_M_settles (WM ++ e1) ro P (117, [.ref 0, .int a1, .int v1.1, .int (if (v_M_next v1.2 v1.1) = (-1 : Int32) then (1 : Int32) else (if (v1.2.1 1 (am_ix (4 + (v_M_of v1.2 v1.1 2)))) = 1 then (1 : Int32) else 0)), .int (if (v_M_next v1.2 v1.1) = (-1 : Int32) then (0 : Int32) else v1.2.1 8 (am_ix (v_M_next v1.2 v1.1))), .int (if ((if (v_M_next v1.2 v1.1) = (-1 : Int32) then (1 : Int32) else (if (v1.2.1 1 (am_ix (4 + (v_M_of v1.2 v1.1 2)))) = 1 then (1 : Int32) else 0)) : Int32) = 0 then (0 : Int32) else (if ((v_M_arrival v1.2 v1.1) - (v_M_of v1.2 a1 3)) ≤ (v1.2.1 1 (am_ix 9)) then (if ((if (v_M_next v1.2 v1.1) = (-1 : Int32) then (0 : Int32) else v1.2.1 8 (am_ix (v_M_next v1.2 v1.1))) : Int32) = (-1 : Int32) then (0 : Int32) else 1) else 0))], [.int (if ((if (v_M_next v1.2 v1.1) = (-1 : Int32) then (1 : Int32) else (if (v1.2.1 1 (am_ix (4 + (v_M_of v1.2 v1.1 2)))) = 1 then (1 : Int32) else 0)) : Int32) = 0 then (0 : Int32) else (if ((v_M_arrival v1.2 v1.1) - (v_M_of v1.2 a1 3)) ≤ (v1.2.1 1 (am_ix 9)) then (if ((if (v_M_next v1.2 v1.1) = (-1 : Int32) then (0 : Int32) else v1.2.1 8 (am_ix (v_M_next v1.2 v1.1))) : Int32) = (-1 : Int32) then (0 : Int32) else 1) else 0)), .int a1, .ref 8], v1.2)
            obtain ⟨hpa, hp⟩ := hp
            have key5 : am_Ev m_M_settles (WM ++ e1) ro P (156, [.ref 0, .int a1, .int v1.1, .int (if (v_M_next v1.2 v1.1) = (-1 : Int32) then (1 : Int32) else (if (v1.2.1 1 (am_ix (4 + (v_M_of v1.2 v1.1 2)))) = 1 then (1 : Int32) else 0)), .int (if (v_M_next v1.2 v1.1) = (-1 : Int32) then (0 : Int32) else v1.2.1 8 (am_ix (v_M_next v1.2 v1.1))), .int (if ((if (v_M_next v1.2 v1.1) = (-1 : Int32) then (1 : Int32) else (if (v1.2.1 1 (am_ix (4 + (v_M_of v1.2 v1.1 2)))) = 1 then (1 : Int32) else 0)) : Int32) = 0 then (0 : Int32) else (if ((v_M_arrival v1.2 v1.1) - (v_M_of v1.2 a1 3)) ≤ (v1.2.1 1 (am_ix 9)) then (if ((if (v_M_next v1.2 v1.1) = (-1 : Int32) then (0 : Int32) else v1.2.1 8 (am_ix (v_M_next v1.2 v1.1))) : Int32) = (-1 : Int32) then (0 : Int32) else 1) else 0))], [.int (if ((if ((if (v_M_next v1.2 v1.1) = (-1 : Int32) then (1 : Int32) else (if (v1.2.1 1 (am_ix (4 + (v_M_of v1.2 v1.1 2)))) = 1 then (1 : Int32) else 0)) : Int32) = 0 then (0 : Int32) else (if ((v_M_arrival v1.2 v1.1) - (v_M_of v1.2 a1 3)) ≤ (v1.2.1 1 (am_ix 9)) then (if ((if (v_M_next v1.2 v1.1) = (-1 : Int32) then (0 : Int32) else v1.2.1 8 (am_ix (v_M_next v1.2 v1.1))) : Int32) = (-1 : Int32) then (0 : Int32) else 1) else 0)) : Int32) = 0 then v1.2.1 8 (am_ix a1) else (if (v1.2.1 8 (am_ix a1)) = (-1 : Int32) then (1 + (if (v_M_next v1.2 v1.1) = (-1 : Int32) then (0 : Int32) else v1.2.1 8 (am_ix (v_M_next v1.2 v1.1)))) else (if (1 + (if (v_M_next v1.2 v1.1) = (-1 : Int32) then (0 : Int32) else v1.2.1 8 (am_ix (v_M_next v1.2 v1.1)))) < (v1.2.1 8 (am_ix a1)) then (1 + (if (v_M_next v1.2 v1.1) = (-1 : Int32) then (0 : Int32) else v1.2.1 8 (am_ix (v_M_next v1.2 v1.1)))) else v1.2.1 8 (am_ix a1)))), .int a1, .ref 8], v1.2) := by
              refine am_Ev_G [162] 400 _ ?_
              show ((am_in a1 20) ∧ ((p_M_next (am_si v1.2 8 (am_ix a1) (if ((if ((if (v_M_next v1.2 v1.1) = (-1 : Int32) then (1 : Int32) else (if (v1.2.1 1 (am_ix (4 + (v_M_of v1.2 v1.1 2)))) = 1 then (1 : Int32) else 0)) : Int32) = 0 then (0 : Int32) else (if ((v_M_arrival v1.2 v1.1) - (v_M_of v1.2 a1 3)) ≤ (v1.2.1 1 (am_ix 9)) then (if ((if (v_M_next v1.2 v1.1) = (-1 : Int32) then (0 : Int32) else v1.2.1 8 (am_ix (v_M_next v1.2 v1.1))) : Int32) = (-1 : Int32) then (0 : Int32) else 1) else 0)) : Int32) = 0 then v1.2.1 8 (am_ix a1) else (if (v1.2.1 8 (am_ix a1)) = (-1 : Int32) then (1 + (if (v_M_next v1.2 v1.1) = (-1 : Int32) then (0 : Int32) else v1.2.1 8 (am_ix (v_M_next v1.2 v1.1)))) else (if (1 + (if (v_M_next v1.2 v1.1) = (-1 : Int32) then (0 : Int32) else v1.2.1 8 (am_ix (v_M_next v1.2 v1.1)))) < (v1.2.1 8 (am_ix a1)) then (1 + (if (v_M_next v1.2 v1.1) = (-1 : Int32) then (0 : Int32) else v1.2.1 8 (am_ix (v_M_next v1.2 v1.1)))) else v1.2.1 8 (am_ix a1))))) v1.1) ∧ am_Ev m_M_settles (WM ++ e1) ro P (162, [.ref 0, .int a1, .int v1.1, .int (if (v_M_next v1.2 v1.1) = (-1 : Int32) then (1 : Int32) else (if (v1.2.1 1 (am_ix (4 + (v_M_of v1.2 v1.1 2)))) = 1 then (1 : Int32) else 0)), .int (if (v_M_next v1.2 v1.1) = (-1 : Int32) then (0 : Int32) else v1.2.1 8 (am_ix (v_M_next v1.2 v1.1))), .int (if ((if (v_M_next v1.2 v1.1) = (-1 : Int32) then (1 : Int32) else (if (v1.2.1 1 (am_ix (4 + (v_M_of v1.2 v1.1 2)))) = 1 then (1 : Int32) else 0)) : Int32) = 0 then (0 : Int32) else (if ((v_M_arrival v1.2 v1.1) - (v_M_of v1.2 a1 3)) ≤ (v1.2.1 1 (am_ix 9)) then (if ((if (v_M_next v1.2 v1.1) = (-1 : Int32) then (0 : Int32) else v1.2.1 8 (am_ix (v_M_next v1.2 v1.1))) : Int32) = (-1 : Int32) then (0 : Int32) else 1) else 0))], [.int (v_M_next (am_si v1.2 8 (am_ix a1) (if ((if ((if (v_M_next v1.2 v1.1) = (-1 : Int32) then (1 : Int32) else (if (v1.2.1 1 (am_ix (4 + (v_M_of v1.2 v1.1 2)))) = 1 then (1 : Int32) else 0)) : Int32) = 0 then (0 : Int32) else (if ((v_M_arrival v1.2 v1.1) - (v_M_of v1.2 a1 3)) ≤ (v1.2.1 1 (am_ix 9)) then (if ((if (v_M_next v1.2 v1.1) = (-1 : Int32) then (0 : Int32) else v1.2.1 8 (am_ix (v_M_next v1.2 v1.1))) : Int32) = (-1 : Int32) then (0 : Int32) else 1) else 0)) : Int32) = 0 then v1.2.1 8 (am_ix a1) else (if (v1.2.1 8 (am_ix a1)) = (-1 : Int32) then (1 + (if (v_M_next v1.2 v1.1) = (-1 : Int32) then (0 : Int32) else v1.2.1 8 (am_ix (v_M_next v1.2 v1.1)))) else (if (1 + (if (v_M_next v1.2 v1.1) = (-1 : Int32) then (0 : Int32) else v1.2.1 8 (am_ix (v_M_next v1.2 v1.1)))) < (v1.2.1 8 (am_ix a1)) then (1 + (if (v_M_next v1.2 v1.1) = (-1 : Int32) then (0 : Int32) else v1.2.1 8 (am_ix (v_M_next v1.2 v1.1)))) else v1.2.1 8 (am_ix a1))))) v1.1)], (am_si v1.2 8 (am_ix a1) (if ((if ((if (v_M_next v1.2 v1.1) = (-1 : Int32) then (1 : Int32) else (if (v1.2.1 1 (am_ix (4 + (v_M_of v1.2 v1.1 2)))) = 1 then (1 : Int32) else 0)) : Int32) = 0 then (0 : Int32) else (if ((v_M_arrival v1.2 v1.1) - (v_M_of v1.2 a1 3)) ≤ (v1.2.1 1 (am_ix 9)) then (if ((if (v_M_next v1.2 v1.1) = (-1 : Int32) then (0 : Int32) else v1.2.1 8 (am_ix (v_M_next v1.2 v1.1))) : Int32) = (-1 : Int32) then (0 : Int32) else 1) else 0)) : Int32) = 0 then v1.2.1 8 (am_ix a1) else (if (v1.2.1 8 (am_ix a1)) = (-1 : Int32) then (1 + (if (v_M_next v1.2 v1.1) = (-1 : Int32) then (0 : Int32) else v1.2.1 8 (am_ix (v_M_next v1.2 v1.1)))) else (if (1 + (if (v_M_next v1.2 v1.1) = (-1 : Int32) then (0 : Int32) else v1.2.1 8 (am_ix (v_M_next v1.2 v1.1)))) < (v1.2.1 8 (am_ix a1)) then (1 + (if (v_M_next v1.2 v1.1) = (-1 : Int32) then (0 : Int32) else v1.2.1 8 (am_ix (v_M_next v1.2 v1.1)))) else v1.2.1 8 (am_ix a1))))))))
              obtain ⟨hob, hp⟩ := hp
              refine ⟨hob, ?_⟩
              refine ⟨hp, ?_⟩
              refine am_Ev_G [9] 400 _ ?_
              show am_Ev m_M_settles (WM ++ e1) ro P (9, [.ref 0, .int a1, .int (v_M_next (am_si v1.2 8 (am_ix a1) (if ((if ((if (v_M_next v1.2 v1.1) = (-1 : Int32) then (1 : Int32) else (if (v1.2.1 1 (am_ix (4 + (v_M_of v1.2 v1.1 2)))) = 1 then (1 : Int32) else 0)) : Int32) = 0 then (0 : Int32) else (if ((v_M_arrival v1.2 v1.1) - (v_M_of v1.2 a1 3)) ≤ (v1.2.1 1 (am_ix 9)) then (if ((if (v_M_next v1.2 v1.1) = (-1 : Int32) then (0 : Int32) else v1.2.1 8 (am_ix (v_M_next v1.2 v1.1))) : Int32) = (-1 : Int32) then (0 : Int32) else 1) else 0)) : Int32) = 0 then v1.2.1 8 (am_ix a1) else (if (v1.2.1 8 (am_ix a1)) = (-1 : Int32) then (1 + (if (v_M_next v1.2 v1.1) = (-1 : Int32) then (0 : Int32) else v1.2.1 8 (am_ix (v_M_next v1.2 v1.1)))) else (if (1 + (if (v_M_next v1.2 v1.1) = (-1 : Int32) then (0 : Int32) else v1.2.1 8 (am_ix (v_M_next v1.2 v1.1)))) < (v1.2.1 8 (am_ix a1)) then (1 + (if (v_M_next v1.2 v1.1) = (-1 : Int32) then (0 : Int32) else v1.2.1 8 (am_ix (v_M_next v1.2 v1.1)))) else v1.2.1 8 (am_ix a1))))) v1.1), .int (if (v_M_next v1.2 v1.1) = (-1 : Int32) then (1 : Int32) else (if (v1.2.1 1 (am_ix (4 + (v_M_of v1.2 v1.1 2)))) = 1 then (1 : Int32) else 0)), .int (if (v_M_next v1.2 v1.1) = (-1 : Int32) then (0 : Int32) else v1.2.1 8 (am_ix (v_M_next v1.2 v1.1))), .int (if ((if (v_M_next v1.2 v1.1) = (-1 : Int32) then (1 : Int32) else (if (v1.2.1 1 (am_ix (4 + (v_M_of v1.2 v1.1 2)))) = 1 then (1 : Int32) else 0)) : Int32) = 0 then (0 : Int32) else (if ((v_M_arrival v1.2 v1.1) - (v_M_of v1.2 a1 3)) ≤ (v1.2.1 1 (am_ix 9)) then (if ((if (v_M_next v1.2 v1.1) = (-1 : Int32) then (0 : Int32) else v1.2.1 8 (am_ix (v_M_next v1.2 v1.1))) : Int32) = (-1 : Int32) then (0 : Int32) else 1) else 0))], [], (am_si v1.2 8 (am_ix a1) (if ((if ((if (v_M_next v1.2 v1.1) = (-1 : Int32) then (1 : Int32) else (if (v1.2.1 1 (am_ix (4 + (v_M_of v1.2 v1.1 2)))) = 1 then (1 : Int32) else 0)) : Int32) = 0 then (0 : Int32) else (if ((v_M_arrival v1.2 v1.1) - (v_M_of v1.2 a1 3)) ≤ (v1.2.1 1 (am_ix 9)) then (if ((if (v_M_next v1.2 v1.1) = (-1 : Int32) then (0 : Int32) else v1.2.1 8 (am_ix (v_M_next v1.2 v1.1))) : Int32) = (-1 : Int32) then (0 : Int32) else 1) else 0)) : Int32) = 0 then v1.2.1 8 (am_ix a1) else (if (v1.2.1 8 (am_ix a1)) = (-1 : Int32) then (1 + (if (v_M_next v1.2 v1.1) = (-1 : Int32) then (0 : Int32) else v1.2.1 8 (am_ix (v_M_next v1.2 v1.1)))) else (if (1 + (if (v_M_next v1.2 v1.1) = (-1 : Int32) then (0 : Int32) else v1.2.1 8 (am_ix (v_M_next v1.2 v1.1)))) < (v1.2.1 8 (am_ix a1)) then (1 + (if (v_M_next v1.2 v1.1) = (-1 : Int32) then (0 : Int32) else v1.2.1 8 (am_ix (v_M_next v1.2 v1.1)))) else v1.2.1 8 (am_ix a1))))))
              refine am_fg 3 ?_
              refine am_fg 4 ?_
              refine am_fg 5 ?_
              exact hc1 ((v_M_next (am_si v1.2 8 (am_ix a1) (if ((if ((if (v_M_next v1.2 v1.1) = (-1 : Int32) then (1 : Int32) else (if (v1.2.1 1 (am_ix (4 + (v_M_of v1.2 v1.1 2)))) = 1 then (1 : Int32) else 0)) : Int32) = 0 then (0 : Int32) else (if ((v_M_arrival v1.2 v1.1) - (v_M_of v1.2 a1 3)) ≤ (v1.2.1 1 (am_ix 9)) then (if ((if (v_M_next v1.2 v1.1) = (-1 : Int32) then (0 : Int32) else v1.2.1 8 (am_ix (v_M_next v1.2 v1.1))) : Int32) = (-1 : Int32) then (0 : Int32) else 1) else 0)) : Int32) = 0 then v1.2.1 8 (am_ix a1) else (if (v1.2.1 8 (am_ix a1)) = (-1 : Int32) then (1 + (if (v_M_next v1.2 v1.1) = (-1 : Int32) then (0 : Int32) else v1.2.1 8 (am_ix (v_M_next v1.2 v1.1)))) else (if (1 + (if (v_M_next v1.2 v1.1) = (-1 : Int32) then (0 : Int32) else v1.2.1 8 (am_ix (v_M_next v1.2 v1.1)))) < (v1.2.1 8 (am_ix a1)) then (1 + (if (v_M_next v1.2 v1.1) = (-1 : Int32) then (0 : Int32) else v1.2.1 8 (am_ix (v_M_next v1.2 v1.1)))) else v1.2.1 8 (am_ix a1))))) v1.1), (am_si v1.2 8 (am_ix a1) (if ((if ((if (v_M_next v1.2 v1.1) = (-1 : Int32) then (1 : Int32) else (if (v1.2.1 1 (am_ix (4 + (v_M_of v1.2 v1.1 2)))) = 1 then (1 : Int32) else 0)) : Int32) = 0 then (0 : Int32) else (if ((v_M_arrival v1.2 v1.1) - (v_M_of v1.2 a1 3)) ≤ (v1.2.1 1 (am_ix 9)) then (if ((if (v_M_next v1.2 v1.1) = (-1 : Int32) then (0 : Int32) else v1.2.1 8 (am_ix (v_M_next v1.2 v1.1))) : Int32) = (-1 : Int32) then (0 : Int32) else 1) else 0)) : Int32) = 0 then v1.2.1 8 (am_ix a1) else (if (v1.2.1 8 (am_ix a1)) = (-1 : Int32) then (1 + (if (v_M_next v1.2 v1.1) = (-1 : Int32) then (0 : Int32) else v1.2.1 8 (am_ix (v_M_next v1.2 v1.1)))) else (if (1 + (if (v_M_next v1.2 v1.1) = (-1 : Int32) then (0 : Int32) else v1.2.1 8 (am_ix (v_M_next v1.2 v1.1)))) < (v1.2.1 8 (am_ix a1)) then (1 + (if (v_M_next v1.2 v1.1) = (-1 : Int32) then (0 : Int32) else v1.2.1 8 (am_ix (v_M_next v1.2 v1.1)))) else v1.2.1 8 (am_ix a1)))))) (by unfold s_M_settles_9; simp only [if_neg c1])
            have hp := hpa
            refine am_Ev_G [156] 400 _ ?_
            show ((((if ((if (v_M_next v1.2 v1.1) = (-1 : Int32) then (1 : Int32) else (if (v1.2.1 1 (am_ix (4 + (v_M_of v1.2 v1.1 2)))) = 1 then (1 : Int32) else 0)) : Int32) = 0 then (0 : Int32) else (if ((v_M_arrival v1.2 v1.1) - (v_M_of v1.2 a1 3)) ≤ (v1.2.1 1 (am_ix 9)) then (if ((if (v_M_next v1.2 v1.1) = (-1 : Int32) then (0 : Int32) else v1.2.1 8 (am_ix (v_M_next v1.2 v1.1))) : Int32) = (-1 : Int32) then (0 : Int32) else 1) else 0)) : Int32) = 0 → ((am_in a1 20) ∧ am_Ev m_M_settles (WM ++ e1) ro P (156, [.ref 0, .int a1, .int v1.1, .int (if (v_M_next v1.2 v1.1) = (-1 : Int32) then (1 : Int32) else (if (v1.2.1 1 (am_ix (4 + (v_M_of v1.2 v1.1 2)))) = 1 then (1 : Int32) else 0)), .int (if (v_M_next v1.2 v1.1) = (-1 : Int32) then (0 : Int32) else v1.2.1 8 (am_ix (v_M_next v1.2 v1.1))), .int (if ((if (v_M_next v1.2 v1.1) = (-1 : Int32) then (1 : Int32) else (if (v1.2.1 1 (am_ix (4 + (v_M_of v1.2 v1.1 2)))) = 1 then (1 : Int32) else 0)) : Int32) = 0 then (0 : Int32) else (if ((v_M_arrival v1.2 v1.1) - (v_M_of v1.2 a1 3)) ≤ (v1.2.1 1 (am_ix 9)) then (if ((if (v_M_next v1.2 v1.1) = (-1 : Int32) then (0 : Int32) else v1.2.1 8 (am_ix (v_M_next v1.2 v1.1))) : Int32) = (-1 : Int32) then (0 : Int32) else 1) else 0))], [.int (v1.2.1 8 (am_ix a1)), .int a1, .ref 8], v1.2))) ∧ (¬ ((if ((if (v_M_next v1.2 v1.1) = (-1 : Int32) then (1 : Int32) else (if (v1.2.1 1 (am_ix (4 + (v_M_of v1.2 v1.1 2)))) = 1 then (1 : Int32) else 0)) : Int32) = 0 then (0 : Int32) else (if ((v_M_arrival v1.2 v1.1) - (v_M_of v1.2 a1 3)) ≤ (v1.2.1 1 (am_ix 9)) then (if ((if (v_M_next v1.2 v1.1) = (-1 : Int32) then (0 : Int32) else v1.2.1 8 (am_ix (v_M_next v1.2 v1.1))) : Int32) = (-1 : Int32) then (0 : Int32) else 1) else 0)) : Int32) = 0 → ((am_in a1 20) ∧ (((v1.2.1 8 (am_ix a1)) = (-1 : Int32) → am_Ev m_M_settles (WM ++ e1) ro P (156, [.ref 0, .int a1, .int v1.1, .int (if (v_M_next v1.2 v1.1) = (-1 : Int32) then (1 : Int32) else (if (v1.2.1 1 (am_ix (4 + (v_M_of v1.2 v1.1 2)))) = 1 then (1 : Int32) else 0)), .int (if (v_M_next v1.2 v1.1) = (-1 : Int32) then (0 : Int32) else v1.2.1 8 (am_ix (v_M_next v1.2 v1.1))), .int (if ((if (v_M_next v1.2 v1.1) = (-1 : Int32) then (1 : Int32) else (if (v1.2.1 1 (am_ix (4 + (v_M_of v1.2 v1.1 2)))) = 1 then (1 : Int32) else 0)) : Int32) = 0 then (0 : Int32) else (if ((v_M_arrival v1.2 v1.1) - (v_M_of v1.2 a1 3)) ≤ (v1.2.1 1 (am_ix 9)) then (if ((if (v_M_next v1.2 v1.1) = (-1 : Int32) then (0 : Int32) else v1.2.1 8 (am_ix (v_M_next v1.2 v1.1))) : Int32) = (-1 : Int32) then (0 : Int32) else 1) else 0))], [.int (1 + (if (v_M_next v1.2 v1.1) = (-1 : Int32) then (0 : Int32) else v1.2.1 8 (am_ix (v_M_next v1.2 v1.1)))), .int a1, .ref 8], v1.2)) ∧ (¬ (v1.2.1 8 (am_ix a1)) = (-1 : Int32) → ((am_in a1 20) ∧ ((¬ (1 + (if (v_M_next v1.2 v1.1) = (-1 : Int32) then (0 : Int32) else v1.2.1 8 (am_ix (v_M_next v1.2 v1.1)))) < (v1.2.1 8 (am_ix a1)) → ((am_in a1 20) ∧ am_Ev m_M_settles (WM ++ e1) ro P (156, [.ref 0, .int a1, .int v1.1, .int (if (v_M_next v1.2 v1.1) = (-1 : Int32) then (1 : Int32) else (if (v1.2.1 1 (am_ix (4 + (v_M_of v1.2 v1.1 2)))) = 1 then (1 : Int32) else 0)), .int (if (v_M_next v1.2 v1.1) = (-1 : Int32) then (0 : Int32) else v1.2.1 8 (am_ix (v_M_next v1.2 v1.1))), .int (if ((if (v_M_next v1.2 v1.1) = (-1 : Int32) then (1 : Int32) else (if (v1.2.1 1 (am_ix (4 + (v_M_of v1.2 v1.1 2)))) = 1 then (1 : Int32) else 0)) : Int32) = 0 then (0 : Int32) else (if ((v_M_arrival v1.2 v1.1) - (v_M_of v1.2 a1 3)) ≤ (v1.2.1 1 (am_ix 9)) then (if ((if (v_M_next v1.2 v1.1) = (-1 : Int32) then (0 : Int32) else v1.2.1 8 (am_ix (v_M_next v1.2 v1.1))) : Int32) = (-1 : Int32) then (0 : Int32) else 1) else 0))], [.int (v1.2.1 8 (am_ix a1)), .int a1, .ref 8], v1.2))) ∧ ((1 + (if (v_M_next v1.2 v1.1) = (-1 : Int32) then (0 : Int32) else v1.2.1 8 (am_ix (v_M_next v1.2 v1.1)))) < (v1.2.1 8 (am_ix a1)) → am_Ev m_M_settles (WM ++ e1) ro P (156, [.ref 0, .int a1, .int v1.1, .int (if (v_M_next v1.2 v1.1) = (-1 : Int32) then (1 : Int32) else (if (v1.2.1 1 (am_ix (4 + (v_M_of v1.2 v1.1 2)))) = 1 then (1 : Int32) else 0)), .int (if (v_M_next v1.2 v1.1) = (-1 : Int32) then (0 : Int32) else v1.2.1 8 (am_ix (v_M_next v1.2 v1.1))), .int (if ((if (v_M_next v1.2 v1.1) = (-1 : Int32) then (1 : Int32) else (if (v1.2.1 1 (am_ix (4 + (v_M_of v1.2 v1.1 2)))) = 1 then (1 : Int32) else 0)) : Int32) = 0 then (0 : Int32) else (if ((v_M_arrival v1.2 v1.1) - (v_M_of v1.2 a1 3)) ≤ (v1.2.1 1 (am_ix 9)) then (if ((if (v_M_next v1.2 v1.1) = (-1 : Int32) then (0 : Int32) else v1.2.1 8 (am_ix (v_M_next v1.2 v1.1))) : Int32) = (-1 : Int32) then (0 : Int32) else 1) else 0))], [.int (1 + (if (v_M_next v1.2 v1.1) = (-1 : Int32) then (0 : Int32) else v1.2.1 8 (am_ix (v_M_next v1.2 v1.1)))), .int a1, .ref 8], v1.2)))))))))
            refine ⟨fun c6 => ?_, fun c6 => ?_⟩
            · have hp := hp.1 c6
              refine ⟨hp, ?_⟩
              simpa only [if_pos c6] using key5
            · have hp := hp.2 c6
              obtain ⟨hob, hp⟩ := hp
              refine ⟨hob, ?_⟩
              refine ⟨fun c7 => ?_, fun c7 => ?_⟩
              · skip
                simpa only [if_neg c6, if_pos c7] using key5
              · have hp := hp.2 c7
                obtain ⟨hob, hp⟩ := hp
                refine ⟨hob, ?_⟩
                refine ⟨fun c8 => ?_, fun c8 => ?_⟩
                · have hp := hp.2 c8
                  refine ⟨hp, ?_⟩
                  simpa only [if_neg c6, if_neg c7, if_neg c8] using key5
                · skip
                  simpa only [if_neg c6, if_neg c7, if_pos c8] using key5
          have hp := hpa
          refine am_Ev_G [108] 400 _ ?_
          show ((((if (v_M_next v1.2 v1.1) = (-1 : Int32) then (1 : Int32) else (if (v1.2.1 1 (am_ix (4 + (v_M_of v1.2 v1.1 2)))) = 1 then (1 : Int32) else 0)) : Int32) = 0 → am_Ev m_M_settles (WM ++ e1) ro P (108, [.ref 0, .int a1, .int v1.1, .int (if (v_M_next v1.2 v1.1) = (-1 : Int32) then (1 : Int32) else (if (v1.2.1 1 (am_ix (4 + (v_M_of v1.2 v1.1 2)))) = 1 then (1 : Int32) else 0)), .int (if (v_M_next v1.2 v1.1) = (-1 : Int32) then (0 : Int32) else v1.2.1 8 (am_ix (v_M_next v1.2 v1.1))), .retAddr 0], [.int 0], v1.2)) ∧ (¬ ((if (v_M_next v1.2 v1.1) = (-1 : Int32) then (1 : Int32) else (if (v1.2.1 1 (am_ix (4 + (v_M_of v1.2 v1.1 2)))) = 1 then (1 : Int32) else 0)) : Int32) = 0 → ((p_M_arrival v1.2 v1.1) ∧ ((p_M_of v1.2 a1 3) ∧ ((am_in 9 163) ∧ ((¬ ((v_M_arrival v1.2 v1.1) - (v_M_of v1.2 a1 3)) ≤ (v1.2.1 1 (am_ix 9)) → am_Ev m_M_settles (WM ++ e1) ro P (108, [.ref 0, .int a1, .int v1.1, .int (if (v_M_next v1.2 v1.1) = (-1 : Int32) then (1 : Int32) else (if (v1.2.1 1 (am_ix (4 + (v_M_of v1.2 v1.1 2)))) = 1 then (1 : Int32) else 0)), .int (if (v_M_next v1.2 v1.1) = (-1 : Int32) then (0 : Int32) else v1.2.1 8 (am_ix (v_M_next v1.2 v1.1))), .retAddr 0], [.int 0], v1.2)) ∧ (((v_M_arrival v1.2 v1.1) - (v_M_of v1.2 a1 3)) ≤ (v1.2.1 1 (am_ix 9)) → ((((if (v_M_next v1.2 v1.1) = (-1 : Int32) then (0 : Int32) else v1.2.1 8 (am_ix (v_M_next v1.2 v1.1))) : Int32) = (-1 : Int32) → am_Ev m_M_settles (WM ++ e1) ro P (108, [.ref 0, .int a1, .int v1.1, .int (if (v_M_next v1.2 v1.1) = (-1 : Int32) then (1 : Int32) else (if (v1.2.1 1 (am_ix (4 + (v_M_of v1.2 v1.1 2)))) = 1 then (1 : Int32) else 0)), .int (if (v_M_next v1.2 v1.1) = (-1 : Int32) then (0 : Int32) else v1.2.1 8 (am_ix (v_M_next v1.2 v1.1))), .retAddr 0], [.int 0], v1.2)) ∧ (¬ ((if (v_M_next v1.2 v1.1) = (-1 : Int32) then (0 : Int32) else v1.2.1 8 (am_ix (v_M_next v1.2 v1.1))) : Int32) = (-1 : Int32) → am_Ev m_M_settles (WM ++ e1) ro P (108, [.ref 0, .int a1, .int v1.1, .int (if (v_M_next v1.2 v1.1) = (-1 : Int32) then (1 : Int32) else (if (v1.2.1 1 (am_ix (4 + (v_M_of v1.2 v1.1 2)))) = 1 then (1 : Int32) else 0)), .int (if (v_M_next v1.2 v1.1) = (-1 : Int32) then (0 : Int32) else v1.2.1 8 (am_ix (v_M_next v1.2 v1.1))), .retAddr 0], [.int 1], v1.2))))))))))
          refine ⟨fun c9 => ?_, fun c9 => ?_⟩
          · skip
            simpa only [if_pos c9] using key4
          · have hp := hp.2 c9
            obtain ⟨hob, hp⟩ := hp
            refine ⟨hob, ?_⟩
            refine ⟨hp, ?_⟩
            refine ⟨⟨by decide, by decide⟩, ?_⟩
            refine ⟨fun c10 => ?_, fun c10 => ?_⟩
            · skip
              simpa only [if_neg c9, if_neg c10] using key4
            · skip
              refine ⟨fun c11 => ?_, fun c11 => ?_⟩
              · skip
                simpa only [if_neg c9, if_pos c10, if_pos c11] using key4
              · skip
                simpa only [if_neg c9, if_pos c10, if_neg c11] using key4
        have hp := hpa
        refine am_Ev_G [69] 400 _ ?_
        show ((¬ (v_M_next v1.2 v1.1) = (-1 : Int32) → ((p_M_next v1.2 v1.1) ∧ ((am_in (v_M_next v1.2 v1.1) 20) ∧ am_Ev m_M_settles (WM ++ e1) ro P (69, [.ref 0, .int a1, .int v1.1, .int (if (v_M_next v1.2 v1.1) = (-1 : Int32) then (1 : Int32) else (if (v1.2.1 1 (am_ix (4 + (v_M_of v1.2 v1.1 2)))) = 1 then (1 : Int32) else 0)), .retAddr 0, .retAddr 0], [.int (v1.2.1 8 (am_ix (v_M_next v1.2 v1.1)))], v1.2)))) ∧ ((v_M_next v1.2 v1.1) = (-1 : Int32) → am_Ev m_M_settles (WM ++ e1) ro P (69, [.ref 0, .int a1, .int v1.1, .int (if (v_M_next v1.2 v1.1) = (-1 : Int32) then (1 : Int32) else (if (v1.2.1 1 (am_ix (4 + (v_M_of v1.2 v1.1 2)))) = 1 then (1 : Int32) else 0)), .retAddr 0, .retAddr 0], [.int 0], v1.2)))
        refine ⟨fun c12 => ?_, fun c12 => ?_⟩
        · have hp := hp.2 c12
          obtain ⟨hob, hp⟩ := hp
          refine ⟨hob, ?_⟩
          refine ⟨hp, ?_⟩
          simpa only [if_neg c12] using key3
        · skip
          simpa only [if_pos c12] using key3
      have hp := hpa
      refine am_Ev_G [45] 400 _ ?_
      show (((v_M_next v1.2 v1.1) = (-1 : Int32) → am_Ev m_M_settles (WM ++ e1) ro P (45, [.ref 0, .int a1, .int v1.1, .retAddr 0, .retAddr 0, .retAddr 0], [.int 1], v1.2)) ∧ (¬ (v_M_next v1.2 v1.1) = (-1 : Int32) → ((p_M_of v1.2 v1.1 2) ∧ ((am_in (4 + (v_M_of v1.2 v1.1 2)) 163) ∧ ((¬ (v1.2.1 1 (am_ix (4 + (v_M_of v1.2 v1.1 2)))) = 1 → am_Ev m_M_settles (WM ++ e1) ro P (45, [.ref 0, .int a1, .int v1.1, .retAddr 0, .retAddr 0, .retAddr 0], [.int 0], v1.2)) ∧ ((v1.2.1 1 (am_ix (4 + (v_M_of v1.2 v1.1 2)))) = 1 → am_Ev m_M_settles (WM ++ e1) ro P (45, [.ref 0, .int a1, .int v1.1, .retAddr 0, .retAddr 0, .retAddr 0], [.int 1], v1.2)))))))
      refine ⟨fun c13 => ?_, fun c13 => ?_⟩
      · skip
        simpa only [if_pos c13] using key2
      · have hp := hp.2 c13
        obtain ⟨hob, hp⟩ := hp
        refine ⟨hob, ?_⟩
        refine ⟨hp, ?_⟩
        refine ⟨fun c14 => ?_, fun c14 => ?_⟩
        · skip
          simpa only [if_neg c13, if_neg c14] using key2
        · skip
          simpa only [if_neg c13, if_pos c14] using key2
  · intro r1 hr15
    show am_Ev m_M_settles (WM ++ e1) ro P (166, [.ref 0, .int a1, .int r1.1, .retAddr 0, .retAddr 0, .retAddr 0], [], r1.2)
    refine am_Ev_G [] 400 _ ?_
    show P (.inl none) r1.2
    exact hP r1.2 (by unfold v_M_settles; simp only [hr15])
theorem ok_M_settles {l : Launch} (hl : l.stackTraces = false) (e1 ro : List Sh) (k : Nat) : am_Ok l (WM ++ e1) ro (d_M_settles k) := by
  refine am_met hl (own := RX6) (M := m_M_settles) rfl pf_M_settles cu_M_settles rfl rfl rfl rfl (fun _ => rfl) rfl ⟨chk_M_settles, (am_c (fl_M_7) (am_c (fl_M_32) am_n)), (am_c (lk_M_49) (am_c (lk_M_53) (am_c (lk_M_57) am_n))), (am_n), (am_n)⟩ (am_n) (am_c (ok_M_of hl e1 _ 16) (am_c (ok_M_arrival hl e1 _ 16) (am_c (ok_M_next hl e1 _ 16) am_n))) (fun z => nomatch z) ?_ ?_
  · intro _ as h hg
    show g_thr (g_M_settles (WM ++ e1) ro as h) = none
    unfold g_M_settles
    split <;> rfl
  · intro as h hg hp
    revert hg hp
    show g_ok (g_M_settles (WM ++ e1) ro as h) = true → g_pre (g_M_settles (WM ++ e1) ro as h) → _ ∧ am_Ev m_M_settles (WM ++ e1) ro (am_eq (g_M_settles (WM ++ e1) ro as h)) (0, am_ent as 6, [], h)
    unfold g_M_settles
    split
    · rename_i o1 a1
      intro hc hp
      change (Nat.beq o1 0) = true at hc
      obtain rfl := am_beq hc
      exact ⟨Nat.le_of_ble_eq_true rfl, ev_M_settles h a1 hp eqRVW⟩
    · exact fun z => nomatch z
def k_M_told (pc : Nat) : Ent := bif Nat.ble 37 pc then am_nop else bif Nat.ble 17 pc then (bif Nat.ble 27 pc then (bif Nat.ble 34 pc then (bif Nat.ble 35 pc then (bif Nat.ble 36 pc then (bif Nat.beq pc 36 then (.ireturn, 0, 0, []) else am_nop) else (bif Nat.beq pc 35 then (.iaload, 0, 0, []) else am_nop)) else (bif Nat.beq pc 34 then (.iload_n 1, 0, 1, []) else am_nop)) else (bif Nat.ble 30 pc then (bif Nat.ble 31 pc then (bif Nat.beq pc 31 then (.getfield 32, 0, 0, []) else am_nop) else (bif Nat.beq pc 30 then (.aload_n 0, 0, 0, []) else am_nop)) else (bif Nat.beq pc 27 then (.goto (-16), 0, 11, []) else am_nop))) else (bif Nat.ble 22 pc then (bif Nat.ble 23 pc then (bif Nat.ble 24 pc then (bif Nat.beq pc 24 then (.invokevirtual 120, 0, 0, []) else am_nop) else (bif Nat.beq pc 23 then (.iload_n 2, 0, 2, []) else am_nop)) else (bif Nat.beq pc 22 then (.aload_n 0, 0, 0, []) else am_nop)) else (bif Nat.ble 18 pc then (bif Nat.ble 21 pc then (bif Nat.beq pc 21 then (.istore_n 2, 0, 2, []) else am_nop) else (bif Nat.beq pc 18 then (.invokevirtual 64, 0, 0, []) else am_nop)) else (bif Nat.beq pc 17 then (.iload_n 2, 0, 2, []) else am_nop)))) else (bif Nat.ble 7 pc then (bif Nat.ble 12 pc then (bif Nat.ble 13 pc then (bif Nat.ble 16 pc then (bif Nat.beq pc 16 then (.aload_n 0, 0, 0, []) else am_nop) else (bif Nat.beq pc 13 then (.if_icmp .eq 17, 0, 30, []) else am_nop)) else (bif Nat.beq pc 12 then (.iload_n 1, 0, 1, []) else am_nop)) else (bif Nat.ble 8 pc then (bif Nat.ble 11 pc then (bif Nat.beq pc 11 then (.iload_n 2, 0, 2, []) else am_nop) else (bif Nat.beq pc 8 then (.invokevirtual 120, 0, 0, []) else am_nop)) else (bif Nat.beq pc 7 then (.iload_n 2, 0, 2, []) else am_nop))) else (bif Nat.ble 2 pc then (bif Nat.ble 5 pc then (bif Nat.ble 6 pc then (bif Nat.beq pc 6 then (.aload_n 0, 0, 0, []) else am_nop) else (bif Nat.beq pc 5 then (.istore_n 2, 0, 2, []) else am_nop)) else (bif Nat.beq pc 2 then (.invokevirtual 117, 0, 0, []) else am_nop)) else (bif Nat.ble 1 pc then (bif Nat.beq pc 1 then (.iload_n 1, 0, 1, []) else am_nop) else (bif Nat.beq pc 0 then (.aload_n 0, 0, 0, []) else am_nop))))
theorem lk_M_117 : am_lnk RX6 117 (d_M_lastOf 16) := ⟨⟨by decide, by decide⟩, am_tb 8 (by decide +kernel) rfl, Or.inr ⟨by decide, rfl, am_tb 1191 (by decide +kernel) rfl, am_tp 109 (by decide +kernel) rfl, ⟨TX6, 16, rfl⟩, Or.inl (am_tb 1189 (by decide +kernel) rfl)⟩⟩
theorem lk_M_120 : am_lnk RX6 120 (d_M_settles 16) := ⟨⟨by decide, by decide⟩, am_tb 8 (by decide +kernel) rfl, Or.inr ⟨by decide, rfl, am_tb 1215 (by decide +kernel) rfl, am_tp 115 (by decide +kernel) rfl, ⟨TX6, 16, rfl⟩, Or.inl (am_tb 1213 (by decide +kernel) rfl)⟩⟩
def m_M_told : MI := (k_M_told, [(32, 6, 11)], [(64, d_M_before 16), (117, d_M_lastOf 16), (120, d_M_settles 16)], [], [], [], [], 3, 68, some .int, fun _ => 0, 1)
def s_M_told_11 (h : HP) (a1 : Int32) (y1 : HP) (v1 : Int32 × HP) : (Int32 × HP) ⊕ (Int32 × HP) := (if v1.1 = a1 then (.inr (v1.1, v1.2)) else (bnd (v_M_settles v1.2 (v_M_before v1.2 v1.1)) fun y3 => (.inl ((v_M_before v1.2 v1.1), y3))))
def ps_M_told_11 (h : HP) (a1 : Int32) (y1 : HP) (v1 : Int32 × HP) : Prop := ((v1.1 = a1 → True) ∧ (¬ v1.1 = a1 → ((p_M_before v1.2 v1.1) ∧ (p_M_settles v1.2 (v_M_before v1.2 v1.1)))))
def v_M_told (h : HP) (a1 : Int32) : Int32 × HP := (bnd (v_M_settles h (v_M_lastOf h a1)) fun y1 => (match itr (s_M_told_11 h a1 y1) NF ((v_M_lastOf h a1), y1) with | some r2 => (r2.2.1 8 (am_ix a1), r2.2) | none => (0, h)))
def p_M_told (h : HP) (a1 : Int32) : Prop := ((p_M_lastOf h a1) ∧ ((p_M_settles h (v_M_lastOf h a1)) ∧ (∀ y1, v_M_settles h (v_M_lastOf h a1) = y1 → (itrp (s_M_told_11 h a1 y1) (ps_M_told_11 h a1 y1) NF ((v_M_lastOf h a1), y1) ∧ ∀ r2, itr (s_M_told_11 h a1 y1) NF ((v_M_lastOf h a1), y1) = some r2 → (am_in a1 20)))))
def g_M_told (_ _ : List Sh) (as : List Value) (h : HP) : GR := match as with
  | [.ref o1, .int a1] => (Nat.beq o1 0, p_M_told h a1, none, some (.int (v_M_told h a1).1), (v_M_told h a1).2)
  | _ => bad h
def d_M_told (k : Nat) : CD := (k, yX6_told, cX6_told, 3, some .int, 2, 3, 68, 0, false, true, g_M_told)
theorem chk_M_told : ∀ pc, am_chk cX6_told k_M_told pc = true := am_chkall 37 (by decide +kernel) (fun pc h => by unfold k_M_told; rw [Nat.ble_eq_true_of_le h]; rfl)
theorem pf_M_told : plainFor yX6_told = true := by decide +kernel
theorem cu_M_told : Cond.code yX6_told cX6_told 3 (some .int) ∈ am_U := am_tb 1212 (by decide +kernel) rfl
set_option maxHeartbeats 20000000 in
set_option maxRecDepth 100000 in
theorem ev_M_told {e1 ro : List Sh} {P : AR → HP → Prop} (h : HP) (a1 : Int32) (hp : p_M_told h a1) (hP : ∀ q, v_M_told h a1 = q → RIW P h q) : am_Ev m_M_told (WM ++ e1) ro P (0, [.ref 0, .int a1, .retAddr 0], [], h) := by
  unfold p_M_told at hp
  refine am_Ev_G [11] 400 _ ?_
  show ((p_M_lastOf h a1) ∧ ((p_M_settles h (v_M_lastOf h a1)) ∧ am_Ev m_M_told (WM ++ e1) ro P (11, [.ref 0, .int a1, .int (v_M_lastOf h a1)], [], (v_M_settles h (v_M_lastOf h a1)))))
  obtain ⟨hob, hp⟩ := hp
  refine ⟨hob, ?_⟩
  obtain ⟨hob, hp⟩ := hp
  refine ⟨hob, ?_⟩
  obtain ⟨y1, c1⟩ : ∃ y, v_M_settles h (v_M_lastOf h a1) = y := ⟨_, rfl⟩
  rw [c1]
  have hp := hp _ c1
  show am_Ev m_M_told (WM ++ e1) ro P (11, [.ref 0, .int a1, .int (v_M_lastOf h a1)], [], y1)
  obtain ⟨hpl, hp⟩ := hp
  refine am_itr (E := (fun (v1 : Int32 × HP) => am_Ev m_M_told (WM ++ e1) ro P (11, [.ref 0, .int a1, .int v1.1], [], v1.2))) (E' := (fun (r2 : Int32 × HP) => am_Ev m_M_told (WM ++ e1) ro P (30, [.ref 0, .int a1, .int r2.1], [], r2.2))) (s_M_told_11 h a1 y1) (ps_M_told_11 h a1 y1) ?_ NF ((v_M_lastOf h a1), y1) hpl ?_
  · intro v1 hp hc1 hx1
    show am_Ev m_M_told (WM ++ e1) ro P (11, [.ref 0, .int a1, .int v1.1], [], v1.2)
    unfold ps_M_told_11 at hp
    refine am_Ev_G [27, 30] 400 _ ?_
    show ((v1.1 = a1 → am_Ev m_M_told (WM ++ e1) ro P (30, [.ref 0, .int a1, .int v1.1], [], v1.2)) ∧ (¬ v1.1 = a1 → ((p_M_before v1.2 v1.1) ∧ ((p_M_settles v1.2 (v_M_before v1.2 v1.1)) ∧ am_Ev m_M_told (WM ++ e1) ro P (27, [.ref 0, .int a1, .int (v_M_before v1.2 v1.1)], [], (v_M_settles v1.2 (v_M_before v1.2 v1.1)))))))
    refine ⟨fun c2 => ?_, fun c2 => ?_⟩
    · skip
      exact hx1 (v1.1, v1.2) (by unfold s_M_told_11; simp only [if_pos c2])
    · have hp := hp.2 c2
      obtain ⟨hob, hp⟩ := hp
      refine ⟨hob, ?_⟩
      refine ⟨hp, ?_⟩
      obtain ⟨y3, c3⟩ : ∃ y, v_M_settles v1.2 (v_M_before v1.2 v1.1) = y := ⟨_, rfl⟩
      rw [c3]
      show am_Ev m_M_told (WM ++ e1) ro P (27, [.ref 0, .int a1, .int (v_M_before v1.2 v1.1)], [], y3)
      refine am_Ev_G [11] 400 _ ?_
      show am_Ev m_M_told (WM ++ e1) ro P (11, [.ref 0, .int a1, .int (v_M_before v1.2 v1.1)], [], y3)
      exact hc1 ((v_M_before v1.2 v1.1), y3) (by unfold s_M_told_11; simp only [if_neg c2, bnd, c3])
  · intro r2 hr4
    have hp := hp _ hr4
    show am_Ev m_M_told (WM ++ e1) ro P (30, [.ref 0, .int a1, .int r2.1], [], r2.2)
    refine am_Ev_G [] 400 _ ?_
    show ((am_in a1 20) ∧ P (.inl (some (.int (r2.2.1 8 (am_ix a1))))) r2.2)
    refine ⟨hp, ?_⟩
    exact hP (r2.2.1 8 (am_ix a1), r2.2) (by unfold v_M_told; simp only [bnd, c1, hr4])
theorem ok_M_told {l : Launch} (hl : l.stackTraces = false) (e1 ro : List Sh) (k : Nat) : am_Ok l (WM ++ e1) ro (d_M_told k) := by
  refine am_met hl (own := RX6) (M := m_M_told) rfl pf_M_told cu_M_told rfl rfl rfl rfl (fun _ => rfl) rfl ⟨chk_M_told, (am_c (fl_M_32) am_n), (am_c (lk_M_64) (am_c (lk_M_117) (am_c (lk_M_120) am_n))), (am_n), (am_n)⟩ (am_n) (am_c (ok_M_before hl e1 _ 16) (am_c (ok_M_lastOf hl e1 _ 16) (am_c (ok_M_settles hl e1 _ 16) am_n))) (fun z => nomatch z) ?_ ?_
  · intro _ as h hg
    show g_thr (g_M_told (WM ++ e1) ro as h) = none
    unfold g_M_told
    split <;> rfl
  · intro as h hg hp
    revert hg hp
    show g_ok (g_M_told (WM ++ e1) ro as h) = true → g_pre (g_M_told (WM ++ e1) ro as h) → _ ∧ am_Ev m_M_told (WM ++ e1) ro (am_eq (g_M_told (WM ++ e1) ro as h)) (0, am_ent as 3, [], h)
    unfold g_M_told
    split
    · rename_i o1 a1
      intro hc hp
      change (Nat.beq o1 0) = true at hc
      obtain rfl := am_beq hc
      exact ⟨Nat.le_of_ble_eq_true rfl, ev_M_told h a1 hp eqRIW⟩
    · exact fun z => nomatch z
def k_M_duties (pc : Nat) : Ent := bif Nat.ble 55 pc then am_nop else bif Nat.ble 28 pc then (bif Nat.ble 40 pc then (bif Nat.ble 46 pc then (bif Nat.ble 50 pc then (bif Nat.ble 53 pc then (bif Nat.ble 54 pc then (bif Nat.beq pc 54 then (.ireturn, 0, 0, []) else am_nop) else (bif Nat.beq pc 53 then (.iload_n 1, 0, 1, []) else am_nop)) else (bif Nat.beq pc 50 then (.goto (-46), 0, 4, []) else am_nop)) else (bif Nat.ble 47 pc then (bif Nat.beq pc 47 then (.iinc 2 1, 1, 2, []) else am_nop) else (bif Nat.beq pc 46 then (.istore_n 1, 0, 1, []) else am_nop))) else (bif Nat.ble 44 pc then (bif Nat.ble 45 pc then (bif Nat.beq pc 45 then (.iadd, 0, 0, []) else am_nop) else (bif Nat.beq pc 44 then (.iload_n 3, 0, 3, []) else am_nop)) else (bif Nat.ble 43 pc then (bif Nat.beq pc 43 then (.iload_n 1, 0, 1, []) else am_nop) else (bif Nat.beq pc 40 then (.goto 6, 0, 46, []) else am_nop)))) else (bif Nat.ble 34 pc then (bif Nat.ble 36 pc then (bif Nat.ble 39 pc then (bif Nat.beq pc 39 then (.iconst (-1), (-1 : Int32), 0, []) else am_nop) else (bif Nat.beq pc 36 then (.if_icmp .ne 7, 0, 43, []) else am_nop)) else (bif Nat.ble 35 pc then (bif Nat.beq pc 35 then (.iconst (-1), (-1 : Int32), 0, []) else am_nop) else (bif Nat.beq pc 34 then (.iload_n 1, 0, 1, []) else am_nop))) else (bif Nat.ble 30 pc then (bif Nat.ble 31 pc then (bif Nat.beq pc 31 then (.if_icmp .eq 8, 0, 39, []) else am_nop) else (bif Nat.beq pc 30 then (.iconst (-1), (-1 : Int32), 0, []) else am_nop)) else (bif Nat.ble 29 pc then (bif Nat.beq pc 29 then (.iload_n 3, 0, 3, []) else am_nop) else (bif Nat.beq pc 28 then (.istore_n 3, 0, 3, []) else am_nop))))) else (bif Nat.ble 11 pc then (bif Nat.ble 17 pc then (bif Nat.ble 23 pc then (bif Nat.ble 24 pc then (bif Nat.ble 25 pc then (bif Nat.beq pc 25 then (.invokevirtual 124, 0, 0, []) else am_nop) else (bif Nat.beq pc 24 then (.iload_n 2, 0, 2, []) else am_nop)) else (bif Nat.beq pc 23 then (.aload_n 0, 0, 0, []) else am_nop)) else (bif Nat.ble 20 pc then (bif Nat.beq pc 20 then (.ifCond .eq 27, 0, 47, []) else am_nop) else (bif Nat.beq pc 17 then (.invokevirtual 70, 0, 0, []) else am_nop))) else (bif Nat.ble 15 pc then (bif Nat.ble 16 pc then (bif Nat.beq pc 16 then (.iload_n 2, 0, 2, []) else am_nop) else (bif Nat.beq pc 15 then (.aload_n 0, 0, 0, []) else am_nop)) else (bif Nat.ble 12 pc then (bif Nat.beq pc 12 then (.if_icmp .ge 41, 0, 53, []) else am_nop) else (bif Nat.beq pc 11 then (.iaload, 0, 0, []) else am_nop)))) else (bif Nat.ble 4 pc then (bif Nat.ble 6 pc then (bif Nat.ble 9 pc then (bif Nat.beq pc 9 then (.bipush 15, 15, 0, []) else am_nop) else (bif Nat.beq pc 6 then (.getfield 7, 0, 0, []) else am_nop)) else (bif Nat.ble 5 pc then (bif Nat.beq pc 5 then (.aload_n 0, 0, 0, []) else am_nop) else (bif Nat.beq pc 4 then (.iload_n 2, 0, 2, []) else am_nop))) else (bif Nat.ble 2 pc then (bif Nat.ble 3 pc then (bif Nat.beq pc 3 then (.istore_n 2, 0, 2, []) else am_nop) else (bif Nat.beq pc 2 then (.iconst 0, 0, 0, []) else am_nop)) else (bif Nat.ble 1 pc then (bif Nat.beq pc 1 then (.istore_n 1, 0, 1, []) else am_nop) else (bif Nat.beq pc 0 then (.iconst 0, 0, 0, []) else am_nop)))))
theorem lk_M_124 : am_lnk RX6 124 (d_M_cuts 16) := ⟨⟨by decide, by decide⟩, am_tb 8 (by decide +kernel) rfl, Or.inr ⟨by decide, rfl, am_tb 1203 (by decide +kernel) rfl, am_tp 112 (by decide +kernel) rfl, ⟨TX6, 16, rfl⟩, Or.inl (am_tb 1201 (by decide +kernel) rfl)⟩⟩
def m_M_duties : MI := (k_M_duties, [(7, 6, 0)], [(70, d_M_isFirst 16), (124, d_M_cuts 16)], [], [], [], [], 4, 90, some .int, fun _ => 0, 1)
def s_M_duties_4 (h : HP) (v1 : Int32 × Int32 × HP) : (Int32 × Int32 × HP) ⊕ (Int32 × Int32 × HP) := (if v1.2.1 < (v1.2.2.1 1 (am_ix 15)) then (if (v_M_isFirst v1.2.2 v1.2.1) = 0 then (.inl (v1.1, (v1.2.1 + 1), v1.2.2)) else (bnd (v_M_cuts v1.2.2 v1.2.1) fun y2 => (.inl ((if y2.1 = (-1 : Int32) then (-1 : Int32) else (if v1.1 = (-1 : Int32) then (-1 : Int32) else (v1.1 + y2.1))), (v1.2.1 + 1), y2.2)))) else (.inr (v1.1, v1.2.1, v1.2.2)))
def ps_M_duties_4 (h : HP) (v1 : Int32 × Int32 × HP) : Prop := ((v1.2.1 < (v1.2.2.1 1 (am_ix 15)) → ((p_M_isFirst v1.2.2 v1.2.1) ∧ (((v_M_isFirst v1.2.2 v1.2.1) = 0 → True) ∧ (¬ (v_M_isFirst v1.2.2 v1.2.1) = 0 → (p_M_cuts v1.2.2 v1.2.1))))) ∧ (¬ v1.2.1 < (v1.2.2.1 1 (am_ix 15)) → True))
def v_M_duties (h : HP) : Int32 × HP := (match itr (s_M_duties_4 h) NF (0, 0, h) with | some r1 => (r1.1, r1.2.2) | none => (0, h))
def p_M_duties (h : HP) : Prop := (itrp (s_M_duties_4 h) (ps_M_duties_4 h) NF (0, 0, h))
def g_M_duties (_ _ : List Sh) (as : List Value) (h : HP) : GR := match as with
  | [.ref o1] => (Nat.beq o1 0, p_M_duties h, none, some (.int (v_M_duties h).1), (v_M_duties h).2)
  | _ => bad h
def d_M_duties (k : Nat) : CD := (k, yX6_duties, cX6_duties, 4, some .int, 1, 4, 90, 0, false, true, g_M_duties)
theorem chk_M_duties : ∀ pc, am_chk cX6_duties k_M_duties pc = true := am_chkall 55 (by decide +kernel) (fun pc h => by unfold k_M_duties; rw [Nat.ble_eq_true_of_le h]; rfl)
theorem pf_M_duties : plainFor yX6_duties = true := by decide +kernel
theorem cu_M_duties : Cond.code yX6_duties cX6_duties 4 (some .int) ∈ am_U := am_tb 1252 (by decide +kernel) rfl
set_option maxHeartbeats 20000000 in
set_option maxRecDepth 100000 in
theorem ev_M_duties {e1 ro : List Sh} {P : AR → HP → Prop} (h : HP) (hp : p_M_duties h) (hP : ∀ q, v_M_duties h = q → RIW P h q) : am_Ev m_M_duties (WM ++ e1) ro P (0, [.ref 0, .retAddr 0, .retAddr 0, .retAddr 0], [], h) := by
  unfold p_M_duties at hp
  refine am_Ev_G [4] 400 _ ?_
  show am_Ev m_M_duties (WM ++ e1) ro P (4, [.ref 0, .int 0, .int 0, .retAddr 0], [], h)
  have hpl := hp
  refine am_itr (E := (fun (v1 : Int32 × Int32 × HP) => am_Ev m_M_duties (WM ++ e1) ro P (4, [.ref 0, .int v1.1, .int v1.2.1, .retAddr 0], [], v1.2.2))) (E' := (fun (r1 : Int32 × Int32 × HP) => am_Ev m_M_duties (WM ++ e1) ro P (53, [.ref 0, .int r1.1, .int r1.2.1, .retAddr 0], [], r1.2.2))) (s_M_duties_4 h) (ps_M_duties_4 h) ?_ NF (0, 0, h) hpl ?_
  · intro v1 hp hc1 hx1
    show am_Ev m_M_duties (WM ++ e1) ro P (4, [.ref 0, .int v1.1, .int v1.2.1, .retAddr 0], [], v1.2.2)
    unfold ps_M_duties_4 at hp
    refine am_Ev_G [20, 53] 400 _ ?_
    show ((am_in 15 163) ∧ ((¬ v1.2.1 < (v1.2.2.1 1 (am_ix 15)) → am_Ev m_M_duties (WM ++ e1) ro P (53, [.ref 0, .int v1.1, .int v1.2.1, .retAddr 0], [], v1.2.2)) ∧ (v1.2.1 < (v1.2.2.1 1 (am_ix 15)) → ((p_M_isFirst v1.2.2 v1.2.1) ∧ am_Ev m_M_duties (WM ++ e1) ro P (20, [.ref 0, .int v1.1, .int v1.2.1, .retAddr 0], [.int (v_M_isFirst v1.2.2 v1.2.1)], v1.2.2)))))
    refine ⟨⟨by decide, by decide⟩, ?_⟩
    refine ⟨fun c1 => ?_, fun c1 => ?_⟩
    · skip
      exact hx1 (v1.1, v1.2.1, v1.2.2) (by unfold s_M_duties_4; simp only [if_neg c1])
    · have hp := hp.1 c1
      obtain ⟨hob, hp⟩ := hp
      refine ⟨hob, ?_⟩
      refine am_Ev_G [4, 28] 400 _ ?_
      show (((v_M_isFirst v1.2.2 v1.2.1) = 0 → am_Ev m_M_duties (WM ++ e1) ro P (4, [.ref 0, .int v1.1, .int (v1.2.1 + 1), .retAddr 0], [], v1.2.2)) ∧ (¬ (v_M_isFirst v1.2.2 v1.2.1) = 0 → ((p_M_cuts v1.2.2 v1.2.1) ∧ am_Ev m_M_duties (WM ++ e1) ro P (28, [.ref 0, .int v1.1, .int v1.2.1, .retAddr 0], [.int ((v_M_cuts v1.2.2 v1.2.1).1)], ((v_M_cuts v1.2.2 v1.2.1).2)))))
      refine ⟨fun c2 => ?_, fun c2 => ?_⟩
      · skip
        exact hc1 (v1.1, (v1.2.1 + 1), v1.2.2) (by unfold s_M_duties_4; simp only [if_pos c1, if_pos c2])
      · have hp := hp.2 c2
        refine ⟨hp, ?_⟩
        obtain ⟨y2, c3⟩ : ∃ y, v_M_cuts v1.2.2 v1.2.1 = y := ⟨_, rfl⟩
        rw [c3]
        show am_Ev m_M_duties (WM ++ e1) ro P (28, [.ref 0, .int v1.1, .int v1.2.1, .retAddr 0], [.int y2.1], y2.2)
        refine am_Ev_G [31] 400 _ ?_
        show am_Ev m_M_duties (WM ++ e1) ro P (31, [.ref 0, .int v1.1, .int v1.2.1, .int y2.1], [.int (-1 : Int32), .int y2.1], y2.2)
        have key4 : am_Ev m_M_duties (WM ++ e1) ro P (46, [.ref 0, .int v1.1, .int v1.2.1, .int y2.1], [.int (if y2.1 = (-1 : Int32) then (-1 : Int32) else (if v1.1 = (-1 : Int32) then (-1 : Int32) else (v1.1 + y2.1)))], y2.2) := by
          refine am_Ev_G [4] 400 _ ?_
          show am_Ev m_M_duties (WM ++ e1) ro P (4, [.ref 0, .int (if y2.1 = (-1 : Int32) then (-1 : Int32) else (if v1.1 = (-1 : Int32) then (-1 : Int32) else (v1.1 + y2.1))), .int (v1.2.1 + 1), .int y2.1], [], y2.2)
          refine am_fg 3 ?_
          exact hc1 ((if y2.1 = (-1 : Int32) then (-1 : Int32) else (if v1.1 = (-1 : Int32) then (-1 : Int32) else (v1.1 + y2.1))), (v1.2.1 + 1), y2.2) (by unfold s_M_duties_4; simp only [if_pos c1, if_neg c2, bnd, c3])
        refine am_Ev_G [46] 400 _ ?_
        show ((y2.1 = (-1 : Int32) → am_Ev m_M_duties (WM ++ e1) ro P (46, [.ref 0, .int v1.1, .int v1.2.1, .int y2.1], [.int (-1 : Int32)], y2.2)) ∧ (¬ y2.1 = (-1 : Int32) → ((¬ v1.1 = (-1 : Int32) → am_Ev m_M_duties (WM ++ e1) ro P (46, [.ref 0, .int v1.1, .int v1.2.1, .int y2.1], [.int (v1.1 + y2.1)], y2.2)) ∧ (v1.1 = (-1 : Int32) → am_Ev m_M_duties (WM ++ e1) ro P (46, [.ref 0, .int v1.1, .int v1.2.1, .int y2.1], [.int (-1 : Int32)], y2.2)))))
        refine ⟨fun c5 => ?_, fun c5 => ?_⟩
        · skip
          simpa only [if_pos c5] using key4
        · skip
          refine ⟨fun c6 => ?_, fun c6 => ?_⟩
          · skip
            simpa only [if_neg c5, if_neg c6] using key4
          · skip
            simpa only [if_neg c5, if_pos c6] using key4
  · intro r1 hr7
    show am_Ev m_M_duties (WM ++ e1) ro P (53, [.ref 0, .int r1.1, .int r1.2.1, .retAddr 0], [], r1.2.2)
    refine am_Ev_G [] 400 _ ?_
    show P (.inl (some (.int r1.1))) r1.2.2
    exact hP (r1.1, r1.2.2) (by unfold v_M_duties; simp only [hr7])
theorem ok_M_duties {l : Launch} (hl : l.stackTraces = false) (e1 ro : List Sh) (k : Nat) : am_Ok l (WM ++ e1) ro (d_M_duties k) := by
  refine am_met hl (own := RX6) (M := m_M_duties) rfl pf_M_duties cu_M_duties rfl rfl rfl rfl (fun _ => rfl) rfl ⟨chk_M_duties, (am_c (fl_M_7) am_n), (am_c (lk_M_70) (am_c (lk_M_124) am_n)), (am_n), (am_n)⟩ (am_n) (am_c (ok_M_isFirst hl e1 _ 16) (am_c (ok_M_cuts hl e1 _ 16) am_n)) (fun z => nomatch z) ?_ ?_
  · intro _ as h hg
    show g_thr (g_M_duties (WM ++ e1) ro as h) = none
    unfold g_M_duties
    split <;> rfl
  · intro as h hg hp
    revert hg hp
    show g_ok (g_M_duties (WM ++ e1) ro as h) = true → g_pre (g_M_duties (WM ++ e1) ro as h) → _ ∧ am_Ev m_M_duties (WM ++ e1) ro (am_eq (g_M_duties (WM ++ e1) ro as h)) (0, am_ent as 4, [], h)
    unfold g_M_duties
    split
    · rename_i o1
      intro hc hp
      change (Nat.beq o1 0) = true at hc
      obtain rfl := am_beq hc
      exact ⟨Nat.le_of_ble_eq_true rfl, ev_M_duties h hp eqRIW⟩
    · exact fun z => nomatch z
def k_M_isTerminal (pc : Nat) : Ent := bif Nat.ble 7 pc then am_nop else bif Nat.ble 2 pc then (bif Nat.ble 3 pc then (bif Nat.ble 6 pc then (bif Nat.beq pc 6 then (.ireturn, 0, 0, []) else am_nop) else (bif Nat.beq pc 3 then (.invokestatic 127, 0, 0, []) else am_nop)) else (bif Nat.beq pc 2 then (.iconst 3, 3, 0, []) else am_nop)) else (bif Nat.ble 1 pc then (bif Nat.beq pc 1 then (.iconst 0, 0, 0, []) else am_nop) else (bif Nat.beq pc 0 then (.iload_n 0, 0, 0, []) else am_nop))
theorem lk_M_127 : am_lnk RX6 127 (d_M_in 0) := ⟨⟨by decide, by decide⟩, am_tb 8 (by decide +kernel) rfl, Or.inl ⟨by decide, rfl, am_tb 946 (by decide +kernel) rfl, Or.inl ⟨by decide, am_tb 945 (by decide +kernel) rfl⟩⟩⟩
def m_M_isTerminal : MI := (k_M_isTerminal, [], [(127, d_M_in 0)], [], [], [], [], 1, 22, some .boolean, fun _ => 0, 1)
def v_M_isTerminal (h : HP) (a1 : Int32) : Int32 := (v_M_in h a1 0 3)
def p_M_isTerminal (h : HP) (a1 : Int32) : Prop := ((((v_M_in h a1 0 3) : Int32) = 0 ∨ ((v_M_in h a1 0 3) : Int32) = 1))
def g_M_isTerminal (_ _ : List Sh) (as : List Value) (h : HP) : GR := match as with
  | [.int a1] => (true, p_M_isTerminal h a1, none, some (.int (v_M_isTerminal h a1)), h)
  | _ => bad h
def d_M_isTerminal (k : Nat) : CD := (k, yX6_isTerminal, cX6_isTerminal, 1, some .boolean, 1, 1, 22, 0, false, true, g_M_isTerminal)
theorem chk_M_isTerminal : ∀ pc, am_chk cX6_isTerminal k_M_isTerminal pc = true := am_chkall 7 (by decide +kernel) (fun pc h => by unfold k_M_isTerminal; rw [Nat.ble_eq_true_of_le h]; rfl)
theorem pf_M_isTerminal : plainFor yX6_isTerminal = true := by decide +kernel
theorem cu_M_isTerminal : Cond.code yX6_isTerminal cX6_isTerminal 1 (some .boolean) ∈ am_U := am_tb 944 (by decide +kernel) rfl
set_option maxHeartbeats 20000000 in
set_option maxRecDepth 100000 in
theorem ev_M_isTerminal {e1 ro : List Sh} {P : AR → HP → Prop} (h : HP) (a1 : Int32) (hp : p_M_isTerminal h a1) (hP : ∀ q, v_M_isTerminal h a1 = q → RI P h q) : am_Ev m_M_isTerminal (WM ++ e1) ro P (0, [.int a1], [], h) := by
  unfold p_M_isTerminal at hp
  refine am_Ev_G [] 400 _ ?_
  show (((((v_M_in h a1 0 3) : Int32) = 0 ∨ ((v_M_in h a1 0 3) : Int32) = 1)) ∧ P (.inl (some (.int (v_M_in h a1 0 3)))) h)
  refine ⟨hp, ?_⟩
  exact hP (v_M_in h a1 0 3) rfl
theorem ok_M_isTerminal {l : Launch} (hl : l.stackTraces = false) (e1 ro : List Sh) (k : Nat) : am_Ok l (WM ++ e1) ro (d_M_isTerminal k) := by
  refine am_met hl (own := RX6) (M := m_M_isTerminal) rfl pf_M_isTerminal cu_M_isTerminal rfl rfl rfl rfl (fun _ => rfl) rfl ⟨chk_M_isTerminal, (am_n), (am_c (lk_M_127) am_n), (am_n), (am_n)⟩ (am_n) (am_c (ok_M_in hl e1 _ 0) am_n) (fun z => nomatch z) ?_ ?_
  · intro _ as h hg
    show g_thr (g_M_isTerminal (WM ++ e1) ro as h) = none
    unfold g_M_isTerminal
    split <;> rfl
  · intro as h hg hp
    revert hg hp
    show g_ok (g_M_isTerminal (WM ++ e1) ro as h) = true → g_pre (g_M_isTerminal (WM ++ e1) ro as h) → _ ∧ am_Ev m_M_isTerminal (WM ++ e1) ro (am_eq (g_M_isTerminal (WM ++ e1) ro as h)) (0, am_ent as 1, [], h)
    unfold g_M_isTerminal
    split
    · rename_i a1
      intro hc hp
      exact ⟨Nat.le_of_ble_eq_true rfl, ev_M_isTerminal h a1 hp eqRI⟩
    · exact fun z => nomatch z
def k_M_isTrip (pc : Nat) : Ent := bif Nat.ble 15 pc then am_nop else bif Nat.ble 8 pc then (bif Nat.ble 10 pc then (bif Nat.ble 11 pc then (bif Nat.ble 14 pc then (bif Nat.beq pc 14 then (.ireturn, 0, 0, []) else am_nop) else (bif Nat.beq pc 11 then (.invokestatic 127, 0, 0, []) else am_nop)) else (bif Nat.beq pc 10 then (.isub, 0, 0, []) else am_nop)) else (bif Nat.ble 9 pc then (bif Nat.beq pc 9 then (.iconst 1, 1, 0, []) else am_nop) else (bif Nat.beq pc 8 then (.iaload, 0, 0, []) else am_nop))) else (bif Nat.ble 2 pc then (bif Nat.ble 3 pc then (bif Nat.ble 6 pc then (bif Nat.beq pc 6 then (.bipush 15, 15, 0, []) else am_nop) else (bif Nat.beq pc 3 then (.getfield 7, 0, 0, []) else am_nop)) else (bif Nat.beq pc 2 then (.aload_n 0, 0, 0, []) else am_nop)) else (bif Nat.ble 1 pc then (bif Nat.beq pc 1 then (.iconst 0, 0, 0, []) else am_nop) else (bif Nat.beq pc 0 then (.iload_n 1, 0, 1, []) else am_nop)))
def m_M_isTrip : MI := (k_M_isTrip, [(7, 6, 0)], [(127, d_M_in 0)], [], [], [], [], 1, 22, some .boolean, fun _ => 0, 1)
def v_M_isTrip (h : HP) (a1 : Int32) : Int32 := (v_M_in h a1 0 ((h.1 1 (am_ix 15)) - 1))
def p_M_isTrip (h : HP) (a1 : Int32) : Prop := ((((v_M_in h a1 0 ((h.1 1 (am_ix 15)) - 1)) : Int32) = 0 ∨ ((v_M_in h a1 0 ((h.1 1 (am_ix 15)) - 1)) : Int32) = 1))
def g_M_isTrip (_ _ : List Sh) (as : List Value) (h : HP) : GR := match as with
  | [.ref o1, .int a1] => (Nat.beq o1 0, p_M_isTrip h a1, none, some (.int (v_M_isTrip h a1)), h)
  | _ => bad h
def d_M_isTrip (k : Nat) : CD := (k, yX6_isTrip, cX6_isTrip, 2, some .boolean, 2, 1, 22, 0, false, true, g_M_isTrip)
theorem chk_M_isTrip : ∀ pc, am_chk cX6_isTrip k_M_isTrip pc = true := am_chkall 15 (by decide +kernel) (fun pc h => by unfold k_M_isTrip; rw [Nat.ble_eq_true_of_le h]; rfl)
theorem pf_M_isTrip : plainFor yX6_isTrip = true := by decide +kernel
theorem cu_M_isTrip : Cond.code yX6_isTrip cX6_isTrip 2 (some .boolean) ∈ am_U := am_tb 985 (by decide +kernel) rfl
set_option maxHeartbeats 20000000 in
set_option maxRecDepth 100000 in
theorem ev_M_isTrip {e1 ro : List Sh} {P : AR → HP → Prop} (h : HP) (a1 : Int32) (hp : p_M_isTrip h a1) (hP : ∀ q, v_M_isTrip h a1 = q → RI P h q) : am_Ev m_M_isTrip (WM ++ e1) ro P (0, [.ref 0, .int a1], [], h) := by
  unfold p_M_isTrip at hp
  refine am_Ev_G [14] 400 _ ?_
  show ((am_in 15 163) ∧ am_Ev m_M_isTrip (WM ++ e1) ro P (14, [.ref 0, .int a1], [.int (v_M_in h a1 0 ((h.1 1 (am_ix 15)) - 1))], h))
  refine ⟨⟨by decide, by decide⟩, ?_⟩
  refine am_Ev_G [] 400 _ ?_
  show (((((v_M_in h a1 0 ((h.1 1 (am_ix 15)) - 1)) : Int32) = 0 ∨ ((v_M_in h a1 0 ((h.1 1 (am_ix 15)) - 1)) : Int32) = 1)) ∧ P (.inl (some (.int (v_M_in h a1 0 ((h.1 1 (am_ix 15)) - 1))))) h)
  refine ⟨hp, ?_⟩
  exact hP (v_M_in h a1 0 ((h.1 1 (am_ix 15)) - 1)) rfl
theorem ok_M_isTrip {l : Launch} (hl : l.stackTraces = false) (e1 ro : List Sh) (k : Nat) : am_Ok l (WM ++ e1) ro (d_M_isTrip k) := by
  refine am_met hl (own := RX6) (M := m_M_isTrip) rfl pf_M_isTrip cu_M_isTrip rfl rfl rfl rfl (fun _ => rfl) rfl ⟨chk_M_isTrip, (am_c (fl_M_7) am_n), (am_c (lk_M_127) am_n), (am_n), (am_n)⟩ (am_n) (am_c (ok_M_in hl e1 _ 0) am_n) (fun z => nomatch z) ?_ ?_
  · intro _ as h hg
    show g_thr (g_M_isTrip (WM ++ e1) ro as h) = none
    unfold g_M_isTrip
    split <;> rfl
  · intro as h hg hp
    revert hg hp
    show g_ok (g_M_isTrip (WM ++ e1) ro as h) = true → g_pre (g_M_isTrip (WM ++ e1) ro as h) → _ ∧ am_Ev m_M_isTrip (WM ++ e1) ro (am_eq (g_M_isTrip (WM ++ e1) ro as h)) (0, am_ent as 2, [], h)
    unfold g_M_isTrip
    split
    · rename_i o1 a1
      intro hc hp
      change (Nat.beq o1 0) = true at hc
      obtain rfl := am_beq hc
      exact ⟨Nat.le_of_ble_eq_true rfl, ev_M_isTrip h a1 hp eqRI⟩
    · exact fun z => nomatch z
def k_M_layover (pc : Nat) : Ent := bif Nat.ble 58 pc then am_nop else bif Nat.ble 33 pc then (bif Nat.ble 46 pc then (bif Nat.ble 53 pc then (bif Nat.ble 55 pc then (bif Nat.ble 56 pc then (bif Nat.ble 57 pc then (bif Nat.beq pc 57 then (.ireturn, 0, 0, []) else am_nop) else (bif Nat.beq pc 56 then (.iload_n 3, 0, 3, []) else am_nop)) else (bif Nat.beq pc 55 then (.iastore, 0, 0, []) else am_nop)) else (bif Nat.ble 54 pc then (bif Nat.beq pc 54 then (.iload_n 2, 0, 2, []) else am_nop) else (bif Nat.beq pc 53 then (.iadd, 0, 0, []) else am_nop))) else (bif Nat.ble 48 pc then (bif Nat.ble 51 pc then (bif Nat.ble 52 pc then (bif Nat.beq pc 52 then (.iload_n 1, 0, 1, []) else am_nop) else (bif Nat.beq pc 51 then (.iconst 0, 0, 0, []) else am_nop)) else (bif Nat.beq pc 48 then (.getfield 7, 0, 0, []) else am_nop)) else (bif Nat.ble 47 pc then (bif Nat.beq pc 47 then (.aload_n 0, 0, 0, []) else am_nop) else (bif Nat.beq pc 46 then (.istore_n 3, 0, 3, []) else am_nop)))) else (bif Nat.ble 39 pc then (bif Nat.ble 43 pc then (bif Nat.ble 44 pc then (bif Nat.ble 45 pc then (bif Nat.beq pc 45 then (.iaload, 0, 0, []) else am_nop) else (bif Nat.beq pc 44 then (.iadd, 0, 0, []) else am_nop)) else (bif Nat.beq pc 43 then (.iload_n 1, 0, 1, []) else am_nop)) else (bif Nat.ble 42 pc then (bif Nat.beq pc 42 then (.iconst 0, 0, 0, []) else am_nop) else (bif Nat.beq pc 39 then (.getfield 7, 0, 0, []) else am_nop))) else (bif Nat.ble 35 pc then (bif Nat.ble 38 pc then (bif Nat.beq pc 38 then (.aload_n 0, 0, 0, []) else am_nop) else (bif Nat.beq pc 35 then (.invokevirtual 137, 0, 0, []) else am_nop)) else (bif Nat.ble 34 pc then (bif Nat.beq pc 34 then (.aload_n 0, 0, 0, []) else am_nop) else (bif Nat.beq pc 33 then (.ireturn, 0, 0, []) else am_nop))))) else (bif Nat.ble 17 pc then (bif Nat.ble 22 pc then (bif Nat.ble 28 pc then (bif Nat.ble 29 pc then (bif Nat.ble 30 pc then (bif Nat.beq pc 30 then (.invokevirtual 134, 0, 0, []) else am_nop) else (bif Nat.beq pc 29 then (.iconst 2, 2, 0, []) else am_nop)) else (bif Nat.beq pc 28 then (.aload_n 0, 0, 0, []) else am_nop)) else (bif Nat.ble 25 pc then (bif Nat.beq pc 25 then (.ifCond .ne 9, 0, 34, []) else am_nop) else (bif Nat.beq pc 22 then (.invokestatic 127, 0, 0, []) else am_nop))) else (bif Nat.ble 19 pc then (bif Nat.ble 20 pc then (bif Nat.beq pc 20 then (.bipush 60, 60, 0, []) else am_nop) else (bif Nat.beq pc 19 then (.iconst 0, 0, 0, []) else am_nop)) else (bif Nat.ble 18 pc then (bif Nat.beq pc 18 then (.iload_n 2, 0, 2, []) else am_nop) else (bif Nat.beq pc 17 then (.ireturn, 0, 0, []) else am_nop)))) else (bif Nat.ble 6 pc then (bif Nat.ble 12 pc then (bif Nat.ble 13 pc then (bif Nat.ble 14 pc then (bif Nat.beq pc 14 then (.invokevirtual 134, 0, 0, []) else am_nop) else (bif Nat.beq pc 13 then (.iconst 1, 1, 0, []) else am_nop)) else (bif Nat.beq pc 12 then (.aload_n 0, 0, 0, []) else am_nop)) else (bif Nat.ble 9 pc then (bif Nat.beq pc 9 then (.ifCond .ne 9, 0, 18, []) else am_nop) else (bif Nat.beq pc 6 then (.invokestatic 131, 0, 0, []) else am_nop))) else (bif Nat.ble 2 pc then (bif Nat.ble 5 pc then (bif Nat.beq pc 5 then (.iload_n 1, 0, 1, []) else am_nop) else (bif Nat.beq pc 2 then (.putfield 38, 0, 0, []) else am_nop)) else (bif Nat.ble 1 pc then (bif Nat.beq pc 1 then (.iconst 0, 0, 0, []) else am_nop) else (bif Nat.beq pc 0 then (.aload_n 0, 0, 0, []) else am_nop)))))
theorem lk_M_131 : am_lnk RX6 131 (d_M_isTerminal 0) := ⟨⟨by decide, by decide⟩, am_tb 8 (by decide +kernel) rfl, Or.inl ⟨by decide, rfl, am_tb 943 (by decide +kernel) rfl, Or.inl ⟨by decide, am_tb 942 (by decide +kernel) rfl⟩⟩⟩
theorem lk_M_134 : am_lnk RX6 134 (d_M_refuses 16) := ⟨⟨by decide, by decide⟩, am_tb 8 (by decide +kernel) rfl, Or.inr ⟨by decide, rfl, am_tb 950 (by decide +kernel) rfl, am_tp 69 (by decide +kernel) rfl, ⟨TX6, 16, rfl⟩, Or.inl (am_tb 948 (by decide +kernel) rfl)⟩⟩
theorem lk_M_137 : am_lnk RX6 137 (d_M_saves 16) := ⟨⟨by decide, by decide⟩, am_tb 8 (by decide +kernel) rfl, Or.inr ⟨by decide, rfl, am_tb 954 (by decide +kernel) rfl, am_tp 70 (by decide +kernel) rfl, ⟨TX6, 16, rfl⟩, Or.inl (am_tb 952 (by decide +kernel) rfl)⟩⟩
def m_M_layover : MI := (k_M_layover, [(7, 6, 0), (38, 6, 8)], [(127, d_M_in 0), (131, d_M_isTerminal 0), (134, d_M_refuses 16), (137, d_M_saves 16)], [], [], [], [], 2, 45, some .int, fun _ => 0, 1)
def v_M_layover (h : HP) (a1 : Int32) (a2 : Int32) : Int32 × HP := (if (v_M_isTerminal (am_si h 0 8 0) a1) = 0 then (bnd (v_M_refuses (am_si h 0 8 0) 1) fun y3 => (y3.1, y3.2)) else (if (v_M_in (am_si h 0 8 0) a2 0 60) = 0 then (bnd (v_M_refuses (am_si h 0 8 0) 2) fun y2 => (y2.1, y2.2)) else (bnd (v_M_saves (am_si h 0 8 0)) fun y1 => (y1.1 1 (am_ix (0 + a1)), (am_si y1 1 (am_ix (0 + a1)) a2)))))
def p_M_layover (h : HP) (a1 : Int32) (a2 : Int32) : Prop := ((p_M_isTerminal (am_si h 0 8 0) a1) ∧ (((v_M_isTerminal (am_si h 0 8 0) a1) = 0 → True) ∧ (¬ (v_M_isTerminal (am_si h 0 8 0) a1) = 0 → (((v_M_in (am_si h 0 8 0) a2 0 60) = 0 → True) ∧ (¬ (v_M_in (am_si h 0 8 0) a2 0 60) = 0 → ((p_M_saves (am_si h 0 8 0)) ∧ (∀ y1, v_M_saves (am_si h 0 8 0) = y1 → ((am_in (0 + a1) 163) ∧ (am_in (0 + a1) 163)))))))))
def g_M_layover (_ _ : List Sh) (as : List Value) (h : HP) : GR := match as with
  | [.ref o1, .int a1, .int a2] => (Nat.beq o1 0, p_M_layover h a1 a2, none, some (.int (v_M_layover h a1 a2).1), (v_M_layover h a1 a2).2)
  | _ => bad h
def d_M_layover (k : Nat) : CD := (k, yX6_layover, cX6_layover, 4, some .int, 3, 2, 45, 0, false, true, g_M_layover)
theorem chk_M_layover : ∀ pc, am_chk cX6_layover k_M_layover pc = true := am_chkall 58 (by decide +kernel) (fun pc h => by unfold k_M_layover; rw [Nat.ble_eq_true_of_le h]; rfl)
theorem pf_M_layover : plainFor yX6_layover = true := by decide +kernel
theorem cu_M_layover : Cond.code yX6_layover cX6_layover 4 (some .int) ∈ am_U := am_tb 941 (by decide +kernel) rfl
set_option maxHeartbeats 20000000 in
set_option maxRecDepth 100000 in
theorem ev_M_layover {e1 ro : List Sh} {P : AR → HP → Prop} (h : HP) (a1 : Int32) (a2 : Int32) (hp : p_M_layover h a1 a2) (hP : ∀ q, v_M_layover h a1 a2 = q → RIW P h q) : am_Ev m_M_layover (WM ++ e1) ro P (0, [.ref 0, .int a1, .int a2, .retAddr 0], [], h) := by
  unfold p_M_layover at hp
  refine am_Ev_G [17, 33, 38] 400 _ ?_
  show ((p_M_isTerminal (am_si h 0 8 0) a1) ∧ ((¬ (v_M_isTerminal (am_si h 0 8 0) a1) = 0 → ((¬ (v_M_in (am_si h 0 8 0) a2 0 60) = 0 → ((p_M_saves (am_si h 0 8 0)) ∧ am_Ev m_M_layover (WM ++ e1) ro P (38, [.ref 0, .int a1, .int a2, .retAddr 0], [], (v_M_saves (am_si h 0 8 0))))) ∧ ((v_M_in (am_si h 0 8 0) a2 0 60) = 0 → am_Ev m_M_layover (WM ++ e1) ro P (33, [.ref 0, .int a1, .int a2, .retAddr 0], [.int ((v_M_refuses (am_si h 0 8 0) 2).1)], ((v_M_refuses (am_si h 0 8 0) 2).2))))) ∧ ((v_M_isTerminal (am_si h 0 8 0) a1) = 0 → am_Ev m_M_layover (WM ++ e1) ro P (17, [.ref 0, .int a1, .int a2, .retAddr 0], [.int ((v_M_refuses (am_si h 0 8 0) 1).1)], ((v_M_refuses (am_si h 0 8 0) 1).2)))))
  obtain ⟨hob, hp⟩ := hp
  refine ⟨hob, ?_⟩
  refine ⟨fun c1 => ?_, fun c1 => ?_⟩
  · have hp := hp.2 c1
    refine ⟨fun c2 => ?_, fun c2 => ?_⟩
    · have hp := hp.2 c2
      obtain ⟨hob, hp⟩ := hp
      refine ⟨hob, ?_⟩
      obtain ⟨y1, c3⟩ : ∃ y, v_M_saves (am_si h 0 8 0) = y := ⟨_, rfl⟩
      rw [c3]
      have hp := hp _ c3
      show am_Ev m_M_layover (WM ++ e1) ro P (38, [.ref 0, .int a1, .int a2, .retAddr 0], [], y1)
      refine am_Ev_G [55] 400 _ ?_
      show ((am_in (0 + a1) 163) ∧ am_Ev m_M_layover (WM ++ e1) ro P (55, [.ref 0, .int a1, .int a2, .int (y1.1 1 (am_ix (0 + a1)))], [.int a2, .int (0 + a1), .ref 1], y1))
      obtain ⟨hob, hp⟩ := hp
      refine ⟨hob, ?_⟩
      refine am_Ev_G [] 400 _ ?_
      show ((am_in (0 + a1) 163) ∧ P (.inl (some (.int (y1.1 1 (am_ix (0 + a1)))))) (am_si y1 1 (am_ix (0 + a1)) a2))
      refine ⟨hp, ?_⟩
      exact hP (y1.1 1 (am_ix (0 + a1)), (am_si y1 1 (am_ix (0 + a1)) a2)) (by unfold v_M_layover; simp only [if_neg c1, if_neg c2, bnd, c3])
    · skip
      obtain ⟨y2, c4⟩ : ∃ y, v_M_refuses (am_si h 0 8 0) 2 = y := ⟨_, rfl⟩
      rw [c4]
      show am_Ev m_M_layover (WM ++ e1) ro P (33, [.ref 0, .int a1, .int a2, .retAddr 0], [.int y2.1], y2.2)
      refine am_Ev_G [] 400 _ ?_
      show P (.inl (some (.int y2.1))) y2.2
      exact hP (y2.1, y2.2) (by unfold v_M_layover; simp only [if_neg c1, if_pos c2, bnd, c4])
  · skip
    obtain ⟨y3, c5⟩ : ∃ y, v_M_refuses (am_si h 0 8 0) 1 = y := ⟨_, rfl⟩
    rw [c5]
    show am_Ev m_M_layover (WM ++ e1) ro P (17, [.ref 0, .int a1, .int a2, .retAddr 0], [.int y3.1], y3.2)
    refine am_Ev_G [] 400 _ ?_
    show P (.inl (some (.int y3.1))) y3.2
    exact hP (y3.1, y3.2) (by unfold v_M_layover; simp only [if_pos c1, bnd, c5])
theorem ok_M_layover {l : Launch} (hl : l.stackTraces = false) (e1 ro : List Sh) (k : Nat) : am_Ok l (WM ++ e1) ro (d_M_layover k) := by
  refine am_met hl (own := RX6) (M := m_M_layover) rfl pf_M_layover cu_M_layover rfl rfl rfl rfl (fun _ => rfl) rfl ⟨chk_M_layover, (am_c (fl_M_7) (am_c (fl_M_38) am_n)), (am_c (lk_M_127) (am_c (lk_M_131) (am_c (lk_M_134) (am_c (lk_M_137) am_n)))), (am_n), (am_n)⟩ (am_n) (am_c (ok_M_in hl e1 _ 0) (am_c (ok_M_isTerminal hl e1 _ 0) (am_c (ok_M_refuses hl e1 _ 16) (am_c (ok_M_saves hl e1 _ 16) am_n)))) (fun z => nomatch z) ?_ ?_
  · intro _ as h hg
    show g_thr (g_M_layover (WM ++ e1) ro as h) = none
    unfold g_M_layover
    split <;> rfl
  · intro as h hg hp
    revert hg hp
    show g_ok (g_M_layover (WM ++ e1) ro as h) = true → g_pre (g_M_layover (WM ++ e1) ro as h) → _ ∧ am_Ev m_M_layover (WM ++ e1) ro (am_eq (g_M_layover (WM ++ e1) ro as h)) (0, am_ent as 4, [], h)
    unfold g_M_layover
    split
    · rename_i o1 a1 a2
      intro hc hp
      change (Nat.beq o1 0) = true at hc
      obtain rfl := am_beq hc
      exact ⟨Nat.le_of_ble_eq_true rfl, ev_M_layover h a1 a2 hp eqRIW⟩
    · exact fun z => nomatch z
def k_M_relief (pc : Nat) : Ent := bif Nat.ble 49 pc then am_nop else bif Nat.ble 28 pc then (bif Nat.ble 38 pc then (bif Nat.ble 44 pc then (bif Nat.ble 46 pc then (bif Nat.ble 47 pc then (bif Nat.ble 48 pc then (bif Nat.beq pc 48 then (.ireturn, 0, 0, []) else am_nop) else (bif Nat.beq pc 47 then (.iaload, 0, 0, []) else am_nop)) else (bif Nat.beq pc 46 then (.iadd, 0, 0, []) else am_nop)) else (bif Nat.ble 45 pc then (bif Nat.beq pc 45 then (.iload_n 1, 0, 1, []) else am_nop) else (bif Nat.beq pc 44 then (.iconst 4, 4, 0, []) else am_nop))) else (bif Nat.ble 40 pc then (bif Nat.ble 41 pc then (bif Nat.beq pc 41 then (.getfield 7, 0, 0, []) else am_nop) else (bif Nat.beq pc 40 then (.aload_n 0, 0, 0, []) else am_nop)) else (bif Nat.ble 39 pc then (bif Nat.beq pc 39 then (.iastore, 0, 0, []) else am_nop) else (bif Nat.beq pc 38 then (.isub, 0, 0, []) else am_nop)))) else (bif Nat.ble 34 pc then (bif Nat.ble 36 pc then (bif Nat.ble 37 pc then (bif Nat.beq pc 37 then (.iaload, 0, 0, []) else am_nop) else (bif Nat.beq pc 36 then (.iadd, 0, 0, []) else am_nop)) else (bif Nat.ble 35 pc then (bif Nat.beq pc 35 then (.iload_n 1, 0, 1, []) else am_nop) else (bif Nat.beq pc 34 then (.iconst 4, 4, 0, []) else am_nop))) else (bif Nat.ble 30 pc then (bif Nat.ble 31 pc then (bif Nat.beq pc 31 then (.getfield 7, 0, 0, []) else am_nop) else (bif Nat.beq pc 30 then (.aload_n 0, 0, 0, []) else am_nop)) else (bif Nat.ble 29 pc then (bif Nat.beq pc 29 then (.iconst 1, 1, 0, []) else am_nop) else (bif Nat.beq pc 28 then (.iadd, 0, 0, []) else am_nop))))) else (bif Nat.ble 14 pc then (bif Nat.ble 22 pc then (bif Nat.ble 26 pc then (bif Nat.ble 27 pc then (bif Nat.beq pc 27 then (.iload_n 1, 0, 1, []) else am_nop) else (bif Nat.beq pc 26 then (.iconst 4, 4, 0, []) else am_nop)) else (bif Nat.ble 23 pc then (bif Nat.beq pc 23 then (.getfield 7, 0, 0, []) else am_nop) else (bif Nat.beq pc 22 then (.aload_n 0, 0, 0, []) else am_nop))) else (bif Nat.ble 18 pc then (bif Nat.ble 19 pc then (bif Nat.beq pc 19 then (.invokevirtual 137, 0, 0, []) else am_nop) else (bif Nat.beq pc 18 then (.aload_n 0, 0, 0, []) else am_nop)) else (bif Nat.ble 17 pc then (bif Nat.beq pc 17 then (.ireturn, 0, 0, []) else am_nop) else (bif Nat.beq pc 14 then (.invokevirtual 134, 0, 0, []) else am_nop)))) else (bif Nat.ble 6 pc then (bif Nat.ble 12 pc then (bif Nat.ble 13 pc then (bif Nat.beq pc 13 then (.iconst 1, 1, 0, []) else am_nop) else (bif Nat.beq pc 12 then (.aload_n 0, 0, 0, []) else am_nop)) else (bif Nat.ble 9 pc then (bif Nat.beq pc 9 then (.ifCond .ne 9, 0, 18, []) else am_nop) else (bif Nat.beq pc 6 then (.invokestatic 131, 0, 0, []) else am_nop))) else (bif Nat.ble 2 pc then (bif Nat.ble 5 pc then (bif Nat.beq pc 5 then (.iload_n 1, 0, 1, []) else am_nop) else (bif Nat.beq pc 2 then (.putfield 38, 0, 0, []) else am_nop)) else (bif Nat.ble 1 pc then (bif Nat.beq pc 1 then (.iconst 0, 0, 0, []) else am_nop) else (bif Nat.beq pc 0 then (.aload_n 0, 0, 0, []) else am_nop)))))
def m_M_relief : MI := (k_M_relief, [(7, 6, 0), (38, 6, 8)], [(131, d_M_isTerminal 0), (134, d_M_refuses 16), (137, d_M_saves 16)], [], [], [], [], 2, 45, some .int, fun _ => 0, 1)
def v_M_relief (h : HP) (a1 : Int32) : Int32 × HP := (if (v_M_isTerminal (am_si h 0 8 0) a1) = 0 then (bnd (v_M_refuses (am_si h 0 8 0) 1) fun y2 => (y2.1, y2.2)) else (bnd (v_M_saves (am_si h 0 8 0)) fun y1 => ((am_si y1 1 (am_ix (4 + a1)) (1 - (y1.1 1 (am_ix (4 + a1))))).1 1 (am_ix (4 + a1)), (am_si y1 1 (am_ix (4 + a1)) (1 - (y1.1 1 (am_ix (4 + a1))))))))
def p_M_relief (h : HP) (a1 : Int32) : Prop := ((p_M_isTerminal (am_si h 0 8 0) a1) ∧ (((v_M_isTerminal (am_si h 0 8 0) a1) = 0 → True) ∧ (¬ (v_M_isTerminal (am_si h 0 8 0) a1) = 0 → ((p_M_saves (am_si h 0 8 0)) ∧ (∀ y1, v_M_saves (am_si h 0 8 0) = y1 → ((am_in (4 + a1) 163) ∧ ((am_in (4 + a1) 163) ∧ (am_in (4 + a1) 163))))))))
def g_M_relief (_ _ : List Sh) (as : List Value) (h : HP) : GR := match as with
  | [.ref o1, .int a1] => (Nat.beq o1 0, p_M_relief h a1, none, some (.int (v_M_relief h a1).1), (v_M_relief h a1).2)
  | _ => bad h
def d_M_relief (k : Nat) : CD := (k, yX6_relief, cX6_relief, 2, some .int, 2, 2, 45, 0, false, true, g_M_relief)
theorem chk_M_relief : ∀ pc, am_chk cX6_relief k_M_relief pc = true := am_chkall 49 (by decide +kernel) (fun pc h => by unfold k_M_relief; rw [Nat.ble_eq_true_of_le h]; rfl)
theorem pf_M_relief : plainFor yX6_relief = true := by decide +kernel
theorem cu_M_relief : Cond.code yX6_relief cX6_relief 2 (some .int) ∈ am_U := am_tb 962 (by decide +kernel) rfl
set_option maxHeartbeats 20000000 in
set_option maxRecDepth 100000 in
theorem ev_M_relief {e1 ro : List Sh} {P : AR → HP → Prop} (h : HP) (a1 : Int32) (hp : p_M_relief h a1) (hP : ∀ q, v_M_relief h a1 = q → RIW P h q) : am_Ev m_M_relief (WM ++ e1) ro P (0, [.ref 0, .int a1], [], h) := by
  unfold p_M_relief at hp
  refine am_Ev_G [17, 22] 400 _ ?_
  show ((p_M_isTerminal (am_si h 0 8 0) a1) ∧ ((¬ (v_M_isTerminal (am_si h 0 8 0) a1) = 0 → ((p_M_saves (am_si h 0 8 0)) ∧ am_Ev m_M_relief (WM ++ e1) ro P (22, [.ref 0, .int a1], [], (v_M_saves (am_si h 0 8 0))))) ∧ ((v_M_isTerminal (am_si h 0 8 0) a1) = 0 → am_Ev m_M_relief (WM ++ e1) ro P (17, [.ref 0, .int a1], [.int ((v_M_refuses (am_si h 0 8 0) 1).1)], ((v_M_refuses (am_si h 0 8 0) 1).2)))))
  obtain ⟨hob, hp⟩ := hp
  refine ⟨hob, ?_⟩
  refine ⟨fun c1 => ?_, fun c1 => ?_⟩
  · have hp := hp.2 c1
    obtain ⟨hob, hp⟩ := hp
    refine ⟨hob, ?_⟩
    obtain ⟨y1, c2⟩ : ∃ y, v_M_saves (am_si h 0 8 0) = y := ⟨_, rfl⟩
    rw [c2]
    have hp := hp _ c2
    show am_Ev m_M_relief (WM ++ e1) ro P (22, [.ref 0, .int a1], [], y1)
    refine am_Ev_G [39] 400 _ ?_
    show ((am_in (4 + a1) 163) ∧ am_Ev m_M_relief (WM ++ e1) ro P (39, [.ref 0, .int a1], [.int (1 - (y1.1 1 (am_ix (4 + a1)))), .int (4 + a1), .ref 1], y1))
    obtain ⟨hob, hp⟩ := hp
    refine ⟨hob, ?_⟩
    refine am_Ev_G [] 400 _ ?_
    show ((am_in (4 + a1) 163) ∧ ((am_in (4 + a1) 163) ∧ P (.inl (some (.int ((am_si y1 1 (am_ix (4 + a1)) (1 - (y1.1 1 (am_ix (4 + a1))))).1 1 (am_ix (4 + a1)))))) (am_si y1 1 (am_ix (4 + a1)) (1 - (y1.1 1 (am_ix (4 + a1)))))))
    obtain ⟨hob, hp⟩ := hp
    refine ⟨hob, ?_⟩
    refine ⟨hp, ?_⟩
    exact hP ((am_si y1 1 (am_ix (4 + a1)) (1 - (y1.1 1 (am_ix (4 + a1))))).1 1 (am_ix (4 + a1)), (am_si y1 1 (am_ix (4 + a1)) (1 - (y1.1 1 (am_ix (4 + a1)))))) (by unfold v_M_relief; simp only [if_neg c1, bnd, c2])
  · skip
    obtain ⟨y2, c3⟩ : ∃ y, v_M_refuses (am_si h 0 8 0) 1 = y := ⟨_, rfl⟩
    rw [c3]
    show am_Ev m_M_relief (WM ++ e1) ro P (17, [.ref 0, .int a1], [.int y2.1], y2.2)
    refine am_Ev_G [] 400 _ ?_
    show P (.inl (some (.int y2.1))) y2.2
    exact hP (y2.1, y2.2) (by unfold v_M_relief; simp only [if_pos c1, bnd, c3])
theorem ok_M_relief {l : Launch} (hl : l.stackTraces = false) (e1 ro : List Sh) (k : Nat) : am_Ok l (WM ++ e1) ro (d_M_relief k) := by
  refine am_met hl (own := RX6) (M := m_M_relief) rfl pf_M_relief cu_M_relief rfl rfl rfl rfl (fun _ => rfl) rfl ⟨chk_M_relief, (am_c (fl_M_7) (am_c (fl_M_38) am_n)), (am_c (lk_M_131) (am_c (lk_M_134) (am_c (lk_M_137) am_n))), (am_n), (am_n)⟩ (am_n) (am_c (ok_M_isTerminal hl e1 _ 0) (am_c (ok_M_refuses hl e1 _ 16) (am_c (ok_M_saves hl e1 _ 16) am_n))) (fun z => nomatch z) ?_ ?_
  · intro _ as h hg
    show g_thr (g_M_relief (WM ++ e1) ro as h) = none
    unfold g_M_relief
    split <;> rfl
  · intro as h hg hp
    revert hg hp
    show g_ok (g_M_relief (WM ++ e1) ro as h) = true → g_pre (g_M_relief (WM ++ e1) ro as h) → _ ∧ am_Ev m_M_relief (WM ++ e1) ro (am_eq (g_M_relief (WM ++ e1) ro as h)) (0, am_ent as 2, [], h)
    unfold g_M_relief
    split
    · rename_i o1 a1
      intro hc hp
      change (Nat.beq o1 0) = true at hc
      obtain rfl := am_beq hc
      exact ⟨Nat.le_of_ble_eq_true rfl, ev_M_relief h a1 hp eqRIW⟩
    · exact fun z => nomatch z
def k_M_isTold (pc : Nat) : Ent := bif Nat.ble 52 pc then am_nop else bif Nat.ble 24 pc then (bif Nat.ble 37 pc then (bif Nat.ble 46 pc then (bif Nat.ble 50 pc then (bif Nat.ble 51 pc then (bif Nat.beq pc 51 then (.ireturn, 0, 0, []) else am_nop) else (bif Nat.beq pc 50 then (.iconst 0, 0, 0, []) else am_nop)) else (bif Nat.ble 47 pc then (bif Nat.beq pc 47 then (.goto 4, 0, 51, []) else am_nop) else (bif Nat.beq pc 46 then (.iconst 1, 1, 0, []) else am_nop))) else (bif Nat.ble 40 pc then (bif Nat.ble 43 pc then (bif Nat.beq pc 43 then (.ifCond .eq 7, 0, 50, []) else am_nop) else (bif Nat.beq pc 40 then (.invokestatic 127, 0, 0, []) else am_nop)) else (bif Nat.beq pc 37 then (.sipush 240, 240, 0, []) else am_nop))) else (bif Nat.ble 31 pc then (bif Nat.ble 34 pc then (bif Nat.ble 36 pc then (bif Nat.beq pc 36 then (.iconst 1, 1, 0, []) else am_nop) else (bif Nat.beq pc 34 then (.iload 4, 0, 4, []) else am_nop)) else (bif Nat.beq pc 31 then (.ifCond .eq 19, 0, 50, []) else am_nop)) else (bif Nat.ble 25 pc then (bif Nat.ble 28 pc then (bif Nat.beq pc 28 then (.invokestatic 127, 0, 0, []) else am_nop) else (bif Nat.beq pc 25 then (.sipush 1439, 1439, 0, []) else am_nop)) else (bif Nat.beq pc 24 then (.iconst 0, 0, 0, []) else am_nop)))) else (bif Nat.ble 10 pc then (bif Nat.ble 17 pc then (bif Nat.ble 20 pc then (bif Nat.ble 23 pc then (bif Nat.beq pc 23 then (.iload_n 3, 0, 3, []) else am_nop) else (bif Nat.beq pc 20 then (.ifCond .eq 30, 0, 50, []) else am_nop)) else (bif Nat.beq pc 17 then (.invokestatic 131, 0, 0, []) else am_nop)) else (bif Nat.ble 13 pc then (bif Nat.ble 16 pc then (bif Nat.beq pc 16 then (.iload_n 2, 0, 2, []) else am_nop) else (bif Nat.beq pc 13 then (.ifCond .eq 37, 0, 50, []) else am_nop)) else (bif Nat.beq pc 10 then (.invokestatic 131, 0, 0, []) else am_nop))) else (bif Nat.ble 3 pc then (bif Nat.ble 6 pc then (bif Nat.ble 9 pc then (bif Nat.beq pc 9 then (.iload_n 1, 0, 1, []) else am_nop) else (bif Nat.beq pc 6 then (.ifCond .eq 44, 0, 50, []) else am_nop)) else (bif Nat.beq pc 3 then (.invokestatic 127, 0, 0, []) else am_nop)) else (bif Nat.ble 1 pc then (bif Nat.ble 2 pc then (bif Nat.beq pc 2 then (.iconst 3, 3, 0, []) else am_nop) else (bif Nat.beq pc 1 then (.iconst 0, 0, 0, []) else am_nop)) else (bif Nat.beq pc 0 then (.iload_n 0, 0, 0, []) else am_nop))))
def m_M_isTold : MI := (k_M_isTold, [], [(127, d_M_in 0), (131, d_M_isTerminal 0)], [], [], [], [], 2, 42, some .boolean, fun _ => 0, 1)
def v_M_isTold (h : HP) (a1 : Int32) (a2 : Int32) (a3 : Int32) (a4 : Int32) (a5 : Int32) : Int32 := (if (v_M_in h a1 0 3) = 0 then (0 : Int32) else (if (v_M_isTerminal h a2) = 0 then (0 : Int32) else (if (v_M_isTerminal h a3) = 0 then (0 : Int32) else (if (v_M_in h a4 0 1439) = 0 then (0 : Int32) else (if (v_M_in h a5 1 240) = 0 then (0 : Int32) else 1)))))
def p_M_isTold (h : HP) (a1 : Int32) (a2 : Int32) (a3 : Int32) (a4 : Int32) (a5 : Int32) : Prop := (((v_M_in h a1 0 3) = 0 → True) ∧ (¬ (v_M_in h a1 0 3) = 0 → ((p_M_isTerminal h a2) ∧ (((v_M_isTerminal h a2) = 0 → True) ∧ (¬ (v_M_isTerminal h a2) = 0 → (p_M_isTerminal h a3))))))
def g_M_isTold (_ _ : List Sh) (as : List Value) (h : HP) : GR := match as with
  | [.int a1, .int a2, .int a3, .int a4, .int a5] => (true, p_M_isTold h a1 a2 a3 a4 a5, none, some (.int (v_M_isTold h a1 a2 a3 a4 a5)), h)
  | _ => bad h
def d_M_isTold (k : Nat) : CD := (k, yX6_isTold, cX6_isTold, 5, some .boolean, 5, 2, 42, 0, false, true, g_M_isTold)
theorem chk_M_isTold : ∀ pc, am_chk cX6_isTold k_M_isTold pc = true := am_chkall 52 (by decide +kernel) (fun pc h => by unfold k_M_isTold; rw [Nat.ble_eq_true_of_le h]; rfl)
theorem pf_M_isTold : plainFor yX6_isTold = true := by decide +kernel
theorem cu_M_isTold : Cond.code yX6_isTold cX6_isTold 5 (some .boolean) ∈ am_U := am_tb 969 (by decide +kernel) rfl
set_option maxHeartbeats 20000000 in
set_option maxRecDepth 100000 in
theorem ev_M_isTold {e1 ro : List Sh} {P : AR → HP → Prop} (h : HP) (a1 : Int32) (a2 : Int32) (a3 : Int32) (a4 : Int32) (a5 : Int32) (hp : p_M_isTold h a1 a2 a3 a4 a5) (hP : ∀ q, v_M_isTold h a1 a2 a3 a4 a5 = q → RI P h q) : am_Ev m_M_isTold (WM ++ e1) ro P (0, [.int a1, .int a2, .int a3, .int a4, .int a5], [], h) := by
  unfold p_M_isTold at hp
  refine am_Ev_G [6] 400 _ ?_
  show am_Ev m_M_isTold (WM ++ e1) ro P (6, [.int a1, .int a2, .int a3, .int a4, .int a5], [.int (v_M_in h a1 0 3)], h)
  have hpa := hp
  have key1 : am_Ev m_M_isTold (WM ++ e1) ro P (51, [.int a1, .int a2, .int a3, .int a4, .int a5], [.int (if (v_M_in h a1 0 3) = 0 then (0 : Int32) else (if (v_M_isTerminal h a2) = 0 then (0 : Int32) else (if (v_M_isTerminal h a3) = 0 then (0 : Int32) else (if (v_M_in h a4 0 1439) = 0 then (0 : Int32) else (if (v_M_in h a5 1 240) = 0 then (0 : Int32) else 1)))))], h) := by
    refine am_Ev_G [] 400 _ ?_
    show (((((if (v_M_in h a1 0 3) = 0 then (0 : Int32) else (if (v_M_isTerminal h a2) = 0 then (0 : Int32) else (if (v_M_isTerminal h a3) = 0 then (0 : Int32) else (if (v_M_in h a4 0 1439) = 0 then (0 : Int32) else (if (v_M_in h a5 1 240) = 0 then (0 : Int32) else 1))))) : Int32) = 0 ∨ ((if (v_M_in h a1 0 3) = 0 then (0 : Int32) else (if (v_M_isTerminal h a2) = 0 then (0 : Int32) else (if (v_M_isTerminal h a3) = 0 then (0 : Int32) else (if (v_M_in h a4 0 1439) = 0 then (0 : Int32) else (if (v_M_in h a5 1 240) = 0 then (0 : Int32) else 1))))) : Int32) = 1)) ∧ P (.inl (some (.int (if (v_M_in h a1 0 3) = 0 then (0 : Int32) else (if (v_M_isTerminal h a2) = 0 then (0 : Int32) else (if (v_M_isTerminal h a3) = 0 then (0 : Int32) else (if (v_M_in h a4 0 1439) = 0 then (0 : Int32) else (if (v_M_in h a5 1 240) = 0 then (0 : Int32) else 1)))))))) h)
    refine ⟨(by (repeat' split) <;> decide), ?_⟩
    exact hP (if (v_M_in h a1 0 3) = 0 then (0 : Int32) else (if (v_M_isTerminal h a2) = 0 then (0 : Int32) else (if (v_M_isTerminal h a3) = 0 then (0 : Int32) else (if (v_M_in h a4 0 1439) = 0 then (0 : Int32) else (if (v_M_in h a5 1 240) = 0 then (0 : Int32) else 1))))) rfl
  have hp := hpa
  refine am_Ev_G [51] 400 _ ?_
  show (((v_M_in h a1 0 3) = 0 → am_Ev m_M_isTold (WM ++ e1) ro P (51, [.int a1, .int a2, .int a3, .int a4, .int a5], [.int 0], h)) ∧ (¬ (v_M_in h a1 0 3) = 0 → ((p_M_isTerminal h a2) ∧ (((v_M_isTerminal h a2) = 0 → am_Ev m_M_isTold (WM ++ e1) ro P (51, [.int a1, .int a2, .int a3, .int a4, .int a5], [.int 0], h)) ∧ (¬ (v_M_isTerminal h a2) = 0 → ((p_M_isTerminal h a3) ∧ (((v_M_isTerminal h a3) = 0 → am_Ev m_M_isTold (WM ++ e1) ro P (51, [.int a1, .int a2, .int a3, .int a4, .int a5], [.int 0], h)) ∧ (¬ (v_M_isTerminal h a3) = 0 → (((v_M_in h a4 0 1439) = 0 → am_Ev m_M_isTold (WM ++ e1) ro P (51, [.int a1, .int a2, .int a3, .int a4, .int a5], [.int 0], h)) ∧ (¬ (v_M_in h a4 0 1439) = 0 → (((v_M_in h a5 1 240) = 0 → am_Ev m_M_isTold (WM ++ e1) ro P (51, [.int a1, .int a2, .int a3, .int a4, .int a5], [.int 0], h)) ∧ (¬ (v_M_in h a5 1 240) = 0 → am_Ev m_M_isTold (WM ++ e1) ro P (51, [.int a1, .int a2, .int a3, .int a4, .int a5], [.int 1], h)))))))))))))
  refine ⟨fun c2 => ?_, fun c2 => ?_⟩
  · skip
    simpa only [if_pos c2] using key1
  · have hp := hp.2 c2
    obtain ⟨hob, hp⟩ := hp
    refine ⟨hob, ?_⟩
    refine ⟨fun c3 => ?_, fun c3 => ?_⟩
    · skip
      simpa only [if_neg c2, if_pos c3] using key1
    · have hp := hp.2 c3
      refine ⟨hp, ?_⟩
      refine ⟨fun c4 => ?_, fun c4 => ?_⟩
      · skip
        simpa only [if_neg c2, if_neg c3, if_pos c4] using key1
      · skip
        refine ⟨fun c5 => ?_, fun c5 => ?_⟩
        · skip
          simpa only [if_neg c2, if_neg c3, if_neg c4, if_pos c5] using key1
        · skip
          refine ⟨fun c6 => ?_, fun c6 => ?_⟩
          · skip
            simpa only [if_neg c2, if_neg c3, if_neg c4, if_neg c5, if_pos c6] using key1
          · skip
            simpa only [if_neg c2, if_neg c3, if_neg c4, if_neg c5, if_neg c6] using key1
theorem ok_M_isTold {l : Launch} (hl : l.stackTraces = false) (e1 ro : List Sh) (k : Nat) : am_Ok l (WM ++ e1) ro (d_M_isTold k) := by
  refine am_met hl (own := RX6) (M := m_M_isTold) rfl pf_M_isTold cu_M_isTold rfl rfl rfl rfl (fun _ => rfl) rfl ⟨chk_M_isTold, (am_n), (am_c (lk_M_127) (am_c (lk_M_131) am_n)), (am_n), (am_n)⟩ (am_n) (am_c (ok_M_in hl e1 _ 0) (am_c (ok_M_isTerminal hl e1 _ 0) am_n)) (fun z => nomatch z) ?_ ?_
  · intro _ as h hg
    show g_thr (g_M_isTold (WM ++ e1) ro as h) = none
    unfold g_M_isTold
    split <;> rfl
  · intro as h hg hp
    revert hg hp
    show g_ok (g_M_isTold (WM ++ e1) ro as h) = true → g_pre (g_M_isTold (WM ++ e1) ro as h) → _ ∧ am_Ev m_M_isTold (WM ++ e1) ro (am_eq (g_M_isTold (WM ++ e1) ro as h)) (0, am_ent as 5, [], h)
    unfold g_M_isTold
    split
    · rename_i a1 a2 a3 a4 a5
      intro hc hp
      exact ⟨Nat.le_of_ble_eq_true rfl, ev_M_isTold h a1 a2 a3 a4 a5 hp eqRI⟩
    · exact fun z => nomatch z
def k_M_puts (pc : Nat) : Ent := bif Nat.ble 54 pc then am_nop else bif Nat.ble 25 pc then (bif Nat.ble 40 pc then (bif Nat.ble 46 pc then (bif Nat.ble 49 pc then (bif Nat.ble 50 pc then (bif Nat.ble 53 pc then (bif Nat.beq pc 53 then (.return_, 0, 0, []) else am_nop) else (bif Nat.beq pc 50 then (.invokevirtual 82, 0, 0, []) else am_nop)) else (bif Nat.beq pc 49 then (.iconst (-1), (-1 : Int32), 0, []) else am_nop)) else (bif Nat.ble 47 pc then (bif Nat.beq pc 47 then (.bipush 6, 6, 0, []) else am_nop) else (bif Nat.beq pc 46 then (.iload_n 1, 0, 1, []) else am_nop))) else (bif Nat.ble 42 pc then (bif Nat.ble 45 pc then (bif Nat.beq pc 45 then (.aload_n 0, 0, 0, []) else am_nop) else (bif Nat.beq pc 42 then (.invokevirtual 82, 0, 0, []) else am_nop)) else (bif Nat.ble 41 pc then (bif Nat.beq pc 41 then (.iconst 0, 0, 0, []) else am_nop) else (bif Nat.beq pc 40 then (.iconst 5, 5, 0, []) else am_nop)))) else (bif Nat.ble 32 pc then (bif Nat.ble 35 pc then (bif Nat.ble 38 pc then (bif Nat.ble 39 pc then (bif Nat.beq pc 39 then (.iload_n 1, 0, 1, []) else am_nop) else (bif Nat.beq pc 38 then (.aload_n 0, 0, 0, []) else am_nop)) else (bif Nat.beq pc 35 then (.invokevirtual 82, 0, 0, []) else am_nop)) else (bif Nat.ble 33 pc then (bif Nat.beq pc 33 then (.iload 6, 0, 6, []) else am_nop) else (bif Nat.beq pc 32 then (.iconst 4, 4, 0, []) else am_nop))) else (bif Nat.ble 30 pc then (bif Nat.ble 31 pc then (bif Nat.beq pc 31 then (.iload_n 1, 0, 1, []) else am_nop) else (bif Nat.beq pc 30 then (.aload_n 0, 0, 0, []) else am_nop)) else (bif Nat.ble 27 pc then (bif Nat.beq pc 27 then (.invokevirtual 82, 0, 0, []) else am_nop) else (bif Nat.beq pc 25 then (.iload 5, 0, 5, []) else am_nop))))) else (bif Nat.ble 11 pc then (bif Nat.ble 17 pc then (bif Nat.ble 22 pc then (bif Nat.ble 23 pc then (bif Nat.ble 24 pc then (bif Nat.beq pc 24 then (.iconst 3, 3, 0, []) else am_nop) else (bif Nat.beq pc 23 then (.iload_n 1, 0, 1, []) else am_nop)) else (bif Nat.beq pc 22 then (.aload_n 0, 0, 0, []) else am_nop)) else (bif Nat.ble 19 pc then (bif Nat.beq pc 19 then (.invokevirtual 82, 0, 0, []) else am_nop) else (bif Nat.beq pc 17 then (.iload 4, 0, 4, []) else am_nop))) else (bif Nat.ble 15 pc then (bif Nat.ble 16 pc then (bif Nat.beq pc 16 then (.iconst 2, 2, 0, []) else am_nop) else (bif Nat.beq pc 15 then (.iload_n 1, 0, 1, []) else am_nop)) else (bif Nat.ble 14 pc then (bif Nat.beq pc 14 then (.aload_n 0, 0, 0, []) else am_nop) else (bif Nat.beq pc 11 then (.invokevirtual 82, 0, 0, []) else am_nop)))) else (bif Nat.ble 4 pc then (bif Nat.ble 8 pc then (bif Nat.ble 9 pc then (bif Nat.ble 10 pc then (bif Nat.beq pc 10 then (.iload_n 3, 0, 3, []) else am_nop) else (bif Nat.beq pc 9 then (.iconst 1, 1, 0, []) else am_nop)) else (bif Nat.beq pc 8 then (.iload_n 1, 0, 1, []) else am_nop)) else (bif Nat.ble 7 pc then (bif Nat.beq pc 7 then (.aload_n 0, 0, 0, []) else am_nop) else (bif Nat.beq pc 4 then (.invokevirtual 82, 0, 0, []) else am_nop))) else (bif Nat.ble 2 pc then (bif Nat.ble 3 pc then (bif Nat.beq pc 3 then (.iload_n 2, 0, 2, []) else am_nop) else (bif Nat.beq pc 2 then (.iconst 0, 0, 0, []) else am_nop)) else (bif Nat.ble 1 pc then (bif Nat.beq pc 1 then (.iload_n 1, 0, 1, []) else am_nop) else (bif Nat.beq pc 0 then (.aload_n 0, 0, 0, []) else am_nop)))))
def m_M_puts : MI := (k_M_puts, [], [(82, d_M_becomes 16)], [], [], [], [], 1, 23, none, fun _ => 0, 1)
def v_M_puts (h : HP) (a1 : Int32) (a2 : Int32) (a3 : Int32) (a4 : Int32) (a5 : Int32) (a6 : Int32) : HP := (bnd (v_M_becomes h a1 0 a2) fun y1 => (bnd (v_M_becomes y1 a1 1 a3) fun y2 => (bnd (v_M_becomes y2 a1 2 a4) fun y3 => (bnd (v_M_becomes y3 a1 3 a5) fun y4 => (bnd (v_M_becomes y4 a1 4 a6) fun y5 => (bnd (v_M_becomes y5 a1 5 0) fun y6 => (bnd (v_M_becomes y6 a1 6 (-1 : Int32)) fun y7 => y7)))))))
def p_M_puts (h : HP) (a1 : Int32) (a2 : Int32) (a3 : Int32) (a4 : Int32) (a5 : Int32) (a6 : Int32) : Prop := ((p_M_becomes h a1 0 a2) ∧ (∀ y1, v_M_becomes h a1 0 a2 = y1 → ((p_M_becomes y1 a1 1 a3) ∧ (∀ y2, v_M_becomes y1 a1 1 a3 = y2 → ((p_M_becomes y2 a1 2 a4) ∧ (∀ y3, v_M_becomes y2 a1 2 a4 = y3 → ((p_M_becomes y3 a1 3 a5) ∧ (∀ y4, v_M_becomes y3 a1 3 a5 = y4 → ((p_M_becomes y4 a1 4 a6) ∧ (∀ y5, v_M_becomes y4 a1 4 a6 = y5 → ((p_M_becomes y5 a1 5 0) ∧ (∀ y6, v_M_becomes y5 a1 5 0 = y6 → (p_M_becomes y6 a1 6 (-1 : Int32))))))))))))))
def g_M_puts (_ _ : List Sh) (as : List Value) (h : HP) : GR := match as with
  | [.ref o1, .int a1, .int a2, .int a3, .int a4, .int a5, .int a6] => (Nat.beq o1 0, p_M_puts h a1 a2 a3 a4 a5 a6, none, none, v_M_puts h a1 a2 a3 a4 a5 a6)
  | _ => bad h
def d_M_puts (k : Nat) : CD := (k, yX6_puts, cX6_puts, 7, none, 7, 1, 23, 0, false, true, g_M_puts)
theorem chk_M_puts : ∀ pc, am_chk cX6_puts k_M_puts pc = true := am_chkall 54 (by decide +kernel) (fun pc h => by unfold k_M_puts; rw [Nat.ble_eq_true_of_le h]; rfl)
theorem pf_M_puts : plainFor yX6_puts = true := by decide +kernel
theorem cu_M_puts : Cond.code yX6_puts cX6_puts 7 (none) ∈ am_U := am_tb 973 (by decide +kernel) rfl
set_option maxHeartbeats 20000000 in
set_option maxRecDepth 100000 in
theorem ev_M_puts {e1 ro : List Sh} {P : AR → HP → Prop} (h : HP) (a1 : Int32) (a2 : Int32) (a3 : Int32) (a4 : Int32) (a5 : Int32) (a6 : Int32) (hp : p_M_puts h a1 a2 a3 a4 a5 a6) (hP : ∀ q, v_M_puts h a1 a2 a3 a4 a5 a6 = q → RVW P h q) : am_Ev m_M_puts (WM ++ e1) ro P (0, [.ref 0, .int a1, .int a2, .int a3, .int a4, .int a5, .int a6], [], h) := by
  unfold p_M_puts at hp
  refine am_Ev_G [7] 400 _ ?_
  show ((p_M_becomes h a1 0 a2) ∧ am_Ev m_M_puts (WM ++ e1) ro P (7, [.ref 0, .int a1, .int a2, .int a3, .int a4, .int a5, .int a6], [], (v_M_becomes h a1 0 a2)))
  obtain ⟨hob, hp⟩ := hp
  refine ⟨hob, ?_⟩
  obtain ⟨y1, c1⟩ : ∃ y, v_M_becomes h a1 0 a2 = y := ⟨_, rfl⟩
  rw [c1]
  have hp := hp _ c1
  show am_Ev m_M_puts (WM ++ e1) ro P (7, [.ref 0, .int a1, .int a2, .int a3, .int a4, .int a5, .int a6], [], y1)
  refine am_Ev_G [14] 400 _ ?_
  show ((p_M_becomes y1 a1 1 a3) ∧ am_Ev m_M_puts (WM ++ e1) ro P (14, [.ref 0, .int a1, .int a2, .int a3, .int a4, .int a5, .int a6], [], (v_M_becomes y1 a1 1 a3)))
  obtain ⟨hob, hp⟩ := hp
  refine ⟨hob, ?_⟩
  obtain ⟨y2, c2⟩ : ∃ y, v_M_becomes y1 a1 1 a3 = y := ⟨_, rfl⟩
  rw [c2]
  have hp := hp _ c2
  show am_Ev m_M_puts (WM ++ e1) ro P (14, [.ref 0, .int a1, .int a2, .int a3, .int a4, .int a5, .int a6], [], y2)
  refine am_Ev_G [22] 400 _ ?_
  show ((p_M_becomes y2 a1 2 a4) ∧ am_Ev m_M_puts (WM ++ e1) ro P (22, [.ref 0, .int a1, .int a2, .int a3, .int a4, .int a5, .int a6], [], (v_M_becomes y2 a1 2 a4)))
  obtain ⟨hob, hp⟩ := hp
  refine ⟨hob, ?_⟩
  obtain ⟨y3, c3⟩ : ∃ y, v_M_becomes y2 a1 2 a4 = y := ⟨_, rfl⟩
  rw [c3]
  have hp := hp _ c3
  show am_Ev m_M_puts (WM ++ e1) ro P (22, [.ref 0, .int a1, .int a2, .int a3, .int a4, .int a5, .int a6], [], y3)
  refine am_Ev_G [30] 400 _ ?_
  show ((p_M_becomes y3 a1 3 a5) ∧ am_Ev m_M_puts (WM ++ e1) ro P (30, [.ref 0, .int a1, .int a2, .int a3, .int a4, .int a5, .int a6], [], (v_M_becomes y3 a1 3 a5)))
  obtain ⟨hob, hp⟩ := hp
  refine ⟨hob, ?_⟩
  obtain ⟨y4, c4⟩ : ∃ y, v_M_becomes y3 a1 3 a5 = y := ⟨_, rfl⟩
  rw [c4]
  have hp := hp _ c4
  show am_Ev m_M_puts (WM ++ e1) ro P (30, [.ref 0, .int a1, .int a2, .int a3, .int a4, .int a5, .int a6], [], y4)
  refine am_Ev_G [38] 400 _ ?_
  show ((p_M_becomes y4 a1 4 a6) ∧ am_Ev m_M_puts (WM ++ e1) ro P (38, [.ref 0, .int a1, .int a2, .int a3, .int a4, .int a5, .int a6], [], (v_M_becomes y4 a1 4 a6)))
  obtain ⟨hob, hp⟩ := hp
  refine ⟨hob, ?_⟩
  obtain ⟨y5, c5⟩ : ∃ y, v_M_becomes y4 a1 4 a6 = y := ⟨_, rfl⟩
  rw [c5]
  have hp := hp _ c5
  show am_Ev m_M_puts (WM ++ e1) ro P (38, [.ref 0, .int a1, .int a2, .int a3, .int a4, .int a5, .int a6], [], y5)
  refine am_Ev_G [45] 400 _ ?_
  show ((p_M_becomes y5 a1 5 0) ∧ am_Ev m_M_puts (WM ++ e1) ro P (45, [.ref 0, .int a1, .int a2, .int a3, .int a4, .int a5, .int a6], [], (v_M_becomes y5 a1 5 0)))
  obtain ⟨hob, hp⟩ := hp
  refine ⟨hob, ?_⟩
  obtain ⟨y6, c6⟩ : ∃ y, v_M_becomes y5 a1 5 0 = y := ⟨_, rfl⟩
  rw [c6]
  have hp := hp _ c6
  show am_Ev m_M_puts (WM ++ e1) ro P (45, [.ref 0, .int a1, .int a2, .int a3, .int a4, .int a5, .int a6], [], y6)
  refine am_Ev_G [53] 400 _ ?_
  show ((p_M_becomes y6 a1 6 (-1 : Int32)) ∧ am_Ev m_M_puts (WM ++ e1) ro P (53, [.ref 0, .int a1, .int a2, .int a3, .int a4, .int a5, .int a6], [], (v_M_becomes y6 a1 6 (-1 : Int32))))
  refine ⟨hp, ?_⟩
  obtain ⟨y7, c7⟩ : ∃ y, v_M_becomes y6 a1 6 (-1 : Int32) = y := ⟨_, rfl⟩
  rw [c7]
  show am_Ev m_M_puts (WM ++ e1) ro P (53, [.ref 0, .int a1, .int a2, .int a3, .int a4, .int a5, .int a6], [], y7)
  refine am_Ev_G [] 400 _ ?_
  show P (.inl none) y7
  exact hP y7 (by unfold v_M_puts; simp only [bnd, c1, bnd, c2, bnd, c3, bnd, c4, bnd, c5, bnd, c6, bnd, c7])
theorem ok_M_puts {l : Launch} (hl : l.stackTraces = false) (e1 ro : List Sh) (k : Nat) : am_Ok l (WM ++ e1) ro (d_M_puts k) := by
  refine am_met hl (own := RX6) (M := m_M_puts) rfl pf_M_puts cu_M_puts rfl rfl rfl rfl (fun _ => rfl) rfl ⟨chk_M_puts, (am_n), (am_c (lk_M_82) am_n), (am_n), (am_n)⟩ (am_n) (am_c (ok_M_becomes hl e1 _ 16) am_n) (fun z => nomatch z) ?_ ?_
  · intro _ as h hg
    show g_thr (g_M_puts (WM ++ e1) ro as h) = none
    unfold g_M_puts
    split <;> rfl
  · intro as h hg hp
    revert hg hp
    show g_ok (g_M_puts (WM ++ e1) ro as h) = true → g_pre (g_M_puts (WM ++ e1) ro as h) → _ ∧ am_Ev m_M_puts (WM ++ e1) ro (am_eq (g_M_puts (WM ++ e1) ro as h)) (0, am_ent as 7, [], h)
    unfold g_M_puts
    split
    · rename_i o1 a1 a2 a3 a4 a5 a6
      intro hc hp
      change (Nat.beq o1 0) = true at hc
      obtain rfl := am_beq hc
      exact ⟨Nat.le_of_ble_eq_true rfl, ev_M_puts h a1 a2 a3 a4 a5 a6 hp eqRVW⟩
    · exact fun z => nomatch z
def k_M_trip (pc : Nat) : Ent := bif Nat.ble 85 pc then am_nop else bif Nat.ble 46 pc then (bif Nat.ble 68 pc then (bif Nat.ble 75 pc then (bif Nat.ble 81 pc then (bif Nat.ble 83 pc then (bif Nat.ble 84 pc then (bif Nat.beq pc 84 then (.ireturn, 0, 0, []) else am_nop) else (bif Nat.beq pc 83 then (.isub, 0, 0, []) else am_nop)) else (bif Nat.ble 82 pc then (bif Nat.beq pc 82 then (.iconst 1, 1, 0, []) else am_nop) else (bif Nat.beq pc 81 then (.iaload, 0, 0, []) else am_nop))) else (bif Nat.ble 76 pc then (bif Nat.ble 79 pc then (bif Nat.beq pc 79 then (.bipush 15, 15, 0, []) else am_nop) else (bif Nat.beq pc 76 then (.getfield 7, 0, 0, []) else am_nop)) else (bif Nat.beq pc 75 then (.aload_n 0, 0, 0, []) else am_nop))) else (bif Nat.ble 72 pc then (bif Nat.ble 73 pc then (bif Nat.ble 74 pc then (bif Nat.beq pc 74 then (.iastore, 0, 0, []) else am_nop) else (bif Nat.beq pc 73 then (.iadd, 0, 0, []) else am_nop)) else (bif Nat.beq pc 72 then (.iconst 1, 1, 0, []) else am_nop)) else (bif Nat.ble 70 pc then (bif Nat.ble 71 pc then (bif Nat.beq pc 71 then (.iaload, 0, 0, []) else am_nop) else (bif Nat.beq pc 70 then (.dup2, 0, 0, []) else am_nop)) else (bif Nat.beq pc 68 then (.bipush 15, 15, 0, []) else am_nop)))) else (bif Nat.ble 55 pc then (bif Nat.ble 59 pc then (bif Nat.ble 64 pc then (bif Nat.ble 65 pc then (bif Nat.beq pc 65 then (.getfield 7, 0, 0, []) else am_nop) else (bif Nat.beq pc 64 then (.aload_n 0, 0, 0, []) else am_nop)) else (bif Nat.ble 61 pc then (bif Nat.beq pc 61 then (.invokevirtual 144, 0, 0, []) else am_nop) else (bif Nat.beq pc 59 then (.iload 5, 0, 5, []) else am_nop))) else (bif Nat.ble 56 pc then (bif Nat.ble 57 pc then (bif Nat.beq pc 57 then (.iload 4, 0, 4, []) else am_nop) else (bif Nat.beq pc 56 then (.iload_n 3, 0, 3, []) else am_nop)) else (bif Nat.beq pc 55 then (.iload_n 2, 0, 2, []) else am_nop))) else (bif Nat.ble 51 pc then (bif Nat.ble 53 pc then (bif Nat.ble 54 pc then (bif Nat.beq pc 54 then (.iload_n 1, 0, 1, []) else am_nop) else (bif Nat.beq pc 53 then (.iaload, 0, 0, []) else am_nop)) else (bif Nat.beq pc 51 then (.bipush 15, 15, 0, []) else am_nop)) else (bif Nat.ble 47 pc then (bif Nat.ble 48 pc then (bif Nat.beq pc 48 then (.getfield 7, 0, 0, []) else am_nop) else (bif Nat.beq pc 47 then (.aload_n 0, 0, 0, []) else am_nop)) else (bif Nat.beq pc 46 then (.aload_n 0, 0, 0, []) else am_nop))))) else (bif Nat.ble 23 pc then (bif Nat.ble 33 pc then (bif Nat.ble 38 pc then (bif Nat.ble 42 pc then (bif Nat.ble 43 pc then (bif Nat.beq pc 43 then (.invokevirtual 137, 0, 0, []) else am_nop) else (bif Nat.beq pc 42 then (.aload_n 0, 0, 0, []) else am_nop)) else (bif Nat.ble 41 pc then (bif Nat.beq pc 41 then (.ireturn, 0, 0, []) else am_nop) else (bif Nat.beq pc 38 then (.invokevirtual 134, 0, 0, []) else am_nop))) else (bif Nat.ble 36 pc then (bif Nat.ble 37 pc then (bif Nat.beq pc 37 then (.iconst 2, 2, 0, []) else am_nop) else (bif Nat.beq pc 36 then (.aload_n 0, 0, 0, []) else am_nop)) else (bif Nat.beq pc 33 then (.if_icmp .ne 9, 0, 42, []) else am_nop))) else (bif Nat.ble 28 pc then (bif Nat.ble 30 pc then (bif Nat.ble 31 pc then (bif Nat.beq pc 31 then (.bipush 20, 20, 0, []) else am_nop) else (bif Nat.beq pc 30 then (.iaload, 0, 0, []) else am_nop)) else (bif Nat.beq pc 28 then (.bipush 15, 15, 0, []) else am_nop)) else (bif Nat.ble 24 pc then (bif Nat.ble 25 pc then (bif Nat.beq pc 25 then (.getfield 7, 0, 0, []) else am_nop) else (bif Nat.beq pc 24 then (.aload_n 0, 0, 0, []) else am_nop)) else (bif Nat.beq pc 23 then (.ireturn, 0, 0, []) else am_nop)))) else (bif Nat.ble 8 pc then (bif Nat.ble 15 pc then (bif Nat.ble 19 pc then (bif Nat.ble 20 pc then (bif Nat.beq pc 20 then (.invokevirtual 134, 0, 0, []) else am_nop) else (bif Nat.beq pc 19 then (.iconst 1, 1, 0, []) else am_nop)) else (bif Nat.ble 18 pc then (bif Nat.beq pc 18 then (.aload_n 0, 0, 0, []) else am_nop) else (bif Nat.beq pc 15 then (.ifCond .ne 9, 0, 24, []) else am_nop))) else (bif Nat.ble 10 pc then (bif Nat.ble 12 pc then (bif Nat.beq pc 12 then (.invokestatic 140, 0, 0, []) else am_nop) else (bif Nat.beq pc 10 then (.iload 5, 0, 5, []) else am_nop)) else (bif Nat.beq pc 8 then (.iload 4, 0, 4, []) else am_nop))) else (bif Nat.ble 5 pc then (bif Nat.ble 6 pc then (bif Nat.ble 7 pc then (bif Nat.beq pc 7 then (.iload_n 3, 0, 3, []) else am_nop) else (bif Nat.beq pc 6 then (.iload_n 2, 0, 2, []) else am_nop)) else (bif Nat.beq pc 5 then (.iload_n 1, 0, 1, []) else am_nop)) else (bif Nat.ble 1 pc then (bif Nat.ble 2 pc then (bif Nat.beq pc 2 then (.putfield 38, 0, 0, []) else am_nop) else (bif Nat.beq pc 1 then (.iconst 0, 0, 0, []) else am_nop)) else (bif Nat.beq pc 0 then (.aload_n 0, 0, 0, []) else am_nop)))))
theorem lk_M_140 : am_lnk RX6 140 (d_M_isTold 0) := ⟨⟨by decide, by decide⟩, am_tb 8 (by decide +kernel) rfl, Or.inl ⟨by decide, rfl, am_tb 968 (by decide +kernel) rfl, Or.inl ⟨by decide, am_tb 967 (by decide +kernel) rfl⟩⟩⟩
theorem lk_M_144 : am_lnk RX6 144 (d_M_puts 16) := ⟨⟨by decide, by decide⟩, am_tb 8 (by decide +kernel) rfl, Or.inr ⟨by decide, rfl, am_tb 972 (by decide +kernel) rfl, am_tp 71 (by decide +kernel) rfl, ⟨TX6, 16, rfl⟩, Or.inl (am_tb 970 (by decide +kernel) rfl)⟩⟩
def m_M_trip : MI := (k_M_trip, [(7, 6, 0), (38, 6, 8)], [(134, d_M_refuses 16), (137, d_M_saves 16), (140, d_M_isTold 0), (144, d_M_puts 16)], [], [], [], [], 3, 66, some .int, fun _ => 0, 1)
def v_M_trip (h : HP) (a1 : Int32) (a2 : Int32) (a3 : Int32) (a4 : Int32) (a5 : Int32) : Int32 × HP := (if (v_M_isTold (am_si h 0 8 0) a1 a2 a3 a4 a5) = 0 then (bnd (v_M_refuses (am_si h 0 8 0) 1) fun y4 => (y4.1, y4.2)) else (if ((am_si h 0 8 0).1 1 (am_ix 15)) = 20 then (bnd (v_M_refuses (am_si h 0 8 0) 2) fun y3 => (y3.1, y3.2)) else (bnd (v_M_saves (am_si h 0 8 0)) fun y1 => (bnd (v_M_puts y1 (y1.1 1 (am_ix 15)) a1 a2 a3 a4 a5) fun y2 => ((((am_si y2 1 (am_ix 15) ((y2.1 1 (am_ix 15)) + 1)).1 1 (am_ix 15)) - 1), (am_si y2 1 (am_ix 15) ((y2.1 1 (am_ix 15)) + 1)))))))
def p_M_trip (h : HP) (a1 : Int32) (a2 : Int32) (a3 : Int32) (a4 : Int32) (a5 : Int32) : Prop := ((p_M_isTold (am_si h 0 8 0) a1 a2 a3 a4 a5) ∧ (((v_M_isTold (am_si h 0 8 0) a1 a2 a3 a4 a5) = 0 → True) ∧ (¬ (v_M_isTold (am_si h 0 8 0) a1 a2 a3 a4 a5) = 0 → ((((am_si h 0 8 0).1 1 (am_ix 15)) = 20 → True) ∧ (¬ ((am_si h 0 8 0).1 1 (am_ix 15)) = 20 → ((p_M_saves (am_si h 0 8 0)) ∧ (∀ y1, v_M_saves (am_si h 0 8 0) = y1 → (p_M_puts y1 (y1.1 1 (am_ix 15)) a1 a2 a3 a4 a5))))))))
def g_M_trip (_ _ : List Sh) (as : List Value) (h : HP) : GR := match as with
  | [.ref o1, .int a1, .int a2, .int a3, .int a4, .int a5] => (Nat.beq o1 0, p_M_trip h a1 a2 a3 a4 a5, none, some (.int (v_M_trip h a1 a2 a3 a4 a5).1), (v_M_trip h a1 a2 a3 a4 a5).2)
  | _ => bad h
def d_M_trip (k : Nat) : CD := (k, yX6_trip, cX6_trip, 6, some .int, 6, 3, 66, 0, false, true, g_M_trip)
theorem chk_M_trip : ∀ pc, am_chk cX6_trip k_M_trip pc = true := am_chkall 85 (by decide +kernel) (fun pc h => by unfold k_M_trip; rw [Nat.ble_eq_true_of_le h]; rfl)
theorem pf_M_trip : plainFor yX6_trip = true := by decide +kernel
theorem cu_M_trip : Cond.code yX6_trip cX6_trip 6 (some .int) ∈ am_U := am_tb 966 (by decide +kernel) rfl
set_option maxHeartbeats 20000000 in
set_option maxRecDepth 100000 in
theorem ev_M_trip {e1 ro : List Sh} {P : AR → HP → Prop} (h : HP) (a1 : Int32) (a2 : Int32) (a3 : Int32) (a4 : Int32) (a5 : Int32) (hp : p_M_trip h a1 a2 a3 a4 a5) (hP : ∀ q, v_M_trip h a1 a2 a3 a4 a5 = q → RIW P h q) : am_Ev m_M_trip (WM ++ e1) ro P (0, [.ref 0, .int a1, .int a2, .int a3, .int a4, .int a5], [], h) := by
  unfold p_M_trip at hp
  refine am_Ev_G [15] 400 _ ?_
  show ((p_M_isTold (am_si h 0 8 0) a1 a2 a3 a4 a5) ∧ am_Ev m_M_trip (WM ++ e1) ro P (15, [.ref 0, .int a1, .int a2, .int a3, .int a4, .int a5], [.int (v_M_isTold (am_si h 0 8 0) a1 a2 a3 a4 a5)], (am_si h 0 8 0)))
  obtain ⟨hob, hp⟩ := hp
  refine ⟨hob, ?_⟩
  refine am_Ev_G [23, 41, 46] 400 _ ?_
  show ((¬ (v_M_isTold (am_si h 0 8 0) a1 a2 a3 a4 a5) = 0 → ((am_in 15 163) ∧ ((¬ ((am_si h 0 8 0).1 1 (am_ix 15)) = 20 → ((p_M_saves (am_si h 0 8 0)) ∧ am_Ev m_M_trip (WM ++ e1) ro P (46, [.ref 0, .int a1, .int a2, .int a3, .int a4, .int a5], [], (v_M_saves (am_si h 0 8 0))))) ∧ (((am_si h 0 8 0).1 1 (am_ix 15)) = 20 → am_Ev m_M_trip (WM ++ e1) ro P (41, [.ref 0, .int a1, .int a2, .int a3, .int a4, .int a5], [.int ((v_M_refuses (am_si h 0 8 0) 2).1)], ((v_M_refuses (am_si h 0 8 0) 2).2)))))) ∧ ((v_M_isTold (am_si h 0 8 0) a1 a2 a3 a4 a5) = 0 → am_Ev m_M_trip (WM ++ e1) ro P (23, [.ref 0, .int a1, .int a2, .int a3, .int a4, .int a5], [.int ((v_M_refuses (am_si h 0 8 0) 1).1)], ((v_M_refuses (am_si h 0 8 0) 1).2))))
  refine ⟨fun c1 => ?_, fun c1 => ?_⟩
  · have hp := hp.2 c1
    refine ⟨⟨by decide, by decide⟩, ?_⟩
    refine ⟨fun c2 => ?_, fun c2 => ?_⟩
    · have hp := hp.2 c2
      obtain ⟨hob, hp⟩ := hp
      refine ⟨hob, ?_⟩
      obtain ⟨y1, c3⟩ : ∃ y, v_M_saves (am_si h 0 8 0) = y := ⟨_, rfl⟩
      rw [c3]
      have hp := hp _ c3
      show am_Ev m_M_trip (WM ++ e1) ro P (46, [.ref 0, .int a1, .int a2, .int a3, .int a4, .int a5], [], y1)
      refine am_Ev_G [64] 400 _ ?_
      show ((am_in 15 163) ∧ ((p_M_puts y1 (y1.1 1 (am_ix 15)) a1 a2 a3 a4 a5) ∧ am_Ev m_M_trip (WM ++ e1) ro P (64, [.ref 0, .int a1, .int a2, .int a3, .int a4, .int a5], [], (v_M_puts y1 (y1.1 1 (am_ix 15)) a1 a2 a3 a4 a5))))
      refine ⟨⟨by decide, by decide⟩, ?_⟩
      refine ⟨hp, ?_⟩
      obtain ⟨y2, c4⟩ : ∃ y, v_M_puts y1 (y1.1 1 (am_ix 15)) a1 a2 a3 a4 a5 = y := ⟨_, rfl⟩
      rw [c4]
      show am_Ev m_M_trip (WM ++ e1) ro P (64, [.ref 0, .int a1, .int a2, .int a3, .int a4, .int a5], [], y2)
      refine am_Ev_G [] 400 _ ?_
      show ((am_in 15 163) ∧ ((am_in 15 163) ∧ ((am_in 15 163) ∧ P (.inl (some (.int (((am_si y2 1 (am_ix 15) ((y2.1 1 (am_ix 15)) + 1)).1 1 (am_ix 15)) - 1)))) (am_si y2 1 (am_ix 15) ((y2.1 1 (am_ix 15)) + 1)))))
      refine ⟨⟨by decide, by decide⟩, ?_⟩
      refine ⟨⟨by decide, by decide⟩, ?_⟩
      refine ⟨⟨by decide, by decide⟩, ?_⟩
      exact hP ((((am_si y2 1 (am_ix 15) ((y2.1 1 (am_ix 15)) + 1)).1 1 (am_ix 15)) - 1), (am_si y2 1 (am_ix 15) ((y2.1 1 (am_ix 15)) + 1))) (by unfold v_M_trip; simp only [if_neg c1, if_neg c2, bnd, c3, bnd, c4])
    · skip
      obtain ⟨y3, c5⟩ : ∃ y, v_M_refuses (am_si h 0 8 0) 2 = y := ⟨_, rfl⟩
      rw [c5]
      show am_Ev m_M_trip (WM ++ e1) ro P (41, [.ref 0, .int a1, .int a2, .int a3, .int a4, .int a5], [.int y3.1], y3.2)
      refine am_Ev_G [] 400 _ ?_
      show P (.inl (some (.int y3.1))) y3.2
      exact hP (y3.1, y3.2) (by unfold v_M_trip; simp only [if_neg c1, if_pos c2, bnd, c5])
  · skip
    obtain ⟨y4, c6⟩ : ∃ y, v_M_refuses (am_si h 0 8 0) 1 = y := ⟨_, rfl⟩
    rw [c6]
    show am_Ev m_M_trip (WM ++ e1) ro P (23, [.ref 0, .int a1, .int a2, .int a3, .int a4, .int a5], [.int y4.1], y4.2)
    refine am_Ev_G [] 400 _ ?_
    show P (.inl (some (.int y4.1))) y4.2
    exact hP (y4.1, y4.2) (by unfold v_M_trip; simp only [if_pos c1, bnd, c6])
theorem ok_M_trip {l : Launch} (hl : l.stackTraces = false) (e1 ro : List Sh) (k : Nat) : am_Ok l (WM ++ e1) ro (d_M_trip k) := by
  refine am_met hl (own := RX6) (M := m_M_trip) rfl pf_M_trip cu_M_trip rfl rfl rfl rfl (fun _ => rfl) rfl ⟨chk_M_trip, (am_c (fl_M_7) (am_c (fl_M_38) am_n)), (am_c (lk_M_134) (am_c (lk_M_137) (am_c (lk_M_140) (am_c (lk_M_144) am_n)))), (am_n), (am_n)⟩ (am_n) (am_c (ok_M_refuses hl e1 _ 16) (am_c (ok_M_saves hl e1 _ 16) (am_c (ok_M_isTold hl e1 _ 0) (am_c (ok_M_puts hl e1 _ 16) am_n)))) (fun z => nomatch z) ?_ ?_
  · intro _ as h hg
    show g_thr (g_M_trip (WM ++ e1) ro as h) = none
    unfold g_M_trip
    split <;> rfl
  · intro as h hg hp
    revert hg hp
    show g_ok (g_M_trip (WM ++ e1) ro as h) = true → g_pre (g_M_trip (WM ++ e1) ro as h) → _ ∧ am_Ev m_M_trip (WM ++ e1) ro (am_eq (g_M_trip (WM ++ e1) ro as h)) (0, am_ent as 6, [], h)
    unfold g_M_trip
    split
    · rename_i o1 a1 a2 a3 a4 a5
      intro hc hp
      change (Nat.beq o1 0) = true at hc
      obtain rfl := am_beq hc
      exact ⟨Nat.le_of_ble_eq_true rfl, ev_M_trip h a1 a2 a3 a4 a5 hp eqRIW⟩
    · exact fun z => nomatch z
def k_M_parts (pc : Nat) : Ent := bif Nat.ble 28 pc then am_nop else bif Nat.ble 13 pc then (bif Nat.ble 20 pc then (bif Nat.ble 23 pc then (bif Nat.ble 24 pc then (bif Nat.ble 27 pc then (bif Nat.beq pc 27 then (.return_, 0, 0, []) else am_nop) else (bif Nat.beq pc 24 then (.invokevirtual 82, 0, 0, []) else am_nop)) else (bif Nat.beq pc 23 then (.iconst (-1), (-1 : Int32), 0, []) else am_nop)) else (bif Nat.ble 21 pc then (bif Nat.beq pc 21 then (.bipush 6, 6, 0, []) else am_nop) else (bif Nat.beq pc 20 then (.iload_n 1, 0, 1, []) else am_nop))) else (bif Nat.ble 16 pc then (bif Nat.ble 19 pc then (bif Nat.beq pc 19 then (.aload_n 0, 0, 0, []) else am_nop) else (bif Nat.beq pc 16 then (.invokevirtual 82, 0, 0, []) else am_nop)) else (bif Nat.ble 15 pc then (bif Nat.beq pc 15 then (.iconst (-1), (-1 : Int32), 0, []) else am_nop) else (bif Nat.beq pc 13 then (.bipush 6, 6, 0, []) else am_nop)))) else (bif Nat.ble 6 pc then (bif Nat.ble 8 pc then (bif Nat.ble 11 pc then (bif Nat.ble 12 pc then (bif Nat.beq pc 12 then (.iload_n 2, 0, 2, []) else am_nop) else (bif Nat.beq pc 11 then (.aload_n 0, 0, 0, []) else am_nop)) else (bif Nat.beq pc 8 then (.if_icmp .eq 11, 0, 19, []) else am_nop)) else (bif Nat.ble 7 pc then (bif Nat.beq pc 7 then (.iconst (-1), (-1 : Int32), 0, []) else am_nop) else (bif Nat.beq pc 6 then (.iload_n 2, 0, 2, []) else am_nop))) else (bif Nat.ble 2 pc then (bif Nat.ble 5 pc then (bif Nat.beq pc 5 then (.istore_n 2, 0, 2, []) else am_nop) else (bif Nat.beq pc 2 then (.invokevirtual 64, 0, 0, []) else am_nop)) else (bif Nat.ble 1 pc then (bif Nat.beq pc 1 then (.iload_n 1, 0, 1, []) else am_nop) else (bif Nat.beq pc 0 then (.aload_n 0, 0, 0, []) else am_nop))))
def m_M_parts : MI := (k_M_parts, [], [(64, d_M_before 16), (82, d_M_becomes 16)], [], [], [], [], 3, 66, none, fun _ => 0, 1)
def v_M_parts (h : HP) (a1 : Int32) : HP := (if (v_M_before h a1) = (-1 : Int32) then (bnd (v_M_becomes h a1 6 (-1 : Int32)) fun y1 => y1) else (bnd (v_M_becomes h (v_M_before h a1) 6 (-1 : Int32)) fun y2 => (bnd (v_M_becomes y2 a1 6 (-1 : Int32)) fun y3 => y3)))
def p_M_parts (h : HP) (a1 : Int32) : Prop := ((p_M_before h a1) ∧ (((v_M_before h a1) = (-1 : Int32) → (p_M_becomes h a1 6 (-1 : Int32))) ∧ (¬ (v_M_before h a1) = (-1 : Int32) → ((p_M_becomes h (v_M_before h a1) 6 (-1 : Int32)) ∧ (∀ y2, v_M_becomes h (v_M_before h a1) 6 (-1 : Int32) = y2 → (p_M_becomes y2 a1 6 (-1 : Int32)))))))
def g_M_parts (_ _ : List Sh) (as : List Value) (h : HP) : GR := match as with
  | [.ref o1, .int a1] => (Nat.beq o1 0, p_M_parts h a1, none, none, v_M_parts h a1)
  | _ => bad h
def d_M_parts (k : Nat) : CD := (k, yX6_parts, cX6_parts, 3, none, 2, 3, 66, 0, false, true, g_M_parts)
theorem chk_M_parts : ∀ pc, am_chk cX6_parts k_M_parts pc = true := am_chkall 28 (by decide +kernel) (fun pc h => by unfold k_M_parts; rw [Nat.ble_eq_true_of_le h]; rfl)
theorem pf_M_parts : plainFor yX6_parts = true := by decide +kernel
theorem cu_M_parts : Cond.code yX6_parts cX6_parts 3 (none) ∈ am_U := am_tb 997 (by decide +kernel) rfl
set_option maxHeartbeats 20000000 in
set_option maxRecDepth 100000 in
theorem ev_M_parts {e1 ro : List Sh} {P : AR → HP → Prop} (h : HP) (a1 : Int32) (hp : p_M_parts h a1) (hP : ∀ q, v_M_parts h a1 = q → RVW P h q) : am_Ev m_M_parts (WM ++ e1) ro P (0, [.ref 0, .int a1, .retAddr 0], [], h) := by
  unfold p_M_parts at hp
  refine am_Ev_G [19] 400 _ ?_
  show ((p_M_before h a1) ∧ (((v_M_before h a1) = (-1 : Int32) → am_Ev m_M_parts (WM ++ e1) ro P (19, [.ref 0, .int a1, .int (v_M_before h a1)], [], h)) ∧ (¬ (v_M_before h a1) = (-1 : Int32) → ((p_M_becomes h (v_M_before h a1) 6 (-1 : Int32)) ∧ am_Ev m_M_parts (WM ++ e1) ro P (19, [.ref 0, .int a1, .int (v_M_before h a1)], [], (v_M_becomes h (v_M_before h a1) 6 (-1 : Int32)))))))
  obtain ⟨hob, hp⟩ := hp
  refine ⟨hob, ?_⟩
  refine ⟨fun c1 => ?_, fun c1 => ?_⟩
  · have hp := hp.1 c1
    refine am_Ev_G [27] 400 _ ?_
    show ((p_M_becomes h a1 6 (-1 : Int32)) ∧ am_Ev m_M_parts (WM ++ e1) ro P (27, [.ref 0, .int a1, .int (v_M_before h a1)], [], (v_M_becomes h a1 6 (-1 : Int32))))
    refine ⟨hp, ?_⟩
    obtain ⟨y1, c2⟩ : ∃ y, v_M_becomes h a1 6 (-1 : Int32) = y := ⟨_, rfl⟩
    rw [c2]
    show am_Ev m_M_parts (WM ++ e1) ro P (27, [.ref 0, .int a1, .int (v_M_before h a1)], [], y1)
    refine am_Ev_G [] 400 _ ?_
    show P (.inl none) y1
    exact hP y1 (by unfold v_M_parts; simp only [if_pos c1, bnd, c2])
  · have hp := hp.2 c1
    obtain ⟨hob, hp⟩ := hp
    refine ⟨hob, ?_⟩
    obtain ⟨y2, c3⟩ : ∃ y, v_M_becomes h (v_M_before h a1) 6 (-1 : Int32) = y := ⟨_, rfl⟩
    rw [c3]
    have hp := hp _ c3
    show am_Ev m_M_parts (WM ++ e1) ro P (19, [.ref 0, .int a1, .int (v_M_before h a1)], [], y2)
    refine am_Ev_G [27] 400 _ ?_
    show ((p_M_becomes y2 a1 6 (-1 : Int32)) ∧ am_Ev m_M_parts (WM ++ e1) ro P (27, [.ref 0, .int a1, .int (v_M_before h a1)], [], (v_M_becomes y2 a1 6 (-1 : Int32))))
    refine ⟨hp, ?_⟩
    obtain ⟨y3, c4⟩ : ∃ y, v_M_becomes y2 a1 6 (-1 : Int32) = y := ⟨_, rfl⟩
    rw [c4]
    show am_Ev m_M_parts (WM ++ e1) ro P (27, [.ref 0, .int a1, .int (v_M_before h a1)], [], y3)
    refine am_Ev_G [] 400 _ ?_
    show P (.inl none) y3
    exact hP y3 (by unfold v_M_parts; simp only [if_neg c1, bnd, c3, bnd, c4])
theorem ok_M_parts {l : Launch} (hl : l.stackTraces = false) (e1 ro : List Sh) (k : Nat) : am_Ok l (WM ++ e1) ro (d_M_parts k) := by
  refine am_met hl (own := RX6) (M := m_M_parts) rfl pf_M_parts cu_M_parts rfl rfl rfl rfl (fun _ => rfl) rfl ⟨chk_M_parts, (am_n), (am_c (lk_M_64) (am_c (lk_M_82) am_n)), (am_n), (am_n)⟩ (am_n) (am_c (ok_M_before hl e1 _ 16) (am_c (ok_M_becomes hl e1 _ 16) am_n)) (fun z => nomatch z) ?_ ?_
  · intro _ as h hg
    show g_thr (g_M_parts (WM ++ e1) ro as h) = none
    unfold g_M_parts
    split <;> rfl
  · intro as h hg hp
    revert hg hp
    show g_ok (g_M_parts (WM ++ e1) ro as h) = true → g_pre (g_M_parts (WM ++ e1) ro as h) → _ ∧ am_Ev m_M_parts (WM ++ e1) ro (am_eq (g_M_parts (WM ++ e1) ro as h)) (0, am_ent as 3, [], h)
    unfold g_M_parts
    split
    · rename_i o1 a1
      intro hc hp
      change (Nat.beq o1 0) = true at hc
      obtain rfl := am_beq hc
      exact ⟨Nat.le_of_ble_eq_true rfl, ev_M_parts h a1 hp eqRVW⟩
    · exact fun z => nomatch z
